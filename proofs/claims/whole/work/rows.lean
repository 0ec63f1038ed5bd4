section
-- ===== PART A: goes FIRST, ahead of the names: the tables' words, and 'selects' of the private methods out of them =====
/-- a private method of a class that the tables say can be made, by its rows of tables_1 -/
def lw_okq (q : MethodName × Nat) : Prop := (q.1.cls ≠ "java/lang/invoke/MethodHandle" ∧ q.1.cls ≠ "java/lang/invoke/VarHandle") ∧ Cond.instantiable q.1.cls q.2 ∈ tables_1 ∧ Cond.privateMethod q.1 ∈ tables_1 ∧ Cond.instanceMethod q.1 ∈ tables_1
theorem lw_p0 : lw_okq (⟨"MeterSeals", "find", "(I)LMeterSeals$Meter;"⟩, 2) := ⟨⟨by decide +kernel, by decide +kernel⟩, List.mem_of_getElem? (i := 13) (by decide +kernel), List.mem_of_getElem? (i := 111) (by decide +kernel), List.mem_of_getElem? (i := 112) (by decide +kernel)⟩
theorem lw_p1 : lw_okq (⟨"MeterSeals$Rows", "dueSum", "(I)J"⟩, 7) := ⟨⟨by decide +kernel, by decide +kernel⟩, List.mem_of_getElem? (i := 61) (by decide +kernel), List.mem_of_getElem? (i := 130) (by decide +kernel), List.mem_of_getElem? (i := 131) (by decide +kernel)⟩
theorem lw_p2 : lw_okq (⟨"MeterSeals$Table", "placeFor", "(I)I"⟩, 4) := ⟨⟨by decide +kernel, by decide +kernel⟩, List.mem_of_getElem? (i := 39) (by decide +kernel), List.mem_of_getElem? (i := 155) (by decide +kernel), List.mem_of_getElem? (i := 156) (by decide +kernel)⟩
theorem lw_p3 : lw_okq (⟨"MeterSeals$Meter", "litresAbove", "(I)J"⟩, 4) := ⟨⟨by decide +kernel, by decide +kernel⟩, List.mem_of_getElem? (i := 33) (by decide +kernel), List.mem_of_getElem? (i := 240) (by decide +kernel), List.mem_of_getElem? (i := 241) (by decide +kernel)⟩
theorem lw_p4 : lw_okq (⟨"MeterSeals$Table", "lineAt", "(I)I"⟩, 4) := ⟨⟨by decide +kernel, by decide +kernel⟩, List.mem_of_getElem? (i := 39) (by decide +kernel), List.mem_of_getElem? (i := 253) (by decide +kernel), List.mem_of_getElem? (i := 254) (by decide +kernel)⟩
theorem lw_p5 : lw_okq (⟨"MeterSeals$Meter", "litresBelow", "(I)J"⟩, 4) := ⟨⟨by decide +kernel, by decide +kernel⟩, List.mem_of_getElem? (i := 33) (by decide +kernel), List.mem_of_getElem? (i := 261) (by decide +kernel), List.mem_of_getElem? (i := 262) (by decide +kernel)⟩
theorem lw_p6 : lw_okq (⟨"MeterSeals$Rows", "lineLength", "(I)I"⟩, 7) := ⟨⟨by decide +kernel, by decide +kernel⟩, List.mem_of_getElem? (i := 61) (by decide +kernel), List.mem_of_getElem? (i := 291) (by decide +kernel), List.mem_of_getElem? (i := 292) (by decide +kernel)⟩
theorem lw_p7 : lw_okq (⟨"MeterSeals$Rows", "fieldCount", "(I)I"⟩, 7) := ⟨⟨by decide +kernel, by decide +kernel⟩, List.mem_of_getElem? (i := 61) (by decide +kernel), List.mem_of_getElem? (i := 295) (by decide +kernel), List.mem_of_getElem? (i := 296) (by decide +kernel)⟩
theorem lw_p8 : lw_okq (⟨"MeterSeals$Rows", "fieldOf", "(II)J"⟩, 7) := ⟨⟨by decide +kernel, by decide +kernel⟩, List.mem_of_getElem? (i := 61) (by decide +kernel), List.mem_of_getElem? (i := 299) (by decide +kernel), List.mem_of_getElem? (i := 300) (by decide +kernel)⟩
theorem lw_p9 : lw_okq (⟨"MeterSeals$Rows", "lineByte", "(II)I"⟩, 7) := ⟨⟨by decide +kernel, by decide +kernel⟩, List.mem_of_getElem? (i := 61) (by decide +kernel), List.mem_of_getElem? (i := 308) (by decide +kernel), List.mem_of_getElem? (i := 309) (by decide +kernel)⟩
theorem lw_p10 : lw_okq (⟨"MeterSeals$Rows", "letterOf", "(I)C"⟩, 7) := ⟨⟨by decide +kernel, by decide +kernel⟩, List.mem_of_getElem? (i := 61) (by decide +kernel), List.mem_of_getElem? (i := 312) (by decide +kernel), List.mem_of_getElem? (i := 313) (by decide +kernel)⟩
theorem lw_p11 : lw_okq (⟨"java/lang/Throwable", "fillInStackTrace", "(I)Ljava/lang/Throwable;"⟩, 6) := ⟨⟨by decide +kernel, by decide +kernel⟩, List.mem_of_getElem? (i := 372) (by decide +kernel), List.mem_of_getElem? (i := 370) (by decide +kernel), List.mem_of_getElem? (i := 371) (by decide +kernel)⟩
theorem lw_p12 : lw_okq (⟨"MeterSealsModel", "isMeter", "(I)Z"⟩, 15) := ⟨⟨by decide +kernel, by decide +kernel⟩, List.mem_of_getElem? (i := 412) (by decide +kernel), List.mem_of_getElem? (i := 476) (by decide +kernel), List.mem_of_getElem? (i := 477) (by decide +kernel)⟩
theorem lw_p13 : lw_okq (⟨"MeterSealsModel", "add", "(IIJJI)V"⟩, 15) := ⟨⟨by decide +kernel, by decide +kernel⟩, List.mem_of_getElem? (i := 412) (by decide +kernel), List.mem_of_getElem? (i := 482) (by decide +kernel), List.mem_of_getElem? (i := 483) (by decide +kernel)⟩
theorem lw_p14 : lw_okq (⟨"MeterSealsModel", "due", "(II)J"⟩, 15) := ⟨⟨by decide +kernel, by decide +kernel⟩, List.mem_of_getElem? (i := 412) (by decide +kernel), List.mem_of_getElem? (i := 486) (by decide +kernel), List.mem_of_getElem? (i := 487) (by decide +kernel)⟩
theorem lw_p15 : lw_okq (⟨"MeterSealsModel", "isSet", "(II)Z"⟩, 15) := ⟨⟨by decide +kernel, by decide +kernel⟩, List.mem_of_getElem? (i := 412) (by decide +kernel), List.mem_of_getElem? (i := 503) (by decide +kernel), List.mem_of_getElem? (i := 504) (by decide +kernel)⟩
def lw_privs_1 : List (MethodName × Nat) := [(⟨"MeterSeals", "find", "(I)LMeterSeals$Meter;"⟩, 2), (⟨"MeterSeals$Rows", "dueSum", "(I)J"⟩, 7), (⟨"MeterSeals$Table", "placeFor", "(I)I"⟩, 4), (⟨"MeterSeals$Meter", "litresAbove", "(I)J"⟩, 4), (⟨"MeterSeals$Table", "lineAt", "(I)I"⟩, 4), (⟨"MeterSeals$Meter", "litresBelow", "(I)J"⟩, 4), (⟨"MeterSeals$Rows", "lineLength", "(I)I"⟩, 7), (⟨"MeterSeals$Rows", "fieldCount", "(I)I"⟩, 7), (⟨"MeterSeals$Rows", "fieldOf", "(II)J"⟩, 7), (⟨"MeterSeals$Rows", "lineByte", "(II)I"⟩, 7), (⟨"MeterSeals$Rows", "letterOf", "(I)C"⟩, 7), (⟨"java/lang/Throwable", "fillInStackTrace", "(I)Ljava/lang/Throwable;"⟩, 6), (⟨"MeterSealsModel", "isMeter", "(I)Z"⟩, 15), (⟨"MeterSealsModel", "add", "(IIJJI)V"⟩, 15), (⟨"MeterSealsModel", "due", "(II)J"⟩, 15), (⟨"MeterSealsModel", "isSet", "(II)Z"⟩, 15)]
theorem lw_r1 : ∀ q ∈ lw_privs_1, lw_okq q := List.forall_mem_cons.mpr ⟨lw_p0, List.forall_mem_cons.mpr ⟨lw_p1, List.forall_mem_cons.mpr ⟨lw_p2, List.forall_mem_cons.mpr ⟨lw_p3, List.forall_mem_cons.mpr ⟨lw_p4, List.forall_mem_cons.mpr ⟨lw_p5, List.forall_mem_cons.mpr ⟨lw_p6, List.forall_mem_cons.mpr ⟨lw_p7, List.forall_mem_cons.mpr ⟨lw_p8, List.forall_mem_cons.mpr ⟨lw_p9, List.forall_mem_cons.mpr ⟨lw_p10, List.forall_mem_cons.mpr ⟨lw_p11, List.forall_mem_cons.mpr ⟨lw_p12, List.forall_mem_cons.mpr ⟨lw_p13, List.forall_mem_cons.mpr ⟨lw_p14, List.forall_mem_cons.mpr ⟨lw_p15, fun _ h => absurd h List.not_mem_nil⟩⟩⟩⟩⟩⟩⟩⟩⟩⟩⟩⟩⟩⟩⟩⟩
theorem lw_p16 : lw_okq (⟨"MeterSealsModel", "isRow", "(II)Z"⟩, 15) := ⟨⟨by decide +kernel, by decide +kernel⟩, List.mem_of_getElem? (i := 412) (by decide +kernel), List.mem_of_getElem? (i := 517) (by decide +kernel), List.mem_of_getElem? (i := 518) (by decide +kernel)⟩
theorem lw_p17 : lw_okq (⟨"MeterSealsModel", "line", "(II)I"⟩, 15) := ⟨⟨by decide +kernel, by decide +kernel⟩, List.mem_of_getElem? (i := 412) (by decide +kernel), List.mem_of_getElem? (i := 521) (by decide +kernel), List.mem_of_getElem? (i := 522) (by decide +kernel)⟩
theorem lw_p18 : lw_okq (⟨"MeterSealsModel", "isMarked", "(II)Z"⟩, 15) := ⟨⟨by decide +kernel, by decide +kernel⟩, List.mem_of_getElem? (i := 412) (by decide +kernel), List.mem_of_getElem? (i := 552) (by decide +kernel), List.mem_of_getElem? (i := 553) (by decide +kernel)⟩
theorem lw_p19 : lw_okq (⟨"MeterSealsModel", "print", "(II)V"⟩, 15) := ⟨⟨by decide +kernel, by decide +kernel⟩, List.mem_of_getElem? (i := 412) (by decide +kernel), List.mem_of_getElem? (i := 567) (by decide +kernel), List.mem_of_getElem? (i := 568) (by decide +kernel)⟩
theorem lw_p20 : lw_okq (⟨"MeterSealsModel", "put", "(I)V"⟩, 15) := ⟨⟨by decide +kernel, by decide +kernel⟩, List.mem_of_getElem? (i := 412) (by decide +kernel), List.mem_of_getElem? (i := 571) (by decide +kernel), List.mem_of_getElem? (i := 572) (by decide +kernel)⟩
theorem lw_p21 : lw_okq (⟨"MeterSealsModel", "say", "(J)V"⟩, 15) := ⟨⟨by decide +kernel, by decide +kernel⟩, List.mem_of_getElem? (i := 412) (by decide +kernel), List.mem_of_getElem? (i := 575) (by decide +kernel), List.mem_of_getElem? (i := 576) (by decide +kernel)⟩
def lw_privs_2 : List (MethodName × Nat) := [(⟨"MeterSealsModel", "isRow", "(II)Z"⟩, 15), (⟨"MeterSealsModel", "line", "(II)I"⟩, 15), (⟨"MeterSealsModel", "isMarked", "(II)Z"⟩, 15), (⟨"MeterSealsModel", "print", "(II)V"⟩, 15), (⟨"MeterSealsModel", "put", "(I)V"⟩, 15), (⟨"MeterSealsModel", "say", "(J)V"⟩, 15)]
theorem lw_r2 : ∀ q ∈ lw_privs_2, lw_okq q := List.forall_mem_cons.mpr ⟨lw_p16, List.forall_mem_cons.mpr ⟨lw_p17, List.forall_mem_cons.mpr ⟨lw_p18, List.forall_mem_cons.mpr ⟨lw_p19, List.forall_mem_cons.mpr ⟨lw_p20, List.forall_mem_cons.mpr ⟨lw_p21, fun _ h => absurd h List.not_mem_nil⟩⟩⟩⟩⟩⟩
def lw_privs : List (MethodName × Nat) := lw_privs_1 ++ (lw_privs_2)
def lw_tbl : List Cond := k2_sels lw_privs ++ tables_1
theorem lw_privs_ok : ∀ q ∈ lw_privs, lw_okq q := by
  show ∀ q ∈ lw_privs_1 ++ (lw_privs_2), lw_okq q
  exact List.forall_mem_append.mpr ⟨lw_r1, lw_r2⟩
-- ===== end of PART A; then your names; then what follows =====
end
section
/-! ===== BEGIN words of one list among another's, by their places ===== -/
theorem goodIn_r {big : List Cond} (ws : List Cond) (ps : List Nat) (hp : ws = ps.filterMap (fun i => big[i]?)) (h : ws.all goodWord = true) : GoodIn big ws := by
  intro w hw
  have h1 := List.all_eq_true.mp h w hw
  rw [hp] at hw
  obtain ⟨i, -, hi⟩ := List.mem_filterMap.mp hw
  have hm : w ∈ big := by first | exact List.mem_of_getElem? hi | exact List.getElem?_mem hi
  exact ⟨hm, good_of_word h1⟩
theorem goodIn_app {big a b : List Cond} (ha : GoodIn big a) (hb : GoodIn big b) : GoodIn big (a ++ b) := fun w h => (List.mem_append.mp h).elim (ha w) (hb w)
theorem goodIn_ca {big a b : List Cond} {c : Cond} (ha : GoodIn big (c :: a)) (hb : GoodIn big b) : GoodIn big (c :: (a ++ b)) := fun w h => (List.mem_cons.mp h).elim (fun e => ha w (List.mem_cons.mpr (Or.inl e))) (fun h => (List.mem_append.mp h).elim (fun h => ha w (List.mem_cons.mpr (Or.inr h))) (hb w))
theorem goodIn_sub {big ws : List Cond} (hm : ∀ w ∈ ws, w ∈ big) (h : ws.all goodWord = true) : GoodIn big ws := fun w hw => ⟨hm w hw, good_of_word (List.all_eq_true.mp h w hw)⟩
/-! ===== END ===== -/

/-! ===== BEGIN printed: names, fields, word lists, decode rows ===== -/
def RX0 : String := "MeterSeals$Meter"
def TX0 : u_T := fun k => match k with
  | 0 => ("MeterSeals$Meter", "table", "LMeterSeals$Table;", true)
  | 1 => ("MeterSeals$Meter", "rows", "LMeterSeals$Rows;", true)
  | 2 => ("MeterSeals$Meter", "sealed", "Z", false)
  | _ => ("MeterSeals$Meter", "lastSecond", "J", false)
def tyX0 : Nat → FieldType := fun k => match k with
  | 0 => .object "MeterSeals$Table"
  | 1 => .object "MeterSeals$Rows"
  | 2 => .boolean
  | _ => .long
abbrev wsX00 : List Cond := u_ws RX0 TX0 4
theorem nmX0 : ∀ a, a < 4 → ∀ b, b < 4 → a ≠ b → (TX0 a).2.1 ≠ (TX0 b).2.1 := by decide +kernel
theorem tyX0_ok : ∀ k, k < 4 → parseFieldDescriptor (TX0 k).2.2.1 = some (tyX0 k) := by decide +kernel
abbrev cX0_init : ByteArray := prog_2_method_1_code
def yX0_init : MethodName := ⟨RX0, "<init>", "(J)V"⟩
abbrev cX0_addReading : ByteArray := prog_2_method_2_code
def yX0_addReading : MethodName := ⟨RX0, "addReading", "(JJI)Z"⟩
abbrev cX0_addReset : ByteArray := prog_2_method_3_code
def yX0_addReset : MethodName := ⟨RX0, "addReset", "(J)Z"⟩
abbrev cX0_turnSeal : ByteArray := prog_2_method_4_code
def yX0_turnSeal : MethodName := ⟨RX0, "turnSeal", "(IZ)Z"⟩
abbrev cX0_fractionPart : ByteArray := prog_2_method_5_code
def yX0_fractionPart : MethodName := ⟨RX0, "fractionPart", "(II)J"⟩
abbrev cX0_allThousandths : ByteArray := prog_2_method_6_code
def yX0_allThousandths : MethodName := ⟨RX0, "allThousandths", "()J"⟩
abbrev cX0_litresAbove : ByteArray := prog_2_method_7_code
def yX0_litresAbove : MethodName := ⟨RX0, "litresAbove", "(I)J"⟩
abbrev cX0_litresBelow : ByteArray := prog_2_method_8_code
def yX0_litresBelow : MethodName := ⟨RX0, "litresBelow", "(I)J"⟩
def RX1 : String := "MeterSeals$Rows"
def TX1 : u_T := fun k => match k with
  | 0 => ("MeterSeals$Rows", "key", "J", true)
  | 1 => ("MeterSeals$Rows", "numbers", "[J", true)
  | 2 => ("MeterSeals$Rows", "stamps", "[J", true)
  | 3 => ("MeterSeals$Rows", "degrees", "[I", true)
  | 4 => ("MeterSeals$Rows", "sums", "[J", true)
  | 5 => ("MeterSeals$Rows", "marks", "[Z", true)
  | _ => ("MeterSeals$Rows", "count", "I", false)
def tyX1 : Nat → FieldType := fun k => match k with
  | 0 => .long
  | 1 => .array .long
  | 2 => .array .long
  | 3 => .array .int
  | 4 => .array .long
  | 5 => .array .boolean
  | _ => .int
abbrev wsX10 : List Cond := u_ws RX1 TX1 7
theorem nmX1 : ∀ a, a < 7 → ∀ b, b < 7 → a ≠ b → (TX1 a).2.1 ≠ (TX1 b).2.1 := by decide +kernel
theorem tyX1_ok : ∀ k, k < 7 → parseFieldDescriptor (TX1 k).2.2.1 = some (tyX1 k) := by decide +kernel
abbrev cX1_init : ByteArray := prog_3_method_1_code
def yX1_init : MethodName := ⟨RX1, "<init>", "(J)V"⟩
abbrev cX1_add : ByteArray := prog_3_method_2_code
def yX1_add : MethodName := ⟨RX1, "add", "(JJIZ)Z"⟩
abbrev cX1_holds : ByteArray := prog_3_method_3_code
def yX1_holds : MethodName := ⟨RX1, "holds", "(I)Z"⟩
abbrev cX1_isReading : ByteArray := prog_3_method_4_code
def yX1_isReading : MethodName := ⟨RX1, "isReading", "(I)Z"⟩
abbrev cX1_hasMark : ByteArray := prog_3_method_5_code
def yX1_hasMark : MethodName := ⟨RX1, "hasMark", "(I)Z"⟩
abbrev cX1_pulsesOf : ByteArray := prog_3_method_6_code
def yX1_pulsesOf : MethodName := ⟨RX1, "pulsesOf", "(I)J"⟩
abbrev cX1_degreesOf : ByteArray := prog_3_method_7_code
def yX1_degreesOf : MethodName := ⟨RX1, "degreesOf", "(I)I"⟩
abbrev cX1_addPulses : ByteArray := prog_3_method_8_code
def yX1_addPulses : MethodName := ⟨RX1, "addPulses", "(IJ)Z"⟩
abbrev cX1_firstWrong : ByteArray := prog_3_method_9_code
def yX1_firstWrong : MethodName := ⟨RX1, "firstWrong", "(I)I"⟩
abbrev cX1_dueSum : ByteArray := prog_3_method_10_code
def yX1_dueSum : MethodName := ⟨RX1, "dueSum", "(I)J"⟩
abbrev cX1_stir : ByteArray := prog_3_method_11_code
def yX1_stir : MethodName := ⟨RX1, "stir", "(JJ)J"⟩
abbrev cX1_findGap : ByteArray := prog_3_method_12_code
def yX1_findGap : MethodName := ⟨RX1, "findGap", "(II)I"⟩
abbrev cX1_wholeMinutes : ByteArray := prog_3_method_13_code
def yX1_wholeMinutes : MethodName := ⟨RX1, "wholeMinutes", "(J)I"⟩
abbrev cX1_rollByte : ByteArray := prog_3_method_14_code
def yX1_rollByte : MethodName := ⟨RX1, "rollByte", "(I)I"⟩
abbrev cX1_lineLength : ByteArray := prog_3_method_15_code
def yX1_lineLength : MethodName := ⟨RX1, "lineLength", "(I)I"⟩
abbrev cX1_lineByte : ByteArray := prog_3_method_16_code
def yX1_lineByte : MethodName := ⟨RX1, "lineByte", "(II)I"⟩
abbrev cX1_letterOf : ByteArray := prog_3_method_17_code
def yX1_letterOf : MethodName := ⟨RX1, "letterOf", "(I)C"⟩
abbrev cX1_fieldCount : ByteArray := prog_3_method_18_code
def yX1_fieldCount : MethodName := ⟨RX1, "fieldCount", "(I)I"⟩
abbrev cX1_fieldOf : ByteArray := prog_3_method_19_code
def yX1_fieldOf : MethodName := ⟨RX1, "fieldOf", "(II)J"⟩
def RX2 : String := "MeterSeals$Table"
def TX2 : u_T := fun k => match k with
  | 0 => ("MeterSeals$Table", "starts", "[I", true)
  | 1 => ("MeterSeals$Table", "aboves", "[J", true)
  | 2 => ("MeterSeals$Table", "belows", "[J", true)
  | _ => ("MeterSeals$Table", "count", "I", false)
def tyX2 : Nat → FieldType := fun k => match k with
  | 0 => .array .int
  | 1 => .array .long
  | 2 => .array .long
  | _ => .int
abbrev wsX20 : List Cond := u_ws RX2 TX2 4
theorem nmX2 : ∀ a, a < 4 → ∀ b, b < 4 → a ≠ b → (TX2 a).2.1 ≠ (TX2 b).2.1 := by decide +kernel
theorem tyX2_ok : ∀ k, k < 4 → parseFieldDescriptor (TX2 k).2.2.1 = some (tyX2 k) := by decide +kernel
abbrev cX2_init : ByteArray := prog_4_method_1_code
def yX2_init : MethodName := ⟨RX2, "<init>", "()V"⟩
abbrev cX2_put : ByteArray := prog_4_method_2_code
def yX2_put : MethodName := ⟨RX2, "put", "(IJJ)Z"⟩
abbrev cX2_aboveAt : ByteArray := prog_4_method_3_code
def yX2_aboveAt : MethodName := ⟨RX2, "aboveAt", "(I)J"⟩
abbrev cX2_belowAt : ByteArray := prog_4_method_4_code
def yX2_belowAt : MethodName := ⟨RX2, "belowAt", "(I)J"⟩
abbrev cX2_placeFor : ByteArray := prog_4_method_5_code
def yX2_placeFor : MethodName := ⟨RX2, "placeFor", "(I)I"⟩
abbrev cX2_lineAt : ByteArray := prog_4_method_6_code
def yX2_lineAt : MethodName := ⟨RX2, "lineAt", "(I)I"⟩
abbrev cX2_goesBefore : ByteArray := prog_4_method_7_code
def yX2_goesBefore : MethodName := ⟨RX2, "goesBefore", "(III)Z"⟩
def RX3 : String := "MeterSeals"
def TX3 : u_T := fun k => match k with
  | 0 => ("MeterSeals", "meters", "[LMeterSeals$Meter;", true)
  | _ => ("MeterSeals", "meterCount", "I", false)
def tyX3 : Nat → FieldType := fun k => match k with
  | 0 => .array (.object "MeterSeals$Meter")
  | _ => .int
abbrev wsX30 : List Cond := u_ws RX3 TX3 2
theorem nmX3 : ∀ a, a < 2 → ∀ b, b < 2 → a ≠ b → (TX3 a).2.1 ≠ (TX3 b).2.1 := by decide +kernel
theorem tyX3_ok : ∀ k, k < 2 → parseFieldDescriptor (TX3 k).2.2.1 = some (tyX3 k) := by decide +kernel
abbrev cX3_init : ByteArray := prog_1_method_1_code
def yX3_init : MethodName := ⟨RX3, "<init>", "()V"⟩
abbrev cX3_meter : ByteArray := prog_1_method_2_code
def yX3_meter : MethodName := ⟨RX3, "meter", "(J)I"⟩
abbrev cX3_pulses : ByteArray := prog_1_method_3_code
def yX3_pulses : MethodName := ⟨RX3, "pulses", "(IJJI)Z"⟩
abbrev cX3_row : ByteArray := prog_1_method_4_code
def yX3_row : MethodName := ⟨RX3, "row", "(IIJJ)Z"⟩
abbrev cX3_litres : ByteArray := prog_1_method_5_code
def yX3_litres : MethodName := ⟨RX3, "litres", "(III)J"⟩
abbrev cX3_rows : ByteArray := prog_1_method_6_code
def yX3_rows : MethodName := ⟨RX3, "rows", "(I)I"⟩
abbrev cX3_check : ByteArray := prog_1_method_7_code
def yX3_check : MethodName := ⟨RX3, "check", "(II)I"⟩
abbrev cX3_poke : ByteArray := prog_1_method_8_code
def yX3_poke : MethodName := ⟨RX3, "poke", "(IIJ)Z"⟩
abbrev cX3_seal : ByteArray := prog_1_method_9_code
def yX3_seal : MethodName := ⟨RX3, "seal", "(IIZ)Z"⟩
abbrev cX3_marked : ByteArray := prog_1_method_10_code
def yX3_marked : MethodName := ⟨RX3, "marked", "(II)Z"⟩
abbrev cX3_gap : ByteArray := prog_1_method_11_code
def yX3_gap : MethodName := ⟨RX3, "gap", "(III)I"⟩
abbrev cX3_rest : ByteArray := prog_1_method_12_code
def yX3_rest : MethodName := ⟨RX3, "rest", "(IJ)J"⟩
abbrev cX3_reset : ByteArray := prog_1_method_13_code
def yX3_reset : MethodName := ⟨RX3, "reset", "(IJ)Z"⟩
abbrev cX3_roll : ByteArray := prog_1_method_14_code
def yX3_roll : MethodName := ⟨RX3, "roll", "(II)I"⟩
abbrev cX3_find : ByteArray := prog_1_method_15_code
def yX3_find : MethodName := ⟨RX3, "find", "(I)LMeterSeals$Meter;"⟩
abbrev cX3_within : ByteArray := prog_1_method_16_code
def yX3_within : MethodName := ⟨RX3, "within", "(JJJ)Z"⟩
abbrev cX3_quotient : ByteArray := prog_1_method_17_code
def yX3_quotient : MethodName := ⟨RX3, "quotient", "(JJ)J"⟩
abbrev cX3_commonDivisor : ByteArray := prog_1_method_18_code
def yX3_commonDivisor : MethodName := ⟨RX3, "commonDivisor", "(JJ)J"⟩
abbrev cX3_textLength : ByteArray := prog_1_method_19_code
def yX3_textLength : MethodName := ⟨RX3, "textLength", "(J)I"⟩
abbrev cX3_textByte : ByteArray := prog_1_method_20_code
def yX3_textByte : MethodName := ⟨RX3, "textByte", "(JI)I"⟩
def RX4 : String := "MeterSealsModel"
def TX4 : u_T := fun k => match k with
  | 0 => ("MeterSealsModel", "keys", "[J", true)
  | 1 => ("MeterSealsModel", "rows", "[I", true)
  | 2 => ("MeterSealsModel", "lines", "[I", true)
  | 3 => ("MeterSealsModel", "meters", "I", false)
  | 4 => ("MeterSealsModel", "kind", "[I", true)
  | 5 => ("MeterSealsModel", "number", "[J", true)
  | 6 => ("MeterSealsModel", "second", "[J", true)
  | 7 => ("MeterSealsModel", "warm", "[I", true)
  | 8 => ("MeterSealsModel", "sum", "[J", true)
  | 9 => ("MeterSealsModel", "lineDegrees", "[I", true)
  | 10 => ("MeterSealsModel", "lineAbove", "[J", true)
  | 11 => ("MeterSealsModel", "lineBelow", "[J", true)
  | 12 => ("MeterSealsModel", "text", "[I", true)
  | 13 => ("MeterSealsModel", "length", "I", false)
  | _ => ("MeterSealsModel", "thrown", "I", false)
def tyX4 : Nat → FieldType := fun k => match k with
  | 0 => .array .long
  | 1 => .array .int
  | 2 => .array .int
  | 3 => .int
  | 4 => .array .int
  | 5 => .array .long
  | 6 => .array .long
  | 7 => .array .int
  | 8 => .array .long
  | 9 => .array .int
  | 10 => .array .long
  | 11 => .array .long
  | 12 => .array .int
  | 13 => .int
  | _ => .int
abbrev wsX40 : List Cond := u_ws RX4 TX4 15
theorem nmX4 : ∀ a, a < 15 → ∀ b, b < 15 → a ≠ b → (TX4 a).2.1 ≠ (TX4 b).2.1 := by decide +kernel
theorem tyX4_ok : ∀ k, k < 15 → parseFieldDescriptor (TX4 k).2.2.1 = some (tyX4 k) := by decide +kernel
abbrev cX4_init : ByteArray := prog_6_method_1_code
def yX4_init : MethodName := ⟨RX4, "<init>", "()V"⟩
abbrev cX4_thrown : ByteArray := prog_6_method_2_code
def yX4_thrown : MethodName := ⟨RX4, "thrown", "()I"⟩
abbrev cX4_isMeter : ByteArray := prog_6_method_3_code
def yX4_isMeter : MethodName := ⟨RX4, "isMeter", "(I)Z"⟩
abbrev cX4_isRow : ByteArray := prog_6_method_4_code
def yX4_isRow : MethodName := ⟨RX4, "isRow", "(II)Z"⟩
abbrev cX4_meter : ByteArray := prog_6_method_5_code
def yX4_meter : MethodName := ⟨RX4, "meter", "(J)I"⟩
abbrev cX4_mixed : ByteArray := prog_6_method_6_code
def yX4_mixed : MethodName := ⟨RX4, "mixed", "(JJ)J"⟩
abbrev cX4_due : ByteArray := prog_6_method_7_code
def yX4_due : MethodName := ⟨RX4, "due", "(II)J"⟩
abbrev cX4_add : ByteArray := prog_6_method_8_code
def yX4_add : MethodName := ⟨RX4, "add", "(IIJJI)V"⟩
abbrev cX4_pulses : ByteArray := prog_6_method_9_code
def yX4_pulses : MethodName := ⟨RX4, "pulses", "(IJJI)Z"⟩
abbrev cX4_reset : ByteArray := prog_6_method_10_code
def yX4_reset : MethodName := ⟨RX4, "reset", "(IJ)Z"⟩
abbrev cX4_isSet : ByteArray := prog_6_method_11_code
def yX4_isSet : MethodName := ⟨RX4, "isSet", "(II)Z"⟩
abbrev cX4_seal : ByteArray := prog_6_method_12_code
def yX4_seal : MethodName := ⟨RX4, "seal", "(IIZ)Z"⟩
abbrev cX4_row : ByteArray := prog_6_method_13_code
def yX4_row : MethodName := ⟨RX4, "row", "(IIJJ)Z"⟩
abbrev cX4_line : ByteArray := prog_6_method_14_code
def yX4_line : MethodName := ⟨RX4, "line", "(II)I"⟩
abbrev cX4_divisor : ByteArray := prog_6_method_15_code
def yX4_divisor : MethodName := ⟨RX4, "divisor", "(JJ)J"⟩
abbrev cX4_litres : ByteArray := prog_6_method_16_code
def yX4_litres : MethodName := ⟨RX4, "litres", "(III)J"⟩
abbrev cX4_rest : ByteArray := prog_6_method_17_code
def yX4_rest : MethodName := ⟨RX4, "rest", "(IJ)J"⟩
abbrev cX4_rows : ByteArray := prog_6_method_18_code
def yX4_rows : MethodName := ⟨RX4, "rows", "(I)I"⟩
abbrev cX4_check : ByteArray := prog_6_method_19_code
def yX4_check : MethodName := ⟨RX4, "check", "(II)I"⟩
abbrev cX4_poke : ByteArray := prog_6_method_20_code
def yX4_poke : MethodName := ⟨RX4, "poke", "(IIJ)Z"⟩
abbrev cX4_isMarked : ByteArray := prog_6_method_21_code
def yX4_isMarked : MethodName := ⟨RX4, "isMarked", "(II)Z"⟩
abbrev cX4_marked : ByteArray := prog_6_method_22_code
def yX4_marked : MethodName := ⟨RX4, "marked", "(II)Z"⟩
abbrev cX4_gap : ByteArray := prog_6_method_23_code
def yX4_gap : MethodName := ⟨RX4, "gap", "(III)I"⟩
abbrev cX4_put : ByteArray := prog_6_method_24_code
def yX4_put : MethodName := ⟨RX4, "put", "(I)V"⟩
abbrev cX4_say : ByteArray := prog_6_method_25_code
def yX4_say : MethodName := ⟨RX4, "say", "(J)V"⟩
abbrev cX4_print : ByteArray := prog_6_method_26_code
def yX4_print : MethodName := ⟨RX4, "print", "(II)V"⟩
abbrev cX4_roll : ByteArray := prog_6_method_27_code
def yX4_roll : MethodName := ⟨RX4, "roll", "(II)I"⟩
def RJx00060 : String := "java/lang/ArrayIndexOutOfBoundsException"
def TJx00060 : u_T := fun k => match k with
  | 0 => ("java/lang/Throwable", "cause", "Ljava/lang/Throwable;", false)
  | 1 => ("java/lang/Throwable", "stackTrace", "[Ljava/lang/StackTraceElement;", false)
  | 2 => ("java/lang/Throwable", "suppressedExceptions", "Ljava/util/List;", false)
  | 3 => ("java/lang/Throwable", "detailMessage", "Ljava/lang/String;", false)
  | 4 => ("java/lang/Throwable", "backtrace", "Ljava/lang/Object;", false)
  | _ => ("java/lang/Throwable", "depth", "I", false)
def tyJx00060 : Nat → FieldType := fun k => match k with
  | 0 => .object "java/lang/Throwable"
  | 1 => .array (.object "java/lang/StackTraceElement")
  | 2 => .object "java/util/List"
  | 3 => .object "java/lang/String"
  | 4 => .object "java/lang/Object"
  | _ => .int
abbrev wsJx000600 : List Cond := u_ws RJx00060 TJx00060 6
theorem nmJx00060 : ∀ a, a < 6 → ∀ b, b < 6 → a ≠ b → (TJx00060 a).2.1 ≠ (TJx00060 b).2.1 := by decide +kernel
theorem tyJx00060_ok : ∀ k, k < 6 → parseFieldDescriptor (TJx00060 k).2.2.1 = some (tyJx00060 k) := by decide +kernel
abbrev cJx00060_init_a7421 : ByteArray := prog_7_method_2_code
def yJx00060_init_a7421 : MethodName := ⟨RJx00060, "<init>", "(Ljava/lang/String;)V"⟩
def RJ9 : String := "java/lang/Math"
def TJ9 : u_T := fun k => match k with
  | _ => ("", "", "", false)
def tyJ9 : Nat → FieldType := fun k => match k with
  | _ => .int
abbrev wsJ90 : List Cond := u_ws RJ9 TJ9 0
theorem nmJ9 : ∀ a, a < 0 → ∀ b, b < 0 → a ≠ b → (TJ9 a).2.1 ≠ (TJ9 b).2.1 := by decide +kernel
theorem tyJ9_ok : ∀ k, k < 0 → parseFieldDescriptor (TJ9 k).2.2.1 = some (tyJ9 k) := by decide +kernel
abbrev cJ9_abs_067f4 : ByteArray := prog_10_method_61_code
def yJ9_abs_067f4 : MethodName := ⟨RJ9, "abs", "(J)J"⟩
abbrev cJ9_max_7cf53 : ByteArray := prog_10_method_65_code
def yJ9_max_7cf53 : MethodName := ⟨RJ9, "max", "(II)I"⟩
abbrev cJ9_min_f86c9 : ByteArray := prog_10_method_70_code
def yJ9_min_f86c9 : MethodName := ⟨RJ9, "min", "(JJ)J"⟩
def RJ0 : String := "java/lang/String"
def TJ0 : u_T := fun k => match k with
  | _ => ("", "", "", false)
def tyJ0 : Nat → FieldType := fun k => match k with
  | _ => .int
abbrev wsJ00 : List Cond := u_ws RJ0 TJ0 0
theorem nmJ0 : ∀ a, a < 0 → ∀ b, b < 0 → a ≠ b → (TJ0 a).2.1 ≠ (TJ0 b).2.1 := by decide +kernel
theorem tyJ0_ok : ∀ k, k < 0 → parseFieldDescriptor (TJ0 k).2.2.1 = some (tyJ0 k) := by decide +kernel
def RL : String := "MeterSealsLaw"
abbrev cL_litres : ByteArray := method_3_code
def yL_litres : MethodName := ⟨RL, "litres", "(LMeterSeals;III[J)I"⟩
abbrev cL_law : ByteArray := code
def yL_law : MethodName := ⟨RL, "law", "([I)Z"⟩
def wsX2_init : List Cond := .code yX2_init cX2_init 1 none :: ([.methodLink RX2 3 objectInit, .instanceMethod objectInit, .code objectInit ⟨#[0xb1]⟩ 1 none, .arrayClass .int, .fieldLink RX2 9 "MeterSeals$Table" "starts" "[I", .arrayClass .long, .fieldLink RX2 15 "MeterSeals$Table" "aboves" "[J", .fieldLink RX2 19 "MeterSeals$Table" "belows" "[J", .fieldLink RX2 22 "MeterSeals$Table" "count" "I"] ++ wsX20)
def wsX1_init : List Cond := .code yX1_init cX1_init 3 none :: ([.methodLink RX1 3 objectInit, .instanceMethod objectInit, .code objectInit ⟨#[0xb1]⟩ 1 none, .fieldLink RX1 9 "MeterSeals$Rows" "key" "J", .arrayClass .long, .fieldLink RX1 15 "MeterSeals$Rows" "numbers" "[J", .fieldLink RX1 19 "MeterSeals$Rows" "stamps" "[J", .arrayClass .int, .fieldLink RX1 22 "MeterSeals$Rows" "degrees" "[I", .fieldLink RX1 26 "MeterSeals$Rows" "sums" "[J", .arrayClass .boolean, .fieldLink RX1 29 "MeterSeals$Rows" "marks" "[Z", .fieldLink RX1 33 "MeterSeals$Rows" "count" "I"] ++ wsX10)
def wsX0_init_r1 : List Cond := [Cond.methodLink RX0 3 objectInit, Cond.instanceMethod objectInit, Cond.code objectInit ⟨#[0xb1]⟩ 1 none, Cond.classLink RX0 9 RX2, Cond.instantiable RX2 4, Cond.initialized RX2, Cond.fieldLink RX0 12 "MeterSeals$Meter" "table" "LMeterSeals$Table;", Cond.classLink RX0 18 RX1, Cond.instantiable RX1 7, Cond.initialized RX1, Cond.fieldLink RX0 23 "MeterSeals$Meter" "rows" "LMeterSeals$Rows;", Cond.fieldLink RX0 27 "MeterSeals$Meter" "sealed" "Z", Cond.fieldLink RX0 31 "MeterSeals$Meter" "lastSecond" "J", Cond.methodLink RX0 11 yX2_init, Cond.instanceMethod yX2_init, Cond.code yX2_init cX2_init 1 none, Cond.methodLink RX2 3 objectInit, Cond.arrayClass .int, Cond.fieldLink RX2 9 "MeterSeals$Table" "starts" "[I", Cond.arrayClass .long, Cond.fieldLink RX2 15 "MeterSeals$Table" "aboves" "[J", Cond.fieldLink RX2 19 "MeterSeals$Table" "belows" "[J", Cond.fieldLink RX2 22 "MeterSeals$Table" "count" "I", Cond.methodLink RX0 20 yX1_init]
def wsX0_init_r2 : List Cond := [Cond.instanceMethod yX1_init, Cond.code yX1_init cX1_init 3 none, Cond.methodLink RX1 3 objectInit, Cond.fieldLink RX1 9 "MeterSeals$Rows" "key" "J", Cond.fieldLink RX1 15 "MeterSeals$Rows" "numbers" "[J", Cond.fieldLink RX1 19 "MeterSeals$Rows" "stamps" "[J", Cond.fieldLink RX1 22 "MeterSeals$Rows" "degrees" "[I", Cond.fieldLink RX1 26 "MeterSeals$Rows" "sums" "[J", Cond.arrayClass .boolean, Cond.fieldLink RX1 29 "MeterSeals$Rows" "marks" "[Z", Cond.fieldLink RX1 33 "MeterSeals$Rows" "count" "I"]
def wsX0_init : List Cond := .code yX0_init cX0_init 3 none :: ((wsX0_init_r1 ++ wsX0_init_r2) ++ wsX20 ++ wsX00 ++ wsX10)
def wsX3_within : List Cond := .code yX3_within cX3_within 6 (some .boolean) :: ([])
def wsX1_holds : List Cond := .code yX1_holds cX1_holds 2 (some .boolean) :: ([.fieldLink RX1 33 "MeterSeals$Rows" "count" "I"] ++ wsX10)
def wsX1_stir : List Cond := .code yX1_stir cX1_stir 6 (some .long) :: ([.constantLong RX1 63 (1099511628211)])
def wsX1_dueSum : List Cond := .code yX1_dueSum cX1_dueSum 6 (some .long) :: ([.fieldLink RX1 9 "MeterSeals$Rows" "key" "J", .fieldLink RX1 26 "MeterSeals$Rows" "sums" "[J", .constantLong RX1 57 (3), .fieldLink RX1 15 "MeterSeals$Rows" "numbers" "[J", .fieldLink RX1 19 "MeterSeals$Rows" "stamps" "[J", .fieldLink RX1 22 "MeterSeals$Rows" "degrees" "[I", .methodLink RX1 41 yX1_holds, .instanceMethod yX1_holds, .selects RX1 yX1_holds yX1_holds, .initialized RX1, .code yX1_holds cX1_holds 2 (some .boolean), .fieldLink RX1 33 "MeterSeals$Rows" "count" "I", .methodLink RX1 59 yX1_stir, .static yX1_stir, .code yX1_stir cX1_stir 6 (some .long), .constantLong RX1 63 (1099511628211)] ++ wsX10)
def wsX1_add : List Cond := .code yX1_add cX1_add 8 (some .boolean) :: ([.fieldLink RX1 33 "MeterSeals$Rows" "count" "I", .fieldLink RX1 15 "MeterSeals$Rows" "numbers" "[J", .fieldLink RX1 19 "MeterSeals$Rows" "stamps" "[J", .fieldLink RX1 22 "MeterSeals$Rows" "degrees" "[I", .fieldLink RX1 29 "MeterSeals$Rows" "marks" "[Z", .fieldLink RX1 26 "MeterSeals$Rows" "sums" "[J", .methodLink RX1 37 yX1_dueSum, .instanceMethod yX1_dueSum, .selects RX1 yX1_dueSum yX1_dueSum, .initialized RX1, .code yX1_dueSum cX1_dueSum 6 (some .long), .fieldLink RX1 9 "MeterSeals$Rows" "key" "J", .constantLong RX1 57 (3), .methodLink RX1 41 yX1_holds, .instanceMethod yX1_holds, .selects RX1 yX1_holds yX1_holds, .code yX1_holds cX1_holds 2 (some .boolean), .methodLink RX1 59 yX1_stir, .static yX1_stir, .code yX1_stir cX1_stir 6 (some .long), .constantLong RX1 63 (1099511628211)] ++ wsX10)
def wsX0_addReading_r1 : List Cond := [Cond.fieldLink RX0 12 "MeterSeals$Meter" "table" "LMeterSeals$Table;", Cond.constantLong RX0 39 (1000000), Cond.fieldLink RX0 31 "MeterSeals$Meter" "lastSecond" "J", Cond.constantLong RX0 45 (1000000000000), Cond.constantLong RX0 47 (-50), Cond.constantLong RX0 49 (150), Cond.fieldLink RX0 23 "MeterSeals$Meter" "rows" "LMeterSeals$Rows;", Cond.fieldLink RX0 27 "MeterSeals$Meter" "sealed" "Z", Cond.static yX3_within, Cond.initialized RX3, Cond.code yX3_within cX3_within 6 (some .boolean), Cond.methodLink RX0 51 yX1_add, Cond.instanceMethod yX1_add, Cond.selects RX1 yX1_add yX1_add, Cond.initialized RX1, Cond.code yX1_add cX1_add 8 (some .boolean), Cond.fieldLink RX1 33 "MeterSeals$Rows" "count" "I", Cond.fieldLink RX1 15 "MeterSeals$Rows" "numbers" "[J", Cond.fieldLink RX1 19 "MeterSeals$Rows" "stamps" "[J", Cond.fieldLink RX1 22 "MeterSeals$Rows" "degrees" "[I", Cond.fieldLink RX1 29 "MeterSeals$Rows" "marks" "[Z", Cond.fieldLink RX1 26 "MeterSeals$Rows" "sums" "[J", Cond.methodLink RX1 37 yX1_dueSum, Cond.instanceMethod yX1_dueSum]
def wsX0_addReading_r2 : List Cond := [Cond.selects RX1 yX1_dueSum yX1_dueSum, Cond.code yX1_dueSum cX1_dueSum 6 (some .long), Cond.fieldLink RX1 9 "MeterSeals$Rows" "key" "J", Cond.constantLong RX1 57 (3), Cond.methodLink RX1 41 yX1_holds, Cond.instanceMethod yX1_holds, Cond.selects RX1 yX1_holds yX1_holds, Cond.code yX1_holds cX1_holds 2 (some .boolean), Cond.methodLink RX1 59 yX1_stir, Cond.static yX1_stir, Cond.code yX1_stir cX1_stir 6 (some .long), Cond.constantLong RX1 63 (1099511628211)]
def wsX0_addReading : List Cond := .code yX0_addReading cX0_addReading 7 (some .boolean) :: ((wsX0_addReading_r1 ++ wsX0_addReading_r2) ++ wsX00 ++ wsX20 ++ wsX10)
def wsX0_addReset_r1 : List Cond := [Cond.constantLong RX0 45 (1000000000000), Cond.fieldLink RX0 23 "MeterSeals$Meter" "rows" "LMeterSeals$Rows;", Cond.constantLong RX0 55 (-1), Cond.fieldLink RX0 27 "MeterSeals$Meter" "sealed" "Z", Cond.static yX3_within, Cond.initialized RX3, Cond.code yX3_within cX3_within 6 (some .boolean), Cond.methodLink RX0 51 yX1_add, Cond.instanceMethod yX1_add, Cond.selects RX1 yX1_add yX1_add, Cond.initialized RX1, Cond.code yX1_add cX1_add 8 (some .boolean), Cond.fieldLink RX1 33 "MeterSeals$Rows" "count" "I", Cond.fieldLink RX1 15 "MeterSeals$Rows" "numbers" "[J", Cond.fieldLink RX1 19 "MeterSeals$Rows" "stamps" "[J", Cond.fieldLink RX1 22 "MeterSeals$Rows" "degrees" "[I", Cond.fieldLink RX1 29 "MeterSeals$Rows" "marks" "[Z", Cond.fieldLink RX1 26 "MeterSeals$Rows" "sums" "[J", Cond.methodLink RX1 37 yX1_dueSum, Cond.instanceMethod yX1_dueSum, Cond.selects RX1 yX1_dueSum yX1_dueSum, Cond.code yX1_dueSum cX1_dueSum 6 (some .long), Cond.fieldLink RX1 9 "MeterSeals$Rows" "key" "J", Cond.constantLong RX1 57 (3)]
def wsX0_addReset_r2 : List Cond := [Cond.methodLink RX1 41 yX1_holds, Cond.instanceMethod yX1_holds, Cond.selects RX1 yX1_holds yX1_holds, Cond.code yX1_holds cX1_holds 2 (some .boolean), Cond.methodLink RX1 59 yX1_stir, Cond.static yX1_stir, Cond.code yX1_stir cX1_stir 6 (some .long), Cond.constantLong RX1 63 (1099511628211)]
def wsX0_addReset : List Cond := .code yX0_addReset cX0_addReset 3 (some .boolean) :: ((wsX0_addReset_r1 ++ wsX0_addReset_r2) ++ wsX00 ++ wsX10)
def wsX0_turnSeal_r1 : List Cond := [Cond.constantLong RX0 57 (999), Cond.fieldLink RX0 27 "MeterSeals$Meter" "sealed" "Z", Cond.fieldLink RX0 23 "MeterSeals$Meter" "rows" "LMeterSeals$Rows;", Cond.constantLong RX0 59 (-3), Cond.constantLong RX0 61 (-2), Cond.static yX3_within, Cond.initialized RX3, Cond.code yX3_within cX3_within 6 (some .boolean), Cond.methodLink RX0 51 yX1_add, Cond.instanceMethod yX1_add, Cond.selects RX1 yX1_add yX1_add, Cond.initialized RX1, Cond.code yX1_add cX1_add 8 (some .boolean), Cond.fieldLink RX1 33 "MeterSeals$Rows" "count" "I", Cond.fieldLink RX1 15 "MeterSeals$Rows" "numbers" "[J", Cond.fieldLink RX1 19 "MeterSeals$Rows" "stamps" "[J", Cond.fieldLink RX1 22 "MeterSeals$Rows" "degrees" "[I", Cond.fieldLink RX1 29 "MeterSeals$Rows" "marks" "[Z", Cond.fieldLink RX1 26 "MeterSeals$Rows" "sums" "[J", Cond.methodLink RX1 37 yX1_dueSum, Cond.instanceMethod yX1_dueSum, Cond.selects RX1 yX1_dueSum yX1_dueSum, Cond.code yX1_dueSum cX1_dueSum 6 (some .long), Cond.fieldLink RX1 9 "MeterSeals$Rows" "key" "J"]
def wsX0_turnSeal_r2 : List Cond := [Cond.constantLong RX1 57 (3), Cond.methodLink RX1 41 yX1_holds, Cond.instanceMethod yX1_holds, Cond.selects RX1 yX1_holds yX1_holds, Cond.code yX1_holds cX1_holds 2 (some .boolean), Cond.methodLink RX1 59 yX1_stir, Cond.static yX1_stir, Cond.code yX1_stir cX1_stir 6 (some .long), Cond.constantLong RX1 63 (1099511628211)]
def wsX0_turnSeal : List Cond := .code yX0_turnSeal cX0_turnSeal 3 (some .boolean) :: ((wsX0_turnSeal_r1 ++ wsX0_turnSeal_r2) ++ wsX00 ++ wsX10)
def wsX1_isReading : List Cond := .code yX1_isReading cX1_isReading 2 (some .boolean) :: ([.fieldLink RX1 19 "MeterSeals$Rows" "stamps" "[J", .methodLink RX1 41 yX1_holds, .instanceMethod yX1_holds, .selects RX1 yX1_holds yX1_holds, .initialized RX1, .code yX1_holds cX1_holds 2 (some .boolean), .fieldLink RX1 33 "MeterSeals$Rows" "count" "I"] ++ wsX10)
def wsX1_pulsesOf : List Cond := .code yX1_pulsesOf cX1_pulsesOf 2 (some .long) :: ([.fieldLink RX1 15 "MeterSeals$Rows" "numbers" "[J", .methodLink RX1 45 yX1_isReading, .instanceMethod yX1_isReading, .selects RX1 yX1_isReading yX1_isReading, .initialized RX1, .code yX1_isReading cX1_isReading 2 (some .boolean), .fieldLink RX1 19 "MeterSeals$Rows" "stamps" "[J", .methodLink RX1 41 yX1_holds, .instanceMethod yX1_holds, .selects RX1 yX1_holds yX1_holds, .code yX1_holds cX1_holds 2 (some .boolean), .fieldLink RX1 33 "MeterSeals$Rows" "count" "I"] ++ wsX10)
def wsX1_degreesOf : List Cond := .code yX1_degreesOf cX1_degreesOf 2 (some .int) :: ([.fieldLink RX1 22 "MeterSeals$Rows" "degrees" "[I", .methodLink RX1 41 yX1_holds, .instanceMethod yX1_holds, .selects RX1 yX1_holds yX1_holds, .initialized RX1, .code yX1_holds cX1_holds 2 (some .boolean), .fieldLink RX1 33 "MeterSeals$Rows" "count" "I"] ++ wsX10)
def wsX2_goesBefore : List Cond := .code yX2_goesBefore cX2_goesBefore 3 (some .boolean) :: ([])
def wsX2_lineAt : List Cond := .code yX2_lineAt cX2_lineAt 4 (some .int) :: ([.fieldLink RX2 22 "MeterSeals$Table" "count" "I", .fieldLink RX2 9 "MeterSeals$Table" "starts" "[I", .methodLink RX2 49 yX2_goesBefore, .static yX2_goesBefore, .initialized RX2, .code yX2_goesBefore cX2_goesBefore 3 (some .boolean)] ++ wsX20)
def wsX2_aboveAt : List Cond := .code yX2_aboveAt cX2_aboveAt 3 (some .long) :: ([.fieldLink RX2 15 "MeterSeals$Table" "aboves" "[J", .methodLink RX2 46 yX2_lineAt, .instanceMethod yX2_lineAt, .selects RX2 yX2_lineAt yX2_lineAt, .initialized RX2, .code yX2_lineAt cX2_lineAt 4 (some .int), .fieldLink RX2 22 "MeterSeals$Table" "count" "I", .fieldLink RX2 9 "MeterSeals$Table" "starts" "[I", .methodLink RX2 49 yX2_goesBefore, .static yX2_goesBefore, .code yX2_goesBefore cX2_goesBefore 3 (some .boolean)] ++ wsX20)
def wsX0_litresAbove_r1 : List Cond := [Cond.fieldLink RX0 23 "MeterSeals$Meter" "rows" "LMeterSeals$Rows;", Cond.fieldLink RX0 12 "MeterSeals$Meter" "table" "LMeterSeals$Table;", Cond.methodLink RX0 80 yX1_pulsesOf, Cond.instanceMethod yX1_pulsesOf, Cond.selects RX1 yX1_pulsesOf yX1_pulsesOf, Cond.initialized RX1, Cond.code yX1_pulsesOf cX1_pulsesOf 2 (some .long), Cond.fieldLink RX1 15 "MeterSeals$Rows" "numbers" "[J", Cond.methodLink RX1 45 yX1_isReading, Cond.instanceMethod yX1_isReading, Cond.selects RX1 yX1_isReading yX1_isReading, Cond.code yX1_isReading cX1_isReading 2 (some .boolean), Cond.fieldLink RX1 19 "MeterSeals$Rows" "stamps" "[J", Cond.methodLink RX1 41 yX1_holds, Cond.instanceMethod yX1_holds, Cond.selects RX1 yX1_holds yX1_holds, Cond.code yX1_holds cX1_holds 2 (some .boolean), Cond.fieldLink RX1 33 "MeterSeals$Rows" "count" "I", Cond.methodLink RX0 83 yX1_degreesOf, Cond.instanceMethod yX1_degreesOf, Cond.selects RX1 yX1_degreesOf yX1_degreesOf, Cond.code yX1_degreesOf cX1_degreesOf 2 (some .int), Cond.fieldLink RX1 22 "MeterSeals$Rows" "degrees" "[I", Cond.methodLink RX0 87 yX2_aboveAt]
def wsX0_litresAbove_r2 : List Cond := [Cond.instanceMethod yX2_aboveAt, Cond.selects RX2 yX2_aboveAt yX2_aboveAt, Cond.initialized RX2, Cond.code yX2_aboveAt cX2_aboveAt 3 (some .long), Cond.fieldLink RX2 15 "MeterSeals$Table" "aboves" "[J", Cond.methodLink RX2 46 yX2_lineAt, Cond.instanceMethod yX2_lineAt, Cond.selects RX2 yX2_lineAt yX2_lineAt, Cond.code yX2_lineAt cX2_lineAt 4 (some .int), Cond.fieldLink RX2 22 "MeterSeals$Table" "count" "I", Cond.fieldLink RX2 9 "MeterSeals$Table" "starts" "[I", Cond.methodLink RX2 49 yX2_goesBefore, Cond.static yX2_goesBefore, Cond.code yX2_goesBefore cX2_goesBefore 3 (some .boolean)]
def wsX0_litresAbove : List Cond := .code yX0_litresAbove cX0_litresAbove 2 (some .long) :: ((wsX0_litresAbove_r1 ++ wsX0_litresAbove_r2) ++ wsX00 ++ wsX10 ++ wsX20)
def wsX2_belowAt : List Cond := .code yX2_belowAt cX2_belowAt 3 (some .long) :: ([.fieldLink RX2 19 "MeterSeals$Table" "belows" "[J", .methodLink RX2 46 yX2_lineAt, .instanceMethod yX2_lineAt, .selects RX2 yX2_lineAt yX2_lineAt, .initialized RX2, .code yX2_lineAt cX2_lineAt 4 (some .int), .fieldLink RX2 22 "MeterSeals$Table" "count" "I", .fieldLink RX2 9 "MeterSeals$Table" "starts" "[I", .methodLink RX2 49 yX2_goesBefore, .static yX2_goesBefore, .code yX2_goesBefore cX2_goesBefore 3 (some .boolean)] ++ wsX20)
def wsX0_litresBelow_r1 : List Cond := [Cond.fieldLink RX0 23 "MeterSeals$Meter" "rows" "LMeterSeals$Rows;", Cond.fieldLink RX0 12 "MeterSeals$Meter" "table" "LMeterSeals$Table;", Cond.methodLink RX0 90 yX1_isReading, Cond.instanceMethod yX1_isReading, Cond.selects RX1 yX1_isReading yX1_isReading, Cond.initialized RX1, Cond.code yX1_isReading cX1_isReading 2 (some .boolean), Cond.fieldLink RX1 19 "MeterSeals$Rows" "stamps" "[J", Cond.methodLink RX1 41 yX1_holds, Cond.instanceMethod yX1_holds, Cond.selects RX1 yX1_holds yX1_holds, Cond.code yX1_holds cX1_holds 2 (some .boolean), Cond.fieldLink RX1 33 "MeterSeals$Rows" "count" "I", Cond.methodLink RX0 83 yX1_degreesOf, Cond.instanceMethod yX1_degreesOf, Cond.selects RX1 yX1_degreesOf yX1_degreesOf, Cond.code yX1_degreesOf cX1_degreesOf 2 (some .int), Cond.fieldLink RX1 22 "MeterSeals$Rows" "degrees" "[I", Cond.methodLink RX0 94 yX2_belowAt, Cond.instanceMethod yX2_belowAt, Cond.selects RX2 yX2_belowAt yX2_belowAt, Cond.initialized RX2, Cond.code yX2_belowAt cX2_belowAt 3 (some .long), Cond.fieldLink RX2 19 "MeterSeals$Table" "belows" "[J"]
def wsX0_litresBelow_r2 : List Cond := [Cond.methodLink RX2 46 yX2_lineAt, Cond.instanceMethod yX2_lineAt, Cond.selects RX2 yX2_lineAt yX2_lineAt, Cond.code yX2_lineAt cX2_lineAt 4 (some .int), Cond.fieldLink RX2 22 "MeterSeals$Table" "count" "I", Cond.fieldLink RX2 9 "MeterSeals$Table" "starts" "[I", Cond.methodLink RX2 49 yX2_goesBefore, Cond.static yX2_goesBefore, Cond.code yX2_goesBefore cX2_goesBefore 3 (some .boolean)]
def wsX0_litresBelow : List Cond := .code yX0_litresBelow cX0_litresBelow 2 (some .long) :: ((wsX0_litresBelow_r1 ++ wsX0_litresBelow_r2) ++ wsX00 ++ wsX10 ++ wsX20)
def wsX3_commonDivisor : List Cond := .code yX3_commonDivisor cX3_commonDivisor 11 (some .long) :: ([])
def wsX3_quotient : List Cond := .code yX3_quotient cX3_quotient 4 (some .long) :: ([])
def wsX0_fractionPart_r1 : List Cond := [Cond.methodLink RX0 63 yX0_litresAbove, Cond.instanceMethod yX0_litresAbove, Cond.selects RX0 yX0_litresAbove yX0_litresAbove, Cond.initialized RX0, Cond.code yX0_litresAbove cX0_litresAbove 2 (some .long), Cond.fieldLink RX0 23 "MeterSeals$Meter" "rows" "LMeterSeals$Rows;", Cond.fieldLink RX0 12 "MeterSeals$Meter" "table" "LMeterSeals$Table;", Cond.methodLink RX0 80 yX1_pulsesOf, Cond.instanceMethod yX1_pulsesOf, Cond.selects RX1 yX1_pulsesOf yX1_pulsesOf, Cond.initialized RX1, Cond.code yX1_pulsesOf cX1_pulsesOf 2 (some .long), Cond.fieldLink RX1 15 "MeterSeals$Rows" "numbers" "[J", Cond.methodLink RX1 45 yX1_isReading, Cond.instanceMethod yX1_isReading, Cond.selects RX1 yX1_isReading yX1_isReading, Cond.code yX1_isReading cX1_isReading 2 (some .boolean), Cond.fieldLink RX1 19 "MeterSeals$Rows" "stamps" "[J", Cond.methodLink RX1 41 yX1_holds, Cond.instanceMethod yX1_holds, Cond.selects RX1 yX1_holds yX1_holds, Cond.code yX1_holds cX1_holds 2 (some .boolean), Cond.fieldLink RX1 33 "MeterSeals$Rows" "count" "I", Cond.methodLink RX0 83 yX1_degreesOf]
def wsX0_fractionPart_r2 : List Cond := [Cond.instanceMethod yX1_degreesOf, Cond.selects RX1 yX1_degreesOf yX1_degreesOf, Cond.code yX1_degreesOf cX1_degreesOf 2 (some .int), Cond.fieldLink RX1 22 "MeterSeals$Rows" "degrees" "[I", Cond.methodLink RX0 87 yX2_aboveAt, Cond.instanceMethod yX2_aboveAt, Cond.selects RX2 yX2_aboveAt yX2_aboveAt, Cond.initialized RX2, Cond.code yX2_aboveAt cX2_aboveAt 3 (some .long), Cond.fieldLink RX2 15 "MeterSeals$Table" "aboves" "[J", Cond.methodLink RX2 46 yX2_lineAt, Cond.instanceMethod yX2_lineAt, Cond.selects RX2 yX2_lineAt yX2_lineAt, Cond.code yX2_lineAt cX2_lineAt 4 (some .int), Cond.fieldLink RX2 22 "MeterSeals$Table" "count" "I", Cond.fieldLink RX2 9 "MeterSeals$Table" "starts" "[I", Cond.methodLink RX2 49 yX2_goesBefore, Cond.static yX2_goesBefore, Cond.code yX2_goesBefore cX2_goesBefore 3 (some .boolean), Cond.methodLink RX0 67 yX0_litresBelow, Cond.instanceMethod yX0_litresBelow, Cond.selects RX0 yX0_litresBelow yX0_litresBelow, Cond.code yX0_litresBelow cX0_litresBelow 2 (some .long), Cond.methodLink RX0 90 yX1_isReading]
def wsX0_fractionPart_r3 : List Cond := [Cond.methodLink RX0 94 yX2_belowAt, Cond.instanceMethod yX2_belowAt, Cond.selects RX2 yX2_belowAt yX2_belowAt, Cond.code yX2_belowAt cX2_belowAt 3 (some .long), Cond.fieldLink RX2 19 "MeterSeals$Table" "belows" "[J", Cond.static yX3_commonDivisor, Cond.initialized RX3, Cond.code yX3_commonDivisor cX3_commonDivisor 11 (some .long), Cond.static yX3_quotient, Cond.code yX3_quotient cX3_quotient 4 (some .long)]
def wsX0_fractionPart : List Cond := .code yX0_fractionPart cX0_fractionPart 7 (some .long) :: ((wsX0_fractionPart_r1 ++ (wsX0_fractionPart_r2 ++ wsX0_fractionPart_r3)) ++ wsX00 ++ wsX10 ++ wsX20)
def wsX0_allThousandths_r1 : List Cond := [Cond.fieldLink RX0 23 "MeterSeals$Meter" "rows" "LMeterSeals$Rows;", Cond.constantLong RX0 78 (1000), Cond.methodLink RX0 63 yX0_litresAbove, Cond.instanceMethod yX0_litresAbove, Cond.selects RX0 yX0_litresAbove yX0_litresAbove, Cond.initialized RX0, Cond.code yX0_litresAbove cX0_litresAbove 2 (some .long), Cond.fieldLink RX0 12 "MeterSeals$Meter" "table" "LMeterSeals$Table;", Cond.methodLink RX0 80 yX1_pulsesOf, Cond.instanceMethod yX1_pulsesOf, Cond.selects RX1 yX1_pulsesOf yX1_pulsesOf, Cond.initialized RX1, Cond.code yX1_pulsesOf cX1_pulsesOf 2 (some .long), Cond.fieldLink RX1 15 "MeterSeals$Rows" "numbers" "[J", Cond.methodLink RX1 45 yX1_isReading, Cond.instanceMethod yX1_isReading, Cond.selects RX1 yX1_isReading yX1_isReading, Cond.code yX1_isReading cX1_isReading 2 (some .boolean), Cond.fieldLink RX1 19 "MeterSeals$Rows" "stamps" "[J", Cond.methodLink RX1 41 yX1_holds, Cond.instanceMethod yX1_holds, Cond.selects RX1 yX1_holds yX1_holds, Cond.code yX1_holds cX1_holds 2 (some .boolean), Cond.fieldLink RX1 33 "MeterSeals$Rows" "count" "I"]
def wsX0_allThousandths_r2 : List Cond := [Cond.methodLink RX0 83 yX1_degreesOf, Cond.instanceMethod yX1_degreesOf, Cond.selects RX1 yX1_degreesOf yX1_degreesOf, Cond.code yX1_degreesOf cX1_degreesOf 2 (some .int), Cond.fieldLink RX1 22 "MeterSeals$Rows" "degrees" "[I", Cond.methodLink RX0 87 yX2_aboveAt, Cond.instanceMethod yX2_aboveAt, Cond.selects RX2 yX2_aboveAt yX2_aboveAt, Cond.initialized RX2, Cond.code yX2_aboveAt cX2_aboveAt 3 (some .long), Cond.fieldLink RX2 15 "MeterSeals$Table" "aboves" "[J", Cond.methodLink RX2 46 yX2_lineAt, Cond.instanceMethod yX2_lineAt, Cond.selects RX2 yX2_lineAt yX2_lineAt, Cond.code yX2_lineAt cX2_lineAt 4 (some .int), Cond.fieldLink RX2 22 "MeterSeals$Table" "count" "I", Cond.fieldLink RX2 9 "MeterSeals$Table" "starts" "[I", Cond.methodLink RX2 49 yX2_goesBefore, Cond.static yX2_goesBefore, Cond.code yX2_goesBefore cX2_goesBefore 3 (some .boolean), Cond.methodLink RX0 67 yX0_litresBelow, Cond.instanceMethod yX0_litresBelow, Cond.selects RX0 yX0_litresBelow yX0_litresBelow, Cond.code yX0_litresBelow cX0_litresBelow 2 (some .long)]
def wsX0_allThousandths_r3 : List Cond := [Cond.methodLink RX0 90 yX1_isReading, Cond.methodLink RX0 94 yX2_belowAt, Cond.instanceMethod yX2_belowAt, Cond.selects RX2 yX2_belowAt yX2_belowAt, Cond.code yX2_belowAt cX2_belowAt 3 (some .long), Cond.fieldLink RX2 19 "MeterSeals$Table" "belows" "[J", Cond.static yX3_quotient, Cond.initialized RX3, Cond.code yX3_quotient cX3_quotient 4 (some .long)]
def wsX0_allThousandths : List Cond := .code yX0_allThousandths cX0_allThousandths 4 (some .long) :: ((wsX0_allThousandths_r1 ++ (wsX0_allThousandths_r2 ++ wsX0_allThousandths_r3)) ++ wsX00 ++ wsX10 ++ wsX20)
def wsX1_hasMark : List Cond := .code yX1_hasMark cX1_hasMark 2 (some .boolean) :: ([.fieldLink RX1 29 "MeterSeals$Rows" "marks" "[Z", .methodLink RX1 41 yX1_holds, .instanceMethod yX1_holds, .selects RX1 yX1_holds yX1_holds, .initialized RX1, .code yX1_holds cX1_holds 2 (some .boolean), .fieldLink RX1 33 "MeterSeals$Rows" "count" "I"] ++ wsX10)
def wsX1_addPulses : List Cond := .code yX1_addPulses cX1_addPulses 6 (some .boolean) :: ([.constantLong RX1 51 (1000000), .fieldLink RX1 15 "MeterSeals$Rows" "numbers" "[J", .methodLink RX1 48 yX1_pulsesOf, .instanceMethod yX1_pulsesOf, .selects RX1 yX1_pulsesOf yX1_pulsesOf, .initialized RX1, .code yX1_pulsesOf cX1_pulsesOf 2 (some .long), .methodLink RX1 45 yX1_isReading, .instanceMethod yX1_isReading, .selects RX1 yX1_isReading yX1_isReading, .code yX1_isReading cX1_isReading 2 (some .boolean), .fieldLink RX1 19 "MeterSeals$Rows" "stamps" "[J", .methodLink RX1 41 yX1_holds, .instanceMethod yX1_holds, .selects RX1 yX1_holds yX1_holds, .code yX1_holds cX1_holds 2 (some .boolean), .fieldLink RX1 33 "MeterSeals$Rows" "count" "I", .static yX3_within, .initialized RX3, .code yX3_within cX3_within 6 (some .boolean)] ++ wsX10)
def wsX1_firstWrong : List Cond := .code yX1_firstWrong cX1_firstWrong 3 (some .int) :: ([.fieldLink RX1 33 "MeterSeals$Rows" "count" "I", .fieldLink RX1 26 "MeterSeals$Rows" "sums" "[J", .methodLink RX1 37 yX1_dueSum, .instanceMethod yX1_dueSum, .selects RX1 yX1_dueSum yX1_dueSum, .initialized RX1, .code yX1_dueSum cX1_dueSum 6 (some .long), .fieldLink RX1 9 "MeterSeals$Rows" "key" "J", .constantLong RX1 57 (3), .fieldLink RX1 15 "MeterSeals$Rows" "numbers" "[J", .fieldLink RX1 19 "MeterSeals$Rows" "stamps" "[J", .fieldLink RX1 22 "MeterSeals$Rows" "degrees" "[I", .methodLink RX1 41 yX1_holds, .instanceMethod yX1_holds, .selects RX1 yX1_holds yX1_holds, .code yX1_holds cX1_holds 2 (some .boolean), .methodLink RX1 59 yX1_stir, .static yX1_stir, .code yX1_stir cX1_stir 6 (some .long), .constantLong RX1 63 (1099511628211)] ++ wsX10)
def wsX1_wholeMinutes : List Cond := .code yX1_wholeMinutes cX1_wholeMinutes 2 (some .int) :: ([.constantLong RX1 73 (60), .constantLong RX1 75 (2147483647), .methodLink RX1 77 Lib.MathLoose.min_long.x, .static Lib.MathLoose.min_long.x, .initialized "java/lang/Math", .code Lib.MathLoose.min_long.x Lib.MathLoose.min_long.code 4 (some .long)])
def wsX1_findGap : List Cond := .code yX1_findGap cX1_findGap 9 (some .int) :: ([.constantLong RX1 65 (-1), .fieldLink RX1 33 "MeterSeals$Rows" "count" "I", .fieldLink RX1 19 "MeterSeals$Rows" "stamps" "[J", .constantLong RX1 67 (3600), .methodLink RX1 45 yX1_isReading, .instanceMethod yX1_isReading, .selects RX1 yX1_isReading yX1_isReading, .initialized RX1, .code yX1_isReading cX1_isReading 2 (some .boolean), .methodLink RX1 41 yX1_holds, .instanceMethod yX1_holds, .selects RX1 yX1_holds yX1_holds, .code yX1_holds cX1_holds 2 (some .boolean), .methodLink RX1 69 yX1_wholeMinutes, .static yX1_wholeMinutes, .code yX1_wholeMinutes cX1_wholeMinutes 2 (some .int), .constantLong RX1 73 (60), .constantLong RX1 75 (2147483647), .methodLink RX1 77 Lib.MathLoose.min_long.x, .static Lib.MathLoose.min_long.x, .initialized "java/lang/Math", .code Lib.MathLoose.min_long.x Lib.MathLoose.min_long.code 4 (some .long)] ++ wsX10)
def wsX1_fieldCount : List Cond := .code yX1_fieldCount cX1_fieldCount 2 (some .int) :: ([.methodLink RX1 45 yX1_isReading, .instanceMethod yX1_isReading, .selects RX1 yX1_isReading yX1_isReading, .initialized RX1, .code yX1_isReading cX1_isReading 2 (some .boolean), .fieldLink RX1 19 "MeterSeals$Rows" "stamps" "[J", .methodLink RX1 41 yX1_holds, .instanceMethod yX1_holds, .selects RX1 yX1_holds yX1_holds, .code yX1_holds cX1_holds 2 (some .boolean), .fieldLink RX1 33 "MeterSeals$Rows" "count" "I"] ++ wsX10)
def wsX1_fieldOf : List Cond := .code yX1_fieldOf cX1_fieldOf 3 (some .long) :: ([.fieldLink RX1 15 "MeterSeals$Rows" "numbers" "[J", .fieldLink RX1 19 "MeterSeals$Rows" "stamps" "[J", .fieldLink RX1 22 "MeterSeals$Rows" "degrees" "[I", .methodLink RX1 41 yX1_holds, .instanceMethod yX1_holds, .selects RX1 yX1_holds yX1_holds, .initialized RX1, .code yX1_holds cX1_holds 2 (some .boolean), .fieldLink RX1 33 "MeterSeals$Rows" "count" "I"] ++ wsX10)
def wsX3_textLength : List Cond := .code yX3_textLength cX3_textLength 6 (some .int) :: ([.constantLong RX3 106 (10)])
def wsX1_lineLength_r1 : List Cond := [Cond.methodLink RX1 90 yX1_fieldCount, Cond.instanceMethod yX1_fieldCount, Cond.selects RX1 yX1_fieldCount yX1_fieldCount, Cond.initialized RX1, Cond.code yX1_fieldCount cX1_fieldCount 2 (some .int), Cond.methodLink RX1 45 yX1_isReading, Cond.instanceMethod yX1_isReading, Cond.selects RX1 yX1_isReading yX1_isReading, Cond.code yX1_isReading cX1_isReading 2 (some .boolean), Cond.fieldLink RX1 19 "MeterSeals$Rows" "stamps" "[J", Cond.methodLink RX1 41 yX1_holds, Cond.instanceMethod yX1_holds, Cond.selects RX1 yX1_holds yX1_holds, Cond.code yX1_holds cX1_holds 2 (some .boolean), Cond.fieldLink RX1 33 "MeterSeals$Rows" "count" "I", Cond.methodLink RX1 93 yX1_fieldOf, Cond.instanceMethod yX1_fieldOf, Cond.selects RX1 yX1_fieldOf yX1_fieldOf, Cond.code yX1_fieldOf cX1_fieldOf 3 (some .long), Cond.fieldLink RX1 15 "MeterSeals$Rows" "numbers" "[J", Cond.fieldLink RX1 22 "MeterSeals$Rows" "degrees" "[I", Cond.static yX3_textLength, Cond.initialized RX3, Cond.code yX3_textLength cX3_textLength 6 (some .int)]
def wsX1_lineLength_r2 : List Cond := [Cond.constantLong RX3 106 (10), Cond.methodLink RX1 100 yX1_hasMark, Cond.instanceMethod yX1_hasMark, Cond.selects RX1 yX1_hasMark yX1_hasMark, Cond.code yX1_hasMark cX1_hasMark 2 (some .boolean), Cond.fieldLink RX1 29 "MeterSeals$Rows" "marks" "[Z"]
def wsX1_lineLength : List Cond := .code yX1_lineLength cX1_lineLength 4 (some .int) :: ((wsX1_lineLength_r1 ++ wsX1_lineLength_r2) ++ wsX10)
def wsX1_letterOf : List Cond := .code yX1_letterOf cX1_letterOf 2 (some .char) :: ([.fieldLink RX1 19 "MeterSeals$Rows" "stamps" "[J", .constantLong RX1 65 (-1), .constantLong RX1 111 (-2), .methodLink RX1 41 yX1_holds, .instanceMethod yX1_holds, .selects RX1 yX1_holds yX1_holds, .initialized RX1, .code yX1_holds cX1_holds 2 (some .boolean), .fieldLink RX1 33 "MeterSeals$Rows" "count" "I", .methodLink RX1 45 yX1_isReading, .instanceMethod yX1_isReading, .selects RX1 yX1_isReading yX1_isReading, .code yX1_isReading cX1_isReading 2 (some .boolean)] ++ wsX10)
def wsX3_textByte : List Cond := .code yX3_textByte cX3_textByte 6 (some .int) :: ([.constantLong RX3 106 (10), .methodLink RX3 112 Lib.MathLoose.abs_long.x, .static Lib.MathLoose.abs_long.x, .initialized "java/lang/Math", .code Lib.MathLoose.abs_long.x Lib.MathLoose.abs_long.code 2 (some .long), .methodLink RX3 108 yX3_textLength, .static yX3_textLength, .initialized RX3, .code yX3_textLength cX3_textLength 6 (some .int)])
def wsX1_lineByte_r1 : List Cond := [Cond.methodLink RX1 103 yX1_letterOf, Cond.instanceMethod yX1_letterOf, Cond.selects RX1 yX1_letterOf yX1_letterOf, Cond.initialized RX1, Cond.code yX1_letterOf cX1_letterOf 2 (some .char), Cond.fieldLink RX1 19 "MeterSeals$Rows" "stamps" "[J", Cond.constantLong RX1 65 (-1), Cond.constantLong RX1 111 (-2), Cond.methodLink RX1 41 yX1_holds, Cond.instanceMethod yX1_holds, Cond.selects RX1 yX1_holds yX1_holds, Cond.code yX1_holds cX1_holds 2 (some .boolean), Cond.fieldLink RX1 33 "MeterSeals$Rows" "count" "I", Cond.methodLink RX1 45 yX1_isReading, Cond.instanceMethod yX1_isReading, Cond.selects RX1 yX1_isReading yX1_isReading, Cond.code yX1_isReading cX1_isReading 2 (some .boolean), Cond.methodLink RX1 90 yX1_fieldCount, Cond.instanceMethod yX1_fieldCount, Cond.selects RX1 yX1_fieldCount yX1_fieldCount, Cond.code yX1_fieldCount cX1_fieldCount 2 (some .int), Cond.methodLink RX1 93 yX1_fieldOf, Cond.instanceMethod yX1_fieldOf, Cond.selects RX1 yX1_fieldOf yX1_fieldOf]
def wsX1_lineByte_r2 : List Cond := [Cond.code yX1_fieldOf cX1_fieldOf 3 (some .long), Cond.fieldLink RX1 15 "MeterSeals$Rows" "numbers" "[J", Cond.fieldLink RX1 22 "MeterSeals$Rows" "degrees" "[I", Cond.static yX3_textLength, Cond.initialized RX3, Cond.code yX3_textLength cX3_textLength 6 (some .int), Cond.constantLong RX3 106 (10), Cond.static yX3_textByte, Cond.code yX3_textByte cX3_textByte 6 (some .int), Cond.methodLink RX3 112 Lib.MathLoose.abs_long.x, Cond.static Lib.MathLoose.abs_long.x, Cond.initialized "java/lang/Math", Cond.code Lib.MathLoose.abs_long.x Lib.MathLoose.abs_long.code 2 (some .long), Cond.methodLink RX3 108 yX3_textLength, Cond.methodLink RX1 100 yX1_hasMark, Cond.instanceMethod yX1_hasMark, Cond.selects RX1 yX1_hasMark yX1_hasMark, Cond.code yX1_hasMark cX1_hasMark 2 (some .boolean), Cond.fieldLink RX1 29 "MeterSeals$Rows" "marks" "[Z"]
def wsX1_lineByte : List Cond := .code yX1_lineByte cX1_lineByte 8 (some .int) :: ((wsX1_lineByte_r1 ++ wsX1_lineByte_r2) ++ wsX10)
def wsX1_rollByte_r1 : List Cond := [Cond.fieldLink RX1 33 "MeterSeals$Rows" "count" "I", Cond.methodLink RX1 82 yX1_lineLength, Cond.instanceMethod yX1_lineLength, Cond.selects RX1 yX1_lineLength yX1_lineLength, Cond.initialized RX1, Cond.code yX1_lineLength cX1_lineLength 4 (some .int), Cond.methodLink RX1 90 yX1_fieldCount, Cond.instanceMethod yX1_fieldCount, Cond.selects RX1 yX1_fieldCount yX1_fieldCount, Cond.code yX1_fieldCount cX1_fieldCount 2 (some .int), Cond.methodLink RX1 45 yX1_isReading, Cond.instanceMethod yX1_isReading, Cond.selects RX1 yX1_isReading yX1_isReading, Cond.code yX1_isReading cX1_isReading 2 (some .boolean), Cond.fieldLink RX1 19 "MeterSeals$Rows" "stamps" "[J", Cond.methodLink RX1 41 yX1_holds, Cond.instanceMethod yX1_holds, Cond.selects RX1 yX1_holds yX1_holds, Cond.code yX1_holds cX1_holds 2 (some .boolean), Cond.methodLink RX1 93 yX1_fieldOf, Cond.instanceMethod yX1_fieldOf, Cond.selects RX1 yX1_fieldOf yX1_fieldOf, Cond.code yX1_fieldOf cX1_fieldOf 3 (some .long), Cond.fieldLink RX1 15 "MeterSeals$Rows" "numbers" "[J"]
def wsX1_rollByte_r2 : List Cond := [Cond.fieldLink RX1 22 "MeterSeals$Rows" "degrees" "[I", Cond.static yX3_textLength, Cond.initialized RX3, Cond.code yX3_textLength cX3_textLength 6 (some .int), Cond.constantLong RX3 106 (10), Cond.methodLink RX1 100 yX1_hasMark, Cond.instanceMethod yX1_hasMark, Cond.selects RX1 yX1_hasMark yX1_hasMark, Cond.code yX1_hasMark cX1_hasMark 2 (some .boolean), Cond.fieldLink RX1 29 "MeterSeals$Rows" "marks" "[Z", Cond.methodLink RX1 86 yX1_lineByte, Cond.instanceMethod yX1_lineByte, Cond.selects RX1 yX1_lineByte yX1_lineByte, Cond.code yX1_lineByte cX1_lineByte 8 (some .int), Cond.methodLink RX1 103 yX1_letterOf, Cond.instanceMethod yX1_letterOf, Cond.selects RX1 yX1_letterOf yX1_letterOf, Cond.code yX1_letterOf cX1_letterOf 2 (some .char), Cond.constantLong RX1 65 (-1), Cond.constantLong RX1 111 (-2), Cond.static yX3_textByte, Cond.code yX3_textByte cX3_textByte 6 (some .int), Cond.methodLink RX3 112 Lib.MathLoose.abs_long.x, Cond.static Lib.MathLoose.abs_long.x]
def wsX1_rollByte_r3 : List Cond := [Cond.initialized "java/lang/Math", Cond.code Lib.MathLoose.abs_long.x Lib.MathLoose.abs_long.code 2 (some .long), Cond.methodLink RX3 108 yX3_textLength]
def wsX1_rollByte : List Cond := .code yX1_rollByte cX1_rollByte 5 (some .int) :: ((wsX1_rollByte_r1 ++ (wsX1_rollByte_r2 ++ wsX1_rollByte_r3)) ++ wsX10)
def wsX2_placeFor : List Cond := .code yX2_placeFor cX2_placeFor 3 (some .int) :: ([.fieldLink RX2 22 "MeterSeals$Table" "count" "I", .fieldLink RX2 9 "MeterSeals$Table" "starts" "[I"] ++ wsX20)
def wsX2_put : List Cond := .code yX2_put cX2_put 8 (some .boolean) :: ([.constantLong RX2 26 (-50), .constantLong RX2 28 (150), .constantLong RX2 34 (10000), .fieldLink RX2 9 "MeterSeals$Table" "starts" "[I", .fieldLink RX2 15 "MeterSeals$Table" "aboves" "[J", .fieldLink RX2 19 "MeterSeals$Table" "belows" "[J", .fieldLink RX2 22 "MeterSeals$Table" "count" "I", .methodLink RX2 40 Lib.Math.max.name, .static Lib.Math.max.name, .initialized "java/lang/Math", .code Lib.Math.max.name Lib.Math.max.code 2 (some .int), .static yX3_within, .initialized RX3, .code yX3_within cX3_within 6 (some .boolean), .methodLink RX2 36 yX2_placeFor, .instanceMethod yX2_placeFor, .selects RX2 yX2_placeFor yX2_placeFor, .initialized RX2, .code yX2_placeFor cX2_placeFor 3 (some .int)] ++ wsX20)
def wsX3_init : List Cond := .code yX3_init cX3_init 1 none :: ([.methodLink RX3 1 objectInit, .instanceMethod objectInit, .code objectInit ⟨#[0xb1]⟩ 1 none, .classLink RX3 9 RX0, .fieldLink RX3 11 "MeterSeals" "meters" "[LMeterSeals$Meter;", .fieldLink RX3 15 "MeterSeals" "meterCount" "I"] ++ wsX30)
def wsX3_meter_r1 : List Cond := [Cond.fieldLink RX3 15 "MeterSeals" "meterCount" "I", Cond.fieldLink RX3 11 "MeterSeals" "meters" "[LMeterSeals$Meter;", Cond.classLink RX3 9 RX0, Cond.instantiable RX0 4, Cond.initialized RX0, Cond.methodLink RX3 19 yX0_init, Cond.instanceMethod yX0_init, Cond.code yX0_init cX0_init 3 none, Cond.methodLink RX0 3 objectInit, Cond.instanceMethod objectInit, Cond.code objectInit ⟨#[0xb1]⟩ 1 none, Cond.classLink RX0 9 RX2, Cond.instantiable RX2 4, Cond.initialized RX2, Cond.fieldLink RX0 12 "MeterSeals$Meter" "table" "LMeterSeals$Table;", Cond.classLink RX0 18 RX1, Cond.instantiable RX1 7, Cond.initialized RX1, Cond.fieldLink RX0 23 "MeterSeals$Meter" "rows" "LMeterSeals$Rows;", Cond.fieldLink RX0 27 "MeterSeals$Meter" "sealed" "Z", Cond.fieldLink RX0 31 "MeterSeals$Meter" "lastSecond" "J", Cond.methodLink RX0 11 yX2_init, Cond.instanceMethod yX2_init, Cond.code yX2_init cX2_init 1 none]
def wsX3_meter_r2 : List Cond := [Cond.methodLink RX2 3 objectInit, Cond.arrayClass .int, Cond.fieldLink RX2 9 "MeterSeals$Table" "starts" "[I", Cond.arrayClass .long, Cond.fieldLink RX2 15 "MeterSeals$Table" "aboves" "[J", Cond.fieldLink RX2 19 "MeterSeals$Table" "belows" "[J", Cond.fieldLink RX2 22 "MeterSeals$Table" "count" "I", Cond.methodLink RX0 20 yX1_init, Cond.instanceMethod yX1_init, Cond.code yX1_init cX1_init 3 none, Cond.methodLink RX1 3 objectInit, Cond.fieldLink RX1 9 "MeterSeals$Rows" "key" "J", Cond.fieldLink RX1 15 "MeterSeals$Rows" "numbers" "[J", Cond.fieldLink RX1 19 "MeterSeals$Rows" "stamps" "[J", Cond.fieldLink RX1 22 "MeterSeals$Rows" "degrees" "[I", Cond.fieldLink RX1 26 "MeterSeals$Rows" "sums" "[J", Cond.arrayClass .boolean, Cond.fieldLink RX1 29 "MeterSeals$Rows" "marks" "[Z", Cond.fieldLink RX1 33 "MeterSeals$Rows" "count" "I"]
def wsX3_meter : List Cond := .code yX3_meter cX3_meter 4 (some .int) :: ((wsX3_meter_r1 ++ wsX3_meter_r2) ++ wsX30 ++ wsX00 ++ wsX20 ++ wsX10)
def wsX3_find : List Cond := .code yX3_find cX3_find 2 (some (.object "MeterSeals$Meter")) :: ([.fieldLink RX3 15 "MeterSeals" "meterCount" "I", .fieldLink RX3 11 "MeterSeals" "meters" "[LMeterSeals$Meter;"] ++ wsX30)
def wsX3_pulses_r1 : List Cond := [Cond.methodLink RX3 22 yX3_find, Cond.instanceMethod yX3_find, Cond.selects RX3 yX3_find yX3_find, Cond.initialized RX3, Cond.code yX3_find cX3_find 2 (some (.object "MeterSeals$Meter")), Cond.fieldLink RX3 15 "MeterSeals" "meterCount" "I", Cond.fieldLink RX3 11 "MeterSeals" "meters" "[LMeterSeals$Meter;", Cond.methodLink RX3 26 yX0_addReading, Cond.instanceMethod yX0_addReading, Cond.selects RX0 yX0_addReading yX0_addReading, Cond.initialized RX0, Cond.code yX0_addReading cX0_addReading 7 (some .boolean), Cond.fieldLink RX0 12 "MeterSeals$Meter" "table" "LMeterSeals$Table;", Cond.constantLong RX0 39 (1000000), Cond.fieldLink RX0 31 "MeterSeals$Meter" "lastSecond" "J", Cond.constantLong RX0 45 (1000000000000), Cond.constantLong RX0 47 (-50), Cond.constantLong RX0 49 (150), Cond.fieldLink RX0 23 "MeterSeals$Meter" "rows" "LMeterSeals$Rows;", Cond.fieldLink RX0 27 "MeterSeals$Meter" "sealed" "Z", Cond.static yX3_within, Cond.code yX3_within cX3_within 6 (some .boolean), Cond.methodLink RX0 51 yX1_add, Cond.instanceMethod yX1_add]
def wsX3_pulses_r2 : List Cond := [Cond.selects RX1 yX1_add yX1_add, Cond.initialized RX1, Cond.code yX1_add cX1_add 8 (some .boolean), Cond.fieldLink RX1 33 "MeterSeals$Rows" "count" "I", Cond.fieldLink RX1 15 "MeterSeals$Rows" "numbers" "[J", Cond.fieldLink RX1 19 "MeterSeals$Rows" "stamps" "[J", Cond.fieldLink RX1 22 "MeterSeals$Rows" "degrees" "[I", Cond.fieldLink RX1 29 "MeterSeals$Rows" "marks" "[Z", Cond.fieldLink RX1 26 "MeterSeals$Rows" "sums" "[J", Cond.methodLink RX1 37 yX1_dueSum, Cond.instanceMethod yX1_dueSum, Cond.selects RX1 yX1_dueSum yX1_dueSum, Cond.code yX1_dueSum cX1_dueSum 6 (some .long), Cond.fieldLink RX1 9 "MeterSeals$Rows" "key" "J", Cond.constantLong RX1 57 (3), Cond.methodLink RX1 41 yX1_holds, Cond.instanceMethod yX1_holds, Cond.selects RX1 yX1_holds yX1_holds, Cond.code yX1_holds cX1_holds 2 (some .boolean), Cond.methodLink RX1 59 yX1_stir, Cond.static yX1_stir, Cond.code yX1_stir cX1_stir 6 (some .long), Cond.constantLong RX1 63 (1099511628211)]
def wsX3_pulses : List Cond := .code yX3_pulses cX3_pulses 8 (some .boolean) :: ((wsX3_pulses_r1 ++ wsX3_pulses_r2) ++ wsX30 ++ wsX00 ++ wsX20 ++ wsX10)
def wsX3_row_r1 : List Cond := [Cond.methodLink RX3 22 yX3_find, Cond.instanceMethod yX3_find, Cond.selects RX3 yX3_find yX3_find, Cond.initialized RX3, Cond.code yX3_find cX3_find 2 (some (.object "MeterSeals$Meter")), Cond.fieldLink RX3 15 "MeterSeals" "meterCount" "I", Cond.fieldLink RX3 11 "MeterSeals" "meters" "[LMeterSeals$Meter;", Cond.methodLink RX3 34 yX2_put, Cond.instanceMethod yX2_put, Cond.selects RX2 yX2_put yX2_put, Cond.initialized RX2, Cond.code yX2_put cX2_put 8 (some .boolean), Cond.constantLong RX2 26 (-50), Cond.constantLong RX2 28 (150), Cond.constantLong RX2 34 (10000), Cond.fieldLink RX2 9 "MeterSeals$Table" "starts" "[I", Cond.fieldLink RX2 15 "MeterSeals$Table" "aboves" "[J", Cond.fieldLink RX2 19 "MeterSeals$Table" "belows" "[J", Cond.fieldLink RX2 22 "MeterSeals$Table" "count" "I", Cond.methodLink RX2 40 Lib.Math.max.name, Cond.static Lib.Math.max.name, Cond.initialized "java/lang/Math", Cond.code Lib.Math.max.name Lib.Math.max.code 2 (some .int), Cond.static yX3_within]
def wsX3_row_r2 : List Cond := [Cond.code yX3_within cX3_within 6 (some .boolean), Cond.methodLink RX2 36 yX2_placeFor, Cond.instanceMethod yX2_placeFor, Cond.selects RX2 yX2_placeFor yX2_placeFor, Cond.code yX2_placeFor cX2_placeFor 3 (some .int)]
def wsX3_row : List Cond := .code yX3_row cX3_row 8 (some .boolean) :: ((wsX3_row_r1 ++ wsX3_row_r2) ++ wsX00 ++ wsX30 ++ wsX20)
def wsX3_litres_r1 : List Cond := [Cond.constantLong RX3 40 (-1), Cond.classLink RX3 52 RJx00060, Cond.instantiable RJx00060 6, Cond.initialized RJx00060, Cond.methodLink RX3 22 yX3_find, Cond.instanceMethod yX3_find, Cond.selects RX3 yX3_find yX3_find, Cond.initialized RX3, Cond.code yX3_find cX3_find 2 (some (.object "MeterSeals$Meter")), Cond.fieldLink RX3 15 "MeterSeals" "meterCount" "I", Cond.fieldLink RX3 11 "MeterSeals" "meters" "[LMeterSeals$Meter;", Cond.methodLink RX3 46 yX1_holds, Cond.instanceMethod yX1_holds, Cond.selects RX1 yX1_holds yX1_holds, Cond.initialized RX1, Cond.code yX1_holds cX1_holds 2 (some .boolean), Cond.fieldLink RX1 33 "MeterSeals$Rows" "count" "I", Cond.methodLink RX3 59 yX0_fractionPart, Cond.instanceMethod yX0_fractionPart, Cond.selects RX0 yX0_fractionPart yX0_fractionPart, Cond.initialized RX0, Cond.code yX0_fractionPart cX0_fractionPart 7 (some .long), Cond.methodLink RX0 63 yX0_litresAbove, Cond.instanceMethod yX0_litresAbove]
def wsX3_litres_r2 : List Cond := [Cond.selects RX0 yX0_litresAbove yX0_litresAbove, Cond.code yX0_litresAbove cX0_litresAbove 2 (some .long), Cond.fieldLink RX0 23 "MeterSeals$Meter" "rows" "LMeterSeals$Rows;", Cond.fieldLink RX0 12 "MeterSeals$Meter" "table" "LMeterSeals$Table;", Cond.methodLink RX0 80 yX1_pulsesOf, Cond.instanceMethod yX1_pulsesOf, Cond.selects RX1 yX1_pulsesOf yX1_pulsesOf, Cond.code yX1_pulsesOf cX1_pulsesOf 2 (some .long), Cond.fieldLink RX1 15 "MeterSeals$Rows" "numbers" "[J", Cond.methodLink RX1 45 yX1_isReading, Cond.instanceMethod yX1_isReading, Cond.selects RX1 yX1_isReading yX1_isReading, Cond.code yX1_isReading cX1_isReading 2 (some .boolean), Cond.fieldLink RX1 19 "MeterSeals$Rows" "stamps" "[J", Cond.methodLink RX1 41 yX1_holds, Cond.methodLink RX0 83 yX1_degreesOf, Cond.instanceMethod yX1_degreesOf, Cond.selects RX1 yX1_degreesOf yX1_degreesOf, Cond.code yX1_degreesOf cX1_degreesOf 2 (some .int), Cond.fieldLink RX1 22 "MeterSeals$Rows" "degrees" "[I", Cond.methodLink RX0 87 yX2_aboveAt, Cond.instanceMethod yX2_aboveAt, Cond.selects RX2 yX2_aboveAt yX2_aboveAt, Cond.initialized RX2]
def wsX3_litres_r3 : List Cond := [Cond.code yX2_aboveAt cX2_aboveAt 3 (some .long), Cond.fieldLink RX2 15 "MeterSeals$Table" "aboves" "[J", Cond.methodLink RX2 46 yX2_lineAt, Cond.instanceMethod yX2_lineAt, Cond.selects RX2 yX2_lineAt yX2_lineAt, Cond.code yX2_lineAt cX2_lineAt 4 (some .int), Cond.fieldLink RX2 22 "MeterSeals$Table" "count" "I", Cond.fieldLink RX2 9 "MeterSeals$Table" "starts" "[I", Cond.methodLink RX2 49 yX2_goesBefore, Cond.static yX2_goesBefore, Cond.code yX2_goesBefore cX2_goesBefore 3 (some .boolean), Cond.methodLink RX0 67 yX0_litresBelow, Cond.instanceMethod yX0_litresBelow, Cond.selects RX0 yX0_litresBelow yX0_litresBelow, Cond.code yX0_litresBelow cX0_litresBelow 2 (some .long), Cond.methodLink RX0 90 yX1_isReading, Cond.methodLink RX0 94 yX2_belowAt, Cond.instanceMethod yX2_belowAt, Cond.selects RX2 yX2_belowAt yX2_belowAt, Cond.code yX2_belowAt cX2_belowAt 3 (some .long), Cond.fieldLink RX2 19 "MeterSeals$Table" "belows" "[J", Cond.static yX3_commonDivisor, Cond.code yX3_commonDivisor cX3_commonDivisor 11 (some .long), Cond.static yX3_quotient]
def wsX3_litres_r4 : List Cond := [Cond.code yX3_quotient cX3_quotient 4 (some .long)]
def wsX3_litres : List Cond := .code yX3_litres cX3_litres 5 (some .long) :: ((wsX3_litres_r1 ++ (wsX3_litres_r2 ++ (wsX3_litres_r3 ++ wsX3_litres_r4))) ++ wsX00 ++ wsJx000600 ++ wsX30 ++ wsX10 ++ wsX20)
def wsX3_rows : List Cond := .code yX3_rows cX3_rows 3 (some .int) :: ([.methodLink RX3 22 yX3_find, .instanceMethod yX3_find, .selects RX3 yX3_find yX3_find, .initialized RX3, .code yX3_find cX3_find 2 (some (.object "MeterSeals$Meter")), .fieldLink RX3 15 "MeterSeals" "meterCount" "I", .fieldLink RX3 11 "MeterSeals" "meters" "[LMeterSeals$Meter;"] ++ wsX00 ++ wsX10 ++ wsX30)
def wsX3_check_r1 : List Cond := [Cond.methodLink RX3 22 yX3_find, Cond.instanceMethod yX3_find, Cond.selects RX3 yX3_find yX3_find, Cond.initialized RX3, Cond.code yX3_find cX3_find 2 (some (.object "MeterSeals$Meter")), Cond.fieldLink RX3 15 "MeterSeals" "meterCount" "I", Cond.fieldLink RX3 11 "MeterSeals" "meters" "[LMeterSeals$Meter;", Cond.methodLink RX3 66 yX1_firstWrong, Cond.instanceMethod yX1_firstWrong, Cond.selects RX1 yX1_firstWrong yX1_firstWrong, Cond.initialized RX1, Cond.code yX1_firstWrong cX1_firstWrong 3 (some .int), Cond.fieldLink RX1 33 "MeterSeals$Rows" "count" "I", Cond.fieldLink RX1 26 "MeterSeals$Rows" "sums" "[J", Cond.methodLink RX1 37 yX1_dueSum, Cond.instanceMethod yX1_dueSum, Cond.selects RX1 yX1_dueSum yX1_dueSum, Cond.code yX1_dueSum cX1_dueSum 6 (some .long), Cond.fieldLink RX1 9 "MeterSeals$Rows" "key" "J", Cond.constantLong RX1 57 (3), Cond.fieldLink RX1 15 "MeterSeals$Rows" "numbers" "[J", Cond.fieldLink RX1 19 "MeterSeals$Rows" "stamps" "[J", Cond.fieldLink RX1 22 "MeterSeals$Rows" "degrees" "[I", Cond.methodLink RX1 41 yX1_holds]
def wsX3_check_r2 : List Cond := [Cond.instanceMethod yX1_holds, Cond.selects RX1 yX1_holds yX1_holds, Cond.code yX1_holds cX1_holds 2 (some .boolean), Cond.methodLink RX1 59 yX1_stir, Cond.static yX1_stir, Cond.code yX1_stir cX1_stir 6 (some .long), Cond.constantLong RX1 63 (1099511628211)]
def wsX3_check : List Cond := .code yX3_check cX3_check 4 (some .int) :: ((wsX3_check_r1 ++ wsX3_check_r2) ++ wsX00 ++ wsX30 ++ wsX10)
def wsX3_poke_r1 : List Cond := [Cond.methodLink RX3 22 yX3_find, Cond.instanceMethod yX3_find, Cond.selects RX3 yX3_find yX3_find, Cond.initialized RX3, Cond.code yX3_find cX3_find 2 (some (.object "MeterSeals$Meter")), Cond.fieldLink RX3 15 "MeterSeals" "meterCount" "I", Cond.fieldLink RX3 11 "MeterSeals" "meters" "[LMeterSeals$Meter;", Cond.methodLink RX3 70 yX1_addPulses, Cond.instanceMethod yX1_addPulses, Cond.selects RX1 yX1_addPulses yX1_addPulses, Cond.initialized RX1, Cond.code yX1_addPulses cX1_addPulses 6 (some .boolean), Cond.constantLong RX1 51 (1000000), Cond.fieldLink RX1 15 "MeterSeals$Rows" "numbers" "[J", Cond.methodLink RX1 48 yX1_pulsesOf, Cond.instanceMethod yX1_pulsesOf, Cond.selects RX1 yX1_pulsesOf yX1_pulsesOf, Cond.code yX1_pulsesOf cX1_pulsesOf 2 (some .long), Cond.methodLink RX1 45 yX1_isReading, Cond.instanceMethod yX1_isReading, Cond.selects RX1 yX1_isReading yX1_isReading, Cond.code yX1_isReading cX1_isReading 2 (some .boolean), Cond.fieldLink RX1 19 "MeterSeals$Rows" "stamps" "[J", Cond.methodLink RX1 41 yX1_holds]
def wsX3_poke_r2 : List Cond := [Cond.instanceMethod yX1_holds, Cond.selects RX1 yX1_holds yX1_holds, Cond.code yX1_holds cX1_holds 2 (some .boolean), Cond.fieldLink RX1 33 "MeterSeals$Rows" "count" "I", Cond.static yX3_within, Cond.code yX3_within cX3_within 6 (some .boolean)]
def wsX3_poke : List Cond := .code yX3_poke cX3_poke 6 (some .boolean) :: ((wsX3_poke_r1 ++ wsX3_poke_r2) ++ wsX00 ++ wsX30 ++ wsX10)
def wsX3_seal_r1 : List Cond := [Cond.methodLink RX3 22 yX3_find, Cond.instanceMethod yX3_find, Cond.selects RX3 yX3_find yX3_find, Cond.initialized RX3, Cond.code yX3_find cX3_find 2 (some (.object "MeterSeals$Meter")), Cond.fieldLink RX3 15 "MeterSeals" "meterCount" "I", Cond.fieldLink RX3 11 "MeterSeals" "meters" "[LMeterSeals$Meter;", Cond.methodLink RX3 74 yX0_turnSeal, Cond.instanceMethod yX0_turnSeal, Cond.selects RX0 yX0_turnSeal yX0_turnSeal, Cond.initialized RX0, Cond.code yX0_turnSeal cX0_turnSeal 3 (some .boolean), Cond.constantLong RX0 57 (999), Cond.fieldLink RX0 27 "MeterSeals$Meter" "sealed" "Z", Cond.fieldLink RX0 23 "MeterSeals$Meter" "rows" "LMeterSeals$Rows;", Cond.constantLong RX0 59 (-3), Cond.constantLong RX0 61 (-2), Cond.static yX3_within, Cond.code yX3_within cX3_within 6 (some .boolean), Cond.methodLink RX0 51 yX1_add, Cond.instanceMethod yX1_add, Cond.selects RX1 yX1_add yX1_add, Cond.initialized RX1, Cond.code yX1_add cX1_add 8 (some .boolean)]
def wsX3_seal_r2 : List Cond := [Cond.fieldLink RX1 33 "MeterSeals$Rows" "count" "I", Cond.fieldLink RX1 15 "MeterSeals$Rows" "numbers" "[J", Cond.fieldLink RX1 19 "MeterSeals$Rows" "stamps" "[J", Cond.fieldLink RX1 22 "MeterSeals$Rows" "degrees" "[I", Cond.fieldLink RX1 29 "MeterSeals$Rows" "marks" "[Z", Cond.fieldLink RX1 26 "MeterSeals$Rows" "sums" "[J", Cond.methodLink RX1 37 yX1_dueSum, Cond.instanceMethod yX1_dueSum, Cond.selects RX1 yX1_dueSum yX1_dueSum, Cond.code yX1_dueSum cX1_dueSum 6 (some .long), Cond.fieldLink RX1 9 "MeterSeals$Rows" "key" "J", Cond.constantLong RX1 57 (3), Cond.methodLink RX1 41 yX1_holds, Cond.instanceMethod yX1_holds, Cond.selects RX1 yX1_holds yX1_holds, Cond.code yX1_holds cX1_holds 2 (some .boolean), Cond.methodLink RX1 59 yX1_stir, Cond.static yX1_stir, Cond.code yX1_stir cX1_stir 6 (some .long), Cond.constantLong RX1 63 (1099511628211)]
def wsX3_seal : List Cond := .code yX3_seal cX3_seal 5 (some .boolean) :: ((wsX3_seal_r1 ++ wsX3_seal_r2) ++ wsX30 ++ wsX00 ++ wsX10)
def wsX3_marked : List Cond := .code yX3_marked cX3_marked 4 (some .boolean) :: ([.methodLink RX3 22 yX3_find, .instanceMethod yX3_find, .selects RX3 yX3_find yX3_find, .initialized RX3, .code yX3_find cX3_find 2 (some (.object "MeterSeals$Meter")), .fieldLink RX3 15 "MeterSeals" "meterCount" "I", .fieldLink RX3 11 "MeterSeals" "meters" "[LMeterSeals$Meter;", .methodLink RX3 78 yX1_hasMark, .instanceMethod yX1_hasMark, .selects RX1 yX1_hasMark yX1_hasMark, .initialized RX1, .code yX1_hasMark cX1_hasMark 2 (some .boolean), .fieldLink RX1 29 "MeterSeals$Rows" "marks" "[Z", .methodLink RX1 41 yX1_holds, .instanceMethod yX1_holds, .selects RX1 yX1_holds yX1_holds, .code yX1_holds cX1_holds 2 (some .boolean), .fieldLink RX1 33 "MeterSeals$Rows" "count" "I"] ++ wsX00 ++ wsX30 ++ wsX10)
def wsX3_gap_r1 : List Cond := [Cond.methodLink RX3 22 yX3_find, Cond.instanceMethod yX3_find, Cond.selects RX3 yX3_find yX3_find, Cond.initialized RX3, Cond.code yX3_find cX3_find 2 (some (.object "MeterSeals$Meter")), Cond.fieldLink RX3 15 "MeterSeals" "meterCount" "I", Cond.fieldLink RX3 11 "MeterSeals" "meters" "[LMeterSeals$Meter;", Cond.methodLink RX3 81 yX1_findGap, Cond.instanceMethod yX1_findGap, Cond.selects RX1 yX1_findGap yX1_findGap, Cond.initialized RX1, Cond.code yX1_findGap cX1_findGap 9 (some .int), Cond.constantLong RX1 65 (-1), Cond.fieldLink RX1 33 "MeterSeals$Rows" "count" "I", Cond.fieldLink RX1 19 "MeterSeals$Rows" "stamps" "[J", Cond.constantLong RX1 67 (3600), Cond.methodLink RX1 45 yX1_isReading, Cond.instanceMethod yX1_isReading, Cond.selects RX1 yX1_isReading yX1_isReading, Cond.code yX1_isReading cX1_isReading 2 (some .boolean), Cond.methodLink RX1 41 yX1_holds, Cond.instanceMethod yX1_holds, Cond.selects RX1 yX1_holds yX1_holds, Cond.code yX1_holds cX1_holds 2 (some .boolean)]
def wsX3_gap_r2 : List Cond := [Cond.methodLink RX1 69 yX1_wholeMinutes, Cond.static yX1_wholeMinutes, Cond.code yX1_wholeMinutes cX1_wholeMinutes 2 (some .int), Cond.constantLong RX1 73 (60), Cond.constantLong RX1 75 (2147483647), Cond.methodLink RX1 77 Lib.MathLoose.min_long.x, Cond.static Lib.MathLoose.min_long.x, Cond.initialized "java/lang/Math", Cond.code Lib.MathLoose.min_long.x Lib.MathLoose.min_long.code 4 (some .long)]
def wsX3_gap : List Cond := .code yX3_gap cX3_gap 5 (some .int) :: ((wsX3_gap_r1 ++ wsX3_gap_r2) ++ wsX00 ++ wsX30 ++ wsX10)
def wsX3_rest_r1 : List Cond := [Cond.constantLong RX3 85 (1000000000), Cond.constantLong RX3 91 (-9223372036854775808), Cond.constantLong RX3 97 (1000), Cond.methodLink RX3 22 yX3_find, Cond.instanceMethod yX3_find, Cond.selects RX3 yX3_find yX3_find, Cond.initialized RX3, Cond.code yX3_find cX3_find 2 (some (.object "MeterSeals$Meter")), Cond.fieldLink RX3 15 "MeterSeals" "meterCount" "I", Cond.fieldLink RX3 11 "MeterSeals" "meters" "[LMeterSeals$Meter;", Cond.methodLink RX3 87 yX3_within, Cond.static yX3_within, Cond.code yX3_within cX3_within 6 (some .boolean), Cond.methodLink RX3 93 yX0_allThousandths, Cond.instanceMethod yX0_allThousandths, Cond.selects RX0 yX0_allThousandths yX0_allThousandths, Cond.initialized RX0, Cond.code yX0_allThousandths cX0_allThousandths 4 (some .long), Cond.fieldLink RX0 23 "MeterSeals$Meter" "rows" "LMeterSeals$Rows;", Cond.constantLong RX0 78 (1000), Cond.methodLink RX0 63 yX0_litresAbove, Cond.instanceMethod yX0_litresAbove, Cond.selects RX0 yX0_litresAbove yX0_litresAbove, Cond.code yX0_litresAbove cX0_litresAbove 2 (some .long)]
def wsX3_rest_r2 : List Cond := [Cond.fieldLink RX0 12 "MeterSeals$Meter" "table" "LMeterSeals$Table;", Cond.methodLink RX0 80 yX1_pulsesOf, Cond.instanceMethod yX1_pulsesOf, Cond.selects RX1 yX1_pulsesOf yX1_pulsesOf, Cond.initialized RX1, Cond.code yX1_pulsesOf cX1_pulsesOf 2 (some .long), Cond.fieldLink RX1 15 "MeterSeals$Rows" "numbers" "[J", Cond.methodLink RX1 45 yX1_isReading, Cond.instanceMethod yX1_isReading, Cond.selects RX1 yX1_isReading yX1_isReading, Cond.code yX1_isReading cX1_isReading 2 (some .boolean), Cond.fieldLink RX1 19 "MeterSeals$Rows" "stamps" "[J", Cond.methodLink RX1 41 yX1_holds, Cond.instanceMethod yX1_holds, Cond.selects RX1 yX1_holds yX1_holds, Cond.code yX1_holds cX1_holds 2 (some .boolean), Cond.fieldLink RX1 33 "MeterSeals$Rows" "count" "I", Cond.methodLink RX0 83 yX1_degreesOf, Cond.instanceMethod yX1_degreesOf, Cond.selects RX1 yX1_degreesOf yX1_degreesOf, Cond.code yX1_degreesOf cX1_degreesOf 2 (some .int), Cond.fieldLink RX1 22 "MeterSeals$Rows" "degrees" "[I", Cond.methodLink RX0 87 yX2_aboveAt, Cond.instanceMethod yX2_aboveAt]
def wsX3_rest_r3 : List Cond := [Cond.selects RX2 yX2_aboveAt yX2_aboveAt, Cond.initialized RX2, Cond.code yX2_aboveAt cX2_aboveAt 3 (some .long), Cond.fieldLink RX2 15 "MeterSeals$Table" "aboves" "[J", Cond.methodLink RX2 46 yX2_lineAt, Cond.instanceMethod yX2_lineAt, Cond.selects RX2 yX2_lineAt yX2_lineAt, Cond.code yX2_lineAt cX2_lineAt 4 (some .int), Cond.fieldLink RX2 22 "MeterSeals$Table" "count" "I", Cond.fieldLink RX2 9 "MeterSeals$Table" "starts" "[I", Cond.methodLink RX2 49 yX2_goesBefore, Cond.static yX2_goesBefore, Cond.code yX2_goesBefore cX2_goesBefore 3 (some .boolean), Cond.methodLink RX0 67 yX0_litresBelow, Cond.instanceMethod yX0_litresBelow, Cond.selects RX0 yX0_litresBelow yX0_litresBelow, Cond.code yX0_litresBelow cX0_litresBelow 2 (some .long), Cond.methodLink RX0 90 yX1_isReading, Cond.methodLink RX0 94 yX2_belowAt, Cond.instanceMethod yX2_belowAt, Cond.selects RX2 yX2_belowAt yX2_belowAt, Cond.code yX2_belowAt cX2_belowAt 3 (some .long), Cond.fieldLink RX2 19 "MeterSeals$Table" "belows" "[J", Cond.static yX3_quotient]
def wsX3_rest_r4 : List Cond := [Cond.code yX3_quotient cX3_quotient 4 (some .long)]
def wsX3_rest : List Cond := .code yX3_rest cX3_rest 5 (some .long) :: ((wsX3_rest_r1 ++ (wsX3_rest_r2 ++ (wsX3_rest_r3 ++ wsX3_rest_r4))) ++ wsX30 ++ wsX00 ++ wsX10 ++ wsX20)
def wsX3_reset_r1 : List Cond := [Cond.methodLink RX3 22 yX3_find, Cond.instanceMethod yX3_find, Cond.selects RX3 yX3_find yX3_find, Cond.initialized RX3, Cond.code yX3_find cX3_find 2 (some (.object "MeterSeals$Meter")), Cond.fieldLink RX3 15 "MeterSeals" "meterCount" "I", Cond.fieldLink RX3 11 "MeterSeals" "meters" "[LMeterSeals$Meter;", Cond.methodLink RX3 99 yX0_addReset, Cond.instanceMethod yX0_addReset, Cond.selects RX0 yX0_addReset yX0_addReset, Cond.initialized RX0, Cond.code yX0_addReset cX0_addReset 3 (some .boolean), Cond.constantLong RX0 45 (1000000000000), Cond.fieldLink RX0 23 "MeterSeals$Meter" "rows" "LMeterSeals$Rows;", Cond.constantLong RX0 55 (-1), Cond.fieldLink RX0 27 "MeterSeals$Meter" "sealed" "Z", Cond.static yX3_within, Cond.code yX3_within cX3_within 6 (some .boolean), Cond.methodLink RX0 51 yX1_add, Cond.instanceMethod yX1_add, Cond.selects RX1 yX1_add yX1_add, Cond.initialized RX1, Cond.code yX1_add cX1_add 8 (some .boolean), Cond.fieldLink RX1 33 "MeterSeals$Rows" "count" "I"]
def wsX3_reset_r2 : List Cond := [Cond.fieldLink RX1 15 "MeterSeals$Rows" "numbers" "[J", Cond.fieldLink RX1 19 "MeterSeals$Rows" "stamps" "[J", Cond.fieldLink RX1 22 "MeterSeals$Rows" "degrees" "[I", Cond.fieldLink RX1 29 "MeterSeals$Rows" "marks" "[Z", Cond.fieldLink RX1 26 "MeterSeals$Rows" "sums" "[J", Cond.methodLink RX1 37 yX1_dueSum, Cond.instanceMethod yX1_dueSum, Cond.selects RX1 yX1_dueSum yX1_dueSum, Cond.code yX1_dueSum cX1_dueSum 6 (some .long), Cond.fieldLink RX1 9 "MeterSeals$Rows" "key" "J", Cond.constantLong RX1 57 (3), Cond.methodLink RX1 41 yX1_holds, Cond.instanceMethod yX1_holds, Cond.selects RX1 yX1_holds yX1_holds, Cond.code yX1_holds cX1_holds 2 (some .boolean), Cond.methodLink RX1 59 yX1_stir, Cond.static yX1_stir, Cond.code yX1_stir cX1_stir 6 (some .long), Cond.constantLong RX1 63 (1099511628211)]
def wsX3_reset : List Cond := .code yX3_reset cX3_reset 5 (some .boolean) :: ((wsX3_reset_r1 ++ wsX3_reset_r2) ++ wsX30 ++ wsX00 ++ wsX10)
def wsX3_roll_r1 : List Cond := [Cond.methodLink RX3 22 yX3_find, Cond.instanceMethod yX3_find, Cond.selects RX3 yX3_find yX3_find, Cond.initialized RX3, Cond.code yX3_find cX3_find 2 (some (.object "MeterSeals$Meter")), Cond.fieldLink RX3 15 "MeterSeals" "meterCount" "I", Cond.fieldLink RX3 11 "MeterSeals" "meters" "[LMeterSeals$Meter;", Cond.methodLink RX3 103 yX1_rollByte, Cond.instanceMethod yX1_rollByte, Cond.selects RX1 yX1_rollByte yX1_rollByte, Cond.initialized RX1, Cond.code yX1_rollByte cX1_rollByte 5 (some .int), Cond.fieldLink RX1 33 "MeterSeals$Rows" "count" "I", Cond.methodLink RX1 82 yX1_lineLength, Cond.instanceMethod yX1_lineLength, Cond.selects RX1 yX1_lineLength yX1_lineLength, Cond.code yX1_lineLength cX1_lineLength 4 (some .int), Cond.methodLink RX1 90 yX1_fieldCount, Cond.instanceMethod yX1_fieldCount, Cond.selects RX1 yX1_fieldCount yX1_fieldCount, Cond.code yX1_fieldCount cX1_fieldCount 2 (some .int), Cond.methodLink RX1 45 yX1_isReading, Cond.instanceMethod yX1_isReading, Cond.selects RX1 yX1_isReading yX1_isReading]
def wsX3_roll_r2 : List Cond := [Cond.code yX1_isReading cX1_isReading 2 (some .boolean), Cond.fieldLink RX1 19 "MeterSeals$Rows" "stamps" "[J", Cond.methodLink RX1 41 yX1_holds, Cond.instanceMethod yX1_holds, Cond.selects RX1 yX1_holds yX1_holds, Cond.code yX1_holds cX1_holds 2 (some .boolean), Cond.methodLink RX1 93 yX1_fieldOf, Cond.instanceMethod yX1_fieldOf, Cond.selects RX1 yX1_fieldOf yX1_fieldOf, Cond.code yX1_fieldOf cX1_fieldOf 3 (some .long), Cond.fieldLink RX1 15 "MeterSeals$Rows" "numbers" "[J", Cond.fieldLink RX1 22 "MeterSeals$Rows" "degrees" "[I", Cond.static yX3_textLength, Cond.code yX3_textLength cX3_textLength 6 (some .int), Cond.constantLong RX3 106 (10), Cond.methodLink RX1 100 yX1_hasMark, Cond.instanceMethod yX1_hasMark, Cond.selects RX1 yX1_hasMark yX1_hasMark, Cond.code yX1_hasMark cX1_hasMark 2 (some .boolean), Cond.fieldLink RX1 29 "MeterSeals$Rows" "marks" "[Z", Cond.methodLink RX1 86 yX1_lineByte, Cond.instanceMethod yX1_lineByte, Cond.selects RX1 yX1_lineByte yX1_lineByte, Cond.code yX1_lineByte cX1_lineByte 8 (some .int)]
def wsX3_roll_r3 : List Cond := [Cond.methodLink RX1 103 yX1_letterOf, Cond.instanceMethod yX1_letterOf, Cond.selects RX1 yX1_letterOf yX1_letterOf, Cond.code yX1_letterOf cX1_letterOf 2 (some .char), Cond.constantLong RX1 65 (-1), Cond.constantLong RX1 111 (-2), Cond.static yX3_textByte, Cond.code yX3_textByte cX3_textByte 6 (some .int), Cond.methodLink RX3 112 Lib.MathLoose.abs_long.x, Cond.static Lib.MathLoose.abs_long.x, Cond.initialized "java/lang/Math", Cond.code Lib.MathLoose.abs_long.x Lib.MathLoose.abs_long.code 2 (some .long), Cond.methodLink RX3 108 yX3_textLength]
def wsX3_roll : List Cond := .code yX3_roll cX3_roll 4 (some .int) :: ((wsX3_roll_r1 ++ (wsX3_roll_r2 ++ wsX3_roll_r3)) ++ wsX00 ++ wsX30 ++ wsX10)
def wsX4_init : List Cond := .code yX4_init cX4_init 1 none :: ([.methodLink RX4 1 objectInit, .instanceMethod objectInit, .code objectInit ⟨#[0xb1]⟩ 1 none, .arrayClass .long, .fieldLink RX4 9 "MeterSealsModel" "keys" "[J", .arrayClass .int, .fieldLink RX4 13 "MeterSealsModel" "rows" "[I", .fieldLink RX4 17 "MeterSealsModel" "lines" "[I", .fieldLink RX4 20 "MeterSealsModel" "kind" "[I", .fieldLink RX4 23 "MeterSealsModel" "number" "[J", .fieldLink RX4 26 "MeterSealsModel" "second" "[J", .fieldLink RX4 29 "MeterSealsModel" "warm" "[I", .fieldLink RX4 32 "MeterSealsModel" "sum" "[J", .fieldLink RX4 35 "MeterSealsModel" "lineDegrees" "[I", .fieldLink RX4 38 "MeterSealsModel" "lineAbove" "[J", .fieldLink RX4 41 "MeterSealsModel" "lineBelow" "[J", .fieldLink RX4 44 "MeterSealsModel" "text" "[I"] ++ wsX40)
def wsX4_thrown : List Cond := .code yX4_thrown cX4_thrown 1 (some .int) :: ([.fieldLink RX4 47 "MeterSealsModel" "thrown" "I"] ++ wsX40)
def wsX4_isMeter : List Cond := .code yX4_isMeter cX4_isMeter 2 (some .boolean) :: ([.fieldLink RX4 51 "MeterSealsModel" "meters" "I"] ++ wsX40)
def wsX4_isRow : List Cond := .code yX4_isRow cX4_isRow 3 (some .boolean) :: ([.fieldLink RX4 13 "MeterSealsModel" "rows" "[I", .methodLink RX4 54 yX4_isMeter, .instanceMethod yX4_isMeter, .selects RX4 yX4_isMeter yX4_isMeter, .initialized RX4, .code yX4_isMeter cX4_isMeter 2 (some .boolean), .fieldLink RX4 51 "MeterSealsModel" "meters" "I"] ++ wsX40)
def wsX4_meter : List Cond := .code yX4_meter cX4_meter 3 (some .int) :: ([.fieldLink RX4 47 "MeterSealsModel" "thrown" "I", .fieldLink RX4 51 "MeterSealsModel" "meters" "I", .fieldLink RX4 9 "MeterSealsModel" "keys" "[J"] ++ wsX40)
def wsX4_mixed : List Cond := .code yX4_mixed cX4_mixed 6 (some .long) :: ([.constantLong RX4 58 (1099511628211)])
def wsX4_due : List Cond := .code yX4_due cX4_due 6 (some .long) :: ([.constantLong RX4 60 (3), .fieldLink RX4 9 "MeterSealsModel" "keys" "[J", .fieldLink RX4 32 "MeterSealsModel" "sum" "[J", .fieldLink RX4 23 "MeterSealsModel" "number" "[J", .fieldLink RX4 20 "MeterSealsModel" "kind" "[I", .fieldLink RX4 26 "MeterSealsModel" "second" "[J", .fieldLink RX4 29 "MeterSealsModel" "warm" "[I", .methodLink RX4 62 yX4_mixed, .static yX4_mixed, .initialized RX4, .code yX4_mixed cX4_mixed 6 (some .long), .constantLong RX4 58 (1099511628211)] ++ wsX40)
def wsX4_add : List Cond := .code yX4_add cX4_add 9 none :: ([.fieldLink RX4 13 "MeterSealsModel" "rows" "[I", .fieldLink RX4 20 "MeterSealsModel" "kind" "[I", .fieldLink RX4 23 "MeterSealsModel" "number" "[J", .fieldLink RX4 26 "MeterSealsModel" "second" "[J", .fieldLink RX4 29 "MeterSealsModel" "warm" "[I", .fieldLink RX4 32 "MeterSealsModel" "sum" "[J", .methodLink RX4 66 yX4_due, .instanceMethod yX4_due, .selects RX4 yX4_due yX4_due, .initialized RX4, .code yX4_due cX4_due 6 (some .long), .constantLong RX4 60 (3), .fieldLink RX4 9 "MeterSealsModel" "keys" "[J", .methodLink RX4 62 yX4_mixed, .static yX4_mixed, .code yX4_mixed cX4_mixed 6 (some .long), .constantLong RX4 58 (1099511628211)] ++ wsX40)
def wsX4_pulses_r1 : List Cond := [Cond.fieldLink RX4 47 "MeterSealsModel" "thrown" "I", Cond.fieldLink RX4 17 "MeterSealsModel" "lines" "[I", Cond.constantLong RX4 70 (1000000), Cond.constantLong RX4 72 (1000000000000), Cond.fieldLink RX4 13 "MeterSealsModel" "rows" "[I", Cond.fieldLink RX4 20 "MeterSealsModel" "kind" "[I", Cond.fieldLink RX4 26 "MeterSealsModel" "second" "[J", Cond.methodLink RX4 54 yX4_isMeter, Cond.instanceMethod yX4_isMeter, Cond.selects RX4 yX4_isMeter yX4_isMeter, Cond.initialized RX4, Cond.code yX4_isMeter cX4_isMeter 2 (some .boolean), Cond.fieldLink RX4 51 "MeterSealsModel" "meters" "I", Cond.methodLink RX4 74 yX4_add, Cond.instanceMethod yX4_add, Cond.selects RX4 yX4_add yX4_add, Cond.code yX4_add cX4_add 9 none, Cond.fieldLink RX4 23 "MeterSealsModel" "number" "[J", Cond.fieldLink RX4 29 "MeterSealsModel" "warm" "[I", Cond.fieldLink RX4 32 "MeterSealsModel" "sum" "[J", Cond.methodLink RX4 66 yX4_due, Cond.instanceMethod yX4_due, Cond.selects RX4 yX4_due yX4_due, Cond.code yX4_due cX4_due 6 (some .long)]
def wsX4_pulses_r2 : List Cond := [Cond.constantLong RX4 60 (3), Cond.fieldLink RX4 9 "MeterSealsModel" "keys" "[J", Cond.methodLink RX4 62 yX4_mixed, Cond.static yX4_mixed, Cond.code yX4_mixed cX4_mixed 6 (some .long), Cond.constantLong RX4 58 (1099511628211)]
def wsX4_pulses : List Cond := .code yX4_pulses cX4_pulses 9 (some .boolean) :: ((wsX4_pulses_r1 ++ wsX4_pulses_r2) ++ wsX40)
def wsX4_reset_r1 : List Cond := [Cond.fieldLink RX4 47 "MeterSealsModel" "thrown" "I", Cond.constantLong RX4 72 (1000000000000), Cond.fieldLink RX4 13 "MeterSealsModel" "rows" "[I", Cond.methodLink RX4 54 yX4_isMeter, Cond.instanceMethod yX4_isMeter, Cond.selects RX4 yX4_isMeter yX4_isMeter, Cond.initialized RX4, Cond.code yX4_isMeter cX4_isMeter 2 (some .boolean), Cond.fieldLink RX4 51 "MeterSealsModel" "meters" "I", Cond.methodLink RX4 74 yX4_add, Cond.instanceMethod yX4_add, Cond.selects RX4 yX4_add yX4_add, Cond.code yX4_add cX4_add 9 none, Cond.fieldLink RX4 20 "MeterSealsModel" "kind" "[I", Cond.fieldLink RX4 23 "MeterSealsModel" "number" "[J", Cond.fieldLink RX4 26 "MeterSealsModel" "second" "[J", Cond.fieldLink RX4 29 "MeterSealsModel" "warm" "[I", Cond.fieldLink RX4 32 "MeterSealsModel" "sum" "[J", Cond.methodLink RX4 66 yX4_due, Cond.instanceMethod yX4_due, Cond.selects RX4 yX4_due yX4_due, Cond.code yX4_due cX4_due 6 (some .long), Cond.constantLong RX4 60 (3), Cond.fieldLink RX4 9 "MeterSealsModel" "keys" "[J"]
def wsX4_reset_r2 : List Cond := [Cond.methodLink RX4 62 yX4_mixed, Cond.static yX4_mixed, Cond.code yX4_mixed cX4_mixed 6 (some .long), Cond.constantLong RX4 58 (1099511628211)]
def wsX4_reset : List Cond := .code yX4_reset cX4_reset 5 (some .boolean) :: ((wsX4_reset_r1 ++ wsX4_reset_r2) ++ wsX40)
def wsX4_isSet : List Cond := .code yX4_isSet cX4_isSet 6 (some .boolean) :: ([.fieldLink RX4 20 "MeterSealsModel" "kind" "[I"] ++ wsX40)
def wsX4_seal_r1 : List Cond := [Cond.fieldLink RX4 47 "MeterSealsModel" "thrown" "I", Cond.fieldLink RX4 13 "MeterSealsModel" "rows" "[I", Cond.methodLink RX4 54 yX4_isMeter, Cond.instanceMethod yX4_isMeter, Cond.selects RX4 yX4_isMeter yX4_isMeter, Cond.initialized RX4, Cond.code yX4_isMeter cX4_isMeter 2 (some .boolean), Cond.fieldLink RX4 51 "MeterSealsModel" "meters" "I", Cond.methodLink RX4 78 yX4_isSet, Cond.instanceMethod yX4_isSet, Cond.selects RX4 yX4_isSet yX4_isSet, Cond.code yX4_isSet cX4_isSet 6 (some .boolean), Cond.fieldLink RX4 20 "MeterSealsModel" "kind" "[I", Cond.methodLink RX4 74 yX4_add, Cond.instanceMethod yX4_add, Cond.selects RX4 yX4_add yX4_add, Cond.code yX4_add cX4_add 9 none, Cond.fieldLink RX4 23 "MeterSealsModel" "number" "[J", Cond.fieldLink RX4 26 "MeterSealsModel" "second" "[J", Cond.fieldLink RX4 29 "MeterSealsModel" "warm" "[I", Cond.fieldLink RX4 32 "MeterSealsModel" "sum" "[J", Cond.methodLink RX4 66 yX4_due, Cond.instanceMethod yX4_due, Cond.selects RX4 yX4_due yX4_due]
def wsX4_seal_r2 : List Cond := [Cond.code yX4_due cX4_due 6 (some .long), Cond.constantLong RX4 60 (3), Cond.fieldLink RX4 9 "MeterSealsModel" "keys" "[J", Cond.methodLink RX4 62 yX4_mixed, Cond.static yX4_mixed, Cond.code yX4_mixed cX4_mixed 6 (some .long), Cond.constantLong RX4 58 (1099511628211)]
def wsX4_seal : List Cond := .code yX4_seal cX4_seal 5 (some .boolean) :: ((wsX4_seal_r1 ++ wsX4_seal_r2) ++ wsX40)
def wsX4_row : List Cond := .code yX4_row cX4_row 8 (some .boolean) :: ([.fieldLink RX4 47 "MeterSealsModel" "thrown" "I", .constantLong RX4 82 (10000), .fieldLink RX4 17 "MeterSealsModel" "lines" "[I", .fieldLink RX4 35 "MeterSealsModel" "lineDegrees" "[I", .fieldLink RX4 38 "MeterSealsModel" "lineAbove" "[J", .fieldLink RX4 41 "MeterSealsModel" "lineBelow" "[J", .methodLink RX4 54 yX4_isMeter, .instanceMethod yX4_isMeter, .selects RX4 yX4_isMeter yX4_isMeter, .initialized RX4, .code yX4_isMeter cX4_isMeter 2 (some .boolean), .fieldLink RX4 51 "MeterSealsModel" "meters" "I"] ++ wsX40)
def wsX4_line : List Cond := .code yX4_line cX4_line 7 (some .int) :: ([.fieldLink RX4 17 "MeterSealsModel" "lines" "[I", .fieldLink RX4 35 "MeterSealsModel" "lineDegrees" "[I"] ++ wsX40)
def wsX4_divisor : List Cond := .code yX4_divisor cX4_divisor 10 (some .long) :: ([])
def wsX4_litres_r1 : List Cond := [Cond.fieldLink RX4 47 "MeterSealsModel" "thrown" "I", Cond.constantLong RX4 84 (-1), Cond.fieldLink RX4 20 "MeterSealsModel" "kind" "[I", Cond.fieldLink RX4 29 "MeterSealsModel" "warm" "[I", Cond.fieldLink RX4 23 "MeterSealsModel" "number" "[J", Cond.fieldLink RX4 38 "MeterSealsModel" "lineAbove" "[J", Cond.fieldLink RX4 41 "MeterSealsModel" "lineBelow" "[J", Cond.methodLink RX4 54 yX4_isMeter, Cond.instanceMethod yX4_isMeter, Cond.selects RX4 yX4_isMeter yX4_isMeter, Cond.initialized RX4, Cond.code yX4_isMeter cX4_isMeter 2 (some .boolean), Cond.fieldLink RX4 51 "MeterSealsModel" "meters" "I", Cond.methodLink RX4 86 yX4_isRow, Cond.instanceMethod yX4_isRow, Cond.selects RX4 yX4_isRow yX4_isRow, Cond.code yX4_isRow cX4_isRow 3 (some .boolean), Cond.fieldLink RX4 13 "MeterSealsModel" "rows" "[I", Cond.methodLink RX4 89 yX4_line, Cond.instanceMethod yX4_line, Cond.selects RX4 yX4_line yX4_line, Cond.code yX4_line cX4_line 7 (some .int), Cond.fieldLink RX4 17 "MeterSealsModel" "lines" "[I", Cond.fieldLink RX4 35 "MeterSealsModel" "lineDegrees" "[I"]
def wsX4_litres_r2 : List Cond := [Cond.methodLink RX4 93 yX4_divisor, Cond.static yX4_divisor, Cond.code yX4_divisor cX4_divisor 10 (some .long)]
def wsX4_litres : List Cond := .code yX4_litres cX4_litres 10 (some .long) :: ((wsX4_litres_r1 ++ wsX4_litres_r2) ++ wsX40)
def wsX4_rest : List Cond := .code yX4_rest cX4_rest 8 (some .long) :: ([.fieldLink RX4 47 "MeterSealsModel" "thrown" "I", .constantLong RX4 96 (1000000000), .constantLong RX4 100 (-9223372036854775808), .fieldLink RX4 13 "MeterSealsModel" "rows" "[I", .fieldLink RX4 20 "MeterSealsModel" "kind" "[I", .fieldLink RX4 29 "MeterSealsModel" "warm" "[I", .fieldLink RX4 23 "MeterSealsModel" "number" "[J", .fieldLink RX4 38 "MeterSealsModel" "lineAbove" "[J", .constantLong RX4 102 (1000), .fieldLink RX4 41 "MeterSealsModel" "lineBelow" "[J", .methodLink RX4 54 yX4_isMeter, .instanceMethod yX4_isMeter, .selects RX4 yX4_isMeter yX4_isMeter, .initialized RX4, .code yX4_isMeter cX4_isMeter 2 (some .boolean), .fieldLink RX4 51 "MeterSealsModel" "meters" "I", .methodLink RX4 89 yX4_line, .instanceMethod yX4_line, .selects RX4 yX4_line yX4_line, .code yX4_line cX4_line 7 (some .int), .fieldLink RX4 17 "MeterSealsModel" "lines" "[I", .fieldLink RX4 35 "MeterSealsModel" "lineDegrees" "[I"] ++ wsX40)
def wsX4_rows : List Cond := .code yX4_rows cX4_rows 2 (some .int) :: ([.fieldLink RX4 47 "MeterSealsModel" "thrown" "I", .fieldLink RX4 13 "MeterSealsModel" "rows" "[I", .methodLink RX4 54 yX4_isMeter, .instanceMethod yX4_isMeter, .selects RX4 yX4_isMeter yX4_isMeter, .initialized RX4, .code yX4_isMeter cX4_isMeter 2 (some .boolean), .fieldLink RX4 51 "MeterSealsModel" "meters" "I"] ++ wsX40)
def wsX4_check : List Cond := .code yX4_check cX4_check 4 (some .int) :: ([.fieldLink RX4 47 "MeterSealsModel" "thrown" "I", .fieldLink RX4 13 "MeterSealsModel" "rows" "[I", .fieldLink RX4 32 "MeterSealsModel" "sum" "[J", .methodLink RX4 54 yX4_isMeter, .instanceMethod yX4_isMeter, .selects RX4 yX4_isMeter yX4_isMeter, .initialized RX4, .code yX4_isMeter cX4_isMeter 2 (some .boolean), .fieldLink RX4 51 "MeterSealsModel" "meters" "I", .methodLink RX4 66 yX4_due, .instanceMethod yX4_due, .selects RX4 yX4_due yX4_due, .code yX4_due cX4_due 6 (some .long), .constantLong RX4 60 (3), .fieldLink RX4 9 "MeterSealsModel" "keys" "[J", .fieldLink RX4 23 "MeterSealsModel" "number" "[J", .fieldLink RX4 20 "MeterSealsModel" "kind" "[I", .fieldLink RX4 26 "MeterSealsModel" "second" "[J", .fieldLink RX4 29 "MeterSealsModel" "warm" "[I", .methodLink RX4 62 yX4_mixed, .static yX4_mixed, .code yX4_mixed cX4_mixed 6 (some .long), .constantLong RX4 58 (1099511628211)] ++ wsX40)
def wsX4_poke : List Cond := .code yX4_poke cX4_poke 7 (some .boolean) :: ([.fieldLink RX4 47 "MeterSealsModel" "thrown" "I", .fieldLink RX4 20 "MeterSealsModel" "kind" "[I", .constantLong RX4 104 (-1000000), .constantLong RX4 70 (1000000), .fieldLink RX4 23 "MeterSealsModel" "number" "[J", .methodLink RX4 86 yX4_isRow, .instanceMethod yX4_isRow, .selects RX4 yX4_isRow yX4_isRow, .initialized RX4, .code yX4_isRow cX4_isRow 3 (some .boolean), .fieldLink RX4 13 "MeterSealsModel" "rows" "[I", .methodLink RX4 54 yX4_isMeter, .instanceMethod yX4_isMeter, .selects RX4 yX4_isMeter yX4_isMeter, .code yX4_isMeter cX4_isMeter 2 (some .boolean), .fieldLink RX4 51 "MeterSealsModel" "meters" "I"] ++ wsX40)
def wsX4_isMarked : List Cond := .code yX4_isMarked cX4_isMarked 4 (some .boolean) :: ([.fieldLink RX4 20 "MeterSealsModel" "kind" "[I", .methodLink RX4 78 yX4_isSet, .instanceMethod yX4_isSet, .selects RX4 yX4_isSet yX4_isSet, .initialized RX4, .code yX4_isSet cX4_isSet 6 (some .boolean)] ++ wsX40)
def wsX4_marked : List Cond := .code yX4_marked cX4_marked 3 (some .boolean) :: ([.fieldLink RX4 47 "MeterSealsModel" "thrown" "I", .methodLink RX4 86 yX4_isRow, .instanceMethod yX4_isRow, .selects RX4 yX4_isRow yX4_isRow, .initialized RX4, .code yX4_isRow cX4_isRow 3 (some .boolean), .fieldLink RX4 13 "MeterSealsModel" "rows" "[I", .methodLink RX4 54 yX4_isMeter, .instanceMethod yX4_isMeter, .selects RX4 yX4_isMeter yX4_isMeter, .code yX4_isMeter cX4_isMeter 2 (some .boolean), .fieldLink RX4 51 "MeterSealsModel" "meters" "I", .methodLink RX4 106 yX4_isMarked, .instanceMethod yX4_isMarked, .selects RX4 yX4_isMarked yX4_isMarked, .code yX4_isMarked cX4_isMarked 4 (some .boolean), .fieldLink RX4 20 "MeterSealsModel" "kind" "[I", .methodLink RX4 78 yX4_isSet, .instanceMethod yX4_isSet, .selects RX4 yX4_isSet yX4_isSet, .code yX4_isSet cX4_isSet 6 (some .boolean)] ++ wsX40)
def wsX4_gap : List Cond := .code yX4_gap cX4_gap 10 (some .int) :: ([.fieldLink RX4 47 "MeterSealsModel" "thrown" "I", .fieldLink RX4 13 "MeterSealsModel" "rows" "[I", .fieldLink RX4 20 "MeterSealsModel" "kind" "[I", .fieldLink RX4 26 "MeterSealsModel" "second" "[J", .constantLong RX4 109 (3600), .constantLong RX4 111 (60), .constantLong RX4 113 (2147483647), .methodLink RX4 54 yX4_isMeter, .instanceMethod yX4_isMeter, .selects RX4 yX4_isMeter yX4_isMeter, .initialized RX4, .code yX4_isMeter cX4_isMeter 2 (some .boolean), .fieldLink RX4 51 "MeterSealsModel" "meters" "I"] ++ wsX40)
def wsX4_put : List Cond := .code yX4_put cX4_put 2 none :: ([.fieldLink RX4 44 "MeterSealsModel" "text" "[I", .fieldLink RX4 115 "MeterSealsModel" "length" "I"] ++ wsX40)
def wsX4_say : List Cond := .code yX4_say cX4_say 7 none :: ([.constantLong RX4 122 (9), .constantLong RX4 124 (10), .constantLong RX4 126 (48), .methodLink RX4 118 yX4_put, .instanceMethod yX4_put, .selects RX4 yX4_put yX4_put, .initialized RX4, .code yX4_put cX4_put 2 none, .fieldLink RX4 44 "MeterSealsModel" "text" "[I", .fieldLink RX4 115 "MeterSealsModel" "length" "I"] ++ wsX40)
def wsX4_print_r1 : List Cond := [Cond.fieldLink RX4 115 "MeterSealsModel" "length" "I", Cond.fieldLink RX4 20 "MeterSealsModel" "kind" "[I", Cond.fieldLink RX4 23 "MeterSealsModel" "number" "[J", Cond.fieldLink RX4 26 "MeterSealsModel" "second" "[J", Cond.fieldLink RX4 29 "MeterSealsModel" "warm" "[I", Cond.methodLink RX4 118 yX4_put, Cond.instanceMethod yX4_put, Cond.selects RX4 yX4_put yX4_put, Cond.initialized RX4, Cond.code yX4_put cX4_put 2 none, Cond.fieldLink RX4 44 "MeterSealsModel" "text" "[I", Cond.methodLink RX4 128 yX4_say, Cond.instanceMethod yX4_say, Cond.selects RX4 yX4_say yX4_say, Cond.code yX4_say cX4_say 7 none, Cond.constantLong RX4 122 (9), Cond.constantLong RX4 124 (10), Cond.constantLong RX4 126 (48), Cond.methodLink RX4 106 yX4_isMarked, Cond.instanceMethod yX4_isMarked, Cond.selects RX4 yX4_isMarked yX4_isMarked, Cond.code yX4_isMarked cX4_isMarked 4 (some .boolean), Cond.methodLink RX4 78 yX4_isSet, Cond.instanceMethod yX4_isSet]
def wsX4_print_r2 : List Cond := [Cond.selects RX4 yX4_isSet yX4_isSet, Cond.code yX4_isSet cX4_isSet 6 (some .boolean)]
def wsX4_print : List Cond := .code yX4_print cX4_print 4 none :: ((wsX4_print_r1 ++ wsX4_print_r2) ++ wsX40)
def wsX4_roll_r1 : List Cond := [Cond.fieldLink RX4 47 "MeterSealsModel" "thrown" "I", Cond.fieldLink RX4 13 "MeterSealsModel" "rows" "[I", Cond.fieldLink RX4 115 "MeterSealsModel" "length" "I", Cond.fieldLink RX4 44 "MeterSealsModel" "text" "[I", Cond.methodLink RX4 54 yX4_isMeter, Cond.instanceMethod yX4_isMeter, Cond.selects RX4 yX4_isMeter yX4_isMeter, Cond.initialized RX4, Cond.code yX4_isMeter cX4_isMeter 2 (some .boolean), Cond.fieldLink RX4 51 "MeterSealsModel" "meters" "I", Cond.methodLink RX4 132 yX4_print, Cond.instanceMethod yX4_print, Cond.selects RX4 yX4_print yX4_print, Cond.code yX4_print cX4_print 4 none, Cond.fieldLink RX4 20 "MeterSealsModel" "kind" "[I", Cond.fieldLink RX4 23 "MeterSealsModel" "number" "[J", Cond.fieldLink RX4 26 "MeterSealsModel" "second" "[J", Cond.fieldLink RX4 29 "MeterSealsModel" "warm" "[I", Cond.methodLink RX4 118 yX4_put, Cond.instanceMethod yX4_put, Cond.selects RX4 yX4_put yX4_put, Cond.code yX4_put cX4_put 2 none, Cond.methodLink RX4 128 yX4_say, Cond.instanceMethod yX4_say]
def wsX4_roll_r2 : List Cond := [Cond.selects RX4 yX4_say yX4_say, Cond.code yX4_say cX4_say 7 none, Cond.constantLong RX4 122 (9), Cond.constantLong RX4 124 (10), Cond.constantLong RX4 126 (48), Cond.methodLink RX4 106 yX4_isMarked, Cond.instanceMethod yX4_isMarked, Cond.selects RX4 yX4_isMarked yX4_isMarked, Cond.code yX4_isMarked cX4_isMarked 4 (some .boolean), Cond.methodLink RX4 78 yX4_isSet, Cond.instanceMethod yX4_isSet, Cond.selects RX4 yX4_isSet yX4_isSet, Cond.code yX4_isSet cX4_isSet 6 (some .boolean)]
def wsX4_roll : List Cond := .code yX4_roll cX4_roll 5 (some .int) :: ((wsX4_roll_r1 ++ wsX4_roll_r2) ++ wsX40)
def wsJx00060_init_a7421 : List Cond := .code yJx00060_init_a7421 cJx00060_init_a7421 2 none :: ([])
def wsJ9_abs_067f4 : List Cond := .code yJ9_abs_067f4 cJ9_abs_067f4 2 (some .long) :: ([])
def wsJ9_max_7cf53 : List Cond := .code yJ9_max_7cf53 cJ9_max_7cf53 2 (some .int) :: ([])
def wsJ9_min_f86c9 : List Cond := .code yJ9_min_f86c9 cJ9_min_f86c9 4 (some .long) :: ([])
def wsL_litres_r1 : List Cond := [Cond.methodLink RL 7 yX3_litres, Cond.instanceMethod yX3_litres, Cond.selects RX3 yX3_litres yX3_litres, Cond.initialized RX3, Cond.code yX3_litres cX3_litres 5 (some .long), Cond.constantLong RX3 40 (-1), Cond.classLink RX3 52 RJx00060, Cond.instantiable RJx00060 6, Cond.initialized RJx00060, Cond.methodLink RX3 22 yX3_find, Cond.instanceMethod yX3_find, Cond.selects RX3 yX3_find yX3_find, Cond.code yX3_find cX3_find 2 (some (.object "MeterSeals$Meter")), Cond.fieldLink RX3 15 "MeterSeals" "meterCount" "I", Cond.fieldLink RX3 11 "MeterSeals" "meters" "[LMeterSeals$Meter;", Cond.methodLink RX3 46 yX1_holds, Cond.instanceMethod yX1_holds, Cond.selects RX1 yX1_holds yX1_holds, Cond.initialized RX1, Cond.code yX1_holds cX1_holds 2 (some .boolean), Cond.fieldLink RX1 33 "MeterSeals$Rows" "count" "I", Cond.methodLink RX3 59 yX0_fractionPart, Cond.instanceMethod yX0_fractionPart, Cond.selects RX0 yX0_fractionPart yX0_fractionPart]
def wsL_litres_r2 : List Cond := [Cond.initialized RX0, Cond.code yX0_fractionPart cX0_fractionPart 7 (some .long), Cond.methodLink RX0 63 yX0_litresAbove, Cond.instanceMethod yX0_litresAbove, Cond.selects RX0 yX0_litresAbove yX0_litresAbove, Cond.code yX0_litresAbove cX0_litresAbove 2 (some .long), Cond.fieldLink RX0 23 "MeterSeals$Meter" "rows" "LMeterSeals$Rows;", Cond.fieldLink RX0 12 "MeterSeals$Meter" "table" "LMeterSeals$Table;", Cond.methodLink RX0 80 yX1_pulsesOf, Cond.instanceMethod yX1_pulsesOf, Cond.selects RX1 yX1_pulsesOf yX1_pulsesOf, Cond.code yX1_pulsesOf cX1_pulsesOf 2 (some .long), Cond.fieldLink RX1 15 "MeterSeals$Rows" "numbers" "[J", Cond.methodLink RX1 45 yX1_isReading, Cond.instanceMethod yX1_isReading, Cond.selects RX1 yX1_isReading yX1_isReading, Cond.code yX1_isReading cX1_isReading 2 (some .boolean), Cond.fieldLink RX1 19 "MeterSeals$Rows" "stamps" "[J", Cond.methodLink RX1 41 yX1_holds, Cond.methodLink RX0 83 yX1_degreesOf, Cond.instanceMethod yX1_degreesOf, Cond.selects RX1 yX1_degreesOf yX1_degreesOf, Cond.code yX1_degreesOf cX1_degreesOf 2 (some .int), Cond.fieldLink RX1 22 "MeterSeals$Rows" "degrees" "[I"]
def wsL_litres_r3 : List Cond := [Cond.methodLink RX0 87 yX2_aboveAt, Cond.instanceMethod yX2_aboveAt, Cond.selects RX2 yX2_aboveAt yX2_aboveAt, Cond.initialized RX2, Cond.code yX2_aboveAt cX2_aboveAt 3 (some .long), Cond.fieldLink RX2 15 "MeterSeals$Table" "aboves" "[J", Cond.methodLink RX2 46 yX2_lineAt, Cond.instanceMethod yX2_lineAt, Cond.selects RX2 yX2_lineAt yX2_lineAt, Cond.code yX2_lineAt cX2_lineAt 4 (some .int), Cond.fieldLink RX2 22 "MeterSeals$Table" "count" "I", Cond.fieldLink RX2 9 "MeterSeals$Table" "starts" "[I", Cond.methodLink RX2 49 yX2_goesBefore, Cond.static yX2_goesBefore, Cond.code yX2_goesBefore cX2_goesBefore 3 (some .boolean), Cond.methodLink RX0 67 yX0_litresBelow, Cond.instanceMethod yX0_litresBelow, Cond.selects RX0 yX0_litresBelow yX0_litresBelow, Cond.code yX0_litresBelow cX0_litresBelow 2 (some .long), Cond.methodLink RX0 90 yX1_isReading, Cond.methodLink RX0 94 yX2_belowAt, Cond.instanceMethod yX2_belowAt, Cond.selects RX2 yX2_belowAt yX2_belowAt, Cond.code yX2_belowAt cX2_belowAt 3 (some .long)]
def wsL_litres_r4 : List Cond := [Cond.fieldLink RX2 19 "MeterSeals$Table" "belows" "[J", Cond.static yX3_commonDivisor, Cond.code yX3_commonDivisor cX3_commonDivisor 11 (some .long), Cond.static yX3_quotient, Cond.code yX3_quotient cX3_quotient 4 (some .long)]
def wsL_litres : List Cond := .codeWith yL_litres cL_litres 6 (some .int) [(0, 11, 14, 13)] :: ((wsL_litres_r1 ++ (wsL_litres_r2 ++ (wsL_litres_r3 ++ wsL_litres_r4))) ++ wsX00 ++ wsJx000600 ++ wsX30 ++ wsX10 ++ wsX20)
def wsL_law_r1 : List Cond := [Cond.classLink RL 8 RX3, Cond.instantiable RX3 2, Cond.initialized RX3, Cond.classLink RL 16 RX4, Cond.instantiable RX4 15, Cond.initialized RX4, Cond.arrayClass .long, Cond.constantLong RL 19 (4294967295), Cond.methodLink RL 15 yX3_init, Cond.instanceMethod yX3_init, Cond.code yX3_init cX3_init 1 none, Cond.methodLink RX3 1 objectInit, Cond.instanceMethod objectInit, Cond.code objectInit ⟨#[0xb1]⟩ 1 none, Cond.classLink RX3 9 RX0, Cond.fieldLink RX3 11 "MeterSeals" "meters" "[LMeterSeals$Meter;", Cond.fieldLink RX3 15 "MeterSeals" "meterCount" "I", Cond.methodLink RL 18 yX4_init, Cond.instanceMethod yX4_init, Cond.code yX4_init cX4_init 1 none, Cond.methodLink RX4 1 objectInit, Cond.fieldLink RX4 9 "MeterSealsModel" "keys" "[J", Cond.arrayClass .int, Cond.fieldLink RX4 13 "MeterSealsModel" "rows" "[I"]
def wsL_law_r2 : List Cond := [Cond.fieldLink RX4 17 "MeterSealsModel" "lines" "[I", Cond.fieldLink RX4 20 "MeterSealsModel" "kind" "[I", Cond.fieldLink RX4 23 "MeterSealsModel" "number" "[J", Cond.fieldLink RX4 26 "MeterSealsModel" "second" "[J", Cond.fieldLink RX4 29 "MeterSealsModel" "warm" "[I", Cond.fieldLink RX4 32 "MeterSealsModel" "sum" "[J", Cond.fieldLink RX4 35 "MeterSealsModel" "lineDegrees" "[I", Cond.fieldLink RX4 38 "MeterSealsModel" "lineAbove" "[J", Cond.fieldLink RX4 41 "MeterSealsModel" "lineBelow" "[J", Cond.fieldLink RX4 44 "MeterSealsModel" "text" "[I", Cond.methodLink RL 21 yX3_meter, Cond.instanceMethod yX3_meter, Cond.selects RX3 yX3_meter yX3_meter, Cond.code yX3_meter cX3_meter 4 (some .int), Cond.instantiable RX0 4, Cond.initialized RX0, Cond.methodLink RX3 19 yX0_init, Cond.instanceMethod yX0_init, Cond.code yX0_init cX0_init 3 none, Cond.methodLink RX0 3 objectInit, Cond.classLink RX0 9 RX2, Cond.instantiable RX2 4, Cond.initialized RX2, Cond.fieldLink RX0 12 "MeterSeals$Meter" "table" "LMeterSeals$Table;"]
def wsL_law_r3 : List Cond := [Cond.classLink RX0 18 RX1, Cond.instantiable RX1 7, Cond.initialized RX1, Cond.fieldLink RX0 23 "MeterSeals$Meter" "rows" "LMeterSeals$Rows;", Cond.fieldLink RX0 27 "MeterSeals$Meter" "sealed" "Z", Cond.fieldLink RX0 31 "MeterSeals$Meter" "lastSecond" "J", Cond.methodLink RX0 11 yX2_init, Cond.instanceMethod yX2_init, Cond.code yX2_init cX2_init 1 none, Cond.methodLink RX2 3 objectInit, Cond.fieldLink RX2 9 "MeterSeals$Table" "starts" "[I", Cond.fieldLink RX2 15 "MeterSeals$Table" "aboves" "[J", Cond.fieldLink RX2 19 "MeterSeals$Table" "belows" "[J", Cond.fieldLink RX2 22 "MeterSeals$Table" "count" "I", Cond.methodLink RX0 20 yX1_init, Cond.instanceMethod yX1_init, Cond.code yX1_init cX1_init 3 none, Cond.methodLink RX1 3 objectInit, Cond.fieldLink RX1 9 "MeterSeals$Rows" "key" "J", Cond.fieldLink RX1 15 "MeterSeals$Rows" "numbers" "[J", Cond.fieldLink RX1 19 "MeterSeals$Rows" "stamps" "[J", Cond.fieldLink RX1 22 "MeterSeals$Rows" "degrees" "[I", Cond.fieldLink RX1 26 "MeterSeals$Rows" "sums" "[J", Cond.arrayClass .boolean]
def wsL_law_r4 : List Cond := [Cond.fieldLink RX1 29 "MeterSeals$Rows" "marks" "[Z", Cond.fieldLink RX1 33 "MeterSeals$Rows" "count" "I", Cond.methodLink RL 25 yX4_meter, Cond.instanceMethod yX4_meter, Cond.selects RX4 yX4_meter yX4_meter, Cond.code yX4_meter cX4_meter 3 (some .int), Cond.fieldLink RX4 47 "MeterSealsModel" "thrown" "I", Cond.fieldLink RX4 51 "MeterSealsModel" "meters" "I", Cond.methodLink RL 26 yX3_pulses, Cond.instanceMethod yX3_pulses, Cond.selects RX3 yX3_pulses yX3_pulses, Cond.code yX3_pulses cX3_pulses 8 (some .boolean), Cond.methodLink RX3 22 yX3_find, Cond.instanceMethod yX3_find, Cond.selects RX3 yX3_find yX3_find, Cond.code yX3_find cX3_find 2 (some (.object "MeterSeals$Meter")), Cond.methodLink RX3 26 yX0_addReading, Cond.instanceMethod yX0_addReading, Cond.selects RX0 yX0_addReading yX0_addReading, Cond.code yX0_addReading cX0_addReading 7 (some .boolean), Cond.constantLong RX0 39 (1000000), Cond.constantLong RX0 45 (1000000000000), Cond.constantLong RX0 47 (-50), Cond.constantLong RX0 49 (150)]
def wsL_law_r5 : List Cond := [Cond.static yX3_within, Cond.code yX3_within cX3_within 6 (some .boolean), Cond.methodLink RX0 51 yX1_add, Cond.instanceMethod yX1_add, Cond.selects RX1 yX1_add yX1_add, Cond.code yX1_add cX1_add 8 (some .boolean), Cond.methodLink RX1 37 yX1_dueSum, Cond.instanceMethod yX1_dueSum, Cond.selects RX1 yX1_dueSum yX1_dueSum, Cond.code yX1_dueSum cX1_dueSum 6 (some .long), Cond.constantLong RX1 57 (3), Cond.methodLink RX1 41 yX1_holds, Cond.instanceMethod yX1_holds, Cond.selects RX1 yX1_holds yX1_holds, Cond.code yX1_holds cX1_holds 2 (some .boolean), Cond.methodLink RX1 59 yX1_stir, Cond.static yX1_stir, Cond.code yX1_stir cX1_stir 6 (some .long), Cond.constantLong RX1 63 (1099511628211), Cond.methodLink RL 30 yX4_pulses, Cond.instanceMethod yX4_pulses, Cond.selects RX4 yX4_pulses yX4_pulses, Cond.code yX4_pulses cX4_pulses 9 (some .boolean), Cond.constantLong RX4 70 (1000000)]
def wsL_law_r6 : List Cond := [Cond.constantLong RX4 72 (1000000000000), Cond.methodLink RX4 54 yX4_isMeter, Cond.instanceMethod yX4_isMeter, Cond.selects RX4 yX4_isMeter yX4_isMeter, Cond.code yX4_isMeter cX4_isMeter 2 (some .boolean), Cond.methodLink RX4 74 yX4_add, Cond.instanceMethod yX4_add, Cond.selects RX4 yX4_add yX4_add, Cond.code yX4_add cX4_add 9 none, Cond.methodLink RX4 66 yX4_due, Cond.instanceMethod yX4_due, Cond.selects RX4 yX4_due yX4_due, Cond.code yX4_due cX4_due 6 (some .long), Cond.constantLong RX4 60 (3), Cond.methodLink RX4 62 yX4_mixed, Cond.static yX4_mixed, Cond.code yX4_mixed cX4_mixed 6 (some .long), Cond.constantLong RX4 58 (1099511628211), Cond.methodLink RL 31 yX3_row, Cond.instanceMethod yX3_row, Cond.selects RX3 yX3_row yX3_row, Cond.code yX3_row cX3_row 8 (some .boolean), Cond.methodLink RX3 34 yX2_put, Cond.instanceMethod yX2_put]
def wsL_law_r7 : List Cond := [Cond.selects RX2 yX2_put yX2_put, Cond.code yX2_put cX2_put 8 (some .boolean), Cond.constantLong RX2 26 (-50), Cond.constantLong RX2 28 (150), Cond.constantLong RX2 34 (10000), Cond.methodLink RX2 40 Lib.Math.max.name, Cond.static Lib.Math.max.name, Cond.initialized "java/lang/Math", Cond.code Lib.Math.max.name Lib.Math.max.code 2 (some .int), Cond.methodLink RX2 36 yX2_placeFor, Cond.instanceMethod yX2_placeFor, Cond.selects RX2 yX2_placeFor yX2_placeFor, Cond.code yX2_placeFor cX2_placeFor 3 (some .int), Cond.methodLink RL 35 yX4_row, Cond.instanceMethod yX4_row, Cond.selects RX4 yX4_row yX4_row, Cond.code yX4_row cX4_row 8 (some .boolean), Cond.constantLong RX4 82 (10000), Cond.methodLink RL 36 yL_litres, Cond.static yL_litres, Cond.initialized RL, Cond.codeWith yL_litres cL_litres 6 (some .int) [(0, 11, 14, 13)], Cond.methodLink RL 7 yX3_litres, Cond.instanceMethod yX3_litres]
def wsL_law_r8 : List Cond := [Cond.selects RX3 yX3_litres yX3_litres, Cond.code yX3_litres cX3_litres 5 (some .long), Cond.constantLong RX3 40 (-1), Cond.classLink RX3 52 RJx00060, Cond.instantiable RJx00060 6, Cond.initialized RJx00060, Cond.methodLink RX3 46 yX1_holds, Cond.methodLink RX3 59 yX0_fractionPart, Cond.instanceMethod yX0_fractionPart, Cond.selects RX0 yX0_fractionPart yX0_fractionPart, Cond.code yX0_fractionPart cX0_fractionPart 7 (some .long), Cond.methodLink RX0 63 yX0_litresAbove, Cond.instanceMethod yX0_litresAbove, Cond.selects RX0 yX0_litresAbove yX0_litresAbove, Cond.code yX0_litresAbove cX0_litresAbove 2 (some .long), Cond.methodLink RX0 80 yX1_pulsesOf, Cond.instanceMethod yX1_pulsesOf, Cond.selects RX1 yX1_pulsesOf yX1_pulsesOf, Cond.code yX1_pulsesOf cX1_pulsesOf 2 (some .long), Cond.methodLink RX1 45 yX1_isReading, Cond.instanceMethod yX1_isReading, Cond.selects RX1 yX1_isReading yX1_isReading, Cond.code yX1_isReading cX1_isReading 2 (some .boolean), Cond.methodLink RX0 83 yX1_degreesOf]
def wsL_law_r9 : List Cond := [Cond.instanceMethod yX1_degreesOf, Cond.selects RX1 yX1_degreesOf yX1_degreesOf, Cond.code yX1_degreesOf cX1_degreesOf 2 (some .int), Cond.methodLink RX0 87 yX2_aboveAt, Cond.instanceMethod yX2_aboveAt, Cond.selects RX2 yX2_aboveAt yX2_aboveAt, Cond.code yX2_aboveAt cX2_aboveAt 3 (some .long), Cond.methodLink RX2 46 yX2_lineAt, Cond.instanceMethod yX2_lineAt, Cond.selects RX2 yX2_lineAt yX2_lineAt, Cond.code yX2_lineAt cX2_lineAt 4 (some .int), Cond.methodLink RX2 49 yX2_goesBefore, Cond.static yX2_goesBefore, Cond.code yX2_goesBefore cX2_goesBefore 3 (some .boolean), Cond.methodLink RX0 67 yX0_litresBelow, Cond.instanceMethod yX0_litresBelow, Cond.selects RX0 yX0_litresBelow yX0_litresBelow, Cond.code yX0_litresBelow cX0_litresBelow 2 (some .long), Cond.methodLink RX0 90 yX1_isReading, Cond.methodLink RX0 94 yX2_belowAt, Cond.instanceMethod yX2_belowAt, Cond.selects RX2 yX2_belowAt yX2_belowAt, Cond.code yX2_belowAt cX2_belowAt 3 (some .long), Cond.static yX3_commonDivisor]
def wsL_law_r10 : List Cond := [Cond.code yX3_commonDivisor cX3_commonDivisor 11 (some .long), Cond.static yX3_quotient, Cond.code yX3_quotient cX3_quotient 4 (some .long), Cond.methodLink RL 41 yX4_litres, Cond.instanceMethod yX4_litres, Cond.selects RX4 yX4_litres yX4_litres, Cond.code yX4_litres cX4_litres 10 (some .long), Cond.constantLong RX4 84 (-1), Cond.methodLink RX4 86 yX4_isRow, Cond.instanceMethod yX4_isRow, Cond.selects RX4 yX4_isRow yX4_isRow, Cond.code yX4_isRow cX4_isRow 3 (some .boolean), Cond.methodLink RX4 89 yX4_line, Cond.instanceMethod yX4_line, Cond.selects RX4 yX4_line yX4_line, Cond.code yX4_line cX4_line 7 (some .int), Cond.methodLink RX4 93 yX4_divisor, Cond.static yX4_divisor, Cond.code yX4_divisor cX4_divisor 10 (some .long), Cond.methodLink RL 42 yX4_thrown, Cond.instanceMethod yX4_thrown, Cond.selects RX4 yX4_thrown yX4_thrown, Cond.code yX4_thrown cX4_thrown 1 (some .int), Cond.methodLink RL 46 yX3_rows]
def wsL_law_r11 : List Cond := [Cond.instanceMethod yX3_rows, Cond.selects RX3 yX3_rows yX3_rows, Cond.code yX3_rows cX3_rows 3 (some .int), Cond.methodLink RL 50 yX4_rows, Cond.instanceMethod yX4_rows, Cond.selects RX4 yX4_rows yX4_rows, Cond.code yX4_rows cX4_rows 2 (some .int), Cond.methodLink RL 51 yX3_check, Cond.instanceMethod yX3_check, Cond.selects RX3 yX3_check yX3_check, Cond.code yX3_check cX3_check 4 (some .int), Cond.methodLink RX3 66 yX1_firstWrong, Cond.instanceMethod yX1_firstWrong, Cond.selects RX1 yX1_firstWrong yX1_firstWrong, Cond.code yX1_firstWrong cX1_firstWrong 3 (some .int), Cond.methodLink RL 55 yX4_check, Cond.instanceMethod yX4_check, Cond.selects RX4 yX4_check yX4_check, Cond.code yX4_check cX4_check 4 (some .int), Cond.methodLink RL 56 yX3_poke, Cond.instanceMethod yX3_poke, Cond.selects RX3 yX3_poke yX3_poke, Cond.code yX3_poke cX3_poke 6 (some .boolean), Cond.methodLink RX3 70 yX1_addPulses]
def wsL_law_r12 : List Cond := [Cond.instanceMethod yX1_addPulses, Cond.selects RX1 yX1_addPulses yX1_addPulses, Cond.code yX1_addPulses cX1_addPulses 6 (some .boolean), Cond.constantLong RX1 51 (1000000), Cond.methodLink RX1 48 yX1_pulsesOf, Cond.methodLink RL 60 yX4_poke, Cond.instanceMethod yX4_poke, Cond.selects RX4 yX4_poke yX4_poke, Cond.code yX4_poke cX4_poke 7 (some .boolean), Cond.constantLong RX4 104 (-1000000), Cond.methodLink RL 61 yX3_seal, Cond.instanceMethod yX3_seal, Cond.selects RX3 yX3_seal yX3_seal, Cond.code yX3_seal cX3_seal 5 (some .boolean), Cond.methodLink RX3 74 yX0_turnSeal, Cond.instanceMethod yX0_turnSeal, Cond.selects RX0 yX0_turnSeal yX0_turnSeal, Cond.code yX0_turnSeal cX0_turnSeal 3 (some .boolean), Cond.constantLong RX0 57 (999), Cond.constantLong RX0 59 (-3), Cond.constantLong RX0 61 (-2), Cond.methodLink RL 65 yX4_seal, Cond.instanceMethod yX4_seal, Cond.selects RX4 yX4_seal yX4_seal]
def wsL_law_r13 : List Cond := [Cond.code yX4_seal cX4_seal 5 (some .boolean), Cond.methodLink RX4 78 yX4_isSet, Cond.instanceMethod yX4_isSet, Cond.selects RX4 yX4_isSet yX4_isSet, Cond.code yX4_isSet cX4_isSet 6 (some .boolean), Cond.methodLink RL 66 yX3_marked, Cond.instanceMethod yX3_marked, Cond.selects RX3 yX3_marked yX3_marked, Cond.code yX3_marked cX3_marked 4 (some .boolean), Cond.methodLink RX3 78 yX1_hasMark, Cond.instanceMethod yX1_hasMark, Cond.selects RX1 yX1_hasMark yX1_hasMark, Cond.code yX1_hasMark cX1_hasMark 2 (some .boolean), Cond.methodLink RL 70 yX4_marked, Cond.instanceMethod yX4_marked, Cond.selects RX4 yX4_marked yX4_marked, Cond.code yX4_marked cX4_marked 3 (some .boolean), Cond.methodLink RX4 106 yX4_isMarked, Cond.instanceMethod yX4_isMarked, Cond.selects RX4 yX4_isMarked yX4_isMarked, Cond.code yX4_isMarked cX4_isMarked 4 (some .boolean), Cond.methodLink RL 71 yX3_gap, Cond.instanceMethod yX3_gap, Cond.selects RX3 yX3_gap yX3_gap]
def wsL_law_r14 : List Cond := [Cond.code yX3_gap cX3_gap 5 (some .int), Cond.methodLink RX3 81 yX1_findGap, Cond.instanceMethod yX1_findGap, Cond.selects RX1 yX1_findGap yX1_findGap, Cond.code yX1_findGap cX1_findGap 9 (some .int), Cond.constantLong RX1 65 (-1), Cond.constantLong RX1 67 (3600), Cond.methodLink RX1 69 yX1_wholeMinutes, Cond.static yX1_wholeMinutes, Cond.code yX1_wholeMinutes cX1_wholeMinutes 2 (some .int), Cond.constantLong RX1 73 (60), Cond.constantLong RX1 75 (2147483647), Cond.methodLink RX1 77 Lib.MathLoose.min_long.x, Cond.static Lib.MathLoose.min_long.x, Cond.code Lib.MathLoose.min_long.x Lib.MathLoose.min_long.code 4 (some .long), Cond.methodLink RL 75 yX4_gap, Cond.instanceMethod yX4_gap, Cond.selects RX4 yX4_gap yX4_gap, Cond.code yX4_gap cX4_gap 10 (some .int), Cond.constantLong RX4 109 (3600), Cond.constantLong RX4 111 (60), Cond.constantLong RX4 113 (2147483647), Cond.methodLink RL 76 yX3_rest, Cond.instanceMethod yX3_rest]
def wsL_law_r15 : List Cond := [Cond.selects RX3 yX3_rest yX3_rest, Cond.code yX3_rest cX3_rest 5 (some .long), Cond.constantLong RX3 85 (1000000000), Cond.constantLong RX3 91 (-9223372036854775808), Cond.constantLong RX3 97 (1000), Cond.methodLink RX3 87 yX3_within, Cond.methodLink RX3 93 yX0_allThousandths, Cond.instanceMethod yX0_allThousandths, Cond.selects RX0 yX0_allThousandths yX0_allThousandths, Cond.code yX0_allThousandths cX0_allThousandths 4 (some .long), Cond.constantLong RX0 78 (1000), Cond.methodLink RL 80 yX4_rest, Cond.instanceMethod yX4_rest, Cond.selects RX4 yX4_rest yX4_rest, Cond.code yX4_rest cX4_rest 8 (some .long), Cond.constantLong RX4 96 (1000000000), Cond.constantLong RX4 100 (-9223372036854775808), Cond.constantLong RX4 102 (1000), Cond.methodLink RL 81 yX3_reset, Cond.instanceMethod yX3_reset, Cond.selects RX3 yX3_reset yX3_reset, Cond.code yX3_reset cX3_reset 5 (some .boolean), Cond.methodLink RX3 99 yX0_addReset, Cond.instanceMethod yX0_addReset]
def wsL_law_r16 : List Cond := [Cond.selects RX0 yX0_addReset yX0_addReset, Cond.code yX0_addReset cX0_addReset 3 (some .boolean), Cond.constantLong RX0 55 (-1), Cond.methodLink RL 85 yX4_reset, Cond.instanceMethod yX4_reset, Cond.selects RX4 yX4_reset yX4_reset, Cond.code yX4_reset cX4_reset 5 (some .boolean), Cond.methodLink RL 86 yX3_roll, Cond.instanceMethod yX3_roll, Cond.selects RX3 yX3_roll yX3_roll, Cond.code yX3_roll cX3_roll 4 (some .int), Cond.methodLink RX3 103 yX1_rollByte, Cond.instanceMethod yX1_rollByte, Cond.selects RX1 yX1_rollByte yX1_rollByte, Cond.code yX1_rollByte cX1_rollByte 5 (some .int), Cond.methodLink RX1 82 yX1_lineLength, Cond.instanceMethod yX1_lineLength, Cond.selects RX1 yX1_lineLength yX1_lineLength, Cond.code yX1_lineLength cX1_lineLength 4 (some .int), Cond.methodLink RX1 90 yX1_fieldCount, Cond.instanceMethod yX1_fieldCount, Cond.selects RX1 yX1_fieldCount yX1_fieldCount, Cond.code yX1_fieldCount cX1_fieldCount 2 (some .int), Cond.methodLink RX1 93 yX1_fieldOf]
def wsL_law_r17 : List Cond := [Cond.instanceMethod yX1_fieldOf, Cond.selects RX1 yX1_fieldOf yX1_fieldOf, Cond.code yX1_fieldOf cX1_fieldOf 3 (some .long), Cond.static yX3_textLength, Cond.code yX3_textLength cX3_textLength 6 (some .int), Cond.constantLong RX3 106 (10), Cond.methodLink RX1 100 yX1_hasMark, Cond.methodLink RX1 86 yX1_lineByte, Cond.instanceMethod yX1_lineByte, Cond.selects RX1 yX1_lineByte yX1_lineByte, Cond.code yX1_lineByte cX1_lineByte 8 (some .int), Cond.methodLink RX1 103 yX1_letterOf, Cond.instanceMethod yX1_letterOf, Cond.selects RX1 yX1_letterOf yX1_letterOf, Cond.code yX1_letterOf cX1_letterOf 2 (some .char), Cond.constantLong RX1 111 (-2), Cond.static yX3_textByte, Cond.code yX3_textByte cX3_textByte 6 (some .int), Cond.methodLink RX3 112 Lib.MathLoose.abs_long.x, Cond.static Lib.MathLoose.abs_long.x, Cond.code Lib.MathLoose.abs_long.x Lib.MathLoose.abs_long.code 2 (some .long), Cond.methodLink RX3 108 yX3_textLength, Cond.methodLink RL 89 yX4_roll, Cond.instanceMethod yX4_roll]
def wsL_law_r18 : List Cond := [Cond.selects RX4 yX4_roll yX4_roll, Cond.code yX4_roll cX4_roll 5 (some .int), Cond.fieldLink RX4 115 "MeterSealsModel" "length" "I", Cond.methodLink RX4 132 yX4_print, Cond.instanceMethod yX4_print, Cond.selects RX4 yX4_print yX4_print, Cond.code yX4_print cX4_print 4 none, Cond.methodLink RX4 118 yX4_put, Cond.instanceMethod yX4_put, Cond.selects RX4 yX4_put yX4_put, Cond.code yX4_put cX4_put 2 none, Cond.methodLink RX4 128 yX4_say, Cond.instanceMethod yX4_say, Cond.selects RX4 yX4_say yX4_say, Cond.code yX4_say cX4_say 7 none, Cond.constantLong RX4 122 (9), Cond.constantLong RX4 124 (10), Cond.constantLong RX4 126 (48)]
def wsL_law : List Cond := (wsL_law_r1 ++ (wsL_law_r2 ++ (wsL_law_r3 ++ (wsL_law_r4 ++ (wsL_law_r5 ++ (wsL_law_r6 ++ (wsL_law_r7 ++ (wsL_law_r8 ++ (wsL_law_r9 ++ (wsL_law_r10 ++ (wsL_law_r11 ++ (wsL_law_r12 ++ (wsL_law_r13 ++ (wsL_law_r14 ++ (wsL_law_r15 ++ (wsL_law_r16 ++ (wsL_law_r17 ++ wsL_law_r18))))))))))))))))) ++ wsX30 ++ wsX40 ++ wsX00 ++ wsX20 ++ wsX10 ++ wsJx000600 ++ ([] : List Cond)
set_option maxRecDepth 20000 in
theorem wsL_law_in : ∀ w ∈ wsL_law, w ∈ lw_tbl := fun w h => (goodIn_p wsL_law [38, 41, 437, 54, 58, 64, 86, 492, 131, 135, 139, 143, 150, 154, 158, 162, 496, 500, 506, 510, 514, 167, 171, 182, 179, 531, 352, 429, 264, 206, 210, 269, 273, 277, 280, 285, 290, 432, 293, 536, 541, 545, 548, 488, 186, 559, 190, 194, 563, 198, 202, 567, 216, 220, 523, 527, 227, 231, 572, 576, 235, 239, 244, 249, 580, 253, 260, 552, 298, 302, 519, 307, 311, 315, 319, 323, 326, 332, 336, 340, 344, 587, 591, 595, 599] (by decide +kernel) (by decide +kernel) w h).1
theorem inlX0 : ∀ w ∈ wsX00, w ∈ wsL_law := fun _ h => List.mem_append_left _ (List.mem_append_left _ (List.mem_append_left _ (List.mem_append_left _ (List.mem_append_right _ h))))
theorem inX0 : ∀ w ∈ wsX00, w ∈ lw_tbl := fun w h => wsL_law_in w (inlX0 w h)
theorem inlX1 : ∀ w ∈ wsX10, w ∈ wsL_law := fun _ h => List.mem_append_left _ (List.mem_append_left _ (List.mem_append_right _ h))
theorem inX1 : ∀ w ∈ wsX10, w ∈ lw_tbl := fun w h => wsL_law_in w (inlX1 w h)
theorem inlX2 : ∀ w ∈ wsX20, w ∈ wsL_law := fun _ h => List.mem_append_left _ (List.mem_append_left _ (List.mem_append_left _ (List.mem_append_right _ h)))
theorem inX2 : ∀ w ∈ wsX20, w ∈ lw_tbl := fun w h => wsL_law_in w (inlX2 w h)
theorem inlX3 : ∀ w ∈ wsX30, w ∈ wsL_law := fun _ h => List.mem_append_left _ (List.mem_append_left _ (List.mem_append_left _ (List.mem_append_left _ (List.mem_append_left _ (List.mem_append_left _ (List.mem_append_right _ h))))))
theorem inX3 : ∀ w ∈ wsX30, w ∈ lw_tbl := fun w h => wsL_law_in w (inlX3 w h)
theorem inlX4 : ∀ w ∈ wsX40, w ∈ wsL_law := fun _ h => List.mem_append_left _ (List.mem_append_left _ (List.mem_append_left _ (List.mem_append_left _ (List.mem_append_left _ (List.mem_append_right _ h)))))
theorem inX4 : ∀ w ∈ wsX40, w ∈ lw_tbl := fun w h => wsL_law_in w (inlX4 w h)
theorem inlJx00060 : ∀ w ∈ wsJx000600, w ∈ wsL_law := fun _ h => List.mem_append_left _ (List.mem_append_right _ h)
theorem inJx00060 : ∀ w ∈ wsJx000600, w ∈ lw_tbl := fun w h => wsL_law_in w (inlJx00060 w h)
theorem inJ9 : ∀ w ∈ wsJ90, w ∈ lw_tbl := by decide +kernel
theorem inJ0 : ∀ w ∈ wsJ00, w ∈ lw_tbl := by decide +kernel
set_option maxRecDepth 20000 in
theorem ggX0_init_X2_init : GoodIn wsX0_init wsX2_init := goodIn_r _ [16, 17, 2, 3, 18, 19, 20, 21, 22, 23, 36, 37, 38, 39] (by decide +kernel) (by decide +kernel)
set_option maxRecDepth 20000 in
theorem gX0_init_X2_init : GoodIn wsX0_init (wsX2_init) := ggX0_init_X2_init
set_option maxRecDepth 20000 in
theorem ggX0_init_X1_init : GoodIn wsX0_init wsX1_init := goodIn_r _ [26, 27, 2, 3, 28, 20, 29, 30, 18, 31, 32, 33, 34, 35, 44, 45, 46, 47, 48, 49, 50] (by decide +kernel) (by decide +kernel)
set_option maxRecDepth 20000 in
theorem gX0_init_X1_init : GoodIn wsX0_init (wsX1_init) := ggX0_init_X1_init
theorem dX0_init_0 : decode cX0_init 0 = .ok (.aload_n 0, 1) := by decide +kernel
theorem dX0_init_1 : decode cX0_init 1 = .ok (.invokespecial 3, 3) := by decide +kernel
theorem dX0_init_4 : decode cX0_init 4 = .ok (.aload_n 0, 1) := by decide +kernel
theorem dX0_init_5 : decode cX0_init 5 = .ok (.new 9, 3) := by decide +kernel
theorem dX0_init_8 : decode cX0_init 8 = .ok (.dup, 1) := by decide +kernel
theorem dX0_init_9 : decode cX0_init 9 = .ok (.invokespecial 11, 3) := by decide +kernel
theorem dX0_init_12 : decode cX0_init 12 = .ok (.putfield 12, 3) := by decide +kernel
theorem dX0_init_15 : decode cX0_init 15 = .ok (.aload_n 0, 1) := by decide +kernel
theorem dX0_init_16 : decode cX0_init 16 = .ok (.new 18, 3) := by decide +kernel
theorem dX0_init_19 : decode cX0_init 19 = .ok (.dup, 1) := by decide +kernel
theorem dX0_init_20 : decode cX0_init 20 = .ok (.lload_n 1, 1) := by decide +kernel
theorem dX0_init_21 : decode cX0_init 21 = .ok (.invokespecial 20, 3) := by decide +kernel
theorem dX0_init_24 : decode cX0_init 24 = .ok (.putfield 23, 3) := by decide +kernel
theorem dX0_init_27 : decode cX0_init 27 = .ok (.aload_n 0, 1) := by decide +kernel
theorem dX0_init_28 : decode cX0_init 28 = .ok (.iconst 1, 1) := by decide +kernel
theorem dX0_init_29 : decode cX0_init 29 = .ok (.putfield 27, 3) := by decide +kernel
theorem dX0_init_32 : decode cX0_init 32 = .ok (.aload_n 0, 1) := by decide +kernel
theorem dX0_init_33 : decode cX0_init 33 = .ok (.lconst 0, 1) := by decide +kernel
theorem dX0_init_34 : decode cX0_init 34 = .ok (.putfield 31, 3) := by decide +kernel
theorem dX0_init_37 : decode cX0_init 37 = .ok (.return_, 1) := by decide +kernel
set_option maxRecDepth 20000 in
theorem ggX0_addReading_X3_within : GoodIn wsX0_addReading wsX3_within := goodIn_r _ [11] (by decide +kernel) (by decide +kernel)
set_option maxRecDepth 20000 in
theorem gX0_addReading_X3_within_n41 : GoodIn wsX0_addReading (wsX3_within) := ggX0_addReading_X3_within
set_option maxRecDepth 20000 in
theorem ggX0_addReading_X1_add : GoodIn wsX0_addReading wsX1_add := goodIn_r _ [16, 17, 18, 19, 20, 21, 22, 23, 24, 25, 15, 26, 27, 28, 29, 30, 31, 32, 33, 34, 35, 36, 45, 46, 47, 48, 49, 50, 51] (by decide +kernel) (by decide +kernel)
set_option maxRecDepth 20000 in
theorem gX0_addReading_X1_add : GoodIn wsX0_addReading (wsV RX0 51 RX1 yX1_add wsX1_add) := goodIn_app (goodIn_of _ (by decide +kernel)) ggX0_addReading_X1_add
theorem dX0_addReading_0 : decode cX0_addReading 0 = .ok (.aload_n 0, 1) := by decide +kernel
theorem dX0_addReading_1 : decode cX0_addReading 1 = .ok (.getfield 12, 3) := by decide +kernel
theorem dX0_addReading_4 : decode cX0_addReading 4 = .ok (.getfield 35, 3) := by decide +kernel
theorem dX0_addReading_7 : decode cX0_addReading 7 = .ok (.ifCond .le 47, 3) := by decide +kernel
theorem dX0_addReading_10 : decode cX0_addReading 10 = .ok (.lload_n 1, 1) := by decide +kernel
theorem dX0_addReading_11 : decode cX0_addReading 11 = .ok (.lconst 0, 1) := by decide +kernel
theorem dX0_addReading_12 : decode cX0_addReading 12 = .ok (.ldc2_w 39, 3) := by decide +kernel
theorem dX0_addReading_15 : decode cX0_addReading 15 = .ok (.invokestatic 41, 3) := by decide +kernel
theorem dX0_addReading_18 : decode cX0_addReading 18 = .ok (.ifCond .eq 36, 3) := by decide +kernel
theorem dX0_addReading_21 : decode cX0_addReading 21 = .ok (.lload_n 3, 1) := by decide +kernel
theorem dX0_addReading_22 : decode cX0_addReading 22 = .ok (.aload_n 0, 1) := by decide +kernel
theorem dX0_addReading_23 : decode cX0_addReading 23 = .ok (.getfield 31, 3) := by decide +kernel
theorem dX0_addReading_26 : decode cX0_addReading 26 = .ok (.ldc2_w 45, 3) := by decide +kernel
theorem dX0_addReading_29 : decode cX0_addReading 29 = .ok (.invokestatic 41, 3) := by decide +kernel
theorem dX0_addReading_32 : decode cX0_addReading 32 = .ok (.ifCond .eq 22, 3) := by decide +kernel
theorem dX0_addReading_35 : decode cX0_addReading 35 = .ok (.iload 5, 2) := by decide +kernel
theorem dX0_addReading_37 : decode cX0_addReading 37 = .ok (.i2l, 1) := by decide +kernel
theorem dX0_addReading_38 : decode cX0_addReading 38 = .ok (.ldc2_w 47, 3) := by decide +kernel
theorem dX0_addReading_41 : decode cX0_addReading 41 = .ok (.ldc2_w 49, 3) := by decide +kernel
theorem dX0_addReading_44 : decode cX0_addReading 44 = .ok (.invokestatic 41, 3) := by decide +kernel
theorem dX0_addReading_47 : decode cX0_addReading 47 = .ok (.ifCond .eq 7, 3) := by decide +kernel
theorem dX0_addReading_50 : decode cX0_addReading 50 = .ok (.iconst 1, 1) := by decide +kernel
theorem dX0_addReading_51 : decode cX0_addReading 51 = .ok (.goto 4, 3) := by decide +kernel
theorem dX0_addReading_54 : decode cX0_addReading 54 = .ok (.iconst 0, 1) := by decide +kernel
theorem dX0_addReading_55 : decode cX0_addReading 55 = .ok (.istore 6, 2) := by decide +kernel
theorem dX0_addReading_57 : decode cX0_addReading 57 = .ok (.iload 6, 2) := by decide +kernel
theorem dX0_addReading_59 : decode cX0_addReading 59 = .ok (.ifCond .eq 29, 3) := by decide +kernel
theorem dX0_addReading_62 : decode cX0_addReading 62 = .ok (.aload_n 0, 1) := by decide +kernel
theorem dX0_addReading_63 : decode cX0_addReading 63 = .ok (.getfield 23, 3) := by decide +kernel
theorem dX0_addReading_66 : decode cX0_addReading 66 = .ok (.lload_n 1, 1) := by decide +kernel
theorem dX0_addReading_67 : decode cX0_addReading 67 = .ok (.lload_n 3, 1) := by decide +kernel
theorem dX0_addReading_68 : decode cX0_addReading 68 = .ok (.iload 5, 2) := by decide +kernel
theorem dX0_addReading_70 : decode cX0_addReading 70 = .ok (.aload_n 0, 1) := by decide +kernel
theorem dX0_addReading_71 : decode cX0_addReading 71 = .ok (.getfield 27, 3) := by decide +kernel
theorem dX0_addReading_74 : decode cX0_addReading 74 = .ok (.ifCond .ne 7, 3) := by decide +kernel
theorem dX0_addReading_77 : decode cX0_addReading 77 = .ok (.iconst 1, 1) := by decide +kernel
theorem dX0_addReading_78 : decode cX0_addReading 78 = .ok (.goto 4, 3) := by decide +kernel
theorem dX0_addReading_81 : decode cX0_addReading 81 = .ok (.iconst 0, 1) := by decide +kernel
theorem dX0_addReading_82 : decode cX0_addReading 82 = .ok (.invokevirtual 51, 3) := by decide +kernel
theorem dX0_addReading_85 : decode cX0_addReading 85 = .ok (.ifCond .ne 5, 3) := by decide +kernel
theorem dX0_addReading_88 : decode cX0_addReading 88 = .ok (.iconst 0, 1) := by decide +kernel
theorem dX0_addReading_89 : decode cX0_addReading 89 = .ok (.ireturn, 1) := by decide +kernel
theorem dX0_addReading_90 : decode cX0_addReading 90 = .ok (.aload_n 0, 1) := by decide +kernel
theorem dX0_addReading_91 : decode cX0_addReading 91 = .ok (.lload_n 3, 1) := by decide +kernel
theorem dX0_addReading_92 : decode cX0_addReading 92 = .ok (.putfield 31, 3) := by decide +kernel
theorem dX0_addReading_95 : decode cX0_addReading 95 = .ok (.iconst 1, 1) := by decide +kernel
theorem dX0_addReading_96 : decode cX0_addReading 96 = .ok (.ireturn, 1) := by decide +kernel
set_option maxRecDepth 20000 in
theorem ggX0_addReset_X3_within : GoodIn wsX0_addReset wsX3_within := goodIn_r _ [7] (by decide +kernel) (by decide +kernel)
set_option maxRecDepth 20000 in
theorem gX0_addReset_X3_within_n41 : GoodIn wsX0_addReset (wsX3_within) := ggX0_addReset_X3_within
set_option maxRecDepth 20000 in
theorem ggX0_addReset_X1_add : GoodIn wsX0_addReset wsX1_add := goodIn_r _ [12, 13, 14, 15, 16, 17, 18, 19, 20, 21, 11, 22, 23, 24, 25, 26, 27, 28, 29, 30, 31, 32, 37, 38, 39, 40, 41, 42, 43] (by decide +kernel) (by decide +kernel)
set_option maxRecDepth 20000 in
theorem gX0_addReset_X1_add : GoodIn wsX0_addReset (wsV RX0 51 RX1 yX1_add wsX1_add) := goodIn_app (goodIn_of _ (by decide +kernel)) ggX0_addReset_X1_add
theorem dX0_addReset_0 : decode cX0_addReset 0 = .ok (.lload_n 1, 1) := by decide +kernel
theorem dX0_addReset_1 : decode cX0_addReset 1 = .ok (.lconst 0, 1) := by decide +kernel
theorem dX0_addReset_2 : decode cX0_addReset 2 = .ok (.ldc2_w 45, 3) := by decide +kernel
theorem dX0_addReset_5 : decode cX0_addReset 5 = .ok (.invokestatic 41, 3) := by decide +kernel
theorem dX0_addReset_8 : decode cX0_addReset 8 = .ok (.ifCond .eq 34, 3) := by decide +kernel
theorem dX0_addReset_11 : decode cX0_addReset 11 = .ok (.aload_n 0, 1) := by decide +kernel
theorem dX0_addReset_12 : decode cX0_addReset 12 = .ok (.getfield 23, 3) := by decide +kernel
theorem dX0_addReset_15 : decode cX0_addReset 15 = .ok (.lload_n 1, 1) := by decide +kernel
theorem dX0_addReset_16 : decode cX0_addReset 16 = .ok (.ldc2_w 55, 3) := by decide +kernel
theorem dX0_addReset_19 : decode cX0_addReset 19 = .ok (.iconst 0, 1) := by decide +kernel
theorem dX0_addReset_20 : decode cX0_addReset 20 = .ok (.aload_n 0, 1) := by decide +kernel
theorem dX0_addReset_21 : decode cX0_addReset 21 = .ok (.getfield 27, 3) := by decide +kernel
theorem dX0_addReset_24 : decode cX0_addReset 24 = .ok (.ifCond .ne 7, 3) := by decide +kernel
theorem dX0_addReset_27 : decode cX0_addReset 27 = .ok (.iconst 1, 1) := by decide +kernel
theorem dX0_addReset_28 : decode cX0_addReset 28 = .ok (.goto 4, 3) := by decide +kernel
theorem dX0_addReset_31 : decode cX0_addReset 31 = .ok (.iconst 0, 1) := by decide +kernel
theorem dX0_addReset_32 : decode cX0_addReset 32 = .ok (.invokevirtual 51, 3) := by decide +kernel
theorem dX0_addReset_35 : decode cX0_addReset 35 = .ok (.ifCond .eq 7, 3) := by decide +kernel
theorem dX0_addReset_38 : decode cX0_addReset 38 = .ok (.iconst 1, 1) := by decide +kernel
theorem dX0_addReset_39 : decode cX0_addReset 39 = .ok (.goto 4, 3) := by decide +kernel
theorem dX0_addReset_42 : decode cX0_addReset 42 = .ok (.iconst 0, 1) := by decide +kernel
theorem dX0_addReset_43 : decode cX0_addReset 43 = .ok (.ireturn, 1) := by decide +kernel
set_option maxRecDepth 20000 in
theorem ggX0_turnSeal_X3_within : GoodIn wsX0_turnSeal wsX3_within := goodIn_r _ [8] (by decide +kernel) (by decide +kernel)
set_option maxRecDepth 20000 in
theorem gX0_turnSeal_X3_within_n41 : GoodIn wsX0_turnSeal (wsX3_within) := ggX0_turnSeal_X3_within
set_option maxRecDepth 20000 in
theorem ggX0_turnSeal_X1_add : GoodIn wsX0_turnSeal wsX1_add := goodIn_r _ [13, 14, 15, 16, 17, 18, 19, 20, 21, 22, 12, 23, 24, 25, 26, 27, 28, 29, 30, 31, 32, 33, 38, 39, 40, 41, 42, 43, 44] (by decide +kernel) (by decide +kernel)
set_option maxRecDepth 20000 in
theorem gX0_turnSeal_X1_add : GoodIn wsX0_turnSeal (wsV RX0 51 RX1 yX1_add wsX1_add) := goodIn_app (goodIn_of _ (by decide +kernel)) ggX0_turnSeal_X1_add
theorem dX0_turnSeal_0 : decode cX0_turnSeal 0 = .ok (.iload_n 1, 1) := by decide +kernel
theorem dX0_turnSeal_1 : decode cX0_turnSeal 1 = .ok (.i2l, 1) := by decide +kernel
theorem dX0_turnSeal_2 : decode cX0_turnSeal 2 = .ok (.lconst 1, 1) := by decide +kernel
theorem dX0_turnSeal_3 : decode cX0_turnSeal 3 = .ok (.ldc2_w 57, 3) := by decide +kernel
theorem dX0_turnSeal_6 : decode cX0_turnSeal 6 = .ok (.invokestatic 41, 3) := by decide +kernel
theorem dX0_turnSeal_9 : decode cX0_turnSeal 9 = .ok (.ifCond .eq 11, 3) := by decide +kernel
theorem dX0_turnSeal_12 : decode cX0_turnSeal 12 = .ok (.aload_n 0, 1) := by decide +kernel
theorem dX0_turnSeal_13 : decode cX0_turnSeal 13 = .ok (.getfield 27, 3) := by decide +kernel
theorem dX0_turnSeal_16 : decode cX0_turnSeal 16 = .ok (.iload_n 2, 1) := by decide +kernel
theorem dX0_turnSeal_17 : decode cX0_turnSeal 17 = .ok (.if_icmp .ne 5, 3) := by decide +kernel
theorem dX0_turnSeal_20 : decode cX0_turnSeal 20 = .ok (.iconst 0, 1) := by decide +kernel
theorem dX0_turnSeal_21 : decode cX0_turnSeal 21 = .ok (.ireturn, 1) := by decide +kernel
theorem dX0_turnSeal_22 : decode cX0_turnSeal 22 = .ok (.aload_n 0, 1) := by decide +kernel
theorem dX0_turnSeal_23 : decode cX0_turnSeal 23 = .ok (.getfield 23, 3) := by decide +kernel
theorem dX0_turnSeal_26 : decode cX0_turnSeal 26 = .ok (.iload_n 1, 1) := by decide +kernel
theorem dX0_turnSeal_27 : decode cX0_turnSeal 27 = .ok (.i2l, 1) := by decide +kernel
theorem dX0_turnSeal_28 : decode cX0_turnSeal 28 = .ok (.iload_n 2, 1) := by decide +kernel
theorem dX0_turnSeal_29 : decode cX0_turnSeal 29 = .ok (.ifCond .eq 9, 3) := by decide +kernel
theorem dX0_turnSeal_32 : decode cX0_turnSeal 32 = .ok (.ldc2_w 59, 3) := by decide +kernel
theorem dX0_turnSeal_35 : decode cX0_turnSeal 35 = .ok (.goto 6, 3) := by decide +kernel
theorem dX0_turnSeal_38 : decode cX0_turnSeal 38 = .ok (.ldc2_w 61, 3) := by decide +kernel
theorem dX0_turnSeal_41 : decode cX0_turnSeal 41 = .ok (.iconst 0, 1) := by decide +kernel
theorem dX0_turnSeal_42 : decode cX0_turnSeal 42 = .ok (.iconst 1, 1) := by decide +kernel
theorem dX0_turnSeal_43 : decode cX0_turnSeal 43 = .ok (.invokevirtual 51, 3) := by decide +kernel
theorem dX0_turnSeal_46 : decode cX0_turnSeal 46 = .ok (.ifCond .ne 5, 3) := by decide +kernel
theorem dX0_turnSeal_49 : decode cX0_turnSeal 49 = .ok (.iconst 0, 1) := by decide +kernel
theorem dX0_turnSeal_50 : decode cX0_turnSeal 50 = .ok (.ireturn, 1) := by decide +kernel
theorem dX0_turnSeal_51 : decode cX0_turnSeal 51 = .ok (.aload_n 0, 1) := by decide +kernel
theorem dX0_turnSeal_52 : decode cX0_turnSeal 52 = .ok (.iload_n 2, 1) := by decide +kernel
theorem dX0_turnSeal_53 : decode cX0_turnSeal 53 = .ok (.putfield 27, 3) := by decide +kernel
theorem dX0_turnSeal_56 : decode cX0_turnSeal 56 = .ok (.iconst 1, 1) := by decide +kernel
theorem dX0_turnSeal_57 : decode cX0_turnSeal 57 = .ok (.ireturn, 1) := by decide +kernel
set_option maxRecDepth 20000 in
theorem ggX0_fractionPart_X0_litresAbove : GoodIn wsX0_fractionPart wsX0_litresAbove := goodIn_r _ [5, 6, 7, 8, 9, 10, 11, 12, 13, 14, 15, 16, 17, 18, 19, 20, 21, 22, 23, 24, 25, 26, 27, 28, 29, 30, 31, 32, 33, 34, 35, 36, 37, 38, 39, 40, 41, 42, 43, 59, 60, 61, 62, 63, 64, 65, 66, 67, 68, 69, 70, 71, 72, 73] (by decide +kernel) (by decide +kernel)
set_option maxRecDepth 20000 in
theorem gX0_fractionPart_X0_litresAbove : GoodIn wsX0_fractionPart (wsV RX0 63 RX0 yX0_litresAbove wsX0_litresAbove) := goodIn_app (goodIn_of _ (by decide +kernel)) ggX0_fractionPart_X0_litresAbove
set_option maxRecDepth 20000 in
theorem ggX0_fractionPart_X0_litresBelow : GoodIn wsX0_fractionPart wsX0_litresBelow := goodIn_r _ [47, 6, 7, 48, 15, 16, 11, 17, 18, 19, 20, 21, 22, 23, 24, 25, 26, 27, 28, 49, 50, 51, 32, 52, 53, 35, 36, 37, 38, 39, 40, 41, 42, 43, 59, 60, 61, 62, 63, 64, 65, 66, 67, 68, 69, 70, 71, 72, 73] (by decide +kernel) (by decide +kernel)
set_option maxRecDepth 20000 in
theorem gX0_fractionPart_X0_litresBelow : GoodIn wsX0_fractionPart (wsV RX0 67 RX0 yX0_litresBelow wsX0_litresBelow) := goodIn_app (goodIn_of _ (by decide +kernel)) ggX0_fractionPart_X0_litresBelow
set_option maxRecDepth 20000 in
theorem ggX0_fractionPart_X3_commonDivisor : GoodIn wsX0_fractionPart wsX3_commonDivisor := goodIn_r _ [56] (by decide +kernel) (by decide +kernel)
set_option maxRecDepth 20000 in
theorem gX0_fractionPart_X3_commonDivisor_n70 : GoodIn wsX0_fractionPart (wsX3_commonDivisor) := ggX0_fractionPart_X3_commonDivisor
set_option maxRecDepth 20000 in
theorem ggX0_fractionPart_X3_quotient : GoodIn wsX0_fractionPart wsX3_quotient := goodIn_r _ [58] (by decide +kernel) (by decide +kernel)
set_option maxRecDepth 20000 in
theorem gX0_fractionPart_X3_quotient_n74 : GoodIn wsX0_fractionPart (wsX3_quotient) := ggX0_fractionPart_X3_quotient
theorem dX0_fractionPart_0 : decode cX0_fractionPart 0 = .ok (.aload_n 0, 1) := by decide +kernel
theorem dX0_fractionPart_1 : decode cX0_fractionPart 1 = .ok (.iload_n 1, 1) := by decide +kernel
theorem dX0_fractionPart_2 : decode cX0_fractionPart 2 = .ok (.invokevirtual 63, 3) := by decide +kernel
theorem dX0_fractionPart_5 : decode cX0_fractionPart 5 = .ok (.lstore_n 3, 1) := by decide +kernel
theorem dX0_fractionPart_6 : decode cX0_fractionPart 6 = .ok (.aload_n 0, 1) := by decide +kernel
theorem dX0_fractionPart_7 : decode cX0_fractionPart 7 = .ok (.iload_n 1, 1) := by decide +kernel
theorem dX0_fractionPart_8 : decode cX0_fractionPart 8 = .ok (.invokevirtual 67, 3) := by decide +kernel
theorem dX0_fractionPart_11 : decode cX0_fractionPart 11 = .ok (.lstore 5, 2) := by decide +kernel
theorem dX0_fractionPart_13 : decode cX0_fractionPart 13 = .ok (.iload_n 2, 1) := by decide +kernel
theorem dX0_fractionPart_14 : decode cX0_fractionPart 14 = .ok (.ifCond .ne 7, 3) := by decide +kernel
theorem dX0_fractionPart_17 : decode cX0_fractionPart 17 = .ok (.lload_n 3, 1) := by decide +kernel
theorem dX0_fractionPart_18 : decode cX0_fractionPart 18 = .ok (.goto 5, 3) := by decide +kernel
theorem dX0_fractionPart_21 : decode cX0_fractionPart 21 = .ok (.lload 5, 2) := by decide +kernel
theorem dX0_fractionPart_23 : decode cX0_fractionPart 23 = .ok (.lload_n 3, 1) := by decide +kernel
theorem dX0_fractionPart_24 : decode cX0_fractionPart 24 = .ok (.lload 5, 2) := by decide +kernel
theorem dX0_fractionPart_26 : decode cX0_fractionPart 26 = .ok (.invokestatic 70, 3) := by decide +kernel
theorem dX0_fractionPart_29 : decode cX0_fractionPart 29 = .ok (.invokestatic 74, 3) := by decide +kernel
theorem dX0_fractionPart_32 : decode cX0_fractionPart 32 = .ok (.lreturn, 1) := by decide +kernel
set_option maxRecDepth 20000 in
theorem ggX0_allThousandths_X0_litresAbove : GoodIn wsX0_allThousandths wsX0_litresAbove := goodIn_r _ [7, 1, 8, 9, 10, 11, 12, 13, 14, 15, 16, 17, 18, 19, 20, 21, 22, 23, 24, 25, 26, 27, 28, 29, 30, 31, 32, 33, 34, 35, 36, 37, 38, 39, 40, 41, 42, 43, 44, 58, 59, 60, 61, 62, 63, 64, 65, 66, 67, 68, 69, 70, 71, 72] (by decide +kernel) (by decide +kernel)
set_option maxRecDepth 20000 in
theorem gX0_allThousandths_X0_litresAbove : GoodIn wsX0_allThousandths (wsV RX0 63 RX0 yX0_litresAbove wsX0_litresAbove) := goodIn_app (goodIn_of _ (by decide +kernel)) ggX0_allThousandths_X0_litresAbove
set_option maxRecDepth 20000 in
theorem ggX0_allThousandths_X0_litresBelow : GoodIn wsX0_allThousandths wsX0_litresBelow := goodIn_r _ [48, 1, 8, 49, 16, 17, 12, 18, 19, 20, 21, 22, 23, 24, 25, 26, 27, 28, 29, 50, 51, 52, 33, 53, 54, 36, 37, 38, 39, 40, 41, 42, 43, 44, 58, 59, 60, 61, 62, 63, 64, 65, 66, 67, 68, 69, 70, 71, 72] (by decide +kernel) (by decide +kernel)
set_option maxRecDepth 20000 in
theorem gX0_allThousandths_X0_litresBelow : GoodIn wsX0_allThousandths (wsV RX0 67 RX0 yX0_litresBelow wsX0_litresBelow) := goodIn_app (goodIn_of _ (by decide +kernel)) ggX0_allThousandths_X0_litresBelow
end
section
set_option maxRecDepth 20000 in
theorem ggX0_allThousandths_X3_quotient : GoodIn wsX0_allThousandths wsX3_quotient := goodIn_r _ [57] (by decide +kernel) (by decide +kernel)
set_option maxRecDepth 20000 in
theorem gX0_allThousandths_X3_quotient_n74 : GoodIn wsX0_allThousandths (wsX3_quotient) := ggX0_allThousandths_X3_quotient
theorem dX0_allThousandths_0 : decode cX0_allThousandths 0 = .ok (.lconst 0, 1) := by decide +kernel
theorem dX0_allThousandths_1 : decode cX0_allThousandths 1 = .ok (.lstore_n 1, 1) := by decide +kernel
theorem dX0_allThousandths_2 : decode cX0_allThousandths 2 = .ok (.iconst 0, 1) := by decide +kernel
theorem dX0_allThousandths_3 : decode cX0_allThousandths 3 = .ok (.istore_n 3, 1) := by decide +kernel
theorem dX0_allThousandths_4 : decode cX0_allThousandths 4 = .ok (.iload_n 3, 1) := by decide +kernel
theorem dX0_allThousandths_5 : decode cX0_allThousandths 5 = .ok (.aload_n 0, 1) := by decide +kernel
theorem dX0_allThousandths_6 : decode cX0_allThousandths 6 = .ok (.getfield 23, 3) := by decide +kernel
theorem dX0_allThousandths_9 : decode cX0_allThousandths 9 = .ok (.getfield 77, 3) := by decide +kernel
theorem dX0_allThousandths_12 : decode cX0_allThousandths 12 = .ok (.if_icmp .ge 29, 3) := by decide +kernel
theorem dX0_allThousandths_15 : decode cX0_allThousandths 15 = .ok (.lload_n 1, 1) := by decide +kernel
theorem dX0_allThousandths_16 : decode cX0_allThousandths 16 = .ok (.aload_n 0, 1) := by decide +kernel
theorem dX0_allThousandths_17 : decode cX0_allThousandths 17 = .ok (.iload_n 3, 1) := by decide +kernel
theorem dX0_allThousandths_18 : decode cX0_allThousandths 18 = .ok (.invokevirtual 63, 3) := by decide +kernel
theorem dX0_allThousandths_21 : decode cX0_allThousandths 21 = .ok (.ldc2_w 78, 3) := by decide +kernel
theorem dX0_allThousandths_24 : decode cX0_allThousandths 24 = .ok (.lmul, 1) := by decide +kernel
theorem dX0_allThousandths_25 : decode cX0_allThousandths 25 = .ok (.aload_n 0, 1) := by decide +kernel
theorem dX0_allThousandths_26 : decode cX0_allThousandths 26 = .ok (.iload_n 3, 1) := by decide +kernel
theorem dX0_allThousandths_27 : decode cX0_allThousandths 27 = .ok (.invokevirtual 67, 3) := by decide +kernel
theorem dX0_allThousandths_30 : decode cX0_allThousandths 30 = .ok (.invokestatic 74, 3) := by decide +kernel
theorem dX0_allThousandths_33 : decode cX0_allThousandths 33 = .ok (.ladd, 1) := by decide +kernel
theorem dX0_allThousandths_34 : decode cX0_allThousandths 34 = .ok (.lstore_n 1, 1) := by decide +kernel
theorem dX0_allThousandths_35 : decode cX0_allThousandths 35 = .ok (.iinc 3 1, 3) := by decide +kernel
theorem dX0_allThousandths_38 : decode cX0_allThousandths 38 = .ok (.goto (-34), 3) := by decide +kernel
theorem dX0_allThousandths_41 : decode cX0_allThousandths 41 = .ok (.lload_n 1, 1) := by decide +kernel
theorem dX0_allThousandths_42 : decode cX0_allThousandths 42 = .ok (.lreturn, 1) := by decide +kernel
set_option maxRecDepth 20000 in
theorem ggX0_litresAbove_X1_pulsesOf : GoodIn wsX0_litresAbove wsX1_pulsesOf := goodIn_r _ [7, 8, 9, 10, 11, 6, 12, 13, 14, 15, 16, 17, 18, 43, 44, 45, 46, 47, 48, 49] (by decide +kernel) (by decide +kernel)
set_option maxRecDepth 20000 in
theorem gX0_litresAbove_X1_pulsesOf : GoodIn wsX0_litresAbove (wsV RX0 80 RX1 yX1_pulsesOf wsX1_pulsesOf) := goodIn_app (goodIn_of _ (by decide +kernel)) ggX0_litresAbove_X1_pulsesOf
set_option maxRecDepth 20000 in
theorem ggX0_litresAbove_X1_degreesOf : GoodIn wsX0_litresAbove wsX1_degreesOf := goodIn_r _ [22, 23, 14, 15, 16, 6, 17, 18, 43, 44, 45, 46, 47, 48, 49] (by decide +kernel) (by decide +kernel)
set_option maxRecDepth 20000 in
theorem gX0_litresAbove_X1_degreesOf : GoodIn wsX0_litresAbove (wsV RX0 83 RX1 yX1_degreesOf wsX1_degreesOf) := goodIn_app (goodIn_of _ (by decide +kernel)) ggX0_litresAbove_X1_degreesOf
set_option maxRecDepth 20000 in
theorem ggX0_litresAbove_X2_aboveAt : GoodIn wsX0_litresAbove wsX2_aboveAt := goodIn_r _ [28, 29, 30, 31, 32, 27, 33, 34, 35, 36, 37, 38, 50, 51, 52, 53] (by decide +kernel) (by decide +kernel)
set_option maxRecDepth 20000 in
theorem gX0_litresAbove_X2_aboveAt : GoodIn wsX0_litresAbove (wsV RX0 87 RX2 yX2_aboveAt wsX2_aboveAt) := goodIn_app (goodIn_of _ (by decide +kernel)) ggX0_litresAbove_X2_aboveAt
theorem dX0_litresAbove_0 : decode cX0_litresAbove 0 = .ok (.aload_n 0, 1) := by decide +kernel
theorem dX0_litresAbove_1 : decode cX0_litresAbove 1 = .ok (.getfield 23, 3) := by decide +kernel
theorem dX0_litresAbove_4 : decode cX0_litresAbove 4 = .ok (.iload_n 1, 1) := by decide +kernel
theorem dX0_litresAbove_5 : decode cX0_litresAbove 5 = .ok (.invokevirtual 80, 3) := by decide +kernel
theorem dX0_litresAbove_8 : decode cX0_litresAbove 8 = .ok (.aload_n 0, 1) := by decide +kernel
theorem dX0_litresAbove_9 : decode cX0_litresAbove 9 = .ok (.getfield 12, 3) := by decide +kernel
theorem dX0_litresAbove_12 : decode cX0_litresAbove 12 = .ok (.aload_n 0, 1) := by decide +kernel
theorem dX0_litresAbove_13 : decode cX0_litresAbove 13 = .ok (.getfield 23, 3) := by decide +kernel
theorem dX0_litresAbove_16 : decode cX0_litresAbove 16 = .ok (.iload_n 1, 1) := by decide +kernel
theorem dX0_litresAbove_17 : decode cX0_litresAbove 17 = .ok (.invokevirtual 83, 3) := by decide +kernel
theorem dX0_litresAbove_20 : decode cX0_litresAbove 20 = .ok (.invokevirtual 87, 3) := by decide +kernel
theorem dX0_litresAbove_23 : decode cX0_litresAbove 23 = .ok (.lmul, 1) := by decide +kernel
theorem dX0_litresAbove_24 : decode cX0_litresAbove 24 = .ok (.lreturn, 1) := by decide +kernel
set_option maxRecDepth 20000 in
theorem ggX0_litresBelow_X1_isReading : GoodIn wsX0_litresBelow wsX1_isReading := goodIn_r _ [7, 8, 9, 10, 11, 6, 12, 13, 38, 39, 40, 41, 42, 43, 44] (by decide +kernel) (by decide +kernel)
set_option maxRecDepth 20000 in
theorem gX0_litresBelow_X1_isReading : GoodIn wsX0_litresBelow (wsV RX0 90 RX1 yX1_isReading wsX1_isReading) := goodIn_app (goodIn_of _ (by decide +kernel)) ggX0_litresBelow_X1_isReading
set_option maxRecDepth 20000 in
theorem ggX0_litresBelow_X1_degreesOf : GoodIn wsX0_litresBelow wsX1_degreesOf := goodIn_r _ [17, 18, 9, 10, 11, 6, 12, 13, 38, 39, 40, 41, 42, 43, 44] (by decide +kernel) (by decide +kernel)
set_option maxRecDepth 20000 in
theorem gX0_litresBelow_X1_degreesOf : GoodIn wsX0_litresBelow (wsV RX0 83 RX1 yX1_degreesOf wsX1_degreesOf) := goodIn_app (goodIn_of _ (by decide +kernel)) ggX0_litresBelow_X1_degreesOf
set_option maxRecDepth 20000 in
theorem ggX0_litresBelow_X2_belowAt : GoodIn wsX0_litresBelow wsX2_belowAt := goodIn_r _ [23, 24, 25, 26, 27, 22, 28, 29, 30, 31, 32, 33, 45, 46, 47, 48] (by decide +kernel) (by decide +kernel)
set_option maxRecDepth 20000 in
theorem gX0_litresBelow_X2_belowAt : GoodIn wsX0_litresBelow (wsV RX0 94 RX2 yX2_belowAt wsX2_belowAt) := goodIn_app (goodIn_of _ (by decide +kernel)) ggX0_litresBelow_X2_belowAt
theorem dX0_litresBelow_0 : decode cX0_litresBelow 0 = .ok (.aload_n 0, 1) := by decide +kernel
theorem dX0_litresBelow_1 : decode cX0_litresBelow 1 = .ok (.getfield 23, 3) := by decide +kernel
theorem dX0_litresBelow_4 : decode cX0_litresBelow 4 = .ok (.iload_n 1, 1) := by decide +kernel
theorem dX0_litresBelow_5 : decode cX0_litresBelow 5 = .ok (.invokevirtual 90, 3) := by decide +kernel
theorem dX0_litresBelow_8 : decode cX0_litresBelow 8 = .ok (.ifCond .eq 21, 3) := by decide +kernel
theorem dX0_litresBelow_11 : decode cX0_litresBelow 11 = .ok (.aload_n 0, 1) := by decide +kernel
theorem dX0_litresBelow_12 : decode cX0_litresBelow 12 = .ok (.getfield 12, 3) := by decide +kernel
theorem dX0_litresBelow_15 : decode cX0_litresBelow 15 = .ok (.aload_n 0, 1) := by decide +kernel
theorem dX0_litresBelow_16 : decode cX0_litresBelow 16 = .ok (.getfield 23, 3) := by decide +kernel
theorem dX0_litresBelow_19 : decode cX0_litresBelow 19 = .ok (.iload_n 1, 1) := by decide +kernel
theorem dX0_litresBelow_20 : decode cX0_litresBelow 20 = .ok (.invokevirtual 83, 3) := by decide +kernel
theorem dX0_litresBelow_23 : decode cX0_litresBelow 23 = .ok (.invokevirtual 94, 3) := by decide +kernel
theorem dX0_litresBelow_26 : decode cX0_litresBelow 26 = .ok (.goto 4, 3) := by decide +kernel
theorem dX0_litresBelow_29 : decode cX0_litresBelow 29 = .ok (.lconst 1, 1) := by decide +kernel
theorem dX0_litresBelow_30 : decode cX0_litresBelow 30 = .ok (.lreturn, 1) := by decide +kernel
theorem dX1_init_0 : decode cX1_init 0 = .ok (.aload_n 0, 1) := by decide +kernel
theorem dX1_init_1 : decode cX1_init 1 = .ok (.invokespecial 3, 3) := by decide +kernel
theorem dX1_init_4 : decode cX1_init 4 = .ok (.aload_n 0, 1) := by decide +kernel
theorem dX1_init_5 : decode cX1_init 5 = .ok (.lload_n 1, 1) := by decide +kernel
theorem dX1_init_6 : decode cX1_init 6 = .ok (.putfield 9, 3) := by decide +kernel
theorem dX1_init_9 : decode cX1_init 9 = .ok (.aload_n 0, 1) := by decide +kernel
theorem dX1_init_10 : decode cX1_init 10 = .ok (.sipush 200, 3) := by decide +kernel
theorem dX1_init_13 : decode cX1_init 13 = .ok (.newarray .long, 2) := by decide +kernel
theorem dX1_init_15 : decode cX1_init 15 = .ok (.putfield 15, 3) := by decide +kernel
theorem dX1_init_18 : decode cX1_init 18 = .ok (.aload_n 0, 1) := by decide +kernel
theorem dX1_init_19 : decode cX1_init 19 = .ok (.sipush 200, 3) := by decide +kernel
theorem dX1_init_22 : decode cX1_init 22 = .ok (.newarray .long, 2) := by decide +kernel
theorem dX1_init_24 : decode cX1_init 24 = .ok (.putfield 19, 3) := by decide +kernel
theorem dX1_init_27 : decode cX1_init 27 = .ok (.aload_n 0, 1) := by decide +kernel
theorem dX1_init_28 : decode cX1_init 28 = .ok (.sipush 200, 3) := by decide +kernel
theorem dX1_init_31 : decode cX1_init 31 = .ok (.newarray .int, 2) := by decide +kernel
theorem dX1_init_33 : decode cX1_init 33 = .ok (.putfield 22, 3) := by decide +kernel
theorem dX1_init_36 : decode cX1_init 36 = .ok (.aload_n 0, 1) := by decide +kernel
theorem dX1_init_37 : decode cX1_init 37 = .ok (.sipush 200, 3) := by decide +kernel
theorem dX1_init_40 : decode cX1_init 40 = .ok (.newarray .long, 2) := by decide +kernel
theorem dX1_init_42 : decode cX1_init 42 = .ok (.putfield 26, 3) := by decide +kernel
theorem dX1_init_45 : decode cX1_init 45 = .ok (.aload_n 0, 1) := by decide +kernel
theorem dX1_init_46 : decode cX1_init 46 = .ok (.sipush 200, 3) := by decide +kernel
theorem dX1_init_49 : decode cX1_init 49 = .ok (.newarray .boolean, 2) := by decide +kernel
theorem dX1_init_51 : decode cX1_init 51 = .ok (.putfield 29, 3) := by decide +kernel
theorem dX1_init_54 : decode cX1_init 54 = .ok (.aload_n 0, 1) := by decide +kernel
theorem dX1_init_55 : decode cX1_init 55 = .ok (.iconst 0, 1) := by decide +kernel
theorem dX1_init_56 : decode cX1_init 56 = .ok (.putfield 33, 3) := by decide +kernel
theorem dX1_init_59 : decode cX1_init 59 = .ok (.return_, 1) := by decide +kernel
set_option maxRecDepth 20000 in
theorem ggX1_add_X1_dueSum : GoodIn wsX1_add wsX1_dueSum := goodIn_r _ [11, 12, 6, 13, 2, 3, 4, 14, 15, 16, 10, 17, 1, 18, 19, 20, 21, 22, 23, 24, 25, 26, 27, 28] (by decide +kernel) (by decide +kernel)
set_option maxRecDepth 20000 in
theorem gX1_add_X1_dueSum : GoodIn wsX1_add (wsV RX1 37 RX1 yX1_dueSum wsX1_dueSum) := goodIn_app (goodIn_of _ (by decide +kernel)) ggX1_add_X1_dueSum
theorem dX1_add_0 : decode cX1_add 0 = .ok (.aload_n 0, 1) := by decide +kernel
theorem dX1_add_1 : decode cX1_add 1 = .ok (.getfield 33, 3) := by decide +kernel
theorem dX1_add_4 : decode cX1_add 4 = .ok (.sipush 200, 3) := by decide +kernel
theorem dX1_add_7 : decode cX1_add 7 = .ok (.if_icmp .lt 5, 3) := by decide +kernel
theorem dX1_add_10 : decode cX1_add 10 = .ok (.iconst 0, 1) := by decide +kernel
theorem dX1_add_11 : decode cX1_add 11 = .ok (.ireturn, 1) := by decide +kernel
theorem dX1_add_12 : decode cX1_add 12 = .ok (.aload_n 0, 1) := by decide +kernel
theorem dX1_add_13 : decode cX1_add 13 = .ok (.getfield 33, 3) := by decide +kernel
theorem dX1_add_16 : decode cX1_add 16 = .ok (.istore 7, 2) := by decide +kernel
theorem dX1_add_18 : decode cX1_add 18 = .ok (.aload_n 0, 1) := by decide +kernel
theorem dX1_add_19 : decode cX1_add 19 = .ok (.getfield 15, 3) := by decide +kernel
theorem dX1_add_22 : decode cX1_add 22 = .ok (.iload 7, 2) := by decide +kernel
theorem dX1_add_24 : decode cX1_add 24 = .ok (.lload_n 1, 1) := by decide +kernel
theorem dX1_add_25 : decode cX1_add 25 = .ok (.lastore, 1) := by decide +kernel
theorem dX1_add_26 : decode cX1_add 26 = .ok (.aload_n 0, 1) := by decide +kernel
theorem dX1_add_27 : decode cX1_add 27 = .ok (.getfield 19, 3) := by decide +kernel
theorem dX1_add_30 : decode cX1_add 30 = .ok (.iload 7, 2) := by decide +kernel
theorem dX1_add_32 : decode cX1_add 32 = .ok (.lload_n 3, 1) := by decide +kernel
theorem dX1_add_33 : decode cX1_add 33 = .ok (.lastore, 1) := by decide +kernel
theorem dX1_add_34 : decode cX1_add 34 = .ok (.aload_n 0, 1) := by decide +kernel
theorem dX1_add_35 : decode cX1_add 35 = .ok (.getfield 22, 3) := by decide +kernel
theorem dX1_add_38 : decode cX1_add 38 = .ok (.iload 7, 2) := by decide +kernel
theorem dX1_add_40 : decode cX1_add 40 = .ok (.iload 5, 2) := by decide +kernel
theorem dX1_add_42 : decode cX1_add 42 = .ok (.iastore, 1) := by decide +kernel
theorem dX1_add_43 : decode cX1_add 43 = .ok (.aload_n 0, 1) := by decide +kernel
theorem dX1_add_44 : decode cX1_add 44 = .ok (.getfield 29, 3) := by decide +kernel
theorem dX1_add_47 : decode cX1_add 47 = .ok (.iload 7, 2) := by decide +kernel
theorem dX1_add_49 : decode cX1_add 49 = .ok (.iload 6, 2) := by decide +kernel
theorem dX1_add_51 : decode cX1_add 51 = .ok (.bastore, 1) := by decide +kernel
theorem dX1_add_52 : decode cX1_add 52 = .ok (.aload_n 0, 1) := by decide +kernel
theorem dX1_add_53 : decode cX1_add 53 = .ok (.dup, 1) := by decide +kernel
theorem dX1_add_54 : decode cX1_add 54 = .ok (.getfield 33, 3) := by decide +kernel
theorem dX1_add_57 : decode cX1_add 57 = .ok (.iconst 1, 1) := by decide +kernel
theorem dX1_add_58 : decode cX1_add 58 = .ok (.iadd, 1) := by decide +kernel
theorem dX1_add_59 : decode cX1_add 59 = .ok (.putfield 33, 3) := by decide +kernel
theorem dX1_add_62 : decode cX1_add 62 = .ok (.aload_n 0, 1) := by decide +kernel
theorem dX1_add_63 : decode cX1_add 63 = .ok (.getfield 26, 3) := by decide +kernel
theorem dX1_add_66 : decode cX1_add 66 = .ok (.iload 7, 2) := by decide +kernel
theorem dX1_add_68 : decode cX1_add 68 = .ok (.aload_n 0, 1) := by decide +kernel
theorem dX1_add_69 : decode cX1_add 69 = .ok (.iload 7, 2) := by decide +kernel
theorem dX1_add_71 : decode cX1_add 71 = .ok (.invokevirtual 37, 3) := by decide +kernel
theorem dX1_add_74 : decode cX1_add 74 = .ok (.lastore, 1) := by decide +kernel
theorem dX1_add_75 : decode cX1_add 75 = .ok (.iconst 1, 1) := by decide +kernel
theorem dX1_add_76 : decode cX1_add 76 = .ok (.ireturn, 1) := by decide +kernel
theorem dX1_holds_0 : decode cX1_holds 0 = .ok (.iload_n 1, 1) := by decide +kernel
theorem dX1_holds_1 : decode cX1_holds 1 = .ok (.ifCond .lt 15, 3) := by decide +kernel
theorem dX1_holds_4 : decode cX1_holds 4 = .ok (.iload_n 1, 1) := by decide +kernel
theorem dX1_holds_5 : decode cX1_holds 5 = .ok (.aload_n 0, 1) := by decide +kernel
theorem dX1_holds_6 : decode cX1_holds 6 = .ok (.getfield 33, 3) := by decide +kernel
theorem dX1_holds_9 : decode cX1_holds 9 = .ok (.if_icmp .ge 7, 3) := by decide +kernel
theorem dX1_holds_12 : decode cX1_holds 12 = .ok (.iconst 1, 1) := by decide +kernel
theorem dX1_holds_13 : decode cX1_holds 13 = .ok (.goto 4, 3) := by decide +kernel
theorem dX1_holds_16 : decode cX1_holds 16 = .ok (.iconst 0, 1) := by decide +kernel
theorem dX1_holds_17 : decode cX1_holds 17 = .ok (.ireturn, 1) := by decide +kernel
set_option maxRecDepth 20000 in
theorem ggX1_isReading_X1_holds : GoodIn wsX1_isReading wsX1_holds := goodIn_r _ [6, 7, 8, 9, 10, 11, 12, 13, 14] (by decide +kernel) (by decide +kernel)
set_option maxRecDepth 20000 in
theorem gX1_isReading_X1_holds : GoodIn wsX1_isReading (wsV RX1 41 RX1 yX1_holds wsX1_holds) := goodIn_app (goodIn_of _ (by decide +kernel)) ggX1_isReading_X1_holds
theorem dX1_isReading_0 : decode cX1_isReading 0 = .ok (.aload_n 0, 1) := by decide +kernel
theorem dX1_isReading_1 : decode cX1_isReading 1 = .ok (.iload_n 1, 1) := by decide +kernel
theorem dX1_isReading_2 : decode cX1_isReading 2 = .ok (.invokevirtual 41, 3) := by decide +kernel
theorem dX1_isReading_5 : decode cX1_isReading 5 = .ok (.ifCond .eq 18, 3) := by decide +kernel
theorem dX1_isReading_8 : decode cX1_isReading 8 = .ok (.aload_n 0, 1) := by decide +kernel
theorem dX1_isReading_9 : decode cX1_isReading 9 = .ok (.getfield 19, 3) := by decide +kernel
theorem dX1_isReading_12 : decode cX1_isReading 12 = .ok (.iload_n 1, 1) := by decide +kernel
theorem dX1_isReading_13 : decode cX1_isReading 13 = .ok (.laload, 1) := by decide +kernel
theorem dX1_isReading_14 : decode cX1_isReading 14 = .ok (.lconst 0, 1) := by decide +kernel
theorem dX1_isReading_15 : decode cX1_isReading 15 = .ok (.lcmp, 1) := by decide +kernel
theorem dX1_isReading_16 : decode cX1_isReading 16 = .ok (.ifCond .lt 7, 3) := by decide +kernel
theorem dX1_isReading_19 : decode cX1_isReading 19 = .ok (.iconst 1, 1) := by decide +kernel
theorem dX1_isReading_20 : decode cX1_isReading 20 = .ok (.goto 4, 3) := by decide +kernel
theorem dX1_isReading_23 : decode cX1_isReading 23 = .ok (.iconst 0, 1) := by decide +kernel
theorem dX1_isReading_24 : decode cX1_isReading 24 = .ok (.ireturn, 1) := by decide +kernel
set_option maxRecDepth 20000 in
theorem ggX1_hasMark_X1_holds : GoodIn wsX1_hasMark wsX1_holds := goodIn_r _ [6, 7, 8, 9, 10, 11, 12, 13, 14] (by decide +kernel) (by decide +kernel)
set_option maxRecDepth 20000 in
theorem gX1_hasMark_X1_holds : GoodIn wsX1_hasMark (wsV RX1 41 RX1 yX1_holds wsX1_holds) := goodIn_app (goodIn_of _ (by decide +kernel)) ggX1_hasMark_X1_holds
theorem dX1_hasMark_0 : decode cX1_hasMark 0 = .ok (.aload_n 0, 1) := by decide +kernel
theorem dX1_hasMark_1 : decode cX1_hasMark 1 = .ok (.iload_n 1, 1) := by decide +kernel
theorem dX1_hasMark_2 : decode cX1_hasMark 2 = .ok (.invokevirtual 41, 3) := by decide +kernel
theorem dX1_hasMark_5 : decode cX1_hasMark 5 = .ok (.ifCond .eq 16, 3) := by decide +kernel
theorem dX1_hasMark_8 : decode cX1_hasMark 8 = .ok (.aload_n 0, 1) := by decide +kernel
theorem dX1_hasMark_9 : decode cX1_hasMark 9 = .ok (.getfield 29, 3) := by decide +kernel
theorem dX1_hasMark_12 : decode cX1_hasMark 12 = .ok (.iload_n 1, 1) := by decide +kernel
theorem dX1_hasMark_13 : decode cX1_hasMark 13 = .ok (.baload, 1) := by decide +kernel
theorem dX1_hasMark_14 : decode cX1_hasMark 14 = .ok (.ifCond .eq 7, 3) := by decide +kernel
theorem dX1_hasMark_17 : decode cX1_hasMark 17 = .ok (.iconst 1, 1) := by decide +kernel
theorem dX1_hasMark_18 : decode cX1_hasMark 18 = .ok (.goto 4, 3) := by decide +kernel
theorem dX1_hasMark_21 : decode cX1_hasMark 21 = .ok (.iconst 0, 1) := by decide +kernel
theorem dX1_hasMark_22 : decode cX1_hasMark 22 = .ok (.ireturn, 1) := by decide +kernel
set_option maxRecDepth 20000 in
theorem ggX1_pulsesOf_X1_isReading : GoodIn wsX1_pulsesOf wsX1_isReading := goodIn_r _ [6, 7, 8, 9, 10, 5, 11, 12, 13, 14, 15, 16, 17, 18, 19] (by decide +kernel) (by decide +kernel)
set_option maxRecDepth 20000 in
theorem gX1_pulsesOf_X1_isReading : GoodIn wsX1_pulsesOf (wsV RX1 45 RX1 yX1_isReading wsX1_isReading) := goodIn_app (goodIn_of _ (by decide +kernel)) ggX1_pulsesOf_X1_isReading
theorem dX1_pulsesOf_0 : decode cX1_pulsesOf 0 = .ok (.aload_n 0, 1) := by decide +kernel
theorem dX1_pulsesOf_1 : decode cX1_pulsesOf 1 = .ok (.iload_n 1, 1) := by decide +kernel
theorem dX1_pulsesOf_2 : decode cX1_pulsesOf 2 = .ok (.invokevirtual 45, 3) := by decide +kernel
theorem dX1_pulsesOf_5 : decode cX1_pulsesOf 5 = .ok (.ifCond .eq 12, 3) := by decide +kernel
theorem dX1_pulsesOf_8 : decode cX1_pulsesOf 8 = .ok (.aload_n 0, 1) := by decide +kernel
theorem dX1_pulsesOf_9 : decode cX1_pulsesOf 9 = .ok (.getfield 15, 3) := by decide +kernel
theorem dX1_pulsesOf_12 : decode cX1_pulsesOf 12 = .ok (.iload_n 1, 1) := by decide +kernel
theorem dX1_pulsesOf_13 : decode cX1_pulsesOf 13 = .ok (.laload, 1) := by decide +kernel
theorem dX1_pulsesOf_14 : decode cX1_pulsesOf 14 = .ok (.goto 4, 3) := by decide +kernel
theorem dX1_pulsesOf_17 : decode cX1_pulsesOf 17 = .ok (.lconst 0, 1) := by decide +kernel
theorem dX1_pulsesOf_18 : decode cX1_pulsesOf 18 = .ok (.lreturn, 1) := by decide +kernel
set_option maxRecDepth 20000 in
theorem ggX1_degreesOf_X1_holds : GoodIn wsX1_degreesOf wsX1_holds := goodIn_r _ [6, 7, 8, 9, 10, 11, 12, 13, 14] (by decide +kernel) (by decide +kernel)
set_option maxRecDepth 20000 in
theorem gX1_degreesOf_X1_holds : GoodIn wsX1_degreesOf (wsV RX1 41 RX1 yX1_holds wsX1_holds) := goodIn_app (goodIn_of _ (by decide +kernel)) ggX1_degreesOf_X1_holds
theorem dX1_degreesOf_0 : decode cX1_degreesOf 0 = .ok (.aload_n 0, 1) := by decide +kernel
theorem dX1_degreesOf_1 : decode cX1_degreesOf 1 = .ok (.iload_n 1, 1) := by decide +kernel
theorem dX1_degreesOf_2 : decode cX1_degreesOf 2 = .ok (.invokevirtual 41, 3) := by decide +kernel
theorem dX1_degreesOf_5 : decode cX1_degreesOf 5 = .ok (.ifCond .eq 12, 3) := by decide +kernel
theorem dX1_degreesOf_8 : decode cX1_degreesOf 8 = .ok (.aload_n 0, 1) := by decide +kernel
theorem dX1_degreesOf_9 : decode cX1_degreesOf 9 = .ok (.getfield 22, 3) := by decide +kernel
theorem dX1_degreesOf_12 : decode cX1_degreesOf 12 = .ok (.iload_n 1, 1) := by decide +kernel
theorem dX1_degreesOf_13 : decode cX1_degreesOf 13 = .ok (.iaload, 1) := by decide +kernel
theorem dX1_degreesOf_14 : decode cX1_degreesOf 14 = .ok (.goto 4, 3) := by decide +kernel
theorem dX1_degreesOf_17 : decode cX1_degreesOf 17 = .ok (.iconst 0, 1) := by decide +kernel
theorem dX1_degreesOf_18 : decode cX1_degreesOf 18 = .ok (.ireturn, 1) := by decide +kernel
set_option maxRecDepth 20000 in
theorem ggX1_addPulses_X1_pulsesOf : GoodIn wsX1_addPulses wsX1_pulsesOf := goodIn_r _ [7, 2, 8, 9, 10, 6, 11, 12, 13, 14, 15, 16, 17, 21, 22, 23, 24, 25, 26, 27] (by decide +kernel) (by decide +kernel)
set_option maxRecDepth 20000 in
theorem gX1_addPulses_X1_pulsesOf : GoodIn wsX1_addPulses (wsV RX1 48 RX1 yX1_pulsesOf wsX1_pulsesOf) := goodIn_app (goodIn_of _ (by decide +kernel)) ggX1_addPulses_X1_pulsesOf
set_option maxRecDepth 20000 in
theorem ggX1_addPulses_X1_isReading : GoodIn wsX1_addPulses wsX1_isReading := goodIn_r _ [11, 12, 13, 14, 15, 6, 16, 17, 21, 22, 23, 24, 25, 26, 27] (by decide +kernel) (by decide +kernel)
set_option maxRecDepth 20000 in
theorem gX1_addPulses_X1_isReading : GoodIn wsX1_addPulses (wsV RX1 45 RX1 yX1_isReading wsX1_isReading) := goodIn_app (goodIn_of _ (by decide +kernel)) ggX1_addPulses_X1_isReading
set_option maxRecDepth 20000 in
theorem ggX1_addPulses_X3_within : GoodIn wsX1_addPulses wsX3_within := goodIn_r _ [20] (by decide +kernel) (by decide +kernel)
set_option maxRecDepth 20000 in
theorem gX1_addPulses_X3_within_n53 : GoodIn wsX1_addPulses (wsX3_within) := ggX1_addPulses_X3_within
theorem dX1_addPulses_0 : decode cX1_addPulses 0 = .ok (.aload_n 0, 1) := by decide +kernel
theorem dX1_addPulses_1 : decode cX1_addPulses 1 = .ok (.iload_n 1, 1) := by decide +kernel
theorem dX1_addPulses_2 : decode cX1_addPulses 2 = .ok (.invokevirtual 48, 3) := by decide +kernel
theorem dX1_addPulses_5 : decode cX1_addPulses 5 = .ok (.lstore 4, 2) := by decide +kernel
theorem dX1_addPulses_7 : decode cX1_addPulses 7 = .ok (.aload_n 0, 1) := by decide +kernel
theorem dX1_addPulses_8 : decode cX1_addPulses 8 = .ok (.iload_n 1, 1) := by decide +kernel
theorem dX1_addPulses_9 : decode cX1_addPulses 9 = .ok (.invokevirtual 45, 3) := by decide +kernel
theorem dX1_addPulses_12 : decode cX1_addPulses 12 = .ok (.ifCond .eq 19, 3) := by decide +kernel
theorem dX1_addPulses_15 : decode cX1_addPulses 15 = .ok (.lload_n 2, 1) := by decide +kernel
theorem dX1_addPulses_16 : decode cX1_addPulses 16 = .ok (.lload 4, 2) := by decide +kernel
theorem dX1_addPulses_18 : decode cX1_addPulses 18 = .ok (.lneg, 1) := by decide +kernel
theorem dX1_addPulses_19 : decode cX1_addPulses 19 = .ok (.ldc2_w 51, 3) := by decide +kernel
theorem dX1_addPulses_22 : decode cX1_addPulses 22 = .ok (.lload 4, 2) := by decide +kernel
theorem dX1_addPulses_24 : decode cX1_addPulses 24 = .ok (.lsub, 1) := by decide +kernel
theorem dX1_addPulses_25 : decode cX1_addPulses 25 = .ok (.invokestatic 53, 3) := by decide +kernel
theorem dX1_addPulses_28 : decode cX1_addPulses 28 = .ok (.ifCond .ne 5, 3) := by decide +kernel
theorem dX1_addPulses_31 : decode cX1_addPulses 31 = .ok (.iconst 0, 1) := by decide +kernel
theorem dX1_addPulses_32 : decode cX1_addPulses 32 = .ok (.ireturn, 1) := by decide +kernel
theorem dX1_addPulses_33 : decode cX1_addPulses 33 = .ok (.aload_n 0, 1) := by decide +kernel
theorem dX1_addPulses_34 : decode cX1_addPulses 34 = .ok (.getfield 15, 3) := by decide +kernel
theorem dX1_addPulses_37 : decode cX1_addPulses 37 = .ok (.iload_n 1, 1) := by decide +kernel
theorem dX1_addPulses_38 : decode cX1_addPulses 38 = .ok (.lload 4, 2) := by decide +kernel
theorem dX1_addPulses_40 : decode cX1_addPulses 40 = .ok (.lload_n 2, 1) := by decide +kernel
theorem dX1_addPulses_41 : decode cX1_addPulses 41 = .ok (.ladd, 1) := by decide +kernel
theorem dX1_addPulses_42 : decode cX1_addPulses 42 = .ok (.lastore, 1) := by decide +kernel
theorem dX1_addPulses_43 : decode cX1_addPulses 43 = .ok (.iconst 1, 1) := by decide +kernel
theorem dX1_addPulses_44 : decode cX1_addPulses 44 = .ok (.ireturn, 1) := by decide +kernel
set_option maxRecDepth 20000 in
theorem ggX1_firstWrong_X1_dueSum : GoodIn wsX1_firstWrong wsX1_dueSum := goodIn_r _ [7, 8, 2, 9, 10, 11, 12, 13, 14, 15, 6, 16, 1, 17, 18, 19, 20, 21, 22, 23, 24, 25, 26, 27] (by decide +kernel) (by decide +kernel)
set_option maxRecDepth 20000 in
theorem gX1_firstWrong_X1_dueSum : GoodIn wsX1_firstWrong (wsV RX1 37 RX1 yX1_dueSum wsX1_dueSum) := goodIn_app (goodIn_of _ (by decide +kernel)) ggX1_firstWrong_X1_dueSum
theorem dX1_firstWrong_0 : decode cX1_firstWrong 0 = .ok (.iload_n 1, 1) := by decide +kernel
theorem dX1_firstWrong_1 : decode cX1_firstWrong 1 = .ok (.ifCond .lt 11, 3) := by decide +kernel
theorem dX1_firstWrong_4 : decode cX1_firstWrong 4 = .ok (.iload_n 1, 1) := by decide +kernel
theorem dX1_firstWrong_5 : decode cX1_firstWrong 5 = .ok (.aload_n 0, 1) := by decide +kernel
theorem dX1_firstWrong_6 : decode cX1_firstWrong 6 = .ok (.getfield 33, 3) := by decide +kernel
theorem dX1_firstWrong_9 : decode cX1_firstWrong 9 = .ok (.if_icmp .le 5, 3) := by decide +kernel
theorem dX1_firstWrong_12 : decode cX1_firstWrong 12 = .ok (.iconst (-1), 1) := by decide +kernel
theorem dX1_firstWrong_13 : decode cX1_firstWrong 13 = .ok (.ireturn, 1) := by decide +kernel
theorem dX1_firstWrong_14 : decode cX1_firstWrong 14 = .ok (.iload_n 1, 1) := by decide +kernel
theorem dX1_firstWrong_15 : decode cX1_firstWrong 15 = .ok (.istore_n 2, 1) := by decide +kernel
theorem dX1_firstWrong_16 : decode cX1_firstWrong 16 = .ok (.iload_n 2, 1) := by decide +kernel
theorem dX1_firstWrong_17 : decode cX1_firstWrong 17 = .ok (.aload_n 0, 1) := by decide +kernel
theorem dX1_firstWrong_18 : decode cX1_firstWrong 18 = .ok (.getfield 33, 3) := by decide +kernel
theorem dX1_firstWrong_21 : decode cX1_firstWrong 21 = .ok (.if_icmp .ge 28, 3) := by decide +kernel
theorem dX1_firstWrong_24 : decode cX1_firstWrong 24 = .ok (.aload_n 0, 1) := by decide +kernel
theorem dX1_firstWrong_25 : decode cX1_firstWrong 25 = .ok (.getfield 26, 3) := by decide +kernel
theorem dX1_firstWrong_28 : decode cX1_firstWrong 28 = .ok (.iload_n 2, 1) := by decide +kernel
theorem dX1_firstWrong_29 : decode cX1_firstWrong 29 = .ok (.laload, 1) := by decide +kernel
theorem dX1_firstWrong_30 : decode cX1_firstWrong 30 = .ok (.aload_n 0, 1) := by decide +kernel
theorem dX1_firstWrong_31 : decode cX1_firstWrong 31 = .ok (.iload_n 2, 1) := by decide +kernel
theorem dX1_firstWrong_32 : decode cX1_firstWrong 32 = .ok (.invokevirtual 37, 3) := by decide +kernel
theorem dX1_firstWrong_35 : decode cX1_firstWrong 35 = .ok (.lcmp, 1) := by decide +kernel
theorem dX1_firstWrong_36 : decode cX1_firstWrong 36 = .ok (.ifCond .eq 7, 3) := by decide +kernel
theorem dX1_firstWrong_39 : decode cX1_firstWrong 39 = .ok (.iload_n 2, 1) := by decide +kernel
theorem dX1_firstWrong_40 : decode cX1_firstWrong 40 = .ok (.iconst 1, 1) := by decide +kernel
theorem dX1_firstWrong_41 : decode cX1_firstWrong 41 = .ok (.iadd, 1) := by decide +kernel
theorem dX1_firstWrong_42 : decode cX1_firstWrong 42 = .ok (.ireturn, 1) := by decide +kernel
theorem dX1_firstWrong_43 : decode cX1_firstWrong 43 = .ok (.iinc 2 1, 3) := by decide +kernel
theorem dX1_firstWrong_46 : decode cX1_firstWrong 46 = .ok (.goto (-30), 3) := by decide +kernel
theorem dX1_firstWrong_49 : decode cX1_firstWrong 49 = .ok (.iconst 0, 1) := by decide +kernel
theorem dX1_firstWrong_50 : decode cX1_firstWrong 50 = .ok (.ireturn, 1) := by decide +kernel
set_option maxRecDepth 20000 in
theorem ggX1_dueSum_X1_holds : GoodIn wsX1_dueSum wsX1_holds := goodIn_r _ [11, 12, 17, 18, 19, 20, 21, 22, 23] (by decide +kernel) (by decide +kernel)
set_option maxRecDepth 20000 in
theorem gX1_dueSum_X1_holds : GoodIn wsX1_dueSum (wsV RX1 41 RX1 yX1_holds wsX1_holds) := goodIn_app (goodIn_of _ (by decide +kernel)) ggX1_dueSum_X1_holds
set_option maxRecDepth 20000 in
theorem ggX1_dueSum_X1_stir : GoodIn wsX1_dueSum wsX1_stir := goodIn_r _ [15, 16] (by decide +kernel) (by decide +kernel)
set_option maxRecDepth 20000 in
theorem gX1_dueSum_X1_stir : GoodIn wsX1_dueSum (va_wsS RX1 59 yX1_stir wsX1_stir) := goodIn_app (goodIn_of _ (by decide +kernel)) ggX1_dueSum_X1_stir
theorem dX1_dueSum_0 : decode cX1_dueSum 0 = .ok (.aload_n 0, 1) := by decide +kernel
theorem dX1_dueSum_1 : decode cX1_dueSum 1 = .ok (.iload_n 1, 1) := by decide +kernel
theorem dX1_dueSum_2 : decode cX1_dueSum 2 = .ok (.invokevirtual 41, 3) := by decide +kernel
theorem dX1_dueSum_5 : decode cX1_dueSum 5 = .ok (.ifCond .ne 5, 3) := by decide +kernel
theorem dX1_dueSum_8 : decode cX1_dueSum 8 = .ok (.lconst 0, 1) := by decide +kernel
theorem dX1_dueSum_9 : decode cX1_dueSum 9 = .ok (.lreturn, 1) := by decide +kernel
theorem dX1_dueSum_10 : decode cX1_dueSum 10 = .ok (.iload_n 1, 1) := by decide +kernel
theorem dX1_dueSum_11 : decode cX1_dueSum 11 = .ok (.ifCond .ne 10, 3) := by decide +kernel
theorem dX1_dueSum_14 : decode cX1_dueSum 14 = .ok (.aload_n 0, 1) := by decide +kernel
theorem dX1_dueSum_15 : decode cX1_dueSum 15 = .ok (.getfield 9, 3) := by decide +kernel
theorem dX1_dueSum_18 : decode cX1_dueSum 18 = .ok (.goto 11, 3) := by decide +kernel
theorem dX1_dueSum_21 : decode cX1_dueSum 21 = .ok (.aload_n 0, 1) := by decide +kernel
theorem dX1_dueSum_22 : decode cX1_dueSum 22 = .ok (.getfield 26, 3) := by decide +kernel
theorem dX1_dueSum_25 : decode cX1_dueSum 25 = .ok (.iload_n 1, 1) := by decide +kernel
theorem dX1_dueSum_26 : decode cX1_dueSum 26 = .ok (.iconst 1, 1) := by decide +kernel
theorem dX1_dueSum_27 : decode cX1_dueSum 27 = .ok (.isub, 1) := by decide +kernel
theorem dX1_dueSum_28 : decode cX1_dueSum 28 = .ok (.laload, 1) := by decide +kernel
theorem dX1_dueSum_29 : decode cX1_dueSum 29 = .ok (.lstore_n 2, 1) := by decide +kernel
theorem dX1_dueSum_30 : decode cX1_dueSum 30 = .ok (.ldc2_w 57, 3) := by decide +kernel
theorem dX1_dueSum_33 : decode cX1_dueSum 33 = .ok (.lload_n 2, 1) := by decide +kernel
theorem dX1_dueSum_34 : decode cX1_dueSum 34 = .ok (.lmul, 1) := by decide +kernel
theorem dX1_dueSum_35 : decode cX1_dueSum 35 = .ok (.aload_n 0, 1) := by decide +kernel
theorem dX1_dueSum_36 : decode cX1_dueSum 36 = .ok (.getfield 9, 3) := by decide +kernel
theorem dX1_dueSum_39 : decode cX1_dueSum 39 = .ok (.ladd, 1) := by decide +kernel
theorem dX1_dueSum_40 : decode cX1_dueSum 40 = .ok (.lstore 4, 2) := by decide +kernel
theorem dX1_dueSum_42 : decode cX1_dueSum 42 = .ok (.lload 4, 2) := by decide +kernel
theorem dX1_dueSum_44 : decode cX1_dueSum 44 = .ok (.aload_n 0, 1) := by decide +kernel
theorem dX1_dueSum_45 : decode cX1_dueSum 45 = .ok (.getfield 15, 3) := by decide +kernel
theorem dX1_dueSum_48 : decode cX1_dueSum 48 = .ok (.iload_n 1, 1) := by decide +kernel
theorem dX1_dueSum_49 : decode cX1_dueSum 49 = .ok (.laload, 1) := by decide +kernel
theorem dX1_dueSum_50 : decode cX1_dueSum 50 = .ok (.invokestatic 59, 3) := by decide +kernel
theorem dX1_dueSum_53 : decode cX1_dueSum 53 = .ok (.lstore 4, 2) := by decide +kernel
theorem dX1_dueSum_55 : decode cX1_dueSum 55 = .ok (.lload 4, 2) := by decide +kernel
theorem dX1_dueSum_57 : decode cX1_dueSum 57 = .ok (.aload_n 0, 1) := by decide +kernel
theorem dX1_dueSum_58 : decode cX1_dueSum 58 = .ok (.getfield 19, 3) := by decide +kernel
theorem dX1_dueSum_61 : decode cX1_dueSum 61 = .ok (.iload_n 1, 1) := by decide +kernel
theorem dX1_dueSum_62 : decode cX1_dueSum 62 = .ok (.laload, 1) := by decide +kernel
theorem dX1_dueSum_63 : decode cX1_dueSum 63 = .ok (.invokestatic 59, 3) := by decide +kernel
theorem dX1_dueSum_66 : decode cX1_dueSum 66 = .ok (.lstore 4, 2) := by decide +kernel
theorem dX1_dueSum_68 : decode cX1_dueSum 68 = .ok (.lload 4, 2) := by decide +kernel
theorem dX1_dueSum_70 : decode cX1_dueSum 70 = .ok (.aload_n 0, 1) := by decide +kernel
theorem dX1_dueSum_71 : decode cX1_dueSum 71 = .ok (.getfield 22, 3) := by decide +kernel
theorem dX1_dueSum_74 : decode cX1_dueSum 74 = .ok (.iload_n 1, 1) := by decide +kernel
theorem dX1_dueSum_75 : decode cX1_dueSum 75 = .ok (.iaload, 1) := by decide +kernel
theorem dX1_dueSum_76 : decode cX1_dueSum 76 = .ok (.i2l, 1) := by decide +kernel
theorem dX1_dueSum_77 : decode cX1_dueSum 77 = .ok (.invokestatic 59, 3) := by decide +kernel
theorem dX1_dueSum_80 : decode cX1_dueSum 80 = .ok (.lreturn, 1) := by decide +kernel
theorem dX1_stir_0 : decode cX1_stir 0 = .ok (.lload_n 0, 1) := by decide +kernel
theorem dX1_stir_1 : decode cX1_stir 1 = .ok (.lload_n 2, 1) := by decide +kernel
theorem dX1_stir_2 : decode cX1_stir 2 = .ok (.lxor, 1) := by decide +kernel
theorem dX1_stir_3 : decode cX1_stir 3 = .ok (.ldc2_w 63, 3) := by decide +kernel
theorem dX1_stir_6 : decode cX1_stir 6 = .ok (.lmul, 1) := by decide +kernel
theorem dX1_stir_7 : decode cX1_stir 7 = .ok (.lstore 4, 2) := by decide +kernel
theorem dX1_stir_9 : decode cX1_stir 9 = .ok (.lload 4, 2) := by decide +kernel
theorem dX1_stir_11 : decode cX1_stir 11 = .ok (.lload 4, 2) := by decide +kernel
theorem dX1_stir_13 : decode cX1_stir 13 = .ok (.bipush 29, 2) := by decide +kernel
theorem dX1_stir_15 : decode cX1_stir 15 = .ok (.lushr, 1) := by decide +kernel
theorem dX1_stir_16 : decode cX1_stir 16 = .ok (.lxor, 1) := by decide +kernel
theorem dX1_stir_17 : decode cX1_stir 17 = .ok (.lreturn, 1) := by decide +kernel
set_option maxRecDepth 20000 in
theorem ggX1_findGap_X1_isReading : GoodIn wsX1_findGap wsX1_isReading := goodIn_r _ [9, 3, 10, 11, 12, 8, 13, 2, 23, 24, 25, 26, 27, 28, 29] (by decide +kernel) (by decide +kernel)
set_option maxRecDepth 20000 in
theorem gX1_findGap_X1_isReading : GoodIn wsX1_findGap (wsV RX1 45 RX1 yX1_isReading wsX1_isReading) := goodIn_app (goodIn_of _ (by decide +kernel)) ggX1_findGap_X1_isReading
set_option maxRecDepth 20000 in
theorem ggX1_findGap_X1_wholeMinutes : GoodIn wsX1_findGap wsX1_wholeMinutes := goodIn_r _ [16, 17, 18, 19, 20, 21, 22] (by decide +kernel) (by decide +kernel)
set_option maxRecDepth 20000 in
theorem gX1_findGap_X1_wholeMinutes : GoodIn wsX1_findGap (va_wsS RX1 69 yX1_wholeMinutes wsX1_wholeMinutes) := goodIn_app (goodIn_of _ (by decide +kernel)) ggX1_findGap_X1_wholeMinutes
theorem dX1_findGap_0 : decode cX1_findGap 0 = .ok (.iload_n 1, 1) := by decide +kernel
theorem dX1_findGap_1 : decode cX1_findGap 1 = .ok (.istore_n 3, 1) := by decide +kernel
theorem dX1_findGap_2 : decode cX1_findGap 2 = .ok (.ldc2_w 65, 3) := by decide +kernel
theorem dX1_findGap_5 : decode cX1_findGap 5 = .ok (.lstore 4, 2) := by decide +kernel
theorem dX1_findGap_7 : decode cX1_findGap 7 = .ok (.iconst 0, 1) := by decide +kernel
theorem dX1_findGap_8 : decode cX1_findGap 8 = .ok (.istore 6, 2) := by decide +kernel
theorem dX1_findGap_10 : decode cX1_findGap 10 = .ok (.iload 6, 2) := by decide +kernel
theorem dX1_findGap_12 : decode cX1_findGap 12 = .ok (.aload_n 0, 1) := by decide +kernel
theorem dX1_findGap_13 : decode cX1_findGap 13 = .ok (.getfield 33, 3) := by decide +kernel
theorem dX1_findGap_16 : decode cX1_findGap 16 = .ok (.if_icmp .ge 87, 3) := by decide +kernel
theorem dX1_findGap_19 : decode cX1_findGap 19 = .ok (.aload_n 0, 1) := by decide +kernel
theorem dX1_findGap_20 : decode cX1_findGap 20 = .ok (.iload 6, 2) := by decide +kernel
theorem dX1_findGap_22 : decode cX1_findGap 22 = .ok (.invokevirtual 45, 3) := by decide +kernel
theorem dX1_findGap_25 : decode cX1_findGap 25 = .ok (.ifCond .ne 6, 3) := by decide +kernel
theorem dX1_findGap_28 : decode cX1_findGap 28 = .ok (.goto 69, 3) := by decide +kernel
theorem dX1_findGap_31 : decode cX1_findGap 31 = .ok (.lload 4, 2) := by decide +kernel
theorem dX1_findGap_33 : decode cX1_findGap 33 = .ok (.lconst 0, 1) := by decide +kernel
theorem dX1_findGap_34 : decode cX1_findGap 34 = .ok (.lcmp, 1) := by decide +kernel
theorem dX1_findGap_35 : decode cX1_findGap 35 = .ok (.ifCond .ge 7, 3) := by decide +kernel
theorem dX1_findGap_38 : decode cX1_findGap 38 = .ok (.lconst 0, 1) := by decide +kernel
theorem dX1_findGap_39 : decode cX1_findGap 39 = .ok (.goto 13, 3) := by decide +kernel
theorem dX1_findGap_42 : decode cX1_findGap 42 = .ok (.aload_n 0, 1) := by decide +kernel
theorem dX1_findGap_43 : decode cX1_findGap 43 = .ok (.getfield 19, 3) := by decide +kernel
theorem dX1_findGap_46 : decode cX1_findGap 46 = .ok (.iload 6, 2) := by decide +kernel
theorem dX1_findGap_48 : decode cX1_findGap 48 = .ok (.laload, 1) := by decide +kernel
theorem dX1_findGap_49 : decode cX1_findGap 49 = .ok (.lload 4, 2) := by decide +kernel
theorem dX1_findGap_51 : decode cX1_findGap 51 = .ok (.lsub, 1) := by decide +kernel
theorem dX1_findGap_52 : decode cX1_findGap 52 = .ok (.lstore 7, 2) := by decide +kernel
theorem dX1_findGap_54 : decode cX1_findGap 54 = .ok (.aload_n 0, 1) := by decide +kernel
theorem dX1_findGap_55 : decode cX1_findGap 55 = .ok (.getfield 19, 3) := by decide +kernel
theorem dX1_findGap_58 : decode cX1_findGap 58 = .ok (.iload 6, 2) := by decide +kernel
theorem dX1_findGap_60 : decode cX1_findGap 60 = .ok (.laload, 1) := by decide +kernel
theorem dX1_findGap_61 : decode cX1_findGap 61 = .ok (.lstore 4, 2) := by decide +kernel
theorem dX1_findGap_63 : decode cX1_findGap 63 = .ok (.lload 7, 2) := by decide +kernel
theorem dX1_findGap_65 : decode cX1_findGap 65 = .ok (.ldc2_w 67, 3) := by decide +kernel
theorem dX1_findGap_68 : decode cX1_findGap 68 = .ok (.lcmp, 1) := by decide +kernel
theorem dX1_findGap_69 : decode cX1_findGap 69 = .ok (.ifCond .gt 6, 3) := by decide +kernel
theorem dX1_findGap_72 : decode cX1_findGap 72 = .ok (.goto 25, 3) := by decide +kernel
theorem dX1_findGap_75 : decode cX1_findGap 75 = .ok (.iload_n 3, 1) := by decide +kernel
theorem dX1_findGap_76 : decode cX1_findGap 76 = .ok (.ifCond .ne 18, 3) := by decide +kernel
theorem dX1_findGap_79 : decode cX1_findGap 79 = .ok (.iload_n 2, 1) := by decide +kernel
theorem dX1_findGap_80 : decode cX1_findGap 80 = .ok (.ifCond .ne 8, 3) := by decide +kernel
theorem dX1_findGap_83 : decode cX1_findGap 83 = .ok (.iload 6, 2) := by decide +kernel
theorem dX1_findGap_85 : decode cX1_findGap 85 = .ok (.goto 8, 3) := by decide +kernel
theorem dX1_findGap_88 : decode cX1_findGap 88 = .ok (.lload 7, 2) := by decide +kernel
theorem dX1_findGap_90 : decode cX1_findGap 90 = .ok (.invokestatic 69, 3) := by decide +kernel
theorem dX1_findGap_93 : decode cX1_findGap 93 = .ok (.ireturn, 1) := by decide +kernel
theorem dX1_findGap_94 : decode cX1_findGap 94 = .ok (.iinc 3 (-1), 3) := by decide +kernel
theorem dX1_findGap_97 : decode cX1_findGap 97 = .ok (.iinc 6 1, 3) := by decide +kernel
theorem dX1_findGap_100 : decode cX1_findGap 100 = .ok (.goto (-90), 3) := by decide +kernel
theorem dX1_findGap_103 : decode cX1_findGap 103 = .ok (.iconst (-1), 1) := by decide +kernel
theorem dX1_findGap_104 : decode cX1_findGap 104 = .ok (.ireturn, 1) := by decide +kernel
theorem dX1_wholeMinutes_0 : decode cX1_wholeMinutes 0 = .ok (.lload_n 0, 1) := by decide +kernel
theorem dX1_wholeMinutes_1 : decode cX1_wholeMinutes 1 = .ok (.ldc2_w 73, 3) := by decide +kernel
theorem dX1_wholeMinutes_4 : decode cX1_wholeMinutes 4 = .ok (.ldiv, 1) := by decide +kernel
theorem dX1_wholeMinutes_5 : decode cX1_wholeMinutes 5 = .ok (.ldc2_w 75, 3) := by decide +kernel
theorem dX1_wholeMinutes_8 : decode cX1_wholeMinutes 8 = .ok (.invokestatic 77, 3) := by decide +kernel
theorem dX1_wholeMinutes_11 : decode cX1_wholeMinutes 11 = .ok (.l2i, 1) := by decide +kernel
theorem dX1_wholeMinutes_12 : decode cX1_wholeMinutes 12 = .ok (.ireturn, 1) := by decide +kernel
set_option maxRecDepth 20000 in
theorem ggX1_rollByte_X1_lineLength : GoodIn wsX1_rollByte wsX1_lineLength := goodIn_r _ [6, 7, 8, 9, 5, 10, 11, 12, 13, 14, 15, 16, 17, 18, 19, 1, 20, 21, 22, 23, 24, 25, 26, 27, 28, 29, 30, 31, 32, 33, 34, 52, 53, 54, 55, 56, 57, 58] (by decide +kernel) (by decide +kernel)
set_option maxRecDepth 20000 in
theorem gX1_rollByte_X1_lineLength : GoodIn wsX1_rollByte (wsV RX1 82 RX1 yX1_lineLength wsX1_lineLength) := goodIn_app (goodIn_of _ (by decide +kernel)) ggX1_rollByte_X1_lineLength
set_option maxRecDepth 20000 in
theorem ggX1_rollByte_X1_lineByte : GoodIn wsX1_rollByte wsX1_lineByte := goodIn_r _ [38, 39, 40, 41, 5, 42, 15, 43, 44, 16, 17, 18, 19, 1, 11, 12, 13, 14, 7, 8, 9, 10, 20, 21, 22, 23, 24, 25, 26, 27, 28, 29, 45, 46, 47, 48, 49, 50, 51, 30, 31, 32, 33, 34, 52, 53, 54, 55, 56, 57, 58] (by decide +kernel) (by decide +kernel)
set_option maxRecDepth 20000 in
theorem gX1_rollByte_X1_lineByte : GoodIn wsX1_rollByte (wsV RX1 86 RX1 yX1_lineByte wsX1_lineByte) := goodIn_app (goodIn_of _ (by decide +kernel)) ggX1_rollByte_X1_lineByte
theorem dX1_rollByte_0 : decode cX1_rollByte 0 = .ok (.iload_n 1, 1) := by decide +kernel
theorem dX1_rollByte_1 : decode cX1_rollByte 1 = .ok (.ifCond .ge 5, 3) := by decide +kernel
theorem dX1_rollByte_4 : decode cX1_rollByte 4 = .ok (.iconst (-1), 1) := by decide +kernel
theorem dX1_rollByte_5 : decode cX1_rollByte 5 = .ok (.ireturn, 1) := by decide +kernel
theorem dX1_rollByte_6 : decode cX1_rollByte 6 = .ok (.iload_n 1, 1) := by decide +kernel
theorem dX1_rollByte_7 : decode cX1_rollByte 7 = .ok (.istore_n 2, 1) := by decide +kernel
theorem dX1_rollByte_8 : decode cX1_rollByte 8 = .ok (.iconst 0, 1) := by decide +kernel
theorem dX1_rollByte_9 : decode cX1_rollByte 9 = .ok (.istore_n 3, 1) := by decide +kernel
theorem dX1_rollByte_10 : decode cX1_rollByte 10 = .ok (.iload_n 3, 1) := by decide +kernel
theorem dX1_rollByte_11 : decode cX1_rollByte 11 = .ok (.aload_n 0, 1) := by decide +kernel
theorem dX1_rollByte_12 : decode cX1_rollByte 12 = .ok (.getfield 33, 3) := by decide +kernel
theorem dX1_rollByte_15 : decode cX1_rollByte 15 = .ok (.if_icmp .ge 34, 3) := by decide +kernel
theorem dX1_rollByte_18 : decode cX1_rollByte 18 = .ok (.aload_n 0, 1) := by decide +kernel
theorem dX1_rollByte_19 : decode cX1_rollByte 19 = .ok (.iload_n 3, 1) := by decide +kernel
theorem dX1_rollByte_20 : decode cX1_rollByte 20 = .ok (.invokevirtual 82, 3) := by decide +kernel
theorem dX1_rollByte_23 : decode cX1_rollByte 23 = .ok (.istore 4, 2) := by decide +kernel
theorem dX1_rollByte_25 : decode cX1_rollByte 25 = .ok (.iload_n 2, 1) := by decide +kernel
theorem dX1_rollByte_26 : decode cX1_rollByte 26 = .ok (.iload 4, 2) := by decide +kernel
theorem dX1_rollByte_28 : decode cX1_rollByte 28 = .ok (.if_icmp .ge 10, 3) := by decide +kernel
theorem dX1_rollByte_31 : decode cX1_rollByte 31 = .ok (.aload_n 0, 1) := by decide +kernel
theorem dX1_rollByte_32 : decode cX1_rollByte 32 = .ok (.iload_n 3, 1) := by decide +kernel
theorem dX1_rollByte_33 : decode cX1_rollByte 33 = .ok (.iload_n 2, 1) := by decide +kernel
theorem dX1_rollByte_34 : decode cX1_rollByte 34 = .ok (.invokevirtual 86, 3) := by decide +kernel
theorem dX1_rollByte_37 : decode cX1_rollByte 37 = .ok (.ireturn, 1) := by decide +kernel
theorem dX1_rollByte_38 : decode cX1_rollByte 38 = .ok (.iload_n 2, 1) := by decide +kernel
theorem dX1_rollByte_39 : decode cX1_rollByte 39 = .ok (.iload 4, 2) := by decide +kernel
theorem dX1_rollByte_41 : decode cX1_rollByte 41 = .ok (.isub, 1) := by decide +kernel
theorem dX1_rollByte_42 : decode cX1_rollByte 42 = .ok (.istore_n 2, 1) := by decide +kernel
theorem dX1_rollByte_43 : decode cX1_rollByte 43 = .ok (.iinc 3 1, 3) := by decide +kernel
theorem dX1_rollByte_46 : decode cX1_rollByte 46 = .ok (.goto (-36), 3) := by decide +kernel
theorem dX1_rollByte_49 : decode cX1_rollByte 49 = .ok (.iconst (-1), 1) := by decide +kernel
theorem dX1_rollByte_50 : decode cX1_rollByte 50 = .ok (.ireturn, 1) := by decide +kernel
set_option maxRecDepth 20000 in
theorem ggX1_lineLength_X1_fieldCount : GoodIn wsX1_lineLength wsX1_fieldCount := goodIn_r _ [5, 6, 7, 8, 4, 9, 10, 11, 12, 13, 14, 15, 31, 32, 33, 34, 35, 36, 37] (by decide +kernel) (by decide +kernel)
set_option maxRecDepth 20000 in
theorem gX1_lineLength_X1_fieldCount : GoodIn wsX1_lineLength (wsV RX1 90 RX1 yX1_fieldCount wsX1_fieldCount) := goodIn_app (goodIn_of _ (by decide +kernel)) ggX1_lineLength_X1_fieldCount
set_option maxRecDepth 20000 in
theorem ggX1_lineLength_X1_fieldOf : GoodIn wsX1_lineLength wsX1_fieldOf := goodIn_r _ [19, 20, 10, 21, 11, 12, 13, 4, 14, 15, 31, 32, 33, 34, 35, 36, 37] (by decide +kernel) (by decide +kernel)
set_option maxRecDepth 20000 in
theorem gX1_lineLength_X1_fieldOf : GoodIn wsX1_lineLength (wsV RX1 93 RX1 yX1_fieldOf wsX1_fieldOf) := goodIn_app (goodIn_of _ (by decide +kernel)) ggX1_lineLength_X1_fieldOf
set_option maxRecDepth 20000 in
theorem ggX1_lineLength_X3_textLength : GoodIn wsX1_lineLength wsX3_textLength := goodIn_r _ [24, 25] (by decide +kernel) (by decide +kernel)
set_option maxRecDepth 20000 in
theorem gX1_lineLength_X3_textLength_n97 : GoodIn wsX1_lineLength (wsX3_textLength) := ggX1_lineLength_X3_textLength
set_option maxRecDepth 20000 in
theorem ggX1_lineLength_X1_hasMark : GoodIn wsX1_lineLength wsX1_hasMark := goodIn_r _ [29, 30, 11, 12, 13, 4, 14, 15, 31, 32, 33, 34, 35, 36, 37] (by decide +kernel) (by decide +kernel)
set_option maxRecDepth 20000 in
theorem gX1_lineLength_X1_hasMark : GoodIn wsX1_lineLength (wsV RX1 100 RX1 yX1_hasMark wsX1_hasMark) := goodIn_app (goodIn_of _ (by decide +kernel)) ggX1_lineLength_X1_hasMark
theorem dX1_lineLength_0 : decode cX1_lineLength 0 = .ok (.iconst 1, 1) := by decide +kernel
theorem dX1_lineLength_1 : decode cX1_lineLength 1 = .ok (.istore_n 2, 1) := by decide +kernel
theorem dX1_lineLength_2 : decode cX1_lineLength 2 = .ok (.iconst 0, 1) := by decide +kernel
theorem dX1_lineLength_3 : decode cX1_lineLength 3 = .ok (.istore_n 3, 1) := by decide +kernel
theorem dX1_lineLength_4 : decode cX1_lineLength 4 = .ok (.iload_n 3, 1) := by decide +kernel
theorem dX1_lineLength_5 : decode cX1_lineLength 5 = .ok (.aload_n 0, 1) := by decide +kernel
theorem dX1_lineLength_6 : decode cX1_lineLength 6 = .ok (.iload_n 1, 1) := by decide +kernel
theorem dX1_lineLength_7 : decode cX1_lineLength 7 = .ok (.invokevirtual 90, 3) := by decide +kernel
theorem dX1_lineLength_10 : decode cX1_lineLength 10 = .ok (.if_icmp .ge 23, 3) := by decide +kernel
theorem dX1_lineLength_13 : decode cX1_lineLength 13 = .ok (.iload_n 2, 1) := by decide +kernel
theorem dX1_lineLength_14 : decode cX1_lineLength 14 = .ok (.iconst 1, 1) := by decide +kernel
theorem dX1_lineLength_15 : decode cX1_lineLength 15 = .ok (.aload_n 0, 1) := by decide +kernel
theorem dX1_lineLength_16 : decode cX1_lineLength 16 = .ok (.iload_n 1, 1) := by decide +kernel
theorem dX1_lineLength_17 : decode cX1_lineLength 17 = .ok (.iload_n 3, 1) := by decide +kernel
theorem dX1_lineLength_18 : decode cX1_lineLength 18 = .ok (.invokevirtual 93, 3) := by decide +kernel
theorem dX1_lineLength_21 : decode cX1_lineLength 21 = .ok (.invokestatic 97, 3) := by decide +kernel
theorem dX1_lineLength_24 : decode cX1_lineLength 24 = .ok (.iadd, 1) := by decide +kernel
theorem dX1_lineLength_25 : decode cX1_lineLength 25 = .ok (.iadd, 1) := by decide +kernel
theorem dX1_lineLength_26 : decode cX1_lineLength 26 = .ok (.istore_n 2, 1) := by decide +kernel
theorem dX1_lineLength_27 : decode cX1_lineLength 27 = .ok (.iinc 3 1, 3) := by decide +kernel
theorem dX1_lineLength_30 : decode cX1_lineLength 30 = .ok (.goto (-26), 3) := by decide +kernel
theorem dX1_lineLength_33 : decode cX1_lineLength 33 = .ok (.iload_n 2, 1) := by decide +kernel
theorem dX1_lineLength_34 : decode cX1_lineLength 34 = .ok (.aload_n 0, 1) := by decide +kernel
theorem dX1_lineLength_35 : decode cX1_lineLength 35 = .ok (.iload_n 1, 1) := by decide +kernel
theorem dX1_lineLength_36 : decode cX1_lineLength 36 = .ok (.invokevirtual 100, 3) := by decide +kernel
theorem dX1_lineLength_39 : decode cX1_lineLength 39 = .ok (.ifCond .eq 7, 3) := by decide +kernel
theorem dX1_lineLength_42 : decode cX1_lineLength 42 = .ok (.iconst 2, 1) := by decide +kernel
theorem dX1_lineLength_43 : decode cX1_lineLength 43 = .ok (.goto 4, 3) := by decide +kernel
theorem dX1_lineLength_46 : decode cX1_lineLength 46 = .ok (.iconst 0, 1) := by decide +kernel
theorem dX1_lineLength_47 : decode cX1_lineLength 47 = .ok (.iadd, 1) := by decide +kernel
theorem dX1_lineLength_48 : decode cX1_lineLength 48 = .ok (.iconst 1, 1) := by decide +kernel
theorem dX1_lineLength_49 : decode cX1_lineLength 49 = .ok (.iadd, 1) := by decide +kernel
theorem dX1_lineLength_50 : decode cX1_lineLength 50 = .ok (.ireturn, 1) := by decide +kernel
set_option maxRecDepth 20000 in
theorem ggX1_lineByte_X1_letterOf : GoodIn wsX1_lineByte wsX1_letterOf := goodIn_r _ [5, 6, 7, 8, 9, 10, 11, 4, 12, 13, 14, 15, 16, 17, 44, 45, 46, 47, 48, 49, 50] (by decide +kernel) (by decide +kernel)
set_option maxRecDepth 20000 in
theorem gX1_lineByte_X1_letterOf : GoodIn wsX1_lineByte (wsV RX1 103 RX1 yX1_letterOf wsX1_letterOf) := goodIn_app (goodIn_of _ (by decide +kernel)) ggX1_lineByte_X1_letterOf
set_option maxRecDepth 20000 in
theorem ggX1_lineByte_X1_fieldCount : GoodIn wsX1_lineByte wsX1_fieldCount := goodIn_r _ [21, 14, 15, 16, 4, 17, 6, 9, 10, 11, 12, 13, 44, 45, 46, 47, 48, 49, 50] (by decide +kernel) (by decide +kernel)
set_option maxRecDepth 20000 in
theorem gX1_lineByte_X1_fieldCount : GoodIn wsX1_lineByte (wsV RX1 90 RX1 yX1_fieldCount wsX1_fieldCount) := goodIn_app (goodIn_of _ (by decide +kernel)) ggX1_lineByte_X1_fieldCount
set_option maxRecDepth 20000 in
theorem ggX1_lineByte_X1_fieldOf : GoodIn wsX1_lineByte wsX1_fieldOf := goodIn_r _ [25, 26, 6, 27, 9, 10, 11, 4, 12, 13, 44, 45, 46, 47, 48, 49, 50] (by decide +kernel) (by decide +kernel)
set_option maxRecDepth 20000 in
theorem gX1_lineByte_X1_fieldOf : GoodIn wsX1_lineByte (wsV RX1 93 RX1 yX1_fieldOf wsX1_fieldOf) := goodIn_app (goodIn_of _ (by decide +kernel)) ggX1_lineByte_X1_fieldOf
set_option maxRecDepth 20000 in
theorem ggX1_lineByte_X3_textLength : GoodIn wsX1_lineByte wsX3_textLength := goodIn_r _ [30, 31] (by decide +kernel) (by decide +kernel)
set_option maxRecDepth 20000 in
theorem gX1_lineByte_X3_textLength_n97 : GoodIn wsX1_lineByte (wsX3_textLength) := ggX1_lineByte_X3_textLength
set_option maxRecDepth 20000 in
theorem ggX1_lineByte_X3_textByte : GoodIn wsX1_lineByte wsX3_textByte := goodIn_r _ [33, 31, 34, 35, 36, 37, 38, 28, 29, 30] (by decide +kernel) (by decide +kernel)
set_option maxRecDepth 20000 in
theorem gX1_lineByte_X3_textByte_n107 : GoodIn wsX1_lineByte (wsX3_textByte) := ggX1_lineByte_X3_textByte
set_option maxRecDepth 20000 in
theorem ggX1_lineByte_X1_hasMark : GoodIn wsX1_lineByte wsX1_hasMark := goodIn_r _ [42, 43, 9, 10, 11, 4, 12, 13, 44, 45, 46, 47, 48, 49, 50] (by decide +kernel) (by decide +kernel)
set_option maxRecDepth 20000 in
theorem gX1_lineByte_X1_hasMark : GoodIn wsX1_lineByte (wsV RX1 100 RX1 yX1_hasMark wsX1_hasMark) := goodIn_app (goodIn_of _ (by decide +kernel)) ggX1_lineByte_X1_hasMark
theorem dX1_lineByte_0 : decode cX1_lineByte 0 = .ok (.iload_n 2, 1) := by decide +kernel
theorem dX1_lineByte_1 : decode cX1_lineByte 1 = .ok (.ifCond .ne 9, 3) := by decide +kernel
theorem dX1_lineByte_4 : decode cX1_lineByte 4 = .ok (.aload_n 0, 1) := by decide +kernel
theorem dX1_lineByte_5 : decode cX1_lineByte 5 = .ok (.iload_n 1, 1) := by decide +kernel
theorem dX1_lineByte_6 : decode cX1_lineByte 6 = .ok (.invokevirtual 103, 3) := by decide +kernel
theorem dX1_lineByte_9 : decode cX1_lineByte 9 = .ok (.ireturn, 1) := by decide +kernel
theorem dX1_lineByte_10 : decode cX1_lineByte 10 = .ok (.iload_n 2, 1) := by decide +kernel
theorem dX1_lineByte_11 : decode cX1_lineByte 11 = .ok (.iconst 1, 1) := by decide +kernel
theorem dX1_lineByte_12 : decode cX1_lineByte 12 = .ok (.isub, 1) := by decide +kernel
theorem dX1_lineByte_13 : decode cX1_lineByte 13 = .ok (.istore_n 3, 1) := by decide +kernel
theorem dX1_lineByte_14 : decode cX1_lineByte 14 = .ok (.iconst 0, 1) := by decide +kernel
theorem dX1_lineByte_15 : decode cX1_lineByte 15 = .ok (.istore 4, 2) := by decide +kernel
theorem dX1_lineByte_17 : decode cX1_lineByte 17 = .ok (.iload 4, 2) := by decide +kernel
theorem dX1_lineByte_19 : decode cX1_lineByte 19 = .ok (.aload_n 0, 1) := by decide +kernel
theorem dX1_lineByte_20 : decode cX1_lineByte 20 = .ok (.iload_n 1, 1) := by decide +kernel
theorem dX1_lineByte_21 : decode cX1_lineByte 21 = .ok (.invokevirtual 90, 3) := by decide +kernel
theorem dX1_lineByte_24 : decode cX1_lineByte 24 = .ok (.if_icmp .ge 56, 3) := by decide +kernel
theorem dX1_lineByte_27 : decode cX1_lineByte 27 = .ok (.aload_n 0, 1) := by decide +kernel
theorem dX1_lineByte_28 : decode cX1_lineByte 28 = .ok (.iload_n 1, 1) := by decide +kernel
theorem dX1_lineByte_29 : decode cX1_lineByte 29 = .ok (.iload 4, 2) := by decide +kernel
theorem dX1_lineByte_31 : decode cX1_lineByte 31 = .ok (.invokevirtual 93, 3) := by decide +kernel
theorem dX1_lineByte_34 : decode cX1_lineByte 34 = .ok (.lstore 5, 2) := by decide +kernel
theorem dX1_lineByte_36 : decode cX1_lineByte 36 = .ok (.iconst 1, 1) := by decide +kernel
theorem dX1_lineByte_37 : decode cX1_lineByte 37 = .ok (.lload 5, 2) := by decide +kernel
theorem dX1_lineByte_39 : decode cX1_lineByte 39 = .ok (.invokestatic 97, 3) := by decide +kernel
theorem dX1_lineByte_42 : decode cX1_lineByte 42 = .ok (.iadd, 1) := by decide +kernel
theorem dX1_lineByte_43 : decode cX1_lineByte 43 = .ok (.istore 7, 2) := by decide +kernel
theorem dX1_lineByte_45 : decode cX1_lineByte 45 = .ok (.iload_n 3, 1) := by decide +kernel
theorem dX1_lineByte_46 : decode cX1_lineByte 46 = .ok (.iload 7, 2) := by decide +kernel
theorem dX1_lineByte_48 : decode cX1_lineByte 48 = .ok (.if_icmp .ge 21, 3) := by decide +kernel
theorem dX1_lineByte_51 : decode cX1_lineByte 51 = .ok (.iload_n 3, 1) := by decide +kernel
theorem dX1_lineByte_52 : decode cX1_lineByte 52 = .ok (.ifCond .ne 8, 3) := by decide +kernel
theorem dX1_lineByte_55 : decode cX1_lineByte 55 = .ok (.bipush 32, 2) := by decide +kernel
theorem dX1_lineByte_57 : decode cX1_lineByte 57 = .ok (.goto 11, 3) := by decide +kernel
theorem dX1_lineByte_60 : decode cX1_lineByte 60 = .ok (.lload 5, 2) := by decide +kernel
theorem dX1_lineByte_62 : decode cX1_lineByte 62 = .ok (.iload_n 3, 1) := by decide +kernel
theorem dX1_lineByte_63 : decode cX1_lineByte 63 = .ok (.iconst 1, 1) := by decide +kernel
theorem dX1_lineByte_64 : decode cX1_lineByte 64 = .ok (.isub, 1) := by decide +kernel
theorem dX1_lineByte_65 : decode cX1_lineByte 65 = .ok (.invokestatic 107, 3) := by decide +kernel
theorem dX1_lineByte_68 : decode cX1_lineByte 68 = .ok (.ireturn, 1) := by decide +kernel
theorem dX1_lineByte_69 : decode cX1_lineByte 69 = .ok (.iload_n 3, 1) := by decide +kernel
theorem dX1_lineByte_70 : decode cX1_lineByte 70 = .ok (.iload 7, 2) := by decide +kernel
theorem dX1_lineByte_72 : decode cX1_lineByte 72 = .ok (.isub, 1) := by decide +kernel
theorem dX1_lineByte_73 : decode cX1_lineByte 73 = .ok (.istore_n 3, 1) := by decide +kernel
theorem dX1_lineByte_74 : decode cX1_lineByte 74 = .ok (.iinc 4 1, 3) := by decide +kernel
theorem dX1_lineByte_77 : decode cX1_lineByte 77 = .ok (.goto (-60), 3) := by decide +kernel
theorem dX1_lineByte_80 : decode cX1_lineByte 80 = .ok (.aload_n 0, 1) := by decide +kernel
theorem dX1_lineByte_81 : decode cX1_lineByte 81 = .ok (.iload_n 1, 1) := by decide +kernel
theorem dX1_lineByte_82 : decode cX1_lineByte 82 = .ok (.invokevirtual 100, 3) := by decide +kernel
theorem dX1_lineByte_85 : decode cX1_lineByte 85 = .ok (.ifCond .eq 20, 3) := by decide +kernel
theorem dX1_lineByte_88 : decode cX1_lineByte 88 = .ok (.iload_n 3, 1) := by decide +kernel
theorem dX1_lineByte_89 : decode cX1_lineByte 89 = .ok (.iconst 2, 1) := by decide +kernel
theorem dX1_lineByte_90 : decode cX1_lineByte 90 = .ok (.if_icmp .ge 15, 3) := by decide +kernel
theorem dX1_lineByte_93 : decode cX1_lineByte 93 = .ok (.iload_n 3, 1) := by decide +kernel
theorem dX1_lineByte_94 : decode cX1_lineByte 94 = .ok (.ifCond .ne 8, 3) := by decide +kernel
theorem dX1_lineByte_97 : decode cX1_lineByte 97 = .ok (.bipush 32, 2) := by decide +kernel
theorem dX1_lineByte_99 : decode cX1_lineByte 99 = .ok (.goto 5, 3) := by decide +kernel
theorem dX1_lineByte_102 : decode cX1_lineByte 102 = .ok (.bipush 42, 2) := by decide +kernel
theorem dX1_lineByte_104 : decode cX1_lineByte 104 = .ok (.ireturn, 1) := by decide +kernel
theorem dX1_lineByte_105 : decode cX1_lineByte 105 = .ok (.bipush 10, 2) := by decide +kernel
theorem dX1_lineByte_107 : decode cX1_lineByte 107 = .ok (.ireturn, 1) := by decide +kernel
set_option maxRecDepth 20000 in
theorem ggX1_letterOf_X1_holds : GoodIn wsX1_letterOf wsX1_holds := goodIn_r _ [8, 9, 14, 15, 16, 17, 18, 19, 20] (by decide +kernel) (by decide +kernel)
set_option maxRecDepth 20000 in
theorem gX1_letterOf_X1_holds : GoodIn wsX1_letterOf (wsV RX1 41 RX1 yX1_holds wsX1_holds) := goodIn_app (goodIn_of _ (by decide +kernel)) ggX1_letterOf_X1_holds
set_option maxRecDepth 20000 in
theorem ggX1_letterOf_X1_isReading : GoodIn wsX1_letterOf wsX1_isReading := goodIn_r _ [13, 1, 4, 5, 6, 7, 8, 9, 14, 15, 16, 17, 18, 19, 20] (by decide +kernel) (by decide +kernel)
set_option maxRecDepth 20000 in
theorem gX1_letterOf_X1_isReading : GoodIn wsX1_letterOf (wsV RX1 45 RX1 yX1_isReading wsX1_isReading) := goodIn_app (goodIn_of _ (by decide +kernel)) ggX1_letterOf_X1_isReading
theorem dX1_letterOf_0 : decode cX1_letterOf 0 = .ok (.aload_n 0, 1) := by decide +kernel
theorem dX1_letterOf_1 : decode cX1_letterOf 1 = .ok (.iload_n 1, 1) := by decide +kernel
theorem dX1_letterOf_2 : decode cX1_letterOf 2 = .ok (.invokevirtual 41, 3) := by decide +kernel
theorem dX1_letterOf_5 : decode cX1_letterOf 5 = .ok (.ifCond .eq 11, 3) := by decide +kernel
theorem dX1_letterOf_8 : decode cX1_letterOf 8 = .ok (.aload_n 0, 1) := by decide +kernel
theorem dX1_letterOf_9 : decode cX1_letterOf 9 = .ok (.iload_n 1, 1) := by decide +kernel
theorem dX1_letterOf_10 : decode cX1_letterOf 10 = .ok (.invokevirtual 45, 3) := by decide +kernel
theorem dX1_letterOf_13 : decode cX1_letterOf 13 = .ok (.ifCond .eq 6, 3) := by decide +kernel
theorem dX1_letterOf_16 : decode cX1_letterOf 16 = .ok (.bipush 82, 2) := by decide +kernel
theorem dX1_letterOf_18 : decode cX1_letterOf 18 = .ok (.ireturn, 1) := by decide +kernel
theorem dX1_letterOf_19 : decode cX1_letterOf 19 = .ok (.aload_n 0, 1) := by decide +kernel
theorem dX1_letterOf_20 : decode cX1_letterOf 20 = .ok (.getfield 19, 3) := by decide +kernel
theorem dX1_letterOf_23 : decode cX1_letterOf 23 = .ok (.iload_n 1, 1) := by decide +kernel
theorem dX1_letterOf_24 : decode cX1_letterOf 24 = .ok (.laload, 1) := by decide +kernel
theorem dX1_letterOf_25 : decode cX1_letterOf 25 = .ok (.ldc2_w 65, 3) := by decide +kernel
theorem dX1_letterOf_28 : decode cX1_letterOf 28 = .ok (.lcmp, 1) := by decide +kernel
theorem dX1_letterOf_29 : decode cX1_letterOf 29 = .ok (.ifCond .ne 6, 3) := by decide +kernel
theorem dX1_letterOf_32 : decode cX1_letterOf 32 = .ok (.bipush 90, 2) := by decide +kernel
theorem dX1_letterOf_34 : decode cX1_letterOf 34 = .ok (.ireturn, 1) := by decide +kernel
theorem dX1_letterOf_35 : decode cX1_letterOf 35 = .ok (.aload_n 0, 1) := by decide +kernel
theorem dX1_letterOf_36 : decode cX1_letterOf 36 = .ok (.getfield 19, 3) := by decide +kernel
theorem dX1_letterOf_39 : decode cX1_letterOf 39 = .ok (.iload_n 1, 1) := by decide +kernel
theorem dX1_letterOf_40 : decode cX1_letterOf 40 = .ok (.laload, 1) := by decide +kernel
theorem dX1_letterOf_41 : decode cX1_letterOf 41 = .ok (.ldc2_w 111, 3) := by decide +kernel
theorem dX1_letterOf_44 : decode cX1_letterOf 44 = .ok (.lcmp, 1) := by decide +kernel
theorem dX1_letterOf_45 : decode cX1_letterOf 45 = .ok (.ifCond .ne 8, 3) := by decide +kernel
theorem dX1_letterOf_48 : decode cX1_letterOf 48 = .ok (.bipush 66, 2) := by decide +kernel
theorem dX1_letterOf_50 : decode cX1_letterOf 50 = .ok (.goto 5, 3) := by decide +kernel
theorem dX1_letterOf_53 : decode cX1_letterOf 53 = .ok (.bipush 83, 2) := by decide +kernel
theorem dX1_letterOf_55 : decode cX1_letterOf 55 = .ok (.ireturn, 1) := by decide +kernel
set_option maxRecDepth 20000 in
theorem ggX1_fieldCount_X1_isReading : GoodIn wsX1_fieldCount wsX1_isReading := goodIn_r _ [5, 6, 7, 8, 9, 4, 10, 11, 12, 13, 14, 15, 16, 17, 18] (by decide +kernel) (by decide +kernel)
set_option maxRecDepth 20000 in
theorem gX1_fieldCount_X1_isReading : GoodIn wsX1_fieldCount (wsV RX1 45 RX1 yX1_isReading wsX1_isReading) := goodIn_app (goodIn_of _ (by decide +kernel)) ggX1_fieldCount_X1_isReading
theorem dX1_fieldCount_0 : decode cX1_fieldCount 0 = .ok (.aload_n 0, 1) := by decide +kernel
theorem dX1_fieldCount_1 : decode cX1_fieldCount 1 = .ok (.iload_n 1, 1) := by decide +kernel
theorem dX1_fieldCount_2 : decode cX1_fieldCount 2 = .ok (.invokevirtual 45, 3) := by decide +kernel
theorem dX1_fieldCount_5 : decode cX1_fieldCount 5 = .ok (.ifCond .eq 7, 3) := by decide +kernel
theorem dX1_fieldCount_8 : decode cX1_fieldCount 8 = .ok (.iconst 3, 1) := by decide +kernel
theorem dX1_fieldCount_9 : decode cX1_fieldCount 9 = .ok (.goto 4, 3) := by decide +kernel
theorem dX1_fieldCount_12 : decode cX1_fieldCount 12 = .ok (.iconst 1, 1) := by decide +kernel
theorem dX1_fieldCount_13 : decode cX1_fieldCount 13 = .ok (.ireturn, 1) := by decide +kernel
set_option maxRecDepth 20000 in
theorem ggX1_fieldOf_X1_holds : GoodIn wsX1_fieldOf wsX1_holds := goodIn_r _ [8, 9, 10, 11, 12, 13, 14, 15, 16] (by decide +kernel) (by decide +kernel)
set_option maxRecDepth 20000 in
theorem gX1_fieldOf_X1_holds : GoodIn wsX1_fieldOf (wsV RX1 41 RX1 yX1_holds wsX1_holds) := goodIn_app (goodIn_of _ (by decide +kernel)) ggX1_fieldOf_X1_holds
theorem dX1_fieldOf_0 : decode cX1_fieldOf 0 = .ok (.aload_n 0, 1) := by decide +kernel
theorem dX1_fieldOf_1 : decode cX1_fieldOf 1 = .ok (.iload_n 1, 1) := by decide +kernel
theorem dX1_fieldOf_2 : decode cX1_fieldOf 2 = .ok (.invokevirtual 41, 3) := by decide +kernel
theorem dX1_fieldOf_5 : decode cX1_fieldOf 5 = .ok (.ifCond .ne 5, 3) := by decide +kernel
theorem dX1_fieldOf_8 : decode cX1_fieldOf 8 = .ok (.lconst 0, 1) := by decide +kernel
theorem dX1_fieldOf_9 : decode cX1_fieldOf 9 = .ok (.lreturn, 1) := by decide +kernel
theorem dX1_fieldOf_10 : decode cX1_fieldOf 10 = .ok (.iload_n 2, 1) := by decide +kernel
theorem dX1_fieldOf_11 : decode cX1_fieldOf 11 = .ok (.ifCond .ne 10, 3) := by decide +kernel
theorem dX1_fieldOf_14 : decode cX1_fieldOf 14 = .ok (.aload_n 0, 1) := by decide +kernel
theorem dX1_fieldOf_15 : decode cX1_fieldOf 15 = .ok (.getfield 15, 3) := by decide +kernel
theorem dX1_fieldOf_18 : decode cX1_fieldOf 18 = .ok (.iload_n 1, 1) := by decide +kernel
theorem dX1_fieldOf_19 : decode cX1_fieldOf 19 = .ok (.laload, 1) := by decide +kernel
theorem dX1_fieldOf_20 : decode cX1_fieldOf 20 = .ok (.lreturn, 1) := by decide +kernel
theorem dX1_fieldOf_21 : decode cX1_fieldOf 21 = .ok (.iload_n 2, 1) := by decide +kernel
theorem dX1_fieldOf_22 : decode cX1_fieldOf 22 = .ok (.iconst 1, 1) := by decide +kernel
theorem dX1_fieldOf_23 : decode cX1_fieldOf 23 = .ok (.if_icmp .ne 12, 3) := by decide +kernel
theorem dX1_fieldOf_26 : decode cX1_fieldOf 26 = .ok (.aload_n 0, 1) := by decide +kernel
theorem dX1_fieldOf_27 : decode cX1_fieldOf 27 = .ok (.getfield 19, 3) := by decide +kernel
theorem dX1_fieldOf_30 : decode cX1_fieldOf 30 = .ok (.iload_n 1, 1) := by decide +kernel
theorem dX1_fieldOf_31 : decode cX1_fieldOf 31 = .ok (.laload, 1) := by decide +kernel
theorem dX1_fieldOf_32 : decode cX1_fieldOf 32 = .ok (.goto 10, 3) := by decide +kernel
theorem dX1_fieldOf_35 : decode cX1_fieldOf 35 = .ok (.aload_n 0, 1) := by decide +kernel
theorem dX1_fieldOf_36 : decode cX1_fieldOf 36 = .ok (.getfield 22, 3) := by decide +kernel
theorem dX1_fieldOf_39 : decode cX1_fieldOf 39 = .ok (.iload_n 1, 1) := by decide +kernel
theorem dX1_fieldOf_40 : decode cX1_fieldOf 40 = .ok (.iaload, 1) := by decide +kernel
theorem dX1_fieldOf_41 : decode cX1_fieldOf 41 = .ok (.i2l, 1) := by decide +kernel
theorem dX1_fieldOf_42 : decode cX1_fieldOf 42 = .ok (.lreturn, 1) := by decide +kernel
theorem dX2_init_0 : decode cX2_init 0 = .ok (.aload_n 0, 1) := by decide +kernel
theorem dX2_init_1 : decode cX2_init 1 = .ok (.invokespecial 3, 3) := by decide +kernel
theorem dX2_init_4 : decode cX2_init 4 = .ok (.aload_n 0, 1) := by decide +kernel
end
section
theorem dX2_init_5 : decode cX2_init 5 = .ok (.bipush 16, 2) := by decide +kernel
theorem dX2_init_7 : decode cX2_init 7 = .ok (.newarray .int, 2) := by decide +kernel
theorem dX2_init_9 : decode cX2_init 9 = .ok (.putfield 9, 3) := by decide +kernel
theorem dX2_init_12 : decode cX2_init 12 = .ok (.aload_n 0, 1) := by decide +kernel
theorem dX2_init_13 : decode cX2_init 13 = .ok (.bipush 16, 2) := by decide +kernel
theorem dX2_init_15 : decode cX2_init 15 = .ok (.newarray .long, 2) := by decide +kernel
theorem dX2_init_17 : decode cX2_init 17 = .ok (.putfield 15, 3) := by decide +kernel
theorem dX2_init_20 : decode cX2_init 20 = .ok (.aload_n 0, 1) := by decide +kernel
theorem dX2_init_21 : decode cX2_init 21 = .ok (.bipush 16, 2) := by decide +kernel
theorem dX2_init_23 : decode cX2_init 23 = .ok (.newarray .long, 2) := by decide +kernel
theorem dX2_init_25 : decode cX2_init 25 = .ok (.putfield 19, 3) := by decide +kernel
theorem dX2_init_28 : decode cX2_init 28 = .ok (.aload_n 0, 1) := by decide +kernel
theorem dX2_init_29 : decode cX2_init 29 = .ok (.iconst 0, 1) := by decide +kernel
theorem dX2_init_30 : decode cX2_init 30 = .ok (.putfield 22, 3) := by decide +kernel
theorem dX2_init_33 : decode cX2_init 33 = .ok (.return_, 1) := by decide +kernel
set_option maxRecDepth 20000 in
theorem ggX2_put_X3_within : GoodIn wsX2_put wsX3_within := goodIn_r _ [14] (by decide +kernel) (by decide +kernel)
set_option maxRecDepth 20000 in
theorem gX2_put_X3_within_n30 : GoodIn wsX2_put (wsX3_within) := ggX2_put_X3_within
set_option maxRecDepth 20000 in
theorem ggX2_put_X2_placeFor : GoodIn wsX2_put wsX2_placeFor := goodIn_r _ [19, 7, 4, 20, 21, 22, 23] (by decide +kernel) (by decide +kernel)
set_option maxRecDepth 20000 in
theorem gX2_put_X2_placeFor : GoodIn wsX2_put (wsV RX2 36 RX2 yX2_placeFor wsX2_placeFor) := goodIn_app (goodIn_of _ (by decide +kernel)) ggX2_put_X2_placeFor
theorem dX2_put_0 : decode cX2_put 0 = .ok (.iload_n 1, 1) := by decide +kernel
theorem dX2_put_1 : decode cX2_put 1 = .ok (.i2l, 1) := by decide +kernel
theorem dX2_put_2 : decode cX2_put 2 = .ok (.ldc2_w 26, 3) := by decide +kernel
theorem dX2_put_5 : decode cX2_put 5 = .ok (.ldc2_w 28, 3) := by decide +kernel
theorem dX2_put_8 : decode cX2_put 8 = .ok (.invokestatic 30, 3) := by decide +kernel
theorem dX2_put_11 : decode cX2_put 11 = .ok (.ifCond .eq 30, 3) := by decide +kernel
theorem dX2_put_14 : decode cX2_put 14 = .ok (.lload_n 2, 1) := by decide +kernel
theorem dX2_put_15 : decode cX2_put 15 = .ok (.lconst 1, 1) := by decide +kernel
theorem dX2_put_16 : decode cX2_put 16 = .ok (.ldc2_w 34, 3) := by decide +kernel
theorem dX2_put_19 : decode cX2_put 19 = .ok (.invokestatic 30, 3) := by decide +kernel
theorem dX2_put_22 : decode cX2_put 22 = .ok (.ifCond .eq 19, 3) := by decide +kernel
theorem dX2_put_25 : decode cX2_put 25 = .ok (.lload 4, 2) := by decide +kernel
theorem dX2_put_27 : decode cX2_put 27 = .ok (.lconst 1, 1) := by decide +kernel
theorem dX2_put_28 : decode cX2_put 28 = .ok (.ldc2_w 34, 3) := by decide +kernel
theorem dX2_put_31 : decode cX2_put 31 = .ok (.invokestatic 30, 3) := by decide +kernel
theorem dX2_put_34 : decode cX2_put 34 = .ok (.ifCond .eq 7, 3) := by decide +kernel
theorem dX2_put_37 : decode cX2_put 37 = .ok (.iconst 1, 1) := by decide +kernel
theorem dX2_put_38 : decode cX2_put 38 = .ok (.goto 4, 3) := by decide +kernel
theorem dX2_put_41 : decode cX2_put 41 = .ok (.iconst 0, 1) := by decide +kernel
theorem dX2_put_42 : decode cX2_put 42 = .ok (.istore 6, 2) := by decide +kernel
theorem dX2_put_44 : decode cX2_put 44 = .ok (.aload_n 0, 1) := by decide +kernel
theorem dX2_put_45 : decode cX2_put 45 = .ok (.iload_n 1, 1) := by decide +kernel
theorem dX2_put_46 : decode cX2_put 46 = .ok (.invokevirtual 36, 3) := by decide +kernel
theorem dX2_put_49 : decode cX2_put 49 = .ok (.istore 7, 2) := by decide +kernel
theorem dX2_put_51 : decode cX2_put 51 = .ok (.iload 6, 2) := by decide +kernel
theorem dX2_put_53 : decode cX2_put 53 = .ok (.ifCond .eq 10, 3) := by decide +kernel
theorem dX2_put_56 : decode cX2_put 56 = .ok (.iload 7, 2) := by decide +kernel
theorem dX2_put_58 : decode cX2_put 58 = .ok (.bipush 16, 2) := by decide +kernel
theorem dX2_put_60 : decode cX2_put 60 = .ok (.if_icmp .lt 5, 3) := by decide +kernel
theorem dX2_put_63 : decode cX2_put 63 = .ok (.iconst 0, 1) := by decide +kernel
theorem dX2_put_64 : decode cX2_put 64 = .ok (.ireturn, 1) := by decide +kernel
theorem dX2_put_65 : decode cX2_put 65 = .ok (.aload_n 0, 1) := by decide +kernel
theorem dX2_put_66 : decode cX2_put 66 = .ok (.getfield 9, 3) := by decide +kernel
theorem dX2_put_69 : decode cX2_put 69 = .ok (.iload 7, 2) := by decide +kernel
theorem dX2_put_71 : decode cX2_put 71 = .ok (.iload_n 1, 1) := by decide +kernel
theorem dX2_put_72 : decode cX2_put 72 = .ok (.iastore, 1) := by decide +kernel
theorem dX2_put_73 : decode cX2_put 73 = .ok (.aload_n 0, 1) := by decide +kernel
theorem dX2_put_74 : decode cX2_put 74 = .ok (.getfield 15, 3) := by decide +kernel
theorem dX2_put_77 : decode cX2_put 77 = .ok (.iload 7, 2) := by decide +kernel
theorem dX2_put_79 : decode cX2_put 79 = .ok (.lload_n 2, 1) := by decide +kernel
theorem dX2_put_80 : decode cX2_put 80 = .ok (.lastore, 1) := by decide +kernel
theorem dX2_put_81 : decode cX2_put 81 = .ok (.aload_n 0, 1) := by decide +kernel
theorem dX2_put_82 : decode cX2_put 82 = .ok (.getfield 19, 3) := by decide +kernel
theorem dX2_put_85 : decode cX2_put 85 = .ok (.iload 7, 2) := by decide +kernel
theorem dX2_put_87 : decode cX2_put 87 = .ok (.lload 4, 2) := by decide +kernel
theorem dX2_put_89 : decode cX2_put 89 = .ok (.lastore, 1) := by decide +kernel
theorem dX2_put_90 : decode cX2_put 90 = .ok (.aload_n 0, 1) := by decide +kernel
theorem dX2_put_91 : decode cX2_put 91 = .ok (.aload_n 0, 1) := by decide +kernel
theorem dX2_put_92 : decode cX2_put 92 = .ok (.getfield 22, 3) := by decide +kernel
theorem dX2_put_95 : decode cX2_put 95 = .ok (.iload 7, 2) := by decide +kernel
theorem dX2_put_97 : decode cX2_put 97 = .ok (.iconst 1, 1) := by decide +kernel
theorem dX2_put_98 : decode cX2_put 98 = .ok (.iadd, 1) := by decide +kernel
theorem dX2_put_99 : decode cX2_put 99 = .ok (.invokestatic 40, 3) := by decide +kernel
theorem dX2_put_102 : decode cX2_put 102 = .ok (.putfield 22, 3) := by decide +kernel
theorem dX2_put_105 : decode cX2_put 105 = .ok (.iconst 1, 1) := by decide +kernel
theorem dX2_put_106 : decode cX2_put 106 = .ok (.ireturn, 1) := by decide +kernel
set_option maxRecDepth 20000 in
theorem ggX2_aboveAt_X2_lineAt : GoodIn wsX2_aboveAt wsX2_lineAt := goodIn_r _ [6, 7, 8, 9, 10, 5, 11, 12, 13, 14, 15] (by decide +kernel) (by decide +kernel)
set_option maxRecDepth 20000 in
theorem gX2_aboveAt_X2_lineAt : GoodIn wsX2_aboveAt (wsV RX2 46 RX2 yX2_lineAt wsX2_lineAt) := goodIn_app (goodIn_of _ (by decide +kernel)) ggX2_aboveAt_X2_lineAt
theorem dX2_aboveAt_0 : decode cX2_aboveAt 0 = .ok (.aload_n 0, 1) := by decide +kernel
theorem dX2_aboveAt_1 : decode cX2_aboveAt 1 = .ok (.iload_n 1, 1) := by decide +kernel
theorem dX2_aboveAt_2 : decode cX2_aboveAt 2 = .ok (.invokevirtual 46, 3) := by decide +kernel
theorem dX2_aboveAt_5 : decode cX2_aboveAt 5 = .ok (.istore_n 2, 1) := by decide +kernel
theorem dX2_aboveAt_6 : decode cX2_aboveAt 6 = .ok (.iload_n 2, 1) := by decide +kernel
theorem dX2_aboveAt_7 : decode cX2_aboveAt 7 = .ok (.ifCond .ge 7, 3) := by decide +kernel
theorem dX2_aboveAt_10 : decode cX2_aboveAt 10 = .ok (.lconst 0, 1) := by decide +kernel
theorem dX2_aboveAt_11 : decode cX2_aboveAt 11 = .ok (.goto 9, 3) := by decide +kernel
theorem dX2_aboveAt_14 : decode cX2_aboveAt 14 = .ok (.aload_n 0, 1) := by decide +kernel
theorem dX2_aboveAt_15 : decode cX2_aboveAt 15 = .ok (.getfield 15, 3) := by decide +kernel
theorem dX2_aboveAt_18 : decode cX2_aboveAt 18 = .ok (.iload_n 2, 1) := by decide +kernel
theorem dX2_aboveAt_19 : decode cX2_aboveAt 19 = .ok (.laload, 1) := by decide +kernel
theorem dX2_aboveAt_20 : decode cX2_aboveAt 20 = .ok (.lreturn, 1) := by decide +kernel
set_option maxRecDepth 20000 in
theorem ggX2_belowAt_X2_lineAt : GoodIn wsX2_belowAt wsX2_lineAt := goodIn_r _ [6, 7, 8, 9, 10, 5, 11, 12, 13, 14, 15] (by decide +kernel) (by decide +kernel)
set_option maxRecDepth 20000 in
theorem gX2_belowAt_X2_lineAt : GoodIn wsX2_belowAt (wsV RX2 46 RX2 yX2_lineAt wsX2_lineAt) := goodIn_app (goodIn_of _ (by decide +kernel)) ggX2_belowAt_X2_lineAt
theorem dX2_belowAt_0 : decode cX2_belowAt 0 = .ok (.aload_n 0, 1) := by decide +kernel
theorem dX2_belowAt_1 : decode cX2_belowAt 1 = .ok (.iload_n 1, 1) := by decide +kernel
theorem dX2_belowAt_2 : decode cX2_belowAt 2 = .ok (.invokevirtual 46, 3) := by decide +kernel
theorem dX2_belowAt_5 : decode cX2_belowAt 5 = .ok (.istore_n 2, 1) := by decide +kernel
theorem dX2_belowAt_6 : decode cX2_belowAt 6 = .ok (.iload_n 2, 1) := by decide +kernel
theorem dX2_belowAt_7 : decode cX2_belowAt 7 = .ok (.ifCond .ge 7, 3) := by decide +kernel
theorem dX2_belowAt_10 : decode cX2_belowAt 10 = .ok (.lconst 1, 1) := by decide +kernel
theorem dX2_belowAt_11 : decode cX2_belowAt 11 = .ok (.goto 9, 3) := by decide +kernel
theorem dX2_belowAt_14 : decode cX2_belowAt 14 = .ok (.aload_n 0, 1) := by decide +kernel
theorem dX2_belowAt_15 : decode cX2_belowAt 15 = .ok (.getfield 19, 3) := by decide +kernel
theorem dX2_belowAt_18 : decode cX2_belowAt 18 = .ok (.iload_n 2, 1) := by decide +kernel
theorem dX2_belowAt_19 : decode cX2_belowAt 19 = .ok (.laload, 1) := by decide +kernel
theorem dX2_belowAt_20 : decode cX2_belowAt 20 = .ok (.lreturn, 1) := by decide +kernel
theorem dX2_placeFor_0 : decode cX2_placeFor 0 = .ok (.iconst 0, 1) := by decide +kernel
theorem dX2_placeFor_1 : decode cX2_placeFor 1 = .ok (.istore_n 2, 1) := by decide +kernel
theorem dX2_placeFor_2 : decode cX2_placeFor 2 = .ok (.iload_n 2, 1) := by decide +kernel
theorem dX2_placeFor_3 : decode cX2_placeFor 3 = .ok (.aload_n 0, 1) := by decide +kernel
theorem dX2_placeFor_4 : decode cX2_placeFor 4 = .ok (.getfield 22, 3) := by decide +kernel
theorem dX2_placeFor_7 : decode cX2_placeFor 7 = .ok (.if_icmp .ge 21, 3) := by decide +kernel
theorem dX2_placeFor_10 : decode cX2_placeFor 10 = .ok (.aload_n 0, 1) := by decide +kernel
theorem dX2_placeFor_11 : decode cX2_placeFor 11 = .ok (.getfield 9, 3) := by decide +kernel
theorem dX2_placeFor_14 : decode cX2_placeFor 14 = .ok (.iload_n 2, 1) := by decide +kernel
theorem dX2_placeFor_15 : decode cX2_placeFor 15 = .ok (.iaload, 1) := by decide +kernel
theorem dX2_placeFor_16 : decode cX2_placeFor 16 = .ok (.iload_n 1, 1) := by decide +kernel
theorem dX2_placeFor_17 : decode cX2_placeFor 17 = .ok (.if_icmp .ne 5, 3) := by decide +kernel
theorem dX2_placeFor_20 : decode cX2_placeFor 20 = .ok (.iload_n 2, 1) := by decide +kernel
theorem dX2_placeFor_21 : decode cX2_placeFor 21 = .ok (.ireturn, 1) := by decide +kernel
theorem dX2_placeFor_22 : decode cX2_placeFor 22 = .ok (.iinc 2 1, 3) := by decide +kernel
theorem dX2_placeFor_25 : decode cX2_placeFor 25 = .ok (.goto (-23), 3) := by decide +kernel
theorem dX2_placeFor_28 : decode cX2_placeFor 28 = .ok (.aload_n 0, 1) := by decide +kernel
theorem dX2_placeFor_29 : decode cX2_placeFor 29 = .ok (.getfield 22, 3) := by decide +kernel
theorem dX2_placeFor_32 : decode cX2_placeFor 32 = .ok (.ireturn, 1) := by decide +kernel
set_option maxRecDepth 20000 in
theorem ggX2_lineAt_X2_goesBefore : GoodIn wsX2_lineAt wsX2_goesBefore := goodIn_r _ [6] (by decide +kernel) (by decide +kernel)
set_option maxRecDepth 20000 in
theorem gX2_lineAt_X2_goesBefore : GoodIn wsX2_lineAt (va_wsS RX2 49 yX2_goesBefore wsX2_goesBefore) := goodIn_app (goodIn_of _ (by decide +kernel)) ggX2_lineAt_X2_goesBefore
theorem dX2_lineAt_0 : decode cX2_lineAt 0 = .ok (.iconst (-1), 1) := by decide +kernel
theorem dX2_lineAt_1 : decode cX2_lineAt 1 = .ok (.istore_n 2, 1) := by decide +kernel
theorem dX2_lineAt_2 : decode cX2_lineAt 2 = .ok (.iconst 0, 1) := by decide +kernel
theorem dX2_lineAt_3 : decode cX2_lineAt 3 = .ok (.istore_n 3, 1) := by decide +kernel
theorem dX2_lineAt_4 : decode cX2_lineAt 4 = .ok (.iload_n 3, 1) := by decide +kernel
theorem dX2_lineAt_5 : decode cX2_lineAt 5 = .ok (.aload_n 0, 1) := by decide +kernel
theorem dX2_lineAt_6 : decode cX2_lineAt 6 = .ok (.getfield 22, 3) := by decide +kernel
theorem dX2_lineAt_9 : decode cX2_lineAt 9 = .ok (.if_icmp .ge 35, 3) := by decide +kernel
theorem dX2_lineAt_12 : decode cX2_lineAt 12 = .ok (.iload_n 2, 1) := by decide +kernel
theorem dX2_lineAt_13 : decode cX2_lineAt 13 = .ok (.iconst (-1), 1) := by decide +kernel
theorem dX2_lineAt_14 : decode cX2_lineAt 14 = .ok (.if_icmp .eq 22, 3) := by decide +kernel
theorem dX2_lineAt_17 : decode cX2_lineAt 17 = .ok (.aload_n 0, 1) := by decide +kernel
theorem dX2_lineAt_18 : decode cX2_lineAt 18 = .ok (.getfield 9, 3) := by decide +kernel
theorem dX2_lineAt_21 : decode cX2_lineAt 21 = .ok (.iload_n 3, 1) := by decide +kernel
theorem dX2_lineAt_22 : decode cX2_lineAt 22 = .ok (.iaload, 1) := by decide +kernel
theorem dX2_lineAt_23 : decode cX2_lineAt 23 = .ok (.aload_n 0, 1) := by decide +kernel
theorem dX2_lineAt_24 : decode cX2_lineAt 24 = .ok (.getfield 9, 3) := by decide +kernel
theorem dX2_lineAt_27 : decode cX2_lineAt 27 = .ok (.iload_n 2, 1) := by decide +kernel
theorem dX2_lineAt_28 : decode cX2_lineAt 28 = .ok (.iaload, 1) := by decide +kernel
theorem dX2_lineAt_29 : decode cX2_lineAt 29 = .ok (.iload_n 1, 1) := by decide +kernel
theorem dX2_lineAt_30 : decode cX2_lineAt 30 = .ok (.invokestatic 49, 3) := by decide +kernel
theorem dX2_lineAt_33 : decode cX2_lineAt 33 = .ok (.ifCond .eq 5, 3) := by decide +kernel
theorem dX2_lineAt_36 : decode cX2_lineAt 36 = .ok (.iload_n 3, 1) := by decide +kernel
theorem dX2_lineAt_37 : decode cX2_lineAt 37 = .ok (.istore_n 2, 1) := by decide +kernel
theorem dX2_lineAt_38 : decode cX2_lineAt 38 = .ok (.iinc 3 1, 3) := by decide +kernel
theorem dX2_lineAt_41 : decode cX2_lineAt 41 = .ok (.goto (-37), 3) := by decide +kernel
theorem dX2_lineAt_44 : decode cX2_lineAt 44 = .ok (.iload_n 2, 1) := by decide +kernel
theorem dX2_lineAt_45 : decode cX2_lineAt 45 = .ok (.ireturn, 1) := by decide +kernel
theorem dX2_goesBefore_0 : decode cX2_goesBefore 0 = .ok (.iload_n 0, 1) := by decide +kernel
theorem dX2_goesBefore_1 : decode cX2_goesBefore 1 = .ok (.iload_n 2, 1) := by decide +kernel
theorem dX2_goesBefore_2 : decode cX2_goesBefore 2 = .ok (.if_icmp .gt 19, 3) := by decide +kernel
theorem dX2_goesBefore_5 : decode cX2_goesBefore 5 = .ok (.iload_n 1, 1) := by decide +kernel
theorem dX2_goesBefore_6 : decode cX2_goesBefore 6 = .ok (.iload_n 2, 1) := by decide +kernel
theorem dX2_goesBefore_7 : decode cX2_goesBefore 7 = .ok (.if_icmp .gt 8, 3) := by decide +kernel
theorem dX2_goesBefore_10 : decode cX2_goesBefore 10 = .ok (.iload_n 0, 1) := by decide +kernel
theorem dX2_goesBefore_11 : decode cX2_goesBefore 11 = .ok (.iload_n 1, 1) := by decide +kernel
theorem dX2_goesBefore_12 : decode cX2_goesBefore 12 = .ok (.if_icmp .le 7, 3) := by decide +kernel
theorem dX2_goesBefore_15 : decode cX2_goesBefore 15 = .ok (.iconst 1, 1) := by decide +kernel
theorem dX2_goesBefore_16 : decode cX2_goesBefore 16 = .ok (.goto 4, 3) := by decide +kernel
theorem dX2_goesBefore_19 : decode cX2_goesBefore 19 = .ok (.iconst 0, 1) := by decide +kernel
theorem dX2_goesBefore_20 : decode cX2_goesBefore 20 = .ok (.ireturn, 1) := by decide +kernel
theorem dX2_goesBefore_21 : decode cX2_goesBefore 21 = .ok (.iload_n 1, 1) := by decide +kernel
theorem dX2_goesBefore_22 : decode cX2_goesBefore 22 = .ok (.iload_n 2, 1) := by decide +kernel
theorem dX2_goesBefore_23 : decode cX2_goesBefore 23 = .ok (.if_icmp .le 12, 3) := by decide +kernel
theorem dX2_goesBefore_26 : decode cX2_goesBefore 26 = .ok (.iload_n 0, 1) := by decide +kernel
theorem dX2_goesBefore_27 : decode cX2_goesBefore 27 = .ok (.iload_n 1, 1) := by decide +kernel
theorem dX2_goesBefore_28 : decode cX2_goesBefore 28 = .ok (.if_icmp .ge 7, 3) := by decide +kernel
theorem dX2_goesBefore_31 : decode cX2_goesBefore 31 = .ok (.iconst 1, 1) := by decide +kernel
theorem dX2_goesBefore_32 : decode cX2_goesBefore 32 = .ok (.goto 4, 3) := by decide +kernel
theorem dX2_goesBefore_35 : decode cX2_goesBefore 35 = .ok (.iconst 0, 1) := by decide +kernel
theorem dX2_goesBefore_36 : decode cX2_goesBefore 36 = .ok (.ireturn, 1) := by decide +kernel
theorem dX3_init_0 : decode cX3_init 0 = .ok (.aload_n 0, 1) := by decide +kernel
theorem dX3_init_1 : decode cX3_init 1 = .ok (.invokespecial 1, 3) := by decide +kernel
theorem dX3_init_4 : decode cX3_init 4 = .ok (.aload_n 0, 1) := by decide +kernel
theorem dX3_init_5 : decode cX3_init 5 = .ok (.bipush 8, 2) := by decide +kernel
theorem dX3_init_7 : decode cX3_init 7 = .ok (.anewarray 9, 3) := by decide +kernel
theorem dX3_init_10 : decode cX3_init 10 = .ok (.putfield 11, 3) := by decide +kernel
theorem dX3_init_13 : decode cX3_init 13 = .ok (.aload_n 0, 1) := by decide +kernel
theorem dX3_init_14 : decode cX3_init 14 = .ok (.iconst 0, 1) := by decide +kernel
theorem dX3_init_15 : decode cX3_init 15 = .ok (.putfield 15, 3) := by decide +kernel
theorem dX3_init_18 : decode cX3_init 18 = .ok (.return_, 1) := by decide +kernel
set_option maxRecDepth 20000 in
theorem ggX3_meter_X0_init : GoodIn wsX3_meter wsX0_init := goodIn_r _ [8, 9, 10, 11, 12, 13, 14, 15, 16, 17, 18, 19, 20, 21, 22, 23, 24, 25, 26, 27, 28, 29, 30, 31, 32, 33, 34, 35, 36, 37, 38, 39, 40, 41, 42, 43, 50, 51, 52, 53, 46, 47, 48, 49, 54, 55, 56, 57, 58, 59, 60] (by decide +kernel) (by decide +kernel)
set_option maxRecDepth 20000 in
theorem gX3_meter_X0_init : GoodIn wsX3_meter (wsX0_init) := ggX3_meter_X0_init
theorem dX3_meter_0 : decode cX3_meter 0 = .ok (.aload_n 0, 1) := by decide +kernel
theorem dX3_meter_1 : decode cX3_meter 1 = .ok (.getfield 15, 3) := by decide +kernel
theorem dX3_meter_4 : decode cX3_meter 4 = .ok (.bipush 8, 2) := by decide +kernel
theorem dX3_meter_6 : decode cX3_meter 6 = .ok (.if_icmp .lt 6, 3) := by decide +kernel
theorem dX3_meter_9 : decode cX3_meter 9 = .ok (.bipush (-2), 2) := by decide +kernel
theorem dX3_meter_11 : decode cX3_meter 11 = .ok (.ireturn, 1) := by decide +kernel
theorem dX3_meter_12 : decode cX3_meter 12 = .ok (.aload_n 0, 1) := by decide +kernel
theorem dX3_meter_13 : decode cX3_meter 13 = .ok (.getfield 15, 3) := by decide +kernel
theorem dX3_meter_16 : decode cX3_meter 16 = .ok (.istore_n 3, 1) := by decide +kernel
theorem dX3_meter_17 : decode cX3_meter 17 = .ok (.aload_n 0, 1) := by decide +kernel
theorem dX3_meter_18 : decode cX3_meter 18 = .ok (.getfield 11, 3) := by decide +kernel
theorem dX3_meter_21 : decode cX3_meter 21 = .ok (.iload_n 3, 1) := by decide +kernel
theorem dX3_meter_22 : decode cX3_meter 22 = .ok (.new 9, 3) := by decide +kernel
theorem dX3_meter_25 : decode cX3_meter 25 = .ok (.dup, 1) := by decide +kernel
theorem dX3_meter_26 : decode cX3_meter 26 = .ok (.lload_n 1, 1) := by decide +kernel
theorem dX3_meter_27 : decode cX3_meter 27 = .ok (.invokespecial 19, 3) := by decide +kernel
theorem dX3_meter_30 : decode cX3_meter 30 = .ok (.aastore, 1) := by decide +kernel
theorem dX3_meter_31 : decode cX3_meter 31 = .ok (.aload_n 0, 1) := by decide +kernel
theorem dX3_meter_32 : decode cX3_meter 32 = .ok (.dup, 1) := by decide +kernel
theorem dX3_meter_33 : decode cX3_meter 33 = .ok (.getfield 15, 3) := by decide +kernel
theorem dX3_meter_36 : decode cX3_meter 36 = .ok (.iconst 1, 1) := by decide +kernel
theorem dX3_meter_37 : decode cX3_meter 37 = .ok (.iadd, 1) := by decide +kernel
theorem dX3_meter_38 : decode cX3_meter 38 = .ok (.putfield 15, 3) := by decide +kernel
theorem dX3_meter_41 : decode cX3_meter 41 = .ok (.iload_n 3, 1) := by decide +kernel
theorem dX3_meter_42 : decode cX3_meter 42 = .ok (.ireturn, 1) := by decide +kernel
set_option maxRecDepth 20000 in
theorem ggX3_pulses_X3_find : GoodIn wsX3_pulses wsX3_find := goodIn_r _ [5, 6, 7, 48, 49] (by decide +kernel) (by decide +kernel)
set_option maxRecDepth 20000 in
theorem gX3_pulses_X3_find : GoodIn wsX3_pulses (wsV RX3 22 RX3 yX3_find wsX3_find) := goodIn_app (goodIn_of _ (by decide +kernel)) ggX3_pulses_X3_find
set_option maxRecDepth 20000 in
theorem ggX3_pulses_X0_addReading : GoodIn wsX3_pulses wsX0_addReading := goodIn_r _ [12, 13, 14, 15, 16, 17, 18, 19, 20, 21, 4, 22, 23, 24, 25, 26, 27, 28, 29, 30, 31, 32, 33, 34, 35, 36, 37, 38, 39, 40, 41, 42, 43, 44, 45, 46, 47, 50, 51, 52, 53, 54, 55, 56, 57, 58, 59, 60, 61, 62, 63, 64] (by decide +kernel) (by decide +kernel)
set_option maxRecDepth 20000 in
theorem gX3_pulses_X0_addReading : GoodIn wsX3_pulses (wsV RX3 26 RX0 yX0_addReading wsX0_addReading) := goodIn_app (goodIn_of _ (by decide +kernel)) ggX3_pulses_X0_addReading
theorem dX3_pulses_0 : decode cX3_pulses 0 = .ok (.aload_n 0, 1) := by decide +kernel
theorem dX3_pulses_1 : decode cX3_pulses 1 = .ok (.iload_n 1, 1) := by decide +kernel
theorem dX3_pulses_2 : decode cX3_pulses 2 = .ok (.invokevirtual 22, 3) := by decide +kernel
theorem dX3_pulses_5 : decode cX3_pulses 5 = .ok (.astore 7, 2) := by decide +kernel
theorem dX3_pulses_7 : decode cX3_pulses 7 = .ok (.aload 7, 2) := by decide +kernel
theorem dX3_pulses_9 : decode cX3_pulses 9 = .ok (.ifnull 20, 3) := by decide +kernel
theorem dX3_pulses_12 : decode cX3_pulses 12 = .ok (.aload 7, 2) := by decide +kernel
theorem dX3_pulses_14 : decode cX3_pulses 14 = .ok (.lload_n 2, 1) := by decide +kernel
theorem dX3_pulses_15 : decode cX3_pulses 15 = .ok (.lload 4, 2) := by decide +kernel
theorem dX3_pulses_17 : decode cX3_pulses 17 = .ok (.iload 6, 2) := by decide +kernel
theorem dX3_pulses_19 : decode cX3_pulses 19 = .ok (.invokevirtual 26, 3) := by decide +kernel
theorem dX3_pulses_22 : decode cX3_pulses 22 = .ok (.ifCond .eq 7, 3) := by decide +kernel
theorem dX3_pulses_25 : decode cX3_pulses 25 = .ok (.iconst 1, 1) := by decide +kernel
theorem dX3_pulses_26 : decode cX3_pulses 26 = .ok (.goto 4, 3) := by decide +kernel
theorem dX3_pulses_29 : decode cX3_pulses 29 = .ok (.iconst 0, 1) := by decide +kernel
theorem dX3_pulses_30 : decode cX3_pulses 30 = .ok (.ireturn, 1) := by decide +kernel
set_option maxRecDepth 20000 in
theorem ggX3_row_X3_find : GoodIn wsX3_row wsX3_find := goodIn_r _ [5, 6, 7, 34, 35] (by decide +kernel) (by decide +kernel)
set_option maxRecDepth 20000 in
theorem gX3_row_X3_find : GoodIn wsX3_row (wsV RX3 22 RX3 yX3_find wsX3_find) := goodIn_app (goodIn_of _ (by decide +kernel)) ggX3_row_X3_find
set_option maxRecDepth 20000 in
theorem ggX3_row_X2_put : GoodIn wsX3_row wsX2_put := goodIn_r _ [12, 13, 14, 15, 16, 17, 18, 19, 20, 21, 22, 23, 24, 4, 25, 26, 27, 28, 11, 29, 36, 37, 38, 39] (by decide +kernel) (by decide +kernel)
set_option maxRecDepth 20000 in
theorem gX3_row_X2_put : GoodIn wsX3_row (wsV RX3 34 RX2 yX2_put wsX2_put) := goodIn_app (goodIn_of _ (by decide +kernel)) ggX3_row_X2_put
theorem dX3_row_0 : decode cX3_row 0 = .ok (.aload_n 0, 1) := by decide +kernel
theorem dX3_row_1 : decode cX3_row 1 = .ok (.iload_n 1, 1) := by decide +kernel
theorem dX3_row_2 : decode cX3_row 2 = .ok (.invokevirtual 22, 3) := by decide +kernel
theorem dX3_row_5 : decode cX3_row 5 = .ok (.astore 7, 2) := by decide +kernel
theorem dX3_row_7 : decode cX3_row 7 = .ok (.aload 7, 2) := by decide +kernel
theorem dX3_row_9 : decode cX3_row 9 = .ok (.ifnull 22, 3) := by decide +kernel
theorem dX3_row_12 : decode cX3_row 12 = .ok (.aload 7, 2) := by decide +kernel
theorem dX3_row_14 : decode cX3_row 14 = .ok (.getfield 30, 3) := by decide +kernel
theorem dX3_row_17 : decode cX3_row 17 = .ok (.iload_n 2, 1) := by decide +kernel
theorem dX3_row_18 : decode cX3_row 18 = .ok (.lload_n 3, 1) := by decide +kernel
theorem dX3_row_19 : decode cX3_row 19 = .ok (.lload 5, 2) := by decide +kernel
theorem dX3_row_21 : decode cX3_row 21 = .ok (.invokevirtual 34, 3) := by decide +kernel
theorem dX3_row_24 : decode cX3_row 24 = .ok (.ifCond .eq 7, 3) := by decide +kernel
theorem dX3_row_27 : decode cX3_row 27 = .ok (.iconst 1, 1) := by decide +kernel
theorem dX3_row_28 : decode cX3_row 28 = .ok (.goto 4, 3) := by decide +kernel
theorem dX3_row_31 : decode cX3_row 31 = .ok (.iconst 0, 1) := by decide +kernel
theorem dX3_row_32 : decode cX3_row 32 = .ok (.ireturn, 1) := by decide +kernel
set_option maxRecDepth 20000 in
theorem ggX3_litres_X3_find : GoodIn wsX3_litres wsX3_find := goodIn_r _ [9, 10, 11, 84, 85] (by decide +kernel) (by decide +kernel)
set_option maxRecDepth 20000 in
theorem gX3_litres_X3_find : GoodIn wsX3_litres (wsV RX3 22 RX3 yX3_find wsX3_find) := goodIn_app (goodIn_of _ (by decide +kernel)) ggX3_litres_X3_find
set_option maxRecDepth 20000 in
theorem ggX3_litres_X1_holds : GoodIn wsX3_litres wsX1_holds := goodIn_r _ [16, 17, 86, 87, 88, 89, 90, 91, 92] (by decide +kernel) (by decide +kernel)
set_option maxRecDepth 20000 in
theorem gX3_litres_X1_holds : GoodIn wsX3_litres (wsV RX3 46 RX1 yX1_holds wsX1_holds) := goodIn_app (goodIn_of _ (by decide +kernel)) ggX3_litres_X1_holds
set_option maxRecDepth 20000 in
theorem ggX3_litres_X0_fractionPart : GoodIn wsX3_litres wsX0_fractionPart := goodIn_r _ [22, 23, 24, 25, 21, 26, 27, 28, 29, 30, 31, 15, 32, 33, 34, 35, 36, 37, 38, 39, 13, 14, 16, 17, 40, 41, 42, 43, 44, 45, 46, 47, 48, 49, 50, 51, 52, 53, 54, 55, 56, 57, 58, 59, 60, 61, 62, 63, 64, 65, 66, 67, 68, 69, 70, 8, 71, 72, 73, 74, 75, 76, 77, 86, 87, 88, 89, 90, 91, 92, 93, 94, 95, 96] (by decide +kernel) (by decide +kernel)
set_option maxRecDepth 20000 in
theorem gX3_litres_X0_fractionPart : GoodIn wsX3_litres (wsV RX3 59 RX0 yX0_fractionPart wsX0_fractionPart) := goodIn_app (goodIn_of _ (by decide +kernel)) ggX3_litres_X0_fractionPart
theorem dX3_litres_0 : decode cX3_litres 0 = .ok (.aload_n 0, 1) := by decide +kernel
theorem dX3_litres_1 : decode cX3_litres 1 = .ok (.iload_n 1, 1) := by decide +kernel
theorem dX3_litres_2 : decode cX3_litres 2 = .ok (.invokevirtual 22, 3) := by decide +kernel
theorem dX3_litres_5 : decode cX3_litres 5 = .ok (.astore 4, 2) := by decide +kernel
theorem dX3_litres_7 : decode cX3_litres 7 = .ok (.aload 4, 2) := by decide +kernel
theorem dX3_litres_9 : decode cX3_litres 9 = .ok (.ifnull 12, 3) := by decide +kernel
theorem dX3_litres_12 : decode cX3_litres 12 = .ok (.iload_n 3, 1) := by decide +kernel
theorem dX3_litres_13 : decode cX3_litres 13 = .ok (.ifCond .eq 12, 3) := by decide +kernel
theorem dX3_litres_16 : decode cX3_litres 16 = .ok (.iload_n 3, 1) := by decide +kernel
theorem dX3_litres_17 : decode cX3_litres 17 = .ok (.iconst 1, 1) := by decide +kernel
theorem dX3_litres_18 : decode cX3_litres 18 = .ok (.if_icmp .eq 7, 3) := by decide +kernel
theorem dX3_litres_21 : decode cX3_litres 21 = .ok (.ldc2_w 40, 3) := by decide +kernel
theorem dX3_litres_24 : decode cX3_litres 24 = .ok (.lreturn, 1) := by decide +kernel
theorem dX3_litres_25 : decode cX3_litres 25 = .ok (.aload 4, 2) := by decide +kernel
theorem dX3_litres_27 : decode cX3_litres 27 = .ok (.getfield 42, 3) := by decide +kernel
theorem dX3_litres_30 : decode cX3_litres 30 = .ok (.iload_n 2, 1) := by decide +kernel
theorem dX3_litres_31 : decode cX3_litres 31 = .ok (.invokevirtual 46, 3) := by decide +kernel
theorem dX3_litres_34 : decode cX3_litres 34 = .ok (.ifCond .ne 13, 3) := by decide +kernel
theorem dX3_litres_37 : decode cX3_litres 37 = .ok (.new 52, 3) := by decide +kernel
theorem dX3_litres_40 : decode cX3_litres 40 = .ok (.dup, 1) := by decide +kernel
theorem dX3_litres_41 : decode cX3_litres 41 = .ok (.ldc 54, 2) := by decide +kernel
theorem dX3_litres_43 : decode cX3_litres 43 = .ok (.invokespecial 56, 3) := by decide +kernel
theorem dX3_litres_46 : decode cX3_litres 46 = .ok (.athrow, 1) := by decide +kernel
theorem dX3_litres_47 : decode cX3_litres 47 = .ok (.aload 4, 2) := by decide +kernel
theorem dX3_litres_49 : decode cX3_litres 49 = .ok (.iload_n 2, 1) := by decide +kernel
theorem dX3_litres_50 : decode cX3_litres 50 = .ok (.iload_n 3, 1) := by decide +kernel
theorem dX3_litres_51 : decode cX3_litres 51 = .ok (.invokevirtual 59, 3) := by decide +kernel
theorem dX3_litres_54 : decode cX3_litres 54 = .ok (.lreturn, 1) := by decide +kernel
set_option maxRecDepth 20000 in
theorem ggX3_rows_X3_find : GoodIn wsX3_rows wsX3_find := goodIn_r _ [5, 6, 7, 19, 20] (by decide +kernel) (by decide +kernel)
set_option maxRecDepth 20000 in
theorem gX3_rows_X3_find : GoodIn wsX3_rows (wsV RX3 22 RX3 yX3_find wsX3_find) := goodIn_app (goodIn_of _ (by decide +kernel)) ggX3_rows_X3_find
theorem dX3_rows_0 : decode cX3_rows 0 = .ok (.aload_n 0, 1) := by decide +kernel
theorem dX3_rows_1 : decode cX3_rows 1 = .ok (.iload_n 1, 1) := by decide +kernel
theorem dX3_rows_2 : decode cX3_rows 2 = .ok (.invokevirtual 22, 3) := by decide +kernel
theorem dX3_rows_5 : decode cX3_rows 5 = .ok (.astore_n 2, 1) := by decide +kernel
theorem dX3_rows_6 : decode cX3_rows 6 = .ok (.aload_n 2, 1) := by decide +kernel
theorem dX3_rows_7 : decode cX3_rows 7 = .ok (.ifnonnull 7, 3) := by decide +kernel
theorem dX3_rows_10 : decode cX3_rows 10 = .ok (.iconst (-1), 1) := by decide +kernel
theorem dX3_rows_11 : decode cX3_rows 11 = .ok (.goto 10, 3) := by decide +kernel
theorem dX3_rows_14 : decode cX3_rows 14 = .ok (.aload_n 2, 1) := by decide +kernel
theorem dX3_rows_15 : decode cX3_rows 15 = .ok (.getfield 42, 3) := by decide +kernel
theorem dX3_rows_18 : decode cX3_rows 18 = .ok (.getfield 63, 3) := by decide +kernel
theorem dX3_rows_21 : decode cX3_rows 21 = .ok (.ireturn, 1) := by decide +kernel
set_option maxRecDepth 20000 in
theorem ggX3_check_X3_find : GoodIn wsX3_check wsX3_find := goodIn_r _ [5, 6, 7, 36, 37] (by decide +kernel) (by decide +kernel)
set_option maxRecDepth 20000 in
theorem gX3_check_X3_find : GoodIn wsX3_check (wsV RX3 22 RX3 yX3_find wsX3_find) := goodIn_app (goodIn_of _ (by decide +kernel)) ggX3_check_X3_find
set_option maxRecDepth 20000 in
theorem ggX3_check_X1_firstWrong : GoodIn wsX3_check wsX1_firstWrong := goodIn_r _ [12, 13, 14, 15, 16, 17, 11, 18, 19, 20, 21, 22, 23, 24, 25, 26, 27, 28, 29, 30, 31, 38, 39, 40, 41, 42, 43, 44] (by decide +kernel) (by decide +kernel)
set_option maxRecDepth 20000 in
theorem gX3_check_X1_firstWrong : GoodIn wsX3_check (wsV RX3 66 RX1 yX1_firstWrong wsX1_firstWrong) := goodIn_app (goodIn_of _ (by decide +kernel)) ggX3_check_X1_firstWrong
theorem dX3_check_0 : decode cX3_check 0 = .ok (.aload_n 0, 1) := by decide +kernel
theorem dX3_check_1 : decode cX3_check 1 = .ok (.iload_n 1, 1) := by decide +kernel
theorem dX3_check_2 : decode cX3_check 2 = .ok (.invokevirtual 22, 3) := by decide +kernel
theorem dX3_check_5 : decode cX3_check 5 = .ok (.astore_n 3, 1) := by decide +kernel
theorem dX3_check_6 : decode cX3_check 6 = .ok (.aload_n 3, 1) := by decide +kernel
theorem dX3_check_7 : decode cX3_check 7 = .ok (.ifnonnull 7, 3) := by decide +kernel
theorem dX3_check_10 : decode cX3_check 10 = .ok (.iconst (-1), 1) := by decide +kernel
theorem dX3_check_11 : decode cX3_check 11 = .ok (.goto 11, 3) := by decide +kernel
theorem dX3_check_14 : decode cX3_check 14 = .ok (.aload_n 3, 1) := by decide +kernel
theorem dX3_check_15 : decode cX3_check 15 = .ok (.getfield 42, 3) := by decide +kernel
theorem dX3_check_18 : decode cX3_check 18 = .ok (.iload_n 2, 1) := by decide +kernel
theorem dX3_check_19 : decode cX3_check 19 = .ok (.invokevirtual 66, 3) := by decide +kernel
theorem dX3_check_22 : decode cX3_check 22 = .ok (.ireturn, 1) := by decide +kernel
set_option maxRecDepth 20000 in
theorem ggX3_poke_X3_find : GoodIn wsX3_poke wsX3_find := goodIn_r _ [5, 6, 7, 35, 36] (by decide +kernel) (by decide +kernel)
set_option maxRecDepth 20000 in
theorem gX3_poke_X3_find : GoodIn wsX3_poke (wsV RX3 22 RX3 yX3_find wsX3_find) := goodIn_app (goodIn_of _ (by decide +kernel)) ggX3_poke_X3_find
set_option maxRecDepth 20000 in
theorem ggX3_poke_X1_addPulses : GoodIn wsX3_poke wsX1_addPulses := goodIn_r _ [12, 13, 14, 15, 16, 17, 11, 18, 19, 20, 21, 22, 23, 24, 25, 26, 27, 28, 29, 4, 30, 37, 38, 39, 40, 41, 42, 43] (by decide +kernel) (by decide +kernel)
set_option maxRecDepth 20000 in
theorem gX3_poke_X1_addPulses : GoodIn wsX3_poke (wsV RX3 70 RX1 yX1_addPulses wsX1_addPulses) := goodIn_app (goodIn_of _ (by decide +kernel)) ggX3_poke_X1_addPulses
theorem dX3_poke_0 : decode cX3_poke 0 = .ok (.aload_n 0, 1) := by decide +kernel
theorem dX3_poke_1 : decode cX3_poke 1 = .ok (.iload_n 1, 1) := by decide +kernel
theorem dX3_poke_2 : decode cX3_poke 2 = .ok (.invokevirtual 22, 3) := by decide +kernel
theorem dX3_poke_5 : decode cX3_poke 5 = .ok (.astore 5, 2) := by decide +kernel
theorem dX3_poke_7 : decode cX3_poke 7 = .ok (.aload 5, 2) := by decide +kernel
theorem dX3_poke_9 : decode cX3_poke 9 = .ok (.ifnull 20, 3) := by decide +kernel
theorem dX3_poke_12 : decode cX3_poke 12 = .ok (.aload 5, 2) := by decide +kernel
theorem dX3_poke_14 : decode cX3_poke 14 = .ok (.getfield 42, 3) := by decide +kernel
theorem dX3_poke_17 : decode cX3_poke 17 = .ok (.iload_n 2, 1) := by decide +kernel
theorem dX3_poke_18 : decode cX3_poke 18 = .ok (.lload_n 3, 1) := by decide +kernel
theorem dX3_poke_19 : decode cX3_poke 19 = .ok (.invokevirtual 70, 3) := by decide +kernel
theorem dX3_poke_22 : decode cX3_poke 22 = .ok (.ifCond .eq 7, 3) := by decide +kernel
theorem dX3_poke_25 : decode cX3_poke 25 = .ok (.iconst 1, 1) := by decide +kernel
theorem dX3_poke_26 : decode cX3_poke 26 = .ok (.goto 4, 3) := by decide +kernel
theorem dX3_poke_29 : decode cX3_poke 29 = .ok (.iconst 0, 1) := by decide +kernel
theorem dX3_poke_30 : decode cX3_poke 30 = .ok (.ireturn, 1) := by decide +kernel
set_option maxRecDepth 20000 in
theorem ggX3_seal_X3_find : GoodIn wsX3_seal wsX3_find := goodIn_r _ [5, 6, 7, 45, 46] (by decide +kernel) (by decide +kernel)
set_option maxRecDepth 20000 in
theorem gX3_seal_X3_find : GoodIn wsX3_seal (wsV RX3 22 RX3 yX3_find wsX3_find) := goodIn_app (goodIn_of _ (by decide +kernel)) ggX3_seal_X3_find
set_option maxRecDepth 20000 in
theorem ggX3_seal_X0_turnSeal : GoodIn wsX3_seal wsX0_turnSeal := goodIn_r _ [12, 13, 14, 15, 16, 17, 18, 4, 19, 20, 21, 22, 23, 24, 25, 26, 27, 28, 29, 30, 31, 32, 33, 34, 35, 36, 37, 38, 39, 40, 41, 42, 43, 44, 47, 48, 49, 50, 51, 52, 53, 54, 55, 56, 57] (by decide +kernel) (by decide +kernel)
set_option maxRecDepth 20000 in
theorem gX3_seal_X0_turnSeal : GoodIn wsX3_seal (wsV RX3 74 RX0 yX0_turnSeal wsX0_turnSeal) := goodIn_app (goodIn_of _ (by decide +kernel)) ggX3_seal_X0_turnSeal
theorem dX3_seal_0 : decode cX3_seal 0 = .ok (.aload_n 0, 1) := by decide +kernel
theorem dX3_seal_1 : decode cX3_seal 1 = .ok (.iload_n 1, 1) := by decide +kernel
theorem dX3_seal_2 : decode cX3_seal 2 = .ok (.invokevirtual 22, 3) := by decide +kernel
theorem dX3_seal_5 : decode cX3_seal 5 = .ok (.astore 4, 2) := by decide +kernel
theorem dX3_seal_7 : decode cX3_seal 7 = .ok (.aload 4, 2) := by decide +kernel
theorem dX3_seal_9 : decode cX3_seal 9 = .ok (.ifnull 17, 3) := by decide +kernel
theorem dX3_seal_12 : decode cX3_seal 12 = .ok (.aload 4, 2) := by decide +kernel
theorem dX3_seal_14 : decode cX3_seal 14 = .ok (.iload_n 2, 1) := by decide +kernel
theorem dX3_seal_15 : decode cX3_seal 15 = .ok (.iload_n 3, 1) := by decide +kernel
theorem dX3_seal_16 : decode cX3_seal 16 = .ok (.invokevirtual 74, 3) := by decide +kernel
theorem dX3_seal_19 : decode cX3_seal 19 = .ok (.ifCond .eq 7, 3) := by decide +kernel
theorem dX3_seal_22 : decode cX3_seal 22 = .ok (.iconst 1, 1) := by decide +kernel
theorem dX3_seal_23 : decode cX3_seal 23 = .ok (.goto 4, 3) := by decide +kernel
theorem dX3_seal_26 : decode cX3_seal 26 = .ok (.iconst 0, 1) := by decide +kernel
theorem dX3_seal_27 : decode cX3_seal 27 = .ok (.ireturn, 1) := by decide +kernel
set_option maxRecDepth 20000 in
theorem ggX3_marked_X3_find : GoodIn wsX3_marked wsX3_find := goodIn_r _ [5, 6, 7, 23, 24] (by decide +kernel) (by decide +kernel)
set_option maxRecDepth 20000 in
theorem gX3_marked_X3_find : GoodIn wsX3_marked (wsV RX3 22 RX3 yX3_find wsX3_find) := goodIn_app (goodIn_of _ (by decide +kernel)) ggX3_marked_X3_find
set_option maxRecDepth 20000 in
theorem ggX3_marked_X1_hasMark : GoodIn wsX3_marked wsX1_hasMark := goodIn_r _ [12, 13, 14, 15, 16, 11, 17, 18, 25, 26, 27, 28, 29, 30, 31] (by decide +kernel) (by decide +kernel)
set_option maxRecDepth 20000 in
theorem gX3_marked_X1_hasMark : GoodIn wsX3_marked (wsV RX3 78 RX1 yX1_hasMark wsX1_hasMark) := goodIn_app (goodIn_of _ (by decide +kernel)) ggX3_marked_X1_hasMark
theorem dX3_marked_0 : decode cX3_marked 0 = .ok (.aload_n 0, 1) := by decide +kernel
theorem dX3_marked_1 : decode cX3_marked 1 = .ok (.iload_n 1, 1) := by decide +kernel
theorem dX3_marked_2 : decode cX3_marked 2 = .ok (.invokevirtual 22, 3) := by decide +kernel
theorem dX3_marked_5 : decode cX3_marked 5 = .ok (.astore_n 3, 1) := by decide +kernel
theorem dX3_marked_6 : decode cX3_marked 6 = .ok (.aload_n 3, 1) := by decide +kernel
theorem dX3_marked_7 : decode cX3_marked 7 = .ok (.ifnull 18, 3) := by decide +kernel
theorem dX3_marked_10 : decode cX3_marked 10 = .ok (.aload_n 3, 1) := by decide +kernel
theorem dX3_marked_11 : decode cX3_marked 11 = .ok (.getfield 42, 3) := by decide +kernel
theorem dX3_marked_14 : decode cX3_marked 14 = .ok (.iload_n 2, 1) := by decide +kernel
theorem dX3_marked_15 : decode cX3_marked 15 = .ok (.invokevirtual 78, 3) := by decide +kernel
theorem dX3_marked_18 : decode cX3_marked 18 = .ok (.ifCond .eq 7, 3) := by decide +kernel
theorem dX3_marked_21 : decode cX3_marked 21 = .ok (.iconst 1, 1) := by decide +kernel
theorem dX3_marked_22 : decode cX3_marked 22 = .ok (.goto 4, 3) := by decide +kernel
theorem dX3_marked_25 : decode cX3_marked 25 = .ok (.iconst 0, 1) := by decide +kernel
theorem dX3_marked_26 : decode cX3_marked 26 = .ok (.ireturn, 1) := by decide +kernel
set_option maxRecDepth 20000 in
theorem ggX3_gap_X3_find : GoodIn wsX3_gap wsX3_find := goodIn_r _ [5, 6, 7, 38, 39] (by decide +kernel) (by decide +kernel)
set_option maxRecDepth 20000 in
theorem gX3_gap_X3_find : GoodIn wsX3_gap (wsV RX3 22 RX3 yX3_find wsX3_find) := goodIn_app (goodIn_of _ (by decide +kernel)) ggX3_gap_X3_find
set_option maxRecDepth 20000 in
theorem ggX3_gap_X1_findGap : GoodIn wsX3_gap wsX1_findGap := goodIn_r _ [12, 13, 14, 15, 16, 17, 18, 19, 11, 20, 21, 22, 23, 24, 25, 26, 27, 28, 29, 30, 31, 32, 33, 40, 41, 42, 43, 44, 45, 46] (by decide +kernel) (by decide +kernel)
set_option maxRecDepth 20000 in
theorem gX3_gap_X1_findGap : GoodIn wsX3_gap (wsV RX3 81 RX1 yX1_findGap wsX1_findGap) := goodIn_app (goodIn_of _ (by decide +kernel)) ggX3_gap_X1_findGap
theorem dX3_gap_0 : decode cX3_gap 0 = .ok (.aload_n 0, 1) := by decide +kernel
theorem dX3_gap_1 : decode cX3_gap 1 = .ok (.iload_n 1, 1) := by decide +kernel
theorem dX3_gap_2 : decode cX3_gap 2 = .ok (.invokevirtual 22, 3) := by decide +kernel
theorem dX3_gap_5 : decode cX3_gap 5 = .ok (.astore 4, 2) := by decide +kernel
theorem dX3_gap_7 : decode cX3_gap 7 = .ok (.aload 4, 2) := by decide +kernel
theorem dX3_gap_9 : decode cX3_gap 9 = .ok (.ifnull 16, 3) := by decide +kernel
theorem dX3_gap_12 : decode cX3_gap 12 = .ok (.iload_n 2, 1) := by decide +kernel
theorem dX3_gap_13 : decode cX3_gap 13 = .ok (.ifCond .lt 12, 3) := by decide +kernel
theorem dX3_gap_16 : decode cX3_gap 16 = .ok (.iload_n 3, 1) := by decide +kernel
theorem dX3_gap_17 : decode cX3_gap 17 = .ok (.ifCond .eq 10, 3) := by decide +kernel
theorem dX3_gap_20 : decode cX3_gap 20 = .ok (.iload_n 3, 1) := by decide +kernel
theorem dX3_gap_21 : decode cX3_gap 21 = .ok (.iconst 1, 1) := by decide +kernel
theorem dX3_gap_22 : decode cX3_gap 22 = .ok (.if_icmp .eq 5, 3) := by decide +kernel
theorem dX3_gap_25 : decode cX3_gap 25 = .ok (.iconst (-1), 1) := by decide +kernel
theorem dX3_gap_26 : decode cX3_gap 26 = .ok (.ireturn, 1) := by decide +kernel
theorem dX3_gap_27 : decode cX3_gap 27 = .ok (.aload 4, 2) := by decide +kernel
theorem dX3_gap_29 : decode cX3_gap 29 = .ok (.getfield 42, 3) := by decide +kernel
theorem dX3_gap_32 : decode cX3_gap 32 = .ok (.iload_n 2, 1) := by decide +kernel
theorem dX3_gap_33 : decode cX3_gap 33 = .ok (.iload_n 3, 1) := by decide +kernel
theorem dX3_gap_34 : decode cX3_gap 34 = .ok (.invokevirtual 81, 3) := by decide +kernel
theorem dX3_gap_37 : decode cX3_gap 37 = .ok (.ireturn, 1) := by decide +kernel
set_option maxRecDepth 20000 in
theorem ggX3_rest_X3_find : GoodIn wsX3_rest wsX3_find := goodIn_r _ [8, 9, 10, 74, 75] (by decide +kernel) (by decide +kernel)
set_option maxRecDepth 20000 in
theorem gX3_rest_X3_find : GoodIn wsX3_rest (wsV RX3 22 RX3 yX3_find wsX3_find) := goodIn_app (goodIn_of _ (by decide +kernel)) ggX3_rest_X3_find
set_option maxRecDepth 20000 in
theorem ggX3_rest_X3_within : GoodIn wsX3_rest wsX3_within := goodIn_r _ [13] (by decide +kernel) (by decide +kernel)
set_option maxRecDepth 20000 in
theorem gX3_rest_X3_within : GoodIn wsX3_rest (va_wsS RX3 87 yX3_within wsX3_within) := goodIn_app (goodIn_of _ (by decide +kernel)) ggX3_rest_X3_within
set_option maxRecDepth 20000 in
theorem ggX3_rest_X0_allThousandths : GoodIn wsX3_rest wsX0_allThousandths := goodIn_r _ [18, 19, 20, 21, 22, 23, 17, 24, 25, 26, 27, 28, 29, 30, 31, 32, 33, 34, 35, 36, 37, 38, 39, 40, 41, 42, 43, 44, 45, 46, 47, 48, 49, 50, 51, 52, 53, 54, 55, 56, 57, 58, 59, 60, 61, 62, 63, 64, 65, 66, 67, 68, 69, 70, 71, 72, 7, 73, 76, 77, 78, 79, 80, 81, 82, 83, 84, 85, 86, 87, 88, 89, 90] (by decide +kernel) (by decide +kernel)
set_option maxRecDepth 20000 in
theorem gX3_rest_X0_allThousandths : GoodIn wsX3_rest (wsV RX3 93 RX0 yX0_allThousandths wsX0_allThousandths) := goodIn_app (goodIn_of _ (by decide +kernel)) ggX3_rest_X0_allThousandths
theorem dX3_rest_0 : decode cX3_rest 0 = .ok (.aload_n 0, 1) := by decide +kernel
theorem dX3_rest_1 : decode cX3_rest 1 = .ok (.iload_n 1, 1) := by decide +kernel
theorem dX3_rest_2 : decode cX3_rest 2 = .ok (.invokevirtual 22, 3) := by decide +kernel
theorem dX3_rest_5 : decode cX3_rest 5 = .ok (.astore 4, 2) := by decide +kernel
theorem dX3_rest_7 : decode cX3_rest 7 = .ok (.aload 4, 2) := by decide +kernel
theorem dX3_rest_9 : decode cX3_rest 9 = .ok (.ifnull 14, 3) := by decide +kernel
theorem dX3_rest_12 : decode cX3_rest 12 = .ok (.lload_n 2, 1) := by decide +kernel
theorem dX3_rest_13 : decode cX3_rest 13 = .ok (.lconst 0, 1) := by decide +kernel
theorem dX3_rest_14 : decode cX3_rest 14 = .ok (.ldc2_w 85, 3) := by decide +kernel
theorem dX3_rest_17 : decode cX3_rest 17 = .ok (.invokestatic 87, 3) := by decide +kernel
theorem dX3_rest_20 : decode cX3_rest 20 = .ok (.ifCond .ne 7, 3) := by decide +kernel
theorem dX3_rest_23 : decode cX3_rest 23 = .ok (.ldc2_w 91, 3) := by decide +kernel
theorem dX3_rest_26 : decode cX3_rest 26 = .ok (.lreturn, 1) := by decide +kernel
theorem dX3_rest_27 : decode cX3_rest 27 = .ok (.aload 4, 2) := by decide +kernel
theorem dX3_rest_29 : decode cX3_rest 29 = .ok (.invokevirtual 93, 3) := by decide +kernel
theorem dX3_rest_32 : decode cX3_rest 32 = .ok (.lload_n 2, 1) := by decide +kernel
theorem dX3_rest_33 : decode cX3_rest 33 = .ok (.ldc2_w 97, 3) := by decide +kernel
theorem dX3_rest_36 : decode cX3_rest 36 = .ok (.lmul, 1) := by decide +kernel
theorem dX3_rest_37 : decode cX3_rest 37 = .ok (.lsub, 1) := by decide +kernel
theorem dX3_rest_38 : decode cX3_rest 38 = .ok (.lreturn, 1) := by decide +kernel
set_option maxRecDepth 20000 in
theorem ggX3_reset_X3_find : GoodIn wsX3_reset wsX3_find := goodIn_r _ [5, 6, 7, 44, 45] (by decide +kernel) (by decide +kernel)
set_option maxRecDepth 20000 in
theorem gX3_reset_X3_find : GoodIn wsX3_reset (wsV RX3 22 RX3 yX3_find wsX3_find) := goodIn_app (goodIn_of _ (by decide +kernel)) ggX3_reset_X3_find
set_option maxRecDepth 20000 in
theorem ggX3_reset_X0_addReset : GoodIn wsX3_reset wsX0_addReset := goodIn_r _ [12, 13, 14, 15, 16, 17, 4, 18, 19, 20, 21, 22, 23, 24, 25, 26, 27, 28, 29, 30, 31, 32, 33, 34, 35, 36, 37, 38, 39, 40, 41, 42, 43, 46, 47, 48, 49, 50, 51, 52, 53, 54, 55, 56] (by decide +kernel) (by decide +kernel)
set_option maxRecDepth 20000 in
theorem gX3_reset_X0_addReset : GoodIn wsX3_reset (wsV RX3 99 RX0 yX0_addReset wsX0_addReset) := goodIn_app (goodIn_of _ (by decide +kernel)) ggX3_reset_X0_addReset
theorem dX3_reset_0 : decode cX3_reset 0 = .ok (.aload_n 0, 1) := by decide +kernel
theorem dX3_reset_1 : decode cX3_reset 1 = .ok (.iload_n 1, 1) := by decide +kernel
theorem dX3_reset_2 : decode cX3_reset 2 = .ok (.invokevirtual 22, 3) := by decide +kernel
theorem dX3_reset_5 : decode cX3_reset 5 = .ok (.astore 4, 2) := by decide +kernel
theorem dX3_reset_7 : decode cX3_reset 7 = .ok (.aload 4, 2) := by decide +kernel
theorem dX3_reset_9 : decode cX3_reset 9 = .ok (.ifnull 16, 3) := by decide +kernel
theorem dX3_reset_12 : decode cX3_reset 12 = .ok (.aload 4, 2) := by decide +kernel
theorem dX3_reset_14 : decode cX3_reset 14 = .ok (.lload_n 2, 1) := by decide +kernel
theorem dX3_reset_15 : decode cX3_reset 15 = .ok (.invokevirtual 99, 3) := by decide +kernel
theorem dX3_reset_18 : decode cX3_reset 18 = .ok (.ifCond .eq 7, 3) := by decide +kernel
theorem dX3_reset_21 : decode cX3_reset 21 = .ok (.iconst 1, 1) := by decide +kernel
theorem dX3_reset_22 : decode cX3_reset 22 = .ok (.goto 4, 3) := by decide +kernel
theorem dX3_reset_25 : decode cX3_reset 25 = .ok (.iconst 0, 1) := by decide +kernel
theorem dX3_reset_26 : decode cX3_reset 26 = .ok (.ireturn, 1) := by decide +kernel
set_option maxRecDepth 20000 in
theorem ggX3_roll_X3_find : GoodIn wsX3_roll wsX3_find := goodIn_r _ [5, 6, 7, 66, 67] (by decide +kernel) (by decide +kernel)
set_option maxRecDepth 20000 in
theorem gX3_roll_X3_find : GoodIn wsX3_roll (wsV RX3 22 RX3 yX3_find wsX3_find) := goodIn_app (goodIn_of _ (by decide +kernel)) ggX3_roll_X3_find
set_option maxRecDepth 20000 in
theorem ggX3_roll_X1_rollByte : GoodIn wsX3_roll wsX1_rollByte := goodIn_r _ [12, 13, 14, 15, 16, 11, 17, 18, 19, 20, 21, 22, 23, 24, 25, 26, 27, 28, 29, 30, 31, 32, 33, 34, 35, 36, 37, 4, 38, 39, 40, 41, 42, 43, 44, 45, 46, 47, 48, 49, 50, 51, 52, 53, 54, 55, 56, 57, 58, 59, 60, 61, 68, 69, 70, 71, 72, 73, 74] (by decide +kernel) (by decide +kernel)
set_option maxRecDepth 20000 in
theorem gX3_roll_X1_rollByte : GoodIn wsX3_roll (wsV RX3 103 RX1 yX1_rollByte wsX1_rollByte) := goodIn_app (goodIn_of _ (by decide +kernel)) ggX3_roll_X1_rollByte
theorem dX3_roll_0 : decode cX3_roll 0 = .ok (.aload_n 0, 1) := by decide +kernel
theorem dX3_roll_1 : decode cX3_roll 1 = .ok (.iload_n 1, 1) := by decide +kernel
theorem dX3_roll_2 : decode cX3_roll 2 = .ok (.invokevirtual 22, 3) := by decide +kernel
theorem dX3_roll_5 : decode cX3_roll 5 = .ok (.astore_n 3, 1) := by decide +kernel
theorem dX3_roll_6 : decode cX3_roll 6 = .ok (.aload_n 3, 1) := by decide +kernel
theorem dX3_roll_7 : decode cX3_roll 7 = .ok (.ifnonnull 7, 3) := by decide +kernel
theorem dX3_roll_10 : decode cX3_roll 10 = .ok (.iconst (-1), 1) := by decide +kernel
theorem dX3_roll_11 : decode cX3_roll 11 = .ok (.goto 11, 3) := by decide +kernel
theorem dX3_roll_14 : decode cX3_roll 14 = .ok (.aload_n 3, 1) := by decide +kernel
theorem dX3_roll_15 : decode cX3_roll 15 = .ok (.getfield 42, 3) := by decide +kernel
theorem dX3_roll_18 : decode cX3_roll 18 = .ok (.iload_n 2, 1) := by decide +kernel
theorem dX3_roll_19 : decode cX3_roll 19 = .ok (.invokevirtual 103, 3) := by decide +kernel
theorem dX3_roll_22 : decode cX3_roll 22 = .ok (.ireturn, 1) := by decide +kernel
theorem dX3_find_0 : decode cX3_find 0 = .ok (.iload_n 1, 1) := by decide +kernel
theorem dX3_find_1 : decode cX3_find 1 = .ok (.ifCond .lt 20, 3) := by decide +kernel
theorem dX3_find_4 : decode cX3_find 4 = .ok (.iload_n 1, 1) := by decide +kernel
theorem dX3_find_5 : decode cX3_find 5 = .ok (.aload_n 0, 1) := by decide +kernel
theorem dX3_find_6 : decode cX3_find 6 = .ok (.getfield 15, 3) := by decide +kernel
theorem dX3_find_9 : decode cX3_find 9 = .ok (.if_icmp .ge 12, 3) := by decide +kernel
theorem dX3_find_12 : decode cX3_find 12 = .ok (.aload_n 0, 1) := by decide +kernel
theorem dX3_find_13 : decode cX3_find 13 = .ok (.getfield 11, 3) := by decide +kernel
theorem dX3_find_16 : decode cX3_find 16 = .ok (.iload_n 1, 1) := by decide +kernel
theorem dX3_find_17 : decode cX3_find 17 = .ok (.aaload, 1) := by decide +kernel
theorem dX3_find_18 : decode cX3_find 18 = .ok (.goto 4, 3) := by decide +kernel
theorem dX3_find_21 : decode cX3_find 21 = .ok (.aconst_null, 1) := by decide +kernel
theorem dX3_find_22 : decode cX3_find 22 = .ok (.areturn, 1) := by decide +kernel
theorem dX3_within_0 : decode cX3_within 0 = .ok (.lload_n 0, 1) := by decide +kernel
theorem dX3_within_1 : decode cX3_within 1 = .ok (.lload_n 2, 1) := by decide +kernel
theorem dX3_within_2 : decode cX3_within 2 = .ok (.lcmp, 1) := by decide +kernel
theorem dX3_within_3 : decode cX3_within 3 = .ok (.ifCond .lt 14, 3) := by decide +kernel
theorem dX3_within_6 : decode cX3_within 6 = .ok (.lload_n 0, 1) := by decide +kernel
theorem dX3_within_7 : decode cX3_within 7 = .ok (.lload 4, 2) := by decide +kernel
theorem dX3_within_9 : decode cX3_within 9 = .ok (.lcmp, 1) := by decide +kernel
theorem dX3_within_10 : decode cX3_within 10 = .ok (.ifCond .gt 7, 3) := by decide +kernel
theorem dX3_within_13 : decode cX3_within 13 = .ok (.iconst 1, 1) := by decide +kernel
theorem dX3_within_14 : decode cX3_within 14 = .ok (.goto 4, 3) := by decide +kernel
theorem dX3_within_17 : decode cX3_within 17 = .ok (.iconst 0, 1) := by decide +kernel
theorem dX3_within_18 : decode cX3_within 18 = .ok (.ireturn, 1) := by decide +kernel
theorem dX3_quotient_0 : decode cX3_quotient 0 = .ok (.lload_n 2, 1) := by decide +kernel
theorem dX3_quotient_1 : decode cX3_quotient 1 = .ok (.lconst 0, 1) := by decide +kernel
theorem dX3_quotient_2 : decode cX3_quotient 2 = .ok (.lcmp, 1) := by decide +kernel
theorem dX3_quotient_3 : decode cX3_quotient 3 = .ok (.ifCond .ne 7, 3) := by decide +kernel
theorem dX3_quotient_6 : decode cX3_quotient 6 = .ok (.lconst 0, 1) := by decide +kernel
theorem dX3_quotient_7 : decode cX3_quotient 7 = .ok (.goto 6, 3) := by decide +kernel
theorem dX3_quotient_10 : decode cX3_quotient 10 = .ok (.lload_n 0, 1) := by decide +kernel
theorem dX3_quotient_11 : decode cX3_quotient 11 = .ok (.lload_n 2, 1) := by decide +kernel
theorem dX3_quotient_12 : decode cX3_quotient 12 = .ok (.ldiv, 1) := by decide +kernel
theorem dX3_quotient_13 : decode cX3_quotient 13 = .ok (.lreturn, 1) := by decide +kernel
theorem dX3_commonDivisor_0 : decode cX3_commonDivisor 0 = .ok (.lload_n 0, 1) := by decide +kernel
theorem dX3_commonDivisor_1 : decode cX3_commonDivisor 1 = .ok (.lstore 4, 2) := by decide +kernel
theorem dX3_commonDivisor_3 : decode cX3_commonDivisor 3 = .ok (.lload_n 2, 1) := by decide +kernel
theorem dX3_commonDivisor_4 : decode cX3_commonDivisor 4 = .ok (.lstore 6, 2) := by decide +kernel
theorem dX3_commonDivisor_6 : decode cX3_commonDivisor 6 = .ok (.iconst 0, 1) := by decide +kernel
theorem dX3_commonDivisor_7 : decode cX3_commonDivisor 7 = .ok (.istore 8, 2) := by decide +kernel
theorem dX3_commonDivisor_9 : decode cX3_commonDivisor 9 = .ok (.iload 8, 2) := by decide +kernel
theorem dX3_commonDivisor_11 : decode cX3_commonDivisor 11 = .ok (.bipush 100, 2) := by decide +kernel
theorem dX3_commonDivisor_13 : decode cX3_commonDivisor 13 = .ok (.if_icmp .ge 31, 3) := by decide +kernel
theorem dX3_commonDivisor_16 : decode cX3_commonDivisor 16 = .ok (.lload 6, 2) := by decide +kernel
theorem dX3_commonDivisor_18 : decode cX3_commonDivisor 18 = .ok (.lconst 0, 1) := by decide +kernel
theorem dX3_commonDivisor_19 : decode cX3_commonDivisor 19 = .ok (.lcmp, 1) := by decide +kernel
theorem dX3_commonDivisor_20 : decode cX3_commonDivisor 20 = .ok (.ifCond .eq 24, 3) := by decide +kernel
theorem dX3_commonDivisor_23 : decode cX3_commonDivisor 23 = .ok (.lload 4, 2) := by decide +kernel
theorem dX3_commonDivisor_25 : decode cX3_commonDivisor 25 = .ok (.lload 6, 2) := by decide +kernel
theorem dX3_commonDivisor_27 : decode cX3_commonDivisor 27 = .ok (.lrem, 1) := by decide +kernel
theorem dX3_commonDivisor_28 : decode cX3_commonDivisor 28 = .ok (.lstore 9, 2) := by decide +kernel
theorem dX3_commonDivisor_30 : decode cX3_commonDivisor 30 = .ok (.lload 6, 2) := by decide +kernel
theorem dX3_commonDivisor_32 : decode cX3_commonDivisor 32 = .ok (.lstore 4, 2) := by decide +kernel
theorem dX3_commonDivisor_34 : decode cX3_commonDivisor 34 = .ok (.lload 9, 2) := by decide +kernel
theorem dX3_commonDivisor_36 : decode cX3_commonDivisor 36 = .ok (.lstore 6, 2) := by decide +kernel
theorem dX3_commonDivisor_38 : decode cX3_commonDivisor 38 = .ok (.iinc 8 1, 3) := by decide +kernel
theorem dX3_commonDivisor_41 : decode cX3_commonDivisor 41 = .ok (.goto (-32), 3) := by decide +kernel
theorem dX3_commonDivisor_44 : decode cX3_commonDivisor 44 = .ok (.lload 4, 2) := by decide +kernel
theorem dX3_commonDivisor_46 : decode cX3_commonDivisor 46 = .ok (.lreturn, 1) := by decide +kernel
theorem dX3_textLength_0 : decode cX3_textLength 0 = .ok (.lload_n 0, 1) := by decide +kernel
theorem dX3_textLength_1 : decode cX3_textLength 1 = .ok (.lconst 0, 1) := by decide +kernel
theorem dX3_textLength_2 : decode cX3_textLength 2 = .ok (.lcmp, 1) := by decide +kernel
theorem dX3_textLength_3 : decode cX3_textLength 3 = .ok (.ifCond .ge 7, 3) := by decide +kernel
theorem dX3_textLength_6 : decode cX3_textLength 6 = .ok (.iconst 2, 1) := by decide +kernel
theorem dX3_textLength_7 : decode cX3_textLength 7 = .ok (.goto 4, 3) := by decide +kernel
theorem dX3_textLength_10 : decode cX3_textLength 10 = .ok (.iconst 1, 1) := by decide +kernel
theorem dX3_textLength_11 : decode cX3_textLength 11 = .ok (.istore_n 2, 1) := by decide +kernel
theorem dX3_textLength_12 : decode cX3_textLength 12 = .ok (.lload_n 0, 1) := by decide +kernel
theorem dX3_textLength_13 : decode cX3_textLength 13 = .ok (.ldc2_w 106, 3) := by decide +kernel
theorem dX3_textLength_16 : decode cX3_textLength 16 = .ok (.ldiv, 1) := by decide +kernel
theorem dX3_textLength_17 : decode cX3_textLength 17 = .ok (.lstore_n 3, 1) := by decide +kernel
theorem dX3_textLength_18 : decode cX3_textLength 18 = .ok (.iconst 0, 1) := by decide +kernel
theorem dX3_textLength_19 : decode cX3_textLength 19 = .ok (.istore 5, 2) := by decide +kernel
theorem dX3_textLength_21 : decode cX3_textLength 21 = .ok (.iload 5, 2) := by decide +kernel
theorem dX3_textLength_23 : decode cX3_textLength 23 = .ok (.bipush 19, 2) := by decide +kernel
theorem dX3_textLength_25 : decode cX3_textLength 25 = .ok (.if_icmp .ge 24, 3) := by decide +kernel
theorem dX3_textLength_28 : decode cX3_textLength 28 = .ok (.lload_n 3, 1) := by decide +kernel
theorem dX3_textLength_29 : decode cX3_textLength 29 = .ok (.lconst 0, 1) := by decide +kernel
theorem dX3_textLength_30 : decode cX3_textLength 30 = .ok (.lcmp, 1) := by decide +kernel
theorem dX3_textLength_31 : decode cX3_textLength 31 = .ok (.ifCond .eq 18, 3) := by decide +kernel
theorem dX3_textLength_34 : decode cX3_textLength 34 = .ok (.iinc 2 1, 3) := by decide +kernel
theorem dX3_textLength_37 : decode cX3_textLength 37 = .ok (.lload_n 3, 1) := by decide +kernel
theorem dX3_textLength_38 : decode cX3_textLength 38 = .ok (.ldc2_w 106, 3) := by decide +kernel
theorem dX3_textLength_41 : decode cX3_textLength 41 = .ok (.ldiv, 1) := by decide +kernel
theorem dX3_textLength_42 : decode cX3_textLength 42 = .ok (.lstore_n 3, 1) := by decide +kernel
theorem dX3_textLength_43 : decode cX3_textLength 43 = .ok (.iinc 5 1, 3) := by decide +kernel
theorem dX3_textLength_46 : decode cX3_textLength 46 = .ok (.goto (-25), 3) := by decide +kernel
theorem dX3_textLength_49 : decode cX3_textLength 49 = .ok (.iload_n 2, 1) := by decide +kernel
theorem dX3_textLength_50 : decode cX3_textLength 50 = .ok (.ireturn, 1) := by decide +kernel
set_option maxRecDepth 20000 in
theorem ggX3_textByte_X3_textLength : GoodIn wsX3_textByte wsX3_textLength := goodIn_r _ [9, 1] (by decide +kernel) (by decide +kernel)
set_option maxRecDepth 20000 in
theorem gX3_textByte_X3_textLength : GoodIn wsX3_textByte (va_wsS RX3 108 yX3_textLength wsX3_textLength) := goodIn_app (goodIn_of _ (by decide +kernel)) ggX3_textByte_X3_textLength
theorem dX3_textByte_0 : decode cX3_textByte 0 = .ok (.lload_n 0, 1) := by decide +kernel
theorem dX3_textByte_1 : decode cX3_textByte 1 = .ok (.lconst 0, 1) := by decide +kernel
theorem dX3_textByte_2 : decode cX3_textByte 2 = .ok (.lcmp, 1) := by decide +kernel
theorem dX3_textByte_3 : decode cX3_textByte 3 = .ok (.ifCond .ge 10, 3) := by decide +kernel
theorem dX3_textByte_6 : decode cX3_textByte 6 = .ok (.iload_n 2, 1) := by decide +kernel
theorem dX3_textByte_7 : decode cX3_textByte 7 = .ok (.ifCond .ne 6, 3) := by decide +kernel
theorem dX3_textByte_10 : decode cX3_textByte 10 = .ok (.bipush 45, 2) := by decide +kernel
theorem dX3_textByte_12 : decode cX3_textByte 12 = .ok (.ireturn, 1) := by decide +kernel
theorem dX3_textByte_13 : decode cX3_textByte 13 = .ok (.lload_n 0, 1) := by decide +kernel
theorem dX3_textByte_14 : decode cX3_textByte 14 = .ok (.lstore_n 3, 1) := by decide +kernel
theorem dX3_textByte_15 : decode cX3_textByte 15 = .ok (.lload_n 0, 1) := by decide +kernel
theorem dX3_textByte_16 : decode cX3_textByte 16 = .ok (.invokestatic 108, 3) := by decide +kernel
theorem dX3_textByte_19 : decode cX3_textByte 19 = .ok (.iconst 1, 1) := by decide +kernel
theorem dX3_textByte_20 : decode cX3_textByte 20 = .ok (.isub, 1) := by decide +kernel
theorem dX3_textByte_21 : decode cX3_textByte 21 = .ok (.iload_n 2, 1) := by decide +kernel
theorem dX3_textByte_22 : decode cX3_textByte 22 = .ok (.isub, 1) := by decide +kernel
theorem dX3_textByte_23 : decode cX3_textByte 23 = .ok (.istore 5, 2) := by decide +kernel
theorem dX3_textByte_25 : decode cX3_textByte 25 = .ok (.iload 5, 2) := by decide +kernel
theorem dX3_textByte_27 : decode cX3_textByte 27 = .ok (.ifCond .le 15, 3) := by decide +kernel
theorem dX3_textByte_30 : decode cX3_textByte 30 = .ok (.lload_n 3, 1) := by decide +kernel
theorem dX3_textByte_31 : decode cX3_textByte 31 = .ok (.ldc2_w 106, 3) := by decide +kernel
theorem dX3_textByte_34 : decode cX3_textByte 34 = .ok (.ldiv, 1) := by decide +kernel
theorem dX3_textByte_35 : decode cX3_textByte 35 = .ok (.lstore_n 3, 1) := by decide +kernel
theorem dX3_textByte_36 : decode cX3_textByte 36 = .ok (.iinc 5 (-1), 3) := by decide +kernel
theorem dX3_textByte_39 : decode cX3_textByte 39 = .ok (.goto (-14), 3) := by decide +kernel
theorem dX3_textByte_42 : decode cX3_textByte 42 = .ok (.bipush 48, 2) := by decide +kernel
theorem dX3_textByte_44 : decode cX3_textByte 44 = .ok (.lload_n 3, 1) := by decide +kernel
theorem dX3_textByte_45 : decode cX3_textByte 45 = .ok (.ldc2_w 106, 3) := by decide +kernel
theorem dX3_textByte_48 : decode cX3_textByte 48 = .ok (.lrem, 1) := by decide +kernel
theorem dX3_textByte_49 : decode cX3_textByte 49 = .ok (.invokestatic 112, 3) := by decide +kernel
theorem dX3_textByte_52 : decode cX3_textByte 52 = .ok (.l2i, 1) := by decide +kernel
theorem dX3_textByte_53 : decode cX3_textByte 53 = .ok (.iadd, 1) := by decide +kernel
theorem dX3_textByte_54 : decode cX3_textByte 54 = .ok (.ireturn, 1) := by decide +kernel
theorem dX4_init_0 : decode cX4_init 0 = .ok (.aload_n 0, 1) := by decide +kernel
theorem dX4_init_1 : decode cX4_init 1 = .ok (.invokespecial 1, 3) := by decide +kernel
theorem dX4_init_4 : decode cX4_init 4 = .ok (.aload_n 0, 1) := by decide +kernel
theorem dX4_init_5 : decode cX4_init 5 = .ok (.bipush 8, 2) := by decide +kernel
theorem dX4_init_7 : decode cX4_init 7 = .ok (.newarray .long, 2) := by decide +kernel
theorem dX4_init_9 : decode cX4_init 9 = .ok (.putfield 9, 3) := by decide +kernel
theorem dX4_init_12 : decode cX4_init 12 = .ok (.aload_n 0, 1) := by decide +kernel
theorem dX4_init_13 : decode cX4_init 13 = .ok (.bipush 8, 2) := by decide +kernel
theorem dX4_init_15 : decode cX4_init 15 = .ok (.newarray .int, 2) := by decide +kernel
theorem dX4_init_17 : decode cX4_init 17 = .ok (.putfield 13, 3) := by decide +kernel
theorem dX4_init_20 : decode cX4_init 20 = .ok (.aload_n 0, 1) := by decide +kernel
theorem dX4_init_21 : decode cX4_init 21 = .ok (.bipush 8, 2) := by decide +kernel
theorem dX4_init_23 : decode cX4_init 23 = .ok (.newarray .int, 2) := by decide +kernel
theorem dX4_init_25 : decode cX4_init 25 = .ok (.putfield 17, 3) := by decide +kernel
theorem dX4_init_28 : decode cX4_init 28 = .ok (.aload_n 0, 1) := by decide +kernel
theorem dX4_init_29 : decode cX4_init 29 = .ok (.sipush 1600, 3) := by decide +kernel
theorem dX4_init_32 : decode cX4_init 32 = .ok (.newarray .int, 2) := by decide +kernel
theorem dX4_init_34 : decode cX4_init 34 = .ok (.putfield 20, 3) := by decide +kernel
theorem dX4_init_37 : decode cX4_init 37 = .ok (.aload_n 0, 1) := by decide +kernel
theorem dX4_init_38 : decode cX4_init 38 = .ok (.sipush 1600, 3) := by decide +kernel
theorem dX4_init_41 : decode cX4_init 41 = .ok (.newarray .long, 2) := by decide +kernel
theorem dX4_init_43 : decode cX4_init 43 = .ok (.putfield 23, 3) := by decide +kernel
theorem dX4_init_46 : decode cX4_init 46 = .ok (.aload_n 0, 1) := by decide +kernel
theorem dX4_init_47 : decode cX4_init 47 = .ok (.sipush 1600, 3) := by decide +kernel
theorem dX4_init_50 : decode cX4_init 50 = .ok (.newarray .long, 2) := by decide +kernel
theorem dX4_init_52 : decode cX4_init 52 = .ok (.putfield 26, 3) := by decide +kernel
theorem dX4_init_55 : decode cX4_init 55 = .ok (.aload_n 0, 1) := by decide +kernel
theorem dX4_init_56 : decode cX4_init 56 = .ok (.sipush 1600, 3) := by decide +kernel
theorem dX4_init_59 : decode cX4_init 59 = .ok (.newarray .int, 2) := by decide +kernel
theorem dX4_init_61 : decode cX4_init 61 = .ok (.putfield 29, 3) := by decide +kernel
theorem dX4_init_64 : decode cX4_init 64 = .ok (.aload_n 0, 1) := by decide +kernel
theorem dX4_init_65 : decode cX4_init 65 = .ok (.sipush 1600, 3) := by decide +kernel
theorem dX4_init_68 : decode cX4_init 68 = .ok (.newarray .long, 2) := by decide +kernel
theorem dX4_init_70 : decode cX4_init 70 = .ok (.putfield 32, 3) := by decide +kernel
theorem dX4_init_73 : decode cX4_init 73 = .ok (.aload_n 0, 1) := by decide +kernel
theorem dX4_init_74 : decode cX4_init 74 = .ok (.sipush 128, 3) := by decide +kernel
theorem dX4_init_77 : decode cX4_init 77 = .ok (.newarray .int, 2) := by decide +kernel
theorem dX4_init_79 : decode cX4_init 79 = .ok (.putfield 35, 3) := by decide +kernel
theorem dX4_init_82 : decode cX4_init 82 = .ok (.aload_n 0, 1) := by decide +kernel
theorem dX4_init_83 : decode cX4_init 83 = .ok (.sipush 128, 3) := by decide +kernel
theorem dX4_init_86 : decode cX4_init 86 = .ok (.newarray .long, 2) := by decide +kernel
theorem dX4_init_88 : decode cX4_init 88 = .ok (.putfield 38, 3) := by decide +kernel
theorem dX4_init_91 : decode cX4_init 91 = .ok (.aload_n 0, 1) := by decide +kernel
theorem dX4_init_92 : decode cX4_init 92 = .ok (.sipush 128, 3) := by decide +kernel
theorem dX4_init_95 : decode cX4_init 95 = .ok (.newarray .long, 2) := by decide +kernel
theorem dX4_init_97 : decode cX4_init 97 = .ok (.putfield 41, 3) := by decide +kernel
theorem dX4_init_100 : decode cX4_init 100 = .ok (.aload_n 0, 1) := by decide +kernel
end
section
theorem dX4_init_101 : decode cX4_init 101 = .ok (.bipush 80, 2) := by decide +kernel
theorem dX4_init_103 : decode cX4_init 103 = .ok (.newarray .int, 2) := by decide +kernel
theorem dX4_init_105 : decode cX4_init 105 = .ok (.putfield 44, 3) := by decide +kernel
theorem dX4_init_108 : decode cX4_init 108 = .ok (.return_, 1) := by decide +kernel
theorem dX4_thrown_0 : decode cX4_thrown 0 = .ok (.aload_n 0, 1) := by decide +kernel
theorem dX4_thrown_1 : decode cX4_thrown 1 = .ok (.getfield 47, 3) := by decide +kernel
theorem dX4_thrown_4 : decode cX4_thrown 4 = .ok (.ireturn, 1) := by decide +kernel
theorem dX4_isMeter_0 : decode cX4_isMeter 0 = .ok (.iload_n 1, 1) := by decide +kernel
theorem dX4_isMeter_1 : decode cX4_isMeter 1 = .ok (.ifCond .lt 15, 3) := by decide +kernel
theorem dX4_isMeter_4 : decode cX4_isMeter 4 = .ok (.iload_n 1, 1) := by decide +kernel
theorem dX4_isMeter_5 : decode cX4_isMeter 5 = .ok (.aload_n 0, 1) := by decide +kernel
theorem dX4_isMeter_6 : decode cX4_isMeter 6 = .ok (.getfield 51, 3) := by decide +kernel
theorem dX4_isMeter_9 : decode cX4_isMeter 9 = .ok (.if_icmp .ge 7, 3) := by decide +kernel
theorem dX4_isMeter_12 : decode cX4_isMeter 12 = .ok (.iconst 1, 1) := by decide +kernel
theorem dX4_isMeter_13 : decode cX4_isMeter 13 = .ok (.goto 4, 3) := by decide +kernel
theorem dX4_isMeter_16 : decode cX4_isMeter 16 = .ok (.iconst 0, 1) := by decide +kernel
theorem dX4_isMeter_17 : decode cX4_isMeter 17 = .ok (.ireturn, 1) := by decide +kernel
set_option maxRecDepth 20000 in
theorem ggX4_isRow_X4_isMeter : GoodIn wsX4_isRow wsX4_isMeter := goodIn_r _ [6, 7, 8, 9, 10, 11, 12, 13, 14, 15, 16, 17, 18, 19, 20, 21, 22] (by decide +kernel) (by decide +kernel)
set_option maxRecDepth 20000 in
theorem gX4_isRow_X4_isMeter : GoodIn wsX4_isRow (wsV RX4 54 RX4 yX4_isMeter wsX4_isMeter) := goodIn_app (goodIn_of _ (by decide +kernel)) ggX4_isRow_X4_isMeter
theorem dX4_isRow_0 : decode cX4_isRow 0 = .ok (.aload_n 0, 1) := by decide +kernel
theorem dX4_isRow_1 : decode cX4_isRow 1 = .ok (.iload_n 1, 1) := by decide +kernel
theorem dX4_isRow_2 : decode cX4_isRow 2 = .ok (.invokevirtual 54, 3) := by decide +kernel
theorem dX4_isRow_5 : decode cX4_isRow 5 = .ok (.ifCond .eq 21, 3) := by decide +kernel
theorem dX4_isRow_8 : decode cX4_isRow 8 = .ok (.iload_n 2, 1) := by decide +kernel
theorem dX4_isRow_9 : decode cX4_isRow 9 = .ok (.ifCond .lt 17, 3) := by decide +kernel
theorem dX4_isRow_12 : decode cX4_isRow 12 = .ok (.iload_n 2, 1) := by decide +kernel
theorem dX4_isRow_13 : decode cX4_isRow 13 = .ok (.aload_n 0, 1) := by decide +kernel
theorem dX4_isRow_14 : decode cX4_isRow 14 = .ok (.getfield 13, 3) := by decide +kernel
theorem dX4_isRow_17 : decode cX4_isRow 17 = .ok (.iload_n 1, 1) := by decide +kernel
theorem dX4_isRow_18 : decode cX4_isRow 18 = .ok (.iaload, 1) := by decide +kernel
theorem dX4_isRow_19 : decode cX4_isRow 19 = .ok (.if_icmp .ge 7, 3) := by decide +kernel
theorem dX4_isRow_22 : decode cX4_isRow 22 = .ok (.iconst 1, 1) := by decide +kernel
theorem dX4_isRow_23 : decode cX4_isRow 23 = .ok (.goto 4, 3) := by decide +kernel
theorem dX4_isRow_26 : decode cX4_isRow 26 = .ok (.iconst 0, 1) := by decide +kernel
theorem dX4_isRow_27 : decode cX4_isRow 27 = .ok (.ireturn, 1) := by decide +kernel
theorem dX4_meter_0 : decode cX4_meter 0 = .ok (.aload_n 0, 1) := by decide +kernel
theorem dX4_meter_1 : decode cX4_meter 1 = .ok (.iconst 0, 1) := by decide +kernel
theorem dX4_meter_2 : decode cX4_meter 2 = .ok (.putfield 47, 3) := by decide +kernel
theorem dX4_meter_5 : decode cX4_meter 5 = .ok (.aload_n 0, 1) := by decide +kernel
theorem dX4_meter_6 : decode cX4_meter 6 = .ok (.getfield 51, 3) := by decide +kernel
theorem dX4_meter_9 : decode cX4_meter 9 = .ok (.bipush 8, 2) := by decide +kernel
theorem dX4_meter_11 : decode cX4_meter 11 = .ok (.if_icmp .ne 6, 3) := by decide +kernel
theorem dX4_meter_14 : decode cX4_meter 14 = .ok (.bipush (-2), 2) := by decide +kernel
theorem dX4_meter_16 : decode cX4_meter 16 = .ok (.ireturn, 1) := by decide +kernel
theorem dX4_meter_17 : decode cX4_meter 17 = .ok (.aload_n 0, 1) := by decide +kernel
theorem dX4_meter_18 : decode cX4_meter 18 = .ok (.getfield 9, 3) := by decide +kernel
theorem dX4_meter_21 : decode cX4_meter 21 = .ok (.aload_n 0, 1) := by decide +kernel
theorem dX4_meter_22 : decode cX4_meter 22 = .ok (.getfield 51, 3) := by decide +kernel
theorem dX4_meter_25 : decode cX4_meter 25 = .ok (.lload_n 1, 1) := by decide +kernel
theorem dX4_meter_26 : decode cX4_meter 26 = .ok (.lastore, 1) := by decide +kernel
theorem dX4_meter_27 : decode cX4_meter 27 = .ok (.aload_n 0, 1) := by decide +kernel
theorem dX4_meter_28 : decode cX4_meter 28 = .ok (.dup, 1) := by decide +kernel
theorem dX4_meter_29 : decode cX4_meter 29 = .ok (.getfield 51, 3) := by decide +kernel
theorem dX4_meter_32 : decode cX4_meter 32 = .ok (.iconst 1, 1) := by decide +kernel
theorem dX4_meter_33 : decode cX4_meter 33 = .ok (.iadd, 1) := by decide +kernel
theorem dX4_meter_34 : decode cX4_meter 34 = .ok (.putfield 51, 3) := by decide +kernel
theorem dX4_meter_37 : decode cX4_meter 37 = .ok (.aload_n 0, 1) := by decide +kernel
theorem dX4_meter_38 : decode cX4_meter 38 = .ok (.getfield 51, 3) := by decide +kernel
theorem dX4_meter_41 : decode cX4_meter 41 = .ok (.iconst 1, 1) := by decide +kernel
theorem dX4_meter_42 : decode cX4_meter 42 = .ok (.isub, 1) := by decide +kernel
theorem dX4_meter_43 : decode cX4_meter 43 = .ok (.ireturn, 1) := by decide +kernel
theorem dX4_mixed_0 : decode cX4_mixed 0 = .ok (.lload_n 0, 1) := by decide +kernel
theorem dX4_mixed_1 : decode cX4_mixed 1 = .ok (.lload_n 2, 1) := by decide +kernel
theorem dX4_mixed_2 : decode cX4_mixed 2 = .ok (.lxor, 1) := by decide +kernel
theorem dX4_mixed_3 : decode cX4_mixed 3 = .ok (.ldc2_w 58, 3) := by decide +kernel
theorem dX4_mixed_6 : decode cX4_mixed 6 = .ok (.lmul, 1) := by decide +kernel
theorem dX4_mixed_7 : decode cX4_mixed 7 = .ok (.lstore 4, 2) := by decide +kernel
theorem dX4_mixed_9 : decode cX4_mixed 9 = .ok (.lload 4, 2) := by decide +kernel
theorem dX4_mixed_11 : decode cX4_mixed 11 = .ok (.lload 4, 2) := by decide +kernel
theorem dX4_mixed_13 : decode cX4_mixed 13 = .ok (.bipush 29, 2) := by decide +kernel
theorem dX4_mixed_15 : decode cX4_mixed 15 = .ok (.lushr, 1) := by decide +kernel
theorem dX4_mixed_16 : decode cX4_mixed 16 = .ok (.lxor, 1) := by decide +kernel
theorem dX4_mixed_17 : decode cX4_mixed 17 = .ok (.lreturn, 1) := by decide +kernel
set_option maxRecDepth 20000 in
theorem ggX4_due_X4_mixed : GoodIn wsX4_due wsX4_mixed := goodIn_r _ [11, 12] (by decide +kernel) (by decide +kernel)
set_option maxRecDepth 20000 in
theorem gX4_due_X4_mixed : GoodIn wsX4_due (va_wsS RX4 62 yX4_mixed wsX4_mixed) := goodIn_app (goodIn_of _ (by decide +kernel)) ggX4_due_X4_mixed
theorem dX4_due_0 : decode cX4_due 0 = .ok (.iload_n 1, 1) := by decide +kernel
theorem dX4_due_1 : decode cX4_due 1 = .ok (.sipush 200, 3) := by decide +kernel
theorem dX4_due_4 : decode cX4_due 4 = .ok (.imul, 1) := by decide +kernel
theorem dX4_due_5 : decode cX4_due 5 = .ok (.iload_n 2, 1) := by decide +kernel
theorem dX4_due_6 : decode cX4_due 6 = .ok (.iadd, 1) := by decide +kernel
theorem dX4_due_7 : decode cX4_due 7 = .ok (.istore_n 3, 1) := by decide +kernel
theorem dX4_due_8 : decode cX4_due 8 = .ok (.ldc2_w 60, 3) := by decide +kernel
theorem dX4_due_11 : decode cX4_due 11 = .ok (.iload_n 2, 1) := by decide +kernel
theorem dX4_due_12 : decode cX4_due 12 = .ok (.ifCond .ne 12, 3) := by decide +kernel
theorem dX4_due_15 : decode cX4_due 15 = .ok (.aload_n 0, 1) := by decide +kernel
theorem dX4_due_16 : decode cX4_due 16 = .ok (.getfield 9, 3) := by decide +kernel
theorem dX4_due_19 : decode cX4_due 19 = .ok (.iload_n 1, 1) := by decide +kernel
theorem dX4_due_20 : decode cX4_due 20 = .ok (.laload, 1) := by decide +kernel
theorem dX4_due_21 : decode cX4_due 21 = .ok (.goto 11, 3) := by decide +kernel
theorem dX4_due_24 : decode cX4_due 24 = .ok (.aload_n 0, 1) := by decide +kernel
theorem dX4_due_25 : decode cX4_due 25 = .ok (.getfield 32, 3) := by decide +kernel
theorem dX4_due_28 : decode cX4_due 28 = .ok (.iload_n 3, 1) := by decide +kernel
theorem dX4_due_29 : decode cX4_due 29 = .ok (.iconst 1, 1) := by decide +kernel
theorem dX4_due_30 : decode cX4_due 30 = .ok (.isub, 1) := by decide +kernel
theorem dX4_due_31 : decode cX4_due 31 = .ok (.laload, 1) := by decide +kernel
theorem dX4_due_32 : decode cX4_due 32 = .ok (.lmul, 1) := by decide +kernel
theorem dX4_due_33 : decode cX4_due 33 = .ok (.aload_n 0, 1) := by decide +kernel
theorem dX4_due_34 : decode cX4_due 34 = .ok (.getfield 9, 3) := by decide +kernel
theorem dX4_due_37 : decode cX4_due 37 = .ok (.iload_n 1, 1) := by decide +kernel
theorem dX4_due_38 : decode cX4_due 38 = .ok (.laload, 1) := by decide +kernel
theorem dX4_due_39 : decode cX4_due 39 = .ok (.ladd, 1) := by decide +kernel
theorem dX4_due_40 : decode cX4_due 40 = .ok (.lstore 4, 2) := by decide +kernel
theorem dX4_due_42 : decode cX4_due 42 = .ok (.lload 4, 2) := by decide +kernel
theorem dX4_due_44 : decode cX4_due 44 = .ok (.aload_n 0, 1) := by decide +kernel
theorem dX4_due_45 : decode cX4_due 45 = .ok (.getfield 23, 3) := by decide +kernel
theorem dX4_due_48 : decode cX4_due 48 = .ok (.iload_n 3, 1) := by decide +kernel
theorem dX4_due_49 : decode cX4_due 49 = .ok (.laload, 1) := by decide +kernel
theorem dX4_due_50 : decode cX4_due 50 = .ok (.invokestatic 62, 3) := by decide +kernel
theorem dX4_due_53 : decode cX4_due 53 = .ok (.lstore 4, 2) := by decide +kernel
theorem dX4_due_55 : decode cX4_due 55 = .ok (.lload 4, 2) := by decide +kernel
theorem dX4_due_57 : decode cX4_due 57 = .ok (.aload_n 0, 1) := by decide +kernel
theorem dX4_due_58 : decode cX4_due 58 = .ok (.getfield 20, 3) := by decide +kernel
theorem dX4_due_61 : decode cX4_due 61 = .ok (.iload_n 3, 1) := by decide +kernel
theorem dX4_due_62 : decode cX4_due 62 = .ok (.iaload, 1) := by decide +kernel
theorem dX4_due_63 : decode cX4_due 63 = .ok (.ifCond .ne 12, 3) := by decide +kernel
theorem dX4_due_66 : decode cX4_due 66 = .ok (.aload_n 0, 1) := by decide +kernel
theorem dX4_due_67 : decode cX4_due 67 = .ok (.getfield 26, 3) := by decide +kernel
theorem dX4_due_70 : decode cX4_due 70 = .ok (.iload_n 3, 1) := by decide +kernel
theorem dX4_due_71 : decode cX4_due 71 = .ok (.laload, 1) := by decide +kernel
theorem dX4_due_72 : decode cX4_due 72 = .ok (.goto 11, 3) := by decide +kernel
theorem dX4_due_75 : decode cX4_due 75 = .ok (.aload_n 0, 1) := by decide +kernel
theorem dX4_due_76 : decode cX4_due 76 = .ok (.getfield 20, 3) := by decide +kernel
theorem dX4_due_79 : decode cX4_due 79 = .ok (.iload_n 3, 1) := by decide +kernel
theorem dX4_due_80 : decode cX4_due 80 = .ok (.iaload, 1) := by decide +kernel
theorem dX4_due_81 : decode cX4_due 81 = .ok (.ineg, 1) := by decide +kernel
theorem dX4_due_82 : decode cX4_due 82 = .ok (.i2l, 1) := by decide +kernel
theorem dX4_due_83 : decode cX4_due 83 = .ok (.invokestatic 62, 3) := by decide +kernel
theorem dX4_due_86 : decode cX4_due 86 = .ok (.lstore 4, 2) := by decide +kernel
theorem dX4_due_88 : decode cX4_due 88 = .ok (.lload 4, 2) := by decide +kernel
theorem dX4_due_90 : decode cX4_due 90 = .ok (.aload_n 0, 1) := by decide +kernel
theorem dX4_due_91 : decode cX4_due 91 = .ok (.getfield 20, 3) := by decide +kernel
theorem dX4_due_94 : decode cX4_due 94 = .ok (.iload_n 3, 1) := by decide +kernel
theorem dX4_due_95 : decode cX4_due 95 = .ok (.iaload, 1) := by decide +kernel
theorem dX4_due_96 : decode cX4_due 96 = .ok (.ifCond .ne 13, 3) := by decide +kernel
theorem dX4_due_99 : decode cX4_due 99 = .ok (.aload_n 0, 1) := by decide +kernel
theorem dX4_due_100 : decode cX4_due 100 = .ok (.getfield 29, 3) := by decide +kernel
theorem dX4_due_103 : decode cX4_due 103 = .ok (.iload_n 3, 1) := by decide +kernel
theorem dX4_due_104 : decode cX4_due 104 = .ok (.iaload, 1) := by decide +kernel
theorem dX4_due_105 : decode cX4_due 105 = .ok (.i2l, 1) := by decide +kernel
theorem dX4_due_106 : decode cX4_due 106 = .ok (.goto 4, 3) := by decide +kernel
theorem dX4_due_109 : decode cX4_due 109 = .ok (.lconst 0, 1) := by decide +kernel
theorem dX4_due_110 : decode cX4_due 110 = .ok (.invokestatic 62, 3) := by decide +kernel
theorem dX4_due_113 : decode cX4_due 113 = .ok (.lreturn, 1) := by decide +kernel
set_option maxRecDepth 20000 in
theorem ggX4_add_X4_due : GoodIn wsX4_add wsX4_due := goodIn_r _ [11, 12, 13, 6, 3, 2, 4, 5, 14, 15, 10, 16, 17, 18, 19, 20, 21, 22, 23, 24, 25, 26, 27, 28, 29, 30, 31, 32] (by decide +kernel) (by decide +kernel)
set_option maxRecDepth 20000 in
theorem gX4_add_X4_due : GoodIn wsX4_add (wsV RX4 66 RX4 yX4_due wsX4_due) := goodIn_app (goodIn_of _ (by decide +kernel)) ggX4_add_X4_due
theorem dX4_add_0 : decode cX4_add 0 = .ok (.iload_n 1, 1) := by decide +kernel
theorem dX4_add_1 : decode cX4_add 1 = .ok (.sipush 200, 3) := by decide +kernel
theorem dX4_add_4 : decode cX4_add 4 = .ok (.imul, 1) := by decide +kernel
theorem dX4_add_5 : decode cX4_add 5 = .ok (.aload_n 0, 1) := by decide +kernel
theorem dX4_add_6 : decode cX4_add 6 = .ok (.getfield 13, 3) := by decide +kernel
theorem dX4_add_9 : decode cX4_add 9 = .ok (.iload_n 1, 1) := by decide +kernel
theorem dX4_add_10 : decode cX4_add 10 = .ok (.iaload, 1) := by decide +kernel
theorem dX4_add_11 : decode cX4_add 11 = .ok (.iadd, 1) := by decide +kernel
theorem dX4_add_12 : decode cX4_add 12 = .ok (.istore 8, 2) := by decide +kernel
theorem dX4_add_14 : decode cX4_add 14 = .ok (.aload_n 0, 1) := by decide +kernel
theorem dX4_add_15 : decode cX4_add 15 = .ok (.getfield 20, 3) := by decide +kernel
theorem dX4_add_18 : decode cX4_add 18 = .ok (.iload 8, 2) := by decide +kernel
theorem dX4_add_20 : decode cX4_add 20 = .ok (.iload_n 2, 1) := by decide +kernel
theorem dX4_add_21 : decode cX4_add 21 = .ok (.iastore, 1) := by decide +kernel
theorem dX4_add_22 : decode cX4_add 22 = .ok (.aload_n 0, 1) := by decide +kernel
theorem dX4_add_23 : decode cX4_add 23 = .ok (.getfield 23, 3) := by decide +kernel
theorem dX4_add_26 : decode cX4_add 26 = .ok (.iload 8, 2) := by decide +kernel
theorem dX4_add_28 : decode cX4_add 28 = .ok (.lload_n 3, 1) := by decide +kernel
theorem dX4_add_29 : decode cX4_add 29 = .ok (.lastore, 1) := by decide +kernel
theorem dX4_add_30 : decode cX4_add 30 = .ok (.aload_n 0, 1) := by decide +kernel
theorem dX4_add_31 : decode cX4_add 31 = .ok (.getfield 26, 3) := by decide +kernel
theorem dX4_add_34 : decode cX4_add 34 = .ok (.iload 8, 2) := by decide +kernel
theorem dX4_add_36 : decode cX4_add 36 = .ok (.lload 5, 2) := by decide +kernel
theorem dX4_add_38 : decode cX4_add 38 = .ok (.lastore, 1) := by decide +kernel
theorem dX4_add_39 : decode cX4_add 39 = .ok (.aload_n 0, 1) := by decide +kernel
theorem dX4_add_40 : decode cX4_add 40 = .ok (.getfield 29, 3) := by decide +kernel
theorem dX4_add_43 : decode cX4_add 43 = .ok (.iload 8, 2) := by decide +kernel
theorem dX4_add_45 : decode cX4_add 45 = .ok (.iload 7, 2) := by decide +kernel
theorem dX4_add_47 : decode cX4_add 47 = .ok (.iastore, 1) := by decide +kernel
theorem dX4_add_48 : decode cX4_add 48 = .ok (.aload_n 0, 1) := by decide +kernel
theorem dX4_add_49 : decode cX4_add 49 = .ok (.getfield 13, 3) := by decide +kernel
theorem dX4_add_52 : decode cX4_add 52 = .ok (.iload_n 1, 1) := by decide +kernel
theorem dX4_add_53 : decode cX4_add 53 = .ok (.dup2, 1) := by decide +kernel
theorem dX4_add_54 : decode cX4_add 54 = .ok (.iaload, 1) := by decide +kernel
theorem dX4_add_55 : decode cX4_add 55 = .ok (.iconst 1, 1) := by decide +kernel
theorem dX4_add_56 : decode cX4_add 56 = .ok (.iadd, 1) := by decide +kernel
theorem dX4_add_57 : decode cX4_add 57 = .ok (.iastore, 1) := by decide +kernel
theorem dX4_add_58 : decode cX4_add 58 = .ok (.aload_n 0, 1) := by decide +kernel
theorem dX4_add_59 : decode cX4_add 59 = .ok (.getfield 32, 3) := by decide +kernel
theorem dX4_add_62 : decode cX4_add 62 = .ok (.iload 8, 2) := by decide +kernel
theorem dX4_add_64 : decode cX4_add 64 = .ok (.aload_n 0, 1) := by decide +kernel
theorem dX4_add_65 : decode cX4_add 65 = .ok (.iload_n 1, 1) := by decide +kernel
theorem dX4_add_66 : decode cX4_add 66 = .ok (.aload_n 0, 1) := by decide +kernel
theorem dX4_add_67 : decode cX4_add 67 = .ok (.getfield 13, 3) := by decide +kernel
theorem dX4_add_70 : decode cX4_add 70 = .ok (.iload_n 1, 1) := by decide +kernel
theorem dX4_add_71 : decode cX4_add 71 = .ok (.iaload, 1) := by decide +kernel
theorem dX4_add_72 : decode cX4_add 72 = .ok (.iconst 1, 1) := by decide +kernel
theorem dX4_add_73 : decode cX4_add 73 = .ok (.isub, 1) := by decide +kernel
theorem dX4_add_74 : decode cX4_add 74 = .ok (.invokevirtual 66, 3) := by decide +kernel
theorem dX4_add_77 : decode cX4_add 77 = .ok (.lastore, 1) := by decide +kernel
theorem dX4_add_78 : decode cX4_add 78 = .ok (.return_, 1) := by decide +kernel
set_option maxRecDepth 20000 in
theorem ggX4_pulses_X4_isMeter : GoodIn wsX4_pulses wsX4_isMeter := goodIn_r _ [12, 13, 31, 32, 33, 34, 35, 36, 37, 38, 39, 40, 41, 42, 43, 44, 45] (by decide +kernel) (by decide +kernel)
set_option maxRecDepth 20000 in
theorem gX4_pulses_X4_isMeter : GoodIn wsX4_pulses (wsV RX4 54 RX4 yX4_isMeter wsX4_isMeter) := goodIn_app (goodIn_of _ (by decide +kernel)) ggX4_pulses_X4_isMeter
set_option maxRecDepth 20000 in
theorem ggX4_pulses_X4_add : GoodIn wsX4_pulses wsX4_add := goodIn_r _ [17, 5, 6, 18, 7, 19, 20, 21, 22, 23, 11, 24, 25, 26, 27, 28, 29, 30, 31, 32, 33, 34, 35, 36, 37, 38, 39, 40, 41, 42, 43, 44, 45] (by decide +kernel) (by decide +kernel)
set_option maxRecDepth 20000 in
theorem gX4_pulses_X4_add : GoodIn wsX4_pulses (wsV RX4 74 RX4 yX4_add wsX4_add) := goodIn_app (goodIn_of _ (by decide +kernel)) ggX4_pulses_X4_add
theorem dX4_pulses_0 : decode cX4_pulses 0 = .ok (.aload_n 0, 1) := by decide +kernel
theorem dX4_pulses_1 : decode cX4_pulses 1 = .ok (.iconst 0, 1) := by decide +kernel
theorem dX4_pulses_2 : decode cX4_pulses 2 = .ok (.putfield 47, 3) := by decide +kernel
theorem dX4_pulses_5 : decode cX4_pulses 5 = .ok (.aload_n 0, 1) := by decide +kernel
theorem dX4_pulses_6 : decode cX4_pulses 6 = .ok (.iload_n 1, 1) := by decide +kernel
theorem dX4_pulses_7 : decode cX4_pulses 7 = .ok (.invokevirtual 54, 3) := by decide +kernel
theorem dX4_pulses_10 : decode cX4_pulses 10 = .ok (.ifCond .eq 73, 3) := by decide +kernel
theorem dX4_pulses_13 : decode cX4_pulses 13 = .ok (.aload_n 0, 1) := by decide +kernel
theorem dX4_pulses_14 : decode cX4_pulses 14 = .ok (.getfield 17, 3) := by decide +kernel
theorem dX4_pulses_17 : decode cX4_pulses 17 = .ok (.iload_n 1, 1) := by decide +kernel
theorem dX4_pulses_18 : decode cX4_pulses 18 = .ok (.iaload, 1) := by decide +kernel
theorem dX4_pulses_19 : decode cX4_pulses 19 = .ok (.ifCond .le 64, 3) := by decide +kernel
theorem dX4_pulses_22 : decode cX4_pulses 22 = .ok (.lload_n 2, 1) := by decide +kernel
theorem dX4_pulses_23 : decode cX4_pulses 23 = .ok (.lconst 0, 1) := by decide +kernel
theorem dX4_pulses_24 : decode cX4_pulses 24 = .ok (.lcmp, 1) := by decide +kernel
theorem dX4_pulses_25 : decode cX4_pulses 25 = .ok (.ifCond .lt 58, 3) := by decide +kernel
theorem dX4_pulses_28 : decode cX4_pulses 28 = .ok (.lload_n 2, 1) := by decide +kernel
theorem dX4_pulses_29 : decode cX4_pulses 29 = .ok (.ldc2_w 70, 3) := by decide +kernel
theorem dX4_pulses_32 : decode cX4_pulses 32 = .ok (.lcmp, 1) := by decide +kernel
theorem dX4_pulses_33 : decode cX4_pulses 33 = .ok (.ifCond .gt 50, 3) := by decide +kernel
theorem dX4_pulses_36 : decode cX4_pulses 36 = .ok (.lload 4, 2) := by decide +kernel
theorem dX4_pulses_38 : decode cX4_pulses 38 = .ok (.lconst 0, 1) := by decide +kernel
theorem dX4_pulses_39 : decode cX4_pulses 39 = .ok (.lcmp, 1) := by decide +kernel
theorem dX4_pulses_40 : decode cX4_pulses 40 = .ok (.ifCond .lt 43, 3) := by decide +kernel
theorem dX4_pulses_43 : decode cX4_pulses 43 = .ok (.lload 4, 2) := by decide +kernel
theorem dX4_pulses_45 : decode cX4_pulses 45 = .ok (.ldc2_w 72, 3) := by decide +kernel
theorem dX4_pulses_48 : decode cX4_pulses 48 = .ok (.lcmp, 1) := by decide +kernel
theorem dX4_pulses_49 : decode cX4_pulses 49 = .ok (.ifCond .gt 34, 3) := by decide +kernel
theorem dX4_pulses_52 : decode cX4_pulses 52 = .ok (.iload 6, 2) := by decide +kernel
theorem dX4_pulses_54 : decode cX4_pulses 54 = .ok (.bipush (-50), 2) := by decide +kernel
theorem dX4_pulses_56 : decode cX4_pulses 56 = .ok (.if_icmp .lt 27, 3) := by decide +kernel
theorem dX4_pulses_59 : decode cX4_pulses 59 = .ok (.iload 6, 2) := by decide +kernel
theorem dX4_pulses_61 : decode cX4_pulses 61 = .ok (.sipush 150, 3) := by decide +kernel
theorem dX4_pulses_64 : decode cX4_pulses 64 = .ok (.if_icmp .gt 19, 3) := by decide +kernel
theorem dX4_pulses_67 : decode cX4_pulses 67 = .ok (.aload_n 0, 1) := by decide +kernel
theorem dX4_pulses_68 : decode cX4_pulses 68 = .ok (.getfield 13, 3) := by decide +kernel
theorem dX4_pulses_71 : decode cX4_pulses 71 = .ok (.iload_n 1, 1) := by decide +kernel
theorem dX4_pulses_72 : decode cX4_pulses 72 = .ok (.iaload, 1) := by decide +kernel
theorem dX4_pulses_73 : decode cX4_pulses 73 = .ok (.sipush 200, 3) := by decide +kernel
theorem dX4_pulses_76 : decode cX4_pulses 76 = .ok (.if_icmp .ge 7, 3) := by decide +kernel
theorem dX4_pulses_79 : decode cX4_pulses 79 = .ok (.iconst 1, 1) := by decide +kernel
theorem dX4_pulses_80 : decode cX4_pulses 80 = .ok (.goto 4, 3) := by decide +kernel
theorem dX4_pulses_83 : decode cX4_pulses 83 = .ok (.iconst 0, 1) := by decide +kernel
theorem dX4_pulses_84 : decode cX4_pulses 84 = .ok (.istore 7, 2) := by decide +kernel
theorem dX4_pulses_86 : decode cX4_pulses 86 = .ok (.iconst 0, 1) := by decide +kernel
theorem dX4_pulses_87 : decode cX4_pulses 87 = .ok (.istore 8, 2) := by decide +kernel
theorem dX4_pulses_89 : decode cX4_pulses 89 = .ok (.iload 7, 2) := by decide +kernel
theorem dX4_pulses_91 : decode cX4_pulses 91 = .ok (.ifCond .eq 62, 3) := by decide +kernel
theorem dX4_pulses_94 : decode cX4_pulses 94 = .ok (.iload 8, 2) := by decide +kernel
theorem dX4_pulses_96 : decode cX4_pulses 96 = .ok (.aload_n 0, 1) := by decide +kernel
theorem dX4_pulses_97 : decode cX4_pulses 97 = .ok (.getfield 13, 3) := by decide +kernel
theorem dX4_pulses_100 : decode cX4_pulses 100 = .ok (.iload_n 1, 1) := by decide +kernel
theorem dX4_pulses_101 : decode cX4_pulses 101 = .ok (.iaload, 1) := by decide +kernel
theorem dX4_pulses_102 : decode cX4_pulses 102 = .ok (.if_icmp .ge 51, 3) := by decide +kernel
theorem dX4_pulses_105 : decode cX4_pulses 105 = .ok (.aload_n 0, 1) := by decide +kernel
theorem dX4_pulses_106 : decode cX4_pulses 106 = .ok (.getfield 20, 3) := by decide +kernel
theorem dX4_pulses_109 : decode cX4_pulses 109 = .ok (.iload_n 1, 1) := by decide +kernel
theorem dX4_pulses_110 : decode cX4_pulses 110 = .ok (.sipush 200, 3) := by decide +kernel
theorem dX4_pulses_113 : decode cX4_pulses 113 = .ok (.imul, 1) := by decide +kernel
theorem dX4_pulses_114 : decode cX4_pulses 114 = .ok (.iload 8, 2) := by decide +kernel
theorem dX4_pulses_116 : decode cX4_pulses 116 = .ok (.iadd, 1) := by decide +kernel
theorem dX4_pulses_117 : decode cX4_pulses 117 = .ok (.iaload, 1) := by decide +kernel
theorem dX4_pulses_118 : decode cX4_pulses 118 = .ok (.ifCond .ne 22, 3) := by decide +kernel
theorem dX4_pulses_121 : decode cX4_pulses 121 = .ok (.aload_n 0, 1) := by decide +kernel
theorem dX4_pulses_122 : decode cX4_pulses 122 = .ok (.getfield 26, 3) := by decide +kernel
theorem dX4_pulses_125 : decode cX4_pulses 125 = .ok (.iload_n 1, 1) := by decide +kernel
theorem dX4_pulses_126 : decode cX4_pulses 126 = .ok (.sipush 200, 3) := by decide +kernel
theorem dX4_pulses_129 : decode cX4_pulses 129 = .ok (.imul, 1) := by decide +kernel
theorem dX4_pulses_130 : decode cX4_pulses 130 = .ok (.iload 8, 2) := by decide +kernel
theorem dX4_pulses_132 : decode cX4_pulses 132 = .ok (.iadd, 1) := by decide +kernel
theorem dX4_pulses_133 : decode cX4_pulses 133 = .ok (.laload, 1) := by decide +kernel
theorem dX4_pulses_134 : decode cX4_pulses 134 = .ok (.lload 4, 2) := by decide +kernel
theorem dX4_pulses_136 : decode cX4_pulses 136 = .ok (.lcmp, 1) := by decide +kernel
theorem dX4_pulses_137 : decode cX4_pulses 137 = .ok (.ifCond .gt 7, 3) := by decide +kernel
theorem dX4_pulses_140 : decode cX4_pulses 140 = .ok (.iconst 1, 1) := by decide +kernel
theorem dX4_pulses_141 : decode cX4_pulses 141 = .ok (.goto 4, 3) := by decide +kernel
theorem dX4_pulses_144 : decode cX4_pulses 144 = .ok (.iconst 0, 1) := by decide +kernel
theorem dX4_pulses_145 : decode cX4_pulses 145 = .ok (.istore 7, 2) := by decide +kernel
theorem dX4_pulses_147 : decode cX4_pulses 147 = .ok (.iinc 8 1, 3) := by decide +kernel
theorem dX4_pulses_150 : decode cX4_pulses 150 = .ok (.goto (-61), 3) := by decide +kernel
theorem dX4_pulses_153 : decode cX4_pulses 153 = .ok (.iload 7, 2) := by decide +kernel
theorem dX4_pulses_155 : decode cX4_pulses 155 = .ok (.ifCond .eq 14, 3) := by decide +kernel
theorem dX4_pulses_158 : decode cX4_pulses 158 = .ok (.aload_n 0, 1) := by decide +kernel
theorem dX4_pulses_159 : decode cX4_pulses 159 = .ok (.iload_n 1, 1) := by decide +kernel
theorem dX4_pulses_160 : decode cX4_pulses 160 = .ok (.iconst 0, 1) := by decide +kernel
theorem dX4_pulses_161 : decode cX4_pulses 161 = .ok (.lload_n 2, 1) := by decide +kernel
theorem dX4_pulses_162 : decode cX4_pulses 162 = .ok (.lload 4, 2) := by decide +kernel
theorem dX4_pulses_164 : decode cX4_pulses 164 = .ok (.iload 6, 2) := by decide +kernel
theorem dX4_pulses_166 : decode cX4_pulses 166 = .ok (.invokevirtual 74, 3) := by decide +kernel
theorem dX4_pulses_169 : decode cX4_pulses 169 = .ok (.iload 7, 2) := by decide +kernel
theorem dX4_pulses_171 : decode cX4_pulses 171 = .ok (.ireturn, 1) := by decide +kernel
set_option maxRecDepth 20000 in
theorem ggX4_reset_X4_isMeter : GoodIn wsX4_reset wsX4_isMeter := goodIn_r _ [8, 9, 29, 30, 31, 32, 33, 34, 35, 36, 37, 38, 39, 40, 41, 42, 43] (by decide +kernel) (by decide +kernel)
set_option maxRecDepth 20000 in
theorem gX4_reset_X4_isMeter : GoodIn wsX4_reset (wsV RX4 54 RX4 yX4_isMeter wsX4_isMeter) := goodIn_app (goodIn_of _ (by decide +kernel)) ggX4_reset_X4_isMeter
set_option maxRecDepth 20000 in
theorem ggX4_reset_X4_add : GoodIn wsX4_reset wsX4_add := goodIn_r _ [13, 3, 14, 15, 16, 17, 18, 19, 20, 21, 7, 22, 23, 24, 25, 26, 27, 28, 29, 30, 31, 32, 33, 34, 35, 36, 37, 38, 39, 40, 41, 42, 43] (by decide +kernel) (by decide +kernel)
set_option maxRecDepth 20000 in
theorem gX4_reset_X4_add : GoodIn wsX4_reset (wsV RX4 74 RX4 yX4_add wsX4_add) := goodIn_app (goodIn_of _ (by decide +kernel)) ggX4_reset_X4_add
theorem dX4_reset_0 : decode cX4_reset 0 = .ok (.aload_n 0, 1) := by decide +kernel
theorem dX4_reset_1 : decode cX4_reset 1 = .ok (.iconst 0, 1) := by decide +kernel
theorem dX4_reset_2 : decode cX4_reset 2 = .ok (.putfield 47, 3) := by decide +kernel
theorem dX4_reset_5 : decode cX4_reset 5 = .ok (.aload_n 0, 1) := by decide +kernel
theorem dX4_reset_6 : decode cX4_reset 6 = .ok (.iload_n 1, 1) := by decide +kernel
theorem dX4_reset_7 : decode cX4_reset 7 = .ok (.invokevirtual 54, 3) := by decide +kernel
theorem dX4_reset_10 : decode cX4_reset 10 = .ok (.ifCond .eq 33, 3) := by decide +kernel
theorem dX4_reset_13 : decode cX4_reset 13 = .ok (.lload_n 2, 1) := by decide +kernel
theorem dX4_reset_14 : decode cX4_reset 14 = .ok (.lconst 0, 1) := by decide +kernel
theorem dX4_reset_15 : decode cX4_reset 15 = .ok (.lcmp, 1) := by decide +kernel
theorem dX4_reset_16 : decode cX4_reset 16 = .ok (.ifCond .lt 27, 3) := by decide +kernel
theorem dX4_reset_19 : decode cX4_reset 19 = .ok (.lload_n 2, 1) := by decide +kernel
theorem dX4_reset_20 : decode cX4_reset 20 = .ok (.ldc2_w 72, 3) := by decide +kernel
theorem dX4_reset_23 : decode cX4_reset 23 = .ok (.lcmp, 1) := by decide +kernel
theorem dX4_reset_24 : decode cX4_reset 24 = .ok (.ifCond .gt 19, 3) := by decide +kernel
theorem dX4_reset_27 : decode cX4_reset 27 = .ok (.aload_n 0, 1) := by decide +kernel
theorem dX4_reset_28 : decode cX4_reset 28 = .ok (.getfield 13, 3) := by decide +kernel
theorem dX4_reset_31 : decode cX4_reset 31 = .ok (.iload_n 1, 1) := by decide +kernel
theorem dX4_reset_32 : decode cX4_reset 32 = .ok (.iaload, 1) := by decide +kernel
theorem dX4_reset_33 : decode cX4_reset 33 = .ok (.sipush 200, 3) := by decide +kernel
theorem dX4_reset_36 : decode cX4_reset 36 = .ok (.if_icmp .ge 7, 3) := by decide +kernel
theorem dX4_reset_39 : decode cX4_reset 39 = .ok (.iconst 1, 1) := by decide +kernel
theorem dX4_reset_40 : decode cX4_reset 40 = .ok (.goto 4, 3) := by decide +kernel
theorem dX4_reset_43 : decode cX4_reset 43 = .ok (.iconst 0, 1) := by decide +kernel
theorem dX4_reset_44 : decode cX4_reset 44 = .ok (.istore 4, 2) := by decide +kernel
theorem dX4_reset_46 : decode cX4_reset 46 = .ok (.iload 4, 2) := by decide +kernel
theorem dX4_reset_48 : decode cX4_reset 48 = .ok (.ifCond .eq 12, 3) := by decide +kernel
theorem dX4_reset_51 : decode cX4_reset 51 = .ok (.aload_n 0, 1) := by decide +kernel
theorem dX4_reset_52 : decode cX4_reset 52 = .ok (.iload_n 1, 1) := by decide +kernel
theorem dX4_reset_53 : decode cX4_reset 53 = .ok (.iconst 1, 1) := by decide +kernel
theorem dX4_reset_54 : decode cX4_reset 54 = .ok (.lload_n 2, 1) := by decide +kernel
theorem dX4_reset_55 : decode cX4_reset 55 = .ok (.lconst 0, 1) := by decide +kernel
theorem dX4_reset_56 : decode cX4_reset 56 = .ok (.iconst 0, 1) := by decide +kernel
theorem dX4_reset_57 : decode cX4_reset 57 = .ok (.invokevirtual 74, 3) := by decide +kernel
theorem dX4_reset_60 : decode cX4_reset 60 = .ok (.iload 4, 2) := by decide +kernel
theorem dX4_reset_62 : decode cX4_reset 62 = .ok (.ireturn, 1) := by decide +kernel
theorem dX4_isSet_0 : decode cX4_isSet 0 = .ok (.iconst 1, 1) := by decide +kernel
theorem dX4_isSet_1 : decode cX4_isSet 1 = .ok (.istore_n 3, 1) := by decide +kernel
theorem dX4_isSet_2 : decode cX4_isSet 2 = .ok (.iconst 0, 1) := by decide +kernel
theorem dX4_isSet_3 : decode cX4_isSet 3 = .ok (.istore 4, 2) := by decide +kernel
theorem dX4_isSet_5 : decode cX4_isSet 5 = .ok (.iload 4, 2) := by decide +kernel
theorem dX4_isSet_7 : decode cX4_isSet 7 = .ok (.iload_n 2, 1) := by decide +kernel
theorem dX4_isSet_8 : decode cX4_isSet 8 = .ok (.if_icmp .ge 50, 3) := by decide +kernel
theorem dX4_isSet_11 : decode cX4_isSet 11 = .ok (.aload_n 0, 1) := by decide +kernel
theorem dX4_isSet_12 : decode cX4_isSet 12 = .ok (.getfield 20, 3) := by decide +kernel
theorem dX4_isSet_15 : decode cX4_isSet 15 = .ok (.iload_n 1, 1) := by decide +kernel
theorem dX4_isSet_16 : decode cX4_isSet 16 = .ok (.sipush 200, 3) := by decide +kernel
theorem dX4_isSet_19 : decode cX4_isSet 19 = .ok (.imul, 1) := by decide +kernel
theorem dX4_isSet_20 : decode cX4_isSet 20 = .ok (.iload 4, 2) := by decide +kernel
theorem dX4_isSet_22 : decode cX4_isSet 22 = .ok (.iadd, 1) := by decide +kernel
theorem dX4_isSet_23 : decode cX4_isSet 23 = .ok (.iaload, 1) := by decide +kernel
theorem dX4_isSet_24 : decode cX4_isSet 24 = .ok (.istore 5, 2) := by decide +kernel
theorem dX4_isSet_26 : decode cX4_isSet 26 = .ok (.iload 5, 2) := by decide +kernel
theorem dX4_isSet_28 : decode cX4_isSet 28 = .ok (.iconst 2, 1) := by decide +kernel
theorem dX4_isSet_29 : decode cX4_isSet 29 = .ok (.if_icmp .ne 7, 3) := by decide +kernel
theorem dX4_isSet_32 : decode cX4_isSet 32 = .ok (.iconst 0, 1) := by decide +kernel
theorem dX4_isSet_33 : decode cX4_isSet 33 = .ok (.goto 18, 3) := by decide +kernel
theorem dX4_isSet_36 : decode cX4_isSet 36 = .ok (.iload 5, 2) := by decide +kernel
theorem dX4_isSet_38 : decode cX4_isSet 38 = .ok (.iconst 3, 1) := by decide +kernel
theorem dX4_isSet_39 : decode cX4_isSet 39 = .ok (.if_icmp .eq 7, 3) := by decide +kernel
theorem dX4_isSet_42 : decode cX4_isSet 42 = .ok (.iload_n 3, 1) := by decide +kernel
theorem dX4_isSet_43 : decode cX4_isSet 43 = .ok (.ifCond .eq 7, 3) := by decide +kernel
theorem dX4_isSet_46 : decode cX4_isSet 46 = .ok (.iconst 1, 1) := by decide +kernel
theorem dX4_isSet_47 : decode cX4_isSet 47 = .ok (.goto 4, 3) := by decide +kernel
theorem dX4_isSet_50 : decode cX4_isSet 50 = .ok (.iconst 0, 1) := by decide +kernel
theorem dX4_isSet_51 : decode cX4_isSet 51 = .ok (.istore_n 3, 1) := by decide +kernel
theorem dX4_isSet_52 : decode cX4_isSet 52 = .ok (.iinc 4 1, 3) := by decide +kernel
theorem dX4_isSet_55 : decode cX4_isSet 55 = .ok (.goto (-50), 3) := by decide +kernel
theorem dX4_isSet_58 : decode cX4_isSet 58 = .ok (.iload_n 3, 1) := by decide +kernel
theorem dX4_isSet_59 : decode cX4_isSet 59 = .ok (.ireturn, 1) := by decide +kernel
set_option maxRecDepth 20000 in
theorem ggX4_seal_X4_isMeter : GoodIn wsX4_seal wsX4_isMeter := goodIn_r _ [7, 8, 32, 33, 34, 35, 36, 37, 38, 39, 40, 41, 42, 43, 44, 45, 46] (by decide +kernel) (by decide +kernel)
set_option maxRecDepth 20000 in
theorem gX4_seal_X4_isMeter : GoodIn wsX4_seal (wsV RX4 54 RX4 yX4_isMeter wsX4_isMeter) := goodIn_app (goodIn_of _ (by decide +kernel)) ggX4_seal_X4_isMeter
set_option maxRecDepth 20000 in
theorem ggX4_seal_X4_isSet : GoodIn wsX4_seal wsX4_isSet := goodIn_r _ [12, 13, 32, 33, 34, 35, 36, 37, 38, 39, 40, 41, 42, 43, 44, 45, 46] (by decide +kernel) (by decide +kernel)
set_option maxRecDepth 20000 in
theorem gX4_seal_X4_isSet : GoodIn wsX4_seal (wsV RX4 78 RX4 yX4_isSet wsX4_isSet) := goodIn_app (goodIn_of _ (by decide +kernel)) ggX4_seal_X4_isSet
set_option maxRecDepth 20000 in
theorem ggX4_seal_X4_add : GoodIn wsX4_seal wsX4_add := goodIn_r _ [17, 2, 13, 18, 19, 20, 21, 22, 23, 24, 6, 25, 26, 27, 28, 29, 30, 31, 32, 33, 34, 35, 36, 37, 38, 39, 40, 41, 42, 43, 44, 45, 46] (by decide +kernel) (by decide +kernel)
set_option maxRecDepth 20000 in
theorem gX4_seal_X4_add : GoodIn wsX4_seal (wsV RX4 74 RX4 yX4_add wsX4_add) := goodIn_app (goodIn_of _ (by decide +kernel)) ggX4_seal_X4_add
theorem dX4_seal_0 : decode cX4_seal 0 = .ok (.aload_n 0, 1) := by decide +kernel
theorem dX4_seal_1 : decode cX4_seal 1 = .ok (.iconst 0, 1) := by decide +kernel
theorem dX4_seal_2 : decode cX4_seal 2 = .ok (.putfield 47, 3) := by decide +kernel
theorem dX4_seal_5 : decode cX4_seal 5 = .ok (.aload_n 0, 1) := by decide +kernel
theorem dX4_seal_6 : decode cX4_seal 6 = .ok (.iload_n 1, 1) := by decide +kernel
theorem dX4_seal_7 : decode cX4_seal 7 = .ok (.invokevirtual 54, 3) := by decide +kernel
theorem dX4_seal_10 : decode cX4_seal 10 = .ok (.ifCond .eq 46, 3) := by decide +kernel
theorem dX4_seal_13 : decode cX4_seal 13 = .ok (.iload_n 2, 1) := by decide +kernel
theorem dX4_seal_14 : decode cX4_seal 14 = .ok (.iconst 1, 1) := by decide +kernel
theorem dX4_seal_15 : decode cX4_seal 15 = .ok (.if_icmp .lt 41, 3) := by decide +kernel
theorem dX4_seal_18 : decode cX4_seal 18 = .ok (.iload_n 2, 1) := by decide +kernel
theorem dX4_seal_19 : decode cX4_seal 19 = .ok (.sipush 999, 3) := by decide +kernel
theorem dX4_seal_22 : decode cX4_seal 22 = .ok (.if_icmp .gt 34, 3) := by decide +kernel
theorem dX4_seal_25 : decode cX4_seal 25 = .ok (.aload_n 0, 1) := by decide +kernel
theorem dX4_seal_26 : decode cX4_seal 26 = .ok (.getfield 13, 3) := by decide +kernel
theorem dX4_seal_29 : decode cX4_seal 29 = .ok (.iload_n 1, 1) := by decide +kernel
theorem dX4_seal_30 : decode cX4_seal 30 = .ok (.iaload, 1) := by decide +kernel
theorem dX4_seal_31 : decode cX4_seal 31 = .ok (.sipush 200, 3) := by decide +kernel
theorem dX4_seal_34 : decode cX4_seal 34 = .ok (.if_icmp .ge 22, 3) := by decide +kernel
theorem dX4_seal_37 : decode cX4_seal 37 = .ok (.aload_n 0, 1) := by decide +kernel
theorem dX4_seal_38 : decode cX4_seal 38 = .ok (.iload_n 1, 1) := by decide +kernel
theorem dX4_seal_39 : decode cX4_seal 39 = .ok (.aload_n 0, 1) := by decide +kernel
theorem dX4_seal_40 : decode cX4_seal 40 = .ok (.getfield 13, 3) := by decide +kernel
theorem dX4_seal_43 : decode cX4_seal 43 = .ok (.iload_n 1, 1) := by decide +kernel
theorem dX4_seal_44 : decode cX4_seal 44 = .ok (.iaload, 1) := by decide +kernel
theorem dX4_seal_45 : decode cX4_seal 45 = .ok (.invokevirtual 78, 3) := by decide +kernel
theorem dX4_seal_48 : decode cX4_seal 48 = .ok (.iload_n 3, 1) := by decide +kernel
theorem dX4_seal_49 : decode cX4_seal 49 = .ok (.if_icmp .eq 7, 3) := by decide +kernel
theorem dX4_seal_52 : decode cX4_seal 52 = .ok (.iconst 1, 1) := by decide +kernel
theorem dX4_seal_53 : decode cX4_seal 53 = .ok (.goto 4, 3) := by decide +kernel
theorem dX4_seal_56 : decode cX4_seal 56 = .ok (.iconst 0, 1) := by decide +kernel
theorem dX4_seal_57 : decode cX4_seal 57 = .ok (.istore 4, 2) := by decide +kernel
theorem dX4_seal_59 : decode cX4_seal 59 = .ok (.iload 4, 2) := by decide +kernel
theorem dX4_seal_61 : decode cX4_seal 61 = .ok (.ifCond .eq 21, 3) := by decide +kernel
theorem dX4_seal_64 : decode cX4_seal 64 = .ok (.aload_n 0, 1) := by decide +kernel
theorem dX4_seal_65 : decode cX4_seal 65 = .ok (.iload_n 1, 1) := by decide +kernel
theorem dX4_seal_66 : decode cX4_seal 66 = .ok (.iload_n 3, 1) := by decide +kernel
theorem dX4_seal_67 : decode cX4_seal 67 = .ok (.ifCond .eq 7, 3) := by decide +kernel
theorem dX4_seal_70 : decode cX4_seal 70 = .ok (.iconst 3, 1) := by decide +kernel
theorem dX4_seal_71 : decode cX4_seal 71 = .ok (.goto 4, 3) := by decide +kernel
theorem dX4_seal_74 : decode cX4_seal 74 = .ok (.iconst 2, 1) := by decide +kernel
theorem dX4_seal_75 : decode cX4_seal 75 = .ok (.iload_n 2, 1) := by decide +kernel
theorem dX4_seal_76 : decode cX4_seal 76 = .ok (.i2l, 1) := by decide +kernel
theorem dX4_seal_77 : decode cX4_seal 77 = .ok (.lconst 0, 1) := by decide +kernel
theorem dX4_seal_78 : decode cX4_seal 78 = .ok (.iconst 0, 1) := by decide +kernel
theorem dX4_seal_79 : decode cX4_seal 79 = .ok (.invokevirtual 74, 3) := by decide +kernel
theorem dX4_seal_82 : decode cX4_seal 82 = .ok (.iload 4, 2) := by decide +kernel
theorem dX4_seal_84 : decode cX4_seal 84 = .ok (.ireturn, 1) := by decide +kernel
set_option maxRecDepth 20000 in
theorem ggX4_row_X4_isMeter : GoodIn wsX4_row wsX4_isMeter := goodIn_r _ [11, 12, 13, 14, 15, 16, 17, 18, 19, 20, 21, 22, 23, 24, 25, 26, 27] (by decide +kernel) (by decide +kernel)
set_option maxRecDepth 20000 in
theorem gX4_row_X4_isMeter : GoodIn wsX4_row (wsV RX4 54 RX4 yX4_isMeter wsX4_isMeter) := goodIn_app (goodIn_of _ (by decide +kernel)) ggX4_row_X4_isMeter
theorem dX4_row_0 : decode cX4_row 0 = .ok (.aload_n 0, 1) := by decide +kernel
theorem dX4_row_1 : decode cX4_row 1 = .ok (.iconst 0, 1) := by decide +kernel
theorem dX4_row_2 : decode cX4_row 2 = .ok (.putfield 47, 3) := by decide +kernel
theorem dX4_row_5 : decode cX4_row 5 = .ok (.aload_n 0, 1) := by decide +kernel
theorem dX4_row_6 : decode cX4_row 6 = .ok (.iload_n 1, 1) := by decide +kernel
theorem dX4_row_7 : decode cX4_row 7 = .ok (.invokevirtual 54, 3) := by decide +kernel
theorem dX4_row_10 : decode cX4_row 10 = .ok (.ifCond .eq 46, 3) := by decide +kernel
theorem dX4_row_13 : decode cX4_row 13 = .ok (.iload_n 2, 1) := by decide +kernel
theorem dX4_row_14 : decode cX4_row 14 = .ok (.bipush (-50), 2) := by decide +kernel
theorem dX4_row_16 : decode cX4_row 16 = .ok (.if_icmp .lt 40, 3) := by decide +kernel
theorem dX4_row_19 : decode cX4_row 19 = .ok (.iload_n 2, 1) := by decide +kernel
theorem dX4_row_20 : decode cX4_row 20 = .ok (.sipush 150, 3) := by decide +kernel
theorem dX4_row_23 : decode cX4_row 23 = .ok (.if_icmp .gt 33, 3) := by decide +kernel
theorem dX4_row_26 : decode cX4_row 26 = .ok (.lload_n 3, 1) := by decide +kernel
theorem dX4_row_27 : decode cX4_row 27 = .ok (.lconst 1, 1) := by decide +kernel
theorem dX4_row_28 : decode cX4_row 28 = .ok (.lcmp, 1) := by decide +kernel
theorem dX4_row_29 : decode cX4_row 29 = .ok (.ifCond .lt 27, 3) := by decide +kernel
theorem dX4_row_32 : decode cX4_row 32 = .ok (.lload_n 3, 1) := by decide +kernel
theorem dX4_row_33 : decode cX4_row 33 = .ok (.ldc2_w 82, 3) := by decide +kernel
theorem dX4_row_36 : decode cX4_row 36 = .ok (.lcmp, 1) := by decide +kernel
theorem dX4_row_37 : decode cX4_row 37 = .ok (.ifCond .gt 19, 3) := by decide +kernel
theorem dX4_row_40 : decode cX4_row 40 = .ok (.lload 5, 2) := by decide +kernel
theorem dX4_row_42 : decode cX4_row 42 = .ok (.lconst 1, 1) := by decide +kernel
theorem dX4_row_43 : decode cX4_row 43 = .ok (.lcmp, 1) := by decide +kernel
theorem dX4_row_44 : decode cX4_row 44 = .ok (.ifCond .lt 12, 3) := by decide +kernel
theorem dX4_row_47 : decode cX4_row 47 = .ok (.lload 5, 2) := by decide +kernel
theorem dX4_row_49 : decode cX4_row 49 = .ok (.ldc2_w 82, 3) := by decide +kernel
theorem dX4_row_52 : decode cX4_row 52 = .ok (.lcmp, 1) := by decide +kernel
theorem dX4_row_53 : decode cX4_row 53 = .ok (.ifCond .le 5, 3) := by decide +kernel
theorem dX4_row_56 : decode cX4_row 56 = .ok (.iconst 0, 1) := by decide +kernel
theorem dX4_row_57 : decode cX4_row 57 = .ok (.ireturn, 1) := by decide +kernel
theorem dX4_row_58 : decode cX4_row 58 = .ok (.iconst 0, 1) := by decide +kernel
theorem dX4_row_59 : decode cX4_row 59 = .ok (.istore 7, 2) := by decide +kernel
theorem dX4_row_61 : decode cX4_row 61 = .ok (.iload 7, 2) := by decide +kernel
theorem dX4_row_63 : decode cX4_row 63 = .ok (.aload_n 0, 1) := by decide +kernel
theorem dX4_row_64 : decode cX4_row 64 = .ok (.getfield 17, 3) := by decide +kernel
theorem dX4_row_67 : decode cX4_row 67 = .ok (.iload_n 1, 1) := by decide +kernel
theorem dX4_row_68 : decode cX4_row 68 = .ok (.iaload, 1) := by decide +kernel
theorem dX4_row_69 : decode cX4_row 69 = .ok (.if_icmp .ge 25, 3) := by decide +kernel
theorem dX4_row_72 : decode cX4_row 72 = .ok (.aload_n 0, 1) := by decide +kernel
theorem dX4_row_73 : decode cX4_row 73 = .ok (.getfield 35, 3) := by decide +kernel
theorem dX4_row_76 : decode cX4_row 76 = .ok (.iload_n 1, 1) := by decide +kernel
theorem dX4_row_77 : decode cX4_row 77 = .ok (.bipush 16, 2) := by decide +kernel
theorem dX4_row_79 : decode cX4_row 79 = .ok (.imul, 1) := by decide +kernel
theorem dX4_row_80 : decode cX4_row 80 = .ok (.iload 7, 2) := by decide +kernel
theorem dX4_row_82 : decode cX4_row 82 = .ok (.iadd, 1) := by decide +kernel
theorem dX4_row_83 : decode cX4_row 83 = .ok (.iaload, 1) := by decide +kernel
theorem dX4_row_84 : decode cX4_row 84 = .ok (.iload_n 2, 1) := by decide +kernel
theorem dX4_row_85 : decode cX4_row 85 = .ok (.if_icmp .eq 9, 3) := by decide +kernel
theorem dX4_row_88 : decode cX4_row 88 = .ok (.iinc 7 1, 3) := by decide +kernel
theorem dX4_row_91 : decode cX4_row 91 = .ok (.goto (-30), 3) := by decide +kernel
theorem dX4_row_94 : decode cX4_row 94 = .ok (.iload 7, 2) := by decide +kernel
theorem dX4_row_96 : decode cX4_row 96 = .ok (.bipush 16, 2) := by decide +kernel
theorem dX4_row_98 : decode cX4_row 98 = .ok (.if_icmp .ne 5, 3) := by decide +kernel
theorem dX4_row_101 : decode cX4_row 101 = .ok (.iconst 0, 1) := by decide +kernel
theorem dX4_row_102 : decode cX4_row 102 = .ok (.ireturn, 1) := by decide +kernel
theorem dX4_row_103 : decode cX4_row 103 = .ok (.aload_n 0, 1) := by decide +kernel
theorem dX4_row_104 : decode cX4_row 104 = .ok (.getfield 35, 3) := by decide +kernel
theorem dX4_row_107 : decode cX4_row 107 = .ok (.iload_n 1, 1) := by decide +kernel
theorem dX4_row_108 : decode cX4_row 108 = .ok (.bipush 16, 2) := by decide +kernel
theorem dX4_row_110 : decode cX4_row 110 = .ok (.imul, 1) := by decide +kernel
theorem dX4_row_111 : decode cX4_row 111 = .ok (.iload 7, 2) := by decide +kernel
theorem dX4_row_113 : decode cX4_row 113 = .ok (.iadd, 1) := by decide +kernel
theorem dX4_row_114 : decode cX4_row 114 = .ok (.iload_n 2, 1) := by decide +kernel
theorem dX4_row_115 : decode cX4_row 115 = .ok (.iastore, 1) := by decide +kernel
theorem dX4_row_116 : decode cX4_row 116 = .ok (.aload_n 0, 1) := by decide +kernel
theorem dX4_row_117 : decode cX4_row 117 = .ok (.getfield 38, 3) := by decide +kernel
theorem dX4_row_120 : decode cX4_row 120 = .ok (.iload_n 1, 1) := by decide +kernel
theorem dX4_row_121 : decode cX4_row 121 = .ok (.bipush 16, 2) := by decide +kernel
theorem dX4_row_123 : decode cX4_row 123 = .ok (.imul, 1) := by decide +kernel
theorem dX4_row_124 : decode cX4_row 124 = .ok (.iload 7, 2) := by decide +kernel
theorem dX4_row_126 : decode cX4_row 126 = .ok (.iadd, 1) := by decide +kernel
theorem dX4_row_127 : decode cX4_row 127 = .ok (.lload_n 3, 1) := by decide +kernel
theorem dX4_row_128 : decode cX4_row 128 = .ok (.lastore, 1) := by decide +kernel
theorem dX4_row_129 : decode cX4_row 129 = .ok (.aload_n 0, 1) := by decide +kernel
theorem dX4_row_130 : decode cX4_row 130 = .ok (.getfield 41, 3) := by decide +kernel
theorem dX4_row_133 : decode cX4_row 133 = .ok (.iload_n 1, 1) := by decide +kernel
theorem dX4_row_134 : decode cX4_row 134 = .ok (.bipush 16, 2) := by decide +kernel
theorem dX4_row_136 : decode cX4_row 136 = .ok (.imul, 1) := by decide +kernel
theorem dX4_row_137 : decode cX4_row 137 = .ok (.iload 7, 2) := by decide +kernel
theorem dX4_row_139 : decode cX4_row 139 = .ok (.iadd, 1) := by decide +kernel
theorem dX4_row_140 : decode cX4_row 140 = .ok (.lload 5, 2) := by decide +kernel
theorem dX4_row_142 : decode cX4_row 142 = .ok (.lastore, 1) := by decide +kernel
theorem dX4_row_143 : decode cX4_row 143 = .ok (.aload_n 0, 1) := by decide +kernel
theorem dX4_row_144 : decode cX4_row 144 = .ok (.getfield 17, 3) := by decide +kernel
theorem dX4_row_147 : decode cX4_row 147 = .ok (.iload_n 1, 1) := by decide +kernel
theorem dX4_row_148 : decode cX4_row 148 = .ok (.iload 7, 2) := by decide +kernel
theorem dX4_row_150 : decode cX4_row 150 = .ok (.aload_n 0, 1) := by decide +kernel
theorem dX4_row_151 : decode cX4_row 151 = .ok (.getfield 17, 3) := by decide +kernel
theorem dX4_row_154 : decode cX4_row 154 = .ok (.iload_n 1, 1) := by decide +kernel
theorem dX4_row_155 : decode cX4_row 155 = .ok (.iaload, 1) := by decide +kernel
theorem dX4_row_156 : decode cX4_row 156 = .ok (.if_icmp .ne 10, 3) := by decide +kernel
theorem dX4_row_159 : decode cX4_row 159 = .ok (.iload 7, 2) := by decide +kernel
theorem dX4_row_161 : decode cX4_row 161 = .ok (.iconst 1, 1) := by decide +kernel
theorem dX4_row_162 : decode cX4_row 162 = .ok (.iadd, 1) := by decide +kernel
theorem dX4_row_163 : decode cX4_row 163 = .ok (.goto 9, 3) := by decide +kernel
theorem dX4_row_166 : decode cX4_row 166 = .ok (.aload_n 0, 1) := by decide +kernel
theorem dX4_row_167 : decode cX4_row 167 = .ok (.getfield 17, 3) := by decide +kernel
theorem dX4_row_170 : decode cX4_row 170 = .ok (.iload_n 1, 1) := by decide +kernel
theorem dX4_row_171 : decode cX4_row 171 = .ok (.iaload, 1) := by decide +kernel
theorem dX4_row_172 : decode cX4_row 172 = .ok (.iastore, 1) := by decide +kernel
theorem dX4_row_173 : decode cX4_row 173 = .ok (.iconst 1, 1) := by decide +kernel
theorem dX4_row_174 : decode cX4_row 174 = .ok (.ireturn, 1) := by decide +kernel
theorem dX4_line_0 : decode cX4_line 0 = .ok (.iconst (-1), 1) := by decide +kernel
theorem dX4_line_1 : decode cX4_line 1 = .ok (.istore_n 3, 1) := by decide +kernel
theorem dX4_line_2 : decode cX4_line 2 = .ok (.iconst (-1), 1) := by decide +kernel
theorem dX4_line_3 : decode cX4_line 3 = .ok (.istore 4, 2) := by decide +kernel
theorem dX4_line_5 : decode cX4_line 5 = .ok (.iload_n 1, 1) := by decide +kernel
theorem dX4_line_6 : decode cX4_line 6 = .ok (.bipush 16, 2) := by decide +kernel
theorem dX4_line_8 : decode cX4_line 8 = .ok (.imul, 1) := by decide +kernel
theorem dX4_line_9 : decode cX4_line 9 = .ok (.istore 5, 2) := by decide +kernel
theorem dX4_line_11 : decode cX4_line 11 = .ok (.iload 5, 2) := by decide +kernel
theorem dX4_line_13 : decode cX4_line 13 = .ok (.iload_n 1, 1) := by decide +kernel
theorem dX4_line_14 : decode cX4_line 14 = .ok (.bipush 16, 2) := by decide +kernel
theorem dX4_line_16 : decode cX4_line 16 = .ok (.imul, 1) := by decide +kernel
theorem dX4_line_17 : decode cX4_line 17 = .ok (.aload_n 0, 1) := by decide +kernel
theorem dX4_line_18 : decode cX4_line 18 = .ok (.getfield 17, 3) := by decide +kernel
theorem dX4_line_21 : decode cX4_line 21 = .ok (.iload_n 1, 1) := by decide +kernel
theorem dX4_line_22 : decode cX4_line 22 = .ok (.iaload, 1) := by decide +kernel
theorem dX4_line_23 : decode cX4_line 23 = .ok (.iadd, 1) := by decide +kernel
theorem dX4_line_24 : decode cX4_line 24 = .ok (.if_icmp .ge 74, 3) := by decide +kernel
theorem dX4_line_27 : decode cX4_line 27 = .ok (.aload_n 0, 1) := by decide +kernel
theorem dX4_line_28 : decode cX4_line 28 = .ok (.getfield 35, 3) := by decide +kernel
theorem dX4_line_31 : decode cX4_line 31 = .ok (.iload 5, 2) := by decide +kernel
theorem dX4_line_33 : decode cX4_line 33 = .ok (.iaload, 1) := by decide +kernel
theorem dX4_line_34 : decode cX4_line 34 = .ok (.istore 6, 2) := by decide +kernel
theorem dX4_line_36 : decode cX4_line 36 = .ok (.iload 4, 2) := by decide +kernel
theorem dX4_line_38 : decode cX4_line 38 = .ok (.iconst (-1), 1) := by decide +kernel
theorem dX4_line_39 : decode cX4_line 39 = .ok (.if_icmp .eq 15, 3) := by decide +kernel
theorem dX4_line_42 : decode cX4_line 42 = .ok (.iload 6, 2) := by decide +kernel
theorem dX4_line_44 : decode cX4_line 44 = .ok (.aload_n 0, 1) := by decide +kernel
theorem dX4_line_45 : decode cX4_line 45 = .ok (.getfield 35, 3) := by decide +kernel
theorem dX4_line_48 : decode cX4_line 48 = .ok (.iload 4, 2) := by decide +kernel
theorem dX4_line_50 : decode cX4_line 50 = .ok (.iaload, 1) := by decide +kernel
theorem dX4_line_51 : decode cX4_line 51 = .ok (.if_icmp .ge 8, 3) := by decide +kernel
theorem dX4_line_54 : decode cX4_line 54 = .ok (.iload 5, 2) := by decide +kernel
theorem dX4_line_56 : decode cX4_line 56 = .ok (.goto 5, 3) := by decide +kernel
theorem dX4_line_59 : decode cX4_line 59 = .ok (.iload 4, 2) := by decide +kernel
theorem dX4_line_61 : decode cX4_line 61 = .ok (.istore 4, 2) := by decide +kernel
theorem dX4_line_63 : decode cX4_line 63 = .ok (.iload 6, 2) := by decide +kernel
theorem dX4_line_65 : decode cX4_line 65 = .ok (.iload_n 2, 1) := by decide +kernel
theorem dX4_line_66 : decode cX4_line 66 = .ok (.if_icmp .gt 24, 3) := by decide +kernel
theorem dX4_line_69 : decode cX4_line 69 = .ok (.iload_n 3, 1) := by decide +kernel
theorem dX4_line_70 : decode cX4_line 70 = .ok (.iconst (-1), 1) := by decide +kernel
theorem dX4_line_71 : decode cX4_line 71 = .ok (.if_icmp .eq 14, 3) := by decide +kernel
theorem dX4_line_74 : decode cX4_line 74 = .ok (.iload 6, 2) := by decide +kernel
theorem dX4_line_76 : decode cX4_line 76 = .ok (.aload_n 0, 1) := by decide +kernel
theorem dX4_line_77 : decode cX4_line 77 = .ok (.getfield 35, 3) := by decide +kernel
theorem dX4_line_80 : decode cX4_line 80 = .ok (.iload_n 3, 1) := by decide +kernel
theorem dX4_line_81 : decode cX4_line 81 = .ok (.iaload, 1) := by decide +kernel
theorem dX4_line_82 : decode cX4_line 82 = .ok (.if_icmp .le 8, 3) := by decide +kernel
theorem dX4_line_85 : decode cX4_line 85 = .ok (.iload 5, 2) := by decide +kernel
theorem dX4_line_87 : decode cX4_line 87 = .ok (.goto 4, 3) := by decide +kernel
theorem dX4_line_90 : decode cX4_line 90 = .ok (.iload_n 3, 1) := by decide +kernel
theorem dX4_line_91 : decode cX4_line 91 = .ok (.istore_n 3, 1) := by decide +kernel
theorem dX4_line_92 : decode cX4_line 92 = .ok (.iinc 5 1, 3) := by decide +kernel
theorem dX4_line_95 : decode cX4_line 95 = .ok (.goto (-84), 3) := by decide +kernel
theorem dX4_line_98 : decode cX4_line 98 = .ok (.iload_n 3, 1) := by decide +kernel
theorem dX4_line_99 : decode cX4_line 99 = .ok (.iconst (-1), 1) := by decide +kernel
theorem dX4_line_100 : decode cX4_line 100 = .ok (.if_icmp .ne 8, 3) := by decide +kernel
theorem dX4_line_103 : decode cX4_line 103 = .ok (.iload 4, 2) := by decide +kernel
theorem dX4_line_105 : decode cX4_line 105 = .ok (.goto 4, 3) := by decide +kernel
theorem dX4_line_108 : decode cX4_line 108 = .ok (.iload_n 3, 1) := by decide +kernel
theorem dX4_line_109 : decode cX4_line 109 = .ok (.ireturn, 1) := by decide +kernel
theorem dX4_divisor_0 : decode cX4_divisor 0 = .ok (.lload_n 0, 1) := by decide +kernel
theorem dX4_divisor_1 : decode cX4_divisor 1 = .ok (.lstore 4, 2) := by decide +kernel
theorem dX4_divisor_3 : decode cX4_divisor 3 = .ok (.lload_n 2, 1) := by decide +kernel
theorem dX4_divisor_4 : decode cX4_divisor 4 = .ok (.lstore 6, 2) := by decide +kernel
theorem dX4_divisor_6 : decode cX4_divisor 6 = .ok (.lload 6, 2) := by decide +kernel
theorem dX4_divisor_8 : decode cX4_divisor 8 = .ok (.lconst 0, 1) := by decide +kernel
theorem dX4_divisor_9 : decode cX4_divisor 9 = .ok (.lcmp, 1) := by decide +kernel
theorem dX4_divisor_10 : decode cX4_divisor 10 = .ok (.ifCond .eq 21, 3) := by decide +kernel
theorem dX4_divisor_13 : decode cX4_divisor 13 = .ok (.lload 4, 2) := by decide +kernel
theorem dX4_divisor_15 : decode cX4_divisor 15 = .ok (.lload 6, 2) := by decide +kernel
theorem dX4_divisor_17 : decode cX4_divisor 17 = .ok (.lrem, 1) := by decide +kernel
theorem dX4_divisor_18 : decode cX4_divisor 18 = .ok (.lstore 8, 2) := by decide +kernel
theorem dX4_divisor_20 : decode cX4_divisor 20 = .ok (.lload 6, 2) := by decide +kernel
theorem dX4_divisor_22 : decode cX4_divisor 22 = .ok (.lstore 4, 2) := by decide +kernel
theorem dX4_divisor_24 : decode cX4_divisor 24 = .ok (.lload 8, 2) := by decide +kernel
theorem dX4_divisor_26 : decode cX4_divisor 26 = .ok (.lstore 6, 2) := by decide +kernel
theorem dX4_divisor_28 : decode cX4_divisor 28 = .ok (.goto (-22), 3) := by decide +kernel
theorem dX4_divisor_31 : decode cX4_divisor 31 = .ok (.lload 4, 2) := by decide +kernel
theorem dX4_divisor_33 : decode cX4_divisor 33 = .ok (.lreturn, 1) := by decide +kernel
set_option maxRecDepth 20000 in
theorem ggX4_litres_X4_isMeter : GoodIn wsX4_litres wsX4_isMeter := goodIn_r _ [12, 13, 28, 29, 30, 31, 32, 33, 34, 35, 36, 37, 38, 39, 40, 41, 42] (by decide +kernel) (by decide +kernel)
set_option maxRecDepth 20000 in
theorem gX4_litres_X4_isMeter : GoodIn wsX4_litres (wsV RX4 54 RX4 yX4_isMeter wsX4_isMeter) := goodIn_app (goodIn_of _ (by decide +kernel)) ggX4_litres_X4_isMeter
set_option maxRecDepth 20000 in
theorem ggX4_litres_X4_isRow : GoodIn wsX4_litres wsX4_isRow := goodIn_r _ [17, 18, 8, 9, 10, 11, 12, 13, 28, 29, 30, 31, 32, 33, 34, 35, 36, 37, 38, 39, 40, 41, 42] (by decide +kernel) (by decide +kernel)
set_option maxRecDepth 20000 in
theorem gX4_litres_X4_isRow : GoodIn wsX4_litres (wsV RX4 86 RX4 yX4_isRow wsX4_isRow) := goodIn_app (goodIn_of _ (by decide +kernel)) ggX4_litres_X4_isRow
set_option maxRecDepth 20000 in
theorem ggX4_litres_X4_line : GoodIn wsX4_litres wsX4_line := goodIn_r _ [22, 23, 24, 28, 29, 30, 31, 32, 33, 34, 35, 36, 37, 38, 39, 40, 41, 42] (by decide +kernel) (by decide +kernel)
set_option maxRecDepth 20000 in
theorem gX4_litres_X4_line : GoodIn wsX4_litres (wsV RX4 89 RX4 yX4_line wsX4_line) := goodIn_app (goodIn_of _ (by decide +kernel)) ggX4_litres_X4_line
set_option maxRecDepth 20000 in
theorem ggX4_litres_X4_divisor : GoodIn wsX4_litres wsX4_divisor := goodIn_r _ [27] (by decide +kernel) (by decide +kernel)
set_option maxRecDepth 20000 in
theorem gX4_litres_X4_divisor : GoodIn wsX4_litres (va_wsS RX4 93 yX4_divisor wsX4_divisor) := goodIn_app (goodIn_of _ (by decide +kernel)) ggX4_litres_X4_divisor
theorem dX4_litres_0 : decode cX4_litres 0 = .ok (.aload_n 0, 1) := by decide +kernel
theorem dX4_litres_1 : decode cX4_litres 1 = .ok (.iconst 0, 1) := by decide +kernel
theorem dX4_litres_2 : decode cX4_litres 2 = .ok (.putfield 47, 3) := by decide +kernel
theorem dX4_litres_5 : decode cX4_litres 5 = .ok (.aload_n 0, 1) := by decide +kernel
theorem dX4_litres_6 : decode cX4_litres 6 = .ok (.iload_n 1, 1) := by decide +kernel
theorem dX4_litres_7 : decode cX4_litres 7 = .ok (.invokevirtual 54, 3) := by decide +kernel
theorem dX4_litres_10 : decode cX4_litres 10 = .ok (.ifCond .eq 12, 3) := by decide +kernel
theorem dX4_litres_13 : decode cX4_litres 13 = .ok (.iload_n 3, 1) := by decide +kernel
theorem dX4_litres_14 : decode cX4_litres 14 = .ok (.ifCond .lt 8, 3) := by decide +kernel
theorem dX4_litres_17 : decode cX4_litres 17 = .ok (.iload_n 3, 1) := by decide +kernel
theorem dX4_litres_18 : decode cX4_litres 18 = .ok (.iconst 1, 1) := by decide +kernel
theorem dX4_litres_19 : decode cX4_litres 19 = .ok (.if_icmp .le 7, 3) := by decide +kernel
theorem dX4_litres_22 : decode cX4_litres 22 = .ok (.ldc2_w 84, 3) := by decide +kernel
theorem dX4_litres_25 : decode cX4_litres 25 = .ok (.lreturn, 1) := by decide +kernel
theorem dX4_litres_26 : decode cX4_litres 26 = .ok (.aload_n 0, 1) := by decide +kernel
theorem dX4_litres_27 : decode cX4_litres 27 = .ok (.iload_n 1, 1) := by decide +kernel
theorem dX4_litres_28 : decode cX4_litres 28 = .ok (.iload_n 2, 1) := by decide +kernel
theorem dX4_litres_29 : decode cX4_litres 29 = .ok (.invokevirtual 86, 3) := by decide +kernel
theorem dX4_litres_32 : decode cX4_litres 32 = .ok (.ifCond .ne 12, 3) := by decide +kernel
theorem dX4_litres_35 : decode cX4_litres 35 = .ok (.aload_n 0, 1) := by decide +kernel
theorem dX4_litres_36 : decode cX4_litres 36 = .ok (.iconst 1, 1) := by decide +kernel
theorem dX4_litres_37 : decode cX4_litres 37 = .ok (.putfield 47, 3) := by decide +kernel
theorem dX4_litres_40 : decode cX4_litres 40 = .ok (.ldc2_w 84, 3) := by decide +kernel
theorem dX4_litres_43 : decode cX4_litres 43 = .ok (.lreturn, 1) := by decide +kernel
theorem dX4_litres_44 : decode cX4_litres 44 = .ok (.iload_n 1, 1) := by decide +kernel
theorem dX4_litres_45 : decode cX4_litres 45 = .ok (.sipush 200, 3) := by decide +kernel
theorem dX4_litres_48 : decode cX4_litres 48 = .ok (.imul, 1) := by decide +kernel
theorem dX4_litres_49 : decode cX4_litres 49 = .ok (.iload_n 2, 1) := by decide +kernel
theorem dX4_litres_50 : decode cX4_litres 50 = .ok (.iadd, 1) := by decide +kernel
theorem dX4_litres_51 : decode cX4_litres 51 = .ok (.istore 4, 2) := by decide +kernel
theorem dX4_litres_53 : decode cX4_litres 53 = .ok (.aload_n 0, 1) := by decide +kernel
theorem dX4_litres_54 : decode cX4_litres 54 = .ok (.getfield 20, 3) := by decide +kernel
theorem dX4_litres_57 : decode cX4_litres 57 = .ok (.iload 4, 2) := by decide +kernel
theorem dX4_litres_59 : decode cX4_litres 59 = .ok (.iaload, 1) := by decide +kernel
theorem dX4_litres_60 : decode cX4_litres 60 = .ok (.ifCond .eq 6, 3) := by decide +kernel
theorem dX4_litres_63 : decode cX4_litres 63 = .ok (.iload_n 3, 1) := by decide +kernel
theorem dX4_litres_64 : decode cX4_litres 64 = .ok (.i2l, 1) := by decide +kernel
theorem dX4_litres_65 : decode cX4_litres 65 = .ok (.lreturn, 1) := by decide +kernel
theorem dX4_litres_66 : decode cX4_litres 66 = .ok (.aload_n 0, 1) := by decide +kernel
theorem dX4_litres_67 : decode cX4_litres 67 = .ok (.iload_n 1, 1) := by decide +kernel
theorem dX4_litres_68 : decode cX4_litres 68 = .ok (.aload_n 0, 1) := by decide +kernel
theorem dX4_litres_69 : decode cX4_litres 69 = .ok (.getfield 29, 3) := by decide +kernel
theorem dX4_litres_72 : decode cX4_litres 72 = .ok (.iload 4, 2) := by decide +kernel
theorem dX4_litres_74 : decode cX4_litres 74 = .ok (.iaload, 1) := by decide +kernel
theorem dX4_litres_75 : decode cX4_litres 75 = .ok (.invokevirtual 89, 3) := by decide +kernel
theorem dX4_litres_78 : decode cX4_litres 78 = .ok (.istore 5, 2) := by decide +kernel
theorem dX4_litres_80 : decode cX4_litres 80 = .ok (.aload_n 0, 1) := by decide +kernel
theorem dX4_litres_81 : decode cX4_litres 81 = .ok (.getfield 23, 3) := by decide +kernel
theorem dX4_litres_84 : decode cX4_litres 84 = .ok (.iload 4, 2) := by decide +kernel
theorem dX4_litres_86 : decode cX4_litres 86 = .ok (.laload, 1) := by decide +kernel
theorem dX4_litres_87 : decode cX4_litres 87 = .ok (.aload_n 0, 1) := by decide +kernel
theorem dX4_litres_88 : decode cX4_litres 88 = .ok (.getfield 38, 3) := by decide +kernel
theorem dX4_litres_91 : decode cX4_litres 91 = .ok (.iload 5, 2) := by decide +kernel
theorem dX4_litres_93 : decode cX4_litres 93 = .ok (.laload, 1) := by decide +kernel
theorem dX4_litres_94 : decode cX4_litres 94 = .ok (.lmul, 1) := by decide +kernel
theorem dX4_litres_95 : decode cX4_litres 95 = .ok (.lstore 6, 2) := by decide +kernel
theorem dX4_litres_97 : decode cX4_litres 97 = .ok (.lload 6, 2) := by decide +kernel
theorem dX4_litres_99 : decode cX4_litres 99 = .ok (.aload_n 0, 1) := by decide +kernel
end
section
theorem dX4_litres_100 : decode cX4_litres 100 = .ok (.getfield 41, 3) := by decide +kernel
theorem dX4_litres_103 : decode cX4_litres 103 = .ok (.iload 5, 2) := by decide +kernel
theorem dX4_litres_105 : decode cX4_litres 105 = .ok (.laload, 1) := by decide +kernel
theorem dX4_litres_106 : decode cX4_litres 106 = .ok (.invokestatic 93, 3) := by decide +kernel
theorem dX4_litres_109 : decode cX4_litres 109 = .ok (.lstore 8, 2) := by decide +kernel
theorem dX4_litres_111 : decode cX4_litres 111 = .ok (.iload_n 3, 1) := by decide +kernel
theorem dX4_litres_112 : decode cX4_litres 112 = .ok (.ifCond .ne 11, 3) := by decide +kernel
theorem dX4_litres_115 : decode cX4_litres 115 = .ok (.lload 6, 2) := by decide +kernel
theorem dX4_litres_117 : decode cX4_litres 117 = .ok (.lload 8, 2) := by decide +kernel
theorem dX4_litres_119 : decode cX4_litres 119 = .ok (.ldiv, 1) := by decide +kernel
theorem dX4_litres_120 : decode cX4_litres 120 = .ok (.goto 13, 3) := by decide +kernel
theorem dX4_litres_123 : decode cX4_litres 123 = .ok (.aload_n 0, 1) := by decide +kernel
theorem dX4_litres_124 : decode cX4_litres 124 = .ok (.getfield 41, 3) := by decide +kernel
theorem dX4_litres_127 : decode cX4_litres 127 = .ok (.iload 5, 2) := by decide +kernel
theorem dX4_litres_129 : decode cX4_litres 129 = .ok (.laload, 1) := by decide +kernel
theorem dX4_litres_130 : decode cX4_litres 130 = .ok (.lload 8, 2) := by decide +kernel
theorem dX4_litres_132 : decode cX4_litres 132 = .ok (.ldiv, 1) := by decide +kernel
theorem dX4_litres_133 : decode cX4_litres 133 = .ok (.lreturn, 1) := by decide +kernel
set_option maxRecDepth 20000 in
theorem ggX4_rest_X4_isMeter : GoodIn wsX4_rest wsX4_isMeter := goodIn_r _ [15, 16, 23, 24, 25, 26, 27, 28, 29, 30, 31, 32, 33, 34, 35, 36, 37] (by decide +kernel) (by decide +kernel)
set_option maxRecDepth 20000 in
theorem gX4_rest_X4_isMeter : GoodIn wsX4_rest (wsV RX4 54 RX4 yX4_isMeter wsX4_isMeter) := goodIn_app (goodIn_of _ (by decide +kernel)) ggX4_rest_X4_isMeter
set_option maxRecDepth 20000 in
theorem ggX4_rest_X4_line : GoodIn wsX4_rest wsX4_line := goodIn_r _ [20, 21, 22, 23, 24, 25, 26, 27, 28, 29, 30, 31, 32, 33, 34, 35, 36, 37] (by decide +kernel) (by decide +kernel)
set_option maxRecDepth 20000 in
theorem gX4_rest_X4_line : GoodIn wsX4_rest (wsV RX4 89 RX4 yX4_line wsX4_line) := goodIn_app (goodIn_of _ (by decide +kernel)) ggX4_rest_X4_line
theorem dX4_rest_0 : decode cX4_rest 0 = .ok (.aload_n 0, 1) := by decide +kernel
theorem dX4_rest_1 : decode cX4_rest 1 = .ok (.iconst 0, 1) := by decide +kernel
theorem dX4_rest_2 : decode cX4_rest 2 = .ok (.putfield 47, 3) := by decide +kernel
theorem dX4_rest_5 : decode cX4_rest 5 = .ok (.aload_n 0, 1) := by decide +kernel
theorem dX4_rest_6 : decode cX4_rest 6 = .ok (.iload_n 1, 1) := by decide +kernel
theorem dX4_rest_7 : decode cX4_rest 7 = .ok (.invokevirtual 54, 3) := by decide +kernel
theorem dX4_rest_10 : decode cX4_rest 10 = .ok (.ifCond .eq 17, 3) := by decide +kernel
theorem dX4_rest_13 : decode cX4_rest 13 = .ok (.lload_n 2, 1) := by decide +kernel
theorem dX4_rest_14 : decode cX4_rest 14 = .ok (.lconst 0, 1) := by decide +kernel
theorem dX4_rest_15 : decode cX4_rest 15 = .ok (.lcmp, 1) := by decide +kernel
theorem dX4_rest_16 : decode cX4_rest 16 = .ok (.ifCond .lt 11, 3) := by decide +kernel
theorem dX4_rest_19 : decode cX4_rest 19 = .ok (.lload_n 2, 1) := by decide +kernel
theorem dX4_rest_20 : decode cX4_rest 20 = .ok (.ldc2_w 96, 3) := by decide +kernel
theorem dX4_rest_23 : decode cX4_rest 23 = .ok (.lcmp, 1) := by decide +kernel
theorem dX4_rest_24 : decode cX4_rest 24 = .ok (.ifCond .le 7, 3) := by decide +kernel
theorem dX4_rest_27 : decode cX4_rest 27 = .ok (.ldc2_w 100, 3) := by decide +kernel
theorem dX4_rest_30 : decode cX4_rest 30 = .ok (.lreturn, 1) := by decide +kernel
theorem dX4_rest_31 : decode cX4_rest 31 = .ok (.lconst 0, 1) := by decide +kernel
theorem dX4_rest_32 : decode cX4_rest 32 = .ok (.lstore 4, 2) := by decide +kernel
theorem dX4_rest_34 : decode cX4_rest 34 = .ok (.iload_n 1, 1) := by decide +kernel
theorem dX4_rest_35 : decode cX4_rest 35 = .ok (.sipush 200, 3) := by decide +kernel
theorem dX4_rest_38 : decode cX4_rest 38 = .ok (.imul, 1) := by decide +kernel
theorem dX4_rest_39 : decode cX4_rest 39 = .ok (.istore 6, 2) := by decide +kernel
theorem dX4_rest_41 : decode cX4_rest 41 = .ok (.iload 6, 2) := by decide +kernel
theorem dX4_rest_43 : decode cX4_rest 43 = .ok (.iload_n 1, 1) := by decide +kernel
theorem dX4_rest_44 : decode cX4_rest 44 = .ok (.sipush 200, 3) := by decide +kernel
theorem dX4_rest_47 : decode cX4_rest 47 = .ok (.imul, 1) := by decide +kernel
theorem dX4_rest_48 : decode cX4_rest 48 = .ok (.aload_n 0, 1) := by decide +kernel
theorem dX4_rest_49 : decode cX4_rest 49 = .ok (.getfield 13, 3) := by decide +kernel
theorem dX4_rest_52 : decode cX4_rest 52 = .ok (.iload_n 1, 1) := by decide +kernel
theorem dX4_rest_53 : decode cX4_rest 53 = .ok (.iaload, 1) := by decide +kernel
theorem dX4_rest_54 : decode cX4_rest 54 = .ok (.iadd, 1) := by decide +kernel
theorem dX4_rest_55 : decode cX4_rest 55 = .ok (.if_icmp .ge 65, 3) := by decide +kernel
theorem dX4_rest_58 : decode cX4_rest 58 = .ok (.aload_n 0, 1) := by decide +kernel
theorem dX4_rest_59 : decode cX4_rest 59 = .ok (.getfield 20, 3) := by decide +kernel
theorem dX4_rest_62 : decode cX4_rest 62 = .ok (.iload 6, 2) := by decide +kernel
theorem dX4_rest_64 : decode cX4_rest 64 = .ok (.iaload, 1) := by decide +kernel
theorem dX4_rest_65 : decode cX4_rest 65 = .ok (.ifCond .ne 49, 3) := by decide +kernel
theorem dX4_rest_68 : decode cX4_rest 68 = .ok (.aload_n 0, 1) := by decide +kernel
theorem dX4_rest_69 : decode cX4_rest 69 = .ok (.iload_n 1, 1) := by decide +kernel
theorem dX4_rest_70 : decode cX4_rest 70 = .ok (.aload_n 0, 1) := by decide +kernel
theorem dX4_rest_71 : decode cX4_rest 71 = .ok (.getfield 29, 3) := by decide +kernel
theorem dX4_rest_74 : decode cX4_rest 74 = .ok (.iload 6, 2) := by decide +kernel
theorem dX4_rest_76 : decode cX4_rest 76 = .ok (.iaload, 1) := by decide +kernel
theorem dX4_rest_77 : decode cX4_rest 77 = .ok (.invokevirtual 89, 3) := by decide +kernel
theorem dX4_rest_80 : decode cX4_rest 80 = .ok (.istore 7, 2) := by decide +kernel
theorem dX4_rest_82 : decode cX4_rest 82 = .ok (.lload 4, 2) := by decide +kernel
theorem dX4_rest_84 : decode cX4_rest 84 = .ok (.aload_n 0, 1) := by decide +kernel
theorem dX4_rest_85 : decode cX4_rest 85 = .ok (.getfield 23, 3) := by decide +kernel
theorem dX4_rest_88 : decode cX4_rest 88 = .ok (.iload 6, 2) := by decide +kernel
theorem dX4_rest_90 : decode cX4_rest 90 = .ok (.laload, 1) := by decide +kernel
theorem dX4_rest_91 : decode cX4_rest 91 = .ok (.aload_n 0, 1) := by decide +kernel
theorem dX4_rest_92 : decode cX4_rest 92 = .ok (.getfield 38, 3) := by decide +kernel
theorem dX4_rest_95 : decode cX4_rest 95 = .ok (.iload 7, 2) := by decide +kernel
theorem dX4_rest_97 : decode cX4_rest 97 = .ok (.laload, 1) := by decide +kernel
theorem dX4_rest_98 : decode cX4_rest 98 = .ok (.lmul, 1) := by decide +kernel
theorem dX4_rest_99 : decode cX4_rest 99 = .ok (.ldc2_w 102, 3) := by decide +kernel
theorem dX4_rest_102 : decode cX4_rest 102 = .ok (.lmul, 1) := by decide +kernel
theorem dX4_rest_103 : decode cX4_rest 103 = .ok (.aload_n 0, 1) := by decide +kernel
theorem dX4_rest_104 : decode cX4_rest 104 = .ok (.getfield 41, 3) := by decide +kernel
theorem dX4_rest_107 : decode cX4_rest 107 = .ok (.iload 7, 2) := by decide +kernel
theorem dX4_rest_109 : decode cX4_rest 109 = .ok (.laload, 1) := by decide +kernel
theorem dX4_rest_110 : decode cX4_rest 110 = .ok (.ldiv, 1) := by decide +kernel
theorem dX4_rest_111 : decode cX4_rest 111 = .ok (.ladd, 1) := by decide +kernel
theorem dX4_rest_112 : decode cX4_rest 112 = .ok (.lstore 4, 2) := by decide +kernel
theorem dX4_rest_114 : decode cX4_rest 114 = .ok (.iinc 6 1, 3) := by decide +kernel
theorem dX4_rest_117 : decode cX4_rest 117 = .ok (.goto (-76), 3) := by decide +kernel
theorem dX4_rest_120 : decode cX4_rest 120 = .ok (.lload 4, 2) := by decide +kernel
theorem dX4_rest_122 : decode cX4_rest 122 = .ok (.lload_n 2, 1) := by decide +kernel
theorem dX4_rest_123 : decode cX4_rest 123 = .ok (.ldc2_w 102, 3) := by decide +kernel
theorem dX4_rest_126 : decode cX4_rest 126 = .ok (.lmul, 1) := by decide +kernel
theorem dX4_rest_127 : decode cX4_rest 127 = .ok (.lsub, 1) := by decide +kernel
theorem dX4_rest_128 : decode cX4_rest 128 = .ok (.lreturn, 1) := by decide +kernel
set_option maxRecDepth 20000 in
theorem ggX4_rows_X4_isMeter : GoodIn wsX4_rows wsX4_isMeter := goodIn_r _ [7, 8, 9, 10, 11, 12, 13, 14, 15, 16, 17, 18, 19, 20, 21, 22, 23] (by decide +kernel) (by decide +kernel)
set_option maxRecDepth 20000 in
theorem gX4_rows_X4_isMeter : GoodIn wsX4_rows (wsV RX4 54 RX4 yX4_isMeter wsX4_isMeter) := goodIn_app (goodIn_of _ (by decide +kernel)) ggX4_rows_X4_isMeter
theorem dX4_rows_0 : decode cX4_rows 0 = .ok (.aload_n 0, 1) := by decide +kernel
theorem dX4_rows_1 : decode cX4_rows 1 = .ok (.iconst 0, 1) := by decide +kernel
theorem dX4_rows_2 : decode cX4_rows 2 = .ok (.putfield 47, 3) := by decide +kernel
theorem dX4_rows_5 : decode cX4_rows 5 = .ok (.aload_n 0, 1) := by decide +kernel
theorem dX4_rows_6 : decode cX4_rows 6 = .ok (.iload_n 1, 1) := by decide +kernel
theorem dX4_rows_7 : decode cX4_rows 7 = .ok (.invokevirtual 54, 3) := by decide +kernel
theorem dX4_rows_10 : decode cX4_rows 10 = .ok (.ifCond .eq 12, 3) := by decide +kernel
theorem dX4_rows_13 : decode cX4_rows 13 = .ok (.aload_n 0, 1) := by decide +kernel
theorem dX4_rows_14 : decode cX4_rows 14 = .ok (.getfield 13, 3) := by decide +kernel
theorem dX4_rows_17 : decode cX4_rows 17 = .ok (.iload_n 1, 1) := by decide +kernel
theorem dX4_rows_18 : decode cX4_rows 18 = .ok (.iaload, 1) := by decide +kernel
theorem dX4_rows_19 : decode cX4_rows 19 = .ok (.goto 4, 3) := by decide +kernel
theorem dX4_rows_22 : decode cX4_rows 22 = .ok (.iconst (-1), 1) := by decide +kernel
theorem dX4_rows_23 : decode cX4_rows 23 = .ok (.ireturn, 1) := by decide +kernel
set_option maxRecDepth 20000 in
theorem ggX4_check_X4_isMeter : GoodIn wsX4_check wsX4_isMeter := goodIn_r _ [8, 9, 24, 25, 26, 27, 28, 29, 30, 31, 32, 33, 34, 35, 36, 37, 38] (by decide +kernel) (by decide +kernel)
set_option maxRecDepth 20000 in
theorem gX4_check_X4_isMeter : GoodIn wsX4_check (wsV RX4 54 RX4 yX4_isMeter wsX4_isMeter) := goodIn_app (goodIn_of _ (by decide +kernel)) ggX4_check_X4_isMeter
set_option maxRecDepth 20000 in
theorem ggX4_check_X4_due : GoodIn wsX4_check wsX4_due := goodIn_r _ [13, 14, 15, 3, 16, 17, 18, 19, 20, 21, 7, 22, 23, 24, 25, 26, 27, 28, 29, 30, 31, 32, 33, 34, 35, 36, 37, 38] (by decide +kernel) (by decide +kernel)
set_option maxRecDepth 20000 in
theorem gX4_check_X4_due : GoodIn wsX4_check (wsV RX4 66 RX4 yX4_due wsX4_due) := goodIn_app (goodIn_of _ (by decide +kernel)) ggX4_check_X4_due
theorem dX4_check_0 : decode cX4_check 0 = .ok (.aload_n 0, 1) := by decide +kernel
theorem dX4_check_1 : decode cX4_check 1 = .ok (.iconst 0, 1) := by decide +kernel
theorem dX4_check_2 : decode cX4_check 2 = .ok (.putfield 47, 3) := by decide +kernel
theorem dX4_check_5 : decode cX4_check 5 = .ok (.aload_n 0, 1) := by decide +kernel
theorem dX4_check_6 : decode cX4_check 6 = .ok (.iload_n 1, 1) := by decide +kernel
theorem dX4_check_7 : decode cX4_check 7 = .ok (.invokevirtual 54, 3) := by decide +kernel
theorem dX4_check_10 : decode cX4_check 10 = .ok (.ifCond .eq 17, 3) := by decide +kernel
theorem dX4_check_13 : decode cX4_check 13 = .ok (.iload_n 2, 1) := by decide +kernel
theorem dX4_check_14 : decode cX4_check 14 = .ok (.ifCond .lt 13, 3) := by decide +kernel
theorem dX4_check_17 : decode cX4_check 17 = .ok (.iload_n 2, 1) := by decide +kernel
theorem dX4_check_18 : decode cX4_check 18 = .ok (.aload_n 0, 1) := by decide +kernel
theorem dX4_check_19 : decode cX4_check 19 = .ok (.getfield 13, 3) := by decide +kernel
theorem dX4_check_22 : decode cX4_check 22 = .ok (.iload_n 1, 1) := by decide +kernel
theorem dX4_check_23 : decode cX4_check 23 = .ok (.iaload, 1) := by decide +kernel
theorem dX4_check_24 : decode cX4_check 24 = .ok (.if_icmp .le 5, 3) := by decide +kernel
theorem dX4_check_27 : decode cX4_check 27 = .ok (.iconst (-1), 1) := by decide +kernel
theorem dX4_check_28 : decode cX4_check 28 = .ok (.ireturn, 1) := by decide +kernel
theorem dX4_check_29 : decode cX4_check 29 = .ok (.iload_n 2, 1) := by decide +kernel
theorem dX4_check_30 : decode cX4_check 30 = .ok (.istore_n 3, 1) := by decide +kernel
theorem dX4_check_31 : decode cX4_check 31 = .ok (.iload_n 3, 1) := by decide +kernel
theorem dX4_check_32 : decode cX4_check 32 = .ok (.aload_n 0, 1) := by decide +kernel
theorem dX4_check_33 : decode cX4_check 33 = .ok (.getfield 13, 3) := by decide +kernel
theorem dX4_check_36 : decode cX4_check 36 = .ok (.iload_n 1, 1) := by decide +kernel
theorem dX4_check_37 : decode cX4_check 37 = .ok (.iaload, 1) := by decide +kernel
theorem dX4_check_38 : decode cX4_check 38 = .ok (.if_icmp .ge 35, 3) := by decide +kernel
theorem dX4_check_41 : decode cX4_check 41 = .ok (.aload_n 0, 1) := by decide +kernel
theorem dX4_check_42 : decode cX4_check 42 = .ok (.getfield 32, 3) := by decide +kernel
theorem dX4_check_45 : decode cX4_check 45 = .ok (.iload_n 1, 1) := by decide +kernel
theorem dX4_check_46 : decode cX4_check 46 = .ok (.sipush 200, 3) := by decide +kernel
theorem dX4_check_49 : decode cX4_check 49 = .ok (.imul, 1) := by decide +kernel
theorem dX4_check_50 : decode cX4_check 50 = .ok (.iload_n 3, 1) := by decide +kernel
theorem dX4_check_51 : decode cX4_check 51 = .ok (.iadd, 1) := by decide +kernel
theorem dX4_check_52 : decode cX4_check 52 = .ok (.laload, 1) := by decide +kernel
theorem dX4_check_53 : decode cX4_check 53 = .ok (.aload_n 0, 1) := by decide +kernel
theorem dX4_check_54 : decode cX4_check 54 = .ok (.iload_n 1, 1) := by decide +kernel
theorem dX4_check_55 : decode cX4_check 55 = .ok (.iload_n 3, 1) := by decide +kernel
theorem dX4_check_56 : decode cX4_check 56 = .ok (.invokevirtual 66, 3) := by decide +kernel
theorem dX4_check_59 : decode cX4_check 59 = .ok (.lcmp, 1) := by decide +kernel
theorem dX4_check_60 : decode cX4_check 60 = .ok (.ifCond .eq 7, 3) := by decide +kernel
theorem dX4_check_63 : decode cX4_check 63 = .ok (.iload_n 3, 1) := by decide +kernel
theorem dX4_check_64 : decode cX4_check 64 = .ok (.iconst 1, 1) := by decide +kernel
theorem dX4_check_65 : decode cX4_check 65 = .ok (.iadd, 1) := by decide +kernel
theorem dX4_check_66 : decode cX4_check 66 = .ok (.ireturn, 1) := by decide +kernel
theorem dX4_check_67 : decode cX4_check 67 = .ok (.iinc 3 1, 3) := by decide +kernel
theorem dX4_check_70 : decode cX4_check 70 = .ok (.goto (-39), 3) := by decide +kernel
theorem dX4_check_73 : decode cX4_check 73 = .ok (.iconst 0, 1) := by decide +kernel
theorem dX4_check_74 : decode cX4_check 74 = .ok (.ireturn, 1) := by decide +kernel
set_option maxRecDepth 20000 in
theorem ggX4_poke_X4_isRow : GoodIn wsX4_poke wsX4_isRow := goodIn_r _ [10, 11, 12, 13, 14, 9, 15, 16, 17, 18, 19, 20, 21, 22, 23, 24, 25, 26, 27, 28, 29, 30, 31] (by decide +kernel) (by decide +kernel)
set_option maxRecDepth 20000 in
theorem gX4_poke_X4_isRow : GoodIn wsX4_poke (wsV RX4 86 RX4 yX4_isRow wsX4_isRow) := goodIn_app (goodIn_of _ (by decide +kernel)) ggX4_poke_X4_isRow
theorem dX4_poke_0 : decode cX4_poke 0 = .ok (.aload_n 0, 1) := by decide +kernel
theorem dX4_poke_1 : decode cX4_poke 1 = .ok (.iconst 0, 1) := by decide +kernel
theorem dX4_poke_2 : decode cX4_poke 2 = .ok (.putfield 47, 3) := by decide +kernel
theorem dX4_poke_5 : decode cX4_poke 5 = .ok (.aload_n 0, 1) := by decide +kernel
theorem dX4_poke_6 : decode cX4_poke 6 = .ok (.iload_n 1, 1) := by decide +kernel
theorem dX4_poke_7 : decode cX4_poke 7 = .ok (.iload_n 2, 1) := by decide +kernel
theorem dX4_poke_8 : decode cX4_poke 8 = .ok (.invokevirtual 86, 3) := by decide +kernel
theorem dX4_poke_11 : decode cX4_poke 11 = .ok (.ifCond .eq 34, 3) := by decide +kernel
theorem dX4_poke_14 : decode cX4_poke 14 = .ok (.aload_n 0, 1) := by decide +kernel
theorem dX4_poke_15 : decode cX4_poke 15 = .ok (.getfield 20, 3) := by decide +kernel
theorem dX4_poke_18 : decode cX4_poke 18 = .ok (.iload_n 1, 1) := by decide +kernel
theorem dX4_poke_19 : decode cX4_poke 19 = .ok (.sipush 200, 3) := by decide +kernel
theorem dX4_poke_22 : decode cX4_poke 22 = .ok (.imul, 1) := by decide +kernel
theorem dX4_poke_23 : decode cX4_poke 23 = .ok (.iload_n 2, 1) := by decide +kernel
theorem dX4_poke_24 : decode cX4_poke 24 = .ok (.iadd, 1) := by decide +kernel
theorem dX4_poke_25 : decode cX4_poke 25 = .ok (.iaload, 1) := by decide +kernel
theorem dX4_poke_26 : decode cX4_poke 26 = .ok (.ifCond .ne 19, 3) := by decide +kernel
theorem dX4_poke_29 : decode cX4_poke 29 = .ok (.lload_n 3, 1) := by decide +kernel
theorem dX4_poke_30 : decode cX4_poke 30 = .ok (.ldc2_w 104, 3) := by decide +kernel
theorem dX4_poke_33 : decode cX4_poke 33 = .ok (.lcmp, 1) := by decide +kernel
theorem dX4_poke_34 : decode cX4_poke 34 = .ok (.ifCond .lt 11, 3) := by decide +kernel
theorem dX4_poke_37 : decode cX4_poke 37 = .ok (.lload_n 3, 1) := by decide +kernel
theorem dX4_poke_38 : decode cX4_poke 38 = .ok (.ldc2_w 70, 3) := by decide +kernel
theorem dX4_poke_41 : decode cX4_poke 41 = .ok (.lcmp, 1) := by decide +kernel
theorem dX4_poke_42 : decode cX4_poke 42 = .ok (.ifCond .le 5, 3) := by decide +kernel
theorem dX4_poke_45 : decode cX4_poke 45 = .ok (.iconst 0, 1) := by decide +kernel
theorem dX4_poke_46 : decode cX4_poke 46 = .ok (.ireturn, 1) := by decide +kernel
theorem dX4_poke_47 : decode cX4_poke 47 = .ok (.aload_n 0, 1) := by decide +kernel
theorem dX4_poke_48 : decode cX4_poke 48 = .ok (.getfield 23, 3) := by decide +kernel
theorem dX4_poke_51 : decode cX4_poke 51 = .ok (.iload_n 1, 1) := by decide +kernel
theorem dX4_poke_52 : decode cX4_poke 52 = .ok (.sipush 200, 3) := by decide +kernel
theorem dX4_poke_55 : decode cX4_poke 55 = .ok (.imul, 1) := by decide +kernel
theorem dX4_poke_56 : decode cX4_poke 56 = .ok (.iload_n 2, 1) := by decide +kernel
theorem dX4_poke_57 : decode cX4_poke 57 = .ok (.iadd, 1) := by decide +kernel
theorem dX4_poke_58 : decode cX4_poke 58 = .ok (.laload, 1) := by decide +kernel
theorem dX4_poke_59 : decode cX4_poke 59 = .ok (.lload_n 3, 1) := by decide +kernel
theorem dX4_poke_60 : decode cX4_poke 60 = .ok (.ladd, 1) := by decide +kernel
theorem dX4_poke_61 : decode cX4_poke 61 = .ok (.lstore 5, 2) := by decide +kernel
theorem dX4_poke_63 : decode cX4_poke 63 = .ok (.lload 5, 2) := by decide +kernel
theorem dX4_poke_65 : decode cX4_poke 65 = .ok (.lconst 0, 1) := by decide +kernel
theorem dX4_poke_66 : decode cX4_poke 66 = .ok (.lcmp, 1) := by decide +kernel
theorem dX4_poke_67 : decode cX4_poke 67 = .ok (.ifCond .lt 12, 3) := by decide +kernel
theorem dX4_poke_70 : decode cX4_poke 70 = .ok (.lload 5, 2) := by decide +kernel
theorem dX4_poke_72 : decode cX4_poke 72 = .ok (.ldc2_w 70, 3) := by decide +kernel
theorem dX4_poke_75 : decode cX4_poke 75 = .ok (.lcmp, 1) := by decide +kernel
theorem dX4_poke_76 : decode cX4_poke 76 = .ok (.ifCond .le 5, 3) := by decide +kernel
theorem dX4_poke_79 : decode cX4_poke 79 = .ok (.iconst 0, 1) := by decide +kernel
theorem dX4_poke_80 : decode cX4_poke 80 = .ok (.ireturn, 1) := by decide +kernel
theorem dX4_poke_81 : decode cX4_poke 81 = .ok (.aload_n 0, 1) := by decide +kernel
theorem dX4_poke_82 : decode cX4_poke 82 = .ok (.getfield 23, 3) := by decide +kernel
theorem dX4_poke_85 : decode cX4_poke 85 = .ok (.iload_n 1, 1) := by decide +kernel
theorem dX4_poke_86 : decode cX4_poke 86 = .ok (.sipush 200, 3) := by decide +kernel
theorem dX4_poke_89 : decode cX4_poke 89 = .ok (.imul, 1) := by decide +kernel
theorem dX4_poke_90 : decode cX4_poke 90 = .ok (.iload_n 2, 1) := by decide +kernel
theorem dX4_poke_91 : decode cX4_poke 91 = .ok (.iadd, 1) := by decide +kernel
theorem dX4_poke_92 : decode cX4_poke 92 = .ok (.lload 5, 2) := by decide +kernel
theorem dX4_poke_94 : decode cX4_poke 94 = .ok (.lastore, 1) := by decide +kernel
theorem dX4_poke_95 : decode cX4_poke 95 = .ok (.iconst 1, 1) := by decide +kernel
theorem dX4_poke_96 : decode cX4_poke 96 = .ok (.ireturn, 1) := by decide +kernel
set_option maxRecDepth 20000 in
theorem ggX4_isMarked_X4_isSet : GoodIn wsX4_isMarked wsX4_isSet := goodIn_r _ [6, 1, 7, 8, 9, 10, 11, 12, 13, 14, 15, 16, 17, 18, 19, 20, 21] (by decide +kernel) (by decide +kernel)
set_option maxRecDepth 20000 in
theorem gX4_isMarked_X4_isSet : GoodIn wsX4_isMarked (wsV RX4 78 RX4 yX4_isSet wsX4_isSet) := goodIn_app (goodIn_of _ (by decide +kernel)) ggX4_isMarked_X4_isSet
theorem dX4_isMarked_0 : decode cX4_isMarked 0 = .ok (.aload_n 0, 1) := by decide +kernel
theorem dX4_isMarked_1 : decode cX4_isMarked 1 = .ok (.getfield 20, 3) := by decide +kernel
theorem dX4_isMarked_4 : decode cX4_isMarked 4 = .ok (.iload_n 1, 1) := by decide +kernel
theorem dX4_isMarked_5 : decode cX4_isMarked 5 = .ok (.sipush 200, 3) := by decide +kernel
theorem dX4_isMarked_8 : decode cX4_isMarked 8 = .ok (.imul, 1) := by decide +kernel
theorem dX4_isMarked_9 : decode cX4_isMarked 9 = .ok (.iload_n 2, 1) := by decide +kernel
theorem dX4_isMarked_10 : decode cX4_isMarked 10 = .ok (.iadd, 1) := by decide +kernel
theorem dX4_isMarked_11 : decode cX4_isMarked 11 = .ok (.iaload, 1) := by decide +kernel
theorem dX4_isMarked_12 : decode cX4_isMarked 12 = .ok (.istore_n 3, 1) := by decide +kernel
theorem dX4_isMarked_13 : decode cX4_isMarked 13 = .ok (.iload_n 3, 1) := by decide +kernel
theorem dX4_isMarked_14 : decode cX4_isMarked 14 = .ok (.iconst 2, 1) := by decide +kernel
theorem dX4_isMarked_15 : decode cX4_isMarked 15 = .ok (.if_icmp .eq 17, 3) := by decide +kernel
theorem dX4_isMarked_18 : decode cX4_isMarked 18 = .ok (.iload_n 3, 1) := by decide +kernel
theorem dX4_isMarked_19 : decode cX4_isMarked 19 = .ok (.iconst 3, 1) := by decide +kernel
theorem dX4_isMarked_20 : decode cX4_isMarked 20 = .ok (.if_icmp .eq 12, 3) := by decide +kernel
theorem dX4_isMarked_23 : decode cX4_isMarked 23 = .ok (.aload_n 0, 1) := by decide +kernel
theorem dX4_isMarked_24 : decode cX4_isMarked 24 = .ok (.iload_n 1, 1) := by decide +kernel
theorem dX4_isMarked_25 : decode cX4_isMarked 25 = .ok (.iload_n 2, 1) := by decide +kernel
theorem dX4_isMarked_26 : decode cX4_isMarked 26 = .ok (.invokevirtual 78, 3) := by decide +kernel
theorem dX4_isMarked_29 : decode cX4_isMarked 29 = .ok (.ifCond .ne 7, 3) := by decide +kernel
theorem dX4_isMarked_32 : decode cX4_isMarked 32 = .ok (.iconst 1, 1) := by decide +kernel
theorem dX4_isMarked_33 : decode cX4_isMarked 33 = .ok (.goto 4, 3) := by decide +kernel
theorem dX4_isMarked_36 : decode cX4_isMarked 36 = .ok (.iconst 0, 1) := by decide +kernel
theorem dX4_isMarked_37 : decode cX4_isMarked 37 = .ok (.ireturn, 1) := by decide +kernel
set_option maxRecDepth 20000 in
theorem ggX4_marked_X4_isRow : GoodIn wsX4_marked wsX4_isRow := goodIn_r _ [6, 7, 8, 9, 10, 5, 11, 12, 22, 23, 24, 25, 26, 27, 28, 29, 30, 31, 32, 33, 34, 35, 36] (by decide +kernel) (by decide +kernel)
set_option maxRecDepth 20000 in
theorem gX4_marked_X4_isRow : GoodIn wsX4_marked (wsV RX4 86 RX4 yX4_isRow wsX4_isRow) := goodIn_app (goodIn_of _ (by decide +kernel)) ggX4_marked_X4_isRow
set_option maxRecDepth 20000 in
theorem ggX4_marked_X4_isMarked : GoodIn wsX4_marked wsX4_isMarked := goodIn_r _ [16, 17, 18, 19, 20, 5, 21, 22, 23, 24, 25, 26, 27, 28, 29, 30, 31, 32, 33, 34, 35, 36] (by decide +kernel) (by decide +kernel)
set_option maxRecDepth 20000 in
theorem gX4_marked_X4_isMarked : GoodIn wsX4_marked (wsV RX4 106 RX4 yX4_isMarked wsX4_isMarked) := goodIn_app (goodIn_of _ (by decide +kernel)) ggX4_marked_X4_isMarked
theorem dX4_marked_0 : decode cX4_marked 0 = .ok (.aload_n 0, 1) := by decide +kernel
theorem dX4_marked_1 : decode cX4_marked 1 = .ok (.iconst 0, 1) := by decide +kernel
theorem dX4_marked_2 : decode cX4_marked 2 = .ok (.putfield 47, 3) := by decide +kernel
theorem dX4_marked_5 : decode cX4_marked 5 = .ok (.aload_n 0, 1) := by decide +kernel
theorem dX4_marked_6 : decode cX4_marked 6 = .ok (.iload_n 1, 1) := by decide +kernel
theorem dX4_marked_7 : decode cX4_marked 7 = .ok (.iload_n 2, 1) := by decide +kernel
theorem dX4_marked_8 : decode cX4_marked 8 = .ok (.invokevirtual 86, 3) := by decide +kernel
theorem dX4_marked_11 : decode cX4_marked 11 = .ok (.ifCond .eq 16, 3) := by decide +kernel
theorem dX4_marked_14 : decode cX4_marked 14 = .ok (.aload_n 0, 1) := by decide +kernel
theorem dX4_marked_15 : decode cX4_marked 15 = .ok (.iload_n 1, 1) := by decide +kernel
theorem dX4_marked_16 : decode cX4_marked 16 = .ok (.iload_n 2, 1) := by decide +kernel
theorem dX4_marked_17 : decode cX4_marked 17 = .ok (.invokevirtual 106, 3) := by decide +kernel
theorem dX4_marked_20 : decode cX4_marked 20 = .ok (.ifCond .eq 7, 3) := by decide +kernel
theorem dX4_marked_23 : decode cX4_marked 23 = .ok (.iconst 1, 1) := by decide +kernel
theorem dX4_marked_24 : decode cX4_marked 24 = .ok (.goto 4, 3) := by decide +kernel
theorem dX4_marked_27 : decode cX4_marked 27 = .ok (.iconst 0, 1) := by decide +kernel
theorem dX4_marked_28 : decode cX4_marked 28 = .ok (.ireturn, 1) := by decide +kernel
set_option maxRecDepth 20000 in
theorem ggX4_gap_X4_isMeter : GoodIn wsX4_gap wsX4_isMeter := goodIn_r _ [12, 13, 14, 15, 16, 17, 18, 19, 20, 21, 22, 23, 24, 25, 26, 27, 28] (by decide +kernel) (by decide +kernel)
set_option maxRecDepth 20000 in
theorem gX4_gap_X4_isMeter : GoodIn wsX4_gap (wsV RX4 54 RX4 yX4_isMeter wsX4_isMeter) := goodIn_app (goodIn_of _ (by decide +kernel)) ggX4_gap_X4_isMeter
theorem dX4_gap_0 : decode cX4_gap 0 = .ok (.aload_n 0, 1) := by decide +kernel
theorem dX4_gap_1 : decode cX4_gap 1 = .ok (.iconst 0, 1) := by decide +kernel
theorem dX4_gap_2 : decode cX4_gap 2 = .ok (.putfield 47, 3) := by decide +kernel
theorem dX4_gap_5 : decode cX4_gap 5 = .ok (.aload_n 0, 1) := by decide +kernel
theorem dX4_gap_6 : decode cX4_gap 6 = .ok (.iload_n 1, 1) := by decide +kernel
theorem dX4_gap_7 : decode cX4_gap 7 = .ok (.invokevirtual 54, 3) := by decide +kernel
theorem dX4_gap_10 : decode cX4_gap 10 = .ok (.ifCond .eq 16, 3) := by decide +kernel
theorem dX4_gap_13 : decode cX4_gap 13 = .ok (.iload_n 2, 1) := by decide +kernel
theorem dX4_gap_14 : decode cX4_gap 14 = .ok (.ifCond .lt 12, 3) := by decide +kernel
theorem dX4_gap_17 : decode cX4_gap 17 = .ok (.iload_n 3, 1) := by decide +kernel
theorem dX4_gap_18 : decode cX4_gap 18 = .ok (.ifCond .lt 8, 3) := by decide +kernel
theorem dX4_gap_21 : decode cX4_gap 21 = .ok (.iload_n 3, 1) := by decide +kernel
theorem dX4_gap_22 : decode cX4_gap 22 = .ok (.iconst 1, 1) := by decide +kernel
theorem dX4_gap_23 : decode cX4_gap 23 = .ok (.if_icmp .le 5, 3) := by decide +kernel
theorem dX4_gap_26 : decode cX4_gap 26 = .ok (.iconst (-1), 1) := by decide +kernel
theorem dX4_gap_27 : decode cX4_gap 27 = .ok (.ireturn, 1) := by decide +kernel
theorem dX4_gap_28 : decode cX4_gap 28 = .ok (.iconst (-1), 1) := by decide +kernel
theorem dX4_gap_29 : decode cX4_gap 29 = .ok (.istore 4, 2) := by decide +kernel
theorem dX4_gap_31 : decode cX4_gap 31 = .ok (.iconst 0, 1) := by decide +kernel
theorem dX4_gap_32 : decode cX4_gap 32 = .ok (.istore 5, 2) := by decide +kernel
theorem dX4_gap_34 : decode cX4_gap 34 = .ok (.iconst 0, 1) := by decide +kernel
theorem dX4_gap_35 : decode cX4_gap 35 = .ok (.istore 6, 2) := by decide +kernel
theorem dX4_gap_37 : decode cX4_gap 37 = .ok (.iload 6, 2) := by decide +kernel
theorem dX4_gap_39 : decode cX4_gap 39 = .ok (.aload_n 0, 1) := by decide +kernel
theorem dX4_gap_40 : decode cX4_gap 40 = .ok (.getfield 13, 3) := by decide +kernel
theorem dX4_gap_43 : decode cX4_gap 43 = .ok (.iload_n 1, 1) := by decide +kernel
theorem dX4_gap_44 : decode cX4_gap 44 = .ok (.iaload, 1) := by decide +kernel
theorem dX4_gap_45 : decode cX4_gap 45 = .ok (.if_icmp .ge 114, 3) := by decide +kernel
theorem dX4_gap_48 : decode cX4_gap 48 = .ok (.iload_n 1, 1) := by decide +kernel
theorem dX4_gap_49 : decode cX4_gap 49 = .ok (.sipush 200, 3) := by decide +kernel
theorem dX4_gap_52 : decode cX4_gap 52 = .ok (.imul, 1) := by decide +kernel
theorem dX4_gap_53 : decode cX4_gap 53 = .ok (.iload 6, 2) := by decide +kernel
theorem dX4_gap_55 : decode cX4_gap 55 = .ok (.iadd, 1) := by decide +kernel
theorem dX4_gap_56 : decode cX4_gap 56 = .ok (.istore 7, 2) := by decide +kernel
theorem dX4_gap_58 : decode cX4_gap 58 = .ok (.aload_n 0, 1) := by decide +kernel
theorem dX4_gap_59 : decode cX4_gap 59 = .ok (.getfield 20, 3) := by decide +kernel
theorem dX4_gap_62 : decode cX4_gap 62 = .ok (.iload 7, 2) := by decide +kernel
theorem dX4_gap_64 : decode cX4_gap 64 = .ok (.iaload, 1) := by decide +kernel
theorem dX4_gap_65 : decode cX4_gap 65 = .ok (.ifCond .ne 88, 3) := by decide +kernel
theorem dX4_gap_68 : decode cX4_gap 68 = .ok (.iload 4, 2) := by decide +kernel
theorem dX4_gap_70 : decode cX4_gap 70 = .ok (.iconst (-1), 1) := by decide +kernel
theorem dX4_gap_71 : decode cX4_gap 71 = .ok (.if_icmp .ne 7, 3) := by decide +kernel
theorem dX4_gap_74 : decode cX4_gap 74 = .ok (.lconst 0, 1) := by decide +kernel
theorem dX4_gap_75 : decode cX4_gap 75 = .ok (.goto 18, 3) := by decide +kernel
theorem dX4_gap_78 : decode cX4_gap 78 = .ok (.aload_n 0, 1) := by decide +kernel
theorem dX4_gap_79 : decode cX4_gap 79 = .ok (.getfield 26, 3) := by decide +kernel
theorem dX4_gap_82 : decode cX4_gap 82 = .ok (.iload 7, 2) := by decide +kernel
theorem dX4_gap_84 : decode cX4_gap 84 = .ok (.laload, 1) := by decide +kernel
theorem dX4_gap_85 : decode cX4_gap 85 = .ok (.aload_n 0, 1) := by decide +kernel
theorem dX4_gap_86 : decode cX4_gap 86 = .ok (.getfield 26, 3) := by decide +kernel
theorem dX4_gap_89 : decode cX4_gap 89 = .ok (.iload 4, 2) := by decide +kernel
theorem dX4_gap_91 : decode cX4_gap 91 = .ok (.laload, 1) := by decide +kernel
theorem dX4_gap_92 : decode cX4_gap 92 = .ok (.lsub, 1) := by decide +kernel
theorem dX4_gap_93 : decode cX4_gap 93 = .ok (.lstore 8, 2) := by decide +kernel
theorem dX4_gap_95 : decode cX4_gap 95 = .ok (.lload 8, 2) := by decide +kernel
theorem dX4_gap_97 : decode cX4_gap 97 = .ok (.ldc2_w 109, 3) := by decide +kernel
theorem dX4_gap_100 : decode cX4_gap 100 = .ok (.lcmp, 1) := by decide +kernel
theorem dX4_gap_101 : decode cX4_gap 101 = .ok (.ifCond .le 48, 3) := by decide +kernel
theorem dX4_gap_104 : decode cX4_gap 104 = .ok (.iload 5, 2) := by decide +kernel
theorem dX4_gap_106 : decode cX4_gap 106 = .ok (.iload_n 2, 1) := by decide +kernel
theorem dX4_gap_107 : decode cX4_gap 107 = .ok (.if_icmp .ne 39, 3) := by decide +kernel
theorem dX4_gap_110 : decode cX4_gap 110 = .ok (.iload_n 3, 1) := by decide +kernel
theorem dX4_gap_111 : decode cX4_gap 111 = .ok (.ifCond .ne 8, 3) := by decide +kernel
theorem dX4_gap_114 : decode cX4_gap 114 = .ok (.iload 6, 2) := by decide +kernel
theorem dX4_gap_116 : decode cX4_gap 116 = .ok (.goto 29, 3) := by decide +kernel
theorem dX4_gap_119 : decode cX4_gap 119 = .ok (.lload 8, 2) := by decide +kernel
theorem dX4_gap_121 : decode cX4_gap 121 = .ok (.ldc2_w 111, 3) := by decide +kernel
theorem dX4_gap_124 : decode cX4_gap 124 = .ok (.ldiv, 1) := by decide +kernel
theorem dX4_gap_125 : decode cX4_gap 125 = .ok (.ldc2_w 113, 3) := by decide +kernel
theorem dX4_gap_128 : decode cX4_gap 128 = .ok (.lcmp, 1) := by decide +kernel
theorem dX4_gap_129 : decode cX4_gap 129 = .ok (.ifCond .ge 12, 3) := by decide +kernel
theorem dX4_gap_132 : decode cX4_gap 132 = .ok (.lload 8, 2) := by decide +kernel
theorem dX4_gap_134 : decode cX4_gap 134 = .ok (.ldc2_w 111, 3) := by decide +kernel
theorem dX4_gap_137 : decode cX4_gap 137 = .ok (.ldiv, 1) := by decide +kernel
theorem dX4_gap_138 : decode cX4_gap 138 = .ok (.goto 6, 3) := by decide +kernel
theorem dX4_gap_141 : decode cX4_gap 141 = .ok (.ldc2_w 113, 3) := by decide +kernel
theorem dX4_gap_144 : decode cX4_gap 144 = .ok (.l2i, 1) := by decide +kernel
theorem dX4_gap_145 : decode cX4_gap 145 = .ok (.ireturn, 1) := by decide +kernel
theorem dX4_gap_146 : decode cX4_gap 146 = .ok (.iinc 5 1, 3) := by decide +kernel
theorem dX4_gap_149 : decode cX4_gap 149 = .ok (.iload 7, 2) := by decide +kernel
theorem dX4_gap_151 : decode cX4_gap 151 = .ok (.istore 4, 2) := by decide +kernel
theorem dX4_gap_153 : decode cX4_gap 153 = .ok (.iinc 6 1, 3) := by decide +kernel
theorem dX4_gap_156 : decode cX4_gap 156 = .ok (.goto (-119), 3) := by decide +kernel
theorem dX4_gap_159 : decode cX4_gap 159 = .ok (.iconst (-1), 1) := by decide +kernel
theorem dX4_gap_160 : decode cX4_gap 160 = .ok (.ireturn, 1) := by decide +kernel
theorem dX4_put_0 : decode cX4_put 0 = .ok (.aload_n 0, 1) := by decide +kernel
theorem dX4_put_1 : decode cX4_put 1 = .ok (.getfield 44, 3) := by decide +kernel
theorem dX4_put_4 : decode cX4_put 4 = .ok (.aload_n 0, 1) := by decide +kernel
theorem dX4_put_5 : decode cX4_put 5 = .ok (.getfield 115, 3) := by decide +kernel
theorem dX4_put_8 : decode cX4_put 8 = .ok (.iload_n 1, 1) := by decide +kernel
theorem dX4_put_9 : decode cX4_put 9 = .ok (.iastore, 1) := by decide +kernel
theorem dX4_put_10 : decode cX4_put 10 = .ok (.aload_n 0, 1) := by decide +kernel
theorem dX4_put_11 : decode cX4_put 11 = .ok (.dup, 1) := by decide +kernel
theorem dX4_put_12 : decode cX4_put 12 = .ok (.getfield 115, 3) := by decide +kernel
theorem dX4_put_15 : decode cX4_put 15 = .ok (.iconst 1, 1) := by decide +kernel
theorem dX4_put_16 : decode cX4_put 16 = .ok (.iadd, 1) := by decide +kernel
theorem dX4_put_17 : decode cX4_put 17 = .ok (.putfield 115, 3) := by decide +kernel
theorem dX4_put_20 : decode cX4_put 20 = .ok (.return_, 1) := by decide +kernel
set_option maxRecDepth 20000 in
theorem ggX4_say_X4_put : GoodIn wsX4_say wsX4_put := goodIn_r _ [8, 9, 10, 11, 12, 13, 14, 15, 16, 17, 18, 19, 20, 21, 22, 23, 24, 25] (by decide +kernel) (by decide +kernel)
set_option maxRecDepth 20000 in
theorem gX4_say_X4_put : GoodIn wsX4_say (wsV RX4 118 RX4 yX4_put wsX4_put) := goodIn_app (goodIn_of _ (by decide +kernel)) ggX4_say_X4_put
theorem dX4_say_0 : decode cX4_say 0 = .ok (.aload_n 0, 1) := by decide +kernel
theorem dX4_say_1 : decode cX4_say 1 = .ok (.bipush 32, 2) := by decide +kernel
theorem dX4_say_3 : decode cX4_say 3 = .ok (.invokevirtual 118, 3) := by decide +kernel
theorem dX4_say_6 : decode cX4_say 6 = .ok (.lload_n 1, 1) := by decide +kernel
theorem dX4_say_7 : decode cX4_say 7 = .ok (.lconst 0, 1) := by decide +kernel
theorem dX4_say_8 : decode cX4_say 8 = .ok (.lcmp, 1) := by decide +kernel
theorem dX4_say_9 : decode cX4_say 9 = .ok (.ifCond .ge 8, 3) := by decide +kernel
theorem dX4_say_12 : decode cX4_say 12 = .ok (.lload_n 1, 1) := by decide +kernel
theorem dX4_say_13 : decode cX4_say 13 = .ok (.lneg, 1) := by decide +kernel
theorem dX4_say_14 : decode cX4_say 14 = .ok (.goto 4, 3) := by decide +kernel
theorem dX4_say_17 : decode cX4_say 17 = .ok (.lload_n 1, 1) := by decide +kernel
theorem dX4_say_18 : decode cX4_say 18 = .ok (.lstore_n 3, 1) := by decide +kernel
theorem dX4_say_19 : decode cX4_say 19 = .ok (.lload_n 1, 1) := by decide +kernel
theorem dX4_say_20 : decode cX4_say 20 = .ok (.lconst 0, 1) := by decide +kernel
theorem dX4_say_21 : decode cX4_say 21 = .ok (.lcmp, 1) := by decide +kernel
theorem dX4_say_22 : decode cX4_say 22 = .ok (.ifCond .ge 9, 3) := by decide +kernel
theorem dX4_say_25 : decode cX4_say 25 = .ok (.aload_n 0, 1) := by decide +kernel
theorem dX4_say_26 : decode cX4_say 26 = .ok (.bipush 45, 2) := by decide +kernel
theorem dX4_say_28 : decode cX4_say 28 = .ok (.invokevirtual 118, 3) := by decide +kernel
theorem dX4_say_31 : decode cX4_say 31 = .ok (.lconst 1, 1) := by decide +kernel
theorem dX4_say_32 : decode cX4_say 32 = .ok (.lstore 5, 2) := by decide +kernel
theorem dX4_say_34 : decode cX4_say 34 = .ok (.lload_n 3, 1) := by decide +kernel
theorem dX4_say_35 : decode cX4_say 35 = .ok (.lload 5, 2) := by decide +kernel
theorem dX4_say_37 : decode cX4_say 37 = .ok (.ldiv, 1) := by decide +kernel
theorem dX4_say_38 : decode cX4_say 38 = .ok (.ldc2_w 122, 3) := by decide +kernel
theorem dX4_say_41 : decode cX4_say 41 = .ok (.lcmp, 1) := by decide +kernel
theorem dX4_say_42 : decode cX4_say 42 = .ok (.ifCond .le 14, 3) := by decide +kernel
theorem dX4_say_45 : decode cX4_say 45 = .ok (.lload 5, 2) := by decide +kernel
theorem dX4_say_47 : decode cX4_say 47 = .ok (.ldc2_w 124, 3) := by decide +kernel
theorem dX4_say_50 : decode cX4_say 50 = .ok (.lmul, 1) := by decide +kernel
theorem dX4_say_51 : decode cX4_say 51 = .ok (.lstore 5, 2) := by decide +kernel
theorem dX4_say_53 : decode cX4_say 53 = .ok (.goto (-19), 3) := by decide +kernel
theorem dX4_say_56 : decode cX4_say 56 = .ok (.lload 5, 2) := by decide +kernel
theorem dX4_say_58 : decode cX4_say 58 = .ok (.lconst 0, 1) := by decide +kernel
theorem dX4_say_59 : decode cX4_say 59 = .ok (.lcmp, 1) := by decide +kernel
theorem dX4_say_60 : decode cX4_say 60 = .ok (.ifCond .le 31, 3) := by decide +kernel
theorem dX4_say_63 : decode cX4_say 63 = .ok (.aload_n 0, 1) := by decide +kernel
theorem dX4_say_64 : decode cX4_say 64 = .ok (.ldc2_w 126, 3) := by decide +kernel
theorem dX4_say_67 : decode cX4_say 67 = .ok (.lload_n 3, 1) := by decide +kernel
theorem dX4_say_68 : decode cX4_say 68 = .ok (.lload 5, 2) := by decide +kernel
theorem dX4_say_70 : decode cX4_say 70 = .ok (.ldiv, 1) := by decide +kernel
theorem dX4_say_71 : decode cX4_say 71 = .ok (.ldc2_w 124, 3) := by decide +kernel
theorem dX4_say_74 : decode cX4_say 74 = .ok (.lrem, 1) := by decide +kernel
theorem dX4_say_75 : decode cX4_say 75 = .ok (.ladd, 1) := by decide +kernel
theorem dX4_say_76 : decode cX4_say 76 = .ok (.l2i, 1) := by decide +kernel
theorem dX4_say_77 : decode cX4_say 77 = .ok (.invokevirtual 118, 3) := by decide +kernel
theorem dX4_say_80 : decode cX4_say 80 = .ok (.lload 5, 2) := by decide +kernel
theorem dX4_say_82 : decode cX4_say 82 = .ok (.ldc2_w 124, 3) := by decide +kernel
theorem dX4_say_85 : decode cX4_say 85 = .ok (.ldiv, 1) := by decide +kernel
theorem dX4_say_86 : decode cX4_say 86 = .ok (.lstore 5, 2) := by decide +kernel
theorem dX4_say_88 : decode cX4_say 88 = .ok (.goto (-32), 3) := by decide +kernel
theorem dX4_say_91 : decode cX4_say 91 = .ok (.return_, 1) := by decide +kernel
set_option maxRecDepth 20000 in
theorem ggX4_print_X4_put : GoodIn wsX4_print wsX4_put := goodIn_r _ [10, 11, 1, 27, 28, 29, 30, 31, 32, 33, 34, 35, 36, 37, 38, 39, 40, 41] (by decide +kernel) (by decide +kernel)
set_option maxRecDepth 20000 in
theorem gX4_print_X4_put : GoodIn wsX4_print (wsV RX4 118 RX4 yX4_put wsX4_put) := goodIn_app (goodIn_of _ (by decide +kernel)) ggX4_print_X4_put
set_option maxRecDepth 20000 in
theorem ggX4_print_X4_say : GoodIn wsX4_print wsX4_say := goodIn_r _ [15, 16, 17, 18, 6, 7, 8, 9, 10, 11, 1, 27, 28, 29, 30, 31, 32, 33, 34, 35, 36, 37, 38, 39, 40, 41] (by decide +kernel) (by decide +kernel)
set_option maxRecDepth 20000 in
theorem gX4_print_X4_say : GoodIn wsX4_print (wsV RX4 128 RX4 yX4_say wsX4_say) := goodIn_app (goodIn_of _ (by decide +kernel)) ggX4_print_X4_say
set_option maxRecDepth 20000 in
theorem ggX4_print_X4_isMarked : GoodIn wsX4_print wsX4_isMarked := goodIn_r _ [22, 2, 23, 24, 25, 9, 26, 27, 28, 29, 30, 31, 32, 33, 34, 35, 36, 37, 38, 39, 40, 41] (by decide +kernel) (by decide +kernel)
set_option maxRecDepth 20000 in
theorem gX4_print_X4_isMarked : GoodIn wsX4_print (wsV RX4 106 RX4 yX4_isMarked wsX4_isMarked) := goodIn_app (goodIn_of _ (by decide +kernel)) ggX4_print_X4_isMarked
theorem dX4_print_0 : decode cX4_print 0 = .ok (.iload_n 1, 1) := by decide +kernel
theorem dX4_print_1 : decode cX4_print 1 = .ok (.sipush 200, 3) := by decide +kernel
theorem dX4_print_4 : decode cX4_print 4 = .ok (.imul, 1) := by decide +kernel
theorem dX4_print_5 : decode cX4_print 5 = .ok (.iload_n 2, 1) := by decide +kernel
theorem dX4_print_6 : decode cX4_print 6 = .ok (.iadd, 1) := by decide +kernel
theorem dX4_print_7 : decode cX4_print 7 = .ok (.istore_n 3, 1) := by decide +kernel
theorem dX4_print_8 : decode cX4_print 8 = .ok (.aload_n 0, 1) := by decide +kernel
theorem dX4_print_9 : decode cX4_print 9 = .ok (.iconst 0, 1) := by decide +kernel
theorem dX4_print_10 : decode cX4_print 10 = .ok (.putfield 115, 3) := by decide +kernel
theorem dX4_print_13 : decode cX4_print 13 = .ok (.aload_n 0, 1) := by decide +kernel
theorem dX4_print_14 : decode cX4_print 14 = .ok (.aload_n 0, 1) := by decide +kernel
theorem dX4_print_15 : decode cX4_print 15 = .ok (.getfield 20, 3) := by decide +kernel
theorem dX4_print_18 : decode cX4_print 18 = .ok (.iload_n 3, 1) := by decide +kernel
theorem dX4_print_19 : decode cX4_print 19 = .ok (.iaload, 1) := by decide +kernel
theorem dX4_print_20 : decode cX4_print 20 = .ok (.ifCond .ne 8, 3) := by decide +kernel
theorem dX4_print_23 : decode cX4_print 23 = .ok (.bipush 82, 2) := by decide +kernel
theorem dX4_print_25 : decode cX4_print 25 = .ok (.goto 35, 3) := by decide +kernel
theorem dX4_print_28 : decode cX4_print 28 = .ok (.aload_n 0, 1) := by decide +kernel
theorem dX4_print_29 : decode cX4_print 29 = .ok (.getfield 20, 3) := by decide +kernel
theorem dX4_print_32 : decode cX4_print 32 = .ok (.iload_n 3, 1) := by decide +kernel
theorem dX4_print_33 : decode cX4_print 33 = .ok (.iaload, 1) := by decide +kernel
theorem dX4_print_34 : decode cX4_print 34 = .ok (.iconst 1, 1) := by decide +kernel
theorem dX4_print_35 : decode cX4_print 35 = .ok (.if_icmp .ne 8, 3) := by decide +kernel
theorem dX4_print_38 : decode cX4_print 38 = .ok (.bipush 90, 2) := by decide +kernel
theorem dX4_print_40 : decode cX4_print 40 = .ok (.goto 20, 3) := by decide +kernel
theorem dX4_print_43 : decode cX4_print 43 = .ok (.aload_n 0, 1) := by decide +kernel
theorem dX4_print_44 : decode cX4_print 44 = .ok (.getfield 20, 3) := by decide +kernel
theorem dX4_print_47 : decode cX4_print 47 = .ok (.iload_n 3, 1) := by decide +kernel
theorem dX4_print_48 : decode cX4_print 48 = .ok (.iaload, 1) := by decide +kernel
theorem dX4_print_49 : decode cX4_print 49 = .ok (.iconst 2, 1) := by decide +kernel
theorem dX4_print_50 : decode cX4_print 50 = .ok (.if_icmp .ne 8, 3) := by decide +kernel
theorem dX4_print_53 : decode cX4_print 53 = .ok (.bipush 66, 2) := by decide +kernel
theorem dX4_print_55 : decode cX4_print 55 = .ok (.goto 5, 3) := by decide +kernel
theorem dX4_print_58 : decode cX4_print 58 = .ok (.bipush 83, 2) := by decide +kernel
theorem dX4_print_60 : decode cX4_print 60 = .ok (.invokevirtual 118, 3) := by decide +kernel
theorem dX4_print_63 : decode cX4_print 63 = .ok (.aload_n 0, 1) := by decide +kernel
theorem dX4_print_64 : decode cX4_print 64 = .ok (.aload_n 0, 1) := by decide +kernel
theorem dX4_print_65 : decode cX4_print 65 = .ok (.getfield 23, 3) := by decide +kernel
theorem dX4_print_68 : decode cX4_print 68 = .ok (.iload_n 3, 1) := by decide +kernel
theorem dX4_print_69 : decode cX4_print 69 = .ok (.laload, 1) := by decide +kernel
theorem dX4_print_70 : decode cX4_print 70 = .ok (.invokevirtual 128, 3) := by decide +kernel
theorem dX4_print_73 : decode cX4_print 73 = .ok (.aload_n 0, 1) := by decide +kernel
theorem dX4_print_74 : decode cX4_print 74 = .ok (.getfield 20, 3) := by decide +kernel
theorem dX4_print_77 : decode cX4_print 77 = .ok (.iload_n 3, 1) := by decide +kernel
theorem dX4_print_78 : decode cX4_print 78 = .ok (.iaload, 1) := by decide +kernel
theorem dX4_print_79 : decode cX4_print 79 = .ok (.ifCond .ne 24, 3) := by decide +kernel
theorem dX4_print_82 : decode cX4_print 82 = .ok (.aload_n 0, 1) := by decide +kernel
theorem dX4_print_83 : decode cX4_print 83 = .ok (.aload_n 0, 1) := by decide +kernel
theorem dX4_print_84 : decode cX4_print 84 = .ok (.getfield 26, 3) := by decide +kernel
theorem dX4_print_87 : decode cX4_print 87 = .ok (.iload_n 3, 1) := by decide +kernel
theorem dX4_print_88 : decode cX4_print 88 = .ok (.laload, 1) := by decide +kernel
theorem dX4_print_89 : decode cX4_print 89 = .ok (.invokevirtual 128, 3) := by decide +kernel
theorem dX4_print_92 : decode cX4_print 92 = .ok (.aload_n 0, 1) := by decide +kernel
theorem dX4_print_93 : decode cX4_print 93 = .ok (.aload_n 0, 1) := by decide +kernel
theorem dX4_print_94 : decode cX4_print 94 = .ok (.getfield 29, 3) := by decide +kernel
theorem dX4_print_97 : decode cX4_print 97 = .ok (.iload_n 3, 1) := by decide +kernel
theorem dX4_print_98 : decode cX4_print 98 = .ok (.iaload, 1) := by decide +kernel
theorem dX4_print_99 : decode cX4_print 99 = .ok (.i2l, 1) := by decide +kernel
theorem dX4_print_100 : decode cX4_print 100 = .ok (.invokevirtual 128, 3) := by decide +kernel
theorem dX4_print_103 : decode cX4_print 103 = .ok (.aload_n 0, 1) := by decide +kernel
theorem dX4_print_104 : decode cX4_print 104 = .ok (.iload_n 1, 1) := by decide +kernel
theorem dX4_print_105 : decode cX4_print 105 = .ok (.iload_n 2, 1) := by decide +kernel
theorem dX4_print_106 : decode cX4_print 106 = .ok (.invokevirtual 106, 3) := by decide +kernel
theorem dX4_print_109 : decode cX4_print 109 = .ok (.ifCond .eq 15, 3) := by decide +kernel
theorem dX4_print_112 : decode cX4_print 112 = .ok (.aload_n 0, 1) := by decide +kernel
theorem dX4_print_113 : decode cX4_print 113 = .ok (.bipush 32, 2) := by decide +kernel
theorem dX4_print_115 : decode cX4_print 115 = .ok (.invokevirtual 118, 3) := by decide +kernel
theorem dX4_print_118 : decode cX4_print 118 = .ok (.aload_n 0, 1) := by decide +kernel
theorem dX4_print_119 : decode cX4_print 119 = .ok (.bipush 42, 2) := by decide +kernel
theorem dX4_print_121 : decode cX4_print 121 = .ok (.invokevirtual 118, 3) := by decide +kernel
theorem dX4_print_124 : decode cX4_print 124 = .ok (.aload_n 0, 1) := by decide +kernel
theorem dX4_print_125 : decode cX4_print 125 = .ok (.bipush 10, 2) := by decide +kernel
theorem dX4_print_127 : decode cX4_print 127 = .ok (.invokevirtual 118, 3) := by decide +kernel
theorem dX4_print_130 : decode cX4_print 130 = .ok (.return_, 1) := by decide +kernel
set_option maxRecDepth 20000 in
theorem ggX4_roll_X4_isMeter : GoodIn wsX4_roll wsX4_isMeter := goodIn_r _ [9, 10, 38, 39, 40, 41, 42, 43, 44, 45, 46, 47, 48, 49, 50, 51, 52] (by decide +kernel) (by decide +kernel)
set_option maxRecDepth 20000 in
theorem gX4_roll_X4_isMeter : GoodIn wsX4_roll (wsV RX4 54 RX4 yX4_isMeter wsX4_isMeter) := goodIn_app (goodIn_of _ (by decide +kernel)) ggX4_roll_X4_isMeter
set_option maxRecDepth 20000 in
theorem ggX4_roll_X4_print : GoodIn wsX4_roll wsX4_print := goodIn_r _ [14, 3, 15, 16, 17, 18, 19, 20, 21, 8, 22, 4, 23, 24, 25, 26, 27, 28, 29, 30, 31, 32, 33, 34, 35, 36, 37, 38, 39, 40, 41, 42, 43, 44, 45, 46, 47, 48, 49, 50, 51, 52] (by decide +kernel) (by decide +kernel)
set_option maxRecDepth 20000 in
theorem gX4_roll_X4_print : GoodIn wsX4_roll (wsV RX4 132 RX4 yX4_print wsX4_print) := goodIn_app (goodIn_of _ (by decide +kernel)) ggX4_roll_X4_print
theorem dX4_roll_0 : decode cX4_roll 0 = .ok (.aload_n 0, 1) := by decide +kernel
theorem dX4_roll_1 : decode cX4_roll 1 = .ok (.iconst 0, 1) := by decide +kernel
theorem dX4_roll_2 : decode cX4_roll 2 = .ok (.putfield 47, 3) := by decide +kernel
theorem dX4_roll_5 : decode cX4_roll 5 = .ok (.aload_n 0, 1) := by decide +kernel
theorem dX4_roll_6 : decode cX4_roll 6 = .ok (.iload_n 1, 1) := by decide +kernel
theorem dX4_roll_7 : decode cX4_roll 7 = .ok (.invokevirtual 54, 3) := by decide +kernel
theorem dX4_roll_10 : decode cX4_roll 10 = .ok (.ifCond .eq 7, 3) := by decide +kernel
theorem dX4_roll_13 : decode cX4_roll 13 = .ok (.iload_n 2, 1) := by decide +kernel
theorem dX4_roll_14 : decode cX4_roll 14 = .ok (.ifCond .ge 5, 3) := by decide +kernel
theorem dX4_roll_17 : decode cX4_roll 17 = .ok (.iconst (-1), 1) := by decide +kernel
theorem dX4_roll_18 : decode cX4_roll 18 = .ok (.ireturn, 1) := by decide +kernel
theorem dX4_roll_19 : decode cX4_roll 19 = .ok (.iload_n 2, 1) := by decide +kernel
theorem dX4_roll_20 : decode cX4_roll 20 = .ok (.istore_n 3, 1) := by decide +kernel
theorem dX4_roll_21 : decode cX4_roll 21 = .ok (.iconst 0, 1) := by decide +kernel
theorem dX4_roll_22 : decode cX4_roll 22 = .ok (.istore 4, 2) := by decide +kernel
theorem dX4_roll_24 : decode cX4_roll 24 = .ok (.iload 4, 2) := by decide +kernel
theorem dX4_roll_26 : decode cX4_roll 26 = .ok (.aload_n 0, 1) := by decide +kernel
theorem dX4_roll_27 : decode cX4_roll 27 = .ok (.getfield 13, 3) := by decide +kernel
theorem dX4_roll_30 : decode cX4_roll 30 = .ok (.iload_n 1, 1) := by decide +kernel
theorem dX4_roll_31 : decode cX4_roll 31 = .ok (.iaload, 1) := by decide +kernel
theorem dX4_roll_32 : decode cX4_roll 32 = .ok (.if_icmp .ge 38, 3) := by decide +kernel
theorem dX4_roll_35 : decode cX4_roll 35 = .ok (.aload_n 0, 1) := by decide +kernel
theorem dX4_roll_36 : decode cX4_roll 36 = .ok (.iload_n 1, 1) := by decide +kernel
theorem dX4_roll_37 : decode cX4_roll 37 = .ok (.iload 4, 2) := by decide +kernel
theorem dX4_roll_39 : decode cX4_roll 39 = .ok (.invokevirtual 132, 3) := by decide +kernel
theorem dX4_roll_42 : decode cX4_roll 42 = .ok (.iload_n 3, 1) := by decide +kernel
theorem dX4_roll_43 : decode cX4_roll 43 = .ok (.aload_n 0, 1) := by decide +kernel
theorem dX4_roll_44 : decode cX4_roll 44 = .ok (.getfield 115, 3) := by decide +kernel
theorem dX4_roll_47 : decode cX4_roll 47 = .ok (.if_icmp .ge 10, 3) := by decide +kernel
theorem dX4_roll_50 : decode cX4_roll 50 = .ok (.aload_n 0, 1) := by decide +kernel
theorem dX4_roll_51 : decode cX4_roll 51 = .ok (.getfield 44, 3) := by decide +kernel
theorem dX4_roll_54 : decode cX4_roll 54 = .ok (.iload_n 3, 1) := by decide +kernel
theorem dX4_roll_55 : decode cX4_roll 55 = .ok (.iaload, 1) := by decide +kernel
theorem dX4_roll_56 : decode cX4_roll 56 = .ok (.ireturn, 1) := by decide +kernel
theorem dX4_roll_57 : decode cX4_roll 57 = .ok (.iload_n 3, 1) := by decide +kernel
theorem dX4_roll_58 : decode cX4_roll 58 = .ok (.aload_n 0, 1) := by decide +kernel
theorem dX4_roll_59 : decode cX4_roll 59 = .ok (.getfield 115, 3) := by decide +kernel
theorem dX4_roll_62 : decode cX4_roll 62 = .ok (.isub, 1) := by decide +kernel
theorem dX4_roll_63 : decode cX4_roll 63 = .ok (.istore_n 3, 1) := by decide +kernel
theorem dX4_roll_64 : decode cX4_roll 64 = .ok (.iinc 4 1, 3) := by decide +kernel
theorem dX4_roll_67 : decode cX4_roll 67 = .ok (.goto (-43), 3) := by decide +kernel
theorem dX4_roll_70 : decode cX4_roll 70 = .ok (.iconst (-1), 1) := by decide +kernel
theorem dX4_roll_71 : decode cX4_roll 71 = .ok (.ireturn, 1) := by decide +kernel
theorem dJx00060_init_a7421_0 : decode cJx00060_init_a7421 0 = .ok (.aload_n 0, 1) := by decide +kernel
theorem dJx00060_init_a7421_1 : decode cJx00060_init_a7421 1 = .ok (.aload_n 1, 1) := by decide +kernel
theorem dJx00060_init_a7421_2 : decode cJx00060_init_a7421 2 = .ok (.invokespecial 7, 3) := by decide +kernel
theorem dJx00060_init_a7421_5 : decode cJx00060_init_a7421 5 = .ok (.return_, 1) := by decide +kernel
theorem dJ9_abs_067f4_0 : decode cJ9_abs_067f4 0 = .ok (.lload_n 0, 1) := by decide +kernel
theorem dJ9_abs_067f4_1 : decode cJ9_abs_067f4 1 = .ok (.lconst 0, 1) := by decide +kernel
theorem dJ9_abs_067f4_2 : decode cJ9_abs_067f4 2 = .ok (.lcmp, 1) := by decide +kernel
theorem dJ9_abs_067f4_3 : decode cJ9_abs_067f4 3 = .ok (.ifCond .ge 8, 3) := by decide +kernel
theorem dJ9_abs_067f4_6 : decode cJ9_abs_067f4 6 = .ok (.lload_n 0, 1) := by decide +kernel
theorem dJ9_abs_067f4_7 : decode cJ9_abs_067f4 7 = .ok (.lneg, 1) := by decide +kernel
theorem dJ9_abs_067f4_8 : decode cJ9_abs_067f4 8 = .ok (.goto 4, 3) := by decide +kernel
theorem dJ9_abs_067f4_11 : decode cJ9_abs_067f4 11 = .ok (.lload_n 0, 1) := by decide +kernel
theorem dJ9_abs_067f4_12 : decode cJ9_abs_067f4 12 = .ok (.lreturn, 1) := by decide +kernel
theorem dJ9_max_7cf53_0 : decode cJ9_max_7cf53 0 = .ok (.iload_n 0, 1) := by decide +kernel
theorem dJ9_max_7cf53_1 : decode cJ9_max_7cf53 1 = .ok (.iload_n 1, 1) := by decide +kernel
theorem dJ9_max_7cf53_2 : decode cJ9_max_7cf53 2 = .ok (.if_icmp .lt 7, 3) := by decide +kernel
theorem dJ9_max_7cf53_5 : decode cJ9_max_7cf53 5 = .ok (.iload_n 0, 1) := by decide +kernel
theorem dJ9_max_7cf53_6 : decode cJ9_max_7cf53 6 = .ok (.goto 4, 3) := by decide +kernel
theorem dJ9_max_7cf53_9 : decode cJ9_max_7cf53 9 = .ok (.iload_n 1, 1) := by decide +kernel
theorem dJ9_max_7cf53_10 : decode cJ9_max_7cf53 10 = .ok (.ireturn, 1) := by decide +kernel
theorem dJ9_min_f86c9_0 : decode cJ9_min_f86c9 0 = .ok (.lload_n 0, 1) := by decide +kernel
theorem dJ9_min_f86c9_1 : decode cJ9_min_f86c9 1 = .ok (.lload_n 2, 1) := by decide +kernel
theorem dJ9_min_f86c9_2 : decode cJ9_min_f86c9 2 = .ok (.lcmp, 1) := by decide +kernel
theorem dJ9_min_f86c9_3 : decode cJ9_min_f86c9 3 = .ok (.ifCond .gt 7, 3) := by decide +kernel
theorem dJ9_min_f86c9_6 : decode cJ9_min_f86c9 6 = .ok (.lload_n 0, 1) := by decide +kernel
theorem dJ9_min_f86c9_7 : decode cJ9_min_f86c9 7 = .ok (.goto 4, 3) := by decide +kernel
theorem dJ9_min_f86c9_10 : decode cJ9_min_f86c9 10 = .ok (.lload_n 2, 1) := by decide +kernel
theorem dJ9_min_f86c9_11 : decode cJ9_min_f86c9 11 = .ok (.lreturn, 1) := by decide +kernel
set_option maxRecDepth 20000 in
theorem ggL_litres_X3_litres : GoodIn wsL_litres wsX3_litres := goodIn_r _ [5, 6, 7, 8, 9, 10, 11, 12, 4, 13, 14, 15, 16, 17, 18, 19, 20, 21, 22, 23, 24, 25, 26, 27, 28, 29, 30, 31, 32, 33, 34, 35, 36, 37, 38, 39, 40, 41, 42, 43, 44, 45, 46, 47, 48, 49, 50, 51, 52, 53, 54, 55, 56, 57, 58, 59, 60, 61, 62, 63, 64, 65, 66, 67, 68, 69, 70, 71, 72, 73, 74, 75, 76, 77, 78, 79, 80, 81, 82, 83, 84, 85, 86, 87, 88, 89, 90, 91, 92, 93, 94, 95, 96, 97, 98, 99, 100] (by decide +kernel) (by decide +kernel)
set_option maxRecDepth 20000 in
theorem gL_litres_X3_litres : GoodIn wsL_litres (wsV RL 7 RX3 yX3_litres wsX3_litres) := goodIn_app (goodIn_of _ (by decide +kernel)) ggL_litres_X3_litres
theorem dL_litres_0 : decode cL_litres 0 = .ok (.aload 4, 2) := by decide +kernel
theorem dL_litres_2 : decode cL_litres 2 = .ok (.iconst 0, 1) := by decide +kernel
theorem dL_litres_3 : decode cL_litres 3 = .ok (.aload_n 0, 1) := by decide +kernel
theorem dL_litres_4 : decode cL_litres 4 = .ok (.iload_n 1, 1) := by decide +kernel
theorem dL_litres_5 : decode cL_litres 5 = .ok (.iload_n 2, 1) := by decide +kernel
theorem dL_litres_6 : decode cL_litres 6 = .ok (.iload_n 3, 1) := by decide +kernel
theorem dL_litres_7 : decode cL_litres 7 = .ok (.invokevirtual 7, 3) := by decide +kernel
theorem dL_litres_10 : decode cL_litres 10 = .ok (.lastore, 1) := by decide +kernel
theorem dL_litres_11 : decode cL_litres 11 = .ok (.goto 7, 3) := by decide +kernel
theorem dL_litres_14 : decode cL_litres 14 = .ok (.astore 5, 2) := by decide +kernel
theorem dL_litres_16 : decode cL_litres 16 = .ok (.iconst 1, 1) := by decide +kernel
theorem dL_litres_17 : decode cL_litres 17 = .ok (.ireturn, 1) := by decide +kernel
theorem dL_litres_18 : decode cL_litres 18 = .ok (.iconst 0, 1) := by decide +kernel
theorem dL_litres_19 : decode cL_litres 19 = .ok (.ireturn, 1) := by decide +kernel
set_option maxRecDepth 20000 in
theorem ggL_law_X3_init : GoodIn wsL_law wsX3_init := goodIn_r _ [10, 11, 12, 13, 14, 15, 16, 426, 427] (by decide +kernel) (by decide +kernel)
set_option maxRecDepth 20000 in
theorem gL_law_X3_init : GoodIn wsL_law (wsX3_init) := ggL_law_X3_init
set_option maxRecDepth 20000 in
theorem ggL_law_X4_init : GoodIn wsL_law wsX4_init := goodIn_r _ [19, 20, 12, 13, 6, 21, 22, 23, 24, 25, 26, 27, 28, 29, 30, 31, 32, 33, 428, 429, 430, 431, 432, 433, 434, 435, 436, 437, 438, 439, 440, 441, 442] (by decide +kernel) (by decide +kernel)
set_option maxRecDepth 20000 in
theorem gL_law_X4_init : GoodIn wsL_law (wsX4_init) := ggL_law_X4_init
set_option maxRecDepth 20000 in
theorem ggL_law_X3_meter : GoodIn wsL_law wsX3_meter := goodIn_r _ [37, 16, 15, 14, 38, 39, 40, 41, 42, 43, 12, 13, 44, 45, 46, 47, 48, 49, 50, 51, 52, 53, 54, 55, 56, 57, 22, 58, 6, 59, 60, 61, 62, 63, 64, 65, 66, 67, 68, 69, 70, 71, 72, 73, 426, 427, 443, 444, 445, 446, 447, 448, 449, 450, 451, 452, 453, 454, 455, 456, 457] (by decide +kernel) (by decide +kernel)
set_option maxRecDepth 20000 in
theorem gL_law_X3_meter : GoodIn wsL_law (wsV RL 21 RX3 yX3_meter wsX3_meter) := goodIn_app (goodIn_of _ (by decide +kernel)) ggL_law_X3_meter
set_option maxRecDepth 20000 in
theorem ggL_law_X4_meter : GoodIn wsL_law wsX4_meter := goodIn_r _ [77, 78, 79, 21, 428, 429, 430, 431, 432, 433, 434, 435, 436, 437, 438, 439, 440, 441, 442] (by decide +kernel) (by decide +kernel)
set_option maxRecDepth 20000 in
theorem gL_law_X4_meter : GoodIn wsL_law (wsV RL 25 RX4 yX4_meter wsX4_meter) := goodIn_app (goodIn_of _ (by decide +kernel)) ggL_law_X4_meter
set_option maxRecDepth 20000 in
theorem ggL_law_X3_pulses : GoodIn wsL_law wsX3_pulses := goodIn_r _ [83, 84, 85, 86, 2, 87, 16, 15, 88, 89, 90, 39, 91, 47, 92, 53, 93, 94, 95, 51, 52, 96, 97, 98, 99, 100, 50, 101, 73, 67, 68, 69, 72, 70, 102, 103, 104, 105, 66, 106, 107, 108, 109, 110, 111, 112, 113, 114, 426, 427, 443, 444, 445, 446, 447, 448, 449, 450, 451, 452, 453, 454, 455, 456, 457] (by decide +kernel) (by decide +kernel)
set_option maxRecDepth 20000 in
theorem gL_law_X3_pulses : GoodIn wsL_law (wsV RL 26 RX3 yX3_pulses wsX3_pulses) := goodIn_app (goodIn_of _ (by decide +kernel)) ggL_law_X3_pulses
set_option maxRecDepth 20000 in
theorem ggL_law_X4_pulses : GoodIn wsL_law wsX4_pulses := goodIn_r _ [118, 78, 24, 119, 120, 23, 25, 27, 121, 122, 123, 5, 124, 79, 125, 126, 127, 128, 26, 28, 29, 129, 130, 131, 132, 133, 21, 134, 135, 136, 137, 428, 429, 430, 431, 432, 433, 434, 435, 436, 437, 438, 439, 440, 441, 442] (by decide +kernel) (by decide +kernel)
set_option maxRecDepth 20000 in
theorem gL_law_X4_pulses : GoodIn wsL_law (wsV RL 30 RX4 yX4_pulses wsX4_pulses) := goodIn_app (goodIn_of _ (by decide +kernel)) ggL_law_X4_pulses
set_option maxRecDepth 20000 in
theorem ggL_law_X3_row : GoodIn wsL_law wsX3_row := goodIn_r _ [141, 84, 85, 86, 2, 87, 16, 15, 142, 143, 144, 46, 145, 146, 147, 148, 58, 59, 60, 61, 149, 150, 151, 152, 96, 97, 153, 154, 155, 156, 443, 444, 445, 446, 426, 427, 447, 448, 449, 450] (by decide +kernel) (by decide +kernel)
set_option maxRecDepth 20000 in
theorem gL_law_X3_row : GoodIn wsL_law (wsV RL 31 RX3 yX3_row wsX3_row) := goodIn_app (goodIn_of _ (by decide +kernel)) ggL_law_X3_row
set_option maxRecDepth 20000 in
theorem ggL_law_X4_row : GoodIn wsL_law wsX4_row := goodIn_r _ [160, 78, 161, 24, 30, 31, 32, 121, 122, 123, 5, 124, 79, 428, 429, 430, 431, 432, 433, 434, 435, 436, 437, 438, 439, 440, 441, 442] (by decide +kernel) (by decide +kernel)
set_option maxRecDepth 20000 in
theorem gL_law_X4_row : GoodIn wsL_law (wsV RL 35 RX4 yX4_row wsX4_row) := goodIn_app (goodIn_of _ (by decide +kernel)) ggL_law_X4_row
set_option maxRecDepth 20000 in
theorem ggL_law_L_litres : GoodIn wsL_law wsL_litres := goodIn_r _ [165, 166, 167, 168, 2, 169, 170, 171, 172, 173, 84, 85, 86, 87, 16, 15, 174, 108, 109, 50, 110, 73, 175, 176, 177, 39, 178, 179, 180, 181, 182, 51, 47, 183, 184, 185, 186, 67, 187, 188, 189, 190, 68, 107, 191, 192, 193, 194, 69, 195, 196, 197, 46, 198, 59, 199, 200, 201, 202, 61, 58, 203, 204, 205, 206, 207, 208, 209, 210, 211, 212, 213, 214, 60, 215, 216, 217, 218, 443, 444, 445, 446, 458, 459, 460, 461, 462, 463, 426, 427, 451, 452, 453, 454, 455, 456, 457, 447, 448, 449, 450] (by decide +kernel) (by decide +kernel)
set_option maxRecDepth 20000 in
theorem gL_law_L_litres : GoodIn wsL_law (va_wsS RL 36 yL_litres wsL_litres) := goodIn_app (goodIn_of _ (by decide +kernel)) ggL_law_L_litres
set_option maxRecDepth 20000 in
theorem ggL_law_X4_litres : GoodIn wsL_law wsX4_litres := goodIn_r _ [222, 78, 223, 25, 28, 26, 31, 32, 121, 122, 123, 5, 124, 79, 224, 225, 226, 227, 23, 228, 229, 230, 231, 24, 30, 232, 233, 234, 428, 429, 430, 431, 432, 433, 434, 435, 436, 437, 438, 439, 440, 441, 442] (by decide +kernel) (by decide +kernel)
set_option maxRecDepth 20000 in
theorem gL_law_X4_litres : GoodIn wsL_law (wsV RL 41 RX4 yX4_litres wsX4_litres) := goodIn_app (goodIn_of _ (by decide +kernel)) ggL_law_X4_litres
set_option maxRecDepth 20000 in
theorem ggL_law_X4_thrown : GoodIn wsL_law wsX4_thrown := goodIn_r _ [238, 78, 428, 429, 430, 431, 432, 433, 434, 435, 436, 437, 438, 439, 440, 441, 442] (by decide +kernel) (by decide +kernel)
set_option maxRecDepth 20000 in
theorem gL_law_X4_thrown : GoodIn wsL_law (wsV RL 42 RX4 yX4_thrown wsX4_thrown) := goodIn_app (goodIn_of _ (by decide +kernel)) ggL_law_X4_thrown
set_option maxRecDepth 20000 in
theorem ggL_law_X3_rows : GoodIn wsL_law wsX3_rows := goodIn_r _ [242, 84, 85, 86, 2, 87, 16, 15, 443, 444, 445, 446, 451, 452, 453, 454, 455, 456, 457, 426, 427] (by decide +kernel) (by decide +kernel)
set_option maxRecDepth 20000 in
theorem gL_law_X3_rows : GoodIn wsL_law (wsV RL 46 RX3 yX3_rows wsX3_rows) := goodIn_app (goodIn_of _ (by decide +kernel)) ggL_law_X3_rows
set_option maxRecDepth 20000 in
theorem ggL_law_X4_rows : GoodIn wsL_law wsX4_rows := goodIn_r _ [246, 78, 23, 121, 122, 123, 5, 124, 79, 428, 429, 430, 431, 432, 433, 434, 435, 436, 437, 438, 439, 440, 441, 442] (by decide +kernel) (by decide +kernel)
set_option maxRecDepth 20000 in
theorem gL_law_X4_rows : GoodIn wsL_law (wsV RL 50 RX4 yX4_rows wsX4_rows) := goodIn_app (goodIn_of _ (by decide +kernel)) ggL_law_X4_rows
set_option maxRecDepth 20000 in
theorem ggL_law_X3_check : GoodIn wsL_law wsX3_check := goodIn_r _ [250, 84, 85, 86, 2, 87, 16, 15, 251, 252, 253, 50, 254, 73, 70, 102, 103, 104, 105, 66, 106, 67, 68, 69, 107, 108, 109, 110, 111, 112, 113, 114, 443, 444, 445, 446, 426, 427, 451, 452, 453, 454, 455, 456, 457] (by decide +kernel) (by decide +kernel)
set_option maxRecDepth 20000 in
theorem gL_law_X3_check : GoodIn wsL_law (wsV RL 51 RX3 yX3_check wsX3_check) := goodIn_app (goodIn_of _ (by decide +kernel)) ggL_law_X3_check
set_option maxRecDepth 20000 in
theorem ggL_law_X4_check : GoodIn wsL_law wsX4_check := goodIn_r _ [258, 78, 23, 29, 121, 122, 123, 5, 124, 79, 129, 130, 131, 132, 133, 21, 26, 25, 27, 28, 134, 135, 136, 137, 428, 429, 430, 431, 432, 433, 434, 435, 436, 437, 438, 439, 440, 441, 442] (by decide +kernel) (by decide +kernel)
set_option maxRecDepth 20000 in
theorem gL_law_X4_check : GoodIn wsL_law (wsV RL 55 RX4 yX4_check wsX4_check) := goodIn_app (goodIn_of _ (by decide +kernel)) ggL_law_X4_check
set_option maxRecDepth 20000 in
theorem ggL_law_X3_poke : GoodIn wsL_law wsX3_poke := goodIn_r _ [262, 84, 85, 86, 2, 87, 16, 15, 263, 264, 265, 50, 266, 267, 67, 268, 184, 185, 186, 187, 188, 189, 190, 68, 107, 108, 109, 110, 73, 96, 97, 443, 444, 445, 446, 426, 427, 451, 452, 453, 454, 455, 456, 457] (by decide +kernel) (by decide +kernel)
set_option maxRecDepth 20000 in
theorem gL_law_X3_poke : GoodIn wsL_law (wsV RL 56 RX3 yX3_poke wsX3_poke) := goodIn_app (goodIn_of _ (by decide +kernel)) ggL_law_X3_poke
set_option maxRecDepth 20000 in
theorem ggL_law_X4_poke : GoodIn wsL_law wsX4_poke := goodIn_r _ [272, 78, 25, 273, 119, 26, 224, 225, 226, 5, 227, 23, 121, 122, 123, 124, 79, 428, 429, 430, 431, 432, 433, 434, 435, 436, 437, 438, 439, 440, 441, 442] (by decide +kernel) (by decide +kernel)
set_option maxRecDepth 20000 in
theorem gL_law_X4_poke : GoodIn wsL_law (wsV RL 60 RX4 yX4_poke wsX4_poke) := goodIn_app (goodIn_of _ (by decide +kernel)) ggL_law_X4_poke
set_option maxRecDepth 20000 in
theorem ggL_law_X3_seal : GoodIn wsL_law wsX3_seal := goodIn_r _ [277, 84, 85, 86, 2, 87, 16, 15, 278, 279, 280, 39, 281, 282, 52, 51, 283, 284, 96, 97, 98, 99, 100, 50, 101, 73, 67, 68, 69, 72, 70, 102, 103, 104, 105, 66, 106, 107, 108, 109, 110, 111, 112, 113, 114, 426, 427, 443, 444, 445, 446, 451, 452, 453, 454, 455, 456, 457] (by decide +kernel) (by decide +kernel)
set_option maxRecDepth 20000 in
theorem gL_law_X3_seal : GoodIn wsL_law (wsV RL 61 RX3 yX3_seal wsX3_seal) := goodIn_app (goodIn_of _ (by decide +kernel)) ggL_law_X3_seal
end
section
set_option maxRecDepth 20000 in
theorem ggL_law_X4_seal : GoodIn wsL_law wsX4_seal := goodIn_r _ [288, 78, 23, 121, 122, 123, 5, 124, 79, 289, 290, 291, 292, 25, 125, 126, 127, 128, 26, 27, 28, 29, 129, 130, 131, 132, 133, 21, 134, 135, 136, 137, 428, 429, 430, 431, 432, 433, 434, 435, 436, 437, 438, 439, 440, 441, 442] (by decide +kernel) (by decide +kernel)
set_option maxRecDepth 20000 in
theorem gL_law_X4_seal : GoodIn wsL_law (wsV RL 65 RX4 yX4_seal wsX4_seal) := goodIn_app (goodIn_of _ (by decide +kernel)) ggL_law_X4_seal
set_option maxRecDepth 20000 in
theorem ggL_law_X3_marked : GoodIn wsL_law wsX3_marked := goodIn_r _ [296, 84, 85, 86, 2, 87, 16, 15, 297, 298, 299, 50, 300, 72, 107, 108, 109, 110, 73, 443, 444, 445, 446, 426, 427, 451, 452, 453, 454, 455, 456, 457] (by decide +kernel) (by decide +kernel)
set_option maxRecDepth 20000 in
theorem gL_law_X3_marked : GoodIn wsL_law (wsV RL 66 RX3 yX3_marked wsX3_marked) := goodIn_app (goodIn_of _ (by decide +kernel)) ggL_law_X3_marked
set_option maxRecDepth 20000 in
theorem ggL_law_X4_marked : GoodIn wsL_law wsX4_marked := goodIn_r _ [304, 78, 224, 225, 226, 5, 227, 23, 121, 122, 123, 124, 79, 305, 306, 307, 308, 25, 289, 290, 291, 292, 428, 429, 430, 431, 432, 433, 434, 435, 436, 437, 438, 439, 440, 441, 442] (by decide +kernel) (by decide +kernel)
set_option maxRecDepth 20000 in
theorem gL_law_X4_marked : GoodIn wsL_law (wsV RL 70 RX4 yX4_marked wsX4_marked) := goodIn_app (goodIn_of _ (by decide +kernel)) ggL_law_X4_marked
set_option maxRecDepth 20000 in
theorem ggL_law_X3_gap : GoodIn wsL_law wsX3_gap := goodIn_r _ [312, 84, 85, 86, 2, 87, 16, 15, 313, 314, 315, 50, 316, 317, 73, 68, 318, 187, 188, 189, 190, 107, 108, 109, 110, 319, 320, 321, 322, 323, 324, 325, 151, 326, 443, 444, 445, 446, 426, 427, 451, 452, 453, 454, 455, 456, 457] (by decide +kernel) (by decide +kernel)
set_option maxRecDepth 20000 in
theorem gL_law_X3_gap : GoodIn wsL_law (wsV RL 71 RX3 yX3_gap wsX3_gap) := goodIn_app (goodIn_of _ (by decide +kernel)) ggL_law_X3_gap
set_option maxRecDepth 20000 in
theorem ggL_law_X4_gap : GoodIn wsL_law wsX4_gap := goodIn_r _ [330, 78, 23, 25, 27, 331, 332, 333, 121, 122, 123, 5, 124, 79, 428, 429, 430, 431, 432, 433, 434, 435, 436, 437, 438, 439, 440, 441, 442] (by decide +kernel) (by decide +kernel)
set_option maxRecDepth 20000 in
theorem gL_law_X4_gap : GoodIn wsL_law (wsV RL 75 RX4 yX4_gap wsX4_gap) := goodIn_app (goodIn_of _ (by decide +kernel)) ggL_law_X4_gap
set_option maxRecDepth 20000 in
theorem ggL_law_X3_rest : GoodIn wsL_law wsX3_rest := goodIn_r _ [337, 338, 339, 340, 84, 85, 86, 2, 87, 16, 15, 341, 96, 97, 342, 343, 344, 39, 345, 51, 346, 179, 180, 181, 182, 47, 183, 184, 185, 50, 186, 67, 187, 188, 189, 190, 68, 107, 108, 109, 110, 73, 191, 192, 193, 194, 69, 195, 196, 197, 46, 198, 59, 199, 200, 201, 202, 61, 58, 203, 204, 205, 206, 207, 208, 209, 210, 211, 212, 213, 214, 60, 217, 218, 426, 427, 443, 444, 445, 446, 451, 452, 453, 454, 455, 456, 457, 447, 448, 449, 450] (by decide +kernel) (by decide +kernel)
set_option maxRecDepth 20000 in
theorem gL_law_X3_rest : GoodIn wsL_law (wsV RL 76 RX3 yX3_rest wsX3_rest) := goodIn_app (goodIn_of _ (by decide +kernel)) ggL_law_X3_rest
set_option maxRecDepth 20000 in
theorem ggL_law_X4_rest : GoodIn wsL_law wsX4_rest := goodIn_r _ [350, 78, 351, 352, 23, 25, 28, 26, 31, 353, 32, 121, 122, 123, 5, 124, 79, 228, 229, 230, 231, 24, 30, 428, 429, 430, 431, 432, 433, 434, 435, 436, 437, 438, 439, 440, 441, 442] (by decide +kernel) (by decide +kernel)
set_option maxRecDepth 20000 in
theorem gL_law_X4_rest : GoodIn wsL_law (wsV RL 80 RX4 yX4_rest wsX4_rest) := goodIn_app (goodIn_of _ (by decide +kernel)) ggL_law_X4_rest
set_option maxRecDepth 20000 in
theorem ggL_law_X3_reset : GoodIn wsL_law wsX3_reset := goodIn_r _ [357, 84, 85, 86, 2, 87, 16, 15, 358, 359, 360, 39, 361, 93, 51, 362, 52, 96, 97, 98, 99, 100, 50, 101, 73, 67, 68, 69, 72, 70, 102, 103, 104, 105, 66, 106, 107, 108, 109, 110, 111, 112, 113, 114, 426, 427, 443, 444, 445, 446, 451, 452, 453, 454, 455, 456, 457] (by decide +kernel) (by decide +kernel)
set_option maxRecDepth 20000 in
theorem gL_law_X3_reset : GoodIn wsL_law (wsV RL 81 RX3 yX3_reset wsX3_reset) := goodIn_app (goodIn_of _ (by decide +kernel)) ggL_law_X3_reset
set_option maxRecDepth 20000 in
theorem ggL_law_X4_reset : GoodIn wsL_law wsX4_reset := goodIn_r _ [366, 78, 120, 23, 121, 122, 123, 5, 124, 79, 125, 126, 127, 128, 25, 26, 27, 28, 29, 129, 130, 131, 132, 133, 21, 134, 135, 136, 137, 428, 429, 430, 431, 432, 433, 434, 435, 436, 437, 438, 439, 440, 441, 442] (by decide +kernel) (by decide +kernel)
set_option maxRecDepth 20000 in
theorem gL_law_X4_reset : GoodIn wsL_law (wsV RL 85 RX4 yX4_reset wsX4_reset) := goodIn_app (goodIn_of _ (by decide +kernel)) ggL_law_X4_reset
set_option maxRecDepth 20000 in
theorem ggL_law_X3_roll : GoodIn wsL_law wsX3_roll := goodIn_r _ [370, 84, 85, 86, 2, 87, 16, 15, 371, 372, 373, 50, 374, 73, 375, 376, 377, 378, 379, 380, 381, 382, 187, 188, 189, 190, 68, 107, 108, 109, 110, 383, 384, 385, 386, 67, 69, 387, 388, 389, 390, 298, 299, 300, 72, 391, 392, 393, 394, 395, 396, 397, 398, 317, 399, 400, 401, 402, 403, 151, 404, 405, 443, 444, 445, 446, 426, 427, 451, 452, 453, 454, 455, 456, 457] (by decide +kernel) (by decide +kernel)
set_option maxRecDepth 20000 in
theorem gL_law_X3_roll : GoodIn wsL_law (wsV RL 86 RX3 yX3_roll wsX3_roll) := goodIn_app (goodIn_of _ (by decide +kernel)) ggL_law_X3_roll
set_option maxRecDepth 20000 in
theorem ggL_law_X4_roll : GoodIn wsL_law wsX4_roll := goodIn_r _ [409, 78, 23, 410, 33, 121, 122, 123, 5, 124, 79, 411, 412, 413, 414, 25, 26, 27, 28, 415, 416, 417, 418, 419, 420, 421, 422, 423, 424, 425, 305, 306, 307, 308, 289, 290, 291, 292, 428, 429, 430, 431, 432, 433, 434, 435, 436, 437, 438, 439, 440, 441, 442] (by decide +kernel) (by decide +kernel)
set_option maxRecDepth 20000 in
theorem gL_law_X4_roll : GoodIn wsL_law (wsV RL 89 RX4 yX4_roll wsX4_roll) := goodIn_app (goodIn_of _ (by decide +kernel)) ggL_law_X4_roll
theorem dL_law_0 : decode cL_law 0 = .ok (.new 8, 3) := by decide +kernel
theorem dL_law_3 : decode cL_law 3 = .ok (.dup, 1) := by decide +kernel
theorem dL_law_4 : decode cL_law 4 = .ok (.invokespecial 15, 3) := by decide +kernel
theorem dL_law_7 : decode cL_law 7 = .ok (.astore_n 1, 1) := by decide +kernel
theorem dL_law_8 : decode cL_law 8 = .ok (.new 16, 3) := by decide +kernel
theorem dL_law_11 : decode cL_law 11 = .ok (.dup, 1) := by decide +kernel
theorem dL_law_12 : decode cL_law 12 = .ok (.invokespecial 18, 3) := by decide +kernel
theorem dL_law_15 : decode cL_law 15 = .ok (.astore_n 2, 1) := by decide +kernel
theorem dL_law_16 : decode cL_law 16 = .ok (.iconst 1, 1) := by decide +kernel
theorem dL_law_17 : decode cL_law 17 = .ok (.newarray .long, 2) := by decide +kernel
theorem dL_law_19 : decode cL_law 19 = .ok (.astore_n 3, 1) := by decide +kernel
theorem dL_law_20 : decode cL_law 20 = .ok (.iconst 0, 1) := by decide +kernel
theorem dL_law_21 : decode cL_law 21 = .ok (.istore 4, 2) := by decide +kernel
theorem dL_law_23 : decode cL_law 23 = .ok (.iload 4, 2) := by decide +kernel
theorem dL_law_25 : decode cL_law 25 = .ok (.aload_n 0, 1) := by decide +kernel
theorem dL_law_26 : decode cL_law 26 = .ok (.arraylength, 1) := by decide +kernel
theorem dL_law_27 : decode cL_law 27 = .ok (.bipush 7, 2) := by decide +kernel
theorem dL_law_29 : decode cL_law 29 = .ok (.isub, 1) := by decide +kernel
theorem dL_law_30 : decode cL_law 30 = .ok (.if_icmp .gt 944, 3) := by decide +kernel
theorem dL_law_33 : decode cL_law 33 = .ok (.aload_n 0, 1) := by decide +kernel
theorem dL_law_34 : decode cL_law 34 = .ok (.iload 4, 2) := by decide +kernel
theorem dL_law_36 : decode cL_law 36 = .ok (.iaload, 1) := by decide +kernel
theorem dL_law_37 : decode cL_law 37 = .ok (.bipush 15, 2) := by decide +kernel
theorem dL_law_39 : decode cL_law 39 = .ok (.iand, 1) := by decide +kernel
theorem dL_law_40 : decode cL_law 40 = .ok (.tableswitch 928 0 12 #[68, 125, 252, 379, 458, 483, 520, 601, 666, 703, 752, 822, 891], 68) := by decide +kernel
theorem dL_law_108 : decode cL_law 108 = .ok (.aload_n 1, 1) := by decide +kernel
theorem dL_law_109 : decode cL_law 109 = .ok (.aload_n 0, 1) := by decide +kernel
theorem dL_law_110 : decode cL_law 110 = .ok (.iload 4, 2) := by decide +kernel
theorem dL_law_112 : decode cL_law 112 = .ok (.iconst 1, 1) := by decide +kernel
theorem dL_law_113 : decode cL_law 113 = .ok (.iadd, 1) := by decide +kernel
theorem dL_law_114 : decode cL_law 114 = .ok (.iaload, 1) := by decide +kernel
theorem dL_law_115 : decode cL_law 115 = .ok (.i2l, 1) := by decide +kernel
theorem dL_law_116 : decode cL_law 116 = .ok (.bipush 32, 2) := by decide +kernel
theorem dL_law_118 : decode cL_law 118 = .ok (.lshl, 1) := by decide +kernel
theorem dL_law_119 : decode cL_law 119 = .ok (.aload_n 0, 1) := by decide +kernel
theorem dL_law_120 : decode cL_law 120 = .ok (.iload 4, 2) := by decide +kernel
theorem dL_law_122 : decode cL_law 122 = .ok (.iconst 2, 1) := by decide +kernel
theorem dL_law_123 : decode cL_law 123 = .ok (.iadd, 1) := by decide +kernel
theorem dL_law_124 : decode cL_law 124 = .ok (.iaload, 1) := by decide +kernel
theorem dL_law_125 : decode cL_law 125 = .ok (.i2l, 1) := by decide +kernel
theorem dL_law_126 : decode cL_law 126 = .ok (.ldc2_w 19, 3) := by decide +kernel
theorem dL_law_129 : decode cL_law 129 = .ok (.land, 1) := by decide +kernel
theorem dL_law_130 : decode cL_law 130 = .ok (.lor, 1) := by decide +kernel
theorem dL_law_131 : decode cL_law 131 = .ok (.invokevirtual 21, 3) := by decide +kernel
theorem dL_law_134 : decode cL_law 134 = .ok (.aload_n 2, 1) := by decide +kernel
theorem dL_law_135 : decode cL_law 135 = .ok (.aload_n 0, 1) := by decide +kernel
theorem dL_law_136 : decode cL_law 136 = .ok (.iload 4, 2) := by decide +kernel
theorem dL_law_138 : decode cL_law 138 = .ok (.iconst 1, 1) := by decide +kernel
theorem dL_law_139 : decode cL_law 139 = .ok (.iadd, 1) := by decide +kernel
theorem dL_law_140 : decode cL_law 140 = .ok (.iaload, 1) := by decide +kernel
theorem dL_law_141 : decode cL_law 141 = .ok (.i2l, 1) := by decide +kernel
theorem dL_law_142 : decode cL_law 142 = .ok (.bipush 32, 2) := by decide +kernel
theorem dL_law_144 : decode cL_law 144 = .ok (.lshl, 1) := by decide +kernel
theorem dL_law_145 : decode cL_law 145 = .ok (.aload_n 0, 1) := by decide +kernel
theorem dL_law_146 : decode cL_law 146 = .ok (.iload 4, 2) := by decide +kernel
theorem dL_law_148 : decode cL_law 148 = .ok (.iconst 2, 1) := by decide +kernel
theorem dL_law_149 : decode cL_law 149 = .ok (.iadd, 1) := by decide +kernel
theorem dL_law_150 : decode cL_law 150 = .ok (.iaload, 1) := by decide +kernel
theorem dL_law_151 : decode cL_law 151 = .ok (.i2l, 1) := by decide +kernel
theorem dL_law_152 : decode cL_law 152 = .ok (.ldc2_w 19, 3) := by decide +kernel
theorem dL_law_155 : decode cL_law 155 = .ok (.land, 1) := by decide +kernel
theorem dL_law_156 : decode cL_law 156 = .ok (.lor, 1) := by decide +kernel
theorem dL_law_157 : decode cL_law 157 = .ok (.invokevirtual 25, 3) := by decide +kernel
theorem dL_law_160 : decode cL_law 160 = .ok (.if_icmp .eq 808, 3) := by decide +kernel
theorem dL_law_163 : decode cL_law 163 = .ok (.iconst 0, 1) := by decide +kernel
theorem dL_law_164 : decode cL_law 164 = .ok (.ireturn, 1) := by decide +kernel
theorem dL_law_165 : decode cL_law 165 = .ok (.aload_n 1, 1) := by decide +kernel
theorem dL_law_166 : decode cL_law 166 = .ok (.aload_n 0, 1) := by decide +kernel
theorem dL_law_167 : decode cL_law 167 = .ok (.iload 4, 2) := by decide +kernel
theorem dL_law_169 : decode cL_law 169 = .ok (.iconst 1, 1) := by decide +kernel
theorem dL_law_170 : decode cL_law 170 = .ok (.iadd, 1) := by decide +kernel
theorem dL_law_171 : decode cL_law 171 = .ok (.iaload, 1) := by decide +kernel
theorem dL_law_172 : decode cL_law 172 = .ok (.aload_n 0, 1) := by decide +kernel
theorem dL_law_173 : decode cL_law 173 = .ok (.iload 4, 2) := by decide +kernel
theorem dL_law_175 : decode cL_law 175 = .ok (.iconst 2, 1) := by decide +kernel
theorem dL_law_176 : decode cL_law 176 = .ok (.iadd, 1) := by decide +kernel
theorem dL_law_177 : decode cL_law 177 = .ok (.iaload, 1) := by decide +kernel
theorem dL_law_178 : decode cL_law 178 = .ok (.i2l, 1) := by decide +kernel
theorem dL_law_179 : decode cL_law 179 = .ok (.bipush 32, 2) := by decide +kernel
theorem dL_law_181 : decode cL_law 181 = .ok (.lshl, 1) := by decide +kernel
theorem dL_law_182 : decode cL_law 182 = .ok (.aload_n 0, 1) := by decide +kernel
theorem dL_law_183 : decode cL_law 183 = .ok (.iload 4, 2) := by decide +kernel
theorem dL_law_185 : decode cL_law 185 = .ok (.iconst 3, 1) := by decide +kernel
theorem dL_law_186 : decode cL_law 186 = .ok (.iadd, 1) := by decide +kernel
theorem dL_law_187 : decode cL_law 187 = .ok (.iaload, 1) := by decide +kernel
theorem dL_law_188 : decode cL_law 188 = .ok (.i2l, 1) := by decide +kernel
theorem dL_law_189 : decode cL_law 189 = .ok (.ldc2_w 19, 3) := by decide +kernel
theorem dL_law_192 : decode cL_law 192 = .ok (.land, 1) := by decide +kernel
theorem dL_law_193 : decode cL_law 193 = .ok (.lor, 1) := by decide +kernel
theorem dL_law_194 : decode cL_law 194 = .ok (.aload_n 0, 1) := by decide +kernel
theorem dL_law_195 : decode cL_law 195 = .ok (.iload 4, 2) := by decide +kernel
theorem dL_law_197 : decode cL_law 197 = .ok (.iconst 4, 1) := by decide +kernel
theorem dL_law_198 : decode cL_law 198 = .ok (.iadd, 1) := by decide +kernel
theorem dL_law_199 : decode cL_law 199 = .ok (.iaload, 1) := by decide +kernel
theorem dL_law_200 : decode cL_law 200 = .ok (.i2l, 1) := by decide +kernel
theorem dL_law_201 : decode cL_law 201 = .ok (.bipush 32, 2) := by decide +kernel
theorem dL_law_203 : decode cL_law 203 = .ok (.lshl, 1) := by decide +kernel
theorem dL_law_204 : decode cL_law 204 = .ok (.aload_n 0, 1) := by decide +kernel
theorem dL_law_205 : decode cL_law 205 = .ok (.iload 4, 2) := by decide +kernel
theorem dL_law_207 : decode cL_law 207 = .ok (.iconst 5, 1) := by decide +kernel
theorem dL_law_208 : decode cL_law 208 = .ok (.iadd, 1) := by decide +kernel
theorem dL_law_209 : decode cL_law 209 = .ok (.iaload, 1) := by decide +kernel
theorem dL_law_210 : decode cL_law 210 = .ok (.i2l, 1) := by decide +kernel
theorem dL_law_211 : decode cL_law 211 = .ok (.ldc2_w 19, 3) := by decide +kernel
theorem dL_law_214 : decode cL_law 214 = .ok (.land, 1) := by decide +kernel
theorem dL_law_215 : decode cL_law 215 = .ok (.lor, 1) := by decide +kernel
theorem dL_law_216 : decode cL_law 216 = .ok (.aload_n 0, 1) := by decide +kernel
theorem dL_law_217 : decode cL_law 217 = .ok (.iload 4, 2) := by decide +kernel
theorem dL_law_219 : decode cL_law 219 = .ok (.bipush 6, 2) := by decide +kernel
theorem dL_law_221 : decode cL_law 221 = .ok (.iadd, 1) := by decide +kernel
theorem dL_law_222 : decode cL_law 222 = .ok (.iaload, 1) := by decide +kernel
theorem dL_law_223 : decode cL_law 223 = .ok (.invokevirtual 26, 3) := by decide +kernel
theorem dL_law_226 : decode cL_law 226 = .ok (.aload_n 2, 1) := by decide +kernel
theorem dL_law_227 : decode cL_law 227 = .ok (.aload_n 0, 1) := by decide +kernel
theorem dL_law_228 : decode cL_law 228 = .ok (.iload 4, 2) := by decide +kernel
theorem dL_law_230 : decode cL_law 230 = .ok (.iconst 1, 1) := by decide +kernel
theorem dL_law_231 : decode cL_law 231 = .ok (.iadd, 1) := by decide +kernel
theorem dL_law_232 : decode cL_law 232 = .ok (.iaload, 1) := by decide +kernel
theorem dL_law_233 : decode cL_law 233 = .ok (.aload_n 0, 1) := by decide +kernel
theorem dL_law_234 : decode cL_law 234 = .ok (.iload 4, 2) := by decide +kernel
theorem dL_law_236 : decode cL_law 236 = .ok (.iconst 2, 1) := by decide +kernel
theorem dL_law_237 : decode cL_law 237 = .ok (.iadd, 1) := by decide +kernel
theorem dL_law_238 : decode cL_law 238 = .ok (.iaload, 1) := by decide +kernel
theorem dL_law_239 : decode cL_law 239 = .ok (.i2l, 1) := by decide +kernel
theorem dL_law_240 : decode cL_law 240 = .ok (.bipush 32, 2) := by decide +kernel
theorem dL_law_242 : decode cL_law 242 = .ok (.lshl, 1) := by decide +kernel
theorem dL_law_243 : decode cL_law 243 = .ok (.aload_n 0, 1) := by decide +kernel
theorem dL_law_244 : decode cL_law 244 = .ok (.iload 4, 2) := by decide +kernel
theorem dL_law_246 : decode cL_law 246 = .ok (.iconst 3, 1) := by decide +kernel
theorem dL_law_247 : decode cL_law 247 = .ok (.iadd, 1) := by decide +kernel
theorem dL_law_248 : decode cL_law 248 = .ok (.iaload, 1) := by decide +kernel
theorem dL_law_249 : decode cL_law 249 = .ok (.i2l, 1) := by decide +kernel
theorem dL_law_250 : decode cL_law 250 = .ok (.ldc2_w 19, 3) := by decide +kernel
theorem dL_law_253 : decode cL_law 253 = .ok (.land, 1) := by decide +kernel
theorem dL_law_254 : decode cL_law 254 = .ok (.lor, 1) := by decide +kernel
theorem dL_law_255 : decode cL_law 255 = .ok (.aload_n 0, 1) := by decide +kernel
theorem dL_law_256 : decode cL_law 256 = .ok (.iload 4, 2) := by decide +kernel
theorem dL_law_258 : decode cL_law 258 = .ok (.iconst 4, 1) := by decide +kernel
theorem dL_law_259 : decode cL_law 259 = .ok (.iadd, 1) := by decide +kernel
theorem dL_law_260 : decode cL_law 260 = .ok (.iaload, 1) := by decide +kernel
theorem dL_law_261 : decode cL_law 261 = .ok (.i2l, 1) := by decide +kernel
theorem dL_law_262 : decode cL_law 262 = .ok (.bipush 32, 2) := by decide +kernel
theorem dL_law_264 : decode cL_law 264 = .ok (.lshl, 1) := by decide +kernel
theorem dL_law_265 : decode cL_law 265 = .ok (.aload_n 0, 1) := by decide +kernel
theorem dL_law_266 : decode cL_law 266 = .ok (.iload 4, 2) := by decide +kernel
theorem dL_law_268 : decode cL_law 268 = .ok (.iconst 5, 1) := by decide +kernel
theorem dL_law_269 : decode cL_law 269 = .ok (.iadd, 1) := by decide +kernel
theorem dL_law_270 : decode cL_law 270 = .ok (.iaload, 1) := by decide +kernel
theorem dL_law_271 : decode cL_law 271 = .ok (.i2l, 1) := by decide +kernel
theorem dL_law_272 : decode cL_law 272 = .ok (.ldc2_w 19, 3) := by decide +kernel
theorem dL_law_275 : decode cL_law 275 = .ok (.land, 1) := by decide +kernel
theorem dL_law_276 : decode cL_law 276 = .ok (.lor, 1) := by decide +kernel
theorem dL_law_277 : decode cL_law 277 = .ok (.aload_n 0, 1) := by decide +kernel
theorem dL_law_278 : decode cL_law 278 = .ok (.iload 4, 2) := by decide +kernel
theorem dL_law_280 : decode cL_law 280 = .ok (.bipush 6, 2) := by decide +kernel
theorem dL_law_282 : decode cL_law 282 = .ok (.iadd, 1) := by decide +kernel
theorem dL_law_283 : decode cL_law 283 = .ok (.iaload, 1) := by decide +kernel
theorem dL_law_284 : decode cL_law 284 = .ok (.invokevirtual 30, 3) := by decide +kernel
theorem dL_law_287 : decode cL_law 287 = .ok (.if_icmp .eq 681, 3) := by decide +kernel
theorem dL_law_290 : decode cL_law 290 = .ok (.iconst 0, 1) := by decide +kernel
theorem dL_law_291 : decode cL_law 291 = .ok (.ireturn, 1) := by decide +kernel
theorem dL_law_292 : decode cL_law 292 = .ok (.aload_n 1, 1) := by decide +kernel
theorem dL_law_293 : decode cL_law 293 = .ok (.aload_n 0, 1) := by decide +kernel
theorem dL_law_294 : decode cL_law 294 = .ok (.iload 4, 2) := by decide +kernel
theorem dL_law_296 : decode cL_law 296 = .ok (.iconst 1, 1) := by decide +kernel
theorem dL_law_297 : decode cL_law 297 = .ok (.iadd, 1) := by decide +kernel
theorem dL_law_298 : decode cL_law 298 = .ok (.iaload, 1) := by decide +kernel
theorem dL_law_299 : decode cL_law 299 = .ok (.aload_n 0, 1) := by decide +kernel
theorem dL_law_300 : decode cL_law 300 = .ok (.iload 4, 2) := by decide +kernel
theorem dL_law_302 : decode cL_law 302 = .ok (.iconst 2, 1) := by decide +kernel
theorem dL_law_303 : decode cL_law 303 = .ok (.iadd, 1) := by decide +kernel
theorem dL_law_304 : decode cL_law 304 = .ok (.iaload, 1) := by decide +kernel
theorem dL_law_305 : decode cL_law 305 = .ok (.aload_n 0, 1) := by decide +kernel
theorem dL_law_306 : decode cL_law 306 = .ok (.iload 4, 2) := by decide +kernel
theorem dL_law_308 : decode cL_law 308 = .ok (.iconst 3, 1) := by decide +kernel
theorem dL_law_309 : decode cL_law 309 = .ok (.iadd, 1) := by decide +kernel
theorem dL_law_310 : decode cL_law 310 = .ok (.iaload, 1) := by decide +kernel
theorem dL_law_311 : decode cL_law 311 = .ok (.i2l, 1) := by decide +kernel
theorem dL_law_312 : decode cL_law 312 = .ok (.bipush 32, 2) := by decide +kernel
theorem dL_law_314 : decode cL_law 314 = .ok (.lshl, 1) := by decide +kernel
theorem dL_law_315 : decode cL_law 315 = .ok (.aload_n 0, 1) := by decide +kernel
theorem dL_law_316 : decode cL_law 316 = .ok (.iload 4, 2) := by decide +kernel
theorem dL_law_318 : decode cL_law 318 = .ok (.iconst 4, 1) := by decide +kernel
theorem dL_law_319 : decode cL_law 319 = .ok (.iadd, 1) := by decide +kernel
theorem dL_law_320 : decode cL_law 320 = .ok (.iaload, 1) := by decide +kernel
theorem dL_law_321 : decode cL_law 321 = .ok (.i2l, 1) := by decide +kernel
theorem dL_law_322 : decode cL_law 322 = .ok (.ldc2_w 19, 3) := by decide +kernel
theorem dL_law_325 : decode cL_law 325 = .ok (.land, 1) := by decide +kernel
theorem dL_law_326 : decode cL_law 326 = .ok (.lor, 1) := by decide +kernel
theorem dL_law_327 : decode cL_law 327 = .ok (.aload_n 0, 1) := by decide +kernel
theorem dL_law_328 : decode cL_law 328 = .ok (.iload 4, 2) := by decide +kernel
theorem dL_law_330 : decode cL_law 330 = .ok (.iconst 5, 1) := by decide +kernel
theorem dL_law_331 : decode cL_law 331 = .ok (.iadd, 1) := by decide +kernel
theorem dL_law_332 : decode cL_law 332 = .ok (.iaload, 1) := by decide +kernel
theorem dL_law_333 : decode cL_law 333 = .ok (.i2l, 1) := by decide +kernel
theorem dL_law_334 : decode cL_law 334 = .ok (.bipush 32, 2) := by decide +kernel
theorem dL_law_336 : decode cL_law 336 = .ok (.lshl, 1) := by decide +kernel
theorem dL_law_337 : decode cL_law 337 = .ok (.aload_n 0, 1) := by decide +kernel
theorem dL_law_338 : decode cL_law 338 = .ok (.iload 4, 2) := by decide +kernel
theorem dL_law_340 : decode cL_law 340 = .ok (.bipush 6, 2) := by decide +kernel
theorem dL_law_342 : decode cL_law 342 = .ok (.iadd, 1) := by decide +kernel
theorem dL_law_343 : decode cL_law 343 = .ok (.iaload, 1) := by decide +kernel
theorem dL_law_344 : decode cL_law 344 = .ok (.i2l, 1) := by decide +kernel
theorem dL_law_345 : decode cL_law 345 = .ok (.ldc2_w 19, 3) := by decide +kernel
theorem dL_law_348 : decode cL_law 348 = .ok (.land, 1) := by decide +kernel
theorem dL_law_349 : decode cL_law 349 = .ok (.lor, 1) := by decide +kernel
theorem dL_law_350 : decode cL_law 350 = .ok (.invokevirtual 31, 3) := by decide +kernel
theorem dL_law_353 : decode cL_law 353 = .ok (.aload_n 2, 1) := by decide +kernel
theorem dL_law_354 : decode cL_law 354 = .ok (.aload_n 0, 1) := by decide +kernel
theorem dL_law_355 : decode cL_law 355 = .ok (.iload 4, 2) := by decide +kernel
theorem dL_law_357 : decode cL_law 357 = .ok (.iconst 1, 1) := by decide +kernel
theorem dL_law_358 : decode cL_law 358 = .ok (.iadd, 1) := by decide +kernel
theorem dL_law_359 : decode cL_law 359 = .ok (.iaload, 1) := by decide +kernel
theorem dL_law_360 : decode cL_law 360 = .ok (.aload_n 0, 1) := by decide +kernel
theorem dL_law_361 : decode cL_law 361 = .ok (.iload 4, 2) := by decide +kernel
theorem dL_law_363 : decode cL_law 363 = .ok (.iconst 2, 1) := by decide +kernel
theorem dL_law_364 : decode cL_law 364 = .ok (.iadd, 1) := by decide +kernel
theorem dL_law_365 : decode cL_law 365 = .ok (.iaload, 1) := by decide +kernel
theorem dL_law_366 : decode cL_law 366 = .ok (.aload_n 0, 1) := by decide +kernel
theorem dL_law_367 : decode cL_law 367 = .ok (.iload 4, 2) := by decide +kernel
theorem dL_law_369 : decode cL_law 369 = .ok (.iconst 3, 1) := by decide +kernel
theorem dL_law_370 : decode cL_law 370 = .ok (.iadd, 1) := by decide +kernel
theorem dL_law_371 : decode cL_law 371 = .ok (.iaload, 1) := by decide +kernel
theorem dL_law_372 : decode cL_law 372 = .ok (.i2l, 1) := by decide +kernel
theorem dL_law_373 : decode cL_law 373 = .ok (.bipush 32, 2) := by decide +kernel
theorem dL_law_375 : decode cL_law 375 = .ok (.lshl, 1) := by decide +kernel
theorem dL_law_376 : decode cL_law 376 = .ok (.aload_n 0, 1) := by decide +kernel
theorem dL_law_377 : decode cL_law 377 = .ok (.iload 4, 2) := by decide +kernel
theorem dL_law_379 : decode cL_law 379 = .ok (.iconst 4, 1) := by decide +kernel
theorem dL_law_380 : decode cL_law 380 = .ok (.iadd, 1) := by decide +kernel
theorem dL_law_381 : decode cL_law 381 = .ok (.iaload, 1) := by decide +kernel
theorem dL_law_382 : decode cL_law 382 = .ok (.i2l, 1) := by decide +kernel
theorem dL_law_383 : decode cL_law 383 = .ok (.ldc2_w 19, 3) := by decide +kernel
theorem dL_law_386 : decode cL_law 386 = .ok (.land, 1) := by decide +kernel
theorem dL_law_387 : decode cL_law 387 = .ok (.lor, 1) := by decide +kernel
theorem dL_law_388 : decode cL_law 388 = .ok (.aload_n 0, 1) := by decide +kernel
theorem dL_law_389 : decode cL_law 389 = .ok (.iload 4, 2) := by decide +kernel
theorem dL_law_391 : decode cL_law 391 = .ok (.iconst 5, 1) := by decide +kernel
theorem dL_law_392 : decode cL_law 392 = .ok (.iadd, 1) := by decide +kernel
theorem dL_law_393 : decode cL_law 393 = .ok (.iaload, 1) := by decide +kernel
theorem dL_law_394 : decode cL_law 394 = .ok (.i2l, 1) := by decide +kernel
theorem dL_law_395 : decode cL_law 395 = .ok (.bipush 32, 2) := by decide +kernel
theorem dL_law_397 : decode cL_law 397 = .ok (.lshl, 1) := by decide +kernel
theorem dL_law_398 : decode cL_law 398 = .ok (.aload_n 0, 1) := by decide +kernel
theorem dL_law_399 : decode cL_law 399 = .ok (.iload 4, 2) := by decide +kernel
theorem dL_law_401 : decode cL_law 401 = .ok (.bipush 6, 2) := by decide +kernel
theorem dL_law_403 : decode cL_law 403 = .ok (.iadd, 1) := by decide +kernel
theorem dL_law_404 : decode cL_law 404 = .ok (.iaload, 1) := by decide +kernel
theorem dL_law_405 : decode cL_law 405 = .ok (.i2l, 1) := by decide +kernel
theorem dL_law_406 : decode cL_law 406 = .ok (.ldc2_w 19, 3) := by decide +kernel
theorem dL_law_409 : decode cL_law 409 = .ok (.land, 1) := by decide +kernel
theorem dL_law_410 : decode cL_law 410 = .ok (.lor, 1) := by decide +kernel
theorem dL_law_411 : decode cL_law 411 = .ok (.invokevirtual 35, 3) := by decide +kernel
theorem dL_law_414 : decode cL_law 414 = .ok (.if_icmp .eq 554, 3) := by decide +kernel
theorem dL_law_417 : decode cL_law 417 = .ok (.iconst 0, 1) := by decide +kernel
theorem dL_law_418 : decode cL_law 418 = .ok (.ireturn, 1) := by decide +kernel
theorem dL_law_419 : decode cL_law 419 = .ok (.aload_n 1, 1) := by decide +kernel
theorem dL_law_420 : decode cL_law 420 = .ok (.aload_n 0, 1) := by decide +kernel
theorem dL_law_421 : decode cL_law 421 = .ok (.iload 4, 2) := by decide +kernel
theorem dL_law_423 : decode cL_law 423 = .ok (.iconst 1, 1) := by decide +kernel
theorem dL_law_424 : decode cL_law 424 = .ok (.iadd, 1) := by decide +kernel
theorem dL_law_425 : decode cL_law 425 = .ok (.iaload, 1) := by decide +kernel
theorem dL_law_426 : decode cL_law 426 = .ok (.aload_n 0, 1) := by decide +kernel
theorem dL_law_427 : decode cL_law 427 = .ok (.iload 4, 2) := by decide +kernel
theorem dL_law_429 : decode cL_law 429 = .ok (.iconst 2, 1) := by decide +kernel
theorem dL_law_430 : decode cL_law 430 = .ok (.iadd, 1) := by decide +kernel
theorem dL_law_431 : decode cL_law 431 = .ok (.iaload, 1) := by decide +kernel
theorem dL_law_432 : decode cL_law 432 = .ok (.aload_n 0, 1) := by decide +kernel
theorem dL_law_433 : decode cL_law 433 = .ok (.iload 4, 2) := by decide +kernel
theorem dL_law_435 : decode cL_law 435 = .ok (.iconst 3, 1) := by decide +kernel
theorem dL_law_436 : decode cL_law 436 = .ok (.iadd, 1) := by decide +kernel
theorem dL_law_437 : decode cL_law 437 = .ok (.iaload, 1) := by decide +kernel
theorem dL_law_438 : decode cL_law 438 = .ok (.aload_n 3, 1) := by decide +kernel
theorem dL_law_439 : decode cL_law 439 = .ok (.invokestatic 36, 3) := by decide +kernel
theorem dL_law_442 : decode cL_law 442 = .ok (.istore 5, 2) := by decide +kernel
theorem dL_law_444 : decode cL_law 444 = .ok (.aload_n 2, 1) := by decide +kernel
theorem dL_law_445 : decode cL_law 445 = .ok (.aload_n 0, 1) := by decide +kernel
theorem dL_law_446 : decode cL_law 446 = .ok (.iload 4, 2) := by decide +kernel
theorem dL_law_448 : decode cL_law 448 = .ok (.iconst 1, 1) := by decide +kernel
theorem dL_law_449 : decode cL_law 449 = .ok (.iadd, 1) := by decide +kernel
theorem dL_law_450 : decode cL_law 450 = .ok (.iaload, 1) := by decide +kernel
theorem dL_law_451 : decode cL_law 451 = .ok (.aload_n 0, 1) := by decide +kernel
theorem dL_law_452 : decode cL_law 452 = .ok (.iload 4, 2) := by decide +kernel
theorem dL_law_454 : decode cL_law 454 = .ok (.iconst 2, 1) := by decide +kernel
theorem dL_law_455 : decode cL_law 455 = .ok (.iadd, 1) := by decide +kernel
theorem dL_law_456 : decode cL_law 456 = .ok (.iaload, 1) := by decide +kernel
theorem dL_law_457 : decode cL_law 457 = .ok (.aload_n 0, 1) := by decide +kernel
theorem dL_law_458 : decode cL_law 458 = .ok (.iload 4, 2) := by decide +kernel
theorem dL_law_460 : decode cL_law 460 = .ok (.iconst 3, 1) := by decide +kernel
theorem dL_law_461 : decode cL_law 461 = .ok (.iadd, 1) := by decide +kernel
theorem dL_law_462 : decode cL_law 462 = .ok (.iaload, 1) := by decide +kernel
theorem dL_law_463 : decode cL_law 463 = .ok (.invokevirtual 41, 3) := by decide +kernel
theorem dL_law_466 : decode cL_law 466 = .ok (.lstore 6, 2) := by decide +kernel
theorem dL_law_468 : decode cL_law 468 = .ok (.aload_n 2, 1) := by decide +kernel
theorem dL_law_469 : decode cL_law 469 = .ok (.invokevirtual 42, 3) := by decide +kernel
theorem dL_law_472 : decode cL_law 472 = .ok (.iload 5, 2) := by decide +kernel
theorem dL_law_474 : decode cL_law 474 = .ok (.if_icmp .eq 5, 3) := by decide +kernel
theorem dL_law_477 : decode cL_law 477 = .ok (.iconst 0, 1) := by decide +kernel
theorem dL_law_478 : decode cL_law 478 = .ok (.ireturn, 1) := by decide +kernel
theorem dL_law_479 : decode cL_law 479 = .ok (.iload 5, 2) := by decide +kernel
theorem dL_law_481 : decode cL_law 481 = .ok (.ifCond .ne 14, 3) := by decide +kernel
theorem dL_law_484 : decode cL_law 484 = .ok (.aload_n 3, 1) := by decide +kernel
theorem dL_law_485 : decode cL_law 485 = .ok (.iconst 0, 1) := by decide +kernel
theorem dL_law_486 : decode cL_law 486 = .ok (.laload, 1) := by decide +kernel
theorem dL_law_487 : decode cL_law 487 = .ok (.lload 6, 2) := by decide +kernel
theorem dL_law_489 : decode cL_law 489 = .ok (.lcmp, 1) := by decide +kernel
theorem dL_law_490 : decode cL_law 490 = .ok (.ifCond .eq 5, 3) := by decide +kernel
theorem dL_law_493 : decode cL_law 493 = .ok (.iconst 0, 1) := by decide +kernel
theorem dL_law_494 : decode cL_law 494 = .ok (.ireturn, 1) := by decide +kernel
theorem dL_law_495 : decode cL_law 495 = .ok (.goto 473, 3) := by decide +kernel
theorem dL_law_498 : decode cL_law 498 = .ok (.aload_n 1, 1) := by decide +kernel
theorem dL_law_499 : decode cL_law 499 = .ok (.aload_n 0, 1) := by decide +kernel
theorem dL_law_500 : decode cL_law 500 = .ok (.iload 4, 2) := by decide +kernel
theorem dL_law_502 : decode cL_law 502 = .ok (.iconst 1, 1) := by decide +kernel
theorem dL_law_503 : decode cL_law 503 = .ok (.iadd, 1) := by decide +kernel
theorem dL_law_504 : decode cL_law 504 = .ok (.iaload, 1) := by decide +kernel
theorem dL_law_505 : decode cL_law 505 = .ok (.invokevirtual 46, 3) := by decide +kernel
theorem dL_law_508 : decode cL_law 508 = .ok (.aload_n 2, 1) := by decide +kernel
theorem dL_law_509 : decode cL_law 509 = .ok (.aload_n 0, 1) := by decide +kernel
theorem dL_law_510 : decode cL_law 510 = .ok (.iload 4, 2) := by decide +kernel
theorem dL_law_512 : decode cL_law 512 = .ok (.iconst 1, 1) := by decide +kernel
theorem dL_law_513 : decode cL_law 513 = .ok (.iadd, 1) := by decide +kernel
theorem dL_law_514 : decode cL_law 514 = .ok (.iaload, 1) := by decide +kernel
theorem dL_law_515 : decode cL_law 515 = .ok (.invokevirtual 50, 3) := by decide +kernel
theorem dL_law_518 : decode cL_law 518 = .ok (.if_icmp .eq 450, 3) := by decide +kernel
theorem dL_law_521 : decode cL_law 521 = .ok (.iconst 0, 1) := by decide +kernel
theorem dL_law_522 : decode cL_law 522 = .ok (.ireturn, 1) := by decide +kernel
theorem dL_law_523 : decode cL_law 523 = .ok (.aload_n 1, 1) := by decide +kernel
theorem dL_law_524 : decode cL_law 524 = .ok (.aload_n 0, 1) := by decide +kernel
theorem dL_law_525 : decode cL_law 525 = .ok (.iload 4, 2) := by decide +kernel
theorem dL_law_527 : decode cL_law 527 = .ok (.iconst 1, 1) := by decide +kernel
theorem dL_law_528 : decode cL_law 528 = .ok (.iadd, 1) := by decide +kernel
theorem dL_law_529 : decode cL_law 529 = .ok (.iaload, 1) := by decide +kernel
theorem dL_law_530 : decode cL_law 530 = .ok (.aload_n 0, 1) := by decide +kernel
theorem dL_law_531 : decode cL_law 531 = .ok (.iload 4, 2) := by decide +kernel
theorem dL_law_533 : decode cL_law 533 = .ok (.iconst 2, 1) := by decide +kernel
theorem dL_law_534 : decode cL_law 534 = .ok (.iadd, 1) := by decide +kernel
theorem dL_law_535 : decode cL_law 535 = .ok (.iaload, 1) := by decide +kernel
theorem dL_law_536 : decode cL_law 536 = .ok (.invokevirtual 51, 3) := by decide +kernel
theorem dL_law_539 : decode cL_law 539 = .ok (.aload_n 2, 1) := by decide +kernel
theorem dL_law_540 : decode cL_law 540 = .ok (.aload_n 0, 1) := by decide +kernel
theorem dL_law_541 : decode cL_law 541 = .ok (.iload 4, 2) := by decide +kernel
theorem dL_law_543 : decode cL_law 543 = .ok (.iconst 1, 1) := by decide +kernel
theorem dL_law_544 : decode cL_law 544 = .ok (.iadd, 1) := by decide +kernel
theorem dL_law_545 : decode cL_law 545 = .ok (.iaload, 1) := by decide +kernel
theorem dL_law_546 : decode cL_law 546 = .ok (.aload_n 0, 1) := by decide +kernel
theorem dL_law_547 : decode cL_law 547 = .ok (.iload 4, 2) := by decide +kernel
theorem dL_law_549 : decode cL_law 549 = .ok (.iconst 2, 1) := by decide +kernel
theorem dL_law_550 : decode cL_law 550 = .ok (.iadd, 1) := by decide +kernel
theorem dL_law_551 : decode cL_law 551 = .ok (.iaload, 1) := by decide +kernel
theorem dL_law_552 : decode cL_law 552 = .ok (.invokevirtual 55, 3) := by decide +kernel
theorem dL_law_555 : decode cL_law 555 = .ok (.if_icmp .eq 413, 3) := by decide +kernel
theorem dL_law_558 : decode cL_law 558 = .ok (.iconst 0, 1) := by decide +kernel
theorem dL_law_559 : decode cL_law 559 = .ok (.ireturn, 1) := by decide +kernel
theorem dL_law_560 : decode cL_law 560 = .ok (.aload_n 1, 1) := by decide +kernel
theorem dL_law_561 : decode cL_law 561 = .ok (.aload_n 0, 1) := by decide +kernel
theorem dL_law_562 : decode cL_law 562 = .ok (.iload 4, 2) := by decide +kernel
theorem dL_law_564 : decode cL_law 564 = .ok (.iconst 1, 1) := by decide +kernel
theorem dL_law_565 : decode cL_law 565 = .ok (.iadd, 1) := by decide +kernel
theorem dL_law_566 : decode cL_law 566 = .ok (.iaload, 1) := by decide +kernel
theorem dL_law_567 : decode cL_law 567 = .ok (.aload_n 0, 1) := by decide +kernel
theorem dL_law_568 : decode cL_law 568 = .ok (.iload 4, 2) := by decide +kernel
theorem dL_law_570 : decode cL_law 570 = .ok (.iconst 2, 1) := by decide +kernel
theorem dL_law_571 : decode cL_law 571 = .ok (.iadd, 1) := by decide +kernel
theorem dL_law_572 : decode cL_law 572 = .ok (.iaload, 1) := by decide +kernel
theorem dL_law_573 : decode cL_law 573 = .ok (.aload_n 0, 1) := by decide +kernel
theorem dL_law_574 : decode cL_law 574 = .ok (.iload 4, 2) := by decide +kernel
theorem dL_law_576 : decode cL_law 576 = .ok (.iconst 3, 1) := by decide +kernel
theorem dL_law_577 : decode cL_law 577 = .ok (.iadd, 1) := by decide +kernel
theorem dL_law_578 : decode cL_law 578 = .ok (.iaload, 1) := by decide +kernel
theorem dL_law_579 : decode cL_law 579 = .ok (.i2l, 1) := by decide +kernel
theorem dL_law_580 : decode cL_law 580 = .ok (.bipush 32, 2) := by decide +kernel
theorem dL_law_582 : decode cL_law 582 = .ok (.lshl, 1) := by decide +kernel
theorem dL_law_583 : decode cL_law 583 = .ok (.aload_n 0, 1) := by decide +kernel
theorem dL_law_584 : decode cL_law 584 = .ok (.iload 4, 2) := by decide +kernel
theorem dL_law_586 : decode cL_law 586 = .ok (.iconst 4, 1) := by decide +kernel
theorem dL_law_587 : decode cL_law 587 = .ok (.iadd, 1) := by decide +kernel
theorem dL_law_588 : decode cL_law 588 = .ok (.iaload, 1) := by decide +kernel
theorem dL_law_589 : decode cL_law 589 = .ok (.i2l, 1) := by decide +kernel
theorem dL_law_590 : decode cL_law 590 = .ok (.ldc2_w 19, 3) := by decide +kernel
theorem dL_law_593 : decode cL_law 593 = .ok (.land, 1) := by decide +kernel
theorem dL_law_594 : decode cL_law 594 = .ok (.lor, 1) := by decide +kernel
theorem dL_law_595 : decode cL_law 595 = .ok (.invokevirtual 56, 3) := by decide +kernel
theorem dL_law_598 : decode cL_law 598 = .ok (.aload_n 2, 1) := by decide +kernel
theorem dL_law_599 : decode cL_law 599 = .ok (.aload_n 0, 1) := by decide +kernel
theorem dL_law_600 : decode cL_law 600 = .ok (.iload 4, 2) := by decide +kernel
theorem dL_law_602 : decode cL_law 602 = .ok (.iconst 1, 1) := by decide +kernel
theorem dL_law_603 : decode cL_law 603 = .ok (.iadd, 1) := by decide +kernel
theorem dL_law_604 : decode cL_law 604 = .ok (.iaload, 1) := by decide +kernel
theorem dL_law_605 : decode cL_law 605 = .ok (.aload_n 0, 1) := by decide +kernel
theorem dL_law_606 : decode cL_law 606 = .ok (.iload 4, 2) := by decide +kernel
theorem dL_law_608 : decode cL_law 608 = .ok (.iconst 2, 1) := by decide +kernel
theorem dL_law_609 : decode cL_law 609 = .ok (.iadd, 1) := by decide +kernel
theorem dL_law_610 : decode cL_law 610 = .ok (.iaload, 1) := by decide +kernel
theorem dL_law_611 : decode cL_law 611 = .ok (.aload_n 0, 1) := by decide +kernel
theorem dL_law_612 : decode cL_law 612 = .ok (.iload 4, 2) := by decide +kernel
theorem dL_law_614 : decode cL_law 614 = .ok (.iconst 3, 1) := by decide +kernel
theorem dL_law_615 : decode cL_law 615 = .ok (.iadd, 1) := by decide +kernel
theorem dL_law_616 : decode cL_law 616 = .ok (.iaload, 1) := by decide +kernel
theorem dL_law_617 : decode cL_law 617 = .ok (.i2l, 1) := by decide +kernel
theorem dL_law_618 : decode cL_law 618 = .ok (.bipush 32, 2) := by decide +kernel
theorem dL_law_620 : decode cL_law 620 = .ok (.lshl, 1) := by decide +kernel
theorem dL_law_621 : decode cL_law 621 = .ok (.aload_n 0, 1) := by decide +kernel
theorem dL_law_622 : decode cL_law 622 = .ok (.iload 4, 2) := by decide +kernel
theorem dL_law_624 : decode cL_law 624 = .ok (.iconst 4, 1) := by decide +kernel
theorem dL_law_625 : decode cL_law 625 = .ok (.iadd, 1) := by decide +kernel
theorem dL_law_626 : decode cL_law 626 = .ok (.iaload, 1) := by decide +kernel
theorem dL_law_627 : decode cL_law 627 = .ok (.i2l, 1) := by decide +kernel
theorem dL_law_628 : decode cL_law 628 = .ok (.ldc2_w 19, 3) := by decide +kernel
theorem dL_law_631 : decode cL_law 631 = .ok (.land, 1) := by decide +kernel
theorem dL_law_632 : decode cL_law 632 = .ok (.lor, 1) := by decide +kernel
theorem dL_law_633 : decode cL_law 633 = .ok (.invokevirtual 60, 3) := by decide +kernel
theorem dL_law_636 : decode cL_law 636 = .ok (.if_icmp .eq 332, 3) := by decide +kernel
theorem dL_law_639 : decode cL_law 639 = .ok (.iconst 0, 1) := by decide +kernel
theorem dL_law_640 : decode cL_law 640 = .ok (.ireturn, 1) := by decide +kernel
theorem dL_law_641 : decode cL_law 641 = .ok (.aload_n 1, 1) := by decide +kernel
theorem dL_law_642 : decode cL_law 642 = .ok (.aload_n 0, 1) := by decide +kernel
theorem dL_law_643 : decode cL_law 643 = .ok (.iload 4, 2) := by decide +kernel
theorem dL_law_645 : decode cL_law 645 = .ok (.iconst 1, 1) := by decide +kernel
theorem dL_law_646 : decode cL_law 646 = .ok (.iadd, 1) := by decide +kernel
theorem dL_law_647 : decode cL_law 647 = .ok (.iaload, 1) := by decide +kernel
theorem dL_law_648 : decode cL_law 648 = .ok (.aload_n 0, 1) := by decide +kernel
theorem dL_law_649 : decode cL_law 649 = .ok (.iload 4, 2) := by decide +kernel
theorem dL_law_651 : decode cL_law 651 = .ok (.iconst 2, 1) := by decide +kernel
theorem dL_law_652 : decode cL_law 652 = .ok (.iadd, 1) := by decide +kernel
theorem dL_law_653 : decode cL_law 653 = .ok (.iaload, 1) := by decide +kernel
theorem dL_law_654 : decode cL_law 654 = .ok (.aload_n 0, 1) := by decide +kernel
theorem dL_law_655 : decode cL_law 655 = .ok (.iload 4, 2) := by decide +kernel
theorem dL_law_657 : decode cL_law 657 = .ok (.iconst 3, 1) := by decide +kernel
theorem dL_law_658 : decode cL_law 658 = .ok (.iadd, 1) := by decide +kernel
theorem dL_law_659 : decode cL_law 659 = .ok (.iaload, 1) := by decide +kernel
theorem dL_law_660 : decode cL_law 660 = .ok (.ifCond .eq 7, 3) := by decide +kernel
theorem dL_law_663 : decode cL_law 663 = .ok (.iconst 1, 1) := by decide +kernel
theorem dL_law_664 : decode cL_law 664 = .ok (.goto 4, 3) := by decide +kernel
theorem dL_law_667 : decode cL_law 667 = .ok (.iconst 0, 1) := by decide +kernel
theorem dL_law_668 : decode cL_law 668 = .ok (.invokevirtual 61, 3) := by decide +kernel
theorem dL_law_671 : decode cL_law 671 = .ok (.aload_n 2, 1) := by decide +kernel
theorem dL_law_672 : decode cL_law 672 = .ok (.aload_n 0, 1) := by decide +kernel
theorem dL_law_673 : decode cL_law 673 = .ok (.iload 4, 2) := by decide +kernel
theorem dL_law_675 : decode cL_law 675 = .ok (.iconst 1, 1) := by decide +kernel
theorem dL_law_676 : decode cL_law 676 = .ok (.iadd, 1) := by decide +kernel
theorem dL_law_677 : decode cL_law 677 = .ok (.iaload, 1) := by decide +kernel
theorem dL_law_678 : decode cL_law 678 = .ok (.aload_n 0, 1) := by decide +kernel
theorem dL_law_679 : decode cL_law 679 = .ok (.iload 4, 2) := by decide +kernel
theorem dL_law_681 : decode cL_law 681 = .ok (.iconst 2, 1) := by decide +kernel
theorem dL_law_682 : decode cL_law 682 = .ok (.iadd, 1) := by decide +kernel
theorem dL_law_683 : decode cL_law 683 = .ok (.iaload, 1) := by decide +kernel
theorem dL_law_684 : decode cL_law 684 = .ok (.aload_n 0, 1) := by decide +kernel
theorem dL_law_685 : decode cL_law 685 = .ok (.iload 4, 2) := by decide +kernel
theorem dL_law_687 : decode cL_law 687 = .ok (.iconst 3, 1) := by decide +kernel
theorem dL_law_688 : decode cL_law 688 = .ok (.iadd, 1) := by decide +kernel
theorem dL_law_689 : decode cL_law 689 = .ok (.iaload, 1) := by decide +kernel
theorem dL_law_690 : decode cL_law 690 = .ok (.ifCond .eq 7, 3) := by decide +kernel
theorem dL_law_693 : decode cL_law 693 = .ok (.iconst 1, 1) := by decide +kernel
theorem dL_law_694 : decode cL_law 694 = .ok (.goto 4, 3) := by decide +kernel
theorem dL_law_697 : decode cL_law 697 = .ok (.iconst 0, 1) := by decide +kernel
theorem dL_law_698 : decode cL_law 698 = .ok (.invokevirtual 65, 3) := by decide +kernel
theorem dL_law_701 : decode cL_law 701 = .ok (.if_icmp .eq 267, 3) := by decide +kernel
theorem dL_law_704 : decode cL_law 704 = .ok (.iconst 0, 1) := by decide +kernel
theorem dL_law_705 : decode cL_law 705 = .ok (.ireturn, 1) := by decide +kernel
theorem dL_law_706 : decode cL_law 706 = .ok (.aload_n 1, 1) := by decide +kernel
theorem dL_law_707 : decode cL_law 707 = .ok (.aload_n 0, 1) := by decide +kernel
theorem dL_law_708 : decode cL_law 708 = .ok (.iload 4, 2) := by decide +kernel
theorem dL_law_710 : decode cL_law 710 = .ok (.iconst 1, 1) := by decide +kernel
theorem dL_law_711 : decode cL_law 711 = .ok (.iadd, 1) := by decide +kernel
theorem dL_law_712 : decode cL_law 712 = .ok (.iaload, 1) := by decide +kernel
theorem dL_law_713 : decode cL_law 713 = .ok (.aload_n 0, 1) := by decide +kernel
theorem dL_law_714 : decode cL_law 714 = .ok (.iload 4, 2) := by decide +kernel
theorem dL_law_716 : decode cL_law 716 = .ok (.iconst 2, 1) := by decide +kernel
theorem dL_law_717 : decode cL_law 717 = .ok (.iadd, 1) := by decide +kernel
theorem dL_law_718 : decode cL_law 718 = .ok (.iaload, 1) := by decide +kernel
theorem dL_law_719 : decode cL_law 719 = .ok (.invokevirtual 66, 3) := by decide +kernel
theorem dL_law_722 : decode cL_law 722 = .ok (.aload_n 2, 1) := by decide +kernel
theorem dL_law_723 : decode cL_law 723 = .ok (.aload_n 0, 1) := by decide +kernel
theorem dL_law_724 : decode cL_law 724 = .ok (.iload 4, 2) := by decide +kernel
theorem dL_law_726 : decode cL_law 726 = .ok (.iconst 1, 1) := by decide +kernel
theorem dL_law_727 : decode cL_law 727 = .ok (.iadd, 1) := by decide +kernel
theorem dL_law_728 : decode cL_law 728 = .ok (.iaload, 1) := by decide +kernel
theorem dL_law_729 : decode cL_law 729 = .ok (.aload_n 0, 1) := by decide +kernel
theorem dL_law_730 : decode cL_law 730 = .ok (.iload 4, 2) := by decide +kernel
theorem dL_law_732 : decode cL_law 732 = .ok (.iconst 2, 1) := by decide +kernel
theorem dL_law_733 : decode cL_law 733 = .ok (.iadd, 1) := by decide +kernel
theorem dL_law_734 : decode cL_law 734 = .ok (.iaload, 1) := by decide +kernel
theorem dL_law_735 : decode cL_law 735 = .ok (.invokevirtual 70, 3) := by decide +kernel
theorem dL_law_738 : decode cL_law 738 = .ok (.if_icmp .eq 230, 3) := by decide +kernel
theorem dL_law_741 : decode cL_law 741 = .ok (.iconst 0, 1) := by decide +kernel
theorem dL_law_742 : decode cL_law 742 = .ok (.ireturn, 1) := by decide +kernel
theorem dL_law_743 : decode cL_law 743 = .ok (.aload_n 1, 1) := by decide +kernel
theorem dL_law_744 : decode cL_law 744 = .ok (.aload_n 0, 1) := by decide +kernel
theorem dL_law_745 : decode cL_law 745 = .ok (.iload 4, 2) := by decide +kernel
theorem dL_law_747 : decode cL_law 747 = .ok (.iconst 1, 1) := by decide +kernel
theorem dL_law_748 : decode cL_law 748 = .ok (.iadd, 1) := by decide +kernel
theorem dL_law_749 : decode cL_law 749 = .ok (.iaload, 1) := by decide +kernel
theorem dL_law_750 : decode cL_law 750 = .ok (.aload_n 0, 1) := by decide +kernel
theorem dL_law_751 : decode cL_law 751 = .ok (.iload 4, 2) := by decide +kernel
theorem dL_law_753 : decode cL_law 753 = .ok (.iconst 2, 1) := by decide +kernel
theorem dL_law_754 : decode cL_law 754 = .ok (.iadd, 1) := by decide +kernel
theorem dL_law_755 : decode cL_law 755 = .ok (.iaload, 1) := by decide +kernel
theorem dL_law_756 : decode cL_law 756 = .ok (.aload_n 0, 1) := by decide +kernel
theorem dL_law_757 : decode cL_law 757 = .ok (.iload 4, 2) := by decide +kernel
theorem dL_law_759 : decode cL_law 759 = .ok (.iconst 3, 1) := by decide +kernel
theorem dL_law_760 : decode cL_law 760 = .ok (.iadd, 1) := by decide +kernel
theorem dL_law_761 : decode cL_law 761 = .ok (.iaload, 1) := by decide +kernel
theorem dL_law_762 : decode cL_law 762 = .ok (.invokevirtual 71, 3) := by decide +kernel
theorem dL_law_765 : decode cL_law 765 = .ok (.aload_n 2, 1) := by decide +kernel
theorem dL_law_766 : decode cL_law 766 = .ok (.aload_n 0, 1) := by decide +kernel
theorem dL_law_767 : decode cL_law 767 = .ok (.iload 4, 2) := by decide +kernel
theorem dL_law_769 : decode cL_law 769 = .ok (.iconst 1, 1) := by decide +kernel
theorem dL_law_770 : decode cL_law 770 = .ok (.iadd, 1) := by decide +kernel
theorem dL_law_771 : decode cL_law 771 = .ok (.iaload, 1) := by decide +kernel
theorem dL_law_772 : decode cL_law 772 = .ok (.aload_n 0, 1) := by decide +kernel
theorem dL_law_773 : decode cL_law 773 = .ok (.iload 4, 2) := by decide +kernel
theorem dL_law_775 : decode cL_law 775 = .ok (.iconst 2, 1) := by decide +kernel
theorem dL_law_776 : decode cL_law 776 = .ok (.iadd, 1) := by decide +kernel
theorem dL_law_777 : decode cL_law 777 = .ok (.iaload, 1) := by decide +kernel
theorem dL_law_778 : decode cL_law 778 = .ok (.aload_n 0, 1) := by decide +kernel
theorem dL_law_779 : decode cL_law 779 = .ok (.iload 4, 2) := by decide +kernel
theorem dL_law_781 : decode cL_law 781 = .ok (.iconst 3, 1) := by decide +kernel
theorem dL_law_782 : decode cL_law 782 = .ok (.iadd, 1) := by decide +kernel
theorem dL_law_783 : decode cL_law 783 = .ok (.iaload, 1) := by decide +kernel
theorem dL_law_784 : decode cL_law 784 = .ok (.invokevirtual 75, 3) := by decide +kernel
theorem dL_law_787 : decode cL_law 787 = .ok (.if_icmp .eq 181, 3) := by decide +kernel
theorem dL_law_790 : decode cL_law 790 = .ok (.iconst 0, 1) := by decide +kernel
theorem dL_law_791 : decode cL_law 791 = .ok (.ireturn, 1) := by decide +kernel
theorem dL_law_792 : decode cL_law 792 = .ok (.aload_n 1, 1) := by decide +kernel
theorem dL_law_793 : decode cL_law 793 = .ok (.aload_n 0, 1) := by decide +kernel
theorem dL_law_794 : decode cL_law 794 = .ok (.iload 4, 2) := by decide +kernel
theorem dL_law_796 : decode cL_law 796 = .ok (.iconst 1, 1) := by decide +kernel
theorem dL_law_797 : decode cL_law 797 = .ok (.iadd, 1) := by decide +kernel
theorem dL_law_798 : decode cL_law 798 = .ok (.iaload, 1) := by decide +kernel
theorem dL_law_799 : decode cL_law 799 = .ok (.aload_n 0, 1) := by decide +kernel
theorem dL_law_800 : decode cL_law 800 = .ok (.iload 4, 2) := by decide +kernel
theorem dL_law_802 : decode cL_law 802 = .ok (.iconst 2, 1) := by decide +kernel
theorem dL_law_803 : decode cL_law 803 = .ok (.iadd, 1) := by decide +kernel
theorem dL_law_804 : decode cL_law 804 = .ok (.iaload, 1) := by decide +kernel
theorem dL_law_805 : decode cL_law 805 = .ok (.i2l, 1) := by decide +kernel
theorem dL_law_806 : decode cL_law 806 = .ok (.bipush 32, 2) := by decide +kernel
theorem dL_law_808 : decode cL_law 808 = .ok (.lshl, 1) := by decide +kernel
theorem dL_law_809 : decode cL_law 809 = .ok (.aload_n 0, 1) := by decide +kernel
theorem dL_law_810 : decode cL_law 810 = .ok (.iload 4, 2) := by decide +kernel
theorem dL_law_812 : decode cL_law 812 = .ok (.iconst 3, 1) := by decide +kernel
theorem dL_law_813 : decode cL_law 813 = .ok (.iadd, 1) := by decide +kernel
theorem dL_law_814 : decode cL_law 814 = .ok (.iaload, 1) := by decide +kernel
theorem dL_law_815 : decode cL_law 815 = .ok (.i2l, 1) := by decide +kernel
theorem dL_law_816 : decode cL_law 816 = .ok (.ldc2_w 19, 3) := by decide +kernel
theorem dL_law_819 : decode cL_law 819 = .ok (.land, 1) := by decide +kernel
theorem dL_law_820 : decode cL_law 820 = .ok (.lor, 1) := by decide +kernel
theorem dL_law_821 : decode cL_law 821 = .ok (.invokevirtual 76, 3) := by decide +kernel
theorem dL_law_824 : decode cL_law 824 = .ok (.aload_n 2, 1) := by decide +kernel
theorem dL_law_825 : decode cL_law 825 = .ok (.aload_n 0, 1) := by decide +kernel
theorem dL_law_826 : decode cL_law 826 = .ok (.iload 4, 2) := by decide +kernel
theorem dL_law_828 : decode cL_law 828 = .ok (.iconst 1, 1) := by decide +kernel
theorem dL_law_829 : decode cL_law 829 = .ok (.iadd, 1) := by decide +kernel
theorem dL_law_830 : decode cL_law 830 = .ok (.iaload, 1) := by decide +kernel
theorem dL_law_831 : decode cL_law 831 = .ok (.aload_n 0, 1) := by decide +kernel
theorem dL_law_832 : decode cL_law 832 = .ok (.iload 4, 2) := by decide +kernel
theorem dL_law_834 : decode cL_law 834 = .ok (.iconst 2, 1) := by decide +kernel
theorem dL_law_835 : decode cL_law 835 = .ok (.iadd, 1) := by decide +kernel
theorem dL_law_836 : decode cL_law 836 = .ok (.iaload, 1) := by decide +kernel
theorem dL_law_837 : decode cL_law 837 = .ok (.i2l, 1) := by decide +kernel
theorem dL_law_838 : decode cL_law 838 = .ok (.bipush 32, 2) := by decide +kernel
theorem dL_law_840 : decode cL_law 840 = .ok (.lshl, 1) := by decide +kernel
theorem dL_law_841 : decode cL_law 841 = .ok (.aload_n 0, 1) := by decide +kernel
theorem dL_law_842 : decode cL_law 842 = .ok (.iload 4, 2) := by decide +kernel
theorem dL_law_844 : decode cL_law 844 = .ok (.iconst 3, 1) := by decide +kernel
theorem dL_law_845 : decode cL_law 845 = .ok (.iadd, 1) := by decide +kernel
theorem dL_law_846 : decode cL_law 846 = .ok (.iaload, 1) := by decide +kernel
theorem dL_law_847 : decode cL_law 847 = .ok (.i2l, 1) := by decide +kernel
theorem dL_law_848 : decode cL_law 848 = .ok (.ldc2_w 19, 3) := by decide +kernel
theorem dL_law_851 : decode cL_law 851 = .ok (.land, 1) := by decide +kernel
theorem dL_law_852 : decode cL_law 852 = .ok (.lor, 1) := by decide +kernel
theorem dL_law_853 : decode cL_law 853 = .ok (.invokevirtual 80, 3) := by decide +kernel
theorem dL_law_856 : decode cL_law 856 = .ok (.lcmp, 1) := by decide +kernel
theorem dL_law_857 : decode cL_law 857 = .ok (.ifCond .eq 111, 3) := by decide +kernel
theorem dL_law_860 : decode cL_law 860 = .ok (.iconst 0, 1) := by decide +kernel
theorem dL_law_861 : decode cL_law 861 = .ok (.ireturn, 1) := by decide +kernel
theorem dL_law_862 : decode cL_law 862 = .ok (.aload_n 1, 1) := by decide +kernel
theorem dL_law_863 : decode cL_law 863 = .ok (.aload_n 0, 1) := by decide +kernel
theorem dL_law_864 : decode cL_law 864 = .ok (.iload 4, 2) := by decide +kernel
theorem dL_law_866 : decode cL_law 866 = .ok (.iconst 1, 1) := by decide +kernel
theorem dL_law_867 : decode cL_law 867 = .ok (.iadd, 1) := by decide +kernel
theorem dL_law_868 : decode cL_law 868 = .ok (.iaload, 1) := by decide +kernel
theorem dL_law_869 : decode cL_law 869 = .ok (.aload_n 0, 1) := by decide +kernel
theorem dL_law_870 : decode cL_law 870 = .ok (.iload 4, 2) := by decide +kernel
theorem dL_law_872 : decode cL_law 872 = .ok (.iconst 2, 1) := by decide +kernel
theorem dL_law_873 : decode cL_law 873 = .ok (.iadd, 1) := by decide +kernel
theorem dL_law_874 : decode cL_law 874 = .ok (.iaload, 1) := by decide +kernel
theorem dL_law_875 : decode cL_law 875 = .ok (.i2l, 1) := by decide +kernel
theorem dL_law_876 : decode cL_law 876 = .ok (.bipush 32, 2) := by decide +kernel
theorem dL_law_878 : decode cL_law 878 = .ok (.lshl, 1) := by decide +kernel
theorem dL_law_879 : decode cL_law 879 = .ok (.aload_n 0, 1) := by decide +kernel
theorem dL_law_880 : decode cL_law 880 = .ok (.iload 4, 2) := by decide +kernel
theorem dL_law_882 : decode cL_law 882 = .ok (.iconst 3, 1) := by decide +kernel
theorem dL_law_883 : decode cL_law 883 = .ok (.iadd, 1) := by decide +kernel
theorem dL_law_884 : decode cL_law 884 = .ok (.iaload, 1) := by decide +kernel
theorem dL_law_885 : decode cL_law 885 = .ok (.i2l, 1) := by decide +kernel
theorem dL_law_886 : decode cL_law 886 = .ok (.ldc2_w 19, 3) := by decide +kernel
theorem dL_law_889 : decode cL_law 889 = .ok (.land, 1) := by decide +kernel
theorem dL_law_890 : decode cL_law 890 = .ok (.lor, 1) := by decide +kernel
theorem dL_law_891 : decode cL_law 891 = .ok (.invokevirtual 81, 3) := by decide +kernel
theorem dL_law_894 : decode cL_law 894 = .ok (.aload_n 2, 1) := by decide +kernel
theorem dL_law_895 : decode cL_law 895 = .ok (.aload_n 0, 1) := by decide +kernel
theorem dL_law_896 : decode cL_law 896 = .ok (.iload 4, 2) := by decide +kernel
theorem dL_law_898 : decode cL_law 898 = .ok (.iconst 1, 1) := by decide +kernel
theorem dL_law_899 : decode cL_law 899 = .ok (.iadd, 1) := by decide +kernel
theorem dL_law_900 : decode cL_law 900 = .ok (.iaload, 1) := by decide +kernel
theorem dL_law_901 : decode cL_law 901 = .ok (.aload_n 0, 1) := by decide +kernel
theorem dL_law_902 : decode cL_law 902 = .ok (.iload 4, 2) := by decide +kernel
theorem dL_law_904 : decode cL_law 904 = .ok (.iconst 2, 1) := by decide +kernel
theorem dL_law_905 : decode cL_law 905 = .ok (.iadd, 1) := by decide +kernel
theorem dL_law_906 : decode cL_law 906 = .ok (.iaload, 1) := by decide +kernel
theorem dL_law_907 : decode cL_law 907 = .ok (.i2l, 1) := by decide +kernel
theorem dL_law_908 : decode cL_law 908 = .ok (.bipush 32, 2) := by decide +kernel
theorem dL_law_910 : decode cL_law 910 = .ok (.lshl, 1) := by decide +kernel
theorem dL_law_911 : decode cL_law 911 = .ok (.aload_n 0, 1) := by decide +kernel
theorem dL_law_912 : decode cL_law 912 = .ok (.iload 4, 2) := by decide +kernel
theorem dL_law_914 : decode cL_law 914 = .ok (.iconst 3, 1) := by decide +kernel
theorem dL_law_915 : decode cL_law 915 = .ok (.iadd, 1) := by decide +kernel
theorem dL_law_916 : decode cL_law 916 = .ok (.iaload, 1) := by decide +kernel
theorem dL_law_917 : decode cL_law 917 = .ok (.i2l, 1) := by decide +kernel
theorem dL_law_918 : decode cL_law 918 = .ok (.ldc2_w 19, 3) := by decide +kernel
theorem dL_law_921 : decode cL_law 921 = .ok (.land, 1) := by decide +kernel
theorem dL_law_922 : decode cL_law 922 = .ok (.lor, 1) := by decide +kernel
theorem dL_law_923 : decode cL_law 923 = .ok (.invokevirtual 85, 3) := by decide +kernel
theorem dL_law_926 : decode cL_law 926 = .ok (.if_icmp .eq 42, 3) := by decide +kernel
theorem dL_law_929 : decode cL_law 929 = .ok (.iconst 0, 1) := by decide +kernel
theorem dL_law_930 : decode cL_law 930 = .ok (.ireturn, 1) := by decide +kernel
theorem dL_law_931 : decode cL_law 931 = .ok (.aload_n 1, 1) := by decide +kernel
theorem dL_law_932 : decode cL_law 932 = .ok (.aload_n 0, 1) := by decide +kernel
theorem dL_law_933 : decode cL_law 933 = .ok (.iload 4, 2) := by decide +kernel
theorem dL_law_935 : decode cL_law 935 = .ok (.iconst 1, 1) := by decide +kernel
theorem dL_law_936 : decode cL_law 936 = .ok (.iadd, 1) := by decide +kernel
theorem dL_law_937 : decode cL_law 937 = .ok (.iaload, 1) := by decide +kernel
theorem dL_law_938 : decode cL_law 938 = .ok (.aload_n 0, 1) := by decide +kernel
theorem dL_law_939 : decode cL_law 939 = .ok (.iload 4, 2) := by decide +kernel
theorem dL_law_941 : decode cL_law 941 = .ok (.iconst 2, 1) := by decide +kernel
theorem dL_law_942 : decode cL_law 942 = .ok (.iadd, 1) := by decide +kernel
theorem dL_law_943 : decode cL_law 943 = .ok (.iaload, 1) := by decide +kernel
theorem dL_law_944 : decode cL_law 944 = .ok (.invokevirtual 86, 3) := by decide +kernel
theorem dL_law_947 : decode cL_law 947 = .ok (.aload_n 2, 1) := by decide +kernel
theorem dL_law_948 : decode cL_law 948 = .ok (.aload_n 0, 1) := by decide +kernel
theorem dL_law_949 : decode cL_law 949 = .ok (.iload 4, 2) := by decide +kernel
theorem dL_law_951 : decode cL_law 951 = .ok (.iconst 1, 1) := by decide +kernel
theorem dL_law_952 : decode cL_law 952 = .ok (.iadd, 1) := by decide +kernel
theorem dL_law_953 : decode cL_law 953 = .ok (.iaload, 1) := by decide +kernel
theorem dL_law_954 : decode cL_law 954 = .ok (.aload_n 0, 1) := by decide +kernel
theorem dL_law_955 : decode cL_law 955 = .ok (.iload 4, 2) := by decide +kernel
theorem dL_law_957 : decode cL_law 957 = .ok (.iconst 2, 1) := by decide +kernel
theorem dL_law_958 : decode cL_law 958 = .ok (.iadd, 1) := by decide +kernel
theorem dL_law_959 : decode cL_law 959 = .ok (.iaload, 1) := by decide +kernel
theorem dL_law_960 : decode cL_law 960 = .ok (.invokevirtual 89, 3) := by decide +kernel
theorem dL_law_963 : decode cL_law 963 = .ok (.if_icmp .eq 5, 3) := by decide +kernel
theorem dL_law_966 : decode cL_law 966 = .ok (.iconst 0, 1) := by decide +kernel
theorem dL_law_967 : decode cL_law 967 = .ok (.ireturn, 1) := by decide +kernel
theorem dL_law_968 : decode cL_law 968 = .ok (.iinc 4 7, 3) := by decide +kernel
theorem dL_law_971 : decode cL_law 971 = .ok (.goto (-948), 3) := by decide +kernel
end
section
theorem dL_law_974 : decode cL_law 974 = .ok (.iconst 1, 1) := by decide +kernel
theorem dL_law_975 : decode cL_law 975 = .ok (.ireturn, 1) := by decide +kernel
abbrev vwCl : List vw_C := [(RJx00060, TJx00060, 6), (RX0, TX0, 4), (RX1, TX1, 7), (RX2, TX2, 4), (RX3, TX3, 2), (RX4, TX4, 15)]
end
section
/-! THE ENVIRONMENT: the classes' numbers and slots, the array classes, the words on nest mates; what no call changes. -/
abbrev Gx : Type := va_G × (ClassId × ClassId × ClassId × ClassId)
abbrev kI (G : Gx) : ClassId := G.2.1
abbrev kJ (G : Gx) : ClassId := G.2.2.1
abbrev kZ (G : Gx) : ClassId := G.2.2.2.1
abbrev kM (G : Gx) : ClassId := G.2.2.2.2
abbrev tyz (G : Gx) : List (ClassId × FieldType) := [(kI G, .int), (kJ G, .long), (kZ G, .boolean), (kM G, .object RX0)]
abbrev nF0 : Cond := .fieldLinkNest RX0 35 "MeterSeals$Table" "count" "I" RX3
abbrev nF1 : Cond := .fieldLinkNest RX0 77 "MeterSeals$Rows" "count" "I" RX3
abbrev nF2 : Cond := .fieldLinkNest RX3 63 "MeterSeals$Rows" "count" "I" RX3
abbrev nF3 : Cond := .fieldLinkNest RX3 30 "MeterSeals$Meter" "table" "LMeterSeals$Table;" RX3
abbrev nF4 : Cond := .fieldLinkNest RX3 42 "MeterSeals$Meter" "rows" "LMeterSeals$Rows;" RX3
abbrev nM0 : Cond := .methodLinkNest RX0 41 yX3_within RX3
abbrev nM1 : Cond := .methodLinkNest RX0 70 yX3_commonDivisor RX3
abbrev nM2 : Cond := .methodLinkNest RX0 74 yX3_quotient RX3
abbrev nM3 : Cond := .methodLinkNest RX1 107 yX3_textByte RX3
abbrev nM4 : Cond := .methodLinkNest RX1 53 yX3_within RX3
abbrev nM5 : Cond := .methodLinkNest RX1 97 yX3_textLength RX3
abbrev nM6 : Cond := .methodLinkNest RX2 30 yX3_within RX3
def NW (U : State) : Prop := (va_Nw nF0 U ∧ va_Nw nF1 U ∧ va_Nw nF2 U ∧ va_Nw nF3 U ∧ va_Nw nF4 U) ∧ (va_Nw nM0 U ∧ va_Nw nM1 U ∧ va_Nw nM2 U ∧ va_Nw nM3 U ∧ va_Nw nM4 U ∧ va_Nw nM5 U ∧ va_Nw nM6 U)
theorem NW.warm {s U : State} (hW : s.WarmedH U.vm) (h : NW s) : NW U := by
  obtain ⟨⟨a0, a1, a2, a3, a4⟩, b0, b1, b2, b3, b4, b5, b6⟩ := h
  exact ⟨⟨a0.warmF hW, a1.warmF hW, a2.warmF hW, a3.warmF hW, a4.warmF hW⟩, b0.warmM hW, b1.warmM hW, b2.warmM hW, b3.warmM hW, b4.warmM hW, b5.warmM hW, b6.warmM hW⟩
theorem NW.same {u U : State} (h : u.vm = U.vm) (hZ : NW u) : NW U := by
  obtain ⟨⟨a0, a1, a2, a3, a4⟩, b0, b1, b2, b3, b4, b5, b6⟩ := hZ
  exact ⟨⟨a0.same rfl h, a1.same rfl h, a2.same rfl h, a3.same rfl h, a4.same rfl h⟩, b0.same rfl h, b1.same rfl h, b2.same rfl h, b3.same rfl h, b4.same rfl h, b5.same rfl h, b6.same rfl h⟩
def EV (G : Gx) (U : State) : Prop := va_K G.1 vwCl (tyz G) U ∧ NW U ∧ va_AO RX0 U
theorem EV.K {G : Gx} {U : State} (h : EV G U) : va_K G.1 vwCl (tyz G) U := h.1
theorem EV.warm {G : Gx} {s U : State} (hW : s.WarmedH U.vm) (h : EV G s) : EV G U := ⟨va_K.moved hW.alike h.1, h.2.1.warm hW, h.2.2.moved hW.alike⟩
theorem EV.same {G : Gx} {u U : State} (hv : u.vm = U.vm) (h : EV G u) : EV G U := by
  have ha : u.vm.Alike U.vm := by rw [hv]; exact Vm.Alike.refl _
  exact ⟨va_K.moved ha h.1, h.2.1.same hv, h.2.2.moved ha⟩
/-! WORLDS CUT IN THREE -/
theorem x_mid {D : va_G} {cl : List vw_C} {ws : va_W} {H : Heap} (a b c : va_W) (hw : ws = a ++ b ++ c) (h : va_P D cl ws H) : va_P D cl b H := by
  intro k q hk
  subst hw
  refine h (a.length + k) q ?_
  have hlt : k < b.length := (List.getElem?_eq_some_iff.mp hk).1
  rw [List.getElem?_append_left (by rw [List.length_append]; omega), List.getElem?_append_right (by omega), Nat.add_sub_cancel_left]
  exact hk
def adr (ws : va_W) : Nat → Prop := fun q => ∃ (k : Nat) (e : va_E), ws[k]? = some (q, e)
theorem x_midD {A : Nat → Prop} {ws : va_W} (a b c : va_W) (hw : ws = a ++ b ++ c) (h : va_D A ws) : va_D A b := by
  subst hw
  have hp : ∀ (k : Nat) (q : Nat × va_E), b[k]? = some q → (a ++ b ++ c)[a.length + k]? = some q := by
    intro k q hk
    have hlt : k < b.length := (List.getElem?_eq_some_iff.mp hk).1
    rw [List.getElem?_append_left (by rw [List.length_append]; omega), List.getElem?_append_right (by omega), Nat.add_sub_cancel_left]
    exact hk
  refine ⟨fun i j p q hi hj he => ?_, fun k q hk => h.2 _ q (hp k q hk)⟩
  have := h.1 _ _ p q (hp i p hi) (hp j q hj) he
  omega
theorem x_adr {A : Nat → Prop} {ws : va_W} (a b c : va_W) (hw : ws = a ++ b ++ c) (h : va_D A ws) : ∀ q, adr b q → A q := by
  rintro q ⟨k, e, hk⟩
  exact (x_midD a b c hw h).2 k _ hk
theorem adr_map {w1 w0 : va_W} (hm : w1.map Prod.fst = w0.map Prod.fst) {q : Nat} (h : adr w1 q) : adr w0 q := by
  obtain ⟨k, e, hk⟩ := h
  have h1 : (w1.map Prod.fst)[k]? = some q := by rw [List.getElem?_map, hk]; rfl
  rw [hm, List.getElem?_map] at h1
  cases h2 : w0[k]? with
  | none => rw [h2] at h1; cases h1
  | some x => rw [h2] at h1; cases h1; exact ⟨k, x.2, h2⟩
/-- what a call wrote in the middle, beside what it left -/
theorem x_join {A0 : Nat → Prop} {D : va_G} {cl : List vw_C} {ws : va_W} {H H1 : Heap} (a b c b1 : va_W) (hw : ws = a ++ b ++ c) (hP : va_P D cl ws H) (hD : va_D A0 ws)
    (hk : ∀ q : Nat, q < H.size → ¬ adr b q → H1[q]? = H[q]?) (hP1 : va_P D cl b1 H1) (hm : b1.map Prod.fst = b.map Prod.fst) : va_P D cl (a ++ b1 ++ c) H1 ∧ va_D A0 (a ++ b1 ++ c) := by
  subst hw
  have hlen : b1.length = b.length := by have := congrArg List.length hm; simpa using this
  -- every place of the new world has its address at the same place of the old
  have hold : ∀ (k : Nat) (q : Nat × va_E), (a ++ b1 ++ c)[k]? = some q → ∃ e, (a ++ b ++ c)[k]? = some (q.1, e) := by
    intro k q hkq
    have h1 : ((a ++ b1 ++ c).map Prod.fst)[k]? = some q.1 := by rw [List.getElem?_map, hkq]; rfl
    rw [List.map_append, List.map_append, hm, ← List.map_append, ← List.map_append, List.getElem?_map] at h1
    cases h2 : (a ++ b ++ c)[k]? with
    | none => rw [h2] at h1; cases h1
    | some x =>
      rw [h2] at h1
      have h3 : x.1 = q.1 := Option.some.inj h1
      exact ⟨x.2, by rw [← h3]⟩
  refine ⟨fun k q hkq => ?_, ⟨fun i j p q hi hj he => ?_, fun k q hkq => ?_⟩⟩
  · by_cases hb : k < a.length
    · have e1 : (a ++ b ++ c)[k]? = some q := by
        rw [List.append_assoc, List.getElem?_append_left hb] at hkq ⊢
        exact hkq
      have hat := hP k q e1
      refine hat.kept (hk q.1 hat.lt ?_)
      rintro ⟨j, e, hj⟩
      have hjl : j < b.length := (List.getElem?_eq_some_iff.mp hj).1
      have e2 : (a ++ b ++ c)[a.length + j]? = some (q.1, e) := by
        rw [List.getElem?_append_left (by rw [List.length_append]; omega), List.getElem?_append_right (by omega), Nat.add_sub_cancel_left]
        exact hj
      have := hD.1 _ _ _ _ e1 e2 rfl
      omega
    · by_cases hb2 : k < a.length + b.length
      · rw [List.getElem?_append_left (by rw [List.length_append]; omega), List.getElem?_append_right (by omega)] at hkq
        exact hP1 _ q hkq
      · have e1 : (a ++ b ++ c)[k]? = some q := by
          rw [List.getElem?_append_right (by rw [List.length_append]; omega), List.length_append] at hkq ⊢
          rw [← hlen]
          exact hkq
        have hat := hP k q e1
        refine hat.kept (hk q.1 hat.lt ?_)
        rintro ⟨j, e, hj⟩
        have hjl : j < b.length := (List.getElem?_eq_some_iff.mp hj).1
        have e2 : (a ++ b ++ c)[a.length + j]? = some (q.1, e) := by
          rw [List.getElem?_append_left (by rw [List.length_append]; omega), List.getElem?_append_right (by omega), Nat.add_sub_cancel_left]
          exact hj
        have := hD.1 _ _ _ _ e1 e2 rfl
        omega
  · obtain ⟨e1, h1⟩ := hold i p hi
    obtain ⟨e2, h2⟩ := hold j q hj
    exact hD.1 i j _ _ h1 h2 he
  · obtain ⟨e1, h1⟩ := hold k q hkq
    exact hD.2 k (q.1, e1) h1
/-! CONTRACTS: what reads, what writes -/
abbrev RdP (G : Gx) (ws : va_W) (As : List Value) : Array Value → State → Prop := va_Pc As (fun U => va_P G.1 vwCl ws U.heap ∧ EV G U)
abbrev WrP (G : Gx) (ws : va_W) (As : List Value) : Array Value → State → Prop := va_Pc As (fun U => va_P G.1 vwCl ws U.heap ∧ EV G U ∧ va_D (fun _ => True) ws)
theorem RdP.blind {G : Gx} {ws : va_W} {As : List Value} : FrameBlind (RdP G ws As) := fun a U g mk q => ⟨q.1, q.2.1, EV.same (u := U) (U := U.calling g mk a) rfl q.2.2⟩
theorem WrP.blind {G : Gx} {ws : va_W} {As : List Value} : FrameBlind (WrP G ws As) := fun a U g mk q => ⟨q.1, q.2.1, EV.same (u := U) (U := U.calling g mk a) rfl q.2.2.1, q.2.2.2⟩
theorem RdP.preS {G : Gx} {s : State} {H : Heap} {ws : va_W} {As : List Value} (hP : va_P G.1 vwCl ws H) (hE : EV G s) : PreS s H (RdP G ws As) As := ⟨RdP.blind, fun U hU hW => ⟨rfl, by rw [hU]; exact hP, hE.warm hW⟩⟩
theorem WrP.preS {G : Gx} {s : State} {H : Heap} {ws : va_W} {As : List Value} {A : Nat → Prop} (hP : va_P G.1 vwCl ws H) (hE : EV G s) (hD : va_D A ws) : PreS s H (WrP G ws As) As := ⟨WrP.blind, fun U hU hW => ⟨rfl, by rw [hU]; exact hP, hE.warm hW, hD.weaken (fun _ _ _ _ => trivial)⟩⟩
theorem RdP.preV {G : Gx} {s : State} {H : Heap} {ws : va_W} {b : Nat} {As : List Value} (q0 ci : Nat) {C : String} {T : u_T} {N : Nat} {fs : List Value} (he : ws[q0]? = some (b, .inr (ci, fs))) (hc : vwCl[ci]? = some (C, T, N)) (hP : va_P G.1 vwCl ws H) (hE : EV G s) : PreV s H C b (RdP G ws (.ref b :: As)) As :=
  ⟨RdP.blind, va_recv hE.1 hP hc he, fun U hU hW => ⟨rfl, by rw [hU]; exact hP, hE.warm hW⟩⟩
theorem WrP.preV {G : Gx} {s : State} {H : Heap} {ws : va_W} {b : Nat} {As : List Value} {A : Nat → Prop} (q0 ci : Nat) {C : String} {T : u_T} {N : Nat} {fs : List Value} (he : ws[q0]? = some (b, .inr (ci, fs))) (hc : vwCl[ci]? = some (C, T, N)) (hP : va_P G.1 vwCl ws H) (hE : EV G s) (hD : va_D A ws) : PreV s H C b (WrP G ws (.ref b :: As)) As :=
  ⟨WrP.blind, va_recv hE.1 hP hc he, fun U hU hW => ⟨rfl, by rw [hU]; exact hP, hE.warm hW, hD.weaken (fun _ _ _ _ => trivial)⟩⟩
section XC
variable {p : Program} {l : Launch} {e : Env} {R : Room} {s : State} {m : MethodId} {args : Array Value} {below : List Frame} {meth : Method} {c : Code} {H : Heap} {locs : List Loc} {cells slots : Nat} {Q : State → Prop}
variable {cc : ByteArray} {pc : Nat} {ls : Array Slot} {rest st0 : List Value} {a : Array Value}
/-- behind a call that reads: an int, a long -/
theorem x_ri {post : Int32 → Prop} (hr : va_Run p l e R s m args below meth c H locs cells slots 0 0 (F0 m pc ls st0) rest (vp_Si post a) (fun _ => False))
    (kk : ∀ r : Int32, post r → W p l e R s m args below meth c H locs cells slots Q (F0 m (pc + 3) ls (.int r :: rest))) : W p l e R s m args below meth c H locs cells slots Q (F0 m pc ls st0) := by
  intro T hT X
  obtain ⟨v, st₀, t, T', L, h0, X', hL, e1, e2, ⟨r, hv, hp, hh⟩, st⟩ := hr T hT X
  cases hv
  obtain ⟨t2, a1, b1⟩ := kk r hp T' (by rw [e1, hh, h0]) (Stand.forget X' (fun q h => (hL q h).elim))
  exact ⟨t2, st t2 a1, b1⟩
theorem x_rl {post : Int64 → Prop} (hr : va_Run p l e R s m args below meth c H locs cells slots 0 0 (F0 m pc ls st0) rest (vp_Sl post a) (fun _ => False))
    (kk : ∀ r : Int64, post r → W p l e R s m args below meth c H locs cells slots Q (F0 m (pc + 3) ls (.long r :: rest))) : W p l e R s m args below meth c H locs cells slots Q (F0 m pc ls st0) := by
  intro T hT X
  obtain ⟨v, st₀, t, T', L, h0, X', hL, e1, e2, ⟨r, hv, hp, hh⟩, st⟩ := hr T hT X
  cases hv
  obtain ⟨t2, a1, b1⟩ := kk r hp T' (by rw [e1, hh, h0]) (Stand.forget X' (fun q h => (hL q h).elim))
  exact ⟨t2, st t2 a1, b1⟩
theorem x_rq {post : Option Nat → Prop} (hr : va_Run p l e R s m args below meth c H locs cells slots 0 0 (F0 m pc ls st0) rest (va_Sq post a) (fun _ => False))
    (kk : ∀ r : Option Nat, post r → W p l e R s m args below meth c H locs cells slots Q (F0 m (pc + 3) ls (va_rf r :: rest))) : W p l e R s m args below meth c H locs cells slots Q (F0 m pc ls st0) := by
  intro T hT X
  obtain ⟨v, st₀, t, T', L, h0, X', hL, e1, e2, ⟨r, hv, hp, hh⟩, st⟩ := hr T hT X
  cases hv
  obtain ⟨t2, a1, b1⟩ := kk r hp T' (by rw [e1, hh, h0]) (Stand.forget X' (fun q h => (hL q h).elim))
  exact ⟨t2, st t2 a1, b1⟩
/-- two longs compared, and the branch behind it -/
theorem x_lge (hx : p.tables.exec = Jvm.exec) (hb : c.code = cc) {x y : Int64} {off : Int} {tgt : Nat} (h1 : decode cc pc = .ok (.lcmp, 1)) (h2 : decode cc (pc + 1) = .ok (.ifCond .ge off, 3)) (ht : ((pc + 1 : Nat) : Int) + off = (tgt : Int))
    (ky : y ≤ x → W p l e R s m args below meth c H locs cells slots Q (F0 m tgt ls rest)) (kn : ¬ y ≤ x → W p l e R s m args below meth c H locs cells slots Q (F0 m (pc + 1 + 3) ls rest)) : W p l e R s m args below meth c H locs cells slots Q (F0 m pc ls (.long y :: .long x :: rest)) :=
  W.lcmp hx hb h1 (lv_if_ge hx hb h2 ht (fun h => ky ((lg_cmp_ge x y).mp h)) (fun h => kn (fun q => h ((lg_cmp_ge x y).mpr q))))
theorem x_lle (hx : p.tables.exec = Jvm.exec) (hb : c.code = cc) {x y : Int64} {off : Int} {tgt : Nat} (h1 : decode cc pc = .ok (.lcmp, 1)) (h2 : decode cc (pc + 1) = .ok (.ifCond .le off, 3)) (ht : ((pc + 1 : Nat) : Int) + off = (tgt : Int))
    (ky : x ≤ y → W p l e R s m args below meth c H locs cells slots Q (F0 m tgt ls rest)) (kn : ¬ x ≤ y → W p l e R s m args below meth c H locs cells slots Q (F0 m (pc + 1 + 3) ls rest)) : W p l e R s m args below meth c H locs cells slots Q (F0 m pc ls (.long y :: .long x :: rest)) :=
  W.lcmp hx hb h1 (lv_if_le hx hb h2 ht (fun h => ky ((lg_cmp_le x y).mp h)) (fun h => kn (fun q => h ((lg_cmp_le x y).mpr q))))
theorem x_lgt (hx : p.tables.exec = Jvm.exec) (hb : c.code = cc) {x y : Int64} {off : Int} {tgt : Nat} (h1 : decode cc pc = .ok (.lcmp, 1)) (h2 : decode cc (pc + 1) = .ok (.ifCond .gt off, 3)) (ht : ((pc + 1 : Nat) : Int) + off = (tgt : Int))
    (ky : y < x → W p l e R s m args below meth c H locs cells slots Q (F0 m tgt ls rest)) (kn : ¬ y < x → W p l e R s m args below meth c H locs cells slots Q (F0 m (pc + 1 + 3) ls rest)) : W p l e R s m args below meth c H locs cells slots Q (F0 m pc ls (.long y :: .long x :: rest)) :=
  W.lcmp hx hb h1 (lv_if_gt hx hb h2 ht (fun h => ky ((lg_cmp_gt x y).mp h)) (fun h => kn (fun q => h ((lg_cmp_gt x y).mpr q))))
theorem x_llt (hx : p.tables.exec = Jvm.exec) (hb : c.code = cc) {x y : Int64} {off : Int} {tgt : Nat} (h1 : decode cc pc = .ok (.lcmp, 1)) (h2 : decode cc (pc + 1) = .ok (.ifCond .lt off, 3)) (ht : ((pc + 1 : Nat) : Int) + off = (tgt : Int))
    (ky : x < y → W p l e R s m args below meth c H locs cells slots Q (F0 m tgt ls rest)) (kn : ¬ x < y → W p l e R s m args below meth c H locs cells slots Q (F0 m (pc + 1 + 3) ls rest)) : W p l e R s m args below meth c H locs cells slots Q (F0 m pc ls (.long y :: .long x :: rest)) :=
  W.lcmp hx hb h1 (lv_if_lt hx hb h2 ht (fun h => ky ((lg_cmp_lt x y).mp h)) (fun h => kn (fun q => h ((lg_cmp_lt x y).mpr q))))
theorem x_leq (hx : p.tables.exec = Jvm.exec) (hb : c.code = cc) {x y : Int64} {off : Int} {tgt : Nat} (h1 : decode cc pc = .ok (.lcmp, 1)) (h2 : decode cc (pc + 1) = .ok (.ifCond .eq off, 3)) (ht : ((pc + 1 : Nat) : Int) + off = (tgt : Int))
    (ky : x = y → W p l e R s m args below meth c H locs cells slots Q (F0 m tgt ls rest)) (kn : ¬ x = y → W p l e R s m args below meth c H locs cells slots Q (F0 m (pc + 1 + 3) ls rest)) : W p l e R s m args below meth c H locs cells slots Q (F0 m pc ls (.long y :: .long x :: rest)) :=
  W.lcmp hx hb h1 (lv_if_eq hx hb h2 ht (fun h => ky ((lg_cmp_eq x y).mp h)) (fun h => kn (fun q => h ((lg_cmp_eq x y).mpr q))))
theorem x_lne (hx : p.tables.exec = Jvm.exec) (hb : c.code = cc) {x y : Int64} {off : Int} {tgt : Nat} (h1 : decode cc pc = .ok (.lcmp, 1)) (h2 : decode cc (pc + 1) = .ok (.ifCond .ne off, 3)) (ht : ((pc + 1 : Nat) : Int) + off = (tgt : Int))
    (ky : ¬ x = y → W p l e R s m args below meth c H locs cells slots Q (F0 m tgt ls rest)) (kn : x = y → W p l e R s m args below meth c H locs cells slots Q (F0 m (pc + 1 + 3) ls rest)) : W p l e R s m args below meth c H locs cells slots Q (F0 m pc ls (.long y :: .long x :: rest)) :=
  W.lcmp hx hb h1 (lv_if_ne hx hb h2 ht (fun h => ky (fun q => h ((lg_cmp_eq x y).mpr q))) (fun h => kn ((lg_cmp_eq x y).mp h)))
end XC
end
section
/-! WHAT THE METHODS ANSWER, in the machine's own numbers -/
theorem zb {v : Int32} (h : v = 0 ∨ v = 1) : narrow .boolean (.int v) = .int v := by rcases h with rfl | rfl <;> rfl
theorem zfit {v : Int32} (h : v = 0 ∨ v = 1) : fits .boolean (.int v) = true := by rcases h with rfl | rfl <;> rfl
theorem znar {v : Int32} (h : v = 0 ∨ v = 1) : vp_nar .boolean v = v := by rcases h with rfl | rfl <;> rfl
def f_within (v a b : Int64) : Int32 := if v < a then 0 else if b < v then 0 else 1
def f_quot (a d : Int64) : Int64 := if d = 0 then 0 else a / d
def f_mix (h v : Int64) : Int64 := ((h ^^^ v) * 1099511628211) ^^^ ((((h ^^^ v) * 1099511628211).toUInt64 >>> ((29 : Int32).toInt64.toUInt64 &&& Int64.toUInt64 63)).toInt64)
def f_before (a b d : Int32) : Int32 := if d < a then (if b ≤ d then 0 else if b ≤ a then 0 else 1) else (if d < b then 1 else if a ≤ b then 0 else 1)
def f_abs (a : Int64) : Int64 := if 0 ≤ a then a else -a
def f_max (a b : Int32) : Int32 := if a < b then b else a
def f_min (a b : Int64) : Int64 := if b < a then b else a
def f_holds (n row : Int32) : Int32 := if row < 0 then 0 else if n ≤ row then 0 else 1
theorem f_holds01 (n row : Int32) : f_holds n row = 0 ∨ f_holds n row = 1 := by
  unfold f_holds
  split
  · exact Or.inl rfl
  · split
    · exact Or.inl rfl
    · exact Or.inr rfl
theorem f_holds_iff {c : Nat} (hc : c < 2 ^ 31) (row : Int32) : ¬ f_holds (nI c) row = 0 ↔ ∃ j : Nat, j < c ∧ row = nI j := by
  unfold f_holds
  rcases pk_ix row hc with h | h | ⟨j, hj, rfl⟩
  · rw [if_pos h]
    refine ⟨fun q => absurd rfl q, ?_⟩
    rintro ⟨j, hj, rfl⟩
    exact absurd h (nI_pos (by omega))
  · constructor
    · intro q
      rw [if_pos h] at q
      split at q <;> exact absurd rfl q
    · rintro ⟨j, hj, rfl⟩
      exact absurd h (nI_ge hj hc)
  · rw [if_neg (nI_pos (by omega)), if_neg (nI_ge hj hc)]
    exact ⟨fun _ => ⟨j, hj, rfl⟩, fun _ => by decide⟩
theorem holds_in {c : Nat} {row : Int32} (hc : c ≤ 200) (h : ¬ f_holds (nI c) row = 0) : vp_in row 200 := by
  obtain ⟨j, hj, rfl⟩ := (f_holds_iff (by omega) row).mp h
  exact vp_in_nI (by omega) (by omega)
def f_isR (c : Nat) (st : Nat → Int64) (row : Int32) : Int32 := if f_holds (nI c) row = 0 then 0 else if st row.toNatClampNeg < 0 then 0 else 1
theorem isR_holds {c : Nat} {st : Nat → Int64} {row : Int32} (h : ¬ f_isR c st row = 0) : ¬ f_holds (nI c) row = 0 := fun q => h (by unfold f_isR; rw [if_pos q])
theorem isR_in {c : Nat} {st : Nat → Int64} {row : Int32} (hc : c ≤ 200) (h : ¬ f_isR c st row = 0) : vp_in row 200 := holds_in hc (isR_holds h)
theorem f_isR01 (c : Nat) (st : Nat → Int64) (row : Int32) : f_isR c st row = 0 ∨ f_isR c st row = 1 := by
  unfold f_isR
  split
  · exact Or.inl rfl
  · split
    · exact Or.inl rfl
    · exact Or.inr rfl
def f_mark (c : Nat) (mk : Nat → Int32) (row : Int32) : Int32 := if f_holds (nI c) row = 0 then 0 else if mk row.toNatClampNeg = 0 then 0 else 1
def f_pul (c : Nat) (nu st : Nat → Int64) (row : Int32) : Int64 := if f_isR c st row = 0 then 0 else nu row.toNatClampNeg
def f_deg (c : Nat) (de : Nat → Int32) (row : Int32) : Int32 := if f_holds (nI c) row = 0 then 0 else de row.toNatClampNeg
def f_fct (c : Nat) (st : Nat → Int64) (row : Int32) : Int32 := if f_isR c st row = 0 then 1 else 3
abbrev wR (G : Gx) (h0 h1 h2 h3 h4 h5 : Nat) (key : Int64) (n : Int32) (nu st : Nat → Int64) (de : Nat → Int32) (su : Nat → Int64) (mk : Nat → Int32) : va_W := [(h0, .inr (2, [.long key, .ref h1, .ref h2, .ref h3, .ref h4, .ref h5, .int n])), (h1, .inl (kJ G, 200, .inr (.inl nu))), (h2, .inl (kJ G, 200, .inr (.inl st))), (h3, .inl (kI G, 200, .inl de)), (h4, .inl (kJ G, 200, .inr (.inl su))), (h5, .inl (kZ G, 200, .inl mk))]
abbrev wT (G : Gx) (t0 t1 t2 t3 : Nat) (n : Int32) (ts : Nat → Int32) (ta tb : Nat → Int64) : va_W := [(t0, .inr (3, [.ref t1, .ref t2, .ref t3, .int n])), (t1, .inl (kI G, 16, .inl ts)), (t2, .inl (kJ G, 16, .inr (.inl ta))), (t3, .inl (kJ G, 16, .inr (.inl tb)))]
end
section
set_option maxHeartbeats 4000000 in
set_option maxRecDepth 100000 in
/-- within -/
theorem ct_X3_within (l : Launch) (G : Gx) (v a b : Int64) : Met l yX3_within wsX3_within ({ frames := 0, cells := 0, slots := 0, locals := 0 }) (RdP G [] [.long v, .long a, .long b]) (vp_Si (fun r => r = f_within v a b)) 0 0 (fun _ => False) := by
  refine Met.ofW (cc := cX3_within) (maxL := 6) (ret := (some .boolean)) (by decide) rfl ?_
  intro p e s m args below meth c s₁ B hml hv
  obtain ⟨rfl, hP, hE⟩ := hv
  have hx := B.exec
  have hb := B.bytes
  have hr := B.returns
  have hts := atoms_spec (ws := wsX3_within) B.pre
  have hown : s.vm.findClass RX3 = some m.cls := findClass_of_methodNamed B.named
  have hlocks := B.notSynchronized
  have hl := lv_entry ([.long v, .long a, .long b]) (n := 6) (Nat.le_of_ble_eq_true rfl)
  rw [lg_entry_eq]
  generalize (lg_sl ([.long v, .long a, .long b]) ++ List.replicate (6 - (lg_sl ([.long v, .long a, .long b])).length) Slot.unset).toArray = ls at hl ⊢
  replace hl : lv_has ls 6 [(0, .long v), (2, .long a), (4, .long b)] := hl
  refine lv_lload_n hx hb dX3_within_0 rfl (lv_at hl 0 rfl) ?_
  refine lv_lload_n hx hb dX3_within_1 rfl (lv_at hl 1 rfl) ?_
  refine x_llt (tgt := 17) hx hb dX3_within_2 dX3_within_3 (by decide) (fun c3 => ?_) (fun c3 => ?_)
  · refine lv_iconst (v := 0) hx hb dX3_within_17 (by decide) ?_
    exact W.zret (v := 0) hx hb hr (zb (Or.inl rfl)) (fun t ht hW => ⟨_, rfl, by simp [f_within, c3], ht⟩) t_nil dX3_within_18
  refine lv_lload_n hx hb dX3_within_6 rfl (lv_at hl 0 rfl) ?_
  refine lv_lload hx hb dX3_within_7 (lv_at hl 2 rfl) ?_
  refine x_lgt (tgt := 17) hx hb dX3_within_9 dX3_within_10 (by decide) (fun c10 => ?_) (fun c10 => ?_)
  · refine lv_iconst (v := 0) hx hb dX3_within_17 (by decide) ?_
    exact W.zret (v := 0) hx hb hr (zb (Or.inl rfl)) (fun t ht hW => ⟨_, rfl, by simp [f_within, c3, c10], ht⟩) t_nil dX3_within_18
  refine lv_iconst (v := 1) hx hb dX3_within_13 (by decide) ?_
  refine lv_goto (tgt := 18) hx hb dX3_within_14 (by decide) ?_
  exact W.zret (v := 1) hx hb hr (zb (Or.inr rfl)) (fun t ht hW => ⟨_, rfl, by simp [f_within, c3, c10], ht⟩) t_nil dX3_within_18

set_option maxHeartbeats 4000000 in
set_option maxRecDepth 100000 in
/-- quotient -/
theorem ct_X3_quotient (l : Launch) (G : Gx) (a d : Int64) : Met l yX3_quotient wsX3_quotient ({ frames := 0, cells := 0, slots := 0, locals := 0 }) (RdP G [] [.long a, .long d]) (vp_Sl (fun r => r = f_quot a d)) 0 0 (fun _ => False) := by
  refine Met.ofW (cc := cX3_quotient) (maxL := 4) (ret := (some .long)) (by decide) rfl ?_
  intro p e s m args below meth c s₁ B hml hv
  obtain ⟨rfl, hP, hE⟩ := hv
  have hx := B.exec
  have hb := B.bytes
  have hr := B.returns
  have hts := atoms_spec (ws := wsX3_quotient) B.pre
  have hown : s.vm.findClass RX3 = some m.cls := findClass_of_methodNamed B.named
  have hlocks := B.notSynchronized
  have hl := lv_entry ([.long a, .long d]) (n := 4) (Nat.le_of_ble_eq_true rfl)
  rw [lg_entry_eq]
  generalize (lg_sl ([.long a, .long d]) ++ List.replicate (4 - (lg_sl ([.long a, .long d])).length) Slot.unset).toArray = ls at hl ⊢
  replace hl : lv_has ls 4 [(0, .long a), (2, .long d)] := hl
  refine lv_lload_n hx hb dX3_quotient_0 rfl (lv_at hl 1 rfl) ?_
  refine lv_lconst (v := 0) hx hb dX3_quotient_1 (by decide) ?_
  refine x_lne (tgt := 10) hx hb dX3_quotient_2 dX3_quotient_3 (by decide) (fun c3 => ?_) (fun c3 => ?_)
  · refine lv_lload_n hx hb dX3_quotient_10 rfl (lv_at hl 0 rfl) ?_
    refine lv_lload_n hx hb dX3_quotient_11 rfl (lv_at hl 1 rfl) ?_
    refine lv_ldiv hx hb dX3_quotient_12 c3 ?_
    exact W.lret (v := (a / d)) hx hb hr (fun t ht hW => ⟨_, rfl, by simp [f_quot, c3], ht⟩) t_nil dX3_quotient_13
  refine lv_lconst (v := 0) hx hb dX3_quotient_6 (by decide) ?_
  refine lv_goto (tgt := 13) hx hb dX3_quotient_7 (by decide) ?_
  exact W.lret (v := 0) hx hb hr (fun t ht hW => ⟨_, rfl, by simp [f_quot, c3], ht⟩) t_nil dX3_quotient_13

set_option maxHeartbeats 4000000 in
set_option maxRecDepth 100000 in
/-- stir -/
theorem ct_X1_stir (l : Launch) (G : Gx) (h v : Int64) : Met l yX1_stir wsX1_stir ({ frames := 0, cells := 0, slots := 0, locals := 0 }) (RdP G [] [.long h, .long v]) (vp_Sl (fun r => r = f_mix h v)) 0 0 (fun _ => False) := by
  refine Met.ofW (cc := cX1_stir) (maxL := 6) (ret := (some .long)) (by decide) rfl ?_
  intro p e s m args below meth c s₁ B hml hv
  obtain ⟨rfl, hP, hE⟩ := hv
  have hx := B.exec
  have hb := B.bytes
  have hr := B.returns
  have hts := atoms_spec (ws := wsX1_stir) B.pre
  have hown : s.vm.findClass RX1 = some m.cls := findClass_of_methodNamed B.named
  have hlocks := B.notSynchronized
  have hl := lv_entry ([.long h, .long v]) (n := 6) (Nat.le_of_ble_eq_true rfl)
  rw [lg_entry_eq]
  generalize (lg_sl ([.long h, .long v]) ++ List.replicate (6 - (lg_sl ([.long h, .long v])).length) Slot.unset).toArray = ls at hl ⊢
  replace hl : lv_has ls 6 [(0, .long h), (2, .long v)] := hl
  refine lv_lload_n hx hb dX1_stir_0 rfl (lv_at hl 0 rfl) ?_
  refine lv_lload_n hx hb dX1_stir_1 rfl (lv_at hl 1 rfl) ?_
  refine lv_lxor hx hb dX1_stir_2 ?_
  refine lv_ldc2 (v := 1099511628211) hx hb hown (hts (.constantLong RX1 63 1099511628211) (by decide +kernel)) dX1_stir_3 ?_
  refine lv_lmul hx hb dX1_stir_6 ?_
  refine lv_topl (fun v1 ev1 => ?_)
  refine lv_lstore (lv' := [(4, .long v1), (0, .long h), (2, .long v)]) hx hb dX1_stir_7 hl (by decide) rfl (fun ls hl => ?_)
  refine lv_lload hx hb dX1_stir_9 (lv_at hl 0 rfl) ?_
  refine lv_lload hx hb dX1_stir_11 (lv_at hl 0 rfl) ?_
  refine lv_bipush (v := 29) hx hb dX1_stir_13 (by decide) ?_
  refine lv_lushr (v := (v1.toUInt64 >>> ((29 : Int32).toInt64.toUInt64 &&& Int64.toUInt64 63)).toInt64) hx hb dX1_stir_15 rfl ?_
  refine lv_lxor hx hb dX1_stir_16 ?_
  exact W.lret (v := (v1 ^^^ (v1.toUInt64 >>> ((29 : Int32).toInt64.toUInt64 &&& Int64.toUInt64 63)).toInt64)) hx hb hr (fun t ht hW => ⟨_, rfl, by simp only [f_mix, ev1], ht⟩) t_nil dX1_stir_17

set_option maxHeartbeats 4000000 in
set_option maxRecDepth 100000 in
/-- goesBefore -/
theorem ct_X2_goesBefore (l : Launch) (G : Gx) (a b d : Int32) : Met l yX2_goesBefore wsX2_goesBefore ({ frames := 0, cells := 0, slots := 0, locals := 0 }) (RdP G [] [.int a, .int b, .int d]) (vp_Si (fun r => r = f_before a b d)) 0 0 (fun _ => False) := by
  refine Met.ofW (cc := cX2_goesBefore) (maxL := 3) (ret := (some .boolean)) (by decide) rfl ?_
  intro p e s m args below meth c s₁ B hml hv
  obtain ⟨rfl, hP, hE⟩ := hv
  have hx := B.exec
  have hb := B.bytes
  have hr := B.returns
  have hts := atoms_spec (ws := wsX2_goesBefore) B.pre
  have hown : s.vm.findClass RX2 = some m.cls := findClass_of_methodNamed B.named
  have hlocks := B.notSynchronized
  have hl := lv_entry ([.int a, .int b, .int d]) (n := 3) (Nat.le_of_ble_eq_true rfl)
  rw [lg_entry_eq]
  generalize (lg_sl ([.int a, .int b, .int d]) ++ List.replicate (3 - (lg_sl ([.int a, .int b, .int d])).length) Slot.unset).toArray = ls at hl ⊢
  replace hl : lv_has ls 3 [(0, .int a), (1, .int b), (2, .int d)] := hl
  refine lv_iload_n hx hb dX2_goesBefore_0 rfl (lv_at hl 0 rfl) ?_
  refine lv_iload_n hx hb dX2_goesBefore_1 rfl (lv_at hl 2 rfl) ?_
  refine lv_icmp_gt (tgt := 21) hx hb dX2_goesBefore_2 (by decide) (fun c2 => ?_) (fun c2 => ?_)
  · refine lv_iload_n hx hb dX2_goesBefore_21 rfl (lv_at hl 1 rfl) ?_
    refine lv_iload_n hx hb dX2_goesBefore_22 rfl (lv_at hl 2 rfl) ?_
    refine lv_icmp_le (tgt := 35) hx hb dX2_goesBefore_23 (by decide) (fun c23 => ?_) (fun c23 => ?_)
    · refine lv_iconst (v := 0) hx hb dX2_goesBefore_35 (by decide) ?_
      exact W.zret (v := 0) hx hb hr (zb (Or.inl rfl)) (fun t ht hW => ⟨_, rfl, by simp [f_before, c2, c23], ht⟩) t_nil dX2_goesBefore_36
    refine lv_iload_n hx hb dX2_goesBefore_26 rfl (lv_at hl 0 rfl) ?_
    refine lv_iload_n hx hb dX2_goesBefore_27 rfl (lv_at hl 1 rfl) ?_
    refine lv_icmp_ge (tgt := 35) hx hb dX2_goesBefore_28 (by decide) (fun c28 => ?_) (fun c28 => ?_)
    · refine lv_iconst (v := 0) hx hb dX2_goesBefore_35 (by decide) ?_
      exact W.zret (v := 0) hx hb hr (zb (Or.inl rfl)) (fun t ht hW => ⟨_, rfl, by simp [f_before, c2, c23, c28], ht⟩) t_nil dX2_goesBefore_36
    refine lv_iconst (v := 1) hx hb dX2_goesBefore_31 (by decide) ?_
    refine lv_goto (tgt := 36) hx hb dX2_goesBefore_32 (by decide) ?_
    exact W.zret (v := 1) hx hb hr (zb (Or.inr rfl)) (fun t ht hW => ⟨_, rfl, by simp [f_before, c2, c23, c28], ht⟩) t_nil dX2_goesBefore_36
  refine lv_iload_n hx hb dX2_goesBefore_5 rfl (lv_at hl 1 rfl) ?_
  refine lv_iload_n hx hb dX2_goesBefore_6 rfl (lv_at hl 2 rfl) ?_
  refine lv_icmp_gt (tgt := 15) hx hb dX2_goesBefore_7 (by decide) (fun c7 => ?_) (fun c7 => ?_)
  · refine lv_iconst (v := 1) hx hb dX2_goesBefore_15 (by decide) ?_
    refine lv_goto (tgt := 20) hx hb dX2_goesBefore_16 (by decide) ?_
    exact W.zret (v := 1) hx hb hr (zb (Or.inr rfl)) (fun t ht hW => ⟨_, rfl, by simp [f_before, c2, c7], ht⟩) t_nil dX2_goesBefore_20
  refine lv_iload_n hx hb dX2_goesBefore_10 rfl (lv_at hl 0 rfl) ?_
  refine lv_iload_n hx hb dX2_goesBefore_11 rfl (lv_at hl 1 rfl) ?_
  refine lv_icmp_le (tgt := 19) hx hb dX2_goesBefore_12 (by decide) (fun c12 => ?_) (fun c12 => ?_)
  · refine lv_iconst (v := 0) hx hb dX2_goesBefore_19 (by decide) ?_
    exact W.zret (v := 0) hx hb hr (zb (Or.inl rfl)) (fun t ht hW => ⟨_, rfl, by simp [f_before, c2, c7, c12], ht⟩) t_nil dX2_goesBefore_20
  refine lv_iconst (v := 1) hx hb dX2_goesBefore_15 (by decide) ?_
  refine lv_goto (tgt := 20) hx hb dX2_goesBefore_16 (by decide) ?_
  exact W.zret (v := 1) hx hb hr (zb (Or.inr rfl)) (fun t ht hW => ⟨_, rfl, by simp [f_before, c2, c7, c12], ht⟩) t_nil dX2_goesBefore_20

set_option maxHeartbeats 4000000 in
set_option maxRecDepth 100000 in
/-- holds -/
theorem ct_X1_holds (l : Launch) (G : Gx) (h0 h1 h2 h3 h4 h5 : Nat) (key : Int64) (n : Nat) (nu st : Nat → Int64) (de : Nat → Int32) (su : Nat → Int64) (mk : Nat → Int32) (row : Int32) : Met l yX1_holds wsX1_holds ({ frames := 0, cells := 0, slots := 0, locals := 0 }) (RdP G (wR G h0 h1 h2 h3 h4 h5 key (nI n) nu st de su mk) [.ref h0, .int row]) (vp_Si (fun r => r = f_holds (nI n) row)) 0 0 (fun _ => False) := by
  refine Met.ofW (cc := cX1_holds) (maxL := 2) (ret := (some .boolean)) (by decide) rfl ?_
  intro p e s m args below meth c s₁ B hml hv
  obtain ⟨rfl, hP, hE⟩ := hv
  have hx := B.exec
  have hb := B.bytes
  have hr := B.returns
  have hts := atoms_spec (ws := wsX1_holds) B.pre
  have hown : s.vm.findClass RX1 = some m.cls := findClass_of_methodNamed B.named
  have hlocks := B.notSynchronized
  have hiX1 : ∀ w ∈ wsX10, w ∈ wsX1_holds := by decide +kernel
  have hl := lv_entry ([.ref h0, .int row]) (n := 2) (Nat.le_of_ble_eq_true rfl)
  rw [lg_entry_eq]
  generalize (lg_sl ([.ref h0, .int row]) ++ List.replicate (2 - (lg_sl ([.ref h0, .int row])).length) Slot.unset).toArray = ls at hl ⊢
  replace hl : lv_has ls 2 [(0, .ref h0), (1, .int row)] := hl
  refine lv_iload_n hx hb dX1_holds_0 rfl (lv_at hl 1 rfl) ?_
  refine lv_if_lt (tgt := 16) hx hb dX1_holds_1 (by decide) (fun c1 => ?_) (fun c1 => ?_)
  · refine lv_iconst (v := 0) hx hb dX1_holds_16 (by decide) ?_
    exact W.zret (v := 0) hx hb hr (zb (Or.inl rfl)) (fun t ht hW => ⟨_, rfl, by simp [f_holds, c1], ht⟩) t_nil dX1_holds_17
  refine lv_iload_n hx hb dX1_holds_4 rfl (lv_at hl 1 rfl) ?_
  refine lv_aload_n hx hb dX1_holds_5 rfl (lv_at hl 0 rfl) ?_
  refine va_get (D := G.1) (ci := 2) (v := .int (nI n)) (C := RX1) (T := TX1) (N := 7) hx hb hts hiX1 hown hE.1 hP 0 rfl rfl 6 (by decide) (hts (.fieldLink RX1 33 "MeterSeals$Rows" "count" "I") (by decide +kernel)) (fun _ h9 => h9) rfl dX1_holds_6 ?_
  refine lv_icmp_ge (tgt := 16) hx hb dX1_holds_9 (by decide) (fun c9 => ?_) (fun c9 => ?_)
  · refine lv_iconst (v := 0) hx hb dX1_holds_16 (by decide) ?_
    exact W.zret (v := 0) hx hb hr (zb (Or.inl rfl)) (fun t ht hW => ⟨_, rfl, by simp [f_holds, c1, c9], ht⟩) t_nil dX1_holds_17
  refine lv_iconst (v := 1) hx hb dX1_holds_12 (by decide) ?_
  refine lv_goto (tgt := 17) hx hb dX1_holds_13 (by decide) ?_
  exact W.zret (v := 1) hx hb hr (zb (Or.inr rfl)) (fun t ht hW => ⟨_, rfl, by simp [f_holds, c1, c9], ht⟩) t_nil dX1_holds_17

set_option maxHeartbeats 4000000 in
set_option maxRecDepth 100000 in
/-- isReading -/
theorem ct_X1_isReading (l : Launch) (G : Gx) (h0 h1 h2 h3 h4 h5 : Nat) (key : Int64) (n : Nat) (nu st : Nat → Int64) (de : Nat → Int32) (su : Nat → Int64) (mk : Nat → Int32) (row : Int32) (hc : n ≤ 200) : Met l yX1_isReading wsX1_isReading ({ frames := 1, cells := 0, slots := 0, locals := 21 }) (RdP G (wR G h0 h1 h2 h3 h4 h5 key (nI n) nu st de su mk) [.ref h0, .int row]) (vp_Si (fun r => r = f_isR n st row)) 0 0 (fun _ => False) := by
  refine Met.ofW (cc := cX1_isReading) (maxL := 2) (ret := (some .boolean)) (by decide) rfl ?_
  intro p e s m args below meth c s₁ B hml hv
  obtain ⟨rfl, hP, hE⟩ := hv
  have hx := B.exec
  have hb := B.bytes
  have hr := B.returns
  have hts := atoms_spec (ws := wsX1_isReading) B.pre
  have hown : s.vm.findClass RX1 = some m.cls := findClass_of_methodNamed B.named
  have hlocks := B.notSynchronized
  have hiX1 : ∀ w ∈ wsX10, w ∈ wsX1_isReading := by decide +kernel
  have hl := lv_entry ([.ref h0, .int row]) (n := 2) (Nat.le_of_ble_eq_true rfl)
  rw [lg_entry_eq]
  generalize (lg_sl ([.ref h0, .int row]) ++ List.replicate (2 - (lg_sl ([.ref h0, .int row])).length) Slot.unset).toArray = ls at hl ⊢
  replace hl : lv_has ls 2 [(0, .ref h0), (1, .int row)] := hl
  refine lv_aload_n hx hb dX1_isReading_0 rfl (lv_at hl 0 rfl) ?_
  refine lv_iload_n hx hb dX1_isReading_1 rfl (lv_at hl 1 rfl) ?_
  refine x_ri (va_runV (As := [.int row]) (rest := []) ⟨hx, hb, hml, hown, hts⟩ (ct_X1_holds l G h0 h1 h2 h3 h4 h5 key n nu st de su mk row) (cwV 1 hts gX1_isReading_X1_holds rfl rfl rfl (by decide +kernel) ⟨Nat.le_of_ble_eq_true rfl, Nat.le_of_ble_eq_true rfl⟩) (RdP.preV 0 2 rfl rfl hP hE) rfl rfl hl.1 rfl (lv_room (Nat.le_of_ble_eq_true rfl)) dX1_isReading_2 ⟨Nat.zero_le _, Nat.zero_le _⟩) (fun r1 er1 => ?_)
  subst er1
  refine lv_if_eq (tgt := 23) hx hb dX1_isReading_5 (by decide) (fun c5 => ?_) (fun c5 => ?_)
  · refine lv_iconst (v := 0) hx hb dX1_isReading_23 (by decide) ?_
    exact W.zret (v := 0) hx hb hr (zb (Or.inl rfl)) (fun t ht hW => ⟨_, rfl, by simp [f_isR, c5], ht⟩) t_nil dX1_isReading_24
  refine lv_aload_n hx hb dX1_isReading_8 rfl (lv_at hl 0 rfl) ?_
  refine va_get (D := G.1) (ci := 2) (v := .ref h2) (C := RX1) (T := TX1) (N := 7) hx hb hts hiX1 hown hE.1 hP 0 rfl rfl 2 (by decide) (hts (.fieldLink RX1 19 "MeterSeals$Rows" "stamps" "[J") (by decide +kernel)) (fun _ h9 => h9) rfl dX1_isReading_9 ?_
  refine lv_iload_n hx hb dX1_isReading_12 rfl (lv_at hl 1 rfl) ?_
  refine va_lald hx hb hE.1 hP 2 1 rfl rfl (holds_in hc c5) dX1_isReading_13 ?_
  refine lv_lconst (v := 0) hx hb dX1_isReading_14 (by decide) ?_
  refine x_llt (tgt := 23) hx hb dX1_isReading_15 dX1_isReading_16 (by decide) (fun c16 => ?_) (fun c16 => ?_)
  · refine lv_iconst (v := 0) hx hb dX1_isReading_23 (by decide) ?_
    exact W.zret (v := 0) hx hb hr (zb (Or.inl rfl)) (fun t ht hW => ⟨_, rfl, by simp [f_isR, c5, c16], ht⟩) t_nil dX1_isReading_24
  refine lv_iconst (v := 1) hx hb dX1_isReading_19 (by decide) ?_
  refine lv_goto (tgt := 24) hx hb dX1_isReading_20 (by decide) ?_
  exact W.zret (v := 1) hx hb hr (zb (Or.inr rfl)) (fun t ht hW => ⟨_, rfl, by simp [f_isR, c5, c16], ht⟩) t_nil dX1_isReading_24

set_option maxHeartbeats 4000000 in
set_option maxRecDepth 100000 in
/-- hasMark -/
theorem ct_X1_hasMark (l : Launch) (G : Gx) (h0 h1 h2 h3 h4 h5 : Nat) (key : Int64) (n : Nat) (nu st : Nat → Int64) (de : Nat → Int32) (su : Nat → Int64) (mk : Nat → Int32) (row : Int32) (hc : n ≤ 200) : Met l yX1_hasMark wsX1_hasMark ({ frames := 1, cells := 0, slots := 0, locals := 21 }) (RdP G (wR G h0 h1 h2 h3 h4 h5 key (nI n) nu st de su mk) [.ref h0, .int row]) (vp_Si (fun r => r = f_mark n mk row)) 0 0 (fun _ => False) := by
  refine Met.ofW (cc := cX1_hasMark) (maxL := 2) (ret := (some .boolean)) (by decide) rfl ?_
  intro p e s m args below meth c s₁ B hml hv
  obtain ⟨rfl, hP, hE⟩ := hv
  have hx := B.exec
  have hb := B.bytes
  have hr := B.returns
  have hts := atoms_spec (ws := wsX1_hasMark) B.pre
  have hown : s.vm.findClass RX1 = some m.cls := findClass_of_methodNamed B.named
  have hlocks := B.notSynchronized
  have hiX1 : ∀ w ∈ wsX10, w ∈ wsX1_hasMark := by decide +kernel
  have hl := lv_entry ([.ref h0, .int row]) (n := 2) (Nat.le_of_ble_eq_true rfl)
  rw [lg_entry_eq]
  generalize (lg_sl ([.ref h0, .int row]) ++ List.replicate (2 - (lg_sl ([.ref h0, .int row])).length) Slot.unset).toArray = ls at hl ⊢
  replace hl : lv_has ls 2 [(0, .ref h0), (1, .int row)] := hl
  refine lv_aload_n hx hb dX1_hasMark_0 rfl (lv_at hl 0 rfl) ?_
  refine lv_iload_n hx hb dX1_hasMark_1 rfl (lv_at hl 1 rfl) ?_
  refine x_ri (va_runV (As := [.int row]) (rest := []) ⟨hx, hb, hml, hown, hts⟩ (ct_X1_holds l G h0 h1 h2 h3 h4 h5 key n nu st de su mk row) (cwV 1 hts gX1_hasMark_X1_holds rfl rfl rfl (by decide +kernel) ⟨Nat.le_of_ble_eq_true rfl, Nat.le_of_ble_eq_true rfl⟩) (RdP.preV 0 2 rfl rfl hP hE) rfl rfl hl.1 rfl (lv_room (Nat.le_of_ble_eq_true rfl)) dX1_hasMark_2 ⟨Nat.zero_le _, Nat.zero_le _⟩) (fun r1 er1 => ?_)
  subst er1
  refine lv_if_eq (tgt := 21) hx hb dX1_hasMark_5 (by decide) (fun c5 => ?_) (fun c5 => ?_)
  · refine lv_iconst (v := 0) hx hb dX1_hasMark_21 (by decide) ?_
    exact W.zret (v := 0) hx hb hr (zb (Or.inl rfl)) (fun t ht hW => ⟨_, rfl, by simp [f_mark, c5], ht⟩) t_nil dX1_hasMark_22
  refine lv_aload_n hx hb dX1_hasMark_8 rfl (lv_at hl 0 rfl) ?_
  refine va_get (D := G.1) (ci := 2) (v := .ref h5) (C := RX1) (T := TX1) (N := 7) hx hb hts hiX1 hown hE.1 hP 0 rfl rfl 5 (by decide) (hts (.fieldLink RX1 29 "MeterSeals$Rows" "marks" "[Z") (by decide +kernel)) (fun _ h9 => h9) rfl dX1_hasMark_9 ?_
  refine lv_iload_n hx hb dX1_hasMark_12 rfl (lv_at hl 1 rfl) ?_
  refine va_zald hx hb hE.1 hP 5 2 rfl rfl (holds_in hc c5) dX1_hasMark_13 ?_
  refine lv_if_eq (tgt := 21) hx hb dX1_hasMark_14 (by decide) (fun c14 => ?_) (fun c14 => ?_)
  · refine lv_iconst (v := 0) hx hb dX1_hasMark_21 (by decide) ?_
    exact W.zret (v := 0) hx hb hr (zb (Or.inl rfl)) (fun t ht hW => ⟨_, rfl, by simp [f_mark, c5, c14], ht⟩) t_nil dX1_hasMark_22
  refine lv_iconst (v := 1) hx hb dX1_hasMark_17 (by decide) ?_
  refine lv_goto (tgt := 22) hx hb dX1_hasMark_18 (by decide) ?_
  exact W.zret (v := 1) hx hb hr (zb (Or.inr rfl)) (fun t ht hW => ⟨_, rfl, by simp [f_mark, c5, c14], ht⟩) t_nil dX1_hasMark_22

set_option maxHeartbeats 4000000 in
set_option maxRecDepth 100000 in
/-- pulsesOf -/
theorem ct_X1_pulsesOf (l : Launch) (G : Gx) (h0 h1 h2 h3 h4 h5 : Nat) (key : Int64) (n : Nat) (nu st : Nat → Int64) (de : Nat → Int32) (su : Nat → Int64) (mk : Nat → Int32) (row : Int32) (hc : n ≤ 200) : Met l yX1_pulsesOf wsX1_pulsesOf ({ frames := 2, cells := 0, slots := 0, locals := 42 }) (RdP G (wR G h0 h1 h2 h3 h4 h5 key (nI n) nu st de su mk) [.ref h0, .int row]) (vp_Sl (fun r => r = f_pul n nu st row)) 0 0 (fun _ => False) := by
  refine Met.ofW (cc := cX1_pulsesOf) (maxL := 2) (ret := (some .long)) (by decide) rfl ?_
  intro p e s m args below meth c s₁ B hml hv
  obtain ⟨rfl, hP, hE⟩ := hv
  have hx := B.exec
  have hb := B.bytes
  have hr := B.returns
  have hts := atoms_spec (ws := wsX1_pulsesOf) B.pre
  have hown : s.vm.findClass RX1 = some m.cls := findClass_of_methodNamed B.named
  have hlocks := B.notSynchronized
  have hiX1 : ∀ w ∈ wsX10, w ∈ wsX1_pulsesOf := by decide +kernel
  have hl := lv_entry ([.ref h0, .int row]) (n := 2) (Nat.le_of_ble_eq_true rfl)
  rw [lg_entry_eq]
  generalize (lg_sl ([.ref h0, .int row]) ++ List.replicate (2 - (lg_sl ([.ref h0, .int row])).length) Slot.unset).toArray = ls at hl ⊢
  replace hl : lv_has ls 2 [(0, .ref h0), (1, .int row)] := hl
  refine lv_aload_n hx hb dX1_pulsesOf_0 rfl (lv_at hl 0 rfl) ?_
  refine lv_iload_n hx hb dX1_pulsesOf_1 rfl (lv_at hl 1 rfl) ?_
  refine x_ri (va_runV (As := [.int row]) (rest := []) ⟨hx, hb, hml, hown, hts⟩ (ct_X1_isReading l G h0 h1 h2 h3 h4 h5 key n nu st de su mk row hc) (cwV 1 hts gX1_pulsesOf_X1_isReading rfl rfl rfl (by decide +kernel) ⟨Nat.le_of_ble_eq_true rfl, Nat.le_of_ble_eq_true rfl⟩) (RdP.preV 0 2 rfl rfl hP hE) rfl rfl hl.1 rfl (lv_room (Nat.le_of_ble_eq_true rfl)) dX1_pulsesOf_2 ⟨Nat.zero_le _, Nat.zero_le _⟩) (fun r1 er1 => ?_)
  subst er1
  refine lv_if_eq (tgt := 17) hx hb dX1_pulsesOf_5 (by decide) (fun c5 => ?_) (fun c5 => ?_)
  · refine lv_lconst (v := 0) hx hb dX1_pulsesOf_17 (by decide) ?_
    exact W.lret (v := 0) hx hb hr (fun t ht hW => ⟨_, rfl, by simp [f_pul, c5], ht⟩) t_nil dX1_pulsesOf_18
  refine lv_aload_n hx hb dX1_pulsesOf_8 rfl (lv_at hl 0 rfl) ?_
  refine va_get (D := G.1) (ci := 2) (v := .ref h1) (C := RX1) (T := TX1) (N := 7) hx hb hts hiX1 hown hE.1 hP 0 rfl rfl 1 (by decide) (hts (.fieldLink RX1 15 "MeterSeals$Rows" "numbers" "[J") (by decide +kernel)) (fun _ h9 => h9) rfl dX1_pulsesOf_9 ?_
  refine lv_iload_n hx hb dX1_pulsesOf_12 rfl (lv_at hl 1 rfl) ?_
  refine va_lald hx hb hE.1 hP 1 1 rfl rfl (isR_in hc c5) dX1_pulsesOf_13 ?_
  refine lv_goto (tgt := 18) hx hb dX1_pulsesOf_14 (by decide) ?_
  exact W.lret (v := (nu row.toNatClampNeg)) hx hb hr (fun t ht hW => ⟨_, rfl, by simp [f_pul, c5], ht⟩) t_nil dX1_pulsesOf_18

set_option maxHeartbeats 4000000 in
set_option maxRecDepth 100000 in
/-- degreesOf -/
theorem ct_X1_degreesOf (l : Launch) (G : Gx) (h0 h1 h2 h3 h4 h5 : Nat) (key : Int64) (n : Nat) (nu st : Nat → Int64) (de : Nat → Int32) (su : Nat → Int64) (mk : Nat → Int32) (row : Int32) (hc : n ≤ 200) : Met l yX1_degreesOf wsX1_degreesOf ({ frames := 1, cells := 0, slots := 0, locals := 21 }) (RdP G (wR G h0 h1 h2 h3 h4 h5 key (nI n) nu st de su mk) [.ref h0, .int row]) (vp_Si (fun r => r = f_deg n de row)) 0 0 (fun _ => False) := by
  refine Met.ofW (cc := cX1_degreesOf) (maxL := 2) (ret := (some .int)) (by decide) rfl ?_
  intro p e s m args below meth c s₁ B hml hv
  obtain ⟨rfl, hP, hE⟩ := hv
  have hx := B.exec
  have hb := B.bytes
  have hr := B.returns
  have hts := atoms_spec (ws := wsX1_degreesOf) B.pre
  have hown : s.vm.findClass RX1 = some m.cls := findClass_of_methodNamed B.named
  have hlocks := B.notSynchronized
  have hiX1 : ∀ w ∈ wsX10, w ∈ wsX1_degreesOf := by decide +kernel
  have hl := lv_entry ([.ref h0, .int row]) (n := 2) (Nat.le_of_ble_eq_true rfl)
  rw [lg_entry_eq]
  generalize (lg_sl ([.ref h0, .int row]) ++ List.replicate (2 - (lg_sl ([.ref h0, .int row])).length) Slot.unset).toArray = ls at hl ⊢
  replace hl : lv_has ls 2 [(0, .ref h0), (1, .int row)] := hl
  refine lv_aload_n hx hb dX1_degreesOf_0 rfl (lv_at hl 0 rfl) ?_
  refine lv_iload_n hx hb dX1_degreesOf_1 rfl (lv_at hl 1 rfl) ?_
  refine x_ri (va_runV (As := [.int row]) (rest := []) ⟨hx, hb, hml, hown, hts⟩ (ct_X1_holds l G h0 h1 h2 h3 h4 h5 key n nu st de su mk row) (cwV 1 hts gX1_degreesOf_X1_holds rfl rfl rfl (by decide +kernel) ⟨Nat.le_of_ble_eq_true rfl, Nat.le_of_ble_eq_true rfl⟩) (RdP.preV 0 2 rfl rfl hP hE) rfl rfl hl.1 rfl (lv_room (Nat.le_of_ble_eq_true rfl)) dX1_degreesOf_2 ⟨Nat.zero_le _, Nat.zero_le _⟩) (fun r1 er1 => ?_)
  subst er1
  refine lv_if_eq (tgt := 17) hx hb dX1_degreesOf_5 (by decide) (fun c5 => ?_) (fun c5 => ?_)
  · refine lv_iconst (v := 0) hx hb dX1_degreesOf_17 (by decide) ?_
    exact W.iret (v := 0) hx hb hr (fun t ht hW => ⟨_, rfl, by simp [f_deg, c5], ht⟩) t_nil dX1_degreesOf_18
  refine lv_aload_n hx hb dX1_degreesOf_8 rfl (lv_at hl 0 rfl) ?_
  refine va_get (D := G.1) (ci := 2) (v := .ref h3) (C := RX1) (T := TX1) (N := 7) hx hb hts hiX1 hown hE.1 hP 0 rfl rfl 3 (by decide) (hts (.fieldLink RX1 22 "MeterSeals$Rows" "degrees" "[I") (by decide +kernel)) (fun _ h9 => h9) rfl dX1_degreesOf_9 ?_
  refine lv_iload_n hx hb dX1_degreesOf_12 rfl (lv_at hl 1 rfl) ?_
  refine va_iald hx hb hE.1 hP 3 0 rfl rfl (holds_in hc c5) dX1_degreesOf_13 ?_
  refine lv_goto (tgt := 18) hx hb dX1_degreesOf_14 (by decide) ?_
  exact W.iret (v := (de row.toNatClampNeg)) hx hb hr (fun t ht hW => ⟨_, rfl, by simp [f_deg, c5], ht⟩) t_nil dX1_degreesOf_18

set_option maxHeartbeats 4000000 in
set_option maxRecDepth 100000 in
/-- fieldCount -/
theorem ct_X1_fieldCount (l : Launch) (G : Gx) (h0 h1 h2 h3 h4 h5 : Nat) (key : Int64) (n : Nat) (nu st : Nat → Int64) (de : Nat → Int32) (su : Nat → Int64) (mk : Nat → Int32) (row : Int32) (hc : n ≤ 200) : Met l yX1_fieldCount wsX1_fieldCount ({ frames := 2, cells := 0, slots := 0, locals := 42 }) (RdP G (wR G h0 h1 h2 h3 h4 h5 key (nI n) nu st de su mk) [.ref h0, .int row]) (vp_Si (fun r => r = f_fct n st row)) 0 0 (fun _ => False) := by
  refine Met.ofW (cc := cX1_fieldCount) (maxL := 2) (ret := (some .int)) (by decide) rfl ?_
  intro p e s m args below meth c s₁ B hml hv
  obtain ⟨rfl, hP, hE⟩ := hv
  have hx := B.exec
  have hb := B.bytes
  have hr := B.returns
  have hts := atoms_spec (ws := wsX1_fieldCount) B.pre
  have hown : s.vm.findClass RX1 = some m.cls := findClass_of_methodNamed B.named
  have hlocks := B.notSynchronized
  have hl := lv_entry ([.ref h0, .int row]) (n := 2) (Nat.le_of_ble_eq_true rfl)
  rw [lg_entry_eq]
  generalize (lg_sl ([.ref h0, .int row]) ++ List.replicate (2 - (lg_sl ([.ref h0, .int row])).length) Slot.unset).toArray = ls at hl ⊢
  replace hl : lv_has ls 2 [(0, .ref h0), (1, .int row)] := hl
  refine lv_aload_n hx hb dX1_fieldCount_0 rfl (lv_at hl 0 rfl) ?_
  refine lv_iload_n hx hb dX1_fieldCount_1 rfl (lv_at hl 1 rfl) ?_
  refine x_ri (va_runV (As := [.int row]) (rest := []) ⟨hx, hb, hml, hown, hts⟩ (ct_X1_isReading l G h0 h1 h2 h3 h4 h5 key n nu st de su mk row hc) (cwV 1 hts gX1_fieldCount_X1_isReading rfl rfl rfl (by decide +kernel) ⟨Nat.le_of_ble_eq_true rfl, Nat.le_of_ble_eq_true rfl⟩) (RdP.preV 0 2 rfl rfl hP hE) rfl rfl hl.1 rfl (lv_room (Nat.le_of_ble_eq_true rfl)) dX1_fieldCount_2 ⟨Nat.zero_le _, Nat.zero_le _⟩) (fun r1 er1 => ?_)
  subst er1
  refine lv_if_eq (tgt := 12) hx hb dX1_fieldCount_5 (by decide) (fun c5 => ?_) (fun c5 => ?_)
  · refine lv_iconst (v := 1) hx hb dX1_fieldCount_12 (by decide) ?_
    exact W.iret (v := 1) hx hb hr (fun t ht hW => ⟨_, rfl, by simp [f_fct, c5], ht⟩) t_nil dX1_fieldCount_13
  refine lv_iconst (v := 3) hx hb dX1_fieldCount_8 (by decide) ?_
  refine lv_goto (tgt := 13) hx hb dX1_fieldCount_9 (by decide) ?_
  exact W.iret (v := 3) hx hb hr (fun t ht hW => ⟨_, rfl, by simp [f_fct, c5], ht⟩) t_nil dX1_fieldCount_13
end
section
theorem pred_in {n : Nat} {row : Int32} (hc : n ≤ 200) (h : ¬ f_holds (nI n) row = 0) (h0 : ¬ row = 0) : vp_in (row - 1) 200 := by
  obtain ⟨j, hj, rfl⟩ := (f_holds_iff (by omega) row).mp h
  cases j with
  | zero => exact absurd nI_0 h0
  | succ j =>
    rw [nI_pred]
    exact vp_in_nI (by omega) (by omega)
theorem lt200 {n : Nat} (hc : n ≤ 200) (h : nI n < 200) : n < 200 := by
  rcases Nat.lt_or_ge n 200 with q | q
  · exact q
  · have e : n = 200 := by omega
    subst e
    exact absurd h (by decide)
theorem ge200 {n : Nat} (hc : n ≤ 200) (h : ¬ nI n < 200) : n = 200 := by
  rcases Nat.lt_or_ge n 200 with q | q
  · exact absurd (show nI n < nI 200 from nI_lt q (by decide)) h
  · omega
def f_due (key : Int64) (n : Nat) (nu st : Nat → Int64) (de : Nat → Int32) (su : Nat → Int64) (row : Int32) : Int64 :=
  if f_holds (nI n) row = 0 then 0 else f_mix (f_mix (f_mix (3 * (if row = 0 then key else su (row - 1).toNatClampNeg) + key) (nu row.toNatClampNeg)) (st row.toNatClampNeg)) (de row.toNatClampNeg).toInt64
def f_fld (n : Nat) (nu st : Nat → Int64) (de : Nat → Int32) (row field : Int32) : Int64 :=
  if f_holds (nI n) row = 0 then 0 else if field = 0 then nu row.toNatClampNeg else if field = 1 then st row.toNatClampNeg else (de row.toNatClampNeg).toInt64
def f_let (n : Nat) (st : Nat → Int64) (row : Int32) : Int32 :=
  if f_holds (nI n) row = 0 then 82 else if f_isR n st row = 0 then (if st row.toNatClampNeg = -1 then 90 else if st row.toNatClampNeg = -2 then 66 else 83) else 82
def f_mins (v : Int64) : Int32 := (if (2147483647 : Int64) < v / 60 then (2147483647 : Int64) else v / 60).toInt32
def f_poke (n : Nat) (nu st : Nat → Int64) (row : Int32) (b : Int64) : Int32 := if f_isR n st row = 0 then 0 else f_within b (-f_pul n nu st row) (1000000 - f_pul n nu st row)
end
section
set_option maxHeartbeats 4000000 in
set_option maxRecDepth 100000 in
/-- dueSum -/
theorem ct_X1_dueSum (l : Launch) (G : Gx) (h0 h1 h2 h3 h4 h5 : Nat) (key : Int64) (n : Nat) (nu st : Nat → Int64) (de : Nat → Int32) (su : Nat → Int64) (mk : Nat → Int32) (row : Int32) (hc : n ≤ 200) : Met l yX1_dueSum wsX1_dueSum ({ frames := 1, cells := 0, slots := 0, locals := 25 }) (RdP G (wR G h0 h1 h2 h3 h4 h5 key (nI n) nu st de su mk) [.ref h0, .int row]) (vp_Sl (fun r => r = f_due key n nu st de su row)) 0 0 (fun _ => False) := by
  refine Met.ofW (cc := cX1_dueSum) (maxL := 6) (ret := (some .long)) (by decide) rfl ?_
  intro p e s m args below meth c s₁ B hml hv
  obtain ⟨rfl, hP, hE⟩ := hv
  have hx := B.exec
  have hb := B.bytes
  have hr := B.returns
  have hts := atoms_spec (ws := wsX1_dueSum) B.pre
  have hown : s.vm.findClass RX1 = some m.cls := findClass_of_methodNamed B.named
  have hlocks := B.notSynchronized
  have hiX1 : ∀ w ∈ wsX10, w ∈ wsX1_dueSum := by decide +kernel
  have hl := lv_entry ([.ref h0, .int row]) (n := 6) (Nat.le_of_ble_eq_true rfl)
  rw [lg_entry_eq]
  generalize (lg_sl ([.ref h0, .int row]) ++ List.replicate (6 - (lg_sl ([.ref h0, .int row])).length) Slot.unset).toArray = ls at hl ⊢
  replace hl : lv_has ls 6 [(0, .ref h0), (1, .int row)] := hl
  refine lv_aload_n hx hb dX1_dueSum_0 rfl (lv_at hl 0 rfl) ?_
  refine lv_iload_n hx hb dX1_dueSum_1 rfl (lv_at hl 1 rfl) ?_
  refine x_ri (va_runV (As := [.int row]) (rest := []) ⟨hx, hb, hml, hown, hts⟩ (ct_X1_holds l G h0 h1 h2 h3 h4 h5 key n nu st de su mk row) (cwV 1 hts gX1_dueSum_X1_holds rfl rfl rfl (by decide +kernel) ⟨Nat.le_of_ble_eq_true rfl, Nat.le_of_ble_eq_true rfl⟩) (RdP.preV 0 2 rfl rfl hP hE) rfl rfl hl.1 rfl (lv_room (Nat.le_of_ble_eq_true rfl)) dX1_dueSum_2 ⟨Nat.zero_le _, Nat.zero_le _⟩) (fun r1 er1 => ?_)
  subst er1
  refine lv_if_ne (tgt := 10) hx hb dX1_dueSum_5 (by decide) (fun c5 => ?_) (fun c5 => ?_)
  · refine lv_iload_n hx hb dX1_dueSum_10 rfl (lv_at hl 1 rfl) ?_
    refine lv_if_ne (tgt := 21) hx hb dX1_dueSum_11 (by decide) (fun c11 => ?_) (fun c11 => ?_)
    · refine lv_aload_n hx hb dX1_dueSum_21 rfl (lv_at hl 0 rfl) ?_
      refine va_get (D := G.1) (ci := 2) (v := .ref h4) (C := RX1) (T := TX1) (N := 7) hx hb hts hiX1 hown hE.1 hP 0 rfl rfl 4 (by decide) (hts (.fieldLink RX1 26 "MeterSeals$Rows" "sums" "[J") (by decide +kernel)) (fun _ h9 => h9) rfl dX1_dueSum_22 ?_
      refine lv_iload_n hx hb dX1_dueSum_25 rfl (lv_at hl 1 rfl) ?_
      refine lv_iconst (v := 1) hx hb dX1_dueSum_26 (by decide) ?_
      refine lv_isub hx hb dX1_dueSum_27 ?_
      refine va_lald hx hb hE.1 hP 4 1 rfl rfl (pred_in hc c5 c11) dX1_dueSum_28 ?_
      refine lv_lstore_n (lv' := [(2, .long (su (row - 1).toNatClampNeg)), (0, .ref h0), (1, .int row)]) hx hb dX1_dueSum_29 rfl hl (by decide) rfl (fun ls hl => ?_)
      refine lv_ldc2 (v := 3) hx hb hown (hts (.constantLong RX1 57 3) (by decide +kernel)) dX1_dueSum_30 ?_
      refine lv_lload_n hx hb dX1_dueSum_33 rfl (lv_at hl 0 rfl) ?_
      refine lv_lmul hx hb dX1_dueSum_34 ?_
      refine lv_aload_n hx hb dX1_dueSum_35 rfl (lv_at hl 1 rfl) ?_
      refine va_get (D := G.1) (ci := 2) (v := .long key) (C := RX1) (T := TX1) (N := 7) hx hb hts hiX1 hown hE.1 hP 0 rfl rfl 0 (by decide) (hts (.fieldLink RX1 9 "MeterSeals$Rows" "key" "J") (by decide +kernel)) (fun _ h9 => h9) rfl dX1_dueSum_36 ?_
      refine lv_ladd hx hb dX1_dueSum_39 ?_
      refine lv_lstore (lv' := [(4, .long ((3 * (su (row - 1).toNatClampNeg)) + key)), (2, .long (su (row - 1).toNatClampNeg)), (0, .ref h0), (1, .int row)]) hx hb dX1_dueSum_40 hl (by decide) rfl (fun ls hl => ?_)
      refine lv_lload hx hb dX1_dueSum_42 (lv_at hl 0 rfl) ?_
      refine lv_aload_n hx hb dX1_dueSum_44 rfl (lv_at hl 2 rfl) ?_
      refine va_get (D := G.1) (ci := 2) (v := .ref h1) (C := RX1) (T := TX1) (N := 7) hx hb hts hiX1 hown hE.1 hP 0 rfl rfl 1 (by decide) (hts (.fieldLink RX1 15 "MeterSeals$Rows" "numbers" "[J") (by decide +kernel)) (fun _ h9 => h9) rfl dX1_dueSum_45 ?_
      refine lv_iload_n hx hb dX1_dueSum_48 rfl (lv_at hl 3 rfl) ?_
      refine va_lald hx hb hE.1 hP 1 1 rfl rfl (holds_in hc c5) dX1_dueSum_49 ?_
      refine x_rl (va_runS (As := [.long ((3 * (su (row - 1).toNatClampNeg)) + key), .long (nu row.toNatClampNeg)]) (rest := []) ⟨hx, hb, hml, hown, hts⟩ (ct_X1_stir l G ((3 * (su (row - 1).toNatClampNeg)) + key) (nu row.toNatClampNeg)) (va_cwS 2 hts gX1_dueSum_X1_stir rfl rfl rfl (by decide +kernel) ⟨Nat.le_of_ble_eq_true rfl, Nat.le_of_ble_eq_true rfl⟩) (RdP.preS (fun k q h => by simp at h) hE) rfl rfl hl.1 rfl (lv_room (Nat.le_of_ble_eq_true rfl)) dX1_dueSum_50 ⟨Nat.zero_le _, Nat.zero_le _⟩) (fun r2 er2 => ?_)
      subst er2
      refine lv_lstore (lv' := [(4, .long (f_mix ((3 * (su (row - 1).toNatClampNeg)) + key) (nu row.toNatClampNeg))), (2, .long (su (row - 1).toNatClampNeg)), (0, .ref h0), (1, .int row)]) hx hb dX1_dueSum_53 hl (by decide) rfl (fun ls hl => ?_)
      refine lv_lload hx hb dX1_dueSum_55 (lv_at hl 0 rfl) ?_
      refine lv_aload_n hx hb dX1_dueSum_57 rfl (lv_at hl 2 rfl) ?_
      refine va_get (D := G.1) (ci := 2) (v := .ref h2) (C := RX1) (T := TX1) (N := 7) hx hb hts hiX1 hown hE.1 hP 0 rfl rfl 2 (by decide) (hts (.fieldLink RX1 19 "MeterSeals$Rows" "stamps" "[J") (by decide +kernel)) (fun _ h9 => h9) rfl dX1_dueSum_58 ?_
      refine lv_iload_n hx hb dX1_dueSum_61 rfl (lv_at hl 3 rfl) ?_
      refine va_lald hx hb hE.1 hP 2 1 rfl rfl (holds_in hc c5) dX1_dueSum_62 ?_
      refine x_rl (va_runS (As := [.long (f_mix ((3 * (su (row - 1).toNatClampNeg)) + key) (nu row.toNatClampNeg)), .long (st row.toNatClampNeg)]) (rest := []) ⟨hx, hb, hml, hown, hts⟩ (ct_X1_stir l G (f_mix ((3 * (su (row - 1).toNatClampNeg)) + key) (nu row.toNatClampNeg)) (st row.toNatClampNeg)) (va_cwS 2 hts gX1_dueSum_X1_stir rfl rfl rfl (by decide +kernel) ⟨Nat.le_of_ble_eq_true rfl, Nat.le_of_ble_eq_true rfl⟩) (RdP.preS (fun k q h => by simp at h) hE) rfl rfl hl.1 rfl (lv_room (Nat.le_of_ble_eq_true rfl)) dX1_dueSum_63 ⟨Nat.zero_le _, Nat.zero_le _⟩) (fun r3 er3 => ?_)
      subst er3
      refine lv_lstore (lv' := [(4, .long (f_mix (f_mix ((3 * (su (row - 1).toNatClampNeg)) + key) (nu row.toNatClampNeg)) (st row.toNatClampNeg))), (2, .long (su (row - 1).toNatClampNeg)), (0, .ref h0), (1, .int row)]) hx hb dX1_dueSum_66 hl (by decide) rfl (fun ls hl => ?_)
      refine lv_lload hx hb dX1_dueSum_68 (lv_at hl 0 rfl) ?_
      refine lv_aload_n hx hb dX1_dueSum_70 rfl (lv_at hl 2 rfl) ?_
      refine va_get (D := G.1) (ci := 2) (v := .ref h3) (C := RX1) (T := TX1) (N := 7) hx hb hts hiX1 hown hE.1 hP 0 rfl rfl 3 (by decide) (hts (.fieldLink RX1 22 "MeterSeals$Rows" "degrees" "[I") (by decide +kernel)) (fun _ h9 => h9) rfl dX1_dueSum_71 ?_
      refine lv_iload_n hx hb dX1_dueSum_74 rfl (lv_at hl 3 rfl) ?_
      refine va_iald hx hb hE.1 hP 3 0 rfl rfl (holds_in hc c5) dX1_dueSum_75 ?_
      refine lv_i2l (v := (de row.toNatClampNeg).toInt64) hx hb dX1_dueSum_76 rfl ?_
      refine x_rl (va_runS (As := [.long (f_mix (f_mix ((3 * (su (row - 1).toNatClampNeg)) + key) (nu row.toNatClampNeg)) (st row.toNatClampNeg)), .long ((de row.toNatClampNeg).toInt64)]) (rest := []) ⟨hx, hb, hml, hown, hts⟩ (ct_X1_stir l G (f_mix (f_mix ((3 * (su (row - 1).toNatClampNeg)) + key) (nu row.toNatClampNeg)) (st row.toNatClampNeg)) ((de row.toNatClampNeg).toInt64)) (va_cwS 2 hts gX1_dueSum_X1_stir rfl rfl rfl (by decide +kernel) ⟨Nat.le_of_ble_eq_true rfl, Nat.le_of_ble_eq_true rfl⟩) (RdP.preS (fun k q h => by simp at h) hE) rfl rfl hl.1 rfl (lv_room (Nat.le_of_ble_eq_true rfl)) dX1_dueSum_77 ⟨Nat.zero_le _, Nat.zero_le _⟩) (fun r4 er4 => ?_)
      subst er4
      exact W.lret (v := (f_mix (f_mix (f_mix ((3 * (su (row - 1).toNatClampNeg)) + key) (nu row.toNatClampNeg)) (st row.toNatClampNeg)) ((de row.toNatClampNeg).toInt64))) hx hb hr (fun t ht hW => ⟨_, rfl, by simp only [f_due, if_neg c5, if_neg c11], ht⟩) t_nil dX1_dueSum_80
    refine lv_aload_n hx hb dX1_dueSum_14 rfl (lv_at hl 0 rfl) ?_
    refine va_get (D := G.1) (ci := 2) (v := .long key) (C := RX1) (T := TX1) (N := 7) hx hb hts hiX1 hown hE.1 hP 0 rfl rfl 0 (by decide) (hts (.fieldLink RX1 9 "MeterSeals$Rows" "key" "J") (by decide +kernel)) (fun _ h9 => h9) rfl dX1_dueSum_15 ?_
    refine lv_goto (tgt := 29) hx hb dX1_dueSum_18 (by decide) ?_
    refine lv_lstore_n (lv' := [(2, .long key), (0, .ref h0), (1, .int row)]) hx hb dX1_dueSum_29 rfl hl (by decide) rfl (fun ls hl => ?_)
    refine lv_ldc2 (v := 3) hx hb hown (hts (.constantLong RX1 57 3) (by decide +kernel)) dX1_dueSum_30 ?_
    refine lv_lload_n hx hb dX1_dueSum_33 rfl (lv_at hl 0 rfl) ?_
    refine lv_lmul hx hb dX1_dueSum_34 ?_
    refine lv_aload_n hx hb dX1_dueSum_35 rfl (lv_at hl 1 rfl) ?_
    refine va_get (D := G.1) (ci := 2) (v := .long key) (C := RX1) (T := TX1) (N := 7) hx hb hts hiX1 hown hE.1 hP 0 rfl rfl 0 (by decide) (hts (.fieldLink RX1 9 "MeterSeals$Rows" "key" "J") (by decide +kernel)) (fun _ h9 => h9) rfl dX1_dueSum_36 ?_
    refine lv_ladd hx hb dX1_dueSum_39 ?_
    refine lv_lstore (lv' := [(4, .long ((3 * key) + key)), (2, .long key), (0, .ref h0), (1, .int row)]) hx hb dX1_dueSum_40 hl (by decide) rfl (fun ls hl => ?_)
    refine lv_lload hx hb dX1_dueSum_42 (lv_at hl 0 rfl) ?_
    refine lv_aload_n hx hb dX1_dueSum_44 rfl (lv_at hl 2 rfl) ?_
    refine va_get (D := G.1) (ci := 2) (v := .ref h1) (C := RX1) (T := TX1) (N := 7) hx hb hts hiX1 hown hE.1 hP 0 rfl rfl 1 (by decide) (hts (.fieldLink RX1 15 "MeterSeals$Rows" "numbers" "[J") (by decide +kernel)) (fun _ h9 => h9) rfl dX1_dueSum_45 ?_
    refine lv_iload_n hx hb dX1_dueSum_48 rfl (lv_at hl 3 rfl) ?_
    refine va_lald hx hb hE.1 hP 1 1 rfl rfl (holds_in hc c5) dX1_dueSum_49 ?_
    refine x_rl (va_runS (As := [.long ((3 * key) + key), .long (nu row.toNatClampNeg)]) (rest := []) ⟨hx, hb, hml, hown, hts⟩ (ct_X1_stir l G ((3 * key) + key) (nu row.toNatClampNeg)) (va_cwS 2 hts gX1_dueSum_X1_stir rfl rfl rfl (by decide +kernel) ⟨Nat.le_of_ble_eq_true rfl, Nat.le_of_ble_eq_true rfl⟩) (RdP.preS (fun k q h => by simp at h) hE) rfl rfl hl.1 rfl (lv_room (Nat.le_of_ble_eq_true rfl)) dX1_dueSum_50 ⟨Nat.zero_le _, Nat.zero_le _⟩) (fun r5 er5 => ?_)
    subst er5
    refine lv_lstore (lv' := [(4, .long (f_mix ((3 * key) + key) (nu row.toNatClampNeg))), (2, .long key), (0, .ref h0), (1, .int row)]) hx hb dX1_dueSum_53 hl (by decide) rfl (fun ls hl => ?_)
    refine lv_lload hx hb dX1_dueSum_55 (lv_at hl 0 rfl) ?_
    refine lv_aload_n hx hb dX1_dueSum_57 rfl (lv_at hl 2 rfl) ?_
    refine va_get (D := G.1) (ci := 2) (v := .ref h2) (C := RX1) (T := TX1) (N := 7) hx hb hts hiX1 hown hE.1 hP 0 rfl rfl 2 (by decide) (hts (.fieldLink RX1 19 "MeterSeals$Rows" "stamps" "[J") (by decide +kernel)) (fun _ h9 => h9) rfl dX1_dueSum_58 ?_
    refine lv_iload_n hx hb dX1_dueSum_61 rfl (lv_at hl 3 rfl) ?_
    refine va_lald hx hb hE.1 hP 2 1 rfl rfl (holds_in hc c5) dX1_dueSum_62 ?_
    refine x_rl (va_runS (As := [.long (f_mix ((3 * key) + key) (nu row.toNatClampNeg)), .long (st row.toNatClampNeg)]) (rest := []) ⟨hx, hb, hml, hown, hts⟩ (ct_X1_stir l G (f_mix ((3 * key) + key) (nu row.toNatClampNeg)) (st row.toNatClampNeg)) (va_cwS 2 hts gX1_dueSum_X1_stir rfl rfl rfl (by decide +kernel) ⟨Nat.le_of_ble_eq_true rfl, Nat.le_of_ble_eq_true rfl⟩) (RdP.preS (fun k q h => by simp at h) hE) rfl rfl hl.1 rfl (lv_room (Nat.le_of_ble_eq_true rfl)) dX1_dueSum_63 ⟨Nat.zero_le _, Nat.zero_le _⟩) (fun r6 er6 => ?_)
    subst er6
    refine lv_lstore (lv' := [(4, .long (f_mix (f_mix ((3 * key) + key) (nu row.toNatClampNeg)) (st row.toNatClampNeg))), (2, .long key), (0, .ref h0), (1, .int row)]) hx hb dX1_dueSum_66 hl (by decide) rfl (fun ls hl => ?_)
    refine lv_lload hx hb dX1_dueSum_68 (lv_at hl 0 rfl) ?_
    refine lv_aload_n hx hb dX1_dueSum_70 rfl (lv_at hl 2 rfl) ?_
    refine va_get (D := G.1) (ci := 2) (v := .ref h3) (C := RX1) (T := TX1) (N := 7) hx hb hts hiX1 hown hE.1 hP 0 rfl rfl 3 (by decide) (hts (.fieldLink RX1 22 "MeterSeals$Rows" "degrees" "[I") (by decide +kernel)) (fun _ h9 => h9) rfl dX1_dueSum_71 ?_
    refine lv_iload_n hx hb dX1_dueSum_74 rfl (lv_at hl 3 rfl) ?_
    refine va_iald hx hb hE.1 hP 3 0 rfl rfl (holds_in hc c5) dX1_dueSum_75 ?_
    refine lv_i2l (v := (de row.toNatClampNeg).toInt64) hx hb dX1_dueSum_76 rfl ?_
    refine x_rl (va_runS (As := [.long (f_mix (f_mix ((3 * key) + key) (nu row.toNatClampNeg)) (st row.toNatClampNeg)), .long ((de row.toNatClampNeg).toInt64)]) (rest := []) ⟨hx, hb, hml, hown, hts⟩ (ct_X1_stir l G (f_mix (f_mix ((3 * key) + key) (nu row.toNatClampNeg)) (st row.toNatClampNeg)) ((de row.toNatClampNeg).toInt64)) (va_cwS 2 hts gX1_dueSum_X1_stir rfl rfl rfl (by decide +kernel) ⟨Nat.le_of_ble_eq_true rfl, Nat.le_of_ble_eq_true rfl⟩) (RdP.preS (fun k q h => by simp at h) hE) rfl rfl hl.1 rfl (lv_room (Nat.le_of_ble_eq_true rfl)) dX1_dueSum_77 ⟨Nat.zero_le _, Nat.zero_le _⟩) (fun r7 er7 => ?_)
    subst er7
    exact W.lret (v := (f_mix (f_mix (f_mix ((3 * key) + key) (nu row.toNatClampNeg)) (st row.toNatClampNeg)) ((de row.toNatClampNeg).toInt64))) hx hb hr (fun t ht hW => ⟨_, rfl, by simp only [f_due, if_neg c5, if_pos c11], ht⟩) t_nil dX1_dueSum_80
  refine lv_lconst (v := 0) hx hb dX1_dueSum_8 (by decide) ?_
  exact W.lret (v := 0) hx hb hr (fun t ht hW => ⟨_, rfl, by simp only [f_due, if_pos c5], ht⟩) t_nil dX1_dueSum_9

set_option maxHeartbeats 4000000 in
set_option maxRecDepth 100000 in
/-- fieldOf -/
theorem ct_X1_fieldOf (l : Launch) (G : Gx) (h0 h1 h2 h3 h4 h5 : Nat) (key : Int64) (n : Nat) (nu st : Nat → Int64) (de : Nat → Int32) (su : Nat → Int64) (mk : Nat → Int32) (row field : Int32) (hc : n ≤ 200) : Met l yX1_fieldOf wsX1_fieldOf ({ frames := 1, cells := 0, slots := 0, locals := 21 }) (RdP G (wR G h0 h1 h2 h3 h4 h5 key (nI n) nu st de su mk) [.ref h0, .int row, .int field]) (vp_Sl (fun r => r = f_fld n nu st de row field)) 0 0 (fun _ => False) := by
  refine Met.ofW (cc := cX1_fieldOf) (maxL := 3) (ret := (some .long)) (by decide) rfl ?_
  intro p e s m args below meth c s₁ B hml hv
  obtain ⟨rfl, hP, hE⟩ := hv
  have hx := B.exec
  have hb := B.bytes
  have hr := B.returns
  have hts := atoms_spec (ws := wsX1_fieldOf) B.pre
  have hown : s.vm.findClass RX1 = some m.cls := findClass_of_methodNamed B.named
  have hlocks := B.notSynchronized
  have hiX1 : ∀ w ∈ wsX10, w ∈ wsX1_fieldOf := by decide +kernel
  have hl := lv_entry ([.ref h0, .int row, .int field]) (n := 3) (Nat.le_of_ble_eq_true rfl)
  rw [lg_entry_eq]
  generalize (lg_sl ([.ref h0, .int row, .int field]) ++ List.replicate (3 - (lg_sl ([.ref h0, .int row, .int field])).length) Slot.unset).toArray = ls at hl ⊢
  replace hl : lv_has ls 3 [(0, .ref h0), (1, .int row), (2, .int field)] := hl
  refine lv_aload_n hx hb dX1_fieldOf_0 rfl (lv_at hl 0 rfl) ?_
  refine lv_iload_n hx hb dX1_fieldOf_1 rfl (lv_at hl 1 rfl) ?_
  refine x_ri (va_runV (As := [.int row]) (rest := []) ⟨hx, hb, hml, hown, hts⟩ (ct_X1_holds l G h0 h1 h2 h3 h4 h5 key n nu st de su mk row) (cwV 1 hts gX1_fieldOf_X1_holds rfl rfl rfl (by decide +kernel) ⟨Nat.le_of_ble_eq_true rfl, Nat.le_of_ble_eq_true rfl⟩) (RdP.preV 0 2 rfl rfl hP hE) rfl rfl hl.1 rfl (lv_room (Nat.le_of_ble_eq_true rfl)) dX1_fieldOf_2 ⟨Nat.zero_le _, Nat.zero_le _⟩) (fun r1 er1 => ?_)
  subst er1
  refine lv_if_ne (tgt := 10) hx hb dX1_fieldOf_5 (by decide) (fun c5 => ?_) (fun c5 => ?_)
  · refine lv_iload_n hx hb dX1_fieldOf_10 rfl (lv_at hl 2 rfl) ?_
    refine lv_if_ne (tgt := 21) hx hb dX1_fieldOf_11 (by decide) (fun c11 => ?_) (fun c11 => ?_)
    · refine lv_iload_n hx hb dX1_fieldOf_21 rfl (lv_at hl 2 rfl) ?_
      refine lv_iconst (v := 1) hx hb dX1_fieldOf_22 (by decide) ?_
      refine lv_icmp_ne (tgt := 35) hx hb dX1_fieldOf_23 (by decide) (fun c23 => ?_) (fun c23 => ?_)
      · refine lv_aload_n hx hb dX1_fieldOf_35 rfl (lv_at hl 0 rfl) ?_
        refine va_get (D := G.1) (ci := 2) (v := .ref h3) (C := RX1) (T := TX1) (N := 7) hx hb hts hiX1 hown hE.1 hP 0 rfl rfl 3 (by decide) (hts (.fieldLink RX1 22 "MeterSeals$Rows" "degrees" "[I") (by decide +kernel)) (fun _ h9 => h9) rfl dX1_fieldOf_36 ?_
        refine lv_iload_n hx hb dX1_fieldOf_39 rfl (lv_at hl 1 rfl) ?_
        refine va_iald hx hb hE.1 hP 3 0 rfl rfl (holds_in hc c5) dX1_fieldOf_40 ?_
        refine lv_i2l (v := (de row.toNatClampNeg).toInt64) hx hb dX1_fieldOf_41 rfl ?_
        exact W.lret (v := (de row.toNatClampNeg).toInt64) hx hb hr (fun t ht hW => ⟨_, rfl, by simp [f_fld, c5, c11, c23], ht⟩) t_nil dX1_fieldOf_42
      refine lv_aload_n hx hb dX1_fieldOf_26 rfl (lv_at hl 0 rfl) ?_
      refine va_get (D := G.1) (ci := 2) (v := .ref h2) (C := RX1) (T := TX1) (N := 7) hx hb hts hiX1 hown hE.1 hP 0 rfl rfl 2 (by decide) (hts (.fieldLink RX1 19 "MeterSeals$Rows" "stamps" "[J") (by decide +kernel)) (fun _ h9 => h9) rfl dX1_fieldOf_27 ?_
      refine lv_iload_n hx hb dX1_fieldOf_30 rfl (lv_at hl 1 rfl) ?_
      refine va_lald hx hb hE.1 hP 2 1 rfl rfl (holds_in hc c5) dX1_fieldOf_31 ?_
      refine lv_goto (tgt := 42) hx hb dX1_fieldOf_32 (by decide) ?_
      exact W.lret (v := (st row.toNatClampNeg)) hx hb hr (fun t ht hW => ⟨_, rfl, by simp [f_fld, c5, c11, c23], ht⟩) t_nil dX1_fieldOf_42
    refine lv_aload_n hx hb dX1_fieldOf_14 rfl (lv_at hl 0 rfl) ?_
    refine va_get (D := G.1) (ci := 2) (v := .ref h1) (C := RX1) (T := TX1) (N := 7) hx hb hts hiX1 hown hE.1 hP 0 rfl rfl 1 (by decide) (hts (.fieldLink RX1 15 "MeterSeals$Rows" "numbers" "[J") (by decide +kernel)) (fun _ h9 => h9) rfl dX1_fieldOf_15 ?_
    refine lv_iload_n hx hb dX1_fieldOf_18 rfl (lv_at hl 1 rfl) ?_
    refine va_lald hx hb hE.1 hP 1 1 rfl rfl (holds_in hc c5) dX1_fieldOf_19 ?_
    exact W.lret (v := (nu row.toNatClampNeg)) hx hb hr (fun t ht hW => ⟨_, rfl, by simp [f_fld, c5, c11], ht⟩) t_nil dX1_fieldOf_20
  refine lv_lconst (v := 0) hx hb dX1_fieldOf_8 (by decide) ?_
  exact W.lret (v := 0) hx hb hr (fun t ht hW => ⟨_, rfl, by simp [f_fld, c5], ht⟩) t_nil dX1_fieldOf_9

set_option maxHeartbeats 4000000 in
set_option maxRecDepth 100000 in
/-- letterOf -/
theorem ct_X1_letterOf (l : Launch) (G : Gx) (h0 h1 h2 h3 h4 h5 : Nat) (key : Int64) (n : Nat) (nu st : Nat → Int64) (de : Nat → Int32) (su : Nat → Int64) (mk : Nat → Int32) (row : Int32) (hc : n ≤ 200) : Met l yX1_letterOf wsX1_letterOf ({ frames := 2, cells := 0, slots := 0, locals := 42 }) (RdP G (wR G h0 h1 h2 h3 h4 h5 key (nI n) nu st de su mk) [.ref h0, .int row]) (vp_Si (fun r => r = f_let n st row)) 0 0 (fun _ => False) := by
  refine Met.ofW (cc := cX1_letterOf) (maxL := 2) (ret := (some .char)) (by decide) rfl ?_
  intro p e s m args below meth c s₁ B hml hv
  obtain ⟨rfl, hP, hE⟩ := hv
  have hx := B.exec
  have hb := B.bytes
  have hr := B.returns
  have hts := atoms_spec (ws := wsX1_letterOf) B.pre
  have hown : s.vm.findClass RX1 = some m.cls := findClass_of_methodNamed B.named
  have hlocks := B.notSynchronized
  have hiX1 : ∀ w ∈ wsX10, w ∈ wsX1_letterOf := by decide +kernel
  have hl := lv_entry ([.ref h0, .int row]) (n := 2) (Nat.le_of_ble_eq_true rfl)
  rw [lg_entry_eq]
  generalize (lg_sl ([.ref h0, .int row]) ++ List.replicate (2 - (lg_sl ([.ref h0, .int row])).length) Slot.unset).toArray = ls at hl ⊢
  replace hl : lv_has ls 2 [(0, .ref h0), (1, .int row)] := hl
  refine lv_aload_n hx hb dX1_letterOf_0 rfl (lv_at hl 0 rfl) ?_
  refine lv_iload_n hx hb dX1_letterOf_1 rfl (lv_at hl 1 rfl) ?_
  refine x_ri (va_runV (As := [.int row]) (rest := []) ⟨hx, hb, hml, hown, hts⟩ (ct_X1_holds l G h0 h1 h2 h3 h4 h5 key n nu st de su mk row) (cwV 1 hts gX1_letterOf_X1_holds rfl rfl rfl (by decide +kernel) ⟨Nat.le_of_ble_eq_true rfl, Nat.le_of_ble_eq_true rfl⟩) (RdP.preV 0 2 rfl rfl hP hE) rfl rfl hl.1 rfl (lv_room (Nat.le_of_ble_eq_true rfl)) dX1_letterOf_2 ⟨Nat.zero_le _, Nat.zero_le _⟩) (fun r1 er1 => ?_)
  subst er1
  refine lv_if_eq (tgt := 16) hx hb dX1_letterOf_5 (by decide) (fun c5 => ?_) (fun c5 => ?_)
  · refine lv_bipush (v := 82) hx hb dX1_letterOf_16 (by decide) ?_
    exact W.zret (v := 82) hx hb hr rfl (fun t ht hW => ⟨_, rfl, by simp [f_let, c5], ht⟩) t_nil dX1_letterOf_18
  refine lv_aload_n hx hb dX1_letterOf_8 rfl (lv_at hl 0 rfl) ?_
  refine lv_iload_n hx hb dX1_letterOf_9 rfl (lv_at hl 1 rfl) ?_
  refine x_ri (va_runV (As := [.int row]) (rest := []) ⟨hx, hb, hml, hown, hts⟩ (ct_X1_isReading l G h0 h1 h2 h3 h4 h5 key n nu st de su mk row hc) (cwV 1 hts gX1_letterOf_X1_isReading rfl rfl rfl (by decide +kernel) ⟨Nat.le_of_ble_eq_true rfl, Nat.le_of_ble_eq_true rfl⟩) (RdP.preV 0 2 rfl rfl hP hE) rfl rfl hl.1 rfl (lv_room (Nat.le_of_ble_eq_true rfl)) dX1_letterOf_10 ⟨Nat.zero_le _, Nat.zero_le _⟩) (fun r2 er2 => ?_)
  subst er2
  refine lv_if_eq (tgt := 19) hx hb dX1_letterOf_13 (by decide) (fun c13 => ?_) (fun c13 => ?_)
  · refine lv_aload_n hx hb dX1_letterOf_19 rfl (lv_at hl 0 rfl) ?_
    refine va_get (D := G.1) (ci := 2) (v := .ref h2) (C := RX1) (T := TX1) (N := 7) hx hb hts hiX1 hown hE.1 hP 0 rfl rfl 2 (by decide) (hts (.fieldLink RX1 19 "MeterSeals$Rows" "stamps" "[J") (by decide +kernel)) (fun _ h9 => h9) rfl dX1_letterOf_20 ?_
    refine lv_iload_n hx hb dX1_letterOf_23 rfl (lv_at hl 1 rfl) ?_
    refine va_lald hx hb hE.1 hP 2 1 rfl rfl (holds_in hc c5) dX1_letterOf_24 ?_
    refine lv_ldc2 (v := (-1)) hx hb hown (hts (.constantLong RX1 65 (-1)) (by decide +kernel)) dX1_letterOf_25 ?_
    refine x_lne (tgt := 35) hx hb dX1_letterOf_28 dX1_letterOf_29 (by decide) (fun c29 => ?_) (fun c29 => ?_)
    · refine lv_aload_n hx hb dX1_letterOf_35 rfl (lv_at hl 0 rfl) ?_
      refine va_get (D := G.1) (ci := 2) (v := .ref h2) (C := RX1) (T := TX1) (N := 7) hx hb hts hiX1 hown hE.1 hP 0 rfl rfl 2 (by decide) (hts (.fieldLink RX1 19 "MeterSeals$Rows" "stamps" "[J") (by decide +kernel)) (fun _ h9 => h9) rfl dX1_letterOf_36 ?_
      refine lv_iload_n hx hb dX1_letterOf_39 rfl (lv_at hl 1 rfl) ?_
      refine va_lald hx hb hE.1 hP 2 1 rfl rfl (holds_in hc c5) dX1_letterOf_40 ?_
      refine lv_ldc2 (v := (-2)) hx hb hown (hts (.constantLong RX1 111 (-2)) (by decide +kernel)) dX1_letterOf_41 ?_
      refine x_lne (tgt := 53) hx hb dX1_letterOf_44 dX1_letterOf_45 (by decide) (fun c45 => ?_) (fun c45 => ?_)
      · refine lv_bipush (v := 83) hx hb dX1_letterOf_53 (by decide) ?_
        exact W.zret (v := 83) hx hb hr rfl (fun t ht hW => ⟨_, rfl, by simp [f_let, c5, c13, c29, c45], ht⟩) t_nil dX1_letterOf_55
      refine lv_bipush (v := 66) hx hb dX1_letterOf_48 (by decide) ?_
      refine lv_goto (tgt := 55) hx hb dX1_letterOf_50 (by decide) ?_
      exact W.zret (v := 66) hx hb hr rfl (fun t ht hW => ⟨_, rfl, by simp [f_let, c5, c13, c29, c45], ht⟩) t_nil dX1_letterOf_55
    refine lv_bipush (v := 90) hx hb dX1_letterOf_32 (by decide) ?_
    exact W.zret (v := 90) hx hb hr rfl (fun t ht hW => ⟨_, rfl, by simp [f_let, c5, c13, c29], ht⟩) t_nil dX1_letterOf_34
  refine lv_bipush (v := 82) hx hb dX1_letterOf_16 (by decide) ?_
  exact W.zret (v := 82) hx hb hr rfl (fun t ht hW => ⟨_, rfl, by simp [f_let, c5, c13], ht⟩) t_nil dX1_letterOf_18

set_option maxHeartbeats 4000000 in
set_option maxRecDepth 100000 in
/-- wholeMinutes -/
theorem ct_X1_wholeMinutes (l : Launch) (G : Gx) (v : Int64) : Met l yX1_wholeMinutes wsX1_wholeMinutes ({ frames := 1, cells := 0, slots := 0, locals := 15 }) (RdP G [] [.long v]) (vp_Si (fun r => r = f_mins v)) 0 0 (fun _ => False) := by
  refine Met.ofW (cc := cX1_wholeMinutes) (maxL := 2) (ret := (some .int)) (by decide) rfl ?_
  intro p e s m args below meth c s₁ B hml hv
  obtain ⟨rfl, hP, hE⟩ := hv
  have hx := B.exec
  have hb := B.bytes
  have hr := B.returns
  have hts := atoms_spec (ws := wsX1_wholeMinutes) B.pre
  have hown : s.vm.findClass RX1 = some m.cls := findClass_of_methodNamed B.named
  have hlocks := B.notSynchronized
  have hl := lv_entry ([.long v]) (n := 2) (Nat.le_of_ble_eq_true rfl)
  rw [lg_entry_eq]
  generalize (lg_sl ([.long v]) ++ List.replicate (2 - (lg_sl ([.long v])).length) Slot.unset).toArray = ls at hl ⊢
  replace hl : lv_has ls 2 [(0, .long v)] := hl
  refine lv_lload_n hx hb dX1_wholeMinutes_0 rfl (lv_at hl 0 rfl) ?_
  refine lv_ldc2 (v := 60) hx hb hown (hts (.constantLong RX1 73 60) (by decide +kernel)) dX1_wholeMinutes_1 ?_
  refine lv_ldiv hx hb dX1_wholeMinutes_4 (by decide) ?_
  refine lv_ldc2 (v := 2147483647) hx hb hown (hts (.constantLong RX1 75 2147483647) (by decide +kernel)) dX1_wholeMinutes_5 ?_
  refine va_mmin_long hx hb (hml.trans hl.1.symm) hown (hts (.methodLink RX1 77 Lib.MathLoose.min_long.x) (by decide +kernel)) (hts (.static Lib.MathLoose.min_long.x) (by decide +kernel)) (hts (.initialized "java/lang/Math") (by decide +kernel)) (hts (.code Lib.MathLoose.min_long.x Lib.MathLoose.min_long.code 4 (some .long)) (by decide +kernel)) (Nat.le_of_ble_eq_true rfl) (Nat.le_of_ble_eq_true rfl) (Nat.zero_le _) (Nat.zero_le _) dX1_wholeMinutes_8 ?_
  refine lv_l2i (v := (if 2147483647 < (v / 60) then 2147483647 else (v / 60)).toInt32) hx hb dX1_wholeMinutes_11 rfl ?_
  exact W.iret (v := (if 2147483647 < (v / 60) then 2147483647 else (v / 60)).toInt32) hx hb hr (fun t ht hW => ⟨_, rfl, rfl, ht⟩) t_nil dX1_wholeMinutes_12

set_option maxHeartbeats 4000000 in
set_option maxRecDepth 100000 in
/-- add -/
theorem ct_X1_add (l : Launch) (G : Gx) (h0 h1 h2 h3 h4 h5 : Nat) (key : Int64) (n : Nat) (nu st : Nat → Int64) (de : Nat → Int32) (su : Nat → Int64) (mk : Nat → Int32) (number stamp : Int64) (warmth mark : Int32) (hc : n ≤ 200) (hz : mark = 0 ∨ mark = 1) : Met l yX1_add wsX1_add ({ frames := 2, cells := 0, slots := 0, locals := 50 }) (WrP G (wR G h0 h1 h2 h3 h4 h5 key (nI n) nu st de su mk) [.ref h0, .long number, .long stamp, .int warmth, .int mark]) (va_Qi (fun r (u : va_W) => (n = 200 ∧ r = 0 ∧ u = wR G h0 h1 h2 h3 h4 h5 key (nI n) nu st de su mk) ∨ (n < 200 ∧ r = 1 ∧ u = wR G h0 h1 h2 h3 h4 h5 key (nI (n + 1)) (vp_updL nu n number) (vp_updL st n stamp) (upd de n warmth) (vp_updL su n (f_due key (n + 1) (vp_updL nu n number) (vp_updL st n stamp) (upd de n warmth) su (nI n))) (upd mk n mark))) (fun u t => va_P G.1 vwCl u t.heap) (adr (wR G h0 h1 h2 h3 h4 h5 key (nI n) nu st de su mk))) 0 0 (adr (wR G h0 h1 h2 h3 h4 h5 key (nI n) nu st de su mk)) := by
  refine Met.ofW (cc := cX1_add) (maxL := 8) (ret := (some .boolean)) (by decide) rfl ?_
  intro p e s m args below meth c s₁ B hml hv
  obtain ⟨rfl, hP, hE, hD0⟩ := hv
  have hx := B.exec
  have hb := B.bytes
  have hr := B.returns
  have hts := atoms_spec (ws := wsX1_add) B.pre
  have hown : s.vm.findClass RX1 = some m.cls := findClass_of_methodNamed B.named
  have hlocks := B.notSynchronized
  have hD : va_D (adr (wR G h0 h1 h2 h3 h4 h5 key (nI n) nu st de su mk)) (wR G h0 h1 h2 h3 h4 h5 key (nI n) nu st de su mk) := ⟨hD0.1, fun k q hk => ⟨k, q.2, hk⟩⟩
  generalize adr (wR G h0 h1 h2 h3 h4 h5 key (nI n) nu st de su mk) = A at hD ⊢
  have hS : va_S A s.heap s.heap [] := va_S.rf
  have hiX1 : ∀ w ∈ wsX10, w ∈ wsX1_add := by decide +kernel
  have hl := lv_entry ([.ref h0, .long number, .long stamp, .int warmth, .int mark]) (n := 8) (Nat.le_of_ble_eq_true rfl)
  rw [lg_entry_eq]
  generalize (lg_sl ([.ref h0, .long number, .long stamp, .int warmth, .int mark]) ++ List.replicate (8 - (lg_sl ([.ref h0, .long number, .long stamp, .int warmth, .int mark])).length) Slot.unset).toArray = ls at hl ⊢
  replace hl : lv_has ls 8 [(0, .ref h0), (1, .long number), (3, .long stamp), (5, .int warmth), (6, .int mark)] := hl
  refine lv_aload_n hx hb dX1_add_0 rfl (lv_at hl 0 rfl) ?_
  refine va_get (D := G.1) (ci := 2) (v := .int (nI n)) (C := RX1) (T := TX1) (N := 7) hx hb hts hiX1 hown hE.1 hP 0 rfl rfl 6 (by decide) (hts (.fieldLink RX1 33 "MeterSeals$Rows" "count" "I") (by decide +kernel)) (fun _ h9 => h9) rfl dX1_add_1 ?_
  refine lv_sipush (v := 200) hx hb dX1_add_4 (by decide) ?_
  refine lv_icmp_lt (tgt := 12) hx hb dX1_add_7 (by decide) (fun c7 => ?_) (fun c7 => ?_)
  · have hlt : n < 200 := lt200 hc c7
    have h31 : n < 2 ^ 31 := by omega
    refine lv_aload_n hx hb dX1_add_12 rfl (lv_at hl 0 rfl) ?_
    refine va_get (D := G.1) (ci := 2) (v := .int (nI n)) (C := RX1) (T := TX1) (N := 7) hx hb hts hiX1 hown hE.1 hP 0 rfl rfl 6 (by decide) (hts (.fieldLink RX1 33 "MeterSeals$Rows" "count" "I") (by decide +kernel)) (fun _ h9 => h9) rfl dX1_add_13 ?_
    refine lv_istore (lv' := [(7, .int (nI n)), (0, .ref h0), (1, .long number), (3, .long stamp), (5, .int warmth), (6, .int mark)]) hx hb dX1_add_16 hl (by decide) rfl (fun ls hl => ?_)
    refine lv_aload_n hx hb dX1_add_18 rfl (lv_at hl 1 rfl) ?_
    refine va_get (D := G.1) (ci := 2) (v := .ref h1) (C := RX1) (T := TX1) (N := 7) hx hb hts hiX1 hown hE.1 hP 0 rfl rfl 1 (by decide) (hts (.fieldLink RX1 15 "MeterSeals$Rows" "numbers" "[J") (by decide +kernel)) (fun _ h9 => h9) rfl dX1_add_19 ?_
    refine lv_iload hx hb dX1_add_22 (lv_at hl 0 rfl) ?_
    refine lv_lload_n hx hb dX1_add_24 rfl (lv_at hl 2 rfl) ?_
    refine va_last hx hb hE.1 hP hD hS 1 1 rfl rfl (vp_in_nI hlt (by decide)) dX1_add_25 (fun H locs hP hD hS => ?_)
    rw [nI_clamp h31] at hP hD
    have hP : va_P G.1 vwCl (wR G h0 h1 h2 h3 h4 h5 key (nI n) (vp_updL nu n number) st de su mk) H := hP
    have hD : va_D A (wR G h0 h1 h2 h3 h4 h5 key (nI n) (vp_updL nu n number) st de su mk) := hD
    refine lv_aload_n hx hb dX1_add_26 rfl (lv_at hl 1 rfl) ?_
    refine va_get (D := G.1) (ci := 2) (v := .ref h2) (C := RX1) (T := TX1) (N := 7) hx hb hts hiX1 hown hE.1 hP 0 rfl rfl 2 (by decide) (hts (.fieldLink RX1 19 "MeterSeals$Rows" "stamps" "[J") (by decide +kernel)) (fun _ h9 => h9) rfl dX1_add_27 ?_
    refine lv_iload hx hb dX1_add_30 (lv_at hl 0 rfl) ?_
    refine lv_lload_n hx hb dX1_add_32 rfl (lv_at hl 3 rfl) ?_
    refine va_last hx hb hE.1 hP hD hS 2 1 rfl rfl (vp_in_nI hlt (by decide)) dX1_add_33 (fun H locs hP hD hS => ?_)
    rw [nI_clamp h31] at hP hD
    have hP : va_P G.1 vwCl (wR G h0 h1 h2 h3 h4 h5 key (nI n) (vp_updL nu n number) (vp_updL st n stamp) de su mk) H := hP
    have hD : va_D A (wR G h0 h1 h2 h3 h4 h5 key (nI n) (vp_updL nu n number) (vp_updL st n stamp) de su mk) := hD
    refine lv_aload_n hx hb dX1_add_34 rfl (lv_at hl 1 rfl) ?_
    refine va_get (D := G.1) (ci := 2) (v := .ref h3) (C := RX1) (T := TX1) (N := 7) hx hb hts hiX1 hown hE.1 hP 0 rfl rfl 3 (by decide) (hts (.fieldLink RX1 22 "MeterSeals$Rows" "degrees" "[I") (by decide +kernel)) (fun _ h9 => h9) rfl dX1_add_35 ?_
    refine lv_iload hx hb dX1_add_38 (lv_at hl 0 rfl) ?_
    refine lv_iload hx hb dX1_add_40 (lv_at hl 4 rfl) ?_
    refine va_iast hx hb hE.1 hP hD hS 3 0 rfl rfl (vp_in_nI hlt (by decide)) dX1_add_42 (fun H locs hP hD hS => ?_)
    rw [nI_clamp h31] at hP hD
    have hP : va_P G.1 vwCl (wR G h0 h1 h2 h3 h4 h5 key (nI n) (vp_updL nu n number) (vp_updL st n stamp) (upd de n warmth) su mk) H := hP
    have hD : va_D A (wR G h0 h1 h2 h3 h4 h5 key (nI n) (vp_updL nu n number) (vp_updL st n stamp) (upd de n warmth) su mk) := hD
    refine lv_aload_n hx hb dX1_add_43 rfl (lv_at hl 1 rfl) ?_
    refine va_get (D := G.1) (ci := 2) (v := .ref h5) (C := RX1) (T := TX1) (N := 7) hx hb hts hiX1 hown hE.1 hP 0 rfl rfl 5 (by decide) (hts (.fieldLink RX1 29 "MeterSeals$Rows" "marks" "[Z") (by decide +kernel)) (fun _ h9 => h9) rfl dX1_add_44 ?_
    refine lv_iload hx hb dX1_add_47 (lv_at hl 0 rfl) ?_
    refine lv_iload hx hb dX1_add_49 (lv_at hl 5 rfl) ?_
    refine va_zast hx hb hE.1 hP hD hS 5 2 rfl rfl (vp_in_nI hlt (by decide)) dX1_add_51 (fun H locs hP hD hS => ?_)
    rw [nI_clamp h31, znar hz] at hP hD
    have hP : va_P G.1 vwCl (wR G h0 h1 h2 h3 h4 h5 key (nI n) (vp_updL nu n number) (vp_updL st n stamp) (upd de n warmth) su (upd mk n mark)) H := hP
    have hD : va_D A (wR G h0 h1 h2 h3 h4 h5 key (nI n) (vp_updL nu n number) (vp_updL st n stamp) (upd de n warmth) su (upd mk n mark)) := hD
    refine lv_aload_n hx hb dX1_add_52 rfl (lv_at hl 1 rfl) ?_
    refine lv_dup hx hb dX1_add_53 rfl ?_
    refine va_get (D := G.1) (ci := 2) (v := .int (nI n)) (C := RX1) (T := TX1) (N := 7) hx hb hts hiX1 hown hE.1 hP 0 rfl rfl 6 (by decide) (hts (.fieldLink RX1 33 "MeterSeals$Rows" "count" "I") (by decide +kernel)) (fun _ h9 => h9) rfl dX1_add_54 ?_
    refine lv_iconst (v := 1) hx hb dX1_add_57 (by decide) ?_
    refine lv_iadd hx hb dX1_add_58 ?_
    rw [nI_1]
    refine va_put (D := G.1) (ci := 2) (v := .int (nI (n + 1))) (ty := .int) (C := RX1) (T := TX1) (N := 7) hx hb hts hiX1 tyX1 tyX1_ok nmX1 hown hE.1 hP hD hS 0 rfl rfl 6 (by decide) (hts (.fieldLink RX1 33 "MeterSeals$Rows" "count" "I") (by decide +kernel)) (fun _ h9 => h9) rfl (by decide +kernel) rfl rfl (Nat.le_of_ble_eq_true rfl) dX1_add_59 (fun H locs hP hD hS => ?_)
    have hP : va_P G.1 vwCl (wR G h0 h1 h2 h3 h4 h5 key (nI (n + 1)) (vp_updL nu n number) (vp_updL st n stamp) (upd de n warmth) su (upd mk n mark)) H := hP
    have hD : va_D A (wR G h0 h1 h2 h3 h4 h5 key (nI (n + 1)) (vp_updL nu n number) (vp_updL st n stamp) (upd de n warmth) su (upd mk n mark)) := hD
    refine lv_aload_n hx hb dX1_add_62 rfl (lv_at hl 1 rfl) ?_
    refine va_get (D := G.1) (ci := 2) (v := .ref h4) (C := RX1) (T := TX1) (N := 7) hx hb hts hiX1 hown hE.1 hP 0 rfl rfl 4 (by decide) (hts (.fieldLink RX1 26 "MeterSeals$Rows" "sums" "[J") (by decide +kernel)) (fun _ h9 => h9) rfl dX1_add_63 ?_
    refine lv_iload hx hb dX1_add_66 (lv_at hl 0 rfl) ?_
    refine lv_aload_n hx hb dX1_add_68 rfl (lv_at hl 1 rfl) ?_
    refine lv_iload hx hb dX1_add_69 (lv_at hl 0 rfl) ?_
    refine x_rl (va_runV (As := [.int (nI n)]) (rest := [.int (nI n), .ref h4]) ⟨hx, hb, hml, hown, hts⟩ (ct_X1_dueSum l G h0 h1 h2 h3 h4 h5 key (n + 1) (vp_updL nu n number) (vp_updL st n stamp) (upd de n warmth) su (upd mk n mark) (nI n) (by omega)) (cwV 1 hts gX1_add_X1_dueSum rfl rfl rfl (by decide +kernel) ⟨Nat.le_of_ble_eq_true rfl, Nat.le_of_ble_eq_true rfl⟩) (RdP.preV 0 2 rfl rfl hP hE) rfl rfl hl.1 rfl (lv_room (Nat.le_of_ble_eq_true rfl)) dX1_add_71 ⟨Nat.zero_le _, Nat.zero_le _⟩) (fun r1 er1 => ?_)
    subst er1
    refine va_last hx hb hE.1 hP hD hS 4 1 rfl rfl (vp_in_nI hlt (by decide)) dX1_add_74 (fun H locs hP hD hS => ?_)
    rw [nI_clamp h31] at hP hD
    have hP : va_P G.1 vwCl (wR G h0 h1 h2 h3 h4 h5 key (nI (n + 1)) (vp_updL nu n number) (vp_updL st n stamp) (upd de n warmth) (vp_updL su n (f_due key (n + 1) (vp_updL nu n number) (vp_updL st n stamp) (upd de n warmth) su (nI n))) (upd mk n mark)) H := hP
    have hD : va_D A (wR G h0 h1 h2 h3 h4 h5 key (nI (n + 1)) (vp_updL nu n number) (vp_updL st n stamp) (upd de n warmth) (vp_updL su n (f_due key (n + 1) (vp_updL nu n number) (vp_updL st n stamp) (upd de n warmth) su (nI n))) (upd mk n mark)) := hD
    refine lv_iconst (v := 1) hx hb dX1_add_75 (by decide) ?_
    exact W.zret (v := 1) hx hb hr (zb (Or.inr rfl)) (fun t ht hW => ⟨⟨1, wR G h0 h1 h2 h3 h4 h5 key (nI (n + 1)) (vp_updL nu n number) (vp_updL st n stamp) (upd de n warmth) (vp_updL su n (f_due key (n + 1) (vp_updL nu n number) (vp_updL st n stamp) (upd de n warmth) su (nI n))) (upd mk n mark), rfl, Or.inr ⟨hlt, rfl, rfl⟩, by show va_P _ _ _ t.heap; rw [ht]; exact hP⟩, hS.F ht⟩) hS.2.2 dX1_add_76
  refine lv_iconst (v := 0) hx hb dX1_add_10 (by decide) ?_
  exact W.zret (v := 0) hx hb hr (zb (Or.inl rfl)) (fun t ht hW => ⟨⟨0, wR G h0 h1 h2 h3 h4 h5 key (nI n) nu st de su mk, rfl, Or.inl ⟨ge200 hc c7, rfl, rfl⟩, by show va_P _ _ _ t.heap; rw [ht]; exact hP⟩, hS.F ht⟩) hS.2.2 dX1_add_11

set_option maxHeartbeats 4000000 in
set_option maxRecDepth 100000 in
/-- addPulses -/
theorem ct_X1_addPulses (l : Launch) (G : Gx) (h0 h1 h2 h3 h4 h5 : Nat) (key : Int64) (n : Nat) (nu st : Nat → Int64) (de : Nat → Int32) (su : Nat → Int64) (mk : Nat → Int32) (row : Int32) (b : Int64) (hc : n ≤ 200) : Met l yX1_addPulses wsX1_addPulses ({ frames := 3, cells := 0, slots := 0, locals := 63 }) (WrP G (wR G h0 h1 h2 h3 h4 h5 key (nI n) nu st de su mk) [.ref h0, .int row, .long b]) (va_Qi (fun r (u : va_W) => (f_poke n nu st row b = 0 ∧ r = 0 ∧ u = wR G h0 h1 h2 h3 h4 h5 key (nI n) nu st de su mk) ∨ (¬ f_poke n nu st row b = 0 ∧ r = 1 ∧ u = wR G h0 h1 h2 h3 h4 h5 key (nI n) (vp_updL nu row.toNatClampNeg (f_pul n nu st row + b)) st de su mk)) (fun u t => va_P G.1 vwCl u t.heap) (adr (wR G h0 h1 h2 h3 h4 h5 key (nI n) nu st de su mk))) 0 0 (adr (wR G h0 h1 h2 h3 h4 h5 key (nI n) nu st de su mk)) := by
  refine Met.ofW (cc := cX1_addPulses) (maxL := 6) (ret := (some .boolean)) (by decide) rfl ?_
  intro p e s m args below meth c s₁ B hml hv
  obtain ⟨rfl, hP, hE, hD0⟩ := hv
  have hx := B.exec
  have hb := B.bytes
  have hr := B.returns
  have hts := atoms_spec (ws := wsX1_addPulses) B.pre
  have hown : s.vm.findClass RX1 = some m.cls := findClass_of_methodNamed B.named
  have hlocks := B.notSynchronized
  have hD : va_D (adr (wR G h0 h1 h2 h3 h4 h5 key (nI n) nu st de su mk)) (wR G h0 h1 h2 h3 h4 h5 key (nI n) nu st de su mk) := ⟨hD0.1, fun k q hk => ⟨k, q.2, hk⟩⟩
  generalize adr (wR G h0 h1 h2 h3 h4 h5 key (nI n) nu st de su mk) = A at hD ⊢
  have hS : va_S A s.heap s.heap [] := va_S.rf
  have hiX1 : ∀ w ∈ wsX10, w ∈ wsX1_addPulses := by decide +kernel
  have hl := lv_entry ([.ref h0, .int row, .long b]) (n := 6) (Nat.le_of_ble_eq_true rfl)
  rw [lg_entry_eq]
  generalize (lg_sl ([.ref h0, .int row, .long b]) ++ List.replicate (6 - (lg_sl ([.ref h0, .int row, .long b])).length) Slot.unset).toArray = ls at hl ⊢
  replace hl : lv_has ls 6 [(0, .ref h0), (1, .int row), (2, .long b)] := hl
  refine lv_aload_n hx hb dX1_addPulses_0 rfl (lv_at hl 0 rfl) ?_
  refine lv_iload_n hx hb dX1_addPulses_1 rfl (lv_at hl 1 rfl) ?_
  refine x_rl (va_runV (As := [.int row]) (rest := []) ⟨hx, hb, hml, hown, hts⟩ (ct_X1_pulsesOf l G h0 h1 h2 h3 h4 h5 key n nu st de su mk row hc) (cwV 1 hts gX1_addPulses_X1_pulsesOf rfl rfl rfl (by decide +kernel) ⟨Nat.le_of_ble_eq_true rfl, Nat.le_of_ble_eq_true rfl⟩) (RdP.preV 0 2 rfl rfl hP hE) rfl rfl hl.1 rfl (lv_room (Nat.le_of_ble_eq_true rfl)) dX1_addPulses_2 ⟨Nat.zero_le _, Nat.zero_le _⟩) (fun r1 er1 => ?_)
  subst er1
  refine lv_lstore (lv' := [(4, .long (f_pul n nu st row)), (0, .ref h0), (1, .int row), (2, .long b)]) hx hb dX1_addPulses_5 hl (by decide) rfl (fun ls hl => ?_)
  refine lv_aload_n hx hb dX1_addPulses_7 rfl (lv_at hl 1 rfl) ?_
  refine lv_iload_n hx hb dX1_addPulses_8 rfl (lv_at hl 2 rfl) ?_
  refine x_ri (va_runV (As := [.int row]) (rest := []) ⟨hx, hb, hml, hown, hts⟩ (ct_X1_isReading l G h0 h1 h2 h3 h4 h5 key n nu st de su mk row hc) (cwV 1 hts gX1_addPulses_X1_isReading rfl rfl rfl (by decide +kernel) ⟨Nat.le_of_ble_eq_true rfl, Nat.le_of_ble_eq_true rfl⟩) (RdP.preV 0 2 rfl rfl hP hE) rfl rfl hl.1 rfl (lv_room (Nat.le_of_ble_eq_true rfl)) dX1_addPulses_9 ⟨Nat.zero_le _, Nat.zero_le _⟩) (fun r2 er2 => ?_)
  subst er2
  refine lv_if_eq (tgt := 31) hx hb dX1_addPulses_12 (by decide) (fun c12 => ?_) (fun c12 => ?_)
  · refine lv_iconst (v := 0) hx hb dX1_addPulses_31 (by decide) ?_
    exact W.zret (v := 0) hx hb hr (zb (Or.inl rfl)) (fun t ht hW => ⟨⟨0, wR G h0 h1 h2 h3 h4 h5 key (nI n) nu st de su mk, rfl, Or.inl ⟨by simp [f_poke, c12], rfl, rfl⟩, by show va_P _ _ _ t.heap; rw [ht]; exact hP⟩, hS.F ht⟩) hS.2.2 dX1_addPulses_32
  refine lv_lload_n hx hb dX1_addPulses_15 rfl (lv_at hl 3 rfl) ?_
  refine lv_lload hx hb dX1_addPulses_16 (lv_at hl 0 rfl) ?_
  refine lv_lneg hx hb dX1_addPulses_18 ?_
  refine lv_ldc2 (v := 1000000) hx hb hown (hts (.constantLong RX1 51 1000000) (by decide +kernel)) dX1_addPulses_19 ?_
  refine lv_lload hx hb dX1_addPulses_22 (lv_at hl 0 rfl) ?_
  refine lv_lsub hx hb dX1_addPulses_24 ?_
  refine x_ri (va_runSN (As := [.long b, .long (-(f_pul n nu st row)), .long (1000000 - (f_pul n nu st row))]) (rest := []) ⟨hx, hb, hml, hown, hts⟩ (ct_X3_within l G b (-(f_pul n nu st row)) (1000000 - (f_pul n nu st row))) ⟨va_cnB 3 hts gX1_addPulses_X3_within_n53 rfl rfl rfl hE.2.1.2.2.2.2.2.1 (hts (.initialized RX3) (by decide +kernel)) (by decide +kernel) ⟨Nat.le_of_ble_eq_true rfl, Nat.le_of_ble_eq_true rfl⟩, hts (.static yX3_within) (by decide +kernel), trivial⟩ (RdP.preS (fun k q h => by simp at h) hE) rfl rfl hl.1 rfl (lv_room (Nat.le_of_ble_eq_true rfl)) dX1_addPulses_25 ⟨Nat.zero_le _, Nat.zero_le _⟩) (fun r3 er3 => ?_)
  subst er3
  refine lv_if_ne (tgt := 33) hx hb dX1_addPulses_28 (by decide) (fun c28 => ?_) (fun c28 => ?_)
  · refine lv_aload_n hx hb dX1_addPulses_33 rfl (lv_at hl 1 rfl) ?_
    refine va_get (D := G.1) (ci := 2) (v := .ref h1) (C := RX1) (T := TX1) (N := 7) hx hb hts hiX1 hown hE.1 hP 0 rfl rfl 1 (by decide) (hts (.fieldLink RX1 15 "MeterSeals$Rows" "numbers" "[J") (by decide +kernel)) (fun _ h9 => h9) rfl dX1_addPulses_34 ?_
    refine lv_iload_n hx hb dX1_addPulses_37 rfl (lv_at hl 2 rfl) ?_
    refine lv_lload hx hb dX1_addPulses_38 (lv_at hl 0 rfl) ?_
    refine lv_lload_n hx hb dX1_addPulses_40 rfl (lv_at hl 3 rfl) ?_
    refine lv_ladd hx hb dX1_addPulses_41 ?_
    refine va_last hx hb hE.1 hP hD hS 1 1 rfl rfl (isR_in hc c12) dX1_addPulses_42 (fun H locs hP hD hS => ?_)
    have hP : va_P G.1 vwCl (wR G h0 h1 h2 h3 h4 h5 key (nI n) (vp_updL nu row.toNatClampNeg ((f_pul n nu st row) + b)) st de su mk) H := hP
    have hD : va_D A (wR G h0 h1 h2 h3 h4 h5 key (nI n) (vp_updL nu row.toNatClampNeg ((f_pul n nu st row) + b)) st de su mk) := hD
    refine lv_iconst (v := 1) hx hb dX1_addPulses_43 (by decide) ?_
    exact W.zret (v := 1) hx hb hr (zb (Or.inr rfl)) (fun t ht hW => ⟨⟨1, wR G h0 h1 h2 h3 h4 h5 key (nI n) (vp_updL nu row.toNatClampNeg ((f_pul n nu st row) + b)) st de su mk, rfl, Or.inr ⟨by simp [f_poke, c12, c28], rfl, rfl⟩, by show va_P _ _ _ t.heap; rw [ht]; exact hP⟩, hS.F ht⟩) hS.2.2 dX1_addPulses_44
  refine lv_iconst (v := 0) hx hb dX1_addPulses_31 (by decide) ?_
  exact W.zret (v := 0) hx hb hr (zb (Or.inl rfl)) (fun t ht hW => ⟨⟨0, wR G h0 h1 h2 h3 h4 h5 key (nI n) nu st de su mk, rfl, Or.inl ⟨by simp [f_poke, c12, c28], rfl, rfl⟩, by show va_P _ _ _ t.heap; rw [ht]; exact hP⟩, hS.F ht⟩) hS.2.2 dX1_addPulses_32
end
section
def f_placeF (n : Nat) (ts : Nat → Int32) (d : Int32) : Nat → Nat → Int32
  | 0, _ => nI n
  | k + 1, i => if ts i = d then nI i else f_placeF n ts d k (i + 1)
def f_place (n : Nat) (ts : Nat → Int32) (d : Int32) : Int32 := f_placeF n ts d n 0
def f_bestF (ts : Nat → Int32) (d : Int32) : Nat → Nat → Int32 → Int32
  | 0, _, b => b
  | k + 1, i, b => if b = -1 then f_bestF ts d k (i + 1) (nI i) else if f_before (ts i) (ts b.toNatClampNeg) d = 0 then f_bestF ts d k (i + 1) b else f_bestF ts d k (i + 1) (nI i)
def f_best (n : Nat) (ts : Nat → Int32) (d : Int32) : Int32 := f_bestF ts d n 0 (-1)
theorem best_in {i : Nat} {best : Int32} (hB : best = -1 ∨ ∃ j : Nat, j < i ∧ best = nI j) (h : ¬ best = -1) (hi : i ≤ 16) : vp_in best 16 := by
  rcases hB with q | ⟨j, hj, rfl⟩
  · exact absurd q h
  · exact vp_in_nI (by omega) (by omega)
theorem f_bestF_or (ts : Nat → Int32) (d : Int32) : ∀ (k i : Nat) (b : Int32), (b = -1 ∨ ∃ j : Nat, j < i ∧ b = nI j) → (f_bestF ts d k i b = -1 ∨ ∃ j : Nat, j < i + k ∧ f_bestF ts d k i b = nI j) := by
  intro k
  induction k with
  | zero => intro i b h; exact h
  | succ k ih =>
    intro i b h
    have h1 : ∃ j : Nat, j < i + 1 ∧ nI i = nI j := ⟨i, by omega, rfl⟩
    have e : i + (k + 1) = i + 1 + k := by omega
    rw [e]
    unfold f_bestF
    split
    · exact ih (i + 1) _ (Or.inr h1)
    · split
      · exact ih (i + 1) _ (h.imp id (fun ⟨j, q, r⟩ => ⟨j, by omega, r⟩))
      · exact ih (i + 1) _ (Or.inr h1)
theorem fbest_or (n : Nat) (ts : Nat → Int32) (d : Int32) : f_best n ts d = -1 ∨ ∃ j : Nat, j < n ∧ f_best n ts d = nI j := by
  have := f_bestF_or ts d n 0 (-1) (Or.inl rfl)
  rwa [Nat.zero_add] at this
theorem fbest_in {n : Nat} {ts : Nat → Int32} {d : Int32} (hc : n ≤ 16) (h : 0 ≤ f_best n ts d) : vp_in (f_best n ts d) 16 := by
  rcases fbest_or n ts d with q | ⟨j, hj, q⟩
  · rw [q] at h; exact absurd h (by decide)
  · rw [q]; exact vp_in_nI (by omega) (by omega)
def f_above (n : Nat) (ts : Nat → Int32) (ta : Nat → Int64) (d : Int32) : Int64 := if 0 ≤ f_best n ts d then ta (f_best n ts d).toNatClampNeg else 0
def f_below (n : Nat) (ts : Nat → Int32) (tb : Nat → Int64) (d : Int32) : Int64 := if 0 ≤ f_best n ts d then tb (f_best n ts d).toNatClampNeg else 1
def f_wrongF (key : Int64) (n : Nat) (nu st : Nat → Int64) (de : Nat → Int32) (su : Nat → Int64) : Nat → Nat → Int32
  | 0, _ => 0
  | k + 1, i => if su i = f_due key n nu st de su (nI i) then f_wrongF key n nu st de su k (i + 1) else nI i + 1
def f_wrong (key : Int64) (n : Nat) (nu st : Nat → Int64) (de : Nat → Int32) (su : Nat → Int64) (frm : Int32) : Int32 :=
  if frm < 0 then -1 else if frm ≤ nI n then f_wrongF key n nu st de su (n - frm.toNatClampNeg) frm.toNatClampNeg else -1
end
section
set_option maxHeartbeats 4000000 in
set_option maxRecDepth 100000 in
/-- placeFor -/
theorem ct_X2_placeFor (l : Launch) (G : Gx) (t0 t1 t2 t3 : Nat) (n : Nat) (ts : Nat → Int32) (ta tb : Nat → Int64) (d : Int32) (hc : n ≤ 16) : Met l yX2_placeFor wsX2_placeFor ({ frames := 0, cells := 0, slots := 0, locals := 0 }) (RdP G (wT G t0 t1 t2 t3 (nI n) ts ta tb) [.ref t0, .int d]) (vp_Si (fun r => r = f_place n ts d)) 0 0 (fun _ => False) := by
  refine Met.ofW (cc := cX2_placeFor) (maxL := 3) (ret := (some .int)) (by decide) rfl ?_
  intro p e s m args below meth c s₁ B hml hv
  obtain ⟨rfl, hP, hE⟩ := hv
  have hx := B.exec
  have hb := B.bytes
  have hr := B.returns
  have hts := atoms_spec (ws := wsX2_placeFor) B.pre
  have hown : s.vm.findClass RX2 = some m.cls := findClass_of_methodNamed B.named
  have hlocks := B.notSynchronized
  have hiX2 : ∀ w ∈ wsX20, w ∈ wsX2_placeFor := by decide +kernel
  have hl := lv_entry ([.ref t0, .int d]) (n := 3) (Nat.le_of_ble_eq_true rfl)
  rw [lg_entry_eq]
  generalize (lg_sl ([.ref t0, .int d]) ++ List.replicate (3 - (lg_sl ([.ref t0, .int d])).length) Slot.unset).toArray = ls at hl ⊢
  replace hl : lv_has ls 3 [(0, .ref t0), (1, .int d)] := hl
  refine lv_iconst (v := 0) hx hb dX2_placeFor_0 (by decide) ?_
  refine lv_istore_n (lv' := [(2, .int 0), (0, .ref t0), (1, .int d)]) hx hb dX2_placeFor_1 rfl hl (by decide) rfl (fun ls hl => ?_)
  obtain ⟨i, hi⟩ : ∃ i : Nat, i = 0 := ⟨_, rfl⟩
  replace hl : lv_has ls 3 [(2, .int (nI i)), (0, .ref t0), (1, .int d)] := by rw [hi]; exact hl
  obtain ⟨k, hk⟩ : ∃ k : Nat, i + k = n := ⟨n - i, by omega⟩
  have hv : f_placeF n ts d k i = f_place n ts d := by rw [f_place, hi, show k = n by omega]
  clear hi
  induction k generalizing i ls with
  | zero =>
    have hk : i = n := hk
    refine lv_iload_n hx hb dX2_placeFor_2 rfl (lv_at hl 0 rfl) ?_
    refine lv_aload_n hx hb dX2_placeFor_3 rfl (lv_at hl 1 rfl) ?_
    refine va_get (D := G.1) (ci := 3) (v := .int (nI n)) (C := RX2) (T := TX2) (N := 4) hx hb hts hiX2 hown hE.1 hP 0 rfl rfl 3 (by decide) (hts (.fieldLink RX2 22 "MeterSeals$Table" "count" "I") (by decide +kernel)) (fun _ h9 => h9) rfl dX2_placeFor_4 ?_
    refine lv_icmp_ge (tgt := 28) hx hb dX2_placeFor_7 (by decide) (fun c7 => ?_) (fun c7 => absurd (nI_le (by omega) (by omega)) c7)
    refine lv_aload_n hx hb dX2_placeFor_28 rfl (lv_at hl 1 rfl) ?_
    refine va_get (D := G.1) (ci := 3) (v := .int (nI n)) (C := RX2) (T := TX2) (N := 4) hx hb hts hiX2 hown hE.1 hP 0 rfl rfl 3 (by decide) (hts (.fieldLink RX2 22 "MeterSeals$Table" "count" "I") (by decide +kernel)) (fun _ h9 => h9) rfl dX2_placeFor_29 ?_
    exact W.iret (v := (nI n)) hx hb hr (fun t ht hW => ⟨_, rfl, by rw [← hv]; rfl, ht⟩) t_nil dX2_placeFor_32
  | succ k ih =>
    refine lv_iload_n hx hb dX2_placeFor_2 rfl (lv_at hl 0 rfl) ?_
    refine lv_aload_n hx hb dX2_placeFor_3 rfl (lv_at hl 1 rfl) ?_
    refine va_get (D := G.1) (ci := 3) (v := .int (nI n)) (C := RX2) (T := TX2) (N := 4) hx hb hts hiX2 hown hE.1 hP 0 rfl rfl 3 (by decide) (hts (.fieldLink RX2 22 "MeterSeals$Table" "count" "I") (by decide +kernel)) (fun _ h9 => h9) rfl dX2_placeFor_4 ?_
    refine lv_icmp_ge (tgt := 28) hx hb dX2_placeFor_7 (by decide) (fun c7 => absurd c7 (nI_ge (by omega) (by omega))) (fun c7 => ?_)
    refine lv_aload_n hx hb dX2_placeFor_10 rfl (lv_at hl 1 rfl) ?_
    refine va_get (D := G.1) (ci := 3) (v := .ref t1) (C := RX2) (T := TX2) (N := 4) hx hb hts hiX2 hown hE.1 hP 0 rfl rfl 0 (by decide) (hts (.fieldLink RX2 9 "MeterSeals$Table" "starts" "[I") (by decide +kernel)) (fun _ h9 => h9) rfl dX2_placeFor_11 ?_
    refine lv_iload_n hx hb dX2_placeFor_14 rfl (lv_at hl 0 rfl) ?_
    refine va_iald hx hb hE.1 hP 1 0 rfl rfl (vp_in_nI (show i < 16 by omega) (by decide)) dX2_placeFor_15 ?_
    rw [nI_clamp (show i < 2 ^ 31 by omega)]
    refine lv_iload_n hx hb dX2_placeFor_16 rfl (lv_at hl 2 rfl) ?_
    refine lv_icmp_ne (tgt := 22) hx hb dX2_placeFor_17 (by decide) (fun c17 => ?_) (fun c17 => ?_)
    · refine lv_iinc (v := (nI (i + 1))) (lv' := [(2, .int (nI (i + 1))), (0, .ref t0), (1, .int d)]) hx hb dX2_placeFor_22 hl (k := 0) rfl (nI_1 i) (by decide) rfl (fun ls hl => ?_)
      refine lv_goto (tgt := 2) hx hb dX2_placeFor_25 (by decide) ?_
      exact ih ls (i + 1) (lv_sub hl [0, 1, 2] rfl) (by omega) (by simpa only [f_placeF, if_neg c17] using hv)
    refine lv_iload_n hx hb dX2_placeFor_20 rfl (lv_at hl 0 rfl) ?_
    exact W.iret (v := (nI i)) hx hb hr (fun t ht hW => ⟨_, rfl, by rw [← hv]; simp only [f_placeF, if_pos c17], ht⟩) t_nil dX2_placeFor_21

set_option maxHeartbeats 4000000 in
set_option maxRecDepth 100000 in
/-- lineAt -/
theorem ct_X2_lineAt (l : Launch) (G : Gx) (t0 t1 t2 t3 : Nat) (n : Nat) (ts : Nat → Int32) (ta tb : Nat → Int64) (d : Int32) (hc : n ≤ 16) : Met l yX2_lineAt wsX2_lineAt ({ frames := 1, cells := 0, slots := 0, locals := 22 }) (RdP G (wT G t0 t1 t2 t3 (nI n) ts ta tb) [.ref t0, .int d]) (vp_Si (fun r => r = f_best n ts d)) 0 0 (fun _ => False) := by
  refine Met.ofW (cc := cX2_lineAt) (maxL := 4) (ret := (some .int)) (by decide) rfl ?_
  intro p e s m args below meth c s₁ B hml hv
  obtain ⟨rfl, hP, hE⟩ := hv
  have hx := B.exec
  have hb := B.bytes
  have hr := B.returns
  have hts := atoms_spec (ws := wsX2_lineAt) B.pre
  have hown : s.vm.findClass RX2 = some m.cls := findClass_of_methodNamed B.named
  have hlocks := B.notSynchronized
  have hiX2 : ∀ w ∈ wsX20, w ∈ wsX2_lineAt := by decide +kernel
  have hl := lv_entry ([.ref t0, .int d]) (n := 4) (Nat.le_of_ble_eq_true rfl)
  rw [lg_entry_eq]
  generalize (lg_sl ([.ref t0, .int d]) ++ List.replicate (4 - (lg_sl ([.ref t0, .int d])).length) Slot.unset).toArray = ls at hl ⊢
  replace hl : lv_has ls 4 [(0, .ref t0), (1, .int d)] := hl
  refine lv_iconst (v := (-1)) hx hb dX2_lineAt_0 (by decide) ?_
  refine lv_istore_n (lv' := [(2, .int (-1)), (0, .ref t0), (1, .int d)]) hx hb dX2_lineAt_1 rfl hl (by decide) rfl (fun ls hl => ?_)
  refine lv_iconst (v := 0) hx hb dX2_lineAt_2 (by decide) ?_
  refine lv_istore_n (lv' := [(3, .int 0), (2, .int (-1)), (0, .ref t0), (1, .int d)]) hx hb dX2_lineAt_3 rfl hl (by decide) rfl (fun ls hl => ?_)
  obtain ⟨i, hi⟩ : ∃ i : Nat, i = 0 := ⟨_, rfl⟩
  obtain ⟨best, hbe⟩ : ∃ b : Int32, b = -1 := ⟨_, rfl⟩
  replace hl : lv_has ls 4 [(3, .int (nI i)), (2, .int best), (0, .ref t0), (1, .int d)] := by rw [hi, hbe]; exact hl
  have hB : best = -1 ∨ ∃ j : Nat, j < i ∧ best = nI j := Or.inl hbe
  obtain ⟨k, hk⟩ : ∃ k : Nat, i + k = n := ⟨n - i, by omega⟩
  have hv : f_bestF ts d k i best = f_best n ts d := by rw [f_best, hi, hbe, show k = n by omega]
  clear hi hbe
  induction k generalizing i ls best with
  | zero =>
    refine lv_iload_n hx hb dX2_lineAt_4 rfl (lv_at hl 0 rfl) ?_
    refine lv_aload_n hx hb dX2_lineAt_5 rfl (lv_at hl 2 rfl) ?_
    refine va_get (D := G.1) (ci := 3) (v := .int (nI n)) (C := RX2) (T := TX2) (N := 4) hx hb hts hiX2 hown hE.1 hP 0 rfl rfl 3 (by decide) (hts (.fieldLink RX2 22 "MeterSeals$Table" "count" "I") (by decide +kernel)) (fun _ h9 => h9) rfl dX2_lineAt_6 ?_
    refine lv_icmp_ge (tgt := 44) hx hb dX2_lineAt_9 (by decide) (fun c9 => ?_) (fun c9 => absurd (nI_le (by omega) (by omega)) c9)
    refine lv_iload_n hx hb dX2_lineAt_44 rfl (lv_at hl 1 rfl) ?_
    exact W.iret (v := best) hx hb hr (fun t ht hW => ⟨_, rfl, by rw [← hv]; rfl, ht⟩) t_nil dX2_lineAt_45
  | succ k ih =>
    refine lv_iload_n hx hb dX2_lineAt_4 rfl (lv_at hl 0 rfl) ?_
    refine lv_aload_n hx hb dX2_lineAt_5 rfl (lv_at hl 2 rfl) ?_
    refine va_get (D := G.1) (ci := 3) (v := .int (nI n)) (C := RX2) (T := TX2) (N := 4) hx hb hts hiX2 hown hE.1 hP 0 rfl rfl 3 (by decide) (hts (.fieldLink RX2 22 "MeterSeals$Table" "count" "I") (by decide +kernel)) (fun _ h9 => h9) rfl dX2_lineAt_6 ?_
    refine lv_icmp_ge (tgt := 44) hx hb dX2_lineAt_9 (by decide) (fun c9 => absurd c9 (nI_ge (by omega) (by omega))) (fun c9 => ?_)
    refine lv_iload_n hx hb dX2_lineAt_12 rfl (lv_at hl 1 rfl) ?_
    refine lv_iconst (v := (-1)) hx hb dX2_lineAt_13 (by decide) ?_
    refine lv_icmp_eq (tgt := 36) hx hb dX2_lineAt_14 (by decide) (fun c14 => ?_) (fun c14 => ?_)
    · refine lv_iload_n hx hb dX2_lineAt_36 rfl (lv_at hl 0 rfl) ?_
      refine lv_istore_n (lv' := [(2, .int (nI i)), (3, .int (nI i)), (0, .ref t0), (1, .int d)]) hx hb dX2_lineAt_37 rfl hl (by decide) rfl (fun ls hl => ?_)
      refine lv_iinc (v := (nI (i + 1))) (lv' := [(3, .int (nI (i + 1))), (2, .int (nI i)), (0, .ref t0), (1, .int d)]) hx hb dX2_lineAt_38 hl (k := 1) rfl (nI_1 i) (by decide) rfl (fun ls hl => ?_)
      refine lv_goto (tgt := 4) hx hb dX2_lineAt_41 (by decide) ?_
      exact ih ls (i + 1) (nI i) (lv_sub hl [0, 1, 2, 3] rfl) (Or.inr ⟨i, by omega, rfl⟩) (by omega) (by simpa only [f_bestF, if_pos c14] using hv)
    refine lv_aload_n hx hb dX2_lineAt_17 rfl (lv_at hl 2 rfl) ?_
    refine va_get (D := G.1) (ci := 3) (v := .ref t1) (C := RX2) (T := TX2) (N := 4) hx hb hts hiX2 hown hE.1 hP 0 rfl rfl 0 (by decide) (hts (.fieldLink RX2 9 "MeterSeals$Table" "starts" "[I") (by decide +kernel)) (fun _ h9 => h9) rfl dX2_lineAt_18 ?_
    refine lv_iload_n hx hb dX2_lineAt_21 rfl (lv_at hl 0 rfl) ?_
    refine va_iald hx hb hE.1 hP 1 0 rfl rfl (vp_in_nI (show i < 16 by omega) (by decide)) dX2_lineAt_22 ?_
    rw [nI_clamp (show i < 2 ^ 31 by omega)]
    refine lv_aload_n hx hb dX2_lineAt_23 rfl (lv_at hl 2 rfl) ?_
    refine va_get (D := G.1) (ci := 3) (v := .ref t1) (C := RX2) (T := TX2) (N := 4) hx hb hts hiX2 hown hE.1 hP 0 rfl rfl 0 (by decide) (hts (.fieldLink RX2 9 "MeterSeals$Table" "starts" "[I") (by decide +kernel)) (fun _ h9 => h9) rfl dX2_lineAt_24 ?_
    refine lv_iload_n hx hb dX2_lineAt_27 rfl (lv_at hl 1 rfl) ?_
    refine va_iald hx hb hE.1 hP 1 0 rfl rfl (best_in hB c14 (by omega)) dX2_lineAt_28 ?_
    refine lv_iload_n hx hb dX2_lineAt_29 rfl (lv_at hl 3 rfl) ?_
    refine x_ri (va_runS (As := [.int (ts i), .int (ts best.toNatClampNeg), .int d]) (rest := []) ⟨hx, hb, hml, hown, hts⟩ (ct_X2_goesBefore l G (ts i) (ts best.toNatClampNeg) d) (va_cwS 3 hts gX2_lineAt_X2_goesBefore rfl rfl rfl (by decide +kernel) ⟨Nat.le_of_ble_eq_true rfl, Nat.le_of_ble_eq_true rfl⟩) (RdP.preS (fun k q h => by simp at h) hE) rfl rfl hl.1 rfl (lv_room (Nat.le_of_ble_eq_true rfl)) dX2_lineAt_30 ⟨Nat.zero_le _, Nat.zero_le _⟩) (fun r1 er1 => ?_)
    subst er1
    refine lv_if_eq (tgt := 38) hx hb dX2_lineAt_33 (by decide) (fun c33 => ?_) (fun c33 => ?_)
    · refine lv_iinc (v := (nI (i + 1))) (lv' := [(3, .int (nI (i + 1))), (2, .int best), (0, .ref t0), (1, .int d)]) hx hb dX2_lineAt_38 hl (k := 0) rfl (nI_1 i) (by decide) rfl (fun ls hl => ?_)
      refine lv_goto (tgt := 4) hx hb dX2_lineAt_41 (by decide) ?_
      exact ih ls (i + 1) best (lv_sub hl [0, 1, 2, 3] rfl) (hB.imp id (fun ⟨j, h1, h2⟩ => ⟨j, by omega, h2⟩)) (by omega) (by simpa only [f_bestF, if_neg c14, if_pos c33] using hv)
    refine lv_iload_n hx hb dX2_lineAt_36 rfl (lv_at hl 0 rfl) ?_
    refine lv_istore_n (lv' := [(2, .int (nI i)), (3, .int (nI i)), (0, .ref t0), (1, .int d)]) hx hb dX2_lineAt_37 rfl hl (by decide) rfl (fun ls hl => ?_)
    refine lv_iinc (v := (nI (i + 1))) (lv' := [(3, .int (nI (i + 1))), (2, .int (nI i)), (0, .ref t0), (1, .int d)]) hx hb dX2_lineAt_38 hl (k := 1) rfl (nI_1 i) (by decide) rfl (fun ls hl => ?_)
    refine lv_goto (tgt := 4) hx hb dX2_lineAt_41 (by decide) ?_
    exact ih ls (i + 1) (nI i) (lv_sub hl [0, 1, 2, 3] rfl) (Or.inr ⟨i, by omega, rfl⟩) (by omega) (by simpa only [f_bestF, if_neg c14, if_neg c33] using hv)

set_option maxHeartbeats 4000000 in
set_option maxRecDepth 100000 in
/-- aboveAt -/
theorem ct_X2_aboveAt (l : Launch) (G : Gx) (t0 t1 t2 t3 : Nat) (n : Nat) (ts : Nat → Int32) (ta tb : Nat → Int64) (d : Int32) (hc : n ≤ 16) : Met l yX2_aboveAt wsX2_aboveAt ({ frames := 2, cells := 0, slots := 0, locals := 45 }) (RdP G (wT G t0 t1 t2 t3 (nI n) ts ta tb) [.ref t0, .int d]) (vp_Sl (fun r => r = f_above n ts ta d)) 0 0 (fun _ => False) := by
  refine Met.ofW (cc := cX2_aboveAt) (maxL := 3) (ret := (some .long)) (by decide) rfl ?_
  intro p e s m args below meth c s₁ B hml hv
  obtain ⟨rfl, hP, hE⟩ := hv
  have hx := B.exec
  have hb := B.bytes
  have hr := B.returns
  have hts := atoms_spec (ws := wsX2_aboveAt) B.pre
  have hown : s.vm.findClass RX2 = some m.cls := findClass_of_methodNamed B.named
  have hlocks := B.notSynchronized
  have hiX2 : ∀ w ∈ wsX20, w ∈ wsX2_aboveAt := by decide +kernel
  have hl := lv_entry ([.ref t0, .int d]) (n := 3) (Nat.le_of_ble_eq_true rfl)
  rw [lg_entry_eq]
  generalize (lg_sl ([.ref t0, .int d]) ++ List.replicate (3 - (lg_sl ([.ref t0, .int d])).length) Slot.unset).toArray = ls at hl ⊢
  replace hl : lv_has ls 3 [(0, .ref t0), (1, .int d)] := hl
  refine lv_aload_n hx hb dX2_aboveAt_0 rfl (lv_at hl 0 rfl) ?_
  refine lv_iload_n hx hb dX2_aboveAt_1 rfl (lv_at hl 1 rfl) ?_
  refine x_ri (va_runV (As := [.int d]) (rest := []) ⟨hx, hb, hml, hown, hts⟩ (ct_X2_lineAt l G t0 t1 t2 t3 n ts ta tb d hc) (cwV 1 hts gX2_aboveAt_X2_lineAt rfl rfl rfl (by decide +kernel) ⟨Nat.le_of_ble_eq_true rfl, Nat.le_of_ble_eq_true rfl⟩) (RdP.preV 0 3 rfl rfl hP hE) rfl rfl hl.1 rfl (lv_room (Nat.le_of_ble_eq_true rfl)) dX2_aboveAt_2 ⟨Nat.zero_le _, Nat.zero_le _⟩) (fun r1 er1 => ?_)
  subst er1
  refine lv_istore_n (lv' := [(2, .int (f_best n ts d)), (0, .ref t0), (1, .int d)]) hx hb dX2_aboveAt_5 rfl hl (by decide) rfl (fun ls hl => ?_)
  refine lv_iload_n hx hb dX2_aboveAt_6 rfl (lv_at hl 0 rfl) ?_
  refine lv_if_ge (tgt := 14) hx hb dX2_aboveAt_7 (by decide) (fun c7 => ?_) (fun c7 => ?_)
  · refine lv_aload_n hx hb dX2_aboveAt_14 rfl (lv_at hl 1 rfl) ?_
    refine va_get (D := G.1) (ci := 3) (v := .ref t2) (C := RX2) (T := TX2) (N := 4) hx hb hts hiX2 hown hE.1 hP 0 rfl rfl 1 (by decide) (hts (.fieldLink RX2 15 "MeterSeals$Table" "aboves" "[J") (by decide +kernel)) (fun _ h9 => h9) rfl dX2_aboveAt_15 ?_
    refine lv_iload_n hx hb dX2_aboveAt_18 rfl (lv_at hl 0 rfl) ?_
    refine va_lald hx hb hE.1 hP 2 1 rfl rfl (fbest_in hc c7) dX2_aboveAt_19 ?_
    exact W.lret (v := (ta (f_best n ts d).toNatClampNeg)) hx hb hr (fun t ht hW => ⟨_, rfl, by simp only [f_above, if_pos c7], ht⟩) t_nil dX2_aboveAt_20
  refine lv_lconst (v := 0) hx hb dX2_aboveAt_10 (by decide) ?_
  refine lv_goto (tgt := 20) hx hb dX2_aboveAt_11 (by decide) ?_
  exact W.lret (v := 0) hx hb hr (fun t ht hW => ⟨_, rfl, by simp only [f_above, if_neg c7], ht⟩) t_nil dX2_aboveAt_20

set_option maxHeartbeats 4000000 in
set_option maxRecDepth 100000 in
/-- belowAt -/
theorem ct_X2_belowAt (l : Launch) (G : Gx) (t0 t1 t2 t3 : Nat) (n : Nat) (ts : Nat → Int32) (ta tb : Nat → Int64) (d : Int32) (hc : n ≤ 16) : Met l yX2_belowAt wsX2_belowAt ({ frames := 2, cells := 0, slots := 0, locals := 45 }) (RdP G (wT G t0 t1 t2 t3 (nI n) ts ta tb) [.ref t0, .int d]) (vp_Sl (fun r => r = f_below n ts tb d)) 0 0 (fun _ => False) := by
  refine Met.ofW (cc := cX2_belowAt) (maxL := 3) (ret := (some .long)) (by decide) rfl ?_
  intro p e s m args below meth c s₁ B hml hv
  obtain ⟨rfl, hP, hE⟩ := hv
  have hx := B.exec
  have hb := B.bytes
  have hr := B.returns
  have hts := atoms_spec (ws := wsX2_belowAt) B.pre
  have hown : s.vm.findClass RX2 = some m.cls := findClass_of_methodNamed B.named
  have hlocks := B.notSynchronized
  have hiX2 : ∀ w ∈ wsX20, w ∈ wsX2_belowAt := by decide +kernel
  have hl := lv_entry ([.ref t0, .int d]) (n := 3) (Nat.le_of_ble_eq_true rfl)
  rw [lg_entry_eq]
  generalize (lg_sl ([.ref t0, .int d]) ++ List.replicate (3 - (lg_sl ([.ref t0, .int d])).length) Slot.unset).toArray = ls at hl ⊢
  replace hl : lv_has ls 3 [(0, .ref t0), (1, .int d)] := hl
  refine lv_aload_n hx hb dX2_belowAt_0 rfl (lv_at hl 0 rfl) ?_
  refine lv_iload_n hx hb dX2_belowAt_1 rfl (lv_at hl 1 rfl) ?_
  refine x_ri (va_runV (As := [.int d]) (rest := []) ⟨hx, hb, hml, hown, hts⟩ (ct_X2_lineAt l G t0 t1 t2 t3 n ts ta tb d hc) (cwV 1 hts gX2_belowAt_X2_lineAt rfl rfl rfl (by decide +kernel) ⟨Nat.le_of_ble_eq_true rfl, Nat.le_of_ble_eq_true rfl⟩) (RdP.preV 0 3 rfl rfl hP hE) rfl rfl hl.1 rfl (lv_room (Nat.le_of_ble_eq_true rfl)) dX2_belowAt_2 ⟨Nat.zero_le _, Nat.zero_le _⟩) (fun r1 er1 => ?_)
  subst er1
  refine lv_istore_n (lv' := [(2, .int (f_best n ts d)), (0, .ref t0), (1, .int d)]) hx hb dX2_belowAt_5 rfl hl (by decide) rfl (fun ls hl => ?_)
  refine lv_iload_n hx hb dX2_belowAt_6 rfl (lv_at hl 0 rfl) ?_
  refine lv_if_ge (tgt := 14) hx hb dX2_belowAt_7 (by decide) (fun c7 => ?_) (fun c7 => ?_)
  · refine lv_aload_n hx hb dX2_belowAt_14 rfl (lv_at hl 1 rfl) ?_
    refine va_get (D := G.1) (ci := 3) (v := .ref t3) (C := RX2) (T := TX2) (N := 4) hx hb hts hiX2 hown hE.1 hP 0 rfl rfl 2 (by decide) (hts (.fieldLink RX2 19 "MeterSeals$Table" "belows" "[J") (by decide +kernel)) (fun _ h9 => h9) rfl dX2_belowAt_15 ?_
    refine lv_iload_n hx hb dX2_belowAt_18 rfl (lv_at hl 0 rfl) ?_
    refine va_lald hx hb hE.1 hP 3 1 rfl rfl (fbest_in hc c7) dX2_belowAt_19 ?_
    exact W.lret (v := (tb (f_best n ts d).toNatClampNeg)) hx hb hr (fun t ht hW => ⟨_, rfl, by simp only [f_below, if_pos c7], ht⟩) t_nil dX2_belowAt_20
  refine lv_lconst (v := 1) hx hb dX2_belowAt_10 (by decide) ?_
  refine lv_goto (tgt := 20) hx hb dX2_belowAt_11 (by decide) ?_
  exact W.lret (v := 1) hx hb hr (fun t ht hW => ⟨_, rfl, by simp only [f_below, if_neg c7], ht⟩) t_nil dX2_belowAt_20

set_option maxHeartbeats 4000000 in
set_option maxRecDepth 100000 in
/-- firstWrong -/
theorem ct_X1_firstWrong (l : Launch) (G : Gx) (h0 h1 h2 h3 h4 h5 : Nat) (key : Int64) (n : Nat) (nu st : Nat → Int64) (de : Nat → Int32) (su : Nat → Int64) (mk : Nat → Int32) (frm : Int32) (hc : n ≤ 200) : Met l yX1_firstWrong wsX1_firstWrong ({ frames := 2, cells := 0, slots := 0, locals := 50 }) (RdP G (wR G h0 h1 h2 h3 h4 h5 key (nI n) nu st de su mk) [.ref h0, .int frm]) (vp_Si (fun r => r = f_wrong key n nu st de su frm)) 0 0 (fun _ => False) := by
  refine Met.ofW (cc := cX1_firstWrong) (maxL := 3) (ret := (some .int)) (by decide) rfl ?_
  intro p e s m args below meth c s₁ B hml hv
  obtain ⟨rfl, hP, hE⟩ := hv
  have hx := B.exec
  have hb := B.bytes
  have hr := B.returns
  have hts := atoms_spec (ws := wsX1_firstWrong) B.pre
  have hown : s.vm.findClass RX1 = some m.cls := findClass_of_methodNamed B.named
  have hlocks := B.notSynchronized
  have hiX1 : ∀ w ∈ wsX10, w ∈ wsX1_firstWrong := by decide +kernel
  have hl := lv_entry ([.ref h0, .int frm]) (n := 3) (Nat.le_of_ble_eq_true rfl)
  rw [lg_entry_eq]
  generalize (lg_sl ([.ref h0, .int frm]) ++ List.replicate (3 - (lg_sl ([.ref h0, .int frm])).length) Slot.unset).toArray = ls at hl ⊢
  replace hl : lv_has ls 3 [(0, .ref h0), (1, .int frm)] := hl
  refine lv_iload_n hx hb dX1_firstWrong_0 rfl (lv_at hl 1 rfl) ?_
  refine lv_if_lt (tgt := 12) hx hb dX1_firstWrong_1 (by decide) (fun c1 => ?_) (fun c1 => ?_)
  · refine lv_iconst (v := (-1)) hx hb dX1_firstWrong_12 (by decide) ?_
    exact W.iret (v := (-1)) hx hb hr (fun t ht hW => ⟨_, rfl, by simp only [f_wrong, if_pos c1], ht⟩) t_nil dX1_firstWrong_13
  refine lv_iload_n hx hb dX1_firstWrong_4 rfl (lv_at hl 1 rfl) ?_
  refine lv_aload_n hx hb dX1_firstWrong_5 rfl (lv_at hl 0 rfl) ?_
  refine va_get (D := G.1) (ci := 2) (v := .int (nI n)) (C := RX1) (T := TX1) (N := 7) hx hb hts hiX1 hown hE.1 hP 0 rfl rfl 6 (by decide) (hts (.fieldLink RX1 33 "MeterSeals$Rows" "count" "I") (by decide +kernel)) (fun _ h9 => h9) rfl dX1_firstWrong_6 ?_
  refine lv_icmp_le (tgt := 14) hx hb dX1_firstWrong_9 (by decide) (fun c9 => ?_) (fun c9 => ?_)
  · refine lv_iload_n hx hb dX1_firstWrong_14 rfl (lv_at hl 1 rfl) ?_
    refine lv_istore_n (lv' := [(2, .int frm), (0, .ref h0), (1, .int frm)]) hx hb dX1_firstWrong_15 rfl hl (by decide) rfl (fun ls hl => ?_)
    obtain ⟨i, hi31, hi⟩ := nI_of c1
    have hle : i ≤ n := (nI_leI hi31 (by omega)).mp (by rw [← hi]; exact c9)
    replace hl : lv_has ls 3 [(2, .int (nI i)), (0, .ref h0), (1, .int frm)] := by rw [← hi]; exact hl
    obtain ⟨k, hk⟩ : ∃ k : Nat, i + k = n := ⟨n - i, by omega⟩
    have hv : f_wrongF key n nu st de su k i = f_wrong key n nu st de su frm := by simp only [f_wrong, if_neg c1, if_pos c9]; rw [hi, nI_clamp hi31, show n - i = k by omega]
    clear hi hle hi31
    induction k generalizing i ls with
    | zero =>
      refine lv_iload_n hx hb dX1_firstWrong_16 rfl (lv_at hl 0 rfl) ?_
      refine lv_aload_n hx hb dX1_firstWrong_17 rfl (lv_at hl 1 rfl) ?_
      refine va_get (D := G.1) (ci := 2) (v := .int (nI n)) (C := RX1) (T := TX1) (N := 7) hx hb hts hiX1 hown hE.1 hP 0 rfl rfl 6 (by decide) (hts (.fieldLink RX1 33 "MeterSeals$Rows" "count" "I") (by decide +kernel)) (fun _ h9 => h9) rfl dX1_firstWrong_18 ?_
      refine lv_icmp_ge (tgt := 49) hx hb dX1_firstWrong_21 (by decide) (fun c21 => ?_) (fun c21 => absurd (nI_le (by omega) (by omega)) c21)
      refine lv_iconst (v := 0) hx hb dX1_firstWrong_49 (by decide) ?_
      exact W.iret (v := 0) hx hb hr (fun t ht hW => ⟨_, rfl, by rw [← hv]; rfl, ht⟩) t_nil dX1_firstWrong_50
    | succ k ih =>
      refine lv_iload_n hx hb dX1_firstWrong_16 rfl (lv_at hl 0 rfl) ?_
      refine lv_aload_n hx hb dX1_firstWrong_17 rfl (lv_at hl 1 rfl) ?_
      refine va_get (D := G.1) (ci := 2) (v := .int (nI n)) (C := RX1) (T := TX1) (N := 7) hx hb hts hiX1 hown hE.1 hP 0 rfl rfl 6 (by decide) (hts (.fieldLink RX1 33 "MeterSeals$Rows" "count" "I") (by decide +kernel)) (fun _ h9 => h9) rfl dX1_firstWrong_18 ?_
      refine lv_icmp_ge (tgt := 49) hx hb dX1_firstWrong_21 (by decide) (fun c21 => absurd c21 (nI_ge (by omega) (by omega))) (fun c21 => ?_)
      refine lv_aload_n hx hb dX1_firstWrong_24 rfl (lv_at hl 1 rfl) ?_
      refine va_get (D := G.1) (ci := 2) (v := .ref h4) (C := RX1) (T := TX1) (N := 7) hx hb hts hiX1 hown hE.1 hP 0 rfl rfl 4 (by decide) (hts (.fieldLink RX1 26 "MeterSeals$Rows" "sums" "[J") (by decide +kernel)) (fun _ h9 => h9) rfl dX1_firstWrong_25 ?_
      refine lv_iload_n hx hb dX1_firstWrong_28 rfl (lv_at hl 0 rfl) ?_
      refine va_lald hx hb hE.1 hP 4 1 rfl rfl (vp_in_nI (show i < 200 by omega) (by decide)) dX1_firstWrong_29 ?_
      rw [nI_clamp (show i < 2 ^ 31 by omega)]
      refine lv_aload_n hx hb dX1_firstWrong_30 rfl (lv_at hl 1 rfl) ?_
      refine lv_iload_n hx hb dX1_firstWrong_31 rfl (lv_at hl 0 rfl) ?_
      refine x_rl (va_runV (As := [.int (nI i)]) (rest := [.long (su i)]) ⟨hx, hb, hml, hown, hts⟩ (ct_X1_dueSum l G h0 h1 h2 h3 h4 h5 key n nu st de su mk (nI i) hc) (cwV 1 hts gX1_firstWrong_X1_dueSum rfl rfl rfl (by decide +kernel) ⟨Nat.le_of_ble_eq_true rfl, Nat.le_of_ble_eq_true rfl⟩) (RdP.preV 0 2 rfl rfl hP hE) rfl rfl hl.1 rfl (lv_room (Nat.le_of_ble_eq_true rfl)) dX1_firstWrong_32 ⟨Nat.zero_le _, Nat.zero_le _⟩) (fun r1 er1 => ?_)
      subst er1
      refine x_leq (tgt := 43) hx hb dX1_firstWrong_35 dX1_firstWrong_36 (by decide) (fun c36 => ?_) (fun c36 => ?_)
      · refine lv_iinc (v := (nI (i + 1))) (lv' := [(2, .int (nI (i + 1))), (0, .ref h0), (1, .int frm)]) hx hb dX1_firstWrong_43 hl (k := 0) rfl (nI_1 i) (by decide) rfl (fun ls hl => ?_)
        refine lv_goto (tgt := 16) hx hb dX1_firstWrong_46 (by decide) ?_
        exact ih ls (i + 1) (lv_sub hl [0, 1, 2] rfl) (by omega) (by simpa only [f_wrongF, if_pos c36] using hv)
      refine lv_iload_n hx hb dX1_firstWrong_39 rfl (lv_at hl 0 rfl) ?_
      refine lv_iconst (v := 1) hx hb dX1_firstWrong_40 (by decide) ?_
      refine lv_iadd hx hb dX1_firstWrong_41 ?_
      exact W.iret (v := ((nI i) + 1)) hx hb hr (fun t ht hW => ⟨_, rfl, by rw [← hv]; simp only [f_wrongF, if_neg c36], ht⟩) t_nil dX1_firstWrong_42
  refine lv_iconst (v := (-1)) hx hb dX1_firstWrong_12 (by decide) ?_
  exact W.iret (v := (-1)) hx hb hr (fun t ht hW => ⟨_, rfl, by simp only [f_wrong, if_neg c1, if_neg c9], ht⟩) t_nil dX1_firstWrong_13
end
section
theorem dec1 (x : Int32) : x + Int32.ofInt (-1) = x - 1 := by
  rw [show (Int32.ofInt (-1)) = -1 from rfl, Int32.sub_eq_add_neg]
def f_gapF (n : Nat) (st : Nat → Int64) (what : Int32) : Nat → Nat → Int64 → Int32 → Int32
  | 0, _, _, _ => -1
  | k + 1, i, b, left =>
    if f_isR n st (nI i) = 0 then f_gapF n st what k (i + 1) b left
    else if 0 ≤ b then
      (if 3600 < st i - b then (if left = 0 then (if what = 0 then nI i else f_mins (st i - b)) else f_gapF n st what k (i + 1) (st i) (left - 1)) else f_gapF n st what k (i + 1) (st i) left)
    else f_gapF n st what k (i + 1) (st i) left
def f_gap (n : Nat) (st : Nat → Int64) (kk what : Int32) : Int32 := f_gapF n st what n 0 (-1) kk
/-- the steps of Euclid: the product halves -/
def cd_I (i x y : Nat) : Prop := i = 0 ∨ (y < x ∧ i ≤ 60 ∧ x * y < 2 ^ (60 - i))
theorem cd_i {i x y : Nat} (h : cd_I i x y) : i ≤ 60 := by
  rcases h with h | h
  · omega
  · exact h.2.1
theorem cd_half {x y : Nat} (h0 : 0 < y) (h : y < x) : 2 * (y * (x % y)) < x * y + 1 := by
  have h1 : 2 * (x % y) ≤ x := by
    have h2 := Nat.mod_lt x h0
    have h3 : x % y + y ≤ x := by
      have e := Nat.div_add_mod x y
      have h4 : 1 ≤ x / y := (Nat.le_div_iff_mul_le h0).mpr (by omega)
      have h5 : y * 1 ≤ y * (x / y) := Nat.mul_le_mul_left y h4
      omega
    omega
  have h6 : y * (2 * (x % y)) ≤ y * x := Nat.mul_le_mul_left y h1
  have e1 : y * (2 * (x % y)) = 2 * (y * (x % y)) := by rw [← Nat.mul_assoc, Nat.mul_comm y 2, Nat.mul_assoc]
  have e2 : y * x = x * y := Nat.mul_comm y x
  omega
theorem cd_step {i x y : Nat} (h : cd_I i x y) (h4 : i = 0 → y < 2 ^ 14) (h0 : 0 < y) : cd_I (i + 1) y (x % y) := by
  have hm := Nat.mod_lt x h0
  refine Or.inr ⟨hm, ?_⟩
  rcases h with h | ⟨h1, h2, h3⟩
  · have hy := h4 h
    subst h
    refine ⟨by omega, ?_⟩
    have q1 : y * (x % y) ≤ 2 ^ 14 * 2 ^ 14 := Nat.mul_le_mul (by omega) (by omega)
    have q2 : (2 : Nat) ^ 14 * 2 ^ 14 < 2 ^ (60 - (0 + 1)) := by decide
    omega
  · have hp : 0 < x * y := Nat.mul_pos (by omega) h0
    have hi : i < 60 := by
      rcases Nat.lt_or_ge i 60 with q | q
      · exact q
      · have e : 60 - i = 0 := by omega
        rw [e] at h3
        have : (2 : Nat) ^ 0 = 1 := rfl
        omega
    refine ⟨by omega, ?_⟩
    have e : 60 - i = (60 - (i + 1)) + 1 := by omega
    rw [e, Nat.pow_succ] at h3
    have := cd_half h0 h1
    omega
end
section
set_option maxHeartbeats 4000000 in
set_option maxRecDepth 100000 in
/-- findGap -/
theorem ct_X1_findGap (l : Launch) (G : Gx) (h0 h1 h2 h3 h4 h5 : Nat) (key : Int64) (n : Nat) (nu st : Nat → Int64) (de : Nat → Int32) (su : Nat → Int64) (mk : Nat → Int32) (kk what : Int32) (hc : n ≤ 200) : Met l yX1_findGap wsX1_findGap ({ frames := 2, cells := 0, slots := 0, locals := 42 }) (RdP G (wR G h0 h1 h2 h3 h4 h5 key (nI n) nu st de su mk) [.ref h0, .int kk, .int what]) (vp_Si (fun r => r = f_gap n st kk what)) 0 0 (fun _ => False) := by
  refine Met.ofW (cc := cX1_findGap) (maxL := 9) (ret := (some .int)) (by decide) rfl ?_
  intro p e s m args below meth c s₁ B hml hv
  obtain ⟨rfl, hP, hE⟩ := hv
  have hx := B.exec
  have hb := B.bytes
  have hr := B.returns
  have hts := atoms_spec (ws := wsX1_findGap) B.pre
  have hown : s.vm.findClass RX1 = some m.cls := findClass_of_methodNamed B.named
  have hlocks := B.notSynchronized
  have hiX1 : ∀ w ∈ wsX10, w ∈ wsX1_findGap := by decide +kernel
  have hl := lv_entry ([.ref h0, .int kk, .int what]) (n := 9) (Nat.le_of_ble_eq_true rfl)
  rw [lg_entry_eq]
  generalize (lg_sl ([.ref h0, .int kk, .int what]) ++ List.replicate (9 - (lg_sl ([.ref h0, .int kk, .int what])).length) Slot.unset).toArray = ls at hl ⊢
  replace hl : lv_has ls 9 [(0, .ref h0), (1, .int kk), (2, .int what)] := hl
  refine lv_iload_n hx hb dX1_findGap_0 rfl (lv_at hl 1 rfl) ?_
  refine lv_istore_n (lv' := [(3, .int kk), (0, .ref h0), (1, .int kk), (2, .int what)]) hx hb dX1_findGap_1 rfl hl (by decide) rfl (fun ls hl => ?_)
  refine lv_ldc2 (v := (-1)) hx hb hown (hts (.constantLong RX1 65 (-1)) (by decide +kernel)) dX1_findGap_2 ?_
  refine lv_lstore (lv' := [(4, .long (-1)), (3, .int kk), (0, .ref h0), (1, .int kk), (2, .int what)]) hx hb dX1_findGap_5 hl (by decide) rfl (fun ls hl => ?_)
  refine lv_iconst (v := 0) hx hb dX1_findGap_7 (by decide) ?_
  refine lv_istore (lv' := [(6, .int 0), (4, .long (-1)), (3, .int kk), (0, .ref h0), (1, .int kk), (2, .int what)]) hx hb dX1_findGap_8 hl (by decide) rfl (fun ls hl => ?_)
  obtain ⟨i, hi⟩ : ∃ i : Nat, i = 0 := ⟨_, rfl⟩
  obtain ⟨bef, hbe⟩ : ∃ b : Int64, b = -1 := ⟨_, rfl⟩
  obtain ⟨left, hle⟩ : ∃ b : Int32, b = kk := ⟨_, rfl⟩
  replace hl : lv_has ls 9 [(6, .int (nI i)), (4, .long bef), (3, .int left), (0, .ref h0), (1, .int kk), (2, .int what)] := by rw [hi, hbe, hle]; exact hl
  obtain ⟨k, hk⟩ : ∃ k : Nat, i + k = n := ⟨n - i, by omega⟩
  have hv : f_gapF n st what k i bef left = f_gap n st kk what := by rw [f_gap, hi, hbe, hle, show k = n by omega]
  clear hi hbe hle
  induction k generalizing i ls bef left with
  | zero =>
    refine lv_iload hx hb dX1_findGap_10 (lv_at hl 0 rfl) ?_
    refine lv_aload_n hx hb dX1_findGap_12 rfl (lv_at hl 3 rfl) ?_
    refine va_get (D := G.1) (ci := 2) (v := .int (nI n)) (C := RX1) (T := TX1) (N := 7) hx hb hts hiX1 hown hE.1 hP 0 rfl rfl 6 (by decide) (hts (.fieldLink RX1 33 "MeterSeals$Rows" "count" "I") (by decide +kernel)) (fun _ h9 => h9) rfl dX1_findGap_13 ?_
    refine lv_icmp_ge (tgt := 103) hx hb dX1_findGap_16 (by decide) (fun c16 => ?_) (fun c16 => absurd (nI_le (by omega) (by omega)) c16)
    refine lv_iconst (v := (-1)) hx hb dX1_findGap_103 (by decide) ?_
    exact W.iret (v := (-1)) hx hb hr (fun t ht hW => ⟨_, rfl, by rw [← hv]; rfl, ht⟩) t_nil dX1_findGap_104
  | succ k ih =>
    refine lv_iload hx hb dX1_findGap_10 (lv_at hl 0 rfl) ?_
    refine lv_aload_n hx hb dX1_findGap_12 rfl (lv_at hl 3 rfl) ?_
    refine va_get (D := G.1) (ci := 2) (v := .int (nI n)) (C := RX1) (T := TX1) (N := 7) hx hb hts hiX1 hown hE.1 hP 0 rfl rfl 6 (by decide) (hts (.fieldLink RX1 33 "MeterSeals$Rows" "count" "I") (by decide +kernel)) (fun _ h9 => h9) rfl dX1_findGap_13 ?_
    refine lv_icmp_ge (tgt := 103) hx hb dX1_findGap_16 (by decide) (fun c16 => absurd c16 (nI_ge (by omega) (by omega))) (fun c16 => ?_)
    refine lv_aload_n hx hb dX1_findGap_19 rfl (lv_at hl 3 rfl) ?_
    refine lv_iload hx hb dX1_findGap_20 (lv_at hl 0 rfl) ?_
    refine x_ri (va_runV (As := [.int (nI i)]) (rest := []) ⟨hx, hb, hml, hown, hts⟩ (ct_X1_isReading l G h0 h1 h2 h3 h4 h5 key n nu st de su mk (nI i) hc) (cwV 1 hts gX1_findGap_X1_isReading rfl rfl rfl (by decide +kernel) ⟨Nat.le_of_ble_eq_true rfl, Nat.le_of_ble_eq_true rfl⟩) (RdP.preV 0 2 rfl rfl hP hE) rfl rfl hl.1 rfl (lv_room (Nat.le_of_ble_eq_true rfl)) dX1_findGap_22 ⟨Nat.zero_le _, Nat.zero_le _⟩) (fun r1 er1 => ?_)
    subst er1
    refine lv_if_ne (tgt := 31) hx hb dX1_findGap_25 (by decide) (fun c25 => ?_) (fun c25 => ?_)
    · refine lv_lload hx hb dX1_findGap_31 (lv_at hl 1 rfl) ?_
      refine lv_lconst (v := 0) hx hb dX1_findGap_33 (by decide) ?_
      refine x_lge (tgt := 42) hx hb dX1_findGap_34 dX1_findGap_35 (by decide) (fun c35 => ?_) (fun c35 => ?_)
      · refine lv_aload_n hx hb dX1_findGap_42 rfl (lv_at hl 3 rfl) ?_
        refine va_get (D := G.1) (ci := 2) (v := .ref h2) (C := RX1) (T := TX1) (N := 7) hx hb hts hiX1 hown hE.1 hP 0 rfl rfl 2 (by decide) (hts (.fieldLink RX1 19 "MeterSeals$Rows" "stamps" "[J") (by decide +kernel)) (fun _ h9 => h9) rfl dX1_findGap_43 ?_
        refine lv_iload hx hb dX1_findGap_46 (lv_at hl 0 rfl) ?_
        refine va_lald hx hb hE.1 hP 2 1 rfl rfl (vp_in_nI (show i < 200 by omega) (by decide)) dX1_findGap_48 ?_
        rw [nI_clamp (show i < 2 ^ 31 by omega)]
        refine lv_lload hx hb dX1_findGap_49 (lv_at hl 1 rfl) ?_
        refine lv_lsub hx hb dX1_findGap_51 ?_
        refine lv_lstore (lv' := [(7, .long ((st i) - bef)), (6, .int (nI i)), (4, .long bef), (3, .int left), (0, .ref h0), (1, .int kk), (2, .int what)]) hx hb dX1_findGap_52 hl (by decide) rfl (fun ls hl => ?_)
        refine lv_aload_n hx hb dX1_findGap_54 rfl (lv_at hl 4 rfl) ?_
        refine va_get (D := G.1) (ci := 2) (v := .ref h2) (C := RX1) (T := TX1) (N := 7) hx hb hts hiX1 hown hE.1 hP 0 rfl rfl 2 (by decide) (hts (.fieldLink RX1 19 "MeterSeals$Rows" "stamps" "[J") (by decide +kernel)) (fun _ h9 => h9) rfl dX1_findGap_55 ?_
        refine lv_iload hx hb dX1_findGap_58 (lv_at hl 1 rfl) ?_
        refine va_lald hx hb hE.1 hP 2 1 rfl rfl (vp_in_nI (show i < 200 by omega) (by decide)) dX1_findGap_60 ?_
        rw [nI_clamp (show i < 2 ^ 31 by omega)]
        refine lv_lstore (lv' := [(4, .long (st i)), (7, .long ((st i) - bef)), (6, .int (nI i)), (3, .int left), (0, .ref h0), (1, .int kk), (2, .int what)]) hx hb dX1_findGap_61 hl (by decide) rfl (fun ls hl => ?_)
        refine lv_lload hx hb dX1_findGap_63 (lv_at hl 1 rfl) ?_
        refine lv_ldc2 (v := 3600) hx hb hown (hts (.constantLong RX1 67 3600) (by decide +kernel)) dX1_findGap_65 ?_
        refine x_lgt (tgt := 75) hx hb dX1_findGap_68 dX1_findGap_69 (by decide) (fun c69 => ?_) (fun c69 => ?_)
        · refine lv_iload_n hx hb dX1_findGap_75 rfl (lv_at hl 3 rfl) ?_
          refine lv_if_ne (tgt := 94) hx hb dX1_findGap_76 (by decide) (fun c76 => ?_) (fun c76 => ?_)
          · refine lv_iinc (v := left - 1) (lv' := [(3, .int (left - 1)), (4, .long (st i)), (7, .long ((st i) - bef)), (6, .int (nI i)), (0, .ref h0), (1, .int kk), (2, .int what)]) hx hb dX1_findGap_94 hl (k := 3) rfl (dec1 left) (by decide) rfl (fun ls hl => ?_)
            refine lv_iinc (v := (nI (i + 1))) (lv' := [(6, .int (nI (i + 1))), (3, .int (left - 1)), (4, .long (st i)), (7, .long ((st i) - bef)), (0, .ref h0), (1, .int kk), (2, .int what)]) hx hb dX1_findGap_97 hl (k := 3) rfl (nI_1 i) (by decide) rfl (fun ls hl => ?_)
            refine lv_goto (tgt := 10) hx hb dX1_findGap_100 (by decide) ?_
            exact ih ls (i + 1) (st i) (left - 1) (lv_sub hl [0, 2, 1, 4, 5, 6] rfl) (by omega) (by simpa only [f_gapF, if_neg c25, if_pos c35, if_pos c69, if_neg c76] using hv)
          refine lv_iload_n hx hb dX1_findGap_79 rfl (lv_at hl 6 rfl) ?_
          refine lv_if_ne (tgt := 88) hx hb dX1_findGap_80 (by decide) (fun c80 => ?_) (fun c80 => ?_)
          · refine lv_lload hx hb dX1_findGap_88 (lv_at hl 1 rfl) ?_
            refine x_ri (va_runS (As := [.long ((st i) - bef)]) (rest := []) ⟨hx, hb, hml, hown, hts⟩ (ct_X1_wholeMinutes l G ((st i) - bef)) (va_cwS 1 hts gX1_findGap_X1_wholeMinutes rfl rfl rfl (by decide +kernel) ⟨Nat.le_of_ble_eq_true rfl, Nat.le_of_ble_eq_true rfl⟩) (RdP.preS (fun k q h => by simp at h) hE) rfl rfl hl.1 rfl (lv_room (Nat.le_of_ble_eq_true rfl)) dX1_findGap_90 ⟨Nat.zero_le _, Nat.zero_le _⟩) (fun r2 er2 => ?_)
            subst er2
            exact W.iret (v := (f_mins ((st i) - bef))) hx hb hr (fun t ht hW => ⟨_, rfl, by rw [← hv]; simp only [f_gapF, if_neg c25, if_pos c35, if_pos c69, if_pos c76, if_neg c80], ht⟩) t_nil dX1_findGap_93
          refine lv_iload hx hb dX1_findGap_83 (lv_at hl 2 rfl) ?_
          refine lv_goto (tgt := 93) hx hb dX1_findGap_85 (by decide) ?_
          exact W.iret (v := (nI i)) hx hb hr (fun t ht hW => ⟨_, rfl, by rw [← hv]; simp only [f_gapF, if_neg c25, if_pos c35, if_pos c69, if_pos c76, if_pos c80], ht⟩) t_nil dX1_findGap_93
        refine lv_goto (tgt := 97) hx hb dX1_findGap_72 (by decide) ?_
        refine lv_iinc (v := (nI (i + 1))) (lv' := [(6, .int (nI (i + 1))), (4, .long (st i)), (7, .long ((st i) - bef)), (3, .int left), (0, .ref h0), (1, .int kk), (2, .int what)]) hx hb dX1_findGap_97 hl (k := 2) rfl (nI_1 i) (by decide) rfl (fun ls hl => ?_)
        refine lv_goto (tgt := 10) hx hb dX1_findGap_100 (by decide) ?_
        exact ih ls (i + 1) (st i) left (lv_sub hl [0, 1, 3, 4, 5, 6] rfl) (by omega) (by simpa only [f_gapF, if_neg c25, if_pos c35, if_neg c69] using hv)
      refine lv_lconst (v := 0) hx hb dX1_findGap_38 (by decide) ?_
      refine lv_goto (tgt := 52) hx hb dX1_findGap_39 (by decide) ?_
      refine lv_lstore (lv' := [(7, .long 0), (6, .int (nI i)), (4, .long bef), (3, .int left), (0, .ref h0), (1, .int kk), (2, .int what)]) hx hb dX1_findGap_52 hl (by decide) rfl (fun ls hl => ?_)
      refine lv_aload_n hx hb dX1_findGap_54 rfl (lv_at hl 4 rfl) ?_
      refine va_get (D := G.1) (ci := 2) (v := .ref h2) (C := RX1) (T := TX1) (N := 7) hx hb hts hiX1 hown hE.1 hP 0 rfl rfl 2 (by decide) (hts (.fieldLink RX1 19 "MeterSeals$Rows" "stamps" "[J") (by decide +kernel)) (fun _ h9 => h9) rfl dX1_findGap_55 ?_
      refine lv_iload hx hb dX1_findGap_58 (lv_at hl 1 rfl) ?_
      refine va_lald hx hb hE.1 hP 2 1 rfl rfl (vp_in_nI (show i < 200 by omega) (by decide)) dX1_findGap_60 ?_
      rw [nI_clamp (show i < 2 ^ 31 by omega)]
      refine lv_lstore (lv' := [(4, .long (st i)), (7, .long 0), (6, .int (nI i)), (3, .int left), (0, .ref h0), (1, .int kk), (2, .int what)]) hx hb dX1_findGap_61 hl (by decide) rfl (fun ls hl => ?_)
      refine lv_lload hx hb dX1_findGap_63 (lv_at hl 1 rfl) ?_
      refine lv_ldc2 (v := 3600) hx hb hown (hts (.constantLong RX1 67 3600) (by decide +kernel)) dX1_findGap_65 ?_
      refine x_lgt (tgt := 75) hx hb dX1_findGap_68 dX1_findGap_69 (by decide) (fun c69 => absurd c69 (by decide)) (fun c69 => ?_)
      refine lv_goto (tgt := 97) hx hb dX1_findGap_72 (by decide) ?_
      refine lv_iinc (v := (nI (i + 1))) (lv' := [(6, .int (nI (i + 1))), (4, .long (st i)), (7, .long 0), (3, .int left), (0, .ref h0), (1, .int kk), (2, .int what)]) hx hb dX1_findGap_97 hl (k := 2) rfl (nI_1 i) (by decide) rfl (fun ls hl => ?_)
      refine lv_goto (tgt := 10) hx hb dX1_findGap_100 (by decide) ?_
      exact ih ls (i + 1) (st i) left (lv_sub hl [0, 1, 3, 4, 5, 6] rfl) (by omega) (by simpa only [f_gapF, if_neg c25, if_neg c35] using hv)
    refine lv_goto (tgt := 97) hx hb dX1_findGap_28 (by decide) ?_
    refine lv_iinc (v := (nI (i + 1))) (lv' := [(6, .int (nI (i + 1))), (4, .long bef), (3, .int left), (0, .ref h0), (1, .int kk), (2, .int what)]) hx hb dX1_findGap_97 hl (k := 0) rfl (nI_1 i) (by decide) rfl (fun ls hl => ?_)
    refine lv_goto (tgt := 10) hx hb dX1_findGap_100 (by decide) ?_
    exact ih ls (i + 1) bef left (lv_sub hl [0, 1, 2, 3, 4, 5] rfl) (by omega) (by simpa only [f_gapF, if_pos c25] using hv)

set_option maxHeartbeats 4000000 in
set_option maxRecDepth 100000 in
/-- commonDivisor -/
theorem ct_X3_commonDivisor (l : Launch) (G : Gx) (a b : Nat) (ha : a < 2 ^ 62) (hb14 : b < 2 ^ 14) : Met l yX3_commonDivisor wsX3_commonDivisor ({ frames := 0, cells := 0, slots := 0, locals := 0 }) (RdP G [] [.long (lN a), .long (lN b)]) (vp_Sl (fun r => r = lN (Nat.gcd a b))) 0 0 (fun _ => False) := by
  refine Met.ofW (cc := cX3_commonDivisor) (maxL := 11) (ret := (some .long)) (by decide) rfl ?_
  intro p e s m args below meth c s₁ B hml hv
  obtain ⟨rfl, hP, hE⟩ := hv
  have hx := B.exec
  have hb := B.bytes
  have hr := B.returns
  have hts := atoms_spec (ws := wsX3_commonDivisor) B.pre
  have hown : s.vm.findClass RX3 = some m.cls := findClass_of_methodNamed B.named
  have hlocks := B.notSynchronized
  have hl := lv_entry ([.long (lN a), .long (lN b)]) (n := 11) (Nat.le_of_ble_eq_true rfl)
  rw [lg_entry_eq]
  generalize (lg_sl ([.long (lN a), .long (lN b)]) ++ List.replicate (11 - (lg_sl ([.long (lN a), .long (lN b)])).length) Slot.unset).toArray = ls at hl ⊢
  replace hl : lv_has ls 11 [(0, .long (lN a)), (2, .long (lN b))] := hl
  refine lv_lload_n hx hb dX3_commonDivisor_0 rfl (lv_at hl 0 rfl) ?_
  refine lv_lstore (lv' := [(4, .long (lN a)), (0, .long (lN a)), (2, .long (lN b))]) hx hb dX3_commonDivisor_1 hl (by decide) rfl (fun ls hl => ?_)
  refine lv_lload_n hx hb dX3_commonDivisor_3 rfl (lv_at hl 2 rfl) ?_
  refine lv_lstore (lv' := [(6, .long (lN b)), (4, .long (lN a)), (0, .long (lN a)), (2, .long (lN b))]) hx hb dX3_commonDivisor_4 hl (by decide) rfl (fun ls hl => ?_)
  refine lv_iconst (v := 0) hx hb dX3_commonDivisor_6 (by decide) ?_
  refine lv_istore (lv' := [(8, .int 0), (6, .long (lN b)), (4, .long (lN a)), (0, .long (lN a)), (2, .long (lN b))]) hx hb dX3_commonDivisor_7 hl (by decide) rfl (fun ls hl => ?_)
  obtain ⟨i, hi⟩ : ∃ i : Nat, i = 0 := ⟨_, rfl⟩
  obtain ⟨x, hx0⟩ : ∃ x : Nat, x = a := ⟨_, rfl⟩
  obtain ⟨y, hy0⟩ : ∃ y : Nat, y = b := ⟨_, rfl⟩
  replace hl : lv_has ls 11 [(8, .int (nI i)), (6, .long (lN y)), (4, .long (lN x)), (0, .long (lN a)), (2, .long (lN b))] := by rw [hi, hx0, hy0]; exact hl
  have hxb : x < 2 ^ 62 := by omega
  have hyb : y < 2 ^ 62 := by omega
  have hI : cd_I i x y := Or.inl hi
  have hg : Nat.gcd x y = Nat.gcd a b := by rw [hx0, hy0]
  have hb4 : i = 0 → y < 2 ^ 14 := fun _ => by omega
  clear hi hx0 hy0
  induction y using Nat.strongRecOn generalizing i ls x with
  | _ y ih =>
    refine lv_iload hx hb dX3_commonDivisor_9 (lv_at hl 0 rfl) ?_
    refine lv_bipush (v := 100) hx hb dX3_commonDivisor_11 (by decide) ?_
    refine lv_icmp_ge (tgt := 44) hx hb dX3_commonDivisor_13 (by decide) (fun c13 => absurd c13 (nI_ge (a := i) (b := 100) (by have := cd_i hI; omega) (by decide))) (fun c13 => ?_)
    refine lv_lload hx hb dX3_commonDivisor_16 (lv_at hl 1 rfl) ?_
    refine lv_lconst (v := 0) hx hb dX3_commonDivisor_18 (by decide) ?_
    refine x_leq (tgt := 44) hx hb dX3_commonDivisor_19 dX3_commonDivisor_20 (by decide) (fun c20 => ?_) (fun c20 => ?_)
    · have hy : y = 0 := (pk_lEQ (show y < 2 ^ 63 by omega) (by decide)).mp c20
      refine lv_lload hx hb dX3_commonDivisor_44 (lv_at hl 2 rfl) ?_
      exact W.lret (v := (lN x)) hx hb hr (fun t ht hW => ⟨_, rfl, by rw [← hg, hy, Nat.gcd_zero_right], ht⟩) t_nil dX3_commonDivisor_46
    have hy0 : 0 < y := Nat.pos_of_ne_zero (fun q => c20 (by rw [q]; rfl))
    refine lv_lload hx hb dX3_commonDivisor_23 (lv_at hl 2 rfl) ?_
    refine lv_lload hx hb dX3_commonDivisor_25 (lv_at hl 1 rfl) ?_
    refine lv_lrem hx hb dX3_commonDivisor_27 c20 ?_
    rw [pk_lRem (show x < 2 ^ 63 by omega) hy0 (show y < 2 ^ 63 by omega)]
    refine lv_lstore (lv' := [(9, .long (lN (x % y))), (8, .int (nI i)), (6, .long (lN y)), (4, .long (lN x)), (0, .long (lN a)), (2, .long (lN b))]) hx hb dX3_commonDivisor_28 hl (by decide) rfl (fun ls hl => ?_)
    refine lv_lload hx hb dX3_commonDivisor_30 (lv_at hl 2 rfl) ?_
    refine lv_lstore (lv' := [(4, .long (lN y)), (9, .long (lN (x % y))), (8, .int (nI i)), (6, .long (lN y)), (0, .long (lN a)), (2, .long (lN b))]) hx hb dX3_commonDivisor_32 hl (by decide) rfl (fun ls hl => ?_)
    refine lv_lload hx hb dX3_commonDivisor_34 (lv_at hl 1 rfl) ?_
    refine lv_lstore (lv' := [(6, .long (lN (x % y))), (4, .long (lN y)), (9, .long (lN (x % y))), (8, .int (nI i)), (0, .long (lN a)), (2, .long (lN b))]) hx hb dX3_commonDivisor_36 hl (by decide) rfl (fun ls hl => ?_)
    refine lv_iinc (v := (nI (i + 1))) (lv' := [(8, .int (nI (i + 1))), (6, .long (lN (x % y))), (4, .long (lN y)), (9, .long (lN (x % y))), (0, .long (lN a)), (2, .long (lN b))]) hx hb dX3_commonDivisor_38 hl (k := 3) rfl (nI_1 i) (by decide) rfl (fun ls hl => ?_)
    refine lv_goto (tgt := 9) hx hb dX3_commonDivisor_41 (by decide) ?_
    exact ih (x % y) (Nat.mod_lt x hy0) ls (i + 1) y (lv_sub hl [0, 1, 2, 4, 5] rfl) (by omega) (by have := Nat.mod_lt x hy0; omega) (cd_step hI hb4 hy0) (by rw [← hg, Nat.gcd_comm y (x % y), ← Nat.gcd_rec y x, Nat.gcd_comm]) (fun q => absurd q (Nat.succ_ne_zero i))
end
section
/-! DECIMAL TEXTS -/
def ab (x : Int64) : Nat := x.toInt.natAbs
theorem ab_0 {x : Int64} : ab x = 0 ↔ x = 0 := by
  unfold ab
  rw [Int.natAbs_eq_zero]
  exact ⟨fun h => Int64.toInt_inj.mp (h.trans rfl), fun h => by rw [h]; rfl⟩
theorem ab_le (x : Int64) : ab x ≤ 2 ^ 63 := by
  unfold ab
  have h1 := Int64.le_toInt x
  have h2 := Int64.toInt_lt x
  omega
theorem div10 (x : Int64) : (x / 10).toInt = x.toInt.tdiv 10 := by
  rw [Int64.toInt_div, show (10 : Int64).toInt = 10 from rfl]
  have h1 := Int64.le_toInt x
  have h2 := Int64.toInt_lt x
  have e : (x.toInt.tdiv 10).natAbs = x.toInt.natAbs / 10 := by rw [Int.natAbs_tdiv]; rfl
  apply Int.bmod_eq_of_le <;> omega
theorem ab_div (x : Int64) : ab (x / 10) = ab x / 10 := by
  unfold ab
  rw [div10, Int.natAbs_tdiv]
  rfl
theorem ab10 (x : Int64) : ab x / 10 < 10 ^ 18 := by
  have := ab_le x
  have e : (10 : Nat) ^ 18 = 1000000000000000000 := rfl
  have e2 : (2 : Nat) ^ 63 = 9223372036854775808 := rfl
  omega
theorem ab_lt19 (x : Int64) : ab x < 10 ^ 19 := by
  have := ab_le x
  have e : (10 : Nat) ^ 19 = 10000000000000000000 := rfl
  have e2 : (2 : Nat) ^ 63 = 9223372036854775808 := rfl
  omega
def nlF : Nat → Nat → Nat
  | 0, _ => 0
  | f + 1, a => if a = 0 then 0 else nlF f (a / 10) + 1
def nl (a : Nat) : Nat := nlF 20 a
theorem nlF_more : ∀ (f a : Nat), a < 10 ^ f → nlF (f + 1) a = nlF f a := by
  intro f
  induction f with
  | zero =>
    intro a h
    have : a = 0 := by simpa using h
    subst this
    rfl
  | succ f ih =>
    intro a h
    unfold nlF
    split
    · rfl
    · rw [ih (a / 10) (by rw [Nat.div_lt_iff_lt_mul (by decide), ← Nat.pow_succ]; exact h)]
theorem nl_pos {a : Nat} (h : a < 10 ^ 19) (h0 : ¬ a = 0) : nl a = nl (a / 10) + 1 := by
  unfold nl
  have h1 : a / 10 < 10 ^ 19 := Nat.lt_of_le_of_lt (Nat.div_le_self a 10) h
  rw [nlF_more 19 (a / 10) h1]
  conv => lhs; unfold nlF
  rw [if_neg h0]
def f_len (v : Int64) : Nat := (if 0 ≤ v then 1 else 2) + nl (ab v / 10)
def f_bh (v : Int64) (at_ : Int32) : Int32 := nI (f_len v) - 1 - at_
def f_divs : Nat → Int64 → Int64
  | 0, x => x
  | k + 1, x => f_divs k (x / 10)
def f_tbF (x : Int64) : Int32 := 48 + (if 0 < x - x / 10 * 10 then x - x / 10 * 10 else -(x - x / 10 * 10)).toInt32
def f_tb (v : Int64) (at_ : Int32) : Int32 := if 0 ≤ v then f_tbF (f_divs (f_bh v at_).toNatClampNeg v) else if at_ = 0 then 45 else f_tbF (f_divs (f_bh v at_).toNatClampNeg v)
def bk_I (k : Nat) (b : Int32) : Prop := (k = 0 ∧ b ≤ 0) ∨ (b = nI k ∧ k < 2 ^ 31)
theorem bk_of {k : Nat} {b : Int32} (h : k = b.toNatClampNeg) : bk_I k b := by
  subst h
  by_cases h0 : b < 0
  · refine Or.inl ⟨?_, Int32.le_of_lt h0⟩
    have : b.toInt < 0 := by rw [Int32.lt_iff_toInt_lt] at h0; exact h0
    show b.toInt.toNat = 0
    omega
  · obtain ⟨j, hj, rfl⟩ := nI_of h0
    exact Or.inr ⟨by rw [nI_clamp hj], by rw [nI_clamp hj]; exact hj⟩
theorem bk_0 {b : Int32} (h : bk_I 0 b) : b ≤ 0 := by
  rcases h with h | ⟨rfl, h⟩
  · exact h.2
  · decide
theorem bk_1 {k : Nat} {b : Int32} (h : bk_I (k + 1) b) : ¬ b ≤ 0 := by
  rcases h with h | ⟨rfl, h⟩
  · exact absurd h.1 (Nat.succ_ne_zero k)
  · exact nI_nle (Nat.succ_pos k) h
theorem bk_s {k : Nat} {b : Int32} (h : bk_I (k + 1) b) : bk_I k (b - 1) := by
  rcases h with h | ⟨rfl, h⟩
  · exact absurd h.1 (Nat.succ_ne_zero k)
  · exact Or.inr ⟨nI_pred k, by omega⟩
def f_ll (n : Nat) (nu st : Nat → Int64) (de : Nat → Int32) (mk : Nat → Int32) (row : Int32) : Int32 :=
  if f_isR n st row = 0 then (if f_mark n mk row = 0 then 1 + (1 + nI (f_len (f_fld n nu st de row 0))) + 0 + 1 else 1 + (1 + nI (f_len (f_fld n nu st de row 0))) + 2 + 1)
  else (if f_mark n mk row = 0 then 1 + (1 + nI (f_len (f_fld n nu st de row 0))) + (1 + nI (f_len (f_fld n nu st de row 1))) + (1 + nI (f_len (f_fld n nu st de row 2))) + 0 + 1
    else 1 + (1 + nI (f_len (f_fld n nu st de row 0))) + (1 + nI (f_len (f_fld n nu st de row 1))) + (1 + nI (f_len (f_fld n nu st de row 2))) + 2 + 1)
def f_lbF (md : Int32) : List Int64 → Int32 → Int32
  | [], x => if md = 0 then 10 else if 2 ≤ x then 10 else if x = 0 then 32 else 42
  | v :: vs, x => if 1 + nI (f_len v) ≤ x then f_lbF md vs (x - (1 + nI (f_len v))) else if x = 0 then 32 else f_tb v (x - 1)
def f_lb (n : Nat) (nu st : Nat → Int64) (de : Nat → Int32) (mk : Nat → Int32) (row at_ : Int32) : Int32 :=
  if at_ = 0 then f_let n st row else if f_isR n st row = 0 then f_lbF (f_mark n mk row) [f_fld n nu st de row 0] (at_ - 1) else f_lbF (f_mark n mk row) [f_fld n nu st de row 0, f_fld n nu st de row 1, f_fld n nu st de row 2] (at_ - 1)
def f_rollF (n : Nat) (nu st : Nat → Int64) (de : Nat → Int32) (mk : Nat → Int32) : Nat → Nat → Int32 → Int32
  | 0, _, _ => -1
  | k + 1, i, left => if f_ll n nu st de mk (nI i) ≤ left then f_rollF n nu st de mk k (i + 1) (left - f_ll n nu st de mk (nI i)) else f_lb n nu st de mk (nI i) left
def f_roll (n : Nat) (nu st : Nat → Int64) (de : Nat → Int32) (mk : Nat → Int32) (ix : Int32) : Int32 := if 0 ≤ ix then f_rollF n nu st de mk n 0 ix else -1
def f_put (n : Nat) (ts : Nat → Int32) (d : Int32) (a b : Int64) : Int32 :=
  if f_within d.toInt64 (-50) 150 = 0 then 0 else if f_within a 1 10000 = 0 then 0 else if f_within b 1 10000 = 0 then 0 else if f_place n ts d < 16 then 1 else 0
theorem f_placeF_or (n : Nat) (ts : Nat → Int32) (d : Int32) : ∀ (k i : Nat), i + k = n → ∃ j : Nat, i ≤ j ∧ j ≤ n ∧ f_placeF n ts d k i = nI j ∧ (j < n → ts j = d) ∧ (∀ q, i ≤ q → q < j → ¬ ts q = d) := by
  intro k
  induction k with
  | zero => intro i h; exact ⟨n, by omega, Nat.le_refl _, rfl, fun q => absurd q (Nat.lt_irrefl _), fun q h1 h2 => by omega⟩
  | succ k ih =>
    intro i h
    unfold f_placeF
    split
    · rename_i h1
      exact ⟨i, Nat.le_refl _, by omega, rfl, fun _ => h1, fun q h1 h2 => by omega⟩
    · rename_i h1
      obtain ⟨j, a, b, c, d1, e⟩ := ih (i + 1) (by omega)
      refine ⟨j, by omega, b, c, d1, fun q h2 h3 => ?_⟩
      by_cases hq : q = i
      · rw [hq]; exact h1
      · exact e q (by omega) h3
theorem fplace_or (n : Nat) (ts : Nat → Int32) (d : Int32) : ∃ j : Nat, j ≤ n ∧ f_place n ts d = nI j ∧ (j < n → ts j = d) ∧ (∀ q, q < j → ¬ ts q = d) := by
  obtain ⟨j, -, b, c, d1, e⟩ := f_placeF_or n ts d n 0 (by omega)
  exact ⟨j, b, c, d1, fun q h => e q (Nat.zero_le _) h⟩
theorem place_in {n : Nat} {ts : Nat → Int32} {d : Int32} (hc : n ≤ 16) (h : f_place n ts d < 16) : vp_in (f_place n ts d) 16 := by
  obtain ⟨j, b, c, -, -⟩ := fplace_or n ts d
  rw [c] at h ⊢
  exact vp_in_nI ((nI_ltI (b := 16) (by omega) (by decide)).mp h) (by decide)
end
section
set_option maxHeartbeats 4000000 in
set_option maxRecDepth 100000 in
/-- textLength -/
theorem ct_X3_textLength (l : Launch) (G : Gx) (v : Int64) : Met l yX3_textLength wsX3_textLength ({ frames := 0, cells := 0, slots := 0, locals := 0 }) (RdP G [] [.long v]) (vp_Si (fun r => r = nI (f_len v))) 0 0 (fun _ => False) := by
  refine Met.ofW (cc := cX3_textLength) (maxL := 6) (ret := (some .int)) (by decide) rfl ?_
  intro p e s m args below meth c s₁ B hml hv
  obtain ⟨rfl, hP, hE⟩ := hv
  have hx := B.exec
  have hb := B.bytes
  have hr := B.returns
  have hts := atoms_spec (ws := wsX3_textLength) B.pre
  have hown : s.vm.findClass RX3 = some m.cls := findClass_of_methodNamed B.named
  have hlocks := B.notSynchronized
  have hl := lv_entry ([.long v]) (n := 6) (Nat.le_of_ble_eq_true rfl)
  rw [lg_entry_eq]
  generalize (lg_sl ([.long v]) ++ List.replicate (6 - (lg_sl ([.long v])).length) Slot.unset).toArray = ls at hl ⊢
  replace hl : lv_has ls 6 [(0, .long v)] := hl
  refine lv_lload_n hx hb dX3_textLength_0 rfl (lv_at hl 0 rfl) ?_
  refine lv_lconst (v := 0) hx hb dX3_textLength_1 (by decide) ?_
  refine x_lge (tgt := 10) hx hb dX3_textLength_2 dX3_textLength_3 (by decide) (fun c3 => ?_) (fun c3 => ?_)
  · refine lv_iconst (v := 1) hx hb dX3_textLength_10 (by decide) ?_
    refine lv_istore_n (lv' := [(2, .int 1), (0, .long v)]) hx hb dX3_textLength_11 rfl hl (by decide) rfl (fun ls hl => ?_)
    refine lv_lload_n hx hb dX3_textLength_12 rfl (lv_at hl 1 rfl) ?_
    refine lv_ldc2 (v := 10) hx hb hown (hts (.constantLong RX3 106 10) (by decide +kernel)) dX3_textLength_13 ?_
    refine lv_ldiv hx hb dX3_textLength_16 (by decide) ?_
    refine lv_lstore_n (lv' := [(3, .long (v / 10)), (2, .int 1), (0, .long v)]) hx hb dX3_textLength_17 rfl hl (by decide) rfl (fun ls hl => ?_)
    refine lv_iconst (v := 0) hx hb dX3_textLength_18 (by decide) ?_
    refine lv_istore (lv' := [(5, .int 0), (3, .long (v / 10)), (2, .int 1), (0, .long v)]) hx hb dX3_textLength_19 hl (by decide) rfl (fun ls hl => ?_)
    obtain ⟨i, hi⟩ : ∃ i : Nat, i = 0 := ⟨_, rfl⟩
    obtain ⟨len, hle⟩ : ∃ i : Nat, i = 1 := ⟨_, rfl⟩
    obtain ⟨left, hlf⟩ : ∃ x : Int64, x = v / 10 := ⟨_, rfl⟩
    replace hl : lv_has ls 6 [(5, .int (nI i)), (3, .long left), (2, .int (nI len)), (0, .long v)] := by rw [hi, hle, hlf]; exact hl
    obtain ⟨k, hk⟩ : ∃ k : Nat, i + k = 18 := ⟨18, by omega⟩
    have hlt : ab left < 10 ^ k := by rw [hlf, ab_div, show k = 18 by omega]; exact ab10 v
    have hv : len + nl (ab left) = f_len v := by rw [hlf, ab_div, hle, f_len, if_pos c3]
    clear hi hle hlf
    induction k generalizing i ls len left with
    | zero =>
      refine lv_iload hx hb dX3_textLength_21 (lv_at hl 0 rfl) ?_
      refine lv_bipush (v := 19) hx hb dX3_textLength_23 (by decide) ?_
      refine lv_icmp_ge (tgt := 49) hx hb dX3_textLength_25 (by decide) (fun c25 => absurd c25 (nI_ge (a := i) (b := 19) (by omega) (by decide))) (fun c25 => ?_)
      refine lv_lload_n hx hb dX3_textLength_28 rfl (lv_at hl 1 rfl) ?_
      refine lv_lconst (v := 0) hx hb dX3_textLength_29 (by decide) ?_
      refine x_leq (tgt := 49) hx hb dX3_textLength_30 dX3_textLength_31 (by decide) (fun c31 => ?_) (fun c31 => absurd (ab_0.mp (by simpa using hlt)) c31)
      refine lv_iload_n hx hb dX3_textLength_49 rfl (lv_at hl 2 rfl) ?_
      exact W.iret (v := (nI len)) hx hb hr (fun t ht hW => ⟨_, rfl, by rw [← hv, ab_0.mpr c31]; rfl, ht⟩) t_nil dX3_textLength_50
    | succ k ih =>
      refine lv_iload hx hb dX3_textLength_21 (lv_at hl 0 rfl) ?_
      refine lv_bipush (v := 19) hx hb dX3_textLength_23 (by decide) ?_
      refine lv_icmp_ge (tgt := 49) hx hb dX3_textLength_25 (by decide) (fun c25 => absurd c25 (nI_ge (a := i) (b := 19) (by omega) (by decide))) (fun c25 => ?_)
      refine lv_lload_n hx hb dX3_textLength_28 rfl (lv_at hl 1 rfl) ?_
      refine lv_lconst (v := 0) hx hb dX3_textLength_29 (by decide) ?_
      refine x_leq (tgt := 49) hx hb dX3_textLength_30 dX3_textLength_31 (by decide) (fun c31 => ?_) (fun c31 => ?_)
      · refine lv_iload_n hx hb dX3_textLength_49 rfl (lv_at hl 2 rfl) ?_
        exact W.iret (v := (nI len)) hx hb hr (fun t ht hW => ⟨_, rfl, by rw [← hv, ab_0.mpr c31]; rfl, ht⟩) t_nil dX3_textLength_50
      refine lv_iinc (v := (nI (len + 1))) (lv' := [(2, .int (nI (len + 1))), (5, .int (nI i)), (3, .long left), (0, .long v)]) hx hb dX3_textLength_34 hl (k := 2) rfl (nI_1 len) (by decide) rfl (fun ls hl => ?_)
      refine lv_lload_n hx hb dX3_textLength_37 rfl (lv_at hl 2 rfl) ?_
      refine lv_ldc2 (v := 10) hx hb hown (hts (.constantLong RX3 106 10) (by decide +kernel)) dX3_textLength_38 ?_
      refine lv_ldiv hx hb dX3_textLength_41 (by decide) ?_
      refine lv_lstore_n (lv' := [(3, .long (left / 10)), (2, .int (nI (len + 1))), (5, .int (nI i)), (0, .long v)]) hx hb dX3_textLength_42 rfl hl (by decide) rfl (fun ls hl => ?_)
      refine lv_iinc (v := (nI (i + 1))) (lv' := [(5, .int (nI (i + 1))), (3, .long (left / 10)), (2, .int (nI (len + 1))), (0, .long v)]) hx hb dX3_textLength_43 hl (k := 2) rfl (nI_1 i) (by decide) rfl (fun ls hl => ?_)
      refine lv_goto (tgt := 21) hx hb dX3_textLength_46 (by decide) ?_
      exact ih ls (i + 1) (len + 1) (left / 10) (lv_sub hl [0, 1, 2, 3] rfl) (by omega) (by rw [ab_div, Nat.div_lt_iff_lt_mul (by decide)]; rw [Nat.pow_succ] at hlt; exact hlt) (by rw [ab_div, ← hv, nl_pos (ab_lt19 left) (fun q => c31 (ab_0.mp q))]; omega)
  refine lv_iconst (v := 2) hx hb dX3_textLength_6 (by decide) ?_
  refine lv_goto (tgt := 11) hx hb dX3_textLength_7 (by decide) ?_
  refine lv_istore_n (lv' := [(2, .int 2), (0, .long v)]) hx hb dX3_textLength_11 rfl hl (by decide) rfl (fun ls hl => ?_)
  refine lv_lload_n hx hb dX3_textLength_12 rfl (lv_at hl 1 rfl) ?_
  refine lv_ldc2 (v := 10) hx hb hown (hts (.constantLong RX3 106 10) (by decide +kernel)) dX3_textLength_13 ?_
  refine lv_ldiv hx hb dX3_textLength_16 (by decide) ?_
  refine lv_lstore_n (lv' := [(3, .long (v / 10)), (2, .int 2), (0, .long v)]) hx hb dX3_textLength_17 rfl hl (by decide) rfl (fun ls hl => ?_)
  refine lv_iconst (v := 0) hx hb dX3_textLength_18 (by decide) ?_
  refine lv_istore (lv' := [(5, .int 0), (3, .long (v / 10)), (2, .int 2), (0, .long v)]) hx hb dX3_textLength_19 hl (by decide) rfl (fun ls hl => ?_)
  obtain ⟨i, hi⟩ : ∃ i : Nat, i = 0 := ⟨_, rfl⟩
  obtain ⟨len, hle⟩ : ∃ i : Nat, i = 2 := ⟨_, rfl⟩
  obtain ⟨left, hlf⟩ : ∃ x : Int64, x = v / 10 := ⟨_, rfl⟩
  replace hl : lv_has ls 6 [(5, .int (nI i)), (3, .long left), (2, .int (nI len)), (0, .long v)] := by rw [hi, hle, hlf]; exact hl
  obtain ⟨k, hk⟩ : ∃ k : Nat, i + k = 18 := ⟨18, by omega⟩
  have hlt : ab left < 10 ^ k := by rw [hlf, ab_div, show k = 18 by omega]; exact ab10 v
  have hv : len + nl (ab left) = f_len v := by rw [hlf, ab_div, hle, f_len, if_neg c3]
  clear hi hle hlf
  induction k generalizing i ls len left with
  | zero =>
    refine lv_iload hx hb dX3_textLength_21 (lv_at hl 0 rfl) ?_
    refine lv_bipush (v := 19) hx hb dX3_textLength_23 (by decide) ?_
    refine lv_icmp_ge (tgt := 49) hx hb dX3_textLength_25 (by decide) (fun c25 => absurd c25 (nI_ge (a := i) (b := 19) (by omega) (by decide))) (fun c25 => ?_)
    refine lv_lload_n hx hb dX3_textLength_28 rfl (lv_at hl 1 rfl) ?_
    refine lv_lconst (v := 0) hx hb dX3_textLength_29 (by decide) ?_
    refine x_leq (tgt := 49) hx hb dX3_textLength_30 dX3_textLength_31 (by decide) (fun c31 => ?_) (fun c31 => absurd (ab_0.mp (by simpa using hlt)) c31)
    refine lv_iload_n hx hb dX3_textLength_49 rfl (lv_at hl 2 rfl) ?_
    exact W.iret (v := (nI len)) hx hb hr (fun t ht hW => ⟨_, rfl, by rw [← hv, ab_0.mpr c31]; rfl, ht⟩) t_nil dX3_textLength_50
  | succ k ih =>
    refine lv_iload hx hb dX3_textLength_21 (lv_at hl 0 rfl) ?_
    refine lv_bipush (v := 19) hx hb dX3_textLength_23 (by decide) ?_
    refine lv_icmp_ge (tgt := 49) hx hb dX3_textLength_25 (by decide) (fun c25 => absurd c25 (nI_ge (a := i) (b := 19) (by omega) (by decide))) (fun c25 => ?_)
    refine lv_lload_n hx hb dX3_textLength_28 rfl (lv_at hl 1 rfl) ?_
    refine lv_lconst (v := 0) hx hb dX3_textLength_29 (by decide) ?_
    refine x_leq (tgt := 49) hx hb dX3_textLength_30 dX3_textLength_31 (by decide) (fun c31 => ?_) (fun c31 => ?_)
    · refine lv_iload_n hx hb dX3_textLength_49 rfl (lv_at hl 2 rfl) ?_
      exact W.iret (v := (nI len)) hx hb hr (fun t ht hW => ⟨_, rfl, by rw [← hv, ab_0.mpr c31]; rfl, ht⟩) t_nil dX3_textLength_50
    refine lv_iinc (v := (nI (len + 1))) (lv' := [(2, .int (nI (len + 1))), (5, .int (nI i)), (3, .long left), (0, .long v)]) hx hb dX3_textLength_34 hl (k := 2) rfl (nI_1 len) (by decide) rfl (fun ls hl => ?_)
    refine lv_lload_n hx hb dX3_textLength_37 rfl (lv_at hl 2 rfl) ?_
    refine lv_ldc2 (v := 10) hx hb hown (hts (.constantLong RX3 106 10) (by decide +kernel)) dX3_textLength_38 ?_
    refine lv_ldiv hx hb dX3_textLength_41 (by decide) ?_
    refine lv_lstore_n (lv' := [(3, .long (left / 10)), (2, .int (nI (len + 1))), (5, .int (nI i)), (0, .long v)]) hx hb dX3_textLength_42 rfl hl (by decide) rfl (fun ls hl => ?_)
    refine lv_iinc (v := (nI (i + 1))) (lv' := [(5, .int (nI (i + 1))), (3, .long (left / 10)), (2, .int (nI (len + 1))), (0, .long v)]) hx hb dX3_textLength_43 hl (k := 2) rfl (nI_1 i) (by decide) rfl (fun ls hl => ?_)
    refine lv_goto (tgt := 21) hx hb dX3_textLength_46 (by decide) ?_
    exact ih ls (i + 1) (len + 1) (left / 10) (lv_sub hl [0, 1, 2, 3] rfl) (by omega) (by rw [ab_div, Nat.div_lt_iff_lt_mul (by decide)]; rw [Nat.pow_succ] at hlt; exact hlt) (by rw [ab_div, ← hv, nl_pos (ab_lt19 left) (fun q => c31 (ab_0.mp q))]; omega)

set_option maxHeartbeats 4000000 in
set_option maxRecDepth 100000 in
/-- textByte -/
theorem ct_X3_textByte (l : Launch) (G : Gx) (v : Int64) (at_ : Int32) : Met l yX3_textByte wsX3_textByte ({ frames := 1, cells := 0, slots := 0, locals := 25 }) (RdP G [] [.long v, .int at_]) (vp_Si (fun r => r = f_tb v at_)) 0 0 (fun _ => False) := by
  refine Met.ofW (cc := cX3_textByte) (maxL := 6) (ret := (some .int)) (by decide) rfl ?_
  intro p e s m args below meth c s₁ B hml hv
  obtain ⟨rfl, hP, hE⟩ := hv
  have hx := B.exec
  have hb := B.bytes
  have hr := B.returns
  have hts := atoms_spec (ws := wsX3_textByte) B.pre
  have hown : s.vm.findClass RX3 = some m.cls := findClass_of_methodNamed B.named
  have hlocks := B.notSynchronized
  have hl := lv_entry ([.long v, .int at_]) (n := 6) (Nat.le_of_ble_eq_true rfl)
  rw [lg_entry_eq]
  generalize (lg_sl ([.long v, .int at_]) ++ List.replicate (6 - (lg_sl ([.long v, .int at_])).length) Slot.unset).toArray = ls at hl ⊢
  replace hl : lv_has ls 6 [(0, .long v), (2, .int at_)] := hl
  refine lv_lload_n hx hb dX3_textByte_0 rfl (lv_at hl 0 rfl) ?_
  refine lv_lconst (v := 0) hx hb dX3_textByte_1 (by decide) ?_
  refine x_lge (tgt := 13) hx hb dX3_textByte_2 dX3_textByte_3 (by decide) (fun c3 => ?_) (fun c3 => ?_)
  · refine lv_lload_n hx hb dX3_textByte_13 rfl (lv_at hl 0 rfl) ?_
    refine lv_lstore_n (lv' := [(3, .long v), (0, .long v), (2, .int at_)]) hx hb dX3_textByte_14 rfl hl (by decide) rfl (fun ls hl => ?_)
    refine lv_lload_n hx hb dX3_textByte_15 rfl (lv_at hl 1 rfl) ?_
    refine x_ri (va_runS (As := [.long v]) (rest := []) ⟨hx, hb, hml, hown, hts⟩ (ct_X3_textLength l G v) (va_cwS 1 hts gX3_textByte_X3_textLength rfl rfl rfl (by decide +kernel) ⟨Nat.le_of_ble_eq_true rfl, Nat.le_of_ble_eq_true rfl⟩) (RdP.preS (fun k q h => by simp at h) hE) rfl rfl hl.1 rfl (lv_room (Nat.le_of_ble_eq_true rfl)) dX3_textByte_16 ⟨Nat.zero_le _, Nat.zero_le _⟩) (fun r1 er1 => ?_)
    subst er1
    refine lv_iconst (v := 1) hx hb dX3_textByte_19 (by decide) ?_
    refine lv_isub hx hb dX3_textByte_20 ?_
    refine lv_iload_n hx hb dX3_textByte_21 rfl (lv_at hl 2 rfl) ?_
    refine lv_isub hx hb dX3_textByte_22 ?_
    refine lv_istore (lv' := [(5, .int (((nI (f_len v)) - 1) - at_)), (3, .long v), (0, .long v), (2, .int at_)]) hx hb dX3_textByte_23 hl (by decide) rfl (fun ls hl => ?_)
    obtain ⟨beh, hbe⟩ : ∃ x : Int32, x = f_bh v at_ := ⟨_, rfl⟩
    obtain ⟨left, hlf⟩ : ∃ x : Int64, x = v := ⟨_, rfl⟩
    replace hl : lv_has ls 6 [(5, .int beh), (3, .long left), (0, .long v), (2, .int at_)] := by rw [hbe, hlf]; exact hl
    obtain ⟨k, hk0⟩ : ∃ k : Nat, k = beh.toNatClampNeg := ⟨_, rfl⟩
    have hk := bk_of hk0
    have hv : f_tbF (f_divs k left) = f_tb v at_ := by rw [hk0, hbe, hlf]; simp only [f_tb, if_pos c3]
    clear hk0 hbe hlf
    induction k generalizing ls beh left with
    | zero =>
      refine lv_iload hx hb dX3_textByte_25 (lv_at hl 0 rfl) ?_
      refine lv_if_le (tgt := 42) hx hb dX3_textByte_27 (by decide) (fun c27 => ?_) (fun c27 => absurd (bk_0 hk) c27)
      refine lv_bipush (v := 48) hx hb dX3_textByte_42 (by decide) ?_
      refine lv_lload_n hx hb dX3_textByte_44 rfl (lv_at hl 1 rfl) ?_
      refine lv_ldc2 (v := 10) hx hb hown (hts (.constantLong RX3 106 10) (by decide +kernel)) dX3_textByte_45 ?_
      refine lv_lrem hx hb dX3_textByte_48 (by decide) ?_
      refine va_mabs_long hx hb (hml.trans hl.1.symm) hown (hts (.methodLink RX3 112 Lib.MathLoose.abs_long.x) (by decide +kernel)) (hts (.static Lib.MathLoose.abs_long.x) (by decide +kernel)) (hts (.initialized "java/lang/Math") (by decide +kernel)) (hts (.code Lib.MathLoose.abs_long.x Lib.MathLoose.abs_long.code 2 (some .long)) (by decide +kernel)) (Nat.le_of_ble_eq_true rfl) (Nat.le_of_ble_eq_true rfl) (Nat.zero_le _) (Nat.zero_le _) dX3_textByte_49 ?_
      refine lv_l2i (v := (if 0 < (left - left / 10 * 10) then (left - left / 10 * 10) else -(left - left / 10 * 10)).toInt32) hx hb dX3_textByte_52 rfl ?_
      refine lv_iadd hx hb dX3_textByte_53 ?_
      exact W.iret (v := (48 + (if 0 < (left - left / 10 * 10) then (left - left / 10 * 10) else -(left - left / 10 * 10)).toInt32)) hx hb hr (fun t ht hW => ⟨_, rfl, by rw [← hv]; rfl, ht⟩) t_nil dX3_textByte_54
    | succ k ih =>
      refine lv_iload hx hb dX3_textByte_25 (lv_at hl 0 rfl) ?_
      refine lv_if_le (tgt := 42) hx hb dX3_textByte_27 (by decide) (fun c27 => absurd c27 (bk_1 hk)) (fun c27 => ?_)
      refine lv_lload_n hx hb dX3_textByte_30 rfl (lv_at hl 1 rfl) ?_
      refine lv_ldc2 (v := 10) hx hb hown (hts (.constantLong RX3 106 10) (by decide +kernel)) dX3_textByte_31 ?_
      refine lv_ldiv hx hb dX3_textByte_34 (by decide) ?_
      refine lv_lstore_n (lv' := [(3, .long (left / 10)), (5, .int beh), (0, .long v), (2, .int at_)]) hx hb dX3_textByte_35 rfl hl (by decide) rfl (fun ls hl => ?_)
      refine lv_iinc (v := beh - 1) (lv' := [(5, .int (beh - 1)), (3, .long (left / 10)), (0, .long v), (2, .int at_)]) hx hb dX3_textByte_36 hl (k := 1) rfl (dec1 beh) (by decide) rfl (fun ls hl => ?_)
      refine lv_goto (tgt := 25) hx hb dX3_textByte_39 (by decide) ?_
      exact ih ls (beh - 1) (left / 10) (lv_sub hl [0, 1, 2, 3] rfl) (bk_s hk) (by rw [← hv]; rfl)
  refine lv_iload_n hx hb dX3_textByte_6 rfl (lv_at hl 1 rfl) ?_
  refine lv_if_ne (tgt := 13) hx hb dX3_textByte_7 (by decide) (fun c7 => ?_) (fun c7 => ?_)
  · refine lv_lload_n hx hb dX3_textByte_13 rfl (lv_at hl 0 rfl) ?_
    refine lv_lstore_n (lv' := [(3, .long v), (0, .long v), (2, .int at_)]) hx hb dX3_textByte_14 rfl hl (by decide) rfl (fun ls hl => ?_)
    refine lv_lload_n hx hb dX3_textByte_15 rfl (lv_at hl 1 rfl) ?_
    refine x_ri (va_runS (As := [.long v]) (rest := []) ⟨hx, hb, hml, hown, hts⟩ (ct_X3_textLength l G v) (va_cwS 1 hts gX3_textByte_X3_textLength rfl rfl rfl (by decide +kernel) ⟨Nat.le_of_ble_eq_true rfl, Nat.le_of_ble_eq_true rfl⟩) (RdP.preS (fun k q h => by simp at h) hE) rfl rfl hl.1 rfl (lv_room (Nat.le_of_ble_eq_true rfl)) dX3_textByte_16 ⟨Nat.zero_le _, Nat.zero_le _⟩) (fun r2 er2 => ?_)
    subst er2
    refine lv_iconst (v := 1) hx hb dX3_textByte_19 (by decide) ?_
    refine lv_isub hx hb dX3_textByte_20 ?_
    refine lv_iload_n hx hb dX3_textByte_21 rfl (lv_at hl 2 rfl) ?_
    refine lv_isub hx hb dX3_textByte_22 ?_
    refine lv_istore (lv' := [(5, .int (((nI (f_len v)) - 1) - at_)), (3, .long v), (0, .long v), (2, .int at_)]) hx hb dX3_textByte_23 hl (by decide) rfl (fun ls hl => ?_)
    obtain ⟨beh, hbe⟩ : ∃ x : Int32, x = f_bh v at_ := ⟨_, rfl⟩
    obtain ⟨left, hlf⟩ : ∃ x : Int64, x = v := ⟨_, rfl⟩
    replace hl : lv_has ls 6 [(5, .int beh), (3, .long left), (0, .long v), (2, .int at_)] := by rw [hbe, hlf]; exact hl
    obtain ⟨k, hk0⟩ : ∃ k : Nat, k = beh.toNatClampNeg := ⟨_, rfl⟩
    have hk := bk_of hk0
    have hv : f_tbF (f_divs k left) = f_tb v at_ := by rw [hk0, hbe, hlf]; simp only [f_tb, if_neg c3, if_neg c7]
    clear hk0 hbe hlf
    induction k generalizing ls beh left with
    | zero =>
      refine lv_iload hx hb dX3_textByte_25 (lv_at hl 0 rfl) ?_
      refine lv_if_le (tgt := 42) hx hb dX3_textByte_27 (by decide) (fun c27 => ?_) (fun c27 => absurd (bk_0 hk) c27)
      refine lv_bipush (v := 48) hx hb dX3_textByte_42 (by decide) ?_
      refine lv_lload_n hx hb dX3_textByte_44 rfl (lv_at hl 1 rfl) ?_
      refine lv_ldc2 (v := 10) hx hb hown (hts (.constantLong RX3 106 10) (by decide +kernel)) dX3_textByte_45 ?_
      refine lv_lrem hx hb dX3_textByte_48 (by decide) ?_
      refine va_mabs_long hx hb (hml.trans hl.1.symm) hown (hts (.methodLink RX3 112 Lib.MathLoose.abs_long.x) (by decide +kernel)) (hts (.static Lib.MathLoose.abs_long.x) (by decide +kernel)) (hts (.initialized "java/lang/Math") (by decide +kernel)) (hts (.code Lib.MathLoose.abs_long.x Lib.MathLoose.abs_long.code 2 (some .long)) (by decide +kernel)) (Nat.le_of_ble_eq_true rfl) (Nat.le_of_ble_eq_true rfl) (Nat.zero_le _) (Nat.zero_le _) dX3_textByte_49 ?_
      refine lv_l2i (v := (if 0 < (left - left / 10 * 10) then (left - left / 10 * 10) else -(left - left / 10 * 10)).toInt32) hx hb dX3_textByte_52 rfl ?_
      refine lv_iadd hx hb dX3_textByte_53 ?_
      exact W.iret (v := (48 + (if 0 < (left - left / 10 * 10) then (left - left / 10 * 10) else -(left - left / 10 * 10)).toInt32)) hx hb hr (fun t ht hW => ⟨_, rfl, by rw [← hv]; rfl, ht⟩) t_nil dX3_textByte_54
    | succ k ih =>
      refine lv_iload hx hb dX3_textByte_25 (lv_at hl 0 rfl) ?_
      refine lv_if_le (tgt := 42) hx hb dX3_textByte_27 (by decide) (fun c27 => absurd c27 (bk_1 hk)) (fun c27 => ?_)
      refine lv_lload_n hx hb dX3_textByte_30 rfl (lv_at hl 1 rfl) ?_
      refine lv_ldc2 (v := 10) hx hb hown (hts (.constantLong RX3 106 10) (by decide +kernel)) dX3_textByte_31 ?_
      refine lv_ldiv hx hb dX3_textByte_34 (by decide) ?_
      refine lv_lstore_n (lv' := [(3, .long (left / 10)), (5, .int beh), (0, .long v), (2, .int at_)]) hx hb dX3_textByte_35 rfl hl (by decide) rfl (fun ls hl => ?_)
      refine lv_iinc (v := beh - 1) (lv' := [(5, .int (beh - 1)), (3, .long (left / 10)), (0, .long v), (2, .int at_)]) hx hb dX3_textByte_36 hl (k := 1) rfl (dec1 beh) (by decide) rfl (fun ls hl => ?_)
      refine lv_goto (tgt := 25) hx hb dX3_textByte_39 (by decide) ?_
      exact ih ls (beh - 1) (left / 10) (lv_sub hl [0, 1, 2, 3] rfl) (bk_s hk) (by rw [← hv]; rfl)
  refine lv_bipush (v := 45) hx hb dX3_textByte_10 (by decide) ?_
  exact W.iret (v := 45) hx hb hr (fun t ht hW => ⟨_, rfl, by simp only [f_tb, if_neg c3, if_pos c7], ht⟩) t_nil dX3_textByte_12

set_option maxHeartbeats 4000000 in
set_option maxRecDepth 100000 in
/-- lineLength -/
theorem ct_X1_lineLength (l : Launch) (G : Gx) (h0 h1 h2 h3 h4 h5 : Nat) (key : Int64) (n : Nat) (nu st : Nat → Int64) (de : Nat → Int32) (su : Nat → Int64) (mk : Nat → Int32) (row : Int32) (hc : n ≤ 200) : Met l yX1_lineLength wsX1_lineLength ({ frames := 3, cells := 0, slots := 0, locals := 63 }) (RdP G (wR G h0 h1 h2 h3 h4 h5 key (nI n) nu st de su mk) [.ref h0, .int row]) (vp_Si (fun r => r = f_ll n nu st de mk row)) 0 0 (fun _ => False) := by
  refine Met.ofW (cc := cX1_lineLength) (maxL := 4) (ret := (some .int)) (by decide) rfl ?_
  intro p e s m args below meth c s₁ B hml hv
  obtain ⟨rfl, hP, hE⟩ := hv
  have hx := B.exec
  have hb := B.bytes
  have hr := B.returns
  have hts := atoms_spec (ws := wsX1_lineLength) B.pre
  have hown : s.vm.findClass RX1 = some m.cls := findClass_of_methodNamed B.named
  have hlocks := B.notSynchronized
  have hl := lv_entry ([.ref h0, .int row]) (n := 4) (Nat.le_of_ble_eq_true rfl)
  rw [lg_entry_eq]
  generalize (lg_sl ([.ref h0, .int row]) ++ List.replicate (4 - (lg_sl ([.ref h0, .int row])).length) Slot.unset).toArray = ls at hl ⊢
  replace hl : lv_has ls 4 [(0, .ref h0), (1, .int row)] := hl
  by_cases hR : f_isR n st row = 0
  · have hf : f_fct n st row = 1 := by simp only [f_fct, if_pos hR]
    refine lv_iconst (v := 1) hx hb dX1_lineLength_0 (by decide) ?_
    refine lv_istore_n (lv' := [(2, .int 1), (0, .ref h0), (1, .int row)]) hx hb dX1_lineLength_1 rfl hl (by decide) rfl (fun ls hl => ?_)
    refine lv_iconst (v := 0) hx hb dX1_lineLength_2 (by decide) ?_
    refine lv_istore_n (lv' := [(3, .int 0), (2, .int 1), (0, .ref h0), (1, .int row)]) hx hb dX1_lineLength_3 rfl hl (by decide) rfl (fun ls hl => ?_)
    refine lv_iload_n hx hb dX1_lineLength_4 rfl (lv_at hl 0 rfl) ?_
    refine lv_aload_n hx hb dX1_lineLength_5 rfl (lv_at hl 2 rfl) ?_
    refine lv_iload_n hx hb dX1_lineLength_6 rfl (lv_at hl 3 rfl) ?_
    refine x_ri (va_runV (As := [.int row]) (rest := [.int 0]) ⟨hx, hb, hml, hown, hts⟩ (ct_X1_fieldCount l G h0 h1 h2 h3 h4 h5 key n nu st de su mk row hc) (cwV 1 hts gX1_lineLength_X1_fieldCount rfl rfl rfl (by decide +kernel) ⟨Nat.le_of_ble_eq_true rfl, Nat.le_of_ble_eq_true rfl⟩) (RdP.preV 0 2 rfl rfl hP hE) rfl rfl hl.1 rfl (lv_room (Nat.le_of_ble_eq_true rfl)) dX1_lineLength_7 ⟨Nat.zero_le _, Nat.zero_le _⟩) (fun r1 er1 => ?_)
    subst er1
    rw [hf]
    refine lv_icmp_ge (tgt := 33) hx hb dX1_lineLength_10 (by decide) (fun c10 => absurd c10 (by decide)) (fun c10 => ?_)
    refine lv_iload_n hx hb dX1_lineLength_13 rfl (lv_at hl 1 rfl) ?_
    refine lv_iconst (v := 1) hx hb dX1_lineLength_14 (by decide) ?_
    refine lv_aload_n hx hb dX1_lineLength_15 rfl (lv_at hl 2 rfl) ?_
    refine lv_iload_n hx hb dX1_lineLength_16 rfl (lv_at hl 3 rfl) ?_
    refine lv_iload_n hx hb dX1_lineLength_17 rfl (lv_at hl 0 rfl) ?_
    refine x_rl (va_runV (As := [.int row, .int 0]) (rest := [.int 1, .int 1]) ⟨hx, hb, hml, hown, hts⟩ (ct_X1_fieldOf l G h0 h1 h2 h3 h4 h5 key n nu st de su mk row 0 hc) (cwV 2 hts gX1_lineLength_X1_fieldOf rfl rfl rfl (by decide +kernel) ⟨Nat.le_of_ble_eq_true rfl, Nat.le_of_ble_eq_true rfl⟩) (RdP.preV 0 2 rfl rfl hP hE) rfl rfl hl.1 rfl (lv_room (Nat.le_of_ble_eq_true rfl)) dX1_lineLength_18 ⟨Nat.zero_le _, Nat.zero_le _⟩) (fun r2 er2 => ?_)
    subst er2
    refine x_ri (va_runSN (As := [.long (f_fld n nu st de row 0)]) (rest := [.int 1, .int 1]) ⟨hx, hb, hml, hown, hts⟩ (ct_X3_textLength l G (f_fld n nu st de row 0)) ⟨va_cnB 1 hts gX1_lineLength_X3_textLength_n97 rfl rfl rfl hE.2.1.2.2.2.2.2.2.1 (hts (.initialized RX3) (by decide +kernel)) (by decide +kernel) ⟨Nat.le_of_ble_eq_true rfl, Nat.le_of_ble_eq_true rfl⟩, hts (.static yX3_textLength) (by decide +kernel), trivial⟩ (RdP.preS (fun k q h => by simp at h) hE) rfl rfl hl.1 rfl (lv_room (Nat.le_of_ble_eq_true rfl)) dX1_lineLength_21 ⟨Nat.zero_le _, Nat.zero_le _⟩) (fun r3 er3 => ?_)
    subst er3
    refine lv_iadd hx hb dX1_lineLength_24 ?_
    refine lv_iadd hx hb dX1_lineLength_25 ?_
    refine lv_istore_n (lv' := [(2, .int (1 + (1 + (nI (f_len (f_fld n nu st de row 0)))))), (3, .int 0), (0, .ref h0), (1, .int row)]) hx hb dX1_lineLength_26 rfl hl (by decide) rfl (fun ls hl => ?_)
    refine lv_iinc (v := 1) (lv' := [(3, .int 1), (2, .int (1 + (1 + (nI (f_len (f_fld n nu st de row 0)))))), (0, .ref h0), (1, .int row)]) hx hb dX1_lineLength_27 hl (k := 1) rfl (by decide) (by decide) rfl (fun ls hl => ?_)
    refine lv_goto (tgt := 4) hx hb dX1_lineLength_30 (by decide) ?_
    refine lv_iload_n hx hb dX1_lineLength_4 rfl (lv_at hl 0 rfl) ?_
    refine lv_aload_n hx hb dX1_lineLength_5 rfl (lv_at hl 2 rfl) ?_
    refine lv_iload_n hx hb dX1_lineLength_6 rfl (lv_at hl 3 rfl) ?_
    refine x_ri (va_runV (As := [.int row]) (rest := [.int 1]) ⟨hx, hb, hml, hown, hts⟩ (ct_X1_fieldCount l G h0 h1 h2 h3 h4 h5 key n nu st de su mk row hc) (cwV 1 hts gX1_lineLength_X1_fieldCount rfl rfl rfl (by decide +kernel) ⟨Nat.le_of_ble_eq_true rfl, Nat.le_of_ble_eq_true rfl⟩) (RdP.preV 0 2 rfl rfl hP hE) rfl rfl hl.1 rfl (lv_room (Nat.le_of_ble_eq_true rfl)) dX1_lineLength_7 ⟨Nat.zero_le _, Nat.zero_le _⟩) (fun r4 er4 => ?_)
    subst er4
    rw [hf]
    refine lv_icmp_ge (tgt := 33) hx hb dX1_lineLength_10 (by decide) (fun c10 => ?_) (fun c10 => absurd c10 (by decide))
    refine lv_iload_n hx hb dX1_lineLength_33 rfl (lv_at hl 1 rfl) ?_
    refine lv_aload_n hx hb dX1_lineLength_34 rfl (lv_at hl 2 rfl) ?_
    refine lv_iload_n hx hb dX1_lineLength_35 rfl (lv_at hl 3 rfl) ?_
    refine x_ri (va_runV (As := [.int row]) (rest := [.int (1 + (1 + (nI (f_len (f_fld n nu st de row 0)))))]) ⟨hx, hb, hml, hown, hts⟩ (ct_X1_hasMark l G h0 h1 h2 h3 h4 h5 key n nu st de su mk row hc) (cwV 1 hts gX1_lineLength_X1_hasMark rfl rfl rfl (by decide +kernel) ⟨Nat.le_of_ble_eq_true rfl, Nat.le_of_ble_eq_true rfl⟩) (RdP.preV 0 2 rfl rfl hP hE) rfl rfl hl.1 rfl (lv_room (Nat.le_of_ble_eq_true rfl)) dX1_lineLength_36 ⟨Nat.zero_le _, Nat.zero_le _⟩) (fun r5 er5 => ?_)
    subst er5
    refine lv_if_eq (tgt := 46) hx hb dX1_lineLength_39 (by decide) (fun c39 => ?_) (fun c39 => ?_)
    · refine lv_iconst (v := 0) hx hb dX1_lineLength_46 (by decide) ?_
      refine lv_iadd hx hb dX1_lineLength_47 ?_
      refine lv_iconst (v := 1) hx hb dX1_lineLength_48 (by decide) ?_
      refine lv_iadd hx hb dX1_lineLength_49 ?_
      exact W.iret (v := (((1 + (1 + (nI (f_len (f_fld n nu st de row 0))))) + 0) + 1)) hx hb hr (fun t ht hW => ⟨_, rfl, by simp only [f_ll, if_pos hR, if_pos c39], ht⟩) t_nil dX1_lineLength_50
    refine lv_iconst (v := 2) hx hb dX1_lineLength_42 (by decide) ?_
    refine lv_goto (tgt := 47) hx hb dX1_lineLength_43 (by decide) ?_
    refine lv_iadd hx hb dX1_lineLength_47 ?_
    refine lv_iconst (v := 1) hx hb dX1_lineLength_48 (by decide) ?_
    refine lv_iadd hx hb dX1_lineLength_49 ?_
    exact W.iret (v := (((1 + (1 + (nI (f_len (f_fld n nu st de row 0))))) + 2) + 1)) hx hb hr (fun t ht hW => ⟨_, rfl, by simp only [f_ll, if_pos hR, if_neg c39], ht⟩) t_nil dX1_lineLength_50
  · have hf : f_fct n st row = 3 := by simp only [f_fct, if_neg hR]
    refine lv_iconst (v := 1) hx hb dX1_lineLength_0 (by decide) ?_
    refine lv_istore_n (lv' := [(2, .int 1), (0, .ref h0), (1, .int row)]) hx hb dX1_lineLength_1 rfl hl (by decide) rfl (fun ls hl => ?_)
    refine lv_iconst (v := 0) hx hb dX1_lineLength_2 (by decide) ?_
    refine lv_istore_n (lv' := [(3, .int 0), (2, .int 1), (0, .ref h0), (1, .int row)]) hx hb dX1_lineLength_3 rfl hl (by decide) rfl (fun ls hl => ?_)
    refine lv_iload_n hx hb dX1_lineLength_4 rfl (lv_at hl 0 rfl) ?_
    refine lv_aload_n hx hb dX1_lineLength_5 rfl (lv_at hl 2 rfl) ?_
    refine lv_iload_n hx hb dX1_lineLength_6 rfl (lv_at hl 3 rfl) ?_
    refine x_ri (va_runV (As := [.int row]) (rest := [.int 0]) ⟨hx, hb, hml, hown, hts⟩ (ct_X1_fieldCount l G h0 h1 h2 h3 h4 h5 key n nu st de su mk row hc) (cwV 1 hts gX1_lineLength_X1_fieldCount rfl rfl rfl (by decide +kernel) ⟨Nat.le_of_ble_eq_true rfl, Nat.le_of_ble_eq_true rfl⟩) (RdP.preV 0 2 rfl rfl hP hE) rfl rfl hl.1 rfl (lv_room (Nat.le_of_ble_eq_true rfl)) dX1_lineLength_7 ⟨Nat.zero_le _, Nat.zero_le _⟩) (fun r6 er6 => ?_)
    subst er6
    rw [hf]
    refine lv_icmp_ge (tgt := 33) hx hb dX1_lineLength_10 (by decide) (fun c10 => absurd c10 (by decide)) (fun c10 => ?_)
    refine lv_iload_n hx hb dX1_lineLength_13 rfl (lv_at hl 1 rfl) ?_
    refine lv_iconst (v := 1) hx hb dX1_lineLength_14 (by decide) ?_
    refine lv_aload_n hx hb dX1_lineLength_15 rfl (lv_at hl 2 rfl) ?_
    refine lv_iload_n hx hb dX1_lineLength_16 rfl (lv_at hl 3 rfl) ?_
    refine lv_iload_n hx hb dX1_lineLength_17 rfl (lv_at hl 0 rfl) ?_
    refine x_rl (va_runV (As := [.int row, .int 0]) (rest := [.int 1, .int 1]) ⟨hx, hb, hml, hown, hts⟩ (ct_X1_fieldOf l G h0 h1 h2 h3 h4 h5 key n nu st de su mk row 0 hc) (cwV 2 hts gX1_lineLength_X1_fieldOf rfl rfl rfl (by decide +kernel) ⟨Nat.le_of_ble_eq_true rfl, Nat.le_of_ble_eq_true rfl⟩) (RdP.preV 0 2 rfl rfl hP hE) rfl rfl hl.1 rfl (lv_room (Nat.le_of_ble_eq_true rfl)) dX1_lineLength_18 ⟨Nat.zero_le _, Nat.zero_le _⟩) (fun r7 er7 => ?_)
    subst er7
    refine x_ri (va_runSN (As := [.long (f_fld n nu st de row 0)]) (rest := [.int 1, .int 1]) ⟨hx, hb, hml, hown, hts⟩ (ct_X3_textLength l G (f_fld n nu st de row 0)) ⟨va_cnB 1 hts gX1_lineLength_X3_textLength_n97 rfl rfl rfl hE.2.1.2.2.2.2.2.2.1 (hts (.initialized RX3) (by decide +kernel)) (by decide +kernel) ⟨Nat.le_of_ble_eq_true rfl, Nat.le_of_ble_eq_true rfl⟩, hts (.static yX3_textLength) (by decide +kernel), trivial⟩ (RdP.preS (fun k q h => by simp at h) hE) rfl rfl hl.1 rfl (lv_room (Nat.le_of_ble_eq_true rfl)) dX1_lineLength_21 ⟨Nat.zero_le _, Nat.zero_le _⟩) (fun r8 er8 => ?_)
    subst er8
    refine lv_iadd hx hb dX1_lineLength_24 ?_
    refine lv_iadd hx hb dX1_lineLength_25 ?_
    refine lv_istore_n (lv' := [(2, .int (1 + (1 + (nI (f_len (f_fld n nu st de row 0)))))), (3, .int 0), (0, .ref h0), (1, .int row)]) hx hb dX1_lineLength_26 rfl hl (by decide) rfl (fun ls hl => ?_)
    refine lv_iinc (v := 1) (lv' := [(3, .int 1), (2, .int (1 + (1 + (nI (f_len (f_fld n nu st de row 0)))))), (0, .ref h0), (1, .int row)]) hx hb dX1_lineLength_27 hl (k := 1) rfl (by decide) (by decide) rfl (fun ls hl => ?_)
    refine lv_goto (tgt := 4) hx hb dX1_lineLength_30 (by decide) ?_
    refine lv_iload_n hx hb dX1_lineLength_4 rfl (lv_at hl 0 rfl) ?_
    refine lv_aload_n hx hb dX1_lineLength_5 rfl (lv_at hl 2 rfl) ?_
    refine lv_iload_n hx hb dX1_lineLength_6 rfl (lv_at hl 3 rfl) ?_
    refine x_ri (va_runV (As := [.int row]) (rest := [.int 1]) ⟨hx, hb, hml, hown, hts⟩ (ct_X1_fieldCount l G h0 h1 h2 h3 h4 h5 key n nu st de su mk row hc) (cwV 1 hts gX1_lineLength_X1_fieldCount rfl rfl rfl (by decide +kernel) ⟨Nat.le_of_ble_eq_true rfl, Nat.le_of_ble_eq_true rfl⟩) (RdP.preV 0 2 rfl rfl hP hE) rfl rfl hl.1 rfl (lv_room (Nat.le_of_ble_eq_true rfl)) dX1_lineLength_7 ⟨Nat.zero_le _, Nat.zero_le _⟩) (fun r9 er9 => ?_)
    subst er9
    rw [hf]
    refine lv_icmp_ge (tgt := 33) hx hb dX1_lineLength_10 (by decide) (fun c10 => absurd c10 (by decide)) (fun c10 => ?_)
    refine lv_iload_n hx hb dX1_lineLength_13 rfl (lv_at hl 1 rfl) ?_
    refine lv_iconst (v := 1) hx hb dX1_lineLength_14 (by decide) ?_
    refine lv_aload_n hx hb dX1_lineLength_15 rfl (lv_at hl 2 rfl) ?_
    refine lv_iload_n hx hb dX1_lineLength_16 rfl (lv_at hl 3 rfl) ?_
    refine lv_iload_n hx hb dX1_lineLength_17 rfl (lv_at hl 0 rfl) ?_
    refine x_rl (va_runV (As := [.int row, .int 1]) (rest := [.int 1, .int (1 + (1 + (nI (f_len (f_fld n nu st de row 0)))))]) ⟨hx, hb, hml, hown, hts⟩ (ct_X1_fieldOf l G h0 h1 h2 h3 h4 h5 key n nu st de su mk row 1 hc) (cwV 2 hts gX1_lineLength_X1_fieldOf rfl rfl rfl (by decide +kernel) ⟨Nat.le_of_ble_eq_true rfl, Nat.le_of_ble_eq_true rfl⟩) (RdP.preV 0 2 rfl rfl hP hE) rfl rfl hl.1 rfl (lv_room (Nat.le_of_ble_eq_true rfl)) dX1_lineLength_18 ⟨Nat.zero_le _, Nat.zero_le _⟩) (fun r10 er10 => ?_)
    subst er10
    refine x_ri (va_runSN (As := [.long (f_fld n nu st de row 1)]) (rest := [.int 1, .int (1 + (1 + (nI (f_len (f_fld n nu st de row 0)))))]) ⟨hx, hb, hml, hown, hts⟩ (ct_X3_textLength l G (f_fld n nu st de row 1)) ⟨va_cnB 1 hts gX1_lineLength_X3_textLength_n97 rfl rfl rfl hE.2.1.2.2.2.2.2.2.1 (hts (.initialized RX3) (by decide +kernel)) (by decide +kernel) ⟨Nat.le_of_ble_eq_true rfl, Nat.le_of_ble_eq_true rfl⟩, hts (.static yX3_textLength) (by decide +kernel), trivial⟩ (RdP.preS (fun k q h => by simp at h) hE) rfl rfl hl.1 rfl (lv_room (Nat.le_of_ble_eq_true rfl)) dX1_lineLength_21 ⟨Nat.zero_le _, Nat.zero_le _⟩) (fun r11 er11 => ?_)
    subst er11
    refine lv_iadd hx hb dX1_lineLength_24 ?_
    refine lv_iadd hx hb dX1_lineLength_25 ?_
    refine lv_istore_n (lv' := [(2, .int ((1 + (1 + (nI (f_len (f_fld n nu st de row 0))))) + (1 + (nI (f_len (f_fld n nu st de row 1)))))), (3, .int 1), (0, .ref h0), (1, .int row)]) hx hb dX1_lineLength_26 rfl hl (by decide) rfl (fun ls hl => ?_)
    refine lv_iinc (v := 2) (lv' := [(3, .int 2), (2, .int ((1 + (1 + (nI (f_len (f_fld n nu st de row 0))))) + (1 + (nI (f_len (f_fld n nu st de row 1)))))), (0, .ref h0), (1, .int row)]) hx hb dX1_lineLength_27 hl (k := 1) rfl (by decide) (by decide) rfl (fun ls hl => ?_)
    refine lv_goto (tgt := 4) hx hb dX1_lineLength_30 (by decide) ?_
    refine lv_iload_n hx hb dX1_lineLength_4 rfl (lv_at hl 0 rfl) ?_
    refine lv_aload_n hx hb dX1_lineLength_5 rfl (lv_at hl 2 rfl) ?_
    refine lv_iload_n hx hb dX1_lineLength_6 rfl (lv_at hl 3 rfl) ?_
    refine x_ri (va_runV (As := [.int row]) (rest := [.int 2]) ⟨hx, hb, hml, hown, hts⟩ (ct_X1_fieldCount l G h0 h1 h2 h3 h4 h5 key n nu st de su mk row hc) (cwV 1 hts gX1_lineLength_X1_fieldCount rfl rfl rfl (by decide +kernel) ⟨Nat.le_of_ble_eq_true rfl, Nat.le_of_ble_eq_true rfl⟩) (RdP.preV 0 2 rfl rfl hP hE) rfl rfl hl.1 rfl (lv_room (Nat.le_of_ble_eq_true rfl)) dX1_lineLength_7 ⟨Nat.zero_le _, Nat.zero_le _⟩) (fun r12 er12 => ?_)
    subst er12
    rw [hf]
    refine lv_icmp_ge (tgt := 33) hx hb dX1_lineLength_10 (by decide) (fun c10 => absurd c10 (by decide)) (fun c10 => ?_)
    refine lv_iload_n hx hb dX1_lineLength_13 rfl (lv_at hl 1 rfl) ?_
    refine lv_iconst (v := 1) hx hb dX1_lineLength_14 (by decide) ?_
    refine lv_aload_n hx hb dX1_lineLength_15 rfl (lv_at hl 2 rfl) ?_
    refine lv_iload_n hx hb dX1_lineLength_16 rfl (lv_at hl 3 rfl) ?_
    refine lv_iload_n hx hb dX1_lineLength_17 rfl (lv_at hl 0 rfl) ?_
    refine x_rl (va_runV (As := [.int row, .int 2]) (rest := [.int 1, .int ((1 + (1 + (nI (f_len (f_fld n nu st de row 0))))) + (1 + (nI (f_len (f_fld n nu st de row 1)))))]) ⟨hx, hb, hml, hown, hts⟩ (ct_X1_fieldOf l G h0 h1 h2 h3 h4 h5 key n nu st de su mk row 2 hc) (cwV 2 hts gX1_lineLength_X1_fieldOf rfl rfl rfl (by decide +kernel) ⟨Nat.le_of_ble_eq_true rfl, Nat.le_of_ble_eq_true rfl⟩) (RdP.preV 0 2 rfl rfl hP hE) rfl rfl hl.1 rfl (lv_room (Nat.le_of_ble_eq_true rfl)) dX1_lineLength_18 ⟨Nat.zero_le _, Nat.zero_le _⟩) (fun r13 er13 => ?_)
    subst er13
    refine x_ri (va_runSN (As := [.long (f_fld n nu st de row 2)]) (rest := [.int 1, .int ((1 + (1 + (nI (f_len (f_fld n nu st de row 0))))) + (1 + (nI (f_len (f_fld n nu st de row 1)))))]) ⟨hx, hb, hml, hown, hts⟩ (ct_X3_textLength l G (f_fld n nu st de row 2)) ⟨va_cnB 1 hts gX1_lineLength_X3_textLength_n97 rfl rfl rfl hE.2.1.2.2.2.2.2.2.1 (hts (.initialized RX3) (by decide +kernel)) (by decide +kernel) ⟨Nat.le_of_ble_eq_true rfl, Nat.le_of_ble_eq_true rfl⟩, hts (.static yX3_textLength) (by decide +kernel), trivial⟩ (RdP.preS (fun k q h => by simp at h) hE) rfl rfl hl.1 rfl (lv_room (Nat.le_of_ble_eq_true rfl)) dX1_lineLength_21 ⟨Nat.zero_le _, Nat.zero_le _⟩) (fun r14 er14 => ?_)
    subst er14
    refine lv_iadd hx hb dX1_lineLength_24 ?_
    refine lv_iadd hx hb dX1_lineLength_25 ?_
    refine lv_istore_n (lv' := [(2, .int (((1 + (1 + (nI (f_len (f_fld n nu st de row 0))))) + (1 + (nI (f_len (f_fld n nu st de row 1))))) + (1 + (nI (f_len (f_fld n nu st de row 2)))))), (3, .int 2), (0, .ref h0), (1, .int row)]) hx hb dX1_lineLength_26 rfl hl (by decide) rfl (fun ls hl => ?_)
    refine lv_iinc (v := 3) (lv' := [(3, .int 3), (2, .int (((1 + (1 + (nI (f_len (f_fld n nu st de row 0))))) + (1 + (nI (f_len (f_fld n nu st de row 1))))) + (1 + (nI (f_len (f_fld n nu st de row 2)))))), (0, .ref h0), (1, .int row)]) hx hb dX1_lineLength_27 hl (k := 1) rfl (by decide) (by decide) rfl (fun ls hl => ?_)
    refine lv_goto (tgt := 4) hx hb dX1_lineLength_30 (by decide) ?_
    refine lv_iload_n hx hb dX1_lineLength_4 rfl (lv_at hl 0 rfl) ?_
    refine lv_aload_n hx hb dX1_lineLength_5 rfl (lv_at hl 2 rfl) ?_
    refine lv_iload_n hx hb dX1_lineLength_6 rfl (lv_at hl 3 rfl) ?_
    refine x_ri (va_runV (As := [.int row]) (rest := [.int 3]) ⟨hx, hb, hml, hown, hts⟩ (ct_X1_fieldCount l G h0 h1 h2 h3 h4 h5 key n nu st de su mk row hc) (cwV 1 hts gX1_lineLength_X1_fieldCount rfl rfl rfl (by decide +kernel) ⟨Nat.le_of_ble_eq_true rfl, Nat.le_of_ble_eq_true rfl⟩) (RdP.preV 0 2 rfl rfl hP hE) rfl rfl hl.1 rfl (lv_room (Nat.le_of_ble_eq_true rfl)) dX1_lineLength_7 ⟨Nat.zero_le _, Nat.zero_le _⟩) (fun r15 er15 => ?_)
    subst er15
    rw [hf]
    refine lv_icmp_ge (tgt := 33) hx hb dX1_lineLength_10 (by decide) (fun c10 => ?_) (fun c10 => absurd c10 (by decide))
    refine lv_iload_n hx hb dX1_lineLength_33 rfl (lv_at hl 1 rfl) ?_
    refine lv_aload_n hx hb dX1_lineLength_34 rfl (lv_at hl 2 rfl) ?_
    refine lv_iload_n hx hb dX1_lineLength_35 rfl (lv_at hl 3 rfl) ?_
    refine x_ri (va_runV (As := [.int row]) (rest := [.int (((1 + (1 + (nI (f_len (f_fld n nu st de row 0))))) + (1 + (nI (f_len (f_fld n nu st de row 1))))) + (1 + (nI (f_len (f_fld n nu st de row 2)))))]) ⟨hx, hb, hml, hown, hts⟩ (ct_X1_hasMark l G h0 h1 h2 h3 h4 h5 key n nu st de su mk row hc) (cwV 1 hts gX1_lineLength_X1_hasMark rfl rfl rfl (by decide +kernel) ⟨Nat.le_of_ble_eq_true rfl, Nat.le_of_ble_eq_true rfl⟩) (RdP.preV 0 2 rfl rfl hP hE) rfl rfl hl.1 rfl (lv_room (Nat.le_of_ble_eq_true rfl)) dX1_lineLength_36 ⟨Nat.zero_le _, Nat.zero_le _⟩) (fun r16 er16 => ?_)
    subst er16
    refine lv_if_eq (tgt := 46) hx hb dX1_lineLength_39 (by decide) (fun c39 => ?_) (fun c39 => ?_)
    · refine lv_iconst (v := 0) hx hb dX1_lineLength_46 (by decide) ?_
      refine lv_iadd hx hb dX1_lineLength_47 ?_
      refine lv_iconst (v := 1) hx hb dX1_lineLength_48 (by decide) ?_
      refine lv_iadd hx hb dX1_lineLength_49 ?_
      exact W.iret (v := (((((1 + (1 + (nI (f_len (f_fld n nu st de row 0))))) + (1 + (nI (f_len (f_fld n nu st de row 1))))) + (1 + (nI (f_len (f_fld n nu st de row 2))))) + 0) + 1)) hx hb hr (fun t ht hW => ⟨_, rfl, by simp only [f_ll, if_neg hR, if_pos c39], ht⟩) t_nil dX1_lineLength_50
    refine lv_iconst (v := 2) hx hb dX1_lineLength_42 (by decide) ?_
    refine lv_goto (tgt := 47) hx hb dX1_lineLength_43 (by decide) ?_
    refine lv_iadd hx hb dX1_lineLength_47 ?_
    refine lv_iconst (v := 1) hx hb dX1_lineLength_48 (by decide) ?_
    refine lv_iadd hx hb dX1_lineLength_49 ?_
    exact W.iret (v := (((((1 + (1 + (nI (f_len (f_fld n nu st de row 0))))) + (1 + (nI (f_len (f_fld n nu st de row 1))))) + (1 + (nI (f_len (f_fld n nu st de row 2))))) + 2) + 1)) hx hb hr (fun t ht hW => ⟨_, rfl, by simp only [f_ll, if_neg hR, if_neg c39], ht⟩) t_nil dX1_lineLength_50

set_option maxHeartbeats 4000000 in
set_option maxRecDepth 100000 in
/-- lineByte -/
theorem ct_X1_lineByte (l : Launch) (G : Gx) (h0 h1 h2 h3 h4 h5 : Nat) (key : Int64) (n : Nat) (nu st : Nat → Int64) (de : Nat → Int32) (su : Nat → Int64) (mk : Nat → Int32) (row at_ : Int32) (hc : n ≤ 200) : Met l yX1_lineByte wsX1_lineByte ({ frames := 3, cells := 0, slots := 0, locals := 63 }) (RdP G (wR G h0 h1 h2 h3 h4 h5 key (nI n) nu st de su mk) [.ref h0, .int row, .int at_]) (vp_Si (fun r => r = f_lb n nu st de mk row at_)) 0 0 (fun _ => False) := by
  refine Met.ofW (cc := cX1_lineByte) (maxL := 8) (ret := (some .int)) (by decide) rfl ?_
  intro p e s m args below meth c s₁ B hml hv
  obtain ⟨rfl, hP, hE⟩ := hv
  have hx := B.exec
  have hb := B.bytes
  have hr := B.returns
  have hts := atoms_spec (ws := wsX1_lineByte) B.pre
  have hown : s.vm.findClass RX1 = some m.cls := findClass_of_methodNamed B.named
  have hlocks := B.notSynchronized
  have hl := lv_entry ([.ref h0, .int row, .int at_]) (n := 8) (Nat.le_of_ble_eq_true rfl)
  rw [lg_entry_eq]
  generalize (lg_sl ([.ref h0, .int row, .int at_]) ++ List.replicate (8 - (lg_sl ([.ref h0, .int row, .int at_])).length) Slot.unset).toArray = ls at hl ⊢
  replace hl : lv_has ls 8 [(0, .ref h0), (1, .int row), (2, .int at_)] := hl
  by_cases hR : f_isR n st row = 0
  · have hf : f_fct n st row = 1 := by simp only [f_fct, if_pos hR]
    refine lv_iload_n hx hb dX1_lineByte_0 rfl (lv_at hl 2 rfl) ?_
    refine lv_if_ne (tgt := 10) hx hb dX1_lineByte_1 (by decide) (fun c1 => ?_) (fun c1 => ?_)
    · refine lv_iload_n hx hb dX1_lineByte_10 rfl (lv_at hl 2 rfl) ?_
      refine lv_iconst (v := 1) hx hb dX1_lineByte_11 (by decide) ?_
      refine lv_isub hx hb dX1_lineByte_12 ?_
      refine lv_istore_n (lv' := [(3, .int (at_ - 1)), (0, .ref h0), (1, .int row), (2, .int at_)]) hx hb dX1_lineByte_13 rfl hl (by decide) rfl (fun ls hl => ?_)
      refine lv_iconst (v := 0) hx hb dX1_lineByte_14 (by decide) ?_
      refine lv_istore (lv' := [(4, .int 0), (3, .int (at_ - 1)), (0, .ref h0), (1, .int row), (2, .int at_)]) hx hb dX1_lineByte_15 hl (by decide) rfl (fun ls hl => ?_)
      refine lv_iload hx hb dX1_lineByte_17 (lv_at hl 0 rfl) ?_
      refine lv_aload_n hx hb dX1_lineByte_19 rfl (lv_at hl 2 rfl) ?_
      refine lv_iload_n hx hb dX1_lineByte_20 rfl (lv_at hl 3 rfl) ?_
      refine x_ri (va_runV (As := [.int row]) (rest := [.int 0]) ⟨hx, hb, hml, hown, hts⟩ (ct_X1_fieldCount l G h0 h1 h2 h3 h4 h5 key n nu st de su mk row hc) (cwV 1 hts gX1_lineByte_X1_fieldCount rfl rfl rfl (by decide +kernel) ⟨Nat.le_of_ble_eq_true rfl, Nat.le_of_ble_eq_true rfl⟩) (RdP.preV 0 2 rfl rfl hP hE) rfl rfl hl.1 rfl (lv_room (Nat.le_of_ble_eq_true rfl)) dX1_lineByte_21 ⟨Nat.zero_le _, Nat.zero_le _⟩) (fun r1 er1 => ?_)
      subst er1
      rw [hf]
      refine lv_icmp_ge (tgt := 80) hx hb dX1_lineByte_24 (by decide) (fun c24 => absurd c24 (by decide)) (fun c24 => ?_)
      refine lv_aload_n hx hb dX1_lineByte_27 rfl (lv_at hl 2 rfl) ?_
      refine lv_iload_n hx hb dX1_lineByte_28 rfl (lv_at hl 3 rfl) ?_
      refine lv_iload hx hb dX1_lineByte_29 (lv_at hl 0 rfl) ?_
      refine x_rl (va_runV (As := [.int row, .int 0]) (rest := []) ⟨hx, hb, hml, hown, hts⟩ (ct_X1_fieldOf l G h0 h1 h2 h3 h4 h5 key n nu st de su mk row 0 hc) (cwV 2 hts gX1_lineByte_X1_fieldOf rfl rfl rfl (by decide +kernel) ⟨Nat.le_of_ble_eq_true rfl, Nat.le_of_ble_eq_true rfl⟩) (RdP.preV 0 2 rfl rfl hP hE) rfl rfl hl.1 rfl (lv_room (Nat.le_of_ble_eq_true rfl)) dX1_lineByte_31 ⟨Nat.zero_le _, Nat.zero_le _⟩) (fun r2 er2 => ?_)
      subst er2
      refine lv_lstore (lv' := [(5, .long (f_fld n nu st de row 0)), (4, .int 0), (3, .int (at_ - 1)), (0, .ref h0), (1, .int row), (2, .int at_)]) hx hb dX1_lineByte_34 hl (by decide) rfl (fun ls hl => ?_)
      refine lv_iconst (v := 1) hx hb dX1_lineByte_36 (by decide) ?_
      refine lv_lload hx hb dX1_lineByte_37 (lv_at hl 0 rfl) ?_
      refine x_ri (va_runSN (As := [.long (f_fld n nu st de row 0)]) (rest := [.int 1]) ⟨hx, hb, hml, hown, hts⟩ (ct_X3_textLength l G (f_fld n nu st de row 0)) ⟨va_cnB 1 hts gX1_lineByte_X3_textLength_n97 rfl rfl rfl hE.2.1.2.2.2.2.2.2.1 (hts (.initialized RX3) (by decide +kernel)) (by decide +kernel) ⟨Nat.le_of_ble_eq_true rfl, Nat.le_of_ble_eq_true rfl⟩, hts (.static yX3_textLength) (by decide +kernel), trivial⟩ (RdP.preS (fun k q h => by simp at h) hE) rfl rfl hl.1 rfl (lv_room (Nat.le_of_ble_eq_true rfl)) dX1_lineByte_39 ⟨Nat.zero_le _, Nat.zero_le _⟩) (fun r3 er3 => ?_)
      subst er3
      refine lv_iadd hx hb dX1_lineByte_42 ?_
      refine lv_istore (lv' := [(7, .int (1 + (nI (f_len (f_fld n nu st de row 0))))), (5, .long (f_fld n nu st de row 0)), (4, .int 0), (3, .int (at_ - 1)), (0, .ref h0), (1, .int row), (2, .int at_)]) hx hb dX1_lineByte_43 hl (by decide) rfl (fun ls hl => ?_)
      refine lv_iload_n hx hb dX1_lineByte_45 rfl (lv_at hl 3 rfl) ?_
      refine lv_iload hx hb dX1_lineByte_46 (lv_at hl 0 rfl) ?_
      refine lv_icmp_ge (tgt := 69) hx hb dX1_lineByte_48 (by decide) (fun c48 => ?_) (fun c48 => ?_)
      · refine lv_iload_n hx hb dX1_lineByte_69 rfl (lv_at hl 3 rfl) ?_
        refine lv_iload hx hb dX1_lineByte_70 (lv_at hl 0 rfl) ?_
        refine lv_isub hx hb dX1_lineByte_72 ?_
        refine lv_istore_n (lv' := [(3, .int ((at_ - 1) - (1 + (nI (f_len (f_fld n nu st de row 0)))))), (7, .int (1 + (nI (f_len (f_fld n nu st de row 0))))), (5, .long (f_fld n nu st de row 0)), (4, .int 0), (0, .ref h0), (1, .int row), (2, .int at_)]) hx hb dX1_lineByte_73 rfl hl (by decide) rfl (fun ls hl => ?_)
        refine lv_iinc (v := 1) (lv' := [(4, .int 1), (3, .int ((at_ - 1) - (1 + (nI (f_len (f_fld n nu st de row 0)))))), (7, .int (1 + (nI (f_len (f_fld n nu st de row 0))))), (5, .long (f_fld n nu st de row 0)), (0, .ref h0), (1, .int row), (2, .int at_)]) hx hb dX1_lineByte_74 hl (k := 3) rfl (by decide) (by decide) rfl (fun ls hl => ?_)
        refine lv_goto (tgt := 17) hx hb dX1_lineByte_77 (by decide) ?_
        refine lv_iload hx hb dX1_lineByte_17 (lv_at hl 0 rfl) ?_
        refine lv_aload_n hx hb dX1_lineByte_19 rfl (lv_at hl 4 rfl) ?_
        refine lv_iload_n hx hb dX1_lineByte_20 rfl (lv_at hl 5 rfl) ?_
        refine x_ri (va_runV (As := [.int row]) (rest := [.int 1]) ⟨hx, hb, hml, hown, hts⟩ (ct_X1_fieldCount l G h0 h1 h2 h3 h4 h5 key n nu st de su mk row hc) (cwV 1 hts gX1_lineByte_X1_fieldCount rfl rfl rfl (by decide +kernel) ⟨Nat.le_of_ble_eq_true rfl, Nat.le_of_ble_eq_true rfl⟩) (RdP.preV 0 2 rfl rfl hP hE) rfl rfl hl.1 rfl (lv_room (Nat.le_of_ble_eq_true rfl)) dX1_lineByte_21 ⟨Nat.zero_le _, Nat.zero_le _⟩) (fun r4 er4 => ?_)
        subst er4
        rw [hf]
        refine lv_icmp_ge (tgt := 80) hx hb dX1_lineByte_24 (by decide) (fun c24 => ?_) (fun c24 => absurd c24 (by decide))
        refine lv_aload_n hx hb dX1_lineByte_80 rfl (lv_at hl 4 rfl) ?_
        refine lv_iload_n hx hb dX1_lineByte_81 rfl (lv_at hl 5 rfl) ?_
        refine x_ri (va_runV (As := [.int row]) (rest := []) ⟨hx, hb, hml, hown, hts⟩ (ct_X1_hasMark l G h0 h1 h2 h3 h4 h5 key n nu st de su mk row hc) (cwV 1 hts gX1_lineByte_X1_hasMark rfl rfl rfl (by decide +kernel) ⟨Nat.le_of_ble_eq_true rfl, Nat.le_of_ble_eq_true rfl⟩) (RdP.preV 0 2 rfl rfl hP hE) rfl rfl hl.1 rfl (lv_room (Nat.le_of_ble_eq_true rfl)) dX1_lineByte_82 ⟨Nat.zero_le _, Nat.zero_le _⟩) (fun r5 er5 => ?_)
        subst er5
        refine lv_if_eq (tgt := 105) hx hb dX1_lineByte_85 (by decide) (fun c85 => ?_) (fun c85 => ?_)
        · refine lv_bipush (v := 10) hx hb dX1_lineByte_105 (by decide) ?_
          exact W.iret (v := 10) hx hb hr (fun t ht hW => ⟨_, rfl, by simp only [f_lb, f_lbF, if_pos hR, if_neg c1, if_pos c48, if_pos c85], ht⟩) t_nil dX1_lineByte_107
        refine lv_iload_n hx hb dX1_lineByte_88 rfl (lv_at hl 1 rfl) ?_
        refine lv_iconst (v := 2) hx hb dX1_lineByte_89 (by decide) ?_
        refine lv_icmp_ge (tgt := 105) hx hb dX1_lineByte_90 (by decide) (fun c90 => ?_) (fun c90 => ?_)
        · refine lv_bipush (v := 10) hx hb dX1_lineByte_105 (by decide) ?_
          exact W.iret (v := 10) hx hb hr (fun t ht hW => ⟨_, rfl, by simp only [f_lb, f_lbF, if_pos hR, if_neg c1, if_pos c48, if_neg c85, if_pos c90], ht⟩) t_nil dX1_lineByte_107
        refine lv_iload_n hx hb dX1_lineByte_93 rfl (lv_at hl 1 rfl) ?_
        refine lv_if_ne (tgt := 102) hx hb dX1_lineByte_94 (by decide) (fun c94 => ?_) (fun c94 => ?_)
        · refine lv_bipush (v := 42) hx hb dX1_lineByte_102 (by decide) ?_
          exact W.iret (v := 42) hx hb hr (fun t ht hW => ⟨_, rfl, by simp only [f_lb, f_lbF, if_pos hR, if_neg c1, if_pos c48, if_neg c85, if_neg c90, if_neg c94], ht⟩) t_nil dX1_lineByte_104
        refine lv_bipush (v := 32) hx hb dX1_lineByte_97 (by decide) ?_
        refine lv_goto (tgt := 104) hx hb dX1_lineByte_99 (by decide) ?_
        exact W.iret (v := 32) hx hb hr (fun t ht hW => ⟨_, rfl, by simp only [f_lb, f_lbF, if_pos hR, if_neg c1, if_pos c48, if_neg c85, if_neg c90, if_pos c94], ht⟩) t_nil dX1_lineByte_104
      refine lv_iload_n hx hb dX1_lineByte_51 rfl (lv_at hl 3 rfl) ?_
      refine lv_if_ne (tgt := 60) hx hb dX1_lineByte_52 (by decide) (fun c52 => ?_) (fun c52 => ?_)
      · refine lv_lload hx hb dX1_lineByte_60 (lv_at hl 1 rfl) ?_
        refine lv_iload_n hx hb dX1_lineByte_62 rfl (lv_at hl 3 rfl) ?_
        refine lv_iconst (v := 1) hx hb dX1_lineByte_63 (by decide) ?_
        refine lv_isub hx hb dX1_lineByte_64 ?_
        refine x_ri (va_runSN (As := [.long (f_fld n nu st de row 0), .int ((at_ - 1) - 1)]) (rest := []) ⟨hx, hb, hml, hown, hts⟩ (ct_X3_textByte l G (f_fld n nu st de row 0) ((at_ - 1) - 1)) ⟨va_cnB 2 hts gX1_lineByte_X3_textByte_n107 rfl rfl rfl hE.2.1.2.2.2.2.1 (hts (.initialized RX3) (by decide +kernel)) (by decide +kernel) ⟨Nat.le_of_ble_eq_true rfl, Nat.le_of_ble_eq_true rfl⟩, hts (.static yX3_textByte) (by decide +kernel), trivial⟩ (RdP.preS (fun k q h => by simp at h) hE) rfl rfl hl.1 rfl (lv_room (Nat.le_of_ble_eq_true rfl)) dX1_lineByte_65 ⟨Nat.zero_le _, Nat.zero_le _⟩) (fun r6 er6 => ?_)
        subst er6
        exact W.iret (v := (f_tb (f_fld n nu st de row 0) ((at_ - 1) - 1))) hx hb hr (fun t ht hW => ⟨_, rfl, by simp only [f_lb, f_lbF, if_pos hR, if_neg c1, if_neg c48, if_neg c52], ht⟩) t_nil dX1_lineByte_68
      refine lv_bipush (v := 32) hx hb dX1_lineByte_55 (by decide) ?_
      refine lv_goto (tgt := 68) hx hb dX1_lineByte_57 (by decide) ?_
      exact W.iret (v := 32) hx hb hr (fun t ht hW => ⟨_, rfl, by simp only [f_lb, f_lbF, if_pos hR, if_neg c1, if_neg c48, if_pos c52], ht⟩) t_nil dX1_lineByte_68
    refine lv_aload_n hx hb dX1_lineByte_4 rfl (lv_at hl 0 rfl) ?_
    refine lv_iload_n hx hb dX1_lineByte_5 rfl (lv_at hl 1 rfl) ?_
    refine x_ri (va_runV (As := [.int row]) (rest := []) ⟨hx, hb, hml, hown, hts⟩ (ct_X1_letterOf l G h0 h1 h2 h3 h4 h5 key n nu st de su mk row hc) (cwV 1 hts gX1_lineByte_X1_letterOf rfl rfl rfl (by decide +kernel) ⟨Nat.le_of_ble_eq_true rfl, Nat.le_of_ble_eq_true rfl⟩) (RdP.preV 0 2 rfl rfl hP hE) rfl rfl hl.1 rfl (lv_room (Nat.le_of_ble_eq_true rfl)) dX1_lineByte_6 ⟨Nat.zero_le _, Nat.zero_le _⟩) (fun r7 er7 => ?_)
    subst er7
    exact W.iret (v := (f_let n st row)) hx hb hr (fun t ht hW => ⟨_, rfl, by simp only [f_lb, f_lbF, if_pos hR, if_pos c1], ht⟩) t_nil dX1_lineByte_9
  · have hf : f_fct n st row = 3 := by simp only [f_fct, if_neg hR]
    refine lv_iload_n hx hb dX1_lineByte_0 rfl (lv_at hl 2 rfl) ?_
    refine lv_if_ne (tgt := 10) hx hb dX1_lineByte_1 (by decide) (fun c1 => ?_) (fun c1 => ?_)
    · refine lv_iload_n hx hb dX1_lineByte_10 rfl (lv_at hl 2 rfl) ?_
      refine lv_iconst (v := 1) hx hb dX1_lineByte_11 (by decide) ?_
      refine lv_isub hx hb dX1_lineByte_12 ?_
      refine lv_istore_n (lv' := [(3, .int (at_ - 1)), (0, .ref h0), (1, .int row), (2, .int at_)]) hx hb dX1_lineByte_13 rfl hl (by decide) rfl (fun ls hl => ?_)
      refine lv_iconst (v := 0) hx hb dX1_lineByte_14 (by decide) ?_
      refine lv_istore (lv' := [(4, .int 0), (3, .int (at_ - 1)), (0, .ref h0), (1, .int row), (2, .int at_)]) hx hb dX1_lineByte_15 hl (by decide) rfl (fun ls hl => ?_)
      refine lv_iload hx hb dX1_lineByte_17 (lv_at hl 0 rfl) ?_
      refine lv_aload_n hx hb dX1_lineByte_19 rfl (lv_at hl 2 rfl) ?_
      refine lv_iload_n hx hb dX1_lineByte_20 rfl (lv_at hl 3 rfl) ?_
      refine x_ri (va_runV (As := [.int row]) (rest := [.int 0]) ⟨hx, hb, hml, hown, hts⟩ (ct_X1_fieldCount l G h0 h1 h2 h3 h4 h5 key n nu st de su mk row hc) (cwV 1 hts gX1_lineByte_X1_fieldCount rfl rfl rfl (by decide +kernel) ⟨Nat.le_of_ble_eq_true rfl, Nat.le_of_ble_eq_true rfl⟩) (RdP.preV 0 2 rfl rfl hP hE) rfl rfl hl.1 rfl (lv_room (Nat.le_of_ble_eq_true rfl)) dX1_lineByte_21 ⟨Nat.zero_le _, Nat.zero_le _⟩) (fun r8 er8 => ?_)
      subst er8
      rw [hf]
      refine lv_icmp_ge (tgt := 80) hx hb dX1_lineByte_24 (by decide) (fun c24 => absurd c24 (by decide)) (fun c24 => ?_)
      refine lv_aload_n hx hb dX1_lineByte_27 rfl (lv_at hl 2 rfl) ?_
      refine lv_iload_n hx hb dX1_lineByte_28 rfl (lv_at hl 3 rfl) ?_
      refine lv_iload hx hb dX1_lineByte_29 (lv_at hl 0 rfl) ?_
      refine x_rl (va_runV (As := [.int row, .int 0]) (rest := []) ⟨hx, hb, hml, hown, hts⟩ (ct_X1_fieldOf l G h0 h1 h2 h3 h4 h5 key n nu st de su mk row 0 hc) (cwV 2 hts gX1_lineByte_X1_fieldOf rfl rfl rfl (by decide +kernel) ⟨Nat.le_of_ble_eq_true rfl, Nat.le_of_ble_eq_true rfl⟩) (RdP.preV 0 2 rfl rfl hP hE) rfl rfl hl.1 rfl (lv_room (Nat.le_of_ble_eq_true rfl)) dX1_lineByte_31 ⟨Nat.zero_le _, Nat.zero_le _⟩) (fun r9 er9 => ?_)
      subst er9
      refine lv_lstore (lv' := [(5, .long (f_fld n nu st de row 0)), (4, .int 0), (3, .int (at_ - 1)), (0, .ref h0), (1, .int row), (2, .int at_)]) hx hb dX1_lineByte_34 hl (by decide) rfl (fun ls hl => ?_)
      refine lv_iconst (v := 1) hx hb dX1_lineByte_36 (by decide) ?_
      refine lv_lload hx hb dX1_lineByte_37 (lv_at hl 0 rfl) ?_
      refine x_ri (va_runSN (As := [.long (f_fld n nu st de row 0)]) (rest := [.int 1]) ⟨hx, hb, hml, hown, hts⟩ (ct_X3_textLength l G (f_fld n nu st de row 0)) ⟨va_cnB 1 hts gX1_lineByte_X3_textLength_n97 rfl rfl rfl hE.2.1.2.2.2.2.2.2.1 (hts (.initialized RX3) (by decide +kernel)) (by decide +kernel) ⟨Nat.le_of_ble_eq_true rfl, Nat.le_of_ble_eq_true rfl⟩, hts (.static yX3_textLength) (by decide +kernel), trivial⟩ (RdP.preS (fun k q h => by simp at h) hE) rfl rfl hl.1 rfl (lv_room (Nat.le_of_ble_eq_true rfl)) dX1_lineByte_39 ⟨Nat.zero_le _, Nat.zero_le _⟩) (fun r10 er10 => ?_)
      subst er10
      refine lv_iadd hx hb dX1_lineByte_42 ?_
      refine lv_istore (lv' := [(7, .int (1 + (nI (f_len (f_fld n nu st de row 0))))), (5, .long (f_fld n nu st de row 0)), (4, .int 0), (3, .int (at_ - 1)), (0, .ref h0), (1, .int row), (2, .int at_)]) hx hb dX1_lineByte_43 hl (by decide) rfl (fun ls hl => ?_)
      refine lv_iload_n hx hb dX1_lineByte_45 rfl (lv_at hl 3 rfl) ?_
      refine lv_iload hx hb dX1_lineByte_46 (lv_at hl 0 rfl) ?_
      refine lv_icmp_ge (tgt := 69) hx hb dX1_lineByte_48 (by decide) (fun c48 => ?_) (fun c48 => ?_)
      · refine lv_iload_n hx hb dX1_lineByte_69 rfl (lv_at hl 3 rfl) ?_
        refine lv_iload hx hb dX1_lineByte_70 (lv_at hl 0 rfl) ?_
        refine lv_isub hx hb dX1_lineByte_72 ?_
        refine lv_istore_n (lv' := [(3, .int ((at_ - 1) - (1 + (nI (f_len (f_fld n nu st de row 0)))))), (7, .int (1 + (nI (f_len (f_fld n nu st de row 0))))), (5, .long (f_fld n nu st de row 0)), (4, .int 0), (0, .ref h0), (1, .int row), (2, .int at_)]) hx hb dX1_lineByte_73 rfl hl (by decide) rfl (fun ls hl => ?_)
        refine lv_iinc (v := 1) (lv' := [(4, .int 1), (3, .int ((at_ - 1) - (1 + (nI (f_len (f_fld n nu st de row 0)))))), (7, .int (1 + (nI (f_len (f_fld n nu st de row 0))))), (5, .long (f_fld n nu st de row 0)), (0, .ref h0), (1, .int row), (2, .int at_)]) hx hb dX1_lineByte_74 hl (k := 3) rfl (by decide) (by decide) rfl (fun ls hl => ?_)
        refine lv_goto (tgt := 17) hx hb dX1_lineByte_77 (by decide) ?_
        refine lv_iload hx hb dX1_lineByte_17 (lv_at hl 0 rfl) ?_
        refine lv_aload_n hx hb dX1_lineByte_19 rfl (lv_at hl 4 rfl) ?_
        refine lv_iload_n hx hb dX1_lineByte_20 rfl (lv_at hl 5 rfl) ?_
        refine x_ri (va_runV (As := [.int row]) (rest := [.int 1]) ⟨hx, hb, hml, hown, hts⟩ (ct_X1_fieldCount l G h0 h1 h2 h3 h4 h5 key n nu st de su mk row hc) (cwV 1 hts gX1_lineByte_X1_fieldCount rfl rfl rfl (by decide +kernel) ⟨Nat.le_of_ble_eq_true rfl, Nat.le_of_ble_eq_true rfl⟩) (RdP.preV 0 2 rfl rfl hP hE) rfl rfl hl.1 rfl (lv_room (Nat.le_of_ble_eq_true rfl)) dX1_lineByte_21 ⟨Nat.zero_le _, Nat.zero_le _⟩) (fun r11 er11 => ?_)
        subst er11
        rw [hf]
        refine lv_icmp_ge (tgt := 80) hx hb dX1_lineByte_24 (by decide) (fun c24 => absurd c24 (by decide)) (fun c24 => ?_)
        refine lv_aload_n hx hb dX1_lineByte_27 rfl (lv_at hl 4 rfl) ?_
        refine lv_iload_n hx hb dX1_lineByte_28 rfl (lv_at hl 5 rfl) ?_
        refine lv_iload hx hb dX1_lineByte_29 (lv_at hl 0 rfl) ?_
        refine x_rl (va_runV (As := [.int row, .int 1]) (rest := []) ⟨hx, hb, hml, hown, hts⟩ (ct_X1_fieldOf l G h0 h1 h2 h3 h4 h5 key n nu st de su mk row 1 hc) (cwV 2 hts gX1_lineByte_X1_fieldOf rfl rfl rfl (by decide +kernel) ⟨Nat.le_of_ble_eq_true rfl, Nat.le_of_ble_eq_true rfl⟩) (RdP.preV 0 2 rfl rfl hP hE) rfl rfl hl.1 rfl (lv_room (Nat.le_of_ble_eq_true rfl)) dX1_lineByte_31 ⟨Nat.zero_le _, Nat.zero_le _⟩) (fun r12 er12 => ?_)
        subst er12
        refine lv_lstore (lv' := [(5, .long (f_fld n nu st de row 1)), (4, .int 1), (3, .int ((at_ - 1) - (1 + (nI (f_len (f_fld n nu st de row 0)))))), (7, .int (1 + (nI (f_len (f_fld n nu st de row 0))))), (0, .ref h0), (1, .int row), (2, .int at_)]) hx hb dX1_lineByte_34 hl (by decide) rfl (fun ls hl => ?_)
        refine lv_iconst (v := 1) hx hb dX1_lineByte_36 (by decide) ?_
        refine lv_lload hx hb dX1_lineByte_37 (lv_at hl 0 rfl) ?_
        refine x_ri (va_runSN (As := [.long (f_fld n nu st de row 1)]) (rest := [.int 1]) ⟨hx, hb, hml, hown, hts⟩ (ct_X3_textLength l G (f_fld n nu st de row 1)) ⟨va_cnB 1 hts gX1_lineByte_X3_textLength_n97 rfl rfl rfl hE.2.1.2.2.2.2.2.2.1 (hts (.initialized RX3) (by decide +kernel)) (by decide +kernel) ⟨Nat.le_of_ble_eq_true rfl, Nat.le_of_ble_eq_true rfl⟩, hts (.static yX3_textLength) (by decide +kernel), trivial⟩ (RdP.preS (fun k q h => by simp at h) hE) rfl rfl hl.1 rfl (lv_room (Nat.le_of_ble_eq_true rfl)) dX1_lineByte_39 ⟨Nat.zero_le _, Nat.zero_le _⟩) (fun r13 er13 => ?_)
        subst er13
        refine lv_iadd hx hb dX1_lineByte_42 ?_
        refine lv_istore (lv' := [(7, .int (1 + (nI (f_len (f_fld n nu st de row 1))))), (5, .long (f_fld n nu st de row 1)), (4, .int 1), (3, .int ((at_ - 1) - (1 + (nI (f_len (f_fld n nu st de row 0)))))), (0, .ref h0), (1, .int row), (2, .int at_)]) hx hb dX1_lineByte_43 hl (by decide) rfl (fun ls hl => ?_)
        refine lv_iload_n hx hb dX1_lineByte_45 rfl (lv_at hl 3 rfl) ?_
        refine lv_iload hx hb dX1_lineByte_46 (lv_at hl 0 rfl) ?_
        refine lv_icmp_ge (tgt := 69) hx hb dX1_lineByte_48 (by decide) (fun c48_2 => ?_) (fun c48_2 => ?_)
        · refine lv_iload_n hx hb dX1_lineByte_69 rfl (lv_at hl 3 rfl) ?_
          refine lv_iload hx hb dX1_lineByte_70 (lv_at hl 0 rfl) ?_
          refine lv_isub hx hb dX1_lineByte_72 ?_
          refine lv_istore_n (lv' := [(3, .int (((at_ - 1) - (1 + (nI (f_len (f_fld n nu st de row 0))))) - (1 + (nI (f_len (f_fld n nu st de row 1)))))), (7, .int (1 + (nI (f_len (f_fld n nu st de row 1))))), (5, .long (f_fld n nu st de row 1)), (4, .int 1), (0, .ref h0), (1, .int row), (2, .int at_)]) hx hb dX1_lineByte_73 rfl hl (by decide) rfl (fun ls hl => ?_)
          refine lv_iinc (v := 2) (lv' := [(4, .int 2), (3, .int (((at_ - 1) - (1 + (nI (f_len (f_fld n nu st de row 0))))) - (1 + (nI (f_len (f_fld n nu st de row 1)))))), (7, .int (1 + (nI (f_len (f_fld n nu st de row 1))))), (5, .long (f_fld n nu st de row 1)), (0, .ref h0), (1, .int row), (2, .int at_)]) hx hb dX1_lineByte_74 hl (k := 3) rfl (by decide) (by decide) rfl (fun ls hl => ?_)
          refine lv_goto (tgt := 17) hx hb dX1_lineByte_77 (by decide) ?_
          refine lv_iload hx hb dX1_lineByte_17 (lv_at hl 0 rfl) ?_
          refine lv_aload_n hx hb dX1_lineByte_19 rfl (lv_at hl 4 rfl) ?_
          refine lv_iload_n hx hb dX1_lineByte_20 rfl (lv_at hl 5 rfl) ?_
          refine x_ri (va_runV (As := [.int row]) (rest := [.int 2]) ⟨hx, hb, hml, hown, hts⟩ (ct_X1_fieldCount l G h0 h1 h2 h3 h4 h5 key n nu st de su mk row hc) (cwV 1 hts gX1_lineByte_X1_fieldCount rfl rfl rfl (by decide +kernel) ⟨Nat.le_of_ble_eq_true rfl, Nat.le_of_ble_eq_true rfl⟩) (RdP.preV 0 2 rfl rfl hP hE) rfl rfl hl.1 rfl (lv_room (Nat.le_of_ble_eq_true rfl)) dX1_lineByte_21 ⟨Nat.zero_le _, Nat.zero_le _⟩) (fun r14 er14 => ?_)
          subst er14
          rw [hf]
          refine lv_icmp_ge (tgt := 80) hx hb dX1_lineByte_24 (by decide) (fun c24 => absurd c24 (by decide)) (fun c24 => ?_)
          refine lv_aload_n hx hb dX1_lineByte_27 rfl (lv_at hl 4 rfl) ?_
          refine lv_iload_n hx hb dX1_lineByte_28 rfl (lv_at hl 5 rfl) ?_
          refine lv_iload hx hb dX1_lineByte_29 (lv_at hl 0 rfl) ?_
          refine x_rl (va_runV (As := [.int row, .int 2]) (rest := []) ⟨hx, hb, hml, hown, hts⟩ (ct_X1_fieldOf l G h0 h1 h2 h3 h4 h5 key n nu st de su mk row 2 hc) (cwV 2 hts gX1_lineByte_X1_fieldOf rfl rfl rfl (by decide +kernel) ⟨Nat.le_of_ble_eq_true rfl, Nat.le_of_ble_eq_true rfl⟩) (RdP.preV 0 2 rfl rfl hP hE) rfl rfl hl.1 rfl (lv_room (Nat.le_of_ble_eq_true rfl)) dX1_lineByte_31 ⟨Nat.zero_le _, Nat.zero_le _⟩) (fun r15 er15 => ?_)
          subst er15
          refine lv_lstore (lv' := [(5, .long (f_fld n nu st de row 2)), (4, .int 2), (3, .int (((at_ - 1) - (1 + (nI (f_len (f_fld n nu st de row 0))))) - (1 + (nI (f_len (f_fld n nu st de row 1)))))), (7, .int (1 + (nI (f_len (f_fld n nu st de row 1))))), (0, .ref h0), (1, .int row), (2, .int at_)]) hx hb dX1_lineByte_34 hl (by decide) rfl (fun ls hl => ?_)
          refine lv_iconst (v := 1) hx hb dX1_lineByte_36 (by decide) ?_
          refine lv_lload hx hb dX1_lineByte_37 (lv_at hl 0 rfl) ?_
          refine x_ri (va_runSN (As := [.long (f_fld n nu st de row 2)]) (rest := [.int 1]) ⟨hx, hb, hml, hown, hts⟩ (ct_X3_textLength l G (f_fld n nu st de row 2)) ⟨va_cnB 1 hts gX1_lineByte_X3_textLength_n97 rfl rfl rfl hE.2.1.2.2.2.2.2.2.1 (hts (.initialized RX3) (by decide +kernel)) (by decide +kernel) ⟨Nat.le_of_ble_eq_true rfl, Nat.le_of_ble_eq_true rfl⟩, hts (.static yX3_textLength) (by decide +kernel), trivial⟩ (RdP.preS (fun k q h => by simp at h) hE) rfl rfl hl.1 rfl (lv_room (Nat.le_of_ble_eq_true rfl)) dX1_lineByte_39 ⟨Nat.zero_le _, Nat.zero_le _⟩) (fun r16 er16 => ?_)
          subst er16
          refine lv_iadd hx hb dX1_lineByte_42 ?_
          refine lv_istore (lv' := [(7, .int (1 + (nI (f_len (f_fld n nu st de row 2))))), (5, .long (f_fld n nu st de row 2)), (4, .int 2), (3, .int (((at_ - 1) - (1 + (nI (f_len (f_fld n nu st de row 0))))) - (1 + (nI (f_len (f_fld n nu st de row 1)))))), (0, .ref h0), (1, .int row), (2, .int at_)]) hx hb dX1_lineByte_43 hl (by decide) rfl (fun ls hl => ?_)
          refine lv_iload_n hx hb dX1_lineByte_45 rfl (lv_at hl 3 rfl) ?_
          refine lv_iload hx hb dX1_lineByte_46 (lv_at hl 0 rfl) ?_
          refine lv_icmp_ge (tgt := 69) hx hb dX1_lineByte_48 (by decide) (fun c48_3 => ?_) (fun c48_3 => ?_)
          · refine lv_iload_n hx hb dX1_lineByte_69 rfl (lv_at hl 3 rfl) ?_
            refine lv_iload hx hb dX1_lineByte_70 (lv_at hl 0 rfl) ?_
            refine lv_isub hx hb dX1_lineByte_72 ?_
            refine lv_istore_n (lv' := [(3, .int ((((at_ - 1) - (1 + (nI (f_len (f_fld n nu st de row 0))))) - (1 + (nI (f_len (f_fld n nu st de row 1))))) - (1 + (nI (f_len (f_fld n nu st de row 2)))))), (7, .int (1 + (nI (f_len (f_fld n nu st de row 2))))), (5, .long (f_fld n nu st de row 2)), (4, .int 2), (0, .ref h0), (1, .int row), (2, .int at_)]) hx hb dX1_lineByte_73 rfl hl (by decide) rfl (fun ls hl => ?_)
            refine lv_iinc (v := 3) (lv' := [(4, .int 3), (3, .int ((((at_ - 1) - (1 + (nI (f_len (f_fld n nu st de row 0))))) - (1 + (nI (f_len (f_fld n nu st de row 1))))) - (1 + (nI (f_len (f_fld n nu st de row 2)))))), (7, .int (1 + (nI (f_len (f_fld n nu st de row 2))))), (5, .long (f_fld n nu st de row 2)), (0, .ref h0), (1, .int row), (2, .int at_)]) hx hb dX1_lineByte_74 hl (k := 3) rfl (by decide) (by decide) rfl (fun ls hl => ?_)
            refine lv_goto (tgt := 17) hx hb dX1_lineByte_77 (by decide) ?_
            refine lv_iload hx hb dX1_lineByte_17 (lv_at hl 0 rfl) ?_
            refine lv_aload_n hx hb dX1_lineByte_19 rfl (lv_at hl 4 rfl) ?_
            refine lv_iload_n hx hb dX1_lineByte_20 rfl (lv_at hl 5 rfl) ?_
            refine x_ri (va_runV (As := [.int row]) (rest := [.int 3]) ⟨hx, hb, hml, hown, hts⟩ (ct_X1_fieldCount l G h0 h1 h2 h3 h4 h5 key n nu st de su mk row hc) (cwV 1 hts gX1_lineByte_X1_fieldCount rfl rfl rfl (by decide +kernel) ⟨Nat.le_of_ble_eq_true rfl, Nat.le_of_ble_eq_true rfl⟩) (RdP.preV 0 2 rfl rfl hP hE) rfl rfl hl.1 rfl (lv_room (Nat.le_of_ble_eq_true rfl)) dX1_lineByte_21 ⟨Nat.zero_le _, Nat.zero_le _⟩) (fun r17 er17 => ?_)
            subst er17
            rw [hf]
            refine lv_icmp_ge (tgt := 80) hx hb dX1_lineByte_24 (by decide) (fun c24 => ?_) (fun c24 => absurd c24 (by decide))
            refine lv_aload_n hx hb dX1_lineByte_80 rfl (lv_at hl 4 rfl) ?_
            refine lv_iload_n hx hb dX1_lineByte_81 rfl (lv_at hl 5 rfl) ?_
            refine x_ri (va_runV (As := [.int row]) (rest := []) ⟨hx, hb, hml, hown, hts⟩ (ct_X1_hasMark l G h0 h1 h2 h3 h4 h5 key n nu st de su mk row hc) (cwV 1 hts gX1_lineByte_X1_hasMark rfl rfl rfl (by decide +kernel) ⟨Nat.le_of_ble_eq_true rfl, Nat.le_of_ble_eq_true rfl⟩) (RdP.preV 0 2 rfl rfl hP hE) rfl rfl hl.1 rfl (lv_room (Nat.le_of_ble_eq_true rfl)) dX1_lineByte_82 ⟨Nat.zero_le _, Nat.zero_le _⟩) (fun r18 er18 => ?_)
            subst er18
            refine lv_if_eq (tgt := 105) hx hb dX1_lineByte_85 (by decide) (fun c85 => ?_) (fun c85 => ?_)
            · refine lv_bipush (v := 10) hx hb dX1_lineByte_105 (by decide) ?_
              exact W.iret (v := 10) hx hb hr (fun t ht hW => ⟨_, rfl, by simp only [f_lb, f_lbF, if_neg hR, if_neg c1, if_pos c48, if_pos c48_2, if_pos c48_3, if_pos c85], ht⟩) t_nil dX1_lineByte_107
            refine lv_iload_n hx hb dX1_lineByte_88 rfl (lv_at hl 1 rfl) ?_
            refine lv_iconst (v := 2) hx hb dX1_lineByte_89 (by decide) ?_
            refine lv_icmp_ge (tgt := 105) hx hb dX1_lineByte_90 (by decide) (fun c90 => ?_) (fun c90 => ?_)
            · refine lv_bipush (v := 10) hx hb dX1_lineByte_105 (by decide) ?_
              exact W.iret (v := 10) hx hb hr (fun t ht hW => ⟨_, rfl, by simp only [f_lb, f_lbF, if_neg hR, if_neg c1, if_pos c48, if_pos c48_2, if_pos c48_3, if_neg c85, if_pos c90], ht⟩) t_nil dX1_lineByte_107
            refine lv_iload_n hx hb dX1_lineByte_93 rfl (lv_at hl 1 rfl) ?_
            refine lv_if_ne (tgt := 102) hx hb dX1_lineByte_94 (by decide) (fun c94 => ?_) (fun c94 => ?_)
            · refine lv_bipush (v := 42) hx hb dX1_lineByte_102 (by decide) ?_
              exact W.iret (v := 42) hx hb hr (fun t ht hW => ⟨_, rfl, by simp only [f_lb, f_lbF, if_neg hR, if_neg c1, if_pos c48, if_pos c48_2, if_pos c48_3, if_neg c85, if_neg c90, if_neg c94], ht⟩) t_nil dX1_lineByte_104
            refine lv_bipush (v := 32) hx hb dX1_lineByte_97 (by decide) ?_
            refine lv_goto (tgt := 104) hx hb dX1_lineByte_99 (by decide) ?_
            exact W.iret (v := 32) hx hb hr (fun t ht hW => ⟨_, rfl, by simp only [f_lb, f_lbF, if_neg hR, if_neg c1, if_pos c48, if_pos c48_2, if_pos c48_3, if_neg c85, if_neg c90, if_pos c94], ht⟩) t_nil dX1_lineByte_104
          refine lv_iload_n hx hb dX1_lineByte_51 rfl (lv_at hl 3 rfl) ?_
          refine lv_if_ne (tgt := 60) hx hb dX1_lineByte_52 (by decide) (fun c52 => ?_) (fun c52 => ?_)
          · refine lv_lload hx hb dX1_lineByte_60 (lv_at hl 1 rfl) ?_
            refine lv_iload_n hx hb dX1_lineByte_62 rfl (lv_at hl 3 rfl) ?_
            refine lv_iconst (v := 1) hx hb dX1_lineByte_63 (by decide) ?_
            refine lv_isub hx hb dX1_lineByte_64 ?_
            refine x_ri (va_runSN (As := [.long (f_fld n nu st de row 2), .int ((((at_ - 1) - (1 + (nI (f_len (f_fld n nu st de row 0))))) - (1 + (nI (f_len (f_fld n nu st de row 1))))) - 1)]) (rest := []) ⟨hx, hb, hml, hown, hts⟩ (ct_X3_textByte l G (f_fld n nu st de row 2) ((((at_ - 1) - (1 + (nI (f_len (f_fld n nu st de row 0))))) - (1 + (nI (f_len (f_fld n nu st de row 1))))) - 1)) ⟨va_cnB 2 hts gX1_lineByte_X3_textByte_n107 rfl rfl rfl hE.2.1.2.2.2.2.1 (hts (.initialized RX3) (by decide +kernel)) (by decide +kernel) ⟨Nat.le_of_ble_eq_true rfl, Nat.le_of_ble_eq_true rfl⟩, hts (.static yX3_textByte) (by decide +kernel), trivial⟩ (RdP.preS (fun k q h => by simp at h) hE) rfl rfl hl.1 rfl (lv_room (Nat.le_of_ble_eq_true rfl)) dX1_lineByte_65 ⟨Nat.zero_le _, Nat.zero_le _⟩) (fun r19 er19 => ?_)
            subst er19
            exact W.iret (v := (f_tb (f_fld n nu st de row 2) ((((at_ - 1) - (1 + (nI (f_len (f_fld n nu st de row 0))))) - (1 + (nI (f_len (f_fld n nu st de row 1))))) - 1))) hx hb hr (fun t ht hW => ⟨_, rfl, by simp only [f_lb, f_lbF, if_neg hR, if_neg c1, if_pos c48, if_pos c48_2, if_neg c48_3, if_neg c52], ht⟩) t_nil dX1_lineByte_68
          refine lv_bipush (v := 32) hx hb dX1_lineByte_55 (by decide) ?_
          refine lv_goto (tgt := 68) hx hb dX1_lineByte_57 (by decide) ?_
          exact W.iret (v := 32) hx hb hr (fun t ht hW => ⟨_, rfl, by simp only [f_lb, f_lbF, if_neg hR, if_neg c1, if_pos c48, if_pos c48_2, if_neg c48_3, if_pos c52], ht⟩) t_nil dX1_lineByte_68
        refine lv_iload_n hx hb dX1_lineByte_51 rfl (lv_at hl 3 rfl) ?_
        refine lv_if_ne (tgt := 60) hx hb dX1_lineByte_52 (by decide) (fun c52 => ?_) (fun c52 => ?_)
        · refine lv_lload hx hb dX1_lineByte_60 (lv_at hl 1 rfl) ?_
          refine lv_iload_n hx hb dX1_lineByte_62 rfl (lv_at hl 3 rfl) ?_
          refine lv_iconst (v := 1) hx hb dX1_lineByte_63 (by decide) ?_
          refine lv_isub hx hb dX1_lineByte_64 ?_
          refine x_ri (va_runSN (As := [.long (f_fld n nu st de row 1), .int (((at_ - 1) - (1 + (nI (f_len (f_fld n nu st de row 0))))) - 1)]) (rest := []) ⟨hx, hb, hml, hown, hts⟩ (ct_X3_textByte l G (f_fld n nu st de row 1) (((at_ - 1) - (1 + (nI (f_len (f_fld n nu st de row 0))))) - 1)) ⟨va_cnB 2 hts gX1_lineByte_X3_textByte_n107 rfl rfl rfl hE.2.1.2.2.2.2.1 (hts (.initialized RX3) (by decide +kernel)) (by decide +kernel) ⟨Nat.le_of_ble_eq_true rfl, Nat.le_of_ble_eq_true rfl⟩, hts (.static yX3_textByte) (by decide +kernel), trivial⟩ (RdP.preS (fun k q h => by simp at h) hE) rfl rfl hl.1 rfl (lv_room (Nat.le_of_ble_eq_true rfl)) dX1_lineByte_65 ⟨Nat.zero_le _, Nat.zero_le _⟩) (fun r20 er20 => ?_)
          subst er20
          exact W.iret (v := (f_tb (f_fld n nu st de row 1) (((at_ - 1) - (1 + (nI (f_len (f_fld n nu st de row 0))))) - 1))) hx hb hr (fun t ht hW => ⟨_, rfl, by simp only [f_lb, f_lbF, if_neg hR, if_neg c1, if_pos c48, if_neg c48_2, if_neg c52], ht⟩) t_nil dX1_lineByte_68
        refine lv_bipush (v := 32) hx hb dX1_lineByte_55 (by decide) ?_
        refine lv_goto (tgt := 68) hx hb dX1_lineByte_57 (by decide) ?_
        exact W.iret (v := 32) hx hb hr (fun t ht hW => ⟨_, rfl, by simp only [f_lb, f_lbF, if_neg hR, if_neg c1, if_pos c48, if_neg c48_2, if_pos c52], ht⟩) t_nil dX1_lineByte_68
      refine lv_iload_n hx hb dX1_lineByte_51 rfl (lv_at hl 3 rfl) ?_
      refine lv_if_ne (tgt := 60) hx hb dX1_lineByte_52 (by decide) (fun c52 => ?_) (fun c52 => ?_)
      · refine lv_lload hx hb dX1_lineByte_60 (lv_at hl 1 rfl) ?_
        refine lv_iload_n hx hb dX1_lineByte_62 rfl (lv_at hl 3 rfl) ?_
        refine lv_iconst (v := 1) hx hb dX1_lineByte_63 (by decide) ?_
        refine lv_isub hx hb dX1_lineByte_64 ?_
        refine x_ri (va_runSN (As := [.long (f_fld n nu st de row 0), .int ((at_ - 1) - 1)]) (rest := []) ⟨hx, hb, hml, hown, hts⟩ (ct_X3_textByte l G (f_fld n nu st de row 0) ((at_ - 1) - 1)) ⟨va_cnB 2 hts gX1_lineByte_X3_textByte_n107 rfl rfl rfl hE.2.1.2.2.2.2.1 (hts (.initialized RX3) (by decide +kernel)) (by decide +kernel) ⟨Nat.le_of_ble_eq_true rfl, Nat.le_of_ble_eq_true rfl⟩, hts (.static yX3_textByte) (by decide +kernel), trivial⟩ (RdP.preS (fun k q h => by simp at h) hE) rfl rfl hl.1 rfl (lv_room (Nat.le_of_ble_eq_true rfl)) dX1_lineByte_65 ⟨Nat.zero_le _, Nat.zero_le _⟩) (fun r21 er21 => ?_)
        subst er21
        exact W.iret (v := (f_tb (f_fld n nu st de row 0) ((at_ - 1) - 1))) hx hb hr (fun t ht hW => ⟨_, rfl, by simp only [f_lb, f_lbF, if_neg hR, if_neg c1, if_neg c48, if_neg c52], ht⟩) t_nil dX1_lineByte_68
      refine lv_bipush (v := 32) hx hb dX1_lineByte_55 (by decide) ?_
      refine lv_goto (tgt := 68) hx hb dX1_lineByte_57 (by decide) ?_
      exact W.iret (v := 32) hx hb hr (fun t ht hW => ⟨_, rfl, by simp only [f_lb, f_lbF, if_neg hR, if_neg c1, if_neg c48, if_pos c52], ht⟩) t_nil dX1_lineByte_68
    refine lv_aload_n hx hb dX1_lineByte_4 rfl (lv_at hl 0 rfl) ?_
    refine lv_iload_n hx hb dX1_lineByte_5 rfl (lv_at hl 1 rfl) ?_
    refine x_ri (va_runV (As := [.int row]) (rest := []) ⟨hx, hb, hml, hown, hts⟩ (ct_X1_letterOf l G h0 h1 h2 h3 h4 h5 key n nu st de su mk row hc) (cwV 1 hts gX1_lineByte_X1_letterOf rfl rfl rfl (by decide +kernel) ⟨Nat.le_of_ble_eq_true rfl, Nat.le_of_ble_eq_true rfl⟩) (RdP.preV 0 2 rfl rfl hP hE) rfl rfl hl.1 rfl (lv_room (Nat.le_of_ble_eq_true rfl)) dX1_lineByte_6 ⟨Nat.zero_le _, Nat.zero_le _⟩) (fun r22 er22 => ?_)
    subst er22
    exact W.iret (v := (f_let n st row)) hx hb hr (fun t ht hW => ⟨_, rfl, by simp only [f_lb, f_lbF, if_neg hR, if_pos c1], ht⟩) t_nil dX1_lineByte_9

set_option maxHeartbeats 4000000 in
set_option maxRecDepth 100000 in
/-- rollByte -/
theorem ct_X1_rollByte (l : Launch) (G : Gx) (h0 h1 h2 h3 h4 h5 : Nat) (key : Int64) (n : Nat) (nu st : Nat → Int64) (de : Nat → Int32) (su : Nat → Int64) (mk : Nat → Int32) (ix : Int32) (hc : n ≤ 200) : Met l yX1_rollByte wsX1_rollByte ({ frames := 4, cells := 0, slots := 0, locals := 90 }) (RdP G (wR G h0 h1 h2 h3 h4 h5 key (nI n) nu st de su mk) [.ref h0, .int ix]) (vp_Si (fun r => r = f_roll n nu st de mk ix)) 0 0 (fun _ => False) := by
  refine Met.ofW (cc := cX1_rollByte) (maxL := 5) (ret := (some .int)) (by decide) rfl ?_
  intro p e s m args below meth c s₁ B hml hv
  obtain ⟨rfl, hP, hE⟩ := hv
  have hx := B.exec
  have hb := B.bytes
  have hr := B.returns
  have hts := atoms_spec (ws := wsX1_rollByte) B.pre
  have hown : s.vm.findClass RX1 = some m.cls := findClass_of_methodNamed B.named
  have hlocks := B.notSynchronized
  have hiX1 : ∀ w ∈ wsX10, w ∈ wsX1_rollByte := by decide +kernel
  have hl := lv_entry ([.ref h0, .int ix]) (n := 5) (Nat.le_of_ble_eq_true rfl)
  rw [lg_entry_eq]
  generalize (lg_sl ([.ref h0, .int ix]) ++ List.replicate (5 - (lg_sl ([.ref h0, .int ix])).length) Slot.unset).toArray = ls at hl ⊢
  replace hl : lv_has ls 5 [(0, .ref h0), (1, .int ix)] := hl
  refine lv_iload_n hx hb dX1_rollByte_0 rfl (lv_at hl 1 rfl) ?_
  refine lv_if_ge (tgt := 6) hx hb dX1_rollByte_1 (by decide) (fun c1 => ?_) (fun c1 => ?_)
  · refine lv_iload_n hx hb dX1_rollByte_6 rfl (lv_at hl 1 rfl) ?_
    refine lv_istore_n (lv' := [(2, .int ix), (0, .ref h0), (1, .int ix)]) hx hb dX1_rollByte_7 rfl hl (by decide) rfl (fun ls hl => ?_)
    refine lv_iconst (v := 0) hx hb dX1_rollByte_8 (by decide) ?_
    refine lv_istore_n (lv' := [(3, .int 0), (2, .int ix), (0, .ref h0), (1, .int ix)]) hx hb dX1_rollByte_9 rfl hl (by decide) rfl (fun ls hl => ?_)
    obtain ⟨i, hi⟩ : ∃ i : Nat, i = 0 := ⟨_, rfl⟩
    obtain ⟨left, hle⟩ : ∃ b : Int32, b = ix := ⟨_, rfl⟩
    replace hl : lv_has ls 5 [(3, .int (nI i)), (2, .int left), (0, .ref h0), (1, .int ix)] := by rw [hi, hle]; exact hl
    obtain ⟨k, hk⟩ : ∃ k : Nat, i + k = n := ⟨n - i, by omega⟩
    have hv : f_rollF n nu st de mk k i left = f_roll n nu st de mk ix := by rw [hi, hle, show k = n by omega]; simp only [f_roll, if_pos c1]
    clear hi hle
    induction k generalizing i ls left with
    | zero =>
      refine lv_iload_n hx hb dX1_rollByte_10 rfl (lv_at hl 0 rfl) ?_
      refine lv_aload_n hx hb dX1_rollByte_11 rfl (lv_at hl 2 rfl) ?_
      refine va_get (D := G.1) (ci := 2) (v := .int (nI n)) (C := RX1) (T := TX1) (N := 7) hx hb hts hiX1 hown hE.1 hP 0 rfl rfl 6 (by decide) (hts (.fieldLink RX1 33 "MeterSeals$Rows" "count" "I") (by decide +kernel)) (fun _ h9 => h9) rfl dX1_rollByte_12 ?_
      refine lv_icmp_ge (tgt := 49) hx hb dX1_rollByte_15 (by decide) (fun c15 => ?_) (fun c15 => absurd (nI_le (by omega) (by omega)) c15)
      refine lv_iconst (v := (-1)) hx hb dX1_rollByte_49 (by decide) ?_
      exact W.iret (v := (-1)) hx hb hr (fun t ht hW => ⟨_, rfl, by rw [← hv]; rfl, ht⟩) t_nil dX1_rollByte_50
    | succ k ih =>
      refine lv_iload_n hx hb dX1_rollByte_10 rfl (lv_at hl 0 rfl) ?_
      refine lv_aload_n hx hb dX1_rollByte_11 rfl (lv_at hl 2 rfl) ?_
      refine va_get (D := G.1) (ci := 2) (v := .int (nI n)) (C := RX1) (T := TX1) (N := 7) hx hb hts hiX1 hown hE.1 hP 0 rfl rfl 6 (by decide) (hts (.fieldLink RX1 33 "MeterSeals$Rows" "count" "I") (by decide +kernel)) (fun _ h9 => h9) rfl dX1_rollByte_12 ?_
      refine lv_icmp_ge (tgt := 49) hx hb dX1_rollByte_15 (by decide) (fun c15 => absurd c15 (nI_ge (by omega) (by omega))) (fun c15 => ?_)
      refine lv_aload_n hx hb dX1_rollByte_18 rfl (lv_at hl 2 rfl) ?_
      refine lv_iload_n hx hb dX1_rollByte_19 rfl (lv_at hl 0 rfl) ?_
      refine x_ri (va_runV (As := [.int (nI i)]) (rest := []) ⟨hx, hb, hml, hown, hts⟩ (ct_X1_lineLength l G h0 h1 h2 h3 h4 h5 key n nu st de su mk (nI i) hc) (cwV 1 hts gX1_rollByte_X1_lineLength rfl rfl rfl (by decide +kernel) ⟨Nat.le_of_ble_eq_true rfl, Nat.le_of_ble_eq_true rfl⟩) (RdP.preV 0 2 rfl rfl hP hE) rfl rfl hl.1 rfl (lv_room (Nat.le_of_ble_eq_true rfl)) dX1_rollByte_20 ⟨Nat.zero_le _, Nat.zero_le _⟩) (fun r1 er1 => ?_)
      subst er1
      refine lv_istore (lv' := [(4, .int (f_ll n nu st de mk (nI i))), (3, .int (nI i)), (2, .int left), (0, .ref h0), (1, .int ix)]) hx hb dX1_rollByte_23 hl (by decide) rfl (fun ls hl => ?_)
      refine lv_iload_n hx hb dX1_rollByte_25 rfl (lv_at hl 2 rfl) ?_
      refine lv_iload hx hb dX1_rollByte_26 (lv_at hl 0 rfl) ?_
      refine lv_icmp_ge (tgt := 38) hx hb dX1_rollByte_28 (by decide) (fun c28 => ?_) (fun c28 => ?_)
      · refine lv_iload_n hx hb dX1_rollByte_38 rfl (lv_at hl 2 rfl) ?_
        refine lv_iload hx hb dX1_rollByte_39 (lv_at hl 0 rfl) ?_
        refine lv_isub hx hb dX1_rollByte_41 ?_
        refine lv_istore_n (lv' := [(2, .int (left - (f_ll n nu st de mk (nI i)))), (4, .int (f_ll n nu st de mk (nI i))), (3, .int (nI i)), (0, .ref h0), (1, .int ix)]) hx hb dX1_rollByte_42 rfl hl (by decide) rfl (fun ls hl => ?_)
        refine lv_iinc (v := (nI (i + 1))) (lv' := [(3, .int (nI (i + 1))), (2, .int (left - (f_ll n nu st de mk (nI i)))), (4, .int (f_ll n nu st de mk (nI i))), (0, .ref h0), (1, .int ix)]) hx hb dX1_rollByte_43 hl (k := 2) rfl (nI_1 i) (by decide) rfl (fun ls hl => ?_)
        refine lv_goto (tgt := 10) hx hb dX1_rollByte_46 (by decide) ?_
        exact ih ls (i + 1) (left - (f_ll n nu st de mk (nI i))) (lv_sub hl [0, 1, 3, 4] rfl) (by omega) (by simpa only [f_rollF, if_pos c28] using hv)
      refine lv_aload_n hx hb dX1_rollByte_31 rfl (lv_at hl 3 rfl) ?_
      refine lv_iload_n hx hb dX1_rollByte_32 rfl (lv_at hl 1 rfl) ?_
      refine lv_iload_n hx hb dX1_rollByte_33 rfl (lv_at hl 2 rfl) ?_
      refine x_ri (va_runV (As := [.int (nI i), .int left]) (rest := []) ⟨hx, hb, hml, hown, hts⟩ (ct_X1_lineByte l G h0 h1 h2 h3 h4 h5 key n nu st de su mk (nI i) left hc) (cwV 2 hts gX1_rollByte_X1_lineByte rfl rfl rfl (by decide +kernel) ⟨Nat.le_of_ble_eq_true rfl, Nat.le_of_ble_eq_true rfl⟩) (RdP.preV 0 2 rfl rfl hP hE) rfl rfl hl.1 rfl (lv_room (Nat.le_of_ble_eq_true rfl)) dX1_rollByte_34 ⟨Nat.zero_le _, Nat.zero_le _⟩) (fun r2 er2 => ?_)
      subst er2
      exact W.iret (v := (f_lb n nu st de mk (nI i) left)) hx hb hr (fun t ht hW => ⟨_, rfl, by rw [← hv]; simp only [f_rollF, if_neg c28], ht⟩) t_nil dX1_rollByte_37
  refine lv_iconst (v := (-1)) hx hb dX1_rollByte_4 (by decide) ?_
  exact W.iret (v := (-1)) hx hb hr (fun t ht hW => ⟨_, rfl, by simp only [f_roll, if_neg c1], ht⟩) t_nil dX1_rollByte_5

set_option maxHeartbeats 4000000 in
set_option maxRecDepth 100000 in
/-- Table.put -/
theorem ct_X2_put (l : Launch) (G : Gx) (t0 t1 t2 t3 : Nat) (n : Nat) (ts : Nat → Int32) (ta tb : Nat → Int64) (d : Int32) (a b : Int64) (hc : n ≤ 16) : Met l yX2_put wsX2_put ({ frames := 1, cells := 0, slots := 0, locals := 25 }) (WrP G (wT G t0 t1 t2 t3 (nI n) ts ta tb) [.ref t0, .int d, .long a, .long b]) (va_Qi (fun r (u : va_W) => (f_put n ts d a b = 0 ∧ r = 0 ∧ u = wT G t0 t1 t2 t3 (nI n) ts ta tb) ∨ (f_put n ts d a b = 1 ∧ r = 1 ∧ u = wT G t0 t1 t2 t3 (f_max (nI n) (f_place n ts d + 1)) (upd ts (f_place n ts d).toNatClampNeg d) (vp_updL ta (f_place n ts d).toNatClampNeg a) (vp_updL tb (f_place n ts d).toNatClampNeg b))) (fun u t => va_P G.1 vwCl u t.heap) (adr (wT G t0 t1 t2 t3 (nI n) ts ta tb))) 0 0 (adr (wT G t0 t1 t2 t3 (nI n) ts ta tb)) := by
  refine Met.ofW (cc := cX2_put) (maxL := 8) (ret := (some .boolean)) (by decide) rfl ?_
  intro p e s m args below meth c s₁ B hml hv
  obtain ⟨rfl, hP, hE, hD0⟩ := hv
  have hx := B.exec
  have hb := B.bytes
  have hr := B.returns
  have hts := atoms_spec (ws := wsX2_put) B.pre
  have hown : s.vm.findClass RX2 = some m.cls := findClass_of_methodNamed B.named
  have hlocks := B.notSynchronized
  have hD : va_D (adr (wT G t0 t1 t2 t3 (nI n) ts ta tb)) (wT G t0 t1 t2 t3 (nI n) ts ta tb) := ⟨hD0.1, fun k q hk => ⟨k, q.2, hk⟩⟩
  generalize adr (wT G t0 t1 t2 t3 (nI n) ts ta tb) = A at hD ⊢
  have hS : va_S A s.heap s.heap [] := va_S.rf
  have hiX2 : ∀ w ∈ wsX20, w ∈ wsX2_put := by decide +kernel
  have hl := lv_entry ([.ref t0, .int d, .long a, .long b]) (n := 8) (Nat.le_of_ble_eq_true rfl)
  rw [lg_entry_eq]
  generalize (lg_sl ([.ref t0, .int d, .long a, .long b]) ++ List.replicate (8 - (lg_sl ([.ref t0, .int d, .long a, .long b])).length) Slot.unset).toArray = ls at hl ⊢
  replace hl : lv_has ls 8 [(0, .ref t0), (1, .int d), (2, .long a), (4, .long b)] := hl
  refine lv_iload_n hx hb dX2_put_0 rfl (lv_at hl 1 rfl) ?_
  refine lv_i2l (v := d.toInt64) hx hb dX2_put_1 rfl ?_
  refine lv_ldc2 (v := (-50)) hx hb hown (hts (.constantLong RX2 26 (-50)) (by decide +kernel)) dX2_put_2 ?_
  refine lv_ldc2 (v := 150) hx hb hown (hts (.constantLong RX2 28 150) (by decide +kernel)) dX2_put_5 ?_
  refine x_ri (va_runSN (As := [.long d.toInt64, .long (-50), .long 150]) (rest := []) ⟨hx, hb, hml, hown, hts⟩ (ct_X3_within l G d.toInt64 (-50) 150) ⟨va_cnB 3 hts gX2_put_X3_within_n30 rfl rfl rfl hE.2.1.2.2.2.2.2.2.2 (hts (.initialized RX3) (by decide +kernel)) (by decide +kernel) ⟨Nat.le_of_ble_eq_true rfl, Nat.le_of_ble_eq_true rfl⟩, hts (.static yX3_within) (by decide +kernel), trivial⟩ (RdP.preS (fun k q h => by simp at h) hE) rfl rfl hl.1 rfl (lv_room (Nat.le_of_ble_eq_true rfl)) dX2_put_8 ⟨Nat.zero_le _, Nat.zero_le _⟩) (fun r1 er1 => ?_)
  subst er1
  refine lv_if_eq (tgt := 41) hx hb dX2_put_11 (by decide) (fun c11 => ?_) (fun c11 => ?_)
  · refine lv_iconst (v := 0) hx hb dX2_put_41 (by decide) ?_
    refine lv_istore (lv' := [(6, .int 0), (0, .ref t0), (1, .int d), (2, .long a), (4, .long b)]) hx hb dX2_put_42 hl (by decide) rfl (fun ls hl => ?_)
    refine lv_aload_n hx hb dX2_put_44 rfl (lv_at hl 1 rfl) ?_
    refine lv_iload_n hx hb dX2_put_45 rfl (lv_at hl 2 rfl) ?_
    refine x_ri (va_runV (As := [.int d]) (rest := []) ⟨hx, hb, hml, hown, hts⟩ (ct_X2_placeFor l G t0 t1 t2 t3 n ts ta tb d hc) (cwV 1 hts gX2_put_X2_placeFor rfl rfl rfl (by decide +kernel) ⟨Nat.le_of_ble_eq_true rfl, Nat.le_of_ble_eq_true rfl⟩) (RdP.preV 0 3 rfl rfl hP hE) rfl rfl hl.1 rfl (lv_room (Nat.le_of_ble_eq_true rfl)) dX2_put_46 ⟨Nat.zero_le _, Nat.zero_le _⟩) (fun r2 er2 => ?_)
    subst er2
    refine lv_istore (lv' := [(7, .int (f_place n ts d)), (6, .int 0), (0, .ref t0), (1, .int d), (2, .long a), (4, .long b)]) hx hb dX2_put_49 hl (by decide) rfl (fun ls hl => ?_)
    refine lv_iload hx hb dX2_put_51 (lv_at hl 1 rfl) ?_
    refine lv_if_eq (tgt := 63) hx hb dX2_put_53 (by decide) (fun c53 => ?_) (fun c53 => absurd c53 (by decide))
    refine lv_iconst (v := 0) hx hb dX2_put_63 (by decide) ?_
    exact W.zret (v := 0) hx hb hr (zb (Or.inl rfl)) (fun t ht hW => ⟨⟨0, wT G t0 t1 t2 t3 (nI n) ts ta tb, rfl, Or.inl ⟨by simp only [f_put, if_pos c11], rfl, rfl⟩, by show va_P _ _ _ t.heap; rw [ht]; exact hP⟩, hS.F ht⟩) hS.2.2 dX2_put_64
  refine lv_lload_n hx hb dX2_put_14 rfl (lv_at hl 2 rfl) ?_
  refine lv_lconst (v := 1) hx hb dX2_put_15 (by decide) ?_
  refine lv_ldc2 (v := 10000) hx hb hown (hts (.constantLong RX2 34 10000) (by decide +kernel)) dX2_put_16 ?_
  refine x_ri (va_runSN (As := [.long a, .long 1, .long 10000]) (rest := []) ⟨hx, hb, hml, hown, hts⟩ (ct_X3_within l G a 1 10000) ⟨va_cnB 3 hts gX2_put_X3_within_n30 rfl rfl rfl hE.2.1.2.2.2.2.2.2.2 (hts (.initialized RX3) (by decide +kernel)) (by decide +kernel) ⟨Nat.le_of_ble_eq_true rfl, Nat.le_of_ble_eq_true rfl⟩, hts (.static yX3_within) (by decide +kernel), trivial⟩ (RdP.preS (fun k q h => by simp at h) hE) rfl rfl hl.1 rfl (lv_room (Nat.le_of_ble_eq_true rfl)) dX2_put_19 ⟨Nat.zero_le _, Nat.zero_le _⟩) (fun r3 er3 => ?_)
  subst er3
  refine lv_if_eq (tgt := 41) hx hb dX2_put_22 (by decide) (fun c22 => ?_) (fun c22 => ?_)
  · refine lv_iconst (v := 0) hx hb dX2_put_41 (by decide) ?_
    refine lv_istore (lv' := [(6, .int 0), (0, .ref t0), (1, .int d), (2, .long a), (4, .long b)]) hx hb dX2_put_42 hl (by decide) rfl (fun ls hl => ?_)
    refine lv_aload_n hx hb dX2_put_44 rfl (lv_at hl 1 rfl) ?_
    refine lv_iload_n hx hb dX2_put_45 rfl (lv_at hl 2 rfl) ?_
    refine x_ri (va_runV (As := [.int d]) (rest := []) ⟨hx, hb, hml, hown, hts⟩ (ct_X2_placeFor l G t0 t1 t2 t3 n ts ta tb d hc) (cwV 1 hts gX2_put_X2_placeFor rfl rfl rfl (by decide +kernel) ⟨Nat.le_of_ble_eq_true rfl, Nat.le_of_ble_eq_true rfl⟩) (RdP.preV 0 3 rfl rfl hP hE) rfl rfl hl.1 rfl (lv_room (Nat.le_of_ble_eq_true rfl)) dX2_put_46 ⟨Nat.zero_le _, Nat.zero_le _⟩) (fun r4 er4 => ?_)
    subst er4
    refine lv_istore (lv' := [(7, .int (f_place n ts d)), (6, .int 0), (0, .ref t0), (1, .int d), (2, .long a), (4, .long b)]) hx hb dX2_put_49 hl (by decide) rfl (fun ls hl => ?_)
    refine lv_iload hx hb dX2_put_51 (lv_at hl 1 rfl) ?_
    refine lv_if_eq (tgt := 63) hx hb dX2_put_53 (by decide) (fun c53 => ?_) (fun c53 => absurd c53 (by decide))
    refine lv_iconst (v := 0) hx hb dX2_put_63 (by decide) ?_
    exact W.zret (v := 0) hx hb hr (zb (Or.inl rfl)) (fun t ht hW => ⟨⟨0, wT G t0 t1 t2 t3 (nI n) ts ta tb, rfl, Or.inl ⟨by simp only [f_put, if_neg c11, if_pos c22], rfl, rfl⟩, by show va_P _ _ _ t.heap; rw [ht]; exact hP⟩, hS.F ht⟩) hS.2.2 dX2_put_64
  refine lv_lload hx hb dX2_put_25 (lv_at hl 3 rfl) ?_
  refine lv_lconst (v := 1) hx hb dX2_put_27 (by decide) ?_
  refine lv_ldc2 (v := 10000) hx hb hown (hts (.constantLong RX2 34 10000) (by decide +kernel)) dX2_put_28 ?_
  refine x_ri (va_runSN (As := [.long b, .long 1, .long 10000]) (rest := []) ⟨hx, hb, hml, hown, hts⟩ (ct_X3_within l G b 1 10000) ⟨va_cnB 3 hts gX2_put_X3_within_n30 rfl rfl rfl hE.2.1.2.2.2.2.2.2.2 (hts (.initialized RX3) (by decide +kernel)) (by decide +kernel) ⟨Nat.le_of_ble_eq_true rfl, Nat.le_of_ble_eq_true rfl⟩, hts (.static yX3_within) (by decide +kernel), trivial⟩ (RdP.preS (fun k q h => by simp at h) hE) rfl rfl hl.1 rfl (lv_room (Nat.le_of_ble_eq_true rfl)) dX2_put_31 ⟨Nat.zero_le _, Nat.zero_le _⟩) (fun r5 er5 => ?_)
  subst er5
  refine lv_if_eq (tgt := 41) hx hb dX2_put_34 (by decide) (fun c34 => ?_) (fun c34 => ?_)
  · refine lv_iconst (v := 0) hx hb dX2_put_41 (by decide) ?_
    refine lv_istore (lv' := [(6, .int 0), (0, .ref t0), (1, .int d), (2, .long a), (4, .long b)]) hx hb dX2_put_42 hl (by decide) rfl (fun ls hl => ?_)
    refine lv_aload_n hx hb dX2_put_44 rfl (lv_at hl 1 rfl) ?_
    refine lv_iload_n hx hb dX2_put_45 rfl (lv_at hl 2 rfl) ?_
    refine x_ri (va_runV (As := [.int d]) (rest := []) ⟨hx, hb, hml, hown, hts⟩ (ct_X2_placeFor l G t0 t1 t2 t3 n ts ta tb d hc) (cwV 1 hts gX2_put_X2_placeFor rfl rfl rfl (by decide +kernel) ⟨Nat.le_of_ble_eq_true rfl, Nat.le_of_ble_eq_true rfl⟩) (RdP.preV 0 3 rfl rfl hP hE) rfl rfl hl.1 rfl (lv_room (Nat.le_of_ble_eq_true rfl)) dX2_put_46 ⟨Nat.zero_le _, Nat.zero_le _⟩) (fun r6 er6 => ?_)
    subst er6
    refine lv_istore (lv' := [(7, .int (f_place n ts d)), (6, .int 0), (0, .ref t0), (1, .int d), (2, .long a), (4, .long b)]) hx hb dX2_put_49 hl (by decide) rfl (fun ls hl => ?_)
    refine lv_iload hx hb dX2_put_51 (lv_at hl 1 rfl) ?_
    refine lv_if_eq (tgt := 63) hx hb dX2_put_53 (by decide) (fun c53 => ?_) (fun c53 => absurd c53 (by decide))
    refine lv_iconst (v := 0) hx hb dX2_put_63 (by decide) ?_
    exact W.zret (v := 0) hx hb hr (zb (Or.inl rfl)) (fun t ht hW => ⟨⟨0, wT G t0 t1 t2 t3 (nI n) ts ta tb, rfl, Or.inl ⟨by simp only [f_put, if_neg c11, if_neg c22, if_pos c34], rfl, rfl⟩, by show va_P _ _ _ t.heap; rw [ht]; exact hP⟩, hS.F ht⟩) hS.2.2 dX2_put_64
  refine lv_iconst (v := 1) hx hb dX2_put_37 (by decide) ?_
  refine lv_goto (tgt := 42) hx hb dX2_put_38 (by decide) ?_
  refine lv_istore (lv' := [(6, .int 1), (0, .ref t0), (1, .int d), (2, .long a), (4, .long b)]) hx hb dX2_put_42 hl (by decide) rfl (fun ls hl => ?_)
  refine lv_aload_n hx hb dX2_put_44 rfl (lv_at hl 1 rfl) ?_
  refine lv_iload_n hx hb dX2_put_45 rfl (lv_at hl 2 rfl) ?_
  refine x_ri (va_runV (As := [.int d]) (rest := []) ⟨hx, hb, hml, hown, hts⟩ (ct_X2_placeFor l G t0 t1 t2 t3 n ts ta tb d hc) (cwV 1 hts gX2_put_X2_placeFor rfl rfl rfl (by decide +kernel) ⟨Nat.le_of_ble_eq_true rfl, Nat.le_of_ble_eq_true rfl⟩) (RdP.preV 0 3 rfl rfl hP hE) rfl rfl hl.1 rfl (lv_room (Nat.le_of_ble_eq_true rfl)) dX2_put_46 ⟨Nat.zero_le _, Nat.zero_le _⟩) (fun r7 er7 => ?_)
  subst er7
  refine lv_istore (lv' := [(7, .int (f_place n ts d)), (6, .int 1), (0, .ref t0), (1, .int d), (2, .long a), (4, .long b)]) hx hb dX2_put_49 hl (by decide) rfl (fun ls hl => ?_)
  refine lv_iload hx hb dX2_put_51 (lv_at hl 1 rfl) ?_
  refine lv_if_eq (tgt := 63) hx hb dX2_put_53 (by decide) (fun c53 => absurd c53 (by decide)) (fun c53 => ?_)
  refine lv_iload hx hb dX2_put_56 (lv_at hl 0 rfl) ?_
  refine lv_bipush (v := 16) hx hb dX2_put_58 (by decide) ?_
  refine lv_icmp_lt (tgt := 65) hx hb dX2_put_60 (by decide) (fun c60 => ?_) (fun c60 => ?_)
  · refine lv_aload_n hx hb dX2_put_65 rfl (lv_at hl 2 rfl) ?_
    refine va_get (D := G.1) (ci := 3) (v := .ref t1) (C := RX2) (T := TX2) (N := 4) hx hb hts hiX2 hown hE.1 hP 0 rfl rfl 0 (by decide) (hts (.fieldLink RX2 9 "MeterSeals$Table" "starts" "[I") (by decide +kernel)) (fun _ h9 => h9) rfl dX2_put_66 ?_
    refine lv_iload hx hb dX2_put_69 (lv_at hl 0 rfl) ?_
    refine lv_iload_n hx hb dX2_put_71 rfl (lv_at hl 3 rfl) ?_
    refine va_iast hx hb hE.1 hP hD hS 1 0 rfl rfl (place_in hc c60) dX2_put_72 (fun H locs hP hD hS => ?_)
    have hP : va_P G.1 vwCl (wT G t0 t1 t2 t3 (nI n) (upd ts (f_place n ts d).toNatClampNeg d) ta tb) H := hP
    have hD : va_D A (wT G t0 t1 t2 t3 (nI n) (upd ts (f_place n ts d).toNatClampNeg d) ta tb) := hD
    refine lv_aload_n hx hb dX2_put_73 rfl (lv_at hl 2 rfl) ?_
    refine va_get (D := G.1) (ci := 3) (v := .ref t2) (C := RX2) (T := TX2) (N := 4) hx hb hts hiX2 hown hE.1 hP 0 rfl rfl 1 (by decide) (hts (.fieldLink RX2 15 "MeterSeals$Table" "aboves" "[J") (by decide +kernel)) (fun _ h9 => h9) rfl dX2_put_74 ?_
    refine lv_iload hx hb dX2_put_77 (lv_at hl 0 rfl) ?_
    refine lv_lload_n hx hb dX2_put_79 rfl (lv_at hl 4 rfl) ?_
    refine va_last hx hb hE.1 hP hD hS 2 1 rfl rfl (place_in hc c60) dX2_put_80 (fun H locs hP hD hS => ?_)
    have hP : va_P G.1 vwCl (wT G t0 t1 t2 t3 (nI n) (upd ts (f_place n ts d).toNatClampNeg d) (vp_updL ta (f_place n ts d).toNatClampNeg a) tb) H := hP
    have hD : va_D A (wT G t0 t1 t2 t3 (nI n) (upd ts (f_place n ts d).toNatClampNeg d) (vp_updL ta (f_place n ts d).toNatClampNeg a) tb) := hD
    refine lv_aload_n hx hb dX2_put_81 rfl (lv_at hl 2 rfl) ?_
    refine va_get (D := G.1) (ci := 3) (v := .ref t3) (C := RX2) (T := TX2) (N := 4) hx hb hts hiX2 hown hE.1 hP 0 rfl rfl 2 (by decide) (hts (.fieldLink RX2 19 "MeterSeals$Table" "belows" "[J") (by decide +kernel)) (fun _ h9 => h9) rfl dX2_put_82 ?_
    refine lv_iload hx hb dX2_put_85 (lv_at hl 0 rfl) ?_
    refine lv_lload hx hb dX2_put_87 (lv_at hl 5 rfl) ?_
    refine va_last hx hb hE.1 hP hD hS 3 1 rfl rfl (place_in hc c60) dX2_put_89 (fun H locs hP hD hS => ?_)
    have hP : va_P G.1 vwCl (wT G t0 t1 t2 t3 (nI n) (upd ts (f_place n ts d).toNatClampNeg d) (vp_updL ta (f_place n ts d).toNatClampNeg a) (vp_updL tb (f_place n ts d).toNatClampNeg b)) H := hP
    have hD : va_D A (wT G t0 t1 t2 t3 (nI n) (upd ts (f_place n ts d).toNatClampNeg d) (vp_updL ta (f_place n ts d).toNatClampNeg a) (vp_updL tb (f_place n ts d).toNatClampNeg b)) := hD
    refine lv_aload_n hx hb dX2_put_90 rfl (lv_at hl 2 rfl) ?_
    refine lv_aload_n hx hb dX2_put_91 rfl (lv_at hl 2 rfl) ?_
    refine va_get (D := G.1) (ci := 3) (v := .int (nI n)) (C := RX2) (T := TX2) (N := 4) hx hb hts hiX2 hown hE.1 hP 0 rfl rfl 3 (by decide) (hts (.fieldLink RX2 22 "MeterSeals$Table" "count" "I") (by decide +kernel)) (fun _ h9 => h9) rfl dX2_put_92 ?_
    refine lv_iload hx hb dX2_put_95 (lv_at hl 0 rfl) ?_
    refine lv_iconst (v := 1) hx hb dX2_put_97 (by decide) ?_
    refine lv_iadd hx hb dX2_put_98 ?_
    refine va_mmax hx hb (hml.trans hl.1.symm) hown (hts (.methodLink RX2 40 Lib.Math.max.name) (by decide +kernel)) (hts (.static Lib.Math.max.name) (by decide +kernel)) (hts (.initialized "java/lang/Math") (by decide +kernel)) (hts (.code Lib.Math.max.name Lib.Math.max.code 2 (some .int)) (by decide +kernel)) (Nat.le_of_ble_eq_true rfl) (Nat.le_of_ble_eq_true rfl) (Nat.zero_le _) (Nat.zero_le _) dX2_put_99 ?_
    refine va_put (D := G.1) (ci := 3) (v := .int (if (nI n) < ((f_place n ts d) + 1) then ((f_place n ts d) + 1) else (nI n))) (ty := .int) (C := RX2) (T := TX2) (N := 4) hx hb hts hiX2 tyX2 tyX2_ok nmX2 hown hE.1 hP hD hS 0 rfl rfl 3 (by decide) (hts (.fieldLink RX2 22 "MeterSeals$Table" "count" "I") (by decide +kernel)) (fun _ h9 => h9) rfl (by decide +kernel) rfl rfl (Nat.le_of_ble_eq_true rfl) dX2_put_102 (fun H locs hP hD hS => ?_)
    have hP : va_P G.1 vwCl (wT G t0 t1 t2 t3 (if (nI n) < ((f_place n ts d) + 1) then ((f_place n ts d) + 1) else (nI n)) (upd ts (f_place n ts d).toNatClampNeg d) (vp_updL ta (f_place n ts d).toNatClampNeg a) (vp_updL tb (f_place n ts d).toNatClampNeg b)) H := hP
    have hD : va_D A (wT G t0 t1 t2 t3 (if (nI n) < ((f_place n ts d) + 1) then ((f_place n ts d) + 1) else (nI n)) (upd ts (f_place n ts d).toNatClampNeg d) (vp_updL ta (f_place n ts d).toNatClampNeg a) (vp_updL tb (f_place n ts d).toNatClampNeg b)) := hD
    refine lv_iconst (v := 1) hx hb dX2_put_105 (by decide) ?_
    exact W.zret (v := 1) hx hb hr (zb (Or.inr rfl)) (fun t ht hW => ⟨⟨1, wT G t0 t1 t2 t3 (if (nI n) < ((f_place n ts d) + 1) then ((f_place n ts d) + 1) else (nI n)) (upd ts (f_place n ts d).toNatClampNeg d) (vp_updL ta (f_place n ts d).toNatClampNeg a) (vp_updL tb (f_place n ts d).toNatClampNeg b), rfl, Or.inr ⟨by simp only [f_put, if_neg c11, if_neg c22, if_neg c34, if_pos c60], rfl, rfl⟩, by show va_P _ _ _ t.heap; rw [ht]; exact hP⟩, hS.F ht⟩) hS.2.2 dX2_put_106
  refine lv_iconst (v := 0) hx hb dX2_put_63 (by decide) ?_
  exact W.zret (v := 0) hx hb hr (zb (Or.inl rfl)) (fun t ht hW => ⟨⟨0, wT G t0 t1 t2 t3 (nI n) ts ta tb, rfl, Or.inl ⟨by simp only [f_put, if_neg c11, if_neg c22, if_neg c34, if_neg c60], rfl, rfl⟩, by show va_P _ _ _ t.heap; rw [ht]; exact hP⟩, hS.F ht⟩) hS.2.2 dX2_put_64
end
section
abbrev wM (G : Gx) (m0 t0 t1 t2 t3 h0 h1 h2 h3 h4 h5 : Nat) (sl : Int32) (la : Int64) (tn : Int32) (ts : Nat → Int32) (ta tb : Nat → Int64) (key : Int64) (n : Int32) (nu st : Nat → Int64) (de : Nat → Int32) (su : Nat → Int64) (mk : Nat → Int32) : va_W :=
  [(m0, .inr (1, [.ref t0, .ref h0, .int sl, .long la])), (t0, .inr (3, [.ref t1, .ref t2, .ref t3, .int tn])), (t1, .inl (kI G, 16, .inl ts)), (t2, .inl (kJ G, 16, .inr (.inl ta))), (t3, .inl (kJ G, 16, .inr (.inl tb))), (h0, .inr (2, [.long key, .ref h1, .ref h2, .ref h3, .ref h4, .ref h5, .int n])), (h1, .inl (kJ G, 200, .inr (.inl nu))), (h2, .inl (kJ G, 200, .inr (.inl st))), (h3, .inl (kI G, 200, .inl de)), (h4, .inl (kJ G, 200, .inr (.inl su))), (h5, .inl (kZ G, 200, .inl mk))]
def f_la (tn : Nat) (ts : Nat → Int32) (ta : Nat → Int64) (n : Nat) (nu st : Nat → Int64) (de : Nat → Int32) (row : Int32) : Int64 := f_pul n nu st row * f_above tn ts ta (f_deg n de row)
def f_lbw (tn : Nat) (ts : Nat → Int32) (tb : Nat → Int64) (n : Nat) (st : Nat → Int64) (de : Nat → Int32) (row : Int32) : Int64 := if f_isR n st row = 0 then 1 else f_below tn ts tb (f_deg n de row)
def f_allF (tn : Nat) (ts : Nat → Int32) (ta tb : Nat → Int64) (n : Nat) (nu st : Nat → Int64) (de : Nat → Int32) : Nat → Nat → Int64 → Int64
  | 0, _, acc => acc
  | k + 1, i, acc => f_allF tn ts ta tb n nu st de k (i + 1) (acc + f_quot (f_la tn ts ta n nu st de (nI i) * 1000) (f_lbw tn ts tb n st de (nI i)))
def f_all (tn : Nat) (ts : Nat → Int32) (ta tb : Nat → Int64) (n : Nat) (nu st : Nat → Int64) (de : Nat → Int32) : Int64 := f_allF tn ts ta tb n nu st de n 0 0
def f_fits (tn : Nat) (la number second : Int64) (degrees : Int32) : Int32 :=
  if nI tn ≤ 0 then 0 else if f_within number 0 1000000 = 0 then 0 else if f_within second la 1000000000000 = 0 then 0 else if f_within degrees.toInt64 (-50) 150 = 0 then 0 else 1
def f_tfit (sl person set_ : Int32) : Int32 := if f_within person.toInt64 1 999 = 0 then 0 else if sl = set_ then 0 else 1
end
section
set_option maxHeartbeats 4000000 in
set_option maxRecDepth 100000 in
/-- litresAbove -/
theorem ct_X0_litresAbove (l : Launch) (G : Gx) (m0 t0 t1 t2 t3 h0 h1 h2 h3 h4 h5 : Nat) (sl : Int32) (la : Int64) (tn : Nat) (ts : Nat → Int32) (ta tb : Nat → Int64) (key : Int64) (n : Nat) (nu st : Nat → Int64) (de : Nat → Int32) (su : Nat → Int64) (mk : Nat → Int32) (row : Int32) (hc : n ≤ 200) (ht : tn ≤ 16) : Met l yX0_litresAbove wsX0_litresAbove ({ frames := 3, cells := 0, slots := 0, locals := 67 }) (RdP G (wM G m0 t0 t1 t2 t3 h0 h1 h2 h3 h4 h5 sl la (nI tn) ts ta tb key (nI n) nu st de su mk) [.ref m0, .int row]) (vp_Sl (fun r => r = f_la tn ts ta n nu st de row)) 0 0 (fun _ => False) := by
  refine Met.ofW (cc := cX0_litresAbove) (maxL := 2) (ret := (some .long)) (by decide) rfl ?_
  intro p e s m args below meth c s₁ B hml hv
  obtain ⟨rfl, hP, hE⟩ := hv
  have hx := B.exec
  have hb := B.bytes
  have hr := B.returns
  have hts := atoms_spec (ws := wsX0_litresAbove) B.pre
  have hown : s.vm.findClass RX0 = some m.cls := findClass_of_methodNamed B.named
  have hlocks := B.notSynchronized
  have hiX0 : ∀ w ∈ wsX00, w ∈ wsX0_litresAbove := by decide +kernel
  have hl := lv_entry ([.ref m0, .int row]) (n := 2) (Nat.le_of_ble_eq_true rfl)
  rw [lg_entry_eq]
  generalize (lg_sl ([.ref m0, .int row]) ++ List.replicate (2 - (lg_sl ([.ref m0, .int row])).length) Slot.unset).toArray = ls at hl ⊢
  replace hl : lv_has ls 2 [(0, .ref m0), (1, .int row)] := hl
  refine lv_aload_n hx hb dX0_litresAbove_0 rfl (lv_at hl 0 rfl) ?_
  refine va_get (D := G.1) (ci := 1) (v := .ref h0) (C := RX0) (T := TX0) (N := 4) hx hb hts hiX0 hown hE.1 hP 0 rfl rfl 1 (by decide) (hts (.fieldLink RX0 23 "MeterSeals$Meter" "rows" "LMeterSeals$Rows;") (by decide +kernel)) (fun _ h9 => h9) rfl dX0_litresAbove_1 ?_
  refine lv_iload_n hx hb dX0_litresAbove_4 rfl (lv_at hl 1 rfl) ?_
  refine x_rl (va_runV (As := [.int row]) (rest := []) ⟨hx, hb, hml, hown, hts⟩ (ct_X1_pulsesOf l G h0 h1 h2 h3 h4 h5 key n nu st de su mk row hc) (cwV 1 hts gX0_litresAbove_X1_pulsesOf rfl rfl rfl (by decide +kernel) ⟨Nat.le_of_ble_eq_true rfl, Nat.le_of_ble_eq_true rfl⟩) (RdP.preV 0 2 rfl rfl (x_mid ([(m0, .inr (1, [.ref t0, .ref h0, .int sl, .long la]))] ++ wT G t0 t1 t2 t3 (nI tn) ts ta tb) (wR G h0 h1 h2 h3 h4 h5 key (nI n) nu st de su mk) ([]) rfl hP) hE) rfl rfl hl.1 rfl (lv_room (Nat.le_of_ble_eq_true rfl)) dX0_litresAbove_5 ⟨Nat.zero_le _, Nat.zero_le _⟩) (fun r1 er1 => ?_)
  subst er1
  refine lv_aload_n hx hb dX0_litresAbove_8 rfl (lv_at hl 0 rfl) ?_
  refine va_get (D := G.1) (ci := 1) (v := .ref t0) (C := RX0) (T := TX0) (N := 4) hx hb hts hiX0 hown hE.1 hP 0 rfl rfl 0 (by decide) (hts (.fieldLink RX0 12 "MeterSeals$Meter" "table" "LMeterSeals$Table;") (by decide +kernel)) (fun _ h9 => h9) rfl dX0_litresAbove_9 ?_
  refine lv_aload_n hx hb dX0_litresAbove_12 rfl (lv_at hl 0 rfl) ?_
  refine va_get (D := G.1) (ci := 1) (v := .ref h0) (C := RX0) (T := TX0) (N := 4) hx hb hts hiX0 hown hE.1 hP 0 rfl rfl 1 (by decide) (hts (.fieldLink RX0 23 "MeterSeals$Meter" "rows" "LMeterSeals$Rows;") (by decide +kernel)) (fun _ h9 => h9) rfl dX0_litresAbove_13 ?_
  refine lv_iload_n hx hb dX0_litresAbove_16 rfl (lv_at hl 1 rfl) ?_
  refine x_ri (va_runV (As := [.int row]) (rest := [.ref t0, .long (f_pul n nu st row)]) ⟨hx, hb, hml, hown, hts⟩ (ct_X1_degreesOf l G h0 h1 h2 h3 h4 h5 key n nu st de su mk row hc) (cwV 1 hts gX0_litresAbove_X1_degreesOf rfl rfl rfl (by decide +kernel) ⟨Nat.le_of_ble_eq_true rfl, Nat.le_of_ble_eq_true rfl⟩) (RdP.preV 0 2 rfl rfl (x_mid ([(m0, .inr (1, [.ref t0, .ref h0, .int sl, .long la]))] ++ wT G t0 t1 t2 t3 (nI tn) ts ta tb) (wR G h0 h1 h2 h3 h4 h5 key (nI n) nu st de su mk) ([]) rfl hP) hE) rfl rfl hl.1 rfl (lv_room (Nat.le_of_ble_eq_true rfl)) dX0_litresAbove_17 ⟨Nat.zero_le _, Nat.zero_le _⟩) (fun r2 er2 => ?_)
  subst er2
  refine x_rl (va_runV (As := [.int (f_deg n de row)]) (rest := [.long (f_pul n nu st row)]) ⟨hx, hb, hml, hown, hts⟩ (ct_X2_aboveAt l G t0 t1 t2 t3 tn ts ta tb (f_deg n de row) ht) (cwV 1 hts gX0_litresAbove_X2_aboveAt rfl rfl rfl (by decide +kernel) ⟨Nat.le_of_ble_eq_true rfl, Nat.le_of_ble_eq_true rfl⟩) (RdP.preV 0 3 rfl rfl (x_mid ([(m0, .inr (1, [.ref t0, .ref h0, .int sl, .long la]))]) (wT G t0 t1 t2 t3 (nI tn) ts ta tb) (wR G h0 h1 h2 h3 h4 h5 key (nI n) nu st de su mk) rfl hP) hE) rfl rfl hl.1 rfl (lv_room (Nat.le_of_ble_eq_true rfl)) dX0_litresAbove_20 ⟨Nat.zero_le _, Nat.zero_le _⟩) (fun r3 er3 => ?_)
  subst er3
  refine lv_lmul hx hb dX0_litresAbove_23 ?_
  exact W.lret (v := ((f_pul n nu st row) * (f_above tn ts ta (f_deg n de row)))) hx hb hr (fun t ht hW => ⟨_, rfl, rfl, ht⟩) t_nil dX0_litresAbove_24

set_option maxHeartbeats 4000000 in
set_option maxRecDepth 100000 in
/-- litresBelow -/
theorem ct_X0_litresBelow (l : Launch) (G : Gx) (m0 t0 t1 t2 t3 h0 h1 h2 h3 h4 h5 : Nat) (sl : Int32) (la : Int64) (tn : Nat) (ts : Nat → Int32) (ta tb : Nat → Int64) (key : Int64) (n : Nat) (nu st : Nat → Int64) (de : Nat → Int32) (su : Nat → Int64) (mk : Nat → Int32) (row : Int32) (hc : n ≤ 200) (ht : tn ≤ 16) : Met l yX0_litresBelow wsX0_litresBelow ({ frames := 3, cells := 0, slots := 0, locals := 67 }) (RdP G (wM G m0 t0 t1 t2 t3 h0 h1 h2 h3 h4 h5 sl la (nI tn) ts ta tb key (nI n) nu st de su mk) [.ref m0, .int row]) (vp_Sl (fun r => r = f_lbw tn ts tb n st de row)) 0 0 (fun _ => False) := by
  refine Met.ofW (cc := cX0_litresBelow) (maxL := 2) (ret := (some .long)) (by decide) rfl ?_
  intro p e s m args below meth c s₁ B hml hv
  obtain ⟨rfl, hP, hE⟩ := hv
  have hx := B.exec
  have hb := B.bytes
  have hr := B.returns
  have hts := atoms_spec (ws := wsX0_litresBelow) B.pre
  have hown : s.vm.findClass RX0 = some m.cls := findClass_of_methodNamed B.named
  have hlocks := B.notSynchronized
  have hiX0 : ∀ w ∈ wsX00, w ∈ wsX0_litresBelow := by decide +kernel
  have hl := lv_entry ([.ref m0, .int row]) (n := 2) (Nat.le_of_ble_eq_true rfl)
  rw [lg_entry_eq]
  generalize (lg_sl ([.ref m0, .int row]) ++ List.replicate (2 - (lg_sl ([.ref m0, .int row])).length) Slot.unset).toArray = ls at hl ⊢
  replace hl : lv_has ls 2 [(0, .ref m0), (1, .int row)] := hl
  refine lv_aload_n hx hb dX0_litresBelow_0 rfl (lv_at hl 0 rfl) ?_
  refine va_get (D := G.1) (ci := 1) (v := .ref h0) (C := RX0) (T := TX0) (N := 4) hx hb hts hiX0 hown hE.1 hP 0 rfl rfl 1 (by decide) (hts (.fieldLink RX0 23 "MeterSeals$Meter" "rows" "LMeterSeals$Rows;") (by decide +kernel)) (fun _ h9 => h9) rfl dX0_litresBelow_1 ?_
  refine lv_iload_n hx hb dX0_litresBelow_4 rfl (lv_at hl 1 rfl) ?_
  refine x_ri (va_runV (As := [.int row]) (rest := []) ⟨hx, hb, hml, hown, hts⟩ (ct_X1_isReading l G h0 h1 h2 h3 h4 h5 key n nu st de su mk row hc) (cwV 1 hts gX0_litresBelow_X1_isReading rfl rfl rfl (by decide +kernel) ⟨Nat.le_of_ble_eq_true rfl, Nat.le_of_ble_eq_true rfl⟩) (RdP.preV 0 2 rfl rfl (x_mid ([(m0, .inr (1, [.ref t0, .ref h0, .int sl, .long la]))] ++ wT G t0 t1 t2 t3 (nI tn) ts ta tb) (wR G h0 h1 h2 h3 h4 h5 key (nI n) nu st de su mk) ([]) rfl hP) hE) rfl rfl hl.1 rfl (lv_room (Nat.le_of_ble_eq_true rfl)) dX0_litresBelow_5 ⟨Nat.zero_le _, Nat.zero_le _⟩) (fun r1 er1 => ?_)
  subst er1
  refine lv_if_eq (tgt := 29) hx hb dX0_litresBelow_8 (by decide) (fun c8 => ?_) (fun c8 => ?_)
  · refine lv_lconst (v := 1) hx hb dX0_litresBelow_29 (by decide) ?_
    exact W.lret (v := 1) hx hb hr (fun t ht hW => ⟨_, rfl, by simp only [f_lbw, if_pos c8], ht⟩) t_nil dX0_litresBelow_30
  refine lv_aload_n hx hb dX0_litresBelow_11 rfl (lv_at hl 0 rfl) ?_
  refine va_get (D := G.1) (ci := 1) (v := .ref t0) (C := RX0) (T := TX0) (N := 4) hx hb hts hiX0 hown hE.1 hP 0 rfl rfl 0 (by decide) (hts (.fieldLink RX0 12 "MeterSeals$Meter" "table" "LMeterSeals$Table;") (by decide +kernel)) (fun _ h9 => h9) rfl dX0_litresBelow_12 ?_
  refine lv_aload_n hx hb dX0_litresBelow_15 rfl (lv_at hl 0 rfl) ?_
  refine va_get (D := G.1) (ci := 1) (v := .ref h0) (C := RX0) (T := TX0) (N := 4) hx hb hts hiX0 hown hE.1 hP 0 rfl rfl 1 (by decide) (hts (.fieldLink RX0 23 "MeterSeals$Meter" "rows" "LMeterSeals$Rows;") (by decide +kernel)) (fun _ h9 => h9) rfl dX0_litresBelow_16 ?_
  refine lv_iload_n hx hb dX0_litresBelow_19 rfl (lv_at hl 1 rfl) ?_
  refine x_ri (va_runV (As := [.int row]) (rest := [.ref t0]) ⟨hx, hb, hml, hown, hts⟩ (ct_X1_degreesOf l G h0 h1 h2 h3 h4 h5 key n nu st de su mk row hc) (cwV 1 hts gX0_litresBelow_X1_degreesOf rfl rfl rfl (by decide +kernel) ⟨Nat.le_of_ble_eq_true rfl, Nat.le_of_ble_eq_true rfl⟩) (RdP.preV 0 2 rfl rfl (x_mid ([(m0, .inr (1, [.ref t0, .ref h0, .int sl, .long la]))] ++ wT G t0 t1 t2 t3 (nI tn) ts ta tb) (wR G h0 h1 h2 h3 h4 h5 key (nI n) nu st de su mk) ([]) rfl hP) hE) rfl rfl hl.1 rfl (lv_room (Nat.le_of_ble_eq_true rfl)) dX0_litresBelow_20 ⟨Nat.zero_le _, Nat.zero_le _⟩) (fun r2 er2 => ?_)
  subst er2
  refine x_rl (va_runV (As := [.int (f_deg n de row)]) (rest := []) ⟨hx, hb, hml, hown, hts⟩ (ct_X2_belowAt l G t0 t1 t2 t3 tn ts ta tb (f_deg n de row) ht) (cwV 1 hts gX0_litresBelow_X2_belowAt rfl rfl rfl (by decide +kernel) ⟨Nat.le_of_ble_eq_true rfl, Nat.le_of_ble_eq_true rfl⟩) (RdP.preV 0 3 rfl rfl (x_mid ([(m0, .inr (1, [.ref t0, .ref h0, .int sl, .long la]))]) (wT G t0 t1 t2 t3 (nI tn) ts ta tb) (wR G h0 h1 h2 h3 h4 h5 key (nI n) nu st de su mk) rfl hP) hE) rfl rfl hl.1 rfl (lv_room (Nat.le_of_ble_eq_true rfl)) dX0_litresBelow_23 ⟨Nat.zero_le _, Nat.zero_le _⟩) (fun r3 er3 => ?_)
  subst er3
  refine lv_goto (tgt := 30) hx hb dX0_litresBelow_26 (by decide) ?_
  exact W.lret (v := (f_below tn ts tb (f_deg n de row))) hx hb hr (fun t ht hW => ⟨_, rfl, by simp only [f_lbw, if_neg c8], ht⟩) t_nil dX0_litresBelow_30

set_option maxHeartbeats 4000000 in
set_option maxRecDepth 100000 in
/-- fractionPart -/
theorem ct_X0_fractionPart (l : Launch) (G : Gx) (m0 t0 t1 t2 t3 h0 h1 h2 h3 h4 h5 : Nat) (sl : Int32) (la : Int64) (tn : Nat) (ts : Nat → Int32) (ta tb : Nat → Int64) (key : Int64) (n : Nat) (nu st : Nat → Int64) (de : Nat → Int32) (su : Nat → Int64) (mk : Nat → Int32) (row part : Int32) (A0 B0 : Nat) (hc : n ≤ 200) (ht : tn ≤ 16) (hA : f_la tn ts ta n nu st de row = lN A0) (hB : f_lbw tn ts tb n st de row = lN B0) (hA2 : A0 < 2 ^ 62) (hB2 : B0 < 2 ^ 14) : Met l yX0_fractionPart wsX0_fractionPart ({ frames := 4, cells := 0, slots := 0, locals := 88 }) (RdP G (wM G m0 t0 t1 t2 t3 h0 h1 h2 h3 h4 h5 sl la (nI tn) ts ta tb key (nI n) nu st de su mk) [.ref m0, .int row, .int part]) (vp_Sl (fun r => r = (if part = 0 then f_quot (lN A0) (lN (Nat.gcd A0 B0)) else f_quot (lN B0) (lN (Nat.gcd A0 B0))))) 0 0 (fun _ => False) := by
  refine Met.ofW (cc := cX0_fractionPart) (maxL := 7) (ret := (some .long)) (by decide) rfl ?_
  intro p e s m args below meth c s₁ B hml hv
  obtain ⟨rfl, hP, hE⟩ := hv
  have hx := B.exec
  have hb := B.bytes
  have hr := B.returns
  have hts := atoms_spec (ws := wsX0_fractionPart) B.pre
  have hown : s.vm.findClass RX0 = some m.cls := findClass_of_methodNamed B.named
  have hlocks := B.notSynchronized
  have hl := lv_entry ([.ref m0, .int row, .int part]) (n := 7) (Nat.le_of_ble_eq_true rfl)
  rw [lg_entry_eq]
  generalize (lg_sl ([.ref m0, .int row, .int part]) ++ List.replicate (7 - (lg_sl ([.ref m0, .int row, .int part])).length) Slot.unset).toArray = ls at hl ⊢
  replace hl : lv_has ls 7 [(0, .ref m0), (1, .int row), (2, .int part)] := hl
  refine lv_aload_n hx hb dX0_fractionPart_0 rfl (lv_at hl 0 rfl) ?_
  refine lv_iload_n hx hb dX0_fractionPart_1 rfl (lv_at hl 1 rfl) ?_
  refine x_rl (va_runV (As := [.int row]) (rest := []) ⟨hx, hb, hml, hown, hts⟩ (ct_X0_litresAbove l G m0 t0 t1 t2 t3 h0 h1 h2 h3 h4 h5 sl la tn ts ta tb key n nu st de su mk row hc ht) (cwV 1 hts gX0_fractionPart_X0_litresAbove rfl rfl rfl (by decide +kernel) ⟨Nat.le_of_ble_eq_true rfl, Nat.le_of_ble_eq_true rfl⟩) (RdP.preV 0 1 rfl rfl hP hE) rfl rfl hl.1 rfl (lv_room (Nat.le_of_ble_eq_true rfl)) dX0_fractionPart_2 ⟨Nat.zero_le _, Nat.zero_le _⟩) (fun r1 er1 => ?_)
  subst er1
  refine lv_lstore_n (lv' := [(3, .long (f_la tn ts ta n nu st de row)), (0, .ref m0), (1, .int row), (2, .int part)]) hx hb dX0_fractionPart_5 rfl hl (by decide) rfl (fun ls hl => ?_)
  refine lv_aload_n hx hb dX0_fractionPart_6 rfl (lv_at hl 1 rfl) ?_
  refine lv_iload_n hx hb dX0_fractionPart_7 rfl (lv_at hl 2 rfl) ?_
  refine x_rl (va_runV (As := [.int row]) (rest := []) ⟨hx, hb, hml, hown, hts⟩ (ct_X0_litresBelow l G m0 t0 t1 t2 t3 h0 h1 h2 h3 h4 h5 sl la tn ts ta tb key n nu st de su mk row hc ht) (cwV 1 hts gX0_fractionPart_X0_litresBelow rfl rfl rfl (by decide +kernel) ⟨Nat.le_of_ble_eq_true rfl, Nat.le_of_ble_eq_true rfl⟩) (RdP.preV 0 1 rfl rfl hP hE) rfl rfl hl.1 rfl (lv_room (Nat.le_of_ble_eq_true rfl)) dX0_fractionPart_8 ⟨Nat.zero_le _, Nat.zero_le _⟩) (fun r2 er2 => ?_)
  subst er2
  refine lv_lstore (lv' := [(5, .long (f_lbw tn ts tb n st de row)), (3, .long (f_la tn ts ta n nu st de row)), (0, .ref m0), (1, .int row), (2, .int part)]) hx hb dX0_fractionPart_11 hl (by decide) rfl (fun ls hl => ?_)
  refine lv_iload_n hx hb dX0_fractionPart_13 rfl (lv_at hl 4 rfl) ?_
  refine lv_if_ne (tgt := 21) hx hb dX0_fractionPart_14 (by decide) (fun c14 => ?_) (fun c14 => ?_)
  · refine lv_lload hx hb dX0_fractionPart_21 (lv_at hl 0 rfl) ?_
    refine lv_lload_n hx hb dX0_fractionPart_23 rfl (lv_at hl 1 rfl) ?_
    refine lv_lload hx hb dX0_fractionPart_24 (lv_at hl 0 rfl) ?_
    rw [hA, hB]
    refine x_rl (va_runSN (As := [.long (lN A0), .long (lN B0)]) (rest := [.long (lN B0)]) ⟨hx, hb, hml, hown, hts⟩ (ct_X3_commonDivisor l G A0 B0 hA2 hB2) ⟨va_cnB 2 hts gX0_fractionPart_X3_commonDivisor_n70 rfl rfl rfl hE.2.1.2.2.1 (hts (.initialized RX3) (by decide +kernel)) (by decide +kernel) ⟨Nat.le_of_ble_eq_true rfl, Nat.le_of_ble_eq_true rfl⟩, hts (.static yX3_commonDivisor) (by decide +kernel), trivial⟩ (RdP.preS (fun k q h => by simp at h) hE) rfl rfl hl.1 rfl (lv_room (Nat.le_of_ble_eq_true rfl)) dX0_fractionPart_26 ⟨Nat.zero_le _, Nat.zero_le _⟩) (fun r3 er3 => ?_)
    subst er3
    refine x_rl (va_runSN (As := [.long (lN B0), .long (lN (Nat.gcd A0 B0))]) (rest := []) ⟨hx, hb, hml, hown, hts⟩ (ct_X3_quotient l G (lN B0) (lN (Nat.gcd A0 B0))) ⟨va_cnB 2 hts gX0_fractionPart_X3_quotient_n74 rfl rfl rfl hE.2.1.2.2.2.1 (hts (.initialized RX3) (by decide +kernel)) (by decide +kernel) ⟨Nat.le_of_ble_eq_true rfl, Nat.le_of_ble_eq_true rfl⟩, hts (.static yX3_quotient) (by decide +kernel), trivial⟩ (RdP.preS (fun k q h => by simp at h) hE) rfl rfl hl.1 rfl (lv_room (Nat.le_of_ble_eq_true rfl)) dX0_fractionPart_29 ⟨Nat.zero_le _, Nat.zero_le _⟩) (fun r4 er4 => ?_)
    subst er4
    exact W.lret (v := (f_quot (lN B0) (lN (Nat.gcd A0 B0)))) hx hb hr (fun t ht hW => ⟨_, rfl, by simp only [if_neg c14], ht⟩) t_nil dX0_fractionPart_32
  refine lv_lload_n hx hb dX0_fractionPart_17 rfl (lv_at hl 1 rfl) ?_
  refine lv_goto (tgt := 23) hx hb dX0_fractionPart_18 (by decide) ?_
  refine lv_lload_n hx hb dX0_fractionPart_23 rfl (lv_at hl 1 rfl) ?_
  refine lv_lload hx hb dX0_fractionPart_24 (lv_at hl 0 rfl) ?_
  rw [hA, hB]
  refine x_rl (va_runSN (As := [.long (lN A0), .long (lN B0)]) (rest := [.long (lN A0)]) ⟨hx, hb, hml, hown, hts⟩ (ct_X3_commonDivisor l G A0 B0 hA2 hB2) ⟨va_cnB 2 hts gX0_fractionPart_X3_commonDivisor_n70 rfl rfl rfl hE.2.1.2.2.1 (hts (.initialized RX3) (by decide +kernel)) (by decide +kernel) ⟨Nat.le_of_ble_eq_true rfl, Nat.le_of_ble_eq_true rfl⟩, hts (.static yX3_commonDivisor) (by decide +kernel), trivial⟩ (RdP.preS (fun k q h => by simp at h) hE) rfl rfl hl.1 rfl (lv_room (Nat.le_of_ble_eq_true rfl)) dX0_fractionPart_26 ⟨Nat.zero_le _, Nat.zero_le _⟩) (fun r5 er5 => ?_)
  subst er5
  refine x_rl (va_runSN (As := [.long (lN A0), .long (lN (Nat.gcd A0 B0))]) (rest := []) ⟨hx, hb, hml, hown, hts⟩ (ct_X3_quotient l G (lN A0) (lN (Nat.gcd A0 B0))) ⟨va_cnB 2 hts gX0_fractionPart_X3_quotient_n74 rfl rfl rfl hE.2.1.2.2.2.1 (hts (.initialized RX3) (by decide +kernel)) (by decide +kernel) ⟨Nat.le_of_ble_eq_true rfl, Nat.le_of_ble_eq_true rfl⟩, hts (.static yX3_quotient) (by decide +kernel), trivial⟩ (RdP.preS (fun k q h => by simp at h) hE) rfl rfl hl.1 rfl (lv_room (Nat.le_of_ble_eq_true rfl)) dX0_fractionPart_29 ⟨Nat.zero_le _, Nat.zero_le _⟩) (fun r6 er6 => ?_)
  subst er6
  exact W.lret (v := (f_quot (lN A0) (lN (Nat.gcd A0 B0)))) hx hb hr (fun t ht hW => ⟨_, rfl, by simp only [if_pos c14], ht⟩) t_nil dX0_fractionPart_32

set_option maxHeartbeats 4000000 in
set_option maxRecDepth 100000 in
/-- allThousandths -/
theorem ct_X0_allThousandths (l : Launch) (G : Gx) (m0 t0 t1 t2 t3 h0 h1 h2 h3 h4 h5 : Nat) (sl : Int32) (la : Int64) (tn : Nat) (ts : Nat → Int32) (ta tb : Nat → Int64) (key : Int64) (n : Nat) (nu st : Nat → Int64) (de : Nat → Int32) (su : Nat → Int64) (mk : Nat → Int32)  (hc : n ≤ 200) (ht : tn ≤ 16) : Met l yX0_allThousandths wsX0_allThousandths ({ frames := 4, cells := 0, slots := 0, locals := 88 }) (RdP G (wM G m0 t0 t1 t2 t3 h0 h1 h2 h3 h4 h5 sl la (nI tn) ts ta tb key (nI n) nu st de su mk) [.ref m0]) (vp_Sl (fun r => r = f_all tn ts ta tb n nu st de)) 0 0 (fun _ => False) := by
  refine Met.ofW (cc := cX0_allThousandths) (maxL := 4) (ret := (some .long)) (by decide) rfl ?_
  intro p e s m args below meth c s₁ B hml hv
  obtain ⟨rfl, hP, hE⟩ := hv
  have hx := B.exec
  have hb := B.bytes
  have hr := B.returns
  have hts := atoms_spec (ws := wsX0_allThousandths) B.pre
  have hown : s.vm.findClass RX0 = some m.cls := findClass_of_methodNamed B.named
  have hlocks := B.notSynchronized
  have hiX0 : ∀ w ∈ wsX00, w ∈ wsX0_allThousandths := by decide +kernel
  have hiX1 : ∀ w ∈ wsX10, w ∈ wsX0_allThousandths := by decide +kernel
  have hl := lv_entry ([.ref m0]) (n := 4) (Nat.le_of_ble_eq_true rfl)
  rw [lg_entry_eq]
  generalize (lg_sl ([.ref m0]) ++ List.replicate (4 - (lg_sl ([.ref m0])).length) Slot.unset).toArray = ls at hl ⊢
  replace hl : lv_has ls 4 [(0, .ref m0)] := hl
  refine lv_lconst (v := 0) hx hb dX0_allThousandths_0 (by decide) ?_
  refine lv_lstore_n (lv' := [(1, .long 0), (0, .ref m0)]) hx hb dX0_allThousandths_1 rfl hl (by decide) rfl (fun ls hl => ?_)
  refine lv_iconst (v := 0) hx hb dX0_allThousandths_2 (by decide) ?_
  refine lv_istore_n (lv' := [(3, .int 0), (1, .long 0), (0, .ref m0)]) hx hb dX0_allThousandths_3 rfl hl (by decide) rfl (fun ls hl => ?_)
  obtain ⟨i, hi⟩ : ∃ i : Nat, i = 0 := ⟨_, rfl⟩
  obtain ⟨acc, hac⟩ : ∃ b : Int64, b = 0 := ⟨_, rfl⟩
  replace hl : lv_has ls 4 [(3, .int (nI i)), (1, .long acc), (0, .ref m0)] := by rw [hi, hac]; exact hl
  obtain ⟨k, hk⟩ : ∃ k : Nat, i + k = n := ⟨n - i, by omega⟩
  have hv : f_allF tn ts ta tb n nu st de k i acc = f_all tn ts ta tb n nu st de := by rw [hi, hac, show k = n by omega]; rfl
  clear hi hac
  induction k generalizing i ls acc with
  | zero =>
    refine lv_iload_n hx hb dX0_allThousandths_4 rfl (lv_at hl 0 rfl) ?_
    refine lv_aload_n hx hb dX0_allThousandths_5 rfl (lv_at hl 2 rfl) ?_
    refine va_get (D := G.1) (ci := 1) (v := .ref h0) (C := RX0) (T := TX0) (N := 4) hx hb hts hiX0 hown hE.1 hP 0 rfl rfl 1 (by decide) (hts (.fieldLink RX0 23 "MeterSeals$Meter" "rows" "LMeterSeals$Rows;") (by decide +kernel)) (fun _ h9 => h9) rfl dX0_allThousandths_6 ?_
    refine va_getN (D := G.1) (ci := 2) (v := .int (nI n)) (C := RX1) (T := TX1) (N := 7) hx hb hts hiX1 hown hE.1 hP 5 rfl rfl 6 (by decide) (va_Nw.use (A := _) rfl hE.2.1.1.2.1) (fun _ h9 => h9) rfl dX0_allThousandths_9 ?_
    refine lv_icmp_ge (tgt := 41) hx hb dX0_allThousandths_12 (by decide) (fun c12 => ?_) (fun c12 => absurd (nI_le (by omega) (by omega)) c12)
    refine lv_lload_n hx hb dX0_allThousandths_41 rfl (lv_at hl 1 rfl) ?_
    exact W.lret (v := acc) hx hb hr (fun t ht hW => ⟨_, rfl, by rw [← hv]; rfl, ht⟩) t_nil dX0_allThousandths_42
  | succ k ih =>
    refine lv_iload_n hx hb dX0_allThousandths_4 rfl (lv_at hl 0 rfl) ?_
    refine lv_aload_n hx hb dX0_allThousandths_5 rfl (lv_at hl 2 rfl) ?_
    refine va_get (D := G.1) (ci := 1) (v := .ref h0) (C := RX0) (T := TX0) (N := 4) hx hb hts hiX0 hown hE.1 hP 0 rfl rfl 1 (by decide) (hts (.fieldLink RX0 23 "MeterSeals$Meter" "rows" "LMeterSeals$Rows;") (by decide +kernel)) (fun _ h9 => h9) rfl dX0_allThousandths_6 ?_
    refine va_getN (D := G.1) (ci := 2) (v := .int (nI n)) (C := RX1) (T := TX1) (N := 7) hx hb hts hiX1 hown hE.1 hP 5 rfl rfl 6 (by decide) (va_Nw.use (A := _) rfl hE.2.1.1.2.1) (fun _ h9 => h9) rfl dX0_allThousandths_9 ?_
    refine lv_icmp_ge (tgt := 41) hx hb dX0_allThousandths_12 (by decide) (fun c12 => absurd c12 (nI_ge (by omega) (by omega))) (fun c12 => ?_)
    refine lv_lload_n hx hb dX0_allThousandths_15 rfl (lv_at hl 1 rfl) ?_
    refine lv_aload_n hx hb dX0_allThousandths_16 rfl (lv_at hl 2 rfl) ?_
    refine lv_iload_n hx hb dX0_allThousandths_17 rfl (lv_at hl 0 rfl) ?_
    refine x_rl (va_runV (As := [.int (nI i)]) (rest := [.long acc]) ⟨hx, hb, hml, hown, hts⟩ (ct_X0_litresAbove l G m0 t0 t1 t2 t3 h0 h1 h2 h3 h4 h5 sl la tn ts ta tb key n nu st de su mk (nI i) hc ht) (cwV 1 hts gX0_allThousandths_X0_litresAbove rfl rfl rfl (by decide +kernel) ⟨Nat.le_of_ble_eq_true rfl, Nat.le_of_ble_eq_true rfl⟩) (RdP.preV 0 1 rfl rfl hP hE) rfl rfl hl.1 rfl (lv_room (Nat.le_of_ble_eq_true rfl)) dX0_allThousandths_18 ⟨Nat.zero_le _, Nat.zero_le _⟩) (fun r1 er1 => ?_)
    subst er1
    refine lv_ldc2 (v := 1000) hx hb hown (hts (.constantLong RX0 78 1000) (by decide +kernel)) dX0_allThousandths_21 ?_
    refine lv_lmul hx hb dX0_allThousandths_24 ?_
    refine lv_aload_n hx hb dX0_allThousandths_25 rfl (lv_at hl 2 rfl) ?_
    refine lv_iload_n hx hb dX0_allThousandths_26 rfl (lv_at hl 0 rfl) ?_
    refine x_rl (va_runV (As := [.int (nI i)]) (rest := [.long ((f_la tn ts ta n nu st de (nI i)) * 1000), .long acc]) ⟨hx, hb, hml, hown, hts⟩ (ct_X0_litresBelow l G m0 t0 t1 t2 t3 h0 h1 h2 h3 h4 h5 sl la tn ts ta tb key n nu st de su mk (nI i) hc ht) (cwV 1 hts gX0_allThousandths_X0_litresBelow rfl rfl rfl (by decide +kernel) ⟨Nat.le_of_ble_eq_true rfl, Nat.le_of_ble_eq_true rfl⟩) (RdP.preV 0 1 rfl rfl hP hE) rfl rfl hl.1 rfl (lv_room (Nat.le_of_ble_eq_true rfl)) dX0_allThousandths_27 ⟨Nat.zero_le _, Nat.zero_le _⟩) (fun r2 er2 => ?_)
    subst er2
    refine x_rl (va_runSN (As := [.long ((f_la tn ts ta n nu st de (nI i)) * 1000), .long (f_lbw tn ts tb n st de (nI i))]) (rest := [.long acc]) ⟨hx, hb, hml, hown, hts⟩ (ct_X3_quotient l G ((f_la tn ts ta n nu st de (nI i)) * 1000) (f_lbw tn ts tb n st de (nI i))) ⟨va_cnB 2 hts gX0_allThousandths_X3_quotient_n74 rfl rfl rfl hE.2.1.2.2.2.1 (hts (.initialized RX3) (by decide +kernel)) (by decide +kernel) ⟨Nat.le_of_ble_eq_true rfl, Nat.le_of_ble_eq_true rfl⟩, hts (.static yX3_quotient) (by decide +kernel), trivial⟩ (RdP.preS (fun k q h => by simp at h) hE) rfl rfl hl.1 rfl (lv_room (Nat.le_of_ble_eq_true rfl)) dX0_allThousandths_30 ⟨Nat.zero_le _, Nat.zero_le _⟩) (fun r3 er3 => ?_)
    subst er3
    refine lv_ladd hx hb dX0_allThousandths_33 ?_
    refine lv_lstore_n (lv' := [(1, .long (acc + (f_quot ((f_la tn ts ta n nu st de (nI i)) * 1000) (f_lbw tn ts tb n st de (nI i))))), (3, .int (nI i)), (0, .ref m0)]) hx hb dX0_allThousandths_34 rfl hl (by decide) rfl (fun ls hl => ?_)
    refine lv_iinc (v := (nI (i + 1))) (lv' := [(3, .int (nI (i + 1))), (1, .long (acc + (f_quot ((f_la tn ts ta n nu st de (nI i)) * 1000) (f_lbw tn ts tb n st de (nI i))))), (0, .ref m0)]) hx hb dX0_allThousandths_35 hl (k := 1) rfl (nI_1 i) (by decide) rfl (fun ls hl => ?_)
    refine lv_goto (tgt := 4) hx hb dX0_allThousandths_38 (by decide) ?_
    exact ih ls (i + 1) (acc + (f_quot ((f_la tn ts ta n nu st de (nI i)) * 1000) (f_lbw tn ts tb n st de (nI i)))) (lv_sub hl [0, 1, 2] rfl) (by omega) (by rw [← hv]; rfl)

set_option maxHeartbeats 4000000 in
set_option maxRecDepth 100000 in
/-- X0_addReading -/
theorem ct_X0_addReading (l : Launch) (G : Gx) (m0 t0 t1 t2 t3 h0 h1 h2 h3 h4 h5 : Nat) (sl : Int32) (la : Int64) (tn : Nat) (ts : Nat → Int32) (ta tb : Nat → Int64) (key : Int64) (n : Nat) (nu st : Nat → Int64) (de : Nat → Int32) (su : Nat → Int64) (mk : Nat → Int32) (number second : Int64) (degrees : Int32) (hc : n ≤ 200) (ht : tn ≤ 16) (hsl : sl = 0 ∨ sl = 1) : Met l yX0_addReading wsX0_addReading ({ frames := 3, cells := 0, slots := 0, locals := 77 }) (WrP G (wM G m0 t0 t1 t2 t3 h0 h1 h2 h3 h4 h5 sl la (nI tn) ts ta tb key (nI n) nu st de su mk) [.ref m0, .long number, .long second, .int degrees]) (va_Qi (fun r (u : va_W) => (r = 0 ∧ (f_fits tn la number second degrees = 0 ∨ n = 200) ∧ u = wM G m0 t0 t1 t2 t3 h0 h1 h2 h3 h4 h5 sl la (nI tn) ts ta tb key (nI n) nu st de su mk) ∨ (r = 1 ∧ ¬ f_fits tn la number second degrees = 0 ∧ n < 200 ∧ u = wM G m0 t0 t1 t2 t3 h0 h1 h2 h3 h4 h5 sl second (nI tn) ts ta tb key (nI (n + 1)) (vp_updL nu n number) (vp_updL st n second) (upd de n degrees) (vp_updL su n (f_due key (n + 1) (vp_updL nu n number) (vp_updL st n second) (upd de n degrees) su (nI n))) (upd mk n (if sl = 0 then 1 else 0)))) (fun u t => va_P G.1 vwCl u t.heap) (adr (wM G m0 t0 t1 t2 t3 h0 h1 h2 h3 h4 h5 sl la (nI tn) ts ta tb key (nI n) nu st de su mk))) 0 0 (adr (wM G m0 t0 t1 t2 t3 h0 h1 h2 h3 h4 h5 sl la (nI tn) ts ta tb key (nI n) nu st de su mk)) := by
  refine Met.ofW (cc := cX0_addReading) (maxL := 7) (ret := (some .boolean)) (by decide) rfl ?_
  intro p e s m args below meth c s₁ B hml hv
  obtain ⟨rfl, hP, hE, hD0⟩ := hv
  have hx := B.exec
  have hb := B.bytes
  have hr := B.returns
  have hts := atoms_spec (ws := wsX0_addReading) B.pre
  have hown : s.vm.findClass RX0 = some m.cls := findClass_of_methodNamed B.named
  have hlocks := B.notSynchronized
  have hD : va_D (adr (wM G m0 t0 t1 t2 t3 h0 h1 h2 h3 h4 h5 sl la (nI tn) ts ta tb key (nI n) nu st de su mk)) (wM G m0 t0 t1 t2 t3 h0 h1 h2 h3 h4 h5 sl la (nI tn) ts ta tb key (nI n) nu st de su mk) := ⟨hD0.1, fun k q hk => ⟨k, q.2, hk⟩⟩
  generalize adr (wM G m0 t0 t1 t2 t3 h0 h1 h2 h3 h4 h5 sl la (nI tn) ts ta tb key (nI n) nu st de su mk) = A at hD ⊢
  have hS : va_S A s.heap s.heap [] := va_S.rf
  have hiX0 : ∀ w ∈ wsX00, w ∈ wsX0_addReading := by decide +kernel
  have hiX2 : ∀ w ∈ wsX20, w ∈ wsX0_addReading := by decide +kernel
  have hl := lv_entry ([.ref m0, .long number, .long second, .int degrees]) (n := 7) (Nat.le_of_ble_eq_true rfl)
  rw [lg_entry_eq]
  generalize (lg_sl ([.ref m0, .long number, .long second, .int degrees]) ++ List.replicate (7 - (lg_sl ([.ref m0, .long number, .long second, .int degrees])).length) Slot.unset).toArray = ls at hl ⊢
  replace hl : lv_has ls 7 [(0, .ref m0), (1, .long number), (3, .long second), (5, .int degrees)] := hl
  refine lv_aload_n hx hb dX0_addReading_0 rfl (lv_at hl 0 rfl) ?_
  refine va_get (D := G.1) (ci := 1) (v := .ref t0) (C := RX0) (T := TX0) (N := 4) hx hb hts hiX0 hown hE.1 hP 0 rfl rfl 0 (by decide) (hts (.fieldLink RX0 12 "MeterSeals$Meter" "table" "LMeterSeals$Table;") (by decide +kernel)) (fun _ h9 => h9) rfl dX0_addReading_1 ?_
  refine va_getN (D := G.1) (ci := 3) (v := .int (nI tn)) (C := RX2) (T := TX2) (N := 4) hx hb hts hiX2 hown hE.1 hP 1 rfl rfl 3 (by decide) (va_Nw.use (A := _) rfl hE.2.1.1.1) (fun _ h9 => h9) rfl dX0_addReading_4 ?_
  refine lv_if_le (tgt := 54) hx hb dX0_addReading_7 (by decide) (fun c7 => ?_) (fun c7 => ?_)
  · refine lv_iconst (v := 0) hx hb dX0_addReading_54 (by decide) ?_
    refine lv_istore (lv' := [(6, .int 0), (0, .ref m0), (1, .long number), (3, .long second), (5, .int degrees)]) hx hb dX0_addReading_55 hl (by decide) rfl (fun ls hl => ?_)
    refine lv_iload hx hb dX0_addReading_57 (lv_at hl 0 rfl) ?_
    refine lv_if_eq (tgt := 88) hx hb dX0_addReading_59 (by decide) (fun c59 => ?_) (fun c59 => absurd c59 (by decide))
    refine lv_iconst (v := 0) hx hb dX0_addReading_88 (by decide) ?_
    exact W.zret (v := 0) hx hb hr (zb (Or.inl rfl)) (fun t ht hW => ⟨⟨0, wM G m0 t0 t1 t2 t3 h0 h1 h2 h3 h4 h5 sl la (nI tn) ts ta tb key (nI n) nu st de su mk, rfl, Or.inl ⟨rfl, Or.inl (by simp [f_fits, c7]), rfl⟩, by show va_P _ _ _ t.heap; rw [ht]; exact hP⟩, hS.F ht⟩) hS.2.2 dX0_addReading_89
  refine lv_lload_n hx hb dX0_addReading_10 rfl (lv_at hl 1 rfl) ?_
  refine lv_lconst (v := 0) hx hb dX0_addReading_11 (by decide) ?_
  refine lv_ldc2 (v := 1000000) hx hb hown (hts (.constantLong RX0 39 1000000) (by decide +kernel)) dX0_addReading_12 ?_
  refine x_ri (va_runSN (As := [.long number, .long 0, .long 1000000]) (rest := []) ⟨hx, hb, hml, hown, hts⟩ (ct_X3_within l G number 0 1000000) ⟨va_cnB 3 hts gX0_addReading_X3_within_n41 rfl rfl rfl hE.2.1.2.1 (hts (.initialized RX3) (by decide +kernel)) (by decide +kernel) ⟨Nat.le_of_ble_eq_true rfl, Nat.le_of_ble_eq_true rfl⟩, hts (.static yX3_within) (by decide +kernel), trivial⟩ (RdP.preS (fun k q h => by simp at h) hE) rfl rfl hl.1 rfl (lv_room (Nat.le_of_ble_eq_true rfl)) dX0_addReading_15 ⟨Nat.zero_le _, Nat.zero_le _⟩) (fun r1 er1 => ?_)
  subst er1
  refine lv_if_eq (tgt := 54) hx hb dX0_addReading_18 (by decide) (fun c18 => ?_) (fun c18 => ?_)
  · refine lv_iconst (v := 0) hx hb dX0_addReading_54 (by decide) ?_
    refine lv_istore (lv' := [(6, .int 0), (0, .ref m0), (1, .long number), (3, .long second), (5, .int degrees)]) hx hb dX0_addReading_55 hl (by decide) rfl (fun ls hl => ?_)
    refine lv_iload hx hb dX0_addReading_57 (lv_at hl 0 rfl) ?_
    refine lv_if_eq (tgt := 88) hx hb dX0_addReading_59 (by decide) (fun c59 => ?_) (fun c59 => absurd c59 (by decide))
    refine lv_iconst (v := 0) hx hb dX0_addReading_88 (by decide) ?_
    exact W.zret (v := 0) hx hb hr (zb (Or.inl rfl)) (fun t ht hW => ⟨⟨0, wM G m0 t0 t1 t2 t3 h0 h1 h2 h3 h4 h5 sl la (nI tn) ts ta tb key (nI n) nu st de su mk, rfl, Or.inl ⟨rfl, Or.inl (by simp [f_fits, c7, c18]), rfl⟩, by show va_P _ _ _ t.heap; rw [ht]; exact hP⟩, hS.F ht⟩) hS.2.2 dX0_addReading_89
  refine lv_lload_n hx hb dX0_addReading_21 rfl (lv_at hl 2 rfl) ?_
  refine lv_aload_n hx hb dX0_addReading_22 rfl (lv_at hl 0 rfl) ?_
  refine va_get (D := G.1) (ci := 1) (v := .long la) (C := RX0) (T := TX0) (N := 4) hx hb hts hiX0 hown hE.1 hP 0 rfl rfl 3 (by decide) (hts (.fieldLink RX0 31 "MeterSeals$Meter" "lastSecond" "J") (by decide +kernel)) (fun _ h9 => h9) rfl dX0_addReading_23 ?_
  refine lv_ldc2 (v := 1000000000000) hx hb hown (hts (.constantLong RX0 45 1000000000000) (by decide +kernel)) dX0_addReading_26 ?_
  refine x_ri (va_runSN (As := [.long second, .long la, .long 1000000000000]) (rest := []) ⟨hx, hb, hml, hown, hts⟩ (ct_X3_within l G second la 1000000000000) ⟨va_cnB 3 hts gX0_addReading_X3_within_n41 rfl rfl rfl hE.2.1.2.1 (hts (.initialized RX3) (by decide +kernel)) (by decide +kernel) ⟨Nat.le_of_ble_eq_true rfl, Nat.le_of_ble_eq_true rfl⟩, hts (.static yX3_within) (by decide +kernel), trivial⟩ (RdP.preS (fun k q h => by simp at h) hE) rfl rfl hl.1 rfl (lv_room (Nat.le_of_ble_eq_true rfl)) dX0_addReading_29 ⟨Nat.zero_le _, Nat.zero_le _⟩) (fun r2 er2 => ?_)
  subst er2
  refine lv_if_eq (tgt := 54) hx hb dX0_addReading_32 (by decide) (fun c32 => ?_) (fun c32 => ?_)
  · refine lv_iconst (v := 0) hx hb dX0_addReading_54 (by decide) ?_
    refine lv_istore (lv' := [(6, .int 0), (0, .ref m0), (1, .long number), (3, .long second), (5, .int degrees)]) hx hb dX0_addReading_55 hl (by decide) rfl (fun ls hl => ?_)
    refine lv_iload hx hb dX0_addReading_57 (lv_at hl 0 rfl) ?_
    refine lv_if_eq (tgt := 88) hx hb dX0_addReading_59 (by decide) (fun c59 => ?_) (fun c59 => absurd c59 (by decide))
    refine lv_iconst (v := 0) hx hb dX0_addReading_88 (by decide) ?_
    exact W.zret (v := 0) hx hb hr (zb (Or.inl rfl)) (fun t ht hW => ⟨⟨0, wM G m0 t0 t1 t2 t3 h0 h1 h2 h3 h4 h5 sl la (nI tn) ts ta tb key (nI n) nu st de su mk, rfl, Or.inl ⟨rfl, Or.inl (by simp [f_fits, c7, c18, c32]), rfl⟩, by show va_P _ _ _ t.heap; rw [ht]; exact hP⟩, hS.F ht⟩) hS.2.2 dX0_addReading_89
  refine lv_iload hx hb dX0_addReading_35 (lv_at hl 3 rfl) ?_
  refine lv_i2l (v := degrees.toInt64) hx hb dX0_addReading_37 rfl ?_
  refine lv_ldc2 (v := (-50)) hx hb hown (hts (.constantLong RX0 47 (-50)) (by decide +kernel)) dX0_addReading_38 ?_
  refine lv_ldc2 (v := 150) hx hb hown (hts (.constantLong RX0 49 150) (by decide +kernel)) dX0_addReading_41 ?_
  refine x_ri (va_runSN (As := [.long degrees.toInt64, .long (-50), .long 150]) (rest := []) ⟨hx, hb, hml, hown, hts⟩ (ct_X3_within l G degrees.toInt64 (-50) 150) ⟨va_cnB 3 hts gX0_addReading_X3_within_n41 rfl rfl rfl hE.2.1.2.1 (hts (.initialized RX3) (by decide +kernel)) (by decide +kernel) ⟨Nat.le_of_ble_eq_true rfl, Nat.le_of_ble_eq_true rfl⟩, hts (.static yX3_within) (by decide +kernel), trivial⟩ (RdP.preS (fun k q h => by simp at h) hE) rfl rfl hl.1 rfl (lv_room (Nat.le_of_ble_eq_true rfl)) dX0_addReading_44 ⟨Nat.zero_le _, Nat.zero_le _⟩) (fun r3 er3 => ?_)
  subst er3
  refine lv_if_eq (tgt := 54) hx hb dX0_addReading_47 (by decide) (fun c47 => ?_) (fun c47 => ?_)
  · refine lv_iconst (v := 0) hx hb dX0_addReading_54 (by decide) ?_
    refine lv_istore (lv' := [(6, .int 0), (0, .ref m0), (1, .long number), (3, .long second), (5, .int degrees)]) hx hb dX0_addReading_55 hl (by decide) rfl (fun ls hl => ?_)
    refine lv_iload hx hb dX0_addReading_57 (lv_at hl 0 rfl) ?_
    refine lv_if_eq (tgt := 88) hx hb dX0_addReading_59 (by decide) (fun c59 => ?_) (fun c59 => absurd c59 (by decide))
    refine lv_iconst (v := 0) hx hb dX0_addReading_88 (by decide) ?_
    exact W.zret (v := 0) hx hb hr (zb (Or.inl rfl)) (fun t ht hW => ⟨⟨0, wM G m0 t0 t1 t2 t3 h0 h1 h2 h3 h4 h5 sl la (nI tn) ts ta tb key (nI n) nu st de su mk, rfl, Or.inl ⟨rfl, Or.inl (by simp [f_fits, c7, c18, c32, c47]), rfl⟩, by show va_P _ _ _ t.heap; rw [ht]; exact hP⟩, hS.F ht⟩) hS.2.2 dX0_addReading_89
  refine lv_iconst (v := 1) hx hb dX0_addReading_50 (by decide) ?_
  refine lv_goto (tgt := 55) hx hb dX0_addReading_51 (by decide) ?_
  refine lv_istore (lv' := [(6, .int 1), (0, .ref m0), (1, .long number), (3, .long second), (5, .int degrees)]) hx hb dX0_addReading_55 hl (by decide) rfl (fun ls hl => ?_)
  refine lv_iload hx hb dX0_addReading_57 (lv_at hl 0 rfl) ?_
  refine lv_if_eq (tgt := 88) hx hb dX0_addReading_59 (by decide) (fun c59 => absurd c59 (by decide)) (fun c59 => ?_)
  refine lv_aload_n hx hb dX0_addReading_62 rfl (lv_at hl 1 rfl) ?_
  refine va_get (D := G.1) (ci := 1) (v := .ref h0) (C := RX0) (T := TX0) (N := 4) hx hb hts hiX0 hown hE.1 hP 0 rfl rfl 1 (by decide) (hts (.fieldLink RX0 23 "MeterSeals$Meter" "rows" "LMeterSeals$Rows;") (by decide +kernel)) (fun _ h9 => h9) rfl dX0_addReading_63 ?_
  refine lv_lload_n hx hb dX0_addReading_66 rfl (lv_at hl 2 rfl) ?_
  refine lv_lload_n hx hb dX0_addReading_67 rfl (lv_at hl 3 rfl) ?_
  refine lv_iload hx hb dX0_addReading_68 (lv_at hl 4 rfl) ?_
  refine lv_aload_n hx hb dX0_addReading_70 rfl (lv_at hl 1 rfl) ?_
  refine va_get (D := G.1) (ci := 1) (v := .int sl) (C := RX0) (T := TX0) (N := 4) hx hb hts hiX0 hown hE.1 hP 0 rfl rfl 2 (by decide) (hts (.fieldLink RX0 27 "MeterSeals$Meter" "sealed" "Z") (by decide +kernel)) (fun _ h9 => h9) rfl dX0_addReading_71 ?_
  refine lv_if_ne (tgt := 81) hx hb dX0_addReading_74 (by decide) (fun c74 => ?_) (fun c74 => ?_)
  · refine lv_iconst (v := 0) hx hb dX0_addReading_81 (by decide) ?_
    refine va_calli (va_runV (As := [.long number, .long second, .int degrees, .int 0]) (rest := []) ⟨hx, hb, hml, hown, hts⟩ (ct_X1_add l G h0 h1 h2 h3 h4 h5 key n nu st de su mk number second degrees 0 hc (Or.inl rfl)) (cwV 4 hts gX0_addReading_X1_add rfl rfl rfl (by decide +kernel) ⟨Nat.le_of_ble_eq_true rfl, Nat.le_of_ble_eq_true rfl⟩) (WrP.preV 0 2 rfl rfl (x_mid ([(m0, .inr (1, [.ref t0, .ref h0, .int sl, .long la]))] ++ wT G t0 t1 t2 t3 (nI tn) ts ta tb) (wR G h0 h1 h2 h3 h4 h5 key (nI n) nu st de su mk) ([]) rfl hP) hE (x_midD ([(m0, .inr (1, [.ref t0, .ref h0, .int sl, .long la]))] ++ wT G t0 t1 t2 t3 (nI tn) ts ta tb) (wR G h0 h1 h2 h3 h4 h5 key (nI n) nu st de su mk) ([]) rfl hD)) rfl rfl hl.1 rfl (lv_room (Nat.le_of_ble_eq_true rfl)) dX0_addReading_82 ⟨Nat.zero_le _, Nat.zero_le _⟩) hS (fun q _ h => (x_adr ([(m0, .inr (1, [.ref t0, .ref h0, .int sl, .long la]))] ++ wT G t0 t1 t2 t3 (nI tn) ts ta tb) (wR G h0 h1 h2 h3 h4 h5 key (nI n) nu st de su mk) ([]) rfl hD) q h) (x_adr ([(m0, .inr (1, [.ref t0, .ref h0, .int sl, .long la]))] ++ wT G t0 t1 t2 t3 (nI tn) ts ta tb) (wR G h0 h1 h2 h3 h4 h5 key (nI n) nu st de su mk) ([]) rfl hD) (fun r4 u t H1 locs ht hvm hw hB hz1 hk1 hS => ?_)
    rw [ht] at hB
    rcases hw with ⟨hn, rfl, rfl⟩ | ⟨hn, rfl, rfl⟩
    · obtain ⟨hP, hD⟩ := x_join ([(m0, .inr (1, [.ref t0, .ref h0, .int sl, .long la]))] ++ wT G t0 t1 t2 t3 (nI tn) ts ta tb) (wR G h0 h1 h2 h3 h4 h5 key (nI n) nu st de su mk) ([]) (wR G h0 h1 h2 h3 h4 h5 key (nI n) nu st de su mk) rfl hP hD hk1 hB rfl
      generalize H1 = H at hP hS ⊢
      have hP : va_P G.1 vwCl (wM G m0 t0 t1 t2 t3 h0 h1 h2 h3 h4 h5 sl la (nI tn) ts ta tb key (nI n) nu st de su mk) H := hP
      have hD : va_D A (wM G m0 t0 t1 t2 t3 h0 h1 h2 h3 h4 h5 sl la (nI tn) ts ta tb key (nI n) nu st de su mk) := hD
      refine lv_if_ne (tgt := 90) hx hb dX0_addReading_85 (by decide) (fun c85 => absurd c85 (by decide)) (fun c85 => ?_)
      refine lv_iconst (v := 0) hx hb dX0_addReading_88 (by decide) ?_
      exact W.zret (v := 0) hx hb hr (zb (Or.inl rfl)) (fun t ht hW => ⟨⟨0, wM G m0 t0 t1 t2 t3 h0 h1 h2 h3 h4 h5 sl la (nI tn) ts ta tb key (nI n) nu st de su mk, rfl, Or.inl ⟨rfl, Or.inr hn, rfl⟩, by show va_P _ _ _ t.heap; rw [ht]; exact hP⟩, hS.F ht⟩) hS.2.2 dX0_addReading_89
    obtain ⟨hP, hD⟩ := x_join ([(m0, .inr (1, [.ref t0, .ref h0, .int sl, .long la]))] ++ wT G t0 t1 t2 t3 (nI tn) ts ta tb) (wR G h0 h1 h2 h3 h4 h5 key (nI n) nu st de su mk) ([]) (wR G h0 h1 h2 h3 h4 h5 key (nI (n + 1)) (vp_updL nu n number) (vp_updL st n second) (upd de n degrees) (vp_updL su n (f_due key (n + 1) (vp_updL nu n number) (vp_updL st n second) (upd de n degrees) su (nI n))) (upd mk n 0)) rfl hP hD hk1 hB rfl
    generalize H1 = H at hP hS ⊢
    have hP : va_P G.1 vwCl (wM G m0 t0 t1 t2 t3 h0 h1 h2 h3 h4 h5 sl la (nI tn) ts ta tb key (nI (n + 1)) (vp_updL nu n number) (vp_updL st n second) (upd de n degrees) (vp_updL su n (f_due key (n + 1) (vp_updL nu n number) (vp_updL st n second) (upd de n degrees) su (nI n))) (upd mk n 0)) H := hP
    have hD : va_D A (wM G m0 t0 t1 t2 t3 h0 h1 h2 h3 h4 h5 sl la (nI tn) ts ta tb key (nI (n + 1)) (vp_updL nu n number) (vp_updL st n second) (upd de n degrees) (vp_updL su n (f_due key (n + 1) (vp_updL nu n number) (vp_updL st n second) (upd de n degrees) su (nI n))) (upd mk n 0)) := hD
    refine lv_if_ne (tgt := 90) hx hb dX0_addReading_85 (by decide) (fun c85 => ?_) (fun c85 => absurd c85 (by decide))
    refine lv_aload_n hx hb dX0_addReading_90 rfl (lv_at hl 1 rfl) ?_
    refine lv_lload_n hx hb dX0_addReading_91 rfl (lv_at hl 3 rfl) ?_
    refine va_put (D := G.1) (ci := 1) (v := .long second) (ty := .long) (C := RX0) (T := TX0) (N := 4) hx hb hts hiX0 tyX0 tyX0_ok nmX0 hown hE.1 hP hD hS 0 rfl rfl 3 (by decide) (hts (.fieldLink RX0 31 "MeterSeals$Meter" "lastSecond" "J") (by decide +kernel)) (fun _ h9 => h9) rfl (by decide +kernel) rfl rfl (Nat.le_of_ble_eq_true rfl) dX0_addReading_92 (fun H locs hP hD hS => ?_)
    have hP : va_P G.1 vwCl (wM G m0 t0 t1 t2 t3 h0 h1 h2 h3 h4 h5 sl second (nI tn) ts ta tb key (nI (n + 1)) (vp_updL nu n number) (vp_updL st n second) (upd de n degrees) (vp_updL su n (f_due key (n + 1) (vp_updL nu n number) (vp_updL st n second) (upd de n degrees) su (nI n))) (upd mk n 0)) H := hP
    have hD : va_D A (wM G m0 t0 t1 t2 t3 h0 h1 h2 h3 h4 h5 sl second (nI tn) ts ta tb key (nI (n + 1)) (vp_updL nu n number) (vp_updL st n second) (upd de n degrees) (vp_updL su n (f_due key (n + 1) (vp_updL nu n number) (vp_updL st n second) (upd de n degrees) su (nI n))) (upd mk n 0)) := hD
    refine lv_iconst (v := 1) hx hb dX0_addReading_95 (by decide) ?_
    exact W.zret (v := 1) hx hb hr (zb (Or.inr rfl)) (fun t ht hW => ⟨⟨1, wM G m0 t0 t1 t2 t3 h0 h1 h2 h3 h4 h5 sl second (nI tn) ts ta tb key (nI (n + 1)) (vp_updL nu n number) (vp_updL st n second) (upd de n degrees) (vp_updL su n (f_due key (n + 1) (vp_updL nu n number) (vp_updL st n second) (upd de n degrees) su (nI n))) (upd mk n 0), rfl, Or.inr ⟨rfl, by simp [f_fits, c7, c18, c32, c47], hn, by rw [if_neg c74]⟩, by show va_P _ _ _ t.heap; rw [ht]; exact hP⟩, hS.F ht⟩) hS.2.2 dX0_addReading_96
  refine lv_iconst (v := 1) hx hb dX0_addReading_77 (by decide) ?_
  refine lv_goto (tgt := 82) hx hb dX0_addReading_78 (by decide) ?_
  refine va_calli (va_runV (As := [.long number, .long second, .int degrees, .int 1]) (rest := []) ⟨hx, hb, hml, hown, hts⟩ (ct_X1_add l G h0 h1 h2 h3 h4 h5 key n nu st de su mk number second degrees 1 hc (Or.inr rfl)) (cwV 4 hts gX0_addReading_X1_add rfl rfl rfl (by decide +kernel) ⟨Nat.le_of_ble_eq_true rfl, Nat.le_of_ble_eq_true rfl⟩) (WrP.preV 0 2 rfl rfl (x_mid ([(m0, .inr (1, [.ref t0, .ref h0, .int sl, .long la]))] ++ wT G t0 t1 t2 t3 (nI tn) ts ta tb) (wR G h0 h1 h2 h3 h4 h5 key (nI n) nu st de su mk) ([]) rfl hP) hE (x_midD ([(m0, .inr (1, [.ref t0, .ref h0, .int sl, .long la]))] ++ wT G t0 t1 t2 t3 (nI tn) ts ta tb) (wR G h0 h1 h2 h3 h4 h5 key (nI n) nu st de su mk) ([]) rfl hD)) rfl rfl hl.1 rfl (lv_room (Nat.le_of_ble_eq_true rfl)) dX0_addReading_82 ⟨Nat.zero_le _, Nat.zero_le _⟩) hS (fun q _ h => (x_adr ([(m0, .inr (1, [.ref t0, .ref h0, .int sl, .long la]))] ++ wT G t0 t1 t2 t3 (nI tn) ts ta tb) (wR G h0 h1 h2 h3 h4 h5 key (nI n) nu st de su mk) ([]) rfl hD) q h) (x_adr ([(m0, .inr (1, [.ref t0, .ref h0, .int sl, .long la]))] ++ wT G t0 t1 t2 t3 (nI tn) ts ta tb) (wR G h0 h1 h2 h3 h4 h5 key (nI n) nu st de su mk) ([]) rfl hD) (fun r5 u t H1 locs ht hvm hw hB hz1 hk1 hS => ?_)
  rw [ht] at hB
  rcases hw with ⟨hn, rfl, rfl⟩ | ⟨hn, rfl, rfl⟩
  · obtain ⟨hP, hD⟩ := x_join ([(m0, .inr (1, [.ref t0, .ref h0, .int sl, .long la]))] ++ wT G t0 t1 t2 t3 (nI tn) ts ta tb) (wR G h0 h1 h2 h3 h4 h5 key (nI n) nu st de su mk) ([]) (wR G h0 h1 h2 h3 h4 h5 key (nI n) nu st de su mk) rfl hP hD hk1 hB rfl
    generalize H1 = H at hP hS ⊢
    have hP : va_P G.1 vwCl (wM G m0 t0 t1 t2 t3 h0 h1 h2 h3 h4 h5 sl la (nI tn) ts ta tb key (nI n) nu st de su mk) H := hP
    have hD : va_D A (wM G m0 t0 t1 t2 t3 h0 h1 h2 h3 h4 h5 sl la (nI tn) ts ta tb key (nI n) nu st de su mk) := hD
    refine lv_if_ne (tgt := 90) hx hb dX0_addReading_85 (by decide) (fun c85 => absurd c85 (by decide)) (fun c85 => ?_)
    refine lv_iconst (v := 0) hx hb dX0_addReading_88 (by decide) ?_
    exact W.zret (v := 0) hx hb hr (zb (Or.inl rfl)) (fun t ht hW => ⟨⟨0, wM G m0 t0 t1 t2 t3 h0 h1 h2 h3 h4 h5 sl la (nI tn) ts ta tb key (nI n) nu st de su mk, rfl, Or.inl ⟨rfl, Or.inr hn, rfl⟩, by show va_P _ _ _ t.heap; rw [ht]; exact hP⟩, hS.F ht⟩) hS.2.2 dX0_addReading_89
  obtain ⟨hP, hD⟩ := x_join ([(m0, .inr (1, [.ref t0, .ref h0, .int sl, .long la]))] ++ wT G t0 t1 t2 t3 (nI tn) ts ta tb) (wR G h0 h1 h2 h3 h4 h5 key (nI n) nu st de su mk) ([]) (wR G h0 h1 h2 h3 h4 h5 key (nI (n + 1)) (vp_updL nu n number) (vp_updL st n second) (upd de n degrees) (vp_updL su n (f_due key (n + 1) (vp_updL nu n number) (vp_updL st n second) (upd de n degrees) su (nI n))) (upd mk n 1)) rfl hP hD hk1 hB rfl
  generalize H1 = H at hP hS ⊢
  have hP : va_P G.1 vwCl (wM G m0 t0 t1 t2 t3 h0 h1 h2 h3 h4 h5 sl la (nI tn) ts ta tb key (nI (n + 1)) (vp_updL nu n number) (vp_updL st n second) (upd de n degrees) (vp_updL su n (f_due key (n + 1) (vp_updL nu n number) (vp_updL st n second) (upd de n degrees) su (nI n))) (upd mk n 1)) H := hP
  have hD : va_D A (wM G m0 t0 t1 t2 t3 h0 h1 h2 h3 h4 h5 sl la (nI tn) ts ta tb key (nI (n + 1)) (vp_updL nu n number) (vp_updL st n second) (upd de n degrees) (vp_updL su n (f_due key (n + 1) (vp_updL nu n number) (vp_updL st n second) (upd de n degrees) su (nI n))) (upd mk n 1)) := hD
  refine lv_if_ne (tgt := 90) hx hb dX0_addReading_85 (by decide) (fun c85 => ?_) (fun c85 => absurd c85 (by decide))
  refine lv_aload_n hx hb dX0_addReading_90 rfl (lv_at hl 1 rfl) ?_
  refine lv_lload_n hx hb dX0_addReading_91 rfl (lv_at hl 3 rfl) ?_
  refine va_put (D := G.1) (ci := 1) (v := .long second) (ty := .long) (C := RX0) (T := TX0) (N := 4) hx hb hts hiX0 tyX0 tyX0_ok nmX0 hown hE.1 hP hD hS 0 rfl rfl 3 (by decide) (hts (.fieldLink RX0 31 "MeterSeals$Meter" "lastSecond" "J") (by decide +kernel)) (fun _ h9 => h9) rfl (by decide +kernel) rfl rfl (Nat.le_of_ble_eq_true rfl) dX0_addReading_92 (fun H locs hP hD hS => ?_)
  have hP : va_P G.1 vwCl (wM G m0 t0 t1 t2 t3 h0 h1 h2 h3 h4 h5 sl second (nI tn) ts ta tb key (nI (n + 1)) (vp_updL nu n number) (vp_updL st n second) (upd de n degrees) (vp_updL su n (f_due key (n + 1) (vp_updL nu n number) (vp_updL st n second) (upd de n degrees) su (nI n))) (upd mk n 1)) H := hP
  have hD : va_D A (wM G m0 t0 t1 t2 t3 h0 h1 h2 h3 h4 h5 sl second (nI tn) ts ta tb key (nI (n + 1)) (vp_updL nu n number) (vp_updL st n second) (upd de n degrees) (vp_updL su n (f_due key (n + 1) (vp_updL nu n number) (vp_updL st n second) (upd de n degrees) su (nI n))) (upd mk n 1)) := hD
  refine lv_iconst (v := 1) hx hb dX0_addReading_95 (by decide) ?_
  exact W.zret (v := 1) hx hb hr (zb (Or.inr rfl)) (fun t ht hW => ⟨⟨1, wM G m0 t0 t1 t2 t3 h0 h1 h2 h3 h4 h5 sl second (nI tn) ts ta tb key (nI (n + 1)) (vp_updL nu n number) (vp_updL st n second) (upd de n degrees) (vp_updL su n (f_due key (n + 1) (vp_updL nu n number) (vp_updL st n second) (upd de n degrees) su (nI n))) (upd mk n 1), rfl, Or.inr ⟨rfl, by simp [f_fits, c7, c18, c32, c47], hn, by rw [if_pos c74]⟩, by show va_P _ _ _ t.heap; rw [ht]; exact hP⟩, hS.F ht⟩) hS.2.2 dX0_addReading_96

set_option maxHeartbeats 4000000 in
set_option maxRecDepth 100000 in
/-- X0_addReset -/
theorem ct_X0_addReset (l : Launch) (G : Gx) (m0 t0 t1 t2 t3 h0 h1 h2 h3 h4 h5 : Nat) (sl : Int32) (la : Int64) (tn : Nat) (ts : Nat → Int32) (ta tb : Nat → Int64) (key : Int64) (n : Nat) (nu st : Nat → Int64) (de : Nat → Int32) (su : Nat → Int64) (mk : Nat → Int32) (number : Int64) (hc : n ≤ 200) (ht : tn ≤ 16) (hsl : sl = 0 ∨ sl = 1) : Met l yX0_addReset wsX0_addReset ({ frames := 3, cells := 0, slots := 0, locals := 77 }) (WrP G (wM G m0 t0 t1 t2 t3 h0 h1 h2 h3 h4 h5 sl la (nI tn) ts ta tb key (nI n) nu st de su mk) [.ref m0, .long number]) (va_Qi (fun r (u : va_W) => (r = 0 ∧ (f_within number 0 1000000000000 = 0 ∨ n = 200) ∧ u = wM G m0 t0 t1 t2 t3 h0 h1 h2 h3 h4 h5 sl la (nI tn) ts ta tb key (nI n) nu st de su mk) ∨ (r = 1 ∧ ¬ f_within number 0 1000000000000 = 0 ∧ n < 200 ∧ u = wM G m0 t0 t1 t2 t3 h0 h1 h2 h3 h4 h5 sl la (nI tn) ts ta tb key (nI (n + 1)) (vp_updL nu n number) (vp_updL st n (-1)) (upd de n 0) (vp_updL su n (f_due key (n + 1) (vp_updL nu n number) (vp_updL st n (-1)) (upd de n 0) su (nI n))) (upd mk n (if sl = 0 then 1 else 0)))) (fun u t => va_P G.1 vwCl u t.heap) (adr (wM G m0 t0 t1 t2 t3 h0 h1 h2 h3 h4 h5 sl la (nI tn) ts ta tb key (nI n) nu st de su mk))) 0 0 (adr (wM G m0 t0 t1 t2 t3 h0 h1 h2 h3 h4 h5 sl la (nI tn) ts ta tb key (nI n) nu st de su mk)) := by
  refine Met.ofW (cc := cX0_addReset) (maxL := 3) (ret := (some .boolean)) (by decide) rfl ?_
  intro p e s m args below meth c s₁ B hml hv
  obtain ⟨rfl, hP, hE, hD0⟩ := hv
  have hx := B.exec
  have hb := B.bytes
  have hr := B.returns
  have hts := atoms_spec (ws := wsX0_addReset) B.pre
  have hown : s.vm.findClass RX0 = some m.cls := findClass_of_methodNamed B.named
  have hlocks := B.notSynchronized
  have hD : va_D (adr (wM G m0 t0 t1 t2 t3 h0 h1 h2 h3 h4 h5 sl la (nI tn) ts ta tb key (nI n) nu st de su mk)) (wM G m0 t0 t1 t2 t3 h0 h1 h2 h3 h4 h5 sl la (nI tn) ts ta tb key (nI n) nu st de su mk) := ⟨hD0.1, fun k q hk => ⟨k, q.2, hk⟩⟩
  generalize adr (wM G m0 t0 t1 t2 t3 h0 h1 h2 h3 h4 h5 sl la (nI tn) ts ta tb key (nI n) nu st de su mk) = A at hD ⊢
  have hS : va_S A s.heap s.heap [] := va_S.rf
  have hiX0 : ∀ w ∈ wsX00, w ∈ wsX0_addReset := by decide +kernel
  have hl := lv_entry ([.ref m0, .long number]) (n := 3) (Nat.le_of_ble_eq_true rfl)
  rw [lg_entry_eq]
  generalize (lg_sl ([.ref m0, .long number]) ++ List.replicate (3 - (lg_sl ([.ref m0, .long number])).length) Slot.unset).toArray = ls at hl ⊢
  replace hl : lv_has ls 3 [(0, .ref m0), (1, .long number)] := hl
  refine lv_lload_n hx hb dX0_addReset_0 rfl (lv_at hl 1 rfl) ?_
  refine lv_lconst (v := 0) hx hb dX0_addReset_1 (by decide) ?_
  refine lv_ldc2 (v := 1000000000000) hx hb hown (hts (.constantLong RX0 45 1000000000000) (by decide +kernel)) dX0_addReset_2 ?_
  refine x_ri (va_runSN (As := [.long number, .long 0, .long 1000000000000]) (rest := []) ⟨hx, hb, hml, hown, hts⟩ (ct_X3_within l G number 0 1000000000000) ⟨va_cnB 3 hts gX0_addReset_X3_within_n41 rfl rfl rfl hE.2.1.2.1 (hts (.initialized RX3) (by decide +kernel)) (by decide +kernel) ⟨Nat.le_of_ble_eq_true rfl, Nat.le_of_ble_eq_true rfl⟩, hts (.static yX3_within) (by decide +kernel), trivial⟩ (RdP.preS (fun k q h => by simp at h) hE) rfl rfl hl.1 rfl (lv_room (Nat.le_of_ble_eq_true rfl)) dX0_addReset_5 ⟨Nat.zero_le _, Nat.zero_le _⟩) (fun r1 er1 => ?_)
  subst er1
  refine lv_if_eq (tgt := 42) hx hb dX0_addReset_8 (by decide) (fun c8 => ?_) (fun c8 => ?_)
  · refine lv_iconst (v := 0) hx hb dX0_addReset_42 (by decide) ?_
    exact W.zret (v := 0) hx hb hr (zb (Or.inl rfl)) (fun t ht hW => ⟨⟨0, wM G m0 t0 t1 t2 t3 h0 h1 h2 h3 h4 h5 sl la (nI tn) ts ta tb key (nI n) nu st de su mk, rfl, Or.inl ⟨rfl, Or.inl (by simp [c8, c8]), rfl⟩, by show va_P _ _ _ t.heap; rw [ht]; exact hP⟩, hS.F ht⟩) hS.2.2 dX0_addReset_43
  refine lv_aload_n hx hb dX0_addReset_11 rfl (lv_at hl 0 rfl) ?_
  refine va_get (D := G.1) (ci := 1) (v := .ref h0) (C := RX0) (T := TX0) (N := 4) hx hb hts hiX0 hown hE.1 hP 0 rfl rfl 1 (by decide) (hts (.fieldLink RX0 23 "MeterSeals$Meter" "rows" "LMeterSeals$Rows;") (by decide +kernel)) (fun _ h9 => h9) rfl dX0_addReset_12 ?_
  refine lv_lload_n hx hb dX0_addReset_15 rfl (lv_at hl 1 rfl) ?_
  refine lv_ldc2 (v := (-1)) hx hb hown (hts (.constantLong RX0 55 (-1)) (by decide +kernel)) dX0_addReset_16 ?_
  refine lv_iconst (v := 0) hx hb dX0_addReset_19 (by decide) ?_
  refine lv_aload_n hx hb dX0_addReset_20 rfl (lv_at hl 0 rfl) ?_
  refine va_get (D := G.1) (ci := 1) (v := .int sl) (C := RX0) (T := TX0) (N := 4) hx hb hts hiX0 hown hE.1 hP 0 rfl rfl 2 (by decide) (hts (.fieldLink RX0 27 "MeterSeals$Meter" "sealed" "Z") (by decide +kernel)) (fun _ h9 => h9) rfl dX0_addReset_21 ?_
  refine lv_if_ne (tgt := 31) hx hb dX0_addReset_24 (by decide) (fun c24 => ?_) (fun c24 => ?_)
  · refine lv_iconst (v := 0) hx hb dX0_addReset_31 (by decide) ?_
    refine va_calli (va_runV (As := [.long number, .long (-1), .int 0, .int 0]) (rest := []) ⟨hx, hb, hml, hown, hts⟩ (ct_X1_add l G h0 h1 h2 h3 h4 h5 key n nu st de su mk number (-1) 0 0 hc (Or.inl rfl)) (cwV 4 hts gX0_addReset_X1_add rfl rfl rfl (by decide +kernel) ⟨Nat.le_of_ble_eq_true rfl, Nat.le_of_ble_eq_true rfl⟩) (WrP.preV 0 2 rfl rfl (x_mid ([(m0, .inr (1, [.ref t0, .ref h0, .int sl, .long la]))] ++ wT G t0 t1 t2 t3 (nI tn) ts ta tb) (wR G h0 h1 h2 h3 h4 h5 key (nI n) nu st de su mk) ([]) rfl hP) hE (x_midD ([(m0, .inr (1, [.ref t0, .ref h0, .int sl, .long la]))] ++ wT G t0 t1 t2 t3 (nI tn) ts ta tb) (wR G h0 h1 h2 h3 h4 h5 key (nI n) nu st de su mk) ([]) rfl hD)) rfl rfl hl.1 rfl (lv_room (Nat.le_of_ble_eq_true rfl)) dX0_addReset_32 ⟨Nat.zero_le _, Nat.zero_le _⟩) hS (fun q _ h => (x_adr ([(m0, .inr (1, [.ref t0, .ref h0, .int sl, .long la]))] ++ wT G t0 t1 t2 t3 (nI tn) ts ta tb) (wR G h0 h1 h2 h3 h4 h5 key (nI n) nu st de su mk) ([]) rfl hD) q h) (x_adr ([(m0, .inr (1, [.ref t0, .ref h0, .int sl, .long la]))] ++ wT G t0 t1 t2 t3 (nI tn) ts ta tb) (wR G h0 h1 h2 h3 h4 h5 key (nI n) nu st de su mk) ([]) rfl hD) (fun r2 u t H1 locs ht hvm hw hB hz1 hk1 hS => ?_)
    rw [ht] at hB
    rcases hw with ⟨hn, rfl, rfl⟩ | ⟨hn, rfl, rfl⟩
    · obtain ⟨hP, hD⟩ := x_join ([(m0, .inr (1, [.ref t0, .ref h0, .int sl, .long la]))] ++ wT G t0 t1 t2 t3 (nI tn) ts ta tb) (wR G h0 h1 h2 h3 h4 h5 key (nI n) nu st de su mk) ([]) (wR G h0 h1 h2 h3 h4 h5 key (nI n) nu st de su mk) rfl hP hD hk1 hB rfl
      generalize H1 = H at hP hS ⊢
      have hP : va_P G.1 vwCl (wM G m0 t0 t1 t2 t3 h0 h1 h2 h3 h4 h5 sl la (nI tn) ts ta tb key (nI n) nu st de su mk) H := hP
      have hD : va_D A (wM G m0 t0 t1 t2 t3 h0 h1 h2 h3 h4 h5 sl la (nI tn) ts ta tb key (nI n) nu st de su mk) := hD
      refine lv_if_eq (tgt := 42) hx hb dX0_addReset_35 (by decide) (fun c35 => ?_) (fun c35 => absurd c35 (by decide))
      refine lv_iconst (v := 0) hx hb dX0_addReset_42 (by decide) ?_
      exact W.zret (v := 0) hx hb hr (zb (Or.inl rfl)) (fun t ht hW => ⟨⟨0, wM G m0 t0 t1 t2 t3 h0 h1 h2 h3 h4 h5 sl la (nI tn) ts ta tb key (nI n) nu st de su mk, rfl, Or.inl ⟨rfl, Or.inr hn, rfl⟩, by show va_P _ _ _ t.heap; rw [ht]; exact hP⟩, hS.F ht⟩) hS.2.2 dX0_addReset_43
    obtain ⟨hP, hD⟩ := x_join ([(m0, .inr (1, [.ref t0, .ref h0, .int sl, .long la]))] ++ wT G t0 t1 t2 t3 (nI tn) ts ta tb) (wR G h0 h1 h2 h3 h4 h5 key (nI n) nu st de su mk) ([]) (wR G h0 h1 h2 h3 h4 h5 key (nI (n + 1)) (vp_updL nu n number) (vp_updL st n (-1)) (upd de n 0) (vp_updL su n (f_due key (n + 1) (vp_updL nu n number) (vp_updL st n (-1)) (upd de n 0) su (nI n))) (upd mk n 0)) rfl hP hD hk1 hB rfl
    generalize H1 = H at hP hS ⊢
    have hP : va_P G.1 vwCl (wM G m0 t0 t1 t2 t3 h0 h1 h2 h3 h4 h5 sl la (nI tn) ts ta tb key (nI (n + 1)) (vp_updL nu n number) (vp_updL st n (-1)) (upd de n 0) (vp_updL su n (f_due key (n + 1) (vp_updL nu n number) (vp_updL st n (-1)) (upd de n 0) su (nI n))) (upd mk n 0)) H := hP
    have hD : va_D A (wM G m0 t0 t1 t2 t3 h0 h1 h2 h3 h4 h5 sl la (nI tn) ts ta tb key (nI (n + 1)) (vp_updL nu n number) (vp_updL st n (-1)) (upd de n 0) (vp_updL su n (f_due key (n + 1) (vp_updL nu n number) (vp_updL st n (-1)) (upd de n 0) su (nI n))) (upd mk n 0)) := hD
    refine lv_if_eq (tgt := 42) hx hb dX0_addReset_35 (by decide) (fun c35 => absurd c35 (by decide)) (fun c35 => ?_)
    refine lv_iconst (v := 1) hx hb dX0_addReset_38 (by decide) ?_
    refine lv_goto (tgt := 43) hx hb dX0_addReset_39 (by decide) ?_
    exact W.zret (v := 1) hx hb hr (zb (Or.inr rfl)) (fun t ht hW => ⟨⟨1, wM G m0 t0 t1 t2 t3 h0 h1 h2 h3 h4 h5 sl la (nI tn) ts ta tb key (nI (n + 1)) (vp_updL nu n number) (vp_updL st n (-1)) (upd de n 0) (vp_updL su n (f_due key (n + 1) (vp_updL nu n number) (vp_updL st n (-1)) (upd de n 0) su (nI n))) (upd mk n 0), rfl, Or.inr ⟨rfl, by simp [c8, c8], hn, by rw [if_neg c24]⟩, by show va_P _ _ _ t.heap; rw [ht]; exact hP⟩, hS.F ht⟩) hS.2.2 dX0_addReset_43
  refine lv_iconst (v := 1) hx hb dX0_addReset_27 (by decide) ?_
  refine lv_goto (tgt := 32) hx hb dX0_addReset_28 (by decide) ?_
  refine va_calli (va_runV (As := [.long number, .long (-1), .int 0, .int 1]) (rest := []) ⟨hx, hb, hml, hown, hts⟩ (ct_X1_add l G h0 h1 h2 h3 h4 h5 key n nu st de su mk number (-1) 0 1 hc (Or.inr rfl)) (cwV 4 hts gX0_addReset_X1_add rfl rfl rfl (by decide +kernel) ⟨Nat.le_of_ble_eq_true rfl, Nat.le_of_ble_eq_true rfl⟩) (WrP.preV 0 2 rfl rfl (x_mid ([(m0, .inr (1, [.ref t0, .ref h0, .int sl, .long la]))] ++ wT G t0 t1 t2 t3 (nI tn) ts ta tb) (wR G h0 h1 h2 h3 h4 h5 key (nI n) nu st de su mk) ([]) rfl hP) hE (x_midD ([(m0, .inr (1, [.ref t0, .ref h0, .int sl, .long la]))] ++ wT G t0 t1 t2 t3 (nI tn) ts ta tb) (wR G h0 h1 h2 h3 h4 h5 key (nI n) nu st de su mk) ([]) rfl hD)) rfl rfl hl.1 rfl (lv_room (Nat.le_of_ble_eq_true rfl)) dX0_addReset_32 ⟨Nat.zero_le _, Nat.zero_le _⟩) hS (fun q _ h => (x_adr ([(m0, .inr (1, [.ref t0, .ref h0, .int sl, .long la]))] ++ wT G t0 t1 t2 t3 (nI tn) ts ta tb) (wR G h0 h1 h2 h3 h4 h5 key (nI n) nu st de su mk) ([]) rfl hD) q h) (x_adr ([(m0, .inr (1, [.ref t0, .ref h0, .int sl, .long la]))] ++ wT G t0 t1 t2 t3 (nI tn) ts ta tb) (wR G h0 h1 h2 h3 h4 h5 key (nI n) nu st de su mk) ([]) rfl hD) (fun r3 u t H1 locs ht hvm hw hB hz1 hk1 hS => ?_)
  rw [ht] at hB
  rcases hw with ⟨hn, rfl, rfl⟩ | ⟨hn, rfl, rfl⟩
  · obtain ⟨hP, hD⟩ := x_join ([(m0, .inr (1, [.ref t0, .ref h0, .int sl, .long la]))] ++ wT G t0 t1 t2 t3 (nI tn) ts ta tb) (wR G h0 h1 h2 h3 h4 h5 key (nI n) nu st de su mk) ([]) (wR G h0 h1 h2 h3 h4 h5 key (nI n) nu st de su mk) rfl hP hD hk1 hB rfl
    generalize H1 = H at hP hS ⊢
    have hP : va_P G.1 vwCl (wM G m0 t0 t1 t2 t3 h0 h1 h2 h3 h4 h5 sl la (nI tn) ts ta tb key (nI n) nu st de su mk) H := hP
    have hD : va_D A (wM G m0 t0 t1 t2 t3 h0 h1 h2 h3 h4 h5 sl la (nI tn) ts ta tb key (nI n) nu st de su mk) := hD
    refine lv_if_eq (tgt := 42) hx hb dX0_addReset_35 (by decide) (fun c35 => ?_) (fun c35 => absurd c35 (by decide))
    refine lv_iconst (v := 0) hx hb dX0_addReset_42 (by decide) ?_
    exact W.zret (v := 0) hx hb hr (zb (Or.inl rfl)) (fun t ht hW => ⟨⟨0, wM G m0 t0 t1 t2 t3 h0 h1 h2 h3 h4 h5 sl la (nI tn) ts ta tb key (nI n) nu st de su mk, rfl, Or.inl ⟨rfl, Or.inr hn, rfl⟩, by show va_P _ _ _ t.heap; rw [ht]; exact hP⟩, hS.F ht⟩) hS.2.2 dX0_addReset_43
  obtain ⟨hP, hD⟩ := x_join ([(m0, .inr (1, [.ref t0, .ref h0, .int sl, .long la]))] ++ wT G t0 t1 t2 t3 (nI tn) ts ta tb) (wR G h0 h1 h2 h3 h4 h5 key (nI n) nu st de su mk) ([]) (wR G h0 h1 h2 h3 h4 h5 key (nI (n + 1)) (vp_updL nu n number) (vp_updL st n (-1)) (upd de n 0) (vp_updL su n (f_due key (n + 1) (vp_updL nu n number) (vp_updL st n (-1)) (upd de n 0) su (nI n))) (upd mk n 1)) rfl hP hD hk1 hB rfl
  generalize H1 = H at hP hS ⊢
  have hP : va_P G.1 vwCl (wM G m0 t0 t1 t2 t3 h0 h1 h2 h3 h4 h5 sl la (nI tn) ts ta tb key (nI (n + 1)) (vp_updL nu n number) (vp_updL st n (-1)) (upd de n 0) (vp_updL su n (f_due key (n + 1) (vp_updL nu n number) (vp_updL st n (-1)) (upd de n 0) su (nI n))) (upd mk n 1)) H := hP
  have hD : va_D A (wM G m0 t0 t1 t2 t3 h0 h1 h2 h3 h4 h5 sl la (nI tn) ts ta tb key (nI (n + 1)) (vp_updL nu n number) (vp_updL st n (-1)) (upd de n 0) (vp_updL su n (f_due key (n + 1) (vp_updL nu n number) (vp_updL st n (-1)) (upd de n 0) su (nI n))) (upd mk n 1)) := hD
  refine lv_if_eq (tgt := 42) hx hb dX0_addReset_35 (by decide) (fun c35 => absurd c35 (by decide)) (fun c35 => ?_)
  refine lv_iconst (v := 1) hx hb dX0_addReset_38 (by decide) ?_
  refine lv_goto (tgt := 43) hx hb dX0_addReset_39 (by decide) ?_
  exact W.zret (v := 1) hx hb hr (zb (Or.inr rfl)) (fun t ht hW => ⟨⟨1, wM G m0 t0 t1 t2 t3 h0 h1 h2 h3 h4 h5 sl la (nI tn) ts ta tb key (nI (n + 1)) (vp_updL nu n number) (vp_updL st n (-1)) (upd de n 0) (vp_updL su n (f_due key (n + 1) (vp_updL nu n number) (vp_updL st n (-1)) (upd de n 0) su (nI n))) (upd mk n 1), rfl, Or.inr ⟨rfl, by simp [c8, c8], hn, by rw [if_pos c24]⟩, by show va_P _ _ _ t.heap; rw [ht]; exact hP⟩, hS.F ht⟩) hS.2.2 dX0_addReset_43

set_option maxHeartbeats 4000000 in
set_option maxRecDepth 100000 in
/-- X0_turnSeal -/
theorem ct_X0_turnSeal (l : Launch) (G : Gx) (m0 t0 t1 t2 t3 h0 h1 h2 h3 h4 h5 : Nat) (sl : Int32) (la : Int64) (tn : Nat) (ts : Nat → Int32) (ta tb : Nat → Int64) (key : Int64) (n : Nat) (nu st : Nat → Int64) (de : Nat → Int32) (su : Nat → Int64) (mk : Nat → Int32) (person set_ : Int32) (hc : n ≤ 200) (ht : tn ≤ 16) (hsl : sl = 0 ∨ sl = 1) (hset : set_ = 0 ∨ set_ = 1) : Met l yX0_turnSeal wsX0_turnSeal ({ frames := 3, cells := 0, slots := 0, locals := 77 }) (WrP G (wM G m0 t0 t1 t2 t3 h0 h1 h2 h3 h4 h5 sl la (nI tn) ts ta tb key (nI n) nu st de su mk) [.ref m0, .int person, .int set_]) (va_Qi (fun r (u : va_W) => (r = 0 ∧ (f_tfit sl person set_ = 0 ∨ n = 200) ∧ u = wM G m0 t0 t1 t2 t3 h0 h1 h2 h3 h4 h5 sl la (nI tn) ts ta tb key (nI n) nu st de su mk) ∨ (r = 1 ∧ ¬ f_tfit sl person set_ = 0 ∧ n < 200 ∧ u = wM G m0 t0 t1 t2 t3 h0 h1 h2 h3 h4 h5 set_ la (nI tn) ts ta tb key (nI (n + 1)) (vp_updL nu n person.toInt64) (vp_updL st n (if set_ = 0 then -2 else -3)) (upd de n 0) (vp_updL su n (f_due key (n + 1) (vp_updL nu n person.toInt64) (vp_updL st n (if set_ = 0 then -2 else -3)) (upd de n 0) su (nI n))) (upd mk n 1))) (fun u t => va_P G.1 vwCl u t.heap) (adr (wM G m0 t0 t1 t2 t3 h0 h1 h2 h3 h4 h5 sl la (nI tn) ts ta tb key (nI n) nu st de su mk))) 0 0 (adr (wM G m0 t0 t1 t2 t3 h0 h1 h2 h3 h4 h5 sl la (nI tn) ts ta tb key (nI n) nu st de su mk)) := by
  refine Met.ofW (cc := cX0_turnSeal) (maxL := 3) (ret := (some .boolean)) (by decide) rfl ?_
  intro p e s m args below meth c s₁ B hml hv
  obtain ⟨rfl, hP, hE, hD0⟩ := hv
  have hx := B.exec
  have hb := B.bytes
  have hr := B.returns
  have hts := atoms_spec (ws := wsX0_turnSeal) B.pre
  have hown : s.vm.findClass RX0 = some m.cls := findClass_of_methodNamed B.named
  have hlocks := B.notSynchronized
  have hD : va_D (adr (wM G m0 t0 t1 t2 t3 h0 h1 h2 h3 h4 h5 sl la (nI tn) ts ta tb key (nI n) nu st de su mk)) (wM G m0 t0 t1 t2 t3 h0 h1 h2 h3 h4 h5 sl la (nI tn) ts ta tb key (nI n) nu st de su mk) := ⟨hD0.1, fun k q hk => ⟨k, q.2, hk⟩⟩
  generalize adr (wM G m0 t0 t1 t2 t3 h0 h1 h2 h3 h4 h5 sl la (nI tn) ts ta tb key (nI n) nu st de su mk) = A at hD ⊢
  have hS : va_S A s.heap s.heap [] := va_S.rf
  have hiX0 : ∀ w ∈ wsX00, w ∈ wsX0_turnSeal := by decide +kernel
  have hl := lv_entry ([.ref m0, .int person, .int set_]) (n := 3) (Nat.le_of_ble_eq_true rfl)
  rw [lg_entry_eq]
  generalize (lg_sl ([.ref m0, .int person, .int set_]) ++ List.replicate (3 - (lg_sl ([.ref m0, .int person, .int set_])).length) Slot.unset).toArray = ls at hl ⊢
  replace hl : lv_has ls 3 [(0, .ref m0), (1, .int person), (2, .int set_)] := hl
  refine lv_iload_n hx hb dX0_turnSeal_0 rfl (lv_at hl 1 rfl) ?_
  refine lv_i2l (v := person.toInt64) hx hb dX0_turnSeal_1 rfl ?_
  refine lv_lconst (v := 1) hx hb dX0_turnSeal_2 (by decide) ?_
  refine lv_ldc2 (v := 999) hx hb hown (hts (.constantLong RX0 57 999) (by decide +kernel)) dX0_turnSeal_3 ?_
  refine x_ri (va_runSN (As := [.long person.toInt64, .long 1, .long 999]) (rest := []) ⟨hx, hb, hml, hown, hts⟩ (ct_X3_within l G person.toInt64 1 999) ⟨va_cnB 3 hts gX0_turnSeal_X3_within_n41 rfl rfl rfl hE.2.1.2.1 (hts (.initialized RX3) (by decide +kernel)) (by decide +kernel) ⟨Nat.le_of_ble_eq_true rfl, Nat.le_of_ble_eq_true rfl⟩, hts (.static yX3_within) (by decide +kernel), trivial⟩ (RdP.preS (fun k q h => by simp at h) hE) rfl rfl hl.1 rfl (lv_room (Nat.le_of_ble_eq_true rfl)) dX0_turnSeal_6 ⟨Nat.zero_le _, Nat.zero_le _⟩) (fun r1 er1 => ?_)
  subst er1
  refine lv_if_eq (tgt := 20) hx hb dX0_turnSeal_9 (by decide) (fun c9 => ?_) (fun c9 => ?_)
  · refine lv_iconst (v := 0) hx hb dX0_turnSeal_20 (by decide) ?_
    exact W.zret (v := 0) hx hb hr (zb (Or.inl rfl)) (fun t ht hW => ⟨⟨0, wM G m0 t0 t1 t2 t3 h0 h1 h2 h3 h4 h5 sl la (nI tn) ts ta tb key (nI n) nu st de su mk, rfl, Or.inl ⟨rfl, Or.inl (by simp [f_tfit, c9]), rfl⟩, by show va_P _ _ _ t.heap; rw [ht]; exact hP⟩, hS.F ht⟩) hS.2.2 dX0_turnSeal_21
  refine lv_aload_n hx hb dX0_turnSeal_12 rfl (lv_at hl 0 rfl) ?_
  refine va_get (D := G.1) (ci := 1) (v := .int sl) (C := RX0) (T := TX0) (N := 4) hx hb hts hiX0 hown hE.1 hP 0 rfl rfl 2 (by decide) (hts (.fieldLink RX0 27 "MeterSeals$Meter" "sealed" "Z") (by decide +kernel)) (fun _ h9 => h9) rfl dX0_turnSeal_13 ?_
  refine lv_iload_n hx hb dX0_turnSeal_16 rfl (lv_at hl 2 rfl) ?_
  refine lv_icmp_ne (tgt := 22) hx hb dX0_turnSeal_17 (by decide) (fun c17 => ?_) (fun c17 => ?_)
  · refine lv_aload_n hx hb dX0_turnSeal_22 rfl (lv_at hl 0 rfl) ?_
    refine va_get (D := G.1) (ci := 1) (v := .ref h0) (C := RX0) (T := TX0) (N := 4) hx hb hts hiX0 hown hE.1 hP 0 rfl rfl 1 (by decide) (hts (.fieldLink RX0 23 "MeterSeals$Meter" "rows" "LMeterSeals$Rows;") (by decide +kernel)) (fun _ h9 => h9) rfl dX0_turnSeal_23 ?_
    refine lv_iload_n hx hb dX0_turnSeal_26 rfl (lv_at hl 1 rfl) ?_
    refine lv_i2l (v := person.toInt64) hx hb dX0_turnSeal_27 rfl ?_
    refine lv_iload_n hx hb dX0_turnSeal_28 rfl (lv_at hl 2 rfl) ?_
    refine lv_if_eq (tgt := 38) hx hb dX0_turnSeal_29 (by decide) (fun c29 => ?_) (fun c29 => ?_)
    · refine lv_ldc2 (v := (-2)) hx hb hown (hts (.constantLong RX0 61 (-2)) (by decide +kernel)) dX0_turnSeal_38 ?_
      refine lv_iconst (v := 0) hx hb dX0_turnSeal_41 (by decide) ?_
      refine lv_iconst (v := 1) hx hb dX0_turnSeal_42 (by decide) ?_
      refine va_calli (va_runV (As := [.long person.toInt64, .long (-2), .int 0, .int 1]) (rest := []) ⟨hx, hb, hml, hown, hts⟩ (ct_X1_add l G h0 h1 h2 h3 h4 h5 key n nu st de su mk person.toInt64 (-2) 0 1 hc (Or.inr rfl)) (cwV 4 hts gX0_turnSeal_X1_add rfl rfl rfl (by decide +kernel) ⟨Nat.le_of_ble_eq_true rfl, Nat.le_of_ble_eq_true rfl⟩) (WrP.preV 0 2 rfl rfl (x_mid ([(m0, .inr (1, [.ref t0, .ref h0, .int sl, .long la]))] ++ wT G t0 t1 t2 t3 (nI tn) ts ta tb) (wR G h0 h1 h2 h3 h4 h5 key (nI n) nu st de su mk) ([]) rfl hP) hE (x_midD ([(m0, .inr (1, [.ref t0, .ref h0, .int sl, .long la]))] ++ wT G t0 t1 t2 t3 (nI tn) ts ta tb) (wR G h0 h1 h2 h3 h4 h5 key (nI n) nu st de su mk) ([]) rfl hD)) rfl rfl hl.1 rfl (lv_room (Nat.le_of_ble_eq_true rfl)) dX0_turnSeal_43 ⟨Nat.zero_le _, Nat.zero_le _⟩) hS (fun q _ h => (x_adr ([(m0, .inr (1, [.ref t0, .ref h0, .int sl, .long la]))] ++ wT G t0 t1 t2 t3 (nI tn) ts ta tb) (wR G h0 h1 h2 h3 h4 h5 key (nI n) nu st de su mk) ([]) rfl hD) q h) (x_adr ([(m0, .inr (1, [.ref t0, .ref h0, .int sl, .long la]))] ++ wT G t0 t1 t2 t3 (nI tn) ts ta tb) (wR G h0 h1 h2 h3 h4 h5 key (nI n) nu st de su mk) ([]) rfl hD) (fun r2 u t H1 locs ht hvm hw hB hz1 hk1 hS => ?_)
      rw [ht] at hB
      rcases hw with ⟨hn, rfl, rfl⟩ | ⟨hn, rfl, rfl⟩
      · obtain ⟨hP, hD⟩ := x_join ([(m0, .inr (1, [.ref t0, .ref h0, .int sl, .long la]))] ++ wT G t0 t1 t2 t3 (nI tn) ts ta tb) (wR G h0 h1 h2 h3 h4 h5 key (nI n) nu st de su mk) ([]) (wR G h0 h1 h2 h3 h4 h5 key (nI n) nu st de su mk) rfl hP hD hk1 hB rfl
        generalize H1 = H at hP hS ⊢
        have hP : va_P G.1 vwCl (wM G m0 t0 t1 t2 t3 h0 h1 h2 h3 h4 h5 sl la (nI tn) ts ta tb key (nI n) nu st de su mk) H := hP
        have hD : va_D A (wM G m0 t0 t1 t2 t3 h0 h1 h2 h3 h4 h5 sl la (nI tn) ts ta tb key (nI n) nu st de su mk) := hD
        refine lv_if_ne (tgt := 51) hx hb dX0_turnSeal_46 (by decide) (fun c46 => absurd c46 (by decide)) (fun c46 => ?_)
        refine lv_iconst (v := 0) hx hb dX0_turnSeal_49 (by decide) ?_
        exact W.zret (v := 0) hx hb hr (zb (Or.inl rfl)) (fun t ht hW => ⟨⟨0, wM G m0 t0 t1 t2 t3 h0 h1 h2 h3 h4 h5 sl la (nI tn) ts ta tb key (nI n) nu st de su mk, rfl, Or.inl ⟨rfl, Or.inr hn, rfl⟩, by show va_P _ _ _ t.heap; rw [ht]; exact hP⟩, hS.F ht⟩) hS.2.2 dX0_turnSeal_50
      obtain ⟨hP, hD⟩ := x_join ([(m0, .inr (1, [.ref t0, .ref h0, .int sl, .long la]))] ++ wT G t0 t1 t2 t3 (nI tn) ts ta tb) (wR G h0 h1 h2 h3 h4 h5 key (nI n) nu st de su mk) ([]) (wR G h0 h1 h2 h3 h4 h5 key (nI (n + 1)) (vp_updL nu n person.toInt64) (vp_updL st n (-2)) (upd de n 0) (vp_updL su n (f_due key (n + 1) (vp_updL nu n person.toInt64) (vp_updL st n (-2)) (upd de n 0) su (nI n))) (upd mk n 1)) rfl hP hD hk1 hB rfl
      generalize H1 = H at hP hS ⊢
      have hP : va_P G.1 vwCl (wM G m0 t0 t1 t2 t3 h0 h1 h2 h3 h4 h5 sl la (nI tn) ts ta tb key (nI (n + 1)) (vp_updL nu n person.toInt64) (vp_updL st n (-2)) (upd de n 0) (vp_updL su n (f_due key (n + 1) (vp_updL nu n person.toInt64) (vp_updL st n (-2)) (upd de n 0) su (nI n))) (upd mk n 1)) H := hP
      have hD : va_D A (wM G m0 t0 t1 t2 t3 h0 h1 h2 h3 h4 h5 sl la (nI tn) ts ta tb key (nI (n + 1)) (vp_updL nu n person.toInt64) (vp_updL st n (-2)) (upd de n 0) (vp_updL su n (f_due key (n + 1) (vp_updL nu n person.toInt64) (vp_updL st n (-2)) (upd de n 0) su (nI n))) (upd mk n 1)) := hD
      refine lv_if_ne (tgt := 51) hx hb dX0_turnSeal_46 (by decide) (fun c46 => ?_) (fun c46 => absurd c46 (by decide))
      refine lv_aload_n hx hb dX0_turnSeal_51 rfl (lv_at hl 0 rfl) ?_
      refine lv_iload_n hx hb dX0_turnSeal_52 rfl (lv_at hl 2 rfl) ?_
      refine va_put (D := G.1) (ci := 1) (v := .int set_) (ty := .boolean) (C := RX0) (T := TX0) (N := 4) hx hb hts hiX0 tyX0 tyX0_ok nmX0 hown hE.1 hP hD hS 0 rfl rfl 2 (by decide) (hts (.fieldLink RX0 27 "MeterSeals$Meter" "sealed" "Z") (by decide +kernel)) (fun _ h9 => h9) rfl (by decide +kernel) (zb hset) (zfit hset) (Nat.le_of_ble_eq_true rfl) dX0_turnSeal_53 (fun H locs hP hD hS => ?_)
      have hP : va_P G.1 vwCl (wM G m0 t0 t1 t2 t3 h0 h1 h2 h3 h4 h5 set_ la (nI tn) ts ta tb key (nI (n + 1)) (vp_updL nu n person.toInt64) (vp_updL st n (-2)) (upd de n 0) (vp_updL su n (f_due key (n + 1) (vp_updL nu n person.toInt64) (vp_updL st n (-2)) (upd de n 0) su (nI n))) (upd mk n 1)) H := hP
      have hD : va_D A (wM G m0 t0 t1 t2 t3 h0 h1 h2 h3 h4 h5 set_ la (nI tn) ts ta tb key (nI (n + 1)) (vp_updL nu n person.toInt64) (vp_updL st n (-2)) (upd de n 0) (vp_updL su n (f_due key (n + 1) (vp_updL nu n person.toInt64) (vp_updL st n (-2)) (upd de n 0) su (nI n))) (upd mk n 1)) := hD
      refine lv_iconst (v := 1) hx hb dX0_turnSeal_56 (by decide) ?_
      exact W.zret (v := 1) hx hb hr (zb (Or.inr rfl)) (fun t ht hW => ⟨⟨1, wM G m0 t0 t1 t2 t3 h0 h1 h2 h3 h4 h5 set_ la (nI tn) ts ta tb key (nI (n + 1)) (vp_updL nu n person.toInt64) (vp_updL st n (-2)) (upd de n 0) (vp_updL su n (f_due key (n + 1) (vp_updL nu n person.toInt64) (vp_updL st n (-2)) (upd de n 0) su (nI n))) (upd mk n 1), rfl, Or.inr ⟨rfl, by simp [f_tfit, c9, c17], hn, by rw [if_pos c29]⟩, by show va_P _ _ _ t.heap; rw [ht]; exact hP⟩, hS.F ht⟩) hS.2.2 dX0_turnSeal_57
    refine lv_ldc2 (v := (-3)) hx hb hown (hts (.constantLong RX0 59 (-3)) (by decide +kernel)) dX0_turnSeal_32 ?_
    refine lv_goto (tgt := 41) hx hb dX0_turnSeal_35 (by decide) ?_
    refine lv_iconst (v := 0) hx hb dX0_turnSeal_41 (by decide) ?_
    refine lv_iconst (v := 1) hx hb dX0_turnSeal_42 (by decide) ?_
    refine va_calli (va_runV (As := [.long person.toInt64, .long (-3), .int 0, .int 1]) (rest := []) ⟨hx, hb, hml, hown, hts⟩ (ct_X1_add l G h0 h1 h2 h3 h4 h5 key n nu st de su mk person.toInt64 (-3) 0 1 hc (Or.inr rfl)) (cwV 4 hts gX0_turnSeal_X1_add rfl rfl rfl (by decide +kernel) ⟨Nat.le_of_ble_eq_true rfl, Nat.le_of_ble_eq_true rfl⟩) (WrP.preV 0 2 rfl rfl (x_mid ([(m0, .inr (1, [.ref t0, .ref h0, .int sl, .long la]))] ++ wT G t0 t1 t2 t3 (nI tn) ts ta tb) (wR G h0 h1 h2 h3 h4 h5 key (nI n) nu st de su mk) ([]) rfl hP) hE (x_midD ([(m0, .inr (1, [.ref t0, .ref h0, .int sl, .long la]))] ++ wT G t0 t1 t2 t3 (nI tn) ts ta tb) (wR G h0 h1 h2 h3 h4 h5 key (nI n) nu st de su mk) ([]) rfl hD)) rfl rfl hl.1 rfl (lv_room (Nat.le_of_ble_eq_true rfl)) dX0_turnSeal_43 ⟨Nat.zero_le _, Nat.zero_le _⟩) hS (fun q _ h => (x_adr ([(m0, .inr (1, [.ref t0, .ref h0, .int sl, .long la]))] ++ wT G t0 t1 t2 t3 (nI tn) ts ta tb) (wR G h0 h1 h2 h3 h4 h5 key (nI n) nu st de su mk) ([]) rfl hD) q h) (x_adr ([(m0, .inr (1, [.ref t0, .ref h0, .int sl, .long la]))] ++ wT G t0 t1 t2 t3 (nI tn) ts ta tb) (wR G h0 h1 h2 h3 h4 h5 key (nI n) nu st de su mk) ([]) rfl hD) (fun r3 u t H1 locs ht hvm hw hB hz1 hk1 hS => ?_)
    rw [ht] at hB
    rcases hw with ⟨hn, rfl, rfl⟩ | ⟨hn, rfl, rfl⟩
    · obtain ⟨hP, hD⟩ := x_join ([(m0, .inr (1, [.ref t0, .ref h0, .int sl, .long la]))] ++ wT G t0 t1 t2 t3 (nI tn) ts ta tb) (wR G h0 h1 h2 h3 h4 h5 key (nI n) nu st de su mk) ([]) (wR G h0 h1 h2 h3 h4 h5 key (nI n) nu st de su mk) rfl hP hD hk1 hB rfl
      generalize H1 = H at hP hS ⊢
      have hP : va_P G.1 vwCl (wM G m0 t0 t1 t2 t3 h0 h1 h2 h3 h4 h5 sl la (nI tn) ts ta tb key (nI n) nu st de su mk) H := hP
      have hD : va_D A (wM G m0 t0 t1 t2 t3 h0 h1 h2 h3 h4 h5 sl la (nI tn) ts ta tb key (nI n) nu st de su mk) := hD
      refine lv_if_ne (tgt := 51) hx hb dX0_turnSeal_46 (by decide) (fun c46 => absurd c46 (by decide)) (fun c46 => ?_)
      refine lv_iconst (v := 0) hx hb dX0_turnSeal_49 (by decide) ?_
      exact W.zret (v := 0) hx hb hr (zb (Or.inl rfl)) (fun t ht hW => ⟨⟨0, wM G m0 t0 t1 t2 t3 h0 h1 h2 h3 h4 h5 sl la (nI tn) ts ta tb key (nI n) nu st de su mk, rfl, Or.inl ⟨rfl, Or.inr hn, rfl⟩, by show va_P _ _ _ t.heap; rw [ht]; exact hP⟩, hS.F ht⟩) hS.2.2 dX0_turnSeal_50
    obtain ⟨hP, hD⟩ := x_join ([(m0, .inr (1, [.ref t0, .ref h0, .int sl, .long la]))] ++ wT G t0 t1 t2 t3 (nI tn) ts ta tb) (wR G h0 h1 h2 h3 h4 h5 key (nI n) nu st de su mk) ([]) (wR G h0 h1 h2 h3 h4 h5 key (nI (n + 1)) (vp_updL nu n person.toInt64) (vp_updL st n (-3)) (upd de n 0) (vp_updL su n (f_due key (n + 1) (vp_updL nu n person.toInt64) (vp_updL st n (-3)) (upd de n 0) su (nI n))) (upd mk n 1)) rfl hP hD hk1 hB rfl
    generalize H1 = H at hP hS ⊢
    have hP : va_P G.1 vwCl (wM G m0 t0 t1 t2 t3 h0 h1 h2 h3 h4 h5 sl la (nI tn) ts ta tb key (nI (n + 1)) (vp_updL nu n person.toInt64) (vp_updL st n (-3)) (upd de n 0) (vp_updL su n (f_due key (n + 1) (vp_updL nu n person.toInt64) (vp_updL st n (-3)) (upd de n 0) su (nI n))) (upd mk n 1)) H := hP
    have hD : va_D A (wM G m0 t0 t1 t2 t3 h0 h1 h2 h3 h4 h5 sl la (nI tn) ts ta tb key (nI (n + 1)) (vp_updL nu n person.toInt64) (vp_updL st n (-3)) (upd de n 0) (vp_updL su n (f_due key (n + 1) (vp_updL nu n person.toInt64) (vp_updL st n (-3)) (upd de n 0) su (nI n))) (upd mk n 1)) := hD
    refine lv_if_ne (tgt := 51) hx hb dX0_turnSeal_46 (by decide) (fun c46 => ?_) (fun c46 => absurd c46 (by decide))
    refine lv_aload_n hx hb dX0_turnSeal_51 rfl (lv_at hl 0 rfl) ?_
    refine lv_iload_n hx hb dX0_turnSeal_52 rfl (lv_at hl 2 rfl) ?_
    refine va_put (D := G.1) (ci := 1) (v := .int set_) (ty := .boolean) (C := RX0) (T := TX0) (N := 4) hx hb hts hiX0 tyX0 tyX0_ok nmX0 hown hE.1 hP hD hS 0 rfl rfl 2 (by decide) (hts (.fieldLink RX0 27 "MeterSeals$Meter" "sealed" "Z") (by decide +kernel)) (fun _ h9 => h9) rfl (by decide +kernel) (zb hset) (zfit hset) (Nat.le_of_ble_eq_true rfl) dX0_turnSeal_53 (fun H locs hP hD hS => ?_)
    have hP : va_P G.1 vwCl (wM G m0 t0 t1 t2 t3 h0 h1 h2 h3 h4 h5 set_ la (nI tn) ts ta tb key (nI (n + 1)) (vp_updL nu n person.toInt64) (vp_updL st n (-3)) (upd de n 0) (vp_updL su n (f_due key (n + 1) (vp_updL nu n person.toInt64) (vp_updL st n (-3)) (upd de n 0) su (nI n))) (upd mk n 1)) H := hP
    have hD : va_D A (wM G m0 t0 t1 t2 t3 h0 h1 h2 h3 h4 h5 set_ la (nI tn) ts ta tb key (nI (n + 1)) (vp_updL nu n person.toInt64) (vp_updL st n (-3)) (upd de n 0) (vp_updL su n (f_due key (n + 1) (vp_updL nu n person.toInt64) (vp_updL st n (-3)) (upd de n 0) su (nI n))) (upd mk n 1)) := hD
    refine lv_iconst (v := 1) hx hb dX0_turnSeal_56 (by decide) ?_
    exact W.zret (v := 1) hx hb hr (zb (Or.inr rfl)) (fun t ht hW => ⟨⟨1, wM G m0 t0 t1 t2 t3 h0 h1 h2 h3 h4 h5 set_ la (nI tn) ts ta tb key (nI (n + 1)) (vp_updL nu n person.toInt64) (vp_updL st n (-3)) (upd de n 0) (vp_updL su n (f_due key (n + 1) (vp_updL nu n person.toInt64) (vp_updL st n (-3)) (upd de n 0) su (nI n))) (upd mk n 1), rfl, Or.inr ⟨rfl, by simp [f_tfit, c9, c17], hn, by rw [if_neg c29]⟩, by show va_P _ _ _ t.heap; rw [ht]; exact hP⟩, hS.F ht⟩) hS.2.2 dX0_turnSeal_57
  refine lv_iconst (v := 0) hx hb dX0_turnSeal_20 (by decide) ?_
  exact W.zret (v := 0) hx hb hr (zb (Or.inl rfl)) (fun t ht hW => ⟨⟨0, wM G m0 t0 t1 t2 t3 h0 h1 h2 h3 h4 h5 sl la (nI tn) ts ta tb key (nI n) nu st de su mk, rfl, Or.inl ⟨rfl, Or.inl (by simp [f_tfit, c9, c17]), rfl⟩, by show va_P _ _ _ t.heap; rw [ht]; exact hP⟩, hS.F ht⟩) hS.2.2 dX0_turnSeal_21
end
section
/-! WHAT MAKES CELLS -/
abbrev NwP (G : Gx) (sz : Nat) (ws : va_W) (As : List Value) : Array Value → State → Prop := va_Pc As (fun U => U.heap.size = sz ∧ va_P G.1 vwCl ws U.heap ∧ EV G U ∧ va_D (fun _ => True) ws)
theorem NwP.blind {G : Gx} {sz : Nat} {ws : va_W} {As : List Value} : FrameBlind (NwP G sz ws As) := fun a U g mk q => ⟨q.1, q.2.1, q.2.2.1, EV.same (u := U) (U := U.calling g mk a) rfl q.2.2.2.1, q.2.2.2.2⟩
theorem NwP.preS {G : Gx} {s : State} {H : Heap} {ws : va_W} {As : List Value} {A : Nat → Prop} (hP : va_P G.1 vwCl ws H) (hE : EV G s) (hD : va_D A ws) : PreS s H (NwP G H.size ws As) As := ⟨NwP.blind, fun U hU hW => ⟨rfl, by rw [hU], by rw [hU]; exact hP, hE.warm hW, hD.weaken (fun _ _ _ _ => trivial)⟩⟩
theorem NwP.preV {G : Gx} {s : State} {H : Heap} {ws : va_W} {b : Nat} {As : List Value} {A : Nat → Prop} {C : String} {T : u_T} {N ci : Nat} {fs : List Value} (hr : ∃ q0 : Nat, ws[q0]? = some (b, .inr (ci, fs))) (hc : vwCl[ci]? = some (C, T, N)) (hP : va_P G.1 vwCl ws H) (hE : EV G s) (hD : va_D A ws) : PreV s H C b (NwP G H.size ws (.ref b :: As)) As := by
  obtain ⟨q0, he⟩ := hr
  exact ⟨NwP.blind, va_recv hE.1 hP hc he, fun U hU hW => ⟨rfl, by rw [hU], by rw [hU]; exact hP, hE.warm hW, hD.weaken (fun _ _ _ _ => trivial)⟩⟩
theorem x_last {D : va_G} {cl : List vw_C} {H : Heap} (a b : va_W) (h : va_P D cl (a ++ b) H) : va_P D cl b H := x_mid a b [] (List.append_nil _).symm h
theorem x_lastD {A : Nat → Prop} (a b : va_W) (h : va_D A (a ++ b)) : va_D A b := x_midD a b [] (List.append_nil _).symm h
theorem x_front {D : va_G} {cl : List vw_C} {H : Heap} (a b : va_W) (h : va_P D cl (a ++ b) H) : va_P D cl a H := x_mid [] a b rfl h
theorem x_frontD {A : Nat → Prop} (a b : va_W) (h : va_D A (a ++ b)) : va_D A a := x_midD [] a b rfl h
theorem x_freeN {A0 : Nat → Prop} {H0 H : Heap} {locs : List Loc} (a b : va_W) (hD : va_D A0 (a ++ b)) (hS : va_S A0 H0 H locs) (hA : ∀ q, H0.size ≤ q → A0 q) : ∀ q, va_A b H.size q → A0 q := by
  rintro q (⟨k, e, hk⟩ | h)
  · exact (x_lastD a b hD).2 k _ hk
  · exact hA q (Nat.le_trans hS.1 h)
/-- what a maker wrote and made behind the rest -/
theorem x_joinN {A0 : Nat → Prop} {D : va_G} {cl : List vw_C} {H H1 : Heap} (a b b1 : va_W) (hP : va_P D cl (a ++ b) H) (hD : va_D A0 (a ++ b)) (hk : ∀ q : Nat, q < H.size → ¬ va_A b H.size q → H1[q]? = H[q]?) (hF : ∀ q, va_A b H.size q → A0 q) (hP1 : va_P D cl b1 H1) (hD1 : va_D (va_A b H.size) b1) :
    va_P D cl (a ++ b1) H1 ∧ va_D A0 (a ++ b1) := by
  have hnot : ∀ (i : Nat) (p : Nat × va_E), a[i]? = some p → ¬ va_A b H.size p.1 := by
    rintro i p hi (⟨k, e, hk2⟩ | h)
    · have hil : i < a.length := (List.getElem?_eq_some_iff.mp hi).1
      have e1 : (a ++ b)[i]? = some p := by rw [List.getElem?_append_left hil]; exact hi
      have e2 : (a ++ b)[a.length + k]? = some (p.1, e) := by rw [List.getElem?_append_right (by omega), Nat.add_sub_cancel_left]; exact hk2
      have := hD.1 _ _ _ _ e1 e2 rfl
      omega
    · have := (x_front a b hP i p hi).lt
      omega
  refine ⟨((x_front a b hP).kept (fun i p hi => hk p.1 (x_front a b hP i p hi).lt (hnot i p hi))).app hP1, (x_frontD a b hD).app (hD1.weaken (fun _ q _ h => hF q.1 h)) (fun i j p q hi hj he => ?_)⟩
  exact hnot i p hi (by rw [he]; exact hD1.2 j q hj)
section XN
variable {p : Program} {l : Launch} {e : Env} {R : Room} {s : State} {m : MethodId} {args : Array Value} {below : List Frame} {meth : Method} {c : Code} {H : Heap} {locs : List Loc} {cells slots : Nat} {Q : State → Prop}
variable {cc : ByteArray} {pc : Nat} {ls : Array Slot} {rest : List Value} {G : Gx} {A : Nat → Prop} {ws : va_W} {H0 : Heap}
theorem x_cls {tys : List (ClassId × FieldType)} {D : va_G} {cl : List vw_C} {cA cB : ClassId} {ty : FieldType} (hE : va_K D cl tys s) (k : Nat) (hk : tys[k]? = some (cB, ty)) (h : va_K D cl (tys ++ [(cA, ty)]) s) : cA = cB := by
  have h1 := (hE.2 k _ hk).2
  have h2 := (h.2 tys.length (cA, ty) (by rw [List.getElem?_append_right (Nat.le_refl _), Nat.sub_self]; rfl)).2
  have key : ∀ {c0 : ClassId}, va_RA s c0 ty → s.vm.findClass ("[" ++ ty.toString) = some c0 := by
    intro c0 h
    cases ty with
    | object C => obtain ⟨_, _, _, _, _, h4⟩ := h; exact h4
    | _ => exact h
  exact Option.some.inj ((key h2).symm.trans (key h1))
theorem x_newJ (hexec : p.tables.exec = Jvm.exec) (hb : c.code = cc) (harr : (Cond.arrayClass .long).before args s = true) (hE : EV G s) (hP : va_P G.1 vwCl ws H) (hD : va_D A ws) (hS : va_S A H0 H locs) (hA : ∀ q, H0.size ≤ q → A q) {n : Int32} {N : Nat} (hn : ¬ n < 0) (hN : n.toNatClampNeg = N) (hby : N * componentBytes .long ≤ 536870912) (hcells : cells + 1 ≤ R.cells) (hslots : slots + N ≤ R.slots) (hdg : decode cc pc = .ok (.newarray .long, 2))
    (kk : ∀ (q : Nat) (H1 : Heap), va_P G.1 vwCl (ws ++ [(q, .inl (kJ G, N, .inr (.inl (fun _ => 0))))]) H1 → va_D A (ws ++ [(q, .inl (kJ G, N, .inr (.inl (fun _ => 0))))]) → va_S A H0 H1 locs → W p l e R s m args below meth c H1 locs (cells + 1) (slots + N) Q (F0 m (pc + 2) ls (.ref q :: rest))) : W p l e R s m args below meth c H locs cells slots Q (F0 m pc ls (.int n :: rest)) := by
  refine va_newa (atype := .long) (ty := .long) (a0 := (N, .inr (.inl (fun _ => 0)))) hexec hb harr rfl hE.1 hP hD hS hA (fun cA => (vp_cell_l cA N _).trans (congrArg (arrV cA N) (funext (fun _ => rfl)))) hn hN hby hcells hslots hdg (fun q cA H1 hK hP hD hS => ?_)
  obtain rfl := x_cls hE.1 1 rfl hK
  exact kk q H1 hP hD hS
theorem x_newI (hexec : p.tables.exec = Jvm.exec) (hb : c.code = cc) (harr : (Cond.arrayClass .int).before args s = true) (hE : EV G s) (hP : va_P G.1 vwCl ws H) (hD : va_D A ws) (hS : va_S A H0 H locs) (hA : ∀ q, H0.size ≤ q → A q) {n : Int32} {N : Nat} (hn : ¬ n < 0) (hN : n.toNatClampNeg = N) (hby : N * componentBytes .int ≤ 536870912) (hcells : cells + 1 ≤ R.cells) (hslots : slots + N ≤ R.slots) (hdg : decode cc pc = .ok (.newarray .int, 2))
    (kk : ∀ (q : Nat) (H1 : Heap), va_P G.1 vwCl (ws ++ [(q, .inl (kI G, N, .inl (fun _ => 0)))]) H1 → va_D A (ws ++ [(q, .inl (kI G, N, .inl (fun _ => 0)))]) → va_S A H0 H1 locs → W p l e R s m args below meth c H1 locs (cells + 1) (slots + N) Q (F0 m (pc + 2) ls (.ref q :: rest))) : W p l e R s m args below meth c H locs cells slots Q (F0 m pc ls (.int n :: rest)) := by
  refine va_newa (atype := .int) (ty := .int) (a0 := (N, .inl (fun _ => 0))) hexec hb harr rfl hE.1 hP hD hS hA (fun cA => (vp_cell_i cA N _).trans (congrArg (arrV cA N) (funext (fun _ => rfl)))) hn hN hby hcells hslots hdg (fun q cA H1 hK hP hD hS => ?_)
  obtain rfl := x_cls hE.1 0 rfl hK
  exact kk q H1 hP hD hS
theorem x_newZ (hexec : p.tables.exec = Jvm.exec) (hb : c.code = cc) (harr : (Cond.arrayClass .boolean).before args s = true) (hE : EV G s) (hP : va_P G.1 vwCl ws H) (hD : va_D A ws) (hS : va_S A H0 H locs) (hA : ∀ q, H0.size ≤ q → A q) {n : Int32} {N : Nat} (hn : ¬ n < 0) (hN : n.toNatClampNeg = N) (hby : N * componentBytes .boolean ≤ 536870912) (hcells : cells + 1 ≤ R.cells) (hslots : slots + N ≤ R.slots) (hdg : decode cc pc = .ok (.newarray .boolean, 2))
    (kk : ∀ (q : Nat) (H1 : Heap), va_P G.1 vwCl (ws ++ [(q, .inl (kZ G, N, .inl (fun _ => 0)))]) H1 → va_D A (ws ++ [(q, .inl (kZ G, N, .inl (fun _ => 0)))]) → va_S A H0 H1 locs → W p l e R s m args below meth c H1 locs (cells + 1) (slots + N) Q (F0 m (pc + 2) ls (.ref q :: rest))) : W p l e R s m args below meth c H locs cells slots Q (F0 m pc ls (.int n :: rest)) := by
  refine va_newa (atype := .boolean) (ty := .boolean) (a0 := (N, .inl (fun _ => 0))) hexec hb harr rfl hE.1 hP hD hS hA (fun cA => (vp_cell_i cA N _).trans (congrArg (arrV cA N) (funext (fun _ => rfl)))) hn hN hby hcells hslots hdg (fun q cA H1 hK hP hD hS => ?_)
  obtain rfl := x_cls hE.1 2 rfl hK
  exact kk q H1 hP hD hS
theorem x_newM (hexec : p.tables.exec = Jvm.exec) (hb : c.code = cc) {own : String} {index : Nat} (hown : s.vm.findClass own = some m.cls) (hcl : (Cond.classLink own index RX0).before args s = true) (hE : EV G s) (hP : va_P G.1 vwCl ws H) (hD : va_D A ws) (hS : va_S A H0 H locs) (hA : ∀ q, H0.size ≤ q → A q) {n : Int32} {N : Nat} (hn : ¬ n < 0) (hN : n.toNatClampNeg = N) (hby : N * 4 ≤ 536870912) (hcells : cells + 1 ≤ R.cells) (hslots : slots + N ≤ R.slots) (hdg : decode cc pc = .ok (.anewarray index, 3))
    (kk : ∀ (q : Nat) (H1 : Heap), va_P G.1 vwCl (ws ++ [(q, .inl (kM G, N, .inr (.inr (.inr (.inr (fun _ => none))))))]) H1 → va_D A (ws ++ [(q, .inl (kM G, N, .inr (.inr (.inr (.inr (fun _ => none))))))]) → va_S A H0 H1 locs → W p l e R s m args below meth c H1 locs (cells + 1) (slots + N) Q (F0 m (pc + 3) ls (.ref q :: rest))) : W p l e R s m args below meth c H locs cells slots Q (F0 m pc ls (.int n :: rest)) := by
  refine va_newq hexec hb hown hcl hE.2.2 hE.1 hP hD hS hA hn hN hby hcells hslots hdg (fun q cA H1 hK hP hD hS => ?_)
  obtain rfl := x_cls hE.1 3 rfl hK
  exact kk q H1 hP hD hS
end XN
end
section
set_option maxHeartbeats 4000000 in
set_option maxRecDepth 100000 in
/-- Table() -/
theorem ct_X2_init (l : Launch) (G : Gx) (sz : Nat) (t0 : Nat) : Met l yX2_init wsX2_init ({ frames := 1, cells := 3, slots := 48, locals := 12 }) (NwP G sz ([(t0, .inr (3, [.null, .null, .null, .int 0]))]) [.ref t0]) (va_Qv (fun (u : va_W) => ∃ t1 t2 t3 : Nat, u = wT G t0 t1 t2 t3 0 (fun _ => 0) (fun _ => 0) (fun _ => 0)) (fun u t => va_P G.1 vwCl u t.heap ∧ va_D (va_A ([(t0, .inr (3, [.null, .null, .null, .int 0]))]) sz) u) (va_A ([(t0, .inr (3, [.null, .null, .null, .int 0]))]) sz)) 3 48 (va_A ([(t0, .inr (3, [.null, .null, .null, .int 0]))]) sz) := by
  refine Met.ofW (cc := cX2_init) (maxL := 1) (ret := none) (by decide) rfl ?_
  intro p e s m args below meth c s₁ B hml hv
  obtain ⟨rfl, hsz, hP, hE, hD0⟩ := hv
  have hx := B.exec
  have hb := B.bytes
  have hr := B.returns
  have hts := atoms_spec (ws := wsX2_init) B.pre
  have hown : s.vm.findClass RX2 = some m.cls := findClass_of_methodNamed B.named
  have hlocks := B.notSynchronized
  have hin : meth.name = "<init>" := (name_of_methodNamed B.named B.method).1
  subst hsz
  have hD := hD0.self (sz := s.heap.size)
  generalize hAe : va_A ([(t0, .inr (3, [.null, .null, .null, .int 0]))]) s.heap.size = A at hD ⊢
  have hA : ∀ q : Nat, s.heap.size ≤ q → A q := fun q h => by rw [← hAe]; exact Or.inr h
  have hS : va_S A s.heap s.heap [] := va_S.rf
  have hiX2 : ∀ w ∈ wsX20, w ∈ wsX2_init := by decide +kernel
  have hl := lv_entry ([.ref t0]) (n := 1) (Nat.le_of_ble_eq_true rfl)
  rw [lg_entry_eq]
  generalize (lg_sl ([.ref t0]) ++ List.replicate (1 - (lg_sl ([.ref t0])).length) Slot.unset).toArray = ls at hl ⊢
  replace hl : lv_has ls 1 [(0, .ref t0)] := hl
  refine lv_aload_n hx hb dX2_init_0 rfl (lv_at hl 0 rfl) ?_
  refine W.objInit hx hb hown (hts (.methodLink RX2 3 objectInit) (by decide +kernel)) (hts (.instanceMethod objectInit) (by decide +kernel)) (hts (.code objectInit ⟨#[0xb1]⟩ 1 none) (by decide +kernel)) rfl (by rw [hml]; exact hl.1) rfl dX2_init_1 (Nat.le_of_ble_eq_true rfl) (Nat.le_of_ble_eq_true rfl) ?_
  refine W.eq (g2 := F0 m 4 ls []) rfl ?_
  refine lv_aload_n hx hb dX2_init_4 rfl (lv_at hl 0 rfl) ?_
  refine lv_bipush (v := 16) hx hb dX2_init_5 (by decide) ?_
  refine x_newI (N := 16) hx hb (hts (.arrayClass .int) (by decide +kernel)) hE hP hD hS hA (by decide) (by decide) (by decide) (Nat.le_of_ble_eq_true rfl) (Nat.le_of_ble_eq_true rfl) dX2_init_7 (fun q1 H hP hD hS => ?_)
  have hP : va_P G.1 vwCl ([(t0, .inr (3, [.null, .null, .null, .int 0])), (q1, .inl (kI G, 16, .inl (fun _ => 0)))]) H := hP
  have hD : va_D A ([(t0, .inr (3, [.null, .null, .null, .int 0])), (q1, .inl (kI G, 16, .inl (fun _ => 0)))]) := hD
  refine va_putF (D := G.1) (ci := 3) (v := .ref q1) (ty := .array .int) (C := RX2) (T := TX2) (N := 4) hx hb hts hiX2 tyX2 tyX2_ok nmX2 hown hE.1 hP hD hS 0 rfl rfl 0 (by decide) (hts (.fieldLink RX2 9 "MeterSeals$Table" "starts" "[I") (by decide +kernel)) (fun _ h9 => h9) rfl hin rfl (by decide +kernel) rfl rfl (Nat.le_of_ble_eq_true rfl) dX2_init_9 (fun H locs hP hD hS => ?_)
  have hP : va_P G.1 vwCl ([(t0, .inr (3, [.ref q1, .null, .null, .int 0])), (q1, .inl (kI G, 16, .inl (fun _ => 0)))]) H := hP
  have hD : va_D A ([(t0, .inr (3, [.ref q1, .null, .null, .int 0])), (q1, .inl (kI G, 16, .inl (fun _ => 0)))]) := hD
  refine lv_aload_n hx hb dX2_init_12 rfl (lv_at hl 0 rfl) ?_
  refine lv_bipush (v := 16) hx hb dX2_init_13 (by decide) ?_
  refine x_newJ (N := 16) hx hb (hts (.arrayClass .long) (by decide +kernel)) hE hP hD hS hA (by decide) (by decide) (by decide) (Nat.le_of_ble_eq_true rfl) (Nat.le_of_ble_eq_true rfl) dX2_init_15 (fun q2 H hP hD hS => ?_)
  have hP : va_P G.1 vwCl ([(t0, .inr (3, [.ref q1, .null, .null, .int 0])), (q1, .inl (kI G, 16, .inl (fun _ => 0))), (q2, .inl (kJ G, 16, .inr (.inl (fun _ => 0))))]) H := hP
  have hD : va_D A ([(t0, .inr (3, [.ref q1, .null, .null, .int 0])), (q1, .inl (kI G, 16, .inl (fun _ => 0))), (q2, .inl (kJ G, 16, .inr (.inl (fun _ => 0))))]) := hD
  refine va_putF (D := G.1) (ci := 3) (v := .ref q2) (ty := .array .long) (C := RX2) (T := TX2) (N := 4) hx hb hts hiX2 tyX2 tyX2_ok nmX2 hown hE.1 hP hD hS 0 rfl rfl 1 (by decide) (hts (.fieldLink RX2 15 "MeterSeals$Table" "aboves" "[J") (by decide +kernel)) (fun _ h9 => h9) rfl hin rfl (by decide +kernel) rfl rfl (Nat.le_of_ble_eq_true rfl) dX2_init_17 (fun H locs hP hD hS => ?_)
  have hP : va_P G.1 vwCl ([(t0, .inr (3, [.ref q1, .ref q2, .null, .int 0])), (q1, .inl (kI G, 16, .inl (fun _ => 0))), (q2, .inl (kJ G, 16, .inr (.inl (fun _ => 0))))]) H := hP
  have hD : va_D A ([(t0, .inr (3, [.ref q1, .ref q2, .null, .int 0])), (q1, .inl (kI G, 16, .inl (fun _ => 0))), (q2, .inl (kJ G, 16, .inr (.inl (fun _ => 0))))]) := hD
  refine lv_aload_n hx hb dX2_init_20 rfl (lv_at hl 0 rfl) ?_
  refine lv_bipush (v := 16) hx hb dX2_init_21 (by decide) ?_
  refine x_newJ (N := 16) hx hb (hts (.arrayClass .long) (by decide +kernel)) hE hP hD hS hA (by decide) (by decide) (by decide) (Nat.le_of_ble_eq_true rfl) (Nat.le_of_ble_eq_true rfl) dX2_init_23 (fun q3 H hP hD hS => ?_)
  have hP : va_P G.1 vwCl ([(t0, .inr (3, [.ref q1, .ref q2, .null, .int 0])), (q1, .inl (kI G, 16, .inl (fun _ => 0))), (q2, .inl (kJ G, 16, .inr (.inl (fun _ => 0)))), (q3, .inl (kJ G, 16, .inr (.inl (fun _ => 0))))]) H := hP
  have hD : va_D A ([(t0, .inr (3, [.ref q1, .ref q2, .null, .int 0])), (q1, .inl (kI G, 16, .inl (fun _ => 0))), (q2, .inl (kJ G, 16, .inr (.inl (fun _ => 0)))), (q3, .inl (kJ G, 16, .inr (.inl (fun _ => 0))))]) := hD
  refine va_putF (D := G.1) (ci := 3) (v := .ref q3) (ty := .array .long) (C := RX2) (T := TX2) (N := 4) hx hb hts hiX2 tyX2 tyX2_ok nmX2 hown hE.1 hP hD hS 0 rfl rfl 2 (by decide) (hts (.fieldLink RX2 19 "MeterSeals$Table" "belows" "[J") (by decide +kernel)) (fun _ h9 => h9) rfl hin rfl (by decide +kernel) rfl rfl (Nat.le_of_ble_eq_true rfl) dX2_init_25 (fun H locs hP hD hS => ?_)
  have hP : va_P G.1 vwCl ([(t0, .inr (3, [.ref q1, .ref q2, .ref q3, .int 0])), (q1, .inl (kI G, 16, .inl (fun _ => 0))), (q2, .inl (kJ G, 16, .inr (.inl (fun _ => 0)))), (q3, .inl (kJ G, 16, .inr (.inl (fun _ => 0))))]) H := hP
  have hD : va_D A ([(t0, .inr (3, [.ref q1, .ref q2, .ref q3, .int 0])), (q1, .inl (kI G, 16, .inl (fun _ => 0))), (q2, .inl (kJ G, 16, .inr (.inl (fun _ => 0)))), (q3, .inl (kJ G, 16, .inr (.inl (fun _ => 0))))]) := hD
  refine lv_aload_n hx hb dX2_init_28 rfl (lv_at hl 0 rfl) ?_
  refine lv_iconst (v := 0) hx hb dX2_init_29 (by decide) ?_
  refine va_put (D := G.1) (ci := 3) (v := .int 0) (ty := .int) (C := RX2) (T := TX2) (N := 4) hx hb hts hiX2 tyX2 tyX2_ok nmX2 hown hE.1 hP hD hS 0 rfl rfl 3 (by decide) (hts (.fieldLink RX2 22 "MeterSeals$Table" "count" "I") (by decide +kernel)) (fun _ h9 => h9) rfl (by decide +kernel) rfl rfl (Nat.le_of_ble_eq_true rfl) dX2_init_30 (fun H locs hP hD hS => ?_)
  have hP : va_P G.1 vwCl ([(t0, .inr (3, [.ref q1, .ref q2, .ref q3, .int 0])), (q1, .inl (kI G, 16, .inl (fun _ => 0))), (q2, .inl (kJ G, 16, .inr (.inl (fun _ => 0)))), (q3, .inl (kJ G, 16, .inr (.inl (fun _ => 0))))]) H := hP
  have hD : va_D A ([(t0, .inr (3, [.ref q1, .ref q2, .ref q3, .int 0])), (q1, .inl (kI G, 16, .inl (fun _ => 0))), (q2, .inl (kJ G, 16, .inr (.inl (fun _ => 0)))), (q3, .inl (kJ G, 16, .inr (.inl (fun _ => 0))))]) := hD
  exact W.vret hx hb hr (fun t ht hW => ⟨⟨[(t0, .inr (3, [.ref q1, .ref q2, .ref q3, .int 0])), (q1, .inl (kI G, 16, .inl (fun _ => 0))), (q2, .inl (kJ G, 16, .inr (.inl (fun _ => 0)))), (q3, .inl (kJ G, 16, .inr (.inl (fun _ => 0))))], rfl, ⟨_, _, _, rfl⟩, by show va_P _ _ _ t.heap; rw [ht]; exact hP, hD⟩, hS.F ht⟩) hS.2.2 dX2_init_33

set_option maxHeartbeats 4000000 in
set_option maxRecDepth 100000 in
/-- Rows(key) -/
theorem ct_X1_init (l : Launch) (G : Gx) (sz : Nat) (h0 : Nat) (key : Int64) : Met l yX1_init wsX1_init ({ frames := 1, cells := 5, slots := 1000, locals := 12 }) (NwP G sz ([(h0, .inr (2, [.long 0, .null, .null, .null, .null, .null, .int 0]))]) [.ref h0, .long key]) (va_Qv (fun (u : va_W) => ∃ h1 h2 h3 h4 h5 : Nat, u = wR G h0 h1 h2 h3 h4 h5 key 0 (fun _ => 0) (fun _ => 0) (fun _ => 0) (fun _ => 0) (fun _ => 0)) (fun u t => va_P G.1 vwCl u t.heap ∧ va_D (va_A ([(h0, .inr (2, [.long 0, .null, .null, .null, .null, .null, .int 0]))]) sz) u) (va_A ([(h0, .inr (2, [.long 0, .null, .null, .null, .null, .null, .int 0]))]) sz)) 5 1000 (va_A ([(h0, .inr (2, [.long 0, .null, .null, .null, .null, .null, .int 0]))]) sz) := by
  refine Met.ofW (cc := cX1_init) (maxL := 3) (ret := none) (by decide) rfl ?_
  intro p e s m args below meth c s₁ B hml hv
  obtain ⟨rfl, hsz, hP, hE, hD0⟩ := hv
  have hx := B.exec
  have hb := B.bytes
  have hr := B.returns
  have hts := atoms_spec (ws := wsX1_init) B.pre
  have hown : s.vm.findClass RX1 = some m.cls := findClass_of_methodNamed B.named
  have hlocks := B.notSynchronized
  have hin : meth.name = "<init>" := (name_of_methodNamed B.named B.method).1
  subst hsz
  have hD := hD0.self (sz := s.heap.size)
  generalize hAe : va_A ([(h0, .inr (2, [.long 0, .null, .null, .null, .null, .null, .int 0]))]) s.heap.size = A at hD ⊢
  have hA : ∀ q : Nat, s.heap.size ≤ q → A q := fun q h => by rw [← hAe]; exact Or.inr h
  have hS : va_S A s.heap s.heap [] := va_S.rf
  have hiX1 : ∀ w ∈ wsX10, w ∈ wsX1_init := by decide +kernel
  have hl := lv_entry ([.ref h0, .long key]) (n := 3) (Nat.le_of_ble_eq_true rfl)
  rw [lg_entry_eq]
  generalize (lg_sl ([.ref h0, .long key]) ++ List.replicate (3 - (lg_sl ([.ref h0, .long key])).length) Slot.unset).toArray = ls at hl ⊢
  replace hl : lv_has ls 3 [(0, .ref h0), (1, .long key)] := hl
  refine lv_aload_n hx hb dX1_init_0 rfl (lv_at hl 0 rfl) ?_
  refine W.objInit hx hb hown (hts (.methodLink RX1 3 objectInit) (by decide +kernel)) (hts (.instanceMethod objectInit) (by decide +kernel)) (hts (.code objectInit ⟨#[0xb1]⟩ 1 none) (by decide +kernel)) rfl (by rw [hml]; exact hl.1) rfl dX1_init_1 (Nat.le_of_ble_eq_true rfl) (Nat.le_of_ble_eq_true rfl) ?_
  refine W.eq (g2 := F0 m 4 ls []) rfl ?_
  refine lv_aload_n hx hb dX1_init_4 rfl (lv_at hl 0 rfl) ?_
  refine lv_lload_n hx hb dX1_init_5 rfl (lv_at hl 1 rfl) ?_
  refine va_putF (D := G.1) (ci := 2) (v := .long key) (ty := .long) (C := RX1) (T := TX1) (N := 7) hx hb hts hiX1 tyX1 tyX1_ok nmX1 hown hE.1 hP hD hS 0 rfl rfl 0 (by decide) (hts (.fieldLink RX1 9 "MeterSeals$Rows" "key" "J") (by decide +kernel)) (fun _ h9 => h9) rfl hin rfl (by decide +kernel) rfl rfl (Nat.le_of_ble_eq_true rfl) dX1_init_6 (fun H locs hP hD hS => ?_)
  have hP : va_P G.1 vwCl ([(h0, .inr (2, [.long key, .null, .null, .null, .null, .null, .int 0]))]) H := hP
  have hD : va_D A ([(h0, .inr (2, [.long key, .null, .null, .null, .null, .null, .int 0]))]) := hD
  refine lv_aload_n hx hb dX1_init_9 rfl (lv_at hl 0 rfl) ?_
  refine lv_sipush (v := 200) hx hb dX1_init_10 (by decide) ?_
  refine x_newJ (N := 200) hx hb (hts (.arrayClass .long) (by decide +kernel)) hE hP hD hS hA (by decide) (by decide) (by decide) (Nat.le_of_ble_eq_true rfl) (Nat.le_of_ble_eq_true rfl) dX1_init_13 (fun q1 H hP hD hS => ?_)
  have hP : va_P G.1 vwCl ([(h0, .inr (2, [.long key, .null, .null, .null, .null, .null, .int 0])), (q1, .inl (kJ G, 200, .inr (.inl (fun _ => 0))))]) H := hP
  have hD : va_D A ([(h0, .inr (2, [.long key, .null, .null, .null, .null, .null, .int 0])), (q1, .inl (kJ G, 200, .inr (.inl (fun _ => 0))))]) := hD
  refine va_putF (D := G.1) (ci := 2) (v := .ref q1) (ty := .array .long) (C := RX1) (T := TX1) (N := 7) hx hb hts hiX1 tyX1 tyX1_ok nmX1 hown hE.1 hP hD hS 0 rfl rfl 1 (by decide) (hts (.fieldLink RX1 15 "MeterSeals$Rows" "numbers" "[J") (by decide +kernel)) (fun _ h9 => h9) rfl hin rfl (by decide +kernel) rfl rfl (Nat.le_of_ble_eq_true rfl) dX1_init_15 (fun H locs hP hD hS => ?_)
  have hP : va_P G.1 vwCl ([(h0, .inr (2, [.long key, .ref q1, .null, .null, .null, .null, .int 0])), (q1, .inl (kJ G, 200, .inr (.inl (fun _ => 0))))]) H := hP
  have hD : va_D A ([(h0, .inr (2, [.long key, .ref q1, .null, .null, .null, .null, .int 0])), (q1, .inl (kJ G, 200, .inr (.inl (fun _ => 0))))]) := hD
  refine lv_aload_n hx hb dX1_init_18 rfl (lv_at hl 0 rfl) ?_
  refine lv_sipush (v := 200) hx hb dX1_init_19 (by decide) ?_
  refine x_newJ (N := 200) hx hb (hts (.arrayClass .long) (by decide +kernel)) hE hP hD hS hA (by decide) (by decide) (by decide) (Nat.le_of_ble_eq_true rfl) (Nat.le_of_ble_eq_true rfl) dX1_init_22 (fun q2 H hP hD hS => ?_)
  have hP : va_P G.1 vwCl ([(h0, .inr (2, [.long key, .ref q1, .null, .null, .null, .null, .int 0])), (q1, .inl (kJ G, 200, .inr (.inl (fun _ => 0)))), (q2, .inl (kJ G, 200, .inr (.inl (fun _ => 0))))]) H := hP
  have hD : va_D A ([(h0, .inr (2, [.long key, .ref q1, .null, .null, .null, .null, .int 0])), (q1, .inl (kJ G, 200, .inr (.inl (fun _ => 0)))), (q2, .inl (kJ G, 200, .inr (.inl (fun _ => 0))))]) := hD
  refine va_putF (D := G.1) (ci := 2) (v := .ref q2) (ty := .array .long) (C := RX1) (T := TX1) (N := 7) hx hb hts hiX1 tyX1 tyX1_ok nmX1 hown hE.1 hP hD hS 0 rfl rfl 2 (by decide) (hts (.fieldLink RX1 19 "MeterSeals$Rows" "stamps" "[J") (by decide +kernel)) (fun _ h9 => h9) rfl hin rfl (by decide +kernel) rfl rfl (Nat.le_of_ble_eq_true rfl) dX1_init_24 (fun H locs hP hD hS => ?_)
  have hP : va_P G.1 vwCl ([(h0, .inr (2, [.long key, .ref q1, .ref q2, .null, .null, .null, .int 0])), (q1, .inl (kJ G, 200, .inr (.inl (fun _ => 0)))), (q2, .inl (kJ G, 200, .inr (.inl (fun _ => 0))))]) H := hP
  have hD : va_D A ([(h0, .inr (2, [.long key, .ref q1, .ref q2, .null, .null, .null, .int 0])), (q1, .inl (kJ G, 200, .inr (.inl (fun _ => 0)))), (q2, .inl (kJ G, 200, .inr (.inl (fun _ => 0))))]) := hD
  refine lv_aload_n hx hb dX1_init_27 rfl (lv_at hl 0 rfl) ?_
  refine lv_sipush (v := 200) hx hb dX1_init_28 (by decide) ?_
  refine x_newI (N := 200) hx hb (hts (.arrayClass .int) (by decide +kernel)) hE hP hD hS hA (by decide) (by decide) (by decide) (Nat.le_of_ble_eq_true rfl) (Nat.le_of_ble_eq_true rfl) dX1_init_31 (fun q3 H hP hD hS => ?_)
  have hP : va_P G.1 vwCl ([(h0, .inr (2, [.long key, .ref q1, .ref q2, .null, .null, .null, .int 0])), (q1, .inl (kJ G, 200, .inr (.inl (fun _ => 0)))), (q2, .inl (kJ G, 200, .inr (.inl (fun _ => 0)))), (q3, .inl (kI G, 200, .inl (fun _ => 0)))]) H := hP
  have hD : va_D A ([(h0, .inr (2, [.long key, .ref q1, .ref q2, .null, .null, .null, .int 0])), (q1, .inl (kJ G, 200, .inr (.inl (fun _ => 0)))), (q2, .inl (kJ G, 200, .inr (.inl (fun _ => 0)))), (q3, .inl (kI G, 200, .inl (fun _ => 0)))]) := hD
  refine va_putF (D := G.1) (ci := 2) (v := .ref q3) (ty := .array .int) (C := RX1) (T := TX1) (N := 7) hx hb hts hiX1 tyX1 tyX1_ok nmX1 hown hE.1 hP hD hS 0 rfl rfl 3 (by decide) (hts (.fieldLink RX1 22 "MeterSeals$Rows" "degrees" "[I") (by decide +kernel)) (fun _ h9 => h9) rfl hin rfl (by decide +kernel) rfl rfl (Nat.le_of_ble_eq_true rfl) dX1_init_33 (fun H locs hP hD hS => ?_)
  have hP : va_P G.1 vwCl ([(h0, .inr (2, [.long key, .ref q1, .ref q2, .ref q3, .null, .null, .int 0])), (q1, .inl (kJ G, 200, .inr (.inl (fun _ => 0)))), (q2, .inl (kJ G, 200, .inr (.inl (fun _ => 0)))), (q3, .inl (kI G, 200, .inl (fun _ => 0)))]) H := hP
  have hD : va_D A ([(h0, .inr (2, [.long key, .ref q1, .ref q2, .ref q3, .null, .null, .int 0])), (q1, .inl (kJ G, 200, .inr (.inl (fun _ => 0)))), (q2, .inl (kJ G, 200, .inr (.inl (fun _ => 0)))), (q3, .inl (kI G, 200, .inl (fun _ => 0)))]) := hD
  refine lv_aload_n hx hb dX1_init_36 rfl (lv_at hl 0 rfl) ?_
  refine lv_sipush (v := 200) hx hb dX1_init_37 (by decide) ?_
  refine x_newJ (N := 200) hx hb (hts (.arrayClass .long) (by decide +kernel)) hE hP hD hS hA (by decide) (by decide) (by decide) (Nat.le_of_ble_eq_true rfl) (Nat.le_of_ble_eq_true rfl) dX1_init_40 (fun q4 H hP hD hS => ?_)
  have hP : va_P G.1 vwCl ([(h0, .inr (2, [.long key, .ref q1, .ref q2, .ref q3, .null, .null, .int 0])), (q1, .inl (kJ G, 200, .inr (.inl (fun _ => 0)))), (q2, .inl (kJ G, 200, .inr (.inl (fun _ => 0)))), (q3, .inl (kI G, 200, .inl (fun _ => 0))), (q4, .inl (kJ G, 200, .inr (.inl (fun _ => 0))))]) H := hP
  have hD : va_D A ([(h0, .inr (2, [.long key, .ref q1, .ref q2, .ref q3, .null, .null, .int 0])), (q1, .inl (kJ G, 200, .inr (.inl (fun _ => 0)))), (q2, .inl (kJ G, 200, .inr (.inl (fun _ => 0)))), (q3, .inl (kI G, 200, .inl (fun _ => 0))), (q4, .inl (kJ G, 200, .inr (.inl (fun _ => 0))))]) := hD
  refine va_putF (D := G.1) (ci := 2) (v := .ref q4) (ty := .array .long) (C := RX1) (T := TX1) (N := 7) hx hb hts hiX1 tyX1 tyX1_ok nmX1 hown hE.1 hP hD hS 0 rfl rfl 4 (by decide) (hts (.fieldLink RX1 26 "MeterSeals$Rows" "sums" "[J") (by decide +kernel)) (fun _ h9 => h9) rfl hin rfl (by decide +kernel) rfl rfl (Nat.le_of_ble_eq_true rfl) dX1_init_42 (fun H locs hP hD hS => ?_)
  have hP : va_P G.1 vwCl ([(h0, .inr (2, [.long key, .ref q1, .ref q2, .ref q3, .ref q4, .null, .int 0])), (q1, .inl (kJ G, 200, .inr (.inl (fun _ => 0)))), (q2, .inl (kJ G, 200, .inr (.inl (fun _ => 0)))), (q3, .inl (kI G, 200, .inl (fun _ => 0))), (q4, .inl (kJ G, 200, .inr (.inl (fun _ => 0))))]) H := hP
  have hD : va_D A ([(h0, .inr (2, [.long key, .ref q1, .ref q2, .ref q3, .ref q4, .null, .int 0])), (q1, .inl (kJ G, 200, .inr (.inl (fun _ => 0)))), (q2, .inl (kJ G, 200, .inr (.inl (fun _ => 0)))), (q3, .inl (kI G, 200, .inl (fun _ => 0))), (q4, .inl (kJ G, 200, .inr (.inl (fun _ => 0))))]) := hD
  refine lv_aload_n hx hb dX1_init_45 rfl (lv_at hl 0 rfl) ?_
  refine lv_sipush (v := 200) hx hb dX1_init_46 (by decide) ?_
  refine x_newZ (N := 200) hx hb (hts (.arrayClass .boolean) (by decide +kernel)) hE hP hD hS hA (by decide) (by decide) (by decide) (Nat.le_of_ble_eq_true rfl) (Nat.le_of_ble_eq_true rfl) dX1_init_49 (fun q5 H hP hD hS => ?_)
  have hP : va_P G.1 vwCl ([(h0, .inr (2, [.long key, .ref q1, .ref q2, .ref q3, .ref q4, .null, .int 0])), (q1, .inl (kJ G, 200, .inr (.inl (fun _ => 0)))), (q2, .inl (kJ G, 200, .inr (.inl (fun _ => 0)))), (q3, .inl (kI G, 200, .inl (fun _ => 0))), (q4, .inl (kJ G, 200, .inr (.inl (fun _ => 0)))), (q5, .inl (kZ G, 200, .inl (fun _ => 0)))]) H := hP
  have hD : va_D A ([(h0, .inr (2, [.long key, .ref q1, .ref q2, .ref q3, .ref q4, .null, .int 0])), (q1, .inl (kJ G, 200, .inr (.inl (fun _ => 0)))), (q2, .inl (kJ G, 200, .inr (.inl (fun _ => 0)))), (q3, .inl (kI G, 200, .inl (fun _ => 0))), (q4, .inl (kJ G, 200, .inr (.inl (fun _ => 0)))), (q5, .inl (kZ G, 200, .inl (fun _ => 0)))]) := hD
  refine va_putF (D := G.1) (ci := 2) (v := .ref q5) (ty := .array .boolean) (C := RX1) (T := TX1) (N := 7) hx hb hts hiX1 tyX1 tyX1_ok nmX1 hown hE.1 hP hD hS 0 rfl rfl 5 (by decide) (hts (.fieldLink RX1 29 "MeterSeals$Rows" "marks" "[Z") (by decide +kernel)) (fun _ h9 => h9) rfl hin rfl (by decide +kernel) rfl rfl (Nat.le_of_ble_eq_true rfl) dX1_init_51 (fun H locs hP hD hS => ?_)
  have hP : va_P G.1 vwCl ([(h0, .inr (2, [.long key, .ref q1, .ref q2, .ref q3, .ref q4, .ref q5, .int 0])), (q1, .inl (kJ G, 200, .inr (.inl (fun _ => 0)))), (q2, .inl (kJ G, 200, .inr (.inl (fun _ => 0)))), (q3, .inl (kI G, 200, .inl (fun _ => 0))), (q4, .inl (kJ G, 200, .inr (.inl (fun _ => 0)))), (q5, .inl (kZ G, 200, .inl (fun _ => 0)))]) H := hP
  have hD : va_D A ([(h0, .inr (2, [.long key, .ref q1, .ref q2, .ref q3, .ref q4, .ref q5, .int 0])), (q1, .inl (kJ G, 200, .inr (.inl (fun _ => 0)))), (q2, .inl (kJ G, 200, .inr (.inl (fun _ => 0)))), (q3, .inl (kI G, 200, .inl (fun _ => 0))), (q4, .inl (kJ G, 200, .inr (.inl (fun _ => 0)))), (q5, .inl (kZ G, 200, .inl (fun _ => 0)))]) := hD
  refine lv_aload_n hx hb dX1_init_54 rfl (lv_at hl 0 rfl) ?_
  refine lv_iconst (v := 0) hx hb dX1_init_55 (by decide) ?_
  refine va_put (D := G.1) (ci := 2) (v := .int 0) (ty := .int) (C := RX1) (T := TX1) (N := 7) hx hb hts hiX1 tyX1 tyX1_ok nmX1 hown hE.1 hP hD hS 0 rfl rfl 6 (by decide) (hts (.fieldLink RX1 33 "MeterSeals$Rows" "count" "I") (by decide +kernel)) (fun _ h9 => h9) rfl (by decide +kernel) rfl rfl (Nat.le_of_ble_eq_true rfl) dX1_init_56 (fun H locs hP hD hS => ?_)
  have hP : va_P G.1 vwCl ([(h0, .inr (2, [.long key, .ref q1, .ref q2, .ref q3, .ref q4, .ref q5, .int 0])), (q1, .inl (kJ G, 200, .inr (.inl (fun _ => 0)))), (q2, .inl (kJ G, 200, .inr (.inl (fun _ => 0)))), (q3, .inl (kI G, 200, .inl (fun _ => 0))), (q4, .inl (kJ G, 200, .inr (.inl (fun _ => 0)))), (q5, .inl (kZ G, 200, .inl (fun _ => 0)))]) H := hP
  have hD : va_D A ([(h0, .inr (2, [.long key, .ref q1, .ref q2, .ref q3, .ref q4, .ref q5, .int 0])), (q1, .inl (kJ G, 200, .inr (.inl (fun _ => 0)))), (q2, .inl (kJ G, 200, .inr (.inl (fun _ => 0)))), (q3, .inl (kI G, 200, .inl (fun _ => 0))), (q4, .inl (kJ G, 200, .inr (.inl (fun _ => 0)))), (q5, .inl (kZ G, 200, .inl (fun _ => 0)))]) := hD
  exact W.vret hx hb hr (fun t ht hW => ⟨⟨[(h0, .inr (2, [.long key, .ref q1, .ref q2, .ref q3, .ref q4, .ref q5, .int 0])), (q1, .inl (kJ G, 200, .inr (.inl (fun _ => 0)))), (q2, .inl (kJ G, 200, .inr (.inl (fun _ => 0)))), (q3, .inl (kI G, 200, .inl (fun _ => 0))), (q4, .inl (kJ G, 200, .inr (.inl (fun _ => 0)))), (q5, .inl (kZ G, 200, .inl (fun _ => 0)))], rfl, ⟨_, _, _, _, _, rfl⟩, by show va_P _ _ _ t.heap; rw [ht]; exact hP, hD⟩, hS.F ht⟩) hS.2.2 dX1_init_59

set_option maxHeartbeats 4000000 in
set_option maxRecDepth 100000 in
/-- Meter(key) -/
theorem ct_X0_init (l : Launch) (G : Gx) (sz : Nat) (m0 : Nat) (key : Int64) : Met l yX0_init wsX0_init ({ frames := 2, cells := 10, slots := 1059, locals := 34 }) (NwP G sz ([(m0, .inr (1, [.null, .null, .int 0, .long 0]))]) [.ref m0, .long key]) (va_Qv (fun (u : va_W) => ∃ t0 t1 t2 t3 h0 h1 h2 h3 h4 h5 : Nat, u = wM G m0 t0 t1 t2 t3 h0 h1 h2 h3 h4 h5 1 0 0 (fun _ => 0) (fun _ => 0) (fun _ => 0) key 0 (fun _ => 0) (fun _ => 0) (fun _ => 0) (fun _ => 0) (fun _ => 0)) (fun u t => va_P G.1 vwCl u t.heap ∧ va_D (va_A ([(m0, .inr (1, [.null, .null, .int 0, .long 0]))]) sz) u) (va_A ([(m0, .inr (1, [.null, .null, .int 0, .long 0]))]) sz)) 10 1059 (va_A ([(m0, .inr (1, [.null, .null, .int 0, .long 0]))]) sz) := by
  refine Met.ofW (cc := cX0_init) (maxL := 3) (ret := none) (by decide) rfl ?_
  intro p e s m args below meth c s₁ B hml hv
  obtain ⟨rfl, hsz, hP, hE, hD0⟩ := hv
  have hx := B.exec
  have hb := B.bytes
  have hr := B.returns
  have hts := atoms_spec (ws := wsX0_init) B.pre
  have hown : s.vm.findClass RX0 = some m.cls := findClass_of_methodNamed B.named
  have hlocks := B.notSynchronized
  have hin : meth.name = "<init>" := (name_of_methodNamed B.named B.method).1
  subst hsz
  have hD := hD0.self (sz := s.heap.size)
  generalize hAe : va_A ([(m0, .inr (1, [.null, .null, .int 0, .long 0]))]) s.heap.size = A at hD ⊢
  have hA : ∀ q : Nat, s.heap.size ≤ q → A q := fun q h => by rw [← hAe]; exact Or.inr h
  have hS : va_S A s.heap s.heap [] := va_S.rf
  have hiX0 : ∀ w ∈ wsX00, w ∈ wsX0_init := by decide +kernel
  have hiX1 : ∀ w ∈ wsX10, w ∈ wsX0_init := by decide +kernel
  have hiX2 : ∀ w ∈ wsX20, w ∈ wsX0_init := by decide +kernel
  have hl := lv_entry ([.ref m0, .long key]) (n := 3) (Nat.le_of_ble_eq_true rfl)
  rw [lg_entry_eq]
  generalize (lg_sl ([.ref m0, .long key]) ++ List.replicate (3 - (lg_sl ([.ref m0, .long key])).length) Slot.unset).toArray = ls at hl ⊢
  replace hl : lv_has ls 3 [(0, .ref m0), (1, .long key)] := hl
  refine lv_aload_n hx hb dX0_init_0 rfl (lv_at hl 0 rfl) ?_
  refine W.objInit hx hb hown (hts (.methodLink RX0 3 objectInit) (by decide +kernel)) (hts (.instanceMethod objectInit) (by decide +kernel)) (hts (.code objectInit ⟨#[0xb1]⟩ 1 none) (by decide +kernel)) rfl (by rw [hml]; exact hl.1) rfl dX0_init_1 (Nat.le_of_ble_eq_true rfl) (Nat.le_of_ble_eq_true rfl) ?_
  refine W.eq (g2 := F0 m 4 ls []) rfl ?_
  refine lv_aload_n hx hb dX0_init_4 rfl (lv_at hl 0 rfl) ?_
  refine va_new (D := G.1) (ci := 3) (fs := [.null, .null, .null, .int 0]) (C := RX2) (T := TX2) (N := 4) hx hb hts hiX2 tyX2 tyX2_ok hown (hts (.classLink RX0 9 RX2) (by decide +kernel)) (hts (.instantiable RX2 4) (by decide +kernel)) (hts (.initialized RX2) (by decide +kernel)) hE.1 hP hD hS hA rfl (fun j hj => by rcases (show j = 0 ∨ j = 1 ∨ j = 2 ∨ j = 3 by omega) with rfl | rfl | rfl | rfl <;> rfl) (Nat.le_of_ble_eq_true rfl) (Nat.le_of_ble_eq_true rfl) dX0_init_5 (fun q1 H hP hD hS => ?_)
  have hP : va_P G.1 vwCl ([(m0, .inr (1, [.null, .null, .int 0, .long 0])), (q1, .inr (3, [.null, .null, .null, .int 0]))]) H := hP
  have hD : va_D A ([(m0, .inr (1, [.null, .null, .int 0, .long 0])), (q1, .inr (3, [.null, .null, .null, .int 0]))]) := hD
  refine lv_dup hx hb dX0_init_8 rfl ?_
  have hFc := x_freeN ([(m0, .inr (1, [.null, .null, .int 0, .long 0]))]) [(q1, .inr (3, [.null, .null, .null, .int 0]))] hD hS hA
  refine va_callv (va_runI (As := []) (rest := [.ref q1, .ref m0]) ⟨hx, hb, hml, hown, hts⟩ (ct_X2_init l G H.size q1) (cwI 0 hts gX0_init_X2_init rfl rfl rfl (hts (.initialized RX2) (by decide +kernel)) (hts (.methodLink RX0 11 yX2_init) (by decide +kernel)) (hts (.instanceMethod yX2_init) (by decide +kernel)) rfl (by decide +kernel) ⟨Nat.le_of_ble_eq_true rfl, Nat.le_of_ble_eq_true rfl⟩) (NwP.preS (x_last ([(m0, .inr (1, [.null, .null, .int 0, .long 0]))]) [(q1, .inr (3, [.null, .null, .null, .int 0]))] hP) hE (x_lastD ([(m0, .inr (1, [.null, .null, .int 0, .long 0]))]) [(q1, .inr (3, [.null, .null, .null, .int 0]))] hD)) rfl rfl hl.1 rfl (lv_room (Nat.le_of_ble_eq_true rfl)) dX0_init_9 ⟨Nat.le_of_ble_eq_true rfl, Nat.le_of_ble_eq_true rfl⟩) hS (fun q _ h => hFc q h) hFc (fun u t H1 locs ht hvm hw hB hz1 hk1 hS => ?_)
  obtain ⟨t2, t3, t4, rfl⟩ := hw
  obtain ⟨hP1, hD1⟩ := hB
  rw [ht] at hP1
  obtain ⟨hP, hD⟩ := x_joinN ([(m0, .inr (1, [.null, .null, .int 0, .long 0]))]) [(q1, .inr (3, [.null, .null, .null, .int 0]))] ([(q1, .inr (3, [.ref t2, .ref t3, .ref t4, .int 0])), (t2, .inl (kI G, 16, .inl (fun _ => 0))), (t3, .inl (kJ G, 16, .inr (.inl (fun _ => 0)))), (t4, .inl (kJ G, 16, .inr (.inl (fun _ => 0))))]) hP hD hk1 hFc hP1 hD1
  generalize H1 = H at hP hS ⊢
  have hP : va_P G.1 vwCl ([(m0, .inr (1, [.null, .null, .int 0, .long 0])), (q1, .inr (3, [.ref t2, .ref t3, .ref t4, .int 0])), (t2, .inl (kI G, 16, .inl (fun _ => 0))), (t3, .inl (kJ G, 16, .inr (.inl (fun _ => 0)))), (t4, .inl (kJ G, 16, .inr (.inl (fun _ => 0))))]) H := hP
  have hD : va_D A ([(m0, .inr (1, [.null, .null, .int 0, .long 0])), (q1, .inr (3, [.ref t2, .ref t3, .ref t4, .int 0])), (t2, .inl (kI G, 16, .inl (fun _ => 0))), (t3, .inl (kJ G, 16, .inr (.inl (fun _ => 0)))), (t4, .inl (kJ G, 16, .inr (.inl (fun _ => 0))))]) := hD
  refine va_putF (D := G.1) (ci := 1) (v := .ref q1) (ty := .object "MeterSeals$Table") (C := RX0) (T := TX0) (N := 4) hx hb hts hiX0 tyX0 tyX0_ok nmX0 hown hE.1 hP hD hS 0 rfl rfl 0 (by decide) (hts (.fieldLink RX0 12 "MeterSeals$Meter" "table" "LMeterSeals$Table;") (by decide +kernel)) (fun _ h9 => h9) rfl hin rfl (by decide +kernel) rfl rfl (Nat.le_of_ble_eq_true rfl) dX0_init_12 (fun H locs hP hD hS => ?_)
  have hP : va_P G.1 vwCl ([(m0, .inr (1, [.ref q1, .null, .int 0, .long 0])), (q1, .inr (3, [.ref t2, .ref t3, .ref t4, .int 0])), (t2, .inl (kI G, 16, .inl (fun _ => 0))), (t3, .inl (kJ G, 16, .inr (.inl (fun _ => 0)))), (t4, .inl (kJ G, 16, .inr (.inl (fun _ => 0))))]) H := hP
  have hD : va_D A ([(m0, .inr (1, [.ref q1, .null, .int 0, .long 0])), (q1, .inr (3, [.ref t2, .ref t3, .ref t4, .int 0])), (t2, .inl (kI G, 16, .inl (fun _ => 0))), (t3, .inl (kJ G, 16, .inr (.inl (fun _ => 0)))), (t4, .inl (kJ G, 16, .inr (.inl (fun _ => 0))))]) := hD
  refine lv_aload_n hx hb dX0_init_15 rfl (lv_at hl 0 rfl) ?_
  refine va_new (D := G.1) (ci := 2) (fs := [.long 0, .null, .null, .null, .null, .null, .int 0]) (C := RX1) (T := TX1) (N := 7) hx hb hts hiX1 tyX1 tyX1_ok hown (hts (.classLink RX0 18 RX1) (by decide +kernel)) (hts (.instantiable RX1 7) (by decide +kernel)) (hts (.initialized RX1) (by decide +kernel)) hE.1 hP hD hS hA rfl (fun j hj => by rcases (show j = 0 ∨ j = 1 ∨ j = 2 ∨ j = 3 ∨ j = 4 ∨ j = 5 ∨ j = 6 by omega) with rfl | rfl | rfl | rfl | rfl | rfl | rfl <;> rfl) (Nat.le_of_ble_eq_true rfl) (Nat.le_of_ble_eq_true rfl) dX0_init_16 (fun q5 H hP hD hS => ?_)
  have hP : va_P G.1 vwCl ([(m0, .inr (1, [.ref q1, .null, .int 0, .long 0])), (q1, .inr (3, [.ref t2, .ref t3, .ref t4, .int 0])), (t2, .inl (kI G, 16, .inl (fun _ => 0))), (t3, .inl (kJ G, 16, .inr (.inl (fun _ => 0)))), (t4, .inl (kJ G, 16, .inr (.inl (fun _ => 0)))), (q5, .inr (2, [.long 0, .null, .null, .null, .null, .null, .int 0]))]) H := hP
  have hD : va_D A ([(m0, .inr (1, [.ref q1, .null, .int 0, .long 0])), (q1, .inr (3, [.ref t2, .ref t3, .ref t4, .int 0])), (t2, .inl (kI G, 16, .inl (fun _ => 0))), (t3, .inl (kJ G, 16, .inr (.inl (fun _ => 0)))), (t4, .inl (kJ G, 16, .inr (.inl (fun _ => 0)))), (q5, .inr (2, [.long 0, .null, .null, .null, .null, .null, .int 0]))]) := hD
  refine lv_dup hx hb dX0_init_19 rfl ?_
  refine lv_lload_n hx hb dX0_init_20 rfl (lv_at hl 1 rfl) ?_
  have hFc := x_freeN ([(m0, .inr (1, [.ref q1, .null, .int 0, .long 0])), (q1, .inr (3, [.ref t2, .ref t3, .ref t4, .int 0])), (t2, .inl (kI G, 16, .inl (fun _ => 0))), (t3, .inl (kJ G, 16, .inr (.inl (fun _ => 0)))), (t4, .inl (kJ G, 16, .inr (.inl (fun _ => 0))))]) [(q5, .inr (2, [.long 0, .null, .null, .null, .null, .null, .int 0]))] hD hS hA
  refine va_callv (va_runI (As := [.long key]) (rest := [.ref q5, .ref m0]) ⟨hx, hb, hml, hown, hts⟩ (ct_X1_init l G H.size q5 key) (cwI 1 hts gX0_init_X1_init rfl rfl rfl (hts (.initialized RX1) (by decide +kernel)) (hts (.methodLink RX0 20 yX1_init) (by decide +kernel)) (hts (.instanceMethod yX1_init) (by decide +kernel)) rfl (by decide +kernel) ⟨Nat.le_of_ble_eq_true rfl, Nat.le_of_ble_eq_true rfl⟩) (NwP.preS (x_last ([(m0, .inr (1, [.ref q1, .null, .int 0, .long 0])), (q1, .inr (3, [.ref t2, .ref t3, .ref t4, .int 0])), (t2, .inl (kI G, 16, .inl (fun _ => 0))), (t3, .inl (kJ G, 16, .inr (.inl (fun _ => 0)))), (t4, .inl (kJ G, 16, .inr (.inl (fun _ => 0))))]) [(q5, .inr (2, [.long 0, .null, .null, .null, .null, .null, .int 0]))] hP) hE (x_lastD ([(m0, .inr (1, [.ref q1, .null, .int 0, .long 0])), (q1, .inr (3, [.ref t2, .ref t3, .ref t4, .int 0])), (t2, .inl (kI G, 16, .inl (fun _ => 0))), (t3, .inl (kJ G, 16, .inr (.inl (fun _ => 0)))), (t4, .inl (kJ G, 16, .inr (.inl (fun _ => 0))))]) [(q5, .inr (2, [.long 0, .null, .null, .null, .null, .null, .int 0]))] hD)) rfl rfl hl.1 rfl (lv_room (Nat.le_of_ble_eq_true rfl)) dX0_init_21 ⟨Nat.le_of_ble_eq_true rfl, Nat.le_of_ble_eq_true rfl⟩) hS (fun q _ h => hFc q h) hFc (fun u t H1 locs ht hvm hw hB hz1 hk1 hS => ?_)
  obtain ⟨h6, h7, h8, h9, h10, rfl⟩ := hw
  obtain ⟨hP1, hD1⟩ := hB
  rw [ht] at hP1
  obtain ⟨hP, hD⟩ := x_joinN ([(m0, .inr (1, [.ref q1, .null, .int 0, .long 0])), (q1, .inr (3, [.ref t2, .ref t3, .ref t4, .int 0])), (t2, .inl (kI G, 16, .inl (fun _ => 0))), (t3, .inl (kJ G, 16, .inr (.inl (fun _ => 0)))), (t4, .inl (kJ G, 16, .inr (.inl (fun _ => 0))))]) [(q5, .inr (2, [.long 0, .null, .null, .null, .null, .null, .int 0]))] ([(q5, .inr (2, [.long key, .ref h6, .ref h7, .ref h8, .ref h9, .ref h10, .int 0])), (h6, .inl (kJ G, 200, .inr (.inl (fun _ => 0)))), (h7, .inl (kJ G, 200, .inr (.inl (fun _ => 0)))), (h8, .inl (kI G, 200, .inl (fun _ => 0))), (h9, .inl (kJ G, 200, .inr (.inl (fun _ => 0)))), (h10, .inl (kZ G, 200, .inl (fun _ => 0)))]) hP hD hk1 hFc hP1 hD1
  generalize H1 = H at hP hS ⊢
  have hP : va_P G.1 vwCl ([(m0, .inr (1, [.ref q1, .null, .int 0, .long 0])), (q1, .inr (3, [.ref t2, .ref t3, .ref t4, .int 0])), (t2, .inl (kI G, 16, .inl (fun _ => 0))), (t3, .inl (kJ G, 16, .inr (.inl (fun _ => 0)))), (t4, .inl (kJ G, 16, .inr (.inl (fun _ => 0)))), (q5, .inr (2, [.long key, .ref h6, .ref h7, .ref h8, .ref h9, .ref h10, .int 0])), (h6, .inl (kJ G, 200, .inr (.inl (fun _ => 0)))), (h7, .inl (kJ G, 200, .inr (.inl (fun _ => 0)))), (h8, .inl (kI G, 200, .inl (fun _ => 0))), (h9, .inl (kJ G, 200, .inr (.inl (fun _ => 0)))), (h10, .inl (kZ G, 200, .inl (fun _ => 0)))]) H := hP
  have hD : va_D A ([(m0, .inr (1, [.ref q1, .null, .int 0, .long 0])), (q1, .inr (3, [.ref t2, .ref t3, .ref t4, .int 0])), (t2, .inl (kI G, 16, .inl (fun _ => 0))), (t3, .inl (kJ G, 16, .inr (.inl (fun _ => 0)))), (t4, .inl (kJ G, 16, .inr (.inl (fun _ => 0)))), (q5, .inr (2, [.long key, .ref h6, .ref h7, .ref h8, .ref h9, .ref h10, .int 0])), (h6, .inl (kJ G, 200, .inr (.inl (fun _ => 0)))), (h7, .inl (kJ G, 200, .inr (.inl (fun _ => 0)))), (h8, .inl (kI G, 200, .inl (fun _ => 0))), (h9, .inl (kJ G, 200, .inr (.inl (fun _ => 0)))), (h10, .inl (kZ G, 200, .inl (fun _ => 0)))]) := hD
  refine va_putF (D := G.1) (ci := 1) (v := .ref q5) (ty := .object "MeterSeals$Rows") (C := RX0) (T := TX0) (N := 4) hx hb hts hiX0 tyX0 tyX0_ok nmX0 hown hE.1 hP hD hS 0 rfl rfl 1 (by decide) (hts (.fieldLink RX0 23 "MeterSeals$Meter" "rows" "LMeterSeals$Rows;") (by decide +kernel)) (fun _ h9 => h9) rfl hin rfl (by decide +kernel) rfl rfl (Nat.le_of_ble_eq_true rfl) dX0_init_24 (fun H locs hP hD hS => ?_)
  have hP : va_P G.1 vwCl ([(m0, .inr (1, [.ref q1, .ref q5, .int 0, .long 0])), (q1, .inr (3, [.ref t2, .ref t3, .ref t4, .int 0])), (t2, .inl (kI G, 16, .inl (fun _ => 0))), (t3, .inl (kJ G, 16, .inr (.inl (fun _ => 0)))), (t4, .inl (kJ G, 16, .inr (.inl (fun _ => 0)))), (q5, .inr (2, [.long key, .ref h6, .ref h7, .ref h8, .ref h9, .ref h10, .int 0])), (h6, .inl (kJ G, 200, .inr (.inl (fun _ => 0)))), (h7, .inl (kJ G, 200, .inr (.inl (fun _ => 0)))), (h8, .inl (kI G, 200, .inl (fun _ => 0))), (h9, .inl (kJ G, 200, .inr (.inl (fun _ => 0)))), (h10, .inl (kZ G, 200, .inl (fun _ => 0)))]) H := hP
  have hD : va_D A ([(m0, .inr (1, [.ref q1, .ref q5, .int 0, .long 0])), (q1, .inr (3, [.ref t2, .ref t3, .ref t4, .int 0])), (t2, .inl (kI G, 16, .inl (fun _ => 0))), (t3, .inl (kJ G, 16, .inr (.inl (fun _ => 0)))), (t4, .inl (kJ G, 16, .inr (.inl (fun _ => 0)))), (q5, .inr (2, [.long key, .ref h6, .ref h7, .ref h8, .ref h9, .ref h10, .int 0])), (h6, .inl (kJ G, 200, .inr (.inl (fun _ => 0)))), (h7, .inl (kJ G, 200, .inr (.inl (fun _ => 0)))), (h8, .inl (kI G, 200, .inl (fun _ => 0))), (h9, .inl (kJ G, 200, .inr (.inl (fun _ => 0)))), (h10, .inl (kZ G, 200, .inl (fun _ => 0)))]) := hD
  refine lv_aload_n hx hb dX0_init_27 rfl (lv_at hl 0 rfl) ?_
  refine lv_iconst (v := 1) hx hb dX0_init_28 (by decide) ?_
  refine va_put (D := G.1) (ci := 1) (v := .int 1) (ty := .boolean) (C := RX0) (T := TX0) (N := 4) hx hb hts hiX0 tyX0 tyX0_ok nmX0 hown hE.1 hP hD hS 0 rfl rfl 2 (by decide) (hts (.fieldLink RX0 27 "MeterSeals$Meter" "sealed" "Z") (by decide +kernel)) (fun _ h9 => h9) rfl (by decide +kernel) (zb (Or.inr rfl)) (zfit (Or.inr rfl)) (Nat.le_of_ble_eq_true rfl) dX0_init_29 (fun H locs hP hD hS => ?_)
  have hP : va_P G.1 vwCl ([(m0, .inr (1, [.ref q1, .ref q5, .int 1, .long 0])), (q1, .inr (3, [.ref t2, .ref t3, .ref t4, .int 0])), (t2, .inl (kI G, 16, .inl (fun _ => 0))), (t3, .inl (kJ G, 16, .inr (.inl (fun _ => 0)))), (t4, .inl (kJ G, 16, .inr (.inl (fun _ => 0)))), (q5, .inr (2, [.long key, .ref h6, .ref h7, .ref h8, .ref h9, .ref h10, .int 0])), (h6, .inl (kJ G, 200, .inr (.inl (fun _ => 0)))), (h7, .inl (kJ G, 200, .inr (.inl (fun _ => 0)))), (h8, .inl (kI G, 200, .inl (fun _ => 0))), (h9, .inl (kJ G, 200, .inr (.inl (fun _ => 0)))), (h10, .inl (kZ G, 200, .inl (fun _ => 0)))]) H := hP
  have hD : va_D A ([(m0, .inr (1, [.ref q1, .ref q5, .int 1, .long 0])), (q1, .inr (3, [.ref t2, .ref t3, .ref t4, .int 0])), (t2, .inl (kI G, 16, .inl (fun _ => 0))), (t3, .inl (kJ G, 16, .inr (.inl (fun _ => 0)))), (t4, .inl (kJ G, 16, .inr (.inl (fun _ => 0)))), (q5, .inr (2, [.long key, .ref h6, .ref h7, .ref h8, .ref h9, .ref h10, .int 0])), (h6, .inl (kJ G, 200, .inr (.inl (fun _ => 0)))), (h7, .inl (kJ G, 200, .inr (.inl (fun _ => 0)))), (h8, .inl (kI G, 200, .inl (fun _ => 0))), (h9, .inl (kJ G, 200, .inr (.inl (fun _ => 0)))), (h10, .inl (kZ G, 200, .inl (fun _ => 0)))]) := hD
  refine lv_aload_n hx hb dX0_init_32 rfl (lv_at hl 0 rfl) ?_
  refine lv_lconst (v := 0) hx hb dX0_init_33 (by decide) ?_
  refine va_put (D := G.1) (ci := 1) (v := .long 0) (ty := .long) (C := RX0) (T := TX0) (N := 4) hx hb hts hiX0 tyX0 tyX0_ok nmX0 hown hE.1 hP hD hS 0 rfl rfl 3 (by decide) (hts (.fieldLink RX0 31 "MeterSeals$Meter" "lastSecond" "J") (by decide +kernel)) (fun _ h9 => h9) rfl (by decide +kernel) rfl rfl (Nat.le_of_ble_eq_true rfl) dX0_init_34 (fun H locs hP hD hS => ?_)
  have hP : va_P G.1 vwCl ([(m0, .inr (1, [.ref q1, .ref q5, .int 1, .long 0])), (q1, .inr (3, [.ref t2, .ref t3, .ref t4, .int 0])), (t2, .inl (kI G, 16, .inl (fun _ => 0))), (t3, .inl (kJ G, 16, .inr (.inl (fun _ => 0)))), (t4, .inl (kJ G, 16, .inr (.inl (fun _ => 0)))), (q5, .inr (2, [.long key, .ref h6, .ref h7, .ref h8, .ref h9, .ref h10, .int 0])), (h6, .inl (kJ G, 200, .inr (.inl (fun _ => 0)))), (h7, .inl (kJ G, 200, .inr (.inl (fun _ => 0)))), (h8, .inl (kI G, 200, .inl (fun _ => 0))), (h9, .inl (kJ G, 200, .inr (.inl (fun _ => 0)))), (h10, .inl (kZ G, 200, .inl (fun _ => 0)))]) H := hP
  have hD : va_D A ([(m0, .inr (1, [.ref q1, .ref q5, .int 1, .long 0])), (q1, .inr (3, [.ref t2, .ref t3, .ref t4, .int 0])), (t2, .inl (kI G, 16, .inl (fun _ => 0))), (t3, .inl (kJ G, 16, .inr (.inl (fun _ => 0)))), (t4, .inl (kJ G, 16, .inr (.inl (fun _ => 0)))), (q5, .inr (2, [.long key, .ref h6, .ref h7, .ref h8, .ref h9, .ref h10, .int 0])), (h6, .inl (kJ G, 200, .inr (.inl (fun _ => 0)))), (h7, .inl (kJ G, 200, .inr (.inl (fun _ => 0)))), (h8, .inl (kI G, 200, .inl (fun _ => 0))), (h9, .inl (kJ G, 200, .inr (.inl (fun _ => 0)))), (h10, .inl (kZ G, 200, .inl (fun _ => 0)))]) := hD
  exact W.vret hx hb hr (fun t ht hW => ⟨⟨[(m0, .inr (1, [.ref q1, .ref q5, .int 1, .long 0])), (q1, .inr (3, [.ref t2, .ref t3, .ref t4, .int 0])), (t2, .inl (kI G, 16, .inl (fun _ => 0))), (t3, .inl (kJ G, 16, .inr (.inl (fun _ => 0)))), (t4, .inl (kJ G, 16, .inr (.inl (fun _ => 0)))), (q5, .inr (2, [.long key, .ref h6, .ref h7, .ref h8, .ref h9, .ref h10, .int 0])), (h6, .inl (kJ G, 200, .inr (.inl (fun _ => 0)))), (h7, .inl (kJ G, 200, .inr (.inl (fun _ => 0)))), (h8, .inl (kI G, 200, .inl (fun _ => 0))), (h9, .inl (kJ G, 200, .inr (.inl (fun _ => 0)))), (h10, .inl (kZ G, 200, .inl (fun _ => 0)))], rfl, ⟨_, _, _, _, _, _, _, _, _, _, rfl⟩, by show va_P _ _ _ t.heap; rw [ht]; exact hP, hD⟩, hS.F ht⟩) hS.2.2 dX0_init_37

set_option maxHeartbeats 4000000 in
set_option maxRecDepth 100000 in
/-- MeterSeals() -/
theorem ct_X3_init (l : Launch) (G : Gx) (sz : Nat) (x0 : Nat) : Met l yX3_init wsX3_init ({ frames := 1, cells := 1, slots := 8, locals := 12 }) (NwP G sz ([(x0, .inr (4, [.null, .int 0]))]) [.ref x0]) (va_Qv (fun (u : va_W) => ∃ x1 : Nat, u = [(x0, .inr (4, [.ref x1, .int 0])), (x1, .inl (kM G, 8, .inr (.inr (.inr (.inr (fun _ => none))))))]) (fun u t => va_P G.1 vwCl u t.heap ∧ va_D (va_A ([(x0, .inr (4, [.null, .int 0]))]) sz) u) (va_A ([(x0, .inr (4, [.null, .int 0]))]) sz)) 1 8 (va_A ([(x0, .inr (4, [.null, .int 0]))]) sz) := by
  refine Met.ofW (cc := cX3_init) (maxL := 1) (ret := none) (by decide) rfl ?_
  intro p e s m args below meth c s₁ B hml hv
  obtain ⟨rfl, hsz, hP, hE, hD0⟩ := hv
  have hx := B.exec
  have hb := B.bytes
  have hr := B.returns
  have hts := atoms_spec (ws := wsX3_init) B.pre
  have hown : s.vm.findClass RX3 = some m.cls := findClass_of_methodNamed B.named
  have hlocks := B.notSynchronized
  have hin : meth.name = "<init>" := (name_of_methodNamed B.named B.method).1
  subst hsz
  have hD := hD0.self (sz := s.heap.size)
  generalize hAe : va_A ([(x0, .inr (4, [.null, .int 0]))]) s.heap.size = A at hD ⊢
  have hA : ∀ q : Nat, s.heap.size ≤ q → A q := fun q h => by rw [← hAe]; exact Or.inr h
  have hS : va_S A s.heap s.heap [] := va_S.rf
  have hiX3 : ∀ w ∈ wsX30, w ∈ wsX3_init := by decide +kernel
  have hl := lv_entry ([.ref x0]) (n := 1) (Nat.le_of_ble_eq_true rfl)
  rw [lg_entry_eq]
  generalize (lg_sl ([.ref x0]) ++ List.replicate (1 - (lg_sl ([.ref x0])).length) Slot.unset).toArray = ls at hl ⊢
  replace hl : lv_has ls 1 [(0, .ref x0)] := hl
  refine lv_aload_n hx hb dX3_init_0 rfl (lv_at hl 0 rfl) ?_
  refine W.objInit hx hb hown (hts (.methodLink RX3 1 objectInit) (by decide +kernel)) (hts (.instanceMethod objectInit) (by decide +kernel)) (hts (.code objectInit ⟨#[0xb1]⟩ 1 none) (by decide +kernel)) rfl (by rw [hml]; exact hl.1) rfl dX3_init_1 (Nat.le_of_ble_eq_true rfl) (Nat.le_of_ble_eq_true rfl) ?_
  refine W.eq (g2 := F0 m 4 ls []) rfl ?_
  refine lv_aload_n hx hb dX3_init_4 rfl (lv_at hl 0 rfl) ?_
  refine lv_bipush (v := 8) hx hb dX3_init_5 (by decide) ?_
  refine x_newM (N := 8) hx hb hown (hts (.classLink RX3 9 RX0) (by decide +kernel)) hE hP hD hS hA (by decide) (by decide) (by decide) (Nat.le_of_ble_eq_true rfl) (Nat.le_of_ble_eq_true rfl) dX3_init_7 (fun q1 H hP hD hS => ?_)
  have hP : va_P G.1 vwCl ([(x0, .inr (4, [.null, .int 0])), (q1, .inl (kM G, 8, .inr (.inr (.inr (.inr (fun _ => none))))))]) H := hP
  have hD : va_D A ([(x0, .inr (4, [.null, .int 0])), (q1, .inl (kM G, 8, .inr (.inr (.inr (.inr (fun _ => none))))))]) := hD
  refine va_putF (D := G.1) (ci := 4) (v := .ref q1) (ty := .array (.object "MeterSeals$Meter")) (C := RX3) (T := TX3) (N := 2) hx hb hts hiX3 tyX3 tyX3_ok nmX3 hown hE.1 hP hD hS 0 rfl rfl 0 (by decide) (hts (.fieldLink RX3 11 "MeterSeals" "meters" "[LMeterSeals$Meter;") (by decide +kernel)) (fun _ h9 => h9) rfl hin rfl (by decide +kernel) rfl rfl (Nat.le_of_ble_eq_true rfl) dX3_init_10 (fun H locs hP hD hS => ?_)
  have hP : va_P G.1 vwCl ([(x0, .inr (4, [.ref q1, .int 0])), (q1, .inl (kM G, 8, .inr (.inr (.inr (.inr (fun _ => none))))))]) H := hP
  have hD : va_D A ([(x0, .inr (4, [.ref q1, .int 0])), (q1, .inl (kM G, 8, .inr (.inr (.inr (.inr (fun _ => none))))))]) := hD
  refine lv_aload_n hx hb dX3_init_13 rfl (lv_at hl 0 rfl) ?_
  refine lv_iconst (v := 0) hx hb dX3_init_14 (by decide) ?_
  refine va_put (D := G.1) (ci := 4) (v := .int 0) (ty := .int) (C := RX3) (T := TX3) (N := 2) hx hb hts hiX3 tyX3 tyX3_ok nmX3 hown hE.1 hP hD hS 0 rfl rfl 1 (by decide) (hts (.fieldLink RX3 15 "MeterSeals" "meterCount" "I") (by decide +kernel)) (fun _ h9 => h9) rfl (by decide +kernel) rfl rfl (Nat.le_of_ble_eq_true rfl) dX3_init_15 (fun H locs hP hD hS => ?_)
  have hP : va_P G.1 vwCl ([(x0, .inr (4, [.ref q1, .int 0])), (q1, .inl (kM G, 8, .inr (.inr (.inr (.inr (fun _ => none))))))]) H := hP
  have hD : va_D A ([(x0, .inr (4, [.ref q1, .int 0])), (q1, .inl (kM G, 8, .inr (.inr (.inr (.inr (fun _ => none))))))]) := hD
  exact W.vret hx hb hr (fun t ht hW => ⟨⟨[(x0, .inr (4, [.ref q1, .int 0])), (q1, .inl (kM G, 8, .inr (.inr (.inr (.inr (fun _ => none))))))], rfl, ⟨_, rfl⟩, by show va_P _ _ _ t.heap; rw [ht]; exact hP, hD⟩, hS.F ht⟩) hS.2.2 dX3_init_18
end
section
theorem adr_mid {b : va_W} (a' b' c' : va_W) (hw : b = a' ++ b' ++ c') {q : Nat} (h : adr b' q) : adr b q := by
  subst hw
  obtain ⟨k, e, hk⟩ := h
  have hlt : k < b'.length := (List.getElem?_eq_some_iff.mp hk).1
  refine ⟨a'.length + k, e, ?_⟩
  rw [List.getElem?_append_left (by rw [List.length_append]; omega), List.getElem?_append_right (by omega), Nat.add_sub_cancel_left]
  exact hk
theorem x_join2 {A0 : Nat → Prop} {D : va_G} {cl : List vw_C} {ws : va_W} {H H1 : Heap} (a b c a' b' c' b1 : va_W) (hw : ws = a ++ b ++ c) (hw' : b = a' ++ b' ++ c') (hP : va_P D cl ws H) (hD : va_D A0 ws)
    (hk : ∀ q : Nat, q < H.size → ¬ adr b' q → H1[q]? = H[q]?) (hP1 : va_P D cl b1 H1) (hm : b1.map Prod.fst = b'.map Prod.fst) : va_P D cl (a ++ (a' ++ b1 ++ c') ++ c) H1 ∧ va_D A0 (a ++ (a' ++ b1 ++ c') ++ c) := by
  have h1 := x_join a' b' c' b1 hw' (x_mid a b c hw hP) (x_midD a b c hw hD) hk hP1 hm
  refine x_join a b c (a' ++ b1 ++ c') hw hP hD (fun q hq hn => hk q hq (fun h => hn (adr_mid a' b' c' hw' h))) h1.1 ?_
  rw [hw', List.map_append, List.map_append, List.map_append, List.map_append, hm]
def f_find (n : Nat) (f : Nat → Option Nat) (mi : Int32) : Option Nat := if mi < 0 then none else if nI n ≤ mi then none else f mi.toNatClampNeg
theorem f_find_in {n j : Nat} {f : Nat → Option Nat} (hj : j < n) (hn : n ≤ 8) : f_find n f (nI j) = f j := by
  unfold f_find
  rw [if_neg (nI_pos (by omega)), if_neg (nI_ge hj (by omega)), nI_clamp (by omega)]
theorem find_in {n : Nat} {mi : Int32} (hn : n ≤ 8) (h0 : ¬ mi < 0) (h1 : ¬ nI n ≤ mi) : vp_in mi 8 := by
  rcases pk_ix mi (show n < 2 ^ 31 by omega) with h | h | ⟨j, hj, rfl⟩
  · exact absurd h h0
  · exact absurd h h1
  · exact vp_in_nI (by omega) (by decide)
abbrev wX (G : Gx) (x0 x1 : Nat) (n : Int32) (f : Nat → Option Nat) : va_W := [(x0, .inr (4, [.ref x1, .int n])), (x1, .inl (kM G, 8, .inr (.inr (.inr (.inr f)))))]
def f_rgap (n : Nat) (st : Nat → Int64) (kk what : Int32) : Int32 := if kk < 0 then -1 else if what = 0 then f_gap n st kk what else if what = 1 then f_gap n st kk what else -1
def f_rest (tn : Nat) (ts : Nat → Int32) (ta tb : Nat → Int64) (n : Nat) (nu st : Nat → Int64) (de : Nat → Int32) (tank : Int64) : Int64 :=
  if f_within tank 0 1000000000 = 0 then -9223372036854775808 else f_all tn ts ta tb n nu st de - tank * 1000
end
section
set_option maxHeartbeats 4000000 in
set_option maxRecDepth 100000 in
/-- find -/
theorem ct_X3_find (l : Launch) (G : Gx) (x0 x1 : Nat) (xn : Nat) (f : Nat → Option Nat) (mi : Int32) (hxn : xn ≤ 8) : Met l yX3_find wsX3_find ({ frames := 0, cells := 0, slots := 0, locals := 0 }) (RdP G (wX G x0 x1 (nI xn) f) [.ref x0, .int mi]) (va_Sq (fun r => r = f_find xn f mi)) 0 0 (fun _ => False) := by
  refine Met.ofW (cc := cX3_find) (maxL := 2) (ret := (some (.object "MeterSeals$Meter"))) (by decide) rfl ?_
  intro p e s m args below meth c s₁ B hml hv
  obtain ⟨rfl, hP, hE⟩ := hv
  have hx := B.exec
  have hb := B.bytes
  have hr := B.returns
  have hts := atoms_spec (ws := wsX3_find) B.pre
  have hown : s.vm.findClass RX3 = some m.cls := findClass_of_methodNamed B.named
  have hlocks := B.notSynchronized
  have hiX3 : ∀ w ∈ wsX30, w ∈ wsX3_find := by decide +kernel
  have hl := lv_entry ([.ref x0, .int mi]) (n := 2) (Nat.le_of_ble_eq_true rfl)
  rw [lg_entry_eq]
  generalize (lg_sl ([.ref x0, .int mi]) ++ List.replicate (2 - (lg_sl ([.ref x0, .int mi])).length) Slot.unset).toArray = ls at hl ⊢
  replace hl : lv_has ls 2 [(0, .ref x0), (1, .int mi)] := hl
  refine lv_iload_n hx hb dX3_find_0 rfl (lv_at hl 1 rfl) ?_
  refine lv_if_lt (tgt := 21) hx hb dX3_find_1 (by decide) (fun c1 => ?_) (fun c1 => ?_)
  · refine lv_null hx hb dX3_find_21 ?_
    exact W.aret (v := .null) hx hb hr (Or.inl ⟨_, rfl⟩) (Or.inl rfl) (fun t ht hW => ⟨none, rfl, by simp only [f_find, if_pos c1], ht⟩) t_nil dX3_find_22
  refine lv_iload_n hx hb dX3_find_4 rfl (lv_at hl 1 rfl) ?_
  refine lv_aload_n hx hb dX3_find_5 rfl (lv_at hl 0 rfl) ?_
  refine va_get (D := G.1) (ci := 4) (v := .int (nI xn)) (C := RX3) (T := TX3) (N := 2) hx hb hts hiX3 hown hE.1 hP 0 rfl rfl 1 (by decide) (hts (.fieldLink RX3 15 "MeterSeals" "meterCount" "I") (by decide +kernel)) (fun _ h9 => h9) rfl dX3_find_6 ?_
  refine lv_icmp_ge (tgt := 21) hx hb dX3_find_9 (by decide) (fun c9 => ?_) (fun c9 => ?_)
  · refine lv_null hx hb dX3_find_21 ?_
    exact W.aret (v := .null) hx hb hr (Or.inl ⟨_, rfl⟩) (Or.inl rfl) (fun t ht hW => ⟨none, rfl, by simp only [f_find, if_neg c1, if_pos c9], ht⟩) t_nil dX3_find_22
  refine lv_aload_n hx hb dX3_find_12 rfl (lv_at hl 0 rfl) ?_
  refine va_get (D := G.1) (ci := 4) (v := .ref x1) (C := RX3) (T := TX3) (N := 2) hx hb hts hiX3 hown hE.1 hP 0 rfl rfl 0 (by decide) (hts (.fieldLink RX3 11 "MeterSeals" "meters" "[LMeterSeals$Meter;") (by decide +kernel)) (fun _ h9 => h9) rfl dX3_find_13 ?_
  refine lv_iload_n hx hb dX3_find_16 rfl (lv_at hl 1 rfl) ?_
  refine va_aldq hx hb hE.1 hP 1 3 rfl rfl (find_in hxn c1 c9) dX3_find_17 ?_
  refine lv_goto (tgt := 22) hx hb dX3_find_18 (by decide) ?_
  exact W.aret (v := va_rf (f mi.toNatClampNeg)) hx hb hr (Or.inl ⟨_, rfl⟩) (va_rf_or _) (fun t ht hW => ⟨f mi.toNatClampNeg, rfl, by simp only [f_find, if_neg c1, if_neg c9], ht⟩) t_nil dX3_find_22

set_option maxHeartbeats 4000000 in
set_option maxRecDepth 100000 in
/-- X3_pulses, no such meter -/
theorem ca_X3_pulses (l : Launch) (G : Gx) (x0 x1 : Nat) (xn : Nat) (f : Nat → Option Nat) (mi : Int32) (number second : Int64) (degrees : Int32) (hxn : xn ≤ 8) (hmiss : f_find xn f mi = none) : Met l yX3_pulses wsX3_pulses ({ frames := 1, cells := 0, slots := 0, locals := 21 }) (RdP G (wX G x0 x1 (nI xn) f) [.ref x0, .int mi, .long number, .long second, .int degrees]) (vp_Si (fun r => r = 0)) 0 0 (fun _ => False) := by
  refine Met.ofW (cc := cX3_pulses) (maxL := 8) (ret := (some .boolean)) (by decide) rfl ?_
  intro p e s m args below meth c s₁ B hml hv
  obtain ⟨rfl, hP, hE⟩ := hv
  have hx := B.exec
  have hb := B.bytes
  have hr := B.returns
  have hts := atoms_spec (ws := wsX3_pulses) B.pre
  have hown : s.vm.findClass RX3 = some m.cls := findClass_of_methodNamed B.named
  have hlocks := B.notSynchronized
  have hl := lv_entry ([.ref x0, .int mi, .long number, .long second, .int degrees]) (n := 8) (Nat.le_of_ble_eq_true rfl)
  rw [lg_entry_eq]
  generalize (lg_sl ([.ref x0, .int mi, .long number, .long second, .int degrees]) ++ List.replicate (8 - (lg_sl ([.ref x0, .int mi, .long number, .long second, .int degrees])).length) Slot.unset).toArray = ls at hl ⊢
  replace hl : lv_has ls 8 [(0, .ref x0), (1, .int mi), (2, .long number), (4, .long second), (6, .int degrees)] := hl
  refine lv_aload_n hx hb dX3_pulses_0 rfl (lv_at hl 0 rfl) ?_
  refine lv_iload_n hx hb dX3_pulses_1 rfl (lv_at hl 1 rfl) ?_
  refine x_rq (va_runV (As := [.int mi]) (rest := []) ⟨hx, hb, hml, hown, hts⟩ (ct_X3_find l G x0 x1 xn f mi hxn) (cwV 1 hts gX3_pulses_X3_find rfl rfl rfl (by decide +kernel) ⟨Nat.le_of_ble_eq_true rfl, Nat.le_of_ble_eq_true rfl⟩) (RdP.preV 0 4 rfl rfl hP hE) rfl rfl hl.1 rfl (lv_room (Nat.le_of_ble_eq_true rfl)) dX3_pulses_2 ⟨Nat.zero_le _, Nat.zero_le _⟩) (fun rq erq => ?_)
  rw [hmiss] at erq
  subst erq
  refine W.eq (g2 := F0 m 5 ls [.null]) rfl ?_
  refine lv_astoreN (lv' := [(7, .null), (0, .ref x0), (1, .int mi), (2, .long number), (4, .long second), (6, .int degrees)]) hx hb dX3_pulses_5 hl (by decide) rfl (fun ls hl => ?_)
  refine lv_aloadN hx hb dX3_pulses_7 (lv_at hl 0 rfl) ?_
  refine lv_ifnullN (tgt := 29) hx hb dX3_pulses_9 (by decide) ?_
  refine lv_iconst (v := 0) hx hb dX3_pulses_29 (by decide) ?_
  exact W.zret (v := 0) hx hb hr (zb (Or.inl rfl)) (fun t ht hW => ⟨_, rfl, rfl, ht⟩) t_nil dX3_pulses_30

set_option maxHeartbeats 4000000 in
set_option maxRecDepth 100000 in
/-- X3_row, no such meter -/
theorem ca_X3_row (l : Launch) (G : Gx) (x0 x1 : Nat) (xn : Nat) (f : Nat → Option Nat) (mi : Int32) (d : Int32) (a b : Int64) (hxn : xn ≤ 8) (hmiss : f_find xn f mi = none) : Met l yX3_row wsX3_row ({ frames := 1, cells := 0, slots := 0, locals := 21 }) (RdP G (wX G x0 x1 (nI xn) f) [.ref x0, .int mi, .int d, .long a, .long b]) (vp_Si (fun r => r = 0)) 0 0 (fun _ => False) := by
  refine Met.ofW (cc := cX3_row) (maxL := 8) (ret := (some .boolean)) (by decide) rfl ?_
  intro p e s m args below meth c s₁ B hml hv
  obtain ⟨rfl, hP, hE⟩ := hv
  have hx := B.exec
  have hb := B.bytes
  have hr := B.returns
  have hts := atoms_spec (ws := wsX3_row) B.pre
  have hown : s.vm.findClass RX3 = some m.cls := findClass_of_methodNamed B.named
  have hlocks := B.notSynchronized
  have hl := lv_entry ([.ref x0, .int mi, .int d, .long a, .long b]) (n := 8) (Nat.le_of_ble_eq_true rfl)
  rw [lg_entry_eq]
  generalize (lg_sl ([.ref x0, .int mi, .int d, .long a, .long b]) ++ List.replicate (8 - (lg_sl ([.ref x0, .int mi, .int d, .long a, .long b])).length) Slot.unset).toArray = ls at hl ⊢
  replace hl : lv_has ls 8 [(0, .ref x0), (1, .int mi), (2, .int d), (3, .long a), (5, .long b)] := hl
  refine lv_aload_n hx hb dX3_row_0 rfl (lv_at hl 0 rfl) ?_
  refine lv_iload_n hx hb dX3_row_1 rfl (lv_at hl 1 rfl) ?_
  refine x_rq (va_runV (As := [.int mi]) (rest := []) ⟨hx, hb, hml, hown, hts⟩ (ct_X3_find l G x0 x1 xn f mi hxn) (cwV 1 hts gX3_row_X3_find rfl rfl rfl (by decide +kernel) ⟨Nat.le_of_ble_eq_true rfl, Nat.le_of_ble_eq_true rfl⟩) (RdP.preV 0 4 rfl rfl hP hE) rfl rfl hl.1 rfl (lv_room (Nat.le_of_ble_eq_true rfl)) dX3_row_2 ⟨Nat.zero_le _, Nat.zero_le _⟩) (fun rq erq => ?_)
  rw [hmiss] at erq
  subst erq
  refine W.eq (g2 := F0 m 5 ls [.null]) rfl ?_
  refine lv_astoreN (lv' := [(7, .null), (0, .ref x0), (1, .int mi), (2, .int d), (3, .long a), (5, .long b)]) hx hb dX3_row_5 hl (by decide) rfl (fun ls hl => ?_)
  refine lv_aloadN hx hb dX3_row_7 (lv_at hl 0 rfl) ?_
  refine lv_ifnullN (tgt := 31) hx hb dX3_row_9 (by decide) ?_
  refine lv_iconst (v := 0) hx hb dX3_row_31 (by decide) ?_
  exact W.zret (v := 0) hx hb hr (zb (Or.inl rfl)) (fun t ht hW => ⟨_, rfl, rfl, ht⟩) t_nil dX3_row_32

set_option maxHeartbeats 4000000 in
set_option maxRecDepth 100000 in
/-- X3_litres, no such meter -/
theorem ca_X3_litres (l : Launch) (G : Gx) (x0 x1 : Nat) (xn : Nat) (f : Nat → Option Nat) (mi : Int32) (row part : Int32) (hxn : xn ≤ 8) (hmiss : f_find xn f mi = none) : Met l yX3_litres wsX3_litres ({ frames := 1, cells := 0, slots := 0, locals := 21 }) (RdP G (wX G x0 x1 (nI xn) f) [.ref x0, .int mi, .int row, .int part]) (vp_Sl (fun r => r = -1)) 0 0 (fun _ => False) := by
  refine Met.ofW (cc := cX3_litres) (maxL := 5) (ret := (some .long)) (by decide) rfl ?_
  intro p e s m args below meth c s₁ B hml hv
  obtain ⟨rfl, hP, hE⟩ := hv
  have hx := B.exec
  have hb := B.bytes
  have hr := B.returns
  have hts := atoms_spec (ws := wsX3_litres) B.pre
  have hown : s.vm.findClass RX3 = some m.cls := findClass_of_methodNamed B.named
  have hlocks := B.notSynchronized
  have hl := lv_entry ([.ref x0, .int mi, .int row, .int part]) (n := 5) (Nat.le_of_ble_eq_true rfl)
  rw [lg_entry_eq]
  generalize (lg_sl ([.ref x0, .int mi, .int row, .int part]) ++ List.replicate (5 - (lg_sl ([.ref x0, .int mi, .int row, .int part])).length) Slot.unset).toArray = ls at hl ⊢
  replace hl : lv_has ls 5 [(0, .ref x0), (1, .int mi), (2, .int row), (3, .int part)] := hl
  refine lv_aload_n hx hb dX3_litres_0 rfl (lv_at hl 0 rfl) ?_
  refine lv_iload_n hx hb dX3_litres_1 rfl (lv_at hl 1 rfl) ?_
  refine x_rq (va_runV (As := [.int mi]) (rest := []) ⟨hx, hb, hml, hown, hts⟩ (ct_X3_find l G x0 x1 xn f mi hxn) (cwV 1 hts gX3_litres_X3_find rfl rfl rfl (by decide +kernel) ⟨Nat.le_of_ble_eq_true rfl, Nat.le_of_ble_eq_true rfl⟩) (RdP.preV 0 4 rfl rfl hP hE) rfl rfl hl.1 rfl (lv_room (Nat.le_of_ble_eq_true rfl)) dX3_litres_2 ⟨Nat.zero_le _, Nat.zero_le _⟩) (fun rq erq => ?_)
  rw [hmiss] at erq
  subst erq
  refine W.eq (g2 := F0 m 5 ls [.null]) rfl ?_
  refine lv_astoreN (lv' := [(4, .null), (0, .ref x0), (1, .int mi), (2, .int row), (3, .int part)]) hx hb dX3_litres_5 hl (by decide) rfl (fun ls hl => ?_)
  refine lv_aloadN hx hb dX3_litres_7 (lv_at hl 0 rfl) ?_
  refine lv_ifnullN (tgt := 21) hx hb dX3_litres_9 (by decide) ?_
  refine lv_ldc2 (v := (-1)) hx hb hown (hts (.constantLong RX3 40 (-1)) (by decide +kernel)) dX3_litres_21 ?_
  exact W.lret (v := (-1)) hx hb hr (fun t ht hW => ⟨_, rfl, rfl, ht⟩) t_nil dX3_litres_24

set_option maxHeartbeats 4000000 in
set_option maxRecDepth 100000 in
/-- X3_rows, no such meter -/
theorem ca_X3_rows (l : Launch) (G : Gx) (x0 x1 : Nat) (xn : Nat) (f : Nat → Option Nat) (mi : Int32)  (hxn : xn ≤ 8) (hmiss : f_find xn f mi = none) : Met l yX3_rows wsX3_rows ({ frames := 1, cells := 0, slots := 0, locals := 21 }) (RdP G (wX G x0 x1 (nI xn) f) [.ref x0, .int mi]) (vp_Si (fun r => r = -1)) 0 0 (fun _ => False) := by
  refine Met.ofW (cc := cX3_rows) (maxL := 3) (ret := (some .int)) (by decide) rfl ?_
  intro p e s m args below meth c s₁ B hml hv
  obtain ⟨rfl, hP, hE⟩ := hv
  have hx := B.exec
  have hb := B.bytes
  have hr := B.returns
  have hts := atoms_spec (ws := wsX3_rows) B.pre
  have hown : s.vm.findClass RX3 = some m.cls := findClass_of_methodNamed B.named
  have hlocks := B.notSynchronized
  have hl := lv_entry ([.ref x0, .int mi]) (n := 3) (Nat.le_of_ble_eq_true rfl)
  rw [lg_entry_eq]
  generalize (lg_sl ([.ref x0, .int mi]) ++ List.replicate (3 - (lg_sl ([.ref x0, .int mi])).length) Slot.unset).toArray = ls at hl ⊢
  replace hl : lv_has ls 3 [(0, .ref x0), (1, .int mi)] := hl
  refine lv_aload_n hx hb dX3_rows_0 rfl (lv_at hl 0 rfl) ?_
  refine lv_iload_n hx hb dX3_rows_1 rfl (lv_at hl 1 rfl) ?_
  refine x_rq (va_runV (As := [.int mi]) (rest := []) ⟨hx, hb, hml, hown, hts⟩ (ct_X3_find l G x0 x1 xn f mi hxn) (cwV 1 hts gX3_rows_X3_find rfl rfl rfl (by decide +kernel) ⟨Nat.le_of_ble_eq_true rfl, Nat.le_of_ble_eq_true rfl⟩) (RdP.preV 0 4 rfl rfl hP hE) rfl rfl hl.1 rfl (lv_room (Nat.le_of_ble_eq_true rfl)) dX3_rows_2 ⟨Nat.zero_le _, Nat.zero_le _⟩) (fun rq erq => ?_)
  rw [hmiss] at erq
  subst erq
  refine W.eq (g2 := F0 m 5 ls [.null]) rfl ?_
  refine lv_astore_nN (lv' := [(2, .null), (0, .ref x0), (1, .int mi)]) hx hb dX3_rows_5 rfl hl (by decide) rfl (fun ls hl => ?_)
  refine lv_aload_nN hx hb dX3_rows_6 rfl (lv_at hl 0 rfl) ?_
  refine lv_ifnonnullN hx hb dX3_rows_7 ?_
  refine lv_iconst (v := (-1)) hx hb dX3_rows_10 (by decide) ?_
  refine lv_goto (tgt := 21) hx hb dX3_rows_11 (by decide) ?_
  exact W.iret (v := (-1)) hx hb hr (fun t ht hW => ⟨_, rfl, rfl, ht⟩) t_nil dX3_rows_21

set_option maxHeartbeats 4000000 in
set_option maxRecDepth 100000 in
/-- X3_check, no such meter -/
theorem ca_X3_check (l : Launch) (G : Gx) (x0 x1 : Nat) (xn : Nat) (f : Nat → Option Nat) (mi : Int32) (frm : Int32) (hxn : xn ≤ 8) (hmiss : f_find xn f mi = none) : Met l yX3_check wsX3_check ({ frames := 1, cells := 0, slots := 0, locals := 21 }) (RdP G (wX G x0 x1 (nI xn) f) [.ref x0, .int mi, .int frm]) (vp_Si (fun r => r = -1)) 0 0 (fun _ => False) := by
  refine Met.ofW (cc := cX3_check) (maxL := 4) (ret := (some .int)) (by decide) rfl ?_
  intro p e s m args below meth c s₁ B hml hv
  obtain ⟨rfl, hP, hE⟩ := hv
  have hx := B.exec
  have hb := B.bytes
  have hr := B.returns
  have hts := atoms_spec (ws := wsX3_check) B.pre
  have hown : s.vm.findClass RX3 = some m.cls := findClass_of_methodNamed B.named
  have hlocks := B.notSynchronized
  have hl := lv_entry ([.ref x0, .int mi, .int frm]) (n := 4) (Nat.le_of_ble_eq_true rfl)
  rw [lg_entry_eq]
  generalize (lg_sl ([.ref x0, .int mi, .int frm]) ++ List.replicate (4 - (lg_sl ([.ref x0, .int mi, .int frm])).length) Slot.unset).toArray = ls at hl ⊢
  replace hl : lv_has ls 4 [(0, .ref x0), (1, .int mi), (2, .int frm)] := hl
  refine lv_aload_n hx hb dX3_check_0 rfl (lv_at hl 0 rfl) ?_
  refine lv_iload_n hx hb dX3_check_1 rfl (lv_at hl 1 rfl) ?_
  refine x_rq (va_runV (As := [.int mi]) (rest := []) ⟨hx, hb, hml, hown, hts⟩ (ct_X3_find l G x0 x1 xn f mi hxn) (cwV 1 hts gX3_check_X3_find rfl rfl rfl (by decide +kernel) ⟨Nat.le_of_ble_eq_true rfl, Nat.le_of_ble_eq_true rfl⟩) (RdP.preV 0 4 rfl rfl hP hE) rfl rfl hl.1 rfl (lv_room (Nat.le_of_ble_eq_true rfl)) dX3_check_2 ⟨Nat.zero_le _, Nat.zero_le _⟩) (fun rq erq => ?_)
  rw [hmiss] at erq
  subst erq
  refine W.eq (g2 := F0 m 5 ls [.null]) rfl ?_
  refine lv_astore_nN (lv' := [(3, .null), (0, .ref x0), (1, .int mi), (2, .int frm)]) hx hb dX3_check_5 rfl hl (by decide) rfl (fun ls hl => ?_)
  refine lv_aload_nN hx hb dX3_check_6 rfl (lv_at hl 0 rfl) ?_
  refine lv_ifnonnullN hx hb dX3_check_7 ?_
  refine lv_iconst (v := (-1)) hx hb dX3_check_10 (by decide) ?_
  refine lv_goto (tgt := 22) hx hb dX3_check_11 (by decide) ?_
  exact W.iret (v := (-1)) hx hb hr (fun t ht hW => ⟨_, rfl, rfl, ht⟩) t_nil dX3_check_22

set_option maxHeartbeats 4000000 in
set_option maxRecDepth 100000 in
/-- X3_poke, no such meter -/
theorem ca_X3_poke (l : Launch) (G : Gx) (x0 x1 : Nat) (xn : Nat) (f : Nat → Option Nat) (mi : Int32) (row : Int32) (b : Int64) (hxn : xn ≤ 8) (hmiss : f_find xn f mi = none) : Met l yX3_poke wsX3_poke ({ frames := 1, cells := 0, slots := 0, locals := 21 }) (RdP G (wX G x0 x1 (nI xn) f) [.ref x0, .int mi, .int row, .long b]) (vp_Si (fun r => r = 0)) 0 0 (fun _ => False) := by
  refine Met.ofW (cc := cX3_poke) (maxL := 6) (ret := (some .boolean)) (by decide) rfl ?_
  intro p e s m args below meth c s₁ B hml hv
  obtain ⟨rfl, hP, hE⟩ := hv
  have hx := B.exec
  have hb := B.bytes
  have hr := B.returns
  have hts := atoms_spec (ws := wsX3_poke) B.pre
  have hown : s.vm.findClass RX3 = some m.cls := findClass_of_methodNamed B.named
  have hlocks := B.notSynchronized
  have hl := lv_entry ([.ref x0, .int mi, .int row, .long b]) (n := 6) (Nat.le_of_ble_eq_true rfl)
  rw [lg_entry_eq]
  generalize (lg_sl ([.ref x0, .int mi, .int row, .long b]) ++ List.replicate (6 - (lg_sl ([.ref x0, .int mi, .int row, .long b])).length) Slot.unset).toArray = ls at hl ⊢
  replace hl : lv_has ls 6 [(0, .ref x0), (1, .int mi), (2, .int row), (3, .long b)] := hl
  refine lv_aload_n hx hb dX3_poke_0 rfl (lv_at hl 0 rfl) ?_
  refine lv_iload_n hx hb dX3_poke_1 rfl (lv_at hl 1 rfl) ?_
  refine x_rq (va_runV (As := [.int mi]) (rest := []) ⟨hx, hb, hml, hown, hts⟩ (ct_X3_find l G x0 x1 xn f mi hxn) (cwV 1 hts gX3_poke_X3_find rfl rfl rfl (by decide +kernel) ⟨Nat.le_of_ble_eq_true rfl, Nat.le_of_ble_eq_true rfl⟩) (RdP.preV 0 4 rfl rfl hP hE) rfl rfl hl.1 rfl (lv_room (Nat.le_of_ble_eq_true rfl)) dX3_poke_2 ⟨Nat.zero_le _, Nat.zero_le _⟩) (fun rq erq => ?_)
  rw [hmiss] at erq
  subst erq
  refine W.eq (g2 := F0 m 5 ls [.null]) rfl ?_
  refine lv_astoreN (lv' := [(5, .null), (0, .ref x0), (1, .int mi), (2, .int row), (3, .long b)]) hx hb dX3_poke_5 hl (by decide) rfl (fun ls hl => ?_)
  refine lv_aloadN hx hb dX3_poke_7 (lv_at hl 0 rfl) ?_
  refine lv_ifnullN (tgt := 29) hx hb dX3_poke_9 (by decide) ?_
  refine lv_iconst (v := 0) hx hb dX3_poke_29 (by decide) ?_
  exact W.zret (v := 0) hx hb hr (zb (Or.inl rfl)) (fun t ht hW => ⟨_, rfl, rfl, ht⟩) t_nil dX3_poke_30

set_option maxHeartbeats 4000000 in
set_option maxRecDepth 100000 in
/-- X3_seal, no such meter -/
theorem ca_X3_seal (l : Launch) (G : Gx) (x0 x1 : Nat) (xn : Nat) (f : Nat → Option Nat) (mi : Int32) (person set_ : Int32) (hxn : xn ≤ 8) (hmiss : f_find xn f mi = none) : Met l yX3_seal wsX3_seal ({ frames := 1, cells := 0, slots := 0, locals := 21 }) (RdP G (wX G x0 x1 (nI xn) f) [.ref x0, .int mi, .int person, .int set_]) (vp_Si (fun r => r = 0)) 0 0 (fun _ => False) := by
  refine Met.ofW (cc := cX3_seal) (maxL := 5) (ret := (some .boolean)) (by decide) rfl ?_
  intro p e s m args below meth c s₁ B hml hv
  obtain ⟨rfl, hP, hE⟩ := hv
  have hx := B.exec
  have hb := B.bytes
  have hr := B.returns
  have hts := atoms_spec (ws := wsX3_seal) B.pre
  have hown : s.vm.findClass RX3 = some m.cls := findClass_of_methodNamed B.named
  have hlocks := B.notSynchronized
  have hl := lv_entry ([.ref x0, .int mi, .int person, .int set_]) (n := 5) (Nat.le_of_ble_eq_true rfl)
  rw [lg_entry_eq]
  generalize (lg_sl ([.ref x0, .int mi, .int person, .int set_]) ++ List.replicate (5 - (lg_sl ([.ref x0, .int mi, .int person, .int set_])).length) Slot.unset).toArray = ls at hl ⊢
  replace hl : lv_has ls 5 [(0, .ref x0), (1, .int mi), (2, .int person), (3, .int set_)] := hl
  refine lv_aload_n hx hb dX3_seal_0 rfl (lv_at hl 0 rfl) ?_
  refine lv_iload_n hx hb dX3_seal_1 rfl (lv_at hl 1 rfl) ?_
  refine x_rq (va_runV (As := [.int mi]) (rest := []) ⟨hx, hb, hml, hown, hts⟩ (ct_X3_find l G x0 x1 xn f mi hxn) (cwV 1 hts gX3_seal_X3_find rfl rfl rfl (by decide +kernel) ⟨Nat.le_of_ble_eq_true rfl, Nat.le_of_ble_eq_true rfl⟩) (RdP.preV 0 4 rfl rfl hP hE) rfl rfl hl.1 rfl (lv_room (Nat.le_of_ble_eq_true rfl)) dX3_seal_2 ⟨Nat.zero_le _, Nat.zero_le _⟩) (fun rq erq => ?_)
  rw [hmiss] at erq
  subst erq
  refine W.eq (g2 := F0 m 5 ls [.null]) rfl ?_
  refine lv_astoreN (lv' := [(4, .null), (0, .ref x0), (1, .int mi), (2, .int person), (3, .int set_)]) hx hb dX3_seal_5 hl (by decide) rfl (fun ls hl => ?_)
  refine lv_aloadN hx hb dX3_seal_7 (lv_at hl 0 rfl) ?_
  refine lv_ifnullN (tgt := 26) hx hb dX3_seal_9 (by decide) ?_
  refine lv_iconst (v := 0) hx hb dX3_seal_26 (by decide) ?_
  exact W.zret (v := 0) hx hb hr (zb (Or.inl rfl)) (fun t ht hW => ⟨_, rfl, rfl, ht⟩) t_nil dX3_seal_27

set_option maxHeartbeats 4000000 in
set_option maxRecDepth 100000 in
/-- X3_marked, no such meter -/
theorem ca_X3_marked (l : Launch) (G : Gx) (x0 x1 : Nat) (xn : Nat) (f : Nat → Option Nat) (mi : Int32) (row : Int32) (hxn : xn ≤ 8) (hmiss : f_find xn f mi = none) : Met l yX3_marked wsX3_marked ({ frames := 1, cells := 0, slots := 0, locals := 21 }) (RdP G (wX G x0 x1 (nI xn) f) [.ref x0, .int mi, .int row]) (vp_Si (fun r => r = 0)) 0 0 (fun _ => False) := by
  refine Met.ofW (cc := cX3_marked) (maxL := 4) (ret := (some .boolean)) (by decide) rfl ?_
  intro p e s m args below meth c s₁ B hml hv
  obtain ⟨rfl, hP, hE⟩ := hv
  have hx := B.exec
  have hb := B.bytes
  have hr := B.returns
  have hts := atoms_spec (ws := wsX3_marked) B.pre
  have hown : s.vm.findClass RX3 = some m.cls := findClass_of_methodNamed B.named
  have hlocks := B.notSynchronized
  have hl := lv_entry ([.ref x0, .int mi, .int row]) (n := 4) (Nat.le_of_ble_eq_true rfl)
  rw [lg_entry_eq]
  generalize (lg_sl ([.ref x0, .int mi, .int row]) ++ List.replicate (4 - (lg_sl ([.ref x0, .int mi, .int row])).length) Slot.unset).toArray = ls at hl ⊢
  replace hl : lv_has ls 4 [(0, .ref x0), (1, .int mi), (2, .int row)] := hl
  refine lv_aload_n hx hb dX3_marked_0 rfl (lv_at hl 0 rfl) ?_
  refine lv_iload_n hx hb dX3_marked_1 rfl (lv_at hl 1 rfl) ?_
  refine x_rq (va_runV (As := [.int mi]) (rest := []) ⟨hx, hb, hml, hown, hts⟩ (ct_X3_find l G x0 x1 xn f mi hxn) (cwV 1 hts gX3_marked_X3_find rfl rfl rfl (by decide +kernel) ⟨Nat.le_of_ble_eq_true rfl, Nat.le_of_ble_eq_true rfl⟩) (RdP.preV 0 4 rfl rfl hP hE) rfl rfl hl.1 rfl (lv_room (Nat.le_of_ble_eq_true rfl)) dX3_marked_2 ⟨Nat.zero_le _, Nat.zero_le _⟩) (fun rq erq => ?_)
  rw [hmiss] at erq
  subst erq
  refine W.eq (g2 := F0 m 5 ls [.null]) rfl ?_
  refine lv_astore_nN (lv' := [(3, .null), (0, .ref x0), (1, .int mi), (2, .int row)]) hx hb dX3_marked_5 rfl hl (by decide) rfl (fun ls hl => ?_)
  refine lv_aload_nN hx hb dX3_marked_6 rfl (lv_at hl 0 rfl) ?_
  refine lv_ifnullN (tgt := 25) hx hb dX3_marked_7 (by decide) ?_
  refine lv_iconst (v := 0) hx hb dX3_marked_25 (by decide) ?_
  exact W.zret (v := 0) hx hb hr (zb (Or.inl rfl)) (fun t ht hW => ⟨_, rfl, rfl, ht⟩) t_nil dX3_marked_26

set_option maxHeartbeats 4000000 in
set_option maxRecDepth 100000 in
/-- X3_gap, no such meter -/
theorem ca_X3_gap (l : Launch) (G : Gx) (x0 x1 : Nat) (xn : Nat) (f : Nat → Option Nat) (mi : Int32) (kk what : Int32) (hxn : xn ≤ 8) (hmiss : f_find xn f mi = none) : Met l yX3_gap wsX3_gap ({ frames := 1, cells := 0, slots := 0, locals := 21 }) (RdP G (wX G x0 x1 (nI xn) f) [.ref x0, .int mi, .int kk, .int what]) (vp_Si (fun r => r = -1)) 0 0 (fun _ => False) := by
  refine Met.ofW (cc := cX3_gap) (maxL := 5) (ret := (some .int)) (by decide) rfl ?_
  intro p e s m args below meth c s₁ B hml hv
  obtain ⟨rfl, hP, hE⟩ := hv
  have hx := B.exec
  have hb := B.bytes
  have hr := B.returns
  have hts := atoms_spec (ws := wsX3_gap) B.pre
  have hown : s.vm.findClass RX3 = some m.cls := findClass_of_methodNamed B.named
  have hlocks := B.notSynchronized
  have hl := lv_entry ([.ref x0, .int mi, .int kk, .int what]) (n := 5) (Nat.le_of_ble_eq_true rfl)
  rw [lg_entry_eq]
  generalize (lg_sl ([.ref x0, .int mi, .int kk, .int what]) ++ List.replicate (5 - (lg_sl ([.ref x0, .int mi, .int kk, .int what])).length) Slot.unset).toArray = ls at hl ⊢
  replace hl : lv_has ls 5 [(0, .ref x0), (1, .int mi), (2, .int kk), (3, .int what)] := hl
  refine lv_aload_n hx hb dX3_gap_0 rfl (lv_at hl 0 rfl) ?_
  refine lv_iload_n hx hb dX3_gap_1 rfl (lv_at hl 1 rfl) ?_
  refine x_rq (va_runV (As := [.int mi]) (rest := []) ⟨hx, hb, hml, hown, hts⟩ (ct_X3_find l G x0 x1 xn f mi hxn) (cwV 1 hts gX3_gap_X3_find rfl rfl rfl (by decide +kernel) ⟨Nat.le_of_ble_eq_true rfl, Nat.le_of_ble_eq_true rfl⟩) (RdP.preV 0 4 rfl rfl hP hE) rfl rfl hl.1 rfl (lv_room (Nat.le_of_ble_eq_true rfl)) dX3_gap_2 ⟨Nat.zero_le _, Nat.zero_le _⟩) (fun rq erq => ?_)
  rw [hmiss] at erq
  subst erq
  refine W.eq (g2 := F0 m 5 ls [.null]) rfl ?_
  refine lv_astoreN (lv' := [(4, .null), (0, .ref x0), (1, .int mi), (2, .int kk), (3, .int what)]) hx hb dX3_gap_5 hl (by decide) rfl (fun ls hl => ?_)
  refine lv_aloadN hx hb dX3_gap_7 (lv_at hl 0 rfl) ?_
  refine lv_ifnullN (tgt := 25) hx hb dX3_gap_9 (by decide) ?_
  refine lv_iconst (v := (-1)) hx hb dX3_gap_25 (by decide) ?_
  exact W.iret (v := (-1)) hx hb hr (fun t ht hW => ⟨_, rfl, rfl, ht⟩) t_nil dX3_gap_26

set_option maxHeartbeats 4000000 in
set_option maxRecDepth 100000 in
/-- X3_rest, no such meter -/
theorem ca_X3_rest (l : Launch) (G : Gx) (x0 x1 : Nat) (xn : Nat) (f : Nat → Option Nat) (mi : Int32) (tank : Int64) (hxn : xn ≤ 8) (hmiss : f_find xn f mi = none) : Met l yX3_rest wsX3_rest ({ frames := 1, cells := 0, slots := 0, locals := 21 }) (RdP G (wX G x0 x1 (nI xn) f) [.ref x0, .int mi, .long tank]) (vp_Sl (fun r => r = -9223372036854775808)) 0 0 (fun _ => False) := by
  refine Met.ofW (cc := cX3_rest) (maxL := 5) (ret := (some .long)) (by decide) rfl ?_
  intro p e s m args below meth c s₁ B hml hv
  obtain ⟨rfl, hP, hE⟩ := hv
  have hx := B.exec
  have hb := B.bytes
  have hr := B.returns
  have hts := atoms_spec (ws := wsX3_rest) B.pre
  have hown : s.vm.findClass RX3 = some m.cls := findClass_of_methodNamed B.named
  have hlocks := B.notSynchronized
  have hl := lv_entry ([.ref x0, .int mi, .long tank]) (n := 5) (Nat.le_of_ble_eq_true rfl)
  rw [lg_entry_eq]
  generalize (lg_sl ([.ref x0, .int mi, .long tank]) ++ List.replicate (5 - (lg_sl ([.ref x0, .int mi, .long tank])).length) Slot.unset).toArray = ls at hl ⊢
  replace hl : lv_has ls 5 [(0, .ref x0), (1, .int mi), (2, .long tank)] := hl
  refine lv_aload_n hx hb dX3_rest_0 rfl (lv_at hl 0 rfl) ?_
  refine lv_iload_n hx hb dX3_rest_1 rfl (lv_at hl 1 rfl) ?_
  refine x_rq (va_runV (As := [.int mi]) (rest := []) ⟨hx, hb, hml, hown, hts⟩ (ct_X3_find l G x0 x1 xn f mi hxn) (cwV 1 hts gX3_rest_X3_find rfl rfl rfl (by decide +kernel) ⟨Nat.le_of_ble_eq_true rfl, Nat.le_of_ble_eq_true rfl⟩) (RdP.preV 0 4 rfl rfl hP hE) rfl rfl hl.1 rfl (lv_room (Nat.le_of_ble_eq_true rfl)) dX3_rest_2 ⟨Nat.zero_le _, Nat.zero_le _⟩) (fun rq erq => ?_)
  rw [hmiss] at erq
  subst erq
  refine W.eq (g2 := F0 m 5 ls [.null]) rfl ?_
  refine lv_astoreN (lv' := [(4, .null), (0, .ref x0), (1, .int mi), (2, .long tank)]) hx hb dX3_rest_5 hl (by decide) rfl (fun ls hl => ?_)
  refine lv_aloadN hx hb dX3_rest_7 (lv_at hl 0 rfl) ?_
  refine lv_ifnullN (tgt := 23) hx hb dX3_rest_9 (by decide) ?_
  refine lv_ldc2 (v := (-9223372036854775808)) hx hb hown (hts (.constantLong RX3 91 (-9223372036854775808)) (by decide +kernel)) dX3_rest_23 ?_
  exact W.lret (v := (-9223372036854775808)) hx hb hr (fun t ht hW => ⟨_, rfl, rfl, ht⟩) t_nil dX3_rest_26

set_option maxHeartbeats 4000000 in
set_option maxRecDepth 100000 in
/-- X3_reset, no such meter -/
theorem ca_X3_reset (l : Launch) (G : Gx) (x0 x1 : Nat) (xn : Nat) (f : Nat → Option Nat) (mi : Int32) (number : Int64) (hxn : xn ≤ 8) (hmiss : f_find xn f mi = none) : Met l yX3_reset wsX3_reset ({ frames := 1, cells := 0, slots := 0, locals := 21 }) (RdP G (wX G x0 x1 (nI xn) f) [.ref x0, .int mi, .long number]) (vp_Si (fun r => r = 0)) 0 0 (fun _ => False) := by
  refine Met.ofW (cc := cX3_reset) (maxL := 5) (ret := (some .boolean)) (by decide) rfl ?_
  intro p e s m args below meth c s₁ B hml hv
  obtain ⟨rfl, hP, hE⟩ := hv
  have hx := B.exec
  have hb := B.bytes
  have hr := B.returns
  have hts := atoms_spec (ws := wsX3_reset) B.pre
  have hown : s.vm.findClass RX3 = some m.cls := findClass_of_methodNamed B.named
  have hlocks := B.notSynchronized
  have hl := lv_entry ([.ref x0, .int mi, .long number]) (n := 5) (Nat.le_of_ble_eq_true rfl)
  rw [lg_entry_eq]
  generalize (lg_sl ([.ref x0, .int mi, .long number]) ++ List.replicate (5 - (lg_sl ([.ref x0, .int mi, .long number])).length) Slot.unset).toArray = ls at hl ⊢
  replace hl : lv_has ls 5 [(0, .ref x0), (1, .int mi), (2, .long number)] := hl
  refine lv_aload_n hx hb dX3_reset_0 rfl (lv_at hl 0 rfl) ?_
  refine lv_iload_n hx hb dX3_reset_1 rfl (lv_at hl 1 rfl) ?_
  refine x_rq (va_runV (As := [.int mi]) (rest := []) ⟨hx, hb, hml, hown, hts⟩ (ct_X3_find l G x0 x1 xn f mi hxn) (cwV 1 hts gX3_reset_X3_find rfl rfl rfl (by decide +kernel) ⟨Nat.le_of_ble_eq_true rfl, Nat.le_of_ble_eq_true rfl⟩) (RdP.preV 0 4 rfl rfl hP hE) rfl rfl hl.1 rfl (lv_room (Nat.le_of_ble_eq_true rfl)) dX3_reset_2 ⟨Nat.zero_le _, Nat.zero_le _⟩) (fun rq erq => ?_)
  rw [hmiss] at erq
  subst erq
  refine W.eq (g2 := F0 m 5 ls [.null]) rfl ?_
  refine lv_astoreN (lv' := [(4, .null), (0, .ref x0), (1, .int mi), (2, .long number)]) hx hb dX3_reset_5 hl (by decide) rfl (fun ls hl => ?_)
  refine lv_aloadN hx hb dX3_reset_7 (lv_at hl 0 rfl) ?_
  refine lv_ifnullN (tgt := 25) hx hb dX3_reset_9 (by decide) ?_
  refine lv_iconst (v := 0) hx hb dX3_reset_25 (by decide) ?_
  exact W.zret (v := 0) hx hb hr (zb (Or.inl rfl)) (fun t ht hW => ⟨_, rfl, rfl, ht⟩) t_nil dX3_reset_26

set_option maxHeartbeats 4000000 in
set_option maxRecDepth 100000 in
/-- X3_roll, no such meter -/
theorem ca_X3_roll (l : Launch) (G : Gx) (x0 x1 : Nat) (xn : Nat) (f : Nat → Option Nat) (mi : Int32) (ix : Int32) (hxn : xn ≤ 8) (hmiss : f_find xn f mi = none) : Met l yX3_roll wsX3_roll ({ frames := 1, cells := 0, slots := 0, locals := 21 }) (RdP G (wX G x0 x1 (nI xn) f) [.ref x0, .int mi, .int ix]) (vp_Si (fun r => r = -1)) 0 0 (fun _ => False) := by
  refine Met.ofW (cc := cX3_roll) (maxL := 4) (ret := (some .int)) (by decide) rfl ?_
  intro p e s m args below meth c s₁ B hml hv
  obtain ⟨rfl, hP, hE⟩ := hv
  have hx := B.exec
  have hb := B.bytes
  have hr := B.returns
  have hts := atoms_spec (ws := wsX3_roll) B.pre
  have hown : s.vm.findClass RX3 = some m.cls := findClass_of_methodNamed B.named
  have hlocks := B.notSynchronized
  have hl := lv_entry ([.ref x0, .int mi, .int ix]) (n := 4) (Nat.le_of_ble_eq_true rfl)
  rw [lg_entry_eq]
  generalize (lg_sl ([.ref x0, .int mi, .int ix]) ++ List.replicate (4 - (lg_sl ([.ref x0, .int mi, .int ix])).length) Slot.unset).toArray = ls at hl ⊢
  replace hl : lv_has ls 4 [(0, .ref x0), (1, .int mi), (2, .int ix)] := hl
  refine lv_aload_n hx hb dX3_roll_0 rfl (lv_at hl 0 rfl) ?_
  refine lv_iload_n hx hb dX3_roll_1 rfl (lv_at hl 1 rfl) ?_
  refine x_rq (va_runV (As := [.int mi]) (rest := []) ⟨hx, hb, hml, hown, hts⟩ (ct_X3_find l G x0 x1 xn f mi hxn) (cwV 1 hts gX3_roll_X3_find rfl rfl rfl (by decide +kernel) ⟨Nat.le_of_ble_eq_true rfl, Nat.le_of_ble_eq_true rfl⟩) (RdP.preV 0 4 rfl rfl hP hE) rfl rfl hl.1 rfl (lv_room (Nat.le_of_ble_eq_true rfl)) dX3_roll_2 ⟨Nat.zero_le _, Nat.zero_le _⟩) (fun rq erq => ?_)
  rw [hmiss] at erq
  subst erq
  refine W.eq (g2 := F0 m 5 ls [.null]) rfl ?_
  refine lv_astore_nN (lv' := [(3, .null), (0, .ref x0), (1, .int mi), (2, .int ix)]) hx hb dX3_roll_5 rfl hl (by decide) rfl (fun ls hl => ?_)
  refine lv_aload_nN hx hb dX3_roll_6 rfl (lv_at hl 0 rfl) ?_
  refine lv_ifnonnullN hx hb dX3_roll_7 ?_
  refine lv_iconst (v := (-1)) hx hb dX3_roll_10 (by decide) ?_
  refine lv_goto (tgt := 22) hx hb dX3_roll_11 (by decide) ?_
  exact W.iret (v := (-1)) hx hb hr (fun t ht hW => ⟨_, rfl, rfl, ht⟩) t_nil dX3_roll_22
end
section
set_option maxHeartbeats 4000000 in
set_option maxRecDepth 100000 in
/-- X3_rows -/
theorem ct_X3_rows (l : Launch) (G : Gx) (x0 x1 : Nat) (xn : Nat) (f : Nat → Option Nat) (BA BC : va_W) (j : Nat) (m0 t0 t1 t2 t3 h0 h1 h2 h3 h4 h5 : Nat) (sl : Int32) (la : Int64) (tn : Nat) (ts : Nat → Int32) (ta tb : Nat → Int64) (key : Int64) (n : Nat) (nu st : Nat → Int64) (de : Nat → Int32) (su : Nat → Int64) (mk : Nat → Int32)  (hxn : xn ≤ 8) (hj : j < xn) (hf : f j = some m0) (hc : n ≤ 200) (ht : tn ≤ 16) : Met l yX3_rows wsX3_rows ({ frames := 1, cells := 0, slots := 0, locals := 21 }) (RdP G ((wX G x0 x1 (nI xn) f ++ BA) ++ wM G m0 t0 t1 t2 t3 h0 h1 h2 h3 h4 h5 sl la (nI tn) ts ta tb key (nI n) nu st de su mk ++ BC) [.ref x0, .int (nI j)]) (vp_Si (fun r => r = nI n)) 0 0 (fun _ => False) := by
  refine Met.ofW (cc := cX3_rows) (maxL := 3) (ret := (some .int)) (by decide) rfl ?_
  intro p e s m args below meth c s₁ B hml hv
  obtain ⟨rfl, hP, hE⟩ := hv
  have hx := B.exec
  have hb := B.bytes
  have hr := B.returns
  have hts := atoms_spec (ws := wsX3_rows) B.pre
  have hown : s.vm.findClass RX3 = some m.cls := findClass_of_methodNamed B.named
  have hlocks := B.notSynchronized
  have hiX0 : ∀ w ∈ wsX00, w ∈ wsX3_rows := by decide +kernel
  have hiX1 : ∀ w ∈ wsX10, w ∈ wsX3_rows := by decide +kernel
  have hl := lv_entry ([.ref x0, .int (nI j)]) (n := 3) (Nat.le_of_ble_eq_true rfl)
  rw [lg_entry_eq]
  generalize (lg_sl ([.ref x0, .int (nI j)]) ++ List.replicate (3 - (lg_sl ([.ref x0, .int (nI j)])).length) Slot.unset).toArray = ls at hl ⊢
  replace hl : lv_has ls 3 [(0, .ref x0), (1, .int (nI j))] := hl
  refine lv_aload_n hx hb dX3_rows_0 rfl (lv_at hl 0 rfl) ?_
  refine lv_iload_n hx hb dX3_rows_1 rfl (lv_at hl 1 rfl) ?_
  refine x_rq (va_runV (As := [.int (nI j)]) (rest := []) ⟨hx, hb, hml, hown, hts⟩ (ct_X3_find l G x0 x1 xn f (nI j) hxn) (cwV 1 hts gX3_rows_X3_find rfl rfl rfl (by decide +kernel) ⟨Nat.le_of_ble_eq_true rfl, Nat.le_of_ble_eq_true rfl⟩) (RdP.preV 0 4 rfl rfl (x_mid [] (wX G x0 x1 (nI xn) f) (BA ++ wM G m0 t0 t1 t2 t3 h0 h1 h2 h3 h4 h5 sl la (nI tn) ts ta tb key (nI n) nu st de su mk ++ BC) rfl hP) hE) rfl rfl hl.1 rfl (lv_room (Nat.le_of_ble_eq_true rfl)) dX3_rows_2 ⟨Nat.zero_le _, Nat.zero_le _⟩) (fun rq erq => ?_)
  rw [f_find_in hj hxn, hf] at erq
  subst erq
  refine W.eq (g2 := F0 m 5 ls [.ref m0]) rfl ?_
  refine lv_astore_n (lv' := [(2, .ref m0), (0, .ref x0), (1, .int (nI j))]) hx hb dX3_rows_5 rfl hl (by decide) rfl (fun ls hl => ?_)
  refine lv_aload_n hx hb dX3_rows_6 rfl (lv_at hl 0 rfl) ?_
  refine lv_ifnonnull (tgt := 14) hx hb dX3_rows_7 (by decide) ?_
  refine lv_aload_n hx hb dX3_rows_14 rfl (lv_at hl 0 rfl) ?_
  refine va_getN (D := G.1) (ci := 1) (v := .ref h0) (C := RX0) (T := TX0) (N := 4) hx hb hts hiX0 hown hE.1 (x_mid (wX G x0 x1 (nI xn) f ++ BA) (wM G m0 t0 t1 t2 t3 h0 h1 h2 h3 h4 h5 sl la (nI tn) ts ta tb key (nI n) nu st de su mk) BC rfl hP) 0 rfl rfl 1 (by decide) (va_Nw.use (A := _) rfl hE.2.1.1.2.2.2.2) (fun _ h9 => h9) rfl dX3_rows_15 ?_
  refine va_getN (D := G.1) (ci := 2) (v := .int (nI n)) (C := RX1) (T := TX1) (N := 7) hx hb hts hiX1 hown hE.1 (x_mid (wX G x0 x1 (nI xn) f ++ BA) (wM G m0 t0 t1 t2 t3 h0 h1 h2 h3 h4 h5 sl la (nI tn) ts ta tb key (nI n) nu st de su mk) BC rfl hP) 5 rfl rfl 6 (by decide) (va_Nw.use (A := _) rfl hE.2.1.1.2.2.1) (fun _ h9 => h9) rfl dX3_rows_18 ?_
  exact W.iret (v := (nI n)) hx hb hr (fun t ht hW => ⟨_, rfl, rfl, ht⟩) t_nil dX3_rows_21

set_option maxHeartbeats 4000000 in
set_option maxRecDepth 100000 in
/-- X3_check -/
theorem ct_X3_check (l : Launch) (G : Gx) (x0 x1 : Nat) (xn : Nat) (f : Nat → Option Nat) (BA BC : va_W) (j : Nat) (m0 t0 t1 t2 t3 h0 h1 h2 h3 h4 h5 : Nat) (sl : Int32) (la : Int64) (tn : Nat) (ts : Nat → Int32) (ta tb : Nat → Int64) (key : Int64) (n : Nat) (nu st : Nat → Int64) (de : Nat → Int32) (su : Nat → Int64) (mk : Nat → Int32) (frm : Int32) (hxn : xn ≤ 8) (hj : j < xn) (hf : f j = some m0) (hc : n ≤ 200) (ht : tn ≤ 16) : Met l yX3_check wsX3_check ({ frames := 3, cells := 0, slots := 0, locals := 72 }) (RdP G ((wX G x0 x1 (nI xn) f ++ BA) ++ wM G m0 t0 t1 t2 t3 h0 h1 h2 h3 h4 h5 sl la (nI tn) ts ta tb key (nI n) nu st de su mk ++ BC) [.ref x0, .int (nI j), .int frm]) (vp_Si (fun r => r = f_wrong key n nu st de su frm)) 0 0 (fun _ => False) := by
  refine Met.ofW (cc := cX3_check) (maxL := 4) (ret := (some .int)) (by decide) rfl ?_
  intro p e s m args below meth c s₁ B hml hv
  obtain ⟨rfl, hP, hE⟩ := hv
  have hx := B.exec
  have hb := B.bytes
  have hr := B.returns
  have hts := atoms_spec (ws := wsX3_check) B.pre
  have hown : s.vm.findClass RX3 = some m.cls := findClass_of_methodNamed B.named
  have hlocks := B.notSynchronized
  have hiX0 : ∀ w ∈ wsX00, w ∈ wsX3_check := by decide +kernel
  have hl := lv_entry ([.ref x0, .int (nI j), .int frm]) (n := 4) (Nat.le_of_ble_eq_true rfl)
  rw [lg_entry_eq]
  generalize (lg_sl ([.ref x0, .int (nI j), .int frm]) ++ List.replicate (4 - (lg_sl ([.ref x0, .int (nI j), .int frm])).length) Slot.unset).toArray = ls at hl ⊢
  replace hl : lv_has ls 4 [(0, .ref x0), (1, .int (nI j)), (2, .int frm)] := hl
  refine lv_aload_n hx hb dX3_check_0 rfl (lv_at hl 0 rfl) ?_
  refine lv_iload_n hx hb dX3_check_1 rfl (lv_at hl 1 rfl) ?_
  refine x_rq (va_runV (As := [.int (nI j)]) (rest := []) ⟨hx, hb, hml, hown, hts⟩ (ct_X3_find l G x0 x1 xn f (nI j) hxn) (cwV 1 hts gX3_check_X3_find rfl rfl rfl (by decide +kernel) ⟨Nat.le_of_ble_eq_true rfl, Nat.le_of_ble_eq_true rfl⟩) (RdP.preV 0 4 rfl rfl (x_mid [] (wX G x0 x1 (nI xn) f) (BA ++ wM G m0 t0 t1 t2 t3 h0 h1 h2 h3 h4 h5 sl la (nI tn) ts ta tb key (nI n) nu st de su mk ++ BC) rfl hP) hE) rfl rfl hl.1 rfl (lv_room (Nat.le_of_ble_eq_true rfl)) dX3_check_2 ⟨Nat.zero_le _, Nat.zero_le _⟩) (fun rq erq => ?_)
  rw [f_find_in hj hxn, hf] at erq
  subst erq
  refine W.eq (g2 := F0 m 5 ls [.ref m0]) rfl ?_
  refine lv_astore_n (lv' := [(3, .ref m0), (0, .ref x0), (1, .int (nI j)), (2, .int frm)]) hx hb dX3_check_5 rfl hl (by decide) rfl (fun ls hl => ?_)
  refine lv_aload_n hx hb dX3_check_6 rfl (lv_at hl 0 rfl) ?_
  refine lv_ifnonnull (tgt := 14) hx hb dX3_check_7 (by decide) ?_
  refine lv_aload_n hx hb dX3_check_14 rfl (lv_at hl 0 rfl) ?_
  refine va_getN (D := G.1) (ci := 1) (v := .ref h0) (C := RX0) (T := TX0) (N := 4) hx hb hts hiX0 hown hE.1 (x_mid (wX G x0 x1 (nI xn) f ++ BA) (wM G m0 t0 t1 t2 t3 h0 h1 h2 h3 h4 h5 sl la (nI tn) ts ta tb key (nI n) nu st de su mk) BC rfl hP) 0 rfl rfl 1 (by decide) (va_Nw.use (A := _) rfl hE.2.1.1.2.2.2.2) (fun _ h9 => h9) rfl dX3_check_15 ?_
  refine lv_iload_n hx hb dX3_check_18 rfl (lv_at hl 3 rfl) ?_
  refine x_ri (va_runV (As := [.int frm]) (rest := []) ⟨hx, hb, hml, hown, hts⟩ (ct_X1_firstWrong l G h0 h1 h2 h3 h4 h5 key n nu st de su mk frm hc) (cwV 1 hts gX3_check_X1_firstWrong rfl rfl rfl (by decide +kernel) ⟨Nat.le_of_ble_eq_true rfl, Nat.le_of_ble_eq_true rfl⟩) (RdP.preV 0 2 rfl rfl (x_mid [(m0, .inr (1, [.ref t0, .ref h0, .int sl, .long la])), (t0, .inr (3, [.ref t1, .ref t2, .ref t3, .int (nI tn)])), (t1, .inl (kI G, 16, .inl ts)), (t2, .inl (kJ G, 16, .inr (.inl ta))), (t3, .inl (kJ G, 16, .inr (.inl tb)))] (wR G h0 h1 h2 h3 h4 h5 key (nI n) nu st de su mk) [] rfl (x_mid (wX G x0 x1 (nI xn) f ++ BA) (wM G m0 t0 t1 t2 t3 h0 h1 h2 h3 h4 h5 sl la (nI tn) ts ta tb key (nI n) nu st de su mk) BC rfl hP)) hE) rfl rfl hl.1 rfl (lv_room (Nat.le_of_ble_eq_true rfl)) dX3_check_19 ⟨Nat.zero_le _, Nat.zero_le _⟩) (fun r1 er1 => ?_)
  subst er1
  exact W.iret (v := (f_wrong key n nu st de su frm)) hx hb hr (fun t ht hW => ⟨_, rfl, rfl, ht⟩) t_nil dX3_check_22

set_option maxHeartbeats 4000000 in
set_option maxRecDepth 100000 in
/-- X3_marked -/
theorem ct_X3_marked (l : Launch) (G : Gx) (x0 x1 : Nat) (xn : Nat) (f : Nat → Option Nat) (BA BC : va_W) (j : Nat) (m0 t0 t1 t2 t3 h0 h1 h2 h3 h4 h5 : Nat) (sl : Int32) (la : Int64) (tn : Nat) (ts : Nat → Int32) (ta tb : Nat → Int64) (key : Int64) (n : Nat) (nu st : Nat → Int64) (de : Nat → Int32) (su : Nat → Int64) (mk : Nat → Int32) (row : Int32) (hxn : xn ≤ 8) (hj : j < xn) (hf : f j = some m0) (hc : n ≤ 200) (ht : tn ≤ 16) : Met l yX3_marked wsX3_marked ({ frames := 2, cells := 0, slots := 0, locals := 42 }) (RdP G ((wX G x0 x1 (nI xn) f ++ BA) ++ wM G m0 t0 t1 t2 t3 h0 h1 h2 h3 h4 h5 sl la (nI tn) ts ta tb key (nI n) nu st de su mk ++ BC) [.ref x0, .int (nI j), .int row]) (vp_Si (fun r => r = (if f_mark n mk row = 0 then 0 else 1))) 0 0 (fun _ => False) := by
  refine Met.ofW (cc := cX3_marked) (maxL := 4) (ret := (some .boolean)) (by decide) rfl ?_
  intro p e s m args below meth c s₁ B hml hv
  obtain ⟨rfl, hP, hE⟩ := hv
  have hx := B.exec
  have hb := B.bytes
  have hr := B.returns
  have hts := atoms_spec (ws := wsX3_marked) B.pre
  have hown : s.vm.findClass RX3 = some m.cls := findClass_of_methodNamed B.named
  have hlocks := B.notSynchronized
  have hiX0 : ∀ w ∈ wsX00, w ∈ wsX3_marked := by decide +kernel
  have hl := lv_entry ([.ref x0, .int (nI j), .int row]) (n := 4) (Nat.le_of_ble_eq_true rfl)
  rw [lg_entry_eq]
  generalize (lg_sl ([.ref x0, .int (nI j), .int row]) ++ List.replicate (4 - (lg_sl ([.ref x0, .int (nI j), .int row])).length) Slot.unset).toArray = ls at hl ⊢
  replace hl : lv_has ls 4 [(0, .ref x0), (1, .int (nI j)), (2, .int row)] := hl
  refine lv_aload_n hx hb dX3_marked_0 rfl (lv_at hl 0 rfl) ?_
  refine lv_iload_n hx hb dX3_marked_1 rfl (lv_at hl 1 rfl) ?_
  refine x_rq (va_runV (As := [.int (nI j)]) (rest := []) ⟨hx, hb, hml, hown, hts⟩ (ct_X3_find l G x0 x1 xn f (nI j) hxn) (cwV 1 hts gX3_marked_X3_find rfl rfl rfl (by decide +kernel) ⟨Nat.le_of_ble_eq_true rfl, Nat.le_of_ble_eq_true rfl⟩) (RdP.preV 0 4 rfl rfl (x_mid [] (wX G x0 x1 (nI xn) f) (BA ++ wM G m0 t0 t1 t2 t3 h0 h1 h2 h3 h4 h5 sl la (nI tn) ts ta tb key (nI n) nu st de su mk ++ BC) rfl hP) hE) rfl rfl hl.1 rfl (lv_room (Nat.le_of_ble_eq_true rfl)) dX3_marked_2 ⟨Nat.zero_le _, Nat.zero_le _⟩) (fun rq erq => ?_)
  rw [f_find_in hj hxn, hf] at erq
  subst erq
  refine W.eq (g2 := F0 m 5 ls [.ref m0]) rfl ?_
  refine lv_astore_n (lv' := [(3, .ref m0), (0, .ref x0), (1, .int (nI j)), (2, .int row)]) hx hb dX3_marked_5 rfl hl (by decide) rfl (fun ls hl => ?_)
  refine lv_aload_n hx hb dX3_marked_6 rfl (lv_at hl 0 rfl) ?_
  refine lv_ifnull hx hb dX3_marked_7 ?_
  refine lv_aload_n hx hb dX3_marked_10 rfl (lv_at hl 0 rfl) ?_
  refine va_getN (D := G.1) (ci := 1) (v := .ref h0) (C := RX0) (T := TX0) (N := 4) hx hb hts hiX0 hown hE.1 (x_mid (wX G x0 x1 (nI xn) f ++ BA) (wM G m0 t0 t1 t2 t3 h0 h1 h2 h3 h4 h5 sl la (nI tn) ts ta tb key (nI n) nu st de su mk) BC rfl hP) 0 rfl rfl 1 (by decide) (va_Nw.use (A := _) rfl hE.2.1.1.2.2.2.2) (fun _ h9 => h9) rfl dX3_marked_11 ?_
  refine lv_iload_n hx hb dX3_marked_14 rfl (lv_at hl 3 rfl) ?_
  refine x_ri (va_runV (As := [.int row]) (rest := []) ⟨hx, hb, hml, hown, hts⟩ (ct_X1_hasMark l G h0 h1 h2 h3 h4 h5 key n nu st de su mk row hc) (cwV 1 hts gX3_marked_X1_hasMark rfl rfl rfl (by decide +kernel) ⟨Nat.le_of_ble_eq_true rfl, Nat.le_of_ble_eq_true rfl⟩) (RdP.preV 0 2 rfl rfl (x_mid [(m0, .inr (1, [.ref t0, .ref h0, .int sl, .long la])), (t0, .inr (3, [.ref t1, .ref t2, .ref t3, .int (nI tn)])), (t1, .inl (kI G, 16, .inl ts)), (t2, .inl (kJ G, 16, .inr (.inl ta))), (t3, .inl (kJ G, 16, .inr (.inl tb)))] (wR G h0 h1 h2 h3 h4 h5 key (nI n) nu st de su mk) [] rfl (x_mid (wX G x0 x1 (nI xn) f ++ BA) (wM G m0 t0 t1 t2 t3 h0 h1 h2 h3 h4 h5 sl la (nI tn) ts ta tb key (nI n) nu st de su mk) BC rfl hP)) hE) rfl rfl hl.1 rfl (lv_room (Nat.le_of_ble_eq_true rfl)) dX3_marked_15 ⟨Nat.zero_le _, Nat.zero_le _⟩) (fun r1 er1 => ?_)
  subst er1
  refine lv_if_eq (tgt := 25) hx hb dX3_marked_18 (by decide) (fun c18 => ?_) (fun c18 => ?_)
  · refine lv_iconst (v := 0) hx hb dX3_marked_25 (by decide) ?_
    exact W.zret (v := 0) hx hb hr (zb (Or.inl rfl)) (fun t ht hW => ⟨_, rfl, by simp only [if_pos c18], ht⟩) t_nil dX3_marked_26
  refine lv_iconst (v := 1) hx hb dX3_marked_21 (by decide) ?_
  refine lv_goto (tgt := 26) hx hb dX3_marked_22 (by decide) ?_
  exact W.zret (v := 1) hx hb hr (zb (Or.inr rfl)) (fun t ht hW => ⟨_, rfl, by simp only [if_neg c18], ht⟩) t_nil dX3_marked_26

set_option maxHeartbeats 4000000 in
set_option maxRecDepth 100000 in
/-- X3_gap -/
theorem ct_X3_gap (l : Launch) (G : Gx) (x0 x1 : Nat) (xn : Nat) (f : Nat → Option Nat) (BA BC : va_W) (j : Nat) (m0 t0 t1 t2 t3 h0 h1 h2 h3 h4 h5 : Nat) (sl : Int32) (la : Int64) (tn : Nat) (ts : Nat → Int32) (ta tb : Nat → Int64) (key : Int64) (n : Nat) (nu st : Nat → Int64) (de : Nat → Int32) (su : Nat → Int64) (mk : Nat → Int32) (kk what : Int32) (hxn : xn ≤ 8) (hj : j < xn) (hf : f j = some m0) (hc : n ≤ 200) (ht : tn ≤ 16) : Met l yX3_gap wsX3_gap ({ frames := 3, cells := 0, slots := 0, locals := 70 }) (RdP G ((wX G x0 x1 (nI xn) f ++ BA) ++ wM G m0 t0 t1 t2 t3 h0 h1 h2 h3 h4 h5 sl la (nI tn) ts ta tb key (nI n) nu st de su mk ++ BC) [.ref x0, .int (nI j), .int kk, .int what]) (vp_Si (fun r => r = f_rgap n st kk what)) 0 0 (fun _ => False) := by
  refine Met.ofW (cc := cX3_gap) (maxL := 5) (ret := (some .int)) (by decide) rfl ?_
  intro p e s m args below meth c s₁ B hml hv
  obtain ⟨rfl, hP, hE⟩ := hv
  have hx := B.exec
  have hb := B.bytes
  have hr := B.returns
  have hts := atoms_spec (ws := wsX3_gap) B.pre
  have hown : s.vm.findClass RX3 = some m.cls := findClass_of_methodNamed B.named
  have hlocks := B.notSynchronized
  have hiX0 : ∀ w ∈ wsX00, w ∈ wsX3_gap := by decide +kernel
  have hl := lv_entry ([.ref x0, .int (nI j), .int kk, .int what]) (n := 5) (Nat.le_of_ble_eq_true rfl)
  rw [lg_entry_eq]
  generalize (lg_sl ([.ref x0, .int (nI j), .int kk, .int what]) ++ List.replicate (5 - (lg_sl ([.ref x0, .int (nI j), .int kk, .int what])).length) Slot.unset).toArray = ls at hl ⊢
  replace hl : lv_has ls 5 [(0, .ref x0), (1, .int (nI j)), (2, .int kk), (3, .int what)] := hl
  refine lv_aload_n hx hb dX3_gap_0 rfl (lv_at hl 0 rfl) ?_
  refine lv_iload_n hx hb dX3_gap_1 rfl (lv_at hl 1 rfl) ?_
  refine x_rq (va_runV (As := [.int (nI j)]) (rest := []) ⟨hx, hb, hml, hown, hts⟩ (ct_X3_find l G x0 x1 xn f (nI j) hxn) (cwV 1 hts gX3_gap_X3_find rfl rfl rfl (by decide +kernel) ⟨Nat.le_of_ble_eq_true rfl, Nat.le_of_ble_eq_true rfl⟩) (RdP.preV 0 4 rfl rfl (x_mid [] (wX G x0 x1 (nI xn) f) (BA ++ wM G m0 t0 t1 t2 t3 h0 h1 h2 h3 h4 h5 sl la (nI tn) ts ta tb key (nI n) nu st de su mk ++ BC) rfl hP) hE) rfl rfl hl.1 rfl (lv_room (Nat.le_of_ble_eq_true rfl)) dX3_gap_2 ⟨Nat.zero_le _, Nat.zero_le _⟩) (fun rq erq => ?_)
  rw [f_find_in hj hxn, hf] at erq
  subst erq
  refine W.eq (g2 := F0 m 5 ls [.ref m0]) rfl ?_
  refine lv_astore (lv' := [(4, .ref m0), (0, .ref x0), (1, .int (nI j)), (2, .int kk), (3, .int what)]) hx hb dX3_gap_5 hl (by decide) rfl (fun ls hl => ?_)
  refine lv_aload hx hb dX3_gap_7 (lv_at hl 0 rfl) ?_
  refine lv_ifnull hx hb dX3_gap_9 ?_
  refine lv_iload_n hx hb dX3_gap_12 rfl (lv_at hl 3 rfl) ?_
  refine lv_if_lt (tgt := 25) hx hb dX3_gap_13 (by decide) (fun c13 => ?_) (fun c13 => ?_)
  · refine lv_iconst (v := (-1)) hx hb dX3_gap_25 (by decide) ?_
    exact W.iret (v := (-1)) hx hb hr (fun t ht hW => ⟨_, rfl, by simp only [f_rgap, if_pos c13], ht⟩) t_nil dX3_gap_26
  refine lv_iload_n hx hb dX3_gap_16 rfl (lv_at hl 4 rfl) ?_
  refine lv_if_eq (tgt := 27) hx hb dX3_gap_17 (by decide) (fun c17 => ?_) (fun c17 => ?_)
  · refine lv_aload hx hb dX3_gap_27 (lv_at hl 0 rfl) ?_
    refine va_getN (D := G.1) (ci := 1) (v := .ref h0) (C := RX0) (T := TX0) (N := 4) hx hb hts hiX0 hown hE.1 (x_mid (wX G x0 x1 (nI xn) f ++ BA) (wM G m0 t0 t1 t2 t3 h0 h1 h2 h3 h4 h5 sl la (nI tn) ts ta tb key (nI n) nu st de su mk) BC rfl hP) 0 rfl rfl 1 (by decide) (va_Nw.use (A := _) rfl hE.2.1.1.2.2.2.2) (fun _ h9 => h9) rfl dX3_gap_29 ?_
    refine lv_iload_n hx hb dX3_gap_32 rfl (lv_at hl 3 rfl) ?_
    refine lv_iload_n hx hb dX3_gap_33 rfl (lv_at hl 4 rfl) ?_
    refine x_ri (va_runV (As := [.int kk, .int what]) (rest := []) ⟨hx, hb, hml, hown, hts⟩ (ct_X1_findGap l G h0 h1 h2 h3 h4 h5 key n nu st de su mk kk what hc) (cwV 2 hts gX3_gap_X1_findGap rfl rfl rfl (by decide +kernel) ⟨Nat.le_of_ble_eq_true rfl, Nat.le_of_ble_eq_true rfl⟩) (RdP.preV 0 2 rfl rfl (x_mid [(m0, .inr (1, [.ref t0, .ref h0, .int sl, .long la])), (t0, .inr (3, [.ref t1, .ref t2, .ref t3, .int (nI tn)])), (t1, .inl (kI G, 16, .inl ts)), (t2, .inl (kJ G, 16, .inr (.inl ta))), (t3, .inl (kJ G, 16, .inr (.inl tb)))] (wR G h0 h1 h2 h3 h4 h5 key (nI n) nu st de su mk) [] rfl (x_mid (wX G x0 x1 (nI xn) f ++ BA) (wM G m0 t0 t1 t2 t3 h0 h1 h2 h3 h4 h5 sl la (nI tn) ts ta tb key (nI n) nu st de su mk) BC rfl hP)) hE) rfl rfl hl.1 rfl (lv_room (Nat.le_of_ble_eq_true rfl)) dX3_gap_34 ⟨Nat.zero_le _, Nat.zero_le _⟩) (fun r1 er1 => ?_)
    subst er1
    exact W.iret (v := (f_gap n st kk what)) hx hb hr (fun t ht hW => ⟨_, rfl, by simp only [f_rgap, if_neg c13, if_pos c17], ht⟩) t_nil dX3_gap_37
  refine lv_iload_n hx hb dX3_gap_20 rfl (lv_at hl 4 rfl) ?_
  refine lv_iconst (v := 1) hx hb dX3_gap_21 (by decide) ?_
  refine lv_icmp_eq (tgt := 27) hx hb dX3_gap_22 (by decide) (fun c22 => ?_) (fun c22 => ?_)
  · refine lv_aload hx hb dX3_gap_27 (lv_at hl 0 rfl) ?_
    refine va_getN (D := G.1) (ci := 1) (v := .ref h0) (C := RX0) (T := TX0) (N := 4) hx hb hts hiX0 hown hE.1 (x_mid (wX G x0 x1 (nI xn) f ++ BA) (wM G m0 t0 t1 t2 t3 h0 h1 h2 h3 h4 h5 sl la (nI tn) ts ta tb key (nI n) nu st de su mk) BC rfl hP) 0 rfl rfl 1 (by decide) (va_Nw.use (A := _) rfl hE.2.1.1.2.2.2.2) (fun _ h9 => h9) rfl dX3_gap_29 ?_
    refine lv_iload_n hx hb dX3_gap_32 rfl (lv_at hl 3 rfl) ?_
    refine lv_iload_n hx hb dX3_gap_33 rfl (lv_at hl 4 rfl) ?_
    refine x_ri (va_runV (As := [.int kk, .int what]) (rest := []) ⟨hx, hb, hml, hown, hts⟩ (ct_X1_findGap l G h0 h1 h2 h3 h4 h5 key n nu st de su mk kk what hc) (cwV 2 hts gX3_gap_X1_findGap rfl rfl rfl (by decide +kernel) ⟨Nat.le_of_ble_eq_true rfl, Nat.le_of_ble_eq_true rfl⟩) (RdP.preV 0 2 rfl rfl (x_mid [(m0, .inr (1, [.ref t0, .ref h0, .int sl, .long la])), (t0, .inr (3, [.ref t1, .ref t2, .ref t3, .int (nI tn)])), (t1, .inl (kI G, 16, .inl ts)), (t2, .inl (kJ G, 16, .inr (.inl ta))), (t3, .inl (kJ G, 16, .inr (.inl tb)))] (wR G h0 h1 h2 h3 h4 h5 key (nI n) nu st de su mk) [] rfl (x_mid (wX G x0 x1 (nI xn) f ++ BA) (wM G m0 t0 t1 t2 t3 h0 h1 h2 h3 h4 h5 sl la (nI tn) ts ta tb key (nI n) nu st de su mk) BC rfl hP)) hE) rfl rfl hl.1 rfl (lv_room (Nat.le_of_ble_eq_true rfl)) dX3_gap_34 ⟨Nat.zero_le _, Nat.zero_le _⟩) (fun r2 er2 => ?_)
    subst er2
    exact W.iret (v := (f_gap n st kk what)) hx hb hr (fun t ht hW => ⟨_, rfl, by simp only [f_rgap, if_neg c13, if_neg c17, if_pos c22], ht⟩) t_nil dX3_gap_37
  refine lv_iconst (v := (-1)) hx hb dX3_gap_25 (by decide) ?_
  exact W.iret (v := (-1)) hx hb hr (fun t ht hW => ⟨_, rfl, by simp only [f_rgap, if_neg c13, if_neg c17, if_neg c22], ht⟩) t_nil dX3_gap_26

set_option maxHeartbeats 4000000 in
set_option maxRecDepth 100000 in
/-- X3_roll -/
theorem ct_X3_roll (l : Launch) (G : Gx) (x0 x1 : Nat) (xn : Nat) (f : Nat → Option Nat) (BA BC : va_W) (j : Nat) (m0 t0 t1 t2 t3 h0 h1 h2 h3 h4 h5 : Nat) (sl : Int32) (la : Int64) (tn : Nat) (ts : Nat → Int32) (ta tb : Nat → Int64) (key : Int64) (n : Nat) (nu st : Nat → Int64) (de : Nat → Int32) (su : Nat → Int64) (mk : Nat → Int32) (ix : Int32) (hxn : xn ≤ 8) (hj : j < xn) (hf : f j = some m0) (hc : n ≤ 200) (ht : tn ≤ 16) : Met l yX3_roll wsX3_roll ({ frames := 5, cells := 0, slots := 0, locals := 114 }) (RdP G ((wX G x0 x1 (nI xn) f ++ BA) ++ wM G m0 t0 t1 t2 t3 h0 h1 h2 h3 h4 h5 sl la (nI tn) ts ta tb key (nI n) nu st de su mk ++ BC) [.ref x0, .int (nI j), .int ix]) (vp_Si (fun r => r = f_roll n nu st de mk ix)) 0 0 (fun _ => False) := by
  refine Met.ofW (cc := cX3_roll) (maxL := 4) (ret := (some .int)) (by decide) rfl ?_
  intro p e s m args below meth c s₁ B hml hv
  obtain ⟨rfl, hP, hE⟩ := hv
  have hx := B.exec
  have hb := B.bytes
  have hr := B.returns
  have hts := atoms_spec (ws := wsX3_roll) B.pre
  have hown : s.vm.findClass RX3 = some m.cls := findClass_of_methodNamed B.named
  have hlocks := B.notSynchronized
  have hiX0 : ∀ w ∈ wsX00, w ∈ wsX3_roll := by decide +kernel
  have hl := lv_entry ([.ref x0, .int (nI j), .int ix]) (n := 4) (Nat.le_of_ble_eq_true rfl)
  rw [lg_entry_eq]
  generalize (lg_sl ([.ref x0, .int (nI j), .int ix]) ++ List.replicate (4 - (lg_sl ([.ref x0, .int (nI j), .int ix])).length) Slot.unset).toArray = ls at hl ⊢
  replace hl : lv_has ls 4 [(0, .ref x0), (1, .int (nI j)), (2, .int ix)] := hl
  refine lv_aload_n hx hb dX3_roll_0 rfl (lv_at hl 0 rfl) ?_
  refine lv_iload_n hx hb dX3_roll_1 rfl (lv_at hl 1 rfl) ?_
  refine x_rq (va_runV (As := [.int (nI j)]) (rest := []) ⟨hx, hb, hml, hown, hts⟩ (ct_X3_find l G x0 x1 xn f (nI j) hxn) (cwV 1 hts gX3_roll_X3_find rfl rfl rfl (by decide +kernel) ⟨Nat.le_of_ble_eq_true rfl, Nat.le_of_ble_eq_true rfl⟩) (RdP.preV 0 4 rfl rfl (x_mid [] (wX G x0 x1 (nI xn) f) (BA ++ wM G m0 t0 t1 t2 t3 h0 h1 h2 h3 h4 h5 sl la (nI tn) ts ta tb key (nI n) nu st de su mk ++ BC) rfl hP) hE) rfl rfl hl.1 rfl (lv_room (Nat.le_of_ble_eq_true rfl)) dX3_roll_2 ⟨Nat.zero_le _, Nat.zero_le _⟩) (fun rq erq => ?_)
  rw [f_find_in hj hxn, hf] at erq
  subst erq
  refine W.eq (g2 := F0 m 5 ls [.ref m0]) rfl ?_
  refine lv_astore_n (lv' := [(3, .ref m0), (0, .ref x0), (1, .int (nI j)), (2, .int ix)]) hx hb dX3_roll_5 rfl hl (by decide) rfl (fun ls hl => ?_)
  refine lv_aload_n hx hb dX3_roll_6 rfl (lv_at hl 0 rfl) ?_
  refine lv_ifnonnull (tgt := 14) hx hb dX3_roll_7 (by decide) ?_
  refine lv_aload_n hx hb dX3_roll_14 rfl (lv_at hl 0 rfl) ?_
  refine va_getN (D := G.1) (ci := 1) (v := .ref h0) (C := RX0) (T := TX0) (N := 4) hx hb hts hiX0 hown hE.1 (x_mid (wX G x0 x1 (nI xn) f ++ BA) (wM G m0 t0 t1 t2 t3 h0 h1 h2 h3 h4 h5 sl la (nI tn) ts ta tb key (nI n) nu st de su mk) BC rfl hP) 0 rfl rfl 1 (by decide) (va_Nw.use (A := _) rfl hE.2.1.1.2.2.2.2) (fun _ h9 => h9) rfl dX3_roll_15 ?_
  refine lv_iload_n hx hb dX3_roll_18 rfl (lv_at hl 3 rfl) ?_
  refine x_ri (va_runV (As := [.int ix]) (rest := []) ⟨hx, hb, hml, hown, hts⟩ (ct_X1_rollByte l G h0 h1 h2 h3 h4 h5 key n nu st de su mk ix hc) (cwV 1 hts gX3_roll_X1_rollByte rfl rfl rfl (by decide +kernel) ⟨Nat.le_of_ble_eq_true rfl, Nat.le_of_ble_eq_true rfl⟩) (RdP.preV 0 2 rfl rfl (x_mid [(m0, .inr (1, [.ref t0, .ref h0, .int sl, .long la])), (t0, .inr (3, [.ref t1, .ref t2, .ref t3, .int (nI tn)])), (t1, .inl (kI G, 16, .inl ts)), (t2, .inl (kJ G, 16, .inr (.inl ta))), (t3, .inl (kJ G, 16, .inr (.inl tb)))] (wR G h0 h1 h2 h3 h4 h5 key (nI n) nu st de su mk) [] rfl (x_mid (wX G x0 x1 (nI xn) f ++ BA) (wM G m0 t0 t1 t2 t3 h0 h1 h2 h3 h4 h5 sl la (nI tn) ts ta tb key (nI n) nu st de su mk) BC rfl hP)) hE) rfl rfl hl.1 rfl (lv_room (Nat.le_of_ble_eq_true rfl)) dX3_roll_19 ⟨Nat.zero_le _, Nat.zero_le _⟩) (fun r1 er1 => ?_)
  subst er1
  exact W.iret (v := (f_roll n nu st de mk ix)) hx hb hr (fun t ht hW => ⟨_, rfl, rfl, ht⟩) t_nil dX3_roll_22

set_option maxHeartbeats 4000000 in
set_option maxRecDepth 100000 in
/-- X3_rest -/
theorem ct_X3_rest (l : Launch) (G : Gx) (x0 x1 : Nat) (xn : Nat) (f : Nat → Option Nat) (BA BC : va_W) (j : Nat) (m0 t0 t1 t2 t3 h0 h1 h2 h3 h4 h5 : Nat) (sl : Int32) (la : Int64) (tn : Nat) (ts : Nat → Int32) (ta tb : Nat → Int64) (key : Int64) (n : Nat) (nu st : Nat → Int64) (de : Nat → Int32) (su : Nat → Int64) (mk : Nat → Int32) (tank : Int64) (hxn : xn ≤ 8) (hj : j < xn) (hf : f j = some m0) (hc : n ≤ 200) (ht : tn ≤ 16) : Met l yX3_rest wsX3_rest ({ frames := 5, cells := 0, slots := 0, locals := 111 }) (RdP G ((wX G x0 x1 (nI xn) f ++ BA) ++ wM G m0 t0 t1 t2 t3 h0 h1 h2 h3 h4 h5 sl la (nI tn) ts ta tb key (nI n) nu st de su mk ++ BC) [.ref x0, .int (nI j), .long tank]) (vp_Sl (fun r => r = f_rest tn ts ta tb n nu st de tank)) 0 0 (fun _ => False) := by
  refine Met.ofW (cc := cX3_rest) (maxL := 5) (ret := (some .long)) (by decide) rfl ?_
  intro p e s m args below meth c s₁ B hml hv
  obtain ⟨rfl, hP, hE⟩ := hv
  have hx := B.exec
  have hb := B.bytes
  have hr := B.returns
  have hts := atoms_spec (ws := wsX3_rest) B.pre
  have hown : s.vm.findClass RX3 = some m.cls := findClass_of_methodNamed B.named
  have hlocks := B.notSynchronized
  have hl := lv_entry ([.ref x0, .int (nI j), .long tank]) (n := 5) (Nat.le_of_ble_eq_true rfl)
  rw [lg_entry_eq]
  generalize (lg_sl ([.ref x0, .int (nI j), .long tank]) ++ List.replicate (5 - (lg_sl ([.ref x0, .int (nI j), .long tank])).length) Slot.unset).toArray = ls at hl ⊢
  replace hl : lv_has ls 5 [(0, .ref x0), (1, .int (nI j)), (2, .long tank)] := hl
  refine lv_aload_n hx hb dX3_rest_0 rfl (lv_at hl 0 rfl) ?_
  refine lv_iload_n hx hb dX3_rest_1 rfl (lv_at hl 1 rfl) ?_
  refine x_rq (va_runV (As := [.int (nI j)]) (rest := []) ⟨hx, hb, hml, hown, hts⟩ (ct_X3_find l G x0 x1 xn f (nI j) hxn) (cwV 1 hts gX3_rest_X3_find rfl rfl rfl (by decide +kernel) ⟨Nat.le_of_ble_eq_true rfl, Nat.le_of_ble_eq_true rfl⟩) (RdP.preV 0 4 rfl rfl (x_mid [] (wX G x0 x1 (nI xn) f) (BA ++ wM G m0 t0 t1 t2 t3 h0 h1 h2 h3 h4 h5 sl la (nI tn) ts ta tb key (nI n) nu st de su mk ++ BC) rfl hP) hE) rfl rfl hl.1 rfl (lv_room (Nat.le_of_ble_eq_true rfl)) dX3_rest_2 ⟨Nat.zero_le _, Nat.zero_le _⟩) (fun rq erq => ?_)
  rw [f_find_in hj hxn, hf] at erq
  subst erq
  refine W.eq (g2 := F0 m 5 ls [.ref m0]) rfl ?_
  refine lv_astore (lv' := [(4, .ref m0), (0, .ref x0), (1, .int (nI j)), (2, .long tank)]) hx hb dX3_rest_5 hl (by decide) rfl (fun ls hl => ?_)
  refine lv_aload hx hb dX3_rest_7 (lv_at hl 0 rfl) ?_
  refine lv_ifnull hx hb dX3_rest_9 ?_
  refine lv_lload_n hx hb dX3_rest_12 rfl (lv_at hl 3 rfl) ?_
  refine lv_lconst (v := 0) hx hb dX3_rest_13 (by decide) ?_
  refine lv_ldc2 (v := 1000000000) hx hb hown (hts (.constantLong RX3 85 1000000000) (by decide +kernel)) dX3_rest_14 ?_
  refine x_ri (va_runS (As := [.long tank, .long 0, .long 1000000000]) (rest := []) ⟨hx, hb, hml, hown, hts⟩ (ct_X3_within l G tank 0 1000000000) (va_cwS 3 hts gX3_rest_X3_within rfl rfl rfl (by decide +kernel) ⟨Nat.le_of_ble_eq_true rfl, Nat.le_of_ble_eq_true rfl⟩) (RdP.preS (fun k q h => by simp at h) hE) rfl rfl hl.1 rfl (lv_room (Nat.le_of_ble_eq_true rfl)) dX3_rest_17 ⟨Nat.zero_le _, Nat.zero_le _⟩) (fun r1 er1 => ?_)
  subst er1
  refine lv_if_ne (tgt := 27) hx hb dX3_rest_20 (by decide) (fun c20 => ?_) (fun c20 => ?_)
  · refine lv_aload hx hb dX3_rest_27 (lv_at hl 0 rfl) ?_
    refine x_rl (va_runV (As := []) (rest := []) ⟨hx, hb, hml, hown, hts⟩ (ct_X0_allThousandths l G m0 t0 t1 t2 t3 h0 h1 h2 h3 h4 h5 sl la tn ts ta tb key n nu st de su mk hc ht) (cwV 0 hts gX3_rest_X0_allThousandths rfl rfl rfl (by decide +kernel) ⟨Nat.le_of_ble_eq_true rfl, Nat.le_of_ble_eq_true rfl⟩) (RdP.preV 0 1 rfl rfl (x_mid (wX G x0 x1 (nI xn) f ++ BA) (wM G m0 t0 t1 t2 t3 h0 h1 h2 h3 h4 h5 sl la (nI tn) ts ta tb key (nI n) nu st de su mk) BC rfl hP) hE) rfl rfl hl.1 rfl (lv_room (Nat.le_of_ble_eq_true rfl)) dX3_rest_29 ⟨Nat.zero_le _, Nat.zero_le _⟩) (fun r2 er2 => ?_)
    subst er2
    refine lv_lload_n hx hb dX3_rest_32 rfl (lv_at hl 3 rfl) ?_
    refine lv_ldc2 (v := 1000) hx hb hown (hts (.constantLong RX3 97 1000) (by decide +kernel)) dX3_rest_33 ?_
    refine lv_lmul hx hb dX3_rest_36 ?_
    refine lv_lsub hx hb dX3_rest_37 ?_
    exact W.lret (v := ((f_all tn ts ta tb n nu st de) - (tank * 1000))) hx hb hr (fun t ht hW => ⟨_, rfl, by simp only [f_rest, if_neg c20], ht⟩) t_nil dX3_rest_38
  refine lv_ldc2 (v := (-9223372036854775808)) hx hb hown (hts (.constantLong RX3 91 (-9223372036854775808)) (by decide +kernel)) dX3_rest_23 ?_
  exact W.lret (v := (-9223372036854775808)) hx hb hr (fun t ht hW => ⟨_, rfl, by simp only [f_rest, if_pos c20], ht⟩) t_nil dX3_rest_26

set_option maxHeartbeats 4000000 in
set_option maxRecDepth 100000 in
/-- litres, another part -/
theorem cn_X3_litres (l : Launch) (G : Gx) (x0 x1 : Nat) (xn : Nat) (f : Nat → Option Nat) (BA BC : va_W) (j : Nat) (m0 t0 t1 t2 t3 h0 h1 h2 h3 h4 h5 : Nat) (sl : Int32) (la : Int64) (tn : Nat) (ts : Nat → Int32) (ta tb : Nat → Int64) (key : Int64) (n : Nat) (nu st : Nat → Int64) (de : Nat → Int32) (su : Nat → Int64) (mk : Nat → Int32) (row part : Int32) (hxn : xn ≤ 8) (hj : j < xn) (hf : f j = some m0) (hc : n ≤ 200) (ht : tn ≤ 16) (hp0 : ¬ part = 0) (hp1 : ¬ part = 1) : Met l yX3_litres wsX3_litres ({ frames := 1, cells := 0, slots := 0, locals := 21 }) (RdP G ((wX G x0 x1 (nI xn) f ++ BA) ++ wM G m0 t0 t1 t2 t3 h0 h1 h2 h3 h4 h5 sl la (nI tn) ts ta tb key (nI n) nu st de su mk ++ BC) [.ref x0, .int (nI j), .int row, .int part]) (vp_Sl (fun r => r = -1)) 0 0 (fun _ => False) := by
  refine Met.ofW (cc := cX3_litres) (maxL := 5) (ret := (some .long)) (by decide) rfl ?_
  intro p e s m args below meth c s₁ B hml hv
  obtain ⟨rfl, hP, hE⟩ := hv
  have hx := B.exec
  have hb := B.bytes
  have hr := B.returns
  have hts := atoms_spec (ws := wsX3_litres) B.pre
  have hown : s.vm.findClass RX3 = some m.cls := findClass_of_methodNamed B.named
  have hlocks := B.notSynchronized
  have hl := lv_entry ([.ref x0, .int (nI j), .int row, .int part]) (n := 5) (Nat.le_of_ble_eq_true rfl)
  rw [lg_entry_eq]
  generalize (lg_sl ([.ref x0, .int (nI j), .int row, .int part]) ++ List.replicate (5 - (lg_sl ([.ref x0, .int (nI j), .int row, .int part])).length) Slot.unset).toArray = ls at hl ⊢
  replace hl : lv_has ls 5 [(0, .ref x0), (1, .int (nI j)), (2, .int row), (3, .int part)] := hl
  refine lv_aload_n hx hb dX3_litres_0 rfl (lv_at hl 0 rfl) ?_
  refine lv_iload_n hx hb dX3_litres_1 rfl (lv_at hl 1 rfl) ?_
  refine x_rq (va_runV (As := [.int (nI j)]) (rest := []) ⟨hx, hb, hml, hown, hts⟩ (ct_X3_find l G x0 x1 xn f (nI j) hxn) (cwV 1 hts gX3_litres_X3_find rfl rfl rfl (by decide +kernel) ⟨Nat.le_of_ble_eq_true rfl, Nat.le_of_ble_eq_true rfl⟩) (RdP.preV 0 4 rfl rfl (x_mid [] (wX G x0 x1 (nI xn) f) (BA ++ wM G m0 t0 t1 t2 t3 h0 h1 h2 h3 h4 h5 sl la (nI tn) ts ta tb key (nI n) nu st de su mk ++ BC) rfl hP) hE) rfl rfl hl.1 rfl (lv_room (Nat.le_of_ble_eq_true rfl)) dX3_litres_2 ⟨Nat.zero_le _, Nat.zero_le _⟩) (fun rq erq => ?_)
  rw [f_find_in hj hxn, hf] at erq
  subst erq
  refine W.eq (g2 := F0 m 5 ls [.ref m0]) rfl ?_
  refine lv_astore (lv' := [(4, .ref m0), (0, .ref x0), (1, .int (nI j)), (2, .int row), (3, .int part)]) hx hb dX3_litres_5 hl (by decide) rfl (fun ls hl => ?_)
  refine lv_aload hx hb dX3_litres_7 (lv_at hl 0 rfl) ?_
  refine lv_ifnull hx hb dX3_litres_9 ?_
  refine lv_iload_n hx hb dX3_litres_12 rfl (lv_at hl 4 rfl) ?_
  refine lv_if_eq (tgt := 25) hx hb dX3_litres_13 (by decide) (fun c13 => absurd c13 hp0) (fun c13 => ?_)
  refine lv_iload_n hx hb dX3_litres_16 rfl (lv_at hl 4 rfl) ?_
  refine lv_iconst (v := 1) hx hb dX3_litres_17 (by decide) ?_
  refine lv_icmp_eq (tgt := 25) hx hb dX3_litres_18 (by decide) (fun c18 => absurd c18 hp1) (fun c18 => ?_)
  refine lv_ldc2 (v := (-1)) hx hb hown (hts (.constantLong RX3 40 (-1)) (by decide +kernel)) dX3_litres_21 ?_
  exact W.lret (v := (-1)) hx hb hr (fun t ht hW => ⟨_, rfl, rfl, ht⟩) t_nil dX3_litres_24

set_option maxHeartbeats 4000000 in
set_option maxRecDepth 100000 in
/-- litres of a row -/
theorem ct_X3_litres (l : Launch) (G : Gx) (x0 x1 : Nat) (xn : Nat) (f : Nat → Option Nat) (BA BC : va_W) (j : Nat) (m0 t0 t1 t2 t3 h0 h1 h2 h3 h4 h5 : Nat) (sl : Int32) (la : Int64) (tn : Nat) (ts : Nat → Int32) (ta tb : Nat → Int64) (key : Int64) (n : Nat) (nu st : Nat → Int64) (de : Nat → Int32) (su : Nat → Int64) (mk : Nat → Int32) (row part : Int32) (A0 B0 : Nat) (hxn : xn ≤ 8) (hj : j < xn) (hf : f j = some m0) (hc : n ≤ 200) (ht : tn ≤ 16) (hpart : part = 0 ∨ part = 1) (hrow : ¬ f_holds (nI n) row = 0) (hA : f_la tn ts ta n nu st de row = lN A0) (hB : f_lbw tn ts tb n st de row = lN B0) (hA2 : A0 < 2 ^ 62) (hB2 : B0 < 2 ^ 14) : Met l yX3_litres wsX3_litres ({ frames := 5, cells := 0, slots := 0, locals := 114 }) (RdP G ((wX G x0 x1 (nI xn) f ++ BA) ++ wM G m0 t0 t1 t2 t3 h0 h1 h2 h3 h4 h5 sl la (nI tn) ts ta tb key (nI n) nu st de su mk ++ BC) [.ref x0, .int (nI j), .int row, .int part]) (vp_Sl (fun r => r = (if part = 0 then f_quot (lN A0) (lN (Nat.gcd A0 B0)) else f_quot (lN B0) (lN (Nat.gcd A0 B0))))) 0 0 (fun _ => False) := by
  refine Met.ofW (cc := cX3_litres) (maxL := 5) (ret := (some .long)) (by decide) rfl ?_
  intro p e s m args below meth c s₁ B hml hv
  obtain ⟨rfl, hP, hE⟩ := hv
  have hx := B.exec
  have hb := B.bytes
  have hr := B.returns
  have hts := atoms_spec (ws := wsX3_litres) B.pre
  have hown : s.vm.findClass RX3 = some m.cls := findClass_of_methodNamed B.named
  have hlocks := B.notSynchronized
  have hiX0 : ∀ w ∈ wsX00, w ∈ wsX3_litres := by decide +kernel
  have hl := lv_entry ([.ref x0, .int (nI j), .int row, .int part]) (n := 5) (Nat.le_of_ble_eq_true rfl)
  rw [lg_entry_eq]
  generalize (lg_sl ([.ref x0, .int (nI j), .int row, .int part]) ++ List.replicate (5 - (lg_sl ([.ref x0, .int (nI j), .int row, .int part])).length) Slot.unset).toArray = ls at hl ⊢
  replace hl : lv_has ls 5 [(0, .ref x0), (1, .int (nI j)), (2, .int row), (3, .int part)] := hl
  refine lv_aload_n hx hb dX3_litres_0 rfl (lv_at hl 0 rfl) ?_
  refine lv_iload_n hx hb dX3_litres_1 rfl (lv_at hl 1 rfl) ?_
  refine x_rq (va_runV (As := [.int (nI j)]) (rest := []) ⟨hx, hb, hml, hown, hts⟩ (ct_X3_find l G x0 x1 xn f (nI j) hxn) (cwV 1 hts gX3_litres_X3_find rfl rfl rfl (by decide +kernel) ⟨Nat.le_of_ble_eq_true rfl, Nat.le_of_ble_eq_true rfl⟩) (RdP.preV 0 4 rfl rfl (x_mid [] (wX G x0 x1 (nI xn) f) (BA ++ wM G m0 t0 t1 t2 t3 h0 h1 h2 h3 h4 h5 sl la (nI tn) ts ta tb key (nI n) nu st de su mk ++ BC) rfl hP) hE) rfl rfl hl.1 rfl (lv_room (Nat.le_of_ble_eq_true rfl)) dX3_litres_2 ⟨Nat.zero_le _, Nat.zero_le _⟩) (fun rq erq => ?_)
  rw [f_find_in hj hxn, hf] at erq
  subst erq
  refine W.eq (g2 := F0 m 5 ls [.ref m0]) rfl ?_
  refine lv_astore (lv' := [(4, .ref m0), (0, .ref x0), (1, .int (nI j)), (2, .int row), (3, .int part)]) hx hb dX3_litres_5 hl (by decide) rfl (fun ls hl => ?_)
  refine lv_aload hx hb dX3_litres_7 (lv_at hl 0 rfl) ?_
  refine lv_ifnull hx hb dX3_litres_9 ?_
  refine lv_iload_n hx hb dX3_litres_12 rfl (lv_at hl 4 rfl) ?_
  refine lv_if_eq (tgt := 25) hx hb dX3_litres_13 (by decide) (fun c13 => ?_) (fun c13 => ?_)
  · refine lv_aload hx hb dX3_litres_25 (lv_at hl 0 rfl) ?_
    refine va_getN (D := G.1) (ci := 1) (v := .ref h0) (C := RX0) (T := TX0) (N := 4) hx hb hts hiX0 hown hE.1 (x_mid (wX G x0 x1 (nI xn) f ++ BA) (wM G m0 t0 t1 t2 t3 h0 h1 h2 h3 h4 h5 sl la (nI tn) ts ta tb key (nI n) nu st de su mk) BC rfl hP) 0 rfl rfl 1 (by decide) (va_Nw.use (A := _) rfl hE.2.1.1.2.2.2.2) (fun _ h9 => h9) rfl dX3_litres_27 ?_
    refine lv_iload_n hx hb dX3_litres_30 rfl (lv_at hl 3 rfl) ?_
    refine x_ri (va_runV (As := [.int row]) (rest := []) ⟨hx, hb, hml, hown, hts⟩ (ct_X1_holds l G h0 h1 h2 h3 h4 h5 key n nu st de su mk row) (cwV 1 hts gX3_litres_X1_holds rfl rfl rfl (by decide +kernel) ⟨Nat.le_of_ble_eq_true rfl, Nat.le_of_ble_eq_true rfl⟩) (RdP.preV 0 2 rfl rfl (x_mid [(m0, .inr (1, [.ref t0, .ref h0, .int sl, .long la])), (t0, .inr (3, [.ref t1, .ref t2, .ref t3, .int (nI tn)])), (t1, .inl (kI G, 16, .inl ts)), (t2, .inl (kJ G, 16, .inr (.inl ta))), (t3, .inl (kJ G, 16, .inr (.inl tb)))] (wR G h0 h1 h2 h3 h4 h5 key (nI n) nu st de su mk) [] rfl (x_mid (wX G x0 x1 (nI xn) f ++ BA) (wM G m0 t0 t1 t2 t3 h0 h1 h2 h3 h4 h5 sl la (nI tn) ts ta tb key (nI n) nu st de su mk) BC rfl hP)) hE) rfl rfl hl.1 rfl (lv_room (Nat.le_of_ble_eq_true rfl)) dX3_litres_31 ⟨Nat.zero_le _, Nat.zero_le _⟩) (fun r1 er1 => ?_)
    subst er1
    refine lv_if_ne (tgt := 47) hx hb dX3_litres_34 (by decide) (fun c34 => ?_) (fun c34 => absurd c34 hrow)
    refine lv_aload hx hb dX3_litres_47 (lv_at hl 0 rfl) ?_
    refine lv_iload_n hx hb dX3_litres_49 rfl (lv_at hl 3 rfl) ?_
    refine lv_iload_n hx hb dX3_litres_50 rfl (lv_at hl 4 rfl) ?_
    refine x_rl (va_runV (As := [.int row, .int part]) (rest := []) ⟨hx, hb, hml, hown, hts⟩ (ct_X0_fractionPart l G m0 t0 t1 t2 t3 h0 h1 h2 h3 h4 h5 sl la tn ts ta tb key n nu st de su mk row part A0 B0 hc ht hA hB hA2 hB2) (cwV 2 hts gX3_litres_X0_fractionPart rfl rfl rfl (by decide +kernel) ⟨Nat.le_of_ble_eq_true rfl, Nat.le_of_ble_eq_true rfl⟩) (RdP.preV 0 1 rfl rfl (x_mid (wX G x0 x1 (nI xn) f ++ BA) (wM G m0 t0 t1 t2 t3 h0 h1 h2 h3 h4 h5 sl la (nI tn) ts ta tb key (nI n) nu st de su mk) BC rfl hP) hE) rfl rfl hl.1 rfl (lv_room (Nat.le_of_ble_eq_true rfl)) dX3_litres_51 ⟨Nat.zero_le _, Nat.zero_le _⟩) (fun r2 er2 => ?_)
    subst er2
    exact W.lret (v := (if part = 0 then f_quot (lN A0) (lN (Nat.gcd A0 B0)) else f_quot (lN B0) (lN (Nat.gcd A0 B0)))) hx hb hr (fun t ht hW => ⟨_, rfl, rfl, ht⟩) t_nil dX3_litres_54
  refine lv_iload_n hx hb dX3_litres_16 rfl (lv_at hl 4 rfl) ?_
  refine lv_iconst (v := 1) hx hb dX3_litres_17 (by decide) ?_
  refine lv_icmp_eq (tgt := 25) hx hb dX3_litres_18 (by decide) (fun c18 => ?_) (fun c18 => ?_)
  · refine lv_aload hx hb dX3_litres_25 (lv_at hl 0 rfl) ?_
    refine va_getN (D := G.1) (ci := 1) (v := .ref h0) (C := RX0) (T := TX0) (N := 4) hx hb hts hiX0 hown hE.1 (x_mid (wX G x0 x1 (nI xn) f ++ BA) (wM G m0 t0 t1 t2 t3 h0 h1 h2 h3 h4 h5 sl la (nI tn) ts ta tb key (nI n) nu st de su mk) BC rfl hP) 0 rfl rfl 1 (by decide) (va_Nw.use (A := _) rfl hE.2.1.1.2.2.2.2) (fun _ h9 => h9) rfl dX3_litres_27 ?_
    refine lv_iload_n hx hb dX3_litres_30 rfl (lv_at hl 3 rfl) ?_
    refine x_ri (va_runV (As := [.int row]) (rest := []) ⟨hx, hb, hml, hown, hts⟩ (ct_X1_holds l G h0 h1 h2 h3 h4 h5 key n nu st de su mk row) (cwV 1 hts gX3_litres_X1_holds rfl rfl rfl (by decide +kernel) ⟨Nat.le_of_ble_eq_true rfl, Nat.le_of_ble_eq_true rfl⟩) (RdP.preV 0 2 rfl rfl (x_mid [(m0, .inr (1, [.ref t0, .ref h0, .int sl, .long la])), (t0, .inr (3, [.ref t1, .ref t2, .ref t3, .int (nI tn)])), (t1, .inl (kI G, 16, .inl ts)), (t2, .inl (kJ G, 16, .inr (.inl ta))), (t3, .inl (kJ G, 16, .inr (.inl tb)))] (wR G h0 h1 h2 h3 h4 h5 key (nI n) nu st de su mk) [] rfl (x_mid (wX G x0 x1 (nI xn) f ++ BA) (wM G m0 t0 t1 t2 t3 h0 h1 h2 h3 h4 h5 sl la (nI tn) ts ta tb key (nI n) nu st de su mk) BC rfl hP)) hE) rfl rfl hl.1 rfl (lv_room (Nat.le_of_ble_eq_true rfl)) dX3_litres_31 ⟨Nat.zero_le _, Nat.zero_le _⟩) (fun r3 er3 => ?_)
    subst er3
    refine lv_if_ne (tgt := 47) hx hb dX3_litres_34 (by decide) (fun c34 => ?_) (fun c34 => absurd c34 hrow)
    refine lv_aload hx hb dX3_litres_47 (lv_at hl 0 rfl) ?_
    refine lv_iload_n hx hb dX3_litres_49 rfl (lv_at hl 3 rfl) ?_
    refine lv_iload_n hx hb dX3_litres_50 rfl (lv_at hl 4 rfl) ?_
    refine x_rl (va_runV (As := [.int row, .int part]) (rest := []) ⟨hx, hb, hml, hown, hts⟩ (ct_X0_fractionPart l G m0 t0 t1 t2 t3 h0 h1 h2 h3 h4 h5 sl la tn ts ta tb key n nu st de su mk row part A0 B0 hc ht hA hB hA2 hB2) (cwV 2 hts gX3_litres_X0_fractionPart rfl rfl rfl (by decide +kernel) ⟨Nat.le_of_ble_eq_true rfl, Nat.le_of_ble_eq_true rfl⟩) (RdP.preV 0 1 rfl rfl (x_mid (wX G x0 x1 (nI xn) f ++ BA) (wM G m0 t0 t1 t2 t3 h0 h1 h2 h3 h4 h5 sl la (nI tn) ts ta tb key (nI n) nu st de su mk) BC rfl hP) hE) rfl rfl hl.1 rfl (lv_room (Nat.le_of_ble_eq_true rfl)) dX3_litres_51 ⟨Nat.zero_le _, Nat.zero_le _⟩) (fun r4 er4 => ?_)
    subst er4
    exact W.lret (v := (if part = 0 then f_quot (lN A0) (lN (Nat.gcd A0 B0)) else f_quot (lN B0) (lN (Nat.gcd A0 B0)))) hx hb hr (fun t ht hW => ⟨_, rfl, rfl, ht⟩) t_nil dX3_litres_54
  exact absurd hpart (by rintro (h | h); exact c13 h; exact c18 h)

set_option maxHeartbeats 4000000 in
set_option maxRecDepth 100000 in
/-- X3_pulses -/
theorem ct_X3_pulses (l : Launch) (G : Gx) (x0 x1 : Nat) (xn : Nat) (f : Nat → Option Nat) (BA BC : va_W) (j : Nat) (m0 t0 t1 t2 t3 h0 h1 h2 h3 h4 h5 : Nat) (sl : Int32) (la : Int64) (tn : Nat) (ts : Nat → Int32) (ta tb : Nat → Int64) (key : Int64) (n : Nat) (nu st : Nat → Int64) (de : Nat → Int32) (su : Nat → Int64) (mk : Nat → Int32) (number second : Int64) (degrees : Int32) (hxn : xn ≤ 8) (hj : j < xn) (hf : f j = some m0) (hc : n ≤ 200) (ht : tn ≤ 16) (hsl : sl = 0 ∨ sl = 1) : Met l yX3_pulses wsX3_pulses ({ frames := 4, cells := 0, slots := 0, locals := 103 }) (WrP G ((wX G x0 x1 (nI xn) f ++ BA) ++ wM G m0 t0 t1 t2 t3 h0 h1 h2 h3 h4 h5 sl la (nI tn) ts ta tb key (nI n) nu st de su mk ++ BC) [.ref x0, .int (nI j), .long number, .long second, .int degrees]) (va_Qi (fun r (u : va_W) => (r = 0 ∧ (f_fits tn la number second degrees = 0 ∨ n = 200) ∧ u = (wX G x0 x1 (nI xn) f ++ BA) ++ wM G m0 t0 t1 t2 t3 h0 h1 h2 h3 h4 h5 sl la (nI tn) ts ta tb key (nI n) nu st de su mk ++ BC) ∨ (r = 1 ∧ ¬ f_fits tn la number second degrees = 0 ∧ n < 200 ∧ u = (wX G x0 x1 (nI xn) f ++ BA) ++ wM G m0 t0 t1 t2 t3 h0 h1 h2 h3 h4 h5 sl second (nI tn) ts ta tb key (nI (n + 1)) (vp_updL nu n number) (vp_updL st n second) (upd de n degrees) (vp_updL su n (f_due key (n + 1) (vp_updL nu n number) (vp_updL st n second) (upd de n degrees) su (nI n))) (upd mk n (if sl = 0 then 1 else 0)) ++ BC)) (fun u t => va_P G.1 vwCl u t.heap) (adr ((wX G x0 x1 (nI xn) f ++ BA) ++ wM G m0 t0 t1 t2 t3 h0 h1 h2 h3 h4 h5 sl la (nI tn) ts ta tb key (nI n) nu st de su mk ++ BC))) 0 0 (adr ((wX G x0 x1 (nI xn) f ++ BA) ++ wM G m0 t0 t1 t2 t3 h0 h1 h2 h3 h4 h5 sl la (nI tn) ts ta tb key (nI n) nu st de su mk ++ BC)) := by
  refine Met.ofW (cc := cX3_pulses) (maxL := 8) (ret := (some .boolean)) (by decide) rfl ?_
  intro p e s m args below meth c s₁ B hml hv
  obtain ⟨rfl, hP, hE, hD0⟩ := hv
  have hx := B.exec
  have hb := B.bytes
  have hr := B.returns
  have hts := atoms_spec (ws := wsX3_pulses) B.pre
  have hown : s.vm.findClass RX3 = some m.cls := findClass_of_methodNamed B.named
  have hlocks := B.notSynchronized
  have hD : va_D (adr ((wX G x0 x1 (nI xn) f ++ BA) ++ wM G m0 t0 t1 t2 t3 h0 h1 h2 h3 h4 h5 sl la (nI tn) ts ta tb key (nI n) nu st de su mk ++ BC)) ((wX G x0 x1 (nI xn) f ++ BA) ++ wM G m0 t0 t1 t2 t3 h0 h1 h2 h3 h4 h5 sl la (nI tn) ts ta tb key (nI n) nu st de su mk ++ BC) := ⟨hD0.1, fun k q hk => ⟨k, q.2, hk⟩⟩
  generalize adr ((wX G x0 x1 (nI xn) f ++ BA) ++ wM G m0 t0 t1 t2 t3 h0 h1 h2 h3 h4 h5 sl la (nI tn) ts ta tb key (nI n) nu st de su mk ++ BC) = A at hD ⊢
  have hS : va_S A s.heap s.heap [] := va_S.rf
  have hl := lv_entry ([.ref x0, .int (nI j), .long number, .long second, .int degrees]) (n := 8) (Nat.le_of_ble_eq_true rfl)
  rw [lg_entry_eq]
  generalize (lg_sl ([.ref x0, .int (nI j), .long number, .long second, .int degrees]) ++ List.replicate (8 - (lg_sl ([.ref x0, .int (nI j), .long number, .long second, .int degrees])).length) Slot.unset).toArray = ls at hl ⊢
  replace hl : lv_has ls 8 [(0, .ref x0), (1, .int (nI j)), (2, .long number), (4, .long second), (6, .int degrees)] := hl
  refine lv_aload_n hx hb dX3_pulses_0 rfl (lv_at hl 0 rfl) ?_
  refine lv_iload_n hx hb dX3_pulses_1 rfl (lv_at hl 1 rfl) ?_
  refine x_rq (va_runV (As := [.int (nI j)]) (rest := []) ⟨hx, hb, hml, hown, hts⟩ (ct_X3_find l G x0 x1 xn f (nI j) hxn) (cwV 1 hts gX3_pulses_X3_find rfl rfl rfl (by decide +kernel) ⟨Nat.le_of_ble_eq_true rfl, Nat.le_of_ble_eq_true rfl⟩) (RdP.preV 0 4 rfl rfl (x_mid [] (wX G x0 x1 (nI xn) f) (BA ++ wM G m0 t0 t1 t2 t3 h0 h1 h2 h3 h4 h5 sl la (nI tn) ts ta tb key (nI n) nu st de su mk ++ BC) rfl hP) hE) rfl rfl hl.1 rfl (lv_room (Nat.le_of_ble_eq_true rfl)) dX3_pulses_2 ⟨Nat.zero_le _, Nat.zero_le _⟩) (fun rq erq => ?_)
  rw [f_find_in hj hxn, hf] at erq
  subst erq
  refine W.eq (g2 := F0 m 5 ls [.ref m0]) rfl ?_
  refine lv_astore (lv' := [(7, .ref m0), (0, .ref x0), (1, .int (nI j)), (2, .long number), (4, .long second), (6, .int degrees)]) hx hb dX3_pulses_5 hl (by decide) rfl (fun ls hl => ?_)
  refine lv_aload hx hb dX3_pulses_7 (lv_at hl 0 rfl) ?_
  refine lv_ifnull hx hb dX3_pulses_9 ?_
  refine lv_aload hx hb dX3_pulses_12 (lv_at hl 0 rfl) ?_
  refine lv_lload_n hx hb dX3_pulses_14 rfl (lv_at hl 3 rfl) ?_
  refine lv_lload hx hb dX3_pulses_15 (lv_at hl 4 rfl) ?_
  refine lv_iload hx hb dX3_pulses_17 (lv_at hl 5 rfl) ?_
  refine va_calli (va_runV (As := [.long number, .long second, .int degrees]) (rest := []) ⟨hx, hb, hml, hown, hts⟩ (ct_X0_addReading l G m0 t0 t1 t2 t3 h0 h1 h2 h3 h4 h5 sl la tn ts ta tb key n nu st de su mk number second degrees hc ht hsl) (cwV 3 hts gX3_pulses_X0_addReading rfl rfl rfl (by decide +kernel) ⟨Nat.le_of_ble_eq_true rfl, Nat.le_of_ble_eq_true rfl⟩) (WrP.preV 0 1 rfl rfl (x_mid (wX G x0 x1 (nI xn) f ++ BA) (wM G m0 t0 t1 t2 t3 h0 h1 h2 h3 h4 h5 sl la (nI tn) ts ta tb key (nI n) nu st de su mk) BC rfl hP) hE (x_midD (wX G x0 x1 (nI xn) f ++ BA) (wM G m0 t0 t1 t2 t3 h0 h1 h2 h3 h4 h5 sl la (nI tn) ts ta tb key (nI n) nu st de su mk) BC rfl hD)) rfl rfl hl.1 rfl (lv_room (Nat.le_of_ble_eq_true rfl)) dX3_pulses_19 ⟨Nat.zero_le _, Nat.zero_le _⟩) hS (fun q _ h => (x_adr (wX G x0 x1 (nI xn) f ++ BA) (wM G m0 t0 t1 t2 t3 h0 h1 h2 h3 h4 h5 sl la (nI tn) ts ta tb key (nI n) nu st de su mk) BC rfl hD) q h) (x_adr (wX G x0 x1 (nI xn) f ++ BA) (wM G m0 t0 t1 t2 t3 h0 h1 h2 h3 h4 h5 sl la (nI tn) ts ta tb key (nI n) nu st de su mk) BC rfl hD) (fun r1 u t H1 locs ht hvm hw hB hz1 hk1 hS => ?_)
  rw [ht] at hB
  rcases hw with ⟨rfl, hq, rfl⟩ | ⟨rfl, hq1, hq2, rfl⟩
  · obtain ⟨hP, hD⟩ := x_join (wX G x0 x1 (nI xn) f ++ BA) (wM G m0 t0 t1 t2 t3 h0 h1 h2 h3 h4 h5 sl la (nI tn) ts ta tb key (nI n) nu st de su mk) BC (wM G m0 t0 t1 t2 t3 h0 h1 h2 h3 h4 h5 sl la (nI tn) ts ta tb key (nI n) nu st de su mk) rfl hP hD hk1 hB rfl
    generalize H1 = H at hP hS ⊢
    have hP : va_P G.1 vwCl ((wX G x0 x1 (nI xn) f ++ BA) ++ wM G m0 t0 t1 t2 t3 h0 h1 h2 h3 h4 h5 sl la (nI tn) ts ta tb key (nI n) nu st de su mk ++ BC) H := hP
    have hD : va_D A ((wX G x0 x1 (nI xn) f ++ BA) ++ wM G m0 t0 t1 t2 t3 h0 h1 h2 h3 h4 h5 sl la (nI tn) ts ta tb key (nI n) nu st de su mk ++ BC) := hD
    refine lv_if_eq (tgt := 29) hx hb dX3_pulses_22 (by decide) (fun c22 => ?_) (fun c22 => absurd c22 (by decide))
    refine lv_iconst (v := 0) hx hb dX3_pulses_29 (by decide) ?_
    exact W.zret (v := 0) hx hb hr (zb (Or.inl rfl)) (fun t ht hW => ⟨⟨0, (wX G x0 x1 (nI xn) f ++ BA) ++ wM G m0 t0 t1 t2 t3 h0 h1 h2 h3 h4 h5 sl la (nI tn) ts ta tb key (nI n) nu st de su mk ++ BC, rfl, Or.inl ⟨rfl, hq, rfl⟩, by show va_P _ _ _ t.heap; rw [ht]; exact hP⟩, hS.F ht⟩) hS.2.2 dX3_pulses_30
  obtain ⟨hP, hD⟩ := x_join (wX G x0 x1 (nI xn) f ++ BA) (wM G m0 t0 t1 t2 t3 h0 h1 h2 h3 h4 h5 sl la (nI tn) ts ta tb key (nI n) nu st de su mk) BC (wM G m0 t0 t1 t2 t3 h0 h1 h2 h3 h4 h5 sl second (nI tn) ts ta tb key (nI (n + 1)) (vp_updL nu n number) (vp_updL st n second) (upd de n degrees) (vp_updL su n (f_due key (n + 1) (vp_updL nu n number) (vp_updL st n second) (upd de n degrees) su (nI n))) (upd mk n (if sl = 0 then 1 else 0))) rfl hP hD hk1 hB rfl
  generalize H1 = H at hP hS ⊢
  have hP : va_P G.1 vwCl ((wX G x0 x1 (nI xn) f ++ BA) ++ wM G m0 t0 t1 t2 t3 h0 h1 h2 h3 h4 h5 sl second (nI tn) ts ta tb key (nI (n + 1)) (vp_updL nu n number) (vp_updL st n second) (upd de n degrees) (vp_updL su n (f_due key (n + 1) (vp_updL nu n number) (vp_updL st n second) (upd de n degrees) su (nI n))) (upd mk n (if sl = 0 then 1 else 0)) ++ BC) H := hP
  have hD : va_D A ((wX G x0 x1 (nI xn) f ++ BA) ++ wM G m0 t0 t1 t2 t3 h0 h1 h2 h3 h4 h5 sl second (nI tn) ts ta tb key (nI (n + 1)) (vp_updL nu n number) (vp_updL st n second) (upd de n degrees) (vp_updL su n (f_due key (n + 1) (vp_updL nu n number) (vp_updL st n second) (upd de n degrees) su (nI n))) (upd mk n (if sl = 0 then 1 else 0)) ++ BC) := hD
  refine lv_if_eq (tgt := 29) hx hb dX3_pulses_22 (by decide) (fun c22 => absurd c22 (by decide)) (fun c22 => ?_)
  refine lv_iconst (v := 1) hx hb dX3_pulses_25 (by decide) ?_
  refine lv_goto (tgt := 30) hx hb dX3_pulses_26 (by decide) ?_
  exact W.zret (v := 1) hx hb hr (zb (Or.inr rfl)) (fun t ht hW => ⟨⟨1, (wX G x0 x1 (nI xn) f ++ BA) ++ wM G m0 t0 t1 t2 t3 h0 h1 h2 h3 h4 h5 sl second (nI tn) ts ta tb key (nI (n + 1)) (vp_updL nu n number) (vp_updL st n second) (upd de n degrees) (vp_updL su n (f_due key (n + 1) (vp_updL nu n number) (vp_updL st n second) (upd de n degrees) su (nI n))) (upd mk n (if sl = 0 then 1 else 0)) ++ BC, rfl, Or.inr ⟨rfl, hq1, hq2, rfl⟩, by show va_P _ _ _ t.heap; rw [ht]; exact hP⟩, hS.F ht⟩) hS.2.2 dX3_pulses_30

set_option maxHeartbeats 4000000 in
set_option maxRecDepth 100000 in
/-- X3_reset -/
theorem ct_X3_reset (l : Launch) (G : Gx) (x0 x1 : Nat) (xn : Nat) (f : Nat → Option Nat) (BA BC : va_W) (j : Nat) (m0 t0 t1 t2 t3 h0 h1 h2 h3 h4 h5 : Nat) (sl : Int32) (la : Int64) (tn : Nat) (ts : Nat → Int32) (ta tb : Nat → Int64) (key : Int64) (n : Nat) (nu st : Nat → Int64) (de : Nat → Int32) (su : Nat → Int64) (mk : Nat → Int32) (number : Int64) (hxn : xn ≤ 8) (hj : j < xn) (hf : f j = some m0) (hc : n ≤ 200) (ht : tn ≤ 16) (hsl : sl = 0 ∨ sl = 1) : Met l yX3_reset wsX3_reset ({ frames := 4, cells := 0, slots := 0, locals := 99 }) (WrP G ((wX G x0 x1 (nI xn) f ++ BA) ++ wM G m0 t0 t1 t2 t3 h0 h1 h2 h3 h4 h5 sl la (nI tn) ts ta tb key (nI n) nu st de su mk ++ BC) [.ref x0, .int (nI j), .long number]) (va_Qi (fun r (u : va_W) => (r = 0 ∧ (f_within number 0 1000000000000 = 0 ∨ n = 200) ∧ u = (wX G x0 x1 (nI xn) f ++ BA) ++ wM G m0 t0 t1 t2 t3 h0 h1 h2 h3 h4 h5 sl la (nI tn) ts ta tb key (nI n) nu st de su mk ++ BC) ∨ (r = 1 ∧ ¬ f_within number 0 1000000000000 = 0 ∧ n < 200 ∧ u = (wX G x0 x1 (nI xn) f ++ BA) ++ wM G m0 t0 t1 t2 t3 h0 h1 h2 h3 h4 h5 sl la (nI tn) ts ta tb key (nI (n + 1)) (vp_updL nu n number) (vp_updL st n (-1)) (upd de n 0) (vp_updL su n (f_due key (n + 1) (vp_updL nu n number) (vp_updL st n (-1)) (upd de n 0) su (nI n))) (upd mk n (if sl = 0 then 1 else 0)) ++ BC)) (fun u t => va_P G.1 vwCl u t.heap) (adr ((wX G x0 x1 (nI xn) f ++ BA) ++ wM G m0 t0 t1 t2 t3 h0 h1 h2 h3 h4 h5 sl la (nI tn) ts ta tb key (nI n) nu st de su mk ++ BC))) 0 0 (adr ((wX G x0 x1 (nI xn) f ++ BA) ++ wM G m0 t0 t1 t2 t3 h0 h1 h2 h3 h4 h5 sl la (nI tn) ts ta tb key (nI n) nu st de su mk ++ BC)) := by
  refine Met.ofW (cc := cX3_reset) (maxL := 5) (ret := (some .boolean)) (by decide) rfl ?_
  intro p e s m args below meth c s₁ B hml hv
  obtain ⟨rfl, hP, hE, hD0⟩ := hv
  have hx := B.exec
  have hb := B.bytes
  have hr := B.returns
  have hts := atoms_spec (ws := wsX3_reset) B.pre
  have hown : s.vm.findClass RX3 = some m.cls := findClass_of_methodNamed B.named
  have hlocks := B.notSynchronized
  have hD : va_D (adr ((wX G x0 x1 (nI xn) f ++ BA) ++ wM G m0 t0 t1 t2 t3 h0 h1 h2 h3 h4 h5 sl la (nI tn) ts ta tb key (nI n) nu st de su mk ++ BC)) ((wX G x0 x1 (nI xn) f ++ BA) ++ wM G m0 t0 t1 t2 t3 h0 h1 h2 h3 h4 h5 sl la (nI tn) ts ta tb key (nI n) nu st de su mk ++ BC) := ⟨hD0.1, fun k q hk => ⟨k, q.2, hk⟩⟩
  generalize adr ((wX G x0 x1 (nI xn) f ++ BA) ++ wM G m0 t0 t1 t2 t3 h0 h1 h2 h3 h4 h5 sl la (nI tn) ts ta tb key (nI n) nu st de su mk ++ BC) = A at hD ⊢
  have hS : va_S A s.heap s.heap [] := va_S.rf
  have hl := lv_entry ([.ref x0, .int (nI j), .long number]) (n := 5) (Nat.le_of_ble_eq_true rfl)
  rw [lg_entry_eq]
  generalize (lg_sl ([.ref x0, .int (nI j), .long number]) ++ List.replicate (5 - (lg_sl ([.ref x0, .int (nI j), .long number])).length) Slot.unset).toArray = ls at hl ⊢
  replace hl : lv_has ls 5 [(0, .ref x0), (1, .int (nI j)), (2, .long number)] := hl
  refine lv_aload_n hx hb dX3_reset_0 rfl (lv_at hl 0 rfl) ?_
  refine lv_iload_n hx hb dX3_reset_1 rfl (lv_at hl 1 rfl) ?_
  refine x_rq (va_runV (As := [.int (nI j)]) (rest := []) ⟨hx, hb, hml, hown, hts⟩ (ct_X3_find l G x0 x1 xn f (nI j) hxn) (cwV 1 hts gX3_reset_X3_find rfl rfl rfl (by decide +kernel) ⟨Nat.le_of_ble_eq_true rfl, Nat.le_of_ble_eq_true rfl⟩) (RdP.preV 0 4 rfl rfl (x_mid [] (wX G x0 x1 (nI xn) f) (BA ++ wM G m0 t0 t1 t2 t3 h0 h1 h2 h3 h4 h5 sl la (nI tn) ts ta tb key (nI n) nu st de su mk ++ BC) rfl hP) hE) rfl rfl hl.1 rfl (lv_room (Nat.le_of_ble_eq_true rfl)) dX3_reset_2 ⟨Nat.zero_le _, Nat.zero_le _⟩) (fun rq erq => ?_)
  rw [f_find_in hj hxn, hf] at erq
  subst erq
  refine W.eq (g2 := F0 m 5 ls [.ref m0]) rfl ?_
  refine lv_astore (lv' := [(4, .ref m0), (0, .ref x0), (1, .int (nI j)), (2, .long number)]) hx hb dX3_reset_5 hl (by decide) rfl (fun ls hl => ?_)
  refine lv_aload hx hb dX3_reset_7 (lv_at hl 0 rfl) ?_
  refine lv_ifnull hx hb dX3_reset_9 ?_
  refine lv_aload hx hb dX3_reset_12 (lv_at hl 0 rfl) ?_
  refine lv_lload_n hx hb dX3_reset_14 rfl (lv_at hl 3 rfl) ?_
  refine va_calli (va_runV (As := [.long number]) (rest := []) ⟨hx, hb, hml, hown, hts⟩ (ct_X0_addReset l G m0 t0 t1 t2 t3 h0 h1 h2 h3 h4 h5 sl la tn ts ta tb key n nu st de su mk number hc ht hsl) (cwV 1 hts gX3_reset_X0_addReset rfl rfl rfl (by decide +kernel) ⟨Nat.le_of_ble_eq_true rfl, Nat.le_of_ble_eq_true rfl⟩) (WrP.preV 0 1 rfl rfl (x_mid (wX G x0 x1 (nI xn) f ++ BA) (wM G m0 t0 t1 t2 t3 h0 h1 h2 h3 h4 h5 sl la (nI tn) ts ta tb key (nI n) nu st de su mk) BC rfl hP) hE (x_midD (wX G x0 x1 (nI xn) f ++ BA) (wM G m0 t0 t1 t2 t3 h0 h1 h2 h3 h4 h5 sl la (nI tn) ts ta tb key (nI n) nu st de su mk) BC rfl hD)) rfl rfl hl.1 rfl (lv_room (Nat.le_of_ble_eq_true rfl)) dX3_reset_15 ⟨Nat.zero_le _, Nat.zero_le _⟩) hS (fun q _ h => (x_adr (wX G x0 x1 (nI xn) f ++ BA) (wM G m0 t0 t1 t2 t3 h0 h1 h2 h3 h4 h5 sl la (nI tn) ts ta tb key (nI n) nu st de su mk) BC rfl hD) q h) (x_adr (wX G x0 x1 (nI xn) f ++ BA) (wM G m0 t0 t1 t2 t3 h0 h1 h2 h3 h4 h5 sl la (nI tn) ts ta tb key (nI n) nu st de su mk) BC rfl hD) (fun r1 u t H1 locs ht hvm hw hB hz1 hk1 hS => ?_)
  rw [ht] at hB
  rcases hw with ⟨rfl, hq, rfl⟩ | ⟨rfl, hq1, hq2, rfl⟩
  · obtain ⟨hP, hD⟩ := x_join (wX G x0 x1 (nI xn) f ++ BA) (wM G m0 t0 t1 t2 t3 h0 h1 h2 h3 h4 h5 sl la (nI tn) ts ta tb key (nI n) nu st de su mk) BC (wM G m0 t0 t1 t2 t3 h0 h1 h2 h3 h4 h5 sl la (nI tn) ts ta tb key (nI n) nu st de su mk) rfl hP hD hk1 hB rfl
    generalize H1 = H at hP hS ⊢
    have hP : va_P G.1 vwCl ((wX G x0 x1 (nI xn) f ++ BA) ++ wM G m0 t0 t1 t2 t3 h0 h1 h2 h3 h4 h5 sl la (nI tn) ts ta tb key (nI n) nu st de su mk ++ BC) H := hP
    have hD : va_D A ((wX G x0 x1 (nI xn) f ++ BA) ++ wM G m0 t0 t1 t2 t3 h0 h1 h2 h3 h4 h5 sl la (nI tn) ts ta tb key (nI n) nu st de su mk ++ BC) := hD
    refine lv_if_eq (tgt := 25) hx hb dX3_reset_18 (by decide) (fun c18 => ?_) (fun c18 => absurd c18 (by decide))
    refine lv_iconst (v := 0) hx hb dX3_reset_25 (by decide) ?_
    exact W.zret (v := 0) hx hb hr (zb (Or.inl rfl)) (fun t ht hW => ⟨⟨0, (wX G x0 x1 (nI xn) f ++ BA) ++ wM G m0 t0 t1 t2 t3 h0 h1 h2 h3 h4 h5 sl la (nI tn) ts ta tb key (nI n) nu st de su mk ++ BC, rfl, Or.inl ⟨rfl, hq, rfl⟩, by show va_P _ _ _ t.heap; rw [ht]; exact hP⟩, hS.F ht⟩) hS.2.2 dX3_reset_26
  obtain ⟨hP, hD⟩ := x_join (wX G x0 x1 (nI xn) f ++ BA) (wM G m0 t0 t1 t2 t3 h0 h1 h2 h3 h4 h5 sl la (nI tn) ts ta tb key (nI n) nu st de su mk) BC (wM G m0 t0 t1 t2 t3 h0 h1 h2 h3 h4 h5 sl la (nI tn) ts ta tb key (nI (n + 1)) (vp_updL nu n number) (vp_updL st n (-1)) (upd de n 0) (vp_updL su n (f_due key (n + 1) (vp_updL nu n number) (vp_updL st n (-1)) (upd de n 0) su (nI n))) (upd mk n (if sl = 0 then 1 else 0))) rfl hP hD hk1 hB rfl
  generalize H1 = H at hP hS ⊢
  have hP : va_P G.1 vwCl ((wX G x0 x1 (nI xn) f ++ BA) ++ wM G m0 t0 t1 t2 t3 h0 h1 h2 h3 h4 h5 sl la (nI tn) ts ta tb key (nI (n + 1)) (vp_updL nu n number) (vp_updL st n (-1)) (upd de n 0) (vp_updL su n (f_due key (n + 1) (vp_updL nu n number) (vp_updL st n (-1)) (upd de n 0) su (nI n))) (upd mk n (if sl = 0 then 1 else 0)) ++ BC) H := hP
  have hD : va_D A ((wX G x0 x1 (nI xn) f ++ BA) ++ wM G m0 t0 t1 t2 t3 h0 h1 h2 h3 h4 h5 sl la (nI tn) ts ta tb key (nI (n + 1)) (vp_updL nu n number) (vp_updL st n (-1)) (upd de n 0) (vp_updL su n (f_due key (n + 1) (vp_updL nu n number) (vp_updL st n (-1)) (upd de n 0) su (nI n))) (upd mk n (if sl = 0 then 1 else 0)) ++ BC) := hD
  refine lv_if_eq (tgt := 25) hx hb dX3_reset_18 (by decide) (fun c18 => absurd c18 (by decide)) (fun c18 => ?_)
  refine lv_iconst (v := 1) hx hb dX3_reset_21 (by decide) ?_
  refine lv_goto (tgt := 26) hx hb dX3_reset_22 (by decide) ?_
  exact W.zret (v := 1) hx hb hr (zb (Or.inr rfl)) (fun t ht hW => ⟨⟨1, (wX G x0 x1 (nI xn) f ++ BA) ++ wM G m0 t0 t1 t2 t3 h0 h1 h2 h3 h4 h5 sl la (nI tn) ts ta tb key (nI (n + 1)) (vp_updL nu n number) (vp_updL st n (-1)) (upd de n 0) (vp_updL su n (f_due key (n + 1) (vp_updL nu n number) (vp_updL st n (-1)) (upd de n 0) su (nI n))) (upd mk n (if sl = 0 then 1 else 0)) ++ BC, rfl, Or.inr ⟨rfl, hq1, hq2, rfl⟩, by show va_P _ _ _ t.heap; rw [ht]; exact hP⟩, hS.F ht⟩) hS.2.2 dX3_reset_26

set_option maxHeartbeats 4000000 in
set_option maxRecDepth 100000 in
/-- X3_seal -/
theorem ct_X3_seal (l : Launch) (G : Gx) (x0 x1 : Nat) (xn : Nat) (f : Nat → Option Nat) (BA BC : va_W) (j : Nat) (m0 t0 t1 t2 t3 h0 h1 h2 h3 h4 h5 : Nat) (sl : Int32) (la : Int64) (tn : Nat) (ts : Nat → Int32) (ta tb : Nat → Int64) (key : Int64) (n : Nat) (nu st : Nat → Int64) (de : Nat → Int32) (su : Nat → Int64) (mk : Nat → Int32) (person set_ : Int32) (hxn : xn ≤ 8) (hj : j < xn) (hf : f j = some m0) (hc : n ≤ 200) (ht : tn ≤ 16) (hsl : sl = 0 ∨ sl = 1) (hset : set_ = 0 ∨ set_ = 1) : Met l yX3_seal wsX3_seal ({ frames := 4, cells := 0, slots := 0, locals := 99 }) (WrP G ((wX G x0 x1 (nI xn) f ++ BA) ++ wM G m0 t0 t1 t2 t3 h0 h1 h2 h3 h4 h5 sl la (nI tn) ts ta tb key (nI n) nu st de su mk ++ BC) [.ref x0, .int (nI j), .int person, .int set_]) (va_Qi (fun r (u : va_W) => (r = 0 ∧ (f_tfit sl person set_ = 0 ∨ n = 200) ∧ u = (wX G x0 x1 (nI xn) f ++ BA) ++ wM G m0 t0 t1 t2 t3 h0 h1 h2 h3 h4 h5 sl la (nI tn) ts ta tb key (nI n) nu st de su mk ++ BC) ∨ (r = 1 ∧ ¬ f_tfit sl person set_ = 0 ∧ n < 200 ∧ u = (wX G x0 x1 (nI xn) f ++ BA) ++ wM G m0 t0 t1 t2 t3 h0 h1 h2 h3 h4 h5 set_ la (nI tn) ts ta tb key (nI (n + 1)) (vp_updL nu n person.toInt64) (vp_updL st n (if set_ = 0 then -2 else -3)) (upd de n 0) (vp_updL su n (f_due key (n + 1) (vp_updL nu n person.toInt64) (vp_updL st n (if set_ = 0 then -2 else -3)) (upd de n 0) su (nI n))) (upd mk n 1) ++ BC)) (fun u t => va_P G.1 vwCl u t.heap) (adr ((wX G x0 x1 (nI xn) f ++ BA) ++ wM G m0 t0 t1 t2 t3 h0 h1 h2 h3 h4 h5 sl la (nI tn) ts ta tb key (nI n) nu st de su mk ++ BC))) 0 0 (adr ((wX G x0 x1 (nI xn) f ++ BA) ++ wM G m0 t0 t1 t2 t3 h0 h1 h2 h3 h4 h5 sl la (nI tn) ts ta tb key (nI n) nu st de su mk ++ BC)) := by
  refine Met.ofW (cc := cX3_seal) (maxL := 5) (ret := (some .boolean)) (by decide) rfl ?_
  intro p e s m args below meth c s₁ B hml hv
  obtain ⟨rfl, hP, hE, hD0⟩ := hv
  have hx := B.exec
  have hb := B.bytes
  have hr := B.returns
  have hts := atoms_spec (ws := wsX3_seal) B.pre
  have hown : s.vm.findClass RX3 = some m.cls := findClass_of_methodNamed B.named
  have hlocks := B.notSynchronized
  have hD : va_D (adr ((wX G x0 x1 (nI xn) f ++ BA) ++ wM G m0 t0 t1 t2 t3 h0 h1 h2 h3 h4 h5 sl la (nI tn) ts ta tb key (nI n) nu st de su mk ++ BC)) ((wX G x0 x1 (nI xn) f ++ BA) ++ wM G m0 t0 t1 t2 t3 h0 h1 h2 h3 h4 h5 sl la (nI tn) ts ta tb key (nI n) nu st de su mk ++ BC) := ⟨hD0.1, fun k q hk => ⟨k, q.2, hk⟩⟩
  generalize adr ((wX G x0 x1 (nI xn) f ++ BA) ++ wM G m0 t0 t1 t2 t3 h0 h1 h2 h3 h4 h5 sl la (nI tn) ts ta tb key (nI n) nu st de su mk ++ BC) = A at hD ⊢
  have hS : va_S A s.heap s.heap [] := va_S.rf
  have hl := lv_entry ([.ref x0, .int (nI j), .int person, .int set_]) (n := 5) (Nat.le_of_ble_eq_true rfl)
  rw [lg_entry_eq]
  generalize (lg_sl ([.ref x0, .int (nI j), .int person, .int set_]) ++ List.replicate (5 - (lg_sl ([.ref x0, .int (nI j), .int person, .int set_])).length) Slot.unset).toArray = ls at hl ⊢
  replace hl : lv_has ls 5 [(0, .ref x0), (1, .int (nI j)), (2, .int person), (3, .int set_)] := hl
  refine lv_aload_n hx hb dX3_seal_0 rfl (lv_at hl 0 rfl) ?_
  refine lv_iload_n hx hb dX3_seal_1 rfl (lv_at hl 1 rfl) ?_
  refine x_rq (va_runV (As := [.int (nI j)]) (rest := []) ⟨hx, hb, hml, hown, hts⟩ (ct_X3_find l G x0 x1 xn f (nI j) hxn) (cwV 1 hts gX3_seal_X3_find rfl rfl rfl (by decide +kernel) ⟨Nat.le_of_ble_eq_true rfl, Nat.le_of_ble_eq_true rfl⟩) (RdP.preV 0 4 rfl rfl (x_mid [] (wX G x0 x1 (nI xn) f) (BA ++ wM G m0 t0 t1 t2 t3 h0 h1 h2 h3 h4 h5 sl la (nI tn) ts ta tb key (nI n) nu st de su mk ++ BC) rfl hP) hE) rfl rfl hl.1 rfl (lv_room (Nat.le_of_ble_eq_true rfl)) dX3_seal_2 ⟨Nat.zero_le _, Nat.zero_le _⟩) (fun rq erq => ?_)
  rw [f_find_in hj hxn, hf] at erq
  subst erq
  refine W.eq (g2 := F0 m 5 ls [.ref m0]) rfl ?_
  refine lv_astore (lv' := [(4, .ref m0), (0, .ref x0), (1, .int (nI j)), (2, .int person), (3, .int set_)]) hx hb dX3_seal_5 hl (by decide) rfl (fun ls hl => ?_)
  refine lv_aload hx hb dX3_seal_7 (lv_at hl 0 rfl) ?_
  refine lv_ifnull hx hb dX3_seal_9 ?_
  refine lv_aload hx hb dX3_seal_12 (lv_at hl 0 rfl) ?_
  refine lv_iload_n hx hb dX3_seal_14 rfl (lv_at hl 3 rfl) ?_
  refine lv_iload_n hx hb dX3_seal_15 rfl (lv_at hl 4 rfl) ?_
  refine va_calli (va_runV (As := [.int person, .int set_]) (rest := []) ⟨hx, hb, hml, hown, hts⟩ (ct_X0_turnSeal l G m0 t0 t1 t2 t3 h0 h1 h2 h3 h4 h5 sl la tn ts ta tb key n nu st de su mk person set_ hc ht hsl hset) (cwV 2 hts gX3_seal_X0_turnSeal rfl rfl rfl (by decide +kernel) ⟨Nat.le_of_ble_eq_true rfl, Nat.le_of_ble_eq_true rfl⟩) (WrP.preV 0 1 rfl rfl (x_mid (wX G x0 x1 (nI xn) f ++ BA) (wM G m0 t0 t1 t2 t3 h0 h1 h2 h3 h4 h5 sl la (nI tn) ts ta tb key (nI n) nu st de su mk) BC rfl hP) hE (x_midD (wX G x0 x1 (nI xn) f ++ BA) (wM G m0 t0 t1 t2 t3 h0 h1 h2 h3 h4 h5 sl la (nI tn) ts ta tb key (nI n) nu st de su mk) BC rfl hD)) rfl rfl hl.1 rfl (lv_room (Nat.le_of_ble_eq_true rfl)) dX3_seal_16 ⟨Nat.zero_le _, Nat.zero_le _⟩) hS (fun q _ h => (x_adr (wX G x0 x1 (nI xn) f ++ BA) (wM G m0 t0 t1 t2 t3 h0 h1 h2 h3 h4 h5 sl la (nI tn) ts ta tb key (nI n) nu st de su mk) BC rfl hD) q h) (x_adr (wX G x0 x1 (nI xn) f ++ BA) (wM G m0 t0 t1 t2 t3 h0 h1 h2 h3 h4 h5 sl la (nI tn) ts ta tb key (nI n) nu st de su mk) BC rfl hD) (fun r1 u t H1 locs ht hvm hw hB hz1 hk1 hS => ?_)
  rw [ht] at hB
  rcases hw with ⟨rfl, hq, rfl⟩ | ⟨rfl, hq1, hq2, rfl⟩
  · obtain ⟨hP, hD⟩ := x_join (wX G x0 x1 (nI xn) f ++ BA) (wM G m0 t0 t1 t2 t3 h0 h1 h2 h3 h4 h5 sl la (nI tn) ts ta tb key (nI n) nu st de su mk) BC (wM G m0 t0 t1 t2 t3 h0 h1 h2 h3 h4 h5 sl la (nI tn) ts ta tb key (nI n) nu st de su mk) rfl hP hD hk1 hB rfl
    generalize H1 = H at hP hS ⊢
    have hP : va_P G.1 vwCl ((wX G x0 x1 (nI xn) f ++ BA) ++ wM G m0 t0 t1 t2 t3 h0 h1 h2 h3 h4 h5 sl la (nI tn) ts ta tb key (nI n) nu st de su mk ++ BC) H := hP
    have hD : va_D A ((wX G x0 x1 (nI xn) f ++ BA) ++ wM G m0 t0 t1 t2 t3 h0 h1 h2 h3 h4 h5 sl la (nI tn) ts ta tb key (nI n) nu st de su mk ++ BC) := hD
    refine lv_if_eq (tgt := 26) hx hb dX3_seal_19 (by decide) (fun c19 => ?_) (fun c19 => absurd c19 (by decide))
    refine lv_iconst (v := 0) hx hb dX3_seal_26 (by decide) ?_
    exact W.zret (v := 0) hx hb hr (zb (Or.inl rfl)) (fun t ht hW => ⟨⟨0, (wX G x0 x1 (nI xn) f ++ BA) ++ wM G m0 t0 t1 t2 t3 h0 h1 h2 h3 h4 h5 sl la (nI tn) ts ta tb key (nI n) nu st de su mk ++ BC, rfl, Or.inl ⟨rfl, hq, rfl⟩, by show va_P _ _ _ t.heap; rw [ht]; exact hP⟩, hS.F ht⟩) hS.2.2 dX3_seal_27
  obtain ⟨hP, hD⟩ := x_join (wX G x0 x1 (nI xn) f ++ BA) (wM G m0 t0 t1 t2 t3 h0 h1 h2 h3 h4 h5 sl la (nI tn) ts ta tb key (nI n) nu st de su mk) BC (wM G m0 t0 t1 t2 t3 h0 h1 h2 h3 h4 h5 set_ la (nI tn) ts ta tb key (nI (n + 1)) (vp_updL nu n person.toInt64) (vp_updL st n (if set_ = 0 then -2 else -3)) (upd de n 0) (vp_updL su n (f_due key (n + 1) (vp_updL nu n person.toInt64) (vp_updL st n (if set_ = 0 then -2 else -3)) (upd de n 0) su (nI n))) (upd mk n 1)) rfl hP hD hk1 hB rfl
  generalize H1 = H at hP hS ⊢
  have hP : va_P G.1 vwCl ((wX G x0 x1 (nI xn) f ++ BA) ++ wM G m0 t0 t1 t2 t3 h0 h1 h2 h3 h4 h5 set_ la (nI tn) ts ta tb key (nI (n + 1)) (vp_updL nu n person.toInt64) (vp_updL st n (if set_ = 0 then -2 else -3)) (upd de n 0) (vp_updL su n (f_due key (n + 1) (vp_updL nu n person.toInt64) (vp_updL st n (if set_ = 0 then -2 else -3)) (upd de n 0) su (nI n))) (upd mk n 1) ++ BC) H := hP
  have hD : va_D A ((wX G x0 x1 (nI xn) f ++ BA) ++ wM G m0 t0 t1 t2 t3 h0 h1 h2 h3 h4 h5 set_ la (nI tn) ts ta tb key (nI (n + 1)) (vp_updL nu n person.toInt64) (vp_updL st n (if set_ = 0 then -2 else -3)) (upd de n 0) (vp_updL su n (f_due key (n + 1) (vp_updL nu n person.toInt64) (vp_updL st n (if set_ = 0 then -2 else -3)) (upd de n 0) su (nI n))) (upd mk n 1) ++ BC) := hD
  refine lv_if_eq (tgt := 26) hx hb dX3_seal_19 (by decide) (fun c19 => absurd c19 (by decide)) (fun c19 => ?_)
  refine lv_iconst (v := 1) hx hb dX3_seal_22 (by decide) ?_
  refine lv_goto (tgt := 27) hx hb dX3_seal_23 (by decide) ?_
  exact W.zret (v := 1) hx hb hr (zb (Or.inr rfl)) (fun t ht hW => ⟨⟨1, (wX G x0 x1 (nI xn) f ++ BA) ++ wM G m0 t0 t1 t2 t3 h0 h1 h2 h3 h4 h5 set_ la (nI tn) ts ta tb key (nI (n + 1)) (vp_updL nu n person.toInt64) (vp_updL st n (if set_ = 0 then -2 else -3)) (upd de n 0) (vp_updL su n (f_due key (n + 1) (vp_updL nu n person.toInt64) (vp_updL st n (if set_ = 0 then -2 else -3)) (upd de n 0) su (nI n))) (upd mk n 1) ++ BC, rfl, Or.inr ⟨rfl, hq1, hq2, rfl⟩, by show va_P _ _ _ t.heap; rw [ht]; exact hP⟩, hS.F ht⟩) hS.2.2 dX3_seal_27

set_option maxHeartbeats 4000000 in
set_option maxRecDepth 100000 in
/-- X3_row -/
theorem ct_X3_row (l : Launch) (G : Gx) (x0 x1 : Nat) (xn : Nat) (f : Nat → Option Nat) (BA BC : va_W) (j : Nat) (m0 t0 t1 t2 t3 h0 h1 h2 h3 h4 h5 : Nat) (sl : Int32) (la : Int64) (tn : Nat) (ts : Nat → Int32) (ta tb : Nat → Int64) (key : Int64) (n : Nat) (nu st : Nat → Int64) (de : Nat → Int32) (su : Nat → Int64) (mk : Nat → Int32) (d : Int32) (a b : Int64) (hxn : xn ≤ 8) (hj : j < xn) (hf : f j = some m0) (hc : n ≤ 200) (ht : tn ≤ 16) : Met l yX3_row wsX3_row ({ frames := 2, cells := 0, slots := 0, locals := 52 }) (WrP G ((wX G x0 x1 (nI xn) f ++ BA) ++ wM G m0 t0 t1 t2 t3 h0 h1 h2 h3 h4 h5 sl la (nI tn) ts ta tb key (nI n) nu st de su mk ++ BC) [.ref x0, .int (nI j), .int d, .long a, .long b]) (va_Qi (fun r (u : va_W) => (f_put tn ts d a b = 0 ∧ r = 0 ∧ u = (wX G x0 x1 (nI xn) f ++ BA) ++ wM G m0 t0 t1 t2 t3 h0 h1 h2 h3 h4 h5 sl la (nI tn) ts ta tb key (nI n) nu st de su mk ++ BC) ∨ (f_put tn ts d a b = 1 ∧ r = 1 ∧ u = (wX G x0 x1 (nI xn) f ++ BA) ++ wM G m0 t0 t1 t2 t3 h0 h1 h2 h3 h4 h5 sl la (f_max (nI tn) (f_place tn ts d + 1)) (upd ts (f_place tn ts d).toNatClampNeg d) (vp_updL ta (f_place tn ts d).toNatClampNeg a) (vp_updL tb (f_place tn ts d).toNatClampNeg b) key (nI n) nu st de su mk ++ BC)) (fun u t => va_P G.1 vwCl u t.heap) (adr ((wX G x0 x1 (nI xn) f ++ BA) ++ wM G m0 t0 t1 t2 t3 h0 h1 h2 h3 h4 h5 sl la (nI tn) ts ta tb key (nI n) nu st de su mk ++ BC))) 0 0 (adr ((wX G x0 x1 (nI xn) f ++ BA) ++ wM G m0 t0 t1 t2 t3 h0 h1 h2 h3 h4 h5 sl la (nI tn) ts ta tb key (nI n) nu st de su mk ++ BC)) := by
  refine Met.ofW (cc := cX3_row) (maxL := 8) (ret := (some .boolean)) (by decide) rfl ?_
  intro p e s m args below meth c s₁ B hml hv
  obtain ⟨rfl, hP, hE, hD0⟩ := hv
  have hx := B.exec
  have hb := B.bytes
  have hr := B.returns
  have hts := atoms_spec (ws := wsX3_row) B.pre
  have hown : s.vm.findClass RX3 = some m.cls := findClass_of_methodNamed B.named
  have hlocks := B.notSynchronized
  have hD : va_D (adr ((wX G x0 x1 (nI xn) f ++ BA) ++ wM G m0 t0 t1 t2 t3 h0 h1 h2 h3 h4 h5 sl la (nI tn) ts ta tb key (nI n) nu st de su mk ++ BC)) ((wX G x0 x1 (nI xn) f ++ BA) ++ wM G m0 t0 t1 t2 t3 h0 h1 h2 h3 h4 h5 sl la (nI tn) ts ta tb key (nI n) nu st de su mk ++ BC) := ⟨hD0.1, fun k q hk => ⟨k, q.2, hk⟩⟩
  generalize adr ((wX G x0 x1 (nI xn) f ++ BA) ++ wM G m0 t0 t1 t2 t3 h0 h1 h2 h3 h4 h5 sl la (nI tn) ts ta tb key (nI n) nu st de su mk ++ BC) = A at hD ⊢
  have hS : va_S A s.heap s.heap [] := va_S.rf
  have hiX0 : ∀ w ∈ wsX00, w ∈ wsX3_row := by decide +kernel
  have hl := lv_entry ([.ref x0, .int (nI j), .int d, .long a, .long b]) (n := 8) (Nat.le_of_ble_eq_true rfl)
  rw [lg_entry_eq]
  generalize (lg_sl ([.ref x0, .int (nI j), .int d, .long a, .long b]) ++ List.replicate (8 - (lg_sl ([.ref x0, .int (nI j), .int d, .long a, .long b])).length) Slot.unset).toArray = ls at hl ⊢
  replace hl : lv_has ls 8 [(0, .ref x0), (1, .int (nI j)), (2, .int d), (3, .long a), (5, .long b)] := hl
  refine lv_aload_n hx hb dX3_row_0 rfl (lv_at hl 0 rfl) ?_
  refine lv_iload_n hx hb dX3_row_1 rfl (lv_at hl 1 rfl) ?_
  refine x_rq (va_runV (As := [.int (nI j)]) (rest := []) ⟨hx, hb, hml, hown, hts⟩ (ct_X3_find l G x0 x1 xn f (nI j) hxn) (cwV 1 hts gX3_row_X3_find rfl rfl rfl (by decide +kernel) ⟨Nat.le_of_ble_eq_true rfl, Nat.le_of_ble_eq_true rfl⟩) (RdP.preV 0 4 rfl rfl (x_mid [] (wX G x0 x1 (nI xn) f) (BA ++ wM G m0 t0 t1 t2 t3 h0 h1 h2 h3 h4 h5 sl la (nI tn) ts ta tb key (nI n) nu st de su mk ++ BC) rfl hP) hE) rfl rfl hl.1 rfl (lv_room (Nat.le_of_ble_eq_true rfl)) dX3_row_2 ⟨Nat.zero_le _, Nat.zero_le _⟩) (fun rq erq => ?_)
  rw [f_find_in hj hxn, hf] at erq
  subst erq
  refine W.eq (g2 := F0 m 5 ls [.ref m0]) rfl ?_
  refine lv_astore (lv' := [(7, .ref m0), (0, .ref x0), (1, .int (nI j)), (2, .int d), (3, .long a), (5, .long b)]) hx hb dX3_row_5 hl (by decide) rfl (fun ls hl => ?_)
  refine lv_aload hx hb dX3_row_7 (lv_at hl 0 rfl) ?_
  refine lv_ifnull hx hb dX3_row_9 ?_
  refine lv_aload hx hb dX3_row_12 (lv_at hl 0 rfl) ?_
  refine va_getN (D := G.1) (ci := 1) (v := .ref t0) (C := RX0) (T := TX0) (N := 4) hx hb hts hiX0 hown hE.1 (x_mid (wX G x0 x1 (nI xn) f ++ BA) (wM G m0 t0 t1 t2 t3 h0 h1 h2 h3 h4 h5 sl la (nI tn) ts ta tb key (nI n) nu st de su mk) BC rfl hP) 0 rfl rfl 0 (by decide) (va_Nw.use (A := _) rfl hE.2.1.1.2.2.2.1) (fun _ h9 => h9) rfl dX3_row_14 ?_
  refine lv_iload_n hx hb dX3_row_17 rfl (lv_at hl 3 rfl) ?_
  refine lv_lload_n hx hb dX3_row_18 rfl (lv_at hl 4 rfl) ?_
  refine lv_lload hx hb dX3_row_19 (lv_at hl 5 rfl) ?_
  refine va_calli (va_runV (As := [.int d, .long a, .long b]) (rest := []) ⟨hx, hb, hml, hown, hts⟩ (ct_X2_put l G t0 t1 t2 t3 tn ts ta tb d a b ht) (cwV 3 hts gX3_row_X2_put rfl rfl rfl (by decide +kernel) ⟨Nat.le_of_ble_eq_true rfl, Nat.le_of_ble_eq_true rfl⟩) (WrP.preV 0 3 rfl rfl (x_mid ([(m0, .inr (1, [.ref t0, .ref h0, .int sl, .long la]))]) (wT G t0 t1 t2 t3 (nI tn) ts ta tb) (wR G h0 h1 h2 h3 h4 h5 key (nI n) nu st de su mk) rfl (x_mid (wX G x0 x1 (nI xn) f ++ BA) (wM G m0 t0 t1 t2 t3 h0 h1 h2 h3 h4 h5 sl la (nI tn) ts ta tb key (nI n) nu st de su mk) BC rfl hP)) hE (x_midD ([(m0, .inr (1, [.ref t0, .ref h0, .int sl, .long la]))]) (wT G t0 t1 t2 t3 (nI tn) ts ta tb) (wR G h0 h1 h2 h3 h4 h5 key (nI n) nu st de su mk) rfl (x_midD (wX G x0 x1 (nI xn) f ++ BA) (wM G m0 t0 t1 t2 t3 h0 h1 h2 h3 h4 h5 sl la (nI tn) ts ta tb key (nI n) nu st de su mk) BC rfl hD))) rfl rfl hl.1 rfl (lv_room (Nat.le_of_ble_eq_true rfl)) dX3_row_21 ⟨Nat.zero_le _, Nat.zero_le _⟩) hS (fun q _ h => (x_adr ([(m0, .inr (1, [.ref t0, .ref h0, .int sl, .long la]))]) (wT G t0 t1 t2 t3 (nI tn) ts ta tb) (wR G h0 h1 h2 h3 h4 h5 key (nI n) nu st de su mk) rfl (x_midD (wX G x0 x1 (nI xn) f ++ BA) (wM G m0 t0 t1 t2 t3 h0 h1 h2 h3 h4 h5 sl la (nI tn) ts ta tb key (nI n) nu st de su mk) BC rfl hD)) q h) (x_adr ([(m0, .inr (1, [.ref t0, .ref h0, .int sl, .long la]))]) (wT G t0 t1 t2 t3 (nI tn) ts ta tb) (wR G h0 h1 h2 h3 h4 h5 key (nI n) nu st de su mk) rfl (x_midD (wX G x0 x1 (nI xn) f ++ BA) (wM G m0 t0 t1 t2 t3 h0 h1 h2 h3 h4 h5 sl la (nI tn) ts ta tb key (nI n) nu st de su mk) BC rfl hD)) (fun r1 u t H1 locs ht hvm hw hB hz1 hk1 hS => ?_)
  rw [ht] at hB
  rcases hw with ⟨hq, rfl, rfl⟩ | ⟨hq, rfl, rfl⟩
  · obtain ⟨hP, hD⟩ := x_join2 (wX G x0 x1 (nI xn) f ++ BA) (wM G m0 t0 t1 t2 t3 h0 h1 h2 h3 h4 h5 sl la (nI tn) ts ta tb key (nI n) nu st de su mk) BC ([(m0, .inr (1, [.ref t0, .ref h0, .int sl, .long la]))]) (wT G t0 t1 t2 t3 (nI tn) ts ta tb) (wR G h0 h1 h2 h3 h4 h5 key (nI n) nu st de su mk) (wT G t0 t1 t2 t3 (nI tn) ts ta tb) rfl rfl hP hD hk1 hB rfl
    generalize H1 = H at hP hS ⊢
    have hP : va_P G.1 vwCl ((wX G x0 x1 (nI xn) f ++ BA) ++ wM G m0 t0 t1 t2 t3 h0 h1 h2 h3 h4 h5 sl la (nI tn) ts ta tb key (nI n) nu st de su mk ++ BC) H := hP
    have hD : va_D A ((wX G x0 x1 (nI xn) f ++ BA) ++ wM G m0 t0 t1 t2 t3 h0 h1 h2 h3 h4 h5 sl la (nI tn) ts ta tb key (nI n) nu st de su mk ++ BC) := hD
    refine lv_if_eq (tgt := 31) hx hb dX3_row_24 (by decide) (fun c24 => ?_) (fun c24 => absurd c24 (by decide))
    refine lv_iconst (v := 0) hx hb dX3_row_31 (by decide) ?_
    exact W.zret (v := 0) hx hb hr (zb (Or.inl rfl)) (fun t ht hW => ⟨⟨0, (wX G x0 x1 (nI xn) f ++ BA) ++ wM G m0 t0 t1 t2 t3 h0 h1 h2 h3 h4 h5 sl la (nI tn) ts ta tb key (nI n) nu st de su mk ++ BC, rfl, Or.inl ⟨hq, rfl, rfl⟩, by show va_P _ _ _ t.heap; rw [ht]; exact hP⟩, hS.F ht⟩) hS.2.2 dX3_row_32
  obtain ⟨hP, hD⟩ := x_join2 (wX G x0 x1 (nI xn) f ++ BA) (wM G m0 t0 t1 t2 t3 h0 h1 h2 h3 h4 h5 sl la (nI tn) ts ta tb key (nI n) nu st de su mk) BC ([(m0, .inr (1, [.ref t0, .ref h0, .int sl, .long la]))]) (wT G t0 t1 t2 t3 (nI tn) ts ta tb) (wR G h0 h1 h2 h3 h4 h5 key (nI n) nu st de su mk) (wT G t0 t1 t2 t3 (f_max (nI tn) (f_place tn ts d + 1)) (upd ts (f_place tn ts d).toNatClampNeg d) (vp_updL ta (f_place tn ts d).toNatClampNeg a) (vp_updL tb (f_place tn ts d).toNatClampNeg b)) rfl rfl hP hD hk1 hB rfl
  generalize H1 = H at hP hS ⊢
  have hP : va_P G.1 vwCl ((wX G x0 x1 (nI xn) f ++ BA) ++ wM G m0 t0 t1 t2 t3 h0 h1 h2 h3 h4 h5 sl la (f_max (nI tn) (f_place tn ts d + 1)) (upd ts (f_place tn ts d).toNatClampNeg d) (vp_updL ta (f_place tn ts d).toNatClampNeg a) (vp_updL tb (f_place tn ts d).toNatClampNeg b) key (nI n) nu st de su mk ++ BC) H := hP
  have hD : va_D A ((wX G x0 x1 (nI xn) f ++ BA) ++ wM G m0 t0 t1 t2 t3 h0 h1 h2 h3 h4 h5 sl la (f_max (nI tn) (f_place tn ts d + 1)) (upd ts (f_place tn ts d).toNatClampNeg d) (vp_updL ta (f_place tn ts d).toNatClampNeg a) (vp_updL tb (f_place tn ts d).toNatClampNeg b) key (nI n) nu st de su mk ++ BC) := hD
  refine lv_if_eq (tgt := 31) hx hb dX3_row_24 (by decide) (fun c24 => absurd c24 (by decide)) (fun c24 => ?_)
  refine lv_iconst (v := 1) hx hb dX3_row_27 (by decide) ?_
  refine lv_goto (tgt := 32) hx hb dX3_row_28 (by decide) ?_
  exact W.zret (v := 1) hx hb hr (zb (Or.inr rfl)) (fun t ht hW => ⟨⟨1, (wX G x0 x1 (nI xn) f ++ BA) ++ wM G m0 t0 t1 t2 t3 h0 h1 h2 h3 h4 h5 sl la (f_max (nI tn) (f_place tn ts d + 1)) (upd ts (f_place tn ts d).toNatClampNeg d) (vp_updL ta (f_place tn ts d).toNatClampNeg a) (vp_updL tb (f_place tn ts d).toNatClampNeg b) key (nI n) nu st de su mk ++ BC, rfl, Or.inr ⟨hq, rfl, rfl⟩, by show va_P _ _ _ t.heap; rw [ht]; exact hP⟩, hS.F ht⟩) hS.2.2 dX3_row_32

set_option maxHeartbeats 4000000 in
set_option maxRecDepth 100000 in
/-- X3_poke -/
theorem ct_X3_poke (l : Launch) (G : Gx) (x0 x1 : Nat) (xn : Nat) (f : Nat → Option Nat) (BA BC : va_W) (j : Nat) (m0 t0 t1 t2 t3 h0 h1 h2 h3 h4 h5 : Nat) (sl : Int32) (la : Int64) (tn : Nat) (ts : Nat → Int32) (ta tb : Nat → Int64) (key : Int64) (n : Nat) (nu st : Nat → Int64) (de : Nat → Int32) (su : Nat → Int64) (mk : Nat → Int32) (row : Int32) (b : Int64) (hxn : xn ≤ 8) (hj : j < xn) (hf : f j = some m0) (hc : n ≤ 200) (ht : tn ≤ 16) : Met l yX3_poke wsX3_poke ({ frames := 4, cells := 0, slots := 0, locals := 88 }) (WrP G ((wX G x0 x1 (nI xn) f ++ BA) ++ wM G m0 t0 t1 t2 t3 h0 h1 h2 h3 h4 h5 sl la (nI tn) ts ta tb key (nI n) nu st de su mk ++ BC) [.ref x0, .int (nI j), .int row, .long b]) (va_Qi (fun r (u : va_W) => (f_poke n nu st row b = 0 ∧ r = 0 ∧ u = (wX G x0 x1 (nI xn) f ++ BA) ++ wM G m0 t0 t1 t2 t3 h0 h1 h2 h3 h4 h5 sl la (nI tn) ts ta tb key (nI n) nu st de su mk ++ BC) ∨ (¬ f_poke n nu st row b = 0 ∧ r = 1 ∧ u = (wX G x0 x1 (nI xn) f ++ BA) ++ wM G m0 t0 t1 t2 t3 h0 h1 h2 h3 h4 h5 sl la (nI tn) ts ta tb key (nI n) (vp_updL nu row.toNatClampNeg (f_pul n nu st row + b)) st de su mk ++ BC)) (fun u t => va_P G.1 vwCl u t.heap) (adr ((wX G x0 x1 (nI xn) f ++ BA) ++ wM G m0 t0 t1 t2 t3 h0 h1 h2 h3 h4 h5 sl la (nI tn) ts ta tb key (nI n) nu st de su mk ++ BC))) 0 0 (adr ((wX G x0 x1 (nI xn) f ++ BA) ++ wM G m0 t0 t1 t2 t3 h0 h1 h2 h3 h4 h5 sl la (nI tn) ts ta tb key (nI n) nu st de su mk ++ BC)) := by
  refine Met.ofW (cc := cX3_poke) (maxL := 6) (ret := (some .boolean)) (by decide) rfl ?_
  intro p e s m args below meth c s₁ B hml hv
  obtain ⟨rfl, hP, hE, hD0⟩ := hv
  have hx := B.exec
  have hb := B.bytes
  have hr := B.returns
  have hts := atoms_spec (ws := wsX3_poke) B.pre
  have hown : s.vm.findClass RX3 = some m.cls := findClass_of_methodNamed B.named
  have hlocks := B.notSynchronized
  have hD : va_D (adr ((wX G x0 x1 (nI xn) f ++ BA) ++ wM G m0 t0 t1 t2 t3 h0 h1 h2 h3 h4 h5 sl la (nI tn) ts ta tb key (nI n) nu st de su mk ++ BC)) ((wX G x0 x1 (nI xn) f ++ BA) ++ wM G m0 t0 t1 t2 t3 h0 h1 h2 h3 h4 h5 sl la (nI tn) ts ta tb key (nI n) nu st de su mk ++ BC) := ⟨hD0.1, fun k q hk => ⟨k, q.2, hk⟩⟩
  generalize adr ((wX G x0 x1 (nI xn) f ++ BA) ++ wM G m0 t0 t1 t2 t3 h0 h1 h2 h3 h4 h5 sl la (nI tn) ts ta tb key (nI n) nu st de su mk ++ BC) = A at hD ⊢
  have hS : va_S A s.heap s.heap [] := va_S.rf
  have hiX0 : ∀ w ∈ wsX00, w ∈ wsX3_poke := by decide +kernel
  have hl := lv_entry ([.ref x0, .int (nI j), .int row, .long b]) (n := 6) (Nat.le_of_ble_eq_true rfl)
  rw [lg_entry_eq]
  generalize (lg_sl ([.ref x0, .int (nI j), .int row, .long b]) ++ List.replicate (6 - (lg_sl ([.ref x0, .int (nI j), .int row, .long b])).length) Slot.unset).toArray = ls at hl ⊢
  replace hl : lv_has ls 6 [(0, .ref x0), (1, .int (nI j)), (2, .int row), (3, .long b)] := hl
  refine lv_aload_n hx hb dX3_poke_0 rfl (lv_at hl 0 rfl) ?_
  refine lv_iload_n hx hb dX3_poke_1 rfl (lv_at hl 1 rfl) ?_
  refine x_rq (va_runV (As := [.int (nI j)]) (rest := []) ⟨hx, hb, hml, hown, hts⟩ (ct_X3_find l G x0 x1 xn f (nI j) hxn) (cwV 1 hts gX3_poke_X3_find rfl rfl rfl (by decide +kernel) ⟨Nat.le_of_ble_eq_true rfl, Nat.le_of_ble_eq_true rfl⟩) (RdP.preV 0 4 rfl rfl (x_mid [] (wX G x0 x1 (nI xn) f) (BA ++ wM G m0 t0 t1 t2 t3 h0 h1 h2 h3 h4 h5 sl la (nI tn) ts ta tb key (nI n) nu st de su mk ++ BC) rfl hP) hE) rfl rfl hl.1 rfl (lv_room (Nat.le_of_ble_eq_true rfl)) dX3_poke_2 ⟨Nat.zero_le _, Nat.zero_le _⟩) (fun rq erq => ?_)
  rw [f_find_in hj hxn, hf] at erq
  subst erq
  refine W.eq (g2 := F0 m 5 ls [.ref m0]) rfl ?_
  refine lv_astore (lv' := [(5, .ref m0), (0, .ref x0), (1, .int (nI j)), (2, .int row), (3, .long b)]) hx hb dX3_poke_5 hl (by decide) rfl (fun ls hl => ?_)
  refine lv_aload hx hb dX3_poke_7 (lv_at hl 0 rfl) ?_
  refine lv_ifnull hx hb dX3_poke_9 ?_
  refine lv_aload hx hb dX3_poke_12 (lv_at hl 0 rfl) ?_
  refine va_getN (D := G.1) (ci := 1) (v := .ref h0) (C := RX0) (T := TX0) (N := 4) hx hb hts hiX0 hown hE.1 (x_mid (wX G x0 x1 (nI xn) f ++ BA) (wM G m0 t0 t1 t2 t3 h0 h1 h2 h3 h4 h5 sl la (nI tn) ts ta tb key (nI n) nu st de su mk) BC rfl hP) 0 rfl rfl 1 (by decide) (va_Nw.use (A := _) rfl hE.2.1.1.2.2.2.2) (fun _ h9 => h9) rfl dX3_poke_14 ?_
  refine lv_iload_n hx hb dX3_poke_17 rfl (lv_at hl 3 rfl) ?_
  refine lv_lload_n hx hb dX3_poke_18 rfl (lv_at hl 4 rfl) ?_
  refine va_calli (va_runV (As := [.int row, .long b]) (rest := []) ⟨hx, hb, hml, hown, hts⟩ (ct_X1_addPulses l G h0 h1 h2 h3 h4 h5 key n nu st de su mk row b hc) (cwV 2 hts gX3_poke_X1_addPulses rfl rfl rfl (by decide +kernel) ⟨Nat.le_of_ble_eq_true rfl, Nat.le_of_ble_eq_true rfl⟩) (WrP.preV 0 2 rfl rfl (x_mid ([(m0, .inr (1, [.ref t0, .ref h0, .int sl, .long la])), (t0, .inr (3, [.ref t1, .ref t2, .ref t3, .int (nI tn)])), (t1, .inl (kI G, 16, .inl ts)), (t2, .inl (kJ G, 16, .inr (.inl ta))), (t3, .inl (kJ G, 16, .inr (.inl tb)))]) (wR G h0 h1 h2 h3 h4 h5 key (nI n) nu st de su mk) ([]) rfl (x_mid (wX G x0 x1 (nI xn) f ++ BA) (wM G m0 t0 t1 t2 t3 h0 h1 h2 h3 h4 h5 sl la (nI tn) ts ta tb key (nI n) nu st de su mk) BC rfl hP)) hE (x_midD ([(m0, .inr (1, [.ref t0, .ref h0, .int sl, .long la])), (t0, .inr (3, [.ref t1, .ref t2, .ref t3, .int (nI tn)])), (t1, .inl (kI G, 16, .inl ts)), (t2, .inl (kJ G, 16, .inr (.inl ta))), (t3, .inl (kJ G, 16, .inr (.inl tb)))]) (wR G h0 h1 h2 h3 h4 h5 key (nI n) nu st de su mk) ([]) rfl (x_midD (wX G x0 x1 (nI xn) f ++ BA) (wM G m0 t0 t1 t2 t3 h0 h1 h2 h3 h4 h5 sl la (nI tn) ts ta tb key (nI n) nu st de su mk) BC rfl hD))) rfl rfl hl.1 rfl (lv_room (Nat.le_of_ble_eq_true rfl)) dX3_poke_19 ⟨Nat.zero_le _, Nat.zero_le _⟩) hS (fun q _ h => (x_adr ([(m0, .inr (1, [.ref t0, .ref h0, .int sl, .long la])), (t0, .inr (3, [.ref t1, .ref t2, .ref t3, .int (nI tn)])), (t1, .inl (kI G, 16, .inl ts)), (t2, .inl (kJ G, 16, .inr (.inl ta))), (t3, .inl (kJ G, 16, .inr (.inl tb)))]) (wR G h0 h1 h2 h3 h4 h5 key (nI n) nu st de su mk) ([]) rfl (x_midD (wX G x0 x1 (nI xn) f ++ BA) (wM G m0 t0 t1 t2 t3 h0 h1 h2 h3 h4 h5 sl la (nI tn) ts ta tb key (nI n) nu st de su mk) BC rfl hD)) q h) (x_adr ([(m0, .inr (1, [.ref t0, .ref h0, .int sl, .long la])), (t0, .inr (3, [.ref t1, .ref t2, .ref t3, .int (nI tn)])), (t1, .inl (kI G, 16, .inl ts)), (t2, .inl (kJ G, 16, .inr (.inl ta))), (t3, .inl (kJ G, 16, .inr (.inl tb)))]) (wR G h0 h1 h2 h3 h4 h5 key (nI n) nu st de su mk) ([]) rfl (x_midD (wX G x0 x1 (nI xn) f ++ BA) (wM G m0 t0 t1 t2 t3 h0 h1 h2 h3 h4 h5 sl la (nI tn) ts ta tb key (nI n) nu st de su mk) BC rfl hD)) (fun r1 u t H1 locs ht hvm hw hB hz1 hk1 hS => ?_)
  rw [ht] at hB
  rcases hw with ⟨hq, rfl, rfl⟩ | ⟨hq, rfl, rfl⟩
  · obtain ⟨hP, hD⟩ := x_join2 (wX G x0 x1 (nI xn) f ++ BA) (wM G m0 t0 t1 t2 t3 h0 h1 h2 h3 h4 h5 sl la (nI tn) ts ta tb key (nI n) nu st de su mk) BC ([(m0, .inr (1, [.ref t0, .ref h0, .int sl, .long la])), (t0, .inr (3, [.ref t1, .ref t2, .ref t3, .int (nI tn)])), (t1, .inl (kI G, 16, .inl ts)), (t2, .inl (kJ G, 16, .inr (.inl ta))), (t3, .inl (kJ G, 16, .inr (.inl tb)))]) (wR G h0 h1 h2 h3 h4 h5 key (nI n) nu st de su mk) ([]) (wR G h0 h1 h2 h3 h4 h5 key (nI n) nu st de su mk) rfl rfl hP hD hk1 hB rfl
    generalize H1 = H at hP hS ⊢
    have hP : va_P G.1 vwCl ((wX G x0 x1 (nI xn) f ++ BA) ++ wM G m0 t0 t1 t2 t3 h0 h1 h2 h3 h4 h5 sl la (nI tn) ts ta tb key (nI n) nu st de su mk ++ BC) H := hP
    have hD : va_D A ((wX G x0 x1 (nI xn) f ++ BA) ++ wM G m0 t0 t1 t2 t3 h0 h1 h2 h3 h4 h5 sl la (nI tn) ts ta tb key (nI n) nu st de su mk ++ BC) := hD
    refine lv_if_eq (tgt := 29) hx hb dX3_poke_22 (by decide) (fun c22 => ?_) (fun c22 => absurd c22 (by decide))
    refine lv_iconst (v := 0) hx hb dX3_poke_29 (by decide) ?_
    exact W.zret (v := 0) hx hb hr (zb (Or.inl rfl)) (fun t ht hW => ⟨⟨0, (wX G x0 x1 (nI xn) f ++ BA) ++ wM G m0 t0 t1 t2 t3 h0 h1 h2 h3 h4 h5 sl la (nI tn) ts ta tb key (nI n) nu st de su mk ++ BC, rfl, Or.inl ⟨hq, rfl, rfl⟩, by show va_P _ _ _ t.heap; rw [ht]; exact hP⟩, hS.F ht⟩) hS.2.2 dX3_poke_30
  obtain ⟨hP, hD⟩ := x_join2 (wX G x0 x1 (nI xn) f ++ BA) (wM G m0 t0 t1 t2 t3 h0 h1 h2 h3 h4 h5 sl la (nI tn) ts ta tb key (nI n) nu st de su mk) BC ([(m0, .inr (1, [.ref t0, .ref h0, .int sl, .long la])), (t0, .inr (3, [.ref t1, .ref t2, .ref t3, .int (nI tn)])), (t1, .inl (kI G, 16, .inl ts)), (t2, .inl (kJ G, 16, .inr (.inl ta))), (t3, .inl (kJ G, 16, .inr (.inl tb)))]) (wR G h0 h1 h2 h3 h4 h5 key (nI n) nu st de su mk) ([]) (wR G h0 h1 h2 h3 h4 h5 key (nI n) (vp_updL nu row.toNatClampNeg (f_pul n nu st row + b)) st de su mk) rfl rfl hP hD hk1 hB rfl
  generalize H1 = H at hP hS ⊢
  have hP : va_P G.1 vwCl ((wX G x0 x1 (nI xn) f ++ BA) ++ wM G m0 t0 t1 t2 t3 h0 h1 h2 h3 h4 h5 sl la (nI tn) ts ta tb key (nI n) (vp_updL nu row.toNatClampNeg (f_pul n nu st row + b)) st de su mk ++ BC) H := hP
  have hD : va_D A ((wX G x0 x1 (nI xn) f ++ BA) ++ wM G m0 t0 t1 t2 t3 h0 h1 h2 h3 h4 h5 sl la (nI tn) ts ta tb key (nI n) (vp_updL nu row.toNatClampNeg (f_pul n nu st row + b)) st de su mk ++ BC) := hD
  refine lv_if_eq (tgt := 29) hx hb dX3_poke_22 (by decide) (fun c22 => absurd c22 (by decide)) (fun c22 => ?_)
  refine lv_iconst (v := 1) hx hb dX3_poke_25 (by decide) ?_
  refine lv_goto (tgt := 30) hx hb dX3_poke_26 (by decide) ?_
  exact W.zret (v := 1) hx hb hr (zb (Or.inr rfl)) (fun t ht hW => ⟨⟨1, (wX G x0 x1 (nI xn) f ++ BA) ++ wM G m0 t0 t1 t2 t3 h0 h1 h2 h3 h4 h5 sl la (nI tn) ts ta tb key (nI n) (vp_updL nu row.toNatClampNeg (f_pul n nu st row + b)) st de su mk ++ BC, rfl, Or.inr ⟨hq, rfl, rfl⟩, by show va_P _ _ _ t.heap; rw [ht]; exact hP⟩, hS.F ht⟩) hS.2.2 dX3_poke_30
end
section
theorem x_atl (a b : va_W) {c : Nat × va_E} (h : b[0]? = some c) {k : Nat} (hk : k = a.length) : (a ++ b)[k]? = some c := by
  subst hk
  rw [List.getElem?_append_right (Nat.le_refl _), Nat.sub_self]
  exact h
theorem lt8 {n : Nat} (hc : n ≤ 8) (h : nI n < 8) : n < 8 := by
  rcases Nat.lt_or_ge n 8 with q | q
  · exact q
  · have e : n = 8 := by omega
    subst e
    exact absurd h (by decide)
theorem ge8 {n : Nat} (hc : n ≤ 8) (h : ¬ nI n < 8) : n = 8 := by
  rcases Nat.lt_or_ge n 8 with q | q
  · exact absurd (show nI n < nI 8 from nI_lt q (by decide)) h
  · omega
end
section
set_option maxHeartbeats 4000000 in
set_option maxRecDepth 100000 in
/-- meter -/
theorem ct_X3_meter (l : Launch) (G : Gx) (sz : Nat) (x0 x1 : Nat) (xn : Nat) (f : Nat → Option Nat) (BB : va_W) (key : Int64) (hxn : xn ≤ 8) : Met l yX3_meter wsX3_meter ({ frames := 3, cells := 11, slots := 1063, locals := 56 }) (NwP G sz (wX G x0 x1 (nI xn) f ++ BB) [.ref x0, .long key]) (va_Qi (fun r (u : va_W) => (xn = 8 ∧ r = -2 ∧ u = wX G x0 x1 (nI xn) f ++ BB) ∨ (xn < 8 ∧ r = nI xn ∧ ∃ m0 t0 t1 t2 t3 h0 h1 h2 h3 h4 h5 : Nat, u = (wX G x0 x1 (nI (xn + 1)) (va_up f xn (some m0)) ++ BB) ++ wM G m0 t0 t1 t2 t3 h0 h1 h2 h3 h4 h5 1 0 0 (fun _ => 0) (fun _ => 0) (fun _ => 0) key 0 (fun _ => 0) (fun _ => 0) (fun _ => 0) (fun _ => 0) (fun _ => 0))) (fun u t => va_P G.1 vwCl u t.heap ∧ va_D (va_A (wX G x0 x1 (nI xn) f ++ BB) sz) u) (va_A (wX G x0 x1 (nI xn) f ++ BB) sz)) 11 1063 (va_A (wX G x0 x1 (nI xn) f ++ BB) sz) := by
  refine Met.ofW (cc := cX3_meter) (maxL := 4) (ret := (some .int)) (by decide) rfl ?_
  intro p e s m args below meth c s₁ B hml hv
  obtain ⟨rfl, hsz, hP, hE, hD0⟩ := hv
  have hx := B.exec
  have hb := B.bytes
  have hr := B.returns
  have hts := atoms_spec (ws := wsX3_meter) B.pre
  have hown : s.vm.findClass RX3 = some m.cls := findClass_of_methodNamed B.named
  have hlocks := B.notSynchronized
  have hin : meth.name = "meter" := (name_of_methodNamed B.named B.method).1
  subst hsz
  have hD := hD0.self (sz := s.heap.size)
  generalize hAe : va_A (wX G x0 x1 (nI xn) f ++ BB) s.heap.size = A at hD ⊢
  have hA : ∀ q : Nat, s.heap.size ≤ q → A q := fun q h => by rw [← hAe]; exact Or.inr h
  have hS : va_S A s.heap s.heap [] := va_S.rf
  have hiX0 : ∀ w ∈ wsX00, w ∈ wsX3_meter := by decide +kernel
  have hiX3 : ∀ w ∈ wsX30, w ∈ wsX3_meter := by decide +kernel
  have hl := lv_entry ([.ref x0, .long key]) (n := 4) (Nat.le_of_ble_eq_true rfl)
  rw [lg_entry_eq]
  generalize (lg_sl ([.ref x0, .long key]) ++ List.replicate (4 - (lg_sl ([.ref x0, .long key])).length) Slot.unset).toArray = ls at hl ⊢
  replace hl : lv_has ls 4 [(0, .ref x0), (1, .long key)] := hl
  refine lv_aload_n hx hb dX3_meter_0 rfl (lv_at hl 0 rfl) ?_
  refine va_get (D := G.1) (ci := 4) (v := .int (nI xn)) (C := RX3) (T := TX3) (N := 2) hx hb hts hiX3 hown hE.1 hP 0 rfl rfl 1 (by decide) (hts (.fieldLink RX3 15 "MeterSeals" "meterCount" "I") (by decide +kernel)) (fun _ h9 => h9) rfl dX3_meter_1 ?_
  refine lv_bipush (v := 8) hx hb dX3_meter_4 (by decide) ?_
  refine lv_icmp_lt (tgt := 12) hx hb dX3_meter_6 (by decide) (fun c6 => ?_) (fun c6 => ?_)
  · have hlt : xn < 8 := lt8 hxn c6
    refine lv_aload_n hx hb dX3_meter_12 rfl (lv_at hl 0 rfl) ?_
    refine va_get (D := G.1) (ci := 4) (v := .int (nI xn)) (C := RX3) (T := TX3) (N := 2) hx hb hts hiX3 hown hE.1 hP 0 rfl rfl 1 (by decide) (hts (.fieldLink RX3 15 "MeterSeals" "meterCount" "I") (by decide +kernel)) (fun _ h9 => h9) rfl dX3_meter_13 ?_
    refine lv_istore_n (lv' := [(3, .int (nI xn)), (0, .ref x0), (1, .long key)]) hx hb dX3_meter_16 rfl hl (by decide) rfl (fun ls hl => ?_)
    refine lv_aload_n hx hb dX3_meter_17 rfl (lv_at hl 1 rfl) ?_
    refine va_get (D := G.1) (ci := 4) (v := .ref x1) (C := RX3) (T := TX3) (N := 2) hx hb hts hiX3 hown hE.1 hP 0 rfl rfl 0 (by decide) (hts (.fieldLink RX3 11 "MeterSeals" "meters" "[LMeterSeals$Meter;") (by decide +kernel)) (fun _ h9 => h9) rfl dX3_meter_18 ?_
    refine lv_iload_n hx hb dX3_meter_21 rfl (lv_at hl 0 rfl) ?_
    refine va_new (D := G.1) (ci := 1) (fs := [.null, .null, .int 0, .long 0]) (C := RX0) (T := TX0) (N := 4) hx hb hts hiX0 tyX0 tyX0_ok hown (hts (.classLink RX3 9 RX0) (by decide +kernel)) (hts (.instantiable RX0 4) (by decide +kernel)) (hts (.initialized RX0) (by decide +kernel)) hE.1 hP hD hS hA rfl (fun j hj => by rcases (show j = 0 ∨ j = 1 ∨ j = 2 ∨ j = 3 by omega) with rfl | rfl | rfl | rfl <;> rfl) (Nat.le_of_ble_eq_true rfl) (Nat.le_of_ble_eq_true rfl) dX3_meter_22 (fun q1 H hP hD hS => ?_)
    have hP : va_P G.1 vwCl ((wX G x0 x1 (nI xn) f ++ BB) ++ [(q1, .inr (1, [.null, .null, .int 0, .long 0]))]) H := hP
    have hD : va_D A ((wX G x0 x1 (nI xn) f ++ BB) ++ [(q1, .inr (1, [.null, .null, .int 0, .long 0]))]) := hD
    refine lv_dup hx hb dX3_meter_25 rfl ?_
    refine lv_lload_n hx hb dX3_meter_26 rfl (lv_at hl 2 rfl) ?_
    have hFc := x_freeN (wX G x0 x1 (nI xn) f ++ BB) [(q1, .inr (1, [.null, .null, .int 0, .long 0]))] hD hS hA
    refine va_callv (va_runI (As := [.long key]) (rest := [.ref q1, .int (nI xn), .ref x1]) ⟨hx, hb, hml, hown, hts⟩ (ct_X0_init l G H.size q1 key) (cwI 1 hts gX3_meter_X0_init rfl rfl rfl (hts (.initialized RX0) (by decide +kernel)) (hts (.methodLink RX3 19 yX0_init) (by decide +kernel)) (hts (.instanceMethod yX0_init) (by decide +kernel)) rfl (by decide +kernel) ⟨Nat.le_of_ble_eq_true rfl, Nat.le_of_ble_eq_true rfl⟩) (NwP.preS (x_last (wX G x0 x1 (nI xn) f ++ BB) [(q1, .inr (1, [.null, .null, .int 0, .long 0]))] hP) hE (x_lastD (wX G x0 x1 (nI xn) f ++ BB) [(q1, .inr (1, [.null, .null, .int 0, .long 0]))] hD)) rfl rfl hl.1 rfl (lv_room (Nat.le_of_ble_eq_true rfl)) dX3_meter_27 ⟨Nat.le_of_ble_eq_true rfl, Nat.le_of_ble_eq_true rfl⟩) hS (fun q _ h => hFc q h) hFc (fun u t H1 locs ht hvm hw hB hz1 hk1 hS => ?_)
    obtain ⟨a2, a3, a4, a5, a6, a7, a8, a9, a10, a11, rfl⟩ := hw
    obtain ⟨hP1, hD1⟩ := hB
    rw [ht] at hP1
    obtain ⟨hP, hD⟩ := x_joinN (wX G x0 x1 (nI xn) f ++ BB) [(q1, .inr (1, [.null, .null, .int 0, .long 0]))] ([(q1, .inr (1, [.ref a2, .ref a6, .int 1, .long 0])), (a2, .inr (3, [.ref a3, .ref a4, .ref a5, .int 0])), (a3, .inl (kI G, 16, .inl (fun _ => 0))), (a4, .inl (kJ G, 16, .inr (.inl (fun _ => 0)))), (a5, .inl (kJ G, 16, .inr (.inl (fun _ => 0)))), (a6, .inr (2, [.long key, .ref a7, .ref a8, .ref a9, .ref a10, .ref a11, .int 0])), (a7, .inl (kJ G, 200, .inr (.inl (fun _ => 0)))), (a8, .inl (kJ G, 200, .inr (.inl (fun _ => 0)))), (a9, .inl (kI G, 200, .inl (fun _ => 0))), (a10, .inl (kJ G, 200, .inr (.inl (fun _ => 0)))), (a11, .inl (kZ G, 200, .inl (fun _ => 0)))]) hP hD hk1 hFc hP1 hD1
    generalize H1 = H at hP hS ⊢
    have hP : va_P G.1 vwCl ((wX G x0 x1 (nI xn) f ++ BB) ++ wM G q1 a2 a3 a4 a5 a6 a7 a8 a9 a10 a11 1 0 0 (fun _ => 0) (fun _ => 0) (fun _ => 0) key 0 (fun _ => 0) (fun _ => 0) (fun _ => 0) (fun _ => 0) (fun _ => 0)) H := hP
    have hD : va_D A ((wX G x0 x1 (nI xn) f ++ BB) ++ wM G q1 a2 a3 a4 a5 a6 a7 a8 a9 a10 a11 1 0 0 (fun _ => 0) (fun _ => 0) (fun _ => 0) key 0 (fun _ => 0) (fun _ => 0) (fun _ => 0) (fun _ => 0) (fun _ => 0)) := hD
    refine va_astq hx hb hE.1 hP hD hS 1 3 (wX G x0 x1 (nI xn) f ++ BB).length 1 rfl rfl (x_atl _ _ rfl rfl) rfl (vp_in_nI hlt (by decide)) dX3_meter_30 (fun H locs hP hD hS => ?_)
    rw [nI_clamp (show xn < 2 ^ 31 by omega)] at hP hD
    have hP : va_P G.1 vwCl ((wX G x0 x1 (nI xn) (va_up f xn (some q1)) ++ BB) ++ wM G q1 a2 a3 a4 a5 a6 a7 a8 a9 a10 a11 1 0 0 (fun _ => 0) (fun _ => 0) (fun _ => 0) key 0 (fun _ => 0) (fun _ => 0) (fun _ => 0) (fun _ => 0) (fun _ => 0)) H := hP
    have hD : va_D A ((wX G x0 x1 (nI xn) (va_up f xn (some q1)) ++ BB) ++ wM G q1 a2 a3 a4 a5 a6 a7 a8 a9 a10 a11 1 0 0 (fun _ => 0) (fun _ => 0) (fun _ => 0) key 0 (fun _ => 0) (fun _ => 0) (fun _ => 0) (fun _ => 0) (fun _ => 0)) := hD
    refine lv_aload_n hx hb dX3_meter_31 rfl (lv_at hl 1 rfl) ?_
    refine lv_dup hx hb dX3_meter_32 rfl ?_
    refine va_get (D := G.1) (ci := 4) (v := .int (nI xn)) (C := RX3) (T := TX3) (N := 2) hx hb hts hiX3 hown hE.1 hP 0 rfl rfl 1 (by decide) (hts (.fieldLink RX3 15 "MeterSeals" "meterCount" "I") (by decide +kernel)) (fun _ h9 => h9) rfl dX3_meter_33 ?_
    refine lv_iconst (v := 1) hx hb dX3_meter_36 (by decide) ?_
    refine lv_iadd hx hb dX3_meter_37 ?_
    rw [nI_1]
    refine va_put (D := G.1) (ci := 4) (v := .int (nI (xn + 1))) (ty := .int) (C := RX3) (T := TX3) (N := 2) hx hb hts hiX3 tyX3 tyX3_ok nmX3 hown hE.1 hP hD hS 0 rfl rfl 1 (by decide) (hts (.fieldLink RX3 15 "MeterSeals" "meterCount" "I") (by decide +kernel)) (fun _ h9 => h9) rfl (by decide +kernel) rfl rfl (Nat.le_of_ble_eq_true rfl) dX3_meter_38 (fun H locs hP hD hS => ?_)
    have hP : va_P G.1 vwCl ((wX G x0 x1 (nI (xn + 1)) (va_up f xn (some q1)) ++ BB) ++ wM G q1 a2 a3 a4 a5 a6 a7 a8 a9 a10 a11 1 0 0 (fun _ => 0) (fun _ => 0) (fun _ => 0) key 0 (fun _ => 0) (fun _ => 0) (fun _ => 0) (fun _ => 0) (fun _ => 0)) H := hP
    have hD : va_D A ((wX G x0 x1 (nI (xn + 1)) (va_up f xn (some q1)) ++ BB) ++ wM G q1 a2 a3 a4 a5 a6 a7 a8 a9 a10 a11 1 0 0 (fun _ => 0) (fun _ => 0) (fun _ => 0) key 0 (fun _ => 0) (fun _ => 0) (fun _ => 0) (fun _ => 0) (fun _ => 0)) := hD
    refine lv_iload_n hx hb dX3_meter_41 rfl (lv_at hl 0 rfl) ?_
    refine W.widen (k := 11) (n := 1063) (Nat.le_of_ble_eq_true rfl) (Nat.le_of_ble_eq_true rfl) ?_
    exact W.iret (v := (nI xn)) hx hb hr (fun t ht hW => ⟨⟨(nI xn), (wX G x0 x1 (nI (xn + 1)) (va_up f xn (some q1)) ++ BB) ++ wM G q1 a2 a3 a4 a5 a6 a7 a8 a9 a10 a11 1 0 0 (fun _ => 0) (fun _ => 0) (fun _ => 0) key 0 (fun _ => 0) (fun _ => 0) (fun _ => 0) (fun _ => 0) (fun _ => 0), rfl, Or.inr ⟨hlt, rfl, _, _, _, _, _, _, _, _, _, _, _, rfl⟩, by show va_P _ _ _ t.heap; rw [ht]; exact hP, hD⟩, hS.F ht⟩) hS.2.2 dX3_meter_42
  refine lv_bipush (v := (-2)) hx hb dX3_meter_9 (by decide) ?_
  refine W.widen (k := 11) (n := 1063) (Nat.le_of_ble_eq_true rfl) (Nat.le_of_ble_eq_true rfl) ?_
  exact W.iret (v := (-2)) hx hb hr (fun t ht hW => ⟨⟨(-2), wX G x0 x1 (nI xn) f ++ BB, rfl, Or.inl ⟨ge8 hxn c6, rfl, rfl⟩, by show va_P _ _ _ t.heap; rw [ht]; exact hP, hD⟩, hS.F ht⟩) hS.2.2 dX3_meter_11
end
