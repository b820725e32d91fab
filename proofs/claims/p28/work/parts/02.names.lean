/-! ===== BEGIN words of one list among another's, by their places ===== -/
theorem goodIn_r {big : List Cond} (ws : List Cond) (ps : List Nat) (hp : ws = ps.filterMap (fun i => big[i]?)) (h : ws.all goodWord = true) : GoodIn big ws := by
  intro w hw
  have h1 := List.all_eq_true.mp h w hw
  rw [hp] at hw
  obtain ⟨i, -, hi⟩ := List.mem_filterMap.mp hw
  have hm : w ∈ big := by first | exact List.mem_of_getElem? hi | exact List.getElem?_mem hi
  exact ⟨hm, good_of_word h1⟩
theorem goodIn_app {big a b : List Cond} (ha : GoodIn big a) (hb : GoodIn big b) : GoodIn big (a ++ b) := fun w h => (List.mem_append.mp h).elim (ha w) (hb w)
theorem goodIn_ca {big a b : List Cond} {c : Cond} (ha : GoodIn big (c :: a)) (hb : GoodIn big b) : GoodIn big (c :: (a ++ b)) := fun w h => (List.mem_cons.mp h).elim (fun e => ha w (List.mem_cons.mpr (Or.inl e))) (fun h => (List.mem_append.mp h).elim (fun h => ha w (List.mem_cons.mpr (Or.inr h))) (hb w))
theorem goodIn_sub {big ws : List Cond} (hm : ∀ w ∈ ws, w ∈ big) (h : ws.all goodWord = true) : GoodIn big ws := fun w hw => ⟨hm w hw, good_of_word (List.all_eq_true.mp h w hw)⟩
/-! ===== END ===== -/

/-! ===== BEGIN printed: names, fields, word lists, decode rows ===== -/
def RX0 : String := "VernierSchool$History"
def TX0 : u_T := fun k => match k with
  | 0 => ("VernierSchool$History", "states", "[LVernierSchool$State;", true)
  | 1 => ("VernierSchool$History", "oldest", "I", false)
  | _ => ("VernierSchool$History", "size", "I", false)
def tyX0 : Nat → FieldType := fun k => match k with
  | 0 => .array (.object "VernierSchool$State")
  | 1 => .int
  | _ => .int
abbrev wsX00 : List Cond := u_ws RX0 TX0 3
theorem nmX0 : ∀ a, a < 3 → ∀ b, b < 3 → a ≠ b → (TX0 a).2.1 ≠ (TX0 b).2.1 := by decide +kernel
theorem tyX0_ok : ∀ k, k < 3 → parseFieldDescriptor (TX0 k).2.2.1 = some (tyX0 k) := by decide +kernel
abbrev cX0_init : ByteArray := prog_2_method_1_code
def yX0_init : MethodName := ⟨RX0, "<init>", "()V"⟩
abbrev cX0_size : ByteArray := prog_2_method_2_code
def yX0_size : MethodName := ⟨RX0, "size", "()I"⟩
abbrev cX0_push : ByteArray := prog_2_method_3_code
def yX0_push : MethodName := ⟨RX0, "push", "(LVernierSchool$State;)V"⟩
abbrev cX0_pop : ByteArray := prog_2_method_4_code
def yX0_pop : MethodName := ⟨RX0, "pop", "(LVernierSchool$State;)V"⟩
abbrev cX0_stateAt : ByteArray := prog_2_method_5_code
def yX0_stateAt : MethodName := ⟨RX0, "stateAt", "(I)LVernierSchool$State;"⟩
def RX1 : String := "VernierSchool$PaperText"
def TX1 : u_T := fun k => match k with
  | 0 => ("VernierSchool$PaperText", "characters", "[C", true)
  | 1 => ("VernierSchool$PaperText", "drafts", "LVernierSchool$Table;", true)
  | 2 => ("VernierSchool$PaperText", "length", "I", false)
  | _ => ("VernierSchool$PaperText", "at", "I", false)
def tyX1 : Nat → FieldType := fun k => match k with
  | 0 => .array .char
  | 1 => .object "VernierSchool$Table"
  | 2 => .int
  | _ => .int
abbrev wsX10 : List Cond := u_ws RX1 TX1 4
theorem nmX1 : ∀ a, a < 4 → ∀ b, b < 4 → a ≠ b → (TX1 a).2.1 ≠ (TX1 b).2.1 := by decide +kernel
theorem tyX1_ok : ∀ k, k < 4 → parseFieldDescriptor (TX1 k).2.2.1 = some (tyX1 k) := by decide +kernel
abbrev cX1_init : ByteArray := prog_3_method_1_code
def yX1_init : MethodName := ⟨RX1, "<init>", "()V"⟩
abbrev cX1_length : ByteArray := prog_3_method_2_code
def yX1_length : MethodName := ⟨RX1, "length", "()I"⟩
abbrev cX1_drafts : ByteArray := prog_3_method_6_code
def yX1_drafts : MethodName := ⟨RX1, "drafts", "()LVernierSchool$Table;"⟩
abbrev cX1_readDrafts : ByteArray := prog_3_method_7_code
def yX1_readDrafts : MethodName := ⟨RX1, "readDrafts", "()I"⟩
abbrev cX1_readDraft : ByteArray := prog_3_method_8_code
def yX1_readDraft : MethodName := ⟨RX1, "readDraft", "()Z"⟩
abbrev cX1_readNumber : ByteArray := prog_3_method_9_code
def yX1_readNumber : MethodName := ⟨RX1, "readNumber", "(III)Z"⟩
abbrev cX1_readSign : ByteArray := prog_3_method_10_code
def yX1_readSign : MethodName := ⟨RX1, "readSign", "(C)Z"⟩
abbrev cX1_isDigitHere : ByteArray := prog_3_method_11_code
def yX1_isDigitHere : MethodName := ⟨RX1, "isDigitHere", "()Z"⟩
abbrev cX1_characterHere : ByteArray := prog_3_method_12_code
def yX1_characterHere : MethodName := ⟨RX1, "characterHere", "()C"⟩
def RX2 : String := "VernierSchool$State"
def TX2 : u_T := fun k => match k with
  | 0 => ("VernierSchool$State", "instruments", "LVernierSchool$Table;", true)
  | 1 => ("VernierSchool$State", "pupils", "LVernierSchool$Table;", true)
  | _ => ("VernierSchool$State", "papers", "LVernierSchool$Table;", true)
def tyX2 : Nat → FieldType := fun k => match k with
  | 0 => .object "VernierSchool$Table"
  | 1 => .object "VernierSchool$Table"
  | _ => .object "VernierSchool$Table"
abbrev wsX20 : List Cond := u_ws RX2 TX2 3
theorem nmX2 : ∀ a, a < 3 → ∀ b, b < 3 → a ≠ b → (TX2 a).2.1 ≠ (TX2 b).2.1 := by decide +kernel
theorem tyX2_ok : ∀ k, k < 3 → parseFieldDescriptor (TX2 k).2.2.1 = some (tyX2 k) := by decide +kernel
abbrev cX2_init : ByteArray := prog_4_method_1_code
def yX2_init : MethodName := ⟨RX2, "<init>", "()V"⟩
abbrev cX2_copyFrom : ByteArray := prog_4_method_2_code
def yX2_copyFrom : MethodName := ⟨RX2, "copyFrom", "(LVernierSchool$State;)V"⟩
abbrev cX2_newInstrument : ByteArray := prog_4_method_3_code
def yX2_newInstrument : MethodName := ⟨RX2, "newInstrument", "(IIIZ)I"⟩
abbrev cX2_mainDivision : ByteArray := prog_4_method_4_code
def yX2_mainDivision : MethodName := ⟨RX2, "mainDivision", "(I)I"⟩
abbrev cX2_isNoSetting : ByteArray := prog_4_method_5_code
def yX2_isNoSetting : MethodName := ⟨RX2, "isNoSetting", "(II)Z"⟩
abbrev cX2_tellAll : ByteArray := prog_4_method_6_code
def yX2_tellAll : MethodName := ⟨RX2, "tellAll", "(I)I"⟩
abbrev cX2_answerOf : ByteArray := prog_4_method_7_code
def yX2_answerOf : MethodName := ⟨RX2, "answerOf", "(IIIII)I"⟩
abbrev cX2_answerNow : ByteArray := prog_4_method_8_code
def yX2_answerNow : MethodName := ⟨RX2, "answerNow", "(III)I"⟩
abbrev cX2_markOf : ByteArray := prog_4_method_9_code
def yX2_markOf : MethodName := ⟨RX2, "markOf", "(III)I"⟩
abbrev cX2_markIfWritten : ByteArray := prog_4_method_10_code
def yX2_markIfWritten : MethodName := ⟨RX2, "markIfWritten", "(IIII)I"⟩
abbrev cX2_sumIfWritten : ByteArray := prog_4_method_11_code
def yX2_sumIfWritten : MethodName := ⟨RX2, "sumIfWritten", "(IIII)I"⟩
abbrev cX2_newPaper : ByteArray := prog_4_method_12_code
def yX2_newPaper : MethodName := ⟨RX2, "newPaper", "(III)I"⟩
abbrev cX2_errorOf : ByteArray := prog_4_method_13_code
def yX2_errorOf : MethodName := ⟨RX2, "errorOf", "(LVernierSchool$Table;)I"⟩
abbrev cX2_hopeOf : ByteArray := prog_4_method_14_code
def yX2_hopeOf : MethodName := ⟨RX2, "hopeOf", "(II)I"⟩
abbrev cX2_waits : ByteArray := prog_4_method_15_code
def yX2_waits : MethodName := ⟨RX2, "waits", "(I)Z"⟩
abbrev cX2_isSooner : ByteArray := prog_4_method_16_code
def yX2_isSooner : MethodName := ⟨RX2, "isSooner", "(II)Z"⟩
abbrev cX2_appealsAhead : ByteArray := prog_4_method_17_code
def yX2_appealsAhead : MethodName := ⟨RX2, "appealsAhead", "(I)I"⟩
abbrev cX2_waitingAt : ByteArray := prog_4_method_18_code
def yX2_waitingAt : MethodName := ⟨RX2, "waitingAt", "(I)I"⟩
abbrev cX2_isJustified : ByteArray := prog_4_method_19_code
def yX2_isJustified : MethodName := ⟨RX2, "isJustified", "(I)Z"⟩
abbrev cX2_settle : ByteArray := prog_4_method_20_code
def yX2_settle : MethodName := ⟨RX2, "settle", "(IZ)V"⟩
abbrev cX2_isBetter : ByteArray := prog_4_method_21_code
def yX2_isBetter : MethodName := ⟨RX2, "isBetter", "(II)Z"⟩
abbrev cX2_rankOf : ByteArray := prog_4_method_22_code
def yX2_rankOf : MethodName := ⟨RX2, "rankOf", "(I)I"⟩
abbrev cX2_lowestMark : ByteArray := prog_4_method_23_code
def yX2_lowestMark : MethodName := ⟨RX2, "lowestMark", "(I)I"⟩
def RX3 : String := "VernierSchool$Table"
def TX3 : u_T := fun k => match k with
  | 0 => ("VernierSchool$Table", "limit", "I", true)
  | 1 => ("VernierSchool$Table", "columns", "I", true)
  | 2 => ("VernierSchool$Table", "cells", "[I", true)
  | _ => ("VernierSchool$Table", "rows", "I", false)
def tyX3 : Nat → FieldType := fun k => match k with
  | 0 => .int
  | 1 => .int
  | 2 => .array .int
  | _ => .int
abbrev wsX30 : List Cond := u_ws RX3 TX3 4
theorem nmX3 : ∀ a, a < 4 → ∀ b, b < 4 → a ≠ b → (TX3 a).2.1 ≠ (TX3 b).2.1 := by decide +kernel
theorem tyX3_ok : ∀ k, k < 4 → parseFieldDescriptor (TX3 k).2.2.1 = some (tyX3 k) := by decide +kernel
abbrev cX3_init : ByteArray := prog_5_method_1_code
def yX3_init : MethodName := ⟨RX3, "<init>", "(II)V"⟩
abbrev cX3_size : ByteArray := prog_5_method_2_code
def yX3_size : MethodName := ⟨RX3, "size", "()I"⟩
abbrev cX3_isFull : ByteArray := prog_5_method_3_code
def yX3_isFull : MethodName := ⟨RX3, "isFull", "()Z"⟩
abbrev cX3_hasRoomFor : ByteArray := prog_5_method_4_code
def yX3_hasRoomFor : MethodName := ⟨RX3, "hasRoomFor", "(I)Z"⟩
abbrev cX3_lacks : ByteArray := prog_5_method_5_code
def yX3_lacks : MethodName := ⟨RX3, "lacks", "(I)Z"⟩
abbrev cX3_cell : ByteArray := prog_5_method_6_code
def yX3_cell : MethodName := ⟨RX3, "cell", "(II)I"⟩
abbrev cX3_put : ByteArray := prog_5_method_7_code
def yX3_put : MethodName := ⟨RX3, "put", "(III)V"⟩
abbrev cX3_increase : ByteArray := prog_5_method_8_code
def yX3_increase : MethodName := ⟨RX3, "increase", "(III)V"⟩
abbrev cX3_newRow : ByteArray := prog_5_method_9_code
def yX3_newRow : MethodName := ⟨RX3, "newRow", "()I"⟩
abbrev cX3_clear : ByteArray := prog_5_method_10_code
def yX3_clear : MethodName := ⟨RX3, "clear", "()V"⟩
abbrev cX3_rowsWith : ByteArray := prog_5_method_11_code
def yX3_rowsWith : MethodName := ⟨RX3, "rowsWith", "(II)I"⟩
abbrev cX3_sumOf : ByteArray := prog_5_method_12_code
def yX3_sumOf : MethodName := ⟨RX3, "sumOf", "(I)I"⟩
abbrev cX3_copyFrom : ByteArray := prog_5_method_13_code
def yX3_copyFrom : MethodName := ⟨RX3, "copyFrom", "(LVernierSchool$Table;)V"⟩
def RX4 : String := "VernierSchool"
def TX4 : u_T := fun k => match k with
  | 0 => ("VernierSchool", "now", "LVernierSchool$State;", true)
  | 1 => ("VernierSchool", "snapshot", "LVernierSchool$State;", true)
  | 2 => ("VernierSchool", "history", "LVernierSchool$History;", true)
  | 3 => ("VernierSchool", "text", "LVernierSchool$PaperText;", true)
  | _ => ("VernierSchool", "hasSnapshot", "Z", false)
def tyX4 : Nat → FieldType := fun k => match k with
  | 0 => .object "VernierSchool$State"
  | 1 => .object "VernierSchool$State"
  | 2 => .object "VernierSchool$History"
  | 3 => .object "VernierSchool$PaperText"
  | _ => .boolean
abbrev wsX40 : List Cond := u_ws RX4 TX4 5
theorem nmX4 : ∀ a, a < 5 → ∀ b, b < 5 → a ≠ b → (TX4 a).2.1 ≠ (TX4 b).2.1 := by decide +kernel
theorem tyX4_ok : ∀ k, k < 5 → parseFieldDescriptor (TX4 k).2.2.1 = some (tyX4 k) := by decide +kernel
abbrev cX4_init : ByteArray := prog_1_method_1_code
def yX4_init : MethodName := ⟨RX4, "<init>", "()V"⟩
abbrev cX4_addInstrument : ByteArray := prog_1_method_2_code
def yX4_addInstrument : MethodName := ⟨RX4, "addInstrument", "(IIIZ)I"⟩
abbrev cX4_adjust : ByteArray := prog_1_method_3_code
def yX4_adjust : MethodName := ⟨RX4, "adjust", "(III)I"⟩
abbrev cX4_setTrap : ByteArray := prog_1_method_4_code
def yX4_setTrap : MethodName := ⟨RX4, "setTrap", "(II)I"⟩
abbrev cX4_announce : ByteArray := prog_1_method_5_code
def yX4_announce : MethodName := ⟨RX4, "announce", "(I)I"⟩
abbrev cX4_addPupil : ByteArray := prog_1_method_6_code
def yX4_addPupil : MethodName := ⟨RX4, "addPupil", "(II)I"⟩
abbrev cX4_teach : ByteArray := prog_1_method_7_code
def yX4_teach : MethodName := ⟨RX4, "teach", "(II)I"⟩
abbrev cX4_train : ByteArray := prog_1_method_8_code
def yX4_train : MethodName := ⟨RX4, "train", "(III)I"⟩
abbrev cX4_write : ByteArray := prog_1_method_9_code
def yX4_write : MethodName := ⟨RX4, "write", "(III)I"⟩
abbrev cX4_appeal : ByteArray := prog_1_method_10_code
def yX4_appeal : MethodName := ⟨RX4, "appeal", "(II)I"⟩
abbrev cX4_decide : ByteArray := prog_1_method_11_code
def yX4_decide : MethodName := ⟨RX4, "decide", "()I"⟩
abbrev cX4_readPapers : ByteArray := prog_1_method_14_code
def yX4_readPapers : MethodName := ⟨RX4, "readPapers", "()I"⟩
abbrev cX4_undo : ByteArray := prog_1_method_15_code
def yX4_undo : MethodName := ⟨RX4, "undo", "()I"⟩
abbrev cX4_restore : ByteArray := prog_1_method_17_code
def yX4_restore : MethodName := ⟨RX4, "restore", "()I"⟩
abbrev cX4_instrument : ByteArray := prog_1_method_18_code
def yX4_instrument : MethodName := ⟨RX4, "instrument", "(II)I"⟩
abbrev cX4_pupil : ByteArray := prog_1_method_19_code
def yX4_pupil : MethodName := ⟨RX4, "pupil", "(II)I"⟩
abbrev cX4_paper : ByteArray := prog_1_method_20_code
def yX4_paper : MethodName := ⟨RX4, "paper", "(II)I"⟩
abbrev cX4_coincidence : ByteArray := prog_1_method_21_code
def yX4_coincidence : MethodName := ⟨RX4, "coincidence", "(III)I"⟩
abbrev cX4_answer : ByteArray := prog_1_method_22_code
def yX4_answer : MethodName := ⟨RX4, "answer", "(III)I"⟩
abbrev cX4_would : ByteArray := prog_1_method_23_code
def yX4_would : MethodName := ⟨RX4, "would", "(II)I"⟩
abbrev cX4_ranked : ByteArray := prog_1_method_24_code
def yX4_ranked : MethodName := ⟨RX4, "ranked", "(I)I"⟩
abbrev cX4_waiting : ByteArray := prog_1_method_25_code
def yX4_waiting : MethodName := ⟨RX4, "waiting", "(I)I"⟩
abbrev cX4_count : ByteArray := prog_1_method_26_code
def yX4_count : MethodName := ⟨RX4, "count", "(I)I"⟩
abbrev cX4_outside : ByteArray := prog_1_method_27_code
def yX4_outside : MethodName := ⟨RX4, "outside", "(III)Z"⟩
abbrev cX4_has : ByteArray := prog_1_method_28_code
def yX4_has : MethodName := ⟨RX4, "has", "(II)Z"⟩
abbrev cX4_trapBit : ByteArray := prog_1_method_29_code
def yX4_trapBit : MethodName := ⟨RX4, "trapBit", "(I)I"⟩
abbrev cX4_quotient : ByteArray := prog_1_method_30_code
def yX4_quotient : MethodName := ⟨RX4, "quotient", "(II)I"⟩
abbrev cX4_nearestFraction : ByteArray := prog_1_method_31_code
def yX4_nearestFraction : MethodName := ⟨RX4, "nearestFraction", "(II)I"⟩
def RX5 : String := "VernierSchoolModel"
def TX5 : u_T := fun k => match k with
  | _ => ("", "", "", false)
def tyX5 : Nat → FieldType := fun k => match k with
  | _ => .int
abbrev wsX50 : List Cond := u_ws RX5 TX5 0
theorem nmX5 : ∀ a, a < 0 → ∀ b, b < 0 → a ≠ b → (TX5 a).2.1 ≠ (TX5 b).2.1 := by decide +kernel
theorem tyX5_ok : ∀ k, k < 0 → parseFieldDescriptor (TX5 k).2.2.1 = some (tyX5 k) := by decide +kernel
def RJ6 : String := "java/lang/Integer"
def TJ6 : u_T := fun k => match k with
  | _ => ("", "", "", false)
def tyJ6 : Nat → FieldType := fun k => match k with
  | _ => .int
abbrev wsJ60 : List Cond := u_ws RJ6 TJ6 0
theorem nmJ6 : ∀ a, a < 0 → ∀ b, b < 0 → a ≠ b → (TJ6 a).2.1 ≠ (TJ6 b).2.1 := by decide +kernel
theorem tyJ6_ok : ∀ k, k < 0 → parseFieldDescriptor (TJ6 k).2.2.1 = some (tyJ6 k) := by decide +kernel
abbrev cJ6_bitCount_0f7a4 : ByteArray := prog_8_method_49_code
def yJ6_bitCount_0f7a4 : MethodName := ⟨RJ6, "bitCount", "(I)I"⟩
def RJ9 : String := "java/lang/Math"
def TJ9 : u_T := fun k => match k with
  | _ => ("", "", "", false)
def tyJ9 : Nat → FieldType := fun k => match k with
  | _ => .int
abbrev wsJ90 : List Cond := u_ws RJ9 TJ9 0
theorem nmJ9 : ∀ a, a < 0 → ∀ b, b < 0 → a ≠ b → (TJ9 a).2.1 ≠ (TJ9 b).2.1 := by decide +kernel
theorem tyJ9_ok : ∀ k, k < 0 → parseFieldDescriptor (TJ9 k).2.2.1 = some (tyJ9 k) := by decide +kernel
abbrev cJ9_floorDiv_7cf53 : ByteArray := prog_9_method_47_code
def yJ9_floorDiv_7cf53 : MethodName := ⟨RJ9, "floorDiv", "(II)I"⟩
abbrev cJ9_abs_0f7a4 : ByteArray := prog_9_method_59_code
def yJ9_abs_0f7a4 : MethodName := ⟨RJ9, "abs", "(I)I"⟩
abbrev cJ9_max_7cf53 : ByteArray := prog_9_method_65_code
def yJ9_max_7cf53 : MethodName := ⟨RJ9, "max", "(II)I"⟩
abbrev cJ9_min_7cf53 : ByteArray := prog_9_method_69_code
def yJ9_min_7cf53 : MethodName := ⟨RJ9, "min", "(II)I"⟩
def RJ10 : String := "java/lang/System"
def TJ10 : u_T := fun k => match k with
  | _ => ("", "", "", false)
def tyJ10 : Nat → FieldType := fun k => match k with
  | _ => .int
abbrev wsJ100 : List Cond := u_ws RJ10 TJ10 0
theorem nmJ10 : ∀ a, a < 0 → ∀ b, b < 0 → a ≠ b → (TJ10 a).2.1 ≠ (TJ10 b).2.1 := by decide +kernel
theorem tyJ10_ok : ∀ k, k < 0 → parseFieldDescriptor (TJ10 k).2.2.1 = some (tyJ10 k) := by decide +kernel
def RL : String := "VernierSchoolLaw"
abbrev cL_cell : ByteArray := method_2_code
def yL_cell : MethodName := ⟨RL, "cell", "([II)I"⟩
abbrev cL_low : ByteArray := method_3_code
def yL_low : MethodName := ⟨RL, "low", "(II)I"⟩
abbrev cL_size : ByteArray := method_4_code
def yL_size : MethodName := ⟨RL, "size", "(I)I"⟩
abbrev cL_digest : ByteArray := method_5_code
def yL_digest : MethodName := ⟨RL, "digest", "(LVernierSchool;)J"⟩
abbrev cL_mark : ByteArray := method_6_code
def yL_mark : MethodName := ⟨RL, "mark", "(LVernierSchool;III)I"⟩
abbrev cL_ranks : ByteArray := method_7_code
def yL_ranks : MethodName := ⟨RL, "ranks", "(LVernierSchool;)Z"⟩
abbrev cL_waits : ByteArray := method_8_code
def yL_waits : MethodName := ⟨RL, "waits", "(LVernierSchool;)Z"⟩
abbrev cL_papers : ByteArray := method_9_code
def yL_papers : MethodName := ⟨RL, "papers", "(LVernierSchool;)Z"⟩
abbrev cL_coincides : ByteArray := method_10_code
def yL_coincides : MethodName := ⟨RL, "coincides", "(LVernierSchool;II)Z"⟩
abbrev cL_would : ByteArray := method_11_code
def yL_would : MethodName := ⟨RL, "would", "(LVernierSchool;I)Z"⟩
abbrev cL_tools : ByteArray := method_12_code
def yL_tools : MethodName := ⟨RL, "tools", "(LVernierSchool;III)Z"⟩
abbrev cL_pupils : ByteArray := method_13_code
def yL_pupils : MethodName := ⟨RL, "pupils", "(LVernierSchool;III)Z"⟩
abbrev cL_writes : ByteArray := method_14_code
def yL_writes : MethodName := ⟨RL, "writes", "(LVernierSchool;II)Z"⟩
abbrev cL_appeals : ByteArray := method_15_code
def yL_appeals : MethodName := ⟨RL, "appeals", "(LVernierSchool;III)Z"⟩
abbrev cL_law : ByteArray := code
def yL_law : MethodName := ⟨RL, "law", "([I)Z"⟩
abbrev vwCl : List vw_C := [(RX0, TX0, 3), (RX1, TX1, 4), (RX2, TX2, 3), (RX3, TX3, 4), (RX4, TX4, 5)]
