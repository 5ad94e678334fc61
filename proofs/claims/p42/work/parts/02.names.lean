/-! ===== END ===== -/

/-! ===== BEGIN printed: names, fields, word lists, decode rows ===== -/
def RX0 : String := "SoundArchive$Cover"
def TX0 : u_T := fun k => match k with
  | 0 => ("SoundArchive$Cover", "needs", "[I", true)
  | 1 => ("SoundArchive$Cover", "offers", "[I", true)
  | 2 => ("SoundArchive$Cover", "fewest", "[I", true)
  | 3 => ("SoundArchive$Cover", "needCount", "I", false)
  | _ => ("SoundArchive$Cover", "offerCount", "I", false)
def tyX0 : Nat → FieldType := fun k => match k with
  | 0 => .array .int
  | 1 => .array .int
  | 2 => .array .int
  | 3 => .int
  | _ => .int
abbrev wsX00 : List Cond := u_ws RX0 TX0 5
theorem nmX0 : ∀ a, a < 5 → ∀ b, b < 5 → a ≠ b → (TX0 a).2.1 ≠ (TX0 b).2.1 := by decide +kernel
theorem tyX0_ok : ∀ k, k < 5 → parseFieldDescriptor (TX0 k).2.2.1 = some (tyX0 k) := by decide +kernel
abbrev cX0_init : ByteArray := prog_2_method_1_code
def yX0_init : MethodName := ⟨RX0, "<init>", "()V"⟩
def RX1 : String := "SoundArchive$History"
def TX1 : u_T := fun k => match k with
  | 0 => ("SoundArchive$History", "states", "[LSoundArchive$State;", true)
  | 1 => ("SoundArchive$History", "end", "I", false)
  | _ => ("SoundArchive$History", "size", "I", false)
def tyX1 : Nat → FieldType := fun k => match k with
  | 0 => .array (.object "SoundArchive$State")
  | 1 => .int
  | _ => .int
abbrev wsX10 : List Cond := u_ws RX1 TX1 3
theorem nmX1 : ∀ a, a < 3 → ∀ b, b < 3 → a ≠ b → (TX1 a).2.1 ≠ (TX1 b).2.1 := by decide +kernel
theorem tyX1_ok : ∀ k, k < 3 → parseFieldDescriptor (TX1 k).2.2.1 = some (tyX1 k) := by decide +kernel
abbrev cX1_init : ByteArray := prog_3_method_1_code
def yX1_init : MethodName := ⟨RX1, "<init>", "()V"⟩
abbrev cX1_stateAt : ByteArray := prog_3_method_2_code
def yX1_stateAt : MethodName := ⟨RX1, "stateAt", "(I)LSoundArchive$State;"⟩
abbrev cX1_keep : ByteArray := prog_3_method_3_code
def yX1_keep : MethodName := ⟨RX1, "keep", "(LSoundArchive$State;)V"⟩
abbrev cX1_takeBack : ByteArray := prog_3_method_4_code
def yX1_takeBack : MethodName := ⟨RX1, "takeBack", "(LSoundArchive$State;)V"⟩
def RX2 : String := "SoundArchive$Kinds"
def TX2 : u_T := fun k => match k with
  | _ => ("", "", "", false)
def tyX2 : Nat → FieldType := fun k => match k with
  | _ => .int
abbrev wsX20 : List Cond := u_ws RX2 TX2 0
theorem nmX2 : ∀ a, a < 0 → ∀ b, b < 0 → a ≠ b → (TX2 a).2.1 ≠ (TX2 b).2.1 := by decide +kernel
theorem tyX2_ok : ∀ k, k < 0 → parseFieldDescriptor (TX2 k).2.2.1 = some (tyX2 k) := by decide +kernel
abbrev cX2_speedOf : ByteArray := prog_4_method_2_code
def yX2_speedOf : MethodName := ⟨RX2, "speedOf", "(II)I"⟩
abbrev cX2_numberOfSpeed : ByteArray := prog_4_method_3_code
def yX2_numberOfSpeed : MethodName := ⟨RX2, "numberOfSpeed", "(II)I"⟩
abbrev cX2_allSpeeds : ByteArray := prog_4_method_4_code
def yX2_allSpeeds : MethodName := ⟨RX2, "allSpeeds", "(I)I"⟩
abbrev cX2_hasLayout : ByteArray := prog_4_method_5_code
def yX2_hasLayout : MethodName := ⟨RX2, "hasLayout", "(II)Z"⟩
def RX3 : String := "SoundArchive$Layouts"
def TX3 : u_T := fun k => match k with
  | _ => ("", "", "", false)
def tyX3 : Nat → FieldType := fun k => match k with
  | _ => .int
abbrev wsX30 : List Cond := u_ws RX3 TX3 0
theorem nmX3 : ∀ a, a < 0 → ∀ b, b < 0 → a ≠ b → (TX3 a).2.1 ≠ (TX3 b).2.1 := by decide +kernel
theorem tyX3_ok : ∀ k, k < 0 → parseFieldDescriptor (TX3 k).2.2.1 = some (tyX3 k) := by decide +kernel
abbrev cX3_countTracks : ByteArray := prog_5_method_2_code
def yX3_countTracks : MethodName := ⟨RX3, "countTracks", "(I)I"⟩
abbrev cX3_stripsOfTrack : ByteArray := prog_5_method_3_code
def yX3_stripsOfTrack : MethodName := ⟨RX3, "stripsOfTrack", "(II)I"⟩
abbrev cX3_tracksOfSide : ByteArray := prog_5_method_4_code
def yX3_tracksOfSide : MethodName := ⟨RX3, "tracksOfSide", "(II)I"⟩
abbrev cX3_sideOfSet : ByteArray := prog_5_method_5_code
def yX3_sideOfSet : MethodName := ⟨RX3, "sideOfSet", "(II)I"⟩
abbrev cX3_mostRead : ByteArray := prog_5_method_6_code
def yX3_mostRead : MethodName := ⟨RX3, "mostRead", "(III)I"⟩
abbrev cX3_mirrored : ByteArray := prog_5_method_7_code
def yX3_mirrored : MethodName := ⟨RX3, "mirrored", "(I)I"⟩
def RX4 : String := "SoundArchive$Slot"
def TX4 : u_T := fun k => match k with
  | 0 => ("SoundArchive$Slot", "state", "LSoundArchive$State;", true)
  | _ => ("SoundArchive$Slot", "isFilled", "Z", false)
def tyX4 : Nat → FieldType := fun k => match k with
  | 0 => .object "SoundArchive$State"
  | _ => .boolean
abbrev wsX40 : List Cond := u_ws RX4 TX4 2
theorem nmX4 : ∀ a, a < 2 → ∀ b, b < 2 → a ≠ b → (TX4 a).2.1 ≠ (TX4 b).2.1 := by decide +kernel
theorem tyX4_ok : ∀ k, k < 2 → parseFieldDescriptor (TX4 k).2.2.1 = some (tyX4 k) := by decide +kernel
abbrev cX4_init : ByteArray := prog_6_method_1_code
def yX4_init : MethodName := ⟨RX4, "<init>", "()V"⟩
def RX5 : String := "SoundArchive$State"
def TX5 : u_T := fun k => match k with
  | 0 => ("SoundArchive$State", "carriers", "LSoundArchive$Table;", true)
  | 1 => ("SoundArchive$State", "machines", "LSoundArchive$Table;", true)
  | 2 => ("SoundArchive$State", "recordings", "LSoundArchive$Table;", true)
  | 3 => ("SoundArchive$State", "parts", "LSoundArchive$Table;", true)
  | 4 => ("SoundArchive$State", "passes", "LSoundArchive$Table;", true)
  | 5 => ("SoundArchive$State", "permissions", "LSoundArchive$Table;", true)
  | 6 => ("SoundArchive$State", "requests", "LSoundArchive$Table;", true)
  | 7 => ("SoundArchive$State", "persons", "LSoundArchive$Table;", true)
  | 8 => ("SoundArchive$State", "today", "I", false)
  | _ => ("SoundArchive$State", "reason", "I", false)
def tyX5 : Nat → FieldType := fun k => match k with
  | 0 => .object "SoundArchive$Table"
  | 1 => .object "SoundArchive$Table"
  | 2 => .object "SoundArchive$Table"
  | 3 => .object "SoundArchive$Table"
  | 4 => .object "SoundArchive$Table"
  | 5 => .object "SoundArchive$Table"
  | 6 => .object "SoundArchive$Table"
  | 7 => .object "SoundArchive$Table"
  | 8 => .int
  | _ => .int
abbrev wsX50 : List Cond := u_ws RX5 TX5 10
theorem nmX5 : ∀ a, a < 10 → ∀ b, b < 10 → a ≠ b → (TX5 a).2.1 ≠ (TX5 b).2.1 := by decide +kernel
theorem tyX5_ok : ∀ k, k < 10 → parseFieldDescriptor (TX5 k).2.2.1 = some (tyX5 k) := by decide +kernel
abbrev cX5_init : ByteArray := prog_7_method_1_code
def yX5_init : MethodName := ⟨RX5, "<init>", "()V"⟩
abbrev cX5_copyFrom : ByteArray := prog_7_method_2_code
def yX5_copyFrom : MethodName := ⟨RX5, "copyFrom", "(LSoundArchive$State;)V"⟩
def RX6 : String := "SoundArchive$Table"
def TX6 : u_T := fun k => match k with
  | 0 => ("SoundArchive$Table", "cells", "[I", true)
  | 1 => ("SoundArchive$Table", "columns", "I", true)
  | _ => ("SoundArchive$Table", "rows", "I", false)
def tyX6 : Nat → FieldType := fun k => match k with
  | 0 => .array .int
  | 1 => .int
  | _ => .int
abbrev wsX60 : List Cond := u_ws RX6 TX6 3
theorem nmX6 : ∀ a, a < 3 → ∀ b, b < 3 → a ≠ b → (TX6 a).2.1 ≠ (TX6 b).2.1 := by decide +kernel
theorem tyX6_ok : ∀ k, k < 3 → parseFieldDescriptor (TX6 k).2.2.1 = some (tyX6 k) := by decide +kernel
abbrev cX6_init : ByteArray := prog_8_method_1_code
def yX6_init : MethodName := ⟨RX6, "<init>", "(II)V"⟩
abbrev cX6_has : ByteArray := prog_8_method_2_code
def yX6_has : MethodName := ⟨RX6, "has", "(I)Z"⟩
abbrev cX6_isFull : ByteArray := prog_8_method_3_code
def yX6_isFull : MethodName := ⟨RX6, "isFull", "()Z"⟩
abbrev cX6_addRow : ByteArray := prog_8_method_4_code
def yX6_addRow : MethodName := ⟨RX6, "addRow", "()I"⟩
abbrev cX6_get : ByteArray := prog_8_method_5_code
def yX6_get : MethodName := ⟨RX6, "get", "(II)I"⟩
abbrev cX6_set : ByteArray := prog_8_method_6_code
def yX6_set : MethodName := ⟨RX6, "set", "(III)V"⟩
abbrev cX6_add : ByteArray := prog_8_method_7_code
def yX6_add : MethodName := ⟨RX6, "add", "(III)V"⟩
abbrev cX6_countOf : ByteArray := prog_8_method_8_code
def yX6_countOf : MethodName := ⟨RX6, "countOf", "(II)I"⟩
abbrev cX6_copyFrom : ByteArray := prog_8_method_9_code
def yX6_copyFrom : MethodName := ⟨RX6, "copyFrom", "(LSoundArchive$Table;)V"⟩
def RX7 : String := "SoundArchive$Text"
def TX7 : u_T := fun k => match k with
  | 0 => ("SoundArchive$Text", "bytes", "[I", true)
  | 1 => ("SoundArchive$Text", "numbers", "[I", true)
  | _ => ("SoundArchive$Text", "length", "I", false)
def tyX7 : Nat → FieldType := fun k => match k with
  | 0 => .array .int
  | 1 => .array .int
  | _ => .int
abbrev wsX70 : List Cond := u_ws RX7 TX7 3
theorem nmX7 : ∀ a, a < 3 → ∀ b, b < 3 → a ≠ b → (TX7 a).2.1 ≠ (TX7 b).2.1 := by decide +kernel
theorem tyX7_ok : ∀ k, k < 3 → parseFieldDescriptor (TX7 k).2.2.1 = some (tyX7 k) := by decide +kernel
abbrev cX7_init : ByteArray := prog_9_method_1_code
def yX7_init : MethodName := ⟨RX7, "<init>", "()V"⟩
def RX8 : String := "SoundArchive"
def TX8 : u_T := fun k => match k with
  | 0 => ("SoundArchive", "now", "LSoundArchive$State;", true)
  | 1 => ("SoundArchive", "history", "LSoundArchive$History;", true)
  | 2 => ("SoundArchive", "firstSlot", "LSoundArchive$Slot;", true)
  | 3 => ("SoundArchive", "secondSlot", "LSoundArchive$Slot;", true)
  | 4 => ("SoundArchive", "text", "LSoundArchive$Text;", true)
  | 5 => ("SoundArchive", "cover", "LSoundArchive$Cover;", true)
  | _ => ("SoundArchive", "plan", "[I", true)
def tyX8 : Nat → FieldType := fun k => match k with
  | 0 => .object "SoundArchive$State"
  | 1 => .object "SoundArchive$History"
  | 2 => .object "SoundArchive$Slot"
  | 3 => .object "SoundArchive$Slot"
  | 4 => .object "SoundArchive$Text"
  | 5 => .object "SoundArchive$Cover"
  | _ => .array .int
abbrev wsX80 : List Cond := u_ws RX8 TX8 7
theorem nmX8 : ∀ a, a < 7 → ∀ b, b < 7 → a ≠ b → (TX8 a).2.1 ≠ (TX8 b).2.1 := by decide +kernel
theorem tyX8_ok : ∀ k, k < 7 → parseFieldDescriptor (TX8 k).2.2.1 = some (tyX8 k) := by decide +kernel
abbrev cX8_init : ByteArray := prog_1_method_1_code
def yX8_init : MethodName := ⟨RX8, "<init>", "()V"⟩
abbrev cX8_addCarrier : ByteArray := prog_1_method_2_code
def yX8_addCarrier : MethodName := ⟨RX8, "addCarrier", "(IIIII)I"⟩
abbrev cX8_addMachine : ByteArray := prog_1_method_3_code
def yX8_addMachine : MethodName := ⟨RX8, "addMachine", "(IIII)I"⟩
abbrev cX8_addRecording : ByteArray := prog_1_method_4_code
def yX8_addRecording : MethodName := ⟨RX8, "addRecording", "(IIII)I"⟩
abbrev cX8_addPart : ByteArray := prog_1_method_5_code
def yX8_addPart : MethodName := ⟨RX8, "addPart", "(IIIII)I"⟩
abbrev cX8_transfer : ByteArray := prog_1_method_6_code
def yX8_transfer : MethodName := ⟨RX8, "transfer", "(IIII)I"⟩
abbrev cX8_permit : ByteArray := prog_1_method_7_code
def yX8_permit : MethodName := ⟨RX8, "permit", "(IIII)I"⟩
abbrev cX8_request : ByteArray := prog_1_method_9_code
def yX8_request : MethodName := ⟨RX8, "request", "(IIIIII)I"⟩
abbrev cX8_withdraw : ByteArray := prog_1_method_11_code
def yX8_withdraw : MethodName := ⟨RX8, "withdraw", "(I)I"⟩
abbrev cX8_answer : ByteArray := prog_1_method_12_code
def yX8_answer : MethodName := ⟨RX8, "answer", "(I)I"⟩
abbrev cX8_passDays : ByteArray := prog_1_method_13_code
def yX8_passDays : MethodName := ⟨RX8, "passDays", "(I)I"⟩
abbrev cX8_undo : ByteArray := prog_1_method_18_code
def yX8_undo : MethodName := ⟨RX8, "undo", "()I"⟩
abbrev cX8_save : ByteArray := prog_1_method_19_code
def yX8_save : MethodName := ⟨RX8, "save", "(I)I"⟩
abbrev cX8_restore : ByteArray := prog_1_method_20_code
def yX8_restore : MethodName := ⟨RX8, "restore", "(I)I"⟩
abbrev cX8_carrier : ByteArray := prog_1_method_21_code
def yX8_carrier : MethodName := ⟨RX8, "carrier", "(II)I"⟩
abbrev cX8_machine : ByteArray := prog_1_method_22_code
def yX8_machine : MethodName := ⟨RX8, "machine", "(II)I"⟩
abbrev cX8_recording : ByteArray := prog_1_method_23_code
def yX8_recording : MethodName := ⟨RX8, "recording", "(II)I"⟩
abbrev cX8_pass : ByteArray := prog_1_method_25_code
def yX8_pass : MethodName := ⟨RX8, "pass", "(II)I"⟩
abbrev cX8_captured : ByteArray := prog_1_method_26_code
def yX8_captured : MethodName := ⟨RX8, "captured", "(II)I"⟩
abbrev cX8_quality : ByteArray := prog_1_method_27_code
def yX8_quality : MethodName := ⟨RX8, "quality", "(II)I"⟩
abbrev cX8_bestPass : ByteArray := prog_1_method_28_code
def yX8_bestPass : MethodName := ⟨RX8, "bestPass", "(I)I"⟩
abbrev cX8_requested : ByteArray := prog_1_method_30_code
def yX8_requested : MethodName := ⟨RX8, "requested", "(II)I"⟩
abbrev cX8_lacking : ByteArray := prog_1_method_31_code
def yX8_lacking : MethodName := ⟨RX8, "lacking", "(IIIII)I"⟩
abbrev cX8_fee : ByteArray := prog_1_method_32_code
def yX8_fee : MethodName := ⟨RX8, "fee", "(IIIII)I"⟩
abbrev cX8_income : ByteArray := prog_1_method_33_code
def yX8_income : MethodName := ⟨RX8, "income", "(I)I"⟩
abbrev cX8_paid : ByteArray := prog_1_method_34_code
def yX8_paid : MethodName := ⟨RX8, "paid", "(I)I"⟩
abbrev cX8_next : ByteArray := prog_1_method_35_code
def yX8_next : MethodName := ⟨RX8, "next", "(I)I"⟩
abbrev cX8_total : ByteArray := prog_1_method_36_code
def yX8_total : MethodName := ⟨RX8, "total", "(I)I"⟩
abbrev cX8_heard : ByteArray := prog_1_method_37_code
def yX8_heard : MethodName := ⟨RX8, "heard", "(IIIII)I"⟩
abbrev cX8_duration : ByteArray := prog_1_method_38_code
def yX8_duration : MethodName := ⟨RX8, "duration", "(II)I"⟩
abbrev cX8_isWithin : ByteArray := prog_1_method_41_code
def yX8_isWithin : MethodName := ⟨RX8, "isWithin", "(III)Z"⟩
abbrev cX8_isPerson : ByteArray := prog_1_method_42_code
def yX8_isPerson : MethodName := ⟨RX8, "isPerson", "(I)Z"⟩
abbrev cX8_isUse : ByteArray := prog_1_method_43_code
def yX8_isUse : MethodName := ⟨RX8, "isUse", "(I)Z"⟩
abbrev cX8_isSide : ByteArray := prog_1_method_44_code
def yX8_isSide : MethodName := ⟨RX8, "isSide", "(I)Z"⟩
abbrev cX8_isStretch : ByteArray := prog_1_method_45_code
def yX8_isStretch : MethodName := ⟨RX8, "isStretch", "(III)Z"⟩
abbrev cX8_isOpen : ByteArray := prog_1_method_46_code
def yX8_isOpen : MethodName := ⟨RX8, "isOpen", "(I)Z"⟩
abbrev cX8_isSameKind : ByteArray := prog_1_method_47_code
def yX8_isSameKind : MethodName := ⟨RX8, "isSameKind", "(II)Z"⟩
abbrev cX8_hasTrack : ByteArray := prog_1_method_48_code
def yX8_hasTrack : MethodName := ⟨RX8, "hasTrack", "(II)Z"⟩
abbrev cX8_canPlay : ByteArray := prog_1_method_49_code
def yX8_canPlay : MethodName := ⟨RX8, "canPlay", "(II)Z"⟩
abbrev cX8_isTaken : ByteArray := prog_1_method_50_code
def yX8_isTaken : MethodName := ⟨RX8, "isTaken", "(IIII)Z"⟩
abbrev cX8_errorOfExcerpt : ByteArray := prog_1_method_51_code
def yX8_errorOfExcerpt : MethodName := ⟨RX8, "errorOfExcerpt", "(IIIII)I"⟩
abbrev cX8_lengthOfRecording : ByteArray := prog_1_method_52_code
def yX8_lengthOfRecording : MethodName := ⟨RX8, "lengthOfRecording", "(I)I"⟩
abbrev cX8_look : ByteArray := prog_1_method_53_code
def yX8_look : MethodName := ⟨RX8, "look", "(LSoundArchive$Table;III)I"⟩
abbrev cX8_slotOf : ByteArray := prog_1_method_54_code
def yX8_slotOf : MethodName := ⟨RX8, "slotOf", "(I)LSoundArchive$Slot;"⟩
abbrev cX8_tryPass : ByteArray := prog_1_method_55_code
def yX8_tryPass : MethodName := ⟨RX8, "tryPass", "(IIIIZ)I"⟩
abbrev cX8_refusalOfPass : ByteArray := prog_1_method_56_code
def yX8_refusalOfPass : MethodName := ⟨RX8, "refusalOfPass", "(IIII)I"⟩
abbrev cX8_makePass : ByteArray := prog_1_method_57_code
def yX8_makePass : MethodName := ⟨RX8, "makePass", "(IIII)I"⟩
abbrev cX8_tryAnswer : ByteArray := prog_1_method_58_code
def yX8_tryAnswer : MethodName := ⟨RX8, "tryAnswer", "(IZ)I"⟩
abbrev cX8_refusalOfAnswer : ByteArray := prog_1_method_59_code
def yX8_refusalOfAnswer : MethodName := ⟨RX8, "refusalOfAnswer", "(I)I"⟩
abbrev cX8_giveAnswer : ByteArray := prog_1_method_60_code
def yX8_giveAnswer : MethodName := ⟨RX8, "giveAnswer", "(I)I"⟩
abbrev cX8_tryDays : ByteArray := prog_1_method_61_code
def yX8_tryDays : MethodName := ⟨RX8, "tryDays", "(IZ)I"⟩
abbrev cX8_captureNow : ByteArray := prog_1_method_63_code
def yX8_captureNow : MethodName := ⟨RX8, "captureNow", "(IIIII)I"⟩
abbrev cX8_tracksHeard : ByteArray := prog_1_method_64_code
def yX8_tracksHeard : MethodName := ⟨RX8, "tracksHeard", "(IIIII)I"⟩
abbrev cX8_playsOfPass : ByteArray := prog_1_method_65_code
def yX8_playsOfPass : MethodName := ⟨RX8, "playsOfPass", "(II)I"⟩
abbrev cX8_secondsOfPass : ByteArray := prog_1_method_66_code
def yX8_secondsOfPass : MethodName := ⟨RX8, "secondsOfPass", "(II)I"⟩
abbrev cX8_qualityInPass : ByteArray := prog_1_method_67_code
def yX8_qualityInPass : MethodName := ⟨RX8, "qualityInPass", "(II)I"⟩
abbrev cX8_findBestPass : ByteArray := prog_1_method_69_code
def yX8_findBestPass : MethodName := ⟨RX8, "findBestPass", "(I)I"⟩
abbrev cX8_rowOfPart : ByteArray := prog_1_method_74_code
def yX8_rowOfPart : MethodName := ⟨RX8, "rowOfPart", "(II)I"⟩
abbrev cX8_isProtected : ByteArray := prog_1_method_75_code
def yX8_isProtected : MethodName := ⟨RX8, "isProtected", "(I)Z"⟩
abbrev cX8_boundSeconds : ByteArray := prog_1_method_76_code
def yX8_boundSeconds : MethodName := ⟨RX8, "boundSeconds", "(IIII)I"⟩
abbrev cX8_isPermitted : ByteArray := prog_1_method_77_code
def yX8_isPermitted : MethodName := ⟨RX8, "isPermitted", "(III)Z"⟩
abbrev cX8_partsLacking : ByteArray := prog_1_method_78_code
def yX8_partsLacking : MethodName := ⟨RX8, "partsLacking", "(IIIII)I"⟩
abbrev cX8_priceOfSecond : ByteArray := prog_1_method_79_code
def yX8_priceOfSecond : MethodName := ⟨RX8, "priceOfSecond", "(I)I"⟩
abbrev cX8_feeOfPart : ByteArray := prog_1_method_80_code
def yX8_feeOfPart : MethodName := ⟨RX8, "feeOfPart", "(IIIII)I"⟩
abbrev cX8_feeOfExcerpt : ByteArray := prog_1_method_81_code
def yX8_feeOfExcerpt : MethodName := ⟨RX8, "feeOfExcerpt", "(IIIII)I"⟩
abbrev cX8_openAheadOf : ByteArray := prog_1_method_82_code
def yX8_openAheadOf : MethodName := ⟨RX8, "openAheadOf", "(I)I"⟩
abbrev cX8_comesBefore : ByteArray := prog_1_method_83_code
def yX8_comesBefore : MethodName := ⟨RX8, "comesBefore", "(II)Z"⟩
def RX9 : String := "SoundArchiveModel"
def TX9 : u_T := fun k => match k with
  | _ => ("", "", "", false)
def tyX9 : Nat → FieldType := fun k => match k with
  | _ => .int
abbrev wsX90 : List Cond := u_ws RX9 TX9 0
theorem nmX9 : ∀ a, a < 0 → ∀ b, b < 0 → a ≠ b → (TX9 a).2.1 ≠ (TX9 b).2.1 := by decide +kernel
theorem tyX9_ok : ∀ k, k < 0 → parseFieldDescriptor (TX9 k).2.2.1 = some (tyX9 k) := by decide +kernel
def RJ6 : String := "java/lang/Integer"
def TJ6 : u_T := fun k => match k with
  | _ => ("", "", "", false)
def tyJ6 : Nat → FieldType := fun k => match k with
  | _ => .int
abbrev wsJ60 : List Cond := u_ws RJ6 TJ6 0
theorem nmJ6 : ∀ a, a < 0 → ∀ b, b < 0 → a ≠ b → (TJ6 a).2.1 ≠ (TJ6 b).2.1 := by decide +kernel
theorem tyJ6_ok : ∀ k, k < 0 → parseFieldDescriptor (TJ6 k).2.2.1 = some (tyJ6 k) := by decide +kernel
abbrev cJ6_bitCount_0f7a4 : ByteArray := prog_12_method_49_code
def yJ6_bitCount_0f7a4 : MethodName := ⟨RJ6, "bitCount", "(I)I"⟩
def RJ9 : String := "java/lang/Math"
def TJ9 : u_T := fun k => match k with
  | _ => ("", "", "", false)
def tyJ9 : Nat → FieldType := fun k => match k with
  | _ => .int
abbrev wsJ90 : List Cond := u_ws RJ9 TJ9 0
theorem nmJ9 : ∀ a, a < 0 → ∀ b, b < 0 → a ≠ b → (TJ9 a).2.1 ≠ (TJ9 b).2.1 := by decide +kernel
theorem tyJ9_ok : ∀ k, k < 0 → parseFieldDescriptor (TJ9 k).2.2.1 = some (tyJ9 k) := by decide +kernel
abbrev cJ9_max_7cf53 : ByteArray := prog_13_method_65_code
def yJ9_max_7cf53 : MethodName := ⟨RJ9, "max", "(II)I"⟩
abbrev cJ9_min_7cf53 : ByteArray := prog_13_method_69_code
def yJ9_min_7cf53 : MethodName := ⟨RJ9, "min", "(II)I"⟩
def RJ10 : String := "java/lang/System"
def TJ10 : u_T := fun k => match k with
  | _ => ("", "", "", false)
def tyJ10 : Nat → FieldType := fun k => match k with
  | _ => .int
abbrev wsJ100 : List Cond := u_ws RJ10 TJ10 0
theorem nmJ10 : ∀ a, a < 0 → ∀ b, b < 0 → a ≠ b → (TJ10 a).2.1 ≠ (TJ10 b).2.1 := by decide +kernel
theorem tyJ10_ok : ∀ k, k < 0 → parseFieldDescriptor (TJ10 k).2.2.1 = some (tyJ10 k) := by decide +kernel
def RL : String := "SoundArchiveLaw"
abbrev cL_cell : ByteArray := method_2_code
def yL_cell : MethodName := ⟨RL, "cell", "([II)I"⟩
abbrev cL_speed : ByteArray := method_3_code
def yL_speed : MethodName := ⟨RL, "speed", "(II)I"⟩
abbrev cL_layout : ByteArray := method_4_code
def yL_layout : MethodName := ⟨RL, "layout", "(II)I"⟩
abbrev cL_requests : ByteArray := method_5_code
def yL_requests : MethodName := ⟨RL, "requests", "(LSoundArchive;)Z"⟩
abbrev cL_passes : ByteArray := method_6_code
def yL_passes : MethodName := ⟨RL, "passes", "(LSoundArchive;)Z"⟩
abbrev cL_best : ByteArray := method_7_code
def yL_best : MethodName := ⟨RL, "best", "(LSoundArchive;)Z"⟩
abbrev cL_plays : ByteArray := method_8_code
def yL_plays : MethodName := ⟨RL, "plays", "(LSoundArchive;I)Z"⟩
abbrev cL_answers : ByteArray := method_9_code
def yL_answers : MethodName := ⟨RL, "answers", "(LSoundArchive;I)Z"⟩
abbrev cL_acts : ByteArray := method_10_code
def yL_acts : MethodName := ⟨RL, "acts", "(LSoundArchive;I)Z"⟩
abbrev cL_law : ByteArray := code
def yL_law : MethodName := ⟨RL, "law", "([I)Z"⟩
abbrev vwCl : List vw_C := [(RX0, TX0, 5), (RX1, TX1, 3), (RX4, TX4, 2), (RX5, TX5, 10), (RX6, TX6, 3), (RX7, TX7, 3), (RX8, TX8, 7)]
def xTW : List Cond := lw_tbl.filter goodWord
theorem xTW_m {w : Cond} (h : w ∈ lw_tbl) (g : goodWord w = true) : w ∈ xTW := List.mem_filter.mpr ⟨h, g⟩
theorem xTW_g : ∀ w ∈ xTW, w ∈ xTW ∧ ((w.onTables && w.keeps) = true ∨ ∃ ty, w = .arrayClass ty) := fun w h => ⟨h, good_of_word (List.mem_filter.mp h).2⟩
theorem xin_of {ws : List Cond} (hg : ws.all goodWord = true) (ps : List Nat) (hp : ws = ps.filterMap (fun i => lw_tbl[i]?)) : ∀ w ∈ ws, w ∈ xTW := by
  intro w hw
  have hg1 := List.all_eq_true.mp hg w hw
  rw [hp] at hw
  obtain ⟨i, -, hi⟩ := List.mem_filterMap.mp hw
  exact xTW_m (List.mem_of_getElem? hi) hg1
