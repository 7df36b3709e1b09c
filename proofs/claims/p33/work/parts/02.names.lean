def RX0 : String := "VerandaTalk$Asked"
def TX0 : u_T := fun k => match k with
  | 0 => ("VerandaTalk$Asked", "run", "LVerandaTalk$Veranda;", true)
  | 1 => ("VerandaTalk$Asked", "steps", "[LVerandaTalk$Veranda;", true)
  | 2 => ("VerandaTalk$Asked", "tried", "[I", true)
  | 3 => ("VerandaTalk$Asked", "best", "[I", true)
  | 4 => ("VerandaTalk$Asked", "bestSettled", "I", false)
  | 5 => ("VerandaTalk$Asked", "bestCost", "I", false)
  | 6 => ("VerandaTalk$Asked", "many", "I", false)
  | 7 => ("VerandaTalk$Asked", "least", "I", false)
  | _ => ("VerandaTalk$Asked", "dropped", "[I", true)
def tyX0 : Nat → FieldType := fun k => match k with
  | 0 => .object "VerandaTalk$Veranda"
  | 1 => .array (.object "VerandaTalk$Veranda")
  | 2 => .array .int
  | 3 => .array .int
  | 4 => .int
  | 5 => .int
  | 6 => .int
  | 7 => .int
  | _ => .array .int
abbrev wsX00 : List Cond := u_ws RX0 TX0 9
theorem nmX0 : ∀ a, a < 9 → ∀ b, b < 9 → a ≠ b → (TX0 a).2.1 ≠ (TX0 b).2.1 := by decide +kernel
theorem tyX0_ok : ∀ k, k < 9 → parseFieldDescriptor (TX0 k).2.2.1 = some (tyX0 k) := by decide +kernel
abbrev cX0_init : ByteArray := prog_2_method_1_code
def yX0_init : MethodName := ⟨RX0, "<init>", "()V"⟩
abbrev cX0_behind : ByteArray := prog_2_method_2_code
def yX0_behind : MethodName := ⟨RX0, "behind", "(LVerandaTalk$Veranda;I)LVerandaTalk$Veranda;"⟩
abbrev cX0_firstSettled : ByteArray := prog_2_method_3_code
def yX0_firstSettled : MethodName := ⟨RX0, "firstSettled", "(LVerandaTalk$Veranda;III)I"⟩
abbrev cX0_findAgenda : ByteArray := prog_2_method_4_code
def yX0_findAgenda : MethodName := ⟨RX0, "findAgenda", "(LVerandaTalk$Veranda;I)V"⟩
abbrev cX0_firstTalk : ByteArray := prog_2_method_5_code
def yX0_firstTalk : MethodName := ⟨RX0, "firstTalk", "(I)I"⟩
abbrev cX0_goRow : ByteArray := prog_2_method_6_code
def yX0_goRow : MethodName := ⟨RX0, "goRow", "(II)V"⟩
abbrev cX0_nextRow : ByteArray := prog_2_method_7_code
def yX0_nextRow : MethodName := ⟨RX0, "nextRow", "(II)I"⟩
abbrev cX0_judge : ByteArray := prog_2_method_8_code
def yX0_judge : MethodName := ⟨RX0, "judge", "(LVerandaTalk$Veranda;I)V"⟩
abbrev cX0_loose : ByteArray := prog_2_method_9_code
def yX0_loose : MethodName := ⟨RX0, "loose", "(LVerandaTalk$Veranda;)I"⟩
abbrev cX0_findDues : ByteArray := prog_2_method_10_code
def yX0_findDues : MethodName := ⟨RX0, "findDues", "(LVerandaTalk$Veranda;LVerandaTalk$Hand;)V"⟩
abbrev cX0_findFirm : ByteArray := prog_2_method_11_code
def yX0_findFirm : MethodName := ⟨RX0, "findFirm", "(LVerandaTalk$Veranda;LVerandaTalk$Hand;I)V"⟩
abbrev cX0_isAllSeen : ByteArray := prog_2_method_12_code
def yX0_isAllSeen : MethodName := ⟨RX0, "isAllSeen", "(LVerandaTalk$Hand;)Z"⟩
abbrev cX0_behindPlan : ByteArray := prog_2_method_13_code
def yX0_behindPlan : MethodName := ⟨RX0, "behindPlan", "(LVerandaTalk$Veranda;LVerandaTalk$Hand;)LVerandaTalk$Veranda;"⟩
def RX1 : String := "VerandaTalk$Boundary"
def TX1 : u_T := fun k => match k with
  | 0 => ("VerandaTalk$Matter", "number", "I", true)
  | 1 => ("VerandaTalk$Matter", "kind", "I", true)
  | 2 => ("VerandaTalk$Matter", "v", "I", true)
  | _ => ("VerandaTalk$Matter", "ran", "[I", true)
def tyX1 : Nat → FieldType := fun k => match k with
  | 0 => .int
  | 1 => .int
  | 2 => .int
  | _ => .array .int
abbrev wsX10 : List Cond := u_ws RX1 TX1 4
theorem nmX1 : ∀ a, a < 4 → ∀ b, b < 4 → a ≠ b → (TX1 a).2.1 ≠ (TX1 b).2.1 := by decide +kernel
theorem tyX1_ok : ∀ k, k < 4 → parseFieldDescriptor (TX1 k).2.2.1 = some (tyX1 k) := by decide +kernel
abbrev cX1_init : ByteArray := prog_3_method_1_code
def yX1_init : MethodName := ⟨RX1, "<init>", "(III[I)V"⟩
abbrev cX1_stir : ByteArray := prog_3_method_2_code
def yX1_stir : MethodName := ⟨RX1, "stir", "(LVerandaTalk$Veranda;I)I"⟩
abbrev cX1_nods : ByteArray := prog_3_method_3_code
def yX1_nods : MethodName := ⟨RX1, "nods", "(I)I"⟩
def RX2 : String := "VerandaTalk$Frontier"
def TX2 : u_T := fun k => match k with
  | 0 => ("VerandaTalk$Matter", "number", "I", true)
  | 1 => ("VerandaTalk$Matter", "kind", "I", true)
  | 2 => ("VerandaTalk$Matter", "v", "I", true)
  | _ => ("VerandaTalk$Matter", "ran", "[I", true)
def tyX2 : Nat → FieldType := fun k => match k with
  | 0 => .int
  | 1 => .int
  | 2 => .int
  | _ => .array .int
abbrev wsX20 : List Cond := u_ws RX2 TX2 4
theorem nmX2 : ∀ a, a < 4 → ∀ b, b < 4 → a ≠ b → (TX2 a).2.1 ≠ (TX2 b).2.1 := by decide +kernel
theorem tyX2_ok : ∀ k, k < 4 → parseFieldDescriptor (TX2 k).2.2.1 = some (tyX2 k) := by decide +kernel
abbrev cX2_init : ByteArray := prog_4_method_1_code
def yX2_init : MethodName := ⟨RX2, "<init>", "(III[I)V"⟩
abbrev cX2_stir : ByteArray := prog_4_method_2_code
def yX2_stir : MethodName := ⟨RX2, "stir", "(LVerandaTalk$Veranda;I)I"⟩
abbrev cX2_waits : ByteArray := prog_4_method_3_code
def yX2_waits : MethodName := ⟨RX2, "waits", "(I)I"⟩
def RX3 : String := "VerandaTalk$Hand"
def TX3 : u_T := fun k => match k with
  | 0 => ("VerandaTalk$Hand", "tape", "[B", true)
  | 1 => ("VerandaTalk$Hand", "signs", "I", false)
  | 2 => ("VerandaTalk$Hand", "seenMatter", "[I", true)
  | 3 => ("VerandaTalk$Hand", "seenAhead", "[I", true)
  | 4 => ("VerandaTalk$Hand", "seenSettled", "I", false)
  | 5 => ("VerandaTalk$Hand", "seen", "I", false)
  | 6 => ("VerandaTalk$Hand", "planWhat", "[I", true)
  | 7 => ("VerandaTalk$Hand", "planMatter", "[I", true)
  | 8 => ("VerandaTalk$Hand", "plans", "I", false)
  | 9 => ("VerandaTalk$Hand", "bookMatter", "[I", true)
  | 10 => ("VerandaTalk$Hand", "bookTalked", "[I", true)
  | _ => ("VerandaTalk$Hand", "books", "I", false)
def tyX3 : Nat → FieldType := fun k => match k with
  | 0 => .array .byte
  | 1 => .int
  | 2 => .array .int
  | 3 => .array .int
  | 4 => .int
  | 5 => .int
  | 6 => .array .int
  | 7 => .array .int
  | 8 => .int
  | 9 => .array .int
  | 10 => .array .int
  | _ => .int
abbrev wsX30 : List Cond := u_ws RX3 TX3 12
theorem nmX3 : ∀ a, a < 12 → ∀ b, b < 12 → a ≠ b → (TX3 a).2.1 ≠ (TX3 b).2.1 := by decide +kernel
theorem tyX3_ok : ∀ k, k < 12 → parseFieldDescriptor (TX3 k).2.2.1 = some (tyX3 k) := by decide +kernel
abbrev cX3_init : ByteArray := prog_5_method_1_code
def yX3_init : MethodName := ⟨RX3, "<init>", "()V"⟩
abbrev cX3_copyFrom : ByteArray := prog_5_method_2_code
def yX3_copyFrom : MethodName := ⟨RX3, "copyFrom", "(LVerandaTalk$Hand;)V"⟩
abbrev cX3_lastSeen : ByteArray := prog_5_method_3_code
def yX3_lastSeen : MethodName := ⟨RX3, "lastSeen", "()I"⟩
abbrev cX3_isSo : ByteArray := prog_5_method_4_code
def yX3_isSo : MethodName := ⟨RX3, "isSo", "(LVerandaTalk$Veranda;I)Z"⟩
def RX4 : String := "VerandaTalk$Loan"
def TX4 : u_T := fun k => match k with
  | 0 => ("VerandaTalk$Matter", "number", "I", true)
  | 1 => ("VerandaTalk$Matter", "kind", "I", true)
  | 2 => ("VerandaTalk$Matter", "v", "I", true)
  | _ => ("VerandaTalk$Matter", "ran", "[I", true)
def tyX4 : Nat → FieldType := fun k => match k with
  | 0 => .int
  | 1 => .int
  | 2 => .int
  | _ => .array .int
abbrev wsX40 : List Cond := u_ws RX4 TX4 4
theorem nmX4 : ∀ a, a < 4 → ∀ b, b < 4 → a ≠ b → (TX4 a).2.1 ≠ (TX4 b).2.1 := by decide +kernel
theorem tyX4_ok : ∀ k, k < 4 → parseFieldDescriptor (TX4 k).2.2.1 = some (tyX4 k) := by decide +kernel
abbrev cX4_init : ByteArray := prog_6_method_1_code
def yX4_init : MethodName := ⟨RX4, "<init>", "(III[I)V"⟩
abbrev cX4_stir : ByteArray := prog_6_method_2_code
def yX4_stir : MethodName := ⟨RX4, "stir", "(LVerandaTalk$Veranda;I)I"⟩
abbrev cX4_turns : ByteArray := prog_6_method_3_code
def yX4_turns : MethodName := ⟨RX4, "turns", "(I)I"⟩
def RX5 : String := "VerandaTalk$Marriage"
def TX5 : u_T := fun k => match k with
  | 0 => ("VerandaTalk$Matter", "number", "I", true)
  | 1 => ("VerandaTalk$Matter", "kind", "I", true)
  | 2 => ("VerandaTalk$Matter", "v", "I", true)
  | _ => ("VerandaTalk$Matter", "ran", "[I", true)
def tyX5 : Nat → FieldType := fun k => match k with
  | 0 => .int
  | 1 => .int
  | 2 => .int
  | _ => .array .int
abbrev wsX50 : List Cond := u_ws RX5 TX5 4
theorem nmX5 : ∀ a, a < 4 → ∀ b, b < 4 → a ≠ b → (TX5 a).2.1 ≠ (TX5 b).2.1 := by decide +kernel
theorem tyX5_ok : ∀ k, k < 4 → parseFieldDescriptor (TX5 k).2.2.1 = some (tyX5 k) := by decide +kernel
abbrev cX5_init : ByteArray := prog_7_method_1_code
def yX5_init : MethodName := ⟨RX5, "<init>", "(III[I)V"⟩
abbrev cX5_stir : ByteArray := prog_7_method_2_code
def yX5_stir : MethodName := ⟨RX5, "stir", "(LVerandaTalk$Veranda;I)I"⟩
abbrev cX5_waits : ByteArray := prog_7_method_3_code
def yX5_waits : MethodName := ⟨RX5, "waits", "(I)I"⟩
def RX6 : String := "VerandaTalk$Matter"
def TX6 : u_T := fun k => match k with
  | 0 => ("VerandaTalk$Matter", "number", "I", true)
  | 1 => ("VerandaTalk$Matter", "kind", "I", true)
  | 2 => ("VerandaTalk$Matter", "v", "I", true)
  | _ => ("VerandaTalk$Matter", "ran", "[I", true)
def tyX6 : Nat → FieldType := fun k => match k with
  | 0 => .int
  | 1 => .int
  | 2 => .int
  | _ => .array .int
abbrev wsX60 : List Cond := u_ws RX6 TX6 4
theorem nmX6 : ∀ a, a < 4 → ∀ b, b < 4 → a ≠ b → (TX6 a).2.1 ≠ (TX6 b).2.1 := by decide +kernel
theorem tyX6_ok : ∀ k, k < 4 → parseFieldDescriptor (TX6 k).2.2.1 = some (tyX6 k) := by decide +kernel
abbrev cX6_init : ByteArray := prog_8_method_1_code
def yX6_init : MethodName := ⟨RX6, "<init>", "(III[I)V"⟩
abbrev cX6_stir : ByteArray := prog_8_method_2_code
def yX6_stir : MethodName := ⟨RX6, "stir", "(LVerandaTalk$Veranda;I)I"⟩
abbrev cX6_waits : ByteArray := prog_8_method_3_code
def yX6_waits : MethodName := ⟨RX6, "waits", "(I)I"⟩
abbrev cX6_nods : ByteArray := prog_8_method_4_code
def yX6_nods : MethodName := ⟨RX6, "nods", "(I)I"⟩
abbrev cX6_turns : ByteArray := prog_8_method_5_code
def yX6_turns : MethodName := ⟨RX6, "turns", "(I)I"⟩
abbrev cX6_begin : ByteArray := prog_8_method_6_code
def yX6_begin : MethodName := ⟨RX6, "begin", "(I)V"⟩
def RX7 : String := "VerandaTalk$Possible"
def TX7 : u_T := fun k => match k with
  | 0 => ("VerandaTalk$Matter", "number", "I", true)
  | 1 => ("VerandaTalk$Matter", "kind", "I", true)
  | 2 => ("VerandaTalk$Matter", "v", "I", true)
  | _ => ("VerandaTalk$Matter", "ran", "[I", true)
def tyX7 : Nat → FieldType := fun k => match k with
  | 0 => .int
  | 1 => .int
  | 2 => .int
  | _ => .array .int
abbrev wsX70 : List Cond := u_ws RX7 TX7 4
theorem nmX7 : ∀ a, a < 4 → ∀ b, b < 4 → a ≠ b → (TX7 a).2.1 ≠ (TX7 b).2.1 := by decide +kernel
theorem tyX7_ok : ∀ k, k < 4 → parseFieldDescriptor (TX7 k).2.2.1 = some (tyX7 k) := by decide +kernel
abbrev cX7_init : ByteArray := prog_9_method_1_code
def yX7_init : MethodName := ⟨RX7, "<init>", "(III[I)V"⟩
abbrev cX7_stir : ByteArray := prog_9_method_2_code
def yX7_stir : MethodName := ⟨RX7, "stir", "(LVerandaTalk$Veranda;I)I"⟩
abbrev cX7_turns : ByteArray := prog_9_method_3_code
def yX7_turns : MethodName := ⟨RX7, "turns", "(I)I"⟩
def RX8 : String := "VerandaTalk$Station"
def TX8 : u_T := fun k => match k with
  | 0 => ("VerandaTalk$Station", "due", "I", false)
  | 1 => ("VerandaTalk$Station", "fade", "I", false)
  | 2 => ("VerandaTalk$Station", "stirring", "I", false)
  | 3 => ("VerandaTalk$Station", "amounts", "[I", true)
  | 4 => ("VerandaTalk$Station", "ends", "[I", true)
  | 5 => ("VerandaTalk$Station", "code", "[I", true)
  | 6 => ("VerandaTalk$Station", "coded", "I", false)
  | 7 => ("VerandaTalk$Station", "tape", "[B", false)
  | 8 => ("VerandaTalk$Station", "size", "I", false)
  | _ => ("VerandaTalk$Station", "at", "I", false)
def tyX8 : Nat → FieldType := fun k => match k with
  | 0 => .int
  | 1 => .int
  | 2 => .int
  | 3 => .array .int
  | 4 => .array .int
  | 5 => .array .int
  | 6 => .int
  | 7 => .array .byte
  | 8 => .int
  | _ => .int
abbrev wsX80 : List Cond := u_ws RX8 TX8 10
theorem nmX8 : ∀ a, a < 10 → ∀ b, b < 10 → a ≠ b → (TX8 a).2.1 ≠ (TX8 b).2.1 := by decide +kernel
theorem tyX8_ok : ∀ k, k < 10 → parseFieldDescriptor (TX8 k).2.2.1 = some (tyX8 k) := by decide +kernel
abbrev cX8_init : ByteArray := prog_10_method_1_code
def yX8_init : MethodName := ⟨RX8, "<init>", "()V"⟩
abbrev cX8_read : ByteArray := prog_10_method_2_code
def yX8_read : MethodName := ⟨RX8, "read", "([BI)I"⟩
abbrev cX8_readClause : ByteArray := prog_10_method_3_code
def yX8_readClause : MethodName := ⟨RX8, "readClause", "()Z"⟩
abbrev cX8_wordFrom : ByteArray := prog_10_method_4_code
def yX8_wordFrom : MethodName := ⟨RX8, "wordFrom", "(I)Ljava/lang/String;"⟩
abbrev cX8_readEither : ByteArray := prog_10_method_5_code
def yX8_readEither : MethodName := ⟨RX8, "readEither", "(I)Z"⟩
abbrev cX8_readBoth : ByteArray := prog_10_method_6_code
def yX8_readBoth : MethodName := ⟨RX8, "readBoth", "(I)Z"⟩
abbrev cX8_readPart : ByteArray := prog_10_method_7_code
def yX8_readPart : MethodName := ⟨RX8, "readPart", "(I)Z"⟩
abbrev cX8_readNumber : ByteArray := prog_10_method_8_code
def yX8_readNumber : MethodName := ⟨RX8, "readNumber", "()I"⟩
abbrev cX8_digitOf : ByteArray := prog_10_method_9_code
def yX8_digitOf : MethodName := ⟨RX8, "digitOf", "(I)I"⟩
abbrev cX8_takeOneOf : ByteArray := prog_10_method_10_code
def yX8_takeOneOf : MethodName := ⟨RX8, "takeOneOf", "(Ljava/lang/String;)I"⟩
abbrev cX8_takeWord : ByteArray := prog_10_method_11_code
def yX8_takeWord : MethodName := ⟨RX8, "takeWord", "(Ljava/lang/String;)Z"⟩
abbrev cX8_take : ByteArray := prog_10_method_12_code
def yX8_take : MethodName := ⟨RX8, "take", "(C)Z"⟩
abbrev cX8_peek : ByteArray := prog_10_method_13_code
def yX8_peek : MethodName := ⟨RX8, "peek", "()I"⟩
abbrev cX8_put : ByteArray := prog_10_method_14_code
def yX8_put : MethodName := ⟨RX8, "put", "(I)V"⟩
abbrev cX8_passes : ByteArray := prog_10_method_15_code
def yX8_passes : MethodName := ⟨RX8, "passes", "(III)Z"⟩
abbrev cX8_holds : ByteArray := prog_10_method_16_code
def yX8_holds : MethodName := ⟨RX8, "holds", "(I[I)Z"⟩
def RX9 : String := "VerandaTalk$Told"
def TX9 : u_T := fun k => match k with
  | 0 => ("VerandaTalk$Matter", "number", "I", true)
  | 1 => ("VerandaTalk$Matter", "kind", "I", true)
  | 2 => ("VerandaTalk$Matter", "v", "I", true)
  | _ => ("VerandaTalk$Matter", "ran", "[I", true)
def tyX9 : Nat → FieldType := fun k => match k with
  | 0 => .int
  | 1 => .int
  | 2 => .int
  | _ => .array .int
abbrev wsX90 : List Cond := u_ws RX9 TX9 4
theorem nmX9 : ∀ a, a < 4 → ∀ b, b < 4 → a ≠ b → (TX9 a).2.1 ≠ (TX9 b).2.1 := by decide +kernel
theorem tyX9_ok : ∀ k, k < 4 → parseFieldDescriptor (TX9 k).2.2.1 = some (tyX9 k) := by decide +kernel
abbrev cX9_init : ByteArray := prog_11_method_1_code
def yX9_init : MethodName := ⟨RX9, "<init>", "(III[I)V"⟩
abbrev cX9_stir : ByteArray := prog_11_method_2_code
def yX9_stir : MethodName := ⟨RX9, "stir", "(LVerandaTalk$Veranda;I)I"⟩
abbrev cX9_nods : ByteArray := prog_11_method_3_code
def yX9_nods : MethodName := ⟨RX9, "nods", "(I)I"⟩
def RX10 : String := "VerandaTalk$Veranda"
def TX10 : u_T := fun k => match k with
  | 0 => ("VerandaTalk$Veranda", "matters", "[LVerandaTalk$Matter;", true)
  | 1 => ("VerandaTalk$Veranda", "kinds", "[I", true)
  | 2 => ("VerandaTalk$Veranda", "v", "[I", true)
  | 3 => ("VerandaTalk$Veranda", "age", "[I", true)
  | 4 => ("VerandaTalk$Veranda", "talked", "[I", true)
  | 5 => ("VerandaTalk$Veranda", "ties", "[I", true)
  | 6 => ("VerandaTalk$Veranda", "rows", "[I", true)
  | 7 => ("VerandaTalk$Veranda", "looks", "[I", true)
  | 8 => ("VerandaTalk$Veranda", "size", "I", false)
  | 9 => ("VerandaTalk$Veranda", "settled", "I", false)
  | 10 => ("VerandaTalk$Veranda", "shelved", "I", false)
  | 11 => ("VerandaTalk$Veranda", "cost", "I", false)
  | 12 => ("VerandaTalk$Veranda", "evening", "I", false)
  | 13 => ("VerandaTalk$Veranda", "due", "I", false)
  | 14 => ("VerandaTalk$Veranda", "station", "LVerandaTalk$Station;", false)
  | _ => ("VerandaTalk$Veranda", "stations", "I", false)
def tyX10 : Nat → FieldType := fun k => match k with
  | 0 => .array (.object "VerandaTalk$Matter")
  | 1 => .array .int
  | 2 => .array .int
  | 3 => .array .int
  | 4 => .array .int
  | 5 => .array .int
  | 6 => .array .int
  | 7 => .array .int
  | 8 => .int
  | 9 => .int
  | 10 => .int
  | 11 => .int
  | 12 => .int
  | 13 => .int
  | 14 => .object "VerandaTalk$Station"
  | _ => .int
abbrev wsX100 : List Cond := u_ws RX10 TX10 16
theorem nmX10 : ∀ a, a < 16 → ∀ b, b < 16 → a ≠ b → (TX10 a).2.1 ≠ (TX10 b).2.1 := by decide +kernel
theorem tyX10_ok : ∀ k, k < 16 → parseFieldDescriptor (TX10 k).2.2.1 = some (tyX10 k) := by decide +kernel
abbrev cX10_init : ByteArray := prog_12_method_1_code
def yX10_init : MethodName := ⟨RX10, "<init>", "()V"⟩
abbrev cX10_copyFrom : ByteArray := prog_12_method_2_code
def yX10_copyFrom : MethodName := ⟨RX10, "copyFrom", "(LVerandaTalk$Veranda;)V"⟩
abbrev cX10_join : ByteArray := prog_12_method_3_code
def yX10_join : MethodName := ⟨RX10, "join", "(LVerandaTalk$Matter;)V"⟩
abbrev cX10_hold : ByteArray := prog_12_method_4_code
def yX10_hold : MethodName := ⟨RX10, "hold", "(LVerandaTalk$Station;)V"⟩
abbrev cX10_isSettled : ByteArray := prog_12_method_5_code
def yX10_isSettled : MethodName := ⟨RX10, "isSettled", "(I)Z"⟩
abbrev cX10_unsettledOnes : ByteArray := prog_12_method_6_code
def yX10_unsettledOnes : MethodName := ⟨RX10, "unsettledOnes", "()I"⟩
abbrev cX10_openOnes : ByteArray := prog_12_method_7_code
def yX10_openOnes : MethodName := ⟨RX10, "openOnes", "()I"⟩
abbrev cX10_isReady : ByteArray := prog_12_method_8_code
def yX10_isReady : MethodName := ⟨RX10, "isReady", "(I)Z"⟩
abbrev cX10_readyOnes : ByteArray := prog_12_method_9_code
def yX10_readyOnes : MethodName := ⟨RX10, "readyOnes", "()I"⟩
abbrev cX10_stirOf : ByteArray := prog_12_method_10_code
def yX10_stirOf : MethodName := ⟨RX10, "stirOf", "(I)I"⟩
abbrev cX10_sumOf : ByteArray := prog_12_method_11_code
def yX10_sumOf : MethodName := ⟨RX10, "sumOf", "(I)I"⟩
abbrev cX10_topic : ByteArray := prog_12_method_12_code
def yX10_topic : MethodName := ⟨RX10, "topic", "()I"⟩
abbrev cX10_goOn : ByteArray := prog_12_method_13_code
def yX10_goOn : MethodName := ⟨RX10, "goOn", "(I)V"⟩
abbrev cX10_netOf : ByteArray := prog_12_method_14_code
def yX10_netOf : MethodName := ⟨RX10, "netOf", "(I)I"⟩
abbrev cX10_ring : ByteArray := prog_12_method_15_code
def yX10_ring : MethodName := ⟨RX10, "ring", "()I"⟩
def RX11 : String := "VerandaTalk"
def TX11 : u_T := fun k => match k with
  | 0 => ("VerandaTalk", "now", "LVerandaTalk$Veranda;", true)
  | 1 => ("VerandaTalk", "hand", "LVerandaTalk$Hand;", true)
  | 2 => ("VerandaTalk", "imageNow", "LVerandaTalk$Veranda;", true)
  | 3 => ("VerandaTalk", "imageHand", "LVerandaTalk$Hand;", true)
  | 4 => ("VerandaTalk", "asked", "LVerandaTalk$Asked;", true)
  | 5 => ("VerandaTalk", "ran", "[I", true)
  | 6 => ("VerandaTalk", "spare", "LVerandaTalk$Station;", false)
  | _ => ("VerandaTalk", "hasImage", "Z", false)
def tyX11 : Nat → FieldType := fun k => match k with
  | 0 => .object "VerandaTalk$Veranda"
  | 1 => .object "VerandaTalk$Hand"
  | 2 => .object "VerandaTalk$Veranda"
  | 3 => .object "VerandaTalk$Hand"
  | 4 => .object "VerandaTalk$Asked"
  | 5 => .array .int
  | 6 => .object "VerandaTalk$Station"
  | _ => .boolean
abbrev wsX110 : List Cond := u_ws RX11 TX11 8
theorem nmX11 : ∀ a, a < 8 → ∀ b, b < 8 → a ≠ b → (TX11 a).2.1 ≠ (TX11 b).2.1 := by decide +kernel
theorem tyX11_ok : ∀ k, k < 8 → parseFieldDescriptor (TX11 k).2.2.1 = some (tyX11 k) := by decide +kernel
abbrev cX11_init : ByteArray := prog_1_method_1_code
def yX11_init : MethodName := ⟨RX11, "<init>", "()V"⟩
abbrev cX11_feed : ByteArray := prog_1_method_2_code
def yX11_feed : MethodName := ⟨RX11, "feed", "(I)I"⟩
abbrev cX11_station : ByteArray := prog_1_method_3_code
def yX11_station : MethodName := ⟨RX11, "station", "()I"⟩
abbrev cX11_matter : ByteArray := prog_1_method_4_code
def yX11_matter : MethodName := ⟨RX11, "matter", "(II)I"⟩
abbrev cX11_of : ByteArray := prog_1_method_5_code
def yX11_of : MethodName := ⟨RX11, "of", "(II)I"⟩
abbrev cX11_row : ByteArray := prog_1_method_6_code
def yX11_row : MethodName := ⟨RX11, "row", "(III)I"⟩
abbrev cX11_tie : ByteArray := prog_1_method_7_code
def yX11_tie : MethodName := ⟨RX11, "tie", "(IIZ)I"⟩
abbrev cX11_shelve : ByteArray := prog_1_method_8_code
def yX11_shelve : MethodName := ⟨RX11, "shelve", "(IZ)I"⟩
abbrev cX11_reopen : ByteArray := prog_1_method_9_code
def yX11_reopen : MethodName := ⟨RX11, "reopen", "(I)I"⟩
abbrev cX11_told : ByteArray := prog_1_method_10_code
def yX11_told : MethodName := ⟨RX11, "told", "(I)I"⟩
abbrev cX11_talk : ByteArray := prog_1_method_11_code
def yX11_talk : MethodName := ⟨RX11, "talk", "(I)I"⟩
abbrev cX11_pass : ByteArray := prog_1_method_12_code
def yX11_pass : MethodName := ⟨RX11, "pass", "(I)I"⟩
abbrev cX11_on : ByteArray := prog_1_method_13_code
def yX11_on : MethodName := ⟨RX11, "on", "(II)I"⟩
abbrev cX11_when : ByteArray := prog_1_method_14_code
def yX11_when : MethodName := ⟨RX11, "when", "(I)I"⟩
abbrev cX11_agenda : ByteArray := prog_1_method_15_code
def yX11_agenda : MethodName := ⟨RX11, "agenda", "(II)I"⟩
abbrev cX11_net : ByteArray := prog_1_method_16_code
def yX11_net : MethodName := ⟨RX11, "net", "(I)I"⟩
abbrev cX11_see : ByteArray := prog_1_method_17_code
def yX11_see : MethodName := ⟨RX11, "see", "(IIZ)I"⟩
abbrev cX11_dues : ByteArray := prog_1_method_18_code
def yX11_dues : MethodName := ⟨RX11, "dues", "(I)I"⟩
abbrev cX11_firm : ByteArray := prog_1_method_19_code
def yX11_firm : MethodName := ⟨RX11, "firm", "(II)I"⟩
abbrev cX11_odds : ByteArray := prog_1_method_20_code
def yX11_odds : MethodName := ⟨RX11, "odds", "(III)J"⟩
abbrev cX11_mean : ByteArray := prog_1_method_21_code
def yX11_mean : MethodName := ⟨RX11, "mean", "(I)J"⟩
abbrev cX11_plan : ByteArray := prog_1_method_22_code
def yX11_plan : MethodName := ⟨RX11, "plan", "(II)I"⟩
abbrev cX11_done : ByteArray := prog_1_method_23_code
def yX11_done : MethodName := ⟨RX11, "done", "(I)I"⟩
abbrev cX11_book : ByteArray := prog_1_method_24_code
def yX11_book : MethodName := ⟨RX11, "book", "(II)I"⟩
abbrev cX11_looked : ByteArray := prog_1_method_25_code
def yX11_looked : MethodName := ⟨RX11, "looked", "()I"⟩
abbrev cX11_act : ByteArray := prog_1_method_26_code
def yX11_act : MethodName := ⟨RX11, "act", "(III)I"⟩
abbrev cX11_trace : ByteArray := prog_1_method_27_code
def yX11_trace : MethodName := ⟨RX11, "trace", "(I)I"⟩
abbrev cX11_as : ByteArray := prog_1_method_28_code
def yX11_as : MethodName := ⟨RX11, "as", "(II)I"⟩
abbrev cX11_image : ByteArray := prog_1_method_29_code
def yX11_image : MethodName := ⟨RX11, "image", "()I"⟩
abbrev cX11_undo : ByteArray := prog_1_method_30_code
def yX11_undo : MethodName := ⟨RX11, "undo", "()I"⟩
abbrev cX11_count : ByteArray := prog_1_method_31_code
def yX11_count : MethodName := ⟨RX11, "count", "(I)I"⟩
abbrev cX11_isMatter : ByteArray := prog_1_method_32_code
def yX11_isMatter : MethodName := ⟨RX11, "isMatter", "(I)Z"⟩
abbrev cX11_isAhead : ByteArray := prog_1_method_33_code
def yX11_isAhead : MethodName := ⟨RX11, "isAhead", "(I)Z"⟩
abbrev cX11_isPart : ByteArray := prog_1_method_34_code
def yX11_isPart : MethodName := ⟨RX11, "isPart", "(I)Z"⟩
abbrev cX11_withBit : ByteArray := prog_1_method_35_code
def yX11_withBit : MethodName := ⟨RX11, "withBit", "(IIZ)I"⟩
abbrev cX11_isUnder : ByteArray := prog_1_method_36_code
def yX11_isUnder : MethodName := ⟨RX11, "isUnder", "(II)Z"⟩
abbrev cX11_inLowestTerms : ByteArray := prog_1_method_37_code
def yX11_inLowestTerms : MethodName := ⟨RX11, "inLowestTerms", "(III)J"⟩
abbrev cX11_commonDivisor : ByteArray := prog_1_method_38_code
def yX11_commonDivisor : MethodName := ⟨RX11, "commonDivisor", "(II)I"⟩
abbrev cX11_newMatter : ByteArray := prog_1_method_39_code
def yX11_newMatter : MethodName := ⟨RX11, "newMatter", "(III)LVerandaTalk$Matter;"⟩
def RX12 : String := "VerandaTalkModel"
def TX12 : u_T := fun k => match k with
  | _ => ("", "", "", false)
def tyX12 : Nat → FieldType := fun k => match k with
  | _ => .int
abbrev wsX120 : List Cond := u_ws RX12 TX12 0
theorem nmX12 : ∀ a, a < 0 → ∀ b, b < 0 → a ≠ b → (TX12 a).2.1 ≠ (TX12 b).2.1 := by decide +kernel
theorem tyX12_ok : ∀ k, k < 0 → parseFieldDescriptor (TX12 k).2.2.1 = some (tyX12 k) := by decide +kernel
def RJ11 : String := "java/lang/Character"
def TJ11 : u_T := fun k => match k with
  | _ => ("", "", "", false)
def tyJ11 : Nat → FieldType := fun k => match k with
  | _ => .int
abbrev wsJ110 : List Cond := u_ws RJ11 TJ11 0
theorem nmJ11 : ∀ a, a < 0 → ∀ b, b < 0 → a ≠ b → (TJ11 a).2.1 ≠ (TJ11 b).2.1 := by decide +kernel
theorem tyJ11_ok : ∀ k, k < 0 → parseFieldDescriptor (TJ11 k).2.2.1 = some (tyJ11 k) := by decide +kernel
abbrev cJ11_isValidCodePoint_9a6ad : ByteArray := prog_15_method_11_code
def yJ11_isValidCodePoint_9a6ad : MethodName := ⟨RJ11, "isValidCodePoint", "(I)Z"⟩
abbrev cJ11_highSurrogate_5068e : ByteArray := prog_15_method_28_code
def yJ11_highSurrogate_5068e : MethodName := ⟨RJ11, "highSurrogate", "(I)C"⟩
abbrev cJ11_lowSurrogate_5068e : ByteArray := prog_15_method_29_code
def yJ11_lowSurrogate_5068e : MethodName := ⟨RJ11, "lowSurrogate", "(I)C"⟩
def RJ6 : String := "java/lang/Integer"
def TJ6 : u_T := fun k => match k with
  | _ => ("", "", "", false)
def tyJ6 : Nat → FieldType := fun k => match k with
  | _ => .int
abbrev wsJ60 : List Cond := u_ws RJ6 TJ6 0
theorem nmJ6 : ∀ a, a < 0 → ∀ b, b < 0 → a ≠ b → (TJ6 a).2.1 ≠ (TJ6 b).2.1 := by decide +kernel
theorem tyJ6_ok : ∀ k, k < 0 → parseFieldDescriptor (TJ6 k).2.2.1 = some (tyJ6 k) := by decide +kernel
abbrev cJ6_bitCount_0f7a4 : ByteArray := prog_16_method_49_code
def yJ6_bitCount_0f7a4 : MethodName := ⟨RJ6, "bitCount", "(I)I"⟩
def RJ9 : String := "java/lang/Math"
def TJ9 : u_T := fun k => match k with
  | _ => ("", "", "", false)
def tyJ9 : Nat → FieldType := fun k => match k with
  | _ => .int
abbrev wsJ90 : List Cond := u_ws RJ9 TJ9 0
theorem nmJ9 : ∀ a, a < 0 → ∀ b, b < 0 → a ≠ b → (TJ9 a).2.1 ≠ (TJ9 b).2.1 := by decide +kernel
theorem tyJ9_ok : ∀ k, k < 0 → parseFieldDescriptor (TJ9 k).2.2.1 = some (tyJ9 k) := by decide +kernel
abbrev cJ9_max_7cf53 : ByteArray := prog_17_method_65_code
def yJ9_max_7cf53 : MethodName := ⟨RJ9, "max", "(II)I"⟩
abbrev cJ9_min_7cf53 : ByteArray := prog_17_method_69_code
def yJ9_min_7cf53 : MethodName := ⟨RJ9, "min", "(II)I"⟩
def RJ0 : String := "java/lang/String"
def TJ0 : u_T := fun k => match k with
  | _ => ("", "", "", false)
def tyJ0 : Nat → FieldType := fun k => match k with
  | _ => .int
abbrev wsJ00 : List Cond := u_ws RJ0 TJ0 0
theorem nmJ0 : ∀ a, a < 0 → ∀ b, b < 0 → a ≠ b → (TJ0 a).2.1 ≠ (TJ0 b).2.1 := by decide +kernel
theorem tyJ0_ok : ∀ k, k < 0 → parseFieldDescriptor (TJ0 k).2.2.1 = some (tyJ0 k) := by decide +kernel
abbrev cJ0_length_8abf5 : ByteArray := prog_18_method_54_code
def yJ0_length_8abf5 : MethodName := ⟨RJ0, "length", "()I"⟩
abbrev cJ0_isEmpty_aae02 : ByteArray := prog_18_method_55_code
def yJ0_isEmpty_aae02 : MethodName := ⟨RJ0, "isEmpty", "()Z"⟩
abbrev cJ0_charAt_5068e : ByteArray := prog_18_method_56_code
def yJ0_charAt_5068e : MethodName := ⟨RJ0, "charAt", "(I)C"⟩
abbrev cJ0_indexOf_0f7a4 : ByteArray := prog_18_method_79_code
def yJ0_indexOf_0f7a4 : MethodName := ⟨RJ0, "indexOf", "(I)I"⟩
abbrev cJ0_indexOf_7cf53 : ByteArray := prog_18_method_80_code
def yJ0_indexOf_7cf53 : MethodName := ⟨RJ0, "indexOf", "(II)I"⟩
abbrev cJ0_coder_7d493 : ByteArray := prog_18_method_152_code
def yJ0_coder_7d493 : MethodName := ⟨RJ0, "coder", "()B"⟩
abbrev cJ0_isLatin1_aae02 : ByteArray := prog_18_method_154_code
def yJ0_isLatin1_aae02 : MethodName := ⟨RJ0, "isLatin1", "()Z"⟩
abbrev cJ0_checkIndex_df160 : ByteArray := prog_18_method_155_code
def yJ0_checkIndex_df160 : MethodName := ⟨RJ0, "checkIndex", "(II)V"⟩
abbrev cJ0_checkBoundsBeginEnd_23922 : ByteArray := prog_18_method_158_code
def yJ0_checkBoundsBeginEnd_23922 : MethodName := ⟨RJ0, "checkBoundsBeginEnd", "(III)V"⟩
def RJ1 : String := "java/lang/StringLatin1"
def TJ1 : u_T := fun k => match k with
  | _ => ("", "", "", false)
def tyJ1 : Nat → FieldType := fun k => match k with
  | _ => .int
abbrev wsJ10 : List Cond := u_ws RJ1 TJ1 0
theorem nmJ1 : ∀ a, a < 0 → ∀ b, b < 0 → a ≠ b → (TJ1 a).2.1 ≠ (TJ1 b).2.1 := by decide +kernel
theorem tyJ1_ok : ∀ k, k < 0 → parseFieldDescriptor (TJ1 k).2.2.1 = some (tyJ1 k) := by decide +kernel
abbrev cJ1_charAt_3b067 : ByteArray := prog_19_method_2_code
def yJ1_charAt_3b067 : MethodName := ⟨RJ1, "charAt", "([BI)C"⟩
abbrev cJ1_canEncode_9a6ad : ByteArray := prog_19_method_4_code
def yJ1_canEncode_9a6ad : MethodName := ⟨RJ1, "canEncode", "(I)Z"⟩
abbrev cJ1_indexOf_4cfef : ByteArray := prog_19_method_22_code
def yJ1_indexOf_4cfef : MethodName := ⟨RJ1, "indexOf", "([BIII)I"⟩
abbrev cJ1_indexOfChar_4cfef : ByteArray := prog_19_method_23_code
def yJ1_indexOfChar_4cfef : MethodName := ⟨RJ1, "indexOfChar", "([BIII)I"⟩
def RJ2 : String := "java/lang/StringUTF16"
def TJ2 : u_T := fun k => match k with
  | _ => ("", "", "", false)
def tyJ2 : Nat → FieldType := fun k => match k with
  | _ => .int
abbrev wsJ20 : List Cond := u_ws RJ2 TJ2 0
theorem nmJ2 : ∀ a, a < 0 → ∀ b, b < 0 → a ≠ b → (TJ2 a).2.1 ≠ (TJ2 b).2.1 := by decide +kernel
theorem tyJ2_ok : ∀ k, k < 0 → parseFieldDescriptor (TJ2 k).2.2.1 = some (tyJ2 k) := by decide +kernel
abbrev cJ2_getChar_3b067 : ByteArray := prog_20_method_5_code
def yJ2_getChar_3b067 : MethodName := ⟨RJ2, "getChar", "([BI)C"⟩
abbrev cJ2_length_9d52b : ByteArray := prog_20_method_6_code
def yJ2_length_9d52b : MethodName := ⟨RJ2, "length", "([B)I"⟩
abbrev cJ2_indexOf_4cfef : ByteArray := prog_20_method_40_code
def yJ2_indexOf_4cfef : MethodName := ⟨RJ2, "indexOf", "([BIII)I"⟩
abbrev cJ2_indexOfChar_4cfef : ByteArray := prog_20_method_47_code
def yJ2_indexOfChar_4cfef : MethodName := ⟨RJ2, "indexOfChar", "([BIII)I"⟩
abbrev cJ2_indexOfCharUnsafe_4cfef : ByteArray := prog_20_method_48_code
def yJ2_indexOfCharUnsafe_4cfef : MethodName := ⟨RJ2, "indexOfCharUnsafe", "([BIII)I"⟩
abbrev cJ2_indexOfSupplementary_4cfef : ByteArray := prog_20_method_49_code
def yJ2_indexOfSupplementary_4cfef : MethodName := ⟨RJ2, "indexOfSupplementary", "([BIII)I"⟩
abbrev cJ2_charAt_3b067 : ByteArray := prog_20_method_83_code
def yJ2_charAt_3b067 : MethodName := ⟨RJ2, "charAt", "([BI)C"⟩
abbrev cJ2_checkIndex_2214a : ByteArray := prog_20_method_91_code
def yJ2_checkIndex_2214a : MethodName := ⟨RJ2, "checkIndex", "(I[B)V"⟩
abbrev cJ2_checkBoundsBeginEnd_d044e : ByteArray := prog_20_method_93_code
def yJ2_checkBoundsBeginEnd_d044e : MethodName := ⟨RJ2, "checkBoundsBeginEnd", "(II[B)V"⟩
def RJ10 : String := "java/lang/System"
def TJ10 : u_T := fun k => match k with
  | _ => ("", "", "", false)
def tyJ10 : Nat → FieldType := fun k => match k with
  | _ => .int
abbrev wsJ100 : List Cond := u_ws RJ10 TJ10 0
theorem nmJ10 : ∀ a, a < 0 → ∀ b, b < 0 → a ≠ b → (TJ10 a).2.1 ≠ (TJ10 b).2.1 := by decide +kernel
theorem tyJ10_ok : ∀ k, k < 0 → parseFieldDescriptor (TJ10 k).2.2.1 = some (tyJ10 k) := by decide +kernel
def RJ3 : String := "jdk/internal/util/Preconditions"
def TJ3 : u_T := fun k => match k with
  | _ => ("", "", "", false)
def tyJ3 : Nat → FieldType := fun k => match k with
  | _ => .int
abbrev wsJ30 : List Cond := u_ws RJ3 TJ3 0
theorem nmJ3 : ∀ a, a < 0 → ∀ b, b < 0 → a ≠ b → (TJ3 a).2.1 ≠ (TJ3 b).2.1 := by decide +kernel
theorem tyJ3_ok : ∀ k, k < 0 → parseFieldDescriptor (TJ3 k).2.2.1 = some (tyJ3 k) := by decide +kernel
abbrev cJ3_checkIndex_8e157 : ByteArray := prog_22_method_11_code
def yJ3_checkIndex_8e157 : MethodName := ⟨RJ3, "checkIndex", "(IILjava/util/function/BiFunction;)I"⟩
abbrev cJ3_checkFromToIndex_8c36e : ByteArray := prog_22_method_12_code
def yJ3_checkFromToIndex_8c36e : MethodName := ⟨RJ3, "checkFromToIndex", "(IIILjava/util/function/BiFunction;)I"⟩
def RL : String := "VerandaTalkLaw"
abbrev cL_at : ByteArray := method_2_code
def yL_at : MethodName := ⟨RL, "at", "([II)I"⟩
abbrev cL_some : ByteArray := method_3_code
def yL_some : MethodName := ⟨RL, "some", "(II)I"⟩
abbrev cL_feeds : ByteArray := method_4_code
def yL_feeds : MethodName := ⟨RL, "feeds", "(LVerandaTalk;Ljava/lang/String;I)I"⟩
abbrev cL_text : ByteArray := method_5_code
def yL_text : MethodName := ⟨RL, "text", "(I)Ljava/lang/String;"⟩
abbrev cL_which : ByteArray := method_7_code
def yL_which : MethodName := ⟨RL, "which", "([I)I"⟩
abbrev cL_due : ByteArray := method_8_code
def yL_due : MethodName := ⟨RL, "due", "([I)I"⟩
abbrev cL_matters : ByteArray := method_10_code
def yL_matters : MethodName := ⟨RL, "matters", "([I)I"⟩
abbrev cL_kind : ByteArray := method_11_code
def yL_kind : MethodName := ⟨RL, "kind", "([II)I"⟩
abbrev cL_v : ByteArray := method_12_code
def yL_v : MethodName := ⟨RL, "v", "([II)I"⟩
abbrev cL_row : ByteArray := method_13_code
def yL_row : MethodName := ⟨RL, "row", "([III)I"⟩
abbrev cL_station : ByteArray := method_14_code
def yL_station : MethodName := ⟨RL, "station", "([IIII)LVerandaTalk;"⟩
abbrev cL_goes : ByteArray := method_18_code
def yL_goes : MethodName := ⟨RL, "goes", "(LVerandaTalk;)I"⟩
abbrev cL_act0 : ByteArray := method_20_code
def yL_act0 : MethodName := ⟨RL, "act0", "(III)I"⟩
abbrev cL_act1 : ByteArray := method_21_code
def yL_act1 : MethodName := ⟨RL, "act1", "(IIII)I"⟩
abbrev cL_act : ByteArray := method_22_code
def yL_act : MethodName := ⟨RL, "act", "(LVerandaTalk;II)V"⟩
abbrev cL_all : ByteArray := method_23_code
def yL_all : MethodName := ⟨RL, "all", "(LVerandaTalk;)J"⟩
abbrev cL_law : ByteArray := code
def yL_law : MethodName := ⟨RL, "law", "([I)Z"⟩
/-! the classes by their numbers; no reference here: 12 is the face once more -/
abbrev vwCl : List vw_C := [(RX0, TX0, 9), (RX1, TX1, 4), (RX2, TX2, 4), (RX3, TX3, 12), (RX4, TX4, 4), (RX5, TX5, 4), (RX6, TX6, 4), (RX7, TX7, 4), (RX8, TX8, 10), (RX9, TX9, 4), (RX10, TX10, 16), (RX11, TX11, 8), (RX11, TX11, 8)]
