def RX0 : String := "PastureBanker$Banker"
def TX0 : u_T := fun k => match k with
  | 0 => ("PastureBanker$Banker", "order", "[I", true)
  | _ => ("PastureBanker$Banker", "free", "[I", true)
def tyX0 : Nat → FieldType := fun k => match k with
  | 0 => .array .int
  | _ => .array .int
abbrev wsX00 : List Cond := u_ws RX0 TX0 2
theorem nmX0 : ∀ a, a < 2 → ∀ b, b < 2 → a ≠ b → (TX0 a).2.1 ≠ (TX0 b).2.1 := by decide +kernel
theorem tyX0_ok : ∀ k, k < 2 → parseFieldDescriptor (TX0 k).2.2.1 = some (tyX0 k) := by decide +kernel
abbrev cX0_init : ByteArray := prog_2_method_1_code
def yX0_init : MethodName := ⟨RX0, "<init>", "()V"⟩
abbrev cX0_startWithAvailable : ByteArray := prog_2_method_2_code
def yX0_startWithAvailable : MethodName := ⟨RX0, "startWithAvailable", "(LPastureBanker$State;)V"⟩
abbrev cX0_addAllocations : ByteArray := prog_2_method_3_code
def yX0_addAllocations : MethodName := ⟨RX0, "addAllocations", "(LPastureBanker$State;I)V"⟩
abbrev cX0_finishesWithFree : ByteArray := prog_2_method_4_code
def yX0_finishesWithFree : MethodName := ⟨RX0, "finishesWithFree", "(LPastureBanker$State;I)Z"⟩
abbrev cX0_allCanFinish : ByteArray := prog_2_method_6_code
def yX0_allCanFinish : MethodName := ⟨RX0, "allCanFinish", "(LPastureBanker$State;)Z"⟩
abbrev cX0_isGrantable : ByteArray := prog_2_method_7_code
def yX0_isGrantable : MethodName := ⟨RX0, "isGrantable", "(LPastureBanker$State;III)Z"⟩
abbrev cX0_grantOrQueue : ByteArray := prog_2_method_12_code
def yX0_grantOrQueue : MethodName := ⟨RX0, "grantOrQueue", "(LPastureBanker$State;III)Z"⟩
abbrev cX0_takeBack : ByteArray := prog_2_method_13_code
def yX0_takeBack : MethodName := ⟨RX0, "takeBack", "(LPastureBanker$State;III)I"⟩
abbrev cX0_takeBackAll : ByteArray := prog_2_method_14_code
def yX0_takeBackAll : MethodName := ⟨RX0, "takeBackAll", "(LPastureBanker$State;I)I"⟩
abbrev cX0_withdrawRequest : ByteArray := prog_2_method_15_code
def yX0_withdrawRequest : MethodName := ⟨RX0, "withdrawRequest", "(LPastureBanker$State;I)I"⟩
abbrev cX0_resize : ByteArray := prog_2_method_16_code
def yX0_resize : MethodName := ⟨RX0, "resize", "(LPastureBanker$State;II)I"⟩
abbrev cX0_changeClaim : ByteArray := prog_2_method_17_code
def yX0_changeClaim : MethodName := ⟨RX0, "changeClaim", "(LPastureBanker$State;III)I"⟩
abbrev cX0_serveQueue : ByteArray := prog_2_method_18_code
def yX0_serveQueue : MethodName := ⟨RX0, "serveQueue", "(LPastureBanker$State;)I"⟩
def RX1 : String := "PastureBanker$Debts"
def TX1 : u_T := fun k => match k with
  | _ => ("PastureBanker$Debts", "coins", "[I", true)
def tyX1 : Nat → FieldType := fun k => match k with
  | _ => .array .int
abbrev wsX10 : List Cond := u_ws RX1 TX1 1
theorem nmX1 : ∀ a, a < 1 → ∀ b, b < 1 → a ≠ b → (TX1 a).2.1 ≠ (TX1 b).2.1 := by decide +kernel
theorem tyX1_ok : ∀ k, k < 1 → parseFieldDescriptor (TX1 k).2.2.1 = some (tyX1 k) := by decide +kernel
abbrev cX1_init : ByteArray := prog_3_method_1_code
def yX1_init : MethodName := ⟨RX1, "<init>", "()V"⟩
abbrev cX1_copyFrom : ByteArray := prog_3_method_2_code
def yX1_copyFrom : MethodName := ⟨RX1, "copyFrom", "(LPastureBanker$Debts;)V"⟩
abbrev cX1_clear : ByteArray := prog_3_method_3_code
def yX1_clear : MethodName := ⟨RX1, "clear", "()V"⟩
abbrev cX1_owed : ByteArray := prog_3_method_4_code
def yX1_owed : MethodName := ⟨RX1, "owed", "(II)I"⟩
abbrev cX1_change : ByteArray := prog_3_method_5_code
def yX1_change : MethodName := ⟨RX1, "change", "(III)I"⟩
abbrev cX1_creditorsOf : ByteArray := prog_3_method_8_code
def yX1_creditorsOf : MethodName := ⟨RX1, "creditorsOf", "(I)I"⟩
abbrev cX1_debtorsOf : ByteArray := prog_3_method_9_code
def yX1_debtorsOf : MethodName := ⟨RX1, "debtorsOf", "(I)I"⟩
abbrev cX1_herdsReaching : ByteArray := prog_3_method_10_code
def yX1_herdsReaching : MethodName := ⟨RX1, "herdsReaching", "(I)I"⟩
abbrev cX1_herdsInCycles : ByteArray := prog_3_method_11_code
def yX1_herdsInCycles : MethodName := ⟨RX1, "herdsInCycles", "()I"⟩
abbrev cX1_cycleClosedBy : ByteArray := prog_3_method_12_code
def yX1_cycleClosedBy : MethodName := ⟨RX1, "cycleClosedBy", "(II)I"⟩
def RX2 : String := "PastureBanker$Faults"
def TX2 : u_T := fun k => match k with
  | _ => ("", "", "", false)
def tyX2 : Nat → FieldType := fun k => match k with
  | _ => .int
abbrev wsX20 : List Cond := u_ws RX2 TX2 0
theorem nmX2 : ∀ a, a < 0 → ∀ b, b < 0 → a ≠ b → (TX2 a).2.1 ≠ (TX2 b).2.1 := by decide +kernel
theorem tyX2_ok : ∀ k, k < 0 → parseFieldDescriptor (TX2 k).2.2.1 = some (tyX2 k) := by decide +kernel
abbrev cX2_ofHerd : ByteArray := prog_4_method_2_code
def yX2_ofHerd : MethodName := ⟨RX2, "ofHerd", "(LPastureBanker$State;I)I"⟩
abbrev cX2_ofPasture : ByteArray := prog_4_method_3_code
def yX2_ofPasture : MethodName := ⟨RX2, "ofPasture", "(LPastureBanker$State;I)I"⟩
abbrev cX2_ofHerdOrPasture : ByteArray := prog_4_method_4_code
def yX2_ofHerdOrPasture : MethodName := ⟨RX2, "ofHerdOrPasture", "(LPastureBanker$State;II)I"⟩
abbrev cX2_ofTwoHerds : ByteArray := prog_4_method_5_code
def yX2_ofTwoHerds : MethodName := ⟨RX2, "ofTwoHerds", "(LPastureBanker$State;II)I"⟩
abbrev cX2_ofUnits : ByteArray := prog_4_method_8_code
def yX2_ofUnits : MethodName := ⟨RX2, "ofUnits", "(LPastureBanker$State;III)I"⟩
abbrev cX2_ofRequest : ByteArray := prog_4_method_9_code
def yX2_ofRequest : MethodName := ⟨RX2, "ofRequest", "(LPastureBanker$State;III)I"⟩
abbrev cX2_ofRelease : ByteArray := prog_4_method_10_code
def yX2_ofRelease : MethodName := ⟨RX2, "ofRelease", "(LPastureBanker$State;III)I"⟩
abbrev cX2_ofCancel : ByteArray := prog_4_method_11_code
def yX2_ofCancel : MethodName := ⟨RX2, "ofCancel", "(LPastureBanker$State;I)I"⟩
abbrev cX2_ofCapacity : ByteArray := prog_4_method_12_code
def yX2_ofCapacity : MethodName := ⟨RX2, "ofCapacity", "(LPastureBanker$State;II)I"⟩
abbrev cX2_ofMaximum : ByteArray := prog_4_method_13_code
def yX2_ofMaximum : MethodName := ⟨RX2, "ofMaximum", "(LPastureBanker$State;III)I"⟩
abbrev cX2_ofCoins : ByteArray := prog_4_method_14_code
def yX2_ofCoins : MethodName := ⟨RX2, "ofCoins", "(LPastureBanker$State;III)I"⟩
abbrev cX2_ofLoan : ByteArray := prog_4_method_15_code
def yX2_ofLoan : MethodName := ⟨RX2, "ofLoan", "(LPastureBanker$State;III)I"⟩
abbrev cX2_ofRepayment : ByteArray := prog_4_method_16_code
def yX2_ofRepayment : MethodName := ⟨RX2, "ofRepayment", "(LPastureBanker$State;III)I"⟩
def RX3 : String := "PastureBanker$History"
def TX3 : u_T := fun k => match k with
  | 0 => ("PastureBanker$History", "states", "[LPastureBanker$State;", true)
  | 1 => ("PastureBanker$History", "next", "I", false)
  | _ => ("PastureBanker$History", "count", "I", false)
def tyX3 : Nat → FieldType := fun k => match k with
  | 0 => .array (.object "PastureBanker$State")
  | 1 => .int
  | _ => .int
abbrev wsX30 : List Cond := u_ws RX3 TX3 3
theorem nmX3 : ∀ a, a < 3 → ∀ b, b < 3 → a ≠ b → (TX3 a).2.1 ≠ (TX3 b).2.1 := by decide +kernel
theorem tyX3_ok : ∀ k, k < 3 → parseFieldDescriptor (TX3 k).2.2.1 = some (tyX3 k) := by decide +kernel
abbrev cX3_init : ByteArray := prog_5_method_1_code
def yX3_init : MethodName := ⟨RX3, "<init>", "()V"⟩
abbrev cX3_remember : ByteArray := prog_5_method_2_code
def yX3_remember : MethodName := ⟨RX3, "remember", "(LPastureBanker$State;)V"⟩
def RX4 : String := "PastureBanker$Input"
def TX4 : u_T := fun k => match k with
  | 0 => ("PastureBanker$Input", "bytes", "[B", true)
  | 1 => ("PastureBanker$Input", "length", "I", false)
  | 2 => ("PastureBanker$Input", "kind", "I", false)
  | 3 => ("PastureBanker$Input", "start", "I", false)
  | 4 => ("PastureBanker$Input", "end", "I", false)
  | _ => ("PastureBanker$Input", "value", "I", false)
def tyX4 : Nat → FieldType := fun k => match k with
  | 0 => .array .byte
  | 1 => .int
  | 2 => .int
  | 3 => .int
  | 4 => .int
  | _ => .int
abbrev wsX40 : List Cond := u_ws RX4 TX4 6
theorem nmX4 : ∀ a, a < 6 → ∀ b, b < 6 → a ≠ b → (TX4 a).2.1 ≠ (TX4 b).2.1 := by decide +kernel
theorem tyX4_ok : ∀ k, k < 6 → parseFieldDescriptor (TX4 k).2.2.1 = some (tyX4 k) := by decide +kernel
abbrev cX4_init : ByteArray := prog_6_method_1_code
def yX4_init : MethodName := ⟨RX4, "<init>", "()V"⟩
abbrev cX4_putText : ByteArray := prog_6_method_2_code
def yX4_putText : MethodName := ⟨RX4, "putText", "(Ljava/lang/String;)V"⟩
abbrev cX4_putFourBytes : ByteArray := prog_6_method_3_code
def yX4_putFourBytes : MethodName := ⟨RX4, "putFourBytes", "(I)V"⟩
abbrev cX4_put : ByteArray := prog_6_method_4_code
def yX4_put : MethodName := ⟨RX4, "put", "(I)V"⟩
abbrev cX4_readFirst : ByteArray := prog_6_method_5_code
def yX4_readFirst : MethodName := ⟨RX4, "readFirst", "()V"⟩
abbrev cX4_readNext : ByteArray := prog_6_method_6_code
def yX4_readNext : MethodName := ⟨RX4, "readNext", "()V"⟩
abbrev cX4_readSign : ByteArray := prog_6_method_7_code
def yX4_readSign : MethodName := ⟨RX4, "readSign", "()V"⟩
abbrev cX4_isWord : ByteArray := prog_6_method_8_code
def yX4_isWord : MethodName := ⟨RX4, "isWord", "(Ljava/lang/String;)Z"⟩
abbrev cX4_isSeparator : ByteArray := prog_6_method_9_code
def yX4_isSeparator : MethodName := ⟨RX4, "isSeparator", "(I)Z"⟩
abbrev cX4_isLetter : ByteArray := prog_6_method_10_code
def yX4_isLetter : MethodName := ⟨RX4, "isLetter", "(I)Z"⟩
abbrev cX4_isDigit : ByteArray := prog_6_method_11_code
def yX4_isDigit : MethodName := ⟨RX4, "isDigit", "(I)Z"⟩
def RX5 : String := "PastureBanker$Names"
def TX5 : u_T := fun k => match k with
  | 0 => ("PastureBanker$Names", "letters", "[B", true)
  | 1 => ("PastureBanker$Names", "lengths", "[I", true)
  | _ => ("PastureBanker$Names", "count", "I", false)
def tyX5 : Nat → FieldType := fun k => match k with
  | 0 => .array .byte
  | 1 => .array .int
  | _ => .int
abbrev wsX50 : List Cond := u_ws RX5 TX5 3
theorem nmX5 : ∀ a, a < 3 → ∀ b, b < 3 → a ≠ b → (TX5 a).2.1 ≠ (TX5 b).2.1 := by decide +kernel
theorem tyX5_ok : ∀ k, k < 3 → parseFieldDescriptor (TX5 k).2.2.1 = some (tyX5 k) := by decide +kernel
abbrev cX5_init : ByteArray := prog_7_method_1_code
def yX5_init : MethodName := ⟨RX5, "<init>", "()V"⟩
abbrev cX5_copyFrom : ByteArray := prog_7_method_2_code
def yX5_copyFrom : MethodName := ⟨RX5, "copyFrom", "(LPastureBanker$Names;)V"⟩
abbrev cX5_has : ByteArray := prog_7_method_3_code
def yX5_has : MethodName := ⟨RX5, "has", "(I)Z"⟩
abbrev cX5_add : ByteArray := prog_7_method_5_code
def yX5_add : MethodName := ⟨RX5, "add", "([BII)V"⟩
abbrev cX5_find : ByteArray := prog_7_method_6_code
def yX5_find : MethodName := ⟨RX5, "find", "([BII)I"⟩
abbrev cX5_isAt : ByteArray := prog_7_method_7_code
def yX5_isAt : MethodName := ⟨RX5, "isAt", "(I[BI)Z"⟩
def RX6 : String := "PastureBanker$Output"
def TX6 : u_T := fun k => match k with
  | 0 => ("PastureBanker$Output", "bytes", "[B", true)
  | _ => ("PastureBanker$Output", "length", "I", false)
def tyX6 : Nat → FieldType := fun k => match k with
  | 0 => .array .byte
  | _ => .int
abbrev wsX60 : List Cond := u_ws RX6 TX6 2
theorem nmX6 : ∀ a, a < 2 → ∀ b, b < 2 → a ≠ b → (TX6 a).2.1 ≠ (TX6 b).2.1 := by decide +kernel
theorem tyX6_ok : ∀ k, k < 2 → parseFieldDescriptor (TX6 k).2.2.1 = some (tyX6 k) := by decide +kernel
abbrev cX6_init : ByteArray := prog_8_method_1_code
def yX6_init : MethodName := ⟨RX6, "<init>", "()V"⟩
def RX7 : String := "PastureBanker$Parser"
def TX7 : u_T := fun k => match k with
  | 0 => ("PastureBanker$Parser", "input", "LPastureBanker$Input;", true)
  | 1 => ("PastureBanker$Parser", "code", "I", false)
  | _ => ("PastureBanker$Parser", "position", "I", false)
def tyX7 : Nat → FieldType := fun k => match k with
  | 0 => .object "PastureBanker$Input"
  | 1 => .int
  | _ => .int
abbrev wsX70 : List Cond := u_ws RX7 TX7 3
theorem nmX7 : ∀ a, a < 3 → ∀ b, b < 3 → a ≠ b → (TX7 a).2.1 ≠ (TX7 b).2.1 := by decide +kernel
theorem tyX7_ok : ∀ k, k < 3 → parseFieldDescriptor (TX7 k).2.2.1 = some (tyX7 k) := by decide +kernel
abbrev cX7_init : ByteArray := prog_9_method_1_code
def yX7_init : MethodName := ⟨RX7, "<init>", "()V"⟩
abbrev cX7_start : ByteArray := prog_9_method_2_code
def yX7_start : MethodName := ⟨RX7, "start", "()V"⟩
abbrev cX7_fail : ByteArray := prog_9_method_3_code
def yX7_fail : MethodName := ⟨RX7, "fail", "(I)Z"⟩
abbrev cX7_readSetup : ByteArray := prog_9_method_4_code
def yX7_readSetup : MethodName := ⟨RX7, "readSetup", "(LPastureBanker$State;)Z"⟩
abbrev cX7_pastures : ByteArray := prog_9_method_5_code
def yX7_pastures : MethodName := ⟨RX7, "pastures", "(LPastureBanker$State;)Z"⟩
abbrev cX7_pasture : ByteArray := prog_9_method_6_code
def yX7_pasture : MethodName := ⟨RX7, "pasture", "(LPastureBanker$State;)Z"⟩
abbrev cX7_herds : ByteArray := prog_9_method_7_code
def yX7_herds : MethodName := ⟨RX7, "herds", "(LPastureBanker$State;)Z"⟩
abbrev cX7_herd : ByteArray := prog_9_method_8_code
def yX7_herd : MethodName := ⟨RX7, "herd", "(LPastureBanker$State;)Z"⟩
abbrev cX7_keyword : ByteArray := prog_9_method_12_code
def yX7_keyword : MethodName := ⟨RX7, "keyword", "(Ljava/lang/String;)Z"⟩
abbrev cX7_semicolon : ByteArray := prog_9_method_13_code
def yX7_semicolon : MethodName := ⟨RX7, "semicolon", "()Z"⟩
abbrev cX7_numberUpTo : ByteArray := prog_9_method_14_code
def yX7_numberUpTo : MethodName := ⟨RX7, "numberUpTo", "(I)Z"⟩
abbrev cX7_newName : ByteArray := prog_9_method_15_code
def yX7_newName : MethodName := ⟨RX7, "newName", "(LPastureBanker$Names;)Z"⟩
def RX8 : String := "PastureBanker$Script"
def TX8 : u_T := fun k => match k with
  | 0 => ("PastureBanker$Script", "kinds", "[I", true)
  | 1 => ("PastureBanker$Script", "arguments", "[I", true)
  | _ => ("PastureBanker$Script", "length", "I", false)
def tyX8 : Nat → FieldType := fun k => match k with
  | 0 => .array .int
  | 1 => .array .int
  | _ => .int
abbrev wsX80 : List Cond := u_ws RX8 TX8 3
theorem nmX8 : ∀ a, a < 3 → ∀ b, b < 3 → a ≠ b → (TX8 a).2.1 ≠ (TX8 b).2.1 := by decide +kernel
theorem tyX8_ok : ∀ k, k < 3 → parseFieldDescriptor (TX8 k).2.2.1 = some (tyX8 k) := by decide +kernel
abbrev cX8_init : ByteArray := prog_10_method_1_code
def yX8_init : MethodName := ⟨RX8, "<init>", "()V"⟩
def RX9 : String := "PastureBanker$State"
def TX9 : u_T := fun k => match k with
  | 0 => ("PastureBanker$State", "pastures", "LPastureBanker$Names;", true)
  | 1 => ("PastureBanker$State", "herds", "LPastureBanker$Names;", true)
  | 2 => ("PastureBanker$State", "capacities", "[I", true)
  | 3 => ("PastureBanker$State", "maxima", "[I", true)
  | 4 => ("PastureBanker$State", "allocations", "[I", true)
  | 5 => ("PastureBanker$State", "wantedPastures", "[I", true)
  | 6 => ("PastureBanker$State", "wantedAmounts", "[I", true)
  | 7 => ("PastureBanker$State", "queue", "[I", true)
  | 8 => ("PastureBanker$State", "queued", "I", false)
  | 9 => ("PastureBanker$State", "debts", "LPastureBanker$Debts;", true)
  | 10 => ("PastureBanker$State", "grantedAtOnce", "I", false)
  | 11 => ("PastureBanker$State", "grantedLater", "I", false)
  | 12 => ("PastureBanker$State", "everQueued", "I", false)
  | _ => ("PastureBanker$State", "withdrawn", "I", false)
def tyX9 : Nat → FieldType := fun k => match k with
  | 0 => .object "PastureBanker$Names"
  | 1 => .object "PastureBanker$Names"
  | 2 => .array .int
  | 3 => .array .int
  | 4 => .array .int
  | 5 => .array .int
  | 6 => .array .int
  | 7 => .array .int
  | 8 => .int
  | 9 => .object "PastureBanker$Debts"
  | 10 => .int
  | 11 => .int
  | 12 => .int
  | _ => .int
abbrev wsX90 : List Cond := u_ws RX9 TX9 14
theorem nmX9 : ∀ a, a < 14 → ∀ b, b < 14 → a ≠ b → (TX9 a).2.1 ≠ (TX9 b).2.1 := by decide +kernel
theorem tyX9_ok : ∀ k, k < 14 → parseFieldDescriptor (TX9 k).2.2.1 = some (tyX9 k) := by decide +kernel
abbrev cX9_init : ByteArray := prog_11_method_1_code
def yX9_init : MethodName := ⟨RX9, "<init>", "()V"⟩
abbrev cX9_cell : ByteArray := prog_11_method_2_code
def yX9_cell : MethodName := ⟨RX9, "cell", "(II)I"⟩
abbrev cX9_copyFrom : ByteArray := prog_11_method_3_code
def yX9_copyFrom : MethodName := ⟨RX9, "copyFrom", "(LPastureBanker$State;)V"⟩
abbrev cX9_clear : ByteArray := prog_11_method_4_code
def yX9_clear : MethodName := ⟨RX9, "clear", "()V"⟩
abbrev cX9_heldUnits : ByteArray := prog_11_method_5_code
def yX9_heldUnits : MethodName := ⟨RX9, "heldUnits", "(I)I"⟩
abbrev cX9_freeUnits : ByteArray := prog_11_method_6_code
def yX9_freeUnits : MethodName := ⟨RX9, "freeUnits", "(I)I"⟩
abbrev cX9_openClaim : ByteArray := prog_11_method_7_code
def yX9_openClaim : MethodName := ⟨RX9, "openClaim", "(II)I"⟩
abbrev cX9_waits : ByteArray := prog_11_method_8_code
def yX9_waits : MethodName := ⟨RX9, "waits", "(I)Z"⟩
abbrev cX9_wanted : ByteArray := prog_11_method_9_code
def yX9_wanted : MethodName := ⟨RX9, "wanted", "(II)I"⟩
abbrev cX9_joinQueue : ByteArray := prog_11_method_11_code
def yX9_joinQueue : MethodName := ⟨RX9, "joinQueue", "(III)V"⟩
abbrev cX9_leaveQueue : ByteArray := prog_11_method_12_code
def yX9_leaveQueue : MethodName := ⟨RX9, "leaveQueue", "(I)V"⟩
abbrev cX9_excessiveAllocations : ByteArray := prog_11_method_13_code
def yX9_excessiveAllocations : MethodName := ⟨RX9, "excessiveAllocations", "()I"⟩
def RX10 : String := "PastureBanker"
def TX10 : u_T := fun k => match k with
  | 0 => ("PastureBanker", "parser", "LPastureBanker$Parser;", true)
  | 1 => ("PastureBanker", "input", "LPastureBanker$Input;", true)
  | 2 => ("PastureBanker", "output", "LPastureBanker$Output;", true)
  | 3 => ("PastureBanker", "script", "LPastureBanker$Script;", true)
  | 4 => ("PastureBanker", "banker", "LPastureBanker$Banker;", true)
  | 5 => ("PastureBanker", "state", "LPastureBanker$State;", true)
  | 6 => ("PastureBanker", "trial", "LPastureBanker$State;", true)
  | 7 => ("PastureBanker", "history", "LPastureBanker$History;", true)
  | 8 => ("PastureBanker", "saved", "[LPastureBanker$State;", true)
  | _ => ("PastureBanker", "isSaved", "[Z", true)
def tyX10 : Nat → FieldType := fun k => match k with
  | 0 => .object "PastureBanker$Parser"
  | 1 => .object "PastureBanker$Input"
  | 2 => .object "PastureBanker$Output"
  | 3 => .object "PastureBanker$Script"
  | 4 => .object "PastureBanker$Banker"
  | 5 => .object "PastureBanker$State"
  | 6 => .object "PastureBanker$State"
  | 7 => .object "PastureBanker$History"
  | 8 => .array (.object "PastureBanker$State")
  | _ => .array .boolean
abbrev wsX100 : List Cond := u_ws RX10 TX10 10
theorem nmX10 : ∀ a, a < 10 → ∀ b, b < 10 → a ≠ b → (TX10 a).2.1 ≠ (TX10 b).2.1 := by decide +kernel
theorem tyX10_ok : ∀ k, k < 10 → parseFieldDescriptor (TX10 k).2.2.1 = some (tyX10 k) := by decide +kernel
abbrev cX10_init : ByteArray := prog_1_method_1_code
def yX10_init : MethodName := ⟨RX10, "<init>", "()V"⟩
abbrev cX10_append : ByteArray := prog_1_method_2_code
def yX10_append : MethodName := ⟨RX10, "append", "(IIIII)I"⟩
abbrev cX10_truncate : ByteArray := prog_1_method_3_code
def yX10_truncate : MethodName := ⟨RX10, "truncate", "(I)I"⟩
abbrev cX10_load : ByteArray := prog_1_method_4_code
def yX10_load : MethodName := ⟨RX10, "load", "()I"⟩
abbrev cX10_pastureCount : ByteArray := prog_1_method_7_code
def yX10_pastureCount : MethodName := ⟨RX10, "pastureCount", "()I"⟩
abbrev cX10_herdCount : ByteArray := prog_1_method_8_code
def yX10_herdCount : MethodName := ⟨RX10, "herdCount", "()I"⟩
abbrev cX10_capacity : ByteArray := prog_1_method_9_code
def yX10_capacity : MethodName := ⟨RX10, "capacity", "(I)I"⟩
abbrev cX10_available : ByteArray := prog_1_method_10_code
def yX10_available : MethodName := ⟨RX10, "available", "(I)I"⟩
abbrev cX10_maximum : ByteArray := prog_1_method_11_code
def yX10_maximum : MethodName := ⟨RX10, "maximum", "(II)I"⟩
abbrev cX10_allocation : ByteArray := prog_1_method_12_code
def yX10_allocation : MethodName := ⟨RX10, "allocation", "(II)I"⟩
abbrev cX10_need : ByteArray := prog_1_method_13_code
def yX10_need : MethodName := ⟨RX10, "need", "(II)I"⟩
abbrev cX10_isSafe : ByteArray := prog_1_method_17_code
def yX10_isSafe : MethodName := ⟨RX10, "isSafe", "()Z"⟩
abbrev cX10_queueLength : ByteArray := prog_1_method_24_code
def yX10_queueLength : MethodName := ⟨RX10, "queueLength", "()I"⟩
abbrev cX10_queuedHerd : ByteArray := prog_1_method_25_code
def yX10_queuedHerd : MethodName := ⟨RX10, "queuedHerd", "(I)I"⟩
abbrev cX10_isWaiting : ByteArray := prog_1_method_26_code
def yX10_isWaiting : MethodName := ⟨RX10, "isWaiting", "(I)Z"⟩
abbrev cX10_requestedPasture : ByteArray := prog_1_method_27_code
def yX10_requestedPasture : MethodName := ⟨RX10, "requestedPasture", "(I)I"⟩
abbrev cX10_requestedAmount : ByteArray := prog_1_method_28_code
def yX10_requestedAmount : MethodName := ⟨RX10, "requestedAmount", "(I)I"⟩
abbrev cX10_debt : ByteArray := prog_1_method_32_code
def yX10_debt : MethodName := ⟨RX10, "debt", "(II)I"⟩
abbrev cX10_closedCycleLength : ByteArray := prog_1_method_35_code
def yX10_closedCycleLength : MethodName := ⟨RX10, "closedCycleLength", "(II)I"⟩
abbrev cX10_immediateGrants : ByteArray := prog_1_method_39_code
def yX10_immediateGrants : MethodName := ⟨RX10, "immediateGrants", "()I"⟩
abbrev cX10_queuedGrants : ByteArray := prog_1_method_40_code
def yX10_queuedGrants : MethodName := ⟨RX10, "queuedGrants", "()I"⟩
abbrev cX10_inconsistencies : ByteArray := prog_1_method_45_code
def yX10_inconsistencies : MethodName := ⟨RX10, "inconsistencies", "()I"⟩
abbrev cX10_request : ByteArray := prog_1_method_46_code
def yX10_request : MethodName := ⟨RX10, "request", "(III)Z"⟩
abbrev cX10_release : ByteArray := prog_1_method_47_code
def yX10_release : MethodName := ⟨RX10, "release", "(III)I"⟩
abbrev cX10_finish : ByteArray := prog_1_method_48_code
def yX10_finish : MethodName := ⟨RX10, "finish", "(I)I"⟩
abbrev cX10_cancel : ByteArray := prog_1_method_49_code
def yX10_cancel : MethodName := ⟨RX10, "cancel", "(I)I"⟩
abbrev cX10_setCapacity : ByteArray := prog_1_method_50_code
def yX10_setCapacity : MethodName := ⟨RX10, "setCapacity", "(II)I"⟩
abbrev cX10_setMaximum : ByteArray := prog_1_method_51_code
def yX10_setMaximum : MethodName := ⟨RX10, "setMaximum", "(III)I"⟩
abbrev cX10_lend : ByteArray := prog_1_method_52_code
def yX10_lend : MethodName := ⟨RX10, "lend", "(III)I"⟩
abbrev cX10_repay : ByteArray := prog_1_method_53_code
def yX10_repay : MethodName := ⟨RX10, "repay", "(III)I"⟩
abbrev cX10_refuse : ByteArray := prog_1_method_60_code
def yX10_refuse : MethodName := ⟨RX10, "refuse", "(I)V"⟩
abbrev cX10_isIn : ByteArray := prog_1_method_63_code
def yX10_isIn : MethodName := ⟨RX10, "isIn", "(II)Z"⟩
def RX11 : String := "PastureBankerLaw$Ledger"
def TX11 : u_T := fun k => match k with
  | 0 => ("PastureBankerLaw$Ledger", "x", "LPastureBanker;", true)
  | 1 => ("PastureBankerLaw$Ledger", "herds", "I", true)
  | 2 => ("PastureBankerLaw$Ledger", "pastures", "I", true)
  | 3 => ("PastureBankerLaw$Ledger", "held", "[[I", true)
  | 4 => ("PastureBankerLaw$Ledger", "wanted", "[I", true)
  | 5 => ("PastureBankerLaw$Ledger", "amount", "[I", true)
  | 6 => ("PastureBankerLaw$Ledger", "queue", "[I", true)
  | 7 => ("PastureBankerLaw$Ledger", "waiting", "I", false)
  | 8 => ("PastureBankerLaw$Ledger", "immediate", "I", false)
  | _ => ("PastureBankerLaw$Ledger", "fromQueue", "I", false)
def tyX11 : Nat → FieldType := fun k => match k with
  | 0 => .object "PastureBanker"
  | 1 => .int
  | 2 => .int
  | 3 => .array (.array .int)
  | 4 => .array .int
  | 5 => .array .int
  | 6 => .array .int
  | 7 => .int
  | 8 => .int
  | _ => .int
abbrev wsX110 : List Cond := u_ws RX11 TX11 10
theorem nmX11 : ∀ a, a < 10 → ∀ b, b < 10 → a ≠ b → (TX11 a).2.1 ≠ (TX11 b).2.1 := by decide +kernel
theorem tyX11_ok : ∀ k, k < 10 → parseFieldDescriptor (TX11 k).2.2.1 = some (tyX11 k) := by decide +kernel
abbrev cX11_init : ByteArray := prog_13_method_1_code
def yX11_init : MethodName := ⟨RX11, "<init>", "(LPastureBanker;)V"⟩
abbrev cX11_read : ByteArray := prog_13_method_2_code
def yX11_read : MethodName := ⟨RX11, "read", "()V"⟩
abbrev cX11_free : ByteArray := prog_13_method_3_code
def yX11_free : MethodName := ⟨RX11, "free", "(I)I"⟩
abbrev cX11_canFinish : ByteArray := prog_13_method_4_code
def yX11_canFinish : MethodName := ⟨RX11, "canFinish", "(I[Z)Z"⟩
abbrev cX11_isSafe : ByteArray := prog_13_method_5_code
def yX11_isSafe : MethodName := ⟨RX11, "isSafe", "()Z"⟩
abbrev cX11_grants : ByteArray := prog_13_method_6_code
def yX11_grants : MethodName := ⟨RX11, "grants", "(III)Z"⟩
abbrev cX11_leave : ByteArray := prog_13_method_7_code
def yX11_leave : MethodName := ⟨RX11, "leave", "(I)V"⟩
abbrev cX11_process : ByteArray := prog_13_method_8_code
def yX11_process : MethodName := ⟨RX11, "process", "()I"⟩
abbrev cX11_request : ByteArray := prog_13_method_9_code
def yX11_request : MethodName := ⟨RX11, "request", "(III)Z"⟩
abbrev cX11_finish : ByteArray := prog_13_method_10_code
def yX11_finish : MethodName := ⟨RX11, "finish", "(I)I"⟩
abbrev cX11_agrees : ByteArray := prog_13_method_11_code
def yX11_agrees : MethodName := ⟨RX11, "agrees", "()Z"⟩
def RX12 : String := "PastureBankerModel"
def TX12 : u_T := fun k => match k with
  | _ => ("", "", "", false)
def tyX12 : Nat → FieldType := fun k => match k with
  | _ => .int
abbrev wsX120 : List Cond := u_ws RX12 TX12 0
theorem nmX12 : ∀ a, a < 0 → ∀ b, b < 0 → a ≠ b → (TX12 a).2.1 ≠ (TX12 b).2.1 := by decide +kernel
theorem tyX12_ok : ∀ k, k < 0 → parseFieldDescriptor (TX12 k).2.2.1 = some (tyX12 k) := by decide +kernel
def RJx145de : String := "java/io/Serializable"
def TJx145de : u_T := fun k => match k with
  | _ => ("", "", "", false)
def tyJx145de : Nat → FieldType := fun k => match k with
  | _ => .int
theorem nmJx145de : ∀ a, a < 0 → ∀ b, b < 0 → a ≠ b → (TJx145de a).2.1 ≠ (TJx145de b).2.1 := by decide +kernel
theorem tyJx145de_ok : ∀ k, k < 0 → parseFieldDescriptor (TJx145de k).2.2.1 = some (tyJx145de k) := by decide +kernel
def RJ5 : String := "java/lang/AbstractStringBuilder"
def TJ5 : u_T := fun k => match k with
  | _ => ("", "", "", false)
def tyJ5 : Nat → FieldType := fun k => match k with
  | _ => .int
abbrev wsJ50 : List Cond := u_ws RJ5 TJ5 0
theorem nmJ5 : ∀ a, a < 0 → ∀ b, b < 0 → a ≠ b → (TJ5 a).2.1 ≠ (TJ5 b).2.1 := by decide +kernel
theorem tyJ5_ok : ∀ k, k < 0 → parseFieldDescriptor (TJ5 k).2.2.1 = some (tyJ5 k) := by decide +kernel
abbrev cJ5_init_a7421 : ByteArray := prog_15_method_3_code
def yJ5_init_a7421 : MethodName := ⟨RJ5, "<init>", "(Ljava/lang/String;)V"⟩
abbrev cJ5_length_8abf5 : ByteArray := prog_15_method_6_code
def yJ5_length_8abf5 : MethodName := ⟨RJ5, "length", "()I"⟩
abbrev cJ5_ensureCapacityInternal_d00df : ByteArray := prog_15_method_9_code
def yJ5_ensureCapacityInternal_d00df : MethodName := ⟨RJ5, "ensureCapacityInternal", "(I)V"⟩
abbrev cJ5_newCapacity_0f7a4 : ByteArray := prog_15_method_10_code
def yJ5_newCapacity_0f7a4 : MethodName := ⟨RJ5, "newCapacity", "(I)I"⟩
abbrev cJ5_inflate_da8c8 : ByteArray := prog_15_method_11_code
def yJ5_inflate_da8c8 : MethodName := ⟨RJ5, "inflate", "()V"⟩
abbrev cJ5_append_cf1ce : ByteArray := prog_15_method_22_code
def yJ5_append_cf1ce : MethodName := ⟨RJ5, "append", "(Ljava/lang/String;)Ljava/lang/AbstractStringBuilder;"⟩
abbrev cJ5_appendNull_278bc : ByteArray := prog_15_method_26_code
def yJ5_appendNull_278bc : MethodName := ⟨RJ5, "appendNull", "()Ljava/lang/AbstractStringBuilder;"⟩
abbrev cJ5_append_3fe6f : ByteArray := prog_15_method_31_code
def yJ5_append_3fe6f : MethodName := ⟨RJ5, "append", "(C)Ljava/lang/AbstractStringBuilder;"⟩
abbrev cJ5_append_c97b9 : ByteArray := prog_15_method_32_code
def yJ5_append_c97b9 : MethodName := ⟨RJ5, "append", "(I)Ljava/lang/AbstractStringBuilder;"⟩
abbrev cJ5_getValue_6d5f1 : ByteArray := prog_15_method_64_code
def yJ5_getValue_6d5f1 : MethodName := ⟨RJ5, "getValue", "()[B"⟩
abbrev cJ5_isLatin1_aae02 : ByteArray := prog_15_method_68_code
def yJ5_isLatin1_aae02 : MethodName := ⟨RJ5, "isLatin1", "()Z"⟩
abbrev cJ5_inflateIfNeededFor_a7421 : ByteArray := prog_15_method_71_code
def yJ5_inflateIfNeededFor_a7421 : MethodName := ⟨RJ5, "inflateIfNeededFor", "(Ljava/lang/String;)V"⟩
abbrev cJ5_putStringAt_47b60 : ByteArray := prog_15_method_73_code
def yJ5_putStringAt_47b60 : MethodName := ⟨RJ5, "putStringAt", "(ILjava/lang/String;)V"⟩
def RJx2cfe8 : String := "java/lang/Appendable"
def TJx2cfe8 : u_T := fun k => match k with
  | _ => ("", "", "", false)
def tyJx2cfe8 : Nat → FieldType := fun k => match k with
  | _ => .int
theorem nmJx2cfe8 : ∀ a, a < 0 → ∀ b, b < 0 → a ≠ b → (TJx2cfe8 a).2.1 ≠ (TJx2cfe8 b).2.1 := by decide +kernel
theorem tyJx2cfe8_ok : ∀ k, k < 0 → parseFieldDescriptor (TJx2cfe8 k).2.2.1 = some (tyJx2cfe8 k) := by decide +kernel
def RJx9f9b0 : String := "java/lang/CharSequence"
def TJx9f9b0 : u_T := fun k => match k with
  | _ => ("", "", "", false)
def tyJx9f9b0 : Nat → FieldType := fun k => match k with
  | _ => .int
theorem nmJx9f9b0 : ∀ a, a < 0 → ∀ b, b < 0 → a ≠ b → (TJx9f9b0 a).2.1 ≠ (TJx9f9b0 b).2.1 := by decide +kernel
theorem tyJx9f9b0_ok : ∀ k, k < 0 → parseFieldDescriptor (TJx9f9b0 k).2.2.1 = some (tyJx9f9b0 k) := by decide +kernel
def RJx8e188 : String := "java/lang/Cloneable"
def TJx8e188 : u_T := fun k => match k with
  | _ => ("", "", "", false)
def tyJx8e188 : Nat → FieldType := fun k => match k with
  | _ => .int
theorem nmJx8e188 : ∀ a, a < 0 → ∀ b, b < 0 → a ≠ b → (TJx8e188 a).2.1 ≠ (TJx8e188 b).2.1 := by decide +kernel
theorem tyJx8e188_ok : ∀ k, k < 0 → parseFieldDescriptor (TJx8e188 k).2.2.1 = some (tyJx8e188 k) := by decide +kernel
def RJxb160c : String := "java/lang/Comparable"
def TJxb160c : u_T := fun k => match k with
  | _ => ("", "", "", false)
def tyJxb160c : Nat → FieldType := fun k => match k with
  | _ => .int
theorem nmJxb160c : ∀ a, a < 0 → ∀ b, b < 0 → a ≠ b → (TJxb160c a).2.1 ≠ (TJxb160c b).2.1 := by decide +kernel
theorem tyJxb160c_ok : ∀ k, k < 0 → parseFieldDescriptor (TJxb160c k).2.2.1 = some (tyJxb160c k) := by decide +kernel
def RJ6 : String := "java/lang/Integer"
def TJ6 : u_T := fun k => match k with
  | _ => ("", "", "", false)
def tyJ6 : Nat → FieldType := fun k => match k with
  | _ => .int
abbrev wsJ60 : List Cond := u_ws RJ6 TJ6 0
theorem nmJ6 : ∀ a, a < 0 → ∀ b, b < 0 → a ≠ b → (TJ6 a).2.1 ≠ (TJ6 b).2.1 := by decide +kernel
theorem tyJ6_ok : ∀ k, k < 0 → parseFieldDescriptor (TJ6 k).2.2.1 = some (tyJ6 k) := by decide +kernel
abbrev cJ6_getChars_ba4f3 : ByteArray := prog_21_method_12_code
def yJ6_getChars_ba4f3 : MethodName := ⟨RJ6, "getChars", "(II[B)I"⟩
abbrev cJ6_stringSize_0f7a4 : ByteArray := prog_21_method_13_code
def yJ6_stringSize_0f7a4 : MethodName := ⟨RJ6, "stringSize", "(I)I"⟩
def RJ9 : String := "java/lang/Math"
def TJ9 : u_T := fun k => match k with
  | _ => ("", "", "", false)
def tyJ9 : Nat → FieldType := fun k => match k with
  | _ => .int
abbrev wsJ90 : List Cond := u_ws RJ9 TJ9 0
theorem nmJ9 : ∀ a, a < 0 → ∀ b, b < 0 → a ≠ b → (TJ9 a).2.1 ≠ (TJ9 b).2.1 := by decide +kernel
theorem tyJ9_ok : ∀ k, k < 0 → parseFieldDescriptor (TJ9 k).2.2.1 = some (tyJ9 k) := by decide +kernel
abbrev cJ9_max_7cf53 : ByteArray := prog_22_method_65_code
def yJ9_max_7cf53 : MethodName := ⟨RJ9, "max", "(II)I"⟩
abbrev cJ9_min_7cf53 : ByteArray := prog_22_method_69_code
def yJ9_min_7cf53 : MethodName := ⟨RJ9, "min", "(II)I"⟩
def RJxd2413 : String := "java/lang/Number"
def TJxd2413 : u_T := fun k => match k with
  | _ => ("", "", "", false)
def tyJxd2413 : Nat → FieldType := fun k => match k with
  | _ => .int
theorem nmJxd2413 : ∀ a, a < 0 → ∀ b, b < 0 → a ≠ b → (TJxd2413 a).2.1 ≠ (TJxd2413 b).2.1 := by decide +kernel
theorem tyJxd2413_ok : ∀ k, k < 0 → parseFieldDescriptor (TJxd2413 k).2.2.1 = some (tyJxd2413 k) := by decide +kernel
def RJ0 : String := "java/lang/String"
def TJ0 : u_T := fun k => match k with
  | 0 => ("java/lang/String", "value", "[B", true)
  | 1 => ("java/lang/String", "coder", "B", true)
  | 2 => ("java/lang/String", "hash", "I", false)
  | _ => ("java/lang/String", "hashIsZero", "Z", false)
def tyJ0 : Nat → FieldType := fun k => match k with
  | 0 => .array .byte
  | 1 => .byte
  | 2 => .int
  | _ => .boolean
abbrev wsJ00 : List Cond := u_ws RJ0 TJ0 4
theorem nmJ0 : ∀ a, a < 4 → ∀ b, b < 4 → a ≠ b → (TJ0 a).2.1 ≠ (TJ0 b).2.1 := by decide +kernel
theorem tyJ0_ok : ∀ k, k < 4 → parseFieldDescriptor (TJ0 k).2.2.1 = some (tyJ0 k) := by decide +kernel
abbrev cJ0_init_81219 : ByteArray := prog_25_method_53_code
def yJ0_init_81219 : MethodName := ⟨RJ0, "<init>", "(Ljava/lang/StringBuilder;)V"⟩
abbrev cJ0_length_8abf5 : ByteArray := prog_25_method_54_code
def yJ0_length_8abf5 : MethodName := ⟨RJ0, "length", "()I"⟩
abbrev cJ0_charAt_5068e : ByteArray := prog_25_method_56_code
def yJ0_charAt_5068e : MethodName := ⟨RJ0, "charAt", "(I)C"⟩
abbrev cJ0_getBytes_840e7 : ByteArray := prog_25_method_147_code
def yJ0_getBytes_840e7 : MethodName := ⟨RJ0, "getBytes", "([BIB)V"⟩
abbrev cJ0_init_db425 : ByteArray := prog_25_method_150_code
def yJ0_init_db425 : MethodName := ⟨RJ0, "<init>", "(Ljava/lang/AbstractStringBuilder;Ljava/lang/Void;)V"⟩
abbrev cJ0_coder_7d493 : ByteArray := prog_25_method_152_code
def yJ0_coder_7d493 : MethodName := ⟨RJ0, "coder", "()B"⟩
abbrev cJ0_isLatin1_aae02 : ByteArray := prog_25_method_154_code
def yJ0_isLatin1_aae02 : MethodName := ⟨RJ0, "isLatin1", "()Z"⟩
abbrev cJ0_checkIndex_df160 : ByteArray := prog_25_method_155_code
def yJ0_checkIndex_df160 : MethodName := ⟨RJ0, "checkIndex", "(II)V"⟩
abbrev cJ0_checkBoundsOffCount_cabcc : ByteArray := prog_25_method_157_code
def yJ0_checkBoundsOffCount_cabcc : MethodName := ⟨RJ0, "checkBoundsOffCount", "(III)I"⟩
abbrev cJ0_checkBoundsBeginEnd_23922 : ByteArray := prog_25_method_158_code
def yJ0_checkBoundsBeginEnd_23922 : MethodName := ⟨RJ0, "checkBoundsBeginEnd", "(III)V"⟩
def RJ4 : String := "java/lang/StringBuilder"
def TJ4 : u_T := fun k => match k with
  | 0 => ("java/lang/AbstractStringBuilder", "value", "[B", false)
  | 1 => ("java/lang/AbstractStringBuilder", "coder", "B", false)
  | 2 => ("java/lang/AbstractStringBuilder", "maybeLatin1", "Z", false)
  | _ => ("java/lang/AbstractStringBuilder", "count", "I", false)
def tyJ4 : Nat → FieldType := fun k => match k with
  | 0 => .array .byte
  | 1 => .byte
  | 2 => .boolean
  | _ => .int
abbrev wsJ40 : List Cond := u_ws RJ4 TJ4 4
theorem nmJ4 : ∀ a, a < 4 → ∀ b, b < 4 → a ≠ b → (TJ4 a).2.1 ≠ (TJ4 b).2.1 := by decide +kernel
theorem tyJ4_ok : ∀ k, k < 4 → parseFieldDescriptor (TJ4 k).2.2.1 = some (tyJ4 k) := by decide +kernel
abbrev cJ4_init_a7421 : ByteArray := prog_26_method_3_code
def yJ4_init_a7421 : MethodName := ⟨RJ4, "<init>", "(Ljava/lang/String;)V"⟩
abbrev cJ4_append_15ec4 : ByteArray := prog_26_method_7_code
def yJ4_append_15ec4 : MethodName := ⟨RJ4, "append", "(Ljava/lang/String;)Ljava/lang/StringBuilder;"⟩
abbrev cJ4_append_cf468 : ByteArray := prog_26_method_14_code
def yJ4_append_cf468 : MethodName := ⟨RJ4, "append", "(C)Ljava/lang/StringBuilder;"⟩
abbrev cJ4_append_bf812 : ByteArray := prog_26_method_15_code
def yJ4_append_bf812 : MethodName := ⟨RJ4, "append", "(I)Ljava/lang/StringBuilder;"⟩
abbrev cJ4_toString_0e30d : ByteArray := prog_26_method_42_code
def yJ4_toString_0e30d : MethodName := ⟨RJ4, "toString", "()Ljava/lang/String;"⟩
abbrev cJ4_append_cf1ce : ByteArray := prog_26_method_80_code
def yJ4_append_cf1ce : MethodName := ⟨RJ4, "append", "(Ljava/lang/String;)Ljava/lang/AbstractStringBuilder;"⟩
abbrev cJ4_length_8abf5 : ByteArray := prog_26_method_93_code
def yJ4_length_8abf5 : MethodName := ⟨RJ4, "length", "()I"⟩
def RJ1 : String := "java/lang/StringLatin1"
def TJ1 : u_T := fun k => match k with
  | _ => ("", "", "", false)
def tyJ1 : Nat → FieldType := fun k => match k with
  | _ => .int
abbrev wsJ10 : List Cond := u_ws RJ1 TJ1 0
theorem nmJ1 : ∀ a, a < 0 → ∀ b, b < 0 → a ≠ b → (TJ1 a).2.1 ≠ (TJ1 b).2.1 := by decide +kernel
theorem tyJ1_ok : ∀ k, k < 0 → parseFieldDescriptor (TJ1 k).2.2.1 = some (tyJ1 k) := by decide +kernel
abbrev cJ1_charAt_3b067 : ByteArray := prog_27_method_2_code
def yJ1_charAt_3b067 : MethodName := ⟨RJ1, "charAt", "([BI)C"⟩
abbrev cJ1_canEncode_fc78d : ByteArray := prog_27_method_3_code
def yJ1_canEncode_fc78d : MethodName := ⟨RJ1, "canEncode", "(C)Z"⟩
abbrev cJ1_inflate_0e8fd : ByteArray := prog_27_method_50_code
def yJ1_inflate_0e8fd : MethodName := ⟨RJ1, "inflate", "([BI[BII)V"⟩
def RJ2 : String := "java/lang/StringUTF16"
def TJ2 : u_T := fun k => match k with
  | _ => ("", "", "", false)
def tyJ2 : Nat → FieldType := fun k => match k with
  | _ => .int
abbrev wsJ20 : List Cond := u_ws RJ2 TJ2 0
theorem nmJ2 : ∀ a, a < 0 → ∀ b, b < 0 → a ≠ b → (TJ2 a).2.1 ≠ (TJ2 b).2.1 := by decide +kernel
theorem tyJ2_ok : ∀ k, k < 0 → parseFieldDescriptor (TJ2 k).2.2.1 = some (tyJ2 k) := by decide +kernel
abbrev cJ2_newBytesFor_77867 : ByteArray := prog_28_method_2_code
def yJ2_newBytesFor_77867 : MethodName := ⟨RJ2, "newBytesFor", "(I)[B"⟩
abbrev cJ2_newBytesLength_0f7a4 : ByteArray := prog_28_method_3_code
def yJ2_newBytesLength_0f7a4 : MethodName := ⟨RJ2, "newBytesLength", "(I)I"⟩
abbrev cJ2_putChar_b72d1 : ByteArray := prog_28_method_4_code
def yJ2_putChar_b72d1 : MethodName := ⟨RJ2, "putChar", "([BII)V"⟩
abbrev cJ2_getChar_3b067 : ByteArray := prog_28_method_5_code
def yJ2_getChar_3b067 : MethodName := ⟨RJ2, "getChar", "([BI)C"⟩
abbrev cJ2_length_9d52b : ByteArray := prog_28_method_6_code
def yJ2_length_9d52b : MethodName := ⟨RJ2, "length", "([B)I"⟩
abbrev cJ2_coderFromArrayLen_85cad : ByteArray := prog_28_method_15_code
def yJ2_coderFromArrayLen_85cad : MethodName := ⟨RJ2, "coderFromArrayLen", "([BI)B"⟩
abbrev cJ2_compress_39247 : ByteArray := prog_28_method_17_code
def yJ2_compress_39247 : MethodName := ⟨RJ2, "compress", "([BII)[B"⟩
abbrev cJ2_compress_5af95 : ByteArray := prog_28_method_22_code
def yJ2_compress_5af95 : MethodName := ⟨RJ2, "compress", "([BI[BII)I"⟩
abbrev cJ2_putCharSB_b72d1 : ByteArray := prog_28_method_71_code
def yJ2_putCharSB_b72d1 : MethodName := ⟨RJ2, "putCharSB", "([BII)V"⟩
abbrev cJ2_getChars_46870 : ByteArray := prog_28_method_77_code
def yJ2_getChars_46870 : MethodName := ⟨RJ2, "getChars", "(III[B)I"⟩
abbrev cJ2_putCharsAt_cd4e5 : ByteArray := prog_28_method_81_code
def yJ2_putCharsAt_cd4e5 : MethodName := ⟨RJ2, "putCharsAt", "([BICCCC)I"⟩
abbrev cJ2_charAt_3b067 : ByteArray := prog_28_method_83_code
def yJ2_charAt_3b067 : MethodName := ⟨RJ2, "charAt", "([BI)C"⟩
abbrev cJ2_inflate_0e8fd : ByteArray := prog_28_method_86_code
def yJ2_inflate_0e8fd : MethodName := ⟨RJ2, "inflate", "([BI[BII)V"⟩
abbrev cJ2_getChars_ba4f3 : ByteArray := prog_28_method_89_code
def yJ2_getChars_ba4f3 : MethodName := ⟨RJ2, "getChars", "(II[B)I"⟩
abbrev cJ2_checkIndex_2214a : ByteArray := prog_28_method_91_code
def yJ2_checkIndex_2214a : MethodName := ⟨RJ2, "checkIndex", "(I[B)V"⟩
abbrev cJ2_checkBoundsBeginEnd_d044e : ByteArray := prog_28_method_93_code
def yJ2_checkBoundsBeginEnd_d044e : MethodName := ⟨RJ2, "checkBoundsBeginEnd", "(II[B)V"⟩
abbrev cJ2_checkBoundsOffCount_d044e : ByteArray := prog_28_method_94_code
def yJ2_checkBoundsOffCount_d044e : MethodName := ⟨RJ2, "checkBoundsOffCount", "(II[B)V"⟩
def RJ10 : String := "java/lang/System"
def TJ10 : u_T := fun k => match k with
  | _ => ("", "", "", false)
def tyJ10 : Nat → FieldType := fun k => match k with
  | _ => .int
abbrev wsJ100 : List Cond := u_ws RJ10 TJ10 0
theorem nmJ10 : ∀ a, a < 0 → ∀ b, b < 0 → a ≠ b → (TJ10 a).2.1 ≠ (TJ10 b).2.1 := by decide +kernel
theorem tyJ10_ok : ∀ k, k < 0 → parseFieldDescriptor (TJ10 k).2.2.1 = some (tyJ10 k) := by decide +kernel
def RJxfd54e : String := "java/lang/constant/Constable"
def TJxfd54e : u_T := fun k => match k with
  | _ => ("", "", "", false)
def tyJxfd54e : Nat → FieldType := fun k => match k with
  | _ => .int
theorem nmJxfd54e : ∀ a, a < 0 → ∀ b, b < 0 → a ≠ b → (TJxfd54e a).2.1 ≠ (TJxfd54e b).2.1 := by decide +kernel
theorem tyJxfd54e_ok : ∀ k, k < 0 → parseFieldDescriptor (TJxfd54e k).2.2.1 = some (tyJxfd54e k) := by decide +kernel
def RJx3cf43 : String := "java/lang/constant/ConstantDesc"
def TJx3cf43 : u_T := fun k => match k with
  | _ => ("", "", "", false)
def tyJx3cf43 : Nat → FieldType := fun k => match k with
  | _ => .int
theorem nmJx3cf43 : ∀ a, a < 0 → ∀ b, b < 0 → a ≠ b → (TJx3cf43 a).2.1 ≠ (TJx3cf43 b).2.1 := by decide +kernel
theorem tyJx3cf43_ok : ∀ k, k < 0 → parseFieldDescriptor (TJx3cf43 k).2.2.1 = some (tyJx3cf43 k) := by decide +kernel
def RJ7 : String := "java/util/Arrays"
def TJ7 : u_T := fun k => match k with
  | _ => ("", "", "", false)
def tyJ7 : Nat → FieldType := fun k => match k with
  | _ => .int
abbrev wsJ70 : List Cond := u_ws RJ7 TJ7 0
theorem nmJ7 : ∀ a, a < 0 → ∀ b, b < 0 → a ≠ b → (TJ7 a).2.1 ≠ (TJ7 b).2.1 := by decide +kernel
theorem tyJ7_ok : ∀ k, k < 0 → parseFieldDescriptor (TJ7 k).2.2.1 = some (tyJ7 k) := by decide +kernel
abbrev cJ7_copyOf_9075b : ByteArray := prog_31_method_121_code
def yJ7_copyOf_9075b : MethodName := ⟨RJ7, "copyOf", "([BI)[B"⟩
abbrev cJ7_checkLength_df160 : ByteArray := prog_31_method_131_code
def yJ7_checkLength_df160 : MethodName := ⟨RJ7, "checkLength", "(II)V"⟩
abbrev cJ7_copyOfRange_39247 : ByteArray := prog_31_method_132_code
def yJ7_copyOfRange_39247 : MethodName := ⟨RJ7, "copyOfRange", "([BII)[B"⟩
abbrev cJ7_copyOfRangeByte_39247 : ByteArray := prog_31_method_133_code
def yJ7_copyOfRangeByte_39247 : MethodName := ⟨RJ7, "copyOfRangeByte", "([BII)[B"⟩
def RJ8 : String := "jdk/internal/util/ArraysSupport"
def TJ8 : u_T := fun k => match k with
  | _ => ("", "", "", false)
def tyJ8 : Nat → FieldType := fun k => match k with
  | _ => .int
abbrev wsJ80 : List Cond := u_ws RJ8 TJ8 0
theorem nmJ8 : ∀ a, a < 0 → ∀ b, b < 0 → a ≠ b → (TJ8 a).2.1 ≠ (TJ8 b).2.1 := by decide +kernel
theorem tyJ8_ok : ∀ k, k < 0 → parseFieldDescriptor (TJ8 k).2.2.1 = some (tyJ8 k) := by decide +kernel
abbrev cJ8_newLength_cabcc : ByteArray := prog_32_method_27_code
def yJ8_newLength_cabcc : MethodName := ⟨RJ8, "newLength", "(III)I"⟩
abbrev cJ8_hugeLength_7cf53 : ByteArray := prog_32_method_28_code
def yJ8_hugeLength_7cf53 : MethodName := ⟨RJ8, "hugeLength", "(II)I"⟩
def RJ3 : String := "jdk/internal/util/Preconditions"
def TJ3 : u_T := fun k => match k with
  | _ => ("", "", "", false)
def tyJ3 : Nat → FieldType := fun k => match k with
  | _ => .int
abbrev wsJ30 : List Cond := u_ws RJ3 TJ3 0
theorem nmJ3 : ∀ a, a < 0 → ∀ b, b < 0 → a ≠ b → (TJ3 a).2.1 ≠ (TJ3 b).2.1 := by decide +kernel
theorem tyJ3_ok : ∀ k, k < 0 → parseFieldDescriptor (TJ3 k).2.2.1 = some (tyJ3 k) := by decide +kernel
abbrev cJ3_checkIndex_8e157 : ByteArray := prog_33_method_11_code
def yJ3_checkIndex_8e157 : MethodName := ⟨RJ3, "checkIndex", "(IILjava/util/function/BiFunction;)I"⟩
abbrev cJ3_checkFromToIndex_8c36e : ByteArray := prog_33_method_12_code
def yJ3_checkFromToIndex_8c36e : MethodName := ⟨RJ3, "checkFromToIndex", "(IIILjava/util/function/BiFunction;)I"⟩
abbrev cJ3_checkFromIndexSize_8c36e : ByteArray := prog_33_method_13_code
def yJ3_checkFromIndexSize_8c36e : MethodName := ⟨RJ3, "checkFromIndexSize", "(IIILjava/util/function/BiFunction;)I"⟩
def RL : String := "PastureBankerLaw"
abbrev cL_pick : ByteArray := method_2_code
def yL_pick : MethodName := ⟨RL, "pick", "([III)I"⟩
abbrev cL_word : ByteArray := method_3_code
def yL_word : MethodName := ⟨RL, "word", "(Ljava/lang/String;I)I"⟩
abbrev cL_say : ByteArray := method_4_code
def yL_say : MethodName := ⟨RL, "say", "(LPastureBanker;Ljava/lang/String;)Z"⟩
abbrev cL_setup : ByteArray := method_5_code
def yL_setup : MethodName := ⟨RL, "setup", "([III)Ljava/lang/String;"⟩
abbrev cL_act : ByteArray := method_6_code
def yL_act : MethodName := ⟨RL, "act", "(LPastureBanker;I)V"⟩
abbrev cL_law : ByteArray := code
def yL_law : MethodName := ⟨RL, "law", "([I)Z"⟩
