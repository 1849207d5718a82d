def RX0 : String := "CondoLedger$CostText"
def TX0 : u_T := fun k => match k with
  | 0 => ("CondoLedger$CostText", "length", "I", false)
  | 1 => ("CondoLedger$CostText", "kind", "I", false)
  | 2 => ("CondoLedger$CostText", "place", "I", false)
  | 3 => ("CondoLedger$CostText", "purpose", "I", false)
  | 4 => ("CondoLedger$CostText", "amount", "I", false)
  | 5 => ("CondoLedger$CostText", "isFunded", "Z", false)
  | 6 => ("CondoLedger$CostText", "signs", "[C", true)
  | _ => ("CondoLedger$CostText", "at", "I", false)
def tyX0 : Nat → FieldType := fun k => match k with
  | 0 => .int
  | 1 => .int
  | 2 => .int
  | 3 => .int
  | 4 => .int
  | 5 => .boolean
  | 6 => .array .char
  | _ => .int
theorem nmX0 : ∀ a, a < 8 → ∀ b, b < 8 → a ≠ b → (TX0 a).2.1 ≠ (TX0 b).2.1 := by decide +kernel
theorem tyX0_ok : ∀ k, k < 8 → parseFieldDescriptor (TX0 k).2.2.1 = some (tyX0 k) := by decide +kernel
theorem inX0 : ∀ w ∈ u_ws RX0 TX0 8, w ∈ lw_tbl := by decide +kernel
def RX1 : String := "CondoLedger$Costs"
def TX1 : u_T := fun k => match k with
  | 0 => ("CondoLedger$Costs", "count", "I", false)
  | 1 => ("CondoLedger$Costs", "numbers", "[I", true)
  | _ => ("CondoLedger$Costs", "parts", "[I", true)
def tyX1 : Nat → FieldType := fun k => match k with
  | 0 => .int
  | 1 => .array .int
  | _ => .array .int
theorem nmX1 : ∀ a, a < 3 → ∀ b, b < 3 → a ≠ b → (TX1 a).2.1 ≠ (TX1 b).2.1 := by decide +kernel
theorem tyX1_ok : ∀ k, k < 3 → parseFieldDescriptor (TX1 k).2.2.1 = some (tyX1 k) := by decide +kernel
theorem inX1 : ∀ w ∈ u_ws RX1 TX1 3, w ∈ lw_tbl := by decide +kernel
def RX2 : String := "CondoLedger$Divider"
def TX2 : u_T := fun k => match k with
  | 0 => ("CondoLedger$Divider", "parts", "[I", true)
  | 1 => ("CondoLedger$Divider", "weights", "[I", true)
  | _ => ("CondoLedger$Divider", "remainders", "[J", true)
def tyX2 : Nat → FieldType := fun k => match k with
  | 0 => .array .int
  | 1 => .array .int
  | _ => .array .long
theorem nmX2 : ∀ a, a < 3 → ∀ b, b < 3 → a ≠ b → (TX2 a).2.1 ≠ (TX2 b).2.1 := by decide +kernel
theorem tyX2_ok : ∀ k, k < 3 → parseFieldDescriptor (TX2 k).2.2.1 = some (tyX2 k) := by decide +kernel
theorem inX2 : ∀ w ∈ u_ws RX2 TX2 3, w ∈ lw_tbl := by decide +kernel
def RX3 : String := "CondoLedger$History"
def TX3 : u_T := fun k => match k with
  | 0 => ("CondoLedger$History", "ledgers", "[LCondoLedger$Ledger;", true)
  | 1 => ("CondoLedger$History", "next", "I", false)
  | _ => ("CondoLedger$History", "kept", "I", false)
def tyX3 : Nat → FieldType := fun k => match k with
  | 0 => .array (.object "CondoLedger$Ledger")
  | 1 => .int
  | _ => .int
theorem nmX3 : ∀ a, a < 3 → ∀ b, b < 3 → a ≠ b → (TX3 a).2.1 ≠ (TX3 b).2.1 := by decide +kernel
theorem tyX3_ok : ∀ k, k < 3 → parseFieldDescriptor (TX3 k).2.2.1 = some (tyX3 k) := by decide +kernel
theorem inX3 : ∀ w ∈ u_ws RX3 TX3 3, w ∈ lw_tbl := by decide +kernel
def RX4 : String := "CondoLedger$Ledger"
def TX4 : u_T := fun k => match k with
  | 0 => ("CondoLedger$Ledger", "units", "LCondoLedger$Units;", true)
  | 1 => ("CondoLedger$Ledger", "costs", "LCondoLedger$Costs;", true)
  | 2 => ("CondoLedger$Ledger", "motions", "LCondoLedger$Motions;", true)
  | 3 => ("CondoLedger$Ledger", "balances", "[I", true)
  | 4 => ("CondoLedger$Ledger", "settings", "[I", true)
  | 5 => ("CondoLedger$Ledger", "paidByFunds", "I", false)
  | _ => ("CondoLedger$Ledger", "divider", "LCondoLedger$Divider;", true)
def tyX4 : Nat → FieldType := fun k => match k with
  | 0 => .object "CondoLedger$Units"
  | 1 => .object "CondoLedger$Costs"
  | 2 => .object "CondoLedger$Motions"
  | 3 => .array .int
  | 4 => .array .int
  | 5 => .int
  | _ => .object "CondoLedger$Divider"
theorem nmX4 : ∀ a, a < 7 → ∀ b, b < 7 → a ≠ b → (TX4 a).2.1 ≠ (TX4 b).2.1 := by decide +kernel
theorem tyX4_ok : ∀ k, k < 7 → parseFieldDescriptor (TX4 k).2.2.1 = some (tyX4 k) := by decide +kernel
theorem inX4 : ∀ w ∈ u_ws RX4 TX4 7, w ∈ lw_tbl := by decide +kernel
def RX5 : String := "CondoLedger$Motions"
def TX5 : u_T := fun k => match k with
  | 0 => ("CondoLedger$Motions", "count", "I", false)
  | 1 => ("CondoLedger$Motions", "numbers", "[I", true)
  | _ => ("CondoLedger$Motions", "votes", "[I", true)
def tyX5 : Nat → FieldType := fun k => match k with
  | 0 => .int
  | 1 => .array .int
  | _ => .array .int
theorem nmX5 : ∀ a, a < 3 → ∀ b, b < 3 → a ≠ b → (TX5 a).2.1 ≠ (TX5 b).2.1 := by decide +kernel
theorem tyX5_ok : ∀ k, k < 3 → parseFieldDescriptor (TX5 k).2.2.1 = some (tyX5 k) := by decide +kernel
theorem inX5 : ∀ w ∈ u_ws RX5 TX5 3, w ∈ lw_tbl := by decide +kernel
def RX6 : String := "CondoLedger$Units"
def TX6 : u_T := fun k => match k with
  | 0 => ("CondoLedger$Units", "count", "I", false)
  | 1 => ("CondoLedger$Units", "houseOf", "[I", true)
  | 2 => ("CondoLedger$Units", "stairOf", "[I", true)
  | 3 => ("CondoLedger$Units", "sharesOf", "[I", true)
  | 4 => ("CondoLedger$Units", "ownerOf", "[I", true)
  | 5 => ("CondoLedger$Units", "readingOf", "[I", true)
  | 6 => ("CondoLedger$Units", "billedOf", "[I", true)
  | 7 => ("CondoLedger$Units", "paidBy", "[I", true)
  | _ => ("CondoLedger$Units", "chargedTo", "[I", true)
def tyX6 : Nat → FieldType := fun k => match k with
  | 0 => .int
  | 1 => .array .int
  | 2 => .array .int
  | 3 => .array .int
  | 4 => .array .int
  | 5 => .array .int
  | 6 => .array .int
  | 7 => .array .int
  | _ => .array .int
theorem nmX6 : ∀ a, a < 9 → ∀ b, b < 9 → a ≠ b → (TX6 a).2.1 ≠ (TX6 b).2.1 := by decide +kernel
theorem tyX6_ok : ∀ k, k < 9 → parseFieldDescriptor (TX6 k).2.2.1 = some (tyX6 k) := by decide +kernel
theorem inX6 : ∀ w ∈ u_ws RX6 TX6 9, w ∈ lw_tbl := by decide +kernel
def RX7 : String := "CondoLedger"
def TX7 : u_T := fun k => match k with
  | 0 => ("CondoLedger", "now", "LCondoLedger$Ledger;", true)
  | 1 => ("CondoLedger", "draft", "LCondoLedger$Ledger;", true)
  | 2 => ("CondoLedger", "snapshot", "LCondoLedger$Ledger;", true)
  | 3 => ("CondoLedger", "isSaved", "Z", false)
  | 4 => ("CondoLedger", "history", "LCondoLedger$History;", true)
  | 5 => ("CondoLedger", "text", "LCondoLedger$CostText;", true)
  | 6 => ("CondoLedger", "faultAt", "I", false)
  | _ => ("CondoLedger", "latestReason", "I", false)
def tyX7 : Nat → FieldType := fun k => match k with
  | 0 => .object "CondoLedger$Ledger"
  | 1 => .object "CondoLedger$Ledger"
  | 2 => .object "CondoLedger$Ledger"
  | 3 => .boolean
  | 4 => .object "CondoLedger$History"
  | 5 => .object "CondoLedger$CostText"
  | 6 => .int
  | _ => .int
theorem nmX7 : ∀ a, a < 8 → ∀ b, b < 8 → a ≠ b → (TX7 a).2.1 ≠ (TX7 b).2.1 := by decide +kernel
theorem tyX7_ok : ∀ k, k < 8 → parseFieldDescriptor (TX7 k).2.2.1 = some (tyX7 k) := by decide +kernel
theorem inX7 : ∀ w ∈ u_ws RX7 TX7 8, w ∈ lw_tbl := by decide +kernel
def RX8 : String := "CondoLedgerModel"
def TX8 : u_T := fun k => match k with
  | 0 => ("CondoLedgerModel", "g", "[I", true)
  | 1 => ("CondoLedgerModel", "kept", "[I", true)
  | 2 => ("CondoLedgerModel", "ahead", "[I", true)
  | 3 => ("CondoLedgerModel", "hasKept", "Z", false)
  | 4 => ("CondoLedgerModel", "past", "[I", true)
  | 5 => ("CondoLedgerModel", "pasts", "I", false)
  | 6 => ("CondoLedgerModel", "reason", "I", false)
  | 7 => ("CondoLedgerModel", "thrown", "I", false)
  | 8 => ("CondoLedgerModel", "left", "[J", true)
  | 9 => ("CondoLedgerModel", "some", "[I", true)
  | 10 => ("CondoLedgerModel", "parts", "[I", true)
  | 11 => ("CondoLedgerModel", "text", "[I", true)
  | 12 => ("CondoLedgerModel", "length", "I", false)
  | 13 => ("CondoLedgerModel", "spot", "I", false)
  | 14 => ("CondoLedgerModel", "wrong", "I", false)
  | 15 => ("CondoLedgerModel", "told", "[I", true)
  | _ => ("CondoLedgerModel", "tolds", "I", false)
def tyX8 : Nat → FieldType := fun k => match k with
  | 0 => .array .int
  | 1 => .array .int
  | 2 => .array .int
  | 3 => .boolean
  | 4 => .array .int
  | 5 => .int
  | 6 => .int
  | 7 => .int
  | 8 => .array .long
  | 9 => .array .int
  | 10 => .array .int
  | 11 => .array .int
  | 12 => .int
  | 13 => .int
  | 14 => .int
  | 15 => .array .int
  | _ => .int
theorem nmX8 : ∀ a, a < 17 → ∀ b, b < 17 → a ≠ b → (TX8 a).2.1 ≠ (TX8 b).2.1 := by decide +kernel
theorem tyX8_ok : ∀ k, k < 17 → parseFieldDescriptor (TX8 k).2.2.1 = some (tyX8 k) := by decide +kernel
theorem inX8 : ∀ w ∈ u_ws RX8 TX8 17, w ∈ lw_tbl := by decide +kernel
def RL : String := "CondoLedgerLaw"
abbrev vwCl : List vw_C := [(RX0, TX0, 8), (RX1, TX1, 3), (RX2, TX2, 3), (RX3, TX3, 3), (RX4, TX4, 7), (RX5, TX5, 3), (RX6, TX6, 9), (RX7, TX7, 8), (RX8, TX8, 17)]
abbrev cX0_init : ByteArray := prog_2_method_1_code
def yX0_init : MethodName := ⟨RX0, "<init>", "()V"⟩
abbrev cX0_put : ByteArray := prog_2_method_2_code
def yX0_put : MethodName := ⟨RX0, "put", "(C)V"⟩
abbrev cX0_empty : ByteArray := prog_2_method_3_code
def yX0_empty : MethodName := ⟨RX0, "empty", "()V"⟩
abbrev cX0_startAgain : ByteArray := prog_2_method_4_code
def yX0_startAgain : MethodName := ⟨RX0, "startAgain", "()V"⟩
abbrev cX0_findFault : ByteArray := prog_2_method_5_code
def yX0_findFault : MethodName := ⟨RX0, "findFault", "()I"⟩
abbrev cX0_takeNextCost : ByteArray := prog_2_method_6_code
def yX0_takeNextCost : MethodName := ⟨RX0, "takeNextCost", "()Z"⟩
abbrev cX0_takeKindAndPlace : ByteArray := prog_2_method_7_code
def yX0_takeKindAndPlace : MethodName := ⟨RX0, "takeKindAndPlace", "()Z"⟩
abbrev cX0_takeStair : ByteArray := prog_2_method_8_code
def yX0_takeStair : MethodName := ⟨RX0, "takeStair", "()Z"⟩
abbrev cX0_putKindAndPlace : ByteArray := prog_2_method_9_code
def yX0_putKindAndPlace : MethodName := ⟨RX0, "putKindAndPlace", "(II)Z"⟩
abbrev cX0_takePurpose : ByteArray := prog_2_method_10_code
def yX0_takePurpose : MethodName := ⟨RX0, "takePurpose", "()Z"⟩
abbrev cX0_takeAmount : ByteArray := prog_2_method_11_code
def yX0_takeAmount : MethodName := ⟨RX0, "takeAmount", "()Z"⟩
abbrev cX0_takeWholeMoney : ByteArray := prog_2_method_12_code
def yX0_takeWholeMoney : MethodName := ⟨RX0, "takeWholeMoney", "()I"⟩
abbrev cX0_takeFunding : ByteArray := prog_2_method_13_code
def yX0_takeFunding : MethodName := ⟨RX0, "takeFunding", "()Z"⟩
abbrev cX0_takeSign : ByteArray := prog_2_method_14_code
def yX0_takeSign : MethodName := ⟨RX0, "takeSign", "(C)Z"⟩
abbrev cX0_takeDigit : ByteArray := prog_2_method_15_code
def yX0_takeDigit : MethodName := ⟨RX0, "takeDigit", "(I)I"⟩
abbrev cX1_init : ByteArray := prog_3_method_1_code
def yX1_init : MethodName := ⟨RX1, "<init>", "()V"⟩
abbrev cX1_copyFrom : ByteArray := prog_3_method_2_code
def yX1_copyFrom : MethodName := ⟨RX1, "copyFrom", "(LCondoLedger$Costs;)V"⟩
abbrev cX1_add : ByteArray := prog_3_method_3_code
def yX1_add : MethodName := ⟨RX1, "add", "([I)I"⟩
abbrev cX1_putNumber : ByteArray := prog_3_method_4_code
def yX1_putNumber : MethodName := ⟨RX1, "putNumber", "(III)V"⟩
abbrev cX1_numberOf : ByteArray := prog_3_method_5_code
def yX1_numberOf : MethodName := ⟨RX1, "numberOf", "(II)I"⟩
abbrev cX1_partOf : ByteArray := prog_3_method_6_code
def yX1_partOf : MethodName := ⟨RX1, "partOf", "(II)I"⟩
abbrev cX1_dropOldest : ByteArray := prog_3_method_7_code
def yX1_dropOldest : MethodName := ⟨RX1, "dropOldest", "()V"⟩
abbrev cX2_init : ByteArray := prog_4_method_1_code
def yX2_init : MethodName := ⟨RX2, "<init>", "()V"⟩
abbrev cX2_divide : ByteArray := prog_4_method_2_code
def yX2_divide : MethodName := ⟨RX2, "divide", "(LCondoLedger$Units;IIII)V"⟩
abbrev cX2_weighByShares : ByteArray := prog_4_method_3_code
def yX2_weighByShares : MethodName := ⟨RX2, "weighByShares", "(LCondoLedger$Units;II)V"⟩
abbrev cX2_weighEqually : ByteArray := prog_4_method_4_code
def yX2_weighEqually : MethodName := ⟨RX2, "weighEqually", "(LCondoLedger$Units;)V"⟩
abbrev cX2_weighByUse : ByteArray := prog_4_method_5_code
def yX2_weighByUse : MethodName := ⟨RX2, "weighByUse", "(LCondoLedger$Units;)V"⟩
abbrev cX2_addParts : ByteArray := prog_4_method_6_code
def yX2_addParts : MethodName := ⟨RX2, "addParts", "(I)V"⟩
abbrev cX2_sumWeights : ByteArray := prog_4_method_7_code
def yX2_sumWeights : MethodName := ⟨RX2, "sumWeights", "()J"⟩
abbrev cX2_giveCentToGreatestRemainder : ByteArray := prog_4_method_8_code
def yX2_giveCentToGreatestRemainder : MethodName := ⟨RX2, "giveCentToGreatestRemainder", "()V"⟩
abbrev cX3_init : ByteArray := prog_5_method_1_code
def yX3_init : MethodName := ⟨RX3, "<init>", "(LCondoLedger$Divider;)V"⟩
abbrev cX3_keep : ByteArray := prog_5_method_2_code
def yX3_keep : MethodName := ⟨RX3, "keep", "(LCondoLedger$Ledger;)V"⟩
abbrev cX3_takeBack : ByteArray := prog_5_method_3_code
def yX3_takeBack : MethodName := ⟨RX3, "takeBack", "(LCondoLedger$Ledger;)V"⟩
abbrev cX3_forget : ByteArray := prog_5_method_4_code
def yX3_forget : MethodName := ⟨RX3, "forget", "()V"⟩
abbrev cX4_init : ByteArray := prog_6_method_1_code
def yX4_init : MethodName := ⟨RX4, "<init>", "(LCondoLedger$Divider;)V"⟩
abbrev cX4_copyFrom : ByteArray := prog_6_method_2_code
def yX4_copyFrom : MethodName := ⟨RX4, "copyFrom", "(LCondoLedger$Ledger;)V"⟩
abbrev cX4_sumBalances : ByteArray := prog_6_method_3_code
def yX4_sumBalances : MethodName := ⟨RX4, "sumBalances", "()I"⟩
abbrev cX4_reasonAgainstPayment : ByteArray := prog_6_method_4_code
def yX4_reasonAgainstPayment : MethodName := ⟨RX4, "reasonAgainstPayment", "(II)I"⟩
abbrev cX4_reasonAgainstOrder : ByteArray := prog_6_method_5_code
def yX4_reasonAgainstOrder : MethodName := ⟨RX4, "reasonAgainstOrder", "(III)I"⟩
abbrev cX4_reasonAgainstCost : ByteArray := prog_6_method_6_code
def yX4_reasonAgainstCost : MethodName := ⟨RX4, "reasonAgainstCost", "(IIIIZ)I"⟩
abbrev cX4_takeCost : ByteArray := prog_6_method_7_code
def yX4_takeCost : MethodName := ⟨RX4, "takeCost", "(IIIIZ)I"⟩
abbrev cX4_partIfDivided : ByteArray := prog_6_method_8_code
def yX4_partIfDivided : MethodName := ⟨RX4, "partIfDivided", "(IIII)I"⟩
abbrev cX4_reasonAgainstLevy : ByteArray := prog_6_method_9_code
def yX4_reasonAgainstLevy : MethodName := ⟨RX4, "reasonAgainstLevy", "(IIII)I"⟩
abbrev cX4_takeLevy : ByteArray := prog_6_method_10_code
def yX4_takeLevy : MethodName := ⟨RX4, "takeLevy", "(IIII)V"⟩
abbrev cX4_reasonAgainstCarrying : ByteArray := prog_6_method_11_code
def yX4_reasonAgainstCarrying : MethodName := ⟨RX4, "reasonAgainstCarrying", "(I)I"⟩
abbrev cX4_endMotion : ByteArray := prog_6_method_12_code
def yX4_endMotion : MethodName := ⟨RX4, "endMotion", "(IZ)V"⟩
abbrev cX4_canBeCarried : ByteArray := prog_6_method_13_code
def yX4_canBeCarried : MethodName := ⟨RX4, "canBeCarried", "(II)Z"⟩
abbrev cX4_countHeads : ByteArray := prog_6_method_14_code
def yX4_countHeads : MethodName := ⟨RX4, "countHeads", "(III)I"⟩
abbrev cX4_sumSharesVoting : ByteArray := prog_6_method_15_code
def yX4_sumSharesVoting : MethodName := ⟨RX4, "sumSharesVoting", "(III)I"⟩
abbrev cX4_isOrCanBeCarried : ByteArray := prog_6_method_16_code
def yX4_isOrCanBeCarried : MethodName := ⟨RX4, "isOrCanBeCarried", "(I)Z"⟩
abbrev cX4_countSilentBelow : ByteArray := prog_6_method_17_code
def yX4_countSilentBelow : MethodName := ⟨RX4, "countSilentBelow", "(II)I"⟩
abbrev cX4_sideOfOwner : ByteArray := prog_6_method_18_code
def yX4_sideOfOwner : MethodName := ⟨RX4, "sideOfOwner", "(III)I"⟩
abbrev cX4_sideOfUnit : ByteArray := prog_6_method_19_code
def yX4_sideOfUnit : MethodName := ⟨RX4, "sideOfUnit", "(III)I"⟩
abbrev cX4_payableByFund : ByteArray := prog_6_method_20_code
def yX4_payableByFund : MethodName := ⟨RX4, "payableByFund", "(IIZ)I"⟩
abbrev cX4_canCharge : ByteArray := prog_6_method_21_code
def yX4_canCharge : MethodName := ⟨RX4, "canCharge", "(III)Z"⟩
abbrev cX5_init : ByteArray := prog_7_method_1_code
def yX5_init : MethodName := ⟨RX5, "<init>", "()V"⟩
abbrev cX5_copyFrom : ByteArray := prog_7_method_2_code
def yX5_copyFrom : MethodName := ⟨RX5, "copyFrom", "(LCondoLedger$Motions;)V"⟩
abbrev cX5_add : ByteArray := prog_7_method_3_code
def yX5_add : MethodName := ⟨RX5, "add", "(IIII)I"⟩
abbrev cX5_isMade : ByteArray := prog_7_method_4_code
def yX5_isMade : MethodName := ⟨RX5, "isMade", "(I)Z"⟩
abbrev cX5_isOpen : ByteArray := prog_7_method_5_code
def yX5_isOpen : MethodName := ⟨RX5, "isOpen", "(I)Z"⟩
abbrev cX5_countOpen : ByteArray := prog_7_method_6_code
def yX5_countOpen : MethodName := ⟨RX5, "countOpen", "()I"⟩
abbrev cX5_numberOf : ByteArray := prog_7_method_7_code
def yX5_numberOf : MethodName := ⟨RX5, "numberOf", "(II)I"⟩
abbrev cX5_putNumber : ByteArray := prog_7_method_8_code
def yX5_putNumber : MethodName := ⟨RX5, "putNumber", "(III)V"⟩
abbrev cX5_voteOf : ByteArray := prog_7_method_9_code
def yX5_voteOf : MethodName := ⟨RX5, "voteOf", "(II)I"⟩
abbrev cX5_putVote : ByteArray := prog_7_method_10_code
def yX5_putVote : MethodName := ⟨RX5, "putVote", "(III)V"⟩
abbrev cX6_init : ByteArray := prog_8_method_1_code
def yX6_init : MethodName := ⟨RX6, "<init>", "()V"⟩
abbrev cX6_copyFrom : ByteArray := prog_8_method_2_code
def yX6_copyFrom : MethodName := ⟨RX6, "copyFrom", "(LCondoLedger$Units;)V"⟩
abbrev cX6_add : ByteArray := prog_8_method_3_code
def yX6_add : MethodName := ⟨RX6, "add", "(IIII)I"⟩
abbrev cX6_useOf : ByteArray := prog_8_method_4_code
def yX6_useOf : MethodName := ⟨RX6, "useOf", "(I)I"⟩
abbrev cX6_accountOf : ByteArray := prog_8_method_5_code
def yX6_accountOf : MethodName := ⟨RX6, "accountOf", "(I)I"⟩
abbrev cX6_sumAccountsOf : ByteArray := prog_8_method_6_code
def yX6_sumAccountsOf : MethodName := ⟨RX6, "sumAccountsOf", "(I)I"⟩
abbrev cX6_findLeastAccount : ByteArray := prog_8_method_7_code
def yX6_findLeastAccount : MethodName := ⟨RX6, "findLeastAccount", "()I"⟩
abbrev cX6_sumSharesAt : ByteArray := prog_8_method_8_code
def yX6_sumSharesAt : MethodName := ⟨RX6, "sumSharesAt", "(II)I"⟩
abbrev cX6_sumShares : ByteArray := prog_8_method_9_code
def yX6_sumShares : MethodName := ⟨RX6, "sumShares", "()I"⟩
abbrev cX6_sumPaid : ByteArray := prog_8_method_10_code
def yX6_sumPaid : MethodName := ⟨RX6, "sumPaid", "()I"⟩
abbrev cX6_sumCharged : ByteArray := prog_8_method_11_code
def yX6_sumCharged : MethodName := ⟨RX6, "sumCharged", "()I"⟩
abbrev cX6_countOwners : ByteArray := prog_8_method_12_code
def yX6_countOwners : MethodName := ⟨RX6, "countOwners", "()I"⟩
abbrev cX6_isConcerned : ByteArray := prog_8_method_13_code
def yX6_isConcerned : MethodName := ⟨RX6, "isConcerned", "(III)Z"⟩
abbrev cX6_countConcerned : ByteArray := prog_8_method_14_code
def yX6_countConcerned : MethodName := ⟨RX6, "countConcerned", "(II)I"⟩
abbrev cX6_hasAnyUse : ByteArray := prog_8_method_15_code
def yX6_hasAnyUse : MethodName := ⟨RX6, "hasAnyUse", "()Z"⟩
abbrev cX6_charge : ByteArray := prog_8_method_16_code
def yX6_charge : MethodName := ⟨RX6, "charge", "([I)V"⟩
abbrev cX6_billMeters : ByteArray := prog_8_method_17_code
def yX6_billMeters : MethodName := ⟨RX6, "billMeters", "()V"⟩
abbrev cX6_hasUnit : ByteArray := prog_8_method_18_code
def yX6_hasUnit : MethodName := ⟨RX6, "hasUnit", "(I)Z"⟩
abbrev cX6_sum : ByteArray := prog_8_method_19_code
def yX6_sum : MethodName := ⟨RX6, "sum", "([I)I"⟩
abbrev cX7_init : ByteArray := prog_1_method_1_code
def yX7_init : MethodName := ⟨RX7, "<init>", "()V"⟩
abbrev cX7_addUnit : ByteArray := prog_1_method_2_code
def yX7_addUnit : MethodName := ⟨RX7, "addUnit", "(IIII)I"⟩
abbrev cX7_setOwner : ByteArray := prog_1_method_3_code
def yX7_setOwner : MethodName := ⟨RX7, "setOwner", "(II)I"⟩
abbrev cX7_set : ByteArray := prog_1_method_4_code
def yX7_set : MethodName := ⟨RX7, "set", "(II)I"⟩
abbrev cX7_read : ByteArray := prog_1_method_5_code
def yX7_read : MethodName := ⟨RX7, "read", "(II)I"⟩
abbrev cX7_unit : ByteArray := prog_1_method_6_code
def yX7_unit : MethodName := ⟨RX7, "unit", "(II)I"⟩
abbrev cX7_owned : ByteArray := prog_1_method_7_code
def yX7_owned : MethodName := ⟨RX7, "owned", "(I)I"⟩
abbrev cX7_debtor : ByteArray := prog_1_method_8_code
def yX7_debtor : MethodName := ⟨RX7, "debtor", "()I"⟩
abbrev cX7_shares : ByteArray := prog_1_method_9_code
def yX7_shares : MethodName := ⟨RX7, "shares", "(II)I"⟩
abbrev cX7_pay : ByteArray := prog_1_method_10_code
def yX7_pay : MethodName := ⟨RX7, "pay", "(II)I"⟩
abbrev cX7_book : ByteArray := prog_1_method_11_code
def yX7_book : MethodName := ⟨RX7, "book", "(IIIIZ)I"⟩
abbrev cX7_cost : ByteArray := prog_1_method_12_code
def yX7_cost : MethodName := ⟨RX7, "cost", "(II)I"⟩
abbrev cX7_part : ByteArray := prog_1_method_13_code
def yX7_part : MethodName := ⟨RX7, "part", "(II)I"⟩
abbrev cX7_wouldPay : ByteArray := prog_1_method_14_code
def yX7_wouldPay : MethodName := ⟨RX7, "wouldPay", "(IIII)I"⟩
abbrev cX7_fund : ByteArray := prog_1_method_15_code
def yX7_fund : MethodName := ⟨RX7, "fund", "(II)I"⟩
abbrev cX7_balance : ByteArray := prog_1_method_16_code
def yX7_balance : MethodName := ⟨RX7, "balance", "(I)I"⟩
abbrev cX7_refusal : ByteArray := prog_1_method_17_code
def yX7_refusal : MethodName := ⟨RX7, "refusal", "()I"⟩
abbrev cX7_move : ByteArray := prog_1_method_18_code
def yX7_move : MethodName := ⟨RX7, "move", "(IIII)I"⟩
abbrev cX7_vote : ByteArray := prog_1_method_19_code
def yX7_vote : MethodName := ⟨RX7, "vote", "(III)I"⟩
abbrev cX7_close : ByteArray := prog_1_method_20_code
def yX7_close : MethodName := ⟨RX7, "close", "(I)I"⟩
abbrev cX7_motion : ByteArray := prog_1_method_21_code
def yX7_motion : MethodName := ⟨RX7, "motion", "(II)I"⟩
abbrev cX7_voted : ByteArray := prog_1_method_22_code
def yX7_voted : MethodName := ⟨RX7, "voted", "(II)I"⟩
abbrev cX7_lacking : ByteArray := prog_1_method_23_code
def yX7_lacking : MethodName := ⟨RX7, "lacking", "(I)I"⟩
abbrev cX7_append : ByteArray := prog_1_method_24_code
def yX7_append : MethodName := ⟨RX7, "append", "(C)V"⟩
abbrev cX7_bookAll : ByteArray := prog_1_method_25_code
def yX7_bookAll : MethodName := ⟨RX7, "bookAll", "()I"⟩
abbrev cX7_faultPosition : ByteArray := prog_1_method_26_code
def yX7_faultPosition : MethodName := ⟨RX7, "faultPosition", "()I"⟩
abbrev cX7_account : ByteArray := prog_1_method_27_code
def yX7_account : MethodName := ⟨RX7, "account", "(I)I"⟩
abbrev cX7_share : ByteArray := prog_1_method_28_code
def yX7_share : MethodName := ⟨RX7, "share", "(I)D"⟩
abbrev cX7_undo : ByteArray := prog_1_method_29_code
def yX7_undo : MethodName := ⟨RX7, "undo", "()I"⟩
abbrev cX7_save : ByteArray := prog_1_method_30_code
def yX7_save : MethodName := ⟨RX7, "save", "()V"⟩
abbrev cX7_restore : ByteArray := prog_1_method_31_code
def yX7_restore : MethodName := ⟨RX7, "restore", "()V"⟩
abbrev cX7_isWithin : ByteArray := prog_1_method_32_code
def yX7_isWithin : MethodName := ⟨RX7, "isWithin", "(III)Z"⟩
abbrev cX7_isHouse : ByteArray := prog_1_method_33_code
def yX7_isHouse : MethodName := ⟨RX7, "isHouse", "(I)Z"⟩
abbrev cX7_isStair : ByteArray := prog_1_method_34_code
def yX7_isStair : MethodName := ⟨RX7, "isStair", "(I)Z"⟩
abbrev cX7_isOwner : ByteArray := prog_1_method_35_code
def yX7_isOwner : MethodName := ⟨RX7, "isOwner", "(I)Z"⟩
abbrev cX7_isPlaceOf : ByteArray := prog_1_method_36_code
def yX7_isPlaceOf : MethodName := ⟨RX7, "isPlaceOf", "(II)Z"⟩
abbrev cX7_checkOwner : ByteArray := prog_1_method_37_code
def yX7_checkOwner : MethodName := ⟨RX7, "checkOwner", "(I)V"⟩
abbrev cX7_checkKindAndPlace : ByteArray := prog_1_method_38_code
def yX7_checkKindAndPlace : MethodName := ⟨RX7, "checkKindAndPlace", "(III)V"⟩
abbrev cX7_checkPurpose : ByteArray := prog_1_method_39_code
def yX7_checkPurpose : MethodName := ⟨RX7, "checkPurpose", "(I)V"⟩
abbrev cX7_checkUnit : ByteArray := prog_1_method_40_code
def yX7_checkUnit : MethodName := ⟨RX7, "checkUnit", "(I)V"⟩
abbrev cX7_checkCost : ByteArray := prog_1_method_41_code
def yX7_checkCost : MethodName := ⟨RX7, "checkCost", "(I)V"⟩
abbrev cX7_checkMotion : ByteArray := prog_1_method_42_code
def yX7_checkMotion : MethodName := ⟨RX7, "checkMotion", "(I)V"⟩
abbrev cX7_refuseFor : ByteArray := prog_1_method_43_code
def yX7_refuseFor : MethodName := ⟨RX7, "refuseFor", "(I)V"⟩
abbrev cX8_init : ByteArray := prog_10_method_1_code
def yX8_init : MethodName := ⟨RX8, "<init>", "()V"⟩
abbrev cX8_thrown : ByteArray := prog_10_method_2_code
def yX8_thrown : MethodName := ⟨RX8, "thrown", "()I"⟩
abbrev cX8_fails : ByteArray := prog_10_method_3_code
def yX8_fails : MethodName := ⟨RX8, "fails", "(I)I"⟩
abbrev cX8_refuses : ByteArray := prog_10_method_4_code
def yX8_refuses : MethodName := ⟨RX8, "refuses", "(II)I"⟩
abbrev cX8_in : ByteArray := prog_10_method_5_code
def yX8_in : MethodName := ⟨RX8, "in", "(III)Z"⟩
abbrev cX8_isUnit : ByteArray := prog_10_method_6_code
def yX8_isUnit : MethodName := ⟨RX8, "isUnit", "(I)Z"⟩
abbrev cX8_at : ByteArray := prog_10_method_7_code
def yX8_at : MethodName := ⟨RX8, "at", "(II)I"⟩
abbrev cX8_accountOf : ByteArray := prog_10_method_8_code
def yX8_accountOf : MethodName := ⟨RX8, "accountOf", "(I)I"⟩
abbrev cX8_useOf : ByteArray := prog_10_method_9_code
def yX8_useOf : MethodName := ⟨RX8, "useOf", "(I)I"⟩
abbrev cX8_copies : ByteArray := prog_10_method_10_code
def yX8_copies : MethodName := ⟨RX8, "copies", "([II[II)V"⟩
abbrev cX8_changes : ByteArray := prog_10_method_11_code
def yX8_changes : MethodName := ⟨RX8, "changes", "([I)V"⟩
abbrev cX8_undo : ByteArray := prog_10_method_12_code
def yX8_undo : MethodName := ⟨RX8, "undo", "()I"⟩
abbrev cX8_save : ByteArray := prog_10_method_13_code
def yX8_save : MethodName := ⟨RX8, "save", "()V"⟩
abbrev cX8_restore : ByteArray := prog_10_method_14_code
def yX8_restore : MethodName := ⟨RX8, "restore", "()V"⟩
abbrev cX8_addUnit : ByteArray := prog_10_method_15_code
def yX8_addUnit : MethodName := ⟨RX8, "addUnit", "(IIII)I"⟩
abbrev cX8_setOwner : ByteArray := prog_10_method_16_code
def yX8_setOwner : MethodName := ⟨RX8, "setOwner", "(II)I"⟩
abbrev cX8_set : ByteArray := prog_10_method_17_code
def yX8_set : MethodName := ⟨RX8, "set", "(II)I"⟩
abbrev cX8_read : ByteArray := prog_10_method_18_code
def yX8_read : MethodName := ⟨RX8, "read", "(II)I"⟩
abbrev cX8_unit : ByteArray := prog_10_method_19_code
def yX8_unit : MethodName := ⟨RX8, "unit", "(II)I"⟩
abbrev cX8_owned : ByteArray := prog_10_method_20_code
def yX8_owned : MethodName := ⟨RX8, "owned", "(I)I"⟩
abbrev cX8_debtor : ByteArray := prog_10_method_21_code
def yX8_debtor : MethodName := ⟨RX8, "debtor", "()I"⟩
abbrev cX8_shares : ByteArray := prog_10_method_22_code
def yX8_shares : MethodName := ⟨RX8, "shares", "(II)I"⟩
abbrev cX8_concerns : ByteArray := prog_10_method_23_code
def yX8_concerns : MethodName := ⟨RX8, "concerns", "(III)Z"⟩
abbrev cX8_concerned : ByteArray := prog_10_method_24_code
def yX8_concerned : MethodName := ⟨RX8, "concerned", "(II)I"⟩
abbrev cX8_weight : ByteArray := prog_10_method_25_code
def yX8_weight : MethodName := ⟨RX8, "weight", "(III)I"⟩
abbrev cX8_weighs : ByteArray := prog_10_method_26_code
def yX8_weighs : MethodName := ⟨RX8, "weighs", "(III)V"⟩
abbrev cX8_isUsed : ByteArray := prog_10_method_27_code
def yX8_isUsed : MethodName := ⟨RX8, "isUsed", "()Z"⟩
abbrev cX8_divides : ByteArray := prog_10_method_28_code
def yX8_divides : MethodName := ⟨RX8, "divides", "(III)V"⟩
abbrev cX8_fits : ByteArray := prog_10_method_29_code
def yX8_fits : MethodName := ⟨RX8, "fits", "(II)Z"⟩
abbrev cX8_mayCharge : ByteArray := prog_10_method_30_code
def yX8_mayCharge : MethodName := ⟨RX8, "mayCharge", "()Z"⟩
abbrev cX8_charged : ByteArray := prog_10_method_31_code
def yX8_charged : MethodName := ⟨RX8, "charged", "()J"⟩
abbrev cX8_paid : ByteArray := prog_10_method_32_code
def yX8_paid : MethodName := ⟨RX8, "paid", "()J"⟩
abbrev cX8_charges : ByteArray := prog_10_method_33_code
def yX8_charges : MethodName := ⟨RX8, "charges", "()V"⟩
abbrev cX8_pay : ByteArray := prog_10_method_34_code
def yX8_pay : MethodName := ⟨RX8, "pay", "(II)I"⟩
abbrev cX8_fundPays : ByteArray := prog_10_method_35_code
def yX8_fundPays : MethodName := ⟨RX8, "fundPays", "(IIZ)I"⟩
abbrev cX8_againstCost : ByteArray := prog_10_method_36_code
def yX8_againstCost : MethodName := ⟨RX8, "againstCost", "(IIIIZ)I"⟩
abbrev cX8_dividesNone : ByteArray := prog_10_method_37_code
def yX8_dividesNone : MethodName := ⟨RX8, "dividesNone", "()V"⟩
abbrev cX8_books : ByteArray := prog_10_method_38_code
def yX8_books : MethodName := ⟨RX8, "books", "(IIIIZ)I"⟩
abbrev cX8_book : ByteArray := prog_10_method_39_code
def yX8_book : MethodName := ⟨RX8, "book", "(IIIIZ)I"⟩
abbrev cX8_isCost : ByteArray := prog_10_method_40_code
def yX8_isCost : MethodName := ⟨RX8, "isCost", "(I)Z"⟩
abbrev cX8_cost : ByteArray := prog_10_method_41_code
def yX8_cost : MethodName := ⟨RX8, "cost", "(II)I"⟩
abbrev cX8_part : ByteArray := prog_10_method_42_code
def yX8_part : MethodName := ⟨RX8, "part", "(II)I"⟩
abbrev cX8_wouldPay : ByteArray := prog_10_method_43_code
def yX8_wouldPay : MethodName := ⟨RX8, "wouldPay", "(IIII)I"⟩
abbrev cX8_fund : ByteArray := prog_10_method_44_code
def yX8_fund : MethodName := ⟨RX8, "fund", "(II)I"⟩
abbrev cX8_againstLevy : ByteArray := prog_10_method_45_code
def yX8_againstLevy : MethodName := ⟨RX8, "againstLevy", "(IIII)I"⟩
abbrev cX8_balance : ByteArray := prog_10_method_46_code
def yX8_balance : MethodName := ⟨RX8, "balance", "(I)I"⟩
abbrev cX8_refusal : ByteArray := prog_10_method_47_code
def yX8_refusal : MethodName := ⟨RX8, "refusal", "()I"⟩
abbrev cX8_motionAt : ByteArray := prog_10_method_48_code
def yX8_motionAt : MethodName := ⟨RX8, "motionAt", "(II)I"⟩
abbrev cX8_isMotion : ByteArray := prog_10_method_49_code
def yX8_isMotion : MethodName := ⟨RX8, "isMotion", "(I)Z"⟩
abbrev cX8_isOpen : ByteArray := prog_10_method_50_code
def yX8_isOpen : MethodName := ⟨RX8, "isOpen", "(I)Z"⟩
abbrev cX8_move : ByteArray := prog_10_method_51_code
def yX8_move : MethodName := ⟨RX8, "move", "(IIII)I"⟩
abbrev cX8_voteOf : ByteArray := prog_10_method_52_code
def yX8_voteOf : MethodName := ⟨RX8, "voteOf", "(II)I"⟩
abbrev cX8_vote : ByteArray := prog_10_method_53_code
def yX8_vote : MethodName := ⟨RX8, "vote", "(III)I"⟩
abbrev cX8_heads : ByteArray := prog_10_method_54_code
def yX8_heads : MethodName := ⟨RX8, "heads", "(II)I"⟩
abbrev cX8_sharesThat : ByteArray := prog_10_method_55_code
def yX8_sharesThat : MethodName := ⟨RX8, "sharesThat", "(II)I"⟩
abbrev cX8_allShares : ByteArray := prog_10_method_56_code
def yX8_allShares : MethodName := ⟨RX8, "allShares", "()I"⟩
abbrev cX8_canBeCarried : ByteArray := prog_10_method_57_code
def yX8_canBeCarried : MethodName := ⟨RX8, "canBeCarried", "(I)Z"⟩
abbrev cX8_close : ByteArray := prog_10_method_58_code
def yX8_close : MethodName := ⟨RX8, "close", "(I)I"⟩
abbrev cX8_motion : ByteArray := prog_10_method_59_code
def yX8_motion : MethodName := ⟨RX8, "motion", "(II)I"⟩
abbrev cX8_voted : ByteArray := prog_10_method_60_code
def yX8_voted : MethodName := ⟨RX8, "voted", "(II)I"⟩
abbrev cX8_lacking : ByteArray := prog_10_method_61_code
def yX8_lacking : MethodName := ⟨RX8, "lacking", "(I)I"⟩
abbrev cX8_append : ByteArray := prog_10_method_62_code
def yX8_append : MethodName := ⟨RX8, "append", "(C)V"⟩
abbrev cX8_faultPosition : ByteArray := prog_10_method_63_code
def yX8_faultPosition : MethodName := ⟨RX8, "faultPosition", "()I"⟩
abbrev cX8_here : ByteArray := prog_10_method_64_code
def yX8_here : MethodName := ⟨RX8, "here", "()I"⟩
abbrev cX8_skips : ByteArray := prog_10_method_65_code
def yX8_skips : MethodName := ⟨RX8, "skips", "(I)Z"⟩
abbrev cX8_digit : ByteArray := prog_10_method_66_code
def yX8_digit : MethodName := ⟨RX8, "digit", "(III)Z"⟩
abbrev cX8_amount : ByteArray := prog_10_method_67_code
def yX8_amount : MethodName := ⟨RX8, "amount", "(I)Z"⟩
abbrev cX8_kind : ByteArray := prog_10_method_68_code
def yX8_kind : MethodName := ⟨RX8, "kind", "(I)Z"⟩
abbrev cX8_costTold : ByteArray := prog_10_method_69_code
def yX8_costTold : MethodName := ⟨RX8, "costTold", "()Z"⟩
abbrev cX8_isText : ByteArray := prog_10_method_70_code
def yX8_isText : MethodName := ⟨RX8, "isText", "()Z"⟩
abbrev cX8_bookAll : ByteArray := prog_10_method_71_code
def yX8_bookAll : MethodName := ⟨RX8, "bookAll", "()I"⟩
abbrev cX8_owners : ByteArray := prog_10_method_72_code
def yX8_owners : MethodName := ⟨RX8, "owners", "()I"⟩
abbrev cX8_openMotions : ByteArray := prog_10_method_73_code
def yX8_openMotions : MethodName := ⟨RX8, "openMotions", "()I"⟩
abbrev cX8_funds : ByteArray := prog_10_method_74_code
def yX8_funds : MethodName := ⟨RX8, "funds", "()I"⟩
abbrev cX8_account : ByteArray := prog_10_method_75_code
def yX8_account : MethodName := ⟨RX8, "account", "(I)I"⟩
abbrev cX8_share : ByteArray := prog_10_method_76_code
def yX8_share : MethodName := ⟨RX8, "share", "(I)D"⟩
abbrev cL_addUnit : ByteArray := method_3_code
def yL_addUnit : MethodName := ⟨RL, "addUnit", "(LCondoLedger;IIII[J)I"⟩
abbrev cL_setOwner : ByteArray := method_4_code
def yL_setOwner : MethodName := ⟨RL, "setOwner", "(LCondoLedger;II[J)I"⟩
abbrev cL_set : ByteArray := method_5_code
def yL_set : MethodName := ⟨RL, "set", "(LCondoLedger;II[J)I"⟩
abbrev cL_read : ByteArray := method_6_code
def yL_read : MethodName := ⟨RL, "read", "(LCondoLedger;II[J)I"⟩
abbrev cL_unit : ByteArray := method_7_code
def yL_unit : MethodName := ⟨RL, "unit", "(LCondoLedger;II[J)I"⟩
abbrev cL_owned : ByteArray := method_8_code
def yL_owned : MethodName := ⟨RL, "owned", "(LCondoLedger;I[J)I"⟩
abbrev cL_debtor : ByteArray := method_9_code
def yL_debtor : MethodName := ⟨RL, "debtor", "(LCondoLedger;[J)I"⟩
abbrev cL_shares : ByteArray := method_10_code
def yL_shares : MethodName := ⟨RL, "shares", "(LCondoLedger;II[J)I"⟩
abbrev cL_pay : ByteArray := method_11_code
def yL_pay : MethodName := ⟨RL, "pay", "(LCondoLedger;II[J)I"⟩
abbrev cL_book : ByteArray := method_12_code
def yL_book : MethodName := ⟨RL, "book", "(LCondoLedger;IIIIZ[J)I"⟩
abbrev cL_cost : ByteArray := method_13_code
def yL_cost : MethodName := ⟨RL, "cost", "(LCondoLedger;II[J)I"⟩
abbrev cL_part : ByteArray := method_14_code
def yL_part : MethodName := ⟨RL, "part", "(LCondoLedger;II[J)I"⟩
abbrev cL_wouldPay : ByteArray := method_15_code
def yL_wouldPay : MethodName := ⟨RL, "wouldPay", "(LCondoLedger;IIII[J)I"⟩
abbrev cL_fund : ByteArray := method_16_code
def yL_fund : MethodName := ⟨RL, "fund", "(LCondoLedger;II[J)I"⟩
abbrev cL_balance : ByteArray := method_17_code
def yL_balance : MethodName := ⟨RL, "balance", "(LCondoLedger;I[J)I"⟩
abbrev cL_refusal : ByteArray := method_18_code
def yL_refusal : MethodName := ⟨RL, "refusal", "(LCondoLedger;[J)I"⟩
abbrev cL_move : ByteArray := method_19_code
def yL_move : MethodName := ⟨RL, "move", "(LCondoLedger;IIII[J)I"⟩
abbrev cL_vote : ByteArray := method_20_code
def yL_vote : MethodName := ⟨RL, "vote", "(LCondoLedger;III[J)I"⟩
abbrev cL_close : ByteArray := method_21_code
def yL_close : MethodName := ⟨RL, "close", "(LCondoLedger;I[J)I"⟩
abbrev cL_motion : ByteArray := method_22_code
def yL_motion : MethodName := ⟨RL, "motion", "(LCondoLedger;II[J)I"⟩
abbrev cL_voted : ByteArray := method_23_code
def yL_voted : MethodName := ⟨RL, "voted", "(LCondoLedger;II[J)I"⟩
abbrev cL_lacking : ByteArray := method_24_code
def yL_lacking : MethodName := ⟨RL, "lacking", "(LCondoLedger;I[J)I"⟩
abbrev cL_append : ByteArray := method_25_code
def yL_append : MethodName := ⟨RL, "append", "(LCondoLedger;C)I"⟩
abbrev cL_bookAll : ByteArray := method_26_code
def yL_bookAll : MethodName := ⟨RL, "bookAll", "(LCondoLedger;[J)I"⟩
abbrev cL_account : ByteArray := method_27_code
def yL_account : MethodName := ⟨RL, "account", "(LCondoLedger;I[J)I"⟩
abbrev cL_share : ByteArray := method_28_code
def yL_share : MethodName := ⟨RL, "share", "(LCondoLedger;I[D)I"⟩
abbrev cL_undo : ByteArray := method_29_code
def yL_undo : MethodName := ⟨RL, "undo", "(LCondoLedger;[J)I"⟩
abbrev cL_restore : ByteArray := method_30_code
def yL_restore : MethodName := ⟨RL, "restore", "(LCondoLedger;)I"⟩
abbrev cL_law : ByteArray := code
def yL_law : MethodName := ⟨RL, "law", "([I)Z"⟩
def mBs : List ByteArray := [cX0_init, cX0_put, cX0_empty, cX0_startAgain, cX0_findFault, cX0_takeNextCost, cX0_takeKindAndPlace, cX0_takeStair, cX0_putKindAndPlace, cX0_takePurpose, cX0_takeAmount, cX0_takeWholeMoney,
  cX0_takeFunding, cX0_takeSign, cX0_takeDigit, cX1_init, cX1_copyFrom, cX1_add, cX1_putNumber, cX1_numberOf, cX1_partOf, cX1_dropOldest, cX2_init, cX2_divide,
  cX2_weighByShares, cX2_weighEqually, cX2_weighByUse, cX2_addParts, cX2_sumWeights, cX2_giveCentToGreatestRemainder, cX3_init, cX3_keep, cX3_takeBack, cX3_forget, cX4_init, cX4_copyFrom,
  cX4_sumBalances, cX4_reasonAgainstPayment, cX4_reasonAgainstOrder, cX4_reasonAgainstCost, cX4_takeCost, cX4_partIfDivided, cX4_reasonAgainstLevy, cX4_takeLevy, cX4_reasonAgainstCarrying, cX4_endMotion, cX4_canBeCarried, cX4_countHeads,
  cX4_sumSharesVoting, cX4_isOrCanBeCarried, cX4_countSilentBelow, cX4_sideOfOwner, cX4_sideOfUnit, cX4_payableByFund, cX4_canCharge, cX5_init, cX5_copyFrom, cX5_add, cX5_isMade, cX5_isOpen,
  cX5_countOpen, cX5_numberOf, cX5_putNumber, cX5_voteOf, cX5_putVote, cX6_init, cX6_copyFrom, cX6_add, cX6_useOf, cX6_accountOf, cX6_sumAccountsOf, cX6_findLeastAccount,
  cX6_sumSharesAt, cX6_sumShares, cX6_sumPaid, cX6_sumCharged, cX6_countOwners, cX6_isConcerned, cX6_countConcerned, cX6_hasAnyUse, cX6_charge, cX6_billMeters, cX6_hasUnit, cX6_sum,
  cX7_init, cX7_addUnit, cX7_setOwner, cX7_set, cX7_read, cX7_unit, cX7_owned, cX7_debtor, cX7_shares, cX7_pay, cX7_book, cX7_cost,
  cX7_part, cX7_wouldPay, cX7_fund, cX7_balance, cX7_refusal, cX7_move, cX7_vote, cX7_close, cX7_motion, cX7_voted, cX7_lacking, cX7_append,
  cX7_bookAll, cX7_faultPosition, cX7_account, cX7_share, cX7_undo, cX7_save, cX7_restore, cX7_isWithin, cX7_isHouse, cX7_isStair, cX7_isOwner, cX7_isPlaceOf,
  cX7_checkOwner, cX7_checkKindAndPlace, cX7_checkPurpose, cX7_checkUnit, cX7_checkCost, cX7_checkMotion, cX7_refuseFor, cX8_init, cX8_thrown, cX8_fails, cX8_refuses, cX8_in,
  cX8_isUnit, cX8_at, cX8_accountOf, cX8_useOf, cX8_copies, cX8_changes, cX8_undo, cX8_save, cX8_restore, cX8_addUnit, cX8_setOwner, cX8_set,
  cX8_read, cX8_unit, cX8_owned, cX8_debtor, cX8_shares, cX8_concerns, cX8_concerned, cX8_weight, cX8_weighs, cX8_isUsed, cX8_divides, cX8_fits,
  cX8_mayCharge, cX8_charged, cX8_paid, cX8_charges, cX8_pay, cX8_fundPays, cX8_againstCost, cX8_dividesNone, cX8_books, cX8_book, cX8_isCost, cX8_cost,
  cX8_part, cX8_wouldPay, cX8_fund, cX8_againstLevy, cX8_balance, cX8_refusal, cX8_motionAt, cX8_isMotion, cX8_isOpen, cX8_move, cX8_voteOf, cX8_vote,
  cX8_heads, cX8_sharesThat, cX8_allShares, cX8_canBeCarried, cX8_close, cX8_motion, cX8_voted, cX8_lacking, cX8_append, cX8_faultPosition, cX8_here, cX8_skips,
  cX8_digit, cX8_amount, cX8_kind, cX8_costTold, cX8_isText, cX8_bookAll, cX8_owners, cX8_openMotions, cX8_funds, cX8_account, cX8_share, cL_addUnit,
  cL_setOwner, cL_set, cL_read, cL_unit, cL_owned, cL_debtor, cL_shares, cL_pay, cL_book, cL_cost, cL_part, cL_wouldPay,
  cL_fund, cL_balance, cL_refusal, cL_move, cL_vote, cL_close, cL_motion, cL_voted, cL_lacking, cL_append, cL_bookAll, cL_account,
  cL_share, cL_undo, cL_restore, cL_law]
def mYs : List MethodName := [yX0_init, yX0_put, yX0_empty, yX0_startAgain, yX0_findFault, yX0_takeNextCost, yX0_takeKindAndPlace, yX0_takeStair, yX0_putKindAndPlace, yX0_takePurpose, yX0_takeAmount, yX0_takeWholeMoney,
  yX0_takeFunding, yX0_takeSign, yX0_takeDigit, yX1_init, yX1_copyFrom, yX1_add, yX1_putNumber, yX1_numberOf, yX1_partOf, yX1_dropOldest, yX2_init, yX2_divide,
  yX2_weighByShares, yX2_weighEqually, yX2_weighByUse, yX2_addParts, yX2_sumWeights, yX2_giveCentToGreatestRemainder, yX3_init, yX3_keep, yX3_takeBack, yX3_forget, yX4_init, yX4_copyFrom,
  yX4_sumBalances, yX4_reasonAgainstPayment, yX4_reasonAgainstOrder, yX4_reasonAgainstCost, yX4_takeCost, yX4_partIfDivided, yX4_reasonAgainstLevy, yX4_takeLevy, yX4_reasonAgainstCarrying, yX4_endMotion, yX4_canBeCarried, yX4_countHeads,
  yX4_sumSharesVoting, yX4_isOrCanBeCarried, yX4_countSilentBelow, yX4_sideOfOwner, yX4_sideOfUnit, yX4_payableByFund, yX4_canCharge, yX5_init, yX5_copyFrom, yX5_add, yX5_isMade, yX5_isOpen,
  yX5_countOpen, yX5_numberOf, yX5_putNumber, yX5_voteOf, yX5_putVote, yX6_init, yX6_copyFrom, yX6_add, yX6_useOf, yX6_accountOf, yX6_sumAccountsOf, yX6_findLeastAccount,
  yX6_sumSharesAt, yX6_sumShares, yX6_sumPaid, yX6_sumCharged, yX6_countOwners, yX6_isConcerned, yX6_countConcerned, yX6_hasAnyUse, yX6_charge, yX6_billMeters, yX6_hasUnit, yX6_sum,
  yX7_init, yX7_addUnit, yX7_setOwner, yX7_set, yX7_read, yX7_unit, yX7_owned, yX7_debtor, yX7_shares, yX7_pay, yX7_book, yX7_cost,
  yX7_part, yX7_wouldPay, yX7_fund, yX7_balance, yX7_refusal, yX7_move, yX7_vote, yX7_close, yX7_motion, yX7_voted, yX7_lacking, yX7_append,
  yX7_bookAll, yX7_faultPosition, yX7_account, yX7_share, yX7_undo, yX7_save, yX7_restore, yX7_isWithin, yX7_isHouse, yX7_isStair, yX7_isOwner, yX7_isPlaceOf,
  yX7_checkOwner, yX7_checkKindAndPlace, yX7_checkPurpose, yX7_checkUnit, yX7_checkCost, yX7_checkMotion, yX7_refuseFor, yX8_init, yX8_thrown, yX8_fails, yX8_refuses, yX8_in,
  yX8_isUnit, yX8_at, yX8_accountOf, yX8_useOf, yX8_copies, yX8_changes, yX8_undo, yX8_save, yX8_restore, yX8_addUnit, yX8_setOwner, yX8_set,
  yX8_read, yX8_unit, yX8_owned, yX8_debtor, yX8_shares, yX8_concerns, yX8_concerned, yX8_weight, yX8_weighs, yX8_isUsed, yX8_divides, yX8_fits,
  yX8_mayCharge, yX8_charged, yX8_paid, yX8_charges, yX8_pay, yX8_fundPays, yX8_againstCost, yX8_dividesNone, yX8_books, yX8_book, yX8_isCost, yX8_cost,
  yX8_part, yX8_wouldPay, yX8_fund, yX8_againstLevy, yX8_balance, yX8_refusal, yX8_motionAt, yX8_isMotion, yX8_isOpen, yX8_move, yX8_voteOf, yX8_vote,
  yX8_heads, yX8_sharesThat, yX8_allShares, yX8_canBeCarried, yX8_close, yX8_motion, yX8_voted, yX8_lacking, yX8_append, yX8_faultPosition, yX8_here, yX8_skips,
  yX8_digit, yX8_amount, yX8_kind, yX8_costTold, yX8_isText, yX8_bookAll, yX8_owners, yX8_openMotions, yX8_funds, yX8_account, yX8_share, yL_addUnit,
  yL_setOwner, yL_set, yL_read, yL_unit, yL_owned, yL_debtor, yL_shares, yL_pay, yL_book, yL_cost, yL_part, yL_wouldPay,
  yL_fund, yL_balance, yL_refusal, yL_move, yL_vote, yL_close, yL_motion, yL_voted, yL_lacking, yL_append, yL_bookAll, yL_account,
  yL_share, yL_undo, yL_restore, yL_law]
def mCs : List Nat := [0, 0, 0, 0, 0, 0, 0, 0, 0, 0, 0, 0, 0, 0, 0, 1, 1, 1, 1, 1, 1, 1, 2, 2, 2, 2, 2, 2, 2, 2, 3, 3, 3, 3, 4, 4, 4, 4, 4, 4,
  4, 4, 4, 4, 4, 4, 4, 4, 4, 4, 4, 4, 4, 4, 4, 5, 5, 5, 5, 5, 5, 5, 5, 5, 5, 6, 6, 6, 6, 6, 6, 6, 6, 6, 6, 6, 6, 6, 6, 6,
  6, 6, 6, 6, 7, 7, 7, 7, 7, 7, 7, 7, 7, 7, 7, 7, 7, 7, 7, 7, 7, 7, 7, 7, 7, 7, 7, 7, 7, 7, 7, 7, 7, 7, 7, 7, 7, 7, 7, 7,
  7, 7, 7, 7, 7, 7, 7, 8, 8, 8, 8, 8, 8, 8, 8, 8, 8, 8, 8, 8, 8, 8, 8, 8, 8, 8, 8, 8, 8, 8, 8, 8, 8, 8, 8, 8, 8, 8, 8, 8,
  8, 8, 8, 8, 8, 8, 8, 8, 8, 8, 8, 8, 8, 8, 8, 8, 8, 8, 8, 8, 8, 8, 8, 8, 8, 8, 8, 8, 8, 8, 8, 8, 8, 8, 8, 8, 8, 8, 8, 8,
  8, 8, 8, 9, 9, 9, 9, 9, 9, 9, 9, 9, 9, 9, 9, 9, 9, 9, 9, 9, 9, 9, 9, 9, 9, 9, 9, 9, 9, 9, 9, 9]
def mLs : List Nat := [1, 2, 1, 1, 3, 1, 1, 3, 3, 1, 4, 4, 1, 2, 3, 1, 2, 3, 4, 3, 3, 1, 1, 7, 6, 3, 3, 9, 4, 3, 3, 2, 2, 1, 2, 2, 3, 4, 4, 8,
  9, 5, 6, 5, 2, 3, 3, 6, 6, 2, 5, 6, 5, 4, 5, 1, 2, 7, 2, 2, 3, 3, 4, 3, 4, 1, 2, 6, 2, 2, 4, 3, 5, 1, 1, 1, 3, 4, 5, 2,
  3, 1, 3, 4, 2, 5, 4, 4, 3, 3, 2, 1, 3, 3, 6, 3, 3, 5, 3, 2, 1, 5, 5, 3, 3, 3, 3, 2, 4, 1, 2, 2, 1, 1, 1, 3, 1, 1, 1, 2,
  1, 3, 1, 2, 2, 2, 2, 1, 1, 2, 3, 3, 2, 2, 2, 2, 5, 3, 1, 1, 1, 7, 4, 4, 3, 3, 4, 3, 5, 4, 5, 4, 10, 2, 5, 2, 4, 4, 4, 2,
  4, 4, 7, 2, 9, 7, 2, 3, 3, 5, 4, 5, 2, 1, 2, 2, 2, 8, 3, 5, 7, 5, 3, 2, 7, 3, 3, 6, 2, 1, 1, 3, 4, 3, 4, 2, 1, 5, 4, 3,
  3, 2, 2, 7, 5, 5, 5, 5, 4, 3, 5, 5, 8, 5, 5, 7, 5, 4, 3, 7, 6, 4, 5, 5, 4, 3, 3, 4, 4, 3, 2, 9]
def mRs : List Nat := [0, 0, 0, 0, 1, 2, 2, 2, 2, 2, 2, 1, 2, 2, 1, 0, 0, 1, 0, 1, 1, 0, 0, 0, 0, 0, 0, 0, 3, 0, 0, 0, 0, 0, 0, 0, 1, 1, 1, 1,
  1, 1, 1, 0, 1, 0, 2, 1, 1, 2, 1, 1, 1, 1, 2, 0, 0, 1, 2, 2, 1, 1, 0, 1, 0, 0, 0, 1, 1, 1, 1, 1, 1, 1, 1, 1, 1, 2, 1, 2,
  0, 0, 2, 1, 0, 1, 1, 1, 1, 1, 1, 1, 1, 1, 1, 1, 1, 1, 1, 1, 1, 1, 1, 1, 1, 1, 1, 0, 1, 1, 1, 4, 1, 0, 0, 2, 2, 2, 2, 2,
  0, 0, 0, 0, 0, 0, 0, 0, 1, 1, 1, 2, 2, 1, 1, 1, 0, 0, 1, 0, 0, 1, 1, 1, 1, 1, 1, 1, 1, 2, 1, 1, 0, 2, 0, 2, 2, 3, 3, 0,
  1, 1, 1, 0, 1, 1, 2, 1, 1, 1, 1, 1, 1, 1, 1, 2, 2, 1, 1, 1, 1, 1, 1, 2, 1, 1, 1, 1, 0, 1, 1, 2, 2, 2, 2, 2, 2, 1, 1, 1,
  1, 1, 4, 1, 1, 1, 1, 1, 1, 1, 1, 1, 1, 1, 1, 1, 1, 1, 1, 1, 1, 1, 1, 1, 1, 1, 1, 1, 1, 1, 1, 2]
def mFs : List Nat := [1, 0, 0, 0, 4, 3, 2, 1, 0, 1, 2, 1, 1, 0, 0, 1, 1, 2, 0, 0, 0, 1, 1, 2, 1, 0, 1, 1, 0, 0, 3, 3, 3, 0, 2, 2, 0, 2, 2, 4,
  3, 3, 4, 3, 5, 4, 4, 3, 2, 5, 1, 2, 1, 1, 3, 1, 1, 1, 1, 2, 3, 0, 0, 0, 0, 1, 1, 0, 0, 0, 1, 1, 0, 1, 1, 1, 1, 0, 1, 1,
  0, 1, 0, 0, 4, 6, 7, 6, 7, 7, 7, 6, 6, 7, 7, 7, 7, 7, 7, 7, 6, 7, 7, 7, 7, 7, 7, 6, 7, 0, 6, 7, 6, 3, 6, 0, 1, 1, 1, 2,
  6, 6, 6, 6, 6, 6, 6, 1, 0, 0, 1, 0, 1, 0, 1, 1, 0, 1, 1, 1, 1, 2, 2, 2, 2, 2, 2, 2, 1, 1, 2, 2, 3, 2, 4, 1, 2, 1, 1, 1,
  2, 0, 5, 0, 3, 6, 1, 2, 2, 5, 6, 5, 1, 0, 0, 1, 2, 3, 1, 3, 2, 2, 1, 3, 6, 4, 2, 4, 0, 0, 0, 1, 1, 2, 2, 3, 4, 6, 1, 3,
  0, 4, 2, 7, 8, 7, 8, 8, 8, 7, 7, 8, 8, 8, 8, 8, 8, 8, 7, 8, 8, 8, 8, 8, 8, 7, 8, 7, 8, 7, 7, 9]
def mOs : List Nat := [20, 0, 0, 0, 88, 68, 44, 22, 0, 22, 45, 22, 21, 0, 0, 20, 48, 68, 0, 0, 0, 48, 20, 51, 23, 0, 21, 23, 0, 0, 61, 90, 90, 0, 40, 69, 0, 43, 47, 101,
  90, 77, 101, 77, 126, 101, 96, 71, 46, 118, 22, 46, 22, 21, 77, 20, 48, 23, 22, 43, 64, 0, 0, 0, 0, 20, 48, 0, 0, 0, 21, 21, 0, 23, 23, 23, 22, 0, 23, 21,
  0, 48, 0, 0, 83, 111, 111, 111, 111, 111, 110, 90, 90, 111, 128, 111, 111, 112, 126, 110, 90, 112, 111, 147, 139, 111, 118, 90, 128, 0, 90, 111, 111, 90, 90, 0, 22, 22, 22, 42,
  90, 90, 90, 90, 90, 90, 90, 20, 0, 0, 21, 0, 22, 0, 21, 21, 0, 24, 24, 24, 24, 46, 46, 46, 46, 43, 42, 42, 22, 21, 44, 44, 67, 42, 96, 22, 44, 21, 21, 21,
  46, 0, 120, 0, 68, 146, 22, 43, 43, 120, 144, 120, 22, 0, 0, 22, 43, 68, 21, 64, 43, 43, 21, 69, 144, 90, 43, 90, 0, 0, 0, 20, 22, 45, 45, 68, 89, 146, 21, 64,
  0, 86, 43, 135, 134, 134, 133, 133, 131, 110, 112, 133, 153, 133, 133, 136, 148, 131, 110, 136, 135, 169, 161, 133, 140, 111, 151, 111, 132, 131, 110, 192]
def mGs : List Bool := [false, false, false, false, false, false, false, false, false, false, false, false, false, false, false, false, false, false, false, false,
  false, false, false, false, false, false, false, true, true, false, false, false, false, false, false, false, false, false, false, false,
  false, false, false, false, false, false, false, false, false, false, false, false, false, false, false, false, false, false, false, false,
  false, false, false, false, false, false, false, false, false, false, false, false, false, false, false, false, false, false, false, false,
  false, false, false, false, false, false, false, false, false, false, false, false, false, false, false, false, false, false, false, false,
  false, false, false, false, false, false, false, false, false, false, false, false, false, false, false, false, false, false, false, false,
  false, false, false, false, false, false, false, false, false, false, false, false, false, false, false, false, false, false, false, false,
  false, false, false, false, false, false, false, false, false, false, false, false, true, false, false, false, true, true, true, false,
  false, false, false, false, false, false, false, false, false, false, false, false, false, false, false, false, false, false, false, false,
  false, false, false, false, false, false, false, false, false, false, false, false, false, false, false, false, false, false, false, false,
  false, false, false, false, false, false, false, false, false, false, false, false, false, false, false, false, false, false, false, false,
  false, false, false, false, false, false, false, false, false, false, false, true]
def mNs : List Bool := [true, false, false, false, false, false, false, false, false, false, false, false, false, false, false, true, false, false, false, false,
  false, false, true, false, false, false, false, false, false, false, true, false, false, false, true, false, false, false, false, false,
  false, false, false, false, false, false, false, false, false, false, false, false, false, false, false, true, false, false, false, false,
  false, false, false, false, false, true, false, false, false, false, false, false, false, false, false, false, false, false, false, false,
  false, false, false, false, true, false, false, false, false, false, false, false, false, false, false, false, false, false, false, false,
  false, false, false, false, false, false, false, false, false, false, false, false, false, false, false, false, false, false, false, false,
  false, false, false, false, false, false, false, true, false, false, false, false, false, false, false, false, false, false, false, false,
  false, false, false, false, false, false, false, false, false, false, false, false, false, false, false, false, false, false, false, false,
  false, false, false, false, false, false, false, false, false, false, false, false, false, false, false, false, false, false, false, false,
  false, false, false, false, false, false, false, false, false, false, false, false, false, false, false, false, false, false, false, false,
  false, false, false, false, false, false, false, false, false, false, false, false, false, false, false, false, false, false, false, false,
  false, false, false, false, false, false, false, false, false, false, false, false]
def mXs : List (List (Nat × Nat × Nat × Nat)) := [[], [], [], [], [], [], [], [],
  [], [], [], [], [], [], [], [],
  [], [], [], [], [], [], [], [],
  [], [], [], [], [], [], [], [],
  [], [], [], [], [], [], [], [],
  [], [], [], [], [], [], [], [],
  [], [], [], [], [], [], [], [],
  [], [], [], [], [], [], [], [],
  [], [], [], [], [], [], [], [],
  [], [], [], [], [], [], [], [],
  [], [], [], [], [], [], [], [],
  [], [], [], [], [], [], [], [],
  [], [], [], [], [], [], [], [],
  [], [], [], [], [], [], [], [],
  [], [], [], [], [], [], [], [],
  [], [], [], [], [], [], [], [],
  [], [], [], [], [], [], [], [],
  [], [], [], [], [], [], [], [],
  [], [], [], [], [], [], [], [],
  [], [], [], [], [], [], [], [],
  [], [], [], [], [], [], [], [],
  [], [], [], [], [], [], [], [],
  [], [], [], [], [], [], [], [],
  [], [], [], [], [], [], [], [],
  [], [], [], [], [], [], [], [],
  [], [], [], [(0, 14, 17, 13), (0, 14, 21, 15)], [(0, 10, 13, 21), (0, 10, 17, 13)], [(0, 10, 13, 21), (0, 10, 17, 13)], [(0, 10, 13, 21), (0, 10, 17, 13)], [(0, 10, 13, 21), (0, 10, 17, 13)],
  [(0, 9, 12, 13)], [(0, 8, 11, 40)], [(0, 10, 13, 13)], [(0, 10, 13, 21), (0, 10, 17, 48)], [(0, 16, 19, 13), (0, 16, 23, 48)], [(0, 10, 13, 21), (0, 10, 17, 13)], [(0, 10, 13, 21)], [(0, 14, 17, 21), (0, 14, 21, 13), (0, 14, 25, 40)],
  [(0, 10, 13, 13), (0, 10, 17, 48)], [(0, 9, 12, 13)], [(0, 8, 11, 40)], [(0, 14, 17, 13), (0, 14, 21, 48)], [(0, 12, 15, 21), (0, 12, 19, 13), (0, 12, 23, 48)], [(0, 9, 12, 48)], [(0, 10, 13, 21), (0, 10, 17, 13)], [(0, 10, 13, 21)],
  [(0, 9, 12, 21), (0, 9, 15, 15), (0, 9, 18, 40)], [(0, 5, 8, 15)], [(0, 8, 11, 13), (0, 8, 14, 48)], [(0, 9, 12, 13)], [(0, 8, 11, 21)], [(0, 8, 11, 15)], [(0, 4, 7, 15)], []]
def mB (k : Nat) : ByteArray := mBs.getD k cX0_init
def mY (k : Nat) : MethodName := mYs.getD k yX0_init
def mC (k : Nat) : Nat := mCs.getD k 0
def mL (k : Nat) : Nat := mLs.getD k 0
def mR (k : Nat) : Nat := mRs.getD k 0
def mF (k : Nat) : Nat := mFs.getD k 0
def mO (k : Nat) : Nat := mOs.getD k 0
def mG (k : Nat) : Bool := mGs.getD k false
def mN (k : Nat) : Bool := mNs.getD k false
def mX (k : Nat) : List (Nat × Nat × Nat × Nat) := mXs.getD k []
def mFldT : List ((Nat × Nat) × (Nat × Nat × Nat)) := [((0, 9), (0, 6, 2)), ((0, 15), (0, 0, 0)), ((0, 19), (0, 7, 0)), ((0, 56), (0, 1, 0)), ((0, 59), (0, 2, 0)), ((0, 62), (0, 3, 0)), ((0, 69), (0, 4, 0)), ((0, 72), (0, 5, 1)),
  ((1, 11), (1, 1, 2)), ((1, 15), (1, 2, 2)), ((1, 18), (1, 0, 0)), ((2, 9), (2, 0, 2)), ((2, 15), (2, 1, 2)), ((2, 18), (2, 2, 2)), ((2, 45), (6, 0, 0)), ((2, 53), (6, 3, 2)),
  ((3, 11), (3, 0, 2)), ((3, 20), (3, 1, 0)), ((3, 28), (3, 2, 0)), ((4, 12), (4, 0, 2)), ((4, 21), (4, 1, 2)), ((4, 28), (4, 2, 2)), ((4, 32), (4, 3, 2)), ((4, 36), (4, 4, 2)),
  ((4, 39), (4, 6, 2)), ((4, 59), (4, 5, 0)), ((4, 99), (2, 0, 2)), ((4, 141), (6, 0, 0)), ((4, 147), (6, 3, 2)), ((4, 161), (6, 4, 2)), ((5, 11), (5, 1, 2)), ((5, 15), (5, 2, 2)),
  ((5, 18), (5, 0, 0)), ((6, 9), (6, 1, 2)), ((6, 15), (6, 2, 2)), ((6, 18), (6, 3, 2)), ((6, 21), (6, 4, 2)), ((6, 24), (6, 5, 2)), ((6, 27), (6, 6, 2)), ((6, 30), (6, 7, 2)),
  ((6, 33), (6, 8, 2)), ((6, 36), (6, 0, 0)), ((7, 15), (7, 0, 2)), ((7, 21), (7, 1, 2)), ((7, 24), (7, 2, 2)), ((7, 30), (7, 4, 2)), ((7, 37), (7, 5, 2)), ((7, 41), (7, 6, 0)),
  ((7, 45), (7, 7, 0)), ((7, 69), (4, 0, 2)), ((7, 73), (6, 0, 0)), ((7, 98), (6, 4, 2)), ((7, 109), (4, 4, 2)), ((7, 112), (6, 5, 2)), ((7, 122), (6, 1, 2)), ((7, 125), (6, 2, 2)),
  ((7, 128), (6, 3, 2)), ((7, 134), (6, 7, 2)), ((7, 137), (6, 8, 2)), ((7, 187), (4, 1, 2)), ((7, 219), (4, 3, 2)), ((7, 224), (4, 2, 2)), ((7, 228), (5, 0, 0)), ((7, 276), (0, 0, 0)),
  ((7, 303), (0, 1, 0)), ((7, 306), (0, 2, 0)), ((7, 309), (0, 3, 0)), ((7, 312), (0, 4, 0)), ((7, 315), (0, 5, 1)), ((7, 325), (1, 0, 0)), ((7, 338), (4, 5, 0)), ((7, 343), (3, 2, 0)),
  ((7, 351), (7, 3, 1)), ((8, 7), (8, 0, 2)), ((8, 13), (8, 1, 2)), ((8, 16), (8, 2, 2)), ((8, 19), (8, 4, 2)), ((8, 22), (8, 8, 2)), ((8, 26), (8, 9, 2)), ((8, 29), (8, 10, 2)),
  ((8, 32), (8, 11, 2)), ((8, 35), (8, 14, 0)), ((8, 39), (8, 15, 2)), ((8, 42), (8, 7, 0)), ((8, 45), (8, 6, 0)), ((8, 60), (8, 5, 0)), ((8, 67), (8, 3, 1)), ((8, 182), (8, 12, 0)),
  ((8, 185), (8, 13, 0)), ((8, 197), (8, 16, 0))]
def mMetT : List ((Nat × Nat) × (Nat × Nat × Nat)) := [((0, 3), (12, 0, 0)), ((0, 22), (0, 3, 0)), ((0, 25), (0, 5, 0)), ((0, 29), (0, 13, 1)), ((0, 33), (0, 6, 0)), ((0, 36), (0, 9, 0)), ((0, 39), (0, 10, 0)), ((0, 42), (0, 12, 0)),
  ((0, 45), (0, 8, 2)), ((0, 49), (0, 14, 1)), ((0, 53), (0, 7, 0)), ((0, 65), (0, 11, 0)), ((1, 3), (12, 0, 0)), ((1, 22), (11, 0, 0)), ((1, 28), (0, 21, 0)), ((2, 3), (12, 0, 0)),
  ((2, 24), (0, 24, 3)), ((2, 28), (0, 27, 1)), ((2, 32), (0, 79, 0)), ((2, 38), (0, 26, 1)), ((2, 42), (0, 25, 1)), ((2, 49), (0, 77, 3)), ((2, 56), (0, 68, 1)), ((2, 60), (0, 28, 0)),
  ((2, 64), (0, 29, 0)), ((3, 3), (12, 0, 0)), ((3, 17), (2, 34, 1)), ((3, 24), (0, 35, 1)), ((3, 31), (10, 0, 0)), ((4, 3), (12, 0, 0)), ((4, 11), (5, 65, 0)), ((4, 20), (5, 15, 0)),
  ((4, 27), (5, 55, 0)), ((4, 43), (0, 66, 1)), ((4, 47), (0, 16, 1)), ((4, 50), (0, 56, 1)), ((4, 53), (11, 0, 0)), ((4, 64), (4, 115, 3)), ((4, 68), (0, 69, 1)), ((4, 73), (0, 74, 0)),
  ((4, 78), (0, 78, 2)), ((4, 82), (0, 38, 3)), ((4, 86), (0, 53, 3)), ((4, 90), (0, 54, 3)), ((4, 93), (0, 23, 5)), ((4, 102), (0, 80, 1)), ((4, 106), (0, 81, 0)), ((4, 109), (0, 17, 1)),
  ((4, 113), (0, 18, 3)), ((4, 117), (0, 61, 2)), ((4, 120), (0, 42, 4)), ((4, 124), (0, 43, 4)), ((4, 128), (0, 62, 3)), ((4, 129), (0, 47, 3)), ((4, 132), (0, 48, 3)), ((4, 135), (0, 73, 0)),
  ((4, 138), (0, 51, 3)), ((4, 144), (0, 52, 3)), ((4, 150), (0, 59, 1)), ((4, 154), (0, 46, 2)), ((4, 158), (0, 63, 2)), ((4, 164), (10, 0, 0)), ((4, 170), (0, 75, 0)), ((5, 3), (12, 0, 0)),
  ((5, 22), (11, 0, 0)), ((5, 28), (0, 62, 3)), ((5, 32), (0, 64, 3)), ((5, 35), (4, 115, 3)), ((5, 39), (0, 58, 1)), ((5, 43), (0, 61, 2)), ((5, 47), (0, 59, 1)), ((6, 3), (12, 0, 0)),
  ((6, 40), (11, 0, 0)), ((6, 46), (0, 69, 1)), ((6, 50), (0, 83, 1)), ((6, 54), (0, 82, 1)), ((6, 58), (0, 77, 3)), ((6, 62), (0, 68, 1)), ((7, 1), (12, 0, 0)), ((7, 9), (5, 22, 0)),
  ((7, 12), (2, 34, 1)), ((7, 29), (2, 30, 1)), ((7, 36), (5, 0, 0)), ((7, 48), (1, 116, 1)), ((7, 52), (1, 117, 1)), ((7, 55), (1, 115, 3)), ((7, 59), (1, 118, 1)), ((7, 83), (0, 31, 1)),
  ((7, 87), (0, 67, 4)), ((7, 91), (0, 123, 1)), ((7, 95), (1, 120, 1)), ((7, 118), (0, 68, 1)), ((7, 131), (0, 69, 1)), ((7, 142), (0, 70, 1)), ((7, 150), (0, 71, 0)), ((7, 156), (0, 72, 2)),
  ((7, 160), (0, 37, 2)), ((7, 163), (0, 126, 1)), ((7, 166), (1, 121, 3)), ((7, 170), (1, 122, 1)), ((7, 173), (0, 39, 5)), ((7, 177), (0, 40, 5)), ((7, 180), (0, 124, 1)), ((7, 191), (0, 19, 2)),
  ((7, 194), (0, 20, 2)), ((7, 200), (0, 78, 2)), ((7, 205), (0, 41, 4)), ((7, 208), (0, 38, 3)), ((7, 212), (0, 42, 4)), ((7, 215), (0, 43, 4)), ((7, 231), (0, 57, 4)), ((7, 234), (0, 59, 1)),
  ((7, 237), (0, 63, 2)), ((7, 240), (0, 64, 3)), ((7, 243), (0, 46, 2)), ((7, 247), (0, 44, 1)), ((7, 250), (0, 45, 2)), ((7, 254), (0, 125, 1)), ((7, 257), (0, 61, 2)), ((7, 258), (0, 47, 3)),
  ((7, 261), (0, 48, 3)), ((7, 264), (0, 49, 1)), ((7, 271), (0, 50, 2)), ((7, 281), (0, 1, 1)), ((7, 285), (0, 4, 0)), ((7, 288), (0, 2, 0)), ((7, 293), (0, 35, 1)), ((7, 296), (0, 3, 0)),
  ((7, 299), (0, 5, 0)), ((7, 319), (0, 73, 0)), ((7, 322), (0, 76, 0)), ((7, 326), (0, 60, 0)), ((7, 329), (0, 74, 0)), ((7, 332), (0, 75, 0)), ((7, 335), (0, 36, 0)), ((7, 348), (0, 32, 1)),
  ((7, 356), (0, 33, 0)), ((7, 363), (1, 119, 2)), ((7, 374), (0, 58, 1)), ((8, 1), (12, 0, 0)), ((8, 48), (0, 129, 1)), ((8, 52), (1, 131, 3)), ((8, 56), (1, 133, 2)), ((8, 63), (1, 136, 4)),
  ((8, 71), (0, 137, 1)), ((8, 75), (0, 132, 1)), ((8, 80), (0, 135, 1)), ((8, 83), (0, 134, 1)), ((8, 86), (0, 149, 3)), ((8, 89), (0, 151, 3)), ((8, 95), (0, 152, 3)), ((8, 101), (0, 153, 0)),
  ((8, 105), (0, 157, 0)), ((8, 114), (0, 158, 0)), ((8, 117), (0, 130, 2)), ((8, 120), (0, 150, 2)), ((8, 123), (0, 161, 3)), ((8, 127), (0, 154, 3)), ((8, 130), (0, 163, 0)), ((8, 133), (0, 156, 0)),
  ((8, 136), (0, 159, 0)), ((8, 139), (1, 155, 2)), ((8, 143), (0, 162, 5)), ((8, 147), (0, 164, 5)), ((8, 150), (0, 166, 1)), ((8, 153), (0, 171, 4)), ((8, 157), (0, 175, 1)), ((8, 160), (1, 174, 2)),
  ((8, 163), (0, 176, 1)), ((8, 166), (0, 178, 2)), ((8, 169), (0, 180, 2)), ((8, 172), (0, 181, 2)), ((8, 175), (0, 182, 0)), ((8, 179), (0, 183, 1)), ((8, 188), (0, 190, 0)), ((8, 191), (0, 192, 3)),
  ((8, 194), (0, 191, 1)), ((8, 200), (0, 194, 1)), ((8, 203), (0, 193, 1)), ((8, 206), (0, 195, 0)), ((8, 209), (0, 196, 0)), ((8, 212), (0, 198, 0)), ((8, 215), (0, 199, 0)), ((8, 218), (0, 200, 0)),
  ((9, 7), (0, 85, 4)), ((9, 17), (0, 86, 2)), ((9, 23), (0, 87, 2)), ((9, 26), (0, 88, 2)), ((9, 29), (0, 89, 2)), ((9, 32), (0, 90, 1)), ((9, 36), (0, 91, 0)), ((9, 42), (0, 92, 2)),
  ((9, 45), (0, 93, 2)), ((9, 50), (0, 94, 5)), ((9, 54), (0, 95, 2)), ((9, 57), (0, 96, 2)), ((9, 60), (0, 97, 4)), ((9, 63), (0, 98, 2)), ((9, 66), (0, 99, 1)), ((9, 69), (0, 100, 0)),
  ((9, 72), (0, 101, 4)), ((9, 75), (0, 102, 3)), ((9, 79), (0, 103, 1)), ((9, 82), (0, 104, 2)), ((9, 85), (0, 105, 2)), ((9, 88), (0, 106, 1)), ((9, 91), (0, 107, 1)), ((9, 95), (0, 108, 0)),
  ((9, 98), (0, 110, 1)), ((9, 101), (0, 111, 1)), ((9, 105), (0, 112, 0)), ((9, 108), (0, 114, 0)), ((9, 111), (2, 84, 0)), ((9, 114), (2, 127, 0)), ((9, 115), (7, 203, 6)), ((9, 120), (0, 141, 4)),
  ((9, 121), (0, 128, 0)), ((9, 124), (7, 204, 4)), ((9, 127), (0, 142, 2)), ((9, 128), (7, 205, 4)), ((9, 130), (0, 143, 2)), ((9, 131), (7, 206, 4)), ((9, 133), (0, 144, 2)), ((9, 134), (7, 207, 4)),
  ((9, 136), (0, 145, 2)), ((9, 137), (7, 208, 3)), ((9, 140), (0, 146, 1)), ((9, 141), (7, 209, 2)), ((9, 144), (0, 147, 0)), ((9, 145), (7, 210, 4)), ((9, 147), (0, 148, 2)), ((9, 148), (7, 211, 4)),
  ((9, 150), (0, 160, 2)), ((9, 151), (7, 212, 7)), ((9, 154), (0, 165, 5)), ((9, 155), (7, 213, 4)), ((9, 157), (0, 167, 2)), ((9, 158), (7, 214, 4)), ((9, 160), (0, 168, 2)), ((9, 161), (7, 215, 6)),
  ((9, 163), (0, 169, 4)), ((9, 164), (7, 216, 4)), ((9, 166), (0, 170, 2)), ((9, 167), (7, 217, 3)), ((9, 169), (0, 172, 1)), ((9, 170), (7, 218, 2)), ((9, 172), (0, 173, 0)), ((9, 173), (7, 219, 6)),
  ((9, 175), (0, 177, 4)), ((9, 176), (7, 220, 5)), ((9, 179), (0, 179, 3)), ((9, 180), (7, 221, 3)), ((9, 182), (0, 184, 1)), ((9, 183), (7, 222, 4)), ((9, 185), (0, 185, 2)), ((9, 186), (7, 223, 4)),
  ((9, 188), (0, 186, 2)), ((9, 189), (7, 224, 3)), ((9, 191), (0, 187, 1)), ((9, 192), (7, 225, 2)), ((9, 195), (0, 188, 1)), ((9, 196), (7, 226, 2)), ((9, 198), (0, 197, 0)), ((9, 199), (0, 109, 0)),
  ((9, 202), (0, 189, 0)), ((9, 203), (7, 227, 3)), ((9, 205), (0, 201, 1)), ((9, 206), (7, 228, 3)), ((9, 209), (0, 202, 1)), ((9, 210), (7, 229, 2)), ((9, 212), (0, 138, 0)), ((9, 213), (0, 113, 0)),
  ((9, 216), (0, 139, 0)), ((9, 217), (7, 230, 1)), ((9, 220), (0, 140, 0))]
def mNewT : List ((Nat × Nat) × Nat) := [((3, 9), 4), ((4, 9), 6), ((4, 18), 1), ((4, 25), 5), ((7, 7), 2), ((7, 10), 4), ((7, 27), 3), ((7, 34), 0),
  ((9, 8), 7), ((9, 112), 8)]
def mCstT : List ((Nat × Nat) × Int32) := [((4, 63), 9999999), ((4, 72), 99999999), ((4, 77), 999999999), ((4, 169), (-99999999)), ((7, 115), 99999), ((7, 197), 9999999), ((8, 79), 99999), ((8, 109), (-99999999)),
  ((8, 112), 9999999), ((8, 113), 99999999)]
def mCstLT : List ((Nat × Nat) × Int64) := [((2, 22), 100), ((2, 67), (-1)), ((8, 93), (-1)), ((8, 99), 100), ((8, 110), 999999999)]
def mThrT : List ((Nat × Nat) × (Nat × Nat × Nat × Nat × Nat)) := [((85, 33), (0, 62, 64, 66, 0)), ((85, 58), (1, 78, 80, 82, 0)), ((87, 9), (2, 102, 104, 106, 0)), ((87, 29), (0, 62, 107, 66, 0)), ((88, 26), (0, 62, 116, 66, 0)), ((89, 171), (0, 62, 140, 66, 0)), ((91, 13), (4, 145, 147, 149, 0)), ((92, 19), (0, 62, 154, 66, 0)),
  ((95, 14), (0, 62, 185, 66, 0)), ((97, 22), (0, 62, 198, 66, 0)), ((97, 47), (4, 145, 203, 149, 0)), ((100, 7), (4, 145, 222, 149, 0)), ((102, 14), (0, 62, 232, 66, 0)), ((104, 186), (0, 62, 267, 66, 1)), ((106, 19), (1, 78, 269, 82, 1)), ((106, 74), (4, 145, 274, 149, 1)),
  ((107, 12), (1, 78, 279, 82, 1)), ((108, 26), (0, 62, 291, 66, 1)), ((110, 186), (0, 62, 341, 66, 1)), ((112, 10), (1, 78, 346, 82, 1)), ((114, 7), (1, 78, 354, 82, 1)), ((120, 7), (0, 62, 359, 66, 1)), ((121, 9), (0, 62, 361, 66, 1)), ((121, 28), (0, 62, 366, 66, 1)),
  ((122, 9), (0, 62, 368, 66, 1)), ((123, 20), (2, 102, 370, 106, 1)), ((124, 20), (2, 102, 372, 106, 1)), ((125, 14), (2, 102, 377, 106, 1)), ((126, 9), (3, 379, 381, 383, 1))]
def mFld (c x : Nat) : Option (Nat × Nat × Nat) := mFldT.lookup (c, x)
def mMet (c x : Nat) : Option (Nat × Nat × Nat) := mMetT.lookup (c, x)
def mNew (c x : Nat) : Option (Nat) := mNewT.lookup (c, x)
def mCst (c x : Nat) : Option (Int32) := mCstT.lookup (c, x)
def mCstL (c x : Nat) : Option (Int64) := mCstLT.lookup (c, x)
def mThr (c x : Nat) : Option (Nat × Nat × Nat × Nat × Nat) := mThrT.lookup (c, x)
def mExc : List String := ["java/lang/IllegalArgumentException", "java/lang/IllegalStateException", "java/lang/IndexOutOfBoundsException", "java/lang/UnsupportedOperationException", "java/util/NoSuchElementException"]
theorem mB_0 : mB 0 = cX0_init := rfl
theorem mB_1 : mB 1 = cX0_put := rfl
theorem mB_2 : mB 2 = cX0_empty := rfl
theorem mB_3 : mB 3 = cX0_startAgain := rfl
theorem mB_4 : mB 4 = cX0_findFault := rfl
theorem mB_5 : mB 5 = cX0_takeNextCost := rfl
theorem mB_6 : mB 6 = cX0_takeKindAndPlace := rfl
theorem mB_7 : mB 7 = cX0_takeStair := rfl
theorem mB_8 : mB 8 = cX0_putKindAndPlace := rfl
theorem mB_9 : mB 9 = cX0_takePurpose := rfl
theorem mB_10 : mB 10 = cX0_takeAmount := rfl
theorem mB_11 : mB 11 = cX0_takeWholeMoney := rfl
theorem mB_12 : mB 12 = cX0_takeFunding := rfl
theorem mB_13 : mB 13 = cX0_takeSign := rfl
theorem mB_14 : mB 14 = cX0_takeDigit := rfl
theorem mB_15 : mB 15 = cX1_init := rfl
theorem mB_16 : mB 16 = cX1_copyFrom := rfl
theorem mB_17 : mB 17 = cX1_add := rfl
theorem mB_18 : mB 18 = cX1_putNumber := rfl
theorem mB_19 : mB 19 = cX1_numberOf := rfl
theorem mB_20 : mB 20 = cX1_partOf := rfl
theorem mB_21 : mB 21 = cX1_dropOldest := rfl
theorem mB_22 : mB 22 = cX2_init := rfl
theorem mB_23 : mB 23 = cX2_divide := rfl
theorem mB_24 : mB 24 = cX2_weighByShares := rfl
theorem mB_25 : mB 25 = cX2_weighEqually := rfl
theorem mB_26 : mB 26 = cX2_weighByUse := rfl
theorem mB_27 : mB 27 = cX2_addParts := rfl
theorem mB_28 : mB 28 = cX2_sumWeights := rfl
theorem mB_29 : mB 29 = cX2_giveCentToGreatestRemainder := rfl
theorem mB_30 : mB 30 = cX3_init := rfl
theorem mB_31 : mB 31 = cX3_keep := rfl
theorem mB_32 : mB 32 = cX3_takeBack := rfl
theorem mB_33 : mB 33 = cX3_forget := rfl
theorem mB_34 : mB 34 = cX4_init := rfl
theorem mB_35 : mB 35 = cX4_copyFrom := rfl
theorem mB_36 : mB 36 = cX4_sumBalances := rfl
theorem mB_37 : mB 37 = cX4_reasonAgainstPayment := rfl
theorem mB_38 : mB 38 = cX4_reasonAgainstOrder := rfl
theorem mB_39 : mB 39 = cX4_reasonAgainstCost := rfl
theorem mB_40 : mB 40 = cX4_takeCost := rfl
theorem mB_41 : mB 41 = cX4_partIfDivided := rfl
theorem mB_42 : mB 42 = cX4_reasonAgainstLevy := rfl
theorem mB_43 : mB 43 = cX4_takeLevy := rfl
theorem mB_44 : mB 44 = cX4_reasonAgainstCarrying := rfl
theorem mB_45 : mB 45 = cX4_endMotion := rfl
theorem mB_46 : mB 46 = cX4_canBeCarried := rfl
theorem mB_47 : mB 47 = cX4_countHeads := rfl
theorem mB_48 : mB 48 = cX4_sumSharesVoting := rfl
theorem mB_49 : mB 49 = cX4_isOrCanBeCarried := rfl
theorem mB_50 : mB 50 = cX4_countSilentBelow := rfl
theorem mB_51 : mB 51 = cX4_sideOfOwner := rfl
theorem mB_52 : mB 52 = cX4_sideOfUnit := rfl
theorem mB_53 : mB 53 = cX4_payableByFund := rfl
theorem mB_54 : mB 54 = cX4_canCharge := rfl
theorem mB_55 : mB 55 = cX5_init := rfl
theorem mB_56 : mB 56 = cX5_copyFrom := rfl
theorem mB_57 : mB 57 = cX5_add := rfl
theorem mB_58 : mB 58 = cX5_isMade := rfl
theorem mB_59 : mB 59 = cX5_isOpen := rfl
theorem mB_60 : mB 60 = cX5_countOpen := rfl
theorem mB_61 : mB 61 = cX5_numberOf := rfl
theorem mB_62 : mB 62 = cX5_putNumber := rfl
theorem mB_63 : mB 63 = cX5_voteOf := rfl
theorem mB_64 : mB 64 = cX5_putVote := rfl
theorem mB_65 : mB 65 = cX6_init := rfl
theorem mB_66 : mB 66 = cX6_copyFrom := rfl
theorem mB_67 : mB 67 = cX6_add := rfl
theorem mB_68 : mB 68 = cX6_useOf := rfl
theorem mB_69 : mB 69 = cX6_accountOf := rfl
theorem mB_70 : mB 70 = cX6_sumAccountsOf := rfl
theorem mB_71 : mB 71 = cX6_findLeastAccount := rfl
theorem mB_72 : mB 72 = cX6_sumSharesAt := rfl
theorem mB_73 : mB 73 = cX6_sumShares := rfl
theorem mB_74 : mB 74 = cX6_sumPaid := rfl
theorem mB_75 : mB 75 = cX6_sumCharged := rfl
theorem mB_76 : mB 76 = cX6_countOwners := rfl
theorem mB_77 : mB 77 = cX6_isConcerned := rfl
theorem mB_78 : mB 78 = cX6_countConcerned := rfl
theorem mB_79 : mB 79 = cX6_hasAnyUse := rfl
theorem mB_80 : mB 80 = cX6_charge := rfl
theorem mB_81 : mB 81 = cX6_billMeters := rfl
theorem mB_82 : mB 82 = cX6_hasUnit := rfl
theorem mB_83 : mB 83 = cX6_sum := rfl
theorem mB_84 : mB 84 = cX7_init := rfl
theorem mB_85 : mB 85 = cX7_addUnit := rfl
theorem mB_86 : mB 86 = cX7_setOwner := rfl
theorem mB_87 : mB 87 = cX7_set := rfl
theorem mB_88 : mB 88 = cX7_read := rfl
theorem mB_89 : mB 89 = cX7_unit := rfl
theorem mB_90 : mB 90 = cX7_owned := rfl
theorem mB_91 : mB 91 = cX7_debtor := rfl
theorem mB_92 : mB 92 = cX7_shares := rfl
theorem mB_93 : mB 93 = cX7_pay := rfl
theorem mB_94 : mB 94 = cX7_book := rfl
theorem mB_95 : mB 95 = cX7_cost := rfl
theorem mB_96 : mB 96 = cX7_part := rfl
theorem mB_97 : mB 97 = cX7_wouldPay := rfl
theorem mB_98 : mB 98 = cX7_fund := rfl
theorem mB_99 : mB 99 = cX7_balance := rfl
theorem mB_100 : mB 100 = cX7_refusal := rfl
theorem mB_101 : mB 101 = cX7_move := rfl
theorem mB_102 : mB 102 = cX7_vote := rfl
theorem mB_103 : mB 103 = cX7_close := rfl
theorem mB_104 : mB 104 = cX7_motion := rfl
theorem mB_105 : mB 105 = cX7_voted := rfl
theorem mB_106 : mB 106 = cX7_lacking := rfl
theorem mB_107 : mB 107 = cX7_append := rfl
theorem mB_108 : mB 108 = cX7_bookAll := rfl
theorem mB_109 : mB 109 = cX7_faultPosition := rfl
theorem mB_110 : mB 110 = cX7_account := rfl
theorem mB_111 : mB 111 = cX7_share := rfl
theorem mB_112 : mB 112 = cX7_undo := rfl
theorem mB_113 : mB 113 = cX7_save := rfl
theorem mB_114 : mB 114 = cX7_restore := rfl
theorem mB_115 : mB 115 = cX7_isWithin := rfl
theorem mB_116 : mB 116 = cX7_isHouse := rfl
theorem mB_117 : mB 117 = cX7_isStair := rfl
theorem mB_118 : mB 118 = cX7_isOwner := rfl
theorem mB_119 : mB 119 = cX7_isPlaceOf := rfl
theorem mB_120 : mB 120 = cX7_checkOwner := rfl
theorem mB_121 : mB 121 = cX7_checkKindAndPlace := rfl
theorem mB_122 : mB 122 = cX7_checkPurpose := rfl
theorem mB_123 : mB 123 = cX7_checkUnit := rfl
theorem mB_124 : mB 124 = cX7_checkCost := rfl
theorem mB_125 : mB 125 = cX7_checkMotion := rfl
theorem mB_126 : mB 126 = cX7_refuseFor := rfl
theorem mB_127 : mB 127 = cX8_init := rfl
theorem mB_128 : mB 128 = cX8_thrown := rfl
theorem mB_129 : mB 129 = cX8_fails := rfl
theorem mB_130 : mB 130 = cX8_refuses := rfl
theorem mB_131 : mB 131 = cX8_in := rfl
theorem mB_132 : mB 132 = cX8_isUnit := rfl
theorem mB_133 : mB 133 = cX8_at := rfl
theorem mB_134 : mB 134 = cX8_accountOf := rfl
theorem mB_135 : mB 135 = cX8_useOf := rfl
theorem mB_136 : mB 136 = cX8_copies := rfl
theorem mB_137 : mB 137 = cX8_changes := rfl
theorem mB_138 : mB 138 = cX8_undo := rfl
theorem mB_139 : mB 139 = cX8_save := rfl
theorem mB_140 : mB 140 = cX8_restore := rfl
theorem mB_141 : mB 141 = cX8_addUnit := rfl
theorem mB_142 : mB 142 = cX8_setOwner := rfl
theorem mB_143 : mB 143 = cX8_set := rfl
theorem mB_144 : mB 144 = cX8_read := rfl
theorem mB_145 : mB 145 = cX8_unit := rfl
theorem mB_146 : mB 146 = cX8_owned := rfl
theorem mB_147 : mB 147 = cX8_debtor := rfl
theorem mB_148 : mB 148 = cX8_shares := rfl
theorem mB_149 : mB 149 = cX8_concerns := rfl
theorem mB_150 : mB 150 = cX8_concerned := rfl
theorem mB_151 : mB 151 = cX8_weight := rfl
theorem mB_152 : mB 152 = cX8_weighs := rfl
theorem mB_153 : mB 153 = cX8_isUsed := rfl
theorem mB_154 : mB 154 = cX8_divides := rfl
theorem mB_155 : mB 155 = cX8_fits := rfl
theorem mB_156 : mB 156 = cX8_mayCharge := rfl
theorem mB_157 : mB 157 = cX8_charged := rfl
theorem mB_158 : mB 158 = cX8_paid := rfl
theorem mB_159 : mB 159 = cX8_charges := rfl
theorem mB_160 : mB 160 = cX8_pay := rfl
theorem mB_161 : mB 161 = cX8_fundPays := rfl
theorem mB_162 : mB 162 = cX8_againstCost := rfl
theorem mB_163 : mB 163 = cX8_dividesNone := rfl
theorem mB_164 : mB 164 = cX8_books := rfl
theorem mB_165 : mB 165 = cX8_book := rfl
theorem mB_166 : mB 166 = cX8_isCost := rfl
theorem mB_167 : mB 167 = cX8_cost := rfl
theorem mB_168 : mB 168 = cX8_part := rfl
theorem mB_169 : mB 169 = cX8_wouldPay := rfl
theorem mB_170 : mB 170 = cX8_fund := rfl
theorem mB_171 : mB 171 = cX8_againstLevy := rfl
theorem mB_172 : mB 172 = cX8_balance := rfl
theorem mB_173 : mB 173 = cX8_refusal := rfl
theorem mB_174 : mB 174 = cX8_motionAt := rfl
theorem mB_175 : mB 175 = cX8_isMotion := rfl
theorem mB_176 : mB 176 = cX8_isOpen := rfl
theorem mB_177 : mB 177 = cX8_move := rfl
theorem mB_178 : mB 178 = cX8_voteOf := rfl
theorem mB_179 : mB 179 = cX8_vote := rfl
theorem mB_180 : mB 180 = cX8_heads := rfl
theorem mB_181 : mB 181 = cX8_sharesThat := rfl
theorem mB_182 : mB 182 = cX8_allShares := rfl
theorem mB_183 : mB 183 = cX8_canBeCarried := rfl
theorem mB_184 : mB 184 = cX8_close := rfl
theorem mB_185 : mB 185 = cX8_motion := rfl
theorem mB_186 : mB 186 = cX8_voted := rfl
theorem mB_187 : mB 187 = cX8_lacking := rfl
theorem mB_188 : mB 188 = cX8_append := rfl
theorem mB_189 : mB 189 = cX8_faultPosition := rfl
theorem mB_190 : mB 190 = cX8_here := rfl
theorem mB_191 : mB 191 = cX8_skips := rfl
theorem mB_192 : mB 192 = cX8_digit := rfl
theorem mB_193 : mB 193 = cX8_amount := rfl
theorem mB_194 : mB 194 = cX8_kind := rfl
theorem mB_195 : mB 195 = cX8_costTold := rfl
theorem mB_196 : mB 196 = cX8_isText := rfl
theorem mB_197 : mB 197 = cX8_bookAll := rfl
theorem mB_198 : mB 198 = cX8_owners := rfl
theorem mB_199 : mB 199 = cX8_openMotions := rfl
theorem mB_200 : mB 200 = cX8_funds := rfl
theorem mB_201 : mB 201 = cX8_account := rfl
theorem mB_202 : mB 202 = cX8_share := rfl
theorem mB_203 : mB 203 = cL_addUnit := rfl
theorem mB_204 : mB 204 = cL_setOwner := rfl
theorem mB_205 : mB 205 = cL_set := rfl
theorem mB_206 : mB 206 = cL_read := rfl
theorem mB_207 : mB 207 = cL_unit := rfl
theorem mB_208 : mB 208 = cL_owned := rfl
theorem mB_209 : mB 209 = cL_debtor := rfl
theorem mB_210 : mB 210 = cL_shares := rfl
theorem mB_211 : mB 211 = cL_pay := rfl
theorem mB_212 : mB 212 = cL_book := rfl
theorem mB_213 : mB 213 = cL_cost := rfl
theorem mB_214 : mB 214 = cL_part := rfl
theorem mB_215 : mB 215 = cL_wouldPay := rfl
theorem mB_216 : mB 216 = cL_fund := rfl
theorem mB_217 : mB 217 = cL_balance := rfl
theorem mB_218 : mB 218 = cL_refusal := rfl
theorem mB_219 : mB 219 = cL_move := rfl
theorem mB_220 : mB 220 = cL_vote := rfl
theorem mB_221 : mB 221 = cL_close := rfl
theorem mB_222 : mB 222 = cL_motion := rfl
theorem mB_223 : mB 223 = cL_voted := rfl
theorem mB_224 : mB 224 = cL_lacking := rfl
theorem mB_225 : mB 225 = cL_append := rfl
theorem mB_226 : mB 226 = cL_bookAll := rfl
theorem mB_227 : mB 227 = cL_account := rfl
theorem mB_228 : mB 228 = cL_share := rfl
theorem mB_229 : mB 229 = cL_undo := rfl
theorem mB_230 : mB 230 = cL_restore := rfl
theorem mB_231 : mB 231 = cL_law := rfl
