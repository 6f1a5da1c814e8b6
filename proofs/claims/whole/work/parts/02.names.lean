def RX0 : String := "CardSheets$History"
def TX0 : u_T := fun k => match k with
  | 0 => ("CardSheets$History", "states", "[LCardSheets$State;", true)
  | 1 => ("CardSheets$History", "next", "I", false)
  | _ => ("CardSheets$History", "size", "I", false)
def tyX0 : Nat → FieldType := fun k => match k with
  | 0 => .array (.object "CardSheets$State")
  | 1 => .int
  | _ => .int
theorem nmX0 : ∀ a, a < 3 → ∀ b, b < 3 → a ≠ b → (TX0 a).2.1 ≠ (TX0 b).2.1 := by decide +kernel
theorem tyX0_ok : ∀ k, k < 3 → parseFieldDescriptor (TX0 k).2.2.1 = some (tyX0 k) := by decide +kernel
abbrev cX0_init : ByteArray := prog_2_method_1_code
def yX0_init : MethodName := ⟨RX0, "<init>", "()V"⟩
abbrev cX0_record : ByteArray := prog_2_method_2_code
def yX0_record : MethodName := ⟨RX0, "record", "(LCardSheets$State;)V"⟩
abbrev cX0_takeLatestInto : ByteArray := prog_2_method_3_code
def yX0_takeLatestInto : MethodName := ⟨RX0, "takeLatestInto", "(LCardSheets$State;)V"⟩
abbrev cX0_copyTo : ByteArray := prog_2_method_4_code
def yX0_copyTo : MethodName := ⟨RX0, "copyTo", "(ILCardSheets$State;)V"⟩
def RX1 : String := "CardSheets$Pack"
def TX1 : u_T := fun k => match k with
  | 0 => ("CardSheets$Pack", "order", "[I", true)
  | 1 => ("CardSheets$Pack", "from", "LCardSheets$Sheet;", false)
  | _ => ("CardSheets$Pack", "dealt", "I", false)
def tyX1 : Nat → FieldType := fun k => match k with
  | 0 => .array .int
  | 1 => .object "CardSheets$Sheet"
  | _ => .int
theorem nmX1 : ∀ a, a < 3 → ∀ b, b < 3 → a ≠ b → (TX1 a).2.1 ≠ (TX1 b).2.1 := by decide +kernel
theorem tyX1_ok : ∀ k, k < 3 → parseFieldDescriptor (TX1 k).2.2.1 = some (tyX1 k) := by decide +kernel
abbrev cX1_init : ByteArray := prog_3_method_1_code
def yX1_init : MethodName := ⟨RX1, "<init>", "()V"⟩
abbrev cX1_copyFrom : ByteArray := prog_3_method_2_code
def yX1_copyFrom : MethodName := ⟨RX1, "copyFrom", "(LCardSheets$Pack;)V"⟩
abbrev cX1_layDown : ByteArray := prog_3_method_3_code
def yX1_layDown : MethodName := ⟨RX1, "layDown", "(LCardSheets$Sheet;I)V"⟩
abbrev cX1_takeAway : ByteArray := prog_3_method_4_code
def yX1_takeAway : MethodName := ⟨RX1, "takeAway", "()V"⟩
abbrev cX1_isThere : ByteArray := prog_3_method_5_code
def yX1_isThere : MethodName := ⟨RX1, "isThere", "()Z"⟩
abbrev cX1_left : ByteArray := prog_3_method_6_code
def yX1_left : MethodName := ⟨RX1, "left", "()I"⟩
abbrev cX1_hasPartsAt : ByteArray := prog_3_method_7_code
def yX1_hasPartsAt : MethodName := ⟨RX1, "hasPartsAt", "(I)Z"⟩
abbrev cX1_cardAt : ByteArray := prog_3_method_8_code
def yX1_cardAt : MethodName := ⟨RX1, "cardAt", "(I)I"⟩
abbrev cX1_placeOf : ByteArray := prog_3_method_9_code
def yX1_placeOf : MethodName := ⟨RX1, "placeOf", "(I)I"⟩
abbrev cX1_cutAt : ByteArray := prog_3_method_10_code
def yX1_cutAt : MethodName := ⟨RX1, "cutAt", "(I[I)V"⟩
abbrev cX1_shuffleAt : ByteArray := prog_3_method_11_code
def yX1_shuffleAt : MethodName := ⟨RX1, "shuffleAt", "(I[I)I"⟩
abbrev cX1_marksOf : ByteArray := prog_3_method_12_code
def yX1_marksOf : MethodName := ⟨RX1, "marksOf", "(I)I"⟩
abbrev cX1_marksAt : ByteArray := prog_3_method_13_code
def yX1_marksAt : MethodName := ⟨RX1, "marksAt", "(I)I"⟩
abbrev cX1_canBeAt : ByteArray := prog_3_method_14_code
def yX1_canBeAt : MethodName := ⟨RX1, "canBeAt", "(I)I"⟩
abbrev cX1_guessAt : ByteArray := prog_3_method_15_code
def yX1_guessAt : MethodName := ⟨RX1, "guessAt", "(I)I"⟩
abbrev cX1_known : ByteArray := prog_3_method_16_code
def yX1_known : MethodName := ⟨RX1, "known", "()I"⟩
abbrev cX1_guessedRight : ByteArray := prog_3_method_17_code
def yX1_guessedRight : MethodName := ⟨RX1, "guessedRight", "()I"⟩
abbrev cX1_sumOfChances : ByteArray := prog_3_method_18_code
def yX1_sumOfChances : MethodName := ⟨RX1, "sumOfChances", "()F"⟩
def RX2 : String := "CardSheets$Sheet"
def TX2 : u_T := fun k => match k with
  | 0 => ("CardSheets$Sheet", "cards", "[I", true)
  | 1 => ("CardSheets$Sheet", "marks", "[I", true)
  | _ => ("CardSheets$Sheet", "leans", "[I", true)
def tyX2 : Nat → FieldType := fun k => match k with
  | 0 => .array .int
  | 1 => .array .int
  | _ => .array .int
theorem nmX2 : ∀ a, a < 3 → ∀ b, b < 3 → a ≠ b → (TX2 a).2.1 ≠ (TX2 b).2.1 := by decide +kernel
theorem tyX2_ok : ∀ k, k < 3 → parseFieldDescriptor (TX2 k).2.2.1 = some (tyX2 k) := by decide +kernel
abbrev cX2_init : ByteArray := prog_4_method_1_code
def yX2_init : MethodName := ⟨RX2, "<init>", "([I[I[IZ)V"⟩
abbrev cX2_cardCutTo : ByteArray := prog_4_method_2_code
def yX2_cardCutTo : MethodName := ⟨RX2, "cardCutTo", "(II)I"⟩
abbrev cX2_cardsAtHome : ByteArray := prog_4_method_3_code
def yX2_cardsAtHome : MethodName := ⟨RX2, "cardsAtHome", "(I)I"⟩
def RX3 : String := "CardSheets$State"
def TX3 : u_T := fun k => match k with
  | 0 => ("CardSheets$State", "cards", "[I", true)
  | 1 => ("CardSheets$State", "leans", "[I", true)
  | 2 => ("CardSheets$State", "backs", "[I", true)
  | 3 => ("CardSheets$State", "settings", "[I", true)
  | 4 => ("CardSheets$State", "pile", "[LCardSheets$Sheet;", true)
  | 5 => ("CardSheets$State", "pack", "LCardSheets$Pack;", true)
  | 6 => ("CardSheets$State", "piled", "I", false)
  | 7 => ("CardSheets$State", "printed", "I", false)
  | 8 => ("CardSheets$State", "sold", "I", false)
  | 9 => ("CardSheets$State", "pulped", "I", false)
  | _ => ("CardSheets$State", "coins", "I", false)
def tyX3 : Nat → FieldType := fun k => match k with
  | 0 => .array .int
  | 1 => .array .int
  | 2 => .array .int
  | 3 => .array .int
  | 4 => .array (.object "CardSheets$Sheet")
  | 5 => .object "CardSheets$Pack"
  | 6 => .int
  | 7 => .int
  | 8 => .int
  | 9 => .int
  | _ => .int
theorem nmX3 : ∀ a, a < 11 → ∀ b, b < 11 → a ≠ b → (TX3 a).2.1 ≠ (TX3 b).2.1 := by decide +kernel
theorem tyX3_ok : ∀ k, k < 11 → parseFieldDescriptor (TX3 k).2.2.1 = some (tyX3 k) := by decide +kernel
abbrev cX3_init : ByteArray := prog_5_method_1_code
def yX3_init : MethodName := ⟨RX3, "<init>", "()V"⟩
abbrev cX3_copyFrom : ByteArray := prog_5_method_2_code
def yX3_copyFrom : MethodName := ⟨RX3, "copyFrom", "(LCardSheets$State;)V"⟩
abbrev cX3_exchange : ByteArray := prog_5_method_3_code
def yX3_exchange : MethodName := ⟨RX3, "exchange", "(II)V"⟩
abbrev cX3_cellOf : ByteArray := prog_5_method_4_code
def yX3_cellOf : MethodName := ⟨RX3, "cellOf", "(I)I"⟩
abbrev cX3_hasMark : ByteArray := prog_5_method_5_code
def yX3_hasMark : MethodName := ⟨RX3, "hasMark", "(II)Z"⟩
abbrev cX3_setMark : ByteArray := prog_5_method_6_code
def yX3_setMark : MethodName := ⟨RX3, "setMark", "(IIZ)V"⟩
abbrev cX3_marksOnBacks : ByteArray := prog_5_method_7_code
def yX3_marksOnBacks : MethodName := ⟨RX3, "marksOnBacks", "()I"⟩
abbrev cX3_sheetAt : ByteArray := prog_5_method_8_code
def yX3_sheetAt : MethodName := ⟨RX3, "sheetAt", "(I)LCardSheets$Sheet;"⟩
abbrev cX3_printSheet : ByteArray := prog_5_method_9_code
def yX3_printSheet : MethodName := ⟨RX3, "printSheet", "(Z)V"⟩
abbrev cX3_wear : ByteArray := prog_5_method_10_code
def yX3_wear : MethodName := ⟨RX3, "wear", "()V"⟩
abbrev cX3_takeTopSheet : ByteArray := prog_5_method_11_code
def yX3_takeTopSheet : MethodName := ⟨RX3, "takeTopSheet", "()LCardSheets$Sheet;"⟩
abbrev cX3_reasonAgainstSale : ByteArray := prog_5_method_12_code
def yX3_reasonAgainstSale : MethodName := ⟨RX3, "reasonAgainstSale", "()I"⟩
abbrev cX3_knownIfPrinted : ByteArray := prog_5_method_13_code
def yX3_knownIfPrinted : MethodName := ⟨RX3, "knownIfPrinted", "(ZI)I"⟩
def RX4 : String := "CardSheets$Text"
def TX4 : u_T := fun k => match k with
  | 0 => ("CardSheets$Text", "signs", "[C", true)
  | 1 => ("CardSheets$Text", "length", "I", false)
  | 2 => ("CardSheets$Text", "next", "I", false)
  | 3 => ("CardSheets$Text", "kinds", "[C", true)
  | 4 => ("CardSheets$Text", "firsts", "[I", true)
  | 5 => ("CardSheets$Text", "seconds", "[I", true)
  | _ => ("CardSheets$Text", "changes", "I", false)
def tyX4 : Nat → FieldType := fun k => match k with
  | 0 => .array .char
  | 1 => .int
  | 2 => .int
  | 3 => .array .char
  | 4 => .array .int
  | 5 => .array .int
  | _ => .int
theorem nmX4 : ∀ a, a < 7 → ∀ b, b < 7 → a ≠ b → (TX4 a).2.1 ≠ (TX4 b).2.1 := by decide +kernel
theorem tyX4_ok : ∀ k, k < 7 → parseFieldDescriptor (TX4 k).2.2.1 = some (tyX4 k) := by decide +kernel
abbrev cX4_init : ByteArray := prog_6_method_1_code
def yX4_init : MethodName := ⟨RX4, "<init>", "()V"⟩
abbrev cX4_append : ByteArray := prog_6_method_2_code
def yX4_append : MethodName := ⟨RX4, "append", "(C)V"⟩
abbrev cX4_kindOf : ByteArray := prog_6_method_3_code
def yX4_kindOf : MethodName := ⟨RX4, "kindOf", "(I)C"⟩
abbrev cX4_findFault : ByteArray := prog_6_method_4_code
def yX4_findFault : MethodName := ⟨RX4, "findFault", "()I"⟩
abbrev cX4_leansAnotherThanCourts : ByteArray := prog_6_method_5_code
def yX4_leansAnotherThanCourts : MethodName := ⟨RX4, "leansAnotherThanCourts", "()Z"⟩
abbrev cX4_readChange : ByteArray := prog_6_method_6_code
def yX4_readChange : MethodName := ⟨RX4, "readChange", "()Z"⟩
abbrev cX4_mostBehind : ByteArray := prog_6_method_7_code
def yX4_mostBehind : MethodName := ⟨RX4, "mostBehind", "(C)I"⟩
abbrev cX4_addChange : ByteArray := prog_6_method_8_code
def yX4_addChange : MethodName := ⟨RX4, "addChange", "(CII)V"⟩
abbrev cX4_nextSign : ByteArray := prog_6_method_9_code
def yX4_nextSign : MethodName := ⟨RX4, "nextSign", "()C"⟩
abbrev cX4_take : ByteArray := prog_6_method_10_code
def yX4_take : MethodName := ⟨RX4, "take", "(C)Z"⟩
abbrev cX4_readNumber : ByteArray := prog_6_method_11_code
def yX4_readNumber : MethodName := ⟨RX4, "readNumber", "(II)I"⟩
abbrev cX4_nextDigit : ByteArray := prog_6_method_12_code
def yX4_nextDigit : MethodName := ⟨RX4, "nextDigit", "()I"⟩
def RX5 : String := "CardSheets"
def TX5 : u_T := fun k => match k with
  | 0 => ("CardSheets", "now", "LCardSheets$State;", true)
  | 1 => ("CardSheets", "snapshot", "LCardSheets$State;", true)
  | 2 => ("CardSheets", "history", "LCardSheets$History;", true)
  | 3 => ("CardSheets", "text", "LCardSheets$Text;", true)
  | 4 => ("CardSheets", "spare", "[I", true)
  | _ => ("CardSheets", "isKept", "Z", false)
def tyX5 : Nat → FieldType := fun k => match k with
  | 0 => .object "CardSheets$State"
  | 1 => .object "CardSheets$State"
  | 2 => .object "CardSheets$History"
  | 3 => .object "CardSheets$Text"
  | 4 => .array .int
  | _ => .boolean
theorem nmX5 : ∀ a, a < 6 → ∀ b, b < 6 → a ≠ b → (TX5 a).2.1 ≠ (TX5 b).2.1 := by decide +kernel
theorem tyX5_ok : ∀ k, k < 6 → parseFieldDescriptor (TX5 k).2.2.1 = some (tyX5 k) := by decide +kernel
abbrev cX5_init : ByteArray := prog_1_method_1_code
def yX5_init : MethodName := ⟨RX5, "<init>", "()V"⟩
abbrev cX5_swap : ByteArray := prog_1_method_2_code
def yX5_swap : MethodName := ⟨RX5, "swap", "(II)I"⟩
abbrev cX5_mark : ByteArray := prog_1_method_3_code
def yX5_mark : MethodName := ⟨RX5, "mark", "(IIZ)I"⟩
abbrev cX5_lean : ByteArray := prog_1_method_4_code
def yX5_lean : MethodName := ⟨RX5, "lean", "(II)I"⟩
abbrev cX5_changeAll : ByteArray := prog_1_method_5_code
def yX5_changeAll : MethodName := ⟨RX5, "changeAll", "()I"⟩
abbrev cX5_set : ByteArray := prog_1_method_6_code
def yX5_set : MethodName := ⟨RX5, "set", "(II)I"⟩
abbrev cX5_print : ByteArray := prog_1_method_7_code
def yX5_print : MethodName := ⟨RX5, "print", "(Z)I"⟩
abbrev cX5_cutSheet : ByteArray := prog_1_method_8_code
def yX5_cutSheet : MethodName := ⟨RX5, "cutSheet", "(I)I"⟩
abbrev cX5_cutPack : ByteArray := prog_1_method_9_code
def yX5_cutPack : MethodName := ⟨RX5, "cutPack", "(I)I"⟩
abbrev cX5_shuffle : ByteArray := prog_1_method_10_code
def yX5_shuffle : MethodName := ⟨RX5, "shuffle", "(I)I"⟩
abbrev cX5_deal : ByteArray := prog_1_method_11_code
def yX5_deal : MethodName := ⟨RX5, "deal", "(I)I"⟩
abbrev cX5_sell : ByteArray := prog_1_method_12_code
def yX5_sell : MethodName := ⟨RX5, "sell", "()I"⟩
abbrev cX5_pulp : ByteArray := prog_1_method_13_code
def yX5_pulp : MethodName := ⟨RX5, "pulp", "()I"⟩
abbrev cX5_type : ByteArray := prog_1_method_14_code
def yX5_type : MethodName := ⟨RX5, "type", "(C)I"⟩
abbrev cX5_clearText : ByteArray := prog_1_method_15_code
def yX5_clearText : MethodName := ⟨RX5, "clearText", "()I"⟩
abbrev cX5_fault : ByteArray := prog_1_method_16_code
def yX5_fault : MethodName := ⟨RX5, "fault", "()I"⟩
abbrev cX5_undo : ByteArray := prog_1_method_17_code
def yX5_undo : MethodName := ⟨RX5, "undo", "()I"⟩
abbrev cX5_keep : ByteArray := prog_1_method_18_code
def yX5_keep : MethodName := ⟨RX5, "keep", "()I"⟩
abbrev cX5_restore : ByteArray := prog_1_method_19_code
def yX5_restore : MethodName := ⟨RX5, "restore", "()I"⟩
abbrev cX5_block : ByteArray := prog_1_method_20_code
def yX5_block : MethodName := ⟨RX5, "block", "(II)I"⟩
abbrev cX5_cardOf : ByteArray := prog_1_method_21_code
def yX5_cardOf : MethodName := ⟨RX5, "cardOf", "(II)I"⟩
abbrev cX5_sheet : ByteArray := prog_1_method_22_code
def yX5_sheet : MethodName := ⟨RX5, "sheet", "(III)I"⟩
abbrev cX5_pack : ByteArray := prog_1_method_23_code
def yX5_pack : MethodName := ⟨RX5, "pack", "(II)I"⟩
abbrev cX5_count : ByteArray := prog_1_method_24_code
def yX5_count : MethodName := ⟨RX5, "count", "(I)I"⟩
abbrev cX5_why : ByteArray := prog_1_method_25_code
def yX5_why : MethodName := ⟨RX5, "why", "()I"⟩
abbrev cX5_chances : ByteArray := prog_1_method_26_code
def yX5_chances : MethodName := ⟨RX5, "chances", "()F"⟩
abbrev cX5_ifPrinted : ByteArray := prog_1_method_27_code
def yX5_ifPrinted : MethodName := ⟨RX5, "ifPrinted", "(Z)I"⟩
abbrev cX5_worstFlaw : ByteArray := prog_1_method_28_code
def yX5_worstFlaw : MethodName := ⟨RX5, "worstFlaw", "(I)I"⟩
abbrev cX5_bestWay : ByteArray := prog_1_method_29_code
def yX5_bestWay : MethodName := ⟨RX5, "bestWay", "()I"⟩
abbrev cX5_backIn : ByteArray := prog_1_method_30_code
def yX5_backIn : MethodName := ⟨RX5, "backIn", "(I)I"⟩
abbrev cX5_doChange : ByteArray := prog_1_method_31_code
def yX5_doChange : MethodName := ⟨RX5, "doChange", "(CII)V"⟩
abbrev cX5_isCell : ByteArray := prog_1_method_32_code
def yX5_isCell : MethodName := ⟨RX5, "isCell", "(I)Z"⟩
abbrev cX5_isCard : ByteArray := prog_1_method_33_code
def yX5_isCard : MethodName := ⟨RX5, "isCard", "(I)Z"⟩
abbrev cX5_isMark : ByteArray := prog_1_method_34_code
def yX5_isMark : MethodName := ⟨RX5, "isMark", "(I)Z"⟩
abbrev cX5_isCourt : ByteArray := prog_1_method_35_code
def yX5_isCourt : MethodName := ⟨RX5, "isCourt", "(I)Z"⟩
abbrev cX5_at : ByteArray := prog_1_method_36_code
def yX5_at : MethodName := ⟨RX5, "at", "([II)I"⟩
abbrev cX5_put : ByteArray := prog_1_method_37_code
def yX5_put : MethodName := ⟨RX5, "put", "([III)V"⟩
abbrev cX5_copyRow : ByteArray := prog_1_method_38_code
def yX5_copyRow : MethodName := ⟨RX5, "copyRow", "([I[I)V"⟩
abbrev cX5_courtsBeyond : ByteArray := prog_1_method_39_code
def yX5_courtsBeyond : MethodName := ⟨RX5, "courtsBeyond", "([II)I"⟩
abbrev cX5_cellAt : ByteArray := prog_1_method_40_code
def yX5_cellAt : MethodName := ⟨RX5, "cellAt", "(II)I"⟩
abbrev cX5_along : ByteArray := prog_1_method_41_code
def yX5_along : MethodName := ⟨RX5, "along", "(IIZ)I"⟩
abbrev cX5_placeBefore : ByteArray := prog_1_method_42_code
def yX5_placeBefore : MethodName := ⟨RX5, "placeBefore", "(III)I"⟩
abbrev cX5_shufflesUntilBack : ByteArray := prog_1_method_43_code
def yX5_shufflesUntilBack : MethodName := ⟨RX5, "shufflesUntilBack", "(II)I"⟩
abbrev cX5_roundOf : ByteArray := prog_1_method_44_code
def yX5_roundOf : MethodName := ⟨RX5, "roundOf", "(III)I"⟩
abbrev cX5_leastCommonMultiple : ByteArray := prog_1_method_45_code
def yX5_leastCommonMultiple : MethodName := ⟨RX5, "leastCommonMultiple", "(II)I"⟩
def RX6 : String := "CardSheetsModel"
def TX6 : u_T := fun k => match k with
  | 0 => ("CardSheetsModel", "state", "[I", true)
  | 1 => ("CardSheetsModel", "spare", "[I", true)
  | 2 => ("CardSheetsModel", "history", "[I", true)
  | 3 => ("CardSheetsModel", "states", "I", false)
  | 4 => ("CardSheetsModel", "snapshot", "[I", true)
  | 5 => ("CardSheetsModel", "hasSnapshot", "Z", false)
  | 6 => ("CardSheetsModel", "text", "[I", true)
  | 7 => ("CardSheetsModel", "length", "I", false)
  | 8 => ("CardSheetsModel", "at", "I", false)
  | 9 => ("CardSheetsModel", "sign", "I", false)
  | 10 => ("CardSheetsModel", "first", "I", false)
  | 11 => ("CardSheetsModel", "second", "I", false)
  | 12 => ("CardSheetsModel", "order", "[I", true)
  | _ => ("CardSheetsModel", "seen", "[I", true)
def tyX6 : Nat → FieldType := fun k => match k with
  | 0 => .array .int
  | 1 => .array .int
  | 2 => .array .int
  | 3 => .int
  | 4 => .array .int
  | 5 => .boolean
  | 6 => .array .int
  | 7 => .int
  | 8 => .int
  | 9 => .int
  | 10 => .int
  | 11 => .int
  | 12 => .array .int
  | _ => .array .int
theorem nmX6 : ∀ a, a < 14 → ∀ b, b < 14 → a ≠ b → (TX6 a).2.1 ≠ (TX6 b).2.1 := by decide +kernel
theorem tyX6_ok : ∀ k, k < 14 → parseFieldDescriptor (TX6 k).2.2.1 = some (tyX6 k) := by decide +kernel
abbrev cX6_init : ByteArray := prog_8_method_1_code
def yX6_init : MethodName := ⟨RX6, "<init>", "()V"⟩
abbrev cX6_within : ByteArray := prog_8_method_2_code
def yX6_within : MethodName := ⟨RX6, "within", "(III)Z"⟩
abbrev cX6_isCell : ByteArray := prog_8_method_3_code
def yX6_isCell : MethodName := ⟨RX6, "isCell", "(I)Z"⟩
abbrev cX6_isMark : ByteArray := prog_8_method_4_code
def yX6_isMark : MethodName := ⟨RX6, "isMark", "(I)Z"⟩
abbrev cX6_isCourt : ByteArray := prog_8_method_5_code
def yX6_isCourt : MethodName := ⟨RX6, "isCourt", "(I)Z"⟩
abbrev cX6_ones : ByteArray := prog_8_method_6_code
def yX6_ones : MethodName := ⟨RX6, "ones", "(I)I"⟩
abbrev cX6_putAside : ByteArray := prog_8_method_7_code
def yX6_putAside : MethodName := ⟨RX6, "putAside", "()V"⟩
abbrev cX6_takeBack : ByteArray := prog_8_method_8_code
def yX6_takeBack : MethodName := ⟨RX6, "takeBack", "()V"⟩
abbrev cX6_push : ByteArray := prog_8_method_9_code
def yX6_push : MethodName := ⟨RX6, "push", "()V"⟩
abbrev cX6_record : ByteArray := prog_8_method_10_code
def yX6_record : MethodName := ⟨RX6, "record", "()V"⟩
abbrev cX6_undo : ByteArray := prog_8_method_11_code
def yX6_undo : MethodName := ⟨RX6, "undo", "()I"⟩
abbrev cX6_keep : ByteArray := prog_8_method_12_code
def yX6_keep : MethodName := ⟨RX6, "keep", "()I"⟩
abbrev cX6_restore : ByteArray := prog_8_method_13_code
def yX6_restore : MethodName := ⟨RX6, "restore", "()I"⟩
abbrev cX6_exchange : ByteArray := prog_8_method_14_code
def yX6_exchange : MethodName := ⟨RX6, "exchange", "(II)V"⟩
abbrev cX6_setMark : ByteArray := prog_8_method_15_code
def yX6_setMark : MethodName := ⟨RX6, "setMark", "(IIZ)V"⟩
abbrev cX6_swap : ByteArray := prog_8_method_16_code
def yX6_swap : MethodName := ⟨RX6, "swap", "(II)I"⟩
abbrev cX6_mark : ByteArray := prog_8_method_17_code
def yX6_mark : MethodName := ⟨RX6, "mark", "(IIZ)I"⟩
abbrev cX6_lean : ByteArray := prog_8_method_18_code
def yX6_lean : MethodName := ⟨RX6, "lean", "(II)I"⟩
abbrev cX6_leastOf : ByteArray := prog_8_method_19_code
def yX6_leastOf : MethodName := ⟨RX6, "leastOf", "(I)I"⟩
abbrev cX6_mostOf : ByteArray := prog_8_method_20_code
def yX6_mostOf : MethodName := ⟨RX6, "mostOf", "(I)I"⟩
abbrev cX6_set : ByteArray := prog_8_method_21_code
def yX6_set : MethodName := ⟨RX6, "set", "(II)I"⟩
abbrev cX6_backOf : ByteArray := prog_8_method_22_code
def yX6_backOf : MethodName := ⟨RX6, "backOf", "(IZ)I"⟩
abbrev cX6_sheetAt : ByteArray := prog_8_method_23_code
def yX6_sheetAt : MethodName := ⟨RX6, "sheetAt", "(I)I"⟩
abbrev cX6_top : ByteArray := prog_8_method_24_code
def yX6_top : MethodName := ⟨RX6, "top", "()I"⟩
abbrev cX6_print : ByteArray := prog_8_method_25_code
def yX6_print : MethodName := ⟨RX6, "print", "(Z)I"⟩
abbrev cX6_cellAt : ByteArray := prog_8_method_26_code
def yX6_cellAt : MethodName := ⟨RX6, "cellAt", "(II)I"⟩
abbrev cX6_cutSheet : ByteArray := prog_8_method_27_code
def yX6_cutSheet : MethodName := ⟨RX6, "cutSheet", "(I)I"⟩
abbrev cX6_canPart : ByteArray := prog_8_method_28_code
def yX6_canPart : MethodName := ⟨RX6, "canPart", "(I)Z"⟩
abbrev cX6_takeOrder : ByteArray := prog_8_method_29_code
def yX6_takeOrder : MethodName := ⟨RX6, "takeOrder", "()V"⟩
abbrev cX6_cutPack : ByteArray := prog_8_method_30_code
def yX6_cutPack : MethodName := ⟨RX6, "cutPack", "(I)I"⟩
abbrev cX6_cameFrom : ByteArray := prog_8_method_31_code
def yX6_cameFrom : MethodName := ⟨RX6, "cameFrom", "(II)I"⟩
abbrev cX6_shuffle : ByteArray := prog_8_method_32_code
def yX6_shuffle : MethodName := ⟨RX6, "shuffle", "(I)I"⟩
abbrev cX6_deal : ByteArray := prog_8_method_33_code
def yX6_deal : MethodName := ⟨RX6, "deal", "(I)I"⟩
abbrev cX6_alike : ByteArray := prog_8_method_34_code
def yX6_alike : MethodName := ⟨RX6, "alike", "(I)I"⟩
abbrev cX6_marksAt : ByteArray := prog_8_method_35_code
def yX6_marksAt : MethodName := ⟨RX6, "marksAt", "(I)I"⟩
abbrev cX6_guess : ByteArray := prog_8_method_36_code
def yX6_guess : MethodName := ⟨RX6, "guess", "(I)I"⟩
abbrev cX6_known : ByteArray := prog_8_method_37_code
def yX6_known : MethodName := ⟨RX6, "known", "()I"⟩
abbrev cX6_rightOnes : ByteArray := prog_8_method_38_code
def yX6_rightOnes : MethodName := ⟨RX6, "rightOnes", "()I"⟩
abbrev cX6_great : ByteArray := prog_8_method_39_code
def yX6_great : MethodName := ⟨RX6, "great", "(I)I"⟩
abbrev cX6_leaning : ByteArray := prog_8_method_40_code
def yX6_leaning : MethodName := ⟨RX6, "leaning", "(I)I"⟩
abbrev cX6_reason : ByteArray := prog_8_method_41_code
def yX6_reason : MethodName := ⟨RX6, "reason", "()I"⟩
abbrev cX6_dropPack : ByteArray := prog_8_method_42_code
def yX6_dropPack : MethodName := ⟨RX6, "dropPack", "()V"⟩
abbrev cX6_sell : ByteArray := prog_8_method_43_code
def yX6_sell : MethodName := ⟨RX6, "sell", "()I"⟩
abbrev cX6_pulp : ByteArray := prog_8_method_44_code
def yX6_pulp : MethodName := ⟨RX6, "pulp", "()I"⟩
abbrev cX6_type : ByteArray := prog_8_method_45_code
def yX6_type : MethodName := ⟨RX6, "type", "(C)I"⟩
abbrev cX6_clearText : ByteArray := prog_8_method_46_code
def yX6_clearText : MethodName := ⟨RX6, "clearText", "()I"⟩
abbrev cX6_code : ByteArray := prog_8_method_47_code
def yX6_code : MethodName := ⟨RX6, "code", "()I"⟩
abbrev cX6_takes : ByteArray := prog_8_method_48_code
def yX6_takes : MethodName := ⟨RX6, "takes", "(I)Z"⟩
abbrev cX6_readNumber : ByteArray := prog_8_method_49_code
def yX6_readNumber : MethodName := ⟨RX6, "readNumber", "(I)I"⟩
abbrev cX6_readsLean : ByteArray := prog_8_method_50_code
def yX6_readsLean : MethodName := ⟨RX6, "readsLean", "()Z"⟩
abbrev cX6_readsChange : ByteArray := prog_8_method_51_code
def yX6_readsChange : MethodName := ⟨RX6, "readsChange", "()Z"⟩
abbrev cX6_findFault : ByteArray := prog_8_method_52_code
def yX6_findFault : MethodName := ⟨RX6, "findFault", "()I"⟩
abbrev cX6_fault : ByteArray := prog_8_method_53_code
def yX6_fault : MethodName := ⟨RX6, "fault", "()I"⟩
abbrev cX6_doesChange : ByteArray := prog_8_method_54_code
def yX6_doesChange : MethodName := ⟨RX6, "doesChange", "()Z"⟩
abbrev cX6_changeAll : ByteArray := prog_8_method_55_code
def yX6_changeAll : MethodName := ⟨RX6, "changeAll", "()I"⟩
abbrev cX6_block : ByteArray := prog_8_method_56_code
def yX6_block : MethodName := ⟨RX6, "block", "(II)I"⟩
abbrev cX6_cellOf : ByteArray := prog_8_method_57_code
def yX6_cellOf : MethodName := ⟨RX6, "cellOf", "(I)I"⟩
abbrev cX6_placeOf : ByteArray := prog_8_method_58_code
def yX6_placeOf : MethodName := ⟨RX6, "placeOf", "(I)I"⟩
abbrev cX6_cardOf : ByteArray := prog_8_method_59_code
def yX6_cardOf : MethodName := ⟨RX6, "cardOf", "(II)I"⟩
abbrev cX6_sheet : ByteArray := prog_8_method_60_code
def yX6_sheet : MethodName := ⟨RX6, "sheet", "(III)I"⟩
abbrev cX6_pack : ByteArray := prog_8_method_61_code
def yX6_pack : MethodName := ⟨RX6, "pack", "(II)I"⟩
abbrev cX6_marksOfBacks : ByteArray := prog_8_method_62_code
def yX6_marksOfBacks : MethodName := ⟨RX6, "marksOfBacks", "()I"⟩
abbrev cX6_count : ByteArray := prog_8_method_63_code
def yX6_count : MethodName := ⟨RX6, "count", "(I)I"⟩
abbrev cX6_why : ByteArray := prog_8_method_64_code
def yX6_why : MethodName := ⟨RX6, "why", "()I"⟩
abbrev cX6_chances : ByteArray := prog_8_method_65_code
def yX6_chances : MethodName := ⟨RX6, "chances", "()F"⟩
abbrev cX6_single : ByteArray := prog_8_method_66_code
def yX6_single : MethodName := ⟨RX6, "single", "()I"⟩
abbrev cX6_see : ByteArray := prog_8_method_67_code
def yX6_see : MethodName := ⟨RX6, "see", "(Z)V"⟩
abbrev cX6_ifPrinted : ByteArray := prog_8_method_68_code
def yX6_ifPrinted : MethodName := ⟨RX6, "ifPrinted", "(Z)I"⟩
abbrev cX6_worstFlaw : ByteArray := prog_8_method_69_code
def yX6_worstFlaw : MethodName := ⟨RX6, "worstFlaw", "(I)I"⟩
abbrev cX6_atHome : ByteArray := prog_8_method_70_code
def yX6_atHome : MethodName := ⟨RX6, "atHome", "(I)I"⟩
abbrev cX6_bestWay : ByteArray := prog_8_method_71_code
def yX6_bestWay : MethodName := ⟨RX6, "bestWay", "()I"⟩
abbrev cX6_comesBack : ByteArray := prog_8_method_72_code
def yX6_comesBack : MethodName := ⟨RX6, "comesBack", "(I)Z"⟩
abbrev cX6_backIn : ByteArray := prog_8_method_73_code
def yX6_backIn : MethodName := ⟨RX6, "backIn", "(I)I"⟩
def RJ6 : String := "java/lang/Integer"
def TJ6 : u_T := fun k => match k with
  | _ => ("", "", "", false)
def tyJ6 : Nat → FieldType := fun k => match k with
  | _ => .int
theorem nmJ6 : ∀ a, a < 0 → ∀ b, b < 0 → a ≠ b → (TJ6 a).2.1 ≠ (TJ6 b).2.1 := by decide +kernel
theorem tyJ6_ok : ∀ k, k < 0 → parseFieldDescriptor (TJ6 k).2.2.1 = some (tyJ6 k) := by decide +kernel
abbrev cJ6_bitCount_0f7a4 : ByteArray := prog_9_method_49_code
def yJ6_bitCount_0f7a4 : MethodName := ⟨RJ6, "bitCount", "(I)I"⟩
def RJ9 : String := "java/lang/Math"
def TJ9 : u_T := fun k => match k with
  | _ => ("", "", "", false)
def tyJ9 : Nat → FieldType := fun k => match k with
  | _ => .int
theorem nmJ9 : ∀ a, a < 0 → ∀ b, b < 0 → a ≠ b → (TJ9 a).2.1 ≠ (TJ9 b).2.1 := by decide +kernel
theorem tyJ9_ok : ∀ k, k < 0 → parseFieldDescriptor (TJ9 k).2.2.1 = some (tyJ9 k) := by decide +kernel
abbrev cJ9_abs_0f7a4 : ByteArray := prog_10_method_59_code
def yJ9_abs_0f7a4 : MethodName := ⟨RJ9, "abs", "(I)I"⟩
abbrev cJ9_min_7cf53 : ByteArray := prog_10_method_69_code
def yJ9_min_7cf53 : MethodName := ⟨RJ9, "min", "(II)I"⟩
def RJ10 : String := "java/lang/System"
def TJ10 : u_T := fun k => match k with
  | _ => ("", "", "", false)
def tyJ10 : Nat → FieldType := fun k => match k with
  | _ => .int
theorem nmJ10 : ∀ a, a < 0 → ∀ b, b < 0 → a ≠ b → (TJ10 a).2.1 ≠ (TJ10 b).2.1 := by decide +kernel
theorem tyJ10_ok : ∀ k, k < 0 → parseFieldDescriptor (TJ10 k).2.2.1 = some (tyJ10 k) := by decide +kernel
def RL : String := "CardSheetsLaw"
abbrev cL_law : ByteArray := code
def yL_law : MethodName := ⟨RL, "law", "([I)Z"⟩
theorem dX0_init_0 : decode cX0_init 0 = .ok (.aload_n 0, 1) := by decide +kernel
theorem dX0_init_1 : decode cX0_init 1 = .ok (.invokespecial 3, 3) := by decide +kernel
theorem dX0_init_4 : decode cX0_init 4 = .ok (.aload_n 0, 1) := by decide +kernel
theorem dX0_init_5 : decode cX0_init 5 = .ok (.iconst 4, 1) := by decide +kernel
theorem dX0_init_6 : decode cX0_init 6 = .ok (.anewarray 9, 3) := by decide +kernel
theorem dX0_init_9 : decode cX0_init 9 = .ok (.putfield 11, 3) := by decide +kernel
theorem dX0_init_12 : decode cX0_init 12 = .ok (.aload_n 0, 1) := by decide +kernel
theorem dX0_init_13 : decode cX0_init 13 = .ok (.iconst 0, 1) := by decide +kernel
theorem dX0_init_14 : decode cX0_init 14 = .ok (.putfield 17, 3) := by decide +kernel
theorem dX0_init_17 : decode cX0_init 17 = .ok (.aload_n 0, 1) := by decide +kernel
theorem dX0_init_18 : decode cX0_init 18 = .ok (.iconst 0, 1) := by decide +kernel
theorem dX0_init_19 : decode cX0_init 19 = .ok (.putfield 21, 3) := by decide +kernel
theorem dX0_init_22 : decode cX0_init 22 = .ok (.iconst 0, 1) := by decide +kernel
theorem dX0_init_23 : decode cX0_init 23 = .ok (.istore_n 1, 1) := by decide +kernel
theorem dX0_init_24 : decode cX0_init 24 = .ok (.iload_n 1, 1) := by decide +kernel
theorem dX0_init_25 : decode cX0_init 25 = .ok (.iconst 4, 1) := by decide +kernel
theorem dX0_init_26 : decode cX0_init 26 = .ok (.if_icmp .ge 22, 3) := by decide +kernel
theorem dX0_init_29 : decode cX0_init 29 = .ok (.aload_n 0, 1) := by decide +kernel
theorem dX0_init_30 : decode cX0_init 30 = .ok (.getfield 11, 3) := by decide +kernel
theorem dX0_init_33 : decode cX0_init 33 = .ok (.iload_n 1, 1) := by decide +kernel
theorem dX0_init_34 : decode cX0_init 34 = .ok (.new 9, 3) := by decide +kernel
theorem dX0_init_37 : decode cX0_init 37 = .ok (.dup, 1) := by decide +kernel
theorem dX0_init_38 : decode cX0_init 38 = .ok (.invokespecial 24, 3) := by decide +kernel
theorem dX0_init_41 : decode cX0_init 41 = .ok (.aastore, 1) := by decide +kernel
theorem dX0_init_42 : decode cX0_init 42 = .ok (.iinc 1 1, 3) := by decide +kernel
theorem dX0_init_45 : decode cX0_init 45 = .ok (.goto (-21), 3) := by decide +kernel
theorem dX0_init_48 : decode cX0_init 48 = .ok (.return_, 1) := by decide +kernel
theorem dX0_record_0 : decode cX0_record 0 = .ok (.aload_n 0, 1) := by decide +kernel
theorem dX0_record_1 : decode cX0_record 1 = .ok (.aload_n 0, 1) := by decide +kernel
theorem dX0_record_2 : decode cX0_record 2 = .ok (.getfield 17, 3) := by decide +kernel
theorem dX0_record_5 : decode cX0_record 5 = .ok (.aload_n 1, 1) := by decide +kernel
theorem dX0_record_6 : decode cX0_record 6 = .ok (.invokevirtual 25, 3) := by decide +kernel
theorem dX0_record_9 : decode cX0_record 9 = .ok (.aload_n 0, 1) := by decide +kernel
theorem dX0_record_10 : decode cX0_record 10 = .ok (.aload_n 0, 1) := by decide +kernel
theorem dX0_record_11 : decode cX0_record 11 = .ok (.getfield 17, 3) := by decide +kernel
theorem dX0_record_14 : decode cX0_record 14 = .ok (.iconst 1, 1) := by decide +kernel
theorem dX0_record_15 : decode cX0_record 15 = .ok (.iadd, 1) := by decide +kernel
theorem dX0_record_16 : decode cX0_record 16 = .ok (.iconst 4, 1) := by decide +kernel
theorem dX0_record_17 : decode cX0_record 17 = .ok (.irem, 1) := by decide +kernel
theorem dX0_record_18 : decode cX0_record 18 = .ok (.putfield 17, 3) := by decide +kernel
theorem dX0_record_21 : decode cX0_record 21 = .ok (.aload_n 0, 1) := by decide +kernel
theorem dX0_record_22 : decode cX0_record 22 = .ok (.aload_n 0, 1) := by decide +kernel
theorem dX0_record_23 : decode cX0_record 23 = .ok (.getfield 21, 3) := by decide +kernel
theorem dX0_record_26 : decode cX0_record 26 = .ok (.iconst 1, 1) := by decide +kernel
theorem dX0_record_27 : decode cX0_record 27 = .ok (.iadd, 1) := by decide +kernel
theorem dX0_record_28 : decode cX0_record 28 = .ok (.iconst 4, 1) := by decide +kernel
theorem dX0_record_29 : decode cX0_record 29 = .ok (.invokestatic 29, 3) := by decide +kernel
theorem dX0_record_32 : decode cX0_record 32 = .ok (.putfield 21, 3) := by decide +kernel
theorem dX0_record_35 : decode cX0_record 35 = .ok (.return_, 1) := by decide +kernel
theorem dX0_takeLatestInto_0 : decode cX0_takeLatestInto 0 = .ok (.aload_n 0, 1) := by decide +kernel
theorem dX0_takeLatestInto_1 : decode cX0_takeLatestInto 1 = .ok (.getfield 21, 3) := by decide +kernel
theorem dX0_takeLatestInto_4 : decode cX0_takeLatestInto 4 = .ok (.ifCond .ne 4, 3) := by decide +kernel
theorem dX0_takeLatestInto_7 : decode cX0_takeLatestInto 7 = .ok (.return_, 1) := by decide +kernel
theorem dX0_takeLatestInto_8 : decode cX0_takeLatestInto 8 = .ok (.aload_n 0, 1) := by decide +kernel
theorem dX0_takeLatestInto_9 : decode cX0_takeLatestInto 9 = .ok (.aload_n 0, 1) := by decide +kernel
theorem dX0_takeLatestInto_10 : decode cX0_takeLatestInto 10 = .ok (.getfield 17, 3) := by decide +kernel
theorem dX0_takeLatestInto_13 : decode cX0_takeLatestInto 13 = .ok (.iconst 4, 1) := by decide +kernel
theorem dX0_takeLatestInto_14 : decode cX0_takeLatestInto 14 = .ok (.iadd, 1) := by decide +kernel
theorem dX0_takeLatestInto_15 : decode cX0_takeLatestInto 15 = .ok (.iconst 1, 1) := by decide +kernel
theorem dX0_takeLatestInto_16 : decode cX0_takeLatestInto 16 = .ok (.isub, 1) := by decide +kernel
theorem dX0_takeLatestInto_17 : decode cX0_takeLatestInto 17 = .ok (.iconst 4, 1) := by decide +kernel
theorem dX0_takeLatestInto_18 : decode cX0_takeLatestInto 18 = .ok (.irem, 1) := by decide +kernel
theorem dX0_takeLatestInto_19 : decode cX0_takeLatestInto 19 = .ok (.putfield 17, 3) := by decide +kernel
theorem dX0_takeLatestInto_22 : decode cX0_takeLatestInto 22 = .ok (.aload_n 0, 1) := by decide +kernel
theorem dX0_takeLatestInto_23 : decode cX0_takeLatestInto 23 = .ok (.dup, 1) := by decide +kernel
theorem dX0_takeLatestInto_24 : decode cX0_takeLatestInto 24 = .ok (.getfield 21, 3) := by decide +kernel
theorem dX0_takeLatestInto_27 : decode cX0_takeLatestInto 27 = .ok (.iconst 1, 1) := by decide +kernel
theorem dX0_takeLatestInto_28 : decode cX0_takeLatestInto 28 = .ok (.isub, 1) := by decide +kernel
theorem dX0_takeLatestInto_29 : decode cX0_takeLatestInto 29 = .ok (.putfield 21, 3) := by decide +kernel
theorem dX0_takeLatestInto_32 : decode cX0_takeLatestInto 32 = .ok (.aload_n 0, 1) := by decide +kernel
theorem dX0_takeLatestInto_33 : decode cX0_takeLatestInto 33 = .ok (.getfield 17, 3) := by decide +kernel
theorem dX0_takeLatestInto_36 : decode cX0_takeLatestInto 36 = .ok (.ifCond .lt 24, 3) := by decide +kernel
theorem dX0_takeLatestInto_39 : decode cX0_takeLatestInto 39 = .ok (.aload_n 0, 1) := by decide +kernel
theorem dX0_takeLatestInto_40 : decode cX0_takeLatestInto 40 = .ok (.getfield 17, 3) := by decide +kernel
theorem dX0_takeLatestInto_43 : decode cX0_takeLatestInto 43 = .ok (.iconst 4, 1) := by decide +kernel
theorem dX0_takeLatestInto_44 : decode cX0_takeLatestInto 44 = .ok (.if_icmp .ge 16, 3) := by decide +kernel
theorem dX0_takeLatestInto_47 : decode cX0_takeLatestInto 47 = .ok (.aload_n 1, 1) := by decide +kernel
theorem dX0_takeLatestInto_48 : decode cX0_takeLatestInto 48 = .ok (.aload_n 0, 1) := by decide +kernel
theorem dX0_takeLatestInto_49 : decode cX0_takeLatestInto 49 = .ok (.getfield 11, 3) := by decide +kernel
theorem dX0_takeLatestInto_52 : decode cX0_takeLatestInto 52 = .ok (.aload_n 0, 1) := by decide +kernel
theorem dX0_takeLatestInto_53 : decode cX0_takeLatestInto 53 = .ok (.getfield 17, 3) := by decide +kernel
theorem dX0_takeLatestInto_56 : decode cX0_takeLatestInto 56 = .ok (.aaload, 1) := by decide +kernel
theorem dX0_takeLatestInto_57 : decode cX0_takeLatestInto 57 = .ok (.invokevirtual 35, 3) := by decide +kernel
theorem dX0_takeLatestInto_60 : decode cX0_takeLatestInto 60 = .ok (.return_, 1) := by decide +kernel
theorem dX0_copyTo_0 : decode cX0_copyTo 0 = .ok (.iload_n 1, 1) := by decide +kernel
theorem dX0_copyTo_1 : decode cX0_copyTo 1 = .ok (.ifCond .lt 8, 3) := by decide +kernel
theorem dX0_copyTo_4 : decode cX0_copyTo 4 = .ok (.iload_n 1, 1) := by decide +kernel
theorem dX0_copyTo_5 : decode cX0_copyTo 5 = .ok (.iconst 4, 1) := by decide +kernel
theorem dX0_copyTo_6 : decode cX0_copyTo 6 = .ok (.if_icmp .lt 4, 3) := by decide +kernel
theorem dX0_copyTo_9 : decode cX0_copyTo 9 = .ok (.return_, 1) := by decide +kernel
theorem dX0_copyTo_10 : decode cX0_copyTo 10 = .ok (.aload_n 0, 1) := by decide +kernel
theorem dX0_copyTo_11 : decode cX0_copyTo 11 = .ok (.getfield 11, 3) := by decide +kernel
theorem dX0_copyTo_14 : decode cX0_copyTo 14 = .ok (.iload_n 1, 1) := by decide +kernel
theorem dX0_copyTo_15 : decode cX0_copyTo 15 = .ok (.aaload, 1) := by decide +kernel
theorem dX0_copyTo_16 : decode cX0_copyTo 16 = .ok (.astore_n 3, 1) := by decide +kernel
theorem dX0_copyTo_17 : decode cX0_copyTo 17 = .ok (.aload_n 3, 1) := by decide +kernel
theorem dX0_copyTo_18 : decode cX0_copyTo 18 = .ok (.ifnull 8, 3) := by decide +kernel
theorem dX0_copyTo_21 : decode cX0_copyTo 21 = .ok (.aload_n 3, 1) := by decide +kernel
theorem dX0_copyTo_22 : decode cX0_copyTo 22 = .ok (.aload_n 2, 1) := by decide +kernel
theorem dX0_copyTo_23 : decode cX0_copyTo 23 = .ok (.invokevirtual 35, 3) := by decide +kernel
theorem dX0_copyTo_26 : decode cX0_copyTo 26 = .ok (.return_, 1) := by decide +kernel
theorem dX1_init_0 : decode cX1_init 0 = .ok (.aload_n 0, 1) := by decide +kernel
theorem dX1_init_1 : decode cX1_init 1 = .ok (.invokespecial 3, 3) := by decide +kernel
theorem dX1_init_4 : decode cX1_init 4 = .ok (.aload_n 0, 1) := by decide +kernel
theorem dX1_init_5 : decode cX1_init 5 = .ok (.bipush 24, 2) := by decide +kernel
theorem dX1_init_7 : decode cX1_init 7 = .ok (.newarray .int, 2) := by decide +kernel
theorem dX1_init_9 : decode cX1_init 9 = .ok (.putfield 9, 3) := by decide +kernel
theorem dX1_init_12 : decode cX1_init 12 = .ok (.aload_n 0, 1) := by decide +kernel
theorem dX1_init_13 : decode cX1_init 13 = .ok (.aconst_null, 1) := by decide +kernel
theorem dX1_init_14 : decode cX1_init 14 = .ok (.putfield 15, 3) := by decide +kernel
theorem dX1_init_17 : decode cX1_init 17 = .ok (.aload_n 0, 1) := by decide +kernel
theorem dX1_init_18 : decode cX1_init 18 = .ok (.iconst 0, 1) := by decide +kernel
theorem dX1_init_19 : decode cX1_init 19 = .ok (.putfield 19, 3) := by decide +kernel
theorem dX1_init_22 : decode cX1_init 22 = .ok (.return_, 1) := by decide +kernel
theorem dX1_copyFrom_0 : decode cX1_copyFrom 0 = .ok (.aload_n 1, 1) := by decide +kernel
theorem dX1_copyFrom_1 : decode cX1_copyFrom 1 = .ok (.getfield 9, 3) := by decide +kernel
theorem dX1_copyFrom_4 : decode cX1_copyFrom 4 = .ok (.aload_n 0, 1) := by decide +kernel
theorem dX1_copyFrom_5 : decode cX1_copyFrom 5 = .ok (.getfield 9, 3) := by decide +kernel
theorem dX1_copyFrom_8 : decode cX1_copyFrom 8 = .ok (.invokestatic 23, 3) := by decide +kernel
theorem dX1_copyFrom_11 : decode cX1_copyFrom 11 = .ok (.aload_n 0, 1) := by decide +kernel
theorem dX1_copyFrom_12 : decode cX1_copyFrom 12 = .ok (.aload_n 1, 1) := by decide +kernel
theorem dX1_copyFrom_13 : decode cX1_copyFrom 13 = .ok (.getfield 15, 3) := by decide +kernel
theorem dX1_copyFrom_16 : decode cX1_copyFrom 16 = .ok (.putfield 15, 3) := by decide +kernel
theorem dX1_copyFrom_19 : decode cX1_copyFrom 19 = .ok (.aload_n 0, 1) := by decide +kernel
theorem dX1_copyFrom_20 : decode cX1_copyFrom 20 = .ok (.aload_n 1, 1) := by decide +kernel
theorem dX1_copyFrom_21 : decode cX1_copyFrom 21 = .ok (.getfield 19, 3) := by decide +kernel
theorem dX1_copyFrom_24 : decode cX1_copyFrom 24 = .ok (.putfield 19, 3) := by decide +kernel
theorem dX1_copyFrom_27 : decode cX1_copyFrom 27 = .ok (.return_, 1) := by decide +kernel
theorem dX1_layDown_0 : decode cX1_layDown 0 = .ok (.aload_n 1, 1) := by decide +kernel
theorem dX1_layDown_1 : decode cX1_layDown 1 = .ok (.ifnonnull 4, 3) := by decide +kernel
theorem dX1_layDown_4 : decode cX1_layDown 4 = .ok (.return_, 1) := by decide +kernel
theorem dX1_layDown_5 : decode cX1_layDown 5 = .ok (.aload_n 0, 1) := by decide +kernel
theorem dX1_layDown_6 : decode cX1_layDown 6 = .ok (.aload_n 1, 1) := by decide +kernel
theorem dX1_layDown_7 : decode cX1_layDown 7 = .ok (.putfield 15, 3) := by decide +kernel
theorem dX1_layDown_10 : decode cX1_layDown 10 = .ok (.aload_n 0, 1) := by decide +kernel
theorem dX1_layDown_11 : decode cX1_layDown 11 = .ok (.iconst 0, 1) := by decide +kernel
theorem dX1_layDown_12 : decode cX1_layDown 12 = .ok (.putfield 19, 3) := by decide +kernel
theorem dX1_layDown_15 : decode cX1_layDown 15 = .ok (.iconst 0, 1) := by decide +kernel
theorem dX1_layDown_16 : decode cX1_layDown 16 = .ok (.istore_n 3, 1) := by decide +kernel
theorem dX1_layDown_17 : decode cX1_layDown 17 = .ok (.iload_n 3, 1) := by decide +kernel
theorem dX1_layDown_18 : decode cX1_layDown 18 = .ok (.bipush 24, 2) := by decide +kernel
theorem dX1_layDown_20 : decode cX1_layDown 20 = .ok (.if_icmp .ge 21, 3) := by decide +kernel
theorem dX1_layDown_23 : decode cX1_layDown 23 = .ok (.aload_n 0, 1) := by decide +kernel
theorem dX1_layDown_24 : decode cX1_layDown 24 = .ok (.getfield 9, 3) := by decide +kernel
theorem dX1_layDown_27 : decode cX1_layDown 27 = .ok (.iload_n 3, 1) := by decide +kernel
theorem dX1_layDown_28 : decode cX1_layDown 28 = .ok (.aload_n 1, 1) := by decide +kernel
theorem dX1_layDown_29 : decode cX1_layDown 29 = .ok (.iload_n 2, 1) := by decide +kernel
theorem dX1_layDown_30 : decode cX1_layDown 30 = .ok (.iload_n 3, 1) := by decide +kernel
theorem dX1_layDown_31 : decode cX1_layDown 31 = .ok (.invokevirtual 27, 3) := by decide +kernel
theorem dX1_layDown_34 : decode cX1_layDown 34 = .ok (.iastore, 1) := by decide +kernel
theorem dX1_layDown_35 : decode cX1_layDown 35 = .ok (.iinc 3 1, 3) := by decide +kernel
theorem dX1_layDown_38 : decode cX1_layDown 38 = .ok (.goto (-21), 3) := by decide +kernel
theorem dX1_layDown_41 : decode cX1_layDown 41 = .ok (.return_, 1) := by decide +kernel
theorem dX1_takeAway_0 : decode cX1_takeAway 0 = .ok (.aload_n 0, 1) := by decide +kernel
theorem dX1_takeAway_1 : decode cX1_takeAway 1 = .ok (.aconst_null, 1) := by decide +kernel
theorem dX1_takeAway_2 : decode cX1_takeAway 2 = .ok (.putfield 15, 3) := by decide +kernel
theorem dX1_takeAway_5 : decode cX1_takeAway 5 = .ok (.aload_n 0, 1) := by decide +kernel
theorem dX1_takeAway_6 : decode cX1_takeAway 6 = .ok (.iconst 0, 1) := by decide +kernel
theorem dX1_takeAway_7 : decode cX1_takeAway 7 = .ok (.putfield 19, 3) := by decide +kernel
theorem dX1_takeAway_10 : decode cX1_takeAway 10 = .ok (.return_, 1) := by decide +kernel
theorem dX1_isThere_0 : decode cX1_isThere 0 = .ok (.aload_n 0, 1) := by decide +kernel
theorem dX1_isThere_1 : decode cX1_isThere 1 = .ok (.getfield 15, 3) := by decide +kernel
theorem dX1_isThere_4 : decode cX1_isThere 4 = .ok (.ifnull 7, 3) := by decide +kernel
theorem dX1_isThere_7 : decode cX1_isThere 7 = .ok (.iconst 1, 1) := by decide +kernel
theorem dX1_isThere_8 : decode cX1_isThere 8 = .ok (.goto 4, 3) := by decide +kernel
theorem dX1_isThere_11 : decode cX1_isThere 11 = .ok (.iconst 0, 1) := by decide +kernel
theorem dX1_isThere_12 : decode cX1_isThere 12 = .ok (.ireturn, 1) := by decide +kernel
theorem dX1_left_0 : decode cX1_left 0 = .ok (.aload_n 0, 1) := by decide +kernel
theorem dX1_left_1 : decode cX1_left 1 = .ok (.getfield 15, 3) := by decide +kernel
theorem dX1_left_4 : decode cX1_left 4 = .ok (.ifnonnull 7, 3) := by decide +kernel
theorem dX1_left_7 : decode cX1_left 7 = .ok (.iconst 0, 1) := by decide +kernel
theorem dX1_left_8 : decode cX1_left 8 = .ok (.goto 10, 3) := by decide +kernel
theorem dX1_left_11 : decode cX1_left 11 = .ok (.bipush 24, 2) := by decide +kernel
theorem dX1_left_13 : decode cX1_left 13 = .ok (.aload_n 0, 1) := by decide +kernel
theorem dX1_left_14 : decode cX1_left 14 = .ok (.getfield 19, 3) := by decide +kernel
theorem dX1_left_17 : decode cX1_left 17 = .ok (.isub, 1) := by decide +kernel
theorem dX1_left_18 : decode cX1_left 18 = .ok (.ireturn, 1) := by decide +kernel
theorem dX1_hasPartsAt_0 : decode cX1_hasPartsAt 0 = .ok (.iload_n 1, 1) := by decide +kernel
theorem dX1_hasPartsAt_1 : decode cX1_hasPartsAt 1 = .ok (.iconst 1, 1) := by decide +kernel
theorem dX1_hasPartsAt_2 : decode cX1_hasPartsAt 2 = .ok (.if_icmp .lt 15, 3) := by decide +kernel
theorem dX1_hasPartsAt_5 : decode cX1_hasPartsAt 5 = .ok (.iload_n 1, 1) := by decide +kernel
theorem dX1_hasPartsAt_6 : decode cX1_hasPartsAt 6 = .ok (.aload_n 0, 1) := by decide +kernel
theorem dX1_hasPartsAt_7 : decode cX1_hasPartsAt 7 = .ok (.invokevirtual 33, 3) := by decide +kernel
theorem dX1_hasPartsAt_10 : decode cX1_hasPartsAt 10 = .ok (.if_icmp .ge 7, 3) := by decide +kernel
theorem dX1_hasPartsAt_13 : decode cX1_hasPartsAt 13 = .ok (.iconst 1, 1) := by decide +kernel
theorem dX1_hasPartsAt_14 : decode cX1_hasPartsAt 14 = .ok (.goto 4, 3) := by decide +kernel
theorem dX1_hasPartsAt_17 : decode cX1_hasPartsAt 17 = .ok (.iconst 0, 1) := by decide +kernel
theorem dX1_hasPartsAt_18 : decode cX1_hasPartsAt 18 = .ok (.ireturn, 1) := by decide +kernel
theorem dX1_cardAt_0 : decode cX1_cardAt 0 = .ok (.aload_n 0, 1) := by decide +kernel
theorem dX1_cardAt_1 : decode cX1_cardAt 1 = .ok (.getfield 9, 3) := by decide +kernel
theorem dX1_cardAt_4 : decode cX1_cardAt 4 = .ok (.aload_n 0, 1) := by decide +kernel
theorem dX1_cardAt_5 : decode cX1_cardAt 5 = .ok (.getfield 19, 3) := by decide +kernel
theorem dX1_cardAt_8 : decode cX1_cardAt 8 = .ok (.iload_n 1, 1) := by decide +kernel
theorem dX1_cardAt_9 : decode cX1_cardAt 9 = .ok (.iadd, 1) := by decide +kernel
theorem dX1_cardAt_10 : decode cX1_cardAt 10 = .ok (.invokestatic 37, 3) := by decide +kernel
theorem dX1_cardAt_13 : decode cX1_cardAt 13 = .ok (.ireturn, 1) := by decide +kernel
theorem dX1_placeOf_0 : decode cX1_placeOf 0 = .ok (.aload_n 0, 1) := by decide +kernel
theorem dX1_placeOf_1 : decode cX1_placeOf 1 = .ok (.invokevirtual 33, 3) := by decide +kernel
theorem dX1_placeOf_4 : decode cX1_placeOf 4 = .ok (.istore_n 2, 1) := by decide +kernel
theorem dX1_placeOf_5 : decode cX1_placeOf 5 = .ok (.iconst 0, 1) := by decide +kernel
theorem dX1_placeOf_6 : decode cX1_placeOf 6 = .ok (.istore_n 3, 1) := by decide +kernel
theorem dX1_placeOf_7 : decode cX1_placeOf 7 = .ok (.iload_n 3, 1) := by decide +kernel
theorem dX1_placeOf_8 : decode cX1_placeOf 8 = .ok (.iload_n 2, 1) := by decide +kernel
theorem dX1_placeOf_9 : decode cX1_placeOf 9 = .ok (.if_icmp .ge 20, 3) := by decide +kernel
theorem dX1_placeOf_12 : decode cX1_placeOf 12 = .ok (.aload_n 0, 1) := by decide +kernel
theorem dX1_placeOf_13 : decode cX1_placeOf 13 = .ok (.iload_n 3, 1) := by decide +kernel
theorem dX1_placeOf_14 : decode cX1_placeOf 14 = .ok (.invokevirtual 41, 3) := by decide +kernel
theorem dX1_placeOf_17 : decode cX1_placeOf 17 = .ok (.iload_n 1, 1) := by decide +kernel
theorem dX1_placeOf_18 : decode cX1_placeOf 18 = .ok (.if_icmp .ne 5, 3) := by decide +kernel
theorem dX1_placeOf_21 : decode cX1_placeOf 21 = .ok (.iload_n 3, 1) := by decide +kernel
theorem dX1_placeOf_22 : decode cX1_placeOf 22 = .ok (.ireturn, 1) := by decide +kernel
theorem dX1_placeOf_23 : decode cX1_placeOf 23 = .ok (.iinc 3 1, 3) := by decide +kernel
theorem dX1_placeOf_26 : decode cX1_placeOf 26 = .ok (.goto (-19), 3) := by decide +kernel
theorem dX1_placeOf_29 : decode cX1_placeOf 29 = .ok (.bipush (-5), 2) := by decide +kernel
theorem dX1_placeOf_31 : decode cX1_placeOf 31 = .ok (.ireturn, 1) := by decide +kernel
theorem dX1_cutAt_0 : decode cX1_cutAt 0 = .ok (.aload_n 0, 1) := by decide +kernel
theorem dX1_cutAt_1 : decode cX1_cutAt 1 = .ok (.getfield 9, 3) := by decide +kernel
theorem dX1_cutAt_4 : decode cX1_cutAt 4 = .ok (.aload_n 2, 1) := by decide +kernel
theorem dX1_cutAt_5 : decode cX1_cutAt 5 = .ok (.invokestatic 23, 3) := by decide +kernel
theorem dX1_cutAt_8 : decode cX1_cutAt 8 = .ok (.aload_n 0, 1) := by decide +kernel
theorem dX1_cutAt_9 : decode cX1_cutAt 9 = .ok (.invokevirtual 33, 3) := by decide +kernel
theorem dX1_cutAt_12 : decode cX1_cutAt 12 = .ok (.istore_n 3, 1) := by decide +kernel
theorem dX1_cutAt_13 : decode cX1_cutAt 13 = .ok (.iconst 0, 1) := by decide +kernel
theorem dX1_cutAt_14 : decode cX1_cutAt 14 = .ok (.istore 4, 2) := by decide +kernel
theorem dX1_cutAt_16 : decode cX1_cutAt 16 = .ok (.iload 4, 2) := by decide +kernel
theorem dX1_cutAt_18 : decode cX1_cutAt 18 = .ok (.iload_n 3, 1) := by decide +kernel
theorem dX1_cutAt_19 : decode cX1_cutAt 19 = .ok (.if_icmp .ge 57, 3) := by decide +kernel
theorem dX1_cutAt_22 : decode cX1_cutAt 22 = .ok (.iload 4, 2) := by decide +kernel
theorem dX1_cutAt_24 : decode cX1_cutAt 24 = .ok (.iload_n 1, 1) := by decide +kernel
theorem dX1_cutAt_25 : decode cX1_cutAt 25 = .ok (.iadd, 1) := by decide +kernel
theorem dX1_cutAt_26 : decode cX1_cutAt 26 = .ok (.iload_n 3, 1) := by decide +kernel
theorem dX1_cutAt_27 : decode cX1_cutAt 27 = .ok (.if_icmp .ge 10, 3) := by decide +kernel
theorem dX1_cutAt_30 : decode cX1_cutAt 30 = .ok (.iload 4, 2) := by decide +kernel
theorem dX1_cutAt_32 : decode cX1_cutAt 32 = .ok (.iload_n 1, 1) := by decide +kernel
theorem dX1_cutAt_33 : decode cX1_cutAt 33 = .ok (.iadd, 1) := by decide +kernel
theorem dX1_cutAt_34 : decode cX1_cutAt 34 = .ok (.goto 9, 3) := by decide +kernel
theorem dX1_cutAt_37 : decode cX1_cutAt 37 = .ok (.iload 4, 2) := by decide +kernel
theorem dX1_cutAt_39 : decode cX1_cutAt 39 = .ok (.iload_n 1, 1) := by decide +kernel
theorem dX1_cutAt_40 : decode cX1_cutAt 40 = .ok (.iadd, 1) := by decide +kernel
theorem dX1_cutAt_41 : decode cX1_cutAt 41 = .ok (.iload_n 3, 1) := by decide +kernel
theorem dX1_cutAt_42 : decode cX1_cutAt 42 = .ok (.isub, 1) := by decide +kernel
theorem dX1_cutAt_43 : decode cX1_cutAt 43 = .ok (.istore 5, 2) := by decide +kernel
theorem dX1_cutAt_45 : decode cX1_cutAt 45 = .ok (.aload_n 0, 1) := by decide +kernel
theorem dX1_cutAt_46 : decode cX1_cutAt 46 = .ok (.getfield 9, 3) := by decide +kernel
theorem dX1_cutAt_49 : decode cX1_cutAt 49 = .ok (.aload_n 0, 1) := by decide +kernel
theorem dX1_cutAt_50 : decode cX1_cutAt 50 = .ok (.getfield 19, 3) := by decide +kernel
theorem dX1_cutAt_53 : decode cX1_cutAt 53 = .ok (.iload 4, 2) := by decide +kernel
theorem dX1_cutAt_55 : decode cX1_cutAt 55 = .ok (.iadd, 1) := by decide +kernel
theorem dX1_cutAt_56 : decode cX1_cutAt 56 = .ok (.aload_n 2, 1) := by decide +kernel
theorem dX1_cutAt_57 : decode cX1_cutAt 57 = .ok (.aload_n 0, 1) := by decide +kernel
theorem dX1_cutAt_58 : decode cX1_cutAt 58 = .ok (.getfield 19, 3) := by decide +kernel
theorem dX1_cutAt_61 : decode cX1_cutAt 61 = .ok (.iload 5, 2) := by decide +kernel
theorem dX1_cutAt_63 : decode cX1_cutAt 63 = .ok (.iadd, 1) := by decide +kernel
theorem dX1_cutAt_64 : decode cX1_cutAt 64 = .ok (.invokestatic 37, 3) := by decide +kernel
theorem dX1_cutAt_67 : decode cX1_cutAt 67 = .ok (.invokestatic 45, 3) := by decide +kernel
theorem dX1_cutAt_70 : decode cX1_cutAt 70 = .ok (.iinc 4 1, 3) := by decide +kernel
theorem dX1_cutAt_73 : decode cX1_cutAt 73 = .ok (.goto (-57), 3) := by decide +kernel
theorem dX1_cutAt_76 : decode cX1_cutAt 76 = .ok (.return_, 1) := by decide +kernel
theorem dX1_shuffleAt_0 : decode cX1_shuffleAt 0 = .ok (.aload_n 0, 1) := by decide +kernel
theorem dX1_shuffleAt_1 : decode cX1_shuffleAt 1 = .ok (.getfield 9, 3) := by decide +kernel
theorem dX1_shuffleAt_4 : decode cX1_shuffleAt 4 = .ok (.aload_n 2, 1) := by decide +kernel
theorem dX1_shuffleAt_5 : decode cX1_shuffleAt 5 = .ok (.invokestatic 23, 3) := by decide +kernel
theorem dX1_shuffleAt_8 : decode cX1_shuffleAt 8 = .ok (.aload_n 0, 1) := by decide +kernel
theorem dX1_shuffleAt_9 : decode cX1_shuffleAt 9 = .ok (.invokevirtual 33, 3) := by decide +kernel
theorem dX1_shuffleAt_12 : decode cX1_shuffleAt 12 = .ok (.istore_n 3, 1) := by decide +kernel
theorem dX1_shuffleAt_13 : decode cX1_shuffleAt 13 = .ok (.iconst 0, 1) := by decide +kernel
theorem dX1_shuffleAt_14 : decode cX1_shuffleAt 14 = .ok (.istore 4, 2) := by decide +kernel
theorem dX1_shuffleAt_16 : decode cX1_shuffleAt 16 = .ok (.iconst 0, 1) := by decide +kernel
theorem dX1_shuffleAt_17 : decode cX1_shuffleAt 17 = .ok (.istore 5, 2) := by decide +kernel
theorem dX1_shuffleAt_19 : decode cX1_shuffleAt 19 = .ok (.iload 5, 2) := by decide +kernel
theorem dX1_shuffleAt_21 : decode cX1_shuffleAt 21 = .ok (.iload_n 3, 1) := by decide +kernel
theorem dX1_shuffleAt_22 : decode cX1_shuffleAt 22 = .ok (.if_icmp .ge 53, 3) := by decide +kernel
theorem dX1_shuffleAt_25 : decode cX1_shuffleAt 25 = .ok (.iload 5, 2) := by decide +kernel
theorem dX1_shuffleAt_27 : decode cX1_shuffleAt 27 = .ok (.iload_n 1, 1) := by decide +kernel
theorem dX1_shuffleAt_28 : decode cX1_shuffleAt 28 = .ok (.iload_n 3, 1) := by decide +kernel
theorem dX1_shuffleAt_29 : decode cX1_shuffleAt 29 = .ok (.invokestatic 49, 3) := by decide +kernel
theorem dX1_shuffleAt_32 : decode cX1_shuffleAt 32 = .ok (.istore 6, 2) := by decide +kernel
theorem dX1_shuffleAt_34 : decode cX1_shuffleAt 34 = .ok (.aload_n 0, 1) := by decide +kernel
theorem dX1_shuffleAt_35 : decode cX1_shuffleAt 35 = .ok (.getfield 9, 3) := by decide +kernel
theorem dX1_shuffleAt_38 : decode cX1_shuffleAt 38 = .ok (.aload_n 0, 1) := by decide +kernel
theorem dX1_shuffleAt_39 : decode cX1_shuffleAt 39 = .ok (.getfield 19, 3) := by decide +kernel
theorem dX1_shuffleAt_42 : decode cX1_shuffleAt 42 = .ok (.iload 5, 2) := by decide +kernel
theorem dX1_shuffleAt_44 : decode cX1_shuffleAt 44 = .ok (.iadd, 1) := by decide +kernel
theorem dX1_shuffleAt_45 : decode cX1_shuffleAt 45 = .ok (.aload_n 2, 1) := by decide +kernel
theorem dX1_shuffleAt_46 : decode cX1_shuffleAt 46 = .ok (.aload_n 0, 1) := by decide +kernel
theorem dX1_shuffleAt_47 : decode cX1_shuffleAt 47 = .ok (.getfield 19, 3) := by decide +kernel
theorem dX1_shuffleAt_50 : decode cX1_shuffleAt 50 = .ok (.iload 6, 2) := by decide +kernel
theorem dX1_shuffleAt_52 : decode cX1_shuffleAt 52 = .ok (.iadd, 1) := by decide +kernel
theorem dX1_shuffleAt_53 : decode cX1_shuffleAt 53 = .ok (.invokestatic 37, 3) := by decide +kernel
theorem dX1_shuffleAt_56 : decode cX1_shuffleAt 56 = .ok (.invokestatic 45, 3) := by decide +kernel
theorem dX1_shuffleAt_59 : decode cX1_shuffleAt 59 = .ok (.iload 6, 2) := by decide +kernel
theorem dX1_shuffleAt_61 : decode cX1_shuffleAt 61 = .ok (.iload 5, 2) := by decide +kernel
theorem dX1_shuffleAt_63 : decode cX1_shuffleAt 63 = .ok (.if_icmp .eq 6, 3) := by decide +kernel
theorem dX1_shuffleAt_66 : decode cX1_shuffleAt 66 = .ok (.iinc 4 1, 3) := by decide +kernel
theorem dX1_shuffleAt_69 : decode cX1_shuffleAt 69 = .ok (.iinc 5 1, 3) := by decide +kernel
theorem dX1_shuffleAt_72 : decode cX1_shuffleAt 72 = .ok (.goto (-53), 3) := by decide +kernel
theorem dX1_shuffleAt_75 : decode cX1_shuffleAt 75 = .ok (.iload 4, 2) := by decide +kernel
theorem dX1_shuffleAt_77 : decode cX1_shuffleAt 77 = .ok (.ireturn, 1) := by decide +kernel
theorem dX1_marksOf_0 : decode cX1_marksOf 0 = .ok (.aload_n 0, 1) := by decide +kernel
theorem dX1_marksOf_1 : decode cX1_marksOf 1 = .ok (.getfield 15, 3) := by decide +kernel
theorem dX1_marksOf_4 : decode cX1_marksOf 4 = .ok (.ifnonnull 8, 3) := by decide +kernel
theorem dX1_marksOf_7 : decode cX1_marksOf 7 = .ok (.bipush (-5), 2) := by decide +kernel
theorem dX1_marksOf_9 : decode cX1_marksOf 9 = .ok (.goto 14, 3) := by decide +kernel
theorem dX1_marksOf_12 : decode cX1_marksOf 12 = .ok (.aload_n 0, 1) := by decide +kernel
theorem dX1_marksOf_13 : decode cX1_marksOf 13 = .ok (.getfield 15, 3) := by decide +kernel
theorem dX1_marksOf_16 : decode cX1_marksOf 16 = .ok (.getfield 53, 3) := by decide +kernel
theorem dX1_marksOf_19 : decode cX1_marksOf 19 = .ok (.iload_n 1, 1) := by decide +kernel
theorem dX1_marksOf_20 : decode cX1_marksOf 20 = .ok (.invokestatic 37, 3) := by decide +kernel
theorem dX1_marksOf_23 : decode cX1_marksOf 23 = .ok (.ireturn, 1) := by decide +kernel
theorem dX1_marksAt_0 : decode cX1_marksAt 0 = .ok (.aload_n 0, 1) := by decide +kernel
theorem dX1_marksAt_1 : decode cX1_marksAt 1 = .ok (.aload_n 0, 1) := by decide +kernel
theorem dX1_marksAt_2 : decode cX1_marksAt 2 = .ok (.iload_n 1, 1) := by decide +kernel
theorem dX1_marksAt_3 : decode cX1_marksAt 3 = .ok (.invokevirtual 41, 3) := by decide +kernel
theorem dX1_marksAt_6 : decode cX1_marksAt 6 = .ok (.invokevirtual 56, 3) := by decide +kernel
theorem dX1_marksAt_9 : decode cX1_marksAt 9 = .ok (.ireturn, 1) := by decide +kernel
theorem dX1_canBeAt_0 : decode cX1_canBeAt 0 = .ok (.aload_n 0, 1) := by decide +kernel
theorem dX1_canBeAt_1 : decode cX1_canBeAt 1 = .ok (.iload_n 1, 1) := by decide +kernel
theorem dX1_canBeAt_2 : decode cX1_canBeAt 2 = .ok (.invokevirtual 59, 3) := by decide +kernel
theorem dX1_canBeAt_5 : decode cX1_canBeAt 5 = .ok (.istore_n 2, 1) := by decide +kernel
theorem dX1_canBeAt_6 : decode cX1_canBeAt 6 = .ok (.aload_n 0, 1) := by decide +kernel
theorem dX1_canBeAt_7 : decode cX1_canBeAt 7 = .ok (.invokevirtual 33, 3) := by decide +kernel
theorem dX1_canBeAt_10 : decode cX1_canBeAt 10 = .ok (.istore_n 3, 1) := by decide +kernel
theorem dX1_canBeAt_11 : decode cX1_canBeAt 11 = .ok (.iconst 0, 1) := by decide +kernel
theorem dX1_canBeAt_12 : decode cX1_canBeAt 12 = .ok (.istore 4, 2) := by decide +kernel
theorem dX1_canBeAt_14 : decode cX1_canBeAt 14 = .ok (.iconst 0, 1) := by decide +kernel
theorem dX1_canBeAt_15 : decode cX1_canBeAt 15 = .ok (.istore 5, 2) := by decide +kernel
theorem dX1_canBeAt_17 : decode cX1_canBeAt 17 = .ok (.iload 5, 2) := by decide +kernel
theorem dX1_canBeAt_19 : decode cX1_canBeAt 19 = .ok (.iload_n 3, 1) := by decide +kernel
theorem dX1_canBeAt_20 : decode cX1_canBeAt 20 = .ok (.if_icmp .ge 22, 3) := by decide +kernel
theorem dX1_canBeAt_23 : decode cX1_canBeAt 23 = .ok (.aload_n 0, 1) := by decide +kernel
theorem dX1_canBeAt_24 : decode cX1_canBeAt 24 = .ok (.iload 5, 2) := by decide +kernel
theorem dX1_canBeAt_26 : decode cX1_canBeAt 26 = .ok (.invokevirtual 59, 3) := by decide +kernel
theorem dX1_canBeAt_29 : decode cX1_canBeAt 29 = .ok (.iload_n 2, 1) := by decide +kernel
theorem dX1_canBeAt_30 : decode cX1_canBeAt 30 = .ok (.if_icmp .ne 6, 3) := by decide +kernel
theorem dX1_canBeAt_33 : decode cX1_canBeAt 33 = .ok (.iinc 4 1, 3) := by decide +kernel
theorem dX1_canBeAt_36 : decode cX1_canBeAt 36 = .ok (.iinc 5 1, 3) := by decide +kernel
theorem dX1_canBeAt_39 : decode cX1_canBeAt 39 = .ok (.goto (-22), 3) := by decide +kernel
theorem dX1_canBeAt_42 : decode cX1_canBeAt 42 = .ok (.iload 4, 2) := by decide +kernel
theorem dX1_canBeAt_44 : decode cX1_canBeAt 44 = .ok (.ireturn, 1) := by decide +kernel
theorem dX1_guessAt_0 : decode cX1_guessAt 0 = .ok (.aload_n 0, 1) := by decide +kernel
theorem dX1_guessAt_1 : decode cX1_guessAt 1 = .ok (.iload_n 1, 1) := by decide +kernel
theorem dX1_guessAt_2 : decode cX1_guessAt 2 = .ok (.invokevirtual 59, 3) := by decide +kernel
theorem dX1_guessAt_5 : decode cX1_guessAt 5 = .ok (.istore_n 2, 1) := by decide +kernel
theorem dX1_guessAt_6 : decode cX1_guessAt 6 = .ok (.aload_n 0, 1) := by decide +kernel
theorem dX1_guessAt_7 : decode cX1_guessAt 7 = .ok (.invokevirtual 33, 3) := by decide +kernel
theorem dX1_guessAt_10 : decode cX1_guessAt 10 = .ok (.istore_n 3, 1) := by decide +kernel
theorem dX1_guessAt_11 : decode cX1_guessAt 11 = .ok (.aload_n 0, 1) := by decide +kernel
theorem dX1_guessAt_12 : decode cX1_guessAt 12 = .ok (.iload_n 1, 1) := by decide +kernel
theorem dX1_guessAt_13 : decode cX1_guessAt 13 = .ok (.invokevirtual 41, 3) := by decide +kernel
theorem dX1_guessAt_16 : decode cX1_guessAt 16 = .ok (.istore 4, 2) := by decide +kernel
theorem dX1_guessAt_18 : decode cX1_guessAt 18 = .ok (.iconst 0, 1) := by decide +kernel
theorem dX1_guessAt_19 : decode cX1_guessAt 19 = .ok (.istore 5, 2) := by decide +kernel
theorem dX1_guessAt_21 : decode cX1_guessAt 21 = .ok (.iload 5, 2) := by decide +kernel
theorem dX1_guessAt_23 : decode cX1_guessAt 23 = .ok (.iload_n 3, 1) := by decide +kernel
theorem dX1_guessAt_24 : decode cX1_guessAt 24 = .ok (.if_icmp .ge 32, 3) := by decide +kernel
theorem dX1_guessAt_27 : decode cX1_guessAt 27 = .ok (.aload_n 0, 1) := by decide +kernel
theorem dX1_guessAt_28 : decode cX1_guessAt 28 = .ok (.iload 5, 2) := by decide +kernel
theorem dX1_guessAt_30 : decode cX1_guessAt 30 = .ok (.invokevirtual 59, 3) := by decide +kernel
theorem dX1_guessAt_33 : decode cX1_guessAt 33 = .ok (.iload_n 2, 1) := by decide +kernel
theorem dX1_guessAt_34 : decode cX1_guessAt 34 = .ok (.if_icmp .ne 16, 3) := by decide +kernel
theorem dX1_guessAt_37 : decode cX1_guessAt 37 = .ok (.iload 4, 2) := by decide +kernel
theorem dX1_guessAt_39 : decode cX1_guessAt 39 = .ok (.aload_n 0, 1) := by decide +kernel
theorem dX1_guessAt_40 : decode cX1_guessAt 40 = .ok (.iload 5, 2) := by decide +kernel
theorem dX1_guessAt_42 : decode cX1_guessAt 42 = .ok (.invokevirtual 41, 3) := by decide +kernel
theorem dX1_guessAt_45 : decode cX1_guessAt 45 = .ok (.invokestatic 62, 3) := by decide +kernel
theorem dX1_guessAt_48 : decode cX1_guessAt 48 = .ok (.istore 4, 2) := by decide +kernel
theorem dX1_guessAt_50 : decode cX1_guessAt 50 = .ok (.iinc 5 1, 3) := by decide +kernel
theorem dX1_guessAt_53 : decode cX1_guessAt 53 = .ok (.goto (-32), 3) := by decide +kernel
theorem dX1_guessAt_56 : decode cX1_guessAt 56 = .ok (.iload 4, 2) := by decide +kernel
theorem dX1_guessAt_58 : decode cX1_guessAt 58 = .ok (.ireturn, 1) := by decide +kernel
theorem dX1_known_0 : decode cX1_known 0 = .ok (.aload_n 0, 1) := by decide +kernel
theorem dX1_known_1 : decode cX1_known 1 = .ok (.invokevirtual 33, 3) := by decide +kernel
theorem dX1_known_4 : decode cX1_known 4 = .ok (.istore_n 1, 1) := by decide +kernel
theorem dX1_known_5 : decode cX1_known 5 = .ok (.iconst 0, 1) := by decide +kernel
theorem dX1_known_6 : decode cX1_known 6 = .ok (.istore_n 2, 1) := by decide +kernel
theorem dX1_known_7 : decode cX1_known 7 = .ok (.iconst 0, 1) := by decide +kernel
theorem dX1_known_8 : decode cX1_known 8 = .ok (.istore_n 3, 1) := by decide +kernel
theorem dX1_known_9 : decode cX1_known 9 = .ok (.iload_n 3, 1) := by decide +kernel
theorem dX1_known_10 : decode cX1_known 10 = .ok (.iload_n 1, 1) := by decide +kernel
theorem dX1_known_11 : decode cX1_known 11 = .ok (.if_icmp .ge 21, 3) := by decide +kernel
theorem dX1_known_14 : decode cX1_known 14 = .ok (.aload_n 0, 1) := by decide +kernel
theorem dX1_known_15 : decode cX1_known 15 = .ok (.iload_n 3, 1) := by decide +kernel
theorem dX1_known_16 : decode cX1_known 16 = .ok (.invokevirtual 67, 3) := by decide +kernel
theorem dX1_known_19 : decode cX1_known 19 = .ok (.iconst 1, 1) := by decide +kernel
theorem dX1_known_20 : decode cX1_known 20 = .ok (.if_icmp .ne 6, 3) := by decide +kernel
theorem dX1_known_23 : decode cX1_known 23 = .ok (.iinc 2 1, 3) := by decide +kernel
theorem dX1_known_26 : decode cX1_known 26 = .ok (.iinc 3 1, 3) := by decide +kernel
theorem dX1_known_29 : decode cX1_known 29 = .ok (.goto (-20), 3) := by decide +kernel
theorem dX1_known_32 : decode cX1_known 32 = .ok (.iload_n 2, 1) := by decide +kernel
theorem dX1_known_33 : decode cX1_known 33 = .ok (.ireturn, 1) := by decide +kernel
theorem dX1_guessedRight_0 : decode cX1_guessedRight 0 = .ok (.aload_n 0, 1) := by decide +kernel
theorem dX1_guessedRight_1 : decode cX1_guessedRight 1 = .ok (.invokevirtual 33, 3) := by decide +kernel
theorem dX1_guessedRight_4 : decode cX1_guessedRight 4 = .ok (.istore_n 1, 1) := by decide +kernel
theorem dX1_guessedRight_5 : decode cX1_guessedRight 5 = .ok (.iconst 0, 1) := by decide +kernel
theorem dX1_guessedRight_6 : decode cX1_guessedRight 6 = .ok (.istore_n 2, 1) := by decide +kernel
theorem dX1_guessedRight_7 : decode cX1_guessedRight 7 = .ok (.iconst 0, 1) := by decide +kernel
theorem dX1_guessedRight_8 : decode cX1_guessedRight 8 = .ok (.istore_n 3, 1) := by decide +kernel
theorem dX1_guessedRight_9 : decode cX1_guessedRight 9 = .ok (.iload_n 3, 1) := by decide +kernel
theorem dX1_guessedRight_10 : decode cX1_guessedRight 10 = .ok (.iload_n 1, 1) := by decide +kernel
theorem dX1_guessedRight_11 : decode cX1_guessedRight 11 = .ok (.if_icmp .ge 25, 3) := by decide +kernel
theorem dX1_guessedRight_14 : decode cX1_guessedRight 14 = .ok (.aload_n 0, 1) := by decide +kernel
theorem dX1_guessedRight_15 : decode cX1_guessedRight 15 = .ok (.iload_n 3, 1) := by decide +kernel
theorem dX1_guessedRight_16 : decode cX1_guessedRight 16 = .ok (.invokevirtual 70, 3) := by decide +kernel
theorem dX1_guessedRight_19 : decode cX1_guessedRight 19 = .ok (.aload_n 0, 1) := by decide +kernel
theorem dX1_guessedRight_20 : decode cX1_guessedRight 20 = .ok (.iload_n 3, 1) := by decide +kernel
theorem dX1_guessedRight_21 : decode cX1_guessedRight 21 = .ok (.invokevirtual 41, 3) := by decide +kernel
theorem dX1_guessedRight_24 : decode cX1_guessedRight 24 = .ok (.if_icmp .ne 6, 3) := by decide +kernel
theorem dX1_guessedRight_27 : decode cX1_guessedRight 27 = .ok (.iinc 2 1, 3) := by decide +kernel
theorem dX1_guessedRight_30 : decode cX1_guessedRight 30 = .ok (.iinc 3 1, 3) := by decide +kernel
theorem dX1_guessedRight_33 : decode cX1_guessedRight 33 = .ok (.goto (-24), 3) := by decide +kernel
theorem dX1_guessedRight_36 : decode cX1_guessedRight 36 = .ok (.iload_n 2, 1) := by decide +kernel
theorem dX1_guessedRight_37 : decode cX1_guessedRight 37 = .ok (.ireturn, 1) := by decide +kernel
theorem dX1_sumOfChances_0 : decode cX1_sumOfChances 0 = .ok (.aload_n 0, 1) := by decide +kernel
theorem dX1_sumOfChances_1 : decode cX1_sumOfChances 1 = .ok (.invokevirtual 33, 3) := by decide +kernel
theorem dX1_sumOfChances_4 : decode cX1_sumOfChances 4 = .ok (.istore_n 1, 1) := by decide +kernel
theorem dX1_sumOfChances_5 : decode cX1_sumOfChances 5 = .ok (.fconst 0, 1) := by decide +kernel
theorem dX1_sumOfChances_6 : decode cX1_sumOfChances 6 = .ok (.fstore_n 2, 1) := by decide +kernel
theorem dX1_sumOfChances_7 : decode cX1_sumOfChances 7 = .ok (.iconst 0, 1) := by decide +kernel
theorem dX1_sumOfChances_8 : decode cX1_sumOfChances 8 = .ok (.istore_n 3, 1) := by decide +kernel
theorem dX1_sumOfChances_9 : decode cX1_sumOfChances 9 = .ok (.iload_n 3, 1) := by decide +kernel
theorem dX1_sumOfChances_10 : decode cX1_sumOfChances 10 = .ok (.iload_n 1, 1) := by decide +kernel
theorem dX1_sumOfChances_11 : decode cX1_sumOfChances 11 = .ok (.if_icmp .ge 29, 3) := by decide +kernel
theorem dX1_sumOfChances_14 : decode cX1_sumOfChances 14 = .ok (.aload_n 0, 1) := by decide +kernel
theorem dX1_sumOfChances_15 : decode cX1_sumOfChances 15 = .ok (.iload_n 3, 1) := by decide +kernel
theorem dX1_sumOfChances_16 : decode cX1_sumOfChances 16 = .ok (.invokevirtual 67, 3) := by decide +kernel
theorem dX1_sumOfChances_19 : decode cX1_sumOfChances 19 = .ok (.istore 4, 2) := by decide +kernel
theorem dX1_sumOfChances_21 : decode cX1_sumOfChances 21 = .ok (.iload 4, 2) := by decide +kernel
theorem dX1_sumOfChances_23 : decode cX1_sumOfChances 23 = .ok (.ifCond .le 11, 3) := by decide +kernel
theorem dX1_sumOfChances_26 : decode cX1_sumOfChances 26 = .ok (.fload_n 2, 1) := by decide +kernel
theorem dX1_sumOfChances_27 : decode cX1_sumOfChances 27 = .ok (.fconst 1, 1) := by decide +kernel
theorem dX1_sumOfChances_28 : decode cX1_sumOfChances 28 = .ok (.iload 4, 2) := by decide +kernel
theorem dX1_sumOfChances_30 : decode cX1_sumOfChances 30 = .ok (.i2f, 1) := by decide +kernel
theorem dX1_sumOfChances_31 : decode cX1_sumOfChances 31 = .ok (.fdiv, 1) := by decide +kernel
theorem dX1_sumOfChances_32 : decode cX1_sumOfChances 32 = .ok (.fadd, 1) := by decide +kernel
theorem dX1_sumOfChances_33 : decode cX1_sumOfChances 33 = .ok (.fstore_n 2, 1) := by decide +kernel
theorem dX1_sumOfChances_34 : decode cX1_sumOfChances 34 = .ok (.iinc 3 1, 3) := by decide +kernel
theorem dX1_sumOfChances_37 : decode cX1_sumOfChances 37 = .ok (.goto (-28), 3) := by decide +kernel
theorem dX1_sumOfChances_40 : decode cX1_sumOfChances 40 = .ok (.fload_n 2, 1) := by decide +kernel
theorem dX1_sumOfChances_41 : decode cX1_sumOfChances 41 = .ok (.freturn, 1) := by decide +kernel
theorem dX2_init_0 : decode cX2_init 0 = .ok (.aload_n 0, 1) := by decide +kernel
theorem dX2_init_1 : decode cX2_init 1 = .ok (.invokespecial 3, 3) := by decide +kernel
theorem dX2_init_4 : decode cX2_init 4 = .ok (.aload_n 0, 1) := by decide +kernel
theorem dX2_init_5 : decode cX2_init 5 = .ok (.bipush 24, 2) := by decide +kernel
theorem dX2_init_7 : decode cX2_init 7 = .ok (.newarray .int, 2) := by decide +kernel
theorem dX2_init_9 : decode cX2_init 9 = .ok (.putfield 9, 3) := by decide +kernel
theorem dX2_init_12 : decode cX2_init 12 = .ok (.aload_n 0, 1) := by decide +kernel
theorem dX2_init_13 : decode cX2_init 13 = .ok (.bipush 24, 2) := by decide +kernel
theorem dX2_init_15 : decode cX2_init 15 = .ok (.newarray .int, 2) := by decide +kernel
theorem dX2_init_17 : decode cX2_init 17 = .ok (.putfield 15, 3) := by decide +kernel
theorem dX2_init_20 : decode cX2_init 20 = .ok (.aload_n 0, 1) := by decide +kernel
theorem dX2_init_21 : decode cX2_init 21 = .ok (.bipush 24, 2) := by decide +kernel
theorem dX2_init_23 : decode cX2_init 23 = .ok (.newarray .int, 2) := by decide +kernel
theorem dX2_init_25 : decode cX2_init 25 = .ok (.putfield 18, 3) := by decide +kernel
theorem dX2_init_28 : decode cX2_init 28 = .ok (.iconst 0, 1) := by decide +kernel
theorem dX2_init_29 : decode cX2_init 29 = .ok (.istore 5, 2) := by decide +kernel
theorem dX2_init_31 : decode cX2_init 31 = .ok (.iload 5, 2) := by decide +kernel
theorem dX2_init_33 : decode cX2_init 33 = .ok (.bipush 24, 2) := by decide +kernel
theorem dX2_init_35 : decode cX2_init 35 = .ok (.if_icmp .ge 73, 3) := by decide +kernel
theorem dX2_init_38 : decode cX2_init 38 = .ok (.aload_n 1, 1) := by decide +kernel
theorem dX2_init_39 : decode cX2_init 39 = .ok (.iload 5, 2) := by decide +kernel
theorem dX2_init_41 : decode cX2_init 41 = .ok (.invokestatic 21, 3) := by decide +kernel
theorem dX2_init_44 : decode cX2_init 44 = .ok (.istore 6, 2) := by decide +kernel
theorem dX2_init_46 : decode cX2_init 46 = .ok (.aload_n 0, 1) := by decide +kernel
theorem dX2_init_47 : decode cX2_init 47 = .ok (.getfield 9, 3) := by decide +kernel
theorem dX2_init_50 : decode cX2_init 50 = .ok (.iload 5, 2) := by decide +kernel
theorem dX2_init_52 : decode cX2_init 52 = .ok (.iload 6, 2) := by decide +kernel
theorem dX2_init_54 : decode cX2_init 54 = .ok (.iastore, 1) := by decide +kernel
theorem dX2_init_55 : decode cX2_init 55 = .ok (.iload 6, 2) := by decide +kernel
theorem dX2_init_57 : decode cX2_init 57 = .ok (.invokestatic 25, 3) := by decide +kernel
theorem dX2_init_60 : decode cX2_init 60 = .ok (.ifCond .eq 42, 3) := by decide +kernel
theorem dX2_init_63 : decode cX2_init 63 = .ok (.aload_n 0, 1) := by decide +kernel
theorem dX2_init_64 : decode cX2_init 64 = .ok (.getfield 18, 3) := by decide +kernel
theorem dX2_init_67 : decode cX2_init 67 = .ok (.iload 6, 2) := by decide +kernel
theorem dX2_init_69 : decode cX2_init 69 = .ok (.aload_n 2, 1) := by decide +kernel
theorem dX2_init_70 : decode cX2_init 70 = .ok (.iload 6, 2) := by decide +kernel
theorem dX2_init_72 : decode cX2_init 72 = .ok (.invokestatic 21, 3) := by decide +kernel
theorem dX2_init_75 : decode cX2_init 75 = .ok (.iastore, 1) := by decide +kernel
theorem dX2_init_76 : decode cX2_init 76 = .ok (.aload_n 0, 1) := by decide +kernel
theorem dX2_init_77 : decode cX2_init 77 = .ok (.getfield 15, 3) := by decide +kernel
theorem dX2_init_80 : decode cX2_init 80 = .ok (.iload 6, 2) := by decide +kernel
theorem dX2_init_82 : decode cX2_init 82 = .ok (.aload_n 3, 1) := by decide +kernel
theorem dX2_init_83 : decode cX2_init 83 = .ok (.iload 4, 2) := by decide +kernel
theorem dX2_init_85 : decode cX2_init 85 = .ok (.ifCond .eq 11, 3) := by decide +kernel
theorem dX2_init_88 : decode cX2_init 88 = .ok (.bipush 23, 2) := by decide +kernel
theorem dX2_init_90 : decode cX2_init 90 = .ok (.iload 5, 2) := by decide +kernel
theorem dX2_init_92 : decode cX2_init 92 = .ok (.isub, 1) := by decide +kernel
theorem dX2_init_93 : decode cX2_init 93 = .ok (.goto 5, 3) := by decide +kernel
theorem dX2_init_96 : decode cX2_init 96 = .ok (.iload 5, 2) := by decide +kernel
theorem dX2_init_98 : decode cX2_init 98 = .ok (.invokestatic 21, 3) := by decide +kernel
theorem dX2_init_101 : decode cX2_init 101 = .ok (.iastore, 1) := by decide +kernel
theorem dX2_init_102 : decode cX2_init 102 = .ok (.iinc 5 1, 3) := by decide +kernel
theorem dX2_init_105 : decode cX2_init 105 = .ok (.goto (-74), 3) := by decide +kernel
theorem dX2_init_108 : decode cX2_init 108 = .ok (.return_, 1) := by decide +kernel
theorem dX2_cardCutTo_0 : decode cX2_cardCutTo 0 = .ok (.aload_n 0, 1) := by decide +kernel
theorem dX2_cardCutTo_1 : decode cX2_cardCutTo 1 = .ok (.getfield 9, 3) := by decide +kernel
theorem dX2_cardCutTo_4 : decode cX2_cardCutTo 4 = .ok (.iload_n 1, 1) := by decide +kernel
theorem dX2_cardCutTo_5 : decode cX2_cardCutTo 5 = .ok (.iload_n 2, 1) := by decide +kernel
theorem dX2_cardCutTo_6 : decode cX2_cardCutTo 6 = .ok (.invokestatic 29, 3) := by decide +kernel
theorem dX2_cardCutTo_9 : decode cX2_cardCutTo 9 = .ok (.invokestatic 21, 3) := by decide +kernel
theorem dX2_cardCutTo_12 : decode cX2_cardCutTo 12 = .ok (.ireturn, 1) := by decide +kernel
theorem dX2_cardsAtHome_0 : decode cX2_cardsAtHome 0 = .ok (.iconst 0, 1) := by decide +kernel
theorem dX2_cardsAtHome_1 : decode cX2_cardsAtHome 1 = .ok (.istore_n 2, 1) := by decide +kernel
theorem dX2_cardsAtHome_2 : decode cX2_cardsAtHome 2 = .ok (.iconst 0, 1) := by decide +kernel
theorem dX2_cardsAtHome_3 : decode cX2_cardsAtHome 3 = .ok (.istore_n 3, 1) := by decide +kernel
theorem dX2_cardsAtHome_4 : decode cX2_cardsAtHome 4 = .ok (.iload_n 3, 1) := by decide +kernel
theorem dX2_cardsAtHome_5 : decode cX2_cardsAtHome 5 = .ok (.bipush 24, 2) := by decide +kernel
theorem dX2_cardsAtHome_7 : decode cX2_cardsAtHome 7 = .ok (.if_icmp .ge 22, 3) := by decide +kernel
theorem dX2_cardsAtHome_10 : decode cX2_cardsAtHome 10 = .ok (.aload_n 0, 1) := by decide +kernel
theorem dX2_cardsAtHome_11 : decode cX2_cardsAtHome 11 = .ok (.iload_n 1, 1) := by decide +kernel
theorem dX2_cardsAtHome_12 : decode cX2_cardsAtHome 12 = .ok (.iload_n 3, 1) := by decide +kernel
theorem dX2_cardsAtHome_13 : decode cX2_cardsAtHome 13 = .ok (.invokevirtual 33, 3) := by decide +kernel
theorem dX2_cardsAtHome_16 : decode cX2_cardsAtHome 16 = .ok (.iload_n 3, 1) := by decide +kernel
theorem dX2_cardsAtHome_17 : decode cX2_cardsAtHome 17 = .ok (.if_icmp .ne 6, 3) := by decide +kernel
theorem dX2_cardsAtHome_20 : decode cX2_cardsAtHome 20 = .ok (.iinc 2 1, 3) := by decide +kernel
theorem dX2_cardsAtHome_23 : decode cX2_cardsAtHome 23 = .ok (.iinc 3 1, 3) := by decide +kernel
theorem dX2_cardsAtHome_26 : decode cX2_cardsAtHome 26 = .ok (.goto (-22), 3) := by decide +kernel
theorem dX2_cardsAtHome_29 : decode cX2_cardsAtHome 29 = .ok (.iload_n 2, 1) := by decide +kernel
theorem dX2_cardsAtHome_30 : decode cX2_cardsAtHome 30 = .ok (.ireturn, 1) := by decide +kernel
theorem dX3_init_0 : decode cX3_init 0 = .ok (.aload_n 0, 1) := by decide +kernel
theorem dX3_init_1 : decode cX3_init 1 = .ok (.invokespecial 3, 3) := by decide +kernel
theorem dX3_init_4 : decode cX3_init 4 = .ok (.aload_n 0, 1) := by decide +kernel
theorem dX3_init_5 : decode cX3_init 5 = .ok (.bipush 24, 2) := by decide +kernel
theorem dX3_init_7 : decode cX3_init 7 = .ok (.newarray .int, 2) := by decide +kernel
theorem dX3_init_9 : decode cX3_init 9 = .ok (.putfield 9, 3) := by decide +kernel
theorem dX3_init_12 : decode cX3_init 12 = .ok (.aload_n 0, 1) := by decide +kernel
theorem dX3_init_13 : decode cX3_init 13 = .ok (.bipush 24, 2) := by decide +kernel
theorem dX3_init_15 : decode cX3_init 15 = .ok (.newarray .int, 2) := by decide +kernel
theorem dX3_init_17 : decode cX3_init 17 = .ok (.putfield 15, 3) := by decide +kernel
theorem dX3_init_20 : decode cX3_init 20 = .ok (.aload_n 0, 1) := by decide +kernel
theorem dX3_init_21 : decode cX3_init 21 = .ok (.bipush 24, 2) := by decide +kernel
theorem dX3_init_23 : decode cX3_init 23 = .ok (.newarray .int, 2) := by decide +kernel
theorem dX3_init_25 : decode cX3_init 25 = .ok (.putfield 18, 3) := by decide +kernel
theorem dX3_init_28 : decode cX3_init 28 = .ok (.aload_n 0, 1) := by decide +kernel
theorem dX3_init_29 : decode cX3_init 29 = .ok (.iconst 4, 1) := by decide +kernel
theorem dX3_init_30 : decode cX3_init 30 = .ok (.newarray .int, 2) := by decide +kernel
theorem dX3_init_32 : decode cX3_init 32 = .ok (.putfield 21, 3) := by decide +kernel
theorem dX3_init_35 : decode cX3_init 35 = .ok (.aload_n 0, 1) := by decide +kernel
theorem dX3_init_36 : decode cX3_init 36 = .ok (.bipush 6, 2) := by decide +kernel
theorem dX3_init_38 : decode cX3_init 38 = .ok (.anewarray 24, 3) := by decide +kernel
theorem dX3_init_41 : decode cX3_init 41 = .ok (.putfield 26, 3) := by decide +kernel
theorem dX3_init_44 : decode cX3_init 44 = .ok (.aload_n 0, 1) := by decide +kernel
theorem dX3_init_45 : decode cX3_init 45 = .ok (.new 30, 3) := by decide +kernel
theorem dX3_init_48 : decode cX3_init 48 = .ok (.dup, 1) := by decide +kernel
theorem dX3_init_49 : decode cX3_init 49 = .ok (.invokespecial 32, 3) := by decide +kernel
theorem dX3_init_52 : decode cX3_init 52 = .ok (.putfield 33, 3) := by decide +kernel
theorem dX3_init_55 : decode cX3_init 55 = .ok (.aload_n 0, 1) := by decide +kernel
theorem dX3_init_56 : decode cX3_init 56 = .ok (.iconst 0, 1) := by decide +kernel
theorem dX3_init_57 : decode cX3_init 57 = .ok (.putfield 37, 3) := by decide +kernel
theorem dX3_init_60 : decode cX3_init 60 = .ok (.aload_n 0, 1) := by decide +kernel
theorem dX3_init_61 : decode cX3_init 61 = .ok (.iconst 0, 1) := by decide +kernel
theorem dX3_init_62 : decode cX3_init 62 = .ok (.putfield 41, 3) := by decide +kernel
theorem dX3_init_65 : decode cX3_init 65 = .ok (.aload_n 0, 1) := by decide +kernel
theorem dX3_init_66 : decode cX3_init 66 = .ok (.iconst 0, 1) := by decide +kernel
theorem dX3_init_67 : decode cX3_init 67 = .ok (.putfield 44, 3) := by decide +kernel
theorem dX3_init_70 : decode cX3_init 70 = .ok (.aload_n 0, 1) := by decide +kernel
theorem dX3_init_71 : decode cX3_init 71 = .ok (.iconst 0, 1) := by decide +kernel
theorem dX3_init_72 : decode cX3_init 72 = .ok (.putfield 47, 3) := by decide +kernel
theorem dX3_init_75 : decode cX3_init 75 = .ok (.aload_n 0, 1) := by decide +kernel
theorem dX3_init_76 : decode cX3_init 76 = .ok (.iconst 0, 1) := by decide +kernel
theorem dX3_init_77 : decode cX3_init 77 = .ok (.putfield 50, 3) := by decide +kernel
theorem dX3_init_80 : decode cX3_init 80 = .ok (.iconst 0, 1) := by decide +kernel
theorem dX3_init_81 : decode cX3_init 81 = .ok (.istore_n 1, 1) := by decide +kernel
theorem dX3_init_82 : decode cX3_init 82 = .ok (.iload_n 1, 1) := by decide +kernel
theorem dX3_init_83 : decode cX3_init 83 = .ok (.bipush 24, 2) := by decide +kernel
theorem dX3_init_85 : decode cX3_init 85 = .ok (.if_icmp .ge 16, 3) := by decide +kernel
theorem dX3_init_88 : decode cX3_init 88 = .ok (.aload_n 0, 1) := by decide +kernel
theorem dX3_init_89 : decode cX3_init 89 = .ok (.getfield 9, 3) := by decide +kernel
theorem dX3_init_92 : decode cX3_init 92 = .ok (.iload_n 1, 1) := by decide +kernel
theorem dX3_init_93 : decode cX3_init 93 = .ok (.iload_n 1, 1) := by decide +kernel
theorem dX3_init_94 : decode cX3_init 94 = .ok (.iastore, 1) := by decide +kernel
theorem dX3_init_95 : decode cX3_init 95 = .ok (.iinc 1 1, 3) := by decide +kernel
theorem dX3_init_98 : decode cX3_init 98 = .ok (.goto (-16), 3) := by decide +kernel
theorem dX3_init_101 : decode cX3_init 101 = .ok (.iconst 0, 1) := by decide +kernel
theorem dX3_init_102 : decode cX3_init 102 = .ok (.istore_n 1, 1) := by decide +kernel
theorem dX3_init_103 : decode cX3_init 103 = .ok (.iload_n 1, 1) := by decide +kernel
theorem dX3_init_104 : decode cX3_init 104 = .ok (.iconst 4, 1) := by decide +kernel
theorem dX3_init_105 : decode cX3_init 105 = .ok (.if_icmp .ge 22, 3) := by decide +kernel
theorem dX3_init_108 : decode cX3_init 108 = .ok (.aload_n 0, 1) := by decide +kernel
theorem dX3_init_109 : decode cX3_init 109 = .ok (.getfield 21, 3) := by decide +kernel
theorem dX3_init_112 : decode cX3_init 112 = .ok (.iload_n 1, 1) := by decide +kernel
theorem dX3_init_113 : decode cX3_init 113 = .ok (.getstatic 53, 3) := by decide +kernel
theorem dX3_init_116 : decode cX3_init 116 = .ok (.iload_n 1, 1) := by decide +kernel
theorem dX3_init_117 : decode cX3_init 117 = .ok (.invokestatic 56, 3) := by decide +kernel
theorem dX3_init_120 : decode cX3_init 120 = .ok (.iastore, 1) := by decide +kernel
theorem dX3_init_121 : decode cX3_init 121 = .ok (.iinc 1 1, 3) := by decide +kernel
theorem dX3_init_124 : decode cX3_init 124 = .ok (.goto (-21), 3) := by decide +kernel
theorem dX3_init_127 : decode cX3_init 127 = .ok (.return_, 1) := by decide +kernel
theorem dX3_copyFrom_0 : decode cX3_copyFrom 0 = .ok (.aload_n 1, 1) := by decide +kernel
theorem dX3_copyFrom_1 : decode cX3_copyFrom 1 = .ok (.ifnonnull 4, 3) := by decide +kernel
theorem dX3_copyFrom_4 : decode cX3_copyFrom 4 = .ok (.return_, 1) := by decide +kernel
theorem dX3_copyFrom_5 : decode cX3_copyFrom 5 = .ok (.aload_n 1, 1) := by decide +kernel
theorem dX3_copyFrom_6 : decode cX3_copyFrom 6 = .ok (.getfield 9, 3) := by decide +kernel
theorem dX3_copyFrom_9 : decode cX3_copyFrom 9 = .ok (.aload_n 0, 1) := by decide +kernel
theorem dX3_copyFrom_10 : decode cX3_copyFrom 10 = .ok (.getfield 9, 3) := by decide +kernel
theorem dX3_copyFrom_13 : decode cX3_copyFrom 13 = .ok (.invokestatic 60, 3) := by decide +kernel
theorem dX3_copyFrom_16 : decode cX3_copyFrom 16 = .ok (.aload_n 1, 1) := by decide +kernel
theorem dX3_copyFrom_17 : decode cX3_copyFrom 17 = .ok (.getfield 15, 3) := by decide +kernel
theorem dX3_copyFrom_20 : decode cX3_copyFrom 20 = .ok (.aload_n 0, 1) := by decide +kernel
theorem dX3_copyFrom_21 : decode cX3_copyFrom 21 = .ok (.getfield 15, 3) := by decide +kernel
theorem dX3_copyFrom_24 : decode cX3_copyFrom 24 = .ok (.invokestatic 60, 3) := by decide +kernel
theorem dX3_copyFrom_27 : decode cX3_copyFrom 27 = .ok (.aload_n 1, 1) := by decide +kernel
theorem dX3_copyFrom_28 : decode cX3_copyFrom 28 = .ok (.getfield 18, 3) := by decide +kernel
theorem dX3_copyFrom_31 : decode cX3_copyFrom 31 = .ok (.aload_n 0, 1) := by decide +kernel
theorem dX3_copyFrom_32 : decode cX3_copyFrom 32 = .ok (.getfield 18, 3) := by decide +kernel
theorem dX3_copyFrom_35 : decode cX3_copyFrom 35 = .ok (.invokestatic 60, 3) := by decide +kernel
theorem dX3_copyFrom_38 : decode cX3_copyFrom 38 = .ok (.aload_n 1, 1) := by decide +kernel
theorem dX3_copyFrom_39 : decode cX3_copyFrom 39 = .ok (.getfield 21, 3) := by decide +kernel
theorem dX3_copyFrom_42 : decode cX3_copyFrom 42 = .ok (.aload_n 0, 1) := by decide +kernel
theorem dX3_copyFrom_43 : decode cX3_copyFrom 43 = .ok (.getfield 21, 3) := by decide +kernel
theorem dX3_copyFrom_46 : decode cX3_copyFrom 46 = .ok (.invokestatic 60, 3) := by decide +kernel
theorem dX3_copyFrom_49 : decode cX3_copyFrom 49 = .ok (.iconst 0, 1) := by decide +kernel
theorem dX3_copyFrom_50 : decode cX3_copyFrom 50 = .ok (.istore_n 2, 1) := by decide +kernel
theorem dX3_copyFrom_51 : decode cX3_copyFrom 51 = .ok (.iload_n 2, 1) := by decide +kernel
theorem dX3_copyFrom_52 : decode cX3_copyFrom 52 = .ok (.bipush 6, 2) := by decide +kernel
theorem dX3_copyFrom_54 : decode cX3_copyFrom 54 = .ok (.if_icmp .ge 21, 3) := by decide +kernel
theorem dX3_copyFrom_57 : decode cX3_copyFrom 57 = .ok (.aload_n 0, 1) := by decide +kernel
theorem dX3_copyFrom_58 : decode cX3_copyFrom 58 = .ok (.getfield 26, 3) := by decide +kernel
theorem dX3_copyFrom_61 : decode cX3_copyFrom 61 = .ok (.iload_n 2, 1) := by decide +kernel
theorem dX3_copyFrom_62 : decode cX3_copyFrom 62 = .ok (.aload_n 1, 1) := by decide +kernel
theorem dX3_copyFrom_63 : decode cX3_copyFrom 63 = .ok (.getfield 26, 3) := by decide +kernel
theorem dX3_copyFrom_66 : decode cX3_copyFrom 66 = .ok (.iload_n 2, 1) := by decide +kernel
theorem dX3_copyFrom_67 : decode cX3_copyFrom 67 = .ok (.aaload, 1) := by decide +kernel
theorem dX3_copyFrom_68 : decode cX3_copyFrom 68 = .ok (.aastore, 1) := by decide +kernel
theorem dX3_copyFrom_69 : decode cX3_copyFrom 69 = .ok (.iinc 2 1, 3) := by decide +kernel
theorem dX3_copyFrom_72 : decode cX3_copyFrom 72 = .ok (.goto (-21), 3) := by decide +kernel
theorem dX3_copyFrom_75 : decode cX3_copyFrom 75 = .ok (.aload_n 0, 1) := by decide +kernel
theorem dX3_copyFrom_76 : decode cX3_copyFrom 76 = .ok (.getfield 33, 3) := by decide +kernel
theorem dX3_copyFrom_79 : decode cX3_copyFrom 79 = .ok (.aload_n 1, 1) := by decide +kernel
theorem dX3_copyFrom_80 : decode cX3_copyFrom 80 = .ok (.getfield 33, 3) := by decide +kernel
theorem dX3_copyFrom_83 : decode cX3_copyFrom 83 = .ok (.invokevirtual 64, 3) := by decide +kernel
theorem dX3_copyFrom_86 : decode cX3_copyFrom 86 = .ok (.aload_n 0, 1) := by decide +kernel
theorem dX3_copyFrom_87 : decode cX3_copyFrom 87 = .ok (.aload_n 1, 1) := by decide +kernel
theorem dX3_copyFrom_88 : decode cX3_copyFrom 88 = .ok (.getfield 37, 3) := by decide +kernel
theorem dX3_copyFrom_91 : decode cX3_copyFrom 91 = .ok (.putfield 37, 3) := by decide +kernel
theorem dX3_copyFrom_94 : decode cX3_copyFrom 94 = .ok (.aload_n 0, 1) := by decide +kernel
theorem dX3_copyFrom_95 : decode cX3_copyFrom 95 = .ok (.aload_n 1, 1) := by decide +kernel
theorem dX3_copyFrom_96 : decode cX3_copyFrom 96 = .ok (.getfield 41, 3) := by decide +kernel
theorem dX3_copyFrom_99 : decode cX3_copyFrom 99 = .ok (.putfield 41, 3) := by decide +kernel
theorem dX3_copyFrom_102 : decode cX3_copyFrom 102 = .ok (.aload_n 0, 1) := by decide +kernel
theorem dX3_copyFrom_103 : decode cX3_copyFrom 103 = .ok (.aload_n 1, 1) := by decide +kernel
theorem dX3_copyFrom_104 : decode cX3_copyFrom 104 = .ok (.getfield 44, 3) := by decide +kernel
theorem dX3_copyFrom_107 : decode cX3_copyFrom 107 = .ok (.putfield 44, 3) := by decide +kernel
theorem dX3_copyFrom_110 : decode cX3_copyFrom 110 = .ok (.aload_n 0, 1) := by decide +kernel
theorem dX3_copyFrom_111 : decode cX3_copyFrom 111 = .ok (.aload_n 1, 1) := by decide +kernel
theorem dX3_copyFrom_112 : decode cX3_copyFrom 112 = .ok (.getfield 47, 3) := by decide +kernel
theorem dX3_copyFrom_115 : decode cX3_copyFrom 115 = .ok (.putfield 47, 3) := by decide +kernel
theorem dX3_copyFrom_118 : decode cX3_copyFrom 118 = .ok (.aload_n 0, 1) := by decide +kernel
theorem dX3_copyFrom_119 : decode cX3_copyFrom 119 = .ok (.aload_n 1, 1) := by decide +kernel
theorem dX3_copyFrom_120 : decode cX3_copyFrom 120 = .ok (.getfield 50, 3) := by decide +kernel
theorem dX3_copyFrom_123 : decode cX3_copyFrom 123 = .ok (.putfield 50, 3) := by decide +kernel
theorem dX3_copyFrom_126 : decode cX3_copyFrom 126 = .ok (.return_, 1) := by decide +kernel
theorem dX3_exchange_0 : decode cX3_exchange 0 = .ok (.aload_n 0, 1) := by decide +kernel
theorem dX3_exchange_1 : decode cX3_exchange 1 = .ok (.getfield 9, 3) := by decide +kernel
theorem dX3_exchange_4 : decode cX3_exchange 4 = .ok (.iload_n 1, 1) := by decide +kernel
theorem dX3_exchange_5 : decode cX3_exchange 5 = .ok (.invokestatic 56, 3) := by decide +kernel
theorem dX3_exchange_8 : decode cX3_exchange 8 = .ok (.istore_n 3, 1) := by decide +kernel
theorem dX3_exchange_9 : decode cX3_exchange 9 = .ok (.aload_n 0, 1) := by decide +kernel
theorem dX3_exchange_10 : decode cX3_exchange 10 = .ok (.getfield 9, 3) := by decide +kernel
theorem dX3_exchange_13 : decode cX3_exchange 13 = .ok (.iload_n 1, 1) := by decide +kernel
theorem dX3_exchange_14 : decode cX3_exchange 14 = .ok (.aload_n 0, 1) := by decide +kernel
theorem dX3_exchange_15 : decode cX3_exchange 15 = .ok (.getfield 9, 3) := by decide +kernel
theorem dX3_exchange_18 : decode cX3_exchange 18 = .ok (.iload_n 2, 1) := by decide +kernel
theorem dX3_exchange_19 : decode cX3_exchange 19 = .ok (.invokestatic 56, 3) := by decide +kernel
theorem dX3_exchange_22 : decode cX3_exchange 22 = .ok (.invokestatic 68, 3) := by decide +kernel
theorem dX3_exchange_25 : decode cX3_exchange 25 = .ok (.aload_n 0, 1) := by decide +kernel
theorem dX3_exchange_26 : decode cX3_exchange 26 = .ok (.getfield 9, 3) := by decide +kernel
theorem dX3_exchange_29 : decode cX3_exchange 29 = .ok (.iload_n 2, 1) := by decide +kernel
theorem dX3_exchange_30 : decode cX3_exchange 30 = .ok (.iload_n 3, 1) := by decide +kernel
theorem dX3_exchange_31 : decode cX3_exchange 31 = .ok (.invokestatic 68, 3) := by decide +kernel
theorem dX3_exchange_34 : decode cX3_exchange 34 = .ok (.return_, 1) := by decide +kernel
theorem dX3_cellOf_0 : decode cX3_cellOf 0 = .ok (.iconst 0, 1) := by decide +kernel
theorem dX3_cellOf_1 : decode cX3_cellOf 1 = .ok (.istore_n 2, 1) := by decide +kernel
theorem dX3_cellOf_2 : decode cX3_cellOf 2 = .ok (.iload_n 2, 1) := by decide +kernel
theorem dX3_cellOf_3 : decode cX3_cellOf 3 = .ok (.bipush 24, 2) := by decide +kernel
theorem dX3_cellOf_5 : decode cX3_cellOf 5 = .ok (.if_icmp .ge 21, 3) := by decide +kernel
theorem dX3_cellOf_8 : decode cX3_cellOf 8 = .ok (.aload_n 0, 1) := by decide +kernel
theorem dX3_cellOf_9 : decode cX3_cellOf 9 = .ok (.getfield 9, 3) := by decide +kernel
theorem dX3_cellOf_12 : decode cX3_cellOf 12 = .ok (.iload_n 2, 1) := by decide +kernel
theorem dX3_cellOf_13 : decode cX3_cellOf 13 = .ok (.iaload, 1) := by decide +kernel
theorem dX3_cellOf_14 : decode cX3_cellOf 14 = .ok (.iload_n 1, 1) := by decide +kernel
theorem dX3_cellOf_15 : decode cX3_cellOf 15 = .ok (.if_icmp .ne 5, 3) := by decide +kernel
theorem dX3_cellOf_18 : decode cX3_cellOf 18 = .ok (.iload_n 2, 1) := by decide +kernel
theorem dX3_cellOf_19 : decode cX3_cellOf 19 = .ok (.ireturn, 1) := by decide +kernel
theorem dX3_cellOf_20 : decode cX3_cellOf 20 = .ok (.iinc 2 1, 3) := by decide +kernel
theorem dX3_cellOf_23 : decode cX3_cellOf 23 = .ok (.goto (-21), 3) := by decide +kernel
theorem dX3_cellOf_26 : decode cX3_cellOf 26 = .ok (.bipush (-5), 2) := by decide +kernel
theorem dX3_cellOf_28 : decode cX3_cellOf 28 = .ok (.ireturn, 1) := by decide +kernel
theorem dX3_hasMark_0 : decode cX3_hasMark 0 = .ok (.aload_n 0, 1) := by decide +kernel
theorem dX3_hasMark_1 : decode cX3_hasMark 1 = .ok (.getfield 18, 3) := by decide +kernel
theorem dX3_hasMark_4 : decode cX3_hasMark 4 = .ok (.iload_n 1, 1) := by decide +kernel
theorem dX3_hasMark_5 : decode cX3_hasMark 5 = .ok (.invokestatic 56, 3) := by decide +kernel
theorem dX3_hasMark_8 : decode cX3_hasMark 8 = .ok (.iload_n 2, 1) := by decide +kernel
theorem dX3_hasMark_9 : decode cX3_hasMark 9 = .ok (.ishr, 1) := by decide +kernel
theorem dX3_hasMark_10 : decode cX3_hasMark 10 = .ok (.iconst 1, 1) := by decide +kernel
theorem dX3_hasMark_11 : decode cX3_hasMark 11 = .ok (.iand, 1) := by decide +kernel
theorem dX3_hasMark_12 : decode cX3_hasMark 12 = .ok (.iconst 1, 1) := by decide +kernel
theorem dX3_hasMark_13 : decode cX3_hasMark 13 = .ok (.if_icmp .ne 7, 3) := by decide +kernel
theorem dX3_hasMark_16 : decode cX3_hasMark 16 = .ok (.iconst 1, 1) := by decide +kernel
theorem dX3_hasMark_17 : decode cX3_hasMark 17 = .ok (.goto 4, 3) := by decide +kernel
theorem dX3_hasMark_20 : decode cX3_hasMark 20 = .ok (.iconst 0, 1) := by decide +kernel
theorem dX3_hasMark_21 : decode cX3_hasMark 21 = .ok (.ireturn, 1) := by decide +kernel
theorem dX3_setMark_0 : decode cX3_setMark 0 = .ok (.aload_n 0, 1) := by decide +kernel
theorem dX3_setMark_1 : decode cX3_setMark 1 = .ok (.getfield 18, 3) := by decide +kernel
theorem dX3_setMark_4 : decode cX3_setMark 4 = .ok (.iload_n 1, 1) := by decide +kernel
theorem dX3_setMark_5 : decode cX3_setMark 5 = .ok (.invokestatic 56, 3) := by decide +kernel
theorem dX3_setMark_8 : decode cX3_setMark 8 = .ok (.iconst 1, 1) := by decide +kernel
theorem dX3_setMark_9 : decode cX3_setMark 9 = .ok (.iload_n 2, 1) := by decide +kernel
theorem dX3_setMark_10 : decode cX3_setMark 10 = .ok (.ishl, 1) := by decide +kernel
theorem dX3_setMark_11 : decode cX3_setMark 11 = .ok (.iconst (-1), 1) := by decide +kernel
theorem dX3_setMark_12 : decode cX3_setMark 12 = .ok (.ixor, 1) := by decide +kernel
theorem dX3_setMark_13 : decode cX3_setMark 13 = .ok (.iand, 1) := by decide +kernel
theorem dX3_setMark_14 : decode cX3_setMark 14 = .ok (.istore 4, 2) := by decide +kernel
theorem dX3_setMark_16 : decode cX3_setMark 16 = .ok (.aload_n 0, 1) := by decide +kernel
theorem dX3_setMark_17 : decode cX3_setMark 17 = .ok (.getfield 18, 3) := by decide +kernel
theorem dX3_setMark_20 : decode cX3_setMark 20 = .ok (.iload_n 1, 1) := by decide +kernel
theorem dX3_setMark_21 : decode cX3_setMark 21 = .ok (.iload_n 3, 1) := by decide +kernel
theorem dX3_setMark_22 : decode cX3_setMark 22 = .ok (.ifCond .eq 12, 3) := by decide +kernel
theorem dX3_setMark_25 : decode cX3_setMark 25 = .ok (.iload 4, 2) := by decide +kernel
theorem dX3_setMark_27 : decode cX3_setMark 27 = .ok (.iconst 1, 1) := by decide +kernel
theorem dX3_setMark_28 : decode cX3_setMark 28 = .ok (.iload_n 2, 1) := by decide +kernel
theorem dX3_setMark_29 : decode cX3_setMark 29 = .ok (.ishl, 1) := by decide +kernel
theorem dX3_setMark_30 : decode cX3_setMark 30 = .ok (.ior, 1) := by decide +kernel
theorem dX3_setMark_31 : decode cX3_setMark 31 = .ok (.goto 5, 3) := by decide +kernel
theorem dX3_setMark_34 : decode cX3_setMark 34 = .ok (.iload 4, 2) := by decide +kernel
theorem dX3_setMark_36 : decode cX3_setMark 36 = .ok (.invokestatic 68, 3) := by decide +kernel
theorem dX3_setMark_39 : decode cX3_setMark 39 = .ok (.return_, 1) := by decide +kernel
theorem dX3_marksOnBacks_0 : decode cX3_marksOnBacks 0 = .ok (.iconst 0, 1) := by decide +kernel
theorem dX3_marksOnBacks_1 : decode cX3_marksOnBacks 1 = .ok (.istore_n 1, 1) := by decide +kernel
theorem dX3_marksOnBacks_2 : decode cX3_marksOnBacks 2 = .ok (.iconst 0, 1) := by decide +kernel
theorem dX3_marksOnBacks_3 : decode cX3_marksOnBacks 3 = .ok (.istore_n 2, 1) := by decide +kernel
theorem dX3_marksOnBacks_4 : decode cX3_marksOnBacks 4 = .ok (.iload_n 2, 1) := by decide +kernel
theorem dX3_marksOnBacks_5 : decode cX3_marksOnBacks 5 = .ok (.bipush 24, 2) := by decide +kernel
theorem dX3_marksOnBacks_7 : decode cX3_marksOnBacks 7 = .ok (.if_icmp .ge 21, 3) := by decide +kernel
theorem dX3_marksOnBacks_10 : decode cX3_marksOnBacks 10 = .ok (.iload_n 1, 1) := by decide +kernel
theorem dX3_marksOnBacks_11 : decode cX3_marksOnBacks 11 = .ok (.aload_n 0, 1) := by decide +kernel
theorem dX3_marksOnBacks_12 : decode cX3_marksOnBacks 12 = .ok (.getfield 18, 3) := by decide +kernel
theorem dX3_marksOnBacks_15 : decode cX3_marksOnBacks 15 = .ok (.iload_n 2, 1) := by decide +kernel
theorem dX3_marksOnBacks_16 : decode cX3_marksOnBacks 16 = .ok (.iaload, 1) := by decide +kernel
theorem dX3_marksOnBacks_17 : decode cX3_marksOnBacks 17 = .ok (.invokestatic 72, 3) := by decide +kernel
theorem dX3_marksOnBacks_20 : decode cX3_marksOnBacks 20 = .ok (.iadd, 1) := by decide +kernel
theorem dX3_marksOnBacks_21 : decode cX3_marksOnBacks 21 = .ok (.istore_n 1, 1) := by decide +kernel
theorem dX3_marksOnBacks_22 : decode cX3_marksOnBacks 22 = .ok (.iinc 2 1, 3) := by decide +kernel
theorem dX3_marksOnBacks_25 : decode cX3_marksOnBacks 25 = .ok (.goto (-21), 3) := by decide +kernel
theorem dX3_marksOnBacks_28 : decode cX3_marksOnBacks 28 = .ok (.iload_n 1, 1) := by decide +kernel
theorem dX3_marksOnBacks_29 : decode cX3_marksOnBacks 29 = .ok (.ireturn, 1) := by decide +kernel
theorem dX3_sheetAt_0 : decode cX3_sheetAt 0 = .ok (.iload_n 1, 1) := by decide +kernel
theorem dX3_sheetAt_1 : decode cX3_sheetAt 1 = .ok (.ifCond .lt 20, 3) := by decide +kernel
theorem dX3_sheetAt_4 : decode cX3_sheetAt 4 = .ok (.iload_n 1, 1) := by decide +kernel
theorem dX3_sheetAt_5 : decode cX3_sheetAt 5 = .ok (.aload_n 0, 1) := by decide +kernel
theorem dX3_sheetAt_6 : decode cX3_sheetAt 6 = .ok (.getfield 37, 3) := by decide +kernel
theorem dX3_sheetAt_9 : decode cX3_sheetAt 9 = .ok (.if_icmp .ge 12, 3) := by decide +kernel
theorem dX3_sheetAt_12 : decode cX3_sheetAt 12 = .ok (.aload_n 0, 1) := by decide +kernel
theorem dX3_sheetAt_13 : decode cX3_sheetAt 13 = .ok (.getfield 37, 3) := by decide +kernel
theorem dX3_sheetAt_16 : decode cX3_sheetAt 16 = .ok (.bipush 6, 2) := by decide +kernel
theorem dX3_sheetAt_18 : decode cX3_sheetAt 18 = .ok (.if_icmp .le 5, 3) := by decide +kernel
theorem dX3_sheetAt_21 : decode cX3_sheetAt 21 = .ok (.aconst_null, 1) := by decide +kernel
theorem dX3_sheetAt_22 : decode cX3_sheetAt 22 = .ok (.areturn, 1) := by decide +kernel
theorem dX3_sheetAt_23 : decode cX3_sheetAt 23 = .ok (.aload_n 0, 1) := by decide +kernel
theorem dX3_sheetAt_24 : decode cX3_sheetAt 24 = .ok (.getfield 26, 3) := by decide +kernel
theorem dX3_sheetAt_27 : decode cX3_sheetAt 27 = .ok (.aload_n 0, 1) := by decide +kernel
theorem dX3_sheetAt_28 : decode cX3_sheetAt 28 = .ok (.getfield 37, 3) := by decide +kernel
theorem dX3_sheetAt_31 : decode cX3_sheetAt 31 = .ok (.iconst 1, 1) := by decide +kernel
theorem dX3_sheetAt_32 : decode cX3_sheetAt 32 = .ok (.isub, 1) := by decide +kernel
theorem dX3_sheetAt_33 : decode cX3_sheetAt 33 = .ok (.iload_n 1, 1) := by decide +kernel
theorem dX3_sheetAt_34 : decode cX3_sheetAt 34 = .ok (.isub, 1) := by decide +kernel
theorem dX3_sheetAt_35 : decode cX3_sheetAt 35 = .ok (.aaload, 1) := by decide +kernel
theorem dX3_sheetAt_36 : decode cX3_sheetAt 36 = .ok (.areturn, 1) := by decide +kernel
theorem dX3_printSheet_0 : decode cX3_printSheet 0 = .ok (.aload_n 0, 1) := by decide +kernel
theorem dX3_printSheet_1 : decode cX3_printSheet 1 = .ok (.getfield 37, 3) := by decide +kernel
theorem dX3_printSheet_4 : decode cX3_printSheet 4 = .ok (.ifCond .lt 12, 3) := by decide +kernel
theorem dX3_printSheet_7 : decode cX3_printSheet 7 = .ok (.aload_n 0, 1) := by decide +kernel
theorem dX3_printSheet_8 : decode cX3_printSheet 8 = .ok (.getfield 37, 3) := by decide +kernel
theorem dX3_printSheet_11 : decode cX3_printSheet 11 = .ok (.bipush 6, 2) := by decide +kernel
theorem dX3_printSheet_13 : decode cX3_printSheet 13 = .ok (.if_icmp .lt 4, 3) := by decide +kernel
theorem dX3_printSheet_16 : decode cX3_printSheet 16 = .ok (.return_, 1) := by decide +kernel
theorem dX3_printSheet_17 : decode cX3_printSheet 17 = .ok (.aload_n 0, 1) := by decide +kernel
theorem dX3_printSheet_18 : decode cX3_printSheet 18 = .ok (.getfield 26, 3) := by decide +kernel
theorem dX3_printSheet_21 : decode cX3_printSheet 21 = .ok (.aload_n 0, 1) := by decide +kernel
theorem dX3_printSheet_22 : decode cX3_printSheet 22 = .ok (.getfield 37, 3) := by decide +kernel
theorem dX3_printSheet_25 : decode cX3_printSheet 25 = .ok (.new 24, 3) := by decide +kernel
theorem dX3_printSheet_28 : decode cX3_printSheet 28 = .ok (.dup, 1) := by decide +kernel
theorem dX3_printSheet_29 : decode cX3_printSheet 29 = .ok (.aload_n 0, 1) := by decide +kernel
theorem dX3_printSheet_30 : decode cX3_printSheet 30 = .ok (.getfield 9, 3) := by decide +kernel
theorem dX3_printSheet_33 : decode cX3_printSheet 33 = .ok (.aload_n 0, 1) := by decide +kernel
theorem dX3_printSheet_34 : decode cX3_printSheet 34 = .ok (.getfield 15, 3) := by decide +kernel
theorem dX3_printSheet_37 : decode cX3_printSheet 37 = .ok (.aload_n 0, 1) := by decide +kernel
theorem dX3_printSheet_38 : decode cX3_printSheet 38 = .ok (.getfield 18, 3) := by decide +kernel
theorem dX3_printSheet_41 : decode cX3_printSheet 41 = .ok (.iload_n 1, 1) := by decide +kernel
theorem dX3_printSheet_42 : decode cX3_printSheet 42 = .ok (.invokespecial 78, 3) := by decide +kernel
theorem dX3_printSheet_45 : decode cX3_printSheet 45 = .ok (.aastore, 1) := by decide +kernel
theorem dX3_printSheet_46 : decode cX3_printSheet 46 = .ok (.aload_n 0, 1) := by decide +kernel
theorem dX3_printSheet_47 : decode cX3_printSheet 47 = .ok (.dup, 1) := by decide +kernel
theorem dX3_printSheet_48 : decode cX3_printSheet 48 = .ok (.getfield 37, 3) := by decide +kernel
theorem dX3_printSheet_51 : decode cX3_printSheet 51 = .ok (.iconst 1, 1) := by decide +kernel
theorem dX3_printSheet_52 : decode cX3_printSheet 52 = .ok (.iadd, 1) := by decide +kernel
theorem dX3_printSheet_53 : decode cX3_printSheet 53 = .ok (.putfield 37, 3) := by decide +kernel
theorem dX3_printSheet_56 : decode cX3_printSheet 56 = .ok (.aload_n 0, 1) := by decide +kernel
theorem dX3_printSheet_57 : decode cX3_printSheet 57 = .ok (.dup, 1) := by decide +kernel
theorem dX3_printSheet_58 : decode cX3_printSheet 58 = .ok (.getfield 41, 3) := by decide +kernel
theorem dX3_printSheet_61 : decode cX3_printSheet 61 = .ok (.iconst 1, 1) := by decide +kernel
theorem dX3_printSheet_62 : decode cX3_printSheet 62 = .ok (.iadd, 1) := by decide +kernel
theorem dX3_printSheet_63 : decode cX3_printSheet 63 = .ok (.putfield 41, 3) := by decide +kernel
theorem dX3_printSheet_66 : decode cX3_printSheet 66 = .ok (.aload_n 0, 1) := by decide +kernel
theorem dX3_printSheet_67 : decode cX3_printSheet 67 = .ok (.invokevirtual 81, 3) := by decide +kernel
theorem dX3_printSheet_70 : decode cX3_printSheet 70 = .ok (.return_, 1) := by decide +kernel
theorem dX3_wear_0 : decode cX3_wear 0 = .ok (.aload_n 0, 1) := by decide +kernel
theorem dX3_wear_1 : decode cX3_wear 1 = .ok (.getfield 21, 3) := by decide +kernel
theorem dX3_wear_4 : decode cX3_wear 4 = .ok (.iconst 0, 1) := by decide +kernel
theorem dX3_wear_5 : decode cX3_wear 5 = .ok (.invokestatic 56, 3) := by decide +kernel
theorem dX3_wear_8 : decode cX3_wear 8 = .ok (.istore_n 1, 1) := by decide +kernel
theorem dX3_wear_9 : decode cX3_wear 9 = .ok (.iload_n 1, 1) := by decide +kernel
theorem dX3_wear_10 : decode cX3_wear 10 = .ok (.ifCond .le 32, 3) := by decide +kernel
theorem dX3_wear_13 : decode cX3_wear 13 = .ok (.aload_n 0, 1) := by decide +kernel
theorem dX3_wear_14 : decode cX3_wear 14 = .ok (.getfield 41, 3) := by decide +kernel
theorem dX3_wear_17 : decode cX3_wear 17 = .ok (.iload_n 1, 1) := by decide +kernel
theorem dX3_wear_18 : decode cX3_wear 18 = .ok (.irem, 1) := by decide +kernel
theorem dX3_wear_19 : decode cX3_wear 19 = .ok (.ifCond .ne 23, 3) := by decide +kernel
theorem dX3_wear_22 : decode cX3_wear 22 = .ok (.aload_n 0, 1) := by decide +kernel
theorem dX3_wear_23 : decode cX3_wear 23 = .ok (.aload_n 0, 1) := by decide +kernel
theorem dX3_wear_24 : decode cX3_wear 24 = .ok (.getfield 41, 3) := by decide +kernel
theorem dX3_wear_27 : decode cX3_wear 27 = .ok (.bipush 24, 2) := by decide +kernel
theorem dX3_wear_29 : decode cX3_wear 29 = .ok (.irem, 1) := by decide +kernel
theorem dX3_wear_30 : decode cX3_wear 30 = .ok (.aload_n 0, 1) := by decide +kernel
theorem dX3_wear_31 : decode cX3_wear 31 = .ok (.getfield 41, 3) := by decide +kernel
theorem dX3_wear_34 : decode cX3_wear 34 = .ok (.iload_n 1, 1) := by decide +kernel
theorem dX3_wear_35 : decode cX3_wear 35 = .ok (.idiv, 1) := by decide +kernel
theorem dX3_wear_36 : decode cX3_wear 36 = .ok (.iconst 4, 1) := by decide +kernel
theorem dX3_wear_37 : decode cX3_wear 37 = .ok (.irem, 1) := by decide +kernel
theorem dX3_wear_38 : decode cX3_wear 38 = .ok (.iconst 1, 1) := by decide +kernel
theorem dX3_wear_39 : decode cX3_wear 39 = .ok (.invokevirtual 84, 3) := by decide +kernel
theorem dX3_wear_42 : decode cX3_wear 42 = .ok (.return_, 1) := by decide +kernel
theorem dX3_takeTopSheet_0 : decode cX3_takeTopSheet 0 = .ok (.aload_n 0, 1) := by decide +kernel
theorem dX3_takeTopSheet_1 : decode cX3_takeTopSheet 1 = .ok (.iconst 0, 1) := by decide +kernel
theorem dX3_takeTopSheet_2 : decode cX3_takeTopSheet 2 = .ok (.invokevirtual 88, 3) := by decide +kernel
theorem dX3_takeTopSheet_5 : decode cX3_takeTopSheet 5 = .ok (.astore_n 1, 1) := by decide +kernel
theorem dX3_takeTopSheet_6 : decode cX3_takeTopSheet 6 = .ok (.aload_n 1, 1) := by decide +kernel
theorem dX3_takeTopSheet_7 : decode cX3_takeTopSheet 7 = .ok (.ifnull 23, 3) := by decide +kernel
theorem dX3_takeTopSheet_10 : decode cX3_takeTopSheet 10 = .ok (.aload_n 0, 1) := by decide +kernel
theorem dX3_takeTopSheet_11 : decode cX3_takeTopSheet 11 = .ok (.dup, 1) := by decide +kernel
theorem dX3_takeTopSheet_12 : decode cX3_takeTopSheet 12 = .ok (.getfield 37, 3) := by decide +kernel
theorem dX3_takeTopSheet_15 : decode cX3_takeTopSheet 15 = .ok (.iconst 1, 1) := by decide +kernel
theorem dX3_takeTopSheet_16 : decode cX3_takeTopSheet 16 = .ok (.isub, 1) := by decide +kernel
theorem dX3_takeTopSheet_17 : decode cX3_takeTopSheet 17 = .ok (.putfield 37, 3) := by decide +kernel
theorem dX3_takeTopSheet_20 : decode cX3_takeTopSheet 20 = .ok (.aload_n 0, 1) := by decide +kernel
theorem dX3_takeTopSheet_21 : decode cX3_takeTopSheet 21 = .ok (.getfield 26, 3) := by decide +kernel
theorem dX3_takeTopSheet_24 : decode cX3_takeTopSheet 24 = .ok (.aload_n 0, 1) := by decide +kernel
theorem dX3_takeTopSheet_25 : decode cX3_takeTopSheet 25 = .ok (.getfield 37, 3) := by decide +kernel
theorem dX3_takeTopSheet_28 : decode cX3_takeTopSheet 28 = .ok (.aconst_null, 1) := by decide +kernel
theorem dX3_takeTopSheet_29 : decode cX3_takeTopSheet 29 = .ok (.aastore, 1) := by decide +kernel
theorem dX3_takeTopSheet_30 : decode cX3_takeTopSheet 30 = .ok (.aload_n 1, 1) := by decide +kernel
theorem dX3_takeTopSheet_31 : decode cX3_takeTopSheet 31 = .ok (.areturn, 1) := by decide +kernel
theorem dX3_reasonAgainstSale_0 : decode cX3_reasonAgainstSale 0 = .ok (.aload_n 0, 1) := by decide +kernel
theorem dX3_reasonAgainstSale_1 : decode cX3_reasonAgainstSale 1 = .ok (.getfield 33, 3) := by decide +kernel
theorem dX3_reasonAgainstSale_4 : decode cX3_reasonAgainstSale 4 = .ok (.getfield 92, 3) := by decide +kernel
theorem dX3_reasonAgainstSale_7 : decode cX3_reasonAgainstSale 7 = .ok (.astore_n 1, 1) := by decide +kernel
theorem dX3_reasonAgainstSale_8 : decode cX3_reasonAgainstSale 8 = .ok (.aload_n 0, 1) := by decide +kernel
theorem dX3_reasonAgainstSale_9 : decode cX3_reasonAgainstSale 9 = .ok (.getfield 33, 3) := by decide +kernel
theorem dX3_reasonAgainstSale_12 : decode cX3_reasonAgainstSale 12 = .ok (.getfield 96, 3) := by decide +kernel
theorem dX3_reasonAgainstSale_15 : decode cX3_reasonAgainstSale 15 = .ok (.ifCond .le 5, 3) := by decide +kernel
theorem dX3_reasonAgainstSale_18 : decode cX3_reasonAgainstSale 18 = .ok (.iconst 1, 1) := by decide +kernel
theorem dX3_reasonAgainstSale_19 : decode cX3_reasonAgainstSale 19 = .ok (.ireturn, 1) := by decide +kernel
theorem dX3_reasonAgainstSale_20 : decode cX3_reasonAgainstSale 20 = .ok (.aload_n 1, 1) := by decide +kernel
theorem dX3_reasonAgainstSale_21 : decode cX3_reasonAgainstSale 21 = .ok (.ifnull 23, 3) := by decide +kernel
theorem dX3_reasonAgainstSale_24 : decode cX3_reasonAgainstSale 24 = .ok (.aload_n 1, 1) := by decide +kernel
theorem dX3_reasonAgainstSale_25 : decode cX3_reasonAgainstSale 25 = .ok (.getfield 99, 3) := by decide +kernel
theorem dX3_reasonAgainstSale_28 : decode cX3_reasonAgainstSale 28 = .ok (.aload_n 0, 1) := by decide +kernel
theorem dX3_reasonAgainstSale_29 : decode cX3_reasonAgainstSale 29 = .ok (.getfield 21, 3) := by decide +kernel
theorem dX3_reasonAgainstSale_32 : decode cX3_reasonAgainstSale 32 = .ok (.iconst 1, 1) := by decide +kernel
theorem dX3_reasonAgainstSale_33 : decode cX3_reasonAgainstSale 33 = .ok (.invokestatic 56, 3) := by decide +kernel
theorem dX3_reasonAgainstSale_36 : decode cX3_reasonAgainstSale 36 = .ok (.invokestatic 100, 3) := by decide +kernel
theorem dX3_reasonAgainstSale_39 : decode cX3_reasonAgainstSale 39 = .ok (.ifCond .le 5, 3) := by decide +kernel
theorem dX3_reasonAgainstSale_42 : decode cX3_reasonAgainstSale 42 = .ok (.iconst 2, 1) := by decide +kernel
theorem dX3_reasonAgainstSale_43 : decode cX3_reasonAgainstSale 43 = .ok (.ireturn, 1) := by decide +kernel
theorem dX3_reasonAgainstSale_44 : decode cX3_reasonAgainstSale 44 = .ok (.aload_n 0, 1) := by decide +kernel
theorem dX3_reasonAgainstSale_45 : decode cX3_reasonAgainstSale 45 = .ok (.getfield 33, 3) := by decide +kernel
theorem dX3_reasonAgainstSale_48 : decode cX3_reasonAgainstSale 48 = .ok (.invokevirtual 103, 3) := by decide +kernel
theorem dX3_reasonAgainstSale_51 : decode cX3_reasonAgainstSale 51 = .ok (.aload_n 0, 1) := by decide +kernel
theorem dX3_reasonAgainstSale_52 : decode cX3_reasonAgainstSale 52 = .ok (.getfield 21, 3) := by decide +kernel
theorem dX3_reasonAgainstSale_55 : decode cX3_reasonAgainstSale 55 = .ok (.iconst 2, 1) := by decide +kernel
theorem dX3_reasonAgainstSale_56 : decode cX3_reasonAgainstSale 56 = .ok (.invokestatic 56, 3) := by decide +kernel
theorem dX3_reasonAgainstSale_59 : decode cX3_reasonAgainstSale 59 = .ok (.if_icmp .le 7, 3) := by decide +kernel
theorem dX3_reasonAgainstSale_62 : decode cX3_reasonAgainstSale 62 = .ok (.iconst 3, 1) := by decide +kernel
theorem dX3_reasonAgainstSale_63 : decode cX3_reasonAgainstSale 63 = .ok (.goto 4, 3) := by decide +kernel
theorem dX3_reasonAgainstSale_66 : decode cX3_reasonAgainstSale 66 = .ok (.iconst 0, 1) := by decide +kernel
theorem dX3_reasonAgainstSale_67 : decode cX3_reasonAgainstSale 67 = .ok (.ireturn, 1) := by decide +kernel
theorem dX3_knownIfPrinted_0 : decode cX3_knownIfPrinted 0 = .ok (.iconst 0, 1) := by decide +kernel
theorem dX3_knownIfPrinted_1 : decode cX3_knownIfPrinted 1 = .ok (.istore_n 3, 1) := by decide +kernel
theorem dX3_knownIfPrinted_2 : decode cX3_knownIfPrinted 2 = .ok (.iconst 0, 1) := by decide +kernel
theorem dX3_knownIfPrinted_3 : decode cX3_knownIfPrinted 3 = .ok (.istore 4, 2) := by decide +kernel
theorem dX3_knownIfPrinted_5 : decode cX3_knownIfPrinted 5 = .ok (.iconst 0, 1) := by decide +kernel
theorem dX3_knownIfPrinted_6 : decode cX3_knownIfPrinted 6 = .ok (.istore 5, 2) := by decide +kernel
theorem dX3_knownIfPrinted_8 : decode cX3_knownIfPrinted 8 = .ok (.iload 5, 2) := by decide +kernel
theorem dX3_knownIfPrinted_10 : decode cX3_knownIfPrinted 10 = .ok (.bipush 24, 2) := by decide +kernel
theorem dX3_knownIfPrinted_12 : decode cX3_knownIfPrinted 12 = .ok (.if_icmp .ge 64, 3) := by decide +kernel
theorem dX3_knownIfPrinted_15 : decode cX3_knownIfPrinted 15 = .ok (.iload_n 1, 1) := by decide +kernel
theorem dX3_knownIfPrinted_16 : decode cX3_knownIfPrinted 16 = .ok (.ifCond .eq 11, 3) := by decide +kernel
theorem dX3_knownIfPrinted_19 : decode cX3_knownIfPrinted 19 = .ok (.bipush 23, 2) := by decide +kernel
theorem dX3_knownIfPrinted_21 : decode cX3_knownIfPrinted 21 = .ok (.iload 5, 2) := by decide +kernel
theorem dX3_knownIfPrinted_23 : decode cX3_knownIfPrinted 23 = .ok (.isub, 1) := by decide +kernel
theorem dX3_knownIfPrinted_24 : decode cX3_knownIfPrinted 24 = .ok (.goto 5, 3) := by decide +kernel
theorem dX3_knownIfPrinted_27 : decode cX3_knownIfPrinted 27 = .ok (.iload 5, 2) := by decide +kernel
theorem dX3_knownIfPrinted_29 : decode cX3_knownIfPrinted 29 = .ok (.istore 6, 2) := by decide +kernel
theorem dX3_knownIfPrinted_31 : decode cX3_knownIfPrinted 31 = .ok (.iload 6, 2) := by decide +kernel
theorem dX3_knownIfPrinted_33 : decode cX3_knownIfPrinted 33 = .ok (.iload_n 2, 1) := by decide +kernel
theorem dX3_knownIfPrinted_34 : decode cX3_knownIfPrinted 34 = .ok (.if_icmp .ne 7, 3) := by decide +kernel
theorem dX3_knownIfPrinted_37 : decode cX3_knownIfPrinted 37 = .ok (.iconst 0, 1) := by decide +kernel
theorem dX3_knownIfPrinted_38 : decode cX3_knownIfPrinted 38 = .ok (.goto 12, 3) := by decide +kernel
theorem dX3_knownIfPrinted_41 : decode cX3_knownIfPrinted 41 = .ok (.aload_n 0, 1) := by decide +kernel
theorem dX3_knownIfPrinted_42 : decode cX3_knownIfPrinted 42 = .ok (.getfield 18, 3) := by decide +kernel
theorem dX3_knownIfPrinted_45 : decode cX3_knownIfPrinted 45 = .ok (.iload 6, 2) := by decide +kernel
theorem dX3_knownIfPrinted_47 : decode cX3_knownIfPrinted 47 = .ok (.invokestatic 56, 3) := by decide +kernel
theorem dX3_knownIfPrinted_50 : decode cX3_knownIfPrinted 50 = .ok (.istore 7, 2) := by decide +kernel
theorem dX3_knownIfPrinted_52 : decode cX3_knownIfPrinted 52 = .ok (.iload 4, 2) := by decide +kernel
theorem dX3_knownIfPrinted_54 : decode cX3_knownIfPrinted 54 = .ok (.iload_n 3, 1) := by decide +kernel
theorem dX3_knownIfPrinted_55 : decode cX3_knownIfPrinted 55 = .ok (.iconst 1, 1) := by decide +kernel
theorem dX3_knownIfPrinted_56 : decode cX3_knownIfPrinted 56 = .ok (.iload 7, 2) := by decide +kernel
theorem dX3_knownIfPrinted_58 : decode cX3_knownIfPrinted 58 = .ok (.ishl, 1) := by decide +kernel
theorem dX3_knownIfPrinted_59 : decode cX3_knownIfPrinted 59 = .ok (.iand, 1) := by decide +kernel
theorem dX3_knownIfPrinted_60 : decode cX3_knownIfPrinted 60 = .ok (.ior, 1) := by decide +kernel
theorem dX3_knownIfPrinted_61 : decode cX3_knownIfPrinted 61 = .ok (.istore 4, 2) := by decide +kernel
theorem dX3_knownIfPrinted_63 : decode cX3_knownIfPrinted 63 = .ok (.iload_n 3, 1) := by decide +kernel
theorem dX3_knownIfPrinted_64 : decode cX3_knownIfPrinted 64 = .ok (.iconst 1, 1) := by decide +kernel
theorem dX3_knownIfPrinted_65 : decode cX3_knownIfPrinted 65 = .ok (.iload 7, 2) := by decide +kernel
theorem dX3_knownIfPrinted_67 : decode cX3_knownIfPrinted 67 = .ok (.ishl, 1) := by decide +kernel
theorem dX3_knownIfPrinted_68 : decode cX3_knownIfPrinted 68 = .ok (.ior, 1) := by decide +kernel
theorem dX3_knownIfPrinted_69 : decode cX3_knownIfPrinted 69 = .ok (.istore_n 3, 1) := by decide +kernel
theorem dX3_knownIfPrinted_70 : decode cX3_knownIfPrinted 70 = .ok (.iinc 5 1, 3) := by decide +kernel
theorem dX3_knownIfPrinted_73 : decode cX3_knownIfPrinted 73 = .ok (.goto (-65), 3) := by decide +kernel
theorem dX3_knownIfPrinted_76 : decode cX3_knownIfPrinted 76 = .ok (.iload_n 3, 1) := by decide +kernel
theorem dX3_knownIfPrinted_77 : decode cX3_knownIfPrinted 77 = .ok (.iload 4, 2) := by decide +kernel
theorem dX3_knownIfPrinted_79 : decode cX3_knownIfPrinted 79 = .ok (.iconst (-1), 1) := by decide +kernel
theorem dX3_knownIfPrinted_80 : decode cX3_knownIfPrinted 80 = .ok (.ixor, 1) := by decide +kernel
theorem dX3_knownIfPrinted_81 : decode cX3_knownIfPrinted 81 = .ok (.iand, 1) := by decide +kernel
theorem dX3_knownIfPrinted_82 : decode cX3_knownIfPrinted 82 = .ok (.invokestatic 72, 3) := by decide +kernel
theorem dX3_knownIfPrinted_85 : decode cX3_knownIfPrinted 85 = .ok (.ireturn, 1) := by decide +kernel
theorem dX4_init_0 : decode cX4_init 0 = .ok (.aload_n 0, 1) := by decide +kernel
theorem dX4_init_1 : decode cX4_init 1 = .ok (.invokespecial 3, 3) := by decide +kernel
theorem dX4_init_4 : decode cX4_init 4 = .ok (.aload_n 0, 1) := by decide +kernel
theorem dX4_init_5 : decode cX4_init 5 = .ok (.bipush 60, 2) := by decide +kernel
theorem dX4_init_7 : decode cX4_init 7 = .ok (.newarray .char, 2) := by decide +kernel
theorem dX4_init_9 : decode cX4_init 9 = .ok (.putfield 9, 3) := by decide +kernel
theorem dX4_init_12 : decode cX4_init 12 = .ok (.aload_n 0, 1) := by decide +kernel
theorem dX4_init_13 : decode cX4_init 13 = .ok (.iconst 0, 1) := by decide +kernel
theorem dX4_init_14 : decode cX4_init 14 = .ok (.putfield 15, 3) := by decide +kernel
theorem dX4_init_17 : decode cX4_init 17 = .ok (.aload_n 0, 1) := by decide +kernel
theorem dX4_init_18 : decode cX4_init 18 = .ok (.iconst 0, 1) := by decide +kernel
theorem dX4_init_19 : decode cX4_init 19 = .ok (.putfield 19, 3) := by decide +kernel
theorem dX4_init_22 : decode cX4_init 22 = .ok (.aload_n 0, 1) := by decide +kernel
theorem dX4_init_23 : decode cX4_init 23 = .ok (.bipush 12, 2) := by decide +kernel
theorem dX4_init_25 : decode cX4_init 25 = .ok (.newarray .char, 2) := by decide +kernel
theorem dX4_init_27 : decode cX4_init 27 = .ok (.putfield 22, 3) := by decide +kernel
theorem dX4_init_30 : decode cX4_init 30 = .ok (.aload_n 0, 1) := by decide +kernel
theorem dX4_init_31 : decode cX4_init 31 = .ok (.bipush 12, 2) := by decide +kernel
theorem dX4_init_33 : decode cX4_init 33 = .ok (.newarray .int, 2) := by decide +kernel
theorem dX4_init_35 : decode cX4_init 35 = .ok (.putfield 25, 3) := by decide +kernel
theorem dX4_init_38 : decode cX4_init 38 = .ok (.aload_n 0, 1) := by decide +kernel
theorem dX4_init_39 : decode cX4_init 39 = .ok (.bipush 12, 2) := by decide +kernel
theorem dX4_init_41 : decode cX4_init 41 = .ok (.newarray .int, 2) := by decide +kernel
theorem dX4_init_43 : decode cX4_init 43 = .ok (.putfield 29, 3) := by decide +kernel
theorem dX4_init_46 : decode cX4_init 46 = .ok (.aload_n 0, 1) := by decide +kernel
theorem dX4_init_47 : decode cX4_init 47 = .ok (.iconst 0, 1) := by decide +kernel
theorem dX4_init_48 : decode cX4_init 48 = .ok (.putfield 32, 3) := by decide +kernel
theorem dX4_init_51 : decode cX4_init 51 = .ok (.return_, 1) := by decide +kernel
theorem dX4_append_0 : decode cX4_append 0 = .ok (.aload_n 0, 1) := by decide +kernel
theorem dX4_append_1 : decode cX4_append 1 = .ok (.getfield 15, 3) := by decide +kernel
theorem dX4_append_4 : decode cX4_append 4 = .ok (.ifCond .lt 32, 3) := by decide +kernel
theorem dX4_append_7 : decode cX4_append 7 = .ok (.aload_n 0, 1) := by decide +kernel
theorem dX4_append_8 : decode cX4_append 8 = .ok (.getfield 15, 3) := by decide +kernel
theorem dX4_append_11 : decode cX4_append 11 = .ok (.bipush 60, 2) := by decide +kernel
theorem dX4_append_13 : decode cX4_append 13 = .ok (.if_icmp .ge 23, 3) := by decide +kernel
theorem dX4_append_16 : decode cX4_append 16 = .ok (.aload_n 0, 1) := by decide +kernel
theorem dX4_append_17 : decode cX4_append 17 = .ok (.getfield 9, 3) := by decide +kernel
theorem dX4_append_20 : decode cX4_append 20 = .ok (.aload_n 0, 1) := by decide +kernel
theorem dX4_append_21 : decode cX4_append 21 = .ok (.getfield 15, 3) := by decide +kernel
theorem dX4_append_24 : decode cX4_append 24 = .ok (.iload_n 1, 1) := by decide +kernel
theorem dX4_append_25 : decode cX4_append 25 = .ok (.castore, 1) := by decide +kernel
theorem dX4_append_26 : decode cX4_append 26 = .ok (.aload_n 0, 1) := by decide +kernel
theorem dX4_append_27 : decode cX4_append 27 = .ok (.dup, 1) := by decide +kernel
theorem dX4_append_28 : decode cX4_append 28 = .ok (.getfield 15, 3) := by decide +kernel
theorem dX4_append_31 : decode cX4_append 31 = .ok (.iconst 1, 1) := by decide +kernel
theorem dX4_append_32 : decode cX4_append 32 = .ok (.iadd, 1) := by decide +kernel
theorem dX4_append_33 : decode cX4_append 33 = .ok (.putfield 15, 3) := by decide +kernel
theorem dX4_append_36 : decode cX4_append 36 = .ok (.return_, 1) := by decide +kernel
theorem dX4_kindOf_0 : decode cX4_kindOf 0 = .ok (.iload_n 1, 1) := by decide +kernel
theorem dX4_kindOf_1 : decode cX4_kindOf 1 = .ok (.ifCond .lt 18, 3) := by decide +kernel
theorem dX4_kindOf_4 : decode cX4_kindOf 4 = .ok (.iload_n 1, 1) := by decide +kernel
theorem dX4_kindOf_5 : decode cX4_kindOf 5 = .ok (.bipush 12, 2) := by decide +kernel
theorem dX4_kindOf_7 : decode cX4_kindOf 7 = .ok (.if_icmp .ge 12, 3) := by decide +kernel
theorem dX4_kindOf_10 : decode cX4_kindOf 10 = .ok (.aload_n 0, 1) := by decide +kernel
theorem dX4_kindOf_11 : decode cX4_kindOf 11 = .ok (.getfield 22, 3) := by decide +kernel
theorem dX4_kindOf_14 : decode cX4_kindOf 14 = .ok (.iload_n 1, 1) := by decide +kernel
theorem dX4_kindOf_15 : decode cX4_kindOf 15 = .ok (.caload, 1) := by decide +kernel
theorem dX4_kindOf_16 : decode cX4_kindOf 16 = .ok (.goto 4, 3) := by decide +kernel
theorem dX4_kindOf_19 : decode cX4_kindOf 19 = .ok (.iconst 0, 1) := by decide +kernel
theorem dX4_kindOf_20 : decode cX4_kindOf 20 = .ok (.ireturn, 1) := by decide +kernel
theorem dX4_findFault_0 : decode cX4_findFault 0 = .ok (.aload_n 0, 1) := by decide +kernel
theorem dX4_findFault_1 : decode cX4_findFault 1 = .ok (.iconst 0, 1) := by decide +kernel
theorem dX4_findFault_2 : decode cX4_findFault 2 = .ok (.putfield 19, 3) := by decide +kernel
theorem dX4_findFault_5 : decode cX4_findFault 5 = .ok (.aload_n 0, 1) := by decide +kernel
theorem dX4_findFault_6 : decode cX4_findFault 6 = .ok (.iconst 0, 1) := by decide +kernel
theorem dX4_findFault_7 : decode cX4_findFault 7 = .ok (.putfield 32, 3) := by decide +kernel
theorem dX4_findFault_10 : decode cX4_findFault 10 = .ok (.iconst 0, 1) := by decide +kernel
theorem dX4_findFault_11 : decode cX4_findFault 11 = .ok (.istore_n 1, 1) := by decide +kernel
theorem dX4_findFault_12 : decode cX4_findFault 12 = .ok (.iload_n 1, 1) := by decide +kernel
theorem dX4_findFault_13 : decode cX4_findFault 13 = .ok (.bipush 60, 2) := by decide +kernel
theorem dX4_findFault_15 : decode cX4_findFault 15 = .ok (.if_icmp .ge 49, 3) := by decide +kernel
theorem dX4_findFault_18 : decode cX4_findFault 18 = .ok (.aload_n 0, 1) := by decide +kernel
theorem dX4_findFault_19 : decode cX4_findFault 19 = .ok (.invokevirtual 35, 3) := by decide +kernel
theorem dX4_findFault_22 : decode cX4_findFault 22 = .ok (.ifCond .ne 8, 3) := by decide +kernel
theorem dX4_findFault_25 : decode cX4_findFault 25 = .ok (.aload_n 0, 1) := by decide +kernel
theorem dX4_findFault_26 : decode cX4_findFault 26 = .ok (.getfield 19, 3) := by decide +kernel
theorem dX4_findFault_29 : decode cX4_findFault 29 = .ok (.ireturn, 1) := by decide +kernel
theorem dX4_findFault_30 : decode cX4_findFault 30 = .ok (.aload_n 0, 1) := by decide +kernel
theorem dX4_findFault_31 : decode cX4_findFault 31 = .ok (.getfield 19, 3) := by decide +kernel
theorem dX4_findFault_34 : decode cX4_findFault 34 = .ok (.aload_n 0, 1) := by decide +kernel
theorem dX4_findFault_35 : decode cX4_findFault 35 = .ok (.getfield 15, 3) := by decide +kernel
theorem dX4_findFault_38 : decode cX4_findFault 38 = .ok (.if_icmp .ne 6, 3) := by decide +kernel
theorem dX4_findFault_41 : decode cX4_findFault 41 = .ok (.bipush (-5), 2) := by decide +kernel
theorem dX4_findFault_43 : decode cX4_findFault 43 = .ok (.ireturn, 1) := by decide +kernel
theorem dX4_findFault_44 : decode cX4_findFault 44 = .ok (.aload_n 0, 1) := by decide +kernel
theorem dX4_findFault_45 : decode cX4_findFault 45 = .ok (.bipush 59, 2) := by decide +kernel
theorem dX4_findFault_47 : decode cX4_findFault 47 = .ok (.invokevirtual 39, 3) := by decide +kernel
theorem dX4_findFault_50 : decode cX4_findFault 50 = .ok (.ifCond .ne 8, 3) := by decide +kernel
theorem dX4_findFault_53 : decode cX4_findFault 53 = .ok (.aload_n 0, 1) := by decide +kernel
theorem dX4_findFault_54 : decode cX4_findFault 54 = .ok (.getfield 19, 3) := by decide +kernel
theorem dX4_findFault_57 : decode cX4_findFault 57 = .ok (.ireturn, 1) := by decide +kernel
theorem dX4_findFault_58 : decode cX4_findFault 58 = .ok (.iinc 1 1, 3) := by decide +kernel
theorem dX4_findFault_61 : decode cX4_findFault 61 = .ok (.goto (-49), 3) := by decide +kernel
theorem dX4_findFault_64 : decode cX4_findFault 64 = .ok (.aload_n 0, 1) := by decide +kernel
theorem dX4_findFault_65 : decode cX4_findFault 65 = .ok (.getfield 19, 3) := by decide +kernel
theorem dX4_findFault_68 : decode cX4_findFault 68 = .ok (.ireturn, 1) := by decide +kernel
theorem dX4_leansAnotherThanCourts_0 : decode cX4_leansAnotherThanCourts 0 = .ok (.iconst 0, 1) := by decide +kernel
theorem dX4_leansAnotherThanCourts_1 : decode cX4_leansAnotherThanCourts 1 = .ok (.istore_n 1, 1) := by decide +kernel
theorem dX4_leansAnotherThanCourts_2 : decode cX4_leansAnotherThanCourts 2 = .ok (.iload_n 1, 1) := by decide +kernel
theorem dX4_leansAnotherThanCourts_3 : decode cX4_leansAnotherThanCourts 3 = .ok (.aload_n 0, 1) := by decide +kernel
theorem dX4_leansAnotherThanCourts_4 : decode cX4_leansAnotherThanCourts 4 = .ok (.getfield 32, 3) := by decide +kernel
theorem dX4_leansAnotherThanCourts_7 : decode cX4_leansAnotherThanCourts 7 = .ok (.if_icmp .ge 35, 3) := by decide +kernel
theorem dX4_leansAnotherThanCourts_10 : decode cX4_leansAnotherThanCourts 10 = .ok (.aload_n 0, 1) := by decide +kernel
theorem dX4_leansAnotherThanCourts_11 : decode cX4_leansAnotherThanCourts 11 = .ok (.iload_n 1, 1) := by decide +kernel
theorem dX4_leansAnotherThanCourts_12 : decode cX4_leansAnotherThanCourts 12 = .ok (.invokevirtual 43, 3) := by decide +kernel
theorem dX4_leansAnotherThanCourts_15 : decode cX4_leansAnotherThanCourts 15 = .ok (.bipush 108, 2) := by decide +kernel
theorem dX4_leansAnotherThanCourts_17 : decode cX4_leansAnotherThanCourts 17 = .ok (.if_icmp .ne 19, 3) := by decide +kernel
theorem dX4_leansAnotherThanCourts_20 : decode cX4_leansAnotherThanCourts 20 = .ok (.aload_n 0, 1) := by decide +kernel
theorem dX4_leansAnotherThanCourts_21 : decode cX4_leansAnotherThanCourts 21 = .ok (.getfield 25, 3) := by decide +kernel
theorem dX4_leansAnotherThanCourts_24 : decode cX4_leansAnotherThanCourts 24 = .ok (.iload_n 1, 1) := by decide +kernel
theorem dX4_leansAnotherThanCourts_25 : decode cX4_leansAnotherThanCourts 25 = .ok (.invokestatic 47, 3) := by decide +kernel
theorem dX4_leansAnotherThanCourts_28 : decode cX4_leansAnotherThanCourts 28 = .ok (.invokestatic 51, 3) := by decide +kernel
theorem dX4_leansAnotherThanCourts_31 : decode cX4_leansAnotherThanCourts 31 = .ok (.ifCond .ne 5, 3) := by decide +kernel
theorem dX4_leansAnotherThanCourts_34 : decode cX4_leansAnotherThanCourts 34 = .ok (.iconst 1, 1) := by decide +kernel
theorem dX4_leansAnotherThanCourts_35 : decode cX4_leansAnotherThanCourts 35 = .ok (.ireturn, 1) := by decide +kernel
theorem dX4_leansAnotherThanCourts_36 : decode cX4_leansAnotherThanCourts 36 = .ok (.iinc 1 1, 3) := by decide +kernel
theorem dX4_leansAnotherThanCourts_39 : decode cX4_leansAnotherThanCourts 39 = .ok (.goto (-37), 3) := by decide +kernel
theorem dX4_leansAnotherThanCourts_42 : decode cX4_leansAnotherThanCourts 42 = .ok (.iconst 0, 1) := by decide +kernel
theorem dX4_leansAnotherThanCourts_43 : decode cX4_leansAnotherThanCourts 43 = .ok (.ireturn, 1) := by decide +kernel
theorem dX4_readChange_0 : decode cX4_readChange 0 = .ok (.aload_n 0, 1) := by decide +kernel
theorem dX4_readChange_1 : decode cX4_readChange 1 = .ok (.invokevirtual 55, 3) := by decide +kernel
theorem dX4_readChange_4 : decode cX4_readChange 4 = .ok (.istore_n 1, 1) := by decide +kernel
theorem dX4_readChange_5 : decode cX4_readChange 5 = .ok (.iload_n 1, 1) := by decide +kernel
theorem dX4_readChange_6 : decode cX4_readChange 6 = .ok (.bipush 115, 2) := by decide +kernel
theorem dX4_readChange_8 : decode cX4_readChange 8 = .ok (.if_icmp .eq 23, 3) := by decide +kernel
theorem dX4_readChange_11 : decode cX4_readChange 11 = .ok (.iload_n 1, 1) := by decide +kernel
theorem dX4_readChange_12 : decode cX4_readChange 12 = .ok (.bipush 109, 2) := by decide +kernel
theorem dX4_readChange_14 : decode cX4_readChange 14 = .ok (.if_icmp .eq 17, 3) := by decide +kernel
theorem dX4_readChange_17 : decode cX4_readChange 17 = .ok (.iload_n 1, 1) := by decide +kernel
theorem dX4_readChange_18 : decode cX4_readChange 18 = .ok (.bipush 117, 2) := by decide +kernel
theorem dX4_readChange_20 : decode cX4_readChange 20 = .ok (.if_icmp .eq 11, 3) := by decide +kernel
theorem dX4_readChange_23 : decode cX4_readChange 23 = .ok (.iload_n 1, 1) := by decide +kernel
theorem dX4_readChange_24 : decode cX4_readChange 24 = .ok (.bipush 108, 2) := by decide +kernel
theorem dX4_readChange_26 : decode cX4_readChange 26 = .ok (.if_icmp .eq 5, 3) := by decide +kernel
theorem dX4_readChange_29 : decode cX4_readChange 29 = .ok (.iconst 0, 1) := by decide +kernel
theorem dX4_readChange_30 : decode cX4_readChange 30 = .ok (.ireturn, 1) := by decide +kernel
theorem dX4_readChange_31 : decode cX4_readChange 31 = .ok (.aload_n 0, 1) := by decide +kernel
theorem dX4_readChange_32 : decode cX4_readChange 32 = .ok (.dup, 1) := by decide +kernel
theorem dX4_readChange_33 : decode cX4_readChange 33 = .ok (.getfield 19, 3) := by decide +kernel
theorem dX4_readChange_36 : decode cX4_readChange 36 = .ok (.iconst 1, 1) := by decide +kernel
theorem dX4_readChange_37 : decode cX4_readChange 37 = .ok (.iadd, 1) := by decide +kernel
theorem dX4_readChange_38 : decode cX4_readChange 38 = .ok (.putfield 19, 3) := by decide +kernel
theorem dX4_readChange_41 : decode cX4_readChange 41 = .ok (.aload_n 0, 1) := by decide +kernel
theorem dX4_readChange_42 : decode cX4_readChange 42 = .ok (.iconst 0, 1) := by decide +kernel
theorem dX4_readChange_43 : decode cX4_readChange 43 = .ok (.bipush 23, 2) := by decide +kernel
theorem dX4_readChange_45 : decode cX4_readChange 45 = .ok (.invokevirtual 59, 3) := by decide +kernel
theorem dX4_readChange_48 : decode cX4_readChange 48 = .ok (.istore_n 2, 1) := by decide +kernel
theorem dX4_readChange_49 : decode cX4_readChange 49 = .ok (.iload_n 2, 1) := by decide +kernel
theorem dX4_readChange_50 : decode cX4_readChange 50 = .ok (.bipush (-5), 2) := by decide +kernel
theorem dX4_readChange_52 : decode cX4_readChange 52 = .ok (.if_icmp .eq 23, 3) := by decide +kernel
theorem dX4_readChange_55 : decode cX4_readChange 55 = .ok (.aload_n 0, 1) := by decide +kernel
theorem dX4_readChange_56 : decode cX4_readChange 56 = .ok (.iload_n 1, 1) := by decide +kernel
theorem dX4_readChange_57 : decode cX4_readChange 57 = .ok (.bipush 115, 2) := by decide +kernel
theorem dX4_readChange_59 : decode cX4_readChange 59 = .ok (.if_icmp .ne 8, 3) := by decide +kernel
theorem dX4_readChange_62 : decode cX4_readChange 62 = .ok (.bipush 47, 2) := by decide +kernel
theorem dX4_readChange_64 : decode cX4_readChange 64 = .ok (.goto 5, 3) := by decide +kernel
theorem dX4_readChange_67 : decode cX4_readChange 67 = .ok (.bipush 61, 2) := by decide +kernel
theorem dX4_readChange_69 : decode cX4_readChange 69 = .ok (.invokevirtual 39, 3) := by decide +kernel
theorem dX4_readChange_72 : decode cX4_readChange 72 = .ok (.ifCond .ne 5, 3) := by decide +kernel
theorem dX4_readChange_75 : decode cX4_readChange 75 = .ok (.iconst 0, 1) := by decide +kernel
theorem dX4_readChange_76 : decode cX4_readChange 76 = .ok (.ireturn, 1) := by decide +kernel
theorem dX4_readChange_77 : decode cX4_readChange 77 = .ok (.iload_n 1, 1) := by decide +kernel
theorem dX4_readChange_78 : decode cX4_readChange 78 = .ok (.bipush 108, 2) := by decide +kernel
theorem dX4_readChange_80 : decode cX4_readChange 80 = .ok (.if_icmp .ne 16, 3) := by decide +kernel
theorem dX4_readChange_83 : decode cX4_readChange 83 = .ok (.aload_n 0, 1) := by decide +kernel
theorem dX4_readChange_84 : decode cX4_readChange 84 = .ok (.bipush 45, 2) := by decide +kernel
theorem dX4_readChange_86 : decode cX4_readChange 86 = .ok (.invokevirtual 39, 3) := by decide +kernel
theorem dX4_readChange_89 : decode cX4_readChange 89 = .ok (.ifCond .eq 7, 3) := by decide +kernel
theorem dX4_readChange_92 : decode cX4_readChange 92 = .ok (.iconst 1, 1) := by decide +kernel
theorem dX4_readChange_93 : decode cX4_readChange 93 = .ok (.goto 4, 3) := by decide +kernel
theorem dX4_readChange_96 : decode cX4_readChange 96 = .ok (.iconst 0, 1) := by decide +kernel
theorem dX4_readChange_97 : decode cX4_readChange 97 = .ok (.istore_n 3, 1) := by decide +kernel
theorem dX4_readChange_98 : decode cX4_readChange 98 = .ok (.aload_n 0, 1) := by decide +kernel
theorem dX4_readChange_99 : decode cX4_readChange 99 = .ok (.iload_n 3, 1) := by decide +kernel
theorem dX4_readChange_100 : decode cX4_readChange 100 = .ok (.ifCond .eq 7, 3) := by decide +kernel
theorem dX4_readChange_103 : decode cX4_readChange 103 = .ok (.iconst 1, 1) := by decide +kernel
theorem dX4_readChange_104 : decode cX4_readChange 104 = .ok (.goto 4, 3) := by decide +kernel
theorem dX4_readChange_107 : decode cX4_readChange 107 = .ok (.iconst 0, 1) := by decide +kernel
theorem dX4_readChange_108 : decode cX4_readChange 108 = .ok (.iload_n 1, 1) := by decide +kernel
theorem dX4_readChange_109 : decode cX4_readChange 109 = .ok (.invokestatic 63, 3) := by decide +kernel
theorem dX4_readChange_112 : decode cX4_readChange 112 = .ok (.invokevirtual 59, 3) := by decide +kernel
theorem dX4_readChange_115 : decode cX4_readChange 115 = .ok (.istore 4, 2) := by decide +kernel
theorem dX4_readChange_117 : decode cX4_readChange 117 = .ok (.iload 4, 2) := by decide +kernel
theorem dX4_readChange_119 : decode cX4_readChange 119 = .ok (.bipush (-5), 2) := by decide +kernel
theorem dX4_readChange_121 : decode cX4_readChange 121 = .ok (.if_icmp .ne 5, 3) := by decide +kernel
theorem dX4_readChange_124 : decode cX4_readChange 124 = .ok (.iconst 0, 1) := by decide +kernel
theorem dX4_readChange_125 : decode cX4_readChange 125 = .ok (.ireturn, 1) := by decide +kernel
theorem dX4_readChange_126 : decode cX4_readChange 126 = .ok (.aload_n 0, 1) := by decide +kernel
theorem dX4_readChange_127 : decode cX4_readChange 127 = .ok (.iload_n 1, 1) := by decide +kernel
theorem dX4_readChange_128 : decode cX4_readChange 128 = .ok (.iload_n 2, 1) := by decide +kernel
theorem dX4_readChange_129 : decode cX4_readChange 129 = .ok (.iload_n 3, 1) := by decide +kernel
theorem dX4_readChange_130 : decode cX4_readChange 130 = .ok (.ifCond .eq 9, 3) := by decide +kernel
theorem dX4_readChange_133 : decode cX4_readChange 133 = .ok (.iload 4, 2) := by decide +kernel
theorem dX4_readChange_135 : decode cX4_readChange 135 = .ok (.ineg, 1) := by decide +kernel
theorem dX4_readChange_136 : decode cX4_readChange 136 = .ok (.goto 5, 3) := by decide +kernel
theorem dX4_readChange_139 : decode cX4_readChange 139 = .ok (.iload 4, 2) := by decide +kernel
theorem dX4_readChange_141 : decode cX4_readChange 141 = .ok (.invokevirtual 67, 3) := by decide +kernel
theorem dX4_readChange_144 : decode cX4_readChange 144 = .ok (.iconst 1, 1) := by decide +kernel
theorem dX4_readChange_145 : decode cX4_readChange 145 = .ok (.ireturn, 1) := by decide +kernel
theorem dX4_mostBehind_0 : decode cX4_mostBehind 0 = .ok (.iload_n 0, 1) := by decide +kernel
theorem dX4_mostBehind_1 : decode cX4_mostBehind 1 = .ok (.bipush 115, 2) := by decide +kernel
theorem dX4_mostBehind_3 : decode cX4_mostBehind 3 = .ok (.if_icmp .ne 6, 3) := by decide +kernel
theorem dX4_mostBehind_6 : decode cX4_mostBehind 6 = .ok (.bipush 23, 2) := by decide +kernel
theorem dX4_mostBehind_8 : decode cX4_mostBehind 8 = .ok (.ireturn, 1) := by decide +kernel
theorem dX4_mostBehind_9 : decode cX4_mostBehind 9 = .ok (.iload_n 0, 1) := by decide +kernel
theorem dX4_mostBehind_10 : decode cX4_mostBehind 10 = .ok (.bipush 108, 2) := by decide +kernel
theorem dX4_mostBehind_12 : decode cX4_mostBehind 12 = .ok (.if_icmp .ne 8, 3) := by decide +kernel
theorem dX4_mostBehind_15 : decode cX4_mostBehind 15 = .ok (.bipush 9, 2) := by decide +kernel
theorem dX4_mostBehind_17 : decode cX4_mostBehind 17 = .ok (.goto 4, 3) := by decide +kernel
theorem dX4_mostBehind_20 : decode cX4_mostBehind 20 = .ok (.iconst 3, 1) := by decide +kernel
theorem dX4_mostBehind_21 : decode cX4_mostBehind 21 = .ok (.ireturn, 1) := by decide +kernel
theorem dX4_addChange_0 : decode cX4_addChange 0 = .ok (.aload_n 0, 1) := by decide +kernel
theorem dX4_addChange_1 : decode cX4_addChange 1 = .ok (.getfield 32, 3) := by decide +kernel
theorem dX4_addChange_4 : decode cX4_addChange 4 = .ok (.ifCond .lt 52, 3) := by decide +kernel
theorem dX4_addChange_7 : decode cX4_addChange 7 = .ok (.aload_n 0, 1) := by decide +kernel
theorem dX4_addChange_8 : decode cX4_addChange 8 = .ok (.getfield 32, 3) := by decide +kernel
theorem dX4_addChange_11 : decode cX4_addChange 11 = .ok (.bipush 12, 2) := by decide +kernel
theorem dX4_addChange_13 : decode cX4_addChange 13 = .ok (.if_icmp .ge 43, 3) := by decide +kernel
theorem dX4_addChange_16 : decode cX4_addChange 16 = .ok (.aload_n 0, 1) := by decide +kernel
theorem dX4_addChange_17 : decode cX4_addChange 17 = .ok (.getfield 22, 3) := by decide +kernel
theorem dX4_addChange_20 : decode cX4_addChange 20 = .ok (.aload_n 0, 1) := by decide +kernel
theorem dX4_addChange_21 : decode cX4_addChange 21 = .ok (.getfield 32, 3) := by decide +kernel
theorem dX4_addChange_24 : decode cX4_addChange 24 = .ok (.iload_n 1, 1) := by decide +kernel
theorem dX4_addChange_25 : decode cX4_addChange 25 = .ok (.castore, 1) := by decide +kernel
theorem dX4_addChange_26 : decode cX4_addChange 26 = .ok (.aload_n 0, 1) := by decide +kernel
theorem dX4_addChange_27 : decode cX4_addChange 27 = .ok (.getfield 25, 3) := by decide +kernel
theorem dX4_addChange_30 : decode cX4_addChange 30 = .ok (.aload_n 0, 1) := by decide +kernel
theorem dX4_addChange_31 : decode cX4_addChange 31 = .ok (.getfield 32, 3) := by decide +kernel
theorem dX4_addChange_34 : decode cX4_addChange 34 = .ok (.iload_n 2, 1) := by decide +kernel
theorem dX4_addChange_35 : decode cX4_addChange 35 = .ok (.iastore, 1) := by decide +kernel
theorem dX4_addChange_36 : decode cX4_addChange 36 = .ok (.aload_n 0, 1) := by decide +kernel
theorem dX4_addChange_37 : decode cX4_addChange 37 = .ok (.getfield 29, 3) := by decide +kernel
theorem dX4_addChange_40 : decode cX4_addChange 40 = .ok (.aload_n 0, 1) := by decide +kernel
theorem dX4_addChange_41 : decode cX4_addChange 41 = .ok (.getfield 32, 3) := by decide +kernel
theorem dX4_addChange_44 : decode cX4_addChange 44 = .ok (.iload_n 3, 1) := by decide +kernel
theorem dX4_addChange_45 : decode cX4_addChange 45 = .ok (.iastore, 1) := by decide +kernel
theorem dX4_addChange_46 : decode cX4_addChange 46 = .ok (.aload_n 0, 1) := by decide +kernel
theorem dX4_addChange_47 : decode cX4_addChange 47 = .ok (.dup, 1) := by decide +kernel
theorem dX4_addChange_48 : decode cX4_addChange 48 = .ok (.getfield 32, 3) := by decide +kernel
theorem dX4_addChange_51 : decode cX4_addChange 51 = .ok (.iconst 1, 1) := by decide +kernel
theorem dX4_addChange_52 : decode cX4_addChange 52 = .ok (.iadd, 1) := by decide +kernel
theorem dX4_addChange_53 : decode cX4_addChange 53 = .ok (.putfield 32, 3) := by decide +kernel
theorem dX4_addChange_56 : decode cX4_addChange 56 = .ok (.return_, 1) := by decide +kernel
theorem dX4_nextSign_0 : decode cX4_nextSign 0 = .ok (.aload_n 0, 1) := by decide +kernel
theorem dX4_nextSign_1 : decode cX4_nextSign 1 = .ok (.getfield 19, 3) := by decide +kernel
theorem dX4_nextSign_4 : decode cX4_nextSign 4 = .ok (.ifCond .lt 35, 3) := by decide +kernel
theorem dX4_nextSign_7 : decode cX4_nextSign 7 = .ok (.aload_n 0, 1) := by decide +kernel
theorem dX4_nextSign_8 : decode cX4_nextSign 8 = .ok (.getfield 19, 3) := by decide +kernel
theorem dX4_nextSign_11 : decode cX4_nextSign 11 = .ok (.aload_n 0, 1) := by decide +kernel
theorem dX4_nextSign_12 : decode cX4_nextSign 12 = .ok (.getfield 15, 3) := by decide +kernel
theorem dX4_nextSign_15 : decode cX4_nextSign 15 = .ok (.if_icmp .ge 24, 3) := by decide +kernel
theorem dX4_nextSign_18 : decode cX4_nextSign 18 = .ok (.aload_n 0, 1) := by decide +kernel
theorem dX4_nextSign_19 : decode cX4_nextSign 19 = .ok (.getfield 19, 3) := by decide +kernel
theorem dX4_nextSign_22 : decode cX4_nextSign 22 = .ok (.bipush 60, 2) := by decide +kernel
theorem dX4_nextSign_24 : decode cX4_nextSign 24 = .ok (.if_icmp .ge 15, 3) := by decide +kernel
theorem dX4_nextSign_27 : decode cX4_nextSign 27 = .ok (.aload_n 0, 1) := by decide +kernel
theorem dX4_nextSign_28 : decode cX4_nextSign 28 = .ok (.getfield 9, 3) := by decide +kernel
theorem dX4_nextSign_31 : decode cX4_nextSign 31 = .ok (.aload_n 0, 1) := by decide +kernel
theorem dX4_nextSign_32 : decode cX4_nextSign 32 = .ok (.getfield 19, 3) := by decide +kernel
theorem dX4_nextSign_35 : decode cX4_nextSign 35 = .ok (.caload, 1) := by decide +kernel
theorem dX4_nextSign_36 : decode cX4_nextSign 36 = .ok (.goto 4, 3) := by decide +kernel
theorem dX4_nextSign_39 : decode cX4_nextSign 39 = .ok (.iconst 0, 1) := by decide +kernel
theorem dX4_nextSign_40 : decode cX4_nextSign 40 = .ok (.ireturn, 1) := by decide +kernel
theorem dX4_take_0 : decode cX4_take 0 = .ok (.aload_n 0, 1) := by decide +kernel
theorem dX4_take_1 : decode cX4_take 1 = .ok (.invokevirtual 55, 3) := by decide +kernel
theorem dX4_take_4 : decode cX4_take 4 = .ok (.iload_n 1, 1) := by decide +kernel
theorem dX4_take_5 : decode cX4_take 5 = .ok (.if_icmp .eq 5, 3) := by decide +kernel
theorem dX4_take_8 : decode cX4_take 8 = .ok (.iconst 0, 1) := by decide +kernel
theorem dX4_take_9 : decode cX4_take 9 = .ok (.ireturn, 1) := by decide +kernel
theorem dX4_take_10 : decode cX4_take 10 = .ok (.aload_n 0, 1) := by decide +kernel
theorem dX4_take_11 : decode cX4_take 11 = .ok (.dup, 1) := by decide +kernel
theorem dX4_take_12 : decode cX4_take 12 = .ok (.getfield 19, 3) := by decide +kernel
theorem dX4_take_15 : decode cX4_take 15 = .ok (.iconst 1, 1) := by decide +kernel
theorem dX4_take_16 : decode cX4_take 16 = .ok (.iadd, 1) := by decide +kernel
theorem dX4_take_17 : decode cX4_take 17 = .ok (.putfield 19, 3) := by decide +kernel
theorem dX4_take_20 : decode cX4_take 20 = .ok (.iconst 1, 1) := by decide +kernel
theorem dX4_take_21 : decode cX4_take 21 = .ok (.ireturn, 1) := by decide +kernel
theorem dX4_readNumber_0 : decode cX4_readNumber 0 = .ok (.aload_n 0, 1) := by decide +kernel
theorem dX4_readNumber_1 : decode cX4_readNumber 1 = .ok (.invokevirtual 71, 3) := by decide +kernel
theorem dX4_readNumber_4 : decode cX4_readNumber 4 = .ok (.istore_n 3, 1) := by decide +kernel
theorem dX4_readNumber_5 : decode cX4_readNumber 5 = .ok (.iload_n 3, 1) := by decide +kernel
theorem dX4_readNumber_6 : decode cX4_readNumber 6 = .ok (.bipush (-5), 2) := by decide +kernel
theorem dX4_readNumber_8 : decode cX4_readNumber 8 = .ok (.if_icmp .eq 13, 3) := by decide +kernel
theorem dX4_readNumber_11 : decode cX4_readNumber 11 = .ok (.iload_n 3, 1) := by decide +kernel
theorem dX4_readNumber_12 : decode cX4_readNumber 12 = .ok (.iload_n 1, 1) := by decide +kernel
theorem dX4_readNumber_13 : decode cX4_readNumber 13 = .ok (.if_icmp .lt 8, 3) := by decide +kernel
theorem dX4_readNumber_16 : decode cX4_readNumber 16 = .ok (.iload_n 3, 1) := by decide +kernel
theorem dX4_readNumber_17 : decode cX4_readNumber 17 = .ok (.iload_n 2, 1) := by decide +kernel
theorem dX4_readNumber_18 : decode cX4_readNumber 18 = .ok (.if_icmp .le 6, 3) := by decide +kernel
theorem dX4_readNumber_21 : decode cX4_readNumber 21 = .ok (.bipush (-5), 2) := by decide +kernel
theorem dX4_readNumber_23 : decode cX4_readNumber 23 = .ok (.ireturn, 1) := by decide +kernel
theorem dX4_readNumber_24 : decode cX4_readNumber 24 = .ok (.aload_n 0, 1) := by decide +kernel
theorem dX4_readNumber_25 : decode cX4_readNumber 25 = .ok (.dup, 1) := by decide +kernel
theorem dX4_readNumber_26 : decode cX4_readNumber 26 = .ok (.getfield 19, 3) := by decide +kernel
theorem dX4_readNumber_29 : decode cX4_readNumber 29 = .ok (.iconst 1, 1) := by decide +kernel
theorem dX4_readNumber_30 : decode cX4_readNumber 30 = .ok (.iadd, 1) := by decide +kernel
theorem dX4_readNumber_31 : decode cX4_readNumber 31 = .ok (.putfield 19, 3) := by decide +kernel
theorem dX4_readNumber_34 : decode cX4_readNumber 34 = .ok (.aload_n 0, 1) := by decide +kernel
theorem dX4_readNumber_35 : decode cX4_readNumber 35 = .ok (.invokevirtual 71, 3) := by decide +kernel
theorem dX4_readNumber_38 : decode cX4_readNumber 38 = .ok (.istore 4, 2) := by decide +kernel
theorem dX4_readNumber_40 : decode cX4_readNumber 40 = .ok (.iload_n 3, 1) := by decide +kernel
theorem dX4_readNumber_41 : decode cX4_readNumber 41 = .ok (.ifCond .eq 21, 3) := by decide +kernel
theorem dX4_readNumber_44 : decode cX4_readNumber 44 = .ok (.iload 4, 2) := by decide +kernel
theorem dX4_readNumber_46 : decode cX4_readNumber 46 = .ok (.bipush (-5), 2) := by decide +kernel
theorem dX4_readNumber_48 : decode cX4_readNumber 48 = .ok (.if_icmp .eq 14, 3) := by decide +kernel
theorem dX4_readNumber_51 : decode cX4_readNumber 51 = .ok (.bipush 10, 2) := by decide +kernel
theorem dX4_readNumber_53 : decode cX4_readNumber 53 = .ok (.iload_n 3, 1) := by decide +kernel
theorem dX4_readNumber_54 : decode cX4_readNumber 54 = .ok (.imul, 1) := by decide +kernel
theorem dX4_readNumber_55 : decode cX4_readNumber 55 = .ok (.iload 4, 2) := by decide +kernel
theorem dX4_readNumber_57 : decode cX4_readNumber 57 = .ok (.iadd, 1) := by decide +kernel
theorem dX4_readNumber_58 : decode cX4_readNumber 58 = .ok (.iload_n 2, 1) := by decide +kernel
theorem dX4_readNumber_59 : decode cX4_readNumber 59 = .ok (.if_icmp .le 5, 3) := by decide +kernel
theorem dX4_readNumber_62 : decode cX4_readNumber 62 = .ok (.iload_n 3, 1) := by decide +kernel
theorem dX4_readNumber_63 : decode cX4_readNumber 63 = .ok (.ireturn, 1) := by decide +kernel
theorem dX4_readNumber_64 : decode cX4_readNumber 64 = .ok (.aload_n 0, 1) := by decide +kernel
theorem dX4_readNumber_65 : decode cX4_readNumber 65 = .ok (.dup, 1) := by decide +kernel
theorem dX4_readNumber_66 : decode cX4_readNumber 66 = .ok (.getfield 19, 3) := by decide +kernel
theorem dX4_readNumber_69 : decode cX4_readNumber 69 = .ok (.iconst 1, 1) := by decide +kernel
theorem dX4_readNumber_70 : decode cX4_readNumber 70 = .ok (.iadd, 1) := by decide +kernel
theorem dX4_readNumber_71 : decode cX4_readNumber 71 = .ok (.putfield 19, 3) := by decide +kernel
theorem dX4_readNumber_74 : decode cX4_readNumber 74 = .ok (.bipush 10, 2) := by decide +kernel
theorem dX4_readNumber_76 : decode cX4_readNumber 76 = .ok (.iload_n 3, 1) := by decide +kernel
theorem dX4_readNumber_77 : decode cX4_readNumber 77 = .ok (.imul, 1) := by decide +kernel
theorem dX4_readNumber_78 : decode cX4_readNumber 78 = .ok (.iload 4, 2) := by decide +kernel
theorem dX4_readNumber_80 : decode cX4_readNumber 80 = .ok (.iadd, 1) := by decide +kernel
theorem dX4_readNumber_81 : decode cX4_readNumber 81 = .ok (.ireturn, 1) := by decide +kernel
theorem dX4_nextDigit_0 : decode cX4_nextDigit 0 = .ok (.aload_n 0, 1) := by decide +kernel
theorem dX4_nextDigit_1 : decode cX4_nextDigit 1 = .ok (.invokevirtual 55, 3) := by decide +kernel
theorem dX4_nextDigit_4 : decode cX4_nextDigit 4 = .ok (.istore_n 1, 1) := by decide +kernel
theorem dX4_nextDigit_5 : decode cX4_nextDigit 5 = .ok (.iload_n 1, 1) := by decide +kernel
theorem dX4_nextDigit_6 : decode cX4_nextDigit 6 = .ok (.bipush 48, 2) := by decide +kernel
theorem dX4_nextDigit_8 : decode cX4_nextDigit 8 = .ok (.if_icmp .lt 16, 3) := by decide +kernel
theorem dX4_nextDigit_11 : decode cX4_nextDigit 11 = .ok (.iload_n 1, 1) := by decide +kernel
theorem dX4_nextDigit_12 : decode cX4_nextDigit 12 = .ok (.bipush 57, 2) := by decide +kernel
theorem dX4_nextDigit_14 : decode cX4_nextDigit 14 = .ok (.if_icmp .gt 10, 3) := by decide +kernel
theorem dX4_nextDigit_17 : decode cX4_nextDigit 17 = .ok (.iload_n 1, 1) := by decide +kernel
theorem dX4_nextDigit_18 : decode cX4_nextDigit 18 = .ok (.bipush 48, 2) := by decide +kernel
theorem dX4_nextDigit_20 : decode cX4_nextDigit 20 = .ok (.isub, 1) := by decide +kernel
theorem dX4_nextDigit_21 : decode cX4_nextDigit 21 = .ok (.goto 5, 3) := by decide +kernel
theorem dX4_nextDigit_24 : decode cX4_nextDigit 24 = .ok (.bipush (-5), 2) := by decide +kernel
theorem dX4_nextDigit_26 : decode cX4_nextDigit 26 = .ok (.ireturn, 1) := by decide +kernel
theorem dX5_init_0 : decode cX5_init 0 = .ok (.aload_n 0, 1) := by decide +kernel
theorem dX5_init_1 : decode cX5_init 1 = .ok (.invokespecial 1, 3) := by decide +kernel
theorem dX5_init_4 : decode cX5_init 4 = .ok (.aload_n 0, 1) := by decide +kernel
theorem dX5_init_5 : decode cX5_init 5 = .ok (.new 7, 3) := by decide +kernel
theorem dX5_init_8 : decode cX5_init 8 = .ok (.dup, 1) := by decide +kernel
theorem dX5_init_9 : decode cX5_init 9 = .ok (.invokespecial 9, 3) := by decide +kernel
theorem dX5_init_12 : decode cX5_init 12 = .ok (.putfield 10, 3) := by decide +kernel
theorem dX5_init_15 : decode cX5_init 15 = .ok (.aload_n 0, 1) := by decide +kernel
theorem dX5_init_16 : decode cX5_init 16 = .ok (.new 7, 3) := by decide +kernel
theorem dX5_init_19 : decode cX5_init 19 = .ok (.dup, 1) := by decide +kernel
theorem dX5_init_20 : decode cX5_init 20 = .ok (.invokespecial 9, 3) := by decide +kernel
theorem dX5_init_23 : decode cX5_init 23 = .ok (.putfield 16, 3) := by decide +kernel
theorem dX5_init_26 : decode cX5_init 26 = .ok (.aload_n 0, 1) := by decide +kernel
theorem dX5_init_27 : decode cX5_init 27 = .ok (.new 19, 3) := by decide +kernel
theorem dX5_init_30 : decode cX5_init 30 = .ok (.dup, 1) := by decide +kernel
theorem dX5_init_31 : decode cX5_init 31 = .ok (.invokespecial 21, 3) := by decide +kernel
theorem dX5_init_34 : decode cX5_init 34 = .ok (.putfield 22, 3) := by decide +kernel
theorem dX5_init_37 : decode cX5_init 37 = .ok (.aload_n 0, 1) := by decide +kernel
theorem dX5_init_38 : decode cX5_init 38 = .ok (.new 26, 3) := by decide +kernel
theorem dX5_init_41 : decode cX5_init 41 = .ok (.dup, 1) := by decide +kernel
theorem dX5_init_42 : decode cX5_init 42 = .ok (.invokespecial 28, 3) := by decide +kernel
theorem dX5_init_45 : decode cX5_init 45 = .ok (.putfield 29, 3) := by decide +kernel
theorem dX5_init_48 : decode cX5_init 48 = .ok (.aload_n 0, 1) := by decide +kernel
theorem dX5_init_49 : decode cX5_init 49 = .ok (.bipush 24, 2) := by decide +kernel
theorem dX5_init_51 : decode cX5_init 51 = .ok (.newarray .int, 2) := by decide +kernel
theorem dX5_init_53 : decode cX5_init 53 = .ok (.putfield 33, 3) := by decide +kernel
theorem dX5_init_56 : decode cX5_init 56 = .ok (.aload_n 0, 1) := by decide +kernel
theorem dX5_init_57 : decode cX5_init 57 = .ok (.iconst 0, 1) := by decide +kernel
theorem dX5_init_58 : decode cX5_init 58 = .ok (.putfield 37, 3) := by decide +kernel
theorem dX5_init_61 : decode cX5_init 61 = .ok (.return_, 1) := by decide +kernel
theorem dX5_swap_0 : decode cX5_swap 0 = .ok (.iload_n 1, 1) := by decide +kernel
theorem dX5_swap_1 : decode cX5_swap 1 = .ok (.invokestatic 41, 3) := by decide +kernel
theorem dX5_swap_4 : decode cX5_swap 4 = .ok (.ifCond .eq 10, 3) := by decide +kernel
theorem dX5_swap_7 : decode cX5_swap 7 = .ok (.iload_n 2, 1) := by decide +kernel
theorem dX5_swap_8 : decode cX5_swap 8 = .ok (.invokestatic 41, 3) := by decide +kernel
theorem dX5_swap_11 : decode cX5_swap 11 = .ok (.ifCond .ne 5, 3) := by decide +kernel
theorem dX5_swap_14 : decode cX5_swap 14 = .ok (.iconst (-1), 1) := by decide +kernel
theorem dX5_swap_15 : decode cX5_swap 15 = .ok (.ireturn, 1) := by decide +kernel
theorem dX5_swap_16 : decode cX5_swap 16 = .ok (.iload_n 1, 1) := by decide +kernel
theorem dX5_swap_17 : decode cX5_swap 17 = .ok (.iload_n 2, 1) := by decide +kernel
theorem dX5_swap_18 : decode cX5_swap 18 = .ok (.if_icmp .ne 6, 3) := by decide +kernel
theorem dX5_swap_21 : decode cX5_swap 21 = .ok (.bipush (-5), 2) := by decide +kernel
theorem dX5_swap_23 : decode cX5_swap 23 = .ok (.ireturn, 1) := by decide +kernel
theorem dX5_swap_24 : decode cX5_swap 24 = .ok (.aload_n 0, 1) := by decide +kernel
theorem dX5_swap_25 : decode cX5_swap 25 = .ok (.getfield 22, 3) := by decide +kernel
theorem dX5_swap_28 : decode cX5_swap 28 = .ok (.aload_n 0, 1) := by decide +kernel
theorem dX5_swap_29 : decode cX5_swap 29 = .ok (.getfield 10, 3) := by decide +kernel
theorem dX5_swap_32 : decode cX5_swap 32 = .ok (.invokevirtual 45, 3) := by decide +kernel
theorem dX5_swap_35 : decode cX5_swap 35 = .ok (.aload_n 0, 1) := by decide +kernel
theorem dX5_swap_36 : decode cX5_swap 36 = .ok (.getfield 10, 3) := by decide +kernel
theorem dX5_swap_39 : decode cX5_swap 39 = .ok (.iload_n 1, 1) := by decide +kernel
theorem dX5_swap_40 : decode cX5_swap 40 = .ok (.iload_n 2, 1) := by decide +kernel
theorem dX5_swap_41 : decode cX5_swap 41 = .ok (.invokevirtual 49, 3) := by decide +kernel
theorem dX5_swap_44 : decode cX5_swap 44 = .ok (.aload_n 0, 1) := by decide +kernel
theorem dX5_swap_45 : decode cX5_swap 45 = .ok (.getfield 10, 3) := by decide +kernel
theorem dX5_swap_48 : decode cX5_swap 48 = .ok (.getfield 53, 3) := by decide +kernel
theorem dX5_swap_51 : decode cX5_swap 51 = .ok (.iload_n 1, 1) := by decide +kernel
theorem dX5_swap_52 : decode cX5_swap 52 = .ok (.invokestatic 56, 3) := by decide +kernel
theorem dX5_swap_55 : decode cX5_swap 55 = .ok (.ireturn, 1) := by decide +kernel
theorem dX5_mark_0 : decode cX5_mark 0 = .ok (.iload_n 1, 1) := by decide +kernel
theorem dX5_mark_1 : decode cX5_mark 1 = .ok (.invokestatic 41, 3) := by decide +kernel
theorem dX5_mark_4 : decode cX5_mark 4 = .ok (.ifCond .eq 10, 3) := by decide +kernel
theorem dX5_mark_7 : decode cX5_mark 7 = .ok (.iload_n 2, 1) := by decide +kernel
theorem dX5_mark_8 : decode cX5_mark 8 = .ok (.invokestatic 60, 3) := by decide +kernel
theorem dX5_mark_11 : decode cX5_mark 11 = .ok (.ifCond .ne 5, 3) := by decide +kernel
theorem dX5_mark_14 : decode cX5_mark 14 = .ok (.iconst (-1), 1) := by decide +kernel
theorem dX5_mark_15 : decode cX5_mark 15 = .ok (.ireturn, 1) := by decide +kernel
theorem dX5_mark_16 : decode cX5_mark 16 = .ok (.aload_n 0, 1) := by decide +kernel
theorem dX5_mark_17 : decode cX5_mark 17 = .ok (.getfield 10, 3) := by decide +kernel
theorem dX5_mark_20 : decode cX5_mark 20 = .ok (.iload_n 1, 1) := by decide +kernel
theorem dX5_mark_21 : decode cX5_mark 21 = .ok (.iload_n 2, 1) := by decide +kernel
theorem dX5_mark_22 : decode cX5_mark 22 = .ok (.invokevirtual 63, 3) := by decide +kernel
theorem dX5_mark_25 : decode cX5_mark 25 = .ok (.iload_n 3, 1) := by decide +kernel
theorem dX5_mark_26 : decode cX5_mark 26 = .ok (.if_icmp .ne 6, 3) := by decide +kernel
theorem dX5_mark_29 : decode cX5_mark 29 = .ok (.bipush (-5), 2) := by decide +kernel
theorem dX5_mark_31 : decode cX5_mark 31 = .ok (.ireturn, 1) := by decide +kernel
theorem dX5_mark_32 : decode cX5_mark 32 = .ok (.aload_n 0, 1) := by decide +kernel
theorem dX5_mark_33 : decode cX5_mark 33 = .ok (.getfield 22, 3) := by decide +kernel
theorem dX5_mark_36 : decode cX5_mark 36 = .ok (.aload_n 0, 1) := by decide +kernel
theorem dX5_mark_37 : decode cX5_mark 37 = .ok (.getfield 10, 3) := by decide +kernel
theorem dX5_mark_40 : decode cX5_mark 40 = .ok (.invokevirtual 45, 3) := by decide +kernel
theorem dX5_mark_43 : decode cX5_mark 43 = .ok (.aload_n 0, 1) := by decide +kernel
theorem dX5_mark_44 : decode cX5_mark 44 = .ok (.getfield 10, 3) := by decide +kernel
theorem dX5_mark_47 : decode cX5_mark 47 = .ok (.iload_n 1, 1) := by decide +kernel
theorem dX5_mark_48 : decode cX5_mark 48 = .ok (.iload_n 2, 1) := by decide +kernel
theorem dX5_mark_49 : decode cX5_mark 49 = .ok (.iload_n 3, 1) := by decide +kernel
theorem dX5_mark_50 : decode cX5_mark 50 = .ok (.invokevirtual 67, 3) := by decide +kernel
theorem dX5_mark_53 : decode cX5_mark 53 = .ok (.aload_n 0, 1) := by decide +kernel
theorem dX5_mark_54 : decode cX5_mark 54 = .ok (.getfield 10, 3) := by decide +kernel
theorem dX5_mark_57 : decode cX5_mark 57 = .ok (.getfield 71, 3) := by decide +kernel
theorem dX5_mark_60 : decode cX5_mark 60 = .ok (.iload_n 1, 1) := by decide +kernel
theorem dX5_mark_61 : decode cX5_mark 61 = .ok (.invokestatic 56, 3) := by decide +kernel
theorem dX5_mark_64 : decode cX5_mark 64 = .ok (.ireturn, 1) := by decide +kernel
theorem dX5_lean_0 : decode cX5_lean 0 = .ok (.iload_n 1, 1) := by decide +kernel
theorem dX5_lean_1 : decode cX5_lean 1 = .ok (.invokestatic 74, 3) := by decide +kernel
theorem dX5_lean_4 : decode cX5_lean 4 = .ok (.ifCond .ne 5, 3) := by decide +kernel
theorem dX5_lean_7 : decode cX5_lean 7 = .ok (.iconst (-1), 1) := by decide +kernel
theorem dX5_lean_8 : decode cX5_lean 8 = .ok (.ireturn, 1) := by decide +kernel
theorem dX5_lean_9 : decode cX5_lean 9 = .ok (.iload_n 2, 1) := by decide +kernel
theorem dX5_lean_10 : decode cX5_lean 10 = .ok (.bipush (-9), 2) := by decide +kernel
theorem dX5_lean_12 : decode cX5_lean 12 = .ok (.if_icmp .lt 9, 3) := by decide +kernel
theorem dX5_lean_15 : decode cX5_lean 15 = .ok (.iload_n 2, 1) := by decide +kernel
theorem dX5_lean_16 : decode cX5_lean 16 = .ok (.bipush 9, 2) := by decide +kernel
theorem dX5_lean_18 : decode cX5_lean 18 = .ok (.if_icmp .le 6, 3) := by decide +kernel
theorem dX5_lean_21 : decode cX5_lean 21 = .ok (.bipush (-2), 2) := by decide +kernel
theorem dX5_lean_23 : decode cX5_lean 23 = .ok (.ireturn, 1) := by decide +kernel
theorem dX5_lean_24 : decode cX5_lean 24 = .ok (.iload_n 1, 1) := by decide +kernel
theorem dX5_lean_25 : decode cX5_lean 25 = .ok (.invokestatic 77, 3) := by decide +kernel
theorem dX5_lean_28 : decode cX5_lean 28 = .ok (.ifCond .ne 6, 3) := by decide +kernel
theorem dX5_lean_31 : decode cX5_lean 31 = .ok (.bipush (-4), 2) := by decide +kernel
theorem dX5_lean_33 : decode cX5_lean 33 = .ok (.ireturn, 1) := by decide +kernel
theorem dX5_lean_34 : decode cX5_lean 34 = .ok (.aload_n 0, 1) := by decide +kernel
theorem dX5_lean_35 : decode cX5_lean 35 = .ok (.getfield 10, 3) := by decide +kernel
theorem dX5_lean_38 : decode cX5_lean 38 = .ok (.getfield 80, 3) := by decide +kernel
theorem dX5_lean_41 : decode cX5_lean 41 = .ok (.iload_n 1, 1) := by decide +kernel
theorem dX5_lean_42 : decode cX5_lean 42 = .ok (.invokestatic 56, 3) := by decide +kernel
theorem dX5_lean_45 : decode cX5_lean 45 = .ok (.istore_n 3, 1) := by decide +kernel
theorem dX5_lean_46 : decode cX5_lean 46 = .ok (.iload_n 3, 1) := by decide +kernel
theorem dX5_lean_47 : decode cX5_lean 47 = .ok (.iload_n 2, 1) := by decide +kernel
theorem dX5_lean_48 : decode cX5_lean 48 = .ok (.if_icmp .ne 6, 3) := by decide +kernel
theorem dX5_lean_51 : decode cX5_lean 51 = .ok (.bipush (-5), 2) := by decide +kernel
theorem dX5_lean_53 : decode cX5_lean 53 = .ok (.ireturn, 1) := by decide +kernel
theorem dX5_lean_54 : decode cX5_lean 54 = .ok (.aload_n 0, 1) := by decide +kernel
theorem dX5_lean_55 : decode cX5_lean 55 = .ok (.getfield 22, 3) := by decide +kernel
theorem dX5_lean_58 : decode cX5_lean 58 = .ok (.aload_n 0, 1) := by decide +kernel
theorem dX5_lean_59 : decode cX5_lean 59 = .ok (.getfield 10, 3) := by decide +kernel
theorem dX5_lean_62 : decode cX5_lean 62 = .ok (.invokevirtual 45, 3) := by decide +kernel
theorem dX5_lean_65 : decode cX5_lean 65 = .ok (.aload_n 0, 1) := by decide +kernel
theorem dX5_lean_66 : decode cX5_lean 66 = .ok (.getfield 10, 3) := by decide +kernel
theorem dX5_lean_69 : decode cX5_lean 69 = .ok (.getfield 80, 3) := by decide +kernel
theorem dX5_lean_72 : decode cX5_lean 72 = .ok (.iload_n 1, 1) := by decide +kernel
theorem dX5_lean_73 : decode cX5_lean 73 = .ok (.iload_n 2, 1) := by decide +kernel
theorem dX5_lean_74 : decode cX5_lean 74 = .ok (.invokestatic 83, 3) := by decide +kernel
theorem dX5_lean_77 : decode cX5_lean 77 = .ok (.iload_n 3, 1) := by decide +kernel
theorem dX5_lean_78 : decode cX5_lean 78 = .ok (.bipush 100, 2) := by decide +kernel
theorem dX5_lean_80 : decode cX5_lean 80 = .ok (.iadd, 1) := by decide +kernel
theorem dX5_lean_81 : decode cX5_lean 81 = .ok (.ireturn, 1) := by decide +kernel
theorem dX5_changeAll_0 : decode cX5_changeAll 0 = .ok (.aload_n 0, 1) := by decide +kernel
theorem dX5_changeAll_1 : decode cX5_changeAll 1 = .ok (.getfield 29, 3) := by decide +kernel
theorem dX5_changeAll_4 : decode cX5_changeAll 4 = .ok (.invokevirtual 87, 3) := by decide +kernel
theorem dX5_changeAll_7 : decode cX5_changeAll 7 = .ok (.istore_n 1, 1) := by decide +kernel
theorem dX5_changeAll_8 : decode cX5_changeAll 8 = .ok (.iload_n 1, 1) := by decide +kernel
theorem dX5_changeAll_9 : decode cX5_changeAll 9 = .ok (.bipush (-5), 2) := by decide +kernel
theorem dX5_changeAll_11 : decode cX5_changeAll 11 = .ok (.if_icmp .eq 8, 3) := by decide +kernel
theorem dX5_changeAll_14 : decode cX5_changeAll 14 = .ok (.bipush (-100), 2) := by decide +kernel
theorem dX5_changeAll_16 : decode cX5_changeAll 16 = .ok (.iload_n 1, 1) := by decide +kernel
theorem dX5_changeAll_17 : decode cX5_changeAll 17 = .ok (.isub, 1) := by decide +kernel
theorem dX5_changeAll_18 : decode cX5_changeAll 18 = .ok (.ireturn, 1) := by decide +kernel
theorem dX5_changeAll_19 : decode cX5_changeAll 19 = .ok (.aload_n 0, 1) := by decide +kernel
theorem dX5_changeAll_20 : decode cX5_changeAll 20 = .ok (.getfield 29, 3) := by decide +kernel
theorem dX5_changeAll_23 : decode cX5_changeAll 23 = .ok (.invokevirtual 91, 3) := by decide +kernel
theorem dX5_changeAll_26 : decode cX5_changeAll 26 = .ok (.ifCond .eq 6, 3) := by decide +kernel
theorem dX5_changeAll_29 : decode cX5_changeAll 29 = .ok (.bipush (-4), 2) := by decide +kernel
theorem dX5_changeAll_31 : decode cX5_changeAll 31 = .ok (.ireturn, 1) := by decide +kernel
theorem dX5_changeAll_32 : decode cX5_changeAll 32 = .ok (.aload_n 0, 1) := by decide +kernel
theorem dX5_changeAll_33 : decode cX5_changeAll 33 = .ok (.getfield 22, 3) := by decide +kernel
theorem dX5_changeAll_36 : decode cX5_changeAll 36 = .ok (.aload_n 0, 1) := by decide +kernel
theorem dX5_changeAll_37 : decode cX5_changeAll 37 = .ok (.getfield 10, 3) := by decide +kernel
theorem dX5_changeAll_40 : decode cX5_changeAll 40 = .ok (.invokevirtual 45, 3) := by decide +kernel
theorem dX5_changeAll_43 : decode cX5_changeAll 43 = .ok (.aload_n 0, 1) := by decide +kernel
theorem dX5_changeAll_44 : decode cX5_changeAll 44 = .ok (.getfield 29, 3) := by decide +kernel
theorem dX5_changeAll_47 : decode cX5_changeAll 47 = .ok (.getfield 95, 3) := by decide +kernel
theorem dX5_changeAll_50 : decode cX5_changeAll 50 = .ok (.istore_n 2, 1) := by decide +kernel
theorem dX5_changeAll_51 : decode cX5_changeAll 51 = .ok (.iconst 0, 1) := by decide +kernel
theorem dX5_changeAll_52 : decode cX5_changeAll 52 = .ok (.istore_n 3, 1) := by decide +kernel
theorem dX5_changeAll_53 : decode cX5_changeAll 53 = .ok (.iload_n 3, 1) := by decide +kernel
theorem dX5_changeAll_54 : decode cX5_changeAll 54 = .ok (.iload_n 2, 1) := by decide +kernel
theorem dX5_changeAll_55 : decode cX5_changeAll 55 = .ok (.if_icmp .ge 43, 3) := by decide +kernel
theorem dX5_changeAll_58 : decode cX5_changeAll 58 = .ok (.aload_n 0, 1) := by decide +kernel
theorem dX5_changeAll_59 : decode cX5_changeAll 59 = .ok (.aload_n 0, 1) := by decide +kernel
theorem dX5_changeAll_60 : decode cX5_changeAll 60 = .ok (.getfield 29, 3) := by decide +kernel
theorem dX5_changeAll_63 : decode cX5_changeAll 63 = .ok (.iload_n 3, 1) := by decide +kernel
theorem dX5_changeAll_64 : decode cX5_changeAll 64 = .ok (.invokevirtual 99, 3) := by decide +kernel
theorem dX5_changeAll_67 : decode cX5_changeAll 67 = .ok (.aload_n 0, 1) := by decide +kernel
theorem dX5_changeAll_68 : decode cX5_changeAll 68 = .ok (.getfield 29, 3) := by decide +kernel
theorem dX5_changeAll_71 : decode cX5_changeAll 71 = .ok (.getfield 103, 3) := by decide +kernel
theorem dX5_changeAll_74 : decode cX5_changeAll 74 = .ok (.iload_n 3, 1) := by decide +kernel
theorem dX5_changeAll_75 : decode cX5_changeAll 75 = .ok (.invokestatic 56, 3) := by decide +kernel
theorem dX5_changeAll_78 : decode cX5_changeAll 78 = .ok (.aload_n 0, 1) := by decide +kernel
theorem dX5_changeAll_79 : decode cX5_changeAll 79 = .ok (.getfield 29, 3) := by decide +kernel
theorem dX5_changeAll_82 : decode cX5_changeAll 82 = .ok (.getfield 106, 3) := by decide +kernel
theorem dX5_changeAll_85 : decode cX5_changeAll 85 = .ok (.iload_n 3, 1) := by decide +kernel
theorem dX5_changeAll_86 : decode cX5_changeAll 86 = .ok (.invokestatic 56, 3) := by decide +kernel
theorem dX5_changeAll_89 : decode cX5_changeAll 89 = .ok (.invokevirtual 109, 3) := by decide +kernel
theorem dX5_changeAll_92 : decode cX5_changeAll 92 = .ok (.iinc 3 1, 3) := by decide +kernel
theorem dX5_changeAll_95 : decode cX5_changeAll 95 = .ok (.goto (-42), 3) := by decide +kernel
theorem dX5_changeAll_98 : decode cX5_changeAll 98 = .ok (.iload_n 2, 1) := by decide +kernel
theorem dX5_changeAll_99 : decode cX5_changeAll 99 = .ok (.ireturn, 1) := by decide +kernel
theorem dX5_set_0 : decode cX5_set 0 = .ok (.iload_n 1, 1) := by decide +kernel
theorem dX5_set_1 : decode cX5_set 1 = .ok (.ifCond .lt 8, 3) := by decide +kernel
theorem dX5_set_4 : decode cX5_set 4 = .ok (.iload_n 1, 1) := by decide +kernel
theorem dX5_set_5 : decode cX5_set 5 = .ok (.iconst 4, 1) := by decide +kernel
theorem dX5_set_6 : decode cX5_set 6 = .ok (.if_icmp .lt 6, 3) := by decide +kernel
theorem dX5_set_9 : decode cX5_set 9 = .ok (.bipush (-2), 2) := by decide +kernel
theorem dX5_set_11 : decode cX5_set 11 = .ok (.ireturn, 1) := by decide +kernel
theorem dX5_set_12 : decode cX5_set 12 = .ok (.iload_n 2, 1) := by decide +kernel
theorem dX5_set_13 : decode cX5_set 13 = .ok (.getstatic 113, 3) := by decide +kernel
theorem dX5_set_16 : decode cX5_set 16 = .ok (.iload_n 1, 1) := by decide +kernel
theorem dX5_set_17 : decode cX5_set 17 = .ok (.invokestatic 56, 3) := by decide +kernel
theorem dX5_set_20 : decode cX5_set 20 = .ok (.if_icmp .lt 14, 3) := by decide +kernel
theorem dX5_set_23 : decode cX5_set 23 = .ok (.iload_n 2, 1) := by decide +kernel
theorem dX5_set_24 : decode cX5_set 24 = .ok (.getstatic 116, 3) := by decide +kernel
theorem dX5_set_27 : decode cX5_set 27 = .ok (.iload_n 1, 1) := by decide +kernel
theorem dX5_set_28 : decode cX5_set 28 = .ok (.invokestatic 56, 3) := by decide +kernel
theorem dX5_set_31 : decode cX5_set 31 = .ok (.if_icmp .le 6, 3) := by decide +kernel
theorem dX5_set_34 : decode cX5_set 34 = .ok (.bipush (-2), 2) := by decide +kernel
theorem dX5_set_36 : decode cX5_set 36 = .ok (.ireturn, 1) := by decide +kernel
theorem dX5_set_37 : decode cX5_set 37 = .ok (.aload_n 0, 1) := by decide +kernel
theorem dX5_set_38 : decode cX5_set 38 = .ok (.getfield 10, 3) := by decide +kernel
theorem dX5_set_41 : decode cX5_set 41 = .ok (.getfield 119, 3) := by decide +kernel
theorem dX5_set_44 : decode cX5_set 44 = .ok (.iload_n 1, 1) := by decide +kernel
theorem dX5_set_45 : decode cX5_set 45 = .ok (.invokestatic 56, 3) := by decide +kernel
theorem dX5_set_48 : decode cX5_set 48 = .ok (.istore_n 3, 1) := by decide +kernel
theorem dX5_set_49 : decode cX5_set 49 = .ok (.iload_n 3, 1) := by decide +kernel
theorem dX5_set_50 : decode cX5_set 50 = .ok (.iload_n 2, 1) := by decide +kernel
theorem dX5_set_51 : decode cX5_set 51 = .ok (.if_icmp .ne 6, 3) := by decide +kernel
theorem dX5_set_54 : decode cX5_set 54 = .ok (.bipush (-5), 2) := by decide +kernel
theorem dX5_set_56 : decode cX5_set 56 = .ok (.ireturn, 1) := by decide +kernel
theorem dX5_set_57 : decode cX5_set 57 = .ok (.aload_n 0, 1) := by decide +kernel
theorem dX5_set_58 : decode cX5_set 58 = .ok (.getfield 22, 3) := by decide +kernel
theorem dX5_set_61 : decode cX5_set 61 = .ok (.aload_n 0, 1) := by decide +kernel
theorem dX5_set_62 : decode cX5_set 62 = .ok (.getfield 10, 3) := by decide +kernel
theorem dX5_set_65 : decode cX5_set 65 = .ok (.invokevirtual 45, 3) := by decide +kernel
theorem dX5_set_68 : decode cX5_set 68 = .ok (.aload_n 0, 1) := by decide +kernel
theorem dX5_set_69 : decode cX5_set 69 = .ok (.getfield 10, 3) := by decide +kernel
theorem dX5_set_72 : decode cX5_set 72 = .ok (.getfield 119, 3) := by decide +kernel
theorem dX5_set_75 : decode cX5_set 75 = .ok (.iload_n 1, 1) := by decide +kernel
theorem dX5_set_76 : decode cX5_set 76 = .ok (.iload_n 2, 1) := by decide +kernel
theorem dX5_set_77 : decode cX5_set 77 = .ok (.invokestatic 83, 3) := by decide +kernel
theorem dX5_set_80 : decode cX5_set 80 = .ok (.iload_n 3, 1) := by decide +kernel
theorem dX5_set_81 : decode cX5_set 81 = .ok (.ireturn, 1) := by decide +kernel
theorem dX5_print_0 : decode cX5_print 0 = .ok (.aload_n 0, 1) := by decide +kernel
theorem dX5_print_1 : decode cX5_print 1 = .ok (.getfield 10, 3) := by decide +kernel
theorem dX5_print_4 : decode cX5_print 4 = .ok (.getfield 122, 3) := by decide +kernel
theorem dX5_print_7 : decode cX5_print 7 = .ok (.bipush 6, 2) := by decide +kernel
theorem dX5_print_9 : decode cX5_print 9 = .ok (.if_icmp .lt 6, 3) := by decide +kernel
theorem dX5_print_12 : decode cX5_print 12 = .ok (.bipush (-3), 2) := by decide +kernel
theorem dX5_print_14 : decode cX5_print 14 = .ok (.ireturn, 1) := by decide +kernel
theorem dX5_print_15 : decode cX5_print 15 = .ok (.aload_n 0, 1) := by decide +kernel
theorem dX5_print_16 : decode cX5_print 16 = .ok (.getfield 22, 3) := by decide +kernel
theorem dX5_print_19 : decode cX5_print 19 = .ok (.aload_n 0, 1) := by decide +kernel
theorem dX5_print_20 : decode cX5_print 20 = .ok (.getfield 10, 3) := by decide +kernel
theorem dX5_print_23 : decode cX5_print 23 = .ok (.invokevirtual 45, 3) := by decide +kernel
theorem dX5_print_26 : decode cX5_print 26 = .ok (.aload_n 0, 1) := by decide +kernel
theorem dX5_print_27 : decode cX5_print 27 = .ok (.getfield 10, 3) := by decide +kernel
theorem dX5_print_30 : decode cX5_print 30 = .ok (.iload_n 1, 1) := by decide +kernel
theorem dX5_print_31 : decode cX5_print 31 = .ok (.invokevirtual 125, 3) := by decide +kernel
theorem dX5_print_34 : decode cX5_print 34 = .ok (.aload_n 0, 1) := by decide +kernel
theorem dX5_print_35 : decode cX5_print 35 = .ok (.getfield 10, 3) := by decide +kernel
theorem dX5_print_38 : decode cX5_print 38 = .ok (.getfield 122, 3) := by decide +kernel
theorem dX5_print_41 : decode cX5_print 41 = .ok (.ireturn, 1) := by decide +kernel
theorem dX5_cutSheet_0 : decode cX5_cutSheet 0 = .ok (.iload_n 1, 1) := by decide +kernel
theorem dX5_cutSheet_1 : decode cX5_cutSheet 1 = .ok (.ifCond .lt 8, 3) := by decide +kernel
theorem dX5_cutSheet_4 : decode cX5_cutSheet 4 = .ok (.iload_n 1, 1) := by decide +kernel
theorem dX5_cutSheet_5 : decode cX5_cutSheet 5 = .ok (.iconst 4, 1) := by decide +kernel
theorem dX5_cutSheet_6 : decode cX5_cutSheet 6 = .ok (.if_icmp .lt 6, 3) := by decide +kernel
theorem dX5_cutSheet_9 : decode cX5_cutSheet 9 = .ok (.bipush (-2), 2) := by decide +kernel
theorem dX5_cutSheet_11 : decode cX5_cutSheet 11 = .ok (.ireturn, 1) := by decide +kernel
theorem dX5_cutSheet_12 : decode cX5_cutSheet 12 = .ok (.aload_n 0, 1) := by decide +kernel
theorem dX5_cutSheet_13 : decode cX5_cutSheet 13 = .ok (.getfield 10, 3) := by decide +kernel
theorem dX5_cutSheet_16 : decode cX5_cutSheet 16 = .ok (.getfield 129, 3) := by decide +kernel
theorem dX5_cutSheet_19 : decode cX5_cutSheet 19 = .ok (.invokevirtual 133, 3) := by decide +kernel
theorem dX5_cutSheet_22 : decode cX5_cutSheet 22 = .ok (.ifCond .ne 14, 3) := by decide +kernel
theorem dX5_cutSheet_25 : decode cX5_cutSheet 25 = .ok (.aload_n 0, 1) := by decide +kernel
theorem dX5_cutSheet_26 : decode cX5_cutSheet 26 = .ok (.getfield 10, 3) := by decide +kernel
theorem dX5_cutSheet_29 : decode cX5_cutSheet 29 = .ok (.iconst 0, 1) := by decide +kernel
theorem dX5_cutSheet_30 : decode cX5_cutSheet 30 = .ok (.invokevirtual 138, 3) := by decide +kernel
theorem dX5_cutSheet_33 : decode cX5_cutSheet 33 = .ok (.ifnonnull 6, 3) := by decide +kernel
theorem dX5_cutSheet_36 : decode cX5_cutSheet 36 = .ok (.bipush (-4), 2) := by decide +kernel
theorem dX5_cutSheet_38 : decode cX5_cutSheet 38 = .ok (.ireturn, 1) := by decide +kernel
theorem dX5_cutSheet_39 : decode cX5_cutSheet 39 = .ok (.aload_n 0, 1) := by decide +kernel
theorem dX5_cutSheet_40 : decode cX5_cutSheet 40 = .ok (.getfield 22, 3) := by decide +kernel
theorem dX5_cutSheet_43 : decode cX5_cutSheet 43 = .ok (.aload_n 0, 1) := by decide +kernel
theorem dX5_cutSheet_44 : decode cX5_cutSheet 44 = .ok (.getfield 10, 3) := by decide +kernel
theorem dX5_cutSheet_47 : decode cX5_cutSheet 47 = .ok (.invokevirtual 45, 3) := by decide +kernel
theorem dX5_cutSheet_50 : decode cX5_cutSheet 50 = .ok (.aload_n 0, 1) := by decide +kernel
theorem dX5_cutSheet_51 : decode cX5_cutSheet 51 = .ok (.getfield 10, 3) := by decide +kernel
theorem dX5_cutSheet_54 : decode cX5_cutSheet 54 = .ok (.getfield 129, 3) := by decide +kernel
theorem dX5_cutSheet_57 : decode cX5_cutSheet 57 = .ok (.aload_n 0, 1) := by decide +kernel
theorem dX5_cutSheet_58 : decode cX5_cutSheet 58 = .ok (.getfield 10, 3) := by decide +kernel
theorem dX5_cutSheet_61 : decode cX5_cutSheet 61 = .ok (.invokevirtual 142, 3) := by decide +kernel
theorem dX5_cutSheet_64 : decode cX5_cutSheet 64 = .ok (.iload_n 1, 1) := by decide +kernel
theorem dX5_cutSheet_65 : decode cX5_cutSheet 65 = .ok (.invokevirtual 146, 3) := by decide +kernel
theorem dX5_cutSheet_68 : decode cX5_cutSheet 68 = .ok (.aload_n 0, 1) := by decide +kernel
theorem dX5_cutSheet_69 : decode cX5_cutSheet 69 = .ok (.getfield 10, 3) := by decide +kernel
theorem dX5_cutSheet_72 : decode cX5_cutSheet 72 = .ok (.getfield 122, 3) := by decide +kernel
theorem dX5_cutSheet_75 : decode cX5_cutSheet 75 = .ok (.ireturn, 1) := by decide +kernel
theorem dX5_cutPack_0 : decode cX5_cutPack 0 = .ok (.aload_n 0, 1) := by decide +kernel
theorem dX5_cutPack_1 : decode cX5_cutPack 1 = .ok (.getfield 10, 3) := by decide +kernel
theorem dX5_cutPack_4 : decode cX5_cutPack 4 = .ok (.getfield 129, 3) := by decide +kernel
theorem dX5_cutPack_7 : decode cX5_cutPack 7 = .ok (.astore_n 2, 1) := by decide +kernel
theorem dX5_cutPack_8 : decode cX5_cutPack 8 = .ok (.aload_n 2, 1) := by decide +kernel
theorem dX5_cutPack_9 : decode cX5_cutPack 9 = .ok (.invokevirtual 133, 3) := by decide +kernel
theorem dX5_cutPack_12 : decode cX5_cutPack 12 = .ok (.ifCond .ne 6, 3) := by decide +kernel
theorem dX5_cutPack_15 : decode cX5_cutPack 15 = .ok (.bipush (-4), 2) := by decide +kernel
theorem dX5_cutPack_17 : decode cX5_cutPack 17 = .ok (.ireturn, 1) := by decide +kernel
theorem dX5_cutPack_18 : decode cX5_cutPack 18 = .ok (.aload_n 2, 1) := by decide +kernel
theorem dX5_cutPack_19 : decode cX5_cutPack 19 = .ok (.iload_n 1, 1) := by decide +kernel
theorem dX5_cutPack_20 : decode cX5_cutPack 20 = .ok (.invokevirtual 150, 3) := by decide +kernel
theorem dX5_cutPack_23 : decode cX5_cutPack 23 = .ok (.ifCond .ne 6, 3) := by decide +kernel
theorem dX5_cutPack_26 : decode cX5_cutPack 26 = .ok (.bipush (-2), 2) := by decide +kernel
theorem dX5_cutPack_28 : decode cX5_cutPack 28 = .ok (.ireturn, 1) := by decide +kernel
theorem dX5_cutPack_29 : decode cX5_cutPack 29 = .ok (.aload_n 0, 1) := by decide +kernel
theorem dX5_cutPack_30 : decode cX5_cutPack 30 = .ok (.getfield 22, 3) := by decide +kernel
theorem dX5_cutPack_33 : decode cX5_cutPack 33 = .ok (.aload_n 0, 1) := by decide +kernel
theorem dX5_cutPack_34 : decode cX5_cutPack 34 = .ok (.getfield 10, 3) := by decide +kernel
theorem dX5_cutPack_37 : decode cX5_cutPack 37 = .ok (.invokevirtual 45, 3) := by decide +kernel
theorem dX5_cutPack_40 : decode cX5_cutPack 40 = .ok (.aload_n 2, 1) := by decide +kernel
theorem dX5_cutPack_41 : decode cX5_cutPack 41 = .ok (.iload_n 1, 1) := by decide +kernel
theorem dX5_cutPack_42 : decode cX5_cutPack 42 = .ok (.aload_n 0, 1) := by decide +kernel
theorem dX5_cutPack_43 : decode cX5_cutPack 43 = .ok (.getfield 33, 3) := by decide +kernel
theorem dX5_cutPack_46 : decode cX5_cutPack 46 = .ok (.invokevirtual 153, 3) := by decide +kernel
theorem dX5_cutPack_49 : decode cX5_cutPack 49 = .ok (.aload_n 2, 1) := by decide +kernel
theorem dX5_cutPack_50 : decode cX5_cutPack 50 = .ok (.iconst 0, 1) := by decide +kernel
theorem dX5_cutPack_51 : decode cX5_cutPack 51 = .ok (.invokevirtual 157, 3) := by decide +kernel
theorem dX5_cutPack_54 : decode cX5_cutPack 54 = .ok (.ireturn, 1) := by decide +kernel
theorem dX5_shuffle_0 : decode cX5_shuffle 0 = .ok (.aload_n 0, 1) := by decide +kernel
theorem dX5_shuffle_1 : decode cX5_shuffle 1 = .ok (.getfield 10, 3) := by decide +kernel
theorem dX5_shuffle_4 : decode cX5_shuffle 4 = .ok (.getfield 129, 3) := by decide +kernel
theorem dX5_shuffle_7 : decode cX5_shuffle 7 = .ok (.astore_n 2, 1) := by decide +kernel
theorem dX5_shuffle_8 : decode cX5_shuffle 8 = .ok (.aload_n 2, 1) := by decide +kernel
theorem dX5_shuffle_9 : decode cX5_shuffle 9 = .ok (.invokevirtual 133, 3) := by decide +kernel
theorem dX5_shuffle_12 : decode cX5_shuffle 12 = .ok (.ifCond .ne 6, 3) := by decide +kernel
theorem dX5_shuffle_15 : decode cX5_shuffle 15 = .ok (.bipush (-4), 2) := by decide +kernel
theorem dX5_shuffle_17 : decode cX5_shuffle 17 = .ok (.ireturn, 1) := by decide +kernel
theorem dX5_shuffle_18 : decode cX5_shuffle 18 = .ok (.aload_n 2, 1) := by decide +kernel
theorem dX5_shuffle_19 : decode cX5_shuffle 19 = .ok (.iload_n 1, 1) := by decide +kernel
theorem dX5_shuffle_20 : decode cX5_shuffle 20 = .ok (.invokevirtual 150, 3) := by decide +kernel
theorem dX5_shuffle_23 : decode cX5_shuffle 23 = .ok (.ifCond .ne 6, 3) := by decide +kernel
theorem dX5_shuffle_26 : decode cX5_shuffle 26 = .ok (.bipush (-2), 2) := by decide +kernel
theorem dX5_shuffle_28 : decode cX5_shuffle 28 = .ok (.ireturn, 1) := by decide +kernel
theorem dX5_shuffle_29 : decode cX5_shuffle 29 = .ok (.aload_n 0, 1) := by decide +kernel
theorem dX5_shuffle_30 : decode cX5_shuffle 30 = .ok (.getfield 22, 3) := by decide +kernel
theorem dX5_shuffle_33 : decode cX5_shuffle 33 = .ok (.aload_n 0, 1) := by decide +kernel
theorem dX5_shuffle_34 : decode cX5_shuffle 34 = .ok (.getfield 10, 3) := by decide +kernel
theorem dX5_shuffle_37 : decode cX5_shuffle 37 = .ok (.invokevirtual 45, 3) := by decide +kernel
theorem dX5_shuffle_40 : decode cX5_shuffle 40 = .ok (.aload_n 2, 1) := by decide +kernel
theorem dX5_shuffle_41 : decode cX5_shuffle 41 = .ok (.iload_n 1, 1) := by decide +kernel
theorem dX5_shuffle_42 : decode cX5_shuffle 42 = .ok (.aload_n 0, 1) := by decide +kernel
theorem dX5_shuffle_43 : decode cX5_shuffle 43 = .ok (.getfield 33, 3) := by decide +kernel
theorem dX5_shuffle_46 : decode cX5_shuffle 46 = .ok (.invokevirtual 161, 3) := by decide +kernel
theorem dX5_shuffle_49 : decode cX5_shuffle 49 = .ok (.ireturn, 1) := by decide +kernel
theorem dX5_deal_0 : decode cX5_deal 0 = .ok (.aload_n 0, 1) := by decide +kernel
theorem dX5_deal_1 : decode cX5_deal 1 = .ok (.getfield 10, 3) := by decide +kernel
theorem dX5_deal_4 : decode cX5_deal 4 = .ok (.getfield 129, 3) := by decide +kernel
theorem dX5_deal_7 : decode cX5_deal 7 = .ok (.astore_n 2, 1) := by decide +kernel
theorem dX5_deal_8 : decode cX5_deal 8 = .ok (.aload_n 2, 1) := by decide +kernel
theorem dX5_deal_9 : decode cX5_deal 9 = .ok (.invokevirtual 133, 3) := by decide +kernel
theorem dX5_deal_12 : decode cX5_deal 12 = .ok (.ifCond .ne 6, 3) := by decide +kernel
theorem dX5_deal_15 : decode cX5_deal 15 = .ok (.bipush (-4), 2) := by decide +kernel
theorem dX5_deal_17 : decode cX5_deal 17 = .ok (.ireturn, 1) := by decide +kernel
theorem dX5_deal_18 : decode cX5_deal 18 = .ok (.iload_n 1, 1) := by decide +kernel
theorem dX5_deal_19 : decode cX5_deal 19 = .ok (.iconst 1, 1) := by decide +kernel
theorem dX5_deal_20 : decode cX5_deal 20 = .ok (.if_icmp .lt 11, 3) := by decide +kernel
theorem dX5_deal_23 : decode cX5_deal 23 = .ok (.iload_n 1, 1) := by decide +kernel
theorem dX5_deal_24 : decode cX5_deal 24 = .ok (.aload_n 2, 1) := by decide +kernel
theorem dX5_deal_25 : decode cX5_deal 25 = .ok (.invokevirtual 165, 3) := by decide +kernel
theorem dX5_deal_28 : decode cX5_deal 28 = .ok (.if_icmp .le 6, 3) := by decide +kernel
theorem dX5_deal_31 : decode cX5_deal 31 = .ok (.bipush (-2), 2) := by decide +kernel
theorem dX5_deal_33 : decode cX5_deal 33 = .ok (.ireturn, 1) := by decide +kernel
theorem dX5_deal_34 : decode cX5_deal 34 = .ok (.aload_n 0, 1) := by decide +kernel
theorem dX5_deal_35 : decode cX5_deal 35 = .ok (.getfield 22, 3) := by decide +kernel
theorem dX5_deal_38 : decode cX5_deal 38 = .ok (.aload_n 0, 1) := by decide +kernel
theorem dX5_deal_39 : decode cX5_deal 39 = .ok (.getfield 10, 3) := by decide +kernel
theorem dX5_deal_42 : decode cX5_deal 42 = .ok (.invokevirtual 45, 3) := by decide +kernel
theorem dX5_deal_45 : decode cX5_deal 45 = .ok (.aload_n 2, 1) := by decide +kernel
theorem dX5_deal_46 : decode cX5_deal 46 = .ok (.dup, 1) := by decide +kernel
theorem dX5_deal_47 : decode cX5_deal 47 = .ok (.getfield 168, 3) := by decide +kernel
theorem dX5_deal_50 : decode cX5_deal 50 = .ok (.iload_n 1, 1) := by decide +kernel
theorem dX5_deal_51 : decode cX5_deal 51 = .ok (.iadd, 1) := by decide +kernel
theorem dX5_deal_52 : decode cX5_deal 52 = .ok (.putfield 168, 3) := by decide +kernel
theorem dX5_deal_55 : decode cX5_deal 55 = .ok (.aload_n 2, 1) := by decide +kernel
theorem dX5_deal_56 : decode cX5_deal 56 = .ok (.invokevirtual 165, 3) := by decide +kernel
theorem dX5_deal_59 : decode cX5_deal 59 = .ok (.ireturn, 1) := by decide +kernel
theorem dX5_sell_0 : decode cX5_sell 0 = .ok (.aload_n 0, 1) := by decide +kernel
theorem dX5_sell_1 : decode cX5_sell 1 = .ok (.getfield 10, 3) := by decide +kernel
theorem dX5_sell_4 : decode cX5_sell 4 = .ok (.getfield 129, 3) := by decide +kernel
theorem dX5_sell_7 : decode cX5_sell 7 = .ok (.invokevirtual 133, 3) := by decide +kernel
theorem dX5_sell_10 : decode cX5_sell 10 = .ok (.ifCond .ne 6, 3) := by decide +kernel
theorem dX5_sell_13 : decode cX5_sell 13 = .ok (.bipush (-4), 2) := by decide +kernel
theorem dX5_sell_15 : decode cX5_sell 15 = .ok (.ireturn, 1) := by decide +kernel
theorem dX5_sell_16 : decode cX5_sell 16 = .ok (.aload_n 0, 1) := by decide +kernel
theorem dX5_sell_17 : decode cX5_sell 17 = .ok (.getfield 10, 3) := by decide +kernel
theorem dX5_sell_20 : decode cX5_sell 20 = .ok (.invokevirtual 171, 3) := by decide +kernel
theorem dX5_sell_23 : decode cX5_sell 23 = .ok (.istore_n 1, 1) := by decide +kernel
theorem dX5_sell_24 : decode cX5_sell 24 = .ok (.iload_n 1, 1) := by decide +kernel
theorem dX5_sell_25 : decode cX5_sell 25 = .ok (.ifCond .eq 8, 3) := by decide +kernel
theorem dX5_sell_28 : decode cX5_sell 28 = .ok (.bipush (-10), 2) := by decide +kernel
theorem dX5_sell_30 : decode cX5_sell 30 = .ok (.iload_n 1, 1) := by decide +kernel
theorem dX5_sell_31 : decode cX5_sell 31 = .ok (.isub, 1) := by decide +kernel
theorem dX5_sell_32 : decode cX5_sell 32 = .ok (.ireturn, 1) := by decide +kernel
theorem dX5_sell_33 : decode cX5_sell 33 = .ok (.aload_n 0, 1) := by decide +kernel
theorem dX5_sell_34 : decode cX5_sell 34 = .ok (.getfield 22, 3) := by decide +kernel
theorem dX5_sell_37 : decode cX5_sell 37 = .ok (.aload_n 0, 1) := by decide +kernel
theorem dX5_sell_38 : decode cX5_sell 38 = .ok (.getfield 10, 3) := by decide +kernel
theorem dX5_sell_41 : decode cX5_sell 41 = .ok (.invokevirtual 45, 3) := by decide +kernel
theorem dX5_sell_44 : decode cX5_sell 44 = .ok (.aload_n 0, 1) := by decide +kernel
theorem dX5_sell_45 : decode cX5_sell 45 = .ok (.getfield 10, 3) := by decide +kernel
theorem dX5_sell_48 : decode cX5_sell 48 = .ok (.getfield 119, 3) := by decide +kernel
theorem dX5_sell_51 : decode cX5_sell 51 = .ok (.iconst 3, 1) := by decide +kernel
theorem dX5_sell_52 : decode cX5_sell 52 = .ok (.invokestatic 56, 3) := by decide +kernel
theorem dX5_sell_55 : decode cX5_sell 55 = .ok (.istore_n 2, 1) := by decide +kernel
theorem dX5_sell_56 : decode cX5_sell 56 = .ok (.aload_n 0, 1) := by decide +kernel
theorem dX5_sell_57 : decode cX5_sell 57 = .ok (.getfield 10, 3) := by decide +kernel
theorem dX5_sell_60 : decode cX5_sell 60 = .ok (.dup, 1) := by decide +kernel
theorem dX5_sell_61 : decode cX5_sell 61 = .ok (.getfield 174, 3) := by decide +kernel
theorem dX5_sell_64 : decode cX5_sell 64 = .ok (.iload_n 2, 1) := by decide +kernel
theorem dX5_sell_65 : decode cX5_sell 65 = .ok (.iadd, 1) := by decide +kernel
theorem dX5_sell_66 : decode cX5_sell 66 = .ok (.putfield 174, 3) := by decide +kernel
theorem dX5_sell_69 : decode cX5_sell 69 = .ok (.aload_n 0, 1) := by decide +kernel
theorem dX5_sell_70 : decode cX5_sell 70 = .ok (.getfield 10, 3) := by decide +kernel
theorem dX5_sell_73 : decode cX5_sell 73 = .ok (.dup, 1) := by decide +kernel
theorem dX5_sell_74 : decode cX5_sell 74 = .ok (.getfield 177, 3) := by decide +kernel
theorem dX5_sell_77 : decode cX5_sell 77 = .ok (.iconst 1, 1) := by decide +kernel
theorem dX5_sell_78 : decode cX5_sell 78 = .ok (.iadd, 1) := by decide +kernel
theorem dX5_sell_79 : decode cX5_sell 79 = .ok (.putfield 177, 3) := by decide +kernel
theorem dX5_sell_82 : decode cX5_sell 82 = .ok (.aload_n 0, 1) := by decide +kernel
theorem dX5_sell_83 : decode cX5_sell 83 = .ok (.getfield 10, 3) := by decide +kernel
theorem dX5_sell_86 : decode cX5_sell 86 = .ok (.getfield 129, 3) := by decide +kernel
theorem dX5_sell_89 : decode cX5_sell 89 = .ok (.invokevirtual 180, 3) := by decide +kernel
theorem dX5_sell_92 : decode cX5_sell 92 = .ok (.iload_n 2, 1) := by decide +kernel
theorem dX5_sell_93 : decode cX5_sell 93 = .ok (.ireturn, 1) := by decide +kernel
theorem dX5_pulp_0 : decode cX5_pulp 0 = .ok (.aload_n 0, 1) := by decide +kernel
theorem dX5_pulp_1 : decode cX5_pulp 1 = .ok (.getfield 10, 3) := by decide +kernel
theorem dX5_pulp_4 : decode cX5_pulp 4 = .ok (.getfield 129, 3) := by decide +kernel
theorem dX5_pulp_7 : decode cX5_pulp 7 = .ok (.invokevirtual 133, 3) := by decide +kernel
theorem dX5_pulp_10 : decode cX5_pulp 10 = .ok (.ifCond .ne 6, 3) := by decide +kernel
theorem dX5_pulp_13 : decode cX5_pulp 13 = .ok (.bipush (-4), 2) := by decide +kernel
theorem dX5_pulp_15 : decode cX5_pulp 15 = .ok (.ireturn, 1) := by decide +kernel
theorem dX5_pulp_16 : decode cX5_pulp 16 = .ok (.aload_n 0, 1) := by decide +kernel
theorem dX5_pulp_17 : decode cX5_pulp 17 = .ok (.getfield 22, 3) := by decide +kernel
theorem dX5_pulp_20 : decode cX5_pulp 20 = .ok (.aload_n 0, 1) := by decide +kernel
theorem dX5_pulp_21 : decode cX5_pulp 21 = .ok (.getfield 10, 3) := by decide +kernel
theorem dX5_pulp_24 : decode cX5_pulp 24 = .ok (.invokevirtual 45, 3) := by decide +kernel
theorem dX5_pulp_27 : decode cX5_pulp 27 = .ok (.aload_n 0, 1) := by decide +kernel
theorem dX5_pulp_28 : decode cX5_pulp 28 = .ok (.getfield 10, 3) := by decide +kernel
theorem dX5_pulp_31 : decode cX5_pulp 31 = .ok (.getfield 129, 3) := by decide +kernel
theorem dX5_pulp_34 : decode cX5_pulp 34 = .ok (.invokevirtual 165, 3) := by decide +kernel
theorem dX5_pulp_37 : decode cX5_pulp 37 = .ok (.istore_n 1, 1) := by decide +kernel
theorem dX5_pulp_38 : decode cX5_pulp 38 = .ok (.aload_n 0, 1) := by decide +kernel
theorem dX5_pulp_39 : decode cX5_pulp 39 = .ok (.getfield 10, 3) := by decide +kernel
theorem dX5_pulp_42 : decode cX5_pulp 42 = .ok (.dup, 1) := by decide +kernel
theorem dX5_pulp_43 : decode cX5_pulp 43 = .ok (.getfield 183, 3) := by decide +kernel
theorem dX5_pulp_46 : decode cX5_pulp 46 = .ok (.iconst 1, 1) := by decide +kernel
theorem dX5_pulp_47 : decode cX5_pulp 47 = .ok (.iadd, 1) := by decide +kernel
theorem dX5_pulp_48 : decode cX5_pulp 48 = .ok (.putfield 183, 3) := by decide +kernel
theorem dX5_pulp_51 : decode cX5_pulp 51 = .ok (.aload_n 0, 1) := by decide +kernel
theorem dX5_pulp_52 : decode cX5_pulp 52 = .ok (.getfield 10, 3) := by decide +kernel
theorem dX5_pulp_55 : decode cX5_pulp 55 = .ok (.getfield 129, 3) := by decide +kernel
theorem dX5_pulp_58 : decode cX5_pulp 58 = .ok (.invokevirtual 180, 3) := by decide +kernel
theorem dX5_pulp_61 : decode cX5_pulp 61 = .ok (.iload_n 1, 1) := by decide +kernel
theorem dX5_pulp_62 : decode cX5_pulp 62 = .ok (.ireturn, 1) := by decide +kernel
theorem dX5_type_0 : decode cX5_type 0 = .ok (.aload_n 0, 1) := by decide +kernel
theorem dX5_type_1 : decode cX5_type 1 = .ok (.getfield 29, 3) := by decide +kernel
theorem dX5_type_4 : decode cX5_type 4 = .ok (.getfield 186, 3) := by decide +kernel
theorem dX5_type_7 : decode cX5_type 7 = .ok (.bipush 60, 2) := by decide +kernel
theorem dX5_type_9 : decode cX5_type 9 = .ok (.if_icmp .lt 6, 3) := by decide +kernel
theorem dX5_type_12 : decode cX5_type 12 = .ok (.bipush (-3), 2) := by decide +kernel
theorem dX5_type_14 : decode cX5_type 14 = .ok (.ireturn, 1) := by decide +kernel
theorem dX5_type_15 : decode cX5_type 15 = .ok (.aload_n 0, 1) := by decide +kernel
theorem dX5_type_16 : decode cX5_type 16 = .ok (.getfield 29, 3) := by decide +kernel
theorem dX5_type_19 : decode cX5_type 19 = .ok (.iload_n 1, 1) := by decide +kernel
theorem dX5_type_20 : decode cX5_type 20 = .ok (.invokevirtual 189, 3) := by decide +kernel
theorem dX5_type_23 : decode cX5_type 23 = .ok (.aload_n 0, 1) := by decide +kernel
theorem dX5_type_24 : decode cX5_type 24 = .ok (.getfield 29, 3) := by decide +kernel
theorem dX5_type_27 : decode cX5_type 27 = .ok (.getfield 186, 3) := by decide +kernel
theorem dX5_type_30 : decode cX5_type 30 = .ok (.ireturn, 1) := by decide +kernel
theorem dX5_clearText_0 : decode cX5_clearText 0 = .ok (.aload_n 0, 1) := by decide +kernel
theorem dX5_clearText_1 : decode cX5_clearText 1 = .ok (.getfield 29, 3) := by decide +kernel
theorem dX5_clearText_4 : decode cX5_clearText 4 = .ok (.getfield 186, 3) := by decide +kernel
theorem dX5_clearText_7 : decode cX5_clearText 7 = .ok (.istore_n 1, 1) := by decide +kernel
theorem dX5_clearText_8 : decode cX5_clearText 8 = .ok (.aload_n 0, 1) := by decide +kernel
theorem dX5_clearText_9 : decode cX5_clearText 9 = .ok (.getfield 29, 3) := by decide +kernel
theorem dX5_clearText_12 : decode cX5_clearText 12 = .ok (.iconst 0, 1) := by decide +kernel
theorem dX5_clearText_13 : decode cX5_clearText 13 = .ok (.putfield 186, 3) := by decide +kernel
theorem dX5_clearText_16 : decode cX5_clearText 16 = .ok (.iload_n 1, 1) := by decide +kernel
theorem dX5_clearText_17 : decode cX5_clearText 17 = .ok (.ireturn, 1) := by decide +kernel
theorem dX5_fault_0 : decode cX5_fault 0 = .ok (.aload_n 0, 1) := by decide +kernel
theorem dX5_fault_1 : decode cX5_fault 1 = .ok (.getfield 29, 3) := by decide +kernel
theorem dX5_fault_4 : decode cX5_fault 4 = .ok (.invokevirtual 87, 3) := by decide +kernel
theorem dX5_fault_7 : decode cX5_fault 7 = .ok (.ireturn, 1) := by decide +kernel
theorem dX5_undo_0 : decode cX5_undo 0 = .ok (.aload_n 0, 1) := by decide +kernel
theorem dX5_undo_1 : decode cX5_undo 1 = .ok (.getfield 22, 3) := by decide +kernel
theorem dX5_undo_4 : decode cX5_undo 4 = .ok (.getfield 193, 3) := by decide +kernel
theorem dX5_undo_7 : decode cX5_undo 7 = .ok (.ifCond .ne 6, 3) := by decide +kernel
theorem dX5_undo_10 : decode cX5_undo 10 = .ok (.bipush (-5), 2) := by decide +kernel
theorem dX5_undo_12 : decode cX5_undo 12 = .ok (.ireturn, 1) := by decide +kernel
theorem dX5_undo_13 : decode cX5_undo 13 = .ok (.aload_n 0, 1) := by decide +kernel
theorem dX5_undo_14 : decode cX5_undo 14 = .ok (.getfield 22, 3) := by decide +kernel
theorem dX5_undo_17 : decode cX5_undo 17 = .ok (.aload_n 0, 1) := by decide +kernel
theorem dX5_undo_18 : decode cX5_undo 18 = .ok (.getfield 10, 3) := by decide +kernel
theorem dX5_undo_21 : decode cX5_undo 21 = .ok (.invokevirtual 196, 3) := by decide +kernel
theorem dX5_undo_24 : decode cX5_undo 24 = .ok (.aload_n 0, 1) := by decide +kernel
theorem dX5_undo_25 : decode cX5_undo 25 = .ok (.getfield 22, 3) := by decide +kernel
theorem dX5_undo_28 : decode cX5_undo 28 = .ok (.getfield 193, 3) := by decide +kernel
theorem dX5_undo_31 : decode cX5_undo 31 = .ok (.ireturn, 1) := by decide +kernel
theorem dX5_keep_0 : decode cX5_keep 0 = .ok (.aload_n 0, 1) := by decide +kernel
theorem dX5_keep_1 : decode cX5_keep 1 = .ok (.getfield 16, 3) := by decide +kernel
theorem dX5_keep_4 : decode cX5_keep 4 = .ok (.aload_n 0, 1) := by decide +kernel
theorem dX5_keep_5 : decode cX5_keep 5 = .ok (.getfield 10, 3) := by decide +kernel
theorem dX5_keep_8 : decode cX5_keep 8 = .ok (.invokevirtual 199, 3) := by decide +kernel
theorem dX5_keep_11 : decode cX5_keep 11 = .ok (.aload_n 0, 1) := by decide +kernel
theorem dX5_keep_12 : decode cX5_keep 12 = .ok (.iconst 1, 1) := by decide +kernel
theorem dX5_keep_13 : decode cX5_keep 13 = .ok (.putfield 37, 3) := by decide +kernel
theorem dX5_keep_16 : decode cX5_keep 16 = .ok (.aload_n 0, 1) := by decide +kernel
theorem dX5_keep_17 : decode cX5_keep 17 = .ok (.getfield 10, 3) := by decide +kernel
theorem dX5_keep_20 : decode cX5_keep 20 = .ok (.getfield 202, 3) := by decide +kernel
theorem dX5_keep_23 : decode cX5_keep 23 = .ok (.ireturn, 1) := by decide +kernel
theorem dX5_restore_0 : decode cX5_restore 0 = .ok (.aload_n 0, 1) := by decide +kernel
theorem dX5_restore_1 : decode cX5_restore 1 = .ok (.getfield 37, 3) := by decide +kernel
theorem dX5_restore_4 : decode cX5_restore 4 = .ok (.ifCond .ne 6, 3) := by decide +kernel
theorem dX5_restore_7 : decode cX5_restore 7 = .ok (.bipush (-5), 2) := by decide +kernel
theorem dX5_restore_9 : decode cX5_restore 9 = .ok (.ireturn, 1) := by decide +kernel
theorem dX5_restore_10 : decode cX5_restore 10 = .ok (.aload_n 0, 1) := by decide +kernel
theorem dX5_restore_11 : decode cX5_restore 11 = .ok (.getfield 22, 3) := by decide +kernel
theorem dX5_restore_14 : decode cX5_restore 14 = .ok (.aload_n 0, 1) := by decide +kernel
theorem dX5_restore_15 : decode cX5_restore 15 = .ok (.getfield 10, 3) := by decide +kernel
theorem dX5_restore_18 : decode cX5_restore 18 = .ok (.invokevirtual 45, 3) := by decide +kernel
theorem dX5_restore_21 : decode cX5_restore 21 = .ok (.aload_n 0, 1) := by decide +kernel
theorem dX5_restore_22 : decode cX5_restore 22 = .ok (.getfield 10, 3) := by decide +kernel
theorem dX5_restore_25 : decode cX5_restore 25 = .ok (.aload_n 0, 1) := by decide +kernel
theorem dX5_restore_26 : decode cX5_restore 26 = .ok (.getfield 16, 3) := by decide +kernel
theorem dX5_restore_29 : decode cX5_restore 29 = .ok (.invokevirtual 199, 3) := by decide +kernel
theorem dX5_restore_32 : decode cX5_restore 32 = .ok (.aload_n 0, 1) := by decide +kernel
theorem dX5_restore_33 : decode cX5_restore 33 = .ok (.getfield 10, 3) := by decide +kernel
theorem dX5_restore_36 : decode cX5_restore 36 = .ok (.getfield 202, 3) := by decide +kernel
theorem dX5_restore_39 : decode cX5_restore 39 = .ok (.ireturn, 1) := by decide +kernel
theorem dX5_block_0 : decode cX5_block 0 = .ok (.iload_n 1, 1) := by decide +kernel
theorem dX5_block_1 : decode cX5_block 1 = .ok (.invokestatic 41, 3) := by decide +kernel
theorem dX5_block_4 : decode cX5_block 4 = .ok (.ifCond .ne 5, 3) := by decide +kernel
theorem dX5_block_7 : decode cX5_block 7 = .ok (.iconst (-1), 1) := by decide +kernel
theorem dX5_block_8 : decode cX5_block 8 = .ok (.ireturn, 1) := by decide +kernel
theorem dX5_block_9 : decode cX5_block 9 = .ok (.iload_n 2, 1) := by decide +kernel
theorem dX5_block_10 : decode cX5_block 10 = .ok (.lookupswitch 50 #[(0, 26), (1, 38)], 26) := by decide +kernel
theorem dX5_block_36 : decode cX5_block 36 = .ok (.aload_n 0, 1) := by decide +kernel
theorem dX5_block_37 : decode cX5_block 37 = .ok (.getfield 10, 3) := by decide +kernel
theorem dX5_block_40 : decode cX5_block 40 = .ok (.getfield 53, 3) := by decide +kernel
theorem dX5_block_43 : decode cX5_block 43 = .ok (.iload_n 1, 1) := by decide +kernel
theorem dX5_block_44 : decode cX5_block 44 = .ok (.invokestatic 56, 3) := by decide +kernel
theorem dX5_block_47 : decode cX5_block 47 = .ok (.ireturn, 1) := by decide +kernel
theorem dX5_block_48 : decode cX5_block 48 = .ok (.aload_n 0, 1) := by decide +kernel
theorem dX5_block_49 : decode cX5_block 49 = .ok (.getfield 10, 3) := by decide +kernel
theorem dX5_block_52 : decode cX5_block 52 = .ok (.getfield 71, 3) := by decide +kernel
theorem dX5_block_55 : decode cX5_block 55 = .ok (.iload_n 1, 1) := by decide +kernel
theorem dX5_block_56 : decode cX5_block 56 = .ok (.invokestatic 56, 3) := by decide +kernel
theorem dX5_block_59 : decode cX5_block 59 = .ok (.ireturn, 1) := by decide +kernel
theorem dX5_block_60 : decode cX5_block 60 = .ok (.bipush (-2), 2) := by decide +kernel
theorem dX5_block_62 : decode cX5_block 62 = .ok (.ireturn, 1) := by decide +kernel
theorem dX5_cardOf_0 : decode cX5_cardOf 0 = .ok (.iload_n 1, 1) := by decide +kernel
theorem dX5_cardOf_1 : decode cX5_cardOf 1 = .ok (.invokestatic 74, 3) := by decide +kernel
theorem dX5_cardOf_4 : decode cX5_cardOf 4 = .ok (.ifCond .ne 5, 3) := by decide +kernel
theorem dX5_cardOf_7 : decode cX5_cardOf 7 = .ok (.iconst (-1), 1) := by decide +kernel
theorem dX5_cardOf_8 : decode cX5_cardOf 8 = .ok (.ireturn, 1) := by decide +kernel
theorem dX5_cardOf_9 : decode cX5_cardOf 9 = .ok (.iload_n 2, 1) := by decide +kernel
theorem dX5_cardOf_10 : decode cX5_cardOf 10 = .ok (.tableswitch 78 0 3 #[30, 39, 54, 66], 30) := by decide +kernel
theorem dX5_cardOf_40 : decode cX5_cardOf 40 = .ok (.aload_n 0, 1) := by decide +kernel
theorem dX5_cardOf_41 : decode cX5_cardOf 41 = .ok (.getfield 10, 3) := by decide +kernel
theorem dX5_cardOf_44 : decode cX5_cardOf 44 = .ok (.iload_n 1, 1) := by decide +kernel
theorem dX5_cardOf_45 : decode cX5_cardOf 45 = .ok (.invokevirtual 205, 3) := by decide +kernel
theorem dX5_cardOf_48 : decode cX5_cardOf 48 = .ok (.ireturn, 1) := by decide +kernel
theorem dX5_cardOf_49 : decode cX5_cardOf 49 = .ok (.aload_n 0, 1) := by decide +kernel
theorem dX5_cardOf_50 : decode cX5_cardOf 50 = .ok (.getfield 10, 3) := by decide +kernel
theorem dX5_cardOf_53 : decode cX5_cardOf 53 = .ok (.getfield 80, 3) := by decide +kernel
theorem dX5_cardOf_56 : decode cX5_cardOf 56 = .ok (.iload_n 1, 1) := by decide +kernel
theorem dX5_cardOf_57 : decode cX5_cardOf 57 = .ok (.invokestatic 56, 3) := by decide +kernel
theorem dX5_cardOf_60 : decode cX5_cardOf 60 = .ok (.bipush 100, 2) := by decide +kernel
theorem dX5_cardOf_62 : decode cX5_cardOf 62 = .ok (.iadd, 1) := by decide +kernel
theorem dX5_cardOf_63 : decode cX5_cardOf 63 = .ok (.ireturn, 1) := by decide +kernel
theorem dX5_cardOf_64 : decode cX5_cardOf 64 = .ok (.aload_n 0, 1) := by decide +kernel
theorem dX5_cardOf_65 : decode cX5_cardOf 65 = .ok (.getfield 10, 3) := by decide +kernel
theorem dX5_cardOf_68 : decode cX5_cardOf 68 = .ok (.getfield 129, 3) := by decide +kernel
theorem dX5_cardOf_71 : decode cX5_cardOf 71 = .ok (.iload_n 1, 1) := by decide +kernel
theorem dX5_cardOf_72 : decode cX5_cardOf 72 = .ok (.invokevirtual 208, 3) := by decide +kernel
theorem dX5_cardOf_75 : decode cX5_cardOf 75 = .ok (.ireturn, 1) := by decide +kernel
theorem dX5_cardOf_76 : decode cX5_cardOf 76 = .ok (.aload_n 0, 1) := by decide +kernel
theorem dX5_cardOf_77 : decode cX5_cardOf 77 = .ok (.getfield 10, 3) := by decide +kernel
theorem dX5_cardOf_80 : decode cX5_cardOf 80 = .ok (.getfield 129, 3) := by decide +kernel
theorem dX5_cardOf_83 : decode cX5_cardOf 83 = .ok (.iload_n 1, 1) := by decide +kernel
theorem dX5_cardOf_84 : decode cX5_cardOf 84 = .ok (.invokevirtual 211, 3) := by decide +kernel
theorem dX5_cardOf_87 : decode cX5_cardOf 87 = .ok (.ireturn, 1) := by decide +kernel
theorem dX5_cardOf_88 : decode cX5_cardOf 88 = .ok (.bipush (-2), 2) := by decide +kernel
theorem dX5_cardOf_90 : decode cX5_cardOf 90 = .ok (.ireturn, 1) := by decide +kernel
theorem dX5_sheet_0 : decode cX5_sheet 0 = .ok (.aload_n 0, 1) := by decide +kernel
theorem dX5_sheet_1 : decode cX5_sheet 1 = .ok (.getfield 10, 3) := by decide +kernel
theorem dX5_sheet_4 : decode cX5_sheet 4 = .ok (.iload_n 1, 1) := by decide +kernel
theorem dX5_sheet_5 : decode cX5_sheet 5 = .ok (.invokevirtual 138, 3) := by decide +kernel
theorem dX5_sheet_8 : decode cX5_sheet 8 = .ok (.astore 4, 2) := by decide +kernel
theorem dX5_sheet_10 : decode cX5_sheet 10 = .ok (.aload 4, 2) := by decide +kernel
theorem dX5_sheet_12 : decode cX5_sheet 12 = .ok (.ifnull 10, 3) := by decide +kernel
theorem dX5_sheet_15 : decode cX5_sheet 15 = .ok (.iload_n 2, 1) := by decide +kernel
theorem dX5_sheet_16 : decode cX5_sheet 16 = .ok (.invokestatic 41, 3) := by decide +kernel
theorem dX5_sheet_19 : decode cX5_sheet 19 = .ok (.ifCond .ne 5, 3) := by decide +kernel
theorem dX5_sheet_22 : decode cX5_sheet 22 = .ok (.iconst (-1), 1) := by decide +kernel
theorem dX5_sheet_23 : decode cX5_sheet 23 = .ok (.ireturn, 1) := by decide +kernel
theorem dX5_sheet_24 : decode cX5_sheet 24 = .ok (.aload 4, 2) := by decide +kernel
theorem dX5_sheet_26 : decode cX5_sheet 26 = .ok (.getfield 214, 3) := by decide +kernel
theorem dX5_sheet_29 : decode cX5_sheet 29 = .ok (.iload_n 2, 1) := by decide +kernel
theorem dX5_sheet_30 : decode cX5_sheet 30 = .ok (.invokestatic 56, 3) := by decide +kernel
theorem dX5_sheet_33 : decode cX5_sheet 33 = .ok (.istore 5, 2) := by decide +kernel
theorem dX5_sheet_35 : decode cX5_sheet 35 = .ok (.iload_n 3, 1) := by decide +kernel
theorem dX5_sheet_36 : decode cX5_sheet 36 = .ok (.lookupswitch 42 #[(0, 28), (1, 31)], 28) := by decide +kernel
theorem dX5_sheet_64 : decode cX5_sheet 64 = .ok (.iload 5, 2) := by decide +kernel
theorem dX5_sheet_66 : decode cX5_sheet 66 = .ok (.ireturn, 1) := by decide +kernel
theorem dX5_sheet_67 : decode cX5_sheet 67 = .ok (.aload 4, 2) := by decide +kernel
theorem dX5_sheet_69 : decode cX5_sheet 69 = .ok (.getfield 217, 3) := by decide +kernel
theorem dX5_sheet_72 : decode cX5_sheet 72 = .ok (.iload 5, 2) := by decide +kernel
theorem dX5_sheet_74 : decode cX5_sheet 74 = .ok (.invokestatic 56, 3) := by decide +kernel
theorem dX5_sheet_77 : decode cX5_sheet 77 = .ok (.ireturn, 1) := by decide +kernel
theorem dX5_sheet_78 : decode cX5_sheet 78 = .ok (.bipush (-2), 2) := by decide +kernel
theorem dX5_sheet_80 : decode cX5_sheet 80 = .ok (.ireturn, 1) := by decide +kernel
theorem dX5_pack_0 : decode cX5_pack 0 = .ok (.aload_n 0, 1) := by decide +kernel
theorem dX5_pack_1 : decode cX5_pack 1 = .ok (.getfield 10, 3) := by decide +kernel
theorem dX5_pack_4 : decode cX5_pack 4 = .ok (.getfield 129, 3) := by decide +kernel
theorem dX5_pack_7 : decode cX5_pack 7 = .ok (.astore_n 3, 1) := by decide +kernel
theorem dX5_pack_8 : decode cX5_pack 8 = .ok (.iload_n 1, 1) := by decide +kernel
theorem dX5_pack_9 : decode cX5_pack 9 = .ok (.ifCond .lt 11, 3) := by decide +kernel
theorem dX5_pack_12 : decode cX5_pack 12 = .ok (.iload_n 1, 1) := by decide +kernel
theorem dX5_pack_13 : decode cX5_pack 13 = .ok (.aload_n 3, 1) := by decide +kernel
theorem dX5_pack_14 : decode cX5_pack 14 = .ok (.invokevirtual 165, 3) := by decide +kernel
theorem dX5_pack_17 : decode cX5_pack 17 = .ok (.if_icmp .lt 5, 3) := by decide +kernel
theorem dX5_pack_20 : decode cX5_pack 20 = .ok (.iconst (-1), 1) := by decide +kernel
theorem dX5_pack_21 : decode cX5_pack 21 = .ok (.ireturn, 1) := by decide +kernel
theorem dX5_pack_22 : decode cX5_pack 22 = .ok (.iload_n 2, 1) := by decide +kernel
theorem dX5_pack_23 : decode cX5_pack 23 = .ok (.tableswitch 72 0 4 #[33, 39, 45, 51, 57], 33) := by decide +kernel
theorem dX5_pack_56 : decode cX5_pack 56 = .ok (.aload_n 3, 1) := by decide +kernel
theorem dX5_pack_57 : decode cX5_pack 57 = .ok (.iload_n 1, 1) := by decide +kernel
theorem dX5_pack_58 : decode cX5_pack 58 = .ok (.invokevirtual 157, 3) := by decide +kernel
theorem dX5_pack_61 : decode cX5_pack 61 = .ok (.ireturn, 1) := by decide +kernel
theorem dX5_pack_62 : decode cX5_pack 62 = .ok (.aload_n 3, 1) := by decide +kernel
theorem dX5_pack_63 : decode cX5_pack 63 = .ok (.iload_n 1, 1) := by decide +kernel
theorem dX5_pack_64 : decode cX5_pack 64 = .ok (.invokevirtual 220, 3) := by decide +kernel
theorem dX5_pack_67 : decode cX5_pack 67 = .ok (.ireturn, 1) := by decide +kernel
theorem dX5_pack_68 : decode cX5_pack 68 = .ok (.aload_n 3, 1) := by decide +kernel
theorem dX5_pack_69 : decode cX5_pack 69 = .ok (.iload_n 1, 1) := by decide +kernel
theorem dX5_pack_70 : decode cX5_pack 70 = .ok (.invokevirtual 223, 3) := by decide +kernel
theorem dX5_pack_73 : decode cX5_pack 73 = .ok (.ireturn, 1) := by decide +kernel
theorem dX5_pack_74 : decode cX5_pack 74 = .ok (.aload_n 3, 1) := by decide +kernel
theorem dX5_pack_75 : decode cX5_pack 75 = .ok (.iload_n 1, 1) := by decide +kernel
theorem dX5_pack_76 : decode cX5_pack 76 = .ok (.invokevirtual 226, 3) := by decide +kernel
theorem dX5_pack_79 : decode cX5_pack 79 = .ok (.ireturn, 1) := by decide +kernel
theorem dX5_pack_80 : decode cX5_pack 80 = .ok (.aload_n 3, 1) := by decide +kernel
theorem dX5_pack_81 : decode cX5_pack 81 = .ok (.iload_n 1, 1) := by decide +kernel
theorem dX5_pack_82 : decode cX5_pack 82 = .ok (.invokevirtual 223, 3) := by decide +kernel
theorem dX5_pack_85 : decode cX5_pack 85 = .ok (.iconst 1, 1) := by decide +kernel
theorem dX5_pack_86 : decode cX5_pack 86 = .ok (.if_icmp .ne 7, 3) := by decide +kernel
theorem dX5_pack_89 : decode cX5_pack 89 = .ok (.iconst 1, 1) := by decide +kernel
theorem dX5_pack_90 : decode cX5_pack 90 = .ok (.goto 4, 3) := by decide +kernel
theorem dX5_pack_93 : decode cX5_pack 93 = .ok (.iconst 0, 1) := by decide +kernel
theorem dX5_pack_94 : decode cX5_pack 94 = .ok (.ireturn, 1) := by decide +kernel
theorem dX5_pack_95 : decode cX5_pack 95 = .ok (.bipush (-2), 2) := by decide +kernel
theorem dX5_pack_97 : decode cX5_pack 97 = .ok (.ireturn, 1) := by decide +kernel
theorem dX5_count_0 : decode cX5_count 0 = .ok (.iload_n 1, 1) := by decide +kernel
theorem dX5_count_1 : decode cX5_count 1 = .ok (.tableswitch 284 0 17 #[87, 95, 103, 122, 133, 144, 155, 166, 174, 182, 190, 198, 220, 228, 236, 248, 260, 272], 87) := by decide +kernel
theorem dX5_count_88 : decode cX5_count 88 = .ok (.aload_n 0, 1) := by decide +kernel
theorem dX5_count_89 : decode cX5_count 89 = .ok (.getfield 10, 3) := by decide +kernel
theorem dX5_count_92 : decode cX5_count 92 = .ok (.getfield 122, 3) := by decide +kernel
theorem dX5_count_95 : decode cX5_count 95 = .ok (.ireturn, 1) := by decide +kernel
theorem dX5_count_96 : decode cX5_count 96 = .ok (.aload_n 0, 1) := by decide +kernel
theorem dX5_count_97 : decode cX5_count 97 = .ok (.getfield 10, 3) := by decide +kernel
theorem dX5_count_100 : decode cX5_count 100 = .ok (.getfield 202, 3) := by decide +kernel
theorem dX5_count_103 : decode cX5_count 103 = .ok (.ireturn, 1) := by decide +kernel
theorem dX5_count_104 : decode cX5_count 104 = .ok (.aload_n 0, 1) := by decide +kernel
theorem dX5_count_105 : decode cX5_count 105 = .ok (.getfield 10, 3) := by decide +kernel
theorem dX5_count_108 : decode cX5_count 108 = .ok (.getfield 129, 3) := by decide +kernel
theorem dX5_count_111 : decode cX5_count 111 = .ok (.invokevirtual 133, 3) := by decide +kernel
theorem dX5_count_114 : decode cX5_count 114 = .ok (.ifCond .eq 7, 3) := by decide +kernel
theorem dX5_count_117 : decode cX5_count 117 = .ok (.iconst 1, 1) := by decide +kernel
theorem dX5_count_118 : decode cX5_count 118 = .ok (.goto 4, 3) := by decide +kernel
theorem dX5_count_121 : decode cX5_count 121 = .ok (.iconst 0, 1) := by decide +kernel
theorem dX5_count_122 : decode cX5_count 122 = .ok (.ireturn, 1) := by decide +kernel
theorem dX5_count_123 : decode cX5_count 123 = .ok (.aload_n 0, 1) := by decide +kernel
theorem dX5_count_124 : decode cX5_count 124 = .ok (.getfield 10, 3) := by decide +kernel
theorem dX5_count_127 : decode cX5_count 127 = .ok (.getfield 129, 3) := by decide +kernel
theorem dX5_count_130 : decode cX5_count 130 = .ok (.invokevirtual 165, 3) := by decide +kernel
theorem dX5_count_133 : decode cX5_count 133 = .ok (.ireturn, 1) := by decide +kernel
theorem dX5_count_134 : decode cX5_count 134 = .ok (.aload_n 0, 1) := by decide +kernel
theorem dX5_count_135 : decode cX5_count 135 = .ok (.getfield 10, 3) := by decide +kernel
theorem dX5_count_138 : decode cX5_count 138 = .ok (.getfield 129, 3) := by decide +kernel
theorem dX5_count_141 : decode cX5_count 141 = .ok (.getfield 168, 3) := by decide +kernel
theorem dX5_count_144 : decode cX5_count 144 = .ok (.ireturn, 1) := by decide +kernel
theorem dX5_count_145 : decode cX5_count 145 = .ok (.aload_n 0, 1) := by decide +kernel
theorem dX5_count_146 : decode cX5_count 146 = .ok (.getfield 10, 3) := by decide +kernel
theorem dX5_count_149 : decode cX5_count 149 = .ok (.getfield 129, 3) := by decide +kernel
theorem dX5_count_152 : decode cX5_count 152 = .ok (.invokevirtual 229, 3) := by decide +kernel
theorem dX5_count_155 : decode cX5_count 155 = .ok (.ireturn, 1) := by decide +kernel
theorem dX5_count_156 : decode cX5_count 156 = .ok (.aload_n 0, 1) := by decide +kernel
theorem dX5_count_157 : decode cX5_count 157 = .ok (.getfield 10, 3) := by decide +kernel
theorem dX5_count_160 : decode cX5_count 160 = .ok (.getfield 129, 3) := by decide +kernel
theorem dX5_count_163 : decode cX5_count 163 = .ok (.invokevirtual 232, 3) := by decide +kernel
theorem dX5_count_166 : decode cX5_count 166 = .ok (.ireturn, 1) := by decide +kernel
theorem dX5_count_167 : decode cX5_count 167 = .ok (.aload_n 0, 1) := by decide +kernel
theorem dX5_count_168 : decode cX5_count 168 = .ok (.getfield 10, 3) := by decide +kernel
theorem dX5_count_171 : decode cX5_count 171 = .ok (.getfield 177, 3) := by decide +kernel
theorem dX5_count_174 : decode cX5_count 174 = .ok (.ireturn, 1) := by decide +kernel
theorem dX5_count_175 : decode cX5_count 175 = .ok (.aload_n 0, 1) := by decide +kernel
theorem dX5_count_176 : decode cX5_count 176 = .ok (.getfield 10, 3) := by decide +kernel
theorem dX5_count_179 : decode cX5_count 179 = .ok (.getfield 183, 3) := by decide +kernel
theorem dX5_count_182 : decode cX5_count 182 = .ok (.ireturn, 1) := by decide +kernel
theorem dX5_count_183 : decode cX5_count 183 = .ok (.aload_n 0, 1) := by decide +kernel
theorem dX5_count_184 : decode cX5_count 184 = .ok (.getfield 10, 3) := by decide +kernel
theorem dX5_count_187 : decode cX5_count 187 = .ok (.getfield 174, 3) := by decide +kernel
theorem dX5_count_190 : decode cX5_count 190 = .ok (.ireturn, 1) := by decide +kernel
theorem dX5_count_191 : decode cX5_count 191 = .ok (.aload_n 0, 1) := by decide +kernel
theorem dX5_count_192 : decode cX5_count 192 = .ok (.getfield 10, 3) := by decide +kernel
theorem dX5_count_195 : decode cX5_count 195 = .ok (.invokevirtual 235, 3) := by decide +kernel
theorem dX5_count_198 : decode cX5_count 198 = .ok (.ireturn, 1) := by decide +kernel
theorem dX5_count_199 : decode cX5_count 199 = .ok (.aload_n 0, 1) := by decide +kernel
theorem dX5_count_200 : decode cX5_count 200 = .ok (.getfield 10, 3) := by decide +kernel
theorem dX5_count_203 : decode cX5_count 203 = .ok (.getfield 80, 3) := by decide +kernel
theorem dX5_count_206 : decode cX5_count 206 = .ok (.aload_n 0, 1) := by decide +kernel
theorem dX5_count_207 : decode cX5_count 207 = .ok (.getfield 10, 3) := by decide +kernel
theorem dX5_count_210 : decode cX5_count 210 = .ok (.getfield 119, 3) := by decide +kernel
theorem dX5_count_213 : decode cX5_count 213 = .ok (.iconst 1, 1) := by decide +kernel
theorem dX5_count_214 : decode cX5_count 214 = .ok (.invokestatic 56, 3) := by decide +kernel
theorem dX5_count_217 : decode cX5_count 217 = .ok (.invokestatic 238, 3) := by decide +kernel
theorem dX5_count_220 : decode cX5_count 220 = .ok (.ireturn, 1) := by decide +kernel
theorem dX5_count_221 : decode cX5_count 221 = .ok (.aload_n 0, 1) := by decide +kernel
theorem dX5_count_222 : decode cX5_count 222 = .ok (.getfield 22, 3) := by decide +kernel
theorem dX5_count_225 : decode cX5_count 225 = .ok (.getfield 193, 3) := by decide +kernel
theorem dX5_count_228 : decode cX5_count 228 = .ok (.ireturn, 1) := by decide +kernel
theorem dX5_count_229 : decode cX5_count 229 = .ok (.aload_n 0, 1) := by decide +kernel
theorem dX5_count_230 : decode cX5_count 230 = .ok (.getfield 29, 3) := by decide +kernel
theorem dX5_count_233 : decode cX5_count 233 = .ok (.getfield 186, 3) := by decide +kernel
theorem dX5_count_236 : decode cX5_count 236 = .ok (.ireturn, 1) := by decide +kernel
theorem dX5_count_237 : decode cX5_count 237 = .ok (.aload_n 0, 1) := by decide +kernel
theorem dX5_count_238 : decode cX5_count 238 = .ok (.getfield 10, 3) := by decide +kernel
theorem dX5_count_241 : decode cX5_count 241 = .ok (.getfield 119, 3) := by decide +kernel
theorem dX5_count_244 : decode cX5_count 244 = .ok (.iconst 0, 1) := by decide +kernel
theorem dX5_count_245 : decode cX5_count 245 = .ok (.invokestatic 56, 3) := by decide +kernel
theorem dX5_count_248 : decode cX5_count 248 = .ok (.ireturn, 1) := by decide +kernel
theorem dX5_count_249 : decode cX5_count 249 = .ok (.aload_n 0, 1) := by decide +kernel
theorem dX5_count_250 : decode cX5_count 250 = .ok (.getfield 10, 3) := by decide +kernel
theorem dX5_count_253 : decode cX5_count 253 = .ok (.getfield 119, 3) := by decide +kernel
theorem dX5_count_256 : decode cX5_count 256 = .ok (.iconst 1, 1) := by decide +kernel
theorem dX5_count_257 : decode cX5_count 257 = .ok (.invokestatic 56, 3) := by decide +kernel
theorem dX5_count_260 : decode cX5_count 260 = .ok (.ireturn, 1) := by decide +kernel
theorem dX5_count_261 : decode cX5_count 261 = .ok (.aload_n 0, 1) := by decide +kernel
theorem dX5_count_262 : decode cX5_count 262 = .ok (.getfield 10, 3) := by decide +kernel
theorem dX5_count_265 : decode cX5_count 265 = .ok (.getfield 119, 3) := by decide +kernel
theorem dX5_count_268 : decode cX5_count 268 = .ok (.iconst 2, 1) := by decide +kernel
theorem dX5_count_269 : decode cX5_count 269 = .ok (.invokestatic 56, 3) := by decide +kernel
theorem dX5_count_272 : decode cX5_count 272 = .ok (.ireturn, 1) := by decide +kernel
theorem dX5_count_273 : decode cX5_count 273 = .ok (.aload_n 0, 1) := by decide +kernel
theorem dX5_count_274 : decode cX5_count 274 = .ok (.getfield 10, 3) := by decide +kernel
theorem dX5_count_277 : decode cX5_count 277 = .ok (.getfield 119, 3) := by decide +kernel
theorem dX5_count_280 : decode cX5_count 280 = .ok (.iconst 3, 1) := by decide +kernel
theorem dX5_count_281 : decode cX5_count 281 = .ok (.invokestatic 56, 3) := by decide +kernel
theorem dX5_count_284 : decode cX5_count 284 = .ok (.ireturn, 1) := by decide +kernel
theorem dX5_count_285 : decode cX5_count 285 = .ok (.bipush (-2), 2) := by decide +kernel
theorem dX5_count_287 : decode cX5_count 287 = .ok (.ireturn, 1) := by decide +kernel
theorem dX5_why_0 : decode cX5_why 0 = .ok (.aload_n 0, 1) := by decide +kernel
theorem dX5_why_1 : decode cX5_why 1 = .ok (.getfield 10, 3) := by decide +kernel
theorem dX5_why_4 : decode cX5_why 4 = .ok (.getfield 129, 3) := by decide +kernel
theorem dX5_why_7 : decode cX5_why 7 = .ok (.invokevirtual 133, 3) := by decide +kernel
theorem dX5_why_10 : decode cX5_why 10 = .ok (.ifCond .eq 13, 3) := by decide +kernel
theorem dX5_why_13 : decode cX5_why 13 = .ok (.aload_n 0, 1) := by decide +kernel
theorem dX5_why_14 : decode cX5_why 14 = .ok (.getfield 10, 3) := by decide +kernel
theorem dX5_why_17 : decode cX5_why 17 = .ok (.invokevirtual 171, 3) := by decide +kernel
theorem dX5_why_20 : decode cX5_why 20 = .ok (.goto 5, 3) := by decide +kernel
theorem dX5_why_23 : decode cX5_why 23 = .ok (.bipush (-4), 2) := by decide +kernel
theorem dX5_why_25 : decode cX5_why 25 = .ok (.ireturn, 1) := by decide +kernel
theorem dX5_chances_0 : decode cX5_chances 0 = .ok (.aload_n 0, 1) := by decide +kernel
theorem dX5_chances_1 : decode cX5_chances 1 = .ok (.getfield 10, 3) := by decide +kernel
theorem dX5_chances_4 : decode cX5_chances 4 = .ok (.getfield 129, 3) := by decide +kernel
theorem dX5_chances_7 : decode cX5_chances 7 = .ok (.invokevirtual 133, 3) := by decide +kernel
theorem dX5_chances_10 : decode cX5_chances 10 = .ok (.ifCond .eq 16, 3) := by decide +kernel
theorem dX5_chances_13 : decode cX5_chances 13 = .ok (.aload_n 0, 1) := by decide +kernel
theorem dX5_chances_14 : decode cX5_chances 14 = .ok (.getfield 10, 3) := by decide +kernel
theorem dX5_chances_17 : decode cX5_chances 17 = .ok (.getfield 129, 3) := by decide +kernel
theorem dX5_chances_20 : decode cX5_chances 20 = .ok (.invokevirtual 241, 3) := by decide +kernel
theorem dX5_chances_23 : decode cX5_chances 23 = .ok (.goto 5, 3) := by decide +kernel
theorem dX5_chances_26 : decode cX5_chances 26 = .ok (.ldc 245, 2) := by decide +kernel
theorem dX5_chances_28 : decode cX5_chances 28 = .ok (.freturn, 1) := by decide +kernel
theorem dX5_ifPrinted_0 : decode cX5_ifPrinted 0 = .ok (.aload_n 0, 1) := by decide +kernel
theorem dX5_ifPrinted_1 : decode cX5_ifPrinted 1 = .ok (.getfield 10, 3) := by decide +kernel
theorem dX5_ifPrinted_4 : decode cX5_ifPrinted 4 = .ok (.iload_n 1, 1) := by decide +kernel
theorem dX5_ifPrinted_5 : decode cX5_ifPrinted 5 = .ok (.iconst (-1), 1) := by decide +kernel
theorem dX5_ifPrinted_6 : decode cX5_ifPrinted 6 = .ok (.invokevirtual 246, 3) := by decide +kernel
theorem dX5_ifPrinted_9 : decode cX5_ifPrinted 9 = .ok (.ireturn, 1) := by decide +kernel
theorem dX5_worstFlaw_0 : decode cX5_worstFlaw 0 = .ok (.iload_n 1, 1) := by decide +kernel
theorem dX5_worstFlaw_1 : decode cX5_worstFlaw 1 = .ok (.ifCond .eq 11, 3) := by decide +kernel
theorem dX5_worstFlaw_4 : decode cX5_worstFlaw 4 = .ok (.iload_n 1, 1) := by decide +kernel
theorem dX5_worstFlaw_5 : decode cX5_worstFlaw 5 = .ok (.iconst 1, 1) := by decide +kernel
theorem dX5_worstFlaw_6 : decode cX5_worstFlaw 6 = .ok (.if_icmp .eq 6, 3) := by decide +kernel
theorem dX5_worstFlaw_9 : decode cX5_worstFlaw 9 = .ok (.bipush (-2), 2) := by decide +kernel
theorem dX5_worstFlaw_11 : decode cX5_worstFlaw 11 = .ok (.ireturn, 1) := by decide +kernel
theorem dX5_worstFlaw_12 : decode cX5_worstFlaw 12 = .ok (.iconst 0, 1) := by decide +kernel
theorem dX5_worstFlaw_13 : decode cX5_worstFlaw 13 = .ok (.istore_n 2, 1) := by decide +kernel
theorem dX5_worstFlaw_14 : decode cX5_worstFlaw 14 = .ok (.aload_n 0, 1) := by decide +kernel
theorem dX5_worstFlaw_15 : decode cX5_worstFlaw 15 = .ok (.getfield 10, 3) := by decide +kernel
theorem dX5_worstFlaw_18 : decode cX5_worstFlaw 18 = .ok (.iconst 0, 1) := by decide +kernel
theorem dX5_worstFlaw_19 : decode cX5_worstFlaw 19 = .ok (.iconst 0, 1) := by decide +kernel
theorem dX5_worstFlaw_20 : decode cX5_worstFlaw 20 = .ok (.invokevirtual 246, 3) := by decide +kernel
theorem dX5_worstFlaw_23 : decode cX5_worstFlaw 23 = .ok (.istore_n 3, 1) := by decide +kernel
theorem dX5_worstFlaw_24 : decode cX5_worstFlaw 24 = .ok (.iconst 1, 1) := by decide +kernel
theorem dX5_worstFlaw_25 : decode cX5_worstFlaw 25 = .ok (.istore 4, 2) := by decide +kernel
theorem dX5_worstFlaw_27 : decode cX5_worstFlaw 27 = .ok (.iload 4, 2) := by decide +kernel
theorem dX5_worstFlaw_29 : decode cX5_worstFlaw 29 = .ok (.bipush 24, 2) := by decide +kernel
theorem dX5_worstFlaw_31 : decode cX5_worstFlaw 31 = .ok (.if_icmp .ge 33, 3) := by decide +kernel
theorem dX5_worstFlaw_34 : decode cX5_worstFlaw 34 = .ok (.aload_n 0, 1) := by decide +kernel
theorem dX5_worstFlaw_35 : decode cX5_worstFlaw 35 = .ok (.getfield 10, 3) := by decide +kernel
theorem dX5_worstFlaw_38 : decode cX5_worstFlaw 38 = .ok (.iconst 0, 1) := by decide +kernel
theorem dX5_worstFlaw_39 : decode cX5_worstFlaw 39 = .ok (.iload 4, 2) := by decide +kernel
theorem dX5_worstFlaw_41 : decode cX5_worstFlaw 41 = .ok (.invokevirtual 246, 3) := by decide +kernel
theorem dX5_worstFlaw_44 : decode cX5_worstFlaw 44 = .ok (.istore 5, 2) := by decide +kernel
theorem dX5_worstFlaw_46 : decode cX5_worstFlaw 46 = .ok (.iload 5, 2) := by decide +kernel
theorem dX5_worstFlaw_48 : decode cX5_worstFlaw 48 = .ok (.iload_n 3, 1) := by decide +kernel
theorem dX5_worstFlaw_49 : decode cX5_worstFlaw 49 = .ok (.if_icmp .ge 9, 3) := by decide +kernel
theorem dX5_worstFlaw_52 : decode cX5_worstFlaw 52 = .ok (.iload 4, 2) := by decide +kernel
theorem dX5_worstFlaw_54 : decode cX5_worstFlaw 54 = .ok (.istore_n 2, 1) := by decide +kernel
theorem dX5_worstFlaw_55 : decode cX5_worstFlaw 55 = .ok (.iload 5, 2) := by decide +kernel
theorem dX5_worstFlaw_57 : decode cX5_worstFlaw 57 = .ok (.istore_n 3, 1) := by decide +kernel
theorem dX5_worstFlaw_58 : decode cX5_worstFlaw 58 = .ok (.iinc 4 1, 3) := by decide +kernel
theorem dX5_worstFlaw_61 : decode cX5_worstFlaw 61 = .ok (.goto (-34), 3) := by decide +kernel
theorem dX5_worstFlaw_64 : decode cX5_worstFlaw 64 = .ok (.iload_n 1, 1) := by decide +kernel
theorem dX5_worstFlaw_65 : decode cX5_worstFlaw 65 = .ok (.ifCond .ne 7, 3) := by decide +kernel
theorem dX5_worstFlaw_68 : decode cX5_worstFlaw 68 = .ok (.iload_n 2, 1) := by decide +kernel
theorem dX5_worstFlaw_69 : decode cX5_worstFlaw 69 = .ok (.goto 4, 3) := by decide +kernel
theorem dX5_worstFlaw_72 : decode cX5_worstFlaw 72 = .ok (.iload_n 3, 1) := by decide +kernel
theorem dX5_worstFlaw_73 : decode cX5_worstFlaw 73 = .ok (.ireturn, 1) := by decide +kernel
theorem dX5_bestWay_0 : decode cX5_bestWay 0 = .ok (.aload_n 0, 1) := by decide +kernel
theorem dX5_bestWay_1 : decode cX5_bestWay 1 = .ok (.getfield 10, 3) := by decide +kernel
theorem dX5_bestWay_4 : decode cX5_bestWay 4 = .ok (.iconst 0, 1) := by decide +kernel
theorem dX5_bestWay_5 : decode cX5_bestWay 5 = .ok (.invokevirtual 138, 3) := by decide +kernel
theorem dX5_bestWay_8 : decode cX5_bestWay 8 = .ok (.astore_n 1, 1) := by decide +kernel
theorem dX5_bestWay_9 : decode cX5_bestWay 9 = .ok (.aload_n 1, 1) := by decide +kernel
theorem dX5_bestWay_10 : decode cX5_bestWay 10 = .ok (.ifnonnull 6, 3) := by decide +kernel
theorem dX5_bestWay_13 : decode cX5_bestWay 13 = .ok (.bipush (-4), 2) := by decide +kernel
theorem dX5_bestWay_15 : decode cX5_bestWay 15 = .ok (.ireturn, 1) := by decide +kernel
theorem dX5_bestWay_16 : decode cX5_bestWay 16 = .ok (.iconst 0, 1) := by decide +kernel
theorem dX5_bestWay_17 : decode cX5_bestWay 17 = .ok (.istore_n 2, 1) := by decide +kernel
theorem dX5_bestWay_18 : decode cX5_bestWay 18 = .ok (.aload_n 1, 1) := by decide +kernel
theorem dX5_bestWay_19 : decode cX5_bestWay 19 = .ok (.iconst 0, 1) := by decide +kernel
theorem dX5_bestWay_20 : decode cX5_bestWay 20 = .ok (.invokevirtual 250, 3) := by decide +kernel
theorem dX5_bestWay_23 : decode cX5_bestWay 23 = .ok (.istore_n 3, 1) := by decide +kernel
theorem dX5_bestWay_24 : decode cX5_bestWay 24 = .ok (.iconst 1, 1) := by decide +kernel
theorem dX5_bestWay_25 : decode cX5_bestWay 25 = .ok (.istore 4, 2) := by decide +kernel
theorem dX5_bestWay_27 : decode cX5_bestWay 27 = .ok (.iload 4, 2) := by decide +kernel
theorem dX5_bestWay_29 : decode cX5_bestWay 29 = .ok (.iconst 4, 1) := by decide +kernel
theorem dX5_bestWay_30 : decode cX5_bestWay 30 = .ok (.if_icmp .ge 29, 3) := by decide +kernel
theorem dX5_bestWay_33 : decode cX5_bestWay 33 = .ok (.aload_n 1, 1) := by decide +kernel
theorem dX5_bestWay_34 : decode cX5_bestWay 34 = .ok (.iload 4, 2) := by decide +kernel
theorem dX5_bestWay_36 : decode cX5_bestWay 36 = .ok (.invokevirtual 250, 3) := by decide +kernel
theorem dX5_bestWay_39 : decode cX5_bestWay 39 = .ok (.istore 5, 2) := by decide +kernel
theorem dX5_bestWay_41 : decode cX5_bestWay 41 = .ok (.iload 5, 2) := by decide +kernel
theorem dX5_bestWay_43 : decode cX5_bestWay 43 = .ok (.iload_n 3, 1) := by decide +kernel
theorem dX5_bestWay_44 : decode cX5_bestWay 44 = .ok (.if_icmp .ge 9, 3) := by decide +kernel
theorem dX5_bestWay_47 : decode cX5_bestWay 47 = .ok (.iload 4, 2) := by decide +kernel
theorem dX5_bestWay_49 : decode cX5_bestWay 49 = .ok (.istore_n 2, 1) := by decide +kernel
theorem dX5_bestWay_50 : decode cX5_bestWay 50 = .ok (.iload 5, 2) := by decide +kernel
theorem dX5_bestWay_52 : decode cX5_bestWay 52 = .ok (.istore_n 3, 1) := by decide +kernel
theorem dX5_bestWay_53 : decode cX5_bestWay 53 = .ok (.iinc 4 1, 3) := by decide +kernel
theorem dX5_bestWay_56 : decode cX5_bestWay 56 = .ok (.goto (-29), 3) := by decide +kernel
theorem dX5_bestWay_59 : decode cX5_bestWay 59 = .ok (.iload_n 2, 1) := by decide +kernel
theorem dX5_bestWay_60 : decode cX5_bestWay 60 = .ok (.ireturn, 1) := by decide +kernel
theorem dX5_backIn_0 : decode cX5_backIn 0 = .ok (.aload_n 0, 1) := by decide +kernel
theorem dX5_backIn_1 : decode cX5_backIn 1 = .ok (.getfield 10, 3) := by decide +kernel
theorem dX5_backIn_4 : decode cX5_backIn 4 = .ok (.getfield 129, 3) := by decide +kernel
theorem dX5_backIn_7 : decode cX5_backIn 7 = .ok (.astore_n 2, 1) := by decide +kernel
theorem dX5_backIn_8 : decode cX5_backIn 8 = .ok (.aload_n 2, 1) := by decide +kernel
theorem dX5_backIn_9 : decode cX5_backIn 9 = .ok (.invokevirtual 133, 3) := by decide +kernel
theorem dX5_backIn_12 : decode cX5_backIn 12 = .ok (.ifCond .ne 6, 3) := by decide +kernel
theorem dX5_backIn_15 : decode cX5_backIn 15 = .ok (.bipush (-4), 2) := by decide +kernel
theorem dX5_backIn_17 : decode cX5_backIn 17 = .ok (.ireturn, 1) := by decide +kernel
theorem dX5_backIn_18 : decode cX5_backIn 18 = .ok (.aload_n 2, 1) := by decide +kernel
theorem dX5_backIn_19 : decode cX5_backIn 19 = .ok (.iload_n 1, 1) := by decide +kernel
theorem dX5_backIn_20 : decode cX5_backIn 20 = .ok (.invokevirtual 150, 3) := by decide +kernel
theorem dX5_backIn_23 : decode cX5_backIn 23 = .ok (.ifCond .ne 6, 3) := by decide +kernel
theorem dX5_backIn_26 : decode cX5_backIn 26 = .ok (.bipush (-2), 2) := by decide +kernel
theorem dX5_backIn_28 : decode cX5_backIn 28 = .ok (.ireturn, 1) := by decide +kernel
theorem dX5_backIn_29 : decode cX5_backIn 29 = .ok (.iload_n 1, 1) := by decide +kernel
theorem dX5_backIn_30 : decode cX5_backIn 30 = .ok (.aload_n 2, 1) := by decide +kernel
theorem dX5_backIn_31 : decode cX5_backIn 31 = .ok (.invokevirtual 165, 3) := by decide +kernel
theorem dX5_backIn_34 : decode cX5_backIn 34 = .ok (.invokestatic 253, 3) := by decide +kernel
theorem dX5_backIn_37 : decode cX5_backIn 37 = .ok (.istore_n 3, 1) := by decide +kernel
theorem dX5_backIn_38 : decode cX5_backIn 38 = .ok (.iload_n 3, 1) := by decide +kernel
theorem dX5_backIn_39 : decode cX5_backIn 39 = .ok (.sipush 500, 3) := by decide +kernel
theorem dX5_backIn_42 : decode cX5_backIn 42 = .ok (.if_icmp .le 8, 3) := by decide +kernel
theorem dX5_backIn_45 : decode cX5_backIn 45 = .ok (.bipush (-5), 2) := by decide +kernel
theorem dX5_backIn_47 : decode cX5_backIn 47 = .ok (.goto 4, 3) := by decide +kernel
theorem dX5_backIn_50 : decode cX5_backIn 50 = .ok (.iload_n 3, 1) := by decide +kernel
theorem dX5_backIn_51 : decode cX5_backIn 51 = .ok (.ireturn, 1) := by decide +kernel
theorem dX5_doChange_0 : decode cX5_doChange 0 = .ok (.iload_n 1, 1) := by decide +kernel
theorem dX5_doChange_1 : decode cX5_doChange 1 = .ok (.bipush 115, 2) := by decide +kernel
theorem dX5_doChange_3 : decode cX5_doChange 3 = .ok (.if_icmp .ne 15, 3) := by decide +kernel
theorem dX5_doChange_6 : decode cX5_doChange 6 = .ok (.aload_n 0, 1) := by decide +kernel
theorem dX5_doChange_7 : decode cX5_doChange 7 = .ok (.getfield 10, 3) := by decide +kernel
theorem dX5_doChange_10 : decode cX5_doChange 10 = .ok (.iload_n 2, 1) := by decide +kernel
theorem dX5_doChange_11 : decode cX5_doChange 11 = .ok (.iload_n 3, 1) := by decide +kernel
theorem dX5_doChange_12 : decode cX5_doChange 12 = .ok (.invokevirtual 49, 3) := by decide +kernel
theorem dX5_doChange_15 : decode cX5_doChange 15 = .ok (.goto 44, 3) := by decide +kernel
theorem dX5_doChange_18 : decode cX5_doChange 18 = .ok (.iload_n 1, 1) := by decide +kernel
theorem dX5_doChange_19 : decode cX5_doChange 19 = .ok (.bipush 108, 2) := by decide +kernel
theorem dX5_doChange_21 : decode cX5_doChange 21 = .ok (.if_icmp .ne 18, 3) := by decide +kernel
theorem dX5_doChange_24 : decode cX5_doChange 24 = .ok (.aload_n 0, 1) := by decide +kernel
theorem dX5_doChange_25 : decode cX5_doChange 25 = .ok (.getfield 10, 3) := by decide +kernel
theorem dX5_doChange_28 : decode cX5_doChange 28 = .ok (.getfield 80, 3) := by decide +kernel
theorem dX5_doChange_31 : decode cX5_doChange 31 = .ok (.iload_n 2, 1) := by decide +kernel
theorem dX5_doChange_32 : decode cX5_doChange 32 = .ok (.iload_n 3, 1) := by decide +kernel
theorem dX5_doChange_33 : decode cX5_doChange 33 = .ok (.invokestatic 83, 3) := by decide +kernel
theorem dX5_doChange_36 : decode cX5_doChange 36 = .ok (.goto 23, 3) := by decide +kernel
theorem dX5_doChange_39 : decode cX5_doChange 39 = .ok (.aload_n 0, 1) := by decide +kernel
theorem dX5_doChange_40 : decode cX5_doChange 40 = .ok (.getfield 10, 3) := by decide +kernel
theorem dX5_doChange_43 : decode cX5_doChange 43 = .ok (.iload_n 2, 1) := by decide +kernel
theorem dX5_doChange_44 : decode cX5_doChange 44 = .ok (.iload_n 3, 1) := by decide +kernel
theorem dX5_doChange_45 : decode cX5_doChange 45 = .ok (.iload_n 1, 1) := by decide +kernel
theorem dX5_doChange_46 : decode cX5_doChange 46 = .ok (.bipush 109, 2) := by decide +kernel
theorem dX5_doChange_48 : decode cX5_doChange 48 = .ok (.if_icmp .ne 7, 3) := by decide +kernel
theorem dX5_doChange_51 : decode cX5_doChange 51 = .ok (.iconst 1, 1) := by decide +kernel
theorem dX5_doChange_52 : decode cX5_doChange 52 = .ok (.goto 4, 3) := by decide +kernel
theorem dX5_doChange_55 : decode cX5_doChange 55 = .ok (.iconst 0, 1) := by decide +kernel
theorem dX5_doChange_56 : decode cX5_doChange 56 = .ok (.invokevirtual 67, 3) := by decide +kernel
theorem dX5_doChange_59 : decode cX5_doChange 59 = .ok (.return_, 1) := by decide +kernel
theorem dX5_isCell_0 : decode cX5_isCell 0 = .ok (.iload_n 0, 1) := by decide +kernel
theorem dX5_isCell_1 : decode cX5_isCell 1 = .ok (.ifCond .lt 13, 3) := by decide +kernel
theorem dX5_isCell_4 : decode cX5_isCell 4 = .ok (.iload_n 0, 1) := by decide +kernel
theorem dX5_isCell_5 : decode cX5_isCell 5 = .ok (.bipush 24, 2) := by decide +kernel
theorem dX5_isCell_7 : decode cX5_isCell 7 = .ok (.if_icmp .ge 7, 3) := by decide +kernel
theorem dX5_isCell_10 : decode cX5_isCell 10 = .ok (.iconst 1, 1) := by decide +kernel
theorem dX5_isCell_11 : decode cX5_isCell 11 = .ok (.goto 4, 3) := by decide +kernel
theorem dX5_isCell_14 : decode cX5_isCell 14 = .ok (.iconst 0, 1) := by decide +kernel
theorem dX5_isCell_15 : decode cX5_isCell 15 = .ok (.ireturn, 1) := by decide +kernel
theorem dX5_isCard_0 : decode cX5_isCard 0 = .ok (.iload_n 0, 1) := by decide +kernel
theorem dX5_isCard_1 : decode cX5_isCard 1 = .ok (.ifCond .lt 13, 3) := by decide +kernel
theorem dX5_isCard_4 : decode cX5_isCard 4 = .ok (.iload_n 0, 1) := by decide +kernel
theorem dX5_isCard_5 : decode cX5_isCard 5 = .ok (.bipush 24, 2) := by decide +kernel
theorem dX5_isCard_7 : decode cX5_isCard 7 = .ok (.if_icmp .ge 7, 3) := by decide +kernel
theorem dX5_isCard_10 : decode cX5_isCard 10 = .ok (.iconst 1, 1) := by decide +kernel
theorem dX5_isCard_11 : decode cX5_isCard 11 = .ok (.goto 4, 3) := by decide +kernel
theorem dX5_isCard_14 : decode cX5_isCard 14 = .ok (.iconst 0, 1) := by decide +kernel
theorem dX5_isCard_15 : decode cX5_isCard 15 = .ok (.ireturn, 1) := by decide +kernel
theorem dX5_isMark_0 : decode cX5_isMark 0 = .ok (.iload_n 0, 1) := by decide +kernel
theorem dX5_isMark_1 : decode cX5_isMark 1 = .ok (.ifCond .lt 12, 3) := by decide +kernel
theorem dX5_isMark_4 : decode cX5_isMark 4 = .ok (.iload_n 0, 1) := by decide +kernel
theorem dX5_isMark_5 : decode cX5_isMark 5 = .ok (.iconst 4, 1) := by decide +kernel
theorem dX5_isMark_6 : decode cX5_isMark 6 = .ok (.if_icmp .ge 7, 3) := by decide +kernel
theorem dX5_isMark_9 : decode cX5_isMark 9 = .ok (.iconst 1, 1) := by decide +kernel
theorem dX5_isMark_10 : decode cX5_isMark 10 = .ok (.goto 4, 3) := by decide +kernel
theorem dX5_isMark_13 : decode cX5_isMark 13 = .ok (.iconst 0, 1) := by decide +kernel
theorem dX5_isMark_14 : decode cX5_isMark 14 = .ok (.ireturn, 1) := by decide +kernel
theorem dX5_isCourt_0 : decode cX5_isCourt 0 = .ok (.iload_n 0, 1) := by decide +kernel
theorem dX5_isCourt_1 : decode cX5_isCourt 1 = .ok (.bipush 6, 2) := by decide +kernel
theorem dX5_isCourt_3 : decode cX5_isCourt 3 = .ok (.irem, 1) := by decide +kernel
theorem dX5_isCourt_4 : decode cX5_isCourt 4 = .ok (.iconst 3, 1) := by decide +kernel
theorem dX5_isCourt_5 : decode cX5_isCourt 5 = .ok (.if_icmp .lt 7, 3) := by decide +kernel
theorem dX5_isCourt_8 : decode cX5_isCourt 8 = .ok (.iconst 1, 1) := by decide +kernel
theorem dX5_isCourt_9 : decode cX5_isCourt 9 = .ok (.goto 4, 3) := by decide +kernel
theorem dX5_isCourt_12 : decode cX5_isCourt 12 = .ok (.iconst 0, 1) := by decide +kernel
theorem dX5_isCourt_13 : decode cX5_isCourt 13 = .ok (.ireturn, 1) := by decide +kernel
theorem dX5_at_0 : decode cX5_at 0 = .ok (.iload_n 1, 1) := by decide +kernel
theorem dX5_at_1 : decode cX5_at 1 = .ok (.ifCond .lt 15, 3) := by decide +kernel
theorem dX5_at_4 : decode cX5_at 4 = .ok (.iload_n 1, 1) := by decide +kernel
theorem dX5_at_5 : decode cX5_at 5 = .ok (.aload_n 0, 1) := by decide +kernel
theorem dX5_at_6 : decode cX5_at 6 = .ok (.arraylength, 1) := by decide +kernel
theorem dX5_at_7 : decode cX5_at 7 = .ok (.if_icmp .ge 9, 3) := by decide +kernel
theorem dX5_at_10 : decode cX5_at 10 = .ok (.aload_n 0, 1) := by decide +kernel
theorem dX5_at_11 : decode cX5_at 11 = .ok (.iload_n 1, 1) := by decide +kernel
theorem dX5_at_12 : decode cX5_at 12 = .ok (.iaload, 1) := by decide +kernel
theorem dX5_at_13 : decode cX5_at 13 = .ok (.goto 4, 3) := by decide +kernel
theorem dX5_at_16 : decode cX5_at 16 = .ok (.iconst 0, 1) := by decide +kernel
theorem dX5_at_17 : decode cX5_at 17 = .ok (.ireturn, 1) := by decide +kernel
theorem dX5_put_0 : decode cX5_put 0 = .ok (.iload_n 1, 1) := by decide +kernel
theorem dX5_put_1 : decode cX5_put 1 = .ok (.ifCond .lt 13, 3) := by decide +kernel
theorem dX5_put_4 : decode cX5_put 4 = .ok (.iload_n 1, 1) := by decide +kernel
theorem dX5_put_5 : decode cX5_put 5 = .ok (.aload_n 0, 1) := by decide +kernel
theorem dX5_put_6 : decode cX5_put 6 = .ok (.arraylength, 1) := by decide +kernel
theorem dX5_put_7 : decode cX5_put 7 = .ok (.if_icmp .ge 7, 3) := by decide +kernel
theorem dX5_put_10 : decode cX5_put 10 = .ok (.aload_n 0, 1) := by decide +kernel
theorem dX5_put_11 : decode cX5_put 11 = .ok (.iload_n 1, 1) := by decide +kernel
theorem dX5_put_12 : decode cX5_put 12 = .ok (.iload_n 2, 1) := by decide +kernel
theorem dX5_put_13 : decode cX5_put 13 = .ok (.iastore, 1) := by decide +kernel
theorem dX5_put_14 : decode cX5_put 14 = .ok (.return_, 1) := by decide +kernel
theorem dX5_copyRow_0 : decode cX5_copyRow 0 = .ok (.aload_n 0, 1) := by decide +kernel
theorem dX5_copyRow_1 : decode cX5_copyRow 1 = .ok (.iconst 0, 1) := by decide +kernel
theorem dX5_copyRow_2 : decode cX5_copyRow 2 = .ok (.aload_n 1, 1) := by decide +kernel
theorem dX5_copyRow_3 : decode cX5_copyRow 3 = .ok (.iconst 0, 1) := by decide +kernel
theorem dX5_copyRow_4 : decode cX5_copyRow 4 = .ok (.aload_n 0, 1) := by decide +kernel
theorem dX5_copyRow_5 : decode cX5_copyRow 5 = .ok (.arraylength, 1) := by decide +kernel
theorem dX5_copyRow_6 : decode cX5_copyRow 6 = .ok (.aload_n 1, 1) := by decide +kernel
theorem dX5_copyRow_7 : decode cX5_copyRow 7 = .ok (.arraylength, 1) := by decide +kernel
theorem dX5_copyRow_8 : decode cX5_copyRow 8 = .ok (.invokestatic 257, 3) := by decide +kernel
theorem dX5_copyRow_11 : decode cX5_copyRow 11 = .ok (.invokestatic 262, 3) := by decide +kernel
theorem dX5_copyRow_14 : decode cX5_copyRow 14 = .ok (.return_, 1) := by decide +kernel
theorem dX5_courtsBeyond_0 : decode cX5_courtsBeyond 0 = .ok (.iconst 0, 1) := by decide +kernel
theorem dX5_courtsBeyond_1 : decode cX5_courtsBeyond 1 = .ok (.istore_n 2, 1) := by decide +kernel
theorem dX5_courtsBeyond_2 : decode cX5_courtsBeyond 2 = .ok (.iconst 0, 1) := by decide +kernel
theorem dX5_courtsBeyond_3 : decode cX5_courtsBeyond 3 = .ok (.istore_n 3, 1) := by decide +kernel
theorem dX5_courtsBeyond_4 : decode cX5_courtsBeyond 4 = .ok (.iload_n 3, 1) := by decide +kernel
theorem dX5_courtsBeyond_5 : decode cX5_courtsBeyond 5 = .ok (.aload_n 0, 1) := by decide +kernel
theorem dX5_courtsBeyond_6 : decode cX5_courtsBeyond 6 = .ok (.arraylength, 1) := by decide +kernel
theorem dX5_courtsBeyond_7 : decode cX5_courtsBeyond 7 = .ok (.if_icmp .ge 22, 3) := by decide +kernel
theorem dX5_courtsBeyond_10 : decode cX5_courtsBeyond 10 = .ok (.aload_n 0, 1) := by decide +kernel
theorem dX5_courtsBeyond_11 : decode cX5_courtsBeyond 11 = .ok (.iload_n 3, 1) := by decide +kernel
theorem dX5_courtsBeyond_12 : decode cX5_courtsBeyond 12 = .ok (.iaload, 1) := by decide +kernel
theorem dX5_courtsBeyond_13 : decode cX5_courtsBeyond 13 = .ok (.invokestatic 268, 3) := by decide +kernel
theorem dX5_courtsBeyond_16 : decode cX5_courtsBeyond 16 = .ok (.iload_n 1, 1) := by decide +kernel
theorem dX5_courtsBeyond_17 : decode cX5_courtsBeyond 17 = .ok (.if_icmp .le 6, 3) := by decide +kernel
theorem dX5_courtsBeyond_20 : decode cX5_courtsBeyond 20 = .ok (.iinc 2 1, 3) := by decide +kernel
theorem dX5_courtsBeyond_23 : decode cX5_courtsBeyond 23 = .ok (.iinc 3 1, 3) := by decide +kernel
theorem dX5_courtsBeyond_26 : decode cX5_courtsBeyond 26 = .ok (.goto (-22), 3) := by decide +kernel
theorem dX5_courtsBeyond_29 : decode cX5_courtsBeyond 29 = .ok (.iload_n 2, 1) := by decide +kernel
theorem dX5_courtsBeyond_30 : decode cX5_courtsBeyond 30 = .ok (.ireturn, 1) := by decide +kernel
theorem dX5_cellAt_0 : decode cX5_cellAt 0 = .ok (.iload_n 0, 1) := by decide +kernel
theorem dX5_cellAt_1 : decode cX5_cellAt 1 = .ok (.ifCond .eq 8, 3) := by decide +kernel
theorem dX5_cellAt_4 : decode cX5_cellAt 4 = .ok (.iload_n 0, 1) := by decide +kernel
theorem dX5_cellAt_5 : decode cX5_cellAt 5 = .ok (.iconst 2, 1) := by decide +kernel
theorem dX5_cellAt_6 : decode cX5_cellAt 6 = .ok (.if_icmp .ne 42, 3) := by decide +kernel
theorem dX5_cellAt_9 : decode cX5_cellAt 9 = .ok (.iload_n 1, 1) := by decide +kernel
theorem dX5_cellAt_10 : decode cX5_cellAt 10 = .ok (.bipush 6, 2) := by decide +kernel
theorem dX5_cellAt_12 : decode cX5_cellAt 12 = .ok (.idiv, 1) := by decide +kernel
theorem dX5_cellAt_13 : decode cX5_cellAt 13 = .ok (.istore_n 2, 1) := by decide +kernel
theorem dX5_cellAt_14 : decode cX5_cellAt 14 = .ok (.iload_n 0, 1) := by decide +kernel
theorem dX5_cellAt_15 : decode cX5_cellAt 15 = .ok (.iconst 2, 1) := by decide +kernel
theorem dX5_cellAt_16 : decode cX5_cellAt 16 = .ok (.if_icmp .ne 14, 3) := by decide +kernel
theorem dX5_cellAt_19 : decode cX5_cellAt 19 = .ok (.iload_n 2, 1) := by decide +kernel
theorem dX5_cellAt_20 : decode cX5_cellAt 20 = .ok (.iconst 2, 1) := by decide +kernel
theorem dX5_cellAt_21 : decode cX5_cellAt 21 = .ok (.irem, 1) := by decide +kernel
theorem dX5_cellAt_22 : decode cX5_cellAt 22 = .ok (.iconst 1, 1) := by decide +kernel
theorem dX5_cellAt_23 : decode cX5_cellAt 23 = .ok (.if_icmp .ne 7, 3) := by decide +kernel
theorem dX5_cellAt_26 : decode cX5_cellAt 26 = .ok (.iconst 1, 1) := by decide +kernel
theorem dX5_cellAt_27 : decode cX5_cellAt 27 = .ok (.goto 4, 3) := by decide +kernel
theorem dX5_cellAt_30 : decode cX5_cellAt 30 = .ok (.iconst 0, 1) := by decide +kernel
theorem dX5_cellAt_31 : decode cX5_cellAt 31 = .ok (.istore_n 3, 1) := by decide +kernel
theorem dX5_cellAt_32 : decode cX5_cellAt 32 = .ok (.bipush 6, 2) := by decide +kernel
theorem dX5_cellAt_34 : decode cX5_cellAt 34 = .ok (.iload_n 2, 1) := by decide +kernel
theorem dX5_cellAt_35 : decode cX5_cellAt 35 = .ok (.imul, 1) := by decide +kernel
theorem dX5_cellAt_36 : decode cX5_cellAt 36 = .ok (.iload_n 1, 1) := by decide +kernel
theorem dX5_cellAt_37 : decode cX5_cellAt 37 = .ok (.bipush 6, 2) := by decide +kernel
theorem dX5_cellAt_39 : decode cX5_cellAt 39 = .ok (.irem, 1) := by decide +kernel
theorem dX5_cellAt_40 : decode cX5_cellAt 40 = .ok (.bipush 6, 2) := by decide +kernel
theorem dX5_cellAt_42 : decode cX5_cellAt 42 = .ok (.iload_n 3, 1) := by decide +kernel
theorem dX5_cellAt_43 : decode cX5_cellAt 43 = .ok (.invokestatic 271, 3) := by decide +kernel
theorem dX5_cellAt_46 : decode cX5_cellAt 46 = .ok (.iadd, 1) := by decide +kernel
theorem dX5_cellAt_47 : decode cX5_cellAt 47 = .ok (.ireturn, 1) := by decide +kernel
theorem dX5_cellAt_48 : decode cX5_cellAt 48 = .ok (.iload_n 1, 1) := by decide +kernel
theorem dX5_cellAt_49 : decode cX5_cellAt 49 = .ok (.iconst 4, 1) := by decide +kernel
theorem dX5_cellAt_50 : decode cX5_cellAt 50 = .ok (.idiv, 1) := by decide +kernel
theorem dX5_cellAt_51 : decode cX5_cellAt 51 = .ok (.istore_n 2, 1) := by decide +kernel
theorem dX5_cellAt_52 : decode cX5_cellAt 52 = .ok (.iload_n 0, 1) := by decide +kernel
theorem dX5_cellAt_53 : decode cX5_cellAt 53 = .ok (.iconst 3, 1) := by decide +kernel
theorem dX5_cellAt_54 : decode cX5_cellAt 54 = .ok (.if_icmp .ne 14, 3) := by decide +kernel
theorem dX5_cellAt_57 : decode cX5_cellAt 57 = .ok (.iload_n 2, 1) := by decide +kernel
theorem dX5_cellAt_58 : decode cX5_cellAt 58 = .ok (.iconst 2, 1) := by decide +kernel
theorem dX5_cellAt_59 : decode cX5_cellAt 59 = .ok (.irem, 1) := by decide +kernel
theorem dX5_cellAt_60 : decode cX5_cellAt 60 = .ok (.iconst 1, 1) := by decide +kernel
theorem dX5_cellAt_61 : decode cX5_cellAt 61 = .ok (.if_icmp .ne 7, 3) := by decide +kernel
theorem dX5_cellAt_64 : decode cX5_cellAt 64 = .ok (.iconst 1, 1) := by decide +kernel
theorem dX5_cellAt_65 : decode cX5_cellAt 65 = .ok (.goto 4, 3) := by decide +kernel
theorem dX5_cellAt_68 : decode cX5_cellAt 68 = .ok (.iconst 0, 1) := by decide +kernel
theorem dX5_cellAt_69 : decode cX5_cellAt 69 = .ok (.istore_n 3, 1) := by decide +kernel
theorem dX5_cellAt_70 : decode cX5_cellAt 70 = .ok (.bipush 6, 2) := by decide +kernel
theorem dX5_cellAt_72 : decode cX5_cellAt 72 = .ok (.iload_n 1, 1) := by decide +kernel
theorem dX5_cellAt_73 : decode cX5_cellAt 73 = .ok (.iconst 4, 1) := by decide +kernel
theorem dX5_cellAt_74 : decode cX5_cellAt 74 = .ok (.irem, 1) := by decide +kernel
theorem dX5_cellAt_75 : decode cX5_cellAt 75 = .ok (.iconst 4, 1) := by decide +kernel
theorem dX5_cellAt_76 : decode cX5_cellAt 76 = .ok (.iload_n 3, 1) := by decide +kernel
theorem dX5_cellAt_77 : decode cX5_cellAt 77 = .ok (.invokestatic 271, 3) := by decide +kernel
theorem dX5_cellAt_80 : decode cX5_cellAt 80 = .ok (.imul, 1) := by decide +kernel
theorem dX5_cellAt_81 : decode cX5_cellAt 81 = .ok (.iload_n 2, 1) := by decide +kernel
theorem dX5_cellAt_82 : decode cX5_cellAt 82 = .ok (.iadd, 1) := by decide +kernel
theorem dX5_cellAt_83 : decode cX5_cellAt 83 = .ok (.ireturn, 1) := by decide +kernel
theorem dX5_along_0 : decode cX5_along 0 = .ok (.iload_n 2, 1) := by decide +kernel
theorem dX5_along_1 : decode cX5_along 1 = .ok (.ifCond .eq 11, 3) := by decide +kernel
theorem dX5_along_4 : decode cX5_along 4 = .ok (.iload_n 1, 1) := by decide +kernel
theorem dX5_along_5 : decode cX5_along 5 = .ok (.iconst 1, 1) := by decide +kernel
theorem dX5_along_6 : decode cX5_along 6 = .ok (.isub, 1) := by decide +kernel
theorem dX5_along_7 : decode cX5_along 7 = .ok (.iload_n 0, 1) := by decide +kernel
theorem dX5_along_8 : decode cX5_along 8 = .ok (.isub, 1) := by decide +kernel
theorem dX5_along_9 : decode cX5_along 9 = .ok (.goto 4, 3) := by decide +kernel
theorem dX5_along_12 : decode cX5_along 12 = .ok (.iload_n 0, 1) := by decide +kernel
theorem dX5_along_13 : decode cX5_along 13 = .ok (.ireturn, 1) := by decide +kernel
theorem dX5_placeBefore_0 : decode cX5_placeBefore 0 = .ok (.iload_n 1, 1) := by decide +kernel
theorem dX5_placeBefore_1 : decode cX5_placeBefore 1 = .ok (.iload_n 2, 1) := by decide +kernel
theorem dX5_placeBefore_2 : decode cX5_placeBefore 2 = .ok (.iload_n 1, 1) := by decide +kernel
theorem dX5_placeBefore_3 : decode cX5_placeBefore 3 = .ok (.isub, 1) := by decide +kernel
theorem dX5_placeBefore_4 : decode cX5_placeBefore 4 = .ok (.invokestatic 257, 3) := by decide +kernel
theorem dX5_placeBefore_7 : decode cX5_placeBefore 7 = .ok (.istore_n 3, 1) := by decide +kernel
theorem dX5_placeBefore_8 : decode cX5_placeBefore 8 = .ok (.iload_n 0, 1) := by decide +kernel
theorem dX5_placeBefore_9 : decode cX5_placeBefore 9 = .ok (.iconst 2, 1) := by decide +kernel
theorem dX5_placeBefore_10 : decode cX5_placeBefore 10 = .ok (.iload_n 3, 1) := by decide +kernel
theorem dX5_placeBefore_11 : decode cX5_placeBefore 11 = .ok (.imul, 1) := by decide +kernel
theorem dX5_placeBefore_12 : decode cX5_placeBefore 12 = .ok (.if_icmp .lt 16, 3) := by decide +kernel
theorem dX5_placeBefore_15 : decode cX5_placeBefore 15 = .ok (.iload_n 1, 1) := by decide +kernel
theorem dX5_placeBefore_16 : decode cX5_placeBefore 16 = .ok (.iload_n 3, 1) := by decide +kernel
theorem dX5_placeBefore_17 : decode cX5_placeBefore 17 = .ok (.if_icmp .le 9, 3) := by decide +kernel
theorem dX5_placeBefore_20 : decode cX5_placeBefore 20 = .ok (.iload_n 0, 1) := by decide +kernel
theorem dX5_placeBefore_21 : decode cX5_placeBefore 21 = .ok (.iload_n 3, 1) := by decide +kernel
theorem dX5_placeBefore_22 : decode cX5_placeBefore 22 = .ok (.isub, 1) := by decide +kernel
theorem dX5_placeBefore_23 : decode cX5_placeBefore 23 = .ok (.goto 4, 3) := by decide +kernel
theorem dX5_placeBefore_26 : decode cX5_placeBefore 26 = .ok (.iload_n 0, 1) := by decide +kernel
theorem dX5_placeBefore_27 : decode cX5_placeBefore 27 = .ok (.ireturn, 1) := by decide +kernel
theorem dX5_placeBefore_28 : decode cX5_placeBefore 28 = .ok (.iload_n 0, 1) := by decide +kernel
theorem dX5_placeBefore_29 : decode cX5_placeBefore 29 = .ok (.iconst 2, 1) := by decide +kernel
theorem dX5_placeBefore_30 : decode cX5_placeBefore 30 = .ok (.irem, 1) := by decide +kernel
theorem dX5_placeBefore_31 : decode cX5_placeBefore 31 = .ok (.ifCond .ne 9, 3) := by decide +kernel
theorem dX5_placeBefore_34 : decode cX5_placeBefore 34 = .ok (.iload_n 0, 1) := by decide +kernel
theorem dX5_placeBefore_35 : decode cX5_placeBefore 35 = .ok (.iconst 2, 1) := by decide +kernel
theorem dX5_placeBefore_36 : decode cX5_placeBefore 36 = .ok (.idiv, 1) := by decide +kernel
theorem dX5_placeBefore_37 : decode cX5_placeBefore 37 = .ok (.goto 8, 3) := by decide +kernel
theorem dX5_placeBefore_40 : decode cX5_placeBefore 40 = .ok (.iload_n 1, 1) := by decide +kernel
theorem dX5_placeBefore_41 : decode cX5_placeBefore 41 = .ok (.iload_n 0, 1) := by decide +kernel
theorem dX5_placeBefore_42 : decode cX5_placeBefore 42 = .ok (.iconst 2, 1) := by decide +kernel
theorem dX5_placeBefore_43 : decode cX5_placeBefore 43 = .ok (.idiv, 1) := by decide +kernel
theorem dX5_placeBefore_44 : decode cX5_placeBefore 44 = .ok (.iadd, 1) := by decide +kernel
theorem dX5_placeBefore_45 : decode cX5_placeBefore 45 = .ok (.ireturn, 1) := by decide +kernel
theorem dX5_shufflesUntilBack_0 : decode cX5_shufflesUntilBack 0 = .ok (.iconst 1, 1) := by decide +kernel
theorem dX5_shufflesUntilBack_1 : decode cX5_shufflesUntilBack 1 = .ok (.istore_n 2, 1) := by decide +kernel
theorem dX5_shufflesUntilBack_2 : decode cX5_shufflesUntilBack 2 = .ok (.iconst 0, 1) := by decide +kernel
theorem dX5_shufflesUntilBack_3 : decode cX5_shufflesUntilBack 3 = .ok (.istore_n 3, 1) := by decide +kernel
theorem dX5_shufflesUntilBack_4 : decode cX5_shufflesUntilBack 4 = .ok (.iload_n 3, 1) := by decide +kernel
theorem dX5_shufflesUntilBack_5 : decode cX5_shufflesUntilBack 5 = .ok (.iload_n 1, 1) := by decide +kernel
theorem dX5_shufflesUntilBack_6 : decode cX5_shufflesUntilBack 6 = .ok (.if_icmp .ge 20, 3) := by decide +kernel
theorem dX5_shufflesUntilBack_9 : decode cX5_shufflesUntilBack 9 = .ok (.iload_n 2, 1) := by decide +kernel
theorem dX5_shufflesUntilBack_10 : decode cX5_shufflesUntilBack 10 = .ok (.iload_n 3, 1) := by decide +kernel
theorem dX5_shufflesUntilBack_11 : decode cX5_shufflesUntilBack 11 = .ok (.iload_n 0, 1) := by decide +kernel
theorem dX5_shufflesUntilBack_12 : decode cX5_shufflesUntilBack 12 = .ok (.iload_n 1, 1) := by decide +kernel
theorem dX5_shufflesUntilBack_13 : decode cX5_shufflesUntilBack 13 = .ok (.invokestatic 275, 3) := by decide +kernel
theorem dX5_shufflesUntilBack_16 : decode cX5_shufflesUntilBack 16 = .ok (.invokestatic 279, 3) := by decide +kernel
theorem dX5_shufflesUntilBack_19 : decode cX5_shufflesUntilBack 19 = .ok (.istore_n 2, 1) := by decide +kernel
theorem dX5_shufflesUntilBack_20 : decode cX5_shufflesUntilBack 20 = .ok (.iinc 3 1, 3) := by decide +kernel
theorem dX5_shufflesUntilBack_23 : decode cX5_shufflesUntilBack 23 = .ok (.goto (-19), 3) := by decide +kernel
theorem dX5_shufflesUntilBack_26 : decode cX5_shufflesUntilBack 26 = .ok (.iload_n 2, 1) := by decide +kernel
theorem dX5_shufflesUntilBack_27 : decode cX5_shufflesUntilBack 27 = .ok (.ireturn, 1) := by decide +kernel
theorem dX5_roundOf_0 : decode cX5_roundOf 0 = .ok (.iload_n 0, 1) := by decide +kernel
theorem dX5_roundOf_1 : decode cX5_roundOf 1 = .ok (.istore_n 3, 1) := by decide +kernel
theorem dX5_roundOf_2 : decode cX5_roundOf 2 = .ok (.iconst 1, 1) := by decide +kernel
theorem dX5_roundOf_3 : decode cX5_roundOf 3 = .ok (.istore 4, 2) := by decide +kernel
theorem dX5_roundOf_5 : decode cX5_roundOf 5 = .ok (.iload 4, 2) := by decide +kernel
theorem dX5_roundOf_7 : decode cX5_roundOf 7 = .ok (.iload_n 2, 1) := by decide +kernel
theorem dX5_roundOf_8 : decode cX5_roundOf 8 = .ok (.if_icmp .ge 24, 3) := by decide +kernel
theorem dX5_roundOf_11 : decode cX5_roundOf 11 = .ok (.iload_n 3, 1) := by decide +kernel
theorem dX5_roundOf_12 : decode cX5_roundOf 12 = .ok (.iload_n 1, 1) := by decide +kernel
theorem dX5_roundOf_13 : decode cX5_roundOf 13 = .ok (.iload_n 2, 1) := by decide +kernel
theorem dX5_roundOf_14 : decode cX5_roundOf 14 = .ok (.invokestatic 282, 3) := by decide +kernel
theorem dX5_roundOf_17 : decode cX5_roundOf 17 = .ok (.istore_n 3, 1) := by decide +kernel
theorem dX5_roundOf_18 : decode cX5_roundOf 18 = .ok (.iload_n 3, 1) := by decide +kernel
theorem dX5_roundOf_19 : decode cX5_roundOf 19 = .ok (.iload_n 0, 1) := by decide +kernel
theorem dX5_roundOf_20 : decode cX5_roundOf 20 = .ok (.if_icmp .ne 6, 3) := by decide +kernel
theorem dX5_roundOf_23 : decode cX5_roundOf 23 = .ok (.iload 4, 2) := by decide +kernel
theorem dX5_roundOf_25 : decode cX5_roundOf 25 = .ok (.ireturn, 1) := by decide +kernel
theorem dX5_roundOf_26 : decode cX5_roundOf 26 = .ok (.iinc 4 1, 3) := by decide +kernel
theorem dX5_roundOf_29 : decode cX5_roundOf 29 = .ok (.goto (-24), 3) := by decide +kernel
theorem dX5_roundOf_32 : decode cX5_roundOf 32 = .ok (.iload_n 2, 1) := by decide +kernel
theorem dX5_roundOf_33 : decode cX5_roundOf 33 = .ok (.ireturn, 1) := by decide +kernel
theorem dX5_leastCommonMultiple_0 : decode cX5_leastCommonMultiple 0 = .ok (.iconst 1, 1) := by decide +kernel
theorem dX5_leastCommonMultiple_1 : decode cX5_leastCommonMultiple 1 = .ok (.istore_n 2, 1) := by decide +kernel
theorem dX5_leastCommonMultiple_2 : decode cX5_leastCommonMultiple 2 = .ok (.iload_n 2, 1) := by decide +kernel
theorem dX5_leastCommonMultiple_3 : decode cX5_leastCommonMultiple 3 = .ok (.iload_n 1, 1) := by decide +kernel
theorem dX5_leastCommonMultiple_4 : decode cX5_leastCommonMultiple 4 = .ok (.if_icmp .ge 21, 3) := by decide +kernel
theorem dX5_leastCommonMultiple_7 : decode cX5_leastCommonMultiple 7 = .ok (.iload_n 0, 1) := by decide +kernel
theorem dX5_leastCommonMultiple_8 : decode cX5_leastCommonMultiple 8 = .ok (.iload_n 2, 1) := by decide +kernel
theorem dX5_leastCommonMultiple_9 : decode cX5_leastCommonMultiple 9 = .ok (.imul, 1) := by decide +kernel
theorem dX5_leastCommonMultiple_10 : decode cX5_leastCommonMultiple 10 = .ok (.iload_n 1, 1) := by decide +kernel
theorem dX5_leastCommonMultiple_11 : decode cX5_leastCommonMultiple 11 = .ok (.irem, 1) := by decide +kernel
theorem dX5_leastCommonMultiple_12 : decode cX5_leastCommonMultiple 12 = .ok (.ifCond .ne 7, 3) := by decide +kernel
theorem dX5_leastCommonMultiple_15 : decode cX5_leastCommonMultiple 15 = .ok (.iload_n 0, 1) := by decide +kernel
theorem dX5_leastCommonMultiple_16 : decode cX5_leastCommonMultiple 16 = .ok (.iload_n 2, 1) := by decide +kernel
theorem dX5_leastCommonMultiple_17 : decode cX5_leastCommonMultiple 17 = .ok (.imul, 1) := by decide +kernel
theorem dX5_leastCommonMultiple_18 : decode cX5_leastCommonMultiple 18 = .ok (.ireturn, 1) := by decide +kernel
theorem dX5_leastCommonMultiple_19 : decode cX5_leastCommonMultiple 19 = .ok (.iinc 2 1, 3) := by decide +kernel
theorem dX5_leastCommonMultiple_22 : decode cX5_leastCommonMultiple 22 = .ok (.goto (-20), 3) := by decide +kernel
theorem dX5_leastCommonMultiple_25 : decode cX5_leastCommonMultiple 25 = .ok (.iload_n 0, 1) := by decide +kernel
theorem dX5_leastCommonMultiple_26 : decode cX5_leastCommonMultiple 26 = .ok (.iload_n 1, 1) := by decide +kernel
theorem dX5_leastCommonMultiple_27 : decode cX5_leastCommonMultiple 27 = .ok (.imul, 1) := by decide +kernel
theorem dX5_leastCommonMultiple_28 : decode cX5_leastCommonMultiple 28 = .ok (.ireturn, 1) := by decide +kernel
theorem dX6_init_0 : decode cX6_init 0 = .ok (.aload_n 0, 1) := by decide +kernel
theorem dX6_init_1 : decode cX6_init 1 = .ok (.invokespecial 1, 3) := by decide +kernel
theorem dX6_init_4 : decode cX6_init 4 = .ok (.aload_n 0, 1) := by decide +kernel
theorem dX6_init_5 : decode cX6_init 5 = .ok (.sipush 611, 3) := by decide +kernel
theorem dX6_init_8 : decode cX6_init 8 = .ok (.newarray .int, 2) := by decide +kernel
theorem dX6_init_10 : decode cX6_init 10 = .ok (.putfield 7, 3) := by decide +kernel
theorem dX6_init_13 : decode cX6_init 13 = .ok (.aload_n 0, 1) := by decide +kernel
theorem dX6_init_14 : decode cX6_init 14 = .ok (.sipush 611, 3) := by decide +kernel
theorem dX6_init_17 : decode cX6_init 17 = .ok (.newarray .int, 2) := by decide +kernel
theorem dX6_init_19 : decode cX6_init 19 = .ok (.putfield 13, 3) := by decide +kernel
theorem dX6_init_22 : decode cX6_init 22 = .ok (.aload_n 0, 1) := by decide +kernel
theorem dX6_init_23 : decode cX6_init 23 = .ok (.sipush 2444, 3) := by decide +kernel
theorem dX6_init_26 : decode cX6_init 26 = .ok (.newarray .int, 2) := by decide +kernel
theorem dX6_init_28 : decode cX6_init 28 = .ok (.putfield 16, 3) := by decide +kernel
theorem dX6_init_31 : decode cX6_init 31 = .ok (.aload_n 0, 1) := by decide +kernel
theorem dX6_init_32 : decode cX6_init 32 = .ok (.sipush 611, 3) := by decide +kernel
theorem dX6_init_35 : decode cX6_init 35 = .ok (.newarray .int, 2) := by decide +kernel
theorem dX6_init_37 : decode cX6_init 37 = .ok (.putfield 19, 3) := by decide +kernel
theorem dX6_init_40 : decode cX6_init 40 = .ok (.aload_n 0, 1) := by decide +kernel
theorem dX6_init_41 : decode cX6_init 41 = .ok (.bipush 60, 2) := by decide +kernel
theorem dX6_init_43 : decode cX6_init 43 = .ok (.newarray .int, 2) := by decide +kernel
theorem dX6_init_45 : decode cX6_init 45 = .ok (.putfield 22, 3) := by decide +kernel
theorem dX6_init_48 : decode cX6_init 48 = .ok (.aload_n 0, 1) := by decide +kernel
theorem dX6_init_49 : decode cX6_init 49 = .ok (.bipush 24, 2) := by decide +kernel
theorem dX6_init_51 : decode cX6_init 51 = .ok (.newarray .int, 2) := by decide +kernel
theorem dX6_init_53 : decode cX6_init 53 = .ok (.putfield 25, 3) := by decide +kernel
theorem dX6_init_56 : decode cX6_init 56 = .ok (.aload_n 0, 1) := by decide +kernel
theorem dX6_init_57 : decode cX6_init 57 = .ok (.bipush 24, 2) := by decide +kernel
theorem dX6_init_59 : decode cX6_init 59 = .ok (.newarray .int, 2) := by decide +kernel
theorem dX6_init_61 : decode cX6_init 61 = .ok (.putfield 28, 3) := by decide +kernel
theorem dX6_init_64 : decode cX6_init 64 = .ok (.aload_n 0, 1) := by decide +kernel
theorem dX6_init_65 : decode cX6_init 65 = .ok (.getfield 7, 3) := by decide +kernel
theorem dX6_init_68 : decode cX6_init 68 = .ok (.iconst 0, 1) := by decide +kernel
theorem dX6_init_69 : decode cX6_init 69 = .ok (.bipush 10, 2) := by decide +kernel
theorem dX6_init_71 : decode cX6_init 71 = .ok (.iastore, 1) := by decide +kernel
theorem dX6_init_72 : decode cX6_init 72 = .ok (.aload_n 0, 1) := by decide +kernel
theorem dX6_init_73 : decode cX6_init 73 = .ok (.getfield 7, 3) := by decide +kernel
theorem dX6_init_76 : decode cX6_init 76 = .ok (.iconst 1, 1) := by decide +kernel
theorem dX6_init_77 : decode cX6_init 77 = .ok (.iconst 3, 1) := by decide +kernel
theorem dX6_init_78 : decode cX6_init 78 = .ok (.iastore, 1) := by decide +kernel
theorem dX6_init_79 : decode cX6_init 79 = .ok (.aload_n 0, 1) := by decide +kernel
theorem dX6_init_80 : decode cX6_init 80 = .ok (.getfield 7, 3) := by decide +kernel
theorem dX6_init_83 : decode cX6_init 83 = .ok (.iconst 2, 1) := by decide +kernel
theorem dX6_init_84 : decode cX6_init 84 = .ok (.iconst 4, 1) := by decide +kernel
theorem dX6_init_85 : decode cX6_init 85 = .ok (.iastore, 1) := by decide +kernel
theorem dX6_init_86 : decode cX6_init 86 = .ok (.aload_n 0, 1) := by decide +kernel
theorem dX6_init_87 : decode cX6_init 87 = .ok (.getfield 7, 3) := by decide +kernel
theorem dX6_init_90 : decode cX6_init 90 = .ok (.iconst 3, 1) := by decide +kernel
theorem dX6_init_91 : decode cX6_init 91 = .ok (.bipush 12, 2) := by decide +kernel
theorem dX6_init_93 : decode cX6_init 93 = .ok (.iastore, 1) := by decide +kernel
theorem dX6_init_94 : decode cX6_init 94 = .ok (.iconst 0, 1) := by decide +kernel
theorem dX6_init_95 : decode cX6_init 95 = .ok (.istore_n 1, 1) := by decide +kernel
theorem dX6_init_96 : decode cX6_init 96 = .ok (.iload_n 1, 1) := by decide +kernel
theorem dX6_init_97 : decode cX6_init 97 = .ok (.bipush 24, 2) := by decide +kernel
theorem dX6_init_99 : decode cX6_init 99 = .ok (.if_icmp .ge 19, 3) := by decide +kernel
theorem dX6_init_102 : decode cX6_init 102 = .ok (.aload_n 0, 1) := by decide +kernel
theorem dX6_init_103 : decode cX6_init 103 = .ok (.getfield 7, 3) := by decide +kernel
theorem dX6_init_106 : decode cX6_init 106 = .ok (.bipush 11, 2) := by decide +kernel
theorem dX6_init_108 : decode cX6_init 108 = .ok (.iload_n 1, 1) := by decide +kernel
theorem dX6_init_109 : decode cX6_init 109 = .ok (.iadd, 1) := by decide +kernel
theorem dX6_init_110 : decode cX6_init 110 = .ok (.iload_n 1, 1) := by decide +kernel
theorem dX6_init_111 : decode cX6_init 111 = .ok (.iastore, 1) := by decide +kernel
theorem dX6_init_112 : decode cX6_init 112 = .ok (.iinc 1 1, 3) := by decide +kernel
theorem dX6_init_115 : decode cX6_init 115 = .ok (.goto (-19), 3) := by decide +kernel
theorem dX6_init_118 : decode cX6_init 118 = .ok (.return_, 1) := by decide +kernel
theorem dX6_within_0 : decode cX6_within 0 = .ok (.iload_n 0, 1) := by decide +kernel
theorem dX6_within_1 : decode cX6_within 1 = .ok (.iload_n 1, 1) := by decide +kernel
theorem dX6_within_2 : decode cX6_within 2 = .ok (.if_icmp .lt 12, 3) := by decide +kernel
theorem dX6_within_5 : decode cX6_within 5 = .ok (.iload_n 0, 1) := by decide +kernel
theorem dX6_within_6 : decode cX6_within 6 = .ok (.iload_n 2, 1) := by decide +kernel
theorem dX6_within_7 : decode cX6_within 7 = .ok (.if_icmp .gt 7, 3) := by decide +kernel
theorem dX6_within_10 : decode cX6_within 10 = .ok (.iconst 1, 1) := by decide +kernel
theorem dX6_within_11 : decode cX6_within 11 = .ok (.goto 4, 3) := by decide +kernel
theorem dX6_within_14 : decode cX6_within 14 = .ok (.iconst 0, 1) := by decide +kernel
theorem dX6_within_15 : decode cX6_within 15 = .ok (.ireturn, 1) := by decide +kernel
theorem dX6_isCell_0 : decode cX6_isCell 0 = .ok (.iload_n 0, 1) := by decide +kernel
theorem dX6_isCell_1 : decode cX6_isCell 1 = .ok (.iconst 0, 1) := by decide +kernel
theorem dX6_isCell_2 : decode cX6_isCell 2 = .ok (.bipush 23, 2) := by decide +kernel
theorem dX6_isCell_4 : decode cX6_isCell 4 = .ok (.invokestatic 31, 3) := by decide +kernel
theorem dX6_isCell_7 : decode cX6_isCell 7 = .ok (.ireturn, 1) := by decide +kernel
theorem dX6_isMark_0 : decode cX6_isMark 0 = .ok (.iload_n 0, 1) := by decide +kernel
theorem dX6_isMark_1 : decode cX6_isMark 1 = .ok (.iconst 0, 1) := by decide +kernel
theorem dX6_isMark_2 : decode cX6_isMark 2 = .ok (.iconst 3, 1) := by decide +kernel
theorem dX6_isMark_3 : decode cX6_isMark 3 = .ok (.invokestatic 31, 3) := by decide +kernel
theorem dX6_isMark_6 : decode cX6_isMark 6 = .ok (.ireturn, 1) := by decide +kernel
theorem dX6_isCourt_0 : decode cX6_isCourt 0 = .ok (.iload_n 0, 1) := by decide +kernel
theorem dX6_isCourt_1 : decode cX6_isCourt 1 = .ok (.bipush 6, 2) := by decide +kernel
theorem dX6_isCourt_3 : decode cX6_isCourt 3 = .ok (.irem, 1) := by decide +kernel
theorem dX6_isCourt_4 : decode cX6_isCourt 4 = .ok (.iconst 2, 1) := by decide +kernel
theorem dX6_isCourt_5 : decode cX6_isCourt 5 = .ok (.if_icmp .le 7, 3) := by decide +kernel
theorem dX6_isCourt_8 : decode cX6_isCourt 8 = .ok (.iconst 1, 1) := by decide +kernel
theorem dX6_isCourt_9 : decode cX6_isCourt 9 = .ok (.goto 4, 3) := by decide +kernel
theorem dX6_isCourt_12 : decode cX6_isCourt 12 = .ok (.iconst 0, 1) := by decide +kernel
theorem dX6_isCourt_13 : decode cX6_isCourt 13 = .ok (.ireturn, 1) := by decide +kernel
theorem dX6_ones_0 : decode cX6_ones 0 = .ok (.iload_n 0, 1) := by decide +kernel
theorem dX6_ones_1 : decode cX6_ones 1 = .ok (.iconst 1, 1) := by decide +kernel
theorem dX6_ones_2 : decode cX6_ones 2 = .ok (.iand, 1) := by decide +kernel
theorem dX6_ones_3 : decode cX6_ones 3 = .ok (.iload_n 0, 1) := by decide +kernel
theorem dX6_ones_4 : decode cX6_ones 4 = .ok (.iconst 1, 1) := by decide +kernel
theorem dX6_ones_5 : decode cX6_ones 5 = .ok (.ishr, 1) := by decide +kernel
theorem dX6_ones_6 : decode cX6_ones 6 = .ok (.iconst 1, 1) := by decide +kernel
theorem dX6_ones_7 : decode cX6_ones 7 = .ok (.iand, 1) := by decide +kernel
theorem dX6_ones_8 : decode cX6_ones 8 = .ok (.iadd, 1) := by decide +kernel
theorem dX6_ones_9 : decode cX6_ones 9 = .ok (.iload_n 0, 1) := by decide +kernel
theorem dX6_ones_10 : decode cX6_ones 10 = .ok (.iconst 2, 1) := by decide +kernel
theorem dX6_ones_11 : decode cX6_ones 11 = .ok (.ishr, 1) := by decide +kernel
theorem dX6_ones_12 : decode cX6_ones 12 = .ok (.iconst 1, 1) := by decide +kernel
theorem dX6_ones_13 : decode cX6_ones 13 = .ok (.iand, 1) := by decide +kernel
theorem dX6_ones_14 : decode cX6_ones 14 = .ok (.iadd, 1) := by decide +kernel
theorem dX6_ones_15 : decode cX6_ones 15 = .ok (.iload_n 0, 1) := by decide +kernel
theorem dX6_ones_16 : decode cX6_ones 16 = .ok (.iconst 3, 1) := by decide +kernel
theorem dX6_ones_17 : decode cX6_ones 17 = .ok (.ishr, 1) := by decide +kernel
theorem dX6_ones_18 : decode cX6_ones 18 = .ok (.iconst 1, 1) := by decide +kernel
theorem dX6_ones_19 : decode cX6_ones 19 = .ok (.iand, 1) := by decide +kernel
theorem dX6_ones_20 : decode cX6_ones 20 = .ok (.iadd, 1) := by decide +kernel
theorem dX6_ones_21 : decode cX6_ones 21 = .ok (.ireturn, 1) := by decide +kernel
theorem dX6_putAside_0 : decode cX6_putAside 0 = .ok (.iconst 0, 1) := by decide +kernel
theorem dX6_putAside_1 : decode cX6_putAside 1 = .ok (.istore_n 1, 1) := by decide +kernel
theorem dX6_putAside_2 : decode cX6_putAside 2 = .ok (.iload_n 1, 1) := by decide +kernel
theorem dX6_putAside_3 : decode cX6_putAside 3 = .ok (.sipush 611, 3) := by decide +kernel
theorem dX6_putAside_6 : decode cX6_putAside 6 = .ok (.if_icmp .ge 21, 3) := by decide +kernel
theorem dX6_putAside_9 : decode cX6_putAside 9 = .ok (.aload_n 0, 1) := by decide +kernel
theorem dX6_putAside_10 : decode cX6_putAside 10 = .ok (.getfield 13, 3) := by decide +kernel
theorem dX6_putAside_13 : decode cX6_putAside 13 = .ok (.iload_n 1, 1) := by decide +kernel
theorem dX6_putAside_14 : decode cX6_putAside 14 = .ok (.aload_n 0, 1) := by decide +kernel
theorem dX6_putAside_15 : decode cX6_putAside 15 = .ok (.getfield 7, 3) := by decide +kernel
theorem dX6_putAside_18 : decode cX6_putAside 18 = .ok (.iload_n 1, 1) := by decide +kernel
theorem dX6_putAside_19 : decode cX6_putAside 19 = .ok (.iaload, 1) := by decide +kernel
theorem dX6_putAside_20 : decode cX6_putAside 20 = .ok (.iastore, 1) := by decide +kernel
theorem dX6_putAside_21 : decode cX6_putAside 21 = .ok (.iinc 1 1, 3) := by decide +kernel
theorem dX6_putAside_24 : decode cX6_putAside 24 = .ok (.goto (-22), 3) := by decide +kernel
theorem dX6_putAside_27 : decode cX6_putAside 27 = .ok (.return_, 1) := by decide +kernel
theorem dX6_takeBack_0 : decode cX6_takeBack 0 = .ok (.iconst 0, 1) := by decide +kernel
theorem dX6_takeBack_1 : decode cX6_takeBack 1 = .ok (.istore_n 1, 1) := by decide +kernel
theorem dX6_takeBack_2 : decode cX6_takeBack 2 = .ok (.iload_n 1, 1) := by decide +kernel
theorem dX6_takeBack_3 : decode cX6_takeBack 3 = .ok (.sipush 611, 3) := by decide +kernel
theorem dX6_takeBack_6 : decode cX6_takeBack 6 = .ok (.if_icmp .ge 21, 3) := by decide +kernel
theorem dX6_takeBack_9 : decode cX6_takeBack 9 = .ok (.aload_n 0, 1) := by decide +kernel
theorem dX6_takeBack_10 : decode cX6_takeBack 10 = .ok (.getfield 7, 3) := by decide +kernel
theorem dX6_takeBack_13 : decode cX6_takeBack 13 = .ok (.iload_n 1, 1) := by decide +kernel
theorem dX6_takeBack_14 : decode cX6_takeBack 14 = .ok (.aload_n 0, 1) := by decide +kernel
theorem dX6_takeBack_15 : decode cX6_takeBack 15 = .ok (.getfield 13, 3) := by decide +kernel
theorem dX6_takeBack_18 : decode cX6_takeBack 18 = .ok (.iload_n 1, 1) := by decide +kernel
theorem dX6_takeBack_19 : decode cX6_takeBack 19 = .ok (.iaload, 1) := by decide +kernel
theorem dX6_takeBack_20 : decode cX6_takeBack 20 = .ok (.iastore, 1) := by decide +kernel
theorem dX6_takeBack_21 : decode cX6_takeBack 21 = .ok (.iinc 1 1, 3) := by decide +kernel
theorem dX6_takeBack_24 : decode cX6_takeBack 24 = .ok (.goto (-22), 3) := by decide +kernel
theorem dX6_takeBack_27 : decode cX6_takeBack 27 = .ok (.return_, 1) := by decide +kernel
theorem dX6_push_0 : decode cX6_push 0 = .ok (.aload_n 0, 1) := by decide +kernel
theorem dX6_push_1 : decode cX6_push 1 = .ok (.getfield 35, 3) := by decide +kernel
theorem dX6_push_4 : decode cX6_push 4 = .ok (.iconst 4, 1) := by decide +kernel
theorem dX6_push_5 : decode cX6_push 5 = .ok (.if_icmp .ne 44, 3) := by decide +kernel
theorem dX6_push_8 : decode cX6_push 8 = .ok (.iconst 0, 1) := by decide +kernel
theorem dX6_push_9 : decode cX6_push 9 = .ok (.istore_n 1, 1) := by decide +kernel
theorem dX6_push_10 : decode cX6_push 10 = .ok (.iload_n 1, 1) := by decide +kernel
theorem dX6_push_11 : decode cX6_push 11 = .ok (.sipush 1833, 3) := by decide +kernel
theorem dX6_push_14 : decode cX6_push 14 = .ok (.if_icmp .ge 25, 3) := by decide +kernel
theorem dX6_push_17 : decode cX6_push 17 = .ok (.aload_n 0, 1) := by decide +kernel
theorem dX6_push_18 : decode cX6_push 18 = .ok (.getfield 16, 3) := by decide +kernel
theorem dX6_push_21 : decode cX6_push 21 = .ok (.iload_n 1, 1) := by decide +kernel
theorem dX6_push_22 : decode cX6_push 22 = .ok (.aload_n 0, 1) := by decide +kernel
theorem dX6_push_23 : decode cX6_push 23 = .ok (.getfield 16, 3) := by decide +kernel
theorem dX6_push_26 : decode cX6_push 26 = .ok (.iload_n 1, 1) := by decide +kernel
theorem dX6_push_27 : decode cX6_push 27 = .ok (.sipush 611, 3) := by decide +kernel
theorem dX6_push_30 : decode cX6_push 30 = .ok (.iadd, 1) := by decide +kernel
theorem dX6_push_31 : decode cX6_push 31 = .ok (.iaload, 1) := by decide +kernel
theorem dX6_push_32 : decode cX6_push 32 = .ok (.iastore, 1) := by decide +kernel
theorem dX6_push_33 : decode cX6_push 33 = .ok (.iinc 1 1, 3) := by decide +kernel
theorem dX6_push_36 : decode cX6_push 36 = .ok (.goto (-26), 3) := by decide +kernel
theorem dX6_push_39 : decode cX6_push 39 = .ok (.aload_n 0, 1) := by decide +kernel
theorem dX6_push_40 : decode cX6_push 40 = .ok (.dup, 1) := by decide +kernel
theorem dX6_push_41 : decode cX6_push 41 = .ok (.getfield 35, 3) := by decide +kernel
theorem dX6_push_44 : decode cX6_push 44 = .ok (.iconst 1, 1) := by decide +kernel
theorem dX6_push_45 : decode cX6_push 45 = .ok (.isub, 1) := by decide +kernel
theorem dX6_push_46 : decode cX6_push 46 = .ok (.putfield 35, 3) := by decide +kernel
theorem dX6_push_49 : decode cX6_push 49 = .ok (.iconst 0, 1) := by decide +kernel
theorem dX6_push_50 : decode cX6_push 50 = .ok (.istore_n 1, 1) := by decide +kernel
theorem dX6_push_51 : decode cX6_push 51 = .ok (.iload_n 1, 1) := by decide +kernel
theorem dX6_push_52 : decode cX6_push 52 = .ok (.sipush 611, 3) := by decide +kernel
theorem dX6_push_55 : decode cX6_push 55 = .ok (.if_icmp .ge 30, 3) := by decide +kernel
theorem dX6_push_58 : decode cX6_push 58 = .ok (.aload_n 0, 1) := by decide +kernel
theorem dX6_push_59 : decode cX6_push 59 = .ok (.getfield 16, 3) := by decide +kernel
theorem dX6_push_62 : decode cX6_push 62 = .ok (.aload_n 0, 1) := by decide +kernel
theorem dX6_push_63 : decode cX6_push 63 = .ok (.getfield 35, 3) := by decide +kernel
theorem dX6_push_66 : decode cX6_push 66 = .ok (.sipush 611, 3) := by decide +kernel
theorem dX6_push_69 : decode cX6_push 69 = .ok (.imul, 1) := by decide +kernel
theorem dX6_push_70 : decode cX6_push 70 = .ok (.iload_n 1, 1) := by decide +kernel
theorem dX6_push_71 : decode cX6_push 71 = .ok (.iadd, 1) := by decide +kernel
theorem dX6_push_72 : decode cX6_push 72 = .ok (.aload_n 0, 1) := by decide +kernel
theorem dX6_push_73 : decode cX6_push 73 = .ok (.getfield 13, 3) := by decide +kernel
theorem dX6_push_76 : decode cX6_push 76 = .ok (.iload_n 1, 1) := by decide +kernel
theorem dX6_push_77 : decode cX6_push 77 = .ok (.iaload, 1) := by decide +kernel
theorem dX6_push_78 : decode cX6_push 78 = .ok (.iastore, 1) := by decide +kernel
theorem dX6_push_79 : decode cX6_push 79 = .ok (.iinc 1 1, 3) := by decide +kernel
theorem dX6_push_82 : decode cX6_push 82 = .ok (.goto (-31), 3) := by decide +kernel
theorem dX6_push_85 : decode cX6_push 85 = .ok (.aload_n 0, 1) := by decide +kernel
theorem dX6_push_86 : decode cX6_push 86 = .ok (.dup, 1) := by decide +kernel
theorem dX6_push_87 : decode cX6_push 87 = .ok (.getfield 35, 3) := by decide +kernel
theorem dX6_push_90 : decode cX6_push 90 = .ok (.iconst 1, 1) := by decide +kernel
theorem dX6_push_91 : decode cX6_push 91 = .ok (.iadd, 1) := by decide +kernel
theorem dX6_push_92 : decode cX6_push 92 = .ok (.putfield 35, 3) := by decide +kernel
theorem dX6_push_95 : decode cX6_push 95 = .ok (.return_, 1) := by decide +kernel
theorem dX6_record_0 : decode cX6_record 0 = .ok (.aload_n 0, 1) := by decide +kernel
theorem dX6_record_1 : decode cX6_record 1 = .ok (.invokevirtual 39, 3) := by decide +kernel
theorem dX6_record_4 : decode cX6_record 4 = .ok (.aload_n 0, 1) := by decide +kernel
theorem dX6_record_5 : decode cX6_record 5 = .ok (.invokevirtual 42, 3) := by decide +kernel
theorem dX6_record_8 : decode cX6_record 8 = .ok (.return_, 1) := by decide +kernel
theorem dX6_undo_0 : decode cX6_undo 0 = .ok (.aload_n 0, 1) := by decide +kernel
theorem dX6_undo_1 : decode cX6_undo 1 = .ok (.getfield 35, 3) := by decide +kernel
theorem dX6_undo_4 : decode cX6_undo 4 = .ok (.ifCond .ne 6, 3) := by decide +kernel
theorem dX6_undo_7 : decode cX6_undo 7 = .ok (.bipush (-5), 2) := by decide +kernel
theorem dX6_undo_9 : decode cX6_undo 9 = .ok (.ireturn, 1) := by decide +kernel
theorem dX6_undo_10 : decode cX6_undo 10 = .ok (.aload_n 0, 1) := by decide +kernel
theorem dX6_undo_11 : decode cX6_undo 11 = .ok (.dup, 1) := by decide +kernel
theorem dX6_undo_12 : decode cX6_undo 12 = .ok (.getfield 35, 3) := by decide +kernel
theorem dX6_undo_15 : decode cX6_undo 15 = .ok (.iconst 1, 1) := by decide +kernel
theorem dX6_undo_16 : decode cX6_undo 16 = .ok (.isub, 1) := by decide +kernel
theorem dX6_undo_17 : decode cX6_undo 17 = .ok (.putfield 35, 3) := by decide +kernel
theorem dX6_undo_20 : decode cX6_undo 20 = .ok (.iconst 0, 1) := by decide +kernel
theorem dX6_undo_21 : decode cX6_undo 21 = .ok (.istore_n 1, 1) := by decide +kernel
theorem dX6_undo_22 : decode cX6_undo 22 = .ok (.iload_n 1, 1) := by decide +kernel
theorem dX6_undo_23 : decode cX6_undo 23 = .ok (.sipush 611, 3) := by decide +kernel
theorem dX6_undo_26 : decode cX6_undo 26 = .ok (.if_icmp .ge 30, 3) := by decide +kernel
theorem dX6_undo_29 : decode cX6_undo 29 = .ok (.aload_n 0, 1) := by decide +kernel
theorem dX6_undo_30 : decode cX6_undo 30 = .ok (.getfield 7, 3) := by decide +kernel
theorem dX6_undo_33 : decode cX6_undo 33 = .ok (.iload_n 1, 1) := by decide +kernel
theorem dX6_undo_34 : decode cX6_undo 34 = .ok (.aload_n 0, 1) := by decide +kernel
theorem dX6_undo_35 : decode cX6_undo 35 = .ok (.getfield 16, 3) := by decide +kernel
theorem dX6_undo_38 : decode cX6_undo 38 = .ok (.aload_n 0, 1) := by decide +kernel
theorem dX6_undo_39 : decode cX6_undo 39 = .ok (.getfield 35, 3) := by decide +kernel
theorem dX6_undo_42 : decode cX6_undo 42 = .ok (.sipush 611, 3) := by decide +kernel
theorem dX6_undo_45 : decode cX6_undo 45 = .ok (.imul, 1) := by decide +kernel
theorem dX6_undo_46 : decode cX6_undo 46 = .ok (.iload_n 1, 1) := by decide +kernel
theorem dX6_undo_47 : decode cX6_undo 47 = .ok (.iadd, 1) := by decide +kernel
theorem dX6_undo_48 : decode cX6_undo 48 = .ok (.iaload, 1) := by decide +kernel
theorem dX6_undo_49 : decode cX6_undo 49 = .ok (.iastore, 1) := by decide +kernel
theorem dX6_undo_50 : decode cX6_undo 50 = .ok (.iinc 1 1, 3) := by decide +kernel
theorem dX6_undo_53 : decode cX6_undo 53 = .ok (.goto (-31), 3) := by decide +kernel
theorem dX6_undo_56 : decode cX6_undo 56 = .ok (.aload_n 0, 1) := by decide +kernel
theorem dX6_undo_57 : decode cX6_undo 57 = .ok (.getfield 35, 3) := by decide +kernel
theorem dX6_undo_60 : decode cX6_undo 60 = .ok (.ireturn, 1) := by decide +kernel
theorem dX6_keep_0 : decode cX6_keep 0 = .ok (.iconst 0, 1) := by decide +kernel
theorem dX6_keep_1 : decode cX6_keep 1 = .ok (.istore_n 1, 1) := by decide +kernel
theorem dX6_keep_2 : decode cX6_keep 2 = .ok (.iload_n 1, 1) := by decide +kernel
theorem dX6_keep_3 : decode cX6_keep 3 = .ok (.sipush 611, 3) := by decide +kernel
theorem dX6_keep_6 : decode cX6_keep 6 = .ok (.if_icmp .ge 21, 3) := by decide +kernel
theorem dX6_keep_9 : decode cX6_keep 9 = .ok (.aload_n 0, 1) := by decide +kernel
theorem dX6_keep_10 : decode cX6_keep 10 = .ok (.getfield 19, 3) := by decide +kernel
theorem dX6_keep_13 : decode cX6_keep 13 = .ok (.iload_n 1, 1) := by decide +kernel
theorem dX6_keep_14 : decode cX6_keep 14 = .ok (.aload_n 0, 1) := by decide +kernel
theorem dX6_keep_15 : decode cX6_keep 15 = .ok (.getfield 7, 3) := by decide +kernel
theorem dX6_keep_18 : decode cX6_keep 18 = .ok (.iload_n 1, 1) := by decide +kernel
theorem dX6_keep_19 : decode cX6_keep 19 = .ok (.iaload, 1) := by decide +kernel
theorem dX6_keep_20 : decode cX6_keep 20 = .ok (.iastore, 1) := by decide +kernel
theorem dX6_keep_21 : decode cX6_keep 21 = .ok (.iinc 1 1, 3) := by decide +kernel
theorem dX6_keep_24 : decode cX6_keep 24 = .ok (.goto (-22), 3) := by decide +kernel
theorem dX6_keep_27 : decode cX6_keep 27 = .ok (.aload_n 0, 1) := by decide +kernel
theorem dX6_keep_28 : decode cX6_keep 28 = .ok (.iconst 1, 1) := by decide +kernel
theorem dX6_keep_29 : decode cX6_keep 29 = .ok (.putfield 45, 3) := by decide +kernel
theorem dX6_keep_32 : decode cX6_keep 32 = .ok (.aload_n 0, 1) := by decide +kernel
theorem dX6_keep_33 : decode cX6_keep 33 = .ok (.getfield 7, 3) := by decide +kernel
theorem dX6_keep_36 : decode cX6_keep 36 = .ok (.iconst 4, 1) := by decide +kernel
theorem dX6_keep_37 : decode cX6_keep 37 = .ok (.iaload, 1) := by decide +kernel
theorem dX6_keep_38 : decode cX6_keep 38 = .ok (.ireturn, 1) := by decide +kernel
theorem dX6_restore_0 : decode cX6_restore 0 = .ok (.aload_n 0, 1) := by decide +kernel
theorem dX6_restore_1 : decode cX6_restore 1 = .ok (.getfield 45, 3) := by decide +kernel
theorem dX6_restore_4 : decode cX6_restore 4 = .ok (.ifCond .ne 6, 3) := by decide +kernel
theorem dX6_restore_7 : decode cX6_restore 7 = .ok (.bipush (-5), 2) := by decide +kernel
theorem dX6_restore_9 : decode cX6_restore 9 = .ok (.ireturn, 1) := by decide +kernel
theorem dX6_restore_10 : decode cX6_restore 10 = .ok (.aload_n 0, 1) := by decide +kernel
theorem dX6_restore_11 : decode cX6_restore 11 = .ok (.invokevirtual 49, 3) := by decide +kernel
theorem dX6_restore_14 : decode cX6_restore 14 = .ok (.iconst 0, 1) := by decide +kernel
theorem dX6_restore_15 : decode cX6_restore 15 = .ok (.istore_n 1, 1) := by decide +kernel
theorem dX6_restore_16 : decode cX6_restore 16 = .ok (.iload_n 1, 1) := by decide +kernel
theorem dX6_restore_17 : decode cX6_restore 17 = .ok (.sipush 611, 3) := by decide +kernel
theorem dX6_restore_20 : decode cX6_restore 20 = .ok (.if_icmp .ge 21, 3) := by decide +kernel
theorem dX6_restore_23 : decode cX6_restore 23 = .ok (.aload_n 0, 1) := by decide +kernel
theorem dX6_restore_24 : decode cX6_restore 24 = .ok (.getfield 7, 3) := by decide +kernel
theorem dX6_restore_27 : decode cX6_restore 27 = .ok (.iload_n 1, 1) := by decide +kernel
theorem dX6_restore_28 : decode cX6_restore 28 = .ok (.aload_n 0, 1) := by decide +kernel
theorem dX6_restore_29 : decode cX6_restore 29 = .ok (.getfield 19, 3) := by decide +kernel
theorem dX6_restore_32 : decode cX6_restore 32 = .ok (.iload_n 1, 1) := by decide +kernel
theorem dX6_restore_33 : decode cX6_restore 33 = .ok (.iaload, 1) := by decide +kernel
theorem dX6_restore_34 : decode cX6_restore 34 = .ok (.iastore, 1) := by decide +kernel
theorem dX6_restore_35 : decode cX6_restore 35 = .ok (.iinc 1 1, 3) := by decide +kernel
theorem dX6_restore_38 : decode cX6_restore 38 = .ok (.goto (-22), 3) := by decide +kernel
theorem dX6_restore_41 : decode cX6_restore 41 = .ok (.aload_n 0, 1) := by decide +kernel
theorem dX6_restore_42 : decode cX6_restore 42 = .ok (.getfield 7, 3) := by decide +kernel
theorem dX6_restore_45 : decode cX6_restore 45 = .ok (.iconst 4, 1) := by decide +kernel
theorem dX6_restore_46 : decode cX6_restore 46 = .ok (.iaload, 1) := by decide +kernel
theorem dX6_restore_47 : decode cX6_restore 47 = .ok (.ireturn, 1) := by decide +kernel
theorem dX6_exchange_0 : decode cX6_exchange 0 = .ok (.aload_n 0, 1) := by decide +kernel
theorem dX6_exchange_1 : decode cX6_exchange 1 = .ok (.getfield 7, 3) := by decide +kernel
theorem dX6_exchange_4 : decode cX6_exchange 4 = .ok (.bipush 11, 2) := by decide +kernel
theorem dX6_exchange_6 : decode cX6_exchange 6 = .ok (.iload_n 1, 1) := by decide +kernel
theorem dX6_exchange_7 : decode cX6_exchange 7 = .ok (.iadd, 1) := by decide +kernel
theorem dX6_exchange_8 : decode cX6_exchange 8 = .ok (.iaload, 1) := by decide +kernel
theorem dX6_exchange_9 : decode cX6_exchange 9 = .ok (.istore_n 3, 1) := by decide +kernel
theorem dX6_exchange_10 : decode cX6_exchange 10 = .ok (.aload_n 0, 1) := by decide +kernel
theorem dX6_exchange_11 : decode cX6_exchange 11 = .ok (.getfield 7, 3) := by decide +kernel
theorem dX6_exchange_14 : decode cX6_exchange 14 = .ok (.bipush 11, 2) := by decide +kernel
theorem dX6_exchange_16 : decode cX6_exchange 16 = .ok (.iload_n 1, 1) := by decide +kernel
theorem dX6_exchange_17 : decode cX6_exchange 17 = .ok (.iadd, 1) := by decide +kernel
theorem dX6_exchange_18 : decode cX6_exchange 18 = .ok (.aload_n 0, 1) := by decide +kernel
theorem dX6_exchange_19 : decode cX6_exchange 19 = .ok (.getfield 7, 3) := by decide +kernel
theorem dX6_exchange_22 : decode cX6_exchange 22 = .ok (.bipush 11, 2) := by decide +kernel
theorem dX6_exchange_24 : decode cX6_exchange 24 = .ok (.iload_n 2, 1) := by decide +kernel
theorem dX6_exchange_25 : decode cX6_exchange 25 = .ok (.iadd, 1) := by decide +kernel
theorem dX6_exchange_26 : decode cX6_exchange 26 = .ok (.iaload, 1) := by decide +kernel
theorem dX6_exchange_27 : decode cX6_exchange 27 = .ok (.iastore, 1) := by decide +kernel
theorem dX6_exchange_28 : decode cX6_exchange 28 = .ok (.aload_n 0, 1) := by decide +kernel
theorem dX6_exchange_29 : decode cX6_exchange 29 = .ok (.getfield 7, 3) := by decide +kernel
theorem dX6_exchange_32 : decode cX6_exchange 32 = .ok (.bipush 11, 2) := by decide +kernel
theorem dX6_exchange_34 : decode cX6_exchange 34 = .ok (.iload_n 2, 1) := by decide +kernel
theorem dX6_exchange_35 : decode cX6_exchange 35 = .ok (.iadd, 1) := by decide +kernel
theorem dX6_exchange_36 : decode cX6_exchange 36 = .ok (.iload_n 3, 1) := by decide +kernel
theorem dX6_exchange_37 : decode cX6_exchange 37 = .ok (.iastore, 1) := by decide +kernel
theorem dX6_exchange_38 : decode cX6_exchange 38 = .ok (.return_, 1) := by decide +kernel
theorem dX6_setMark_0 : decode cX6_setMark 0 = .ok (.aload_n 0, 1) := by decide +kernel
theorem dX6_setMark_1 : decode cX6_setMark 1 = .ok (.getfield 7, 3) := by decide +kernel
theorem dX6_setMark_4 : decode cX6_setMark 4 = .ok (.bipush 59, 2) := by decide +kernel
theorem dX6_setMark_6 : decode cX6_setMark 6 = .ok (.iload_n 1, 1) := by decide +kernel
theorem dX6_setMark_7 : decode cX6_setMark 7 = .ok (.iadd, 1) := by decide +kernel
theorem dX6_setMark_8 : decode cX6_setMark 8 = .ok (.iload_n 3, 1) := by decide +kernel
theorem dX6_setMark_9 : decode cX6_setMark 9 = .ok (.ifCond .eq 19, 3) := by decide +kernel
theorem dX6_setMark_12 : decode cX6_setMark 12 = .ok (.aload_n 0, 1) := by decide +kernel
theorem dX6_setMark_13 : decode cX6_setMark 13 = .ok (.getfield 7, 3) := by decide +kernel
theorem dX6_setMark_16 : decode cX6_setMark 16 = .ok (.bipush 59, 2) := by decide +kernel
theorem dX6_setMark_18 : decode cX6_setMark 18 = .ok (.iload_n 1, 1) := by decide +kernel
theorem dX6_setMark_19 : decode cX6_setMark 19 = .ok (.iadd, 1) := by decide +kernel
theorem dX6_setMark_20 : decode cX6_setMark 20 = .ok (.iaload, 1) := by decide +kernel
theorem dX6_setMark_21 : decode cX6_setMark 21 = .ok (.iconst 1, 1) := by decide +kernel
theorem dX6_setMark_22 : decode cX6_setMark 22 = .ok (.iload_n 2, 1) := by decide +kernel
theorem dX6_setMark_23 : decode cX6_setMark 23 = .ok (.ishl, 1) := by decide +kernel
theorem dX6_setMark_24 : decode cX6_setMark 24 = .ok (.ior, 1) := by decide +kernel
theorem dX6_setMark_25 : decode cX6_setMark 25 = .ok (.goto 18, 3) := by decide +kernel
theorem dX6_setMark_28 : decode cX6_setMark 28 = .ok (.aload_n 0, 1) := by decide +kernel
theorem dX6_setMark_29 : decode cX6_setMark 29 = .ok (.getfield 7, 3) := by decide +kernel
theorem dX6_setMark_32 : decode cX6_setMark 32 = .ok (.bipush 59, 2) := by decide +kernel
theorem dX6_setMark_34 : decode cX6_setMark 34 = .ok (.iload_n 1, 1) := by decide +kernel
theorem dX6_setMark_35 : decode cX6_setMark 35 = .ok (.iadd, 1) := by decide +kernel
theorem dX6_setMark_36 : decode cX6_setMark 36 = .ok (.iaload, 1) := by decide +kernel
theorem dX6_setMark_37 : decode cX6_setMark 37 = .ok (.iconst 1, 1) := by decide +kernel
theorem dX6_setMark_38 : decode cX6_setMark 38 = .ok (.iload_n 2, 1) := by decide +kernel
theorem dX6_setMark_39 : decode cX6_setMark 39 = .ok (.ishl, 1) := by decide +kernel
theorem dX6_setMark_40 : decode cX6_setMark 40 = .ok (.iconst (-1), 1) := by decide +kernel
theorem dX6_setMark_41 : decode cX6_setMark 41 = .ok (.ixor, 1) := by decide +kernel
theorem dX6_setMark_42 : decode cX6_setMark 42 = .ok (.iand, 1) := by decide +kernel
theorem dX6_setMark_43 : decode cX6_setMark 43 = .ok (.iastore, 1) := by decide +kernel
theorem dX6_setMark_44 : decode cX6_setMark 44 = .ok (.return_, 1) := by decide +kernel
theorem dX6_swap_0 : decode cX6_swap 0 = .ok (.iload_n 1, 1) := by decide +kernel
theorem dX6_swap_1 : decode cX6_swap 1 = .ok (.invokestatic 52, 3) := by decide +kernel
theorem dX6_swap_4 : decode cX6_swap 4 = .ok (.ifCond .eq 10, 3) := by decide +kernel
theorem dX6_swap_7 : decode cX6_swap 7 = .ok (.iload_n 2, 1) := by decide +kernel
theorem dX6_swap_8 : decode cX6_swap 8 = .ok (.invokestatic 52, 3) := by decide +kernel
theorem dX6_swap_11 : decode cX6_swap 11 = .ok (.ifCond .ne 5, 3) := by decide +kernel
theorem dX6_swap_14 : decode cX6_swap 14 = .ok (.iconst (-1), 1) := by decide +kernel
theorem dX6_swap_15 : decode cX6_swap 15 = .ok (.ireturn, 1) := by decide +kernel
theorem dX6_swap_16 : decode cX6_swap 16 = .ok (.iload_n 1, 1) := by decide +kernel
theorem dX6_swap_17 : decode cX6_swap 17 = .ok (.iload_n 2, 1) := by decide +kernel
theorem dX6_swap_18 : decode cX6_swap 18 = .ok (.if_icmp .ne 6, 3) := by decide +kernel
theorem dX6_swap_21 : decode cX6_swap 21 = .ok (.bipush (-5), 2) := by decide +kernel
theorem dX6_swap_23 : decode cX6_swap 23 = .ok (.ireturn, 1) := by decide +kernel
theorem dX6_swap_24 : decode cX6_swap 24 = .ok (.aload_n 0, 1) := by decide +kernel
theorem dX6_swap_25 : decode cX6_swap 25 = .ok (.invokevirtual 49, 3) := by decide +kernel
theorem dX6_swap_28 : decode cX6_swap 28 = .ok (.aload_n 0, 1) := by decide +kernel
theorem dX6_swap_29 : decode cX6_swap 29 = .ok (.iload_n 1, 1) := by decide +kernel
theorem dX6_swap_30 : decode cX6_swap 30 = .ok (.iload_n 2, 1) := by decide +kernel
theorem dX6_swap_31 : decode cX6_swap 31 = .ok (.invokevirtual 56, 3) := by decide +kernel
theorem dX6_swap_34 : decode cX6_swap 34 = .ok (.aload_n 0, 1) := by decide +kernel
theorem dX6_swap_35 : decode cX6_swap 35 = .ok (.getfield 7, 3) := by decide +kernel
theorem dX6_swap_38 : decode cX6_swap 38 = .ok (.bipush 11, 2) := by decide +kernel
theorem dX6_swap_40 : decode cX6_swap 40 = .ok (.iload_n 1, 1) := by decide +kernel
theorem dX6_swap_41 : decode cX6_swap 41 = .ok (.iadd, 1) := by decide +kernel
theorem dX6_swap_42 : decode cX6_swap 42 = .ok (.iaload, 1) := by decide +kernel
theorem dX6_swap_43 : decode cX6_swap 43 = .ok (.ireturn, 1) := by decide +kernel
theorem dX6_mark_0 : decode cX6_mark 0 = .ok (.iload_n 1, 1) := by decide +kernel
theorem dX6_mark_1 : decode cX6_mark 1 = .ok (.invokestatic 52, 3) := by decide +kernel
theorem dX6_mark_4 : decode cX6_mark 4 = .ok (.ifCond .eq 10, 3) := by decide +kernel
theorem dX6_mark_7 : decode cX6_mark 7 = .ok (.iload_n 2, 1) := by decide +kernel
theorem dX6_mark_8 : decode cX6_mark 8 = .ok (.invokestatic 60, 3) := by decide +kernel
theorem dX6_mark_11 : decode cX6_mark 11 = .ok (.ifCond .ne 5, 3) := by decide +kernel
theorem dX6_mark_14 : decode cX6_mark 14 = .ok (.iconst (-1), 1) := by decide +kernel
theorem dX6_mark_15 : decode cX6_mark 15 = .ok (.ireturn, 1) := by decide +kernel
theorem dX6_mark_16 : decode cX6_mark 16 = .ok (.aload_n 0, 1) := by decide +kernel
theorem dX6_mark_17 : decode cX6_mark 17 = .ok (.getfield 7, 3) := by decide +kernel
theorem dX6_mark_20 : decode cX6_mark 20 = .ok (.bipush 59, 2) := by decide +kernel
theorem dX6_mark_22 : decode cX6_mark 22 = .ok (.iload_n 1, 1) := by decide +kernel
theorem dX6_mark_23 : decode cX6_mark 23 = .ok (.iadd, 1) := by decide +kernel
theorem dX6_mark_24 : decode cX6_mark 24 = .ok (.iaload, 1) := by decide +kernel
theorem dX6_mark_25 : decode cX6_mark 25 = .ok (.iload_n 2, 1) := by decide +kernel
theorem dX6_mark_26 : decode cX6_mark 26 = .ok (.ishr, 1) := by decide +kernel
theorem dX6_mark_27 : decode cX6_mark 27 = .ok (.iconst 1, 1) := by decide +kernel
theorem dX6_mark_28 : decode cX6_mark 28 = .ok (.iand, 1) := by decide +kernel
theorem dX6_mark_29 : decode cX6_mark 29 = .ok (.iload_n 3, 1) := by decide +kernel
theorem dX6_mark_30 : decode cX6_mark 30 = .ok (.ifCond .eq 7, 3) := by decide +kernel
theorem dX6_mark_33 : decode cX6_mark 33 = .ok (.iconst 1, 1) := by decide +kernel
theorem dX6_mark_34 : decode cX6_mark 34 = .ok (.goto 4, 3) := by decide +kernel
theorem dX6_mark_37 : decode cX6_mark 37 = .ok (.iconst 0, 1) := by decide +kernel
theorem dX6_mark_38 : decode cX6_mark 38 = .ok (.if_icmp .ne 6, 3) := by decide +kernel
theorem dX6_mark_41 : decode cX6_mark 41 = .ok (.bipush (-5), 2) := by decide +kernel
theorem dX6_mark_43 : decode cX6_mark 43 = .ok (.ireturn, 1) := by decide +kernel
theorem dX6_mark_44 : decode cX6_mark 44 = .ok (.aload_n 0, 1) := by decide +kernel
theorem dX6_mark_45 : decode cX6_mark 45 = .ok (.invokevirtual 49, 3) := by decide +kernel
theorem dX6_mark_48 : decode cX6_mark 48 = .ok (.aload_n 0, 1) := by decide +kernel
theorem dX6_mark_49 : decode cX6_mark 49 = .ok (.iload_n 1, 1) := by decide +kernel
theorem dX6_mark_50 : decode cX6_mark 50 = .ok (.iload_n 2, 1) := by decide +kernel
theorem dX6_mark_51 : decode cX6_mark 51 = .ok (.iload_n 3, 1) := by decide +kernel
theorem dX6_mark_52 : decode cX6_mark 52 = .ok (.invokevirtual 63, 3) := by decide +kernel
theorem dX6_mark_55 : decode cX6_mark 55 = .ok (.aload_n 0, 1) := by decide +kernel
theorem dX6_mark_56 : decode cX6_mark 56 = .ok (.getfield 7, 3) := by decide +kernel
theorem dX6_mark_59 : decode cX6_mark 59 = .ok (.bipush 59, 2) := by decide +kernel
theorem dX6_mark_61 : decode cX6_mark 61 = .ok (.iload_n 1, 1) := by decide +kernel
theorem dX6_mark_62 : decode cX6_mark 62 = .ok (.iadd, 1) := by decide +kernel
theorem dX6_mark_63 : decode cX6_mark 63 = .ok (.iaload, 1) := by decide +kernel
theorem dX6_mark_64 : decode cX6_mark 64 = .ok (.ireturn, 1) := by decide +kernel
theorem dX6_lean_0 : decode cX6_lean 0 = .ok (.iload_n 1, 1) := by decide +kernel
theorem dX6_lean_1 : decode cX6_lean 1 = .ok (.invokestatic 52, 3) := by decide +kernel
theorem dX6_lean_4 : decode cX6_lean 4 = .ok (.ifCond .ne 5, 3) := by decide +kernel
theorem dX6_lean_7 : decode cX6_lean 7 = .ok (.iconst (-1), 1) := by decide +kernel
theorem dX6_lean_8 : decode cX6_lean 8 = .ok (.ireturn, 1) := by decide +kernel
theorem dX6_lean_9 : decode cX6_lean 9 = .ok (.iload_n 2, 1) := by decide +kernel
theorem dX6_lean_10 : decode cX6_lean 10 = .ok (.bipush (-9), 2) := by decide +kernel
theorem dX6_lean_12 : decode cX6_lean 12 = .ok (.bipush 9, 2) := by decide +kernel
theorem dX6_lean_14 : decode cX6_lean 14 = .ok (.invokestatic 31, 3) := by decide +kernel
theorem dX6_lean_17 : decode cX6_lean 17 = .ok (.ifCond .ne 6, 3) := by decide +kernel
theorem dX6_lean_20 : decode cX6_lean 20 = .ok (.bipush (-2), 2) := by decide +kernel
theorem dX6_lean_22 : decode cX6_lean 22 = .ok (.ireturn, 1) := by decide +kernel
theorem dX6_lean_23 : decode cX6_lean 23 = .ok (.iload_n 1, 1) := by decide +kernel
theorem dX6_lean_24 : decode cX6_lean 24 = .ok (.invokestatic 67, 3) := by decide +kernel
theorem dX6_lean_27 : decode cX6_lean 27 = .ok (.ifCond .ne 6, 3) := by decide +kernel
theorem dX6_lean_30 : decode cX6_lean 30 = .ok (.bipush (-4), 2) := by decide +kernel
theorem dX6_lean_32 : decode cX6_lean 32 = .ok (.ireturn, 1) := by decide +kernel
theorem dX6_lean_33 : decode cX6_lean 33 = .ok (.aload_n 0, 1) := by decide +kernel
theorem dX6_lean_34 : decode cX6_lean 34 = .ok (.getfield 7, 3) := by decide +kernel
theorem dX6_lean_37 : decode cX6_lean 37 = .ok (.bipush 35, 2) := by decide +kernel
theorem dX6_lean_39 : decode cX6_lean 39 = .ok (.iload_n 1, 1) := by decide +kernel
theorem dX6_lean_40 : decode cX6_lean 40 = .ok (.iadd, 1) := by decide +kernel
theorem dX6_lean_41 : decode cX6_lean 41 = .ok (.iaload, 1) := by decide +kernel
theorem dX6_lean_42 : decode cX6_lean 42 = .ok (.istore_n 3, 1) := by decide +kernel
theorem dX6_lean_43 : decode cX6_lean 43 = .ok (.iload_n 3, 1) := by decide +kernel
theorem dX6_lean_44 : decode cX6_lean 44 = .ok (.iload_n 2, 1) := by decide +kernel
theorem dX6_lean_45 : decode cX6_lean 45 = .ok (.if_icmp .ne 6, 3) := by decide +kernel
theorem dX6_lean_48 : decode cX6_lean 48 = .ok (.bipush (-5), 2) := by decide +kernel
theorem dX6_lean_50 : decode cX6_lean 50 = .ok (.ireturn, 1) := by decide +kernel
theorem dX6_lean_51 : decode cX6_lean 51 = .ok (.aload_n 0, 1) := by decide +kernel
theorem dX6_lean_52 : decode cX6_lean 52 = .ok (.invokevirtual 49, 3) := by decide +kernel
theorem dX6_lean_55 : decode cX6_lean 55 = .ok (.aload_n 0, 1) := by decide +kernel
theorem dX6_lean_56 : decode cX6_lean 56 = .ok (.getfield 7, 3) := by decide +kernel
theorem dX6_lean_59 : decode cX6_lean 59 = .ok (.bipush 35, 2) := by decide +kernel
theorem dX6_lean_61 : decode cX6_lean 61 = .ok (.iload_n 1, 1) := by decide +kernel
theorem dX6_lean_62 : decode cX6_lean 62 = .ok (.iadd, 1) := by decide +kernel
theorem dX6_lean_63 : decode cX6_lean 63 = .ok (.iload_n 2, 1) := by decide +kernel
theorem dX6_lean_64 : decode cX6_lean 64 = .ok (.iastore, 1) := by decide +kernel
theorem dX6_lean_65 : decode cX6_lean 65 = .ok (.iload_n 3, 1) := by decide +kernel
theorem dX6_lean_66 : decode cX6_lean 66 = .ok (.bipush 100, 2) := by decide +kernel
theorem dX6_lean_68 : decode cX6_lean 68 = .ok (.iadd, 1) := by decide +kernel
theorem dX6_lean_69 : decode cX6_lean 69 = .ok (.ireturn, 1) := by decide +kernel
theorem dX6_leastOf_0 : decode cX6_leastOf 0 = .ok (.iload_n 0, 1) := by decide +kernel
theorem dX6_leastOf_1 : decode cX6_leastOf 1 = .ok (.ifCond .eq 8, 3) := by decide +kernel
theorem dX6_leastOf_4 : decode cX6_leastOf 4 = .ok (.iload_n 0, 1) := by decide +kernel
theorem dX6_leastOf_5 : decode cX6_leastOf 5 = .ok (.iconst 3, 1) := by decide +kernel
theorem dX6_leastOf_6 : decode cX6_leastOf 6 = .ok (.if_icmp .ne 7, 3) := by decide +kernel
theorem dX6_leastOf_9 : decode cX6_leastOf 9 = .ok (.iconst 1, 1) := by decide +kernel
theorem dX6_leastOf_10 : decode cX6_leastOf 10 = .ok (.goto 4, 3) := by decide +kernel
theorem dX6_leastOf_13 : decode cX6_leastOf 13 = .ok (.iconst 0, 1) := by decide +kernel
theorem dX6_leastOf_14 : decode cX6_leastOf 14 = .ok (.ireturn, 1) := by decide +kernel
theorem dX6_mostOf_0 : decode cX6_mostOf 0 = .ok (.iload_n 0, 1) := by decide +kernel
theorem dX6_mostOf_1 : decode cX6_mostOf 1 = .ok (.iconst 1, 1) := by decide +kernel
theorem dX6_mostOf_2 : decode cX6_mostOf 2 = .ok (.if_icmp .ne 8, 3) := by decide +kernel
theorem dX6_mostOf_5 : decode cX6_mostOf 5 = .ok (.bipush 9, 2) := by decide +kernel
theorem dX6_mostOf_7 : decode cX6_mostOf 7 = .ok (.goto 15, 3) := by decide +kernel
theorem dX6_mostOf_10 : decode cX6_mostOf 10 = .ok (.iload_n 0, 1) := by decide +kernel
theorem dX6_mostOf_11 : decode cX6_mostOf 11 = .ok (.iconst 2, 1) := by decide +kernel
theorem dX6_mostOf_12 : decode cX6_mostOf 12 = .ok (.if_icmp .ne 8, 3) := by decide +kernel
theorem dX6_mostOf_15 : decode cX6_mostOf 15 = .ok (.bipush 24, 2) := by decide +kernel
theorem dX6_mostOf_17 : decode cX6_mostOf 17 = .ok (.goto 5, 3) := by decide +kernel
theorem dX6_mostOf_20 : decode cX6_mostOf 20 = .ok (.bipush 99, 2) := by decide +kernel
theorem dX6_mostOf_22 : decode cX6_mostOf 22 = .ok (.ireturn, 1) := by decide +kernel
theorem dX6_set_0 : decode cX6_set 0 = .ok (.iload_n 1, 1) := by decide +kernel
theorem dX6_set_1 : decode cX6_set 1 = .ok (.iconst 0, 1) := by decide +kernel
theorem dX6_set_2 : decode cX6_set 2 = .ok (.iconst 3, 1) := by decide +kernel
theorem dX6_set_3 : decode cX6_set 3 = .ok (.invokestatic 31, 3) := by decide +kernel
theorem dX6_set_6 : decode cX6_set 6 = .ok (.ifCond .eq 18, 3) := by decide +kernel
theorem dX6_set_9 : decode cX6_set 9 = .ok (.iload_n 2, 1) := by decide +kernel
theorem dX6_set_10 : decode cX6_set 10 = .ok (.iload_n 1, 1) := by decide +kernel
theorem dX6_set_11 : decode cX6_set 11 = .ok (.invokestatic 70, 3) := by decide +kernel
theorem dX6_set_14 : decode cX6_set 14 = .ok (.iload_n 1, 1) := by decide +kernel
theorem dX6_set_15 : decode cX6_set 15 = .ok (.invokestatic 74, 3) := by decide +kernel
theorem dX6_set_18 : decode cX6_set 18 = .ok (.invokestatic 31, 3) := by decide +kernel
theorem dX6_set_21 : decode cX6_set 21 = .ok (.ifCond .ne 6, 3) := by decide +kernel
theorem dX6_set_24 : decode cX6_set 24 = .ok (.bipush (-2), 2) := by decide +kernel
theorem dX6_set_26 : decode cX6_set 26 = .ok (.ireturn, 1) := by decide +kernel
theorem dX6_set_27 : decode cX6_set 27 = .ok (.aload_n 0, 1) := by decide +kernel
theorem dX6_set_28 : decode cX6_set 28 = .ok (.getfield 7, 3) := by decide +kernel
theorem dX6_set_31 : decode cX6_set 31 = .ok (.iconst 0, 1) := by decide +kernel
theorem dX6_set_32 : decode cX6_set 32 = .ok (.iload_n 1, 1) := by decide +kernel
theorem dX6_set_33 : decode cX6_set 33 = .ok (.iadd, 1) := by decide +kernel
theorem dX6_set_34 : decode cX6_set 34 = .ok (.iaload, 1) := by decide +kernel
theorem dX6_set_35 : decode cX6_set 35 = .ok (.istore_n 3, 1) := by decide +kernel
theorem dX6_set_36 : decode cX6_set 36 = .ok (.iload_n 3, 1) := by decide +kernel
theorem dX6_set_37 : decode cX6_set 37 = .ok (.iload_n 2, 1) := by decide +kernel
theorem dX6_set_38 : decode cX6_set 38 = .ok (.if_icmp .ne 6, 3) := by decide +kernel
theorem dX6_set_41 : decode cX6_set 41 = .ok (.bipush (-5), 2) := by decide +kernel
theorem dX6_set_43 : decode cX6_set 43 = .ok (.ireturn, 1) := by decide +kernel
theorem dX6_set_44 : decode cX6_set 44 = .ok (.aload_n 0, 1) := by decide +kernel
theorem dX6_set_45 : decode cX6_set 45 = .ok (.invokevirtual 49, 3) := by decide +kernel
theorem dX6_set_48 : decode cX6_set 48 = .ok (.aload_n 0, 1) := by decide +kernel
theorem dX6_set_49 : decode cX6_set 49 = .ok (.getfield 7, 3) := by decide +kernel
theorem dX6_set_52 : decode cX6_set 52 = .ok (.iconst 0, 1) := by decide +kernel
theorem dX6_set_53 : decode cX6_set 53 = .ok (.iload_n 1, 1) := by decide +kernel
theorem dX6_set_54 : decode cX6_set 54 = .ok (.iadd, 1) := by decide +kernel
theorem dX6_set_55 : decode cX6_set 55 = .ok (.iload_n 2, 1) := by decide +kernel
theorem dX6_set_56 : decode cX6_set 56 = .ok (.iastore, 1) := by decide +kernel
theorem dX6_set_57 : decode cX6_set 57 = .ok (.iload_n 3, 1) := by decide +kernel
theorem dX6_set_58 : decode cX6_set 58 = .ok (.ireturn, 1) := by decide +kernel
theorem dX6_backOf_0 : decode cX6_backOf 0 = .ok (.aload_n 0, 1) := by decide +kernel
theorem dX6_backOf_1 : decode cX6_backOf 1 = .ok (.getfield 7, 3) := by decide +kernel
theorem dX6_backOf_4 : decode cX6_backOf 4 = .ok (.bipush 59, 2) := by decide +kernel
theorem dX6_backOf_6 : decode cX6_backOf 6 = .ok (.iload_n 2, 1) := by decide +kernel
theorem dX6_backOf_7 : decode cX6_backOf 7 = .ok (.ifCond .eq 10, 3) := by decide +kernel
theorem dX6_backOf_10 : decode cX6_backOf 10 = .ok (.bipush 23, 2) := by decide +kernel
theorem dX6_backOf_12 : decode cX6_backOf 12 = .ok (.iload_n 1, 1) := by decide +kernel
theorem dX6_backOf_13 : decode cX6_backOf 13 = .ok (.isub, 1) := by decide +kernel
theorem dX6_backOf_14 : decode cX6_backOf 14 = .ok (.goto 4, 3) := by decide +kernel
theorem dX6_backOf_17 : decode cX6_backOf 17 = .ok (.iload_n 1, 1) := by decide +kernel
theorem dX6_backOf_18 : decode cX6_backOf 18 = .ok (.iadd, 1) := by decide +kernel
theorem dX6_backOf_19 : decode cX6_backOf 19 = .ok (.iaload, 1) := by decide +kernel
theorem dX6_backOf_20 : decode cX6_backOf 20 = .ok (.ireturn, 1) := by decide +kernel
theorem dX6_sheetAt_0 : decode cX6_sheetAt 0 = .ok (.sipush 179, 3) := by decide +kernel
theorem dX6_sheetAt_3 : decode cX6_sheetAt 3 = .ok (.bipush 72, 2) := by decide +kernel
theorem dX6_sheetAt_5 : decode cX6_sheetAt 5 = .ok (.iload_n 0, 1) := by decide +kernel
theorem dX6_sheetAt_6 : decode cX6_sheetAt 6 = .ok (.imul, 1) := by decide +kernel
theorem dX6_sheetAt_7 : decode cX6_sheetAt 7 = .ok (.iadd, 1) := by decide +kernel
theorem dX6_sheetAt_8 : decode cX6_sheetAt 8 = .ok (.ireturn, 1) := by decide +kernel
theorem dX6_top_0 : decode cX6_top 0 = .ok (.aload_n 0, 1) := by decide +kernel
theorem dX6_top_1 : decode cX6_top 1 = .ok (.getfield 7, 3) := by decide +kernel
theorem dX6_top_4 : decode cX6_top 4 = .ok (.iconst 5, 1) := by decide +kernel
theorem dX6_top_5 : decode cX6_top 5 = .ok (.iaload, 1) := by decide +kernel
theorem dX6_top_6 : decode cX6_top 6 = .ok (.iconst 1, 1) := by decide +kernel
theorem dX6_top_7 : decode cX6_top 7 = .ok (.isub, 1) := by decide +kernel
theorem dX6_top_8 : decode cX6_top 8 = .ok (.invokestatic 77, 3) := by decide +kernel
theorem dX6_top_11 : decode cX6_top 11 = .ok (.ireturn, 1) := by decide +kernel
theorem dX6_print_0 : decode cX6_print 0 = .ok (.aload_n 0, 1) := by decide +kernel
theorem dX6_print_1 : decode cX6_print 1 = .ok (.getfield 7, 3) := by decide +kernel
theorem dX6_print_4 : decode cX6_print 4 = .ok (.iconst 5, 1) := by decide +kernel
theorem dX6_print_5 : decode cX6_print 5 = .ok (.iaload, 1) := by decide +kernel
theorem dX6_print_6 : decode cX6_print 6 = .ok (.bipush 6, 2) := by decide +kernel
theorem dX6_print_8 : decode cX6_print 8 = .ok (.if_icmp .ne 6, 3) := by decide +kernel
theorem dX6_print_11 : decode cX6_print 11 = .ok (.bipush (-3), 2) := by decide +kernel
theorem dX6_print_13 : decode cX6_print 13 = .ok (.ireturn, 1) := by decide +kernel
theorem dX6_print_14 : decode cX6_print 14 = .ok (.aload_n 0, 1) := by decide +kernel
theorem dX6_print_15 : decode cX6_print 15 = .ok (.invokevirtual 49, 3) := by decide +kernel
theorem dX6_print_18 : decode cX6_print 18 = .ok (.aload_n 0, 1) := by decide +kernel
theorem dX6_print_19 : decode cX6_print 19 = .ok (.getfield 7, 3) := by decide +kernel
theorem dX6_print_22 : decode cX6_print 22 = .ok (.iconst 5, 1) := by decide +kernel
theorem dX6_print_23 : decode cX6_print 23 = .ok (.dup2, 1) := by decide +kernel
theorem dX6_print_24 : decode cX6_print 24 = .ok (.iaload, 1) := by decide +kernel
theorem dX6_print_25 : decode cX6_print 25 = .ok (.iconst 1, 1) := by decide +kernel
theorem dX6_print_26 : decode cX6_print 26 = .ok (.iadd, 1) := by decide +kernel
theorem dX6_print_27 : decode cX6_print 27 = .ok (.iastore, 1) := by decide +kernel
theorem dX6_print_28 : decode cX6_print 28 = .ok (.iconst 0, 1) := by decide +kernel
theorem dX6_print_29 : decode cX6_print 29 = .ok (.istore_n 2, 1) := by decide +kernel
theorem dX6_print_30 : decode cX6_print 30 = .ok (.iload_n 2, 1) := by decide +kernel
theorem dX6_print_31 : decode cX6_print 31 = .ok (.bipush 24, 2) := by decide +kernel
theorem dX6_print_33 : decode cX6_print 33 = .ok (.if_icmp .ge 72, 3) := by decide +kernel
theorem dX6_print_36 : decode cX6_print 36 = .ok (.aload_n 0, 1) := by decide +kernel
theorem dX6_print_37 : decode cX6_print 37 = .ok (.getfield 7, 3) := by decide +kernel
theorem dX6_print_40 : decode cX6_print 40 = .ok (.aload_n 0, 1) := by decide +kernel
theorem dX6_print_41 : decode cX6_print 41 = .ok (.invokevirtual 80, 3) := by decide +kernel
theorem dX6_print_44 : decode cX6_print 44 = .ok (.iload_n 2, 1) := by decide +kernel
theorem dX6_print_45 : decode cX6_print 45 = .ok (.iadd, 1) := by decide +kernel
theorem dX6_print_46 : decode cX6_print 46 = .ok (.aload_n 0, 1) := by decide +kernel
theorem dX6_print_47 : decode cX6_print 47 = .ok (.getfield 7, 3) := by decide +kernel
theorem dX6_print_50 : decode cX6_print 50 = .ok (.bipush 11, 2) := by decide +kernel
theorem dX6_print_52 : decode cX6_print 52 = .ok (.iload_n 2, 1) := by decide +kernel
theorem dX6_print_53 : decode cX6_print 53 = .ok (.iadd, 1) := by decide +kernel
theorem dX6_print_54 : decode cX6_print 54 = .ok (.iaload, 1) := by decide +kernel
theorem dX6_print_55 : decode cX6_print 55 = .ok (.iastore, 1) := by decide +kernel
theorem dX6_print_56 : decode cX6_print 56 = .ok (.aload_n 0, 1) := by decide +kernel
theorem dX6_print_57 : decode cX6_print 57 = .ok (.getfield 7, 3) := by decide +kernel
theorem dX6_print_60 : decode cX6_print 60 = .ok (.aload_n 0, 1) := by decide +kernel
theorem dX6_print_61 : decode cX6_print 61 = .ok (.invokevirtual 80, 3) := by decide +kernel
theorem dX6_print_64 : decode cX6_print 64 = .ok (.bipush 24, 2) := by decide +kernel
theorem dX6_print_66 : decode cX6_print 66 = .ok (.iadd, 1) := by decide +kernel
theorem dX6_print_67 : decode cX6_print 67 = .ok (.iload_n 2, 1) := by decide +kernel
theorem dX6_print_68 : decode cX6_print 68 = .ok (.iadd, 1) := by decide +kernel
theorem dX6_print_69 : decode cX6_print 69 = .ok (.aload_n 0, 1) := by decide +kernel
theorem dX6_print_70 : decode cX6_print 70 = .ok (.getfield 7, 3) := by decide +kernel
theorem dX6_print_73 : decode cX6_print 73 = .ok (.bipush 35, 2) := by decide +kernel
theorem dX6_print_75 : decode cX6_print 75 = .ok (.iload_n 2, 1) := by decide +kernel
theorem dX6_print_76 : decode cX6_print 76 = .ok (.iadd, 1) := by decide +kernel
theorem dX6_print_77 : decode cX6_print 77 = .ok (.iaload, 1) := by decide +kernel
theorem dX6_print_78 : decode cX6_print 78 = .ok (.iastore, 1) := by decide +kernel
theorem dX6_print_79 : decode cX6_print 79 = .ok (.aload_n 0, 1) := by decide +kernel
theorem dX6_print_80 : decode cX6_print 80 = .ok (.getfield 7, 3) := by decide +kernel
theorem dX6_print_83 : decode cX6_print 83 = .ok (.aload_n 0, 1) := by decide +kernel
theorem dX6_print_84 : decode cX6_print 84 = .ok (.invokevirtual 80, 3) := by decide +kernel
theorem dX6_print_87 : decode cX6_print 87 = .ok (.bipush 48, 2) := by decide +kernel
theorem dX6_print_89 : decode cX6_print 89 = .ok (.iadd, 1) := by decide +kernel
theorem dX6_print_90 : decode cX6_print 90 = .ok (.iload_n 2, 1) := by decide +kernel
theorem dX6_print_91 : decode cX6_print 91 = .ok (.iadd, 1) := by decide +kernel
theorem dX6_print_92 : decode cX6_print 92 = .ok (.aload_n 0, 1) := by decide +kernel
theorem dX6_print_93 : decode cX6_print 93 = .ok (.iload_n 2, 1) := by decide +kernel
theorem dX6_print_94 : decode cX6_print 94 = .ok (.iload_n 1, 1) := by decide +kernel
theorem dX6_print_95 : decode cX6_print 95 = .ok (.invokevirtual 84, 3) := by decide +kernel
theorem dX6_print_98 : decode cX6_print 98 = .ok (.iastore, 1) := by decide +kernel
theorem dX6_print_99 : decode cX6_print 99 = .ok (.iinc 2 1, 3) := by decide +kernel
theorem dX6_print_102 : decode cX6_print 102 = .ok (.goto (-72), 3) := by decide +kernel
theorem dX6_print_105 : decode cX6_print 105 = .ok (.aload_n 0, 1) := by decide +kernel
theorem dX6_print_106 : decode cX6_print 106 = .ok (.getfield 7, 3) := by decide +kernel
theorem dX6_print_109 : decode cX6_print 109 = .ok (.iconst 4, 1) := by decide +kernel
theorem dX6_print_110 : decode cX6_print 110 = .ok (.dup2, 1) := by decide +kernel
theorem dX6_print_111 : decode cX6_print 111 = .ok (.iaload, 1) := by decide +kernel
theorem dX6_print_112 : decode cX6_print 112 = .ok (.iconst 1, 1) := by decide +kernel
theorem dX6_print_113 : decode cX6_print 113 = .ok (.iadd, 1) := by decide +kernel
theorem dX6_print_114 : decode cX6_print 114 = .ok (.iastore, 1) := by decide +kernel
theorem dX6_print_115 : decode cX6_print 115 = .ok (.aload_n 0, 1) := by decide +kernel
theorem dX6_print_116 : decode cX6_print 116 = .ok (.getfield 7, 3) := by decide +kernel
theorem dX6_print_119 : decode cX6_print 119 = .ok (.iconst 4, 1) := by decide +kernel
theorem dX6_print_120 : decode cX6_print 120 = .ok (.iaload, 1) := by decide +kernel
theorem dX6_print_121 : decode cX6_print 121 = .ok (.istore_n 2, 1) := by decide +kernel
theorem dX6_print_122 : decode cX6_print 122 = .ok (.iload_n 2, 1) := by decide +kernel
theorem dX6_print_123 : decode cX6_print 123 = .ok (.aload_n 0, 1) := by decide +kernel
theorem dX6_print_124 : decode cX6_print 124 = .ok (.getfield 7, 3) := by decide +kernel
theorem dX6_print_127 : decode cX6_print 127 = .ok (.iconst 0, 1) := by decide +kernel
theorem dX6_print_128 : decode cX6_print 128 = .ok (.iaload, 1) := by decide +kernel
theorem dX6_print_129 : decode cX6_print 129 = .ok (.irem, 1) := by decide +kernel
theorem dX6_print_130 : decode cX6_print 130 = .ok (.ifCond .ne 22, 3) := by decide +kernel
theorem dX6_print_133 : decode cX6_print 133 = .ok (.aload_n 0, 1) := by decide +kernel
theorem dX6_print_134 : decode cX6_print 134 = .ok (.iload_n 2, 1) := by decide +kernel
theorem dX6_print_135 : decode cX6_print 135 = .ok (.bipush 24, 2) := by decide +kernel
theorem dX6_print_137 : decode cX6_print 137 = .ok (.irem, 1) := by decide +kernel
theorem dX6_print_138 : decode cX6_print 138 = .ok (.iload_n 2, 1) := by decide +kernel
theorem dX6_print_139 : decode cX6_print 139 = .ok (.aload_n 0, 1) := by decide +kernel
theorem dX6_print_140 : decode cX6_print 140 = .ok (.getfield 7, 3) := by decide +kernel
theorem dX6_print_143 : decode cX6_print 143 = .ok (.iconst 0, 1) := by decide +kernel
theorem dX6_print_144 : decode cX6_print 144 = .ok (.iaload, 1) := by decide +kernel
theorem dX6_print_145 : decode cX6_print 145 = .ok (.idiv, 1) := by decide +kernel
theorem dX6_print_146 : decode cX6_print 146 = .ok (.iconst 4, 1) := by decide +kernel
theorem dX6_print_147 : decode cX6_print 147 = .ok (.irem, 1) := by decide +kernel
theorem dX6_print_148 : decode cX6_print 148 = .ok (.iconst 1, 1) := by decide +kernel
theorem dX6_print_149 : decode cX6_print 149 = .ok (.invokevirtual 63, 3) := by decide +kernel
theorem dX6_print_152 : decode cX6_print 152 = .ok (.aload_n 0, 1) := by decide +kernel
theorem dX6_print_153 : decode cX6_print 153 = .ok (.getfield 7, 3) := by decide +kernel
theorem dX6_print_156 : decode cX6_print 156 = .ok (.iconst 5, 1) := by decide +kernel
theorem dX6_print_157 : decode cX6_print 157 = .ok (.iaload, 1) := by decide +kernel
theorem dX6_print_158 : decode cX6_print 158 = .ok (.ireturn, 1) := by decide +kernel
theorem dX6_cellAt_0 : decode cX6_cellAt 0 = .ok (.iload_n 1, 1) := by decide +kernel
theorem dX6_cellAt_1 : decode cX6_cellAt 1 = .ok (.iconst 2, 1) := by decide +kernel
theorem dX6_cellAt_2 : decode cX6_cellAt 2 = .ok (.irem, 1) := by decide +kernel
theorem dX6_cellAt_3 : decode cX6_cellAt 3 = .ok (.ifCond .ne 7, 3) := by decide +kernel
theorem dX6_cellAt_6 : decode cX6_cellAt 6 = .ok (.iconst 1, 1) := by decide +kernel
theorem dX6_cellAt_7 : decode cX6_cellAt 7 = .ok (.goto 4, 3) := by decide +kernel
theorem dX6_cellAt_10 : decode cX6_cellAt 10 = .ok (.iconst 0, 1) := by decide +kernel
theorem dX6_cellAt_11 : decode cX6_cellAt 11 = .ok (.istore_n 2, 1) := by decide +kernel
theorem dX6_cellAt_12 : decode cX6_cellAt 12 = .ok (.iload_n 2, 1) := by decide +kernel
theorem dX6_cellAt_13 : decode cX6_cellAt 13 = .ok (.ifCond .eq 8, 3) := by decide +kernel
theorem dX6_cellAt_16 : decode cX6_cellAt 16 = .ok (.bipush 6, 2) := by decide +kernel
theorem dX6_cellAt_18 : decode cX6_cellAt 18 = .ok (.goto 4, 3) := by decide +kernel
theorem dX6_cellAt_21 : decode cX6_cellAt 21 = .ok (.iconst 4, 1) := by decide +kernel
theorem dX6_cellAt_22 : decode cX6_cellAt 22 = .ok (.istore_n 3, 1) := by decide +kernel
theorem dX6_cellAt_23 : decode cX6_cellAt 23 = .ok (.iload_n 0, 1) := by decide +kernel
theorem dX6_cellAt_24 : decode cX6_cellAt 24 = .ok (.iload_n 3, 1) := by decide +kernel
theorem dX6_cellAt_25 : decode cX6_cellAt 25 = .ok (.idiv, 1) := by decide +kernel
theorem dX6_cellAt_26 : decode cX6_cellAt 26 = .ok (.istore 4, 2) := by decide +kernel
theorem dX6_cellAt_28 : decode cX6_cellAt 28 = .ok (.iload_n 0, 1) := by decide +kernel
theorem dX6_cellAt_29 : decode cX6_cellAt 29 = .ok (.iload_n 3, 1) := by decide +kernel
theorem dX6_cellAt_30 : decode cX6_cellAt 30 = .ok (.irem, 1) := by decide +kernel
theorem dX6_cellAt_31 : decode cX6_cellAt 31 = .ok (.istore 5, 2) := by decide +kernel
theorem dX6_cellAt_33 : decode cX6_cellAt 33 = .ok (.iload_n 1, 1) := by decide +kernel
theorem dX6_cellAt_34 : decode cX6_cellAt 34 = .ok (.iconst 1, 1) := by decide +kernel
theorem dX6_cellAt_35 : decode cX6_cellAt 35 = .ok (.if_icmp .le 20, 3) := by decide +kernel
theorem dX6_cellAt_38 : decode cX6_cellAt 38 = .ok (.iload 4, 2) := by decide +kernel
theorem dX6_cellAt_40 : decode cX6_cellAt 40 = .ok (.iconst 2, 1) := by decide +kernel
theorem dX6_cellAt_41 : decode cX6_cellAt 41 = .ok (.irem, 1) := by decide +kernel
theorem dX6_cellAt_42 : decode cX6_cellAt 42 = .ok (.iconst 1, 1) := by decide +kernel
theorem dX6_cellAt_43 : decode cX6_cellAt 43 = .ok (.if_icmp .ne 12, 3) := by decide +kernel
theorem dX6_cellAt_46 : decode cX6_cellAt 46 = .ok (.iload_n 3, 1) := by decide +kernel
theorem dX6_cellAt_47 : decode cX6_cellAt 47 = .ok (.iconst 1, 1) := by decide +kernel
theorem dX6_cellAt_48 : decode cX6_cellAt 48 = .ok (.isub, 1) := by decide +kernel
theorem dX6_cellAt_49 : decode cX6_cellAt 49 = .ok (.iload 5, 2) := by decide +kernel
theorem dX6_cellAt_51 : decode cX6_cellAt 51 = .ok (.isub, 1) := by decide +kernel
theorem dX6_cellAt_52 : decode cX6_cellAt 52 = .ok (.goto 5, 3) := by decide +kernel
theorem dX6_cellAt_55 : decode cX6_cellAt 55 = .ok (.iload 5, 2) := by decide +kernel
theorem dX6_cellAt_57 : decode cX6_cellAt 57 = .ok (.istore 5, 2) := by decide +kernel
theorem dX6_cellAt_59 : decode cX6_cellAt 59 = .ok (.iload_n 2, 1) := by decide +kernel
theorem dX6_cellAt_60 : decode cX6_cellAt 60 = .ok (.ifCond .eq 14, 3) := by decide +kernel
theorem dX6_cellAt_63 : decode cX6_cellAt 63 = .ok (.bipush 6, 2) := by decide +kernel
theorem dX6_cellAt_65 : decode cX6_cellAt 65 = .ok (.iload 4, 2) := by decide +kernel
theorem dX6_cellAt_67 : decode cX6_cellAt 67 = .ok (.imul, 1) := by decide +kernel
theorem dX6_cellAt_68 : decode cX6_cellAt 68 = .ok (.iload 5, 2) := by decide +kernel
theorem dX6_cellAt_70 : decode cX6_cellAt 70 = .ok (.iadd, 1) := by decide +kernel
theorem dX6_cellAt_71 : decode cX6_cellAt 71 = .ok (.goto 11, 3) := by decide +kernel
theorem dX6_cellAt_74 : decode cX6_cellAt 74 = .ok (.bipush 6, 2) := by decide +kernel
theorem dX6_cellAt_76 : decode cX6_cellAt 76 = .ok (.iload 5, 2) := by decide +kernel
theorem dX6_cellAt_78 : decode cX6_cellAt 78 = .ok (.imul, 1) := by decide +kernel
theorem dX6_cellAt_79 : decode cX6_cellAt 79 = .ok (.iload 4, 2) := by decide +kernel
theorem dX6_cellAt_81 : decode cX6_cellAt 81 = .ok (.iadd, 1) := by decide +kernel
theorem dX6_cellAt_82 : decode cX6_cellAt 82 = .ok (.ireturn, 1) := by decide +kernel
theorem dX6_cutSheet_0 : decode cX6_cutSheet 0 = .ok (.iload_n 1, 1) := by decide +kernel
theorem dX6_cutSheet_1 : decode cX6_cutSheet 1 = .ok (.iconst 0, 1) := by decide +kernel
theorem dX6_cutSheet_2 : decode cX6_cutSheet 2 = .ok (.iconst 3, 1) := by decide +kernel
theorem dX6_cutSheet_3 : decode cX6_cutSheet 3 = .ok (.invokestatic 31, 3) := by decide +kernel
theorem dX6_cutSheet_6 : decode cX6_cutSheet 6 = .ok (.ifCond .ne 6, 3) := by decide +kernel
theorem dX6_cutSheet_9 : decode cX6_cutSheet 9 = .ok (.bipush (-2), 2) := by decide +kernel
theorem dX6_cutSheet_11 : decode cX6_cutSheet 11 = .ok (.ireturn, 1) := by decide +kernel
theorem dX6_cutSheet_12 : decode cX6_cutSheet 12 = .ok (.aload_n 0, 1) := by decide +kernel
theorem dX6_cutSheet_13 : decode cX6_cutSheet 13 = .ok (.getfield 7, 3) := by decide +kernel
theorem dX6_cutSheet_16 : decode cX6_cutSheet 16 = .ok (.bipush 6, 2) := by decide +kernel
theorem dX6_cutSheet_18 : decode cX6_cutSheet 18 = .ok (.iaload, 1) := by decide +kernel
theorem dX6_cutSheet_19 : decode cX6_cutSheet 19 = .ok (.iconst 1, 1) := by decide +kernel
theorem dX6_cutSheet_20 : decode cX6_cutSheet 20 = .ok (.if_icmp .eq 12, 3) := by decide +kernel
theorem dX6_cutSheet_23 : decode cX6_cutSheet 23 = .ok (.aload_n 0, 1) := by decide +kernel
theorem dX6_cutSheet_24 : decode cX6_cutSheet 24 = .ok (.getfield 7, 3) := by decide +kernel
theorem dX6_cutSheet_27 : decode cX6_cutSheet 27 = .ok (.iconst 5, 1) := by decide +kernel
theorem dX6_cutSheet_28 : decode cX6_cutSheet 28 = .ok (.iaload, 1) := by decide +kernel
theorem dX6_cutSheet_29 : decode cX6_cutSheet 29 = .ok (.ifCond .ne 6, 3) := by decide +kernel
theorem dX6_cutSheet_32 : decode cX6_cutSheet 32 = .ok (.bipush (-4), 2) := by decide +kernel
theorem dX6_cutSheet_34 : decode cX6_cutSheet 34 = .ok (.ireturn, 1) := by decide +kernel
theorem dX6_cutSheet_35 : decode cX6_cutSheet 35 = .ok (.aload_n 0, 1) := by decide +kernel
theorem dX6_cutSheet_36 : decode cX6_cutSheet 36 = .ok (.invokevirtual 49, 3) := by decide +kernel
theorem dX6_cutSheet_39 : decode cX6_cutSheet 39 = .ok (.iconst 0, 1) := by decide +kernel
theorem dX6_cutSheet_40 : decode cX6_cutSheet 40 = .ok (.istore_n 2, 1) := by decide +kernel
theorem dX6_cutSheet_41 : decode cX6_cutSheet 41 = .ok (.iload_n 2, 1) := by decide +kernel
theorem dX6_cutSheet_42 : decode cX6_cutSheet 42 = .ok (.bipush 24, 2) := by decide +kernel
theorem dX6_cutSheet_44 : decode cX6_cutSheet 44 = .ok (.if_icmp .ge 98, 3) := by decide +kernel
theorem dX6_cutSheet_47 : decode cX6_cutSheet 47 = .ok (.iload_n 2, 1) := by decide +kernel
theorem dX6_cutSheet_48 : decode cX6_cutSheet 48 = .ok (.iload_n 1, 1) := by decide +kernel
theorem dX6_cutSheet_49 : decode cX6_cutSheet 49 = .ok (.invokestatic 88, 3) := by decide +kernel
theorem dX6_cutSheet_52 : decode cX6_cutSheet 52 = .ok (.istore_n 3, 1) := by decide +kernel
theorem dX6_cutSheet_53 : decode cX6_cutSheet 53 = .ok (.aload_n 0, 1) := by decide +kernel
theorem dX6_cutSheet_54 : decode cX6_cutSheet 54 = .ok (.getfield 7, 3) := by decide +kernel
theorem dX6_cutSheet_57 : decode cX6_cutSheet 57 = .ok (.aload_n 0, 1) := by decide +kernel
theorem dX6_cutSheet_58 : decode cX6_cutSheet 58 = .ok (.invokevirtual 80, 3) := by decide +kernel
theorem dX6_cutSheet_61 : decode cX6_cutSheet 61 = .ok (.iload_n 3, 1) := by decide +kernel
theorem dX6_cutSheet_62 : decode cX6_cutSheet 62 = .ok (.iadd, 1) := by decide +kernel
theorem dX6_cutSheet_63 : decode cX6_cutSheet 63 = .ok (.iaload, 1) := by decide +kernel
theorem dX6_cutSheet_64 : decode cX6_cutSheet 64 = .ok (.istore 4, 2) := by decide +kernel
theorem dX6_cutSheet_66 : decode cX6_cutSheet 66 = .ok (.aload_n 0, 1) := by decide +kernel
theorem dX6_cutSheet_67 : decode cX6_cutSheet 67 = .ok (.getfield 7, 3) := by decide +kernel
theorem dX6_cutSheet_70 : decode cX6_cutSheet 70 = .ok (.bipush 83, 2) := by decide +kernel
theorem dX6_cutSheet_72 : decode cX6_cutSheet 72 = .ok (.iload_n 2, 1) := by decide +kernel
theorem dX6_cutSheet_73 : decode cX6_cutSheet 73 = .ok (.iadd, 1) := by decide +kernel
theorem dX6_cutSheet_74 : decode cX6_cutSheet 74 = .ok (.iload 4, 2) := by decide +kernel
theorem dX6_cutSheet_76 : decode cX6_cutSheet 76 = .ok (.iastore, 1) := by decide +kernel
theorem dX6_cutSheet_77 : decode cX6_cutSheet 77 = .ok (.aload_n 0, 1) := by decide +kernel
theorem dX6_cutSheet_78 : decode cX6_cutSheet 78 = .ok (.getfield 7, 3) := by decide +kernel
theorem dX6_cutSheet_81 : decode cX6_cutSheet 81 = .ok (.sipush 131, 3) := by decide +kernel
theorem dX6_cutSheet_84 : decode cX6_cutSheet 84 = .ok (.iload 4, 2) := by decide +kernel
theorem dX6_cutSheet_86 : decode cX6_cutSheet 86 = .ok (.iadd, 1) := by decide +kernel
theorem dX6_cutSheet_87 : decode cX6_cutSheet 87 = .ok (.aload_n 0, 1) := by decide +kernel
theorem dX6_cutSheet_88 : decode cX6_cutSheet 88 = .ok (.getfield 7, 3) := by decide +kernel
theorem dX6_cutSheet_91 : decode cX6_cutSheet 91 = .ok (.aload_n 0, 1) := by decide +kernel
theorem dX6_cutSheet_92 : decode cX6_cutSheet 92 = .ok (.invokevirtual 80, 3) := by decide +kernel
theorem dX6_cutSheet_95 : decode cX6_cutSheet 95 = .ok (.bipush 48, 2) := by decide +kernel
theorem dX6_cutSheet_97 : decode cX6_cutSheet 97 = .ok (.iadd, 1) := by decide +kernel
theorem dX6_cutSheet_98 : decode cX6_cutSheet 98 = .ok (.iload_n 3, 1) := by decide +kernel
theorem dX6_cutSheet_99 : decode cX6_cutSheet 99 = .ok (.iadd, 1) := by decide +kernel
theorem dX6_cutSheet_100 : decode cX6_cutSheet 100 = .ok (.iaload, 1) := by decide +kernel
theorem dX6_cutSheet_101 : decode cX6_cutSheet 101 = .ok (.iastore, 1) := by decide +kernel
theorem dX6_cutSheet_102 : decode cX6_cutSheet 102 = .ok (.aload_n 0, 1) := by decide +kernel
theorem dX6_cutSheet_103 : decode cX6_cutSheet 103 = .ok (.getfield 7, 3) := by decide +kernel
theorem dX6_cutSheet_106 : decode cX6_cutSheet 106 = .ok (.bipush 107, 2) := by decide +kernel
theorem dX6_cutSheet_108 : decode cX6_cutSheet 108 = .ok (.iload_n 2, 1) := by decide +kernel
theorem dX6_cutSheet_109 : decode cX6_cutSheet 109 = .ok (.iadd, 1) := by decide +kernel
theorem dX6_cutSheet_110 : decode cX6_cutSheet 110 = .ok (.aload_n 0, 1) := by decide +kernel
theorem dX6_cutSheet_111 : decode cX6_cutSheet 111 = .ok (.getfield 7, 3) := by decide +kernel
theorem dX6_cutSheet_114 : decode cX6_cutSheet 114 = .ok (.aload_n 0, 1) := by decide +kernel
theorem dX6_cutSheet_115 : decode cX6_cutSheet 115 = .ok (.invokevirtual 80, 3) := by decide +kernel
theorem dX6_cutSheet_118 : decode cX6_cutSheet 118 = .ok (.bipush 24, 2) := by decide +kernel
theorem dX6_cutSheet_120 : decode cX6_cutSheet 120 = .ok (.iadd, 1) := by decide +kernel
theorem dX6_cutSheet_121 : decode cX6_cutSheet 121 = .ok (.iload_n 2, 1) := by decide +kernel
theorem dX6_cutSheet_122 : decode cX6_cutSheet 122 = .ok (.iadd, 1) := by decide +kernel
theorem dX6_cutSheet_123 : decode cX6_cutSheet 123 = .ok (.iaload, 1) := by decide +kernel
theorem dX6_cutSheet_124 : decode cX6_cutSheet 124 = .ok (.iastore, 1) := by decide +kernel
theorem dX6_cutSheet_125 : decode cX6_cutSheet 125 = .ok (.aload_n 0, 1) := by decide +kernel
theorem dX6_cutSheet_126 : decode cX6_cutSheet 126 = .ok (.getfield 7, 3) := by decide +kernel
theorem dX6_cutSheet_129 : decode cX6_cutSheet 129 = .ok (.sipush 155, 3) := by decide +kernel
theorem dX6_cutSheet_132 : decode cX6_cutSheet 132 = .ok (.iload_n 2, 1) := by decide +kernel
theorem dX6_cutSheet_133 : decode cX6_cutSheet 133 = .ok (.iadd, 1) := by decide +kernel
theorem dX6_cutSheet_134 : decode cX6_cutSheet 134 = .ok (.iconst 0, 1) := by decide +kernel
theorem dX6_cutSheet_135 : decode cX6_cutSheet 135 = .ok (.iastore, 1) := by decide +kernel
theorem dX6_cutSheet_136 : decode cX6_cutSheet 136 = .ok (.iinc 2 1, 3) := by decide +kernel
theorem dX6_cutSheet_139 : decode cX6_cutSheet 139 = .ok (.goto (-98), 3) := by decide +kernel
theorem dX6_cutSheet_142 : decode cX6_cutSheet 142 = .ok (.aload_n 0, 1) := by decide +kernel
theorem dX6_cutSheet_143 : decode cX6_cutSheet 143 = .ok (.getfield 7, 3) := by decide +kernel
theorem dX6_cutSheet_146 : decode cX6_cutSheet 146 = .ok (.bipush 6, 2) := by decide +kernel
theorem dX6_cutSheet_148 : decode cX6_cutSheet 148 = .ok (.iconst 1, 1) := by decide +kernel
theorem dX6_cutSheet_149 : decode cX6_cutSheet 149 = .ok (.iastore, 1) := by decide +kernel
theorem dX6_cutSheet_150 : decode cX6_cutSheet 150 = .ok (.aload_n 0, 1) := by decide +kernel
theorem dX6_cutSheet_151 : decode cX6_cutSheet 151 = .ok (.getfield 7, 3) := by decide +kernel
theorem dX6_cutSheet_154 : decode cX6_cutSheet 154 = .ok (.bipush 7, 2) := by decide +kernel
theorem dX6_cutSheet_156 : decode cX6_cutSheet 156 = .ok (.bipush 24, 2) := by decide +kernel
theorem dX6_cutSheet_158 : decode cX6_cutSheet 158 = .ok (.iastore, 1) := by decide +kernel
theorem dX6_cutSheet_159 : decode cX6_cutSheet 159 = .ok (.aload_n 0, 1) := by decide +kernel
theorem dX6_cutSheet_160 : decode cX6_cutSheet 160 = .ok (.getfield 7, 3) := by decide +kernel
theorem dX6_cutSheet_163 : decode cX6_cutSheet 163 = .ok (.iconst 5, 1) := by decide +kernel
theorem dX6_cutSheet_164 : decode cX6_cutSheet 164 = .ok (.dup2, 1) := by decide +kernel
theorem dX6_cutSheet_165 : decode cX6_cutSheet 165 = .ok (.iaload, 1) := by decide +kernel
theorem dX6_cutSheet_166 : decode cX6_cutSheet 166 = .ok (.iconst 1, 1) := by decide +kernel
theorem dX6_cutSheet_167 : decode cX6_cutSheet 167 = .ok (.isub, 1) := by decide +kernel
theorem dX6_cutSheet_168 : decode cX6_cutSheet 168 = .ok (.iastore, 1) := by decide +kernel
theorem dX6_cutSheet_169 : decode cX6_cutSheet 169 = .ok (.aload_n 0, 1) := by decide +kernel
theorem dX6_cutSheet_170 : decode cX6_cutSheet 170 = .ok (.getfield 7, 3) := by decide +kernel
theorem dX6_cutSheet_173 : decode cX6_cutSheet 173 = .ok (.iconst 5, 1) := by decide +kernel
theorem dX6_cutSheet_174 : decode cX6_cutSheet 174 = .ok (.iaload, 1) := by decide +kernel
theorem dX6_cutSheet_175 : decode cX6_cutSheet 175 = .ok (.ireturn, 1) := by decide +kernel
theorem dX6_canPart_0 : decode cX6_canPart 0 = .ok (.iload_n 1, 1) := by decide +kernel
theorem dX6_canPart_1 : decode cX6_canPart 1 = .ok (.iconst 1, 1) := by decide +kernel
theorem dX6_canPart_2 : decode cX6_canPart 2 = .ok (.aload_n 0, 1) := by decide +kernel
theorem dX6_canPart_3 : decode cX6_canPart 3 = .ok (.getfield 7, 3) := by decide +kernel
theorem dX6_canPart_6 : decode cX6_canPart 6 = .ok (.bipush 7, 2) := by decide +kernel
theorem dX6_canPart_8 : decode cX6_canPart 8 = .ok (.iaload, 1) := by decide +kernel
theorem dX6_canPart_9 : decode cX6_canPart 9 = .ok (.iconst 1, 1) := by decide +kernel
theorem dX6_canPart_10 : decode cX6_canPart 10 = .ok (.isub, 1) := by decide +kernel
theorem dX6_canPart_11 : decode cX6_canPart 11 = .ok (.invokestatic 31, 3) := by decide +kernel
theorem dX6_canPart_14 : decode cX6_canPart 14 = .ok (.ireturn, 1) := by decide +kernel
theorem dX6_takeOrder_0 : decode cX6_takeOrder 0 = .ok (.iconst 0, 1) := by decide +kernel
theorem dX6_takeOrder_1 : decode cX6_takeOrder 1 = .ok (.istore_n 1, 1) := by decide +kernel
theorem dX6_takeOrder_2 : decode cX6_takeOrder 2 = .ok (.iload_n 1, 1) := by decide +kernel
theorem dX6_takeOrder_3 : decode cX6_takeOrder 3 = .ok (.aload_n 0, 1) := by decide +kernel
theorem dX6_takeOrder_4 : decode cX6_takeOrder 4 = .ok (.getfield 7, 3) := by decide +kernel
theorem dX6_takeOrder_7 : decode cX6_takeOrder 7 = .ok (.bipush 7, 2) := by decide +kernel
theorem dX6_takeOrder_9 : decode cX6_takeOrder 9 = .ok (.iaload, 1) := by decide +kernel
theorem dX6_takeOrder_10 : decode cX6_takeOrder 10 = .ok (.if_icmp .ge 24, 3) := by decide +kernel
theorem dX6_takeOrder_13 : decode cX6_takeOrder 13 = .ok (.aload_n 0, 1) := by decide +kernel
theorem dX6_takeOrder_14 : decode cX6_takeOrder 14 = .ok (.getfield 25, 3) := by decide +kernel
theorem dX6_takeOrder_17 : decode cX6_takeOrder 17 = .ok (.iload_n 1, 1) := by decide +kernel
theorem dX6_takeOrder_18 : decode cX6_takeOrder 18 = .ok (.aload_n 0, 1) := by decide +kernel
theorem dX6_takeOrder_19 : decode cX6_takeOrder 19 = .ok (.getfield 7, 3) := by decide +kernel
theorem dX6_takeOrder_22 : decode cX6_takeOrder 22 = .ok (.bipush 83, 2) := by decide +kernel
theorem dX6_takeOrder_24 : decode cX6_takeOrder 24 = .ok (.iload_n 1, 1) := by decide +kernel
theorem dX6_takeOrder_25 : decode cX6_takeOrder 25 = .ok (.iadd, 1) := by decide +kernel
theorem dX6_takeOrder_26 : decode cX6_takeOrder 26 = .ok (.iaload, 1) := by decide +kernel
theorem dX6_takeOrder_27 : decode cX6_takeOrder 27 = .ok (.iastore, 1) := by decide +kernel
theorem dX6_takeOrder_28 : decode cX6_takeOrder 28 = .ok (.iinc 1 1, 3) := by decide +kernel
theorem dX6_takeOrder_31 : decode cX6_takeOrder 31 = .ok (.goto (-29), 3) := by decide +kernel
theorem dX6_takeOrder_34 : decode cX6_takeOrder 34 = .ok (.return_, 1) := by decide +kernel
theorem dX6_cutPack_0 : decode cX6_cutPack 0 = .ok (.aload_n 0, 1) := by decide +kernel
theorem dX6_cutPack_1 : decode cX6_cutPack 1 = .ok (.getfield 7, 3) := by decide +kernel
theorem dX6_cutPack_4 : decode cX6_cutPack 4 = .ok (.bipush 6, 2) := by decide +kernel
theorem dX6_cutPack_6 : decode cX6_cutPack 6 = .ok (.iaload, 1) := by decide +kernel
theorem dX6_cutPack_7 : decode cX6_cutPack 7 = .ok (.ifCond .ne 6, 3) := by decide +kernel
theorem dX6_cutPack_10 : decode cX6_cutPack 10 = .ok (.bipush (-4), 2) := by decide +kernel
theorem dX6_cutPack_12 : decode cX6_cutPack 12 = .ok (.ireturn, 1) := by decide +kernel
theorem dX6_cutPack_13 : decode cX6_cutPack 13 = .ok (.aload_n 0, 1) := by decide +kernel
theorem dX6_cutPack_14 : decode cX6_cutPack 14 = .ok (.iload_n 1, 1) := by decide +kernel
theorem dX6_cutPack_15 : decode cX6_cutPack 15 = .ok (.invokevirtual 92, 3) := by decide +kernel
theorem dX6_cutPack_18 : decode cX6_cutPack 18 = .ok (.ifCond .ne 6, 3) := by decide +kernel
theorem dX6_cutPack_21 : decode cX6_cutPack 21 = .ok (.bipush (-2), 2) := by decide +kernel
theorem dX6_cutPack_23 : decode cX6_cutPack 23 = .ok (.ireturn, 1) := by decide +kernel
theorem dX6_cutPack_24 : decode cX6_cutPack 24 = .ok (.aload_n 0, 1) := by decide +kernel
theorem dX6_cutPack_25 : decode cX6_cutPack 25 = .ok (.invokevirtual 49, 3) := by decide +kernel
theorem dX6_cutPack_28 : decode cX6_cutPack 28 = .ok (.aload_n 0, 1) := by decide +kernel
theorem dX6_cutPack_29 : decode cX6_cutPack 29 = .ok (.invokevirtual 95, 3) := by decide +kernel
theorem dX6_cutPack_32 : decode cX6_cutPack 32 = .ok (.iconst 0, 1) := by decide +kernel
theorem dX6_cutPack_33 : decode cX6_cutPack 33 = .ok (.istore_n 2, 1) := by decide +kernel
theorem dX6_cutPack_34 : decode cX6_cutPack 34 = .ok (.iload_n 2, 1) := by decide +kernel
theorem dX6_cutPack_35 : decode cX6_cutPack 35 = .ok (.aload_n 0, 1) := by decide +kernel
theorem dX6_cutPack_36 : decode cX6_cutPack 36 = .ok (.getfield 7, 3) := by decide +kernel
theorem dX6_cutPack_39 : decode cX6_cutPack 39 = .ok (.bipush 7, 2) := by decide +kernel
theorem dX6_cutPack_41 : decode cX6_cutPack 41 = .ok (.iaload, 1) := by decide +kernel
theorem dX6_cutPack_42 : decode cX6_cutPack 42 = .ok (.if_icmp .ge 34, 3) := by decide +kernel
theorem dX6_cutPack_45 : decode cX6_cutPack 45 = .ok (.aload_n 0, 1) := by decide +kernel
theorem dX6_cutPack_46 : decode cX6_cutPack 46 = .ok (.getfield 7, 3) := by decide +kernel
theorem dX6_cutPack_49 : decode cX6_cutPack 49 = .ok (.bipush 83, 2) := by decide +kernel
theorem dX6_cutPack_51 : decode cX6_cutPack 51 = .ok (.iload_n 2, 1) := by decide +kernel
theorem dX6_cutPack_52 : decode cX6_cutPack 52 = .ok (.iadd, 1) := by decide +kernel
theorem dX6_cutPack_53 : decode cX6_cutPack 53 = .ok (.aload_n 0, 1) := by decide +kernel
theorem dX6_cutPack_54 : decode cX6_cutPack 54 = .ok (.getfield 25, 3) := by decide +kernel
theorem dX6_cutPack_57 : decode cX6_cutPack 57 = .ok (.iload_n 2, 1) := by decide +kernel
theorem dX6_cutPack_58 : decode cX6_cutPack 58 = .ok (.iload_n 1, 1) := by decide +kernel
theorem dX6_cutPack_59 : decode cX6_cutPack 59 = .ok (.iadd, 1) := by decide +kernel
theorem dX6_cutPack_60 : decode cX6_cutPack 60 = .ok (.aload_n 0, 1) := by decide +kernel
theorem dX6_cutPack_61 : decode cX6_cutPack 61 = .ok (.getfield 7, 3) := by decide +kernel
theorem dX6_cutPack_64 : decode cX6_cutPack 64 = .ok (.bipush 7, 2) := by decide +kernel
theorem dX6_cutPack_66 : decode cX6_cutPack 66 = .ok (.iaload, 1) := by decide +kernel
theorem dX6_cutPack_67 : decode cX6_cutPack 67 = .ok (.irem, 1) := by decide +kernel
theorem dX6_cutPack_68 : decode cX6_cutPack 68 = .ok (.iaload, 1) := by decide +kernel
theorem dX6_cutPack_69 : decode cX6_cutPack 69 = .ok (.iastore, 1) := by decide +kernel
theorem dX6_cutPack_70 : decode cX6_cutPack 70 = .ok (.iinc 2 1, 3) := by decide +kernel
theorem dX6_cutPack_73 : decode cX6_cutPack 73 = .ok (.goto (-39), 3) := by decide +kernel
theorem dX6_cutPack_76 : decode cX6_cutPack 76 = .ok (.aload_n 0, 1) := by decide +kernel
theorem dX6_cutPack_77 : decode cX6_cutPack 77 = .ok (.getfield 7, 3) := by decide +kernel
theorem dX6_cutPack_80 : decode cX6_cutPack 80 = .ok (.bipush 83, 2) := by decide +kernel
theorem dX6_cutPack_82 : decode cX6_cutPack 82 = .ok (.iaload, 1) := by decide +kernel
theorem dX6_cutPack_83 : decode cX6_cutPack 83 = .ok (.ireturn, 1) := by decide +kernel
theorem dX6_cameFrom_0 : decode cX6_cameFrom 0 = .ok (.iload_n 2, 1) := by decide +kernel
theorem dX6_cameFrom_1 : decode cX6_cameFrom 1 = .ok (.aload_n 0, 1) := by decide +kernel
theorem dX6_cameFrom_2 : decode cX6_cameFrom 2 = .ok (.getfield 7, 3) := by decide +kernel
theorem dX6_cameFrom_5 : decode cX6_cameFrom 5 = .ok (.bipush 7, 2) := by decide +kernel
theorem dX6_cameFrom_7 : decode cX6_cameFrom 7 = .ok (.iaload, 1) := by decide +kernel
theorem dX6_cameFrom_8 : decode cX6_cameFrom 8 = .ok (.iload_n 2, 1) := by decide +kernel
theorem dX6_cameFrom_9 : decode cX6_cameFrom 9 = .ok (.isub, 1) := by decide +kernel
theorem dX6_cameFrom_10 : decode cX6_cameFrom 10 = .ok (.if_icmp .ge 7, 3) := by decide +kernel
theorem dX6_cameFrom_13 : decode cX6_cameFrom 13 = .ok (.iload_n 2, 1) := by decide +kernel
theorem dX6_cameFrom_14 : decode cX6_cameFrom 14 = .ok (.goto 12, 3) := by decide +kernel
theorem dX6_cameFrom_17 : decode cX6_cameFrom 17 = .ok (.aload_n 0, 1) := by decide +kernel
theorem dX6_cameFrom_18 : decode cX6_cameFrom 18 = .ok (.getfield 7, 3) := by decide +kernel
theorem dX6_cameFrom_21 : decode cX6_cameFrom 21 = .ok (.bipush 7, 2) := by decide +kernel
theorem dX6_cameFrom_23 : decode cX6_cameFrom 23 = .ok (.iaload, 1) := by decide +kernel
theorem dX6_cameFrom_24 : decode cX6_cameFrom 24 = .ok (.iload_n 2, 1) := by decide +kernel
theorem dX6_cameFrom_25 : decode cX6_cameFrom 25 = .ok (.isub, 1) := by decide +kernel
theorem dX6_cameFrom_26 : decode cX6_cameFrom 26 = .ok (.istore_n 3, 1) := by decide +kernel
theorem dX6_cameFrom_27 : decode cX6_cameFrom 27 = .ok (.iload_n 1, 1) := by decide +kernel
theorem dX6_cameFrom_28 : decode cX6_cameFrom 28 = .ok (.iconst 2, 1) := by decide +kernel
theorem dX6_cameFrom_29 : decode cX6_cameFrom 29 = .ok (.iload_n 3, 1) := by decide +kernel
theorem dX6_cameFrom_30 : decode cX6_cameFrom 30 = .ok (.imul, 1) := by decide +kernel
theorem dX6_cameFrom_31 : decode cX6_cameFrom 31 = .ok (.if_icmp .ge 21, 3) := by decide +kernel
theorem dX6_cameFrom_34 : decode cX6_cameFrom 34 = .ok (.iload_n 1, 1) := by decide +kernel
theorem dX6_cameFrom_35 : decode cX6_cameFrom 35 = .ok (.iconst 2, 1) := by decide +kernel
theorem dX6_cameFrom_36 : decode cX6_cameFrom 36 = .ok (.irem, 1) := by decide +kernel
theorem dX6_cameFrom_37 : decode cX6_cameFrom 37 = .ok (.ifCond .ne 9, 3) := by decide +kernel
theorem dX6_cameFrom_40 : decode cX6_cameFrom 40 = .ok (.iload_n 1, 1) := by decide +kernel
theorem dX6_cameFrom_41 : decode cX6_cameFrom 41 = .ok (.iconst 2, 1) := by decide +kernel
theorem dX6_cameFrom_42 : decode cX6_cameFrom 42 = .ok (.idiv, 1) := by decide +kernel
theorem dX6_cameFrom_43 : decode cX6_cameFrom 43 = .ok (.goto 8, 3) := by decide +kernel
theorem dX6_cameFrom_46 : decode cX6_cameFrom 46 = .ok (.iload_n 2, 1) := by decide +kernel
theorem dX6_cameFrom_47 : decode cX6_cameFrom 47 = .ok (.iload_n 1, 1) := by decide +kernel
theorem dX6_cameFrom_48 : decode cX6_cameFrom 48 = .ok (.iconst 2, 1) := by decide +kernel
theorem dX6_cameFrom_49 : decode cX6_cameFrom 49 = .ok (.idiv, 1) := by decide +kernel
theorem dX6_cameFrom_50 : decode cX6_cameFrom 50 = .ok (.iadd, 1) := by decide +kernel
theorem dX6_cameFrom_51 : decode cX6_cameFrom 51 = .ok (.ireturn, 1) := by decide +kernel
theorem dX6_cameFrom_52 : decode cX6_cameFrom 52 = .ok (.iload_n 2, 1) := by decide +kernel
theorem dX6_cameFrom_53 : decode cX6_cameFrom 53 = .ok (.iload_n 3, 1) := by decide +kernel
theorem dX6_cameFrom_54 : decode cX6_cameFrom 54 = .ok (.if_icmp .le 9, 3) := by decide +kernel
theorem dX6_cameFrom_57 : decode cX6_cameFrom 57 = .ok (.iload_n 1, 1) := by decide +kernel
theorem dX6_cameFrom_58 : decode cX6_cameFrom 58 = .ok (.iload_n 3, 1) := by decide +kernel
theorem dX6_cameFrom_59 : decode cX6_cameFrom 59 = .ok (.isub, 1) := by decide +kernel
theorem dX6_cameFrom_60 : decode cX6_cameFrom 60 = .ok (.goto 4, 3) := by decide +kernel
theorem dX6_cameFrom_63 : decode cX6_cameFrom 63 = .ok (.iload_n 1, 1) := by decide +kernel
theorem dX6_cameFrom_64 : decode cX6_cameFrom 64 = .ok (.ireturn, 1) := by decide +kernel
theorem dX6_shuffle_0 : decode cX6_shuffle 0 = .ok (.aload_n 0, 1) := by decide +kernel
theorem dX6_shuffle_1 : decode cX6_shuffle 1 = .ok (.getfield 7, 3) := by decide +kernel
theorem dX6_shuffle_4 : decode cX6_shuffle 4 = .ok (.bipush 6, 2) := by decide +kernel
theorem dX6_shuffle_6 : decode cX6_shuffle 6 = .ok (.iaload, 1) := by decide +kernel
theorem dX6_shuffle_7 : decode cX6_shuffle 7 = .ok (.ifCond .ne 6, 3) := by decide +kernel
theorem dX6_shuffle_10 : decode cX6_shuffle 10 = .ok (.bipush (-4), 2) := by decide +kernel
theorem dX6_shuffle_12 : decode cX6_shuffle 12 = .ok (.ireturn, 1) := by decide +kernel
theorem dX6_shuffle_13 : decode cX6_shuffle 13 = .ok (.aload_n 0, 1) := by decide +kernel
theorem dX6_shuffle_14 : decode cX6_shuffle 14 = .ok (.iload_n 1, 1) := by decide +kernel
theorem dX6_shuffle_15 : decode cX6_shuffle 15 = .ok (.invokevirtual 92, 3) := by decide +kernel
theorem dX6_shuffle_18 : decode cX6_shuffle 18 = .ok (.ifCond .ne 6, 3) := by decide +kernel
theorem dX6_shuffle_21 : decode cX6_shuffle 21 = .ok (.bipush (-2), 2) := by decide +kernel
theorem dX6_shuffle_23 : decode cX6_shuffle 23 = .ok (.ireturn, 1) := by decide +kernel
theorem dX6_shuffle_24 : decode cX6_shuffle 24 = .ok (.aload_n 0, 1) := by decide +kernel
theorem dX6_shuffle_25 : decode cX6_shuffle 25 = .ok (.invokevirtual 49, 3) := by decide +kernel
theorem dX6_shuffle_28 : decode cX6_shuffle 28 = .ok (.aload_n 0, 1) := by decide +kernel
theorem dX6_shuffle_29 : decode cX6_shuffle 29 = .ok (.invokevirtual 95, 3) := by decide +kernel
theorem dX6_shuffle_32 : decode cX6_shuffle 32 = .ok (.iconst 0, 1) := by decide +kernel
theorem dX6_shuffle_33 : decode cX6_shuffle 33 = .ok (.istore_n 2, 1) := by decide +kernel
theorem dX6_shuffle_34 : decode cX6_shuffle 34 = .ok (.iconst 0, 1) := by decide +kernel
theorem dX6_shuffle_35 : decode cX6_shuffle 35 = .ok (.istore_n 3, 1) := by decide +kernel
theorem dX6_shuffle_36 : decode cX6_shuffle 36 = .ok (.iload_n 3, 1) := by decide +kernel
theorem dX6_shuffle_37 : decode cX6_shuffle 37 = .ok (.aload_n 0, 1) := by decide +kernel
theorem dX6_shuffle_38 : decode cX6_shuffle 38 = .ok (.getfield 7, 3) := by decide +kernel
theorem dX6_shuffle_41 : decode cX6_shuffle 41 = .ok (.bipush 7, 2) := by decide +kernel
theorem dX6_shuffle_43 : decode cX6_shuffle 43 = .ok (.iaload, 1) := by decide +kernel
theorem dX6_shuffle_44 : decode cX6_shuffle 44 = .ok (.if_icmp .ge 47, 3) := by decide +kernel
theorem dX6_shuffle_47 : decode cX6_shuffle 47 = .ok (.aload_n 0, 1) := by decide +kernel
theorem dX6_shuffle_48 : decode cX6_shuffle 48 = .ok (.iload_n 3, 1) := by decide +kernel
theorem dX6_shuffle_49 : decode cX6_shuffle 49 = .ok (.iload_n 1, 1) := by decide +kernel
theorem dX6_shuffle_50 : decode cX6_shuffle 50 = .ok (.invokevirtual 98, 3) := by decide +kernel
theorem dX6_shuffle_53 : decode cX6_shuffle 53 = .ok (.istore 4, 2) := by decide +kernel
theorem dX6_shuffle_55 : decode cX6_shuffle 55 = .ok (.aload_n 0, 1) := by decide +kernel
theorem dX6_shuffle_56 : decode cX6_shuffle 56 = .ok (.getfield 7, 3) := by decide +kernel
theorem dX6_shuffle_59 : decode cX6_shuffle 59 = .ok (.bipush 83, 2) := by decide +kernel
theorem dX6_shuffle_61 : decode cX6_shuffle 61 = .ok (.iload_n 3, 1) := by decide +kernel
theorem dX6_shuffle_62 : decode cX6_shuffle 62 = .ok (.iadd, 1) := by decide +kernel
theorem dX6_shuffle_63 : decode cX6_shuffle 63 = .ok (.aload_n 0, 1) := by decide +kernel
theorem dX6_shuffle_64 : decode cX6_shuffle 64 = .ok (.getfield 25, 3) := by decide +kernel
theorem dX6_shuffle_67 : decode cX6_shuffle 67 = .ok (.iload 4, 2) := by decide +kernel
theorem dX6_shuffle_69 : decode cX6_shuffle 69 = .ok (.iaload, 1) := by decide +kernel
theorem dX6_shuffle_70 : decode cX6_shuffle 70 = .ok (.iastore, 1) := by decide +kernel
theorem dX6_shuffle_71 : decode cX6_shuffle 71 = .ok (.iload_n 2, 1) := by decide +kernel
theorem dX6_shuffle_72 : decode cX6_shuffle 72 = .ok (.iload 4, 2) := by decide +kernel
theorem dX6_shuffle_74 : decode cX6_shuffle 74 = .ok (.iload_n 3, 1) := by decide +kernel
theorem dX6_shuffle_75 : decode cX6_shuffle 75 = .ok (.if_icmp .ne 7, 3) := by decide +kernel
theorem dX6_shuffle_78 : decode cX6_shuffle 78 = .ok (.iconst 0, 1) := by decide +kernel
theorem dX6_shuffle_79 : decode cX6_shuffle 79 = .ok (.goto 4, 3) := by decide +kernel
theorem dX6_shuffle_82 : decode cX6_shuffle 82 = .ok (.iconst 1, 1) := by decide +kernel
theorem dX6_shuffle_83 : decode cX6_shuffle 83 = .ok (.iadd, 1) := by decide +kernel
theorem dX6_shuffle_84 : decode cX6_shuffle 84 = .ok (.istore_n 2, 1) := by decide +kernel
theorem dX6_shuffle_85 : decode cX6_shuffle 85 = .ok (.iinc 3 1, 3) := by decide +kernel
theorem dX6_shuffle_88 : decode cX6_shuffle 88 = .ok (.goto (-52), 3) := by decide +kernel
theorem dX6_shuffle_91 : decode cX6_shuffle 91 = .ok (.iload_n 2, 1) := by decide +kernel
theorem dX6_shuffle_92 : decode cX6_shuffle 92 = .ok (.ireturn, 1) := by decide +kernel
theorem dX6_deal_0 : decode cX6_deal 0 = .ok (.aload_n 0, 1) := by decide +kernel
theorem dX6_deal_1 : decode cX6_deal 1 = .ok (.getfield 7, 3) := by decide +kernel
theorem dX6_deal_4 : decode cX6_deal 4 = .ok (.bipush 6, 2) := by decide +kernel
theorem dX6_deal_6 : decode cX6_deal 6 = .ok (.iaload, 1) := by decide +kernel
theorem dX6_deal_7 : decode cX6_deal 7 = .ok (.ifCond .ne 6, 3) := by decide +kernel
theorem dX6_deal_10 : decode cX6_deal 10 = .ok (.bipush (-4), 2) := by decide +kernel
theorem dX6_deal_12 : decode cX6_deal 12 = .ok (.ireturn, 1) := by decide +kernel
theorem dX6_deal_13 : decode cX6_deal 13 = .ok (.iload_n 1, 1) := by decide +kernel
theorem dX6_deal_14 : decode cX6_deal 14 = .ok (.iconst 1, 1) := by decide +kernel
theorem dX6_deal_15 : decode cX6_deal 15 = .ok (.aload_n 0, 1) := by decide +kernel
theorem dX6_deal_16 : decode cX6_deal 16 = .ok (.getfield 7, 3) := by decide +kernel
theorem dX6_deal_19 : decode cX6_deal 19 = .ok (.bipush 7, 2) := by decide +kernel
theorem dX6_deal_21 : decode cX6_deal 21 = .ok (.iaload, 1) := by decide +kernel
theorem dX6_deal_22 : decode cX6_deal 22 = .ok (.invokestatic 31, 3) := by decide +kernel
theorem dX6_deal_25 : decode cX6_deal 25 = .ok (.ifCond .ne 6, 3) := by decide +kernel
theorem dX6_deal_28 : decode cX6_deal 28 = .ok (.bipush (-2), 2) := by decide +kernel
theorem dX6_deal_30 : decode cX6_deal 30 = .ok (.ireturn, 1) := by decide +kernel
theorem dX6_deal_31 : decode cX6_deal 31 = .ok (.aload_n 0, 1) := by decide +kernel
theorem dX6_deal_32 : decode cX6_deal 32 = .ok (.invokevirtual 49, 3) := by decide +kernel
theorem dX6_deal_35 : decode cX6_deal 35 = .ok (.iconst 0, 1) := by decide +kernel
theorem dX6_deal_36 : decode cX6_deal 36 = .ok (.istore_n 2, 1) := by decide +kernel
theorem dX6_deal_37 : decode cX6_deal 37 = .ok (.iload_n 2, 1) := by decide +kernel
theorem dX6_deal_38 : decode cX6_deal 38 = .ok (.iload_n 1, 1) := by decide +kernel
theorem dX6_deal_39 : decode cX6_deal 39 = .ok (.if_icmp .ge 28, 3) := by decide +kernel
theorem dX6_deal_42 : decode cX6_deal 42 = .ok (.aload_n 0, 1) := by decide +kernel
theorem dX6_deal_43 : decode cX6_deal 43 = .ok (.getfield 7, 3) := by decide +kernel
theorem dX6_deal_46 : decode cX6_deal 46 = .ok (.sipush 155, 3) := by decide +kernel
theorem dX6_deal_49 : decode cX6_deal 49 = .ok (.aload_n 0, 1) := by decide +kernel
theorem dX6_deal_50 : decode cX6_deal 50 = .ok (.getfield 7, 3) := by decide +kernel
theorem dX6_deal_53 : decode cX6_deal 53 = .ok (.bipush 83, 2) := by decide +kernel
theorem dX6_deal_55 : decode cX6_deal 55 = .ok (.iload_n 2, 1) := by decide +kernel
theorem dX6_deal_56 : decode cX6_deal 56 = .ok (.iadd, 1) := by decide +kernel
theorem dX6_deal_57 : decode cX6_deal 57 = .ok (.iaload, 1) := by decide +kernel
theorem dX6_deal_58 : decode cX6_deal 58 = .ok (.iadd, 1) := by decide +kernel
theorem dX6_deal_59 : decode cX6_deal 59 = .ok (.iconst 1, 1) := by decide +kernel
theorem dX6_deal_60 : decode cX6_deal 60 = .ok (.iastore, 1) := by decide +kernel
theorem dX6_deal_61 : decode cX6_deal 61 = .ok (.iinc 2 1, 3) := by decide +kernel
theorem dX6_deal_64 : decode cX6_deal 64 = .ok (.goto (-27), 3) := by decide +kernel
theorem dX6_deal_67 : decode cX6_deal 67 = .ok (.aload_n 0, 1) := by decide +kernel
theorem dX6_deal_68 : decode cX6_deal 68 = .ok (.getfield 7, 3) := by decide +kernel
theorem dX6_deal_71 : decode cX6_deal 71 = .ok (.bipush 7, 2) := by decide +kernel
theorem dX6_deal_73 : decode cX6_deal 73 = .ok (.dup2, 1) := by decide +kernel
theorem dX6_deal_74 : decode cX6_deal 74 = .ok (.iaload, 1) := by decide +kernel
theorem dX6_deal_75 : decode cX6_deal 75 = .ok (.iload_n 1, 1) := by decide +kernel
theorem dX6_deal_76 : decode cX6_deal 76 = .ok (.isub, 1) := by decide +kernel
theorem dX6_deal_77 : decode cX6_deal 77 = .ok (.iastore, 1) := by decide +kernel
theorem dX6_deal_78 : decode cX6_deal 78 = .ok (.iconst 0, 1) := by decide +kernel
theorem dX6_deal_79 : decode cX6_deal 79 = .ok (.istore_n 2, 1) := by decide +kernel
theorem dX6_deal_80 : decode cX6_deal 80 = .ok (.iload_n 2, 1) := by decide +kernel
theorem dX6_deal_81 : decode cX6_deal 81 = .ok (.aload_n 0, 1) := by decide +kernel
theorem dX6_deal_82 : decode cX6_deal 82 = .ok (.getfield 7, 3) := by decide +kernel
theorem dX6_deal_85 : decode cX6_deal 85 = .ok (.bipush 7, 2) := by decide +kernel
theorem dX6_deal_87 : decode cX6_deal 87 = .ok (.iaload, 1) := by decide +kernel
theorem dX6_deal_88 : decode cX6_deal 88 = .ok (.if_icmp .ge 29, 3) := by decide +kernel
theorem dX6_deal_91 : decode cX6_deal 91 = .ok (.aload_n 0, 1) := by decide +kernel
theorem dX6_deal_92 : decode cX6_deal 92 = .ok (.getfield 7, 3) := by decide +kernel
theorem dX6_deal_95 : decode cX6_deal 95 = .ok (.bipush 83, 2) := by decide +kernel
theorem dX6_deal_97 : decode cX6_deal 97 = .ok (.iload_n 2, 1) := by decide +kernel
theorem dX6_deal_98 : decode cX6_deal 98 = .ok (.iadd, 1) := by decide +kernel
theorem dX6_deal_99 : decode cX6_deal 99 = .ok (.aload_n 0, 1) := by decide +kernel
theorem dX6_deal_100 : decode cX6_deal 100 = .ok (.getfield 7, 3) := by decide +kernel
theorem dX6_deal_103 : decode cX6_deal 103 = .ok (.bipush 83, 2) := by decide +kernel
theorem dX6_deal_105 : decode cX6_deal 105 = .ok (.iload_n 2, 1) := by decide +kernel
theorem dX6_deal_106 : decode cX6_deal 106 = .ok (.iadd, 1) := by decide +kernel
theorem dX6_deal_107 : decode cX6_deal 107 = .ok (.iload_n 1, 1) := by decide +kernel
theorem dX6_deal_108 : decode cX6_deal 108 = .ok (.iadd, 1) := by decide +kernel
theorem dX6_deal_109 : decode cX6_deal 109 = .ok (.iaload, 1) := by decide +kernel
theorem dX6_deal_110 : decode cX6_deal 110 = .ok (.iastore, 1) := by decide +kernel
theorem dX6_deal_111 : decode cX6_deal 111 = .ok (.iinc 2 1, 3) := by decide +kernel
theorem dX6_deal_114 : decode cX6_deal 114 = .ok (.goto (-34), 3) := by decide +kernel
theorem dX6_deal_117 : decode cX6_deal 117 = .ok (.aload_n 0, 1) := by decide +kernel
theorem dX6_deal_118 : decode cX6_deal 118 = .ok (.getfield 7, 3) := by decide +kernel
theorem dX6_deal_121 : decode cX6_deal 121 = .ok (.bipush 7, 2) := by decide +kernel
theorem dX6_deal_123 : decode cX6_deal 123 = .ok (.iaload, 1) := by decide +kernel
theorem dX6_deal_124 : decode cX6_deal 124 = .ok (.ireturn, 1) := by decide +kernel
theorem dX6_alike_0 : decode cX6_alike 0 = .ok (.iconst 0, 1) := by decide +kernel
theorem dX6_alike_1 : decode cX6_alike 1 = .ok (.istore_n 2, 1) := by decide +kernel
theorem dX6_alike_2 : decode cX6_alike 2 = .ok (.iconst 0, 1) := by decide +kernel
theorem dX6_alike_3 : decode cX6_alike 3 = .ok (.istore_n 3, 1) := by decide +kernel
theorem dX6_alike_4 : decode cX6_alike 4 = .ok (.iload_n 3, 1) := by decide +kernel
theorem dX6_alike_5 : decode cX6_alike 5 = .ok (.bipush 24, 2) := by decide +kernel
theorem dX6_alike_7 : decode cX6_alike 7 = .ok (.if_icmp .ge 44, 3) := by decide +kernel
theorem dX6_alike_10 : decode cX6_alike 10 = .ok (.iload_n 2, 1) := by decide +kernel
theorem dX6_alike_11 : decode cX6_alike 11 = .ok (.aload_n 0, 1) := by decide +kernel
theorem dX6_alike_12 : decode cX6_alike 12 = .ok (.getfield 7, 3) := by decide +kernel
theorem dX6_alike_15 : decode cX6_alike 15 = .ok (.sipush 155, 3) := by decide +kernel
theorem dX6_alike_18 : decode cX6_alike 18 = .ok (.iload_n 3, 1) := by decide +kernel
theorem dX6_alike_19 : decode cX6_alike 19 = .ok (.iadd, 1) := by decide +kernel
theorem dX6_alike_20 : decode cX6_alike 20 = .ok (.iaload, 1) := by decide +kernel
theorem dX6_alike_21 : decode cX6_alike 21 = .ok (.ifCond .ne 21, 3) := by decide +kernel
theorem dX6_alike_24 : decode cX6_alike 24 = .ok (.aload_n 0, 1) := by decide +kernel
theorem dX6_alike_25 : decode cX6_alike 25 = .ok (.getfield 7, 3) := by decide +kernel
theorem dX6_alike_28 : decode cX6_alike 28 = .ok (.sipush 131, 3) := by decide +kernel
theorem dX6_alike_31 : decode cX6_alike 31 = .ok (.iload_n 3, 1) := by decide +kernel
theorem dX6_alike_32 : decode cX6_alike 32 = .ok (.iadd, 1) := by decide +kernel
theorem dX6_alike_33 : decode cX6_alike 33 = .ok (.iaload, 1) := by decide +kernel
theorem dX6_alike_34 : decode cX6_alike 34 = .ok (.iload_n 1, 1) := by decide +kernel
theorem dX6_alike_35 : decode cX6_alike 35 = .ok (.if_icmp .ne 7, 3) := by decide +kernel
theorem dX6_alike_38 : decode cX6_alike 38 = .ok (.iconst 1, 1) := by decide +kernel
theorem dX6_alike_39 : decode cX6_alike 39 = .ok (.goto 4, 3) := by decide +kernel
theorem dX6_alike_42 : decode cX6_alike 42 = .ok (.iconst 0, 1) := by decide +kernel
theorem dX6_alike_43 : decode cX6_alike 43 = .ok (.iadd, 1) := by decide +kernel
theorem dX6_alike_44 : decode cX6_alike 44 = .ok (.istore_n 2, 1) := by decide +kernel
theorem dX6_alike_45 : decode cX6_alike 45 = .ok (.iinc 3 1, 3) := by decide +kernel
theorem dX6_alike_48 : decode cX6_alike 48 = .ok (.goto (-44), 3) := by decide +kernel
theorem dX6_alike_51 : decode cX6_alike 51 = .ok (.iload_n 2, 1) := by decide +kernel
theorem dX6_alike_52 : decode cX6_alike 52 = .ok (.ireturn, 1) := by decide +kernel
theorem dX6_marksAt_0 : decode cX6_marksAt 0 = .ok (.aload_n 0, 1) := by decide +kernel
theorem dX6_marksAt_1 : decode cX6_marksAt 1 = .ok (.getfield 7, 3) := by decide +kernel
theorem dX6_marksAt_4 : decode cX6_marksAt 4 = .ok (.sipush 131, 3) := by decide +kernel
theorem dX6_marksAt_7 : decode cX6_marksAt 7 = .ok (.aload_n 0, 1) := by decide +kernel
theorem dX6_marksAt_8 : decode cX6_marksAt 8 = .ok (.getfield 7, 3) := by decide +kernel
theorem dX6_marksAt_11 : decode cX6_marksAt 11 = .ok (.bipush 83, 2) := by decide +kernel
theorem dX6_marksAt_13 : decode cX6_marksAt 13 = .ok (.iload_n 1, 1) := by decide +kernel
theorem dX6_marksAt_14 : decode cX6_marksAt 14 = .ok (.iadd, 1) := by decide +kernel
theorem dX6_marksAt_15 : decode cX6_marksAt 15 = .ok (.iaload, 1) := by decide +kernel
theorem dX6_marksAt_16 : decode cX6_marksAt 16 = .ok (.iadd, 1) := by decide +kernel
theorem dX6_marksAt_17 : decode cX6_marksAt 17 = .ok (.iaload, 1) := by decide +kernel
theorem dX6_marksAt_18 : decode cX6_marksAt 18 = .ok (.ireturn, 1) := by decide +kernel
theorem dX6_guess_0 : decode cX6_guess 0 = .ok (.iconst 0, 1) := by decide +kernel
theorem dX6_guess_1 : decode cX6_guess 1 = .ok (.istore_n 2, 1) := by decide +kernel
theorem dX6_guess_2 : decode cX6_guess 2 = .ok (.aload_n 0, 1) := by decide +kernel
theorem dX6_guess_3 : decode cX6_guess 3 = .ok (.getfield 7, 3) := by decide +kernel
theorem dX6_guess_6 : decode cX6_guess 6 = .ok (.sipush 155, 3) := by decide +kernel
theorem dX6_guess_9 : decode cX6_guess 9 = .ok (.iload_n 2, 1) := by decide +kernel
theorem dX6_guess_10 : decode cX6_guess 10 = .ok (.iadd, 1) := by decide +kernel
theorem dX6_guess_11 : decode cX6_guess 11 = .ok (.iaload, 1) := by decide +kernel
theorem dX6_guess_12 : decode cX6_guess 12 = .ok (.iconst 1, 1) := by decide +kernel
theorem dX6_guess_13 : decode cX6_guess 13 = .ok (.if_icmp .eq 21, 3) := by decide +kernel
theorem dX6_guess_16 : decode cX6_guess 16 = .ok (.aload_n 0, 1) := by decide +kernel
theorem dX6_guess_17 : decode cX6_guess 17 = .ok (.getfield 7, 3) := by decide +kernel
theorem dX6_guess_20 : decode cX6_guess 20 = .ok (.sipush 131, 3) := by decide +kernel
theorem dX6_guess_23 : decode cX6_guess 23 = .ok (.iload_n 2, 1) := by decide +kernel
theorem dX6_guess_24 : decode cX6_guess 24 = .ok (.iadd, 1) := by decide +kernel
theorem dX6_guess_25 : decode cX6_guess 25 = .ok (.iaload, 1) := by decide +kernel
theorem dX6_guess_26 : decode cX6_guess 26 = .ok (.aload_n 0, 1) := by decide +kernel
theorem dX6_guess_27 : decode cX6_guess 27 = .ok (.iload_n 1, 1) := by decide +kernel
theorem dX6_guess_28 : decode cX6_guess 28 = .ok (.invokevirtual 101, 3) := by decide +kernel
theorem dX6_guess_31 : decode cX6_guess 31 = .ok (.if_icmp .eq 9, 3) := by decide +kernel
theorem dX6_guess_34 : decode cX6_guess 34 = .ok (.iinc 2 1, 3) := by decide +kernel
theorem dX6_guess_37 : decode cX6_guess 37 = .ok (.goto (-35), 3) := by decide +kernel
theorem dX6_guess_40 : decode cX6_guess 40 = .ok (.iload_n 2, 1) := by decide +kernel
theorem dX6_guess_41 : decode cX6_guess 41 = .ok (.ireturn, 1) := by decide +kernel
theorem dX6_known_0 : decode cX6_known 0 = .ok (.iconst 0, 1) := by decide +kernel
theorem dX6_known_1 : decode cX6_known 1 = .ok (.istore_n 1, 1) := by decide +kernel
theorem dX6_known_2 : decode cX6_known 2 = .ok (.iconst 0, 1) := by decide +kernel
theorem dX6_known_3 : decode cX6_known 3 = .ok (.istore_n 2, 1) := by decide +kernel
theorem dX6_known_4 : decode cX6_known 4 = .ok (.iload_n 2, 1) := by decide +kernel
theorem dX6_known_5 : decode cX6_known 5 = .ok (.aload_n 0, 1) := by decide +kernel
theorem dX6_known_6 : decode cX6_known 6 = .ok (.getfield 7, 3) := by decide +kernel
theorem dX6_known_9 : decode cX6_known 9 = .ok (.bipush 7, 2) := by decide +kernel
theorem dX6_known_11 : decode cX6_known 11 = .ok (.iaload, 1) := by decide +kernel
theorem dX6_known_12 : decode cX6_known 12 = .ok (.if_icmp .ge 30, 3) := by decide +kernel
theorem dX6_known_15 : decode cX6_known 15 = .ok (.iload_n 1, 1) := by decide +kernel
theorem dX6_known_16 : decode cX6_known 16 = .ok (.aload_n 0, 1) := by decide +kernel
theorem dX6_known_17 : decode cX6_known 17 = .ok (.aload_n 0, 1) := by decide +kernel
theorem dX6_known_18 : decode cX6_known 18 = .ok (.iload_n 2, 1) := by decide +kernel
theorem dX6_known_19 : decode cX6_known 19 = .ok (.invokevirtual 101, 3) := by decide +kernel
theorem dX6_known_22 : decode cX6_known 22 = .ok (.invokevirtual 104, 3) := by decide +kernel
theorem dX6_known_25 : decode cX6_known 25 = .ok (.iconst 1, 1) := by decide +kernel
theorem dX6_known_26 : decode cX6_known 26 = .ok (.if_icmp .ne 7, 3) := by decide +kernel
theorem dX6_known_29 : decode cX6_known 29 = .ok (.iconst 1, 1) := by decide +kernel
theorem dX6_known_30 : decode cX6_known 30 = .ok (.goto 4, 3) := by decide +kernel
theorem dX6_known_33 : decode cX6_known 33 = .ok (.iconst 0, 1) := by decide +kernel
theorem dX6_known_34 : decode cX6_known 34 = .ok (.iadd, 1) := by decide +kernel
theorem dX6_known_35 : decode cX6_known 35 = .ok (.istore_n 1, 1) := by decide +kernel
theorem dX6_known_36 : decode cX6_known 36 = .ok (.iinc 2 1, 3) := by decide +kernel
theorem dX6_known_39 : decode cX6_known 39 = .ok (.goto (-35), 3) := by decide +kernel
theorem dX6_known_42 : decode cX6_known 42 = .ok (.iload_n 1, 1) := by decide +kernel
theorem dX6_known_43 : decode cX6_known 43 = .ok (.ireturn, 1) := by decide +kernel
theorem dX6_rightOnes_0 : decode cX6_rightOnes 0 = .ok (.iconst 0, 1) := by decide +kernel
theorem dX6_rightOnes_1 : decode cX6_rightOnes 1 = .ok (.istore_n 1, 1) := by decide +kernel
theorem dX6_rightOnes_2 : decode cX6_rightOnes 2 = .ok (.iconst 0, 1) := by decide +kernel
theorem dX6_rightOnes_3 : decode cX6_rightOnes 3 = .ok (.istore_n 2, 1) := by decide +kernel
theorem dX6_rightOnes_4 : decode cX6_rightOnes 4 = .ok (.iload_n 2, 1) := by decide +kernel
theorem dX6_rightOnes_5 : decode cX6_rightOnes 5 = .ok (.aload_n 0, 1) := by decide +kernel
theorem dX6_rightOnes_6 : decode cX6_rightOnes 6 = .ok (.getfield 7, 3) := by decide +kernel
theorem dX6_rightOnes_9 : decode cX6_rightOnes 9 = .ok (.bipush 7, 2) := by decide +kernel
theorem dX6_rightOnes_11 : decode cX6_rightOnes 11 = .ok (.iaload, 1) := by decide +kernel
theorem dX6_rightOnes_12 : decode cX6_rightOnes 12 = .ok (.if_icmp .ge 34, 3) := by decide +kernel
theorem dX6_rightOnes_15 : decode cX6_rightOnes 15 = .ok (.iload_n 1, 1) := by decide +kernel
theorem dX6_rightOnes_16 : decode cX6_rightOnes 16 = .ok (.aload_n 0, 1) := by decide +kernel
theorem dX6_rightOnes_17 : decode cX6_rightOnes 17 = .ok (.iload_n 2, 1) := by decide +kernel
theorem dX6_rightOnes_18 : decode cX6_rightOnes 18 = .ok (.invokevirtual 107, 3) := by decide +kernel
theorem dX6_rightOnes_21 : decode cX6_rightOnes 21 = .ok (.aload_n 0, 1) := by decide +kernel
theorem dX6_rightOnes_22 : decode cX6_rightOnes 22 = .ok (.getfield 7, 3) := by decide +kernel
theorem dX6_rightOnes_25 : decode cX6_rightOnes 25 = .ok (.bipush 83, 2) := by decide +kernel
theorem dX6_rightOnes_27 : decode cX6_rightOnes 27 = .ok (.iload_n 2, 1) := by decide +kernel
theorem dX6_rightOnes_28 : decode cX6_rightOnes 28 = .ok (.iadd, 1) := by decide +kernel
theorem dX6_rightOnes_29 : decode cX6_rightOnes 29 = .ok (.iaload, 1) := by decide +kernel
theorem dX6_rightOnes_30 : decode cX6_rightOnes 30 = .ok (.if_icmp .ne 7, 3) := by decide +kernel
theorem dX6_rightOnes_33 : decode cX6_rightOnes 33 = .ok (.iconst 1, 1) := by decide +kernel
theorem dX6_rightOnes_34 : decode cX6_rightOnes 34 = .ok (.goto 4, 3) := by decide +kernel
theorem dX6_rightOnes_37 : decode cX6_rightOnes 37 = .ok (.iconst 0, 1) := by decide +kernel
theorem dX6_rightOnes_38 : decode cX6_rightOnes 38 = .ok (.iadd, 1) := by decide +kernel
theorem dX6_rightOnes_39 : decode cX6_rightOnes 39 = .ok (.istore_n 1, 1) := by decide +kernel
theorem dX6_rightOnes_40 : decode cX6_rightOnes 40 = .ok (.iinc 2 1, 3) := by decide +kernel
theorem dX6_rightOnes_43 : decode cX6_rightOnes 43 = .ok (.goto (-39), 3) := by decide +kernel
theorem dX6_rightOnes_46 : decode cX6_rightOnes 46 = .ok (.iload_n 1, 1) := by decide +kernel
theorem dX6_rightOnes_47 : decode cX6_rightOnes 47 = .ok (.ireturn, 1) := by decide +kernel
theorem dX6_great_0 : decode cX6_great 0 = .ok (.iload_n 0, 1) := by decide +kernel
theorem dX6_great_1 : decode cX6_great 1 = .ok (.ifCond .ge 8, 3) := by decide +kernel
theorem dX6_great_4 : decode cX6_great 4 = .ok (.iload_n 0, 1) := by decide +kernel
theorem dX6_great_5 : decode cX6_great 5 = .ok (.ineg, 1) := by decide +kernel
theorem dX6_great_6 : decode cX6_great 6 = .ok (.goto 4, 3) := by decide +kernel
theorem dX6_great_9 : decode cX6_great 9 = .ok (.iload_n 0, 1) := by decide +kernel
theorem dX6_great_10 : decode cX6_great 10 = .ok (.ireturn, 1) := by decide +kernel
theorem dX6_leaning_0 : decode cX6_leaning 0 = .ok (.iconst 0, 1) := by decide +kernel
theorem dX6_leaning_1 : decode cX6_leaning 1 = .ok (.istore_n 2, 1) := by decide +kernel
theorem dX6_leaning_2 : decode cX6_leaning 2 = .ok (.iconst 0, 1) := by decide +kernel
theorem dX6_leaning_3 : decode cX6_leaning 3 = .ok (.istore_n 3, 1) := by decide +kernel
theorem dX6_leaning_4 : decode cX6_leaning 4 = .ok (.iload_n 3, 1) := by decide +kernel
theorem dX6_leaning_5 : decode cX6_leaning 5 = .ok (.bipush 24, 2) := by decide +kernel
theorem dX6_leaning_7 : decode cX6_leaning 7 = .ok (.if_icmp .ge 37, 3) := by decide +kernel
theorem dX6_leaning_10 : decode cX6_leaning 10 = .ok (.iload_n 2, 1) := by decide +kernel
theorem dX6_leaning_11 : decode cX6_leaning 11 = .ok (.aload_n 0, 1) := by decide +kernel
theorem dX6_leaning_12 : decode cX6_leaning 12 = .ok (.getfield 7, 3) := by decide +kernel
theorem dX6_leaning_15 : decode cX6_leaning 15 = .ok (.iload_n 1, 1) := by decide +kernel
theorem dX6_leaning_16 : decode cX6_leaning 16 = .ok (.iload_n 3, 1) := by decide +kernel
theorem dX6_leaning_17 : decode cX6_leaning 17 = .ok (.iadd, 1) := by decide +kernel
theorem dX6_leaning_18 : decode cX6_leaning 18 = .ok (.iaload, 1) := by decide +kernel
theorem dX6_leaning_19 : decode cX6_leaning 19 = .ok (.invokestatic 110, 3) := by decide +kernel
theorem dX6_leaning_22 : decode cX6_leaning 22 = .ok (.aload_n 0, 1) := by decide +kernel
theorem dX6_leaning_23 : decode cX6_leaning 23 = .ok (.getfield 7, 3) := by decide +kernel
theorem dX6_leaning_26 : decode cX6_leaning 26 = .ok (.iconst 1, 1) := by decide +kernel
theorem dX6_leaning_27 : decode cX6_leaning 27 = .ok (.iaload, 1) := by decide +kernel
theorem dX6_leaning_28 : decode cX6_leaning 28 = .ok (.if_icmp .le 7, 3) := by decide +kernel
theorem dX6_leaning_31 : decode cX6_leaning 31 = .ok (.iconst 1, 1) := by decide +kernel
theorem dX6_leaning_32 : decode cX6_leaning 32 = .ok (.goto 4, 3) := by decide +kernel
theorem dX6_leaning_35 : decode cX6_leaning 35 = .ok (.iconst 0, 1) := by decide +kernel
theorem dX6_leaning_36 : decode cX6_leaning 36 = .ok (.iadd, 1) := by decide +kernel
theorem dX6_leaning_37 : decode cX6_leaning 37 = .ok (.istore_n 2, 1) := by decide +kernel
theorem dX6_leaning_38 : decode cX6_leaning 38 = .ok (.iinc 3 1, 3) := by decide +kernel
theorem dX6_leaning_41 : decode cX6_leaning 41 = .ok (.goto (-37), 3) := by decide +kernel
theorem dX6_leaning_44 : decode cX6_leaning 44 = .ok (.iload_n 2, 1) := by decide +kernel
theorem dX6_leaning_45 : decode cX6_leaning 45 = .ok (.ireturn, 1) := by decide +kernel
theorem dX6_reason_0 : decode cX6_reason 0 = .ok (.aload_n 0, 1) := by decide +kernel
theorem dX6_reason_1 : decode cX6_reason 1 = .ok (.getfield 7, 3) := by decide +kernel
theorem dX6_reason_4 : decode cX6_reason 4 = .ok (.bipush 7, 2) := by decide +kernel
theorem dX6_reason_6 : decode cX6_reason 6 = .ok (.iaload, 1) := by decide +kernel
theorem dX6_reason_7 : decode cX6_reason 7 = .ok (.bipush 24, 2) := by decide +kernel
theorem dX6_reason_9 : decode cX6_reason 9 = .ok (.if_icmp .ge 5, 3) := by decide +kernel
theorem dX6_reason_12 : decode cX6_reason 12 = .ok (.iconst 1, 1) := by decide +kernel
theorem dX6_reason_13 : decode cX6_reason 13 = .ok (.ireturn, 1) := by decide +kernel
theorem dX6_reason_14 : decode cX6_reason 14 = .ok (.aload_n 0, 1) := by decide +kernel
theorem dX6_reason_15 : decode cX6_reason 15 = .ok (.bipush 107, 2) := by decide +kernel
theorem dX6_reason_17 : decode cX6_reason 17 = .ok (.invokevirtual 113, 3) := by decide +kernel
theorem dX6_reason_20 : decode cX6_reason 20 = .ok (.ifCond .le 7, 3) := by decide +kernel
theorem dX6_reason_23 : decode cX6_reason 23 = .ok (.iconst 2, 1) := by decide +kernel
theorem dX6_reason_24 : decode cX6_reason 24 = .ok (.goto 21, 3) := by decide +kernel
theorem dX6_reason_27 : decode cX6_reason 27 = .ok (.aload_n 0, 1) := by decide +kernel
theorem dX6_reason_28 : decode cX6_reason 28 = .ok (.invokevirtual 116, 3) := by decide +kernel
theorem dX6_reason_31 : decode cX6_reason 31 = .ok (.aload_n 0, 1) := by decide +kernel
theorem dX6_reason_32 : decode cX6_reason 32 = .ok (.getfield 7, 3) := by decide +kernel
theorem dX6_reason_35 : decode cX6_reason 35 = .ok (.iconst 2, 1) := by decide +kernel
theorem dX6_reason_36 : decode cX6_reason 36 = .ok (.iaload, 1) := by decide +kernel
theorem dX6_reason_37 : decode cX6_reason 37 = .ok (.if_icmp .le 7, 3) := by decide +kernel
theorem dX6_reason_40 : decode cX6_reason 40 = .ok (.iconst 3, 1) := by decide +kernel
theorem dX6_reason_41 : decode cX6_reason 41 = .ok (.goto 4, 3) := by decide +kernel
theorem dX6_reason_44 : decode cX6_reason 44 = .ok (.iconst 0, 1) := by decide +kernel
theorem dX6_reason_45 : decode cX6_reason 45 = .ok (.ireturn, 1) := by decide +kernel
theorem dX6_dropPack_0 : decode cX6_dropPack 0 = .ok (.aload_n 0, 1) := by decide +kernel
theorem dX6_dropPack_1 : decode cX6_dropPack 1 = .ok (.getfield 7, 3) := by decide +kernel
theorem dX6_dropPack_4 : decode cX6_dropPack 4 = .ok (.bipush 6, 2) := by decide +kernel
theorem dX6_dropPack_6 : decode cX6_dropPack 6 = .ok (.iconst 0, 1) := by decide +kernel
theorem dX6_dropPack_7 : decode cX6_dropPack 7 = .ok (.iastore, 1) := by decide +kernel
theorem dX6_dropPack_8 : decode cX6_dropPack 8 = .ok (.aload_n 0, 1) := by decide +kernel
theorem dX6_dropPack_9 : decode cX6_dropPack 9 = .ok (.getfield 7, 3) := by decide +kernel
theorem dX6_dropPack_12 : decode cX6_dropPack 12 = .ok (.bipush 7, 2) := by decide +kernel
theorem dX6_dropPack_14 : decode cX6_dropPack 14 = .ok (.iconst 0, 1) := by decide +kernel
theorem dX6_dropPack_15 : decode cX6_dropPack 15 = .ok (.iastore, 1) := by decide +kernel
theorem dX6_dropPack_16 : decode cX6_dropPack 16 = .ok (.iconst 0, 1) := by decide +kernel
theorem dX6_dropPack_17 : decode cX6_dropPack 17 = .ok (.istore_n 1, 1) := by decide +kernel
theorem dX6_dropPack_18 : decode cX6_dropPack 18 = .ok (.iload_n 1, 1) := by decide +kernel
theorem dX6_dropPack_19 : decode cX6_dropPack 19 = .ok (.bipush 24, 2) := by decide +kernel
theorem dX6_dropPack_21 : decode cX6_dropPack 21 = .ok (.if_icmp .ge 51, 3) := by decide +kernel
theorem dX6_dropPack_24 : decode cX6_dropPack 24 = .ok (.aload_n 0, 1) := by decide +kernel
theorem dX6_dropPack_25 : decode cX6_dropPack 25 = .ok (.getfield 7, 3) := by decide +kernel
theorem dX6_dropPack_28 : decode cX6_dropPack 28 = .ok (.bipush 83, 2) := by decide +kernel
theorem dX6_dropPack_30 : decode cX6_dropPack 30 = .ok (.iload_n 1, 1) := by decide +kernel
theorem dX6_dropPack_31 : decode cX6_dropPack 31 = .ok (.iadd, 1) := by decide +kernel
theorem dX6_dropPack_32 : decode cX6_dropPack 32 = .ok (.iconst 0, 1) := by decide +kernel
theorem dX6_dropPack_33 : decode cX6_dropPack 33 = .ok (.iastore, 1) := by decide +kernel
theorem dX6_dropPack_34 : decode cX6_dropPack 34 = .ok (.aload_n 0, 1) := by decide +kernel
theorem dX6_dropPack_35 : decode cX6_dropPack 35 = .ok (.getfield 7, 3) := by decide +kernel
theorem dX6_dropPack_38 : decode cX6_dropPack 38 = .ok (.bipush 107, 2) := by decide +kernel
theorem dX6_dropPack_40 : decode cX6_dropPack 40 = .ok (.iload_n 1, 1) := by decide +kernel
theorem dX6_dropPack_41 : decode cX6_dropPack 41 = .ok (.iadd, 1) := by decide +kernel
theorem dX6_dropPack_42 : decode cX6_dropPack 42 = .ok (.iconst 0, 1) := by decide +kernel
theorem dX6_dropPack_43 : decode cX6_dropPack 43 = .ok (.iastore, 1) := by decide +kernel
theorem dX6_dropPack_44 : decode cX6_dropPack 44 = .ok (.aload_n 0, 1) := by decide +kernel
theorem dX6_dropPack_45 : decode cX6_dropPack 45 = .ok (.getfield 7, 3) := by decide +kernel
theorem dX6_dropPack_48 : decode cX6_dropPack 48 = .ok (.sipush 131, 3) := by decide +kernel
theorem dX6_dropPack_51 : decode cX6_dropPack 51 = .ok (.iload_n 1, 1) := by decide +kernel
theorem dX6_dropPack_52 : decode cX6_dropPack 52 = .ok (.iadd, 1) := by decide +kernel
theorem dX6_dropPack_53 : decode cX6_dropPack 53 = .ok (.iconst 0, 1) := by decide +kernel
theorem dX6_dropPack_54 : decode cX6_dropPack 54 = .ok (.iastore, 1) := by decide +kernel
theorem dX6_dropPack_55 : decode cX6_dropPack 55 = .ok (.aload_n 0, 1) := by decide +kernel
theorem dX6_dropPack_56 : decode cX6_dropPack 56 = .ok (.getfield 7, 3) := by decide +kernel
theorem dX6_dropPack_59 : decode cX6_dropPack 59 = .ok (.sipush 155, 3) := by decide +kernel
theorem dX6_dropPack_62 : decode cX6_dropPack 62 = .ok (.iload_n 1, 1) := by decide +kernel
theorem dX6_dropPack_63 : decode cX6_dropPack 63 = .ok (.iadd, 1) := by decide +kernel
theorem dX6_dropPack_64 : decode cX6_dropPack 64 = .ok (.iconst 0, 1) := by decide +kernel
theorem dX6_dropPack_65 : decode cX6_dropPack 65 = .ok (.iastore, 1) := by decide +kernel
theorem dX6_dropPack_66 : decode cX6_dropPack 66 = .ok (.iinc 1 1, 3) := by decide +kernel
theorem dX6_dropPack_69 : decode cX6_dropPack 69 = .ok (.goto (-51), 3) := by decide +kernel
theorem dX6_dropPack_72 : decode cX6_dropPack 72 = .ok (.return_, 1) := by decide +kernel
theorem dX6_sell_0 : decode cX6_sell 0 = .ok (.aload_n 0, 1) := by decide +kernel
theorem dX6_sell_1 : decode cX6_sell 1 = .ok (.getfield 7, 3) := by decide +kernel
theorem dX6_sell_4 : decode cX6_sell 4 = .ok (.bipush 6, 2) := by decide +kernel
theorem dX6_sell_6 : decode cX6_sell 6 = .ok (.iaload, 1) := by decide +kernel
theorem dX6_sell_7 : decode cX6_sell 7 = .ok (.ifCond .ne 6, 3) := by decide +kernel
theorem dX6_sell_10 : decode cX6_sell 10 = .ok (.bipush (-4), 2) := by decide +kernel
theorem dX6_sell_12 : decode cX6_sell 12 = .ok (.ireturn, 1) := by decide +kernel
theorem dX6_sell_13 : decode cX6_sell 13 = .ok (.aload_n 0, 1) := by decide +kernel
theorem dX6_sell_14 : decode cX6_sell 14 = .ok (.invokevirtual 119, 3) := by decide +kernel
theorem dX6_sell_17 : decode cX6_sell 17 = .ok (.ifCond .eq 11, 3) := by decide +kernel
theorem dX6_sell_20 : decode cX6_sell 20 = .ok (.bipush (-10), 2) := by decide +kernel
theorem dX6_sell_22 : decode cX6_sell 22 = .ok (.aload_n 0, 1) := by decide +kernel
theorem dX6_sell_23 : decode cX6_sell 23 = .ok (.invokevirtual 119, 3) := by decide +kernel
theorem dX6_sell_26 : decode cX6_sell 26 = .ok (.isub, 1) := by decide +kernel
theorem dX6_sell_27 : decode cX6_sell 27 = .ok (.ireturn, 1) := by decide +kernel
theorem dX6_sell_28 : decode cX6_sell 28 = .ok (.aload_n 0, 1) := by decide +kernel
theorem dX6_sell_29 : decode cX6_sell 29 = .ok (.invokevirtual 49, 3) := by decide +kernel
theorem dX6_sell_32 : decode cX6_sell 32 = .ok (.aload_n 0, 1) := by decide +kernel
theorem dX6_sell_33 : decode cX6_sell 33 = .ok (.invokevirtual 122, 3) := by decide +kernel
theorem dX6_sell_36 : decode cX6_sell 36 = .ok (.aload_n 0, 1) := by decide +kernel
theorem dX6_sell_37 : decode cX6_sell 37 = .ok (.getfield 7, 3) := by decide +kernel
theorem dX6_sell_40 : decode cX6_sell 40 = .ok (.bipush 8, 2) := by decide +kernel
theorem dX6_sell_42 : decode cX6_sell 42 = .ok (.dup2, 1) := by decide +kernel
theorem dX6_sell_43 : decode cX6_sell 43 = .ok (.iaload, 1) := by decide +kernel
theorem dX6_sell_44 : decode cX6_sell 44 = .ok (.iconst 1, 1) := by decide +kernel
theorem dX6_sell_45 : decode cX6_sell 45 = .ok (.iadd, 1) := by decide +kernel
theorem dX6_sell_46 : decode cX6_sell 46 = .ok (.iastore, 1) := by decide +kernel
theorem dX6_sell_47 : decode cX6_sell 47 = .ok (.aload_n 0, 1) := by decide +kernel
theorem dX6_sell_48 : decode cX6_sell 48 = .ok (.getfield 7, 3) := by decide +kernel
theorem dX6_sell_51 : decode cX6_sell 51 = .ok (.bipush 10, 2) := by decide +kernel
theorem dX6_sell_53 : decode cX6_sell 53 = .ok (.dup2, 1) := by decide +kernel
theorem dX6_sell_54 : decode cX6_sell 54 = .ok (.iaload, 1) := by decide +kernel
theorem dX6_sell_55 : decode cX6_sell 55 = .ok (.aload_n 0, 1) := by decide +kernel
theorem dX6_sell_56 : decode cX6_sell 56 = .ok (.getfield 7, 3) := by decide +kernel
theorem dX6_sell_59 : decode cX6_sell 59 = .ok (.iconst 3, 1) := by decide +kernel
theorem dX6_sell_60 : decode cX6_sell 60 = .ok (.iaload, 1) := by decide +kernel
theorem dX6_sell_61 : decode cX6_sell 61 = .ok (.iadd, 1) := by decide +kernel
theorem dX6_sell_62 : decode cX6_sell 62 = .ok (.iastore, 1) := by decide +kernel
theorem dX6_sell_63 : decode cX6_sell 63 = .ok (.aload_n 0, 1) := by decide +kernel
theorem dX6_sell_64 : decode cX6_sell 64 = .ok (.getfield 7, 3) := by decide +kernel
theorem dX6_sell_67 : decode cX6_sell 67 = .ok (.iconst 3, 1) := by decide +kernel
theorem dX6_sell_68 : decode cX6_sell 68 = .ok (.iaload, 1) := by decide +kernel
theorem dX6_sell_69 : decode cX6_sell 69 = .ok (.ireturn, 1) := by decide +kernel
theorem dX6_pulp_0 : decode cX6_pulp 0 = .ok (.aload_n 0, 1) := by decide +kernel
theorem dX6_pulp_1 : decode cX6_pulp 1 = .ok (.getfield 7, 3) := by decide +kernel
theorem dX6_pulp_4 : decode cX6_pulp 4 = .ok (.bipush 6, 2) := by decide +kernel
theorem dX6_pulp_6 : decode cX6_pulp 6 = .ok (.iaload, 1) := by decide +kernel
theorem dX6_pulp_7 : decode cX6_pulp 7 = .ok (.ifCond .ne 6, 3) := by decide +kernel
theorem dX6_pulp_10 : decode cX6_pulp 10 = .ok (.bipush (-4), 2) := by decide +kernel
theorem dX6_pulp_12 : decode cX6_pulp 12 = .ok (.ireturn, 1) := by decide +kernel
theorem dX6_pulp_13 : decode cX6_pulp 13 = .ok (.aload_n 0, 1) := by decide +kernel
theorem dX6_pulp_14 : decode cX6_pulp 14 = .ok (.invokevirtual 49, 3) := by decide +kernel
theorem dX6_pulp_17 : decode cX6_pulp 17 = .ok (.aload_n 0, 1) := by decide +kernel
theorem dX6_pulp_18 : decode cX6_pulp 18 = .ok (.getfield 7, 3) := by decide +kernel
theorem dX6_pulp_21 : decode cX6_pulp 21 = .ok (.bipush 7, 2) := by decide +kernel
theorem dX6_pulp_23 : decode cX6_pulp 23 = .ok (.iaload, 1) := by decide +kernel
theorem dX6_pulp_24 : decode cX6_pulp 24 = .ok (.istore_n 1, 1) := by decide +kernel
theorem dX6_pulp_25 : decode cX6_pulp 25 = .ok (.aload_n 0, 1) := by decide +kernel
theorem dX6_pulp_26 : decode cX6_pulp 26 = .ok (.invokevirtual 122, 3) := by decide +kernel
theorem dX6_pulp_29 : decode cX6_pulp 29 = .ok (.aload_n 0, 1) := by decide +kernel
theorem dX6_pulp_30 : decode cX6_pulp 30 = .ok (.getfield 7, 3) := by decide +kernel
theorem dX6_pulp_33 : decode cX6_pulp 33 = .ok (.bipush 9, 2) := by decide +kernel
theorem dX6_pulp_35 : decode cX6_pulp 35 = .ok (.dup2, 1) := by decide +kernel
theorem dX6_pulp_36 : decode cX6_pulp 36 = .ok (.iaload, 1) := by decide +kernel
theorem dX6_pulp_37 : decode cX6_pulp 37 = .ok (.iconst 1, 1) := by decide +kernel
theorem dX6_pulp_38 : decode cX6_pulp 38 = .ok (.iadd, 1) := by decide +kernel
theorem dX6_pulp_39 : decode cX6_pulp 39 = .ok (.iastore, 1) := by decide +kernel
theorem dX6_pulp_40 : decode cX6_pulp 40 = .ok (.iload_n 1, 1) := by decide +kernel
theorem dX6_pulp_41 : decode cX6_pulp 41 = .ok (.ireturn, 1) := by decide +kernel
theorem dX6_type_0 : decode cX6_type 0 = .ok (.aload_n 0, 1) := by decide +kernel
theorem dX6_type_1 : decode cX6_type 1 = .ok (.getfield 125, 3) := by decide +kernel
theorem dX6_type_4 : decode cX6_type 4 = .ok (.bipush 60, 2) := by decide +kernel
theorem dX6_type_6 : decode cX6_type 6 = .ok (.if_icmp .ne 6, 3) := by decide +kernel
theorem dX6_type_9 : decode cX6_type 9 = .ok (.bipush (-3), 2) := by decide +kernel
theorem dX6_type_11 : decode cX6_type 11 = .ok (.ireturn, 1) := by decide +kernel
theorem dX6_type_12 : decode cX6_type 12 = .ok (.aload_n 0, 1) := by decide +kernel
theorem dX6_type_13 : decode cX6_type 13 = .ok (.getfield 22, 3) := by decide +kernel
theorem dX6_type_16 : decode cX6_type 16 = .ok (.aload_n 0, 1) := by decide +kernel
theorem dX6_type_17 : decode cX6_type 17 = .ok (.getfield 125, 3) := by decide +kernel
theorem dX6_type_20 : decode cX6_type 20 = .ok (.iload_n 1, 1) := by decide +kernel
theorem dX6_type_21 : decode cX6_type 21 = .ok (.iastore, 1) := by decide +kernel
theorem dX6_type_22 : decode cX6_type 22 = .ok (.aload_n 0, 1) := by decide +kernel
theorem dX6_type_23 : decode cX6_type 23 = .ok (.dup, 1) := by decide +kernel
theorem dX6_type_24 : decode cX6_type 24 = .ok (.getfield 125, 3) := by decide +kernel
theorem dX6_type_27 : decode cX6_type 27 = .ok (.iconst 1, 1) := by decide +kernel
theorem dX6_type_28 : decode cX6_type 28 = .ok (.iadd, 1) := by decide +kernel
theorem dX6_type_29 : decode cX6_type 29 = .ok (.putfield 125, 3) := by decide +kernel
theorem dX6_type_32 : decode cX6_type 32 = .ok (.aload_n 0, 1) := by decide +kernel
theorem dX6_type_33 : decode cX6_type 33 = .ok (.getfield 125, 3) := by decide +kernel
theorem dX6_type_36 : decode cX6_type 36 = .ok (.ireturn, 1) := by decide +kernel
theorem dX6_clearText_0 : decode cX6_clearText 0 = .ok (.aload_n 0, 1) := by decide +kernel
theorem dX6_clearText_1 : decode cX6_clearText 1 = .ok (.getfield 125, 3) := by decide +kernel
theorem dX6_clearText_4 : decode cX6_clearText 4 = .ok (.istore_n 1, 1) := by decide +kernel
theorem dX6_clearText_5 : decode cX6_clearText 5 = .ok (.aload_n 0, 1) := by decide +kernel
theorem dX6_clearText_6 : decode cX6_clearText 6 = .ok (.iconst 0, 1) := by decide +kernel
theorem dX6_clearText_7 : decode cX6_clearText 7 = .ok (.putfield 125, 3) := by decide +kernel
theorem dX6_clearText_10 : decode cX6_clearText 10 = .ok (.iload_n 1, 1) := by decide +kernel
theorem dX6_clearText_11 : decode cX6_clearText 11 = .ok (.ireturn, 1) := by decide +kernel
theorem dX6_code_0 : decode cX6_code 0 = .ok (.aload_n 0, 1) := by decide +kernel
theorem dX6_code_1 : decode cX6_code 1 = .ok (.getfield 128, 3) := by decide +kernel
theorem dX6_code_4 : decode cX6_code 4 = .ok (.aload_n 0, 1) := by decide +kernel
theorem dX6_code_5 : decode cX6_code 5 = .ok (.getfield 125, 3) := by decide +kernel
theorem dX6_code_8 : decode cX6_code 8 = .ok (.if_icmp .ge 15, 3) := by decide +kernel
theorem dX6_code_11 : decode cX6_code 11 = .ok (.aload_n 0, 1) := by decide +kernel
theorem dX6_code_12 : decode cX6_code 12 = .ok (.getfield 22, 3) := by decide +kernel
theorem dX6_code_15 : decode cX6_code 15 = .ok (.aload_n 0, 1) := by decide +kernel
theorem dX6_code_16 : decode cX6_code 16 = .ok (.getfield 128, 3) := by decide +kernel
theorem dX6_code_19 : decode cX6_code 19 = .ok (.iaload, 1) := by decide +kernel
theorem dX6_code_20 : decode cX6_code 20 = .ok (.goto 4, 3) := by decide +kernel
theorem dX6_code_23 : decode cX6_code 23 = .ok (.iconst 0, 1) := by decide +kernel
theorem dX6_code_24 : decode cX6_code 24 = .ok (.ireturn, 1) := by decide +kernel
theorem dX6_takes_0 : decode cX6_takes 0 = .ok (.aload_n 0, 1) := by decide +kernel
theorem dX6_takes_1 : decode cX6_takes 1 = .ok (.getfield 128, 3) := by decide +kernel
theorem dX6_takes_4 : decode cX6_takes 4 = .ok (.aload_n 0, 1) := by decide +kernel
theorem dX6_takes_5 : decode cX6_takes 5 = .ok (.getfield 125, 3) := by decide +kernel
theorem dX6_takes_8 : decode cX6_takes 8 = .ok (.if_icmp .ge 20, 3) := by decide +kernel
theorem dX6_takes_11 : decode cX6_takes 11 = .ok (.aload_n 0, 1) := by decide +kernel
theorem dX6_takes_12 : decode cX6_takes 12 = .ok (.getfield 22, 3) := by decide +kernel
theorem dX6_takes_15 : decode cX6_takes 15 = .ok (.aload_n 0, 1) := by decide +kernel
theorem dX6_takes_16 : decode cX6_takes 16 = .ok (.getfield 128, 3) := by decide +kernel
theorem dX6_takes_19 : decode cX6_takes 19 = .ok (.iaload, 1) := by decide +kernel
theorem dX6_takes_20 : decode cX6_takes 20 = .ok (.iload_n 1, 1) := by decide +kernel
theorem dX6_takes_21 : decode cX6_takes 21 = .ok (.if_icmp .ne 7, 3) := by decide +kernel
theorem dX6_takes_24 : decode cX6_takes 24 = .ok (.iconst 1, 1) := by decide +kernel
theorem dX6_takes_25 : decode cX6_takes 25 = .ok (.goto 4, 3) := by decide +kernel
theorem dX6_takes_28 : decode cX6_takes 28 = .ok (.iconst 0, 1) := by decide +kernel
theorem dX6_takes_29 : decode cX6_takes 29 = .ok (.istore_n 2, 1) := by decide +kernel
theorem dX6_takes_30 : decode cX6_takes 30 = .ok (.aload_n 0, 1) := by decide +kernel
theorem dX6_takes_31 : decode cX6_takes 31 = .ok (.dup, 1) := by decide +kernel
theorem dX6_takes_32 : decode cX6_takes 32 = .ok (.getfield 128, 3) := by decide +kernel
theorem dX6_takes_35 : decode cX6_takes 35 = .ok (.iload_n 2, 1) := by decide +kernel
theorem dX6_takes_36 : decode cX6_takes 36 = .ok (.ifCond .eq 7, 3) := by decide +kernel
theorem dX6_takes_39 : decode cX6_takes 39 = .ok (.iconst 1, 1) := by decide +kernel
theorem dX6_takes_40 : decode cX6_takes 40 = .ok (.goto 4, 3) := by decide +kernel
theorem dX6_takes_43 : decode cX6_takes 43 = .ok (.iconst 0, 1) := by decide +kernel
theorem dX6_takes_44 : decode cX6_takes 44 = .ok (.iadd, 1) := by decide +kernel
theorem dX6_takes_45 : decode cX6_takes 45 = .ok (.putfield 128, 3) := by decide +kernel
theorem dX6_takes_48 : decode cX6_takes 48 = .ok (.iload_n 2, 1) := by decide +kernel
theorem dX6_takes_49 : decode cX6_takes 49 = .ok (.ireturn, 1) := by decide +kernel
theorem dX6_readNumber_0 : decode cX6_readNumber 0 = .ok (.aload_n 0, 1) := by decide +kernel
theorem dX6_readNumber_1 : decode cX6_readNumber 1 = .ok (.invokevirtual 131, 3) := by decide +kernel
theorem dX6_readNumber_4 : decode cX6_readNumber 4 = .ok (.bipush 48, 2) := by decide +kernel
theorem dX6_readNumber_6 : decode cX6_readNumber 6 = .ok (.isub, 1) := by decide +kernel
theorem dX6_readNumber_7 : decode cX6_readNumber 7 = .ok (.istore_n 2, 1) := by decide +kernel
theorem dX6_readNumber_8 : decode cX6_readNumber 8 = .ok (.iload_n 2, 1) := by decide +kernel
theorem dX6_readNumber_9 : decode cX6_readNumber 9 = .ok (.iconst 0, 1) := by decide +kernel
theorem dX6_readNumber_10 : decode cX6_readNumber 10 = .ok (.bipush 9, 2) := by decide +kernel
theorem dX6_readNumber_12 : decode cX6_readNumber 12 = .ok (.invokestatic 31, 3) := by decide +kernel
theorem dX6_readNumber_15 : decode cX6_readNumber 15 = .ok (.ifCond .eq 8, 3) := by decide +kernel
theorem dX6_readNumber_18 : decode cX6_readNumber 18 = .ok (.iload_n 2, 1) := by decide +kernel
theorem dX6_readNumber_19 : decode cX6_readNumber 19 = .ok (.iload_n 1, 1) := by decide +kernel
theorem dX6_readNumber_20 : decode cX6_readNumber 20 = .ok (.if_icmp .le 6, 3) := by decide +kernel
theorem dX6_readNumber_23 : decode cX6_readNumber 23 = .ok (.bipush (-5), 2) := by decide +kernel
theorem dX6_readNumber_25 : decode cX6_readNumber 25 = .ok (.ireturn, 1) := by decide +kernel
theorem dX6_readNumber_26 : decode cX6_readNumber 26 = .ok (.aload_n 0, 1) := by decide +kernel
theorem dX6_readNumber_27 : decode cX6_readNumber 27 = .ok (.dup, 1) := by decide +kernel
theorem dX6_readNumber_28 : decode cX6_readNumber 28 = .ok (.getfield 128, 3) := by decide +kernel
theorem dX6_readNumber_31 : decode cX6_readNumber 31 = .ok (.iconst 1, 1) := by decide +kernel
theorem dX6_readNumber_32 : decode cX6_readNumber 32 = .ok (.iadd, 1) := by decide +kernel
theorem dX6_readNumber_33 : decode cX6_readNumber 33 = .ok (.putfield 128, 3) := by decide +kernel
theorem dX6_readNumber_36 : decode cX6_readNumber 36 = .ok (.aload_n 0, 1) := by decide +kernel
theorem dX6_readNumber_37 : decode cX6_readNumber 37 = .ok (.invokevirtual 131, 3) := by decide +kernel
theorem dX6_readNumber_40 : decode cX6_readNumber 40 = .ok (.bipush 48, 2) := by decide +kernel
theorem dX6_readNumber_42 : decode cX6_readNumber 42 = .ok (.isub, 1) := by decide +kernel
theorem dX6_readNumber_43 : decode cX6_readNumber 43 = .ok (.istore_n 3, 1) := by decide +kernel
theorem dX6_readNumber_44 : decode cX6_readNumber 44 = .ok (.iload_n 2, 1) := by decide +kernel
theorem dX6_readNumber_45 : decode cX6_readNumber 45 = .ok (.ifCond .le 40, 3) := by decide +kernel
theorem dX6_readNumber_48 : decode cX6_readNumber 48 = .ok (.iload_n 3, 1) := by decide +kernel
theorem dX6_readNumber_49 : decode cX6_readNumber 49 = .ok (.iconst 0, 1) := by decide +kernel
theorem dX6_readNumber_50 : decode cX6_readNumber 50 = .ok (.bipush 9, 2) := by decide +kernel
theorem dX6_readNumber_52 : decode cX6_readNumber 52 = .ok (.invokestatic 31, 3) := by decide +kernel
theorem dX6_readNumber_55 : decode cX6_readNumber 55 = .ok (.ifCond .eq 30, 3) := by decide +kernel
theorem dX6_readNumber_58 : decode cX6_readNumber 58 = .ok (.bipush 10, 2) := by decide +kernel
theorem dX6_readNumber_60 : decode cX6_readNumber 60 = .ok (.iload_n 2, 1) := by decide +kernel
theorem dX6_readNumber_61 : decode cX6_readNumber 61 = .ok (.imul, 1) := by decide +kernel
theorem dX6_readNumber_62 : decode cX6_readNumber 62 = .ok (.iload_n 3, 1) := by decide +kernel
theorem dX6_readNumber_63 : decode cX6_readNumber 63 = .ok (.iadd, 1) := by decide +kernel
theorem dX6_readNumber_64 : decode cX6_readNumber 64 = .ok (.iload_n 1, 1) := by decide +kernel
theorem dX6_readNumber_65 : decode cX6_readNumber 65 = .ok (.if_icmp .gt 20, 3) := by decide +kernel
theorem dX6_readNumber_68 : decode cX6_readNumber 68 = .ok (.bipush 10, 2) := by decide +kernel
theorem dX6_readNumber_70 : decode cX6_readNumber 70 = .ok (.iload_n 2, 1) := by decide +kernel
theorem dX6_readNumber_71 : decode cX6_readNumber 71 = .ok (.imul, 1) := by decide +kernel
theorem dX6_readNumber_72 : decode cX6_readNumber 72 = .ok (.iload_n 3, 1) := by decide +kernel
theorem dX6_readNumber_73 : decode cX6_readNumber 73 = .ok (.iadd, 1) := by decide +kernel
theorem dX6_readNumber_74 : decode cX6_readNumber 74 = .ok (.istore_n 2, 1) := by decide +kernel
theorem dX6_readNumber_75 : decode cX6_readNumber 75 = .ok (.aload_n 0, 1) := by decide +kernel
theorem dX6_readNumber_76 : decode cX6_readNumber 76 = .ok (.dup, 1) := by decide +kernel
theorem dX6_readNumber_77 : decode cX6_readNumber 77 = .ok (.getfield 128, 3) := by decide +kernel
theorem dX6_readNumber_80 : decode cX6_readNumber 80 = .ok (.iconst 1, 1) := by decide +kernel
theorem dX6_readNumber_81 : decode cX6_readNumber 81 = .ok (.iadd, 1) := by decide +kernel
theorem dX6_readNumber_82 : decode cX6_readNumber 82 = .ok (.putfield 128, 3) := by decide +kernel
theorem dX6_readNumber_85 : decode cX6_readNumber 85 = .ok (.iload_n 2, 1) := by decide +kernel
theorem dX6_readNumber_86 : decode cX6_readNumber 86 = .ok (.ireturn, 1) := by decide +kernel
theorem dX6_readsLean_0 : decode cX6_readsLean 0 = .ok (.aload_n 0, 1) := by decide +kernel
theorem dX6_readsLean_1 : decode cX6_readsLean 1 = .ok (.bipush 45, 2) := by decide +kernel
theorem dX6_readsLean_3 : decode cX6_readsLean 3 = .ok (.invokevirtual 134, 3) := by decide +kernel
theorem dX6_readsLean_6 : decode cX6_readsLean 6 = .ok (.istore_n 1, 1) := by decide +kernel
theorem dX6_readsLean_7 : decode cX6_readsLean 7 = .ok (.iload_n 1, 1) := by decide +kernel
theorem dX6_readsLean_8 : decode cX6_readsLean 8 = .ok (.ifCond .eq 14, 3) := by decide +kernel
theorem dX6_readsLean_11 : decode cX6_readsLean 11 = .ok (.aload_n 0, 1) := by decide +kernel
theorem dX6_readsLean_12 : decode cX6_readsLean 12 = .ok (.invokevirtual 131, 3) := by decide +kernel
theorem dX6_readsLean_15 : decode cX6_readsLean 15 = .ok (.bipush 48, 2) := by decide +kernel
theorem dX6_readsLean_17 : decode cX6_readsLean 17 = .ok (.if_icmp .ne 5, 3) := by decide +kernel
theorem dX6_readsLean_20 : decode cX6_readsLean 20 = .ok (.iconst 0, 1) := by decide +kernel
theorem dX6_readsLean_21 : decode cX6_readsLean 21 = .ok (.ireturn, 1) := by decide +kernel
theorem dX6_readsLean_22 : decode cX6_readsLean 22 = .ok (.aload_n 0, 1) := by decide +kernel
theorem dX6_readsLean_23 : decode cX6_readsLean 23 = .ok (.aload_n 0, 1) := by decide +kernel
theorem dX6_readsLean_24 : decode cX6_readsLean 24 = .ok (.bipush 9, 2) := by decide +kernel
theorem dX6_readsLean_26 : decode cX6_readsLean 26 = .ok (.invokevirtual 137, 3) := by decide +kernel
theorem dX6_readsLean_29 : decode cX6_readsLean 29 = .ok (.putfield 140, 3) := by decide +kernel
theorem dX6_readsLean_32 : decode cX6_readsLean 32 = .ok (.aload_n 0, 1) := by decide +kernel
theorem dX6_readsLean_33 : decode cX6_readsLean 33 = .ok (.getfield 140, 3) := by decide +kernel
theorem dX6_readsLean_36 : decode cX6_readsLean 36 = .ok (.bipush (-5), 2) := by decide +kernel
theorem dX6_readsLean_38 : decode cX6_readsLean 38 = .ok (.if_icmp .eq 7, 3) := by decide +kernel
theorem dX6_readsLean_41 : decode cX6_readsLean 41 = .ok (.iconst 1, 1) := by decide +kernel
theorem dX6_readsLean_42 : decode cX6_readsLean 42 = .ok (.goto 4, 3) := by decide +kernel
theorem dX6_readsLean_45 : decode cX6_readsLean 45 = .ok (.iconst 0, 1) := by decide +kernel
theorem dX6_readsLean_46 : decode cX6_readsLean 46 = .ok (.istore_n 2, 1) := by decide +kernel
theorem dX6_readsLean_47 : decode cX6_readsLean 47 = .ok (.aload_n 0, 1) := by decide +kernel
theorem dX6_readsLean_48 : decode cX6_readsLean 48 = .ok (.iload_n 1, 1) := by decide +kernel
theorem dX6_readsLean_49 : decode cX6_readsLean 49 = .ok (.ifCond .eq 11, 3) := by decide +kernel
theorem dX6_readsLean_52 : decode cX6_readsLean 52 = .ok (.aload_n 0, 1) := by decide +kernel
theorem dX6_readsLean_53 : decode cX6_readsLean 53 = .ok (.getfield 140, 3) := by decide +kernel
theorem dX6_readsLean_56 : decode cX6_readsLean 56 = .ok (.ineg, 1) := by decide +kernel
theorem dX6_readsLean_57 : decode cX6_readsLean 57 = .ok (.goto 7, 3) := by decide +kernel
theorem dX6_readsLean_60 : decode cX6_readsLean 60 = .ok (.aload_n 0, 1) := by decide +kernel
theorem dX6_readsLean_61 : decode cX6_readsLean 61 = .ok (.getfield 140, 3) := by decide +kernel
theorem dX6_readsLean_64 : decode cX6_readsLean 64 = .ok (.putfield 140, 3) := by decide +kernel
theorem dX6_readsLean_67 : decode cX6_readsLean 67 = .ok (.iload_n 2, 1) := by decide +kernel
theorem dX6_readsLean_68 : decode cX6_readsLean 68 = .ok (.ireturn, 1) := by decide +kernel
theorem dX6_readsChange_0 : decode cX6_readsChange 0 = .ok (.aload_n 0, 1) := by decide +kernel
theorem dX6_readsChange_1 : decode cX6_readsChange 1 = .ok (.aload_n 0, 1) := by decide +kernel
theorem dX6_readsChange_2 : decode cX6_readsChange 2 = .ok (.invokevirtual 131, 3) := by decide +kernel
theorem dX6_readsChange_5 : decode cX6_readsChange 5 = .ok (.putfield 143, 3) := by decide +kernel
theorem dX6_readsChange_8 : decode cX6_readsChange 8 = .ok (.aload_n 0, 1) := by decide +kernel
theorem dX6_readsChange_9 : decode cX6_readsChange 9 = .ok (.getfield 143, 3) := by decide +kernel
theorem dX6_readsChange_12 : decode cX6_readsChange 12 = .ok (.bipush 115, 2) := by decide +kernel
theorem dX6_readsChange_14 : decode cX6_readsChange 14 = .ok (.if_icmp .eq 32, 3) := by decide +kernel
theorem dX6_readsChange_17 : decode cX6_readsChange 17 = .ok (.aload_n 0, 1) := by decide +kernel
theorem dX6_readsChange_18 : decode cX6_readsChange 18 = .ok (.getfield 143, 3) := by decide +kernel
theorem dX6_readsChange_21 : decode cX6_readsChange 21 = .ok (.bipush 109, 2) := by decide +kernel
theorem dX6_readsChange_23 : decode cX6_readsChange 23 = .ok (.if_icmp .eq 23, 3) := by decide +kernel
theorem dX6_readsChange_26 : decode cX6_readsChange 26 = .ok (.aload_n 0, 1) := by decide +kernel
theorem dX6_readsChange_27 : decode cX6_readsChange 27 = .ok (.getfield 143, 3) := by decide +kernel
theorem dX6_readsChange_30 : decode cX6_readsChange 30 = .ok (.bipush 117, 2) := by decide +kernel
theorem dX6_readsChange_32 : decode cX6_readsChange 32 = .ok (.if_icmp .eq 14, 3) := by decide +kernel
theorem dX6_readsChange_35 : decode cX6_readsChange 35 = .ok (.aload_n 0, 1) := by decide +kernel
theorem dX6_readsChange_36 : decode cX6_readsChange 36 = .ok (.getfield 143, 3) := by decide +kernel
theorem dX6_readsChange_39 : decode cX6_readsChange 39 = .ok (.bipush 108, 2) := by decide +kernel
theorem dX6_readsChange_41 : decode cX6_readsChange 41 = .ok (.if_icmp .eq 5, 3) := by decide +kernel
theorem dX6_readsChange_44 : decode cX6_readsChange 44 = .ok (.iconst 0, 1) := by decide +kernel
theorem dX6_readsChange_45 : decode cX6_readsChange 45 = .ok (.ireturn, 1) := by decide +kernel
theorem dX6_readsChange_46 : decode cX6_readsChange 46 = .ok (.aload_n 0, 1) := by decide +kernel
theorem dX6_readsChange_47 : decode cX6_readsChange 47 = .ok (.dup, 1) := by decide +kernel
theorem dX6_readsChange_48 : decode cX6_readsChange 48 = .ok (.getfield 128, 3) := by decide +kernel
theorem dX6_readsChange_51 : decode cX6_readsChange 51 = .ok (.iconst 1, 1) := by decide +kernel
theorem dX6_readsChange_52 : decode cX6_readsChange 52 = .ok (.iadd, 1) := by decide +kernel
theorem dX6_readsChange_53 : decode cX6_readsChange 53 = .ok (.putfield 128, 3) := by decide +kernel
theorem dX6_readsChange_56 : decode cX6_readsChange 56 = .ok (.aload_n 0, 1) := by decide +kernel
theorem dX6_readsChange_57 : decode cX6_readsChange 57 = .ok (.aload_n 0, 1) := by decide +kernel
theorem dX6_readsChange_58 : decode cX6_readsChange 58 = .ok (.bipush 23, 2) := by decide +kernel
theorem dX6_readsChange_60 : decode cX6_readsChange 60 = .ok (.invokevirtual 137, 3) := by decide +kernel
theorem dX6_readsChange_63 : decode cX6_readsChange 63 = .ok (.putfield 146, 3) := by decide +kernel
theorem dX6_readsChange_66 : decode cX6_readsChange 66 = .ok (.aload_n 0, 1) := by decide +kernel
theorem dX6_readsChange_67 : decode cX6_readsChange 67 = .ok (.getfield 146, 3) := by decide +kernel
theorem dX6_readsChange_70 : decode cX6_readsChange 70 = .ok (.bipush (-5), 2) := by decide +kernel
theorem dX6_readsChange_72 : decode cX6_readsChange 72 = .ok (.if_icmp .eq 26, 3) := by decide +kernel
theorem dX6_readsChange_75 : decode cX6_readsChange 75 = .ok (.aload_n 0, 1) := by decide +kernel
theorem dX6_readsChange_76 : decode cX6_readsChange 76 = .ok (.aload_n 0, 1) := by decide +kernel
theorem dX6_readsChange_77 : decode cX6_readsChange 77 = .ok (.getfield 143, 3) := by decide +kernel
theorem dX6_readsChange_80 : decode cX6_readsChange 80 = .ok (.bipush 115, 2) := by decide +kernel
theorem dX6_readsChange_82 : decode cX6_readsChange 82 = .ok (.if_icmp .ne 8, 3) := by decide +kernel
theorem dX6_readsChange_85 : decode cX6_readsChange 85 = .ok (.bipush 47, 2) := by decide +kernel
theorem dX6_readsChange_87 : decode cX6_readsChange 87 = .ok (.goto 5, 3) := by decide +kernel
theorem dX6_readsChange_90 : decode cX6_readsChange 90 = .ok (.bipush 61, 2) := by decide +kernel
theorem dX6_readsChange_92 : decode cX6_readsChange 92 = .ok (.invokevirtual 134, 3) := by decide +kernel
theorem dX6_readsChange_95 : decode cX6_readsChange 95 = .ok (.ifCond .ne 5, 3) := by decide +kernel
theorem dX6_readsChange_98 : decode cX6_readsChange 98 = .ok (.iconst 0, 1) := by decide +kernel
theorem dX6_readsChange_99 : decode cX6_readsChange 99 = .ok (.ireturn, 1) := by decide +kernel
theorem dX6_readsChange_100 : decode cX6_readsChange 100 = .ok (.aload_n 0, 1) := by decide +kernel
theorem dX6_readsChange_101 : decode cX6_readsChange 101 = .ok (.getfield 143, 3) := by decide +kernel
theorem dX6_readsChange_104 : decode cX6_readsChange 104 = .ok (.bipush 108, 2) := by decide +kernel
theorem dX6_readsChange_106 : decode cX6_readsChange 106 = .ok (.if_icmp .ne 8, 3) := by decide +kernel
theorem dX6_readsChange_109 : decode cX6_readsChange 109 = .ok (.aload_n 0, 1) := by decide +kernel
theorem dX6_readsChange_110 : decode cX6_readsChange 110 = .ok (.invokevirtual 149, 3) := by decide +kernel
theorem dX6_readsChange_113 : decode cX6_readsChange 113 = .ok (.ireturn, 1) := by decide +kernel
theorem dX6_readsChange_114 : decode cX6_readsChange 114 = .ok (.aload_n 0, 1) := by decide +kernel
theorem dX6_readsChange_115 : decode cX6_readsChange 115 = .ok (.aload_n 0, 1) := by decide +kernel
theorem dX6_readsChange_116 : decode cX6_readsChange 116 = .ok (.aload_n 0, 1) := by decide +kernel
theorem dX6_readsChange_117 : decode cX6_readsChange 117 = .ok (.getfield 143, 3) := by decide +kernel
theorem dX6_readsChange_120 : decode cX6_readsChange 120 = .ok (.bipush 115, 2) := by decide +kernel
theorem dX6_readsChange_122 : decode cX6_readsChange 122 = .ok (.if_icmp .ne 8, 3) := by decide +kernel
theorem dX6_readsChange_125 : decode cX6_readsChange 125 = .ok (.bipush 23, 2) := by decide +kernel
theorem dX6_readsChange_127 : decode cX6_readsChange 127 = .ok (.goto 4, 3) := by decide +kernel
theorem dX6_readsChange_130 : decode cX6_readsChange 130 = .ok (.iconst 3, 1) := by decide +kernel
theorem dX6_readsChange_131 : decode cX6_readsChange 131 = .ok (.invokevirtual 137, 3) := by decide +kernel
theorem dX6_readsChange_134 : decode cX6_readsChange 134 = .ok (.putfield 140, 3) := by decide +kernel
theorem dX6_readsChange_137 : decode cX6_readsChange 137 = .ok (.aload_n 0, 1) := by decide +kernel
theorem dX6_readsChange_138 : decode cX6_readsChange 138 = .ok (.getfield 140, 3) := by decide +kernel
theorem dX6_readsChange_141 : decode cX6_readsChange 141 = .ok (.bipush (-5), 2) := by decide +kernel
theorem dX6_readsChange_143 : decode cX6_readsChange 143 = .ok (.if_icmp .eq 7, 3) := by decide +kernel
theorem dX6_readsChange_146 : decode cX6_readsChange 146 = .ok (.iconst 1, 1) := by decide +kernel
theorem dX6_readsChange_147 : decode cX6_readsChange 147 = .ok (.goto 4, 3) := by decide +kernel
theorem dX6_readsChange_150 : decode cX6_readsChange 150 = .ok (.iconst 0, 1) := by decide +kernel
theorem dX6_readsChange_151 : decode cX6_readsChange 151 = .ok (.ireturn, 1) := by decide +kernel
theorem dX6_findFault_0 : decode cX6_findFault 0 = .ok (.aload_n 0, 1) := by decide +kernel
theorem dX6_findFault_1 : decode cX6_findFault 1 = .ok (.iconst 0, 1) := by decide +kernel
theorem dX6_findFault_2 : decode cX6_findFault 2 = .ok (.putfield 128, 3) := by decide +kernel
theorem dX6_findFault_5 : decode cX6_findFault 5 = .ok (.aload_n 0, 1) := by decide +kernel
theorem dX6_findFault_6 : decode cX6_findFault 6 = .ok (.invokevirtual 153, 3) := by decide +kernel
theorem dX6_findFault_9 : decode cX6_findFault 9 = .ok (.ifCond .eq 31, 3) := by decide +kernel
theorem dX6_findFault_12 : decode cX6_findFault 12 = .ok (.aload_n 0, 1) := by decide +kernel
theorem dX6_findFault_13 : decode cX6_findFault 13 = .ok (.getfield 128, 3) := by decide +kernel
theorem dX6_findFault_16 : decode cX6_findFault 16 = .ok (.aload_n 0, 1) := by decide +kernel
theorem dX6_findFault_17 : decode cX6_findFault 17 = .ok (.getfield 125, 3) := by decide +kernel
theorem dX6_findFault_20 : decode cX6_findFault 20 = .ok (.if_icmp .ne 6, 3) := by decide +kernel
theorem dX6_findFault_23 : decode cX6_findFault 23 = .ok (.bipush (-5), 2) := by decide +kernel
theorem dX6_findFault_25 : decode cX6_findFault 25 = .ok (.ireturn, 1) := by decide +kernel
theorem dX6_findFault_26 : decode cX6_findFault 26 = .ok (.aload_n 0, 1) := by decide +kernel
theorem dX6_findFault_27 : decode cX6_findFault 27 = .ok (.bipush 59, 2) := by decide +kernel
theorem dX6_findFault_29 : decode cX6_findFault 29 = .ok (.invokevirtual 134, 3) := by decide +kernel
theorem dX6_findFault_32 : decode cX6_findFault 32 = .ok (.ifCond .ne (-27), 3) := by decide +kernel
theorem dX6_findFault_35 : decode cX6_findFault 35 = .ok (.aload_n 0, 1) := by decide +kernel
theorem dX6_findFault_36 : decode cX6_findFault 36 = .ok (.getfield 128, 3) := by decide +kernel
theorem dX6_findFault_39 : decode cX6_findFault 39 = .ok (.ireturn, 1) := by decide +kernel
theorem dX6_findFault_40 : decode cX6_findFault 40 = .ok (.aload_n 0, 1) := by decide +kernel
theorem dX6_findFault_41 : decode cX6_findFault 41 = .ok (.getfield 128, 3) := by decide +kernel
theorem dX6_findFault_44 : decode cX6_findFault 44 = .ok (.ireturn, 1) := by decide +kernel
theorem dX6_fault_0 : decode cX6_fault 0 = .ok (.aload_n 0, 1) := by decide +kernel
theorem dX6_fault_1 : decode cX6_fault 1 = .ok (.invokevirtual 156, 3) := by decide +kernel
theorem dX6_fault_4 : decode cX6_fault 4 = .ok (.ireturn, 1) := by decide +kernel
theorem dX6_doesChange_0 : decode cX6_doesChange 0 = .ok (.aload_n 0, 1) := by decide +kernel
theorem dX6_doesChange_1 : decode cX6_doesChange 1 = .ok (.getfield 143, 3) := by decide +kernel
theorem dX6_doesChange_4 : decode cX6_doesChange 4 = .ok (.bipush 108, 2) := by decide +kernel
theorem dX6_doesChange_6 : decode cX6_doesChange 6 = .ok (.if_icmp .ne 15, 3) := by decide +kernel
theorem dX6_doesChange_9 : decode cX6_doesChange 9 = .ok (.aload_n 0, 1) := by decide +kernel
theorem dX6_doesChange_10 : decode cX6_doesChange 10 = .ok (.getfield 146, 3) := by decide +kernel
theorem dX6_doesChange_13 : decode cX6_doesChange 13 = .ok (.invokestatic 67, 3) := by decide +kernel
theorem dX6_doesChange_16 : decode cX6_doesChange 16 = .ok (.ifCond .ne 5, 3) := by decide +kernel
theorem dX6_doesChange_19 : decode cX6_doesChange 19 = .ok (.iconst 0, 1) := by decide +kernel
theorem dX6_doesChange_20 : decode cX6_doesChange 20 = .ok (.ireturn, 1) := by decide +kernel
theorem dX6_doesChange_21 : decode cX6_doesChange 21 = .ok (.aload_n 0, 1) := by decide +kernel
theorem dX6_doesChange_22 : decode cX6_doesChange 22 = .ok (.getfield 143, 3) := by decide +kernel
theorem dX6_doesChange_25 : decode cX6_doesChange 25 = .ok (.bipush 115, 2) := by decide +kernel
theorem dX6_doesChange_27 : decode cX6_doesChange 27 = .ok (.if_icmp .ne 18, 3) := by decide +kernel
theorem dX6_doesChange_30 : decode cX6_doesChange 30 = .ok (.aload_n 0, 1) := by decide +kernel
theorem dX6_doesChange_31 : decode cX6_doesChange 31 = .ok (.aload_n 0, 1) := by decide +kernel
theorem dX6_doesChange_32 : decode cX6_doesChange 32 = .ok (.getfield 146, 3) := by decide +kernel
theorem dX6_doesChange_35 : decode cX6_doesChange 35 = .ok (.aload_n 0, 1) := by decide +kernel
theorem dX6_doesChange_36 : decode cX6_doesChange 36 = .ok (.getfield 140, 3) := by decide +kernel
theorem dX6_doesChange_39 : decode cX6_doesChange 39 = .ok (.invokevirtual 56, 3) := by decide +kernel
theorem dX6_doesChange_42 : decode cX6_doesChange 42 = .ok (.goto 57, 3) := by decide +kernel
theorem dX6_doesChange_45 : decode cX6_doesChange 45 = .ok (.aload_n 0, 1) := by decide +kernel
theorem dX6_doesChange_46 : decode cX6_doesChange 46 = .ok (.getfield 143, 3) := by decide +kernel
theorem dX6_doesChange_49 : decode cX6_doesChange 49 = .ok (.bipush 108, 2) := by decide +kernel
theorem dX6_doesChange_51 : decode cX6_doesChange 51 = .ok (.if_icmp .ne 22, 3) := by decide +kernel
theorem dX6_doesChange_54 : decode cX6_doesChange 54 = .ok (.aload_n 0, 1) := by decide +kernel
theorem dX6_doesChange_55 : decode cX6_doesChange 55 = .ok (.getfield 7, 3) := by decide +kernel
theorem dX6_doesChange_58 : decode cX6_doesChange 58 = .ok (.bipush 35, 2) := by decide +kernel
theorem dX6_doesChange_60 : decode cX6_doesChange 60 = .ok (.aload_n 0, 1) := by decide +kernel
theorem dX6_doesChange_61 : decode cX6_doesChange 61 = .ok (.getfield 146, 3) := by decide +kernel
theorem dX6_doesChange_64 : decode cX6_doesChange 64 = .ok (.iadd, 1) := by decide +kernel
theorem dX6_doesChange_65 : decode cX6_doesChange 65 = .ok (.aload_n 0, 1) := by decide +kernel
theorem dX6_doesChange_66 : decode cX6_doesChange 66 = .ok (.getfield 140, 3) := by decide +kernel
theorem dX6_doesChange_69 : decode cX6_doesChange 69 = .ok (.iastore, 1) := by decide +kernel
theorem dX6_doesChange_70 : decode cX6_doesChange 70 = .ok (.goto 29, 3) := by decide +kernel
theorem dX6_doesChange_73 : decode cX6_doesChange 73 = .ok (.aload_n 0, 1) := by decide +kernel
theorem dX6_doesChange_74 : decode cX6_doesChange 74 = .ok (.aload_n 0, 1) := by decide +kernel
theorem dX6_doesChange_75 : decode cX6_doesChange 75 = .ok (.getfield 146, 3) := by decide +kernel
theorem dX6_doesChange_78 : decode cX6_doesChange 78 = .ok (.aload_n 0, 1) := by decide +kernel
theorem dX6_doesChange_79 : decode cX6_doesChange 79 = .ok (.getfield 140, 3) := by decide +kernel
theorem dX6_doesChange_82 : decode cX6_doesChange 82 = .ok (.aload_n 0, 1) := by decide +kernel
theorem dX6_doesChange_83 : decode cX6_doesChange 83 = .ok (.getfield 143, 3) := by decide +kernel
theorem dX6_doesChange_86 : decode cX6_doesChange 86 = .ok (.bipush 109, 2) := by decide +kernel
theorem dX6_doesChange_88 : decode cX6_doesChange 88 = .ok (.if_icmp .ne 7, 3) := by decide +kernel
theorem dX6_doesChange_91 : decode cX6_doesChange 91 = .ok (.iconst 1, 1) := by decide +kernel
theorem dX6_doesChange_92 : decode cX6_doesChange 92 = .ok (.goto 4, 3) := by decide +kernel
theorem dX6_doesChange_95 : decode cX6_doesChange 95 = .ok (.iconst 0, 1) := by decide +kernel
theorem dX6_doesChange_96 : decode cX6_doesChange 96 = .ok (.invokevirtual 63, 3) := by decide +kernel
theorem dX6_doesChange_99 : decode cX6_doesChange 99 = .ok (.iconst 1, 1) := by decide +kernel
theorem dX6_doesChange_100 : decode cX6_doesChange 100 = .ok (.ireturn, 1) := by decide +kernel
theorem dX6_changeAll_0 : decode cX6_changeAll 0 = .ok (.aload_n 0, 1) := by decide +kernel
theorem dX6_changeAll_1 : decode cX6_changeAll 1 = .ok (.invokevirtual 156, 3) := by decide +kernel
theorem dX6_changeAll_4 : decode cX6_changeAll 4 = .ok (.istore_n 1, 1) := by decide +kernel
theorem dX6_changeAll_5 : decode cX6_changeAll 5 = .ok (.iload_n 1, 1) := by decide +kernel
theorem dX6_changeAll_6 : decode cX6_changeAll 6 = .ok (.bipush (-5), 2) := by decide +kernel
theorem dX6_changeAll_8 : decode cX6_changeAll 8 = .ok (.if_icmp .eq 8, 3) := by decide +kernel
theorem dX6_changeAll_11 : decode cX6_changeAll 11 = .ok (.bipush (-100), 2) := by decide +kernel
theorem dX6_changeAll_13 : decode cX6_changeAll 13 = .ok (.iload_n 1, 1) := by decide +kernel
theorem dX6_changeAll_14 : decode cX6_changeAll 14 = .ok (.isub, 1) := by decide +kernel
theorem dX6_changeAll_15 : decode cX6_changeAll 15 = .ok (.ireturn, 1) := by decide +kernel
theorem dX6_changeAll_16 : decode cX6_changeAll 16 = .ok (.aload_n 0, 1) := by decide +kernel
theorem dX6_changeAll_17 : decode cX6_changeAll 17 = .ok (.invokevirtual 39, 3) := by decide +kernel
theorem dX6_changeAll_20 : decode cX6_changeAll 20 = .ok (.aload_n 0, 1) := by decide +kernel
theorem dX6_changeAll_21 : decode cX6_changeAll 21 = .ok (.iconst 0, 1) := by decide +kernel
theorem dX6_changeAll_22 : decode cX6_changeAll 22 = .ok (.putfield 128, 3) := by decide +kernel
theorem dX6_changeAll_25 : decode cX6_changeAll 25 = .ok (.iconst 0, 1) := by decide +kernel
theorem dX6_changeAll_26 : decode cX6_changeAll 26 = .ok (.istore_n 2, 1) := by decide +kernel
theorem dX6_changeAll_27 : decode cX6_changeAll 27 = .ok (.aload_n 0, 1) := by decide +kernel
theorem dX6_changeAll_28 : decode cX6_changeAll 28 = .ok (.getfield 128, 3) := by decide +kernel
theorem dX6_changeAll_31 : decode cX6_changeAll 31 = .ok (.aload_n 0, 1) := by decide +kernel
theorem dX6_changeAll_32 : decode cX6_changeAll 32 = .ok (.getfield 125, 3) := by decide +kernel
theorem dX6_changeAll_35 : decode cX6_changeAll 35 = .ok (.if_icmp .ge 40, 3) := by decide +kernel
theorem dX6_changeAll_38 : decode cX6_changeAll 38 = .ok (.aload_n 0, 1) := by decide +kernel
theorem dX6_changeAll_39 : decode cX6_changeAll 39 = .ok (.invokevirtual 153, 3) := by decide +kernel
theorem dX6_changeAll_42 : decode cX6_changeAll 42 = .ok (.ifCond .eq 10, 3) := by decide +kernel
theorem dX6_changeAll_45 : decode cX6_changeAll 45 = .ok (.aload_n 0, 1) := by decide +kernel
theorem dX6_changeAll_46 : decode cX6_changeAll 46 = .ok (.invokevirtual 159, 3) := by decide +kernel
theorem dX6_changeAll_49 : decode cX6_changeAll 49 = .ok (.ifCond .ne 10, 3) := by decide +kernel
theorem dX6_changeAll_52 : decode cX6_changeAll 52 = .ok (.aload_n 0, 1) := by decide +kernel
theorem dX6_changeAll_53 : decode cX6_changeAll 53 = .ok (.invokevirtual 162, 3) := by decide +kernel
theorem dX6_changeAll_56 : decode cX6_changeAll 56 = .ok (.bipush (-4), 2) := by decide +kernel
theorem dX6_changeAll_58 : decode cX6_changeAll 58 = .ok (.ireturn, 1) := by decide +kernel
theorem dX6_changeAll_59 : decode cX6_changeAll 59 = .ok (.iinc 2 1, 3) := by decide +kernel
theorem dX6_changeAll_62 : decode cX6_changeAll 62 = .ok (.aload_n 0, 1) := by decide +kernel
theorem dX6_changeAll_63 : decode cX6_changeAll 63 = .ok (.dup, 1) := by decide +kernel
theorem dX6_changeAll_64 : decode cX6_changeAll 64 = .ok (.getfield 128, 3) := by decide +kernel
theorem dX6_changeAll_67 : decode cX6_changeAll 67 = .ok (.iconst 1, 1) := by decide +kernel
theorem dX6_changeAll_68 : decode cX6_changeAll 68 = .ok (.iadd, 1) := by decide +kernel
theorem dX6_changeAll_69 : decode cX6_changeAll 69 = .ok (.putfield 128, 3) := by decide +kernel
theorem dX6_changeAll_72 : decode cX6_changeAll 72 = .ok (.goto (-45), 3) := by decide +kernel
theorem dX6_changeAll_75 : decode cX6_changeAll 75 = .ok (.aload_n 0, 1) := by decide +kernel
theorem dX6_changeAll_76 : decode cX6_changeAll 76 = .ok (.invokevirtual 42, 3) := by decide +kernel
theorem dX6_changeAll_79 : decode cX6_changeAll 79 = .ok (.iload_n 2, 1) := by decide +kernel
theorem dX6_changeAll_80 : decode cX6_changeAll 80 = .ok (.ireturn, 1) := by decide +kernel
theorem dX6_block_0 : decode cX6_block 0 = .ok (.iload_n 1, 1) := by decide +kernel
theorem dX6_block_1 : decode cX6_block 1 = .ok (.invokestatic 52, 3) := by decide +kernel
theorem dX6_block_4 : decode cX6_block 4 = .ok (.ifCond .ne 5, 3) := by decide +kernel
theorem dX6_block_7 : decode cX6_block 7 = .ok (.iconst (-1), 1) := by decide +kernel
theorem dX6_block_8 : decode cX6_block 8 = .ok (.ireturn, 1) := by decide +kernel
theorem dX6_block_9 : decode cX6_block 9 = .ok (.iload_n 2, 1) := by decide +kernel
theorem dX6_block_10 : decode cX6_block 10 = .ok (.ifCond .ne 15, 3) := by decide +kernel
theorem dX6_block_13 : decode cX6_block 13 = .ok (.aload_n 0, 1) := by decide +kernel
theorem dX6_block_14 : decode cX6_block 14 = .ok (.getfield 7, 3) := by decide +kernel
theorem dX6_block_17 : decode cX6_block 17 = .ok (.bipush 11, 2) := by decide +kernel
theorem dX6_block_19 : decode cX6_block 19 = .ok (.iload_n 1, 1) := by decide +kernel
theorem dX6_block_20 : decode cX6_block 20 = .ok (.iadd, 1) := by decide +kernel
theorem dX6_block_21 : decode cX6_block 21 = .ok (.iaload, 1) := by decide +kernel
theorem dX6_block_22 : decode cX6_block 22 = .ok (.goto 22, 3) := by decide +kernel
theorem dX6_block_25 : decode cX6_block 25 = .ok (.iload_n 2, 1) := by decide +kernel
theorem dX6_block_26 : decode cX6_block 26 = .ok (.iconst 1, 1) := by decide +kernel
theorem dX6_block_27 : decode cX6_block 27 = .ok (.if_icmp .ne 15, 3) := by decide +kernel
theorem dX6_block_30 : decode cX6_block 30 = .ok (.aload_n 0, 1) := by decide +kernel
theorem dX6_block_31 : decode cX6_block 31 = .ok (.getfield 7, 3) := by decide +kernel
theorem dX6_block_34 : decode cX6_block 34 = .ok (.bipush 59, 2) := by decide +kernel
theorem dX6_block_36 : decode cX6_block 36 = .ok (.iload_n 1, 1) := by decide +kernel
theorem dX6_block_37 : decode cX6_block 37 = .ok (.iadd, 1) := by decide +kernel
theorem dX6_block_38 : decode cX6_block 38 = .ok (.iaload, 1) := by decide +kernel
theorem dX6_block_39 : decode cX6_block 39 = .ok (.goto 5, 3) := by decide +kernel
theorem dX6_block_42 : decode cX6_block 42 = .ok (.bipush (-2), 2) := by decide +kernel
theorem dX6_block_44 : decode cX6_block 44 = .ok (.ireturn, 1) := by decide +kernel
theorem dX6_cellOf_0 : decode cX6_cellOf 0 = .ok (.iconst 0, 1) := by decide +kernel
theorem dX6_cellOf_1 : decode cX6_cellOf 1 = .ok (.istore_n 2, 1) := by decide +kernel
theorem dX6_cellOf_2 : decode cX6_cellOf 2 = .ok (.aload_n 0, 1) := by decide +kernel
theorem dX6_cellOf_3 : decode cX6_cellOf 3 = .ok (.getfield 7, 3) := by decide +kernel
theorem dX6_cellOf_6 : decode cX6_cellOf 6 = .ok (.bipush 11, 2) := by decide +kernel
theorem dX6_cellOf_8 : decode cX6_cellOf 8 = .ok (.iload_n 2, 1) := by decide +kernel
theorem dX6_cellOf_9 : decode cX6_cellOf 9 = .ok (.iadd, 1) := by decide +kernel
theorem dX6_cellOf_10 : decode cX6_cellOf 10 = .ok (.iaload, 1) := by decide +kernel
theorem dX6_cellOf_11 : decode cX6_cellOf 11 = .ok (.iload_n 1, 1) := by decide +kernel
theorem dX6_cellOf_12 : decode cX6_cellOf 12 = .ok (.if_icmp .eq 9, 3) := by decide +kernel
theorem dX6_cellOf_15 : decode cX6_cellOf 15 = .ok (.iinc 2 1, 3) := by decide +kernel
theorem dX6_cellOf_18 : decode cX6_cellOf 18 = .ok (.goto (-16), 3) := by decide +kernel
theorem dX6_cellOf_21 : decode cX6_cellOf 21 = .ok (.iload_n 2, 1) := by decide +kernel
theorem dX6_cellOf_22 : decode cX6_cellOf 22 = .ok (.ireturn, 1) := by decide +kernel
theorem dX6_placeOf_0 : decode cX6_placeOf 0 = .ok (.iconst 0, 1) := by decide +kernel
theorem dX6_placeOf_1 : decode cX6_placeOf 1 = .ok (.istore_n 2, 1) := by decide +kernel
theorem dX6_placeOf_2 : decode cX6_placeOf 2 = .ok (.iload_n 2, 1) := by decide +kernel
theorem dX6_placeOf_3 : decode cX6_placeOf 3 = .ok (.aload_n 0, 1) := by decide +kernel
theorem dX6_placeOf_4 : decode cX6_placeOf 4 = .ok (.getfield 7, 3) := by decide +kernel
theorem dX6_placeOf_7 : decode cX6_placeOf 7 = .ok (.bipush 7, 2) := by decide +kernel
theorem dX6_placeOf_9 : decode cX6_placeOf 9 = .ok (.iaload, 1) := by decide +kernel
theorem dX6_placeOf_10 : decode cX6_placeOf 10 = .ok (.if_icmp .ge 24, 3) := by decide +kernel
theorem dX6_placeOf_13 : decode cX6_placeOf 13 = .ok (.aload_n 0, 1) := by decide +kernel
theorem dX6_placeOf_14 : decode cX6_placeOf 14 = .ok (.getfield 7, 3) := by decide +kernel
theorem dX6_placeOf_17 : decode cX6_placeOf 17 = .ok (.bipush 83, 2) := by decide +kernel
theorem dX6_placeOf_19 : decode cX6_placeOf 19 = .ok (.iload_n 2, 1) := by decide +kernel
theorem dX6_placeOf_20 : decode cX6_placeOf 20 = .ok (.iadd, 1) := by decide +kernel
theorem dX6_placeOf_21 : decode cX6_placeOf 21 = .ok (.iaload, 1) := by decide +kernel
theorem dX6_placeOf_22 : decode cX6_placeOf 22 = .ok (.iload_n 1, 1) := by decide +kernel
theorem dX6_placeOf_23 : decode cX6_placeOf 23 = .ok (.if_icmp .ne 5, 3) := by decide +kernel
theorem dX6_placeOf_26 : decode cX6_placeOf 26 = .ok (.iload_n 2, 1) := by decide +kernel
theorem dX6_placeOf_27 : decode cX6_placeOf 27 = .ok (.ireturn, 1) := by decide +kernel
theorem dX6_placeOf_28 : decode cX6_placeOf 28 = .ok (.iinc 2 1, 3) := by decide +kernel
theorem dX6_placeOf_31 : decode cX6_placeOf 31 = .ok (.goto (-29), 3) := by decide +kernel
theorem dX6_placeOf_34 : decode cX6_placeOf 34 = .ok (.bipush (-5), 2) := by decide +kernel
theorem dX6_placeOf_36 : decode cX6_placeOf 36 = .ok (.ireturn, 1) := by decide +kernel
theorem dX6_cardOf_0 : decode cX6_cardOf 0 = .ok (.iload_n 1, 1) := by decide +kernel
theorem dX6_cardOf_1 : decode cX6_cardOf 1 = .ok (.invokestatic 52, 3) := by decide +kernel
theorem dX6_cardOf_4 : decode cX6_cardOf 4 = .ok (.ifCond .ne 5, 3) := by decide +kernel
theorem dX6_cardOf_7 : decode cX6_cardOf 7 = .ok (.iconst (-1), 1) := by decide +kernel
theorem dX6_cardOf_8 : decode cX6_cardOf 8 = .ok (.ireturn, 1) := by decide +kernel
theorem dX6_cardOf_9 : decode cX6_cardOf 9 = .ok (.iload_n 2, 1) := by decide +kernel
theorem dX6_cardOf_10 : decode cX6_cardOf 10 = .ok (.tableswitch 82 0 3 #[30, 36, 49, 55], 30) := by decide +kernel
theorem dX6_cardOf_40 : decode cX6_cardOf 40 = .ok (.aload_n 0, 1) := by decide +kernel
theorem dX6_cardOf_41 : decode cX6_cardOf 41 = .ok (.iload_n 1, 1) := by decide +kernel
theorem dX6_cardOf_42 : decode cX6_cardOf 42 = .ok (.invokevirtual 165, 3) := by decide +kernel
theorem dX6_cardOf_45 : decode cX6_cardOf 45 = .ok (.ireturn, 1) := by decide +kernel
theorem dX6_cardOf_46 : decode cX6_cardOf 46 = .ok (.aload_n 0, 1) := by decide +kernel
theorem dX6_cardOf_47 : decode cX6_cardOf 47 = .ok (.getfield 7, 3) := by decide +kernel
theorem dX6_cardOf_50 : decode cX6_cardOf 50 = .ok (.bipush 35, 2) := by decide +kernel
theorem dX6_cardOf_52 : decode cX6_cardOf 52 = .ok (.iload_n 1, 1) := by decide +kernel
theorem dX6_cardOf_53 : decode cX6_cardOf 53 = .ok (.iadd, 1) := by decide +kernel
theorem dX6_cardOf_54 : decode cX6_cardOf 54 = .ok (.iaload, 1) := by decide +kernel
theorem dX6_cardOf_55 : decode cX6_cardOf 55 = .ok (.bipush 100, 2) := by decide +kernel
theorem dX6_cardOf_57 : decode cX6_cardOf 57 = .ok (.iadd, 1) := by decide +kernel
theorem dX6_cardOf_58 : decode cX6_cardOf 58 = .ok (.ireturn, 1) := by decide +kernel
theorem dX6_cardOf_59 : decode cX6_cardOf 59 = .ok (.aload_n 0, 1) := by decide +kernel
theorem dX6_cardOf_60 : decode cX6_cardOf 60 = .ok (.iload_n 1, 1) := by decide +kernel
theorem dX6_cardOf_61 : decode cX6_cardOf 61 = .ok (.invokevirtual 168, 3) := by decide +kernel
theorem dX6_cardOf_64 : decode cX6_cardOf 64 = .ok (.ireturn, 1) := by decide +kernel
theorem dX6_cardOf_65 : decode cX6_cardOf 65 = .ok (.aload_n 0, 1) := by decide +kernel
theorem dX6_cardOf_66 : decode cX6_cardOf 66 = .ok (.getfield 7, 3) := by decide +kernel
theorem dX6_cardOf_69 : decode cX6_cardOf 69 = .ok (.bipush 6, 2) := by decide +kernel
theorem dX6_cardOf_71 : decode cX6_cardOf 71 = .ok (.iaload, 1) := by decide +kernel
theorem dX6_cardOf_72 : decode cX6_cardOf 72 = .ok (.iconst 1, 1) := by decide +kernel
theorem dX6_cardOf_73 : decode cX6_cardOf 73 = .ok (.if_icmp .ne 16, 3) := by decide +kernel
theorem dX6_cardOf_76 : decode cX6_cardOf 76 = .ok (.aload_n 0, 1) := by decide +kernel
theorem dX6_cardOf_77 : decode cX6_cardOf 77 = .ok (.getfield 7, 3) := by decide +kernel
theorem dX6_cardOf_80 : decode cX6_cardOf 80 = .ok (.sipush 131, 3) := by decide +kernel
theorem dX6_cardOf_83 : decode cX6_cardOf 83 = .ok (.iload_n 1, 1) := by decide +kernel
theorem dX6_cardOf_84 : decode cX6_cardOf 84 = .ok (.iadd, 1) := by decide +kernel
theorem dX6_cardOf_85 : decode cX6_cardOf 85 = .ok (.iaload, 1) := by decide +kernel
theorem dX6_cardOf_86 : decode cX6_cardOf 86 = .ok (.goto 5, 3) := by decide +kernel
theorem dX6_cardOf_89 : decode cX6_cardOf 89 = .ok (.bipush (-5), 2) := by decide +kernel
theorem dX6_cardOf_91 : decode cX6_cardOf 91 = .ok (.ireturn, 1) := by decide +kernel
theorem dX6_cardOf_92 : decode cX6_cardOf 92 = .ok (.bipush (-2), 2) := by decide +kernel
theorem dX6_cardOf_94 : decode cX6_cardOf 94 = .ok (.ireturn, 1) := by decide +kernel
theorem dX6_sheet_0 : decode cX6_sheet 0 = .ok (.iload_n 1, 1) := by decide +kernel
theorem dX6_sheet_1 : decode cX6_sheet 1 = .ok (.iconst 0, 1) := by decide +kernel
theorem dX6_sheet_2 : decode cX6_sheet 2 = .ok (.aload_n 0, 1) := by decide +kernel
theorem dX6_sheet_3 : decode cX6_sheet 3 = .ok (.getfield 7, 3) := by decide +kernel
theorem dX6_sheet_6 : decode cX6_sheet 6 = .ok (.iconst 5, 1) := by decide +kernel
theorem dX6_sheet_7 : decode cX6_sheet 7 = .ok (.iaload, 1) := by decide +kernel
theorem dX6_sheet_8 : decode cX6_sheet 8 = .ok (.iconst 1, 1) := by decide +kernel
theorem dX6_sheet_9 : decode cX6_sheet 9 = .ok (.isub, 1) := by decide +kernel
theorem dX6_sheet_10 : decode cX6_sheet 10 = .ok (.invokestatic 31, 3) := by decide +kernel
theorem dX6_sheet_13 : decode cX6_sheet 13 = .ok (.ifCond .eq 10, 3) := by decide +kernel
theorem dX6_sheet_16 : decode cX6_sheet 16 = .ok (.iload_n 2, 1) := by decide +kernel
theorem dX6_sheet_17 : decode cX6_sheet 17 = .ok (.invokestatic 52, 3) := by decide +kernel
theorem dX6_sheet_20 : decode cX6_sheet 20 = .ok (.ifCond .ne 5, 3) := by decide +kernel
theorem dX6_sheet_23 : decode cX6_sheet 23 = .ok (.iconst (-1), 1) := by decide +kernel
theorem dX6_sheet_24 : decode cX6_sheet 24 = .ok (.ireturn, 1) := by decide +kernel
theorem dX6_sheet_25 : decode cX6_sheet 25 = .ok (.iload_n 3, 1) := by decide +kernel
theorem dX6_sheet_26 : decode cX6_sheet 26 = .ok (.iconst 0, 1) := by decide +kernel
theorem dX6_sheet_27 : decode cX6_sheet 27 = .ok (.iconst 1, 1) := by decide +kernel
theorem dX6_sheet_28 : decode cX6_sheet 28 = .ok (.invokestatic 31, 3) := by decide +kernel
theorem dX6_sheet_31 : decode cX6_sheet 31 = .ok (.ifCond .ne 6, 3) := by decide +kernel
theorem dX6_sheet_34 : decode cX6_sheet 34 = .ok (.bipush (-2), 2) := by decide +kernel
theorem dX6_sheet_36 : decode cX6_sheet 36 = .ok (.ireturn, 1) := by decide +kernel
theorem dX6_sheet_37 : decode cX6_sheet 37 = .ok (.aload_n 0, 1) := by decide +kernel
theorem dX6_sheet_38 : decode cX6_sheet 38 = .ok (.getfield 7, 3) := by decide +kernel
theorem dX6_sheet_41 : decode cX6_sheet 41 = .ok (.aload_n 0, 1) := by decide +kernel
theorem dX6_sheet_42 : decode cX6_sheet 42 = .ok (.getfield 7, 3) := by decide +kernel
theorem dX6_sheet_45 : decode cX6_sheet 45 = .ok (.iconst 5, 1) := by decide +kernel
theorem dX6_sheet_46 : decode cX6_sheet 46 = .ok (.iaload, 1) := by decide +kernel
theorem dX6_sheet_47 : decode cX6_sheet 47 = .ok (.iconst 1, 1) := by decide +kernel
theorem dX6_sheet_48 : decode cX6_sheet 48 = .ok (.isub, 1) := by decide +kernel
theorem dX6_sheet_49 : decode cX6_sheet 49 = .ok (.iload_n 1, 1) := by decide +kernel
theorem dX6_sheet_50 : decode cX6_sheet 50 = .ok (.isub, 1) := by decide +kernel
theorem dX6_sheet_51 : decode cX6_sheet 51 = .ok (.invokestatic 77, 3) := by decide +kernel
theorem dX6_sheet_54 : decode cX6_sheet 54 = .ok (.bipush 48, 2) := by decide +kernel
theorem dX6_sheet_56 : decode cX6_sheet 56 = .ok (.iload_n 3, 1) := by decide +kernel
theorem dX6_sheet_57 : decode cX6_sheet 57 = .ok (.imul, 1) := by decide +kernel
theorem dX6_sheet_58 : decode cX6_sheet 58 = .ok (.iadd, 1) := by decide +kernel
theorem dX6_sheet_59 : decode cX6_sheet 59 = .ok (.iload_n 2, 1) := by decide +kernel
theorem dX6_sheet_60 : decode cX6_sheet 60 = .ok (.iadd, 1) := by decide +kernel
theorem dX6_sheet_61 : decode cX6_sheet 61 = .ok (.iaload, 1) := by decide +kernel
theorem dX6_sheet_62 : decode cX6_sheet 62 = .ok (.ireturn, 1) := by decide +kernel
theorem dX6_pack_0 : decode cX6_pack 0 = .ok (.iload_n 1, 1) := by decide +kernel
theorem dX6_pack_1 : decode cX6_pack 1 = .ok (.iconst 0, 1) := by decide +kernel
theorem dX6_pack_2 : decode cX6_pack 2 = .ok (.aload_n 0, 1) := by decide +kernel
theorem dX6_pack_3 : decode cX6_pack 3 = .ok (.getfield 7, 3) := by decide +kernel
theorem dX6_pack_6 : decode cX6_pack 6 = .ok (.bipush 7, 2) := by decide +kernel
theorem dX6_pack_8 : decode cX6_pack 8 = .ok (.iaload, 1) := by decide +kernel
theorem dX6_pack_9 : decode cX6_pack 9 = .ok (.iconst 1, 1) := by decide +kernel
theorem dX6_pack_10 : decode cX6_pack 10 = .ok (.isub, 1) := by decide +kernel
theorem dX6_pack_11 : decode cX6_pack 11 = .ok (.invokestatic 31, 3) := by decide +kernel
theorem dX6_pack_14 : decode cX6_pack 14 = .ok (.ifCond .ne 5, 3) := by decide +kernel
theorem dX6_pack_17 : decode cX6_pack 17 = .ok (.iconst (-1), 1) := by decide +kernel
theorem dX6_pack_18 : decode cX6_pack 18 = .ok (.ireturn, 1) := by decide +kernel
theorem dX6_pack_19 : decode cX6_pack 19 = .ok (.iload_n 2, 1) := by decide +kernel
theorem dX6_pack_20 : decode cX6_pack 20 = .ok (.tableswitch 87 0 4 #[36, 46, 52, 62, 68], 36) := by decide +kernel
theorem dX6_pack_56 : decode cX6_pack 56 = .ok (.aload_n 0, 1) := by decide +kernel
theorem dX6_pack_57 : decode cX6_pack 57 = .ok (.getfield 7, 3) := by decide +kernel
theorem dX6_pack_60 : decode cX6_pack 60 = .ok (.bipush 83, 2) := by decide +kernel
theorem dX6_pack_62 : decode cX6_pack 62 = .ok (.iload_n 1, 1) := by decide +kernel
theorem dX6_pack_63 : decode cX6_pack 63 = .ok (.iadd, 1) := by decide +kernel
theorem dX6_pack_64 : decode cX6_pack 64 = .ok (.iaload, 1) := by decide +kernel
theorem dX6_pack_65 : decode cX6_pack 65 = .ok (.ireturn, 1) := by decide +kernel
theorem dX6_pack_66 : decode cX6_pack 66 = .ok (.aload_n 0, 1) := by decide +kernel
theorem dX6_pack_67 : decode cX6_pack 67 = .ok (.iload_n 1, 1) := by decide +kernel
theorem dX6_pack_68 : decode cX6_pack 68 = .ok (.invokevirtual 101, 3) := by decide +kernel
theorem dX6_pack_71 : decode cX6_pack 71 = .ok (.ireturn, 1) := by decide +kernel
theorem dX6_pack_72 : decode cX6_pack 72 = .ok (.aload_n 0, 1) := by decide +kernel
theorem dX6_pack_73 : decode cX6_pack 73 = .ok (.aload_n 0, 1) := by decide +kernel
theorem dX6_pack_74 : decode cX6_pack 74 = .ok (.iload_n 1, 1) := by decide +kernel
theorem dX6_pack_75 : decode cX6_pack 75 = .ok (.invokevirtual 101, 3) := by decide +kernel
theorem dX6_pack_78 : decode cX6_pack 78 = .ok (.invokevirtual 104, 3) := by decide +kernel
theorem dX6_pack_81 : decode cX6_pack 81 = .ok (.ireturn, 1) := by decide +kernel
theorem dX6_pack_82 : decode cX6_pack 82 = .ok (.aload_n 0, 1) := by decide +kernel
theorem dX6_pack_83 : decode cX6_pack 83 = .ok (.iload_n 1, 1) := by decide +kernel
theorem dX6_pack_84 : decode cX6_pack 84 = .ok (.invokevirtual 107, 3) := by decide +kernel
theorem dX6_pack_87 : decode cX6_pack 87 = .ok (.ireturn, 1) := by decide +kernel
theorem dX6_pack_88 : decode cX6_pack 88 = .ok (.aload_n 0, 1) := by decide +kernel
theorem dX6_pack_89 : decode cX6_pack 89 = .ok (.aload_n 0, 1) := by decide +kernel
theorem dX6_pack_90 : decode cX6_pack 90 = .ok (.iload_n 1, 1) := by decide +kernel
theorem dX6_pack_91 : decode cX6_pack 91 = .ok (.invokevirtual 101, 3) := by decide +kernel
theorem dX6_pack_94 : decode cX6_pack 94 = .ok (.invokevirtual 104, 3) := by decide +kernel
theorem dX6_pack_97 : decode cX6_pack 97 = .ok (.iconst 1, 1) := by decide +kernel
theorem dX6_pack_98 : decode cX6_pack 98 = .ok (.if_icmp .ne 7, 3) := by decide +kernel
theorem dX6_pack_101 : decode cX6_pack 101 = .ok (.iconst 1, 1) := by decide +kernel
theorem dX6_pack_102 : decode cX6_pack 102 = .ok (.goto 4, 3) := by decide +kernel
theorem dX6_pack_105 : decode cX6_pack 105 = .ok (.iconst 0, 1) := by decide +kernel
theorem dX6_pack_106 : decode cX6_pack 106 = .ok (.ireturn, 1) := by decide +kernel
theorem dX6_pack_107 : decode cX6_pack 107 = .ok (.bipush (-2), 2) := by decide +kernel
theorem dX6_pack_109 : decode cX6_pack 109 = .ok (.ireturn, 1) := by decide +kernel
theorem dX6_marksOfBacks_0 : decode cX6_marksOfBacks 0 = .ok (.iconst 0, 1) := by decide +kernel
theorem dX6_marksOfBacks_1 : decode cX6_marksOfBacks 1 = .ok (.istore_n 1, 1) := by decide +kernel
theorem dX6_marksOfBacks_2 : decode cX6_marksOfBacks 2 = .ok (.iconst 0, 1) := by decide +kernel
theorem dX6_marksOfBacks_3 : decode cX6_marksOfBacks 3 = .ok (.istore_n 2, 1) := by decide +kernel
theorem dX6_marksOfBacks_4 : decode cX6_marksOfBacks 4 = .ok (.iload_n 2, 1) := by decide +kernel
theorem dX6_marksOfBacks_5 : decode cX6_marksOfBacks 5 = .ok (.bipush 24, 2) := by decide +kernel
theorem dX6_marksOfBacks_7 : decode cX6_marksOfBacks 7 = .ok (.if_icmp .ge 24, 3) := by decide +kernel
theorem dX6_marksOfBacks_10 : decode cX6_marksOfBacks 10 = .ok (.iload_n 1, 1) := by decide +kernel
theorem dX6_marksOfBacks_11 : decode cX6_marksOfBacks 11 = .ok (.aload_n 0, 1) := by decide +kernel
theorem dX6_marksOfBacks_12 : decode cX6_marksOfBacks 12 = .ok (.getfield 7, 3) := by decide +kernel
theorem dX6_marksOfBacks_15 : decode cX6_marksOfBacks 15 = .ok (.bipush 59, 2) := by decide +kernel
theorem dX6_marksOfBacks_17 : decode cX6_marksOfBacks 17 = .ok (.iload_n 2, 1) := by decide +kernel
theorem dX6_marksOfBacks_18 : decode cX6_marksOfBacks 18 = .ok (.iadd, 1) := by decide +kernel
theorem dX6_marksOfBacks_19 : decode cX6_marksOfBacks 19 = .ok (.iaload, 1) := by decide +kernel
theorem dX6_marksOfBacks_20 : decode cX6_marksOfBacks 20 = .ok (.invokestatic 171, 3) := by decide +kernel
theorem dX6_marksOfBacks_23 : decode cX6_marksOfBacks 23 = .ok (.iadd, 1) := by decide +kernel
theorem dX6_marksOfBacks_24 : decode cX6_marksOfBacks 24 = .ok (.istore_n 1, 1) := by decide +kernel
theorem dX6_marksOfBacks_25 : decode cX6_marksOfBacks 25 = .ok (.iinc 2 1, 3) := by decide +kernel
theorem dX6_marksOfBacks_28 : decode cX6_marksOfBacks 28 = .ok (.goto (-24), 3) := by decide +kernel
theorem dX6_marksOfBacks_31 : decode cX6_marksOfBacks 31 = .ok (.iload_n 1, 1) := by decide +kernel
theorem dX6_marksOfBacks_32 : decode cX6_marksOfBacks 32 = .ok (.ireturn, 1) := by decide +kernel
theorem dX6_count_0 : decode cX6_count 0 = .ok (.iload_n 1, 1) := by decide +kernel
theorem dX6_count_1 : decode cX6_count 1 = .ok (.tableswitch 200 0 17 #[87, 94, 101, 109, 117, 143, 148, 153, 153, 153, 166, 171, 178, 183, 188, 188, 188, 188], 87) := by decide +kernel
theorem dX6_count_88 : decode cX6_count 88 = .ok (.aload_n 0, 1) := by decide +kernel
theorem dX6_count_89 : decode cX6_count 89 = .ok (.getfield 7, 3) := by decide +kernel
theorem dX6_count_92 : decode cX6_count 92 = .ok (.iconst 5, 1) := by decide +kernel
theorem dX6_count_93 : decode cX6_count 93 = .ok (.iaload, 1) := by decide +kernel
theorem dX6_count_94 : decode cX6_count 94 = .ok (.ireturn, 1) := by decide +kernel
theorem dX6_count_95 : decode cX6_count 95 = .ok (.aload_n 0, 1) := by decide +kernel
theorem dX6_count_96 : decode cX6_count 96 = .ok (.getfield 7, 3) := by decide +kernel
theorem dX6_count_99 : decode cX6_count 99 = .ok (.iconst 4, 1) := by decide +kernel
theorem dX6_count_100 : decode cX6_count 100 = .ok (.iaload, 1) := by decide +kernel
theorem dX6_count_101 : decode cX6_count 101 = .ok (.ireturn, 1) := by decide +kernel
theorem dX6_count_102 : decode cX6_count 102 = .ok (.aload_n 0, 1) := by decide +kernel
theorem dX6_count_103 : decode cX6_count 103 = .ok (.getfield 7, 3) := by decide +kernel
theorem dX6_count_106 : decode cX6_count 106 = .ok (.bipush 6, 2) := by decide +kernel
theorem dX6_count_108 : decode cX6_count 108 = .ok (.iaload, 1) := by decide +kernel
theorem dX6_count_109 : decode cX6_count 109 = .ok (.ireturn, 1) := by decide +kernel
theorem dX6_count_110 : decode cX6_count 110 = .ok (.aload_n 0, 1) := by decide +kernel
theorem dX6_count_111 : decode cX6_count 111 = .ok (.getfield 7, 3) := by decide +kernel
theorem dX6_count_114 : decode cX6_count 114 = .ok (.bipush 7, 2) := by decide +kernel
theorem dX6_count_116 : decode cX6_count 116 = .ok (.iaload, 1) := by decide +kernel
theorem dX6_count_117 : decode cX6_count 117 = .ok (.ireturn, 1) := by decide +kernel
theorem dX6_count_118 : decode cX6_count 118 = .ok (.aload_n 0, 1) := by decide +kernel
theorem dX6_count_119 : decode cX6_count 119 = .ok (.getfield 7, 3) := by decide +kernel
theorem dX6_count_122 : decode cX6_count 122 = .ok (.bipush 6, 2) := by decide +kernel
theorem dX6_count_124 : decode cX6_count 124 = .ok (.iaload, 1) := by decide +kernel
theorem dX6_count_125 : decode cX6_count 125 = .ok (.iconst 1, 1) := by decide +kernel
theorem dX6_count_126 : decode cX6_count 126 = .ok (.if_icmp .ne 16, 3) := by decide +kernel
theorem dX6_count_129 : decode cX6_count 129 = .ok (.bipush 24, 2) := by decide +kernel
theorem dX6_count_131 : decode cX6_count 131 = .ok (.aload_n 0, 1) := by decide +kernel
theorem dX6_count_132 : decode cX6_count 132 = .ok (.getfield 7, 3) := by decide +kernel
theorem dX6_count_135 : decode cX6_count 135 = .ok (.bipush 7, 2) := by decide +kernel
theorem dX6_count_137 : decode cX6_count 137 = .ok (.iaload, 1) := by decide +kernel
theorem dX6_count_138 : decode cX6_count 138 = .ok (.isub, 1) := by decide +kernel
theorem dX6_count_139 : decode cX6_count 139 = .ok (.goto 4, 3) := by decide +kernel
theorem dX6_count_142 : decode cX6_count 142 = .ok (.iconst 0, 1) := by decide +kernel
theorem dX6_count_143 : decode cX6_count 143 = .ok (.ireturn, 1) := by decide +kernel
theorem dX6_count_144 : decode cX6_count 144 = .ok (.aload_n 0, 1) := by decide +kernel
theorem dX6_count_145 : decode cX6_count 145 = .ok (.invokevirtual 116, 3) := by decide +kernel
theorem dX6_count_148 : decode cX6_count 148 = .ok (.ireturn, 1) := by decide +kernel
theorem dX6_count_149 : decode cX6_count 149 = .ok (.aload_n 0, 1) := by decide +kernel
theorem dX6_count_150 : decode cX6_count 150 = .ok (.invokevirtual 174, 3) := by decide +kernel
theorem dX6_count_153 : decode cX6_count 153 = .ok (.ireturn, 1) := by decide +kernel
theorem dX6_count_154 : decode cX6_count 154 = .ok (.aload_n 0, 1) := by decide +kernel
theorem dX6_count_155 : decode cX6_count 155 = .ok (.getfield 7, 3) := by decide +kernel
theorem dX6_count_158 : decode cX6_count 158 = .ok (.bipush 8, 2) := by decide +kernel
theorem dX6_count_160 : decode cX6_count 160 = .ok (.iload_n 1, 1) := by decide +kernel
theorem dX6_count_161 : decode cX6_count 161 = .ok (.iadd, 1) := by decide +kernel
theorem dX6_count_162 : decode cX6_count 162 = .ok (.bipush 7, 2) := by decide +kernel
theorem dX6_count_164 : decode cX6_count 164 = .ok (.isub, 1) := by decide +kernel
theorem dX6_count_165 : decode cX6_count 165 = .ok (.iaload, 1) := by decide +kernel
theorem dX6_count_166 : decode cX6_count 166 = .ok (.ireturn, 1) := by decide +kernel
theorem dX6_count_167 : decode cX6_count 167 = .ok (.aload_n 0, 1) := by decide +kernel
theorem dX6_count_168 : decode cX6_count 168 = .ok (.invokevirtual 177, 3) := by decide +kernel
theorem dX6_count_171 : decode cX6_count 171 = .ok (.ireturn, 1) := by decide +kernel
theorem dX6_count_172 : decode cX6_count 172 = .ok (.aload_n 0, 1) := by decide +kernel
theorem dX6_count_173 : decode cX6_count 173 = .ok (.bipush 35, 2) := by decide +kernel
theorem dX6_count_175 : decode cX6_count 175 = .ok (.invokevirtual 113, 3) := by decide +kernel
theorem dX6_count_178 : decode cX6_count 178 = .ok (.ireturn, 1) := by decide +kernel
theorem dX6_count_179 : decode cX6_count 179 = .ok (.aload_n 0, 1) := by decide +kernel
theorem dX6_count_180 : decode cX6_count 180 = .ok (.getfield 35, 3) := by decide +kernel
theorem dX6_count_183 : decode cX6_count 183 = .ok (.ireturn, 1) := by decide +kernel
theorem dX6_count_184 : decode cX6_count 184 = .ok (.aload_n 0, 1) := by decide +kernel
theorem dX6_count_185 : decode cX6_count 185 = .ok (.getfield 125, 3) := by decide +kernel
theorem dX6_count_188 : decode cX6_count 188 = .ok (.ireturn, 1) := by decide +kernel
theorem dX6_count_189 : decode cX6_count 189 = .ok (.aload_n 0, 1) := by decide +kernel
theorem dX6_count_190 : decode cX6_count 190 = .ok (.getfield 7, 3) := by decide +kernel
theorem dX6_count_193 : decode cX6_count 193 = .ok (.iconst 0, 1) := by decide +kernel
theorem dX6_count_194 : decode cX6_count 194 = .ok (.iload_n 1, 1) := by decide +kernel
theorem dX6_count_195 : decode cX6_count 195 = .ok (.iadd, 1) := by decide +kernel
theorem dX6_count_196 : decode cX6_count 196 = .ok (.bipush 14, 2) := by decide +kernel
theorem dX6_count_198 : decode cX6_count 198 = .ok (.isub, 1) := by decide +kernel
theorem dX6_count_199 : decode cX6_count 199 = .ok (.iaload, 1) := by decide +kernel
theorem dX6_count_200 : decode cX6_count 200 = .ok (.ireturn, 1) := by decide +kernel
theorem dX6_count_201 : decode cX6_count 201 = .ok (.bipush (-2), 2) := by decide +kernel
theorem dX6_count_203 : decode cX6_count 203 = .ok (.ireturn, 1) := by decide +kernel
theorem dX6_why_0 : decode cX6_why 0 = .ok (.aload_n 0, 1) := by decide +kernel
theorem dX6_why_1 : decode cX6_why 1 = .ok (.getfield 7, 3) := by decide +kernel
theorem dX6_why_4 : decode cX6_why 4 = .ok (.bipush 6, 2) := by decide +kernel
theorem dX6_why_6 : decode cX6_why 6 = .ok (.iaload, 1) := by decide +kernel
theorem dX6_why_7 : decode cX6_why 7 = .ok (.iconst 1, 1) := by decide +kernel
theorem dX6_why_8 : decode cX6_why 8 = .ok (.if_icmp .ne 10, 3) := by decide +kernel
theorem dX6_why_11 : decode cX6_why 11 = .ok (.aload_n 0, 1) := by decide +kernel
theorem dX6_why_12 : decode cX6_why 12 = .ok (.invokevirtual 119, 3) := by decide +kernel
theorem dX6_why_15 : decode cX6_why 15 = .ok (.goto 5, 3) := by decide +kernel
theorem dX6_why_18 : decode cX6_why 18 = .ok (.bipush (-4), 2) := by decide +kernel
theorem dX6_why_20 : decode cX6_why 20 = .ok (.ireturn, 1) := by decide +kernel
theorem dX6_chances_0 : decode cX6_chances 0 = .ok (.aload_n 0, 1) := by decide +kernel
theorem dX6_chances_1 : decode cX6_chances 1 = .ok (.getfield 7, 3) := by decide +kernel
theorem dX6_chances_4 : decode cX6_chances 4 = .ok (.bipush 6, 2) := by decide +kernel
theorem dX6_chances_6 : decode cX6_chances 6 = .ok (.iaload, 1) := by decide +kernel
theorem dX6_chances_7 : decode cX6_chances 7 = .ok (.ifCond .ne 6, 3) := by decide +kernel
theorem dX6_chances_10 : decode cX6_chances 10 = .ok (.ldc 180, 2) := by decide +kernel
theorem dX6_chances_12 : decode cX6_chances 12 = .ok (.freturn, 1) := by decide +kernel
theorem dX6_chances_13 : decode cX6_chances 13 = .ok (.fconst 0, 1) := by decide +kernel
theorem dX6_chances_14 : decode cX6_chances 14 = .ok (.fstore_n 1, 1) := by decide +kernel
theorem dX6_chances_15 : decode cX6_chances 15 = .ok (.iconst 0, 1) := by decide +kernel
theorem dX6_chances_16 : decode cX6_chances 16 = .ok (.istore_n 2, 1) := by decide +kernel
theorem dX6_chances_17 : decode cX6_chances 17 = .ok (.iload_n 2, 1) := by decide +kernel
theorem dX6_chances_18 : decode cX6_chances 18 = .ok (.aload_n 0, 1) := by decide +kernel
theorem dX6_chances_19 : decode cX6_chances 19 = .ok (.getfield 7, 3) := by decide +kernel
theorem dX6_chances_22 : decode cX6_chances 22 = .ok (.bipush 7, 2) := by decide +kernel
theorem dX6_chances_24 : decode cX6_chances 24 = .ok (.iaload, 1) := by decide +kernel
theorem dX6_chances_25 : decode cX6_chances 25 = .ok (.if_icmp .ge 24, 3) := by decide +kernel
theorem dX6_chances_28 : decode cX6_chances 28 = .ok (.fload_n 1, 1) := by decide +kernel
theorem dX6_chances_29 : decode cX6_chances 29 = .ok (.fconst 1, 1) := by decide +kernel
theorem dX6_chances_30 : decode cX6_chances 30 = .ok (.aload_n 0, 1) := by decide +kernel
theorem dX6_chances_31 : decode cX6_chances 31 = .ok (.aload_n 0, 1) := by decide +kernel
theorem dX6_chances_32 : decode cX6_chances 32 = .ok (.iload_n 2, 1) := by decide +kernel
theorem dX6_chances_33 : decode cX6_chances 33 = .ok (.invokevirtual 101, 3) := by decide +kernel
theorem dX6_chances_36 : decode cX6_chances 36 = .ok (.invokevirtual 104, 3) := by decide +kernel
theorem dX6_chances_39 : decode cX6_chances 39 = .ok (.i2f, 1) := by decide +kernel
theorem dX6_chances_40 : decode cX6_chances 40 = .ok (.fdiv, 1) := by decide +kernel
theorem dX6_chances_41 : decode cX6_chances 41 = .ok (.fadd, 1) := by decide +kernel
theorem dX6_chances_42 : decode cX6_chances 42 = .ok (.fstore_n 1, 1) := by decide +kernel
theorem dX6_chances_43 : decode cX6_chances 43 = .ok (.iinc 2 1, 3) := by decide +kernel
theorem dX6_chances_46 : decode cX6_chances 46 = .ok (.goto (-29), 3) := by decide +kernel
theorem dX6_chances_49 : decode cX6_chances 49 = .ok (.fload_n 1, 1) := by decide +kernel
theorem dX6_chances_50 : decode cX6_chances 50 = .ok (.freturn, 1) := by decide +kernel
theorem dX6_single_0 : decode cX6_single 0 = .ok (.iconst 0, 1) := by decide +kernel
theorem dX6_single_1 : decode cX6_single 1 = .ok (.istore_n 1, 1) := by decide +kernel
theorem dX6_single_2 : decode cX6_single 2 = .ok (.iconst 0, 1) := by decide +kernel
theorem dX6_single_3 : decode cX6_single 3 = .ok (.istore_n 2, 1) := by decide +kernel
theorem dX6_single_4 : decode cX6_single 4 = .ok (.iload_n 2, 1) := by decide +kernel
theorem dX6_single_5 : decode cX6_single 5 = .ok (.bipush 24, 2) := by decide +kernel
theorem dX6_single_7 : decode cX6_single 7 = .ok (.if_icmp .ge 64, 3) := by decide +kernel
theorem dX6_single_10 : decode cX6_single 10 = .ok (.iconst 0, 1) := by decide +kernel
theorem dX6_single_11 : decode cX6_single 11 = .ok (.istore_n 3, 1) := by decide +kernel
theorem dX6_single_12 : decode cX6_single 12 = .ok (.iconst 0, 1) := by decide +kernel
theorem dX6_single_13 : decode cX6_single 13 = .ok (.istore 4, 2) := by decide +kernel
theorem dX6_single_15 : decode cX6_single 15 = .ok (.iload 4, 2) := by decide +kernel
theorem dX6_single_17 : decode cX6_single 17 = .ok (.bipush 24, 2) := by decide +kernel
theorem dX6_single_19 : decode cX6_single 19 = .ok (.if_icmp .ge 33, 3) := by decide +kernel
theorem dX6_single_22 : decode cX6_single 22 = .ok (.iload_n 3, 1) := by decide +kernel
theorem dX6_single_23 : decode cX6_single 23 = .ok (.aload_n 0, 1) := by decide +kernel
theorem dX6_single_24 : decode cX6_single 24 = .ok (.getfield 28, 3) := by decide +kernel
theorem dX6_single_27 : decode cX6_single 27 = .ok (.iload_n 2, 1) := by decide +kernel
theorem dX6_single_28 : decode cX6_single 28 = .ok (.iaload, 1) := by decide +kernel
theorem dX6_single_29 : decode cX6_single 29 = .ok (.aload_n 0, 1) := by decide +kernel
theorem dX6_single_30 : decode cX6_single 30 = .ok (.getfield 28, 3) := by decide +kernel
theorem dX6_single_33 : decode cX6_single 33 = .ok (.iload 4, 2) := by decide +kernel
theorem dX6_single_35 : decode cX6_single 35 = .ok (.iaload, 1) := by decide +kernel
theorem dX6_single_36 : decode cX6_single 36 = .ok (.if_icmp .ne 7, 3) := by decide +kernel
theorem dX6_single_39 : decode cX6_single 39 = .ok (.iconst 1, 1) := by decide +kernel
theorem dX6_single_40 : decode cX6_single 40 = .ok (.goto 4, 3) := by decide +kernel
theorem dX6_single_43 : decode cX6_single 43 = .ok (.iconst 0, 1) := by decide +kernel
theorem dX6_single_44 : decode cX6_single 44 = .ok (.iadd, 1) := by decide +kernel
theorem dX6_single_45 : decode cX6_single 45 = .ok (.istore_n 3, 1) := by decide +kernel
theorem dX6_single_46 : decode cX6_single 46 = .ok (.iinc 4 1, 3) := by decide +kernel
theorem dX6_single_49 : decode cX6_single 49 = .ok (.goto (-34), 3) := by decide +kernel
theorem dX6_single_52 : decode cX6_single 52 = .ok (.iload_n 1, 1) := by decide +kernel
theorem dX6_single_53 : decode cX6_single 53 = .ok (.iload_n 3, 1) := by decide +kernel
theorem dX6_single_54 : decode cX6_single 54 = .ok (.iconst 1, 1) := by decide +kernel
theorem dX6_single_55 : decode cX6_single 55 = .ok (.if_icmp .ne 7, 3) := by decide +kernel
theorem dX6_single_58 : decode cX6_single 58 = .ok (.iconst 1, 1) := by decide +kernel
theorem dX6_single_59 : decode cX6_single 59 = .ok (.goto 4, 3) := by decide +kernel
theorem dX6_single_62 : decode cX6_single 62 = .ok (.iconst 0, 1) := by decide +kernel
theorem dX6_single_63 : decode cX6_single 63 = .ok (.iadd, 1) := by decide +kernel
theorem dX6_single_64 : decode cX6_single 64 = .ok (.istore_n 1, 1) := by decide +kernel
theorem dX6_single_65 : decode cX6_single 65 = .ok (.iinc 2 1, 3) := by decide +kernel
theorem dX6_single_68 : decode cX6_single 68 = .ok (.goto (-64), 3) := by decide +kernel
theorem dX6_single_71 : decode cX6_single 71 = .ok (.iload_n 1, 1) := by decide +kernel
theorem dX6_single_72 : decode cX6_single 72 = .ok (.ireturn, 1) := by decide +kernel
theorem dX6_see_0 : decode cX6_see 0 = .ok (.iconst 0, 1) := by decide +kernel
theorem dX6_see_1 : decode cX6_see 1 = .ok (.istore_n 2, 1) := by decide +kernel
theorem dX6_see_2 : decode cX6_see 2 = .ok (.iload_n 2, 1) := by decide +kernel
theorem dX6_see_3 : decode cX6_see 3 = .ok (.bipush 24, 2) := by decide +kernel
theorem dX6_see_5 : decode cX6_see 5 = .ok (.if_icmp .ge 21, 3) := by decide +kernel
theorem dX6_see_8 : decode cX6_see 8 = .ok (.aload_n 0, 1) := by decide +kernel
theorem dX6_see_9 : decode cX6_see 9 = .ok (.getfield 28, 3) := by decide +kernel
theorem dX6_see_12 : decode cX6_see 12 = .ok (.iload_n 2, 1) := by decide +kernel
theorem dX6_see_13 : decode cX6_see 13 = .ok (.aload_n 0, 1) := by decide +kernel
theorem dX6_see_14 : decode cX6_see 14 = .ok (.iload_n 2, 1) := by decide +kernel
theorem dX6_see_15 : decode cX6_see 15 = .ok (.iload_n 1, 1) := by decide +kernel
theorem dX6_see_16 : decode cX6_see 16 = .ok (.invokevirtual 84, 3) := by decide +kernel
theorem dX6_see_19 : decode cX6_see 19 = .ok (.iastore, 1) := by decide +kernel
theorem dX6_see_20 : decode cX6_see 20 = .ok (.iinc 2 1, 3) := by decide +kernel
theorem dX6_see_23 : decode cX6_see 23 = .ok (.goto (-21), 3) := by decide +kernel
theorem dX6_see_26 : decode cX6_see 26 = .ok (.return_, 1) := by decide +kernel
theorem dX6_ifPrinted_0 : decode cX6_ifPrinted 0 = .ok (.aload_n 0, 1) := by decide +kernel
theorem dX6_ifPrinted_1 : decode cX6_ifPrinted 1 = .ok (.iload_n 1, 1) := by decide +kernel
theorem dX6_ifPrinted_2 : decode cX6_ifPrinted 2 = .ok (.invokevirtual 181, 3) := by decide +kernel
theorem dX6_ifPrinted_5 : decode cX6_ifPrinted 5 = .ok (.aload_n 0, 1) := by decide +kernel
theorem dX6_ifPrinted_6 : decode cX6_ifPrinted 6 = .ok (.invokevirtual 185, 3) := by decide +kernel
theorem dX6_ifPrinted_9 : decode cX6_ifPrinted 9 = .ok (.ireturn, 1) := by decide +kernel
theorem dX6_worstFlaw_0 : decode cX6_worstFlaw 0 = .ok (.iload_n 1, 1) := by decide +kernel
theorem dX6_worstFlaw_1 : decode cX6_worstFlaw 1 = .ok (.iconst 0, 1) := by decide +kernel
theorem dX6_worstFlaw_2 : decode cX6_worstFlaw 2 = .ok (.iconst 1, 1) := by decide +kernel
theorem dX6_worstFlaw_3 : decode cX6_worstFlaw 3 = .ok (.invokestatic 31, 3) := by decide +kernel
theorem dX6_worstFlaw_6 : decode cX6_worstFlaw 6 = .ok (.ifCond .ne 6, 3) := by decide +kernel
theorem dX6_worstFlaw_9 : decode cX6_worstFlaw 9 = .ok (.bipush (-2), 2) := by decide +kernel
theorem dX6_worstFlaw_11 : decode cX6_worstFlaw 11 = .ok (.ireturn, 1) := by decide +kernel
theorem dX6_worstFlaw_12 : decode cX6_worstFlaw 12 = .ok (.bipush (-5), 2) := by decide +kernel
theorem dX6_worstFlaw_14 : decode cX6_worstFlaw 14 = .ok (.istore_n 2, 1) := by decide +kernel
theorem dX6_worstFlaw_15 : decode cX6_worstFlaw 15 = .ok (.iconst 0, 1) := by decide +kernel
theorem dX6_worstFlaw_16 : decode cX6_worstFlaw 16 = .ok (.istore_n 3, 1) := by decide +kernel
theorem dX6_worstFlaw_17 : decode cX6_worstFlaw 17 = .ok (.iconst 0, 1) := by decide +kernel
theorem dX6_worstFlaw_18 : decode cX6_worstFlaw 18 = .ok (.istore 4, 2) := by decide +kernel
theorem dX6_worstFlaw_20 : decode cX6_worstFlaw 20 = .ok (.iload 4, 2) := by decide +kernel
theorem dX6_worstFlaw_22 : decode cX6_worstFlaw 22 = .ok (.bipush 24, 2) := by decide +kernel
theorem dX6_worstFlaw_24 : decode cX6_worstFlaw 24 = .ok (.if_icmp .ge 69, 3) := by decide +kernel
theorem dX6_worstFlaw_27 : decode cX6_worstFlaw 27 = .ok (.aload_n 0, 1) := by decide +kernel
theorem dX6_worstFlaw_28 : decode cX6_worstFlaw 28 = .ok (.iconst 0, 1) := by decide +kernel
theorem dX6_worstFlaw_29 : decode cX6_worstFlaw 29 = .ok (.invokevirtual 181, 3) := by decide +kernel
theorem dX6_worstFlaw_32 : decode cX6_worstFlaw 32 = .ok (.aload_n 0, 1) := by decide +kernel
theorem dX6_worstFlaw_33 : decode cX6_worstFlaw 33 = .ok (.getfield 28, 3) := by decide +kernel
theorem dX6_worstFlaw_36 : decode cX6_worstFlaw 36 = .ok (.iload 4, 2) := by decide +kernel
theorem dX6_worstFlaw_38 : decode cX6_worstFlaw 38 = .ok (.iconst 0, 1) := by decide +kernel
theorem dX6_worstFlaw_39 : decode cX6_worstFlaw 39 = .ok (.iastore, 1) := by decide +kernel
theorem dX6_worstFlaw_40 : decode cX6_worstFlaw 40 = .ok (.iload_n 2, 1) := by decide +kernel
theorem dX6_worstFlaw_41 : decode cX6_worstFlaw 41 = .ok (.bipush (-5), 2) := by decide +kernel
theorem dX6_worstFlaw_43 : decode cX6_worstFlaw 43 = .ok (.if_icmp .eq 11, 3) := by decide +kernel
theorem dX6_worstFlaw_46 : decode cX6_worstFlaw 46 = .ok (.aload_n 0, 1) := by decide +kernel
theorem dX6_worstFlaw_47 : decode cX6_worstFlaw 47 = .ok (.invokevirtual 185, 3) := by decide +kernel
theorem dX6_worstFlaw_50 : decode cX6_worstFlaw 50 = .ok (.iload_n 3, 1) := by decide +kernel
theorem dX6_worstFlaw_51 : decode cX6_worstFlaw 51 = .ok (.if_icmp .ge 7, 3) := by decide +kernel
theorem dX6_worstFlaw_54 : decode cX6_worstFlaw 54 = .ok (.iconst 1, 1) := by decide +kernel
theorem dX6_worstFlaw_55 : decode cX6_worstFlaw 55 = .ok (.goto 4, 3) := by decide +kernel
theorem dX6_worstFlaw_58 : decode cX6_worstFlaw 58 = .ok (.iconst 0, 1) := by decide +kernel
theorem dX6_worstFlaw_59 : decode cX6_worstFlaw 59 = .ok (.istore 5, 2) := by decide +kernel
theorem dX6_worstFlaw_61 : decode cX6_worstFlaw 61 = .ok (.iload 5, 2) := by decide +kernel
theorem dX6_worstFlaw_63 : decode cX6_worstFlaw 63 = .ok (.ifCond .eq 8, 3) := by decide +kernel
theorem dX6_worstFlaw_66 : decode cX6_worstFlaw 66 = .ok (.iload 4, 2) := by decide +kernel
theorem dX6_worstFlaw_68 : decode cX6_worstFlaw 68 = .ok (.goto 4, 3) := by decide +kernel
theorem dX6_worstFlaw_71 : decode cX6_worstFlaw 71 = .ok (.iload_n 2, 1) := by decide +kernel
theorem dX6_worstFlaw_72 : decode cX6_worstFlaw 72 = .ok (.istore_n 2, 1) := by decide +kernel
theorem dX6_worstFlaw_73 : decode cX6_worstFlaw 73 = .ok (.iload 5, 2) := by decide +kernel
theorem dX6_worstFlaw_75 : decode cX6_worstFlaw 75 = .ok (.ifCond .eq 10, 3) := by decide +kernel
theorem dX6_worstFlaw_78 : decode cX6_worstFlaw 78 = .ok (.aload_n 0, 1) := by decide +kernel
theorem dX6_worstFlaw_79 : decode cX6_worstFlaw 79 = .ok (.invokevirtual 185, 3) := by decide +kernel
theorem dX6_worstFlaw_82 : decode cX6_worstFlaw 82 = .ok (.goto 4, 3) := by decide +kernel
theorem dX6_worstFlaw_85 : decode cX6_worstFlaw 85 = .ok (.iload_n 3, 1) := by decide +kernel
theorem dX6_worstFlaw_86 : decode cX6_worstFlaw 86 = .ok (.istore_n 3, 1) := by decide +kernel
theorem dX6_worstFlaw_87 : decode cX6_worstFlaw 87 = .ok (.iinc 4 1, 3) := by decide +kernel
theorem dX6_worstFlaw_90 : decode cX6_worstFlaw 90 = .ok (.goto (-70), 3) := by decide +kernel
theorem dX6_worstFlaw_93 : decode cX6_worstFlaw 93 = .ok (.iload_n 1, 1) := by decide +kernel
theorem dX6_worstFlaw_94 : decode cX6_worstFlaw 94 = .ok (.ifCond .ne 7, 3) := by decide +kernel
theorem dX6_worstFlaw_97 : decode cX6_worstFlaw 97 = .ok (.iload_n 2, 1) := by decide +kernel
theorem dX6_worstFlaw_98 : decode cX6_worstFlaw 98 = .ok (.goto 4, 3) := by decide +kernel
theorem dX6_worstFlaw_101 : decode cX6_worstFlaw 101 = .ok (.iload_n 3, 1) := by decide +kernel
theorem dX6_worstFlaw_102 : decode cX6_worstFlaw 102 = .ok (.ireturn, 1) := by decide +kernel
theorem dX6_atHome_0 : decode cX6_atHome 0 = .ok (.iconst 0, 1) := by decide +kernel
theorem dX6_atHome_1 : decode cX6_atHome 1 = .ok (.istore_n 2, 1) := by decide +kernel
theorem dX6_atHome_2 : decode cX6_atHome 2 = .ok (.iconst 0, 1) := by decide +kernel
theorem dX6_atHome_3 : decode cX6_atHome 3 = .ok (.istore_n 3, 1) := by decide +kernel
theorem dX6_atHome_4 : decode cX6_atHome 4 = .ok (.iload_n 3, 1) := by decide +kernel
theorem dX6_atHome_5 : decode cX6_atHome 5 = .ok (.bipush 24, 2) := by decide +kernel
theorem dX6_atHome_7 : decode cX6_atHome 7 = .ok (.if_icmp .ge 36, 3) := by decide +kernel
theorem dX6_atHome_10 : decode cX6_atHome 10 = .ok (.iload_n 2, 1) := by decide +kernel
theorem dX6_atHome_11 : decode cX6_atHome 11 = .ok (.aload_n 0, 1) := by decide +kernel
theorem dX6_atHome_12 : decode cX6_atHome 12 = .ok (.getfield 7, 3) := by decide +kernel
theorem dX6_atHome_15 : decode cX6_atHome 15 = .ok (.aload_n 0, 1) := by decide +kernel
theorem dX6_atHome_16 : decode cX6_atHome 16 = .ok (.invokevirtual 80, 3) := by decide +kernel
theorem dX6_atHome_19 : decode cX6_atHome 19 = .ok (.iload_n 3, 1) := by decide +kernel
theorem dX6_atHome_20 : decode cX6_atHome 20 = .ok (.iload_n 1, 1) := by decide +kernel
theorem dX6_atHome_21 : decode cX6_atHome 21 = .ok (.invokestatic 88, 3) := by decide +kernel
theorem dX6_atHome_24 : decode cX6_atHome 24 = .ok (.iadd, 1) := by decide +kernel
theorem dX6_atHome_25 : decode cX6_atHome 25 = .ok (.iaload, 1) := by decide +kernel
theorem dX6_atHome_26 : decode cX6_atHome 26 = .ok (.iload_n 3, 1) := by decide +kernel
theorem dX6_atHome_27 : decode cX6_atHome 27 = .ok (.if_icmp .ne 7, 3) := by decide +kernel
theorem dX6_atHome_30 : decode cX6_atHome 30 = .ok (.iconst 1, 1) := by decide +kernel
theorem dX6_atHome_31 : decode cX6_atHome 31 = .ok (.goto 4, 3) := by decide +kernel
theorem dX6_atHome_34 : decode cX6_atHome 34 = .ok (.iconst 0, 1) := by decide +kernel
theorem dX6_atHome_35 : decode cX6_atHome 35 = .ok (.iadd, 1) := by decide +kernel
theorem dX6_atHome_36 : decode cX6_atHome 36 = .ok (.istore_n 2, 1) := by decide +kernel
theorem dX6_atHome_37 : decode cX6_atHome 37 = .ok (.iinc 3 1, 3) := by decide +kernel
theorem dX6_atHome_40 : decode cX6_atHome 40 = .ok (.goto (-36), 3) := by decide +kernel
theorem dX6_atHome_43 : decode cX6_atHome 43 = .ok (.iload_n 2, 1) := by decide +kernel
theorem dX6_atHome_44 : decode cX6_atHome 44 = .ok (.ireturn, 1) := by decide +kernel
theorem dX6_bestWay_0 : decode cX6_bestWay 0 = .ok (.aload_n 0, 1) := by decide +kernel
theorem dX6_bestWay_1 : decode cX6_bestWay 1 = .ok (.getfield 7, 3) := by decide +kernel
theorem dX6_bestWay_4 : decode cX6_bestWay 4 = .ok (.iconst 5, 1) := by decide +kernel
theorem dX6_bestWay_5 : decode cX6_bestWay 5 = .ok (.iaload, 1) := by decide +kernel
theorem dX6_bestWay_6 : decode cX6_bestWay 6 = .ok (.ifCond .ne 6, 3) := by decide +kernel
theorem dX6_bestWay_9 : decode cX6_bestWay 9 = .ok (.bipush (-4), 2) := by decide +kernel
theorem dX6_bestWay_11 : decode cX6_bestWay 11 = .ok (.ireturn, 1) := by decide +kernel
theorem dX6_bestWay_12 : decode cX6_bestWay 12 = .ok (.iconst 0, 1) := by decide +kernel
theorem dX6_bestWay_13 : decode cX6_bestWay 13 = .ok (.istore_n 1, 1) := by decide +kernel
theorem dX6_bestWay_14 : decode cX6_bestWay 14 = .ok (.iconst 1, 1) := by decide +kernel
theorem dX6_bestWay_15 : decode cX6_bestWay 15 = .ok (.istore_n 2, 1) := by decide +kernel
theorem dX6_bestWay_16 : decode cX6_bestWay 16 = .ok (.iload_n 2, 1) := by decide +kernel
theorem dX6_bestWay_17 : decode cX6_bestWay 17 = .ok (.iconst 4, 1) := by decide +kernel
theorem dX6_bestWay_18 : decode cX6_bestWay 18 = .ok (.if_icmp .ge 28, 3) := by decide +kernel
theorem dX6_bestWay_21 : decode cX6_bestWay 21 = .ok (.aload_n 0, 1) := by decide +kernel
theorem dX6_bestWay_22 : decode cX6_bestWay 22 = .ok (.iload_n 2, 1) := by decide +kernel
theorem dX6_bestWay_23 : decode cX6_bestWay 23 = .ok (.invokevirtual 188, 3) := by decide +kernel
theorem dX6_bestWay_26 : decode cX6_bestWay 26 = .ok (.aload_n 0, 1) := by decide +kernel
theorem dX6_bestWay_27 : decode cX6_bestWay 27 = .ok (.iload_n 1, 1) := by decide +kernel
theorem dX6_bestWay_28 : decode cX6_bestWay 28 = .ok (.invokevirtual 188, 3) := by decide +kernel
theorem dX6_bestWay_31 : decode cX6_bestWay 31 = .ok (.if_icmp .ge 7, 3) := by decide +kernel
theorem dX6_bestWay_34 : decode cX6_bestWay 34 = .ok (.iload_n 2, 1) := by decide +kernel
theorem dX6_bestWay_35 : decode cX6_bestWay 35 = .ok (.goto 4, 3) := by decide +kernel
theorem dX6_bestWay_38 : decode cX6_bestWay 38 = .ok (.iload_n 1, 1) := by decide +kernel
theorem dX6_bestWay_39 : decode cX6_bestWay 39 = .ok (.istore_n 1, 1) := by decide +kernel
theorem dX6_bestWay_40 : decode cX6_bestWay 40 = .ok (.iinc 2 1, 3) := by decide +kernel
theorem dX6_bestWay_43 : decode cX6_bestWay 43 = .ok (.goto (-27), 3) := by decide +kernel
theorem dX6_bestWay_46 : decode cX6_bestWay 46 = .ok (.iload_n 1, 1) := by decide +kernel
theorem dX6_bestWay_47 : decode cX6_bestWay 47 = .ok (.ireturn, 1) := by decide +kernel
theorem dX6_comesBack_0 : decode cX6_comesBack 0 = .ok (.iconst 0, 1) := by decide +kernel
theorem dX6_comesBack_1 : decode cX6_comesBack 1 = .ok (.istore_n 2, 1) := by decide +kernel
theorem dX6_comesBack_2 : decode cX6_comesBack 2 = .ok (.iload_n 2, 1) := by decide +kernel
theorem dX6_comesBack_3 : decode cX6_comesBack 3 = .ok (.aload_n 0, 1) := by decide +kernel
theorem dX6_comesBack_4 : decode cX6_comesBack 4 = .ok (.getfield 7, 3) := by decide +kernel
theorem dX6_comesBack_7 : decode cX6_comesBack 7 = .ok (.bipush 7, 2) := by decide +kernel
theorem dX6_comesBack_9 : decode cX6_comesBack 9 = .ok (.iaload, 1) := by decide +kernel
theorem dX6_comesBack_10 : decode cX6_comesBack 10 = .ok (.if_icmp .ge 26, 3) := by decide +kernel
theorem dX6_comesBack_13 : decode cX6_comesBack 13 = .ok (.aload_n 0, 1) := by decide +kernel
theorem dX6_comesBack_14 : decode cX6_comesBack 14 = .ok (.getfield 28, 3) := by decide +kernel
theorem dX6_comesBack_17 : decode cX6_comesBack 17 = .ok (.iload_n 2, 1) := by decide +kernel
theorem dX6_comesBack_18 : decode cX6_comesBack 18 = .ok (.aload_n 0, 1) := by decide +kernel
theorem dX6_comesBack_19 : decode cX6_comesBack 19 = .ok (.getfield 25, 3) := by decide +kernel
theorem dX6_comesBack_22 : decode cX6_comesBack 22 = .ok (.aload_n 0, 1) := by decide +kernel
theorem dX6_comesBack_23 : decode cX6_comesBack 23 = .ok (.iload_n 2, 1) := by decide +kernel
theorem dX6_comesBack_24 : decode cX6_comesBack 24 = .ok (.iload_n 1, 1) := by decide +kernel
theorem dX6_comesBack_25 : decode cX6_comesBack 25 = .ok (.invokevirtual 98, 3) := by decide +kernel
theorem dX6_comesBack_28 : decode cX6_comesBack 28 = .ok (.iaload, 1) := by decide +kernel
theorem dX6_comesBack_29 : decode cX6_comesBack 29 = .ok (.iastore, 1) := by decide +kernel
theorem dX6_comesBack_30 : decode cX6_comesBack 30 = .ok (.iinc 2 1, 3) := by decide +kernel
theorem dX6_comesBack_33 : decode cX6_comesBack 33 = .ok (.goto (-31), 3) := by decide +kernel
theorem dX6_comesBack_36 : decode cX6_comesBack 36 = .ok (.iconst 1, 1) := by decide +kernel
theorem dX6_comesBack_37 : decode cX6_comesBack 37 = .ok (.istore_n 2, 1) := by decide +kernel
theorem dX6_comesBack_38 : decode cX6_comesBack 38 = .ok (.iconst 0, 1) := by decide +kernel
theorem dX6_comesBack_39 : decode cX6_comesBack 39 = .ok (.istore_n 3, 1) := by decide +kernel
theorem dX6_comesBack_40 : decode cX6_comesBack 40 = .ok (.iload_n 3, 1) := by decide +kernel
theorem dX6_comesBack_41 : decode cX6_comesBack 41 = .ok (.aload_n 0, 1) := by decide +kernel
theorem dX6_comesBack_42 : decode cX6_comesBack 42 = .ok (.getfield 7, 3) := by decide +kernel
theorem dX6_comesBack_45 : decode cX6_comesBack 45 = .ok (.bipush 7, 2) := by decide +kernel
theorem dX6_comesBack_47 : decode cX6_comesBack 47 = .ok (.iaload, 1) := by decide +kernel
theorem dX6_comesBack_48 : decode cX6_comesBack 48 = .ok (.if_icmp .ge 41, 3) := by decide +kernel
theorem dX6_comesBack_51 : decode cX6_comesBack 51 = .ok (.aload_n 0, 1) := by decide +kernel
theorem dX6_comesBack_52 : decode cX6_comesBack 52 = .ok (.getfield 25, 3) := by decide +kernel
theorem dX6_comesBack_55 : decode cX6_comesBack 55 = .ok (.iload_n 3, 1) := by decide +kernel
theorem dX6_comesBack_56 : decode cX6_comesBack 56 = .ok (.aload_n 0, 1) := by decide +kernel
theorem dX6_comesBack_57 : decode cX6_comesBack 57 = .ok (.getfield 28, 3) := by decide +kernel
theorem dX6_comesBack_60 : decode cX6_comesBack 60 = .ok (.iload_n 3, 1) := by decide +kernel
theorem dX6_comesBack_61 : decode cX6_comesBack 61 = .ok (.iaload, 1) := by decide +kernel
theorem dX6_comesBack_62 : decode cX6_comesBack 62 = .ok (.iastore, 1) := by decide +kernel
theorem dX6_comesBack_63 : decode cX6_comesBack 63 = .ok (.iload_n 2, 1) := by decide +kernel
theorem dX6_comesBack_64 : decode cX6_comesBack 64 = .ok (.ifCond .eq 17, 3) := by decide +kernel
theorem dX6_comesBack_67 : decode cX6_comesBack 67 = .ok (.aload_n 0, 1) := by decide +kernel
theorem dX6_comesBack_68 : decode cX6_comesBack 68 = .ok (.getfield 25, 3) := by decide +kernel
theorem dX6_comesBack_71 : decode cX6_comesBack 71 = .ok (.iload_n 3, 1) := by decide +kernel
theorem dX6_comesBack_72 : decode cX6_comesBack 72 = .ok (.iaload, 1) := by decide +kernel
theorem dX6_comesBack_73 : decode cX6_comesBack 73 = .ok (.iload_n 3, 1) := by decide +kernel
theorem dX6_comesBack_74 : decode cX6_comesBack 74 = .ok (.if_icmp .ne 7, 3) := by decide +kernel
theorem dX6_comesBack_77 : decode cX6_comesBack 77 = .ok (.iconst 1, 1) := by decide +kernel
theorem dX6_comesBack_78 : decode cX6_comesBack 78 = .ok (.goto 4, 3) := by decide +kernel
theorem dX6_comesBack_81 : decode cX6_comesBack 81 = .ok (.iconst 0, 1) := by decide +kernel
theorem dX6_comesBack_82 : decode cX6_comesBack 82 = .ok (.istore_n 2, 1) := by decide +kernel
theorem dX6_comesBack_83 : decode cX6_comesBack 83 = .ok (.iinc 3 1, 3) := by decide +kernel
theorem dX6_comesBack_86 : decode cX6_comesBack 86 = .ok (.goto (-46), 3) := by decide +kernel
theorem dX6_comesBack_89 : decode cX6_comesBack 89 = .ok (.iload_n 2, 1) := by decide +kernel
theorem dX6_comesBack_90 : decode cX6_comesBack 90 = .ok (.ireturn, 1) := by decide +kernel
theorem dX6_backIn_0 : decode cX6_backIn 0 = .ok (.aload_n 0, 1) := by decide +kernel
theorem dX6_backIn_1 : decode cX6_backIn 1 = .ok (.getfield 7, 3) := by decide +kernel
theorem dX6_backIn_4 : decode cX6_backIn 4 = .ok (.bipush 6, 2) := by decide +kernel
theorem dX6_backIn_6 : decode cX6_backIn 6 = .ok (.iaload, 1) := by decide +kernel
theorem dX6_backIn_7 : decode cX6_backIn 7 = .ok (.ifCond .ne 6, 3) := by decide +kernel
theorem dX6_backIn_10 : decode cX6_backIn 10 = .ok (.bipush (-4), 2) := by decide +kernel
theorem dX6_backIn_12 : decode cX6_backIn 12 = .ok (.ireturn, 1) := by decide +kernel
theorem dX6_backIn_13 : decode cX6_backIn 13 = .ok (.aload_n 0, 1) := by decide +kernel
theorem dX6_backIn_14 : decode cX6_backIn 14 = .ok (.iload_n 1, 1) := by decide +kernel
theorem dX6_backIn_15 : decode cX6_backIn 15 = .ok (.invokevirtual 92, 3) := by decide +kernel
theorem dX6_backIn_18 : decode cX6_backIn 18 = .ok (.ifCond .ne 6, 3) := by decide +kernel
theorem dX6_backIn_21 : decode cX6_backIn 21 = .ok (.bipush (-2), 2) := by decide +kernel
theorem dX6_backIn_23 : decode cX6_backIn 23 = .ok (.ireturn, 1) := by decide +kernel
theorem dX6_backIn_24 : decode cX6_backIn 24 = .ok (.iconst 0, 1) := by decide +kernel
theorem dX6_backIn_25 : decode cX6_backIn 25 = .ok (.istore_n 2, 1) := by decide +kernel
theorem dX6_backIn_26 : decode cX6_backIn 26 = .ok (.iload_n 2, 1) := by decide +kernel
theorem dX6_backIn_27 : decode cX6_backIn 27 = .ok (.aload_n 0, 1) := by decide +kernel
theorem dX6_backIn_28 : decode cX6_backIn 28 = .ok (.getfield 7, 3) := by decide +kernel
theorem dX6_backIn_31 : decode cX6_backIn 31 = .ok (.bipush 7, 2) := by decide +kernel
theorem dX6_backIn_33 : decode cX6_backIn 33 = .ok (.iaload, 1) := by decide +kernel
theorem dX6_backIn_34 : decode cX6_backIn 34 = .ok (.if_icmp .ge 16, 3) := by decide +kernel
theorem dX6_backIn_37 : decode cX6_backIn 37 = .ok (.aload_n 0, 1) := by decide +kernel
theorem dX6_backIn_38 : decode cX6_backIn 38 = .ok (.getfield 25, 3) := by decide +kernel
theorem dX6_backIn_41 : decode cX6_backIn 41 = .ok (.iload_n 2, 1) := by decide +kernel
theorem dX6_backIn_42 : decode cX6_backIn 42 = .ok (.iload_n 2, 1) := by decide +kernel
theorem dX6_backIn_43 : decode cX6_backIn 43 = .ok (.iastore, 1) := by decide +kernel
theorem dX6_backIn_44 : decode cX6_backIn 44 = .ok (.iinc 2 1, 3) := by decide +kernel
theorem dX6_backIn_47 : decode cX6_backIn 47 = .ok (.goto (-21), 3) := by decide +kernel
theorem dX6_backIn_50 : decode cX6_backIn 50 = .ok (.iconst 1, 1) := by decide +kernel
theorem dX6_backIn_51 : decode cX6_backIn 51 = .ok (.istore_n 2, 1) := by decide +kernel
theorem dX6_backIn_52 : decode cX6_backIn 52 = .ok (.iload_n 2, 1) := by decide +kernel
theorem dX6_backIn_53 : decode cX6_backIn 53 = .ok (.sipush 500, 3) := by decide +kernel
theorem dX6_backIn_56 : decode cX6_backIn 56 = .ok (.if_icmp .gt 17, 3) := by decide +kernel
theorem dX6_backIn_59 : decode cX6_backIn 59 = .ok (.aload_n 0, 1) := by decide +kernel
theorem dX6_backIn_60 : decode cX6_backIn 60 = .ok (.iload_n 1, 1) := by decide +kernel
theorem dX6_backIn_61 : decode cX6_backIn 61 = .ok (.invokevirtual 191, 3) := by decide +kernel
theorem dX6_backIn_64 : decode cX6_backIn 64 = .ok (.ifCond .ne 9, 3) := by decide +kernel
theorem dX6_backIn_67 : decode cX6_backIn 67 = .ok (.iinc 2 1, 3) := by decide +kernel
theorem dX6_backIn_70 : decode cX6_backIn 70 = .ok (.goto (-18), 3) := by decide +kernel
theorem dX6_backIn_73 : decode cX6_backIn 73 = .ok (.iload_n 2, 1) := by decide +kernel
theorem dX6_backIn_74 : decode cX6_backIn 74 = .ok (.sipush 500, 3) := by decide +kernel
theorem dX6_backIn_77 : decode cX6_backIn 77 = .ok (.if_icmp .le 8, 3) := by decide +kernel
theorem dX6_backIn_80 : decode cX6_backIn 80 = .ok (.bipush (-5), 2) := by decide +kernel
theorem dX6_backIn_82 : decode cX6_backIn 82 = .ok (.goto 4, 3) := by decide +kernel
theorem dX6_backIn_85 : decode cX6_backIn 85 = .ok (.iload_n 2, 1) := by decide +kernel
theorem dX6_backIn_86 : decode cX6_backIn 86 = .ok (.ireturn, 1) := by decide +kernel
theorem dJ6_bitCount_0f7a4_0 : decode cJ6_bitCount_0f7a4 0 = .ok (.iload_n 0, 1) := by decide +kernel
theorem dJ6_bitCount_0f7a4_1 : decode cJ6_bitCount_0f7a4 1 = .ok (.iload_n 0, 1) := by decide +kernel
theorem dJ6_bitCount_0f7a4_2 : decode cJ6_bitCount_0f7a4 2 = .ok (.iconst 1, 1) := by decide +kernel
theorem dJ6_bitCount_0f7a4_3 : decode cJ6_bitCount_0f7a4 3 = .ok (.iushr, 1) := by decide +kernel
theorem dJ6_bitCount_0f7a4_4 : decode cJ6_bitCount_0f7a4 4 = .ok (.ldc_w 265, 3) := by decide +kernel
theorem dJ6_bitCount_0f7a4_7 : decode cJ6_bitCount_0f7a4 7 = .ok (.iand, 1) := by decide +kernel
theorem dJ6_bitCount_0f7a4_8 : decode cJ6_bitCount_0f7a4 8 = .ok (.isub, 1) := by decide +kernel
theorem dJ6_bitCount_0f7a4_9 : decode cJ6_bitCount_0f7a4 9 = .ok (.istore_n 0, 1) := by decide +kernel
theorem dJ6_bitCount_0f7a4_10 : decode cJ6_bitCount_0f7a4 10 = .ok (.iload_n 0, 1) := by decide +kernel
theorem dJ6_bitCount_0f7a4_11 : decode cJ6_bitCount_0f7a4 11 = .ok (.ldc_w 266, 3) := by decide +kernel
theorem dJ6_bitCount_0f7a4_14 : decode cJ6_bitCount_0f7a4 14 = .ok (.iand, 1) := by decide +kernel
theorem dJ6_bitCount_0f7a4_15 : decode cJ6_bitCount_0f7a4 15 = .ok (.iload_n 0, 1) := by decide +kernel
theorem dJ6_bitCount_0f7a4_16 : decode cJ6_bitCount_0f7a4 16 = .ok (.iconst 2, 1) := by decide +kernel
theorem dJ6_bitCount_0f7a4_17 : decode cJ6_bitCount_0f7a4 17 = .ok (.iushr, 1) := by decide +kernel
theorem dJ6_bitCount_0f7a4_18 : decode cJ6_bitCount_0f7a4 18 = .ok (.ldc_w 266, 3) := by decide +kernel
theorem dJ6_bitCount_0f7a4_21 : decode cJ6_bitCount_0f7a4 21 = .ok (.iand, 1) := by decide +kernel
theorem dJ6_bitCount_0f7a4_22 : decode cJ6_bitCount_0f7a4 22 = .ok (.iadd, 1) := by decide +kernel
theorem dJ6_bitCount_0f7a4_23 : decode cJ6_bitCount_0f7a4 23 = .ok (.istore_n 0, 1) := by decide +kernel
theorem dJ6_bitCount_0f7a4_24 : decode cJ6_bitCount_0f7a4 24 = .ok (.iload_n 0, 1) := by decide +kernel
theorem dJ6_bitCount_0f7a4_25 : decode cJ6_bitCount_0f7a4 25 = .ok (.iload_n 0, 1) := by decide +kernel
theorem dJ6_bitCount_0f7a4_26 : decode cJ6_bitCount_0f7a4 26 = .ok (.iconst 4, 1) := by decide +kernel
theorem dJ6_bitCount_0f7a4_27 : decode cJ6_bitCount_0f7a4 27 = .ok (.iushr, 1) := by decide +kernel
theorem dJ6_bitCount_0f7a4_28 : decode cJ6_bitCount_0f7a4 28 = .ok (.iadd, 1) := by decide +kernel
theorem dJ6_bitCount_0f7a4_29 : decode cJ6_bitCount_0f7a4 29 = .ok (.ldc_w 267, 3) := by decide +kernel
theorem dJ6_bitCount_0f7a4_32 : decode cJ6_bitCount_0f7a4 32 = .ok (.iand, 1) := by decide +kernel
theorem dJ6_bitCount_0f7a4_33 : decode cJ6_bitCount_0f7a4 33 = .ok (.istore_n 0, 1) := by decide +kernel
theorem dJ6_bitCount_0f7a4_34 : decode cJ6_bitCount_0f7a4 34 = .ok (.iload_n 0, 1) := by decide +kernel
theorem dJ6_bitCount_0f7a4_35 : decode cJ6_bitCount_0f7a4 35 = .ok (.iload_n 0, 1) := by decide +kernel
theorem dJ6_bitCount_0f7a4_36 : decode cJ6_bitCount_0f7a4 36 = .ok (.bipush 8, 2) := by decide +kernel
theorem dJ6_bitCount_0f7a4_38 : decode cJ6_bitCount_0f7a4 38 = .ok (.iushr, 1) := by decide +kernel
theorem dJ6_bitCount_0f7a4_39 : decode cJ6_bitCount_0f7a4 39 = .ok (.iadd, 1) := by decide +kernel
theorem dJ6_bitCount_0f7a4_40 : decode cJ6_bitCount_0f7a4 40 = .ok (.istore_n 0, 1) := by decide +kernel
theorem dJ6_bitCount_0f7a4_41 : decode cJ6_bitCount_0f7a4 41 = .ok (.iload_n 0, 1) := by decide +kernel
theorem dJ6_bitCount_0f7a4_42 : decode cJ6_bitCount_0f7a4 42 = .ok (.iload_n 0, 1) := by decide +kernel
theorem dJ6_bitCount_0f7a4_43 : decode cJ6_bitCount_0f7a4 43 = .ok (.bipush 16, 2) := by decide +kernel
theorem dJ6_bitCount_0f7a4_45 : decode cJ6_bitCount_0f7a4 45 = .ok (.iushr, 1) := by decide +kernel
theorem dJ6_bitCount_0f7a4_46 : decode cJ6_bitCount_0f7a4 46 = .ok (.iadd, 1) := by decide +kernel
theorem dJ6_bitCount_0f7a4_47 : decode cJ6_bitCount_0f7a4 47 = .ok (.istore_n 0, 1) := by decide +kernel
theorem dJ6_bitCount_0f7a4_48 : decode cJ6_bitCount_0f7a4 48 = .ok (.iload_n 0, 1) := by decide +kernel
theorem dJ6_bitCount_0f7a4_49 : decode cJ6_bitCount_0f7a4 49 = .ok (.bipush 63, 2) := by decide +kernel
theorem dJ6_bitCount_0f7a4_51 : decode cJ6_bitCount_0f7a4 51 = .ok (.iand, 1) := by decide +kernel
theorem dJ6_bitCount_0f7a4_52 : decode cJ6_bitCount_0f7a4 52 = .ok (.ireturn, 1) := by decide +kernel
theorem dJ9_abs_0f7a4_0 : decode cJ9_abs_0f7a4 0 = .ok (.iload_n 0, 1) := by decide +kernel
theorem dJ9_abs_0f7a4_1 : decode cJ9_abs_0f7a4 1 = .ok (.ifCond .ge 8, 3) := by decide +kernel
theorem dJ9_abs_0f7a4_4 : decode cJ9_abs_0f7a4 4 = .ok (.iload_n 0, 1) := by decide +kernel
theorem dJ9_abs_0f7a4_5 : decode cJ9_abs_0f7a4 5 = .ok (.ineg, 1) := by decide +kernel
theorem dJ9_abs_0f7a4_6 : decode cJ9_abs_0f7a4 6 = .ok (.goto 4, 3) := by decide +kernel
theorem dJ9_abs_0f7a4_9 : decode cJ9_abs_0f7a4 9 = .ok (.iload_n 0, 1) := by decide +kernel
theorem dJ9_abs_0f7a4_10 : decode cJ9_abs_0f7a4 10 = .ok (.ireturn, 1) := by decide +kernel
theorem dJ9_min_7cf53_0 : decode cJ9_min_7cf53 0 = .ok (.iload_n 0, 1) := by decide +kernel
theorem dJ9_min_7cf53_1 : decode cJ9_min_7cf53 1 = .ok (.iload_n 1, 1) := by decide +kernel
theorem dJ9_min_7cf53_2 : decode cJ9_min_7cf53 2 = .ok (.if_icmp .gt 7, 3) := by decide +kernel
theorem dJ9_min_7cf53_5 : decode cJ9_min_7cf53 5 = .ok (.iload_n 0, 1) := by decide +kernel
theorem dJ9_min_7cf53_6 : decode cJ9_min_7cf53 6 = .ok (.goto 4, 3) := by decide +kernel
theorem dJ9_min_7cf53_9 : decode cJ9_min_7cf53 9 = .ok (.iload_n 1, 1) := by decide +kernel
theorem dJ9_min_7cf53_10 : decode cJ9_min_7cf53 10 = .ok (.ireturn, 1) := by decide +kernel
theorem dL_law_0 : decode cL_law 0 = .ok (.new 7, 3) := by decide +kernel
theorem dL_law_3 : decode cL_law 3 = .ok (.dup, 1) := by decide +kernel
theorem dL_law_4 : decode cL_law 4 = .ok (.invokespecial 9, 3) := by decide +kernel
theorem dL_law_7 : decode cL_law 7 = .ok (.astore_n 1, 1) := by decide +kernel
theorem dL_law_8 : decode cL_law 8 = .ok (.new 10, 3) := by decide +kernel
theorem dL_law_11 : decode cL_law 11 = .ok (.dup, 1) := by decide +kernel
theorem dL_law_12 : decode cL_law 12 = .ok (.invokespecial 12, 3) := by decide +kernel
theorem dL_law_15 : decode cL_law 15 = .ok (.astore_n 2, 1) := by decide +kernel
theorem dL_law_16 : decode cL_law 16 = .ok (.iconst 0, 1) := by decide +kernel
theorem dL_law_17 : decode cL_law 17 = .ok (.istore_n 3, 1) := by decide +kernel
theorem dL_law_18 : decode cL_law 18 = .ok (.iload_n 3, 1) := by decide +kernel
theorem dL_law_19 : decode cL_law 19 = .ok (.aload_n 0, 1) := by decide +kernel
theorem dL_law_20 : decode cL_law 20 = .ok (.arraylength, 1) := by decide +kernel
theorem dL_law_21 : decode cL_law 21 = .ok (.iconst 4, 1) := by decide +kernel
theorem dL_law_22 : decode cL_law 22 = .ok (.isub, 1) := by decide +kernel
theorem dL_law_23 : decode cL_law 23 = .ok (.if_icmp .gt 884, 3) := by decide +kernel
theorem dL_law_26 : decode cL_law 26 = .ok (.aload_n 0, 1) := by decide +kernel
theorem dL_law_27 : decode cL_law 27 = .ok (.iload_n 3, 1) := by decide +kernel
theorem dL_law_28 : decode cL_law 28 = .ok (.iaload, 1) := by decide +kernel
theorem dL_law_29 : decode cL_law 29 = .ok (.bipush 31, 2) := by decide +kernel
theorem dL_law_31 : decode cL_law 31 = .ok (.iand, 1) := by decide +kernel
theorem dL_law_32 : decode cL_law 32 = .ok (.tableswitch 869 0 28 #[132, 165, 224, 257, 270, 303, 342, 365, 388, 411, 434, 447, 460, 485, 498, 511, 524, 537, 550, 583, 616, 659, 692, 715, 728, 771, 810, 833, 846], 132) := by decide +kernel
theorem dL_law_164 : decode cL_law 164 = .ok (.aload_n 1, 1) := by decide +kernel
theorem dL_law_165 : decode cL_law 165 = .ok (.aload_n 0, 1) := by decide +kernel
theorem dL_law_166 : decode cL_law 166 = .ok (.iload_n 3, 1) := by decide +kernel
theorem dL_law_167 : decode cL_law 167 = .ok (.iconst 1, 1) := by decide +kernel
theorem dL_law_168 : decode cL_law 168 = .ok (.iadd, 1) := by decide +kernel
theorem dL_law_169 : decode cL_law 169 = .ok (.iaload, 1) := by decide +kernel
theorem dL_law_170 : decode cL_law 170 = .ok (.aload_n 0, 1) := by decide +kernel
theorem dL_law_171 : decode cL_law 171 = .ok (.iload_n 3, 1) := by decide +kernel
theorem dL_law_172 : decode cL_law 172 = .ok (.iconst 2, 1) := by decide +kernel
theorem dL_law_173 : decode cL_law 173 = .ok (.iadd, 1) := by decide +kernel
theorem dL_law_174 : decode cL_law 174 = .ok (.iaload, 1) := by decide +kernel
theorem dL_law_175 : decode cL_law 175 = .ok (.invokevirtual 13, 3) := by decide +kernel
theorem dL_law_178 : decode cL_law 178 = .ok (.aload_n 2, 1) := by decide +kernel
theorem dL_law_179 : decode cL_law 179 = .ok (.aload_n 0, 1) := by decide +kernel
theorem dL_law_180 : decode cL_law 180 = .ok (.iload_n 3, 1) := by decide +kernel
theorem dL_law_181 : decode cL_law 181 = .ok (.iconst 1, 1) := by decide +kernel
theorem dL_law_182 : decode cL_law 182 = .ok (.iadd, 1) := by decide +kernel
theorem dL_law_183 : decode cL_law 183 = .ok (.iaload, 1) := by decide +kernel
theorem dL_law_184 : decode cL_law 184 = .ok (.aload_n 0, 1) := by decide +kernel
theorem dL_law_185 : decode cL_law 185 = .ok (.iload_n 3, 1) := by decide +kernel
theorem dL_law_186 : decode cL_law 186 = .ok (.iconst 2, 1) := by decide +kernel
theorem dL_law_187 : decode cL_law 187 = .ok (.iadd, 1) := by decide +kernel
theorem dL_law_188 : decode cL_law 188 = .ok (.iaload, 1) := by decide +kernel
theorem dL_law_189 : decode cL_law 189 = .ok (.invokevirtual 17, 3) := by decide +kernel
theorem dL_law_192 : decode cL_law 192 = .ok (.if_icmp .eq 709, 3) := by decide +kernel
theorem dL_law_195 : decode cL_law 195 = .ok (.iconst 0, 1) := by decide +kernel
theorem dL_law_196 : decode cL_law 196 = .ok (.ireturn, 1) := by decide +kernel
theorem dL_law_197 : decode cL_law 197 = .ok (.aload_n 1, 1) := by decide +kernel
theorem dL_law_198 : decode cL_law 198 = .ok (.aload_n 0, 1) := by decide +kernel
theorem dL_law_199 : decode cL_law 199 = .ok (.iload_n 3, 1) := by decide +kernel
theorem dL_law_200 : decode cL_law 200 = .ok (.iconst 1, 1) := by decide +kernel
theorem dL_law_201 : decode cL_law 201 = .ok (.iadd, 1) := by decide +kernel
theorem dL_law_202 : decode cL_law 202 = .ok (.iaload, 1) := by decide +kernel
theorem dL_law_203 : decode cL_law 203 = .ok (.aload_n 0, 1) := by decide +kernel
theorem dL_law_204 : decode cL_law 204 = .ok (.iload_n 3, 1) := by decide +kernel
theorem dL_law_205 : decode cL_law 205 = .ok (.iconst 2, 1) := by decide +kernel
theorem dL_law_206 : decode cL_law 206 = .ok (.iadd, 1) := by decide +kernel
theorem dL_law_207 : decode cL_law 207 = .ok (.iaload, 1) := by decide +kernel
theorem dL_law_208 : decode cL_law 208 = .ok (.aload_n 0, 1) := by decide +kernel
theorem dL_law_209 : decode cL_law 209 = .ok (.iload_n 3, 1) := by decide +kernel
theorem dL_law_210 : decode cL_law 210 = .ok (.iconst 3, 1) := by decide +kernel
theorem dL_law_211 : decode cL_law 211 = .ok (.iadd, 1) := by decide +kernel
theorem dL_law_212 : decode cL_law 212 = .ok (.iaload, 1) := by decide +kernel
theorem dL_law_213 : decode cL_law 213 = .ok (.ifCond .eq 7, 3) := by decide +kernel
theorem dL_law_216 : decode cL_law 216 = .ok (.iconst 1, 1) := by decide +kernel
theorem dL_law_217 : decode cL_law 217 = .ok (.goto 4, 3) := by decide +kernel
theorem dL_law_220 : decode cL_law 220 = .ok (.iconst 0, 1) := by decide +kernel
theorem dL_law_221 : decode cL_law 221 = .ok (.invokevirtual 18, 3) := by decide +kernel
theorem dL_law_224 : decode cL_law 224 = .ok (.aload_n 2, 1) := by decide +kernel
theorem dL_law_225 : decode cL_law 225 = .ok (.aload_n 0, 1) := by decide +kernel
theorem dL_law_226 : decode cL_law 226 = .ok (.iload_n 3, 1) := by decide +kernel
theorem dL_law_227 : decode cL_law 227 = .ok (.iconst 1, 1) := by decide +kernel
theorem dL_law_228 : decode cL_law 228 = .ok (.iadd, 1) := by decide +kernel
theorem dL_law_229 : decode cL_law 229 = .ok (.iaload, 1) := by decide +kernel
theorem dL_law_230 : decode cL_law 230 = .ok (.aload_n 0, 1) := by decide +kernel
theorem dL_law_231 : decode cL_law 231 = .ok (.iload_n 3, 1) := by decide +kernel
theorem dL_law_232 : decode cL_law 232 = .ok (.iconst 2, 1) := by decide +kernel
theorem dL_law_233 : decode cL_law 233 = .ok (.iadd, 1) := by decide +kernel
theorem dL_law_234 : decode cL_law 234 = .ok (.iaload, 1) := by decide +kernel
theorem dL_law_235 : decode cL_law 235 = .ok (.aload_n 0, 1) := by decide +kernel
theorem dL_law_236 : decode cL_law 236 = .ok (.iload_n 3, 1) := by decide +kernel
theorem dL_law_237 : decode cL_law 237 = .ok (.iconst 3, 1) := by decide +kernel
theorem dL_law_238 : decode cL_law 238 = .ok (.iadd, 1) := by decide +kernel
theorem dL_law_239 : decode cL_law 239 = .ok (.iaload, 1) := by decide +kernel
theorem dL_law_240 : decode cL_law 240 = .ok (.ifCond .eq 7, 3) := by decide +kernel
theorem dL_law_243 : decode cL_law 243 = .ok (.iconst 1, 1) := by decide +kernel
theorem dL_law_244 : decode cL_law 244 = .ok (.goto 4, 3) := by decide +kernel
theorem dL_law_247 : decode cL_law 247 = .ok (.iconst 0, 1) := by decide +kernel
theorem dL_law_248 : decode cL_law 248 = .ok (.invokevirtual 22, 3) := by decide +kernel
theorem dL_law_251 : decode cL_law 251 = .ok (.if_icmp .eq 650, 3) := by decide +kernel
theorem dL_law_254 : decode cL_law 254 = .ok (.iconst 0, 1) := by decide +kernel
theorem dL_law_255 : decode cL_law 255 = .ok (.ireturn, 1) := by decide +kernel
theorem dL_law_256 : decode cL_law 256 = .ok (.aload_n 1, 1) := by decide +kernel
theorem dL_law_257 : decode cL_law 257 = .ok (.aload_n 0, 1) := by decide +kernel
theorem dL_law_258 : decode cL_law 258 = .ok (.iload_n 3, 1) := by decide +kernel
theorem dL_law_259 : decode cL_law 259 = .ok (.iconst 1, 1) := by decide +kernel
theorem dL_law_260 : decode cL_law 260 = .ok (.iadd, 1) := by decide +kernel
theorem dL_law_261 : decode cL_law 261 = .ok (.iaload, 1) := by decide +kernel
theorem dL_law_262 : decode cL_law 262 = .ok (.aload_n 0, 1) := by decide +kernel
theorem dL_law_263 : decode cL_law 263 = .ok (.iload_n 3, 1) := by decide +kernel
theorem dL_law_264 : decode cL_law 264 = .ok (.iconst 2, 1) := by decide +kernel
theorem dL_law_265 : decode cL_law 265 = .ok (.iadd, 1) := by decide +kernel
theorem dL_law_266 : decode cL_law 266 = .ok (.iaload, 1) := by decide +kernel
theorem dL_law_267 : decode cL_law 267 = .ok (.invokevirtual 23, 3) := by decide +kernel
theorem dL_law_270 : decode cL_law 270 = .ok (.aload_n 2, 1) := by decide +kernel
theorem dL_law_271 : decode cL_law 271 = .ok (.aload_n 0, 1) := by decide +kernel
theorem dL_law_272 : decode cL_law 272 = .ok (.iload_n 3, 1) := by decide +kernel
theorem dL_law_273 : decode cL_law 273 = .ok (.iconst 1, 1) := by decide +kernel
theorem dL_law_274 : decode cL_law 274 = .ok (.iadd, 1) := by decide +kernel
theorem dL_law_275 : decode cL_law 275 = .ok (.iaload, 1) := by decide +kernel
theorem dL_law_276 : decode cL_law 276 = .ok (.aload_n 0, 1) := by decide +kernel
theorem dL_law_277 : decode cL_law 277 = .ok (.iload_n 3, 1) := by decide +kernel
theorem dL_law_278 : decode cL_law 278 = .ok (.iconst 2, 1) := by decide +kernel
theorem dL_law_279 : decode cL_law 279 = .ok (.iadd, 1) := by decide +kernel
theorem dL_law_280 : decode cL_law 280 = .ok (.iaload, 1) := by decide +kernel
theorem dL_law_281 : decode cL_law 281 = .ok (.invokevirtual 26, 3) := by decide +kernel
theorem dL_law_284 : decode cL_law 284 = .ok (.if_icmp .eq 617, 3) := by decide +kernel
theorem dL_law_287 : decode cL_law 287 = .ok (.iconst 0, 1) := by decide +kernel
theorem dL_law_288 : decode cL_law 288 = .ok (.ireturn, 1) := by decide +kernel
theorem dL_law_289 : decode cL_law 289 = .ok (.aload_n 1, 1) := by decide +kernel
theorem dL_law_290 : decode cL_law 290 = .ok (.invokevirtual 27, 3) := by decide +kernel
theorem dL_law_293 : decode cL_law 293 = .ok (.aload_n 2, 1) := by decide +kernel
theorem dL_law_294 : decode cL_law 294 = .ok (.invokevirtual 31, 3) := by decide +kernel
theorem dL_law_297 : decode cL_law 297 = .ok (.if_icmp .eq 604, 3) := by decide +kernel
theorem dL_law_300 : decode cL_law 300 = .ok (.iconst 0, 1) := by decide +kernel
theorem dL_law_301 : decode cL_law 301 = .ok (.ireturn, 1) := by decide +kernel
theorem dL_law_302 : decode cL_law 302 = .ok (.aload_n 1, 1) := by decide +kernel
theorem dL_law_303 : decode cL_law 303 = .ok (.aload_n 0, 1) := by decide +kernel
theorem dL_law_304 : decode cL_law 304 = .ok (.iload_n 3, 1) := by decide +kernel
theorem dL_law_305 : decode cL_law 305 = .ok (.iconst 1, 1) := by decide +kernel
theorem dL_law_306 : decode cL_law 306 = .ok (.iadd, 1) := by decide +kernel
theorem dL_law_307 : decode cL_law 307 = .ok (.iaload, 1) := by decide +kernel
theorem dL_law_308 : decode cL_law 308 = .ok (.aload_n 0, 1) := by decide +kernel
theorem dL_law_309 : decode cL_law 309 = .ok (.iload_n 3, 1) := by decide +kernel
theorem dL_law_310 : decode cL_law 310 = .ok (.iconst 2, 1) := by decide +kernel
theorem dL_law_311 : decode cL_law 311 = .ok (.iadd, 1) := by decide +kernel
theorem dL_law_312 : decode cL_law 312 = .ok (.iaload, 1) := by decide +kernel
theorem dL_law_313 : decode cL_law 313 = .ok (.invokevirtual 32, 3) := by decide +kernel
theorem dL_law_316 : decode cL_law 316 = .ok (.aload_n 2, 1) := by decide +kernel
theorem dL_law_317 : decode cL_law 317 = .ok (.aload_n 0, 1) := by decide +kernel
theorem dL_law_318 : decode cL_law 318 = .ok (.iload_n 3, 1) := by decide +kernel
theorem dL_law_319 : decode cL_law 319 = .ok (.iconst 1, 1) := by decide +kernel
theorem dL_law_320 : decode cL_law 320 = .ok (.iadd, 1) := by decide +kernel
theorem dL_law_321 : decode cL_law 321 = .ok (.iaload, 1) := by decide +kernel
theorem dL_law_322 : decode cL_law 322 = .ok (.aload_n 0, 1) := by decide +kernel
theorem dL_law_323 : decode cL_law 323 = .ok (.iload_n 3, 1) := by decide +kernel
theorem dL_law_324 : decode cL_law 324 = .ok (.iconst 2, 1) := by decide +kernel
theorem dL_law_325 : decode cL_law 325 = .ok (.iadd, 1) := by decide +kernel
theorem dL_law_326 : decode cL_law 326 = .ok (.iaload, 1) := by decide +kernel
theorem dL_law_327 : decode cL_law 327 = .ok (.invokevirtual 35, 3) := by decide +kernel
theorem dL_law_330 : decode cL_law 330 = .ok (.if_icmp .eq 571, 3) := by decide +kernel
theorem dL_law_333 : decode cL_law 333 = .ok (.iconst 0, 1) := by decide +kernel
theorem dL_law_334 : decode cL_law 334 = .ok (.ireturn, 1) := by decide +kernel
theorem dL_law_335 : decode cL_law 335 = .ok (.aload_n 1, 1) := by decide +kernel
theorem dL_law_336 : decode cL_law 336 = .ok (.aload_n 0, 1) := by decide +kernel
theorem dL_law_337 : decode cL_law 337 = .ok (.iload_n 3, 1) := by decide +kernel
theorem dL_law_338 : decode cL_law 338 = .ok (.iconst 1, 1) := by decide +kernel
theorem dL_law_339 : decode cL_law 339 = .ok (.iadd, 1) := by decide +kernel
theorem dL_law_340 : decode cL_law 340 = .ok (.iaload, 1) := by decide +kernel
theorem dL_law_341 : decode cL_law 341 = .ok (.ifCond .eq 7, 3) := by decide +kernel
theorem dL_law_344 : decode cL_law 344 = .ok (.iconst 1, 1) := by decide +kernel
theorem dL_law_345 : decode cL_law 345 = .ok (.goto 4, 3) := by decide +kernel
theorem dL_law_348 : decode cL_law 348 = .ok (.iconst 0, 1) := by decide +kernel
theorem dL_law_349 : decode cL_law 349 = .ok (.invokevirtual 36, 3) := by decide +kernel
theorem dL_law_352 : decode cL_law 352 = .ok (.aload_n 2, 1) := by decide +kernel
theorem dL_law_353 : decode cL_law 353 = .ok (.aload_n 0, 1) := by decide +kernel
theorem dL_law_354 : decode cL_law 354 = .ok (.iload_n 3, 1) := by decide +kernel
theorem dL_law_355 : decode cL_law 355 = .ok (.iconst 1, 1) := by decide +kernel
theorem dL_law_356 : decode cL_law 356 = .ok (.iadd, 1) := by decide +kernel
theorem dL_law_357 : decode cL_law 357 = .ok (.iaload, 1) := by decide +kernel
theorem dL_law_358 : decode cL_law 358 = .ok (.ifCond .eq 7, 3) := by decide +kernel
theorem dL_law_361 : decode cL_law 361 = .ok (.iconst 1, 1) := by decide +kernel
theorem dL_law_362 : decode cL_law 362 = .ok (.goto 4, 3) := by decide +kernel
theorem dL_law_365 : decode cL_law 365 = .ok (.iconst 0, 1) := by decide +kernel
theorem dL_law_366 : decode cL_law 366 = .ok (.invokevirtual 40, 3) := by decide +kernel
theorem dL_law_369 : decode cL_law 369 = .ok (.if_icmp .eq 532, 3) := by decide +kernel
theorem dL_law_372 : decode cL_law 372 = .ok (.iconst 0, 1) := by decide +kernel
theorem dL_law_373 : decode cL_law 373 = .ok (.ireturn, 1) := by decide +kernel
theorem dL_law_374 : decode cL_law 374 = .ok (.aload_n 1, 1) := by decide +kernel
theorem dL_law_375 : decode cL_law 375 = .ok (.aload_n 0, 1) := by decide +kernel
theorem dL_law_376 : decode cL_law 376 = .ok (.iload_n 3, 1) := by decide +kernel
theorem dL_law_377 : decode cL_law 377 = .ok (.iconst 1, 1) := by decide +kernel
theorem dL_law_378 : decode cL_law 378 = .ok (.iadd, 1) := by decide +kernel
theorem dL_law_379 : decode cL_law 379 = .ok (.iaload, 1) := by decide +kernel
theorem dL_law_380 : decode cL_law 380 = .ok (.invokevirtual 41, 3) := by decide +kernel
theorem dL_law_383 : decode cL_law 383 = .ok (.aload_n 2, 1) := by decide +kernel
theorem dL_law_384 : decode cL_law 384 = .ok (.aload_n 0, 1) := by decide +kernel
theorem dL_law_385 : decode cL_law 385 = .ok (.iload_n 3, 1) := by decide +kernel
theorem dL_law_386 : decode cL_law 386 = .ok (.iconst 1, 1) := by decide +kernel
theorem dL_law_387 : decode cL_law 387 = .ok (.iadd, 1) := by decide +kernel
theorem dL_law_388 : decode cL_law 388 = .ok (.iaload, 1) := by decide +kernel
theorem dL_law_389 : decode cL_law 389 = .ok (.invokevirtual 45, 3) := by decide +kernel
theorem dL_law_392 : decode cL_law 392 = .ok (.if_icmp .eq 509, 3) := by decide +kernel
theorem dL_law_395 : decode cL_law 395 = .ok (.iconst 0, 1) := by decide +kernel
theorem dL_law_396 : decode cL_law 396 = .ok (.ireturn, 1) := by decide +kernel
theorem dL_law_397 : decode cL_law 397 = .ok (.aload_n 1, 1) := by decide +kernel
theorem dL_law_398 : decode cL_law 398 = .ok (.aload_n 0, 1) := by decide +kernel
theorem dL_law_399 : decode cL_law 399 = .ok (.iload_n 3, 1) := by decide +kernel
theorem dL_law_400 : decode cL_law 400 = .ok (.iconst 1, 1) := by decide +kernel
theorem dL_law_401 : decode cL_law 401 = .ok (.iadd, 1) := by decide +kernel
theorem dL_law_402 : decode cL_law 402 = .ok (.iaload, 1) := by decide +kernel
theorem dL_law_403 : decode cL_law 403 = .ok (.invokevirtual 46, 3) := by decide +kernel
theorem dL_law_406 : decode cL_law 406 = .ok (.aload_n 2, 1) := by decide +kernel
theorem dL_law_407 : decode cL_law 407 = .ok (.aload_n 0, 1) := by decide +kernel
theorem dL_law_408 : decode cL_law 408 = .ok (.iload_n 3, 1) := by decide +kernel
theorem dL_law_409 : decode cL_law 409 = .ok (.iconst 1, 1) := by decide +kernel
theorem dL_law_410 : decode cL_law 410 = .ok (.iadd, 1) := by decide +kernel
theorem dL_law_411 : decode cL_law 411 = .ok (.iaload, 1) := by decide +kernel
theorem dL_law_412 : decode cL_law 412 = .ok (.invokevirtual 49, 3) := by decide +kernel
theorem dL_law_415 : decode cL_law 415 = .ok (.if_icmp .eq 486, 3) := by decide +kernel
theorem dL_law_418 : decode cL_law 418 = .ok (.iconst 0, 1) := by decide +kernel
theorem dL_law_419 : decode cL_law 419 = .ok (.ireturn, 1) := by decide +kernel
theorem dL_law_420 : decode cL_law 420 = .ok (.aload_n 1, 1) := by decide +kernel
theorem dL_law_421 : decode cL_law 421 = .ok (.aload_n 0, 1) := by decide +kernel
theorem dL_law_422 : decode cL_law 422 = .ok (.iload_n 3, 1) := by decide +kernel
theorem dL_law_423 : decode cL_law 423 = .ok (.iconst 1, 1) := by decide +kernel
theorem dL_law_424 : decode cL_law 424 = .ok (.iadd, 1) := by decide +kernel
theorem dL_law_425 : decode cL_law 425 = .ok (.iaload, 1) := by decide +kernel
theorem dL_law_426 : decode cL_law 426 = .ok (.invokevirtual 50, 3) := by decide +kernel
theorem dL_law_429 : decode cL_law 429 = .ok (.aload_n 2, 1) := by decide +kernel
theorem dL_law_430 : decode cL_law 430 = .ok (.aload_n 0, 1) := by decide +kernel
theorem dL_law_431 : decode cL_law 431 = .ok (.iload_n 3, 1) := by decide +kernel
theorem dL_law_432 : decode cL_law 432 = .ok (.iconst 1, 1) := by decide +kernel
theorem dL_law_433 : decode cL_law 433 = .ok (.iadd, 1) := by decide +kernel
theorem dL_law_434 : decode cL_law 434 = .ok (.iaload, 1) := by decide +kernel
theorem dL_law_435 : decode cL_law 435 = .ok (.invokevirtual 53, 3) := by decide +kernel
theorem dL_law_438 : decode cL_law 438 = .ok (.if_icmp .eq 463, 3) := by decide +kernel
theorem dL_law_441 : decode cL_law 441 = .ok (.iconst 0, 1) := by decide +kernel
theorem dL_law_442 : decode cL_law 442 = .ok (.ireturn, 1) := by decide +kernel
theorem dL_law_443 : decode cL_law 443 = .ok (.aload_n 1, 1) := by decide +kernel
theorem dL_law_444 : decode cL_law 444 = .ok (.aload_n 0, 1) := by decide +kernel
theorem dL_law_445 : decode cL_law 445 = .ok (.iload_n 3, 1) := by decide +kernel
theorem dL_law_446 : decode cL_law 446 = .ok (.iconst 1, 1) := by decide +kernel
theorem dL_law_447 : decode cL_law 447 = .ok (.iadd, 1) := by decide +kernel
theorem dL_law_448 : decode cL_law 448 = .ok (.iaload, 1) := by decide +kernel
theorem dL_law_449 : decode cL_law 449 = .ok (.invokevirtual 54, 3) := by decide +kernel
theorem dL_law_452 : decode cL_law 452 = .ok (.aload_n 2, 1) := by decide +kernel
theorem dL_law_453 : decode cL_law 453 = .ok (.aload_n 0, 1) := by decide +kernel
theorem dL_law_454 : decode cL_law 454 = .ok (.iload_n 3, 1) := by decide +kernel
theorem dL_law_455 : decode cL_law 455 = .ok (.iconst 1, 1) := by decide +kernel
theorem dL_law_456 : decode cL_law 456 = .ok (.iadd, 1) := by decide +kernel
theorem dL_law_457 : decode cL_law 457 = .ok (.iaload, 1) := by decide +kernel
theorem dL_law_458 : decode cL_law 458 = .ok (.invokevirtual 57, 3) := by decide +kernel
theorem dL_law_461 : decode cL_law 461 = .ok (.if_icmp .eq 440, 3) := by decide +kernel
theorem dL_law_464 : decode cL_law 464 = .ok (.iconst 0, 1) := by decide +kernel
theorem dL_law_465 : decode cL_law 465 = .ok (.ireturn, 1) := by decide +kernel
theorem dL_law_466 : decode cL_law 466 = .ok (.aload_n 1, 1) := by decide +kernel
theorem dL_law_467 : decode cL_law 467 = .ok (.invokevirtual 58, 3) := by decide +kernel
theorem dL_law_470 : decode cL_law 470 = .ok (.aload_n 2, 1) := by decide +kernel
theorem dL_law_471 : decode cL_law 471 = .ok (.invokevirtual 61, 3) := by decide +kernel
theorem dL_law_474 : decode cL_law 474 = .ok (.if_icmp .eq 427, 3) := by decide +kernel
theorem dL_law_477 : decode cL_law 477 = .ok (.iconst 0, 1) := by decide +kernel
theorem dL_law_478 : decode cL_law 478 = .ok (.ireturn, 1) := by decide +kernel
theorem dL_law_479 : decode cL_law 479 = .ok (.aload_n 1, 1) := by decide +kernel
theorem dL_law_480 : decode cL_law 480 = .ok (.invokevirtual 62, 3) := by decide +kernel
theorem dL_law_483 : decode cL_law 483 = .ok (.aload_n 2, 1) := by decide +kernel
theorem dL_law_484 : decode cL_law 484 = .ok (.invokevirtual 65, 3) := by decide +kernel
theorem dL_law_487 : decode cL_law 487 = .ok (.if_icmp .eq 414, 3) := by decide +kernel
theorem dL_law_490 : decode cL_law 490 = .ok (.iconst 0, 1) := by decide +kernel
theorem dL_law_491 : decode cL_law 491 = .ok (.ireturn, 1) := by decide +kernel
theorem dL_law_492 : decode cL_law 492 = .ok (.aload_n 1, 1) := by decide +kernel
theorem dL_law_493 : decode cL_law 493 = .ok (.aload_n 0, 1) := by decide +kernel
theorem dL_law_494 : decode cL_law 494 = .ok (.iload_n 3, 1) := by decide +kernel
theorem dL_law_495 : decode cL_law 495 = .ok (.iconst 1, 1) := by decide +kernel
theorem dL_law_496 : decode cL_law 496 = .ok (.iadd, 1) := by decide +kernel
theorem dL_law_497 : decode cL_law 497 = .ok (.iaload, 1) := by decide +kernel
theorem dL_law_498 : decode cL_law 498 = .ok (.i2c, 1) := by decide +kernel
theorem dL_law_499 : decode cL_law 499 = .ok (.invokevirtual 66, 3) := by decide +kernel
theorem dL_law_502 : decode cL_law 502 = .ok (.aload_n 2, 1) := by decide +kernel
theorem dL_law_503 : decode cL_law 503 = .ok (.aload_n 0, 1) := by decide +kernel
theorem dL_law_504 : decode cL_law 504 = .ok (.iload_n 3, 1) := by decide +kernel
theorem dL_law_505 : decode cL_law 505 = .ok (.iconst 1, 1) := by decide +kernel
theorem dL_law_506 : decode cL_law 506 = .ok (.iadd, 1) := by decide +kernel
theorem dL_law_507 : decode cL_law 507 = .ok (.iaload, 1) := by decide +kernel
theorem dL_law_508 : decode cL_law 508 = .ok (.i2c, 1) := by decide +kernel
theorem dL_law_509 : decode cL_law 509 = .ok (.invokevirtual 70, 3) := by decide +kernel
theorem dL_law_512 : decode cL_law 512 = .ok (.if_icmp .eq 389, 3) := by decide +kernel
theorem dL_law_515 : decode cL_law 515 = .ok (.iconst 0, 1) := by decide +kernel
theorem dL_law_516 : decode cL_law 516 = .ok (.ireturn, 1) := by decide +kernel
theorem dL_law_517 : decode cL_law 517 = .ok (.aload_n 1, 1) := by decide +kernel
theorem dL_law_518 : decode cL_law 518 = .ok (.invokevirtual 71, 3) := by decide +kernel
theorem dL_law_521 : decode cL_law 521 = .ok (.aload_n 2, 1) := by decide +kernel
theorem dL_law_522 : decode cL_law 522 = .ok (.invokevirtual 74, 3) := by decide +kernel
theorem dL_law_525 : decode cL_law 525 = .ok (.if_icmp .eq 376, 3) := by decide +kernel
theorem dL_law_528 : decode cL_law 528 = .ok (.iconst 0, 1) := by decide +kernel
theorem dL_law_529 : decode cL_law 529 = .ok (.ireturn, 1) := by decide +kernel
theorem dL_law_530 : decode cL_law 530 = .ok (.aload_n 1, 1) := by decide +kernel
theorem dL_law_531 : decode cL_law 531 = .ok (.invokevirtual 75, 3) := by decide +kernel
theorem dL_law_534 : decode cL_law 534 = .ok (.aload_n 2, 1) := by decide +kernel
theorem dL_law_535 : decode cL_law 535 = .ok (.invokevirtual 78, 3) := by decide +kernel
theorem dL_law_538 : decode cL_law 538 = .ok (.if_icmp .eq 363, 3) := by decide +kernel
theorem dL_law_541 : decode cL_law 541 = .ok (.iconst 0, 1) := by decide +kernel
theorem dL_law_542 : decode cL_law 542 = .ok (.ireturn, 1) := by decide +kernel
theorem dL_law_543 : decode cL_law 543 = .ok (.aload_n 1, 1) := by decide +kernel
theorem dL_law_544 : decode cL_law 544 = .ok (.invokevirtual 79, 3) := by decide +kernel
theorem dL_law_547 : decode cL_law 547 = .ok (.aload_n 2, 1) := by decide +kernel
theorem dL_law_548 : decode cL_law 548 = .ok (.invokevirtual 82, 3) := by decide +kernel
theorem dL_law_551 : decode cL_law 551 = .ok (.if_icmp .eq 350, 3) := by decide +kernel
theorem dL_law_554 : decode cL_law 554 = .ok (.iconst 0, 1) := by decide +kernel
theorem dL_law_555 : decode cL_law 555 = .ok (.ireturn, 1) := by decide +kernel
theorem dL_law_556 : decode cL_law 556 = .ok (.aload_n 1, 1) := by decide +kernel
theorem dL_law_557 : decode cL_law 557 = .ok (.invokevirtual 83, 3) := by decide +kernel
theorem dL_law_560 : decode cL_law 560 = .ok (.aload_n 2, 1) := by decide +kernel
theorem dL_law_561 : decode cL_law 561 = .ok (.invokevirtual 86, 3) := by decide +kernel
theorem dL_law_564 : decode cL_law 564 = .ok (.if_icmp .eq 337, 3) := by decide +kernel
theorem dL_law_567 : decode cL_law 567 = .ok (.iconst 0, 1) := by decide +kernel
theorem dL_law_568 : decode cL_law 568 = .ok (.ireturn, 1) := by decide +kernel
theorem dL_law_569 : decode cL_law 569 = .ok (.aload_n 1, 1) := by decide +kernel
theorem dL_law_570 : decode cL_law 570 = .ok (.invokevirtual 87, 3) := by decide +kernel
theorem dL_law_573 : decode cL_law 573 = .ok (.aload_n 2, 1) := by decide +kernel
theorem dL_law_574 : decode cL_law 574 = .ok (.invokevirtual 90, 3) := by decide +kernel
theorem dL_law_577 : decode cL_law 577 = .ok (.if_icmp .eq 324, 3) := by decide +kernel
theorem dL_law_580 : decode cL_law 580 = .ok (.iconst 0, 1) := by decide +kernel
theorem dL_law_581 : decode cL_law 581 = .ok (.ireturn, 1) := by decide +kernel
theorem dL_law_582 : decode cL_law 582 = .ok (.aload_n 1, 1) := by decide +kernel
theorem dL_law_583 : decode cL_law 583 = .ok (.aload_n 0, 1) := by decide +kernel
theorem dL_law_584 : decode cL_law 584 = .ok (.iload_n 3, 1) := by decide +kernel
theorem dL_law_585 : decode cL_law 585 = .ok (.iconst 1, 1) := by decide +kernel
theorem dL_law_586 : decode cL_law 586 = .ok (.iadd, 1) := by decide +kernel
theorem dL_law_587 : decode cL_law 587 = .ok (.iaload, 1) := by decide +kernel
theorem dL_law_588 : decode cL_law 588 = .ok (.aload_n 0, 1) := by decide +kernel
theorem dL_law_589 : decode cL_law 589 = .ok (.iload_n 3, 1) := by decide +kernel
theorem dL_law_590 : decode cL_law 590 = .ok (.iconst 2, 1) := by decide +kernel
theorem dL_law_591 : decode cL_law 591 = .ok (.iadd, 1) := by decide +kernel
theorem dL_law_592 : decode cL_law 592 = .ok (.iaload, 1) := by decide +kernel
theorem dL_law_593 : decode cL_law 593 = .ok (.invokevirtual 91, 3) := by decide +kernel
theorem dL_law_596 : decode cL_law 596 = .ok (.aload_n 2, 1) := by decide +kernel
theorem dL_law_597 : decode cL_law 597 = .ok (.aload_n 0, 1) := by decide +kernel
theorem dL_law_598 : decode cL_law 598 = .ok (.iload_n 3, 1) := by decide +kernel
theorem dL_law_599 : decode cL_law 599 = .ok (.iconst 1, 1) := by decide +kernel
theorem dL_law_600 : decode cL_law 600 = .ok (.iadd, 1) := by decide +kernel
theorem dL_law_601 : decode cL_law 601 = .ok (.iaload, 1) := by decide +kernel
theorem dL_law_602 : decode cL_law 602 = .ok (.aload_n 0, 1) := by decide +kernel
theorem dL_law_603 : decode cL_law 603 = .ok (.iload_n 3, 1) := by decide +kernel
theorem dL_law_604 : decode cL_law 604 = .ok (.iconst 2, 1) := by decide +kernel
theorem dL_law_605 : decode cL_law 605 = .ok (.iadd, 1) := by decide +kernel
theorem dL_law_606 : decode cL_law 606 = .ok (.iaload, 1) := by decide +kernel
theorem dL_law_607 : decode cL_law 607 = .ok (.invokevirtual 94, 3) := by decide +kernel
theorem dL_law_610 : decode cL_law 610 = .ok (.if_icmp .eq 291, 3) := by decide +kernel
theorem dL_law_613 : decode cL_law 613 = .ok (.iconst 0, 1) := by decide +kernel
theorem dL_law_614 : decode cL_law 614 = .ok (.ireturn, 1) := by decide +kernel
theorem dL_law_615 : decode cL_law 615 = .ok (.aload_n 1, 1) := by decide +kernel
theorem dL_law_616 : decode cL_law 616 = .ok (.aload_n 0, 1) := by decide +kernel
theorem dL_law_617 : decode cL_law 617 = .ok (.iload_n 3, 1) := by decide +kernel
theorem dL_law_618 : decode cL_law 618 = .ok (.iconst 1, 1) := by decide +kernel
theorem dL_law_619 : decode cL_law 619 = .ok (.iadd, 1) := by decide +kernel
theorem dL_law_620 : decode cL_law 620 = .ok (.iaload, 1) := by decide +kernel
theorem dL_law_621 : decode cL_law 621 = .ok (.aload_n 0, 1) := by decide +kernel
theorem dL_law_622 : decode cL_law 622 = .ok (.iload_n 3, 1) := by decide +kernel
theorem dL_law_623 : decode cL_law 623 = .ok (.iconst 2, 1) := by decide +kernel
theorem dL_law_624 : decode cL_law 624 = .ok (.iadd, 1) := by decide +kernel
theorem dL_law_625 : decode cL_law 625 = .ok (.iaload, 1) := by decide +kernel
theorem dL_law_626 : decode cL_law 626 = .ok (.invokevirtual 95, 3) := by decide +kernel
theorem dL_law_629 : decode cL_law 629 = .ok (.aload_n 2, 1) := by decide +kernel
theorem dL_law_630 : decode cL_law 630 = .ok (.aload_n 0, 1) := by decide +kernel
theorem dL_law_631 : decode cL_law 631 = .ok (.iload_n 3, 1) := by decide +kernel
theorem dL_law_632 : decode cL_law 632 = .ok (.iconst 1, 1) := by decide +kernel
theorem dL_law_633 : decode cL_law 633 = .ok (.iadd, 1) := by decide +kernel
theorem dL_law_634 : decode cL_law 634 = .ok (.iaload, 1) := by decide +kernel
theorem dL_law_635 : decode cL_law 635 = .ok (.aload_n 0, 1) := by decide +kernel
theorem dL_law_636 : decode cL_law 636 = .ok (.iload_n 3, 1) := by decide +kernel
theorem dL_law_637 : decode cL_law 637 = .ok (.iconst 2, 1) := by decide +kernel
theorem dL_law_638 : decode cL_law 638 = .ok (.iadd, 1) := by decide +kernel
theorem dL_law_639 : decode cL_law 639 = .ok (.iaload, 1) := by decide +kernel
theorem dL_law_640 : decode cL_law 640 = .ok (.invokevirtual 98, 3) := by decide +kernel
theorem dL_law_643 : decode cL_law 643 = .ok (.if_icmp .eq 258, 3) := by decide +kernel
theorem dL_law_646 : decode cL_law 646 = .ok (.iconst 0, 1) := by decide +kernel
theorem dL_law_647 : decode cL_law 647 = .ok (.ireturn, 1) := by decide +kernel
theorem dL_law_648 : decode cL_law 648 = .ok (.aload_n 1, 1) := by decide +kernel
theorem dL_law_649 : decode cL_law 649 = .ok (.aload_n 0, 1) := by decide +kernel
theorem dL_law_650 : decode cL_law 650 = .ok (.iload_n 3, 1) := by decide +kernel
theorem dL_law_651 : decode cL_law 651 = .ok (.iconst 1, 1) := by decide +kernel
theorem dL_law_652 : decode cL_law 652 = .ok (.iadd, 1) := by decide +kernel
theorem dL_law_653 : decode cL_law 653 = .ok (.iaload, 1) := by decide +kernel
theorem dL_law_654 : decode cL_law 654 = .ok (.aload_n 0, 1) := by decide +kernel
theorem dL_law_655 : decode cL_law 655 = .ok (.iload_n 3, 1) := by decide +kernel
theorem dL_law_656 : decode cL_law 656 = .ok (.iconst 2, 1) := by decide +kernel
theorem dL_law_657 : decode cL_law 657 = .ok (.iadd, 1) := by decide +kernel
theorem dL_law_658 : decode cL_law 658 = .ok (.iaload, 1) := by decide +kernel
theorem dL_law_659 : decode cL_law 659 = .ok (.aload_n 0, 1) := by decide +kernel
theorem dL_law_660 : decode cL_law 660 = .ok (.iload_n 3, 1) := by decide +kernel
theorem dL_law_661 : decode cL_law 661 = .ok (.iconst 3, 1) := by decide +kernel
theorem dL_law_662 : decode cL_law 662 = .ok (.iadd, 1) := by decide +kernel
theorem dL_law_663 : decode cL_law 663 = .ok (.iaload, 1) := by decide +kernel
theorem dL_law_664 : decode cL_law 664 = .ok (.invokevirtual 99, 3) := by decide +kernel
theorem dL_law_667 : decode cL_law 667 = .ok (.aload_n 2, 1) := by decide +kernel
theorem dL_law_668 : decode cL_law 668 = .ok (.aload_n 0, 1) := by decide +kernel
theorem dL_law_669 : decode cL_law 669 = .ok (.iload_n 3, 1) := by decide +kernel
theorem dL_law_670 : decode cL_law 670 = .ok (.iconst 1, 1) := by decide +kernel
theorem dL_law_671 : decode cL_law 671 = .ok (.iadd, 1) := by decide +kernel
theorem dL_law_672 : decode cL_law 672 = .ok (.iaload, 1) := by decide +kernel
theorem dL_law_673 : decode cL_law 673 = .ok (.aload_n 0, 1) := by decide +kernel
theorem dL_law_674 : decode cL_law 674 = .ok (.iload_n 3, 1) := by decide +kernel
theorem dL_law_675 : decode cL_law 675 = .ok (.iconst 2, 1) := by decide +kernel
theorem dL_law_676 : decode cL_law 676 = .ok (.iadd, 1) := by decide +kernel
theorem dL_law_677 : decode cL_law 677 = .ok (.iaload, 1) := by decide +kernel
theorem dL_law_678 : decode cL_law 678 = .ok (.aload_n 0, 1) := by decide +kernel
theorem dL_law_679 : decode cL_law 679 = .ok (.iload_n 3, 1) := by decide +kernel
theorem dL_law_680 : decode cL_law 680 = .ok (.iconst 3, 1) := by decide +kernel
theorem dL_law_681 : decode cL_law 681 = .ok (.iadd, 1) := by decide +kernel
theorem dL_law_682 : decode cL_law 682 = .ok (.iaload, 1) := by decide +kernel
theorem dL_law_683 : decode cL_law 683 = .ok (.invokevirtual 103, 3) := by decide +kernel
theorem dL_law_686 : decode cL_law 686 = .ok (.if_icmp .eq 215, 3) := by decide +kernel
theorem dL_law_689 : decode cL_law 689 = .ok (.iconst 0, 1) := by decide +kernel
theorem dL_law_690 : decode cL_law 690 = .ok (.ireturn, 1) := by decide +kernel
theorem dL_law_691 : decode cL_law 691 = .ok (.aload_n 1, 1) := by decide +kernel
theorem dL_law_692 : decode cL_law 692 = .ok (.aload_n 0, 1) := by decide +kernel
theorem dL_law_693 : decode cL_law 693 = .ok (.iload_n 3, 1) := by decide +kernel
theorem dL_law_694 : decode cL_law 694 = .ok (.iconst 1, 1) := by decide +kernel
theorem dL_law_695 : decode cL_law 695 = .ok (.iadd, 1) := by decide +kernel
theorem dL_law_696 : decode cL_law 696 = .ok (.iaload, 1) := by decide +kernel
theorem dL_law_697 : decode cL_law 697 = .ok (.aload_n 0, 1) := by decide +kernel
theorem dL_law_698 : decode cL_law 698 = .ok (.iload_n 3, 1) := by decide +kernel
theorem dL_law_699 : decode cL_law 699 = .ok (.iconst 2, 1) := by decide +kernel
theorem dL_law_700 : decode cL_law 700 = .ok (.iadd, 1) := by decide +kernel
theorem dL_law_701 : decode cL_law 701 = .ok (.iaload, 1) := by decide +kernel
theorem dL_law_702 : decode cL_law 702 = .ok (.invokevirtual 104, 3) := by decide +kernel
theorem dL_law_705 : decode cL_law 705 = .ok (.aload_n 2, 1) := by decide +kernel
theorem dL_law_706 : decode cL_law 706 = .ok (.aload_n 0, 1) := by decide +kernel
theorem dL_law_707 : decode cL_law 707 = .ok (.iload_n 3, 1) := by decide +kernel
theorem dL_law_708 : decode cL_law 708 = .ok (.iconst 1, 1) := by decide +kernel
theorem dL_law_709 : decode cL_law 709 = .ok (.iadd, 1) := by decide +kernel
theorem dL_law_710 : decode cL_law 710 = .ok (.iaload, 1) := by decide +kernel
theorem dL_law_711 : decode cL_law 711 = .ok (.aload_n 0, 1) := by decide +kernel
theorem dL_law_712 : decode cL_law 712 = .ok (.iload_n 3, 1) := by decide +kernel
theorem dL_law_713 : decode cL_law 713 = .ok (.iconst 2, 1) := by decide +kernel
theorem dL_law_714 : decode cL_law 714 = .ok (.iadd, 1) := by decide +kernel
theorem dL_law_715 : decode cL_law 715 = .ok (.iaload, 1) := by decide +kernel
theorem dL_law_716 : decode cL_law 716 = .ok (.invokevirtual 107, 3) := by decide +kernel
theorem dL_law_719 : decode cL_law 719 = .ok (.if_icmp .eq 182, 3) := by decide +kernel
theorem dL_law_722 : decode cL_law 722 = .ok (.iconst 0, 1) := by decide +kernel
theorem dL_law_723 : decode cL_law 723 = .ok (.ireturn, 1) := by decide +kernel
theorem dL_law_724 : decode cL_law 724 = .ok (.aload_n 1, 1) := by decide +kernel
theorem dL_law_725 : decode cL_law 725 = .ok (.aload_n 0, 1) := by decide +kernel
theorem dL_law_726 : decode cL_law 726 = .ok (.iload_n 3, 1) := by decide +kernel
theorem dL_law_727 : decode cL_law 727 = .ok (.iconst 1, 1) := by decide +kernel
theorem dL_law_728 : decode cL_law 728 = .ok (.iadd, 1) := by decide +kernel
theorem dL_law_729 : decode cL_law 729 = .ok (.iaload, 1) := by decide +kernel
theorem dL_law_730 : decode cL_law 730 = .ok (.invokevirtual 108, 3) := by decide +kernel
theorem dL_law_733 : decode cL_law 733 = .ok (.aload_n 2, 1) := by decide +kernel
theorem dL_law_734 : decode cL_law 734 = .ok (.aload_n 0, 1) := by decide +kernel
theorem dL_law_735 : decode cL_law 735 = .ok (.iload_n 3, 1) := by decide +kernel
theorem dL_law_736 : decode cL_law 736 = .ok (.iconst 1, 1) := by decide +kernel
theorem dL_law_737 : decode cL_law 737 = .ok (.iadd, 1) := by decide +kernel
theorem dL_law_738 : decode cL_law 738 = .ok (.iaload, 1) := by decide +kernel
theorem dL_law_739 : decode cL_law 739 = .ok (.invokevirtual 111, 3) := by decide +kernel
theorem dL_law_742 : decode cL_law 742 = .ok (.if_icmp .eq 159, 3) := by decide +kernel
theorem dL_law_745 : decode cL_law 745 = .ok (.iconst 0, 1) := by decide +kernel
theorem dL_law_746 : decode cL_law 746 = .ok (.ireturn, 1) := by decide +kernel
theorem dL_law_747 : decode cL_law 747 = .ok (.aload_n 1, 1) := by decide +kernel
theorem dL_law_748 : decode cL_law 748 = .ok (.invokevirtual 112, 3) := by decide +kernel
theorem dL_law_751 : decode cL_law 751 = .ok (.aload_n 2, 1) := by decide +kernel
theorem dL_law_752 : decode cL_law 752 = .ok (.invokevirtual 115, 3) := by decide +kernel
theorem dL_law_755 : decode cL_law 755 = .ok (.if_icmp .eq 146, 3) := by decide +kernel
theorem dL_law_758 : decode cL_law 758 = .ok (.iconst 0, 1) := by decide +kernel
theorem dL_law_759 : decode cL_law 759 = .ok (.ireturn, 1) := by decide +kernel
theorem dL_law_760 : decode cL_law 760 = .ok (.aload_n 1, 1) := by decide +kernel
theorem dL_law_761 : decode cL_law 761 = .ok (.invokevirtual 116, 3) := by decide +kernel
theorem dL_law_764 : decode cL_law 764 = .ok (.f2d, 1) := by decide +kernel
theorem dL_law_765 : decode cL_law 765 = .ok (.dstore 4, 2) := by decide +kernel
theorem dL_law_767 : decode cL_law 767 = .ok (.aload_n 2, 1) := by decide +kernel
theorem dL_law_768 : decode cL_law 768 = .ok (.invokevirtual 120, 3) := by decide +kernel
theorem dL_law_771 : decode cL_law 771 = .ok (.f2d, 1) := by decide +kernel
theorem dL_law_772 : decode cL_law 772 = .ok (.dstore 6, 2) := by decide +kernel
theorem dL_law_774 : decode cL_law 774 = .ok (.dload 4, 2) := by decide +kernel
theorem dL_law_776 : decode cL_law 776 = .ok (.dload 6, 2) := by decide +kernel
theorem dL_law_778 : decode cL_law 778 = .ok (.dcmp .l, 1) := by decide +kernel
theorem dL_law_779 : decode cL_law 779 = .ok (.ifCond .eq 21, 3) := by decide +kernel
theorem dL_law_782 : decode cL_law 782 = .ok (.dload 4, 2) := by decide +kernel
theorem dL_law_784 : decode cL_law 784 = .ok (.dload 4, 2) := by decide +kernel
theorem dL_law_786 : decode cL_law 786 = .ok (.dcmp .l, 1) := by decide +kernel
theorem dL_law_787 : decode cL_law 787 = .ok (.ifCond .eq 11, 3) := by decide +kernel
theorem dL_law_790 : decode cL_law 790 = .ok (.dload 6, 2) := by decide +kernel
theorem dL_law_792 : decode cL_law 792 = .ok (.dload 6, 2) := by decide +kernel
theorem dL_law_794 : decode cL_law 794 = .ok (.dcmp .l, 1) := by decide +kernel
theorem dL_law_795 : decode cL_law 795 = .ok (.ifCond .ne 5, 3) := by decide +kernel
theorem dL_law_798 : decode cL_law 798 = .ok (.iconst 0, 1) := by decide +kernel
theorem dL_law_799 : decode cL_law 799 = .ok (.ireturn, 1) := by decide +kernel
theorem dL_law_800 : decode cL_law 800 = .ok (.goto 101, 3) := by decide +kernel
theorem dL_law_803 : decode cL_law 803 = .ok (.aload_n 1, 1) := by decide +kernel
theorem dL_law_804 : decode cL_law 804 = .ok (.aload_n 0, 1) := by decide +kernel
theorem dL_law_805 : decode cL_law 805 = .ok (.iload_n 3, 1) := by decide +kernel
theorem dL_law_806 : decode cL_law 806 = .ok (.iconst 1, 1) := by decide +kernel
theorem dL_law_807 : decode cL_law 807 = .ok (.iadd, 1) := by decide +kernel
theorem dL_law_808 : decode cL_law 808 = .ok (.iaload, 1) := by decide +kernel
theorem dL_law_809 : decode cL_law 809 = .ok (.ifCond .eq 7, 3) := by decide +kernel
theorem dL_law_812 : decode cL_law 812 = .ok (.iconst 1, 1) := by decide +kernel
theorem dL_law_813 : decode cL_law 813 = .ok (.goto 4, 3) := by decide +kernel
theorem dL_law_816 : decode cL_law 816 = .ok (.iconst 0, 1) := by decide +kernel
theorem dL_law_817 : decode cL_law 817 = .ok (.invokevirtual 121, 3) := by decide +kernel
theorem dL_law_820 : decode cL_law 820 = .ok (.aload_n 2, 1) := by decide +kernel
theorem dL_law_821 : decode cL_law 821 = .ok (.aload_n 0, 1) := by decide +kernel
theorem dL_law_822 : decode cL_law 822 = .ok (.iload_n 3, 1) := by decide +kernel
theorem dL_law_823 : decode cL_law 823 = .ok (.iconst 1, 1) := by decide +kernel
theorem dL_law_824 : decode cL_law 824 = .ok (.iadd, 1) := by decide +kernel
theorem dL_law_825 : decode cL_law 825 = .ok (.iaload, 1) := by decide +kernel
theorem dL_law_826 : decode cL_law 826 = .ok (.ifCond .eq 7, 3) := by decide +kernel
theorem dL_law_829 : decode cL_law 829 = .ok (.iconst 1, 1) := by decide +kernel
theorem dL_law_830 : decode cL_law 830 = .ok (.goto 4, 3) := by decide +kernel
theorem dL_law_833 : decode cL_law 833 = .ok (.iconst 0, 1) := by decide +kernel
theorem dL_law_834 : decode cL_law 834 = .ok (.invokevirtual 124, 3) := by decide +kernel
theorem dL_law_837 : decode cL_law 837 = .ok (.if_icmp .eq 64, 3) := by decide +kernel
theorem dL_law_840 : decode cL_law 840 = .ok (.iconst 0, 1) := by decide +kernel
theorem dL_law_841 : decode cL_law 841 = .ok (.ireturn, 1) := by decide +kernel
theorem dL_law_842 : decode cL_law 842 = .ok (.aload_n 1, 1) := by decide +kernel
theorem dL_law_843 : decode cL_law 843 = .ok (.aload_n 0, 1) := by decide +kernel
theorem dL_law_844 : decode cL_law 844 = .ok (.iload_n 3, 1) := by decide +kernel
theorem dL_law_845 : decode cL_law 845 = .ok (.iconst 1, 1) := by decide +kernel
theorem dL_law_846 : decode cL_law 846 = .ok (.iadd, 1) := by decide +kernel
theorem dL_law_847 : decode cL_law 847 = .ok (.iaload, 1) := by decide +kernel
theorem dL_law_848 : decode cL_law 848 = .ok (.invokevirtual 125, 3) := by decide +kernel
theorem dL_law_851 : decode cL_law 851 = .ok (.aload_n 2, 1) := by decide +kernel
theorem dL_law_852 : decode cL_law 852 = .ok (.aload_n 0, 1) := by decide +kernel
theorem dL_law_853 : decode cL_law 853 = .ok (.iload_n 3, 1) := by decide +kernel
theorem dL_law_854 : decode cL_law 854 = .ok (.iconst 1, 1) := by decide +kernel
theorem dL_law_855 : decode cL_law 855 = .ok (.iadd, 1) := by decide +kernel
theorem dL_law_856 : decode cL_law 856 = .ok (.iaload, 1) := by decide +kernel
theorem dL_law_857 : decode cL_law 857 = .ok (.invokevirtual 128, 3) := by decide +kernel
theorem dL_law_860 : decode cL_law 860 = .ok (.if_icmp .eq 41, 3) := by decide +kernel
theorem dL_law_863 : decode cL_law 863 = .ok (.iconst 0, 1) := by decide +kernel
theorem dL_law_864 : decode cL_law 864 = .ok (.ireturn, 1) := by decide +kernel
theorem dL_law_865 : decode cL_law 865 = .ok (.aload_n 1, 1) := by decide +kernel
theorem dL_law_866 : decode cL_law 866 = .ok (.invokevirtual 129, 3) := by decide +kernel
theorem dL_law_869 : decode cL_law 869 = .ok (.aload_n 2, 1) := by decide +kernel
theorem dL_law_870 : decode cL_law 870 = .ok (.invokevirtual 132, 3) := by decide +kernel
theorem dL_law_873 : decode cL_law 873 = .ok (.if_icmp .eq 28, 3) := by decide +kernel
theorem dL_law_876 : decode cL_law 876 = .ok (.iconst 0, 1) := by decide +kernel
theorem dL_law_877 : decode cL_law 877 = .ok (.ireturn, 1) := by decide +kernel
theorem dL_law_878 : decode cL_law 878 = .ok (.aload_n 1, 1) := by decide +kernel
theorem dL_law_879 : decode cL_law 879 = .ok (.aload_n 0, 1) := by decide +kernel
theorem dL_law_880 : decode cL_law 880 = .ok (.iload_n 3, 1) := by decide +kernel
theorem dL_law_881 : decode cL_law 881 = .ok (.iconst 1, 1) := by decide +kernel
theorem dL_law_882 : decode cL_law 882 = .ok (.iadd, 1) := by decide +kernel
theorem dL_law_883 : decode cL_law 883 = .ok (.iaload, 1) := by decide +kernel
theorem dL_law_884 : decode cL_law 884 = .ok (.invokevirtual 133, 3) := by decide +kernel
theorem dL_law_887 : decode cL_law 887 = .ok (.aload_n 2, 1) := by decide +kernel
theorem dL_law_888 : decode cL_law 888 = .ok (.aload_n 0, 1) := by decide +kernel
theorem dL_law_889 : decode cL_law 889 = .ok (.iload_n 3, 1) := by decide +kernel
theorem dL_law_890 : decode cL_law 890 = .ok (.iconst 1, 1) := by decide +kernel
theorem dL_law_891 : decode cL_law 891 = .ok (.iadd, 1) := by decide +kernel
theorem dL_law_892 : decode cL_law 892 = .ok (.iaload, 1) := by decide +kernel
theorem dL_law_893 : decode cL_law 893 = .ok (.invokevirtual 136, 3) := by decide +kernel
theorem dL_law_896 : decode cL_law 896 = .ok (.if_icmp .eq 5, 3) := by decide +kernel
theorem dL_law_899 : decode cL_law 899 = .ok (.iconst 0, 1) := by decide +kernel
theorem dL_law_900 : decode cL_law 900 = .ok (.ireturn, 1) := by decide +kernel
theorem dL_law_901 : decode cL_law 901 = .ok (.iinc 3 4, 3) := by decide +kernel
theorem dL_law_904 : decode cL_law 904 = .ok (.goto (-886), 3) := by decide +kernel
theorem dL_law_907 : decode cL_law 907 = .ok (.iconst 1, 1) := by decide +kernel
theorem dL_law_908 : decode cL_law 908 = .ok (.ireturn, 1) := by decide +kernel
abbrev vwCl : List vw_C := [(RX0, TX0, 3), (RX1, TX1, 3), (RX2, TX2, 3), (RX3, TX3, 11), (RX4, TX4, 7), (RX5, TX5, 6), (RX6, TX6, 14)]
