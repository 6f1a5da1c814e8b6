def RX0 : String := "CardSheets$History"
def TX0 : u_T := fun k => match k with
  | 0 => ("CardSheets$History", "states", "[LCardSheets$State;", true)
  | 1 => ("CardSheets$History", "next", "I", false)
  | _ => ("CardSheets$History", "size", "I", false)
def tyX0 : Nat → FieldType := fun k => match k with
  | 0 => .array (.object "CardSheets$State")
  | 1 => .int
  | _ => .int
theorem nmX0 : ∀ a, a < 3 → ∀ b, b < 3 → a ≠ b → (TX0 a).2.1 ≠ (TX0 b).2.1 := by decide +kernel
theorem tyX0_ok : ∀ k, k < 3 → parseFieldDescriptor (TX0 k).2.2.1 = some (tyX0 k) := by decide +kernel
abbrev cX0_init : ByteArray := prog_2_method_1_code
def yX0_init : MethodName := ⟨RX0, "<init>", "()V"⟩
abbrev cX0_record : ByteArray := prog_2_method_2_code
def yX0_record : MethodName := ⟨RX0, "record", "(LCardSheets$State;)V"⟩
abbrev cX0_takeLatestInto : ByteArray := prog_2_method_3_code
def yX0_takeLatestInto : MethodName := ⟨RX0, "takeLatestInto", "(LCardSheets$State;)V"⟩
abbrev cX0_copyTo : ByteArray := prog_2_method_4_code
def yX0_copyTo : MethodName := ⟨RX0, "copyTo", "(ILCardSheets$State;)V"⟩
def RX1 : String := "CardSheets$Pack"
def TX1 : u_T := fun k => match k with
  | 0 => ("CardSheets$Pack", "order", "[I", true)
  | 1 => ("CardSheets$Pack", "from", "LCardSheets$Sheet;", false)
  | _ => ("CardSheets$Pack", "dealt", "I", false)
def tyX1 : Nat → FieldType := fun k => match k with
  | 0 => .array .int
  | 1 => .object "CardSheets$Sheet"
  | _ => .int
theorem nmX1 : ∀ a, a < 3 → ∀ b, b < 3 → a ≠ b → (TX1 a).2.1 ≠ (TX1 b).2.1 := by decide +kernel
theorem tyX1_ok : ∀ k, k < 3 → parseFieldDescriptor (TX1 k).2.2.1 = some (tyX1 k) := by decide +kernel
abbrev cX1_init : ByteArray := prog_3_method_1_code
def yX1_init : MethodName := ⟨RX1, "<init>", "()V"⟩
abbrev cX1_copyFrom : ByteArray := prog_3_method_2_code
def yX1_copyFrom : MethodName := ⟨RX1, "copyFrom", "(LCardSheets$Pack;)V"⟩
abbrev cX1_layDown : ByteArray := prog_3_method_3_code
def yX1_layDown : MethodName := ⟨RX1, "layDown", "(LCardSheets$Sheet;I)V"⟩
abbrev cX1_takeAway : ByteArray := prog_3_method_4_code
def yX1_takeAway : MethodName := ⟨RX1, "takeAway", "()V"⟩
abbrev cX1_isThere : ByteArray := prog_3_method_5_code
def yX1_isThere : MethodName := ⟨RX1, "isThere", "()Z"⟩
abbrev cX1_left : ByteArray := prog_3_method_6_code
def yX1_left : MethodName := ⟨RX1, "left", "()I"⟩
abbrev cX1_hasPartsAt : ByteArray := prog_3_method_7_code
def yX1_hasPartsAt : MethodName := ⟨RX1, "hasPartsAt", "(I)Z"⟩
abbrev cX1_cardAt : ByteArray := prog_3_method_8_code
def yX1_cardAt : MethodName := ⟨RX1, "cardAt", "(I)I"⟩
abbrev cX1_placeOf : ByteArray := prog_3_method_9_code
def yX1_placeOf : MethodName := ⟨RX1, "placeOf", "(I)I"⟩
abbrev cX1_cutAt : ByteArray := prog_3_method_10_code
def yX1_cutAt : MethodName := ⟨RX1, "cutAt", "(I[I)V"⟩
abbrev cX1_shuffleAt : ByteArray := prog_3_method_11_code
def yX1_shuffleAt : MethodName := ⟨RX1, "shuffleAt", "(I[I)I"⟩
abbrev cX1_marksOf : ByteArray := prog_3_method_12_code
def yX1_marksOf : MethodName := ⟨RX1, "marksOf", "(I)I"⟩
abbrev cX1_marksAt : ByteArray := prog_3_method_13_code
def yX1_marksAt : MethodName := ⟨RX1, "marksAt", "(I)I"⟩
abbrev cX1_canBeAt : ByteArray := prog_3_method_14_code
def yX1_canBeAt : MethodName := ⟨RX1, "canBeAt", "(I)I"⟩
abbrev cX1_guessAt : ByteArray := prog_3_method_15_code
def yX1_guessAt : MethodName := ⟨RX1, "guessAt", "(I)I"⟩
abbrev cX1_known : ByteArray := prog_3_method_16_code
def yX1_known : MethodName := ⟨RX1, "known", "()I"⟩
abbrev cX1_guessedRight : ByteArray := prog_3_method_17_code
def yX1_guessedRight : MethodName := ⟨RX1, "guessedRight", "()I"⟩
abbrev cX1_sumOfChances : ByteArray := prog_3_method_18_code
def yX1_sumOfChances : MethodName := ⟨RX1, "sumOfChances", "()F"⟩
def RX2 : String := "CardSheets$Sheet"
def TX2 : u_T := fun k => match k with
  | 0 => ("CardSheets$Sheet", "cards", "[I", true)
  | 1 => ("CardSheets$Sheet", "marks", "[I", true)
  | _ => ("CardSheets$Sheet", "leans", "[I", true)
def tyX2 : Nat → FieldType := fun k => match k with
  | 0 => .array .int
  | 1 => .array .int
  | _ => .array .int
theorem nmX2 : ∀ a, a < 3 → ∀ b, b < 3 → a ≠ b → (TX2 a).2.1 ≠ (TX2 b).2.1 := by decide +kernel
theorem tyX2_ok : ∀ k, k < 3 → parseFieldDescriptor (TX2 k).2.2.1 = some (tyX2 k) := by decide +kernel
abbrev cX2_init : ByteArray := prog_4_method_1_code
def yX2_init : MethodName := ⟨RX2, "<init>", "([I[I[IZ)V"⟩
abbrev cX2_cardCutTo : ByteArray := prog_4_method_2_code
def yX2_cardCutTo : MethodName := ⟨RX2, "cardCutTo", "(II)I"⟩
abbrev cX2_cardsAtHome : ByteArray := prog_4_method_3_code
def yX2_cardsAtHome : MethodName := ⟨RX2, "cardsAtHome", "(I)I"⟩
def RX3 : String := "CardSheets$State"
def TX3 : u_T := fun k => match k with
  | 0 => ("CardSheets$State", "cards", "[I", true)
  | 1 => ("CardSheets$State", "leans", "[I", true)
  | 2 => ("CardSheets$State", "backs", "[I", true)
  | 3 => ("CardSheets$State", "settings", "[I", true)
  | 4 => ("CardSheets$State", "pile", "[LCardSheets$Sheet;", true)
  | 5 => ("CardSheets$State", "pack", "LCardSheets$Pack;", true)
  | 6 => ("CardSheets$State", "piled", "I", false)
  | 7 => ("CardSheets$State", "printed", "I", false)
  | 8 => ("CardSheets$State", "sold", "I", false)
  | 9 => ("CardSheets$State", "pulped", "I", false)
  | _ => ("CardSheets$State", "coins", "I", false)
def tyX3 : Nat → FieldType := fun k => match k with
  | 0 => .array .int
  | 1 => .array .int
  | 2 => .array .int
  | 3 => .array .int
  | 4 => .array (.object "CardSheets$Sheet")
  | 5 => .object "CardSheets$Pack"
  | 6 => .int
  | 7 => .int
  | 8 => .int
  | 9 => .int
  | _ => .int
theorem nmX3 : ∀ a, a < 11 → ∀ b, b < 11 → a ≠ b → (TX3 a).2.1 ≠ (TX3 b).2.1 := by decide +kernel
theorem tyX3_ok : ∀ k, k < 11 → parseFieldDescriptor (TX3 k).2.2.1 = some (tyX3 k) := by decide +kernel
abbrev cX3_init : ByteArray := prog_5_method_1_code
def yX3_init : MethodName := ⟨RX3, "<init>", "()V"⟩
abbrev cX3_copyFrom : ByteArray := prog_5_method_2_code
def yX3_copyFrom : MethodName := ⟨RX3, "copyFrom", "(LCardSheets$State;)V"⟩
abbrev cX3_exchange : ByteArray := prog_5_method_3_code
def yX3_exchange : MethodName := ⟨RX3, "exchange", "(II)V"⟩
abbrev cX3_cellOf : ByteArray := prog_5_method_4_code
def yX3_cellOf : MethodName := ⟨RX3, "cellOf", "(I)I"⟩
abbrev cX3_hasMark : ByteArray := prog_5_method_5_code
def yX3_hasMark : MethodName := ⟨RX3, "hasMark", "(II)Z"⟩
abbrev cX3_setMark : ByteArray := prog_5_method_6_code
def yX3_setMark : MethodName := ⟨RX3, "setMark", "(IIZ)V"⟩
abbrev cX3_marksOnBacks : ByteArray := prog_5_method_7_code
def yX3_marksOnBacks : MethodName := ⟨RX3, "marksOnBacks", "()I"⟩
abbrev cX3_sheetAt : ByteArray := prog_5_method_8_code
def yX3_sheetAt : MethodName := ⟨RX3, "sheetAt", "(I)LCardSheets$Sheet;"⟩
abbrev cX3_printSheet : ByteArray := prog_5_method_9_code
def yX3_printSheet : MethodName := ⟨RX3, "printSheet", "(Z)V"⟩
abbrev cX3_wear : ByteArray := prog_5_method_10_code
def yX3_wear : MethodName := ⟨RX3, "wear", "()V"⟩
abbrev cX3_takeTopSheet : ByteArray := prog_5_method_11_code
def yX3_takeTopSheet : MethodName := ⟨RX3, "takeTopSheet", "()LCardSheets$Sheet;"⟩
abbrev cX3_reasonAgainstSale : ByteArray := prog_5_method_12_code
def yX3_reasonAgainstSale : MethodName := ⟨RX3, "reasonAgainstSale", "()I"⟩
abbrev cX3_knownIfPrinted : ByteArray := prog_5_method_13_code
def yX3_knownIfPrinted : MethodName := ⟨RX3, "knownIfPrinted", "(ZI)I"⟩
def RX4 : String := "CardSheets$Text"
def TX4 : u_T := fun k => match k with
  | 0 => ("CardSheets$Text", "signs", "[C", true)
  | 1 => ("CardSheets$Text", "length", "I", false)
  | 2 => ("CardSheets$Text", "next", "I", false)
  | 3 => ("CardSheets$Text", "kinds", "[C", true)
  | 4 => ("CardSheets$Text", "firsts", "[I", true)
  | 5 => ("CardSheets$Text", "seconds", "[I", true)
  | _ => ("CardSheets$Text", "changes", "I", false)
def tyX4 : Nat → FieldType := fun k => match k with
  | 0 => .array .char
  | 1 => .int
  | 2 => .int
  | 3 => .array .char
  | 4 => .array .int
  | 5 => .array .int
  | _ => .int
theorem nmX4 : ∀ a, a < 7 → ∀ b, b < 7 → a ≠ b → (TX4 a).2.1 ≠ (TX4 b).2.1 := by decide +kernel
theorem tyX4_ok : ∀ k, k < 7 → parseFieldDescriptor (TX4 k).2.2.1 = some (tyX4 k) := by decide +kernel
abbrev cX4_init : ByteArray := prog_6_method_1_code
def yX4_init : MethodName := ⟨RX4, "<init>", "()V"⟩
def RX5 : String := "CardSheets"
def TX5 : u_T := fun k => match k with
  | 0 => ("CardSheets", "now", "LCardSheets$State;", true)
  | 1 => ("CardSheets", "snapshot", "LCardSheets$State;", true)
  | 2 => ("CardSheets", "history", "LCardSheets$History;", true)
  | 3 => ("CardSheets", "text", "LCardSheets$Text;", true)
  | 4 => ("CardSheets", "spare", "[I", true)
  | _ => ("CardSheets", "isKept", "Z", false)
def tyX5 : Nat → FieldType := fun k => match k with
  | 0 => .object "CardSheets$State"
  | 1 => .object "CardSheets$State"
  | 2 => .object "CardSheets$History"
  | 3 => .object "CardSheets$Text"
  | 4 => .array .int
  | _ => .boolean
theorem nmX5 : ∀ a, a < 6 → ∀ b, b < 6 → a ≠ b → (TX5 a).2.1 ≠ (TX5 b).2.1 := by decide +kernel
theorem tyX5_ok : ∀ k, k < 6 → parseFieldDescriptor (TX5 k).2.2.1 = some (tyX5 k) := by decide +kernel
abbrev cX5_init : ByteArray := prog_1_method_1_code
def yX5_init : MethodName := ⟨RX5, "<init>", "()V"⟩
abbrev cX5_swap : ByteArray := prog_1_method_2_code
def yX5_swap : MethodName := ⟨RX5, "swap", "(II)I"⟩
abbrev cX5_mark : ByteArray := prog_1_method_3_code
def yX5_mark : MethodName := ⟨RX5, "mark", "(IIZ)I"⟩
abbrev cX5_lean : ByteArray := prog_1_method_4_code
def yX5_lean : MethodName := ⟨RX5, "lean", "(II)I"⟩
abbrev cX5_set : ByteArray := prog_1_method_6_code
def yX5_set : MethodName := ⟨RX5, "set", "(II)I"⟩
abbrev cX5_print : ByteArray := prog_1_method_7_code
def yX5_print : MethodName := ⟨RX5, "print", "(Z)I"⟩
abbrev cX5_cutSheet : ByteArray := prog_1_method_8_code
def yX5_cutSheet : MethodName := ⟨RX5, "cutSheet", "(I)I"⟩
abbrev cX5_cutPack : ByteArray := prog_1_method_9_code
def yX5_cutPack : MethodName := ⟨RX5, "cutPack", "(I)I"⟩
abbrev cX5_shuffle : ByteArray := prog_1_method_10_code
def yX5_shuffle : MethodName := ⟨RX5, "shuffle", "(I)I"⟩
abbrev cX5_deal : ByteArray := prog_1_method_11_code
def yX5_deal : MethodName := ⟨RX5, "deal", "(I)I"⟩
abbrev cX5_sell : ByteArray := prog_1_method_12_code
def yX5_sell : MethodName := ⟨RX5, "sell", "()I"⟩
abbrev cX5_pulp : ByteArray := prog_1_method_13_code
def yX5_pulp : MethodName := ⟨RX5, "pulp", "()I"⟩
abbrev cX5_undo : ByteArray := prog_1_method_17_code
def yX5_undo : MethodName := ⟨RX5, "undo", "()I"⟩
abbrev cX5_block : ByteArray := prog_1_method_20_code
def yX5_block : MethodName := ⟨RX5, "block", "(II)I"⟩
abbrev cX5_cardOf : ByteArray := prog_1_method_21_code
def yX5_cardOf : MethodName := ⟨RX5, "cardOf", "(II)I"⟩
abbrev cX5_sheet : ByteArray := prog_1_method_22_code
def yX5_sheet : MethodName := ⟨RX5, "sheet", "(III)I"⟩
abbrev cX5_pack : ByteArray := prog_1_method_23_code
def yX5_pack : MethodName := ⟨RX5, "pack", "(II)I"⟩
abbrev cX5_count : ByteArray := prog_1_method_24_code
def yX5_count : MethodName := ⟨RX5, "count", "(I)I"⟩
abbrev cX5_why : ByteArray := prog_1_method_25_code
def yX5_why : MethodName := ⟨RX5, "why", "()I"⟩
abbrev cX5_chances : ByteArray := prog_1_method_26_code
def yX5_chances : MethodName := ⟨RX5, "chances", "()F"⟩
abbrev cX5_ifPrinted : ByteArray := prog_1_method_27_code
def yX5_ifPrinted : MethodName := ⟨RX5, "ifPrinted", "(Z)I"⟩
abbrev cX5_bestWay : ByteArray := prog_1_method_29_code
def yX5_bestWay : MethodName := ⟨RX5, "bestWay", "()I"⟩
abbrev cX5_isCell : ByteArray := prog_1_method_32_code
def yX5_isCell : MethodName := ⟨RX5, "isCell", "(I)Z"⟩
abbrev cX5_isCard : ByteArray := prog_1_method_33_code
def yX5_isCard : MethodName := ⟨RX5, "isCard", "(I)Z"⟩
abbrev cX5_isMark : ByteArray := prog_1_method_34_code
def yX5_isMark : MethodName := ⟨RX5, "isMark", "(I)Z"⟩
abbrev cX5_isCourt : ByteArray := prog_1_method_35_code
def yX5_isCourt : MethodName := ⟨RX5, "isCourt", "(I)Z"⟩
abbrev cX5_at : ByteArray := prog_1_method_36_code
def yX5_at : MethodName := ⟨RX5, "at", "([II)I"⟩
abbrev cX5_put : ByteArray := prog_1_method_37_code
def yX5_put : MethodName := ⟨RX5, "put", "([III)V"⟩
abbrev cX5_copyRow : ByteArray := prog_1_method_38_code
def yX5_copyRow : MethodName := ⟨RX5, "copyRow", "([I[I)V"⟩
abbrev cX5_courtsBeyond : ByteArray := prog_1_method_39_code
def yX5_courtsBeyond : MethodName := ⟨RX5, "courtsBeyond", "([II)I"⟩
abbrev cX5_cellAt : ByteArray := prog_1_method_40_code
def yX5_cellAt : MethodName := ⟨RX5, "cellAt", "(II)I"⟩
abbrev cX5_along : ByteArray := prog_1_method_41_code
def yX5_along : MethodName := ⟨RX5, "along", "(IIZ)I"⟩
abbrev cX5_placeBefore : ByteArray := prog_1_method_42_code
def yX5_placeBefore : MethodName := ⟨RX5, "placeBefore", "(III)I"⟩
def RX6 : String := "CardSheetsModel"
def TX6 : u_T := fun k => match k with
  | _ => ("", "", "", false)
def tyX6 : Nat → FieldType := fun k => match k with
  | _ => .int
theorem nmX6 : ∀ a, a < 0 → ∀ b, b < 0 → a ≠ b → (TX6 a).2.1 ≠ (TX6 b).2.1 := by decide +kernel
theorem tyX6_ok : ∀ k, k < 0 → parseFieldDescriptor (TX6 k).2.2.1 = some (tyX6 k) := by decide +kernel
def RJ6 : String := "java/lang/Integer"
def TJ6 : u_T := fun k => match k with
  | _ => ("", "", "", false)
def tyJ6 : Nat → FieldType := fun k => match k with
  | _ => .int
theorem nmJ6 : ∀ a, a < 0 → ∀ b, b < 0 → a ≠ b → (TJ6 a).2.1 ≠ (TJ6 b).2.1 := by decide +kernel
theorem tyJ6_ok : ∀ k, k < 0 → parseFieldDescriptor (TJ6 k).2.2.1 = some (tyJ6 k) := by decide +kernel
abbrev cJ6_bitCount_0f7a4 : ByteArray := prog_9_method_49_code
def yJ6_bitCount_0f7a4 : MethodName := ⟨RJ6, "bitCount", "(I)I"⟩
def RJ9 : String := "java/lang/Math"
def TJ9 : u_T := fun k => match k with
  | _ => ("", "", "", false)
def tyJ9 : Nat → FieldType := fun k => match k with
  | _ => .int
theorem nmJ9 : ∀ a, a < 0 → ∀ b, b < 0 → a ≠ b → (TJ9 a).2.1 ≠ (TJ9 b).2.1 := by decide +kernel
theorem tyJ9_ok : ∀ k, k < 0 → parseFieldDescriptor (TJ9 k).2.2.1 = some (tyJ9 k) := by decide +kernel
abbrev cJ9_abs_0f7a4 : ByteArray := prog_10_method_59_code
def yJ9_abs_0f7a4 : MethodName := ⟨RJ9, "abs", "(I)I"⟩
abbrev cJ9_min_7cf53 : ByteArray := prog_10_method_69_code
def yJ9_min_7cf53 : MethodName := ⟨RJ9, "min", "(II)I"⟩
def RJ10 : String := "java/lang/System"
def TJ10 : u_T := fun k => match k with
  | _ => ("", "", "", false)
def tyJ10 : Nat → FieldType := fun k => match k with
  | _ => .int
theorem nmJ10 : ∀ a, a < 0 → ∀ b, b < 0 → a ≠ b → (TJ10 a).2.1 ≠ (TJ10 b).2.1 := by decide +kernel
theorem tyJ10_ok : ∀ k, k < 0 → parseFieldDescriptor (TJ10 k).2.2.1 = some (tyJ10 k) := by decide +kernel
def RL : String := "CardSheetsLaw"
abbrev cL_cell : ByteArray := method_2_code
def yL_cell : MethodName := ⟨RL, "cell", "([II)I"⟩
abbrev cL_low : ByteArray := method_3_code
def yL_low : MethodName := ⟨RL, "low", "(II)I"⟩
abbrev cL_ones : ByteArray := method_4_code
def yL_ones : MethodName := ⟨RL, "ones", "(I)I"⟩
abbrev cL_court : ByteArray := method_5_code
def yL_court : MethodName := ⟨RL, "court", "(I)I"⟩
abbrev cL_sheetAt : ByteArray := method_6_code
def yL_sheetAt : MethodName := ⟨RL, "sheetAt", "(II[I)I"⟩
abbrev cL_prints : ByteArray := method_7_code
def yL_prints : MethodName := ⟨RL, "prints", "(Z[I[I[I[I[I)V"⟩
abbrev cL_cellAt : ByteArray := method_8_code
def yL_cellAt : MethodName := ⟨RL, "cellAt", "(II)I"⟩
abbrev cL_cuts : ByteArray := method_9_code
def yL_cuts : MethodName := ⟨RL, "cuts", "(I[I[I[I[I[I)V"⟩
abbrev cL_shuffles : ByteArray := method_10_code
def yL_shuffles : MethodName := ⟨RL, "shuffles", "(I[I[I)I"⟩
abbrev cL_turns : ByteArray := method_11_code
def yL_turns : MethodName := ⟨RL, "turns", "(I[I[I)V"⟩
abbrev cL_alike : ByteArray := method_12_code
def yL_alike : MethodName := ⟨RL, "alike", "(I[I[I)I"⟩
abbrev cL_known : ByteArray := method_13_code
def yL_known : MethodName := ⟨RL, "known", "([I[I[I)I"⟩
abbrev cL_leaning : ByteArray := method_14_code
def yL_leaning : MethodName := ⟨RL, "leaning", "(I[I)I"⟩
abbrev cL_why : ByteArray := method_15_code
def yL_why : MethodName := ⟨RL, "why", "([I[I[I[I)I"⟩
abbrev cL_call : ByteArray := method_16_code
def yL_call : MethodName := ⟨RL, "call", "(LCardSheets;IIII)I"⟩
abbrev cL_ofBlocks : ByteArray := method_17_code
def yL_ofBlocks : MethodName := ⟨RL, "ofBlocks", "(IIII[I[I[I[I)I"⟩
abbrev cL_ofPack : ByteArray := method_18_code
def yL_ofPack : MethodName := ⟨RL, "ofPack", "(II[I[I[I[I[I)I"⟩
abbrev cL_isPack : ByteArray := method_19_code
def yL_isPack : MethodName := ⟨RL, "isPack", "(LCardSheets;I[I[I[I)Z"⟩
abbrev cL_isSo : ByteArray := method_20_code
def yL_isSo : MethodName := ⟨RL, "isSo", "(LCardSheets;I[I[I[I[I[I[I[I[I)Z"⟩
abbrev cL_told : ByteArray := method_21_code
def yL_told : MethodName := ⟨RL, "told", "(LCardSheets;)J"⟩
abbrev cL_law : ByteArray := code
def yL_law : MethodName := ⟨RL, "law", "([I)Z"⟩
theorem dX0_init_0 : decode cX0_init 0 = .ok (.aload_n 0, 1) := by decide +kernel
theorem dX0_init_1 : decode cX0_init 1 = .ok (.invokespecial 3, 3) := by decide +kernel
theorem dX0_init_4 : decode cX0_init 4 = .ok (.aload_n 0, 1) := by decide +kernel
theorem dX0_init_5 : decode cX0_init 5 = .ok (.iconst 4, 1) := by decide +kernel
theorem dX0_init_6 : decode cX0_init 6 = .ok (.anewarray 9, 3) := by decide +kernel
theorem dX0_init_9 : decode cX0_init 9 = .ok (.putfield 11, 3) := by decide +kernel
theorem dX0_init_12 : decode cX0_init 12 = .ok (.aload_n 0, 1) := by decide +kernel
theorem dX0_init_13 : decode cX0_init 13 = .ok (.iconst 0, 1) := by decide +kernel
theorem dX0_init_14 : decode cX0_init 14 = .ok (.putfield 17, 3) := by decide +kernel
theorem dX0_init_17 : decode cX0_init 17 = .ok (.aload_n 0, 1) := by decide +kernel
theorem dX0_init_18 : decode cX0_init 18 = .ok (.iconst 0, 1) := by decide +kernel
theorem dX0_init_19 : decode cX0_init 19 = .ok (.putfield 21, 3) := by decide +kernel
theorem dX0_init_22 : decode cX0_init 22 = .ok (.iconst 0, 1) := by decide +kernel
theorem dX0_init_23 : decode cX0_init 23 = .ok (.istore_n 1, 1) := by decide +kernel
theorem dX0_init_24 : decode cX0_init 24 = .ok (.iload_n 1, 1) := by decide +kernel
theorem dX0_init_25 : decode cX0_init 25 = .ok (.iconst 4, 1) := by decide +kernel
theorem dX0_init_26 : decode cX0_init 26 = .ok (.if_icmp .ge 22, 3) := by decide +kernel
theorem dX0_init_29 : decode cX0_init 29 = .ok (.aload_n 0, 1) := by decide +kernel
theorem dX0_init_30 : decode cX0_init 30 = .ok (.getfield 11, 3) := by decide +kernel
theorem dX0_init_33 : decode cX0_init 33 = .ok (.iload_n 1, 1) := by decide +kernel
theorem dX0_init_34 : decode cX0_init 34 = .ok (.new 9, 3) := by decide +kernel
theorem dX0_init_37 : decode cX0_init 37 = .ok (.dup, 1) := by decide +kernel
theorem dX0_init_38 : decode cX0_init 38 = .ok (.invokespecial 24, 3) := by decide +kernel
theorem dX0_init_41 : decode cX0_init 41 = .ok (.aastore, 1) := by decide +kernel
theorem dX0_init_42 : decode cX0_init 42 = .ok (.iinc 1 1, 3) := by decide +kernel
theorem dX0_init_45 : decode cX0_init 45 = .ok (.goto (-21), 3) := by decide +kernel
theorem dX0_init_48 : decode cX0_init 48 = .ok (.return_, 1) := by decide +kernel
theorem dX0_record_0 : decode cX0_record 0 = .ok (.aload_n 0, 1) := by decide +kernel
theorem dX0_record_1 : decode cX0_record 1 = .ok (.aload_n 0, 1) := by decide +kernel
theorem dX0_record_2 : decode cX0_record 2 = .ok (.getfield 17, 3) := by decide +kernel
theorem dX0_record_5 : decode cX0_record 5 = .ok (.aload_n 1, 1) := by decide +kernel
theorem dX0_record_6 : decode cX0_record 6 = .ok (.invokevirtual 25, 3) := by decide +kernel
theorem dX0_record_9 : decode cX0_record 9 = .ok (.aload_n 0, 1) := by decide +kernel
theorem dX0_record_10 : decode cX0_record 10 = .ok (.aload_n 0, 1) := by decide +kernel
theorem dX0_record_11 : decode cX0_record 11 = .ok (.getfield 17, 3) := by decide +kernel
theorem dX0_record_14 : decode cX0_record 14 = .ok (.iconst 1, 1) := by decide +kernel
theorem dX0_record_15 : decode cX0_record 15 = .ok (.iadd, 1) := by decide +kernel
theorem dX0_record_16 : decode cX0_record 16 = .ok (.iconst 4, 1) := by decide +kernel
theorem dX0_record_17 : decode cX0_record 17 = .ok (.irem, 1) := by decide +kernel
theorem dX0_record_18 : decode cX0_record 18 = .ok (.putfield 17, 3) := by decide +kernel
theorem dX0_record_21 : decode cX0_record 21 = .ok (.aload_n 0, 1) := by decide +kernel
theorem dX0_record_22 : decode cX0_record 22 = .ok (.aload_n 0, 1) := by decide +kernel
theorem dX0_record_23 : decode cX0_record 23 = .ok (.getfield 21, 3) := by decide +kernel
theorem dX0_record_26 : decode cX0_record 26 = .ok (.iconst 1, 1) := by decide +kernel
theorem dX0_record_27 : decode cX0_record 27 = .ok (.iadd, 1) := by decide +kernel
theorem dX0_record_28 : decode cX0_record 28 = .ok (.iconst 4, 1) := by decide +kernel
theorem dX0_record_29 : decode cX0_record 29 = .ok (.invokestatic 29, 3) := by decide +kernel
theorem dX0_record_32 : decode cX0_record 32 = .ok (.putfield 21, 3) := by decide +kernel
theorem dX0_record_35 : decode cX0_record 35 = .ok (.return_, 1) := by decide +kernel
theorem dX0_takeLatestInto_0 : decode cX0_takeLatestInto 0 = .ok (.aload_n 0, 1) := by decide +kernel
theorem dX0_takeLatestInto_1 : decode cX0_takeLatestInto 1 = .ok (.getfield 21, 3) := by decide +kernel
theorem dX0_takeLatestInto_4 : decode cX0_takeLatestInto 4 = .ok (.ifCond .ne 4, 3) := by decide +kernel
theorem dX0_takeLatestInto_7 : decode cX0_takeLatestInto 7 = .ok (.return_, 1) := by decide +kernel
theorem dX0_takeLatestInto_8 : decode cX0_takeLatestInto 8 = .ok (.aload_n 0, 1) := by decide +kernel
theorem dX0_takeLatestInto_9 : decode cX0_takeLatestInto 9 = .ok (.aload_n 0, 1) := by decide +kernel
theorem dX0_takeLatestInto_10 : decode cX0_takeLatestInto 10 = .ok (.getfield 17, 3) := by decide +kernel
theorem dX0_takeLatestInto_13 : decode cX0_takeLatestInto 13 = .ok (.iconst 4, 1) := by decide +kernel
theorem dX0_takeLatestInto_14 : decode cX0_takeLatestInto 14 = .ok (.iadd, 1) := by decide +kernel
theorem dX0_takeLatestInto_15 : decode cX0_takeLatestInto 15 = .ok (.iconst 1, 1) := by decide +kernel
theorem dX0_takeLatestInto_16 : decode cX0_takeLatestInto 16 = .ok (.isub, 1) := by decide +kernel
theorem dX0_takeLatestInto_17 : decode cX0_takeLatestInto 17 = .ok (.iconst 4, 1) := by decide +kernel
theorem dX0_takeLatestInto_18 : decode cX0_takeLatestInto 18 = .ok (.irem, 1) := by decide +kernel
theorem dX0_takeLatestInto_19 : decode cX0_takeLatestInto 19 = .ok (.putfield 17, 3) := by decide +kernel
theorem dX0_takeLatestInto_22 : decode cX0_takeLatestInto 22 = .ok (.aload_n 0, 1) := by decide +kernel
theorem dX0_takeLatestInto_23 : decode cX0_takeLatestInto 23 = .ok (.dup, 1) := by decide +kernel
theorem dX0_takeLatestInto_24 : decode cX0_takeLatestInto 24 = .ok (.getfield 21, 3) := by decide +kernel
theorem dX0_takeLatestInto_27 : decode cX0_takeLatestInto 27 = .ok (.iconst 1, 1) := by decide +kernel
theorem dX0_takeLatestInto_28 : decode cX0_takeLatestInto 28 = .ok (.isub, 1) := by decide +kernel
theorem dX0_takeLatestInto_29 : decode cX0_takeLatestInto 29 = .ok (.putfield 21, 3) := by decide +kernel
theorem dX0_takeLatestInto_32 : decode cX0_takeLatestInto 32 = .ok (.aload_n 0, 1) := by decide +kernel
theorem dX0_takeLatestInto_33 : decode cX0_takeLatestInto 33 = .ok (.getfield 17, 3) := by decide +kernel
theorem dX0_takeLatestInto_36 : decode cX0_takeLatestInto 36 = .ok (.ifCond .lt 24, 3) := by decide +kernel
theorem dX0_takeLatestInto_39 : decode cX0_takeLatestInto 39 = .ok (.aload_n 0, 1) := by decide +kernel
theorem dX0_takeLatestInto_40 : decode cX0_takeLatestInto 40 = .ok (.getfield 17, 3) := by decide +kernel
theorem dX0_takeLatestInto_43 : decode cX0_takeLatestInto 43 = .ok (.iconst 4, 1) := by decide +kernel
theorem dX0_takeLatestInto_44 : decode cX0_takeLatestInto 44 = .ok (.if_icmp .ge 16, 3) := by decide +kernel
theorem dX0_takeLatestInto_47 : decode cX0_takeLatestInto 47 = .ok (.aload_n 1, 1) := by decide +kernel
theorem dX0_takeLatestInto_48 : decode cX0_takeLatestInto 48 = .ok (.aload_n 0, 1) := by decide +kernel
theorem dX0_takeLatestInto_49 : decode cX0_takeLatestInto 49 = .ok (.getfield 11, 3) := by decide +kernel
theorem dX0_takeLatestInto_52 : decode cX0_takeLatestInto 52 = .ok (.aload_n 0, 1) := by decide +kernel
theorem dX0_takeLatestInto_53 : decode cX0_takeLatestInto 53 = .ok (.getfield 17, 3) := by decide +kernel
theorem dX0_takeLatestInto_56 : decode cX0_takeLatestInto 56 = .ok (.aaload, 1) := by decide +kernel
theorem dX0_takeLatestInto_57 : decode cX0_takeLatestInto 57 = .ok (.invokevirtual 35, 3) := by decide +kernel
theorem dX0_takeLatestInto_60 : decode cX0_takeLatestInto 60 = .ok (.return_, 1) := by decide +kernel
theorem dX0_copyTo_0 : decode cX0_copyTo 0 = .ok (.iload_n 1, 1) := by decide +kernel
theorem dX0_copyTo_1 : decode cX0_copyTo 1 = .ok (.ifCond .lt 8, 3) := by decide +kernel
theorem dX0_copyTo_4 : decode cX0_copyTo 4 = .ok (.iload_n 1, 1) := by decide +kernel
theorem dX0_copyTo_5 : decode cX0_copyTo 5 = .ok (.iconst 4, 1) := by decide +kernel
theorem dX0_copyTo_6 : decode cX0_copyTo 6 = .ok (.if_icmp .lt 4, 3) := by decide +kernel
theorem dX0_copyTo_9 : decode cX0_copyTo 9 = .ok (.return_, 1) := by decide +kernel
theorem dX0_copyTo_10 : decode cX0_copyTo 10 = .ok (.aload_n 0, 1) := by decide +kernel
theorem dX0_copyTo_11 : decode cX0_copyTo 11 = .ok (.getfield 11, 3) := by decide +kernel
theorem dX0_copyTo_14 : decode cX0_copyTo 14 = .ok (.iload_n 1, 1) := by decide +kernel
theorem dX0_copyTo_15 : decode cX0_copyTo 15 = .ok (.aaload, 1) := by decide +kernel
theorem dX0_copyTo_16 : decode cX0_copyTo 16 = .ok (.astore_n 3, 1) := by decide +kernel
theorem dX0_copyTo_17 : decode cX0_copyTo 17 = .ok (.aload_n 3, 1) := by decide +kernel
theorem dX0_copyTo_18 : decode cX0_copyTo 18 = .ok (.ifnull 8, 3) := by decide +kernel
theorem dX0_copyTo_21 : decode cX0_copyTo 21 = .ok (.aload_n 3, 1) := by decide +kernel
theorem dX0_copyTo_22 : decode cX0_copyTo 22 = .ok (.aload_n 2, 1) := by decide +kernel
theorem dX0_copyTo_23 : decode cX0_copyTo 23 = .ok (.invokevirtual 35, 3) := by decide +kernel
theorem dX0_copyTo_26 : decode cX0_copyTo 26 = .ok (.return_, 1) := by decide +kernel
theorem dX1_init_0 : decode cX1_init 0 = .ok (.aload_n 0, 1) := by decide +kernel
theorem dX1_init_1 : decode cX1_init 1 = .ok (.invokespecial 3, 3) := by decide +kernel
theorem dX1_init_4 : decode cX1_init 4 = .ok (.aload_n 0, 1) := by decide +kernel
theorem dX1_init_5 : decode cX1_init 5 = .ok (.bipush 24, 2) := by decide +kernel
theorem dX1_init_7 : decode cX1_init 7 = .ok (.newarray .int, 2) := by decide +kernel
theorem dX1_init_9 : decode cX1_init 9 = .ok (.putfield 9, 3) := by decide +kernel
theorem dX1_init_12 : decode cX1_init 12 = .ok (.aload_n 0, 1) := by decide +kernel
theorem dX1_init_13 : decode cX1_init 13 = .ok (.aconst_null, 1) := by decide +kernel
theorem dX1_init_14 : decode cX1_init 14 = .ok (.putfield 15, 3) := by decide +kernel
theorem dX1_init_17 : decode cX1_init 17 = .ok (.aload_n 0, 1) := by decide +kernel
theorem dX1_init_18 : decode cX1_init 18 = .ok (.iconst 0, 1) := by decide +kernel
theorem dX1_init_19 : decode cX1_init 19 = .ok (.putfield 19, 3) := by decide +kernel
theorem dX1_init_22 : decode cX1_init 22 = .ok (.return_, 1) := by decide +kernel
theorem dX1_copyFrom_0 : decode cX1_copyFrom 0 = .ok (.aload_n 1, 1) := by decide +kernel
theorem dX1_copyFrom_1 : decode cX1_copyFrom 1 = .ok (.getfield 9, 3) := by decide +kernel
theorem dX1_copyFrom_4 : decode cX1_copyFrom 4 = .ok (.aload_n 0, 1) := by decide +kernel
theorem dX1_copyFrom_5 : decode cX1_copyFrom 5 = .ok (.getfield 9, 3) := by decide +kernel
theorem dX1_copyFrom_8 : decode cX1_copyFrom 8 = .ok (.invokestatic 23, 3) := by decide +kernel
theorem dX1_copyFrom_11 : decode cX1_copyFrom 11 = .ok (.aload_n 0, 1) := by decide +kernel
theorem dX1_copyFrom_12 : decode cX1_copyFrom 12 = .ok (.aload_n 1, 1) := by decide +kernel
theorem dX1_copyFrom_13 : decode cX1_copyFrom 13 = .ok (.getfield 15, 3) := by decide +kernel
theorem dX1_copyFrom_16 : decode cX1_copyFrom 16 = .ok (.putfield 15, 3) := by decide +kernel
theorem dX1_copyFrom_19 : decode cX1_copyFrom 19 = .ok (.aload_n 0, 1) := by decide +kernel
theorem dX1_copyFrom_20 : decode cX1_copyFrom 20 = .ok (.aload_n 1, 1) := by decide +kernel
theorem dX1_copyFrom_21 : decode cX1_copyFrom 21 = .ok (.getfield 19, 3) := by decide +kernel
theorem dX1_copyFrom_24 : decode cX1_copyFrom 24 = .ok (.putfield 19, 3) := by decide +kernel
theorem dX1_copyFrom_27 : decode cX1_copyFrom 27 = .ok (.return_, 1) := by decide +kernel
theorem dX1_layDown_0 : decode cX1_layDown 0 = .ok (.aload_n 1, 1) := by decide +kernel
theorem dX1_layDown_1 : decode cX1_layDown 1 = .ok (.ifnonnull 4, 3) := by decide +kernel
theorem dX1_layDown_4 : decode cX1_layDown 4 = .ok (.return_, 1) := by decide +kernel
theorem dX1_layDown_5 : decode cX1_layDown 5 = .ok (.aload_n 0, 1) := by decide +kernel
theorem dX1_layDown_6 : decode cX1_layDown 6 = .ok (.aload_n 1, 1) := by decide +kernel
theorem dX1_layDown_7 : decode cX1_layDown 7 = .ok (.putfield 15, 3) := by decide +kernel
theorem dX1_layDown_10 : decode cX1_layDown 10 = .ok (.aload_n 0, 1) := by decide +kernel
theorem dX1_layDown_11 : decode cX1_layDown 11 = .ok (.iconst 0, 1) := by decide +kernel
theorem dX1_layDown_12 : decode cX1_layDown 12 = .ok (.putfield 19, 3) := by decide +kernel
theorem dX1_layDown_15 : decode cX1_layDown 15 = .ok (.iconst 0, 1) := by decide +kernel
theorem dX1_layDown_16 : decode cX1_layDown 16 = .ok (.istore_n 3, 1) := by decide +kernel
theorem dX1_layDown_17 : decode cX1_layDown 17 = .ok (.iload_n 3, 1) := by decide +kernel
theorem dX1_layDown_18 : decode cX1_layDown 18 = .ok (.bipush 24, 2) := by decide +kernel
theorem dX1_layDown_20 : decode cX1_layDown 20 = .ok (.if_icmp .ge 21, 3) := by decide +kernel
theorem dX1_layDown_23 : decode cX1_layDown 23 = .ok (.aload_n 0, 1) := by decide +kernel
theorem dX1_layDown_24 : decode cX1_layDown 24 = .ok (.getfield 9, 3) := by decide +kernel
theorem dX1_layDown_27 : decode cX1_layDown 27 = .ok (.iload_n 3, 1) := by decide +kernel
theorem dX1_layDown_28 : decode cX1_layDown 28 = .ok (.aload_n 1, 1) := by decide +kernel
theorem dX1_layDown_29 : decode cX1_layDown 29 = .ok (.iload_n 2, 1) := by decide +kernel
theorem dX1_layDown_30 : decode cX1_layDown 30 = .ok (.iload_n 3, 1) := by decide +kernel
theorem dX1_layDown_31 : decode cX1_layDown 31 = .ok (.invokevirtual 27, 3) := by decide +kernel
theorem dX1_layDown_34 : decode cX1_layDown 34 = .ok (.iastore, 1) := by decide +kernel
theorem dX1_layDown_35 : decode cX1_layDown 35 = .ok (.iinc 3 1, 3) := by decide +kernel
theorem dX1_layDown_38 : decode cX1_layDown 38 = .ok (.goto (-21), 3) := by decide +kernel
theorem dX1_layDown_41 : decode cX1_layDown 41 = .ok (.return_, 1) := by decide +kernel
theorem dX1_takeAway_0 : decode cX1_takeAway 0 = .ok (.aload_n 0, 1) := by decide +kernel
theorem dX1_takeAway_1 : decode cX1_takeAway 1 = .ok (.aconst_null, 1) := by decide +kernel
theorem dX1_takeAway_2 : decode cX1_takeAway 2 = .ok (.putfield 15, 3) := by decide +kernel
theorem dX1_takeAway_5 : decode cX1_takeAway 5 = .ok (.aload_n 0, 1) := by decide +kernel
theorem dX1_takeAway_6 : decode cX1_takeAway 6 = .ok (.iconst 0, 1) := by decide +kernel
theorem dX1_takeAway_7 : decode cX1_takeAway 7 = .ok (.putfield 19, 3) := by decide +kernel
theorem dX1_takeAway_10 : decode cX1_takeAway 10 = .ok (.return_, 1) := by decide +kernel
theorem dX1_isThere_0 : decode cX1_isThere 0 = .ok (.aload_n 0, 1) := by decide +kernel
theorem dX1_isThere_1 : decode cX1_isThere 1 = .ok (.getfield 15, 3) := by decide +kernel
theorem dX1_isThere_4 : decode cX1_isThere 4 = .ok (.ifnull 7, 3) := by decide +kernel
theorem dX1_isThere_7 : decode cX1_isThere 7 = .ok (.iconst 1, 1) := by decide +kernel
theorem dX1_isThere_8 : decode cX1_isThere 8 = .ok (.goto 4, 3) := by decide +kernel
theorem dX1_isThere_11 : decode cX1_isThere 11 = .ok (.iconst 0, 1) := by decide +kernel
theorem dX1_isThere_12 : decode cX1_isThere 12 = .ok (.ireturn, 1) := by decide +kernel
theorem dX1_left_0 : decode cX1_left 0 = .ok (.aload_n 0, 1) := by decide +kernel
theorem dX1_left_1 : decode cX1_left 1 = .ok (.getfield 15, 3) := by decide +kernel
theorem dX1_left_4 : decode cX1_left 4 = .ok (.ifnonnull 7, 3) := by decide +kernel
theorem dX1_left_7 : decode cX1_left 7 = .ok (.iconst 0, 1) := by decide +kernel
theorem dX1_left_8 : decode cX1_left 8 = .ok (.goto 10, 3) := by decide +kernel
theorem dX1_left_11 : decode cX1_left 11 = .ok (.bipush 24, 2) := by decide +kernel
theorem dX1_left_13 : decode cX1_left 13 = .ok (.aload_n 0, 1) := by decide +kernel
theorem dX1_left_14 : decode cX1_left 14 = .ok (.getfield 19, 3) := by decide +kernel
theorem dX1_left_17 : decode cX1_left 17 = .ok (.isub, 1) := by decide +kernel
theorem dX1_left_18 : decode cX1_left 18 = .ok (.ireturn, 1) := by decide +kernel
theorem dX1_hasPartsAt_0 : decode cX1_hasPartsAt 0 = .ok (.iload_n 1, 1) := by decide +kernel
theorem dX1_hasPartsAt_1 : decode cX1_hasPartsAt 1 = .ok (.iconst 1, 1) := by decide +kernel
theorem dX1_hasPartsAt_2 : decode cX1_hasPartsAt 2 = .ok (.if_icmp .lt 15, 3) := by decide +kernel
theorem dX1_hasPartsAt_5 : decode cX1_hasPartsAt 5 = .ok (.iload_n 1, 1) := by decide +kernel
theorem dX1_hasPartsAt_6 : decode cX1_hasPartsAt 6 = .ok (.aload_n 0, 1) := by decide +kernel
theorem dX1_hasPartsAt_7 : decode cX1_hasPartsAt 7 = .ok (.invokevirtual 33, 3) := by decide +kernel
theorem dX1_hasPartsAt_10 : decode cX1_hasPartsAt 10 = .ok (.if_icmp .ge 7, 3) := by decide +kernel
theorem dX1_hasPartsAt_13 : decode cX1_hasPartsAt 13 = .ok (.iconst 1, 1) := by decide +kernel
theorem dX1_hasPartsAt_14 : decode cX1_hasPartsAt 14 = .ok (.goto 4, 3) := by decide +kernel
theorem dX1_hasPartsAt_17 : decode cX1_hasPartsAt 17 = .ok (.iconst 0, 1) := by decide +kernel
theorem dX1_hasPartsAt_18 : decode cX1_hasPartsAt 18 = .ok (.ireturn, 1) := by decide +kernel
theorem dX1_cardAt_0 : decode cX1_cardAt 0 = .ok (.aload_n 0, 1) := by decide +kernel
theorem dX1_cardAt_1 : decode cX1_cardAt 1 = .ok (.getfield 9, 3) := by decide +kernel
theorem dX1_cardAt_4 : decode cX1_cardAt 4 = .ok (.aload_n 0, 1) := by decide +kernel
theorem dX1_cardAt_5 : decode cX1_cardAt 5 = .ok (.getfield 19, 3) := by decide +kernel
theorem dX1_cardAt_8 : decode cX1_cardAt 8 = .ok (.iload_n 1, 1) := by decide +kernel
theorem dX1_cardAt_9 : decode cX1_cardAt 9 = .ok (.iadd, 1) := by decide +kernel
theorem dX1_cardAt_10 : decode cX1_cardAt 10 = .ok (.invokestatic 37, 3) := by decide +kernel
theorem dX1_cardAt_13 : decode cX1_cardAt 13 = .ok (.ireturn, 1) := by decide +kernel
theorem dX1_placeOf_0 : decode cX1_placeOf 0 = .ok (.aload_n 0, 1) := by decide +kernel
theorem dX1_placeOf_1 : decode cX1_placeOf 1 = .ok (.invokevirtual 33, 3) := by decide +kernel
theorem dX1_placeOf_4 : decode cX1_placeOf 4 = .ok (.istore_n 2, 1) := by decide +kernel
theorem dX1_placeOf_5 : decode cX1_placeOf 5 = .ok (.iconst 0, 1) := by decide +kernel
theorem dX1_placeOf_6 : decode cX1_placeOf 6 = .ok (.istore_n 3, 1) := by decide +kernel
theorem dX1_placeOf_7 : decode cX1_placeOf 7 = .ok (.iload_n 3, 1) := by decide +kernel
theorem dX1_placeOf_8 : decode cX1_placeOf 8 = .ok (.iload_n 2, 1) := by decide +kernel
theorem dX1_placeOf_9 : decode cX1_placeOf 9 = .ok (.if_icmp .ge 20, 3) := by decide +kernel
theorem dX1_placeOf_12 : decode cX1_placeOf 12 = .ok (.aload_n 0, 1) := by decide +kernel
theorem dX1_placeOf_13 : decode cX1_placeOf 13 = .ok (.iload_n 3, 1) := by decide +kernel
theorem dX1_placeOf_14 : decode cX1_placeOf 14 = .ok (.invokevirtual 41, 3) := by decide +kernel
theorem dX1_placeOf_17 : decode cX1_placeOf 17 = .ok (.iload_n 1, 1) := by decide +kernel
theorem dX1_placeOf_18 : decode cX1_placeOf 18 = .ok (.if_icmp .ne 5, 3) := by decide +kernel
theorem dX1_placeOf_21 : decode cX1_placeOf 21 = .ok (.iload_n 3, 1) := by decide +kernel
theorem dX1_placeOf_22 : decode cX1_placeOf 22 = .ok (.ireturn, 1) := by decide +kernel
theorem dX1_placeOf_23 : decode cX1_placeOf 23 = .ok (.iinc 3 1, 3) := by decide +kernel
theorem dX1_placeOf_26 : decode cX1_placeOf 26 = .ok (.goto (-19), 3) := by decide +kernel
theorem dX1_placeOf_29 : decode cX1_placeOf 29 = .ok (.bipush (-5), 2) := by decide +kernel
theorem dX1_placeOf_31 : decode cX1_placeOf 31 = .ok (.ireturn, 1) := by decide +kernel
theorem dX1_cutAt_0 : decode cX1_cutAt 0 = .ok (.aload_n 0, 1) := by decide +kernel
theorem dX1_cutAt_1 : decode cX1_cutAt 1 = .ok (.getfield 9, 3) := by decide +kernel
theorem dX1_cutAt_4 : decode cX1_cutAt 4 = .ok (.aload_n 2, 1) := by decide +kernel
theorem dX1_cutAt_5 : decode cX1_cutAt 5 = .ok (.invokestatic 23, 3) := by decide +kernel
theorem dX1_cutAt_8 : decode cX1_cutAt 8 = .ok (.aload_n 0, 1) := by decide +kernel
theorem dX1_cutAt_9 : decode cX1_cutAt 9 = .ok (.invokevirtual 33, 3) := by decide +kernel
theorem dX1_cutAt_12 : decode cX1_cutAt 12 = .ok (.istore_n 3, 1) := by decide +kernel
theorem dX1_cutAt_13 : decode cX1_cutAt 13 = .ok (.iconst 0, 1) := by decide +kernel
theorem dX1_cutAt_14 : decode cX1_cutAt 14 = .ok (.istore 4, 2) := by decide +kernel
theorem dX1_cutAt_16 : decode cX1_cutAt 16 = .ok (.iload 4, 2) := by decide +kernel
theorem dX1_cutAt_18 : decode cX1_cutAt 18 = .ok (.iload_n 3, 1) := by decide +kernel
theorem dX1_cutAt_19 : decode cX1_cutAt 19 = .ok (.if_icmp .ge 57, 3) := by decide +kernel
theorem dX1_cutAt_22 : decode cX1_cutAt 22 = .ok (.iload 4, 2) := by decide +kernel
theorem dX1_cutAt_24 : decode cX1_cutAt 24 = .ok (.iload_n 1, 1) := by decide +kernel
theorem dX1_cutAt_25 : decode cX1_cutAt 25 = .ok (.iadd, 1) := by decide +kernel
theorem dX1_cutAt_26 : decode cX1_cutAt 26 = .ok (.iload_n 3, 1) := by decide +kernel
theorem dX1_cutAt_27 : decode cX1_cutAt 27 = .ok (.if_icmp .ge 10, 3) := by decide +kernel
theorem dX1_cutAt_30 : decode cX1_cutAt 30 = .ok (.iload 4, 2) := by decide +kernel
theorem dX1_cutAt_32 : decode cX1_cutAt 32 = .ok (.iload_n 1, 1) := by decide +kernel
theorem dX1_cutAt_33 : decode cX1_cutAt 33 = .ok (.iadd, 1) := by decide +kernel
theorem dX1_cutAt_34 : decode cX1_cutAt 34 = .ok (.goto 9, 3) := by decide +kernel
theorem dX1_cutAt_37 : decode cX1_cutAt 37 = .ok (.iload 4, 2) := by decide +kernel
theorem dX1_cutAt_39 : decode cX1_cutAt 39 = .ok (.iload_n 1, 1) := by decide +kernel
theorem dX1_cutAt_40 : decode cX1_cutAt 40 = .ok (.iadd, 1) := by decide +kernel
theorem dX1_cutAt_41 : decode cX1_cutAt 41 = .ok (.iload_n 3, 1) := by decide +kernel
theorem dX1_cutAt_42 : decode cX1_cutAt 42 = .ok (.isub, 1) := by decide +kernel
theorem dX1_cutAt_43 : decode cX1_cutAt 43 = .ok (.istore 5, 2) := by decide +kernel
theorem dX1_cutAt_45 : decode cX1_cutAt 45 = .ok (.aload_n 0, 1) := by decide +kernel
theorem dX1_cutAt_46 : decode cX1_cutAt 46 = .ok (.getfield 9, 3) := by decide +kernel
theorem dX1_cutAt_49 : decode cX1_cutAt 49 = .ok (.aload_n 0, 1) := by decide +kernel
theorem dX1_cutAt_50 : decode cX1_cutAt 50 = .ok (.getfield 19, 3) := by decide +kernel
theorem dX1_cutAt_53 : decode cX1_cutAt 53 = .ok (.iload 4, 2) := by decide +kernel
theorem dX1_cutAt_55 : decode cX1_cutAt 55 = .ok (.iadd, 1) := by decide +kernel
theorem dX1_cutAt_56 : decode cX1_cutAt 56 = .ok (.aload_n 2, 1) := by decide +kernel
theorem dX1_cutAt_57 : decode cX1_cutAt 57 = .ok (.aload_n 0, 1) := by decide +kernel
theorem dX1_cutAt_58 : decode cX1_cutAt 58 = .ok (.getfield 19, 3) := by decide +kernel
theorem dX1_cutAt_61 : decode cX1_cutAt 61 = .ok (.iload 5, 2) := by decide +kernel
theorem dX1_cutAt_63 : decode cX1_cutAt 63 = .ok (.iadd, 1) := by decide +kernel
theorem dX1_cutAt_64 : decode cX1_cutAt 64 = .ok (.invokestatic 37, 3) := by decide +kernel
theorem dX1_cutAt_67 : decode cX1_cutAt 67 = .ok (.invokestatic 45, 3) := by decide +kernel
theorem dX1_cutAt_70 : decode cX1_cutAt 70 = .ok (.iinc 4 1, 3) := by decide +kernel
theorem dX1_cutAt_73 : decode cX1_cutAt 73 = .ok (.goto (-57), 3) := by decide +kernel
theorem dX1_cutAt_76 : decode cX1_cutAt 76 = .ok (.return_, 1) := by decide +kernel
theorem dX1_shuffleAt_0 : decode cX1_shuffleAt 0 = .ok (.aload_n 0, 1) := by decide +kernel
theorem dX1_shuffleAt_1 : decode cX1_shuffleAt 1 = .ok (.getfield 9, 3) := by decide +kernel
theorem dX1_shuffleAt_4 : decode cX1_shuffleAt 4 = .ok (.aload_n 2, 1) := by decide +kernel
theorem dX1_shuffleAt_5 : decode cX1_shuffleAt 5 = .ok (.invokestatic 23, 3) := by decide +kernel
theorem dX1_shuffleAt_8 : decode cX1_shuffleAt 8 = .ok (.aload_n 0, 1) := by decide +kernel
theorem dX1_shuffleAt_9 : decode cX1_shuffleAt 9 = .ok (.invokevirtual 33, 3) := by decide +kernel
theorem dX1_shuffleAt_12 : decode cX1_shuffleAt 12 = .ok (.istore_n 3, 1) := by decide +kernel
theorem dX1_shuffleAt_13 : decode cX1_shuffleAt 13 = .ok (.iconst 0, 1) := by decide +kernel
theorem dX1_shuffleAt_14 : decode cX1_shuffleAt 14 = .ok (.istore 4, 2) := by decide +kernel
theorem dX1_shuffleAt_16 : decode cX1_shuffleAt 16 = .ok (.iconst 0, 1) := by decide +kernel
theorem dX1_shuffleAt_17 : decode cX1_shuffleAt 17 = .ok (.istore 5, 2) := by decide +kernel
theorem dX1_shuffleAt_19 : decode cX1_shuffleAt 19 = .ok (.iload 5, 2) := by decide +kernel
theorem dX1_shuffleAt_21 : decode cX1_shuffleAt 21 = .ok (.iload_n 3, 1) := by decide +kernel
theorem dX1_shuffleAt_22 : decode cX1_shuffleAt 22 = .ok (.if_icmp .ge 53, 3) := by decide +kernel
theorem dX1_shuffleAt_25 : decode cX1_shuffleAt 25 = .ok (.iload 5, 2) := by decide +kernel
theorem dX1_shuffleAt_27 : decode cX1_shuffleAt 27 = .ok (.iload_n 1, 1) := by decide +kernel
theorem dX1_shuffleAt_28 : decode cX1_shuffleAt 28 = .ok (.iload_n 3, 1) := by decide +kernel
theorem dX1_shuffleAt_29 : decode cX1_shuffleAt 29 = .ok (.invokestatic 49, 3) := by decide +kernel
theorem dX1_shuffleAt_32 : decode cX1_shuffleAt 32 = .ok (.istore 6, 2) := by decide +kernel
theorem dX1_shuffleAt_34 : decode cX1_shuffleAt 34 = .ok (.aload_n 0, 1) := by decide +kernel
theorem dX1_shuffleAt_35 : decode cX1_shuffleAt 35 = .ok (.getfield 9, 3) := by decide +kernel
theorem dX1_shuffleAt_38 : decode cX1_shuffleAt 38 = .ok (.aload_n 0, 1) := by decide +kernel
theorem dX1_shuffleAt_39 : decode cX1_shuffleAt 39 = .ok (.getfield 19, 3) := by decide +kernel
theorem dX1_shuffleAt_42 : decode cX1_shuffleAt 42 = .ok (.iload 5, 2) := by decide +kernel
theorem dX1_shuffleAt_44 : decode cX1_shuffleAt 44 = .ok (.iadd, 1) := by decide +kernel
theorem dX1_shuffleAt_45 : decode cX1_shuffleAt 45 = .ok (.aload_n 2, 1) := by decide +kernel
theorem dX1_shuffleAt_46 : decode cX1_shuffleAt 46 = .ok (.aload_n 0, 1) := by decide +kernel
theorem dX1_shuffleAt_47 : decode cX1_shuffleAt 47 = .ok (.getfield 19, 3) := by decide +kernel
theorem dX1_shuffleAt_50 : decode cX1_shuffleAt 50 = .ok (.iload 6, 2) := by decide +kernel
theorem dX1_shuffleAt_52 : decode cX1_shuffleAt 52 = .ok (.iadd, 1) := by decide +kernel
theorem dX1_shuffleAt_53 : decode cX1_shuffleAt 53 = .ok (.invokestatic 37, 3) := by decide +kernel
theorem dX1_shuffleAt_56 : decode cX1_shuffleAt 56 = .ok (.invokestatic 45, 3) := by decide +kernel
theorem dX1_shuffleAt_59 : decode cX1_shuffleAt 59 = .ok (.iload 6, 2) := by decide +kernel
theorem dX1_shuffleAt_61 : decode cX1_shuffleAt 61 = .ok (.iload 5, 2) := by decide +kernel
theorem dX1_shuffleAt_63 : decode cX1_shuffleAt 63 = .ok (.if_icmp .eq 6, 3) := by decide +kernel
theorem dX1_shuffleAt_66 : decode cX1_shuffleAt 66 = .ok (.iinc 4 1, 3) := by decide +kernel
theorem dX1_shuffleAt_69 : decode cX1_shuffleAt 69 = .ok (.iinc 5 1, 3) := by decide +kernel
theorem dX1_shuffleAt_72 : decode cX1_shuffleAt 72 = .ok (.goto (-53), 3) := by decide +kernel
theorem dX1_shuffleAt_75 : decode cX1_shuffleAt 75 = .ok (.iload 4, 2) := by decide +kernel
theorem dX1_shuffleAt_77 : decode cX1_shuffleAt 77 = .ok (.ireturn, 1) := by decide +kernel
theorem dX1_marksOf_0 : decode cX1_marksOf 0 = .ok (.aload_n 0, 1) := by decide +kernel
theorem dX1_marksOf_1 : decode cX1_marksOf 1 = .ok (.getfield 15, 3) := by decide +kernel
theorem dX1_marksOf_4 : decode cX1_marksOf 4 = .ok (.ifnonnull 8, 3) := by decide +kernel
theorem dX1_marksOf_7 : decode cX1_marksOf 7 = .ok (.bipush (-5), 2) := by decide +kernel
theorem dX1_marksOf_9 : decode cX1_marksOf 9 = .ok (.goto 14, 3) := by decide +kernel
theorem dX1_marksOf_12 : decode cX1_marksOf 12 = .ok (.aload_n 0, 1) := by decide +kernel
theorem dX1_marksOf_13 : decode cX1_marksOf 13 = .ok (.getfield 15, 3) := by decide +kernel
theorem dX1_marksOf_16 : decode cX1_marksOf 16 = .ok (.getfield 53, 3) := by decide +kernel
theorem dX1_marksOf_19 : decode cX1_marksOf 19 = .ok (.iload_n 1, 1) := by decide +kernel
theorem dX1_marksOf_20 : decode cX1_marksOf 20 = .ok (.invokestatic 37, 3) := by decide +kernel
theorem dX1_marksOf_23 : decode cX1_marksOf 23 = .ok (.ireturn, 1) := by decide +kernel
theorem dX1_marksAt_0 : decode cX1_marksAt 0 = .ok (.aload_n 0, 1) := by decide +kernel
theorem dX1_marksAt_1 : decode cX1_marksAt 1 = .ok (.aload_n 0, 1) := by decide +kernel
theorem dX1_marksAt_2 : decode cX1_marksAt 2 = .ok (.iload_n 1, 1) := by decide +kernel
theorem dX1_marksAt_3 : decode cX1_marksAt 3 = .ok (.invokevirtual 41, 3) := by decide +kernel
theorem dX1_marksAt_6 : decode cX1_marksAt 6 = .ok (.invokevirtual 56, 3) := by decide +kernel
theorem dX1_marksAt_9 : decode cX1_marksAt 9 = .ok (.ireturn, 1) := by decide +kernel
theorem dX1_canBeAt_0 : decode cX1_canBeAt 0 = .ok (.aload_n 0, 1) := by decide +kernel
theorem dX1_canBeAt_1 : decode cX1_canBeAt 1 = .ok (.iload_n 1, 1) := by decide +kernel
theorem dX1_canBeAt_2 : decode cX1_canBeAt 2 = .ok (.invokevirtual 59, 3) := by decide +kernel
theorem dX1_canBeAt_5 : decode cX1_canBeAt 5 = .ok (.istore_n 2, 1) := by decide +kernel
theorem dX1_canBeAt_6 : decode cX1_canBeAt 6 = .ok (.aload_n 0, 1) := by decide +kernel
theorem dX1_canBeAt_7 : decode cX1_canBeAt 7 = .ok (.invokevirtual 33, 3) := by decide +kernel
theorem dX1_canBeAt_10 : decode cX1_canBeAt 10 = .ok (.istore_n 3, 1) := by decide +kernel
theorem dX1_canBeAt_11 : decode cX1_canBeAt 11 = .ok (.iconst 0, 1) := by decide +kernel
theorem dX1_canBeAt_12 : decode cX1_canBeAt 12 = .ok (.istore 4, 2) := by decide +kernel
theorem dX1_canBeAt_14 : decode cX1_canBeAt 14 = .ok (.iconst 0, 1) := by decide +kernel
theorem dX1_canBeAt_15 : decode cX1_canBeAt 15 = .ok (.istore 5, 2) := by decide +kernel
theorem dX1_canBeAt_17 : decode cX1_canBeAt 17 = .ok (.iload 5, 2) := by decide +kernel
theorem dX1_canBeAt_19 : decode cX1_canBeAt 19 = .ok (.iload_n 3, 1) := by decide +kernel
theorem dX1_canBeAt_20 : decode cX1_canBeAt 20 = .ok (.if_icmp .ge 22, 3) := by decide +kernel
theorem dX1_canBeAt_23 : decode cX1_canBeAt 23 = .ok (.aload_n 0, 1) := by decide +kernel
theorem dX1_canBeAt_24 : decode cX1_canBeAt 24 = .ok (.iload 5, 2) := by decide +kernel
theorem dX1_canBeAt_26 : decode cX1_canBeAt 26 = .ok (.invokevirtual 59, 3) := by decide +kernel
theorem dX1_canBeAt_29 : decode cX1_canBeAt 29 = .ok (.iload_n 2, 1) := by decide +kernel
theorem dX1_canBeAt_30 : decode cX1_canBeAt 30 = .ok (.if_icmp .ne 6, 3) := by decide +kernel
theorem dX1_canBeAt_33 : decode cX1_canBeAt 33 = .ok (.iinc 4 1, 3) := by decide +kernel
theorem dX1_canBeAt_36 : decode cX1_canBeAt 36 = .ok (.iinc 5 1, 3) := by decide +kernel
theorem dX1_canBeAt_39 : decode cX1_canBeAt 39 = .ok (.goto (-22), 3) := by decide +kernel
theorem dX1_canBeAt_42 : decode cX1_canBeAt 42 = .ok (.iload 4, 2) := by decide +kernel
theorem dX1_canBeAt_44 : decode cX1_canBeAt 44 = .ok (.ireturn, 1) := by decide +kernel
theorem dX1_guessAt_0 : decode cX1_guessAt 0 = .ok (.aload_n 0, 1) := by decide +kernel
theorem dX1_guessAt_1 : decode cX1_guessAt 1 = .ok (.iload_n 1, 1) := by decide +kernel
theorem dX1_guessAt_2 : decode cX1_guessAt 2 = .ok (.invokevirtual 59, 3) := by decide +kernel
theorem dX1_guessAt_5 : decode cX1_guessAt 5 = .ok (.istore_n 2, 1) := by decide +kernel
theorem dX1_guessAt_6 : decode cX1_guessAt 6 = .ok (.aload_n 0, 1) := by decide +kernel
theorem dX1_guessAt_7 : decode cX1_guessAt 7 = .ok (.invokevirtual 33, 3) := by decide +kernel
theorem dX1_guessAt_10 : decode cX1_guessAt 10 = .ok (.istore_n 3, 1) := by decide +kernel
theorem dX1_guessAt_11 : decode cX1_guessAt 11 = .ok (.aload_n 0, 1) := by decide +kernel
theorem dX1_guessAt_12 : decode cX1_guessAt 12 = .ok (.iload_n 1, 1) := by decide +kernel
theorem dX1_guessAt_13 : decode cX1_guessAt 13 = .ok (.invokevirtual 41, 3) := by decide +kernel
theorem dX1_guessAt_16 : decode cX1_guessAt 16 = .ok (.istore 4, 2) := by decide +kernel
theorem dX1_guessAt_18 : decode cX1_guessAt 18 = .ok (.iconst 0, 1) := by decide +kernel
theorem dX1_guessAt_19 : decode cX1_guessAt 19 = .ok (.istore 5, 2) := by decide +kernel
theorem dX1_guessAt_21 : decode cX1_guessAt 21 = .ok (.iload 5, 2) := by decide +kernel
theorem dX1_guessAt_23 : decode cX1_guessAt 23 = .ok (.iload_n 3, 1) := by decide +kernel
theorem dX1_guessAt_24 : decode cX1_guessAt 24 = .ok (.if_icmp .ge 32, 3) := by decide +kernel
theorem dX1_guessAt_27 : decode cX1_guessAt 27 = .ok (.aload_n 0, 1) := by decide +kernel
theorem dX1_guessAt_28 : decode cX1_guessAt 28 = .ok (.iload 5, 2) := by decide +kernel
theorem dX1_guessAt_30 : decode cX1_guessAt 30 = .ok (.invokevirtual 59, 3) := by decide +kernel
theorem dX1_guessAt_33 : decode cX1_guessAt 33 = .ok (.iload_n 2, 1) := by decide +kernel
theorem dX1_guessAt_34 : decode cX1_guessAt 34 = .ok (.if_icmp .ne 16, 3) := by decide +kernel
theorem dX1_guessAt_37 : decode cX1_guessAt 37 = .ok (.iload 4, 2) := by decide +kernel
theorem dX1_guessAt_39 : decode cX1_guessAt 39 = .ok (.aload_n 0, 1) := by decide +kernel
theorem dX1_guessAt_40 : decode cX1_guessAt 40 = .ok (.iload 5, 2) := by decide +kernel
theorem dX1_guessAt_42 : decode cX1_guessAt 42 = .ok (.invokevirtual 41, 3) := by decide +kernel
theorem dX1_guessAt_45 : decode cX1_guessAt 45 = .ok (.invokestatic 62, 3) := by decide +kernel
theorem dX1_guessAt_48 : decode cX1_guessAt 48 = .ok (.istore 4, 2) := by decide +kernel
theorem dX1_guessAt_50 : decode cX1_guessAt 50 = .ok (.iinc 5 1, 3) := by decide +kernel
theorem dX1_guessAt_53 : decode cX1_guessAt 53 = .ok (.goto (-32), 3) := by decide +kernel
theorem dX1_guessAt_56 : decode cX1_guessAt 56 = .ok (.iload 4, 2) := by decide +kernel
theorem dX1_guessAt_58 : decode cX1_guessAt 58 = .ok (.ireturn, 1) := by decide +kernel
theorem dX1_known_0 : decode cX1_known 0 = .ok (.aload_n 0, 1) := by decide +kernel
theorem dX1_known_1 : decode cX1_known 1 = .ok (.invokevirtual 33, 3) := by decide +kernel
theorem dX1_known_4 : decode cX1_known 4 = .ok (.istore_n 1, 1) := by decide +kernel
theorem dX1_known_5 : decode cX1_known 5 = .ok (.iconst 0, 1) := by decide +kernel
theorem dX1_known_6 : decode cX1_known 6 = .ok (.istore_n 2, 1) := by decide +kernel
theorem dX1_known_7 : decode cX1_known 7 = .ok (.iconst 0, 1) := by decide +kernel
theorem dX1_known_8 : decode cX1_known 8 = .ok (.istore_n 3, 1) := by decide +kernel
theorem dX1_known_9 : decode cX1_known 9 = .ok (.iload_n 3, 1) := by decide +kernel
theorem dX1_known_10 : decode cX1_known 10 = .ok (.iload_n 1, 1) := by decide +kernel
theorem dX1_known_11 : decode cX1_known 11 = .ok (.if_icmp .ge 21, 3) := by decide +kernel
theorem dX1_known_14 : decode cX1_known 14 = .ok (.aload_n 0, 1) := by decide +kernel
theorem dX1_known_15 : decode cX1_known 15 = .ok (.iload_n 3, 1) := by decide +kernel
theorem dX1_known_16 : decode cX1_known 16 = .ok (.invokevirtual 67, 3) := by decide +kernel
theorem dX1_known_19 : decode cX1_known 19 = .ok (.iconst 1, 1) := by decide +kernel
theorem dX1_known_20 : decode cX1_known 20 = .ok (.if_icmp .ne 6, 3) := by decide +kernel
theorem dX1_known_23 : decode cX1_known 23 = .ok (.iinc 2 1, 3) := by decide +kernel
theorem dX1_known_26 : decode cX1_known 26 = .ok (.iinc 3 1, 3) := by decide +kernel
theorem dX1_known_29 : decode cX1_known 29 = .ok (.goto (-20), 3) := by decide +kernel
theorem dX1_known_32 : decode cX1_known 32 = .ok (.iload_n 2, 1) := by decide +kernel
theorem dX1_known_33 : decode cX1_known 33 = .ok (.ireturn, 1) := by decide +kernel
theorem dX1_guessedRight_0 : decode cX1_guessedRight 0 = .ok (.aload_n 0, 1) := by decide +kernel
theorem dX1_guessedRight_1 : decode cX1_guessedRight 1 = .ok (.invokevirtual 33, 3) := by decide +kernel
theorem dX1_guessedRight_4 : decode cX1_guessedRight 4 = .ok (.istore_n 1, 1) := by decide +kernel
theorem dX1_guessedRight_5 : decode cX1_guessedRight 5 = .ok (.iconst 0, 1) := by decide +kernel
theorem dX1_guessedRight_6 : decode cX1_guessedRight 6 = .ok (.istore_n 2, 1) := by decide +kernel
theorem dX1_guessedRight_7 : decode cX1_guessedRight 7 = .ok (.iconst 0, 1) := by decide +kernel
theorem dX1_guessedRight_8 : decode cX1_guessedRight 8 = .ok (.istore_n 3, 1) := by decide +kernel
theorem dX1_guessedRight_9 : decode cX1_guessedRight 9 = .ok (.iload_n 3, 1) := by decide +kernel
theorem dX1_guessedRight_10 : decode cX1_guessedRight 10 = .ok (.iload_n 1, 1) := by decide +kernel
theorem dX1_guessedRight_11 : decode cX1_guessedRight 11 = .ok (.if_icmp .ge 25, 3) := by decide +kernel
theorem dX1_guessedRight_14 : decode cX1_guessedRight 14 = .ok (.aload_n 0, 1) := by decide +kernel
theorem dX1_guessedRight_15 : decode cX1_guessedRight 15 = .ok (.iload_n 3, 1) := by decide +kernel
theorem dX1_guessedRight_16 : decode cX1_guessedRight 16 = .ok (.invokevirtual 70, 3) := by decide +kernel
theorem dX1_guessedRight_19 : decode cX1_guessedRight 19 = .ok (.aload_n 0, 1) := by decide +kernel
theorem dX1_guessedRight_20 : decode cX1_guessedRight 20 = .ok (.iload_n 3, 1) := by decide +kernel
theorem dX1_guessedRight_21 : decode cX1_guessedRight 21 = .ok (.invokevirtual 41, 3) := by decide +kernel
theorem dX1_guessedRight_24 : decode cX1_guessedRight 24 = .ok (.if_icmp .ne 6, 3) := by decide +kernel
theorem dX1_guessedRight_27 : decode cX1_guessedRight 27 = .ok (.iinc 2 1, 3) := by decide +kernel
theorem dX1_guessedRight_30 : decode cX1_guessedRight 30 = .ok (.iinc 3 1, 3) := by decide +kernel
theorem dX1_guessedRight_33 : decode cX1_guessedRight 33 = .ok (.goto (-24), 3) := by decide +kernel
theorem dX1_guessedRight_36 : decode cX1_guessedRight 36 = .ok (.iload_n 2, 1) := by decide +kernel
theorem dX1_guessedRight_37 : decode cX1_guessedRight 37 = .ok (.ireturn, 1) := by decide +kernel
theorem dX1_sumOfChances_0 : decode cX1_sumOfChances 0 = .ok (.aload_n 0, 1) := by decide +kernel
theorem dX1_sumOfChances_1 : decode cX1_sumOfChances 1 = .ok (.invokevirtual 33, 3) := by decide +kernel
theorem dX1_sumOfChances_4 : decode cX1_sumOfChances 4 = .ok (.istore_n 1, 1) := by decide +kernel
theorem dX1_sumOfChances_5 : decode cX1_sumOfChances 5 = .ok (.fconst 0, 1) := by decide +kernel
theorem dX1_sumOfChances_6 : decode cX1_sumOfChances 6 = .ok (.fstore_n 2, 1) := by decide +kernel
theorem dX1_sumOfChances_7 : decode cX1_sumOfChances 7 = .ok (.iconst 0, 1) := by decide +kernel
theorem dX1_sumOfChances_8 : decode cX1_sumOfChances 8 = .ok (.istore_n 3, 1) := by decide +kernel
theorem dX1_sumOfChances_9 : decode cX1_sumOfChances 9 = .ok (.iload_n 3, 1) := by decide +kernel
theorem dX1_sumOfChances_10 : decode cX1_sumOfChances 10 = .ok (.iload_n 1, 1) := by decide +kernel
theorem dX1_sumOfChances_11 : decode cX1_sumOfChances 11 = .ok (.if_icmp .ge 29, 3) := by decide +kernel
theorem dX1_sumOfChances_14 : decode cX1_sumOfChances 14 = .ok (.aload_n 0, 1) := by decide +kernel
theorem dX1_sumOfChances_15 : decode cX1_sumOfChances 15 = .ok (.iload_n 3, 1) := by decide +kernel
theorem dX1_sumOfChances_16 : decode cX1_sumOfChances 16 = .ok (.invokevirtual 67, 3) := by decide +kernel
theorem dX1_sumOfChances_19 : decode cX1_sumOfChances 19 = .ok (.istore 4, 2) := by decide +kernel
theorem dX1_sumOfChances_21 : decode cX1_sumOfChances 21 = .ok (.iload 4, 2) := by decide +kernel
theorem dX1_sumOfChances_23 : decode cX1_sumOfChances 23 = .ok (.ifCond .le 11, 3) := by decide +kernel
theorem dX1_sumOfChances_26 : decode cX1_sumOfChances 26 = .ok (.fload_n 2, 1) := by decide +kernel
theorem dX1_sumOfChances_27 : decode cX1_sumOfChances 27 = .ok (.fconst 1, 1) := by decide +kernel
theorem dX1_sumOfChances_28 : decode cX1_sumOfChances 28 = .ok (.iload 4, 2) := by decide +kernel
theorem dX1_sumOfChances_30 : decode cX1_sumOfChances 30 = .ok (.i2f, 1) := by decide +kernel
theorem dX1_sumOfChances_31 : decode cX1_sumOfChances 31 = .ok (.fdiv, 1) := by decide +kernel
theorem dX1_sumOfChances_32 : decode cX1_sumOfChances 32 = .ok (.fadd, 1) := by decide +kernel
theorem dX1_sumOfChances_33 : decode cX1_sumOfChances 33 = .ok (.fstore_n 2, 1) := by decide +kernel
theorem dX1_sumOfChances_34 : decode cX1_sumOfChances 34 = .ok (.iinc 3 1, 3) := by decide +kernel
theorem dX1_sumOfChances_37 : decode cX1_sumOfChances 37 = .ok (.goto (-28), 3) := by decide +kernel
theorem dX1_sumOfChances_40 : decode cX1_sumOfChances 40 = .ok (.fload_n 2, 1) := by decide +kernel
theorem dX1_sumOfChances_41 : decode cX1_sumOfChances 41 = .ok (.freturn, 1) := by decide +kernel
theorem dX2_init_0 : decode cX2_init 0 = .ok (.aload_n 0, 1) := by decide +kernel
theorem dX2_init_1 : decode cX2_init 1 = .ok (.invokespecial 3, 3) := by decide +kernel
theorem dX2_init_4 : decode cX2_init 4 = .ok (.aload_n 0, 1) := by decide +kernel
theorem dX2_init_5 : decode cX2_init 5 = .ok (.bipush 24, 2) := by decide +kernel
theorem dX2_init_7 : decode cX2_init 7 = .ok (.newarray .int, 2) := by decide +kernel
theorem dX2_init_9 : decode cX2_init 9 = .ok (.putfield 9, 3) := by decide +kernel
theorem dX2_init_12 : decode cX2_init 12 = .ok (.aload_n 0, 1) := by decide +kernel
theorem dX2_init_13 : decode cX2_init 13 = .ok (.bipush 24, 2) := by decide +kernel
theorem dX2_init_15 : decode cX2_init 15 = .ok (.newarray .int, 2) := by decide +kernel
theorem dX2_init_17 : decode cX2_init 17 = .ok (.putfield 15, 3) := by decide +kernel
theorem dX2_init_20 : decode cX2_init 20 = .ok (.aload_n 0, 1) := by decide +kernel
theorem dX2_init_21 : decode cX2_init 21 = .ok (.bipush 24, 2) := by decide +kernel
theorem dX2_init_23 : decode cX2_init 23 = .ok (.newarray .int, 2) := by decide +kernel
theorem dX2_init_25 : decode cX2_init 25 = .ok (.putfield 18, 3) := by decide +kernel
theorem dX2_init_28 : decode cX2_init 28 = .ok (.iconst 0, 1) := by decide +kernel
theorem dX2_init_29 : decode cX2_init 29 = .ok (.istore 5, 2) := by decide +kernel
theorem dX2_init_31 : decode cX2_init 31 = .ok (.iload 5, 2) := by decide +kernel
theorem dX2_init_33 : decode cX2_init 33 = .ok (.bipush 24, 2) := by decide +kernel
theorem dX2_init_35 : decode cX2_init 35 = .ok (.if_icmp .ge 73, 3) := by decide +kernel
theorem dX2_init_38 : decode cX2_init 38 = .ok (.aload_n 1, 1) := by decide +kernel
theorem dX2_init_39 : decode cX2_init 39 = .ok (.iload 5, 2) := by decide +kernel
theorem dX2_init_41 : decode cX2_init 41 = .ok (.invokestatic 21, 3) := by decide +kernel
theorem dX2_init_44 : decode cX2_init 44 = .ok (.istore 6, 2) := by decide +kernel
theorem dX2_init_46 : decode cX2_init 46 = .ok (.aload_n 0, 1) := by decide +kernel
theorem dX2_init_47 : decode cX2_init 47 = .ok (.getfield 9, 3) := by decide +kernel
theorem dX2_init_50 : decode cX2_init 50 = .ok (.iload 5, 2) := by decide +kernel
theorem dX2_init_52 : decode cX2_init 52 = .ok (.iload 6, 2) := by decide +kernel
theorem dX2_init_54 : decode cX2_init 54 = .ok (.iastore, 1) := by decide +kernel
theorem dX2_init_55 : decode cX2_init 55 = .ok (.iload 6, 2) := by decide +kernel
theorem dX2_init_57 : decode cX2_init 57 = .ok (.invokestatic 25, 3) := by decide +kernel
theorem dX2_init_60 : decode cX2_init 60 = .ok (.ifCond .eq 42, 3) := by decide +kernel
theorem dX2_init_63 : decode cX2_init 63 = .ok (.aload_n 0, 1) := by decide +kernel
theorem dX2_init_64 : decode cX2_init 64 = .ok (.getfield 18, 3) := by decide +kernel
theorem dX2_init_67 : decode cX2_init 67 = .ok (.iload 6, 2) := by decide +kernel
theorem dX2_init_69 : decode cX2_init 69 = .ok (.aload_n 2, 1) := by decide +kernel
theorem dX2_init_70 : decode cX2_init 70 = .ok (.iload 6, 2) := by decide +kernel
theorem dX2_init_72 : decode cX2_init 72 = .ok (.invokestatic 21, 3) := by decide +kernel
theorem dX2_init_75 : decode cX2_init 75 = .ok (.iastore, 1) := by decide +kernel
theorem dX2_init_76 : decode cX2_init 76 = .ok (.aload_n 0, 1) := by decide +kernel
theorem dX2_init_77 : decode cX2_init 77 = .ok (.getfield 15, 3) := by decide +kernel
theorem dX2_init_80 : decode cX2_init 80 = .ok (.iload 6, 2) := by decide +kernel
theorem dX2_init_82 : decode cX2_init 82 = .ok (.aload_n 3, 1) := by decide +kernel
theorem dX2_init_83 : decode cX2_init 83 = .ok (.iload 4, 2) := by decide +kernel
theorem dX2_init_85 : decode cX2_init 85 = .ok (.ifCond .eq 11, 3) := by decide +kernel
theorem dX2_init_88 : decode cX2_init 88 = .ok (.bipush 23, 2) := by decide +kernel
theorem dX2_init_90 : decode cX2_init 90 = .ok (.iload 5, 2) := by decide +kernel
theorem dX2_init_92 : decode cX2_init 92 = .ok (.isub, 1) := by decide +kernel
theorem dX2_init_93 : decode cX2_init 93 = .ok (.goto 5, 3) := by decide +kernel
theorem dX2_init_96 : decode cX2_init 96 = .ok (.iload 5, 2) := by decide +kernel
theorem dX2_init_98 : decode cX2_init 98 = .ok (.invokestatic 21, 3) := by decide +kernel
theorem dX2_init_101 : decode cX2_init 101 = .ok (.iastore, 1) := by decide +kernel
theorem dX2_init_102 : decode cX2_init 102 = .ok (.iinc 5 1, 3) := by decide +kernel
theorem dX2_init_105 : decode cX2_init 105 = .ok (.goto (-74), 3) := by decide +kernel
theorem dX2_init_108 : decode cX2_init 108 = .ok (.return_, 1) := by decide +kernel
theorem dX2_cardCutTo_0 : decode cX2_cardCutTo 0 = .ok (.aload_n 0, 1) := by decide +kernel
theorem dX2_cardCutTo_1 : decode cX2_cardCutTo 1 = .ok (.getfield 9, 3) := by decide +kernel
theorem dX2_cardCutTo_4 : decode cX2_cardCutTo 4 = .ok (.iload_n 1, 1) := by decide +kernel
theorem dX2_cardCutTo_5 : decode cX2_cardCutTo 5 = .ok (.iload_n 2, 1) := by decide +kernel
theorem dX2_cardCutTo_6 : decode cX2_cardCutTo 6 = .ok (.invokestatic 29, 3) := by decide +kernel
theorem dX2_cardCutTo_9 : decode cX2_cardCutTo 9 = .ok (.invokestatic 21, 3) := by decide +kernel
theorem dX2_cardCutTo_12 : decode cX2_cardCutTo 12 = .ok (.ireturn, 1) := by decide +kernel
theorem dX2_cardsAtHome_0 : decode cX2_cardsAtHome 0 = .ok (.iconst 0, 1) := by decide +kernel
theorem dX2_cardsAtHome_1 : decode cX2_cardsAtHome 1 = .ok (.istore_n 2, 1) := by decide +kernel
theorem dX2_cardsAtHome_2 : decode cX2_cardsAtHome 2 = .ok (.iconst 0, 1) := by decide +kernel
theorem dX2_cardsAtHome_3 : decode cX2_cardsAtHome 3 = .ok (.istore_n 3, 1) := by decide +kernel
theorem dX2_cardsAtHome_4 : decode cX2_cardsAtHome 4 = .ok (.iload_n 3, 1) := by decide +kernel
theorem dX2_cardsAtHome_5 : decode cX2_cardsAtHome 5 = .ok (.bipush 24, 2) := by decide +kernel
theorem dX2_cardsAtHome_7 : decode cX2_cardsAtHome 7 = .ok (.if_icmp .ge 22, 3) := by decide +kernel
theorem dX2_cardsAtHome_10 : decode cX2_cardsAtHome 10 = .ok (.aload_n 0, 1) := by decide +kernel
theorem dX2_cardsAtHome_11 : decode cX2_cardsAtHome 11 = .ok (.iload_n 1, 1) := by decide +kernel
theorem dX2_cardsAtHome_12 : decode cX2_cardsAtHome 12 = .ok (.iload_n 3, 1) := by decide +kernel
theorem dX2_cardsAtHome_13 : decode cX2_cardsAtHome 13 = .ok (.invokevirtual 33, 3) := by decide +kernel
theorem dX2_cardsAtHome_16 : decode cX2_cardsAtHome 16 = .ok (.iload_n 3, 1) := by decide +kernel
theorem dX2_cardsAtHome_17 : decode cX2_cardsAtHome 17 = .ok (.if_icmp .ne 6, 3) := by decide +kernel
theorem dX2_cardsAtHome_20 : decode cX2_cardsAtHome 20 = .ok (.iinc 2 1, 3) := by decide +kernel
theorem dX2_cardsAtHome_23 : decode cX2_cardsAtHome 23 = .ok (.iinc 3 1, 3) := by decide +kernel
theorem dX2_cardsAtHome_26 : decode cX2_cardsAtHome 26 = .ok (.goto (-22), 3) := by decide +kernel
theorem dX2_cardsAtHome_29 : decode cX2_cardsAtHome 29 = .ok (.iload_n 2, 1) := by decide +kernel
theorem dX2_cardsAtHome_30 : decode cX2_cardsAtHome 30 = .ok (.ireturn, 1) := by decide +kernel
theorem dX3_init_0 : decode cX3_init 0 = .ok (.aload_n 0, 1) := by decide +kernel
theorem dX3_init_1 : decode cX3_init 1 = .ok (.invokespecial 3, 3) := by decide +kernel
theorem dX3_init_4 : decode cX3_init 4 = .ok (.aload_n 0, 1) := by decide +kernel
theorem dX3_init_5 : decode cX3_init 5 = .ok (.bipush 24, 2) := by decide +kernel
theorem dX3_init_7 : decode cX3_init 7 = .ok (.newarray .int, 2) := by decide +kernel
theorem dX3_init_9 : decode cX3_init 9 = .ok (.putfield 9, 3) := by decide +kernel
theorem dX3_init_12 : decode cX3_init 12 = .ok (.aload_n 0, 1) := by decide +kernel
theorem dX3_init_13 : decode cX3_init 13 = .ok (.bipush 24, 2) := by decide +kernel
theorem dX3_init_15 : decode cX3_init 15 = .ok (.newarray .int, 2) := by decide +kernel
theorem dX3_init_17 : decode cX3_init 17 = .ok (.putfield 15, 3) := by decide +kernel
theorem dX3_init_20 : decode cX3_init 20 = .ok (.aload_n 0, 1) := by decide +kernel
theorem dX3_init_21 : decode cX3_init 21 = .ok (.bipush 24, 2) := by decide +kernel
theorem dX3_init_23 : decode cX3_init 23 = .ok (.newarray .int, 2) := by decide +kernel
theorem dX3_init_25 : decode cX3_init 25 = .ok (.putfield 18, 3) := by decide +kernel
theorem dX3_init_28 : decode cX3_init 28 = .ok (.aload_n 0, 1) := by decide +kernel
theorem dX3_init_29 : decode cX3_init 29 = .ok (.iconst 4, 1) := by decide +kernel
theorem dX3_init_30 : decode cX3_init 30 = .ok (.newarray .int, 2) := by decide +kernel
theorem dX3_init_32 : decode cX3_init 32 = .ok (.putfield 21, 3) := by decide +kernel
theorem dX3_init_35 : decode cX3_init 35 = .ok (.aload_n 0, 1) := by decide +kernel
theorem dX3_init_36 : decode cX3_init 36 = .ok (.bipush 6, 2) := by decide +kernel
theorem dX3_init_38 : decode cX3_init 38 = .ok (.anewarray 24, 3) := by decide +kernel
theorem dX3_init_41 : decode cX3_init 41 = .ok (.putfield 26, 3) := by decide +kernel
theorem dX3_init_44 : decode cX3_init 44 = .ok (.aload_n 0, 1) := by decide +kernel
theorem dX3_init_45 : decode cX3_init 45 = .ok (.new 30, 3) := by decide +kernel
theorem dX3_init_48 : decode cX3_init 48 = .ok (.dup, 1) := by decide +kernel
theorem dX3_init_49 : decode cX3_init 49 = .ok (.invokespecial 32, 3) := by decide +kernel
theorem dX3_init_52 : decode cX3_init 52 = .ok (.putfield 33, 3) := by decide +kernel
theorem dX3_init_55 : decode cX3_init 55 = .ok (.aload_n 0, 1) := by decide +kernel
theorem dX3_init_56 : decode cX3_init 56 = .ok (.iconst 0, 1) := by decide +kernel
theorem dX3_init_57 : decode cX3_init 57 = .ok (.putfield 37, 3) := by decide +kernel
theorem dX3_init_60 : decode cX3_init 60 = .ok (.aload_n 0, 1) := by decide +kernel
theorem dX3_init_61 : decode cX3_init 61 = .ok (.iconst 0, 1) := by decide +kernel
theorem dX3_init_62 : decode cX3_init 62 = .ok (.putfield 41, 3) := by decide +kernel
theorem dX3_init_65 : decode cX3_init 65 = .ok (.aload_n 0, 1) := by decide +kernel
theorem dX3_init_66 : decode cX3_init 66 = .ok (.iconst 0, 1) := by decide +kernel
theorem dX3_init_67 : decode cX3_init 67 = .ok (.putfield 44, 3) := by decide +kernel
theorem dX3_init_70 : decode cX3_init 70 = .ok (.aload_n 0, 1) := by decide +kernel
theorem dX3_init_71 : decode cX3_init 71 = .ok (.iconst 0, 1) := by decide +kernel
theorem dX3_init_72 : decode cX3_init 72 = .ok (.putfield 47, 3) := by decide +kernel
theorem dX3_init_75 : decode cX3_init 75 = .ok (.aload_n 0, 1) := by decide +kernel
theorem dX3_init_76 : decode cX3_init 76 = .ok (.iconst 0, 1) := by decide +kernel
theorem dX3_init_77 : decode cX3_init 77 = .ok (.putfield 50, 3) := by decide +kernel
theorem dX3_init_80 : decode cX3_init 80 = .ok (.iconst 0, 1) := by decide +kernel
theorem dX3_init_81 : decode cX3_init 81 = .ok (.istore_n 1, 1) := by decide +kernel
theorem dX3_init_82 : decode cX3_init 82 = .ok (.iload_n 1, 1) := by decide +kernel
theorem dX3_init_83 : decode cX3_init 83 = .ok (.bipush 24, 2) := by decide +kernel
theorem dX3_init_85 : decode cX3_init 85 = .ok (.if_icmp .ge 16, 3) := by decide +kernel
theorem dX3_init_88 : decode cX3_init 88 = .ok (.aload_n 0, 1) := by decide +kernel
theorem dX3_init_89 : decode cX3_init 89 = .ok (.getfield 9, 3) := by decide +kernel
theorem dX3_init_92 : decode cX3_init 92 = .ok (.iload_n 1, 1) := by decide +kernel
theorem dX3_init_93 : decode cX3_init 93 = .ok (.iload_n 1, 1) := by decide +kernel
theorem dX3_init_94 : decode cX3_init 94 = .ok (.iastore, 1) := by decide +kernel
theorem dX3_init_95 : decode cX3_init 95 = .ok (.iinc 1 1, 3) := by decide +kernel
theorem dX3_init_98 : decode cX3_init 98 = .ok (.goto (-16), 3) := by decide +kernel
theorem dX3_init_101 : decode cX3_init 101 = .ok (.iconst 0, 1) := by decide +kernel
theorem dX3_init_102 : decode cX3_init 102 = .ok (.istore_n 1, 1) := by decide +kernel
theorem dX3_init_103 : decode cX3_init 103 = .ok (.iload_n 1, 1) := by decide +kernel
theorem dX3_init_104 : decode cX3_init 104 = .ok (.iconst 4, 1) := by decide +kernel
theorem dX3_init_105 : decode cX3_init 105 = .ok (.if_icmp .ge 22, 3) := by decide +kernel
theorem dX3_init_108 : decode cX3_init 108 = .ok (.aload_n 0, 1) := by decide +kernel
theorem dX3_init_109 : decode cX3_init 109 = .ok (.getfield 21, 3) := by decide +kernel
theorem dX3_init_112 : decode cX3_init 112 = .ok (.iload_n 1, 1) := by decide +kernel
theorem dX3_init_113 : decode cX3_init 113 = .ok (.getstatic 53, 3) := by decide +kernel
theorem dX3_init_116 : decode cX3_init 116 = .ok (.iload_n 1, 1) := by decide +kernel
theorem dX3_init_117 : decode cX3_init 117 = .ok (.invokestatic 56, 3) := by decide +kernel
theorem dX3_init_120 : decode cX3_init 120 = .ok (.iastore, 1) := by decide +kernel
theorem dX3_init_121 : decode cX3_init 121 = .ok (.iinc 1 1, 3) := by decide +kernel
theorem dX3_init_124 : decode cX3_init 124 = .ok (.goto (-21), 3) := by decide +kernel
theorem dX3_init_127 : decode cX3_init 127 = .ok (.return_, 1) := by decide +kernel
theorem dX3_copyFrom_0 : decode cX3_copyFrom 0 = .ok (.aload_n 1, 1) := by decide +kernel
theorem dX3_copyFrom_1 : decode cX3_copyFrom 1 = .ok (.ifnonnull 4, 3) := by decide +kernel
theorem dX3_copyFrom_4 : decode cX3_copyFrom 4 = .ok (.return_, 1) := by decide +kernel
theorem dX3_copyFrom_5 : decode cX3_copyFrom 5 = .ok (.aload_n 1, 1) := by decide +kernel
theorem dX3_copyFrom_6 : decode cX3_copyFrom 6 = .ok (.getfield 9, 3) := by decide +kernel
theorem dX3_copyFrom_9 : decode cX3_copyFrom 9 = .ok (.aload_n 0, 1) := by decide +kernel
theorem dX3_copyFrom_10 : decode cX3_copyFrom 10 = .ok (.getfield 9, 3) := by decide +kernel
theorem dX3_copyFrom_13 : decode cX3_copyFrom 13 = .ok (.invokestatic 60, 3) := by decide +kernel
theorem dX3_copyFrom_16 : decode cX3_copyFrom 16 = .ok (.aload_n 1, 1) := by decide +kernel
theorem dX3_copyFrom_17 : decode cX3_copyFrom 17 = .ok (.getfield 15, 3) := by decide +kernel
theorem dX3_copyFrom_20 : decode cX3_copyFrom 20 = .ok (.aload_n 0, 1) := by decide +kernel
theorem dX3_copyFrom_21 : decode cX3_copyFrom 21 = .ok (.getfield 15, 3) := by decide +kernel
theorem dX3_copyFrom_24 : decode cX3_copyFrom 24 = .ok (.invokestatic 60, 3) := by decide +kernel
theorem dX3_copyFrom_27 : decode cX3_copyFrom 27 = .ok (.aload_n 1, 1) := by decide +kernel
theorem dX3_copyFrom_28 : decode cX3_copyFrom 28 = .ok (.getfield 18, 3) := by decide +kernel
theorem dX3_copyFrom_31 : decode cX3_copyFrom 31 = .ok (.aload_n 0, 1) := by decide +kernel
theorem dX3_copyFrom_32 : decode cX3_copyFrom 32 = .ok (.getfield 18, 3) := by decide +kernel
theorem dX3_copyFrom_35 : decode cX3_copyFrom 35 = .ok (.invokestatic 60, 3) := by decide +kernel
theorem dX3_copyFrom_38 : decode cX3_copyFrom 38 = .ok (.aload_n 1, 1) := by decide +kernel
theorem dX3_copyFrom_39 : decode cX3_copyFrom 39 = .ok (.getfield 21, 3) := by decide +kernel
theorem dX3_copyFrom_42 : decode cX3_copyFrom 42 = .ok (.aload_n 0, 1) := by decide +kernel
theorem dX3_copyFrom_43 : decode cX3_copyFrom 43 = .ok (.getfield 21, 3) := by decide +kernel
theorem dX3_copyFrom_46 : decode cX3_copyFrom 46 = .ok (.invokestatic 60, 3) := by decide +kernel
theorem dX3_copyFrom_49 : decode cX3_copyFrom 49 = .ok (.iconst 0, 1) := by decide +kernel
theorem dX3_copyFrom_50 : decode cX3_copyFrom 50 = .ok (.istore_n 2, 1) := by decide +kernel
theorem dX3_copyFrom_51 : decode cX3_copyFrom 51 = .ok (.iload_n 2, 1) := by decide +kernel
theorem dX3_copyFrom_52 : decode cX3_copyFrom 52 = .ok (.bipush 6, 2) := by decide +kernel
theorem dX3_copyFrom_54 : decode cX3_copyFrom 54 = .ok (.if_icmp .ge 21, 3) := by decide +kernel
theorem dX3_copyFrom_57 : decode cX3_copyFrom 57 = .ok (.aload_n 0, 1) := by decide +kernel
theorem dX3_copyFrom_58 : decode cX3_copyFrom 58 = .ok (.getfield 26, 3) := by decide +kernel
theorem dX3_copyFrom_61 : decode cX3_copyFrom 61 = .ok (.iload_n 2, 1) := by decide +kernel
theorem dX3_copyFrom_62 : decode cX3_copyFrom 62 = .ok (.aload_n 1, 1) := by decide +kernel
theorem dX3_copyFrom_63 : decode cX3_copyFrom 63 = .ok (.getfield 26, 3) := by decide +kernel
theorem dX3_copyFrom_66 : decode cX3_copyFrom 66 = .ok (.iload_n 2, 1) := by decide +kernel
theorem dX3_copyFrom_67 : decode cX3_copyFrom 67 = .ok (.aaload, 1) := by decide +kernel
theorem dX3_copyFrom_68 : decode cX3_copyFrom 68 = .ok (.aastore, 1) := by decide +kernel
theorem dX3_copyFrom_69 : decode cX3_copyFrom 69 = .ok (.iinc 2 1, 3) := by decide +kernel
theorem dX3_copyFrom_72 : decode cX3_copyFrom 72 = .ok (.goto (-21), 3) := by decide +kernel
theorem dX3_copyFrom_75 : decode cX3_copyFrom 75 = .ok (.aload_n 0, 1) := by decide +kernel
theorem dX3_copyFrom_76 : decode cX3_copyFrom 76 = .ok (.getfield 33, 3) := by decide +kernel
theorem dX3_copyFrom_79 : decode cX3_copyFrom 79 = .ok (.aload_n 1, 1) := by decide +kernel
theorem dX3_copyFrom_80 : decode cX3_copyFrom 80 = .ok (.getfield 33, 3) := by decide +kernel
theorem dX3_copyFrom_83 : decode cX3_copyFrom 83 = .ok (.invokevirtual 64, 3) := by decide +kernel
theorem dX3_copyFrom_86 : decode cX3_copyFrom 86 = .ok (.aload_n 0, 1) := by decide +kernel
theorem dX3_copyFrom_87 : decode cX3_copyFrom 87 = .ok (.aload_n 1, 1) := by decide +kernel
theorem dX3_copyFrom_88 : decode cX3_copyFrom 88 = .ok (.getfield 37, 3) := by decide +kernel
theorem dX3_copyFrom_91 : decode cX3_copyFrom 91 = .ok (.putfield 37, 3) := by decide +kernel
theorem dX3_copyFrom_94 : decode cX3_copyFrom 94 = .ok (.aload_n 0, 1) := by decide +kernel
theorem dX3_copyFrom_95 : decode cX3_copyFrom 95 = .ok (.aload_n 1, 1) := by decide +kernel
theorem dX3_copyFrom_96 : decode cX3_copyFrom 96 = .ok (.getfield 41, 3) := by decide +kernel
theorem dX3_copyFrom_99 : decode cX3_copyFrom 99 = .ok (.putfield 41, 3) := by decide +kernel
theorem dX3_copyFrom_102 : decode cX3_copyFrom 102 = .ok (.aload_n 0, 1) := by decide +kernel
theorem dX3_copyFrom_103 : decode cX3_copyFrom 103 = .ok (.aload_n 1, 1) := by decide +kernel
theorem dX3_copyFrom_104 : decode cX3_copyFrom 104 = .ok (.getfield 44, 3) := by decide +kernel
theorem dX3_copyFrom_107 : decode cX3_copyFrom 107 = .ok (.putfield 44, 3) := by decide +kernel
theorem dX3_copyFrom_110 : decode cX3_copyFrom 110 = .ok (.aload_n 0, 1) := by decide +kernel
theorem dX3_copyFrom_111 : decode cX3_copyFrom 111 = .ok (.aload_n 1, 1) := by decide +kernel
theorem dX3_copyFrom_112 : decode cX3_copyFrom 112 = .ok (.getfield 47, 3) := by decide +kernel
theorem dX3_copyFrom_115 : decode cX3_copyFrom 115 = .ok (.putfield 47, 3) := by decide +kernel
theorem dX3_copyFrom_118 : decode cX3_copyFrom 118 = .ok (.aload_n 0, 1) := by decide +kernel
theorem dX3_copyFrom_119 : decode cX3_copyFrom 119 = .ok (.aload_n 1, 1) := by decide +kernel
theorem dX3_copyFrom_120 : decode cX3_copyFrom 120 = .ok (.getfield 50, 3) := by decide +kernel
theorem dX3_copyFrom_123 : decode cX3_copyFrom 123 = .ok (.putfield 50, 3) := by decide +kernel
theorem dX3_copyFrom_126 : decode cX3_copyFrom 126 = .ok (.return_, 1) := by decide +kernel
theorem dX3_exchange_0 : decode cX3_exchange 0 = .ok (.aload_n 0, 1) := by decide +kernel
theorem dX3_exchange_1 : decode cX3_exchange 1 = .ok (.getfield 9, 3) := by decide +kernel
theorem dX3_exchange_4 : decode cX3_exchange 4 = .ok (.iload_n 1, 1) := by decide +kernel
theorem dX3_exchange_5 : decode cX3_exchange 5 = .ok (.invokestatic 56, 3) := by decide +kernel
theorem dX3_exchange_8 : decode cX3_exchange 8 = .ok (.istore_n 3, 1) := by decide +kernel
theorem dX3_exchange_9 : decode cX3_exchange 9 = .ok (.aload_n 0, 1) := by decide +kernel
theorem dX3_exchange_10 : decode cX3_exchange 10 = .ok (.getfield 9, 3) := by decide +kernel
theorem dX3_exchange_13 : decode cX3_exchange 13 = .ok (.iload_n 1, 1) := by decide +kernel
theorem dX3_exchange_14 : decode cX3_exchange 14 = .ok (.aload_n 0, 1) := by decide +kernel
theorem dX3_exchange_15 : decode cX3_exchange 15 = .ok (.getfield 9, 3) := by decide +kernel
theorem dX3_exchange_18 : decode cX3_exchange 18 = .ok (.iload_n 2, 1) := by decide +kernel
theorem dX3_exchange_19 : decode cX3_exchange 19 = .ok (.invokestatic 56, 3) := by decide +kernel
theorem dX3_exchange_22 : decode cX3_exchange 22 = .ok (.invokestatic 68, 3) := by decide +kernel
theorem dX3_exchange_25 : decode cX3_exchange 25 = .ok (.aload_n 0, 1) := by decide +kernel
theorem dX3_exchange_26 : decode cX3_exchange 26 = .ok (.getfield 9, 3) := by decide +kernel
theorem dX3_exchange_29 : decode cX3_exchange 29 = .ok (.iload_n 2, 1) := by decide +kernel
theorem dX3_exchange_30 : decode cX3_exchange 30 = .ok (.iload_n 3, 1) := by decide +kernel
theorem dX3_exchange_31 : decode cX3_exchange 31 = .ok (.invokestatic 68, 3) := by decide +kernel
theorem dX3_exchange_34 : decode cX3_exchange 34 = .ok (.return_, 1) := by decide +kernel
theorem dX3_cellOf_0 : decode cX3_cellOf 0 = .ok (.iconst 0, 1) := by decide +kernel
theorem dX3_cellOf_1 : decode cX3_cellOf 1 = .ok (.istore_n 2, 1) := by decide +kernel
theorem dX3_cellOf_2 : decode cX3_cellOf 2 = .ok (.iload_n 2, 1) := by decide +kernel
theorem dX3_cellOf_3 : decode cX3_cellOf 3 = .ok (.bipush 24, 2) := by decide +kernel
theorem dX3_cellOf_5 : decode cX3_cellOf 5 = .ok (.if_icmp .ge 21, 3) := by decide +kernel
theorem dX3_cellOf_8 : decode cX3_cellOf 8 = .ok (.aload_n 0, 1) := by decide +kernel
theorem dX3_cellOf_9 : decode cX3_cellOf 9 = .ok (.getfield 9, 3) := by decide +kernel
theorem dX3_cellOf_12 : decode cX3_cellOf 12 = .ok (.iload_n 2, 1) := by decide +kernel
theorem dX3_cellOf_13 : decode cX3_cellOf 13 = .ok (.iaload, 1) := by decide +kernel
theorem dX3_cellOf_14 : decode cX3_cellOf 14 = .ok (.iload_n 1, 1) := by decide +kernel
theorem dX3_cellOf_15 : decode cX3_cellOf 15 = .ok (.if_icmp .ne 5, 3) := by decide +kernel
theorem dX3_cellOf_18 : decode cX3_cellOf 18 = .ok (.iload_n 2, 1) := by decide +kernel
theorem dX3_cellOf_19 : decode cX3_cellOf 19 = .ok (.ireturn, 1) := by decide +kernel
theorem dX3_cellOf_20 : decode cX3_cellOf 20 = .ok (.iinc 2 1, 3) := by decide +kernel
theorem dX3_cellOf_23 : decode cX3_cellOf 23 = .ok (.goto (-21), 3) := by decide +kernel
theorem dX3_cellOf_26 : decode cX3_cellOf 26 = .ok (.bipush (-5), 2) := by decide +kernel
theorem dX3_cellOf_28 : decode cX3_cellOf 28 = .ok (.ireturn, 1) := by decide +kernel
theorem dX3_hasMark_0 : decode cX3_hasMark 0 = .ok (.aload_n 0, 1) := by decide +kernel
theorem dX3_hasMark_1 : decode cX3_hasMark 1 = .ok (.getfield 18, 3) := by decide +kernel
theorem dX3_hasMark_4 : decode cX3_hasMark 4 = .ok (.iload_n 1, 1) := by decide +kernel
theorem dX3_hasMark_5 : decode cX3_hasMark 5 = .ok (.invokestatic 56, 3) := by decide +kernel
theorem dX3_hasMark_8 : decode cX3_hasMark 8 = .ok (.iload_n 2, 1) := by decide +kernel
theorem dX3_hasMark_9 : decode cX3_hasMark 9 = .ok (.ishr, 1) := by decide +kernel
theorem dX3_hasMark_10 : decode cX3_hasMark 10 = .ok (.iconst 1, 1) := by decide +kernel
theorem dX3_hasMark_11 : decode cX3_hasMark 11 = .ok (.iand, 1) := by decide +kernel
theorem dX3_hasMark_12 : decode cX3_hasMark 12 = .ok (.iconst 1, 1) := by decide +kernel
theorem dX3_hasMark_13 : decode cX3_hasMark 13 = .ok (.if_icmp .ne 7, 3) := by decide +kernel
theorem dX3_hasMark_16 : decode cX3_hasMark 16 = .ok (.iconst 1, 1) := by decide +kernel
theorem dX3_hasMark_17 : decode cX3_hasMark 17 = .ok (.goto 4, 3) := by decide +kernel
theorem dX3_hasMark_20 : decode cX3_hasMark 20 = .ok (.iconst 0, 1) := by decide +kernel
theorem dX3_hasMark_21 : decode cX3_hasMark 21 = .ok (.ireturn, 1) := by decide +kernel
theorem dX3_setMark_0 : decode cX3_setMark 0 = .ok (.aload_n 0, 1) := by decide +kernel
theorem dX3_setMark_1 : decode cX3_setMark 1 = .ok (.getfield 18, 3) := by decide +kernel
theorem dX3_setMark_4 : decode cX3_setMark 4 = .ok (.iload_n 1, 1) := by decide +kernel
theorem dX3_setMark_5 : decode cX3_setMark 5 = .ok (.invokestatic 56, 3) := by decide +kernel
theorem dX3_setMark_8 : decode cX3_setMark 8 = .ok (.iconst 1, 1) := by decide +kernel
theorem dX3_setMark_9 : decode cX3_setMark 9 = .ok (.iload_n 2, 1) := by decide +kernel
theorem dX3_setMark_10 : decode cX3_setMark 10 = .ok (.ishl, 1) := by decide +kernel
theorem dX3_setMark_11 : decode cX3_setMark 11 = .ok (.iconst (-1), 1) := by decide +kernel
theorem dX3_setMark_12 : decode cX3_setMark 12 = .ok (.ixor, 1) := by decide +kernel
theorem dX3_setMark_13 : decode cX3_setMark 13 = .ok (.iand, 1) := by decide +kernel
theorem dX3_setMark_14 : decode cX3_setMark 14 = .ok (.istore 4, 2) := by decide +kernel
theorem dX3_setMark_16 : decode cX3_setMark 16 = .ok (.aload_n 0, 1) := by decide +kernel
theorem dX3_setMark_17 : decode cX3_setMark 17 = .ok (.getfield 18, 3) := by decide +kernel
theorem dX3_setMark_20 : decode cX3_setMark 20 = .ok (.iload_n 1, 1) := by decide +kernel
theorem dX3_setMark_21 : decode cX3_setMark 21 = .ok (.iload_n 3, 1) := by decide +kernel
theorem dX3_setMark_22 : decode cX3_setMark 22 = .ok (.ifCond .eq 12, 3) := by decide +kernel
theorem dX3_setMark_25 : decode cX3_setMark 25 = .ok (.iload 4, 2) := by decide +kernel
theorem dX3_setMark_27 : decode cX3_setMark 27 = .ok (.iconst 1, 1) := by decide +kernel
theorem dX3_setMark_28 : decode cX3_setMark 28 = .ok (.iload_n 2, 1) := by decide +kernel
theorem dX3_setMark_29 : decode cX3_setMark 29 = .ok (.ishl, 1) := by decide +kernel
theorem dX3_setMark_30 : decode cX3_setMark 30 = .ok (.ior, 1) := by decide +kernel
theorem dX3_setMark_31 : decode cX3_setMark 31 = .ok (.goto 5, 3) := by decide +kernel
theorem dX3_setMark_34 : decode cX3_setMark 34 = .ok (.iload 4, 2) := by decide +kernel
theorem dX3_setMark_36 : decode cX3_setMark 36 = .ok (.invokestatic 68, 3) := by decide +kernel
theorem dX3_setMark_39 : decode cX3_setMark 39 = .ok (.return_, 1) := by decide +kernel
theorem dX3_marksOnBacks_0 : decode cX3_marksOnBacks 0 = .ok (.iconst 0, 1) := by decide +kernel
theorem dX3_marksOnBacks_1 : decode cX3_marksOnBacks 1 = .ok (.istore_n 1, 1) := by decide +kernel
theorem dX3_marksOnBacks_2 : decode cX3_marksOnBacks 2 = .ok (.iconst 0, 1) := by decide +kernel
theorem dX3_marksOnBacks_3 : decode cX3_marksOnBacks 3 = .ok (.istore_n 2, 1) := by decide +kernel
theorem dX3_marksOnBacks_4 : decode cX3_marksOnBacks 4 = .ok (.iload_n 2, 1) := by decide +kernel
theorem dX3_marksOnBacks_5 : decode cX3_marksOnBacks 5 = .ok (.bipush 24, 2) := by decide +kernel
theorem dX3_marksOnBacks_7 : decode cX3_marksOnBacks 7 = .ok (.if_icmp .ge 21, 3) := by decide +kernel
theorem dX3_marksOnBacks_10 : decode cX3_marksOnBacks 10 = .ok (.iload_n 1, 1) := by decide +kernel
theorem dX3_marksOnBacks_11 : decode cX3_marksOnBacks 11 = .ok (.aload_n 0, 1) := by decide +kernel
theorem dX3_marksOnBacks_12 : decode cX3_marksOnBacks 12 = .ok (.getfield 18, 3) := by decide +kernel
theorem dX3_marksOnBacks_15 : decode cX3_marksOnBacks 15 = .ok (.iload_n 2, 1) := by decide +kernel
theorem dX3_marksOnBacks_16 : decode cX3_marksOnBacks 16 = .ok (.iaload, 1) := by decide +kernel
theorem dX3_marksOnBacks_17 : decode cX3_marksOnBacks 17 = .ok (.invokestatic 72, 3) := by decide +kernel
theorem dX3_marksOnBacks_20 : decode cX3_marksOnBacks 20 = .ok (.iadd, 1) := by decide +kernel
theorem dX3_marksOnBacks_21 : decode cX3_marksOnBacks 21 = .ok (.istore_n 1, 1) := by decide +kernel
theorem dX3_marksOnBacks_22 : decode cX3_marksOnBacks 22 = .ok (.iinc 2 1, 3) := by decide +kernel
theorem dX3_marksOnBacks_25 : decode cX3_marksOnBacks 25 = .ok (.goto (-21), 3) := by decide +kernel
theorem dX3_marksOnBacks_28 : decode cX3_marksOnBacks 28 = .ok (.iload_n 1, 1) := by decide +kernel
theorem dX3_marksOnBacks_29 : decode cX3_marksOnBacks 29 = .ok (.ireturn, 1) := by decide +kernel
theorem dX3_sheetAt_0 : decode cX3_sheetAt 0 = .ok (.iload_n 1, 1) := by decide +kernel
theorem dX3_sheetAt_1 : decode cX3_sheetAt 1 = .ok (.ifCond .lt 20, 3) := by decide +kernel
theorem dX3_sheetAt_4 : decode cX3_sheetAt 4 = .ok (.iload_n 1, 1) := by decide +kernel
theorem dX3_sheetAt_5 : decode cX3_sheetAt 5 = .ok (.aload_n 0, 1) := by decide +kernel
theorem dX3_sheetAt_6 : decode cX3_sheetAt 6 = .ok (.getfield 37, 3) := by decide +kernel
theorem dX3_sheetAt_9 : decode cX3_sheetAt 9 = .ok (.if_icmp .ge 12, 3) := by decide +kernel
theorem dX3_sheetAt_12 : decode cX3_sheetAt 12 = .ok (.aload_n 0, 1) := by decide +kernel
theorem dX3_sheetAt_13 : decode cX3_sheetAt 13 = .ok (.getfield 37, 3) := by decide +kernel
theorem dX3_sheetAt_16 : decode cX3_sheetAt 16 = .ok (.bipush 6, 2) := by decide +kernel
theorem dX3_sheetAt_18 : decode cX3_sheetAt 18 = .ok (.if_icmp .le 5, 3) := by decide +kernel
theorem dX3_sheetAt_21 : decode cX3_sheetAt 21 = .ok (.aconst_null, 1) := by decide +kernel
theorem dX3_sheetAt_22 : decode cX3_sheetAt 22 = .ok (.areturn, 1) := by decide +kernel
theorem dX3_sheetAt_23 : decode cX3_sheetAt 23 = .ok (.aload_n 0, 1) := by decide +kernel
theorem dX3_sheetAt_24 : decode cX3_sheetAt 24 = .ok (.getfield 26, 3) := by decide +kernel
theorem dX3_sheetAt_27 : decode cX3_sheetAt 27 = .ok (.aload_n 0, 1) := by decide +kernel
theorem dX3_sheetAt_28 : decode cX3_sheetAt 28 = .ok (.getfield 37, 3) := by decide +kernel
theorem dX3_sheetAt_31 : decode cX3_sheetAt 31 = .ok (.iconst 1, 1) := by decide +kernel
theorem dX3_sheetAt_32 : decode cX3_sheetAt 32 = .ok (.isub, 1) := by decide +kernel
theorem dX3_sheetAt_33 : decode cX3_sheetAt 33 = .ok (.iload_n 1, 1) := by decide +kernel
theorem dX3_sheetAt_34 : decode cX3_sheetAt 34 = .ok (.isub, 1) := by decide +kernel
theorem dX3_sheetAt_35 : decode cX3_sheetAt 35 = .ok (.aaload, 1) := by decide +kernel
theorem dX3_sheetAt_36 : decode cX3_sheetAt 36 = .ok (.areturn, 1) := by decide +kernel
theorem dX3_printSheet_0 : decode cX3_printSheet 0 = .ok (.aload_n 0, 1) := by decide +kernel
theorem dX3_printSheet_1 : decode cX3_printSheet 1 = .ok (.getfield 37, 3) := by decide +kernel
theorem dX3_printSheet_4 : decode cX3_printSheet 4 = .ok (.ifCond .lt 12, 3) := by decide +kernel
theorem dX3_printSheet_7 : decode cX3_printSheet 7 = .ok (.aload_n 0, 1) := by decide +kernel
theorem dX3_printSheet_8 : decode cX3_printSheet 8 = .ok (.getfield 37, 3) := by decide +kernel
theorem dX3_printSheet_11 : decode cX3_printSheet 11 = .ok (.bipush 6, 2) := by decide +kernel
theorem dX3_printSheet_13 : decode cX3_printSheet 13 = .ok (.if_icmp .lt 4, 3) := by decide +kernel
theorem dX3_printSheet_16 : decode cX3_printSheet 16 = .ok (.return_, 1) := by decide +kernel
theorem dX3_printSheet_17 : decode cX3_printSheet 17 = .ok (.aload_n 0, 1) := by decide +kernel
theorem dX3_printSheet_18 : decode cX3_printSheet 18 = .ok (.getfield 26, 3) := by decide +kernel
theorem dX3_printSheet_21 : decode cX3_printSheet 21 = .ok (.aload_n 0, 1) := by decide +kernel
theorem dX3_printSheet_22 : decode cX3_printSheet 22 = .ok (.getfield 37, 3) := by decide +kernel
theorem dX3_printSheet_25 : decode cX3_printSheet 25 = .ok (.new 24, 3) := by decide +kernel
theorem dX3_printSheet_28 : decode cX3_printSheet 28 = .ok (.dup, 1) := by decide +kernel
theorem dX3_printSheet_29 : decode cX3_printSheet 29 = .ok (.aload_n 0, 1) := by decide +kernel
theorem dX3_printSheet_30 : decode cX3_printSheet 30 = .ok (.getfield 9, 3) := by decide +kernel
theorem dX3_printSheet_33 : decode cX3_printSheet 33 = .ok (.aload_n 0, 1) := by decide +kernel
theorem dX3_printSheet_34 : decode cX3_printSheet 34 = .ok (.getfield 15, 3) := by decide +kernel
theorem dX3_printSheet_37 : decode cX3_printSheet 37 = .ok (.aload_n 0, 1) := by decide +kernel
theorem dX3_printSheet_38 : decode cX3_printSheet 38 = .ok (.getfield 18, 3) := by decide +kernel
theorem dX3_printSheet_41 : decode cX3_printSheet 41 = .ok (.iload_n 1, 1) := by decide +kernel
theorem dX3_printSheet_42 : decode cX3_printSheet 42 = .ok (.invokespecial 78, 3) := by decide +kernel
theorem dX3_printSheet_45 : decode cX3_printSheet 45 = .ok (.aastore, 1) := by decide +kernel
theorem dX3_printSheet_46 : decode cX3_printSheet 46 = .ok (.aload_n 0, 1) := by decide +kernel
theorem dX3_printSheet_47 : decode cX3_printSheet 47 = .ok (.dup, 1) := by decide +kernel
theorem dX3_printSheet_48 : decode cX3_printSheet 48 = .ok (.getfield 37, 3) := by decide +kernel
theorem dX3_printSheet_51 : decode cX3_printSheet 51 = .ok (.iconst 1, 1) := by decide +kernel
theorem dX3_printSheet_52 : decode cX3_printSheet 52 = .ok (.iadd, 1) := by decide +kernel
theorem dX3_printSheet_53 : decode cX3_printSheet 53 = .ok (.putfield 37, 3) := by decide +kernel
theorem dX3_printSheet_56 : decode cX3_printSheet 56 = .ok (.aload_n 0, 1) := by decide +kernel
theorem dX3_printSheet_57 : decode cX3_printSheet 57 = .ok (.dup, 1) := by decide +kernel
theorem dX3_printSheet_58 : decode cX3_printSheet 58 = .ok (.getfield 41, 3) := by decide +kernel
theorem dX3_printSheet_61 : decode cX3_printSheet 61 = .ok (.iconst 1, 1) := by decide +kernel
theorem dX3_printSheet_62 : decode cX3_printSheet 62 = .ok (.iadd, 1) := by decide +kernel
theorem dX3_printSheet_63 : decode cX3_printSheet 63 = .ok (.putfield 41, 3) := by decide +kernel
theorem dX3_printSheet_66 : decode cX3_printSheet 66 = .ok (.aload_n 0, 1) := by decide +kernel
theorem dX3_printSheet_67 : decode cX3_printSheet 67 = .ok (.invokevirtual 81, 3) := by decide +kernel
theorem dX3_printSheet_70 : decode cX3_printSheet 70 = .ok (.return_, 1) := by decide +kernel
theorem dX3_wear_0 : decode cX3_wear 0 = .ok (.aload_n 0, 1) := by decide +kernel
theorem dX3_wear_1 : decode cX3_wear 1 = .ok (.getfield 21, 3) := by decide +kernel
theorem dX3_wear_4 : decode cX3_wear 4 = .ok (.iconst 0, 1) := by decide +kernel
theorem dX3_wear_5 : decode cX3_wear 5 = .ok (.invokestatic 56, 3) := by decide +kernel
theorem dX3_wear_8 : decode cX3_wear 8 = .ok (.istore_n 1, 1) := by decide +kernel
theorem dX3_wear_9 : decode cX3_wear 9 = .ok (.iload_n 1, 1) := by decide +kernel
theorem dX3_wear_10 : decode cX3_wear 10 = .ok (.ifCond .le 32, 3) := by decide +kernel
theorem dX3_wear_13 : decode cX3_wear 13 = .ok (.aload_n 0, 1) := by decide +kernel
theorem dX3_wear_14 : decode cX3_wear 14 = .ok (.getfield 41, 3) := by decide +kernel
theorem dX3_wear_17 : decode cX3_wear 17 = .ok (.iload_n 1, 1) := by decide +kernel
theorem dX3_wear_18 : decode cX3_wear 18 = .ok (.irem, 1) := by decide +kernel
theorem dX3_wear_19 : decode cX3_wear 19 = .ok (.ifCond .ne 23, 3) := by decide +kernel
theorem dX3_wear_22 : decode cX3_wear 22 = .ok (.aload_n 0, 1) := by decide +kernel
theorem dX3_wear_23 : decode cX3_wear 23 = .ok (.aload_n 0, 1) := by decide +kernel
theorem dX3_wear_24 : decode cX3_wear 24 = .ok (.getfield 41, 3) := by decide +kernel
theorem dX3_wear_27 : decode cX3_wear 27 = .ok (.bipush 24, 2) := by decide +kernel
theorem dX3_wear_29 : decode cX3_wear 29 = .ok (.irem, 1) := by decide +kernel
theorem dX3_wear_30 : decode cX3_wear 30 = .ok (.aload_n 0, 1) := by decide +kernel
theorem dX3_wear_31 : decode cX3_wear 31 = .ok (.getfield 41, 3) := by decide +kernel
theorem dX3_wear_34 : decode cX3_wear 34 = .ok (.iload_n 1, 1) := by decide +kernel
theorem dX3_wear_35 : decode cX3_wear 35 = .ok (.idiv, 1) := by decide +kernel
theorem dX3_wear_36 : decode cX3_wear 36 = .ok (.iconst 4, 1) := by decide +kernel
theorem dX3_wear_37 : decode cX3_wear 37 = .ok (.irem, 1) := by decide +kernel
theorem dX3_wear_38 : decode cX3_wear 38 = .ok (.iconst 1, 1) := by decide +kernel
theorem dX3_wear_39 : decode cX3_wear 39 = .ok (.invokevirtual 84, 3) := by decide +kernel
theorem dX3_wear_42 : decode cX3_wear 42 = .ok (.return_, 1) := by decide +kernel
theorem dX3_takeTopSheet_0 : decode cX3_takeTopSheet 0 = .ok (.aload_n 0, 1) := by decide +kernel
theorem dX3_takeTopSheet_1 : decode cX3_takeTopSheet 1 = .ok (.iconst 0, 1) := by decide +kernel
theorem dX3_takeTopSheet_2 : decode cX3_takeTopSheet 2 = .ok (.invokevirtual 88, 3) := by decide +kernel
theorem dX3_takeTopSheet_5 : decode cX3_takeTopSheet 5 = .ok (.astore_n 1, 1) := by decide +kernel
theorem dX3_takeTopSheet_6 : decode cX3_takeTopSheet 6 = .ok (.aload_n 1, 1) := by decide +kernel
theorem dX3_takeTopSheet_7 : decode cX3_takeTopSheet 7 = .ok (.ifnull 23, 3) := by decide +kernel
theorem dX3_takeTopSheet_10 : decode cX3_takeTopSheet 10 = .ok (.aload_n 0, 1) := by decide +kernel
theorem dX3_takeTopSheet_11 : decode cX3_takeTopSheet 11 = .ok (.dup, 1) := by decide +kernel
theorem dX3_takeTopSheet_12 : decode cX3_takeTopSheet 12 = .ok (.getfield 37, 3) := by decide +kernel
theorem dX3_takeTopSheet_15 : decode cX3_takeTopSheet 15 = .ok (.iconst 1, 1) := by decide +kernel
theorem dX3_takeTopSheet_16 : decode cX3_takeTopSheet 16 = .ok (.isub, 1) := by decide +kernel
theorem dX3_takeTopSheet_17 : decode cX3_takeTopSheet 17 = .ok (.putfield 37, 3) := by decide +kernel
theorem dX3_takeTopSheet_20 : decode cX3_takeTopSheet 20 = .ok (.aload_n 0, 1) := by decide +kernel
theorem dX3_takeTopSheet_21 : decode cX3_takeTopSheet 21 = .ok (.getfield 26, 3) := by decide +kernel
theorem dX3_takeTopSheet_24 : decode cX3_takeTopSheet 24 = .ok (.aload_n 0, 1) := by decide +kernel
theorem dX3_takeTopSheet_25 : decode cX3_takeTopSheet 25 = .ok (.getfield 37, 3) := by decide +kernel
theorem dX3_takeTopSheet_28 : decode cX3_takeTopSheet 28 = .ok (.aconst_null, 1) := by decide +kernel
theorem dX3_takeTopSheet_29 : decode cX3_takeTopSheet 29 = .ok (.aastore, 1) := by decide +kernel
theorem dX3_takeTopSheet_30 : decode cX3_takeTopSheet 30 = .ok (.aload_n 1, 1) := by decide +kernel
theorem dX3_takeTopSheet_31 : decode cX3_takeTopSheet 31 = .ok (.areturn, 1) := by decide +kernel
theorem dX3_reasonAgainstSale_0 : decode cX3_reasonAgainstSale 0 = .ok (.aload_n 0, 1) := by decide +kernel
theorem dX3_reasonAgainstSale_1 : decode cX3_reasonAgainstSale 1 = .ok (.getfield 33, 3) := by decide +kernel
theorem dX3_reasonAgainstSale_4 : decode cX3_reasonAgainstSale 4 = .ok (.getfield 92, 3) := by decide +kernel
theorem dX3_reasonAgainstSale_7 : decode cX3_reasonAgainstSale 7 = .ok (.astore_n 1, 1) := by decide +kernel
theorem dX3_reasonAgainstSale_8 : decode cX3_reasonAgainstSale 8 = .ok (.aload_n 0, 1) := by decide +kernel
theorem dX3_reasonAgainstSale_9 : decode cX3_reasonAgainstSale 9 = .ok (.getfield 33, 3) := by decide +kernel
theorem dX3_reasonAgainstSale_12 : decode cX3_reasonAgainstSale 12 = .ok (.getfield 96, 3) := by decide +kernel
theorem dX3_reasonAgainstSale_15 : decode cX3_reasonAgainstSale 15 = .ok (.ifCond .le 5, 3) := by decide +kernel
theorem dX3_reasonAgainstSale_18 : decode cX3_reasonAgainstSale 18 = .ok (.iconst 1, 1) := by decide +kernel
theorem dX3_reasonAgainstSale_19 : decode cX3_reasonAgainstSale 19 = .ok (.ireturn, 1) := by decide +kernel
theorem dX3_reasonAgainstSale_20 : decode cX3_reasonAgainstSale 20 = .ok (.aload_n 1, 1) := by decide +kernel
theorem dX3_reasonAgainstSale_21 : decode cX3_reasonAgainstSale 21 = .ok (.ifnull 23, 3) := by decide +kernel
theorem dX3_reasonAgainstSale_24 : decode cX3_reasonAgainstSale 24 = .ok (.aload_n 1, 1) := by decide +kernel
theorem dX3_reasonAgainstSale_25 : decode cX3_reasonAgainstSale 25 = .ok (.getfield 99, 3) := by decide +kernel
theorem dX3_reasonAgainstSale_28 : decode cX3_reasonAgainstSale 28 = .ok (.aload_n 0, 1) := by decide +kernel
theorem dX3_reasonAgainstSale_29 : decode cX3_reasonAgainstSale 29 = .ok (.getfield 21, 3) := by decide +kernel
theorem dX3_reasonAgainstSale_32 : decode cX3_reasonAgainstSale 32 = .ok (.iconst 1, 1) := by decide +kernel
theorem dX3_reasonAgainstSale_33 : decode cX3_reasonAgainstSale 33 = .ok (.invokestatic 56, 3) := by decide +kernel
theorem dX3_reasonAgainstSale_36 : decode cX3_reasonAgainstSale 36 = .ok (.invokestatic 100, 3) := by decide +kernel
theorem dX3_reasonAgainstSale_39 : decode cX3_reasonAgainstSale 39 = .ok (.ifCond .le 5, 3) := by decide +kernel
theorem dX3_reasonAgainstSale_42 : decode cX3_reasonAgainstSale 42 = .ok (.iconst 2, 1) := by decide +kernel
theorem dX3_reasonAgainstSale_43 : decode cX3_reasonAgainstSale 43 = .ok (.ireturn, 1) := by decide +kernel
theorem dX3_reasonAgainstSale_44 : decode cX3_reasonAgainstSale 44 = .ok (.aload_n 0, 1) := by decide +kernel
theorem dX3_reasonAgainstSale_45 : decode cX3_reasonAgainstSale 45 = .ok (.getfield 33, 3) := by decide +kernel
theorem dX3_reasonAgainstSale_48 : decode cX3_reasonAgainstSale 48 = .ok (.invokevirtual 103, 3) := by decide +kernel
theorem dX3_reasonAgainstSale_51 : decode cX3_reasonAgainstSale 51 = .ok (.aload_n 0, 1) := by decide +kernel
theorem dX3_reasonAgainstSale_52 : decode cX3_reasonAgainstSale 52 = .ok (.getfield 21, 3) := by decide +kernel
theorem dX3_reasonAgainstSale_55 : decode cX3_reasonAgainstSale 55 = .ok (.iconst 2, 1) := by decide +kernel
theorem dX3_reasonAgainstSale_56 : decode cX3_reasonAgainstSale 56 = .ok (.invokestatic 56, 3) := by decide +kernel
theorem dX3_reasonAgainstSale_59 : decode cX3_reasonAgainstSale 59 = .ok (.if_icmp .le 7, 3) := by decide +kernel
theorem dX3_reasonAgainstSale_62 : decode cX3_reasonAgainstSale 62 = .ok (.iconst 3, 1) := by decide +kernel
theorem dX3_reasonAgainstSale_63 : decode cX3_reasonAgainstSale 63 = .ok (.goto 4, 3) := by decide +kernel
theorem dX3_reasonAgainstSale_66 : decode cX3_reasonAgainstSale 66 = .ok (.iconst 0, 1) := by decide +kernel
theorem dX3_reasonAgainstSale_67 : decode cX3_reasonAgainstSale 67 = .ok (.ireturn, 1) := by decide +kernel
theorem dX3_knownIfPrinted_0 : decode cX3_knownIfPrinted 0 = .ok (.iconst 0, 1) := by decide +kernel
theorem dX3_knownIfPrinted_1 : decode cX3_knownIfPrinted 1 = .ok (.istore_n 3, 1) := by decide +kernel
theorem dX3_knownIfPrinted_2 : decode cX3_knownIfPrinted 2 = .ok (.iconst 0, 1) := by decide +kernel
theorem dX3_knownIfPrinted_3 : decode cX3_knownIfPrinted 3 = .ok (.istore 4, 2) := by decide +kernel
theorem dX3_knownIfPrinted_5 : decode cX3_knownIfPrinted 5 = .ok (.iconst 0, 1) := by decide +kernel
theorem dX3_knownIfPrinted_6 : decode cX3_knownIfPrinted 6 = .ok (.istore 5, 2) := by decide +kernel
theorem dX3_knownIfPrinted_8 : decode cX3_knownIfPrinted 8 = .ok (.iload 5, 2) := by decide +kernel
theorem dX3_knownIfPrinted_10 : decode cX3_knownIfPrinted 10 = .ok (.bipush 24, 2) := by decide +kernel
theorem dX3_knownIfPrinted_12 : decode cX3_knownIfPrinted 12 = .ok (.if_icmp .ge 64, 3) := by decide +kernel
theorem dX3_knownIfPrinted_15 : decode cX3_knownIfPrinted 15 = .ok (.iload_n 1, 1) := by decide +kernel
theorem dX3_knownIfPrinted_16 : decode cX3_knownIfPrinted 16 = .ok (.ifCond .eq 11, 3) := by decide +kernel
theorem dX3_knownIfPrinted_19 : decode cX3_knownIfPrinted 19 = .ok (.bipush 23, 2) := by decide +kernel
theorem dX3_knownIfPrinted_21 : decode cX3_knownIfPrinted 21 = .ok (.iload 5, 2) := by decide +kernel
theorem dX3_knownIfPrinted_23 : decode cX3_knownIfPrinted 23 = .ok (.isub, 1) := by decide +kernel
theorem dX3_knownIfPrinted_24 : decode cX3_knownIfPrinted 24 = .ok (.goto 5, 3) := by decide +kernel
theorem dX3_knownIfPrinted_27 : decode cX3_knownIfPrinted 27 = .ok (.iload 5, 2) := by decide +kernel
theorem dX3_knownIfPrinted_29 : decode cX3_knownIfPrinted 29 = .ok (.istore 6, 2) := by decide +kernel
theorem dX3_knownIfPrinted_31 : decode cX3_knownIfPrinted 31 = .ok (.iload 6, 2) := by decide +kernel
theorem dX3_knownIfPrinted_33 : decode cX3_knownIfPrinted 33 = .ok (.iload_n 2, 1) := by decide +kernel
theorem dX3_knownIfPrinted_34 : decode cX3_knownIfPrinted 34 = .ok (.if_icmp .ne 7, 3) := by decide +kernel
theorem dX3_knownIfPrinted_37 : decode cX3_knownIfPrinted 37 = .ok (.iconst 0, 1) := by decide +kernel
theorem dX3_knownIfPrinted_38 : decode cX3_knownIfPrinted 38 = .ok (.goto 12, 3) := by decide +kernel
theorem dX3_knownIfPrinted_41 : decode cX3_knownIfPrinted 41 = .ok (.aload_n 0, 1) := by decide +kernel
theorem dX3_knownIfPrinted_42 : decode cX3_knownIfPrinted 42 = .ok (.getfield 18, 3) := by decide +kernel
theorem dX3_knownIfPrinted_45 : decode cX3_knownIfPrinted 45 = .ok (.iload 6, 2) := by decide +kernel
theorem dX3_knownIfPrinted_47 : decode cX3_knownIfPrinted 47 = .ok (.invokestatic 56, 3) := by decide +kernel
theorem dX3_knownIfPrinted_50 : decode cX3_knownIfPrinted 50 = .ok (.istore 7, 2) := by decide +kernel
theorem dX3_knownIfPrinted_52 : decode cX3_knownIfPrinted 52 = .ok (.iload 4, 2) := by decide +kernel
theorem dX3_knownIfPrinted_54 : decode cX3_knownIfPrinted 54 = .ok (.iload_n 3, 1) := by decide +kernel
theorem dX3_knownIfPrinted_55 : decode cX3_knownIfPrinted 55 = .ok (.iconst 1, 1) := by decide +kernel
theorem dX3_knownIfPrinted_56 : decode cX3_knownIfPrinted 56 = .ok (.iload 7, 2) := by decide +kernel
theorem dX3_knownIfPrinted_58 : decode cX3_knownIfPrinted 58 = .ok (.ishl, 1) := by decide +kernel
theorem dX3_knownIfPrinted_59 : decode cX3_knownIfPrinted 59 = .ok (.iand, 1) := by decide +kernel
theorem dX3_knownIfPrinted_60 : decode cX3_knownIfPrinted 60 = .ok (.ior, 1) := by decide +kernel
theorem dX3_knownIfPrinted_61 : decode cX3_knownIfPrinted 61 = .ok (.istore 4, 2) := by decide +kernel
theorem dX3_knownIfPrinted_63 : decode cX3_knownIfPrinted 63 = .ok (.iload_n 3, 1) := by decide +kernel
theorem dX3_knownIfPrinted_64 : decode cX3_knownIfPrinted 64 = .ok (.iconst 1, 1) := by decide +kernel
theorem dX3_knownIfPrinted_65 : decode cX3_knownIfPrinted 65 = .ok (.iload 7, 2) := by decide +kernel
theorem dX3_knownIfPrinted_67 : decode cX3_knownIfPrinted 67 = .ok (.ishl, 1) := by decide +kernel
theorem dX3_knownIfPrinted_68 : decode cX3_knownIfPrinted 68 = .ok (.ior, 1) := by decide +kernel
theorem dX3_knownIfPrinted_69 : decode cX3_knownIfPrinted 69 = .ok (.istore_n 3, 1) := by decide +kernel
theorem dX3_knownIfPrinted_70 : decode cX3_knownIfPrinted 70 = .ok (.iinc 5 1, 3) := by decide +kernel
theorem dX3_knownIfPrinted_73 : decode cX3_knownIfPrinted 73 = .ok (.goto (-65), 3) := by decide +kernel
theorem dX3_knownIfPrinted_76 : decode cX3_knownIfPrinted 76 = .ok (.iload_n 3, 1) := by decide +kernel
theorem dX3_knownIfPrinted_77 : decode cX3_knownIfPrinted 77 = .ok (.iload 4, 2) := by decide +kernel
theorem dX3_knownIfPrinted_79 : decode cX3_knownIfPrinted 79 = .ok (.iconst (-1), 1) := by decide +kernel
theorem dX3_knownIfPrinted_80 : decode cX3_knownIfPrinted 80 = .ok (.ixor, 1) := by decide +kernel
theorem dX3_knownIfPrinted_81 : decode cX3_knownIfPrinted 81 = .ok (.iand, 1) := by decide +kernel
theorem dX3_knownIfPrinted_82 : decode cX3_knownIfPrinted 82 = .ok (.invokestatic 72, 3) := by decide +kernel
theorem dX3_knownIfPrinted_85 : decode cX3_knownIfPrinted 85 = .ok (.ireturn, 1) := by decide +kernel
theorem dX4_init_0 : decode cX4_init 0 = .ok (.aload_n 0, 1) := by decide +kernel
theorem dX4_init_1 : decode cX4_init 1 = .ok (.invokespecial 3, 3) := by decide +kernel
theorem dX4_init_4 : decode cX4_init 4 = .ok (.aload_n 0, 1) := by decide +kernel
theorem dX4_init_5 : decode cX4_init 5 = .ok (.bipush 60, 2) := by decide +kernel
theorem dX4_init_7 : decode cX4_init 7 = .ok (.newarray .char, 2) := by decide +kernel
theorem dX4_init_9 : decode cX4_init 9 = .ok (.putfield 9, 3) := by decide +kernel
theorem dX4_init_12 : decode cX4_init 12 = .ok (.aload_n 0, 1) := by decide +kernel
theorem dX4_init_13 : decode cX4_init 13 = .ok (.iconst 0, 1) := by decide +kernel
theorem dX4_init_14 : decode cX4_init 14 = .ok (.putfield 15, 3) := by decide +kernel
theorem dX4_init_17 : decode cX4_init 17 = .ok (.aload_n 0, 1) := by decide +kernel
theorem dX4_init_18 : decode cX4_init 18 = .ok (.iconst 0, 1) := by decide +kernel
theorem dX4_init_19 : decode cX4_init 19 = .ok (.putfield 19, 3) := by decide +kernel
theorem dX4_init_22 : decode cX4_init 22 = .ok (.aload_n 0, 1) := by decide +kernel
theorem dX4_init_23 : decode cX4_init 23 = .ok (.bipush 12, 2) := by decide +kernel
theorem dX4_init_25 : decode cX4_init 25 = .ok (.newarray .char, 2) := by decide +kernel
theorem dX4_init_27 : decode cX4_init 27 = .ok (.putfield 22, 3) := by decide +kernel
theorem dX4_init_30 : decode cX4_init 30 = .ok (.aload_n 0, 1) := by decide +kernel
theorem dX4_init_31 : decode cX4_init 31 = .ok (.bipush 12, 2) := by decide +kernel
theorem dX4_init_33 : decode cX4_init 33 = .ok (.newarray .int, 2) := by decide +kernel
theorem dX4_init_35 : decode cX4_init 35 = .ok (.putfield 25, 3) := by decide +kernel
theorem dX4_init_38 : decode cX4_init 38 = .ok (.aload_n 0, 1) := by decide +kernel
theorem dX4_init_39 : decode cX4_init 39 = .ok (.bipush 12, 2) := by decide +kernel
theorem dX4_init_41 : decode cX4_init 41 = .ok (.newarray .int, 2) := by decide +kernel
theorem dX4_init_43 : decode cX4_init 43 = .ok (.putfield 29, 3) := by decide +kernel
theorem dX4_init_46 : decode cX4_init 46 = .ok (.aload_n 0, 1) := by decide +kernel
theorem dX4_init_47 : decode cX4_init 47 = .ok (.iconst 0, 1) := by decide +kernel
theorem dX4_init_48 : decode cX4_init 48 = .ok (.putfield 32, 3) := by decide +kernel
theorem dX4_init_51 : decode cX4_init 51 = .ok (.return_, 1) := by decide +kernel
theorem dX5_init_0 : decode cX5_init 0 = .ok (.aload_n 0, 1) := by decide +kernel
theorem dX5_init_1 : decode cX5_init 1 = .ok (.invokespecial 1, 3) := by decide +kernel
theorem dX5_init_4 : decode cX5_init 4 = .ok (.aload_n 0, 1) := by decide +kernel
theorem dX5_init_5 : decode cX5_init 5 = .ok (.new 7, 3) := by decide +kernel
theorem dX5_init_8 : decode cX5_init 8 = .ok (.dup, 1) := by decide +kernel
theorem dX5_init_9 : decode cX5_init 9 = .ok (.invokespecial 9, 3) := by decide +kernel
theorem dX5_init_12 : decode cX5_init 12 = .ok (.putfield 10, 3) := by decide +kernel
theorem dX5_init_15 : decode cX5_init 15 = .ok (.aload_n 0, 1) := by decide +kernel
theorem dX5_init_16 : decode cX5_init 16 = .ok (.new 7, 3) := by decide +kernel
theorem dX5_init_19 : decode cX5_init 19 = .ok (.dup, 1) := by decide +kernel
theorem dX5_init_20 : decode cX5_init 20 = .ok (.invokespecial 9, 3) := by decide +kernel
theorem dX5_init_23 : decode cX5_init 23 = .ok (.putfield 16, 3) := by decide +kernel
theorem dX5_init_26 : decode cX5_init 26 = .ok (.aload_n 0, 1) := by decide +kernel
theorem dX5_init_27 : decode cX5_init 27 = .ok (.new 19, 3) := by decide +kernel
theorem dX5_init_30 : decode cX5_init 30 = .ok (.dup, 1) := by decide +kernel
theorem dX5_init_31 : decode cX5_init 31 = .ok (.invokespecial 21, 3) := by decide +kernel
theorem dX5_init_34 : decode cX5_init 34 = .ok (.putfield 22, 3) := by decide +kernel
theorem dX5_init_37 : decode cX5_init 37 = .ok (.aload_n 0, 1) := by decide +kernel
theorem dX5_init_38 : decode cX5_init 38 = .ok (.new 26, 3) := by decide +kernel
theorem dX5_init_41 : decode cX5_init 41 = .ok (.dup, 1) := by decide +kernel
theorem dX5_init_42 : decode cX5_init 42 = .ok (.invokespecial 28, 3) := by decide +kernel
theorem dX5_init_45 : decode cX5_init 45 = .ok (.putfield 29, 3) := by decide +kernel
theorem dX5_init_48 : decode cX5_init 48 = .ok (.aload_n 0, 1) := by decide +kernel
theorem dX5_init_49 : decode cX5_init 49 = .ok (.bipush 24, 2) := by decide +kernel
theorem dX5_init_51 : decode cX5_init 51 = .ok (.newarray .int, 2) := by decide +kernel
theorem dX5_init_53 : decode cX5_init 53 = .ok (.putfield 33, 3) := by decide +kernel
theorem dX5_init_56 : decode cX5_init 56 = .ok (.aload_n 0, 1) := by decide +kernel
theorem dX5_init_57 : decode cX5_init 57 = .ok (.iconst 0, 1) := by decide +kernel
theorem dX5_init_58 : decode cX5_init 58 = .ok (.putfield 37, 3) := by decide +kernel
theorem dX5_init_61 : decode cX5_init 61 = .ok (.return_, 1) := by decide +kernel
theorem dX5_swap_0 : decode cX5_swap 0 = .ok (.iload_n 1, 1) := by decide +kernel
theorem dX5_swap_1 : decode cX5_swap 1 = .ok (.invokestatic 41, 3) := by decide +kernel
theorem dX5_swap_4 : decode cX5_swap 4 = .ok (.ifCond .eq 10, 3) := by decide +kernel
theorem dX5_swap_7 : decode cX5_swap 7 = .ok (.iload_n 2, 1) := by decide +kernel
theorem dX5_swap_8 : decode cX5_swap 8 = .ok (.invokestatic 41, 3) := by decide +kernel
theorem dX5_swap_11 : decode cX5_swap 11 = .ok (.ifCond .ne 5, 3) := by decide +kernel
theorem dX5_swap_14 : decode cX5_swap 14 = .ok (.iconst (-1), 1) := by decide +kernel
theorem dX5_swap_15 : decode cX5_swap 15 = .ok (.ireturn, 1) := by decide +kernel
theorem dX5_swap_16 : decode cX5_swap 16 = .ok (.iload_n 1, 1) := by decide +kernel
theorem dX5_swap_17 : decode cX5_swap 17 = .ok (.iload_n 2, 1) := by decide +kernel
theorem dX5_swap_18 : decode cX5_swap 18 = .ok (.if_icmp .ne 6, 3) := by decide +kernel
theorem dX5_swap_21 : decode cX5_swap 21 = .ok (.bipush (-5), 2) := by decide +kernel
theorem dX5_swap_23 : decode cX5_swap 23 = .ok (.ireturn, 1) := by decide +kernel
theorem dX5_swap_24 : decode cX5_swap 24 = .ok (.aload_n 0, 1) := by decide +kernel
theorem dX5_swap_25 : decode cX5_swap 25 = .ok (.getfield 22, 3) := by decide +kernel
theorem dX5_swap_28 : decode cX5_swap 28 = .ok (.aload_n 0, 1) := by decide +kernel
theorem dX5_swap_29 : decode cX5_swap 29 = .ok (.getfield 10, 3) := by decide +kernel
theorem dX5_swap_32 : decode cX5_swap 32 = .ok (.invokevirtual 45, 3) := by decide +kernel
theorem dX5_swap_35 : decode cX5_swap 35 = .ok (.aload_n 0, 1) := by decide +kernel
theorem dX5_swap_36 : decode cX5_swap 36 = .ok (.getfield 10, 3) := by decide +kernel
theorem dX5_swap_39 : decode cX5_swap 39 = .ok (.iload_n 1, 1) := by decide +kernel
theorem dX5_swap_40 : decode cX5_swap 40 = .ok (.iload_n 2, 1) := by decide +kernel
theorem dX5_swap_41 : decode cX5_swap 41 = .ok (.invokevirtual 49, 3) := by decide +kernel
theorem dX5_swap_44 : decode cX5_swap 44 = .ok (.aload_n 0, 1) := by decide +kernel
theorem dX5_swap_45 : decode cX5_swap 45 = .ok (.getfield 10, 3) := by decide +kernel
theorem dX5_swap_48 : decode cX5_swap 48 = .ok (.getfield 53, 3) := by decide +kernel
theorem dX5_swap_51 : decode cX5_swap 51 = .ok (.iload_n 1, 1) := by decide +kernel
theorem dX5_swap_52 : decode cX5_swap 52 = .ok (.invokestatic 56, 3) := by decide +kernel
theorem dX5_swap_55 : decode cX5_swap 55 = .ok (.ireturn, 1) := by decide +kernel
theorem dX5_mark_0 : decode cX5_mark 0 = .ok (.iload_n 1, 1) := by decide +kernel
theorem dX5_mark_1 : decode cX5_mark 1 = .ok (.invokestatic 41, 3) := by decide +kernel
theorem dX5_mark_4 : decode cX5_mark 4 = .ok (.ifCond .eq 10, 3) := by decide +kernel
theorem dX5_mark_7 : decode cX5_mark 7 = .ok (.iload_n 2, 1) := by decide +kernel
theorem dX5_mark_8 : decode cX5_mark 8 = .ok (.invokestatic 60, 3) := by decide +kernel
theorem dX5_mark_11 : decode cX5_mark 11 = .ok (.ifCond .ne 5, 3) := by decide +kernel
theorem dX5_mark_14 : decode cX5_mark 14 = .ok (.iconst (-1), 1) := by decide +kernel
theorem dX5_mark_15 : decode cX5_mark 15 = .ok (.ireturn, 1) := by decide +kernel
theorem dX5_mark_16 : decode cX5_mark 16 = .ok (.aload_n 0, 1) := by decide +kernel
theorem dX5_mark_17 : decode cX5_mark 17 = .ok (.getfield 10, 3) := by decide +kernel
theorem dX5_mark_20 : decode cX5_mark 20 = .ok (.iload_n 1, 1) := by decide +kernel
theorem dX5_mark_21 : decode cX5_mark 21 = .ok (.iload_n 2, 1) := by decide +kernel
theorem dX5_mark_22 : decode cX5_mark 22 = .ok (.invokevirtual 63, 3) := by decide +kernel
theorem dX5_mark_25 : decode cX5_mark 25 = .ok (.iload_n 3, 1) := by decide +kernel
theorem dX5_mark_26 : decode cX5_mark 26 = .ok (.if_icmp .ne 6, 3) := by decide +kernel
theorem dX5_mark_29 : decode cX5_mark 29 = .ok (.bipush (-5), 2) := by decide +kernel
theorem dX5_mark_31 : decode cX5_mark 31 = .ok (.ireturn, 1) := by decide +kernel
theorem dX5_mark_32 : decode cX5_mark 32 = .ok (.aload_n 0, 1) := by decide +kernel
theorem dX5_mark_33 : decode cX5_mark 33 = .ok (.getfield 22, 3) := by decide +kernel
theorem dX5_mark_36 : decode cX5_mark 36 = .ok (.aload_n 0, 1) := by decide +kernel
theorem dX5_mark_37 : decode cX5_mark 37 = .ok (.getfield 10, 3) := by decide +kernel
theorem dX5_mark_40 : decode cX5_mark 40 = .ok (.invokevirtual 45, 3) := by decide +kernel
theorem dX5_mark_43 : decode cX5_mark 43 = .ok (.aload_n 0, 1) := by decide +kernel
theorem dX5_mark_44 : decode cX5_mark 44 = .ok (.getfield 10, 3) := by decide +kernel
theorem dX5_mark_47 : decode cX5_mark 47 = .ok (.iload_n 1, 1) := by decide +kernel
theorem dX5_mark_48 : decode cX5_mark 48 = .ok (.iload_n 2, 1) := by decide +kernel
theorem dX5_mark_49 : decode cX5_mark 49 = .ok (.iload_n 3, 1) := by decide +kernel
theorem dX5_mark_50 : decode cX5_mark 50 = .ok (.invokevirtual 67, 3) := by decide +kernel
theorem dX5_mark_53 : decode cX5_mark 53 = .ok (.aload_n 0, 1) := by decide +kernel
theorem dX5_mark_54 : decode cX5_mark 54 = .ok (.getfield 10, 3) := by decide +kernel
theorem dX5_mark_57 : decode cX5_mark 57 = .ok (.getfield 71, 3) := by decide +kernel
theorem dX5_mark_60 : decode cX5_mark 60 = .ok (.iload_n 1, 1) := by decide +kernel
theorem dX5_mark_61 : decode cX5_mark 61 = .ok (.invokestatic 56, 3) := by decide +kernel
theorem dX5_mark_64 : decode cX5_mark 64 = .ok (.ireturn, 1) := by decide +kernel
theorem dX5_lean_0 : decode cX5_lean 0 = .ok (.iload_n 1, 1) := by decide +kernel
theorem dX5_lean_1 : decode cX5_lean 1 = .ok (.invokestatic 74, 3) := by decide +kernel
theorem dX5_lean_4 : decode cX5_lean 4 = .ok (.ifCond .ne 5, 3) := by decide +kernel
theorem dX5_lean_7 : decode cX5_lean 7 = .ok (.iconst (-1), 1) := by decide +kernel
theorem dX5_lean_8 : decode cX5_lean 8 = .ok (.ireturn, 1) := by decide +kernel
theorem dX5_lean_9 : decode cX5_lean 9 = .ok (.iload_n 2, 1) := by decide +kernel
theorem dX5_lean_10 : decode cX5_lean 10 = .ok (.bipush (-9), 2) := by decide +kernel
theorem dX5_lean_12 : decode cX5_lean 12 = .ok (.if_icmp .lt 9, 3) := by decide +kernel
theorem dX5_lean_15 : decode cX5_lean 15 = .ok (.iload_n 2, 1) := by decide +kernel
theorem dX5_lean_16 : decode cX5_lean 16 = .ok (.bipush 9, 2) := by decide +kernel
theorem dX5_lean_18 : decode cX5_lean 18 = .ok (.if_icmp .le 6, 3) := by decide +kernel
theorem dX5_lean_21 : decode cX5_lean 21 = .ok (.bipush (-2), 2) := by decide +kernel
theorem dX5_lean_23 : decode cX5_lean 23 = .ok (.ireturn, 1) := by decide +kernel
theorem dX5_lean_24 : decode cX5_lean 24 = .ok (.iload_n 1, 1) := by decide +kernel
theorem dX5_lean_25 : decode cX5_lean 25 = .ok (.invokestatic 77, 3) := by decide +kernel
theorem dX5_lean_28 : decode cX5_lean 28 = .ok (.ifCond .ne 6, 3) := by decide +kernel
theorem dX5_lean_31 : decode cX5_lean 31 = .ok (.bipush (-4), 2) := by decide +kernel
theorem dX5_lean_33 : decode cX5_lean 33 = .ok (.ireturn, 1) := by decide +kernel
theorem dX5_lean_34 : decode cX5_lean 34 = .ok (.aload_n 0, 1) := by decide +kernel
theorem dX5_lean_35 : decode cX5_lean 35 = .ok (.getfield 10, 3) := by decide +kernel
theorem dX5_lean_38 : decode cX5_lean 38 = .ok (.getfield 80, 3) := by decide +kernel
theorem dX5_lean_41 : decode cX5_lean 41 = .ok (.iload_n 1, 1) := by decide +kernel
theorem dX5_lean_42 : decode cX5_lean 42 = .ok (.invokestatic 56, 3) := by decide +kernel
theorem dX5_lean_45 : decode cX5_lean 45 = .ok (.istore_n 3, 1) := by decide +kernel
theorem dX5_lean_46 : decode cX5_lean 46 = .ok (.iload_n 3, 1) := by decide +kernel
theorem dX5_lean_47 : decode cX5_lean 47 = .ok (.iload_n 2, 1) := by decide +kernel
theorem dX5_lean_48 : decode cX5_lean 48 = .ok (.if_icmp .ne 6, 3) := by decide +kernel
theorem dX5_lean_51 : decode cX5_lean 51 = .ok (.bipush (-5), 2) := by decide +kernel
theorem dX5_lean_53 : decode cX5_lean 53 = .ok (.ireturn, 1) := by decide +kernel
theorem dX5_lean_54 : decode cX5_lean 54 = .ok (.aload_n 0, 1) := by decide +kernel
theorem dX5_lean_55 : decode cX5_lean 55 = .ok (.getfield 22, 3) := by decide +kernel
theorem dX5_lean_58 : decode cX5_lean 58 = .ok (.aload_n 0, 1) := by decide +kernel
theorem dX5_lean_59 : decode cX5_lean 59 = .ok (.getfield 10, 3) := by decide +kernel
theorem dX5_lean_62 : decode cX5_lean 62 = .ok (.invokevirtual 45, 3) := by decide +kernel
theorem dX5_lean_65 : decode cX5_lean 65 = .ok (.aload_n 0, 1) := by decide +kernel
theorem dX5_lean_66 : decode cX5_lean 66 = .ok (.getfield 10, 3) := by decide +kernel
theorem dX5_lean_69 : decode cX5_lean 69 = .ok (.getfield 80, 3) := by decide +kernel
theorem dX5_lean_72 : decode cX5_lean 72 = .ok (.iload_n 1, 1) := by decide +kernel
theorem dX5_lean_73 : decode cX5_lean 73 = .ok (.iload_n 2, 1) := by decide +kernel
theorem dX5_lean_74 : decode cX5_lean 74 = .ok (.invokestatic 83, 3) := by decide +kernel
theorem dX5_lean_77 : decode cX5_lean 77 = .ok (.iload_n 3, 1) := by decide +kernel
theorem dX5_lean_78 : decode cX5_lean 78 = .ok (.bipush 100, 2) := by decide +kernel
theorem dX5_lean_80 : decode cX5_lean 80 = .ok (.iadd, 1) := by decide +kernel
theorem dX5_lean_81 : decode cX5_lean 81 = .ok (.ireturn, 1) := by decide +kernel
theorem dX5_set_0 : decode cX5_set 0 = .ok (.iload_n 1, 1) := by decide +kernel
theorem dX5_set_1 : decode cX5_set 1 = .ok (.ifCond .lt 8, 3) := by decide +kernel
theorem dX5_set_4 : decode cX5_set 4 = .ok (.iload_n 1, 1) := by decide +kernel
theorem dX5_set_5 : decode cX5_set 5 = .ok (.iconst 4, 1) := by decide +kernel
theorem dX5_set_6 : decode cX5_set 6 = .ok (.if_icmp .lt 6, 3) := by decide +kernel
theorem dX5_set_9 : decode cX5_set 9 = .ok (.bipush (-2), 2) := by decide +kernel
theorem dX5_set_11 : decode cX5_set 11 = .ok (.ireturn, 1) := by decide +kernel
theorem dX5_set_12 : decode cX5_set 12 = .ok (.iload_n 2, 1) := by decide +kernel
theorem dX5_set_13 : decode cX5_set 13 = .ok (.getstatic 113, 3) := by decide +kernel
theorem dX5_set_16 : decode cX5_set 16 = .ok (.iload_n 1, 1) := by decide +kernel
theorem dX5_set_17 : decode cX5_set 17 = .ok (.invokestatic 56, 3) := by decide +kernel
theorem dX5_set_20 : decode cX5_set 20 = .ok (.if_icmp .lt 14, 3) := by decide +kernel
theorem dX5_set_23 : decode cX5_set 23 = .ok (.iload_n 2, 1) := by decide +kernel
theorem dX5_set_24 : decode cX5_set 24 = .ok (.getstatic 116, 3) := by decide +kernel
theorem dX5_set_27 : decode cX5_set 27 = .ok (.iload_n 1, 1) := by decide +kernel
theorem dX5_set_28 : decode cX5_set 28 = .ok (.invokestatic 56, 3) := by decide +kernel
theorem dX5_set_31 : decode cX5_set 31 = .ok (.if_icmp .le 6, 3) := by decide +kernel
theorem dX5_set_34 : decode cX5_set 34 = .ok (.bipush (-2), 2) := by decide +kernel
theorem dX5_set_36 : decode cX5_set 36 = .ok (.ireturn, 1) := by decide +kernel
theorem dX5_set_37 : decode cX5_set 37 = .ok (.aload_n 0, 1) := by decide +kernel
theorem dX5_set_38 : decode cX5_set 38 = .ok (.getfield 10, 3) := by decide +kernel
theorem dX5_set_41 : decode cX5_set 41 = .ok (.getfield 119, 3) := by decide +kernel
theorem dX5_set_44 : decode cX5_set 44 = .ok (.iload_n 1, 1) := by decide +kernel
theorem dX5_set_45 : decode cX5_set 45 = .ok (.invokestatic 56, 3) := by decide +kernel
theorem dX5_set_48 : decode cX5_set 48 = .ok (.istore_n 3, 1) := by decide +kernel
theorem dX5_set_49 : decode cX5_set 49 = .ok (.iload_n 3, 1) := by decide +kernel
theorem dX5_set_50 : decode cX5_set 50 = .ok (.iload_n 2, 1) := by decide +kernel
theorem dX5_set_51 : decode cX5_set 51 = .ok (.if_icmp .ne 6, 3) := by decide +kernel
theorem dX5_set_54 : decode cX5_set 54 = .ok (.bipush (-5), 2) := by decide +kernel
theorem dX5_set_56 : decode cX5_set 56 = .ok (.ireturn, 1) := by decide +kernel
theorem dX5_set_57 : decode cX5_set 57 = .ok (.aload_n 0, 1) := by decide +kernel
theorem dX5_set_58 : decode cX5_set 58 = .ok (.getfield 22, 3) := by decide +kernel
theorem dX5_set_61 : decode cX5_set 61 = .ok (.aload_n 0, 1) := by decide +kernel
theorem dX5_set_62 : decode cX5_set 62 = .ok (.getfield 10, 3) := by decide +kernel
theorem dX5_set_65 : decode cX5_set 65 = .ok (.invokevirtual 45, 3) := by decide +kernel
theorem dX5_set_68 : decode cX5_set 68 = .ok (.aload_n 0, 1) := by decide +kernel
theorem dX5_set_69 : decode cX5_set 69 = .ok (.getfield 10, 3) := by decide +kernel
theorem dX5_set_72 : decode cX5_set 72 = .ok (.getfield 119, 3) := by decide +kernel
theorem dX5_set_75 : decode cX5_set 75 = .ok (.iload_n 1, 1) := by decide +kernel
theorem dX5_set_76 : decode cX5_set 76 = .ok (.iload_n 2, 1) := by decide +kernel
theorem dX5_set_77 : decode cX5_set 77 = .ok (.invokestatic 83, 3) := by decide +kernel
theorem dX5_set_80 : decode cX5_set 80 = .ok (.iload_n 3, 1) := by decide +kernel
theorem dX5_set_81 : decode cX5_set 81 = .ok (.ireturn, 1) := by decide +kernel
theorem dX5_print_0 : decode cX5_print 0 = .ok (.aload_n 0, 1) := by decide +kernel
theorem dX5_print_1 : decode cX5_print 1 = .ok (.getfield 10, 3) := by decide +kernel
theorem dX5_print_4 : decode cX5_print 4 = .ok (.getfield 122, 3) := by decide +kernel
theorem dX5_print_7 : decode cX5_print 7 = .ok (.bipush 6, 2) := by decide +kernel
theorem dX5_print_9 : decode cX5_print 9 = .ok (.if_icmp .lt 6, 3) := by decide +kernel
theorem dX5_print_12 : decode cX5_print 12 = .ok (.bipush (-3), 2) := by decide +kernel
theorem dX5_print_14 : decode cX5_print 14 = .ok (.ireturn, 1) := by decide +kernel
theorem dX5_print_15 : decode cX5_print 15 = .ok (.aload_n 0, 1) := by decide +kernel
theorem dX5_print_16 : decode cX5_print 16 = .ok (.getfield 22, 3) := by decide +kernel
theorem dX5_print_19 : decode cX5_print 19 = .ok (.aload_n 0, 1) := by decide +kernel
theorem dX5_print_20 : decode cX5_print 20 = .ok (.getfield 10, 3) := by decide +kernel
theorem dX5_print_23 : decode cX5_print 23 = .ok (.invokevirtual 45, 3) := by decide +kernel
theorem dX5_print_26 : decode cX5_print 26 = .ok (.aload_n 0, 1) := by decide +kernel
theorem dX5_print_27 : decode cX5_print 27 = .ok (.getfield 10, 3) := by decide +kernel
theorem dX5_print_30 : decode cX5_print 30 = .ok (.iload_n 1, 1) := by decide +kernel
theorem dX5_print_31 : decode cX5_print 31 = .ok (.invokevirtual 125, 3) := by decide +kernel
theorem dX5_print_34 : decode cX5_print 34 = .ok (.aload_n 0, 1) := by decide +kernel
theorem dX5_print_35 : decode cX5_print 35 = .ok (.getfield 10, 3) := by decide +kernel
theorem dX5_print_38 : decode cX5_print 38 = .ok (.getfield 122, 3) := by decide +kernel
theorem dX5_print_41 : decode cX5_print 41 = .ok (.ireturn, 1) := by decide +kernel
theorem dX5_cutSheet_0 : decode cX5_cutSheet 0 = .ok (.iload_n 1, 1) := by decide +kernel
theorem dX5_cutSheet_1 : decode cX5_cutSheet 1 = .ok (.ifCond .lt 8, 3) := by decide +kernel
theorem dX5_cutSheet_4 : decode cX5_cutSheet 4 = .ok (.iload_n 1, 1) := by decide +kernel
theorem dX5_cutSheet_5 : decode cX5_cutSheet 5 = .ok (.iconst 4, 1) := by decide +kernel
theorem dX5_cutSheet_6 : decode cX5_cutSheet 6 = .ok (.if_icmp .lt 6, 3) := by decide +kernel
theorem dX5_cutSheet_9 : decode cX5_cutSheet 9 = .ok (.bipush (-2), 2) := by decide +kernel
theorem dX5_cutSheet_11 : decode cX5_cutSheet 11 = .ok (.ireturn, 1) := by decide +kernel
theorem dX5_cutSheet_12 : decode cX5_cutSheet 12 = .ok (.aload_n 0, 1) := by decide +kernel
theorem dX5_cutSheet_13 : decode cX5_cutSheet 13 = .ok (.getfield 10, 3) := by decide +kernel
theorem dX5_cutSheet_16 : decode cX5_cutSheet 16 = .ok (.getfield 129, 3) := by decide +kernel
theorem dX5_cutSheet_19 : decode cX5_cutSheet 19 = .ok (.invokevirtual 133, 3) := by decide +kernel
theorem dX5_cutSheet_22 : decode cX5_cutSheet 22 = .ok (.ifCond .ne 14, 3) := by decide +kernel
theorem dX5_cutSheet_25 : decode cX5_cutSheet 25 = .ok (.aload_n 0, 1) := by decide +kernel
theorem dX5_cutSheet_26 : decode cX5_cutSheet 26 = .ok (.getfield 10, 3) := by decide +kernel
theorem dX5_cutSheet_29 : decode cX5_cutSheet 29 = .ok (.iconst 0, 1) := by decide +kernel
theorem dX5_cutSheet_30 : decode cX5_cutSheet 30 = .ok (.invokevirtual 138, 3) := by decide +kernel
theorem dX5_cutSheet_33 : decode cX5_cutSheet 33 = .ok (.ifnonnull 6, 3) := by decide +kernel
theorem dX5_cutSheet_36 : decode cX5_cutSheet 36 = .ok (.bipush (-4), 2) := by decide +kernel
theorem dX5_cutSheet_38 : decode cX5_cutSheet 38 = .ok (.ireturn, 1) := by decide +kernel
theorem dX5_cutSheet_39 : decode cX5_cutSheet 39 = .ok (.aload_n 0, 1) := by decide +kernel
theorem dX5_cutSheet_40 : decode cX5_cutSheet 40 = .ok (.getfield 22, 3) := by decide +kernel
theorem dX5_cutSheet_43 : decode cX5_cutSheet 43 = .ok (.aload_n 0, 1) := by decide +kernel
theorem dX5_cutSheet_44 : decode cX5_cutSheet 44 = .ok (.getfield 10, 3) := by decide +kernel
theorem dX5_cutSheet_47 : decode cX5_cutSheet 47 = .ok (.invokevirtual 45, 3) := by decide +kernel
theorem dX5_cutSheet_50 : decode cX5_cutSheet 50 = .ok (.aload_n 0, 1) := by decide +kernel
theorem dX5_cutSheet_51 : decode cX5_cutSheet 51 = .ok (.getfield 10, 3) := by decide +kernel
theorem dX5_cutSheet_54 : decode cX5_cutSheet 54 = .ok (.getfield 129, 3) := by decide +kernel
theorem dX5_cutSheet_57 : decode cX5_cutSheet 57 = .ok (.aload_n 0, 1) := by decide +kernel
theorem dX5_cutSheet_58 : decode cX5_cutSheet 58 = .ok (.getfield 10, 3) := by decide +kernel
theorem dX5_cutSheet_61 : decode cX5_cutSheet 61 = .ok (.invokevirtual 142, 3) := by decide +kernel
theorem dX5_cutSheet_64 : decode cX5_cutSheet 64 = .ok (.iload_n 1, 1) := by decide +kernel
theorem dX5_cutSheet_65 : decode cX5_cutSheet 65 = .ok (.invokevirtual 146, 3) := by decide +kernel
theorem dX5_cutSheet_68 : decode cX5_cutSheet 68 = .ok (.aload_n 0, 1) := by decide +kernel
theorem dX5_cutSheet_69 : decode cX5_cutSheet 69 = .ok (.getfield 10, 3) := by decide +kernel
theorem dX5_cutSheet_72 : decode cX5_cutSheet 72 = .ok (.getfield 122, 3) := by decide +kernel
theorem dX5_cutSheet_75 : decode cX5_cutSheet 75 = .ok (.ireturn, 1) := by decide +kernel
theorem dX5_cutPack_0 : decode cX5_cutPack 0 = .ok (.aload_n 0, 1) := by decide +kernel
theorem dX5_cutPack_1 : decode cX5_cutPack 1 = .ok (.getfield 10, 3) := by decide +kernel
theorem dX5_cutPack_4 : decode cX5_cutPack 4 = .ok (.getfield 129, 3) := by decide +kernel
theorem dX5_cutPack_7 : decode cX5_cutPack 7 = .ok (.astore_n 2, 1) := by decide +kernel
theorem dX5_cutPack_8 : decode cX5_cutPack 8 = .ok (.aload_n 2, 1) := by decide +kernel
theorem dX5_cutPack_9 : decode cX5_cutPack 9 = .ok (.invokevirtual 133, 3) := by decide +kernel
theorem dX5_cutPack_12 : decode cX5_cutPack 12 = .ok (.ifCond .ne 6, 3) := by decide +kernel
theorem dX5_cutPack_15 : decode cX5_cutPack 15 = .ok (.bipush (-4), 2) := by decide +kernel
theorem dX5_cutPack_17 : decode cX5_cutPack 17 = .ok (.ireturn, 1) := by decide +kernel
theorem dX5_cutPack_18 : decode cX5_cutPack 18 = .ok (.aload_n 2, 1) := by decide +kernel
theorem dX5_cutPack_19 : decode cX5_cutPack 19 = .ok (.iload_n 1, 1) := by decide +kernel
theorem dX5_cutPack_20 : decode cX5_cutPack 20 = .ok (.invokevirtual 150, 3) := by decide +kernel
theorem dX5_cutPack_23 : decode cX5_cutPack 23 = .ok (.ifCond .ne 6, 3) := by decide +kernel
theorem dX5_cutPack_26 : decode cX5_cutPack 26 = .ok (.bipush (-2), 2) := by decide +kernel
theorem dX5_cutPack_28 : decode cX5_cutPack 28 = .ok (.ireturn, 1) := by decide +kernel
theorem dX5_cutPack_29 : decode cX5_cutPack 29 = .ok (.aload_n 0, 1) := by decide +kernel
theorem dX5_cutPack_30 : decode cX5_cutPack 30 = .ok (.getfield 22, 3) := by decide +kernel
theorem dX5_cutPack_33 : decode cX5_cutPack 33 = .ok (.aload_n 0, 1) := by decide +kernel
theorem dX5_cutPack_34 : decode cX5_cutPack 34 = .ok (.getfield 10, 3) := by decide +kernel
theorem dX5_cutPack_37 : decode cX5_cutPack 37 = .ok (.invokevirtual 45, 3) := by decide +kernel
theorem dX5_cutPack_40 : decode cX5_cutPack 40 = .ok (.aload_n 2, 1) := by decide +kernel
theorem dX5_cutPack_41 : decode cX5_cutPack 41 = .ok (.iload_n 1, 1) := by decide +kernel
theorem dX5_cutPack_42 : decode cX5_cutPack 42 = .ok (.aload_n 0, 1) := by decide +kernel
theorem dX5_cutPack_43 : decode cX5_cutPack 43 = .ok (.getfield 33, 3) := by decide +kernel
theorem dX5_cutPack_46 : decode cX5_cutPack 46 = .ok (.invokevirtual 153, 3) := by decide +kernel
theorem dX5_cutPack_49 : decode cX5_cutPack 49 = .ok (.aload_n 2, 1) := by decide +kernel
theorem dX5_cutPack_50 : decode cX5_cutPack 50 = .ok (.iconst 0, 1) := by decide +kernel
theorem dX5_cutPack_51 : decode cX5_cutPack 51 = .ok (.invokevirtual 157, 3) := by decide +kernel
theorem dX5_cutPack_54 : decode cX5_cutPack 54 = .ok (.ireturn, 1) := by decide +kernel
theorem dX5_shuffle_0 : decode cX5_shuffle 0 = .ok (.aload_n 0, 1) := by decide +kernel
theorem dX5_shuffle_1 : decode cX5_shuffle 1 = .ok (.getfield 10, 3) := by decide +kernel
theorem dX5_shuffle_4 : decode cX5_shuffle 4 = .ok (.getfield 129, 3) := by decide +kernel
theorem dX5_shuffle_7 : decode cX5_shuffle 7 = .ok (.astore_n 2, 1) := by decide +kernel
theorem dX5_shuffle_8 : decode cX5_shuffle 8 = .ok (.aload_n 2, 1) := by decide +kernel
theorem dX5_shuffle_9 : decode cX5_shuffle 9 = .ok (.invokevirtual 133, 3) := by decide +kernel
theorem dX5_shuffle_12 : decode cX5_shuffle 12 = .ok (.ifCond .ne 6, 3) := by decide +kernel
theorem dX5_shuffle_15 : decode cX5_shuffle 15 = .ok (.bipush (-4), 2) := by decide +kernel
theorem dX5_shuffle_17 : decode cX5_shuffle 17 = .ok (.ireturn, 1) := by decide +kernel
theorem dX5_shuffle_18 : decode cX5_shuffle 18 = .ok (.aload_n 2, 1) := by decide +kernel
theorem dX5_shuffle_19 : decode cX5_shuffle 19 = .ok (.iload_n 1, 1) := by decide +kernel
theorem dX5_shuffle_20 : decode cX5_shuffle 20 = .ok (.invokevirtual 150, 3) := by decide +kernel
theorem dX5_shuffle_23 : decode cX5_shuffle 23 = .ok (.ifCond .ne 6, 3) := by decide +kernel
theorem dX5_shuffle_26 : decode cX5_shuffle 26 = .ok (.bipush (-2), 2) := by decide +kernel
theorem dX5_shuffle_28 : decode cX5_shuffle 28 = .ok (.ireturn, 1) := by decide +kernel
theorem dX5_shuffle_29 : decode cX5_shuffle 29 = .ok (.aload_n 0, 1) := by decide +kernel
theorem dX5_shuffle_30 : decode cX5_shuffle 30 = .ok (.getfield 22, 3) := by decide +kernel
theorem dX5_shuffle_33 : decode cX5_shuffle 33 = .ok (.aload_n 0, 1) := by decide +kernel
theorem dX5_shuffle_34 : decode cX5_shuffle 34 = .ok (.getfield 10, 3) := by decide +kernel
theorem dX5_shuffle_37 : decode cX5_shuffle 37 = .ok (.invokevirtual 45, 3) := by decide +kernel
theorem dX5_shuffle_40 : decode cX5_shuffle 40 = .ok (.aload_n 2, 1) := by decide +kernel
theorem dX5_shuffle_41 : decode cX5_shuffle 41 = .ok (.iload_n 1, 1) := by decide +kernel
theorem dX5_shuffle_42 : decode cX5_shuffle 42 = .ok (.aload_n 0, 1) := by decide +kernel
theorem dX5_shuffle_43 : decode cX5_shuffle 43 = .ok (.getfield 33, 3) := by decide +kernel
theorem dX5_shuffle_46 : decode cX5_shuffle 46 = .ok (.invokevirtual 161, 3) := by decide +kernel
theorem dX5_shuffle_49 : decode cX5_shuffle 49 = .ok (.ireturn, 1) := by decide +kernel
theorem dX5_deal_0 : decode cX5_deal 0 = .ok (.aload_n 0, 1) := by decide +kernel
theorem dX5_deal_1 : decode cX5_deal 1 = .ok (.getfield 10, 3) := by decide +kernel
theorem dX5_deal_4 : decode cX5_deal 4 = .ok (.getfield 129, 3) := by decide +kernel
theorem dX5_deal_7 : decode cX5_deal 7 = .ok (.astore_n 2, 1) := by decide +kernel
theorem dX5_deal_8 : decode cX5_deal 8 = .ok (.aload_n 2, 1) := by decide +kernel
theorem dX5_deal_9 : decode cX5_deal 9 = .ok (.invokevirtual 133, 3) := by decide +kernel
theorem dX5_deal_12 : decode cX5_deal 12 = .ok (.ifCond .ne 6, 3) := by decide +kernel
theorem dX5_deal_15 : decode cX5_deal 15 = .ok (.bipush (-4), 2) := by decide +kernel
theorem dX5_deal_17 : decode cX5_deal 17 = .ok (.ireturn, 1) := by decide +kernel
theorem dX5_deal_18 : decode cX5_deal 18 = .ok (.iload_n 1, 1) := by decide +kernel
theorem dX5_deal_19 : decode cX5_deal 19 = .ok (.iconst 1, 1) := by decide +kernel
theorem dX5_deal_20 : decode cX5_deal 20 = .ok (.if_icmp .lt 11, 3) := by decide +kernel
theorem dX5_deal_23 : decode cX5_deal 23 = .ok (.iload_n 1, 1) := by decide +kernel
theorem dX5_deal_24 : decode cX5_deal 24 = .ok (.aload_n 2, 1) := by decide +kernel
theorem dX5_deal_25 : decode cX5_deal 25 = .ok (.invokevirtual 165, 3) := by decide +kernel
theorem dX5_deal_28 : decode cX5_deal 28 = .ok (.if_icmp .le 6, 3) := by decide +kernel
theorem dX5_deal_31 : decode cX5_deal 31 = .ok (.bipush (-2), 2) := by decide +kernel
theorem dX5_deal_33 : decode cX5_deal 33 = .ok (.ireturn, 1) := by decide +kernel
theorem dX5_deal_34 : decode cX5_deal 34 = .ok (.aload_n 0, 1) := by decide +kernel
theorem dX5_deal_35 : decode cX5_deal 35 = .ok (.getfield 22, 3) := by decide +kernel
theorem dX5_deal_38 : decode cX5_deal 38 = .ok (.aload_n 0, 1) := by decide +kernel
theorem dX5_deal_39 : decode cX5_deal 39 = .ok (.getfield 10, 3) := by decide +kernel
theorem dX5_deal_42 : decode cX5_deal 42 = .ok (.invokevirtual 45, 3) := by decide +kernel
theorem dX5_deal_45 : decode cX5_deal 45 = .ok (.aload_n 2, 1) := by decide +kernel
theorem dX5_deal_46 : decode cX5_deal 46 = .ok (.dup, 1) := by decide +kernel
theorem dX5_deal_47 : decode cX5_deal 47 = .ok (.getfield 168, 3) := by decide +kernel
theorem dX5_deal_50 : decode cX5_deal 50 = .ok (.iload_n 1, 1) := by decide +kernel
theorem dX5_deal_51 : decode cX5_deal 51 = .ok (.iadd, 1) := by decide +kernel
theorem dX5_deal_52 : decode cX5_deal 52 = .ok (.putfield 168, 3) := by decide +kernel
theorem dX5_deal_55 : decode cX5_deal 55 = .ok (.aload_n 2, 1) := by decide +kernel
theorem dX5_deal_56 : decode cX5_deal 56 = .ok (.invokevirtual 165, 3) := by decide +kernel
theorem dX5_deal_59 : decode cX5_deal 59 = .ok (.ireturn, 1) := by decide +kernel
theorem dX5_sell_0 : decode cX5_sell 0 = .ok (.aload_n 0, 1) := by decide +kernel
theorem dX5_sell_1 : decode cX5_sell 1 = .ok (.getfield 10, 3) := by decide +kernel
theorem dX5_sell_4 : decode cX5_sell 4 = .ok (.getfield 129, 3) := by decide +kernel
theorem dX5_sell_7 : decode cX5_sell 7 = .ok (.invokevirtual 133, 3) := by decide +kernel
theorem dX5_sell_10 : decode cX5_sell 10 = .ok (.ifCond .ne 6, 3) := by decide +kernel
theorem dX5_sell_13 : decode cX5_sell 13 = .ok (.bipush (-4), 2) := by decide +kernel
theorem dX5_sell_15 : decode cX5_sell 15 = .ok (.ireturn, 1) := by decide +kernel
theorem dX5_sell_16 : decode cX5_sell 16 = .ok (.aload_n 0, 1) := by decide +kernel
theorem dX5_sell_17 : decode cX5_sell 17 = .ok (.getfield 10, 3) := by decide +kernel
theorem dX5_sell_20 : decode cX5_sell 20 = .ok (.invokevirtual 171, 3) := by decide +kernel
theorem dX5_sell_23 : decode cX5_sell 23 = .ok (.istore_n 1, 1) := by decide +kernel
theorem dX5_sell_24 : decode cX5_sell 24 = .ok (.iload_n 1, 1) := by decide +kernel
theorem dX5_sell_25 : decode cX5_sell 25 = .ok (.ifCond .eq 8, 3) := by decide +kernel
theorem dX5_sell_28 : decode cX5_sell 28 = .ok (.bipush (-10), 2) := by decide +kernel
theorem dX5_sell_30 : decode cX5_sell 30 = .ok (.iload_n 1, 1) := by decide +kernel
theorem dX5_sell_31 : decode cX5_sell 31 = .ok (.isub, 1) := by decide +kernel
theorem dX5_sell_32 : decode cX5_sell 32 = .ok (.ireturn, 1) := by decide +kernel
theorem dX5_sell_33 : decode cX5_sell 33 = .ok (.aload_n 0, 1) := by decide +kernel
theorem dX5_sell_34 : decode cX5_sell 34 = .ok (.getfield 22, 3) := by decide +kernel
theorem dX5_sell_37 : decode cX5_sell 37 = .ok (.aload_n 0, 1) := by decide +kernel
theorem dX5_sell_38 : decode cX5_sell 38 = .ok (.getfield 10, 3) := by decide +kernel
theorem dX5_sell_41 : decode cX5_sell 41 = .ok (.invokevirtual 45, 3) := by decide +kernel
theorem dX5_sell_44 : decode cX5_sell 44 = .ok (.aload_n 0, 1) := by decide +kernel
theorem dX5_sell_45 : decode cX5_sell 45 = .ok (.getfield 10, 3) := by decide +kernel
theorem dX5_sell_48 : decode cX5_sell 48 = .ok (.getfield 119, 3) := by decide +kernel
theorem dX5_sell_51 : decode cX5_sell 51 = .ok (.iconst 3, 1) := by decide +kernel
theorem dX5_sell_52 : decode cX5_sell 52 = .ok (.invokestatic 56, 3) := by decide +kernel
theorem dX5_sell_55 : decode cX5_sell 55 = .ok (.istore_n 2, 1) := by decide +kernel
theorem dX5_sell_56 : decode cX5_sell 56 = .ok (.aload_n 0, 1) := by decide +kernel
theorem dX5_sell_57 : decode cX5_sell 57 = .ok (.getfield 10, 3) := by decide +kernel
theorem dX5_sell_60 : decode cX5_sell 60 = .ok (.dup, 1) := by decide +kernel
theorem dX5_sell_61 : decode cX5_sell 61 = .ok (.getfield 174, 3) := by decide +kernel
theorem dX5_sell_64 : decode cX5_sell 64 = .ok (.iload_n 2, 1) := by decide +kernel
theorem dX5_sell_65 : decode cX5_sell 65 = .ok (.iadd, 1) := by decide +kernel
theorem dX5_sell_66 : decode cX5_sell 66 = .ok (.putfield 174, 3) := by decide +kernel
theorem dX5_sell_69 : decode cX5_sell 69 = .ok (.aload_n 0, 1) := by decide +kernel
theorem dX5_sell_70 : decode cX5_sell 70 = .ok (.getfield 10, 3) := by decide +kernel
theorem dX5_sell_73 : decode cX5_sell 73 = .ok (.dup, 1) := by decide +kernel
theorem dX5_sell_74 : decode cX5_sell 74 = .ok (.getfield 177, 3) := by decide +kernel
theorem dX5_sell_77 : decode cX5_sell 77 = .ok (.iconst 1, 1) := by decide +kernel
theorem dX5_sell_78 : decode cX5_sell 78 = .ok (.iadd, 1) := by decide +kernel
theorem dX5_sell_79 : decode cX5_sell 79 = .ok (.putfield 177, 3) := by decide +kernel
theorem dX5_sell_82 : decode cX5_sell 82 = .ok (.aload_n 0, 1) := by decide +kernel
theorem dX5_sell_83 : decode cX5_sell 83 = .ok (.getfield 10, 3) := by decide +kernel
theorem dX5_sell_86 : decode cX5_sell 86 = .ok (.getfield 129, 3) := by decide +kernel
theorem dX5_sell_89 : decode cX5_sell 89 = .ok (.invokevirtual 180, 3) := by decide +kernel
theorem dX5_sell_92 : decode cX5_sell 92 = .ok (.iload_n 2, 1) := by decide +kernel
theorem dX5_sell_93 : decode cX5_sell 93 = .ok (.ireturn, 1) := by decide +kernel
theorem dX5_pulp_0 : decode cX5_pulp 0 = .ok (.aload_n 0, 1) := by decide +kernel
theorem dX5_pulp_1 : decode cX5_pulp 1 = .ok (.getfield 10, 3) := by decide +kernel
theorem dX5_pulp_4 : decode cX5_pulp 4 = .ok (.getfield 129, 3) := by decide +kernel
theorem dX5_pulp_7 : decode cX5_pulp 7 = .ok (.invokevirtual 133, 3) := by decide +kernel
theorem dX5_pulp_10 : decode cX5_pulp 10 = .ok (.ifCond .ne 6, 3) := by decide +kernel
theorem dX5_pulp_13 : decode cX5_pulp 13 = .ok (.bipush (-4), 2) := by decide +kernel
theorem dX5_pulp_15 : decode cX5_pulp 15 = .ok (.ireturn, 1) := by decide +kernel
theorem dX5_pulp_16 : decode cX5_pulp 16 = .ok (.aload_n 0, 1) := by decide +kernel
theorem dX5_pulp_17 : decode cX5_pulp 17 = .ok (.getfield 22, 3) := by decide +kernel
theorem dX5_pulp_20 : decode cX5_pulp 20 = .ok (.aload_n 0, 1) := by decide +kernel
theorem dX5_pulp_21 : decode cX5_pulp 21 = .ok (.getfield 10, 3) := by decide +kernel
theorem dX5_pulp_24 : decode cX5_pulp 24 = .ok (.invokevirtual 45, 3) := by decide +kernel
theorem dX5_pulp_27 : decode cX5_pulp 27 = .ok (.aload_n 0, 1) := by decide +kernel
theorem dX5_pulp_28 : decode cX5_pulp 28 = .ok (.getfield 10, 3) := by decide +kernel
theorem dX5_pulp_31 : decode cX5_pulp 31 = .ok (.getfield 129, 3) := by decide +kernel
theorem dX5_pulp_34 : decode cX5_pulp 34 = .ok (.invokevirtual 165, 3) := by decide +kernel
theorem dX5_pulp_37 : decode cX5_pulp 37 = .ok (.istore_n 1, 1) := by decide +kernel
theorem dX5_pulp_38 : decode cX5_pulp 38 = .ok (.aload_n 0, 1) := by decide +kernel
theorem dX5_pulp_39 : decode cX5_pulp 39 = .ok (.getfield 10, 3) := by decide +kernel
theorem dX5_pulp_42 : decode cX5_pulp 42 = .ok (.dup, 1) := by decide +kernel
theorem dX5_pulp_43 : decode cX5_pulp 43 = .ok (.getfield 183, 3) := by decide +kernel
theorem dX5_pulp_46 : decode cX5_pulp 46 = .ok (.iconst 1, 1) := by decide +kernel
theorem dX5_pulp_47 : decode cX5_pulp 47 = .ok (.iadd, 1) := by decide +kernel
theorem dX5_pulp_48 : decode cX5_pulp 48 = .ok (.putfield 183, 3) := by decide +kernel
theorem dX5_pulp_51 : decode cX5_pulp 51 = .ok (.aload_n 0, 1) := by decide +kernel
theorem dX5_pulp_52 : decode cX5_pulp 52 = .ok (.getfield 10, 3) := by decide +kernel
theorem dX5_pulp_55 : decode cX5_pulp 55 = .ok (.getfield 129, 3) := by decide +kernel
theorem dX5_pulp_58 : decode cX5_pulp 58 = .ok (.invokevirtual 180, 3) := by decide +kernel
theorem dX5_pulp_61 : decode cX5_pulp 61 = .ok (.iload_n 1, 1) := by decide +kernel
theorem dX5_pulp_62 : decode cX5_pulp 62 = .ok (.ireturn, 1) := by decide +kernel
theorem dX5_undo_0 : decode cX5_undo 0 = .ok (.aload_n 0, 1) := by decide +kernel
theorem dX5_undo_1 : decode cX5_undo 1 = .ok (.getfield 22, 3) := by decide +kernel
theorem dX5_undo_4 : decode cX5_undo 4 = .ok (.getfield 193, 3) := by decide +kernel
theorem dX5_undo_7 : decode cX5_undo 7 = .ok (.ifCond .ne 6, 3) := by decide +kernel
theorem dX5_undo_10 : decode cX5_undo 10 = .ok (.bipush (-5), 2) := by decide +kernel
theorem dX5_undo_12 : decode cX5_undo 12 = .ok (.ireturn, 1) := by decide +kernel
theorem dX5_undo_13 : decode cX5_undo 13 = .ok (.aload_n 0, 1) := by decide +kernel
theorem dX5_undo_14 : decode cX5_undo 14 = .ok (.getfield 22, 3) := by decide +kernel
theorem dX5_undo_17 : decode cX5_undo 17 = .ok (.aload_n 0, 1) := by decide +kernel
theorem dX5_undo_18 : decode cX5_undo 18 = .ok (.getfield 10, 3) := by decide +kernel
theorem dX5_undo_21 : decode cX5_undo 21 = .ok (.invokevirtual 196, 3) := by decide +kernel
theorem dX5_undo_24 : decode cX5_undo 24 = .ok (.aload_n 0, 1) := by decide +kernel
theorem dX5_undo_25 : decode cX5_undo 25 = .ok (.getfield 22, 3) := by decide +kernel
theorem dX5_undo_28 : decode cX5_undo 28 = .ok (.getfield 193, 3) := by decide +kernel
theorem dX5_undo_31 : decode cX5_undo 31 = .ok (.ireturn, 1) := by decide +kernel
theorem dX5_block_0 : decode cX5_block 0 = .ok (.iload_n 1, 1) := by decide +kernel
theorem dX5_block_1 : decode cX5_block 1 = .ok (.invokestatic 41, 3) := by decide +kernel
theorem dX5_block_4 : decode cX5_block 4 = .ok (.ifCond .ne 5, 3) := by decide +kernel
theorem dX5_block_7 : decode cX5_block 7 = .ok (.iconst (-1), 1) := by decide +kernel
theorem dX5_block_8 : decode cX5_block 8 = .ok (.ireturn, 1) := by decide +kernel
theorem dX5_block_9 : decode cX5_block 9 = .ok (.iload_n 2, 1) := by decide +kernel
theorem dX5_block_10 : decode cX5_block 10 = .ok (.lookupswitch 50 #[(0, 26), (1, 38)], 26) := by decide +kernel
theorem dX5_block_36 : decode cX5_block 36 = .ok (.aload_n 0, 1) := by decide +kernel
theorem dX5_block_37 : decode cX5_block 37 = .ok (.getfield 10, 3) := by decide +kernel
theorem dX5_block_40 : decode cX5_block 40 = .ok (.getfield 53, 3) := by decide +kernel
theorem dX5_block_43 : decode cX5_block 43 = .ok (.iload_n 1, 1) := by decide +kernel
theorem dX5_block_44 : decode cX5_block 44 = .ok (.invokestatic 56, 3) := by decide +kernel
theorem dX5_block_47 : decode cX5_block 47 = .ok (.ireturn, 1) := by decide +kernel
theorem dX5_block_48 : decode cX5_block 48 = .ok (.aload_n 0, 1) := by decide +kernel
theorem dX5_block_49 : decode cX5_block 49 = .ok (.getfield 10, 3) := by decide +kernel
theorem dX5_block_52 : decode cX5_block 52 = .ok (.getfield 71, 3) := by decide +kernel
theorem dX5_block_55 : decode cX5_block 55 = .ok (.iload_n 1, 1) := by decide +kernel
theorem dX5_block_56 : decode cX5_block 56 = .ok (.invokestatic 56, 3) := by decide +kernel
theorem dX5_block_59 : decode cX5_block 59 = .ok (.ireturn, 1) := by decide +kernel
theorem dX5_block_60 : decode cX5_block 60 = .ok (.bipush (-2), 2) := by decide +kernel
theorem dX5_block_62 : decode cX5_block 62 = .ok (.ireturn, 1) := by decide +kernel
theorem dX5_cardOf_0 : decode cX5_cardOf 0 = .ok (.iload_n 1, 1) := by decide +kernel
theorem dX5_cardOf_1 : decode cX5_cardOf 1 = .ok (.invokestatic 74, 3) := by decide +kernel
theorem dX5_cardOf_4 : decode cX5_cardOf 4 = .ok (.ifCond .ne 5, 3) := by decide +kernel
theorem dX5_cardOf_7 : decode cX5_cardOf 7 = .ok (.iconst (-1), 1) := by decide +kernel
theorem dX5_cardOf_8 : decode cX5_cardOf 8 = .ok (.ireturn, 1) := by decide +kernel
theorem dX5_cardOf_9 : decode cX5_cardOf 9 = .ok (.iload_n 2, 1) := by decide +kernel
theorem dX5_cardOf_10 : decode cX5_cardOf 10 = .ok (.tableswitch 78 0 3 #[30, 39, 54, 66], 30) := by decide +kernel
theorem dX5_cardOf_40 : decode cX5_cardOf 40 = .ok (.aload_n 0, 1) := by decide +kernel
theorem dX5_cardOf_41 : decode cX5_cardOf 41 = .ok (.getfield 10, 3) := by decide +kernel
theorem dX5_cardOf_44 : decode cX5_cardOf 44 = .ok (.iload_n 1, 1) := by decide +kernel
theorem dX5_cardOf_45 : decode cX5_cardOf 45 = .ok (.invokevirtual 205, 3) := by decide +kernel
theorem dX5_cardOf_48 : decode cX5_cardOf 48 = .ok (.ireturn, 1) := by decide +kernel
theorem dX5_cardOf_49 : decode cX5_cardOf 49 = .ok (.aload_n 0, 1) := by decide +kernel
theorem dX5_cardOf_50 : decode cX5_cardOf 50 = .ok (.getfield 10, 3) := by decide +kernel
theorem dX5_cardOf_53 : decode cX5_cardOf 53 = .ok (.getfield 80, 3) := by decide +kernel
theorem dX5_cardOf_56 : decode cX5_cardOf 56 = .ok (.iload_n 1, 1) := by decide +kernel
theorem dX5_cardOf_57 : decode cX5_cardOf 57 = .ok (.invokestatic 56, 3) := by decide +kernel
theorem dX5_cardOf_60 : decode cX5_cardOf 60 = .ok (.bipush 100, 2) := by decide +kernel
theorem dX5_cardOf_62 : decode cX5_cardOf 62 = .ok (.iadd, 1) := by decide +kernel
theorem dX5_cardOf_63 : decode cX5_cardOf 63 = .ok (.ireturn, 1) := by decide +kernel
theorem dX5_cardOf_64 : decode cX5_cardOf 64 = .ok (.aload_n 0, 1) := by decide +kernel
theorem dX5_cardOf_65 : decode cX5_cardOf 65 = .ok (.getfield 10, 3) := by decide +kernel
theorem dX5_cardOf_68 : decode cX5_cardOf 68 = .ok (.getfield 129, 3) := by decide +kernel
theorem dX5_cardOf_71 : decode cX5_cardOf 71 = .ok (.iload_n 1, 1) := by decide +kernel
theorem dX5_cardOf_72 : decode cX5_cardOf 72 = .ok (.invokevirtual 208, 3) := by decide +kernel
theorem dX5_cardOf_75 : decode cX5_cardOf 75 = .ok (.ireturn, 1) := by decide +kernel
theorem dX5_cardOf_76 : decode cX5_cardOf 76 = .ok (.aload_n 0, 1) := by decide +kernel
theorem dX5_cardOf_77 : decode cX5_cardOf 77 = .ok (.getfield 10, 3) := by decide +kernel
theorem dX5_cardOf_80 : decode cX5_cardOf 80 = .ok (.getfield 129, 3) := by decide +kernel
theorem dX5_cardOf_83 : decode cX5_cardOf 83 = .ok (.iload_n 1, 1) := by decide +kernel
theorem dX5_cardOf_84 : decode cX5_cardOf 84 = .ok (.invokevirtual 211, 3) := by decide +kernel
theorem dX5_cardOf_87 : decode cX5_cardOf 87 = .ok (.ireturn, 1) := by decide +kernel
theorem dX5_cardOf_88 : decode cX5_cardOf 88 = .ok (.bipush (-2), 2) := by decide +kernel
theorem dX5_cardOf_90 : decode cX5_cardOf 90 = .ok (.ireturn, 1) := by decide +kernel
theorem dX5_sheet_0 : decode cX5_sheet 0 = .ok (.aload_n 0, 1) := by decide +kernel
theorem dX5_sheet_1 : decode cX5_sheet 1 = .ok (.getfield 10, 3) := by decide +kernel
theorem dX5_sheet_4 : decode cX5_sheet 4 = .ok (.iload_n 1, 1) := by decide +kernel
theorem dX5_sheet_5 : decode cX5_sheet 5 = .ok (.invokevirtual 138, 3) := by decide +kernel
theorem dX5_sheet_8 : decode cX5_sheet 8 = .ok (.astore 4, 2) := by decide +kernel
theorem dX5_sheet_10 : decode cX5_sheet 10 = .ok (.aload 4, 2) := by decide +kernel
theorem dX5_sheet_12 : decode cX5_sheet 12 = .ok (.ifnull 10, 3) := by decide +kernel
theorem dX5_sheet_15 : decode cX5_sheet 15 = .ok (.iload_n 2, 1) := by decide +kernel
theorem dX5_sheet_16 : decode cX5_sheet 16 = .ok (.invokestatic 41, 3) := by decide +kernel
theorem dX5_sheet_19 : decode cX5_sheet 19 = .ok (.ifCond .ne 5, 3) := by decide +kernel
theorem dX5_sheet_22 : decode cX5_sheet 22 = .ok (.iconst (-1), 1) := by decide +kernel
theorem dX5_sheet_23 : decode cX5_sheet 23 = .ok (.ireturn, 1) := by decide +kernel
theorem dX5_sheet_24 : decode cX5_sheet 24 = .ok (.aload 4, 2) := by decide +kernel
theorem dX5_sheet_26 : decode cX5_sheet 26 = .ok (.getfield 214, 3) := by decide +kernel
theorem dX5_sheet_29 : decode cX5_sheet 29 = .ok (.iload_n 2, 1) := by decide +kernel
theorem dX5_sheet_30 : decode cX5_sheet 30 = .ok (.invokestatic 56, 3) := by decide +kernel
theorem dX5_sheet_33 : decode cX5_sheet 33 = .ok (.istore 5, 2) := by decide +kernel
theorem dX5_sheet_35 : decode cX5_sheet 35 = .ok (.iload_n 3, 1) := by decide +kernel
theorem dX5_sheet_36 : decode cX5_sheet 36 = .ok (.lookupswitch 42 #[(0, 28), (1, 31)], 28) := by decide +kernel
theorem dX5_sheet_64 : decode cX5_sheet 64 = .ok (.iload 5, 2) := by decide +kernel
theorem dX5_sheet_66 : decode cX5_sheet 66 = .ok (.ireturn, 1) := by decide +kernel
theorem dX5_sheet_67 : decode cX5_sheet 67 = .ok (.aload 4, 2) := by decide +kernel
theorem dX5_sheet_69 : decode cX5_sheet 69 = .ok (.getfield 217, 3) := by decide +kernel
theorem dX5_sheet_72 : decode cX5_sheet 72 = .ok (.iload 5, 2) := by decide +kernel
theorem dX5_sheet_74 : decode cX5_sheet 74 = .ok (.invokestatic 56, 3) := by decide +kernel
theorem dX5_sheet_77 : decode cX5_sheet 77 = .ok (.ireturn, 1) := by decide +kernel
theorem dX5_sheet_78 : decode cX5_sheet 78 = .ok (.bipush (-2), 2) := by decide +kernel
theorem dX5_sheet_80 : decode cX5_sheet 80 = .ok (.ireturn, 1) := by decide +kernel
theorem dX5_pack_0 : decode cX5_pack 0 = .ok (.aload_n 0, 1) := by decide +kernel
theorem dX5_pack_1 : decode cX5_pack 1 = .ok (.getfield 10, 3) := by decide +kernel
theorem dX5_pack_4 : decode cX5_pack 4 = .ok (.getfield 129, 3) := by decide +kernel
theorem dX5_pack_7 : decode cX5_pack 7 = .ok (.astore_n 3, 1) := by decide +kernel
theorem dX5_pack_8 : decode cX5_pack 8 = .ok (.iload_n 1, 1) := by decide +kernel
theorem dX5_pack_9 : decode cX5_pack 9 = .ok (.ifCond .lt 11, 3) := by decide +kernel
theorem dX5_pack_12 : decode cX5_pack 12 = .ok (.iload_n 1, 1) := by decide +kernel
theorem dX5_pack_13 : decode cX5_pack 13 = .ok (.aload_n 3, 1) := by decide +kernel
theorem dX5_pack_14 : decode cX5_pack 14 = .ok (.invokevirtual 165, 3) := by decide +kernel
theorem dX5_pack_17 : decode cX5_pack 17 = .ok (.if_icmp .lt 5, 3) := by decide +kernel
theorem dX5_pack_20 : decode cX5_pack 20 = .ok (.iconst (-1), 1) := by decide +kernel
theorem dX5_pack_21 : decode cX5_pack 21 = .ok (.ireturn, 1) := by decide +kernel
theorem dX5_pack_22 : decode cX5_pack 22 = .ok (.iload_n 2, 1) := by decide +kernel
theorem dX5_pack_23 : decode cX5_pack 23 = .ok (.tableswitch 72 0 4 #[33, 39, 45, 51, 57], 33) := by decide +kernel
theorem dX5_pack_56 : decode cX5_pack 56 = .ok (.aload_n 3, 1) := by decide +kernel
theorem dX5_pack_57 : decode cX5_pack 57 = .ok (.iload_n 1, 1) := by decide +kernel
theorem dX5_pack_58 : decode cX5_pack 58 = .ok (.invokevirtual 157, 3) := by decide +kernel
theorem dX5_pack_61 : decode cX5_pack 61 = .ok (.ireturn, 1) := by decide +kernel
theorem dX5_pack_62 : decode cX5_pack 62 = .ok (.aload_n 3, 1) := by decide +kernel
theorem dX5_pack_63 : decode cX5_pack 63 = .ok (.iload_n 1, 1) := by decide +kernel
theorem dX5_pack_64 : decode cX5_pack 64 = .ok (.invokevirtual 220, 3) := by decide +kernel
theorem dX5_pack_67 : decode cX5_pack 67 = .ok (.ireturn, 1) := by decide +kernel
theorem dX5_pack_68 : decode cX5_pack 68 = .ok (.aload_n 3, 1) := by decide +kernel
theorem dX5_pack_69 : decode cX5_pack 69 = .ok (.iload_n 1, 1) := by decide +kernel
theorem dX5_pack_70 : decode cX5_pack 70 = .ok (.invokevirtual 223, 3) := by decide +kernel
theorem dX5_pack_73 : decode cX5_pack 73 = .ok (.ireturn, 1) := by decide +kernel
theorem dX5_pack_74 : decode cX5_pack 74 = .ok (.aload_n 3, 1) := by decide +kernel
theorem dX5_pack_75 : decode cX5_pack 75 = .ok (.iload_n 1, 1) := by decide +kernel
theorem dX5_pack_76 : decode cX5_pack 76 = .ok (.invokevirtual 226, 3) := by decide +kernel
theorem dX5_pack_79 : decode cX5_pack 79 = .ok (.ireturn, 1) := by decide +kernel
theorem dX5_pack_80 : decode cX5_pack 80 = .ok (.aload_n 3, 1) := by decide +kernel
theorem dX5_pack_81 : decode cX5_pack 81 = .ok (.iload_n 1, 1) := by decide +kernel
theorem dX5_pack_82 : decode cX5_pack 82 = .ok (.invokevirtual 223, 3) := by decide +kernel
theorem dX5_pack_85 : decode cX5_pack 85 = .ok (.iconst 1, 1) := by decide +kernel
theorem dX5_pack_86 : decode cX5_pack 86 = .ok (.if_icmp .ne 7, 3) := by decide +kernel
theorem dX5_pack_89 : decode cX5_pack 89 = .ok (.iconst 1, 1) := by decide +kernel
theorem dX5_pack_90 : decode cX5_pack 90 = .ok (.goto 4, 3) := by decide +kernel
theorem dX5_pack_93 : decode cX5_pack 93 = .ok (.iconst 0, 1) := by decide +kernel
theorem dX5_pack_94 : decode cX5_pack 94 = .ok (.ireturn, 1) := by decide +kernel
theorem dX5_pack_95 : decode cX5_pack 95 = .ok (.bipush (-2), 2) := by decide +kernel
theorem dX5_pack_97 : decode cX5_pack 97 = .ok (.ireturn, 1) := by decide +kernel
theorem dX5_count_0 : decode cX5_count 0 = .ok (.iload_n 1, 1) := by decide +kernel
theorem dX5_count_1 : decode cX5_count 1 = .ok (.tableswitch 284 0 17 #[87, 95, 103, 122, 133, 144, 155, 166, 174, 182, 190, 198, 220, 228, 236, 248, 260, 272], 87) := by decide +kernel
theorem dX5_count_88 : decode cX5_count 88 = .ok (.aload_n 0, 1) := by decide +kernel
theorem dX5_count_89 : decode cX5_count 89 = .ok (.getfield 10, 3) := by decide +kernel
theorem dX5_count_92 : decode cX5_count 92 = .ok (.getfield 122, 3) := by decide +kernel
theorem dX5_count_95 : decode cX5_count 95 = .ok (.ireturn, 1) := by decide +kernel
theorem dX5_count_96 : decode cX5_count 96 = .ok (.aload_n 0, 1) := by decide +kernel
theorem dX5_count_97 : decode cX5_count 97 = .ok (.getfield 10, 3) := by decide +kernel
theorem dX5_count_100 : decode cX5_count 100 = .ok (.getfield 202, 3) := by decide +kernel
theorem dX5_count_103 : decode cX5_count 103 = .ok (.ireturn, 1) := by decide +kernel
theorem dX5_count_104 : decode cX5_count 104 = .ok (.aload_n 0, 1) := by decide +kernel
theorem dX5_count_105 : decode cX5_count 105 = .ok (.getfield 10, 3) := by decide +kernel
theorem dX5_count_108 : decode cX5_count 108 = .ok (.getfield 129, 3) := by decide +kernel
theorem dX5_count_111 : decode cX5_count 111 = .ok (.invokevirtual 133, 3) := by decide +kernel
theorem dX5_count_114 : decode cX5_count 114 = .ok (.ifCond .eq 7, 3) := by decide +kernel
theorem dX5_count_117 : decode cX5_count 117 = .ok (.iconst 1, 1) := by decide +kernel
theorem dX5_count_118 : decode cX5_count 118 = .ok (.goto 4, 3) := by decide +kernel
theorem dX5_count_121 : decode cX5_count 121 = .ok (.iconst 0, 1) := by decide +kernel
theorem dX5_count_122 : decode cX5_count 122 = .ok (.ireturn, 1) := by decide +kernel
theorem dX5_count_123 : decode cX5_count 123 = .ok (.aload_n 0, 1) := by decide +kernel
theorem dX5_count_124 : decode cX5_count 124 = .ok (.getfield 10, 3) := by decide +kernel
theorem dX5_count_127 : decode cX5_count 127 = .ok (.getfield 129, 3) := by decide +kernel
theorem dX5_count_130 : decode cX5_count 130 = .ok (.invokevirtual 165, 3) := by decide +kernel
theorem dX5_count_133 : decode cX5_count 133 = .ok (.ireturn, 1) := by decide +kernel
theorem dX5_count_134 : decode cX5_count 134 = .ok (.aload_n 0, 1) := by decide +kernel
theorem dX5_count_135 : decode cX5_count 135 = .ok (.getfield 10, 3) := by decide +kernel
theorem dX5_count_138 : decode cX5_count 138 = .ok (.getfield 129, 3) := by decide +kernel
theorem dX5_count_141 : decode cX5_count 141 = .ok (.getfield 168, 3) := by decide +kernel
theorem dX5_count_144 : decode cX5_count 144 = .ok (.ireturn, 1) := by decide +kernel
theorem dX5_count_145 : decode cX5_count 145 = .ok (.aload_n 0, 1) := by decide +kernel
theorem dX5_count_146 : decode cX5_count 146 = .ok (.getfield 10, 3) := by decide +kernel
theorem dX5_count_149 : decode cX5_count 149 = .ok (.getfield 129, 3) := by decide +kernel
theorem dX5_count_152 : decode cX5_count 152 = .ok (.invokevirtual 229, 3) := by decide +kernel
theorem dX5_count_155 : decode cX5_count 155 = .ok (.ireturn, 1) := by decide +kernel
theorem dX5_count_156 : decode cX5_count 156 = .ok (.aload_n 0, 1) := by decide +kernel
theorem dX5_count_157 : decode cX5_count 157 = .ok (.getfield 10, 3) := by decide +kernel
theorem dX5_count_160 : decode cX5_count 160 = .ok (.getfield 129, 3) := by decide +kernel
theorem dX5_count_163 : decode cX5_count 163 = .ok (.invokevirtual 232, 3) := by decide +kernel
theorem dX5_count_166 : decode cX5_count 166 = .ok (.ireturn, 1) := by decide +kernel
theorem dX5_count_167 : decode cX5_count 167 = .ok (.aload_n 0, 1) := by decide +kernel
theorem dX5_count_168 : decode cX5_count 168 = .ok (.getfield 10, 3) := by decide +kernel
theorem dX5_count_171 : decode cX5_count 171 = .ok (.getfield 177, 3) := by decide +kernel
theorem dX5_count_174 : decode cX5_count 174 = .ok (.ireturn, 1) := by decide +kernel
theorem dX5_count_175 : decode cX5_count 175 = .ok (.aload_n 0, 1) := by decide +kernel
theorem dX5_count_176 : decode cX5_count 176 = .ok (.getfield 10, 3) := by decide +kernel
theorem dX5_count_179 : decode cX5_count 179 = .ok (.getfield 183, 3) := by decide +kernel
theorem dX5_count_182 : decode cX5_count 182 = .ok (.ireturn, 1) := by decide +kernel
theorem dX5_count_183 : decode cX5_count 183 = .ok (.aload_n 0, 1) := by decide +kernel
theorem dX5_count_184 : decode cX5_count 184 = .ok (.getfield 10, 3) := by decide +kernel
theorem dX5_count_187 : decode cX5_count 187 = .ok (.getfield 174, 3) := by decide +kernel
theorem dX5_count_190 : decode cX5_count 190 = .ok (.ireturn, 1) := by decide +kernel
theorem dX5_count_191 : decode cX5_count 191 = .ok (.aload_n 0, 1) := by decide +kernel
theorem dX5_count_192 : decode cX5_count 192 = .ok (.getfield 10, 3) := by decide +kernel
theorem dX5_count_195 : decode cX5_count 195 = .ok (.invokevirtual 235, 3) := by decide +kernel
theorem dX5_count_198 : decode cX5_count 198 = .ok (.ireturn, 1) := by decide +kernel
theorem dX5_count_199 : decode cX5_count 199 = .ok (.aload_n 0, 1) := by decide +kernel
theorem dX5_count_200 : decode cX5_count 200 = .ok (.getfield 10, 3) := by decide +kernel
theorem dX5_count_203 : decode cX5_count 203 = .ok (.getfield 80, 3) := by decide +kernel
theorem dX5_count_206 : decode cX5_count 206 = .ok (.aload_n 0, 1) := by decide +kernel
theorem dX5_count_207 : decode cX5_count 207 = .ok (.getfield 10, 3) := by decide +kernel
theorem dX5_count_210 : decode cX5_count 210 = .ok (.getfield 119, 3) := by decide +kernel
theorem dX5_count_213 : decode cX5_count 213 = .ok (.iconst 1, 1) := by decide +kernel
theorem dX5_count_214 : decode cX5_count 214 = .ok (.invokestatic 56, 3) := by decide +kernel
theorem dX5_count_217 : decode cX5_count 217 = .ok (.invokestatic 238, 3) := by decide +kernel
theorem dX5_count_220 : decode cX5_count 220 = .ok (.ireturn, 1) := by decide +kernel
theorem dX5_count_221 : decode cX5_count 221 = .ok (.aload_n 0, 1) := by decide +kernel
theorem dX5_count_222 : decode cX5_count 222 = .ok (.getfield 22, 3) := by decide +kernel
theorem dX5_count_225 : decode cX5_count 225 = .ok (.getfield 193, 3) := by decide +kernel
theorem dX5_count_228 : decode cX5_count 228 = .ok (.ireturn, 1) := by decide +kernel
theorem dX5_count_229 : decode cX5_count 229 = .ok (.aload_n 0, 1) := by decide +kernel
theorem dX5_count_230 : decode cX5_count 230 = .ok (.getfield 29, 3) := by decide +kernel
theorem dX5_count_233 : decode cX5_count 233 = .ok (.getfield 186, 3) := by decide +kernel
theorem dX5_count_236 : decode cX5_count 236 = .ok (.ireturn, 1) := by decide +kernel
theorem dX5_count_237 : decode cX5_count 237 = .ok (.aload_n 0, 1) := by decide +kernel
theorem dX5_count_238 : decode cX5_count 238 = .ok (.getfield 10, 3) := by decide +kernel
theorem dX5_count_241 : decode cX5_count 241 = .ok (.getfield 119, 3) := by decide +kernel
theorem dX5_count_244 : decode cX5_count 244 = .ok (.iconst 0, 1) := by decide +kernel
theorem dX5_count_245 : decode cX5_count 245 = .ok (.invokestatic 56, 3) := by decide +kernel
theorem dX5_count_248 : decode cX5_count 248 = .ok (.ireturn, 1) := by decide +kernel
theorem dX5_count_249 : decode cX5_count 249 = .ok (.aload_n 0, 1) := by decide +kernel
theorem dX5_count_250 : decode cX5_count 250 = .ok (.getfield 10, 3) := by decide +kernel
theorem dX5_count_253 : decode cX5_count 253 = .ok (.getfield 119, 3) := by decide +kernel
theorem dX5_count_256 : decode cX5_count 256 = .ok (.iconst 1, 1) := by decide +kernel
theorem dX5_count_257 : decode cX5_count 257 = .ok (.invokestatic 56, 3) := by decide +kernel
theorem dX5_count_260 : decode cX5_count 260 = .ok (.ireturn, 1) := by decide +kernel
theorem dX5_count_261 : decode cX5_count 261 = .ok (.aload_n 0, 1) := by decide +kernel
theorem dX5_count_262 : decode cX5_count 262 = .ok (.getfield 10, 3) := by decide +kernel
theorem dX5_count_265 : decode cX5_count 265 = .ok (.getfield 119, 3) := by decide +kernel
theorem dX5_count_268 : decode cX5_count 268 = .ok (.iconst 2, 1) := by decide +kernel
theorem dX5_count_269 : decode cX5_count 269 = .ok (.invokestatic 56, 3) := by decide +kernel
theorem dX5_count_272 : decode cX5_count 272 = .ok (.ireturn, 1) := by decide +kernel
theorem dX5_count_273 : decode cX5_count 273 = .ok (.aload_n 0, 1) := by decide +kernel
theorem dX5_count_274 : decode cX5_count 274 = .ok (.getfield 10, 3) := by decide +kernel
theorem dX5_count_277 : decode cX5_count 277 = .ok (.getfield 119, 3) := by decide +kernel
theorem dX5_count_280 : decode cX5_count 280 = .ok (.iconst 3, 1) := by decide +kernel
theorem dX5_count_281 : decode cX5_count 281 = .ok (.invokestatic 56, 3) := by decide +kernel
theorem dX5_count_284 : decode cX5_count 284 = .ok (.ireturn, 1) := by decide +kernel
theorem dX5_count_285 : decode cX5_count 285 = .ok (.bipush (-2), 2) := by decide +kernel
theorem dX5_count_287 : decode cX5_count 287 = .ok (.ireturn, 1) := by decide +kernel
theorem dX5_why_0 : decode cX5_why 0 = .ok (.aload_n 0, 1) := by decide +kernel
theorem dX5_why_1 : decode cX5_why 1 = .ok (.getfield 10, 3) := by decide +kernel
theorem dX5_why_4 : decode cX5_why 4 = .ok (.getfield 129, 3) := by decide +kernel
theorem dX5_why_7 : decode cX5_why 7 = .ok (.invokevirtual 133, 3) := by decide +kernel
theorem dX5_why_10 : decode cX5_why 10 = .ok (.ifCond .eq 13, 3) := by decide +kernel
theorem dX5_why_13 : decode cX5_why 13 = .ok (.aload_n 0, 1) := by decide +kernel
theorem dX5_why_14 : decode cX5_why 14 = .ok (.getfield 10, 3) := by decide +kernel
theorem dX5_why_17 : decode cX5_why 17 = .ok (.invokevirtual 171, 3) := by decide +kernel
theorem dX5_why_20 : decode cX5_why 20 = .ok (.goto 5, 3) := by decide +kernel
theorem dX5_why_23 : decode cX5_why 23 = .ok (.bipush (-4), 2) := by decide +kernel
theorem dX5_why_25 : decode cX5_why 25 = .ok (.ireturn, 1) := by decide +kernel
theorem dX5_chances_0 : decode cX5_chances 0 = .ok (.aload_n 0, 1) := by decide +kernel
theorem dX5_chances_1 : decode cX5_chances 1 = .ok (.getfield 10, 3) := by decide +kernel
theorem dX5_chances_4 : decode cX5_chances 4 = .ok (.getfield 129, 3) := by decide +kernel
theorem dX5_chances_7 : decode cX5_chances 7 = .ok (.invokevirtual 133, 3) := by decide +kernel
theorem dX5_chances_10 : decode cX5_chances 10 = .ok (.ifCond .eq 16, 3) := by decide +kernel
theorem dX5_chances_13 : decode cX5_chances 13 = .ok (.aload_n 0, 1) := by decide +kernel
theorem dX5_chances_14 : decode cX5_chances 14 = .ok (.getfield 10, 3) := by decide +kernel
theorem dX5_chances_17 : decode cX5_chances 17 = .ok (.getfield 129, 3) := by decide +kernel
theorem dX5_chances_20 : decode cX5_chances 20 = .ok (.invokevirtual 241, 3) := by decide +kernel
theorem dX5_chances_23 : decode cX5_chances 23 = .ok (.goto 5, 3) := by decide +kernel
theorem dX5_chances_26 : decode cX5_chances 26 = .ok (.ldc 245, 2) := by decide +kernel
theorem dX5_chances_28 : decode cX5_chances 28 = .ok (.freturn, 1) := by decide +kernel
theorem dX5_ifPrinted_0 : decode cX5_ifPrinted 0 = .ok (.aload_n 0, 1) := by decide +kernel
theorem dX5_ifPrinted_1 : decode cX5_ifPrinted 1 = .ok (.getfield 10, 3) := by decide +kernel
theorem dX5_ifPrinted_4 : decode cX5_ifPrinted 4 = .ok (.iload_n 1, 1) := by decide +kernel
theorem dX5_ifPrinted_5 : decode cX5_ifPrinted 5 = .ok (.iconst (-1), 1) := by decide +kernel
theorem dX5_ifPrinted_6 : decode cX5_ifPrinted 6 = .ok (.invokevirtual 246, 3) := by decide +kernel
theorem dX5_ifPrinted_9 : decode cX5_ifPrinted 9 = .ok (.ireturn, 1) := by decide +kernel
theorem dX5_bestWay_0 : decode cX5_bestWay 0 = .ok (.aload_n 0, 1) := by decide +kernel
theorem dX5_bestWay_1 : decode cX5_bestWay 1 = .ok (.getfield 10, 3) := by decide +kernel
theorem dX5_bestWay_4 : decode cX5_bestWay 4 = .ok (.iconst 0, 1) := by decide +kernel
theorem dX5_bestWay_5 : decode cX5_bestWay 5 = .ok (.invokevirtual 138, 3) := by decide +kernel
theorem dX5_bestWay_8 : decode cX5_bestWay 8 = .ok (.astore_n 1, 1) := by decide +kernel
theorem dX5_bestWay_9 : decode cX5_bestWay 9 = .ok (.aload_n 1, 1) := by decide +kernel
theorem dX5_bestWay_10 : decode cX5_bestWay 10 = .ok (.ifnonnull 6, 3) := by decide +kernel
theorem dX5_bestWay_13 : decode cX5_bestWay 13 = .ok (.bipush (-4), 2) := by decide +kernel
theorem dX5_bestWay_15 : decode cX5_bestWay 15 = .ok (.ireturn, 1) := by decide +kernel
theorem dX5_bestWay_16 : decode cX5_bestWay 16 = .ok (.iconst 0, 1) := by decide +kernel
theorem dX5_bestWay_17 : decode cX5_bestWay 17 = .ok (.istore_n 2, 1) := by decide +kernel
theorem dX5_bestWay_18 : decode cX5_bestWay 18 = .ok (.aload_n 1, 1) := by decide +kernel
theorem dX5_bestWay_19 : decode cX5_bestWay 19 = .ok (.iconst 0, 1) := by decide +kernel
theorem dX5_bestWay_20 : decode cX5_bestWay 20 = .ok (.invokevirtual 250, 3) := by decide +kernel
theorem dX5_bestWay_23 : decode cX5_bestWay 23 = .ok (.istore_n 3, 1) := by decide +kernel
theorem dX5_bestWay_24 : decode cX5_bestWay 24 = .ok (.iconst 1, 1) := by decide +kernel
theorem dX5_bestWay_25 : decode cX5_bestWay 25 = .ok (.istore 4, 2) := by decide +kernel
theorem dX5_bestWay_27 : decode cX5_bestWay 27 = .ok (.iload 4, 2) := by decide +kernel
theorem dX5_bestWay_29 : decode cX5_bestWay 29 = .ok (.iconst 4, 1) := by decide +kernel
theorem dX5_bestWay_30 : decode cX5_bestWay 30 = .ok (.if_icmp .ge 29, 3) := by decide +kernel
theorem dX5_bestWay_33 : decode cX5_bestWay 33 = .ok (.aload_n 1, 1) := by decide +kernel
theorem dX5_bestWay_34 : decode cX5_bestWay 34 = .ok (.iload 4, 2) := by decide +kernel
theorem dX5_bestWay_36 : decode cX5_bestWay 36 = .ok (.invokevirtual 250, 3) := by decide +kernel
theorem dX5_bestWay_39 : decode cX5_bestWay 39 = .ok (.istore 5, 2) := by decide +kernel
theorem dX5_bestWay_41 : decode cX5_bestWay 41 = .ok (.iload 5, 2) := by decide +kernel
theorem dX5_bestWay_43 : decode cX5_bestWay 43 = .ok (.iload_n 3, 1) := by decide +kernel
theorem dX5_bestWay_44 : decode cX5_bestWay 44 = .ok (.if_icmp .ge 9, 3) := by decide +kernel
theorem dX5_bestWay_47 : decode cX5_bestWay 47 = .ok (.iload 4, 2) := by decide +kernel
theorem dX5_bestWay_49 : decode cX5_bestWay 49 = .ok (.istore_n 2, 1) := by decide +kernel
theorem dX5_bestWay_50 : decode cX5_bestWay 50 = .ok (.iload 5, 2) := by decide +kernel
theorem dX5_bestWay_52 : decode cX5_bestWay 52 = .ok (.istore_n 3, 1) := by decide +kernel
theorem dX5_bestWay_53 : decode cX5_bestWay 53 = .ok (.iinc 4 1, 3) := by decide +kernel
theorem dX5_bestWay_56 : decode cX5_bestWay 56 = .ok (.goto (-29), 3) := by decide +kernel
theorem dX5_bestWay_59 : decode cX5_bestWay 59 = .ok (.iload_n 2, 1) := by decide +kernel
theorem dX5_bestWay_60 : decode cX5_bestWay 60 = .ok (.ireturn, 1) := by decide +kernel
theorem dX5_isCell_0 : decode cX5_isCell 0 = .ok (.iload_n 0, 1) := by decide +kernel
theorem dX5_isCell_1 : decode cX5_isCell 1 = .ok (.ifCond .lt 13, 3) := by decide +kernel
theorem dX5_isCell_4 : decode cX5_isCell 4 = .ok (.iload_n 0, 1) := by decide +kernel
theorem dX5_isCell_5 : decode cX5_isCell 5 = .ok (.bipush 24, 2) := by decide +kernel
theorem dX5_isCell_7 : decode cX5_isCell 7 = .ok (.if_icmp .ge 7, 3) := by decide +kernel
theorem dX5_isCell_10 : decode cX5_isCell 10 = .ok (.iconst 1, 1) := by decide +kernel
theorem dX5_isCell_11 : decode cX5_isCell 11 = .ok (.goto 4, 3) := by decide +kernel
theorem dX5_isCell_14 : decode cX5_isCell 14 = .ok (.iconst 0, 1) := by decide +kernel
theorem dX5_isCell_15 : decode cX5_isCell 15 = .ok (.ireturn, 1) := by decide +kernel
theorem dX5_isCard_0 : decode cX5_isCard 0 = .ok (.iload_n 0, 1) := by decide +kernel
theorem dX5_isCard_1 : decode cX5_isCard 1 = .ok (.ifCond .lt 13, 3) := by decide +kernel
theorem dX5_isCard_4 : decode cX5_isCard 4 = .ok (.iload_n 0, 1) := by decide +kernel
theorem dX5_isCard_5 : decode cX5_isCard 5 = .ok (.bipush 24, 2) := by decide +kernel
theorem dX5_isCard_7 : decode cX5_isCard 7 = .ok (.if_icmp .ge 7, 3) := by decide +kernel
theorem dX5_isCard_10 : decode cX5_isCard 10 = .ok (.iconst 1, 1) := by decide +kernel
theorem dX5_isCard_11 : decode cX5_isCard 11 = .ok (.goto 4, 3) := by decide +kernel
theorem dX5_isCard_14 : decode cX5_isCard 14 = .ok (.iconst 0, 1) := by decide +kernel
theorem dX5_isCard_15 : decode cX5_isCard 15 = .ok (.ireturn, 1) := by decide +kernel
theorem dX5_isMark_0 : decode cX5_isMark 0 = .ok (.iload_n 0, 1) := by decide +kernel
theorem dX5_isMark_1 : decode cX5_isMark 1 = .ok (.ifCond .lt 12, 3) := by decide +kernel
theorem dX5_isMark_4 : decode cX5_isMark 4 = .ok (.iload_n 0, 1) := by decide +kernel
theorem dX5_isMark_5 : decode cX5_isMark 5 = .ok (.iconst 4, 1) := by decide +kernel
theorem dX5_isMark_6 : decode cX5_isMark 6 = .ok (.if_icmp .ge 7, 3) := by decide +kernel
theorem dX5_isMark_9 : decode cX5_isMark 9 = .ok (.iconst 1, 1) := by decide +kernel
theorem dX5_isMark_10 : decode cX5_isMark 10 = .ok (.goto 4, 3) := by decide +kernel
theorem dX5_isMark_13 : decode cX5_isMark 13 = .ok (.iconst 0, 1) := by decide +kernel
theorem dX5_isMark_14 : decode cX5_isMark 14 = .ok (.ireturn, 1) := by decide +kernel
theorem dX5_isCourt_0 : decode cX5_isCourt 0 = .ok (.iload_n 0, 1) := by decide +kernel
theorem dX5_isCourt_1 : decode cX5_isCourt 1 = .ok (.bipush 6, 2) := by decide +kernel
theorem dX5_isCourt_3 : decode cX5_isCourt 3 = .ok (.irem, 1) := by decide +kernel
theorem dX5_isCourt_4 : decode cX5_isCourt 4 = .ok (.iconst 3, 1) := by decide +kernel
theorem dX5_isCourt_5 : decode cX5_isCourt 5 = .ok (.if_icmp .lt 7, 3) := by decide +kernel
theorem dX5_isCourt_8 : decode cX5_isCourt 8 = .ok (.iconst 1, 1) := by decide +kernel
theorem dX5_isCourt_9 : decode cX5_isCourt 9 = .ok (.goto 4, 3) := by decide +kernel
theorem dX5_isCourt_12 : decode cX5_isCourt 12 = .ok (.iconst 0, 1) := by decide +kernel
theorem dX5_isCourt_13 : decode cX5_isCourt 13 = .ok (.ireturn, 1) := by decide +kernel
theorem dX5_at_0 : decode cX5_at 0 = .ok (.iload_n 1, 1) := by decide +kernel
theorem dX5_at_1 : decode cX5_at 1 = .ok (.ifCond .lt 15, 3) := by decide +kernel
theorem dX5_at_4 : decode cX5_at 4 = .ok (.iload_n 1, 1) := by decide +kernel
theorem dX5_at_5 : decode cX5_at 5 = .ok (.aload_n 0, 1) := by decide +kernel
theorem dX5_at_6 : decode cX5_at 6 = .ok (.arraylength, 1) := by decide +kernel
theorem dX5_at_7 : decode cX5_at 7 = .ok (.if_icmp .ge 9, 3) := by decide +kernel
theorem dX5_at_10 : decode cX5_at 10 = .ok (.aload_n 0, 1) := by decide +kernel
theorem dX5_at_11 : decode cX5_at 11 = .ok (.iload_n 1, 1) := by decide +kernel
theorem dX5_at_12 : decode cX5_at 12 = .ok (.iaload, 1) := by decide +kernel
theorem dX5_at_13 : decode cX5_at 13 = .ok (.goto 4, 3) := by decide +kernel
theorem dX5_at_16 : decode cX5_at 16 = .ok (.iconst 0, 1) := by decide +kernel
theorem dX5_at_17 : decode cX5_at 17 = .ok (.ireturn, 1) := by decide +kernel
theorem dX5_put_0 : decode cX5_put 0 = .ok (.iload_n 1, 1) := by decide +kernel
theorem dX5_put_1 : decode cX5_put 1 = .ok (.ifCond .lt 13, 3) := by decide +kernel
theorem dX5_put_4 : decode cX5_put 4 = .ok (.iload_n 1, 1) := by decide +kernel
theorem dX5_put_5 : decode cX5_put 5 = .ok (.aload_n 0, 1) := by decide +kernel
theorem dX5_put_6 : decode cX5_put 6 = .ok (.arraylength, 1) := by decide +kernel
theorem dX5_put_7 : decode cX5_put 7 = .ok (.if_icmp .ge 7, 3) := by decide +kernel
theorem dX5_put_10 : decode cX5_put 10 = .ok (.aload_n 0, 1) := by decide +kernel
theorem dX5_put_11 : decode cX5_put 11 = .ok (.iload_n 1, 1) := by decide +kernel
theorem dX5_put_12 : decode cX5_put 12 = .ok (.iload_n 2, 1) := by decide +kernel
theorem dX5_put_13 : decode cX5_put 13 = .ok (.iastore, 1) := by decide +kernel
theorem dX5_put_14 : decode cX5_put 14 = .ok (.return_, 1) := by decide +kernel
theorem dX5_copyRow_0 : decode cX5_copyRow 0 = .ok (.aload_n 0, 1) := by decide +kernel
theorem dX5_copyRow_1 : decode cX5_copyRow 1 = .ok (.iconst 0, 1) := by decide +kernel
theorem dX5_copyRow_2 : decode cX5_copyRow 2 = .ok (.aload_n 1, 1) := by decide +kernel
theorem dX5_copyRow_3 : decode cX5_copyRow 3 = .ok (.iconst 0, 1) := by decide +kernel
theorem dX5_copyRow_4 : decode cX5_copyRow 4 = .ok (.aload_n 0, 1) := by decide +kernel
theorem dX5_copyRow_5 : decode cX5_copyRow 5 = .ok (.arraylength, 1) := by decide +kernel
theorem dX5_copyRow_6 : decode cX5_copyRow 6 = .ok (.aload_n 1, 1) := by decide +kernel
theorem dX5_copyRow_7 : decode cX5_copyRow 7 = .ok (.arraylength, 1) := by decide +kernel
theorem dX5_copyRow_8 : decode cX5_copyRow 8 = .ok (.invokestatic 257, 3) := by decide +kernel
theorem dX5_copyRow_11 : decode cX5_copyRow 11 = .ok (.invokestatic 262, 3) := by decide +kernel
theorem dX5_copyRow_14 : decode cX5_copyRow 14 = .ok (.return_, 1) := by decide +kernel
theorem dX5_courtsBeyond_0 : decode cX5_courtsBeyond 0 = .ok (.iconst 0, 1) := by decide +kernel
theorem dX5_courtsBeyond_1 : decode cX5_courtsBeyond 1 = .ok (.istore_n 2, 1) := by decide +kernel
theorem dX5_courtsBeyond_2 : decode cX5_courtsBeyond 2 = .ok (.iconst 0, 1) := by decide +kernel
theorem dX5_courtsBeyond_3 : decode cX5_courtsBeyond 3 = .ok (.istore_n 3, 1) := by decide +kernel
theorem dX5_courtsBeyond_4 : decode cX5_courtsBeyond 4 = .ok (.iload_n 3, 1) := by decide +kernel
theorem dX5_courtsBeyond_5 : decode cX5_courtsBeyond 5 = .ok (.aload_n 0, 1) := by decide +kernel
theorem dX5_courtsBeyond_6 : decode cX5_courtsBeyond 6 = .ok (.arraylength, 1) := by decide +kernel
theorem dX5_courtsBeyond_7 : decode cX5_courtsBeyond 7 = .ok (.if_icmp .ge 22, 3) := by decide +kernel
theorem dX5_courtsBeyond_10 : decode cX5_courtsBeyond 10 = .ok (.aload_n 0, 1) := by decide +kernel
theorem dX5_courtsBeyond_11 : decode cX5_courtsBeyond 11 = .ok (.iload_n 3, 1) := by decide +kernel
theorem dX5_courtsBeyond_12 : decode cX5_courtsBeyond 12 = .ok (.iaload, 1) := by decide +kernel
theorem dX5_courtsBeyond_13 : decode cX5_courtsBeyond 13 = .ok (.invokestatic 268, 3) := by decide +kernel
theorem dX5_courtsBeyond_16 : decode cX5_courtsBeyond 16 = .ok (.iload_n 1, 1) := by decide +kernel
theorem dX5_courtsBeyond_17 : decode cX5_courtsBeyond 17 = .ok (.if_icmp .le 6, 3) := by decide +kernel
theorem dX5_courtsBeyond_20 : decode cX5_courtsBeyond 20 = .ok (.iinc 2 1, 3) := by decide +kernel
theorem dX5_courtsBeyond_23 : decode cX5_courtsBeyond 23 = .ok (.iinc 3 1, 3) := by decide +kernel
theorem dX5_courtsBeyond_26 : decode cX5_courtsBeyond 26 = .ok (.goto (-22), 3) := by decide +kernel
theorem dX5_courtsBeyond_29 : decode cX5_courtsBeyond 29 = .ok (.iload_n 2, 1) := by decide +kernel
theorem dX5_courtsBeyond_30 : decode cX5_courtsBeyond 30 = .ok (.ireturn, 1) := by decide +kernel
theorem dX5_cellAt_0 : decode cX5_cellAt 0 = .ok (.iload_n 0, 1) := by decide +kernel
theorem dX5_cellAt_1 : decode cX5_cellAt 1 = .ok (.ifCond .eq 8, 3) := by decide +kernel
theorem dX5_cellAt_4 : decode cX5_cellAt 4 = .ok (.iload_n 0, 1) := by decide +kernel
theorem dX5_cellAt_5 : decode cX5_cellAt 5 = .ok (.iconst 2, 1) := by decide +kernel
theorem dX5_cellAt_6 : decode cX5_cellAt 6 = .ok (.if_icmp .ne 42, 3) := by decide +kernel
theorem dX5_cellAt_9 : decode cX5_cellAt 9 = .ok (.iload_n 1, 1) := by decide +kernel
theorem dX5_cellAt_10 : decode cX5_cellAt 10 = .ok (.bipush 6, 2) := by decide +kernel
theorem dX5_cellAt_12 : decode cX5_cellAt 12 = .ok (.idiv, 1) := by decide +kernel
theorem dX5_cellAt_13 : decode cX5_cellAt 13 = .ok (.istore_n 2, 1) := by decide +kernel
theorem dX5_cellAt_14 : decode cX5_cellAt 14 = .ok (.iload_n 0, 1) := by decide +kernel
theorem dX5_cellAt_15 : decode cX5_cellAt 15 = .ok (.iconst 2, 1) := by decide +kernel
theorem dX5_cellAt_16 : decode cX5_cellAt 16 = .ok (.if_icmp .ne 14, 3) := by decide +kernel
theorem dX5_cellAt_19 : decode cX5_cellAt 19 = .ok (.iload_n 2, 1) := by decide +kernel
theorem dX5_cellAt_20 : decode cX5_cellAt 20 = .ok (.iconst 2, 1) := by decide +kernel
theorem dX5_cellAt_21 : decode cX5_cellAt 21 = .ok (.irem, 1) := by decide +kernel
theorem dX5_cellAt_22 : decode cX5_cellAt 22 = .ok (.iconst 1, 1) := by decide +kernel
theorem dX5_cellAt_23 : decode cX5_cellAt 23 = .ok (.if_icmp .ne 7, 3) := by decide +kernel
theorem dX5_cellAt_26 : decode cX5_cellAt 26 = .ok (.iconst 1, 1) := by decide +kernel
theorem dX5_cellAt_27 : decode cX5_cellAt 27 = .ok (.goto 4, 3) := by decide +kernel
theorem dX5_cellAt_30 : decode cX5_cellAt 30 = .ok (.iconst 0, 1) := by decide +kernel
theorem dX5_cellAt_31 : decode cX5_cellAt 31 = .ok (.istore_n 3, 1) := by decide +kernel
theorem dX5_cellAt_32 : decode cX5_cellAt 32 = .ok (.bipush 6, 2) := by decide +kernel
theorem dX5_cellAt_34 : decode cX5_cellAt 34 = .ok (.iload_n 2, 1) := by decide +kernel
theorem dX5_cellAt_35 : decode cX5_cellAt 35 = .ok (.imul, 1) := by decide +kernel
theorem dX5_cellAt_36 : decode cX5_cellAt 36 = .ok (.iload_n 1, 1) := by decide +kernel
theorem dX5_cellAt_37 : decode cX5_cellAt 37 = .ok (.bipush 6, 2) := by decide +kernel
theorem dX5_cellAt_39 : decode cX5_cellAt 39 = .ok (.irem, 1) := by decide +kernel
theorem dX5_cellAt_40 : decode cX5_cellAt 40 = .ok (.bipush 6, 2) := by decide +kernel
theorem dX5_cellAt_42 : decode cX5_cellAt 42 = .ok (.iload_n 3, 1) := by decide +kernel
theorem dX5_cellAt_43 : decode cX5_cellAt 43 = .ok (.invokestatic 271, 3) := by decide +kernel
theorem dX5_cellAt_46 : decode cX5_cellAt 46 = .ok (.iadd, 1) := by decide +kernel
theorem dX5_cellAt_47 : decode cX5_cellAt 47 = .ok (.ireturn, 1) := by decide +kernel
theorem dX5_cellAt_48 : decode cX5_cellAt 48 = .ok (.iload_n 1, 1) := by decide +kernel
theorem dX5_cellAt_49 : decode cX5_cellAt 49 = .ok (.iconst 4, 1) := by decide +kernel
theorem dX5_cellAt_50 : decode cX5_cellAt 50 = .ok (.idiv, 1) := by decide +kernel
theorem dX5_cellAt_51 : decode cX5_cellAt 51 = .ok (.istore_n 2, 1) := by decide +kernel
theorem dX5_cellAt_52 : decode cX5_cellAt 52 = .ok (.iload_n 0, 1) := by decide +kernel
theorem dX5_cellAt_53 : decode cX5_cellAt 53 = .ok (.iconst 3, 1) := by decide +kernel
theorem dX5_cellAt_54 : decode cX5_cellAt 54 = .ok (.if_icmp .ne 14, 3) := by decide +kernel
theorem dX5_cellAt_57 : decode cX5_cellAt 57 = .ok (.iload_n 2, 1) := by decide +kernel
theorem dX5_cellAt_58 : decode cX5_cellAt 58 = .ok (.iconst 2, 1) := by decide +kernel
theorem dX5_cellAt_59 : decode cX5_cellAt 59 = .ok (.irem, 1) := by decide +kernel
theorem dX5_cellAt_60 : decode cX5_cellAt 60 = .ok (.iconst 1, 1) := by decide +kernel
theorem dX5_cellAt_61 : decode cX5_cellAt 61 = .ok (.if_icmp .ne 7, 3) := by decide +kernel
theorem dX5_cellAt_64 : decode cX5_cellAt 64 = .ok (.iconst 1, 1) := by decide +kernel
theorem dX5_cellAt_65 : decode cX5_cellAt 65 = .ok (.goto 4, 3) := by decide +kernel
theorem dX5_cellAt_68 : decode cX5_cellAt 68 = .ok (.iconst 0, 1) := by decide +kernel
theorem dX5_cellAt_69 : decode cX5_cellAt 69 = .ok (.istore_n 3, 1) := by decide +kernel
theorem dX5_cellAt_70 : decode cX5_cellAt 70 = .ok (.bipush 6, 2) := by decide +kernel
theorem dX5_cellAt_72 : decode cX5_cellAt 72 = .ok (.iload_n 1, 1) := by decide +kernel
theorem dX5_cellAt_73 : decode cX5_cellAt 73 = .ok (.iconst 4, 1) := by decide +kernel
theorem dX5_cellAt_74 : decode cX5_cellAt 74 = .ok (.irem, 1) := by decide +kernel
theorem dX5_cellAt_75 : decode cX5_cellAt 75 = .ok (.iconst 4, 1) := by decide +kernel
theorem dX5_cellAt_76 : decode cX5_cellAt 76 = .ok (.iload_n 3, 1) := by decide +kernel
theorem dX5_cellAt_77 : decode cX5_cellAt 77 = .ok (.invokestatic 271, 3) := by decide +kernel
theorem dX5_cellAt_80 : decode cX5_cellAt 80 = .ok (.imul, 1) := by decide +kernel
theorem dX5_cellAt_81 : decode cX5_cellAt 81 = .ok (.iload_n 2, 1) := by decide +kernel
theorem dX5_cellAt_82 : decode cX5_cellAt 82 = .ok (.iadd, 1) := by decide +kernel
theorem dX5_cellAt_83 : decode cX5_cellAt 83 = .ok (.ireturn, 1) := by decide +kernel
theorem dX5_along_0 : decode cX5_along 0 = .ok (.iload_n 2, 1) := by decide +kernel
theorem dX5_along_1 : decode cX5_along 1 = .ok (.ifCond .eq 11, 3) := by decide +kernel
theorem dX5_along_4 : decode cX5_along 4 = .ok (.iload_n 1, 1) := by decide +kernel
theorem dX5_along_5 : decode cX5_along 5 = .ok (.iconst 1, 1) := by decide +kernel
theorem dX5_along_6 : decode cX5_along 6 = .ok (.isub, 1) := by decide +kernel
theorem dX5_along_7 : decode cX5_along 7 = .ok (.iload_n 0, 1) := by decide +kernel
theorem dX5_along_8 : decode cX5_along 8 = .ok (.isub, 1) := by decide +kernel
theorem dX5_along_9 : decode cX5_along 9 = .ok (.goto 4, 3) := by decide +kernel
theorem dX5_along_12 : decode cX5_along 12 = .ok (.iload_n 0, 1) := by decide +kernel
theorem dX5_along_13 : decode cX5_along 13 = .ok (.ireturn, 1) := by decide +kernel
theorem dX5_placeBefore_0 : decode cX5_placeBefore 0 = .ok (.iload_n 1, 1) := by decide +kernel
theorem dX5_placeBefore_1 : decode cX5_placeBefore 1 = .ok (.iload_n 2, 1) := by decide +kernel
theorem dX5_placeBefore_2 : decode cX5_placeBefore 2 = .ok (.iload_n 1, 1) := by decide +kernel
theorem dX5_placeBefore_3 : decode cX5_placeBefore 3 = .ok (.isub, 1) := by decide +kernel
theorem dX5_placeBefore_4 : decode cX5_placeBefore 4 = .ok (.invokestatic 257, 3) := by decide +kernel
theorem dX5_placeBefore_7 : decode cX5_placeBefore 7 = .ok (.istore_n 3, 1) := by decide +kernel
theorem dX5_placeBefore_8 : decode cX5_placeBefore 8 = .ok (.iload_n 0, 1) := by decide +kernel
theorem dX5_placeBefore_9 : decode cX5_placeBefore 9 = .ok (.iconst 2, 1) := by decide +kernel
theorem dX5_placeBefore_10 : decode cX5_placeBefore 10 = .ok (.iload_n 3, 1) := by decide +kernel
theorem dX5_placeBefore_11 : decode cX5_placeBefore 11 = .ok (.imul, 1) := by decide +kernel
theorem dX5_placeBefore_12 : decode cX5_placeBefore 12 = .ok (.if_icmp .lt 16, 3) := by decide +kernel
theorem dX5_placeBefore_15 : decode cX5_placeBefore 15 = .ok (.iload_n 1, 1) := by decide +kernel
theorem dX5_placeBefore_16 : decode cX5_placeBefore 16 = .ok (.iload_n 3, 1) := by decide +kernel
theorem dX5_placeBefore_17 : decode cX5_placeBefore 17 = .ok (.if_icmp .le 9, 3) := by decide +kernel
theorem dX5_placeBefore_20 : decode cX5_placeBefore 20 = .ok (.iload_n 0, 1) := by decide +kernel
theorem dX5_placeBefore_21 : decode cX5_placeBefore 21 = .ok (.iload_n 3, 1) := by decide +kernel
theorem dX5_placeBefore_22 : decode cX5_placeBefore 22 = .ok (.isub, 1) := by decide +kernel
theorem dX5_placeBefore_23 : decode cX5_placeBefore 23 = .ok (.goto 4, 3) := by decide +kernel
theorem dX5_placeBefore_26 : decode cX5_placeBefore 26 = .ok (.iload_n 0, 1) := by decide +kernel
theorem dX5_placeBefore_27 : decode cX5_placeBefore 27 = .ok (.ireturn, 1) := by decide +kernel
theorem dX5_placeBefore_28 : decode cX5_placeBefore 28 = .ok (.iload_n 0, 1) := by decide +kernel
theorem dX5_placeBefore_29 : decode cX5_placeBefore 29 = .ok (.iconst 2, 1) := by decide +kernel
theorem dX5_placeBefore_30 : decode cX5_placeBefore 30 = .ok (.irem, 1) := by decide +kernel
theorem dX5_placeBefore_31 : decode cX5_placeBefore 31 = .ok (.ifCond .ne 9, 3) := by decide +kernel
theorem dX5_placeBefore_34 : decode cX5_placeBefore 34 = .ok (.iload_n 0, 1) := by decide +kernel
theorem dX5_placeBefore_35 : decode cX5_placeBefore 35 = .ok (.iconst 2, 1) := by decide +kernel
theorem dX5_placeBefore_36 : decode cX5_placeBefore 36 = .ok (.idiv, 1) := by decide +kernel
theorem dX5_placeBefore_37 : decode cX5_placeBefore 37 = .ok (.goto 8, 3) := by decide +kernel
theorem dX5_placeBefore_40 : decode cX5_placeBefore 40 = .ok (.iload_n 1, 1) := by decide +kernel
theorem dX5_placeBefore_41 : decode cX5_placeBefore 41 = .ok (.iload_n 0, 1) := by decide +kernel
theorem dX5_placeBefore_42 : decode cX5_placeBefore 42 = .ok (.iconst 2, 1) := by decide +kernel
theorem dX5_placeBefore_43 : decode cX5_placeBefore 43 = .ok (.idiv, 1) := by decide +kernel
theorem dX5_placeBefore_44 : decode cX5_placeBefore 44 = .ok (.iadd, 1) := by decide +kernel
theorem dX5_placeBefore_45 : decode cX5_placeBefore 45 = .ok (.ireturn, 1) := by decide +kernel
theorem dJ6_bitCount_0f7a4_0 : decode cJ6_bitCount_0f7a4 0 = .ok (.iload_n 0, 1) := by decide +kernel
theorem dJ6_bitCount_0f7a4_1 : decode cJ6_bitCount_0f7a4 1 = .ok (.iload_n 0, 1) := by decide +kernel
theorem dJ6_bitCount_0f7a4_2 : decode cJ6_bitCount_0f7a4 2 = .ok (.iconst 1, 1) := by decide +kernel
theorem dJ6_bitCount_0f7a4_3 : decode cJ6_bitCount_0f7a4 3 = .ok (.iushr, 1) := by decide +kernel
theorem dJ6_bitCount_0f7a4_4 : decode cJ6_bitCount_0f7a4 4 = .ok (.ldc_w 265, 3) := by decide +kernel
theorem dJ6_bitCount_0f7a4_7 : decode cJ6_bitCount_0f7a4 7 = .ok (.iand, 1) := by decide +kernel
theorem dJ6_bitCount_0f7a4_8 : decode cJ6_bitCount_0f7a4 8 = .ok (.isub, 1) := by decide +kernel
theorem dJ6_bitCount_0f7a4_9 : decode cJ6_bitCount_0f7a4 9 = .ok (.istore_n 0, 1) := by decide +kernel
theorem dJ6_bitCount_0f7a4_10 : decode cJ6_bitCount_0f7a4 10 = .ok (.iload_n 0, 1) := by decide +kernel
theorem dJ6_bitCount_0f7a4_11 : decode cJ6_bitCount_0f7a4 11 = .ok (.ldc_w 266, 3) := by decide +kernel
theorem dJ6_bitCount_0f7a4_14 : decode cJ6_bitCount_0f7a4 14 = .ok (.iand, 1) := by decide +kernel
theorem dJ6_bitCount_0f7a4_15 : decode cJ6_bitCount_0f7a4 15 = .ok (.iload_n 0, 1) := by decide +kernel
theorem dJ6_bitCount_0f7a4_16 : decode cJ6_bitCount_0f7a4 16 = .ok (.iconst 2, 1) := by decide +kernel
theorem dJ6_bitCount_0f7a4_17 : decode cJ6_bitCount_0f7a4 17 = .ok (.iushr, 1) := by decide +kernel
theorem dJ6_bitCount_0f7a4_18 : decode cJ6_bitCount_0f7a4 18 = .ok (.ldc_w 266, 3) := by decide +kernel
theorem dJ6_bitCount_0f7a4_21 : decode cJ6_bitCount_0f7a4 21 = .ok (.iand, 1) := by decide +kernel
theorem dJ6_bitCount_0f7a4_22 : decode cJ6_bitCount_0f7a4 22 = .ok (.iadd, 1) := by decide +kernel
theorem dJ6_bitCount_0f7a4_23 : decode cJ6_bitCount_0f7a4 23 = .ok (.istore_n 0, 1) := by decide +kernel
theorem dJ6_bitCount_0f7a4_24 : decode cJ6_bitCount_0f7a4 24 = .ok (.iload_n 0, 1) := by decide +kernel
theorem dJ6_bitCount_0f7a4_25 : decode cJ6_bitCount_0f7a4 25 = .ok (.iload_n 0, 1) := by decide +kernel
theorem dJ6_bitCount_0f7a4_26 : decode cJ6_bitCount_0f7a4 26 = .ok (.iconst 4, 1) := by decide +kernel
theorem dJ6_bitCount_0f7a4_27 : decode cJ6_bitCount_0f7a4 27 = .ok (.iushr, 1) := by decide +kernel
theorem dJ6_bitCount_0f7a4_28 : decode cJ6_bitCount_0f7a4 28 = .ok (.iadd, 1) := by decide +kernel
theorem dJ6_bitCount_0f7a4_29 : decode cJ6_bitCount_0f7a4 29 = .ok (.ldc_w 267, 3) := by decide +kernel
theorem dJ6_bitCount_0f7a4_32 : decode cJ6_bitCount_0f7a4 32 = .ok (.iand, 1) := by decide +kernel
theorem dJ6_bitCount_0f7a4_33 : decode cJ6_bitCount_0f7a4 33 = .ok (.istore_n 0, 1) := by decide +kernel
theorem dJ6_bitCount_0f7a4_34 : decode cJ6_bitCount_0f7a4 34 = .ok (.iload_n 0, 1) := by decide +kernel
theorem dJ6_bitCount_0f7a4_35 : decode cJ6_bitCount_0f7a4 35 = .ok (.iload_n 0, 1) := by decide +kernel
theorem dJ6_bitCount_0f7a4_36 : decode cJ6_bitCount_0f7a4 36 = .ok (.bipush 8, 2) := by decide +kernel
theorem dJ6_bitCount_0f7a4_38 : decode cJ6_bitCount_0f7a4 38 = .ok (.iushr, 1) := by decide +kernel
theorem dJ6_bitCount_0f7a4_39 : decode cJ6_bitCount_0f7a4 39 = .ok (.iadd, 1) := by decide +kernel
theorem dJ6_bitCount_0f7a4_40 : decode cJ6_bitCount_0f7a4 40 = .ok (.istore_n 0, 1) := by decide +kernel
theorem dJ6_bitCount_0f7a4_41 : decode cJ6_bitCount_0f7a4 41 = .ok (.iload_n 0, 1) := by decide +kernel
theorem dJ6_bitCount_0f7a4_42 : decode cJ6_bitCount_0f7a4 42 = .ok (.iload_n 0, 1) := by decide +kernel
theorem dJ6_bitCount_0f7a4_43 : decode cJ6_bitCount_0f7a4 43 = .ok (.bipush 16, 2) := by decide +kernel
theorem dJ6_bitCount_0f7a4_45 : decode cJ6_bitCount_0f7a4 45 = .ok (.iushr, 1) := by decide +kernel
theorem dJ6_bitCount_0f7a4_46 : decode cJ6_bitCount_0f7a4 46 = .ok (.iadd, 1) := by decide +kernel
theorem dJ6_bitCount_0f7a4_47 : decode cJ6_bitCount_0f7a4 47 = .ok (.istore_n 0, 1) := by decide +kernel
theorem dJ6_bitCount_0f7a4_48 : decode cJ6_bitCount_0f7a4 48 = .ok (.iload_n 0, 1) := by decide +kernel
theorem dJ6_bitCount_0f7a4_49 : decode cJ6_bitCount_0f7a4 49 = .ok (.bipush 63, 2) := by decide +kernel
theorem dJ6_bitCount_0f7a4_51 : decode cJ6_bitCount_0f7a4 51 = .ok (.iand, 1) := by decide +kernel
theorem dJ6_bitCount_0f7a4_52 : decode cJ6_bitCount_0f7a4 52 = .ok (.ireturn, 1) := by decide +kernel
theorem dJ9_abs_0f7a4_0 : decode cJ9_abs_0f7a4 0 = .ok (.iload_n 0, 1) := by decide +kernel
theorem dJ9_abs_0f7a4_1 : decode cJ9_abs_0f7a4 1 = .ok (.ifCond .ge 8, 3) := by decide +kernel
theorem dJ9_abs_0f7a4_4 : decode cJ9_abs_0f7a4 4 = .ok (.iload_n 0, 1) := by decide +kernel
theorem dJ9_abs_0f7a4_5 : decode cJ9_abs_0f7a4 5 = .ok (.ineg, 1) := by decide +kernel
theorem dJ9_abs_0f7a4_6 : decode cJ9_abs_0f7a4 6 = .ok (.goto 4, 3) := by decide +kernel
theorem dJ9_abs_0f7a4_9 : decode cJ9_abs_0f7a4 9 = .ok (.iload_n 0, 1) := by decide +kernel
theorem dJ9_abs_0f7a4_10 : decode cJ9_abs_0f7a4 10 = .ok (.ireturn, 1) := by decide +kernel
theorem dJ9_min_7cf53_0 : decode cJ9_min_7cf53 0 = .ok (.iload_n 0, 1) := by decide +kernel
theorem dJ9_min_7cf53_1 : decode cJ9_min_7cf53 1 = .ok (.iload_n 1, 1) := by decide +kernel
theorem dJ9_min_7cf53_2 : decode cJ9_min_7cf53 2 = .ok (.if_icmp .gt 7, 3) := by decide +kernel
theorem dJ9_min_7cf53_5 : decode cJ9_min_7cf53 5 = .ok (.iload_n 0, 1) := by decide +kernel
theorem dJ9_min_7cf53_6 : decode cJ9_min_7cf53 6 = .ok (.goto 4, 3) := by decide +kernel
theorem dJ9_min_7cf53_9 : decode cJ9_min_7cf53 9 = .ok (.iload_n 1, 1) := by decide +kernel
theorem dJ9_min_7cf53_10 : decode cJ9_min_7cf53 10 = .ok (.ireturn, 1) := by decide +kernel
theorem dL_cell_0 : decode cL_cell 0 = .ok (.iload_n 1, 1) := by decide +kernel
theorem dL_cell_1 : decode cL_cell 1 = .ok (.aload_n 0, 1) := by decide +kernel
theorem dL_cell_2 : decode cL_cell 2 = .ok (.arraylength, 1) := by decide +kernel
theorem dL_cell_3 : decode cL_cell 3 = .ok (.if_icmp .ge 9, 3) := by decide +kernel
theorem dL_cell_6 : decode cL_cell 6 = .ok (.aload_n 0, 1) := by decide +kernel
theorem dL_cell_7 : decode cL_cell 7 = .ok (.iload_n 1, 1) := by decide +kernel
theorem dL_cell_8 : decode cL_cell 8 = .ok (.iaload, 1) := by decide +kernel
theorem dL_cell_9 : decode cL_cell 9 = .ok (.goto 13, 3) := by decide +kernel
theorem dL_cell_12 : decode cL_cell 12 = .ok (.ldc 7, 2) := by decide +kernel
theorem dL_cell_14 : decode cL_cell 14 = .ok (.iload_n 1, 1) := by decide +kernel
theorem dL_cell_15 : decode cL_cell 15 = .ok (.bipush 7, 2) := by decide +kernel
theorem dL_cell_17 : decode cL_cell 17 = .ok (.iadd, 1) := by decide +kernel
theorem dL_cell_18 : decode cL_cell 18 = .ok (.imul, 1) := by decide +kernel
theorem dL_cell_19 : decode cL_cell 19 = .ok (.ldc 8, 2) := by decide +kernel
theorem dL_cell_21 : decode cL_cell 21 = .ok (.iadd, 1) := by decide +kernel
theorem dL_cell_22 : decode cL_cell 22 = .ok (.ireturn, 1) := by decide +kernel
theorem dL_low_0 : decode cL_low 0 = .ok (.iload_n 0, 1) := by decide +kernel
theorem dL_low_1 : decode cL_low 1 = .ok (.ldc 9, 2) := by decide +kernel
theorem dL_low_3 : decode cL_low 3 = .ok (.iand, 1) := by decide +kernel
theorem dL_low_4 : decode cL_low 4 = .ok (.iload_n 1, 1) := by decide +kernel
theorem dL_low_5 : decode cL_low 5 = .ok (.irem, 1) := by decide +kernel
theorem dL_low_6 : decode cL_low 6 = .ok (.ireturn, 1) := by decide +kernel
theorem dL_ones_0 : decode cL_ones 0 = .ok (.iconst 0, 1) := by decide +kernel
theorem dL_ones_1 : decode cL_ones 1 = .ok (.istore_n 1, 1) := by decide +kernel
theorem dL_ones_2 : decode cL_ones 2 = .ok (.iload_n 0, 1) := by decide +kernel
theorem dL_ones_3 : decode cL_ones 3 = .ok (.istore_n 2, 1) := by decide +kernel
theorem dL_ones_4 : decode cL_ones 4 = .ok (.iload_n 2, 1) := by decide +kernel
theorem dL_ones_5 : decode cL_ones 5 = .ok (.ifCond .eq 15, 3) := by decide +kernel
theorem dL_ones_8 : decode cL_ones 8 = .ok (.iinc 1 1, 3) := by decide +kernel
theorem dL_ones_11 : decode cL_ones 11 = .ok (.iload_n 2, 1) := by decide +kernel
theorem dL_ones_12 : decode cL_ones 12 = .ok (.iload_n 2, 1) := by decide +kernel
theorem dL_ones_13 : decode cL_ones 13 = .ok (.iconst 1, 1) := by decide +kernel
theorem dL_ones_14 : decode cL_ones 14 = .ok (.isub, 1) := by decide +kernel
theorem dL_ones_15 : decode cL_ones 15 = .ok (.iand, 1) := by decide +kernel
theorem dL_ones_16 : decode cL_ones 16 = .ok (.istore_n 2, 1) := by decide +kernel
theorem dL_ones_17 : decode cL_ones 17 = .ok (.goto (-13), 3) := by decide +kernel
theorem dL_ones_20 : decode cL_ones 20 = .ok (.iload_n 1, 1) := by decide +kernel
theorem dL_ones_21 : decode cL_ones 21 = .ok (.ireturn, 1) := by decide +kernel
theorem dL_court_0 : decode cL_court 0 = .ok (.iconst 3, 1) := by decide +kernel
theorem dL_court_1 : decode cL_court 1 = .ok (.iload_n 0, 1) := by decide +kernel
theorem dL_court_2 : decode cL_court 2 = .ok (.bipush 6, 2) := by decide +kernel
theorem dL_court_4 : decode cL_court 4 = .ok (.idiv, 1) := by decide +kernel
theorem dL_court_5 : decode cL_court 5 = .ok (.imul, 1) := by decide +kernel
theorem dL_court_6 : decode cL_court 6 = .ok (.iload_n 0, 1) := by decide +kernel
theorem dL_court_7 : decode cL_court 7 = .ok (.bipush 6, 2) := by decide +kernel
theorem dL_court_9 : decode cL_court 9 = .ok (.irem, 1) := by decide +kernel
theorem dL_court_10 : decode cL_court 10 = .ok (.iadd, 1) := by decide +kernel
theorem dL_court_11 : decode cL_court 11 = .ok (.iconst 3, 1) := by decide +kernel
theorem dL_court_12 : decode cL_court 12 = .ok (.isub, 1) := by decide +kernel
theorem dL_court_13 : decode cL_court 13 = .ok (.ireturn, 1) := by decide +kernel
theorem dL_sheetAt_0 : decode cL_sheetAt 0 = .ok (.aload_n 2, 1) := by decide +kernel
theorem dL_sheetAt_1 : decode cL_sheetAt 1 = .ok (.bipush 10, 2) := by decide +kernel
theorem dL_sheetAt_3 : decode cL_sheetAt 3 = .ok (.iload_n 0, 1) := by decide +kernel
theorem dL_sheetAt_4 : decode cL_sheetAt 4 = .ok (.imul, 1) := by decide +kernel
theorem dL_sheetAt_5 : decode cL_sheetAt 5 = .ok (.iload_n 1, 1) := by decide +kernel
theorem dL_sheetAt_6 : decode cL_sheetAt 6 = .ok (.iconst 3, 1) := by decide +kernel
theorem dL_sheetAt_7 : decode cL_sheetAt 7 = .ok (.idiv, 1) := by decide +kernel
theorem dL_sheetAt_8 : decode cL_sheetAt 8 = .ok (.iadd, 1) := by decide +kernel
theorem dL_sheetAt_9 : decode cL_sheetAt 9 = .ok (.iaload, 1) := by decide +kernel
theorem dL_sheetAt_10 : decode cL_sheetAt 10 = .ok (.bipush 9, 2) := by decide +kernel
theorem dL_sheetAt_12 : decode cL_sheetAt 12 = .ok (.iload_n 1, 1) := by decide +kernel
theorem dL_sheetAt_13 : decode cL_sheetAt 13 = .ok (.iconst 3, 1) := by decide +kernel
theorem dL_sheetAt_14 : decode cL_sheetAt 14 = .ok (.irem, 1) := by decide +kernel
theorem dL_sheetAt_15 : decode cL_sheetAt 15 = .ok (.imul, 1) := by decide +kernel
theorem dL_sheetAt_16 : decode cL_sheetAt 16 = .ok (.ishr, 1) := by decide +kernel
theorem dL_sheetAt_17 : decode cL_sheetAt 17 = .ok (.sipush 511, 3) := by decide +kernel
theorem dL_sheetAt_20 : decode cL_sheetAt 20 = .ok (.iand, 1) := by decide +kernel
theorem dL_sheetAt_21 : decode cL_sheetAt 21 = .ok (.ireturn, 1) := by decide +kernel
theorem dL_prints_0 : decode cL_prints 0 = .ok (.bipush 10, 2) := by decide +kernel
theorem dL_prints_2 : decode cL_prints 2 = .ok (.aload_n 1, 1) := by decide +kernel
theorem dL_prints_3 : decode cL_prints 3 = .ok (.iconst 5, 1) := by decide +kernel
theorem dL_prints_4 : decode cL_prints 4 = .ok (.iaload, 1) := by decide +kernel
theorem dL_prints_5 : decode cL_prints 5 = .ok (.imul, 1) := by decide +kernel
theorem dL_prints_6 : decode cL_prints 6 = .ok (.istore 6, 2) := by decide +kernel
theorem dL_prints_8 : decode cL_prints 8 = .ok (.iconst 0, 1) := by decide +kernel
theorem dL_prints_9 : decode cL_prints 9 = .ok (.istore 7, 2) := by decide +kernel
theorem dL_prints_11 : decode cL_prints 11 = .ok (.iload 7, 2) := by decide +kernel
theorem dL_prints_13 : decode cL_prints 13 = .ok (.bipush 10, 2) := by decide +kernel
theorem dL_prints_15 : decode cL_prints 15 = .ok (.if_icmp .ge 18, 3) := by decide +kernel
theorem dL_prints_18 : decode cL_prints 18 = .ok (.aload 5, 2) := by decide +kernel
theorem dL_prints_20 : decode cL_prints 20 = .ok (.iload 6, 2) := by decide +kernel
theorem dL_prints_22 : decode cL_prints 22 = .ok (.iload 7, 2) := by decide +kernel
theorem dL_prints_24 : decode cL_prints 24 = .ok (.iadd, 1) := by decide +kernel
theorem dL_prints_25 : decode cL_prints 25 = .ok (.iconst 0, 1) := by decide +kernel
theorem dL_prints_26 : decode cL_prints 26 = .ok (.iastore, 1) := by decide +kernel
theorem dL_prints_27 : decode cL_prints 27 = .ok (.iinc 7 1, 3) := by decide +kernel
theorem dL_prints_30 : decode cL_prints 30 = .ok (.goto (-19), 3) := by decide +kernel
theorem dL_prints_33 : decode cL_prints 33 = .ok (.iconst 0, 1) := by decide +kernel
theorem dL_prints_34 : decode cL_prints 34 = .ok (.istore 7, 2) := by decide +kernel
theorem dL_prints_36 : decode cL_prints 36 = .ok (.iload 7, 2) := by decide +kernel
theorem dL_prints_38 : decode cL_prints 38 = .ok (.bipush 24, 2) := by decide +kernel
theorem dL_prints_40 : decode cL_prints 40 = .ok (.if_icmp .ge 54, 3) := by decide +kernel
theorem dL_prints_43 : decode cL_prints 43 = .ok (.aload 5, 2) := by decide +kernel
theorem dL_prints_45 : decode cL_prints 45 = .ok (.iload 6, 2) := by decide +kernel
theorem dL_prints_47 : decode cL_prints 47 = .ok (.iload 7, 2) := by decide +kernel
theorem dL_prints_49 : decode cL_prints 49 = .ok (.iconst 3, 1) := by decide +kernel
theorem dL_prints_50 : decode cL_prints 50 = .ok (.idiv, 1) := by decide +kernel
theorem dL_prints_51 : decode cL_prints 51 = .ok (.iadd, 1) := by decide +kernel
theorem dL_prints_52 : decode cL_prints 52 = .ok (.dup2, 1) := by decide +kernel
theorem dL_prints_53 : decode cL_prints 53 = .ok (.iaload, 1) := by decide +kernel
theorem dL_prints_54 : decode cL_prints 54 = .ok (.aload_n 2, 1) := by decide +kernel
theorem dL_prints_55 : decode cL_prints 55 = .ok (.iload 7, 2) := by decide +kernel
theorem dL_prints_57 : decode cL_prints 57 = .ok (.iaload, 1) := by decide +kernel
theorem dL_prints_58 : decode cL_prints 58 = .ok (.bipush 32, 2) := by decide +kernel
theorem dL_prints_60 : decode cL_prints 60 = .ok (.aload_n 3, 1) := by decide +kernel
theorem dL_prints_61 : decode cL_prints 61 = .ok (.iload_n 0, 1) := by decide +kernel
theorem dL_prints_62 : decode cL_prints 62 = .ok (.ifCond .eq 11, 3) := by decide +kernel
theorem dL_prints_65 : decode cL_prints 65 = .ok (.bipush 23, 2) := by decide +kernel
theorem dL_prints_67 : decode cL_prints 67 = .ok (.iload 7, 2) := by decide +kernel
theorem dL_prints_69 : decode cL_prints 69 = .ok (.isub, 1) := by decide +kernel
theorem dL_prints_70 : decode cL_prints 70 = .ok (.goto 5, 3) := by decide +kernel
theorem dL_prints_73 : decode cL_prints 73 = .ok (.iload 7, 2) := by decide +kernel
theorem dL_prints_75 : decode cL_prints 75 = .ok (.iaload, 1) := by decide +kernel
theorem dL_prints_76 : decode cL_prints 76 = .ok (.imul, 1) := by decide +kernel
theorem dL_prints_77 : decode cL_prints 77 = .ok (.iadd, 1) := by decide +kernel
theorem dL_prints_78 : decode cL_prints 78 = .ok (.bipush 9, 2) := by decide +kernel
theorem dL_prints_80 : decode cL_prints 80 = .ok (.iload 7, 2) := by decide +kernel
theorem dL_prints_82 : decode cL_prints 82 = .ok (.iconst 3, 1) := by decide +kernel
theorem dL_prints_83 : decode cL_prints 83 = .ok (.irem, 1) := by decide +kernel
theorem dL_prints_84 : decode cL_prints 84 = .ok (.imul, 1) := by decide +kernel
theorem dL_prints_85 : decode cL_prints 85 = .ok (.ishl, 1) := by decide +kernel
theorem dL_prints_86 : decode cL_prints 86 = .ok (.ior, 1) := by decide +kernel
theorem dL_prints_87 : decode cL_prints 87 = .ok (.iastore, 1) := by decide +kernel
theorem dL_prints_88 : decode cL_prints 88 = .ok (.iinc 7 1, 3) := by decide +kernel
theorem dL_prints_91 : decode cL_prints 91 = .ok (.goto (-55), 3) := by decide +kernel
theorem dL_prints_94 : decode cL_prints 94 = .ok (.iconst 0, 1) := by decide +kernel
theorem dL_prints_95 : decode cL_prints 95 = .ok (.istore 7, 2) := by decide +kernel
theorem dL_prints_97 : decode cL_prints 97 = .ok (.iload 7, 2) := by decide +kernel
theorem dL_prints_99 : decode cL_prints 99 = .ok (.bipush 12, 2) := by decide +kernel
theorem dL_prints_101 : decode cL_prints 101 = .ok (.if_icmp .ge 42, 3) := by decide +kernel
theorem dL_prints_104 : decode cL_prints 104 = .ok (.aload 5, 2) := by decide +kernel
theorem dL_prints_106 : decode cL_prints 106 = .ok (.iload 6, 2) := by decide +kernel
theorem dL_prints_108 : decode cL_prints 108 = .ok (.bipush 8, 2) := by decide +kernel
theorem dL_prints_110 : decode cL_prints 110 = .ok (.iadd, 1) := by decide +kernel
theorem dL_prints_111 : decode cL_prints 111 = .ok (.iload 7, 2) := by decide +kernel
theorem dL_prints_113 : decode cL_prints 113 = .ok (.bipush 6, 2) := by decide +kernel
theorem dL_prints_115 : decode cL_prints 115 = .ok (.idiv, 1) := by decide +kernel
theorem dL_prints_116 : decode cL_prints 116 = .ok (.iadd, 1) := by decide +kernel
theorem dL_prints_117 : decode cL_prints 117 = .ok (.dup2, 1) := by decide +kernel
theorem dL_prints_118 : decode cL_prints 118 = .ok (.iaload, 1) := by decide +kernel
theorem dL_prints_119 : decode cL_prints 119 = .ok (.aload 4, 2) := by decide +kernel
theorem dL_prints_121 : decode cL_prints 121 = .ok (.iload 7, 2) := by decide +kernel
theorem dL_prints_123 : decode cL_prints 123 = .ok (.iaload, 1) := by decide +kernel
theorem dL_prints_124 : decode cL_prints 124 = .ok (.bipush 9, 2) := by decide +kernel
theorem dL_prints_126 : decode cL_prints 126 = .ok (.iadd, 1) := by decide +kernel
theorem dL_prints_127 : decode cL_prints 127 = .ok (.iconst 5, 1) := by decide +kernel
theorem dL_prints_128 : decode cL_prints 128 = .ok (.iload 7, 2) := by decide +kernel
theorem dL_prints_130 : decode cL_prints 130 = .ok (.bipush 6, 2) := by decide +kernel
theorem dL_prints_132 : decode cL_prints 132 = .ok (.irem, 1) := by decide +kernel
theorem dL_prints_133 : decode cL_prints 133 = .ok (.imul, 1) := by decide +kernel
theorem dL_prints_134 : decode cL_prints 134 = .ok (.ishl, 1) := by decide +kernel
theorem dL_prints_135 : decode cL_prints 135 = .ok (.ior, 1) := by decide +kernel
theorem dL_prints_136 : decode cL_prints 136 = .ok (.iastore, 1) := by decide +kernel
theorem dL_prints_137 : decode cL_prints 137 = .ok (.iinc 7 1, 3) := by decide +kernel
theorem dL_prints_140 : decode cL_prints 140 = .ok (.goto (-43), 3) := by decide +kernel
theorem dL_prints_143 : decode cL_prints 143 = .ok (.aload_n 1, 1) := by decide +kernel
theorem dL_prints_144 : decode cL_prints 144 = .ok (.iconst 5, 1) := by decide +kernel
theorem dL_prints_145 : decode cL_prints 145 = .ok (.dup2, 1) := by decide +kernel
theorem dL_prints_146 : decode cL_prints 146 = .ok (.iaload, 1) := by decide +kernel
theorem dL_prints_147 : decode cL_prints 147 = .ok (.iconst 1, 1) := by decide +kernel
theorem dL_prints_148 : decode cL_prints 148 = .ok (.iadd, 1) := by decide +kernel
theorem dL_prints_149 : decode cL_prints 149 = .ok (.iastore, 1) := by decide +kernel
theorem dL_prints_150 : decode cL_prints 150 = .ok (.aload_n 1, 1) := by decide +kernel
theorem dL_prints_151 : decode cL_prints 151 = .ok (.iconst 4, 1) := by decide +kernel
theorem dL_prints_152 : decode cL_prints 152 = .ok (.dup2, 1) := by decide +kernel
theorem dL_prints_153 : decode cL_prints 153 = .ok (.iaload, 1) := by decide +kernel
theorem dL_prints_154 : decode cL_prints 154 = .ok (.iconst 1, 1) := by decide +kernel
theorem dL_prints_155 : decode cL_prints 155 = .ok (.iadd, 1) := by decide +kernel
theorem dL_prints_156 : decode cL_prints 156 = .ok (.iastore, 1) := by decide +kernel
theorem dL_prints_157 : decode cL_prints 157 = .ok (.aload_n 1, 1) := by decide +kernel
theorem dL_prints_158 : decode cL_prints 158 = .ok (.iconst 4, 1) := by decide +kernel
theorem dL_prints_159 : decode cL_prints 159 = .ok (.iaload, 1) := by decide +kernel
theorem dL_prints_160 : decode cL_prints 160 = .ok (.aload_n 1, 1) := by decide +kernel
theorem dL_prints_161 : decode cL_prints 161 = .ok (.iconst 0, 1) := by decide +kernel
theorem dL_prints_162 : decode cL_prints 162 = .ok (.iaload, 1) := by decide +kernel
theorem dL_prints_163 : decode cL_prints 163 = .ok (.irem, 1) := by decide +kernel
theorem dL_prints_164 : decode cL_prints 164 = .ok (.ifCond .ne 25, 3) := by decide +kernel
theorem dL_prints_167 : decode cL_prints 167 = .ok (.aload_n 3, 1) := by decide +kernel
theorem dL_prints_168 : decode cL_prints 168 = .ok (.aload_n 1, 1) := by decide +kernel
theorem dL_prints_169 : decode cL_prints 169 = .ok (.iconst 4, 1) := by decide +kernel
theorem dL_prints_170 : decode cL_prints 170 = .ok (.iaload, 1) := by decide +kernel
theorem dL_prints_171 : decode cL_prints 171 = .ok (.bipush 24, 2) := by decide +kernel
theorem dL_prints_173 : decode cL_prints 173 = .ok (.irem, 1) := by decide +kernel
theorem dL_prints_174 : decode cL_prints 174 = .ok (.dup2, 1) := by decide +kernel
theorem dL_prints_175 : decode cL_prints 175 = .ok (.iaload, 1) := by decide +kernel
theorem dL_prints_176 : decode cL_prints 176 = .ok (.iconst 1, 1) := by decide +kernel
theorem dL_prints_177 : decode cL_prints 177 = .ok (.aload_n 1, 1) := by decide +kernel
theorem dL_prints_178 : decode cL_prints 178 = .ok (.iconst 4, 1) := by decide +kernel
theorem dL_prints_179 : decode cL_prints 179 = .ok (.iaload, 1) := by decide +kernel
theorem dL_prints_180 : decode cL_prints 180 = .ok (.aload_n 1, 1) := by decide +kernel
theorem dL_prints_181 : decode cL_prints 181 = .ok (.iconst 0, 1) := by decide +kernel
theorem dL_prints_182 : decode cL_prints 182 = .ok (.iaload, 1) := by decide +kernel
theorem dL_prints_183 : decode cL_prints 183 = .ok (.idiv, 1) := by decide +kernel
theorem dL_prints_184 : decode cL_prints 184 = .ok (.iconst 4, 1) := by decide +kernel
theorem dL_prints_185 : decode cL_prints 185 = .ok (.irem, 1) := by decide +kernel
theorem dL_prints_186 : decode cL_prints 186 = .ok (.ishl, 1) := by decide +kernel
theorem dL_prints_187 : decode cL_prints 187 = .ok (.ior, 1) := by decide +kernel
theorem dL_prints_188 : decode cL_prints 188 = .ok (.iastore, 1) := by decide +kernel
theorem dL_prints_189 : decode cL_prints 189 = .ok (.return_, 1) := by decide +kernel
theorem dL_cellAt_0 : decode cL_cellAt 0 = .ok (.iload_n 1, 1) := by decide +kernel
theorem dL_cellAt_1 : decode cL_cellAt 1 = .ok (.iconst 2, 1) := by decide +kernel
theorem dL_cellAt_2 : decode cL_cellAt 2 = .ok (.irem, 1) := by decide +kernel
theorem dL_cellAt_3 : decode cL_cellAt 3 = .ok (.ifCond .ne 10, 3) := by decide +kernel
theorem dL_cellAt_6 : decode cL_cellAt 6 = .ok (.iload_n 0, 1) := by decide +kernel
theorem dL_cellAt_7 : decode cL_cellAt 7 = .ok (.bipush 6, 2) := by decide +kernel
theorem dL_cellAt_9 : decode cL_cellAt 9 = .ok (.idiv, 1) := by decide +kernel
theorem dL_cellAt_10 : decode cL_cellAt 10 = .ok (.goto 6, 3) := by decide +kernel
theorem dL_cellAt_13 : decode cL_cellAt 13 = .ok (.iload_n 0, 1) := by decide +kernel
theorem dL_cellAt_14 : decode cL_cellAt 14 = .ok (.iconst 4, 1) := by decide +kernel
theorem dL_cellAt_15 : decode cL_cellAt 15 = .ok (.irem, 1) := by decide +kernel
theorem dL_cellAt_16 : decode cL_cellAt 16 = .ok (.istore_n 2, 1) := by decide +kernel
theorem dL_cellAt_17 : decode cL_cellAt 17 = .ok (.iload_n 1, 1) := by decide +kernel
theorem dL_cellAt_18 : decode cL_cellAt 18 = .ok (.iconst 2, 1) := by decide +kernel
theorem dL_cellAt_19 : decode cL_cellAt 19 = .ok (.irem, 1) := by decide +kernel
theorem dL_cellAt_20 : decode cL_cellAt 20 = .ok (.ifCond .ne 10, 3) := by decide +kernel
theorem dL_cellAt_23 : decode cL_cellAt 23 = .ok (.iload_n 0, 1) := by decide +kernel
theorem dL_cellAt_24 : decode cL_cellAt 24 = .ok (.bipush 6, 2) := by decide +kernel
theorem dL_cellAt_26 : decode cL_cellAt 26 = .ok (.irem, 1) := by decide +kernel
theorem dL_cellAt_27 : decode cL_cellAt 27 = .ok (.goto 6, 3) := by decide +kernel
theorem dL_cellAt_30 : decode cL_cellAt 30 = .ok (.iload_n 0, 1) := by decide +kernel
theorem dL_cellAt_31 : decode cL_cellAt 31 = .ok (.iconst 4, 1) := by decide +kernel
theorem dL_cellAt_32 : decode cL_cellAt 32 = .ok (.idiv, 1) := by decide +kernel
theorem dL_cellAt_33 : decode cL_cellAt 33 = .ok (.istore_n 3, 1) := by decide +kernel
theorem dL_cellAt_34 : decode cL_cellAt 34 = .ok (.iload_n 1, 1) := by decide +kernel
theorem dL_cellAt_35 : decode cL_cellAt 35 = .ok (.iconst 2, 1) := by decide +kernel
theorem dL_cellAt_36 : decode cL_cellAt 36 = .ok (.if_icmp .ne 14, 3) := by decide +kernel
theorem dL_cellAt_39 : decode cL_cellAt 39 = .ok (.iload_n 2, 1) := by decide +kernel
theorem dL_cellAt_40 : decode cL_cellAt 40 = .ok (.iconst 2, 1) := by decide +kernel
theorem dL_cellAt_41 : decode cL_cellAt 41 = .ok (.irem, 1) := by decide +kernel
theorem dL_cellAt_42 : decode cL_cellAt 42 = .ok (.iconst 1, 1) := by decide +kernel
theorem dL_cellAt_43 : decode cL_cellAt 43 = .ok (.if_icmp .ne 7, 3) := by decide +kernel
theorem dL_cellAt_46 : decode cL_cellAt 46 = .ok (.iconst 5, 1) := by decide +kernel
theorem dL_cellAt_47 : decode cL_cellAt 47 = .ok (.iload_n 3, 1) := by decide +kernel
theorem dL_cellAt_48 : decode cL_cellAt 48 = .ok (.isub, 1) := by decide +kernel
theorem dL_cellAt_49 : decode cL_cellAt 49 = .ok (.istore_n 3, 1) := by decide +kernel
theorem dL_cellAt_50 : decode cL_cellAt 50 = .ok (.iload_n 1, 1) := by decide +kernel
theorem dL_cellAt_51 : decode cL_cellAt 51 = .ok (.iconst 3, 1) := by decide +kernel
theorem dL_cellAt_52 : decode cL_cellAt 52 = .ok (.if_icmp .ne 14, 3) := by decide +kernel
theorem dL_cellAt_55 : decode cL_cellAt 55 = .ok (.iload_n 3, 1) := by decide +kernel
theorem dL_cellAt_56 : decode cL_cellAt 56 = .ok (.iconst 2, 1) := by decide +kernel
theorem dL_cellAt_57 : decode cL_cellAt 57 = .ok (.irem, 1) := by decide +kernel
theorem dL_cellAt_58 : decode cL_cellAt 58 = .ok (.iconst 1, 1) := by decide +kernel
theorem dL_cellAt_59 : decode cL_cellAt 59 = .ok (.if_icmp .ne 7, 3) := by decide +kernel
theorem dL_cellAt_62 : decode cL_cellAt 62 = .ok (.iconst 3, 1) := by decide +kernel
theorem dL_cellAt_63 : decode cL_cellAt 63 = .ok (.iload_n 2, 1) := by decide +kernel
theorem dL_cellAt_64 : decode cL_cellAt 64 = .ok (.isub, 1) := by decide +kernel
theorem dL_cellAt_65 : decode cL_cellAt 65 = .ok (.istore_n 2, 1) := by decide +kernel
theorem dL_cellAt_66 : decode cL_cellAt 66 = .ok (.bipush 6, 2) := by decide +kernel
theorem dL_cellAt_68 : decode cL_cellAt 68 = .ok (.iload_n 2, 1) := by decide +kernel
theorem dL_cellAt_69 : decode cL_cellAt 69 = .ok (.imul, 1) := by decide +kernel
theorem dL_cellAt_70 : decode cL_cellAt 70 = .ok (.iload_n 3, 1) := by decide +kernel
theorem dL_cellAt_71 : decode cL_cellAt 71 = .ok (.iadd, 1) := by decide +kernel
theorem dL_cellAt_72 : decode cL_cellAt 72 = .ok (.ireturn, 1) := by decide +kernel
theorem dL_cuts_0 : decode cL_cuts 0 = .ok (.aload_n 1, 1) := by decide +kernel
theorem dL_cuts_1 : decode cL_cuts 1 = .ok (.iconst 5, 1) := by decide +kernel
theorem dL_cuts_2 : decode cL_cuts 2 = .ok (.dup2, 1) := by decide +kernel
theorem dL_cuts_3 : decode cL_cuts 3 = .ok (.iaload, 1) := by decide +kernel
theorem dL_cuts_4 : decode cL_cuts 4 = .ok (.iconst 1, 1) := by decide +kernel
theorem dL_cuts_5 : decode cL_cuts 5 = .ok (.isub, 1) := by decide +kernel
theorem dL_cuts_6 : decode cL_cuts 6 = .ok (.iastore, 1) := by decide +kernel
theorem dL_cuts_7 : decode cL_cuts 7 = .ok (.iconst 0, 1) := by decide +kernel
theorem dL_cuts_8 : decode cL_cuts 8 = .ok (.istore 6, 2) := by decide +kernel
theorem dL_cuts_10 : decode cL_cuts 10 = .ok (.iload 6, 2) := by decide +kernel
theorem dL_cuts_12 : decode cL_cuts 12 = .ok (.bipush 24, 2) := by decide +kernel
theorem dL_cuts_14 : decode cL_cuts 14 = .ok (.if_icmp .ge 45, 3) := by decide +kernel
theorem dL_cuts_17 : decode cL_cuts 17 = .ok (.aload_n 1, 1) := by decide +kernel
theorem dL_cuts_18 : decode cL_cuts 18 = .ok (.iconst 5, 1) := by decide +kernel
theorem dL_cuts_19 : decode cL_cuts 19 = .ok (.iaload, 1) := by decide +kernel
theorem dL_cuts_20 : decode cL_cuts 20 = .ok (.iload 6, 2) := by decide +kernel
theorem dL_cuts_22 : decode cL_cuts 22 = .ok (.iload_n 0, 1) := by decide +kernel
theorem dL_cuts_23 : decode cL_cuts 23 = .ok (.invokestatic 10, 3) := by decide +kernel
theorem dL_cuts_26 : decode cL_cuts 26 = .ok (.aload_n 2, 1) := by decide +kernel
theorem dL_cuts_27 : decode cL_cuts 27 = .ok (.invokestatic 16, 3) := by decide +kernel
theorem dL_cuts_30 : decode cL_cuts 30 = .ok (.istore 7, 2) := by decide +kernel
theorem dL_cuts_32 : decode cL_cuts 32 = .ok (.aload_n 3, 1) := by decide +kernel
theorem dL_cuts_33 : decode cL_cuts 33 = .ok (.iload 6, 2) := by decide +kernel
theorem dL_cuts_35 : decode cL_cuts 35 = .ok (.iload 7, 2) := by decide +kernel
theorem dL_cuts_37 : decode cL_cuts 37 = .ok (.bipush 31, 2) := by decide +kernel
theorem dL_cuts_39 : decode cL_cuts 39 = .ok (.iand, 1) := by decide +kernel
theorem dL_cuts_40 : decode cL_cuts 40 = .ok (.iastore, 1) := by decide +kernel
theorem dL_cuts_41 : decode cL_cuts 41 = .ok (.aload 4, 2) := by decide +kernel
theorem dL_cuts_43 : decode cL_cuts 43 = .ok (.iload 7, 2) := by decide +kernel
theorem dL_cuts_45 : decode cL_cuts 45 = .ok (.bipush 31, 2) := by decide +kernel
theorem dL_cuts_47 : decode cL_cuts 47 = .ok (.iand, 1) := by decide +kernel
theorem dL_cuts_48 : decode cL_cuts 48 = .ok (.iload 7, 2) := by decide +kernel
theorem dL_cuts_50 : decode cL_cuts 50 = .ok (.iconst 5, 1) := by decide +kernel
theorem dL_cuts_51 : decode cL_cuts 51 = .ok (.ishr, 1) := by decide +kernel
theorem dL_cuts_52 : decode cL_cuts 52 = .ok (.iastore, 1) := by decide +kernel
theorem dL_cuts_53 : decode cL_cuts 53 = .ok (.iinc 6 1, 3) := by decide +kernel
theorem dL_cuts_56 : decode cL_cuts 56 = .ok (.goto (-46), 3) := by decide +kernel
theorem dL_cuts_59 : decode cL_cuts 59 = .ok (.iconst 0, 1) := by decide +kernel
theorem dL_cuts_60 : decode cL_cuts 60 = .ok (.istore 6, 2) := by decide +kernel
theorem dL_cuts_62 : decode cL_cuts 62 = .ok (.iload 6, 2) := by decide +kernel
theorem dL_cuts_64 : decode cL_cuts 64 = .ok (.bipush 12, 2) := by decide +kernel
theorem dL_cuts_66 : decode cL_cuts 66 = .ok (.if_icmp .ge 45, 3) := by decide +kernel
theorem dL_cuts_69 : decode cL_cuts 69 = .ok (.aload 5, 2) := by decide +kernel
theorem dL_cuts_71 : decode cL_cuts 71 = .ok (.iload 6, 2) := by decide +kernel
theorem dL_cuts_73 : decode cL_cuts 73 = .ok (.aload_n 2, 1) := by decide +kernel
theorem dL_cuts_74 : decode cL_cuts 74 = .ok (.bipush 10, 2) := by decide +kernel
theorem dL_cuts_76 : decode cL_cuts 76 = .ok (.aload_n 1, 1) := by decide +kernel
theorem dL_cuts_77 : decode cL_cuts 77 = .ok (.iconst 5, 1) := by decide +kernel
theorem dL_cuts_78 : decode cL_cuts 78 = .ok (.iaload, 1) := by decide +kernel
theorem dL_cuts_79 : decode cL_cuts 79 = .ok (.imul, 1) := by decide +kernel
theorem dL_cuts_80 : decode cL_cuts 80 = .ok (.bipush 8, 2) := by decide +kernel
theorem dL_cuts_82 : decode cL_cuts 82 = .ok (.iadd, 1) := by decide +kernel
theorem dL_cuts_83 : decode cL_cuts 83 = .ok (.iload 6, 2) := by decide +kernel
theorem dL_cuts_85 : decode cL_cuts 85 = .ok (.bipush 6, 2) := by decide +kernel
theorem dL_cuts_87 : decode cL_cuts 87 = .ok (.idiv, 1) := by decide +kernel
theorem dL_cuts_88 : decode cL_cuts 88 = .ok (.iadd, 1) := by decide +kernel
theorem dL_cuts_89 : decode cL_cuts 89 = .ok (.iaload, 1) := by decide +kernel
theorem dL_cuts_90 : decode cL_cuts 90 = .ok (.iconst 5, 1) := by decide +kernel
theorem dL_cuts_91 : decode cL_cuts 91 = .ok (.iload 6, 2) := by decide +kernel
theorem dL_cuts_93 : decode cL_cuts 93 = .ok (.bipush 6, 2) := by decide +kernel
theorem dL_cuts_95 : decode cL_cuts 95 = .ok (.irem, 1) := by decide +kernel
theorem dL_cuts_96 : decode cL_cuts 96 = .ok (.imul, 1) := by decide +kernel
theorem dL_cuts_97 : decode cL_cuts 97 = .ok (.ishr, 1) := by decide +kernel
theorem dL_cuts_98 : decode cL_cuts 98 = .ok (.bipush 31, 2) := by decide +kernel
theorem dL_cuts_100 : decode cL_cuts 100 = .ok (.iand, 1) := by decide +kernel
theorem dL_cuts_101 : decode cL_cuts 101 = .ok (.bipush 9, 2) := by decide +kernel
theorem dL_cuts_103 : decode cL_cuts 103 = .ok (.isub, 1) := by decide +kernel
theorem dL_cuts_104 : decode cL_cuts 104 = .ok (.iastore, 1) := by decide +kernel
theorem dL_cuts_105 : decode cL_cuts 105 = .ok (.iinc 6 1, 3) := by decide +kernel
theorem dL_cuts_108 : decode cL_cuts 108 = .ok (.goto (-46), 3) := by decide +kernel
theorem dL_cuts_111 : decode cL_cuts 111 = .ok (.aload_n 1, 1) := by decide +kernel
theorem dL_cuts_112 : decode cL_cuts 112 = .ok (.bipush 6, 2) := by decide +kernel
theorem dL_cuts_114 : decode cL_cuts 114 = .ok (.iconst 1, 1) := by decide +kernel
theorem dL_cuts_115 : decode cL_cuts 115 = .ok (.iastore, 1) := by decide +kernel
theorem dL_cuts_116 : decode cL_cuts 116 = .ok (.aload_n 1, 1) := by decide +kernel
theorem dL_cuts_117 : decode cL_cuts 117 = .ok (.bipush 7, 2) := by decide +kernel
theorem dL_cuts_119 : decode cL_cuts 119 = .ok (.bipush 24, 2) := by decide +kernel
theorem dL_cuts_121 : decode cL_cuts 121 = .ok (.iastore, 1) := by decide +kernel
theorem dL_cuts_122 : decode cL_cuts 122 = .ok (.aload_n 1, 1) := by decide +kernel
theorem dL_cuts_123 : decode cL_cuts 123 = .ok (.bipush 11, 2) := by decide +kernel
theorem dL_cuts_125 : decode cL_cuts 125 = .ok (.iconst 0, 1) := by decide +kernel
theorem dL_cuts_126 : decode cL_cuts 126 = .ok (.iastore, 1) := by decide +kernel
theorem dL_cuts_127 : decode cL_cuts 127 = .ok (.return_, 1) := by decide +kernel
theorem dL_shuffles_0 : decode cL_shuffles 0 = .ok (.bipush 24, 2) := by decide +kernel
theorem dL_shuffles_2 : decode cL_shuffles 2 = .ok (.newarray .int, 2) := by decide +kernel
theorem dL_shuffles_4 : decode cL_shuffles 4 = .ok (.astore_n 3, 1) := by decide +kernel
theorem dL_shuffles_5 : decode cL_shuffles 5 = .ok (.iconst 0, 1) := by decide +kernel
theorem dL_shuffles_6 : decode cL_shuffles 6 = .ok (.istore 4, 2) := by decide +kernel
theorem dL_shuffles_8 : decode cL_shuffles 8 = .ok (.iload_n 0, 1) := by decide +kernel
theorem dL_shuffles_9 : decode cL_shuffles 9 = .ok (.istore 5, 2) := by decide +kernel
theorem dL_shuffles_11 : decode cL_shuffles 11 = .ok (.iconst 0, 1) := by decide +kernel
theorem dL_shuffles_12 : decode cL_shuffles 12 = .ok (.istore 6, 2) := by decide +kernel
theorem dL_shuffles_14 : decode cL_shuffles 14 = .ok (.iload 6, 2) := by decide +kernel
theorem dL_shuffles_16 : decode cL_shuffles 16 = .ok (.aload_n 1, 1) := by decide +kernel
theorem dL_shuffles_17 : decode cL_shuffles 17 = .ok (.bipush 7, 2) := by decide +kernel
theorem dL_shuffles_19 : decode cL_shuffles 19 = .ok (.iaload, 1) := by decide +kernel
theorem dL_shuffles_20 : decode cL_shuffles 20 = .ok (.if_icmp .ge 90, 3) := by decide +kernel
theorem dL_shuffles_23 : decode cL_shuffles 23 = .ok (.iload 5, 2) := by decide +kernel
theorem dL_shuffles_25 : decode cL_shuffles 25 = .ok (.aload_n 1, 1) := by decide +kernel
theorem dL_shuffles_26 : decode cL_shuffles 26 = .ok (.bipush 7, 2) := by decide +kernel
theorem dL_shuffles_28 : decode cL_shuffles 28 = .ok (.iaload, 1) := by decide +kernel
theorem dL_shuffles_29 : decode cL_shuffles 29 = .ok (.if_icmp .eq 18, 3) := by decide +kernel
theorem dL_shuffles_32 : decode cL_shuffles 32 = .ok (.iload 4, 2) := by decide +kernel
theorem dL_shuffles_34 : decode cL_shuffles 34 = .ok (.iload_n 0, 1) := by decide +kernel
theorem dL_shuffles_35 : decode cL_shuffles 35 = .ok (.if_icmp .ge 16, 3) := by decide +kernel
theorem dL_shuffles_38 : decode cL_shuffles 38 = .ok (.iload 4, 2) := by decide +kernel
theorem dL_shuffles_40 : decode cL_shuffles 40 = .ok (.iload 5, 2) := by decide +kernel
theorem dL_shuffles_42 : decode cL_shuffles 42 = .ok (.iload_n 0, 1) := by decide +kernel
theorem dL_shuffles_43 : decode cL_shuffles 43 = .ok (.isub, 1) := by decide +kernel
theorem dL_shuffles_44 : decode cL_shuffles 44 = .ok (.if_icmp .gt 7, 3) := by decide +kernel
theorem dL_shuffles_47 : decode cL_shuffles 47 = .ok (.iconst 1, 1) := by decide +kernel
theorem dL_shuffles_48 : decode cL_shuffles 48 = .ok (.goto 4, 3) := by decide +kernel
theorem dL_shuffles_51 : decode cL_shuffles 51 = .ok (.iconst 0, 1) := by decide +kernel
theorem dL_shuffles_52 : decode cL_shuffles 52 = .ok (.istore 7, 2) := by decide +kernel
theorem dL_shuffles_54 : decode cL_shuffles 54 = .ok (.aload_n 3, 1) := by decide +kernel
theorem dL_shuffles_55 : decode cL_shuffles 55 = .ok (.iload 6, 2) := by decide +kernel
theorem dL_shuffles_57 : decode cL_shuffles 57 = .ok (.iload 7, 2) := by decide +kernel
theorem dL_shuffles_59 : decode cL_shuffles 59 = .ok (.ifCond .eq 10, 3) := by decide +kernel
theorem dL_shuffles_62 : decode cL_shuffles 62 = .ok (.aload_n 2, 1) := by decide +kernel
theorem dL_shuffles_63 : decode cL_shuffles 63 = .ok (.iload 4, 2) := by decide +kernel
theorem dL_shuffles_65 : decode cL_shuffles 65 = .ok (.iaload, 1) := by decide +kernel
theorem dL_shuffles_66 : decode cL_shuffles 66 = .ok (.goto 7, 3) := by decide +kernel
theorem dL_shuffles_69 : decode cL_shuffles 69 = .ok (.aload_n 2, 1) := by decide +kernel
theorem dL_shuffles_70 : decode cL_shuffles 70 = .ok (.iload 5, 2) := by decide +kernel
theorem dL_shuffles_72 : decode cL_shuffles 72 = .ok (.iaload, 1) := by decide +kernel
theorem dL_shuffles_73 : decode cL_shuffles 73 = .ok (.iastore, 1) := by decide +kernel
theorem dL_shuffles_74 : decode cL_shuffles 74 = .ok (.iload 4, 2) := by decide +kernel
theorem dL_shuffles_76 : decode cL_shuffles 76 = .ok (.iload 7, 2) := by decide +kernel
theorem dL_shuffles_78 : decode cL_shuffles 78 = .ok (.ifCond .eq 7, 3) := by decide +kernel
theorem dL_shuffles_81 : decode cL_shuffles 81 = .ok (.iconst 1, 1) := by decide +kernel
theorem dL_shuffles_82 : decode cL_shuffles 82 = .ok (.goto 4, 3) := by decide +kernel
theorem dL_shuffles_85 : decode cL_shuffles 85 = .ok (.iconst 0, 1) := by decide +kernel
theorem dL_shuffles_86 : decode cL_shuffles 86 = .ok (.iadd, 1) := by decide +kernel
theorem dL_shuffles_87 : decode cL_shuffles 87 = .ok (.istore 4, 2) := by decide +kernel
theorem dL_shuffles_89 : decode cL_shuffles 89 = .ok (.iload 5, 2) := by decide +kernel
theorem dL_shuffles_91 : decode cL_shuffles 91 = .ok (.iload 7, 2) := by decide +kernel
theorem dL_shuffles_93 : decode cL_shuffles 93 = .ok (.ifCond .eq 7, 3) := by decide +kernel
theorem dL_shuffles_96 : decode cL_shuffles 96 = .ok (.iconst 0, 1) := by decide +kernel
theorem dL_shuffles_97 : decode cL_shuffles 97 = .ok (.goto 4, 3) := by decide +kernel
theorem dL_shuffles_100 : decode cL_shuffles 100 = .ok (.iconst 1, 1) := by decide +kernel
theorem dL_shuffles_101 : decode cL_shuffles 101 = .ok (.iadd, 1) := by decide +kernel
theorem dL_shuffles_102 : decode cL_shuffles 102 = .ok (.istore 5, 2) := by decide +kernel
theorem dL_shuffles_104 : decode cL_shuffles 104 = .ok (.iinc 6 1, 3) := by decide +kernel
theorem dL_shuffles_107 : decode cL_shuffles 107 = .ok (.goto (-93), 3) := by decide +kernel
theorem dL_shuffles_110 : decode cL_shuffles 110 = .ok (.iconst 0, 1) := by decide +kernel
theorem dL_shuffles_111 : decode cL_shuffles 111 = .ok (.istore 6, 2) := by decide +kernel
theorem dL_shuffles_113 : decode cL_shuffles 113 = .ok (.iconst 0, 1) := by decide +kernel
theorem dL_shuffles_114 : decode cL_shuffles 114 = .ok (.istore 7, 2) := by decide +kernel
theorem dL_shuffles_116 : decode cL_shuffles 116 = .ok (.iload 7, 2) := by decide +kernel
theorem dL_shuffles_118 : decode cL_shuffles 118 = .ok (.aload_n 1, 1) := by decide +kernel
theorem dL_shuffles_119 : decode cL_shuffles 119 = .ok (.bipush 7, 2) := by decide +kernel
theorem dL_shuffles_121 : decode cL_shuffles 121 = .ok (.iaload, 1) := by decide +kernel
theorem dL_shuffles_122 : decode cL_shuffles 122 = .ok (.if_icmp .ge 38, 3) := by decide +kernel
theorem dL_shuffles_125 : decode cL_shuffles 125 = .ok (.iload 6, 2) := by decide +kernel
theorem dL_shuffles_127 : decode cL_shuffles 127 = .ok (.aload_n 2, 1) := by decide +kernel
theorem dL_shuffles_128 : decode cL_shuffles 128 = .ok (.iload 7, 2) := by decide +kernel
theorem dL_shuffles_130 : decode cL_shuffles 130 = .ok (.iaload, 1) := by decide +kernel
theorem dL_shuffles_131 : decode cL_shuffles 131 = .ok (.aload_n 3, 1) := by decide +kernel
theorem dL_shuffles_132 : decode cL_shuffles 132 = .ok (.iload 7, 2) := by decide +kernel
theorem dL_shuffles_134 : decode cL_shuffles 134 = .ok (.iaload, 1) := by decide +kernel
theorem dL_shuffles_135 : decode cL_shuffles 135 = .ok (.if_icmp .ne 7, 3) := by decide +kernel
theorem dL_shuffles_138 : decode cL_shuffles 138 = .ok (.iconst 0, 1) := by decide +kernel
theorem dL_shuffles_139 : decode cL_shuffles 139 = .ok (.goto 4, 3) := by decide +kernel
theorem dL_shuffles_142 : decode cL_shuffles 142 = .ok (.iconst 1, 1) := by decide +kernel
theorem dL_shuffles_143 : decode cL_shuffles 143 = .ok (.iadd, 1) := by decide +kernel
theorem dL_shuffles_144 : decode cL_shuffles 144 = .ok (.istore 6, 2) := by decide +kernel
theorem dL_shuffles_146 : decode cL_shuffles 146 = .ok (.aload_n 2, 1) := by decide +kernel
theorem dL_shuffles_147 : decode cL_shuffles 147 = .ok (.iload 7, 2) := by decide +kernel
theorem dL_shuffles_149 : decode cL_shuffles 149 = .ok (.aload_n 3, 1) := by decide +kernel
theorem dL_shuffles_150 : decode cL_shuffles 150 = .ok (.iload 7, 2) := by decide +kernel
theorem dL_shuffles_152 : decode cL_shuffles 152 = .ok (.iaload, 1) := by decide +kernel
theorem dL_shuffles_153 : decode cL_shuffles 153 = .ok (.iastore, 1) := by decide +kernel
theorem dL_shuffles_154 : decode cL_shuffles 154 = .ok (.iinc 7 1, 3) := by decide +kernel
theorem dL_shuffles_157 : decode cL_shuffles 157 = .ok (.goto (-41), 3) := by decide +kernel
theorem dL_shuffles_160 : decode cL_shuffles 160 = .ok (.iload 6, 2) := by decide +kernel
theorem dL_shuffles_162 : decode cL_shuffles 162 = .ok (.ireturn, 1) := by decide +kernel
theorem dL_turns_0 : decode cL_turns 0 = .ok (.iconst 0, 1) := by decide +kernel
theorem dL_turns_1 : decode cL_turns 1 = .ok (.istore_n 3, 1) := by decide +kernel
theorem dL_turns_2 : decode cL_turns 2 = .ok (.iload_n 3, 1) := by decide +kernel
theorem dL_turns_3 : decode cL_turns 3 = .ok (.iload_n 0, 1) := by decide +kernel
theorem dL_turns_4 : decode cL_turns 4 = .ok (.if_icmp .ge 54, 3) := by decide +kernel
theorem dL_turns_7 : decode cL_turns 7 = .ok (.aload_n 2, 1) := by decide +kernel
theorem dL_turns_8 : decode cL_turns 8 = .ok (.iconst 0, 1) := by decide +kernel
theorem dL_turns_9 : decode cL_turns 9 = .ok (.iaload, 1) := by decide +kernel
theorem dL_turns_10 : decode cL_turns 10 = .ok (.istore 4, 2) := by decide +kernel
theorem dL_turns_12 : decode cL_turns 12 = .ok (.iconst 0, 1) := by decide +kernel
theorem dL_turns_13 : decode cL_turns 13 = .ok (.istore 5, 2) := by decide +kernel
theorem dL_turns_15 : decode cL_turns 15 = .ok (.iload 5, 2) := by decide +kernel
theorem dL_turns_17 : decode cL_turns 17 = .ok (.iconst 1, 1) := by decide +kernel
theorem dL_turns_18 : decode cL_turns 18 = .ok (.iadd, 1) := by decide +kernel
theorem dL_turns_19 : decode cL_turns 19 = .ok (.aload_n 1, 1) := by decide +kernel
theorem dL_turns_20 : decode cL_turns 20 = .ok (.bipush 7, 2) := by decide +kernel
theorem dL_turns_22 : decode cL_turns 22 = .ok (.iaload, 1) := by decide +kernel
theorem dL_turns_23 : decode cL_turns 23 = .ok (.if_icmp .ge 19, 3) := by decide +kernel
theorem dL_turns_26 : decode cL_turns 26 = .ok (.aload_n 2, 1) := by decide +kernel
theorem dL_turns_27 : decode cL_turns 27 = .ok (.iload 5, 2) := by decide +kernel
theorem dL_turns_29 : decode cL_turns 29 = .ok (.aload_n 2, 1) := by decide +kernel
theorem dL_turns_30 : decode cL_turns 30 = .ok (.iload 5, 2) := by decide +kernel
theorem dL_turns_32 : decode cL_turns 32 = .ok (.iconst 1, 1) := by decide +kernel
theorem dL_turns_33 : decode cL_turns 33 = .ok (.iadd, 1) := by decide +kernel
theorem dL_turns_34 : decode cL_turns 34 = .ok (.iaload, 1) := by decide +kernel
theorem dL_turns_35 : decode cL_turns 35 = .ok (.iastore, 1) := by decide +kernel
theorem dL_turns_36 : decode cL_turns 36 = .ok (.iinc 5 1, 3) := by decide +kernel
theorem dL_turns_39 : decode cL_turns 39 = .ok (.goto (-24), 3) := by decide +kernel
theorem dL_turns_42 : decode cL_turns 42 = .ok (.aload_n 2, 1) := by decide +kernel
theorem dL_turns_43 : decode cL_turns 43 = .ok (.aload_n 1, 1) := by decide +kernel
theorem dL_turns_44 : decode cL_turns 44 = .ok (.bipush 7, 2) := by decide +kernel
theorem dL_turns_46 : decode cL_turns 46 = .ok (.iaload, 1) := by decide +kernel
theorem dL_turns_47 : decode cL_turns 47 = .ok (.iconst 1, 1) := by decide +kernel
theorem dL_turns_48 : decode cL_turns 48 = .ok (.isub, 1) := by decide +kernel
theorem dL_turns_49 : decode cL_turns 49 = .ok (.iload 4, 2) := by decide +kernel
theorem dL_turns_51 : decode cL_turns 51 = .ok (.iastore, 1) := by decide +kernel
theorem dL_turns_52 : decode cL_turns 52 = .ok (.iinc 3 1, 3) := by decide +kernel
theorem dL_turns_55 : decode cL_turns 55 = .ok (.goto (-53), 3) := by decide +kernel
theorem dL_turns_58 : decode cL_turns 58 = .ok (.return_, 1) := by decide +kernel
theorem dL_alike_0 : decode cL_alike 0 = .ok (.iconst 0, 1) := by decide +kernel
theorem dL_alike_1 : decode cL_alike 1 = .ok (.istore_n 3, 1) := by decide +kernel
theorem dL_alike_2 : decode cL_alike 2 = .ok (.iconst (-1), 1) := by decide +kernel
theorem dL_alike_3 : decode cL_alike 3 = .ok (.istore 4, 2) := by decide +kernel
theorem dL_alike_5 : decode cL_alike 5 = .ok (.iconst 0, 1) := by decide +kernel
theorem dL_alike_6 : decode cL_alike 6 = .ok (.istore 5, 2) := by decide +kernel
theorem dL_alike_8 : decode cL_alike 8 = .ok (.iload 5, 2) := by decide +kernel
theorem dL_alike_10 : decode cL_alike 10 = .ok (.bipush 24, 2) := by decide +kernel
theorem dL_alike_12 : decode cL_alike 12 = .ok (.if_icmp .ge 68, 3) := by decide +kernel
theorem dL_alike_15 : decode cL_alike 15 = .ok (.aload_n 1, 1) := by decide +kernel
theorem dL_alike_16 : decode cL_alike 16 = .ok (.bipush 11, 2) := by decide +kernel
theorem dL_alike_18 : decode cL_alike 18 = .ok (.iaload, 1) := by decide +kernel
theorem dL_alike_19 : decode cL_alike 19 = .ok (.iload 5, 2) := by decide +kernel
theorem dL_alike_21 : decode cL_alike 21 = .ok (.ishr, 1) := by decide +kernel
theorem dL_alike_22 : decode cL_alike 22 = .ok (.iconst 1, 1) := by decide +kernel
theorem dL_alike_23 : decode cL_alike 23 = .ok (.iand, 1) := by decide +kernel
theorem dL_alike_24 : decode cL_alike 24 = .ok (.ifCond .ne 15, 3) := by decide +kernel
theorem dL_alike_27 : decode cL_alike 27 = .ok (.aload_n 2, 1) := by decide +kernel
theorem dL_alike_28 : decode cL_alike 28 = .ok (.iload 5, 2) := by decide +kernel
theorem dL_alike_30 : decode cL_alike 30 = .ok (.iaload, 1) := by decide +kernel
theorem dL_alike_31 : decode cL_alike 31 = .ok (.iload_n 0, 1) := by decide +kernel
theorem dL_alike_32 : decode cL_alike 32 = .ok (.if_icmp .ne 7, 3) := by decide +kernel
theorem dL_alike_35 : decode cL_alike 35 = .ok (.iconst 1, 1) := by decide +kernel
theorem dL_alike_36 : decode cL_alike 36 = .ok (.goto 4, 3) := by decide +kernel
theorem dL_alike_39 : decode cL_alike 39 = .ok (.iconst 0, 1) := by decide +kernel
theorem dL_alike_40 : decode cL_alike 40 = .ok (.istore 6, 2) := by decide +kernel
theorem dL_alike_42 : decode cL_alike 42 = .ok (.iload_n 3, 1) := by decide +kernel
theorem dL_alike_43 : decode cL_alike 43 = .ok (.iload 6, 2) := by decide +kernel
theorem dL_alike_45 : decode cL_alike 45 = .ok (.ifCond .eq 7, 3) := by decide +kernel
theorem dL_alike_48 : decode cL_alike 48 = .ok (.iconst 1, 1) := by decide +kernel
theorem dL_alike_49 : decode cL_alike 49 = .ok (.goto 4, 3) := by decide +kernel
theorem dL_alike_52 : decode cL_alike 52 = .ok (.iconst 0, 1) := by decide +kernel
theorem dL_alike_53 : decode cL_alike 53 = .ok (.iadd, 1) := by decide +kernel
theorem dL_alike_54 : decode cL_alike 54 = .ok (.istore_n 3, 1) := by decide +kernel
theorem dL_alike_55 : decode cL_alike 55 = .ok (.iload 6, 2) := by decide +kernel
theorem dL_alike_57 : decode cL_alike 57 = .ok (.ifCond .eq 13, 3) := by decide +kernel
theorem dL_alike_60 : decode cL_alike 60 = .ok (.iload 4, 2) := by decide +kernel
theorem dL_alike_62 : decode cL_alike 62 = .ok (.ifCond .ge 8, 3) := by decide +kernel
theorem dL_alike_65 : decode cL_alike 65 = .ok (.iload 5, 2) := by decide +kernel
theorem dL_alike_67 : decode cL_alike 67 = .ok (.goto 5, 3) := by decide +kernel
theorem dL_alike_70 : decode cL_alike 70 = .ok (.iload 4, 2) := by decide +kernel
theorem dL_alike_72 : decode cL_alike 72 = .ok (.istore 4, 2) := by decide +kernel
theorem dL_alike_74 : decode cL_alike 74 = .ok (.iinc 5 1, 3) := by decide +kernel
theorem dL_alike_77 : decode cL_alike 77 = .ok (.goto (-69), 3) := by decide +kernel
theorem dL_alike_80 : decode cL_alike 80 = .ok (.iload_n 3, 1) := by decide +kernel
theorem dL_alike_81 : decode cL_alike 81 = .ok (.bipush 100, 2) := by decide +kernel
theorem dL_alike_83 : decode cL_alike 83 = .ok (.iload 4, 2) := by decide +kernel
theorem dL_alike_85 : decode cL_alike 85 = .ok (.imul, 1) := by decide +kernel
theorem dL_alike_86 : decode cL_alike 86 = .ok (.iadd, 1) := by decide +kernel
theorem dL_alike_87 : decode cL_alike 87 = .ok (.ireturn, 1) := by decide +kernel
theorem dL_known_0 : decode cL_known 0 = .ok (.iconst 0, 1) := by decide +kernel
theorem dL_known_1 : decode cL_known 1 = .ok (.istore_n 3, 1) := by decide +kernel
theorem dL_known_2 : decode cL_known 2 = .ok (.iconst 0, 1) := by decide +kernel
theorem dL_known_3 : decode cL_known 3 = .ok (.istore 4, 2) := by decide +kernel
theorem dL_known_5 : decode cL_known 5 = .ok (.iload 4, 2) := by decide +kernel
theorem dL_known_7 : decode cL_known 7 = .ok (.aload_n 0, 1) := by decide +kernel
theorem dL_known_8 : decode cL_known 8 = .ok (.bipush 7, 2) := by decide +kernel
theorem dL_known_10 : decode cL_known 10 = .ok (.iaload, 1) := by decide +kernel
theorem dL_known_11 : decode cL_known 11 = .ok (.if_icmp .ge 35, 3) := by decide +kernel
theorem dL_known_14 : decode cL_known 14 = .ok (.iload_n 3, 1) := by decide +kernel
theorem dL_known_15 : decode cL_known 15 = .ok (.aload_n 2, 1) := by decide +kernel
theorem dL_known_16 : decode cL_known 16 = .ok (.aload_n 1, 1) := by decide +kernel
theorem dL_known_17 : decode cL_known 17 = .ok (.iload 4, 2) := by decide +kernel
theorem dL_known_19 : decode cL_known 19 = .ok (.iaload, 1) := by decide +kernel
theorem dL_known_20 : decode cL_known 20 = .ok (.iaload, 1) := by decide +kernel
theorem dL_known_21 : decode cL_known 21 = .ok (.aload_n 0, 1) := by decide +kernel
theorem dL_known_22 : decode cL_known 22 = .ok (.aload_n 2, 1) := by decide +kernel
theorem dL_known_23 : decode cL_known 23 = .ok (.invokestatic 20, 3) := by decide +kernel
theorem dL_known_26 : decode cL_known 26 = .ok (.bipush 100, 2) := by decide +kernel
theorem dL_known_28 : decode cL_known 28 = .ok (.irem, 1) := by decide +kernel
theorem dL_known_29 : decode cL_known 29 = .ok (.iconst 1, 1) := by decide +kernel
theorem dL_known_30 : decode cL_known 30 = .ok (.if_icmp .ne 7, 3) := by decide +kernel
theorem dL_known_33 : decode cL_known 33 = .ok (.iconst 1, 1) := by decide +kernel
theorem dL_known_34 : decode cL_known 34 = .ok (.goto 4, 3) := by decide +kernel
theorem dL_known_37 : decode cL_known 37 = .ok (.iconst 0, 1) := by decide +kernel
theorem dL_known_38 : decode cL_known 38 = .ok (.iadd, 1) := by decide +kernel
theorem dL_known_39 : decode cL_known 39 = .ok (.istore_n 3, 1) := by decide +kernel
theorem dL_known_40 : decode cL_known 40 = .ok (.iinc 4 1, 3) := by decide +kernel
theorem dL_known_43 : decode cL_known 43 = .ok (.goto (-38), 3) := by decide +kernel
theorem dL_known_46 : decode cL_known 46 = .ok (.iload_n 3, 1) := by decide +kernel
theorem dL_known_47 : decode cL_known 47 = .ok (.ireturn, 1) := by decide +kernel
theorem dL_leaning_0 : decode cL_leaning 0 = .ok (.iconst 0, 1) := by decide +kernel
theorem dL_leaning_1 : decode cL_leaning 1 = .ok (.istore_n 2, 1) := by decide +kernel
theorem dL_leaning_2 : decode cL_leaning 2 = .ok (.iconst 0, 1) := by decide +kernel
theorem dL_leaning_3 : decode cL_leaning 3 = .ok (.istore_n 3, 1) := by decide +kernel
theorem dL_leaning_4 : decode cL_leaning 4 = .ok (.iload_n 3, 1) := by decide +kernel
theorem dL_leaning_5 : decode cL_leaning 5 = .ok (.bipush 12, 2) := by decide +kernel
theorem dL_leaning_7 : decode cL_leaning 7 = .ok (.if_icmp .ge 32, 3) := by decide +kernel
theorem dL_leaning_10 : decode cL_leaning 10 = .ok (.iload_n 2, 1) := by decide +kernel
theorem dL_leaning_11 : decode cL_leaning 11 = .ok (.aload_n 1, 1) := by decide +kernel
theorem dL_leaning_12 : decode cL_leaning 12 = .ok (.iload_n 3, 1) := by decide +kernel
theorem dL_leaning_13 : decode cL_leaning 13 = .ok (.iaload, 1) := by decide +kernel
theorem dL_leaning_14 : decode cL_leaning 14 = .ok (.iload_n 0, 1) := by decide +kernel
theorem dL_leaning_15 : decode cL_leaning 15 = .ok (.if_icmp .gt 11, 3) := by decide +kernel
theorem dL_leaning_18 : decode cL_leaning 18 = .ok (.aload_n 1, 1) := by decide +kernel
theorem dL_leaning_19 : decode cL_leaning 19 = .ok (.iload_n 3, 1) := by decide +kernel
theorem dL_leaning_20 : decode cL_leaning 20 = .ok (.iaload, 1) := by decide +kernel
theorem dL_leaning_21 : decode cL_leaning 21 = .ok (.ineg, 1) := by decide +kernel
theorem dL_leaning_22 : decode cL_leaning 22 = .ok (.iload_n 0, 1) := by decide +kernel
theorem dL_leaning_23 : decode cL_leaning 23 = .ok (.if_icmp .le 7, 3) := by decide +kernel
theorem dL_leaning_26 : decode cL_leaning 26 = .ok (.iconst 1, 1) := by decide +kernel
theorem dL_leaning_27 : decode cL_leaning 27 = .ok (.goto 4, 3) := by decide +kernel
theorem dL_leaning_30 : decode cL_leaning 30 = .ok (.iconst 0, 1) := by decide +kernel
theorem dL_leaning_31 : decode cL_leaning 31 = .ok (.iadd, 1) := by decide +kernel
theorem dL_leaning_32 : decode cL_leaning 32 = .ok (.istore_n 2, 1) := by decide +kernel
theorem dL_leaning_33 : decode cL_leaning 33 = .ok (.iinc 3 1, 3) := by decide +kernel
theorem dL_leaning_36 : decode cL_leaning 36 = .ok (.goto (-32), 3) := by decide +kernel
theorem dL_leaning_39 : decode cL_leaning 39 = .ok (.iload_n 2, 1) := by decide +kernel
theorem dL_leaning_40 : decode cL_leaning 40 = .ok (.ireturn, 1) := by decide +kernel
theorem dL_why_0 : decode cL_why 0 = .ok (.aload_n 0, 1) := by decide +kernel
theorem dL_why_1 : decode cL_why 1 = .ok (.bipush 6, 2) := by decide +kernel
theorem dL_why_3 : decode cL_why 3 = .ok (.iaload, 1) := by decide +kernel
theorem dL_why_4 : decode cL_why 4 = .ok (.ifCond .ne 8, 3) := by decide +kernel
theorem dL_why_7 : decode cL_why 7 = .ok (.bipush (-4), 2) := by decide +kernel
theorem dL_why_9 : decode cL_why 9 = .ok (.goto 47, 3) := by decide +kernel
theorem dL_why_12 : decode cL_why 12 = .ok (.aload_n 0, 1) := by decide +kernel
theorem dL_why_13 : decode cL_why 13 = .ok (.bipush 7, 2) := by decide +kernel
theorem dL_why_15 : decode cL_why 15 = .ok (.iaload, 1) := by decide +kernel
theorem dL_why_16 : decode cL_why 16 = .ok (.bipush 24, 2) := by decide +kernel
theorem dL_why_18 : decode cL_why 18 = .ok (.if_icmp .ge 7, 3) := by decide +kernel
theorem dL_why_21 : decode cL_why 21 = .ok (.iconst 1, 1) := by decide +kernel
theorem dL_why_22 : decode cL_why 22 = .ok (.goto 34, 3) := by decide +kernel
theorem dL_why_25 : decode cL_why 25 = .ok (.aload_n 0, 1) := by decide +kernel
theorem dL_why_26 : decode cL_why 26 = .ok (.iconst 1, 1) := by decide +kernel
theorem dL_why_27 : decode cL_why 27 = .ok (.iaload, 1) := by decide +kernel
theorem dL_why_28 : decode cL_why 28 = .ok (.aload_n 3, 1) := by decide +kernel
theorem dL_why_29 : decode cL_why 29 = .ok (.invokestatic 24, 3) := by decide +kernel
theorem dL_why_32 : decode cL_why 32 = .ok (.ifCond .le 7, 3) := by decide +kernel
theorem dL_why_35 : decode cL_why 35 = .ok (.iconst 2, 1) := by decide +kernel
theorem dL_why_36 : decode cL_why 36 = .ok (.goto 20, 3) := by decide +kernel
theorem dL_why_39 : decode cL_why 39 = .ok (.aload_n 0, 1) := by decide +kernel
theorem dL_why_40 : decode cL_why 40 = .ok (.aload_n 1, 1) := by decide +kernel
theorem dL_why_41 : decode cL_why 41 = .ok (.aload_n 2, 1) := by decide +kernel
theorem dL_why_42 : decode cL_why 42 = .ok (.invokestatic 28, 3) := by decide +kernel
theorem dL_why_45 : decode cL_why 45 = .ok (.aload_n 0, 1) := by decide +kernel
theorem dL_why_46 : decode cL_why 46 = .ok (.iconst 2, 1) := by decide +kernel
theorem dL_why_47 : decode cL_why 47 = .ok (.iaload, 1) := by decide +kernel
theorem dL_why_48 : decode cL_why 48 = .ok (.if_icmp .le 7, 3) := by decide +kernel
theorem dL_why_51 : decode cL_why 51 = .ok (.iconst 3, 1) := by decide +kernel
theorem dL_why_52 : decode cL_why 52 = .ok (.goto 4, 3) := by decide +kernel
theorem dL_why_55 : decode cL_why 55 = .ok (.iconst 0, 1) := by decide +kernel
theorem dL_why_56 : decode cL_why 56 = .ok (.ireturn, 1) := by decide +kernel
theorem dL_call_0 : decode cL_call 0 = .ok (.iload_n 1, 1) := by decide +kernel
theorem dL_call_1 : decode cL_call 1 = .ok (.tableswitch 142 0 9 #[55, 62, 80, 91, 98, 113, 119, 125, 131, 137], 55) := by decide +kernel
theorem dL_call_56 : decode cL_call 56 = .ok (.aload_n 0, 1) := by decide +kernel
theorem dL_call_57 : decode cL_call 57 = .ok (.iload_n 2, 1) := by decide +kernel
theorem dL_call_58 : decode cL_call 58 = .ok (.iload_n 3, 1) := by decide +kernel
theorem dL_call_59 : decode cL_call 59 = .ok (.invokevirtual 32, 3) := by decide +kernel
theorem dL_call_62 : decode cL_call 62 = .ok (.ireturn, 1) := by decide +kernel
theorem dL_call_63 : decode cL_call 63 = .ok (.aload_n 0, 1) := by decide +kernel
theorem dL_call_64 : decode cL_call 64 = .ok (.iload_n 2, 1) := by decide +kernel
theorem dL_call_65 : decode cL_call 65 = .ok (.iload_n 3, 1) := by decide +kernel
theorem dL_call_66 : decode cL_call 66 = .ok (.iload 4, 2) := by decide +kernel
theorem dL_call_68 : decode cL_call 68 = .ok (.iconst 1, 1) := by decide +kernel
theorem dL_call_69 : decode cL_call 69 = .ok (.if_icmp .ne 7, 3) := by decide +kernel
theorem dL_call_72 : decode cL_call 72 = .ok (.iconst 1, 1) := by decide +kernel
theorem dL_call_73 : decode cL_call 73 = .ok (.goto 4, 3) := by decide +kernel
theorem dL_call_76 : decode cL_call 76 = .ok (.iconst 0, 1) := by decide +kernel
theorem dL_call_77 : decode cL_call 77 = .ok (.invokevirtual 37, 3) := by decide +kernel
theorem dL_call_80 : decode cL_call 80 = .ok (.ireturn, 1) := by decide +kernel
theorem dL_call_81 : decode cL_call 81 = .ok (.aload_n 0, 1) := by decide +kernel
theorem dL_call_82 : decode cL_call 82 = .ok (.iload_n 2, 1) := by decide +kernel
theorem dL_call_83 : decode cL_call 83 = .ok (.iload 4, 2) := by decide +kernel
theorem dL_call_85 : decode cL_call 85 = .ok (.bipush 9, 2) := by decide +kernel
theorem dL_call_87 : decode cL_call 87 = .ok (.isub, 1) := by decide +kernel
theorem dL_call_88 : decode cL_call 88 = .ok (.invokevirtual 41, 3) := by decide +kernel
theorem dL_call_91 : decode cL_call 91 = .ok (.ireturn, 1) := by decide +kernel
theorem dL_call_92 : decode cL_call 92 = .ok (.aload_n 0, 1) := by decide +kernel
theorem dL_call_93 : decode cL_call 93 = .ok (.iload_n 2, 1) := by decide +kernel
theorem dL_call_94 : decode cL_call 94 = .ok (.iload_n 3, 1) := by decide +kernel
theorem dL_call_95 : decode cL_call 95 = .ok (.invokevirtual 44, 3) := by decide +kernel
theorem dL_call_98 : decode cL_call 98 = .ok (.ireturn, 1) := by decide +kernel
theorem dL_call_99 : decode cL_call 99 = .ok (.aload_n 0, 1) := by decide +kernel
theorem dL_call_100 : decode cL_call 100 = .ok (.iload_n 2, 1) := by decide +kernel
theorem dL_call_101 : decode cL_call 101 = .ok (.iconst 1, 1) := by decide +kernel
theorem dL_call_102 : decode cL_call 102 = .ok (.if_icmp .ne 7, 3) := by decide +kernel
theorem dL_call_105 : decode cL_call 105 = .ok (.iconst 1, 1) := by decide +kernel
theorem dL_call_106 : decode cL_call 106 = .ok (.goto 4, 3) := by decide +kernel
theorem dL_call_109 : decode cL_call 109 = .ok (.iconst 0, 1) := by decide +kernel
theorem dL_call_110 : decode cL_call 110 = .ok (.invokevirtual 47, 3) := by decide +kernel
theorem dL_call_113 : decode cL_call 113 = .ok (.ireturn, 1) := by decide +kernel
theorem dL_call_114 : decode cL_call 114 = .ok (.aload_n 0, 1) := by decide +kernel
theorem dL_call_115 : decode cL_call 115 = .ok (.iload_n 2, 1) := by decide +kernel
theorem dL_call_116 : decode cL_call 116 = .ok (.invokevirtual 51, 3) := by decide +kernel
theorem dL_call_119 : decode cL_call 119 = .ok (.ireturn, 1) := by decide +kernel
theorem dL_call_120 : decode cL_call 120 = .ok (.aload_n 0, 1) := by decide +kernel
theorem dL_call_121 : decode cL_call 121 = .ok (.iload_n 2, 1) := by decide +kernel
theorem dL_call_122 : decode cL_call 122 = .ok (.invokevirtual 55, 3) := by decide +kernel
theorem dL_call_125 : decode cL_call 125 = .ok (.ireturn, 1) := by decide +kernel
theorem dL_call_126 : decode cL_call 126 = .ok (.aload_n 0, 1) := by decide +kernel
theorem dL_call_127 : decode cL_call 127 = .ok (.iload_n 2, 1) := by decide +kernel
theorem dL_call_128 : decode cL_call 128 = .ok (.invokevirtual 58, 3) := by decide +kernel
theorem dL_call_131 : decode cL_call 131 = .ok (.ireturn, 1) := by decide +kernel
theorem dL_call_132 : decode cL_call 132 = .ok (.aload_n 0, 1) := by decide +kernel
theorem dL_call_133 : decode cL_call 133 = .ok (.iload_n 2, 1) := by decide +kernel
theorem dL_call_134 : decode cL_call 134 = .ok (.invokevirtual 61, 3) := by decide +kernel
theorem dL_call_137 : decode cL_call 137 = .ok (.ireturn, 1) := by decide +kernel
theorem dL_call_138 : decode cL_call 138 = .ok (.aload_n 0, 1) := by decide +kernel
theorem dL_call_139 : decode cL_call 139 = .ok (.invokevirtual 64, 3) := by decide +kernel
theorem dL_call_142 : decode cL_call 142 = .ok (.ireturn, 1) := by decide +kernel
theorem dL_call_143 : decode cL_call 143 = .ok (.aload_n 0, 1) := by decide +kernel
theorem dL_call_144 : decode cL_call 144 = .ok (.invokevirtual 68, 3) := by decide +kernel
theorem dL_call_147 : decode cL_call 147 = .ok (.ireturn, 1) := by decide +kernel
theorem dL_ofBlocks_0 : decode cL_ofBlocks 0 = .ok (.iload_n 0, 1) := by decide +kernel
theorem dL_ofBlocks_1 : decode cL_ofBlocks 1 = .ok (.ifCond .ne 38, 3) := by decide +kernel
theorem dL_ofBlocks_4 : decode cL_ofBlocks 4 = .ok (.aload 5, 2) := by decide +kernel
theorem dL_ofBlocks_6 : decode cL_ofBlocks 6 = .ok (.iload_n 1, 1) := by decide +kernel
theorem dL_ofBlocks_7 : decode cL_ofBlocks 7 = .ok (.iaload, 1) := by decide +kernel
theorem dL_ofBlocks_8 : decode cL_ofBlocks 8 = .ok (.istore 8, 2) := by decide +kernel
theorem dL_ofBlocks_10 : decode cL_ofBlocks 10 = .ok (.aload 5, 2) := by decide +kernel
theorem dL_ofBlocks_12 : decode cL_ofBlocks 12 = .ok (.iload_n 1, 1) := by decide +kernel
theorem dL_ofBlocks_13 : decode cL_ofBlocks 13 = .ok (.aload 5, 2) := by decide +kernel
theorem dL_ofBlocks_15 : decode cL_ofBlocks 15 = .ok (.iload_n 2, 1) := by decide +kernel
theorem dL_ofBlocks_16 : decode cL_ofBlocks 16 = .ok (.iaload, 1) := by decide +kernel
theorem dL_ofBlocks_17 : decode cL_ofBlocks 17 = .ok (.iastore, 1) := by decide +kernel
theorem dL_ofBlocks_18 : decode cL_ofBlocks 18 = .ok (.aload 5, 2) := by decide +kernel
theorem dL_ofBlocks_20 : decode cL_ofBlocks 20 = .ok (.iload_n 2, 1) := by decide +kernel
theorem dL_ofBlocks_21 : decode cL_ofBlocks 21 = .ok (.iload 8, 2) := by decide +kernel
theorem dL_ofBlocks_23 : decode cL_ofBlocks 23 = .ok (.iastore, 1) := by decide +kernel
theorem dL_ofBlocks_24 : decode cL_ofBlocks 24 = .ok (.iload_n 1, 1) := by decide +kernel
theorem dL_ofBlocks_25 : decode cL_ofBlocks 25 = .ok (.iload_n 2, 1) := by decide +kernel
theorem dL_ofBlocks_26 : decode cL_ofBlocks 26 = .ok (.if_icmp .ne 8, 3) := by decide +kernel
theorem dL_ofBlocks_29 : decode cL_ofBlocks 29 = .ok (.bipush (-5), 2) := by decide +kernel
theorem dL_ofBlocks_31 : decode cL_ofBlocks 31 = .ok (.goto 7, 3) := by decide +kernel
theorem dL_ofBlocks_34 : decode cL_ofBlocks 34 = .ok (.aload 5, 2) := by decide +kernel
theorem dL_ofBlocks_36 : decode cL_ofBlocks 36 = .ok (.iload_n 1, 1) := by decide +kernel
theorem dL_ofBlocks_37 : decode cL_ofBlocks 37 = .ok (.iaload, 1) := by decide +kernel
theorem dL_ofBlocks_38 : decode cL_ofBlocks 38 = .ok (.ireturn, 1) := by decide +kernel
theorem dL_ofBlocks_39 : decode cL_ofBlocks 39 = .ok (.iload_n 0, 1) := by decide +kernel
theorem dL_ofBlocks_40 : decode cL_ofBlocks 40 = .ok (.iconst 1, 1) := by decide +kernel
theorem dL_ofBlocks_41 : decode cL_ofBlocks 41 = .ok (.if_icmp .ne 67, 3) := by decide +kernel
theorem dL_ofBlocks_44 : decode cL_ofBlocks 44 = .ok (.aload 6, 2) := by decide +kernel
theorem dL_ofBlocks_46 : decode cL_ofBlocks 46 = .ok (.iload_n 1, 1) := by decide +kernel
theorem dL_ofBlocks_47 : decode cL_ofBlocks 47 = .ok (.iaload, 1) := by decide +kernel
theorem dL_ofBlocks_48 : decode cL_ofBlocks 48 = .ok (.iload_n 2, 1) := by decide +kernel
theorem dL_ofBlocks_49 : decode cL_ofBlocks 49 = .ok (.ishr, 1) := by decide +kernel
theorem dL_ofBlocks_50 : decode cL_ofBlocks 50 = .ok (.iconst 1, 1) := by decide +kernel
theorem dL_ofBlocks_51 : decode cL_ofBlocks 51 = .ok (.iand, 1) := by decide +kernel
theorem dL_ofBlocks_52 : decode cL_ofBlocks 52 = .ok (.iload_n 3, 1) := by decide +kernel
theorem dL_ofBlocks_53 : decode cL_ofBlocks 53 = .ok (.if_icmp .ne 7, 3) := by decide +kernel
theorem dL_ofBlocks_56 : decode cL_ofBlocks 56 = .ok (.iconst 1, 1) := by decide +kernel
theorem dL_ofBlocks_57 : decode cL_ofBlocks 57 = .ok (.goto 4, 3) := by decide +kernel
theorem dL_ofBlocks_60 : decode cL_ofBlocks 60 = .ok (.iconst 0, 1) := by decide +kernel
theorem dL_ofBlocks_61 : decode cL_ofBlocks 61 = .ok (.istore 8, 2) := by decide +kernel
theorem dL_ofBlocks_63 : decode cL_ofBlocks 63 = .ok (.aload 6, 2) := by decide +kernel
theorem dL_ofBlocks_65 : decode cL_ofBlocks 65 = .ok (.iload_n 1, 1) := by decide +kernel
theorem dL_ofBlocks_66 : decode cL_ofBlocks 66 = .ok (.iload_n 3, 1) := by decide +kernel
theorem dL_ofBlocks_67 : decode cL_ofBlocks 67 = .ok (.iconst 1, 1) := by decide +kernel
theorem dL_ofBlocks_68 : decode cL_ofBlocks 68 = .ok (.if_icmp .ne 14, 3) := by decide +kernel
theorem dL_ofBlocks_71 : decode cL_ofBlocks 71 = .ok (.aload 6, 2) := by decide +kernel
theorem dL_ofBlocks_73 : decode cL_ofBlocks 73 = .ok (.iload_n 1, 1) := by decide +kernel
theorem dL_ofBlocks_74 : decode cL_ofBlocks 74 = .ok (.iaload, 1) := by decide +kernel
theorem dL_ofBlocks_75 : decode cL_ofBlocks 75 = .ok (.iconst 1, 1) := by decide +kernel
theorem dL_ofBlocks_76 : decode cL_ofBlocks 76 = .ok (.iload_n 2, 1) := by decide +kernel
theorem dL_ofBlocks_77 : decode cL_ofBlocks 77 = .ok (.ishl, 1) := by decide +kernel
theorem dL_ofBlocks_78 : decode cL_ofBlocks 78 = .ok (.ior, 1) := by decide +kernel
theorem dL_ofBlocks_79 : decode cL_ofBlocks 79 = .ok (.goto 13, 3) := by decide +kernel
theorem dL_ofBlocks_82 : decode cL_ofBlocks 82 = .ok (.aload 6, 2) := by decide +kernel
theorem dL_ofBlocks_84 : decode cL_ofBlocks 84 = .ok (.iload_n 1, 1) := by decide +kernel
theorem dL_ofBlocks_85 : decode cL_ofBlocks 85 = .ok (.iaload, 1) := by decide +kernel
theorem dL_ofBlocks_86 : decode cL_ofBlocks 86 = .ok (.iconst 1, 1) := by decide +kernel
theorem dL_ofBlocks_87 : decode cL_ofBlocks 87 = .ok (.iload_n 2, 1) := by decide +kernel
theorem dL_ofBlocks_88 : decode cL_ofBlocks 88 = .ok (.ishl, 1) := by decide +kernel
theorem dL_ofBlocks_89 : decode cL_ofBlocks 89 = .ok (.iconst (-1), 1) := by decide +kernel
theorem dL_ofBlocks_90 : decode cL_ofBlocks 90 = .ok (.ixor, 1) := by decide +kernel
theorem dL_ofBlocks_91 : decode cL_ofBlocks 91 = .ok (.iand, 1) := by decide +kernel
theorem dL_ofBlocks_92 : decode cL_ofBlocks 92 = .ok (.iastore, 1) := by decide +kernel
theorem dL_ofBlocks_93 : decode cL_ofBlocks 93 = .ok (.iload 8, 2) := by decide +kernel
theorem dL_ofBlocks_95 : decode cL_ofBlocks 95 = .ok (.ifCond .eq 8, 3) := by decide +kernel
theorem dL_ofBlocks_98 : decode cL_ofBlocks 98 = .ok (.bipush (-5), 2) := by decide +kernel
theorem dL_ofBlocks_100 : decode cL_ofBlocks 100 = .ok (.goto 7, 3) := by decide +kernel
theorem dL_ofBlocks_103 : decode cL_ofBlocks 103 = .ok (.aload 6, 2) := by decide +kernel
theorem dL_ofBlocks_105 : decode cL_ofBlocks 105 = .ok (.iload_n 1, 1) := by decide +kernel
theorem dL_ofBlocks_106 : decode cL_ofBlocks 106 = .ok (.iaload, 1) := by decide +kernel
theorem dL_ofBlocks_107 : decode cL_ofBlocks 107 = .ok (.ireturn, 1) := by decide +kernel
theorem dL_ofBlocks_108 : decode cL_ofBlocks 108 = .ok (.iload_n 0, 1) := by decide +kernel
theorem dL_ofBlocks_109 : decode cL_ofBlocks 109 = .ok (.iconst 2, 1) := by decide +kernel
theorem dL_ofBlocks_110 : decode cL_ofBlocks 110 = .ok (.if_icmp .ne 54, 3) := by decide +kernel
theorem dL_ofBlocks_113 : decode cL_ofBlocks 113 = .ok (.iload_n 1, 1) := by decide +kernel
theorem dL_ofBlocks_114 : decode cL_ofBlocks 114 = .ok (.bipush 6, 2) := by decide +kernel
theorem dL_ofBlocks_116 : decode cL_ofBlocks 116 = .ok (.irem, 1) := by decide +kernel
theorem dL_ofBlocks_117 : decode cL_ofBlocks 117 = .ok (.iconst 3, 1) := by decide +kernel
theorem dL_ofBlocks_118 : decode cL_ofBlocks 118 = .ok (.if_icmp .ge 6, 3) := by decide +kernel
theorem dL_ofBlocks_121 : decode cL_ofBlocks 121 = .ok (.bipush (-4), 2) := by decide +kernel
theorem dL_ofBlocks_123 : decode cL_ofBlocks 123 = .ok (.ireturn, 1) := by decide +kernel
theorem dL_ofBlocks_124 : decode cL_ofBlocks 124 = .ok (.aload 7, 2) := by decide +kernel
theorem dL_ofBlocks_126 : decode cL_ofBlocks 126 = .ok (.iload_n 1, 1) := by decide +kernel
theorem dL_ofBlocks_127 : decode cL_ofBlocks 127 = .ok (.invokestatic 71, 3) := by decide +kernel
theorem dL_ofBlocks_130 : decode cL_ofBlocks 130 = .ok (.iaload, 1) := by decide +kernel
theorem dL_ofBlocks_131 : decode cL_ofBlocks 131 = .ok (.istore 8, 2) := by decide +kernel
theorem dL_ofBlocks_133 : decode cL_ofBlocks 133 = .ok (.aload 7, 2) := by decide +kernel
theorem dL_ofBlocks_135 : decode cL_ofBlocks 135 = .ok (.iload_n 1, 1) := by decide +kernel
theorem dL_ofBlocks_136 : decode cL_ofBlocks 136 = .ok (.invokestatic 71, 3) := by decide +kernel
theorem dL_ofBlocks_139 : decode cL_ofBlocks 139 = .ok (.iload_n 3, 1) := by decide +kernel
theorem dL_ofBlocks_140 : decode cL_ofBlocks 140 = .ok (.bipush 9, 2) := by decide +kernel
theorem dL_ofBlocks_142 : decode cL_ofBlocks 142 = .ok (.isub, 1) := by decide +kernel
theorem dL_ofBlocks_143 : decode cL_ofBlocks 143 = .ok (.iastore, 1) := by decide +kernel
theorem dL_ofBlocks_144 : decode cL_ofBlocks 144 = .ok (.iload 8, 2) := by decide +kernel
theorem dL_ofBlocks_146 : decode cL_ofBlocks 146 = .ok (.iload_n 3, 1) := by decide +kernel
theorem dL_ofBlocks_147 : decode cL_ofBlocks 147 = .ok (.bipush 9, 2) := by decide +kernel
theorem dL_ofBlocks_149 : decode cL_ofBlocks 149 = .ok (.isub, 1) := by decide +kernel
theorem dL_ofBlocks_150 : decode cL_ofBlocks 150 = .ok (.if_icmp .ne 8, 3) := by decide +kernel
theorem dL_ofBlocks_153 : decode cL_ofBlocks 153 = .ok (.bipush (-5), 2) := by decide +kernel
theorem dL_ofBlocks_155 : decode cL_ofBlocks 155 = .ok (.goto 8, 3) := by decide +kernel
theorem dL_ofBlocks_158 : decode cL_ofBlocks 158 = .ok (.iload 8, 2) := by decide +kernel
theorem dL_ofBlocks_160 : decode cL_ofBlocks 160 = .ok (.bipush 100, 2) := by decide +kernel
theorem dL_ofBlocks_162 : decode cL_ofBlocks 162 = .ok (.iadd, 1) := by decide +kernel
theorem dL_ofBlocks_163 : decode cL_ofBlocks 163 = .ok (.ireturn, 1) := by decide +kernel
theorem dL_ofBlocks_164 : decode cL_ofBlocks 164 = .ok (.aload 4, 2) := by decide +kernel
theorem dL_ofBlocks_166 : decode cL_ofBlocks 166 = .ok (.iload_n 1, 1) := by decide +kernel
theorem dL_ofBlocks_167 : decode cL_ofBlocks 167 = .ok (.iaload, 1) := by decide +kernel
theorem dL_ofBlocks_168 : decode cL_ofBlocks 168 = .ok (.istore 8, 2) := by decide +kernel
theorem dL_ofBlocks_170 : decode cL_ofBlocks 170 = .ok (.aload 4, 2) := by decide +kernel
theorem dL_ofBlocks_172 : decode cL_ofBlocks 172 = .ok (.iload_n 1, 1) := by decide +kernel
theorem dL_ofBlocks_173 : decode cL_ofBlocks 173 = .ok (.iload_n 2, 1) := by decide +kernel
theorem dL_ofBlocks_174 : decode cL_ofBlocks 174 = .ok (.iastore, 1) := by decide +kernel
theorem dL_ofBlocks_175 : decode cL_ofBlocks 175 = .ok (.iload 8, 2) := by decide +kernel
theorem dL_ofBlocks_177 : decode cL_ofBlocks 177 = .ok (.iload_n 2, 1) := by decide +kernel
theorem dL_ofBlocks_178 : decode cL_ofBlocks 178 = .ok (.if_icmp .ne 8, 3) := by decide +kernel
theorem dL_ofBlocks_181 : decode cL_ofBlocks 181 = .ok (.bipush (-5), 2) := by decide +kernel
theorem dL_ofBlocks_183 : decode cL_ofBlocks 183 = .ok (.goto 5, 3) := by decide +kernel
theorem dL_ofBlocks_186 : decode cL_ofBlocks 186 = .ok (.iload 8, 2) := by decide +kernel
theorem dL_ofBlocks_188 : decode cL_ofBlocks 188 = .ok (.ireturn, 1) := by decide +kernel
theorem dL_ofPack_0 : decode cL_ofPack 0 = .ok (.iload_n 0, 1) := by decide +kernel
theorem dL_ofPack_1 : decode cL_ofPack 1 = .ok (.iconst 5, 1) := by decide +kernel
theorem dL_ofPack_2 : decode cL_ofPack 2 = .ok (.if_icmp .ne 36, 3) := by decide +kernel
theorem dL_ofPack_5 : decode cL_ofPack 5 = .ok (.aload_n 2, 1) := by decide +kernel
theorem dL_ofPack_6 : decode cL_ofPack 6 = .ok (.bipush 6, 2) := by decide +kernel
theorem dL_ofPack_8 : decode cL_ofPack 8 = .ok (.iaload, 1) := by decide +kernel
theorem dL_ofPack_9 : decode cL_ofPack 9 = .ok (.iconst 1, 1) := by decide +kernel
theorem dL_ofPack_10 : decode cL_ofPack 10 = .ok (.if_icmp .eq 9, 3) := by decide +kernel
theorem dL_ofPack_13 : decode cL_ofPack 13 = .ok (.aload_n 2, 1) := by decide +kernel
theorem dL_ofPack_14 : decode cL_ofPack 14 = .ok (.iconst 5, 1) := by decide +kernel
theorem dL_ofPack_15 : decode cL_ofPack 15 = .ok (.iaload, 1) := by decide +kernel
theorem dL_ofPack_16 : decode cL_ofPack 16 = .ok (.ifCond .ne 6, 3) := by decide +kernel
theorem dL_ofPack_19 : decode cL_ofPack 19 = .ok (.bipush (-4), 2) := by decide +kernel
theorem dL_ofPack_21 : decode cL_ofPack 21 = .ok (.ireturn, 1) := by decide +kernel
theorem dL_ofPack_22 : decode cL_ofPack 22 = .ok (.iload_n 1, 1) := by decide +kernel
theorem dL_ofPack_23 : decode cL_ofPack 23 = .ok (.aload_n 2, 1) := by decide +kernel
theorem dL_ofPack_24 : decode cL_ofPack 24 = .ok (.aload_n 3, 1) := by decide +kernel
theorem dL_ofPack_25 : decode cL_ofPack 25 = .ok (.aload 4, 2) := by decide +kernel
theorem dL_ofPack_27 : decode cL_ofPack 27 = .ok (.aload 5, 2) := by decide +kernel
theorem dL_ofPack_29 : decode cL_ofPack 29 = .ok (.aload 6, 2) := by decide +kernel
theorem dL_ofPack_31 : decode cL_ofPack 31 = .ok (.invokestatic 74, 3) := by decide +kernel
theorem dL_ofPack_34 : decode cL_ofPack 34 = .ok (.aload_n 2, 1) := by decide +kernel
theorem dL_ofPack_35 : decode cL_ofPack 35 = .ok (.iconst 5, 1) := by decide +kernel
theorem dL_ofPack_36 : decode cL_ofPack 36 = .ok (.iaload, 1) := by decide +kernel
theorem dL_ofPack_37 : decode cL_ofPack 37 = .ok (.ireturn, 1) := by decide +kernel
theorem dL_ofPack_38 : decode cL_ofPack 38 = .ok (.aload_n 2, 1) := by decide +kernel
theorem dL_ofPack_39 : decode cL_ofPack 39 = .ok (.bipush 6, 2) := by decide +kernel
theorem dL_ofPack_41 : decode cL_ofPack 41 = .ok (.iaload, 1) := by decide +kernel
theorem dL_ofPack_42 : decode cL_ofPack 42 = .ok (.ifCond .ne 6, 3) := by decide +kernel
theorem dL_ofPack_45 : decode cL_ofPack 45 = .ok (.bipush (-4), 2) := by decide +kernel
theorem dL_ofPack_47 : decode cL_ofPack 47 = .ok (.ireturn, 1) := by decide +kernel
theorem dL_ofPack_48 : decode cL_ofPack 48 = .ok (.iload_n 0, 1) := by decide +kernel
theorem dL_ofPack_49 : decode cL_ofPack 49 = .ok (.bipush 8, 2) := by decide +kernel
theorem dL_ofPack_51 : decode cL_ofPack 51 = .ok (.if_icmp .ge 11, 3) := by decide +kernel
theorem dL_ofPack_54 : decode cL_ofPack 54 = .ok (.iload_n 1, 1) := by decide +kernel
theorem dL_ofPack_55 : decode cL_ofPack 55 = .ok (.aload_n 2, 1) := by decide +kernel
theorem dL_ofPack_56 : decode cL_ofPack 56 = .ok (.bipush 7, 2) := by decide +kernel
theorem dL_ofPack_58 : decode cL_ofPack 58 = .ok (.iaload, 1) := by decide +kernel
theorem dL_ofPack_59 : decode cL_ofPack 59 = .ok (.if_icmp .ge 17, 3) := by decide +kernel
theorem dL_ofPack_62 : decode cL_ofPack 62 = .ok (.iload_n 0, 1) := by decide +kernel
theorem dL_ofPack_63 : decode cL_ofPack 63 = .ok (.bipush 8, 2) := by decide +kernel
theorem dL_ofPack_65 : decode cL_ofPack 65 = .ok (.if_icmp .ne 14, 3) := by decide +kernel
theorem dL_ofPack_68 : decode cL_ofPack 68 = .ok (.iload_n 1, 1) := by decide +kernel
theorem dL_ofPack_69 : decode cL_ofPack 69 = .ok (.aload_n 2, 1) := by decide +kernel
theorem dL_ofPack_70 : decode cL_ofPack 70 = .ok (.bipush 7, 2) := by decide +kernel
theorem dL_ofPack_72 : decode cL_ofPack 72 = .ok (.iaload, 1) := by decide +kernel
theorem dL_ofPack_73 : decode cL_ofPack 73 = .ok (.if_icmp .le 6, 3) := by decide +kernel
theorem dL_ofPack_76 : decode cL_ofPack 76 = .ok (.bipush (-2), 2) := by decide +kernel
theorem dL_ofPack_78 : decode cL_ofPack 78 = .ok (.ireturn, 1) := by decide +kernel
theorem dL_ofPack_79 : decode cL_ofPack 79 = .ok (.aload_n 2, 1) := by decide +kernel
theorem dL_ofPack_80 : decode cL_ofPack 80 = .ok (.bipush 7, 2) := by decide +kernel
theorem dL_ofPack_82 : decode cL_ofPack 82 = .ok (.iaload, 1) := by decide +kernel
theorem dL_ofPack_83 : decode cL_ofPack 83 = .ok (.istore 7, 2) := by decide +kernel
theorem dL_ofPack_85 : decode cL_ofPack 85 = .ok (.iload_n 0, 1) := by decide +kernel
theorem dL_ofPack_86 : decode cL_ofPack 86 = .ok (.bipush 6, 2) := by decide +kernel
theorem dL_ofPack_88 : decode cL_ofPack 88 = .ok (.if_icmp .ne 15, 3) := by decide +kernel
theorem dL_ofPack_91 : decode cL_ofPack 91 = .ok (.iload_n 1, 1) := by decide +kernel
theorem dL_ofPack_92 : decode cL_ofPack 92 = .ok (.aload_n 2, 1) := by decide +kernel
theorem dL_ofPack_93 : decode cL_ofPack 93 = .ok (.aload 4, 2) := by decide +kernel
theorem dL_ofPack_95 : decode cL_ofPack 95 = .ok (.invokestatic 78, 3) := by decide +kernel
theorem dL_ofPack_98 : decode cL_ofPack 98 = .ok (.aload 4, 2) := by decide +kernel
theorem dL_ofPack_100 : decode cL_ofPack 100 = .ok (.iconst 0, 1) := by decide +kernel
theorem dL_ofPack_101 : decode cL_ofPack 101 = .ok (.iaload, 1) := by decide +kernel
theorem dL_ofPack_102 : decode cL_ofPack 102 = .ok (.ireturn, 1) := by decide +kernel
theorem dL_ofPack_103 : decode cL_ofPack 103 = .ok (.iload_n 0, 1) := by decide +kernel
theorem dL_ofPack_104 : decode cL_ofPack 104 = .ok (.bipush 7, 2) := by decide +kernel
theorem dL_ofPack_106 : decode cL_ofPack 106 = .ok (.if_icmp .ne 11, 3) := by decide +kernel
theorem dL_ofPack_109 : decode cL_ofPack 109 = .ok (.iload_n 1, 1) := by decide +kernel
theorem dL_ofPack_110 : decode cL_ofPack 110 = .ok (.aload_n 2, 1) := by decide +kernel
theorem dL_ofPack_111 : decode cL_ofPack 111 = .ok (.aload 4, 2) := by decide +kernel
theorem dL_ofPack_113 : decode cL_ofPack 113 = .ok (.invokestatic 82, 3) := by decide +kernel
theorem dL_ofPack_116 : decode cL_ofPack 116 = .ok (.ireturn, 1) := by decide +kernel
theorem dL_ofPack_117 : decode cL_ofPack 117 = .ok (.iload_n 0, 1) := by decide +kernel
theorem dL_ofPack_118 : decode cL_ofPack 118 = .ok (.bipush 8, 2) := by decide +kernel
theorem dL_ofPack_120 : decode cL_ofPack 120 = .ok (.if_icmp .ne 52, 3) := by decide +kernel
theorem dL_ofPack_123 : decode cL_ofPack 123 = .ok (.iconst 0, 1) := by decide +kernel
theorem dL_ofPack_124 : decode cL_ofPack 124 = .ok (.istore 8, 2) := by decide +kernel
theorem dL_ofPack_126 : decode cL_ofPack 126 = .ok (.iload 8, 2) := by decide +kernel
theorem dL_ofPack_128 : decode cL_ofPack 128 = .ok (.iload_n 1, 1) := by decide +kernel
theorem dL_ofPack_129 : decode cL_ofPack 129 = .ok (.if_icmp .ge 23, 3) := by decide +kernel
theorem dL_ofPack_132 : decode cL_ofPack 132 = .ok (.aload_n 2, 1) := by decide +kernel
theorem dL_ofPack_133 : decode cL_ofPack 133 = .ok (.bipush 11, 2) := by decide +kernel
theorem dL_ofPack_135 : decode cL_ofPack 135 = .ok (.dup2, 1) := by decide +kernel
theorem dL_ofPack_136 : decode cL_ofPack 136 = .ok (.iaload, 1) := by decide +kernel
theorem dL_ofPack_137 : decode cL_ofPack 137 = .ok (.iconst 1, 1) := by decide +kernel
theorem dL_ofPack_138 : decode cL_ofPack 138 = .ok (.aload 4, 2) := by decide +kernel
theorem dL_ofPack_140 : decode cL_ofPack 140 = .ok (.iload 8, 2) := by decide +kernel
theorem dL_ofPack_142 : decode cL_ofPack 142 = .ok (.iaload, 1) := by decide +kernel
theorem dL_ofPack_143 : decode cL_ofPack 143 = .ok (.ishl, 1) := by decide +kernel
theorem dL_ofPack_144 : decode cL_ofPack 144 = .ok (.ior, 1) := by decide +kernel
theorem dL_ofPack_145 : decode cL_ofPack 145 = .ok (.iastore, 1) := by decide +kernel
theorem dL_ofPack_146 : decode cL_ofPack 146 = .ok (.iinc 8 1, 3) := by decide +kernel
theorem dL_ofPack_149 : decode cL_ofPack 149 = .ok (.goto (-23), 3) := by decide +kernel
theorem dL_ofPack_152 : decode cL_ofPack 152 = .ok (.iload_n 1, 1) := by decide +kernel
theorem dL_ofPack_153 : decode cL_ofPack 153 = .ok (.aload_n 2, 1) := by decide +kernel
theorem dL_ofPack_154 : decode cL_ofPack 154 = .ok (.aload 4, 2) := by decide +kernel
theorem dL_ofPack_156 : decode cL_ofPack 156 = .ok (.invokestatic 78, 3) := by decide +kernel
theorem dL_ofPack_159 : decode cL_ofPack 159 = .ok (.aload_n 2, 1) := by decide +kernel
theorem dL_ofPack_160 : decode cL_ofPack 160 = .ok (.bipush 7, 2) := by decide +kernel
theorem dL_ofPack_162 : decode cL_ofPack 162 = .ok (.dup2, 1) := by decide +kernel
theorem dL_ofPack_163 : decode cL_ofPack 163 = .ok (.iaload, 1) := by decide +kernel
theorem dL_ofPack_164 : decode cL_ofPack 164 = .ok (.iload_n 1, 1) := by decide +kernel
theorem dL_ofPack_165 : decode cL_ofPack 165 = .ok (.isub, 1) := by decide +kernel
theorem dL_ofPack_166 : decode cL_ofPack 166 = .ok (.iastore, 1) := by decide +kernel
theorem dL_ofPack_167 : decode cL_ofPack 167 = .ok (.aload_n 2, 1) := by decide +kernel
theorem dL_ofPack_168 : decode cL_ofPack 168 = .ok (.bipush 7, 2) := by decide +kernel
theorem dL_ofPack_170 : decode cL_ofPack 170 = .ok (.iaload, 1) := by decide +kernel
theorem dL_ofPack_171 : decode cL_ofPack 171 = .ok (.ireturn, 1) := by decide +kernel
theorem dL_ofPack_172 : decode cL_ofPack 172 = .ok (.iload_n 0, 1) := by decide +kernel
theorem dL_ofPack_173 : decode cL_ofPack 173 = .ok (.bipush 9, 2) := by decide +kernel
theorem dL_ofPack_175 : decode cL_ofPack 175 = .ok (.if_icmp .ne 30, 3) := by decide +kernel
theorem dL_ofPack_178 : decode cL_ofPack 178 = .ok (.aload_n 2, 1) := by decide +kernel
theorem dL_ofPack_179 : decode cL_ofPack 179 = .ok (.aload 4, 2) := by decide +kernel
theorem dL_ofPack_181 : decode cL_ofPack 181 = .ok (.aload 5, 2) := by decide +kernel
theorem dL_ofPack_183 : decode cL_ofPack 183 = .ok (.aload 6, 2) := by decide +kernel
theorem dL_ofPack_185 : decode cL_ofPack 185 = .ok (.invokestatic 85, 3) := by decide +kernel
theorem dL_ofPack_188 : decode cL_ofPack 188 = .ok (.ifCond .eq 17, 3) := by decide +kernel
theorem dL_ofPack_191 : decode cL_ofPack 191 = .ok (.bipush (-10), 2) := by decide +kernel
theorem dL_ofPack_193 : decode cL_ofPack 193 = .ok (.aload_n 2, 1) := by decide +kernel
theorem dL_ofPack_194 : decode cL_ofPack 194 = .ok (.aload 4, 2) := by decide +kernel
theorem dL_ofPack_196 : decode cL_ofPack 196 = .ok (.aload 5, 2) := by decide +kernel
theorem dL_ofPack_198 : decode cL_ofPack 198 = .ok (.aload 6, 2) := by decide +kernel
theorem dL_ofPack_200 : decode cL_ofPack 200 = .ok (.invokestatic 85, 3) := by decide +kernel
theorem dL_ofPack_203 : decode cL_ofPack 203 = .ok (.isub, 1) := by decide +kernel
theorem dL_ofPack_204 : decode cL_ofPack 204 = .ok (.ireturn, 1) := by decide +kernel
theorem dL_ofPack_205 : decode cL_ofPack 205 = .ok (.aload_n 2, 1) := by decide +kernel
theorem dL_ofPack_206 : decode cL_ofPack 206 = .ok (.bipush 6, 2) := by decide +kernel
theorem dL_ofPack_208 : decode cL_ofPack 208 = .ok (.iconst 0, 1) := by decide +kernel
theorem dL_ofPack_209 : decode cL_ofPack 209 = .ok (.iastore, 1) := by decide +kernel
theorem dL_ofPack_210 : decode cL_ofPack 210 = .ok (.aload_n 2, 1) := by decide +kernel
theorem dL_ofPack_211 : decode cL_ofPack 211 = .ok (.bipush 7, 2) := by decide +kernel
theorem dL_ofPack_213 : decode cL_ofPack 213 = .ok (.iconst 0, 1) := by decide +kernel
theorem dL_ofPack_214 : decode cL_ofPack 214 = .ok (.iastore, 1) := by decide +kernel
theorem dL_ofPack_215 : decode cL_ofPack 215 = .ok (.aload_n 2, 1) := by decide +kernel
theorem dL_ofPack_216 : decode cL_ofPack 216 = .ok (.bipush 8, 2) := by decide +kernel
theorem dL_ofPack_218 : decode cL_ofPack 218 = .ok (.dup2, 1) := by decide +kernel
theorem dL_ofPack_219 : decode cL_ofPack 219 = .ok (.iaload, 1) := by decide +kernel
theorem dL_ofPack_220 : decode cL_ofPack 220 = .ok (.iload_n 0, 1) := by decide +kernel
theorem dL_ofPack_221 : decode cL_ofPack 221 = .ok (.bipush 9, 2) := by decide +kernel
theorem dL_ofPack_223 : decode cL_ofPack 223 = .ok (.if_icmp .ne 7, 3) := by decide +kernel
theorem dL_ofPack_226 : decode cL_ofPack 226 = .ok (.iconst 1, 1) := by decide +kernel
theorem dL_ofPack_227 : decode cL_ofPack 227 = .ok (.goto 4, 3) := by decide +kernel
theorem dL_ofPack_230 : decode cL_ofPack 230 = .ok (.iconst 0, 1) := by decide +kernel
theorem dL_ofPack_231 : decode cL_ofPack 231 = .ok (.iadd, 1) := by decide +kernel
theorem dL_ofPack_232 : decode cL_ofPack 232 = .ok (.iastore, 1) := by decide +kernel
theorem dL_ofPack_233 : decode cL_ofPack 233 = .ok (.aload_n 2, 1) := by decide +kernel
theorem dL_ofPack_234 : decode cL_ofPack 234 = .ok (.bipush 9, 2) := by decide +kernel
theorem dL_ofPack_236 : decode cL_ofPack 236 = .ok (.dup2, 1) := by decide +kernel
theorem dL_ofPack_237 : decode cL_ofPack 237 = .ok (.iaload, 1) := by decide +kernel
theorem dL_ofPack_238 : decode cL_ofPack 238 = .ok (.iload_n 0, 1) := by decide +kernel
theorem dL_ofPack_239 : decode cL_ofPack 239 = .ok (.bipush 9, 2) := by decide +kernel
theorem dL_ofPack_241 : decode cL_ofPack 241 = .ok (.if_icmp .ne 7, 3) := by decide +kernel
theorem dL_ofPack_244 : decode cL_ofPack 244 = .ok (.iconst 0, 1) := by decide +kernel
theorem dL_ofPack_245 : decode cL_ofPack 245 = .ok (.goto 4, 3) := by decide +kernel
theorem dL_ofPack_248 : decode cL_ofPack 248 = .ok (.iconst 1, 1) := by decide +kernel
theorem dL_ofPack_249 : decode cL_ofPack 249 = .ok (.iadd, 1) := by decide +kernel
theorem dL_ofPack_250 : decode cL_ofPack 250 = .ok (.iastore, 1) := by decide +kernel
theorem dL_ofPack_251 : decode cL_ofPack 251 = .ok (.aload_n 2, 1) := by decide +kernel
theorem dL_ofPack_252 : decode cL_ofPack 252 = .ok (.bipush 10, 2) := by decide +kernel
theorem dL_ofPack_254 : decode cL_ofPack 254 = .ok (.dup2, 1) := by decide +kernel
theorem dL_ofPack_255 : decode cL_ofPack 255 = .ok (.iaload, 1) := by decide +kernel
theorem dL_ofPack_256 : decode cL_ofPack 256 = .ok (.iload_n 0, 1) := by decide +kernel
theorem dL_ofPack_257 : decode cL_ofPack 257 = .ok (.bipush 9, 2) := by decide +kernel
theorem dL_ofPack_259 : decode cL_ofPack 259 = .ok (.if_icmp .ne 9, 3) := by decide +kernel
theorem dL_ofPack_262 : decode cL_ofPack 262 = .ok (.aload_n 2, 1) := by decide +kernel
theorem dL_ofPack_263 : decode cL_ofPack 263 = .ok (.iconst 3, 1) := by decide +kernel
theorem dL_ofPack_264 : decode cL_ofPack 264 = .ok (.iaload, 1) := by decide +kernel
theorem dL_ofPack_265 : decode cL_ofPack 265 = .ok (.goto 4, 3) := by decide +kernel
theorem dL_ofPack_268 : decode cL_ofPack 268 = .ok (.iconst 0, 1) := by decide +kernel
theorem dL_ofPack_269 : decode cL_ofPack 269 = .ok (.iadd, 1) := by decide +kernel
theorem dL_ofPack_270 : decode cL_ofPack 270 = .ok (.iastore, 1) := by decide +kernel
theorem dL_ofPack_271 : decode cL_ofPack 271 = .ok (.iload_n 0, 1) := by decide +kernel
theorem dL_ofPack_272 : decode cL_ofPack 272 = .ok (.bipush 9, 2) := by decide +kernel
theorem dL_ofPack_274 : decode cL_ofPack 274 = .ok (.if_icmp .ne 9, 3) := by decide +kernel
theorem dL_ofPack_277 : decode cL_ofPack 277 = .ok (.aload_n 2, 1) := by decide +kernel
theorem dL_ofPack_278 : decode cL_ofPack 278 = .ok (.iconst 3, 1) := by decide +kernel
theorem dL_ofPack_279 : decode cL_ofPack 279 = .ok (.iaload, 1) := by decide +kernel
theorem dL_ofPack_280 : decode cL_ofPack 280 = .ok (.goto 5, 3) := by decide +kernel
theorem dL_ofPack_283 : decode cL_ofPack 283 = .ok (.iload 7, 2) := by decide +kernel
theorem dL_ofPack_285 : decode cL_ofPack 285 = .ok (.ireturn, 1) := by decide +kernel
theorem dL_isPack_0 : decode cL_isPack 0 = .ok (.fconst 0, 1) := by decide +kernel
theorem dL_isPack_1 : decode cL_isPack 1 = .ok (.fstore 5, 2) := by decide +kernel
theorem dL_isPack_3 : decode cL_isPack 3 = .ok (.iconst 0, 1) := by decide +kernel
theorem dL_isPack_4 : decode cL_isPack 4 = .ok (.istore 6, 2) := by decide +kernel
theorem dL_isPack_6 : decode cL_isPack 6 = .ok (.iconst 0, 1) := by decide +kernel
theorem dL_isPack_7 : decode cL_isPack 7 = .ok (.istore 7, 2) := by decide +kernel
theorem dL_isPack_9 : decode cL_isPack 9 = .ok (.iload 7, 2) := by decide +kernel
theorem dL_isPack_11 : decode cL_isPack 11 = .ok (.aload_n 2, 1) := by decide +kernel
theorem dL_isPack_12 : decode cL_isPack 12 = .ok (.bipush 7, 2) := by decide +kernel
theorem dL_isPack_14 : decode cL_isPack 14 = .ok (.iaload, 1) := by decide +kernel
theorem dL_isPack_15 : decode cL_isPack 15 = .ok (.if_icmp .ge 59, 3) := by decide +kernel
theorem dL_isPack_18 : decode cL_isPack 18 = .ok (.aload 4, 2) := by decide +kernel
theorem dL_isPack_20 : decode cL_isPack 20 = .ok (.aload_n 3, 1) := by decide +kernel
theorem dL_isPack_21 : decode cL_isPack 21 = .ok (.iload 7, 2) := by decide +kernel
theorem dL_isPack_23 : decode cL_isPack 23 = .ok (.iaload, 1) := by decide +kernel
theorem dL_isPack_24 : decode cL_isPack 24 = .ok (.iaload, 1) := by decide +kernel
theorem dL_isPack_25 : decode cL_isPack 25 = .ok (.aload_n 2, 1) := by decide +kernel
theorem dL_isPack_26 : decode cL_isPack 26 = .ok (.aload 4, 2) := by decide +kernel
theorem dL_isPack_28 : decode cL_isPack 28 = .ok (.invokestatic 20, 3) := by decide +kernel
theorem dL_isPack_31 : decode cL_isPack 31 = .ok (.istore 8, 2) := by decide +kernel
theorem dL_isPack_33 : decode cL_isPack 33 = .ok (.fload 5, 2) := by decide +kernel
theorem dL_isPack_35 : decode cL_isPack 35 = .ok (.fconst 1, 1) := by decide +kernel
theorem dL_isPack_36 : decode cL_isPack 36 = .ok (.iload 8, 2) := by decide +kernel
theorem dL_isPack_38 : decode cL_isPack 38 = .ok (.bipush 100, 2) := by decide +kernel
theorem dL_isPack_40 : decode cL_isPack 40 = .ok (.irem, 1) := by decide +kernel
theorem dL_isPack_41 : decode cL_isPack 41 = .ok (.i2f, 1) := by decide +kernel
theorem dL_isPack_42 : decode cL_isPack 42 = .ok (.fdiv, 1) := by decide +kernel
theorem dL_isPack_43 : decode cL_isPack 43 = .ok (.fadd, 1) := by decide +kernel
theorem dL_isPack_44 : decode cL_isPack 44 = .ok (.fstore 5, 2) := by decide +kernel
theorem dL_isPack_46 : decode cL_isPack 46 = .ok (.iload 6, 2) := by decide +kernel
theorem dL_isPack_48 : decode cL_isPack 48 = .ok (.iload 8, 2) := by decide +kernel
theorem dL_isPack_50 : decode cL_isPack 50 = .ok (.bipush 100, 2) := by decide +kernel
theorem dL_isPack_52 : decode cL_isPack 52 = .ok (.idiv, 1) := by decide +kernel
theorem dL_isPack_53 : decode cL_isPack 53 = .ok (.aload_n 3, 1) := by decide +kernel
theorem dL_isPack_54 : decode cL_isPack 54 = .ok (.iload 7, 2) := by decide +kernel
theorem dL_isPack_56 : decode cL_isPack 56 = .ok (.iaload, 1) := by decide +kernel
theorem dL_isPack_57 : decode cL_isPack 57 = .ok (.if_icmp .ne 7, 3) := by decide +kernel
theorem dL_isPack_60 : decode cL_isPack 60 = .ok (.iconst 1, 1) := by decide +kernel
theorem dL_isPack_61 : decode cL_isPack 61 = .ok (.goto 4, 3) := by decide +kernel
theorem dL_isPack_64 : decode cL_isPack 64 = .ok (.iconst 0, 1) := by decide +kernel
theorem dL_isPack_65 : decode cL_isPack 65 = .ok (.iadd, 1) := by decide +kernel
theorem dL_isPack_66 : decode cL_isPack 66 = .ok (.istore 6, 2) := by decide +kernel
theorem dL_isPack_68 : decode cL_isPack 68 = .ok (.iinc 7 1, 3) := by decide +kernel
theorem dL_isPack_71 : decode cL_isPack 71 = .ok (.goto (-62), 3) := by decide +kernel
theorem dL_isPack_74 : decode cL_isPack 74 = .ok (.iload_n 1, 1) := by decide +kernel
theorem dL_isPack_75 : decode cL_isPack 75 = .ok (.bipush 24, 2) := by decide +kernel
theorem dL_isPack_77 : decode cL_isPack 77 = .ok (.invokestatic 89, 3) := by decide +kernel
theorem dL_isPack_80 : decode cL_isPack 80 = .ok (.istore 7, 2) := by decide +kernel
theorem dL_isPack_82 : decode cL_isPack 82 = .ok (.bipush (-5), 2) := by decide +kernel
theorem dL_isPack_84 : decode cL_isPack 84 = .ok (.istore 8, 2) := by decide +kernel
theorem dL_isPack_86 : decode cL_isPack 86 = .ok (.iconst 0, 1) := by decide +kernel
theorem dL_isPack_87 : decode cL_isPack 87 = .ok (.istore 9, 2) := by decide +kernel
theorem dL_isPack_89 : decode cL_isPack 89 = .ok (.iload 9, 2) := by decide +kernel
theorem dL_isPack_91 : decode cL_isPack 91 = .ok (.aload_n 2, 1) := by decide +kernel
theorem dL_isPack_92 : decode cL_isPack 92 = .ok (.bipush 7, 2) := by decide +kernel
theorem dL_isPack_94 : decode cL_isPack 94 = .ok (.iaload, 1) := by decide +kernel
theorem dL_isPack_95 : decode cL_isPack 95 = .ok (.if_icmp .ge 27, 3) := by decide +kernel
theorem dL_isPack_98 : decode cL_isPack 98 = .ok (.aload_n 3, 1) := by decide +kernel
theorem dL_isPack_99 : decode cL_isPack 99 = .ok (.iload 9, 2) := by decide +kernel
theorem dL_isPack_101 : decode cL_isPack 101 = .ok (.iaload, 1) := by decide +kernel
theorem dL_isPack_102 : decode cL_isPack 102 = .ok (.iload 7, 2) := by decide +kernel
theorem dL_isPack_104 : decode cL_isPack 104 = .ok (.if_icmp .ne 8, 3) := by decide +kernel
theorem dL_isPack_107 : decode cL_isPack 107 = .ok (.iload 9, 2) := by decide +kernel
theorem dL_isPack_109 : decode cL_isPack 109 = .ok (.goto 5, 3) := by decide +kernel
theorem dL_isPack_112 : decode cL_isPack 112 = .ok (.iload 8, 2) := by decide +kernel
theorem dL_isPack_114 : decode cL_isPack 114 = .ok (.istore 8, 2) := by decide +kernel
theorem dL_isPack_116 : decode cL_isPack 116 = .ok (.iinc 9 1, 3) := by decide +kernel
theorem dL_isPack_119 : decode cL_isPack 119 = .ok (.goto (-30), 3) := by decide +kernel
theorem dL_isPack_122 : decode cL_isPack 122 = .ok (.aload_n 0, 1) := by decide +kernel
theorem dL_isPack_123 : decode cL_isPack 123 = .ok (.iconst 3, 1) := by decide +kernel
theorem dL_isPack_124 : decode cL_isPack 124 = .ok (.invokevirtual 92, 3) := by decide +kernel
theorem dL_isPack_127 : decode cL_isPack 127 = .ok (.aload_n 2, 1) := by decide +kernel
theorem dL_isPack_128 : decode cL_isPack 128 = .ok (.bipush 7, 2) := by decide +kernel
theorem dL_isPack_130 : decode cL_isPack 130 = .ok (.iaload, 1) := by decide +kernel
theorem dL_isPack_131 : decode cL_isPack 131 = .ok (.if_icmp .ne 136, 3) := by decide +kernel
theorem dL_isPack_134 : decode cL_isPack 134 = .ok (.aload_n 0, 1) := by decide +kernel
theorem dL_isPack_135 : decode cL_isPack 135 = .ok (.iconst 4, 1) := by decide +kernel
theorem dL_isPack_136 : decode cL_isPack 136 = .ok (.invokevirtual 92, 3) := by decide +kernel
theorem dL_isPack_139 : decode cL_isPack 139 = .ok (.aload_n 2, 1) := by decide +kernel
theorem dL_isPack_140 : decode cL_isPack 140 = .ok (.bipush 6, 2) := by decide +kernel
theorem dL_isPack_142 : decode cL_isPack 142 = .ok (.iaload, 1) := by decide +kernel
theorem dL_isPack_143 : decode cL_isPack 143 = .ok (.iconst 1, 1) := by decide +kernel
theorem dL_isPack_144 : decode cL_isPack 144 = .ok (.if_icmp .ne 13, 3) := by decide +kernel
theorem dL_isPack_147 : decode cL_isPack 147 = .ok (.bipush 24, 2) := by decide +kernel
theorem dL_isPack_149 : decode cL_isPack 149 = .ok (.aload_n 2, 1) := by decide +kernel
theorem dL_isPack_150 : decode cL_isPack 150 = .ok (.bipush 7, 2) := by decide +kernel
theorem dL_isPack_152 : decode cL_isPack 152 = .ok (.iaload, 1) := by decide +kernel
theorem dL_isPack_153 : decode cL_isPack 153 = .ok (.isub, 1) := by decide +kernel
theorem dL_isPack_154 : decode cL_isPack 154 = .ok (.goto 4, 3) := by decide +kernel
theorem dL_isPack_157 : decode cL_isPack 157 = .ok (.iconst 0, 1) := by decide +kernel
theorem dL_isPack_158 : decode cL_isPack 158 = .ok (.if_icmp .ne 109, 3) := by decide +kernel
theorem dL_isPack_161 : decode cL_isPack 161 = .ok (.aload_n 0, 1) := by decide +kernel
theorem dL_isPack_162 : decode cL_isPack 162 = .ok (.iconst 5, 1) := by decide +kernel
theorem dL_isPack_163 : decode cL_isPack 163 = .ok (.invokevirtual 92, 3) := by decide +kernel
theorem dL_isPack_166 : decode cL_isPack 166 = .ok (.aload_n 2, 1) := by decide +kernel
theorem dL_isPack_167 : decode cL_isPack 167 = .ok (.aload_n 3, 1) := by decide +kernel
theorem dL_isPack_168 : decode cL_isPack 168 = .ok (.aload 4, 2) := by decide +kernel
theorem dL_isPack_170 : decode cL_isPack 170 = .ok (.invokestatic 28, 3) := by decide +kernel
theorem dL_isPack_173 : decode cL_isPack 173 = .ok (.if_icmp .ne 94, 3) := by decide +kernel
theorem dL_isPack_176 : decode cL_isPack 176 = .ok (.aload_n 0, 1) := by decide +kernel
theorem dL_isPack_177 : decode cL_isPack 177 = .ok (.bipush 6, 2) := by decide +kernel
theorem dL_isPack_179 : decode cL_isPack 179 = .ok (.invokevirtual 92, 3) := by decide +kernel
theorem dL_isPack_182 : decode cL_isPack 182 = .ok (.iload 6, 2) := by decide +kernel
theorem dL_isPack_184 : decode cL_isPack 184 = .ok (.if_icmp .ne 83, 3) := by decide +kernel
theorem dL_isPack_187 : decode cL_isPack 187 = .ok (.aload_n 0, 1) := by decide +kernel
theorem dL_isPack_188 : decode cL_isPack 188 = .ok (.invokevirtual 95, 3) := by decide +kernel
theorem dL_isPack_191 : decode cL_isPack 191 = .ok (.aload_n 2, 1) := by decide +kernel
theorem dL_isPack_192 : decode cL_isPack 192 = .ok (.bipush 6, 2) := by decide +kernel
theorem dL_isPack_194 : decode cL_isPack 194 = .ok (.iaload, 1) := by decide +kernel
theorem dL_isPack_195 : decode cL_isPack 195 = .ok (.iconst 1, 1) := by decide +kernel
theorem dL_isPack_196 : decode cL_isPack 196 = .ok (.if_icmp .ne 8, 3) := by decide +kernel
theorem dL_isPack_199 : decode cL_isPack 199 = .ok (.fload 5, 2) := by decide +kernel
theorem dL_isPack_201 : decode cL_isPack 201 = .ok (.goto 5, 3) := by decide +kernel
theorem dL_isPack_204 : decode cL_isPack 204 = .ok (.ldc 99, 2) := by decide +kernel
theorem dL_isPack_206 : decode cL_isPack 206 = .ok (.fcmp .l, 1) := by decide +kernel
theorem dL_isPack_207 : decode cL_isPack 207 = .ok (.ifCond .ne 60, 3) := by decide +kernel
theorem dL_isPack_210 : decode cL_isPack 210 = .ok (.aload_n 0, 1) := by decide +kernel
theorem dL_isPack_211 : decode cL_isPack 211 = .ok (.iload 7, 2) := by decide +kernel
theorem dL_isPack_213 : decode cL_isPack 213 = .ok (.iconst 2, 1) := by decide +kernel
theorem dL_isPack_214 : decode cL_isPack 214 = .ok (.invokevirtual 100, 3) := by decide +kernel
theorem dL_isPack_217 : decode cL_isPack 217 = .ok (.iload 8, 2) := by decide +kernel
theorem dL_isPack_219 : decode cL_isPack 219 = .ok (.if_icmp .ne 48, 3) := by decide +kernel
theorem dL_isPack_222 : decode cL_isPack 222 = .ok (.aload_n 0, 1) := by decide +kernel
theorem dL_isPack_223 : decode cL_isPack 223 = .ok (.iload 7, 2) := by decide +kernel
theorem dL_isPack_225 : decode cL_isPack 225 = .ok (.iconst 3, 1) := by decide +kernel
theorem dL_isPack_226 : decode cL_isPack 226 = .ok (.invokevirtual 100, 3) := by decide +kernel
theorem dL_isPack_229 : decode cL_isPack 229 = .ok (.aload_n 2, 1) := by decide +kernel
theorem dL_isPack_230 : decode cL_isPack 230 = .ok (.bipush 6, 2) := by decide +kernel
theorem dL_isPack_232 : decode cL_isPack 232 = .ok (.iaload, 1) := by decide +kernel
theorem dL_isPack_233 : decode cL_isPack 233 = .ok (.iconst 1, 1) := by decide +kernel
theorem dL_isPack_234 : decode cL_isPack 234 = .ok (.if_icmp .ne 11, 3) := by decide +kernel
theorem dL_isPack_237 : decode cL_isPack 237 = .ok (.aload 4, 2) := by decide +kernel
theorem dL_isPack_239 : decode cL_isPack 239 = .ok (.iload 7, 2) := by decide +kernel
theorem dL_isPack_241 : decode cL_isPack 241 = .ok (.iaload, 1) := by decide +kernel
theorem dL_isPack_242 : decode cL_isPack 242 = .ok (.goto 5, 3) := by decide +kernel
theorem dL_isPack_245 : decode cL_isPack 245 = .ok (.bipush (-5), 2) := by decide +kernel
theorem dL_isPack_247 : decode cL_isPack 247 = .ok (.if_icmp .ne 20, 3) := by decide +kernel
theorem dL_isPack_250 : decode cL_isPack 250 = .ok (.aload_n 0, 1) := by decide +kernel
theorem dL_isPack_251 : decode cL_isPack 251 = .ok (.aload_n 2, 1) := by decide +kernel
theorem dL_isPack_252 : decode cL_isPack 252 = .ok (.bipush 7, 2) := by decide +kernel
theorem dL_isPack_254 : decode cL_isPack 254 = .ok (.iaload, 1) := by decide +kernel
theorem dL_isPack_255 : decode cL_isPack 255 = .ok (.iconst 0, 1) := by decide +kernel
theorem dL_isPack_256 : decode cL_isPack 256 = .ok (.invokevirtual 103, 3) := by decide +kernel
theorem dL_isPack_259 : decode cL_isPack 259 = .ok (.iconst (-1), 1) := by decide +kernel
theorem dL_isPack_260 : decode cL_isPack 260 = .ok (.if_icmp .ne 7, 3) := by decide +kernel
theorem dL_isPack_263 : decode cL_isPack 263 = .ok (.iconst 1, 1) := by decide +kernel
theorem dL_isPack_264 : decode cL_isPack 264 = .ok (.goto 4, 3) := by decide +kernel
theorem dL_isPack_267 : decode cL_isPack 267 = .ok (.iconst 0, 1) := by decide +kernel
theorem dL_isPack_268 : decode cL_isPack 268 = .ok (.istore 9, 2) := by decide +kernel
theorem dL_isPack_270 : decode cL_isPack 270 = .ok (.aload_n 2, 1) := by decide +kernel
theorem dL_isPack_271 : decode cL_isPack 271 = .ok (.bipush 7, 2) := by decide +kernel
theorem dL_isPack_273 : decode cL_isPack 273 = .ok (.iaload, 1) := by decide +kernel
theorem dL_isPack_274 : decode cL_isPack 274 = .ok (.ifCond .ne 6, 3) := by decide +kernel
theorem dL_isPack_277 : decode cL_isPack 277 = .ok (.iload 9, 2) := by decide +kernel
theorem dL_isPack_279 : decode cL_isPack 279 = .ok (.ireturn, 1) := by decide +kernel
theorem dL_isPack_280 : decode cL_isPack 280 = .ok (.iload_n 1, 1) := by decide +kernel
theorem dL_isPack_281 : decode cL_isPack 281 = .ok (.iconst 5, 1) := by decide +kernel
theorem dL_isPack_282 : decode cL_isPack 282 = .ok (.ishr, 1) := by decide +kernel
theorem dL_isPack_283 : decode cL_isPack 283 = .ok (.aload_n 2, 1) := by decide +kernel
theorem dL_isPack_284 : decode cL_isPack 284 = .ok (.bipush 7, 2) := by decide +kernel
theorem dL_isPack_286 : decode cL_isPack 286 = .ok (.iaload, 1) := by decide +kernel
theorem dL_isPack_287 : decode cL_isPack 287 = .ok (.invokestatic 89, 3) := by decide +kernel
theorem dL_isPack_290 : decode cL_isPack 290 = .ok (.istore 10, 2) := by decide +kernel
theorem dL_isPack_292 : decode cL_isPack 292 = .ok (.aload 4, 2) := by decide +kernel
theorem dL_isPack_294 : decode cL_isPack 294 = .ok (.aload_n 3, 1) := by decide +kernel
theorem dL_isPack_295 : decode cL_isPack 295 = .ok (.iload 10, 2) := by decide +kernel
theorem dL_isPack_297 : decode cL_isPack 297 = .ok (.iaload, 1) := by decide +kernel
theorem dL_isPack_298 : decode cL_isPack 298 = .ok (.iaload, 1) := by decide +kernel
theorem dL_isPack_299 : decode cL_isPack 299 = .ok (.aload_n 2, 1) := by decide +kernel
theorem dL_isPack_300 : decode cL_isPack 300 = .ok (.aload 4, 2) := by decide +kernel
theorem dL_isPack_302 : decode cL_isPack 302 = .ok (.invokestatic 20, 3) := by decide +kernel
theorem dL_isPack_305 : decode cL_isPack 305 = .ok (.istore 11, 2) := by decide +kernel
theorem dL_isPack_307 : decode cL_isPack 307 = .ok (.iload 9, 2) := by decide +kernel
theorem dL_isPack_309 : decode cL_isPack 309 = .ok (.ifCond .eq 104, 3) := by decide +kernel
theorem dL_isPack_312 : decode cL_isPack 312 = .ok (.aload_n 0, 1) := by decide +kernel
theorem dL_isPack_313 : decode cL_isPack 313 = .ok (.iload 10, 2) := by decide +kernel
theorem dL_isPack_315 : decode cL_isPack 315 = .ok (.iconst 0, 1) := by decide +kernel
theorem dL_isPack_316 : decode cL_isPack 316 = .ok (.invokevirtual 103, 3) := by decide +kernel
theorem dL_isPack_319 : decode cL_isPack 319 = .ok (.aload_n 3, 1) := by decide +kernel
theorem dL_isPack_320 : decode cL_isPack 320 = .ok (.iload 10, 2) := by decide +kernel
theorem dL_isPack_322 : decode cL_isPack 322 = .ok (.iaload, 1) := by decide +kernel
theorem dL_isPack_323 : decode cL_isPack 323 = .ok (.if_icmp .ne 90, 3) := by decide +kernel
theorem dL_isPack_326 : decode cL_isPack 326 = .ok (.aload_n 0, 1) := by decide +kernel
theorem dL_isPack_327 : decode cL_isPack 327 = .ok (.iload 10, 2) := by decide +kernel
theorem dL_isPack_329 : decode cL_isPack 329 = .ok (.iconst 1, 1) := by decide +kernel
theorem dL_isPack_330 : decode cL_isPack 330 = .ok (.invokevirtual 103, 3) := by decide +kernel
theorem dL_isPack_333 : decode cL_isPack 333 = .ok (.aload 4, 2) := by decide +kernel
theorem dL_isPack_335 : decode cL_isPack 335 = .ok (.aload_n 3, 1) := by decide +kernel
theorem dL_isPack_336 : decode cL_isPack 336 = .ok (.iload 10, 2) := by decide +kernel
theorem dL_isPack_338 : decode cL_isPack 338 = .ok (.iaload, 1) := by decide +kernel
theorem dL_isPack_339 : decode cL_isPack 339 = .ok (.iaload, 1) := by decide +kernel
theorem dL_isPack_340 : decode cL_isPack 340 = .ok (.if_icmp .ne 73, 3) := by decide +kernel
theorem dL_isPack_343 : decode cL_isPack 343 = .ok (.aload_n 0, 1) := by decide +kernel
theorem dL_isPack_344 : decode cL_isPack 344 = .ok (.iload 10, 2) := by decide +kernel
theorem dL_isPack_346 : decode cL_isPack 346 = .ok (.iconst 2, 1) := by decide +kernel
theorem dL_isPack_347 : decode cL_isPack 347 = .ok (.invokevirtual 103, 3) := by decide +kernel
theorem dL_isPack_350 : decode cL_isPack 350 = .ok (.iload 11, 2) := by decide +kernel
theorem dL_isPack_352 : decode cL_isPack 352 = .ok (.bipush 100, 2) := by decide +kernel
theorem dL_isPack_354 : decode cL_isPack 354 = .ok (.irem, 1) := by decide +kernel
theorem dL_isPack_355 : decode cL_isPack 355 = .ok (.if_icmp .ne 58, 3) := by decide +kernel
theorem dL_isPack_358 : decode cL_isPack 358 = .ok (.aload_n 0, 1) := by decide +kernel
theorem dL_isPack_359 : decode cL_isPack 359 = .ok (.iload 10, 2) := by decide +kernel
theorem dL_isPack_361 : decode cL_isPack 361 = .ok (.iconst 3, 1) := by decide +kernel
theorem dL_isPack_362 : decode cL_isPack 362 = .ok (.invokevirtual 103, 3) := by decide +kernel
theorem dL_isPack_365 : decode cL_isPack 365 = .ok (.iload 11, 2) := by decide +kernel
theorem dL_isPack_367 : decode cL_isPack 367 = .ok (.bipush 100, 2) := by decide +kernel
theorem dL_isPack_369 : decode cL_isPack 369 = .ok (.idiv, 1) := by decide +kernel
theorem dL_isPack_370 : decode cL_isPack 370 = .ok (.if_icmp .ne 43, 3) := by decide +kernel
theorem dL_isPack_373 : decode cL_isPack 373 = .ok (.aload_n 0, 1) := by decide +kernel
theorem dL_isPack_374 : decode cL_isPack 374 = .ok (.iload 10, 2) := by decide +kernel
theorem dL_isPack_376 : decode cL_isPack 376 = .ok (.iconst 4, 1) := by decide +kernel
theorem dL_isPack_377 : decode cL_isPack 377 = .ok (.invokevirtual 103, 3) := by decide +kernel
theorem dL_isPack_380 : decode cL_isPack 380 = .ok (.iload 11, 2) := by decide +kernel
theorem dL_isPack_382 : decode cL_isPack 382 = .ok (.bipush 100, 2) := by decide +kernel
theorem dL_isPack_384 : decode cL_isPack 384 = .ok (.irem, 1) := by decide +kernel
theorem dL_isPack_385 : decode cL_isPack 385 = .ok (.iconst 1, 1) := by decide +kernel
theorem dL_isPack_386 : decode cL_isPack 386 = .ok (.if_icmp .ne 7, 3) := by decide +kernel
theorem dL_isPack_389 : decode cL_isPack 389 = .ok (.iconst 1, 1) := by decide +kernel
theorem dL_isPack_390 : decode cL_isPack 390 = .ok (.goto 4, 3) := by decide +kernel
theorem dL_isPack_393 : decode cL_isPack 393 = .ok (.iconst 0, 1) := by decide +kernel
theorem dL_isPack_394 : decode cL_isPack 394 = .ok (.if_icmp .ne 19, 3) := by decide +kernel
theorem dL_isPack_397 : decode cL_isPack 397 = .ok (.aload_n 0, 1) := by decide +kernel
theorem dL_isPack_398 : decode cL_isPack 398 = .ok (.iload 10, 2) := by decide +kernel
theorem dL_isPack_400 : decode cL_isPack 400 = .ok (.iconst 5, 1) := by decide +kernel
theorem dL_isPack_401 : decode cL_isPack 401 = .ok (.invokevirtual 103, 3) := by decide +kernel
theorem dL_isPack_404 : decode cL_isPack 404 = .ok (.bipush (-2), 2) := by decide +kernel
theorem dL_isPack_406 : decode cL_isPack 406 = .ok (.if_icmp .ne 7, 3) := by decide +kernel
theorem dL_isPack_409 : decode cL_isPack 409 = .ok (.iconst 1, 1) := by decide +kernel
theorem dL_isPack_410 : decode cL_isPack 410 = .ok (.goto 4, 3) := by decide +kernel
theorem dL_isPack_413 : decode cL_isPack 413 = .ok (.iconst 0, 1) := by decide +kernel
theorem dL_isPack_414 : decode cL_isPack 414 = .ok (.ireturn, 1) := by decide +kernel
theorem dL_isSo_0 : decode cL_isSo 0 = .ok (.iconst 0, 1) := by decide +kernel
theorem dL_isSo_1 : decode cL_isSo 1 = .ok (.istore 10, 2) := by decide +kernel
theorem dL_isSo_3 : decode cL_isSo 3 = .ok (.iconst 0, 1) := by decide +kernel
theorem dL_isSo_4 : decode cL_isSo 4 = .ok (.istore 11, 2) := by decide +kernel
theorem dL_isSo_6 : decode cL_isSo 6 = .ok (.iconst 0, 1) := by decide +kernel
theorem dL_isSo_7 : decode cL_isSo 7 = .ok (.istore 12, 2) := by decide +kernel
theorem dL_isSo_9 : decode cL_isSo 9 = .ok (.iload 12, 2) := by decide +kernel
theorem dL_isSo_11 : decode cL_isSo 11 = .ok (.bipush 24, 2) := by decide +kernel
theorem dL_isSo_13 : decode cL_isSo 13 = .ok (.if_icmp .ge 80, 3) := by decide +kernel
theorem dL_isSo_16 : decode cL_isSo 16 = .ok (.iconst 0, 1) := by decide +kernel
theorem dL_isSo_17 : decode cL_isSo 17 = .ok (.istore 13, 2) := by decide +kernel
theorem dL_isSo_19 : decode cL_isSo 19 = .ok (.iload 10, 2) := by decide +kernel
theorem dL_isSo_21 : decode cL_isSo 21 = .ok (.aload 4, 2) := by decide +kernel
theorem dL_isSo_23 : decode cL_isSo 23 = .ok (.iload 12, 2) := by decide +kernel
theorem dL_isSo_25 : decode cL_isSo 25 = .ok (.iaload, 1) := by decide +kernel
theorem dL_isSo_26 : decode cL_isSo 26 = .ok (.invokestatic 106, 3) := by decide +kernel
theorem dL_isSo_29 : decode cL_isSo 29 = .ok (.iadd, 1) := by decide +kernel
theorem dL_isSo_30 : decode cL_isSo 30 = .ok (.istore 10, 2) := by decide +kernel
theorem dL_isSo_32 : decode cL_isSo 32 = .ok (.iconst 0, 1) := by decide +kernel
theorem dL_isSo_33 : decode cL_isSo 33 = .ok (.istore 14, 2) := by decide +kernel
theorem dL_isSo_35 : decode cL_isSo 35 = .ok (.iload 14, 2) := by decide +kernel
theorem dL_isSo_37 : decode cL_isSo 37 = .ok (.bipush 24, 2) := by decide +kernel
theorem dL_isSo_39 : decode cL_isSo 39 = .ok (.if_icmp .ge 32, 3) := by decide +kernel
theorem dL_isSo_42 : decode cL_isSo 42 = .ok (.iload 13, 2) := by decide +kernel
theorem dL_isSo_44 : decode cL_isSo 44 = .ok (.aload 4, 2) := by decide +kernel
theorem dL_isSo_46 : decode cL_isSo 46 = .ok (.iload 12, 2) := by decide +kernel
theorem dL_isSo_48 : decode cL_isSo 48 = .ok (.iaload, 1) := by decide +kernel
theorem dL_isSo_49 : decode cL_isSo 49 = .ok (.aload 4, 2) := by decide +kernel
theorem dL_isSo_51 : decode cL_isSo 51 = .ok (.iload 14, 2) := by decide +kernel
theorem dL_isSo_53 : decode cL_isSo 53 = .ok (.iaload, 1) := by decide +kernel
theorem dL_isSo_54 : decode cL_isSo 54 = .ok (.if_icmp .ne 7, 3) := by decide +kernel
theorem dL_isSo_57 : decode cL_isSo 57 = .ok (.iconst 1, 1) := by decide +kernel
theorem dL_isSo_58 : decode cL_isSo 58 = .ok (.goto 4, 3) := by decide +kernel
theorem dL_isSo_61 : decode cL_isSo 61 = .ok (.iconst 0, 1) := by decide +kernel
theorem dL_isSo_62 : decode cL_isSo 62 = .ok (.iadd, 1) := by decide +kernel
theorem dL_isSo_63 : decode cL_isSo 63 = .ok (.istore 13, 2) := by decide +kernel
theorem dL_isSo_65 : decode cL_isSo 65 = .ok (.iinc 14 1, 3) := by decide +kernel
theorem dL_isSo_68 : decode cL_isSo 68 = .ok (.goto (-33), 3) := by decide +kernel
theorem dL_isSo_71 : decode cL_isSo 71 = .ok (.iload 11, 2) := by decide +kernel
theorem dL_isSo_73 : decode cL_isSo 73 = .ok (.iload 13, 2) := by decide +kernel
theorem dL_isSo_75 : decode cL_isSo 75 = .ok (.iconst 1, 1) := by decide +kernel
theorem dL_isSo_76 : decode cL_isSo 76 = .ok (.if_icmp .ne 7, 3) := by decide +kernel
theorem dL_isSo_79 : decode cL_isSo 79 = .ok (.iconst 1, 1) := by decide +kernel
theorem dL_isSo_80 : decode cL_isSo 80 = .ok (.goto 4, 3) := by decide +kernel
theorem dL_isSo_83 : decode cL_isSo 83 = .ok (.iconst 0, 1) := by decide +kernel
theorem dL_isSo_84 : decode cL_isSo 84 = .ok (.iadd, 1) := by decide +kernel
theorem dL_isSo_85 : decode cL_isSo 85 = .ok (.istore 11, 2) := by decide +kernel
theorem dL_isSo_87 : decode cL_isSo 87 = .ok (.iinc 12 1, 3) := by decide +kernel
theorem dL_isSo_90 : decode cL_isSo 90 = .ok (.goto (-81), 3) := by decide +kernel
theorem dL_isSo_93 : decode cL_isSo 93 = .ok (.iload_n 1, 1) := by decide +kernel
theorem dL_isSo_94 : decode cL_isSo 94 = .ok (.bipush 24, 2) := by decide +kernel
theorem dL_isSo_96 : decode cL_isSo 96 = .ok (.invokestatic 89, 3) := by decide +kernel
theorem dL_isSo_99 : decode cL_isSo 99 = .ok (.istore 12, 2) := by decide +kernel
theorem dL_isSo_101 : decode cL_isSo 101 = .ok (.aload_n 0, 1) := by decide +kernel
theorem dL_isSo_102 : decode cL_isSo 102 = .ok (.iconst 0, 1) := by decide +kernel
theorem dL_isSo_103 : decode cL_isSo 103 = .ok (.invokevirtual 92, 3) := by decide +kernel
theorem dL_isSo_106 : decode cL_isSo 106 = .ok (.aload_n 2, 1) := by decide +kernel
theorem dL_isSo_107 : decode cL_isSo 107 = .ok (.iconst 5, 1) := by decide +kernel
theorem dL_isSo_108 : decode cL_isSo 108 = .ok (.iaload, 1) := by decide +kernel
theorem dL_isSo_109 : decode cL_isSo 109 = .ok (.if_icmp .ne 211, 3) := by decide +kernel
theorem dL_isSo_112 : decode cL_isSo 112 = .ok (.aload_n 0, 1) := by decide +kernel
theorem dL_isSo_113 : decode cL_isSo 113 = .ok (.iconst 1, 1) := by decide +kernel
theorem dL_isSo_114 : decode cL_isSo 114 = .ok (.invokevirtual 92, 3) := by decide +kernel
theorem dL_isSo_117 : decode cL_isSo 117 = .ok (.aload_n 2, 1) := by decide +kernel
theorem dL_isSo_118 : decode cL_isSo 118 = .ok (.iconst 4, 1) := by decide +kernel
theorem dL_isSo_119 : decode cL_isSo 119 = .ok (.iaload, 1) := by decide +kernel
theorem dL_isSo_120 : decode cL_isSo 120 = .ok (.if_icmp .ne 200, 3) := by decide +kernel
theorem dL_isSo_123 : decode cL_isSo 123 = .ok (.aload_n 0, 1) := by decide +kernel
theorem dL_isSo_124 : decode cL_isSo 124 = .ok (.iconst 2, 1) := by decide +kernel
theorem dL_isSo_125 : decode cL_isSo 125 = .ok (.invokevirtual 92, 3) := by decide +kernel
theorem dL_isSo_128 : decode cL_isSo 128 = .ok (.aload_n 2, 1) := by decide +kernel
theorem dL_isSo_129 : decode cL_isSo 129 = .ok (.bipush 6, 2) := by decide +kernel
theorem dL_isSo_131 : decode cL_isSo 131 = .ok (.iaload, 1) := by decide +kernel
theorem dL_isSo_132 : decode cL_isSo 132 = .ok (.if_icmp .ne 188, 3) := by decide +kernel
theorem dL_isSo_135 : decode cL_isSo 135 = .ok (.aload_n 0, 1) := by decide +kernel
theorem dL_isSo_136 : decode cL_isSo 136 = .ok (.bipush 7, 2) := by decide +kernel
theorem dL_isSo_138 : decode cL_isSo 138 = .ok (.invokevirtual 92, 3) := by decide +kernel
theorem dL_isSo_141 : decode cL_isSo 141 = .ok (.aload_n 2, 1) := by decide +kernel
theorem dL_isSo_142 : decode cL_isSo 142 = .ok (.bipush 8, 2) := by decide +kernel
theorem dL_isSo_144 : decode cL_isSo 144 = .ok (.iaload, 1) := by decide +kernel
theorem dL_isSo_145 : decode cL_isSo 145 = .ok (.if_icmp .ne 175, 3) := by decide +kernel
theorem dL_isSo_148 : decode cL_isSo 148 = .ok (.aload_n 0, 1) := by decide +kernel
theorem dL_isSo_149 : decode cL_isSo 149 = .ok (.bipush 8, 2) := by decide +kernel
theorem dL_isSo_151 : decode cL_isSo 151 = .ok (.invokevirtual 92, 3) := by decide +kernel
theorem dL_isSo_154 : decode cL_isSo 154 = .ok (.aload_n 2, 1) := by decide +kernel
theorem dL_isSo_155 : decode cL_isSo 155 = .ok (.bipush 9, 2) := by decide +kernel
theorem dL_isSo_157 : decode cL_isSo 157 = .ok (.iaload, 1) := by decide +kernel
theorem dL_isSo_158 : decode cL_isSo 158 = .ok (.if_icmp .ne 162, 3) := by decide +kernel
theorem dL_isSo_161 : decode cL_isSo 161 = .ok (.aload_n 0, 1) := by decide +kernel
theorem dL_isSo_162 : decode cL_isSo 162 = .ok (.bipush 9, 2) := by decide +kernel
theorem dL_isSo_164 : decode cL_isSo 164 = .ok (.invokevirtual 92, 3) := by decide +kernel
theorem dL_isSo_167 : decode cL_isSo 167 = .ok (.aload_n 2, 1) := by decide +kernel
theorem dL_isSo_168 : decode cL_isSo 168 = .ok (.bipush 10, 2) := by decide +kernel
theorem dL_isSo_170 : decode cL_isSo 170 = .ok (.iaload, 1) := by decide +kernel
theorem dL_isSo_171 : decode cL_isSo 171 = .ok (.if_icmp .ne 149, 3) := by decide +kernel
theorem dL_isSo_174 : decode cL_isSo 174 = .ok (.aload_n 0, 1) := by decide +kernel
theorem dL_isSo_175 : decode cL_isSo 175 = .ok (.bipush 10, 2) := by decide +kernel
theorem dL_isSo_177 : decode cL_isSo 177 = .ok (.invokevirtual 92, 3) := by decide +kernel
theorem dL_isSo_180 : decode cL_isSo 180 = .ok (.iload 10, 2) := by decide +kernel
theorem dL_isSo_182 : decode cL_isSo 182 = .ok (.if_icmp .ne 138, 3) := by decide +kernel
theorem dL_isSo_185 : decode cL_isSo 185 = .ok (.aload_n 0, 1) := by decide +kernel
theorem dL_isSo_186 : decode cL_isSo 186 = .ok (.bipush 11, 2) := by decide +kernel
theorem dL_isSo_188 : decode cL_isSo 188 = .ok (.invokevirtual 92, 3) := by decide +kernel
theorem dL_isSo_191 : decode cL_isSo 191 = .ok (.aload_n 2, 1) := by decide +kernel
theorem dL_isSo_192 : decode cL_isSo 192 = .ok (.iconst 1, 1) := by decide +kernel
theorem dL_isSo_193 : decode cL_isSo 193 = .ok (.iaload, 1) := by decide +kernel
theorem dL_isSo_194 : decode cL_isSo 194 = .ok (.aload 5, 2) := by decide +kernel
theorem dL_isSo_196 : decode cL_isSo 196 = .ok (.invokestatic 24, 3) := by decide +kernel
theorem dL_isSo_199 : decode cL_isSo 199 = .ok (.if_icmp .ne 121, 3) := by decide +kernel
theorem dL_isSo_202 : decode cL_isSo 202 = .ok (.aload_n 0, 1) := by decide +kernel
theorem dL_isSo_203 : decode cL_isSo 203 = .ok (.invokevirtual 109, 3) := by decide +kernel
theorem dL_isSo_206 : decode cL_isSo 206 = .ok (.aload_n 2, 1) := by decide +kernel
theorem dL_isSo_207 : decode cL_isSo 207 = .ok (.aload 7, 2) := by decide +kernel
theorem dL_isSo_209 : decode cL_isSo 209 = .ok (.aload 8, 2) := by decide +kernel
theorem dL_isSo_211 : decode cL_isSo 211 = .ok (.aload 9, 2) := by decide +kernel
theorem dL_isSo_213 : decode cL_isSo 213 = .ok (.invokestatic 85, 3) := by decide +kernel
theorem dL_isSo_216 : decode cL_isSo 216 = .ok (.if_icmp .ne 104, 3) := by decide +kernel
theorem dL_isSo_219 : decode cL_isSo 219 = .ok (.aload_n 0, 1) := by decide +kernel
theorem dL_isSo_220 : decode cL_isSo 220 = .ok (.iconst 0, 1) := by decide +kernel
theorem dL_isSo_221 : decode cL_isSo 221 = .ok (.invokevirtual 111, 3) := by decide +kernel
theorem dL_isSo_224 : decode cL_isSo 224 = .ok (.iload 11, 2) := by decide +kernel
theorem dL_isSo_226 : decode cL_isSo 226 = .ok (.if_icmp .ne 94, 3) := by decide +kernel
theorem dL_isSo_229 : decode cL_isSo 229 = .ok (.aload_n 0, 1) := by decide +kernel
theorem dL_isSo_230 : decode cL_isSo 230 = .ok (.iconst 1, 1) := by decide +kernel
theorem dL_isSo_231 : decode cL_isSo 231 = .ok (.invokevirtual 111, 3) := by decide +kernel
theorem dL_isSo_234 : decode cL_isSo 234 = .ok (.iload 11, 2) := by decide +kernel
theorem dL_isSo_236 : decode cL_isSo 236 = .ok (.if_icmp .ne 84, 3) := by decide +kernel
theorem dL_isSo_239 : decode cL_isSo 239 = .ok (.aload_n 0, 1) := by decide +kernel
theorem dL_isSo_240 : decode cL_isSo 240 = .ok (.iload 12, 2) := by decide +kernel
theorem dL_isSo_242 : decode cL_isSo 242 = .ok (.iconst 0, 1) := by decide +kernel
theorem dL_isSo_243 : decode cL_isSo 243 = .ok (.invokevirtual 114, 3) := by decide +kernel
theorem dL_isSo_246 : decode cL_isSo 246 = .ok (.aload_n 3, 1) := by decide +kernel
theorem dL_isSo_247 : decode cL_isSo 247 = .ok (.iload 12, 2) := by decide +kernel
theorem dL_isSo_249 : decode cL_isSo 249 = .ok (.iaload, 1) := by decide +kernel
theorem dL_isSo_250 : decode cL_isSo 250 = .ok (.if_icmp .ne 70, 3) := by decide +kernel
theorem dL_isSo_253 : decode cL_isSo 253 = .ok (.aload_n 0, 1) := by decide +kernel
theorem dL_isSo_254 : decode cL_isSo 254 = .ok (.iload 12, 2) := by decide +kernel
theorem dL_isSo_256 : decode cL_isSo 256 = .ok (.iconst 1, 1) := by decide +kernel
theorem dL_isSo_257 : decode cL_isSo 257 = .ok (.invokevirtual 114, 3) := by decide +kernel
theorem dL_isSo_260 : decode cL_isSo 260 = .ok (.aload 4, 2) := by decide +kernel
theorem dL_isSo_262 : decode cL_isSo 262 = .ok (.iload 12, 2) := by decide +kernel
theorem dL_isSo_264 : decode cL_isSo 264 = .ok (.iaload, 1) := by decide +kernel
theorem dL_isSo_265 : decode cL_isSo 265 = .ok (.if_icmp .ne 55, 3) := by decide +kernel
theorem dL_isSo_268 : decode cL_isSo 268 = .ok (.aload_n 0, 1) := by decide +kernel
theorem dL_isSo_269 : decode cL_isSo 269 = .ok (.aload_n 3, 1) := by decide +kernel
theorem dL_isSo_270 : decode cL_isSo 270 = .ok (.iload 12, 2) := by decide +kernel
theorem dL_isSo_272 : decode cL_isSo 272 = .ok (.iaload, 1) := by decide +kernel
theorem dL_isSo_273 : decode cL_isSo 273 = .ok (.iconst 0, 1) := by decide +kernel
theorem dL_isSo_274 : decode cL_isSo 274 = .ok (.invokevirtual 100, 3) := by decide +kernel
theorem dL_isSo_277 : decode cL_isSo 277 = .ok (.iload 12, 2) := by decide +kernel
theorem dL_isSo_279 : decode cL_isSo 279 = .ok (.if_icmp .ne 41, 3) := by decide +kernel
theorem dL_isSo_282 : decode cL_isSo 282 = .ok (.aload_n 0, 1) := by decide +kernel
theorem dL_isSo_283 : decode cL_isSo 283 = .ok (.iload 12, 2) := by decide +kernel
theorem dL_isSo_285 : decode cL_isSo 285 = .ok (.iconst 1, 1) := by decide +kernel
theorem dL_isSo_286 : decode cL_isSo 286 = .ok (.invokevirtual 100, 3) := by decide +kernel
theorem dL_isSo_289 : decode cL_isSo 289 = .ok (.bipush 100, 2) := by decide +kernel
theorem dL_isSo_291 : decode cL_isSo 291 = .ok (.iload 12, 2) := by decide +kernel
theorem dL_isSo_293 : decode cL_isSo 293 = .ok (.bipush 6, 2) := by decide +kernel
theorem dL_isSo_295 : decode cL_isSo 295 = .ok (.irem, 1) := by decide +kernel
theorem dL_isSo_296 : decode cL_isSo 296 = .ok (.iconst 3, 1) := by decide +kernel
theorem dL_isSo_297 : decode cL_isSo 297 = .ok (.if_icmp .ge 7, 3) := by decide +kernel
theorem dL_isSo_300 : decode cL_isSo 300 = .ok (.iconst 0, 1) := by decide +kernel
theorem dL_isSo_301 : decode cL_isSo 301 = .ok (.goto 11, 3) := by decide +kernel
theorem dL_isSo_304 : decode cL_isSo 304 = .ok (.aload 5, 2) := by decide +kernel
theorem dL_isSo_306 : decode cL_isSo 306 = .ok (.iload 12, 2) := by decide +kernel
theorem dL_isSo_308 : decode cL_isSo 308 = .ok (.invokestatic 71, 3) := by decide +kernel
theorem dL_isSo_311 : decode cL_isSo 311 = .ok (.iaload, 1) := by decide +kernel
theorem dL_isSo_312 : decode cL_isSo 312 = .ok (.iadd, 1) := by decide +kernel
theorem dL_isSo_313 : decode cL_isSo 313 = .ok (.if_icmp .ne 7, 3) := by decide +kernel
theorem dL_isSo_316 : decode cL_isSo 316 = .ok (.iconst 1, 1) := by decide +kernel
theorem dL_isSo_317 : decode cL_isSo 317 = .ok (.goto 4, 3) := by decide +kernel
theorem dL_isSo_320 : decode cL_isSo 320 = .ok (.iconst 0, 1) := by decide +kernel
theorem dL_isSo_321 : decode cL_isSo 321 = .ok (.istore 13, 2) := by decide +kernel
theorem dL_isSo_323 : decode cL_isSo 323 = .ok (.iconst 0, 1) := by decide +kernel
theorem dL_isSo_324 : decode cL_isSo 324 = .ok (.istore 14, 2) := by decide +kernel
theorem dL_isSo_326 : decode cL_isSo 326 = .ok (.iload 14, 2) := by decide +kernel
theorem dL_isSo_328 : decode cL_isSo 328 = .ok (.iconst 4, 1) := by decide +kernel
theorem dL_isSo_329 : decode cL_isSo 329 = .ok (.if_icmp .ge 37, 3) := by decide +kernel
theorem dL_isSo_332 : decode cL_isSo 332 = .ok (.iload 13, 2) := by decide +kernel
theorem dL_isSo_334 : decode cL_isSo 334 = .ok (.ifCond .eq 23, 3) := by decide +kernel
theorem dL_isSo_337 : decode cL_isSo 337 = .ok (.aload_n 0, 1) := by decide +kernel
theorem dL_isSo_338 : decode cL_isSo 338 = .ok (.bipush 14, 2) := by decide +kernel
theorem dL_isSo_340 : decode cL_isSo 340 = .ok (.iload 14, 2) := by decide +kernel
theorem dL_isSo_342 : decode cL_isSo 342 = .ok (.iadd, 1) := by decide +kernel
theorem dL_isSo_343 : decode cL_isSo 343 = .ok (.invokevirtual 92, 3) := by decide +kernel
theorem dL_isSo_346 : decode cL_isSo 346 = .ok (.aload_n 2, 1) := by decide +kernel
theorem dL_isSo_347 : decode cL_isSo 347 = .ok (.iload 14, 2) := by decide +kernel
theorem dL_isSo_349 : decode cL_isSo 349 = .ok (.iaload, 1) := by decide +kernel
theorem dL_isSo_350 : decode cL_isSo 350 = .ok (.if_icmp .ne 7, 3) := by decide +kernel
theorem dL_isSo_353 : decode cL_isSo 353 = .ok (.iconst 1, 1) := by decide +kernel
theorem dL_isSo_354 : decode cL_isSo 354 = .ok (.goto 4, 3) := by decide +kernel
theorem dL_isSo_357 : decode cL_isSo 357 = .ok (.iconst 0, 1) := by decide +kernel
theorem dL_isSo_358 : decode cL_isSo 358 = .ok (.istore 13, 2) := by decide +kernel
theorem dL_isSo_360 : decode cL_isSo 360 = .ok (.iinc 14 1, 3) := by decide +kernel
theorem dL_isSo_363 : decode cL_isSo 363 = .ok (.goto (-37), 3) := by decide +kernel
theorem dL_isSo_366 : decode cL_isSo 366 = .ok (.iload_n 1, 1) := by decide +kernel
theorem dL_isSo_367 : decode cL_isSo 367 = .ok (.iconst 5, 1) := by decide +kernel
theorem dL_isSo_368 : decode cL_isSo 368 = .ok (.ishr, 1) := by decide +kernel
theorem dL_isSo_369 : decode cL_isSo 369 = .ok (.bipush 7, 2) := by decide +kernel
theorem dL_isSo_371 : decode cL_isSo 371 = .ok (.invokestatic 89, 3) := by decide +kernel
theorem dL_isSo_374 : decode cL_isSo 374 = .ok (.istore 14, 2) := by decide +kernel
theorem dL_isSo_376 : decode cL_isSo 376 = .ok (.iload 14, 2) := by decide +kernel
theorem dL_isSo_378 : decode cL_isSo 378 = .ok (.aload_n 2, 1) := by decide +kernel
theorem dL_isSo_379 : decode cL_isSo 379 = .ok (.iconst 5, 1) := by decide +kernel
theorem dL_isSo_380 : decode cL_isSo 380 = .ok (.iaload, 1) := by decide +kernel
theorem dL_isSo_381 : decode cL_isSo 381 = .ok (.if_icmp .ge 7, 3) := by decide +kernel
theorem dL_isSo_384 : decode cL_isSo 384 = .ok (.iconst 1, 1) := by decide +kernel
theorem dL_isSo_385 : decode cL_isSo 385 = .ok (.goto 4, 3) := by decide +kernel
theorem dL_isSo_388 : decode cL_isSo 388 = .ok (.iconst 0, 1) := by decide +kernel
theorem dL_isSo_389 : decode cL_isSo 389 = .ok (.istore 15, 2) := by decide +kernel
theorem dL_isSo_391 : decode cL_isSo 391 = .ok (.iload 15, 2) := by decide +kernel
theorem dL_isSo_393 : decode cL_isSo 393 = .ok (.ifCond .eq 21, 3) := by decide +kernel
theorem dL_isSo_396 : decode cL_isSo 396 = .ok (.aload_n 2, 1) := by decide +kernel
theorem dL_isSo_397 : decode cL_isSo 397 = .ok (.iconst 5, 1) := by decide +kernel
theorem dL_isSo_398 : decode cL_isSo 398 = .ok (.iaload, 1) := by decide +kernel
theorem dL_isSo_399 : decode cL_isSo 399 = .ok (.iconst 1, 1) := by decide +kernel
theorem dL_isSo_400 : decode cL_isSo 400 = .ok (.isub, 1) := by decide +kernel
theorem dL_isSo_401 : decode cL_isSo 401 = .ok (.iload 14, 2) := by decide +kernel
theorem dL_isSo_403 : decode cL_isSo 403 = .ok (.isub, 1) := by decide +kernel
theorem dL_isSo_404 : decode cL_isSo 404 = .ok (.iload 12, 2) := by decide +kernel
theorem dL_isSo_406 : decode cL_isSo 406 = .ok (.aload 6, 2) := by decide +kernel
theorem dL_isSo_408 : decode cL_isSo 408 = .ok (.invokestatic 16, 3) := by decide +kernel
theorem dL_isSo_411 : decode cL_isSo 411 = .ok (.goto 4, 3) := by decide +kernel
theorem dL_isSo_414 : decode cL_isSo 414 = .ok (.iconst 0, 1) := by decide +kernel
theorem dL_isSo_415 : decode cL_isSo 415 = .ok (.istore 16, 2) := by decide +kernel
theorem dL_isSo_417 : decode cL_isSo 417 = .ok (.iload 13, 2) := by decide +kernel
theorem dL_isSo_419 : decode cL_isSo 419 = .ok (.ifCond .eq 58, 3) := by decide +kernel
theorem dL_isSo_422 : decode cL_isSo 422 = .ok (.aload_n 0, 1) := by decide +kernel
theorem dL_isSo_423 : decode cL_isSo 423 = .ok (.iload 14, 2) := by decide +kernel
theorem dL_isSo_425 : decode cL_isSo 425 = .ok (.iload 12, 2) := by decide +kernel
theorem dL_isSo_427 : decode cL_isSo 427 = .ok (.iconst 0, 1) := by decide +kernel
theorem dL_isSo_428 : decode cL_isSo 428 = .ok (.invokevirtual 117, 3) := by decide +kernel
theorem dL_isSo_431 : decode cL_isSo 431 = .ok (.iload 15, 2) := by decide +kernel
theorem dL_isSo_433 : decode cL_isSo 433 = .ok (.ifCond .eq 11, 3) := by decide +kernel
theorem dL_isSo_436 : decode cL_isSo 436 = .ok (.iload 16, 2) := by decide +kernel
theorem dL_isSo_438 : decode cL_isSo 438 = .ok (.bipush 31, 2) := by decide +kernel
theorem dL_isSo_440 : decode cL_isSo 440 = .ok (.iand, 1) := by decide +kernel
theorem dL_isSo_441 : decode cL_isSo 441 = .ok (.goto 4, 3) := by decide +kernel
theorem dL_isSo_444 : decode cL_isSo 444 = .ok (.iconst (-1), 1) := by decide +kernel
theorem dL_isSo_445 : decode cL_isSo 445 = .ok (.if_icmp .ne 32, 3) := by decide +kernel
theorem dL_isSo_448 : decode cL_isSo 448 = .ok (.aload_n 0, 1) := by decide +kernel
theorem dL_isSo_449 : decode cL_isSo 449 = .ok (.iload 14, 2) := by decide +kernel
theorem dL_isSo_451 : decode cL_isSo 451 = .ok (.iload 12, 2) := by decide +kernel
theorem dL_isSo_453 : decode cL_isSo 453 = .ok (.iconst 1, 1) := by decide +kernel
theorem dL_isSo_454 : decode cL_isSo 454 = .ok (.invokevirtual 117, 3) := by decide +kernel
theorem dL_isSo_457 : decode cL_isSo 457 = .ok (.iload 15, 2) := by decide +kernel
theorem dL_isSo_459 : decode cL_isSo 459 = .ok (.ifCond .eq 10, 3) := by decide +kernel
theorem dL_isSo_462 : decode cL_isSo 462 = .ok (.iload 16, 2) := by decide +kernel
theorem dL_isSo_464 : decode cL_isSo 464 = .ok (.iconst 5, 1) := by decide +kernel
theorem dL_isSo_465 : decode cL_isSo 465 = .ok (.ishr, 1) := by decide +kernel
theorem dL_isSo_466 : decode cL_isSo 466 = .ok (.goto 4, 3) := by decide +kernel
theorem dL_isSo_469 : decode cL_isSo 469 = .ok (.iconst (-1), 1) := by decide +kernel
theorem dL_isSo_470 : decode cL_isSo 470 = .ok (.if_icmp .ne 7, 3) := by decide +kernel
theorem dL_isSo_473 : decode cL_isSo 473 = .ok (.iconst 1, 1) := by decide +kernel
theorem dL_isSo_474 : decode cL_isSo 474 = .ok (.goto 4, 3) := by decide +kernel
theorem dL_isSo_477 : decode cL_isSo 477 = .ok (.iconst 0, 1) := by decide +kernel
theorem dL_isSo_478 : decode cL_isSo 478 = .ok (.istore 13, 2) := by decide +kernel
theorem dL_isSo_480 : decode cL_isSo 480 = .ok (.bipush (-4), 2) := by decide +kernel
theorem dL_isSo_482 : decode cL_isSo 482 = .ok (.istore 17, 2) := by decide +kernel
theorem dL_isSo_484 : decode cL_isSo 484 = .ok (.bipush 25, 2) := by decide +kernel
theorem dL_isSo_486 : decode cL_isSo 486 = .ok (.istore 18, 2) := by decide +kernel
theorem dL_isSo_488 : decode cL_isSo 488 = .ok (.iconst 0, 1) := by decide +kernel
theorem dL_isSo_489 : decode cL_isSo 489 = .ok (.istore 19, 2) := by decide +kernel
theorem dL_isSo_491 : decode cL_isSo 491 = .ok (.iload 19, 2) := by decide +kernel
theorem dL_isSo_493 : decode cL_isSo 493 = .ok (.iconst 4, 1) := by decide +kernel
theorem dL_isSo_494 : decode cL_isSo 494 = .ok (.if_icmp .ge 101, 3) := by decide +kernel
theorem dL_isSo_497 : decode cL_isSo 497 = .ok (.aload_n 2, 1) := by decide +kernel
theorem dL_isSo_498 : decode cL_isSo 498 = .ok (.iconst 5, 1) := by decide +kernel
theorem dL_isSo_499 : decode cL_isSo 499 = .ok (.iaload, 1) := by decide +kernel
theorem dL_isSo_500 : decode cL_isSo 500 = .ok (.ifCond .le 95, 3) := by decide +kernel
theorem dL_isSo_503 : decode cL_isSo 503 = .ok (.iconst 0, 1) := by decide +kernel
theorem dL_isSo_504 : decode cL_isSo 504 = .ok (.istore 20, 2) := by decide +kernel
theorem dL_isSo_506 : decode cL_isSo 506 = .ok (.iconst 0, 1) := by decide +kernel
theorem dL_isSo_507 : decode cL_isSo 507 = .ok (.istore 21, 2) := by decide +kernel
theorem dL_isSo_509 : decode cL_isSo 509 = .ok (.iload 21, 2) := by decide +kernel
theorem dL_isSo_511 : decode cL_isSo 511 = .ok (.bipush 24, 2) := by decide +kernel
theorem dL_isSo_513 : decode cL_isSo 513 = .ok (.if_icmp .ge 44, 3) := by decide +kernel
theorem dL_isSo_516 : decode cL_isSo 516 = .ok (.iload 20, 2) := by decide +kernel
theorem dL_isSo_518 : decode cL_isSo 518 = .ok (.aload_n 2, 1) := by decide +kernel
theorem dL_isSo_519 : decode cL_isSo 519 = .ok (.iconst 5, 1) := by decide +kernel
theorem dL_isSo_520 : decode cL_isSo 520 = .ok (.iaload, 1) := by decide +kernel
theorem dL_isSo_521 : decode cL_isSo 521 = .ok (.iconst 1, 1) := by decide +kernel
theorem dL_isSo_522 : decode cL_isSo 522 = .ok (.isub, 1) := by decide +kernel
theorem dL_isSo_523 : decode cL_isSo 523 = .ok (.iload 21, 2) := by decide +kernel
theorem dL_isSo_525 : decode cL_isSo 525 = .ok (.iload 19, 2) := by decide +kernel
theorem dL_isSo_527 : decode cL_isSo 527 = .ok (.invokestatic 10, 3) := by decide +kernel
theorem dL_isSo_530 : decode cL_isSo 530 = .ok (.aload 6, 2) := by decide +kernel
theorem dL_isSo_532 : decode cL_isSo 532 = .ok (.invokestatic 16, 3) := by decide +kernel
theorem dL_isSo_535 : decode cL_isSo 535 = .ok (.bipush 31, 2) := by decide +kernel
theorem dL_isSo_537 : decode cL_isSo 537 = .ok (.iand, 1) := by decide +kernel
theorem dL_isSo_538 : decode cL_isSo 538 = .ok (.iload 21, 2) := by decide +kernel
theorem dL_isSo_540 : decode cL_isSo 540 = .ok (.if_icmp .ne 7, 3) := by decide +kernel
theorem dL_isSo_543 : decode cL_isSo 543 = .ok (.iconst 1, 1) := by decide +kernel
theorem dL_isSo_544 : decode cL_isSo 544 = .ok (.goto 4, 3) := by decide +kernel
theorem dL_isSo_547 : decode cL_isSo 547 = .ok (.iconst 0, 1) := by decide +kernel
theorem dL_isSo_548 : decode cL_isSo 548 = .ok (.iadd, 1) := by decide +kernel
theorem dL_isSo_549 : decode cL_isSo 549 = .ok (.istore 20, 2) := by decide +kernel
theorem dL_isSo_551 : decode cL_isSo 551 = .ok (.iinc 21 1, 3) := by decide +kernel
theorem dL_isSo_554 : decode cL_isSo 554 = .ok (.goto (-45), 3) := by decide +kernel
theorem dL_isSo_557 : decode cL_isSo 557 = .ok (.iload 20, 2) := by decide +kernel
theorem dL_isSo_559 : decode cL_isSo 559 = .ok (.iload 18, 2) := by decide +kernel
theorem dL_isSo_561 : decode cL_isSo 561 = .ok (.if_icmp .ge 8, 3) := by decide +kernel
theorem dL_isSo_564 : decode cL_isSo 564 = .ok (.iload 19, 2) := by decide +kernel
theorem dL_isSo_566 : decode cL_isSo 566 = .ok (.goto 5, 3) := by decide +kernel
theorem dL_isSo_569 : decode cL_isSo 569 = .ok (.iload 17, 2) := by decide +kernel
theorem dL_isSo_571 : decode cL_isSo 571 = .ok (.istore 17, 2) := by decide +kernel
theorem dL_isSo_573 : decode cL_isSo 573 = .ok (.iload 20, 2) := by decide +kernel
theorem dL_isSo_575 : decode cL_isSo 575 = .ok (.iload 18, 2) := by decide +kernel
theorem dL_isSo_577 : decode cL_isSo 577 = .ok (.if_icmp .ge 8, 3) := by decide +kernel
theorem dL_isSo_580 : decode cL_isSo 580 = .ok (.iload 20, 2) := by decide +kernel
theorem dL_isSo_582 : decode cL_isSo 582 = .ok (.goto 5, 3) := by decide +kernel
theorem dL_isSo_585 : decode cL_isSo 585 = .ok (.iload 18, 2) := by decide +kernel
theorem dL_isSo_587 : decode cL_isSo 587 = .ok (.istore 18, 2) := by decide +kernel
theorem dL_isSo_589 : decode cL_isSo 589 = .ok (.iinc 19 1, 3) := by decide +kernel
theorem dL_isSo_592 : decode cL_isSo 592 = .ok (.goto (-101), 3) := by decide +kernel
theorem dL_isSo_595 : decode cL_isSo 595 = .ok (.iload 13, 2) := by decide +kernel
theorem dL_isSo_597 : decode cL_isSo 597 = .ok (.ifCond .eq 32, 3) := by decide +kernel
theorem dL_isSo_600 : decode cL_isSo 600 = .ok (.aload_n 0, 1) := by decide +kernel
theorem dL_isSo_601 : decode cL_isSo 601 = .ok (.invokevirtual 121, 3) := by decide +kernel
theorem dL_isSo_604 : decode cL_isSo 604 = .ok (.iload 17, 2) := by decide +kernel
theorem dL_isSo_606 : decode cL_isSo 606 = .ok (.if_icmp .ne 23, 3) := by decide +kernel
theorem dL_isSo_609 : decode cL_isSo 609 = .ok (.aload_n 0, 1) := by decide +kernel
theorem dL_isSo_610 : decode cL_isSo 610 = .ok (.iload_n 1, 1) := by decide +kernel
theorem dL_isSo_611 : decode cL_isSo 611 = .ok (.bipush 8, 2) := by decide +kernel
theorem dL_isSo_613 : decode cL_isSo 613 = .ok (.ishr, 1) := by decide +kernel
theorem dL_isSo_614 : decode cL_isSo 614 = .ok (.aload_n 2, 1) := by decide +kernel
theorem dL_isSo_615 : decode cL_isSo 615 = .ok (.aload 7, 2) := by decide +kernel
theorem dL_isSo_617 : decode cL_isSo 617 = .ok (.aload 8, 2) := by decide +kernel
theorem dL_isSo_619 : decode cL_isSo 619 = .ok (.invokestatic 124, 3) := by decide +kernel
theorem dL_isSo_622 : decode cL_isSo 622 = .ok (.ifCond .eq 7, 3) := by decide +kernel
theorem dL_isSo_625 : decode cL_isSo 625 = .ok (.iconst 1, 1) := by decide +kernel
theorem dL_isSo_626 : decode cL_isSo 626 = .ok (.goto 4, 3) := by decide +kernel
theorem dL_isSo_629 : decode cL_isSo 629 = .ok (.iconst 0, 1) := by decide +kernel
theorem dL_isSo_630 : decode cL_isSo 630 = .ok (.ireturn, 1) := by decide +kernel
theorem dL_told_0 : decode cL_told 0 = .ok (.ldc2_w 128, 3) := by decide +kernel
theorem dL_told_3 : decode cL_told 3 = .ok (.lstore_n 1, 1) := by decide +kernel
theorem dL_told_4 : decode cL_told 4 = .ok (.iconst 0, 1) := by decide +kernel
theorem dL_told_5 : decode cL_told 5 = .ok (.istore_n 3, 1) := by decide +kernel
theorem dL_told_6 : decode cL_told 6 = .ok (.iload_n 3, 1) := by decide +kernel
theorem dL_told_7 : decode cL_told 7 = .ok (.bipush 18, 2) := by decide +kernel
theorem dL_told_9 : decode cL_told 9 = .ok (.if_icmp .ge 38, 3) := by decide +kernel
theorem dL_told_12 : decode cL_told 12 = .ok (.ldc2_w 130, 3) := by decide +kernel
theorem dL_told_15 : decode cL_told 15 = .ok (.lload_n 1, 1) := by decide +kernel
theorem dL_told_16 : decode cL_told 16 = .ok (.lmul, 1) := by decide +kernel
theorem dL_told_17 : decode cL_told 17 = .ok (.iload_n 3, 1) := by decide +kernel
theorem dL_told_18 : decode cL_told 18 = .ok (.bipush 12, 2) := by decide +kernel
theorem dL_told_20 : decode cL_told 20 = .ok (.if_icmp .eq 9, 3) := by decide +kernel
theorem dL_told_23 : decode cL_told 23 = .ok (.iload_n 3, 1) := by decide +kernel
theorem dL_told_24 : decode cL_told 24 = .ok (.bipush 13, 2) := by decide +kernel
theorem dL_told_26 : decode cL_told 26 = .ok (.if_icmp .ne 7, 3) := by decide +kernel
theorem dL_told_29 : decode cL_told 29 = .ok (.iconst 0, 1) := by decide +kernel
theorem dL_told_30 : decode cL_told 30 = .ok (.goto 8, 3) := by decide +kernel
theorem dL_told_33 : decode cL_told 33 = .ok (.aload_n 0, 1) := by decide +kernel
theorem dL_told_34 : decode cL_told 34 = .ok (.iload_n 3, 1) := by decide +kernel
theorem dL_told_35 : decode cL_told 35 = .ok (.invokevirtual 92, 3) := by decide +kernel
theorem dL_told_38 : decode cL_told 38 = .ok (.i2l, 1) := by decide +kernel
theorem dL_told_39 : decode cL_told 39 = .ok (.ladd, 1) := by decide +kernel
theorem dL_told_40 : decode cL_told 40 = .ok (.lstore_n 1, 1) := by decide +kernel
theorem dL_told_41 : decode cL_told 41 = .ok (.iinc 3 1, 3) := by decide +kernel
theorem dL_told_44 : decode cL_told 44 = .ok (.goto (-38), 3) := by decide +kernel
theorem dL_told_47 : decode cL_told 47 = .ok (.iconst 0, 1) := by decide +kernel
theorem dL_told_48 : decode cL_told 48 = .ok (.istore_n 3, 1) := by decide +kernel
theorem dL_told_49 : decode cL_told 49 = .ok (.iload_n 3, 1) := by decide +kernel
theorem dL_told_50 : decode cL_told 50 = .ok (.bipush 24, 2) := by decide +kernel
theorem dL_told_52 : decode cL_told 52 = .ok (.if_icmp .ge 97, 3) := by decide +kernel
theorem dL_told_55 : decode cL_told 55 = .ok (.ldc2_w 130, 3) := by decide +kernel
theorem dL_told_58 : decode cL_told 58 = .ok (.ldc2_w 130, 3) := by decide +kernel
theorem dL_told_61 : decode cL_told 61 = .ok (.lload_n 1, 1) := by decide +kernel
theorem dL_told_62 : decode cL_told 62 = .ok (.lmul, 1) := by decide +kernel
theorem dL_told_63 : decode cL_told 63 = .ok (.aload_n 0, 1) := by decide +kernel
theorem dL_told_64 : decode cL_told 64 = .ok (.iload_n 3, 1) := by decide +kernel
theorem dL_told_65 : decode cL_told 65 = .ok (.iconst 0, 1) := by decide +kernel
theorem dL_told_66 : decode cL_told 66 = .ok (.invokevirtual 114, 3) := by decide +kernel
theorem dL_told_69 : decode cL_told 69 = .ok (.i2l, 1) := by decide +kernel
theorem dL_told_70 : decode cL_told 70 = .ok (.ladd, 1) := by decide +kernel
theorem dL_told_71 : decode cL_told 71 = .ok (.lmul, 1) := by decide +kernel
theorem dL_told_72 : decode cL_told 72 = .ok (.aload_n 0, 1) := by decide +kernel
theorem dL_told_73 : decode cL_told 73 = .ok (.iload_n 3, 1) := by decide +kernel
theorem dL_told_74 : decode cL_told 74 = .ok (.iconst 1, 1) := by decide +kernel
theorem dL_told_75 : decode cL_told 75 = .ok (.invokevirtual 114, 3) := by decide +kernel
theorem dL_told_78 : decode cL_told 78 = .ok (.i2l, 1) := by decide +kernel
theorem dL_told_79 : decode cL_told 79 = .ok (.ladd, 1) := by decide +kernel
theorem dL_told_80 : decode cL_told 80 = .ok (.lstore_n 1, 1) := by decide +kernel
theorem dL_told_81 : decode cL_told 81 = .ok (.ldc2_w 130, 3) := by decide +kernel
theorem dL_told_84 : decode cL_told 84 = .ok (.ldc2_w 130, 3) := by decide +kernel
theorem dL_told_87 : decode cL_told 87 = .ok (.lload_n 1, 1) := by decide +kernel
theorem dL_told_88 : decode cL_told 88 = .ok (.lmul, 1) := by decide +kernel
theorem dL_told_89 : decode cL_told 89 = .ok (.aload_n 0, 1) := by decide +kernel
theorem dL_told_90 : decode cL_told 90 = .ok (.iload_n 3, 1) := by decide +kernel
theorem dL_told_91 : decode cL_told 91 = .ok (.iconst 1, 1) := by decide +kernel
theorem dL_told_92 : decode cL_told 92 = .ok (.invokevirtual 100, 3) := by decide +kernel
theorem dL_told_95 : decode cL_told 95 = .ok (.i2l, 1) := by decide +kernel
theorem dL_told_96 : decode cL_told 96 = .ok (.ladd, 1) := by decide +kernel
theorem dL_told_97 : decode cL_told 97 = .ok (.lmul, 1) := by decide +kernel
theorem dL_told_98 : decode cL_told 98 = .ok (.aload_n 0, 1) := by decide +kernel
theorem dL_told_99 : decode cL_told 99 = .ok (.iload_n 3, 1) := by decide +kernel
theorem dL_told_100 : decode cL_told 100 = .ok (.iconst 2, 1) := by decide +kernel
theorem dL_told_101 : decode cL_told 101 = .ok (.invokevirtual 100, 3) := by decide +kernel
theorem dL_told_104 : decode cL_told 104 = .ok (.i2l, 1) := by decide +kernel
theorem dL_told_105 : decode cL_told 105 = .ok (.ladd, 1) := by decide +kernel
theorem dL_told_106 : decode cL_told 106 = .ok (.lstore_n 1, 1) := by decide +kernel
theorem dL_told_107 : decode cL_told 107 = .ok (.ldc2_w 130, 3) := by decide +kernel
theorem dL_told_110 : decode cL_told 110 = .ok (.ldc2_w 130, 3) := by decide +kernel
theorem dL_told_113 : decode cL_told 113 = .ok (.lload_n 1, 1) := by decide +kernel
theorem dL_told_114 : decode cL_told 114 = .ok (.lmul, 1) := by decide +kernel
theorem dL_told_115 : decode cL_told 115 = .ok (.aload_n 0, 1) := by decide +kernel
theorem dL_told_116 : decode cL_told 116 = .ok (.iconst 0, 1) := by decide +kernel
theorem dL_told_117 : decode cL_told 117 = .ok (.iload_n 3, 1) := by decide +kernel
theorem dL_told_118 : decode cL_told 118 = .ok (.iconst 0, 1) := by decide +kernel
theorem dL_told_119 : decode cL_told 119 = .ok (.invokevirtual 117, 3) := by decide +kernel
theorem dL_told_122 : decode cL_told 122 = .ok (.i2l, 1) := by decide +kernel
theorem dL_told_123 : decode cL_told 123 = .ok (.ladd, 1) := by decide +kernel
theorem dL_told_124 : decode cL_told 124 = .ok (.lmul, 1) := by decide +kernel
theorem dL_told_125 : decode cL_told 125 = .ok (.aload_n 0, 1) := by decide +kernel
theorem dL_told_126 : decode cL_told 126 = .ok (.iconst 5, 1) := by decide +kernel
theorem dL_told_127 : decode cL_told 127 = .ok (.iload_n 3, 1) := by decide +kernel
theorem dL_told_128 : decode cL_told 128 = .ok (.iconst 1, 1) := by decide +kernel
theorem dL_told_129 : decode cL_told 129 = .ok (.invokevirtual 117, 3) := by decide +kernel
theorem dL_told_132 : decode cL_told 132 = .ok (.i2l, 1) := by decide +kernel
theorem dL_told_133 : decode cL_told 133 = .ok (.ladd, 1) := by decide +kernel
theorem dL_told_134 : decode cL_told 134 = .ok (.aload_n 0, 1) := by decide +kernel
theorem dL_told_135 : decode cL_told 135 = .ok (.iload_n 3, 1) := by decide +kernel
theorem dL_told_136 : decode cL_told 136 = .ok (.iconst 3, 1) := by decide +kernel
theorem dL_told_137 : decode cL_told 137 = .ok (.invokevirtual 100, 3) := by decide +kernel
theorem dL_told_140 : decode cL_told 140 = .ok (.i2l, 1) := by decide +kernel
theorem dL_told_141 : decode cL_told 141 = .ok (.ladd, 1) := by decide +kernel
theorem dL_told_142 : decode cL_told 142 = .ok (.lstore_n 1, 1) := by decide +kernel
theorem dL_told_143 : decode cL_told 143 = .ok (.iinc 3 1, 3) := by decide +kernel
theorem dL_told_146 : decode cL_told 146 = .ok (.goto (-97), 3) := by decide +kernel
theorem dL_told_149 : decode cL_told 149 = .ok (.lload_n 1, 1) := by decide +kernel
theorem dL_told_150 : decode cL_told 150 = .ok (.lreturn, 1) := by decide +kernel
theorem dL_law_0 : decode cL_law 0 = .ok (.new 33, 3) := by decide +kernel
theorem dL_law_3 : decode cL_law 3 = .ok (.dup, 1) := by decide +kernel
theorem dL_law_4 : decode cL_law 4 = .ok (.invokespecial 132, 3) := by decide +kernel
theorem dL_law_7 : decode cL_law 7 = .ok (.astore_n 1, 1) := by decide +kernel
theorem dL_law_8 : decode cL_law 8 = .ok (.bipush 12, 2) := by decide +kernel
theorem dL_law_10 : decode cL_law 10 = .ok (.newarray .int, 2) := by decide +kernel
theorem dL_law_12 : decode cL_law 12 = .ok (.astore_n 2, 1) := by decide +kernel
theorem dL_law_13 : decode cL_law 13 = .ok (.bipush 24, 2) := by decide +kernel
theorem dL_law_15 : decode cL_law 15 = .ok (.newarray .int, 2) := by decide +kernel
theorem dL_law_17 : decode cL_law 17 = .ok (.astore_n 3, 1) := by decide +kernel
theorem dL_law_18 : decode cL_law 18 = .ok (.bipush 24, 2) := by decide +kernel
theorem dL_law_20 : decode cL_law 20 = .ok (.newarray .int, 2) := by decide +kernel
theorem dL_law_22 : decode cL_law 22 = .ok (.astore 4, 2) := by decide +kernel
theorem dL_law_24 : decode cL_law 24 = .ok (.bipush 12, 2) := by decide +kernel
theorem dL_law_26 : decode cL_law 26 = .ok (.newarray .int, 2) := by decide +kernel
theorem dL_law_28 : decode cL_law 28 = .ok (.astore 5, 2) := by decide +kernel
theorem dL_law_30 : decode cL_law 30 = .ok (.bipush 60, 2) := by decide +kernel
theorem dL_law_32 : decode cL_law 32 = .ok (.newarray .int, 2) := by decide +kernel
theorem dL_law_34 : decode cL_law 34 = .ok (.astore 6, 2) := by decide +kernel
theorem dL_law_36 : decode cL_law 36 = .ok (.bipush 24, 2) := by decide +kernel
theorem dL_law_38 : decode cL_law 38 = .ok (.newarray .int, 2) := by decide +kernel
theorem dL_law_40 : decode cL_law 40 = .ok (.astore 7, 2) := by decide +kernel
theorem dL_law_42 : decode cL_law 42 = .ok (.bipush 24, 2) := by decide +kernel
theorem dL_law_44 : decode cL_law 44 = .ok (.newarray .int, 2) := by decide +kernel
theorem dL_law_46 : decode cL_law 46 = .ok (.astore 8, 2) := by decide +kernel
theorem dL_law_48 : decode cL_law 48 = .ok (.bipush 12, 2) := by decide +kernel
theorem dL_law_50 : decode cL_law 50 = .ok (.newarray .int, 2) := by decide +kernel
theorem dL_law_52 : decode cL_law 52 = .ok (.astore 9, 2) := by decide +kernel
theorem dL_law_54 : decode cL_law 54 = .ok (.aload_n 2, 1) := by decide +kernel
theorem dL_law_55 : decode cL_law 55 = .ok (.iconst 0, 1) := by decide +kernel
theorem dL_law_56 : decode cL_law 56 = .ok (.bipush 10, 2) := by decide +kernel
theorem dL_law_58 : decode cL_law 58 = .ok (.iastore, 1) := by decide +kernel
theorem dL_law_59 : decode cL_law 59 = .ok (.aload_n 2, 1) := by decide +kernel
theorem dL_law_60 : decode cL_law 60 = .ok (.iconst 1, 1) := by decide +kernel
theorem dL_law_61 : decode cL_law 61 = .ok (.iconst 3, 1) := by decide +kernel
theorem dL_law_62 : decode cL_law 62 = .ok (.iastore, 1) := by decide +kernel
theorem dL_law_63 : decode cL_law 63 = .ok (.aload_n 2, 1) := by decide +kernel
theorem dL_law_64 : decode cL_law 64 = .ok (.iconst 2, 1) := by decide +kernel
theorem dL_law_65 : decode cL_law 65 = .ok (.iconst 4, 1) := by decide +kernel
theorem dL_law_66 : decode cL_law 66 = .ok (.iastore, 1) := by decide +kernel
theorem dL_law_67 : decode cL_law 67 = .ok (.aload_n 2, 1) := by decide +kernel
theorem dL_law_68 : decode cL_law 68 = .ok (.iconst 3, 1) := by decide +kernel
theorem dL_law_69 : decode cL_law 69 = .ok (.bipush 12, 2) := by decide +kernel
theorem dL_law_71 : decode cL_law 71 = .ok (.iastore, 1) := by decide +kernel
theorem dL_law_72 : decode cL_law 72 = .ok (.iconst 0, 1) := by decide +kernel
theorem dL_law_73 : decode cL_law 73 = .ok (.istore 10, 2) := by decide +kernel
theorem dL_law_75 : decode cL_law 75 = .ok (.iload 10, 2) := by decide +kernel
theorem dL_law_77 : decode cL_law 77 = .ok (.bipush 24, 2) := by decide +kernel
theorem dL_law_79 : decode cL_law 79 = .ok (.if_icmp .ge 15, 3) := by decide +kernel
theorem dL_law_82 : decode cL_law 82 = .ok (.aload_n 3, 1) := by decide +kernel
theorem dL_law_83 : decode cL_law 83 = .ok (.iload 10, 2) := by decide +kernel
theorem dL_law_85 : decode cL_law 85 = .ok (.iload 10, 2) := by decide +kernel
theorem dL_law_87 : decode cL_law 87 = .ok (.iastore, 1) := by decide +kernel
theorem dL_law_88 : decode cL_law 88 = .ok (.iinc 10 1, 3) := by decide +kernel
theorem dL_law_91 : decode cL_law 91 = .ok (.goto (-16), 3) := by decide +kernel
theorem dL_law_94 : decode cL_law 94 = .ok (.iconst 0, 1) := by decide +kernel
theorem dL_law_95 : decode cL_law 95 = .ok (.istore 10, 2) := by decide +kernel
theorem dL_law_97 : decode cL_law 97 = .ok (.iload 10, 2) := by decide +kernel
theorem dL_law_99 : decode cL_law 99 = .ok (.bipush 46, 2) := by decide +kernel
theorem dL_law_101 : decode cL_law 101 = .ok (.if_icmp .ge 613, 3) := by decide +kernel
theorem dL_law_104 : decode cL_law 104 = .ok (.aload_n 0, 1) := by decide +kernel
theorem dL_law_105 : decode cL_law 105 = .ok (.iconst 2, 1) := by decide +kernel
theorem dL_law_106 : decode cL_law 106 = .ok (.iload 10, 2) := by decide +kernel
theorem dL_law_108 : decode cL_law 108 = .ok (.imul, 1) := by decide +kernel
theorem dL_law_109 : decode cL_law 109 = .ok (.invokestatic 133, 3) := by decide +kernel
theorem dL_law_112 : decode cL_law 112 = .ok (.istore 11, 2) := by decide +kernel
theorem dL_law_114 : decode cL_law 114 = .ok (.aload_n 0, 1) := by decide +kernel
theorem dL_law_115 : decode cL_law 115 = .ok (.iconst 2, 1) := by decide +kernel
theorem dL_law_116 : decode cL_law 116 = .ok (.iload 10, 2) := by decide +kernel
theorem dL_law_118 : decode cL_law 118 = .ok (.imul, 1) := by decide +kernel
theorem dL_law_119 : decode cL_law 119 = .ok (.iconst 1, 1) := by decide +kernel
theorem dL_law_120 : decode cL_law 120 = .ok (.iadd, 1) := by decide +kernel
theorem dL_law_121 : decode cL_law 121 = .ok (.invokestatic 133, 3) := by decide +kernel
theorem dL_law_124 : decode cL_law 124 = .ok (.istore 12, 2) := by decide +kernel
theorem dL_law_126 : decode cL_law 126 = .ok (.iload 11, 2) := by decide +kernel
theorem dL_law_128 : decode cL_law 128 = .ok (.bipush 28, 2) := by decide +kernel
theorem dL_law_130 : decode cL_law 130 = .ok (.invokestatic 89, 3) := by decide +kernel
theorem dL_law_133 : decode cL_law 133 = .ok (.istore 13, 2) := by decide +kernel
theorem dL_law_135 : decode cL_law 135 = .ok (.iload 13, 2) := by decide +kernel
theorem dL_law_137 : decode cL_law 137 = .ok (.iconst 3, 1) := by decide +kernel
theorem dL_law_138 : decode cL_law 138 = .ok (.if_icmp .ge 7, 3) := by decide +kernel
theorem dL_law_141 : decode cL_law 141 = .ok (.iconst 0, 1) := by decide +kernel
theorem dL_law_142 : decode cL_law 142 = .ok (.goto 119, 3) := by decide +kernel
theorem dL_law_145 : decode cL_law 145 = .ok (.iload 13, 2) := by decide +kernel
theorem dL_law_147 : decode cL_law 147 = .ok (.bipush 9, 2) := by decide +kernel
theorem dL_law_149 : decode cL_law 149 = .ok (.if_icmp .ge 7, 3) := by decide +kernel
theorem dL_law_152 : decode cL_law 152 = .ok (.iconst 1, 1) := by decide +kernel
theorem dL_law_153 : decode cL_law 153 = .ok (.goto 108, 3) := by decide +kernel
theorem dL_law_156 : decode cL_law 156 = .ok (.iload 13, 2) := by decide +kernel
theorem dL_law_158 : decode cL_law 158 = .ok (.bipush 11, 2) := by decide +kernel
theorem dL_law_160 : decode cL_law 160 = .ok (.if_icmp .ge 7, 3) := by decide +kernel
theorem dL_law_163 : decode cL_law 163 = .ok (.iconst 2, 1) := by decide +kernel
theorem dL_law_164 : decode cL_law 164 = .ok (.goto 97, 3) := by decide +kernel
theorem dL_law_167 : decode cL_law 167 = .ok (.iload 13, 2) := by decide +kernel
theorem dL_law_169 : decode cL_law 169 = .ok (.bipush 13, 2) := by decide +kernel
theorem dL_law_171 : decode cL_law 171 = .ok (.if_icmp .ge 7, 3) := by decide +kernel
theorem dL_law_174 : decode cL_law 174 = .ok (.iconst 3, 1) := by decide +kernel
theorem dL_law_175 : decode cL_law 175 = .ok (.goto 86, 3) := by decide +kernel
theorem dL_law_178 : decode cL_law 178 = .ok (.iload 13, 2) := by decide +kernel
theorem dL_law_180 : decode cL_law 180 = .ok (.bipush 17, 2) := by decide +kernel
theorem dL_law_182 : decode cL_law 182 = .ok (.if_icmp .ge 7, 3) := by decide +kernel
theorem dL_law_185 : decode cL_law 185 = .ok (.iconst 4, 1) := by decide +kernel
theorem dL_law_186 : decode cL_law 186 = .ok (.goto 75, 3) := by decide +kernel
theorem dL_law_189 : decode cL_law 189 = .ok (.iload 13, 2) := by decide +kernel
theorem dL_law_191 : decode cL_law 191 = .ok (.bipush 20, 2) := by decide +kernel
theorem dL_law_193 : decode cL_law 193 = .ok (.if_icmp .ge 7, 3) := by decide +kernel
theorem dL_law_196 : decode cL_law 196 = .ok (.iconst 5, 1) := by decide +kernel
theorem dL_law_197 : decode cL_law 197 = .ok (.goto 64, 3) := by decide +kernel
theorem dL_law_200 : decode cL_law 200 = .ok (.iload 13, 2) := by decide +kernel
theorem dL_law_202 : decode cL_law 202 = .ok (.bipush 22, 2) := by decide +kernel
theorem dL_law_204 : decode cL_law 204 = .ok (.if_icmp .ge 8, 3) := by decide +kernel
theorem dL_law_207 : decode cL_law 207 = .ok (.bipush 6, 2) := by decide +kernel
theorem dL_law_209 : decode cL_law 209 = .ok (.goto 52, 3) := by decide +kernel
theorem dL_law_212 : decode cL_law 212 = .ok (.iload 13, 2) := by decide +kernel
theorem dL_law_214 : decode cL_law 214 = .ok (.bipush 24, 2) := by decide +kernel
theorem dL_law_216 : decode cL_law 216 = .ok (.if_icmp .ge 8, 3) := by decide +kernel
theorem dL_law_219 : decode cL_law 219 = .ok (.bipush 7, 2) := by decide +kernel
theorem dL_law_221 : decode cL_law 221 = .ok (.goto 40, 3) := by decide +kernel
theorem dL_law_224 : decode cL_law 224 = .ok (.iload 13, 2) := by decide +kernel
theorem dL_law_226 : decode cL_law 226 = .ok (.bipush 24, 2) := by decide +kernel
theorem dL_law_228 : decode cL_law 228 = .ok (.if_icmp .ne 8, 3) := by decide +kernel
theorem dL_law_231 : decode cL_law 231 = .ok (.bipush 8, 2) := by decide +kernel
theorem dL_law_233 : decode cL_law 233 = .ok (.goto 28, 3) := by decide +kernel
theorem dL_law_236 : decode cL_law 236 = .ok (.iload 13, 2) := by decide +kernel
theorem dL_law_238 : decode cL_law 238 = .ok (.bipush 25, 2) := by decide +kernel
theorem dL_law_240 : decode cL_law 240 = .ok (.if_icmp .ne 8, 3) := by decide +kernel
theorem dL_law_243 : decode cL_law 243 = .ok (.bipush 9, 2) := by decide +kernel
theorem dL_law_245 : decode cL_law 245 = .ok (.goto 16, 3) := by decide +kernel
theorem dL_law_248 : decode cL_law 248 = .ok (.iload 10, 2) := by decide +kernel
theorem dL_law_250 : decode cL_law 250 = .ok (.iconst 3, 1) := by decide +kernel
theorem dL_law_251 : decode cL_law 251 = .ok (.irem, 1) := by decide +kernel
theorem dL_law_252 : decode cL_law 252 = .ok (.ifCond .ne 8, 3) := by decide +kernel
theorem dL_law_255 : decode cL_law 255 = .ok (.bipush 10, 2) := by decide +kernel
theorem dL_law_257 : decode cL_law 257 = .ok (.goto 4, 3) := by decide +kernel
theorem dL_law_260 : decode cL_law 260 = .ok (.iconst 1, 1) := by decide +kernel
theorem dL_law_261 : decode cL_law 261 = .ok (.istore 13, 2) := by decide +kernel
theorem dL_law_263 : decode cL_law 263 = .ok (.iload 13, 2) := by decide +kernel
theorem dL_law_265 : decode cL_law 265 = .ok (.iconst 3, 1) := by decide +kernel
theorem dL_law_266 : decode cL_law 266 = .ok (.if_icmp .ge 13, 3) := by decide +kernel
theorem dL_law_269 : decode cL_law 269 = .ok (.iload 12, 2) := by decide +kernel
theorem dL_law_271 : decode cL_law 271 = .ok (.bipush 24, 2) := by decide +kernel
theorem dL_law_273 : decode cL_law 273 = .ok (.invokestatic 89, 3) := by decide +kernel
theorem dL_law_276 : decode cL_law 276 = .ok (.goto 65, 3) := by decide +kernel
theorem dL_law_279 : decode cL_law 279 = .ok (.iload 13, 2) := by decide +kernel
theorem dL_law_281 : decode cL_law 281 = .ok (.iconst 3, 1) := by decide +kernel
theorem dL_law_282 : decode cL_law 282 = .ok (.if_icmp .eq 9, 3) := by decide +kernel
theorem dL_law_285 : decode cL_law 285 = .ok (.iload 13, 2) := by decide +kernel
theorem dL_law_287 : decode cL_law 287 = .ok (.iconst 5, 1) := by decide +kernel
theorem dL_law_288 : decode cL_law 288 = .ok (.if_icmp .ne 12, 3) := by decide +kernel
theorem dL_law_291 : decode cL_law 291 = .ok (.iload 12, 2) := by decide +kernel
theorem dL_law_293 : decode cL_law 293 = .ok (.iconst 4, 1) := by decide +kernel
theorem dL_law_294 : decode cL_law 294 = .ok (.invokestatic 89, 3) := by decide +kernel
theorem dL_law_297 : decode cL_law 297 = .ok (.goto 44, 3) := by decide +kernel
theorem dL_law_300 : decode cL_law 300 = .ok (.iload 13, 2) := by decide +kernel
theorem dL_law_302 : decode cL_law 302 = .ok (.iconst 4, 1) := by decide +kernel
theorem dL_law_303 : decode cL_law 303 = .ok (.if_icmp .ne 12, 3) := by decide +kernel
theorem dL_law_306 : decode cL_law 306 = .ok (.iload 12, 2) := by decide +kernel
theorem dL_law_308 : decode cL_law 308 = .ok (.iconst 2, 1) := by decide +kernel
theorem dL_law_309 : decode cL_law 309 = .ok (.invokestatic 89, 3) := by decide +kernel
theorem dL_law_312 : decode cL_law 312 = .ok (.goto 29, 3) := by decide +kernel
theorem dL_law_315 : decode cL_law 315 = .ok (.iconst 1, 1) := by decide +kernel
theorem dL_law_316 : decode cL_law 316 = .ok (.iload 12, 2) := by decide +kernel
theorem dL_law_318 : decode cL_law 318 = .ok (.iload 12, 2) := by decide +kernel
theorem dL_law_320 : decode cL_law 320 = .ok (.bipush 20, 2) := by decide +kernel
theorem dL_law_322 : decode cL_law 322 = .ok (.ishr, 1) := by decide +kernel
theorem dL_law_323 : decode cL_law 323 = .ok (.iconst 3, 1) := by decide +kernel
theorem dL_law_324 : decode cL_law 324 = .ok (.invokestatic 89, 3) := by decide +kernel
theorem dL_law_327 : decode cL_law 327 = .ok (.ifCond .ne 8, 3) := by decide +kernel
theorem dL_law_330 : decode cL_law 330 = .ok (.bipush 24, 2) := by decide +kernel
theorem dL_law_332 : decode cL_law 332 = .ok (.goto 5, 3) := by decide +kernel
theorem dL_law_335 : decode cL_law 335 = .ok (.bipush 12, 2) := by decide +kernel
theorem dL_law_337 : decode cL_law 337 = .ok (.invokestatic 89, 3) := by decide +kernel
theorem dL_law_340 : decode cL_law 340 = .ok (.iadd, 1) := by decide +kernel
theorem dL_law_341 : decode cL_law 341 = .ok (.istore 14, 2) := by decide +kernel
theorem dL_law_343 : decode cL_law 343 = .ok (.iload 13, 2) := by decide +kernel
theorem dL_law_345 : decode cL_law 345 = .ok (.ifCond .ne 15, 3) := by decide +kernel
theorem dL_law_348 : decode cL_law 348 = .ok (.iload 12, 2) := by decide +kernel
theorem dL_law_350 : decode cL_law 350 = .ok (.iconst 5, 1) := by decide +kernel
theorem dL_law_351 : decode cL_law 351 = .ok (.ishr, 1) := by decide +kernel
theorem dL_law_352 : decode cL_law 352 = .ok (.bipush 24, 2) := by decide +kernel
theorem dL_law_354 : decode cL_law 354 = .ok (.invokestatic 89, 3) := by decide +kernel
theorem dL_law_357 : decode cL_law 357 = .ok (.goto 86, 3) := by decide +kernel
theorem dL_law_360 : decode cL_law 360 = .ok (.iload 13, 2) := by decide +kernel
theorem dL_law_362 : decode cL_law 362 = .ok (.iconst 1, 1) := by decide +kernel
theorem dL_law_363 : decode cL_law 363 = .ok (.if_icmp .ne 14, 3) := by decide +kernel
theorem dL_law_366 : decode cL_law 366 = .ok (.iload 12, 2) := by decide +kernel
theorem dL_law_368 : decode cL_law 368 = .ok (.iconst 5, 1) := by decide +kernel
theorem dL_law_369 : decode cL_law 369 = .ok (.ishr, 1) := by decide +kernel
theorem dL_law_370 : decode cL_law 370 = .ok (.iconst 4, 1) := by decide +kernel
theorem dL_law_371 : decode cL_law 371 = .ok (.invokestatic 89, 3) := by decide +kernel
theorem dL_law_374 : decode cL_law 374 = .ok (.goto 69, 3) := by decide +kernel
theorem dL_law_377 : decode cL_law 377 = .ok (.iload 14, 2) := by decide +kernel
theorem dL_law_379 : decode cL_law 379 = .ok (.ifCond .ne 17, 3) := by decide +kernel
theorem dL_law_382 : decode cL_law 382 = .ok (.iconst 1, 1) := by decide +kernel
theorem dL_law_383 : decode cL_law 383 = .ok (.iload 12, 2) := by decide +kernel
theorem dL_law_385 : decode cL_law 385 = .ok (.iconst 5, 1) := by decide +kernel
theorem dL_law_386 : decode cL_law 386 = .ok (.ishr, 1) := by decide +kernel
theorem dL_law_387 : decode cL_law 387 = .ok (.bipush 9, 2) := by decide +kernel
theorem dL_law_389 : decode cL_law 389 = .ok (.invokestatic 89, 3) := by decide +kernel
theorem dL_law_392 : decode cL_law 392 = .ok (.iadd, 1) := by decide +kernel
theorem dL_law_393 : decode cL_law 393 = .ok (.goto 50, 3) := by decide +kernel
theorem dL_law_396 : decode cL_law 396 = .ok (.iload 14, 2) := by decide +kernel
theorem dL_law_398 : decode cL_law 398 = .ok (.iconst 1, 1) := by decide +kernel
theorem dL_law_399 : decode cL_law 399 = .ok (.if_icmp .ne 15, 3) := by decide +kernel
theorem dL_law_402 : decode cL_law 402 = .ok (.iload 12, 2) := by decide +kernel
theorem dL_law_404 : decode cL_law 404 = .ok (.iconst 5, 1) := by decide +kernel
theorem dL_law_405 : decode cL_law 405 = .ok (.ishr, 1) := by decide +kernel
theorem dL_law_406 : decode cL_law 406 = .ok (.bipush 10, 2) := by decide +kernel
theorem dL_law_408 : decode cL_law 408 = .ok (.invokestatic 89, 3) := by decide +kernel
theorem dL_law_411 : decode cL_law 411 = .ok (.goto 32, 3) := by decide +kernel
theorem dL_law_414 : decode cL_law 414 = .ok (.iload 14, 2) := by decide +kernel
theorem dL_law_416 : decode cL_law 416 = .ok (.iconst 2, 1) := by decide +kernel
theorem dL_law_417 : decode cL_law 417 = .ok (.if_icmp .ne 15, 3) := by decide +kernel
theorem dL_law_420 : decode cL_law 420 = .ok (.iload 12, 2) := by decide +kernel
theorem dL_law_422 : decode cL_law 422 = .ok (.iconst 5, 1) := by decide +kernel
theorem dL_law_423 : decode cL_law 423 = .ok (.ishr, 1) := by decide +kernel
theorem dL_law_424 : decode cL_law 424 = .ok (.bipush 25, 2) := by decide +kernel
theorem dL_law_426 : decode cL_law 426 = .ok (.invokestatic 89, 3) := by decide +kernel
theorem dL_law_429 : decode cL_law 429 = .ok (.goto 14, 3) := by decide +kernel
theorem dL_law_432 : decode cL_law 432 = .ok (.iconst 1, 1) := by decide +kernel
theorem dL_law_433 : decode cL_law 433 = .ok (.iload 12, 2) := by decide +kernel
theorem dL_law_435 : decode cL_law 435 = .ok (.iconst 5, 1) := by decide +kernel
theorem dL_law_436 : decode cL_law 436 = .ok (.ishr, 1) := by decide +kernel
theorem dL_law_437 : decode cL_law 437 = .ok (.bipush 99, 2) := by decide +kernel
theorem dL_law_439 : decode cL_law 439 = .ok (.invokestatic 89, 3) := by decide +kernel
theorem dL_law_442 : decode cL_law 442 = .ok (.iadd, 1) := by decide +kernel
theorem dL_law_443 : decode cL_law 443 = .ok (.istore 15, 2) := by decide +kernel
theorem dL_law_445 : decode cL_law 445 = .ok (.iload 13, 2) := by decide +kernel
theorem dL_law_447 : decode cL_law 447 = .ok (.iconst 1, 1) := by decide +kernel
theorem dL_law_448 : decode cL_law 448 = .ok (.if_icmp .ne 23, 3) := by decide +kernel
theorem dL_law_451 : decode cL_law 451 = .ok (.iload 12, 2) := by decide +kernel
theorem dL_law_453 : decode cL_law 453 = .ok (.bipush 10, 2) := by decide +kernel
theorem dL_law_455 : decode cL_law 455 = .ok (.ishr, 1) := by decide +kernel
theorem dL_law_456 : decode cL_law 456 = .ok (.iconst 4, 1) := by decide +kernel
theorem dL_law_457 : decode cL_law 457 = .ok (.invokestatic 89, 3) := by decide +kernel
theorem dL_law_460 : decode cL_law 460 = .ok (.ifCond .le 7, 3) := by decide +kernel
theorem dL_law_463 : decode cL_law 463 = .ok (.iconst 1, 1) := by decide +kernel
theorem dL_law_464 : decode cL_law 464 = .ok (.goto 17, 3) := by decide +kernel
theorem dL_law_467 : decode cL_law 467 = .ok (.iconst 0, 1) := by decide +kernel
theorem dL_law_468 : decode cL_law 468 = .ok (.goto 13, 3) := by decide +kernel
theorem dL_law_471 : decode cL_law 471 = .ok (.iload 12, 2) := by decide +kernel
theorem dL_law_473 : decode cL_law 473 = .ok (.bipush 10, 2) := by decide +kernel
theorem dL_law_475 : decode cL_law 475 = .ok (.ishr, 1) := by decide +kernel
theorem dL_law_476 : decode cL_law 476 = .ok (.bipush 19, 2) := by decide +kernel
theorem dL_law_478 : decode cL_law 478 = .ok (.invokestatic 89, 3) := by decide +kernel
theorem dL_law_481 : decode cL_law 481 = .ok (.istore 16, 2) := by decide +kernel
theorem dL_law_483 : decode cL_law 483 = .ok (.aload_n 1, 1) := by decide +kernel
theorem dL_law_484 : decode cL_law 484 = .ok (.invokestatic 137, 3) := by decide +kernel
theorem dL_law_487 : decode cL_law 487 = .ok (.lstore 17, 2) := by decide +kernel
theorem dL_law_489 : decode cL_law 489 = .ok (.aload_n 1, 1) := by decide +kernel
theorem dL_law_490 : decode cL_law 490 = .ok (.iload 13, 2) := by decide +kernel
theorem dL_law_492 : decode cL_law 492 = .ok (.iload 14, 2) := by decide +kernel
theorem dL_law_494 : decode cL_law 494 = .ok (.iload 15, 2) := by decide +kernel
theorem dL_law_496 : decode cL_law 496 = .ok (.iload 16, 2) := by decide +kernel
theorem dL_law_498 : decode cL_law 498 = .ok (.invokestatic 141, 3) := by decide +kernel
theorem dL_law_501 : decode cL_law 501 = .ok (.istore 19, 2) := by decide +kernel
theorem dL_law_503 : decode cL_law 503 = .ok (.iload 19, 2) := by decide +kernel
theorem dL_law_505 : decode cL_law 505 = .ok (.ifCond .ge 16, 3) := by decide +kernel
theorem dL_law_508 : decode cL_law 508 = .ok (.aload_n 1, 1) := by decide +kernel
theorem dL_law_509 : decode cL_law 509 = .ok (.invokestatic 137, 3) := by decide +kernel
theorem dL_law_512 : decode cL_law 512 = .ok (.lload 17, 2) := by decide +kernel
theorem dL_law_514 : decode cL_law 514 = .ok (.lcmp, 1) := by decide +kernel
theorem dL_law_515 : decode cL_law 515 = .ok (.ifCond .eq 52, 3) := by decide +kernel
theorem dL_law_518 : decode cL_law 518 = .ok (.goto 47, 3) := by decide +kernel
theorem dL_law_521 : decode cL_law 521 = .ok (.iload 11, 2) := by decide +kernel
theorem dL_law_523 : decode cL_law 523 = .ok (.bipush 24, 2) := by decide +kernel
theorem dL_law_525 : decode cL_law 525 = .ok (.ishr, 1) := by decide +kernel
theorem dL_law_526 : decode cL_law 526 = .ok (.iconst 3, 1) := by decide +kernel
theorem dL_law_527 : decode cL_law 527 = .ok (.iand, 1) := by decide +kernel
theorem dL_law_528 : decode cL_law 528 = .ok (.ifCond .ne 39, 3) := by decide +kernel
theorem dL_law_531 : decode cL_law 531 = .ok (.aload_n 1, 1) := by decide +kernel
theorem dL_law_532 : decode cL_law 532 = .ok (.invokevirtual 145, 3) := by decide +kernel
theorem dL_law_535 : decode cL_law 535 = .ok (.ifCond .lt 30, 3) := by decide +kernel
theorem dL_law_538 : decode cL_law 538 = .ok (.aload_n 1, 1) := by decide +kernel
theorem dL_law_539 : decode cL_law 539 = .ok (.invokestatic 137, 3) := by decide +kernel
theorem dL_law_542 : decode cL_law 542 = .ok (.lload 17, 2) := by decide +kernel
theorem dL_law_544 : decode cL_law 544 = .ok (.lcmp, 1) := by decide +kernel
theorem dL_law_545 : decode cL_law 545 = .ok (.ifCond .ne 20, 3) := by decide +kernel
theorem dL_law_548 : decode cL_law 548 = .ok (.aload_n 1, 1) := by decide +kernel
theorem dL_law_549 : decode cL_law 549 = .ok (.iload 13, 2) := by decide +kernel
theorem dL_law_551 : decode cL_law 551 = .ok (.iload 14, 2) := by decide +kernel
theorem dL_law_553 : decode cL_law 553 = .ok (.iload 15, 2) := by decide +kernel
theorem dL_law_555 : decode cL_law 555 = .ok (.iload 16, 2) := by decide +kernel
theorem dL_law_557 : decode cL_law 557 = .ok (.invokestatic 141, 3) := by decide +kernel
theorem dL_law_560 : decode cL_law 560 = .ok (.iload 19, 2) := by decide +kernel
theorem dL_law_562 : decode cL_law 562 = .ok (.if_icmp .eq 5, 3) := by decide +kernel
theorem dL_law_565 : decode cL_law 565 = .ok (.iconst 0, 1) := by decide +kernel
theorem dL_law_566 : decode cL_law 566 = .ok (.ireturn, 1) := by decide +kernel
theorem dL_law_567 : decode cL_law 567 = .ok (.iload 13, 2) := by decide +kernel
theorem dL_law_569 : decode cL_law 569 = .ok (.iconst 4, 1) := by decide +kernel
theorem dL_law_570 : decode cL_law 570 = .ok (.if_icmp .ge 23, 3) := by decide +kernel
theorem dL_law_573 : decode cL_law 573 = .ok (.iload 13, 2) := by decide +kernel
theorem dL_law_575 : decode cL_law 575 = .ok (.iload 14, 2) := by decide +kernel
theorem dL_law_577 : decode cL_law 577 = .ok (.iload 15, 2) := by decide +kernel
theorem dL_law_579 : decode cL_law 579 = .ok (.iload 16, 2) := by decide +kernel
theorem dL_law_581 : decode cL_law 581 = .ok (.aload_n 2, 1) := by decide +kernel
theorem dL_law_582 : decode cL_law 582 = .ok (.aload_n 3, 1) := by decide +kernel
theorem dL_law_583 : decode cL_law 583 = .ok (.aload 4, 2) := by decide +kernel
theorem dL_law_585 : decode cL_law 585 = .ok (.aload 5, 2) := by decide +kernel
theorem dL_law_587 : decode cL_law 587 = .ok (.invokestatic 148, 3) := by decide +kernel
theorem dL_law_590 : decode cL_law 590 = .ok (.goto 46, 3) := by decide +kernel
theorem dL_law_593 : decode cL_law 593 = .ok (.iload 13, 2) := by decide +kernel
theorem dL_law_595 : decode cL_law 595 = .ok (.iconst 4, 1) := by decide +kernel
theorem dL_law_596 : decode cL_law 596 = .ok (.if_icmp .ne 24, 3) := by decide +kernel
theorem dL_law_599 : decode cL_law 599 = .ok (.aload_n 2, 1) := by decide +kernel
theorem dL_law_600 : decode cL_law 600 = .ok (.iconst 5, 1) := by decide +kernel
theorem dL_law_601 : decode cL_law 601 = .ok (.iaload, 1) := by decide +kernel
theorem dL_law_602 : decode cL_law 602 = .ok (.bipush 6, 2) := by decide +kernel
theorem dL_law_604 : decode cL_law 604 = .ok (.if_icmp .ne 8, 3) := by decide +kernel
theorem dL_law_607 : decode cL_law 607 = .ok (.bipush (-3), 2) := by decide +kernel
theorem dL_law_609 : decode cL_law 609 = .ok (.goto 27, 3) := by decide +kernel
theorem dL_law_612 : decode cL_law 612 = .ok (.aload_n 2, 1) := by decide +kernel
theorem dL_law_613 : decode cL_law 613 = .ok (.iconst 5, 1) := by decide +kernel
theorem dL_law_614 : decode cL_law 614 = .ok (.iaload, 1) := by decide +kernel
theorem dL_law_615 : decode cL_law 615 = .ok (.iconst 1, 1) := by decide +kernel
theorem dL_law_616 : decode cL_law 616 = .ok (.iadd, 1) := by decide +kernel
theorem dL_law_617 : decode cL_law 617 = .ok (.goto 19, 3) := by decide +kernel
theorem dL_law_620 : decode cL_law 620 = .ok (.iload 13, 2) := by decide +kernel
theorem dL_law_622 : decode cL_law 622 = .ok (.iload 14, 2) := by decide +kernel
theorem dL_law_624 : decode cL_law 624 = .ok (.aload_n 2, 1) := by decide +kernel
theorem dL_law_625 : decode cL_law 625 = .ok (.aload 6, 2) := by decide +kernel
theorem dL_law_627 : decode cL_law 627 = .ok (.aload 7, 2) := by decide +kernel
theorem dL_law_629 : decode cL_law 629 = .ok (.aload 8, 2) := by decide +kernel
theorem dL_law_631 : decode cL_law 631 = .ok (.aload 9, 2) := by decide +kernel
theorem dL_law_633 : decode cL_law 633 = .ok (.invokestatic 152, 3) := by decide +kernel
theorem dL_law_636 : decode cL_law 636 = .ok (.istore 20, 2) := by decide +kernel
theorem dL_law_638 : decode cL_law 638 = .ok (.iload 13, 2) := by decide +kernel
theorem dL_law_640 : decode cL_law 640 = .ok (.iconst 4, 1) := by decide +kernel
theorem dL_law_641 : decode cL_law 641 = .ok (.if_icmp .ne 33, 3) := by decide +kernel
theorem dL_law_644 : decode cL_law 644 = .ok (.aload_n 2, 1) := by decide +kernel
theorem dL_law_645 : decode cL_law 645 = .ok (.iconst 5, 1) := by decide +kernel
theorem dL_law_646 : decode cL_law 646 = .ok (.iaload, 1) := by decide +kernel
theorem dL_law_647 : decode cL_law 647 = .ok (.bipush 6, 2) := by decide +kernel
theorem dL_law_649 : decode cL_law 649 = .ok (.if_icmp .ge 25, 3) := by decide +kernel
theorem dL_law_652 : decode cL_law 652 = .ok (.iload 14, 2) := by decide +kernel
theorem dL_law_654 : decode cL_law 654 = .ok (.iconst 1, 1) := by decide +kernel
theorem dL_law_655 : decode cL_law 655 = .ok (.if_icmp .ne 7, 3) := by decide +kernel
theorem dL_law_658 : decode cL_law 658 = .ok (.iconst 1, 1) := by decide +kernel
theorem dL_law_659 : decode cL_law 659 = .ok (.goto 4, 3) := by decide +kernel
theorem dL_law_662 : decode cL_law 662 = .ok (.iconst 0, 1) := by decide +kernel
theorem dL_law_663 : decode cL_law 663 = .ok (.aload_n 2, 1) := by decide +kernel
theorem dL_law_664 : decode cL_law 664 = .ok (.aload_n 3, 1) := by decide +kernel
theorem dL_law_665 : decode cL_law 665 = .ok (.aload 4, 2) := by decide +kernel
theorem dL_law_667 : decode cL_law 667 = .ok (.aload 5, 2) := by decide +kernel
theorem dL_law_669 : decode cL_law 669 = .ok (.aload 6, 2) := by decide +kernel
theorem dL_law_671 : decode cL_law 671 = .ok (.invokestatic 156, 3) := by decide +kernel
theorem dL_law_674 : decode cL_law 674 = .ok (.iload 19, 2) := by decide +kernel
theorem dL_law_676 : decode cL_law 676 = .ok (.iload 20, 2) := by decide +kernel
theorem dL_law_678 : decode cL_law 678 = .ok (.if_icmp .ne 28, 3) := by decide +kernel
theorem dL_law_681 : decode cL_law 681 = .ok (.aload_n 1, 1) := by decide +kernel
theorem dL_law_682 : decode cL_law 682 = .ok (.iload 11, 2) := by decide +kernel
theorem dL_law_684 : decode cL_law 684 = .ok (.iconst 4, 1) := by decide +kernel
theorem dL_law_685 : decode cL_law 685 = .ok (.ishr, 1) := by decide +kernel
theorem dL_law_686 : decode cL_law 686 = .ok (.aload_n 2, 1) := by decide +kernel
theorem dL_law_687 : decode cL_law 687 = .ok (.aload_n 3, 1) := by decide +kernel
theorem dL_law_688 : decode cL_law 688 = .ok (.aload 4, 2) := by decide +kernel
theorem dL_law_690 : decode cL_law 690 = .ok (.aload 5, 2) := by decide +kernel
theorem dL_law_692 : decode cL_law 692 = .ok (.aload 6, 2) := by decide +kernel
theorem dL_law_694 : decode cL_law 694 = .ok (.aload 7, 2) := by decide +kernel
theorem dL_law_696 : decode cL_law 696 = .ok (.aload 8, 2) := by decide +kernel
theorem dL_law_698 : decode cL_law 698 = .ok (.aload 9, 2) := by decide +kernel
theorem dL_law_700 : decode cL_law 700 = .ok (.invokestatic 160, 3) := by decide +kernel
theorem dL_law_703 : decode cL_law 703 = .ok (.ifCond .ne 5, 3) := by decide +kernel
theorem dL_law_706 : decode cL_law 706 = .ok (.iconst 0, 1) := by decide +kernel
theorem dL_law_707 : decode cL_law 707 = .ok (.ireturn, 1) := by decide +kernel
theorem dL_law_708 : decode cL_law 708 = .ok (.iinc 10 1, 3) := by decide +kernel
theorem dL_law_711 : decode cL_law 711 = .ok (.goto (-614), 3) := by decide +kernel
theorem dL_law_714 : decode cL_law 714 = .ok (.iconst 1, 1) := by decide +kernel
theorem dL_law_715 : decode cL_law 715 = .ok (.ireturn, 1) := by decide +kernel
abbrev vwCl : List vw_C := [(RX0, TX0, 3), (RX1, TX1, 3), (RX2, TX2, 3), (RX3, TX3, 11), (RX4, TX4, 7), (RX5, TX5, 6)]
