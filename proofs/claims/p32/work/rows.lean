section
-- ===== PART A: goes FIRST, ahead of the names: the tables' words, and 'selects' of the private methods out of them =====
/-- a private method of a class that the tables say can be made, by its rows of tables_1 -/
def lw_okq (q : MethodName × Nat) : Prop := (q.1.cls ≠ "java/lang/invoke/MethodHandle" ∧ q.1.cls ≠ "java/lang/invoke/VarHandle") ∧ Cond.instantiable q.1.cls q.2 ∈ tables_1 ∧ Cond.privateMethod q.1 ∈ tables_1 ∧ Cond.instanceMethod q.1 ∈ tables_1
theorem lw_p0 : lw_okq (⟨"CardSheets$History", "copyTo", "(ILCardSheets$State;)V"⟩, 3) := ⟨⟨by decide +kernel, by decide +kernel⟩, List.mem_of_getElem? (i := 96) (by decide +kernel), List.mem_of_getElem? (i := 217) (by decide +kernel), List.mem_of_getElem? (i := 218) (by decide +kernel)⟩
theorem lw_p1 : lw_okq (⟨"CardSheets$State", "wear", "()V"⟩, 11) := ⟨⟨by decide +kernel, by decide +kernel⟩, List.mem_of_getElem? (i := 19) (by decide +kernel), List.mem_of_getElem? (i := 293) (by decide +kernel), List.mem_of_getElem? (i := 294) (by decide +kernel)⟩
def lw_privs_1 : List (MethodName × Nat) := [(⟨"CardSheets$History", "copyTo", "(ILCardSheets$State;)V"⟩, 3), (⟨"CardSheets$State", "wear", "()V"⟩, 11)]
theorem lw_r1 : ∀ q ∈ lw_privs_1, lw_okq q := List.forall_mem_cons.mpr ⟨lw_p0, List.forall_mem_cons.mpr ⟨lw_p1, fun _ h => absurd h List.not_mem_nil⟩⟩
def lw_privs : List (MethodName × Nat) := lw_privs_1
def lw_tbl : List Cond := k2_sels lw_privs ++ tables_1
theorem lw_privs_ok : ∀ q ∈ lw_privs, lw_okq q := lw_r1
/-- the streams that the claim lets the run draw from -/
abbrev lw_cs : List Choice := [Jvm.Choice.named "NaN.bits"]
theorem lw_bits : nanBits ∈ lw_cs := by first | decide | exact List.mem_cons_self | simp [lw_cs, nanBits]
end
section
def RX0 : String := "CardSheets$History"
def TX0 : u_T := fun k => match k with
  | 0 => ("CardSheets$History", "states", "[LCardSheets$State;", true)
  | 1 => ("CardSheets$History", "next", "I", false)
  | _ => ("CardSheets$History", "size", "I", false)
def tyX0 : Nat → FieldType := fun k => match k with
  | 0 => .array (.object "CardSheets$State")
  | 1 => .int
  | _ => .int
theorem nmX0 : ∀ a, a < 3 → ∀ b, b < 3 → a ≠ b → (TX0 a).2.1 ≠ (TX0 b).2.1 := by decide +kernel
theorem tyX0_ok : ∀ k, k < 3 → parseFieldDescriptor (TX0 k).2.2.1 = some (tyX0 k) := by decide +kernel
abbrev cX0_init : ByteArray := prog_2_method_1_code
def yX0_init : MethodName := ⟨RX0, "<init>", "()V"⟩
abbrev cX0_record : ByteArray := prog_2_method_2_code
def yX0_record : MethodName := ⟨RX0, "record", "(LCardSheets$State;)V"⟩
abbrev cX0_takeLatestInto : ByteArray := prog_2_method_3_code
def yX0_takeLatestInto : MethodName := ⟨RX0, "takeLatestInto", "(LCardSheets$State;)V"⟩
abbrev cX0_copyTo : ByteArray := prog_2_method_4_code
def yX0_copyTo : MethodName := ⟨RX0, "copyTo", "(ILCardSheets$State;)V"⟩
def RX1 : String := "CardSheets$Pack"
def TX1 : u_T := fun k => match k with
  | 0 => ("CardSheets$Pack", "order", "[I", true)
  | 1 => ("CardSheets$Pack", "from", "LCardSheets$Sheet;", false)
  | _ => ("CardSheets$Pack", "dealt", "I", false)
def tyX1 : Nat → FieldType := fun k => match k with
  | 0 => .array .int
  | 1 => .object "CardSheets$Sheet"
  | _ => .int
theorem nmX1 : ∀ a, a < 3 → ∀ b, b < 3 → a ≠ b → (TX1 a).2.1 ≠ (TX1 b).2.1 := by decide +kernel
theorem tyX1_ok : ∀ k, k < 3 → parseFieldDescriptor (TX1 k).2.2.1 = some (tyX1 k) := by decide +kernel
abbrev cX1_init : ByteArray := prog_3_method_1_code
def yX1_init : MethodName := ⟨RX1, "<init>", "()V"⟩
abbrev cX1_copyFrom : ByteArray := prog_3_method_2_code
def yX1_copyFrom : MethodName := ⟨RX1, "copyFrom", "(LCardSheets$Pack;)V"⟩
abbrev cX1_layDown : ByteArray := prog_3_method_3_code
def yX1_layDown : MethodName := ⟨RX1, "layDown", "(LCardSheets$Sheet;I)V"⟩
abbrev cX1_takeAway : ByteArray := prog_3_method_4_code
def yX1_takeAway : MethodName := ⟨RX1, "takeAway", "()V"⟩
abbrev cX1_isThere : ByteArray := prog_3_method_5_code
def yX1_isThere : MethodName := ⟨RX1, "isThere", "()Z"⟩
abbrev cX1_left : ByteArray := prog_3_method_6_code
def yX1_left : MethodName := ⟨RX1, "left", "()I"⟩
abbrev cX1_hasPartsAt : ByteArray := prog_3_method_7_code
def yX1_hasPartsAt : MethodName := ⟨RX1, "hasPartsAt", "(I)Z"⟩
abbrev cX1_cardAt : ByteArray := prog_3_method_8_code
def yX1_cardAt : MethodName := ⟨RX1, "cardAt", "(I)I"⟩
abbrev cX1_placeOf : ByteArray := prog_3_method_9_code
def yX1_placeOf : MethodName := ⟨RX1, "placeOf", "(I)I"⟩
abbrev cX1_cutAt : ByteArray := prog_3_method_10_code
def yX1_cutAt : MethodName := ⟨RX1, "cutAt", "(I[I)V"⟩
abbrev cX1_shuffleAt : ByteArray := prog_3_method_11_code
def yX1_shuffleAt : MethodName := ⟨RX1, "shuffleAt", "(I[I)I"⟩
abbrev cX1_marksOf : ByteArray := prog_3_method_12_code
def yX1_marksOf : MethodName := ⟨RX1, "marksOf", "(I)I"⟩
abbrev cX1_marksAt : ByteArray := prog_3_method_13_code
def yX1_marksAt : MethodName := ⟨RX1, "marksAt", "(I)I"⟩
abbrev cX1_canBeAt : ByteArray := prog_3_method_14_code
def yX1_canBeAt : MethodName := ⟨RX1, "canBeAt", "(I)I"⟩
abbrev cX1_guessAt : ByteArray := prog_3_method_15_code
def yX1_guessAt : MethodName := ⟨RX1, "guessAt", "(I)I"⟩
abbrev cX1_known : ByteArray := prog_3_method_16_code
def yX1_known : MethodName := ⟨RX1, "known", "()I"⟩
abbrev cX1_guessedRight : ByteArray := prog_3_method_17_code
def yX1_guessedRight : MethodName := ⟨RX1, "guessedRight", "()I"⟩
abbrev cX1_sumOfChances : ByteArray := prog_3_method_18_code
def yX1_sumOfChances : MethodName := ⟨RX1, "sumOfChances", "()F"⟩
def RX2 : String := "CardSheets$Sheet"
def TX2 : u_T := fun k => match k with
  | 0 => ("CardSheets$Sheet", "cards", "[I", true)
  | 1 => ("CardSheets$Sheet", "marks", "[I", true)
  | _ => ("CardSheets$Sheet", "leans", "[I", true)
def tyX2 : Nat → FieldType := fun k => match k with
  | 0 => .array .int
  | 1 => .array .int
  | _ => .array .int
theorem nmX2 : ∀ a, a < 3 → ∀ b, b < 3 → a ≠ b → (TX2 a).2.1 ≠ (TX2 b).2.1 := by decide +kernel
theorem tyX2_ok : ∀ k, k < 3 → parseFieldDescriptor (TX2 k).2.2.1 = some (tyX2 k) := by decide +kernel
abbrev cX2_init : ByteArray := prog_4_method_1_code
def yX2_init : MethodName := ⟨RX2, "<init>", "([I[I[IZ)V"⟩
abbrev cX2_cardCutTo : ByteArray := prog_4_method_2_code
def yX2_cardCutTo : MethodName := ⟨RX2, "cardCutTo", "(II)I"⟩
abbrev cX2_cardsAtHome : ByteArray := prog_4_method_3_code
def yX2_cardsAtHome : MethodName := ⟨RX2, "cardsAtHome", "(I)I"⟩
def RX3 : String := "CardSheets$State"
def TX3 : u_T := fun k => match k with
  | 0 => ("CardSheets$State", "cards", "[I", true)
  | 1 => ("CardSheets$State", "leans", "[I", true)
  | 2 => ("CardSheets$State", "backs", "[I", true)
  | 3 => ("CardSheets$State", "settings", "[I", true)
  | 4 => ("CardSheets$State", "pile", "[LCardSheets$Sheet;", true)
  | 5 => ("CardSheets$State", "pack", "LCardSheets$Pack;", true)
  | 6 => ("CardSheets$State", "piled", "I", false)
  | 7 => ("CardSheets$State", "printed", "I", false)
  | 8 => ("CardSheets$State", "sold", "I", false)
  | 9 => ("CardSheets$State", "pulped", "I", false)
  | _ => ("CardSheets$State", "coins", "I", false)
def tyX3 : Nat → FieldType := fun k => match k with
  | 0 => .array .int
  | 1 => .array .int
  | 2 => .array .int
  | 3 => .array .int
  | 4 => .array (.object "CardSheets$Sheet")
  | 5 => .object "CardSheets$Pack"
  | 6 => .int
  | 7 => .int
  | 8 => .int
  | 9 => .int
  | _ => .int
theorem nmX3 : ∀ a, a < 11 → ∀ b, b < 11 → a ≠ b → (TX3 a).2.1 ≠ (TX3 b).2.1 := by decide +kernel
theorem tyX3_ok : ∀ k, k < 11 → parseFieldDescriptor (TX3 k).2.2.1 = some (tyX3 k) := by decide +kernel
abbrev cX3_init : ByteArray := prog_5_method_1_code
def yX3_init : MethodName := ⟨RX3, "<init>", "()V"⟩
abbrev cX3_copyFrom : ByteArray := prog_5_method_2_code
def yX3_copyFrom : MethodName := ⟨RX3, "copyFrom", "(LCardSheets$State;)V"⟩
abbrev cX3_exchange : ByteArray := prog_5_method_3_code
def yX3_exchange : MethodName := ⟨RX3, "exchange", "(II)V"⟩
abbrev cX3_cellOf : ByteArray := prog_5_method_4_code
def yX3_cellOf : MethodName := ⟨RX3, "cellOf", "(I)I"⟩
abbrev cX3_hasMark : ByteArray := prog_5_method_5_code
def yX3_hasMark : MethodName := ⟨RX3, "hasMark", "(II)Z"⟩
abbrev cX3_setMark : ByteArray := prog_5_method_6_code
def yX3_setMark : MethodName := ⟨RX3, "setMark", "(IIZ)V"⟩
abbrev cX3_marksOnBacks : ByteArray := prog_5_method_7_code
def yX3_marksOnBacks : MethodName := ⟨RX3, "marksOnBacks", "()I"⟩
abbrev cX3_sheetAt : ByteArray := prog_5_method_8_code
def yX3_sheetAt : MethodName := ⟨RX3, "sheetAt", "(I)LCardSheets$Sheet;"⟩
abbrev cX3_printSheet : ByteArray := prog_5_method_9_code
def yX3_printSheet : MethodName := ⟨RX3, "printSheet", "(Z)V"⟩
abbrev cX3_wear : ByteArray := prog_5_method_10_code
def yX3_wear : MethodName := ⟨RX3, "wear", "()V"⟩
abbrev cX3_takeTopSheet : ByteArray := prog_5_method_11_code
def yX3_takeTopSheet : MethodName := ⟨RX3, "takeTopSheet", "()LCardSheets$Sheet;"⟩
abbrev cX3_reasonAgainstSale : ByteArray := prog_5_method_12_code
def yX3_reasonAgainstSale : MethodName := ⟨RX3, "reasonAgainstSale", "()I"⟩
abbrev cX3_knownIfPrinted : ByteArray := prog_5_method_13_code
def yX3_knownIfPrinted : MethodName := ⟨RX3, "knownIfPrinted", "(ZI)I"⟩
def RX4 : String := "CardSheets$Text"
def TX4 : u_T := fun k => match k with
  | 0 => ("CardSheets$Text", "signs", "[C", true)
  | 1 => ("CardSheets$Text", "length", "I", false)
  | 2 => ("CardSheets$Text", "next", "I", false)
  | 3 => ("CardSheets$Text", "kinds", "[C", true)
  | 4 => ("CardSheets$Text", "firsts", "[I", true)
  | 5 => ("CardSheets$Text", "seconds", "[I", true)
  | _ => ("CardSheets$Text", "changes", "I", false)
def tyX4 : Nat → FieldType := fun k => match k with
  | 0 => .array .char
  | 1 => .int
  | 2 => .int
  | 3 => .array .char
  | 4 => .array .int
  | 5 => .array .int
  | _ => .int
theorem nmX4 : ∀ a, a < 7 → ∀ b, b < 7 → a ≠ b → (TX4 a).2.1 ≠ (TX4 b).2.1 := by decide +kernel
theorem tyX4_ok : ∀ k, k < 7 → parseFieldDescriptor (TX4 k).2.2.1 = some (tyX4 k) := by decide +kernel
abbrev cX4_init : ByteArray := prog_6_method_1_code
def yX4_init : MethodName := ⟨RX4, "<init>", "()V"⟩
def RX5 : String := "CardSheets"
def TX5 : u_T := fun k => match k with
  | 0 => ("CardSheets", "now", "LCardSheets$State;", true)
  | 1 => ("CardSheets", "snapshot", "LCardSheets$State;", true)
  | 2 => ("CardSheets", "history", "LCardSheets$History;", true)
  | 3 => ("CardSheets", "text", "LCardSheets$Text;", true)
  | 4 => ("CardSheets", "spare", "[I", true)
  | _ => ("CardSheets", "isKept", "Z", false)
def tyX5 : Nat → FieldType := fun k => match k with
  | 0 => .object "CardSheets$State"
  | 1 => .object "CardSheets$State"
  | 2 => .object "CardSheets$History"
  | 3 => .object "CardSheets$Text"
  | 4 => .array .int
  | _ => .boolean
theorem nmX5 : ∀ a, a < 6 → ∀ b, b < 6 → a ≠ b → (TX5 a).2.1 ≠ (TX5 b).2.1 := by decide +kernel
theorem tyX5_ok : ∀ k, k < 6 → parseFieldDescriptor (TX5 k).2.2.1 = some (tyX5 k) := by decide +kernel
abbrev cX5_init : ByteArray := prog_1_method_1_code
def yX5_init : MethodName := ⟨RX5, "<init>", "()V"⟩
abbrev cX5_swap : ByteArray := prog_1_method_2_code
def yX5_swap : MethodName := ⟨RX5, "swap", "(II)I"⟩
abbrev cX5_mark : ByteArray := prog_1_method_3_code
def yX5_mark : MethodName := ⟨RX5, "mark", "(IIZ)I"⟩
abbrev cX5_lean : ByteArray := prog_1_method_4_code
def yX5_lean : MethodName := ⟨RX5, "lean", "(II)I"⟩
abbrev cX5_set : ByteArray := prog_1_method_6_code
def yX5_set : MethodName := ⟨RX5, "set", "(II)I"⟩
abbrev cX5_print : ByteArray := prog_1_method_7_code
def yX5_print : MethodName := ⟨RX5, "print", "(Z)I"⟩
abbrev cX5_cutSheet : ByteArray := prog_1_method_8_code
def yX5_cutSheet : MethodName := ⟨RX5, "cutSheet", "(I)I"⟩
abbrev cX5_cutPack : ByteArray := prog_1_method_9_code
def yX5_cutPack : MethodName := ⟨RX5, "cutPack", "(I)I"⟩
abbrev cX5_shuffle : ByteArray := prog_1_method_10_code
def yX5_shuffle : MethodName := ⟨RX5, "shuffle", "(I)I"⟩
abbrev cX5_deal : ByteArray := prog_1_method_11_code
def yX5_deal : MethodName := ⟨RX5, "deal", "(I)I"⟩
abbrev cX5_sell : ByteArray := prog_1_method_12_code
def yX5_sell : MethodName := ⟨RX5, "sell", "()I"⟩
abbrev cX5_pulp : ByteArray := prog_1_method_13_code
def yX5_pulp : MethodName := ⟨RX5, "pulp", "()I"⟩
abbrev cX5_undo : ByteArray := prog_1_method_17_code
def yX5_undo : MethodName := ⟨RX5, "undo", "()I"⟩
abbrev cX5_block : ByteArray := prog_1_method_20_code
def yX5_block : MethodName := ⟨RX5, "block", "(II)I"⟩
abbrev cX5_cardOf : ByteArray := prog_1_method_21_code
def yX5_cardOf : MethodName := ⟨RX5, "cardOf", "(II)I"⟩
abbrev cX5_sheet : ByteArray := prog_1_method_22_code
def yX5_sheet : MethodName := ⟨RX5, "sheet", "(III)I"⟩
abbrev cX5_pack : ByteArray := prog_1_method_23_code
def yX5_pack : MethodName := ⟨RX5, "pack", "(II)I"⟩
abbrev cX5_count : ByteArray := prog_1_method_24_code
def yX5_count : MethodName := ⟨RX5, "count", "(I)I"⟩
abbrev cX5_why : ByteArray := prog_1_method_25_code
def yX5_why : MethodName := ⟨RX5, "why", "()I"⟩
abbrev cX5_chances : ByteArray := prog_1_method_26_code
def yX5_chances : MethodName := ⟨RX5, "chances", "()F"⟩
abbrev cX5_ifPrinted : ByteArray := prog_1_method_27_code
def yX5_ifPrinted : MethodName := ⟨RX5, "ifPrinted", "(Z)I"⟩
abbrev cX5_bestWay : ByteArray := prog_1_method_29_code
def yX5_bestWay : MethodName := ⟨RX5, "bestWay", "()I"⟩
abbrev cX5_isCell : ByteArray := prog_1_method_32_code
def yX5_isCell : MethodName := ⟨RX5, "isCell", "(I)Z"⟩
abbrev cX5_isCard : ByteArray := prog_1_method_33_code
def yX5_isCard : MethodName := ⟨RX5, "isCard", "(I)Z"⟩
abbrev cX5_isMark : ByteArray := prog_1_method_34_code
def yX5_isMark : MethodName := ⟨RX5, "isMark", "(I)Z"⟩
abbrev cX5_isCourt : ByteArray := prog_1_method_35_code
def yX5_isCourt : MethodName := ⟨RX5, "isCourt", "(I)Z"⟩
abbrev cX5_at : ByteArray := prog_1_method_36_code
def yX5_at : MethodName := ⟨RX5, "at", "([II)I"⟩
abbrev cX5_put : ByteArray := prog_1_method_37_code
def yX5_put : MethodName := ⟨RX5, "put", "([III)V"⟩
abbrev cX5_copyRow : ByteArray := prog_1_method_38_code
def yX5_copyRow : MethodName := ⟨RX5, "copyRow", "([I[I)V"⟩
abbrev cX5_courtsBeyond : ByteArray := prog_1_method_39_code
def yX5_courtsBeyond : MethodName := ⟨RX5, "courtsBeyond", "([II)I"⟩
abbrev cX5_cellAt : ByteArray := prog_1_method_40_code
def yX5_cellAt : MethodName := ⟨RX5, "cellAt", "(II)I"⟩
abbrev cX5_along : ByteArray := prog_1_method_41_code
def yX5_along : MethodName := ⟨RX5, "along", "(IIZ)I"⟩
abbrev cX5_placeBefore : ByteArray := prog_1_method_42_code
def yX5_placeBefore : MethodName := ⟨RX5, "placeBefore", "(III)I"⟩
def RX6 : String := "CardSheetsModel"
def TX6 : u_T := fun k => match k with
  | _ => ("", "", "", false)
def tyX6 : Nat → FieldType := fun k => match k with
  | _ => .int
theorem nmX6 : ∀ a, a < 0 → ∀ b, b < 0 → a ≠ b → (TX6 a).2.1 ≠ (TX6 b).2.1 := by decide +kernel
theorem tyX6_ok : ∀ k, k < 0 → parseFieldDescriptor (TX6 k).2.2.1 = some (tyX6 k) := by decide +kernel
def RJ6 : String := "java/lang/Integer"
def TJ6 : u_T := fun k => match k with
  | _ => ("", "", "", false)
def tyJ6 : Nat → FieldType := fun k => match k with
  | _ => .int
theorem nmJ6 : ∀ a, a < 0 → ∀ b, b < 0 → a ≠ b → (TJ6 a).2.1 ≠ (TJ6 b).2.1 := by decide +kernel
theorem tyJ6_ok : ∀ k, k < 0 → parseFieldDescriptor (TJ6 k).2.2.1 = some (tyJ6 k) := by decide +kernel
abbrev cJ6_bitCount_0f7a4 : ByteArray := prog_9_method_49_code
def yJ6_bitCount_0f7a4 : MethodName := ⟨RJ6, "bitCount", "(I)I"⟩
def RJ9 : String := "java/lang/Math"
def TJ9 : u_T := fun k => match k with
  | _ => ("", "", "", false)
def tyJ9 : Nat → FieldType := fun k => match k with
  | _ => .int
theorem nmJ9 : ∀ a, a < 0 → ∀ b, b < 0 → a ≠ b → (TJ9 a).2.1 ≠ (TJ9 b).2.1 := by decide +kernel
theorem tyJ9_ok : ∀ k, k < 0 → parseFieldDescriptor (TJ9 k).2.2.1 = some (tyJ9 k) := by decide +kernel
abbrev cJ9_abs_0f7a4 : ByteArray := prog_10_method_59_code
def yJ9_abs_0f7a4 : MethodName := ⟨RJ9, "abs", "(I)I"⟩
abbrev cJ9_min_7cf53 : ByteArray := prog_10_method_69_code
def yJ9_min_7cf53 : MethodName := ⟨RJ9, "min", "(II)I"⟩
def RJ10 : String := "java/lang/System"
def TJ10 : u_T := fun k => match k with
  | _ => ("", "", "", false)
def tyJ10 : Nat → FieldType := fun k => match k with
  | _ => .int
theorem nmJ10 : ∀ a, a < 0 → ∀ b, b < 0 → a ≠ b → (TJ10 a).2.1 ≠ (TJ10 b).2.1 := by decide +kernel
theorem tyJ10_ok : ∀ k, k < 0 → parseFieldDescriptor (TJ10 k).2.2.1 = some (tyJ10 k) := by decide +kernel
def RL : String := "CardSheetsLaw"
abbrev cL_cell : ByteArray := method_2_code
def yL_cell : MethodName := ⟨RL, "cell", "([II)I"⟩
abbrev cL_low : ByteArray := method_3_code
def yL_low : MethodName := ⟨RL, "low", "(II)I"⟩
abbrev cL_ones : ByteArray := method_4_code
def yL_ones : MethodName := ⟨RL, "ones", "(I)I"⟩
abbrev cL_court : ByteArray := method_5_code
def yL_court : MethodName := ⟨RL, "court", "(I)I"⟩
abbrev cL_sheetAt : ByteArray := method_6_code
def yL_sheetAt : MethodName := ⟨RL, "sheetAt", "(II[I)I"⟩
abbrev cL_prints : ByteArray := method_7_code
def yL_prints : MethodName := ⟨RL, "prints", "(Z[I[I[I[I[I)V"⟩
abbrev cL_cellAt : ByteArray := method_8_code
def yL_cellAt : MethodName := ⟨RL, "cellAt", "(II)I"⟩
abbrev cL_cuts : ByteArray := method_9_code
def yL_cuts : MethodName := ⟨RL, "cuts", "(I[I[I[I[I[I)V"⟩
abbrev cL_shuffles : ByteArray := method_10_code
def yL_shuffles : MethodName := ⟨RL, "shuffles", "(I[I[I)I"⟩
abbrev cL_turns : ByteArray := method_11_code
def yL_turns : MethodName := ⟨RL, "turns", "(I[I[I)V"⟩
abbrev cL_alike : ByteArray := method_12_code
def yL_alike : MethodName := ⟨RL, "alike", "(I[I[I)I"⟩
abbrev cL_known : ByteArray := method_13_code
def yL_known : MethodName := ⟨RL, "known", "([I[I[I)I"⟩
abbrev cL_leaning : ByteArray := method_14_code
def yL_leaning : MethodName := ⟨RL, "leaning", "(I[I)I"⟩
abbrev cL_why : ByteArray := method_15_code
def yL_why : MethodName := ⟨RL, "why", "([I[I[I[I)I"⟩
abbrev cL_call : ByteArray := method_16_code
def yL_call : MethodName := ⟨RL, "call", "(LCardSheets;IIII)I"⟩
abbrev cL_ofBlocks : ByteArray := method_17_code
def yL_ofBlocks : MethodName := ⟨RL, "ofBlocks", "(IIII[I[I[I[I)I"⟩
abbrev cL_ofPack : ByteArray := method_18_code
def yL_ofPack : MethodName := ⟨RL, "ofPack", "(II[I[I[I[I[I)I"⟩
abbrev cL_isPack : ByteArray := method_19_code
def yL_isPack : MethodName := ⟨RL, "isPack", "(LCardSheets;I[I[I[I)Z"⟩
abbrev cL_isSo : ByteArray := method_20_code
def yL_isSo : MethodName := ⟨RL, "isSo", "(LCardSheets;I[I[I[I[I[I[I[I[I)Z"⟩
abbrev cL_told : ByteArray := method_21_code
def yL_told : MethodName := ⟨RL, "told", "(LCardSheets;)J"⟩
abbrev cL_law : ByteArray := code
def yL_law : MethodName := ⟨RL, "law", "([I)Z"⟩
theorem dX0_init_0 : decode cX0_init 0 = .ok (.aload_n 0, 1) := by decide +kernel
theorem dX0_init_1 : decode cX0_init 1 = .ok (.invokespecial 3, 3) := by decide +kernel
theorem dX0_init_4 : decode cX0_init 4 = .ok (.aload_n 0, 1) := by decide +kernel
theorem dX0_init_5 : decode cX0_init 5 = .ok (.iconst 4, 1) := by decide +kernel
theorem dX0_init_6 : decode cX0_init 6 = .ok (.anewarray 9, 3) := by decide +kernel
theorem dX0_init_9 : decode cX0_init 9 = .ok (.putfield 11, 3) := by decide +kernel
theorem dX0_init_12 : decode cX0_init 12 = .ok (.aload_n 0, 1) := by decide +kernel
theorem dX0_init_13 : decode cX0_init 13 = .ok (.iconst 0, 1) := by decide +kernel
theorem dX0_init_14 : decode cX0_init 14 = .ok (.putfield 17, 3) := by decide +kernel
theorem dX0_init_17 : decode cX0_init 17 = .ok (.aload_n 0, 1) := by decide +kernel
theorem dX0_init_18 : decode cX0_init 18 = .ok (.iconst 0, 1) := by decide +kernel
theorem dX0_init_19 : decode cX0_init 19 = .ok (.putfield 21, 3) := by decide +kernel
theorem dX0_init_22 : decode cX0_init 22 = .ok (.iconst 0, 1) := by decide +kernel
theorem dX0_init_23 : decode cX0_init 23 = .ok (.istore_n 1, 1) := by decide +kernel
theorem dX0_init_24 : decode cX0_init 24 = .ok (.iload_n 1, 1) := by decide +kernel
theorem dX0_init_25 : decode cX0_init 25 = .ok (.iconst 4, 1) := by decide +kernel
theorem dX0_init_26 : decode cX0_init 26 = .ok (.if_icmp .ge 22, 3) := by decide +kernel
theorem dX0_init_29 : decode cX0_init 29 = .ok (.aload_n 0, 1) := by decide +kernel
theorem dX0_init_30 : decode cX0_init 30 = .ok (.getfield 11, 3) := by decide +kernel
theorem dX0_init_33 : decode cX0_init 33 = .ok (.iload_n 1, 1) := by decide +kernel
theorem dX0_init_34 : decode cX0_init 34 = .ok (.new 9, 3) := by decide +kernel
theorem dX0_init_37 : decode cX0_init 37 = .ok (.dup, 1) := by decide +kernel
theorem dX0_init_38 : decode cX0_init 38 = .ok (.invokespecial 24, 3) := by decide +kernel
theorem dX0_init_41 : decode cX0_init 41 = .ok (.aastore, 1) := by decide +kernel
theorem dX0_init_42 : decode cX0_init 42 = .ok (.iinc 1 1, 3) := by decide +kernel
theorem dX0_init_45 : decode cX0_init 45 = .ok (.goto (-21), 3) := by decide +kernel
theorem dX0_init_48 : decode cX0_init 48 = .ok (.return_, 1) := by decide +kernel
theorem dX0_record_0 : decode cX0_record 0 = .ok (.aload_n 0, 1) := by decide +kernel
theorem dX0_record_1 : decode cX0_record 1 = .ok (.aload_n 0, 1) := by decide +kernel
theorem dX0_record_2 : decode cX0_record 2 = .ok (.getfield 17, 3) := by decide +kernel
theorem dX0_record_5 : decode cX0_record 5 = .ok (.aload_n 1, 1) := by decide +kernel
theorem dX0_record_6 : decode cX0_record 6 = .ok (.invokevirtual 25, 3) := by decide +kernel
theorem dX0_record_9 : decode cX0_record 9 = .ok (.aload_n 0, 1) := by decide +kernel
theorem dX0_record_10 : decode cX0_record 10 = .ok (.aload_n 0, 1) := by decide +kernel
theorem dX0_record_11 : decode cX0_record 11 = .ok (.getfield 17, 3) := by decide +kernel
theorem dX0_record_14 : decode cX0_record 14 = .ok (.iconst 1, 1) := by decide +kernel
theorem dX0_record_15 : decode cX0_record 15 = .ok (.iadd, 1) := by decide +kernel
theorem dX0_record_16 : decode cX0_record 16 = .ok (.iconst 4, 1) := by decide +kernel
theorem dX0_record_17 : decode cX0_record 17 = .ok (.irem, 1) := by decide +kernel
theorem dX0_record_18 : decode cX0_record 18 = .ok (.putfield 17, 3) := by decide +kernel
theorem dX0_record_21 : decode cX0_record 21 = .ok (.aload_n 0, 1) := by decide +kernel
theorem dX0_record_22 : decode cX0_record 22 = .ok (.aload_n 0, 1) := by decide +kernel
theorem dX0_record_23 : decode cX0_record 23 = .ok (.getfield 21, 3) := by decide +kernel
theorem dX0_record_26 : decode cX0_record 26 = .ok (.iconst 1, 1) := by decide +kernel
theorem dX0_record_27 : decode cX0_record 27 = .ok (.iadd, 1) := by decide +kernel
theorem dX0_record_28 : decode cX0_record 28 = .ok (.iconst 4, 1) := by decide +kernel
theorem dX0_record_29 : decode cX0_record 29 = .ok (.invokestatic 29, 3) := by decide +kernel
theorem dX0_record_32 : decode cX0_record 32 = .ok (.putfield 21, 3) := by decide +kernel
theorem dX0_record_35 : decode cX0_record 35 = .ok (.return_, 1) := by decide +kernel
theorem dX0_takeLatestInto_0 : decode cX0_takeLatestInto 0 = .ok (.aload_n 0, 1) := by decide +kernel
theorem dX0_takeLatestInto_1 : decode cX0_takeLatestInto 1 = .ok (.getfield 21, 3) := by decide +kernel
theorem dX0_takeLatestInto_4 : decode cX0_takeLatestInto 4 = .ok (.ifCond .ne 4, 3) := by decide +kernel
theorem dX0_takeLatestInto_7 : decode cX0_takeLatestInto 7 = .ok (.return_, 1) := by decide +kernel
theorem dX0_takeLatestInto_8 : decode cX0_takeLatestInto 8 = .ok (.aload_n 0, 1) := by decide +kernel
theorem dX0_takeLatestInto_9 : decode cX0_takeLatestInto 9 = .ok (.aload_n 0, 1) := by decide +kernel
theorem dX0_takeLatestInto_10 : decode cX0_takeLatestInto 10 = .ok (.getfield 17, 3) := by decide +kernel
theorem dX0_takeLatestInto_13 : decode cX0_takeLatestInto 13 = .ok (.iconst 4, 1) := by decide +kernel
theorem dX0_takeLatestInto_14 : decode cX0_takeLatestInto 14 = .ok (.iadd, 1) := by decide +kernel
theorem dX0_takeLatestInto_15 : decode cX0_takeLatestInto 15 = .ok (.iconst 1, 1) := by decide +kernel
theorem dX0_takeLatestInto_16 : decode cX0_takeLatestInto 16 = .ok (.isub, 1) := by decide +kernel
theorem dX0_takeLatestInto_17 : decode cX0_takeLatestInto 17 = .ok (.iconst 4, 1) := by decide +kernel
theorem dX0_takeLatestInto_18 : decode cX0_takeLatestInto 18 = .ok (.irem, 1) := by decide +kernel
theorem dX0_takeLatestInto_19 : decode cX0_takeLatestInto 19 = .ok (.putfield 17, 3) := by decide +kernel
theorem dX0_takeLatestInto_22 : decode cX0_takeLatestInto 22 = .ok (.aload_n 0, 1) := by decide +kernel
theorem dX0_takeLatestInto_23 : decode cX0_takeLatestInto 23 = .ok (.dup, 1) := by decide +kernel
theorem dX0_takeLatestInto_24 : decode cX0_takeLatestInto 24 = .ok (.getfield 21, 3) := by decide +kernel
theorem dX0_takeLatestInto_27 : decode cX0_takeLatestInto 27 = .ok (.iconst 1, 1) := by decide +kernel
theorem dX0_takeLatestInto_28 : decode cX0_takeLatestInto 28 = .ok (.isub, 1) := by decide +kernel
theorem dX0_takeLatestInto_29 : decode cX0_takeLatestInto 29 = .ok (.putfield 21, 3) := by decide +kernel
theorem dX0_takeLatestInto_32 : decode cX0_takeLatestInto 32 = .ok (.aload_n 0, 1) := by decide +kernel
theorem dX0_takeLatestInto_33 : decode cX0_takeLatestInto 33 = .ok (.getfield 17, 3) := by decide +kernel
theorem dX0_takeLatestInto_36 : decode cX0_takeLatestInto 36 = .ok (.ifCond .lt 24, 3) := by decide +kernel
theorem dX0_takeLatestInto_39 : decode cX0_takeLatestInto 39 = .ok (.aload_n 0, 1) := by decide +kernel
theorem dX0_takeLatestInto_40 : decode cX0_takeLatestInto 40 = .ok (.getfield 17, 3) := by decide +kernel
theorem dX0_takeLatestInto_43 : decode cX0_takeLatestInto 43 = .ok (.iconst 4, 1) := by decide +kernel
theorem dX0_takeLatestInto_44 : decode cX0_takeLatestInto 44 = .ok (.if_icmp .ge 16, 3) := by decide +kernel
theorem dX0_takeLatestInto_47 : decode cX0_takeLatestInto 47 = .ok (.aload_n 1, 1) := by decide +kernel
theorem dX0_takeLatestInto_48 : decode cX0_takeLatestInto 48 = .ok (.aload_n 0, 1) := by decide +kernel
theorem dX0_takeLatestInto_49 : decode cX0_takeLatestInto 49 = .ok (.getfield 11, 3) := by decide +kernel
theorem dX0_takeLatestInto_52 : decode cX0_takeLatestInto 52 = .ok (.aload_n 0, 1) := by decide +kernel
theorem dX0_takeLatestInto_53 : decode cX0_takeLatestInto 53 = .ok (.getfield 17, 3) := by decide +kernel
theorem dX0_takeLatestInto_56 : decode cX0_takeLatestInto 56 = .ok (.aaload, 1) := by decide +kernel
theorem dX0_takeLatestInto_57 : decode cX0_takeLatestInto 57 = .ok (.invokevirtual 35, 3) := by decide +kernel
theorem dX0_takeLatestInto_60 : decode cX0_takeLatestInto 60 = .ok (.return_, 1) := by decide +kernel
theorem dX0_copyTo_0 : decode cX0_copyTo 0 = .ok (.iload_n 1, 1) := by decide +kernel
theorem dX0_copyTo_1 : decode cX0_copyTo 1 = .ok (.ifCond .lt 8, 3) := by decide +kernel
theorem dX0_copyTo_4 : decode cX0_copyTo 4 = .ok (.iload_n 1, 1) := by decide +kernel
theorem dX0_copyTo_5 : decode cX0_copyTo 5 = .ok (.iconst 4, 1) := by decide +kernel
theorem dX0_copyTo_6 : decode cX0_copyTo 6 = .ok (.if_icmp .lt 4, 3) := by decide +kernel
theorem dX0_copyTo_9 : decode cX0_copyTo 9 = .ok (.return_, 1) := by decide +kernel
theorem dX0_copyTo_10 : decode cX0_copyTo 10 = .ok (.aload_n 0, 1) := by decide +kernel
theorem dX0_copyTo_11 : decode cX0_copyTo 11 = .ok (.getfield 11, 3) := by decide +kernel
theorem dX0_copyTo_14 : decode cX0_copyTo 14 = .ok (.iload_n 1, 1) := by decide +kernel
theorem dX0_copyTo_15 : decode cX0_copyTo 15 = .ok (.aaload, 1) := by decide +kernel
theorem dX0_copyTo_16 : decode cX0_copyTo 16 = .ok (.astore_n 3, 1) := by decide +kernel
theorem dX0_copyTo_17 : decode cX0_copyTo 17 = .ok (.aload_n 3, 1) := by decide +kernel
theorem dX0_copyTo_18 : decode cX0_copyTo 18 = .ok (.ifnull 8, 3) := by decide +kernel
theorem dX0_copyTo_21 : decode cX0_copyTo 21 = .ok (.aload_n 3, 1) := by decide +kernel
theorem dX0_copyTo_22 : decode cX0_copyTo 22 = .ok (.aload_n 2, 1) := by decide +kernel
theorem dX0_copyTo_23 : decode cX0_copyTo 23 = .ok (.invokevirtual 35, 3) := by decide +kernel
theorem dX0_copyTo_26 : decode cX0_copyTo 26 = .ok (.return_, 1) := by decide +kernel
theorem dX1_init_0 : decode cX1_init 0 = .ok (.aload_n 0, 1) := by decide +kernel
theorem dX1_init_1 : decode cX1_init 1 = .ok (.invokespecial 3, 3) := by decide +kernel
theorem dX1_init_4 : decode cX1_init 4 = .ok (.aload_n 0, 1) := by decide +kernel
theorem dX1_init_5 : decode cX1_init 5 = .ok (.bipush 24, 2) := by decide +kernel
theorem dX1_init_7 : decode cX1_init 7 = .ok (.newarray .int, 2) := by decide +kernel
theorem dX1_init_9 : decode cX1_init 9 = .ok (.putfield 9, 3) := by decide +kernel
theorem dX1_init_12 : decode cX1_init 12 = .ok (.aload_n 0, 1) := by decide +kernel
theorem dX1_init_13 : decode cX1_init 13 = .ok (.aconst_null, 1) := by decide +kernel
theorem dX1_init_14 : decode cX1_init 14 = .ok (.putfield 15, 3) := by decide +kernel
theorem dX1_init_17 : decode cX1_init 17 = .ok (.aload_n 0, 1) := by decide +kernel
theorem dX1_init_18 : decode cX1_init 18 = .ok (.iconst 0, 1) := by decide +kernel
theorem dX1_init_19 : decode cX1_init 19 = .ok (.putfield 19, 3) := by decide +kernel
theorem dX1_init_22 : decode cX1_init 22 = .ok (.return_, 1) := by decide +kernel
theorem dX1_copyFrom_0 : decode cX1_copyFrom 0 = .ok (.aload_n 1, 1) := by decide +kernel
theorem dX1_copyFrom_1 : decode cX1_copyFrom 1 = .ok (.getfield 9, 3) := by decide +kernel
theorem dX1_copyFrom_4 : decode cX1_copyFrom 4 = .ok (.aload_n 0, 1) := by decide +kernel
theorem dX1_copyFrom_5 : decode cX1_copyFrom 5 = .ok (.getfield 9, 3) := by decide +kernel
theorem dX1_copyFrom_8 : decode cX1_copyFrom 8 = .ok (.invokestatic 23, 3) := by decide +kernel
theorem dX1_copyFrom_11 : decode cX1_copyFrom 11 = .ok (.aload_n 0, 1) := by decide +kernel
theorem dX1_copyFrom_12 : decode cX1_copyFrom 12 = .ok (.aload_n 1, 1) := by decide +kernel
theorem dX1_copyFrom_13 : decode cX1_copyFrom 13 = .ok (.getfield 15, 3) := by decide +kernel
theorem dX1_copyFrom_16 : decode cX1_copyFrom 16 = .ok (.putfield 15, 3) := by decide +kernel
theorem dX1_copyFrom_19 : decode cX1_copyFrom 19 = .ok (.aload_n 0, 1) := by decide +kernel
theorem dX1_copyFrom_20 : decode cX1_copyFrom 20 = .ok (.aload_n 1, 1) := by decide +kernel
theorem dX1_copyFrom_21 : decode cX1_copyFrom 21 = .ok (.getfield 19, 3) := by decide +kernel
theorem dX1_copyFrom_24 : decode cX1_copyFrom 24 = .ok (.putfield 19, 3) := by decide +kernel
theorem dX1_copyFrom_27 : decode cX1_copyFrom 27 = .ok (.return_, 1) := by decide +kernel
theorem dX1_layDown_0 : decode cX1_layDown 0 = .ok (.aload_n 1, 1) := by decide +kernel
theorem dX1_layDown_1 : decode cX1_layDown 1 = .ok (.ifnonnull 4, 3) := by decide +kernel
theorem dX1_layDown_4 : decode cX1_layDown 4 = .ok (.return_, 1) := by decide +kernel
theorem dX1_layDown_5 : decode cX1_layDown 5 = .ok (.aload_n 0, 1) := by decide +kernel
theorem dX1_layDown_6 : decode cX1_layDown 6 = .ok (.aload_n 1, 1) := by decide +kernel
theorem dX1_layDown_7 : decode cX1_layDown 7 = .ok (.putfield 15, 3) := by decide +kernel
theorem dX1_layDown_10 : decode cX1_layDown 10 = .ok (.aload_n 0, 1) := by decide +kernel
theorem dX1_layDown_11 : decode cX1_layDown 11 = .ok (.iconst 0, 1) := by decide +kernel
theorem dX1_layDown_12 : decode cX1_layDown 12 = .ok (.putfield 19, 3) := by decide +kernel
theorem dX1_layDown_15 : decode cX1_layDown 15 = .ok (.iconst 0, 1) := by decide +kernel
theorem dX1_layDown_16 : decode cX1_layDown 16 = .ok (.istore_n 3, 1) := by decide +kernel
theorem dX1_layDown_17 : decode cX1_layDown 17 = .ok (.iload_n 3, 1) := by decide +kernel
theorem dX1_layDown_18 : decode cX1_layDown 18 = .ok (.bipush 24, 2) := by decide +kernel
theorem dX1_layDown_20 : decode cX1_layDown 20 = .ok (.if_icmp .ge 21, 3) := by decide +kernel
theorem dX1_layDown_23 : decode cX1_layDown 23 = .ok (.aload_n 0, 1) := by decide +kernel
theorem dX1_layDown_24 : decode cX1_layDown 24 = .ok (.getfield 9, 3) := by decide +kernel
theorem dX1_layDown_27 : decode cX1_layDown 27 = .ok (.iload_n 3, 1) := by decide +kernel
theorem dX1_layDown_28 : decode cX1_layDown 28 = .ok (.aload_n 1, 1) := by decide +kernel
theorem dX1_layDown_29 : decode cX1_layDown 29 = .ok (.iload_n 2, 1) := by decide +kernel
theorem dX1_layDown_30 : decode cX1_layDown 30 = .ok (.iload_n 3, 1) := by decide +kernel
theorem dX1_layDown_31 : decode cX1_layDown 31 = .ok (.invokevirtual 27, 3) := by decide +kernel
theorem dX1_layDown_34 : decode cX1_layDown 34 = .ok (.iastore, 1) := by decide +kernel
theorem dX1_layDown_35 : decode cX1_layDown 35 = .ok (.iinc 3 1, 3) := by decide +kernel
theorem dX1_layDown_38 : decode cX1_layDown 38 = .ok (.goto (-21), 3) := by decide +kernel
theorem dX1_layDown_41 : decode cX1_layDown 41 = .ok (.return_, 1) := by decide +kernel
theorem dX1_takeAway_0 : decode cX1_takeAway 0 = .ok (.aload_n 0, 1) := by decide +kernel
theorem dX1_takeAway_1 : decode cX1_takeAway 1 = .ok (.aconst_null, 1) := by decide +kernel
theorem dX1_takeAway_2 : decode cX1_takeAway 2 = .ok (.putfield 15, 3) := by decide +kernel
theorem dX1_takeAway_5 : decode cX1_takeAway 5 = .ok (.aload_n 0, 1) := by decide +kernel
theorem dX1_takeAway_6 : decode cX1_takeAway 6 = .ok (.iconst 0, 1) := by decide +kernel
theorem dX1_takeAway_7 : decode cX1_takeAway 7 = .ok (.putfield 19, 3) := by decide +kernel
theorem dX1_takeAway_10 : decode cX1_takeAway 10 = .ok (.return_, 1) := by decide +kernel
theorem dX1_isThere_0 : decode cX1_isThere 0 = .ok (.aload_n 0, 1) := by decide +kernel
theorem dX1_isThere_1 : decode cX1_isThere 1 = .ok (.getfield 15, 3) := by decide +kernel
theorem dX1_isThere_4 : decode cX1_isThere 4 = .ok (.ifnull 7, 3) := by decide +kernel
theorem dX1_isThere_7 : decode cX1_isThere 7 = .ok (.iconst 1, 1) := by decide +kernel
theorem dX1_isThere_8 : decode cX1_isThere 8 = .ok (.goto 4, 3) := by decide +kernel
theorem dX1_isThere_11 : decode cX1_isThere 11 = .ok (.iconst 0, 1) := by decide +kernel
theorem dX1_isThere_12 : decode cX1_isThere 12 = .ok (.ireturn, 1) := by decide +kernel
theorem dX1_left_0 : decode cX1_left 0 = .ok (.aload_n 0, 1) := by decide +kernel
theorem dX1_left_1 : decode cX1_left 1 = .ok (.getfield 15, 3) := by decide +kernel
theorem dX1_left_4 : decode cX1_left 4 = .ok (.ifnonnull 7, 3) := by decide +kernel
theorem dX1_left_7 : decode cX1_left 7 = .ok (.iconst 0, 1) := by decide +kernel
theorem dX1_left_8 : decode cX1_left 8 = .ok (.goto 10, 3) := by decide +kernel
theorem dX1_left_11 : decode cX1_left 11 = .ok (.bipush 24, 2) := by decide +kernel
theorem dX1_left_13 : decode cX1_left 13 = .ok (.aload_n 0, 1) := by decide +kernel
theorem dX1_left_14 : decode cX1_left 14 = .ok (.getfield 19, 3) := by decide +kernel
theorem dX1_left_17 : decode cX1_left 17 = .ok (.isub, 1) := by decide +kernel
theorem dX1_left_18 : decode cX1_left 18 = .ok (.ireturn, 1) := by decide +kernel
theorem dX1_hasPartsAt_0 : decode cX1_hasPartsAt 0 = .ok (.iload_n 1, 1) := by decide +kernel
theorem dX1_hasPartsAt_1 : decode cX1_hasPartsAt 1 = .ok (.iconst 1, 1) := by decide +kernel
theorem dX1_hasPartsAt_2 : decode cX1_hasPartsAt 2 = .ok (.if_icmp .lt 15, 3) := by decide +kernel
theorem dX1_hasPartsAt_5 : decode cX1_hasPartsAt 5 = .ok (.iload_n 1, 1) := by decide +kernel
theorem dX1_hasPartsAt_6 : decode cX1_hasPartsAt 6 = .ok (.aload_n 0, 1) := by decide +kernel
theorem dX1_hasPartsAt_7 : decode cX1_hasPartsAt 7 = .ok (.invokevirtual 33, 3) := by decide +kernel
theorem dX1_hasPartsAt_10 : decode cX1_hasPartsAt 10 = .ok (.if_icmp .ge 7, 3) := by decide +kernel
theorem dX1_hasPartsAt_13 : decode cX1_hasPartsAt 13 = .ok (.iconst 1, 1) := by decide +kernel
theorem dX1_hasPartsAt_14 : decode cX1_hasPartsAt 14 = .ok (.goto 4, 3) := by decide +kernel
theorem dX1_hasPartsAt_17 : decode cX1_hasPartsAt 17 = .ok (.iconst 0, 1) := by decide +kernel
theorem dX1_hasPartsAt_18 : decode cX1_hasPartsAt 18 = .ok (.ireturn, 1) := by decide +kernel
theorem dX1_cardAt_0 : decode cX1_cardAt 0 = .ok (.aload_n 0, 1) := by decide +kernel
theorem dX1_cardAt_1 : decode cX1_cardAt 1 = .ok (.getfield 9, 3) := by decide +kernel
theorem dX1_cardAt_4 : decode cX1_cardAt 4 = .ok (.aload_n 0, 1) := by decide +kernel
theorem dX1_cardAt_5 : decode cX1_cardAt 5 = .ok (.getfield 19, 3) := by decide +kernel
theorem dX1_cardAt_8 : decode cX1_cardAt 8 = .ok (.iload_n 1, 1) := by decide +kernel
theorem dX1_cardAt_9 : decode cX1_cardAt 9 = .ok (.iadd, 1) := by decide +kernel
theorem dX1_cardAt_10 : decode cX1_cardAt 10 = .ok (.invokestatic 37, 3) := by decide +kernel
theorem dX1_cardAt_13 : decode cX1_cardAt 13 = .ok (.ireturn, 1) := by decide +kernel
theorem dX1_placeOf_0 : decode cX1_placeOf 0 = .ok (.aload_n 0, 1) := by decide +kernel
theorem dX1_placeOf_1 : decode cX1_placeOf 1 = .ok (.invokevirtual 33, 3) := by decide +kernel
theorem dX1_placeOf_4 : decode cX1_placeOf 4 = .ok (.istore_n 2, 1) := by decide +kernel
theorem dX1_placeOf_5 : decode cX1_placeOf 5 = .ok (.iconst 0, 1) := by decide +kernel
theorem dX1_placeOf_6 : decode cX1_placeOf 6 = .ok (.istore_n 3, 1) := by decide +kernel
theorem dX1_placeOf_7 : decode cX1_placeOf 7 = .ok (.iload_n 3, 1) := by decide +kernel
theorem dX1_placeOf_8 : decode cX1_placeOf 8 = .ok (.iload_n 2, 1) := by decide +kernel
theorem dX1_placeOf_9 : decode cX1_placeOf 9 = .ok (.if_icmp .ge 20, 3) := by decide +kernel
theorem dX1_placeOf_12 : decode cX1_placeOf 12 = .ok (.aload_n 0, 1) := by decide +kernel
theorem dX1_placeOf_13 : decode cX1_placeOf 13 = .ok (.iload_n 3, 1) := by decide +kernel
theorem dX1_placeOf_14 : decode cX1_placeOf 14 = .ok (.invokevirtual 41, 3) := by decide +kernel
theorem dX1_placeOf_17 : decode cX1_placeOf 17 = .ok (.iload_n 1, 1) := by decide +kernel
theorem dX1_placeOf_18 : decode cX1_placeOf 18 = .ok (.if_icmp .ne 5, 3) := by decide +kernel
theorem dX1_placeOf_21 : decode cX1_placeOf 21 = .ok (.iload_n 3, 1) := by decide +kernel
theorem dX1_placeOf_22 : decode cX1_placeOf 22 = .ok (.ireturn, 1) := by decide +kernel
theorem dX1_placeOf_23 : decode cX1_placeOf 23 = .ok (.iinc 3 1, 3) := by decide +kernel
theorem dX1_placeOf_26 : decode cX1_placeOf 26 = .ok (.goto (-19), 3) := by decide +kernel
theorem dX1_placeOf_29 : decode cX1_placeOf 29 = .ok (.bipush (-5), 2) := by decide +kernel
theorem dX1_placeOf_31 : decode cX1_placeOf 31 = .ok (.ireturn, 1) := by decide +kernel
theorem dX1_cutAt_0 : decode cX1_cutAt 0 = .ok (.aload_n 0, 1) := by decide +kernel
theorem dX1_cutAt_1 : decode cX1_cutAt 1 = .ok (.getfield 9, 3) := by decide +kernel
theorem dX1_cutAt_4 : decode cX1_cutAt 4 = .ok (.aload_n 2, 1) := by decide +kernel
theorem dX1_cutAt_5 : decode cX1_cutAt 5 = .ok (.invokestatic 23, 3) := by decide +kernel
theorem dX1_cutAt_8 : decode cX1_cutAt 8 = .ok (.aload_n 0, 1) := by decide +kernel
theorem dX1_cutAt_9 : decode cX1_cutAt 9 = .ok (.invokevirtual 33, 3) := by decide +kernel
theorem dX1_cutAt_12 : decode cX1_cutAt 12 = .ok (.istore_n 3, 1) := by decide +kernel
theorem dX1_cutAt_13 : decode cX1_cutAt 13 = .ok (.iconst 0, 1) := by decide +kernel
theorem dX1_cutAt_14 : decode cX1_cutAt 14 = .ok (.istore 4, 2) := by decide +kernel
theorem dX1_cutAt_16 : decode cX1_cutAt 16 = .ok (.iload 4, 2) := by decide +kernel
theorem dX1_cutAt_18 : decode cX1_cutAt 18 = .ok (.iload_n 3, 1) := by decide +kernel
theorem dX1_cutAt_19 : decode cX1_cutAt 19 = .ok (.if_icmp .ge 57, 3) := by decide +kernel
theorem dX1_cutAt_22 : decode cX1_cutAt 22 = .ok (.iload 4, 2) := by decide +kernel
theorem dX1_cutAt_24 : decode cX1_cutAt 24 = .ok (.iload_n 1, 1) := by decide +kernel
theorem dX1_cutAt_25 : decode cX1_cutAt 25 = .ok (.iadd, 1) := by decide +kernel
theorem dX1_cutAt_26 : decode cX1_cutAt 26 = .ok (.iload_n 3, 1) := by decide +kernel
theorem dX1_cutAt_27 : decode cX1_cutAt 27 = .ok (.if_icmp .ge 10, 3) := by decide +kernel
theorem dX1_cutAt_30 : decode cX1_cutAt 30 = .ok (.iload 4, 2) := by decide +kernel
theorem dX1_cutAt_32 : decode cX1_cutAt 32 = .ok (.iload_n 1, 1) := by decide +kernel
theorem dX1_cutAt_33 : decode cX1_cutAt 33 = .ok (.iadd, 1) := by decide +kernel
theorem dX1_cutAt_34 : decode cX1_cutAt 34 = .ok (.goto 9, 3) := by decide +kernel
theorem dX1_cutAt_37 : decode cX1_cutAt 37 = .ok (.iload 4, 2) := by decide +kernel
theorem dX1_cutAt_39 : decode cX1_cutAt 39 = .ok (.iload_n 1, 1) := by decide +kernel
theorem dX1_cutAt_40 : decode cX1_cutAt 40 = .ok (.iadd, 1) := by decide +kernel
theorem dX1_cutAt_41 : decode cX1_cutAt 41 = .ok (.iload_n 3, 1) := by decide +kernel
theorem dX1_cutAt_42 : decode cX1_cutAt 42 = .ok (.isub, 1) := by decide +kernel
theorem dX1_cutAt_43 : decode cX1_cutAt 43 = .ok (.istore 5, 2) := by decide +kernel
theorem dX1_cutAt_45 : decode cX1_cutAt 45 = .ok (.aload_n 0, 1) := by decide +kernel
theorem dX1_cutAt_46 : decode cX1_cutAt 46 = .ok (.getfield 9, 3) := by decide +kernel
theorem dX1_cutAt_49 : decode cX1_cutAt 49 = .ok (.aload_n 0, 1) := by decide +kernel
theorem dX1_cutAt_50 : decode cX1_cutAt 50 = .ok (.getfield 19, 3) := by decide +kernel
theorem dX1_cutAt_53 : decode cX1_cutAt 53 = .ok (.iload 4, 2) := by decide +kernel
theorem dX1_cutAt_55 : decode cX1_cutAt 55 = .ok (.iadd, 1) := by decide +kernel
theorem dX1_cutAt_56 : decode cX1_cutAt 56 = .ok (.aload_n 2, 1) := by decide +kernel
theorem dX1_cutAt_57 : decode cX1_cutAt 57 = .ok (.aload_n 0, 1) := by decide +kernel
theorem dX1_cutAt_58 : decode cX1_cutAt 58 = .ok (.getfield 19, 3) := by decide +kernel
theorem dX1_cutAt_61 : decode cX1_cutAt 61 = .ok (.iload 5, 2) := by decide +kernel
theorem dX1_cutAt_63 : decode cX1_cutAt 63 = .ok (.iadd, 1) := by decide +kernel
theorem dX1_cutAt_64 : decode cX1_cutAt 64 = .ok (.invokestatic 37, 3) := by decide +kernel
theorem dX1_cutAt_67 : decode cX1_cutAt 67 = .ok (.invokestatic 45, 3) := by decide +kernel
theorem dX1_cutAt_70 : decode cX1_cutAt 70 = .ok (.iinc 4 1, 3) := by decide +kernel
theorem dX1_cutAt_73 : decode cX1_cutAt 73 = .ok (.goto (-57), 3) := by decide +kernel
theorem dX1_cutAt_76 : decode cX1_cutAt 76 = .ok (.return_, 1) := by decide +kernel
theorem dX1_shuffleAt_0 : decode cX1_shuffleAt 0 = .ok (.aload_n 0, 1) := by decide +kernel
theorem dX1_shuffleAt_1 : decode cX1_shuffleAt 1 = .ok (.getfield 9, 3) := by decide +kernel
theorem dX1_shuffleAt_4 : decode cX1_shuffleAt 4 = .ok (.aload_n 2, 1) := by decide +kernel
theorem dX1_shuffleAt_5 : decode cX1_shuffleAt 5 = .ok (.invokestatic 23, 3) := by decide +kernel
theorem dX1_shuffleAt_8 : decode cX1_shuffleAt 8 = .ok (.aload_n 0, 1) := by decide +kernel
theorem dX1_shuffleAt_9 : decode cX1_shuffleAt 9 = .ok (.invokevirtual 33, 3) := by decide +kernel
theorem dX1_shuffleAt_12 : decode cX1_shuffleAt 12 = .ok (.istore_n 3, 1) := by decide +kernel
theorem dX1_shuffleAt_13 : decode cX1_shuffleAt 13 = .ok (.iconst 0, 1) := by decide +kernel
theorem dX1_shuffleAt_14 : decode cX1_shuffleAt 14 = .ok (.istore 4, 2) := by decide +kernel
theorem dX1_shuffleAt_16 : decode cX1_shuffleAt 16 = .ok (.iconst 0, 1) := by decide +kernel
theorem dX1_shuffleAt_17 : decode cX1_shuffleAt 17 = .ok (.istore 5, 2) := by decide +kernel
theorem dX1_shuffleAt_19 : decode cX1_shuffleAt 19 = .ok (.iload 5, 2) := by decide +kernel
theorem dX1_shuffleAt_21 : decode cX1_shuffleAt 21 = .ok (.iload_n 3, 1) := by decide +kernel
theorem dX1_shuffleAt_22 : decode cX1_shuffleAt 22 = .ok (.if_icmp .ge 53, 3) := by decide +kernel
theorem dX1_shuffleAt_25 : decode cX1_shuffleAt 25 = .ok (.iload 5, 2) := by decide +kernel
theorem dX1_shuffleAt_27 : decode cX1_shuffleAt 27 = .ok (.iload_n 1, 1) := by decide +kernel
theorem dX1_shuffleAt_28 : decode cX1_shuffleAt 28 = .ok (.iload_n 3, 1) := by decide +kernel
theorem dX1_shuffleAt_29 : decode cX1_shuffleAt 29 = .ok (.invokestatic 49, 3) := by decide +kernel
theorem dX1_shuffleAt_32 : decode cX1_shuffleAt 32 = .ok (.istore 6, 2) := by decide +kernel
theorem dX1_shuffleAt_34 : decode cX1_shuffleAt 34 = .ok (.aload_n 0, 1) := by decide +kernel
theorem dX1_shuffleAt_35 : decode cX1_shuffleAt 35 = .ok (.getfield 9, 3) := by decide +kernel
theorem dX1_shuffleAt_38 : decode cX1_shuffleAt 38 = .ok (.aload_n 0, 1) := by decide +kernel
theorem dX1_shuffleAt_39 : decode cX1_shuffleAt 39 = .ok (.getfield 19, 3) := by decide +kernel
theorem dX1_shuffleAt_42 : decode cX1_shuffleAt 42 = .ok (.iload 5, 2) := by decide +kernel
theorem dX1_shuffleAt_44 : decode cX1_shuffleAt 44 = .ok (.iadd, 1) := by decide +kernel
theorem dX1_shuffleAt_45 : decode cX1_shuffleAt 45 = .ok (.aload_n 2, 1) := by decide +kernel
theorem dX1_shuffleAt_46 : decode cX1_shuffleAt 46 = .ok (.aload_n 0, 1) := by decide +kernel
theorem dX1_shuffleAt_47 : decode cX1_shuffleAt 47 = .ok (.getfield 19, 3) := by decide +kernel
theorem dX1_shuffleAt_50 : decode cX1_shuffleAt 50 = .ok (.iload 6, 2) := by decide +kernel
theorem dX1_shuffleAt_52 : decode cX1_shuffleAt 52 = .ok (.iadd, 1) := by decide +kernel
theorem dX1_shuffleAt_53 : decode cX1_shuffleAt 53 = .ok (.invokestatic 37, 3) := by decide +kernel
theorem dX1_shuffleAt_56 : decode cX1_shuffleAt 56 = .ok (.invokestatic 45, 3) := by decide +kernel
theorem dX1_shuffleAt_59 : decode cX1_shuffleAt 59 = .ok (.iload 6, 2) := by decide +kernel
theorem dX1_shuffleAt_61 : decode cX1_shuffleAt 61 = .ok (.iload 5, 2) := by decide +kernel
theorem dX1_shuffleAt_63 : decode cX1_shuffleAt 63 = .ok (.if_icmp .eq 6, 3) := by decide +kernel
theorem dX1_shuffleAt_66 : decode cX1_shuffleAt 66 = .ok (.iinc 4 1, 3) := by decide +kernel
theorem dX1_shuffleAt_69 : decode cX1_shuffleAt 69 = .ok (.iinc 5 1, 3) := by decide +kernel
theorem dX1_shuffleAt_72 : decode cX1_shuffleAt 72 = .ok (.goto (-53), 3) := by decide +kernel
theorem dX1_shuffleAt_75 : decode cX1_shuffleAt 75 = .ok (.iload 4, 2) := by decide +kernel
theorem dX1_shuffleAt_77 : decode cX1_shuffleAt 77 = .ok (.ireturn, 1) := by decide +kernel
theorem dX1_marksOf_0 : decode cX1_marksOf 0 = .ok (.aload_n 0, 1) := by decide +kernel
theorem dX1_marksOf_1 : decode cX1_marksOf 1 = .ok (.getfield 15, 3) := by decide +kernel
theorem dX1_marksOf_4 : decode cX1_marksOf 4 = .ok (.ifnonnull 8, 3) := by decide +kernel
theorem dX1_marksOf_7 : decode cX1_marksOf 7 = .ok (.bipush (-5), 2) := by decide +kernel
theorem dX1_marksOf_9 : decode cX1_marksOf 9 = .ok (.goto 14, 3) := by decide +kernel
theorem dX1_marksOf_12 : decode cX1_marksOf 12 = .ok (.aload_n 0, 1) := by decide +kernel
theorem dX1_marksOf_13 : decode cX1_marksOf 13 = .ok (.getfield 15, 3) := by decide +kernel
theorem dX1_marksOf_16 : decode cX1_marksOf 16 = .ok (.getfield 53, 3) := by decide +kernel
theorem dX1_marksOf_19 : decode cX1_marksOf 19 = .ok (.iload_n 1, 1) := by decide +kernel
theorem dX1_marksOf_20 : decode cX1_marksOf 20 = .ok (.invokestatic 37, 3) := by decide +kernel
theorem dX1_marksOf_23 : decode cX1_marksOf 23 = .ok (.ireturn, 1) := by decide +kernel
theorem dX1_marksAt_0 : decode cX1_marksAt 0 = .ok (.aload_n 0, 1) := by decide +kernel
theorem dX1_marksAt_1 : decode cX1_marksAt 1 = .ok (.aload_n 0, 1) := by decide +kernel
theorem dX1_marksAt_2 : decode cX1_marksAt 2 = .ok (.iload_n 1, 1) := by decide +kernel
theorem dX1_marksAt_3 : decode cX1_marksAt 3 = .ok (.invokevirtual 41, 3) := by decide +kernel
theorem dX1_marksAt_6 : decode cX1_marksAt 6 = .ok (.invokevirtual 56, 3) := by decide +kernel
theorem dX1_marksAt_9 : decode cX1_marksAt 9 = .ok (.ireturn, 1) := by decide +kernel
theorem dX1_canBeAt_0 : decode cX1_canBeAt 0 = .ok (.aload_n 0, 1) := by decide +kernel
theorem dX1_canBeAt_1 : decode cX1_canBeAt 1 = .ok (.iload_n 1, 1) := by decide +kernel
theorem dX1_canBeAt_2 : decode cX1_canBeAt 2 = .ok (.invokevirtual 59, 3) := by decide +kernel
theorem dX1_canBeAt_5 : decode cX1_canBeAt 5 = .ok (.istore_n 2, 1) := by decide +kernel
theorem dX1_canBeAt_6 : decode cX1_canBeAt 6 = .ok (.aload_n 0, 1) := by decide +kernel
theorem dX1_canBeAt_7 : decode cX1_canBeAt 7 = .ok (.invokevirtual 33, 3) := by decide +kernel
theorem dX1_canBeAt_10 : decode cX1_canBeAt 10 = .ok (.istore_n 3, 1) := by decide +kernel
theorem dX1_canBeAt_11 : decode cX1_canBeAt 11 = .ok (.iconst 0, 1) := by decide +kernel
theorem dX1_canBeAt_12 : decode cX1_canBeAt 12 = .ok (.istore 4, 2) := by decide +kernel
theorem dX1_canBeAt_14 : decode cX1_canBeAt 14 = .ok (.iconst 0, 1) := by decide +kernel
theorem dX1_canBeAt_15 : decode cX1_canBeAt 15 = .ok (.istore 5, 2) := by decide +kernel
theorem dX1_canBeAt_17 : decode cX1_canBeAt 17 = .ok (.iload 5, 2) := by decide +kernel
theorem dX1_canBeAt_19 : decode cX1_canBeAt 19 = .ok (.iload_n 3, 1) := by decide +kernel
theorem dX1_canBeAt_20 : decode cX1_canBeAt 20 = .ok (.if_icmp .ge 22, 3) := by decide +kernel
theorem dX1_canBeAt_23 : decode cX1_canBeAt 23 = .ok (.aload_n 0, 1) := by decide +kernel
theorem dX1_canBeAt_24 : decode cX1_canBeAt 24 = .ok (.iload 5, 2) := by decide +kernel
theorem dX1_canBeAt_26 : decode cX1_canBeAt 26 = .ok (.invokevirtual 59, 3) := by decide +kernel
theorem dX1_canBeAt_29 : decode cX1_canBeAt 29 = .ok (.iload_n 2, 1) := by decide +kernel
theorem dX1_canBeAt_30 : decode cX1_canBeAt 30 = .ok (.if_icmp .ne 6, 3) := by decide +kernel
theorem dX1_canBeAt_33 : decode cX1_canBeAt 33 = .ok (.iinc 4 1, 3) := by decide +kernel
theorem dX1_canBeAt_36 : decode cX1_canBeAt 36 = .ok (.iinc 5 1, 3) := by decide +kernel
theorem dX1_canBeAt_39 : decode cX1_canBeAt 39 = .ok (.goto (-22), 3) := by decide +kernel
theorem dX1_canBeAt_42 : decode cX1_canBeAt 42 = .ok (.iload 4, 2) := by decide +kernel
theorem dX1_canBeAt_44 : decode cX1_canBeAt 44 = .ok (.ireturn, 1) := by decide +kernel
theorem dX1_guessAt_0 : decode cX1_guessAt 0 = .ok (.aload_n 0, 1) := by decide +kernel
theorem dX1_guessAt_1 : decode cX1_guessAt 1 = .ok (.iload_n 1, 1) := by decide +kernel
theorem dX1_guessAt_2 : decode cX1_guessAt 2 = .ok (.invokevirtual 59, 3) := by decide +kernel
theorem dX1_guessAt_5 : decode cX1_guessAt 5 = .ok (.istore_n 2, 1) := by decide +kernel
theorem dX1_guessAt_6 : decode cX1_guessAt 6 = .ok (.aload_n 0, 1) := by decide +kernel
theorem dX1_guessAt_7 : decode cX1_guessAt 7 = .ok (.invokevirtual 33, 3) := by decide +kernel
theorem dX1_guessAt_10 : decode cX1_guessAt 10 = .ok (.istore_n 3, 1) := by decide +kernel
theorem dX1_guessAt_11 : decode cX1_guessAt 11 = .ok (.aload_n 0, 1) := by decide +kernel
theorem dX1_guessAt_12 : decode cX1_guessAt 12 = .ok (.iload_n 1, 1) := by decide +kernel
theorem dX1_guessAt_13 : decode cX1_guessAt 13 = .ok (.invokevirtual 41, 3) := by decide +kernel
theorem dX1_guessAt_16 : decode cX1_guessAt 16 = .ok (.istore 4, 2) := by decide +kernel
theorem dX1_guessAt_18 : decode cX1_guessAt 18 = .ok (.iconst 0, 1) := by decide +kernel
theorem dX1_guessAt_19 : decode cX1_guessAt 19 = .ok (.istore 5, 2) := by decide +kernel
theorem dX1_guessAt_21 : decode cX1_guessAt 21 = .ok (.iload 5, 2) := by decide +kernel
theorem dX1_guessAt_23 : decode cX1_guessAt 23 = .ok (.iload_n 3, 1) := by decide +kernel
theorem dX1_guessAt_24 : decode cX1_guessAt 24 = .ok (.if_icmp .ge 32, 3) := by decide +kernel
theorem dX1_guessAt_27 : decode cX1_guessAt 27 = .ok (.aload_n 0, 1) := by decide +kernel
theorem dX1_guessAt_28 : decode cX1_guessAt 28 = .ok (.iload 5, 2) := by decide +kernel
theorem dX1_guessAt_30 : decode cX1_guessAt 30 = .ok (.invokevirtual 59, 3) := by decide +kernel
theorem dX1_guessAt_33 : decode cX1_guessAt 33 = .ok (.iload_n 2, 1) := by decide +kernel
theorem dX1_guessAt_34 : decode cX1_guessAt 34 = .ok (.if_icmp .ne 16, 3) := by decide +kernel
theorem dX1_guessAt_37 : decode cX1_guessAt 37 = .ok (.iload 4, 2) := by decide +kernel
theorem dX1_guessAt_39 : decode cX1_guessAt 39 = .ok (.aload_n 0, 1) := by decide +kernel
theorem dX1_guessAt_40 : decode cX1_guessAt 40 = .ok (.iload 5, 2) := by decide +kernel
theorem dX1_guessAt_42 : decode cX1_guessAt 42 = .ok (.invokevirtual 41, 3) := by decide +kernel
theorem dX1_guessAt_45 : decode cX1_guessAt 45 = .ok (.invokestatic 62, 3) := by decide +kernel
theorem dX1_guessAt_48 : decode cX1_guessAt 48 = .ok (.istore 4, 2) := by decide +kernel
theorem dX1_guessAt_50 : decode cX1_guessAt 50 = .ok (.iinc 5 1, 3) := by decide +kernel
theorem dX1_guessAt_53 : decode cX1_guessAt 53 = .ok (.goto (-32), 3) := by decide +kernel
theorem dX1_guessAt_56 : decode cX1_guessAt 56 = .ok (.iload 4, 2) := by decide +kernel
theorem dX1_guessAt_58 : decode cX1_guessAt 58 = .ok (.ireturn, 1) := by decide +kernel
theorem dX1_known_0 : decode cX1_known 0 = .ok (.aload_n 0, 1) := by decide +kernel
theorem dX1_known_1 : decode cX1_known 1 = .ok (.invokevirtual 33, 3) := by decide +kernel
theorem dX1_known_4 : decode cX1_known 4 = .ok (.istore_n 1, 1) := by decide +kernel
theorem dX1_known_5 : decode cX1_known 5 = .ok (.iconst 0, 1) := by decide +kernel
theorem dX1_known_6 : decode cX1_known 6 = .ok (.istore_n 2, 1) := by decide +kernel
theorem dX1_known_7 : decode cX1_known 7 = .ok (.iconst 0, 1) := by decide +kernel
theorem dX1_known_8 : decode cX1_known 8 = .ok (.istore_n 3, 1) := by decide +kernel
theorem dX1_known_9 : decode cX1_known 9 = .ok (.iload_n 3, 1) := by decide +kernel
theorem dX1_known_10 : decode cX1_known 10 = .ok (.iload_n 1, 1) := by decide +kernel
theorem dX1_known_11 : decode cX1_known 11 = .ok (.if_icmp .ge 21, 3) := by decide +kernel
theorem dX1_known_14 : decode cX1_known 14 = .ok (.aload_n 0, 1) := by decide +kernel
theorem dX1_known_15 : decode cX1_known 15 = .ok (.iload_n 3, 1) := by decide +kernel
theorem dX1_known_16 : decode cX1_known 16 = .ok (.invokevirtual 67, 3) := by decide +kernel
theorem dX1_known_19 : decode cX1_known 19 = .ok (.iconst 1, 1) := by decide +kernel
theorem dX1_known_20 : decode cX1_known 20 = .ok (.if_icmp .ne 6, 3) := by decide +kernel
theorem dX1_known_23 : decode cX1_known 23 = .ok (.iinc 2 1, 3) := by decide +kernel
theorem dX1_known_26 : decode cX1_known 26 = .ok (.iinc 3 1, 3) := by decide +kernel
theorem dX1_known_29 : decode cX1_known 29 = .ok (.goto (-20), 3) := by decide +kernel
theorem dX1_known_32 : decode cX1_known 32 = .ok (.iload_n 2, 1) := by decide +kernel
theorem dX1_known_33 : decode cX1_known 33 = .ok (.ireturn, 1) := by decide +kernel
theorem dX1_guessedRight_0 : decode cX1_guessedRight 0 = .ok (.aload_n 0, 1) := by decide +kernel
theorem dX1_guessedRight_1 : decode cX1_guessedRight 1 = .ok (.invokevirtual 33, 3) := by decide +kernel
theorem dX1_guessedRight_4 : decode cX1_guessedRight 4 = .ok (.istore_n 1, 1) := by decide +kernel
theorem dX1_guessedRight_5 : decode cX1_guessedRight 5 = .ok (.iconst 0, 1) := by decide +kernel
theorem dX1_guessedRight_6 : decode cX1_guessedRight 6 = .ok (.istore_n 2, 1) := by decide +kernel
theorem dX1_guessedRight_7 : decode cX1_guessedRight 7 = .ok (.iconst 0, 1) := by decide +kernel
theorem dX1_guessedRight_8 : decode cX1_guessedRight 8 = .ok (.istore_n 3, 1) := by decide +kernel
theorem dX1_guessedRight_9 : decode cX1_guessedRight 9 = .ok (.iload_n 3, 1) := by decide +kernel
theorem dX1_guessedRight_10 : decode cX1_guessedRight 10 = .ok (.iload_n 1, 1) := by decide +kernel
theorem dX1_guessedRight_11 : decode cX1_guessedRight 11 = .ok (.if_icmp .ge 25, 3) := by decide +kernel
theorem dX1_guessedRight_14 : decode cX1_guessedRight 14 = .ok (.aload_n 0, 1) := by decide +kernel
theorem dX1_guessedRight_15 : decode cX1_guessedRight 15 = .ok (.iload_n 3, 1) := by decide +kernel
theorem dX1_guessedRight_16 : decode cX1_guessedRight 16 = .ok (.invokevirtual 70, 3) := by decide +kernel
theorem dX1_guessedRight_19 : decode cX1_guessedRight 19 = .ok (.aload_n 0, 1) := by decide +kernel
theorem dX1_guessedRight_20 : decode cX1_guessedRight 20 = .ok (.iload_n 3, 1) := by decide +kernel
theorem dX1_guessedRight_21 : decode cX1_guessedRight 21 = .ok (.invokevirtual 41, 3) := by decide +kernel
theorem dX1_guessedRight_24 : decode cX1_guessedRight 24 = .ok (.if_icmp .ne 6, 3) := by decide +kernel
theorem dX1_guessedRight_27 : decode cX1_guessedRight 27 = .ok (.iinc 2 1, 3) := by decide +kernel
theorem dX1_guessedRight_30 : decode cX1_guessedRight 30 = .ok (.iinc 3 1, 3) := by decide +kernel
theorem dX1_guessedRight_33 : decode cX1_guessedRight 33 = .ok (.goto (-24), 3) := by decide +kernel
theorem dX1_guessedRight_36 : decode cX1_guessedRight 36 = .ok (.iload_n 2, 1) := by decide +kernel
theorem dX1_guessedRight_37 : decode cX1_guessedRight 37 = .ok (.ireturn, 1) := by decide +kernel
theorem dX1_sumOfChances_0 : decode cX1_sumOfChances 0 = .ok (.aload_n 0, 1) := by decide +kernel
theorem dX1_sumOfChances_1 : decode cX1_sumOfChances 1 = .ok (.invokevirtual 33, 3) := by decide +kernel
theorem dX1_sumOfChances_4 : decode cX1_sumOfChances 4 = .ok (.istore_n 1, 1) := by decide +kernel
theorem dX1_sumOfChances_5 : decode cX1_sumOfChances 5 = .ok (.fconst 0, 1) := by decide +kernel
theorem dX1_sumOfChances_6 : decode cX1_sumOfChances 6 = .ok (.fstore_n 2, 1) := by decide +kernel
theorem dX1_sumOfChances_7 : decode cX1_sumOfChances 7 = .ok (.iconst 0, 1) := by decide +kernel
theorem dX1_sumOfChances_8 : decode cX1_sumOfChances 8 = .ok (.istore_n 3, 1) := by decide +kernel
theorem dX1_sumOfChances_9 : decode cX1_sumOfChances 9 = .ok (.iload_n 3, 1) := by decide +kernel
theorem dX1_sumOfChances_10 : decode cX1_sumOfChances 10 = .ok (.iload_n 1, 1) := by decide +kernel
theorem dX1_sumOfChances_11 : decode cX1_sumOfChances 11 = .ok (.if_icmp .ge 29, 3) := by decide +kernel
theorem dX1_sumOfChances_14 : decode cX1_sumOfChances 14 = .ok (.aload_n 0, 1) := by decide +kernel
theorem dX1_sumOfChances_15 : decode cX1_sumOfChances 15 = .ok (.iload_n 3, 1) := by decide +kernel
theorem dX1_sumOfChances_16 : decode cX1_sumOfChances 16 = .ok (.invokevirtual 67, 3) := by decide +kernel
theorem dX1_sumOfChances_19 : decode cX1_sumOfChances 19 = .ok (.istore 4, 2) := by decide +kernel
theorem dX1_sumOfChances_21 : decode cX1_sumOfChances 21 = .ok (.iload 4, 2) := by decide +kernel
theorem dX1_sumOfChances_23 : decode cX1_sumOfChances 23 = .ok (.ifCond .le 11, 3) := by decide +kernel
theorem dX1_sumOfChances_26 : decode cX1_sumOfChances 26 = .ok (.fload_n 2, 1) := by decide +kernel
theorem dX1_sumOfChances_27 : decode cX1_sumOfChances 27 = .ok (.fconst 1, 1) := by decide +kernel
theorem dX1_sumOfChances_28 : decode cX1_sumOfChances 28 = .ok (.iload 4, 2) := by decide +kernel
theorem dX1_sumOfChances_30 : decode cX1_sumOfChances 30 = .ok (.i2f, 1) := by decide +kernel
theorem dX1_sumOfChances_31 : decode cX1_sumOfChances 31 = .ok (.fdiv, 1) := by decide +kernel
theorem dX1_sumOfChances_32 : decode cX1_sumOfChances 32 = .ok (.fadd, 1) := by decide +kernel
theorem dX1_sumOfChances_33 : decode cX1_sumOfChances 33 = .ok (.fstore_n 2, 1) := by decide +kernel
theorem dX1_sumOfChances_34 : decode cX1_sumOfChances 34 = .ok (.iinc 3 1, 3) := by decide +kernel
theorem dX1_sumOfChances_37 : decode cX1_sumOfChances 37 = .ok (.goto (-28), 3) := by decide +kernel
theorem dX1_sumOfChances_40 : decode cX1_sumOfChances 40 = .ok (.fload_n 2, 1) := by decide +kernel
theorem dX1_sumOfChances_41 : decode cX1_sumOfChances 41 = .ok (.freturn, 1) := by decide +kernel
theorem dX2_init_0 : decode cX2_init 0 = .ok (.aload_n 0, 1) := by decide +kernel
theorem dX2_init_1 : decode cX2_init 1 = .ok (.invokespecial 3, 3) := by decide +kernel
theorem dX2_init_4 : decode cX2_init 4 = .ok (.aload_n 0, 1) := by decide +kernel
theorem dX2_init_5 : decode cX2_init 5 = .ok (.bipush 24, 2) := by decide +kernel
theorem dX2_init_7 : decode cX2_init 7 = .ok (.newarray .int, 2) := by decide +kernel
theorem dX2_init_9 : decode cX2_init 9 = .ok (.putfield 9, 3) := by decide +kernel
theorem dX2_init_12 : decode cX2_init 12 = .ok (.aload_n 0, 1) := by decide +kernel
theorem dX2_init_13 : decode cX2_init 13 = .ok (.bipush 24, 2) := by decide +kernel
theorem dX2_init_15 : decode cX2_init 15 = .ok (.newarray .int, 2) := by decide +kernel
theorem dX2_init_17 : decode cX2_init 17 = .ok (.putfield 15, 3) := by decide +kernel
theorem dX2_init_20 : decode cX2_init 20 = .ok (.aload_n 0, 1) := by decide +kernel
theorem dX2_init_21 : decode cX2_init 21 = .ok (.bipush 24, 2) := by decide +kernel
theorem dX2_init_23 : decode cX2_init 23 = .ok (.newarray .int, 2) := by decide +kernel
theorem dX2_init_25 : decode cX2_init 25 = .ok (.putfield 18, 3) := by decide +kernel
theorem dX2_init_28 : decode cX2_init 28 = .ok (.iconst 0, 1) := by decide +kernel
theorem dX2_init_29 : decode cX2_init 29 = .ok (.istore 5, 2) := by decide +kernel
theorem dX2_init_31 : decode cX2_init 31 = .ok (.iload 5, 2) := by decide +kernel
theorem dX2_init_33 : decode cX2_init 33 = .ok (.bipush 24, 2) := by decide +kernel
theorem dX2_init_35 : decode cX2_init 35 = .ok (.if_icmp .ge 73, 3) := by decide +kernel
theorem dX2_init_38 : decode cX2_init 38 = .ok (.aload_n 1, 1) := by decide +kernel
theorem dX2_init_39 : decode cX2_init 39 = .ok (.iload 5, 2) := by decide +kernel
theorem dX2_init_41 : decode cX2_init 41 = .ok (.invokestatic 21, 3) := by decide +kernel
theorem dX2_init_44 : decode cX2_init 44 = .ok (.istore 6, 2) := by decide +kernel
theorem dX2_init_46 : decode cX2_init 46 = .ok (.aload_n 0, 1) := by decide +kernel
theorem dX2_init_47 : decode cX2_init 47 = .ok (.getfield 9, 3) := by decide +kernel
theorem dX2_init_50 : decode cX2_init 50 = .ok (.iload 5, 2) := by decide +kernel
theorem dX2_init_52 : decode cX2_init 52 = .ok (.iload 6, 2) := by decide +kernel
theorem dX2_init_54 : decode cX2_init 54 = .ok (.iastore, 1) := by decide +kernel
theorem dX2_init_55 : decode cX2_init 55 = .ok (.iload 6, 2) := by decide +kernel
theorem dX2_init_57 : decode cX2_init 57 = .ok (.invokestatic 25, 3) := by decide +kernel
theorem dX2_init_60 : decode cX2_init 60 = .ok (.ifCond .eq 42, 3) := by decide +kernel
theorem dX2_init_63 : decode cX2_init 63 = .ok (.aload_n 0, 1) := by decide +kernel
theorem dX2_init_64 : decode cX2_init 64 = .ok (.getfield 18, 3) := by decide +kernel
theorem dX2_init_67 : decode cX2_init 67 = .ok (.iload 6, 2) := by decide +kernel
theorem dX2_init_69 : decode cX2_init 69 = .ok (.aload_n 2, 1) := by decide +kernel
theorem dX2_init_70 : decode cX2_init 70 = .ok (.iload 6, 2) := by decide +kernel
theorem dX2_init_72 : decode cX2_init 72 = .ok (.invokestatic 21, 3) := by decide +kernel
theorem dX2_init_75 : decode cX2_init 75 = .ok (.iastore, 1) := by decide +kernel
theorem dX2_init_76 : decode cX2_init 76 = .ok (.aload_n 0, 1) := by decide +kernel
theorem dX2_init_77 : decode cX2_init 77 = .ok (.getfield 15, 3) := by decide +kernel
theorem dX2_init_80 : decode cX2_init 80 = .ok (.iload 6, 2) := by decide +kernel
theorem dX2_init_82 : decode cX2_init 82 = .ok (.aload_n 3, 1) := by decide +kernel
theorem dX2_init_83 : decode cX2_init 83 = .ok (.iload 4, 2) := by decide +kernel
theorem dX2_init_85 : decode cX2_init 85 = .ok (.ifCond .eq 11, 3) := by decide +kernel
theorem dX2_init_88 : decode cX2_init 88 = .ok (.bipush 23, 2) := by decide +kernel
theorem dX2_init_90 : decode cX2_init 90 = .ok (.iload 5, 2) := by decide +kernel
theorem dX2_init_92 : decode cX2_init 92 = .ok (.isub, 1) := by decide +kernel
theorem dX2_init_93 : decode cX2_init 93 = .ok (.goto 5, 3) := by decide +kernel
theorem dX2_init_96 : decode cX2_init 96 = .ok (.iload 5, 2) := by decide +kernel
theorem dX2_init_98 : decode cX2_init 98 = .ok (.invokestatic 21, 3) := by decide +kernel
theorem dX2_init_101 : decode cX2_init 101 = .ok (.iastore, 1) := by decide +kernel
theorem dX2_init_102 : decode cX2_init 102 = .ok (.iinc 5 1, 3) := by decide +kernel
theorem dX2_init_105 : decode cX2_init 105 = .ok (.goto (-74), 3) := by decide +kernel
theorem dX2_init_108 : decode cX2_init 108 = .ok (.return_, 1) := by decide +kernel
theorem dX2_cardCutTo_0 : decode cX2_cardCutTo 0 = .ok (.aload_n 0, 1) := by decide +kernel
theorem dX2_cardCutTo_1 : decode cX2_cardCutTo 1 = .ok (.getfield 9, 3) := by decide +kernel
theorem dX2_cardCutTo_4 : decode cX2_cardCutTo 4 = .ok (.iload_n 1, 1) := by decide +kernel
theorem dX2_cardCutTo_5 : decode cX2_cardCutTo 5 = .ok (.iload_n 2, 1) := by decide +kernel
theorem dX2_cardCutTo_6 : decode cX2_cardCutTo 6 = .ok (.invokestatic 29, 3) := by decide +kernel
theorem dX2_cardCutTo_9 : decode cX2_cardCutTo 9 = .ok (.invokestatic 21, 3) := by decide +kernel
theorem dX2_cardCutTo_12 : decode cX2_cardCutTo 12 = .ok (.ireturn, 1) := by decide +kernel
theorem dX2_cardsAtHome_0 : decode cX2_cardsAtHome 0 = .ok (.iconst 0, 1) := by decide +kernel
theorem dX2_cardsAtHome_1 : decode cX2_cardsAtHome 1 = .ok (.istore_n 2, 1) := by decide +kernel
theorem dX2_cardsAtHome_2 : decode cX2_cardsAtHome 2 = .ok (.iconst 0, 1) := by decide +kernel
theorem dX2_cardsAtHome_3 : decode cX2_cardsAtHome 3 = .ok (.istore_n 3, 1) := by decide +kernel
theorem dX2_cardsAtHome_4 : decode cX2_cardsAtHome 4 = .ok (.iload_n 3, 1) := by decide +kernel
theorem dX2_cardsAtHome_5 : decode cX2_cardsAtHome 5 = .ok (.bipush 24, 2) := by decide +kernel
theorem dX2_cardsAtHome_7 : decode cX2_cardsAtHome 7 = .ok (.if_icmp .ge 22, 3) := by decide +kernel
theorem dX2_cardsAtHome_10 : decode cX2_cardsAtHome 10 = .ok (.aload_n 0, 1) := by decide +kernel
theorem dX2_cardsAtHome_11 : decode cX2_cardsAtHome 11 = .ok (.iload_n 1, 1) := by decide +kernel
theorem dX2_cardsAtHome_12 : decode cX2_cardsAtHome 12 = .ok (.iload_n 3, 1) := by decide +kernel
theorem dX2_cardsAtHome_13 : decode cX2_cardsAtHome 13 = .ok (.invokevirtual 33, 3) := by decide +kernel
theorem dX2_cardsAtHome_16 : decode cX2_cardsAtHome 16 = .ok (.iload_n 3, 1) := by decide +kernel
theorem dX2_cardsAtHome_17 : decode cX2_cardsAtHome 17 = .ok (.if_icmp .ne 6, 3) := by decide +kernel
theorem dX2_cardsAtHome_20 : decode cX2_cardsAtHome 20 = .ok (.iinc 2 1, 3) := by decide +kernel
theorem dX2_cardsAtHome_23 : decode cX2_cardsAtHome 23 = .ok (.iinc 3 1, 3) := by decide +kernel
theorem dX2_cardsAtHome_26 : decode cX2_cardsAtHome 26 = .ok (.goto (-22), 3) := by decide +kernel
theorem dX2_cardsAtHome_29 : decode cX2_cardsAtHome 29 = .ok (.iload_n 2, 1) := by decide +kernel
theorem dX2_cardsAtHome_30 : decode cX2_cardsAtHome 30 = .ok (.ireturn, 1) := by decide +kernel
theorem dX3_init_0 : decode cX3_init 0 = .ok (.aload_n 0, 1) := by decide +kernel
theorem dX3_init_1 : decode cX3_init 1 = .ok (.invokespecial 3, 3) := by decide +kernel
theorem dX3_init_4 : decode cX3_init 4 = .ok (.aload_n 0, 1) := by decide +kernel
theorem dX3_init_5 : decode cX3_init 5 = .ok (.bipush 24, 2) := by decide +kernel
theorem dX3_init_7 : decode cX3_init 7 = .ok (.newarray .int, 2) := by decide +kernel
theorem dX3_init_9 : decode cX3_init 9 = .ok (.putfield 9, 3) := by decide +kernel
theorem dX3_init_12 : decode cX3_init 12 = .ok (.aload_n 0, 1) := by decide +kernel
theorem dX3_init_13 : decode cX3_init 13 = .ok (.bipush 24, 2) := by decide +kernel
theorem dX3_init_15 : decode cX3_init 15 = .ok (.newarray .int, 2) := by decide +kernel
theorem dX3_init_17 : decode cX3_init 17 = .ok (.putfield 15, 3) := by decide +kernel
theorem dX3_init_20 : decode cX3_init 20 = .ok (.aload_n 0, 1) := by decide +kernel
theorem dX3_init_21 : decode cX3_init 21 = .ok (.bipush 24, 2) := by decide +kernel
theorem dX3_init_23 : decode cX3_init 23 = .ok (.newarray .int, 2) := by decide +kernel
theorem dX3_init_25 : decode cX3_init 25 = .ok (.putfield 18, 3) := by decide +kernel
theorem dX3_init_28 : decode cX3_init 28 = .ok (.aload_n 0, 1) := by decide +kernel
theorem dX3_init_29 : decode cX3_init 29 = .ok (.iconst 4, 1) := by decide +kernel
theorem dX3_init_30 : decode cX3_init 30 = .ok (.newarray .int, 2) := by decide +kernel
theorem dX3_init_32 : decode cX3_init 32 = .ok (.putfield 21, 3) := by decide +kernel
theorem dX3_init_35 : decode cX3_init 35 = .ok (.aload_n 0, 1) := by decide +kernel
theorem dX3_init_36 : decode cX3_init 36 = .ok (.bipush 6, 2) := by decide +kernel
theorem dX3_init_38 : decode cX3_init 38 = .ok (.anewarray 24, 3) := by decide +kernel
theorem dX3_init_41 : decode cX3_init 41 = .ok (.putfield 26, 3) := by decide +kernel
theorem dX3_init_44 : decode cX3_init 44 = .ok (.aload_n 0, 1) := by decide +kernel
theorem dX3_init_45 : decode cX3_init 45 = .ok (.new 30, 3) := by decide +kernel
theorem dX3_init_48 : decode cX3_init 48 = .ok (.dup, 1) := by decide +kernel
theorem dX3_init_49 : decode cX3_init 49 = .ok (.invokespecial 32, 3) := by decide +kernel
theorem dX3_init_52 : decode cX3_init 52 = .ok (.putfield 33, 3) := by decide +kernel
theorem dX3_init_55 : decode cX3_init 55 = .ok (.aload_n 0, 1) := by decide +kernel
theorem dX3_init_56 : decode cX3_init 56 = .ok (.iconst 0, 1) := by decide +kernel
theorem dX3_init_57 : decode cX3_init 57 = .ok (.putfield 37, 3) := by decide +kernel
theorem dX3_init_60 : decode cX3_init 60 = .ok (.aload_n 0, 1) := by decide +kernel
theorem dX3_init_61 : decode cX3_init 61 = .ok (.iconst 0, 1) := by decide +kernel
theorem dX3_init_62 : decode cX3_init 62 = .ok (.putfield 41, 3) := by decide +kernel
theorem dX3_init_65 : decode cX3_init 65 = .ok (.aload_n 0, 1) := by decide +kernel
theorem dX3_init_66 : decode cX3_init 66 = .ok (.iconst 0, 1) := by decide +kernel
theorem dX3_init_67 : decode cX3_init 67 = .ok (.putfield 44, 3) := by decide +kernel
theorem dX3_init_70 : decode cX3_init 70 = .ok (.aload_n 0, 1) := by decide +kernel
theorem dX3_init_71 : decode cX3_init 71 = .ok (.iconst 0, 1) := by decide +kernel
theorem dX3_init_72 : decode cX3_init 72 = .ok (.putfield 47, 3) := by decide +kernel
theorem dX3_init_75 : decode cX3_init 75 = .ok (.aload_n 0, 1) := by decide +kernel
theorem dX3_init_76 : decode cX3_init 76 = .ok (.iconst 0, 1) := by decide +kernel
theorem dX3_init_77 : decode cX3_init 77 = .ok (.putfield 50, 3) := by decide +kernel
theorem dX3_init_80 : decode cX3_init 80 = .ok (.iconst 0, 1) := by decide +kernel
theorem dX3_init_81 : decode cX3_init 81 = .ok (.istore_n 1, 1) := by decide +kernel
theorem dX3_init_82 : decode cX3_init 82 = .ok (.iload_n 1, 1) := by decide +kernel
theorem dX3_init_83 : decode cX3_init 83 = .ok (.bipush 24, 2) := by decide +kernel
theorem dX3_init_85 : decode cX3_init 85 = .ok (.if_icmp .ge 16, 3) := by decide +kernel
theorem dX3_init_88 : decode cX3_init 88 = .ok (.aload_n 0, 1) := by decide +kernel
theorem dX3_init_89 : decode cX3_init 89 = .ok (.getfield 9, 3) := by decide +kernel
theorem dX3_init_92 : decode cX3_init 92 = .ok (.iload_n 1, 1) := by decide +kernel
theorem dX3_init_93 : decode cX3_init 93 = .ok (.iload_n 1, 1) := by decide +kernel
theorem dX3_init_94 : decode cX3_init 94 = .ok (.iastore, 1) := by decide +kernel
theorem dX3_init_95 : decode cX3_init 95 = .ok (.iinc 1 1, 3) := by decide +kernel
theorem dX3_init_98 : decode cX3_init 98 = .ok (.goto (-16), 3) := by decide +kernel
theorem dX3_init_101 : decode cX3_init 101 = .ok (.iconst 0, 1) := by decide +kernel
theorem dX3_init_102 : decode cX3_init 102 = .ok (.istore_n 1, 1) := by decide +kernel
theorem dX3_init_103 : decode cX3_init 103 = .ok (.iload_n 1, 1) := by decide +kernel
theorem dX3_init_104 : decode cX3_init 104 = .ok (.iconst 4, 1) := by decide +kernel
theorem dX3_init_105 : decode cX3_init 105 = .ok (.if_icmp .ge 22, 3) := by decide +kernel
theorem dX3_init_108 : decode cX3_init 108 = .ok (.aload_n 0, 1) := by decide +kernel
theorem dX3_init_109 : decode cX3_init 109 = .ok (.getfield 21, 3) := by decide +kernel
theorem dX3_init_112 : decode cX3_init 112 = .ok (.iload_n 1, 1) := by decide +kernel
theorem dX3_init_113 : decode cX3_init 113 = .ok (.getstatic 53, 3) := by decide +kernel
theorem dX3_init_116 : decode cX3_init 116 = .ok (.iload_n 1, 1) := by decide +kernel
theorem dX3_init_117 : decode cX3_init 117 = .ok (.invokestatic 56, 3) := by decide +kernel
theorem dX3_init_120 : decode cX3_init 120 = .ok (.iastore, 1) := by decide +kernel
theorem dX3_init_121 : decode cX3_init 121 = .ok (.iinc 1 1, 3) := by decide +kernel
theorem dX3_init_124 : decode cX3_init 124 = .ok (.goto (-21), 3) := by decide +kernel
theorem dX3_init_127 : decode cX3_init 127 = .ok (.return_, 1) := by decide +kernel
theorem dX3_copyFrom_0 : decode cX3_copyFrom 0 = .ok (.aload_n 1, 1) := by decide +kernel
theorem dX3_copyFrom_1 : decode cX3_copyFrom 1 = .ok (.ifnonnull 4, 3) := by decide +kernel
theorem dX3_copyFrom_4 : decode cX3_copyFrom 4 = .ok (.return_, 1) := by decide +kernel
theorem dX3_copyFrom_5 : decode cX3_copyFrom 5 = .ok (.aload_n 1, 1) := by decide +kernel
theorem dX3_copyFrom_6 : decode cX3_copyFrom 6 = .ok (.getfield 9, 3) := by decide +kernel
theorem dX3_copyFrom_9 : decode cX3_copyFrom 9 = .ok (.aload_n 0, 1) := by decide +kernel
theorem dX3_copyFrom_10 : decode cX3_copyFrom 10 = .ok (.getfield 9, 3) := by decide +kernel
theorem dX3_copyFrom_13 : decode cX3_copyFrom 13 = .ok (.invokestatic 60, 3) := by decide +kernel
theorem dX3_copyFrom_16 : decode cX3_copyFrom 16 = .ok (.aload_n 1, 1) := by decide +kernel
theorem dX3_copyFrom_17 : decode cX3_copyFrom 17 = .ok (.getfield 15, 3) := by decide +kernel
theorem dX3_copyFrom_20 : decode cX3_copyFrom 20 = .ok (.aload_n 0, 1) := by decide +kernel
theorem dX3_copyFrom_21 : decode cX3_copyFrom 21 = .ok (.getfield 15, 3) := by decide +kernel
theorem dX3_copyFrom_24 : decode cX3_copyFrom 24 = .ok (.invokestatic 60, 3) := by decide +kernel
theorem dX3_copyFrom_27 : decode cX3_copyFrom 27 = .ok (.aload_n 1, 1) := by decide +kernel
theorem dX3_copyFrom_28 : decode cX3_copyFrom 28 = .ok (.getfield 18, 3) := by decide +kernel
theorem dX3_copyFrom_31 : decode cX3_copyFrom 31 = .ok (.aload_n 0, 1) := by decide +kernel
theorem dX3_copyFrom_32 : decode cX3_copyFrom 32 = .ok (.getfield 18, 3) := by decide +kernel
theorem dX3_copyFrom_35 : decode cX3_copyFrom 35 = .ok (.invokestatic 60, 3) := by decide +kernel
theorem dX3_copyFrom_38 : decode cX3_copyFrom 38 = .ok (.aload_n 1, 1) := by decide +kernel
theorem dX3_copyFrom_39 : decode cX3_copyFrom 39 = .ok (.getfield 21, 3) := by decide +kernel
theorem dX3_copyFrom_42 : decode cX3_copyFrom 42 = .ok (.aload_n 0, 1) := by decide +kernel
theorem dX3_copyFrom_43 : decode cX3_copyFrom 43 = .ok (.getfield 21, 3) := by decide +kernel
theorem dX3_copyFrom_46 : decode cX3_copyFrom 46 = .ok (.invokestatic 60, 3) := by decide +kernel
theorem dX3_copyFrom_49 : decode cX3_copyFrom 49 = .ok (.iconst 0, 1) := by decide +kernel
theorem dX3_copyFrom_50 : decode cX3_copyFrom 50 = .ok (.istore_n 2, 1) := by decide +kernel
theorem dX3_copyFrom_51 : decode cX3_copyFrom 51 = .ok (.iload_n 2, 1) := by decide +kernel
theorem dX3_copyFrom_52 : decode cX3_copyFrom 52 = .ok (.bipush 6, 2) := by decide +kernel
theorem dX3_copyFrom_54 : decode cX3_copyFrom 54 = .ok (.if_icmp .ge 21, 3) := by decide +kernel
theorem dX3_copyFrom_57 : decode cX3_copyFrom 57 = .ok (.aload_n 0, 1) := by decide +kernel
theorem dX3_copyFrom_58 : decode cX3_copyFrom 58 = .ok (.getfield 26, 3) := by decide +kernel
theorem dX3_copyFrom_61 : decode cX3_copyFrom 61 = .ok (.iload_n 2, 1) := by decide +kernel
theorem dX3_copyFrom_62 : decode cX3_copyFrom 62 = .ok (.aload_n 1, 1) := by decide +kernel
theorem dX3_copyFrom_63 : decode cX3_copyFrom 63 = .ok (.getfield 26, 3) := by decide +kernel
theorem dX3_copyFrom_66 : decode cX3_copyFrom 66 = .ok (.iload_n 2, 1) := by decide +kernel
theorem dX3_copyFrom_67 : decode cX3_copyFrom 67 = .ok (.aaload, 1) := by decide +kernel
theorem dX3_copyFrom_68 : decode cX3_copyFrom 68 = .ok (.aastore, 1) := by decide +kernel
theorem dX3_copyFrom_69 : decode cX3_copyFrom 69 = .ok (.iinc 2 1, 3) := by decide +kernel
theorem dX3_copyFrom_72 : decode cX3_copyFrom 72 = .ok (.goto (-21), 3) := by decide +kernel
theorem dX3_copyFrom_75 : decode cX3_copyFrom 75 = .ok (.aload_n 0, 1) := by decide +kernel
theorem dX3_copyFrom_76 : decode cX3_copyFrom 76 = .ok (.getfield 33, 3) := by decide +kernel
theorem dX3_copyFrom_79 : decode cX3_copyFrom 79 = .ok (.aload_n 1, 1) := by decide +kernel
theorem dX3_copyFrom_80 : decode cX3_copyFrom 80 = .ok (.getfield 33, 3) := by decide +kernel
theorem dX3_copyFrom_83 : decode cX3_copyFrom 83 = .ok (.invokevirtual 64, 3) := by decide +kernel
theorem dX3_copyFrom_86 : decode cX3_copyFrom 86 = .ok (.aload_n 0, 1) := by decide +kernel
theorem dX3_copyFrom_87 : decode cX3_copyFrom 87 = .ok (.aload_n 1, 1) := by decide +kernel
theorem dX3_copyFrom_88 : decode cX3_copyFrom 88 = .ok (.getfield 37, 3) := by decide +kernel
theorem dX3_copyFrom_91 : decode cX3_copyFrom 91 = .ok (.putfield 37, 3) := by decide +kernel
theorem dX3_copyFrom_94 : decode cX3_copyFrom 94 = .ok (.aload_n 0, 1) := by decide +kernel
theorem dX3_copyFrom_95 : decode cX3_copyFrom 95 = .ok (.aload_n 1, 1) := by decide +kernel
theorem dX3_copyFrom_96 : decode cX3_copyFrom 96 = .ok (.getfield 41, 3) := by decide +kernel
theorem dX3_copyFrom_99 : decode cX3_copyFrom 99 = .ok (.putfield 41, 3) := by decide +kernel
theorem dX3_copyFrom_102 : decode cX3_copyFrom 102 = .ok (.aload_n 0, 1) := by decide +kernel
theorem dX3_copyFrom_103 : decode cX3_copyFrom 103 = .ok (.aload_n 1, 1) := by decide +kernel
theorem dX3_copyFrom_104 : decode cX3_copyFrom 104 = .ok (.getfield 44, 3) := by decide +kernel
theorem dX3_copyFrom_107 : decode cX3_copyFrom 107 = .ok (.putfield 44, 3) := by decide +kernel
theorem dX3_copyFrom_110 : decode cX3_copyFrom 110 = .ok (.aload_n 0, 1) := by decide +kernel
theorem dX3_copyFrom_111 : decode cX3_copyFrom 111 = .ok (.aload_n 1, 1) := by decide +kernel
theorem dX3_copyFrom_112 : decode cX3_copyFrom 112 = .ok (.getfield 47, 3) := by decide +kernel
theorem dX3_copyFrom_115 : decode cX3_copyFrom 115 = .ok (.putfield 47, 3) := by decide +kernel
theorem dX3_copyFrom_118 : decode cX3_copyFrom 118 = .ok (.aload_n 0, 1) := by decide +kernel
theorem dX3_copyFrom_119 : decode cX3_copyFrom 119 = .ok (.aload_n 1, 1) := by decide +kernel
theorem dX3_copyFrom_120 : decode cX3_copyFrom 120 = .ok (.getfield 50, 3) := by decide +kernel
theorem dX3_copyFrom_123 : decode cX3_copyFrom 123 = .ok (.putfield 50, 3) := by decide +kernel
theorem dX3_copyFrom_126 : decode cX3_copyFrom 126 = .ok (.return_, 1) := by decide +kernel
theorem dX3_exchange_0 : decode cX3_exchange 0 = .ok (.aload_n 0, 1) := by decide +kernel
theorem dX3_exchange_1 : decode cX3_exchange 1 = .ok (.getfield 9, 3) := by decide +kernel
theorem dX3_exchange_4 : decode cX3_exchange 4 = .ok (.iload_n 1, 1) := by decide +kernel
theorem dX3_exchange_5 : decode cX3_exchange 5 = .ok (.invokestatic 56, 3) := by decide +kernel
theorem dX3_exchange_8 : decode cX3_exchange 8 = .ok (.istore_n 3, 1) := by decide +kernel
theorem dX3_exchange_9 : decode cX3_exchange 9 = .ok (.aload_n 0, 1) := by decide +kernel
theorem dX3_exchange_10 : decode cX3_exchange 10 = .ok (.getfield 9, 3) := by decide +kernel
theorem dX3_exchange_13 : decode cX3_exchange 13 = .ok (.iload_n 1, 1) := by decide +kernel
theorem dX3_exchange_14 : decode cX3_exchange 14 = .ok (.aload_n 0, 1) := by decide +kernel
theorem dX3_exchange_15 : decode cX3_exchange 15 = .ok (.getfield 9, 3) := by decide +kernel
theorem dX3_exchange_18 : decode cX3_exchange 18 = .ok (.iload_n 2, 1) := by decide +kernel
theorem dX3_exchange_19 : decode cX3_exchange 19 = .ok (.invokestatic 56, 3) := by decide +kernel
theorem dX3_exchange_22 : decode cX3_exchange 22 = .ok (.invokestatic 68, 3) := by decide +kernel
theorem dX3_exchange_25 : decode cX3_exchange 25 = .ok (.aload_n 0, 1) := by decide +kernel
theorem dX3_exchange_26 : decode cX3_exchange 26 = .ok (.getfield 9, 3) := by decide +kernel
theorem dX3_exchange_29 : decode cX3_exchange 29 = .ok (.iload_n 2, 1) := by decide +kernel
theorem dX3_exchange_30 : decode cX3_exchange 30 = .ok (.iload_n 3, 1) := by decide +kernel
theorem dX3_exchange_31 : decode cX3_exchange 31 = .ok (.invokestatic 68, 3) := by decide +kernel
theorem dX3_exchange_34 : decode cX3_exchange 34 = .ok (.return_, 1) := by decide +kernel
theorem dX3_cellOf_0 : decode cX3_cellOf 0 = .ok (.iconst 0, 1) := by decide +kernel
theorem dX3_cellOf_1 : decode cX3_cellOf 1 = .ok (.istore_n 2, 1) := by decide +kernel
theorem dX3_cellOf_2 : decode cX3_cellOf 2 = .ok (.iload_n 2, 1) := by decide +kernel
theorem dX3_cellOf_3 : decode cX3_cellOf 3 = .ok (.bipush 24, 2) := by decide +kernel
theorem dX3_cellOf_5 : decode cX3_cellOf 5 = .ok (.if_icmp .ge 21, 3) := by decide +kernel
theorem dX3_cellOf_8 : decode cX3_cellOf 8 = .ok (.aload_n 0, 1) := by decide +kernel
theorem dX3_cellOf_9 : decode cX3_cellOf 9 = .ok (.getfield 9, 3) := by decide +kernel
theorem dX3_cellOf_12 : decode cX3_cellOf 12 = .ok (.iload_n 2, 1) := by decide +kernel
theorem dX3_cellOf_13 : decode cX3_cellOf 13 = .ok (.iaload, 1) := by decide +kernel
theorem dX3_cellOf_14 : decode cX3_cellOf 14 = .ok (.iload_n 1, 1) := by decide +kernel
theorem dX3_cellOf_15 : decode cX3_cellOf 15 = .ok (.if_icmp .ne 5, 3) := by decide +kernel
theorem dX3_cellOf_18 : decode cX3_cellOf 18 = .ok (.iload_n 2, 1) := by decide +kernel
theorem dX3_cellOf_19 : decode cX3_cellOf 19 = .ok (.ireturn, 1) := by decide +kernel
theorem dX3_cellOf_20 : decode cX3_cellOf 20 = .ok (.iinc 2 1, 3) := by decide +kernel
theorem dX3_cellOf_23 : decode cX3_cellOf 23 = .ok (.goto (-21), 3) := by decide +kernel
theorem dX3_cellOf_26 : decode cX3_cellOf 26 = .ok (.bipush (-5), 2) := by decide +kernel
theorem dX3_cellOf_28 : decode cX3_cellOf 28 = .ok (.ireturn, 1) := by decide +kernel
theorem dX3_hasMark_0 : decode cX3_hasMark 0 = .ok (.aload_n 0, 1) := by decide +kernel
theorem dX3_hasMark_1 : decode cX3_hasMark 1 = .ok (.getfield 18, 3) := by decide +kernel
theorem dX3_hasMark_4 : decode cX3_hasMark 4 = .ok (.iload_n 1, 1) := by decide +kernel
theorem dX3_hasMark_5 : decode cX3_hasMark 5 = .ok (.invokestatic 56, 3) := by decide +kernel
theorem dX3_hasMark_8 : decode cX3_hasMark 8 = .ok (.iload_n 2, 1) := by decide +kernel
theorem dX3_hasMark_9 : decode cX3_hasMark 9 = .ok (.ishr, 1) := by decide +kernel
theorem dX3_hasMark_10 : decode cX3_hasMark 10 = .ok (.iconst 1, 1) := by decide +kernel
theorem dX3_hasMark_11 : decode cX3_hasMark 11 = .ok (.iand, 1) := by decide +kernel
theorem dX3_hasMark_12 : decode cX3_hasMark 12 = .ok (.iconst 1, 1) := by decide +kernel
theorem dX3_hasMark_13 : decode cX3_hasMark 13 = .ok (.if_icmp .ne 7, 3) := by decide +kernel
theorem dX3_hasMark_16 : decode cX3_hasMark 16 = .ok (.iconst 1, 1) := by decide +kernel
theorem dX3_hasMark_17 : decode cX3_hasMark 17 = .ok (.goto 4, 3) := by decide +kernel
theorem dX3_hasMark_20 : decode cX3_hasMark 20 = .ok (.iconst 0, 1) := by decide +kernel
theorem dX3_hasMark_21 : decode cX3_hasMark 21 = .ok (.ireturn, 1) := by decide +kernel
theorem dX3_setMark_0 : decode cX3_setMark 0 = .ok (.aload_n 0, 1) := by decide +kernel
theorem dX3_setMark_1 : decode cX3_setMark 1 = .ok (.getfield 18, 3) := by decide +kernel
theorem dX3_setMark_4 : decode cX3_setMark 4 = .ok (.iload_n 1, 1) := by decide +kernel
theorem dX3_setMark_5 : decode cX3_setMark 5 = .ok (.invokestatic 56, 3) := by decide +kernel
theorem dX3_setMark_8 : decode cX3_setMark 8 = .ok (.iconst 1, 1) := by decide +kernel
theorem dX3_setMark_9 : decode cX3_setMark 9 = .ok (.iload_n 2, 1) := by decide +kernel
theorem dX3_setMark_10 : decode cX3_setMark 10 = .ok (.ishl, 1) := by decide +kernel
theorem dX3_setMark_11 : decode cX3_setMark 11 = .ok (.iconst (-1), 1) := by decide +kernel
theorem dX3_setMark_12 : decode cX3_setMark 12 = .ok (.ixor, 1) := by decide +kernel
theorem dX3_setMark_13 : decode cX3_setMark 13 = .ok (.iand, 1) := by decide +kernel
theorem dX3_setMark_14 : decode cX3_setMark 14 = .ok (.istore 4, 2) := by decide +kernel
theorem dX3_setMark_16 : decode cX3_setMark 16 = .ok (.aload_n 0, 1) := by decide +kernel
theorem dX3_setMark_17 : decode cX3_setMark 17 = .ok (.getfield 18, 3) := by decide +kernel
theorem dX3_setMark_20 : decode cX3_setMark 20 = .ok (.iload_n 1, 1) := by decide +kernel
theorem dX3_setMark_21 : decode cX3_setMark 21 = .ok (.iload_n 3, 1) := by decide +kernel
theorem dX3_setMark_22 : decode cX3_setMark 22 = .ok (.ifCond .eq 12, 3) := by decide +kernel
theorem dX3_setMark_25 : decode cX3_setMark 25 = .ok (.iload 4, 2) := by decide +kernel
theorem dX3_setMark_27 : decode cX3_setMark 27 = .ok (.iconst 1, 1) := by decide +kernel
theorem dX3_setMark_28 : decode cX3_setMark 28 = .ok (.iload_n 2, 1) := by decide +kernel
theorem dX3_setMark_29 : decode cX3_setMark 29 = .ok (.ishl, 1) := by decide +kernel
theorem dX3_setMark_30 : decode cX3_setMark 30 = .ok (.ior, 1) := by decide +kernel
theorem dX3_setMark_31 : decode cX3_setMark 31 = .ok (.goto 5, 3) := by decide +kernel
theorem dX3_setMark_34 : decode cX3_setMark 34 = .ok (.iload 4, 2) := by decide +kernel
theorem dX3_setMark_36 : decode cX3_setMark 36 = .ok (.invokestatic 68, 3) := by decide +kernel
theorem dX3_setMark_39 : decode cX3_setMark 39 = .ok (.return_, 1) := by decide +kernel
theorem dX3_marksOnBacks_0 : decode cX3_marksOnBacks 0 = .ok (.iconst 0, 1) := by decide +kernel
theorem dX3_marksOnBacks_1 : decode cX3_marksOnBacks 1 = .ok (.istore_n 1, 1) := by decide +kernel
theorem dX3_marksOnBacks_2 : decode cX3_marksOnBacks 2 = .ok (.iconst 0, 1) := by decide +kernel
theorem dX3_marksOnBacks_3 : decode cX3_marksOnBacks 3 = .ok (.istore_n 2, 1) := by decide +kernel
theorem dX3_marksOnBacks_4 : decode cX3_marksOnBacks 4 = .ok (.iload_n 2, 1) := by decide +kernel
theorem dX3_marksOnBacks_5 : decode cX3_marksOnBacks 5 = .ok (.bipush 24, 2) := by decide +kernel
theorem dX3_marksOnBacks_7 : decode cX3_marksOnBacks 7 = .ok (.if_icmp .ge 21, 3) := by decide +kernel
theorem dX3_marksOnBacks_10 : decode cX3_marksOnBacks 10 = .ok (.iload_n 1, 1) := by decide +kernel
theorem dX3_marksOnBacks_11 : decode cX3_marksOnBacks 11 = .ok (.aload_n 0, 1) := by decide +kernel
theorem dX3_marksOnBacks_12 : decode cX3_marksOnBacks 12 = .ok (.getfield 18, 3) := by decide +kernel
theorem dX3_marksOnBacks_15 : decode cX3_marksOnBacks 15 = .ok (.iload_n 2, 1) := by decide +kernel
theorem dX3_marksOnBacks_16 : decode cX3_marksOnBacks 16 = .ok (.iaload, 1) := by decide +kernel
theorem dX3_marksOnBacks_17 : decode cX3_marksOnBacks 17 = .ok (.invokestatic 72, 3) := by decide +kernel
theorem dX3_marksOnBacks_20 : decode cX3_marksOnBacks 20 = .ok (.iadd, 1) := by decide +kernel
theorem dX3_marksOnBacks_21 : decode cX3_marksOnBacks 21 = .ok (.istore_n 1, 1) := by decide +kernel
theorem dX3_marksOnBacks_22 : decode cX3_marksOnBacks 22 = .ok (.iinc 2 1, 3) := by decide +kernel
theorem dX3_marksOnBacks_25 : decode cX3_marksOnBacks 25 = .ok (.goto (-21), 3) := by decide +kernel
theorem dX3_marksOnBacks_28 : decode cX3_marksOnBacks 28 = .ok (.iload_n 1, 1) := by decide +kernel
theorem dX3_marksOnBacks_29 : decode cX3_marksOnBacks 29 = .ok (.ireturn, 1) := by decide +kernel
theorem dX3_sheetAt_0 : decode cX3_sheetAt 0 = .ok (.iload_n 1, 1) := by decide +kernel
theorem dX3_sheetAt_1 : decode cX3_sheetAt 1 = .ok (.ifCond .lt 20, 3) := by decide +kernel
theorem dX3_sheetAt_4 : decode cX3_sheetAt 4 = .ok (.iload_n 1, 1) := by decide +kernel
theorem dX3_sheetAt_5 : decode cX3_sheetAt 5 = .ok (.aload_n 0, 1) := by decide +kernel
theorem dX3_sheetAt_6 : decode cX3_sheetAt 6 = .ok (.getfield 37, 3) := by decide +kernel
theorem dX3_sheetAt_9 : decode cX3_sheetAt 9 = .ok (.if_icmp .ge 12, 3) := by decide +kernel
theorem dX3_sheetAt_12 : decode cX3_sheetAt 12 = .ok (.aload_n 0, 1) := by decide +kernel
theorem dX3_sheetAt_13 : decode cX3_sheetAt 13 = .ok (.getfield 37, 3) := by decide +kernel
theorem dX3_sheetAt_16 : decode cX3_sheetAt 16 = .ok (.bipush 6, 2) := by decide +kernel
theorem dX3_sheetAt_18 : decode cX3_sheetAt 18 = .ok (.if_icmp .le 5, 3) := by decide +kernel
theorem dX3_sheetAt_21 : decode cX3_sheetAt 21 = .ok (.aconst_null, 1) := by decide +kernel
theorem dX3_sheetAt_22 : decode cX3_sheetAt 22 = .ok (.areturn, 1) := by decide +kernel
theorem dX3_sheetAt_23 : decode cX3_sheetAt 23 = .ok (.aload_n 0, 1) := by decide +kernel
theorem dX3_sheetAt_24 : decode cX3_sheetAt 24 = .ok (.getfield 26, 3) := by decide +kernel
theorem dX3_sheetAt_27 : decode cX3_sheetAt 27 = .ok (.aload_n 0, 1) := by decide +kernel
theorem dX3_sheetAt_28 : decode cX3_sheetAt 28 = .ok (.getfield 37, 3) := by decide +kernel
theorem dX3_sheetAt_31 : decode cX3_sheetAt 31 = .ok (.iconst 1, 1) := by decide +kernel
theorem dX3_sheetAt_32 : decode cX3_sheetAt 32 = .ok (.isub, 1) := by decide +kernel
theorem dX3_sheetAt_33 : decode cX3_sheetAt 33 = .ok (.iload_n 1, 1) := by decide +kernel
theorem dX3_sheetAt_34 : decode cX3_sheetAt 34 = .ok (.isub, 1) := by decide +kernel
theorem dX3_sheetAt_35 : decode cX3_sheetAt 35 = .ok (.aaload, 1) := by decide +kernel
theorem dX3_sheetAt_36 : decode cX3_sheetAt 36 = .ok (.areturn, 1) := by decide +kernel
theorem dX3_printSheet_0 : decode cX3_printSheet 0 = .ok (.aload_n 0, 1) := by decide +kernel
theorem dX3_printSheet_1 : decode cX3_printSheet 1 = .ok (.getfield 37, 3) := by decide +kernel
theorem dX3_printSheet_4 : decode cX3_printSheet 4 = .ok (.ifCond .lt 12, 3) := by decide +kernel
theorem dX3_printSheet_7 : decode cX3_printSheet 7 = .ok (.aload_n 0, 1) := by decide +kernel
theorem dX3_printSheet_8 : decode cX3_printSheet 8 = .ok (.getfield 37, 3) := by decide +kernel
theorem dX3_printSheet_11 : decode cX3_printSheet 11 = .ok (.bipush 6, 2) := by decide +kernel
theorem dX3_printSheet_13 : decode cX3_printSheet 13 = .ok (.if_icmp .lt 4, 3) := by decide +kernel
theorem dX3_printSheet_16 : decode cX3_printSheet 16 = .ok (.return_, 1) := by decide +kernel
theorem dX3_printSheet_17 : decode cX3_printSheet 17 = .ok (.aload_n 0, 1) := by decide +kernel
theorem dX3_printSheet_18 : decode cX3_printSheet 18 = .ok (.getfield 26, 3) := by decide +kernel
theorem dX3_printSheet_21 : decode cX3_printSheet 21 = .ok (.aload_n 0, 1) := by decide +kernel
theorem dX3_printSheet_22 : decode cX3_printSheet 22 = .ok (.getfield 37, 3) := by decide +kernel
theorem dX3_printSheet_25 : decode cX3_printSheet 25 = .ok (.new 24, 3) := by decide +kernel
theorem dX3_printSheet_28 : decode cX3_printSheet 28 = .ok (.dup, 1) := by decide +kernel
theorem dX3_printSheet_29 : decode cX3_printSheet 29 = .ok (.aload_n 0, 1) := by decide +kernel
theorem dX3_printSheet_30 : decode cX3_printSheet 30 = .ok (.getfield 9, 3) := by decide +kernel
theorem dX3_printSheet_33 : decode cX3_printSheet 33 = .ok (.aload_n 0, 1) := by decide +kernel
theorem dX3_printSheet_34 : decode cX3_printSheet 34 = .ok (.getfield 15, 3) := by decide +kernel
theorem dX3_printSheet_37 : decode cX3_printSheet 37 = .ok (.aload_n 0, 1) := by decide +kernel
theorem dX3_printSheet_38 : decode cX3_printSheet 38 = .ok (.getfield 18, 3) := by decide +kernel
theorem dX3_printSheet_41 : decode cX3_printSheet 41 = .ok (.iload_n 1, 1) := by decide +kernel
theorem dX3_printSheet_42 : decode cX3_printSheet 42 = .ok (.invokespecial 78, 3) := by decide +kernel
theorem dX3_printSheet_45 : decode cX3_printSheet 45 = .ok (.aastore, 1) := by decide +kernel
theorem dX3_printSheet_46 : decode cX3_printSheet 46 = .ok (.aload_n 0, 1) := by decide +kernel
theorem dX3_printSheet_47 : decode cX3_printSheet 47 = .ok (.dup, 1) := by decide +kernel
theorem dX3_printSheet_48 : decode cX3_printSheet 48 = .ok (.getfield 37, 3) := by decide +kernel
theorem dX3_printSheet_51 : decode cX3_printSheet 51 = .ok (.iconst 1, 1) := by decide +kernel
theorem dX3_printSheet_52 : decode cX3_printSheet 52 = .ok (.iadd, 1) := by decide +kernel
theorem dX3_printSheet_53 : decode cX3_printSheet 53 = .ok (.putfield 37, 3) := by decide +kernel
theorem dX3_printSheet_56 : decode cX3_printSheet 56 = .ok (.aload_n 0, 1) := by decide +kernel
theorem dX3_printSheet_57 : decode cX3_printSheet 57 = .ok (.dup, 1) := by decide +kernel
theorem dX3_printSheet_58 : decode cX3_printSheet 58 = .ok (.getfield 41, 3) := by decide +kernel
theorem dX3_printSheet_61 : decode cX3_printSheet 61 = .ok (.iconst 1, 1) := by decide +kernel
theorem dX3_printSheet_62 : decode cX3_printSheet 62 = .ok (.iadd, 1) := by decide +kernel
theorem dX3_printSheet_63 : decode cX3_printSheet 63 = .ok (.putfield 41, 3) := by decide +kernel
theorem dX3_printSheet_66 : decode cX3_printSheet 66 = .ok (.aload_n 0, 1) := by decide +kernel
theorem dX3_printSheet_67 : decode cX3_printSheet 67 = .ok (.invokevirtual 81, 3) := by decide +kernel
theorem dX3_printSheet_70 : decode cX3_printSheet 70 = .ok (.return_, 1) := by decide +kernel
theorem dX3_wear_0 : decode cX3_wear 0 = .ok (.aload_n 0, 1) := by decide +kernel
theorem dX3_wear_1 : decode cX3_wear 1 = .ok (.getfield 21, 3) := by decide +kernel
theorem dX3_wear_4 : decode cX3_wear 4 = .ok (.iconst 0, 1) := by decide +kernel
theorem dX3_wear_5 : decode cX3_wear 5 = .ok (.invokestatic 56, 3) := by decide +kernel
theorem dX3_wear_8 : decode cX3_wear 8 = .ok (.istore_n 1, 1) := by decide +kernel
theorem dX3_wear_9 : decode cX3_wear 9 = .ok (.iload_n 1, 1) := by decide +kernel
theorem dX3_wear_10 : decode cX3_wear 10 = .ok (.ifCond .le 32, 3) := by decide +kernel
theorem dX3_wear_13 : decode cX3_wear 13 = .ok (.aload_n 0, 1) := by decide +kernel
theorem dX3_wear_14 : decode cX3_wear 14 = .ok (.getfield 41, 3) := by decide +kernel
theorem dX3_wear_17 : decode cX3_wear 17 = .ok (.iload_n 1, 1) := by decide +kernel
theorem dX3_wear_18 : decode cX3_wear 18 = .ok (.irem, 1) := by decide +kernel
theorem dX3_wear_19 : decode cX3_wear 19 = .ok (.ifCond .ne 23, 3) := by decide +kernel
theorem dX3_wear_22 : decode cX3_wear 22 = .ok (.aload_n 0, 1) := by decide +kernel
theorem dX3_wear_23 : decode cX3_wear 23 = .ok (.aload_n 0, 1) := by decide +kernel
theorem dX3_wear_24 : decode cX3_wear 24 = .ok (.getfield 41, 3) := by decide +kernel
theorem dX3_wear_27 : decode cX3_wear 27 = .ok (.bipush 24, 2) := by decide +kernel
theorem dX3_wear_29 : decode cX3_wear 29 = .ok (.irem, 1) := by decide +kernel
theorem dX3_wear_30 : decode cX3_wear 30 = .ok (.aload_n 0, 1) := by decide +kernel
theorem dX3_wear_31 : decode cX3_wear 31 = .ok (.getfield 41, 3) := by decide +kernel
theorem dX3_wear_34 : decode cX3_wear 34 = .ok (.iload_n 1, 1) := by decide +kernel
theorem dX3_wear_35 : decode cX3_wear 35 = .ok (.idiv, 1) := by decide +kernel
theorem dX3_wear_36 : decode cX3_wear 36 = .ok (.iconst 4, 1) := by decide +kernel
theorem dX3_wear_37 : decode cX3_wear 37 = .ok (.irem, 1) := by decide +kernel
theorem dX3_wear_38 : decode cX3_wear 38 = .ok (.iconst 1, 1) := by decide +kernel
theorem dX3_wear_39 : decode cX3_wear 39 = .ok (.invokevirtual 84, 3) := by decide +kernel
theorem dX3_wear_42 : decode cX3_wear 42 = .ok (.return_, 1) := by decide +kernel
theorem dX3_takeTopSheet_0 : decode cX3_takeTopSheet 0 = .ok (.aload_n 0, 1) := by decide +kernel
theorem dX3_takeTopSheet_1 : decode cX3_takeTopSheet 1 = .ok (.iconst 0, 1) := by decide +kernel
theorem dX3_takeTopSheet_2 : decode cX3_takeTopSheet 2 = .ok (.invokevirtual 88, 3) := by decide +kernel
theorem dX3_takeTopSheet_5 : decode cX3_takeTopSheet 5 = .ok (.astore_n 1, 1) := by decide +kernel
theorem dX3_takeTopSheet_6 : decode cX3_takeTopSheet 6 = .ok (.aload_n 1, 1) := by decide +kernel
theorem dX3_takeTopSheet_7 : decode cX3_takeTopSheet 7 = .ok (.ifnull 23, 3) := by decide +kernel
theorem dX3_takeTopSheet_10 : decode cX3_takeTopSheet 10 = .ok (.aload_n 0, 1) := by decide +kernel
theorem dX3_takeTopSheet_11 : decode cX3_takeTopSheet 11 = .ok (.dup, 1) := by decide +kernel
theorem dX3_takeTopSheet_12 : decode cX3_takeTopSheet 12 = .ok (.getfield 37, 3) := by decide +kernel
theorem dX3_takeTopSheet_15 : decode cX3_takeTopSheet 15 = .ok (.iconst 1, 1) := by decide +kernel
theorem dX3_takeTopSheet_16 : decode cX3_takeTopSheet 16 = .ok (.isub, 1) := by decide +kernel
theorem dX3_takeTopSheet_17 : decode cX3_takeTopSheet 17 = .ok (.putfield 37, 3) := by decide +kernel
theorem dX3_takeTopSheet_20 : decode cX3_takeTopSheet 20 = .ok (.aload_n 0, 1) := by decide +kernel
theorem dX3_takeTopSheet_21 : decode cX3_takeTopSheet 21 = .ok (.getfield 26, 3) := by decide +kernel
theorem dX3_takeTopSheet_24 : decode cX3_takeTopSheet 24 = .ok (.aload_n 0, 1) := by decide +kernel
theorem dX3_takeTopSheet_25 : decode cX3_takeTopSheet 25 = .ok (.getfield 37, 3) := by decide +kernel
theorem dX3_takeTopSheet_28 : decode cX3_takeTopSheet 28 = .ok (.aconst_null, 1) := by decide +kernel
theorem dX3_takeTopSheet_29 : decode cX3_takeTopSheet 29 = .ok (.aastore, 1) := by decide +kernel
theorem dX3_takeTopSheet_30 : decode cX3_takeTopSheet 30 = .ok (.aload_n 1, 1) := by decide +kernel
theorem dX3_takeTopSheet_31 : decode cX3_takeTopSheet 31 = .ok (.areturn, 1) := by decide +kernel
theorem dX3_reasonAgainstSale_0 : decode cX3_reasonAgainstSale 0 = .ok (.aload_n 0, 1) := by decide +kernel
theorem dX3_reasonAgainstSale_1 : decode cX3_reasonAgainstSale 1 = .ok (.getfield 33, 3) := by decide +kernel
theorem dX3_reasonAgainstSale_4 : decode cX3_reasonAgainstSale 4 = .ok (.getfield 92, 3) := by decide +kernel
theorem dX3_reasonAgainstSale_7 : decode cX3_reasonAgainstSale 7 = .ok (.astore_n 1, 1) := by decide +kernel
theorem dX3_reasonAgainstSale_8 : decode cX3_reasonAgainstSale 8 = .ok (.aload_n 0, 1) := by decide +kernel
theorem dX3_reasonAgainstSale_9 : decode cX3_reasonAgainstSale 9 = .ok (.getfield 33, 3) := by decide +kernel
theorem dX3_reasonAgainstSale_12 : decode cX3_reasonAgainstSale 12 = .ok (.getfield 96, 3) := by decide +kernel
theorem dX3_reasonAgainstSale_15 : decode cX3_reasonAgainstSale 15 = .ok (.ifCond .le 5, 3) := by decide +kernel
theorem dX3_reasonAgainstSale_18 : decode cX3_reasonAgainstSale 18 = .ok (.iconst 1, 1) := by decide +kernel
theorem dX3_reasonAgainstSale_19 : decode cX3_reasonAgainstSale 19 = .ok (.ireturn, 1) := by decide +kernel
theorem dX3_reasonAgainstSale_20 : decode cX3_reasonAgainstSale 20 = .ok (.aload_n 1, 1) := by decide +kernel
theorem dX3_reasonAgainstSale_21 : decode cX3_reasonAgainstSale 21 = .ok (.ifnull 23, 3) := by decide +kernel
theorem dX3_reasonAgainstSale_24 : decode cX3_reasonAgainstSale 24 = .ok (.aload_n 1, 1) := by decide +kernel
theorem dX3_reasonAgainstSale_25 : decode cX3_reasonAgainstSale 25 = .ok (.getfield 99, 3) := by decide +kernel
theorem dX3_reasonAgainstSale_28 : decode cX3_reasonAgainstSale 28 = .ok (.aload_n 0, 1) := by decide +kernel
theorem dX3_reasonAgainstSale_29 : decode cX3_reasonAgainstSale 29 = .ok (.getfield 21, 3) := by decide +kernel
theorem dX3_reasonAgainstSale_32 : decode cX3_reasonAgainstSale 32 = .ok (.iconst 1, 1) := by decide +kernel
theorem dX3_reasonAgainstSale_33 : decode cX3_reasonAgainstSale 33 = .ok (.invokestatic 56, 3) := by decide +kernel
theorem dX3_reasonAgainstSale_36 : decode cX3_reasonAgainstSale 36 = .ok (.invokestatic 100, 3) := by decide +kernel
theorem dX3_reasonAgainstSale_39 : decode cX3_reasonAgainstSale 39 = .ok (.ifCond .le 5, 3) := by decide +kernel
theorem dX3_reasonAgainstSale_42 : decode cX3_reasonAgainstSale 42 = .ok (.iconst 2, 1) := by decide +kernel
theorem dX3_reasonAgainstSale_43 : decode cX3_reasonAgainstSale 43 = .ok (.ireturn, 1) := by decide +kernel
theorem dX3_reasonAgainstSale_44 : decode cX3_reasonAgainstSale 44 = .ok (.aload_n 0, 1) := by decide +kernel
theorem dX3_reasonAgainstSale_45 : decode cX3_reasonAgainstSale 45 = .ok (.getfield 33, 3) := by decide +kernel
theorem dX3_reasonAgainstSale_48 : decode cX3_reasonAgainstSale 48 = .ok (.invokevirtual 103, 3) := by decide +kernel
theorem dX3_reasonAgainstSale_51 : decode cX3_reasonAgainstSale 51 = .ok (.aload_n 0, 1) := by decide +kernel
theorem dX3_reasonAgainstSale_52 : decode cX3_reasonAgainstSale 52 = .ok (.getfield 21, 3) := by decide +kernel
theorem dX3_reasonAgainstSale_55 : decode cX3_reasonAgainstSale 55 = .ok (.iconst 2, 1) := by decide +kernel
theorem dX3_reasonAgainstSale_56 : decode cX3_reasonAgainstSale 56 = .ok (.invokestatic 56, 3) := by decide +kernel
theorem dX3_reasonAgainstSale_59 : decode cX3_reasonAgainstSale 59 = .ok (.if_icmp .le 7, 3) := by decide +kernel
theorem dX3_reasonAgainstSale_62 : decode cX3_reasonAgainstSale 62 = .ok (.iconst 3, 1) := by decide +kernel
theorem dX3_reasonAgainstSale_63 : decode cX3_reasonAgainstSale 63 = .ok (.goto 4, 3) := by decide +kernel
theorem dX3_reasonAgainstSale_66 : decode cX3_reasonAgainstSale 66 = .ok (.iconst 0, 1) := by decide +kernel
theorem dX3_reasonAgainstSale_67 : decode cX3_reasonAgainstSale 67 = .ok (.ireturn, 1) := by decide +kernel
theorem dX3_knownIfPrinted_0 : decode cX3_knownIfPrinted 0 = .ok (.iconst 0, 1) := by decide +kernel
theorem dX3_knownIfPrinted_1 : decode cX3_knownIfPrinted 1 = .ok (.istore_n 3, 1) := by decide +kernel
theorem dX3_knownIfPrinted_2 : decode cX3_knownIfPrinted 2 = .ok (.iconst 0, 1) := by decide +kernel
theorem dX3_knownIfPrinted_3 : decode cX3_knownIfPrinted 3 = .ok (.istore 4, 2) := by decide +kernel
theorem dX3_knownIfPrinted_5 : decode cX3_knownIfPrinted 5 = .ok (.iconst 0, 1) := by decide +kernel
theorem dX3_knownIfPrinted_6 : decode cX3_knownIfPrinted 6 = .ok (.istore 5, 2) := by decide +kernel
theorem dX3_knownIfPrinted_8 : decode cX3_knownIfPrinted 8 = .ok (.iload 5, 2) := by decide +kernel
theorem dX3_knownIfPrinted_10 : decode cX3_knownIfPrinted 10 = .ok (.bipush 24, 2) := by decide +kernel
theorem dX3_knownIfPrinted_12 : decode cX3_knownIfPrinted 12 = .ok (.if_icmp .ge 64, 3) := by decide +kernel
theorem dX3_knownIfPrinted_15 : decode cX3_knownIfPrinted 15 = .ok (.iload_n 1, 1) := by decide +kernel
theorem dX3_knownIfPrinted_16 : decode cX3_knownIfPrinted 16 = .ok (.ifCond .eq 11, 3) := by decide +kernel
theorem dX3_knownIfPrinted_19 : decode cX3_knownIfPrinted 19 = .ok (.bipush 23, 2) := by decide +kernel
theorem dX3_knownIfPrinted_21 : decode cX3_knownIfPrinted 21 = .ok (.iload 5, 2) := by decide +kernel
theorem dX3_knownIfPrinted_23 : decode cX3_knownIfPrinted 23 = .ok (.isub, 1) := by decide +kernel
theorem dX3_knownIfPrinted_24 : decode cX3_knownIfPrinted 24 = .ok (.goto 5, 3) := by decide +kernel
theorem dX3_knownIfPrinted_27 : decode cX3_knownIfPrinted 27 = .ok (.iload 5, 2) := by decide +kernel
theorem dX3_knownIfPrinted_29 : decode cX3_knownIfPrinted 29 = .ok (.istore 6, 2) := by decide +kernel
theorem dX3_knownIfPrinted_31 : decode cX3_knownIfPrinted 31 = .ok (.iload 6, 2) := by decide +kernel
theorem dX3_knownIfPrinted_33 : decode cX3_knownIfPrinted 33 = .ok (.iload_n 2, 1) := by decide +kernel
theorem dX3_knownIfPrinted_34 : decode cX3_knownIfPrinted 34 = .ok (.if_icmp .ne 7, 3) := by decide +kernel
theorem dX3_knownIfPrinted_37 : decode cX3_knownIfPrinted 37 = .ok (.iconst 0, 1) := by decide +kernel
theorem dX3_knownIfPrinted_38 : decode cX3_knownIfPrinted 38 = .ok (.goto 12, 3) := by decide +kernel
theorem dX3_knownIfPrinted_41 : decode cX3_knownIfPrinted 41 = .ok (.aload_n 0, 1) := by decide +kernel
theorem dX3_knownIfPrinted_42 : decode cX3_knownIfPrinted 42 = .ok (.getfield 18, 3) := by decide +kernel
theorem dX3_knownIfPrinted_45 : decode cX3_knownIfPrinted 45 = .ok (.iload 6, 2) := by decide +kernel
theorem dX3_knownIfPrinted_47 : decode cX3_knownIfPrinted 47 = .ok (.invokestatic 56, 3) := by decide +kernel
theorem dX3_knownIfPrinted_50 : decode cX3_knownIfPrinted 50 = .ok (.istore 7, 2) := by decide +kernel
theorem dX3_knownIfPrinted_52 : decode cX3_knownIfPrinted 52 = .ok (.iload 4, 2) := by decide +kernel
theorem dX3_knownIfPrinted_54 : decode cX3_knownIfPrinted 54 = .ok (.iload_n 3, 1) := by decide +kernel
theorem dX3_knownIfPrinted_55 : decode cX3_knownIfPrinted 55 = .ok (.iconst 1, 1) := by decide +kernel
theorem dX3_knownIfPrinted_56 : decode cX3_knownIfPrinted 56 = .ok (.iload 7, 2) := by decide +kernel
theorem dX3_knownIfPrinted_58 : decode cX3_knownIfPrinted 58 = .ok (.ishl, 1) := by decide +kernel
theorem dX3_knownIfPrinted_59 : decode cX3_knownIfPrinted 59 = .ok (.iand, 1) := by decide +kernel
theorem dX3_knownIfPrinted_60 : decode cX3_knownIfPrinted 60 = .ok (.ior, 1) := by decide +kernel
theorem dX3_knownIfPrinted_61 : decode cX3_knownIfPrinted 61 = .ok (.istore 4, 2) := by decide +kernel
theorem dX3_knownIfPrinted_63 : decode cX3_knownIfPrinted 63 = .ok (.iload_n 3, 1) := by decide +kernel
theorem dX3_knownIfPrinted_64 : decode cX3_knownIfPrinted 64 = .ok (.iconst 1, 1) := by decide +kernel
theorem dX3_knownIfPrinted_65 : decode cX3_knownIfPrinted 65 = .ok (.iload 7, 2) := by decide +kernel
theorem dX3_knownIfPrinted_67 : decode cX3_knownIfPrinted 67 = .ok (.ishl, 1) := by decide +kernel
theorem dX3_knownIfPrinted_68 : decode cX3_knownIfPrinted 68 = .ok (.ior, 1) := by decide +kernel
theorem dX3_knownIfPrinted_69 : decode cX3_knownIfPrinted 69 = .ok (.istore_n 3, 1) := by decide +kernel
theorem dX3_knownIfPrinted_70 : decode cX3_knownIfPrinted 70 = .ok (.iinc 5 1, 3) := by decide +kernel
theorem dX3_knownIfPrinted_73 : decode cX3_knownIfPrinted 73 = .ok (.goto (-65), 3) := by decide +kernel
theorem dX3_knownIfPrinted_76 : decode cX3_knownIfPrinted 76 = .ok (.iload_n 3, 1) := by decide +kernel
theorem dX3_knownIfPrinted_77 : decode cX3_knownIfPrinted 77 = .ok (.iload 4, 2) := by decide +kernel
theorem dX3_knownIfPrinted_79 : decode cX3_knownIfPrinted 79 = .ok (.iconst (-1), 1) := by decide +kernel
theorem dX3_knownIfPrinted_80 : decode cX3_knownIfPrinted 80 = .ok (.ixor, 1) := by decide +kernel
theorem dX3_knownIfPrinted_81 : decode cX3_knownIfPrinted 81 = .ok (.iand, 1) := by decide +kernel
theorem dX3_knownIfPrinted_82 : decode cX3_knownIfPrinted 82 = .ok (.invokestatic 72, 3) := by decide +kernel
theorem dX3_knownIfPrinted_85 : decode cX3_knownIfPrinted 85 = .ok (.ireturn, 1) := by decide +kernel
theorem dX4_init_0 : decode cX4_init 0 = .ok (.aload_n 0, 1) := by decide +kernel
theorem dX4_init_1 : decode cX4_init 1 = .ok (.invokespecial 3, 3) := by decide +kernel
theorem dX4_init_4 : decode cX4_init 4 = .ok (.aload_n 0, 1) := by decide +kernel
theorem dX4_init_5 : decode cX4_init 5 = .ok (.bipush 60, 2) := by decide +kernel
theorem dX4_init_7 : decode cX4_init 7 = .ok (.newarray .char, 2) := by decide +kernel
theorem dX4_init_9 : decode cX4_init 9 = .ok (.putfield 9, 3) := by decide +kernel
theorem dX4_init_12 : decode cX4_init 12 = .ok (.aload_n 0, 1) := by decide +kernel
theorem dX4_init_13 : decode cX4_init 13 = .ok (.iconst 0, 1) := by decide +kernel
theorem dX4_init_14 : decode cX4_init 14 = .ok (.putfield 15, 3) := by decide +kernel
theorem dX4_init_17 : decode cX4_init 17 = .ok (.aload_n 0, 1) := by decide +kernel
theorem dX4_init_18 : decode cX4_init 18 = .ok (.iconst 0, 1) := by decide +kernel
theorem dX4_init_19 : decode cX4_init 19 = .ok (.putfield 19, 3) := by decide +kernel
theorem dX4_init_22 : decode cX4_init 22 = .ok (.aload_n 0, 1) := by decide +kernel
theorem dX4_init_23 : decode cX4_init 23 = .ok (.bipush 12, 2) := by decide +kernel
theorem dX4_init_25 : decode cX4_init 25 = .ok (.newarray .char, 2) := by decide +kernel
theorem dX4_init_27 : decode cX4_init 27 = .ok (.putfield 22, 3) := by decide +kernel
theorem dX4_init_30 : decode cX4_init 30 = .ok (.aload_n 0, 1) := by decide +kernel
theorem dX4_init_31 : decode cX4_init 31 = .ok (.bipush 12, 2) := by decide +kernel
theorem dX4_init_33 : decode cX4_init 33 = .ok (.newarray .int, 2) := by decide +kernel
theorem dX4_init_35 : decode cX4_init 35 = .ok (.putfield 25, 3) := by decide +kernel
theorem dX4_init_38 : decode cX4_init 38 = .ok (.aload_n 0, 1) := by decide +kernel
theorem dX4_init_39 : decode cX4_init 39 = .ok (.bipush 12, 2) := by decide +kernel
theorem dX4_init_41 : decode cX4_init 41 = .ok (.newarray .int, 2) := by decide +kernel
theorem dX4_init_43 : decode cX4_init 43 = .ok (.putfield 29, 3) := by decide +kernel
theorem dX4_init_46 : decode cX4_init 46 = .ok (.aload_n 0, 1) := by decide +kernel
theorem dX4_init_47 : decode cX4_init 47 = .ok (.iconst 0, 1) := by decide +kernel
theorem dX4_init_48 : decode cX4_init 48 = .ok (.putfield 32, 3) := by decide +kernel
theorem dX4_init_51 : decode cX4_init 51 = .ok (.return_, 1) := by decide +kernel
theorem dX5_init_0 : decode cX5_init 0 = .ok (.aload_n 0, 1) := by decide +kernel
theorem dX5_init_1 : decode cX5_init 1 = .ok (.invokespecial 1, 3) := by decide +kernel
theorem dX5_init_4 : decode cX5_init 4 = .ok (.aload_n 0, 1) := by decide +kernel
theorem dX5_init_5 : decode cX5_init 5 = .ok (.new 7, 3) := by decide +kernel
theorem dX5_init_8 : decode cX5_init 8 = .ok (.dup, 1) := by decide +kernel
theorem dX5_init_9 : decode cX5_init 9 = .ok (.invokespecial 9, 3) := by decide +kernel
theorem dX5_init_12 : decode cX5_init 12 = .ok (.putfield 10, 3) := by decide +kernel
theorem dX5_init_15 : decode cX5_init 15 = .ok (.aload_n 0, 1) := by decide +kernel
theorem dX5_init_16 : decode cX5_init 16 = .ok (.new 7, 3) := by decide +kernel
theorem dX5_init_19 : decode cX5_init 19 = .ok (.dup, 1) := by decide +kernel
theorem dX5_init_20 : decode cX5_init 20 = .ok (.invokespecial 9, 3) := by decide +kernel
theorem dX5_init_23 : decode cX5_init 23 = .ok (.putfield 16, 3) := by decide +kernel
theorem dX5_init_26 : decode cX5_init 26 = .ok (.aload_n 0, 1) := by decide +kernel
theorem dX5_init_27 : decode cX5_init 27 = .ok (.new 19, 3) := by decide +kernel
theorem dX5_init_30 : decode cX5_init 30 = .ok (.dup, 1) := by decide +kernel
theorem dX5_init_31 : decode cX5_init 31 = .ok (.invokespecial 21, 3) := by decide +kernel
theorem dX5_init_34 : decode cX5_init 34 = .ok (.putfield 22, 3) := by decide +kernel
theorem dX5_init_37 : decode cX5_init 37 = .ok (.aload_n 0, 1) := by decide +kernel
theorem dX5_init_38 : decode cX5_init 38 = .ok (.new 26, 3) := by decide +kernel
theorem dX5_init_41 : decode cX5_init 41 = .ok (.dup, 1) := by decide +kernel
theorem dX5_init_42 : decode cX5_init 42 = .ok (.invokespecial 28, 3) := by decide +kernel
theorem dX5_init_45 : decode cX5_init 45 = .ok (.putfield 29, 3) := by decide +kernel
theorem dX5_init_48 : decode cX5_init 48 = .ok (.aload_n 0, 1) := by decide +kernel
theorem dX5_init_49 : decode cX5_init 49 = .ok (.bipush 24, 2) := by decide +kernel
theorem dX5_init_51 : decode cX5_init 51 = .ok (.newarray .int, 2) := by decide +kernel
theorem dX5_init_53 : decode cX5_init 53 = .ok (.putfield 33, 3) := by decide +kernel
theorem dX5_init_56 : decode cX5_init 56 = .ok (.aload_n 0, 1) := by decide +kernel
theorem dX5_init_57 : decode cX5_init 57 = .ok (.iconst 0, 1) := by decide +kernel
theorem dX5_init_58 : decode cX5_init 58 = .ok (.putfield 37, 3) := by decide +kernel
theorem dX5_init_61 : decode cX5_init 61 = .ok (.return_, 1) := by decide +kernel
theorem dX5_swap_0 : decode cX5_swap 0 = .ok (.iload_n 1, 1) := by decide +kernel
theorem dX5_swap_1 : decode cX5_swap 1 = .ok (.invokestatic 41, 3) := by decide +kernel
theorem dX5_swap_4 : decode cX5_swap 4 = .ok (.ifCond .eq 10, 3) := by decide +kernel
theorem dX5_swap_7 : decode cX5_swap 7 = .ok (.iload_n 2, 1) := by decide +kernel
theorem dX5_swap_8 : decode cX5_swap 8 = .ok (.invokestatic 41, 3) := by decide +kernel
theorem dX5_swap_11 : decode cX5_swap 11 = .ok (.ifCond .ne 5, 3) := by decide +kernel
theorem dX5_swap_14 : decode cX5_swap 14 = .ok (.iconst (-1), 1) := by decide +kernel
theorem dX5_swap_15 : decode cX5_swap 15 = .ok (.ireturn, 1) := by decide +kernel
theorem dX5_swap_16 : decode cX5_swap 16 = .ok (.iload_n 1, 1) := by decide +kernel
theorem dX5_swap_17 : decode cX5_swap 17 = .ok (.iload_n 2, 1) := by decide +kernel
theorem dX5_swap_18 : decode cX5_swap 18 = .ok (.if_icmp .ne 6, 3) := by decide +kernel
theorem dX5_swap_21 : decode cX5_swap 21 = .ok (.bipush (-5), 2) := by decide +kernel
theorem dX5_swap_23 : decode cX5_swap 23 = .ok (.ireturn, 1) := by decide +kernel
theorem dX5_swap_24 : decode cX5_swap 24 = .ok (.aload_n 0, 1) := by decide +kernel
theorem dX5_swap_25 : decode cX5_swap 25 = .ok (.getfield 22, 3) := by decide +kernel
theorem dX5_swap_28 : decode cX5_swap 28 = .ok (.aload_n 0, 1) := by decide +kernel
theorem dX5_swap_29 : decode cX5_swap 29 = .ok (.getfield 10, 3) := by decide +kernel
theorem dX5_swap_32 : decode cX5_swap 32 = .ok (.invokevirtual 45, 3) := by decide +kernel
theorem dX5_swap_35 : decode cX5_swap 35 = .ok (.aload_n 0, 1) := by decide +kernel
theorem dX5_swap_36 : decode cX5_swap 36 = .ok (.getfield 10, 3) := by decide +kernel
theorem dX5_swap_39 : decode cX5_swap 39 = .ok (.iload_n 1, 1) := by decide +kernel
theorem dX5_swap_40 : decode cX5_swap 40 = .ok (.iload_n 2, 1) := by decide +kernel
theorem dX5_swap_41 : decode cX5_swap 41 = .ok (.invokevirtual 49, 3) := by decide +kernel
theorem dX5_swap_44 : decode cX5_swap 44 = .ok (.aload_n 0, 1) := by decide +kernel
theorem dX5_swap_45 : decode cX5_swap 45 = .ok (.getfield 10, 3) := by decide +kernel
theorem dX5_swap_48 : decode cX5_swap 48 = .ok (.getfield 53, 3) := by decide +kernel
theorem dX5_swap_51 : decode cX5_swap 51 = .ok (.iload_n 1, 1) := by decide +kernel
theorem dX5_swap_52 : decode cX5_swap 52 = .ok (.invokestatic 56, 3) := by decide +kernel
theorem dX5_swap_55 : decode cX5_swap 55 = .ok (.ireturn, 1) := by decide +kernel
theorem dX5_mark_0 : decode cX5_mark 0 = .ok (.iload_n 1, 1) := by decide +kernel
theorem dX5_mark_1 : decode cX5_mark 1 = .ok (.invokestatic 41, 3) := by decide +kernel
theorem dX5_mark_4 : decode cX5_mark 4 = .ok (.ifCond .eq 10, 3) := by decide +kernel
theorem dX5_mark_7 : decode cX5_mark 7 = .ok (.iload_n 2, 1) := by decide +kernel
theorem dX5_mark_8 : decode cX5_mark 8 = .ok (.invokestatic 60, 3) := by decide +kernel
theorem dX5_mark_11 : decode cX5_mark 11 = .ok (.ifCond .ne 5, 3) := by decide +kernel
theorem dX5_mark_14 : decode cX5_mark 14 = .ok (.iconst (-1), 1) := by decide +kernel
theorem dX5_mark_15 : decode cX5_mark 15 = .ok (.ireturn, 1) := by decide +kernel
theorem dX5_mark_16 : decode cX5_mark 16 = .ok (.aload_n 0, 1) := by decide +kernel
theorem dX5_mark_17 : decode cX5_mark 17 = .ok (.getfield 10, 3) := by decide +kernel
theorem dX5_mark_20 : decode cX5_mark 20 = .ok (.iload_n 1, 1) := by decide +kernel
theorem dX5_mark_21 : decode cX5_mark 21 = .ok (.iload_n 2, 1) := by decide +kernel
theorem dX5_mark_22 : decode cX5_mark 22 = .ok (.invokevirtual 63, 3) := by decide +kernel
theorem dX5_mark_25 : decode cX5_mark 25 = .ok (.iload_n 3, 1) := by decide +kernel
theorem dX5_mark_26 : decode cX5_mark 26 = .ok (.if_icmp .ne 6, 3) := by decide +kernel
theorem dX5_mark_29 : decode cX5_mark 29 = .ok (.bipush (-5), 2) := by decide +kernel
theorem dX5_mark_31 : decode cX5_mark 31 = .ok (.ireturn, 1) := by decide +kernel
theorem dX5_mark_32 : decode cX5_mark 32 = .ok (.aload_n 0, 1) := by decide +kernel
theorem dX5_mark_33 : decode cX5_mark 33 = .ok (.getfield 22, 3) := by decide +kernel
theorem dX5_mark_36 : decode cX5_mark 36 = .ok (.aload_n 0, 1) := by decide +kernel
theorem dX5_mark_37 : decode cX5_mark 37 = .ok (.getfield 10, 3) := by decide +kernel
theorem dX5_mark_40 : decode cX5_mark 40 = .ok (.invokevirtual 45, 3) := by decide +kernel
theorem dX5_mark_43 : decode cX5_mark 43 = .ok (.aload_n 0, 1) := by decide +kernel
theorem dX5_mark_44 : decode cX5_mark 44 = .ok (.getfield 10, 3) := by decide +kernel
theorem dX5_mark_47 : decode cX5_mark 47 = .ok (.iload_n 1, 1) := by decide +kernel
theorem dX5_mark_48 : decode cX5_mark 48 = .ok (.iload_n 2, 1) := by decide +kernel
theorem dX5_mark_49 : decode cX5_mark 49 = .ok (.iload_n 3, 1) := by decide +kernel
theorem dX5_mark_50 : decode cX5_mark 50 = .ok (.invokevirtual 67, 3) := by decide +kernel
theorem dX5_mark_53 : decode cX5_mark 53 = .ok (.aload_n 0, 1) := by decide +kernel
theorem dX5_mark_54 : decode cX5_mark 54 = .ok (.getfield 10, 3) := by decide +kernel
theorem dX5_mark_57 : decode cX5_mark 57 = .ok (.getfield 71, 3) := by decide +kernel
theorem dX5_mark_60 : decode cX5_mark 60 = .ok (.iload_n 1, 1) := by decide +kernel
theorem dX5_mark_61 : decode cX5_mark 61 = .ok (.invokestatic 56, 3) := by decide +kernel
theorem dX5_mark_64 : decode cX5_mark 64 = .ok (.ireturn, 1) := by decide +kernel
theorem dX5_lean_0 : decode cX5_lean 0 = .ok (.iload_n 1, 1) := by decide +kernel
theorem dX5_lean_1 : decode cX5_lean 1 = .ok (.invokestatic 74, 3) := by decide +kernel
theorem dX5_lean_4 : decode cX5_lean 4 = .ok (.ifCond .ne 5, 3) := by decide +kernel
theorem dX5_lean_7 : decode cX5_lean 7 = .ok (.iconst (-1), 1) := by decide +kernel
theorem dX5_lean_8 : decode cX5_lean 8 = .ok (.ireturn, 1) := by decide +kernel
theorem dX5_lean_9 : decode cX5_lean 9 = .ok (.iload_n 2, 1) := by decide +kernel
theorem dX5_lean_10 : decode cX5_lean 10 = .ok (.bipush (-9), 2) := by decide +kernel
theorem dX5_lean_12 : decode cX5_lean 12 = .ok (.if_icmp .lt 9, 3) := by decide +kernel
theorem dX5_lean_15 : decode cX5_lean 15 = .ok (.iload_n 2, 1) := by decide +kernel
theorem dX5_lean_16 : decode cX5_lean 16 = .ok (.bipush 9, 2) := by decide +kernel
theorem dX5_lean_18 : decode cX5_lean 18 = .ok (.if_icmp .le 6, 3) := by decide +kernel
theorem dX5_lean_21 : decode cX5_lean 21 = .ok (.bipush (-2), 2) := by decide +kernel
theorem dX5_lean_23 : decode cX5_lean 23 = .ok (.ireturn, 1) := by decide +kernel
theorem dX5_lean_24 : decode cX5_lean 24 = .ok (.iload_n 1, 1) := by decide +kernel
theorem dX5_lean_25 : decode cX5_lean 25 = .ok (.invokestatic 77, 3) := by decide +kernel
theorem dX5_lean_28 : decode cX5_lean 28 = .ok (.ifCond .ne 6, 3) := by decide +kernel
theorem dX5_lean_31 : decode cX5_lean 31 = .ok (.bipush (-4), 2) := by decide +kernel
theorem dX5_lean_33 : decode cX5_lean 33 = .ok (.ireturn, 1) := by decide +kernel
theorem dX5_lean_34 : decode cX5_lean 34 = .ok (.aload_n 0, 1) := by decide +kernel
theorem dX5_lean_35 : decode cX5_lean 35 = .ok (.getfield 10, 3) := by decide +kernel
theorem dX5_lean_38 : decode cX5_lean 38 = .ok (.getfield 80, 3) := by decide +kernel
theorem dX5_lean_41 : decode cX5_lean 41 = .ok (.iload_n 1, 1) := by decide +kernel
theorem dX5_lean_42 : decode cX5_lean 42 = .ok (.invokestatic 56, 3) := by decide +kernel
theorem dX5_lean_45 : decode cX5_lean 45 = .ok (.istore_n 3, 1) := by decide +kernel
theorem dX5_lean_46 : decode cX5_lean 46 = .ok (.iload_n 3, 1) := by decide +kernel
theorem dX5_lean_47 : decode cX5_lean 47 = .ok (.iload_n 2, 1) := by decide +kernel
theorem dX5_lean_48 : decode cX5_lean 48 = .ok (.if_icmp .ne 6, 3) := by decide +kernel
theorem dX5_lean_51 : decode cX5_lean 51 = .ok (.bipush (-5), 2) := by decide +kernel
theorem dX5_lean_53 : decode cX5_lean 53 = .ok (.ireturn, 1) := by decide +kernel
theorem dX5_lean_54 : decode cX5_lean 54 = .ok (.aload_n 0, 1) := by decide +kernel
theorem dX5_lean_55 : decode cX5_lean 55 = .ok (.getfield 22, 3) := by decide +kernel
theorem dX5_lean_58 : decode cX5_lean 58 = .ok (.aload_n 0, 1) := by decide +kernel
theorem dX5_lean_59 : decode cX5_lean 59 = .ok (.getfield 10, 3) := by decide +kernel
theorem dX5_lean_62 : decode cX5_lean 62 = .ok (.invokevirtual 45, 3) := by decide +kernel
theorem dX5_lean_65 : decode cX5_lean 65 = .ok (.aload_n 0, 1) := by decide +kernel
theorem dX5_lean_66 : decode cX5_lean 66 = .ok (.getfield 10, 3) := by decide +kernel
theorem dX5_lean_69 : decode cX5_lean 69 = .ok (.getfield 80, 3) := by decide +kernel
theorem dX5_lean_72 : decode cX5_lean 72 = .ok (.iload_n 1, 1) := by decide +kernel
theorem dX5_lean_73 : decode cX5_lean 73 = .ok (.iload_n 2, 1) := by decide +kernel
theorem dX5_lean_74 : decode cX5_lean 74 = .ok (.invokestatic 83, 3) := by decide +kernel
theorem dX5_lean_77 : decode cX5_lean 77 = .ok (.iload_n 3, 1) := by decide +kernel
theorem dX5_lean_78 : decode cX5_lean 78 = .ok (.bipush 100, 2) := by decide +kernel
theorem dX5_lean_80 : decode cX5_lean 80 = .ok (.iadd, 1) := by decide +kernel
theorem dX5_lean_81 : decode cX5_lean 81 = .ok (.ireturn, 1) := by decide +kernel
theorem dX5_set_0 : decode cX5_set 0 = .ok (.iload_n 1, 1) := by decide +kernel
theorem dX5_set_1 : decode cX5_set 1 = .ok (.ifCond .lt 8, 3) := by decide +kernel
theorem dX5_set_4 : decode cX5_set 4 = .ok (.iload_n 1, 1) := by decide +kernel
theorem dX5_set_5 : decode cX5_set 5 = .ok (.iconst 4, 1) := by decide +kernel
theorem dX5_set_6 : decode cX5_set 6 = .ok (.if_icmp .lt 6, 3) := by decide +kernel
theorem dX5_set_9 : decode cX5_set 9 = .ok (.bipush (-2), 2) := by decide +kernel
theorem dX5_set_11 : decode cX5_set 11 = .ok (.ireturn, 1) := by decide +kernel
theorem dX5_set_12 : decode cX5_set 12 = .ok (.iload_n 2, 1) := by decide +kernel
theorem dX5_set_13 : decode cX5_set 13 = .ok (.getstatic 113, 3) := by decide +kernel
theorem dX5_set_16 : decode cX5_set 16 = .ok (.iload_n 1, 1) := by decide +kernel
theorem dX5_set_17 : decode cX5_set 17 = .ok (.invokestatic 56, 3) := by decide +kernel
theorem dX5_set_20 : decode cX5_set 20 = .ok (.if_icmp .lt 14, 3) := by decide +kernel
theorem dX5_set_23 : decode cX5_set 23 = .ok (.iload_n 2, 1) := by decide +kernel
theorem dX5_set_24 : decode cX5_set 24 = .ok (.getstatic 116, 3) := by decide +kernel
theorem dX5_set_27 : decode cX5_set 27 = .ok (.iload_n 1, 1) := by decide +kernel
theorem dX5_set_28 : decode cX5_set 28 = .ok (.invokestatic 56, 3) := by decide +kernel
theorem dX5_set_31 : decode cX5_set 31 = .ok (.if_icmp .le 6, 3) := by decide +kernel
theorem dX5_set_34 : decode cX5_set 34 = .ok (.bipush (-2), 2) := by decide +kernel
theorem dX5_set_36 : decode cX5_set 36 = .ok (.ireturn, 1) := by decide +kernel
theorem dX5_set_37 : decode cX5_set 37 = .ok (.aload_n 0, 1) := by decide +kernel
theorem dX5_set_38 : decode cX5_set 38 = .ok (.getfield 10, 3) := by decide +kernel
theorem dX5_set_41 : decode cX5_set 41 = .ok (.getfield 119, 3) := by decide +kernel
theorem dX5_set_44 : decode cX5_set 44 = .ok (.iload_n 1, 1) := by decide +kernel
theorem dX5_set_45 : decode cX5_set 45 = .ok (.invokestatic 56, 3) := by decide +kernel
theorem dX5_set_48 : decode cX5_set 48 = .ok (.istore_n 3, 1) := by decide +kernel
theorem dX5_set_49 : decode cX5_set 49 = .ok (.iload_n 3, 1) := by decide +kernel
theorem dX5_set_50 : decode cX5_set 50 = .ok (.iload_n 2, 1) := by decide +kernel
theorem dX5_set_51 : decode cX5_set 51 = .ok (.if_icmp .ne 6, 3) := by decide +kernel
theorem dX5_set_54 : decode cX5_set 54 = .ok (.bipush (-5), 2) := by decide +kernel
theorem dX5_set_56 : decode cX5_set 56 = .ok (.ireturn, 1) := by decide +kernel
theorem dX5_set_57 : decode cX5_set 57 = .ok (.aload_n 0, 1) := by decide +kernel
theorem dX5_set_58 : decode cX5_set 58 = .ok (.getfield 22, 3) := by decide +kernel
theorem dX5_set_61 : decode cX5_set 61 = .ok (.aload_n 0, 1) := by decide +kernel
theorem dX5_set_62 : decode cX5_set 62 = .ok (.getfield 10, 3) := by decide +kernel
theorem dX5_set_65 : decode cX5_set 65 = .ok (.invokevirtual 45, 3) := by decide +kernel
theorem dX5_set_68 : decode cX5_set 68 = .ok (.aload_n 0, 1) := by decide +kernel
theorem dX5_set_69 : decode cX5_set 69 = .ok (.getfield 10, 3) := by decide +kernel
theorem dX5_set_72 : decode cX5_set 72 = .ok (.getfield 119, 3) := by decide +kernel
theorem dX5_set_75 : decode cX5_set 75 = .ok (.iload_n 1, 1) := by decide +kernel
theorem dX5_set_76 : decode cX5_set 76 = .ok (.iload_n 2, 1) := by decide +kernel
theorem dX5_set_77 : decode cX5_set 77 = .ok (.invokestatic 83, 3) := by decide +kernel
theorem dX5_set_80 : decode cX5_set 80 = .ok (.iload_n 3, 1) := by decide +kernel
theorem dX5_set_81 : decode cX5_set 81 = .ok (.ireturn, 1) := by decide +kernel
theorem dX5_print_0 : decode cX5_print 0 = .ok (.aload_n 0, 1) := by decide +kernel
theorem dX5_print_1 : decode cX5_print 1 = .ok (.getfield 10, 3) := by decide +kernel
theorem dX5_print_4 : decode cX5_print 4 = .ok (.getfield 122, 3) := by decide +kernel
theorem dX5_print_7 : decode cX5_print 7 = .ok (.bipush 6, 2) := by decide +kernel
theorem dX5_print_9 : decode cX5_print 9 = .ok (.if_icmp .lt 6, 3) := by decide +kernel
theorem dX5_print_12 : decode cX5_print 12 = .ok (.bipush (-3), 2) := by decide +kernel
theorem dX5_print_14 : decode cX5_print 14 = .ok (.ireturn, 1) := by decide +kernel
theorem dX5_print_15 : decode cX5_print 15 = .ok (.aload_n 0, 1) := by decide +kernel
theorem dX5_print_16 : decode cX5_print 16 = .ok (.getfield 22, 3) := by decide +kernel
theorem dX5_print_19 : decode cX5_print 19 = .ok (.aload_n 0, 1) := by decide +kernel
theorem dX5_print_20 : decode cX5_print 20 = .ok (.getfield 10, 3) := by decide +kernel
theorem dX5_print_23 : decode cX5_print 23 = .ok (.invokevirtual 45, 3) := by decide +kernel
theorem dX5_print_26 : decode cX5_print 26 = .ok (.aload_n 0, 1) := by decide +kernel
theorem dX5_print_27 : decode cX5_print 27 = .ok (.getfield 10, 3) := by decide +kernel
theorem dX5_print_30 : decode cX5_print 30 = .ok (.iload_n 1, 1) := by decide +kernel
theorem dX5_print_31 : decode cX5_print 31 = .ok (.invokevirtual 125, 3) := by decide +kernel
theorem dX5_print_34 : decode cX5_print 34 = .ok (.aload_n 0, 1) := by decide +kernel
theorem dX5_print_35 : decode cX5_print 35 = .ok (.getfield 10, 3) := by decide +kernel
theorem dX5_print_38 : decode cX5_print 38 = .ok (.getfield 122, 3) := by decide +kernel
theorem dX5_print_41 : decode cX5_print 41 = .ok (.ireturn, 1) := by decide +kernel
theorem dX5_cutSheet_0 : decode cX5_cutSheet 0 = .ok (.iload_n 1, 1) := by decide +kernel
theorem dX5_cutSheet_1 : decode cX5_cutSheet 1 = .ok (.ifCond .lt 8, 3) := by decide +kernel
theorem dX5_cutSheet_4 : decode cX5_cutSheet 4 = .ok (.iload_n 1, 1) := by decide +kernel
theorem dX5_cutSheet_5 : decode cX5_cutSheet 5 = .ok (.iconst 4, 1) := by decide +kernel
theorem dX5_cutSheet_6 : decode cX5_cutSheet 6 = .ok (.if_icmp .lt 6, 3) := by decide +kernel
theorem dX5_cutSheet_9 : decode cX5_cutSheet 9 = .ok (.bipush (-2), 2) := by decide +kernel
theorem dX5_cutSheet_11 : decode cX5_cutSheet 11 = .ok (.ireturn, 1) := by decide +kernel
theorem dX5_cutSheet_12 : decode cX5_cutSheet 12 = .ok (.aload_n 0, 1) := by decide +kernel
theorem dX5_cutSheet_13 : decode cX5_cutSheet 13 = .ok (.getfield 10, 3) := by decide +kernel
theorem dX5_cutSheet_16 : decode cX5_cutSheet 16 = .ok (.getfield 129, 3) := by decide +kernel
theorem dX5_cutSheet_19 : decode cX5_cutSheet 19 = .ok (.invokevirtual 133, 3) := by decide +kernel
theorem dX5_cutSheet_22 : decode cX5_cutSheet 22 = .ok (.ifCond .ne 14, 3) := by decide +kernel
theorem dX5_cutSheet_25 : decode cX5_cutSheet 25 = .ok (.aload_n 0, 1) := by decide +kernel
theorem dX5_cutSheet_26 : decode cX5_cutSheet 26 = .ok (.getfield 10, 3) := by decide +kernel
theorem dX5_cutSheet_29 : decode cX5_cutSheet 29 = .ok (.iconst 0, 1) := by decide +kernel
theorem dX5_cutSheet_30 : decode cX5_cutSheet 30 = .ok (.invokevirtual 138, 3) := by decide +kernel
theorem dX5_cutSheet_33 : decode cX5_cutSheet 33 = .ok (.ifnonnull 6, 3) := by decide +kernel
theorem dX5_cutSheet_36 : decode cX5_cutSheet 36 = .ok (.bipush (-4), 2) := by decide +kernel
theorem dX5_cutSheet_38 : decode cX5_cutSheet 38 = .ok (.ireturn, 1) := by decide +kernel
theorem dX5_cutSheet_39 : decode cX5_cutSheet 39 = .ok (.aload_n 0, 1) := by decide +kernel
theorem dX5_cutSheet_40 : decode cX5_cutSheet 40 = .ok (.getfield 22, 3) := by decide +kernel
theorem dX5_cutSheet_43 : decode cX5_cutSheet 43 = .ok (.aload_n 0, 1) := by decide +kernel
theorem dX5_cutSheet_44 : decode cX5_cutSheet 44 = .ok (.getfield 10, 3) := by decide +kernel
theorem dX5_cutSheet_47 : decode cX5_cutSheet 47 = .ok (.invokevirtual 45, 3) := by decide +kernel
theorem dX5_cutSheet_50 : decode cX5_cutSheet 50 = .ok (.aload_n 0, 1) := by decide +kernel
theorem dX5_cutSheet_51 : decode cX5_cutSheet 51 = .ok (.getfield 10, 3) := by decide +kernel
theorem dX5_cutSheet_54 : decode cX5_cutSheet 54 = .ok (.getfield 129, 3) := by decide +kernel
theorem dX5_cutSheet_57 : decode cX5_cutSheet 57 = .ok (.aload_n 0, 1) := by decide +kernel
theorem dX5_cutSheet_58 : decode cX5_cutSheet 58 = .ok (.getfield 10, 3) := by decide +kernel
theorem dX5_cutSheet_61 : decode cX5_cutSheet 61 = .ok (.invokevirtual 142, 3) := by decide +kernel
theorem dX5_cutSheet_64 : decode cX5_cutSheet 64 = .ok (.iload_n 1, 1) := by decide +kernel
theorem dX5_cutSheet_65 : decode cX5_cutSheet 65 = .ok (.invokevirtual 146, 3) := by decide +kernel
theorem dX5_cutSheet_68 : decode cX5_cutSheet 68 = .ok (.aload_n 0, 1) := by decide +kernel
theorem dX5_cutSheet_69 : decode cX5_cutSheet 69 = .ok (.getfield 10, 3) := by decide +kernel
theorem dX5_cutSheet_72 : decode cX5_cutSheet 72 = .ok (.getfield 122, 3) := by decide +kernel
theorem dX5_cutSheet_75 : decode cX5_cutSheet 75 = .ok (.ireturn, 1) := by decide +kernel
theorem dX5_cutPack_0 : decode cX5_cutPack 0 = .ok (.aload_n 0, 1) := by decide +kernel
theorem dX5_cutPack_1 : decode cX5_cutPack 1 = .ok (.getfield 10, 3) := by decide +kernel
theorem dX5_cutPack_4 : decode cX5_cutPack 4 = .ok (.getfield 129, 3) := by decide +kernel
theorem dX5_cutPack_7 : decode cX5_cutPack 7 = .ok (.astore_n 2, 1) := by decide +kernel
theorem dX5_cutPack_8 : decode cX5_cutPack 8 = .ok (.aload_n 2, 1) := by decide +kernel
theorem dX5_cutPack_9 : decode cX5_cutPack 9 = .ok (.invokevirtual 133, 3) := by decide +kernel
theorem dX5_cutPack_12 : decode cX5_cutPack 12 = .ok (.ifCond .ne 6, 3) := by decide +kernel
theorem dX5_cutPack_15 : decode cX5_cutPack 15 = .ok (.bipush (-4), 2) := by decide +kernel
theorem dX5_cutPack_17 : decode cX5_cutPack 17 = .ok (.ireturn, 1) := by decide +kernel
theorem dX5_cutPack_18 : decode cX5_cutPack 18 = .ok (.aload_n 2, 1) := by decide +kernel
theorem dX5_cutPack_19 : decode cX5_cutPack 19 = .ok (.iload_n 1, 1) := by decide +kernel
theorem dX5_cutPack_20 : decode cX5_cutPack 20 = .ok (.invokevirtual 150, 3) := by decide +kernel
theorem dX5_cutPack_23 : decode cX5_cutPack 23 = .ok (.ifCond .ne 6, 3) := by decide +kernel
theorem dX5_cutPack_26 : decode cX5_cutPack 26 = .ok (.bipush (-2), 2) := by decide +kernel
theorem dX5_cutPack_28 : decode cX5_cutPack 28 = .ok (.ireturn, 1) := by decide +kernel
theorem dX5_cutPack_29 : decode cX5_cutPack 29 = .ok (.aload_n 0, 1) := by decide +kernel
theorem dX5_cutPack_30 : decode cX5_cutPack 30 = .ok (.getfield 22, 3) := by decide +kernel
theorem dX5_cutPack_33 : decode cX5_cutPack 33 = .ok (.aload_n 0, 1) := by decide +kernel
theorem dX5_cutPack_34 : decode cX5_cutPack 34 = .ok (.getfield 10, 3) := by decide +kernel
theorem dX5_cutPack_37 : decode cX5_cutPack 37 = .ok (.invokevirtual 45, 3) := by decide +kernel
theorem dX5_cutPack_40 : decode cX5_cutPack 40 = .ok (.aload_n 2, 1) := by decide +kernel
theorem dX5_cutPack_41 : decode cX5_cutPack 41 = .ok (.iload_n 1, 1) := by decide +kernel
theorem dX5_cutPack_42 : decode cX5_cutPack 42 = .ok (.aload_n 0, 1) := by decide +kernel
theorem dX5_cutPack_43 : decode cX5_cutPack 43 = .ok (.getfield 33, 3) := by decide +kernel
theorem dX5_cutPack_46 : decode cX5_cutPack 46 = .ok (.invokevirtual 153, 3) := by decide +kernel
theorem dX5_cutPack_49 : decode cX5_cutPack 49 = .ok (.aload_n 2, 1) := by decide +kernel
theorem dX5_cutPack_50 : decode cX5_cutPack 50 = .ok (.iconst 0, 1) := by decide +kernel
theorem dX5_cutPack_51 : decode cX5_cutPack 51 = .ok (.invokevirtual 157, 3) := by decide +kernel
theorem dX5_cutPack_54 : decode cX5_cutPack 54 = .ok (.ireturn, 1) := by decide +kernel
theorem dX5_shuffle_0 : decode cX5_shuffle 0 = .ok (.aload_n 0, 1) := by decide +kernel
theorem dX5_shuffle_1 : decode cX5_shuffle 1 = .ok (.getfield 10, 3) := by decide +kernel
theorem dX5_shuffle_4 : decode cX5_shuffle 4 = .ok (.getfield 129, 3) := by decide +kernel
theorem dX5_shuffle_7 : decode cX5_shuffle 7 = .ok (.astore_n 2, 1) := by decide +kernel
theorem dX5_shuffle_8 : decode cX5_shuffle 8 = .ok (.aload_n 2, 1) := by decide +kernel
theorem dX5_shuffle_9 : decode cX5_shuffle 9 = .ok (.invokevirtual 133, 3) := by decide +kernel
theorem dX5_shuffle_12 : decode cX5_shuffle 12 = .ok (.ifCond .ne 6, 3) := by decide +kernel
theorem dX5_shuffle_15 : decode cX5_shuffle 15 = .ok (.bipush (-4), 2) := by decide +kernel
theorem dX5_shuffle_17 : decode cX5_shuffle 17 = .ok (.ireturn, 1) := by decide +kernel
theorem dX5_shuffle_18 : decode cX5_shuffle 18 = .ok (.aload_n 2, 1) := by decide +kernel
theorem dX5_shuffle_19 : decode cX5_shuffle 19 = .ok (.iload_n 1, 1) := by decide +kernel
theorem dX5_shuffle_20 : decode cX5_shuffle 20 = .ok (.invokevirtual 150, 3) := by decide +kernel
theorem dX5_shuffle_23 : decode cX5_shuffle 23 = .ok (.ifCond .ne 6, 3) := by decide +kernel
theorem dX5_shuffle_26 : decode cX5_shuffle 26 = .ok (.bipush (-2), 2) := by decide +kernel
theorem dX5_shuffle_28 : decode cX5_shuffle 28 = .ok (.ireturn, 1) := by decide +kernel
theorem dX5_shuffle_29 : decode cX5_shuffle 29 = .ok (.aload_n 0, 1) := by decide +kernel
theorem dX5_shuffle_30 : decode cX5_shuffle 30 = .ok (.getfield 22, 3) := by decide +kernel
theorem dX5_shuffle_33 : decode cX5_shuffle 33 = .ok (.aload_n 0, 1) := by decide +kernel
theorem dX5_shuffle_34 : decode cX5_shuffle 34 = .ok (.getfield 10, 3) := by decide +kernel
theorem dX5_shuffle_37 : decode cX5_shuffle 37 = .ok (.invokevirtual 45, 3) := by decide +kernel
theorem dX5_shuffle_40 : decode cX5_shuffle 40 = .ok (.aload_n 2, 1) := by decide +kernel
theorem dX5_shuffle_41 : decode cX5_shuffle 41 = .ok (.iload_n 1, 1) := by decide +kernel
theorem dX5_shuffle_42 : decode cX5_shuffle 42 = .ok (.aload_n 0, 1) := by decide +kernel
theorem dX5_shuffle_43 : decode cX5_shuffle 43 = .ok (.getfield 33, 3) := by decide +kernel
theorem dX5_shuffle_46 : decode cX5_shuffle 46 = .ok (.invokevirtual 161, 3) := by decide +kernel
theorem dX5_shuffle_49 : decode cX5_shuffle 49 = .ok (.ireturn, 1) := by decide +kernel
theorem dX5_deal_0 : decode cX5_deal 0 = .ok (.aload_n 0, 1) := by decide +kernel
theorem dX5_deal_1 : decode cX5_deal 1 = .ok (.getfield 10, 3) := by decide +kernel
theorem dX5_deal_4 : decode cX5_deal 4 = .ok (.getfield 129, 3) := by decide +kernel
theorem dX5_deal_7 : decode cX5_deal 7 = .ok (.astore_n 2, 1) := by decide +kernel
theorem dX5_deal_8 : decode cX5_deal 8 = .ok (.aload_n 2, 1) := by decide +kernel
theorem dX5_deal_9 : decode cX5_deal 9 = .ok (.invokevirtual 133, 3) := by decide +kernel
theorem dX5_deal_12 : decode cX5_deal 12 = .ok (.ifCond .ne 6, 3) := by decide +kernel
theorem dX5_deal_15 : decode cX5_deal 15 = .ok (.bipush (-4), 2) := by decide +kernel
theorem dX5_deal_17 : decode cX5_deal 17 = .ok (.ireturn, 1) := by decide +kernel
theorem dX5_deal_18 : decode cX5_deal 18 = .ok (.iload_n 1, 1) := by decide +kernel
theorem dX5_deal_19 : decode cX5_deal 19 = .ok (.iconst 1, 1) := by decide +kernel
theorem dX5_deal_20 : decode cX5_deal 20 = .ok (.if_icmp .lt 11, 3) := by decide +kernel
theorem dX5_deal_23 : decode cX5_deal 23 = .ok (.iload_n 1, 1) := by decide +kernel
theorem dX5_deal_24 : decode cX5_deal 24 = .ok (.aload_n 2, 1) := by decide +kernel
theorem dX5_deal_25 : decode cX5_deal 25 = .ok (.invokevirtual 165, 3) := by decide +kernel
theorem dX5_deal_28 : decode cX5_deal 28 = .ok (.if_icmp .le 6, 3) := by decide +kernel
theorem dX5_deal_31 : decode cX5_deal 31 = .ok (.bipush (-2), 2) := by decide +kernel
theorem dX5_deal_33 : decode cX5_deal 33 = .ok (.ireturn, 1) := by decide +kernel
theorem dX5_deal_34 : decode cX5_deal 34 = .ok (.aload_n 0, 1) := by decide +kernel
theorem dX5_deal_35 : decode cX5_deal 35 = .ok (.getfield 22, 3) := by decide +kernel
theorem dX5_deal_38 : decode cX5_deal 38 = .ok (.aload_n 0, 1) := by decide +kernel
theorem dX5_deal_39 : decode cX5_deal 39 = .ok (.getfield 10, 3) := by decide +kernel
theorem dX5_deal_42 : decode cX5_deal 42 = .ok (.invokevirtual 45, 3) := by decide +kernel
theorem dX5_deal_45 : decode cX5_deal 45 = .ok (.aload_n 2, 1) := by decide +kernel
theorem dX5_deal_46 : decode cX5_deal 46 = .ok (.dup, 1) := by decide +kernel
theorem dX5_deal_47 : decode cX5_deal 47 = .ok (.getfield 168, 3) := by decide +kernel
theorem dX5_deal_50 : decode cX5_deal 50 = .ok (.iload_n 1, 1) := by decide +kernel
theorem dX5_deal_51 : decode cX5_deal 51 = .ok (.iadd, 1) := by decide +kernel
theorem dX5_deal_52 : decode cX5_deal 52 = .ok (.putfield 168, 3) := by decide +kernel
theorem dX5_deal_55 : decode cX5_deal 55 = .ok (.aload_n 2, 1) := by decide +kernel
theorem dX5_deal_56 : decode cX5_deal 56 = .ok (.invokevirtual 165, 3) := by decide +kernel
theorem dX5_deal_59 : decode cX5_deal 59 = .ok (.ireturn, 1) := by decide +kernel
theorem dX5_sell_0 : decode cX5_sell 0 = .ok (.aload_n 0, 1) := by decide +kernel
theorem dX5_sell_1 : decode cX5_sell 1 = .ok (.getfield 10, 3) := by decide +kernel
theorem dX5_sell_4 : decode cX5_sell 4 = .ok (.getfield 129, 3) := by decide +kernel
theorem dX5_sell_7 : decode cX5_sell 7 = .ok (.invokevirtual 133, 3) := by decide +kernel
theorem dX5_sell_10 : decode cX5_sell 10 = .ok (.ifCond .ne 6, 3) := by decide +kernel
theorem dX5_sell_13 : decode cX5_sell 13 = .ok (.bipush (-4), 2) := by decide +kernel
theorem dX5_sell_15 : decode cX5_sell 15 = .ok (.ireturn, 1) := by decide +kernel
theorem dX5_sell_16 : decode cX5_sell 16 = .ok (.aload_n 0, 1) := by decide +kernel
theorem dX5_sell_17 : decode cX5_sell 17 = .ok (.getfield 10, 3) := by decide +kernel
theorem dX5_sell_20 : decode cX5_sell 20 = .ok (.invokevirtual 171, 3) := by decide +kernel
theorem dX5_sell_23 : decode cX5_sell 23 = .ok (.istore_n 1, 1) := by decide +kernel
theorem dX5_sell_24 : decode cX5_sell 24 = .ok (.iload_n 1, 1) := by decide +kernel
theorem dX5_sell_25 : decode cX5_sell 25 = .ok (.ifCond .eq 8, 3) := by decide +kernel
theorem dX5_sell_28 : decode cX5_sell 28 = .ok (.bipush (-10), 2) := by decide +kernel
theorem dX5_sell_30 : decode cX5_sell 30 = .ok (.iload_n 1, 1) := by decide +kernel
theorem dX5_sell_31 : decode cX5_sell 31 = .ok (.isub, 1) := by decide +kernel
theorem dX5_sell_32 : decode cX5_sell 32 = .ok (.ireturn, 1) := by decide +kernel
theorem dX5_sell_33 : decode cX5_sell 33 = .ok (.aload_n 0, 1) := by decide +kernel
theorem dX5_sell_34 : decode cX5_sell 34 = .ok (.getfield 22, 3) := by decide +kernel
theorem dX5_sell_37 : decode cX5_sell 37 = .ok (.aload_n 0, 1) := by decide +kernel
theorem dX5_sell_38 : decode cX5_sell 38 = .ok (.getfield 10, 3) := by decide +kernel
theorem dX5_sell_41 : decode cX5_sell 41 = .ok (.invokevirtual 45, 3) := by decide +kernel
theorem dX5_sell_44 : decode cX5_sell 44 = .ok (.aload_n 0, 1) := by decide +kernel
theorem dX5_sell_45 : decode cX5_sell 45 = .ok (.getfield 10, 3) := by decide +kernel
theorem dX5_sell_48 : decode cX5_sell 48 = .ok (.getfield 119, 3) := by decide +kernel
theorem dX5_sell_51 : decode cX5_sell 51 = .ok (.iconst 3, 1) := by decide +kernel
theorem dX5_sell_52 : decode cX5_sell 52 = .ok (.invokestatic 56, 3) := by decide +kernel
theorem dX5_sell_55 : decode cX5_sell 55 = .ok (.istore_n 2, 1) := by decide +kernel
theorem dX5_sell_56 : decode cX5_sell 56 = .ok (.aload_n 0, 1) := by decide +kernel
theorem dX5_sell_57 : decode cX5_sell 57 = .ok (.getfield 10, 3) := by decide +kernel
theorem dX5_sell_60 : decode cX5_sell 60 = .ok (.dup, 1) := by decide +kernel
theorem dX5_sell_61 : decode cX5_sell 61 = .ok (.getfield 174, 3) := by decide +kernel
theorem dX5_sell_64 : decode cX5_sell 64 = .ok (.iload_n 2, 1) := by decide +kernel
theorem dX5_sell_65 : decode cX5_sell 65 = .ok (.iadd, 1) := by decide +kernel
theorem dX5_sell_66 : decode cX5_sell 66 = .ok (.putfield 174, 3) := by decide +kernel
theorem dX5_sell_69 : decode cX5_sell 69 = .ok (.aload_n 0, 1) := by decide +kernel
theorem dX5_sell_70 : decode cX5_sell 70 = .ok (.getfield 10, 3) := by decide +kernel
theorem dX5_sell_73 : decode cX5_sell 73 = .ok (.dup, 1) := by decide +kernel
theorem dX5_sell_74 : decode cX5_sell 74 = .ok (.getfield 177, 3) := by decide +kernel
theorem dX5_sell_77 : decode cX5_sell 77 = .ok (.iconst 1, 1) := by decide +kernel
theorem dX5_sell_78 : decode cX5_sell 78 = .ok (.iadd, 1) := by decide +kernel
theorem dX5_sell_79 : decode cX5_sell 79 = .ok (.putfield 177, 3) := by decide +kernel
theorem dX5_sell_82 : decode cX5_sell 82 = .ok (.aload_n 0, 1) := by decide +kernel
theorem dX5_sell_83 : decode cX5_sell 83 = .ok (.getfield 10, 3) := by decide +kernel
theorem dX5_sell_86 : decode cX5_sell 86 = .ok (.getfield 129, 3) := by decide +kernel
theorem dX5_sell_89 : decode cX5_sell 89 = .ok (.invokevirtual 180, 3) := by decide +kernel
theorem dX5_sell_92 : decode cX5_sell 92 = .ok (.iload_n 2, 1) := by decide +kernel
theorem dX5_sell_93 : decode cX5_sell 93 = .ok (.ireturn, 1) := by decide +kernel
theorem dX5_pulp_0 : decode cX5_pulp 0 = .ok (.aload_n 0, 1) := by decide +kernel
theorem dX5_pulp_1 : decode cX5_pulp 1 = .ok (.getfield 10, 3) := by decide +kernel
theorem dX5_pulp_4 : decode cX5_pulp 4 = .ok (.getfield 129, 3) := by decide +kernel
theorem dX5_pulp_7 : decode cX5_pulp 7 = .ok (.invokevirtual 133, 3) := by decide +kernel
theorem dX5_pulp_10 : decode cX5_pulp 10 = .ok (.ifCond .ne 6, 3) := by decide +kernel
theorem dX5_pulp_13 : decode cX5_pulp 13 = .ok (.bipush (-4), 2) := by decide +kernel
theorem dX5_pulp_15 : decode cX5_pulp 15 = .ok (.ireturn, 1) := by decide +kernel
theorem dX5_pulp_16 : decode cX5_pulp 16 = .ok (.aload_n 0, 1) := by decide +kernel
theorem dX5_pulp_17 : decode cX5_pulp 17 = .ok (.getfield 22, 3) := by decide +kernel
theorem dX5_pulp_20 : decode cX5_pulp 20 = .ok (.aload_n 0, 1) := by decide +kernel
theorem dX5_pulp_21 : decode cX5_pulp 21 = .ok (.getfield 10, 3) := by decide +kernel
theorem dX5_pulp_24 : decode cX5_pulp 24 = .ok (.invokevirtual 45, 3) := by decide +kernel
theorem dX5_pulp_27 : decode cX5_pulp 27 = .ok (.aload_n 0, 1) := by decide +kernel
theorem dX5_pulp_28 : decode cX5_pulp 28 = .ok (.getfield 10, 3) := by decide +kernel
theorem dX5_pulp_31 : decode cX5_pulp 31 = .ok (.getfield 129, 3) := by decide +kernel
theorem dX5_pulp_34 : decode cX5_pulp 34 = .ok (.invokevirtual 165, 3) := by decide +kernel
theorem dX5_pulp_37 : decode cX5_pulp 37 = .ok (.istore_n 1, 1) := by decide +kernel
theorem dX5_pulp_38 : decode cX5_pulp 38 = .ok (.aload_n 0, 1) := by decide +kernel
theorem dX5_pulp_39 : decode cX5_pulp 39 = .ok (.getfield 10, 3) := by decide +kernel
theorem dX5_pulp_42 : decode cX5_pulp 42 = .ok (.dup, 1) := by decide +kernel
theorem dX5_pulp_43 : decode cX5_pulp 43 = .ok (.getfield 183, 3) := by decide +kernel
theorem dX5_pulp_46 : decode cX5_pulp 46 = .ok (.iconst 1, 1) := by decide +kernel
theorem dX5_pulp_47 : decode cX5_pulp 47 = .ok (.iadd, 1) := by decide +kernel
theorem dX5_pulp_48 : decode cX5_pulp 48 = .ok (.putfield 183, 3) := by decide +kernel
theorem dX5_pulp_51 : decode cX5_pulp 51 = .ok (.aload_n 0, 1) := by decide +kernel
theorem dX5_pulp_52 : decode cX5_pulp 52 = .ok (.getfield 10, 3) := by decide +kernel
theorem dX5_pulp_55 : decode cX5_pulp 55 = .ok (.getfield 129, 3) := by decide +kernel
theorem dX5_pulp_58 : decode cX5_pulp 58 = .ok (.invokevirtual 180, 3) := by decide +kernel
theorem dX5_pulp_61 : decode cX5_pulp 61 = .ok (.iload_n 1, 1) := by decide +kernel
theorem dX5_pulp_62 : decode cX5_pulp 62 = .ok (.ireturn, 1) := by decide +kernel
theorem dX5_undo_0 : decode cX5_undo 0 = .ok (.aload_n 0, 1) := by decide +kernel
theorem dX5_undo_1 : decode cX5_undo 1 = .ok (.getfield 22, 3) := by decide +kernel
theorem dX5_undo_4 : decode cX5_undo 4 = .ok (.getfield 193, 3) := by decide +kernel
theorem dX5_undo_7 : decode cX5_undo 7 = .ok (.ifCond .ne 6, 3) := by decide +kernel
theorem dX5_undo_10 : decode cX5_undo 10 = .ok (.bipush (-5), 2) := by decide +kernel
theorem dX5_undo_12 : decode cX5_undo 12 = .ok (.ireturn, 1) := by decide +kernel
theorem dX5_undo_13 : decode cX5_undo 13 = .ok (.aload_n 0, 1) := by decide +kernel
theorem dX5_undo_14 : decode cX5_undo 14 = .ok (.getfield 22, 3) := by decide +kernel
theorem dX5_undo_17 : decode cX5_undo 17 = .ok (.aload_n 0, 1) := by decide +kernel
theorem dX5_undo_18 : decode cX5_undo 18 = .ok (.getfield 10, 3) := by decide +kernel
theorem dX5_undo_21 : decode cX5_undo 21 = .ok (.invokevirtual 196, 3) := by decide +kernel
theorem dX5_undo_24 : decode cX5_undo 24 = .ok (.aload_n 0, 1) := by decide +kernel
theorem dX5_undo_25 : decode cX5_undo 25 = .ok (.getfield 22, 3) := by decide +kernel
theorem dX5_undo_28 : decode cX5_undo 28 = .ok (.getfield 193, 3) := by decide +kernel
theorem dX5_undo_31 : decode cX5_undo 31 = .ok (.ireturn, 1) := by decide +kernel
theorem dX5_block_0 : decode cX5_block 0 = .ok (.iload_n 1, 1) := by decide +kernel
theorem dX5_block_1 : decode cX5_block 1 = .ok (.invokestatic 41, 3) := by decide +kernel
theorem dX5_block_4 : decode cX5_block 4 = .ok (.ifCond .ne 5, 3) := by decide +kernel
theorem dX5_block_7 : decode cX5_block 7 = .ok (.iconst (-1), 1) := by decide +kernel
theorem dX5_block_8 : decode cX5_block 8 = .ok (.ireturn, 1) := by decide +kernel
theorem dX5_block_9 : decode cX5_block 9 = .ok (.iload_n 2, 1) := by decide +kernel
theorem dX5_block_10 : decode cX5_block 10 = .ok (.lookupswitch 50 #[(0, 26), (1, 38)], 26) := by decide +kernel
theorem dX5_block_36 : decode cX5_block 36 = .ok (.aload_n 0, 1) := by decide +kernel
theorem dX5_block_37 : decode cX5_block 37 = .ok (.getfield 10, 3) := by decide +kernel
theorem dX5_block_40 : decode cX5_block 40 = .ok (.getfield 53, 3) := by decide +kernel
theorem dX5_block_43 : decode cX5_block 43 = .ok (.iload_n 1, 1) := by decide +kernel
theorem dX5_block_44 : decode cX5_block 44 = .ok (.invokestatic 56, 3) := by decide +kernel
theorem dX5_block_47 : decode cX5_block 47 = .ok (.ireturn, 1) := by decide +kernel
theorem dX5_block_48 : decode cX5_block 48 = .ok (.aload_n 0, 1) := by decide +kernel
theorem dX5_block_49 : decode cX5_block 49 = .ok (.getfield 10, 3) := by decide +kernel
theorem dX5_block_52 : decode cX5_block 52 = .ok (.getfield 71, 3) := by decide +kernel
theorem dX5_block_55 : decode cX5_block 55 = .ok (.iload_n 1, 1) := by decide +kernel
theorem dX5_block_56 : decode cX5_block 56 = .ok (.invokestatic 56, 3) := by decide +kernel
theorem dX5_block_59 : decode cX5_block 59 = .ok (.ireturn, 1) := by decide +kernel
theorem dX5_block_60 : decode cX5_block 60 = .ok (.bipush (-2), 2) := by decide +kernel
theorem dX5_block_62 : decode cX5_block 62 = .ok (.ireturn, 1) := by decide +kernel
theorem dX5_cardOf_0 : decode cX5_cardOf 0 = .ok (.iload_n 1, 1) := by decide +kernel
theorem dX5_cardOf_1 : decode cX5_cardOf 1 = .ok (.invokestatic 74, 3) := by decide +kernel
theorem dX5_cardOf_4 : decode cX5_cardOf 4 = .ok (.ifCond .ne 5, 3) := by decide +kernel
theorem dX5_cardOf_7 : decode cX5_cardOf 7 = .ok (.iconst (-1), 1) := by decide +kernel
theorem dX5_cardOf_8 : decode cX5_cardOf 8 = .ok (.ireturn, 1) := by decide +kernel
theorem dX5_cardOf_9 : decode cX5_cardOf 9 = .ok (.iload_n 2, 1) := by decide +kernel
theorem dX5_cardOf_10 : decode cX5_cardOf 10 = .ok (.tableswitch 78 0 3 #[30, 39, 54, 66], 30) := by decide +kernel
theorem dX5_cardOf_40 : decode cX5_cardOf 40 = .ok (.aload_n 0, 1) := by decide +kernel
theorem dX5_cardOf_41 : decode cX5_cardOf 41 = .ok (.getfield 10, 3) := by decide +kernel
theorem dX5_cardOf_44 : decode cX5_cardOf 44 = .ok (.iload_n 1, 1) := by decide +kernel
theorem dX5_cardOf_45 : decode cX5_cardOf 45 = .ok (.invokevirtual 205, 3) := by decide +kernel
theorem dX5_cardOf_48 : decode cX5_cardOf 48 = .ok (.ireturn, 1) := by decide +kernel
theorem dX5_cardOf_49 : decode cX5_cardOf 49 = .ok (.aload_n 0, 1) := by decide +kernel
theorem dX5_cardOf_50 : decode cX5_cardOf 50 = .ok (.getfield 10, 3) := by decide +kernel
theorem dX5_cardOf_53 : decode cX5_cardOf 53 = .ok (.getfield 80, 3) := by decide +kernel
theorem dX5_cardOf_56 : decode cX5_cardOf 56 = .ok (.iload_n 1, 1) := by decide +kernel
theorem dX5_cardOf_57 : decode cX5_cardOf 57 = .ok (.invokestatic 56, 3) := by decide +kernel
theorem dX5_cardOf_60 : decode cX5_cardOf 60 = .ok (.bipush 100, 2) := by decide +kernel
theorem dX5_cardOf_62 : decode cX5_cardOf 62 = .ok (.iadd, 1) := by decide +kernel
theorem dX5_cardOf_63 : decode cX5_cardOf 63 = .ok (.ireturn, 1) := by decide +kernel
theorem dX5_cardOf_64 : decode cX5_cardOf 64 = .ok (.aload_n 0, 1) := by decide +kernel
theorem dX5_cardOf_65 : decode cX5_cardOf 65 = .ok (.getfield 10, 3) := by decide +kernel
theorem dX5_cardOf_68 : decode cX5_cardOf 68 = .ok (.getfield 129, 3) := by decide +kernel
theorem dX5_cardOf_71 : decode cX5_cardOf 71 = .ok (.iload_n 1, 1) := by decide +kernel
theorem dX5_cardOf_72 : decode cX5_cardOf 72 = .ok (.invokevirtual 208, 3) := by decide +kernel
theorem dX5_cardOf_75 : decode cX5_cardOf 75 = .ok (.ireturn, 1) := by decide +kernel
theorem dX5_cardOf_76 : decode cX5_cardOf 76 = .ok (.aload_n 0, 1) := by decide +kernel
theorem dX5_cardOf_77 : decode cX5_cardOf 77 = .ok (.getfield 10, 3) := by decide +kernel
theorem dX5_cardOf_80 : decode cX5_cardOf 80 = .ok (.getfield 129, 3) := by decide +kernel
theorem dX5_cardOf_83 : decode cX5_cardOf 83 = .ok (.iload_n 1, 1) := by decide +kernel
theorem dX5_cardOf_84 : decode cX5_cardOf 84 = .ok (.invokevirtual 211, 3) := by decide +kernel
theorem dX5_cardOf_87 : decode cX5_cardOf 87 = .ok (.ireturn, 1) := by decide +kernel
theorem dX5_cardOf_88 : decode cX5_cardOf 88 = .ok (.bipush (-2), 2) := by decide +kernel
theorem dX5_cardOf_90 : decode cX5_cardOf 90 = .ok (.ireturn, 1) := by decide +kernel
theorem dX5_sheet_0 : decode cX5_sheet 0 = .ok (.aload_n 0, 1) := by decide +kernel
theorem dX5_sheet_1 : decode cX5_sheet 1 = .ok (.getfield 10, 3) := by decide +kernel
theorem dX5_sheet_4 : decode cX5_sheet 4 = .ok (.iload_n 1, 1) := by decide +kernel
theorem dX5_sheet_5 : decode cX5_sheet 5 = .ok (.invokevirtual 138, 3) := by decide +kernel
theorem dX5_sheet_8 : decode cX5_sheet 8 = .ok (.astore 4, 2) := by decide +kernel
theorem dX5_sheet_10 : decode cX5_sheet 10 = .ok (.aload 4, 2) := by decide +kernel
theorem dX5_sheet_12 : decode cX5_sheet 12 = .ok (.ifnull 10, 3) := by decide +kernel
theorem dX5_sheet_15 : decode cX5_sheet 15 = .ok (.iload_n 2, 1) := by decide +kernel
theorem dX5_sheet_16 : decode cX5_sheet 16 = .ok (.invokestatic 41, 3) := by decide +kernel
theorem dX5_sheet_19 : decode cX5_sheet 19 = .ok (.ifCond .ne 5, 3) := by decide +kernel
theorem dX5_sheet_22 : decode cX5_sheet 22 = .ok (.iconst (-1), 1) := by decide +kernel
theorem dX5_sheet_23 : decode cX5_sheet 23 = .ok (.ireturn, 1) := by decide +kernel
theorem dX5_sheet_24 : decode cX5_sheet 24 = .ok (.aload 4, 2) := by decide +kernel
theorem dX5_sheet_26 : decode cX5_sheet 26 = .ok (.getfield 214, 3) := by decide +kernel
theorem dX5_sheet_29 : decode cX5_sheet 29 = .ok (.iload_n 2, 1) := by decide +kernel
theorem dX5_sheet_30 : decode cX5_sheet 30 = .ok (.invokestatic 56, 3) := by decide +kernel
theorem dX5_sheet_33 : decode cX5_sheet 33 = .ok (.istore 5, 2) := by decide +kernel
theorem dX5_sheet_35 : decode cX5_sheet 35 = .ok (.iload_n 3, 1) := by decide +kernel
theorem dX5_sheet_36 : decode cX5_sheet 36 = .ok (.lookupswitch 42 #[(0, 28), (1, 31)], 28) := by decide +kernel
theorem dX5_sheet_64 : decode cX5_sheet 64 = .ok (.iload 5, 2) := by decide +kernel
theorem dX5_sheet_66 : decode cX5_sheet 66 = .ok (.ireturn, 1) := by decide +kernel
theorem dX5_sheet_67 : decode cX5_sheet 67 = .ok (.aload 4, 2) := by decide +kernel
theorem dX5_sheet_69 : decode cX5_sheet 69 = .ok (.getfield 217, 3) := by decide +kernel
theorem dX5_sheet_72 : decode cX5_sheet 72 = .ok (.iload 5, 2) := by decide +kernel
theorem dX5_sheet_74 : decode cX5_sheet 74 = .ok (.invokestatic 56, 3) := by decide +kernel
theorem dX5_sheet_77 : decode cX5_sheet 77 = .ok (.ireturn, 1) := by decide +kernel
theorem dX5_sheet_78 : decode cX5_sheet 78 = .ok (.bipush (-2), 2) := by decide +kernel
theorem dX5_sheet_80 : decode cX5_sheet 80 = .ok (.ireturn, 1) := by decide +kernel
theorem dX5_pack_0 : decode cX5_pack 0 = .ok (.aload_n 0, 1) := by decide +kernel
theorem dX5_pack_1 : decode cX5_pack 1 = .ok (.getfield 10, 3) := by decide +kernel
theorem dX5_pack_4 : decode cX5_pack 4 = .ok (.getfield 129, 3) := by decide +kernel
theorem dX5_pack_7 : decode cX5_pack 7 = .ok (.astore_n 3, 1) := by decide +kernel
theorem dX5_pack_8 : decode cX5_pack 8 = .ok (.iload_n 1, 1) := by decide +kernel
theorem dX5_pack_9 : decode cX5_pack 9 = .ok (.ifCond .lt 11, 3) := by decide +kernel
theorem dX5_pack_12 : decode cX5_pack 12 = .ok (.iload_n 1, 1) := by decide +kernel
theorem dX5_pack_13 : decode cX5_pack 13 = .ok (.aload_n 3, 1) := by decide +kernel
theorem dX5_pack_14 : decode cX5_pack 14 = .ok (.invokevirtual 165, 3) := by decide +kernel
theorem dX5_pack_17 : decode cX5_pack 17 = .ok (.if_icmp .lt 5, 3) := by decide +kernel
theorem dX5_pack_20 : decode cX5_pack 20 = .ok (.iconst (-1), 1) := by decide +kernel
theorem dX5_pack_21 : decode cX5_pack 21 = .ok (.ireturn, 1) := by decide +kernel
theorem dX5_pack_22 : decode cX5_pack 22 = .ok (.iload_n 2, 1) := by decide +kernel
theorem dX5_pack_23 : decode cX5_pack 23 = .ok (.tableswitch 72 0 4 #[33, 39, 45, 51, 57], 33) := by decide +kernel
theorem dX5_pack_56 : decode cX5_pack 56 = .ok (.aload_n 3, 1) := by decide +kernel
theorem dX5_pack_57 : decode cX5_pack 57 = .ok (.iload_n 1, 1) := by decide +kernel
theorem dX5_pack_58 : decode cX5_pack 58 = .ok (.invokevirtual 157, 3) := by decide +kernel
theorem dX5_pack_61 : decode cX5_pack 61 = .ok (.ireturn, 1) := by decide +kernel
theorem dX5_pack_62 : decode cX5_pack 62 = .ok (.aload_n 3, 1) := by decide +kernel
theorem dX5_pack_63 : decode cX5_pack 63 = .ok (.iload_n 1, 1) := by decide +kernel
theorem dX5_pack_64 : decode cX5_pack 64 = .ok (.invokevirtual 220, 3) := by decide +kernel
theorem dX5_pack_67 : decode cX5_pack 67 = .ok (.ireturn, 1) := by decide +kernel
theorem dX5_pack_68 : decode cX5_pack 68 = .ok (.aload_n 3, 1) := by decide +kernel
theorem dX5_pack_69 : decode cX5_pack 69 = .ok (.iload_n 1, 1) := by decide +kernel
theorem dX5_pack_70 : decode cX5_pack 70 = .ok (.invokevirtual 223, 3) := by decide +kernel
theorem dX5_pack_73 : decode cX5_pack 73 = .ok (.ireturn, 1) := by decide +kernel
theorem dX5_pack_74 : decode cX5_pack 74 = .ok (.aload_n 3, 1) := by decide +kernel
theorem dX5_pack_75 : decode cX5_pack 75 = .ok (.iload_n 1, 1) := by decide +kernel
theorem dX5_pack_76 : decode cX5_pack 76 = .ok (.invokevirtual 226, 3) := by decide +kernel
theorem dX5_pack_79 : decode cX5_pack 79 = .ok (.ireturn, 1) := by decide +kernel
theorem dX5_pack_80 : decode cX5_pack 80 = .ok (.aload_n 3, 1) := by decide +kernel
theorem dX5_pack_81 : decode cX5_pack 81 = .ok (.iload_n 1, 1) := by decide +kernel
theorem dX5_pack_82 : decode cX5_pack 82 = .ok (.invokevirtual 223, 3) := by decide +kernel
theorem dX5_pack_85 : decode cX5_pack 85 = .ok (.iconst 1, 1) := by decide +kernel
theorem dX5_pack_86 : decode cX5_pack 86 = .ok (.if_icmp .ne 7, 3) := by decide +kernel
theorem dX5_pack_89 : decode cX5_pack 89 = .ok (.iconst 1, 1) := by decide +kernel
theorem dX5_pack_90 : decode cX5_pack 90 = .ok (.goto 4, 3) := by decide +kernel
theorem dX5_pack_93 : decode cX5_pack 93 = .ok (.iconst 0, 1) := by decide +kernel
theorem dX5_pack_94 : decode cX5_pack 94 = .ok (.ireturn, 1) := by decide +kernel
theorem dX5_pack_95 : decode cX5_pack 95 = .ok (.bipush (-2), 2) := by decide +kernel
theorem dX5_pack_97 : decode cX5_pack 97 = .ok (.ireturn, 1) := by decide +kernel
theorem dX5_count_0 : decode cX5_count 0 = .ok (.iload_n 1, 1) := by decide +kernel
theorem dX5_count_1 : decode cX5_count 1 = .ok (.tableswitch 284 0 17 #[87, 95, 103, 122, 133, 144, 155, 166, 174, 182, 190, 198, 220, 228, 236, 248, 260, 272], 87) := by decide +kernel
theorem dX5_count_88 : decode cX5_count 88 = .ok (.aload_n 0, 1) := by decide +kernel
theorem dX5_count_89 : decode cX5_count 89 = .ok (.getfield 10, 3) := by decide +kernel
theorem dX5_count_92 : decode cX5_count 92 = .ok (.getfield 122, 3) := by decide +kernel
theorem dX5_count_95 : decode cX5_count 95 = .ok (.ireturn, 1) := by decide +kernel
theorem dX5_count_96 : decode cX5_count 96 = .ok (.aload_n 0, 1) := by decide +kernel
theorem dX5_count_97 : decode cX5_count 97 = .ok (.getfield 10, 3) := by decide +kernel
theorem dX5_count_100 : decode cX5_count 100 = .ok (.getfield 202, 3) := by decide +kernel
theorem dX5_count_103 : decode cX5_count 103 = .ok (.ireturn, 1) := by decide +kernel
theorem dX5_count_104 : decode cX5_count 104 = .ok (.aload_n 0, 1) := by decide +kernel
theorem dX5_count_105 : decode cX5_count 105 = .ok (.getfield 10, 3) := by decide +kernel
theorem dX5_count_108 : decode cX5_count 108 = .ok (.getfield 129, 3) := by decide +kernel
theorem dX5_count_111 : decode cX5_count 111 = .ok (.invokevirtual 133, 3) := by decide +kernel
theorem dX5_count_114 : decode cX5_count 114 = .ok (.ifCond .eq 7, 3) := by decide +kernel
theorem dX5_count_117 : decode cX5_count 117 = .ok (.iconst 1, 1) := by decide +kernel
theorem dX5_count_118 : decode cX5_count 118 = .ok (.goto 4, 3) := by decide +kernel
theorem dX5_count_121 : decode cX5_count 121 = .ok (.iconst 0, 1) := by decide +kernel
theorem dX5_count_122 : decode cX5_count 122 = .ok (.ireturn, 1) := by decide +kernel
theorem dX5_count_123 : decode cX5_count 123 = .ok (.aload_n 0, 1) := by decide +kernel
theorem dX5_count_124 : decode cX5_count 124 = .ok (.getfield 10, 3) := by decide +kernel
theorem dX5_count_127 : decode cX5_count 127 = .ok (.getfield 129, 3) := by decide +kernel
theorem dX5_count_130 : decode cX5_count 130 = .ok (.invokevirtual 165, 3) := by decide +kernel
theorem dX5_count_133 : decode cX5_count 133 = .ok (.ireturn, 1) := by decide +kernel
theorem dX5_count_134 : decode cX5_count 134 = .ok (.aload_n 0, 1) := by decide +kernel
theorem dX5_count_135 : decode cX5_count 135 = .ok (.getfield 10, 3) := by decide +kernel
theorem dX5_count_138 : decode cX5_count 138 = .ok (.getfield 129, 3) := by decide +kernel
theorem dX5_count_141 : decode cX5_count 141 = .ok (.getfield 168, 3) := by decide +kernel
theorem dX5_count_144 : decode cX5_count 144 = .ok (.ireturn, 1) := by decide +kernel
theorem dX5_count_145 : decode cX5_count 145 = .ok (.aload_n 0, 1) := by decide +kernel
theorem dX5_count_146 : decode cX5_count 146 = .ok (.getfield 10, 3) := by decide +kernel
theorem dX5_count_149 : decode cX5_count 149 = .ok (.getfield 129, 3) := by decide +kernel
theorem dX5_count_152 : decode cX5_count 152 = .ok (.invokevirtual 229, 3) := by decide +kernel
theorem dX5_count_155 : decode cX5_count 155 = .ok (.ireturn, 1) := by decide +kernel
theorem dX5_count_156 : decode cX5_count 156 = .ok (.aload_n 0, 1) := by decide +kernel
theorem dX5_count_157 : decode cX5_count 157 = .ok (.getfield 10, 3) := by decide +kernel
theorem dX5_count_160 : decode cX5_count 160 = .ok (.getfield 129, 3) := by decide +kernel
theorem dX5_count_163 : decode cX5_count 163 = .ok (.invokevirtual 232, 3) := by decide +kernel
theorem dX5_count_166 : decode cX5_count 166 = .ok (.ireturn, 1) := by decide +kernel
theorem dX5_count_167 : decode cX5_count 167 = .ok (.aload_n 0, 1) := by decide +kernel
theorem dX5_count_168 : decode cX5_count 168 = .ok (.getfield 10, 3) := by decide +kernel
theorem dX5_count_171 : decode cX5_count 171 = .ok (.getfield 177, 3) := by decide +kernel
theorem dX5_count_174 : decode cX5_count 174 = .ok (.ireturn, 1) := by decide +kernel
theorem dX5_count_175 : decode cX5_count 175 = .ok (.aload_n 0, 1) := by decide +kernel
theorem dX5_count_176 : decode cX5_count 176 = .ok (.getfield 10, 3) := by decide +kernel
theorem dX5_count_179 : decode cX5_count 179 = .ok (.getfield 183, 3) := by decide +kernel
theorem dX5_count_182 : decode cX5_count 182 = .ok (.ireturn, 1) := by decide +kernel
theorem dX5_count_183 : decode cX5_count 183 = .ok (.aload_n 0, 1) := by decide +kernel
theorem dX5_count_184 : decode cX5_count 184 = .ok (.getfield 10, 3) := by decide +kernel
theorem dX5_count_187 : decode cX5_count 187 = .ok (.getfield 174, 3) := by decide +kernel
theorem dX5_count_190 : decode cX5_count 190 = .ok (.ireturn, 1) := by decide +kernel
theorem dX5_count_191 : decode cX5_count 191 = .ok (.aload_n 0, 1) := by decide +kernel
theorem dX5_count_192 : decode cX5_count 192 = .ok (.getfield 10, 3) := by decide +kernel
theorem dX5_count_195 : decode cX5_count 195 = .ok (.invokevirtual 235, 3) := by decide +kernel
theorem dX5_count_198 : decode cX5_count 198 = .ok (.ireturn, 1) := by decide +kernel
theorem dX5_count_199 : decode cX5_count 199 = .ok (.aload_n 0, 1) := by decide +kernel
theorem dX5_count_200 : decode cX5_count 200 = .ok (.getfield 10, 3) := by decide +kernel
theorem dX5_count_203 : decode cX5_count 203 = .ok (.getfield 80, 3) := by decide +kernel
theorem dX5_count_206 : decode cX5_count 206 = .ok (.aload_n 0, 1) := by decide +kernel
theorem dX5_count_207 : decode cX5_count 207 = .ok (.getfield 10, 3) := by decide +kernel
theorem dX5_count_210 : decode cX5_count 210 = .ok (.getfield 119, 3) := by decide +kernel
theorem dX5_count_213 : decode cX5_count 213 = .ok (.iconst 1, 1) := by decide +kernel
theorem dX5_count_214 : decode cX5_count 214 = .ok (.invokestatic 56, 3) := by decide +kernel
theorem dX5_count_217 : decode cX5_count 217 = .ok (.invokestatic 238, 3) := by decide +kernel
theorem dX5_count_220 : decode cX5_count 220 = .ok (.ireturn, 1) := by decide +kernel
theorem dX5_count_221 : decode cX5_count 221 = .ok (.aload_n 0, 1) := by decide +kernel
theorem dX5_count_222 : decode cX5_count 222 = .ok (.getfield 22, 3) := by decide +kernel
theorem dX5_count_225 : decode cX5_count 225 = .ok (.getfield 193, 3) := by decide +kernel
theorem dX5_count_228 : decode cX5_count 228 = .ok (.ireturn, 1) := by decide +kernel
theorem dX5_count_229 : decode cX5_count 229 = .ok (.aload_n 0, 1) := by decide +kernel
theorem dX5_count_230 : decode cX5_count 230 = .ok (.getfield 29, 3) := by decide +kernel
theorem dX5_count_233 : decode cX5_count 233 = .ok (.getfield 186, 3) := by decide +kernel
theorem dX5_count_236 : decode cX5_count 236 = .ok (.ireturn, 1) := by decide +kernel
theorem dX5_count_237 : decode cX5_count 237 = .ok (.aload_n 0, 1) := by decide +kernel
theorem dX5_count_238 : decode cX5_count 238 = .ok (.getfield 10, 3) := by decide +kernel
theorem dX5_count_241 : decode cX5_count 241 = .ok (.getfield 119, 3) := by decide +kernel
theorem dX5_count_244 : decode cX5_count 244 = .ok (.iconst 0, 1) := by decide +kernel
theorem dX5_count_245 : decode cX5_count 245 = .ok (.invokestatic 56, 3) := by decide +kernel
theorem dX5_count_248 : decode cX5_count 248 = .ok (.ireturn, 1) := by decide +kernel
theorem dX5_count_249 : decode cX5_count 249 = .ok (.aload_n 0, 1) := by decide +kernel
theorem dX5_count_250 : decode cX5_count 250 = .ok (.getfield 10, 3) := by decide +kernel
theorem dX5_count_253 : decode cX5_count 253 = .ok (.getfield 119, 3) := by decide +kernel
theorem dX5_count_256 : decode cX5_count 256 = .ok (.iconst 1, 1) := by decide +kernel
theorem dX5_count_257 : decode cX5_count 257 = .ok (.invokestatic 56, 3) := by decide +kernel
theorem dX5_count_260 : decode cX5_count 260 = .ok (.ireturn, 1) := by decide +kernel
theorem dX5_count_261 : decode cX5_count 261 = .ok (.aload_n 0, 1) := by decide +kernel
theorem dX5_count_262 : decode cX5_count 262 = .ok (.getfield 10, 3) := by decide +kernel
theorem dX5_count_265 : decode cX5_count 265 = .ok (.getfield 119, 3) := by decide +kernel
theorem dX5_count_268 : decode cX5_count 268 = .ok (.iconst 2, 1) := by decide +kernel
theorem dX5_count_269 : decode cX5_count 269 = .ok (.invokestatic 56, 3) := by decide +kernel
theorem dX5_count_272 : decode cX5_count 272 = .ok (.ireturn, 1) := by decide +kernel
theorem dX5_count_273 : decode cX5_count 273 = .ok (.aload_n 0, 1) := by decide +kernel
theorem dX5_count_274 : decode cX5_count 274 = .ok (.getfield 10, 3) := by decide +kernel
theorem dX5_count_277 : decode cX5_count 277 = .ok (.getfield 119, 3) := by decide +kernel
theorem dX5_count_280 : decode cX5_count 280 = .ok (.iconst 3, 1) := by decide +kernel
theorem dX5_count_281 : decode cX5_count 281 = .ok (.invokestatic 56, 3) := by decide +kernel
theorem dX5_count_284 : decode cX5_count 284 = .ok (.ireturn, 1) := by decide +kernel
theorem dX5_count_285 : decode cX5_count 285 = .ok (.bipush (-2), 2) := by decide +kernel
theorem dX5_count_287 : decode cX5_count 287 = .ok (.ireturn, 1) := by decide +kernel
theorem dX5_why_0 : decode cX5_why 0 = .ok (.aload_n 0, 1) := by decide +kernel
theorem dX5_why_1 : decode cX5_why 1 = .ok (.getfield 10, 3) := by decide +kernel
theorem dX5_why_4 : decode cX5_why 4 = .ok (.getfield 129, 3) := by decide +kernel
theorem dX5_why_7 : decode cX5_why 7 = .ok (.invokevirtual 133, 3) := by decide +kernel
theorem dX5_why_10 : decode cX5_why 10 = .ok (.ifCond .eq 13, 3) := by decide +kernel
theorem dX5_why_13 : decode cX5_why 13 = .ok (.aload_n 0, 1) := by decide +kernel
theorem dX5_why_14 : decode cX5_why 14 = .ok (.getfield 10, 3) := by decide +kernel
theorem dX5_why_17 : decode cX5_why 17 = .ok (.invokevirtual 171, 3) := by decide +kernel
theorem dX5_why_20 : decode cX5_why 20 = .ok (.goto 5, 3) := by decide +kernel
theorem dX5_why_23 : decode cX5_why 23 = .ok (.bipush (-4), 2) := by decide +kernel
theorem dX5_why_25 : decode cX5_why 25 = .ok (.ireturn, 1) := by decide +kernel
theorem dX5_chances_0 : decode cX5_chances 0 = .ok (.aload_n 0, 1) := by decide +kernel
theorem dX5_chances_1 : decode cX5_chances 1 = .ok (.getfield 10, 3) := by decide +kernel
theorem dX5_chances_4 : decode cX5_chances 4 = .ok (.getfield 129, 3) := by decide +kernel
theorem dX5_chances_7 : decode cX5_chances 7 = .ok (.invokevirtual 133, 3) := by decide +kernel
theorem dX5_chances_10 : decode cX5_chances 10 = .ok (.ifCond .eq 16, 3) := by decide +kernel
theorem dX5_chances_13 : decode cX5_chances 13 = .ok (.aload_n 0, 1) := by decide +kernel
theorem dX5_chances_14 : decode cX5_chances 14 = .ok (.getfield 10, 3) := by decide +kernel
theorem dX5_chances_17 : decode cX5_chances 17 = .ok (.getfield 129, 3) := by decide +kernel
theorem dX5_chances_20 : decode cX5_chances 20 = .ok (.invokevirtual 241, 3) := by decide +kernel
theorem dX5_chances_23 : decode cX5_chances 23 = .ok (.goto 5, 3) := by decide +kernel
theorem dX5_chances_26 : decode cX5_chances 26 = .ok (.ldc 245, 2) := by decide +kernel
theorem dX5_chances_28 : decode cX5_chances 28 = .ok (.freturn, 1) := by decide +kernel
theorem dX5_ifPrinted_0 : decode cX5_ifPrinted 0 = .ok (.aload_n 0, 1) := by decide +kernel
theorem dX5_ifPrinted_1 : decode cX5_ifPrinted 1 = .ok (.getfield 10, 3) := by decide +kernel
theorem dX5_ifPrinted_4 : decode cX5_ifPrinted 4 = .ok (.iload_n 1, 1) := by decide +kernel
theorem dX5_ifPrinted_5 : decode cX5_ifPrinted 5 = .ok (.iconst (-1), 1) := by decide +kernel
theorem dX5_ifPrinted_6 : decode cX5_ifPrinted 6 = .ok (.invokevirtual 246, 3) := by decide +kernel
theorem dX5_ifPrinted_9 : decode cX5_ifPrinted 9 = .ok (.ireturn, 1) := by decide +kernel
theorem dX5_bestWay_0 : decode cX5_bestWay 0 = .ok (.aload_n 0, 1) := by decide +kernel
theorem dX5_bestWay_1 : decode cX5_bestWay 1 = .ok (.getfield 10, 3) := by decide +kernel
theorem dX5_bestWay_4 : decode cX5_bestWay 4 = .ok (.iconst 0, 1) := by decide +kernel
theorem dX5_bestWay_5 : decode cX5_bestWay 5 = .ok (.invokevirtual 138, 3) := by decide +kernel
theorem dX5_bestWay_8 : decode cX5_bestWay 8 = .ok (.astore_n 1, 1) := by decide +kernel
theorem dX5_bestWay_9 : decode cX5_bestWay 9 = .ok (.aload_n 1, 1) := by decide +kernel
theorem dX5_bestWay_10 : decode cX5_bestWay 10 = .ok (.ifnonnull 6, 3) := by decide +kernel
theorem dX5_bestWay_13 : decode cX5_bestWay 13 = .ok (.bipush (-4), 2) := by decide +kernel
theorem dX5_bestWay_15 : decode cX5_bestWay 15 = .ok (.ireturn, 1) := by decide +kernel
theorem dX5_bestWay_16 : decode cX5_bestWay 16 = .ok (.iconst 0, 1) := by decide +kernel
theorem dX5_bestWay_17 : decode cX5_bestWay 17 = .ok (.istore_n 2, 1) := by decide +kernel
theorem dX5_bestWay_18 : decode cX5_bestWay 18 = .ok (.aload_n 1, 1) := by decide +kernel
theorem dX5_bestWay_19 : decode cX5_bestWay 19 = .ok (.iconst 0, 1) := by decide +kernel
theorem dX5_bestWay_20 : decode cX5_bestWay 20 = .ok (.invokevirtual 250, 3) := by decide +kernel
theorem dX5_bestWay_23 : decode cX5_bestWay 23 = .ok (.istore_n 3, 1) := by decide +kernel
theorem dX5_bestWay_24 : decode cX5_bestWay 24 = .ok (.iconst 1, 1) := by decide +kernel
theorem dX5_bestWay_25 : decode cX5_bestWay 25 = .ok (.istore 4, 2) := by decide +kernel
theorem dX5_bestWay_27 : decode cX5_bestWay 27 = .ok (.iload 4, 2) := by decide +kernel
theorem dX5_bestWay_29 : decode cX5_bestWay 29 = .ok (.iconst 4, 1) := by decide +kernel
theorem dX5_bestWay_30 : decode cX5_bestWay 30 = .ok (.if_icmp .ge 29, 3) := by decide +kernel
theorem dX5_bestWay_33 : decode cX5_bestWay 33 = .ok (.aload_n 1, 1) := by decide +kernel
theorem dX5_bestWay_34 : decode cX5_bestWay 34 = .ok (.iload 4, 2) := by decide +kernel
theorem dX5_bestWay_36 : decode cX5_bestWay 36 = .ok (.invokevirtual 250, 3) := by decide +kernel
theorem dX5_bestWay_39 : decode cX5_bestWay 39 = .ok (.istore 5, 2) := by decide +kernel
theorem dX5_bestWay_41 : decode cX5_bestWay 41 = .ok (.iload 5, 2) := by decide +kernel
theorem dX5_bestWay_43 : decode cX5_bestWay 43 = .ok (.iload_n 3, 1) := by decide +kernel
theorem dX5_bestWay_44 : decode cX5_bestWay 44 = .ok (.if_icmp .ge 9, 3) := by decide +kernel
theorem dX5_bestWay_47 : decode cX5_bestWay 47 = .ok (.iload 4, 2) := by decide +kernel
theorem dX5_bestWay_49 : decode cX5_bestWay 49 = .ok (.istore_n 2, 1) := by decide +kernel
theorem dX5_bestWay_50 : decode cX5_bestWay 50 = .ok (.iload 5, 2) := by decide +kernel
theorem dX5_bestWay_52 : decode cX5_bestWay 52 = .ok (.istore_n 3, 1) := by decide +kernel
theorem dX5_bestWay_53 : decode cX5_bestWay 53 = .ok (.iinc 4 1, 3) := by decide +kernel
theorem dX5_bestWay_56 : decode cX5_bestWay 56 = .ok (.goto (-29), 3) := by decide +kernel
theorem dX5_bestWay_59 : decode cX5_bestWay 59 = .ok (.iload_n 2, 1) := by decide +kernel
theorem dX5_bestWay_60 : decode cX5_bestWay 60 = .ok (.ireturn, 1) := by decide +kernel
theorem dX5_isCell_0 : decode cX5_isCell 0 = .ok (.iload_n 0, 1) := by decide +kernel
theorem dX5_isCell_1 : decode cX5_isCell 1 = .ok (.ifCond .lt 13, 3) := by decide +kernel
theorem dX5_isCell_4 : decode cX5_isCell 4 = .ok (.iload_n 0, 1) := by decide +kernel
theorem dX5_isCell_5 : decode cX5_isCell 5 = .ok (.bipush 24, 2) := by decide +kernel
theorem dX5_isCell_7 : decode cX5_isCell 7 = .ok (.if_icmp .ge 7, 3) := by decide +kernel
theorem dX5_isCell_10 : decode cX5_isCell 10 = .ok (.iconst 1, 1) := by decide +kernel
theorem dX5_isCell_11 : decode cX5_isCell 11 = .ok (.goto 4, 3) := by decide +kernel
theorem dX5_isCell_14 : decode cX5_isCell 14 = .ok (.iconst 0, 1) := by decide +kernel
theorem dX5_isCell_15 : decode cX5_isCell 15 = .ok (.ireturn, 1) := by decide +kernel
theorem dX5_isCard_0 : decode cX5_isCard 0 = .ok (.iload_n 0, 1) := by decide +kernel
theorem dX5_isCard_1 : decode cX5_isCard 1 = .ok (.ifCond .lt 13, 3) := by decide +kernel
theorem dX5_isCard_4 : decode cX5_isCard 4 = .ok (.iload_n 0, 1) := by decide +kernel
theorem dX5_isCard_5 : decode cX5_isCard 5 = .ok (.bipush 24, 2) := by decide +kernel
theorem dX5_isCard_7 : decode cX5_isCard 7 = .ok (.if_icmp .ge 7, 3) := by decide +kernel
theorem dX5_isCard_10 : decode cX5_isCard 10 = .ok (.iconst 1, 1) := by decide +kernel
theorem dX5_isCard_11 : decode cX5_isCard 11 = .ok (.goto 4, 3) := by decide +kernel
theorem dX5_isCard_14 : decode cX5_isCard 14 = .ok (.iconst 0, 1) := by decide +kernel
theorem dX5_isCard_15 : decode cX5_isCard 15 = .ok (.ireturn, 1) := by decide +kernel
theorem dX5_isMark_0 : decode cX5_isMark 0 = .ok (.iload_n 0, 1) := by decide +kernel
theorem dX5_isMark_1 : decode cX5_isMark 1 = .ok (.ifCond .lt 12, 3) := by decide +kernel
theorem dX5_isMark_4 : decode cX5_isMark 4 = .ok (.iload_n 0, 1) := by decide +kernel
theorem dX5_isMark_5 : decode cX5_isMark 5 = .ok (.iconst 4, 1) := by decide +kernel
theorem dX5_isMark_6 : decode cX5_isMark 6 = .ok (.if_icmp .ge 7, 3) := by decide +kernel
theorem dX5_isMark_9 : decode cX5_isMark 9 = .ok (.iconst 1, 1) := by decide +kernel
theorem dX5_isMark_10 : decode cX5_isMark 10 = .ok (.goto 4, 3) := by decide +kernel
theorem dX5_isMark_13 : decode cX5_isMark 13 = .ok (.iconst 0, 1) := by decide +kernel
theorem dX5_isMark_14 : decode cX5_isMark 14 = .ok (.ireturn, 1) := by decide +kernel
theorem dX5_isCourt_0 : decode cX5_isCourt 0 = .ok (.iload_n 0, 1) := by decide +kernel
theorem dX5_isCourt_1 : decode cX5_isCourt 1 = .ok (.bipush 6, 2) := by decide +kernel
theorem dX5_isCourt_3 : decode cX5_isCourt 3 = .ok (.irem, 1) := by decide +kernel
theorem dX5_isCourt_4 : decode cX5_isCourt 4 = .ok (.iconst 3, 1) := by decide +kernel
theorem dX5_isCourt_5 : decode cX5_isCourt 5 = .ok (.if_icmp .lt 7, 3) := by decide +kernel
theorem dX5_isCourt_8 : decode cX5_isCourt 8 = .ok (.iconst 1, 1) := by decide +kernel
theorem dX5_isCourt_9 : decode cX5_isCourt 9 = .ok (.goto 4, 3) := by decide +kernel
theorem dX5_isCourt_12 : decode cX5_isCourt 12 = .ok (.iconst 0, 1) := by decide +kernel
theorem dX5_isCourt_13 : decode cX5_isCourt 13 = .ok (.ireturn, 1) := by decide +kernel
theorem dX5_at_0 : decode cX5_at 0 = .ok (.iload_n 1, 1) := by decide +kernel
theorem dX5_at_1 : decode cX5_at 1 = .ok (.ifCond .lt 15, 3) := by decide +kernel
theorem dX5_at_4 : decode cX5_at 4 = .ok (.iload_n 1, 1) := by decide +kernel
theorem dX5_at_5 : decode cX5_at 5 = .ok (.aload_n 0, 1) := by decide +kernel
theorem dX5_at_6 : decode cX5_at 6 = .ok (.arraylength, 1) := by decide +kernel
theorem dX5_at_7 : decode cX5_at 7 = .ok (.if_icmp .ge 9, 3) := by decide +kernel
theorem dX5_at_10 : decode cX5_at 10 = .ok (.aload_n 0, 1) := by decide +kernel
theorem dX5_at_11 : decode cX5_at 11 = .ok (.iload_n 1, 1) := by decide +kernel
theorem dX5_at_12 : decode cX5_at 12 = .ok (.iaload, 1) := by decide +kernel
theorem dX5_at_13 : decode cX5_at 13 = .ok (.goto 4, 3) := by decide +kernel
theorem dX5_at_16 : decode cX5_at 16 = .ok (.iconst 0, 1) := by decide +kernel
theorem dX5_at_17 : decode cX5_at 17 = .ok (.ireturn, 1) := by decide +kernel
theorem dX5_put_0 : decode cX5_put 0 = .ok (.iload_n 1, 1) := by decide +kernel
theorem dX5_put_1 : decode cX5_put 1 = .ok (.ifCond .lt 13, 3) := by decide +kernel
theorem dX5_put_4 : decode cX5_put 4 = .ok (.iload_n 1, 1) := by decide +kernel
theorem dX5_put_5 : decode cX5_put 5 = .ok (.aload_n 0, 1) := by decide +kernel
theorem dX5_put_6 : decode cX5_put 6 = .ok (.arraylength, 1) := by decide +kernel
theorem dX5_put_7 : decode cX5_put 7 = .ok (.if_icmp .ge 7, 3) := by decide +kernel
theorem dX5_put_10 : decode cX5_put 10 = .ok (.aload_n 0, 1) := by decide +kernel
theorem dX5_put_11 : decode cX5_put 11 = .ok (.iload_n 1, 1) := by decide +kernel
theorem dX5_put_12 : decode cX5_put 12 = .ok (.iload_n 2, 1) := by decide +kernel
theorem dX5_put_13 : decode cX5_put 13 = .ok (.iastore, 1) := by decide +kernel
theorem dX5_put_14 : decode cX5_put 14 = .ok (.return_, 1) := by decide +kernel
theorem dX5_copyRow_0 : decode cX5_copyRow 0 = .ok (.aload_n 0, 1) := by decide +kernel
theorem dX5_copyRow_1 : decode cX5_copyRow 1 = .ok (.iconst 0, 1) := by decide +kernel
theorem dX5_copyRow_2 : decode cX5_copyRow 2 = .ok (.aload_n 1, 1) := by decide +kernel
theorem dX5_copyRow_3 : decode cX5_copyRow 3 = .ok (.iconst 0, 1) := by decide +kernel
theorem dX5_copyRow_4 : decode cX5_copyRow 4 = .ok (.aload_n 0, 1) := by decide +kernel
theorem dX5_copyRow_5 : decode cX5_copyRow 5 = .ok (.arraylength, 1) := by decide +kernel
theorem dX5_copyRow_6 : decode cX5_copyRow 6 = .ok (.aload_n 1, 1) := by decide +kernel
theorem dX5_copyRow_7 : decode cX5_copyRow 7 = .ok (.arraylength, 1) := by decide +kernel
theorem dX5_copyRow_8 : decode cX5_copyRow 8 = .ok (.invokestatic 257, 3) := by decide +kernel
theorem dX5_copyRow_11 : decode cX5_copyRow 11 = .ok (.invokestatic 262, 3) := by decide +kernel
theorem dX5_copyRow_14 : decode cX5_copyRow 14 = .ok (.return_, 1) := by decide +kernel
theorem dX5_courtsBeyond_0 : decode cX5_courtsBeyond 0 = .ok (.iconst 0, 1) := by decide +kernel
theorem dX5_courtsBeyond_1 : decode cX5_courtsBeyond 1 = .ok (.istore_n 2, 1) := by decide +kernel
theorem dX5_courtsBeyond_2 : decode cX5_courtsBeyond 2 = .ok (.iconst 0, 1) := by decide +kernel
theorem dX5_courtsBeyond_3 : decode cX5_courtsBeyond 3 = .ok (.istore_n 3, 1) := by decide +kernel
theorem dX5_courtsBeyond_4 : decode cX5_courtsBeyond 4 = .ok (.iload_n 3, 1) := by decide +kernel
theorem dX5_courtsBeyond_5 : decode cX5_courtsBeyond 5 = .ok (.aload_n 0, 1) := by decide +kernel
theorem dX5_courtsBeyond_6 : decode cX5_courtsBeyond 6 = .ok (.arraylength, 1) := by decide +kernel
theorem dX5_courtsBeyond_7 : decode cX5_courtsBeyond 7 = .ok (.if_icmp .ge 22, 3) := by decide +kernel
theorem dX5_courtsBeyond_10 : decode cX5_courtsBeyond 10 = .ok (.aload_n 0, 1) := by decide +kernel
theorem dX5_courtsBeyond_11 : decode cX5_courtsBeyond 11 = .ok (.iload_n 3, 1) := by decide +kernel
theorem dX5_courtsBeyond_12 : decode cX5_courtsBeyond 12 = .ok (.iaload, 1) := by decide +kernel
theorem dX5_courtsBeyond_13 : decode cX5_courtsBeyond 13 = .ok (.invokestatic 268, 3) := by decide +kernel
theorem dX5_courtsBeyond_16 : decode cX5_courtsBeyond 16 = .ok (.iload_n 1, 1) := by decide +kernel
theorem dX5_courtsBeyond_17 : decode cX5_courtsBeyond 17 = .ok (.if_icmp .le 6, 3) := by decide +kernel
theorem dX5_courtsBeyond_20 : decode cX5_courtsBeyond 20 = .ok (.iinc 2 1, 3) := by decide +kernel
theorem dX5_courtsBeyond_23 : decode cX5_courtsBeyond 23 = .ok (.iinc 3 1, 3) := by decide +kernel
theorem dX5_courtsBeyond_26 : decode cX5_courtsBeyond 26 = .ok (.goto (-22), 3) := by decide +kernel
theorem dX5_courtsBeyond_29 : decode cX5_courtsBeyond 29 = .ok (.iload_n 2, 1) := by decide +kernel
theorem dX5_courtsBeyond_30 : decode cX5_courtsBeyond 30 = .ok (.ireturn, 1) := by decide +kernel
theorem dX5_cellAt_0 : decode cX5_cellAt 0 = .ok (.iload_n 0, 1) := by decide +kernel
theorem dX5_cellAt_1 : decode cX5_cellAt 1 = .ok (.ifCond .eq 8, 3) := by decide +kernel
theorem dX5_cellAt_4 : decode cX5_cellAt 4 = .ok (.iload_n 0, 1) := by decide +kernel
theorem dX5_cellAt_5 : decode cX5_cellAt 5 = .ok (.iconst 2, 1) := by decide +kernel
theorem dX5_cellAt_6 : decode cX5_cellAt 6 = .ok (.if_icmp .ne 42, 3) := by decide +kernel
theorem dX5_cellAt_9 : decode cX5_cellAt 9 = .ok (.iload_n 1, 1) := by decide +kernel
theorem dX5_cellAt_10 : decode cX5_cellAt 10 = .ok (.bipush 6, 2) := by decide +kernel
theorem dX5_cellAt_12 : decode cX5_cellAt 12 = .ok (.idiv, 1) := by decide +kernel
theorem dX5_cellAt_13 : decode cX5_cellAt 13 = .ok (.istore_n 2, 1) := by decide +kernel
theorem dX5_cellAt_14 : decode cX5_cellAt 14 = .ok (.iload_n 0, 1) := by decide +kernel
theorem dX5_cellAt_15 : decode cX5_cellAt 15 = .ok (.iconst 2, 1) := by decide +kernel
theorem dX5_cellAt_16 : decode cX5_cellAt 16 = .ok (.if_icmp .ne 14, 3) := by decide +kernel
theorem dX5_cellAt_19 : decode cX5_cellAt 19 = .ok (.iload_n 2, 1) := by decide +kernel
theorem dX5_cellAt_20 : decode cX5_cellAt 20 = .ok (.iconst 2, 1) := by decide +kernel
theorem dX5_cellAt_21 : decode cX5_cellAt 21 = .ok (.irem, 1) := by decide +kernel
theorem dX5_cellAt_22 : decode cX5_cellAt 22 = .ok (.iconst 1, 1) := by decide +kernel
theorem dX5_cellAt_23 : decode cX5_cellAt 23 = .ok (.if_icmp .ne 7, 3) := by decide +kernel
theorem dX5_cellAt_26 : decode cX5_cellAt 26 = .ok (.iconst 1, 1) := by decide +kernel
theorem dX5_cellAt_27 : decode cX5_cellAt 27 = .ok (.goto 4, 3) := by decide +kernel
theorem dX5_cellAt_30 : decode cX5_cellAt 30 = .ok (.iconst 0, 1) := by decide +kernel
theorem dX5_cellAt_31 : decode cX5_cellAt 31 = .ok (.istore_n 3, 1) := by decide +kernel
theorem dX5_cellAt_32 : decode cX5_cellAt 32 = .ok (.bipush 6, 2) := by decide +kernel
theorem dX5_cellAt_34 : decode cX5_cellAt 34 = .ok (.iload_n 2, 1) := by decide +kernel
theorem dX5_cellAt_35 : decode cX5_cellAt 35 = .ok (.imul, 1) := by decide +kernel
theorem dX5_cellAt_36 : decode cX5_cellAt 36 = .ok (.iload_n 1, 1) := by decide +kernel
theorem dX5_cellAt_37 : decode cX5_cellAt 37 = .ok (.bipush 6, 2) := by decide +kernel
theorem dX5_cellAt_39 : decode cX5_cellAt 39 = .ok (.irem, 1) := by decide +kernel
theorem dX5_cellAt_40 : decode cX5_cellAt 40 = .ok (.bipush 6, 2) := by decide +kernel
theorem dX5_cellAt_42 : decode cX5_cellAt 42 = .ok (.iload_n 3, 1) := by decide +kernel
theorem dX5_cellAt_43 : decode cX5_cellAt 43 = .ok (.invokestatic 271, 3) := by decide +kernel
theorem dX5_cellAt_46 : decode cX5_cellAt 46 = .ok (.iadd, 1) := by decide +kernel
theorem dX5_cellAt_47 : decode cX5_cellAt 47 = .ok (.ireturn, 1) := by decide +kernel
theorem dX5_cellAt_48 : decode cX5_cellAt 48 = .ok (.iload_n 1, 1) := by decide +kernel
theorem dX5_cellAt_49 : decode cX5_cellAt 49 = .ok (.iconst 4, 1) := by decide +kernel
theorem dX5_cellAt_50 : decode cX5_cellAt 50 = .ok (.idiv, 1) := by decide +kernel
theorem dX5_cellAt_51 : decode cX5_cellAt 51 = .ok (.istore_n 2, 1) := by decide +kernel
theorem dX5_cellAt_52 : decode cX5_cellAt 52 = .ok (.iload_n 0, 1) := by decide +kernel
theorem dX5_cellAt_53 : decode cX5_cellAt 53 = .ok (.iconst 3, 1) := by decide +kernel
theorem dX5_cellAt_54 : decode cX5_cellAt 54 = .ok (.if_icmp .ne 14, 3) := by decide +kernel
theorem dX5_cellAt_57 : decode cX5_cellAt 57 = .ok (.iload_n 2, 1) := by decide +kernel
theorem dX5_cellAt_58 : decode cX5_cellAt 58 = .ok (.iconst 2, 1) := by decide +kernel
theorem dX5_cellAt_59 : decode cX5_cellAt 59 = .ok (.irem, 1) := by decide +kernel
theorem dX5_cellAt_60 : decode cX5_cellAt 60 = .ok (.iconst 1, 1) := by decide +kernel
theorem dX5_cellAt_61 : decode cX5_cellAt 61 = .ok (.if_icmp .ne 7, 3) := by decide +kernel
theorem dX5_cellAt_64 : decode cX5_cellAt 64 = .ok (.iconst 1, 1) := by decide +kernel
theorem dX5_cellAt_65 : decode cX5_cellAt 65 = .ok (.goto 4, 3) := by decide +kernel
theorem dX5_cellAt_68 : decode cX5_cellAt 68 = .ok (.iconst 0, 1) := by decide +kernel
theorem dX5_cellAt_69 : decode cX5_cellAt 69 = .ok (.istore_n 3, 1) := by decide +kernel
theorem dX5_cellAt_70 : decode cX5_cellAt 70 = .ok (.bipush 6, 2) := by decide +kernel
theorem dX5_cellAt_72 : decode cX5_cellAt 72 = .ok (.iload_n 1, 1) := by decide +kernel
theorem dX5_cellAt_73 : decode cX5_cellAt 73 = .ok (.iconst 4, 1) := by decide +kernel
theorem dX5_cellAt_74 : decode cX5_cellAt 74 = .ok (.irem, 1) := by decide +kernel
theorem dX5_cellAt_75 : decode cX5_cellAt 75 = .ok (.iconst 4, 1) := by decide +kernel
theorem dX5_cellAt_76 : decode cX5_cellAt 76 = .ok (.iload_n 3, 1) := by decide +kernel
theorem dX5_cellAt_77 : decode cX5_cellAt 77 = .ok (.invokestatic 271, 3) := by decide +kernel
theorem dX5_cellAt_80 : decode cX5_cellAt 80 = .ok (.imul, 1) := by decide +kernel
theorem dX5_cellAt_81 : decode cX5_cellAt 81 = .ok (.iload_n 2, 1) := by decide +kernel
theorem dX5_cellAt_82 : decode cX5_cellAt 82 = .ok (.iadd, 1) := by decide +kernel
theorem dX5_cellAt_83 : decode cX5_cellAt 83 = .ok (.ireturn, 1) := by decide +kernel
theorem dX5_along_0 : decode cX5_along 0 = .ok (.iload_n 2, 1) := by decide +kernel
theorem dX5_along_1 : decode cX5_along 1 = .ok (.ifCond .eq 11, 3) := by decide +kernel
theorem dX5_along_4 : decode cX5_along 4 = .ok (.iload_n 1, 1) := by decide +kernel
theorem dX5_along_5 : decode cX5_along 5 = .ok (.iconst 1, 1) := by decide +kernel
theorem dX5_along_6 : decode cX5_along 6 = .ok (.isub, 1) := by decide +kernel
theorem dX5_along_7 : decode cX5_along 7 = .ok (.iload_n 0, 1) := by decide +kernel
theorem dX5_along_8 : decode cX5_along 8 = .ok (.isub, 1) := by decide +kernel
theorem dX5_along_9 : decode cX5_along 9 = .ok (.goto 4, 3) := by decide +kernel
theorem dX5_along_12 : decode cX5_along 12 = .ok (.iload_n 0, 1) := by decide +kernel
theorem dX5_along_13 : decode cX5_along 13 = .ok (.ireturn, 1) := by decide +kernel
theorem dX5_placeBefore_0 : decode cX5_placeBefore 0 = .ok (.iload_n 1, 1) := by decide +kernel
theorem dX5_placeBefore_1 : decode cX5_placeBefore 1 = .ok (.iload_n 2, 1) := by decide +kernel
theorem dX5_placeBefore_2 : decode cX5_placeBefore 2 = .ok (.iload_n 1, 1) := by decide +kernel
theorem dX5_placeBefore_3 : decode cX5_placeBefore 3 = .ok (.isub, 1) := by decide +kernel
theorem dX5_placeBefore_4 : decode cX5_placeBefore 4 = .ok (.invokestatic 257, 3) := by decide +kernel
theorem dX5_placeBefore_7 : decode cX5_placeBefore 7 = .ok (.istore_n 3, 1) := by decide +kernel
theorem dX5_placeBefore_8 : decode cX5_placeBefore 8 = .ok (.iload_n 0, 1) := by decide +kernel
theorem dX5_placeBefore_9 : decode cX5_placeBefore 9 = .ok (.iconst 2, 1) := by decide +kernel
theorem dX5_placeBefore_10 : decode cX5_placeBefore 10 = .ok (.iload_n 3, 1) := by decide +kernel
theorem dX5_placeBefore_11 : decode cX5_placeBefore 11 = .ok (.imul, 1) := by decide +kernel
theorem dX5_placeBefore_12 : decode cX5_placeBefore 12 = .ok (.if_icmp .lt 16, 3) := by decide +kernel
theorem dX5_placeBefore_15 : decode cX5_placeBefore 15 = .ok (.iload_n 1, 1) := by decide +kernel
theorem dX5_placeBefore_16 : decode cX5_placeBefore 16 = .ok (.iload_n 3, 1) := by decide +kernel
theorem dX5_placeBefore_17 : decode cX5_placeBefore 17 = .ok (.if_icmp .le 9, 3) := by decide +kernel
theorem dX5_placeBefore_20 : decode cX5_placeBefore 20 = .ok (.iload_n 0, 1) := by decide +kernel
theorem dX5_placeBefore_21 : decode cX5_placeBefore 21 = .ok (.iload_n 3, 1) := by decide +kernel
theorem dX5_placeBefore_22 : decode cX5_placeBefore 22 = .ok (.isub, 1) := by decide +kernel
theorem dX5_placeBefore_23 : decode cX5_placeBefore 23 = .ok (.goto 4, 3) := by decide +kernel
theorem dX5_placeBefore_26 : decode cX5_placeBefore 26 = .ok (.iload_n 0, 1) := by decide +kernel
theorem dX5_placeBefore_27 : decode cX5_placeBefore 27 = .ok (.ireturn, 1) := by decide +kernel
theorem dX5_placeBefore_28 : decode cX5_placeBefore 28 = .ok (.iload_n 0, 1) := by decide +kernel
theorem dX5_placeBefore_29 : decode cX5_placeBefore 29 = .ok (.iconst 2, 1) := by decide +kernel
theorem dX5_placeBefore_30 : decode cX5_placeBefore 30 = .ok (.irem, 1) := by decide +kernel
theorem dX5_placeBefore_31 : decode cX5_placeBefore 31 = .ok (.ifCond .ne 9, 3) := by decide +kernel
theorem dX5_placeBefore_34 : decode cX5_placeBefore 34 = .ok (.iload_n 0, 1) := by decide +kernel
theorem dX5_placeBefore_35 : decode cX5_placeBefore 35 = .ok (.iconst 2, 1) := by decide +kernel
theorem dX5_placeBefore_36 : decode cX5_placeBefore 36 = .ok (.idiv, 1) := by decide +kernel
theorem dX5_placeBefore_37 : decode cX5_placeBefore 37 = .ok (.goto 8, 3) := by decide +kernel
theorem dX5_placeBefore_40 : decode cX5_placeBefore 40 = .ok (.iload_n 1, 1) := by decide +kernel
theorem dX5_placeBefore_41 : decode cX5_placeBefore 41 = .ok (.iload_n 0, 1) := by decide +kernel
theorem dX5_placeBefore_42 : decode cX5_placeBefore 42 = .ok (.iconst 2, 1) := by decide +kernel
theorem dX5_placeBefore_43 : decode cX5_placeBefore 43 = .ok (.idiv, 1) := by decide +kernel
theorem dX5_placeBefore_44 : decode cX5_placeBefore 44 = .ok (.iadd, 1) := by decide +kernel
theorem dX5_placeBefore_45 : decode cX5_placeBefore 45 = .ok (.ireturn, 1) := by decide +kernel
theorem dJ6_bitCount_0f7a4_0 : decode cJ6_bitCount_0f7a4 0 = .ok (.iload_n 0, 1) := by decide +kernel
theorem dJ6_bitCount_0f7a4_1 : decode cJ6_bitCount_0f7a4 1 = .ok (.iload_n 0, 1) := by decide +kernel
theorem dJ6_bitCount_0f7a4_2 : decode cJ6_bitCount_0f7a4 2 = .ok (.iconst 1, 1) := by decide +kernel
theorem dJ6_bitCount_0f7a4_3 : decode cJ6_bitCount_0f7a4 3 = .ok (.iushr, 1) := by decide +kernel
theorem dJ6_bitCount_0f7a4_4 : decode cJ6_bitCount_0f7a4 4 = .ok (.ldc_w 265, 3) := by decide +kernel
theorem dJ6_bitCount_0f7a4_7 : decode cJ6_bitCount_0f7a4 7 = .ok (.iand, 1) := by decide +kernel
theorem dJ6_bitCount_0f7a4_8 : decode cJ6_bitCount_0f7a4 8 = .ok (.isub, 1) := by decide +kernel
theorem dJ6_bitCount_0f7a4_9 : decode cJ6_bitCount_0f7a4 9 = .ok (.istore_n 0, 1) := by decide +kernel
theorem dJ6_bitCount_0f7a4_10 : decode cJ6_bitCount_0f7a4 10 = .ok (.iload_n 0, 1) := by decide +kernel
theorem dJ6_bitCount_0f7a4_11 : decode cJ6_bitCount_0f7a4 11 = .ok (.ldc_w 266, 3) := by decide +kernel
theorem dJ6_bitCount_0f7a4_14 : decode cJ6_bitCount_0f7a4 14 = .ok (.iand, 1) := by decide +kernel
theorem dJ6_bitCount_0f7a4_15 : decode cJ6_bitCount_0f7a4 15 = .ok (.iload_n 0, 1) := by decide +kernel
theorem dJ6_bitCount_0f7a4_16 : decode cJ6_bitCount_0f7a4 16 = .ok (.iconst 2, 1) := by decide +kernel
theorem dJ6_bitCount_0f7a4_17 : decode cJ6_bitCount_0f7a4 17 = .ok (.iushr, 1) := by decide +kernel
theorem dJ6_bitCount_0f7a4_18 : decode cJ6_bitCount_0f7a4 18 = .ok (.ldc_w 266, 3) := by decide +kernel
theorem dJ6_bitCount_0f7a4_21 : decode cJ6_bitCount_0f7a4 21 = .ok (.iand, 1) := by decide +kernel
theorem dJ6_bitCount_0f7a4_22 : decode cJ6_bitCount_0f7a4 22 = .ok (.iadd, 1) := by decide +kernel
theorem dJ6_bitCount_0f7a4_23 : decode cJ6_bitCount_0f7a4 23 = .ok (.istore_n 0, 1) := by decide +kernel
theorem dJ6_bitCount_0f7a4_24 : decode cJ6_bitCount_0f7a4 24 = .ok (.iload_n 0, 1) := by decide +kernel
theorem dJ6_bitCount_0f7a4_25 : decode cJ6_bitCount_0f7a4 25 = .ok (.iload_n 0, 1) := by decide +kernel
theorem dJ6_bitCount_0f7a4_26 : decode cJ6_bitCount_0f7a4 26 = .ok (.iconst 4, 1) := by decide +kernel
theorem dJ6_bitCount_0f7a4_27 : decode cJ6_bitCount_0f7a4 27 = .ok (.iushr, 1) := by decide +kernel
theorem dJ6_bitCount_0f7a4_28 : decode cJ6_bitCount_0f7a4 28 = .ok (.iadd, 1) := by decide +kernel
theorem dJ6_bitCount_0f7a4_29 : decode cJ6_bitCount_0f7a4 29 = .ok (.ldc_w 267, 3) := by decide +kernel
theorem dJ6_bitCount_0f7a4_32 : decode cJ6_bitCount_0f7a4 32 = .ok (.iand, 1) := by decide +kernel
theorem dJ6_bitCount_0f7a4_33 : decode cJ6_bitCount_0f7a4 33 = .ok (.istore_n 0, 1) := by decide +kernel
theorem dJ6_bitCount_0f7a4_34 : decode cJ6_bitCount_0f7a4 34 = .ok (.iload_n 0, 1) := by decide +kernel
theorem dJ6_bitCount_0f7a4_35 : decode cJ6_bitCount_0f7a4 35 = .ok (.iload_n 0, 1) := by decide +kernel
theorem dJ6_bitCount_0f7a4_36 : decode cJ6_bitCount_0f7a4 36 = .ok (.bipush 8, 2) := by decide +kernel
theorem dJ6_bitCount_0f7a4_38 : decode cJ6_bitCount_0f7a4 38 = .ok (.iushr, 1) := by decide +kernel
theorem dJ6_bitCount_0f7a4_39 : decode cJ6_bitCount_0f7a4 39 = .ok (.iadd, 1) := by decide +kernel
theorem dJ6_bitCount_0f7a4_40 : decode cJ6_bitCount_0f7a4 40 = .ok (.istore_n 0, 1) := by decide +kernel
theorem dJ6_bitCount_0f7a4_41 : decode cJ6_bitCount_0f7a4 41 = .ok (.iload_n 0, 1) := by decide +kernel
theorem dJ6_bitCount_0f7a4_42 : decode cJ6_bitCount_0f7a4 42 = .ok (.iload_n 0, 1) := by decide +kernel
theorem dJ6_bitCount_0f7a4_43 : decode cJ6_bitCount_0f7a4 43 = .ok (.bipush 16, 2) := by decide +kernel
theorem dJ6_bitCount_0f7a4_45 : decode cJ6_bitCount_0f7a4 45 = .ok (.iushr, 1) := by decide +kernel
theorem dJ6_bitCount_0f7a4_46 : decode cJ6_bitCount_0f7a4 46 = .ok (.iadd, 1) := by decide +kernel
theorem dJ6_bitCount_0f7a4_47 : decode cJ6_bitCount_0f7a4 47 = .ok (.istore_n 0, 1) := by decide +kernel
theorem dJ6_bitCount_0f7a4_48 : decode cJ6_bitCount_0f7a4 48 = .ok (.iload_n 0, 1) := by decide +kernel
theorem dJ6_bitCount_0f7a4_49 : decode cJ6_bitCount_0f7a4 49 = .ok (.bipush 63, 2) := by decide +kernel
theorem dJ6_bitCount_0f7a4_51 : decode cJ6_bitCount_0f7a4 51 = .ok (.iand, 1) := by decide +kernel
theorem dJ6_bitCount_0f7a4_52 : decode cJ6_bitCount_0f7a4 52 = .ok (.ireturn, 1) := by decide +kernel
theorem dJ9_abs_0f7a4_0 : decode cJ9_abs_0f7a4 0 = .ok (.iload_n 0, 1) := by decide +kernel
theorem dJ9_abs_0f7a4_1 : decode cJ9_abs_0f7a4 1 = .ok (.ifCond .ge 8, 3) := by decide +kernel
theorem dJ9_abs_0f7a4_4 : decode cJ9_abs_0f7a4 4 = .ok (.iload_n 0, 1) := by decide +kernel
theorem dJ9_abs_0f7a4_5 : decode cJ9_abs_0f7a4 5 = .ok (.ineg, 1) := by decide +kernel
theorem dJ9_abs_0f7a4_6 : decode cJ9_abs_0f7a4 6 = .ok (.goto 4, 3) := by decide +kernel
theorem dJ9_abs_0f7a4_9 : decode cJ9_abs_0f7a4 9 = .ok (.iload_n 0, 1) := by decide +kernel
theorem dJ9_abs_0f7a4_10 : decode cJ9_abs_0f7a4 10 = .ok (.ireturn, 1) := by decide +kernel
theorem dJ9_min_7cf53_0 : decode cJ9_min_7cf53 0 = .ok (.iload_n 0, 1) := by decide +kernel
theorem dJ9_min_7cf53_1 : decode cJ9_min_7cf53 1 = .ok (.iload_n 1, 1) := by decide +kernel
theorem dJ9_min_7cf53_2 : decode cJ9_min_7cf53 2 = .ok (.if_icmp .gt 7, 3) := by decide +kernel
theorem dJ9_min_7cf53_5 : decode cJ9_min_7cf53 5 = .ok (.iload_n 0, 1) := by decide +kernel
theorem dJ9_min_7cf53_6 : decode cJ9_min_7cf53 6 = .ok (.goto 4, 3) := by decide +kernel
theorem dJ9_min_7cf53_9 : decode cJ9_min_7cf53 9 = .ok (.iload_n 1, 1) := by decide +kernel
theorem dJ9_min_7cf53_10 : decode cJ9_min_7cf53 10 = .ok (.ireturn, 1) := by decide +kernel
theorem dL_cell_0 : decode cL_cell 0 = .ok (.iload_n 1, 1) := by decide +kernel
theorem dL_cell_1 : decode cL_cell 1 = .ok (.aload_n 0, 1) := by decide +kernel
theorem dL_cell_2 : decode cL_cell 2 = .ok (.arraylength, 1) := by decide +kernel
theorem dL_cell_3 : decode cL_cell 3 = .ok (.if_icmp .ge 9, 3) := by decide +kernel
theorem dL_cell_6 : decode cL_cell 6 = .ok (.aload_n 0, 1) := by decide +kernel
theorem dL_cell_7 : decode cL_cell 7 = .ok (.iload_n 1, 1) := by decide +kernel
theorem dL_cell_8 : decode cL_cell 8 = .ok (.iaload, 1) := by decide +kernel
theorem dL_cell_9 : decode cL_cell 9 = .ok (.goto 13, 3) := by decide +kernel
theorem dL_cell_12 : decode cL_cell 12 = .ok (.ldc 7, 2) := by decide +kernel
theorem dL_cell_14 : decode cL_cell 14 = .ok (.iload_n 1, 1) := by decide +kernel
theorem dL_cell_15 : decode cL_cell 15 = .ok (.bipush 7, 2) := by decide +kernel
theorem dL_cell_17 : decode cL_cell 17 = .ok (.iadd, 1) := by decide +kernel
theorem dL_cell_18 : decode cL_cell 18 = .ok (.imul, 1) := by decide +kernel
theorem dL_cell_19 : decode cL_cell 19 = .ok (.ldc 8, 2) := by decide +kernel
theorem dL_cell_21 : decode cL_cell 21 = .ok (.iadd, 1) := by decide +kernel
theorem dL_cell_22 : decode cL_cell 22 = .ok (.ireturn, 1) := by decide +kernel
theorem dL_low_0 : decode cL_low 0 = .ok (.iload_n 0, 1) := by decide +kernel
theorem dL_low_1 : decode cL_low 1 = .ok (.ldc 9, 2) := by decide +kernel
theorem dL_low_3 : decode cL_low 3 = .ok (.iand, 1) := by decide +kernel
theorem dL_low_4 : decode cL_low 4 = .ok (.iload_n 1, 1) := by decide +kernel
theorem dL_low_5 : decode cL_low 5 = .ok (.irem, 1) := by decide +kernel
theorem dL_low_6 : decode cL_low 6 = .ok (.ireturn, 1) := by decide +kernel
theorem dL_ones_0 : decode cL_ones 0 = .ok (.iconst 0, 1) := by decide +kernel
theorem dL_ones_1 : decode cL_ones 1 = .ok (.istore_n 1, 1) := by decide +kernel
theorem dL_ones_2 : decode cL_ones 2 = .ok (.iload_n 0, 1) := by decide +kernel
theorem dL_ones_3 : decode cL_ones 3 = .ok (.istore_n 2, 1) := by decide +kernel
theorem dL_ones_4 : decode cL_ones 4 = .ok (.iload_n 2, 1) := by decide +kernel
theorem dL_ones_5 : decode cL_ones 5 = .ok (.ifCond .eq 15, 3) := by decide +kernel
theorem dL_ones_8 : decode cL_ones 8 = .ok (.iinc 1 1, 3) := by decide +kernel
theorem dL_ones_11 : decode cL_ones 11 = .ok (.iload_n 2, 1) := by decide +kernel
theorem dL_ones_12 : decode cL_ones 12 = .ok (.iload_n 2, 1) := by decide +kernel
theorem dL_ones_13 : decode cL_ones 13 = .ok (.iconst 1, 1) := by decide +kernel
theorem dL_ones_14 : decode cL_ones 14 = .ok (.isub, 1) := by decide +kernel
theorem dL_ones_15 : decode cL_ones 15 = .ok (.iand, 1) := by decide +kernel
theorem dL_ones_16 : decode cL_ones 16 = .ok (.istore_n 2, 1) := by decide +kernel
theorem dL_ones_17 : decode cL_ones 17 = .ok (.goto (-13), 3) := by decide +kernel
theorem dL_ones_20 : decode cL_ones 20 = .ok (.iload_n 1, 1) := by decide +kernel
theorem dL_ones_21 : decode cL_ones 21 = .ok (.ireturn, 1) := by decide +kernel
theorem dL_court_0 : decode cL_court 0 = .ok (.iconst 3, 1) := by decide +kernel
theorem dL_court_1 : decode cL_court 1 = .ok (.iload_n 0, 1) := by decide +kernel
theorem dL_court_2 : decode cL_court 2 = .ok (.bipush 6, 2) := by decide +kernel
theorem dL_court_4 : decode cL_court 4 = .ok (.idiv, 1) := by decide +kernel
theorem dL_court_5 : decode cL_court 5 = .ok (.imul, 1) := by decide +kernel
theorem dL_court_6 : decode cL_court 6 = .ok (.iload_n 0, 1) := by decide +kernel
theorem dL_court_7 : decode cL_court 7 = .ok (.bipush 6, 2) := by decide +kernel
theorem dL_court_9 : decode cL_court 9 = .ok (.irem, 1) := by decide +kernel
theorem dL_court_10 : decode cL_court 10 = .ok (.iadd, 1) := by decide +kernel
theorem dL_court_11 : decode cL_court 11 = .ok (.iconst 3, 1) := by decide +kernel
theorem dL_court_12 : decode cL_court 12 = .ok (.isub, 1) := by decide +kernel
theorem dL_court_13 : decode cL_court 13 = .ok (.ireturn, 1) := by decide +kernel
theorem dL_sheetAt_0 : decode cL_sheetAt 0 = .ok (.aload_n 2, 1) := by decide +kernel
theorem dL_sheetAt_1 : decode cL_sheetAt 1 = .ok (.bipush 10, 2) := by decide +kernel
theorem dL_sheetAt_3 : decode cL_sheetAt 3 = .ok (.iload_n 0, 1) := by decide +kernel
theorem dL_sheetAt_4 : decode cL_sheetAt 4 = .ok (.imul, 1) := by decide +kernel
theorem dL_sheetAt_5 : decode cL_sheetAt 5 = .ok (.iload_n 1, 1) := by decide +kernel
theorem dL_sheetAt_6 : decode cL_sheetAt 6 = .ok (.iconst 3, 1) := by decide +kernel
theorem dL_sheetAt_7 : decode cL_sheetAt 7 = .ok (.idiv, 1) := by decide +kernel
theorem dL_sheetAt_8 : decode cL_sheetAt 8 = .ok (.iadd, 1) := by decide +kernel
theorem dL_sheetAt_9 : decode cL_sheetAt 9 = .ok (.iaload, 1) := by decide +kernel
theorem dL_sheetAt_10 : decode cL_sheetAt 10 = .ok (.bipush 9, 2) := by decide +kernel
theorem dL_sheetAt_12 : decode cL_sheetAt 12 = .ok (.iload_n 1, 1) := by decide +kernel
theorem dL_sheetAt_13 : decode cL_sheetAt 13 = .ok (.iconst 3, 1) := by decide +kernel
theorem dL_sheetAt_14 : decode cL_sheetAt 14 = .ok (.irem, 1) := by decide +kernel
theorem dL_sheetAt_15 : decode cL_sheetAt 15 = .ok (.imul, 1) := by decide +kernel
theorem dL_sheetAt_16 : decode cL_sheetAt 16 = .ok (.ishr, 1) := by decide +kernel
theorem dL_sheetAt_17 : decode cL_sheetAt 17 = .ok (.sipush 511, 3) := by decide +kernel
theorem dL_sheetAt_20 : decode cL_sheetAt 20 = .ok (.iand, 1) := by decide +kernel
theorem dL_sheetAt_21 : decode cL_sheetAt 21 = .ok (.ireturn, 1) := by decide +kernel
theorem dL_prints_0 : decode cL_prints 0 = .ok (.bipush 10, 2) := by decide +kernel
theorem dL_prints_2 : decode cL_prints 2 = .ok (.aload_n 1, 1) := by decide +kernel
theorem dL_prints_3 : decode cL_prints 3 = .ok (.iconst 5, 1) := by decide +kernel
theorem dL_prints_4 : decode cL_prints 4 = .ok (.iaload, 1) := by decide +kernel
theorem dL_prints_5 : decode cL_prints 5 = .ok (.imul, 1) := by decide +kernel
theorem dL_prints_6 : decode cL_prints 6 = .ok (.istore 6, 2) := by decide +kernel
theorem dL_prints_8 : decode cL_prints 8 = .ok (.iconst 0, 1) := by decide +kernel
theorem dL_prints_9 : decode cL_prints 9 = .ok (.istore 7, 2) := by decide +kernel
theorem dL_prints_11 : decode cL_prints 11 = .ok (.iload 7, 2) := by decide +kernel
theorem dL_prints_13 : decode cL_prints 13 = .ok (.bipush 10, 2) := by decide +kernel
theorem dL_prints_15 : decode cL_prints 15 = .ok (.if_icmp .ge 18, 3) := by decide +kernel
theorem dL_prints_18 : decode cL_prints 18 = .ok (.aload 5, 2) := by decide +kernel
theorem dL_prints_20 : decode cL_prints 20 = .ok (.iload 6, 2) := by decide +kernel
theorem dL_prints_22 : decode cL_prints 22 = .ok (.iload 7, 2) := by decide +kernel
theorem dL_prints_24 : decode cL_prints 24 = .ok (.iadd, 1) := by decide +kernel
theorem dL_prints_25 : decode cL_prints 25 = .ok (.iconst 0, 1) := by decide +kernel
theorem dL_prints_26 : decode cL_prints 26 = .ok (.iastore, 1) := by decide +kernel
theorem dL_prints_27 : decode cL_prints 27 = .ok (.iinc 7 1, 3) := by decide +kernel
theorem dL_prints_30 : decode cL_prints 30 = .ok (.goto (-19), 3) := by decide +kernel
theorem dL_prints_33 : decode cL_prints 33 = .ok (.iconst 0, 1) := by decide +kernel
theorem dL_prints_34 : decode cL_prints 34 = .ok (.istore 7, 2) := by decide +kernel
theorem dL_prints_36 : decode cL_prints 36 = .ok (.iload 7, 2) := by decide +kernel
theorem dL_prints_38 : decode cL_prints 38 = .ok (.bipush 24, 2) := by decide +kernel
theorem dL_prints_40 : decode cL_prints 40 = .ok (.if_icmp .ge 54, 3) := by decide +kernel
theorem dL_prints_43 : decode cL_prints 43 = .ok (.aload 5, 2) := by decide +kernel
theorem dL_prints_45 : decode cL_prints 45 = .ok (.iload 6, 2) := by decide +kernel
theorem dL_prints_47 : decode cL_prints 47 = .ok (.iload 7, 2) := by decide +kernel
theorem dL_prints_49 : decode cL_prints 49 = .ok (.iconst 3, 1) := by decide +kernel
theorem dL_prints_50 : decode cL_prints 50 = .ok (.idiv, 1) := by decide +kernel
theorem dL_prints_51 : decode cL_prints 51 = .ok (.iadd, 1) := by decide +kernel
theorem dL_prints_52 : decode cL_prints 52 = .ok (.dup2, 1) := by decide +kernel
theorem dL_prints_53 : decode cL_prints 53 = .ok (.iaload, 1) := by decide +kernel
theorem dL_prints_54 : decode cL_prints 54 = .ok (.aload_n 2, 1) := by decide +kernel
theorem dL_prints_55 : decode cL_prints 55 = .ok (.iload 7, 2) := by decide +kernel
theorem dL_prints_57 : decode cL_prints 57 = .ok (.iaload, 1) := by decide +kernel
theorem dL_prints_58 : decode cL_prints 58 = .ok (.bipush 32, 2) := by decide +kernel
theorem dL_prints_60 : decode cL_prints 60 = .ok (.aload_n 3, 1) := by decide +kernel
theorem dL_prints_61 : decode cL_prints 61 = .ok (.iload_n 0, 1) := by decide +kernel
theorem dL_prints_62 : decode cL_prints 62 = .ok (.ifCond .eq 11, 3) := by decide +kernel
theorem dL_prints_65 : decode cL_prints 65 = .ok (.bipush 23, 2) := by decide +kernel
theorem dL_prints_67 : decode cL_prints 67 = .ok (.iload 7, 2) := by decide +kernel
theorem dL_prints_69 : decode cL_prints 69 = .ok (.isub, 1) := by decide +kernel
theorem dL_prints_70 : decode cL_prints 70 = .ok (.goto 5, 3) := by decide +kernel
theorem dL_prints_73 : decode cL_prints 73 = .ok (.iload 7, 2) := by decide +kernel
theorem dL_prints_75 : decode cL_prints 75 = .ok (.iaload, 1) := by decide +kernel
theorem dL_prints_76 : decode cL_prints 76 = .ok (.imul, 1) := by decide +kernel
theorem dL_prints_77 : decode cL_prints 77 = .ok (.iadd, 1) := by decide +kernel
theorem dL_prints_78 : decode cL_prints 78 = .ok (.bipush 9, 2) := by decide +kernel
theorem dL_prints_80 : decode cL_prints 80 = .ok (.iload 7, 2) := by decide +kernel
theorem dL_prints_82 : decode cL_prints 82 = .ok (.iconst 3, 1) := by decide +kernel
theorem dL_prints_83 : decode cL_prints 83 = .ok (.irem, 1) := by decide +kernel
theorem dL_prints_84 : decode cL_prints 84 = .ok (.imul, 1) := by decide +kernel
theorem dL_prints_85 : decode cL_prints 85 = .ok (.ishl, 1) := by decide +kernel
theorem dL_prints_86 : decode cL_prints 86 = .ok (.ior, 1) := by decide +kernel
theorem dL_prints_87 : decode cL_prints 87 = .ok (.iastore, 1) := by decide +kernel
theorem dL_prints_88 : decode cL_prints 88 = .ok (.iinc 7 1, 3) := by decide +kernel
theorem dL_prints_91 : decode cL_prints 91 = .ok (.goto (-55), 3) := by decide +kernel
theorem dL_prints_94 : decode cL_prints 94 = .ok (.iconst 0, 1) := by decide +kernel
theorem dL_prints_95 : decode cL_prints 95 = .ok (.istore 7, 2) := by decide +kernel
theorem dL_prints_97 : decode cL_prints 97 = .ok (.iload 7, 2) := by decide +kernel
theorem dL_prints_99 : decode cL_prints 99 = .ok (.bipush 12, 2) := by decide +kernel
theorem dL_prints_101 : decode cL_prints 101 = .ok (.if_icmp .ge 42, 3) := by decide +kernel
theorem dL_prints_104 : decode cL_prints 104 = .ok (.aload 5, 2) := by decide +kernel
theorem dL_prints_106 : decode cL_prints 106 = .ok (.iload 6, 2) := by decide +kernel
theorem dL_prints_108 : decode cL_prints 108 = .ok (.bipush 8, 2) := by decide +kernel
theorem dL_prints_110 : decode cL_prints 110 = .ok (.iadd, 1) := by decide +kernel
theorem dL_prints_111 : decode cL_prints 111 = .ok (.iload 7, 2) := by decide +kernel
theorem dL_prints_113 : decode cL_prints 113 = .ok (.bipush 6, 2) := by decide +kernel
theorem dL_prints_115 : decode cL_prints 115 = .ok (.idiv, 1) := by decide +kernel
theorem dL_prints_116 : decode cL_prints 116 = .ok (.iadd, 1) := by decide +kernel
theorem dL_prints_117 : decode cL_prints 117 = .ok (.dup2, 1) := by decide +kernel
theorem dL_prints_118 : decode cL_prints 118 = .ok (.iaload, 1) := by decide +kernel
theorem dL_prints_119 : decode cL_prints 119 = .ok (.aload 4, 2) := by decide +kernel
theorem dL_prints_121 : decode cL_prints 121 = .ok (.iload 7, 2) := by decide +kernel
theorem dL_prints_123 : decode cL_prints 123 = .ok (.iaload, 1) := by decide +kernel
theorem dL_prints_124 : decode cL_prints 124 = .ok (.bipush 9, 2) := by decide +kernel
theorem dL_prints_126 : decode cL_prints 126 = .ok (.iadd, 1) := by decide +kernel
theorem dL_prints_127 : decode cL_prints 127 = .ok (.iconst 5, 1) := by decide +kernel
theorem dL_prints_128 : decode cL_prints 128 = .ok (.iload 7, 2) := by decide +kernel
theorem dL_prints_130 : decode cL_prints 130 = .ok (.bipush 6, 2) := by decide +kernel
theorem dL_prints_132 : decode cL_prints 132 = .ok (.irem, 1) := by decide +kernel
theorem dL_prints_133 : decode cL_prints 133 = .ok (.imul, 1) := by decide +kernel
theorem dL_prints_134 : decode cL_prints 134 = .ok (.ishl, 1) := by decide +kernel
theorem dL_prints_135 : decode cL_prints 135 = .ok (.ior, 1) := by decide +kernel
theorem dL_prints_136 : decode cL_prints 136 = .ok (.iastore, 1) := by decide +kernel
theorem dL_prints_137 : decode cL_prints 137 = .ok (.iinc 7 1, 3) := by decide +kernel
theorem dL_prints_140 : decode cL_prints 140 = .ok (.goto (-43), 3) := by decide +kernel
theorem dL_prints_143 : decode cL_prints 143 = .ok (.aload_n 1, 1) := by decide +kernel
theorem dL_prints_144 : decode cL_prints 144 = .ok (.iconst 5, 1) := by decide +kernel
theorem dL_prints_145 : decode cL_prints 145 = .ok (.dup2, 1) := by decide +kernel
theorem dL_prints_146 : decode cL_prints 146 = .ok (.iaload, 1) := by decide +kernel
theorem dL_prints_147 : decode cL_prints 147 = .ok (.iconst 1, 1) := by decide +kernel
theorem dL_prints_148 : decode cL_prints 148 = .ok (.iadd, 1) := by decide +kernel
theorem dL_prints_149 : decode cL_prints 149 = .ok (.iastore, 1) := by decide +kernel
theorem dL_prints_150 : decode cL_prints 150 = .ok (.aload_n 1, 1) := by decide +kernel
theorem dL_prints_151 : decode cL_prints 151 = .ok (.iconst 4, 1) := by decide +kernel
theorem dL_prints_152 : decode cL_prints 152 = .ok (.dup2, 1) := by decide +kernel
theorem dL_prints_153 : decode cL_prints 153 = .ok (.iaload, 1) := by decide +kernel
theorem dL_prints_154 : decode cL_prints 154 = .ok (.iconst 1, 1) := by decide +kernel
theorem dL_prints_155 : decode cL_prints 155 = .ok (.iadd, 1) := by decide +kernel
theorem dL_prints_156 : decode cL_prints 156 = .ok (.iastore, 1) := by decide +kernel
theorem dL_prints_157 : decode cL_prints 157 = .ok (.aload_n 1, 1) := by decide +kernel
theorem dL_prints_158 : decode cL_prints 158 = .ok (.iconst 4, 1) := by decide +kernel
theorem dL_prints_159 : decode cL_prints 159 = .ok (.iaload, 1) := by decide +kernel
theorem dL_prints_160 : decode cL_prints 160 = .ok (.aload_n 1, 1) := by decide +kernel
theorem dL_prints_161 : decode cL_prints 161 = .ok (.iconst 0, 1) := by decide +kernel
theorem dL_prints_162 : decode cL_prints 162 = .ok (.iaload, 1) := by decide +kernel
theorem dL_prints_163 : decode cL_prints 163 = .ok (.irem, 1) := by decide +kernel
theorem dL_prints_164 : decode cL_prints 164 = .ok (.ifCond .ne 25, 3) := by decide +kernel
theorem dL_prints_167 : decode cL_prints 167 = .ok (.aload_n 3, 1) := by decide +kernel
theorem dL_prints_168 : decode cL_prints 168 = .ok (.aload_n 1, 1) := by decide +kernel
theorem dL_prints_169 : decode cL_prints 169 = .ok (.iconst 4, 1) := by decide +kernel
theorem dL_prints_170 : decode cL_prints 170 = .ok (.iaload, 1) := by decide +kernel
theorem dL_prints_171 : decode cL_prints 171 = .ok (.bipush 24, 2) := by decide +kernel
theorem dL_prints_173 : decode cL_prints 173 = .ok (.irem, 1) := by decide +kernel
theorem dL_prints_174 : decode cL_prints 174 = .ok (.dup2, 1) := by decide +kernel
theorem dL_prints_175 : decode cL_prints 175 = .ok (.iaload, 1) := by decide +kernel
theorem dL_prints_176 : decode cL_prints 176 = .ok (.iconst 1, 1) := by decide +kernel
theorem dL_prints_177 : decode cL_prints 177 = .ok (.aload_n 1, 1) := by decide +kernel
theorem dL_prints_178 : decode cL_prints 178 = .ok (.iconst 4, 1) := by decide +kernel
theorem dL_prints_179 : decode cL_prints 179 = .ok (.iaload, 1) := by decide +kernel
theorem dL_prints_180 : decode cL_prints 180 = .ok (.aload_n 1, 1) := by decide +kernel
theorem dL_prints_181 : decode cL_prints 181 = .ok (.iconst 0, 1) := by decide +kernel
theorem dL_prints_182 : decode cL_prints 182 = .ok (.iaload, 1) := by decide +kernel
theorem dL_prints_183 : decode cL_prints 183 = .ok (.idiv, 1) := by decide +kernel
theorem dL_prints_184 : decode cL_prints 184 = .ok (.iconst 4, 1) := by decide +kernel
theorem dL_prints_185 : decode cL_prints 185 = .ok (.irem, 1) := by decide +kernel
theorem dL_prints_186 : decode cL_prints 186 = .ok (.ishl, 1) := by decide +kernel
theorem dL_prints_187 : decode cL_prints 187 = .ok (.ior, 1) := by decide +kernel
theorem dL_prints_188 : decode cL_prints 188 = .ok (.iastore, 1) := by decide +kernel
theorem dL_prints_189 : decode cL_prints 189 = .ok (.return_, 1) := by decide +kernel
theorem dL_cellAt_0 : decode cL_cellAt 0 = .ok (.iload_n 1, 1) := by decide +kernel
theorem dL_cellAt_1 : decode cL_cellAt 1 = .ok (.iconst 2, 1) := by decide +kernel
theorem dL_cellAt_2 : decode cL_cellAt 2 = .ok (.irem, 1) := by decide +kernel
theorem dL_cellAt_3 : decode cL_cellAt 3 = .ok (.ifCond .ne 10, 3) := by decide +kernel
theorem dL_cellAt_6 : decode cL_cellAt 6 = .ok (.iload_n 0, 1) := by decide +kernel
theorem dL_cellAt_7 : decode cL_cellAt 7 = .ok (.bipush 6, 2) := by decide +kernel
theorem dL_cellAt_9 : decode cL_cellAt 9 = .ok (.idiv, 1) := by decide +kernel
theorem dL_cellAt_10 : decode cL_cellAt 10 = .ok (.goto 6, 3) := by decide +kernel
theorem dL_cellAt_13 : decode cL_cellAt 13 = .ok (.iload_n 0, 1) := by decide +kernel
theorem dL_cellAt_14 : decode cL_cellAt 14 = .ok (.iconst 4, 1) := by decide +kernel
theorem dL_cellAt_15 : decode cL_cellAt 15 = .ok (.irem, 1) := by decide +kernel
theorem dL_cellAt_16 : decode cL_cellAt 16 = .ok (.istore_n 2, 1) := by decide +kernel
theorem dL_cellAt_17 : decode cL_cellAt 17 = .ok (.iload_n 1, 1) := by decide +kernel
theorem dL_cellAt_18 : decode cL_cellAt 18 = .ok (.iconst 2, 1) := by decide +kernel
theorem dL_cellAt_19 : decode cL_cellAt 19 = .ok (.irem, 1) := by decide +kernel
theorem dL_cellAt_20 : decode cL_cellAt 20 = .ok (.ifCond .ne 10, 3) := by decide +kernel
theorem dL_cellAt_23 : decode cL_cellAt 23 = .ok (.iload_n 0, 1) := by decide +kernel
theorem dL_cellAt_24 : decode cL_cellAt 24 = .ok (.bipush 6, 2) := by decide +kernel
theorem dL_cellAt_26 : decode cL_cellAt 26 = .ok (.irem, 1) := by decide +kernel
theorem dL_cellAt_27 : decode cL_cellAt 27 = .ok (.goto 6, 3) := by decide +kernel
theorem dL_cellAt_30 : decode cL_cellAt 30 = .ok (.iload_n 0, 1) := by decide +kernel
theorem dL_cellAt_31 : decode cL_cellAt 31 = .ok (.iconst 4, 1) := by decide +kernel
theorem dL_cellAt_32 : decode cL_cellAt 32 = .ok (.idiv, 1) := by decide +kernel
theorem dL_cellAt_33 : decode cL_cellAt 33 = .ok (.istore_n 3, 1) := by decide +kernel
theorem dL_cellAt_34 : decode cL_cellAt 34 = .ok (.iload_n 1, 1) := by decide +kernel
theorem dL_cellAt_35 : decode cL_cellAt 35 = .ok (.iconst 2, 1) := by decide +kernel
theorem dL_cellAt_36 : decode cL_cellAt 36 = .ok (.if_icmp .ne 14, 3) := by decide +kernel
theorem dL_cellAt_39 : decode cL_cellAt 39 = .ok (.iload_n 2, 1) := by decide +kernel
theorem dL_cellAt_40 : decode cL_cellAt 40 = .ok (.iconst 2, 1) := by decide +kernel
theorem dL_cellAt_41 : decode cL_cellAt 41 = .ok (.irem, 1) := by decide +kernel
theorem dL_cellAt_42 : decode cL_cellAt 42 = .ok (.iconst 1, 1) := by decide +kernel
theorem dL_cellAt_43 : decode cL_cellAt 43 = .ok (.if_icmp .ne 7, 3) := by decide +kernel
theorem dL_cellAt_46 : decode cL_cellAt 46 = .ok (.iconst 5, 1) := by decide +kernel
theorem dL_cellAt_47 : decode cL_cellAt 47 = .ok (.iload_n 3, 1) := by decide +kernel
theorem dL_cellAt_48 : decode cL_cellAt 48 = .ok (.isub, 1) := by decide +kernel
theorem dL_cellAt_49 : decode cL_cellAt 49 = .ok (.istore_n 3, 1) := by decide +kernel
theorem dL_cellAt_50 : decode cL_cellAt 50 = .ok (.iload_n 1, 1) := by decide +kernel
theorem dL_cellAt_51 : decode cL_cellAt 51 = .ok (.iconst 3, 1) := by decide +kernel
theorem dL_cellAt_52 : decode cL_cellAt 52 = .ok (.if_icmp .ne 14, 3) := by decide +kernel
theorem dL_cellAt_55 : decode cL_cellAt 55 = .ok (.iload_n 3, 1) := by decide +kernel
theorem dL_cellAt_56 : decode cL_cellAt 56 = .ok (.iconst 2, 1) := by decide +kernel
theorem dL_cellAt_57 : decode cL_cellAt 57 = .ok (.irem, 1) := by decide +kernel
theorem dL_cellAt_58 : decode cL_cellAt 58 = .ok (.iconst 1, 1) := by decide +kernel
theorem dL_cellAt_59 : decode cL_cellAt 59 = .ok (.if_icmp .ne 7, 3) := by decide +kernel
theorem dL_cellAt_62 : decode cL_cellAt 62 = .ok (.iconst 3, 1) := by decide +kernel
theorem dL_cellAt_63 : decode cL_cellAt 63 = .ok (.iload_n 2, 1) := by decide +kernel
theorem dL_cellAt_64 : decode cL_cellAt 64 = .ok (.isub, 1) := by decide +kernel
theorem dL_cellAt_65 : decode cL_cellAt 65 = .ok (.istore_n 2, 1) := by decide +kernel
theorem dL_cellAt_66 : decode cL_cellAt 66 = .ok (.bipush 6, 2) := by decide +kernel
theorem dL_cellAt_68 : decode cL_cellAt 68 = .ok (.iload_n 2, 1) := by decide +kernel
theorem dL_cellAt_69 : decode cL_cellAt 69 = .ok (.imul, 1) := by decide +kernel
theorem dL_cellAt_70 : decode cL_cellAt 70 = .ok (.iload_n 3, 1) := by decide +kernel
theorem dL_cellAt_71 : decode cL_cellAt 71 = .ok (.iadd, 1) := by decide +kernel
theorem dL_cellAt_72 : decode cL_cellAt 72 = .ok (.ireturn, 1) := by decide +kernel
theorem dL_cuts_0 : decode cL_cuts 0 = .ok (.aload_n 1, 1) := by decide +kernel
theorem dL_cuts_1 : decode cL_cuts 1 = .ok (.iconst 5, 1) := by decide +kernel
theorem dL_cuts_2 : decode cL_cuts 2 = .ok (.dup2, 1) := by decide +kernel
theorem dL_cuts_3 : decode cL_cuts 3 = .ok (.iaload, 1) := by decide +kernel
theorem dL_cuts_4 : decode cL_cuts 4 = .ok (.iconst 1, 1) := by decide +kernel
theorem dL_cuts_5 : decode cL_cuts 5 = .ok (.isub, 1) := by decide +kernel
theorem dL_cuts_6 : decode cL_cuts 6 = .ok (.iastore, 1) := by decide +kernel
theorem dL_cuts_7 : decode cL_cuts 7 = .ok (.iconst 0, 1) := by decide +kernel
theorem dL_cuts_8 : decode cL_cuts 8 = .ok (.istore 6, 2) := by decide +kernel
theorem dL_cuts_10 : decode cL_cuts 10 = .ok (.iload 6, 2) := by decide +kernel
theorem dL_cuts_12 : decode cL_cuts 12 = .ok (.bipush 24, 2) := by decide +kernel
theorem dL_cuts_14 : decode cL_cuts 14 = .ok (.if_icmp .ge 45, 3) := by decide +kernel
theorem dL_cuts_17 : decode cL_cuts 17 = .ok (.aload_n 1, 1) := by decide +kernel
theorem dL_cuts_18 : decode cL_cuts 18 = .ok (.iconst 5, 1) := by decide +kernel
theorem dL_cuts_19 : decode cL_cuts 19 = .ok (.iaload, 1) := by decide +kernel
theorem dL_cuts_20 : decode cL_cuts 20 = .ok (.iload 6, 2) := by decide +kernel
theorem dL_cuts_22 : decode cL_cuts 22 = .ok (.iload_n 0, 1) := by decide +kernel
theorem dL_cuts_23 : decode cL_cuts 23 = .ok (.invokestatic 10, 3) := by decide +kernel
theorem dL_cuts_26 : decode cL_cuts 26 = .ok (.aload_n 2, 1) := by decide +kernel
theorem dL_cuts_27 : decode cL_cuts 27 = .ok (.invokestatic 16, 3) := by decide +kernel
theorem dL_cuts_30 : decode cL_cuts 30 = .ok (.istore 7, 2) := by decide +kernel
theorem dL_cuts_32 : decode cL_cuts 32 = .ok (.aload_n 3, 1) := by decide +kernel
theorem dL_cuts_33 : decode cL_cuts 33 = .ok (.iload 6, 2) := by decide +kernel
theorem dL_cuts_35 : decode cL_cuts 35 = .ok (.iload 7, 2) := by decide +kernel
theorem dL_cuts_37 : decode cL_cuts 37 = .ok (.bipush 31, 2) := by decide +kernel
theorem dL_cuts_39 : decode cL_cuts 39 = .ok (.iand, 1) := by decide +kernel
theorem dL_cuts_40 : decode cL_cuts 40 = .ok (.iastore, 1) := by decide +kernel
theorem dL_cuts_41 : decode cL_cuts 41 = .ok (.aload 4, 2) := by decide +kernel
theorem dL_cuts_43 : decode cL_cuts 43 = .ok (.iload 7, 2) := by decide +kernel
theorem dL_cuts_45 : decode cL_cuts 45 = .ok (.bipush 31, 2) := by decide +kernel
theorem dL_cuts_47 : decode cL_cuts 47 = .ok (.iand, 1) := by decide +kernel
theorem dL_cuts_48 : decode cL_cuts 48 = .ok (.iload 7, 2) := by decide +kernel
theorem dL_cuts_50 : decode cL_cuts 50 = .ok (.iconst 5, 1) := by decide +kernel
theorem dL_cuts_51 : decode cL_cuts 51 = .ok (.ishr, 1) := by decide +kernel
theorem dL_cuts_52 : decode cL_cuts 52 = .ok (.iastore, 1) := by decide +kernel
theorem dL_cuts_53 : decode cL_cuts 53 = .ok (.iinc 6 1, 3) := by decide +kernel
theorem dL_cuts_56 : decode cL_cuts 56 = .ok (.goto (-46), 3) := by decide +kernel
theorem dL_cuts_59 : decode cL_cuts 59 = .ok (.iconst 0, 1) := by decide +kernel
theorem dL_cuts_60 : decode cL_cuts 60 = .ok (.istore 6, 2) := by decide +kernel
theorem dL_cuts_62 : decode cL_cuts 62 = .ok (.iload 6, 2) := by decide +kernel
theorem dL_cuts_64 : decode cL_cuts 64 = .ok (.bipush 12, 2) := by decide +kernel
theorem dL_cuts_66 : decode cL_cuts 66 = .ok (.if_icmp .ge 45, 3) := by decide +kernel
theorem dL_cuts_69 : decode cL_cuts 69 = .ok (.aload 5, 2) := by decide +kernel
theorem dL_cuts_71 : decode cL_cuts 71 = .ok (.iload 6, 2) := by decide +kernel
theorem dL_cuts_73 : decode cL_cuts 73 = .ok (.aload_n 2, 1) := by decide +kernel
theorem dL_cuts_74 : decode cL_cuts 74 = .ok (.bipush 10, 2) := by decide +kernel
theorem dL_cuts_76 : decode cL_cuts 76 = .ok (.aload_n 1, 1) := by decide +kernel
theorem dL_cuts_77 : decode cL_cuts 77 = .ok (.iconst 5, 1) := by decide +kernel
theorem dL_cuts_78 : decode cL_cuts 78 = .ok (.iaload, 1) := by decide +kernel
theorem dL_cuts_79 : decode cL_cuts 79 = .ok (.imul, 1) := by decide +kernel
theorem dL_cuts_80 : decode cL_cuts 80 = .ok (.bipush 8, 2) := by decide +kernel
theorem dL_cuts_82 : decode cL_cuts 82 = .ok (.iadd, 1) := by decide +kernel
theorem dL_cuts_83 : decode cL_cuts 83 = .ok (.iload 6, 2) := by decide +kernel
theorem dL_cuts_85 : decode cL_cuts 85 = .ok (.bipush 6, 2) := by decide +kernel
theorem dL_cuts_87 : decode cL_cuts 87 = .ok (.idiv, 1) := by decide +kernel
theorem dL_cuts_88 : decode cL_cuts 88 = .ok (.iadd, 1) := by decide +kernel
theorem dL_cuts_89 : decode cL_cuts 89 = .ok (.iaload, 1) := by decide +kernel
theorem dL_cuts_90 : decode cL_cuts 90 = .ok (.iconst 5, 1) := by decide +kernel
theorem dL_cuts_91 : decode cL_cuts 91 = .ok (.iload 6, 2) := by decide +kernel
theorem dL_cuts_93 : decode cL_cuts 93 = .ok (.bipush 6, 2) := by decide +kernel
theorem dL_cuts_95 : decode cL_cuts 95 = .ok (.irem, 1) := by decide +kernel
theorem dL_cuts_96 : decode cL_cuts 96 = .ok (.imul, 1) := by decide +kernel
theorem dL_cuts_97 : decode cL_cuts 97 = .ok (.ishr, 1) := by decide +kernel
theorem dL_cuts_98 : decode cL_cuts 98 = .ok (.bipush 31, 2) := by decide +kernel
theorem dL_cuts_100 : decode cL_cuts 100 = .ok (.iand, 1) := by decide +kernel
theorem dL_cuts_101 : decode cL_cuts 101 = .ok (.bipush 9, 2) := by decide +kernel
theorem dL_cuts_103 : decode cL_cuts 103 = .ok (.isub, 1) := by decide +kernel
theorem dL_cuts_104 : decode cL_cuts 104 = .ok (.iastore, 1) := by decide +kernel
theorem dL_cuts_105 : decode cL_cuts 105 = .ok (.iinc 6 1, 3) := by decide +kernel
theorem dL_cuts_108 : decode cL_cuts 108 = .ok (.goto (-46), 3) := by decide +kernel
theorem dL_cuts_111 : decode cL_cuts 111 = .ok (.aload_n 1, 1) := by decide +kernel
theorem dL_cuts_112 : decode cL_cuts 112 = .ok (.bipush 6, 2) := by decide +kernel
theorem dL_cuts_114 : decode cL_cuts 114 = .ok (.iconst 1, 1) := by decide +kernel
theorem dL_cuts_115 : decode cL_cuts 115 = .ok (.iastore, 1) := by decide +kernel
theorem dL_cuts_116 : decode cL_cuts 116 = .ok (.aload_n 1, 1) := by decide +kernel
theorem dL_cuts_117 : decode cL_cuts 117 = .ok (.bipush 7, 2) := by decide +kernel
theorem dL_cuts_119 : decode cL_cuts 119 = .ok (.bipush 24, 2) := by decide +kernel
theorem dL_cuts_121 : decode cL_cuts 121 = .ok (.iastore, 1) := by decide +kernel
theorem dL_cuts_122 : decode cL_cuts 122 = .ok (.aload_n 1, 1) := by decide +kernel
theorem dL_cuts_123 : decode cL_cuts 123 = .ok (.bipush 11, 2) := by decide +kernel
theorem dL_cuts_125 : decode cL_cuts 125 = .ok (.iconst 0, 1) := by decide +kernel
theorem dL_cuts_126 : decode cL_cuts 126 = .ok (.iastore, 1) := by decide +kernel
theorem dL_cuts_127 : decode cL_cuts 127 = .ok (.return_, 1) := by decide +kernel
theorem dL_shuffles_0 : decode cL_shuffles 0 = .ok (.bipush 24, 2) := by decide +kernel
theorem dL_shuffles_2 : decode cL_shuffles 2 = .ok (.newarray .int, 2) := by decide +kernel
theorem dL_shuffles_4 : decode cL_shuffles 4 = .ok (.astore_n 3, 1) := by decide +kernel
theorem dL_shuffles_5 : decode cL_shuffles 5 = .ok (.iconst 0, 1) := by decide +kernel
theorem dL_shuffles_6 : decode cL_shuffles 6 = .ok (.istore 4, 2) := by decide +kernel
theorem dL_shuffles_8 : decode cL_shuffles 8 = .ok (.iload_n 0, 1) := by decide +kernel
theorem dL_shuffles_9 : decode cL_shuffles 9 = .ok (.istore 5, 2) := by decide +kernel
theorem dL_shuffles_11 : decode cL_shuffles 11 = .ok (.iconst 0, 1) := by decide +kernel
theorem dL_shuffles_12 : decode cL_shuffles 12 = .ok (.istore 6, 2) := by decide +kernel
theorem dL_shuffles_14 : decode cL_shuffles 14 = .ok (.iload 6, 2) := by decide +kernel
theorem dL_shuffles_16 : decode cL_shuffles 16 = .ok (.aload_n 1, 1) := by decide +kernel
theorem dL_shuffles_17 : decode cL_shuffles 17 = .ok (.bipush 7, 2) := by decide +kernel
theorem dL_shuffles_19 : decode cL_shuffles 19 = .ok (.iaload, 1) := by decide +kernel
theorem dL_shuffles_20 : decode cL_shuffles 20 = .ok (.if_icmp .ge 90, 3) := by decide +kernel
theorem dL_shuffles_23 : decode cL_shuffles 23 = .ok (.iload 5, 2) := by decide +kernel
theorem dL_shuffles_25 : decode cL_shuffles 25 = .ok (.aload_n 1, 1) := by decide +kernel
theorem dL_shuffles_26 : decode cL_shuffles 26 = .ok (.bipush 7, 2) := by decide +kernel
theorem dL_shuffles_28 : decode cL_shuffles 28 = .ok (.iaload, 1) := by decide +kernel
theorem dL_shuffles_29 : decode cL_shuffles 29 = .ok (.if_icmp .eq 18, 3) := by decide +kernel
theorem dL_shuffles_32 : decode cL_shuffles 32 = .ok (.iload 4, 2) := by decide +kernel
theorem dL_shuffles_34 : decode cL_shuffles 34 = .ok (.iload_n 0, 1) := by decide +kernel
theorem dL_shuffles_35 : decode cL_shuffles 35 = .ok (.if_icmp .ge 16, 3) := by decide +kernel
theorem dL_shuffles_38 : decode cL_shuffles 38 = .ok (.iload 4, 2) := by decide +kernel
theorem dL_shuffles_40 : decode cL_shuffles 40 = .ok (.iload 5, 2) := by decide +kernel
theorem dL_shuffles_42 : decode cL_shuffles 42 = .ok (.iload_n 0, 1) := by decide +kernel
theorem dL_shuffles_43 : decode cL_shuffles 43 = .ok (.isub, 1) := by decide +kernel
theorem dL_shuffles_44 : decode cL_shuffles 44 = .ok (.if_icmp .gt 7, 3) := by decide +kernel
theorem dL_shuffles_47 : decode cL_shuffles 47 = .ok (.iconst 1, 1) := by decide +kernel
theorem dL_shuffles_48 : decode cL_shuffles 48 = .ok (.goto 4, 3) := by decide +kernel
theorem dL_shuffles_51 : decode cL_shuffles 51 = .ok (.iconst 0, 1) := by decide +kernel
theorem dL_shuffles_52 : decode cL_shuffles 52 = .ok (.istore 7, 2) := by decide +kernel
theorem dL_shuffles_54 : decode cL_shuffles 54 = .ok (.aload_n 3, 1) := by decide +kernel
theorem dL_shuffles_55 : decode cL_shuffles 55 = .ok (.iload 6, 2) := by decide +kernel
theorem dL_shuffles_57 : decode cL_shuffles 57 = .ok (.iload 7, 2) := by decide +kernel
theorem dL_shuffles_59 : decode cL_shuffles 59 = .ok (.ifCond .eq 10, 3) := by decide +kernel
theorem dL_shuffles_62 : decode cL_shuffles 62 = .ok (.aload_n 2, 1) := by decide +kernel
theorem dL_shuffles_63 : decode cL_shuffles 63 = .ok (.iload 4, 2) := by decide +kernel
theorem dL_shuffles_65 : decode cL_shuffles 65 = .ok (.iaload, 1) := by decide +kernel
theorem dL_shuffles_66 : decode cL_shuffles 66 = .ok (.goto 7, 3) := by decide +kernel
theorem dL_shuffles_69 : decode cL_shuffles 69 = .ok (.aload_n 2, 1) := by decide +kernel
theorem dL_shuffles_70 : decode cL_shuffles 70 = .ok (.iload 5, 2) := by decide +kernel
theorem dL_shuffles_72 : decode cL_shuffles 72 = .ok (.iaload, 1) := by decide +kernel
theorem dL_shuffles_73 : decode cL_shuffles 73 = .ok (.iastore, 1) := by decide +kernel
theorem dL_shuffles_74 : decode cL_shuffles 74 = .ok (.iload 4, 2) := by decide +kernel
theorem dL_shuffles_76 : decode cL_shuffles 76 = .ok (.iload 7, 2) := by decide +kernel
theorem dL_shuffles_78 : decode cL_shuffles 78 = .ok (.ifCond .eq 7, 3) := by decide +kernel
theorem dL_shuffles_81 : decode cL_shuffles 81 = .ok (.iconst 1, 1) := by decide +kernel
theorem dL_shuffles_82 : decode cL_shuffles 82 = .ok (.goto 4, 3) := by decide +kernel
theorem dL_shuffles_85 : decode cL_shuffles 85 = .ok (.iconst 0, 1) := by decide +kernel
theorem dL_shuffles_86 : decode cL_shuffles 86 = .ok (.iadd, 1) := by decide +kernel
theorem dL_shuffles_87 : decode cL_shuffles 87 = .ok (.istore 4, 2) := by decide +kernel
theorem dL_shuffles_89 : decode cL_shuffles 89 = .ok (.iload 5, 2) := by decide +kernel
theorem dL_shuffles_91 : decode cL_shuffles 91 = .ok (.iload 7, 2) := by decide +kernel
theorem dL_shuffles_93 : decode cL_shuffles 93 = .ok (.ifCond .eq 7, 3) := by decide +kernel
theorem dL_shuffles_96 : decode cL_shuffles 96 = .ok (.iconst 0, 1) := by decide +kernel
theorem dL_shuffles_97 : decode cL_shuffles 97 = .ok (.goto 4, 3) := by decide +kernel
theorem dL_shuffles_100 : decode cL_shuffles 100 = .ok (.iconst 1, 1) := by decide +kernel
theorem dL_shuffles_101 : decode cL_shuffles 101 = .ok (.iadd, 1) := by decide +kernel
theorem dL_shuffles_102 : decode cL_shuffles 102 = .ok (.istore 5, 2) := by decide +kernel
theorem dL_shuffles_104 : decode cL_shuffles 104 = .ok (.iinc 6 1, 3) := by decide +kernel
theorem dL_shuffles_107 : decode cL_shuffles 107 = .ok (.goto (-93), 3) := by decide +kernel
theorem dL_shuffles_110 : decode cL_shuffles 110 = .ok (.iconst 0, 1) := by decide +kernel
theorem dL_shuffles_111 : decode cL_shuffles 111 = .ok (.istore 6, 2) := by decide +kernel
theorem dL_shuffles_113 : decode cL_shuffles 113 = .ok (.iconst 0, 1) := by decide +kernel
theorem dL_shuffles_114 : decode cL_shuffles 114 = .ok (.istore 7, 2) := by decide +kernel
theorem dL_shuffles_116 : decode cL_shuffles 116 = .ok (.iload 7, 2) := by decide +kernel
theorem dL_shuffles_118 : decode cL_shuffles 118 = .ok (.aload_n 1, 1) := by decide +kernel
theorem dL_shuffles_119 : decode cL_shuffles 119 = .ok (.bipush 7, 2) := by decide +kernel
theorem dL_shuffles_121 : decode cL_shuffles 121 = .ok (.iaload, 1) := by decide +kernel
theorem dL_shuffles_122 : decode cL_shuffles 122 = .ok (.if_icmp .ge 38, 3) := by decide +kernel
theorem dL_shuffles_125 : decode cL_shuffles 125 = .ok (.iload 6, 2) := by decide +kernel
theorem dL_shuffles_127 : decode cL_shuffles 127 = .ok (.aload_n 2, 1) := by decide +kernel
theorem dL_shuffles_128 : decode cL_shuffles 128 = .ok (.iload 7, 2) := by decide +kernel
theorem dL_shuffles_130 : decode cL_shuffles 130 = .ok (.iaload, 1) := by decide +kernel
theorem dL_shuffles_131 : decode cL_shuffles 131 = .ok (.aload_n 3, 1) := by decide +kernel
theorem dL_shuffles_132 : decode cL_shuffles 132 = .ok (.iload 7, 2) := by decide +kernel
theorem dL_shuffles_134 : decode cL_shuffles 134 = .ok (.iaload, 1) := by decide +kernel
theorem dL_shuffles_135 : decode cL_shuffles 135 = .ok (.if_icmp .ne 7, 3) := by decide +kernel
theorem dL_shuffles_138 : decode cL_shuffles 138 = .ok (.iconst 0, 1) := by decide +kernel
theorem dL_shuffles_139 : decode cL_shuffles 139 = .ok (.goto 4, 3) := by decide +kernel
theorem dL_shuffles_142 : decode cL_shuffles 142 = .ok (.iconst 1, 1) := by decide +kernel
theorem dL_shuffles_143 : decode cL_shuffles 143 = .ok (.iadd, 1) := by decide +kernel
theorem dL_shuffles_144 : decode cL_shuffles 144 = .ok (.istore 6, 2) := by decide +kernel
theorem dL_shuffles_146 : decode cL_shuffles 146 = .ok (.aload_n 2, 1) := by decide +kernel
theorem dL_shuffles_147 : decode cL_shuffles 147 = .ok (.iload 7, 2) := by decide +kernel
theorem dL_shuffles_149 : decode cL_shuffles 149 = .ok (.aload_n 3, 1) := by decide +kernel
theorem dL_shuffles_150 : decode cL_shuffles 150 = .ok (.iload 7, 2) := by decide +kernel
theorem dL_shuffles_152 : decode cL_shuffles 152 = .ok (.iaload, 1) := by decide +kernel
theorem dL_shuffles_153 : decode cL_shuffles 153 = .ok (.iastore, 1) := by decide +kernel
theorem dL_shuffles_154 : decode cL_shuffles 154 = .ok (.iinc 7 1, 3) := by decide +kernel
theorem dL_shuffles_157 : decode cL_shuffles 157 = .ok (.goto (-41), 3) := by decide +kernel
theorem dL_shuffles_160 : decode cL_shuffles 160 = .ok (.iload 6, 2) := by decide +kernel
theorem dL_shuffles_162 : decode cL_shuffles 162 = .ok (.ireturn, 1) := by decide +kernel
theorem dL_turns_0 : decode cL_turns 0 = .ok (.iconst 0, 1) := by decide +kernel
theorem dL_turns_1 : decode cL_turns 1 = .ok (.istore_n 3, 1) := by decide +kernel
theorem dL_turns_2 : decode cL_turns 2 = .ok (.iload_n 3, 1) := by decide +kernel
theorem dL_turns_3 : decode cL_turns 3 = .ok (.iload_n 0, 1) := by decide +kernel
theorem dL_turns_4 : decode cL_turns 4 = .ok (.if_icmp .ge 54, 3) := by decide +kernel
theorem dL_turns_7 : decode cL_turns 7 = .ok (.aload_n 2, 1) := by decide +kernel
theorem dL_turns_8 : decode cL_turns 8 = .ok (.iconst 0, 1) := by decide +kernel
theorem dL_turns_9 : decode cL_turns 9 = .ok (.iaload, 1) := by decide +kernel
theorem dL_turns_10 : decode cL_turns 10 = .ok (.istore 4, 2) := by decide +kernel
theorem dL_turns_12 : decode cL_turns 12 = .ok (.iconst 0, 1) := by decide +kernel
theorem dL_turns_13 : decode cL_turns 13 = .ok (.istore 5, 2) := by decide +kernel
theorem dL_turns_15 : decode cL_turns 15 = .ok (.iload 5, 2) := by decide +kernel
theorem dL_turns_17 : decode cL_turns 17 = .ok (.iconst 1, 1) := by decide +kernel
theorem dL_turns_18 : decode cL_turns 18 = .ok (.iadd, 1) := by decide +kernel
theorem dL_turns_19 : decode cL_turns 19 = .ok (.aload_n 1, 1) := by decide +kernel
theorem dL_turns_20 : decode cL_turns 20 = .ok (.bipush 7, 2) := by decide +kernel
theorem dL_turns_22 : decode cL_turns 22 = .ok (.iaload, 1) := by decide +kernel
theorem dL_turns_23 : decode cL_turns 23 = .ok (.if_icmp .ge 19, 3) := by decide +kernel
theorem dL_turns_26 : decode cL_turns 26 = .ok (.aload_n 2, 1) := by decide +kernel
theorem dL_turns_27 : decode cL_turns 27 = .ok (.iload 5, 2) := by decide +kernel
theorem dL_turns_29 : decode cL_turns 29 = .ok (.aload_n 2, 1) := by decide +kernel
theorem dL_turns_30 : decode cL_turns 30 = .ok (.iload 5, 2) := by decide +kernel
theorem dL_turns_32 : decode cL_turns 32 = .ok (.iconst 1, 1) := by decide +kernel
theorem dL_turns_33 : decode cL_turns 33 = .ok (.iadd, 1) := by decide +kernel
theorem dL_turns_34 : decode cL_turns 34 = .ok (.iaload, 1) := by decide +kernel
theorem dL_turns_35 : decode cL_turns 35 = .ok (.iastore, 1) := by decide +kernel
theorem dL_turns_36 : decode cL_turns 36 = .ok (.iinc 5 1, 3) := by decide +kernel
theorem dL_turns_39 : decode cL_turns 39 = .ok (.goto (-24), 3) := by decide +kernel
theorem dL_turns_42 : decode cL_turns 42 = .ok (.aload_n 2, 1) := by decide +kernel
theorem dL_turns_43 : decode cL_turns 43 = .ok (.aload_n 1, 1) := by decide +kernel
theorem dL_turns_44 : decode cL_turns 44 = .ok (.bipush 7, 2) := by decide +kernel
theorem dL_turns_46 : decode cL_turns 46 = .ok (.iaload, 1) := by decide +kernel
theorem dL_turns_47 : decode cL_turns 47 = .ok (.iconst 1, 1) := by decide +kernel
theorem dL_turns_48 : decode cL_turns 48 = .ok (.isub, 1) := by decide +kernel
theorem dL_turns_49 : decode cL_turns 49 = .ok (.iload 4, 2) := by decide +kernel
theorem dL_turns_51 : decode cL_turns 51 = .ok (.iastore, 1) := by decide +kernel
theorem dL_turns_52 : decode cL_turns 52 = .ok (.iinc 3 1, 3) := by decide +kernel
theorem dL_turns_55 : decode cL_turns 55 = .ok (.goto (-53), 3) := by decide +kernel
theorem dL_turns_58 : decode cL_turns 58 = .ok (.return_, 1) := by decide +kernel
theorem dL_alike_0 : decode cL_alike 0 = .ok (.iconst 0, 1) := by decide +kernel
theorem dL_alike_1 : decode cL_alike 1 = .ok (.istore_n 3, 1) := by decide +kernel
theorem dL_alike_2 : decode cL_alike 2 = .ok (.iconst (-1), 1) := by decide +kernel
theorem dL_alike_3 : decode cL_alike 3 = .ok (.istore 4, 2) := by decide +kernel
theorem dL_alike_5 : decode cL_alike 5 = .ok (.iconst 0, 1) := by decide +kernel
theorem dL_alike_6 : decode cL_alike 6 = .ok (.istore 5, 2) := by decide +kernel
theorem dL_alike_8 : decode cL_alike 8 = .ok (.iload 5, 2) := by decide +kernel
theorem dL_alike_10 : decode cL_alike 10 = .ok (.bipush 24, 2) := by decide +kernel
theorem dL_alike_12 : decode cL_alike 12 = .ok (.if_icmp .ge 68, 3) := by decide +kernel
theorem dL_alike_15 : decode cL_alike 15 = .ok (.aload_n 1, 1) := by decide +kernel
theorem dL_alike_16 : decode cL_alike 16 = .ok (.bipush 11, 2) := by decide +kernel
theorem dL_alike_18 : decode cL_alike 18 = .ok (.iaload, 1) := by decide +kernel
theorem dL_alike_19 : decode cL_alike 19 = .ok (.iload 5, 2) := by decide +kernel
theorem dL_alike_21 : decode cL_alike 21 = .ok (.ishr, 1) := by decide +kernel
theorem dL_alike_22 : decode cL_alike 22 = .ok (.iconst 1, 1) := by decide +kernel
theorem dL_alike_23 : decode cL_alike 23 = .ok (.iand, 1) := by decide +kernel
theorem dL_alike_24 : decode cL_alike 24 = .ok (.ifCond .ne 15, 3) := by decide +kernel
theorem dL_alike_27 : decode cL_alike 27 = .ok (.aload_n 2, 1) := by decide +kernel
theorem dL_alike_28 : decode cL_alike 28 = .ok (.iload 5, 2) := by decide +kernel
theorem dL_alike_30 : decode cL_alike 30 = .ok (.iaload, 1) := by decide +kernel
theorem dL_alike_31 : decode cL_alike 31 = .ok (.iload_n 0, 1) := by decide +kernel
theorem dL_alike_32 : decode cL_alike 32 = .ok (.if_icmp .ne 7, 3) := by decide +kernel
theorem dL_alike_35 : decode cL_alike 35 = .ok (.iconst 1, 1) := by decide +kernel
theorem dL_alike_36 : decode cL_alike 36 = .ok (.goto 4, 3) := by decide +kernel
theorem dL_alike_39 : decode cL_alike 39 = .ok (.iconst 0, 1) := by decide +kernel
theorem dL_alike_40 : decode cL_alike 40 = .ok (.istore 6, 2) := by decide +kernel
theorem dL_alike_42 : decode cL_alike 42 = .ok (.iload_n 3, 1) := by decide +kernel
theorem dL_alike_43 : decode cL_alike 43 = .ok (.iload 6, 2) := by decide +kernel
theorem dL_alike_45 : decode cL_alike 45 = .ok (.ifCond .eq 7, 3) := by decide +kernel
theorem dL_alike_48 : decode cL_alike 48 = .ok (.iconst 1, 1) := by decide +kernel
theorem dL_alike_49 : decode cL_alike 49 = .ok (.goto 4, 3) := by decide +kernel
theorem dL_alike_52 : decode cL_alike 52 = .ok (.iconst 0, 1) := by decide +kernel
theorem dL_alike_53 : decode cL_alike 53 = .ok (.iadd, 1) := by decide +kernel
theorem dL_alike_54 : decode cL_alike 54 = .ok (.istore_n 3, 1) := by decide +kernel
theorem dL_alike_55 : decode cL_alike 55 = .ok (.iload 6, 2) := by decide +kernel
theorem dL_alike_57 : decode cL_alike 57 = .ok (.ifCond .eq 13, 3) := by decide +kernel
theorem dL_alike_60 : decode cL_alike 60 = .ok (.iload 4, 2) := by decide +kernel
theorem dL_alike_62 : decode cL_alike 62 = .ok (.ifCond .ge 8, 3) := by decide +kernel
theorem dL_alike_65 : decode cL_alike 65 = .ok (.iload 5, 2) := by decide +kernel
theorem dL_alike_67 : decode cL_alike 67 = .ok (.goto 5, 3) := by decide +kernel
theorem dL_alike_70 : decode cL_alike 70 = .ok (.iload 4, 2) := by decide +kernel
theorem dL_alike_72 : decode cL_alike 72 = .ok (.istore 4, 2) := by decide +kernel
theorem dL_alike_74 : decode cL_alike 74 = .ok (.iinc 5 1, 3) := by decide +kernel
theorem dL_alike_77 : decode cL_alike 77 = .ok (.goto (-69), 3) := by decide +kernel
theorem dL_alike_80 : decode cL_alike 80 = .ok (.iload_n 3, 1) := by decide +kernel
theorem dL_alike_81 : decode cL_alike 81 = .ok (.bipush 100, 2) := by decide +kernel
theorem dL_alike_83 : decode cL_alike 83 = .ok (.iload 4, 2) := by decide +kernel
theorem dL_alike_85 : decode cL_alike 85 = .ok (.imul, 1) := by decide +kernel
theorem dL_alike_86 : decode cL_alike 86 = .ok (.iadd, 1) := by decide +kernel
theorem dL_alike_87 : decode cL_alike 87 = .ok (.ireturn, 1) := by decide +kernel
theorem dL_known_0 : decode cL_known 0 = .ok (.iconst 0, 1) := by decide +kernel
theorem dL_known_1 : decode cL_known 1 = .ok (.istore_n 3, 1) := by decide +kernel
theorem dL_known_2 : decode cL_known 2 = .ok (.iconst 0, 1) := by decide +kernel
theorem dL_known_3 : decode cL_known 3 = .ok (.istore 4, 2) := by decide +kernel
theorem dL_known_5 : decode cL_known 5 = .ok (.iload 4, 2) := by decide +kernel
theorem dL_known_7 : decode cL_known 7 = .ok (.aload_n 0, 1) := by decide +kernel
theorem dL_known_8 : decode cL_known 8 = .ok (.bipush 7, 2) := by decide +kernel
theorem dL_known_10 : decode cL_known 10 = .ok (.iaload, 1) := by decide +kernel
theorem dL_known_11 : decode cL_known 11 = .ok (.if_icmp .ge 35, 3) := by decide +kernel
theorem dL_known_14 : decode cL_known 14 = .ok (.iload_n 3, 1) := by decide +kernel
theorem dL_known_15 : decode cL_known 15 = .ok (.aload_n 2, 1) := by decide +kernel
theorem dL_known_16 : decode cL_known 16 = .ok (.aload_n 1, 1) := by decide +kernel
theorem dL_known_17 : decode cL_known 17 = .ok (.iload 4, 2) := by decide +kernel
theorem dL_known_19 : decode cL_known 19 = .ok (.iaload, 1) := by decide +kernel
theorem dL_known_20 : decode cL_known 20 = .ok (.iaload, 1) := by decide +kernel
theorem dL_known_21 : decode cL_known 21 = .ok (.aload_n 0, 1) := by decide +kernel
theorem dL_known_22 : decode cL_known 22 = .ok (.aload_n 2, 1) := by decide +kernel
theorem dL_known_23 : decode cL_known 23 = .ok (.invokestatic 20, 3) := by decide +kernel
theorem dL_known_26 : decode cL_known 26 = .ok (.bipush 100, 2) := by decide +kernel
theorem dL_known_28 : decode cL_known 28 = .ok (.irem, 1) := by decide +kernel
theorem dL_known_29 : decode cL_known 29 = .ok (.iconst 1, 1) := by decide +kernel
theorem dL_known_30 : decode cL_known 30 = .ok (.if_icmp .ne 7, 3) := by decide +kernel
theorem dL_known_33 : decode cL_known 33 = .ok (.iconst 1, 1) := by decide +kernel
theorem dL_known_34 : decode cL_known 34 = .ok (.goto 4, 3) := by decide +kernel
theorem dL_known_37 : decode cL_known 37 = .ok (.iconst 0, 1) := by decide +kernel
theorem dL_known_38 : decode cL_known 38 = .ok (.iadd, 1) := by decide +kernel
theorem dL_known_39 : decode cL_known 39 = .ok (.istore_n 3, 1) := by decide +kernel
theorem dL_known_40 : decode cL_known 40 = .ok (.iinc 4 1, 3) := by decide +kernel
theorem dL_known_43 : decode cL_known 43 = .ok (.goto (-38), 3) := by decide +kernel
theorem dL_known_46 : decode cL_known 46 = .ok (.iload_n 3, 1) := by decide +kernel
theorem dL_known_47 : decode cL_known 47 = .ok (.ireturn, 1) := by decide +kernel
theorem dL_leaning_0 : decode cL_leaning 0 = .ok (.iconst 0, 1) := by decide +kernel
theorem dL_leaning_1 : decode cL_leaning 1 = .ok (.istore_n 2, 1) := by decide +kernel
theorem dL_leaning_2 : decode cL_leaning 2 = .ok (.iconst 0, 1) := by decide +kernel
theorem dL_leaning_3 : decode cL_leaning 3 = .ok (.istore_n 3, 1) := by decide +kernel
theorem dL_leaning_4 : decode cL_leaning 4 = .ok (.iload_n 3, 1) := by decide +kernel
theorem dL_leaning_5 : decode cL_leaning 5 = .ok (.bipush 12, 2) := by decide +kernel
theorem dL_leaning_7 : decode cL_leaning 7 = .ok (.if_icmp .ge 32, 3) := by decide +kernel
theorem dL_leaning_10 : decode cL_leaning 10 = .ok (.iload_n 2, 1) := by decide +kernel
theorem dL_leaning_11 : decode cL_leaning 11 = .ok (.aload_n 1, 1) := by decide +kernel
theorem dL_leaning_12 : decode cL_leaning 12 = .ok (.iload_n 3, 1) := by decide +kernel
theorem dL_leaning_13 : decode cL_leaning 13 = .ok (.iaload, 1) := by decide +kernel
theorem dL_leaning_14 : decode cL_leaning 14 = .ok (.iload_n 0, 1) := by decide +kernel
theorem dL_leaning_15 : decode cL_leaning 15 = .ok (.if_icmp .gt 11, 3) := by decide +kernel
theorem dL_leaning_18 : decode cL_leaning 18 = .ok (.aload_n 1, 1) := by decide +kernel
theorem dL_leaning_19 : decode cL_leaning 19 = .ok (.iload_n 3, 1) := by decide +kernel
theorem dL_leaning_20 : decode cL_leaning 20 = .ok (.iaload, 1) := by decide +kernel
theorem dL_leaning_21 : decode cL_leaning 21 = .ok (.ineg, 1) := by decide +kernel
theorem dL_leaning_22 : decode cL_leaning 22 = .ok (.iload_n 0, 1) := by decide +kernel
theorem dL_leaning_23 : decode cL_leaning 23 = .ok (.if_icmp .le 7, 3) := by decide +kernel
theorem dL_leaning_26 : decode cL_leaning 26 = .ok (.iconst 1, 1) := by decide +kernel
theorem dL_leaning_27 : decode cL_leaning 27 = .ok (.goto 4, 3) := by decide +kernel
theorem dL_leaning_30 : decode cL_leaning 30 = .ok (.iconst 0, 1) := by decide +kernel
theorem dL_leaning_31 : decode cL_leaning 31 = .ok (.iadd, 1) := by decide +kernel
theorem dL_leaning_32 : decode cL_leaning 32 = .ok (.istore_n 2, 1) := by decide +kernel
theorem dL_leaning_33 : decode cL_leaning 33 = .ok (.iinc 3 1, 3) := by decide +kernel
theorem dL_leaning_36 : decode cL_leaning 36 = .ok (.goto (-32), 3) := by decide +kernel
theorem dL_leaning_39 : decode cL_leaning 39 = .ok (.iload_n 2, 1) := by decide +kernel
theorem dL_leaning_40 : decode cL_leaning 40 = .ok (.ireturn, 1) := by decide +kernel
theorem dL_why_0 : decode cL_why 0 = .ok (.aload_n 0, 1) := by decide +kernel
theorem dL_why_1 : decode cL_why 1 = .ok (.bipush 6, 2) := by decide +kernel
theorem dL_why_3 : decode cL_why 3 = .ok (.iaload, 1) := by decide +kernel
theorem dL_why_4 : decode cL_why 4 = .ok (.ifCond .ne 8, 3) := by decide +kernel
theorem dL_why_7 : decode cL_why 7 = .ok (.bipush (-4), 2) := by decide +kernel
theorem dL_why_9 : decode cL_why 9 = .ok (.goto 47, 3) := by decide +kernel
theorem dL_why_12 : decode cL_why 12 = .ok (.aload_n 0, 1) := by decide +kernel
theorem dL_why_13 : decode cL_why 13 = .ok (.bipush 7, 2) := by decide +kernel
theorem dL_why_15 : decode cL_why 15 = .ok (.iaload, 1) := by decide +kernel
theorem dL_why_16 : decode cL_why 16 = .ok (.bipush 24, 2) := by decide +kernel
theorem dL_why_18 : decode cL_why 18 = .ok (.if_icmp .ge 7, 3) := by decide +kernel
theorem dL_why_21 : decode cL_why 21 = .ok (.iconst 1, 1) := by decide +kernel
theorem dL_why_22 : decode cL_why 22 = .ok (.goto 34, 3) := by decide +kernel
theorem dL_why_25 : decode cL_why 25 = .ok (.aload_n 0, 1) := by decide +kernel
theorem dL_why_26 : decode cL_why 26 = .ok (.iconst 1, 1) := by decide +kernel
theorem dL_why_27 : decode cL_why 27 = .ok (.iaload, 1) := by decide +kernel
theorem dL_why_28 : decode cL_why 28 = .ok (.aload_n 3, 1) := by decide +kernel
theorem dL_why_29 : decode cL_why 29 = .ok (.invokestatic 24, 3) := by decide +kernel
theorem dL_why_32 : decode cL_why 32 = .ok (.ifCond .le 7, 3) := by decide +kernel
theorem dL_why_35 : decode cL_why 35 = .ok (.iconst 2, 1) := by decide +kernel
theorem dL_why_36 : decode cL_why 36 = .ok (.goto 20, 3) := by decide +kernel
theorem dL_why_39 : decode cL_why 39 = .ok (.aload_n 0, 1) := by decide +kernel
theorem dL_why_40 : decode cL_why 40 = .ok (.aload_n 1, 1) := by decide +kernel
theorem dL_why_41 : decode cL_why 41 = .ok (.aload_n 2, 1) := by decide +kernel
theorem dL_why_42 : decode cL_why 42 = .ok (.invokestatic 28, 3) := by decide +kernel
theorem dL_why_45 : decode cL_why 45 = .ok (.aload_n 0, 1) := by decide +kernel
theorem dL_why_46 : decode cL_why 46 = .ok (.iconst 2, 1) := by decide +kernel
theorem dL_why_47 : decode cL_why 47 = .ok (.iaload, 1) := by decide +kernel
theorem dL_why_48 : decode cL_why 48 = .ok (.if_icmp .le 7, 3) := by decide +kernel
theorem dL_why_51 : decode cL_why 51 = .ok (.iconst 3, 1) := by decide +kernel
theorem dL_why_52 : decode cL_why 52 = .ok (.goto 4, 3) := by decide +kernel
theorem dL_why_55 : decode cL_why 55 = .ok (.iconst 0, 1) := by decide +kernel
theorem dL_why_56 : decode cL_why 56 = .ok (.ireturn, 1) := by decide +kernel
theorem dL_call_0 : decode cL_call 0 = .ok (.iload_n 1, 1) := by decide +kernel
theorem dL_call_1 : decode cL_call 1 = .ok (.tableswitch 142 0 9 #[55, 62, 80, 91, 98, 113, 119, 125, 131, 137], 55) := by decide +kernel
theorem dL_call_56 : decode cL_call 56 = .ok (.aload_n 0, 1) := by decide +kernel
theorem dL_call_57 : decode cL_call 57 = .ok (.iload_n 2, 1) := by decide +kernel
theorem dL_call_58 : decode cL_call 58 = .ok (.iload_n 3, 1) := by decide +kernel
theorem dL_call_59 : decode cL_call 59 = .ok (.invokevirtual 32, 3) := by decide +kernel
theorem dL_call_62 : decode cL_call 62 = .ok (.ireturn, 1) := by decide +kernel
theorem dL_call_63 : decode cL_call 63 = .ok (.aload_n 0, 1) := by decide +kernel
theorem dL_call_64 : decode cL_call 64 = .ok (.iload_n 2, 1) := by decide +kernel
theorem dL_call_65 : decode cL_call 65 = .ok (.iload_n 3, 1) := by decide +kernel
theorem dL_call_66 : decode cL_call 66 = .ok (.iload 4, 2) := by decide +kernel
theorem dL_call_68 : decode cL_call 68 = .ok (.iconst 1, 1) := by decide +kernel
theorem dL_call_69 : decode cL_call 69 = .ok (.if_icmp .ne 7, 3) := by decide +kernel
theorem dL_call_72 : decode cL_call 72 = .ok (.iconst 1, 1) := by decide +kernel
theorem dL_call_73 : decode cL_call 73 = .ok (.goto 4, 3) := by decide +kernel
theorem dL_call_76 : decode cL_call 76 = .ok (.iconst 0, 1) := by decide +kernel
theorem dL_call_77 : decode cL_call 77 = .ok (.invokevirtual 37, 3) := by decide +kernel
theorem dL_call_80 : decode cL_call 80 = .ok (.ireturn, 1) := by decide +kernel
theorem dL_call_81 : decode cL_call 81 = .ok (.aload_n 0, 1) := by decide +kernel
theorem dL_call_82 : decode cL_call 82 = .ok (.iload_n 2, 1) := by decide +kernel
theorem dL_call_83 : decode cL_call 83 = .ok (.iload 4, 2) := by decide +kernel
theorem dL_call_85 : decode cL_call 85 = .ok (.bipush 9, 2) := by decide +kernel
theorem dL_call_87 : decode cL_call 87 = .ok (.isub, 1) := by decide +kernel
theorem dL_call_88 : decode cL_call 88 = .ok (.invokevirtual 41, 3) := by decide +kernel
theorem dL_call_91 : decode cL_call 91 = .ok (.ireturn, 1) := by decide +kernel
theorem dL_call_92 : decode cL_call 92 = .ok (.aload_n 0, 1) := by decide +kernel
theorem dL_call_93 : decode cL_call 93 = .ok (.iload_n 2, 1) := by decide +kernel
theorem dL_call_94 : decode cL_call 94 = .ok (.iload_n 3, 1) := by decide +kernel
theorem dL_call_95 : decode cL_call 95 = .ok (.invokevirtual 44, 3) := by decide +kernel
theorem dL_call_98 : decode cL_call 98 = .ok (.ireturn, 1) := by decide +kernel
theorem dL_call_99 : decode cL_call 99 = .ok (.aload_n 0, 1) := by decide +kernel
theorem dL_call_100 : decode cL_call 100 = .ok (.iload_n 2, 1) := by decide +kernel
theorem dL_call_101 : decode cL_call 101 = .ok (.iconst 1, 1) := by decide +kernel
theorem dL_call_102 : decode cL_call 102 = .ok (.if_icmp .ne 7, 3) := by decide +kernel
theorem dL_call_105 : decode cL_call 105 = .ok (.iconst 1, 1) := by decide +kernel
theorem dL_call_106 : decode cL_call 106 = .ok (.goto 4, 3) := by decide +kernel
theorem dL_call_109 : decode cL_call 109 = .ok (.iconst 0, 1) := by decide +kernel
theorem dL_call_110 : decode cL_call 110 = .ok (.invokevirtual 47, 3) := by decide +kernel
theorem dL_call_113 : decode cL_call 113 = .ok (.ireturn, 1) := by decide +kernel
theorem dL_call_114 : decode cL_call 114 = .ok (.aload_n 0, 1) := by decide +kernel
theorem dL_call_115 : decode cL_call 115 = .ok (.iload_n 2, 1) := by decide +kernel
theorem dL_call_116 : decode cL_call 116 = .ok (.invokevirtual 51, 3) := by decide +kernel
theorem dL_call_119 : decode cL_call 119 = .ok (.ireturn, 1) := by decide +kernel
theorem dL_call_120 : decode cL_call 120 = .ok (.aload_n 0, 1) := by decide +kernel
theorem dL_call_121 : decode cL_call 121 = .ok (.iload_n 2, 1) := by decide +kernel
theorem dL_call_122 : decode cL_call 122 = .ok (.invokevirtual 55, 3) := by decide +kernel
theorem dL_call_125 : decode cL_call 125 = .ok (.ireturn, 1) := by decide +kernel
theorem dL_call_126 : decode cL_call 126 = .ok (.aload_n 0, 1) := by decide +kernel
theorem dL_call_127 : decode cL_call 127 = .ok (.iload_n 2, 1) := by decide +kernel
theorem dL_call_128 : decode cL_call 128 = .ok (.invokevirtual 58, 3) := by decide +kernel
theorem dL_call_131 : decode cL_call 131 = .ok (.ireturn, 1) := by decide +kernel
theorem dL_call_132 : decode cL_call 132 = .ok (.aload_n 0, 1) := by decide +kernel
theorem dL_call_133 : decode cL_call 133 = .ok (.iload_n 2, 1) := by decide +kernel
theorem dL_call_134 : decode cL_call 134 = .ok (.invokevirtual 61, 3) := by decide +kernel
theorem dL_call_137 : decode cL_call 137 = .ok (.ireturn, 1) := by decide +kernel
theorem dL_call_138 : decode cL_call 138 = .ok (.aload_n 0, 1) := by decide +kernel
theorem dL_call_139 : decode cL_call 139 = .ok (.invokevirtual 64, 3) := by decide +kernel
theorem dL_call_142 : decode cL_call 142 = .ok (.ireturn, 1) := by decide +kernel
theorem dL_call_143 : decode cL_call 143 = .ok (.aload_n 0, 1) := by decide +kernel
theorem dL_call_144 : decode cL_call 144 = .ok (.invokevirtual 68, 3) := by decide +kernel
theorem dL_call_147 : decode cL_call 147 = .ok (.ireturn, 1) := by decide +kernel
theorem dL_ofBlocks_0 : decode cL_ofBlocks 0 = .ok (.iload_n 0, 1) := by decide +kernel
theorem dL_ofBlocks_1 : decode cL_ofBlocks 1 = .ok (.ifCond .ne 38, 3) := by decide +kernel
theorem dL_ofBlocks_4 : decode cL_ofBlocks 4 = .ok (.aload 5, 2) := by decide +kernel
theorem dL_ofBlocks_6 : decode cL_ofBlocks 6 = .ok (.iload_n 1, 1) := by decide +kernel
theorem dL_ofBlocks_7 : decode cL_ofBlocks 7 = .ok (.iaload, 1) := by decide +kernel
theorem dL_ofBlocks_8 : decode cL_ofBlocks 8 = .ok (.istore 8, 2) := by decide +kernel
theorem dL_ofBlocks_10 : decode cL_ofBlocks 10 = .ok (.aload 5, 2) := by decide +kernel
theorem dL_ofBlocks_12 : decode cL_ofBlocks 12 = .ok (.iload_n 1, 1) := by decide +kernel
theorem dL_ofBlocks_13 : decode cL_ofBlocks 13 = .ok (.aload 5, 2) := by decide +kernel
theorem dL_ofBlocks_15 : decode cL_ofBlocks 15 = .ok (.iload_n 2, 1) := by decide +kernel
theorem dL_ofBlocks_16 : decode cL_ofBlocks 16 = .ok (.iaload, 1) := by decide +kernel
theorem dL_ofBlocks_17 : decode cL_ofBlocks 17 = .ok (.iastore, 1) := by decide +kernel
theorem dL_ofBlocks_18 : decode cL_ofBlocks 18 = .ok (.aload 5, 2) := by decide +kernel
theorem dL_ofBlocks_20 : decode cL_ofBlocks 20 = .ok (.iload_n 2, 1) := by decide +kernel
theorem dL_ofBlocks_21 : decode cL_ofBlocks 21 = .ok (.iload 8, 2) := by decide +kernel
theorem dL_ofBlocks_23 : decode cL_ofBlocks 23 = .ok (.iastore, 1) := by decide +kernel
theorem dL_ofBlocks_24 : decode cL_ofBlocks 24 = .ok (.iload_n 1, 1) := by decide +kernel
theorem dL_ofBlocks_25 : decode cL_ofBlocks 25 = .ok (.iload_n 2, 1) := by decide +kernel
theorem dL_ofBlocks_26 : decode cL_ofBlocks 26 = .ok (.if_icmp .ne 8, 3) := by decide +kernel
theorem dL_ofBlocks_29 : decode cL_ofBlocks 29 = .ok (.bipush (-5), 2) := by decide +kernel
theorem dL_ofBlocks_31 : decode cL_ofBlocks 31 = .ok (.goto 7, 3) := by decide +kernel
theorem dL_ofBlocks_34 : decode cL_ofBlocks 34 = .ok (.aload 5, 2) := by decide +kernel
theorem dL_ofBlocks_36 : decode cL_ofBlocks 36 = .ok (.iload_n 1, 1) := by decide +kernel
theorem dL_ofBlocks_37 : decode cL_ofBlocks 37 = .ok (.iaload, 1) := by decide +kernel
theorem dL_ofBlocks_38 : decode cL_ofBlocks 38 = .ok (.ireturn, 1) := by decide +kernel
theorem dL_ofBlocks_39 : decode cL_ofBlocks 39 = .ok (.iload_n 0, 1) := by decide +kernel
theorem dL_ofBlocks_40 : decode cL_ofBlocks 40 = .ok (.iconst 1, 1) := by decide +kernel
theorem dL_ofBlocks_41 : decode cL_ofBlocks 41 = .ok (.if_icmp .ne 67, 3) := by decide +kernel
theorem dL_ofBlocks_44 : decode cL_ofBlocks 44 = .ok (.aload 6, 2) := by decide +kernel
theorem dL_ofBlocks_46 : decode cL_ofBlocks 46 = .ok (.iload_n 1, 1) := by decide +kernel
theorem dL_ofBlocks_47 : decode cL_ofBlocks 47 = .ok (.iaload, 1) := by decide +kernel
theorem dL_ofBlocks_48 : decode cL_ofBlocks 48 = .ok (.iload_n 2, 1) := by decide +kernel
theorem dL_ofBlocks_49 : decode cL_ofBlocks 49 = .ok (.ishr, 1) := by decide +kernel
theorem dL_ofBlocks_50 : decode cL_ofBlocks 50 = .ok (.iconst 1, 1) := by decide +kernel
theorem dL_ofBlocks_51 : decode cL_ofBlocks 51 = .ok (.iand, 1) := by decide +kernel
theorem dL_ofBlocks_52 : decode cL_ofBlocks 52 = .ok (.iload_n 3, 1) := by decide +kernel
theorem dL_ofBlocks_53 : decode cL_ofBlocks 53 = .ok (.if_icmp .ne 7, 3) := by decide +kernel
theorem dL_ofBlocks_56 : decode cL_ofBlocks 56 = .ok (.iconst 1, 1) := by decide +kernel
theorem dL_ofBlocks_57 : decode cL_ofBlocks 57 = .ok (.goto 4, 3) := by decide +kernel
theorem dL_ofBlocks_60 : decode cL_ofBlocks 60 = .ok (.iconst 0, 1) := by decide +kernel
theorem dL_ofBlocks_61 : decode cL_ofBlocks 61 = .ok (.istore 8, 2) := by decide +kernel
theorem dL_ofBlocks_63 : decode cL_ofBlocks 63 = .ok (.aload 6, 2) := by decide +kernel
theorem dL_ofBlocks_65 : decode cL_ofBlocks 65 = .ok (.iload_n 1, 1) := by decide +kernel
theorem dL_ofBlocks_66 : decode cL_ofBlocks 66 = .ok (.iload_n 3, 1) := by decide +kernel
theorem dL_ofBlocks_67 : decode cL_ofBlocks 67 = .ok (.iconst 1, 1) := by decide +kernel
theorem dL_ofBlocks_68 : decode cL_ofBlocks 68 = .ok (.if_icmp .ne 14, 3) := by decide +kernel
theorem dL_ofBlocks_71 : decode cL_ofBlocks 71 = .ok (.aload 6, 2) := by decide +kernel
theorem dL_ofBlocks_73 : decode cL_ofBlocks 73 = .ok (.iload_n 1, 1) := by decide +kernel
theorem dL_ofBlocks_74 : decode cL_ofBlocks 74 = .ok (.iaload, 1) := by decide +kernel
theorem dL_ofBlocks_75 : decode cL_ofBlocks 75 = .ok (.iconst 1, 1) := by decide +kernel
theorem dL_ofBlocks_76 : decode cL_ofBlocks 76 = .ok (.iload_n 2, 1) := by decide +kernel
theorem dL_ofBlocks_77 : decode cL_ofBlocks 77 = .ok (.ishl, 1) := by decide +kernel
theorem dL_ofBlocks_78 : decode cL_ofBlocks 78 = .ok (.ior, 1) := by decide +kernel
theorem dL_ofBlocks_79 : decode cL_ofBlocks 79 = .ok (.goto 13, 3) := by decide +kernel
theorem dL_ofBlocks_82 : decode cL_ofBlocks 82 = .ok (.aload 6, 2) := by decide +kernel
theorem dL_ofBlocks_84 : decode cL_ofBlocks 84 = .ok (.iload_n 1, 1) := by decide +kernel
theorem dL_ofBlocks_85 : decode cL_ofBlocks 85 = .ok (.iaload, 1) := by decide +kernel
theorem dL_ofBlocks_86 : decode cL_ofBlocks 86 = .ok (.iconst 1, 1) := by decide +kernel
theorem dL_ofBlocks_87 : decode cL_ofBlocks 87 = .ok (.iload_n 2, 1) := by decide +kernel
theorem dL_ofBlocks_88 : decode cL_ofBlocks 88 = .ok (.ishl, 1) := by decide +kernel
theorem dL_ofBlocks_89 : decode cL_ofBlocks 89 = .ok (.iconst (-1), 1) := by decide +kernel
theorem dL_ofBlocks_90 : decode cL_ofBlocks 90 = .ok (.ixor, 1) := by decide +kernel
theorem dL_ofBlocks_91 : decode cL_ofBlocks 91 = .ok (.iand, 1) := by decide +kernel
theorem dL_ofBlocks_92 : decode cL_ofBlocks 92 = .ok (.iastore, 1) := by decide +kernel
theorem dL_ofBlocks_93 : decode cL_ofBlocks 93 = .ok (.iload 8, 2) := by decide +kernel
theorem dL_ofBlocks_95 : decode cL_ofBlocks 95 = .ok (.ifCond .eq 8, 3) := by decide +kernel
theorem dL_ofBlocks_98 : decode cL_ofBlocks 98 = .ok (.bipush (-5), 2) := by decide +kernel
theorem dL_ofBlocks_100 : decode cL_ofBlocks 100 = .ok (.goto 7, 3) := by decide +kernel
theorem dL_ofBlocks_103 : decode cL_ofBlocks 103 = .ok (.aload 6, 2) := by decide +kernel
theorem dL_ofBlocks_105 : decode cL_ofBlocks 105 = .ok (.iload_n 1, 1) := by decide +kernel
theorem dL_ofBlocks_106 : decode cL_ofBlocks 106 = .ok (.iaload, 1) := by decide +kernel
theorem dL_ofBlocks_107 : decode cL_ofBlocks 107 = .ok (.ireturn, 1) := by decide +kernel
theorem dL_ofBlocks_108 : decode cL_ofBlocks 108 = .ok (.iload_n 0, 1) := by decide +kernel
theorem dL_ofBlocks_109 : decode cL_ofBlocks 109 = .ok (.iconst 2, 1) := by decide +kernel
theorem dL_ofBlocks_110 : decode cL_ofBlocks 110 = .ok (.if_icmp .ne 54, 3) := by decide +kernel
theorem dL_ofBlocks_113 : decode cL_ofBlocks 113 = .ok (.iload_n 1, 1) := by decide +kernel
theorem dL_ofBlocks_114 : decode cL_ofBlocks 114 = .ok (.bipush 6, 2) := by decide +kernel
theorem dL_ofBlocks_116 : decode cL_ofBlocks 116 = .ok (.irem, 1) := by decide +kernel
theorem dL_ofBlocks_117 : decode cL_ofBlocks 117 = .ok (.iconst 3, 1) := by decide +kernel
theorem dL_ofBlocks_118 : decode cL_ofBlocks 118 = .ok (.if_icmp .ge 6, 3) := by decide +kernel
theorem dL_ofBlocks_121 : decode cL_ofBlocks 121 = .ok (.bipush (-4), 2) := by decide +kernel
theorem dL_ofBlocks_123 : decode cL_ofBlocks 123 = .ok (.ireturn, 1) := by decide +kernel
theorem dL_ofBlocks_124 : decode cL_ofBlocks 124 = .ok (.aload 7, 2) := by decide +kernel
theorem dL_ofBlocks_126 : decode cL_ofBlocks 126 = .ok (.iload_n 1, 1) := by decide +kernel
theorem dL_ofBlocks_127 : decode cL_ofBlocks 127 = .ok (.invokestatic 71, 3) := by decide +kernel
theorem dL_ofBlocks_130 : decode cL_ofBlocks 130 = .ok (.iaload, 1) := by decide +kernel
theorem dL_ofBlocks_131 : decode cL_ofBlocks 131 = .ok (.istore 8, 2) := by decide +kernel
theorem dL_ofBlocks_133 : decode cL_ofBlocks 133 = .ok (.aload 7, 2) := by decide +kernel
theorem dL_ofBlocks_135 : decode cL_ofBlocks 135 = .ok (.iload_n 1, 1) := by decide +kernel
theorem dL_ofBlocks_136 : decode cL_ofBlocks 136 = .ok (.invokestatic 71, 3) := by decide +kernel
theorem dL_ofBlocks_139 : decode cL_ofBlocks 139 = .ok (.iload_n 3, 1) := by decide +kernel
theorem dL_ofBlocks_140 : decode cL_ofBlocks 140 = .ok (.bipush 9, 2) := by decide +kernel
theorem dL_ofBlocks_142 : decode cL_ofBlocks 142 = .ok (.isub, 1) := by decide +kernel
theorem dL_ofBlocks_143 : decode cL_ofBlocks 143 = .ok (.iastore, 1) := by decide +kernel
theorem dL_ofBlocks_144 : decode cL_ofBlocks 144 = .ok (.iload 8, 2) := by decide +kernel
theorem dL_ofBlocks_146 : decode cL_ofBlocks 146 = .ok (.iload_n 3, 1) := by decide +kernel
theorem dL_ofBlocks_147 : decode cL_ofBlocks 147 = .ok (.bipush 9, 2) := by decide +kernel
theorem dL_ofBlocks_149 : decode cL_ofBlocks 149 = .ok (.isub, 1) := by decide +kernel
theorem dL_ofBlocks_150 : decode cL_ofBlocks 150 = .ok (.if_icmp .ne 8, 3) := by decide +kernel
theorem dL_ofBlocks_153 : decode cL_ofBlocks 153 = .ok (.bipush (-5), 2) := by decide +kernel
theorem dL_ofBlocks_155 : decode cL_ofBlocks 155 = .ok (.goto 8, 3) := by decide +kernel
theorem dL_ofBlocks_158 : decode cL_ofBlocks 158 = .ok (.iload 8, 2) := by decide +kernel
theorem dL_ofBlocks_160 : decode cL_ofBlocks 160 = .ok (.bipush 100, 2) := by decide +kernel
theorem dL_ofBlocks_162 : decode cL_ofBlocks 162 = .ok (.iadd, 1) := by decide +kernel
theorem dL_ofBlocks_163 : decode cL_ofBlocks 163 = .ok (.ireturn, 1) := by decide +kernel
theorem dL_ofBlocks_164 : decode cL_ofBlocks 164 = .ok (.aload 4, 2) := by decide +kernel
theorem dL_ofBlocks_166 : decode cL_ofBlocks 166 = .ok (.iload_n 1, 1) := by decide +kernel
theorem dL_ofBlocks_167 : decode cL_ofBlocks 167 = .ok (.iaload, 1) := by decide +kernel
theorem dL_ofBlocks_168 : decode cL_ofBlocks 168 = .ok (.istore 8, 2) := by decide +kernel
theorem dL_ofBlocks_170 : decode cL_ofBlocks 170 = .ok (.aload 4, 2) := by decide +kernel
theorem dL_ofBlocks_172 : decode cL_ofBlocks 172 = .ok (.iload_n 1, 1) := by decide +kernel
theorem dL_ofBlocks_173 : decode cL_ofBlocks 173 = .ok (.iload_n 2, 1) := by decide +kernel
theorem dL_ofBlocks_174 : decode cL_ofBlocks 174 = .ok (.iastore, 1) := by decide +kernel
theorem dL_ofBlocks_175 : decode cL_ofBlocks 175 = .ok (.iload 8, 2) := by decide +kernel
theorem dL_ofBlocks_177 : decode cL_ofBlocks 177 = .ok (.iload_n 2, 1) := by decide +kernel
theorem dL_ofBlocks_178 : decode cL_ofBlocks 178 = .ok (.if_icmp .ne 8, 3) := by decide +kernel
theorem dL_ofBlocks_181 : decode cL_ofBlocks 181 = .ok (.bipush (-5), 2) := by decide +kernel
theorem dL_ofBlocks_183 : decode cL_ofBlocks 183 = .ok (.goto 5, 3) := by decide +kernel
theorem dL_ofBlocks_186 : decode cL_ofBlocks 186 = .ok (.iload 8, 2) := by decide +kernel
theorem dL_ofBlocks_188 : decode cL_ofBlocks 188 = .ok (.ireturn, 1) := by decide +kernel
theorem dL_ofPack_0 : decode cL_ofPack 0 = .ok (.iload_n 0, 1) := by decide +kernel
theorem dL_ofPack_1 : decode cL_ofPack 1 = .ok (.iconst 5, 1) := by decide +kernel
theorem dL_ofPack_2 : decode cL_ofPack 2 = .ok (.if_icmp .ne 36, 3) := by decide +kernel
theorem dL_ofPack_5 : decode cL_ofPack 5 = .ok (.aload_n 2, 1) := by decide +kernel
theorem dL_ofPack_6 : decode cL_ofPack 6 = .ok (.bipush 6, 2) := by decide +kernel
theorem dL_ofPack_8 : decode cL_ofPack 8 = .ok (.iaload, 1) := by decide +kernel
theorem dL_ofPack_9 : decode cL_ofPack 9 = .ok (.iconst 1, 1) := by decide +kernel
theorem dL_ofPack_10 : decode cL_ofPack 10 = .ok (.if_icmp .eq 9, 3) := by decide +kernel
theorem dL_ofPack_13 : decode cL_ofPack 13 = .ok (.aload_n 2, 1) := by decide +kernel
theorem dL_ofPack_14 : decode cL_ofPack 14 = .ok (.iconst 5, 1) := by decide +kernel
theorem dL_ofPack_15 : decode cL_ofPack 15 = .ok (.iaload, 1) := by decide +kernel
theorem dL_ofPack_16 : decode cL_ofPack 16 = .ok (.ifCond .ne 6, 3) := by decide +kernel
theorem dL_ofPack_19 : decode cL_ofPack 19 = .ok (.bipush (-4), 2) := by decide +kernel
theorem dL_ofPack_21 : decode cL_ofPack 21 = .ok (.ireturn, 1) := by decide +kernel
theorem dL_ofPack_22 : decode cL_ofPack 22 = .ok (.iload_n 1, 1) := by decide +kernel
theorem dL_ofPack_23 : decode cL_ofPack 23 = .ok (.aload_n 2, 1) := by decide +kernel
theorem dL_ofPack_24 : decode cL_ofPack 24 = .ok (.aload_n 3, 1) := by decide +kernel
theorem dL_ofPack_25 : decode cL_ofPack 25 = .ok (.aload 4, 2) := by decide +kernel
theorem dL_ofPack_27 : decode cL_ofPack 27 = .ok (.aload 5, 2) := by decide +kernel
theorem dL_ofPack_29 : decode cL_ofPack 29 = .ok (.aload 6, 2) := by decide +kernel
theorem dL_ofPack_31 : decode cL_ofPack 31 = .ok (.invokestatic 74, 3) := by decide +kernel
theorem dL_ofPack_34 : decode cL_ofPack 34 = .ok (.aload_n 2, 1) := by decide +kernel
theorem dL_ofPack_35 : decode cL_ofPack 35 = .ok (.iconst 5, 1) := by decide +kernel
theorem dL_ofPack_36 : decode cL_ofPack 36 = .ok (.iaload, 1) := by decide +kernel
theorem dL_ofPack_37 : decode cL_ofPack 37 = .ok (.ireturn, 1) := by decide +kernel
theorem dL_ofPack_38 : decode cL_ofPack 38 = .ok (.aload_n 2, 1) := by decide +kernel
theorem dL_ofPack_39 : decode cL_ofPack 39 = .ok (.bipush 6, 2) := by decide +kernel
theorem dL_ofPack_41 : decode cL_ofPack 41 = .ok (.iaload, 1) := by decide +kernel
theorem dL_ofPack_42 : decode cL_ofPack 42 = .ok (.ifCond .ne 6, 3) := by decide +kernel
theorem dL_ofPack_45 : decode cL_ofPack 45 = .ok (.bipush (-4), 2) := by decide +kernel
theorem dL_ofPack_47 : decode cL_ofPack 47 = .ok (.ireturn, 1) := by decide +kernel
theorem dL_ofPack_48 : decode cL_ofPack 48 = .ok (.iload_n 0, 1) := by decide +kernel
theorem dL_ofPack_49 : decode cL_ofPack 49 = .ok (.bipush 8, 2) := by decide +kernel
theorem dL_ofPack_51 : decode cL_ofPack 51 = .ok (.if_icmp .ge 11, 3) := by decide +kernel
theorem dL_ofPack_54 : decode cL_ofPack 54 = .ok (.iload_n 1, 1) := by decide +kernel
theorem dL_ofPack_55 : decode cL_ofPack 55 = .ok (.aload_n 2, 1) := by decide +kernel
theorem dL_ofPack_56 : decode cL_ofPack 56 = .ok (.bipush 7, 2) := by decide +kernel
theorem dL_ofPack_58 : decode cL_ofPack 58 = .ok (.iaload, 1) := by decide +kernel
theorem dL_ofPack_59 : decode cL_ofPack 59 = .ok (.if_icmp .ge 17, 3) := by decide +kernel
theorem dL_ofPack_62 : decode cL_ofPack 62 = .ok (.iload_n 0, 1) := by decide +kernel
theorem dL_ofPack_63 : decode cL_ofPack 63 = .ok (.bipush 8, 2) := by decide +kernel
theorem dL_ofPack_65 : decode cL_ofPack 65 = .ok (.if_icmp .ne 14, 3) := by decide +kernel
theorem dL_ofPack_68 : decode cL_ofPack 68 = .ok (.iload_n 1, 1) := by decide +kernel
theorem dL_ofPack_69 : decode cL_ofPack 69 = .ok (.aload_n 2, 1) := by decide +kernel
theorem dL_ofPack_70 : decode cL_ofPack 70 = .ok (.bipush 7, 2) := by decide +kernel
theorem dL_ofPack_72 : decode cL_ofPack 72 = .ok (.iaload, 1) := by decide +kernel
theorem dL_ofPack_73 : decode cL_ofPack 73 = .ok (.if_icmp .le 6, 3) := by decide +kernel
theorem dL_ofPack_76 : decode cL_ofPack 76 = .ok (.bipush (-2), 2) := by decide +kernel
theorem dL_ofPack_78 : decode cL_ofPack 78 = .ok (.ireturn, 1) := by decide +kernel
theorem dL_ofPack_79 : decode cL_ofPack 79 = .ok (.aload_n 2, 1) := by decide +kernel
theorem dL_ofPack_80 : decode cL_ofPack 80 = .ok (.bipush 7, 2) := by decide +kernel
theorem dL_ofPack_82 : decode cL_ofPack 82 = .ok (.iaload, 1) := by decide +kernel
theorem dL_ofPack_83 : decode cL_ofPack 83 = .ok (.istore 7, 2) := by decide +kernel
theorem dL_ofPack_85 : decode cL_ofPack 85 = .ok (.iload_n 0, 1) := by decide +kernel
theorem dL_ofPack_86 : decode cL_ofPack 86 = .ok (.bipush 6, 2) := by decide +kernel
theorem dL_ofPack_88 : decode cL_ofPack 88 = .ok (.if_icmp .ne 15, 3) := by decide +kernel
theorem dL_ofPack_91 : decode cL_ofPack 91 = .ok (.iload_n 1, 1) := by decide +kernel
theorem dL_ofPack_92 : decode cL_ofPack 92 = .ok (.aload_n 2, 1) := by decide +kernel
theorem dL_ofPack_93 : decode cL_ofPack 93 = .ok (.aload 4, 2) := by decide +kernel
theorem dL_ofPack_95 : decode cL_ofPack 95 = .ok (.invokestatic 78, 3) := by decide +kernel
theorem dL_ofPack_98 : decode cL_ofPack 98 = .ok (.aload 4, 2) := by decide +kernel
theorem dL_ofPack_100 : decode cL_ofPack 100 = .ok (.iconst 0, 1) := by decide +kernel
theorem dL_ofPack_101 : decode cL_ofPack 101 = .ok (.iaload, 1) := by decide +kernel
theorem dL_ofPack_102 : decode cL_ofPack 102 = .ok (.ireturn, 1) := by decide +kernel
theorem dL_ofPack_103 : decode cL_ofPack 103 = .ok (.iload_n 0, 1) := by decide +kernel
theorem dL_ofPack_104 : decode cL_ofPack 104 = .ok (.bipush 7, 2) := by decide +kernel
theorem dL_ofPack_106 : decode cL_ofPack 106 = .ok (.if_icmp .ne 11, 3) := by decide +kernel
theorem dL_ofPack_109 : decode cL_ofPack 109 = .ok (.iload_n 1, 1) := by decide +kernel
theorem dL_ofPack_110 : decode cL_ofPack 110 = .ok (.aload_n 2, 1) := by decide +kernel
theorem dL_ofPack_111 : decode cL_ofPack 111 = .ok (.aload 4, 2) := by decide +kernel
theorem dL_ofPack_113 : decode cL_ofPack 113 = .ok (.invokestatic 82, 3) := by decide +kernel
theorem dL_ofPack_116 : decode cL_ofPack 116 = .ok (.ireturn, 1) := by decide +kernel
theorem dL_ofPack_117 : decode cL_ofPack 117 = .ok (.iload_n 0, 1) := by decide +kernel
theorem dL_ofPack_118 : decode cL_ofPack 118 = .ok (.bipush 8, 2) := by decide +kernel
theorem dL_ofPack_120 : decode cL_ofPack 120 = .ok (.if_icmp .ne 52, 3) := by decide +kernel
theorem dL_ofPack_123 : decode cL_ofPack 123 = .ok (.iconst 0, 1) := by decide +kernel
theorem dL_ofPack_124 : decode cL_ofPack 124 = .ok (.istore 8, 2) := by decide +kernel
theorem dL_ofPack_126 : decode cL_ofPack 126 = .ok (.iload 8, 2) := by decide +kernel
theorem dL_ofPack_128 : decode cL_ofPack 128 = .ok (.iload_n 1, 1) := by decide +kernel
theorem dL_ofPack_129 : decode cL_ofPack 129 = .ok (.if_icmp .ge 23, 3) := by decide +kernel
theorem dL_ofPack_132 : decode cL_ofPack 132 = .ok (.aload_n 2, 1) := by decide +kernel
theorem dL_ofPack_133 : decode cL_ofPack 133 = .ok (.bipush 11, 2) := by decide +kernel
theorem dL_ofPack_135 : decode cL_ofPack 135 = .ok (.dup2, 1) := by decide +kernel
theorem dL_ofPack_136 : decode cL_ofPack 136 = .ok (.iaload, 1) := by decide +kernel
theorem dL_ofPack_137 : decode cL_ofPack 137 = .ok (.iconst 1, 1) := by decide +kernel
theorem dL_ofPack_138 : decode cL_ofPack 138 = .ok (.aload 4, 2) := by decide +kernel
theorem dL_ofPack_140 : decode cL_ofPack 140 = .ok (.iload 8, 2) := by decide +kernel
theorem dL_ofPack_142 : decode cL_ofPack 142 = .ok (.iaload, 1) := by decide +kernel
theorem dL_ofPack_143 : decode cL_ofPack 143 = .ok (.ishl, 1) := by decide +kernel
theorem dL_ofPack_144 : decode cL_ofPack 144 = .ok (.ior, 1) := by decide +kernel
theorem dL_ofPack_145 : decode cL_ofPack 145 = .ok (.iastore, 1) := by decide +kernel
theorem dL_ofPack_146 : decode cL_ofPack 146 = .ok (.iinc 8 1, 3) := by decide +kernel
theorem dL_ofPack_149 : decode cL_ofPack 149 = .ok (.goto (-23), 3) := by decide +kernel
theorem dL_ofPack_152 : decode cL_ofPack 152 = .ok (.iload_n 1, 1) := by decide +kernel
theorem dL_ofPack_153 : decode cL_ofPack 153 = .ok (.aload_n 2, 1) := by decide +kernel
theorem dL_ofPack_154 : decode cL_ofPack 154 = .ok (.aload 4, 2) := by decide +kernel
theorem dL_ofPack_156 : decode cL_ofPack 156 = .ok (.invokestatic 78, 3) := by decide +kernel
theorem dL_ofPack_159 : decode cL_ofPack 159 = .ok (.aload_n 2, 1) := by decide +kernel
theorem dL_ofPack_160 : decode cL_ofPack 160 = .ok (.bipush 7, 2) := by decide +kernel
theorem dL_ofPack_162 : decode cL_ofPack 162 = .ok (.dup2, 1) := by decide +kernel
theorem dL_ofPack_163 : decode cL_ofPack 163 = .ok (.iaload, 1) := by decide +kernel
theorem dL_ofPack_164 : decode cL_ofPack 164 = .ok (.iload_n 1, 1) := by decide +kernel
theorem dL_ofPack_165 : decode cL_ofPack 165 = .ok (.isub, 1) := by decide +kernel
theorem dL_ofPack_166 : decode cL_ofPack 166 = .ok (.iastore, 1) := by decide +kernel
theorem dL_ofPack_167 : decode cL_ofPack 167 = .ok (.aload_n 2, 1) := by decide +kernel
theorem dL_ofPack_168 : decode cL_ofPack 168 = .ok (.bipush 7, 2) := by decide +kernel
theorem dL_ofPack_170 : decode cL_ofPack 170 = .ok (.iaload, 1) := by decide +kernel
theorem dL_ofPack_171 : decode cL_ofPack 171 = .ok (.ireturn, 1) := by decide +kernel
theorem dL_ofPack_172 : decode cL_ofPack 172 = .ok (.iload_n 0, 1) := by decide +kernel
theorem dL_ofPack_173 : decode cL_ofPack 173 = .ok (.bipush 9, 2) := by decide +kernel
theorem dL_ofPack_175 : decode cL_ofPack 175 = .ok (.if_icmp .ne 30, 3) := by decide +kernel
theorem dL_ofPack_178 : decode cL_ofPack 178 = .ok (.aload_n 2, 1) := by decide +kernel
theorem dL_ofPack_179 : decode cL_ofPack 179 = .ok (.aload 4, 2) := by decide +kernel
theorem dL_ofPack_181 : decode cL_ofPack 181 = .ok (.aload 5, 2) := by decide +kernel
theorem dL_ofPack_183 : decode cL_ofPack 183 = .ok (.aload 6, 2) := by decide +kernel
theorem dL_ofPack_185 : decode cL_ofPack 185 = .ok (.invokestatic 85, 3) := by decide +kernel
theorem dL_ofPack_188 : decode cL_ofPack 188 = .ok (.ifCond .eq 17, 3) := by decide +kernel
theorem dL_ofPack_191 : decode cL_ofPack 191 = .ok (.bipush (-10), 2) := by decide +kernel
theorem dL_ofPack_193 : decode cL_ofPack 193 = .ok (.aload_n 2, 1) := by decide +kernel
theorem dL_ofPack_194 : decode cL_ofPack 194 = .ok (.aload 4, 2) := by decide +kernel
theorem dL_ofPack_196 : decode cL_ofPack 196 = .ok (.aload 5, 2) := by decide +kernel
theorem dL_ofPack_198 : decode cL_ofPack 198 = .ok (.aload 6, 2) := by decide +kernel
theorem dL_ofPack_200 : decode cL_ofPack 200 = .ok (.invokestatic 85, 3) := by decide +kernel
theorem dL_ofPack_203 : decode cL_ofPack 203 = .ok (.isub, 1) := by decide +kernel
theorem dL_ofPack_204 : decode cL_ofPack 204 = .ok (.ireturn, 1) := by decide +kernel
theorem dL_ofPack_205 : decode cL_ofPack 205 = .ok (.aload_n 2, 1) := by decide +kernel
theorem dL_ofPack_206 : decode cL_ofPack 206 = .ok (.bipush 6, 2) := by decide +kernel
theorem dL_ofPack_208 : decode cL_ofPack 208 = .ok (.iconst 0, 1) := by decide +kernel
theorem dL_ofPack_209 : decode cL_ofPack 209 = .ok (.iastore, 1) := by decide +kernel
theorem dL_ofPack_210 : decode cL_ofPack 210 = .ok (.aload_n 2, 1) := by decide +kernel
theorem dL_ofPack_211 : decode cL_ofPack 211 = .ok (.bipush 7, 2) := by decide +kernel
theorem dL_ofPack_213 : decode cL_ofPack 213 = .ok (.iconst 0, 1) := by decide +kernel
theorem dL_ofPack_214 : decode cL_ofPack 214 = .ok (.iastore, 1) := by decide +kernel
theorem dL_ofPack_215 : decode cL_ofPack 215 = .ok (.aload_n 2, 1) := by decide +kernel
theorem dL_ofPack_216 : decode cL_ofPack 216 = .ok (.bipush 8, 2) := by decide +kernel
theorem dL_ofPack_218 : decode cL_ofPack 218 = .ok (.dup2, 1) := by decide +kernel
theorem dL_ofPack_219 : decode cL_ofPack 219 = .ok (.iaload, 1) := by decide +kernel
theorem dL_ofPack_220 : decode cL_ofPack 220 = .ok (.iload_n 0, 1) := by decide +kernel
theorem dL_ofPack_221 : decode cL_ofPack 221 = .ok (.bipush 9, 2) := by decide +kernel
theorem dL_ofPack_223 : decode cL_ofPack 223 = .ok (.if_icmp .ne 7, 3) := by decide +kernel
theorem dL_ofPack_226 : decode cL_ofPack 226 = .ok (.iconst 1, 1) := by decide +kernel
theorem dL_ofPack_227 : decode cL_ofPack 227 = .ok (.goto 4, 3) := by decide +kernel
theorem dL_ofPack_230 : decode cL_ofPack 230 = .ok (.iconst 0, 1) := by decide +kernel
theorem dL_ofPack_231 : decode cL_ofPack 231 = .ok (.iadd, 1) := by decide +kernel
theorem dL_ofPack_232 : decode cL_ofPack 232 = .ok (.iastore, 1) := by decide +kernel
theorem dL_ofPack_233 : decode cL_ofPack 233 = .ok (.aload_n 2, 1) := by decide +kernel
theorem dL_ofPack_234 : decode cL_ofPack 234 = .ok (.bipush 9, 2) := by decide +kernel
theorem dL_ofPack_236 : decode cL_ofPack 236 = .ok (.dup2, 1) := by decide +kernel
theorem dL_ofPack_237 : decode cL_ofPack 237 = .ok (.iaload, 1) := by decide +kernel
theorem dL_ofPack_238 : decode cL_ofPack 238 = .ok (.iload_n 0, 1) := by decide +kernel
theorem dL_ofPack_239 : decode cL_ofPack 239 = .ok (.bipush 9, 2) := by decide +kernel
theorem dL_ofPack_241 : decode cL_ofPack 241 = .ok (.if_icmp .ne 7, 3) := by decide +kernel
theorem dL_ofPack_244 : decode cL_ofPack 244 = .ok (.iconst 0, 1) := by decide +kernel
theorem dL_ofPack_245 : decode cL_ofPack 245 = .ok (.goto 4, 3) := by decide +kernel
theorem dL_ofPack_248 : decode cL_ofPack 248 = .ok (.iconst 1, 1) := by decide +kernel
theorem dL_ofPack_249 : decode cL_ofPack 249 = .ok (.iadd, 1) := by decide +kernel
theorem dL_ofPack_250 : decode cL_ofPack 250 = .ok (.iastore, 1) := by decide +kernel
theorem dL_ofPack_251 : decode cL_ofPack 251 = .ok (.aload_n 2, 1) := by decide +kernel
theorem dL_ofPack_252 : decode cL_ofPack 252 = .ok (.bipush 10, 2) := by decide +kernel
theorem dL_ofPack_254 : decode cL_ofPack 254 = .ok (.dup2, 1) := by decide +kernel
theorem dL_ofPack_255 : decode cL_ofPack 255 = .ok (.iaload, 1) := by decide +kernel
theorem dL_ofPack_256 : decode cL_ofPack 256 = .ok (.iload_n 0, 1) := by decide +kernel
theorem dL_ofPack_257 : decode cL_ofPack 257 = .ok (.bipush 9, 2) := by decide +kernel
theorem dL_ofPack_259 : decode cL_ofPack 259 = .ok (.if_icmp .ne 9, 3) := by decide +kernel
theorem dL_ofPack_262 : decode cL_ofPack 262 = .ok (.aload_n 2, 1) := by decide +kernel
theorem dL_ofPack_263 : decode cL_ofPack 263 = .ok (.iconst 3, 1) := by decide +kernel
theorem dL_ofPack_264 : decode cL_ofPack 264 = .ok (.iaload, 1) := by decide +kernel
theorem dL_ofPack_265 : decode cL_ofPack 265 = .ok (.goto 4, 3) := by decide +kernel
theorem dL_ofPack_268 : decode cL_ofPack 268 = .ok (.iconst 0, 1) := by decide +kernel
theorem dL_ofPack_269 : decode cL_ofPack 269 = .ok (.iadd, 1) := by decide +kernel
theorem dL_ofPack_270 : decode cL_ofPack 270 = .ok (.iastore, 1) := by decide +kernel
theorem dL_ofPack_271 : decode cL_ofPack 271 = .ok (.iload_n 0, 1) := by decide +kernel
theorem dL_ofPack_272 : decode cL_ofPack 272 = .ok (.bipush 9, 2) := by decide +kernel
theorem dL_ofPack_274 : decode cL_ofPack 274 = .ok (.if_icmp .ne 9, 3) := by decide +kernel
theorem dL_ofPack_277 : decode cL_ofPack 277 = .ok (.aload_n 2, 1) := by decide +kernel
theorem dL_ofPack_278 : decode cL_ofPack 278 = .ok (.iconst 3, 1) := by decide +kernel
theorem dL_ofPack_279 : decode cL_ofPack 279 = .ok (.iaload, 1) := by decide +kernel
theorem dL_ofPack_280 : decode cL_ofPack 280 = .ok (.goto 5, 3) := by decide +kernel
theorem dL_ofPack_283 : decode cL_ofPack 283 = .ok (.iload 7, 2) := by decide +kernel
theorem dL_ofPack_285 : decode cL_ofPack 285 = .ok (.ireturn, 1) := by decide +kernel
theorem dL_isPack_0 : decode cL_isPack 0 = .ok (.fconst 0, 1) := by decide +kernel
theorem dL_isPack_1 : decode cL_isPack 1 = .ok (.fstore 5, 2) := by decide +kernel
theorem dL_isPack_3 : decode cL_isPack 3 = .ok (.iconst 0, 1) := by decide +kernel
theorem dL_isPack_4 : decode cL_isPack 4 = .ok (.istore 6, 2) := by decide +kernel
theorem dL_isPack_6 : decode cL_isPack 6 = .ok (.iconst 0, 1) := by decide +kernel
theorem dL_isPack_7 : decode cL_isPack 7 = .ok (.istore 7, 2) := by decide +kernel
theorem dL_isPack_9 : decode cL_isPack 9 = .ok (.iload 7, 2) := by decide +kernel
theorem dL_isPack_11 : decode cL_isPack 11 = .ok (.aload_n 2, 1) := by decide +kernel
theorem dL_isPack_12 : decode cL_isPack 12 = .ok (.bipush 7, 2) := by decide +kernel
theorem dL_isPack_14 : decode cL_isPack 14 = .ok (.iaload, 1) := by decide +kernel
theorem dL_isPack_15 : decode cL_isPack 15 = .ok (.if_icmp .ge 59, 3) := by decide +kernel
theorem dL_isPack_18 : decode cL_isPack 18 = .ok (.aload 4, 2) := by decide +kernel
theorem dL_isPack_20 : decode cL_isPack 20 = .ok (.aload_n 3, 1) := by decide +kernel
theorem dL_isPack_21 : decode cL_isPack 21 = .ok (.iload 7, 2) := by decide +kernel
theorem dL_isPack_23 : decode cL_isPack 23 = .ok (.iaload, 1) := by decide +kernel
theorem dL_isPack_24 : decode cL_isPack 24 = .ok (.iaload, 1) := by decide +kernel
theorem dL_isPack_25 : decode cL_isPack 25 = .ok (.aload_n 2, 1) := by decide +kernel
theorem dL_isPack_26 : decode cL_isPack 26 = .ok (.aload 4, 2) := by decide +kernel
theorem dL_isPack_28 : decode cL_isPack 28 = .ok (.invokestatic 20, 3) := by decide +kernel
theorem dL_isPack_31 : decode cL_isPack 31 = .ok (.istore 8, 2) := by decide +kernel
theorem dL_isPack_33 : decode cL_isPack 33 = .ok (.fload 5, 2) := by decide +kernel
theorem dL_isPack_35 : decode cL_isPack 35 = .ok (.fconst 1, 1) := by decide +kernel
theorem dL_isPack_36 : decode cL_isPack 36 = .ok (.iload 8, 2) := by decide +kernel
theorem dL_isPack_38 : decode cL_isPack 38 = .ok (.bipush 100, 2) := by decide +kernel
theorem dL_isPack_40 : decode cL_isPack 40 = .ok (.irem, 1) := by decide +kernel
theorem dL_isPack_41 : decode cL_isPack 41 = .ok (.i2f, 1) := by decide +kernel
theorem dL_isPack_42 : decode cL_isPack 42 = .ok (.fdiv, 1) := by decide +kernel
theorem dL_isPack_43 : decode cL_isPack 43 = .ok (.fadd, 1) := by decide +kernel
theorem dL_isPack_44 : decode cL_isPack 44 = .ok (.fstore 5, 2) := by decide +kernel
theorem dL_isPack_46 : decode cL_isPack 46 = .ok (.iload 6, 2) := by decide +kernel
theorem dL_isPack_48 : decode cL_isPack 48 = .ok (.iload 8, 2) := by decide +kernel
theorem dL_isPack_50 : decode cL_isPack 50 = .ok (.bipush 100, 2) := by decide +kernel
theorem dL_isPack_52 : decode cL_isPack 52 = .ok (.idiv, 1) := by decide +kernel
theorem dL_isPack_53 : decode cL_isPack 53 = .ok (.aload_n 3, 1) := by decide +kernel
theorem dL_isPack_54 : decode cL_isPack 54 = .ok (.iload 7, 2) := by decide +kernel
theorem dL_isPack_56 : decode cL_isPack 56 = .ok (.iaload, 1) := by decide +kernel
theorem dL_isPack_57 : decode cL_isPack 57 = .ok (.if_icmp .ne 7, 3) := by decide +kernel
theorem dL_isPack_60 : decode cL_isPack 60 = .ok (.iconst 1, 1) := by decide +kernel
theorem dL_isPack_61 : decode cL_isPack 61 = .ok (.goto 4, 3) := by decide +kernel
theorem dL_isPack_64 : decode cL_isPack 64 = .ok (.iconst 0, 1) := by decide +kernel
theorem dL_isPack_65 : decode cL_isPack 65 = .ok (.iadd, 1) := by decide +kernel
theorem dL_isPack_66 : decode cL_isPack 66 = .ok (.istore 6, 2) := by decide +kernel
theorem dL_isPack_68 : decode cL_isPack 68 = .ok (.iinc 7 1, 3) := by decide +kernel
theorem dL_isPack_71 : decode cL_isPack 71 = .ok (.goto (-62), 3) := by decide +kernel
theorem dL_isPack_74 : decode cL_isPack 74 = .ok (.iload_n 1, 1) := by decide +kernel
theorem dL_isPack_75 : decode cL_isPack 75 = .ok (.bipush 24, 2) := by decide +kernel
theorem dL_isPack_77 : decode cL_isPack 77 = .ok (.invokestatic 89, 3) := by decide +kernel
theorem dL_isPack_80 : decode cL_isPack 80 = .ok (.istore 7, 2) := by decide +kernel
theorem dL_isPack_82 : decode cL_isPack 82 = .ok (.bipush (-5), 2) := by decide +kernel
theorem dL_isPack_84 : decode cL_isPack 84 = .ok (.istore 8, 2) := by decide +kernel
theorem dL_isPack_86 : decode cL_isPack 86 = .ok (.iconst 0, 1) := by decide +kernel
theorem dL_isPack_87 : decode cL_isPack 87 = .ok (.istore 9, 2) := by decide +kernel
theorem dL_isPack_89 : decode cL_isPack 89 = .ok (.iload 9, 2) := by decide +kernel
theorem dL_isPack_91 : decode cL_isPack 91 = .ok (.aload_n 2, 1) := by decide +kernel
theorem dL_isPack_92 : decode cL_isPack 92 = .ok (.bipush 7, 2) := by decide +kernel
theorem dL_isPack_94 : decode cL_isPack 94 = .ok (.iaload, 1) := by decide +kernel
theorem dL_isPack_95 : decode cL_isPack 95 = .ok (.if_icmp .ge 27, 3) := by decide +kernel
theorem dL_isPack_98 : decode cL_isPack 98 = .ok (.aload_n 3, 1) := by decide +kernel
theorem dL_isPack_99 : decode cL_isPack 99 = .ok (.iload 9, 2) := by decide +kernel
theorem dL_isPack_101 : decode cL_isPack 101 = .ok (.iaload, 1) := by decide +kernel
theorem dL_isPack_102 : decode cL_isPack 102 = .ok (.iload 7, 2) := by decide +kernel
theorem dL_isPack_104 : decode cL_isPack 104 = .ok (.if_icmp .ne 8, 3) := by decide +kernel
theorem dL_isPack_107 : decode cL_isPack 107 = .ok (.iload 9, 2) := by decide +kernel
theorem dL_isPack_109 : decode cL_isPack 109 = .ok (.goto 5, 3) := by decide +kernel
theorem dL_isPack_112 : decode cL_isPack 112 = .ok (.iload 8, 2) := by decide +kernel
theorem dL_isPack_114 : decode cL_isPack 114 = .ok (.istore 8, 2) := by decide +kernel
theorem dL_isPack_116 : decode cL_isPack 116 = .ok (.iinc 9 1, 3) := by decide +kernel
theorem dL_isPack_119 : decode cL_isPack 119 = .ok (.goto (-30), 3) := by decide +kernel
theorem dL_isPack_122 : decode cL_isPack 122 = .ok (.aload_n 0, 1) := by decide +kernel
theorem dL_isPack_123 : decode cL_isPack 123 = .ok (.iconst 3, 1) := by decide +kernel
theorem dL_isPack_124 : decode cL_isPack 124 = .ok (.invokevirtual 92, 3) := by decide +kernel
theorem dL_isPack_127 : decode cL_isPack 127 = .ok (.aload_n 2, 1) := by decide +kernel
theorem dL_isPack_128 : decode cL_isPack 128 = .ok (.bipush 7, 2) := by decide +kernel
theorem dL_isPack_130 : decode cL_isPack 130 = .ok (.iaload, 1) := by decide +kernel
theorem dL_isPack_131 : decode cL_isPack 131 = .ok (.if_icmp .ne 136, 3) := by decide +kernel
theorem dL_isPack_134 : decode cL_isPack 134 = .ok (.aload_n 0, 1) := by decide +kernel
theorem dL_isPack_135 : decode cL_isPack 135 = .ok (.iconst 4, 1) := by decide +kernel
theorem dL_isPack_136 : decode cL_isPack 136 = .ok (.invokevirtual 92, 3) := by decide +kernel
theorem dL_isPack_139 : decode cL_isPack 139 = .ok (.aload_n 2, 1) := by decide +kernel
theorem dL_isPack_140 : decode cL_isPack 140 = .ok (.bipush 6, 2) := by decide +kernel
theorem dL_isPack_142 : decode cL_isPack 142 = .ok (.iaload, 1) := by decide +kernel
theorem dL_isPack_143 : decode cL_isPack 143 = .ok (.iconst 1, 1) := by decide +kernel
theorem dL_isPack_144 : decode cL_isPack 144 = .ok (.if_icmp .ne 13, 3) := by decide +kernel
theorem dL_isPack_147 : decode cL_isPack 147 = .ok (.bipush 24, 2) := by decide +kernel
theorem dL_isPack_149 : decode cL_isPack 149 = .ok (.aload_n 2, 1) := by decide +kernel
theorem dL_isPack_150 : decode cL_isPack 150 = .ok (.bipush 7, 2) := by decide +kernel
theorem dL_isPack_152 : decode cL_isPack 152 = .ok (.iaload, 1) := by decide +kernel
theorem dL_isPack_153 : decode cL_isPack 153 = .ok (.isub, 1) := by decide +kernel
theorem dL_isPack_154 : decode cL_isPack 154 = .ok (.goto 4, 3) := by decide +kernel
theorem dL_isPack_157 : decode cL_isPack 157 = .ok (.iconst 0, 1) := by decide +kernel
theorem dL_isPack_158 : decode cL_isPack 158 = .ok (.if_icmp .ne 109, 3) := by decide +kernel
theorem dL_isPack_161 : decode cL_isPack 161 = .ok (.aload_n 0, 1) := by decide +kernel
theorem dL_isPack_162 : decode cL_isPack 162 = .ok (.iconst 5, 1) := by decide +kernel
theorem dL_isPack_163 : decode cL_isPack 163 = .ok (.invokevirtual 92, 3) := by decide +kernel
theorem dL_isPack_166 : decode cL_isPack 166 = .ok (.aload_n 2, 1) := by decide +kernel
theorem dL_isPack_167 : decode cL_isPack 167 = .ok (.aload_n 3, 1) := by decide +kernel
theorem dL_isPack_168 : decode cL_isPack 168 = .ok (.aload 4, 2) := by decide +kernel
theorem dL_isPack_170 : decode cL_isPack 170 = .ok (.invokestatic 28, 3) := by decide +kernel
theorem dL_isPack_173 : decode cL_isPack 173 = .ok (.if_icmp .ne 94, 3) := by decide +kernel
theorem dL_isPack_176 : decode cL_isPack 176 = .ok (.aload_n 0, 1) := by decide +kernel
theorem dL_isPack_177 : decode cL_isPack 177 = .ok (.bipush 6, 2) := by decide +kernel
theorem dL_isPack_179 : decode cL_isPack 179 = .ok (.invokevirtual 92, 3) := by decide +kernel
theorem dL_isPack_182 : decode cL_isPack 182 = .ok (.iload 6, 2) := by decide +kernel
theorem dL_isPack_184 : decode cL_isPack 184 = .ok (.if_icmp .ne 83, 3) := by decide +kernel
theorem dL_isPack_187 : decode cL_isPack 187 = .ok (.aload_n 0, 1) := by decide +kernel
theorem dL_isPack_188 : decode cL_isPack 188 = .ok (.invokevirtual 95, 3) := by decide +kernel
theorem dL_isPack_191 : decode cL_isPack 191 = .ok (.aload_n 2, 1) := by decide +kernel
theorem dL_isPack_192 : decode cL_isPack 192 = .ok (.bipush 6, 2) := by decide +kernel
theorem dL_isPack_194 : decode cL_isPack 194 = .ok (.iaload, 1) := by decide +kernel
theorem dL_isPack_195 : decode cL_isPack 195 = .ok (.iconst 1, 1) := by decide +kernel
theorem dL_isPack_196 : decode cL_isPack 196 = .ok (.if_icmp .ne 8, 3) := by decide +kernel
theorem dL_isPack_199 : decode cL_isPack 199 = .ok (.fload 5, 2) := by decide +kernel
theorem dL_isPack_201 : decode cL_isPack 201 = .ok (.goto 5, 3) := by decide +kernel
theorem dL_isPack_204 : decode cL_isPack 204 = .ok (.ldc 99, 2) := by decide +kernel
theorem dL_isPack_206 : decode cL_isPack 206 = .ok (.fcmp .l, 1) := by decide +kernel
theorem dL_isPack_207 : decode cL_isPack 207 = .ok (.ifCond .ne 60, 3) := by decide +kernel
theorem dL_isPack_210 : decode cL_isPack 210 = .ok (.aload_n 0, 1) := by decide +kernel
theorem dL_isPack_211 : decode cL_isPack 211 = .ok (.iload 7, 2) := by decide +kernel
theorem dL_isPack_213 : decode cL_isPack 213 = .ok (.iconst 2, 1) := by decide +kernel
theorem dL_isPack_214 : decode cL_isPack 214 = .ok (.invokevirtual 100, 3) := by decide +kernel
theorem dL_isPack_217 : decode cL_isPack 217 = .ok (.iload 8, 2) := by decide +kernel
theorem dL_isPack_219 : decode cL_isPack 219 = .ok (.if_icmp .ne 48, 3) := by decide +kernel
theorem dL_isPack_222 : decode cL_isPack 222 = .ok (.aload_n 0, 1) := by decide +kernel
theorem dL_isPack_223 : decode cL_isPack 223 = .ok (.iload 7, 2) := by decide +kernel
theorem dL_isPack_225 : decode cL_isPack 225 = .ok (.iconst 3, 1) := by decide +kernel
theorem dL_isPack_226 : decode cL_isPack 226 = .ok (.invokevirtual 100, 3) := by decide +kernel
theorem dL_isPack_229 : decode cL_isPack 229 = .ok (.aload_n 2, 1) := by decide +kernel
theorem dL_isPack_230 : decode cL_isPack 230 = .ok (.bipush 6, 2) := by decide +kernel
theorem dL_isPack_232 : decode cL_isPack 232 = .ok (.iaload, 1) := by decide +kernel
theorem dL_isPack_233 : decode cL_isPack 233 = .ok (.iconst 1, 1) := by decide +kernel
theorem dL_isPack_234 : decode cL_isPack 234 = .ok (.if_icmp .ne 11, 3) := by decide +kernel
theorem dL_isPack_237 : decode cL_isPack 237 = .ok (.aload 4, 2) := by decide +kernel
theorem dL_isPack_239 : decode cL_isPack 239 = .ok (.iload 7, 2) := by decide +kernel
theorem dL_isPack_241 : decode cL_isPack 241 = .ok (.iaload, 1) := by decide +kernel
theorem dL_isPack_242 : decode cL_isPack 242 = .ok (.goto 5, 3) := by decide +kernel
theorem dL_isPack_245 : decode cL_isPack 245 = .ok (.bipush (-5), 2) := by decide +kernel
theorem dL_isPack_247 : decode cL_isPack 247 = .ok (.if_icmp .ne 20, 3) := by decide +kernel
theorem dL_isPack_250 : decode cL_isPack 250 = .ok (.aload_n 0, 1) := by decide +kernel
theorem dL_isPack_251 : decode cL_isPack 251 = .ok (.aload_n 2, 1) := by decide +kernel
theorem dL_isPack_252 : decode cL_isPack 252 = .ok (.bipush 7, 2) := by decide +kernel
theorem dL_isPack_254 : decode cL_isPack 254 = .ok (.iaload, 1) := by decide +kernel
theorem dL_isPack_255 : decode cL_isPack 255 = .ok (.iconst 0, 1) := by decide +kernel
theorem dL_isPack_256 : decode cL_isPack 256 = .ok (.invokevirtual 103, 3) := by decide +kernel
theorem dL_isPack_259 : decode cL_isPack 259 = .ok (.iconst (-1), 1) := by decide +kernel
theorem dL_isPack_260 : decode cL_isPack 260 = .ok (.if_icmp .ne 7, 3) := by decide +kernel
theorem dL_isPack_263 : decode cL_isPack 263 = .ok (.iconst 1, 1) := by decide +kernel
theorem dL_isPack_264 : decode cL_isPack 264 = .ok (.goto 4, 3) := by decide +kernel
theorem dL_isPack_267 : decode cL_isPack 267 = .ok (.iconst 0, 1) := by decide +kernel
theorem dL_isPack_268 : decode cL_isPack 268 = .ok (.istore 9, 2) := by decide +kernel
theorem dL_isPack_270 : decode cL_isPack 270 = .ok (.aload_n 2, 1) := by decide +kernel
theorem dL_isPack_271 : decode cL_isPack 271 = .ok (.bipush 7, 2) := by decide +kernel
theorem dL_isPack_273 : decode cL_isPack 273 = .ok (.iaload, 1) := by decide +kernel
theorem dL_isPack_274 : decode cL_isPack 274 = .ok (.ifCond .ne 6, 3) := by decide +kernel
theorem dL_isPack_277 : decode cL_isPack 277 = .ok (.iload 9, 2) := by decide +kernel
theorem dL_isPack_279 : decode cL_isPack 279 = .ok (.ireturn, 1) := by decide +kernel
theorem dL_isPack_280 : decode cL_isPack 280 = .ok (.iload_n 1, 1) := by decide +kernel
theorem dL_isPack_281 : decode cL_isPack 281 = .ok (.iconst 5, 1) := by decide +kernel
theorem dL_isPack_282 : decode cL_isPack 282 = .ok (.ishr, 1) := by decide +kernel
theorem dL_isPack_283 : decode cL_isPack 283 = .ok (.aload_n 2, 1) := by decide +kernel
theorem dL_isPack_284 : decode cL_isPack 284 = .ok (.bipush 7, 2) := by decide +kernel
theorem dL_isPack_286 : decode cL_isPack 286 = .ok (.iaload, 1) := by decide +kernel
theorem dL_isPack_287 : decode cL_isPack 287 = .ok (.invokestatic 89, 3) := by decide +kernel
theorem dL_isPack_290 : decode cL_isPack 290 = .ok (.istore 10, 2) := by decide +kernel
theorem dL_isPack_292 : decode cL_isPack 292 = .ok (.aload 4, 2) := by decide +kernel
theorem dL_isPack_294 : decode cL_isPack 294 = .ok (.aload_n 3, 1) := by decide +kernel
theorem dL_isPack_295 : decode cL_isPack 295 = .ok (.iload 10, 2) := by decide +kernel
theorem dL_isPack_297 : decode cL_isPack 297 = .ok (.iaload, 1) := by decide +kernel
theorem dL_isPack_298 : decode cL_isPack 298 = .ok (.iaload, 1) := by decide +kernel
theorem dL_isPack_299 : decode cL_isPack 299 = .ok (.aload_n 2, 1) := by decide +kernel
theorem dL_isPack_300 : decode cL_isPack 300 = .ok (.aload 4, 2) := by decide +kernel
theorem dL_isPack_302 : decode cL_isPack 302 = .ok (.invokestatic 20, 3) := by decide +kernel
theorem dL_isPack_305 : decode cL_isPack 305 = .ok (.istore 11, 2) := by decide +kernel
theorem dL_isPack_307 : decode cL_isPack 307 = .ok (.iload 9, 2) := by decide +kernel
theorem dL_isPack_309 : decode cL_isPack 309 = .ok (.ifCond .eq 104, 3) := by decide +kernel
theorem dL_isPack_312 : decode cL_isPack 312 = .ok (.aload_n 0, 1) := by decide +kernel
theorem dL_isPack_313 : decode cL_isPack 313 = .ok (.iload 10, 2) := by decide +kernel
theorem dL_isPack_315 : decode cL_isPack 315 = .ok (.iconst 0, 1) := by decide +kernel
theorem dL_isPack_316 : decode cL_isPack 316 = .ok (.invokevirtual 103, 3) := by decide +kernel
theorem dL_isPack_319 : decode cL_isPack 319 = .ok (.aload_n 3, 1) := by decide +kernel
theorem dL_isPack_320 : decode cL_isPack 320 = .ok (.iload 10, 2) := by decide +kernel
theorem dL_isPack_322 : decode cL_isPack 322 = .ok (.iaload, 1) := by decide +kernel
theorem dL_isPack_323 : decode cL_isPack 323 = .ok (.if_icmp .ne 90, 3) := by decide +kernel
theorem dL_isPack_326 : decode cL_isPack 326 = .ok (.aload_n 0, 1) := by decide +kernel
theorem dL_isPack_327 : decode cL_isPack 327 = .ok (.iload 10, 2) := by decide +kernel
theorem dL_isPack_329 : decode cL_isPack 329 = .ok (.iconst 1, 1) := by decide +kernel
theorem dL_isPack_330 : decode cL_isPack 330 = .ok (.invokevirtual 103, 3) := by decide +kernel
theorem dL_isPack_333 : decode cL_isPack 333 = .ok (.aload 4, 2) := by decide +kernel
theorem dL_isPack_335 : decode cL_isPack 335 = .ok (.aload_n 3, 1) := by decide +kernel
theorem dL_isPack_336 : decode cL_isPack 336 = .ok (.iload 10, 2) := by decide +kernel
theorem dL_isPack_338 : decode cL_isPack 338 = .ok (.iaload, 1) := by decide +kernel
theorem dL_isPack_339 : decode cL_isPack 339 = .ok (.iaload, 1) := by decide +kernel
theorem dL_isPack_340 : decode cL_isPack 340 = .ok (.if_icmp .ne 73, 3) := by decide +kernel
theorem dL_isPack_343 : decode cL_isPack 343 = .ok (.aload_n 0, 1) := by decide +kernel
theorem dL_isPack_344 : decode cL_isPack 344 = .ok (.iload 10, 2) := by decide +kernel
theorem dL_isPack_346 : decode cL_isPack 346 = .ok (.iconst 2, 1) := by decide +kernel
theorem dL_isPack_347 : decode cL_isPack 347 = .ok (.invokevirtual 103, 3) := by decide +kernel
theorem dL_isPack_350 : decode cL_isPack 350 = .ok (.iload 11, 2) := by decide +kernel
theorem dL_isPack_352 : decode cL_isPack 352 = .ok (.bipush 100, 2) := by decide +kernel
theorem dL_isPack_354 : decode cL_isPack 354 = .ok (.irem, 1) := by decide +kernel
theorem dL_isPack_355 : decode cL_isPack 355 = .ok (.if_icmp .ne 58, 3) := by decide +kernel
theorem dL_isPack_358 : decode cL_isPack 358 = .ok (.aload_n 0, 1) := by decide +kernel
theorem dL_isPack_359 : decode cL_isPack 359 = .ok (.iload 10, 2) := by decide +kernel
theorem dL_isPack_361 : decode cL_isPack 361 = .ok (.iconst 3, 1) := by decide +kernel
theorem dL_isPack_362 : decode cL_isPack 362 = .ok (.invokevirtual 103, 3) := by decide +kernel
theorem dL_isPack_365 : decode cL_isPack 365 = .ok (.iload 11, 2) := by decide +kernel
theorem dL_isPack_367 : decode cL_isPack 367 = .ok (.bipush 100, 2) := by decide +kernel
theorem dL_isPack_369 : decode cL_isPack 369 = .ok (.idiv, 1) := by decide +kernel
theorem dL_isPack_370 : decode cL_isPack 370 = .ok (.if_icmp .ne 43, 3) := by decide +kernel
theorem dL_isPack_373 : decode cL_isPack 373 = .ok (.aload_n 0, 1) := by decide +kernel
theorem dL_isPack_374 : decode cL_isPack 374 = .ok (.iload 10, 2) := by decide +kernel
theorem dL_isPack_376 : decode cL_isPack 376 = .ok (.iconst 4, 1) := by decide +kernel
theorem dL_isPack_377 : decode cL_isPack 377 = .ok (.invokevirtual 103, 3) := by decide +kernel
theorem dL_isPack_380 : decode cL_isPack 380 = .ok (.iload 11, 2) := by decide +kernel
theorem dL_isPack_382 : decode cL_isPack 382 = .ok (.bipush 100, 2) := by decide +kernel
theorem dL_isPack_384 : decode cL_isPack 384 = .ok (.irem, 1) := by decide +kernel
theorem dL_isPack_385 : decode cL_isPack 385 = .ok (.iconst 1, 1) := by decide +kernel
theorem dL_isPack_386 : decode cL_isPack 386 = .ok (.if_icmp .ne 7, 3) := by decide +kernel
theorem dL_isPack_389 : decode cL_isPack 389 = .ok (.iconst 1, 1) := by decide +kernel
theorem dL_isPack_390 : decode cL_isPack 390 = .ok (.goto 4, 3) := by decide +kernel
theorem dL_isPack_393 : decode cL_isPack 393 = .ok (.iconst 0, 1) := by decide +kernel
theorem dL_isPack_394 : decode cL_isPack 394 = .ok (.if_icmp .ne 19, 3) := by decide +kernel
theorem dL_isPack_397 : decode cL_isPack 397 = .ok (.aload_n 0, 1) := by decide +kernel
theorem dL_isPack_398 : decode cL_isPack 398 = .ok (.iload 10, 2) := by decide +kernel
theorem dL_isPack_400 : decode cL_isPack 400 = .ok (.iconst 5, 1) := by decide +kernel
theorem dL_isPack_401 : decode cL_isPack 401 = .ok (.invokevirtual 103, 3) := by decide +kernel
theorem dL_isPack_404 : decode cL_isPack 404 = .ok (.bipush (-2), 2) := by decide +kernel
theorem dL_isPack_406 : decode cL_isPack 406 = .ok (.if_icmp .ne 7, 3) := by decide +kernel
theorem dL_isPack_409 : decode cL_isPack 409 = .ok (.iconst 1, 1) := by decide +kernel
theorem dL_isPack_410 : decode cL_isPack 410 = .ok (.goto 4, 3) := by decide +kernel
theorem dL_isPack_413 : decode cL_isPack 413 = .ok (.iconst 0, 1) := by decide +kernel
theorem dL_isPack_414 : decode cL_isPack 414 = .ok (.ireturn, 1) := by decide +kernel
theorem dL_isSo_0 : decode cL_isSo 0 = .ok (.iconst 0, 1) := by decide +kernel
theorem dL_isSo_1 : decode cL_isSo 1 = .ok (.istore 10, 2) := by decide +kernel
theorem dL_isSo_3 : decode cL_isSo 3 = .ok (.iconst 0, 1) := by decide +kernel
theorem dL_isSo_4 : decode cL_isSo 4 = .ok (.istore 11, 2) := by decide +kernel
theorem dL_isSo_6 : decode cL_isSo 6 = .ok (.iconst 0, 1) := by decide +kernel
theorem dL_isSo_7 : decode cL_isSo 7 = .ok (.istore 12, 2) := by decide +kernel
theorem dL_isSo_9 : decode cL_isSo 9 = .ok (.iload 12, 2) := by decide +kernel
theorem dL_isSo_11 : decode cL_isSo 11 = .ok (.bipush 24, 2) := by decide +kernel
theorem dL_isSo_13 : decode cL_isSo 13 = .ok (.if_icmp .ge 80, 3) := by decide +kernel
theorem dL_isSo_16 : decode cL_isSo 16 = .ok (.iconst 0, 1) := by decide +kernel
theorem dL_isSo_17 : decode cL_isSo 17 = .ok (.istore 13, 2) := by decide +kernel
theorem dL_isSo_19 : decode cL_isSo 19 = .ok (.iload 10, 2) := by decide +kernel
theorem dL_isSo_21 : decode cL_isSo 21 = .ok (.aload 4, 2) := by decide +kernel
theorem dL_isSo_23 : decode cL_isSo 23 = .ok (.iload 12, 2) := by decide +kernel
theorem dL_isSo_25 : decode cL_isSo 25 = .ok (.iaload, 1) := by decide +kernel
theorem dL_isSo_26 : decode cL_isSo 26 = .ok (.invokestatic 106, 3) := by decide +kernel
theorem dL_isSo_29 : decode cL_isSo 29 = .ok (.iadd, 1) := by decide +kernel
theorem dL_isSo_30 : decode cL_isSo 30 = .ok (.istore 10, 2) := by decide +kernel
theorem dL_isSo_32 : decode cL_isSo 32 = .ok (.iconst 0, 1) := by decide +kernel
theorem dL_isSo_33 : decode cL_isSo 33 = .ok (.istore 14, 2) := by decide +kernel
theorem dL_isSo_35 : decode cL_isSo 35 = .ok (.iload 14, 2) := by decide +kernel
theorem dL_isSo_37 : decode cL_isSo 37 = .ok (.bipush 24, 2) := by decide +kernel
theorem dL_isSo_39 : decode cL_isSo 39 = .ok (.if_icmp .ge 32, 3) := by decide +kernel
theorem dL_isSo_42 : decode cL_isSo 42 = .ok (.iload 13, 2) := by decide +kernel
theorem dL_isSo_44 : decode cL_isSo 44 = .ok (.aload 4, 2) := by decide +kernel
theorem dL_isSo_46 : decode cL_isSo 46 = .ok (.iload 12, 2) := by decide +kernel
theorem dL_isSo_48 : decode cL_isSo 48 = .ok (.iaload, 1) := by decide +kernel
theorem dL_isSo_49 : decode cL_isSo 49 = .ok (.aload 4, 2) := by decide +kernel
theorem dL_isSo_51 : decode cL_isSo 51 = .ok (.iload 14, 2) := by decide +kernel
theorem dL_isSo_53 : decode cL_isSo 53 = .ok (.iaload, 1) := by decide +kernel
theorem dL_isSo_54 : decode cL_isSo 54 = .ok (.if_icmp .ne 7, 3) := by decide +kernel
theorem dL_isSo_57 : decode cL_isSo 57 = .ok (.iconst 1, 1) := by decide +kernel
theorem dL_isSo_58 : decode cL_isSo 58 = .ok (.goto 4, 3) := by decide +kernel
theorem dL_isSo_61 : decode cL_isSo 61 = .ok (.iconst 0, 1) := by decide +kernel
theorem dL_isSo_62 : decode cL_isSo 62 = .ok (.iadd, 1) := by decide +kernel
theorem dL_isSo_63 : decode cL_isSo 63 = .ok (.istore 13, 2) := by decide +kernel
theorem dL_isSo_65 : decode cL_isSo 65 = .ok (.iinc 14 1, 3) := by decide +kernel
theorem dL_isSo_68 : decode cL_isSo 68 = .ok (.goto (-33), 3) := by decide +kernel
theorem dL_isSo_71 : decode cL_isSo 71 = .ok (.iload 11, 2) := by decide +kernel
theorem dL_isSo_73 : decode cL_isSo 73 = .ok (.iload 13, 2) := by decide +kernel
theorem dL_isSo_75 : decode cL_isSo 75 = .ok (.iconst 1, 1) := by decide +kernel
theorem dL_isSo_76 : decode cL_isSo 76 = .ok (.if_icmp .ne 7, 3) := by decide +kernel
theorem dL_isSo_79 : decode cL_isSo 79 = .ok (.iconst 1, 1) := by decide +kernel
theorem dL_isSo_80 : decode cL_isSo 80 = .ok (.goto 4, 3) := by decide +kernel
theorem dL_isSo_83 : decode cL_isSo 83 = .ok (.iconst 0, 1) := by decide +kernel
theorem dL_isSo_84 : decode cL_isSo 84 = .ok (.iadd, 1) := by decide +kernel
theorem dL_isSo_85 : decode cL_isSo 85 = .ok (.istore 11, 2) := by decide +kernel
theorem dL_isSo_87 : decode cL_isSo 87 = .ok (.iinc 12 1, 3) := by decide +kernel
theorem dL_isSo_90 : decode cL_isSo 90 = .ok (.goto (-81), 3) := by decide +kernel
theorem dL_isSo_93 : decode cL_isSo 93 = .ok (.iload_n 1, 1) := by decide +kernel
theorem dL_isSo_94 : decode cL_isSo 94 = .ok (.bipush 24, 2) := by decide +kernel
theorem dL_isSo_96 : decode cL_isSo 96 = .ok (.invokestatic 89, 3) := by decide +kernel
theorem dL_isSo_99 : decode cL_isSo 99 = .ok (.istore 12, 2) := by decide +kernel
theorem dL_isSo_101 : decode cL_isSo 101 = .ok (.aload_n 0, 1) := by decide +kernel
theorem dL_isSo_102 : decode cL_isSo 102 = .ok (.iconst 0, 1) := by decide +kernel
theorem dL_isSo_103 : decode cL_isSo 103 = .ok (.invokevirtual 92, 3) := by decide +kernel
theorem dL_isSo_106 : decode cL_isSo 106 = .ok (.aload_n 2, 1) := by decide +kernel
theorem dL_isSo_107 : decode cL_isSo 107 = .ok (.iconst 5, 1) := by decide +kernel
theorem dL_isSo_108 : decode cL_isSo 108 = .ok (.iaload, 1) := by decide +kernel
theorem dL_isSo_109 : decode cL_isSo 109 = .ok (.if_icmp .ne 211, 3) := by decide +kernel
theorem dL_isSo_112 : decode cL_isSo 112 = .ok (.aload_n 0, 1) := by decide +kernel
theorem dL_isSo_113 : decode cL_isSo 113 = .ok (.iconst 1, 1) := by decide +kernel
theorem dL_isSo_114 : decode cL_isSo 114 = .ok (.invokevirtual 92, 3) := by decide +kernel
theorem dL_isSo_117 : decode cL_isSo 117 = .ok (.aload_n 2, 1) := by decide +kernel
theorem dL_isSo_118 : decode cL_isSo 118 = .ok (.iconst 4, 1) := by decide +kernel
theorem dL_isSo_119 : decode cL_isSo 119 = .ok (.iaload, 1) := by decide +kernel
theorem dL_isSo_120 : decode cL_isSo 120 = .ok (.if_icmp .ne 200, 3) := by decide +kernel
theorem dL_isSo_123 : decode cL_isSo 123 = .ok (.aload_n 0, 1) := by decide +kernel
theorem dL_isSo_124 : decode cL_isSo 124 = .ok (.iconst 2, 1) := by decide +kernel
theorem dL_isSo_125 : decode cL_isSo 125 = .ok (.invokevirtual 92, 3) := by decide +kernel
theorem dL_isSo_128 : decode cL_isSo 128 = .ok (.aload_n 2, 1) := by decide +kernel
theorem dL_isSo_129 : decode cL_isSo 129 = .ok (.bipush 6, 2) := by decide +kernel
theorem dL_isSo_131 : decode cL_isSo 131 = .ok (.iaload, 1) := by decide +kernel
theorem dL_isSo_132 : decode cL_isSo 132 = .ok (.if_icmp .ne 188, 3) := by decide +kernel
theorem dL_isSo_135 : decode cL_isSo 135 = .ok (.aload_n 0, 1) := by decide +kernel
theorem dL_isSo_136 : decode cL_isSo 136 = .ok (.bipush 7, 2) := by decide +kernel
theorem dL_isSo_138 : decode cL_isSo 138 = .ok (.invokevirtual 92, 3) := by decide +kernel
theorem dL_isSo_141 : decode cL_isSo 141 = .ok (.aload_n 2, 1) := by decide +kernel
theorem dL_isSo_142 : decode cL_isSo 142 = .ok (.bipush 8, 2) := by decide +kernel
theorem dL_isSo_144 : decode cL_isSo 144 = .ok (.iaload, 1) := by decide +kernel
theorem dL_isSo_145 : decode cL_isSo 145 = .ok (.if_icmp .ne 175, 3) := by decide +kernel
theorem dL_isSo_148 : decode cL_isSo 148 = .ok (.aload_n 0, 1) := by decide +kernel
theorem dL_isSo_149 : decode cL_isSo 149 = .ok (.bipush 8, 2) := by decide +kernel
theorem dL_isSo_151 : decode cL_isSo 151 = .ok (.invokevirtual 92, 3) := by decide +kernel
theorem dL_isSo_154 : decode cL_isSo 154 = .ok (.aload_n 2, 1) := by decide +kernel
theorem dL_isSo_155 : decode cL_isSo 155 = .ok (.bipush 9, 2) := by decide +kernel
theorem dL_isSo_157 : decode cL_isSo 157 = .ok (.iaload, 1) := by decide +kernel
theorem dL_isSo_158 : decode cL_isSo 158 = .ok (.if_icmp .ne 162, 3) := by decide +kernel
theorem dL_isSo_161 : decode cL_isSo 161 = .ok (.aload_n 0, 1) := by decide +kernel
theorem dL_isSo_162 : decode cL_isSo 162 = .ok (.bipush 9, 2) := by decide +kernel
theorem dL_isSo_164 : decode cL_isSo 164 = .ok (.invokevirtual 92, 3) := by decide +kernel
theorem dL_isSo_167 : decode cL_isSo 167 = .ok (.aload_n 2, 1) := by decide +kernel
theorem dL_isSo_168 : decode cL_isSo 168 = .ok (.bipush 10, 2) := by decide +kernel
theorem dL_isSo_170 : decode cL_isSo 170 = .ok (.iaload, 1) := by decide +kernel
theorem dL_isSo_171 : decode cL_isSo 171 = .ok (.if_icmp .ne 149, 3) := by decide +kernel
theorem dL_isSo_174 : decode cL_isSo 174 = .ok (.aload_n 0, 1) := by decide +kernel
theorem dL_isSo_175 : decode cL_isSo 175 = .ok (.bipush 10, 2) := by decide +kernel
theorem dL_isSo_177 : decode cL_isSo 177 = .ok (.invokevirtual 92, 3) := by decide +kernel
theorem dL_isSo_180 : decode cL_isSo 180 = .ok (.iload 10, 2) := by decide +kernel
theorem dL_isSo_182 : decode cL_isSo 182 = .ok (.if_icmp .ne 138, 3) := by decide +kernel
theorem dL_isSo_185 : decode cL_isSo 185 = .ok (.aload_n 0, 1) := by decide +kernel
theorem dL_isSo_186 : decode cL_isSo 186 = .ok (.bipush 11, 2) := by decide +kernel
theorem dL_isSo_188 : decode cL_isSo 188 = .ok (.invokevirtual 92, 3) := by decide +kernel
theorem dL_isSo_191 : decode cL_isSo 191 = .ok (.aload_n 2, 1) := by decide +kernel
theorem dL_isSo_192 : decode cL_isSo 192 = .ok (.iconst 1, 1) := by decide +kernel
theorem dL_isSo_193 : decode cL_isSo 193 = .ok (.iaload, 1) := by decide +kernel
theorem dL_isSo_194 : decode cL_isSo 194 = .ok (.aload 5, 2) := by decide +kernel
theorem dL_isSo_196 : decode cL_isSo 196 = .ok (.invokestatic 24, 3) := by decide +kernel
theorem dL_isSo_199 : decode cL_isSo 199 = .ok (.if_icmp .ne 121, 3) := by decide +kernel
theorem dL_isSo_202 : decode cL_isSo 202 = .ok (.aload_n 0, 1) := by decide +kernel
theorem dL_isSo_203 : decode cL_isSo 203 = .ok (.invokevirtual 109, 3) := by decide +kernel
theorem dL_isSo_206 : decode cL_isSo 206 = .ok (.aload_n 2, 1) := by decide +kernel
theorem dL_isSo_207 : decode cL_isSo 207 = .ok (.aload 7, 2) := by decide +kernel
theorem dL_isSo_209 : decode cL_isSo 209 = .ok (.aload 8, 2) := by decide +kernel
theorem dL_isSo_211 : decode cL_isSo 211 = .ok (.aload 9, 2) := by decide +kernel
theorem dL_isSo_213 : decode cL_isSo 213 = .ok (.invokestatic 85, 3) := by decide +kernel
theorem dL_isSo_216 : decode cL_isSo 216 = .ok (.if_icmp .ne 104, 3) := by decide +kernel
theorem dL_isSo_219 : decode cL_isSo 219 = .ok (.aload_n 0, 1) := by decide +kernel
theorem dL_isSo_220 : decode cL_isSo 220 = .ok (.iconst 0, 1) := by decide +kernel
theorem dL_isSo_221 : decode cL_isSo 221 = .ok (.invokevirtual 111, 3) := by decide +kernel
theorem dL_isSo_224 : decode cL_isSo 224 = .ok (.iload 11, 2) := by decide +kernel
theorem dL_isSo_226 : decode cL_isSo 226 = .ok (.if_icmp .ne 94, 3) := by decide +kernel
theorem dL_isSo_229 : decode cL_isSo 229 = .ok (.aload_n 0, 1) := by decide +kernel
theorem dL_isSo_230 : decode cL_isSo 230 = .ok (.iconst 1, 1) := by decide +kernel
theorem dL_isSo_231 : decode cL_isSo 231 = .ok (.invokevirtual 111, 3) := by decide +kernel
theorem dL_isSo_234 : decode cL_isSo 234 = .ok (.iload 11, 2) := by decide +kernel
theorem dL_isSo_236 : decode cL_isSo 236 = .ok (.if_icmp .ne 84, 3) := by decide +kernel
theorem dL_isSo_239 : decode cL_isSo 239 = .ok (.aload_n 0, 1) := by decide +kernel
theorem dL_isSo_240 : decode cL_isSo 240 = .ok (.iload 12, 2) := by decide +kernel
theorem dL_isSo_242 : decode cL_isSo 242 = .ok (.iconst 0, 1) := by decide +kernel
theorem dL_isSo_243 : decode cL_isSo 243 = .ok (.invokevirtual 114, 3) := by decide +kernel
theorem dL_isSo_246 : decode cL_isSo 246 = .ok (.aload_n 3, 1) := by decide +kernel
theorem dL_isSo_247 : decode cL_isSo 247 = .ok (.iload 12, 2) := by decide +kernel
theorem dL_isSo_249 : decode cL_isSo 249 = .ok (.iaload, 1) := by decide +kernel
theorem dL_isSo_250 : decode cL_isSo 250 = .ok (.if_icmp .ne 70, 3) := by decide +kernel
theorem dL_isSo_253 : decode cL_isSo 253 = .ok (.aload_n 0, 1) := by decide +kernel
theorem dL_isSo_254 : decode cL_isSo 254 = .ok (.iload 12, 2) := by decide +kernel
theorem dL_isSo_256 : decode cL_isSo 256 = .ok (.iconst 1, 1) := by decide +kernel
theorem dL_isSo_257 : decode cL_isSo 257 = .ok (.invokevirtual 114, 3) := by decide +kernel
theorem dL_isSo_260 : decode cL_isSo 260 = .ok (.aload 4, 2) := by decide +kernel
theorem dL_isSo_262 : decode cL_isSo 262 = .ok (.iload 12, 2) := by decide +kernel
theorem dL_isSo_264 : decode cL_isSo 264 = .ok (.iaload, 1) := by decide +kernel
theorem dL_isSo_265 : decode cL_isSo 265 = .ok (.if_icmp .ne 55, 3) := by decide +kernel
theorem dL_isSo_268 : decode cL_isSo 268 = .ok (.aload_n 0, 1) := by decide +kernel
theorem dL_isSo_269 : decode cL_isSo 269 = .ok (.aload_n 3, 1) := by decide +kernel
theorem dL_isSo_270 : decode cL_isSo 270 = .ok (.iload 12, 2) := by decide +kernel
theorem dL_isSo_272 : decode cL_isSo 272 = .ok (.iaload, 1) := by decide +kernel
theorem dL_isSo_273 : decode cL_isSo 273 = .ok (.iconst 0, 1) := by decide +kernel
theorem dL_isSo_274 : decode cL_isSo 274 = .ok (.invokevirtual 100, 3) := by decide +kernel
theorem dL_isSo_277 : decode cL_isSo 277 = .ok (.iload 12, 2) := by decide +kernel
theorem dL_isSo_279 : decode cL_isSo 279 = .ok (.if_icmp .ne 41, 3) := by decide +kernel
theorem dL_isSo_282 : decode cL_isSo 282 = .ok (.aload_n 0, 1) := by decide +kernel
theorem dL_isSo_283 : decode cL_isSo 283 = .ok (.iload 12, 2) := by decide +kernel
theorem dL_isSo_285 : decode cL_isSo 285 = .ok (.iconst 1, 1) := by decide +kernel
theorem dL_isSo_286 : decode cL_isSo 286 = .ok (.invokevirtual 100, 3) := by decide +kernel
theorem dL_isSo_289 : decode cL_isSo 289 = .ok (.bipush 100, 2) := by decide +kernel
theorem dL_isSo_291 : decode cL_isSo 291 = .ok (.iload 12, 2) := by decide +kernel
theorem dL_isSo_293 : decode cL_isSo 293 = .ok (.bipush 6, 2) := by decide +kernel
theorem dL_isSo_295 : decode cL_isSo 295 = .ok (.irem, 1) := by decide +kernel
theorem dL_isSo_296 : decode cL_isSo 296 = .ok (.iconst 3, 1) := by decide +kernel
theorem dL_isSo_297 : decode cL_isSo 297 = .ok (.if_icmp .ge 7, 3) := by decide +kernel
theorem dL_isSo_300 : decode cL_isSo 300 = .ok (.iconst 0, 1) := by decide +kernel
theorem dL_isSo_301 : decode cL_isSo 301 = .ok (.goto 11, 3) := by decide +kernel
theorem dL_isSo_304 : decode cL_isSo 304 = .ok (.aload 5, 2) := by decide +kernel
theorem dL_isSo_306 : decode cL_isSo 306 = .ok (.iload 12, 2) := by decide +kernel
theorem dL_isSo_308 : decode cL_isSo 308 = .ok (.invokestatic 71, 3) := by decide +kernel
theorem dL_isSo_311 : decode cL_isSo 311 = .ok (.iaload, 1) := by decide +kernel
theorem dL_isSo_312 : decode cL_isSo 312 = .ok (.iadd, 1) := by decide +kernel
theorem dL_isSo_313 : decode cL_isSo 313 = .ok (.if_icmp .ne 7, 3) := by decide +kernel
theorem dL_isSo_316 : decode cL_isSo 316 = .ok (.iconst 1, 1) := by decide +kernel
theorem dL_isSo_317 : decode cL_isSo 317 = .ok (.goto 4, 3) := by decide +kernel
theorem dL_isSo_320 : decode cL_isSo 320 = .ok (.iconst 0, 1) := by decide +kernel
theorem dL_isSo_321 : decode cL_isSo 321 = .ok (.istore 13, 2) := by decide +kernel
theorem dL_isSo_323 : decode cL_isSo 323 = .ok (.iconst 0, 1) := by decide +kernel
theorem dL_isSo_324 : decode cL_isSo 324 = .ok (.istore 14, 2) := by decide +kernel
theorem dL_isSo_326 : decode cL_isSo 326 = .ok (.iload 14, 2) := by decide +kernel
theorem dL_isSo_328 : decode cL_isSo 328 = .ok (.iconst 4, 1) := by decide +kernel
theorem dL_isSo_329 : decode cL_isSo 329 = .ok (.if_icmp .ge 37, 3) := by decide +kernel
theorem dL_isSo_332 : decode cL_isSo 332 = .ok (.iload 13, 2) := by decide +kernel
theorem dL_isSo_334 : decode cL_isSo 334 = .ok (.ifCond .eq 23, 3) := by decide +kernel
theorem dL_isSo_337 : decode cL_isSo 337 = .ok (.aload_n 0, 1) := by decide +kernel
theorem dL_isSo_338 : decode cL_isSo 338 = .ok (.bipush 14, 2) := by decide +kernel
theorem dL_isSo_340 : decode cL_isSo 340 = .ok (.iload 14, 2) := by decide +kernel
theorem dL_isSo_342 : decode cL_isSo 342 = .ok (.iadd, 1) := by decide +kernel
theorem dL_isSo_343 : decode cL_isSo 343 = .ok (.invokevirtual 92, 3) := by decide +kernel
theorem dL_isSo_346 : decode cL_isSo 346 = .ok (.aload_n 2, 1) := by decide +kernel
theorem dL_isSo_347 : decode cL_isSo 347 = .ok (.iload 14, 2) := by decide +kernel
theorem dL_isSo_349 : decode cL_isSo 349 = .ok (.iaload, 1) := by decide +kernel
theorem dL_isSo_350 : decode cL_isSo 350 = .ok (.if_icmp .ne 7, 3) := by decide +kernel
theorem dL_isSo_353 : decode cL_isSo 353 = .ok (.iconst 1, 1) := by decide +kernel
theorem dL_isSo_354 : decode cL_isSo 354 = .ok (.goto 4, 3) := by decide +kernel
theorem dL_isSo_357 : decode cL_isSo 357 = .ok (.iconst 0, 1) := by decide +kernel
theorem dL_isSo_358 : decode cL_isSo 358 = .ok (.istore 13, 2) := by decide +kernel
theorem dL_isSo_360 : decode cL_isSo 360 = .ok (.iinc 14 1, 3) := by decide +kernel
theorem dL_isSo_363 : decode cL_isSo 363 = .ok (.goto (-37), 3) := by decide +kernel
theorem dL_isSo_366 : decode cL_isSo 366 = .ok (.iload_n 1, 1) := by decide +kernel
theorem dL_isSo_367 : decode cL_isSo 367 = .ok (.iconst 5, 1) := by decide +kernel
theorem dL_isSo_368 : decode cL_isSo 368 = .ok (.ishr, 1) := by decide +kernel
theorem dL_isSo_369 : decode cL_isSo 369 = .ok (.bipush 7, 2) := by decide +kernel
theorem dL_isSo_371 : decode cL_isSo 371 = .ok (.invokestatic 89, 3) := by decide +kernel
theorem dL_isSo_374 : decode cL_isSo 374 = .ok (.istore 14, 2) := by decide +kernel
theorem dL_isSo_376 : decode cL_isSo 376 = .ok (.iload 14, 2) := by decide +kernel
theorem dL_isSo_378 : decode cL_isSo 378 = .ok (.aload_n 2, 1) := by decide +kernel
theorem dL_isSo_379 : decode cL_isSo 379 = .ok (.iconst 5, 1) := by decide +kernel
theorem dL_isSo_380 : decode cL_isSo 380 = .ok (.iaload, 1) := by decide +kernel
theorem dL_isSo_381 : decode cL_isSo 381 = .ok (.if_icmp .ge 7, 3) := by decide +kernel
theorem dL_isSo_384 : decode cL_isSo 384 = .ok (.iconst 1, 1) := by decide +kernel
theorem dL_isSo_385 : decode cL_isSo 385 = .ok (.goto 4, 3) := by decide +kernel
theorem dL_isSo_388 : decode cL_isSo 388 = .ok (.iconst 0, 1) := by decide +kernel
theorem dL_isSo_389 : decode cL_isSo 389 = .ok (.istore 15, 2) := by decide +kernel
theorem dL_isSo_391 : decode cL_isSo 391 = .ok (.iload 15, 2) := by decide +kernel
theorem dL_isSo_393 : decode cL_isSo 393 = .ok (.ifCond .eq 21, 3) := by decide +kernel
theorem dL_isSo_396 : decode cL_isSo 396 = .ok (.aload_n 2, 1) := by decide +kernel
theorem dL_isSo_397 : decode cL_isSo 397 = .ok (.iconst 5, 1) := by decide +kernel
theorem dL_isSo_398 : decode cL_isSo 398 = .ok (.iaload, 1) := by decide +kernel
theorem dL_isSo_399 : decode cL_isSo 399 = .ok (.iconst 1, 1) := by decide +kernel
theorem dL_isSo_400 : decode cL_isSo 400 = .ok (.isub, 1) := by decide +kernel
theorem dL_isSo_401 : decode cL_isSo 401 = .ok (.iload 14, 2) := by decide +kernel
theorem dL_isSo_403 : decode cL_isSo 403 = .ok (.isub, 1) := by decide +kernel
theorem dL_isSo_404 : decode cL_isSo 404 = .ok (.iload 12, 2) := by decide +kernel
theorem dL_isSo_406 : decode cL_isSo 406 = .ok (.aload 6, 2) := by decide +kernel
theorem dL_isSo_408 : decode cL_isSo 408 = .ok (.invokestatic 16, 3) := by decide +kernel
theorem dL_isSo_411 : decode cL_isSo 411 = .ok (.goto 4, 3) := by decide +kernel
theorem dL_isSo_414 : decode cL_isSo 414 = .ok (.iconst 0, 1) := by decide +kernel
theorem dL_isSo_415 : decode cL_isSo 415 = .ok (.istore 16, 2) := by decide +kernel
theorem dL_isSo_417 : decode cL_isSo 417 = .ok (.iload 13, 2) := by decide +kernel
theorem dL_isSo_419 : decode cL_isSo 419 = .ok (.ifCond .eq 58, 3) := by decide +kernel
theorem dL_isSo_422 : decode cL_isSo 422 = .ok (.aload_n 0, 1) := by decide +kernel
theorem dL_isSo_423 : decode cL_isSo 423 = .ok (.iload 14, 2) := by decide +kernel
theorem dL_isSo_425 : decode cL_isSo 425 = .ok (.iload 12, 2) := by decide +kernel
theorem dL_isSo_427 : decode cL_isSo 427 = .ok (.iconst 0, 1) := by decide +kernel
theorem dL_isSo_428 : decode cL_isSo 428 = .ok (.invokevirtual 117, 3) := by decide +kernel
theorem dL_isSo_431 : decode cL_isSo 431 = .ok (.iload 15, 2) := by decide +kernel
theorem dL_isSo_433 : decode cL_isSo 433 = .ok (.ifCond .eq 11, 3) := by decide +kernel
theorem dL_isSo_436 : decode cL_isSo 436 = .ok (.iload 16, 2) := by decide +kernel
theorem dL_isSo_438 : decode cL_isSo 438 = .ok (.bipush 31, 2) := by decide +kernel
theorem dL_isSo_440 : decode cL_isSo 440 = .ok (.iand, 1) := by decide +kernel
theorem dL_isSo_441 : decode cL_isSo 441 = .ok (.goto 4, 3) := by decide +kernel
theorem dL_isSo_444 : decode cL_isSo 444 = .ok (.iconst (-1), 1) := by decide +kernel
theorem dL_isSo_445 : decode cL_isSo 445 = .ok (.if_icmp .ne 32, 3) := by decide +kernel
theorem dL_isSo_448 : decode cL_isSo 448 = .ok (.aload_n 0, 1) := by decide +kernel
theorem dL_isSo_449 : decode cL_isSo 449 = .ok (.iload 14, 2) := by decide +kernel
theorem dL_isSo_451 : decode cL_isSo 451 = .ok (.iload 12, 2) := by decide +kernel
theorem dL_isSo_453 : decode cL_isSo 453 = .ok (.iconst 1, 1) := by decide +kernel
theorem dL_isSo_454 : decode cL_isSo 454 = .ok (.invokevirtual 117, 3) := by decide +kernel
theorem dL_isSo_457 : decode cL_isSo 457 = .ok (.iload 15, 2) := by decide +kernel
theorem dL_isSo_459 : decode cL_isSo 459 = .ok (.ifCond .eq 10, 3) := by decide +kernel
theorem dL_isSo_462 : decode cL_isSo 462 = .ok (.iload 16, 2) := by decide +kernel
theorem dL_isSo_464 : decode cL_isSo 464 = .ok (.iconst 5, 1) := by decide +kernel
theorem dL_isSo_465 : decode cL_isSo 465 = .ok (.ishr, 1) := by decide +kernel
theorem dL_isSo_466 : decode cL_isSo 466 = .ok (.goto 4, 3) := by decide +kernel
theorem dL_isSo_469 : decode cL_isSo 469 = .ok (.iconst (-1), 1) := by decide +kernel
theorem dL_isSo_470 : decode cL_isSo 470 = .ok (.if_icmp .ne 7, 3) := by decide +kernel
theorem dL_isSo_473 : decode cL_isSo 473 = .ok (.iconst 1, 1) := by decide +kernel
theorem dL_isSo_474 : decode cL_isSo 474 = .ok (.goto 4, 3) := by decide +kernel
theorem dL_isSo_477 : decode cL_isSo 477 = .ok (.iconst 0, 1) := by decide +kernel
theorem dL_isSo_478 : decode cL_isSo 478 = .ok (.istore 13, 2) := by decide +kernel
theorem dL_isSo_480 : decode cL_isSo 480 = .ok (.bipush (-4), 2) := by decide +kernel
theorem dL_isSo_482 : decode cL_isSo 482 = .ok (.istore 17, 2) := by decide +kernel
theorem dL_isSo_484 : decode cL_isSo 484 = .ok (.bipush 25, 2) := by decide +kernel
theorem dL_isSo_486 : decode cL_isSo 486 = .ok (.istore 18, 2) := by decide +kernel
theorem dL_isSo_488 : decode cL_isSo 488 = .ok (.iconst 0, 1) := by decide +kernel
theorem dL_isSo_489 : decode cL_isSo 489 = .ok (.istore 19, 2) := by decide +kernel
theorem dL_isSo_491 : decode cL_isSo 491 = .ok (.iload 19, 2) := by decide +kernel
theorem dL_isSo_493 : decode cL_isSo 493 = .ok (.iconst 4, 1) := by decide +kernel
theorem dL_isSo_494 : decode cL_isSo 494 = .ok (.if_icmp .ge 101, 3) := by decide +kernel
theorem dL_isSo_497 : decode cL_isSo 497 = .ok (.aload_n 2, 1) := by decide +kernel
theorem dL_isSo_498 : decode cL_isSo 498 = .ok (.iconst 5, 1) := by decide +kernel
theorem dL_isSo_499 : decode cL_isSo 499 = .ok (.iaload, 1) := by decide +kernel
theorem dL_isSo_500 : decode cL_isSo 500 = .ok (.ifCond .le 95, 3) := by decide +kernel
theorem dL_isSo_503 : decode cL_isSo 503 = .ok (.iconst 0, 1) := by decide +kernel
theorem dL_isSo_504 : decode cL_isSo 504 = .ok (.istore 20, 2) := by decide +kernel
theorem dL_isSo_506 : decode cL_isSo 506 = .ok (.iconst 0, 1) := by decide +kernel
theorem dL_isSo_507 : decode cL_isSo 507 = .ok (.istore 21, 2) := by decide +kernel
theorem dL_isSo_509 : decode cL_isSo 509 = .ok (.iload 21, 2) := by decide +kernel
theorem dL_isSo_511 : decode cL_isSo 511 = .ok (.bipush 24, 2) := by decide +kernel
theorem dL_isSo_513 : decode cL_isSo 513 = .ok (.if_icmp .ge 44, 3) := by decide +kernel
theorem dL_isSo_516 : decode cL_isSo 516 = .ok (.iload 20, 2) := by decide +kernel
theorem dL_isSo_518 : decode cL_isSo 518 = .ok (.aload_n 2, 1) := by decide +kernel
theorem dL_isSo_519 : decode cL_isSo 519 = .ok (.iconst 5, 1) := by decide +kernel
theorem dL_isSo_520 : decode cL_isSo 520 = .ok (.iaload, 1) := by decide +kernel
theorem dL_isSo_521 : decode cL_isSo 521 = .ok (.iconst 1, 1) := by decide +kernel
theorem dL_isSo_522 : decode cL_isSo 522 = .ok (.isub, 1) := by decide +kernel
theorem dL_isSo_523 : decode cL_isSo 523 = .ok (.iload 21, 2) := by decide +kernel
theorem dL_isSo_525 : decode cL_isSo 525 = .ok (.iload 19, 2) := by decide +kernel
theorem dL_isSo_527 : decode cL_isSo 527 = .ok (.invokestatic 10, 3) := by decide +kernel
theorem dL_isSo_530 : decode cL_isSo 530 = .ok (.aload 6, 2) := by decide +kernel
theorem dL_isSo_532 : decode cL_isSo 532 = .ok (.invokestatic 16, 3) := by decide +kernel
theorem dL_isSo_535 : decode cL_isSo 535 = .ok (.bipush 31, 2) := by decide +kernel
theorem dL_isSo_537 : decode cL_isSo 537 = .ok (.iand, 1) := by decide +kernel
theorem dL_isSo_538 : decode cL_isSo 538 = .ok (.iload 21, 2) := by decide +kernel
theorem dL_isSo_540 : decode cL_isSo 540 = .ok (.if_icmp .ne 7, 3) := by decide +kernel
theorem dL_isSo_543 : decode cL_isSo 543 = .ok (.iconst 1, 1) := by decide +kernel
theorem dL_isSo_544 : decode cL_isSo 544 = .ok (.goto 4, 3) := by decide +kernel
theorem dL_isSo_547 : decode cL_isSo 547 = .ok (.iconst 0, 1) := by decide +kernel
theorem dL_isSo_548 : decode cL_isSo 548 = .ok (.iadd, 1) := by decide +kernel
theorem dL_isSo_549 : decode cL_isSo 549 = .ok (.istore 20, 2) := by decide +kernel
theorem dL_isSo_551 : decode cL_isSo 551 = .ok (.iinc 21 1, 3) := by decide +kernel
theorem dL_isSo_554 : decode cL_isSo 554 = .ok (.goto (-45), 3) := by decide +kernel
theorem dL_isSo_557 : decode cL_isSo 557 = .ok (.iload 20, 2) := by decide +kernel
theorem dL_isSo_559 : decode cL_isSo 559 = .ok (.iload 18, 2) := by decide +kernel
theorem dL_isSo_561 : decode cL_isSo 561 = .ok (.if_icmp .ge 8, 3) := by decide +kernel
theorem dL_isSo_564 : decode cL_isSo 564 = .ok (.iload 19, 2) := by decide +kernel
theorem dL_isSo_566 : decode cL_isSo 566 = .ok (.goto 5, 3) := by decide +kernel
theorem dL_isSo_569 : decode cL_isSo 569 = .ok (.iload 17, 2) := by decide +kernel
theorem dL_isSo_571 : decode cL_isSo 571 = .ok (.istore 17, 2) := by decide +kernel
theorem dL_isSo_573 : decode cL_isSo 573 = .ok (.iload 20, 2) := by decide +kernel
theorem dL_isSo_575 : decode cL_isSo 575 = .ok (.iload 18, 2) := by decide +kernel
theorem dL_isSo_577 : decode cL_isSo 577 = .ok (.if_icmp .ge 8, 3) := by decide +kernel
theorem dL_isSo_580 : decode cL_isSo 580 = .ok (.iload 20, 2) := by decide +kernel
theorem dL_isSo_582 : decode cL_isSo 582 = .ok (.goto 5, 3) := by decide +kernel
theorem dL_isSo_585 : decode cL_isSo 585 = .ok (.iload 18, 2) := by decide +kernel
theorem dL_isSo_587 : decode cL_isSo 587 = .ok (.istore 18, 2) := by decide +kernel
theorem dL_isSo_589 : decode cL_isSo 589 = .ok (.iinc 19 1, 3) := by decide +kernel
theorem dL_isSo_592 : decode cL_isSo 592 = .ok (.goto (-101), 3) := by decide +kernel
theorem dL_isSo_595 : decode cL_isSo 595 = .ok (.iload 13, 2) := by decide +kernel
theorem dL_isSo_597 : decode cL_isSo 597 = .ok (.ifCond .eq 32, 3) := by decide +kernel
theorem dL_isSo_600 : decode cL_isSo 600 = .ok (.aload_n 0, 1) := by decide +kernel
theorem dL_isSo_601 : decode cL_isSo 601 = .ok (.invokevirtual 121, 3) := by decide +kernel
theorem dL_isSo_604 : decode cL_isSo 604 = .ok (.iload 17, 2) := by decide +kernel
theorem dL_isSo_606 : decode cL_isSo 606 = .ok (.if_icmp .ne 23, 3) := by decide +kernel
theorem dL_isSo_609 : decode cL_isSo 609 = .ok (.aload_n 0, 1) := by decide +kernel
theorem dL_isSo_610 : decode cL_isSo 610 = .ok (.iload_n 1, 1) := by decide +kernel
theorem dL_isSo_611 : decode cL_isSo 611 = .ok (.bipush 8, 2) := by decide +kernel
theorem dL_isSo_613 : decode cL_isSo 613 = .ok (.ishr, 1) := by decide +kernel
theorem dL_isSo_614 : decode cL_isSo 614 = .ok (.aload_n 2, 1) := by decide +kernel
theorem dL_isSo_615 : decode cL_isSo 615 = .ok (.aload 7, 2) := by decide +kernel
theorem dL_isSo_617 : decode cL_isSo 617 = .ok (.aload 8, 2) := by decide +kernel
theorem dL_isSo_619 : decode cL_isSo 619 = .ok (.invokestatic 124, 3) := by decide +kernel
theorem dL_isSo_622 : decode cL_isSo 622 = .ok (.ifCond .eq 7, 3) := by decide +kernel
theorem dL_isSo_625 : decode cL_isSo 625 = .ok (.iconst 1, 1) := by decide +kernel
theorem dL_isSo_626 : decode cL_isSo 626 = .ok (.goto 4, 3) := by decide +kernel
theorem dL_isSo_629 : decode cL_isSo 629 = .ok (.iconst 0, 1) := by decide +kernel
theorem dL_isSo_630 : decode cL_isSo 630 = .ok (.ireturn, 1) := by decide +kernel
theorem dL_told_0 : decode cL_told 0 = .ok (.ldc2_w 128, 3) := by decide +kernel
theorem dL_told_3 : decode cL_told 3 = .ok (.lstore_n 1, 1) := by decide +kernel
theorem dL_told_4 : decode cL_told 4 = .ok (.iconst 0, 1) := by decide +kernel
theorem dL_told_5 : decode cL_told 5 = .ok (.istore_n 3, 1) := by decide +kernel
theorem dL_told_6 : decode cL_told 6 = .ok (.iload_n 3, 1) := by decide +kernel
theorem dL_told_7 : decode cL_told 7 = .ok (.bipush 18, 2) := by decide +kernel
theorem dL_told_9 : decode cL_told 9 = .ok (.if_icmp .ge 38, 3) := by decide +kernel
theorem dL_told_12 : decode cL_told 12 = .ok (.ldc2_w 130, 3) := by decide +kernel
theorem dL_told_15 : decode cL_told 15 = .ok (.lload_n 1, 1) := by decide +kernel
theorem dL_told_16 : decode cL_told 16 = .ok (.lmul, 1) := by decide +kernel
theorem dL_told_17 : decode cL_told 17 = .ok (.iload_n 3, 1) := by decide +kernel
theorem dL_told_18 : decode cL_told 18 = .ok (.bipush 12, 2) := by decide +kernel
theorem dL_told_20 : decode cL_told 20 = .ok (.if_icmp .eq 9, 3) := by decide +kernel
theorem dL_told_23 : decode cL_told 23 = .ok (.iload_n 3, 1) := by decide +kernel
theorem dL_told_24 : decode cL_told 24 = .ok (.bipush 13, 2) := by decide +kernel
theorem dL_told_26 : decode cL_told 26 = .ok (.if_icmp .ne 7, 3) := by decide +kernel
theorem dL_told_29 : decode cL_told 29 = .ok (.iconst 0, 1) := by decide +kernel
theorem dL_told_30 : decode cL_told 30 = .ok (.goto 8, 3) := by decide +kernel
theorem dL_told_33 : decode cL_told 33 = .ok (.aload_n 0, 1) := by decide +kernel
theorem dL_told_34 : decode cL_told 34 = .ok (.iload_n 3, 1) := by decide +kernel
theorem dL_told_35 : decode cL_told 35 = .ok (.invokevirtual 92, 3) := by decide +kernel
theorem dL_told_38 : decode cL_told 38 = .ok (.i2l, 1) := by decide +kernel
theorem dL_told_39 : decode cL_told 39 = .ok (.ladd, 1) := by decide +kernel
theorem dL_told_40 : decode cL_told 40 = .ok (.lstore_n 1, 1) := by decide +kernel
theorem dL_told_41 : decode cL_told 41 = .ok (.iinc 3 1, 3) := by decide +kernel
theorem dL_told_44 : decode cL_told 44 = .ok (.goto (-38), 3) := by decide +kernel
theorem dL_told_47 : decode cL_told 47 = .ok (.iconst 0, 1) := by decide +kernel
theorem dL_told_48 : decode cL_told 48 = .ok (.istore_n 3, 1) := by decide +kernel
theorem dL_told_49 : decode cL_told 49 = .ok (.iload_n 3, 1) := by decide +kernel
theorem dL_told_50 : decode cL_told 50 = .ok (.bipush 24, 2) := by decide +kernel
theorem dL_told_52 : decode cL_told 52 = .ok (.if_icmp .ge 97, 3) := by decide +kernel
theorem dL_told_55 : decode cL_told 55 = .ok (.ldc2_w 130, 3) := by decide +kernel
theorem dL_told_58 : decode cL_told 58 = .ok (.ldc2_w 130, 3) := by decide +kernel
theorem dL_told_61 : decode cL_told 61 = .ok (.lload_n 1, 1) := by decide +kernel
theorem dL_told_62 : decode cL_told 62 = .ok (.lmul, 1) := by decide +kernel
theorem dL_told_63 : decode cL_told 63 = .ok (.aload_n 0, 1) := by decide +kernel
theorem dL_told_64 : decode cL_told 64 = .ok (.iload_n 3, 1) := by decide +kernel
theorem dL_told_65 : decode cL_told 65 = .ok (.iconst 0, 1) := by decide +kernel
theorem dL_told_66 : decode cL_told 66 = .ok (.invokevirtual 114, 3) := by decide +kernel
theorem dL_told_69 : decode cL_told 69 = .ok (.i2l, 1) := by decide +kernel
theorem dL_told_70 : decode cL_told 70 = .ok (.ladd, 1) := by decide +kernel
theorem dL_told_71 : decode cL_told 71 = .ok (.lmul, 1) := by decide +kernel
theorem dL_told_72 : decode cL_told 72 = .ok (.aload_n 0, 1) := by decide +kernel
theorem dL_told_73 : decode cL_told 73 = .ok (.iload_n 3, 1) := by decide +kernel
theorem dL_told_74 : decode cL_told 74 = .ok (.iconst 1, 1) := by decide +kernel
theorem dL_told_75 : decode cL_told 75 = .ok (.invokevirtual 114, 3) := by decide +kernel
theorem dL_told_78 : decode cL_told 78 = .ok (.i2l, 1) := by decide +kernel
theorem dL_told_79 : decode cL_told 79 = .ok (.ladd, 1) := by decide +kernel
theorem dL_told_80 : decode cL_told 80 = .ok (.lstore_n 1, 1) := by decide +kernel
theorem dL_told_81 : decode cL_told 81 = .ok (.ldc2_w 130, 3) := by decide +kernel
theorem dL_told_84 : decode cL_told 84 = .ok (.ldc2_w 130, 3) := by decide +kernel
theorem dL_told_87 : decode cL_told 87 = .ok (.lload_n 1, 1) := by decide +kernel
theorem dL_told_88 : decode cL_told 88 = .ok (.lmul, 1) := by decide +kernel
theorem dL_told_89 : decode cL_told 89 = .ok (.aload_n 0, 1) := by decide +kernel
theorem dL_told_90 : decode cL_told 90 = .ok (.iload_n 3, 1) := by decide +kernel
theorem dL_told_91 : decode cL_told 91 = .ok (.iconst 1, 1) := by decide +kernel
theorem dL_told_92 : decode cL_told 92 = .ok (.invokevirtual 100, 3) := by decide +kernel
theorem dL_told_95 : decode cL_told 95 = .ok (.i2l, 1) := by decide +kernel
theorem dL_told_96 : decode cL_told 96 = .ok (.ladd, 1) := by decide +kernel
theorem dL_told_97 : decode cL_told 97 = .ok (.lmul, 1) := by decide +kernel
theorem dL_told_98 : decode cL_told 98 = .ok (.aload_n 0, 1) := by decide +kernel
theorem dL_told_99 : decode cL_told 99 = .ok (.iload_n 3, 1) := by decide +kernel
theorem dL_told_100 : decode cL_told 100 = .ok (.iconst 2, 1) := by decide +kernel
theorem dL_told_101 : decode cL_told 101 = .ok (.invokevirtual 100, 3) := by decide +kernel
theorem dL_told_104 : decode cL_told 104 = .ok (.i2l, 1) := by decide +kernel
theorem dL_told_105 : decode cL_told 105 = .ok (.ladd, 1) := by decide +kernel
theorem dL_told_106 : decode cL_told 106 = .ok (.lstore_n 1, 1) := by decide +kernel
theorem dL_told_107 : decode cL_told 107 = .ok (.ldc2_w 130, 3) := by decide +kernel
theorem dL_told_110 : decode cL_told 110 = .ok (.ldc2_w 130, 3) := by decide +kernel
theorem dL_told_113 : decode cL_told 113 = .ok (.lload_n 1, 1) := by decide +kernel
theorem dL_told_114 : decode cL_told 114 = .ok (.lmul, 1) := by decide +kernel
theorem dL_told_115 : decode cL_told 115 = .ok (.aload_n 0, 1) := by decide +kernel
theorem dL_told_116 : decode cL_told 116 = .ok (.iconst 0, 1) := by decide +kernel
theorem dL_told_117 : decode cL_told 117 = .ok (.iload_n 3, 1) := by decide +kernel
theorem dL_told_118 : decode cL_told 118 = .ok (.iconst 0, 1) := by decide +kernel
theorem dL_told_119 : decode cL_told 119 = .ok (.invokevirtual 117, 3) := by decide +kernel
theorem dL_told_122 : decode cL_told 122 = .ok (.i2l, 1) := by decide +kernel
theorem dL_told_123 : decode cL_told 123 = .ok (.ladd, 1) := by decide +kernel
theorem dL_told_124 : decode cL_told 124 = .ok (.lmul, 1) := by decide +kernel
theorem dL_told_125 : decode cL_told 125 = .ok (.aload_n 0, 1) := by decide +kernel
theorem dL_told_126 : decode cL_told 126 = .ok (.iconst 5, 1) := by decide +kernel
theorem dL_told_127 : decode cL_told 127 = .ok (.iload_n 3, 1) := by decide +kernel
theorem dL_told_128 : decode cL_told 128 = .ok (.iconst 1, 1) := by decide +kernel
theorem dL_told_129 : decode cL_told 129 = .ok (.invokevirtual 117, 3) := by decide +kernel
theorem dL_told_132 : decode cL_told 132 = .ok (.i2l, 1) := by decide +kernel
theorem dL_told_133 : decode cL_told 133 = .ok (.ladd, 1) := by decide +kernel
theorem dL_told_134 : decode cL_told 134 = .ok (.aload_n 0, 1) := by decide +kernel
theorem dL_told_135 : decode cL_told 135 = .ok (.iload_n 3, 1) := by decide +kernel
theorem dL_told_136 : decode cL_told 136 = .ok (.iconst 3, 1) := by decide +kernel
theorem dL_told_137 : decode cL_told 137 = .ok (.invokevirtual 100, 3) := by decide +kernel
theorem dL_told_140 : decode cL_told 140 = .ok (.i2l, 1) := by decide +kernel
theorem dL_told_141 : decode cL_told 141 = .ok (.ladd, 1) := by decide +kernel
theorem dL_told_142 : decode cL_told 142 = .ok (.lstore_n 1, 1) := by decide +kernel
theorem dL_told_143 : decode cL_told 143 = .ok (.iinc 3 1, 3) := by decide +kernel
theorem dL_told_146 : decode cL_told 146 = .ok (.goto (-97), 3) := by decide +kernel
theorem dL_told_149 : decode cL_told 149 = .ok (.lload_n 1, 1) := by decide +kernel
theorem dL_told_150 : decode cL_told 150 = .ok (.lreturn, 1) := by decide +kernel
theorem dL_law_0 : decode cL_law 0 = .ok (.new 33, 3) := by decide +kernel
theorem dL_law_3 : decode cL_law 3 = .ok (.dup, 1) := by decide +kernel
theorem dL_law_4 : decode cL_law 4 = .ok (.invokespecial 132, 3) := by decide +kernel
theorem dL_law_7 : decode cL_law 7 = .ok (.astore_n 1, 1) := by decide +kernel
theorem dL_law_8 : decode cL_law 8 = .ok (.bipush 12, 2) := by decide +kernel
theorem dL_law_10 : decode cL_law 10 = .ok (.newarray .int, 2) := by decide +kernel
theorem dL_law_12 : decode cL_law 12 = .ok (.astore_n 2, 1) := by decide +kernel
theorem dL_law_13 : decode cL_law 13 = .ok (.bipush 24, 2) := by decide +kernel
theorem dL_law_15 : decode cL_law 15 = .ok (.newarray .int, 2) := by decide +kernel
theorem dL_law_17 : decode cL_law 17 = .ok (.astore_n 3, 1) := by decide +kernel
theorem dL_law_18 : decode cL_law 18 = .ok (.bipush 24, 2) := by decide +kernel
theorem dL_law_20 : decode cL_law 20 = .ok (.newarray .int, 2) := by decide +kernel
theorem dL_law_22 : decode cL_law 22 = .ok (.astore 4, 2) := by decide +kernel
theorem dL_law_24 : decode cL_law 24 = .ok (.bipush 12, 2) := by decide +kernel
theorem dL_law_26 : decode cL_law 26 = .ok (.newarray .int, 2) := by decide +kernel
theorem dL_law_28 : decode cL_law 28 = .ok (.astore 5, 2) := by decide +kernel
theorem dL_law_30 : decode cL_law 30 = .ok (.bipush 60, 2) := by decide +kernel
theorem dL_law_32 : decode cL_law 32 = .ok (.newarray .int, 2) := by decide +kernel
theorem dL_law_34 : decode cL_law 34 = .ok (.astore 6, 2) := by decide +kernel
theorem dL_law_36 : decode cL_law 36 = .ok (.bipush 24, 2) := by decide +kernel
theorem dL_law_38 : decode cL_law 38 = .ok (.newarray .int, 2) := by decide +kernel
theorem dL_law_40 : decode cL_law 40 = .ok (.astore 7, 2) := by decide +kernel
theorem dL_law_42 : decode cL_law 42 = .ok (.bipush 24, 2) := by decide +kernel
theorem dL_law_44 : decode cL_law 44 = .ok (.newarray .int, 2) := by decide +kernel
theorem dL_law_46 : decode cL_law 46 = .ok (.astore 8, 2) := by decide +kernel
theorem dL_law_48 : decode cL_law 48 = .ok (.bipush 12, 2) := by decide +kernel
theorem dL_law_50 : decode cL_law 50 = .ok (.newarray .int, 2) := by decide +kernel
theorem dL_law_52 : decode cL_law 52 = .ok (.astore 9, 2) := by decide +kernel
theorem dL_law_54 : decode cL_law 54 = .ok (.aload_n 2, 1) := by decide +kernel
theorem dL_law_55 : decode cL_law 55 = .ok (.iconst 0, 1) := by decide +kernel
theorem dL_law_56 : decode cL_law 56 = .ok (.bipush 10, 2) := by decide +kernel
theorem dL_law_58 : decode cL_law 58 = .ok (.iastore, 1) := by decide +kernel
theorem dL_law_59 : decode cL_law 59 = .ok (.aload_n 2, 1) := by decide +kernel
theorem dL_law_60 : decode cL_law 60 = .ok (.iconst 1, 1) := by decide +kernel
theorem dL_law_61 : decode cL_law 61 = .ok (.iconst 3, 1) := by decide +kernel
theorem dL_law_62 : decode cL_law 62 = .ok (.iastore, 1) := by decide +kernel
theorem dL_law_63 : decode cL_law 63 = .ok (.aload_n 2, 1) := by decide +kernel
theorem dL_law_64 : decode cL_law 64 = .ok (.iconst 2, 1) := by decide +kernel
theorem dL_law_65 : decode cL_law 65 = .ok (.iconst 4, 1) := by decide +kernel
theorem dL_law_66 : decode cL_law 66 = .ok (.iastore, 1) := by decide +kernel
theorem dL_law_67 : decode cL_law 67 = .ok (.aload_n 2, 1) := by decide +kernel
theorem dL_law_68 : decode cL_law 68 = .ok (.iconst 3, 1) := by decide +kernel
theorem dL_law_69 : decode cL_law 69 = .ok (.bipush 12, 2) := by decide +kernel
theorem dL_law_71 : decode cL_law 71 = .ok (.iastore, 1) := by decide +kernel
theorem dL_law_72 : decode cL_law 72 = .ok (.iconst 0, 1) := by decide +kernel
theorem dL_law_73 : decode cL_law 73 = .ok (.istore 10, 2) := by decide +kernel
theorem dL_law_75 : decode cL_law 75 = .ok (.iload 10, 2) := by decide +kernel
theorem dL_law_77 : decode cL_law 77 = .ok (.bipush 24, 2) := by decide +kernel
theorem dL_law_79 : decode cL_law 79 = .ok (.if_icmp .ge 15, 3) := by decide +kernel
theorem dL_law_82 : decode cL_law 82 = .ok (.aload_n 3, 1) := by decide +kernel
theorem dL_law_83 : decode cL_law 83 = .ok (.iload 10, 2) := by decide +kernel
theorem dL_law_85 : decode cL_law 85 = .ok (.iload 10, 2) := by decide +kernel
theorem dL_law_87 : decode cL_law 87 = .ok (.iastore, 1) := by decide +kernel
theorem dL_law_88 : decode cL_law 88 = .ok (.iinc 10 1, 3) := by decide +kernel
theorem dL_law_91 : decode cL_law 91 = .ok (.goto (-16), 3) := by decide +kernel
theorem dL_law_94 : decode cL_law 94 = .ok (.iconst 0, 1) := by decide +kernel
theorem dL_law_95 : decode cL_law 95 = .ok (.istore 10, 2) := by decide +kernel
theorem dL_law_97 : decode cL_law 97 = .ok (.iload 10, 2) := by decide +kernel
theorem dL_law_99 : decode cL_law 99 = .ok (.bipush 46, 2) := by decide +kernel
theorem dL_law_101 : decode cL_law 101 = .ok (.if_icmp .ge 613, 3) := by decide +kernel
theorem dL_law_104 : decode cL_law 104 = .ok (.aload_n 0, 1) := by decide +kernel
theorem dL_law_105 : decode cL_law 105 = .ok (.iconst 2, 1) := by decide +kernel
theorem dL_law_106 : decode cL_law 106 = .ok (.iload 10, 2) := by decide +kernel
theorem dL_law_108 : decode cL_law 108 = .ok (.imul, 1) := by decide +kernel
theorem dL_law_109 : decode cL_law 109 = .ok (.invokestatic 133, 3) := by decide +kernel
theorem dL_law_112 : decode cL_law 112 = .ok (.istore 11, 2) := by decide +kernel
theorem dL_law_114 : decode cL_law 114 = .ok (.aload_n 0, 1) := by decide +kernel
theorem dL_law_115 : decode cL_law 115 = .ok (.iconst 2, 1) := by decide +kernel
theorem dL_law_116 : decode cL_law 116 = .ok (.iload 10, 2) := by decide +kernel
theorem dL_law_118 : decode cL_law 118 = .ok (.imul, 1) := by decide +kernel
theorem dL_law_119 : decode cL_law 119 = .ok (.iconst 1, 1) := by decide +kernel
theorem dL_law_120 : decode cL_law 120 = .ok (.iadd, 1) := by decide +kernel
theorem dL_law_121 : decode cL_law 121 = .ok (.invokestatic 133, 3) := by decide +kernel
theorem dL_law_124 : decode cL_law 124 = .ok (.istore 12, 2) := by decide +kernel
theorem dL_law_126 : decode cL_law 126 = .ok (.iload 11, 2) := by decide +kernel
theorem dL_law_128 : decode cL_law 128 = .ok (.bipush 28, 2) := by decide +kernel
theorem dL_law_130 : decode cL_law 130 = .ok (.invokestatic 89, 3) := by decide +kernel
theorem dL_law_133 : decode cL_law 133 = .ok (.istore 13, 2) := by decide +kernel
theorem dL_law_135 : decode cL_law 135 = .ok (.iload 13, 2) := by decide +kernel
theorem dL_law_137 : decode cL_law 137 = .ok (.iconst 3, 1) := by decide +kernel
theorem dL_law_138 : decode cL_law 138 = .ok (.if_icmp .ge 7, 3) := by decide +kernel
theorem dL_law_141 : decode cL_law 141 = .ok (.iconst 0, 1) := by decide +kernel
theorem dL_law_142 : decode cL_law 142 = .ok (.goto 119, 3) := by decide +kernel
theorem dL_law_145 : decode cL_law 145 = .ok (.iload 13, 2) := by decide +kernel
theorem dL_law_147 : decode cL_law 147 = .ok (.bipush 9, 2) := by decide +kernel
theorem dL_law_149 : decode cL_law 149 = .ok (.if_icmp .ge 7, 3) := by decide +kernel
theorem dL_law_152 : decode cL_law 152 = .ok (.iconst 1, 1) := by decide +kernel
theorem dL_law_153 : decode cL_law 153 = .ok (.goto 108, 3) := by decide +kernel
theorem dL_law_156 : decode cL_law 156 = .ok (.iload 13, 2) := by decide +kernel
theorem dL_law_158 : decode cL_law 158 = .ok (.bipush 11, 2) := by decide +kernel
theorem dL_law_160 : decode cL_law 160 = .ok (.if_icmp .ge 7, 3) := by decide +kernel
theorem dL_law_163 : decode cL_law 163 = .ok (.iconst 2, 1) := by decide +kernel
theorem dL_law_164 : decode cL_law 164 = .ok (.goto 97, 3) := by decide +kernel
theorem dL_law_167 : decode cL_law 167 = .ok (.iload 13, 2) := by decide +kernel
theorem dL_law_169 : decode cL_law 169 = .ok (.bipush 13, 2) := by decide +kernel
theorem dL_law_171 : decode cL_law 171 = .ok (.if_icmp .ge 7, 3) := by decide +kernel
theorem dL_law_174 : decode cL_law 174 = .ok (.iconst 3, 1) := by decide +kernel
theorem dL_law_175 : decode cL_law 175 = .ok (.goto 86, 3) := by decide +kernel
theorem dL_law_178 : decode cL_law 178 = .ok (.iload 13, 2) := by decide +kernel
theorem dL_law_180 : decode cL_law 180 = .ok (.bipush 17, 2) := by decide +kernel
theorem dL_law_182 : decode cL_law 182 = .ok (.if_icmp .ge 7, 3) := by decide +kernel
theorem dL_law_185 : decode cL_law 185 = .ok (.iconst 4, 1) := by decide +kernel
theorem dL_law_186 : decode cL_law 186 = .ok (.goto 75, 3) := by decide +kernel
theorem dL_law_189 : decode cL_law 189 = .ok (.iload 13, 2) := by decide +kernel
theorem dL_law_191 : decode cL_law 191 = .ok (.bipush 20, 2) := by decide +kernel
theorem dL_law_193 : decode cL_law 193 = .ok (.if_icmp .ge 7, 3) := by decide +kernel
theorem dL_law_196 : decode cL_law 196 = .ok (.iconst 5, 1) := by decide +kernel
theorem dL_law_197 : decode cL_law 197 = .ok (.goto 64, 3) := by decide +kernel
theorem dL_law_200 : decode cL_law 200 = .ok (.iload 13, 2) := by decide +kernel
theorem dL_law_202 : decode cL_law 202 = .ok (.bipush 22, 2) := by decide +kernel
theorem dL_law_204 : decode cL_law 204 = .ok (.if_icmp .ge 8, 3) := by decide +kernel
theorem dL_law_207 : decode cL_law 207 = .ok (.bipush 6, 2) := by decide +kernel
theorem dL_law_209 : decode cL_law 209 = .ok (.goto 52, 3) := by decide +kernel
theorem dL_law_212 : decode cL_law 212 = .ok (.iload 13, 2) := by decide +kernel
theorem dL_law_214 : decode cL_law 214 = .ok (.bipush 24, 2) := by decide +kernel
theorem dL_law_216 : decode cL_law 216 = .ok (.if_icmp .ge 8, 3) := by decide +kernel
theorem dL_law_219 : decode cL_law 219 = .ok (.bipush 7, 2) := by decide +kernel
theorem dL_law_221 : decode cL_law 221 = .ok (.goto 40, 3) := by decide +kernel
theorem dL_law_224 : decode cL_law 224 = .ok (.iload 13, 2) := by decide +kernel
theorem dL_law_226 : decode cL_law 226 = .ok (.bipush 24, 2) := by decide +kernel
theorem dL_law_228 : decode cL_law 228 = .ok (.if_icmp .ne 8, 3) := by decide +kernel
theorem dL_law_231 : decode cL_law 231 = .ok (.bipush 8, 2) := by decide +kernel
theorem dL_law_233 : decode cL_law 233 = .ok (.goto 28, 3) := by decide +kernel
theorem dL_law_236 : decode cL_law 236 = .ok (.iload 13, 2) := by decide +kernel
theorem dL_law_238 : decode cL_law 238 = .ok (.bipush 25, 2) := by decide +kernel
theorem dL_law_240 : decode cL_law 240 = .ok (.if_icmp .ne 8, 3) := by decide +kernel
theorem dL_law_243 : decode cL_law 243 = .ok (.bipush 9, 2) := by decide +kernel
theorem dL_law_245 : decode cL_law 245 = .ok (.goto 16, 3) := by decide +kernel
theorem dL_law_248 : decode cL_law 248 = .ok (.iload 10, 2) := by decide +kernel
theorem dL_law_250 : decode cL_law 250 = .ok (.iconst 3, 1) := by decide +kernel
theorem dL_law_251 : decode cL_law 251 = .ok (.irem, 1) := by decide +kernel
theorem dL_law_252 : decode cL_law 252 = .ok (.ifCond .ne 8, 3) := by decide +kernel
theorem dL_law_255 : decode cL_law 255 = .ok (.bipush 10, 2) := by decide +kernel
theorem dL_law_257 : decode cL_law 257 = .ok (.goto 4, 3) := by decide +kernel
theorem dL_law_260 : decode cL_law 260 = .ok (.iconst 1, 1) := by decide +kernel
theorem dL_law_261 : decode cL_law 261 = .ok (.istore 13, 2) := by decide +kernel
theorem dL_law_263 : decode cL_law 263 = .ok (.iload 13, 2) := by decide +kernel
theorem dL_law_265 : decode cL_law 265 = .ok (.iconst 3, 1) := by decide +kernel
theorem dL_law_266 : decode cL_law 266 = .ok (.if_icmp .ge 13, 3) := by decide +kernel
theorem dL_law_269 : decode cL_law 269 = .ok (.iload 12, 2) := by decide +kernel
theorem dL_law_271 : decode cL_law 271 = .ok (.bipush 24, 2) := by decide +kernel
theorem dL_law_273 : decode cL_law 273 = .ok (.invokestatic 89, 3) := by decide +kernel
theorem dL_law_276 : decode cL_law 276 = .ok (.goto 65, 3) := by decide +kernel
theorem dL_law_279 : decode cL_law 279 = .ok (.iload 13, 2) := by decide +kernel
theorem dL_law_281 : decode cL_law 281 = .ok (.iconst 3, 1) := by decide +kernel
theorem dL_law_282 : decode cL_law 282 = .ok (.if_icmp .eq 9, 3) := by decide +kernel
theorem dL_law_285 : decode cL_law 285 = .ok (.iload 13, 2) := by decide +kernel
theorem dL_law_287 : decode cL_law 287 = .ok (.iconst 5, 1) := by decide +kernel
theorem dL_law_288 : decode cL_law 288 = .ok (.if_icmp .ne 12, 3) := by decide +kernel
theorem dL_law_291 : decode cL_law 291 = .ok (.iload 12, 2) := by decide +kernel
theorem dL_law_293 : decode cL_law 293 = .ok (.iconst 4, 1) := by decide +kernel
theorem dL_law_294 : decode cL_law 294 = .ok (.invokestatic 89, 3) := by decide +kernel
theorem dL_law_297 : decode cL_law 297 = .ok (.goto 44, 3) := by decide +kernel
theorem dL_law_300 : decode cL_law 300 = .ok (.iload 13, 2) := by decide +kernel
theorem dL_law_302 : decode cL_law 302 = .ok (.iconst 4, 1) := by decide +kernel
theorem dL_law_303 : decode cL_law 303 = .ok (.if_icmp .ne 12, 3) := by decide +kernel
theorem dL_law_306 : decode cL_law 306 = .ok (.iload 12, 2) := by decide +kernel
theorem dL_law_308 : decode cL_law 308 = .ok (.iconst 2, 1) := by decide +kernel
theorem dL_law_309 : decode cL_law 309 = .ok (.invokestatic 89, 3) := by decide +kernel
theorem dL_law_312 : decode cL_law 312 = .ok (.goto 29, 3) := by decide +kernel
theorem dL_law_315 : decode cL_law 315 = .ok (.iconst 1, 1) := by decide +kernel
theorem dL_law_316 : decode cL_law 316 = .ok (.iload 12, 2) := by decide +kernel
theorem dL_law_318 : decode cL_law 318 = .ok (.iload 12, 2) := by decide +kernel
theorem dL_law_320 : decode cL_law 320 = .ok (.bipush 20, 2) := by decide +kernel
theorem dL_law_322 : decode cL_law 322 = .ok (.ishr, 1) := by decide +kernel
theorem dL_law_323 : decode cL_law 323 = .ok (.iconst 3, 1) := by decide +kernel
theorem dL_law_324 : decode cL_law 324 = .ok (.invokestatic 89, 3) := by decide +kernel
theorem dL_law_327 : decode cL_law 327 = .ok (.ifCond .ne 8, 3) := by decide +kernel
theorem dL_law_330 : decode cL_law 330 = .ok (.bipush 24, 2) := by decide +kernel
theorem dL_law_332 : decode cL_law 332 = .ok (.goto 5, 3) := by decide +kernel
theorem dL_law_335 : decode cL_law 335 = .ok (.bipush 12, 2) := by decide +kernel
theorem dL_law_337 : decode cL_law 337 = .ok (.invokestatic 89, 3) := by decide +kernel
theorem dL_law_340 : decode cL_law 340 = .ok (.iadd, 1) := by decide +kernel
theorem dL_law_341 : decode cL_law 341 = .ok (.istore 14, 2) := by decide +kernel
theorem dL_law_343 : decode cL_law 343 = .ok (.iload 13, 2) := by decide +kernel
theorem dL_law_345 : decode cL_law 345 = .ok (.ifCond .ne 15, 3) := by decide +kernel
theorem dL_law_348 : decode cL_law 348 = .ok (.iload 12, 2) := by decide +kernel
theorem dL_law_350 : decode cL_law 350 = .ok (.iconst 5, 1) := by decide +kernel
theorem dL_law_351 : decode cL_law 351 = .ok (.ishr, 1) := by decide +kernel
theorem dL_law_352 : decode cL_law 352 = .ok (.bipush 24, 2) := by decide +kernel
theorem dL_law_354 : decode cL_law 354 = .ok (.invokestatic 89, 3) := by decide +kernel
theorem dL_law_357 : decode cL_law 357 = .ok (.goto 86, 3) := by decide +kernel
theorem dL_law_360 : decode cL_law 360 = .ok (.iload 13, 2) := by decide +kernel
theorem dL_law_362 : decode cL_law 362 = .ok (.iconst 1, 1) := by decide +kernel
theorem dL_law_363 : decode cL_law 363 = .ok (.if_icmp .ne 14, 3) := by decide +kernel
theorem dL_law_366 : decode cL_law 366 = .ok (.iload 12, 2) := by decide +kernel
theorem dL_law_368 : decode cL_law 368 = .ok (.iconst 5, 1) := by decide +kernel
theorem dL_law_369 : decode cL_law 369 = .ok (.ishr, 1) := by decide +kernel
theorem dL_law_370 : decode cL_law 370 = .ok (.iconst 4, 1) := by decide +kernel
theorem dL_law_371 : decode cL_law 371 = .ok (.invokestatic 89, 3) := by decide +kernel
theorem dL_law_374 : decode cL_law 374 = .ok (.goto 69, 3) := by decide +kernel
theorem dL_law_377 : decode cL_law 377 = .ok (.iload 14, 2) := by decide +kernel
theorem dL_law_379 : decode cL_law 379 = .ok (.ifCond .ne 17, 3) := by decide +kernel
theorem dL_law_382 : decode cL_law 382 = .ok (.iconst 1, 1) := by decide +kernel
theorem dL_law_383 : decode cL_law 383 = .ok (.iload 12, 2) := by decide +kernel
theorem dL_law_385 : decode cL_law 385 = .ok (.iconst 5, 1) := by decide +kernel
theorem dL_law_386 : decode cL_law 386 = .ok (.ishr, 1) := by decide +kernel
theorem dL_law_387 : decode cL_law 387 = .ok (.bipush 9, 2) := by decide +kernel
theorem dL_law_389 : decode cL_law 389 = .ok (.invokestatic 89, 3) := by decide +kernel
theorem dL_law_392 : decode cL_law 392 = .ok (.iadd, 1) := by decide +kernel
theorem dL_law_393 : decode cL_law 393 = .ok (.goto 50, 3) := by decide +kernel
theorem dL_law_396 : decode cL_law 396 = .ok (.iload 14, 2) := by decide +kernel
theorem dL_law_398 : decode cL_law 398 = .ok (.iconst 1, 1) := by decide +kernel
theorem dL_law_399 : decode cL_law 399 = .ok (.if_icmp .ne 15, 3) := by decide +kernel
theorem dL_law_402 : decode cL_law 402 = .ok (.iload 12, 2) := by decide +kernel
theorem dL_law_404 : decode cL_law 404 = .ok (.iconst 5, 1) := by decide +kernel
theorem dL_law_405 : decode cL_law 405 = .ok (.ishr, 1) := by decide +kernel
theorem dL_law_406 : decode cL_law 406 = .ok (.bipush 10, 2) := by decide +kernel
theorem dL_law_408 : decode cL_law 408 = .ok (.invokestatic 89, 3) := by decide +kernel
theorem dL_law_411 : decode cL_law 411 = .ok (.goto 32, 3) := by decide +kernel
theorem dL_law_414 : decode cL_law 414 = .ok (.iload 14, 2) := by decide +kernel
theorem dL_law_416 : decode cL_law 416 = .ok (.iconst 2, 1) := by decide +kernel
theorem dL_law_417 : decode cL_law 417 = .ok (.if_icmp .ne 15, 3) := by decide +kernel
theorem dL_law_420 : decode cL_law 420 = .ok (.iload 12, 2) := by decide +kernel
theorem dL_law_422 : decode cL_law 422 = .ok (.iconst 5, 1) := by decide +kernel
theorem dL_law_423 : decode cL_law 423 = .ok (.ishr, 1) := by decide +kernel
theorem dL_law_424 : decode cL_law 424 = .ok (.bipush 25, 2) := by decide +kernel
theorem dL_law_426 : decode cL_law 426 = .ok (.invokestatic 89, 3) := by decide +kernel
theorem dL_law_429 : decode cL_law 429 = .ok (.goto 14, 3) := by decide +kernel
theorem dL_law_432 : decode cL_law 432 = .ok (.iconst 1, 1) := by decide +kernel
theorem dL_law_433 : decode cL_law 433 = .ok (.iload 12, 2) := by decide +kernel
theorem dL_law_435 : decode cL_law 435 = .ok (.iconst 5, 1) := by decide +kernel
theorem dL_law_436 : decode cL_law 436 = .ok (.ishr, 1) := by decide +kernel
theorem dL_law_437 : decode cL_law 437 = .ok (.bipush 99, 2) := by decide +kernel
theorem dL_law_439 : decode cL_law 439 = .ok (.invokestatic 89, 3) := by decide +kernel
theorem dL_law_442 : decode cL_law 442 = .ok (.iadd, 1) := by decide +kernel
theorem dL_law_443 : decode cL_law 443 = .ok (.istore 15, 2) := by decide +kernel
theorem dL_law_445 : decode cL_law 445 = .ok (.iload 13, 2) := by decide +kernel
theorem dL_law_447 : decode cL_law 447 = .ok (.iconst 1, 1) := by decide +kernel
theorem dL_law_448 : decode cL_law 448 = .ok (.if_icmp .ne 23, 3) := by decide +kernel
theorem dL_law_451 : decode cL_law 451 = .ok (.iload 12, 2) := by decide +kernel
theorem dL_law_453 : decode cL_law 453 = .ok (.bipush 10, 2) := by decide +kernel
theorem dL_law_455 : decode cL_law 455 = .ok (.ishr, 1) := by decide +kernel
theorem dL_law_456 : decode cL_law 456 = .ok (.iconst 4, 1) := by decide +kernel
theorem dL_law_457 : decode cL_law 457 = .ok (.invokestatic 89, 3) := by decide +kernel
theorem dL_law_460 : decode cL_law 460 = .ok (.ifCond .le 7, 3) := by decide +kernel
theorem dL_law_463 : decode cL_law 463 = .ok (.iconst 1, 1) := by decide +kernel
theorem dL_law_464 : decode cL_law 464 = .ok (.goto 17, 3) := by decide +kernel
theorem dL_law_467 : decode cL_law 467 = .ok (.iconst 0, 1) := by decide +kernel
theorem dL_law_468 : decode cL_law 468 = .ok (.goto 13, 3) := by decide +kernel
theorem dL_law_471 : decode cL_law 471 = .ok (.iload 12, 2) := by decide +kernel
theorem dL_law_473 : decode cL_law 473 = .ok (.bipush 10, 2) := by decide +kernel
theorem dL_law_475 : decode cL_law 475 = .ok (.ishr, 1) := by decide +kernel
theorem dL_law_476 : decode cL_law 476 = .ok (.bipush 19, 2) := by decide +kernel
theorem dL_law_478 : decode cL_law 478 = .ok (.invokestatic 89, 3) := by decide +kernel
theorem dL_law_481 : decode cL_law 481 = .ok (.istore 16, 2) := by decide +kernel
theorem dL_law_483 : decode cL_law 483 = .ok (.aload_n 1, 1) := by decide +kernel
theorem dL_law_484 : decode cL_law 484 = .ok (.invokestatic 137, 3) := by decide +kernel
theorem dL_law_487 : decode cL_law 487 = .ok (.lstore 17, 2) := by decide +kernel
theorem dL_law_489 : decode cL_law 489 = .ok (.aload_n 1, 1) := by decide +kernel
theorem dL_law_490 : decode cL_law 490 = .ok (.iload 13, 2) := by decide +kernel
theorem dL_law_492 : decode cL_law 492 = .ok (.iload 14, 2) := by decide +kernel
theorem dL_law_494 : decode cL_law 494 = .ok (.iload 15, 2) := by decide +kernel
theorem dL_law_496 : decode cL_law 496 = .ok (.iload 16, 2) := by decide +kernel
theorem dL_law_498 : decode cL_law 498 = .ok (.invokestatic 141, 3) := by decide +kernel
theorem dL_law_501 : decode cL_law 501 = .ok (.istore 19, 2) := by decide +kernel
theorem dL_law_503 : decode cL_law 503 = .ok (.iload 19, 2) := by decide +kernel
theorem dL_law_505 : decode cL_law 505 = .ok (.ifCond .ge 16, 3) := by decide +kernel
theorem dL_law_508 : decode cL_law 508 = .ok (.aload_n 1, 1) := by decide +kernel
theorem dL_law_509 : decode cL_law 509 = .ok (.invokestatic 137, 3) := by decide +kernel
theorem dL_law_512 : decode cL_law 512 = .ok (.lload 17, 2) := by decide +kernel
theorem dL_law_514 : decode cL_law 514 = .ok (.lcmp, 1) := by decide +kernel
theorem dL_law_515 : decode cL_law 515 = .ok (.ifCond .eq 52, 3) := by decide +kernel
theorem dL_law_518 : decode cL_law 518 = .ok (.goto 47, 3) := by decide +kernel
theorem dL_law_521 : decode cL_law 521 = .ok (.iload 11, 2) := by decide +kernel
theorem dL_law_523 : decode cL_law 523 = .ok (.bipush 24, 2) := by decide +kernel
theorem dL_law_525 : decode cL_law 525 = .ok (.ishr, 1) := by decide +kernel
theorem dL_law_526 : decode cL_law 526 = .ok (.iconst 3, 1) := by decide +kernel
theorem dL_law_527 : decode cL_law 527 = .ok (.iand, 1) := by decide +kernel
theorem dL_law_528 : decode cL_law 528 = .ok (.ifCond .ne 39, 3) := by decide +kernel
theorem dL_law_531 : decode cL_law 531 = .ok (.aload_n 1, 1) := by decide +kernel
theorem dL_law_532 : decode cL_law 532 = .ok (.invokevirtual 145, 3) := by decide +kernel
theorem dL_law_535 : decode cL_law 535 = .ok (.ifCond .lt 30, 3) := by decide +kernel
theorem dL_law_538 : decode cL_law 538 = .ok (.aload_n 1, 1) := by decide +kernel
theorem dL_law_539 : decode cL_law 539 = .ok (.invokestatic 137, 3) := by decide +kernel
theorem dL_law_542 : decode cL_law 542 = .ok (.lload 17, 2) := by decide +kernel
theorem dL_law_544 : decode cL_law 544 = .ok (.lcmp, 1) := by decide +kernel
theorem dL_law_545 : decode cL_law 545 = .ok (.ifCond .ne 20, 3) := by decide +kernel
theorem dL_law_548 : decode cL_law 548 = .ok (.aload_n 1, 1) := by decide +kernel
theorem dL_law_549 : decode cL_law 549 = .ok (.iload 13, 2) := by decide +kernel
theorem dL_law_551 : decode cL_law 551 = .ok (.iload 14, 2) := by decide +kernel
theorem dL_law_553 : decode cL_law 553 = .ok (.iload 15, 2) := by decide +kernel
theorem dL_law_555 : decode cL_law 555 = .ok (.iload 16, 2) := by decide +kernel
theorem dL_law_557 : decode cL_law 557 = .ok (.invokestatic 141, 3) := by decide +kernel
theorem dL_law_560 : decode cL_law 560 = .ok (.iload 19, 2) := by decide +kernel
theorem dL_law_562 : decode cL_law 562 = .ok (.if_icmp .eq 5, 3) := by decide +kernel
theorem dL_law_565 : decode cL_law 565 = .ok (.iconst 0, 1) := by decide +kernel
theorem dL_law_566 : decode cL_law 566 = .ok (.ireturn, 1) := by decide +kernel
theorem dL_law_567 : decode cL_law 567 = .ok (.iload 13, 2) := by decide +kernel
theorem dL_law_569 : decode cL_law 569 = .ok (.iconst 4, 1) := by decide +kernel
theorem dL_law_570 : decode cL_law 570 = .ok (.if_icmp .ge 23, 3) := by decide +kernel
theorem dL_law_573 : decode cL_law 573 = .ok (.iload 13, 2) := by decide +kernel
theorem dL_law_575 : decode cL_law 575 = .ok (.iload 14, 2) := by decide +kernel
theorem dL_law_577 : decode cL_law 577 = .ok (.iload 15, 2) := by decide +kernel
theorem dL_law_579 : decode cL_law 579 = .ok (.iload 16, 2) := by decide +kernel
theorem dL_law_581 : decode cL_law 581 = .ok (.aload_n 2, 1) := by decide +kernel
theorem dL_law_582 : decode cL_law 582 = .ok (.aload_n 3, 1) := by decide +kernel
theorem dL_law_583 : decode cL_law 583 = .ok (.aload 4, 2) := by decide +kernel
theorem dL_law_585 : decode cL_law 585 = .ok (.aload 5, 2) := by decide +kernel
theorem dL_law_587 : decode cL_law 587 = .ok (.invokestatic 148, 3) := by decide +kernel
theorem dL_law_590 : decode cL_law 590 = .ok (.goto 46, 3) := by decide +kernel
theorem dL_law_593 : decode cL_law 593 = .ok (.iload 13, 2) := by decide +kernel
theorem dL_law_595 : decode cL_law 595 = .ok (.iconst 4, 1) := by decide +kernel
theorem dL_law_596 : decode cL_law 596 = .ok (.if_icmp .ne 24, 3) := by decide +kernel
theorem dL_law_599 : decode cL_law 599 = .ok (.aload_n 2, 1) := by decide +kernel
theorem dL_law_600 : decode cL_law 600 = .ok (.iconst 5, 1) := by decide +kernel
theorem dL_law_601 : decode cL_law 601 = .ok (.iaload, 1) := by decide +kernel
theorem dL_law_602 : decode cL_law 602 = .ok (.bipush 6, 2) := by decide +kernel
theorem dL_law_604 : decode cL_law 604 = .ok (.if_icmp .ne 8, 3) := by decide +kernel
theorem dL_law_607 : decode cL_law 607 = .ok (.bipush (-3), 2) := by decide +kernel
theorem dL_law_609 : decode cL_law 609 = .ok (.goto 27, 3) := by decide +kernel
theorem dL_law_612 : decode cL_law 612 = .ok (.aload_n 2, 1) := by decide +kernel
theorem dL_law_613 : decode cL_law 613 = .ok (.iconst 5, 1) := by decide +kernel
theorem dL_law_614 : decode cL_law 614 = .ok (.iaload, 1) := by decide +kernel
theorem dL_law_615 : decode cL_law 615 = .ok (.iconst 1, 1) := by decide +kernel
theorem dL_law_616 : decode cL_law 616 = .ok (.iadd, 1) := by decide +kernel
theorem dL_law_617 : decode cL_law 617 = .ok (.goto 19, 3) := by decide +kernel
theorem dL_law_620 : decode cL_law 620 = .ok (.iload 13, 2) := by decide +kernel
theorem dL_law_622 : decode cL_law 622 = .ok (.iload 14, 2) := by decide +kernel
theorem dL_law_624 : decode cL_law 624 = .ok (.aload_n 2, 1) := by decide +kernel
theorem dL_law_625 : decode cL_law 625 = .ok (.aload 6, 2) := by decide +kernel
theorem dL_law_627 : decode cL_law 627 = .ok (.aload 7, 2) := by decide +kernel
theorem dL_law_629 : decode cL_law 629 = .ok (.aload 8, 2) := by decide +kernel
theorem dL_law_631 : decode cL_law 631 = .ok (.aload 9, 2) := by decide +kernel
theorem dL_law_633 : decode cL_law 633 = .ok (.invokestatic 152, 3) := by decide +kernel
theorem dL_law_636 : decode cL_law 636 = .ok (.istore 20, 2) := by decide +kernel
theorem dL_law_638 : decode cL_law 638 = .ok (.iload 13, 2) := by decide +kernel
theorem dL_law_640 : decode cL_law 640 = .ok (.iconst 4, 1) := by decide +kernel
theorem dL_law_641 : decode cL_law 641 = .ok (.if_icmp .ne 33, 3) := by decide +kernel
theorem dL_law_644 : decode cL_law 644 = .ok (.aload_n 2, 1) := by decide +kernel
theorem dL_law_645 : decode cL_law 645 = .ok (.iconst 5, 1) := by decide +kernel
theorem dL_law_646 : decode cL_law 646 = .ok (.iaload, 1) := by decide +kernel
theorem dL_law_647 : decode cL_law 647 = .ok (.bipush 6, 2) := by decide +kernel
theorem dL_law_649 : decode cL_law 649 = .ok (.if_icmp .ge 25, 3) := by decide +kernel
theorem dL_law_652 : decode cL_law 652 = .ok (.iload 14, 2) := by decide +kernel
theorem dL_law_654 : decode cL_law 654 = .ok (.iconst 1, 1) := by decide +kernel
theorem dL_law_655 : decode cL_law 655 = .ok (.if_icmp .ne 7, 3) := by decide +kernel
theorem dL_law_658 : decode cL_law 658 = .ok (.iconst 1, 1) := by decide +kernel
theorem dL_law_659 : decode cL_law 659 = .ok (.goto 4, 3) := by decide +kernel
theorem dL_law_662 : decode cL_law 662 = .ok (.iconst 0, 1) := by decide +kernel
theorem dL_law_663 : decode cL_law 663 = .ok (.aload_n 2, 1) := by decide +kernel
theorem dL_law_664 : decode cL_law 664 = .ok (.aload_n 3, 1) := by decide +kernel
theorem dL_law_665 : decode cL_law 665 = .ok (.aload 4, 2) := by decide +kernel
theorem dL_law_667 : decode cL_law 667 = .ok (.aload 5, 2) := by decide +kernel
theorem dL_law_669 : decode cL_law 669 = .ok (.aload 6, 2) := by decide +kernel
theorem dL_law_671 : decode cL_law 671 = .ok (.invokestatic 156, 3) := by decide +kernel
theorem dL_law_674 : decode cL_law 674 = .ok (.iload 19, 2) := by decide +kernel
theorem dL_law_676 : decode cL_law 676 = .ok (.iload 20, 2) := by decide +kernel
theorem dL_law_678 : decode cL_law 678 = .ok (.if_icmp .ne 28, 3) := by decide +kernel
theorem dL_law_681 : decode cL_law 681 = .ok (.aload_n 1, 1) := by decide +kernel
theorem dL_law_682 : decode cL_law 682 = .ok (.iload 11, 2) := by decide +kernel
theorem dL_law_684 : decode cL_law 684 = .ok (.iconst 4, 1) := by decide +kernel
theorem dL_law_685 : decode cL_law 685 = .ok (.ishr, 1) := by decide +kernel
theorem dL_law_686 : decode cL_law 686 = .ok (.aload_n 2, 1) := by decide +kernel
theorem dL_law_687 : decode cL_law 687 = .ok (.aload_n 3, 1) := by decide +kernel
theorem dL_law_688 : decode cL_law 688 = .ok (.aload 4, 2) := by decide +kernel
theorem dL_law_690 : decode cL_law 690 = .ok (.aload 5, 2) := by decide +kernel
theorem dL_law_692 : decode cL_law 692 = .ok (.aload 6, 2) := by decide +kernel
theorem dL_law_694 : decode cL_law 694 = .ok (.aload 7, 2) := by decide +kernel
theorem dL_law_696 : decode cL_law 696 = .ok (.aload 8, 2) := by decide +kernel
theorem dL_law_698 : decode cL_law 698 = .ok (.aload 9, 2) := by decide +kernel
theorem dL_law_700 : decode cL_law 700 = .ok (.invokestatic 160, 3) := by decide +kernel
theorem dL_law_703 : decode cL_law 703 = .ok (.ifCond .ne 5, 3) := by decide +kernel
theorem dL_law_706 : decode cL_law 706 = .ok (.iconst 0, 1) := by decide +kernel
theorem dL_law_707 : decode cL_law 707 = .ok (.ireturn, 1) := by decide +kernel
theorem dL_law_708 : decode cL_law 708 = .ok (.iinc 10 1, 3) := by decide +kernel
theorem dL_law_711 : decode cL_law 711 = .ok (.goto (-614), 3) := by decide +kernel
theorem dL_law_714 : decode cL_law 714 = .ok (.iconst 1, 1) := by decide +kernel
theorem dL_law_715 : decode cL_law 715 = .ok (.ireturn, 1) := by decide +kernel
abbrev vwCl : List vw_C := [(RX0, TX0, 3), (RX1, TX1, 3), (RX2, TX2, 3), (RX3, TX3, 11), (RX4, TX4, 7), (RX5, TX5, 6)]
end
section
/-! A plain machine: values are the JVM's, a reference is the number of a cell; numbers 0 to 3 are rows that are only read. -/
abbrev m_Cel : Type := (Nat × List Int32) ⊕ ((Nat × List Value) ⊕ (Nat × List (Option Nat)))
abbrev m_Hp : Type := List m_Cel
abbrev m_Ls : Type := List (Option Value)
abbrev m_FS : Type := Nat × m_Ls × List Value × m_Hp
abbrev m_Res : Type := m_FS ⊕ ((Nat × List Value × List Value) ⊕ Option Value)
abbrev m_Op : Type := Nat → m_Ls → List Value → m_Hp → Option m_Res
abbrev m_Tab : Type := List (Nat × m_Op)
abbrev m_Prog : Type := List (m_Tab × Nat)
abbrev m_CR : Type := Nat → List Value → m_Hp → Option Value → m_Hp → Prop
def m_at : m_Tab → Nat → Option m_Op
  | [], _ => none
  | (k, o) :: l, pc => bif Nat.beq k pc then some o else m_at l pc
def m_Ex (C : m_CR) (tab : m_Tab) : Nat → Nat → m_Ls → List Value → m_Hp → Option Value → m_Hp → Prop
  | 0, _, _, _, _, _, _ => False
  | n + 1, pc, ls, st, h, r, h' => ∃ (op : m_Op) (x : m_Res), m_at tab pc = some op ∧ op pc ls st h = some x ∧ match x with
    | .inl (pc1, ls1, st1, h1) => m_Ex C tab n pc1 ls1 st1 h1 r h'
    | .inr (.inl (z, as, rest)) => ∃ r1 h1, C z as h r1 h1 ∧ m_Ex C tab n (pc + 3) ls (r1.toList ++ rest) h1 r h'
    | .inr (.inr v) => r = v ∧ h' = h
def m_c1 : Value → Bool
  | .long _ => false
  | .double _ => false
  | _ => true
def m_entry (as : List Value) (nL : Nat) : m_Ls := as.map some ++ List.replicate (nL - as.length) none
def m_Call (P : m_Prog) : Nat → m_CR
  | 0, _, _, _, _, _ => False
  | d + 1, z, as, h, r, h' => ∃ (q : m_Tab × Nat) (n : Nat), P[z]? = some q ∧ (Nat.ble as.length q.2 && as.all m_c1) = true ∧ m_Ex (m_Call P d) q.1 n 0 (m_entry as q.2) [] h r h'
/-- from here the method comes to an end that Q allows -/
def m_E (C : m_CR) (tab : m_Tab) (pc : Nat) (ls : m_Ls) (st : List Value) (h : m_Hp) (Q : Option Value → m_Hp → Prop) : Prop := ∃ n r h', m_Ex C tab n pc ls st h r h' ∧ Q r h'
def m_run (tab : m_Tab) : Nat → m_FS → Option m_FS
  | 0, s => some s
  | n + 1, (pc, ls, st, h) => match m_at tab pc with
    | some op => match op pc ls st h with
      | some (.inl s) => m_run tab n s
      | _ => none
    | none => none
section
variable {C : m_CR} {tab : m_Tab} {pc pc1 : Nat} {ls ls1 : m_Ls} {st st1 : List Value} {h h1 : m_Hp} {Q : Option Value → m_Hp → Prop}
theorem m_E.op {o : m_Op} (e1 : m_at tab pc = some o) (e2 : o pc ls st h = some (.inl (pc1, ls1, st1, h1))) (k : m_E C tab pc1 ls1 st1 h1 Q) : m_E C tab pc ls st h Q := by
  obtain ⟨n, r, h', k1, k2⟩ := k
  exact ⟨n + 1, r, h', ⟨o, _, e1, e2, k1⟩, k2⟩
theorem m_E.run (n : Nat) (e : m_run tab n (pc, ls, st, h) = some (pc1, ls1, st1, h1)) (k : m_E C tab pc1 ls1 st1 h1 Q) : m_E C tab pc ls st h Q := by
  induction n generalizing pc ls st h with
  | zero => cases e; exact k
  | succ n ih =>
    rw [m_run] at e
    cases h3 : m_at tab pc with
    | none => rw [h3] at e; cases e
    | some o =>
      rw [h3] at e
      dsimp only at e
      cases h4 : o pc ls st h with
      | none => rw [h4] at e; cases e
      | some x =>
        rw [h4] at e
        cases x with
        | inr y => cases e
        | inl s =>
          obtain ⟨p2, l2, s2, h2⟩ := s
          exact m_E.op h3 h4 (ih e)
theorem m_E.ite {c : Prop} [Decidable c] {t f : Nat} (kt : c → m_E C tab t ls st h Q) (kf : ¬ c → m_E C tab f ls st h Q) : m_E C tab (if c then t else f) ls st h Q := by
  by_cases hc : c
  · rw [if_pos hc]; exact kt hc
  · rw [if_neg hc]; exact kf hc
theorem m_E.yes {c : Prop} [Decidable c] {t f : Nat} (hc : c) (kt : m_E C tab t ls st h Q) : m_E C tab (if c then t else f) ls st h Q := by
  rw [if_pos hc]; exact kt
theorem m_E.no {c : Prop} [Decidable c] {t f : Nat} (hc : ¬ c) (kf : m_E C tab f ls st h Q) : m_E C tab (if c then t else f) ls st h Q := by
  rw [if_neg hc]; exact kf
theorem m_E.call {o : m_Op} {z : Nat} {as rest : List Value} {r1 : Option Value} (e1 : m_at tab pc = some o) (e2 : o pc ls st h = some (.inr (.inl (z, as, rest)))) (hc : C z as h r1 h1) (k : m_E C tab (pc + 3) ls (r1.toList ++ rest) h1 Q) : m_E C tab pc ls st h Q := by
  obtain ⟨n, r, h', k1, k2⟩ := k
  exact ⟨n + 1, r, h', ⟨o, _, e1, e2, r1, h1, hc, k1⟩, k2⟩
theorem m_E.cv {o : m_Op} {z : Nat} {as rest : List Value} {v : Value} (e1 : m_at tab pc = some o) (e2 : o pc ls st h = some (.inr (.inl (z, as, rest)))) (hc : C z as h (some v) h1) (k : m_E C tab (pc + 3) ls (v :: rest) h1 Q) : m_E C tab pc ls st h Q := m_E.call e1 e2 hc k
theorem m_E.cn {o : m_Op} {z : Nat} {as rest : List Value} (e1 : m_at tab pc = some o) (e2 : o pc ls st h = some (.inr (.inl (z, as, rest)))) (hc : C z as h none h1) (k : m_E C tab (pc + 3) ls rest h1 Q) : m_E C tab pc ls st h Q := m_E.call e1 e2 hc k
theorem m_E.ret {o : m_Op} {v : Option Value} (e1 : m_at tab pc = some o) (e2 : o pc ls st h = some (.inr (.inr v))) (k : Q v h) : m_E C tab pc ls st h Q := ⟨1, v, h, ⟨o, _, e1, e2, rfl, rfl⟩, k⟩
theorem m_E.up (σ : Nat → m_FS) (n : Nat) (I : Nat → Prop) (hs : ∀ i, i < n → I i → (I (i + 1) → m_E C tab (σ (i + 1)).1 (σ (i + 1)).2.1 (σ (i + 1)).2.2.1 (σ (i + 1)).2.2.2 Q) → m_E C tab (σ i).1 (σ i).2.1 (σ i).2.2.1 (σ i).2.2.2 Q)
    (h0 : I 0) (k : I n → m_E C tab (σ n).1 (σ n).2.1 (σ n).2.2.1 (σ n).2.2.2 Q) : m_E C tab (σ 0).1 (σ 0).2.1 (σ 0).2.2.1 (σ 0).2.2.2 Q := by
  have key : ∀ j i, i + j = n → I i → m_E C tab (σ i).1 (σ i).2.1 (σ i).2.2.1 (σ i).2.2.2 Q := by
    intro j
    induction j with
    | zero => intro i e hi; have e2 : i = n := by omega
              subst e2; exact k hi
    | succ j ih => intro i e hi; exact hs i (by omega) hi (fun h2 => ih (i + 1) (by omega) h2)
  exact key n 0 (by omega) h0
end
theorem m_call_of {P : m_Prog} {d z nL : Nat} {tab : m_Tab} {as : List Value} {h h' : m_Hp} {r : Option Value} (hp : P[z]? = some (tab, nL)) (ha : (Nat.ble as.length nL && as.all m_c1) = true) (hE : m_E (m_Call P d) tab 0 (m_entry as nL) [] h (fun r2 h2 => r2 = r ∧ h2 = h')) : m_Call P (d + 1) z as h r h' := by
  obtain ⟨n, r2, h2, k1, rfl, rfl⟩ := hE
  exact ⟨(tab, nL), n, hp, ha, k1⟩
theorem m_call_ex {P : m_Prog} {d z nL : Nat} {tab : m_Tab} {as : List Value} {h : m_Hp} {Q : Option Value → m_Hp → Prop} (hp : P[z]? = some (tab, nL)) (ha : (Nat.ble as.length nL && as.all m_c1) = true) (hE : m_E (m_Call P d) tab 0 (m_entry as nL) [] h Q) : ∃ r h', m_Call P (d + 1) z as h r h' ∧ Q r h' := by
  obtain ⟨n, r2, h2, k1, k2⟩ := hE
  exact ⟨r2, h2, ⟨(tab, nL), n, hp, ha, k1⟩, k2⟩
theorem m_Ex.mono {C C' : m_CR} (hC : ∀ z as h r h', C z as h r h' → C' z as h r h') {tab : m_Tab} : ∀ (n pc : Nat) (ls : m_Ls) (st : List Value) (h : m_Hp) (r : Option Value) (h' : m_Hp), m_Ex C tab n pc ls st h r h' → m_Ex C' tab n pc ls st h r h' := by
  intro n
  induction n with
  | zero => intro _ _ _ _ _ _ k; exact k
  | succ n ih =>
    intro pc ls st h r h' k
    obtain ⟨op, x, e1, e2, k⟩ := k
    refine ⟨op, x, e1, e2, ?_⟩
    rcases x with ⟨p1, l1, s1, h1⟩ | ⟨z, as, rest⟩ | v
    · exact ih _ _ _ _ _ _ k
    · obtain ⟨r1, h1, c1, k⟩ := k
      exact ⟨r1, h1, hC _ _ _ _ _ c1, ih _ _ _ _ _ _ k⟩
    · exact k
theorem m_Call.up {P : m_Prog} : ∀ (d z : Nat) (as : List Value) (h : m_Hp) (r : Option Value) (h' : m_Hp), m_Call P d z as h r h' → m_Call P (d + 1) z as h r h' := by
  intro d
  induction d with
  | zero => intro _ _ _ _ _ k; exact k.elim
  | succ d ih =>
    intro z as h r h' k
    obtain ⟨q, n, e, e2, k⟩ := k
    exact ⟨q, n, e, e2, m_Ex.mono ih _ _ _ _ _ _ _ k⟩
theorem m_Call.le {P : m_Prog} {d d' z : Nat} {as : List Value} {h : m_Hp} {r : Option Value} {h' : m_Hp} (hd : d ≤ d') (k : m_Call P d z as h r h') : m_Call P d' z as h r h' := by
  induction hd with
  | refl => exact k
  | step _ ih => exact m_Call.up _ _ _ _ _ _ ih
/-! the instructions -/
/-- no double stands just before -/
def m_ok (ls : m_Ls) : Nat → Bool
  | 0 => true
  | j + 1 => match ls[j]? with
    | some (some v) => m_c1 v
    | _ => true
def m_no (_ : Nat) (_ : m_Ls) (_ : List Value) (_ : m_Hp) : Option m_Res := none
def m_const (v : Value) (w : Nat) : m_Op := fun pc ls st h => some (.inl (pc + w, ls, v :: st, h))
def m_iload (i w : Nat) : m_Op := fun pc ls st h => match ls[i]? with
  | some (some (.int x)) => some (.inl (pc + w, ls, .int x :: st, h))
  | _ => none
def m_fload (i w : Nat) : m_Op := fun pc ls st h => match ls[i]? with
  | some (some (.float x)) => some (.inl (pc + w, ls, .float x :: st, h))
  | _ => none
def m_dload (i w : Nat) : m_Op := fun pc ls st h => match ls[i]? with
  | some (some (.double x)) => some (.inl (pc + w, ls, .double x :: st, h))
  | _ => none
def m_aload (i w : Nat) : m_Op := fun pc ls st h => match ls[i]? with
  | some (some (.ref x)) => some (.inl (pc + w, ls, .ref x :: st, h))
  | some (some .null) => some (.inl (pc + w, ls, .null :: st, h))
  | _ => none
def m_sto (i w : Nat) (v : Value) (st : List Value) : m_Op := fun pc ls _ h => bif m_ok ls i && Nat.blt i ls.length then some (.inl (pc + w, ls.set i (some v), st, h)) else none
def m_istore (i w : Nat) : m_Op := fun pc ls st h => match st with
  | .int x :: st => m_sto i w (.int x) st pc ls st h
  | _ => none
def m_fstore (i w : Nat) : m_Op := fun pc ls st h => match st with
  | .float x :: st => m_sto i w (.float x) st pc ls st h
  | _ => none
def m_astore (i w : Nat) : m_Op := fun pc ls st h => match st with
  | .ref x :: st => m_sto i w (.ref x) st pc ls st h
  | .null :: st => m_sto i w .null st pc ls st h
  | _ => none
def m_dstore (i w : Nat) : m_Op := fun pc ls st h => match st with
  | .double x :: st => bif m_ok ls i && Nat.blt (i + 1) ls.length then some (.inl (pc + w, (ls.set (i + 1) none).set i (some (.double x)), st, h)) else none
  | _ => none
def m_iinc (i : Nat) (n : Int32) : m_Op := fun pc ls st h => match ls[i]? with
  | some (some (.int x)) => m_sto i 3 (.int (x + n)) st pc ls st h
  | _ => none
def m_bin (f : Int32 → Int32 → Int32) : m_Op := fun pc ls st h => match st with
  | .int y :: .int x :: st => some (.inl (pc + 1, ls, .int (f x y) :: st, h))
  | _ => none
def m_un (f : Int32 → Int32) : m_Op := fun pc ls st h => match st with
  | .int x :: st => some (.inl (pc + 1, ls, .int (f x) :: st, h))
  | _ => none
def m_div (f : Int32 → Int32 → Int32) : m_Op := fun pc ls st h => match st with
  | .int y :: .int x :: st => if y = 0 then none else some (.inl (pc + 1, ls, .int (f x y) :: st, h))
  | _ => none
def m_dup : m_Op := fun pc ls st h => match st with
  | .ref x :: st => some (.inl (pc + 1, ls, .ref x :: .ref x :: st, h))
  | .int x :: st => some (.inl (pc + 1, ls, .int x :: .int x :: st, h))
  | _ => none
def m_dup2 : m_Op := fun pc ls st h => match st with
  | .int i :: .ref x :: st => some (.inl (pc + 1, ls, .int i :: .ref x :: .int i :: .ref x :: st, h))
  | _ => none
def m_if (c : Int32 → Bool) (t : Nat) : m_Op := fun pc ls st h => match st with
  | .int x :: st => some (.inl (if c x = true then t else pc + 3, ls, st, h))
  | _ => none
def m_icmp (c : Int32 → Int32 → Bool) (t : Nat) : m_Op := fun pc ls st h => match st with
  | .int y :: .int x :: st => some (.inl (if c x y = true then t else pc + 3, ls, st, h))
  | _ => none
def m_ifnull (t : Nat) : m_Op := fun pc ls st h => match st with
  | .null :: st => some (.inl (t, ls, st, h))
  | .ref _ :: st => some (.inl (pc + 3, ls, st, h))
  | _ => none
def m_ifnonnull (t : Nat) : m_Op := fun pc ls st h => match st with
  | .null :: st => some (.inl (pc + 3, ls, st, h))
  | .ref _ :: st => some (.inl (t, ls, st, h))
  | _ => none
def m_goto (t : Nat) : m_Op := fun _ ls st h => some (.inl (t, ls, st, h))
def m_tsw (lo hi : Int) (dflt : Nat) (tg : List Nat) : m_Op := fun _ ls st h => match st with
  | .int x :: st => some (.inl (if x.toInt < lo ∨ hi < x.toInt then dflt else tg.getD (x.toInt - lo).toNat 0, ls, st, h))
  | _ => none
def m_lsw (lo hi : Int32) (dflt t0 t1 : Nat) : m_Op := fun _ ls st h => match st with
  | .int x :: st => some (.inl (if x = lo then t0 else if x = hi then t1 else dflt, ls, st, h))
  | _ => none
def m_i2f : m_Op := fun pc ls st h => match st with
  | .int x :: st => some (.inl (pc + 1, ls, .float (FP.i2f x) :: st, h))
  | _ => none
def m_fbin (f : UInt32 → UInt32 → UInt32) : m_Op := fun pc ls st h => match st with
  | .float y :: .float x :: st => if (f x y) &&& 0x7fffffff ≤ 0x7f800000 then some (.inl (pc + 1, ls, .float (f x y) :: st, h)) else none
  | _ => none
def m_f2d : m_Op := fun pc ls st h => match st with
  | .float x :: st => if (FP.f2d x) &&& 0x7fffffffffffffff ≤ 0x7ff0000000000000 then some (.inl (pc + 1, ls, .double (FP.f2d x) :: st, h)) else none
  | _ => none
def m_dcmp (op : CmpOp) : m_Op := fun pc ls st h => match st with
  | .double y :: .double x :: st => some (.inl (pc + 1, ls, .int (Op.cmpValue (FP.dcmp x y) op) :: st, h))
  | _ => none
def m_get (ci k : Nat) : m_Op := fun pc ls st h => match st with
  | .ref a :: st => match h[a]? with
    | some (.inr (.inl (cj, fs))) => match fs[k]? with
      | some v => bif Nat.beq cj ci && Nat.blt 3 a then some (.inl (pc + 3, ls, v :: st, h)) else none
      | none => none
    | _ => none
  | _ => none
def m_fit : Nat → Value → Bool
  | 0, .int _ => true
  | 1, .ref _ => true
  | 1, .null => true
  | 2, .int x => x == 0 || x == 1
  | _, _ => false
def m_put (ci k ty : Nat) : m_Op := fun pc ls st h => match st with
  | v :: .ref a :: st => match h[a]? with
    | some (.inr (.inl (cj, fs))) => bif Nat.beq cj ci && Nat.blt 3 a && m_fit ty v && Nat.blt k fs.length then some (.inl (pc + 3, ls, st, h.set a (.inr (.inl (ci, fs.set k v))))) else none
    | _ => none
  | _ => none
def m_gets (k : Nat) : m_Op := fun pc ls st h => some (.inl (pc + 3, ls, .ref k :: st, h))
def m_len : m_Op := fun pc ls st h => match st with
  | .ref a :: st => match h[a]? with
    | some (.inl (u, xs)) => bif Nat.blt u 4 then some (.inl (pc + 1, ls, .int (Int32.ofNat xs.length) :: st, h)) else none
    | some (.inr (.inr (u, rs))) => bif Nat.blt u 4 && Nat.blt 3 a then some (.inl (pc + 1, ls, .int (Int32.ofNat rs.length) :: st, h)) else none
    | _ => none
  | _ => none
/-- loads from a row of kind t (0 int, 1 char) -/
def m_ild (t : Nat) : m_Op := fun pc ls st h => match st with
  | .int i :: .ref a :: st => match h[a]? with
    | some (.inl (u, xs)) => if (i < 0 ∨ xs.length ≤ i.toNatClampNeg) then none else bif Nat.beq u t && (Nat.beq t 0 || Nat.blt 3 a) then some (.inl (pc + 1, ls, .int (xs.getD i.toNatClampNeg 0) :: st, h)) else none
    | _ => none
  | _ => none
def m_ist (t : Nat) (f : Int32 → Int32) : m_Op := fun pc ls st h => match st with
  | .int x :: .int i :: .ref a :: st => match h[a]? with
    | some (.inl (u, xs)) => if (i < 0 ∨ xs.length ≤ i.toNatClampNeg) then none else bif Nat.beq u t && Nat.blt 3 a then some (.inl (pc + 1, ls, st, h.set a (.inl (t, xs.set i.toNatClampNeg (f x))))) else none
    | _ => none
  | _ => none
def m_rf : Option Nat → Value
  | none => .null
  | some k => .ref k
def m_ald : m_Op := fun pc ls st h => match st with
  | .int i :: .ref a :: st => match h[a]? with
    | some (.inr (.inr (u, rs))) => if (i < 0 ∨ rs.length ≤ i.toNatClampNeg) then none else bif (Nat.beq u 2 || Nat.beq u 3) && Nat.blt 3 a then some (.inl (pc + 1, ls, m_rf (rs.getD i.toNatClampNeg none) :: st, h)) else none
    | _ => none
  | _ => none
/-- kind of row t, for the class of number ci -/
def m_ast (t ci : Nat) : m_Op := fun pc ls st h => match st with
  | .null :: .int i :: .ref a :: st => match h[a]? with
    | some (.inr (.inr (u, rs))) => if (i < 0 ∨ rs.length ≤ i.toNatClampNeg) then none else bif Nat.beq u t && Nat.blt 3 a then some (.inl (pc + 1, ls, st, h.set a (.inr (.inr (t, rs.set i.toNatClampNeg none))))) else none
    | _ => none
  | .ref b :: .int i :: .ref a :: st => match h[a]? with
    | some (.inr (.inr (u, rs))) => match h[b]? with
      | some (.inr (.inl (cj, _))) => if (i < 0 ∨ rs.length ≤ i.toNatClampNeg) then none else bif Nat.beq u t && Nat.blt 3 a && Nat.beq cj ci && Nat.blt 3 b then some (.inl (pc + 1, ls, st, h.set a (.inr (.inr (t, rs.set i.toNatClampNeg (some b)))))) else none
      | _ => none
    | _ => none
  | _ => none
def m_new (ci : Nat) (fs : List Value) : m_Op := fun pc ls st h => some (.inl (pc + 3, ls, .ref h.length :: st, h ++ [.inr (.inl (ci, fs))]))
def m_nar (t : Nat) : m_Op := fun pc ls st h => match st with
  | .int n :: st => if n < 0 ∨ 100000 < n.toNatClampNeg then none else some (.inl (pc + 2, ls, .ref h.length :: st, h ++ [.inl (t, List.replicate n.toNatClampNeg 0)]))
  | _ => none
def m_anar (t : Nat) : m_Op := fun pc ls st h => match st with
  | .int n :: st => if n < 0 ∨ 100000 < n.toNatClampNeg then none else some (.inl (pc + 3, ls, .ref h.length :: st, h ++ [.inr (.inr (t, List.replicate n.toNatClampNeg none))]))
  | _ => none
def m_cs (st : List Value) : Nat := (st.map fun v => v.category).sum
def m_init0 : m_Op := fun pc ls st h => match st with
  | .ref _ :: st => bif Nat.ble (m_cs st) 8 then some (.inl (pc + 3, ls, st, h)) else none
  | _ => none
def m_copy : m_Op := fun pc ls st h => match st with
  | .int n :: .int dp :: .ref b :: .int sp :: .ref a :: st => match h[a]?, h[b]? with
    | some (.inl (0, xs)), some (.inl (0, ys)) => if sp = 0 ∧ dp = 0 ∧ ¬ n < 0 ∧ n.toNatClampNeg ≤ xs.length ∧ n.toNatClampNeg ≤ ys.length then bif Nat.blt 3 b && Nat.ble (m_cs st) 8 then some (.inl (pc + 3, ls, st, h.set b (.inl (0, xs.take n.toNatClampNeg ++ ys.drop n.toNatClampNeg)))) else none else none
    | _, _ => none
  | _ => none
def m_min : m_Op := fun pc ls st h => match st with
  | .int y :: .int x :: st => bif Nat.ble (m_cs st) 8 then some (.inl (pc + 3, ls, .int (if y < x then y else x) :: st, h)) else none
  | _ => none
def m_abs : m_Op := fun pc ls st h => match st with
  | .int x :: st => bif Nat.ble (m_cs st) 8 then some (.inl (pc + 3, ls, .int (if 0 ≤ x then x else 0 - x) :: st, h)) else none
  | _ => none
/-- a call of method z with n arguments; of one of an object: the object, of class ci, below them -/
def m_cst (z n : Nat) : m_Op := fun _ _ st _ => bif Nat.ble n st.length && Nat.ble (m_cs (st.drop n)) 8 && (st.take n).all m_c1 then some (.inr (.inl (z, (st.take n).reverse, st.drop n))) else none
def m_cob (z n ci : Nat) : m_Op := fun _ _ st h => match st.drop n with
  | .ref a :: rest => match h[a]? with
    | some (.inr (.inl (cj, _))) => bif Nat.beq cj ci && Nat.blt 3 a && Nat.ble (m_cs rest) 8 && (st.take n).all m_c1 then some (.inr (.inl (z, .ref a :: (st.take n).reverse, rest))) else none
    | _ => none
  | _ => none
def m_iret : m_Op := fun _ _ st _ => match st with
  | [.int x] => some (.inr (.inr (some (.int x))))
  | _ => none
/-- returns a boolean or a char: what is kept of x is x -/
def m_zret (f : Int32 → Int32) : m_Op := fun _ _ st _ => match st with
  | [.int x] => if f x = x then some (.inr (.inr (some (.int x)))) else none
  | _ => none
def m_fret : m_Op := fun _ _ st _ => match st with
  | [.float x] => some (.inr (.inr (some (.float x))))
  | _ => none
def m_aret : m_Op := fun _ _ st _ => match st with
  | [.ref x] => some (.inr (.inr (some (.ref x))))
  | [.null] => some (.inr (.inr (some .null)))
  | _ => none
def m_vret : m_Op := fun _ _ st _ => match st with
  | [] => some (.inr (.inr none))
  | _ => none
/-! longs, and the rest that this law wants -/
def m_lload (i w : Nat) : m_Op := fun pc ls st h => match ls[i]? with
  | some (some (.long x)) => some (.inl (pc + w, ls, .long x :: st, h))
  | _ => none
def m_lstore (i w : Nat) : m_Op := fun pc ls st h => match st with
  | .long x :: st => bif m_ok ls i && Nat.blt (i + 1) ls.length then some (.inl (pc + w, (ls.set (i + 1) none).set i (some (.long x)), st, h)) else none
  | _ => none
def m_lbin (f : Int64 → Int64 → Int64) : m_Op := fun pc ls st h => match st with
  | .long y :: .long x :: st => some (.inl (pc + 1, ls, .long (f x y) :: st, h))
  | _ => none
def m_i2l : m_Op := fun pc ls st h => match st with
  | .int x :: st => some (.inl (pc + 1, ls, .long x.toInt64 :: st, h))
  | _ => none
def m_lcmp : m_Op := fun pc ls st h => match st with
  | .long y :: .long x :: st => some (.inl (pc + 1, ls, .int (lg_cmp x y) :: st, h))
  | _ => none
def m_fcmp (op : CmpOp) : m_Op := fun pc ls st h => match st with
  | .float y :: .float x :: st => some (.inl (pc + 1, ls, .int (Op.cmpValue (FP.fcmp x y) op) :: st, h))
  | _ => none
def m_lret : m_Op := fun _ _ st _ => match st with
  | [.long x] => some (.inr (.inr (some (.long x))))
  | _ => none
end
section
/-! The plain machine's cells upon the JVM's heap -/
def m_ad (ra : Nat → Nat) (B k : Nat) : Nat := if k < 4 then ra k else B + (k - 4)
def m_cv (ra : Nat → Nat) (B : Nat) : Value → Value
  | .ref k => .ref (m_ad ra B k)
  | v => v
def m_ce (cA : Nat → ClassId) (ra : Nat → Nat) (B : Nat) : m_Cel → va_E
  | .inl (t, xs) => .inl (cA t, xs.length, .inl (fun j => xs.getD j 0))
  | .inr (.inl (ci, fs)) => .inr (ci, fs.map (m_cv ra B))
  | .inr (.inr (t, rs)) => .inl (cA t, rs.length, .inr (.inr (.inr (.inr (fun j => (rs.getD j none).map (m_ad ra B))))))
def m_ws (cA : Nat → ClassId) (ra : Nat → Nat) (B : Nat) (h : m_Hp) : va_W := (h.drop 4).mapIdx (fun k c => (B + k, m_ce cA ra B c))
def m_A (B : Nat) : Nat → Prop := fun q => B ≤ q
def m_tys (cA : Nat → ClassId) : List (ClassId × FieldType) := [(cA 0, .int), (cA 1, .char), (cA 2, .object RX2), (cA 3, .object RX3)]
def m_csz : m_Cel → Nat
  | .inl (_, xs) => xs.length
  | .inr (.inl (_, fs)) => fs.length
  | .inr (.inr (_, rs)) => rs.length
def m_sz (h : m_Hp) : Nat := (h.map m_csz).sum
def m_mono (h h1 : m_Hp) : Prop := h.length ≤ h1.length ∧ m_sz h ≤ m_sz h1 ∧ h1.take 4 = h.take 4
theorem m_mono.rf {h : m_Hp} : m_mono h h := ⟨Nat.le_refl _, Nat.le_refl _, rfl⟩
theorem m_mono.tr {a b c : m_Hp} (h1 : m_mono a b) (h2 : m_mono b c) : m_mono a c := ⟨Nat.le_trans h1.1 h2.1, Nat.le_trans h1.2.1 h2.2.1, h2.2.2.trans h1.2.2⟩
theorem m_sz_set {h : m_Hp} {k : Nat} {c c1 : m_Cel} (hk : h[k]? = some c) (hc : m_csz c1 = m_csz c) : m_sz (h.set k c1) = m_sz h := by
  unfold m_sz
  rw [List.map_set, hc]
  congr 1
  apply List.ext_getElem?
  intro i
  by_cases hi : i = k
  · subst hi
    rw [List.getElem?_set_self', List.getElem?_map, hk]; rfl
  · rw [List.getElem?_set_ne (Ne.symm hi)]
theorem m_mono.set {h : m_Hp} {k : Nat} {c c1 : m_Cel} (hk : h[k]? = some c) (h3 : 3 < k) (hc : m_csz c1 = m_csz c) : m_mono h (h.set k c1) := by
  refine ⟨by rw [List.length_set]; exact Nat.le_refl _, by rw [m_sz_set hk hc]; exact Nat.le_refl _, ?_⟩
  rw [List.take_set_of_le (by omega)]
theorem m_mono.app {h : m_Hp} {c : m_Cel} (h4 : 4 ≤ h.length) : m_mono h (h ++ [c]) := by
  refine ⟨by rw [List.length_append]; omega, by unfold m_sz; rw [List.map_append, List.sum_append]; omega, ?_⟩
  rw [List.take_append_of_le_length h4]
theorem m_sz_app {h : m_Hp} {c : m_Cel} : m_sz (h ++ [c]) = m_sz h + m_csz c := by
  unfold m_sz; rw [List.map_append, List.sum_append]; simp
section
variable {D : va_G} {cA : Nat → ClassId} {ra : Nat → Nat} {B : Nat} {ro : List (List Int32)}
theorem m_ws_get {h : m_Hp} {k : Nat} {c : m_Cel} (hk : h[k]? = some c) (h3 : 3 < k) : (m_ws cA ra B h)[k - 4]? = some (m_ad ra B k, m_ce cA ra B c) := by
  unfold m_ws
  rw [List.getElem?_mapIdx, List.getElem?_drop, show 4 + (k - 4) = k by omega, hk]
  simp [m_ad, show ¬ k < 4 by omega]
theorem m_ws_set {h : m_Hp} {k : Nat} {c : m_Cel} (h3 : 3 < k) : (m_ws cA ra B h).set (k - 4) (m_ad ra B k, m_ce cA ra B c) = m_ws cA ra B (h.set k c) := by
  unfold m_ws
  rw [List.drop_set, if_neg (by omega), List.mapIdx_set]
  simp [m_ad, show ¬ k < 4 by omega]
theorem m_ws_app {h : m_Hp} {c : m_Cel} (h4 : 4 ≤ h.length) : m_ws cA ra B (h ++ [c]) = m_ws cA ra B h ++ [(m_ad ra B h.length, m_ce cA ra B c)] := by
  unfold m_ws
  rw [List.drop_append_of_le_length h4, List.mapIdx_append]
  simp [m_ad, show ¬ h.length < 4 by omega]
theorem m_ws_at {h : m_Hp} {k : Nat} {q : Nat × va_E} (hk : (m_ws cA ra B h)[k]? = some q) : q.1 = B + k ∧ k + 4 < h.length := by
  unfold m_ws at hk
  rw [List.getElem?_mapIdx, List.getElem?_drop] at hk
  cases hc : h[4 + k]? with
  | none => rw [hc] at hk; cases hk
  | some c =>
    rw [hc] at hk
    cases hk
    refine ⟨rfl, ?_⟩
    have := (List.getElem?_eq_some_iff.mp hc).1
    omega
theorem m_wsD {h : m_Hp} : va_D (m_A B) (m_ws cA ra B h) := by
  refine ⟨fun i j x y hi hj e => ?_, fun k q hk => ?_⟩
  · have h1 := (m_ws_at hi).1
    have h2 := (m_ws_at hj).1
    omega
  · have h1 := (m_ws_at hk).1
    show B ≤ q.1
    omega
def m_Hd (D : va_G) (cA : Nat → ClassId) (ra : Nat → Nat) (B : Nat) (h : m_Hp) (H : Heap) : Prop := va_P D vwCl (m_ws cA ra B h) H ∧ B + h.length ≤ H.size + 4
/-- the rows that are only read -/
def m_Ro (ra : Nat → Nat) (B : Nat) (ro : List (List Int32)) (U : State) (H : Heap) : Prop := ∀ k xs, ro[k]? = some xs → va_T .int (ra k) xs.length (fun j => .int (xs.getD j 0)) (m_A B) U H
def m_nest : List Cond := lw_tbl.filter (fun w => !goodWord w && w.onTables && w.keepsH)
def m_gd : List Cond := lw_tbl.filter goodWord
/-- what the tables and the cells below say -/
def m_Wd (D : va_G) (cA : Nat → ClassId) (ra : Nat → Nat) (B : Nat) (ro : List (List Int32)) (U : State) (H : Heap) : Prop :=
  va_K D vwCl (m_tys cA) U ∧ m_Ro ra B ro U H ∧ va_Z "CardSheets" "FIRST_OF_SETTING" "[I" (.ref (ra 0)) (m_A B) U H ∧ va_Z "CardSheets" "LEAST_OF_SETTING" "[I" (.ref (ra 1)) (m_A B) U H ∧ va_Z "CardSheets" "MOST_OF_SETTING" "[I" (.ref (ra 2)) (m_A B) U H ∧ (∀ w ∈ m_nest, va_Nw w U) ∧ va_AO RX2 U ∧ va_AO RX3 U ∧ B ≤ H.size
theorem m_nest_warm {s U : State} (hW : s.WarmedH U.vm) (h : ∀ w ∈ m_nest, va_Nw w s) : ∀ w ∈ m_nest, va_Nw w U := by
  intro w hw
  have h1 := h w hw
  unfold m_nest at hw
  have h2 := (List.mem_filter.mp hw).2
  simp only [Bool.and_eq_true] at h2
  obtain ⟨⟨h3, h4⟩, h5⟩ := h2
  cases w <;> first
    | exact va_Nw.warmF hW h1
    | exact va_Nw.warmM hW h1
    | (exfalso; revert h3 h4 h5; simp [goodWord, Cond.keeps, Cond.keepsH, Cond.steady, Cond.onTables]; done)
    | (exfalso; revert h3 h4 h5; simp [goodWord, Cond.keeps, Cond.keepsH, Cond.steady, Cond.onTables]; intros; simp_all; done)
theorem m_Wd.warm {s U : State} {H : Heap} (hW : s.WarmedH U.vm) (h : m_Wd D cA ra B ro s H) : m_Wd D cA ra B ro U H := by
  obtain ⟨h1, h2, h3, h4, h5, h6, h7, h8, h9⟩ := h
  have ha := hW.alike
  exact ⟨va_K.moved ha h1, fun k xs hk => va_T.moved ha (h2 k xs hk), va_Z.moved ha h3, va_Z.moved ha h4, va_Z.moved ha h5, m_nest_warm hW h6, va_AO.moved ha h7, va_AO.moved ha h8, h9⟩
theorem m_Wd.kept {U : State} {H H1 : Heap} (hz : H.size ≤ H1.size) (hq : ∀ a : Nat, a < H.size → ¬ m_A B a → H1[a]? = H[a]?) (h : m_Wd D cA ra B ro U H) : m_Wd D cA ra B ro U H1 := by
  obtain ⟨h1, h2, h3, h4, h5, h6, h7, h8, h9⟩ := h
  exact ⟨h1, fun k xs hk => va_T.kept (h2 k xs hk) hq, va_Z.kept h3 hq, va_Z.kept h4 hq, va_Z.kept h5 hq, h6, h7, h8, Nat.le_trans h9 hz⟩
theorem m_Wd.same {u U : State} {H : Heap} (hv : u.vm = U.vm) (h : m_Wd D cA ra B ro u H) : m_Wd D cA ra B ro U H := by
  obtain ⟨h1, h2, h3, h4, h5, h6, h7, h8, h9⟩ := h
  have ha : u.vm.Alike U.vm := by rw [hv]; exact Vm.Alike.refl _
  refine ⟨va_K.moved ha h1, fun k xs hk => va_T.moved ha (h2 k xs hk), va_Z.moved ha h3, va_Z.moved ha h4, va_Z.moved ha h5, fun w hw => ?_, va_AO.moved ha h7, va_AO.moved ha h8, h9⟩
  have h10 := (List.mem_filter.mp hw).2
  simp only [Bool.and_eq_true] at h10
  exact va_Nw.same h10.1.2 hv (h6 w hw)
/-! locals -/
def m_Lv (ra : Nat → Nat) (B : Nat) (al : Array Slot) (nL : Nat) (ls : m_Ls) : Prop := ls.length = nL ∧ al.size = nL ∧ lv_wf al ∧ ∀ (i : Nat) (v : Value), ls[i]? = some (some v) → al[i]? = some (Slot.val (m_cv ra B v))
def m_lvl (ra : Nat → Nat) (B : Nat) : Nat → m_Ls → List (Nat × Value)
  | _, [] => []
  | i, some v :: l => (i, m_cv ra B v) :: m_lvl ra B (i + 1) l
  | i, none :: l => m_lvl ra B (i + 1) l
theorem m_lvl_mem : ∀ (ls : m_Ls) (i : Nat) (q : Nat × Value), q ∈ m_lvl ra B i ls ↔ ∃ j v, ls[j]? = some (some v) ∧ q = (i + j, m_cv ra B v)
  | [], i, q => by simp [m_lvl]
  | some w :: l, i, q => by
    rw [m_lvl, List.mem_cons, m_lvl_mem l (i + 1) q]
    constructor
    · rintro (h | ⟨j, v, h1, h2⟩)
      · exact ⟨0, w, rfl, h⟩
      · exact ⟨j + 1, v, h1, by rw [h2]; congr 1; omega⟩
    · rintro ⟨j, v, h1, h2⟩
      cases j with
      | zero => cases h1; exact Or.inl h2
      | succ j => exact Or.inr ⟨j, v, h1, by rw [h2]; congr 1; omega⟩
  | none :: l, i, q => by
    rw [m_lvl, m_lvl_mem l (i + 1) q]
    constructor
    · rintro ⟨j, v, h1, h2⟩
      exact ⟨j + 1, v, h1, by rw [h2]; congr 1; omega⟩
    · rintro ⟨j, v, h1, h2⟩
      cases j with
      | zero => cases h1
      | succ j => exact ⟨j, v, h1, by rw [h2]; congr 1; omega⟩
theorem m_Lv.has {al : Array Slot} {nL : Nat} {ls : m_Ls} (h : m_Lv ra B al nL ls) : lv_has al nL (m_lvl ra B 0 ls) := by
  refine ⟨h.2.1, h.2.2.1, fun q hq => ?_⟩
  obtain ⟨j, v, h1, h2⟩ := (m_lvl_mem ls 0 q).mp hq
  rw [h2]
  simp only [Nat.zero_add]
  exact h.2.2.2 j v h1
theorem m_cv_c1 (v : Value) : (m_cv ra B v).category = v.category := by cases v <;> rfl
theorem m_c1_cat {v : Value} (h : m_c1 v = true) : v.category = 1 := by cases v <;> first | rfl | cases h
theorem m_Lv.set {al al1 : Array Slot} {nL : Nat} {ls : m_Ls} {i : Nat} {v : Value} (h : m_Lv ra B al nL ls) (ho : m_ok ls i = true) (hi : i < nL) (h1 : lv_has al1 nL ((i, m_cv ra B v) :: (m_lvl ra B 0 ls).filter (fun q => !(q.1 == i) && !(q.1 + 1 == i && q.2.category == 2)))) : m_Lv ra B al1 nL (ls.set i (some v)) := by
  refine ⟨by rw [List.length_set]; exact h.1, h1.1, h1.2.1, fun j w hj => ?_⟩
  by_cases hji : j = i
  · subst hji
    rw [List.getElem?_set_self (by rw [h.1]; exact hi)] at hj
    cases hj
    exact h1.2.2 (j, m_cv ra B v) List.mem_cons_self
  · rw [List.getElem?_set_ne (Ne.symm hji)] at hj
    refine h1.2.2 (j, m_cv ra B w) (List.mem_cons_of_mem _ (List.mem_filter.mpr ⟨(m_lvl_mem ls 0 _).mpr ⟨j, w, hj, by rw [Nat.zero_add]⟩, ?_⟩))
    have e1 : (j == i) = false := by simpa using hji
    have e2 : (j + 1 == i && (m_cv ra B w).category == 2) = false := by
      by_cases h2 : j + 1 = i
      · subst h2
        have h3 : m_c1 w = true := by
          have h4 : m_ok ls (j + 1) = match ls[j]? with
            | some (some v) => m_c1 v
            | _ => true := rfl
          rw [hj] at h4
          rw [← ho, h4]
        rw [m_cv_c1, m_c1_cat h3]
        simp
      · simp [h2]
    simp [e1, e2]
theorem m_Lv.set2 {al al1 : Array Slot} {nL : Nat} {ls : m_Ls} {i : Nat} {v : Value} (h : m_Lv ra B al nL ls) (ho : m_ok ls i = true) (hi : i + 1 < nL) (h1 : lv_has al1 nL ((i, m_cv ra B v) :: (m_lvl ra B 0 ls).filter (fun q => !(q.1 == i) && (!(q.1 == i + 1) && !(q.1 + 1 == i && q.2.category == 2))))) : m_Lv ra B al1 nL ((ls.set (i + 1) none).set i (some v)) := by
  refine ⟨by rw [List.length_set, List.length_set]; exact h.1, h1.1, h1.2.1, fun j w hj => ?_⟩
  by_cases hji : j = i
  · subst hji
    rw [List.getElem?_set_self (by rw [List.length_set, h.1]; omega)] at hj
    cases hj
    exact h1.2.2 (j, m_cv ra B v) List.mem_cons_self
  · rw [List.getElem?_set_ne (Ne.symm hji)] at hj
    by_cases hj2 : j = i + 1
    · subst hj2
      rw [List.getElem?_set_self (by rw [h.1]; omega)] at hj
      cases hj
    rw [List.getElem?_set_ne (Ne.symm hj2)] at hj
    refine h1.2.2 (j, m_cv ra B w) (List.mem_cons_of_mem _ (List.mem_filter.mpr ⟨(m_lvl_mem ls 0 _).mpr ⟨j, w, hj, by rw [Nat.zero_add]⟩, ?_⟩))
    have e1 : (j == i) = false := by simpa using hji
    have e3 : (j == i + 1) = false := by simpa using hj2
    have e2 : (j + 1 == i && (m_cv ra B w).category == 2) = false := by
      by_cases h2 : j + 1 = i
      · subst h2
        have h3 : m_c1 w = true := by
          have h4 : m_ok ls (j + 1) = match ls[j]? with
            | some (some v) => m_c1 v
            | _ => true := rfl
          rw [hj] at h4
          rw [← ho, h4]
        rw [m_cv_c1, m_c1_cat h3]
        simp
      · simp [h2]
    simp [e1, e2, e3]
end
end
section

/-! each instruction of the plain machine stands for one of the JVM's -/
abbrev m_Mt : Type := MethodName × ByteArray × Nat × Option FieldType
def m_rm (d : Nat) (h h1 : m_Hp) : Room := { frames := d, cells := h1.length - h.length, slots := m_sz h1 - m_sz h, locals := 41 * d + 40 }
def m_Rd (ro : List (List Int32)) (h : m_Hp) : Prop := h.take 4 = ro.map (fun xs => (Sum.inl (0, xs) : m_Cel))
def m_Pc (D : va_G) (cA : Nat → ClassId) (ra : Nat → Nat) (B : Nat) (ro : List (List Int32)) (as : List Value) (h : m_Hp) : Array Value → State → Prop := fun v U => v = (as.map (m_cv ra B)).toArray ∧ m_Hd D cA ra B h U.heap ∧ B + h.length = U.heap.size + 4 ∧ m_Wd D cA ra B ro U U.heap ∧ m_Rd ro h ∧ ro.length = 4
def m_Qc (D : va_G) (cA : Nat → ClassId) (ra : Nat → Nat) (B : Nat) (r : Option Value) (h1 : m_Hp) : Array Value → State → Outcome → State → Prop := fun _ st oc t => oc = .returned (r.map (m_cv ra B)) ∧ m_Hd D cA ra B h1 t.heap ∧ va_F (m_A B) st t
def m_Met (D : va_G) (cA : Nat → ClassId) (ra : Nat → Nat) (B : Nat) (ro : List (List Int32)) (l : Launch) (d : Nat) (q : m_Mt) (as : List Value) (h : m_Hp) (r : Option Value) (h1 : m_Hp) : Prop := Met l q.1 (Cond.code q.1 q.2.1 q.2.2.1 q.2.2.2 :: m_gd) (m_rm d h h1) (m_Pc D cA ra B ro as h) (m_Qc D cA ra B r h1) (h1.length - h.length) (m_sz h1 - m_sz h) (m_A B)
def m_Cx (D : va_G) (cA : Nat → ClassId) (ra : Nat → Nat) (B : Nat) (ro : List (List Int32)) (p : Program) (R : Room) (s : State) (m : MethodId) (args : Array Value) (meth : Method) (c : Code) (cc : ByteArray) (nL : Nat) (ret : Option FieldType) (own nm : String) (d : Nat) (h0 : m_Hp) : Prop :=
  p.tables.exec = Jvm.exec ∧ c.code = cc ∧ c.maxLocals = nL ∧ meth.sig.returnType = ret ∧ s.vm.findClass own = some m.cls ∧ meth.locks = false ∧ meth.name = nm ∧ (∀ w ∈ m_gd, w.before args s = true) ∧ m_Wd D cA ra B ro s s.heap ∧ B + h0.length = s.heap.size + 4 ∧ ro.length = 4 ∧ d + 1 ≤ R.frames ∧ 41 * (d + 1) + 40 ≤ R.locals
def m_Zp (D : va_G) (cA : Nat → ClassId) (ra : Nat → Nat) (B : Nat) (ro : List (List Int32)) (p : Program) (l : Launch) (e : Env) (R : Room) (s : State) (m : MethodId) (args : Array Value) (below : List Frame) (meth : Method) (c : Code) (nL : Nat) (Q : State → Prop) (h0 : m_Hp) (pc : Nat) (ls : m_Ls) (st : List Value) (h : m_Hp) : Prop :=
  ∀ (H : Heap) (locs : List Loc) (al : Array Slot), va_S (m_A B) s.heap H locs → m_Hd D cA ra B h H → m_Rd ro h → m_Lv ra B al nL ls → W p l e R s m args below meth c H locs (h.length - h0.length) (m_sz h - m_sz h0) Q (F0 m pc al (st.map (m_cv ra B)))
def m_Rm (R : Room) (h0 h1 : m_Hp) : Prop := h1.length - h0.length ≤ R.cells ∧ m_sz h1 - m_sz h0 ≤ R.slots
/-- how an int is answered -/
def m_Rt (cc : ByteArray) (pc : Nat) (st : List Value) (v : Option Value) : Prop := (∃ x, st = [.int x] ∧ v = some (.int x) ∧ decode cc pc = .ok (.ireturn, 1)) ∨ ∀ x, v ≠ some (.int x)
def m_Snd (D : va_G) (cA : Nat → ClassId) (ra : Nat → Nat) (B : Nat) (ro : List (List Int32)) (M : List m_Mt) (cc : ByteArray) (nL : Nat) (ret : Option FieldType) (own nm : String) (pc : Nat) (o : m_Op) : Prop :=
  ((∀ (ls : m_Ls) (st : List Value) (h : m_Hp) (pc1 : Nat) (ls1 : m_Ls) (st1 : List Value) (h1 : m_Hp), o pc ls st h = some (.inl (pc1, ls1, st1, h1)) → 4 ≤ h.length → m_mono h h1) ∧ ∀ (ls : m_Ls) (st : List Value) (h : m_Hp) (v : Option Value), o pc ls st h = some (.inr (.inr v)) → m_Rt cc pc st v) ∧
  ∀ (p : Program) (l : Launch) (e : Env) (R : Room) (s : State) (m : MethodId) (args : Array Value) (below : List Frame) (meth : Method) (c : Code) (d : Nat) (h0 : m_Hp) (Q : State → Prop),
    m_Cx D cA ra B ro p R s m args meth c cc nL ret own nm d h0 →
    (∀ (ls : m_Ls) (st : List Value) (h : m_Hp) (pc1 : Nat) (ls1 : m_Ls) (st1 : List Value) (h1 : m_Hp), o pc ls st h = some (.inl (pc1, ls1, st1, h1)) → 4 ≤ h.length → m_mono h0 h → m_Rm R h0 h1 → m_Zp D cA ra B ro p l e R s m args below meth c nL Q h0 pc1 ls1 st1 h1 → m_Zp D cA ra B ro p l e R s m args below meth c nL Q h0 pc ls st h) ∧
    (∀ (ls : m_Ls) (st : List Value) (h : m_Hp) (z : Nat) (as rest : List Value) (r1 : Option Value) (h1 : m_Hp), o pc ls st h = some (.inr (.inl (z, as, rest))) → m_mono h h1 → (∀ q, M[z]? = some q → m_Met D cA ra B ro l d q as h r1 h1) → m_mono h0 h → m_Rm R h0 h1 → m_Zp D cA ra B ro p l e R s m args below meth c nL Q h0 (pc + 3) ls (r1.toList ++ rest) h1 → m_Zp D cA ra B ro p l e R s m args below meth c nL Q h0 pc ls st h) ∧
    (∀ (ls : m_Ls) (st : List Value) (h : m_Hp) (v : Option Value), o pc ls st h = some (.inr (.inr v)) → m_mono h0 h → Q = MQ below (m_Qc D cA ra B v h) args s (h.length - h0.length) (m_sz h - m_sz h0) (m_A B) → m_Zp D cA ra B ro p l e R s m args below meth c nL Q h0 pc ls st h)
section
variable {D : va_G} {cA : Nat → ClassId} {ra : Nat → Nat} {B : Nat} {ro : List (List Int32)} {M : List m_Mt} {cc : ByteArray} {nL : Nat} {ret : Option FieldType} {own nm : String} {pc : Nat} {o : m_Op}
theorem m_pure (hn : ∀ (ls : m_Ls) (st : List Value) (h : m_Hp) (x : m_Res), o pc ls st h = some x → ∃ (pc1 : Nat) (ls1 : m_Ls) (st1 : List Value), x = .inl (pc1, ls1, st1, h))
    (hz : ∀ (p : Program) (l : Launch) (e : Env) (R : Room) (s : State) (m : MethodId) (args : Array Value) (below : List Frame) (meth : Method) (c : Code) (d : Nat) (h0 : m_Hp) (Q : State → Prop), m_Cx D cA ra B ro p R s m args meth c cc nL ret own nm d h0 →
      ∀ (ls : m_Ls) (st : List Value) (h : m_Hp) (pc1 : Nat) (ls1 : m_Ls) (st1 : List Value), o pc ls st h = some (.inl (pc1, ls1, st1, h)) → ∀ (H : Heap) (locs : List Loc) (al : Array Slot) (cells slots : Nat), va_S (m_A B) s.heap H locs → m_Hd D cA ra B h H → m_Rd ro h → m_Lv ra B al nL ls → cells ≤ R.cells → slots ≤ R.slots →
        (∀ al1, m_Lv ra B al1 nL ls1 → W p l e R s m args below meth c H locs cells slots Q (F0 m pc1 al1 (st1.map (m_cv ra B)))) → W p l e R s m args below meth c H locs cells slots Q (F0 m pc al (st.map (m_cv ra B)))) : m_Snd D cA ra B ro M cc nL ret own nm pc o := by
  refine ⟨⟨fun ls st h pc1 ls1 st1 h1 eq h4 => ?_, fun ls st h v eq => ?_⟩, ?_⟩
  · obtain ⟨q1, q2, q3, q4⟩ := hn ls st h _ eq
    cases q4
    exact m_mono.rf
  · obtain ⟨q1, q2, q3, q4⟩ := hn ls st h _ eq
    cases q4
  intro p l e R s m args below meth c d h0 Q X
  refine ⟨fun ls st h pc1 ls1 st1 h1 eq h4 => ?_, fun ls st h z as rest r1 h1 eq => ?_, fun ls st h v eq => ?_⟩
  · obtain ⟨q1, q2, q3, q4⟩ := hn ls st h _ eq
    cases q4
    intro hm hR k H locs al hS hH hro hL
    exact hz p l e R s m args below meth c d h0 Q X ls st h pc1 ls1 st1 eq H locs al _ _ hS hH hro hL hR.1 hR.2 (fun al1 h1 => k H locs al1 hS hH hro h1)
  · obtain ⟨q1, q2, q3, q4⟩ := hn ls st h _ eq
    cases q4
  · obtain ⟨q1, q2, q3, q4⟩ := hn ls st h _ eq
    cases q4
theorem m_s_no : m_Snd D cA ra B ro M cc nL ret own nm pc m_no := m_pure (fun _ _ _ _ e => by cases e) (fun _ _ _ _ _ _ _ _ _ _ _ _ _ _ _ _ _ _ _ _ e => by cases e)
theorem m_sto_spec {i w : Nat} {v : Value} {st st0 : List Value} {ls : m_Ls} {h : m_Hp} {x : m_Res} (e : m_sto i w v st pc ls st0 h = some x) : m_ok ls i = true ∧ i < ls.length ∧ x = .inl (pc + w, ls.set i (some v), st, h) := by
  unfold m_sto at e
  cases hc : (m_ok ls i && Nat.blt i ls.length) with
  | false => rw [hc] at e; cases e
  | true =>
    rw [hc] at e
    cases e
    rw [Bool.and_eq_true] at hc
    exact ⟨hc.1, by have := hc.2; rw [Nat.blt_eq] at this; exact this, rfl⟩

theorem m_s_iconst {n : Int} {v : Int32} (hdg : decode cc pc = .ok (.iconst n, 1)) (hv : Int32.ofInt n = v) : m_Snd D cA ra B ro M cc nL ret own nm pc (m_const (.int v) 1) := by
  refine m_pure (by
  intro ls st h x e
  unfold m_const at e
  (repeat' split at e) <;> first | (cases e; done) | (cases e; exact ⟨_, _, _, rfl⟩)) ?_
  intro p l e R s m args below meth c d h0 Q X ls st h pc1 ls1 st1 eq H locs al cells slots hS hH hro hL hcl hsl k
  obtain ⟨hx, hb, hml, hr, hown, hlk, hnm, hts, hW, hsz, hrl, hfr, hlo⟩ := X
  unfold m_const at eq
  cases eq
  exact lv_iconst hx hb hdg hv (k al hL)

theorem m_s_bipush {n : Int} {v : Int32} (hdg : decode cc pc = .ok (.bipush n, 2)) (hv : (Int8.ofInt n).toInt32 = v) : m_Snd D cA ra B ro M cc nL ret own nm pc (m_const (.int v) 2) := by
  refine m_pure (by
  intro ls st h x e
  unfold m_const at e
  (repeat' split at e) <;> first | (cases e; done) | (cases e; exact ⟨_, _, _, rfl⟩)) ?_
  intro p l e R s m args below meth c d h0 Q X ls st h pc1 ls1 st1 eq H locs al cells slots hS hH hro hL hcl hsl k
  obtain ⟨hx, hb, hml, hr, hown, hlk, hnm, hts, hW, hsz, hrl, hfr, hlo⟩ := X
  unfold m_const at eq
  cases eq
  exact lv_bipush hx hb hdg hv (k al hL)

theorem m_s_sipush {n : Int} {v : Int32} (hdg : decode cc pc = .ok (.sipush n, 3)) (hv : (Int16.ofInt n).toInt32 = v) : m_Snd D cA ra B ro M cc nL ret own nm pc (m_const (.int v) 3) := by
  refine m_pure (by
  intro ls st h x e
  unfold m_const at e
  (repeat' split at e) <;> first | (cases e; done) | (cases e; exact ⟨_, _, _, rfl⟩)) ?_
  intro p l e R s m args below meth c d h0 Q X ls st h pc1 ls1 st1 eq H locs al cells slots hS hH hro hL hcl hsl k
  obtain ⟨hx, hb, hml, hr, hown, hlk, hnm, hts, hW, hsz, hrl, hfr, hlo⟩ := X
  unfold m_const at eq
  cases eq
  exact lv_sipush hx hb hdg hv (k al hL)

theorem m_s_fconst0 (hdg : decode cc pc = .ok (.fconst 0, 1)) : m_Snd D cA ra B ro M cc nL ret own nm pc (m_const (.float FP.fconst0) 1) := by
  refine m_pure (by
  intro ls st h x e
  unfold m_const at e
  (repeat' split at e) <;> first | (cases e; done) | (cases e; exact ⟨_, _, _, rfl⟩)) ?_
  intro p l e R s m args below meth c d h0 Q X ls st h pc1 ls1 st1 eq H locs al cells slots hS hH hro hL hcl hsl k
  obtain ⟨hx, hb, hml, hr, hown, hlk, hnm, hts, hW, hsz, hrl, hfr, hlo⟩ := X
  unfold m_const at eq
  cases eq
  exact lv_fconst0 hx hb hdg (k al hL)

theorem m_s_fconst1 (hdg : decode cc pc = .ok (.fconst 1, 1)) : m_Snd D cA ra B ro M cc nL ret own nm pc (m_const (.float FP.fconst1) 1) := by
  refine m_pure (by
  intro ls st h x e
  unfold m_const at e
  (repeat' split at e) <;> first | (cases e; done) | (cases e; exact ⟨_, _, _, rfl⟩)) ?_
  intro p l e R s m args below meth c d h0 Q X ls st h pc1 ls1 st1 eq H locs al cells slots hS hH hro hL hcl hsl k
  obtain ⟨hx, hb, hml, hr, hown, hlk, hnm, hts, hW, hsz, hrl, hfr, hlo⟩ := X
  unfold m_const at eq
  cases eq
  exact lv_fconst1 hx hb hdg (k al hL)

theorem m_s_null (hdg : decode cc pc = .ok (.aconst_null, 1)) : m_Snd D cA ra B ro M cc nL ret own nm pc (m_const .null 1) := by
  refine m_pure (by
  intro ls st h x e
  unfold m_const at e
  (repeat' split at e) <;> first | (cases e; done) | (cases e; exact ⟨_, _, _, rfl⟩)) ?_
  intro p l e R s m args below meth c d h0 Q X ls st h pc1 ls1 st1 eq H locs al cells slots hS hH hro hL hcl hsl k
  obtain ⟨hx, hb, hml, hr, hown, hlk, hnm, hts, hW, hsz, hrl, hfr, hlo⟩ := X
  unfold m_const at eq
  cases eq
  exact lv_null hx hb hdg (k al hL)

theorem m_s_ldcf {index : Nat} {v : UInt32} (hw : Cond.constantFloat own index v ∈ m_gd) (hdg : decode cc pc = .ok (.ldc index, 2)) : m_Snd D cA ra B ro M cc nL ret own nm pc (m_const (.float v) 2) := by
  refine m_pure (by
  intro ls st h x e
  unfold m_const at e
  (repeat' split at e) <;> first | (cases e; done) | (cases e; exact ⟨_, _, _, rfl⟩)) ?_
  intro p l e R s m args below meth c d h0 Q X ls st h pc1 ls1 st1 eq H locs al cells slots hS hH hro hL hcl hsl k
  obtain ⟨hx, hb, hml, hr, hown, hlk, hnm, hts, hW, hsz, hrl, hfr, hlo⟩ := X
  unfold m_const at eq
  cases eq
  exact lv_ldcf hx hb hown (hts _ hw) hdg (k al hL)

theorem m_s_ldcw {index : Nat} {v : Int32} (hw : Cond.constant own index v ∈ m_gd) (hdg : decode cc pc = .ok (.ldc_w index, 3)) : m_Snd D cA ra B ro M cc nL ret own nm pc (m_const (.int v) 3) := by
  refine m_pure (by
  intro ls st h x e
  unfold m_const at e
  (repeat' split at e) <;> first | (cases e; done) | (cases e; exact ⟨_, _, _, rfl⟩)) ?_
  intro p l e R s m args below meth c d h0 Q X ls st h pc1 ls1 st1 eq H locs al cells slots hS hH hro hL hcl hsl k
  obtain ⟨hx, hb, hml, hr, hown, hlk, hnm, hts, hW, hsz, hrl, hfr, hlo⟩ := X
  unfold m_const at eq
  cases eq
  exact lv_ldcw hx hb hown (hts _ hw) hdg (k al hL)

theorem m_s_ldci {index : Nat} {v : Int32} (hw : Cond.constant own index v ∈ m_gd) (hdg : decode cc pc = .ok (.ldc index, 2)) : m_Snd D cA ra B ro M cc nL ret own nm pc (m_const (.int v) 2) := by
  refine m_pure (by
  intro ls st h x e
  unfold m_const at e
  (repeat' split at e) <;> first | (cases e; done) | (cases e; exact ⟨_, _, _, rfl⟩)) ?_
  intro p l e R s m args below meth c d h0 Q X ls st h pc1 ls1 st1 eq H locs al cells slots hS hH hro hL hcl hsl k
  obtain ⟨hx, hb, hml, hr, hown, hlk, hnm, hts, hW, hsz, hrl, hfr, hlo⟩ := X
  unfold m_const at eq
  cases eq
  exact lv_ldc hx hb hown (hts _ hw) hdg (k al hL)

theorem m_s_ldc2 {index : Nat} {v : Int64} (hw : Cond.constantLong own index v ∈ m_gd) (hdg : decode cc pc = .ok (.ldc2_w index, 3)) : m_Snd D cA ra B ro M cc nL ret own nm pc (m_const (.long v) 3) := by
  refine m_pure (by
  intro ls st h x e
  unfold m_const at e
  (repeat' split at e) <;> first | (cases e; done) | (cases e; exact ⟨_, _, _, rfl⟩)) ?_
  intro p l e R s m args below meth c d h0 Q X ls st h pc1 ls1 st1 eq H locs al cells slots hS hH hro hL hcl hsl k
  obtain ⟨hx, hb, hml, hr, hown, hlk, hnm, hts, hW, hsz, hrl, hfr, hlo⟩ := X
  unfold m_const at eq
  cases eq
  exact lv_ldc2 hx hb hown (hts _ hw) hdg (k al hL)

theorem m_s_iload_n {k : Fin 4} {i : Nat} (hdg : decode cc pc = .ok (.iload_n k, 1)) (hi : (k : Nat) = i) : m_Snd D cA ra B ro M cc nL ret own nm pc (m_iload i 1) := by
  refine m_pure (by
  intro ls st h x e
  unfold m_iload at e
  (repeat' split at e) <;> first | (cases e; done) | (cases e; exact ⟨_, _, _, rfl⟩)) ?_
  intro p l e R s m args below meth c d h0 Q X ls st h pc1 ls1 st1 eq H locs al cells slots hS hH hro hL hcl hsl k
  obtain ⟨hx, hb, hml, hr, hown, hlk, hnm, hts, hW, hsz, hrl, hfr, hlo⟩ := X
  unfold m_iload at eq
  split at eq
  · rename_i x hq
    cases eq
    exact lv_iload_n hx hb hdg hi (hL.2.2.2 i _ hq) (k al hL)
  · cases eq

theorem m_s_fload_n {k : Fin 4} {i : Nat} (hdg : decode cc pc = .ok (.fload_n k, 1)) (hi : (k : Nat) = i) : m_Snd D cA ra B ro M cc nL ret own nm pc (m_fload i 1) := by
  refine m_pure (by
  intro ls st h x e
  unfold m_fload at e
  (repeat' split at e) <;> first | (cases e; done) | (cases e; exact ⟨_, _, _, rfl⟩)) ?_
  intro p l e R s m args below meth c d h0 Q X ls st h pc1 ls1 st1 eq H locs al cells slots hS hH hro hL hcl hsl k
  obtain ⟨hx, hb, hml, hr, hown, hlk, hnm, hts, hW, hsz, hrl, hfr, hlo⟩ := X
  unfold m_fload at eq
  split at eq
  · rename_i x hq
    cases eq
    exact lv_fload_n hx hb hdg hi (hL.2.2.2 i _ hq) (k al hL)
  · cases eq

theorem m_s_lload_n {k : Fin 4} {i : Nat} (hdg : decode cc pc = .ok (.lload_n k, 1)) (hi : (k : Nat) = i) : m_Snd D cA ra B ro M cc nL ret own nm pc (m_lload i 1) := by
  refine m_pure (by
  intro ls st h x e
  unfold m_lload at e
  (repeat' split at e) <;> first | (cases e; done) | (cases e; exact ⟨_, _, _, rfl⟩)) ?_
  intro p l e R s m args below meth c d h0 Q X ls st h pc1 ls1 st1 eq H locs al cells slots hS hH hro hL hcl hsl k
  obtain ⟨hx, hb, hml, hr, hown, hlk, hnm, hts, hW, hsz, hrl, hfr, hlo⟩ := X
  unfold m_lload at eq
  split at eq
  · rename_i x hq
    cases eq
    exact lv_lload_n hx hb hdg hi (hL.2.2.2 i _ hq) (k al hL)
  · cases eq

theorem m_s_iload {i : Nat} (hdg : decode cc pc = .ok (.iload i, 2)) : m_Snd D cA ra B ro M cc nL ret own nm pc (m_iload i 2) := by
  refine m_pure (by
  intro ls st h x e
  unfold m_iload at e
  (repeat' split at e) <;> first | (cases e; done) | (cases e; exact ⟨_, _, _, rfl⟩)) ?_
  intro p l e R s m args below meth c d h0 Q X ls st h pc1 ls1 st1 eq H locs al cells slots hS hH hro hL hcl hsl k
  obtain ⟨hx, hb, hml, hr, hown, hlk, hnm, hts, hW, hsz, hrl, hfr, hlo⟩ := X
  unfold m_iload at eq
  split at eq
  · rename_i x hq
    cases eq
    exact lv_iload hx hb hdg (hL.2.2.2 i _ hq) (k al hL)
  · cases eq

theorem m_s_fload {i : Nat} (hdg : decode cc pc = .ok (.fload i, 2)) : m_Snd D cA ra B ro M cc nL ret own nm pc (m_fload i 2) := by
  refine m_pure (by
  intro ls st h x e
  unfold m_fload at e
  (repeat' split at e) <;> first | (cases e; done) | (cases e; exact ⟨_, _, _, rfl⟩)) ?_
  intro p l e R s m args below meth c d h0 Q X ls st h pc1 ls1 st1 eq H locs al cells slots hS hH hro hL hcl hsl k
  obtain ⟨hx, hb, hml, hr, hown, hlk, hnm, hts, hW, hsz, hrl, hfr, hlo⟩ := X
  unfold m_fload at eq
  split at eq
  · rename_i x hq
    cases eq
    exact lv_fload hx hb hdg (hL.2.2.2 i _ hq) (k al hL)
  · cases eq

theorem m_s_lload {i : Nat} (hdg : decode cc pc = .ok (.lload i, 2)) : m_Snd D cA ra B ro M cc nL ret own nm pc (m_lload i 2) := by
  refine m_pure (by
  intro ls st h x e
  unfold m_lload at e
  (repeat' split at e) <;> first | (cases e; done) | (cases e; exact ⟨_, _, _, rfl⟩)) ?_
  intro p l e R s m args below meth c d h0 Q X ls st h pc1 ls1 st1 eq H locs al cells slots hS hH hro hL hcl hsl k
  obtain ⟨hx, hb, hml, hr, hown, hlk, hnm, hts, hW, hsz, hrl, hfr, hlo⟩ := X
  unfold m_lload at eq
  split at eq
  · rename_i x hq
    cases eq
    exact lv_lload hx hb hdg (hL.2.2.2 i _ hq) (k al hL)
  · cases eq

theorem m_s_dload {i : Nat} (hdg : decode cc pc = .ok (.dload i, 2)) : m_Snd D cA ra B ro M cc nL ret own nm pc (m_dload i 2) := by
  refine m_pure (by
  intro ls st h x e
  unfold m_dload at e
  (repeat' split at e) <;> first | (cases e; done) | (cases e; exact ⟨_, _, _, rfl⟩)) ?_
  intro p l e R s m args below meth c d h0 Q X ls st h pc1 ls1 st1 eq H locs al cells slots hS hH hro hL hcl hsl k
  obtain ⟨hx, hb, hml, hr, hown, hlk, hnm, hts, hW, hsz, hrl, hfr, hlo⟩ := X
  unfold m_dload at eq
  split at eq
  · rename_i x hq
    cases eq
    exact lv_dload hx hb hdg (hL.2.2.2 i _ hq) (k al hL)
  · cases eq

theorem m_s_aload_n {k : Fin 4} {i : Nat} (hdg : decode cc pc = .ok (.aload_n k, 1)) (hi : (k : Nat) = i) : m_Snd D cA ra B ro M cc nL ret own nm pc (m_aload i 1) := by
  refine m_pure (by
  intro ls st h x e
  unfold m_aload at e
  (repeat' split at e) <;> first | (cases e; done) | (cases e; exact ⟨_, _, _, rfl⟩)) ?_
  intro p l e R s m args below meth c d h0 Q X ls st h pc1 ls1 st1 eq H locs al cells slots hS hH hro hL hcl hsl k
  obtain ⟨hx, hb, hml, hr, hown, hlk, hnm, hts, hW, hsz, hrl, hfr, hlo⟩ := X
  unfold m_aload at eq
  split at eq
  · rename_i x hq
    cases eq
    exact lv_aload_n hx hb hdg hi (hL.2.2.2 i _ hq) (k al hL)
  · rename_i hq
    cases eq
    exact lv_aload_nN hx hb hdg hi (hL.2.2.2 i _ hq) (k al hL)
  · cases eq

theorem m_s_aload {i : Nat} (hdg : decode cc pc = .ok (.aload i, 2)) : m_Snd D cA ra B ro M cc nL ret own nm pc (m_aload i 2) := by
  refine m_pure (by
  intro ls st h x e
  unfold m_aload at e
  (repeat' split at e) <;> first | (cases e; done) | (cases e; exact ⟨_, _, _, rfl⟩)) ?_
  intro p l e R s m args below meth c d h0 Q X ls st h pc1 ls1 st1 eq H locs al cells slots hS hH hro hL hcl hsl k
  obtain ⟨hx, hb, hml, hr, hown, hlk, hnm, hts, hW, hsz, hrl, hfr, hlo⟩ := X
  unfold m_aload at eq
  split at eq
  · rename_i x hq
    cases eq
    exact lv_aload hx hb hdg (hL.2.2.2 i _ hq) (k al hL)
  · rename_i hq
    cases eq
    exact lv_aloadN hx hb hdg (hL.2.2.2 i _ hq) (k al hL)
  · cases eq

theorem m_s_istore_n {k : Fin 4} {i : Nat} (hdg : decode cc pc = .ok (.istore_n k, 1)) (hi : (k : Nat) = i) : m_Snd D cA ra B ro M cc nL ret own nm pc (m_istore i 1) := by
  refine m_pure (by
  intro ls st h x e
  unfold m_istore at e
  (repeat' split at e) <;> first | (cases e; done) | (obtain ⟨_, _, e3⟩ := m_sto_spec e; exact ⟨_, _, _, e3⟩)) ?_
  intro p l e R s m args below meth c d h0 Q X ls st h pc1 ls1 st1 eq H locs al cells slots hS hH hro hL hcl hsl k
  obtain ⟨hx, hb, hml, hr, hown, hlk, hnm, hts, hW, hsz, hrl, hfr, hlo⟩ := X
  unfold m_istore at eq
  split at eq
  · obtain ⟨e1, e2, e3⟩ := m_sto_spec eq
    cases e3
    rw [hL.1] at e2
    exact lv_istore_n hx hb hdg hi hL.has e2 rfl (fun al1 h1 => k al1 (hL.set e1 e2 h1))
  · cases eq

theorem m_s_fstore_n {k : Fin 4} {i : Nat} (hdg : decode cc pc = .ok (.fstore_n k, 1)) (hi : (k : Nat) = i) : m_Snd D cA ra B ro M cc nL ret own nm pc (m_fstore i 1) := by
  refine m_pure (by
  intro ls st h x e
  unfold m_fstore at e
  (repeat' split at e) <;> first | (cases e; done) | (obtain ⟨_, _, e3⟩ := m_sto_spec e; exact ⟨_, _, _, e3⟩)) ?_
  intro p l e R s m args below meth c d h0 Q X ls st h pc1 ls1 st1 eq H locs al cells slots hS hH hro hL hcl hsl k
  obtain ⟨hx, hb, hml, hr, hown, hlk, hnm, hts, hW, hsz, hrl, hfr, hlo⟩ := X
  unfold m_fstore at eq
  split at eq
  · obtain ⟨e1, e2, e3⟩ := m_sto_spec eq
    cases e3
    rw [hL.1] at e2
    exact lv_fstore_n hx hb hdg hi hL.has e2 rfl (fun al1 h1 => k al1 (hL.set e1 e2 h1))
  · cases eq

theorem m_s_fstore {i : Nat} (hdg : decode cc pc = .ok (.fstore i, 2)) : m_Snd D cA ra B ro M cc nL ret own nm pc (m_fstore i 2) := by
  refine m_pure (by
  intro ls st h x e
  unfold m_fstore at e
  (repeat' split at e) <;> first | (cases e; done) | (obtain ⟨_, _, e3⟩ := m_sto_spec e; exact ⟨_, _, _, e3⟩)) ?_
  intro p l e R s m args below meth c d h0 Q X ls st h pc1 ls1 st1 eq H locs al cells slots hS hH hro hL hcl hsl k
  obtain ⟨hx, hb, hml, hr, hown, hlk, hnm, hts, hW, hsz, hrl, hfr, hlo⟩ := X
  unfold m_fstore at eq
  split at eq
  · obtain ⟨e1, e2, e3⟩ := m_sto_spec eq
    cases e3
    rw [hL.1] at e2
    exact lv_fstore hx hb hdg hL.has e2 rfl (fun al1 h1 => k al1 (hL.set e1 e2 h1))
  · cases eq

theorem m_s_istore {i : Nat} (hdg : decode cc pc = .ok (.istore i, 2)) : m_Snd D cA ra B ro M cc nL ret own nm pc (m_istore i 2) := by
  refine m_pure (by
  intro ls st h x e
  unfold m_istore at e
  (repeat' split at e) <;> first | (cases e; done) | (obtain ⟨_, _, e3⟩ := m_sto_spec e; exact ⟨_, _, _, e3⟩)) ?_
  intro p l e R s m args below meth c d h0 Q X ls st h pc1 ls1 st1 eq H locs al cells slots hS hH hro hL hcl hsl k
  obtain ⟨hx, hb, hml, hr, hown, hlk, hnm, hts, hW, hsz, hrl, hfr, hlo⟩ := X
  unfold m_istore at eq
  split at eq
  · obtain ⟨e1, e2, e3⟩ := m_sto_spec eq
    cases e3
    rw [hL.1] at e2
    exact lv_istore hx hb hdg hL.has e2 rfl (fun al1 h1 => k al1 (hL.set e1 e2 h1))
  · cases eq

theorem m_s_astore_n {k : Fin 4} {i : Nat} (hdg : decode cc pc = .ok (.astore_n k, 1)) (hi : (k : Nat) = i) : m_Snd D cA ra B ro M cc nL ret own nm pc (m_astore i 1) := by
  refine m_pure (by
  intro ls st h x e
  unfold m_astore at e
  (repeat' split at e) <;> first | (cases e; done) | (obtain ⟨_, _, e3⟩ := m_sto_spec e; exact ⟨_, _, _, e3⟩)) ?_
  intro p l e R s m args below meth c d h0 Q X ls st h pc1 ls1 st1 eq H locs al cells slots hS hH hro hL hcl hsl k
  obtain ⟨hx, hb, hml, hr, hown, hlk, hnm, hts, hW, hsz, hrl, hfr, hlo⟩ := X
  unfold m_astore at eq
  split at eq
  · obtain ⟨e1, e2, e3⟩ := m_sto_spec eq
    cases e3
    rw [hL.1] at e2
    exact lv_astore_n hx hb hdg hi hL.has e2 rfl (fun al1 h1 => k al1 (hL.set e1 e2 h1))
  · obtain ⟨e1, e2, e3⟩ := m_sto_spec eq
    cases e3
    rw [hL.1] at e2
    exact lv_astore_nN hx hb hdg hi hL.has e2 rfl (fun al1 h1 => k al1 (hL.set e1 e2 h1))
  · cases eq

theorem m_s_astore {i : Nat} (hdg : decode cc pc = .ok (.astore i, 2)) : m_Snd D cA ra B ro M cc nL ret own nm pc (m_astore i 2) := by
  refine m_pure (by
  intro ls st h x e
  unfold m_astore at e
  (repeat' split at e) <;> first | (cases e; done) | (obtain ⟨_, _, e3⟩ := m_sto_spec e; exact ⟨_, _, _, e3⟩)) ?_
  intro p l e R s m args below meth c d h0 Q X ls st h pc1 ls1 st1 eq H locs al cells slots hS hH hro hL hcl hsl k
  obtain ⟨hx, hb, hml, hr, hown, hlk, hnm, hts, hW, hsz, hrl, hfr, hlo⟩ := X
  unfold m_astore at eq
  split at eq
  · obtain ⟨e1, e2, e3⟩ := m_sto_spec eq
    cases e3
    rw [hL.1] at e2
    exact lv_astore hx hb hdg hL.has e2 rfl (fun al1 h1 => k al1 (hL.set e1 e2 h1))
  · obtain ⟨e1, e2, e3⟩ := m_sto_spec eq
    cases e3
    rw [hL.1] at e2
    exact lv_astoreN hx hb hdg hL.has e2 rfl (fun al1 h1 => k al1 (hL.set e1 e2 h1))
  · cases eq

theorem m_dsto_spec {i : Nat} {x0 : UInt64} {st : List Value} {ls : m_Ls} {h : m_Hp} {x : m_Res} (e : m_dstore i 2 pc ls (.double x0 :: st) h = some x) : m_ok ls i = true ∧ i + 1 < ls.length ∧ x = .inl (pc + 2, (ls.set (i + 1) none).set i (some (.double x0)), st, h) := by
  unfold m_dstore at e
  dsimp only at e
  cases hc : (m_ok ls i && Nat.blt (i + 1) ls.length) with
  | false => rw [hc] at e; cases e
  | true =>
    rw [hc] at e
    cases e
    rw [Bool.and_eq_true] at hc
    exact ⟨hc.1, by have := hc.2; rw [Nat.blt_eq] at this; exact this, rfl⟩
theorem m_s_dstore {i : Nat} (hdg : decode cc pc = .ok (.dstore i, 2)) : m_Snd D cA ra B ro M cc nL ret own nm pc (m_dstore i 2) := by
  refine m_pure (fun ls st h x e => ?_) ?_
  · match st, e with
    | .double x0 :: st, e =>
      obtain ⟨_, _, e3⟩ := m_dsto_spec e
      exact ⟨_, _, _, e3⟩
  intro p l e R s m args below meth c d h0 Q X ls st h pc1 ls1 st1 eq H locs al cells slots hS hH hro hL hcl hsl k
  obtain ⟨hx, hb, hml, hr, hown, hlk, hnm, hts, hW, hsz, hrl, hfr, hlo⟩ := X
  match st, eq with
  | .double x0 :: st, eq =>
    obtain ⟨e1, e2, e3⟩ := m_dsto_spec eq
    cases e3
    rw [hL.1] at e2
    exact lv_dstore hx hb hdg hL.has e2 rfl (fun al1 h1 => k al1 (hL.set2 e1 e2 h1))
theorem m_lsto_spec {i n : Nat} {x0 : Int64} {st : List Value} {ls : m_Ls} {h : m_Hp} {x : m_Res} (e : m_lstore i n pc ls (.long x0 :: st) h = some x) : m_ok ls i = true ∧ i + 1 < ls.length ∧ x = .inl (pc + n, (ls.set (i + 1) none).set i (some (.long x0)), st, h) := by
  unfold m_lstore at e
  dsimp only at e
  cases hc : (m_ok ls i && Nat.blt (i + 1) ls.length) with
  | false => rw [hc] at e; cases e
  | true =>
    rw [hc] at e
    cases e
    rw [Bool.and_eq_true] at hc
    exact ⟨hc.1, by have := hc.2; rw [Nat.blt_eq] at this; exact this, rfl⟩
theorem m_s_lstore {i : Nat} (hdg : decode cc pc = .ok (.lstore i, 2)) : m_Snd D cA ra B ro M cc nL ret own nm pc (m_lstore i 2) := by
  refine m_pure (fun ls st h x e => ?_) ?_
  · match st, e with
    | .long x0 :: st, e =>
      obtain ⟨_, _, e3⟩ := m_lsto_spec e
      exact ⟨_, _, _, e3⟩
  intro p l e R s m args below meth c d h0 Q X ls st h pc1 ls1 st1 eq H locs al cells slots hS hH hro hL hcl hsl k
  obtain ⟨hx, hb, hml, hr, hown, hlk, hnm, hts, hW, hsz, hrl, hfr, hlo⟩ := X
  match st, eq with
  | .long x0 :: st, eq =>
    obtain ⟨e1, e2, e3⟩ := m_lsto_spec eq
    cases e3
    rw [hL.1] at e2
    exact lv_lstore hx hb hdg hL.has e2 rfl (fun al1 h1 => k al1 (hL.set2 e1 e2 h1))
theorem m_s_lstore_n {k : Fin 4} {i : Nat} (hdg : decode cc pc = .ok (.lstore_n k, 1)) (hi : (k : Nat) = i) : m_Snd D cA ra B ro M cc nL ret own nm pc (m_lstore i 1) := by
  refine m_pure (fun ls st h x e => ?_) ?_
  · match st, e with
    | .long x0 :: st, e =>
      obtain ⟨_, _, e3⟩ := m_lsto_spec e
      exact ⟨_, _, _, e3⟩
  intro p l e R s m args below meth c d h0 Q X ls st h pc1 ls1 st1 eq H locs al cells slots hS hH hro hL hcl hsl kk
  obtain ⟨hx, hb, hml, hr, hown, hlk, hnm, hts, hW, hsz, hrl, hfr, hlo⟩ := X
  match st, eq with
  | .long x0 :: st, eq =>
    obtain ⟨e1, e2, e3⟩ := m_lsto_spec eq
    cases e3
    rw [hL.1] at e2
    exact lv_lstore_n hx hb hdg hi hL.has e2 rfl (fun al1 h1 => kk al1 (hL.set2 e1 e2 h1))
theorem m_s_iinc {i : Nat} {n : Int} {v : Int32} (hdg : decode cc pc = .ok (.iinc i n, 3)) (hv : Int32.ofInt n = v) : m_Snd D cA ra B ro M cc nL ret own nm pc (m_iinc i v) := by
  subst hv
  refine m_pure (fun ls st h x e => ?_) ?_
  · unfold m_iinc at e
    split at e
    · obtain ⟨_, _, e3⟩ := m_sto_spec e
      exact ⟨_, _, _, e3⟩
    · cases e
  intro p l e R s m args below meth c d h0 Q X ls st h pc1 ls1 st1 eq H locs al cells slots hS hH hro hL hcl hsl k
  obtain ⟨hx, hb, hml, hr, hown, hlk, hnm, hts, hW, hsz, hrl, hfr, hlo⟩ := X
  unfold m_iinc at eq
  split at eq
  · rename_i x hq
    obtain ⟨e1, e2, e3⟩ := m_sto_spec eq
    cases e3
    rw [hL.1] at e2
    have hmem : (i, m_cv ra B (.int x)) ∈ m_lvl ra B 0 ls := (m_lvl_mem ls 0 _).mpr ⟨i, _, hq, by rw [Nat.zero_add]⟩
    obtain ⟨kk, hkk⟩ := List.getElem?_of_mem hmem
    exact lv_iinc (v := x + Int32.ofInt n) hx hb hdg hL.has hkk rfl e2 rfl (fun al1 h1 => k al1 (hL.set (v := .int (x + Int32.ofInt n)) e1 e2 h1))
  · cases eq

theorem m_s_iadd (hdg : decode cc pc = .ok (.iadd, 1)) : m_Snd D cA ra B ro M cc nL ret own nm pc (m_bin (fun a b => a + b)) := by
  refine m_pure (by
  intro ls st h x e
  unfold m_bin at e
  (repeat' split at e) <;> first | (cases e; done) | (cases e; exact ⟨_, _, _, rfl⟩)) ?_
  intro p l e R s m args below meth c d h0 Q X ls st h pc1 ls1 st1 eq H locs al cells slots hS hH hro hL hcl hsl k
  obtain ⟨hx, hb, hml, hr, hown, hlk, hnm, hts, hW, hsz, hrl, hfr, hlo⟩ := X
  unfold m_bin at eq
  split at eq
  · cases eq
    exact lv_iadd hx hb hdg (k al hL)
  · cases eq

theorem m_s_isub (hdg : decode cc pc = .ok (.isub, 1)) : m_Snd D cA ra B ro M cc nL ret own nm pc (m_bin (fun a b => a - b)) := by
  refine m_pure (by
  intro ls st h x e
  unfold m_bin at e
  (repeat' split at e) <;> first | (cases e; done) | (cases e; exact ⟨_, _, _, rfl⟩)) ?_
  intro p l e R s m args below meth c d h0 Q X ls st h pc1 ls1 st1 eq H locs al cells slots hS hH hro hL hcl hsl k
  obtain ⟨hx, hb, hml, hr, hown, hlk, hnm, hts, hW, hsz, hrl, hfr, hlo⟩ := X
  unfold m_bin at eq
  split at eq
  · cases eq
    exact lv_isub hx hb hdg (k al hL)
  · cases eq

theorem m_s_imul (hdg : decode cc pc = .ok (.imul, 1)) : m_Snd D cA ra B ro M cc nL ret own nm pc (m_bin (fun a b => a * b)) := by
  refine m_pure (by
  intro ls st h x e
  unfold m_bin at e
  (repeat' split at e) <;> first | (cases e; done) | (cases e; exact ⟨_, _, _, rfl⟩)) ?_
  intro p l e R s m args below meth c d h0 Q X ls st h pc1 ls1 st1 eq H locs al cells slots hS hH hro hL hcl hsl k
  obtain ⟨hx, hb, hml, hr, hown, hlk, hnm, hts, hW, hsz, hrl, hfr, hlo⟩ := X
  unfold m_bin at eq
  split at eq
  · cases eq
    exact lv_imul hx hb hdg (k al hL)
  · cases eq

theorem m_s_iand (hdg : decode cc pc = .ok (.iand, 1)) : m_Snd D cA ra B ro M cc nL ret own nm pc (m_bin (fun a b => a &&& b)) := by
  refine m_pure (by
  intro ls st h x e
  unfold m_bin at e
  (repeat' split at e) <;> first | (cases e; done) | (cases e; exact ⟨_, _, _, rfl⟩)) ?_
  intro p l e R s m args below meth c d h0 Q X ls st h pc1 ls1 st1 eq H locs al cells slots hS hH hro hL hcl hsl k
  obtain ⟨hx, hb, hml, hr, hown, hlk, hnm, hts, hW, hsz, hrl, hfr, hlo⟩ := X
  unfold m_bin at eq
  split at eq
  · cases eq
    exact lv_iand hx hb hdg (k al hL)
  · cases eq

theorem m_s_ior (hdg : decode cc pc = .ok (.ior, 1)) : m_Snd D cA ra B ro M cc nL ret own nm pc (m_bin (fun a b => a ||| b)) := by
  refine m_pure (by
  intro ls st h x e
  unfold m_bin at e
  (repeat' split at e) <;> first | (cases e; done) | (cases e; exact ⟨_, _, _, rfl⟩)) ?_
  intro p l e R s m args below meth c d h0 Q X ls st h pc1 ls1 st1 eq H locs al cells slots hS hH hro hL hcl hsl k
  obtain ⟨hx, hb, hml, hr, hown, hlk, hnm, hts, hW, hsz, hrl, hfr, hlo⟩ := X
  unfold m_bin at eq
  split at eq
  · cases eq
    exact lv_ior hx hb hdg (k al hL)
  · cases eq

theorem m_s_ixor (hdg : decode cc pc = .ok (.ixor, 1)) : m_Snd D cA ra B ro M cc nL ret own nm pc (m_bin (fun a b => a ^^^ b)) := by
  refine m_pure (by
  intro ls st h x e
  unfold m_bin at e
  (repeat' split at e) <;> first | (cases e; done) | (cases e; exact ⟨_, _, _, rfl⟩)) ?_
  intro p l e R s m args below meth c d h0 Q X ls st h pc1 ls1 st1 eq H locs al cells slots hS hH hro hL hcl hsl k
  obtain ⟨hx, hb, hml, hr, hown, hlk, hnm, hts, hW, hsz, hrl, hfr, hlo⟩ := X
  unfold m_bin at eq
  split at eq
  · cases eq
    exact lv_ixor hx hb hdg (k al hL)
  · cases eq

theorem m_s_ishl (hdg : decode cc pc = .ok (.ishl, 1)) : m_Snd D cA ra B ro M cc nL ret own nm pc (m_bin (fun a b => a <<< (b &&& 31))) := by
  refine m_pure (by
  intro ls st h x e
  unfold m_bin at e
  (repeat' split at e) <;> first | (cases e; done) | (cases e; exact ⟨_, _, _, rfl⟩)) ?_
  intro p l e R s m args below meth c d h0 Q X ls st h pc1 ls1 st1 eq H locs al cells slots hS hH hro hL hcl hsl k
  obtain ⟨hx, hb, hml, hr, hown, hlk, hnm, hts, hW, hsz, hrl, hfr, hlo⟩ := X
  unfold m_bin at eq
  split at eq
  · cases eq
    exact lv_ishl hx hb hdg (k al hL)
  · cases eq

theorem m_s_ishr (hdg : decode cc pc = .ok (.ishr, 1)) : m_Snd D cA ra B ro M cc nL ret own nm pc (m_bin (fun a b => a >>> (b &&& 31))) := by
  refine m_pure (by
  intro ls st h x e
  unfold m_bin at e
  (repeat' split at e) <;> first | (cases e; done) | (cases e; exact ⟨_, _, _, rfl⟩)) ?_
  intro p l e R s m args below meth c d h0 Q X ls st h pc1 ls1 st1 eq H locs al cells slots hS hH hro hL hcl hsl k
  obtain ⟨hx, hb, hml, hr, hown, hlk, hnm, hts, hW, hsz, hrl, hfr, hlo⟩ := X
  unfold m_bin at eq
  split at eq
  · cases eq
    exact lv_ishr hx hb hdg (k al hL)
  · cases eq

theorem m_s_iushr (hdg : decode cc pc = .ok (.iushr, 1)) : m_Snd D cA ra B ro M cc nL ret own nm pc (m_bin (fun a b => (a.toUInt32 >>> (b.toUInt32 &&& Int32.toUInt32 31)).toInt32)) := by
  refine m_pure (by
  intro ls st h x e
  unfold m_bin at e
  (repeat' split at e) <;> first | (cases e; done) | (cases e; exact ⟨_, _, _, rfl⟩)) ?_
  intro p l e R s m args below meth c d h0 Q X ls st h pc1 ls1 st1 eq H locs al cells slots hS hH hro hL hcl hsl k
  obtain ⟨hx, hb, hml, hr, hown, hlk, hnm, hts, hW, hsz, hrl, hfr, hlo⟩ := X
  unfold m_bin at eq
  split at eq
  · cases eq
    exact lv_iushr hx hb hdg rfl (k al hL)
  · cases eq

theorem m_s_ineg (hdg : decode cc pc = .ok (.ineg, 1)) : m_Snd D cA ra B ro M cc nL ret own nm pc (m_un (fun a => -a)) := by
  refine m_pure (by
  intro ls st h x e
  unfold m_un at e
  (repeat' split at e) <;> first | (cases e; done) | (cases e; exact ⟨_, _, _, rfl⟩)) ?_
  intro p l e R s m args below meth c d h0 Q X ls st h pc1 ls1 st1 eq H locs al cells slots hS hH hro hL hcl hsl k
  obtain ⟨hx, hb, hml, hr, hown, hlk, hnm, hts, hW, hsz, hrl, hfr, hlo⟩ := X
  unfold m_un at eq
  split at eq
  · cases eq
    exact lv_ineg hx hb hdg (k al hL)
  · cases eq

theorem m_s_i2c (hdg : decode cc pc = .ok (.i2c, 1)) : m_Snd D cA ra B ro M cc nL ret own nm pc (m_un (fun a => (a.toUInt32 % 65536).toInt32)) := by
  refine m_pure (by
  intro ls st h x e
  unfold m_un at e
  (repeat' split at e) <;> first | (cases e; done) | (cases e; exact ⟨_, _, _, rfl⟩)) ?_
  intro p l e R s m args below meth c d h0 Q X ls st h pc1 ls1 st1 eq H locs al cells slots hS hH hro hL hcl hsl k
  obtain ⟨hx, hb, hml, hr, hown, hlk, hnm, hts, hW, hsz, hrl, hfr, hlo⟩ := X
  unfold m_un at eq
  split at eq
  · cases eq
    exact lv_i2c hx hb hdg rfl (k al hL)
  · cases eq

theorem m_s_idiv (hdg : decode cc pc = .ok (.idiv, 1)) : m_Snd D cA ra B ro M cc nL ret own nm pc (m_div (fun a b => a / b)) := by
  refine m_pure (by
  intro ls st h x e
  unfold m_div at e
  (repeat' split at e) <;> first | (cases e; done) | (cases e; exact ⟨_, _, _, rfl⟩)) ?_
  intro p l e R s m args below meth c d h0 Q X ls st h pc1 ls1 st1 eq H locs al cells slots hS hH hro hL hcl hsl k
  obtain ⟨hx, hb, hml, hr, hown, hlk, hnm, hts, hW, hsz, hrl, hfr, hlo⟩ := X
  unfold m_div at eq
  split at eq
  · split at eq
    · cases eq
    · rename_i hne
      cases eq
      exact lv_idiv hx hb hdg hne (k al hL)
  · cases eq

theorem m_s_irem (hdg : decode cc pc = .ok (.irem, 1)) : m_Snd D cA ra B ro M cc nL ret own nm pc (m_div (fun a b => a - a / b * b)) := by
  refine m_pure (by
  intro ls st h x e
  unfold m_div at e
  (repeat' split at e) <;> first | (cases e; done) | (cases e; exact ⟨_, _, _, rfl⟩)) ?_
  intro p l e R s m args below meth c d h0 Q X ls st h pc1 ls1 st1 eq H locs al cells slots hS hH hro hL hcl hsl k
  obtain ⟨hx, hb, hml, hr, hown, hlk, hnm, hts, hW, hsz, hrl, hfr, hlo⟩ := X
  unfold m_div at eq
  split at eq
  · split at eq
    · cases eq
    · rename_i hne
      cases eq
      exact lv_irem hx hb hdg hne (k al hL)
  · cases eq

theorem m_s_dup (hdg : decode cc pc = .ok (.dup, 1)) : m_Snd D cA ra B ro M cc nL ret own nm pc (m_dup) := by
  refine m_pure (by
  intro ls st h x e
  unfold m_dup at e
  (repeat' split at e) <;> first | (cases e; done) | (cases e; exact ⟨_, _, _, rfl⟩)) ?_
  intro p l e R s m args below meth c d h0 Q X ls st h pc1 ls1 st1 eq H locs al cells slots hS hH hro hL hcl hsl k
  obtain ⟨hx, hb, hml, hr, hown, hlk, hnm, hts, hW, hsz, hrl, hfr, hlo⟩ := X
  unfold m_dup at eq
  split at eq
  · cases eq
    exact lv_dup hx hb hdg rfl (k al hL)
  · cases eq
    exact lv_dup hx hb hdg rfl (k al hL)
  · cases eq

theorem m_s_dup2 (hdg : decode cc pc = .ok (.dup2, 1)) : m_Snd D cA ra B ro M cc nL ret own nm pc (m_dup2) := by
  refine m_pure (by
  intro ls st h x e
  unfold m_dup2 at e
  (repeat' split at e) <;> first | (cases e; done) | (cases e; exact ⟨_, _, _, rfl⟩)) ?_
  intro p l e R s m args below meth c d h0 Q X ls st h pc1 ls1 st1 eq H locs al cells slots hS hH hro hL hcl hsl k
  obtain ⟨hx, hb, hml, hr, hown, hlk, hnm, hts, hW, hsz, hrl, hfr, hlo⟩ := X
  unfold m_dup2 at eq
  split at eq
  · cases eq
    exact lv_dup2_11 hx hb hdg rfl rfl (k al hL)
  · cases eq

theorem m_s_if_eq {off : Int} {t : Nat} (hdg : decode cc pc = .ok (.ifCond .eq off, 3)) (ht : (pc : Int) + off = (t : Int)) : m_Snd D cA ra B ro M cc nL ret own nm pc (m_if (fun x => x == 0) t) := by
  refine m_pure (by
  intro ls st h x e
  unfold m_if at e
  (repeat' split at e) <;> first | (cases e; done) | (cases e; exact ⟨_, _, _, rfl⟩)) ?_
  intro p l e R s m args below meth c d h0 Q X ls st h pc1 ls1 st1 eq H locs al cells slots hS hH hro hL hcl hsl k
  obtain ⟨hx, hb, hml, hr, hown, hlk, hnm, hts, hW, hsz, hrl, hfr, hlo⟩ := X
  unfold m_if at eq
  split at eq
  · rename_i x st2
    simp only [Option.some.injEq, Sum.inl.injEq, Prod.mk.injEq] at eq
    obtain ⟨e1, e2, e3, -⟩ := eq
    subst e2 e3
    refine lv_if_eq (tgt := t) hx hb hdg ht (fun hc => ?_) (fun hc => ?_)
    · rw [if_pos (by simpa using hc)] at e1
      subst e1
      exact k al hL
    · rw [if_neg (by simpa using hc)] at e1
      subst e1
      exact k al hL
  · cases eq

theorem m_s_icmp_eq {off : Int} {t : Nat} (hdg : decode cc pc = .ok (.if_icmp .eq off, 3)) (ht : (pc : Int) + off = (t : Int)) : m_Snd D cA ra B ro M cc nL ret own nm pc (m_icmp (fun x y => x == y) t) := by
  refine m_pure (by
  intro ls st h x e
  unfold m_icmp at e
  (repeat' split at e) <;> first | (cases e; done) | (cases e; exact ⟨_, _, _, rfl⟩)) ?_
  intro p l e R s m args below meth c d h0 Q X ls st h pc1 ls1 st1 eq H locs al cells slots hS hH hro hL hcl hsl k
  obtain ⟨hx, hb, hml, hr, hown, hlk, hnm, hts, hW, hsz, hrl, hfr, hlo⟩ := X
  unfold m_icmp at eq
  split at eq
  · rename_i y x st2
    simp only [Option.some.injEq, Sum.inl.injEq, Prod.mk.injEq] at eq
    obtain ⟨e1, e2, e3, -⟩ := eq
    subst e2 e3
    refine lv_icmp_eq (tgt := t) hx hb hdg ht (fun hc => ?_) (fun hc => ?_)
    · rw [if_pos (by simpa using hc)] at e1
      subst e1
      exact k al hL
    · rw [if_neg (by simpa using hc)] at e1
      subst e1
      exact k al hL
  · cases eq

theorem m_s_if_ne {off : Int} {t : Nat} (hdg : decode cc pc = .ok (.ifCond .ne off, 3)) (ht : (pc : Int) + off = (t : Int)) : m_Snd D cA ra B ro M cc nL ret own nm pc (m_if (fun x => !(x == 0)) t) := by
  refine m_pure (by
  intro ls st h x e
  unfold m_if at e
  (repeat' split at e) <;> first | (cases e; done) | (cases e; exact ⟨_, _, _, rfl⟩)) ?_
  intro p l e R s m args below meth c d h0 Q X ls st h pc1 ls1 st1 eq H locs al cells slots hS hH hro hL hcl hsl k
  obtain ⟨hx, hb, hml, hr, hown, hlk, hnm, hts, hW, hsz, hrl, hfr, hlo⟩ := X
  unfold m_if at eq
  split at eq
  · rename_i x st2
    simp only [Option.some.injEq, Sum.inl.injEq, Prod.mk.injEq] at eq
    obtain ⟨e1, e2, e3, -⟩ := eq
    subst e2 e3
    refine lv_if_ne (tgt := t) hx hb hdg ht (fun hc => ?_) (fun hc => ?_)
    · rw [if_pos (by simpa using hc)] at e1
      subst e1
      exact k al hL
    · rw [if_neg (by simpa using hc)] at e1
      subst e1
      exact k al hL
  · cases eq

theorem m_s_icmp_ne {off : Int} {t : Nat} (hdg : decode cc pc = .ok (.if_icmp .ne off, 3)) (ht : (pc : Int) + off = (t : Int)) : m_Snd D cA ra B ro M cc nL ret own nm pc (m_icmp (fun x y => !(x == y)) t) := by
  refine m_pure (by
  intro ls st h x e
  unfold m_icmp at e
  (repeat' split at e) <;> first | (cases e; done) | (cases e; exact ⟨_, _, _, rfl⟩)) ?_
  intro p l e R s m args below meth c d h0 Q X ls st h pc1 ls1 st1 eq H locs al cells slots hS hH hro hL hcl hsl k
  obtain ⟨hx, hb, hml, hr, hown, hlk, hnm, hts, hW, hsz, hrl, hfr, hlo⟩ := X
  unfold m_icmp at eq
  split at eq
  · rename_i y x st2
    simp only [Option.some.injEq, Sum.inl.injEq, Prod.mk.injEq] at eq
    obtain ⟨e1, e2, e3, -⟩ := eq
    subst e2 e3
    refine lv_icmp_ne (tgt := t) hx hb hdg ht (fun hc => ?_) (fun hc => ?_)
    · rw [if_pos (by simpa using hc)] at e1
      subst e1
      exact k al hL
    · rw [if_neg (by simpa using hc)] at e1
      subst e1
      exact k al hL
  · cases eq

theorem m_s_if_lt {off : Int} {t : Nat} (hdg : decode cc pc = .ok (.ifCond .lt off, 3)) (ht : (pc : Int) + off = (t : Int)) : m_Snd D cA ra B ro M cc nL ret own nm pc (m_if (fun x => decide (x < 0)) t) := by
  refine m_pure (by
  intro ls st h x e
  unfold m_if at e
  (repeat' split at e) <;> first | (cases e; done) | (cases e; exact ⟨_, _, _, rfl⟩)) ?_
  intro p l e R s m args below meth c d h0 Q X ls st h pc1 ls1 st1 eq H locs al cells slots hS hH hro hL hcl hsl k
  obtain ⟨hx, hb, hml, hr, hown, hlk, hnm, hts, hW, hsz, hrl, hfr, hlo⟩ := X
  unfold m_if at eq
  split at eq
  · rename_i x st2
    simp only [Option.some.injEq, Sum.inl.injEq, Prod.mk.injEq] at eq
    obtain ⟨e1, e2, e3, -⟩ := eq
    subst e2 e3
    refine lv_if_lt (tgt := t) hx hb hdg ht (fun hc => ?_) (fun hc => ?_)
    · rw [if_pos (by simpa using hc)] at e1
      subst e1
      exact k al hL
    · rw [if_neg (by simpa using hc)] at e1
      subst e1
      exact k al hL
  · cases eq

theorem m_s_icmp_lt {off : Int} {t : Nat} (hdg : decode cc pc = .ok (.if_icmp .lt off, 3)) (ht : (pc : Int) + off = (t : Int)) : m_Snd D cA ra B ro M cc nL ret own nm pc (m_icmp (fun x y => decide (x < y)) t) := by
  refine m_pure (by
  intro ls st h x e
  unfold m_icmp at e
  (repeat' split at e) <;> first | (cases e; done) | (cases e; exact ⟨_, _, _, rfl⟩)) ?_
  intro p l e R s m args below meth c d h0 Q X ls st h pc1 ls1 st1 eq H locs al cells slots hS hH hro hL hcl hsl k
  obtain ⟨hx, hb, hml, hr, hown, hlk, hnm, hts, hW, hsz, hrl, hfr, hlo⟩ := X
  unfold m_icmp at eq
  split at eq
  · rename_i y x st2
    simp only [Option.some.injEq, Sum.inl.injEq, Prod.mk.injEq] at eq
    obtain ⟨e1, e2, e3, -⟩ := eq
    subst e2 e3
    refine lv_icmp_lt (tgt := t) hx hb hdg ht (fun hc => ?_) (fun hc => ?_)
    · rw [if_pos (by simpa using hc)] at e1
      subst e1
      exact k al hL
    · rw [if_neg (by simpa using hc)] at e1
      subst e1
      exact k al hL
  · cases eq

theorem m_s_if_ge {off : Int} {t : Nat} (hdg : decode cc pc = .ok (.ifCond .ge off, 3)) (ht : (pc : Int) + off = (t : Int)) : m_Snd D cA ra B ro M cc nL ret own nm pc (m_if (fun x => decide (0 ≤ x)) t) := by
  refine m_pure (by
  intro ls st h x e
  unfold m_if at e
  (repeat' split at e) <;> first | (cases e; done) | (cases e; exact ⟨_, _, _, rfl⟩)) ?_
  intro p l e R s m args below meth c d h0 Q X ls st h pc1 ls1 st1 eq H locs al cells slots hS hH hro hL hcl hsl k
  obtain ⟨hx, hb, hml, hr, hown, hlk, hnm, hts, hW, hsz, hrl, hfr, hlo⟩ := X
  unfold m_if at eq
  split at eq
  · rename_i x st2
    simp only [Option.some.injEq, Sum.inl.injEq, Prod.mk.injEq] at eq
    obtain ⟨e1, e2, e3, -⟩ := eq
    subst e2 e3
    refine lv_if_ge (tgt := t) hx hb hdg ht (fun hc => ?_) (fun hc => ?_)
    · rw [if_pos (by simpa using hc)] at e1
      subst e1
      exact k al hL
    · rw [if_neg (by simpa using hc)] at e1
      subst e1
      exact k al hL
  · cases eq

theorem m_s_icmp_ge {off : Int} {t : Nat} (hdg : decode cc pc = .ok (.if_icmp .ge off, 3)) (ht : (pc : Int) + off = (t : Int)) : m_Snd D cA ra B ro M cc nL ret own nm pc (m_icmp (fun x y => decide (y ≤ x)) t) := by
  refine m_pure (by
  intro ls st h x e
  unfold m_icmp at e
  (repeat' split at e) <;> first | (cases e; done) | (cases e; exact ⟨_, _, _, rfl⟩)) ?_
  intro p l e R s m args below meth c d h0 Q X ls st h pc1 ls1 st1 eq H locs al cells slots hS hH hro hL hcl hsl k
  obtain ⟨hx, hb, hml, hr, hown, hlk, hnm, hts, hW, hsz, hrl, hfr, hlo⟩ := X
  unfold m_icmp at eq
  split at eq
  · rename_i y x st2
    simp only [Option.some.injEq, Sum.inl.injEq, Prod.mk.injEq] at eq
    obtain ⟨e1, e2, e3, -⟩ := eq
    subst e2 e3
    refine lv_icmp_ge (tgt := t) hx hb hdg ht (fun hc => ?_) (fun hc => ?_)
    · rw [if_pos (by simpa using hc)] at e1
      subst e1
      exact k al hL
    · rw [if_neg (by simpa using hc)] at e1
      subst e1
      exact k al hL
  · cases eq

theorem m_s_if_gt {off : Int} {t : Nat} (hdg : decode cc pc = .ok (.ifCond .gt off, 3)) (ht : (pc : Int) + off = (t : Int)) : m_Snd D cA ra B ro M cc nL ret own nm pc (m_if (fun x => decide (0 < x)) t) := by
  refine m_pure (by
  intro ls st h x e
  unfold m_if at e
  (repeat' split at e) <;> first | (cases e; done) | (cases e; exact ⟨_, _, _, rfl⟩)) ?_
  intro p l e R s m args below meth c d h0 Q X ls st h pc1 ls1 st1 eq H locs al cells slots hS hH hro hL hcl hsl k
  obtain ⟨hx, hb, hml, hr, hown, hlk, hnm, hts, hW, hsz, hrl, hfr, hlo⟩ := X
  unfold m_if at eq
  split at eq
  · rename_i x st2
    simp only [Option.some.injEq, Sum.inl.injEq, Prod.mk.injEq] at eq
    obtain ⟨e1, e2, e3, -⟩ := eq
    subst e2 e3
    refine lv_if_gt (tgt := t) hx hb hdg ht (fun hc => ?_) (fun hc => ?_)
    · rw [if_pos (by simpa using hc)] at e1
      subst e1
      exact k al hL
    · rw [if_neg (by simpa using hc)] at e1
      subst e1
      exact k al hL
  · cases eq

theorem m_s_icmp_gt {off : Int} {t : Nat} (hdg : decode cc pc = .ok (.if_icmp .gt off, 3)) (ht : (pc : Int) + off = (t : Int)) : m_Snd D cA ra B ro M cc nL ret own nm pc (m_icmp (fun x y => decide (y < x)) t) := by
  refine m_pure (by
  intro ls st h x e
  unfold m_icmp at e
  (repeat' split at e) <;> first | (cases e; done) | (cases e; exact ⟨_, _, _, rfl⟩)) ?_
  intro p l e R s m args below meth c d h0 Q X ls st h pc1 ls1 st1 eq H locs al cells slots hS hH hro hL hcl hsl k
  obtain ⟨hx, hb, hml, hr, hown, hlk, hnm, hts, hW, hsz, hrl, hfr, hlo⟩ := X
  unfold m_icmp at eq
  split at eq
  · rename_i y x st2
    simp only [Option.some.injEq, Sum.inl.injEq, Prod.mk.injEq] at eq
    obtain ⟨e1, e2, e3, -⟩ := eq
    subst e2 e3
    refine lv_icmp_gt (tgt := t) hx hb hdg ht (fun hc => ?_) (fun hc => ?_)
    · rw [if_pos (by simpa using hc)] at e1
      subst e1
      exact k al hL
    · rw [if_neg (by simpa using hc)] at e1
      subst e1
      exact k al hL
  · cases eq

theorem m_s_if_le {off : Int} {t : Nat} (hdg : decode cc pc = .ok (.ifCond .le off, 3)) (ht : (pc : Int) + off = (t : Int)) : m_Snd D cA ra B ro M cc nL ret own nm pc (m_if (fun x => decide (x ≤ 0)) t) := by
  refine m_pure (by
  intro ls st h x e
  unfold m_if at e
  (repeat' split at e) <;> first | (cases e; done) | (cases e; exact ⟨_, _, _, rfl⟩)) ?_
  intro p l e R s m args below meth c d h0 Q X ls st h pc1 ls1 st1 eq H locs al cells slots hS hH hro hL hcl hsl k
  obtain ⟨hx, hb, hml, hr, hown, hlk, hnm, hts, hW, hsz, hrl, hfr, hlo⟩ := X
  unfold m_if at eq
  split at eq
  · rename_i x st2
    simp only [Option.some.injEq, Sum.inl.injEq, Prod.mk.injEq] at eq
    obtain ⟨e1, e2, e3, -⟩ := eq
    subst e2 e3
    refine lv_if_le (tgt := t) hx hb hdg ht (fun hc => ?_) (fun hc => ?_)
    · rw [if_pos (by simpa using hc)] at e1
      subst e1
      exact k al hL
    · rw [if_neg (by simpa using hc)] at e1
      subst e1
      exact k al hL
  · cases eq

theorem m_s_icmp_le {off : Int} {t : Nat} (hdg : decode cc pc = .ok (.if_icmp .le off, 3)) (ht : (pc : Int) + off = (t : Int)) : m_Snd D cA ra B ro M cc nL ret own nm pc (m_icmp (fun x y => decide (x ≤ y)) t) := by
  refine m_pure (by
  intro ls st h x e
  unfold m_icmp at e
  (repeat' split at e) <;> first | (cases e; done) | (cases e; exact ⟨_, _, _, rfl⟩)) ?_
  intro p l e R s m args below meth c d h0 Q X ls st h pc1 ls1 st1 eq H locs al cells slots hS hH hro hL hcl hsl k
  obtain ⟨hx, hb, hml, hr, hown, hlk, hnm, hts, hW, hsz, hrl, hfr, hlo⟩ := X
  unfold m_icmp at eq
  split at eq
  · rename_i y x st2
    simp only [Option.some.injEq, Sum.inl.injEq, Prod.mk.injEq] at eq
    obtain ⟨e1, e2, e3, -⟩ := eq
    subst e2 e3
    refine lv_icmp_le (tgt := t) hx hb hdg ht (fun hc => ?_) (fun hc => ?_)
    · rw [if_pos (by simpa using hc)] at e1
      subst e1
      exact k al hL
    · rw [if_neg (by simpa using hc)] at e1
      subst e1
      exact k al hL
  · cases eq

theorem m_s_ifnull {off : Int} {t : Nat} (hdg : decode cc pc = .ok (.ifnull off, 3)) (ht : (pc : Int) + off = (t : Int)) : m_Snd D cA ra B ro M cc nL ret own nm pc (m_ifnull t) := by
  refine m_pure (by
  intro ls st h x e
  unfold m_ifnull at e
  (repeat' split at e) <;> first | (cases e; done) | (cases e; exact ⟨_, _, _, rfl⟩)) ?_
  intro p l e R s m args below meth c d h0 Q X ls st h pc1 ls1 st1 eq H locs al cells slots hS hH hro hL hcl hsl k
  obtain ⟨hx, hb, hml, hr, hown, hlk, hnm, hts, hW, hsz, hrl, hfr, hlo⟩ := X
  unfold m_ifnull at eq
  split at eq
  · cases eq
    exact lv_ifnullN hx hb hdg ht (k al hL)
  · cases eq
    exact lv_ifnull hx hb hdg (k al hL)
  · cases eq

theorem m_s_ifnonnull {off : Int} {t : Nat} (hdg : decode cc pc = .ok (.ifnonnull off, 3)) (ht : (pc : Int) + off = (t : Int)) : m_Snd D cA ra B ro M cc nL ret own nm pc (m_ifnonnull t) := by
  refine m_pure (by
  intro ls st h x e
  unfold m_ifnonnull at e
  (repeat' split at e) <;> first | (cases e; done) | (cases e; exact ⟨_, _, _, rfl⟩)) ?_
  intro p l e R s m args below meth c d h0 Q X ls st h pc1 ls1 st1 eq H locs al cells slots hS hH hro hL hcl hsl k
  obtain ⟨hx, hb, hml, hr, hown, hlk, hnm, hts, hW, hsz, hrl, hfr, hlo⟩ := X
  unfold m_ifnonnull at eq
  split at eq
  · cases eq
    exact lv_ifnonnullN hx hb hdg (k al hL)
  · cases eq
    exact lv_ifnonnull hx hb hdg ht (k al hL)
  · cases eq

theorem m_s_goto {off : Int} {t : Nat} (hdg : decode cc pc = .ok (.goto off, 3)) (ht : (pc : Int) + off = (t : Int)) : m_Snd D cA ra B ro M cc nL ret own nm pc (m_goto t) := by
  refine m_pure (by
  intro ls st h x e
  unfold m_goto at e
  (repeat' split at e) <;> first | (cases e; done) | (cases e; exact ⟨_, _, _, rfl⟩)) ?_
  intro p l e R s m args below meth c d h0 Q X ls st h pc1 ls1 st1 eq H locs al cells slots hS hH hro hL hcl hsl k
  obtain ⟨hx, hb, hml, hr, hown, hlk, hnm, hts, hW, hsz, hrl, hfr, hlo⟩ := X
  unfold m_goto at eq
  cases eq
  exact lv_goto hx hb hdg ht (k al hL)

theorem m_s_tsw {dflt lo hi : Int} {offs : Array Int} {len t0 : Nat} {tg : List Nat} (hdg : decode cc pc = .ok (.tableswitch dflt lo hi offs, len)) (hlen : (tg.length : Int) = hi - lo + 1) (ht : (pc : Int) + dflt = (t0 : Int)) (hof : ∀ i, i < tg.length → offs[i]? = some (((tg.getD i 0 : Nat) : Int) - (pc : Int))) : m_Snd D cA ra B ro M cc nL ret own nm pc (m_tsw lo hi t0 tg) := by
  refine m_pure (by
  intro ls st h x e
  unfold m_tsw at e
  (repeat' split at e) <;> first | (cases e; done) | (cases e; exact ⟨_, _, _, rfl⟩)) ?_
  intro p l e R s m args below meth c d h0 Q X ls st h pc1 ls1 st1 eq H locs al cells slots hS hH hro hL hcl hsl k
  obtain ⟨hx, hb, hml, hr, hown, hlk, hnm, hts, hW, hsz, hrl, hfr, hlo⟩ := X
  unfold m_tsw at eq
  split at eq
  · rename_i x st2
    simp only [Option.some.injEq, Sum.inl.injEq, Prod.mk.injEq] at eq
    obtain ⟨e1, e2, e3, -⟩ := eq
    subst e2 e3
    by_cases hc : x.toInt < lo ∨ hi < x.toInt
    · rw [if_pos hc] at e1
      subst e1
      exact lv_tableOut hx hb hdg hc ht (k al hL)
    · rw [if_neg hc] at e1
      subst e1
      have h1 : ¬ x.toInt < lo := fun z => hc (Or.inl z)
      have h2 : ¬ hi < x.toInt := fun z => hc (Or.inr z)
      have g1 := hof (x.toInt - lo).toNat (by omega)
      exact lv_tableIn hx hb hdg h1 h2 g1 (by omega) (k al hL)
  · cases eq

theorem m_s_lsw {dflt : Int} {ps : Array (Int × Int)} {len t0 t1 td : Nat} {lo hi : Int32} {a0 a1 : Int} (hdg : decode cc pc = .ok (.lookupswitch dflt ps, len)) (hps : ps.toList = [(lo.toInt, a0), (hi.toInt, a1)]) (hlt : lo.toInt < hi.toInt) (g0 : (pc : Int) + a0 = (t0 : Int)) (g1 : (pc : Int) + a1 = (t1 : Int)) (gd : (pc : Int) + dflt = (td : Int)) : m_Snd D cA ra B ro M cc nL ret own nm pc (m_lsw lo hi td t0 t1) := by
  refine m_pure (by
  intro ls st h x e
  unfold m_lsw at e
  (repeat' split at e) <;> first | (cases e; done) | (cases e; exact ⟨_, _, _, rfl⟩)) ?_
  intro p l e R s m args below meth c d h0 Q X ls st h pc1 ls1 st1 eq H locs al cells slots hS hH hro hL hcl hsl k
  obtain ⟨hx, hb, hml, hr, hown, hlk, hnm, hts, hW, hsz, hrl, hfr, hlo⟩ := X
  unfold m_lsw at eq
  split at eq
  · rename_i x st2
    simp only [Option.some.injEq, Sum.inl.injEq, Prod.mk.injEq] at eq
    obtain ⟨e1, e2, e3, -⟩ := eq
    subst e2 e3
    have hp : (ps.toList.zip (ps.toList.drop 1)).all (fun (a, next) => a.1 < next.1) = true := by rw [hps]; simp [hlt]
    by_cases hc : x = lo
    · rw [if_pos hc] at e1
      subst e1
      subst hc
      exact lv_lookup (off := a0) hx hb hdg hp (by rw [hps]; simp [Op.lookupswitch.offset]) g0 (k al hL)
    · rw [if_neg hc] at e1
      have n1 : ¬ x.toInt = lo.toInt := fun z => hc (Int32.toInt_inj.mp z)
      by_cases hc2 : x = hi
      · rw [if_pos hc2] at e1
        subst e1
        subst hc2
        exact lv_lookup (off := a1) hx hb hdg hp (by rw [hps]; simp [Op.lookupswitch.offset, Ne.symm n1]) g1 (k al hL)
      · rw [if_neg hc2] at e1
        subst e1
        have n2 : ¬ x.toInt = hi.toInt := fun z => hc2 (Int32.toInt_inj.mp z)
        exact lv_lookup (off := dflt) hx hb hdg hp (by rw [hps]; simp [Op.lookupswitch.offset, Ne.symm n1, Ne.symm n2]) gd (k al hL)
  · cases eq

theorem m_s_i2f (hdg : decode cc pc = .ok (.i2f, 1)) : m_Snd D cA ra B ro M cc nL ret own nm pc (m_i2f) := by
  refine m_pure (by
  intro ls st h x e
  unfold m_i2f at e
  (repeat' split at e) <;> first | (cases e; done) | (cases e; exact ⟨_, _, _, rfl⟩)) ?_
  intro p l e R s m args below meth c d h0 Q X ls st h pc1 ls1 st1 eq H locs al cells slots hS hH hro hL hcl hsl k
  obtain ⟨hx, hb, hml, hr, hown, hlk, hnm, hts, hW, hsz, hrl, hfr, hlo⟩ := X
  unfold m_i2f at eq
  split at eq
  · cases eq
    exact lv_i2f hx hb hdg (k al hL)
  · cases eq

theorem m_s_fadd (hdg : decode cc pc = .ok (.fadd, 1)) : m_Snd D cA ra B ro M cc nL ret own nm pc (m_fbin FP.fadd) := by
  refine m_pure (by
  intro ls st h x e
  unfold m_fbin at e
  (repeat' split at e) <;> first | (cases e; done) | (cases e; exact ⟨_, _, _, rfl⟩)) ?_
  intro p l e R s m args below meth c d h0 Q X ls st h pc1 ls1 st1 eq H locs al cells slots hS hH hro hL hcl hsl k
  obtain ⟨hx, hb, hml, hr, hown, hlk, hnm, hts, hW, hsz, hrl, hfr, hlo⟩ := X
  unfold m_fbin at eq
  split at eq
  · split at eq
    · rename_i hne
      cases eq
      exact lv_fadd hx hb hdg hne (k al hL)
    · cases eq
  · cases eq

theorem m_s_fdiv (hdg : decode cc pc = .ok (.fdiv, 1)) : m_Snd D cA ra B ro M cc nL ret own nm pc (m_fbin FP.fdiv) := by
  refine m_pure (by
  intro ls st h x e
  unfold m_fbin at e
  (repeat' split at e) <;> first | (cases e; done) | (cases e; exact ⟨_, _, _, rfl⟩)) ?_
  intro p l e R s m args below meth c d h0 Q X ls st h pc1 ls1 st1 eq H locs al cells slots hS hH hro hL hcl hsl k
  obtain ⟨hx, hb, hml, hr, hown, hlk, hnm, hts, hW, hsz, hrl, hfr, hlo⟩ := X
  unfold m_fbin at eq
  split at eq
  · split at eq
    · rename_i hne
      cases eq
      exact lv_fdiv hx hb hdg hne (k al hL)
    · cases eq
  · cases eq

theorem m_s_f2d (hdg : decode cc pc = .ok (.f2d, 1)) : m_Snd D cA ra B ro M cc nL ret own nm pc (m_f2d) := by
  refine m_pure (by
  intro ls st h x e
  unfold m_f2d at e
  (repeat' split at e) <;> first | (cases e; done) | (cases e; exact ⟨_, _, _, rfl⟩)) ?_
  intro p l e R s m args below meth c d h0 Q X ls st h pc1 ls1 st1 eq H locs al cells slots hS hH hro hL hcl hsl k
  obtain ⟨hx, hb, hml, hr, hown, hlk, hnm, hts, hW, hsz, hrl, hfr, hlo⟩ := X
  unfold m_f2d at eq
  split at eq
  · split at eq
    · rename_i hne
      cases eq
      exact lv_f2d hx hb hdg hne (k al hL)
    · cases eq
  · cases eq

theorem m_s_dcmp {op : CmpOp} (hdg : decode cc pc = .ok (.dcmp op, 1)) : m_Snd D cA ra B ro M cc nL ret own nm pc (m_dcmp op) := by
  refine m_pure (by
  intro ls st h x e
  unfold m_dcmp at e
  (repeat' split at e) <;> first | (cases e; done) | (cases e; exact ⟨_, _, _, rfl⟩)) ?_
  intro p l e R s m args below meth c d h0 Q X ls st h pc1 ls1 st1 eq H locs al cells slots hS hH hro hL hcl hsl k
  obtain ⟨hx, hb, hml, hr, hown, hlk, hnm, hts, hW, hsz, hrl, hfr, hlo⟩ := X
  unfold m_dcmp at eq
  split at eq
  · cases eq
    exact lv_dcmp hx hb hdg (k al hL)
  · cases eq

theorem m_s_fcmp {op : CmpOp} (hdg : decode cc pc = .ok (.fcmp op, 1)) : m_Snd D cA ra B ro M cc nL ret own nm pc (m_fcmp op) := by
  refine m_pure (by
  intro ls st h x e
  unfold m_fcmp at e
  (repeat' split at e) <;> first | (cases e; done) | (cases e; exact ⟨_, _, _, rfl⟩)) ?_
  intro p l e R s m args below meth c d h0 Q X ls st h pc1 ls1 st1 eq H locs al cells slots hS hH hro hL hcl hsl k
  obtain ⟨hx, hb, hml, hr, hown, hlk, hnm, hts, hW, hsz, hrl, hfr, hlo⟩ := X
  unfold m_fcmp at eq
  split at eq
  · cases eq
    exact lv_fcmp hx hb hdg (k al hL)
  · cases eq

theorem m_s_i2l (hdg : decode cc pc = .ok (.i2l, 1)) : m_Snd D cA ra B ro M cc nL ret own nm pc (m_i2l) := by
  refine m_pure (by
  intro ls st h x e
  unfold m_i2l at e
  (repeat' split at e) <;> first | (cases e; done) | (cases e; exact ⟨_, _, _, rfl⟩)) ?_
  intro p l e R s m args below meth c d h0 Q X ls st h pc1 ls1 st1 eq H locs al cells slots hS hH hro hL hcl hsl k
  obtain ⟨hx, hb, hml, hr, hown, hlk, hnm, hts, hW, hsz, hrl, hfr, hlo⟩ := X
  unfold m_i2l at eq
  split at eq
  · cases eq
    exact lv_i2l hx hb hdg rfl (k al hL)
  · cases eq

theorem m_s_ladd (hdg : decode cc pc = .ok (.ladd, 1)) : m_Snd D cA ra B ro M cc nL ret own nm pc (m_lbin (fun a b => a + b)) := by
  refine m_pure (by
  intro ls st h x e
  unfold m_lbin at e
  (repeat' split at e) <;> first | (cases e; done) | (cases e; exact ⟨_, _, _, rfl⟩)) ?_
  intro p l e R s m args below meth c d h0 Q X ls st h pc1 ls1 st1 eq H locs al cells slots hS hH hro hL hcl hsl k
  obtain ⟨hx, hb, hml, hr, hown, hlk, hnm, hts, hW, hsz, hrl, hfr, hlo⟩ := X
  unfold m_lbin at eq
  split at eq
  · cases eq
    exact lv_ladd hx hb hdg (k al hL)
  · cases eq

theorem m_s_lmul (hdg : decode cc pc = .ok (.lmul, 1)) : m_Snd D cA ra B ro M cc nL ret own nm pc (m_lbin (fun a b => a * b)) := by
  refine m_pure (by
  intro ls st h x e
  unfold m_lbin at e
  (repeat' split at e) <;> first | (cases e; done) | (cases e; exact ⟨_, _, _, rfl⟩)) ?_
  intro p l e R s m args below meth c d h0 Q X ls st h pc1 ls1 st1 eq H locs al cells slots hS hH hro hL hcl hsl k
  obtain ⟨hx, hb, hml, hr, hown, hlk, hnm, hts, hW, hsz, hrl, hfr, hlo⟩ := X
  unfold m_lbin at eq
  split at eq
  · cases eq
    exact lv_lmul hx hb hdg (k al hL)
  · cases eq

theorem m_s_lcmp (hdg : decode cc pc = .ok (.lcmp, 1)) : m_Snd D cA ra B ro M cc nL ret own nm pc (m_lcmp) := by
  refine m_pure (by
  intro ls st h x e
  unfold m_lcmp at e
  (repeat' split at e) <;> first | (cases e; done) | (cases e; exact ⟨_, _, _, rfl⟩)) ?_
  intro p l e R s m args below meth c d h0 Q X ls st h pc1 ls1 st1 eq H locs al cells slots hS hH hro hL hcl hsl k
  obtain ⟨hx, hb, hml, hr, hown, hlk, hnm, hts, hW, hsz, hrl, hfr, hlo⟩ := X
  unfold m_lcmp at eq
  split at eq
  · cases eq
    exact W.lcmp hx hb hdg (k al hL)
  · cases eq

end
end
section
/-! instructions that read and write cells, make them, call and return -/
theorem m_Wsize {p : Program} {l : Launch} {e : Env} {R : Room} {s : State} {m : MethodId} {args : Array Value} {below : List Frame} {meth : Method} {c : Code} {H : Heap} {locs : List Loc} {cells slots : Nat} {Q : State → Prop} {g : JFrame} (k : H.size ≤ s.heap.size + cells → W p l e R s m args below meth c H locs cells slots Q g) : W p l e R s m args below meth c H locs cells slots Q g := fun T hT X => k (by rw [← hT]; exact X.heapSize) T hT X
theorem m_S2 {A : Nat → Prop} {H0 H H1 : Heap} {locs locs1 : List Loc} (h : va_S A H0 H locs) (h1 : va_S A H H1 locs1) : va_S A H0 H1 locs1 := ⟨Nat.le_trans h.1 h1.1, fun q g1 g2 => (h1.2.1 q (Nat.lt_of_lt_of_le g1 h.1) g2).trans (h.2.1 q g1 g2), h1.2.2⟩
theorem m_S0 {A : Nat → Prop} {H0 H : Heap} {locs : List Loc} (h : va_S A H0 H locs) : va_S A H H locs := ⟨Nat.le_refl _, fun _ _ _ => rfl, h.2.2⟩
theorem m_Rd.ro {ro : List (List Int32)} {h : m_Hp} {a : Nat} {x : m_Cel} (hro : m_Rd ro h) (ha : a < 4) (hx : h[a]? = some x) : ∃ xs, ro[a]? = some xs ∧ x = .inl (0, xs) := by
  have h1 : (h.take 4)[a]? = some x := by rw [List.getElem?_take_of_lt ha]; exact hx
  rw [hro, List.getElem?_map] at h1
  cases hr : ro[a]? with
  | none => rw [hr] at h1; cases h1
  | some xs => rw [hr] at h1; cases h1; exact ⟨xs, rfl, rfl⟩
theorem m_Rd.mono {ro : List (List Int32)} {h h1 : m_Hp} (hm : m_mono h h1) (hro : m_Rd ro h) : m_Rd ro h1 := hm.2.2.trans hro
section
variable {D : va_G} {cA : Nat → ClassId} {ra : Nat → Nat} {B : Nat} {ro : List (List Int32)} {M : List m_Mt} {cc : ByteArray} {nL : Nat} {ret : Option FieldType} {own nm : String} {pc : Nat} {o : m_Op}
theorem m_ad4 {a : Nat} (h : a < 4) : m_ad ra B a = ra a := if_pos h
/-- an instruction that goes on, and may move the heap -/
theorem m_heap (hn : ∀ (ls : m_Ls) (st : List Value) (h : m_Hp) (x : m_Res), o pc ls st h = some x → ∃ y, x = .inl y)
    (hm : ∀ (ls : m_Ls) (st : List Value) (h : m_Hp) (pc1 : Nat) (ls1 : m_Ls) (st1 : List Value) (h1 : m_Hp), o pc ls st h = some (.inl (pc1, ls1, st1, h1)) → 4 ≤ h.length → m_mono h h1)
    (hz : ∀ (p : Program) (l : Launch) (e : Env) (R : Room) (s : State) (m : MethodId) (args : Array Value) (below : List Frame) (meth : Method) (c : Code) (d : Nat) (h0 : m_Hp) (Q : State → Prop), m_Cx D cA ra B ro p R s m args meth c cc nL ret own nm d h0 →
      ∀ (ls : m_Ls) (st : List Value) (h : m_Hp) (pc1 : Nat) (ls1 : m_Ls) (st1 : List Value) (h1 : m_Hp), o pc ls st h = some (.inl (pc1, ls1, st1, h1)) → 4 ≤ h.length → m_mono h h1 → m_mono h0 h → m_Rm R h0 h1 → ∀ (H : Heap) (locs : List Loc) (al : Array Slot), va_S (m_A B) s.heap H locs → m_Hd D cA ra B h H → m_Rd ro h → m_Lv ra B al nL ls → H.size + 4 = B + h.length →
        (∀ (H1 : Heap) (locs1 : List Loc), va_S (m_A B) s.heap H1 locs1 → m_Hd D cA ra B h1 H1 → ∀ al1, m_Lv ra B al1 nL ls1 → W p l e R s m args below meth c H1 locs1 (h1.length - h0.length) (m_sz h1 - m_sz h0) Q (F0 m pc1 al1 (st1.map (m_cv ra B)))) → W p l e R s m args below meth c H locs (h.length - h0.length) (m_sz h - m_sz h0) Q (F0 m pc al (st.map (m_cv ra B)))) : m_Snd D cA ra B ro M cc nL ret own nm pc o := by
  refine ⟨⟨hm, fun ls st h v eq => ?_⟩, ?_⟩
  · obtain ⟨y, q⟩ := hn ls st h _ eq
    cases q
  intro p l e R s m args below meth c d h0 Q X
  refine ⟨fun ls st h pc1 ls1 st1 h1 eq h4 => ?_, fun ls st h z as rest r1 h1 eq => ?_, fun ls st h v eq => ?_⟩
  · have hmm := hm ls st h pc1 ls1 st1 h1 eq h4
    intro hm0 hR k H locs al hS hH hro hL
    refine m_Wsize fun hup => ?_
    have hsz := X.2.2.2.2.2.2.2.2.2.1
    have h5 := hm0.1
    have h6 := hH.2
    exact hz p l e R s m args below meth c d h0 Q X ls st h pc1 ls1 st1 h1 eq h4 hmm hm0 hR H locs al hS hH hro hL (by omega) (fun H1 locs1 hS1 hH1 al1 hL1 => k H1 locs1 al1 hS1 hH1 (hro.mono hmm) hL1)
  · obtain ⟨y, q⟩ := hn ls st h _ eq
    cases q
  · obtain ⟨y, q⟩ := hn ls st h _ eq
    cases q
theorem m_bif {c : Bool} {x y : m_Res} (h : (bif c then some x else none) = some y) : c = true ∧ y = x := by
  cases c with
  | false => cases h
  | true => cases h; exact ⟨rfl, rfl⟩
theorem m_beq {a b : Nat} (h : Nat.beq a b = true) : a = b := Nat.eq_of_beq_eq_true h
theorem m_blt {a b : Nat} (h : Nat.blt a b = true) : a < b := by rw [Nat.blt_eq] at h; exact h
theorem m_s_get {ci k N idx : Nat} {C : String} {T : u_T} (hc : vwCl[ci]? = some (C, T, N)) (hk : k < N) (hin : ∀ w ∈ u_ws C T N, w ∈ m_gd) (hC : (T k).1 = C) (hw : Cond.fieldLink own idx C (T k).2.1 (T k).2.2.1 ∈ m_gd) (hdg : decode cc pc = .ok (.getfield idx, 3)) : m_Snd D cA ra B ro M cc nL ret own nm pc (m_get ci k) := by
  refine m_pure (fun ls st h x e => ?_) ?_
  · unfold m_get at e
    (repeat' split at e) <;> first | (cases e; done) | (obtain ⟨_, rfl⟩ := m_bif e; exact ⟨_, _, _, rfl⟩)
  intro p l e R s m args below meth c d h0 Q X ls st h pc1 ls1 st1 eq H locs al cells slots hS hH hro hL hcl hsl kk
  obtain ⟨hx, hb, hml, hr, hown, hlk, hnm, hts, hW, hsz, hrl, hfr, hlo⟩ := X
  unfold m_get at eq
  split at eq
  · rename_i a st2
    split at eq
    · rename_i cj fs hh
      split at eq
      · rename_i v hv
        obtain ⟨hq, e3⟩ := m_bif eq
        cases e3
        rw [Bool.and_eq_true] at hq
        have e1 := m_beq hq.1
        subst e1
        have h3 := m_blt hq.2
        exact va_get (D := D) hx hb hts hin hown hW.1 hH.1 (a - 4) (m_ws_get hh h3) hc k hk (hts _ hw) (fun x hx => by rw [← hC]; exact hx) (v := m_cv ra B v) (by rw [List.getElem?_map, hv]; rfl) hdg (kk al hL)
      · cases eq
    · cases eq
  · cases eq
theorem m_put_spec {ci k ty : Nat} {ls : m_Ls} {st : List Value} {h : m_Hp} {x : m_Res} (e : m_put ci k ty pc ls st h = some x) : ∃ v a st2 fs, st = v :: .ref a :: st2 ∧ h[a]? = some (.inr (.inl (ci, fs))) ∧ 3 < a ∧ m_fit ty v = true ∧ k < fs.length ∧ x = .inl (pc + 3, ls, st2, h.set a (.inr (.inl (ci, fs.set k v)))) := by
  unfold m_put at e
  split at e
  · rename_i v a st2
    split at e
    · rename_i cj fs hh
      obtain ⟨hq, e3⟩ := m_bif e
      rw [Bool.and_eq_true, Bool.and_eq_true, Bool.and_eq_true] at hq
      obtain ⟨⟨⟨q1, q2⟩, q3⟩, q4⟩ := hq
      have e1 := m_beq q1
      subst e1
      exact ⟨v, a, st2, fs, rfl, hh, m_blt q2, q3, m_blt q4, e3⟩
    · cases e
  · cases e
theorem m_put_n {ci k ty : Nat} (ls : m_Ls) (st : List Value) (h : m_Hp) (x : m_Res) (e : m_put ci k ty pc ls st h = some x) : ∃ y, x = .inl y := by
  obtain ⟨v, a, st2, fs, -, -, -, -, -, q⟩ := m_put_spec e
  exact ⟨_, q⟩
theorem m_put_m {ci k ty : Nat} (ls : m_Ls) (st : List Value) (h : m_Hp) (pc1 : Nat) (ls1 : m_Ls) (st1 : List Value) (h1 : m_Hp) (e : m_put ci k ty pc ls st h = some (.inl (pc1, ls1, st1, h1))) (_ : 4 ≤ h.length) : m_mono h h1 := by
  obtain ⟨v, a, st2, fs, -, hh, h3, -, -, q⟩ := m_put_spec e
  cases q
  exact m_mono.set hh h3 (by simp [m_csz])
/-- what fits a field -/
def m_ft (ty : Nat) (f : FieldType) : Prop := ∀ (ra : Nat → Nat) (B : Nat) (v : Value), m_fit ty v = true → narrow f (m_cv ra B v) = m_cv ra B v ∧ fits f (m_cv ra B v) = true
theorem m_ft0 : m_ft 0 .int := fun ra B v h => by cases v <;> first | (cases h; done) | exact ⟨rfl, rfl⟩
theorem m_ft1o (n : String) : m_ft 1 (.object n) := fun ra B v h => by cases v <;> first | (cases h; done) | exact ⟨rfl, rfl⟩
theorem m_ft1a (t : FieldType) : m_ft 1 (.array t) := fun ra B v h => by cases v <;> first | (cases h; done) | exact ⟨rfl, rfl⟩
theorem m_ft2 : m_ft 2 .boolean := fun ra B v h => by
  cases v with
  | int x =>
    have h1 : x = 0 ∨ x = 1 := by simpa [m_fit] using h
    rcases h1 with rfl | rfl
    · exact ⟨(by decide : narrow .boolean (.int 0) = .int 0), (by decide : fits .boolean (.int 0) = true)⟩
    · exact ⟨(by decide : narrow .boolean (.int 1) = .int 1), (by decide : fits .boolean (.int 1) = true)⟩
  | _ => cases h
theorem m_ce_o {ci k : Nat} {fs : List Value} {v : Value} : m_ce cA ra B (.inr (.inl (ci, fs.set k v))) = .inr (ci, (fs.map (m_cv ra B)).set k (m_cv ra B v)) := by
  show Sum.inr (ci, (fs.set k v).map (m_cv ra B)) = _
  rw [List.map_set]
theorem m_Hd_set {h : m_Hp} {a : Nat} {x : m_Cel} {E : va_E} {H H1 : Heap} (h3 : 3 < a) (hE : m_ce cA ra B x = E) (hP : va_P D vwCl ((m_ws cA ra B h).set (a - 4) (m_ad ra B a, E)) H1) (hz : H.size ≤ H1.size) (hH : m_Hd D cA ra B h H) : m_Hd D cA ra B (h.set a x) H1 := by
  subst hE
  rw [m_ws_set h3] at hP
  refine ⟨hP, ?_⟩
  have h1 := hH.2
  rw [List.length_set]
  omega
theorem m_len_set {h h0 : m_Hp} {a : Nat} {x : m_Cel} : (h.set a x).length - h0.length = h.length - h0.length := by rw [List.length_set]
theorem m_s_put {ci k N idx ty : Nat} {C : String} {T : u_T} {ty0 : Nat → FieldType} {f : FieldType} (hc : vwCl[ci]? = some (C, T, N)) (hk : k < N) (hin : ∀ w ∈ u_ws C T N, w ∈ m_gd) (hty : ∀ k, k < N → parseFieldDescriptor (T k).2.2.1 = some (ty0 k)) (hnm : ∀ a, a < N → ∀ b, b < N → a ≠ b → (T a).2.1 ≠ (T b).2.1) (hC : (T k).1 = C) (hfin : (T k).2.2.2 = false) (hf : ty0 k = f) (hft : m_ft ty f) (hw : Cond.fieldLink own idx C (T k).2.1 (T k).2.2.1 ∈ m_gd) (hdg : decode cc pc = .ok (.putfield idx, 3)) : m_Snd D cA ra B ro M cc nL ret own nm pc (m_put ci k ty) := by
  refine m_heap m_put_n m_put_m ?_
  intro p l e R s m args below meth c d h0 Q X ls st h pc1 ls1 st1 h1 eq h4 hmm hm0 hR H locs al hS hH hro hL hex kk
  obtain ⟨hx, hb, hml, hr, hown, hlk, hnm2, hts, hW, hsz, hrl, hfr, hlo⟩ := X
  obtain ⟨v, a, st2, fs, rfl, hh, h3, q3, q4, q5⟩ := m_put_spec eq
  cases q5
  subst hf
  refine va_put (D := D) (H0 := H) (A := m_A B) hx hb hts hin ty0 hty hnm hown hW.1 hH.1 m_wsD (m_S0 hS) (a - 4) (m_ws_get hh h3) hc k hk (hts _ hw) (fun x hx => by rw [← hC]; exact hx) hfin (hty k hk) (hft ra B v q3).1 (hft ra B v q3).2 (by rw [List.length_map]; exact q4) hdg (fun H1 locs1 hP1 hD1 hS1 => ?_)
  have k1 := kk H1 locs1 (m_S2 hS hS1) (m_Hd_set h3 m_ce_o hP1 hS1.1 hH) al hL
  rw [m_len_set, m_sz_set hh (by simp [m_csz])] at k1
  exact k1
theorem m_s_putF {ci k N idx ty : Nat} {C : String} {T : u_T} {ty0 : Nat → FieldType} {f : FieldType} (hc : vwCl[ci]? = some (C, T, N)) (hk : k < N) (hin : ∀ w ∈ u_ws C T N, w ∈ m_gd) (hty : ∀ k, k < N → parseFieldDescriptor (T k).2.2.1 = some (ty0 k)) (hnm : ∀ a, a < N → ∀ b, b < N → a ≠ b → (T a).2.1 ≠ (T b).2.1) (hC : (T k).1 = C) (hfin : (T k).2.2.2 = true) (hi : nm = "<init>") (ho : (T k).1 = own) (hf : ty0 k = f) (hft : m_ft ty f) (hw : Cond.fieldLink own idx C (T k).2.1 (T k).2.2.1 ∈ m_gd) (hdg : decode cc pc = .ok (.putfield idx, 3)) : m_Snd D cA ra B ro M cc nL ret own nm pc (m_put ci k ty) := by
  refine m_heap m_put_n m_put_m ?_
  intro p l e R s m args below meth c d h0 Q X ls st h pc1 ls1 st1 h1 eq h4 hmm hm0 hR H locs al hS hH hro hL hex kk
  obtain ⟨hx, hb, hml, hr, hown, hlk, hnm2, hts, hW, hsz, hrl, hfr, hlo⟩ := X
  obtain ⟨v, a, st2, fs, rfl, hh, h3, q3, q4, q5⟩ := m_put_spec eq
  cases q5
  subst hf
  refine va_putF (D := D) (H0 := H) (A := m_A B) hx hb hts hin ty0 hty hnm hown hW.1 hH.1 m_wsD (m_S0 hS) (a - 4) (m_ws_get hh h3) hc k hk (hts _ hw) (fun x hx => by rw [← hC]; exact hx) hfin (by rw [hnm2, hi]) ho (hty k hk) (hft ra B v q3).1 (hft ra B v q3).2 (by rw [List.length_map]; exact q4) hdg (fun H1 locs1 hP1 hD1 hS1 => ?_)
  have k1 := kk H1 locs1 (m_S2 hS hS1) (m_Hd_set h3 m_ce_o hP1 hS1.1 hH) al hL
  rw [m_len_set, m_sz_set hh (by simp [m_csz])] at k1
  exact k1
theorem m_s_gets {idx j : Nat} {n : String} (hj : (n = "FIRST_OF_SETTING" ∧ j = 0) ∨ (n = "LEAST_OF_SETTING" ∧ j = 1) ∨ (n = "MOST_OF_SETTING" ∧ j = 2)) (hw : Cond.fieldLink own idx "CardSheets" n "[I" ∈ m_gd) (hdg : decode cc pc = .ok (.getstatic idx, 3)) : m_Snd D cA ra B ro M cc nL ret own nm pc (m_gets j) := by
  refine m_pure (fun ls st h x e => by cases e; exact ⟨_, _, _, rfl⟩) ?_
  intro p l e R s m args below meth c d h0 Q X ls st h pc1 ls1 st1 eq H locs al cells slots hS hH hro hL hcl hsl kk
  obtain ⟨hx, hb, hml, hr, hown, hlk, hnm, hts, hW, hsz, hrl, hfr, hlo⟩ := X
  cases eq
  rcases hj with ⟨rfl, rfl⟩ | ⟨rfl, rfl⟩ | ⟨rfl, rfl⟩
  · exact va_gets hx hb hW.2.2.1 hS hown (hts _ hw) (fun _ h9 => h9) hdg (kk al hL)
  · exact va_gets hx hb hW.2.2.2.1 hS hown (hts _ hw) (fun _ h9 => h9) hdg (kk al hL)
  · exact va_gets hx hb hW.2.2.2.2.1 hS hown (hts _ hw) (fun _ h9 => h9) hdg (kk al hL)
theorem m_s_getsN {idx : Nat} (hw : Cond.fieldLinkNest own idx "CardSheets" "FIRST_OF_SETTING" "[I" "CardSheets" ∈ m_nest) (hdg : decode cc pc = .ok (.getstatic idx, 3)) : m_Snd D cA ra B ro M cc nL ret own nm pc (m_gets 0) := by
  refine m_pure (fun ls st h x e => by cases e; exact ⟨_, _, _, rfl⟩) ?_
  intro p l e R s m args below meth c d h0 Q X ls st h pc1 ls1 st1 eq H locs al cells slots hS hH hro hL hcl hsl kk
  obtain ⟨hx, hb, hml, hr, hown, hlk, hnm, hts, hW, hsz, hrl, hfr, hlo⟩ := X
  cases eq
  exact va_getsN hx hb hW.2.2.1 hS hown (va_Nw.use rfl (hW.2.2.2.2.2.1 _ hw)) (fun _ h9 => h9) hdg (kk al hL)
theorem m_ty0 : (m_tys cA)[0]? = some (cA 0, .int) := rfl
theorem m_ty1 : (m_tys cA)[1]? = some (cA 1, .char) := rfl
theorem m_ty2 : (m_tys cA)[2]? = some (cA 2, .object RX2) := rfl
theorem m_ty3 : (m_tys cA)[3]? = some (cA 3, .object RX3) := rfl
theorem m_tyx {t : Nat} (h : t < 4) : ∃ f, (m_tys cA)[t]? = some (cA t, f) := by
  match t, h with
  | 0, _ => exact ⟨_, rfl⟩
  | 1, _ => exact ⟨_, rfl⟩
  | 2, _ => exact ⟨_, rfl⟩
  | 3, _ => exact ⟨_, rfl⟩
theorem m_s_ild {t : Nat} (ht : (t = 0 ∧ decode cc pc = .ok (.iaload, 1)) ∨ (t = 1 ∧ decode cc pc = .ok (.caload, 1))) : m_Snd D cA ra B ro M cc nL ret own nm pc (m_ild t) := by
  refine m_pure (fun ls st h x e => ?_) ?_
  · unfold m_ild at e
    (repeat' split at e) <;> first | (cases e; done) | (obtain ⟨_, rfl⟩ := m_bif e; exact ⟨_, _, _, rfl⟩)
  intro p l e R s m args below meth c d h0 Q X ls st h pc1 ls1 st1 eq H locs al cells slots hS hH hro hL hcl hsl kk
  obtain ⟨hx, hb, hml, hr, hown, hlk, hnm, hts, hW, hsz, hrl, hfr, hlo⟩ := X
  unfold m_ild at eq
  split at eq
  · rename_i i a st2
    split at eq
    · rename_i u xs hh
      split at eq
      · cases eq
      · rename_i hin
        obtain ⟨hq, e3⟩ := m_bif eq
        cases e3
        rw [Bool.and_eq_true, Bool.or_eq_true] at hq
        have e1 := m_beq hq.1
        subst e1
        by_cases h3 : 3 < a
        · rcases ht with ⟨rfl, hdg⟩ | ⟨rfl, hdg⟩
          · exact va_iald (D := D) hx hb hW.1 hH.1 (a - 4) 0 (m_ws_get hh h3) m_ty0 hin hdg (kk al hL)
          · exact va_cald (D := D) hx hb hW.1 hH.1 (a - 4) 1 (m_ws_get hh h3) m_ty1 hin hdg (kk al hL)
        · have ha : a < 4 := Nat.lt_succ_of_le (Nat.le_of_not_lt h3)
          obtain ⟨ys, g1, g2⟩ := hro.ro ha hh
          cases g2
          rcases ht with ⟨_, hdg⟩ | ⟨z, _⟩
          · have k1 := kk al hL
            show W p l e R s m args below meth c H locs cells slots Q (F0 m pc al (.int i :: .ref (m_ad ra B a) :: st2.map (m_cv ra B)))
            rw [m_ad4 ha]
            exact va_ti (v := .int (xs.getD i.toNatClampNeg 0)) hx hb (hW.2.1 a xs g1) hS hin rfl hdg k1
          · cases z
    · cases eq
  · cases eq
theorem m_s_len (hdg : decode cc pc = .ok (.arraylength, 1)) : m_Snd D cA ra B ro M cc nL ret own nm pc m_len := by
  refine m_pure (fun ls st h x e => ?_) ?_
  · unfold m_len at e
    (repeat' split at e) <;> first | (cases e; done) | (obtain ⟨_, rfl⟩ := m_bif e; exact ⟨_, _, _, rfl⟩)
  intro p l e R s m args below meth c d h0 Q X ls st h pc1 ls1 st1 eq H locs al cells slots hS hH hro hL hcl hsl kk
  obtain ⟨hx, hb, hml, hr, hown, hlk, hnm, hts, hW, hsz, hrl, hfr, hlo⟩ := X
  unfold m_len at eq
  split at eq
  · rename_i a st2
    split at eq
    · rename_i u xs hh
      obtain ⟨hq, e3⟩ := m_bif eq
      cases e3
      by_cases h3 : 3 < a
      · obtain ⟨f, hf⟩ := m_tyx (cA := cA) (m_blt hq)
        exact va_alen (D := D) hx hb hW.1 hH.1 (a - 4) u (m_ws_get hh h3) hf rfl hdg (kk al hL)
      · have ha : a < 4 := Nat.lt_succ_of_le (Nat.le_of_not_lt h3)
        obtain ⟨ys, g1, g2⟩ := hro.ro ha hh
        cases g2
        have k1 := kk al hL
        show W p l e R s m args below meth c H locs cells slots Q (F0 m pc al (.ref (m_ad ra B a) :: st2.map (m_cv ra B)))
        rw [m_ad4 ha]
        exact va_tlen hx hb (hW.2.1 a xs g1) hS rfl hdg k1
    · rename_i u rs hh
      obtain ⟨hq, e3⟩ := m_bif eq
      cases e3
      rw [Bool.and_eq_true] at hq
      obtain ⟨f, hf⟩ := m_tyx (cA := cA) (m_blt hq.1)
      exact va_alen (D := D) hx hb hW.1 hH.1 (a - 4) u (m_ws_get hh (m_blt hq.2)) hf rfl hdg (kk al hL)
    · cases eq
  · cases eq
theorem m_getD_set {α : Type} {xs : List α} {i : Nat} (hi : i < xs.length) (x d : α) (j : Nat) : (xs.set i x).getD j d = if j = i then x else xs.getD j d := by
  rw [List.getD_eq_getElem?_getD, List.getD_eq_getElem?_getD]
  by_cases h : j = i
  · subst h
    rw [if_pos rfl, List.getElem?_set_self hi]; rfl
  · rw [if_neg h, List.getElem?_set_ne (Ne.symm h)]
theorem m_ce_i {t i : Nat} {xs : List Int32} (hi : i < xs.length) (x : Int32) : m_ce cA ra B (.inl (t, xs.set i x)) = .inl (cA t, xs.length, .inl (upd (fun j => xs.getD j 0) i x)) := by
  show Sum.inl (cA t, (xs.set i x).length, Sum.inl (fun j => (xs.set i x).getD j 0)) = _
  rw [List.length_set]
  congr 3
  exact congrArg Sum.inl (funext fun j => m_getD_set hi x 0 j)
theorem m_ist_spec {t : Nat} {f : Int32 → Int32} {ls : m_Ls} {st : List Value} {h : m_Hp} {x : m_Res} (e : m_ist t f pc ls st h = some x) : ∃ (v i : Int32) (a : Nat) (st2 : List Value) (xs : List Int32), st = .int v :: .int i :: .ref a :: st2 ∧ h[a]? = some (.inl (t, xs)) ∧ ¬ (i < 0 ∨ xs.length ≤ i.toNatClampNeg) ∧ 3 < a ∧ x = .inl (pc + 1, ls, st2, h.set a (.inl (t, xs.set i.toNatClampNeg (f v)))) := by
  unfold m_ist at e
  split at e
  · rename_i v i a st2
    split at e
    · rename_i u xs hh
      split at e
      · cases e
      · rename_i hin
        obtain ⟨hq, e3⟩ := m_bif e
        rw [Bool.and_eq_true] at hq
        have e1 := m_beq hq.1
        subst e1
        exact ⟨v, i, a, st2, xs, rfl, hh, hin, m_blt hq.2, e3⟩
    · cases e
  · cases e
theorem m_ist_n {t : Nat} {f : Int32 → Int32} (ls : m_Ls) (st : List Value) (h : m_Hp) (x : m_Res) (e : m_ist t f pc ls st h = some x) : ∃ y, x = .inl y := by
  obtain ⟨v, i, a, st2, xs, -, -, -, -, q⟩ := m_ist_spec e
  exact ⟨_, q⟩
theorem m_ist_m {t : Nat} {f : Int32 → Int32} (ls : m_Ls) (st : List Value) (h : m_Hp) (pc1 : Nat) (ls1 : m_Ls) (st1 : List Value) (h1 : m_Hp) (e : m_ist t f pc ls st h = some (.inl (pc1, ls1, st1, h1))) (_ : 4 ≤ h.length) : m_mono h h1 := by
  obtain ⟨v, i, a, st2, xs, -, hh, -, h3, q⟩ := m_ist_spec e
  cases q
  exact m_mono.set hh h3 (by simp [m_csz])
theorem m_s_iast (hdg : decode cc pc = .ok (.iastore, 1)) : m_Snd D cA ra B ro M cc nL ret own nm pc (m_ist 0 (fun x => x)) := by
  refine m_heap m_ist_n m_ist_m ?_
  intro p l e R s m args below meth c d h0 Q X ls st h pc1 ls1 st1 h1 eq h4 hmm hm0 hR H locs al hS hH hro hL hex kk
  obtain ⟨hx, hb, hml, hr, hown, hlk, hnm2, hts, hW, hsz, hrl, hfr, hlo⟩ := X
  obtain ⟨v, i, a, st2, xs, rfl, hh, hin, h3, q⟩ := m_ist_spec eq
  cases q
  have hi : i.toNatClampNeg < xs.length := Nat.not_le.mp fun z => hin (Or.inr z)
  refine va_iast (D := D) (H0 := H) (A := m_A B) hx hb hW.1 hH.1 m_wsD (m_S0 hS) (a - 4) 0 (m_ws_get hh h3) m_ty0 hin hdg (fun H1 locs1 hP1 hD1 hS1 => ?_)
  have k1 := kk H1 locs1 (m_S2 hS hS1) (m_Hd_set h3 (m_ce_i hi v) hP1 hS1.1 hH) al hL
  rw [m_len_set, m_sz_set hh (by simp [m_csz])] at k1
  exact k1
theorem m_s_cast (hdg : decode cc pc = .ok (.castore, 1)) : m_Snd D cA ra B ro M cc nL ret own nm pc (m_ist 1 (vp_nar .char)) := by
  refine m_heap m_ist_n m_ist_m ?_
  intro p l e R s m args below meth c d h0 Q X ls st h pc1 ls1 st1 h1 eq h4 hmm hm0 hR H locs al hS hH hro hL hex kk
  obtain ⟨hx, hb, hml, hr, hown, hlk, hnm2, hts, hW, hsz, hrl, hfr, hlo⟩ := X
  obtain ⟨v, i, a, st2, xs, rfl, hh, hin, h3, q⟩ := m_ist_spec eq
  cases q
  have hi : i.toNatClampNeg < xs.length := Nat.not_le.mp fun z => hin (Or.inr z)
  refine va_cast (D := D) (H0 := H) (A := m_A B) hx hb hW.1 hH.1 m_wsD (m_S0 hS) (a - 4) 1 (m_ws_get hh h3) m_ty1 hin hdg (fun H1 locs1 hP1 hD1 hS1 => ?_)
  have k1 := kk H1 locs1 (m_S2 hS hS1) (m_Hd_set h3 (m_ce_i hi (vp_nar .char v)) hP1 hS1.1 hH) al hL
  rw [m_len_set, m_sz_set hh (by simp [m_csz])] at k1
  exact k1
theorem m_cv_rf (r : Option Nat) : m_cv ra B (m_rf r) = va_rf (r.map (m_ad ra B)) := by cases r <;> rfl
theorem m_s_ald (hdg : decode cc pc = .ok (.aaload, 1)) : m_Snd D cA ra B ro M cc nL ret own nm pc m_ald := by
  refine m_pure (fun ls st h x e => ?_) ?_
  · unfold m_ald at e
    (repeat' split at e) <;> first | (cases e; done) | (obtain ⟨_, rfl⟩ := m_bif e; exact ⟨_, _, _, rfl⟩)
  intro p l e R s m args below meth c d h0 Q X ls st h pc1 ls1 st1 eq H locs al cells slots hS hH hro hL hcl hsl kk
  obtain ⟨hx, hb, hml, hr, hown, hlk, hnm, hts, hW, hsz, hrl, hfr, hlo⟩ := X
  unfold m_ald at eq
  split at eq
  · rename_i i a st2
    split at eq
    · rename_i u rs hh
      split at eq
      · cases eq
      · rename_i hin
        obtain ⟨hq, e3⟩ := m_bif eq
        cases e3
        rw [Bool.and_eq_true, Bool.or_eq_true] at hq
        have k1 := kk al hL
        rw [List.map_cons, m_cv_rf] at k1
        rcases hq.1 with hu | hu
        · have e1 := m_beq hu
          subst e1
          exact va_aldq (D := D) hx hb hW.1 hH.1 (a - 4) 2 (m_ws_get hh (m_blt hq.2)) m_ty2 hin hdg k1
        · have e1 := m_beq hu
          subst e1
          exact va_aldq (D := D) hx hb hW.1 hH.1 (a - 4) 3 (m_ws_get hh (m_blt hq.2)) m_ty3 hin hdg k1
    · cases eq
  · cases eq
theorem m_ce_q {t i : Nat} {rs : List (Option Nat)} (hi : i < rs.length) (x : Option Nat) : m_ce cA ra B (.inr (.inr (t, rs.set i x))) = .inl (cA t, rs.length, .inr (.inr (.inr (.inr (va_up (fun j => (rs.getD j none).map (m_ad ra B)) i (x.map (m_ad ra B))))))) := by
  show Sum.inl (cA t, (rs.set i x).length, Sum.inr (Sum.inr (Sum.inr (Sum.inr (fun j => ((rs.set i x).getD j none).map (m_ad ra B)))))) = _
  rw [List.length_set]
  congr 6
  apply congrArg Sum.inr
  funext j
  rw [m_getD_set hi x none j]
  unfold va_up
  by_cases h : j = i
  · rw [if_pos h, if_pos h]
  · rw [if_neg h, if_neg h]
theorem m_ast_spec {t ci : Nat} {ls : m_Ls} {st : List Value} {h : m_Hp} {x : m_Res} (e : m_ast t ci pc ls st h = some x) : ∃ (r : Option Nat) (i : Int32) (a : Nat) (st2 : List Value) (rs : List (Option Nat)), st = m_rf r :: .int i :: .ref a :: st2 ∧ h[a]? = some (.inr (.inr (t, rs))) ∧ ¬ (i < 0 ∨ rs.length ≤ i.toNatClampNeg) ∧ 3 < a ∧ (∀ b, r = some b → 3 < b ∧ ∃ fs, h[b]? = some (.inr (.inl (ci, fs)))) ∧ x = .inl (pc + 1, ls, st2, h.set a (.inr (.inr (t, rs.set i.toNatClampNeg r)))) := by
  unfold m_ast at e
  split at e
  · rename_i i a st2
    split at e
    · rename_i u rs hh
      split at e
      · cases e
      · rename_i hin
        obtain ⟨hq, e3⟩ := m_bif e
        rw [Bool.and_eq_true] at hq
        have e1 := m_beq hq.1
        subst e1
        exact ⟨none, i, a, st2, rs, rfl, hh, hin, m_blt hq.2, (fun b z => by cases z), e3⟩
    · cases e
  · rename_i b i a st2
    split at e
    · rename_i u rs hh
      split at e
      · rename_i cj fs hb
        split at e
        · cases e
        · rename_i hin
          obtain ⟨hq, e3⟩ := m_bif e
          rw [Bool.and_eq_true, Bool.and_eq_true, Bool.and_eq_true] at hq
          obtain ⟨⟨⟨q1, q2⟩, q3⟩, q4⟩ := hq
          have e1 := m_beq q1
          subst e1
          have e2 := m_beq q3
          subst e2
          exact ⟨some b, i, a, st2, rs, rfl, hh, hin, m_blt q2, (fun b2 z => by cases z; exact ⟨m_blt q4, fs, hb⟩), e3⟩
      · cases e
    · cases e
  · cases e
theorem m_s_ast {t ci : Nat} {q : vw_C} (hdg : decode cc pc = .ok (.aastore, 1)) (hc : vwCl[ci]? = some q) (ht : ∀ cA : Nat → ClassId, (m_tys cA)[t]? = some (cA t, .object q.1)) : m_Snd D cA ra B ro M cc nL ret own nm pc (m_ast t ci) := by
  refine m_heap (fun ls st h x e => ?_) (fun ls st h pc1 ls1 st1 h1 e _ => ?_) ?_
  · obtain ⟨r, i, a, st2, rs, -, -, -, -, -, z⟩ := m_ast_spec e
    exact ⟨_, z⟩
  · obtain ⟨r, i, a, st2, rs, -, hh, -, h3, -, z⟩ := m_ast_spec e
    cases z
    exact m_mono.set hh h3 (by simp [m_csz])
  intro p l e R s m args below meth c d h0 Q X ls st h pc1 ls1 st1 h1 eq h4 hmm hm0 hR H locs al hS hH hro hL hex kk
  obtain ⟨hx, hb, hml, hr, hown, hlk, hnm2, hts, hW, hsz, hrl, hfr, hlo⟩ := X
  obtain ⟨r, i, a, st2, rs, rfl, hh, hin, h3, hb3, z⟩ := m_ast_spec eq
  cases z
  have hi : i.toNatClampNeg < rs.length := Nat.not_le.mp fun z => hin (Or.inr z)
  cases r with
  | none =>
    refine va_astqN (D := D) (H0 := H) (A := m_A B) hx hb hW.1 hH.1 m_wsD (m_S0 hS) (a - 4) t (m_ws_get hh h3) (ht cA) hin hdg (fun H1 locs1 hP1 hD1 hS1 => ?_)
    have k1 := kk H1 locs1 (m_S2 hS hS1) (m_Hd_set h3 (m_ce_q hi none) hP1 hS1.1 hH) al hL
    rw [m_len_set, m_sz_set hh (by simp [m_csz])] at k1
    exact k1
  | some b =>
    obtain ⟨hb4, fs, hb5⟩ := hb3 b rfl
    refine va_astq (D := D) (H0 := H) (A := m_A B) hx hb hW.1 hH.1 m_wsD (m_S0 hS) (a - 4) t (b - 4) ci (m_ws_get hh h3) (ht cA) (m_ws_get hb5 hb4) hc hin hdg (fun H1 locs1 hP1 hD1 hS1 => ?_)
    have k1 := kk H1 locs1 (m_S2 hS hS1) (m_Hd_set h3 (m_ce_q hi (some b)) hP1 hS1.1 hH) al hL
    rw [m_len_set, m_sz_set hh (by simp [m_csz])] at k1
    exact k1
theorem m_cpy0 {xs ys : List Int32} {n : Nat} (h1 : n ≤ xs.length) (h2 : n ≤ ys.length) (j : Nat) : (xs.take n ++ ys.drop n).getD j 0 = va_cpy (fun j => xs.getD j 0) (fun j => ys.getD j 0) 0 0 n j := by
  unfold va_cpy
  simp only [List.getD_eq_getElem?_getD]
  by_cases h : j < n
  · rw [if_pos ⟨Nat.zero_le _, by omega⟩, List.getElem?_append_left (by rw [List.length_take]; omega), List.getElem?_take_of_lt h]
    simp
  · rw [if_neg (by omega), List.getElem?_append_right (by rw [List.length_take]; omega), List.getElem?_drop, List.length_take, show n + (j - min n xs.length) = j by omega]
end
end
section
/-! cells that are made, natives, calls, returns -/
section
variable {D : va_G} {cA : Nat → ClassId} {ra : Nat → Nat} {B : Nat} {ro : List (List Int32)} {M : List m_Mt} {cc : ByteArray} {nL : Nat} {ret : Option FieldType} {own nm : String} {pc : Nat} {o : m_Op}
theorem m_ws_len {h : m_Hp} : (m_ws cA ra B h).length = h.length - 4 := by unfold m_ws; rw [List.length_mapIdx, List.length_drop]
/-- a new cell is the next one -/
theorem m_Hd_app {h : m_Hp} {x : m_Cel} {E : va_E} {H H1 : Heap} {q : Nat} (h4 : 4 ≤ h.length) (hE : m_ce cA ra B x = E) (hex : H.size + 4 = B + h.length) (hP : va_P D vwCl (m_ws cA ra B h ++ [(q, E)]) H1) (hD : va_D (m_A B) (m_ws cA ra B h ++ [(q, E)])) (hz0 : H.size ≤ H1.size) (hz : H1.size ≤ H.size + 1) : q = m_ad ra B h.length ∧ m_Hd D cA ra B (h ++ [x]) H1 := by
  subst hE
  have hlast : (m_ws cA ra B h ++ [(q, m_ce cA ra B x)])[h.length - 4]? = some (q, m_ce cA ra B x) := by
    rw [List.getElem?_append_right (by rw [m_ws_len]; exact Nat.le_refl _), m_ws_len]
    simp
  have h0 : B ≤ q := hD.2 _ _ hlast
  have h1 : H.size ≤ q := by
    rcases Nat.lt_or_ge q H.size with hlt | hge
    · exfalso
      have hk : q - B + 4 < h.length := by omega
      have hc : h[q - B + 4]? = some h[q - B + 4] := List.getElem?_eq_getElem hk
      have hw := m_ws_get (cA := cA) (ra := ra) (B := B) hc (by omega)
      have hw2 : (m_ws cA ra B h ++ [(q, m_ce cA ra B x)])[q - B + 4 - 4]? = some (m_ad ra B (q - B + 4), m_ce cA ra B h[q - B + 4]) := by
        rw [List.getElem?_append_left (by rw [m_ws_len]; omega)]
        exact hw
      have he := hD.1 _ _ _ _ hw2 hlast (by show m_ad ra B (q - B + 4) = q; unfold m_ad; rw [if_neg (by omega)]; omega)
      omega
    · exact hge
  have h2 : q < H1.size := (hP _ _ hlast).lt
  have e : q = m_ad ra B h.length := by
    unfold m_ad
    rw [if_neg (by omega)]
    omega
  refine ⟨e, ?_, ?_⟩
  · rw [m_ws_app h4, ← e]
    exact hP
  · rw [List.length_append]
    simp only [List.length_singleton]
    omega
theorem m_room1 {R : Room} {h h0 : m_Hp} {x : m_Cel} (hm0 : m_mono h0 h) (hR : m_Rm R h0 (h ++ [x])) : h.length - h0.length + 1 ≤ R.cells ∧ m_sz h - m_sz h0 + m_csz x ≤ R.slots ∧ (h ++ [x]).length - h0.length = h.length - h0.length + 1 ∧ m_sz (h ++ [x]) - m_sz h0 = m_sz h - m_sz h0 + m_csz x := by
  obtain ⟨h1, h2⟩ := hR
  have h3 := hm0.1
  have h4 := hm0.2.1
  rw [m_sz_app] at h2 ⊢
  rw [List.length_append, List.length_singleton] at h1 ⊢
  omega
theorem m_s_new {ci N idx : Nat} {C : String} {T : u_T} {ty0 : Nat → FieldType} {fs : List Value} (hc : vwCl[ci]? = some (C, T, N)) (hin : ∀ w ∈ u_ws C T N, w ∈ m_gd) (hty : ∀ k, k < N → parseFieldDescriptor (T k).2.2.1 = some (ty0 k)) (hfs : ∀ j, j < N → defaultValue (ty0 j) = vp_V fs j) (hN : fs.length = N) (hcv : ∀ (ra : Nat → Nat) (B : Nat), fs.map (m_cv ra B) = fs) (hw1 : Cond.classLink own idx C ∈ m_gd) (hw2 : Cond.instantiable C N ∈ m_gd) (hw3 : Cond.initialized C ∈ m_gd) (hdg : decode cc pc = .ok (.new idx, 3)) : m_Snd D cA ra B ro M cc nL ret own nm pc (m_new ci fs) := by
  refine m_heap (fun ls st h x e => by cases e; exact ⟨_, rfl⟩) (fun ls st h pc1 ls1 st1 h1 e h4 => by cases e; exact m_mono.app h4) ?_
  intro p l e R s m args below meth c d h0 Q X ls st h pc1 ls1 st1 h1 eq h4 hmm hm0 hR H locs al hS hH hro hL hex kk
  obtain ⟨hx, hb, hml, hr, hown, hlk, hnm2, hts, hW, hsz, hrl, hfr, hlo⟩ := X
  cases eq
  obtain ⟨r1, r2, r3, r4⟩ := m_room1 hm0 hR
  subst hN
  refine va_new (D := D) (H0 := H) (A := m_A B) hx hb hts hin ty0 hty hown (hts _ hw1) (hts _ hw2) (hts _ hw3) hW.1 hH.1 m_wsD (m_S0 hS) (fun q hq => Nat.le_trans hW.2.2.2.2.2.2.2.2 (Nat.le_trans hS.1 hq)) hc hfs r1 r2 hdg (fun q H1 hP1 hD1 hS1 => ?_)
  refine m_Wsize fun hup => ?_
  obtain ⟨q1, q2⟩ := m_Hd_app (D := D) (x := .inr (.inl (ci, fs))) h4 (by show Sum.inr (ci, fs.map (m_cv ra B)) = _; rw [hcv]) hex hP1 hD1 hS1.1 (by have := hm0.1; omega)
  have k1 := kk H1 locs (m_S2 hS hS1) q2 al hL
  rw [r3, r4] at k1
  rw [q1]
  exact k1
theorem m_num_spec {n : Int32} {x y : m_Res} (e : (if n < 0 ∨ 100000 < n.toNatClampNeg then none else some x) = some y) : ¬ n < 0 ∧ n.toNatClampNeg ≤ 100000 ∧ y = x := by
  split at e
  · cases e
  · rename_i hn
    cases e
    exact ⟨fun z => hn (Or.inl z), Nat.le_of_not_lt fun z => hn (Or.inr z), rfl⟩
theorem m_rep0 (N : Nat) (j : Nat) : (List.replicate N (0 : Int32)).getD j 0 = 0 := by
  rw [List.getD_eq_getElem?_getD, List.getElem?_replicate]
  split <;> rfl
theorem m_repn (N : Nat) (j : Nat) : (List.replicate N (none : Option Nat)).getD j none = none := by
  rw [List.getD_eq_getElem?_getD, List.getElem?_replicate]
  split <;> rfl
theorem m_s_nar {t : Nat} {atype : ArrayType} {f : FieldType} (hf : newarray.typeOf atype = f) (ht : ∀ cA : Nat → ClassId, (m_tys cA)[t]? = some (cA t, f)) (hdf : defaultValue f = .int 0) (hcb : componentBytes f ≤ 8) (hra : ∀ (U : State) (c1 c2 : ClassId), va_RA U c1 f → va_RA U c2 f → c1 = c2) (hw : Cond.arrayClass f ∈ m_gd) (hdg : decode cc pc = .ok (.newarray atype, 2)) : m_Snd D cA ra B ro M cc nL ret own nm pc (m_nar t) := by
  refine m_heap (fun ls st h x e => ?_) (fun ls st h pc1 ls1 st1 h1 e h4 => ?_) ?_
  · unfold m_nar at e
    split at e
    · obtain ⟨_, _, e3⟩ := m_num_spec e
      exact ⟨_, e3⟩
    · cases e
  · unfold m_nar at e
    split at e
    · obtain ⟨_, _, e3⟩ := m_num_spec e
      cases e3
      exact m_mono.app h4
    · cases e
  intro p l e R s m args below meth c d h0 Q X ls st h pc1 ls1 st1 h1 eq h4 hmm hm0 hR H locs al hS hH hro hL hex kk
  obtain ⟨hx, hb, hml, hr, hown, hlk, hnm2, hts, hW, hsz, hrl, hfr, hlo⟩ := X
  unfold m_nar at eq
  split at eq
  · rename_i n st2
    obtain ⟨hn, hn2, e3⟩ := m_num_spec eq
    cases e3
    obtain ⟨r1, r2, r3, r4⟩ := m_room1 hm0 hR
    have e5 : m_csz (.inl (t, List.replicate n.toNatClampNeg 0)) = n.toNatClampNeg := by simp [m_csz]
    rw [e5] at r2 r4
    subst hf
    refine va_newa (D := D) (H0 := H) (A := m_A B) (a0 := (n.toNatClampNeg, .inl (fun _ => 0))) hx hb (hts _ hw) rfl hW.1 hH.1 m_wsD (m_S0 hS) (fun q hq => Nat.le_trans hW.2.2.2.2.2.2.2.2 (Nat.le_trans hS.1 hq)) (fun cA2 => by rw [hdf]; rfl) hn rfl (Nat.le_trans (Nat.mul_le_mul hn2 hcb) (Nat.le_of_ble_eq_true rfl)) r1 r2 hdg (fun q cA2 H1 hK1 hP1 hD1 hS1 => ?_)
    refine m_Wsize fun hup => ?_
    have ec : cA2 = cA t := by
      have g1 := (hK1.2 4 (cA2, newarray.typeOf atype) rfl).2
      have g2 := (hW.1.2 t _ (ht cA)).2
      exact hra s _ _ g1 g2
    subst ec
    obtain ⟨q1, q2⟩ := m_Hd_app (D := D) (x := .inl (t, List.replicate n.toNatClampNeg 0)) h4 (by show Sum.inl (cA t, (List.replicate n.toNatClampNeg (0 : Int32)).length, Sum.inl (fun j => (List.replicate n.toNatClampNeg (0 : Int32)).getD j 0)) = _; rw [List.length_replicate]; congr 3; exact congrArg Sum.inl (funext fun j => m_rep0 _ j)) hex hP1 hD1 hS1.1 (by have := hm0.1; omega)
    have k1 := kk H1 locs (m_S2 hS hS1) q2 al hL
    rw [r3, r4] at k1
    rw [q1]
    exact k1
  · cases eq
theorem m_s_anar {t idx : Nat} {C : String} (ht : ∀ cA : Nat → ClassId, (m_tys cA)[t]? = some (cA t, .object C)) (hCC : C = RX2 ∨ C = RX3) (hw : Cond.classLink own idx C ∈ m_gd) (hdg : decode cc pc = .ok (.anewarray idx, 3)) : m_Snd D cA ra B ro M cc nL ret own nm pc (m_anar t) := by
  refine m_heap (fun ls st h x e => ?_) (fun ls st h pc1 ls1 st1 h1 e h4 => ?_) ?_
  · unfold m_anar at e
    split at e
    · obtain ⟨_, _, e3⟩ := m_num_spec e
      exact ⟨_, e3⟩
    · cases e
  · unfold m_anar at e
    split at e
    · obtain ⟨_, _, e3⟩ := m_num_spec e
      cases e3
      exact m_mono.app h4
    · cases e
  intro p l e R s m args below meth c d h0 Q X ls st h pc1 ls1 st1 h1 eq h4 hmm hm0 hR H locs al hS hH hro hL hex kk
  obtain ⟨hx, hb, hml, hr, hown, hlk, hnm2, hts, hW, hsz, hrl, hfr, hlo⟩ := X
  unfold m_anar at eq
  split at eq
  · rename_i n st2
    obtain ⟨hn, hn2, e3⟩ := m_num_spec eq
    cases e3
    obtain ⟨r1, r2, r3, r4⟩ := m_room1 hm0 hR
    have e5 : m_csz (.inr (.inr (t, List.replicate n.toNatClampNeg none))) = n.toNatClampNeg := by simp [m_csz]
    rw [e5] at r2 r4
    have hAO : va_AO C s := by
      rcases hCC with rfl | rfl
      · exact hW.2.2.2.2.2.2.1
      · exact hW.2.2.2.2.2.2.2.1
    refine va_newq (D := D) (H0 := H) (A := m_A B) hx hb hown (hts _ hw) hAO hW.1 hH.1 m_wsD (m_S0 hS) (fun q hq => Nat.le_trans hW.2.2.2.2.2.2.2.2 (Nat.le_trans hS.1 hq)) hn rfl (Nat.le_trans (Nat.mul_le_mul hn2 (Nat.le_refl 4)) (Nat.le_of_ble_eq_true rfl)) r1 r2 hdg (fun q cA2 H1 hK1 hP1 hD1 hS1 => ?_)
    refine m_Wsize fun hup => ?_
    have ec : cA2 = cA t := by
      obtain ⟨_, _, -, -, -, g1⟩ := (hK1.2 4 (cA2, .object C) rfl).2
      obtain ⟨_, _, -, -, -, g2⟩ := (hW.1.2 t _ (ht cA)).2
      exact Option.some.inj (g1.symm.trans g2)
    subst ec
    obtain ⟨q1, q2⟩ := m_Hd_app (D := D) (x := .inr (.inr (t, List.replicate n.toNatClampNeg none))) h4 (by show Sum.inl (cA t, (List.replicate n.toNatClampNeg (none : Option Nat)).length, Sum.inr (Sum.inr (Sum.inr (Sum.inr (fun j => ((List.replicate n.toNatClampNeg (none : Option Nat)).getD j none).map (m_ad ra B)))))) = _; rw [List.length_replicate]; congr 6; exact congrArg Sum.inr (funext fun j => by rw [m_repn]; rfl)) hex hP1 hD1 hS1.1 (by have := hm0.1; omega)
    have k1 := kk H1 locs (m_S2 hS hS1) q2 al hL
    rw [r3, r4] at k1
    rw [q1]
    exact k1
  · cases eq
theorem m_ble {a b : Nat} (h : Nat.ble a b = true) : a ≤ b := Nat.le_of_ble_eq_true h
theorem m_cs_cv (st : List Value) : ((st.map (m_cv ra B)).map fun v => v.category).sum = m_cs st := by
  unfold m_cs
  rw [List.map_map]
  congr 1
  exact List.map_congr_left fun v _ => m_cv_c1 v
theorem m_s_init0 {idx : Nat} (hw1 : Cond.methodLink own idx Lib.objectInit ∈ m_gd) (hw2 : Cond.instanceMethod Lib.objectInit ∈ m_gd) (hw3 : Cond.code Lib.objectInit ⟨#[0xb1]⟩ 1 none ∈ m_gd) (hdg : decode cc pc = .ok (.invokespecial idx, 3)) : m_Snd D cA ra B ro M cc nL ret own nm pc m_init0 := by
  refine m_pure (fun ls st h x e => ?_) ?_
  · unfold m_init0 at e
    split at e
    · obtain ⟨_, rfl⟩ := m_bif e; exact ⟨_, _, _, rfl⟩
    · cases e
  intro p l e R s m args below meth c d h0 Q X ls st h pc1 ls1 st1 eq H locs al cells slots hS hH hro hL hcl hsl kk
  obtain ⟨hx, hb, hml, hr, hown, hlk, hnm, hts, hW, hsz, hrl, hfr, hlo⟩ := X
  unfold m_init0 at eq
  split at eq
  · rename_i a st2
    obtain ⟨hq, e3⟩ := m_bif eq
    cases e3
    have h8 := m_ble hq
    exact W.objInit hx hb hown (hts _ hw1) (hts _ hw2) (hts _ hw3) rfl (hL.2.1.trans hml.symm) rfl hdg (by omega) (by show 2 * 0 + ((st1.map (m_cv ra B)).map fun v => v.category).sum + 12 ≤ R.locals; rw [m_cs_cv]; omega) (kk al hL)
  · cases eq
theorem m_s_min {idx : Nat} (hw1 : Cond.methodLink own idx Lib.Math.min.name ∈ m_gd) (hw2 : Cond.static Lib.Math.min.name ∈ m_gd) (hw3 : Cond.initialized "java/lang/Math" ∈ m_gd) (hw4 : Cond.code Lib.Math.min.name Lib.Math.min.code 2 (some .int) ∈ m_gd) (hdg : decode cc pc = .ok (.invokestatic idx, 3)) : m_Snd D cA ra B ro M cc nL ret own nm pc m_min := by
  refine m_pure (fun ls st h x e => ?_) ?_
  · unfold m_min at e
    split at e
    · obtain ⟨_, rfl⟩ := m_bif e; exact ⟨_, _, _, rfl⟩
    · cases e
  intro p l e R s m args below meth c d h0 Q X ls st h pc1 ls1 st1 eq H locs al cells slots hS hH hro hL hcl hsl kk
  obtain ⟨hx, hb, hml, hr, hown, hlk, hnm, hts, hW, hsz, hrl, hfr, hlo⟩ := X
  unfold m_min at eq
  split at eq
  · rename_i y x st2
    obtain ⟨hq, e3⟩ := m_bif eq
    cases e3
    have h8 := m_ble hq
    exact va_mmin hx hb (hml.trans hL.2.1.symm) hown (hts _ hw1) (hts _ hw2) (hts _ hw3) (hts _ hw4) (by omega) (by rw [m_cs_cv]; omega) hcl hsl hdg (kk al hL)
  · cases eq
theorem m_s_abs {idx : Nat} (hw1 : Cond.methodLink own idx Lib.Math.abs.name ∈ m_gd) (hw2 : Cond.static Lib.Math.abs.name ∈ m_gd) (hw3 : Cond.initialized "java/lang/Math" ∈ m_gd) (hw4 : Cond.code Lib.Math.abs.name Lib.Math.abs.code 1 (some .int) ∈ m_gd) (hdg : decode cc pc = .ok (.invokestatic idx, 3)) : m_Snd D cA ra B ro M cc nL ret own nm pc m_abs := by
  refine m_pure (fun ls st h x e => ?_) ?_
  · unfold m_abs at e
    split at e
    · obtain ⟨_, rfl⟩ := m_bif e; exact ⟨_, _, _, rfl⟩
    · cases e
  intro p l e R s m args below meth c d h0 Q X ls st h pc1 ls1 st1 eq H locs al cells slots hS hH hro hL hcl hsl kk
  obtain ⟨hx, hb, hml, hr, hown, hlk, hnm, hts, hW, hsz, hrl, hfr, hlo⟩ := X
  unfold m_abs at eq
  split at eq
  · rename_i x st2
    obtain ⟨hq, e3⟩ := m_bif eq
    cases e3
    have h8 := m_ble hq
    exact va_mabs hx hb (hml.trans hL.2.1.symm) hown (hts _ hw1) (hts _ hw2) (hts _ hw3) (hts _ hw4) (by omega) (by rw [m_cs_cv]; omega) hcl hsl hdg (kk al hL)
  · cases eq
end
end
section
/-! arraycopy, calls, returns; the plain machine's runs are the JVM's -/
section
variable {D : va_G} {cA : Nat → ClassId} {ra : Nat → Nat} {B : Nat} {ro : List (List Int32)} {M : List m_Mt} {cc : ByteArray} {nL : Nat} {ret : Option FieldType} {own nm : String} {pc : Nat} {o : m_Op}
theorem m_copy_spec {ls : m_Ls} {st : List Value} {h : m_Hp} {x : m_Res} (e : m_copy pc ls st h = some x) : ∃ (n : Int32) (b a : Nat) (st2 : List Value) (xs ys : List Int32), st = .int n :: .int 0 :: .ref b :: .int 0 :: .ref a :: st2 ∧ h[a]? = some (.inl (0, xs)) ∧ h[b]? = some (.inl (0, ys)) ∧ ¬ n < 0 ∧ n.toNatClampNeg ≤ xs.length ∧ n.toNatClampNeg ≤ ys.length ∧ 3 < b ∧ m_cs st2 ≤ 8 ∧ x = .inl (pc + 3, ls, st2, h.set b (.inl (0, xs.take n.toNatClampNeg ++ ys.drop n.toNatClampNeg))) := by
  unfold m_copy at e
  split at e
  · rename_i n dp b sp a st2
    split at e
    · rename_i xs ys ha hb
      split at e
      · rename_i hc
        obtain ⟨rfl, rfl, h3, h4, h5⟩ := hc
        obtain ⟨hq, e3⟩ := m_bif e
        rw [Bool.and_eq_true] at hq
        exact ⟨n, b, a, st2, xs, ys, rfl, ha, hb, h3, h4, h5, m_blt hq.1, m_ble hq.2, e3⟩
      · cases e
    · cases e
  · cases e
theorem m_ce_cpy {xs ys : List Int32} {n : Nat} (h1 : n ≤ xs.length) (h2 : n ≤ ys.length) : m_ce cA ra B (.inl (0, xs.take n ++ ys.drop n)) = .inl (cA 0, ys.length, .inl (va_cpy (fun j => xs.getD j 0) (fun j => ys.getD j 0) 0 0 n)) := by
  show Sum.inl (cA 0, (xs.take n ++ ys.drop n).length, Sum.inl (fun j => (xs.take n ++ ys.drop n).getD j 0)) = _
  have e : (xs.take n ++ ys.drop n).length = ys.length := by rw [List.length_append, List.length_take, List.length_drop]; omega
  rw [e]
  congr 3
  exact congrArg Sum.inl (funext fun j => m_cpy0 h1 h2 j)
/-- from a row that is only read -/
theorem m_copyR {p : Program} {l : Launch} {e : Env} {R : Room} {s : State} {m : MethodId} {args : Array Value} {below : List Frame} {meth : Method} {c : Code} {H : Heap} {locs : List Loc} {cells slots : Nat} {Q : State → Prop} {al : Array Slot} {rest : List Value} {ws : va_W} {index : Nat}
    (hx : p.tables.exec = Jvm.exec) (hb : c.code = cc) (hml : c.maxLocals = al.size) (hown : s.vm.findClass own = some m.cls) (hlink : (Cond.methodLink own index arraycopyName).before args s = true) (hnat : (Cond.native arraycopyName).before args s = true) (hstat : (Cond.static arraycopyName).before args s = true) (hini : (Cond.initialized "java/lang/System").before args s = true)
    (hK : va_K D vwCl (m_tys cA) s) (hP : va_P D vwCl ws H) (hD : va_D (m_A B) ws) (hS : va_S (m_A B) s.heap H locs) (q1 : Nat) {a0 a N n1 : Nat} {f g : Nat → Int32} (hT : va_T .int a0 N (fun j => .int (f j)) (m_A B) s s.heap) (ha1 : ws[q1]? = some (a, .inl (cA 0, n1, .inl g)))
    {n : Int32} (h3 : ¬ n < 0) (h4 : n.toNatClampNeg ≤ N) (h5 : n.toNatClampNeg ≤ n1)
    (hframes : 1 ≤ R.frames) (hlocals : (rest.map fun v => v.category).sum + (nativeFrameWords "java/lang/System" "arraycopy" 5 + 11) ≤ R.locals) (hdg : decode cc pc = .ok (.invokestatic index, 3))
    (kk : ∀ (H1 : Heap) (locs1 : List Loc), va_P D vwCl (ws.set q1 (a, .inl (cA 0, n1, .inl (va_cpy f g 0 0 n.toNatClampNeg)))) H1 → va_S (m_A B) H H1 locs1 → W p l e R s m args below meth c H1 locs1 cells slots Q (F0 m (pc + 3) al rest)) : W p l e R s m args below meth c H locs cells slots Q (F0 m pc al (.int n :: .int 0 :: .ref a :: .int 0 :: .ref a0 :: rest)) := by
  have nn : ∀ z : Int32, ¬ z < 0 → z.toInt = (z.toNatClampNeg : Int) := by
    intro z hz
    have hz0 : (0 : Int) ≤ z.toInt := by
      have := Int32.not_lt.mp hz
      simpa using Int32.le_iff_toInt_le.mp this
    show z.toInt = ((z.toInt.toNat : Nat) : Int)
    omega
  obtain ⟨cell, c1, c2, c3, c4, c5, c6, c7⟩ := hT
  obtain ⟨co, k0, hk0, cm0, hkk0⟩ := c2
  intro T hT X
  have hc0 : H[a0]? = some cell := by rw [hS.2.1 a0 (Array.getElem?_eq_some_iff.mp c1).1 c7]; exact c1
  have hc1 : H[a]? = some (vp_cell (cA 0) (n1, .inl g)) := hP q1 _ ha1
  obtain ⟨-, k1, hk1, cm1, hkk1⟩ := (hK.2 0 _ m_ty0).1 n1 (fun j => .int (g j))
  have z0 : (0 : Int32).toNatClampNeg = 0 := rfl
  have rd : ∀ i, i < n.toNatClampNeg → cell.slots.getD (0 + i) .null = .int (f i) := fun i hi => by
    rw [Array.getD_eq_getD_getElem?, Nat.zero_add, c6 i (by omega)]; rfl
  obtain ⟨vm', X', step⟩ := X.arraycopy hx hown hlink hnat hstat hini (src := a0) (dst := a) (cs := cell) (cd := vp_cell (cA 0) (n1, .inl g)) (srcPos := 0) (destPos := 0) (n := n) (by rw [hT]; exact hc0) (by rw [hT]; exact hc1)
    co (fun _ h => by cases h) c3 (fun h => by cases h) hk0 hk1 hkk0 hkk1 (by show ((refKind FieldType.int != refKind FieldType.int) || (!refKind FieldType.int && FieldType.int != FieldType.int)) = false; decide) (by decide) (by decide) h3
    (by rw [nn 0 (by decide), nn n h3, z0]; omega)
    (by rw [nn 0 (by decide), nn n h3, z0]; show ¬ _ > ((arrV (cA 0) n1 (fun j => .int (g j))).slots.size : Int); rw [arrV_size]; omega)
    (fun vm₁ _ i hi => by
      rw [z0, rd i hi]
      exact ⟨rfl, trivial⟩)
    (g := F0 m pc al (.int n :: .int 0 :: .ref a :: .int 0 :: .ref a0 :: rest)) rfl (by rw [hml]) (rest := rest) rfl (by rw [hb]; exact hdg) hframes (by show 2 * 0 + _ + _ ≤ _; omega)
  have es : cell.stretch 0 n.toNatClampNeg = (arrV (cA 0) N (fun j => Value.int (f j))).stretch 0 n.toNatClampNeg := by
    unfold Cell.stretch
    apply List.map_congr_left
    intro i hi
    have hi' := List.mem_range.mp hi
    rw [rd i hi', Array.getD_eq_getD_getElem?, arrV_read _ _ (by omega), Nat.zero_add]
    rfl
  have e1 : copied cell (vp_cell (cA 0) (n1, .inl g)) 0 0 n = vp_cell (cA 0) (n1, .inl (va_cpy f g 0 0 n.toNatClampNeg)) := by
    show (arrV (cA 0) n1 (fun j => Value.int (g j))).storeRun 0 (cell.stretch 0 n.toNatClampNeg) = _
    rw [es]
    exact va_copied (fun z => .int z) (cA 0) (cA 0) f g (by omega)
  rw [e1] at X' step
  have hl : a < H.size := (Array.getElem?_eq_some_iff.mp hc1).1
  have hheap : ((T.setVm vm').setCell a (vp_cell (cA 0) (n1, .inl (va_cpy f g 0 0 n.toNatClampNeg)))).heap = H.setIfInBounds a (vp_cell (cA 0) (n1, .inl (va_cpy f g 0 0 n.toNatClampNeg))) := by rw [← hT]; rfl
  have oq : ∀ q : Nat, q ≠ a → (H.setIfInBounds a (vp_cell (cA 0) (n1, .inl (va_cpy f g 0 0 n.toNatClampNeg))))[q]? = H[q]? := fun q hq => by simp [Array.getElem?_setIfInBounds, Ne.symm hq]
  obtain ⟨t, a1, b1⟩ := kk _ _ (hP.set hD ha1 (show (H.setIfInBounds a _)[a]? = some _ by simp [Array.getElem?_setIfInBounds, hl]) oq) ⟨by simp, fun q g1 g2 => oq q (fun e => g2 (by rw [e]; exact hD.2 q1 _ ha1)), fun q hq => by
      rcases List.mem_append.mp hq with h | h
      · exact hS.2.2 q h
      · obtain ⟨z, -, hz⟩ := List.mem_map.mp h
        rw [← hz]
        exact hD.2 q1 _ ha1⟩ _ hheap X'
  exact ⟨t, step t a1, b1⟩
theorem m_s_copy {idx : Nat} (hw1 : Cond.methodLink own idx arraycopyName ∈ m_gd) (hw2 : Cond.native arraycopyName ∈ m_gd) (hw3 : Cond.static arraycopyName ∈ m_gd) (hw4 : Cond.initialized "java/lang/System" ∈ m_gd) (hdg : decode cc pc = .ok (.invokestatic idx, 3)) : m_Snd D cA ra B ro M cc nL ret own nm pc m_copy := by
  refine m_heap (fun ls st h x e => ?_) (fun ls st h pc1 ls1 st1 h1 e _ => ?_) ?_
  · obtain ⟨n, b, a, st2, xs, ys, -, -, -, -, -, -, -, -, z⟩ := m_copy_spec e
    exact ⟨_, z⟩
  · obtain ⟨n, b, a, st2, xs, ys, -, -, hb, -, h4, h5, h3, -, z⟩ := m_copy_spec e
    cases z
    exact m_mono.set hb h3 (by show (xs.take n.toNatClampNeg ++ ys.drop n.toNatClampNeg).length = ys.length; rw [List.length_append, List.length_take, List.length_drop]; omega)
  intro p l e R s m args below meth c d h0 Q X ls st h pc1 ls1 st1 h1 eq h4 hmm hm0 hR H locs al hS hH hro hL hex kk
  obtain ⟨hx, hb, hml, hr, hown, hlk, hnm2, hts, hW, hsz, hrl, hfr, hlo⟩ := X
  obtain ⟨n, b, a, st2, xs, ys, rfl, ha, hb2, g1, g2, g3, g4, g5, z⟩ := m_copy_spec eq
  cases z
  have hz : m_csz (.inl (0, xs.take n.toNatClampNeg ++ ys.drop n.toNatClampNeg)) = m_csz (.inl (0, ys)) := by show (xs.take n.toNatClampNeg ++ ys.drop n.toNatClampNeg).length = ys.length; rw [List.length_append, List.length_take, List.length_drop]; omega
  have hnat : nativeFrameWords "java/lang/System" "arraycopy" 5 = 7 := by decide
  by_cases h3 : 3 < a
  · refine va_copyi (D := D) (H0 := H) (A := m_A B) (sp := 0) (dp := 0) (n := n) hx hb (hml.trans hL.2.1.symm) hown (hts _ hw1) (hts _ hw2) (hts _ hw3) (hts _ hw4) hW.1 hH.1 m_wsD (m_S0 hS) (a - 4) (b - 4) 0 0 (m_ws_get ha h3) (m_ws_get hb2 g4) m_ty0 m_ty0 (by decide) (by decide) (by decide) g1 (by show 0 + _ ≤ _; omega) (by show 0 + _ ≤ _; omega) (fun i _ => rfl) (by omega) (by rw [m_cs_cv, hnat]; omega) hdg (fun H1 locs1 hP1 hD1 hS1 => ?_)
    have k1 := kk H1 locs1 (m_S2 hS hS1) (m_Hd_set g4 (m_ce_cpy g2 g3) hP1 hS1.1 hH) al hL
    rw [m_len_set, m_sz_set hb2 hz] at k1
    exact k1
  · have h3' : a < 4 := Nat.lt_succ_of_le (Nat.le_of_not_lt h3)
    obtain ⟨xs2, f1, f2⟩ := hro.ro h3' ha
    cases f2
    have ea : m_cv ra B (.ref a) = .ref (ra a) := by show Value.ref (m_ad ra B a) = _; rw [m_ad4 h3']
    simp only [List.map_cons]
    rw [ea]
    refine m_copyR (D := D) (cA := cA) (B := B) (n := n) hx hb (hml.trans hL.2.1.symm) hown (hts _ hw1) (hts _ hw2) (hts _ hw3) (hts _ hw4) hW.1 hH.1 m_wsD hS (b - 4) (hW.2.1 a xs f1) (m_ws_get hb2 g4) g1 g2 g3 (by omega) (by rw [m_cs_cv, hnat]; omega) hdg (fun H1 locs1 hP1 hS1 => ?_)
    have k1 := kk H1 locs1 (m_S2 hS hS1) (m_Hd_set g4 (m_ce_cpy g2 g3) hP1 hS1.1 hH) al hL
    rw [m_len_set, m_sz_set hb2 hz] at k1
    exact k1
/-! calls -/
theorem m_Pc_blind {as : List Value} {h : m_Hp} : FrameBlind (m_Pc D cA ra B ro as h) := fun a U g mk q => ⟨q.1, q.2.1, q.2.2.1, m_Wd.same (u := U) rfl q.2.2.2.1, q.2.2.2.2⟩
theorem m_gi {y : MethodName} {b : ByteArray} {k : Nat} {rt : Option FieldType} (h : Cond.code y b k rt ∈ m_gd) : GoodIn m_gd (Cond.code y b k rt :: m_gd) := by
  intro w hw
  have hm : w ∈ m_gd := by
    rcases List.mem_cons.mp hw with e | e
    · rw [e]; exact h
    · exact e
  exact ⟨hm, good_of_word (List.mem_filter.mp hm).2⟩
theorem m_cont {p : Program} {l : Launch} {e : Env} {R : Room} {s : State} {m : MethodId} {args : Array Value} {below : List Frame} {meth : Method} {c : Code} {H : Heap} {locs : List Loc} {cells slots mc ms : Nat} {Q : State → Prop} {al : Array Slot} {st0 rest : List Value} {r1 : Option Value} {h1 : m_Hp} {a0 : Array Value}
    (hr : va_Run p l e R s m args below meth c H locs cells slots mc ms (F0 m pc al st0) rest (m_Qc D cA ra B r1 h1 a0) (m_A B)) (hS : va_S (m_A B) s.heap H locs)
    (kk : ∀ (H1 : Heap) (locs1 : List Loc), va_S (m_A B) s.heap H1 locs1 → m_Hd D cA ra B h1 H1 → W p l e R s m args below meth c H1 locs1 (cells + mc) (slots + ms) Q (F0 m (pc + 3) al ((r1.map (m_cv ra B)).toList ++ rest))) : W p l e R s m args below meth c H locs cells slots Q (F0 m pc al st0) := by
  intro T hT X
  obtain ⟨v, st₀, t, T', L, e0, X', hL, e1, e2, ⟨hv, hHd, hz, hk⟩, st⟩ := hr T hT X
  cases hv
  rw [e0] at hz hk
  obtain ⟨t2, a1, b1⟩ := kk T'.heap (locs ++ L)
    ⟨Nat.le_trans hS.1 (by rw [e1]; exact hz), fun q g1 g2 => by rw [e1, hk q (Nat.lt_of_lt_of_le g1 hS.1) g2]; exact hS.2.1 q g1 g2, fun q hq => by
      rcases List.mem_append.mp hq with h | h
      · exact hS.2.2 q h
      · exact hL q h⟩ (by rw [e1]; exact hHd) T' rfl X'
  exact ⟨t2, st t2 a1, b1⟩
theorem m_Pc_at {p : Program} {R : Room} {s : State} {m : MethodId} {args : Array Value} {meth : Method} {c : Code} {d : Nat} {h0 h : m_Hp} {H : Heap} {locs : List Loc} {as : List Value} (X : m_Cx D cA ra B ro p R s m args meth c cc nL ret own nm d h0) (hS : va_S (m_A B) s.heap H locs) (hH : m_Hd D cA ra B h H) (hro : m_Rd ro h) (hex : H.size + 4 = B + h.length) (U : State) (hU : U.heap = H) (hWU : s.WarmedH U.vm) : m_Pc D cA ra B ro as h (as.map (m_cv ra B)).toArray U := by
  obtain ⟨hx, hb, hml, hr, hown, hlk, hnm, hts, hW, hsz, hrl, hfr, hlo⟩ := X
  refine ⟨rfl, by rw [hU]; exact hH, by rw [hU]; omega, ?_, hro, hrl⟩
  rw [hU]
  exact (hW.kept hS.1 (fun a g1 g2 => hS.2.1 a g1 g2)).warm hWU
theorem m_call_go {p : Program} {l : Launch} {e : Env} {R : Room} {s : State} {m : MethodId} {args : Array Value} {below : List Frame} {meth : Method} {c : Code} {d : Nat} {h0 h h1 : m_Hp} {Q : State → Prop} {ls : m_Ls} {st rest as : List Value} {r1 : Option Value} {q : m_Mt}
    (X : m_Cx D cA ra B ro p R s m args meth c cc nL ret own nm d h0) (hm : m_mono h h1) (hm0 : m_mono h0 h) (hR : m_Rm R h0 h1) (hmet : m_Met D cA ra B ro l d q as h r1 h1)
    (run : ∀ (H : Heap) (locs : List Loc) (al : Array Slot), va_S (m_A B) s.heap H locs → m_Hd D cA ra B h H → al.size = nL → (∀ U : State, U.heap = H → s.WarmedH U.vm → m_Pc D cA ra B ro as h (as.map (m_cv ra B)).toArray U) → (h.length - h0.length + (h1.length - h.length) ≤ R.cells ∧ m_sz h - m_sz h0 + (m_sz h1 - m_sz h) ≤ R.slots) → va_Run p l e R s m args below meth c H locs (h.length - h0.length) (m_sz h - m_sz h0) (h1.length - h.length) (m_sz h1 - m_sz h) (F0 m pc al (st.map (m_cv ra B))) (rest.map (m_cv ra B)) (m_Qc D cA ra B r1 h1 (as.map (m_cv ra B)).toArray) (m_A B))
    (kk : m_Zp D cA ra B ro p l e R s m args below meth c nL Q h0 (pc + 3) ls (r1.toList ++ rest) h1) : m_Zp D cA ra B ro p l e R s m args below meth c nL Q h0 pc ls st h := by
  intro H locs al hS hH hro hL
  refine m_Wsize fun hup => ?_
  have hsz := X.2.2.2.2.2.2.2.2.2.1
  have h5 := hm0.1
  have h6 := hH.2
  have h7 := hm.1
  have h8 := hm.2.1
  have h9 := hm0.2.1
  obtain ⟨k1, k2⟩ := hR
  refine m_cont (run H locs al hS hH hL.2.1 (m_Pc_at X hS hH hro (by omega)) (by omega)) hS (fun H1 locs1 hS1 hH1 => ?_)
  have k3 := kk H1 locs1 al hS1 hH1 (hro.mono hm) hL
  rw [List.map_append] at k3
  have e1 : h.length - h0.length + (h1.length - h.length) = h1.length - h0.length := by omega
  have e2 : m_sz h - m_sz h0 + (m_sz h1 - m_sz h) = m_sz h1 - m_sz h0 := by omega
  rw [e1, e2]
  have e3 : (r1.map (m_cv ra B)).toList = r1.toList.map (m_cv ra B) := by cases r1 <;> rfl
  rw [e3]
  exact k3
theorem m_cst_spec {z n : Nat} {ls : m_Ls} {st : List Value} {h : m_Hp} {x : m_Res} (e : m_cst z n pc ls st h = some x) : n ≤ st.length ∧ m_cs (st.drop n) ≤ 8 ∧ x = .inr (.inl (z, (st.take n).reverse, st.drop n)) := by
  unfold m_cst at e
  obtain ⟨hq, e3⟩ := m_bif e
  rw [Bool.and_eq_true, Bool.and_eq_true] at hq
  exact ⟨m_ble hq.1.1, m_ble hq.1.2, e3⟩
theorem m_st_cut {st : List Value} {n : Nat} : st.map (m_cv ra B) = (((st.take n).reverse).map (m_cv ra B)).reverse ++ (st.drop n).map (m_cv ra B) := by
  rw [← List.map_reverse, List.reverse_reverse, ← List.map_append, List.take_append_drop]
/-- a static call -/
theorem m_s_cst {z n idx : Nat} {y : MethodName} {b : ByteArray} {k : Nat} {rt : Option FieldType} (hM : M[z]? = some (y, b, k, rt)) (hk : k ≤ 22) (hlk : Cond.methodLink own idx y ∈ m_gd ∨ ∃ host, Cond.methodLinkNest own idx y host ∈ m_nest) (hst : Cond.static y ∈ m_gd) (hin : Cond.initialized y.cls ∈ m_gd) (hcd : Cond.code y b k rt ∈ m_gd)
    (hd : y.cls ≠ "java/lang/invoke/MethodHandle" ∧ y.cls ≠ "java/lang/invoke/VarHandle" ∧ (parseMethodDescriptor y.desc).map (fun d => d.parameters.length) = some n) (hdg : decode cc pc = .ok (.invokestatic idx, 3)) : m_Snd D cA ra B ro M cc nL ret own nm pc (m_cst z n) := by
  refine ⟨⟨fun ls st h pc1 ls1 st1 h1 e _ => (by obtain ⟨_, _, z⟩ := m_cst_spec e; cases z), fun ls st h v e => (by obtain ⟨_, _, z⟩ := m_cst_spec e; cases z)⟩, ?_⟩
  intro p l e R s m args below meth c d h0 Q X
  refine ⟨fun ls st h pc1 ls1 st1 h1 e => (by obtain ⟨_, _, z⟩ := m_cst_spec e; cases z), ?_, fun ls st h v e => (by obtain ⟨_, _, z⟩ := m_cst_spec e; cases z)⟩
  intro ls st h z2 as rest r1 h1 eq hm hmet hm0 hR kk
  obtain ⟨g1, g2, g3⟩ := m_cst_spec eq
  cases g3
  have met := hmet _ hM
  refine m_call_go X hm hm0 hR met (fun H locs al hS hH hal hPc hroom => ?_) kk
  obtain ⟨hx, hb, hml, hr, hown, hlk2, hnm, hts, hW, hsz, hrl, hfr, hlo⟩ := X
  have hstk : st.map (m_cv ra B) = (((st.take n).reverse).map (m_cv ra B)).reverse ++ (st.drop n).map (m_cv ra B) := m_st_cut
  have hlen : (((st.take n).reverse).map (m_cv ra B)).length = n := by rw [List.length_map, List.length_reverse, List.length_take]; omega
  have hrm : (m_rm d h h1).frames + 1 ≤ R.frames ∧ 8 + (k + 11) + (m_rm d h h1).locals ≤ R.locals := ⟨hfr, by show 8 + (k + 11) + (41 * d + 40) ≤ R.locals; omega⟩
  rcases hlk with hl | ⟨host, hl⟩
  · exact va_runS (n := n) (nL := nL) ⟨hx, hb, hml, hown, hts⟩ met ⟨callB_of n hts (m_gi hcd) rfl rfl rfl (hts _ hin) (hts _ hl) hd hrm, hts _ hst⟩ ⟨m_Pc_blind, hPc⟩ rfl hlen hal hstk (lv_room (by rw [m_cs_cv]; exact g2)) hdg hroom
  · exact va_runSN (n := n) (nL := nL) (host := host) ⟨hx, hb, hml, hown, hts⟩ met ⟨va_cnB n hts (m_gi hcd) rfl rfl rfl (hW.2.2.2.2.2.1 _ hl) (hts _ hin) hd hrm, hts _ hst, trivial⟩ ⟨m_Pc_blind, hPc⟩ rfl hlen hal hstk (lv_room (by rw [m_cs_cv]; exact g2)) hdg hroom
theorem m_cob_spec {z n ci : Nat} {ls : m_Ls} {st : List Value} {h : m_Hp} {x : m_Res} (e : m_cob z n ci pc ls st h = some x) : ∃ (a : Nat) (rest fs : List Value), st.drop n = .ref a :: rest ∧ h[a]? = some (.inr (.inl (ci, fs))) ∧ 3 < a ∧ m_cs rest ≤ 8 ∧ x = .inr (.inl (z, .ref a :: (st.take n).reverse, rest)) := by
  unfold m_cob at e
  split at e
  · rename_i a rest hdrop
    split at e
    · rename_i cj fs hh
      obtain ⟨hq, e3⟩ := m_bif e
      rw [Bool.and_eq_true, Bool.and_eq_true, Bool.and_eq_true] at hq
      obtain ⟨⟨⟨q1, q2⟩, q3⟩, q4⟩ := hq
      have e1 := m_beq q1
      subst e1
      exact ⟨a, rest, fs, hdrop, hh, m_blt q2, m_ble q3, e3⟩
    · cases e
  · cases e
theorem m_st_cut2 {st rest : List Value} {n a : Nat} (h : st.drop n = .ref a :: rest) : st.map (m_cv ra B) = (((st.take n).reverse).map (m_cv ra B)).reverse ++ .ref (m_ad ra B a) :: rest.map (m_cv ra B) := by
  rw [m_st_cut (n := n), h]; rfl
theorem m_drop_len {st rest : List Value} {n a : Nat} (h : st.drop n = .ref a :: rest) : n ≤ st.length := by
  have := congrArg List.length h
  rw [List.length_drop, List.length_cons] at this
  omega
/-- a call of an object's method -/
theorem m_s_cob {z n idx ci N : Nat} {T : u_T} {y : MethodName} {b : ByteArray} {k : Nat} {rt : Option FieldType} (hM : M[z]? = some (y, b, k, rt)) (hc : vwCl[ci]? = some (y.cls, T, N)) (hk : k ≤ 22) (hlk : Cond.methodLink own idx y ∈ m_gd ∨ ∃ host, Cond.methodLinkNest own idx y host ∈ m_nest) (him : Cond.instanceMethod y ∈ m_gd) (hsl : Cond.selects y.cls y y ∈ m_gd) (hin : Cond.initialized y.cls ∈ m_gd) (hcd : Cond.code y b k rt ∈ m_gd)
    (hd : y.cls ≠ "java/lang/invoke/MethodHandle" ∧ y.cls ≠ "java/lang/invoke/VarHandle" ∧ (parseMethodDescriptor y.desc).map (fun d => d.parameters.length) = some n) (hdg : decode cc pc = .ok (.invokevirtual idx, 3)) : m_Snd D cA ra B ro M cc nL ret own nm pc (m_cob z n ci) := by
  refine ⟨⟨fun ls st h pc1 ls1 st1 h1 e _ => (by obtain ⟨_, _, _, _, _, _, _, z⟩ := m_cob_spec e; cases z), fun ls st h v e => (by obtain ⟨_, _, _, _, _, _, _, z⟩ := m_cob_spec e; cases z)⟩, ?_⟩
  intro p l e R s m args below meth c d h0 Q X
  refine ⟨fun ls st h pc1 ls1 st1 h1 e => (by obtain ⟨_, _, _, _, _, _, _, z⟩ := m_cob_spec e; cases z), ?_, fun ls st h v e => (by obtain ⟨_, _, _, _, _, _, _, z⟩ := m_cob_spec e; cases z)⟩
  intro ls st h z2 as rest r1 h1 eq hm hmet hm0 hR kk
  obtain ⟨a, rest2, fs, g0, g1, g2, g3, g4⟩ := m_cob_spec eq
  cases g4
  have met := hmet _ hM
  refine m_call_go X hm hm0 hR met (fun H locs al hS hH hal hPc hroom => ?_) kk
  obtain ⟨hx, hb, hml, hr, hown, hlk2, hnm, hts, hW, hsz, hrl, hfr, hlo⟩ := X
  have hstk := m_st_cut2 (ra := ra) (B := B) g0
  have hln := m_drop_len g0
  have hlen : (((st.take n).reverse).map (m_cv ra B)).length = n := by rw [List.length_map, List.length_reverse, List.length_take]; omega
  have hrm : (m_rm d h h1).frames + 1 ≤ R.frames ∧ 8 + (k + 11) + (m_rm d h h1).locals ≤ R.locals := ⟨hfr, by show 8 + (k + 11) + (41 * d + 40) ≤ R.locals; omega⟩
  have hrecv := va_recv hW.1 hH.1 hc (m_ws_get (cA := cA) (ra := ra) (B := B) g1 g2)
  rcases hlk with hl | ⟨host, hl⟩
  · exact va_runV (n := n) (nL := nL) (C := y.cls) (b := m_ad ra B a) ⟨hx, hb, hml, hown, hts⟩ met ⟨callB_of n hts (m_gi hcd) rfl rfl rfl (hts _ hin) (hts _ hl) hd hrm, hts _ him, hts _ hsl⟩ ⟨m_Pc_blind, hrecv, hPc⟩ rfl hlen hal hstk (lv_room (by rw [m_cs_cv]; exact g3)) hdg hroom
  · exact va_runVN (n := n) (nL := nL) (host := host) (C := y.cls) (b := m_ad ra B a) ⟨hx, hb, hml, hown, hts⟩ met ⟨va_cnB n hts (m_gi hcd) rfl rfl rfl (hW.2.2.2.2.2.1 _ hl) (hts _ hin) hd hrm, hts _ him, hts _ hsl⟩ ⟨m_Pc_blind, hrecv, hPc⟩ rfl hlen hal hstk (lv_room (by rw [m_cs_cv]; exact g3)) hdg hroom
/-- a constructor's call -/
theorem m_s_cin {z n idx ci N : Nat} {T : u_T} {y : MethodName} {b : ByteArray} {k : Nat} (hM : M[z]? = some (y, b, k, none)) (hc : vwCl[ci]? = some (y.cls, T, N)) (hk : k ≤ 22) (hy : y.name = "<init>") (hlk : Cond.methodLink own idx y ∈ m_gd ∨ ∃ host, Cond.methodLinkNest own idx y host ∈ m_nest) (him : Cond.instanceMethod y ∈ m_gd) (hin : Cond.initialized y.cls ∈ m_gd) (hcd : Cond.code y b k none ∈ m_gd)
    (hd : y.cls ≠ "java/lang/invoke/MethodHandle" ∧ y.cls ≠ "java/lang/invoke/VarHandle" ∧ (parseMethodDescriptor y.desc).map (fun d => d.parameters.length) = some n) (hdg : decode cc pc = .ok (.invokespecial idx, 3)) : m_Snd D cA ra B ro M cc nL ret own nm pc (m_cob z n ci) := by
  refine ⟨⟨fun ls st h pc1 ls1 st1 h1 e _ => (by obtain ⟨_, _, _, _, _, _, _, z⟩ := m_cob_spec e; cases z), fun ls st h v e => (by obtain ⟨_, _, _, _, _, _, _, z⟩ := m_cob_spec e; cases z)⟩, ?_⟩
  intro p l e R s m args below meth c d h0 Q X
  refine ⟨fun ls st h pc1 ls1 st1 h1 e => (by obtain ⟨_, _, _, _, _, _, _, z⟩ := m_cob_spec e; cases z), ?_, fun ls st h v e => (by obtain ⟨_, _, _, _, _, _, _, z⟩ := m_cob_spec e; cases z)⟩
  intro ls st h z2 as rest r1 h1 eq hm hmet hm0 hR kk
  obtain ⟨a, rest2, fs, g0, g1, g2, g3, g4⟩ := m_cob_spec eq
  cases g4
  have met := hmet _ hM
  refine m_call_go X hm hm0 hR met (fun H locs al hS hH hal hPc hroom => ?_) kk
  obtain ⟨hx, hb, hml, hr, hown, hlk2, hnm, hts, hW, hsz, hrl, hfr, hlo⟩ := X
  have hstk := m_st_cut2 (ra := ra) (B := B) g0
  have hln := m_drop_len g0
  have hlen : (((st.take n).reverse).map (m_cv ra B)).length = n := by rw [List.length_map, List.length_reverse, List.length_take]; omega
  have hrm : (m_rm d h h1).frames + 1 ≤ R.frames ∧ 8 + (k + 11) + (m_rm d h h1).locals ≤ R.locals := ⟨hfr, by show 8 + (k + 11) + (41 * d + 40) ≤ R.locals; omega⟩
  rcases hlk with hl | ⟨host, hl⟩
  · exact va_runI (n := n) (nL := nL) (b := m_ad ra B a) ⟨hx, hb, hml, hown, hts⟩ met ⟨callB_of n hts (m_gi hcd) rfl rfl rfl (hts _ hin) (hts _ hl) hd hrm, hy, hts _ him⟩ ⟨m_Pc_blind, hPc⟩ rfl hlen hal hstk (lv_room (by rw [m_cs_cv]; exact g3)) hdg hroom
  · exact va_runIN (n := n) (nL := nL) (host := host) (b := m_ad ra B a) ⟨hx, hb, hml, hown, hts⟩ met ⟨va_cnB n hts (m_gi hcd) rfl rfl rfl (hW.2.2.2.2.2.1 _ hl) (hts _ hin) hd hrm, hy, hts _ him⟩ ⟨m_Pc_blind, hPc⟩ rfl hlen hal hstk (lv_room (by rw [m_cs_cv]; exact g3)) hdg hroom
end
end
section
/-! returns; a run of the plain machine is a contract of the JVM's method -/
section
variable {D : va_G} {cA : Nat → ClassId} {ra : Nat → Nat} {B : Nat} {ro : List (List Int32)} {M : List m_Mt} {cc : ByteArray} {nL : Nat} {ret : Option FieldType} {own nm : String} {pc : Nat} {o : m_Op}
theorem m_end (hn : ∀ (ls : m_Ls) (st : List Value) (h : m_Hp) (x : m_Res), o pc ls st h = some x → ∃ v, x = .inr (.inr v) ∧ m_Rt cc pc st v)
    (hz : ∀ (p : Program) (l : Launch) (e : Env) (R : Room) (s : State) (m : MethodId) (args : Array Value) (below : List Frame) (meth : Method) (c : Code) (d : Nat) (h0 : m_Hp), m_Cx D cA ra B ro p R s m args meth c cc nL ret own nm d h0 →
      ∀ (ls : m_Ls) (st : List Value) (h : m_Hp) (v : Option Value), o pc ls st h = some (.inr (.inr v)) → ∀ (H : Heap) (locs : List Loc) (al : Array Slot) (cells slots : Nat), va_S (m_A B) s.heap H locs → m_Hd D cA ra B h H → W p l e R s m args below meth c H locs cells slots (MQ below (m_Qc D cA ra B v h) args s cells slots (m_A B)) (F0 m pc al (st.map (m_cv ra B)))) : m_Snd D cA ra B ro M cc nL ret own nm pc o := by
  refine ⟨⟨fun ls st h pc1 ls1 st1 h1 eq h4 => ?_, fun ls st h v eq => ?_⟩, ?_⟩
  · obtain ⟨v, q, -⟩ := hn ls st h _ eq
    cases q
  · obtain ⟨v, q, q2⟩ := hn ls st h _ eq
    cases q
    exact q2
  intro p l e R s m args below meth c d h0 Q X
  refine ⟨fun ls st h pc1 ls1 st1 h1 eq h4 => ?_, fun ls st h z as rest r1 h1 eq => ?_, fun ls st h v eq hm hQ => ?_⟩
  · obtain ⟨v, q, -⟩ := hn ls st h _ eq
    cases q
  · obtain ⟨v, q, -⟩ := hn ls st h _ eq
    cases q
  · subst hQ
    intro H locs al hS hH hro hL
    exact hz p l e R s m args below meth c d h0 X ls st h v eq H locs al _ _ hS hH
theorem m_s_iret (hR : ret = some .int) (hdg : decode cc pc = .ok (.ireturn, 1)) : m_Snd D cA ra B ro M cc nL ret own nm pc m_iret := by
  refine m_end (fun ls st h x e => ?_) ?_
  · unfold m_iret at e
    split at e
    · cases e; exact ⟨_, rfl, Or.inl ⟨_, rfl, rfl, hdg⟩⟩
    · cases e
  intro p l e R s m args below meth c d h0 X ls st h v eq H locs al cells slots hS hH
  obtain ⟨hx, hb, hml, hr, hown, hlk, hnm, hts, hW, hsz, hrl, hfr, hlo⟩ := X
  unfold m_iret at eq
  split at eq
  · cases eq
    exact W.iret hx hb (hr.trans hR) (fun t ht hw => ⟨rfl, by rw [ht]; exact hH, hS.F ht⟩) hS.2.2 hdg (hlocks := hlk)
  · cases eq
theorem m_s_zret {ty : FieldType} {f : Int32 → Int32} (hR : ret = some ty) (hn : ∀ x, f x = x → narrow ty (.int x) = .int x) (hdg : decode cc pc = .ok (.ireturn, 1)) : m_Snd D cA ra B ro M cc nL ret own nm pc (m_zret f) := by
  refine m_end (fun ls st h x e => ?_) ?_
  · unfold m_zret at e
    split at e
    · split at e
      · cases e; exact ⟨_, rfl, Or.inl ⟨_, rfl, rfl, hdg⟩⟩
      · cases e
    · cases e
  intro p l e R s m args below meth c d h0 X ls st h v eq H locs al cells slots hS hH
  obtain ⟨hx, hb, hml, hr, hown, hlk, hnm, hts, hW, hsz, hrl, hfr, hlo⟩ := X
  unfold m_zret at eq
  split at eq
  · split at eq
    · rename_i hf
      cases eq
      exact W.zret hx hb (hr.trans hR) (hn _ hf) (fun t ht hw => ⟨rfl, by rw [ht]; exact hH, hS.F ht⟩) hS.2.2 hdg (hlocks := hlk)
    · cases eq
  · cases eq
theorem m_s_fret (hR : ret = some .float) (hdg : decode cc pc = .ok (.freturn, 1)) : m_Snd D cA ra B ro M cc nL ret own nm pc m_fret := by
  refine m_end (fun ls st h x e => ?_) ?_
  · unfold m_fret at e
    split at e
    · cases e; exact ⟨_, rfl, Or.inr (fun x z => by cases z)⟩
    · cases e
  intro p l e R s m args below meth c d h0 X ls st h v eq H locs al cells slots hS hH
  obtain ⟨hx, hb, hml, hr, hown, hlk, hnm, hts, hW, hsz, hrl, hfr, hlo⟩ := X
  unfold m_fret at eq
  split at eq
  · cases eq
    exact W.fret hx hb (hr.trans hR) (fun t ht hw => ⟨rfl, by rw [ht]; exact hH, hS.F ht⟩) hS.2.2 hdg (hlocks := hlk)
  · cases eq
theorem m_s_lret (hR : ret = some .long) (hdg : decode cc pc = .ok (.lreturn, 1)) : m_Snd D cA ra B ro M cc nL ret own nm pc m_lret := by
  refine m_end (fun ls st h x e => ?_) ?_
  · unfold m_lret at e
    split at e
    · cases e; exact ⟨_, rfl, Or.inr (fun x z => by cases z)⟩
    · cases e
  intro p l e R s m args below meth c d h0 X ls st h v eq H locs al cells slots hS hH
  obtain ⟨hx, hb, hml, hr, hown, hlk, hnm, hts, hW, hsz, hrl, hfr, hlo⟩ := X
  unfold m_lret at eq
  split at eq
  · cases eq
    exact W.lret hx hb (hr.trans hR) (fun t ht hw => ⟨rfl, by rw [ht]; exact hH, hS.F ht⟩) hS.2.2 hdg (hlocks := hlk)
  · cases eq
theorem m_s_aret {n : String} (hR : ret = some (.object n)) (hdg : decode cc pc = .ok (.areturn, 1)) : m_Snd D cA ra B ro M cc nL ret own nm pc m_aret := by
  refine m_end (fun ls st h x e => ?_) ?_
  · unfold m_aret at e
    split at e
    · cases e; exact ⟨_, rfl, Or.inr (fun x z => by cases z)⟩
    · cases e; exact ⟨_, rfl, Or.inr (fun x z => by cases z)⟩
    · cases e
  intro p l e R s m args below meth c d h0 X ls st h v eq H locs al cells slots hS hH
  obtain ⟨hx, hb, hml, hr, hown, hlk, hnm, hts, hW, hsz, hrl, hfr, hlo⟩ := X
  unfold m_aret at eq
  split at eq
  · cases eq
    exact W.aret hx hb (hr.trans hR) (Or.inl ⟨n, rfl⟩) (Or.inr ⟨_, rfl⟩) (fun t ht hw => ⟨rfl, by rw [ht]; exact hH, hS.F ht⟩) hS.2.2 hdg (hlocks := hlk)
  · cases eq
    exact W.aret hx hb (hr.trans hR) (Or.inl ⟨n, rfl⟩) (Or.inl rfl) (fun t ht hw => ⟨rfl, by rw [ht]; exact hH, hS.F ht⟩) hS.2.2 hdg (hlocks := hlk)
  · cases eq
theorem m_s_vret (hR : ret = none) (hdg : decode cc pc = .ok (.return_, 1)) : m_Snd D cA ra B ro M cc nL ret own nm pc m_vret := by
  refine m_end (fun ls st h x e => ?_) ?_
  · unfold m_vret at e
    split at e
    · cases e; exact ⟨_, rfl, Or.inr (fun x z => by cases z)⟩
    · cases e
  intro p l e R s m args below meth c d h0 X ls st h v eq H locs al cells slots hS hH
  obtain ⟨hx, hb, hml, hr, hown, hlk, hnm, hts, hW, hsz, hrl, hfr, hlo⟩ := X
  unfold m_vret at eq
  split at eq
  · cases eq
    exact W.vret hx hb (hr.trans hR) (fun t ht hw => ⟨rfl, by rw [ht]; exact hH, hS.F ht⟩) hS.2.2 hdg (hlocks := hlk)
  · cases eq
/-! a table, all its rows -/
theorem m_at_nil {F : Nat → m_Op → Prop} : ∀ pc o, m_at [] pc = some o → F pc o := fun _ _ h => by cases h
theorem m_at_cons {F : Nat → m_Op → Prop} {k : Nat} {o : m_Op} {l : m_Tab} (h1 : F k o) (h2 : ∀ pc o, m_at l pc = some o → F pc o) : ∀ pc o2, m_at ((k, o) :: l) pc = some o2 → F pc o2 := by
  intro pc o2 h
  rw [m_at] at h
  cases hk : Nat.beq k pc with
  | true =>
    rw [hk] at h
    cases h
    have := m_beq hk
    subst this
    exact h1
  | false =>
    rw [hk] at h
    exact h2 pc o2 h
theorem m_at_split : ∀ (l1 l2 : m_Tab) (pc : Nat) (o : m_Op), m_at (l1 ++ l2) pc = some o → m_at l1 pc = some o ∨ m_at l2 pc = some o
  | [], _, _, _, h => Or.inr h
  | (k, x) :: l, l2, pc, o, h => by
    rw [List.cons_append, m_at] at h
    rw [m_at]
    cases hk : Nat.beq k pc with
    | true => rw [hk] at h; exact Or.inl h
    | false => rw [hk] at h; exact m_at_split l l2 pc o h
theorem m_at_app {F : Nat → m_Op → Prop} {l1 l2 : m_Tab} (h1 : ∀ pc o, m_at l1 pc = some o → F pc o) (h2 : ∀ pc o, m_at l2 pc = some o → F pc o) : ∀ pc o, m_at (l1 ++ l2) pc = some o → F pc o := fun pc o h => (m_at_split l1 l2 pc o h).elim (h1 pc o) (h2 pc o)
def m_TS (D : va_G) (cA : Nat → ClassId) (ra : Nat → Nat) (B : Nat) (ro : List (List Int32)) (M : List m_Mt) (q : m_Mt) (w : m_Tab × Nat) : Prop := w.2 = q.2.2.1 ∧ plainName q.1.cls = true ∧ ∀ pc o, m_at w.1 pc = some o → m_Snd D cA ra B ro M q.2.1 q.2.2.1 q.2.2.2 q.1.cls q.1.name pc o
def m_PS (D : va_G) (cA : Nat → ClassId) (ra : Nat → Nat) (B : Nat) (ro : List (List Int32)) (M : List m_Mt) (P : m_Prog) : Prop := ∀ (z : Nat) (w : m_Tab × Nat), P[z]? = some w → ∃ q, M[z]? = some q ∧ m_TS D cA ra B ro M q w
theorem m_ex_mono {C : m_CR} {tab : m_Tab} (hT : ∀ pc o, m_at tab pc = some o → ∀ (ls : m_Ls) (st : List Value) (h : m_Hp) (pc1 : Nat) (ls1 : m_Ls) (st1 : List Value) (h1 : m_Hp), o pc ls st h = some (.inl (pc1, ls1, st1, h1)) → 4 ≤ h.length → m_mono h h1) (hC : ∀ z as h r h1, C z as h r h1 → 4 ≤ h.length → m_mono h h1) : ∀ (n pc : Nat) (ls : m_Ls) (st : List Value) (h : m_Hp) (r : Option Value) (h' : m_Hp), m_Ex C tab n pc ls st h r h' → 4 ≤ h.length → m_mono h h' := by
  intro n
  induction n with
  | zero => intro _ _ _ _ _ _ k; exact k.elim
  | succ n ih =>
    intro pc ls st h r h' k h4
    obtain ⟨op, x, e1, e2, k⟩ := k
    rcases x with ⟨p1, l1, s1, h1⟩ | ⟨z, as, rest⟩ | v
    · have m1 := hT pc op e1 ls st h p1 l1 s1 h1 e2 h4
      exact m1.tr (ih _ _ _ _ _ _ k (Nat.le_trans h4 m1.1))
    · obtain ⟨r1, h1, c1, k⟩ := k
      have m1 := hC _ _ _ _ _ c1 h4
      exact m1.tr (ih _ _ _ _ _ _ k (Nat.le_trans h4 m1.1))
    · obtain ⟨-, rfl⟩ := k
      exact m_mono.rf
theorem m_call_mono {P : m_Prog} (hP : m_PS D cA ra B ro M P) : ∀ (d z : Nat) (as : List Value) (h : m_Hp) (r : Option Value) (h' : m_Hp), m_Call P d z as h r h' → 4 ≤ h.length → m_mono h h' := by
  intro d
  induction d with
  | zero => intro _ _ _ _ _ k; exact k.elim
  | succ d ih =>
    intro z as h r h' k h4
    obtain ⟨w, n, hw, -, k⟩ := k
    obtain ⟨q, -, -, -, hT⟩ := hP z w hw
    exact m_ex_mono (fun pc o e => (hT pc o e).1.1) ih n 0 _ _ h r h' k h4
theorem m_ex_go {p : Program} {l : Launch} {e : Env} {R : Room} {s : State} {m : MethodId} {args : Array Value} {below : List Frame} {meth : Method} {c : Code} {d : Nat} {h0 h' : m_Hp} {r : Option Value} {Q : State → Prop} {C : m_CR} {tab : m_Tab}
    (X : m_Cx D cA ra B ro p R s m args meth c cc nL ret own nm d h0) (hT : ∀ pc o, m_at tab pc = some o → m_Snd D cA ra B ro M cc nL ret own nm pc o) (hCm : ∀ z as h r h1, C z as h r h1 → 4 ≤ h.length → m_mono h h1) (hC : ∀ z as h r h1, C z as h r h1 → 4 ≤ h.length → ∀ q, M[z]? = some q → m_Met D cA ra B ro l d q as h r h1)
    (hret : ∀ (pc : Nat) (ls : m_Ls) (st : List Value) (h : m_Hp) (o : m_Op) (v : Option Value), m_at tab pc = some o → o pc ls st h = some (.inr (.inr v)) → m_mono h0 h → r = v → h' = h → m_Zp D cA ra B ro p l e R s m args below meth c nL Q h0 pc ls st h) (h04 : 4 ≤ h0.length) (hR : m_Rm R h0 h') :
    ∀ (n pc : Nat) (ls : m_Ls) (st : List Value) (h : m_Hp), m_Ex C tab n pc ls st h r h' → m_mono h0 h → m_Zp D cA ra B ro p l e R s m args below meth c nL Q h0 pc ls st h := by
  have room : ∀ h1 : m_Hp, m_mono h1 h' → m_Rm R h0 h1 := fun h1 g => ⟨Nat.le_trans (Nat.sub_le_sub_right g.1 _) hR.1, Nat.le_trans (Nat.sub_le_sub_right g.2.1 _) hR.2⟩
  have mono := m_ex_mono (fun pc o e => (hT pc o e).1.1) hCm
  intro n
  induction n with
  | zero => intro _ _ _ _ k; exact k.elim
  | succ n ih =>
    intro pc ls st h k hm0
    have h4 : 4 ≤ h.length := Nat.le_trans h04 hm0.1
    obtain ⟨op, x, e1, e2, k⟩ := k
    have S := (hT pc op e1).2 p l e R s m args below meth c d h0 Q X
    rcases x with ⟨p1, l1, s1, h1⟩ | ⟨z, as, rest⟩ | v
    · have m1 := (hT pc op e1).1.1 ls st h p1 l1 s1 h1 e2 h4
      exact S.1 ls st h p1 l1 s1 h1 e2 h4 hm0 (room h1 (mono n p1 l1 s1 h1 r h' k (Nat.le_trans h4 m1.1))) (ih p1 l1 s1 h1 k (hm0.tr m1))
    · obtain ⟨r1, h1, c1, k⟩ := k
      have m1 := hCm _ _ _ _ _ c1 h4
      exact S.2.1 ls st h z as rest r1 h1 e2 m1 (hC _ _ _ _ _ c1 h4) hm0 (room h1 (mono n _ _ _ h1 r h' k (Nat.le_trans h4 m1.1))) (ih _ _ _ h1 k (hm0.tr m1))
    · exact hret pc ls st h op v e1 e2 hm0 k.1 k.2
/-! the entry -/
theorem m_sl_len : ∀ (vs : List Value), (∀ v ∈ vs, v.category = 1) → (lg_sl vs).length = vs.length
  | [], _ => rfl
  | v :: l, h => by
    have h1 := h v List.mem_cons_self
    have ih := m_sl_len l (fun w hw => h w (List.mem_cons_of_mem _ hw))
    show ((if v.category = 2 then [Slot.val v, Slot.second] else [Slot.val v]) ++ lg_sl l).length = _
    rw [if_neg (by omega)]
    simp only [List.length_append, ih, List.length_cons, List.length_nil]
    omega
theorem m_args_mem : ∀ (vs : List Value) (i j : Nat) (v : Value), (∀ v ∈ vs, v.category = 1) → vs[j]? = some v → (i + j, v) ∈ lv_args i vs
  | [], i, j, v, _, h => by simp at h
  | w :: l, i, j, v, hc, h => by
    have h1 := hc w List.mem_cons_self
    rw [lv_args, if_neg (by omega)]
    cases j with
    | zero => cases h; exact List.mem_cons_self
    | succ j =>
      have := m_args_mem l (i + 1) j v (fun w hw => hc w (List.mem_cons_of_mem _ hw)) h
      rw [show i + 1 + j = i + (j + 1) by omega] at this
      exact List.mem_cons_of_mem _ this
theorem m_Lv_entry {as : List Value} {n : Nat} (hc : (Nat.ble as.length n && as.all m_c1) = true) : m_Lv ra B ((lg_sl (as.map (m_cv ra B)) ++ List.replicate (n - (lg_sl (as.map (m_cv ra B))).length) Slot.unset).toArray) n (m_entry as n) := by
  rw [Bool.and_eq_true] at hc
  have hl := m_ble hc.1
  have hcat : ∀ v ∈ as.map (m_cv ra B), v.category = 1 := by
    intro v hv
    obtain ⟨w, hw, rfl⟩ := List.mem_map.mp hv
    rw [m_cv_c1]
    exact m_c1_cat (List.all_eq_true.mp hc.2 w hw)
  have hlen : (lg_sl (as.map (m_cv ra B))).length ≤ n := by rw [m_sl_len _ hcat, List.length_map]; exact hl
  have h1 := lv_entry (as.map (m_cv ra B)) hlen
  refine ⟨by unfold m_entry; rw [List.length_append, List.length_map, List.length_replicate]; omega, h1.1, h1.2.1, fun i v hi => ?_⟩
  have hi2 : as[i]? = some v := by
    unfold m_entry at hi
    by_cases hlt : i < as.length
    · rw [List.getElem?_append_left (by rw [List.length_map]; exact hlt), List.getElem?_map] at hi
      cases hq : as[i]? with
      | none => rw [hq] at hi; cases hi
      | some w => rw [hq] at hi; cases hi; rfl
    · rw [List.getElem?_append_right (by rw [List.length_map]; omega), List.getElem?_replicate] at hi
      split at hi <;> cases hi
  have h2 := m_args_mem (as.map (m_cv ra B)) 0 i (m_cv ra B v) hcat (by rw [List.getElem?_map, hi2]; rfl)
  rw [Nat.zero_add] at h2
  exact h1.2.2 _ h2
end
end
section
section
variable {D : va_G} {cA : Nat → ClassId} {ra : Nat → Nat} {B : Nat} {ro : List (List Int32)} {M : List m_Mt} {cc : ByteArray} {nL : Nat} {ret : Option FieldType} {own nm : String} {pc : Nat} {o : m_Op}
/-- THE PLAIN MACHINE IS SOUND -/
theorem m_sound {P : m_Prog} (hP : m_PS D cA ra B ro M P) (l : Launch) : ∀ (d z : Nat) (as : List Value) (h : m_Hp) (r : Option Value) (h' : m_Hp), m_Call P d z as h r h' → 4 ≤ h.length → ∀ q, M[z]? = some q → m_Met D cA ra B ro l d q as h r h' := by
  intro d
  induction d with
  | zero => intro _ _ _ _ _ k; exact k.elim
  | succ d ih =>
    intro z as h r h' k h4 q hq
    obtain ⟨w, n, hw, hca, k⟩ := k
    obtain ⟨q2, hq2, hw2, hpl, hT⟩ := hP z w hw
    cases hq.symm.trans hq2
    rw [hw2] at k hca
    unfold m_Met
    refine Met.ofW (cc := q.2.1) (maxL := q.2.2.1) (ret := q.2.2.2) hpl rfl ?_
    intro p e s m args below meth c s₁ Bd hml hv
    obtain ⟨rfl, hH, hex, hW, hro, hrl⟩ := hv
    have hts := atoms_spec (ws := Cond.code q.1 q.2.1 q.2.2.1 q.2.2.2 :: m_gd) Bd.pre
    have X : m_Cx D cA ra B ro p (m_rm (d + 1) h h') s m (as.map (m_cv ra B)).toArray meth c q.2.1 q.2.2.1 q.2.2.2 q.1.cls q.1.name d h :=
      ⟨Bd.exec, Bd.bytes, hml, Bd.returns, findClass_of_methodNamed Bd.named, Bd.notSynchronized, (name_of_methodNamed Bd.named Bd.method).1, fun w hw => hts w (List.mem_cons_of_mem _ hw), hW, hex, hrl, Nat.le_refl _, Nat.le_refl _⟩
    have Z := m_ex_go (l := l) (e := e) (below := below) (Q := MQ below (m_Qc D cA ra B r h') (as.map (m_cv ra B)).toArray s (h'.length - h.length) (m_sz h' - m_sz h) (m_A B)) X hT (m_call_mono hP d) ih
      (fun pc ls st h1 o v e1 e2 hm er eh => by subst er; subst eh; exact ((hT pc o e1).2 p l e _ s m _ below meth c d h _ X).2.2 ls st _ _ e2 hm rfl) h4 ⟨Nat.le_refl _, Nat.le_refl _⟩ n 0 _ _ h k m_mono.rf
    have Z2 := Z s.heap [] _ va_S.rf hH hro (m_Lv_entry hca)
    rw [Nat.sub_self, Nat.sub_self] at Z2
    rw [lg_entry_eq]
    exact Z2
end
end
section
/-! what the tables say, word by word; the methods as tables of the plain machine: printed by wip/whole/gen/gen11.py out of the printed names -/
theorem uw_0 : ∀ w ∈ u_ws RX0 TX0 3, w ∈ m_gd := by decide +kernel
theorem uw_1 : ∀ w ∈ u_ws RX1 TX1 3, w ∈ m_gd := by decide +kernel
theorem uw_2 : ∀ w ∈ u_ws RX2 TX2 3, w ∈ m_gd := by decide +kernel
theorem uw_3 : ∀ w ∈ u_ws RX3 TX3 11, w ∈ m_gd := by decide +kernel
theorem uw_4 : ∀ w ∈ u_ws RX4 TX4 7, w ∈ m_gd := by decide +kernel
theorem uw_5 : ∀ w ∈ u_ws RX5 TX5 6, w ∈ m_gd := by decide +kernel
theorem m_nz : ∀ x : Int32, x &&& 1 = x → narrow .boolean (.int x) = .int x := fun x h => by show Value.int (x &&& 1) = _; rw [h]
theorem m_nc : ∀ x : Int32, x.toUInt32.toUInt16.toUInt32.toInt32 = x → narrow .char (.int x) = .int x := fun x h => by show Value.int _ = _; rw [h]
theorem wd_0 : Cond.methodLink RX0 3 Lib.objectInit ∈ m_gd := List.mem_filter.mpr ⟨List.mem_of_getElem? (i := 102) (by decide +kernel), by decide +kernel⟩
theorem wd_1 : Cond.instanceMethod Lib.objectInit ∈ m_gd := List.mem_filter.mpr ⟨List.mem_of_getElem? (i := 18) (by decide +kernel), by decide +kernel⟩
theorem wd_2 : Cond.code Lib.objectInit ⟨#[0xb1]⟩ 1 none ∈ m_gd := List.mem_filter.mpr ⟨List.mem_of_getElem? (i := 19) (by decide +kernel), by decide +kernel⟩
theorem wd_3 : Cond.classLink RX0 9 RX3 ∈ m_gd := List.mem_filter.mpr ⟨List.mem_of_getElem? (i := 103) (by decide +kernel), by decide +kernel⟩
theorem wd_4 : Cond.fieldLink RX0 11 RX0 (TX0 0).2.1 (TX0 0).2.2.1 ∈ m_gd := List.mem_filter.mpr ⟨List.mem_of_getElem? (i := 106) (by decide +kernel), by decide +kernel⟩
theorem wd_5 : Cond.fieldLink RX0 17 RX0 (TX0 1).2.1 (TX0 1).2.2.1 ∈ m_gd := List.mem_filter.mpr ⟨List.mem_of_getElem? (i := 107) (by decide +kernel), by decide +kernel⟩
theorem wd_6 : Cond.fieldLink RX0 21 RX0 (TX0 2).2.1 (TX0 2).2.2.1 ∈ m_gd := List.mem_filter.mpr ⟨List.mem_of_getElem? (i := 108) (by decide +kernel), by decide +kernel⟩
theorem wd_7 : Cond.instantiable RX3 11 ∈ m_gd := List.mem_filter.mpr ⟨List.mem_of_getElem? (i := 21) (by decide +kernel), by decide +kernel⟩
theorem wd_8 : Cond.initialized RX3 ∈ m_gd := List.mem_filter.mpr ⟨List.mem_of_getElem? (i := 4) (by decide +kernel), by decide +kernel⟩
theorem wd_9 : Cond.methodLink RX0 24 yX3_init ∈ m_gd := List.mem_filter.mpr ⟨List.mem_of_getElem? (i := 105) (by decide +kernel), by decide +kernel⟩
theorem wd_10 : Cond.instanceMethod yX3_init ∈ m_gd := List.mem_filter.mpr ⟨List.mem_of_getElem? (i := 23) (by decide +kernel), by decide +kernel⟩
theorem wd_11 : Cond.code yX3_init cX3_init 2 none ∈ m_gd := List.mem_filter.mpr ⟨List.mem_of_getElem? (i := 24) (by decide +kernel), by decide +kernel⟩
theorem wd_12 : Cond.methodLink RX0 25 yX0_copyTo ∈ m_gd := List.mem_filter.mpr ⟨List.mem_of_getElem? (i := 218) (by decide +kernel), by decide +kernel⟩
theorem wd_13 : Cond.instanceMethod yX0_copyTo ∈ m_gd := List.mem_filter.mpr ⟨List.mem_of_getElem? (i := 220) (by decide +kernel), by decide +kernel⟩
theorem wd_14 : Cond.selects RX0 yX0_copyTo yX0_copyTo ∈ m_gd := List.mem_filter.mpr ⟨List.mem_of_getElem? (i := 0) (by decide +kernel), by decide +kernel⟩
theorem wd_15 : Cond.initialized RX0 ∈ m_gd := List.mem_filter.mpr ⟨List.mem_of_getElem? (i := 6) (by decide +kernel), by decide +kernel⟩
theorem wd_16 : Cond.code yX0_copyTo cX0_copyTo 4 none ∈ m_gd := List.mem_filter.mpr ⟨List.mem_of_getElem? (i := 221) (by decide +kernel), by decide +kernel⟩
theorem wd_17 : Cond.methodLink RX0 29 Lib.Math.min.name ∈ m_gd := List.mem_filter.mpr ⟨List.mem_of_getElem? (i := 222) (by decide +kernel), by decide +kernel⟩
theorem wd_18 : Cond.static Lib.Math.min.name ∈ m_gd := List.mem_filter.mpr ⟨List.mem_of_getElem? (i := 182) (by decide +kernel), by decide +kernel⟩
theorem wd_19 : Cond.initialized "java/lang/Math" ∈ m_gd := List.mem_filter.mpr ⟨List.mem_of_getElem? (i := 8) (by decide +kernel), by decide +kernel⟩
theorem wd_20 : Cond.code Lib.Math.min.name Lib.Math.min.code 2 (some .int) ∈ m_gd := List.mem_filter.mpr ⟨List.mem_of_getElem? (i := 183) (by decide +kernel), by decide +kernel⟩
theorem wd_21 : Cond.methodLink RX0 35 yX3_copyFrom ∈ m_gd := List.mem_filter.mpr ⟨List.mem_of_getElem? (i := 174) (by decide +kernel), by decide +kernel⟩
theorem wd_22 : Cond.instanceMethod yX3_copyFrom ∈ m_gd := List.mem_filter.mpr ⟨List.mem_of_getElem? (i := 175) (by decide +kernel), by decide +kernel⟩
theorem wd_23 : Cond.selects RX3 yX3_copyFrom yX3_copyFrom ∈ m_gd := List.mem_filter.mpr ⟨List.mem_of_getElem? (i := 176) (by decide +kernel), by decide +kernel⟩
theorem wd_24 : Cond.code yX3_copyFrom cX3_copyFrom 3 none ∈ m_gd := List.mem_filter.mpr ⟨List.mem_of_getElem? (i := 177) (by decide +kernel), by decide +kernel⟩
theorem wd_25 : Cond.methodLink RX1 3 Lib.objectInit ∈ m_gd := List.mem_filter.mpr ⟨List.mem_of_getElem? (i := 33) (by decide +kernel), by decide +kernel⟩
theorem wd_26 : Cond.arrayClass .int ∈ m_gd := List.mem_filter.mpr ⟨List.mem_of_getElem? (i := 47) (by decide +kernel), by decide +kernel⟩
theorem wd_27 : Cond.fieldLink RX1 9 RX1 (TX1 0).2.1 (TX1 0).2.2.1 ∈ m_gd := List.mem_filter.mpr ⟨List.mem_of_getElem? (i := 34) (by decide +kernel), by decide +kernel⟩
theorem wd_28 : Cond.fieldLink RX1 15 RX1 (TX1 1).2.1 (TX1 1).2.2.1 ∈ m_gd := List.mem_filter.mpr ⟨List.mem_of_getElem? (i := 35) (by decide +kernel), by decide +kernel⟩
theorem wd_29 : Cond.fieldLink RX1 19 RX1 (TX1 2).2.1 (TX1 2).2.2.1 ∈ m_gd := List.mem_filter.mpr ⟨List.mem_of_getElem? (i := 37) (by decide +kernel), by decide +kernel⟩
theorem wn_30 : Cond.methodLinkNest RX1 23 yX5_copyRow "CardSheets" ∈ m_nest := List.mem_filter.mpr ⟨List.mem_of_getElem? (i := 191) (by decide +kernel), by decide +kernel⟩
theorem wd_31 : Cond.static yX5_copyRow ∈ m_gd := List.mem_filter.mpr ⟨List.mem_of_getElem? (i := 179) (by decide +kernel), by decide +kernel⟩
theorem wd_32 : Cond.initialized RX5 ∈ m_gd := List.mem_filter.mpr ⟨List.mem_of_getElem? (i := 3) (by decide +kernel), by decide +kernel⟩
theorem wd_33 : Cond.code yX5_copyRow cX5_copyRow 2 none ∈ m_gd := List.mem_filter.mpr ⟨List.mem_of_getElem? (i := 180) (by decide +kernel), by decide +kernel⟩
theorem wd_34 : Cond.methodLink RX1 27 yX2_cardCutTo ∈ m_gd := List.mem_filter.mpr ⟨List.mem_of_getElem? (i := 320) (by decide +kernel), by decide +kernel⟩
theorem wd_35 : Cond.instanceMethod yX2_cardCutTo ∈ m_gd := List.mem_filter.mpr ⟨List.mem_of_getElem? (i := 321) (by decide +kernel), by decide +kernel⟩
theorem wd_36 : Cond.selects RX2 yX2_cardCutTo yX2_cardCutTo ∈ m_gd := List.mem_filter.mpr ⟨List.mem_of_getElem? (i := 322) (by decide +kernel), by decide +kernel⟩
theorem wd_37 : Cond.initialized RX2 ∈ m_gd := List.mem_filter.mpr ⟨List.mem_of_getElem? (i := 11) (by decide +kernel), by decide +kernel⟩
theorem wd_38 : Cond.code yX2_cardCutTo cX2_cardCutTo 3 (some .int) ∈ m_gd := List.mem_filter.mpr ⟨List.mem_of_getElem? (i := 323) (by decide +kernel), by decide +kernel⟩
theorem wd_39 : Cond.methodLink RX1 33 yX1_left ∈ m_gd := List.mem_filter.mpr ⟨List.mem_of_getElem? (i := 338) (by decide +kernel), by decide +kernel⟩
theorem wd_40 : Cond.instanceMethod yX1_left ∈ m_gd := List.mem_filter.mpr ⟨List.mem_of_getElem? (i := 339) (by decide +kernel), by decide +kernel⟩
theorem wd_41 : Cond.selects RX1 yX1_left yX1_left ∈ m_gd := List.mem_filter.mpr ⟨List.mem_of_getElem? (i := 340) (by decide +kernel), by decide +kernel⟩
theorem wd_42 : Cond.initialized RX1 ∈ m_gd := List.mem_filter.mpr ⟨List.mem_of_getElem? (i := 5) (by decide +kernel), by decide +kernel⟩
theorem wd_43 : Cond.code yX1_left cX1_left 1 (some .int) ∈ m_gd := List.mem_filter.mpr ⟨List.mem_of_getElem? (i := 341) (by decide +kernel), by decide +kernel⟩
theorem wn_44 : Cond.methodLinkNest RX1 37 yX5_at "CardSheets" ∈ m_nest := List.mem_filter.mpr ⟨List.mem_of_getElem? (i := 346) (by decide +kernel), by decide +kernel⟩
theorem wd_45 : Cond.static yX5_at ∈ m_gd := List.mem_filter.mpr ⟨List.mem_of_getElem? (i := 51) (by decide +kernel), by decide +kernel⟩
theorem wd_46 : Cond.code yX5_at cX5_at 2 (some .int) ∈ m_gd := List.mem_filter.mpr ⟨List.mem_of_getElem? (i := 52) (by decide +kernel), by decide +kernel⟩
theorem wd_47 : Cond.methodLink RX1 41 yX1_cardAt ∈ m_gd := List.mem_filter.mpr ⟨List.mem_of_getElem? (i := 394) (by decide +kernel), by decide +kernel⟩
theorem wd_48 : Cond.instanceMethod yX1_cardAt ∈ m_gd := List.mem_filter.mpr ⟨List.mem_of_getElem? (i := 349) (by decide +kernel), by decide +kernel⟩
theorem wd_49 : Cond.selects RX1 yX1_cardAt yX1_cardAt ∈ m_gd := List.mem_filter.mpr ⟨List.mem_of_getElem? (i := 350) (by decide +kernel), by decide +kernel⟩
theorem wd_50 : Cond.code yX1_cardAt cX1_cardAt 2 (some .int) ∈ m_gd := List.mem_filter.mpr ⟨List.mem_of_getElem? (i := 351) (by decide +kernel), by decide +kernel⟩
theorem wn_51 : Cond.methodLinkNest RX1 45 yX5_put "CardSheets" ∈ m_nest := List.mem_filter.mpr ⟨List.mem_of_getElem? (i := 347) (by decide +kernel), by decide +kernel⟩
theorem wd_52 : Cond.static yX5_put ∈ m_gd := List.mem_filter.mpr ⟨List.mem_of_getElem? (i := 228) (by decide +kernel), by decide +kernel⟩
theorem wd_53 : Cond.code yX5_put cX5_put 3 none ∈ m_gd := List.mem_filter.mpr ⟨List.mem_of_getElem? (i := 229) (by decide +kernel), by decide +kernel⟩
theorem wn_54 : Cond.methodLinkNest RX1 49 yX5_placeBefore "CardSheets" ∈ m_nest := List.mem_filter.mpr ⟨List.mem_of_getElem? (i := 360) (by decide +kernel), by decide +kernel⟩
theorem wd_55 : Cond.static yX5_placeBefore ∈ m_gd := List.mem_filter.mpr ⟨List.mem_of_getElem? (i := 361) (by decide +kernel), by decide +kernel⟩
theorem wd_56 : Cond.code yX5_placeBefore cX5_placeBefore 4 (some .int) ∈ m_gd := List.mem_filter.mpr ⟨List.mem_of_getElem? (i := 362) (by decide +kernel), by decide +kernel⟩
theorem wd_57 : Cond.fieldLink RX1 53 RX2 (TX2 1).2.1 (TX2 1).2.2.1 ∈ m_gd := List.mem_filter.mpr ⟨List.mem_of_getElem? (i := 283) (by decide +kernel), by decide +kernel⟩
theorem wd_58 : Cond.methodLink RX1 56 yX1_marksOf ∈ m_gd := List.mem_filter.mpr ⟨List.mem_of_getElem? (i := 395) (by decide +kernel), by decide +kernel⟩
theorem wd_59 : Cond.instanceMethod yX1_marksOf ∈ m_gd := List.mem_filter.mpr ⟨List.mem_of_getElem? (i := 396) (by decide +kernel), by decide +kernel⟩
theorem wd_60 : Cond.selects RX1 yX1_marksOf yX1_marksOf ∈ m_gd := List.mem_filter.mpr ⟨List.mem_of_getElem? (i := 397) (by decide +kernel), by decide +kernel⟩
theorem wd_61 : Cond.code yX1_marksOf cX1_marksOf 2 (some .int) ∈ m_gd := List.mem_filter.mpr ⟨List.mem_of_getElem? (i := 398) (by decide +kernel), by decide +kernel⟩
theorem wd_62 : Cond.methodLink RX1 59 yX1_marksAt ∈ m_gd := List.mem_filter.mpr ⟨List.mem_of_getElem? (i := 390) (by decide +kernel), by decide +kernel⟩
theorem wd_63 : Cond.instanceMethod yX1_marksAt ∈ m_gd := List.mem_filter.mpr ⟨List.mem_of_getElem? (i := 391) (by decide +kernel), by decide +kernel⟩
theorem wd_64 : Cond.selects RX1 yX1_marksAt yX1_marksAt ∈ m_gd := List.mem_filter.mpr ⟨List.mem_of_getElem? (i := 392) (by decide +kernel), by decide +kernel⟩
theorem wd_65 : Cond.code yX1_marksAt cX1_marksAt 2 (some .int) ∈ m_gd := List.mem_filter.mpr ⟨List.mem_of_getElem? (i := 393) (by decide +kernel), by decide +kernel⟩
theorem wd_66 : Cond.methodLink RX1 62 Lib.Math.min.name ∈ m_gd := List.mem_filter.mpr ⟨List.mem_of_getElem? (i := 462) (by decide +kernel), by decide +kernel⟩
theorem wd_67 : Cond.methodLink RX1 67 yX1_canBeAt ∈ m_gd := List.mem_filter.mpr ⟨List.mem_of_getElem? (i := 386) (by decide +kernel), by decide +kernel⟩
theorem wd_68 : Cond.instanceMethod yX1_canBeAt ∈ m_gd := List.mem_filter.mpr ⟨List.mem_of_getElem? (i := 387) (by decide +kernel), by decide +kernel⟩
theorem wd_69 : Cond.selects RX1 yX1_canBeAt yX1_canBeAt ∈ m_gd := List.mem_filter.mpr ⟨List.mem_of_getElem? (i := 388) (by decide +kernel), by decide +kernel⟩
theorem wd_70 : Cond.code yX1_canBeAt cX1_canBeAt 6 (some .int) ∈ m_gd := List.mem_filter.mpr ⟨List.mem_of_getElem? (i := 389) (by decide +kernel), by decide +kernel⟩
theorem wd_71 : Cond.methodLink RX1 70 yX1_guessAt ∈ m_gd := List.mem_filter.mpr ⟨List.mem_of_getElem? (i := 458) (by decide +kernel), by decide +kernel⟩
theorem wd_72 : Cond.instanceMethod yX1_guessAt ∈ m_gd := List.mem_filter.mpr ⟨List.mem_of_getElem? (i := 459) (by decide +kernel), by decide +kernel⟩
theorem wd_73 : Cond.selects RX1 yX1_guessAt yX1_guessAt ∈ m_gd := List.mem_filter.mpr ⟨List.mem_of_getElem? (i := 460) (by decide +kernel), by decide +kernel⟩
theorem wd_74 : Cond.code yX1_guessAt cX1_guessAt 6 (some .int) ∈ m_gd := List.mem_filter.mpr ⟨List.mem_of_getElem? (i := 461) (by decide +kernel), by decide +kernel⟩
theorem wd_75 : Cond.methodLink RX2 3 Lib.objectInit ∈ m_gd := List.mem_filter.mpr ⟨List.mem_of_getElem? (i := 277) (by decide +kernel), by decide +kernel⟩
theorem wd_76 : Cond.fieldLink RX2 9 RX2 (TX2 0).2.1 (TX2 0).2.2.1 ∈ m_gd := List.mem_filter.mpr ⟨List.mem_of_getElem? (i := 280) (by decide +kernel), by decide +kernel⟩
theorem wd_77 : Cond.fieldLink RX2 15 RX2 (TX2 1).2.1 (TX2 1).2.2.1 ∈ m_gd := List.mem_filter.mpr ⟨List.mem_of_getElem? (i := 282) (by decide +kernel), by decide +kernel⟩
theorem wd_78 : Cond.fieldLink RX2 18 RX2 (TX2 2).2.1 (TX2 2).2.2.1 ∈ m_gd := List.mem_filter.mpr ⟨List.mem_of_getElem? (i := 285) (by decide +kernel), by decide +kernel⟩
theorem wn_79 : Cond.methodLinkNest RX2 21 yX5_at "CardSheets" ∈ m_nest := List.mem_filter.mpr ⟨List.mem_of_getElem? (i := 278) (by decide +kernel), by decide +kernel⟩
theorem wn_80 : Cond.methodLinkNest RX2 25 yX5_isCard "CardSheets" ∈ m_nest := List.mem_filter.mpr ⟨List.mem_of_getElem? (i := 279) (by decide +kernel), by decide +kernel⟩
theorem wd_81 : Cond.static yX5_isCard ∈ m_gd := List.mem_filter.mpr ⟨List.mem_of_getElem? (i := 251) (by decide +kernel), by decide +kernel⟩
theorem wd_82 : Cond.code yX5_isCard cX5_isCard 1 (some .boolean) ∈ m_gd := List.mem_filter.mpr ⟨List.mem_of_getElem? (i := 252) (by decide +kernel), by decide +kernel⟩
theorem wn_83 : Cond.methodLinkNest RX2 29 yX5_cellAt "CardSheets" ∈ m_nest := List.mem_filter.mpr ⟨List.mem_of_getElem? (i := 324) (by decide +kernel), by decide +kernel⟩
theorem wd_84 : Cond.static yX5_cellAt ∈ m_gd := List.mem_filter.mpr ⟨List.mem_of_getElem? (i := 325) (by decide +kernel), by decide +kernel⟩
theorem wd_85 : Cond.code yX5_cellAt cX5_cellAt 4 (some .int) ∈ m_gd := List.mem_filter.mpr ⟨List.mem_of_getElem? (i := 326) (by decide +kernel), by decide +kernel⟩
theorem wd_86 : Cond.methodLink RX2 33 yX2_cardCutTo ∈ m_gd := List.mem_filter.mpr ⟨List.mem_of_getElem? (i := 515) (by decide +kernel), by decide +kernel⟩
theorem wd_87 : Cond.methodLink RX3 3 Lib.objectInit ∈ m_gd := List.mem_filter.mpr ⟨List.mem_of_getElem? (i := 25) (by decide +kernel), by decide +kernel⟩
theorem wd_88 : Cond.fieldLink RX3 9 RX3 (TX3 0).2.1 (TX3 0).2.2.1 ∈ m_gd := List.mem_filter.mpr ⟨List.mem_of_getElem? (i := 53) (by decide +kernel), by decide +kernel⟩
theorem wd_89 : Cond.fieldLink RX3 15 RX3 (TX3 1).2.1 (TX3 1).2.2.1 ∈ m_gd := List.mem_filter.mpr ⟨List.mem_of_getElem? (i := 55) (by decide +kernel), by decide +kernel⟩
theorem wd_90 : Cond.fieldLink RX3 18 RX3 (TX3 2).2.1 (TX3 2).2.2.1 ∈ m_gd := List.mem_filter.mpr ⟨List.mem_of_getElem? (i := 57) (by decide +kernel), by decide +kernel⟩
theorem wd_91 : Cond.fieldLink RX3 21 RX3 (TX3 3).2.1 (TX3 3).2.2.1 ∈ m_gd := List.mem_filter.mpr ⟨List.mem_of_getElem? (i := 59) (by decide +kernel), by decide +kernel⟩
theorem wd_92 : Cond.classLink RX3 24 RX2 ∈ m_gd := List.mem_filter.mpr ⟨List.mem_of_getElem? (i := 26) (by decide +kernel), by decide +kernel⟩
theorem wd_93 : Cond.fieldLink RX3 26 RX3 (TX3 4).2.1 (TX3 4).2.2.1 ∈ m_gd := List.mem_filter.mpr ⟨List.mem_of_getElem? (i := 61) (by decide +kernel), by decide +kernel⟩
theorem wd_94 : Cond.classLink RX3 30 RX1 ∈ m_gd := List.mem_filter.mpr ⟨List.mem_of_getElem? (i := 28) (by decide +kernel), by decide +kernel⟩
theorem wd_95 : Cond.instantiable RX1 3 ∈ m_gd := List.mem_filter.mpr ⟨List.mem_of_getElem? (i := 29) (by decide +kernel), by decide +kernel⟩
theorem wn_96 : Cond.methodLinkNest RX3 32 yX1_init "CardSheets" ∈ m_nest := List.mem_filter.mpr ⟨List.mem_of_getElem? (i := 30) (by decide +kernel), by decide +kernel⟩
theorem wd_97 : Cond.instanceMethod yX1_init ∈ m_gd := List.mem_filter.mpr ⟨List.mem_of_getElem? (i := 31) (by decide +kernel), by decide +kernel⟩
theorem wd_98 : Cond.code yX1_init cX1_init 1 none ∈ m_gd := List.mem_filter.mpr ⟨List.mem_of_getElem? (i := 32) (by decide +kernel), by decide +kernel⟩
theorem wd_99 : Cond.fieldLink RX3 33 RX3 (TX3 5).2.1 (TX3 5).2.2.1 ∈ m_gd := List.mem_filter.mpr ⟨List.mem_of_getElem? (i := 62) (by decide +kernel), by decide +kernel⟩
theorem wd_100 : Cond.fieldLink RX3 37 RX3 (TX3 6).2.1 (TX3 6).2.2.1 ∈ m_gd := List.mem_filter.mpr ⟨List.mem_of_getElem? (i := 64) (by decide +kernel), by decide +kernel⟩
theorem wd_101 : Cond.fieldLink RX3 41 RX3 (TX3 7).2.1 (TX3 7).2.2.1 ∈ m_gd := List.mem_filter.mpr ⟨List.mem_of_getElem? (i := 66) (by decide +kernel), by decide +kernel⟩
theorem wd_102 : Cond.fieldLink RX3 44 RX3 (TX3 8).2.1 (TX3 8).2.2.1 ∈ m_gd := List.mem_filter.mpr ⟨List.mem_of_getElem? (i := 68) (by decide +kernel), by decide +kernel⟩
theorem wd_103 : Cond.fieldLink RX3 47 RX3 (TX3 9).2.1 (TX3 9).2.2.1 ∈ m_gd := List.mem_filter.mpr ⟨List.mem_of_getElem? (i := 70) (by decide +kernel), by decide +kernel⟩
theorem wd_104 : Cond.fieldLink RX3 50 RX3 (TX3 10).2.1 (TX3 10).2.2.1 ∈ m_gd := List.mem_filter.mpr ⟨List.mem_of_getElem? (i := 72) (by decide +kernel), by decide +kernel⟩
theorem wn_105 : Cond.fieldLinkNest RX3 53 "CardSheets" "FIRST_OF_SETTING" "[I" "CardSheets" ∈ m_nest := List.mem_filter.mpr ⟨List.mem_of_getElem? (i := 48) (by decide +kernel), by decide +kernel⟩
theorem wn_106 : Cond.methodLinkNest RX3 56 yX5_at "CardSheets" ∈ m_nest := List.mem_filter.mpr ⟨List.mem_of_getElem? (i := 50) (by decide +kernel), by decide +kernel⟩
theorem wn_107 : Cond.methodLinkNest RX3 60 yX5_copyRow "CardSheets" ∈ m_nest := List.mem_filter.mpr ⟨List.mem_of_getElem? (i := 178) (by decide +kernel), by decide +kernel⟩
theorem wd_108 : Cond.methodLink RX3 64 yX1_copyFrom ∈ m_gd := List.mem_filter.mpr ⟨List.mem_of_getElem? (i := 187) (by decide +kernel), by decide +kernel⟩
theorem wd_109 : Cond.instanceMethod yX1_copyFrom ∈ m_gd := List.mem_filter.mpr ⟨List.mem_of_getElem? (i := 188) (by decide +kernel), by decide +kernel⟩
theorem wd_110 : Cond.selects RX1 yX1_copyFrom yX1_copyFrom ∈ m_gd := List.mem_filter.mpr ⟨List.mem_of_getElem? (i := 189) (by decide +kernel), by decide +kernel⟩
theorem wd_111 : Cond.code yX1_copyFrom cX1_copyFrom 2 none ∈ m_gd := List.mem_filter.mpr ⟨List.mem_of_getElem? (i := 190) (by decide +kernel), by decide +kernel⟩
theorem wn_112 : Cond.methodLinkNest RX3 68 yX5_put "CardSheets" ∈ m_nest := List.mem_filter.mpr ⟨List.mem_of_getElem? (i := 227) (by decide +kernel), by decide +kernel⟩
theorem wd_113 : Cond.methodLink RX3 72 yJ6_bitCount_0f7a4 ∈ m_gd := List.mem_filter.mpr ⟨List.mem_of_getElem? (i := 467) (by decide +kernel), by decide +kernel⟩
theorem wd_114 : Cond.static yJ6_bitCount_0f7a4 ∈ m_gd := List.mem_filter.mpr ⟨List.mem_of_getElem? (i := 468) (by decide +kernel), by decide +kernel⟩
theorem wd_115 : Cond.initialized "java/lang/Integer" ∈ m_gd := List.mem_filter.mpr ⟨List.mem_of_getElem? (i := 9) (by decide +kernel), by decide +kernel⟩
theorem wd_116 : Cond.code yJ6_bitCount_0f7a4 cJ6_bitCount_0f7a4 1 (some .int) ∈ m_gd := List.mem_filter.mpr ⟨List.mem_of_getElem? (i := 469) (by decide +kernel), by decide +kernel⟩
theorem wd_117 : Cond.instantiable RX2 3 ∈ m_gd := List.mem_filter.mpr ⟨List.mem_of_getElem? (i := 273) (by decide +kernel), by decide +kernel⟩
theorem wd_118 : Cond.methodLink RX3 78 yX2_init ∈ m_gd := List.mem_filter.mpr ⟨List.mem_of_getElem? (i := 274) (by decide +kernel), by decide +kernel⟩
theorem wd_119 : Cond.instanceMethod yX2_init ∈ m_gd := List.mem_filter.mpr ⟨List.mem_of_getElem? (i := 275) (by decide +kernel), by decide +kernel⟩
theorem wd_120 : Cond.code yX2_init cX2_init 7 none ∈ m_gd := List.mem_filter.mpr ⟨List.mem_of_getElem? (i := 276) (by decide +kernel), by decide +kernel⟩
theorem wd_121 : Cond.methodLink RX3 81 yX3_wear ∈ m_gd := List.mem_filter.mpr ⟨List.mem_of_getElem? (i := 294) (by decide +kernel), by decide +kernel⟩
theorem wd_122 : Cond.instanceMethod yX3_wear ∈ m_gd := List.mem_filter.mpr ⟨List.mem_of_getElem? (i := 296) (by decide +kernel), by decide +kernel⟩
theorem wd_123 : Cond.selects RX3 yX3_wear yX3_wear ∈ m_gd := List.mem_filter.mpr ⟨List.mem_of_getElem? (i := 1) (by decide +kernel), by decide +kernel⟩
theorem wd_124 : Cond.code yX3_wear cX3_wear 2 none ∈ m_gd := List.mem_filter.mpr ⟨List.mem_of_getElem? (i := 297) (by decide +kernel), by decide +kernel⟩
theorem wd_125 : Cond.methodLink RX3 84 yX3_setMark ∈ m_gd := List.mem_filter.mpr ⟨List.mem_of_getElem? (i := 298) (by decide +kernel), by decide +kernel⟩
theorem wd_126 : Cond.instanceMethod yX3_setMark ∈ m_gd := List.mem_filter.mpr ⟨List.mem_of_getElem? (i := 243) (by decide +kernel), by decide +kernel⟩
theorem wd_127 : Cond.selects RX3 yX3_setMark yX3_setMark ∈ m_gd := List.mem_filter.mpr ⟨List.mem_of_getElem? (i := 244) (by decide +kernel), by decide +kernel⟩
theorem wd_128 : Cond.code yX3_setMark cX3_setMark 5 none ∈ m_gd := List.mem_filter.mpr ⟨List.mem_of_getElem? (i := 245) (by decide +kernel), by decide +kernel⟩
theorem wd_129 : Cond.methodLink RX3 88 yX3_sheetAt ∈ m_gd := List.mem_filter.mpr ⟨List.mem_of_getElem? (i := 315) (by decide +kernel), by decide +kernel⟩
theorem wd_130 : Cond.instanceMethod yX3_sheetAt ∈ m_gd := List.mem_filter.mpr ⟨List.mem_of_getElem? (i := 308) (by decide +kernel), by decide +kernel⟩
theorem wd_131 : Cond.selects RX3 yX3_sheetAt yX3_sheetAt ∈ m_gd := List.mem_filter.mpr ⟨List.mem_of_getElem? (i := 309) (by decide +kernel), by decide +kernel⟩
theorem wd_132 : Cond.code yX3_sheetAt cX3_sheetAt 2 (some (.object "CardSheets$Sheet")) ∈ m_gd := List.mem_filter.mpr ⟨List.mem_of_getElem? (i := 310) (by decide +kernel), by decide +kernel⟩
theorem wd_133 : Cond.fieldLink RX3 92 RX1 (TX1 1).2.1 (TX1 1).2.2.1 ∈ m_gd := List.mem_filter.mpr ⟨List.mem_of_getElem? (i := 36) (by decide +kernel), by decide +kernel⟩
theorem wd_134 : Cond.fieldLink RX3 96 RX1 (TX1 2).2.1 (TX1 2).2.2.1 ∈ m_gd := List.mem_filter.mpr ⟨List.mem_of_getElem? (i := 39) (by decide +kernel), by decide +kernel⟩
theorem wd_135 : Cond.fieldLink RX3 99 RX2 (TX2 2).2.1 (TX2 2).2.2.1 ∈ m_gd := List.mem_filter.mpr ⟨List.mem_of_getElem? (i := 286) (by decide +kernel), by decide +kernel⟩
theorem wn_136 : Cond.methodLinkNest RX3 100 yX5_courtsBeyond "CardSheets" ∈ m_nest := List.mem_filter.mpr ⟨List.mem_of_getElem? (i := 376) (by decide +kernel), by decide +kernel⟩
theorem wd_137 : Cond.static yX5_courtsBeyond ∈ m_gd := List.mem_filter.mpr ⟨List.mem_of_getElem? (i := 377) (by decide +kernel), by decide +kernel⟩
theorem wd_138 : Cond.code yX5_courtsBeyond cX5_courtsBeyond 4 (some .int) ∈ m_gd := List.mem_filter.mpr ⟨List.mem_of_getElem? (i := 378) (by decide +kernel), by decide +kernel⟩
theorem wd_139 : Cond.methodLink RX3 103 yX1_known ∈ m_gd := List.mem_filter.mpr ⟨List.mem_of_getElem? (i := 382) (by decide +kernel), by decide +kernel⟩
theorem wd_140 : Cond.instanceMethod yX1_known ∈ m_gd := List.mem_filter.mpr ⟨List.mem_of_getElem? (i := 383) (by decide +kernel), by decide +kernel⟩
theorem wd_141 : Cond.selects RX1 yX1_known yX1_known ∈ m_gd := List.mem_filter.mpr ⟨List.mem_of_getElem? (i := 384) (by decide +kernel), by decide +kernel⟩
theorem wd_142 : Cond.code yX1_known cX1_known 4 (some .int) ∈ m_gd := List.mem_filter.mpr ⟨List.mem_of_getElem? (i := 385) (by decide +kernel), by decide +kernel⟩
theorem wd_143 : Cond.methodLink RX4 3 Lib.objectInit ∈ m_gd := List.mem_filter.mpr ⟨List.mem_of_getElem? (i := 122) (by decide +kernel), by decide +kernel⟩
theorem wd_144 : Cond.arrayClass .char ∈ m_gd := List.mem_filter.mpr ⟨List.mem_of_getElem? (i := 146) (by decide +kernel), by decide +kernel⟩
theorem wd_145 : Cond.fieldLink RX4 9 RX4 (TX4 0).2.1 (TX4 0).2.2.1 ∈ m_gd := List.mem_filter.mpr ⟨List.mem_of_getElem? (i := 123) (by decide +kernel), by decide +kernel⟩
theorem wd_146 : Cond.fieldLink RX4 15 RX4 (TX4 1).2.1 (TX4 1).2.2.1 ∈ m_gd := List.mem_filter.mpr ⟨List.mem_of_getElem? (i := 124) (by decide +kernel), by decide +kernel⟩
theorem wd_147 : Cond.fieldLink RX4 19 RX4 (TX4 2).2.1 (TX4 2).2.2.1 ∈ m_gd := List.mem_filter.mpr ⟨List.mem_of_getElem? (i := 126) (by decide +kernel), by decide +kernel⟩
theorem wd_148 : Cond.fieldLink RX4 22 RX4 (TX4 3).2.1 (TX4 3).2.2.1 ∈ m_gd := List.mem_filter.mpr ⟨List.mem_of_getElem? (i := 127) (by decide +kernel), by decide +kernel⟩
theorem wd_149 : Cond.fieldLink RX4 25 RX4 (TX4 4).2.1 (TX4 4).2.2.1 ∈ m_gd := List.mem_filter.mpr ⟨List.mem_of_getElem? (i := 128) (by decide +kernel), by decide +kernel⟩
theorem wd_150 : Cond.fieldLink RX4 29 RX4 (TX4 5).2.1 (TX4 5).2.2.1 ∈ m_gd := List.mem_filter.mpr ⟨List.mem_of_getElem? (i := 129) (by decide +kernel), by decide +kernel⟩
theorem wd_151 : Cond.fieldLink RX4 32 RX4 (TX4 6).2.1 (TX4 6).2.2.1 ∈ m_gd := List.mem_filter.mpr ⟨List.mem_of_getElem? (i := 130) (by decide +kernel), by decide +kernel⟩
theorem wd_152 : Cond.methodLink RX5 1 Lib.objectInit ∈ m_gd := List.mem_filter.mpr ⟨List.mem_of_getElem? (i := 17) (by decide +kernel), by decide +kernel⟩
theorem wd_153 : Cond.classLink RX5 7 RX3 ∈ m_gd := List.mem_filter.mpr ⟨List.mem_of_getElem? (i := 20) (by decide +kernel), by decide +kernel⟩
theorem wd_154 : Cond.methodLink RX5 9 yX3_init ∈ m_gd := List.mem_filter.mpr ⟨List.mem_of_getElem? (i := 22) (by decide +kernel), by decide +kernel⟩
theorem wd_155 : Cond.fieldLink RX5 10 RX5 (TX5 0).2.1 (TX5 0).2.2.1 ∈ m_gd := List.mem_filter.mpr ⟨List.mem_of_getElem? (i := 147) (by decide +kernel), by decide +kernel⟩
theorem wd_156 : Cond.fieldLink RX5 16 RX5 (TX5 1).2.1 (TX5 1).2.2.1 ∈ m_gd := List.mem_filter.mpr ⟨List.mem_of_getElem? (i := 148) (by decide +kernel), by decide +kernel⟩
theorem wd_157 : Cond.classLink RX5 19 RX0 ∈ m_gd := List.mem_filter.mpr ⟨List.mem_of_getElem? (i := 97) (by decide +kernel), by decide +kernel⟩
theorem wd_158 : Cond.instantiable RX0 3 ∈ m_gd := List.mem_filter.mpr ⟨List.mem_of_getElem? (i := 98) (by decide +kernel), by decide +kernel⟩
theorem wd_159 : Cond.methodLink RX5 21 yX0_init ∈ m_gd := List.mem_filter.mpr ⟨List.mem_of_getElem? (i := 99) (by decide +kernel), by decide +kernel⟩
theorem wd_160 : Cond.instanceMethod yX0_init ∈ m_gd := List.mem_filter.mpr ⟨List.mem_of_getElem? (i := 100) (by decide +kernel), by decide +kernel⟩
theorem wd_161 : Cond.code yX0_init cX0_init 2 none ∈ m_gd := List.mem_filter.mpr ⟨List.mem_of_getElem? (i := 101) (by decide +kernel), by decide +kernel⟩
theorem wd_162 : Cond.fieldLink RX5 22 RX5 (TX5 2).2.1 (TX5 2).2.2.1 ∈ m_gd := List.mem_filter.mpr ⟨List.mem_of_getElem? (i := 149) (by decide +kernel), by decide +kernel⟩
theorem wd_163 : Cond.classLink RX5 26 RX4 ∈ m_gd := List.mem_filter.mpr ⟨List.mem_of_getElem? (i := 117) (by decide +kernel), by decide +kernel⟩
theorem wd_164 : Cond.instantiable RX4 7 ∈ m_gd := List.mem_filter.mpr ⟨List.mem_of_getElem? (i := 118) (by decide +kernel), by decide +kernel⟩
theorem wd_165 : Cond.initialized RX4 ∈ m_gd := List.mem_filter.mpr ⟨List.mem_of_getElem? (i := 7) (by decide +kernel), by decide +kernel⟩
theorem wn_166 : Cond.methodLinkNest RX5 28 yX4_init "CardSheets" ∈ m_nest := List.mem_filter.mpr ⟨List.mem_of_getElem? (i := 119) (by decide +kernel), by decide +kernel⟩
theorem wd_167 : Cond.instanceMethod yX4_init ∈ m_gd := List.mem_filter.mpr ⟨List.mem_of_getElem? (i := 120) (by decide +kernel), by decide +kernel⟩
theorem wd_168 : Cond.code yX4_init cX4_init 1 none ∈ m_gd := List.mem_filter.mpr ⟨List.mem_of_getElem? (i := 121) (by decide +kernel), by decide +kernel⟩
theorem wd_169 : Cond.fieldLink RX5 29 RX5 (TX5 3).2.1 (TX5 3).2.2.1 ∈ m_gd := List.mem_filter.mpr ⟨List.mem_of_getElem? (i := 150) (by decide +kernel), by decide +kernel⟩
theorem wd_170 : Cond.fieldLink RX5 33 RX5 (TX5 4).2.1 (TX5 4).2.2.1 ∈ m_gd := List.mem_filter.mpr ⟨List.mem_of_getElem? (i := 151) (by decide +kernel), by decide +kernel⟩
theorem wd_171 : Cond.fieldLink RX5 37 RX5 (TX5 5).2.1 (TX5 5).2.2.1 ∈ m_gd := List.mem_filter.mpr ⟨List.mem_of_getElem? (i := 152) (by decide +kernel), by decide +kernel⟩
theorem wd_172 : Cond.methodLink RX5 41 yX5_isCell ∈ m_gd := List.mem_filter.mpr ⟨List.mem_of_getElem? (i := 211) (by decide +kernel), by decide +kernel⟩
theorem wd_173 : Cond.static yX5_isCell ∈ m_gd := List.mem_filter.mpr ⟨List.mem_of_getElem? (i := 212) (by decide +kernel), by decide +kernel⟩
theorem wd_174 : Cond.code yX5_isCell cX5_isCell 1 (some .boolean) ∈ m_gd := List.mem_filter.mpr ⟨List.mem_of_getElem? (i := 213) (by decide +kernel), by decide +kernel⟩
theorem wd_175 : Cond.methodLink RX5 45 yX0_record ∈ m_gd := List.mem_filter.mpr ⟨List.mem_of_getElem? (i := 214) (by decide +kernel), by decide +kernel⟩
theorem wd_176 : Cond.instanceMethod yX0_record ∈ m_gd := List.mem_filter.mpr ⟨List.mem_of_getElem? (i := 215) (by decide +kernel), by decide +kernel⟩
theorem wd_177 : Cond.selects RX0 yX0_record yX0_record ∈ m_gd := List.mem_filter.mpr ⟨List.mem_of_getElem? (i := 216) (by decide +kernel), by decide +kernel⟩
theorem wd_178 : Cond.code yX0_record cX0_record 2 none ∈ m_gd := List.mem_filter.mpr ⟨List.mem_of_getElem? (i := 217) (by decide +kernel), by decide +kernel⟩
theorem wd_179 : Cond.methodLink RX5 49 yX3_exchange ∈ m_gd := List.mem_filter.mpr ⟨List.mem_of_getElem? (i := 223) (by decide +kernel), by decide +kernel⟩
theorem wd_180 : Cond.instanceMethod yX3_exchange ∈ m_gd := List.mem_filter.mpr ⟨List.mem_of_getElem? (i := 224) (by decide +kernel), by decide +kernel⟩
theorem wd_181 : Cond.selects RX3 yX3_exchange yX3_exchange ∈ m_gd := List.mem_filter.mpr ⟨List.mem_of_getElem? (i := 225) (by decide +kernel), by decide +kernel⟩
theorem wd_182 : Cond.code yX3_exchange cX3_exchange 4 none ∈ m_gd := List.mem_filter.mpr ⟨List.mem_of_getElem? (i := 226) (by decide +kernel), by decide +kernel⟩
theorem wd_183 : Cond.fieldLink RX5 53 RX3 (TX3 0).2.1 (TX3 0).2.2.1 ∈ m_gd := List.mem_filter.mpr ⟨List.mem_of_getElem? (i := 54) (by decide +kernel), by decide +kernel⟩
theorem wd_184 : Cond.methodLink RX5 56 yX5_at ∈ m_gd := List.mem_filter.mpr ⟨List.mem_of_getElem? (i := 230) (by decide +kernel), by decide +kernel⟩
theorem wd_185 : Cond.methodLink RX5 60 yX5_isMark ∈ m_gd := List.mem_filter.mpr ⟨List.mem_of_getElem? (i := 235) (by decide +kernel), by decide +kernel⟩
theorem wd_186 : Cond.static yX5_isMark ∈ m_gd := List.mem_filter.mpr ⟨List.mem_of_getElem? (i := 236) (by decide +kernel), by decide +kernel⟩
theorem wd_187 : Cond.code yX5_isMark cX5_isMark 1 (some .boolean) ∈ m_gd := List.mem_filter.mpr ⟨List.mem_of_getElem? (i := 237) (by decide +kernel), by decide +kernel⟩
theorem wd_188 : Cond.methodLink RX5 63 yX3_hasMark ∈ m_gd := List.mem_filter.mpr ⟨List.mem_of_getElem? (i := 238) (by decide +kernel), by decide +kernel⟩
theorem wd_189 : Cond.instanceMethod yX3_hasMark ∈ m_gd := List.mem_filter.mpr ⟨List.mem_of_getElem? (i := 239) (by decide +kernel), by decide +kernel⟩
theorem wd_190 : Cond.selects RX3 yX3_hasMark yX3_hasMark ∈ m_gd := List.mem_filter.mpr ⟨List.mem_of_getElem? (i := 240) (by decide +kernel), by decide +kernel⟩
theorem wd_191 : Cond.code yX3_hasMark cX3_hasMark 3 (some .boolean) ∈ m_gd := List.mem_filter.mpr ⟨List.mem_of_getElem? (i := 241) (by decide +kernel), by decide +kernel⟩
theorem wd_192 : Cond.methodLink RX5 67 yX3_setMark ∈ m_gd := List.mem_filter.mpr ⟨List.mem_of_getElem? (i := 242) (by decide +kernel), by decide +kernel⟩
theorem wd_193 : Cond.fieldLink RX5 71 RX3 (TX3 2).2.1 (TX3 2).2.2.1 ∈ m_gd := List.mem_filter.mpr ⟨List.mem_of_getElem? (i := 58) (by decide +kernel), by decide +kernel⟩
theorem wd_194 : Cond.methodLink RX5 74 yX5_isCard ∈ m_gd := List.mem_filter.mpr ⟨List.mem_of_getElem? (i := 250) (by decide +kernel), by decide +kernel⟩
theorem wd_195 : Cond.methodLink RX5 77 yX5_isCourt ∈ m_gd := List.mem_filter.mpr ⟨List.mem_of_getElem? (i := 253) (by decide +kernel), by decide +kernel⟩
theorem wd_196 : Cond.static yX5_isCourt ∈ m_gd := List.mem_filter.mpr ⟨List.mem_of_getElem? (i := 254) (by decide +kernel), by decide +kernel⟩
theorem wd_197 : Cond.code yX5_isCourt cX5_isCourt 1 (some .boolean) ∈ m_gd := List.mem_filter.mpr ⟨List.mem_of_getElem? (i := 255) (by decide +kernel), by decide +kernel⟩
theorem wd_198 : Cond.fieldLink RX5 80 RX3 (TX3 1).2.1 (TX3 1).2.2.1 ∈ m_gd := List.mem_filter.mpr ⟨List.mem_of_getElem? (i := 56) (by decide +kernel), by decide +kernel⟩
theorem wd_199 : Cond.methodLink RX5 83 yX5_put ∈ m_gd := List.mem_filter.mpr ⟨List.mem_of_getElem? (i := 256) (by decide +kernel), by decide +kernel⟩
theorem wd_200 : Cond.fieldLink RX5 113 "CardSheets" "LEAST_OF_SETTING" "[I" ∈ m_gd := List.mem_filter.mpr ⟨List.mem_of_getElem? (i := 261) (by decide +kernel), by decide +kernel⟩
theorem wd_201 : Cond.fieldLink RX5 116 "CardSheets" "MOST_OF_SETTING" "[I" ∈ m_gd := List.mem_filter.mpr ⟨List.mem_of_getElem? (i := 263) (by decide +kernel), by decide +kernel⟩
theorem wd_202 : Cond.fieldLink RX5 119 RX3 (TX3 3).2.1 (TX3 3).2.2.1 ∈ m_gd := List.mem_filter.mpr ⟨List.mem_of_getElem? (i := 60) (by decide +kernel), by decide +kernel⟩
theorem wd_203 : Cond.fieldLink RX5 122 RX3 (TX3 6).2.1 (TX3 6).2.2.1 ∈ m_gd := List.mem_filter.mpr ⟨List.mem_of_getElem? (i := 65) (by decide +kernel), by decide +kernel⟩
theorem wd_204 : Cond.methodLink RX5 125 yX3_printSheet ∈ m_gd := List.mem_filter.mpr ⟨List.mem_of_getElem? (i := 269) (by decide +kernel), by decide +kernel⟩
theorem wd_205 : Cond.instanceMethod yX3_printSheet ∈ m_gd := List.mem_filter.mpr ⟨List.mem_of_getElem? (i := 270) (by decide +kernel), by decide +kernel⟩
theorem wd_206 : Cond.selects RX3 yX3_printSheet yX3_printSheet ∈ m_gd := List.mem_filter.mpr ⟨List.mem_of_getElem? (i := 271) (by decide +kernel), by decide +kernel⟩
theorem wd_207 : Cond.code yX3_printSheet cX3_printSheet 2 none ∈ m_gd := List.mem_filter.mpr ⟨List.mem_of_getElem? (i := 272) (by decide +kernel), by decide +kernel⟩
theorem wd_208 : Cond.fieldLink RX5 129 RX3 (TX3 5).2.1 (TX3 5).2.2.1 ∈ m_gd := List.mem_filter.mpr ⟨List.mem_of_getElem? (i := 63) (by decide +kernel), by decide +kernel⟩
theorem wd_209 : Cond.methodLink RX5 133 yX1_isThere ∈ m_gd := List.mem_filter.mpr ⟨List.mem_of_getElem? (i := 303) (by decide +kernel), by decide +kernel⟩
theorem wd_210 : Cond.instanceMethod yX1_isThere ∈ m_gd := List.mem_filter.mpr ⟨List.mem_of_getElem? (i := 304) (by decide +kernel), by decide +kernel⟩
theorem wd_211 : Cond.selects RX1 yX1_isThere yX1_isThere ∈ m_gd := List.mem_filter.mpr ⟨List.mem_of_getElem? (i := 305) (by decide +kernel), by decide +kernel⟩
theorem wd_212 : Cond.code yX1_isThere cX1_isThere 1 (some .boolean) ∈ m_gd := List.mem_filter.mpr ⟨List.mem_of_getElem? (i := 306) (by decide +kernel), by decide +kernel⟩
theorem wd_213 : Cond.methodLink RX5 138 yX3_sheetAt ∈ m_gd := List.mem_filter.mpr ⟨List.mem_of_getElem? (i := 307) (by decide +kernel), by decide +kernel⟩
theorem wd_214 : Cond.methodLink RX5 142 yX3_takeTopSheet ∈ m_gd := List.mem_filter.mpr ⟨List.mem_of_getElem? (i := 311) (by decide +kernel), by decide +kernel⟩
theorem wd_215 : Cond.instanceMethod yX3_takeTopSheet ∈ m_gd := List.mem_filter.mpr ⟨List.mem_of_getElem? (i := 312) (by decide +kernel), by decide +kernel⟩
theorem wd_216 : Cond.selects RX3 yX3_takeTopSheet yX3_takeTopSheet ∈ m_gd := List.mem_filter.mpr ⟨List.mem_of_getElem? (i := 313) (by decide +kernel), by decide +kernel⟩
theorem wd_217 : Cond.code yX3_takeTopSheet cX3_takeTopSheet 2 (some (.object "CardSheets$Sheet")) ∈ m_gd := List.mem_filter.mpr ⟨List.mem_of_getElem? (i := 314) (by decide +kernel), by decide +kernel⟩
theorem wd_218 : Cond.methodLink RX5 146 yX1_layDown ∈ m_gd := List.mem_filter.mpr ⟨List.mem_of_getElem? (i := 316) (by decide +kernel), by decide +kernel⟩
theorem wd_219 : Cond.instanceMethod yX1_layDown ∈ m_gd := List.mem_filter.mpr ⟨List.mem_of_getElem? (i := 317) (by decide +kernel), by decide +kernel⟩
theorem wd_220 : Cond.selects RX1 yX1_layDown yX1_layDown ∈ m_gd := List.mem_filter.mpr ⟨List.mem_of_getElem? (i := 318) (by decide +kernel), by decide +kernel⟩
theorem wd_221 : Cond.code yX1_layDown cX1_layDown 4 none ∈ m_gd := List.mem_filter.mpr ⟨List.mem_of_getElem? (i := 319) (by decide +kernel), by decide +kernel⟩
theorem wd_222 : Cond.methodLink RX5 150 yX1_hasPartsAt ∈ m_gd := List.mem_filter.mpr ⟨List.mem_of_getElem? (i := 334) (by decide +kernel), by decide +kernel⟩
theorem wd_223 : Cond.instanceMethod yX1_hasPartsAt ∈ m_gd := List.mem_filter.mpr ⟨List.mem_of_getElem? (i := 335) (by decide +kernel), by decide +kernel⟩
theorem wd_224 : Cond.selects RX1 yX1_hasPartsAt yX1_hasPartsAt ∈ m_gd := List.mem_filter.mpr ⟨List.mem_of_getElem? (i := 336) (by decide +kernel), by decide +kernel⟩
theorem wd_225 : Cond.code yX1_hasPartsAt cX1_hasPartsAt 2 (some .boolean) ∈ m_gd := List.mem_filter.mpr ⟨List.mem_of_getElem? (i := 337) (by decide +kernel), by decide +kernel⟩
theorem wd_226 : Cond.methodLink RX5 153 yX1_cutAt ∈ m_gd := List.mem_filter.mpr ⟨List.mem_of_getElem? (i := 342) (by decide +kernel), by decide +kernel⟩
theorem wd_227 : Cond.instanceMethod yX1_cutAt ∈ m_gd := List.mem_filter.mpr ⟨List.mem_of_getElem? (i := 343) (by decide +kernel), by decide +kernel⟩
theorem wd_228 : Cond.selects RX1 yX1_cutAt yX1_cutAt ∈ m_gd := List.mem_filter.mpr ⟨List.mem_of_getElem? (i := 344) (by decide +kernel), by decide +kernel⟩
theorem wd_229 : Cond.code yX1_cutAt cX1_cutAt 6 none ∈ m_gd := List.mem_filter.mpr ⟨List.mem_of_getElem? (i := 345) (by decide +kernel), by decide +kernel⟩
theorem wd_230 : Cond.methodLink RX5 157 yX1_cardAt ∈ m_gd := List.mem_filter.mpr ⟨List.mem_of_getElem? (i := 348) (by decide +kernel), by decide +kernel⟩
theorem wd_231 : Cond.methodLink RX5 161 yX1_shuffleAt ∈ m_gd := List.mem_filter.mpr ⟨List.mem_of_getElem? (i := 356) (by decide +kernel), by decide +kernel⟩
theorem wd_232 : Cond.instanceMethod yX1_shuffleAt ∈ m_gd := List.mem_filter.mpr ⟨List.mem_of_getElem? (i := 357) (by decide +kernel), by decide +kernel⟩
theorem wd_233 : Cond.selects RX1 yX1_shuffleAt yX1_shuffleAt ∈ m_gd := List.mem_filter.mpr ⟨List.mem_of_getElem? (i := 358) (by decide +kernel), by decide +kernel⟩
theorem wd_234 : Cond.code yX1_shuffleAt cX1_shuffleAt 7 (some .int) ∈ m_gd := List.mem_filter.mpr ⟨List.mem_of_getElem? (i := 359) (by decide +kernel), by decide +kernel⟩
theorem wd_235 : Cond.methodLink RX5 165 yX1_left ∈ m_gd := List.mem_filter.mpr ⟨List.mem_of_getElem? (i := 367) (by decide +kernel), by decide +kernel⟩
theorem wd_236 : Cond.fieldLink RX5 168 RX1 (TX1 2).2.1 (TX1 2).2.2.1 ∈ m_gd := List.mem_filter.mpr ⟨List.mem_of_getElem? (i := 38) (by decide +kernel), by decide +kernel⟩
theorem wd_237 : Cond.methodLink RX5 171 yX3_reasonAgainstSale ∈ m_gd := List.mem_filter.mpr ⟨List.mem_of_getElem? (i := 372) (by decide +kernel), by decide +kernel⟩
theorem wd_238 : Cond.instanceMethod yX3_reasonAgainstSale ∈ m_gd := List.mem_filter.mpr ⟨List.mem_of_getElem? (i := 373) (by decide +kernel), by decide +kernel⟩
theorem wd_239 : Cond.selects RX3 yX3_reasonAgainstSale yX3_reasonAgainstSale ∈ m_gd := List.mem_filter.mpr ⟨List.mem_of_getElem? (i := 374) (by decide +kernel), by decide +kernel⟩
theorem wd_240 : Cond.code yX3_reasonAgainstSale cX3_reasonAgainstSale 2 (some .int) ∈ m_gd := List.mem_filter.mpr ⟨List.mem_of_getElem? (i := 375) (by decide +kernel), by decide +kernel⟩
theorem wd_241 : Cond.fieldLink RX5 174 RX3 (TX3 10).2.1 (TX3 10).2.2.1 ∈ m_gd := List.mem_filter.mpr ⟨List.mem_of_getElem? (i := 73) (by decide +kernel), by decide +kernel⟩
theorem wd_242 : Cond.fieldLink RX5 177 RX3 (TX3 8).2.1 (TX3 8).2.2.1 ∈ m_gd := List.mem_filter.mpr ⟨List.mem_of_getElem? (i := 69) (by decide +kernel), by decide +kernel⟩
theorem wd_243 : Cond.methodLink RX5 180 yX1_takeAway ∈ m_gd := List.mem_filter.mpr ⟨List.mem_of_getElem? (i := 399) (by decide +kernel), by decide +kernel⟩
theorem wd_244 : Cond.instanceMethod yX1_takeAway ∈ m_gd := List.mem_filter.mpr ⟨List.mem_of_getElem? (i := 400) (by decide +kernel), by decide +kernel⟩
theorem wd_245 : Cond.selects RX1 yX1_takeAway yX1_takeAway ∈ m_gd := List.mem_filter.mpr ⟨List.mem_of_getElem? (i := 401) (by decide +kernel), by decide +kernel⟩
theorem wd_246 : Cond.code yX1_takeAway cX1_takeAway 1 none ∈ m_gd := List.mem_filter.mpr ⟨List.mem_of_getElem? (i := 402) (by decide +kernel), by decide +kernel⟩
theorem wd_247 : Cond.fieldLink RX5 183 RX3 (TX3 9).2.1 (TX3 9).2.2.1 ∈ m_gd := List.mem_filter.mpr ⟨List.mem_of_getElem? (i := 71) (by decide +kernel), by decide +kernel⟩
theorem wd_248 : Cond.fieldLink RX5 193 RX0 (TX0 2).2.1 (TX0 2).2.2.1 ∈ m_gd := List.mem_filter.mpr ⟨List.mem_of_getElem? (i := 109) (by decide +kernel), by decide +kernel⟩
theorem wd_249 : Cond.methodLink RX5 196 yX0_takeLatestInto ∈ m_gd := List.mem_filter.mpr ⟨List.mem_of_getElem? (i := 170) (by decide +kernel), by decide +kernel⟩
theorem wd_250 : Cond.instanceMethod yX0_takeLatestInto ∈ m_gd := List.mem_filter.mpr ⟨List.mem_of_getElem? (i := 171) (by decide +kernel), by decide +kernel⟩
theorem wd_251 : Cond.selects RX0 yX0_takeLatestInto yX0_takeLatestInto ∈ m_gd := List.mem_filter.mpr ⟨List.mem_of_getElem? (i := 172) (by decide +kernel), by decide +kernel⟩
theorem wd_252 : Cond.code yX0_takeLatestInto cX0_takeLatestInto 2 none ∈ m_gd := List.mem_filter.mpr ⟨List.mem_of_getElem? (i := 173) (by decide +kernel), by decide +kernel⟩
theorem wd_253 : Cond.methodLink RX5 205 yX3_cellOf ∈ m_gd := List.mem_filter.mpr ⟨List.mem_of_getElem? (i := 494) (by decide +kernel), by decide +kernel⟩
theorem wd_254 : Cond.instanceMethod yX3_cellOf ∈ m_gd := List.mem_filter.mpr ⟨List.mem_of_getElem? (i := 495) (by decide +kernel), by decide +kernel⟩
theorem wd_255 : Cond.selects RX3 yX3_cellOf yX3_cellOf ∈ m_gd := List.mem_filter.mpr ⟨List.mem_of_getElem? (i := 496) (by decide +kernel), by decide +kernel⟩
theorem wd_256 : Cond.code yX3_cellOf cX3_cellOf 3 (some .int) ∈ m_gd := List.mem_filter.mpr ⟨List.mem_of_getElem? (i := 497) (by decide +kernel), by decide +kernel⟩
theorem wd_257 : Cond.methodLink RX5 208 yX1_placeOf ∈ m_gd := List.mem_filter.mpr ⟨List.mem_of_getElem? (i := 498) (by decide +kernel), by decide +kernel⟩
theorem wd_258 : Cond.instanceMethod yX1_placeOf ∈ m_gd := List.mem_filter.mpr ⟨List.mem_of_getElem? (i := 499) (by decide +kernel), by decide +kernel⟩
theorem wd_259 : Cond.selects RX1 yX1_placeOf yX1_placeOf ∈ m_gd := List.mem_filter.mpr ⟨List.mem_of_getElem? (i := 500) (by decide +kernel), by decide +kernel⟩
theorem wd_260 : Cond.code yX1_placeOf cX1_placeOf 4 (some .int) ∈ m_gd := List.mem_filter.mpr ⟨List.mem_of_getElem? (i := 501) (by decide +kernel), by decide +kernel⟩
theorem wd_261 : Cond.methodLink RX5 211 yX1_marksOf ∈ m_gd := List.mem_filter.mpr ⟨List.mem_of_getElem? (i := 502) (by decide +kernel), by decide +kernel⟩
theorem wd_262 : Cond.fieldLink RX5 214 RX2 (TX2 0).2.1 (TX2 0).2.2.1 ∈ m_gd := List.mem_filter.mpr ⟨List.mem_of_getElem? (i := 281) (by decide +kernel), by decide +kernel⟩
theorem wd_263 : Cond.fieldLink RX5 217 RX2 (TX2 1).2.1 (TX2 1).2.2.1 ∈ m_gd := List.mem_filter.mpr ⟨List.mem_of_getElem? (i := 284) (by decide +kernel), by decide +kernel⟩
theorem wd_264 : Cond.methodLink RX5 220 yX1_marksAt ∈ m_gd := List.mem_filter.mpr ⟨List.mem_of_getElem? (i := 533) (by decide +kernel), by decide +kernel⟩
theorem wd_265 : Cond.methodLink RX5 223 yX1_canBeAt ∈ m_gd := List.mem_filter.mpr ⟨List.mem_of_getElem? (i := 534) (by decide +kernel), by decide +kernel⟩
theorem wd_266 : Cond.methodLink RX5 226 yX1_guessAt ∈ m_gd := List.mem_filter.mpr ⟨List.mem_of_getElem? (i := 535) (by decide +kernel), by decide +kernel⟩
theorem wd_267 : Cond.fieldLink RX5 202 RX3 (TX3 7).2.1 (TX3 7).2.2.1 ∈ m_gd := List.mem_filter.mpr ⟨List.mem_of_getElem? (i := 67) (by decide +kernel), by decide +kernel⟩
theorem wd_268 : Cond.methodLink RX5 229 yX1_known ∈ m_gd := List.mem_filter.mpr ⟨List.mem_of_getElem? (i := 453) (by decide +kernel), by decide +kernel⟩
theorem wd_269 : Cond.methodLink RX5 232 yX1_guessedRight ∈ m_gd := List.mem_filter.mpr ⟨List.mem_of_getElem? (i := 454) (by decide +kernel), by decide +kernel⟩
theorem wd_270 : Cond.instanceMethod yX1_guessedRight ∈ m_gd := List.mem_filter.mpr ⟨List.mem_of_getElem? (i := 455) (by decide +kernel), by decide +kernel⟩
theorem wd_271 : Cond.selects RX1 yX1_guessedRight yX1_guessedRight ∈ m_gd := List.mem_filter.mpr ⟨List.mem_of_getElem? (i := 456) (by decide +kernel), by decide +kernel⟩
theorem wd_272 : Cond.code yX1_guessedRight cX1_guessedRight 4 (some .int) ∈ m_gd := List.mem_filter.mpr ⟨List.mem_of_getElem? (i := 457) (by decide +kernel), by decide +kernel⟩
theorem wd_273 : Cond.methodLink RX5 235 yX3_marksOnBacks ∈ m_gd := List.mem_filter.mpr ⟨List.mem_of_getElem? (i := 463) (by decide +kernel), by decide +kernel⟩
theorem wd_274 : Cond.instanceMethod yX3_marksOnBacks ∈ m_gd := List.mem_filter.mpr ⟨List.mem_of_getElem? (i := 464) (by decide +kernel), by decide +kernel⟩
theorem wd_275 : Cond.selects RX3 yX3_marksOnBacks yX3_marksOnBacks ∈ m_gd := List.mem_filter.mpr ⟨List.mem_of_getElem? (i := 465) (by decide +kernel), by decide +kernel⟩
theorem wd_276 : Cond.code yX3_marksOnBacks cX3_marksOnBacks 3 (some .int) ∈ m_gd := List.mem_filter.mpr ⟨List.mem_of_getElem? (i := 466) (by decide +kernel), by decide +kernel⟩
theorem wd_277 : Cond.methodLink RX5 238 yX5_courtsBeyond ∈ m_gd := List.mem_filter.mpr ⟨List.mem_of_getElem? (i := 473) (by decide +kernel), by decide +kernel⟩
theorem wd_278 : Cond.fieldLink RX5 186 RX4 (TX4 1).2.1 (TX4 1).2.2.1 ∈ m_gd := List.mem_filter.mpr ⟨List.mem_of_getElem? (i := 125) (by decide +kernel), by decide +kernel⟩
theorem wd_279 : Cond.methodLink RX5 241 yX1_sumOfChances ∈ m_gd := List.mem_filter.mpr ⟨List.mem_of_getElem? (i := 523) (by decide +kernel), by decide +kernel⟩
theorem wd_280 : Cond.instanceMethod yX1_sumOfChances ∈ m_gd := List.mem_filter.mpr ⟨List.mem_of_getElem? (i := 524) (by decide +kernel), by decide +kernel⟩
theorem wd_281 : Cond.selects RX1 yX1_sumOfChances yX1_sumOfChances ∈ m_gd := List.mem_filter.mpr ⟨List.mem_of_getElem? (i := 525) (by decide +kernel), by decide +kernel⟩
theorem wd_282 : Cond.code yX1_sumOfChances cX1_sumOfChances 5 (some .float) ∈ m_gd := List.mem_filter.mpr ⟨List.mem_of_getElem? (i := 526) (by decide +kernel), by decide +kernel⟩
theorem wd_283 : Cond.constantFloat RX5 245 3212836864 ∈ m_gd := List.mem_filter.mpr ⟨List.mem_of_getElem? (i := 527) (by decide +kernel), by decide +kernel⟩
theorem wd_284 : Cond.methodLink RX5 246 yX3_knownIfPrinted ∈ m_gd := List.mem_filter.mpr ⟨List.mem_of_getElem? (i := 482) (by decide +kernel), by decide +kernel⟩
theorem wd_285 : Cond.instanceMethod yX3_knownIfPrinted ∈ m_gd := List.mem_filter.mpr ⟨List.mem_of_getElem? (i := 483) (by decide +kernel), by decide +kernel⟩
theorem wd_286 : Cond.selects RX3 yX3_knownIfPrinted yX3_knownIfPrinted ∈ m_gd := List.mem_filter.mpr ⟨List.mem_of_getElem? (i := 484) (by decide +kernel), by decide +kernel⟩
theorem wd_287 : Cond.code yX3_knownIfPrinted cX3_knownIfPrinted 8 (some .int) ∈ m_gd := List.mem_filter.mpr ⟨List.mem_of_getElem? (i := 485) (by decide +kernel), by decide +kernel⟩
theorem wd_288 : Cond.methodLink RX5 250 yX2_cardsAtHome ∈ m_gd := List.mem_filter.mpr ⟨List.mem_of_getElem? (i := 511) (by decide +kernel), by decide +kernel⟩
theorem wd_289 : Cond.instanceMethod yX2_cardsAtHome ∈ m_gd := List.mem_filter.mpr ⟨List.mem_of_getElem? (i := 512) (by decide +kernel), by decide +kernel⟩
theorem wd_290 : Cond.selects RX2 yX2_cardsAtHome yX2_cardsAtHome ∈ m_gd := List.mem_filter.mpr ⟨List.mem_of_getElem? (i := 513) (by decide +kernel), by decide +kernel⟩
theorem wd_291 : Cond.code yX2_cardsAtHome cX2_cardsAtHome 4 (some .int) ∈ m_gd := List.mem_filter.mpr ⟨List.mem_of_getElem? (i := 514) (by decide +kernel), by decide +kernel⟩
theorem wd_292 : Cond.methodLink RX5 257 Lib.Math.min.name ∈ m_gd := List.mem_filter.mpr ⟨List.mem_of_getElem? (i := 181) (by decide +kernel), by decide +kernel⟩
theorem wd_293 : Cond.methodLink RX5 262 arraycopyName ∈ m_gd := List.mem_filter.mpr ⟨List.mem_of_getElem? (i := 184) (by decide +kernel), by decide +kernel⟩
theorem wd_294 : Cond.native arraycopyName ∈ m_gd := List.mem_filter.mpr ⟨List.mem_of_getElem? (i := 186) (by decide +kernel), by decide +kernel⟩
theorem wd_295 : Cond.static arraycopyName ∈ m_gd := List.mem_filter.mpr ⟨List.mem_of_getElem? (i := 185) (by decide +kernel), by decide +kernel⟩
theorem wd_296 : Cond.initialized "java/lang/System" ∈ m_gd := List.mem_filter.mpr ⟨List.mem_of_getElem? (i := 10) (by decide +kernel), by decide +kernel⟩
theorem wd_297 : Cond.methodLink RX5 268 Lib.Math.abs.name ∈ m_gd := List.mem_filter.mpr ⟨List.mem_of_getElem? (i := 379) (by decide +kernel), by decide +kernel⟩
theorem wd_298 : Cond.static Lib.Math.abs.name ∈ m_gd := List.mem_filter.mpr ⟨List.mem_of_getElem? (i := 380) (by decide +kernel), by decide +kernel⟩
theorem wd_299 : Cond.code Lib.Math.abs.name Lib.Math.abs.code 1 (some .int) ∈ m_gd := List.mem_filter.mpr ⟨List.mem_of_getElem? (i := 381) (by decide +kernel), by decide +kernel⟩
theorem wd_300 : Cond.methodLink RX5 271 yX5_along ∈ m_gd := List.mem_filter.mpr ⟨List.mem_of_getElem? (i := 327) (by decide +kernel), by decide +kernel⟩
theorem wd_301 : Cond.static yX5_along ∈ m_gd := List.mem_filter.mpr ⟨List.mem_of_getElem? (i := 328) (by decide +kernel), by decide +kernel⟩
theorem wd_302 : Cond.code yX5_along cX5_along 3 (some .int) ∈ m_gd := List.mem_filter.mpr ⟨List.mem_of_getElem? (i := 329) (by decide +kernel), by decide +kernel⟩
theorem wd_303 : Cond.constant RJ6 265 1431655765 ∈ m_gd := List.mem_filter.mpr ⟨List.mem_of_getElem? (i := 470) (by decide +kernel), by decide +kernel⟩
theorem wd_304 : Cond.constant RJ6 266 858993459 ∈ m_gd := List.mem_filter.mpr ⟨List.mem_of_getElem? (i := 471) (by decide +kernel), by decide +kernel⟩
theorem wd_305 : Cond.constant RJ6 267 252645135 ∈ m_gd := List.mem_filter.mpr ⟨List.mem_of_getElem? (i := 472) (by decide +kernel), by decide +kernel⟩
theorem wd_306 : Cond.constant RL 7 43943 ∈ m_gd := List.mem_filter.mpr ⟨List.mem_of_getElem? (i := 195) (by decide +kernel), by decide +kernel⟩
theorem wd_307 : Cond.constant RL 8 2984729 ∈ m_gd := List.mem_filter.mpr ⟨List.mem_of_getElem? (i := 196) (by decide +kernel), by decide +kernel⟩
theorem wd_308 : Cond.constant RL 9 2147483647 ∈ m_gd := List.mem_filter.mpr ⟨List.mem_of_getElem? (i := 200) (by decide +kernel), by decide +kernel⟩
theorem wd_309 : Cond.methodLink RL 10 yL_cellAt ∈ m_gd := List.mem_filter.mpr ⟨List.mem_of_getElem? (i := 419) (by decide +kernel), by decide +kernel⟩
theorem wd_310 : Cond.static yL_cellAt ∈ m_gd := List.mem_filter.mpr ⟨List.mem_of_getElem? (i := 420) (by decide +kernel), by decide +kernel⟩
theorem wd_311 : Cond.initialized RL ∈ m_gd := List.mem_filter.mpr ⟨List.mem_of_getElem? (i := 2) (by decide +kernel), by decide +kernel⟩
theorem wd_312 : Cond.code yL_cellAt cL_cellAt 4 (some .int) ∈ m_gd := List.mem_filter.mpr ⟨List.mem_of_getElem? (i := 421) (by decide +kernel), by decide +kernel⟩
theorem wd_313 : Cond.methodLink RL 16 yL_sheetAt ∈ m_gd := List.mem_filter.mpr ⟨List.mem_of_getElem? (i := 422) (by decide +kernel), by decide +kernel⟩
theorem wd_314 : Cond.static yL_sheetAt ∈ m_gd := List.mem_filter.mpr ⟨List.mem_of_getElem? (i := 423) (by decide +kernel), by decide +kernel⟩
theorem wd_315 : Cond.code yL_sheetAt cL_sheetAt 3 (some .int) ∈ m_gd := List.mem_filter.mpr ⟨List.mem_of_getElem? (i := 424) (by decide +kernel), by decide +kernel⟩
theorem wd_316 : Cond.methodLink RL 20 yL_alike ∈ m_gd := List.mem_filter.mpr ⟨List.mem_of_getElem? (i := 440) (by decide +kernel), by decide +kernel⟩
theorem wd_317 : Cond.static yL_alike ∈ m_gd := List.mem_filter.mpr ⟨List.mem_of_getElem? (i := 441) (by decide +kernel), by decide +kernel⟩
theorem wd_318 : Cond.code yL_alike cL_alike 7 (some .int) ∈ m_gd := List.mem_filter.mpr ⟨List.mem_of_getElem? (i := 442) (by decide +kernel), by decide +kernel⟩
theorem wd_319 : Cond.methodLink RL 24 yL_leaning ∈ m_gd := List.mem_filter.mpr ⟨List.mem_of_getElem? (i := 434) (by decide +kernel), by decide +kernel⟩
theorem wd_320 : Cond.static yL_leaning ∈ m_gd := List.mem_filter.mpr ⟨List.mem_of_getElem? (i := 435) (by decide +kernel), by decide +kernel⟩
theorem wd_321 : Cond.code yL_leaning cL_leaning 4 (some .int) ∈ m_gd := List.mem_filter.mpr ⟨List.mem_of_getElem? (i := 436) (by decide +kernel), by decide +kernel⟩
theorem wd_322 : Cond.methodLink RL 28 yL_known ∈ m_gd := List.mem_filter.mpr ⟨List.mem_of_getElem? (i := 437) (by decide +kernel), by decide +kernel⟩
theorem wd_323 : Cond.static yL_known ∈ m_gd := List.mem_filter.mpr ⟨List.mem_of_getElem? (i := 438) (by decide +kernel), by decide +kernel⟩
theorem wd_324 : Cond.code yL_known cL_known 5 (some .int) ∈ m_gd := List.mem_filter.mpr ⟨List.mem_of_getElem? (i := 439) (by decide +kernel), by decide +kernel⟩
theorem wd_325 : Cond.methodLink RL 32 yX5_swap ∈ m_gd := List.mem_filter.mpr ⟨List.mem_of_getElem? (i := 207) (by decide +kernel), by decide +kernel⟩
theorem wd_326 : Cond.instanceMethod yX5_swap ∈ m_gd := List.mem_filter.mpr ⟨List.mem_of_getElem? (i := 208) (by decide +kernel), by decide +kernel⟩
theorem wd_327 : Cond.selects RX5 yX5_swap yX5_swap ∈ m_gd := List.mem_filter.mpr ⟨List.mem_of_getElem? (i := 209) (by decide +kernel), by decide +kernel⟩
theorem wd_328 : Cond.code yX5_swap cX5_swap 3 (some .int) ∈ m_gd := List.mem_filter.mpr ⟨List.mem_of_getElem? (i := 210) (by decide +kernel), by decide +kernel⟩
theorem wd_329 : Cond.methodLink RL 37 yX5_mark ∈ m_gd := List.mem_filter.mpr ⟨List.mem_of_getElem? (i := 231) (by decide +kernel), by decide +kernel⟩
theorem wd_330 : Cond.instanceMethod yX5_mark ∈ m_gd := List.mem_filter.mpr ⟨List.mem_of_getElem? (i := 232) (by decide +kernel), by decide +kernel⟩
theorem wd_331 : Cond.selects RX5 yX5_mark yX5_mark ∈ m_gd := List.mem_filter.mpr ⟨List.mem_of_getElem? (i := 233) (by decide +kernel), by decide +kernel⟩
theorem wd_332 : Cond.code yX5_mark cX5_mark 4 (some .int) ∈ m_gd := List.mem_filter.mpr ⟨List.mem_of_getElem? (i := 234) (by decide +kernel), by decide +kernel⟩
theorem wd_333 : Cond.methodLink RL 41 yX5_lean ∈ m_gd := List.mem_filter.mpr ⟨List.mem_of_getElem? (i := 246) (by decide +kernel), by decide +kernel⟩
theorem wd_334 : Cond.instanceMethod yX5_lean ∈ m_gd := List.mem_filter.mpr ⟨List.mem_of_getElem? (i := 247) (by decide +kernel), by decide +kernel⟩
theorem wd_335 : Cond.selects RX5 yX5_lean yX5_lean ∈ m_gd := List.mem_filter.mpr ⟨List.mem_of_getElem? (i := 248) (by decide +kernel), by decide +kernel⟩
theorem wd_336 : Cond.code yX5_lean cX5_lean 4 (some .int) ∈ m_gd := List.mem_filter.mpr ⟨List.mem_of_getElem? (i := 249) (by decide +kernel), by decide +kernel⟩
theorem wd_337 : Cond.methodLink RL 44 yX5_set ∈ m_gd := List.mem_filter.mpr ⟨List.mem_of_getElem? (i := 257) (by decide +kernel), by decide +kernel⟩
theorem wd_338 : Cond.instanceMethod yX5_set ∈ m_gd := List.mem_filter.mpr ⟨List.mem_of_getElem? (i := 258) (by decide +kernel), by decide +kernel⟩
theorem wd_339 : Cond.selects RX5 yX5_set yX5_set ∈ m_gd := List.mem_filter.mpr ⟨List.mem_of_getElem? (i := 259) (by decide +kernel), by decide +kernel⟩
theorem wd_340 : Cond.code yX5_set cX5_set 4 (some .int) ∈ m_gd := List.mem_filter.mpr ⟨List.mem_of_getElem? (i := 260) (by decide +kernel), by decide +kernel⟩
theorem wd_341 : Cond.methodLink RL 47 yX5_print ∈ m_gd := List.mem_filter.mpr ⟨List.mem_of_getElem? (i := 265) (by decide +kernel), by decide +kernel⟩
theorem wd_342 : Cond.instanceMethod yX5_print ∈ m_gd := List.mem_filter.mpr ⟨List.mem_of_getElem? (i := 266) (by decide +kernel), by decide +kernel⟩
theorem wd_343 : Cond.selects RX5 yX5_print yX5_print ∈ m_gd := List.mem_filter.mpr ⟨List.mem_of_getElem? (i := 267) (by decide +kernel), by decide +kernel⟩
theorem wd_344 : Cond.code yX5_print cX5_print 2 (some .int) ∈ m_gd := List.mem_filter.mpr ⟨List.mem_of_getElem? (i := 268) (by decide +kernel), by decide +kernel⟩
theorem wd_345 : Cond.methodLink RL 51 yX5_cutSheet ∈ m_gd := List.mem_filter.mpr ⟨List.mem_of_getElem? (i := 299) (by decide +kernel), by decide +kernel⟩
theorem wd_346 : Cond.instanceMethod yX5_cutSheet ∈ m_gd := List.mem_filter.mpr ⟨List.mem_of_getElem? (i := 300) (by decide +kernel), by decide +kernel⟩
theorem wd_347 : Cond.selects RX5 yX5_cutSheet yX5_cutSheet ∈ m_gd := List.mem_filter.mpr ⟨List.mem_of_getElem? (i := 301) (by decide +kernel), by decide +kernel⟩
theorem wd_348 : Cond.code yX5_cutSheet cX5_cutSheet 2 (some .int) ∈ m_gd := List.mem_filter.mpr ⟨List.mem_of_getElem? (i := 302) (by decide +kernel), by decide +kernel⟩
theorem wd_349 : Cond.methodLink RL 55 yX5_cutPack ∈ m_gd := List.mem_filter.mpr ⟨List.mem_of_getElem? (i := 330) (by decide +kernel), by decide +kernel⟩
theorem wd_350 : Cond.instanceMethod yX5_cutPack ∈ m_gd := List.mem_filter.mpr ⟨List.mem_of_getElem? (i := 331) (by decide +kernel), by decide +kernel⟩
theorem wd_351 : Cond.selects RX5 yX5_cutPack yX5_cutPack ∈ m_gd := List.mem_filter.mpr ⟨List.mem_of_getElem? (i := 332) (by decide +kernel), by decide +kernel⟩
theorem wd_352 : Cond.code yX5_cutPack cX5_cutPack 3 (some .int) ∈ m_gd := List.mem_filter.mpr ⟨List.mem_of_getElem? (i := 333) (by decide +kernel), by decide +kernel⟩
theorem wd_353 : Cond.methodLink RL 58 yX5_shuffle ∈ m_gd := List.mem_filter.mpr ⟨List.mem_of_getElem? (i := 352) (by decide +kernel), by decide +kernel⟩
theorem wd_354 : Cond.instanceMethod yX5_shuffle ∈ m_gd := List.mem_filter.mpr ⟨List.mem_of_getElem? (i := 353) (by decide +kernel), by decide +kernel⟩
theorem wd_355 : Cond.selects RX5 yX5_shuffle yX5_shuffle ∈ m_gd := List.mem_filter.mpr ⟨List.mem_of_getElem? (i := 354) (by decide +kernel), by decide +kernel⟩
theorem wd_356 : Cond.code yX5_shuffle cX5_shuffle 3 (some .int) ∈ m_gd := List.mem_filter.mpr ⟨List.mem_of_getElem? (i := 355) (by decide +kernel), by decide +kernel⟩
theorem wd_357 : Cond.methodLink RL 61 yX5_deal ∈ m_gd := List.mem_filter.mpr ⟨List.mem_of_getElem? (i := 363) (by decide +kernel), by decide +kernel⟩
theorem wd_358 : Cond.instanceMethod yX5_deal ∈ m_gd := List.mem_filter.mpr ⟨List.mem_of_getElem? (i := 364) (by decide +kernel), by decide +kernel⟩
theorem wd_359 : Cond.selects RX5 yX5_deal yX5_deal ∈ m_gd := List.mem_filter.mpr ⟨List.mem_of_getElem? (i := 365) (by decide +kernel), by decide +kernel⟩
theorem wd_360 : Cond.code yX5_deal cX5_deal 3 (some .int) ∈ m_gd := List.mem_filter.mpr ⟨List.mem_of_getElem? (i := 366) (by decide +kernel), by decide +kernel⟩
theorem wd_361 : Cond.methodLink RL 64 yX5_sell ∈ m_gd := List.mem_filter.mpr ⟨List.mem_of_getElem? (i := 368) (by decide +kernel), by decide +kernel⟩
theorem wd_362 : Cond.instanceMethod yX5_sell ∈ m_gd := List.mem_filter.mpr ⟨List.mem_of_getElem? (i := 369) (by decide +kernel), by decide +kernel⟩
theorem wd_363 : Cond.selects RX5 yX5_sell yX5_sell ∈ m_gd := List.mem_filter.mpr ⟨List.mem_of_getElem? (i := 370) (by decide +kernel), by decide +kernel⟩
theorem wd_364 : Cond.code yX5_sell cX5_sell 3 (some .int) ∈ m_gd := List.mem_filter.mpr ⟨List.mem_of_getElem? (i := 371) (by decide +kernel), by decide +kernel⟩
theorem wd_365 : Cond.methodLink RL 68 yX5_pulp ∈ m_gd := List.mem_filter.mpr ⟨List.mem_of_getElem? (i := 403) (by decide +kernel), by decide +kernel⟩
theorem wd_366 : Cond.instanceMethod yX5_pulp ∈ m_gd := List.mem_filter.mpr ⟨List.mem_of_getElem? (i := 404) (by decide +kernel), by decide +kernel⟩
theorem wd_367 : Cond.selects RX5 yX5_pulp yX5_pulp ∈ m_gd := List.mem_filter.mpr ⟨List.mem_of_getElem? (i := 405) (by decide +kernel), by decide +kernel⟩
theorem wd_368 : Cond.code yX5_pulp cX5_pulp 2 (some .int) ∈ m_gd := List.mem_filter.mpr ⟨List.mem_of_getElem? (i := 406) (by decide +kernel), by decide +kernel⟩
theorem wd_369 : Cond.methodLink RL 71 yL_court ∈ m_gd := List.mem_filter.mpr ⟨List.mem_of_getElem? (i := 410) (by decide +kernel), by decide +kernel⟩
theorem wd_370 : Cond.static yL_court ∈ m_gd := List.mem_filter.mpr ⟨List.mem_of_getElem? (i := 411) (by decide +kernel), by decide +kernel⟩
theorem wd_371 : Cond.code yL_court cL_court 1 (some .int) ∈ m_gd := List.mem_filter.mpr ⟨List.mem_of_getElem? (i := 412) (by decide +kernel), by decide +kernel⟩
theorem wd_372 : Cond.methodLink RL 74 yL_cuts ∈ m_gd := List.mem_filter.mpr ⟨List.mem_of_getElem? (i := 416) (by decide +kernel), by decide +kernel⟩
theorem wd_373 : Cond.static yL_cuts ∈ m_gd := List.mem_filter.mpr ⟨List.mem_of_getElem? (i := 417) (by decide +kernel), by decide +kernel⟩
theorem wd_374 : Cond.code yL_cuts cL_cuts 8 none ∈ m_gd := List.mem_filter.mpr ⟨List.mem_of_getElem? (i := 418) (by decide +kernel), by decide +kernel⟩
theorem wd_375 : Cond.methodLink RL 78 yL_turns ∈ m_gd := List.mem_filter.mpr ⟨List.mem_of_getElem? (i := 425) (by decide +kernel), by decide +kernel⟩
theorem wd_376 : Cond.static yL_turns ∈ m_gd := List.mem_filter.mpr ⟨List.mem_of_getElem? (i := 426) (by decide +kernel), by decide +kernel⟩
theorem wd_377 : Cond.code yL_turns cL_turns 6 none ∈ m_gd := List.mem_filter.mpr ⟨List.mem_of_getElem? (i := 427) (by decide +kernel), by decide +kernel⟩
theorem wd_378 : Cond.methodLink RL 82 yL_shuffles ∈ m_gd := List.mem_filter.mpr ⟨List.mem_of_getElem? (i := 428) (by decide +kernel), by decide +kernel⟩
theorem wd_379 : Cond.static yL_shuffles ∈ m_gd := List.mem_filter.mpr ⟨List.mem_of_getElem? (i := 429) (by decide +kernel), by decide +kernel⟩
theorem wd_380 : Cond.code yL_shuffles cL_shuffles 8 (some .int) ∈ m_gd := List.mem_filter.mpr ⟨List.mem_of_getElem? (i := 430) (by decide +kernel), by decide +kernel⟩
theorem wd_381 : Cond.methodLink RL 85 yL_why ∈ m_gd := List.mem_filter.mpr ⟨List.mem_of_getElem? (i := 431) (by decide +kernel), by decide +kernel⟩
theorem wd_382 : Cond.static yL_why ∈ m_gd := List.mem_filter.mpr ⟨List.mem_of_getElem? (i := 432) (by decide +kernel), by decide +kernel⟩
theorem wd_383 : Cond.code yL_why cL_why 4 (some .int) ∈ m_gd := List.mem_filter.mpr ⟨List.mem_of_getElem? (i := 433) (by decide +kernel), by decide +kernel⟩
theorem wd_384 : Cond.methodLink RL 89 yL_low ∈ m_gd := List.mem_filter.mpr ⟨List.mem_of_getElem? (i := 197) (by decide +kernel), by decide +kernel⟩
theorem wd_385 : Cond.static yL_low ∈ m_gd := List.mem_filter.mpr ⟨List.mem_of_getElem? (i := 198) (by decide +kernel), by decide +kernel⟩
theorem wd_386 : Cond.code yL_low cL_low 2 (some .int) ∈ m_gd := List.mem_filter.mpr ⟨List.mem_of_getElem? (i := 199) (by decide +kernel), by decide +kernel⟩
theorem wd_387 : Cond.methodLink RL 92 yX5_count ∈ m_gd := List.mem_filter.mpr ⟨List.mem_of_getElem? (i := 449) (by decide +kernel), by decide +kernel⟩
theorem wd_388 : Cond.instanceMethod yX5_count ∈ m_gd := List.mem_filter.mpr ⟨List.mem_of_getElem? (i := 450) (by decide +kernel), by decide +kernel⟩
theorem wd_389 : Cond.selects RX5 yX5_count yX5_count ∈ m_gd := List.mem_filter.mpr ⟨List.mem_of_getElem? (i := 451) (by decide +kernel), by decide +kernel⟩
theorem wd_390 : Cond.code yX5_count cX5_count 2 (some .int) ∈ m_gd := List.mem_filter.mpr ⟨List.mem_of_getElem? (i := 452) (by decide +kernel), by decide +kernel⟩
theorem wd_391 : Cond.methodLink RL 95 yX5_chances ∈ m_gd := List.mem_filter.mpr ⟨List.mem_of_getElem? (i := 519) (by decide +kernel), by decide +kernel⟩
theorem wd_392 : Cond.instanceMethod yX5_chances ∈ m_gd := List.mem_filter.mpr ⟨List.mem_of_getElem? (i := 520) (by decide +kernel), by decide +kernel⟩
theorem wd_393 : Cond.selects RX5 yX5_chances yX5_chances ∈ m_gd := List.mem_filter.mpr ⟨List.mem_of_getElem? (i := 521) (by decide +kernel), by decide +kernel⟩
theorem wd_394 : Cond.code yX5_chances cX5_chances 1 (some .float) ∈ m_gd := List.mem_filter.mpr ⟨List.mem_of_getElem? (i := 522) (by decide +kernel), by decide +kernel⟩
theorem wd_395 : Cond.constantFloat RL 99 3212836864 ∈ m_gd := List.mem_filter.mpr ⟨List.mem_of_getElem? (i := 528) (by decide +kernel), by decide +kernel⟩
theorem wd_396 : Cond.methodLink RL 100 yX5_cardOf ∈ m_gd := List.mem_filter.mpr ⟨List.mem_of_getElem? (i := 490) (by decide +kernel), by decide +kernel⟩
theorem wd_397 : Cond.instanceMethod yX5_cardOf ∈ m_gd := List.mem_filter.mpr ⟨List.mem_of_getElem? (i := 491) (by decide +kernel), by decide +kernel⟩
theorem wd_398 : Cond.selects RX5 yX5_cardOf yX5_cardOf ∈ m_gd := List.mem_filter.mpr ⟨List.mem_of_getElem? (i := 492) (by decide +kernel), by decide +kernel⟩
theorem wd_399 : Cond.code yX5_cardOf cX5_cardOf 3 (some .int) ∈ m_gd := List.mem_filter.mpr ⟨List.mem_of_getElem? (i := 493) (by decide +kernel), by decide +kernel⟩
theorem wd_400 : Cond.methodLink RL 103 yX5_pack ∈ m_gd := List.mem_filter.mpr ⟨List.mem_of_getElem? (i := 529) (by decide +kernel), by decide +kernel⟩
theorem wd_401 : Cond.instanceMethod yX5_pack ∈ m_gd := List.mem_filter.mpr ⟨List.mem_of_getElem? (i := 530) (by decide +kernel), by decide +kernel⟩
theorem wd_402 : Cond.selects RX5 yX5_pack yX5_pack ∈ m_gd := List.mem_filter.mpr ⟨List.mem_of_getElem? (i := 531) (by decide +kernel), by decide +kernel⟩
theorem wd_403 : Cond.code yX5_pack cX5_pack 4 (some .int) ∈ m_gd := List.mem_filter.mpr ⟨List.mem_of_getElem? (i := 532) (by decide +kernel), by decide +kernel⟩
theorem wd_404 : Cond.methodLink RL 106 yL_ones ∈ m_gd := List.mem_filter.mpr ⟨List.mem_of_getElem? (i := 446) (by decide +kernel), by decide +kernel⟩
theorem wd_405 : Cond.static yL_ones ∈ m_gd := List.mem_filter.mpr ⟨List.mem_of_getElem? (i := 447) (by decide +kernel), by decide +kernel⟩
theorem wd_406 : Cond.code yL_ones cL_ones 3 (some .int) ∈ m_gd := List.mem_filter.mpr ⟨List.mem_of_getElem? (i := 448) (by decide +kernel), by decide +kernel⟩
theorem wd_407 : Cond.methodLink RL 109 yX5_why ∈ m_gd := List.mem_filter.mpr ⟨List.mem_of_getElem? (i := 474) (by decide +kernel), by decide +kernel⟩
theorem wd_408 : Cond.instanceMethod yX5_why ∈ m_gd := List.mem_filter.mpr ⟨List.mem_of_getElem? (i := 475) (by decide +kernel), by decide +kernel⟩
theorem wd_409 : Cond.selects RX5 yX5_why yX5_why ∈ m_gd := List.mem_filter.mpr ⟨List.mem_of_getElem? (i := 476) (by decide +kernel), by decide +kernel⟩
theorem wd_410 : Cond.code yX5_why cX5_why 1 (some .int) ∈ m_gd := List.mem_filter.mpr ⟨List.mem_of_getElem? (i := 477) (by decide +kernel), by decide +kernel⟩
theorem wd_411 : Cond.methodLink RL 111 yX5_ifPrinted ∈ m_gd := List.mem_filter.mpr ⟨List.mem_of_getElem? (i := 478) (by decide +kernel), by decide +kernel⟩
theorem wd_412 : Cond.instanceMethod yX5_ifPrinted ∈ m_gd := List.mem_filter.mpr ⟨List.mem_of_getElem? (i := 479) (by decide +kernel), by decide +kernel⟩
theorem wd_413 : Cond.selects RX5 yX5_ifPrinted yX5_ifPrinted ∈ m_gd := List.mem_filter.mpr ⟨List.mem_of_getElem? (i := 480) (by decide +kernel), by decide +kernel⟩
theorem wd_414 : Cond.code yX5_ifPrinted cX5_ifPrinted 2 (some .int) ∈ m_gd := List.mem_filter.mpr ⟨List.mem_of_getElem? (i := 481) (by decide +kernel), by decide +kernel⟩
theorem wd_415 : Cond.methodLink RL 114 yX5_block ∈ m_gd := List.mem_filter.mpr ⟨List.mem_of_getElem? (i := 486) (by decide +kernel), by decide +kernel⟩
theorem wd_416 : Cond.instanceMethod yX5_block ∈ m_gd := List.mem_filter.mpr ⟨List.mem_of_getElem? (i := 487) (by decide +kernel), by decide +kernel⟩
theorem wd_417 : Cond.selects RX5 yX5_block yX5_block ∈ m_gd := List.mem_filter.mpr ⟨List.mem_of_getElem? (i := 488) (by decide +kernel), by decide +kernel⟩
theorem wd_418 : Cond.code yX5_block cX5_block 3 (some .int) ∈ m_gd := List.mem_filter.mpr ⟨List.mem_of_getElem? (i := 489) (by decide +kernel), by decide +kernel⟩
theorem wd_419 : Cond.methodLink RL 117 yX5_sheet ∈ m_gd := List.mem_filter.mpr ⟨List.mem_of_getElem? (i := 503) (by decide +kernel), by decide +kernel⟩
theorem wd_420 : Cond.instanceMethod yX5_sheet ∈ m_gd := List.mem_filter.mpr ⟨List.mem_of_getElem? (i := 504) (by decide +kernel), by decide +kernel⟩
theorem wd_421 : Cond.selects RX5 yX5_sheet yX5_sheet ∈ m_gd := List.mem_filter.mpr ⟨List.mem_of_getElem? (i := 505) (by decide +kernel), by decide +kernel⟩
theorem wd_422 : Cond.code yX5_sheet cX5_sheet 6 (some .int) ∈ m_gd := List.mem_filter.mpr ⟨List.mem_of_getElem? (i := 506) (by decide +kernel), by decide +kernel⟩
theorem wd_423 : Cond.methodLink RL 121 yX5_bestWay ∈ m_gd := List.mem_filter.mpr ⟨List.mem_of_getElem? (i := 507) (by decide +kernel), by decide +kernel⟩
theorem wd_424 : Cond.instanceMethod yX5_bestWay ∈ m_gd := List.mem_filter.mpr ⟨List.mem_of_getElem? (i := 508) (by decide +kernel), by decide +kernel⟩
theorem wd_425 : Cond.selects RX5 yX5_bestWay yX5_bestWay ∈ m_gd := List.mem_filter.mpr ⟨List.mem_of_getElem? (i := 509) (by decide +kernel), by decide +kernel⟩
theorem wd_426 : Cond.code yX5_bestWay cX5_bestWay 6 (some .int) ∈ m_gd := List.mem_filter.mpr ⟨List.mem_of_getElem? (i := 510) (by decide +kernel), by decide +kernel⟩
theorem wd_427 : Cond.methodLink RL 124 yL_isPack ∈ m_gd := List.mem_filter.mpr ⟨List.mem_of_getElem? (i := 516) (by decide +kernel), by decide +kernel⟩
theorem wd_428 : Cond.static yL_isPack ∈ m_gd := List.mem_filter.mpr ⟨List.mem_of_getElem? (i := 517) (by decide +kernel), by decide +kernel⟩
theorem wd_429 : Cond.code yL_isPack cL_isPack 12 (some .boolean) ∈ m_gd := List.mem_filter.mpr ⟨List.mem_of_getElem? (i := 518) (by decide +kernel), by decide +kernel⟩
theorem wd_430 : Cond.constantLong RL 128 173 ∈ m_gd := List.mem_filter.mpr ⟨List.mem_of_getElem? (i := 539) (by decide +kernel), by decide +kernel⟩
theorem wd_431 : Cond.constantLong RL 130 31 ∈ m_gd := List.mem_filter.mpr ⟨List.mem_of_getElem? (i := 540) (by decide +kernel), by decide +kernel⟩
theorem wd_432 : Cond.classLink RL 33 RX5 ∈ m_gd := List.mem_filter.mpr ⟨List.mem_of_getElem? (i := 12) (by decide +kernel), by decide +kernel⟩
theorem wd_433 : Cond.instantiable RX5 6 ∈ m_gd := List.mem_filter.mpr ⟨List.mem_of_getElem? (i := 13) (by decide +kernel), by decide +kernel⟩
theorem wd_434 : Cond.methodLink RL 132 yX5_init ∈ m_gd := List.mem_filter.mpr ⟨List.mem_of_getElem? (i := 14) (by decide +kernel), by decide +kernel⟩
theorem wd_435 : Cond.instanceMethod yX5_init ∈ m_gd := List.mem_filter.mpr ⟨List.mem_of_getElem? (i := 15) (by decide +kernel), by decide +kernel⟩
theorem wd_436 : Cond.code yX5_init cX5_init 1 none ∈ m_gd := List.mem_filter.mpr ⟨List.mem_of_getElem? (i := 16) (by decide +kernel), by decide +kernel⟩
theorem wd_437 : Cond.methodLink RL 133 yL_cell ∈ m_gd := List.mem_filter.mpr ⟨List.mem_of_getElem? (i := 192) (by decide +kernel), by decide +kernel⟩
theorem wd_438 : Cond.static yL_cell ∈ m_gd := List.mem_filter.mpr ⟨List.mem_of_getElem? (i := 193) (by decide +kernel), by decide +kernel⟩
theorem wd_439 : Cond.code yL_cell cL_cell 2 (some .int) ∈ m_gd := List.mem_filter.mpr ⟨List.mem_of_getElem? (i := 194) (by decide +kernel), by decide +kernel⟩
theorem wd_440 : Cond.methodLink RL 137 yL_told ∈ m_gd := List.mem_filter.mpr ⟨List.mem_of_getElem? (i := 536) (by decide +kernel), by decide +kernel⟩
theorem wd_441 : Cond.static yL_told ∈ m_gd := List.mem_filter.mpr ⟨List.mem_of_getElem? (i := 537) (by decide +kernel), by decide +kernel⟩
theorem wd_442 : Cond.code yL_told cL_told 4 (some .long) ∈ m_gd := List.mem_filter.mpr ⟨List.mem_of_getElem? (i := 538) (by decide +kernel), by decide +kernel⟩
theorem wd_443 : Cond.methodLink RL 141 yL_call ∈ m_gd := List.mem_filter.mpr ⟨List.mem_of_getElem? (i := 204) (by decide +kernel), by decide +kernel⟩
theorem wd_444 : Cond.static yL_call ∈ m_gd := List.mem_filter.mpr ⟨List.mem_of_getElem? (i := 205) (by decide +kernel), by decide +kernel⟩
theorem wd_445 : Cond.code yL_call cL_call 5 (some .int) ∈ m_gd := List.mem_filter.mpr ⟨List.mem_of_getElem? (i := 206) (by decide +kernel), by decide +kernel⟩
theorem wd_446 : Cond.methodLink RL 145 yX5_undo ∈ m_gd := List.mem_filter.mpr ⟨List.mem_of_getElem? (i := 166) (by decide +kernel), by decide +kernel⟩
theorem wd_447 : Cond.instanceMethod yX5_undo ∈ m_gd := List.mem_filter.mpr ⟨List.mem_of_getElem? (i := 167) (by decide +kernel), by decide +kernel⟩
theorem wd_448 : Cond.selects RX5 yX5_undo yX5_undo ∈ m_gd := List.mem_filter.mpr ⟨List.mem_of_getElem? (i := 168) (by decide +kernel), by decide +kernel⟩
theorem wd_449 : Cond.code yX5_undo cX5_undo 1 (some .int) ∈ m_gd := List.mem_filter.mpr ⟨List.mem_of_getElem? (i := 169) (by decide +kernel), by decide +kernel⟩
theorem wd_450 : Cond.methodLink RL 148 yL_ofBlocks ∈ m_gd := List.mem_filter.mpr ⟨List.mem_of_getElem? (i := 407) (by decide +kernel), by decide +kernel⟩
theorem wd_451 : Cond.static yL_ofBlocks ∈ m_gd := List.mem_filter.mpr ⟨List.mem_of_getElem? (i := 408) (by decide +kernel), by decide +kernel⟩
theorem wd_452 : Cond.code yL_ofBlocks cL_ofBlocks 9 (some .int) ∈ m_gd := List.mem_filter.mpr ⟨List.mem_of_getElem? (i := 409) (by decide +kernel), by decide +kernel⟩
theorem wd_453 : Cond.methodLink RL 152 yL_ofPack ∈ m_gd := List.mem_filter.mpr ⟨List.mem_of_getElem? (i := 413) (by decide +kernel), by decide +kernel⟩
theorem wd_454 : Cond.static yL_ofPack ∈ m_gd := List.mem_filter.mpr ⟨List.mem_of_getElem? (i := 414) (by decide +kernel), by decide +kernel⟩
theorem wd_455 : Cond.code yL_ofPack cL_ofPack 9 (some .int) ∈ m_gd := List.mem_filter.mpr ⟨List.mem_of_getElem? (i := 415) (by decide +kernel), by decide +kernel⟩
theorem wd_456 : Cond.methodLink RL 156 yL_prints ∈ m_gd := List.mem_filter.mpr ⟨List.mem_of_getElem? (i := 201) (by decide +kernel), by decide +kernel⟩
theorem wd_457 : Cond.static yL_prints ∈ m_gd := List.mem_filter.mpr ⟨List.mem_of_getElem? (i := 202) (by decide +kernel), by decide +kernel⟩
theorem wd_458 : Cond.code yL_prints cL_prints 8 none ∈ m_gd := List.mem_filter.mpr ⟨List.mem_of_getElem? (i := 203) (by decide +kernel), by decide +kernel⟩
theorem wd_459 : Cond.methodLink RL 160 yL_isSo ∈ m_gd := List.mem_filter.mpr ⟨List.mem_of_getElem? (i := 443) (by decide +kernel), by decide +kernel⟩
theorem wd_460 : Cond.static yL_isSo ∈ m_gd := List.mem_filter.mpr ⟨List.mem_of_getElem? (i := 444) (by decide +kernel), by decide +kernel⟩
theorem wd_461 : Cond.code yL_isSo cL_isSo 22 (some .boolean) ∈ m_gd := List.mem_filter.mpr ⟨List.mem_of_getElem? (i := 445) (by decide +kernel), by decide +kernel⟩
end
section
/-! the methods as tables of the plain machine (printed) -/
def tX0_init : m_Tab := [(0, m_aload 0 1), (1, m_init0), (4, m_aload 0 1), (5, m_const (.int (nI 4)) 1), (6, m_anar 3), (9, m_put 0 0 1), (12, m_aload 0 1), (13, m_const (.int (nI 0)) 1), (14, m_put 0 1 0), (17, m_aload 0 1), (18, m_const (.int (nI 0)) 1), (19, m_put 0 2 0), (22, m_const (.int (nI 0)) 1), (23, m_istore 1 1), (24, m_iload 1 1), (25, m_const (.int (nI 4)) 1), (26, m_icmp (fun x y => decide (y ≤ x)) 48), (29, m_aload 0 1), (30, m_get 0 0), (33, m_iload 1 1), (34, m_new 3 [.null, .null, .null, .null, .null, .null, .int 0, .int 0, .int 0, .int 0, .int 0]), (37, m_dup), (38, m_cob 25 0 3), (41, m_ast 3 3), (42, m_iinc 1 (nI 1)), (45, m_goto 24), (48, m_vret)]
def tX0_record : m_Tab := [(0, m_aload 0 1), (1, m_aload 0 1), (2, m_get 0 1), (5, m_aload 1 1), (6, m_cob 3 2 0), (9, m_aload 0 1), (10, m_aload 0 1), (11, m_get 0 1), (14, m_const (.int (nI 1)) 1), (15, m_bin (fun a b => a + b)), (16, m_const (.int (nI 4)) 1), (17, m_div (fun a b => a - a / b * b)), (18, m_put 0 1 0), (21, m_aload 0 1), (22, m_aload 0 1), (23, m_get 0 2), (26, m_const (.int (nI 1)) 1), (27, m_bin (fun a b => a + b)), (28, m_const (.int (nI 4)) 1), (29, m_min), (32, m_put 0 2 0), (35, m_vret)]
def tX0_takeLatestInto : m_Tab := [(0, m_aload 0 1), (1, m_get 0 2), (4, m_if (fun x => !(x == 0)) 8), (7, m_vret), (8, m_aload 0 1), (9, m_aload 0 1), (10, m_get 0 1), (13, m_const (.int (nI 4)) 1), (14, m_bin (fun a b => a + b)), (15, m_const (.int (nI 1)) 1), (16, m_bin (fun a b => a - b)), (17, m_const (.int (nI 4)) 1), (18, m_div (fun a b => a - a / b * b)), (19, m_put 0 1 0), (22, m_aload 0 1), (23, m_dup), (24, m_get 0 2), (27, m_const (.int (nI 1)) 1), (28, m_bin (fun a b => a - b)), (29, m_put 0 2 0), (32, m_aload 0 1), (33, m_get 0 1), (36, m_if (fun x => decide (x < 0)) 60), (39, m_aload 0 1), (40, m_get 0 1), (43, m_const (.int (nI 4)) 1), (44, m_icmp (fun x y => decide (y ≤ x)) 60), (47, m_aload 1 1), (48, m_aload 0 1), (49, m_get 0 0), (52, m_aload 0 1), (53, m_get 0 1), (56, m_ald), (57, m_cob 26 1 3), (60, m_vret)]
def tX0_copyTo : m_Tab := [(0, m_iload 1 1), (1, m_if (fun x => decide (x < 0)) 9), (4, m_iload 1 1), (5, m_const (.int (nI 4)) 1), (6, m_icmp (fun x y => decide (x < y)) 10), (9, m_vret), (10, m_aload 0 1), (11, m_get 0 0), (14, m_iload 1 1), (15, m_ald), (16, m_astore 3 1), (17, m_aload 3 1), (18, m_ifnull 26), (21, m_aload 3 1), (22, m_aload 2 1), (23, m_cob 26 1 3), (26, m_vret)]
def tX1_init : m_Tab := [(0, m_aload 0 1), (1, m_init0), (4, m_aload 0 1), (5, m_const (.int (nI 24)) 2), (7, m_nar 0), (9, m_put 1 0 1), (12, m_aload 0 1), (13, m_const .null 1), (14, m_put 1 1 1), (17, m_aload 0 1), (18, m_const (.int (nI 0)) 1), (19, m_put 1 2 0), (22, m_vret)]
def tX1_copyFrom : m_Tab := [(0, m_aload 1 1), (1, m_get 1 0), (4, m_aload 0 1), (5, m_get 1 0), (8, m_cst 67 2), (11, m_aload 0 1), (12, m_aload 1 1), (13, m_get 1 1), (16, m_put 1 1 1), (19, m_aload 0 1), (20, m_aload 1 1), (21, m_get 1 2), (24, m_put 1 2 0), (27, m_vret)]
def tX1_layDown : m_Tab := [(0, m_aload 1 1), (1, m_ifnonnull 5), (4, m_vret), (5, m_aload 0 1), (6, m_aload 1 1), (7, m_put 1 1 1), (10, m_aload 0 1), (11, m_const (.int (nI 0)) 1), (12, m_put 1 2 0), (15, m_const (.int (nI 0)) 1), (16, m_istore 3 1), (17, m_iload 3 1), (18, m_const (.int (nI 24)) 2), (20, m_icmp (fun x y => decide (y ≤ x)) 41), (23, m_aload 0 1), (24, m_get 1 0), (27, m_iload 3 1), (28, m_aload 1 1), (29, m_iload 2 1), (30, m_iload 3 1), (31, m_cob 23 2 2), (34, m_ist 0 (fun x => x)), (35, m_iinc 3 (nI 1)), (38, m_goto 17), (41, m_vret)]
def tX1_takeAway : m_Tab := [(0, m_aload 0 1), (1, m_const .null 1), (2, m_put 1 1 1), (5, m_aload 0 1), (6, m_const (.int (nI 0)) 1), (7, m_put 1 2 0), (10, m_vret)]
def tX1_isThere : m_Tab := [(0, m_aload 0 1), (1, m_get 1 1), (4, m_ifnull 11), (7, m_const (.int (nI 1)) 1), (8, m_goto 12), (11, m_const (.int (nI 0)) 1), (12, m_zret (fun x => x &&& 1))]
def tX1_left : m_Tab := [(0, m_aload 0 1), (1, m_get 1 1), (4, m_ifnonnull 11), (7, m_const (.int (nI 0)) 1), (8, m_goto 18), (11, m_const (.int (nI 24)) 2), (13, m_aload 0 1), (14, m_get 1 2), (17, m_bin (fun a b => a - b)), (18, m_iret)]
def tX1_hasPartsAt : m_Tab := [(0, m_iload 1 1), (1, m_const (.int (nI 1)) 1), (2, m_icmp (fun x y => decide (x < y)) 17), (5, m_iload 1 1), (6, m_aload 0 1), (7, m_cob 9 0 1), (10, m_icmp (fun x y => decide (y ≤ x)) 17), (13, m_const (.int (nI 1)) 1), (14, m_goto 18), (17, m_const (.int (nI 0)) 1), (18, m_zret (fun x => x &&& 1))]
def tX1_cardAt : m_Tab := [(0, m_aload 0 1), (1, m_get 1 0), (4, m_aload 0 1), (5, m_get 1 2), (8, m_iload 1 1), (9, m_bin (fun a b => a + b)), (10, m_cst 65 2), (13, m_iret)]
def tX1_placeOf : m_Tab := [(0, m_aload 0 1), (1, m_cob 9 0 1), (4, m_istore 2 1), (5, m_const (.int (nI 0)) 1), (6, m_istore 3 1), (7, m_iload 3 1), (8, m_iload 2 1), (9, m_icmp (fun x y => decide (y ≤ x)) 29), (12, m_aload 0 1), (13, m_iload 3 1), (14, m_cob 11 1 1), (17, m_iload 1 1), (18, m_icmp (fun x y => !(x == y)) 23), (21, m_iload 3 1), (22, m_iret), (23, m_iinc 3 (nI 1)), (26, m_goto 7), (29, m_const (.int (-5)) 2), (31, m_iret)]
def tX1_cutAt : m_Tab := [(0, m_aload 0 1), (1, m_get 1 0), (4, m_aload 2 1), (5, m_cst 67 2), (8, m_aload 0 1), (9, m_cob 9 0 1), (12, m_istore 3 1), (13, m_const (.int (nI 0)) 1), (14, m_istore 4 2), (16, m_iload 4 2), (18, m_iload 3 1), (19, m_icmp (fun x y => decide (y ≤ x)) 76), (22, m_iload 4 2), (24, m_iload 1 1), (25, m_bin (fun a b => a + b)), (26, m_iload 3 1), (27, m_icmp (fun x y => decide (y ≤ x)) 37), (30, m_iload 4 2), (32, m_iload 1 1), (33, m_bin (fun a b => a + b)), (34, m_goto 43), (37, m_iload 4 2), (39, m_iload 1 1), (40, m_bin (fun a b => a + b)), (41, m_iload 3 1), (42, m_bin (fun a b => a - b)), (43, m_istore 5 2), (45, m_aload 0 1), (46, m_get 1 0), (49, m_aload 0 1), (50, m_get 1 2), (53, m_iload 4 2), (55, m_bin (fun a b => a + b)), (56, m_aload 2 1), (57, m_aload 0 1), (58, m_get 1 2), (61, m_iload 5 2), (63, m_bin (fun a b => a + b)), (64, m_cst 65 2), (67, m_cst 66 3), (70, m_iinc 4 (nI 1)), (73, m_goto 16), (76, m_vret)]
def tX1_shuffleAt : m_Tab := [(0, m_aload 0 1), (1, m_get 1 0), (4, m_aload 2 1), (5, m_cst 67 2), (8, m_aload 0 1), (9, m_cob 9 0 1), (12, m_istore 3 1), (13, m_const (.int (nI 0)) 1), (14, m_istore 4 2), (16, m_const (.int (nI 0)) 1), (17, m_istore 5 2), (19, m_iload 5 2), (21, m_iload 3 1), (22, m_icmp (fun x y => decide (y ≤ x)) 75), (25, m_iload 5 2), (27, m_iload 1 1), (28, m_iload 3 1), (29, m_cst 71 3), (32, m_istore 6 2), (34, m_aload 0 1), (35, m_get 1 0), (38, m_aload 0 1), (39, m_get 1 2), (42, m_iload 5 2), (44, m_bin (fun a b => a + b)), (45, m_aload 2 1), (46, m_aload 0 1), (47, m_get 1 2), (50, m_iload 6 2), (52, m_bin (fun a b => a + b)), (53, m_cst 65 2), (56, m_cst 66 3), (59, m_iload 6 2), (61, m_iload 5 2), (63, m_icmp (fun x y => x == y) 69), (66, m_iinc 4 (nI 1)), (69, m_iinc 5 (nI 1)), (72, m_goto 19), (75, m_iload 4 2), (77, m_iret)]
def tX1_marksOf : m_Tab := [(0, m_aload 0 1), (1, m_get 1 1), (4, m_ifnonnull 12), (7, m_const (.int (-5)) 2), (9, m_goto 23), (12, m_aload 0 1), (13, m_get 1 1), (16, m_get 2 1), (19, m_iload 1 1), (20, m_cst 65 2), (23, m_iret)]
def tX1_marksAt : m_Tab := [(0, m_aload 0 1), (1, m_aload 0 1), (2, m_iload 1 1), (3, m_cob 11 1 1), (6, m_cob 15 1 1), (9, m_iret)]
def tX1_canBeAt : m_Tab := [(0, m_aload 0 1), (1, m_iload 1 1), (2, m_cob 16 1 1), (5, m_istore 2 1), (6, m_aload 0 1), (7, m_cob 9 0 1), (10, m_istore 3 1), (11, m_const (.int (nI 0)) 1), (12, m_istore 4 2), (14, m_const (.int (nI 0)) 1), (15, m_istore 5 2), (17, m_iload 5 2), (19, m_iload 3 1), (20, m_icmp (fun x y => decide (y ≤ x)) 42), (23, m_aload 0 1), (24, m_iload 5 2), (26, m_cob 16 1 1), (29, m_iload 2 1), (30, m_icmp (fun x y => !(x == y)) 36), (33, m_iinc 4 (nI 1)), (36, m_iinc 5 (nI 1)), (39, m_goto 17), (42, m_iload 4 2), (44, m_iret)]
def tX1_guessAt : m_Tab := [(0, m_aload 0 1), (1, m_iload 1 1), (2, m_cob 16 1 1), (5, m_istore 2 1), (6, m_aload 0 1), (7, m_cob 9 0 1), (10, m_istore 3 1), (11, m_aload 0 1), (12, m_iload 1 1), (13, m_cob 11 1 1), (16, m_istore 4 2), (18, m_const (.int (nI 0)) 1), (19, m_istore 5 2), (21, m_iload 5 2), (23, m_iload 3 1), (24, m_icmp (fun x y => decide (y ≤ x)) 56), (27, m_aload 0 1), (28, m_iload 5 2), (30, m_cob 16 1 1), (33, m_iload 2 1), (34, m_icmp (fun x y => !(x == y)) 50), (37, m_iload 4 2), (39, m_aload 0 1), (40, m_iload 5 2), (42, m_cob 11 1 1), (45, m_min), (48, m_istore 4 2), (50, m_iinc 5 (nI 1)), (53, m_goto 21), (56, m_iload 4 2), (58, m_iret)]
def tX1_known : m_Tab := [(0, m_aload 0 1), (1, m_cob 9 0 1), (4, m_istore 1 1), (5, m_const (.int (nI 0)) 1), (6, m_istore 2 1), (7, m_const (.int (nI 0)) 1), (8, m_istore 3 1), (9, m_iload 3 1), (10, m_iload 1 1), (11, m_icmp (fun x y => decide (y ≤ x)) 32), (14, m_aload 0 1), (15, m_iload 3 1), (16, m_cob 17 1 1), (19, m_const (.int (nI 1)) 1), (20, m_icmp (fun x y => !(x == y)) 26), (23, m_iinc 2 (nI 1)), (26, m_iinc 3 (nI 1)), (29, m_goto 9), (32, m_iload 2 1), (33, m_iret)]
def tX1_guessedRight : m_Tab := [(0, m_aload 0 1), (1, m_cob 9 0 1), (4, m_istore 1 1), (5, m_const (.int (nI 0)) 1), (6, m_istore 2 1), (7, m_const (.int (nI 0)) 1), (8, m_istore 3 1), (9, m_iload 3 1), (10, m_iload 1 1), (11, m_icmp (fun x y => decide (y ≤ x)) 36), (14, m_aload 0 1), (15, m_iload 3 1), (16, m_cob 18 1 1), (19, m_aload 0 1), (20, m_iload 3 1), (21, m_cob 11 1 1), (24, m_icmp (fun x y => !(x == y)) 30), (27, m_iinc 2 (nI 1)), (30, m_iinc 3 (nI 1)), (33, m_goto 9), (36, m_iload 2 1), (37, m_iret)]
def tX1_sumOfChances : m_Tab := [(0, m_aload 0 1), (1, m_cob 9 0 1), (4, m_istore 1 1), (5, m_const (.float FP.fconst0) 1), (6, m_fstore 2 1), (7, m_const (.int (nI 0)) 1), (8, m_istore 3 1), (9, m_iload 3 1), (10, m_iload 1 1), (11, m_icmp (fun x y => decide (y ≤ x)) 40), (14, m_aload 0 1), (15, m_iload 3 1), (16, m_cob 17 1 1), (19, m_istore 4 2), (21, m_iload 4 2), (23, m_if (fun x => decide (x ≤ 0)) 34), (26, m_fload 2 1), (27, m_const (.float FP.fconst1) 1), (28, m_iload 4 2), (30, m_i2f), (31, m_fbin FP.fdiv), (32, m_fbin FP.fadd), (33, m_fstore 2 1), (34, m_iinc 3 (nI 1)), (37, m_goto 9), (40, m_fload 2 1), (41, m_fret)]
def tX2_init : m_Tab := [(0, m_aload 0 1), (1, m_init0), (4, m_aload 0 1), (5, m_const (.int (nI 24)) 2), (7, m_nar 0), (9, m_put 2 0 1), (12, m_aload 0 1), (13, m_const (.int (nI 24)) 2), (15, m_nar 0), (17, m_put 2 1 1), (20, m_aload 0 1), (21, m_const (.int (nI 24)) 2), (23, m_nar 0), (25, m_put 2 2 1), (28, m_const (.int (nI 0)) 1), (29, m_istore 5 2), (31, m_iload 5 2), (33, m_const (.int (nI 24)) 2), (35, m_icmp (fun x y => decide (y ≤ x)) 108), (38, m_aload 1 1), (39, m_iload 5 2), (41, m_cst 65 2), (44, m_istore 6 2), (46, m_aload 0 1), (47, m_get 2 0), (50, m_iload 5 2), (52, m_iload 6 2), (54, m_ist 0 (fun x => x)), (55, m_iload 6 2), (57, m_cst 62 1), (60, m_if (fun x => x == 0) 102), (63, m_aload 0 1), (64, m_get 2 2), (67, m_iload 6 2), (69, m_aload 2 1), (70, m_iload 6 2), (72, m_cst 65 2), (75, m_ist 0 (fun x => x)), (76, m_aload 0 1), (77, m_get 2 1), (80, m_iload 6 2), (82, m_aload 3 1), (83, m_iload 4 2), (85, m_if (fun x => x == 0) 96), (88, m_const (.int (nI 23)) 2), (90, m_iload 5 2), (92, m_bin (fun a b => a - b)), (93, m_goto 98), (96, m_iload 5 2), (98, m_cst 65 2), (101, m_ist 0 (fun x => x)), (102, m_iinc 5 (nI 1)), (105, m_goto 31), (108, m_vret)]
def tX2_cardCutTo : m_Tab := [(0, m_aload 0 1), (1, m_get 2 0), (4, m_iload 1 1), (5, m_iload 2 1), (6, m_cst 69 2), (9, m_cst 65 2), (12, m_iret)]
def tX2_cardsAtHome : m_Tab := [(0, m_const (.int (nI 0)) 1), (1, m_istore 2 1), (2, m_const (.int (nI 0)) 1), (3, m_istore 3 1), (4, m_iload 3 1), (5, m_const (.int (nI 24)) 2), (7, m_icmp (fun x y => decide (y ≤ x)) 29), (10, m_aload 0 1), (11, m_iload 1 1), (12, m_iload 3 1), (13, m_cob 23 2 2), (16, m_iload 3 1), (17, m_icmp (fun x y => !(x == y)) 23), (20, m_iinc 2 (nI 1)), (23, m_iinc 3 (nI 1)), (26, m_goto 4), (29, m_iload 2 1), (30, m_iret)]
def tX3_init_0 : m_Tab := [(0, m_aload 0 1), (1, m_init0), (4, m_aload 0 1), (5, m_const (.int (nI 24)) 2), (7, m_nar 0), (9, m_put 3 0 1), (12, m_aload 0 1), (13, m_const (.int (nI 24)) 2), (15, m_nar 0), (17, m_put 3 1 1), (20, m_aload 0 1), (21, m_const (.int (nI 24)) 2), (23, m_nar 0), (25, m_put 3 2 1), (28, m_aload 0 1), (29, m_const (.int (nI 4)) 1), (30, m_nar 0), (32, m_put 3 3 1), (35, m_aload 0 1), (36, m_const (.int (nI 6)) 2), (38, m_anar 2), (41, m_put 3 4 1), (44, m_aload 0 1), (45, m_new 1 [.null, .null, .int 0]), (48, m_dup), (49, m_cob 4 0 1), (52, m_put 3 5 1), (55, m_aload 0 1), (56, m_const (.int (nI 0)) 1), (57, m_put 3 6 0), (60, m_aload 0 1), (61, m_const (.int (nI 0)) 1), (62, m_put 3 7 0), (65, m_aload 0 1), (66, m_const (.int (nI 0)) 1), (67, m_put 3 8 0), (70, m_aload 0 1), (71, m_const (.int (nI 0)) 1), (72, m_put 3 9 0), (75, m_aload 0 1), (76, m_const (.int (nI 0)) 1), (77, m_put 3 10 0), (80, m_const (.int (nI 0)) 1), (81, m_istore 1 1), (82, m_iload 1 1), (83, m_const (.int (nI 24)) 2), (85, m_icmp (fun x y => decide (y ≤ x)) 101), (88, m_aload 0 1), (89, m_get 3 0), (92, m_iload 1 1), (93, m_iload 1 1), (94, m_ist 0 (fun x => x)), (95, m_iinc 1 (nI 1)), (98, m_goto 82), (101, m_const (.int (nI 0)) 1), (102, m_istore 1 1), (103, m_iload 1 1), (104, m_const (.int (nI 4)) 1), (105, m_icmp (fun x y => decide (y ≤ x)) 127), (108, m_aload 0 1)]
def tX3_init_1 : m_Tab := [(109, m_get 3 3), (112, m_iload 1 1), (113, m_gets 0), (116, m_iload 1 1), (117, m_cst 65 2), (120, m_ist 0 (fun x => x)), (121, m_iinc 1 (nI 1)), (124, m_goto 103), (127, m_vret)]
def tX3_init : m_Tab := tX3_init_0 ++ (tX3_init_1)
def tX3_copyFrom_0 : m_Tab := [(0, m_aload 1 1), (1, m_ifnonnull 5), (4, m_vret), (5, m_aload 1 1), (6, m_get 3 0), (9, m_aload 0 1), (10, m_get 3 0), (13, m_cst 67 2), (16, m_aload 1 1), (17, m_get 3 1), (20, m_aload 0 1), (21, m_get 3 1), (24, m_cst 67 2), (27, m_aload 1 1), (28, m_get 3 2), (31, m_aload 0 1), (32, m_get 3 2), (35, m_cst 67 2), (38, m_aload 1 1), (39, m_get 3 3), (42, m_aload 0 1), (43, m_get 3 3), (46, m_cst 67 2), (49, m_const (.int (nI 0)) 1), (50, m_istore 2 1), (51, m_iload 2 1), (52, m_const (.int (nI 6)) 2), (54, m_icmp (fun x y => decide (y ≤ x)) 75), (57, m_aload 0 1), (58, m_get 3 4), (61, m_iload 2 1), (62, m_aload 1 1), (63, m_get 3 4), (66, m_iload 2 1), (67, m_ald), (68, m_ast 2 2), (69, m_iinc 2 (nI 1)), (72, m_goto 51), (75, m_aload 0 1), (76, m_get 3 5), (79, m_aload 1 1), (80, m_get 3 5), (83, m_cob 5 1 1), (86, m_aload 0 1), (87, m_aload 1 1), (88, m_get 3 6), (91, m_put 3 6 0), (94, m_aload 0 1), (95, m_aload 1 1), (96, m_get 3 7), (99, m_put 3 7 0), (102, m_aload 0 1), (103, m_aload 1 1), (104, m_get 3 8), (107, m_put 3 8 0), (110, m_aload 0 1), (111, m_aload 1 1), (112, m_get 3 9), (115, m_put 3 9 0), (118, m_aload 0 1)]
def tX3_copyFrom_1 : m_Tab := [(119, m_aload 1 1), (120, m_get 3 10), (123, m_put 3 10 0), (126, m_vret)]
def tX3_copyFrom : m_Tab := tX3_copyFrom_0 ++ (tX3_copyFrom_1)
def tX3_exchange : m_Tab := [(0, m_aload 0 1), (1, m_get 3 0), (4, m_iload 1 1), (5, m_cst 65 2), (8, m_istore 3 1), (9, m_aload 0 1), (10, m_get 3 0), (13, m_iload 1 1), (14, m_aload 0 1), (15, m_get 3 0), (18, m_iload 2 1), (19, m_cst 65 2), (22, m_cst 66 3), (25, m_aload 0 1), (26, m_get 3 0), (29, m_iload 2 1), (30, m_iload 3 1), (31, m_cst 66 3), (34, m_vret)]
def tX3_cellOf : m_Tab := [(0, m_const (.int (nI 0)) 1), (1, m_istore 2 1), (2, m_iload 2 1), (3, m_const (.int (nI 24)) 2), (5, m_icmp (fun x y => decide (y ≤ x)) 26), (8, m_aload 0 1), (9, m_get 3 0), (12, m_iload 2 1), (13, m_ild 0), (14, m_iload 1 1), (15, m_icmp (fun x y => !(x == y)) 20), (18, m_iload 2 1), (19, m_iret), (20, m_iinc 2 (nI 1)), (23, m_goto 2), (26, m_const (.int (-5)) 2), (28, m_iret)]
def tX3_hasMark : m_Tab := [(0, m_aload 0 1), (1, m_get 3 2), (4, m_iload 1 1), (5, m_cst 65 2), (8, m_iload 2 1), (9, m_bin (fun a b => a >>> (b &&& 31))), (10, m_const (.int (nI 1)) 1), (11, m_bin (fun a b => a &&& b)), (12, m_const (.int (nI 1)) 1), (13, m_icmp (fun x y => !(x == y)) 20), (16, m_const (.int (nI 1)) 1), (17, m_goto 21), (20, m_const (.int (nI 0)) 1), (21, m_zret (fun x => x &&& 1))]
def tX3_setMark : m_Tab := [(0, m_aload 0 1), (1, m_get 3 2), (4, m_iload 1 1), (5, m_cst 65 2), (8, m_const (.int (nI 1)) 1), (9, m_iload 2 1), (10, m_bin (fun a b => a <<< (b &&& 31))), (11, m_const (.int (-1)) 1), (12, m_bin (fun a b => a ^^^ b)), (13, m_bin (fun a b => a &&& b)), (14, m_istore 4 2), (16, m_aload 0 1), (17, m_get 3 2), (20, m_iload 1 1), (21, m_iload 3 1), (22, m_if (fun x => x == 0) 34), (25, m_iload 4 2), (27, m_const (.int (nI 1)) 1), (28, m_iload 2 1), (29, m_bin (fun a b => a <<< (b &&& 31))), (30, m_bin (fun a b => a ||| b)), (31, m_goto 36), (34, m_iload 4 2), (36, m_cst 66 3), (39, m_vret)]
def tX3_marksOnBacks : m_Tab := [(0, m_const (.int (nI 0)) 1), (1, m_istore 1 1), (2, m_const (.int (nI 0)) 1), (3, m_istore 2 1), (4, m_iload 2 1), (5, m_const (.int (nI 24)) 2), (7, m_icmp (fun x y => decide (y ≤ x)) 28), (10, m_iload 1 1), (11, m_aload 0 1), (12, m_get 3 2), (15, m_iload 2 1), (16, m_ild 0), (17, m_cst 72 1), (20, m_bin (fun a b => a + b)), (21, m_istore 1 1), (22, m_iinc 2 (nI 1)), (25, m_goto 4), (28, m_iload 1 1), (29, m_iret)]
def tX3_sheetAt : m_Tab := [(0, m_iload 1 1), (1, m_if (fun x => decide (x < 0)) 21), (4, m_iload 1 1), (5, m_aload 0 1), (6, m_get 3 6), (9, m_icmp (fun x y => decide (y ≤ x)) 21), (12, m_aload 0 1), (13, m_get 3 6), (16, m_const (.int (nI 6)) 2), (18, m_icmp (fun x y => decide (x ≤ y)) 23), (21, m_const .null 1), (22, m_aret), (23, m_aload 0 1), (24, m_get 3 4), (27, m_aload 0 1), (28, m_get 3 6), (31, m_const (.int (nI 1)) 1), (32, m_bin (fun a b => a - b)), (33, m_iload 1 1), (34, m_bin (fun a b => a - b)), (35, m_ald), (36, m_aret)]
def tX3_printSheet : m_Tab := [(0, m_aload 0 1), (1, m_get 3 6), (4, m_if (fun x => decide (x < 0)) 16), (7, m_aload 0 1), (8, m_get 3 6), (11, m_const (.int (nI 6)) 2), (13, m_icmp (fun x y => decide (x < y)) 17), (16, m_vret), (17, m_aload 0 1), (18, m_get 3 4), (21, m_aload 0 1), (22, m_get 3 6), (25, m_new 2 [.null, .null, .null]), (28, m_dup), (29, m_aload 0 1), (30, m_get 3 0), (33, m_aload 0 1), (34, m_get 3 1), (37, m_aload 0 1), (38, m_get 3 2), (41, m_iload 1 1), (42, m_cob 22 4 2), (45, m_ast 2 2), (46, m_aload 0 1), (47, m_dup), (48, m_get 3 6), (51, m_const (.int (nI 1)) 1), (52, m_bin (fun a b => a + b)), (53, m_put 3 6 0), (56, m_aload 0 1), (57, m_dup), (58, m_get 3 7), (61, m_const (.int (nI 1)) 1), (62, m_bin (fun a b => a + b)), (63, m_put 3 7 0), (66, m_aload 0 1), (67, m_cob 34 0 3), (70, m_vret)]
def tX3_wear : m_Tab := [(0, m_aload 0 1), (1, m_get 3 3), (4, m_const (.int (nI 0)) 1), (5, m_cst 65 2), (8, m_istore 1 1), (9, m_iload 1 1), (10, m_if (fun x => decide (x ≤ 0)) 42), (13, m_aload 0 1), (14, m_get 3 7), (17, m_iload 1 1), (18, m_div (fun a b => a - a / b * b)), (19, m_if (fun x => !(x == 0)) 42), (22, m_aload 0 1), (23, m_aload 0 1), (24, m_get 3 7), (27, m_const (.int (nI 24)) 2), (29, m_div (fun a b => a - a / b * b)), (30, m_aload 0 1), (31, m_get 3 7), (34, m_iload 1 1), (35, m_div (fun a b => a / b)), (36, m_const (.int (nI 4)) 1), (37, m_div (fun a b => a - a / b * b)), (38, m_const (.int (nI 1)) 1), (39, m_cob 30 3 3), (42, m_vret)]
def tX3_takeTopSheet : m_Tab := [(0, m_aload 0 1), (1, m_const (.int (nI 0)) 1), (2, m_cob 32 1 3), (5, m_astore 1 1), (6, m_aload 1 1), (7, m_ifnull 30), (10, m_aload 0 1), (11, m_dup), (12, m_get 3 6), (15, m_const (.int (nI 1)) 1), (16, m_bin (fun a b => a - b)), (17, m_put 3 6 0), (20, m_aload 0 1), (21, m_get 3 4), (24, m_aload 0 1), (25, m_get 3 6), (28, m_const .null 1), (29, m_ast 2 2), (30, m_aload 1 1), (31, m_aret)]
def tX3_reasonAgainstSale : m_Tab := [(0, m_aload 0 1), (1, m_get 3 5), (4, m_get 1 1), (7, m_astore 1 1), (8, m_aload 0 1), (9, m_get 3 5), (12, m_get 1 2), (15, m_if (fun x => decide (x ≤ 0)) 20), (18, m_const (.int (nI 1)) 1), (19, m_iret), (20, m_aload 1 1), (21, m_ifnull 44), (24, m_aload 1 1), (25, m_get 2 2), (28, m_aload 0 1), (29, m_get 3 3), (32, m_const (.int (nI 1)) 1), (33, m_cst 65 2), (36, m_cst 68 2), (39, m_if (fun x => decide (x ≤ 0)) 44), (42, m_const (.int (nI 2)) 1), (43, m_iret), (44, m_aload 0 1), (45, m_get 3 5), (48, m_cob 19 0 1), (51, m_aload 0 1), (52, m_get 3 3), (55, m_const (.int (nI 2)) 1), (56, m_cst 65 2), (59, m_icmp (fun x y => decide (x ≤ y)) 66), (62, m_const (.int (nI 3)) 1), (63, m_goto 67), (66, m_const (.int (nI 0)) 1), (67, m_iret)]
def tX3_knownIfPrinted : m_Tab := [(0, m_const (.int (nI 0)) 1), (1, m_istore 3 1), (2, m_const (.int (nI 0)) 1), (3, m_istore 4 2), (5, m_const (.int (nI 0)) 1), (6, m_istore 5 2), (8, m_iload 5 2), (10, m_const (.int (nI 24)) 2), (12, m_icmp (fun x y => decide (y ≤ x)) 76), (15, m_iload 1 1), (16, m_if (fun x => x == 0) 27), (19, m_const (.int (nI 23)) 2), (21, m_iload 5 2), (23, m_bin (fun a b => a - b)), (24, m_goto 29), (27, m_iload 5 2), (29, m_istore 6 2), (31, m_iload 6 2), (33, m_iload 2 1), (34, m_icmp (fun x y => !(x == y)) 41), (37, m_const (.int (nI 0)) 1), (38, m_goto 50), (41, m_aload 0 1), (42, m_get 3 2), (45, m_iload 6 2), (47, m_cst 65 2), (50, m_istore 7 2), (52, m_iload 4 2), (54, m_iload 3 1), (55, m_const (.int (nI 1)) 1), (56, m_iload 7 2), (58, m_bin (fun a b => a <<< (b &&& 31))), (59, m_bin (fun a b => a &&& b)), (60, m_bin (fun a b => a ||| b)), (61, m_istore 4 2), (63, m_iload 3 1), (64, m_const (.int (nI 1)) 1), (65, m_iload 7 2), (67, m_bin (fun a b => a <<< (b &&& 31))), (68, m_bin (fun a b => a ||| b)), (69, m_istore 3 1), (70, m_iinc 5 (nI 1)), (73, m_goto 8), (76, m_iload 3 1), (77, m_iload 4 2), (79, m_const (.int (-1)) 1), (80, m_bin (fun a b => a ^^^ b)), (81, m_bin (fun a b => a &&& b)), (82, m_cst 72 1), (85, m_iret)]
def tX4_init : m_Tab := [(0, m_aload 0 1), (1, m_init0), (4, m_aload 0 1), (5, m_const (.int (nI 60)) 2), (7, m_nar 1), (9, m_put 4 0 1), (12, m_aload 0 1), (13, m_const (.int (nI 0)) 1), (14, m_put 4 1 0), (17, m_aload 0 1), (18, m_const (.int (nI 0)) 1), (19, m_put 4 2 0), (22, m_aload 0 1), (23, m_const (.int (nI 12)) 2), (25, m_nar 1), (27, m_put 4 3 1), (30, m_aload 0 1), (31, m_const (.int (nI 12)) 2), (33, m_nar 0), (35, m_put 4 4 1), (38, m_aload 0 1), (39, m_const (.int (nI 12)) 2), (41, m_nar 0), (43, m_put 4 5 1), (46, m_aload 0 1), (47, m_const (.int (nI 0)) 1), (48, m_put 4 6 0), (51, m_vret)]
def tX5_init : m_Tab := [(0, m_aload 0 1), (1, m_init0), (4, m_aload 0 1), (5, m_new 3 [.null, .null, .null, .null, .null, .null, .int 0, .int 0, .int 0, .int 0, .int 0]), (8, m_dup), (9, m_cob 25 0 3), (12, m_put 5 0 1), (15, m_aload 0 1), (16, m_new 3 [.null, .null, .null, .null, .null, .null, .int 0, .int 0, .int 0, .int 0, .int 0]), (19, m_dup), (20, m_cob 25 0 3), (23, m_put 5 1 1), (26, m_aload 0 1), (27, m_new 0 [.null, .int 0, .int 0]), (30, m_dup), (31, m_cob 0 0 0), (34, m_put 5 2 1), (37, m_aload 0 1), (38, m_new 4 [.null, .int 0, .int 0, .null, .null, .null, .int 0]), (41, m_dup), (42, m_cob 38 0 4), (45, m_put 5 3 1), (48, m_aload 0 1), (49, m_const (.int (nI 24)) 2), (51, m_nar 0), (53, m_put 5 4 1), (56, m_aload 0 1), (57, m_const (.int (nI 0)) 1), (58, m_put 5 5 2), (61, m_vret)]
def tX5_swap : m_Tab := [(0, m_iload 1 1), (1, m_cst 61 1), (4, m_if (fun x => x == 0) 14), (7, m_iload 2 1), (8, m_cst 61 1), (11, m_if (fun x => !(x == 0)) 16), (14, m_const (.int (-1)) 1), (15, m_iret), (16, m_iload 1 1), (17, m_iload 2 1), (18, m_icmp (fun x y => !(x == y)) 24), (21, m_const (.int (-5)) 2), (23, m_iret), (24, m_aload 0 1), (25, m_get 5 2), (28, m_aload 0 1), (29, m_get 5 0), (32, m_cob 1 1 0), (35, m_aload 0 1), (36, m_get 5 0), (39, m_iload 1 1), (40, m_iload 2 1), (41, m_cob 27 2 3), (44, m_aload 0 1), (45, m_get 5 0), (48, m_get 3 0), (51, m_iload 1 1), (52, m_cst 65 2), (55, m_iret)]
def tX5_mark : m_Tab := [(0, m_iload 1 1), (1, m_cst 61 1), (4, m_if (fun x => x == 0) 14), (7, m_iload 2 1), (8, m_cst 63 1), (11, m_if (fun x => !(x == 0)) 16), (14, m_const (.int (-1)) 1), (15, m_iret), (16, m_aload 0 1), (17, m_get 5 0), (20, m_iload 1 1), (21, m_iload 2 1), (22, m_cob 29 2 3), (25, m_iload 3 1), (26, m_icmp (fun x y => !(x == y)) 32), (29, m_const (.int (-5)) 2), (31, m_iret), (32, m_aload 0 1), (33, m_get 5 2), (36, m_aload 0 1), (37, m_get 5 0), (40, m_cob 1 1 0), (43, m_aload 0 1), (44, m_get 5 0), (47, m_iload 1 1), (48, m_iload 2 1), (49, m_iload 3 1), (50, m_cob 30 3 3), (53, m_aload 0 1), (54, m_get 5 0), (57, m_get 3 2), (60, m_iload 1 1), (61, m_cst 65 2), (64, m_iret)]
def tX5_lean : m_Tab := [(0, m_iload 1 1), (1, m_cst 62 1), (4, m_if (fun x => !(x == 0)) 9), (7, m_const (.int (-1)) 1), (8, m_iret), (9, m_iload 2 1), (10, m_const (.int (-9)) 2), (12, m_icmp (fun x y => decide (x < y)) 21), (15, m_iload 2 1), (16, m_const (.int (nI 9)) 2), (18, m_icmp (fun x y => decide (x ≤ y)) 24), (21, m_const (.int (-2)) 2), (23, m_iret), (24, m_iload 1 1), (25, m_cst 64 1), (28, m_if (fun x => !(x == 0)) 34), (31, m_const (.int (-4)) 2), (33, m_iret), (34, m_aload 0 1), (35, m_get 5 0), (38, m_get 3 1), (41, m_iload 1 1), (42, m_cst 65 2), (45, m_istore 3 1), (46, m_iload 3 1), (47, m_iload 2 1), (48, m_icmp (fun x y => !(x == y)) 54), (51, m_const (.int (-5)) 2), (53, m_iret), (54, m_aload 0 1), (55, m_get 5 2), (58, m_aload 0 1), (59, m_get 5 0), (62, m_cob 1 1 0), (65, m_aload 0 1), (66, m_get 5 0), (69, m_get 3 1), (72, m_iload 1 1), (73, m_iload 2 1), (74, m_cst 66 3), (77, m_iload 3 1), (78, m_const (.int (nI 100)) 2), (80, m_bin (fun a b => a + b)), (81, m_iret)]
def tX5_set : m_Tab := [(0, m_iload 1 1), (1, m_if (fun x => decide (x < 0)) 9), (4, m_iload 1 1), (5, m_const (.int (nI 4)) 1), (6, m_icmp (fun x y => decide (x < y)) 12), (9, m_const (.int (-2)) 2), (11, m_iret), (12, m_iload 2 1), (13, m_gets 1), (16, m_iload 1 1), (17, m_cst 65 2), (20, m_icmp (fun x y => decide (x < y)) 34), (23, m_iload 2 1), (24, m_gets 2), (27, m_iload 1 1), (28, m_cst 65 2), (31, m_icmp (fun x y => decide (x ≤ y)) 37), (34, m_const (.int (-2)) 2), (36, m_iret), (37, m_aload 0 1), (38, m_get 5 0), (41, m_get 3 3), (44, m_iload 1 1), (45, m_cst 65 2), (48, m_istore 3 1), (49, m_iload 3 1), (50, m_iload 2 1), (51, m_icmp (fun x y => !(x == y)) 57), (54, m_const (.int (-5)) 2), (56, m_iret), (57, m_aload 0 1), (58, m_get 5 2), (61, m_aload 0 1), (62, m_get 5 0), (65, m_cob 1 1 0), (68, m_aload 0 1), (69, m_get 5 0), (72, m_get 3 3), (75, m_iload 1 1), (76, m_iload 2 1), (77, m_cst 66 3), (80, m_iload 3 1), (81, m_iret)]
def tX5_print : m_Tab := [(0, m_aload 0 1), (1, m_get 5 0), (4, m_get 3 6), (7, m_const (.int (nI 6)) 2), (9, m_icmp (fun x y => decide (x < y)) 15), (12, m_const (.int (-3)) 2), (14, m_iret), (15, m_aload 0 1), (16, m_get 5 2), (19, m_aload 0 1), (20, m_get 5 0), (23, m_cob 1 1 0), (26, m_aload 0 1), (27, m_get 5 0), (30, m_iload 1 1), (31, m_cob 33 1 3), (34, m_aload 0 1), (35, m_get 5 0), (38, m_get 3 6), (41, m_iret)]
def tX5_cutSheet : m_Tab := [(0, m_iload 1 1), (1, m_if (fun x => decide (x < 0)) 9), (4, m_iload 1 1), (5, m_const (.int (nI 4)) 1), (6, m_icmp (fun x y => decide (x < y)) 12), (9, m_const (.int (-2)) 2), (11, m_iret), (12, m_aload 0 1), (13, m_get 5 0), (16, m_get 3 5), (19, m_cob 8 0 1), (22, m_if (fun x => !(x == 0)) 36), (25, m_aload 0 1), (26, m_get 5 0), (29, m_const (.int (nI 0)) 1), (30, m_cob 32 1 3), (33, m_ifnonnull 39), (36, m_const (.int (-4)) 2), (38, m_iret), (39, m_aload 0 1), (40, m_get 5 2), (43, m_aload 0 1), (44, m_get 5 0), (47, m_cob 1 1 0), (50, m_aload 0 1), (51, m_get 5 0), (54, m_get 3 5), (57, m_aload 0 1), (58, m_get 5 0), (61, m_cob 35 0 3), (64, m_iload 1 1), (65, m_cob 6 2 1), (68, m_aload 0 1), (69, m_get 5 0), (72, m_get 3 6), (75, m_iret)]
def tX5_cutPack : m_Tab := [(0, m_aload 0 1), (1, m_get 5 0), (4, m_get 3 5), (7, m_astore 2 1), (8, m_aload 2 1), (9, m_cob 8 0 1), (12, m_if (fun x => !(x == 0)) 18), (15, m_const (.int (-4)) 2), (17, m_iret), (18, m_aload 2 1), (19, m_iload 1 1), (20, m_cob 10 1 1), (23, m_if (fun x => !(x == 0)) 29), (26, m_const (.int (-2)) 2), (28, m_iret), (29, m_aload 0 1), (30, m_get 5 2), (33, m_aload 0 1), (34, m_get 5 0), (37, m_cob 1 1 0), (40, m_aload 2 1), (41, m_iload 1 1), (42, m_aload 0 1), (43, m_get 5 4), (46, m_cob 13 2 1), (49, m_aload 2 1), (50, m_const (.int (nI 0)) 1), (51, m_cob 11 1 1), (54, m_iret)]
def tX5_shuffle : m_Tab := [(0, m_aload 0 1), (1, m_get 5 0), (4, m_get 3 5), (7, m_astore 2 1), (8, m_aload 2 1), (9, m_cob 8 0 1), (12, m_if (fun x => !(x == 0)) 18), (15, m_const (.int (-4)) 2), (17, m_iret), (18, m_aload 2 1), (19, m_iload 1 1), (20, m_cob 10 1 1), (23, m_if (fun x => !(x == 0)) 29), (26, m_const (.int (-2)) 2), (28, m_iret), (29, m_aload 0 1), (30, m_get 5 2), (33, m_aload 0 1), (34, m_get 5 0), (37, m_cob 1 1 0), (40, m_aload 2 1), (41, m_iload 1 1), (42, m_aload 0 1), (43, m_get 5 4), (46, m_cob 14 2 1), (49, m_iret)]
def tX5_deal : m_Tab := [(0, m_aload 0 1), (1, m_get 5 0), (4, m_get 3 5), (7, m_astore 2 1), (8, m_aload 2 1), (9, m_cob 8 0 1), (12, m_if (fun x => !(x == 0)) 18), (15, m_const (.int (-4)) 2), (17, m_iret), (18, m_iload 1 1), (19, m_const (.int (nI 1)) 1), (20, m_icmp (fun x y => decide (x < y)) 31), (23, m_iload 1 1), (24, m_aload 2 1), (25, m_cob 9 0 1), (28, m_icmp (fun x y => decide (x ≤ y)) 34), (31, m_const (.int (-2)) 2), (33, m_iret), (34, m_aload 0 1), (35, m_get 5 2), (38, m_aload 0 1), (39, m_get 5 0), (42, m_cob 1 1 0), (45, m_aload 2 1), (46, m_dup), (47, m_get 1 2), (50, m_iload 1 1), (51, m_bin (fun a b => a + b)), (52, m_put 1 2 0), (55, m_aload 2 1), (56, m_cob 9 0 1), (59, m_iret)]
def tX5_sell : m_Tab := [(0, m_aload 0 1), (1, m_get 5 0), (4, m_get 3 5), (7, m_cob 8 0 1), (10, m_if (fun x => !(x == 0)) 16), (13, m_const (.int (-4)) 2), (15, m_iret), (16, m_aload 0 1), (17, m_get 5 0), (20, m_cob 36 0 3), (23, m_istore 1 1), (24, m_iload 1 1), (25, m_if (fun x => x == 0) 33), (28, m_const (.int (-10)) 2), (30, m_iload 1 1), (31, m_bin (fun a b => a - b)), (32, m_iret), (33, m_aload 0 1), (34, m_get 5 2), (37, m_aload 0 1), (38, m_get 5 0), (41, m_cob 1 1 0), (44, m_aload 0 1), (45, m_get 5 0), (48, m_get 3 3), (51, m_const (.int (nI 3)) 1), (52, m_cst 65 2), (55, m_istore 2 1), (56, m_aload 0 1), (57, m_get 5 0), (60, m_dup), (61, m_get 3 10), (64, m_iload 2 1), (65, m_bin (fun a b => a + b)), (66, m_put 3 10 0), (69, m_aload 0 1), (70, m_get 5 0), (73, m_dup), (74, m_get 3 8), (77, m_const (.int (nI 1)) 1), (78, m_bin (fun a b => a + b)), (79, m_put 3 8 0), (82, m_aload 0 1), (83, m_get 5 0), (86, m_get 3 5), (89, m_cob 7 0 1), (92, m_iload 2 1), (93, m_iret)]
def tX5_pulp : m_Tab := [(0, m_aload 0 1), (1, m_get 5 0), (4, m_get 3 5), (7, m_cob 8 0 1), (10, m_if (fun x => !(x == 0)) 16), (13, m_const (.int (-4)) 2), (15, m_iret), (16, m_aload 0 1), (17, m_get 5 2), (20, m_aload 0 1), (21, m_get 5 0), (24, m_cob 1 1 0), (27, m_aload 0 1), (28, m_get 5 0), (31, m_get 3 5), (34, m_cob 9 0 1), (37, m_istore 1 1), (38, m_aload 0 1), (39, m_get 5 0), (42, m_dup), (43, m_get 3 9), (46, m_const (.int (nI 1)) 1), (47, m_bin (fun a b => a + b)), (48, m_put 3 9 0), (51, m_aload 0 1), (52, m_get 5 0), (55, m_get 3 5), (58, m_cob 7 0 1), (61, m_iload 1 1), (62, m_iret)]
def tX5_undo : m_Tab := [(0, m_aload 0 1), (1, m_get 5 2), (4, m_get 0 2), (7, m_if (fun x => !(x == 0)) 13), (10, m_const (.int (-5)) 2), (12, m_iret), (13, m_aload 0 1), (14, m_get 5 2), (17, m_aload 0 1), (18, m_get 5 0), (21, m_cob 2 1 0), (24, m_aload 0 1), (25, m_get 5 2), (28, m_get 0 2), (31, m_iret)]
def tX5_block : m_Tab := [(0, m_iload 1 1), (1, m_cst 61 1), (4, m_if (fun x => !(x == 0)) 9), (7, m_const (.int (-1)) 1), (8, m_iret), (9, m_iload 2 1), (10, m_lsw (nI 0) (nI 1) 60 36 48), (36, m_aload 0 1), (37, m_get 5 0), (40, m_get 3 0), (43, m_iload 1 1), (44, m_cst 65 2), (47, m_iret), (48, m_aload 0 1), (49, m_get 5 0), (52, m_get 3 2), (55, m_iload 1 1), (56, m_cst 65 2), (59, m_iret), (60, m_const (.int (-2)) 2), (62, m_iret)]
def tX5_cardOf : m_Tab := [(0, m_iload 1 1), (1, m_cst 62 1), (4, m_if (fun x => !(x == 0)) 9), (7, m_const (.int (-1)) 1), (8, m_iret), (9, m_iload 2 1), (10, m_tsw 0 3 88 [40, 49, 64, 76]), (40, m_aload 0 1), (41, m_get 5 0), (44, m_iload 1 1), (45, m_cob 28 1 3), (48, m_iret), (49, m_aload 0 1), (50, m_get 5 0), (53, m_get 3 1), (56, m_iload 1 1), (57, m_cst 65 2), (60, m_const (.int (nI 100)) 2), (62, m_bin (fun a b => a + b)), (63, m_iret), (64, m_aload 0 1), (65, m_get 5 0), (68, m_get 3 5), (71, m_iload 1 1), (72, m_cob 12 1 1), (75, m_iret), (76, m_aload 0 1), (77, m_get 5 0), (80, m_get 3 5), (83, m_iload 1 1), (84, m_cob 15 1 1), (87, m_iret), (88, m_const (.int (-2)) 2), (90, m_iret)]
def tX5_sheet : m_Tab := [(0, m_aload 0 1), (1, m_get 5 0), (4, m_iload 1 1), (5, m_cob 32 1 3), (8, m_astore 4 2), (10, m_aload 4 2), (12, m_ifnull 22), (15, m_iload 2 1), (16, m_cst 61 1), (19, m_if (fun x => !(x == 0)) 24), (22, m_const (.int (-1)) 1), (23, m_iret), (24, m_aload 4 2), (26, m_get 2 0), (29, m_iload 2 1), (30, m_cst 65 2), (33, m_istore 5 2), (35, m_iload 3 1), (36, m_lsw (nI 0) (nI 1) 78 64 67), (64, m_iload 5 2), (66, m_iret), (67, m_aload 4 2), (69, m_get 2 1), (72, m_iload 5 2), (74, m_cst 65 2), (77, m_iret), (78, m_const (.int (-2)) 2), (80, m_iret)]
def tX5_pack : m_Tab := [(0, m_aload 0 1), (1, m_get 5 0), (4, m_get 3 5), (7, m_astore 3 1), (8, m_iload 1 1), (9, m_if (fun x => decide (x < 0)) 20), (12, m_iload 1 1), (13, m_aload 3 1), (14, m_cob 9 0 1), (17, m_icmp (fun x y => decide (x < y)) 22), (20, m_const (.int (-1)) 1), (21, m_iret), (22, m_iload 2 1), (23, m_tsw 0 4 95 [56, 62, 68, 74, 80]), (56, m_aload 3 1), (57, m_iload 1 1), (58, m_cob 11 1 1), (61, m_iret), (62, m_aload 3 1), (63, m_iload 1 1), (64, m_cob 16 1 1), (67, m_iret), (68, m_aload 3 1), (69, m_iload 1 1), (70, m_cob 17 1 1), (73, m_iret), (74, m_aload 3 1), (75, m_iload 1 1), (76, m_cob 18 1 1), (79, m_iret), (80, m_aload 3 1), (81, m_iload 1 1), (82, m_cob 17 1 1), (85, m_const (.int (nI 1)) 1), (86, m_icmp (fun x y => !(x == y)) 93), (89, m_const (.int (nI 1)) 1), (90, m_goto 94), (93, m_const (.int (nI 0)) 1), (94, m_iret), (95, m_const (.int (-2)) 2), (97, m_iret)]
def tX5_count_0 : m_Tab := [(0, m_iload 1 1), (1, m_tsw 0 17 285 [88, 96, 104, 123, 134, 145, 156, 167, 175, 183, 191, 199, 221, 229, 237, 249, 261, 273]), (88, m_aload 0 1), (89, m_get 5 0), (92, m_get 3 6), (95, m_iret), (96, m_aload 0 1), (97, m_get 5 0), (100, m_get 3 7), (103, m_iret), (104, m_aload 0 1), (105, m_get 5 0), (108, m_get 3 5), (111, m_cob 8 0 1), (114, m_if (fun x => x == 0) 121), (117, m_const (.int (nI 1)) 1), (118, m_goto 122), (121, m_const (.int (nI 0)) 1), (122, m_iret), (123, m_aload 0 1), (124, m_get 5 0), (127, m_get 3 5), (130, m_cob 9 0 1), (133, m_iret), (134, m_aload 0 1), (135, m_get 5 0), (138, m_get 3 5), (141, m_get 1 2), (144, m_iret), (145, m_aload 0 1), (146, m_get 5 0), (149, m_get 3 5), (152, m_cob 19 0 1), (155, m_iret), (156, m_aload 0 1), (157, m_get 5 0), (160, m_get 3 5), (163, m_cob 20 0 1), (166, m_iret), (167, m_aload 0 1), (168, m_get 5 0), (171, m_get 3 8), (174, m_iret), (175, m_aload 0 1), (176, m_get 5 0), (179, m_get 3 9), (182, m_iret), (183, m_aload 0 1), (184, m_get 5 0), (187, m_get 3 10), (190, m_iret), (191, m_aload 0 1), (192, m_get 5 0), (195, m_cob 31 0 3), (198, m_iret), (199, m_aload 0 1), (200, m_get 5 0), (203, m_get 3 1), (206, m_aload 0 1), (207, m_get 5 0)]
def tX5_count_1 : m_Tab := [(210, m_get 3 3), (213, m_const (.int (nI 1)) 1), (214, m_cst 65 2), (217, m_cst 68 2), (220, m_iret), (221, m_aload 0 1), (222, m_get 5 2), (225, m_get 0 2), (228, m_iret), (229, m_aload 0 1), (230, m_get 5 3), (233, m_get 4 1), (236, m_iret), (237, m_aload 0 1), (238, m_get 5 0), (241, m_get 3 3), (244, m_const (.int (nI 0)) 1), (245, m_cst 65 2), (248, m_iret), (249, m_aload 0 1), (250, m_get 5 0), (253, m_get 3 3), (256, m_const (.int (nI 1)) 1), (257, m_cst 65 2), (260, m_iret), (261, m_aload 0 1), (262, m_get 5 0), (265, m_get 3 3), (268, m_const (.int (nI 2)) 1), (269, m_cst 65 2), (272, m_iret), (273, m_aload 0 1), (274, m_get 5 0), (277, m_get 3 3), (280, m_const (.int (nI 3)) 1), (281, m_cst 65 2), (284, m_iret), (285, m_const (.int (-2)) 2), (287, m_iret)]
def tX5_count : m_Tab := tX5_count_0 ++ (tX5_count_1)
def tX5_why : m_Tab := [(0, m_aload 0 1), (1, m_get 5 0), (4, m_get 3 5), (7, m_cob 8 0 1), (10, m_if (fun x => x == 0) 23), (13, m_aload 0 1), (14, m_get 5 0), (17, m_cob 36 0 3), (20, m_goto 25), (23, m_const (.int (-4)) 2), (25, m_iret)]
def tX5_chances : m_Tab := [(0, m_aload 0 1), (1, m_get 5 0), (4, m_get 3 5), (7, m_cob 8 0 1), (10, m_if (fun x => x == 0) 26), (13, m_aload 0 1), (14, m_get 5 0), (17, m_get 3 5), (20, m_cob 21 0 1), (23, m_goto 28), (26, m_const (.float 3212836864) 2), (28, m_fret)]
def tX5_ifPrinted : m_Tab := [(0, m_aload 0 1), (1, m_get 5 0), (4, m_iload 1 1), (5, m_const (.int (-1)) 1), (6, m_cob 37 2 3), (9, m_iret)]
def tX5_bestWay : m_Tab := [(0, m_aload 0 1), (1, m_get 5 0), (4, m_const (.int (nI 0)) 1), (5, m_cob 32 1 3), (8, m_astore 1 1), (9, m_aload 1 1), (10, m_ifnonnull 16), (13, m_const (.int (-4)) 2), (15, m_iret), (16, m_const (.int (nI 0)) 1), (17, m_istore 2 1), (18, m_aload 1 1), (19, m_const (.int (nI 0)) 1), (20, m_cob 24 1 2), (23, m_istore 3 1), (24, m_const (.int (nI 1)) 1), (25, m_istore 4 2), (27, m_iload 4 2), (29, m_const (.int (nI 4)) 1), (30, m_icmp (fun x y => decide (y ≤ x)) 59), (33, m_aload 1 1), (34, m_iload 4 2), (36, m_cob 24 1 2), (39, m_istore 5 2), (41, m_iload 5 2), (43, m_iload 3 1), (44, m_icmp (fun x y => decide (y ≤ x)) 53), (47, m_iload 4 2), (49, m_istore 2 1), (50, m_iload 5 2), (52, m_istore 3 1), (53, m_iinc 4 (nI 1)), (56, m_goto 27), (59, m_iload 2 1), (60, m_iret)]
def tX5_isCell : m_Tab := [(0, m_iload 0 1), (1, m_if (fun x => decide (x < 0)) 14), (4, m_iload 0 1), (5, m_const (.int (nI 24)) 2), (7, m_icmp (fun x y => decide (y ≤ x)) 14), (10, m_const (.int (nI 1)) 1), (11, m_goto 15), (14, m_const (.int (nI 0)) 1), (15, m_zret (fun x => x &&& 1))]
def tX5_isCard : m_Tab := [(0, m_iload 0 1), (1, m_if (fun x => decide (x < 0)) 14), (4, m_iload 0 1), (5, m_const (.int (nI 24)) 2), (7, m_icmp (fun x y => decide (y ≤ x)) 14), (10, m_const (.int (nI 1)) 1), (11, m_goto 15), (14, m_const (.int (nI 0)) 1), (15, m_zret (fun x => x &&& 1))]
def tX5_isMark : m_Tab := [(0, m_iload 0 1), (1, m_if (fun x => decide (x < 0)) 13), (4, m_iload 0 1), (5, m_const (.int (nI 4)) 1), (6, m_icmp (fun x y => decide (y ≤ x)) 13), (9, m_const (.int (nI 1)) 1), (10, m_goto 14), (13, m_const (.int (nI 0)) 1), (14, m_zret (fun x => x &&& 1))]
def tX5_isCourt : m_Tab := [(0, m_iload 0 1), (1, m_const (.int (nI 6)) 2), (3, m_div (fun a b => a - a / b * b)), (4, m_const (.int (nI 3)) 1), (5, m_icmp (fun x y => decide (x < y)) 12), (8, m_const (.int (nI 1)) 1), (9, m_goto 13), (12, m_const (.int (nI 0)) 1), (13, m_zret (fun x => x &&& 1))]
def tX5_at : m_Tab := [(0, m_iload 1 1), (1, m_if (fun x => decide (x < 0)) 16), (4, m_iload 1 1), (5, m_aload 0 1), (6, m_len), (7, m_icmp (fun x y => decide (y ≤ x)) 16), (10, m_aload 0 1), (11, m_iload 1 1), (12, m_ild 0), (13, m_goto 17), (16, m_const (.int (nI 0)) 1), (17, m_iret)]
def tX5_put : m_Tab := [(0, m_iload 1 1), (1, m_if (fun x => decide (x < 0)) 14), (4, m_iload 1 1), (5, m_aload 0 1), (6, m_len), (7, m_icmp (fun x y => decide (y ≤ x)) 14), (10, m_aload 0 1), (11, m_iload 1 1), (12, m_iload 2 1), (13, m_ist 0 (fun x => x)), (14, m_vret)]
def tX5_copyRow : m_Tab := [(0, m_aload 0 1), (1, m_const (.int (nI 0)) 1), (2, m_aload 1 1), (3, m_const (.int (nI 0)) 1), (4, m_aload 0 1), (5, m_len), (6, m_aload 1 1), (7, m_len), (8, m_min), (11, m_copy), (14, m_vret)]
def tX5_courtsBeyond : m_Tab := [(0, m_const (.int (nI 0)) 1), (1, m_istore 2 1), (2, m_const (.int (nI 0)) 1), (3, m_istore 3 1), (4, m_iload 3 1), (5, m_aload 0 1), (6, m_len), (7, m_icmp (fun x y => decide (y ≤ x)) 29), (10, m_aload 0 1), (11, m_iload 3 1), (12, m_ild 0), (13, m_abs), (16, m_iload 1 1), (17, m_icmp (fun x y => decide (x ≤ y)) 23), (20, m_iinc 2 (nI 1)), (23, m_iinc 3 (nI 1)), (26, m_goto 4), (29, m_iload 2 1), (30, m_iret)]
def tX5_cellAt : m_Tab := [(0, m_iload 0 1), (1, m_if (fun x => x == 0) 9), (4, m_iload 0 1), (5, m_const (.int (nI 2)) 1), (6, m_icmp (fun x y => !(x == y)) 48), (9, m_iload 1 1), (10, m_const (.int (nI 6)) 2), (12, m_div (fun a b => a / b)), (13, m_istore 2 1), (14, m_iload 0 1), (15, m_const (.int (nI 2)) 1), (16, m_icmp (fun x y => !(x == y)) 30), (19, m_iload 2 1), (20, m_const (.int (nI 2)) 1), (21, m_div (fun a b => a - a / b * b)), (22, m_const (.int (nI 1)) 1), (23, m_icmp (fun x y => !(x == y)) 30), (26, m_const (.int (nI 1)) 1), (27, m_goto 31), (30, m_const (.int (nI 0)) 1), (31, m_istore 3 1), (32, m_const (.int (nI 6)) 2), (34, m_iload 2 1), (35, m_bin (fun a b => a * b)), (36, m_iload 1 1), (37, m_const (.int (nI 6)) 2), (39, m_div (fun a b => a - a / b * b)), (40, m_const (.int (nI 6)) 2), (42, m_iload 3 1), (43, m_cst 70 3), (46, m_bin (fun a b => a + b)), (47, m_iret), (48, m_iload 1 1), (49, m_const (.int (nI 4)) 1), (50, m_div (fun a b => a / b)), (51, m_istore 2 1), (52, m_iload 0 1), (53, m_const (.int (nI 3)) 1), (54, m_icmp (fun x y => !(x == y)) 68), (57, m_iload 2 1), (58, m_const (.int (nI 2)) 1), (59, m_div (fun a b => a - a / b * b)), (60, m_const (.int (nI 1)) 1), (61, m_icmp (fun x y => !(x == y)) 68), (64, m_const (.int (nI 1)) 1), (65, m_goto 69), (68, m_const (.int (nI 0)) 1), (69, m_istore 3 1), (70, m_const (.int (nI 6)) 2), (72, m_iload 1 1), (73, m_const (.int (nI 4)) 1), (74, m_div (fun a b => a - a / b * b)), (75, m_const (.int (nI 4)) 1), (76, m_iload 3 1), (77, m_cst 70 3), (80, m_bin (fun a b => a * b)), (81, m_iload 2 1), (82, m_bin (fun a b => a + b)), (83, m_iret)]
def tX5_along : m_Tab := [(0, m_iload 2 1), (1, m_if (fun x => x == 0) 12), (4, m_iload 1 1), (5, m_const (.int (nI 1)) 1), (6, m_bin (fun a b => a - b)), (7, m_iload 0 1), (8, m_bin (fun a b => a - b)), (9, m_goto 13), (12, m_iload 0 1), (13, m_iret)]
def tX5_placeBefore : m_Tab := [(0, m_iload 1 1), (1, m_iload 2 1), (2, m_iload 1 1), (3, m_bin (fun a b => a - b)), (4, m_min), (7, m_istore 3 1), (8, m_iload 0 1), (9, m_const (.int (nI 2)) 1), (10, m_iload 3 1), (11, m_bin (fun a b => a * b)), (12, m_icmp (fun x y => decide (x < y)) 28), (15, m_iload 1 1), (16, m_iload 3 1), (17, m_icmp (fun x y => decide (x ≤ y)) 26), (20, m_iload 0 1), (21, m_iload 3 1), (22, m_bin (fun a b => a - b)), (23, m_goto 27), (26, m_iload 0 1), (27, m_iret), (28, m_iload 0 1), (29, m_const (.int (nI 2)) 1), (30, m_div (fun a b => a - a / b * b)), (31, m_if (fun x => !(x == 0)) 40), (34, m_iload 0 1), (35, m_const (.int (nI 2)) 1), (36, m_div (fun a b => a / b)), (37, m_goto 45), (40, m_iload 1 1), (41, m_iload 0 1), (42, m_const (.int (nI 2)) 1), (43, m_div (fun a b => a / b)), (44, m_bin (fun a b => a + b)), (45, m_iret)]
def tJ6_bitCount_0f7a4 : m_Tab := [(0, m_iload 0 1), (1, m_iload 0 1), (2, m_const (.int (nI 1)) 1), (3, m_bin (fun a b => (a.toUInt32 >>> (b.toUInt32 &&& Int32.toUInt32 31)).toInt32)), (4, m_const (.int 1431655765) 3), (7, m_bin (fun a b => a &&& b)), (8, m_bin (fun a b => a - b)), (9, m_istore 0 1), (10, m_iload 0 1), (11, m_const (.int 858993459) 3), (14, m_bin (fun a b => a &&& b)), (15, m_iload 0 1), (16, m_const (.int (nI 2)) 1), (17, m_bin (fun a b => (a.toUInt32 >>> (b.toUInt32 &&& Int32.toUInt32 31)).toInt32)), (18, m_const (.int 858993459) 3), (21, m_bin (fun a b => a &&& b)), (22, m_bin (fun a b => a + b)), (23, m_istore 0 1), (24, m_iload 0 1), (25, m_iload 0 1), (26, m_const (.int (nI 4)) 1), (27, m_bin (fun a b => (a.toUInt32 >>> (b.toUInt32 &&& Int32.toUInt32 31)).toInt32)), (28, m_bin (fun a b => a + b)), (29, m_const (.int 252645135) 3), (32, m_bin (fun a b => a &&& b)), (33, m_istore 0 1), (34, m_iload 0 1), (35, m_iload 0 1), (36, m_const (.int (nI 8)) 2), (38, m_bin (fun a b => (a.toUInt32 >>> (b.toUInt32 &&& Int32.toUInt32 31)).toInt32)), (39, m_bin (fun a b => a + b)), (40, m_istore 0 1), (41, m_iload 0 1), (42, m_iload 0 1), (43, m_const (.int (nI 16)) 2), (45, m_bin (fun a b => (a.toUInt32 >>> (b.toUInt32 &&& Int32.toUInt32 31)).toInt32)), (46, m_bin (fun a b => a + b)), (47, m_istore 0 1), (48, m_iload 0 1), (49, m_const (.int (nI 63)) 2), (51, m_bin (fun a b => a &&& b)), (52, m_iret)]
def tL_cell : m_Tab := [(0, m_iload 1 1), (1, m_aload 0 1), (2, m_len), (3, m_icmp (fun x y => decide (y ≤ x)) 12), (6, m_aload 0 1), (7, m_iload 1 1), (8, m_ild 0), (9, m_goto 22), (12, m_const (.int (nI 43943)) 2), (14, m_iload 1 1), (15, m_const (.int (nI 7)) 2), (17, m_bin (fun a b => a + b)), (18, m_bin (fun a b => a * b)), (19, m_const (.int (nI 2984729)) 2), (21, m_bin (fun a b => a + b)), (22, m_iret)]
def tL_low : m_Tab := [(0, m_iload 0 1), (1, m_const (.int (nI 2147483647)) 2), (3, m_bin (fun a b => a &&& b)), (4, m_iload 1 1), (5, m_div (fun a b => a - a / b * b)), (6, m_iret)]
def tL_ones : m_Tab := [(0, m_const (.int (nI 0)) 1), (1, m_istore 1 1), (2, m_iload 0 1), (3, m_istore 2 1), (4, m_iload 2 1), (5, m_if (fun x => x == 0) 20), (8, m_iinc 1 (nI 1)), (11, m_iload 2 1), (12, m_iload 2 1), (13, m_const (.int (nI 1)) 1), (14, m_bin (fun a b => a - b)), (15, m_bin (fun a b => a &&& b)), (16, m_istore 2 1), (17, m_goto 4), (20, m_iload 1 1), (21, m_iret)]
def tL_court : m_Tab := [(0, m_const (.int (nI 3)) 1), (1, m_iload 0 1), (2, m_const (.int (nI 6)) 2), (4, m_div (fun a b => a / b)), (5, m_bin (fun a b => a * b)), (6, m_iload 0 1), (7, m_const (.int (nI 6)) 2), (9, m_div (fun a b => a - a / b * b)), (10, m_bin (fun a b => a + b)), (11, m_const (.int (nI 3)) 1), (12, m_bin (fun a b => a - b)), (13, m_iret)]
def tL_sheetAt : m_Tab := [(0, m_aload 2 1), (1, m_const (.int (nI 10)) 2), (3, m_iload 0 1), (4, m_bin (fun a b => a * b)), (5, m_iload 1 1), (6, m_const (.int (nI 3)) 1), (7, m_div (fun a b => a / b)), (8, m_bin (fun a b => a + b)), (9, m_ild 0), (10, m_const (.int (nI 9)) 2), (12, m_iload 1 1), (13, m_const (.int (nI 3)) 1), (14, m_div (fun a b => a - a / b * b)), (15, m_bin (fun a b => a * b)), (16, m_bin (fun a b => a >>> (b &&& 31))), (17, m_const (.int (nI 511)) 3), (20, m_bin (fun a b => a &&& b)), (21, m_iret)]
def tL_prints_0 : m_Tab := [(0, m_const (.int (nI 10)) 2), (2, m_aload 1 1), (3, m_const (.int (nI 5)) 1), (4, m_ild 0), (5, m_bin (fun a b => a * b)), (6, m_istore 6 2), (8, m_const (.int (nI 0)) 1), (9, m_istore 7 2), (11, m_iload 7 2), (13, m_const (.int (nI 10)) 2), (15, m_icmp (fun x y => decide (y ≤ x)) 33), (18, m_aload 5 2), (20, m_iload 6 2), (22, m_iload 7 2), (24, m_bin (fun a b => a + b)), (25, m_const (.int (nI 0)) 1), (26, m_ist 0 (fun x => x)), (27, m_iinc 7 (nI 1)), (30, m_goto 11), (33, m_const (.int (nI 0)) 1), (34, m_istore 7 2), (36, m_iload 7 2), (38, m_const (.int (nI 24)) 2), (40, m_icmp (fun x y => decide (y ≤ x)) 94), (43, m_aload 5 2), (45, m_iload 6 2), (47, m_iload 7 2), (49, m_const (.int (nI 3)) 1), (50, m_div (fun a b => a / b)), (51, m_bin (fun a b => a + b)), (52, m_dup2), (53, m_ild 0), (54, m_aload 2 1), (55, m_iload 7 2), (57, m_ild 0), (58, m_const (.int (nI 32)) 2), (60, m_aload 3 1), (61, m_iload 0 1), (62, m_if (fun x => x == 0) 73), (65, m_const (.int (nI 23)) 2), (67, m_iload 7 2), (69, m_bin (fun a b => a - b)), (70, m_goto 75), (73, m_iload 7 2), (75, m_ild 0), (76, m_bin (fun a b => a * b)), (77, m_bin (fun a b => a + b)), (78, m_const (.int (nI 9)) 2), (80, m_iload 7 2), (82, m_const (.int (nI 3)) 1), (83, m_div (fun a b => a - a / b * b)), (84, m_bin (fun a b => a * b)), (85, m_bin (fun a b => a <<< (b &&& 31))), (86, m_bin (fun a b => a ||| b)), (87, m_ist 0 (fun x => x)), (88, m_iinc 7 (nI 1)), (91, m_goto 36), (94, m_const (.int (nI 0)) 1), (95, m_istore 7 2), (97, m_iload 7 2)]
def tL_prints_1 : m_Tab := [(99, m_const (.int (nI 12)) 2), (101, m_icmp (fun x y => decide (y ≤ x)) 143), (104, m_aload 5 2), (106, m_iload 6 2), (108, m_const (.int (nI 8)) 2), (110, m_bin (fun a b => a + b)), (111, m_iload 7 2), (113, m_const (.int (nI 6)) 2), (115, m_div (fun a b => a / b)), (116, m_bin (fun a b => a + b)), (117, m_dup2), (118, m_ild 0), (119, m_aload 4 2), (121, m_iload 7 2), (123, m_ild 0), (124, m_const (.int (nI 9)) 2), (126, m_bin (fun a b => a + b)), (127, m_const (.int (nI 5)) 1), (128, m_iload 7 2), (130, m_const (.int (nI 6)) 2), (132, m_div (fun a b => a - a / b * b)), (133, m_bin (fun a b => a * b)), (134, m_bin (fun a b => a <<< (b &&& 31))), (135, m_bin (fun a b => a ||| b)), (136, m_ist 0 (fun x => x)), (137, m_iinc 7 (nI 1)), (140, m_goto 97), (143, m_aload 1 1), (144, m_const (.int (nI 5)) 1), (145, m_dup2), (146, m_ild 0), (147, m_const (.int (nI 1)) 1), (148, m_bin (fun a b => a + b)), (149, m_ist 0 (fun x => x)), (150, m_aload 1 1), (151, m_const (.int (nI 4)) 1), (152, m_dup2), (153, m_ild 0), (154, m_const (.int (nI 1)) 1), (155, m_bin (fun a b => a + b)), (156, m_ist 0 (fun x => x)), (157, m_aload 1 1), (158, m_const (.int (nI 4)) 1), (159, m_ild 0), (160, m_aload 1 1), (161, m_const (.int (nI 0)) 1), (162, m_ild 0), (163, m_div (fun a b => a - a / b * b)), (164, m_if (fun x => !(x == 0)) 189), (167, m_aload 3 1), (168, m_aload 1 1), (169, m_const (.int (nI 4)) 1), (170, m_ild 0), (171, m_const (.int (nI 24)) 2), (173, m_div (fun a b => a - a / b * b)), (174, m_dup2), (175, m_ild 0), (176, m_const (.int (nI 1)) 1), (177, m_aload 1 1), (178, m_const (.int (nI 4)) 1)]
def tL_prints_2 : m_Tab := [(179, m_ild 0), (180, m_aload 1 1), (181, m_const (.int (nI 0)) 1), (182, m_ild 0), (183, m_div (fun a b => a / b)), (184, m_const (.int (nI 4)) 1), (185, m_div (fun a b => a - a / b * b)), (186, m_bin (fun a b => a <<< (b &&& 31))), (187, m_bin (fun a b => a ||| b)), (188, m_ist 0 (fun x => x)), (189, m_vret)]
def tL_prints : m_Tab := tL_prints_0 ++ (tL_prints_1 ++ (tL_prints_2))
def tL_cellAt : m_Tab := [(0, m_iload 1 1), (1, m_const (.int (nI 2)) 1), (2, m_div (fun a b => a - a / b * b)), (3, m_if (fun x => !(x == 0)) 13), (6, m_iload 0 1), (7, m_const (.int (nI 6)) 2), (9, m_div (fun a b => a / b)), (10, m_goto 16), (13, m_iload 0 1), (14, m_const (.int (nI 4)) 1), (15, m_div (fun a b => a - a / b * b)), (16, m_istore 2 1), (17, m_iload 1 1), (18, m_const (.int (nI 2)) 1), (19, m_div (fun a b => a - a / b * b)), (20, m_if (fun x => !(x == 0)) 30), (23, m_iload 0 1), (24, m_const (.int (nI 6)) 2), (26, m_div (fun a b => a - a / b * b)), (27, m_goto 33), (30, m_iload 0 1), (31, m_const (.int (nI 4)) 1), (32, m_div (fun a b => a / b)), (33, m_istore 3 1), (34, m_iload 1 1), (35, m_const (.int (nI 2)) 1), (36, m_icmp (fun x y => !(x == y)) 50), (39, m_iload 2 1), (40, m_const (.int (nI 2)) 1), (41, m_div (fun a b => a - a / b * b)), (42, m_const (.int (nI 1)) 1), (43, m_icmp (fun x y => !(x == y)) 50), (46, m_const (.int (nI 5)) 1), (47, m_iload 3 1), (48, m_bin (fun a b => a - b)), (49, m_istore 3 1), (50, m_iload 1 1), (51, m_const (.int (nI 3)) 1), (52, m_icmp (fun x y => !(x == y)) 66), (55, m_iload 3 1), (56, m_const (.int (nI 2)) 1), (57, m_div (fun a b => a - a / b * b)), (58, m_const (.int (nI 1)) 1), (59, m_icmp (fun x y => !(x == y)) 66), (62, m_const (.int (nI 3)) 1), (63, m_iload 2 1), (64, m_bin (fun a b => a - b)), (65, m_istore 2 1), (66, m_const (.int (nI 6)) 2), (68, m_iload 2 1), (69, m_bin (fun a b => a * b)), (70, m_iload 3 1), (71, m_bin (fun a b => a + b)), (72, m_iret)]
def tL_cuts_0 : m_Tab := [(0, m_aload 1 1), (1, m_const (.int (nI 5)) 1), (2, m_dup2), (3, m_ild 0), (4, m_const (.int (nI 1)) 1), (5, m_bin (fun a b => a - b)), (6, m_ist 0 (fun x => x)), (7, m_const (.int (nI 0)) 1), (8, m_istore 6 2), (10, m_iload 6 2), (12, m_const (.int (nI 24)) 2), (14, m_icmp (fun x y => decide (y ≤ x)) 59), (17, m_aload 1 1), (18, m_const (.int (nI 5)) 1), (19, m_ild 0), (20, m_iload 6 2), (22, m_iload 0 1), (23, m_cst 79 2), (26, m_aload 2 1), (27, m_cst 77 3), (30, m_istore 7 2), (32, m_aload 3 1), (33, m_iload 6 2), (35, m_iload 7 2), (37, m_const (.int (nI 31)) 2), (39, m_bin (fun a b => a &&& b)), (40, m_ist 0 (fun x => x)), (41, m_aload 4 2), (43, m_iload 7 2), (45, m_const (.int (nI 31)) 2), (47, m_bin (fun a b => a &&& b)), (48, m_iload 7 2), (50, m_const (.int (nI 5)) 1), (51, m_bin (fun a b => a >>> (b &&& 31))), (52, m_ist 0 (fun x => x)), (53, m_iinc 6 (nI 1)), (56, m_goto 10), (59, m_const (.int (nI 0)) 1), (60, m_istore 6 2), (62, m_iload 6 2), (64, m_const (.int (nI 12)) 2), (66, m_icmp (fun x y => decide (y ≤ x)) 111), (69, m_aload 5 2), (71, m_iload 6 2), (73, m_aload 2 1), (74, m_const (.int (nI 10)) 2), (76, m_aload 1 1), (77, m_const (.int (nI 5)) 1), (78, m_ild 0), (79, m_bin (fun a b => a * b)), (80, m_const (.int (nI 8)) 2), (82, m_bin (fun a b => a + b)), (83, m_iload 6 2), (85, m_const (.int (nI 6)) 2), (87, m_div (fun a b => a / b)), (88, m_bin (fun a b => a + b)), (89, m_ild 0), (90, m_const (.int (nI 5)) 1), (91, m_iload 6 2), (93, m_const (.int (nI 6)) 2)]
def tL_cuts_1 : m_Tab := [(95, m_div (fun a b => a - a / b * b)), (96, m_bin (fun a b => a * b)), (97, m_bin (fun a b => a >>> (b &&& 31))), (98, m_const (.int (nI 31)) 2), (100, m_bin (fun a b => a &&& b)), (101, m_const (.int (nI 9)) 2), (103, m_bin (fun a b => a - b)), (104, m_ist 0 (fun x => x)), (105, m_iinc 6 (nI 1)), (108, m_goto 62), (111, m_aload 1 1), (112, m_const (.int (nI 6)) 2), (114, m_const (.int (nI 1)) 1), (115, m_ist 0 (fun x => x)), (116, m_aload 1 1), (117, m_const (.int (nI 7)) 2), (119, m_const (.int (nI 24)) 2), (121, m_ist 0 (fun x => x)), (122, m_aload 1 1), (123, m_const (.int (nI 11)) 2), (125, m_const (.int (nI 0)) 1), (126, m_ist 0 (fun x => x)), (127, m_vret)]
def tL_cuts : m_Tab := tL_cuts_0 ++ (tL_cuts_1)
def tL_shuffles_0 : m_Tab := [(0, m_const (.int (nI 24)) 2), (2, m_nar 0), (4, m_astore 3 1), (5, m_const (.int (nI 0)) 1), (6, m_istore 4 2), (8, m_iload 0 1), (9, m_istore 5 2), (11, m_const (.int (nI 0)) 1), (12, m_istore 6 2), (14, m_iload 6 2), (16, m_aload 1 1), (17, m_const (.int (nI 7)) 2), (19, m_ild 0), (20, m_icmp (fun x y => decide (y ≤ x)) 110), (23, m_iload 5 2), (25, m_aload 1 1), (26, m_const (.int (nI 7)) 2), (28, m_ild 0), (29, m_icmp (fun x y => x == y) 47), (32, m_iload 4 2), (34, m_iload 0 1), (35, m_icmp (fun x y => decide (y ≤ x)) 51), (38, m_iload 4 2), (40, m_iload 5 2), (42, m_iload 0 1), (43, m_bin (fun a b => a - b)), (44, m_icmp (fun x y => decide (y < x)) 51), (47, m_const (.int (nI 1)) 1), (48, m_goto 52), (51, m_const (.int (nI 0)) 1), (52, m_istore 7 2), (54, m_aload 3 1), (55, m_iload 6 2), (57, m_iload 7 2), (59, m_if (fun x => x == 0) 69), (62, m_aload 2 1), (63, m_iload 4 2), (65, m_ild 0), (66, m_goto 73), (69, m_aload 2 1), (70, m_iload 5 2), (72, m_ild 0), (73, m_ist 0 (fun x => x)), (74, m_iload 4 2), (76, m_iload 7 2), (78, m_if (fun x => x == 0) 85), (81, m_const (.int (nI 1)) 1), (82, m_goto 86), (85, m_const (.int (nI 0)) 1), (86, m_bin (fun a b => a + b)), (87, m_istore 4 2), (89, m_iload 5 2), (91, m_iload 7 2), (93, m_if (fun x => x == 0) 100), (96, m_const (.int (nI 0)) 1), (97, m_goto 101), (100, m_const (.int (nI 1)) 1), (101, m_bin (fun a b => a + b)), (102, m_istore 5 2), (104, m_iinc 6 (nI 1))]
def tL_shuffles_1 : m_Tab := [(107, m_goto 14), (110, m_const (.int (nI 0)) 1), (111, m_istore 6 2), (113, m_const (.int (nI 0)) 1), (114, m_istore 7 2), (116, m_iload 7 2), (118, m_aload 1 1), (119, m_const (.int (nI 7)) 2), (121, m_ild 0), (122, m_icmp (fun x y => decide (y ≤ x)) 160), (125, m_iload 6 2), (127, m_aload 2 1), (128, m_iload 7 2), (130, m_ild 0), (131, m_aload 3 1), (132, m_iload 7 2), (134, m_ild 0), (135, m_icmp (fun x y => !(x == y)) 142), (138, m_const (.int (nI 0)) 1), (139, m_goto 143), (142, m_const (.int (nI 1)) 1), (143, m_bin (fun a b => a + b)), (144, m_istore 6 2), (146, m_aload 2 1), (147, m_iload 7 2), (149, m_aload 3 1), (150, m_iload 7 2), (152, m_ild 0), (153, m_ist 0 (fun x => x)), (154, m_iinc 7 (nI 1)), (157, m_goto 116), (160, m_iload 6 2), (162, m_iret)]
def tL_shuffles : m_Tab := tL_shuffles_0 ++ (tL_shuffles_1)
def tL_turns : m_Tab := [(0, m_const (.int (nI 0)) 1), (1, m_istore 3 1), (2, m_iload 3 1), (3, m_iload 0 1), (4, m_icmp (fun x y => decide (y ≤ x)) 58), (7, m_aload 2 1), (8, m_const (.int (nI 0)) 1), (9, m_ild 0), (10, m_istore 4 2), (12, m_const (.int (nI 0)) 1), (13, m_istore 5 2), (15, m_iload 5 2), (17, m_const (.int (nI 1)) 1), (18, m_bin (fun a b => a + b)), (19, m_aload 1 1), (20, m_const (.int (nI 7)) 2), (22, m_ild 0), (23, m_icmp (fun x y => decide (y ≤ x)) 42), (26, m_aload 2 1), (27, m_iload 5 2), (29, m_aload 2 1), (30, m_iload 5 2), (32, m_const (.int (nI 1)) 1), (33, m_bin (fun a b => a + b)), (34, m_ild 0), (35, m_ist 0 (fun x => x)), (36, m_iinc 5 (nI 1)), (39, m_goto 15), (42, m_aload 2 1), (43, m_aload 1 1), (44, m_const (.int (nI 7)) 2), (46, m_ild 0), (47, m_const (.int (nI 1)) 1), (48, m_bin (fun a b => a - b)), (49, m_iload 4 2), (51, m_ist 0 (fun x => x)), (52, m_iinc 3 (nI 1)), (55, m_goto 2), (58, m_vret)]
def tL_alike : m_Tab := [(0, m_const (.int (nI 0)) 1), (1, m_istore 3 1), (2, m_const (.int (-1)) 1), (3, m_istore 4 2), (5, m_const (.int (nI 0)) 1), (6, m_istore 5 2), (8, m_iload 5 2), (10, m_const (.int (nI 24)) 2), (12, m_icmp (fun x y => decide (y ≤ x)) 80), (15, m_aload 1 1), (16, m_const (.int (nI 11)) 2), (18, m_ild 0), (19, m_iload 5 2), (21, m_bin (fun a b => a >>> (b &&& 31))), (22, m_const (.int (nI 1)) 1), (23, m_bin (fun a b => a &&& b)), (24, m_if (fun x => !(x == 0)) 39), (27, m_aload 2 1), (28, m_iload 5 2), (30, m_ild 0), (31, m_iload 0 1), (32, m_icmp (fun x y => !(x == y)) 39), (35, m_const (.int (nI 1)) 1), (36, m_goto 40), (39, m_const (.int (nI 0)) 1), (40, m_istore 6 2), (42, m_iload 3 1), (43, m_iload 6 2), (45, m_if (fun x => x == 0) 52), (48, m_const (.int (nI 1)) 1), (49, m_goto 53), (52, m_const (.int (nI 0)) 1), (53, m_bin (fun a b => a + b)), (54, m_istore 3 1), (55, m_iload 6 2), (57, m_if (fun x => x == 0) 70), (60, m_iload 4 2), (62, m_if (fun x => decide (0 ≤ x)) 70), (65, m_iload 5 2), (67, m_goto 72), (70, m_iload 4 2), (72, m_istore 4 2), (74, m_iinc 5 (nI 1)), (77, m_goto 8), (80, m_iload 3 1), (81, m_const (.int (nI 100)) 2), (83, m_iload 4 2), (85, m_bin (fun a b => a * b)), (86, m_bin (fun a b => a + b)), (87, m_iret)]
def tL_known : m_Tab := [(0, m_const (.int (nI 0)) 1), (1, m_istore 3 1), (2, m_const (.int (nI 0)) 1), (3, m_istore 4 2), (5, m_iload 4 2), (7, m_aload 0 1), (8, m_const (.int (nI 7)) 2), (10, m_ild 0), (11, m_icmp (fun x y => decide (y ≤ x)) 46), (14, m_iload 3 1), (15, m_aload 2 1), (16, m_aload 1 1), (17, m_iload 4 2), (19, m_ild 0), (20, m_ild 0), (21, m_aload 0 1), (22, m_aload 2 1), (23, m_cst 83 3), (26, m_const (.int (nI 100)) 2), (28, m_div (fun a b => a - a / b * b)), (29, m_const (.int (nI 1)) 1), (30, m_icmp (fun x y => !(x == y)) 37), (33, m_const (.int (nI 1)) 1), (34, m_goto 38), (37, m_const (.int (nI 0)) 1), (38, m_bin (fun a b => a + b)), (39, m_istore 3 1), (40, m_iinc 4 (nI 1)), (43, m_goto 5), (46, m_iload 3 1), (47, m_iret)]
def tL_leaning : m_Tab := [(0, m_const (.int (nI 0)) 1), (1, m_istore 2 1), (2, m_const (.int (nI 0)) 1), (3, m_istore 3 1), (4, m_iload 3 1), (5, m_const (.int (nI 12)) 2), (7, m_icmp (fun x y => decide (y ≤ x)) 39), (10, m_iload 2 1), (11, m_aload 1 1), (12, m_iload 3 1), (13, m_ild 0), (14, m_iload 0 1), (15, m_icmp (fun x y => decide (y < x)) 26), (18, m_aload 1 1), (19, m_iload 3 1), (20, m_ild 0), (21, m_un (fun a => -a)), (22, m_iload 0 1), (23, m_icmp (fun x y => decide (x ≤ y)) 30), (26, m_const (.int (nI 1)) 1), (27, m_goto 31), (30, m_const (.int (nI 0)) 1), (31, m_bin (fun a b => a + b)), (32, m_istore 2 1), (33, m_iinc 3 (nI 1)), (36, m_goto 4), (39, m_iload 2 1), (40, m_iret)]
def tL_why : m_Tab := [(0, m_aload 0 1), (1, m_const (.int (nI 6)) 2), (3, m_ild 0), (4, m_if (fun x => !(x == 0)) 12), (7, m_const (.int (-4)) 2), (9, m_goto 56), (12, m_aload 0 1), (13, m_const (.int (nI 7)) 2), (15, m_ild 0), (16, m_const (.int (nI 24)) 2), (18, m_icmp (fun x y => decide (y ≤ x)) 25), (21, m_const (.int (nI 1)) 1), (22, m_goto 56), (25, m_aload 0 1), (26, m_const (.int (nI 1)) 1), (27, m_ild 0), (28, m_aload 3 1), (29, m_cst 85 2), (32, m_if (fun x => decide (x ≤ 0)) 39), (35, m_const (.int (nI 2)) 1), (36, m_goto 56), (39, m_aload 0 1), (40, m_aload 1 1), (41, m_aload 2 1), (42, m_cst 84 3), (45, m_aload 0 1), (46, m_const (.int (nI 2)) 1), (47, m_ild 0), (48, m_icmp (fun x y => decide (x ≤ y)) 55), (51, m_const (.int (nI 3)) 1), (52, m_goto 56), (55, m_const (.int (nI 0)) 1), (56, m_iret)]
def tL_call_0 : m_Tab := [(0, m_iload 1 1), (1, m_tsw 0 9 143 [56, 63, 81, 92, 99, 114, 120, 126, 132, 138]), (56, m_aload 0 1), (57, m_iload 2 1), (58, m_iload 3 1), (59, m_cob 40 2 5), (62, m_iret), (63, m_aload 0 1), (64, m_iload 2 1), (65, m_iload 3 1), (66, m_iload 4 2), (68, m_const (.int (nI 1)) 1), (69, m_icmp (fun x y => !(x == y)) 76), (72, m_const (.int (nI 1)) 1), (73, m_goto 77), (76, m_const (.int (nI 0)) 1), (77, m_cob 41 3 5), (80, m_iret), (81, m_aload 0 1), (82, m_iload 2 1), (83, m_iload 4 2), (85, m_const (.int (nI 9)) 2), (87, m_bin (fun a b => a - b)), (88, m_cob 42 2 5), (91, m_iret), (92, m_aload 0 1), (93, m_iload 2 1), (94, m_iload 3 1), (95, m_cob 43 2 5), (98, m_iret), (99, m_aload 0 1), (100, m_iload 2 1), (101, m_const (.int (nI 1)) 1), (102, m_icmp (fun x y => !(x == y)) 109), (105, m_const (.int (nI 1)) 1), (106, m_goto 110), (109, m_const (.int (nI 0)) 1), (110, m_cob 44 1 5), (113, m_iret), (114, m_aload 0 1), (115, m_iload 2 1), (116, m_cob 45 1 5), (119, m_iret), (120, m_aload 0 1), (121, m_iload 2 1), (122, m_cob 46 1 5), (125, m_iret), (126, m_aload 0 1), (127, m_iload 2 1), (128, m_cob 47 1 5), (131, m_iret), (132, m_aload 0 1), (133, m_iload 2 1), (134, m_cob 48 1 5), (137, m_iret), (138, m_aload 0 1), (139, m_cob 49 0 5), (142, m_iret), (143, m_aload 0 1), (144, m_cob 50 0 5)]
def tL_call_1 : m_Tab := [(147, m_iret)]
def tL_call : m_Tab := tL_call_0 ++ (tL_call_1)
def tL_ofBlocks_0 : m_Tab := [(0, m_iload 0 1), (1, m_if (fun x => !(x == 0)) 39), (4, m_aload 5 2), (6, m_iload 1 1), (7, m_ild 0), (8, m_istore 8 2), (10, m_aload 5 2), (12, m_iload 1 1), (13, m_aload 5 2), (15, m_iload 2 1), (16, m_ild 0), (17, m_ist 0 (fun x => x)), (18, m_aload 5 2), (20, m_iload 2 1), (21, m_iload 8 2), (23, m_ist 0 (fun x => x)), (24, m_iload 1 1), (25, m_iload 2 1), (26, m_icmp (fun x y => !(x == y)) 34), (29, m_const (.int (-5)) 2), (31, m_goto 38), (34, m_aload 5 2), (36, m_iload 1 1), (37, m_ild 0), (38, m_iret), (39, m_iload 0 1), (40, m_const (.int (nI 1)) 1), (41, m_icmp (fun x y => !(x == y)) 108), (44, m_aload 6 2), (46, m_iload 1 1), (47, m_ild 0), (48, m_iload 2 1), (49, m_bin (fun a b => a >>> (b &&& 31))), (50, m_const (.int (nI 1)) 1), (51, m_bin (fun a b => a &&& b)), (52, m_iload 3 1), (53, m_icmp (fun x y => !(x == y)) 60), (56, m_const (.int (nI 1)) 1), (57, m_goto 61), (60, m_const (.int (nI 0)) 1), (61, m_istore 8 2), (63, m_aload 6 2), (65, m_iload 1 1), (66, m_iload 3 1), (67, m_const (.int (nI 1)) 1), (68, m_icmp (fun x y => !(x == y)) 82), (71, m_aload 6 2), (73, m_iload 1 1), (74, m_ild 0), (75, m_const (.int (nI 1)) 1), (76, m_iload 2 1), (77, m_bin (fun a b => a <<< (b &&& 31))), (78, m_bin (fun a b => a ||| b)), (79, m_goto 92), (82, m_aload 6 2), (84, m_iload 1 1), (85, m_ild 0), (86, m_const (.int (nI 1)) 1), (87, m_iload 2 1), (88, m_bin (fun a b => a <<< (b &&& 31)))]
def tL_ofBlocks_1 : m_Tab := [(89, m_const (.int (-1)) 1), (90, m_bin (fun a b => a ^^^ b)), (91, m_bin (fun a b => a &&& b)), (92, m_ist 0 (fun x => x)), (93, m_iload 8 2), (95, m_if (fun x => x == 0) 103), (98, m_const (.int (-5)) 2), (100, m_goto 107), (103, m_aload 6 2), (105, m_iload 1 1), (106, m_ild 0), (107, m_iret), (108, m_iload 0 1), (109, m_const (.int (nI 2)) 1), (110, m_icmp (fun x y => !(x == y)) 164), (113, m_iload 1 1), (114, m_const (.int (nI 6)) 2), (116, m_div (fun a b => a - a / b * b)), (117, m_const (.int (nI 3)) 1), (118, m_icmp (fun x y => decide (y ≤ x)) 124), (121, m_const (.int (-4)) 2), (123, m_iret), (124, m_aload 7 2), (126, m_iload 1 1), (127, m_cst 76 1), (130, m_ild 0), (131, m_istore 8 2), (133, m_aload 7 2), (135, m_iload 1 1), (136, m_cst 76 1), (139, m_iload 3 1), (140, m_const (.int (nI 9)) 2), (142, m_bin (fun a b => a - b)), (143, m_ist 0 (fun x => x)), (144, m_iload 8 2), (146, m_iload 3 1), (147, m_const (.int (nI 9)) 2), (149, m_bin (fun a b => a - b)), (150, m_icmp (fun x y => !(x == y)) 158), (153, m_const (.int (-5)) 2), (155, m_goto 163), (158, m_iload 8 2), (160, m_const (.int (nI 100)) 2), (162, m_bin (fun a b => a + b)), (163, m_iret), (164, m_aload 4 2), (166, m_iload 1 1), (167, m_ild 0), (168, m_istore 8 2), (170, m_aload 4 2), (172, m_iload 1 1), (173, m_iload 2 1), (174, m_ist 0 (fun x => x)), (175, m_iload 8 2), (177, m_iload 2 1), (178, m_icmp (fun x y => !(x == y)) 186), (181, m_const (.int (-5)) 2), (183, m_goto 188), (186, m_iload 8 2), (188, m_iret)]
def tL_ofBlocks : m_Tab := tL_ofBlocks_0 ++ (tL_ofBlocks_1)
def tL_ofPack_0 : m_Tab := [(0, m_iload 0 1), (1, m_const (.int (nI 5)) 1), (2, m_icmp (fun x y => !(x == y)) 38), (5, m_aload 2 1), (6, m_const (.int (nI 6)) 2), (8, m_ild 0), (9, m_const (.int (nI 1)) 1), (10, m_icmp (fun x y => x == y) 19), (13, m_aload 2 1), (14, m_const (.int (nI 5)) 1), (15, m_ild 0), (16, m_if (fun x => !(x == 0)) 22), (19, m_const (.int (-4)) 2), (21, m_iret), (22, m_iload 1 1), (23, m_aload 2 1), (24, m_aload 3 1), (25, m_aload 4 2), (27, m_aload 5 2), (29, m_aload 6 2), (31, m_cst 80 6), (34, m_aload 2 1), (35, m_const (.int (nI 5)) 1), (36, m_ild 0), (37, m_iret), (38, m_aload 2 1), (39, m_const (.int (nI 6)) 2), (41, m_ild 0), (42, m_if (fun x => !(x == 0)) 48), (45, m_const (.int (-4)) 2), (47, m_iret), (48, m_iload 0 1), (49, m_const (.int (nI 8)) 2), (51, m_icmp (fun x y => decide (y ≤ x)) 62), (54, m_iload 1 1), (55, m_aload 2 1), (56, m_const (.int (nI 7)) 2), (58, m_ild 0), (59, m_icmp (fun x y => decide (y ≤ x)) 76), (62, m_iload 0 1), (63, m_const (.int (nI 8)) 2), (65, m_icmp (fun x y => !(x == y)) 79), (68, m_iload 1 1), (69, m_aload 2 1), (70, m_const (.int (nI 7)) 2), (72, m_ild 0), (73, m_icmp (fun x y => decide (x ≤ y)) 79), (76, m_const (.int (-2)) 2), (78, m_iret), (79, m_aload 2 1), (80, m_const (.int (nI 7)) 2), (82, m_ild 0), (83, m_istore 7 2), (85, m_iload 0 1), (86, m_const (.int (nI 6)) 2), (88, m_icmp (fun x y => !(x == y)) 103), (91, m_iload 1 1), (92, m_aload 2 1), (93, m_aload 4 2), (95, m_cst 82 3)]
def tL_ofPack_1 : m_Tab := [(98, m_aload 4 2), (100, m_const (.int (nI 0)) 1), (101, m_ild 0), (102, m_iret), (103, m_iload 0 1), (104, m_const (.int (nI 7)) 2), (106, m_icmp (fun x y => !(x == y)) 117), (109, m_iload 1 1), (110, m_aload 2 1), (111, m_aload 4 2), (113, m_cst 81 3), (116, m_iret), (117, m_iload 0 1), (118, m_const (.int (nI 8)) 2), (120, m_icmp (fun x y => !(x == y)) 172), (123, m_const (.int (nI 0)) 1), (124, m_istore 8 2), (126, m_iload 8 2), (128, m_iload 1 1), (129, m_icmp (fun x y => decide (y ≤ x)) 152), (132, m_aload 2 1), (133, m_const (.int (nI 11)) 2), (135, m_dup2), (136, m_ild 0), (137, m_const (.int (nI 1)) 1), (138, m_aload 4 2), (140, m_iload 8 2), (142, m_ild 0), (143, m_bin (fun a b => a <<< (b &&& 31))), (144, m_bin (fun a b => a ||| b)), (145, m_ist 0 (fun x => x)), (146, m_iinc 8 (nI 1)), (149, m_goto 126), (152, m_iload 1 1), (153, m_aload 2 1), (154, m_aload 4 2), (156, m_cst 82 3), (159, m_aload 2 1), (160, m_const (.int (nI 7)) 2), (162, m_dup2), (163, m_ild 0), (164, m_iload 1 1), (165, m_bin (fun a b => a - b)), (166, m_ist 0 (fun x => x)), (167, m_aload 2 1), (168, m_const (.int (nI 7)) 2), (170, m_ild 0), (171, m_iret), (172, m_iload 0 1), (173, m_const (.int (nI 9)) 2), (175, m_icmp (fun x y => !(x == y)) 205), (178, m_aload 2 1), (179, m_aload 4 2), (181, m_aload 5 2), (183, m_aload 6 2), (185, m_cst 86 4), (188, m_if (fun x => x == 0) 205), (191, m_const (.int (-10)) 2), (193, m_aload 2 1), (194, m_aload 4 2)]
def tL_ofPack_2 : m_Tab := [(196, m_aload 5 2), (198, m_aload 6 2), (200, m_cst 86 4), (203, m_bin (fun a b => a - b)), (204, m_iret), (205, m_aload 2 1), (206, m_const (.int (nI 6)) 2), (208, m_const (.int (nI 0)) 1), (209, m_ist 0 (fun x => x)), (210, m_aload 2 1), (211, m_const (.int (nI 7)) 2), (213, m_const (.int (nI 0)) 1), (214, m_ist 0 (fun x => x)), (215, m_aload 2 1), (216, m_const (.int (nI 8)) 2), (218, m_dup2), (219, m_ild 0), (220, m_iload 0 1), (221, m_const (.int (nI 9)) 2), (223, m_icmp (fun x y => !(x == y)) 230), (226, m_const (.int (nI 1)) 1), (227, m_goto 231), (230, m_const (.int (nI 0)) 1), (231, m_bin (fun a b => a + b)), (232, m_ist 0 (fun x => x)), (233, m_aload 2 1), (234, m_const (.int (nI 9)) 2), (236, m_dup2), (237, m_ild 0), (238, m_iload 0 1), (239, m_const (.int (nI 9)) 2), (241, m_icmp (fun x y => !(x == y)) 248), (244, m_const (.int (nI 0)) 1), (245, m_goto 249), (248, m_const (.int (nI 1)) 1), (249, m_bin (fun a b => a + b)), (250, m_ist 0 (fun x => x)), (251, m_aload 2 1), (252, m_const (.int (nI 10)) 2), (254, m_dup2), (255, m_ild 0), (256, m_iload 0 1), (257, m_const (.int (nI 9)) 2), (259, m_icmp (fun x y => !(x == y)) 268), (262, m_aload 2 1), (263, m_const (.int (nI 3)) 1), (264, m_ild 0), (265, m_goto 269), (268, m_const (.int (nI 0)) 1), (269, m_bin (fun a b => a + b)), (270, m_ist 0 (fun x => x)), (271, m_iload 0 1), (272, m_const (.int (nI 9)) 2), (274, m_icmp (fun x y => !(x == y)) 283), (277, m_aload 2 1), (278, m_const (.int (nI 3)) 1), (279, m_ild 0), (280, m_goto 285), (283, m_iload 7 2), (285, m_iret)]
def tL_ofPack : m_Tab := tL_ofPack_0 ++ (tL_ofPack_1 ++ (tL_ofPack_2))
def tL_isPack_0 : m_Tab := [(0, m_const (.float FP.fconst0) 1), (1, m_fstore 5 2), (3, m_const (.int (nI 0)) 1), (4, m_istore 6 2), (6, m_const (.int (nI 0)) 1), (7, m_istore 7 2), (9, m_iload 7 2), (11, m_aload 2 1), (12, m_const (.int (nI 7)) 2), (14, m_ild 0), (15, m_icmp (fun x y => decide (y ≤ x)) 74), (18, m_aload 4 2), (20, m_aload 3 1), (21, m_iload 7 2), (23, m_ild 0), (24, m_ild 0), (25, m_aload 2 1), (26, m_aload 4 2), (28, m_cst 83 3), (31, m_istore 8 2), (33, m_fload 5 2), (35, m_const (.float FP.fconst1) 1), (36, m_iload 8 2), (38, m_const (.int (nI 100)) 2), (40, m_div (fun a b => a - a / b * b)), (41, m_i2f), (42, m_fbin FP.fdiv), (43, m_fbin FP.fadd), (44, m_fstore 5 2), (46, m_iload 6 2), (48, m_iload 8 2), (50, m_const (.int (nI 100)) 2), (52, m_div (fun a b => a / b)), (53, m_aload 3 1), (54, m_iload 7 2), (56, m_ild 0), (57, m_icmp (fun x y => !(x == y)) 64), (60, m_const (.int (nI 1)) 1), (61, m_goto 65), (64, m_const (.int (nI 0)) 1), (65, m_bin (fun a b => a + b)), (66, m_istore 6 2), (68, m_iinc 7 (nI 1)), (71, m_goto 9), (74, m_iload 1 1), (75, m_const (.int (nI 24)) 2), (77, m_cst 74 2), (80, m_istore 7 2), (82, m_const (.int (-5)) 2), (84, m_istore 8 2), (86, m_const (.int (nI 0)) 1), (87, m_istore 9 2), (89, m_iload 9 2), (91, m_aload 2 1), (92, m_const (.int (nI 7)) 2), (94, m_ild 0), (95, m_icmp (fun x y => decide (y ≤ x)) 122), (98, m_aload 3 1), (99, m_iload 9 2), (101, m_ild 0)]
def tL_isPack_1 : m_Tab := [(102, m_iload 7 2), (104, m_icmp (fun x y => !(x == y)) 112), (107, m_iload 9 2), (109, m_goto 114), (112, m_iload 8 2), (114, m_istore 8 2), (116, m_iinc 9 (nI 1)), (119, m_goto 89), (122, m_aload 0 1), (123, m_const (.int (nI 3)) 1), (124, m_cob 56 1 5), (127, m_aload 2 1), (128, m_const (.int (nI 7)) 2), (130, m_ild 0), (131, m_icmp (fun x y => !(x == y)) 267), (134, m_aload 0 1), (135, m_const (.int (nI 4)) 1), (136, m_cob 56 1 5), (139, m_aload 2 1), (140, m_const (.int (nI 6)) 2), (142, m_ild 0), (143, m_const (.int (nI 1)) 1), (144, m_icmp (fun x y => !(x == y)) 157), (147, m_const (.int (nI 24)) 2), (149, m_aload 2 1), (150, m_const (.int (nI 7)) 2), (152, m_ild 0), (153, m_bin (fun a b => a - b)), (154, m_goto 158), (157, m_const (.int (nI 0)) 1), (158, m_icmp (fun x y => !(x == y)) 267), (161, m_aload 0 1), (162, m_const (.int (nI 5)) 1), (163, m_cob 56 1 5), (166, m_aload 2 1), (167, m_aload 3 1), (168, m_aload 4 2), (170, m_cst 84 3), (173, m_icmp (fun x y => !(x == y)) 267), (176, m_aload 0 1), (177, m_const (.int (nI 6)) 2), (179, m_cob 56 1 5), (182, m_iload 6 2), (184, m_icmp (fun x y => !(x == y)) 267), (187, m_aload 0 1), (188, m_cob 58 0 5), (191, m_aload 2 1), (192, m_const (.int (nI 6)) 2), (194, m_ild 0), (195, m_const (.int (nI 1)) 1), (196, m_icmp (fun x y => !(x == y)) 204), (199, m_fload 5 2), (201, m_goto 206), (204, m_const (.float 3212836864) 2), (206, m_fcmp .l), (207, m_if (fun x => !(x == 0)) 267), (210, m_aload 0 1), (211, m_iload 7 2), (213, m_const (.int (nI 2)) 1), (214, m_cob 53 2 5)]
def tL_isPack_2 : m_Tab := [(217, m_iload 8 2), (219, m_icmp (fun x y => !(x == y)) 267), (222, m_aload 0 1), (223, m_iload 7 2), (225, m_const (.int (nI 3)) 1), (226, m_cob 53 2 5), (229, m_aload 2 1), (230, m_const (.int (nI 6)) 2), (232, m_ild 0), (233, m_const (.int (nI 1)) 1), (234, m_icmp (fun x y => !(x == y)) 245), (237, m_aload 4 2), (239, m_iload 7 2), (241, m_ild 0), (242, m_goto 247), (245, m_const (.int (-5)) 2), (247, m_icmp (fun x y => !(x == y)) 267), (250, m_aload 0 1), (251, m_aload 2 1), (252, m_const (.int (nI 7)) 2), (254, m_ild 0), (255, m_const (.int (nI 0)) 1), (256, m_cob 55 2 5), (259, m_const (.int (-1)) 1), (260, m_icmp (fun x y => !(x == y)) 267), (263, m_const (.int (nI 1)) 1), (264, m_goto 268), (267, m_const (.int (nI 0)) 1), (268, m_istore 9 2), (270, m_aload 2 1), (271, m_const (.int (nI 7)) 2), (273, m_ild 0), (274, m_if (fun x => !(x == 0)) 280), (277, m_iload 9 2), (279, m_zret (fun x => x &&& 1)), (280, m_iload 1 1), (281, m_const (.int (nI 5)) 1), (282, m_bin (fun a b => a >>> (b &&& 31))), (283, m_aload 2 1), (284, m_const (.int (nI 7)) 2), (286, m_ild 0), (287, m_cst 74 2), (290, m_istore 10 2), (292, m_aload 4 2), (294, m_aload 3 1), (295, m_iload 10 2), (297, m_ild 0), (298, m_ild 0), (299, m_aload 2 1), (300, m_aload 4 2), (302, m_cst 83 3), (305, m_istore 11 2), (307, m_iload 9 2), (309, m_if (fun x => x == 0) 413), (312, m_aload 0 1), (313, m_iload 10 2), (315, m_const (.int (nI 0)) 1), (316, m_cob 55 2 5), (319, m_aload 3 1), (320, m_iload 10 2)]
def tL_isPack_3 : m_Tab := [(322, m_ild 0), (323, m_icmp (fun x y => !(x == y)) 413), (326, m_aload 0 1), (327, m_iload 10 2), (329, m_const (.int (nI 1)) 1), (330, m_cob 55 2 5), (333, m_aload 4 2), (335, m_aload 3 1), (336, m_iload 10 2), (338, m_ild 0), (339, m_ild 0), (340, m_icmp (fun x y => !(x == y)) 413), (343, m_aload 0 1), (344, m_iload 10 2), (346, m_const (.int (nI 2)) 1), (347, m_cob 55 2 5), (350, m_iload 11 2), (352, m_const (.int (nI 100)) 2), (354, m_div (fun a b => a - a / b * b)), (355, m_icmp (fun x y => !(x == y)) 413), (358, m_aload 0 1), (359, m_iload 10 2), (361, m_const (.int (nI 3)) 1), (362, m_cob 55 2 5), (365, m_iload 11 2), (367, m_const (.int (nI 100)) 2), (369, m_div (fun a b => a / b)), (370, m_icmp (fun x y => !(x == y)) 413), (373, m_aload 0 1), (374, m_iload 10 2), (376, m_const (.int (nI 4)) 1), (377, m_cob 55 2 5), (380, m_iload 11 2), (382, m_const (.int (nI 100)) 2), (384, m_div (fun a b => a - a / b * b)), (385, m_const (.int (nI 1)) 1), (386, m_icmp (fun x y => !(x == y)) 393), (389, m_const (.int (nI 1)) 1), (390, m_goto 394), (393, m_const (.int (nI 0)) 1), (394, m_icmp (fun x y => !(x == y)) 413), (397, m_aload 0 1), (398, m_iload 10 2), (400, m_const (.int (nI 5)) 1), (401, m_cob 55 2 5), (404, m_const (.int (-2)) 2), (406, m_icmp (fun x y => !(x == y)) 413), (409, m_const (.int (nI 1)) 1), (410, m_goto 414), (413, m_const (.int (nI 0)) 1), (414, m_zret (fun x => x &&& 1))]
def tL_isPack : m_Tab := tL_isPack_0 ++ (tL_isPack_1 ++ (tL_isPack_2 ++ (tL_isPack_3)))
def tL_isSo_0 : m_Tab := [(0, m_const (.int (nI 0)) 1), (1, m_istore 10 2), (3, m_const (.int (nI 0)) 1), (4, m_istore 11 2), (6, m_const (.int (nI 0)) 1), (7, m_istore 12 2), (9, m_iload 12 2), (11, m_const (.int (nI 24)) 2), (13, m_icmp (fun x y => decide (y ≤ x)) 93), (16, m_const (.int (nI 0)) 1), (17, m_istore 13 2), (19, m_iload 10 2), (21, m_aload 4 2), (23, m_iload 12 2), (25, m_ild 0), (26, m_cst 75 1), (29, m_bin (fun a b => a + b)), (30, m_istore 10 2), (32, m_const (.int (nI 0)) 1), (33, m_istore 14 2), (35, m_iload 14 2), (37, m_const (.int (nI 24)) 2), (39, m_icmp (fun x y => decide (y ≤ x)) 71), (42, m_iload 13 2), (44, m_aload 4 2), (46, m_iload 12 2), (48, m_ild 0), (49, m_aload 4 2), (51, m_iload 14 2), (53, m_ild 0), (54, m_icmp (fun x y => !(x == y)) 61), (57, m_const (.int (nI 1)) 1), (58, m_goto 62), (61, m_const (.int (nI 0)) 1), (62, m_bin (fun a b => a + b)), (63, m_istore 13 2), (65, m_iinc 14 (nI 1)), (68, m_goto 35), (71, m_iload 11 2), (73, m_iload 13 2), (75, m_const (.int (nI 1)) 1), (76, m_icmp (fun x y => !(x == y)) 83), (79, m_const (.int (nI 1)) 1), (80, m_goto 84), (83, m_const (.int (nI 0)) 1), (84, m_bin (fun a b => a + b)), (85, m_istore 11 2), (87, m_iinc 12 (nI 1)), (90, m_goto 9), (93, m_iload 1 1), (94, m_const (.int (nI 24)) 2), (96, m_cst 74 2), (99, m_istore 12 2), (101, m_aload 0 1), (102, m_const (.int (nI 0)) 1), (103, m_cob 56 1 5), (106, m_aload 2 1), (107, m_const (.int (nI 5)) 1), (108, m_ild 0), (109, m_icmp (fun x y => !(x == y)) 320)]
def tL_isSo_1 : m_Tab := [(112, m_aload 0 1), (113, m_const (.int (nI 1)) 1), (114, m_cob 56 1 5), (117, m_aload 2 1), (118, m_const (.int (nI 4)) 1), (119, m_ild 0), (120, m_icmp (fun x y => !(x == y)) 320), (123, m_aload 0 1), (124, m_const (.int (nI 2)) 1), (125, m_cob 56 1 5), (128, m_aload 2 1), (129, m_const (.int (nI 6)) 2), (131, m_ild 0), (132, m_icmp (fun x y => !(x == y)) 320), (135, m_aload 0 1), (136, m_const (.int (nI 7)) 2), (138, m_cob 56 1 5), (141, m_aload 2 1), (142, m_const (.int (nI 8)) 2), (144, m_ild 0), (145, m_icmp (fun x y => !(x == y)) 320), (148, m_aload 0 1), (149, m_const (.int (nI 8)) 2), (151, m_cob 56 1 5), (154, m_aload 2 1), (155, m_const (.int (nI 9)) 2), (157, m_ild 0), (158, m_icmp (fun x y => !(x == y)) 320), (161, m_aload 0 1), (162, m_const (.int (nI 9)) 2), (164, m_cob 56 1 5), (167, m_aload 2 1), (168, m_const (.int (nI 10)) 2), (170, m_ild 0), (171, m_icmp (fun x y => !(x == y)) 320), (174, m_aload 0 1), (175, m_const (.int (nI 10)) 2), (177, m_cob 56 1 5), (180, m_iload 10 2), (182, m_icmp (fun x y => !(x == y)) 320), (185, m_aload 0 1), (186, m_const (.int (nI 11)) 2), (188, m_cob 56 1 5), (191, m_aload 2 1), (192, m_const (.int (nI 1)) 1), (193, m_ild 0), (194, m_aload 5 2), (196, m_cst 85 2), (199, m_icmp (fun x y => !(x == y)) 320), (202, m_aload 0 1), (203, m_cob 57 0 5), (206, m_aload 2 1), (207, m_aload 7 2), (209, m_aload 8 2), (211, m_aload 9 2), (213, m_cst 86 4), (216, m_icmp (fun x y => !(x == y)) 320), (219, m_aload 0 1), (220, m_const (.int (nI 0)) 1), (221, m_cob 59 1 5)]
def tL_isSo_2 : m_Tab := [(224, m_iload 11 2), (226, m_icmp (fun x y => !(x == y)) 320), (229, m_aload 0 1), (230, m_const (.int (nI 1)) 1), (231, m_cob 59 1 5), (234, m_iload 11 2), (236, m_icmp (fun x y => !(x == y)) 320), (239, m_aload 0 1), (240, m_iload 12 2), (242, m_const (.int (nI 0)) 1), (243, m_cob 52 2 5), (246, m_aload 3 1), (247, m_iload 12 2), (249, m_ild 0), (250, m_icmp (fun x y => !(x == y)) 320), (253, m_aload 0 1), (254, m_iload 12 2), (256, m_const (.int (nI 1)) 1), (257, m_cob 52 2 5), (260, m_aload 4 2), (262, m_iload 12 2), (264, m_ild 0), (265, m_icmp (fun x y => !(x == y)) 320), (268, m_aload 0 1), (269, m_aload 3 1), (270, m_iload 12 2), (272, m_ild 0), (273, m_const (.int (nI 0)) 1), (274, m_cob 53 2 5), (277, m_iload 12 2), (279, m_icmp (fun x y => !(x == y)) 320), (282, m_aload 0 1), (283, m_iload 12 2), (285, m_const (.int (nI 1)) 1), (286, m_cob 53 2 5), (289, m_const (.int (nI 100)) 2), (291, m_iload 12 2), (293, m_const (.int (nI 6)) 2), (295, m_div (fun a b => a - a / b * b)), (296, m_const (.int (nI 3)) 1), (297, m_icmp (fun x y => decide (y ≤ x)) 304), (300, m_const (.int (nI 0)) 1), (301, m_goto 312), (304, m_aload 5 2), (306, m_iload 12 2), (308, m_cst 76 1), (311, m_ild 0), (312, m_bin (fun a b => a + b)), (313, m_icmp (fun x y => !(x == y)) 320), (316, m_const (.int (nI 1)) 1), (317, m_goto 321), (320, m_const (.int (nI 0)) 1), (321, m_istore 13 2), (323, m_const (.int (nI 0)) 1), (324, m_istore 14 2), (326, m_iload 14 2), (328, m_const (.int (nI 4)) 1), (329, m_icmp (fun x y => decide (y ≤ x)) 366), (332, m_iload 13 2), (334, m_if (fun x => x == 0) 357)]
def tL_isSo_3 : m_Tab := [(337, m_aload 0 1), (338, m_const (.int (nI 14)) 2), (340, m_iload 14 2), (342, m_bin (fun a b => a + b)), (343, m_cob 56 1 5), (346, m_aload 2 1), (347, m_iload 14 2), (349, m_ild 0), (350, m_icmp (fun x y => !(x == y)) 357), (353, m_const (.int (nI 1)) 1), (354, m_goto 358), (357, m_const (.int (nI 0)) 1), (358, m_istore 13 2), (360, m_iinc 14 (nI 1)), (363, m_goto 326), (366, m_iload 1 1), (367, m_const (.int (nI 5)) 1), (368, m_bin (fun a b => a >>> (b &&& 31))), (369, m_const (.int (nI 7)) 2), (371, m_cst 74 2), (374, m_istore 14 2), (376, m_iload 14 2), (378, m_aload 2 1), (379, m_const (.int (nI 5)) 1), (380, m_ild 0), (381, m_icmp (fun x y => decide (y ≤ x)) 388), (384, m_const (.int (nI 1)) 1), (385, m_goto 389), (388, m_const (.int (nI 0)) 1), (389, m_istore 15 2), (391, m_iload 15 2), (393, m_if (fun x => x == 0) 414), (396, m_aload 2 1), (397, m_const (.int (nI 5)) 1), (398, m_ild 0), (399, m_const (.int (nI 1)) 1), (400, m_bin (fun a b => a - b)), (401, m_iload 14 2), (403, m_bin (fun a b => a - b)), (404, m_iload 12 2), (406, m_aload 6 2), (408, m_cst 77 3), (411, m_goto 415), (414, m_const (.int (nI 0)) 1), (415, m_istore 16 2), (417, m_iload 13 2), (419, m_if (fun x => x == 0) 477), (422, m_aload 0 1), (423, m_iload 14 2), (425, m_iload 12 2), (427, m_const (.int (nI 0)) 1), (428, m_cob 54 3 5), (431, m_iload 15 2), (433, m_if (fun x => x == 0) 444), (436, m_iload 16 2), (438, m_const (.int (nI 31)) 2), (440, m_bin (fun a b => a &&& b)), (441, m_goto 445), (444, m_const (.int (-1)) 1), (445, m_icmp (fun x y => !(x == y)) 477)]
def tL_isSo_4 : m_Tab := [(448, m_aload 0 1), (449, m_iload 14 2), (451, m_iload 12 2), (453, m_const (.int (nI 1)) 1), (454, m_cob 54 3 5), (457, m_iload 15 2), (459, m_if (fun x => x == 0) 469), (462, m_iload 16 2), (464, m_const (.int (nI 5)) 1), (465, m_bin (fun a b => a >>> (b &&& 31))), (466, m_goto 470), (469, m_const (.int (-1)) 1), (470, m_icmp (fun x y => !(x == y)) 477), (473, m_const (.int (nI 1)) 1), (474, m_goto 478), (477, m_const (.int (nI 0)) 1), (478, m_istore 13 2), (480, m_const (.int (-4)) 2), (482, m_istore 17 2), (484, m_const (.int (nI 25)) 2), (486, m_istore 18 2), (488, m_const (.int (nI 0)) 1), (489, m_istore 19 2), (491, m_iload 19 2), (493, m_const (.int (nI 4)) 1), (494, m_icmp (fun x y => decide (y ≤ x)) 595), (497, m_aload 2 1), (498, m_const (.int (nI 5)) 1), (499, m_ild 0), (500, m_if (fun x => decide (x ≤ 0)) 595), (503, m_const (.int (nI 0)) 1), (504, m_istore 20 2), (506, m_const (.int (nI 0)) 1), (507, m_istore 21 2), (509, m_iload 21 2), (511, m_const (.int (nI 24)) 2), (513, m_icmp (fun x y => decide (y ≤ x)) 557), (516, m_iload 20 2), (518, m_aload 2 1), (519, m_const (.int (nI 5)) 1), (520, m_ild 0), (521, m_const (.int (nI 1)) 1), (522, m_bin (fun a b => a - b)), (523, m_iload 21 2), (525, m_iload 19 2), (527, m_cst 79 2), (530, m_aload 6 2), (532, m_cst 77 3), (535, m_const (.int (nI 31)) 2), (537, m_bin (fun a b => a &&& b)), (538, m_iload 21 2), (540, m_icmp (fun x y => !(x == y)) 547), (543, m_const (.int (nI 1)) 1), (544, m_goto 548), (547, m_const (.int (nI 0)) 1), (548, m_bin (fun a b => a + b)), (549, m_istore 20 2), (551, m_iinc 21 (nI 1)), (554, m_goto 509), (557, m_iload 20 2)]
def tL_isSo_5 : m_Tab := [(559, m_iload 18 2), (561, m_icmp (fun x y => decide (y ≤ x)) 569), (564, m_iload 19 2), (566, m_goto 571), (569, m_iload 17 2), (571, m_istore 17 2), (573, m_iload 20 2), (575, m_iload 18 2), (577, m_icmp (fun x y => decide (y ≤ x)) 585), (580, m_iload 20 2), (582, m_goto 587), (585, m_iload 18 2), (587, m_istore 18 2), (589, m_iinc 19 (nI 1)), (592, m_goto 491), (595, m_iload 13 2), (597, m_if (fun x => x == 0) 629), (600, m_aload 0 1), (601, m_cob 60 0 5), (604, m_iload 17 2), (606, m_icmp (fun x y => !(x == y)) 629), (609, m_aload 0 1), (610, m_iload 1 1), (611, m_const (.int (nI 8)) 2), (613, m_bin (fun a b => a >>> (b &&& 31))), (614, m_aload 2 1), (615, m_aload 7 2), (617, m_aload 8 2), (619, m_cst 90 5), (622, m_if (fun x => x == 0) 629), (625, m_const (.int (nI 1)) 1), (626, m_goto 630), (629, m_const (.int (nI 0)) 1), (630, m_zret (fun x => x &&& 1))]
def tL_isSo : m_Tab := tL_isSo_0 ++ (tL_isSo_1 ++ (tL_isSo_2 ++ (tL_isSo_3 ++ (tL_isSo_4 ++ (tL_isSo_5)))))
def tL_told_0 : m_Tab := [(0, m_const (.long 173) 3), (3, m_lstore 1 1), (4, m_const (.int (nI 0)) 1), (5, m_istore 3 1), (6, m_iload 3 1), (7, m_const (.int (nI 18)) 2), (9, m_icmp (fun x y => decide (y ≤ x)) 47), (12, m_const (.long 31) 3), (15, m_lload 1 1), (16, m_lbin (fun a b => a * b)), (17, m_iload 3 1), (18, m_const (.int (nI 12)) 2), (20, m_icmp (fun x y => x == y) 29), (23, m_iload 3 1), (24, m_const (.int (nI 13)) 2), (26, m_icmp (fun x y => !(x == y)) 33), (29, m_const (.int (nI 0)) 1), (30, m_goto 38), (33, m_aload 0 1), (34, m_iload 3 1), (35, m_cob 56 1 5), (38, m_i2l), (39, m_lbin (fun a b => a + b)), (40, m_lstore 1 1), (41, m_iinc 3 (nI 1)), (44, m_goto 6), (47, m_const (.int (nI 0)) 1), (48, m_istore 3 1), (49, m_iload 3 1), (50, m_const (.int (nI 24)) 2), (52, m_icmp (fun x y => decide (y ≤ x)) 149), (55, m_const (.long 31) 3), (58, m_const (.long 31) 3), (61, m_lload 1 1), (62, m_lbin (fun a b => a * b)), (63, m_aload 0 1), (64, m_iload 3 1), (65, m_const (.int (nI 0)) 1), (66, m_cob 52 2 5), (69, m_i2l), (70, m_lbin (fun a b => a + b)), (71, m_lbin (fun a b => a * b)), (72, m_aload 0 1), (73, m_iload 3 1), (74, m_const (.int (nI 1)) 1), (75, m_cob 52 2 5), (78, m_i2l), (79, m_lbin (fun a b => a + b)), (80, m_lstore 1 1), (81, m_const (.long 31) 3), (84, m_const (.long 31) 3), (87, m_lload 1 1), (88, m_lbin (fun a b => a * b)), (89, m_aload 0 1), (90, m_iload 3 1), (91, m_const (.int (nI 1)) 1), (92, m_cob 53 2 5), (95, m_i2l), (96, m_lbin (fun a b => a + b)), (97, m_lbin (fun a b => a * b))]
def tL_told_1 : m_Tab := [(98, m_aload 0 1), (99, m_iload 3 1), (100, m_const (.int (nI 2)) 1), (101, m_cob 53 2 5), (104, m_i2l), (105, m_lbin (fun a b => a + b)), (106, m_lstore 1 1), (107, m_const (.long 31) 3), (110, m_const (.long 31) 3), (113, m_lload 1 1), (114, m_lbin (fun a b => a * b)), (115, m_aload 0 1), (116, m_const (.int (nI 0)) 1), (117, m_iload 3 1), (118, m_const (.int (nI 0)) 1), (119, m_cob 54 3 5), (122, m_i2l), (123, m_lbin (fun a b => a + b)), (124, m_lbin (fun a b => a * b)), (125, m_aload 0 1), (126, m_const (.int (nI 5)) 1), (127, m_iload 3 1), (128, m_const (.int (nI 1)) 1), (129, m_cob 54 3 5), (132, m_i2l), (133, m_lbin (fun a b => a + b)), (134, m_aload 0 1), (135, m_iload 3 1), (136, m_const (.int (nI 3)) 1), (137, m_cob 53 2 5), (140, m_i2l), (141, m_lbin (fun a b => a + b)), (142, m_lstore 1 1), (143, m_iinc 3 (nI 1)), (146, m_goto 49), (149, m_lload 1 1), (150, m_lret)]
def tL_told : m_Tab := tL_told_0 ++ (tL_told_1)
def tL_law_0 : m_Tab := [(0, m_new 5 [.null, .null, .null, .null, .null, .int 0]), (3, m_dup), (4, m_cob 39 0 5), (7, m_astore 1 1), (8, m_const (.int (nI 12)) 2), (10, m_nar 0), (12, m_astore 2 1), (13, m_const (.int (nI 24)) 2), (15, m_nar 0), (17, m_astore 3 1), (18, m_const (.int (nI 24)) 2), (20, m_nar 0), (22, m_astore 4 2), (24, m_const (.int (nI 12)) 2), (26, m_nar 0), (28, m_astore 5 2), (30, m_const (.int (nI 60)) 2), (32, m_nar 0), (34, m_astore 6 2), (36, m_const (.int (nI 24)) 2), (38, m_nar 0), (40, m_astore 7 2), (42, m_const (.int (nI 24)) 2), (44, m_nar 0), (46, m_astore 8 2), (48, m_const (.int (nI 12)) 2), (50, m_nar 0), (52, m_astore 9 2), (54, m_aload 2 1), (55, m_const (.int (nI 0)) 1), (56, m_const (.int (nI 10)) 2), (58, m_ist 0 (fun x => x)), (59, m_aload 2 1), (60, m_const (.int (nI 1)) 1), (61, m_const (.int (nI 3)) 1), (62, m_ist 0 (fun x => x)), (63, m_aload 2 1), (64, m_const (.int (nI 2)) 1), (65, m_const (.int (nI 4)) 1), (66, m_ist 0 (fun x => x)), (67, m_aload 2 1), (68, m_const (.int (nI 3)) 1), (69, m_const (.int (nI 12)) 2), (71, m_ist 0 (fun x => x)), (72, m_const (.int (nI 0)) 1), (73, m_istore 10 2), (75, m_iload 10 2), (77, m_const (.int (nI 24)) 2), (79, m_icmp (fun x y => decide (y ≤ x)) 94), (82, m_aload 3 1), (83, m_iload 10 2), (85, m_iload 10 2), (87, m_ist 0 (fun x => x)), (88, m_iinc 10 (nI 1)), (91, m_goto 75), (94, m_const (.int (nI 0)) 1), (95, m_istore 10 2), (97, m_iload 10 2), (99, m_const (.int (nI 46)) 2), (101, m_icmp (fun x y => decide (y ≤ x)) 714)]
def tL_law_1 : m_Tab := [(104, m_aload 0 1), (105, m_const (.int (nI 2)) 1), (106, m_iload 10 2), (108, m_bin (fun a b => a * b)), (109, m_cst 73 2), (112, m_istore 11 2), (114, m_aload 0 1), (115, m_const (.int (nI 2)) 1), (116, m_iload 10 2), (118, m_bin (fun a b => a * b)), (119, m_const (.int (nI 1)) 1), (120, m_bin (fun a b => a + b)), (121, m_cst 73 2), (124, m_istore 12 2), (126, m_iload 11 2), (128, m_const (.int (nI 28)) 2), (130, m_cst 74 2), (133, m_istore 13 2), (135, m_iload 13 2), (137, m_const (.int (nI 3)) 1), (138, m_icmp (fun x y => decide (y ≤ x)) 145), (141, m_const (.int (nI 0)) 1), (142, m_goto 261), (145, m_iload 13 2), (147, m_const (.int (nI 9)) 2), (149, m_icmp (fun x y => decide (y ≤ x)) 156), (152, m_const (.int (nI 1)) 1), (153, m_goto 261), (156, m_iload 13 2), (158, m_const (.int (nI 11)) 2), (160, m_icmp (fun x y => decide (y ≤ x)) 167), (163, m_const (.int (nI 2)) 1), (164, m_goto 261), (167, m_iload 13 2), (169, m_const (.int (nI 13)) 2), (171, m_icmp (fun x y => decide (y ≤ x)) 178), (174, m_const (.int (nI 3)) 1), (175, m_goto 261), (178, m_iload 13 2), (180, m_const (.int (nI 17)) 2), (182, m_icmp (fun x y => decide (y ≤ x)) 189), (185, m_const (.int (nI 4)) 1), (186, m_goto 261), (189, m_iload 13 2), (191, m_const (.int (nI 20)) 2), (193, m_icmp (fun x y => decide (y ≤ x)) 200), (196, m_const (.int (nI 5)) 1), (197, m_goto 261), (200, m_iload 13 2), (202, m_const (.int (nI 22)) 2), (204, m_icmp (fun x y => decide (y ≤ x)) 212), (207, m_const (.int (nI 6)) 2), (209, m_goto 261), (212, m_iload 13 2), (214, m_const (.int (nI 24)) 2), (216, m_icmp (fun x y => decide (y ≤ x)) 224), (219, m_const (.int (nI 7)) 2), (221, m_goto 261), (224, m_iload 13 2), (226, m_const (.int (nI 24)) 2)]
def tL_law_2 : m_Tab := [(228, m_icmp (fun x y => !(x == y)) 236), (231, m_const (.int (nI 8)) 2), (233, m_goto 261), (236, m_iload 13 2), (238, m_const (.int (nI 25)) 2), (240, m_icmp (fun x y => !(x == y)) 248), (243, m_const (.int (nI 9)) 2), (245, m_goto 261), (248, m_iload 10 2), (250, m_const (.int (nI 3)) 1), (251, m_div (fun a b => a - a / b * b)), (252, m_if (fun x => !(x == 0)) 260), (255, m_const (.int (nI 10)) 2), (257, m_goto 261), (260, m_const (.int (nI 1)) 1), (261, m_istore 13 2), (263, m_iload 13 2), (265, m_const (.int (nI 3)) 1), (266, m_icmp (fun x y => decide (y ≤ x)) 279), (269, m_iload 12 2), (271, m_const (.int (nI 24)) 2), (273, m_cst 74 2), (276, m_goto 341), (279, m_iload 13 2), (281, m_const (.int (nI 3)) 1), (282, m_icmp (fun x y => x == y) 291), (285, m_iload 13 2), (287, m_const (.int (nI 5)) 1), (288, m_icmp (fun x y => !(x == y)) 300), (291, m_iload 12 2), (293, m_const (.int (nI 4)) 1), (294, m_cst 74 2), (297, m_goto 341), (300, m_iload 13 2), (302, m_const (.int (nI 4)) 1), (303, m_icmp (fun x y => !(x == y)) 315), (306, m_iload 12 2), (308, m_const (.int (nI 2)) 1), (309, m_cst 74 2), (312, m_goto 341), (315, m_const (.int (nI 1)) 1), (316, m_iload 12 2), (318, m_iload 12 2), (320, m_const (.int (nI 20)) 2), (322, m_bin (fun a b => a >>> (b &&& 31))), (323, m_const (.int (nI 3)) 1), (324, m_cst 74 2), (327, m_if (fun x => !(x == 0)) 335), (330, m_const (.int (nI 24)) 2), (332, m_goto 337), (335, m_const (.int (nI 12)) 2), (337, m_cst 74 2), (340, m_bin (fun a b => a + b)), (341, m_istore 14 2), (343, m_iload 13 2), (345, m_if (fun x => !(x == 0)) 360), (348, m_iload 12 2), (350, m_const (.int (nI 5)) 1), (351, m_bin (fun a b => a >>> (b &&& 31))), (352, m_const (.int (nI 24)) 2)]
def tL_law_3 : m_Tab := [(354, m_cst 74 2), (357, m_goto 443), (360, m_iload 13 2), (362, m_const (.int (nI 1)) 1), (363, m_icmp (fun x y => !(x == y)) 377), (366, m_iload 12 2), (368, m_const (.int (nI 5)) 1), (369, m_bin (fun a b => a >>> (b &&& 31))), (370, m_const (.int (nI 4)) 1), (371, m_cst 74 2), (374, m_goto 443), (377, m_iload 14 2), (379, m_if (fun x => !(x == 0)) 396), (382, m_const (.int (nI 1)) 1), (383, m_iload 12 2), (385, m_const (.int (nI 5)) 1), (386, m_bin (fun a b => a >>> (b &&& 31))), (387, m_const (.int (nI 9)) 2), (389, m_cst 74 2), (392, m_bin (fun a b => a + b)), (393, m_goto 443), (396, m_iload 14 2), (398, m_const (.int (nI 1)) 1), (399, m_icmp (fun x y => !(x == y)) 414), (402, m_iload 12 2), (404, m_const (.int (nI 5)) 1), (405, m_bin (fun a b => a >>> (b &&& 31))), (406, m_const (.int (nI 10)) 2), (408, m_cst 74 2), (411, m_goto 443), (414, m_iload 14 2), (416, m_const (.int (nI 2)) 1), (417, m_icmp (fun x y => !(x == y)) 432), (420, m_iload 12 2), (422, m_const (.int (nI 5)) 1), (423, m_bin (fun a b => a >>> (b &&& 31))), (424, m_const (.int (nI 25)) 2), (426, m_cst 74 2), (429, m_goto 443), (432, m_const (.int (nI 1)) 1), (433, m_iload 12 2), (435, m_const (.int (nI 5)) 1), (436, m_bin (fun a b => a >>> (b &&& 31))), (437, m_const (.int (nI 99)) 2), (439, m_cst 74 2), (442, m_bin (fun a b => a + b)), (443, m_istore 15 2), (445, m_iload 13 2), (447, m_const (.int (nI 1)) 1), (448, m_icmp (fun x y => !(x == y)) 471), (451, m_iload 12 2), (453, m_const (.int (nI 10)) 2), (455, m_bin (fun a b => a >>> (b &&& 31))), (456, m_const (.int (nI 4)) 1), (457, m_cst 74 2), (460, m_if (fun x => decide (x ≤ 0)) 467), (463, m_const (.int (nI 1)) 1), (464, m_goto 481), (467, m_const (.int (nI 0)) 1), (468, m_goto 481)]
def tL_law_4 : m_Tab := [(471, m_iload 12 2), (473, m_const (.int (nI 10)) 2), (475, m_bin (fun a b => a >>> (b &&& 31))), (476, m_const (.int (nI 19)) 2), (478, m_cst 74 2), (481, m_istore 16 2), (483, m_aload 1 1), (484, m_cst 92 1), (487, m_lstore 17 2), (489, m_aload 1 1), (490, m_iload 13 2), (492, m_iload 14 2), (494, m_iload 15 2), (496, m_iload 16 2), (498, m_cst 87 5), (501, m_istore 19 2), (503, m_iload 19 2), (505, m_if (fun x => decide (0 ≤ x)) 521), (508, m_aload 1 1), (509, m_cst 92 1), (512, m_lload 17 2), (514, m_lcmp), (515, m_if (fun x => x == 0) 567), (518, m_goto 565), (521, m_iload 11 2), (523, m_const (.int (nI 24)) 2), (525, m_bin (fun a b => a >>> (b &&& 31))), (526, m_const (.int (nI 3)) 1), (527, m_bin (fun a b => a &&& b)), (528, m_if (fun x => !(x == 0)) 567), (531, m_aload 1 1), (532, m_cob 51 0 5), (535, m_if (fun x => decide (x < 0)) 565), (538, m_aload 1 1), (539, m_cst 92 1), (542, m_lload 17 2), (544, m_lcmp), (545, m_if (fun x => !(x == 0)) 565), (548, m_aload 1 1), (549, m_iload 13 2), (551, m_iload 14 2), (553, m_iload 15 2), (555, m_iload 16 2), (557, m_cst 87 5), (560, m_iload 19 2), (562, m_icmp (fun x y => x == y) 567), (565, m_const (.int (nI 0)) 1), (566, m_zret (fun x => x &&& 1)), (567, m_iload 13 2), (569, m_const (.int (nI 4)) 1), (570, m_icmp (fun x y => decide (y ≤ x)) 593), (573, m_iload 13 2), (575, m_iload 14 2), (577, m_iload 15 2), (579, m_iload 16 2), (581, m_aload 2 1), (582, m_aload 3 1), (583, m_aload 4 2), (585, m_aload 5 2), (587, m_cst 88 8)]
def tL_law_5 : m_Tab := [(590, m_goto 636), (593, m_iload 13 2), (595, m_const (.int (nI 4)) 1), (596, m_icmp (fun x y => !(x == y)) 620), (599, m_aload 2 1), (600, m_const (.int (nI 5)) 1), (601, m_ild 0), (602, m_const (.int (nI 6)) 2), (604, m_icmp (fun x y => !(x == y)) 612), (607, m_const (.int (-3)) 2), (609, m_goto 636), (612, m_aload 2 1), (613, m_const (.int (nI 5)) 1), (614, m_ild 0), (615, m_const (.int (nI 1)) 1), (616, m_bin (fun a b => a + b)), (617, m_goto 636), (620, m_iload 13 2), (622, m_iload 14 2), (624, m_aload 2 1), (625, m_aload 6 2), (627, m_aload 7 2), (629, m_aload 8 2), (631, m_aload 9 2), (633, m_cst 89 7), (636, m_istore 20 2), (638, m_iload 13 2), (640, m_const (.int (nI 4)) 1), (641, m_icmp (fun x y => !(x == y)) 674), (644, m_aload 2 1), (645, m_const (.int (nI 5)) 1), (646, m_ild 0), (647, m_const (.int (nI 6)) 2), (649, m_icmp (fun x y => decide (y ≤ x)) 674), (652, m_iload 14 2), (654, m_const (.int (nI 1)) 1), (655, m_icmp (fun x y => !(x == y)) 662), (658, m_const (.int (nI 1)) 1), (659, m_goto 663), (662, m_const (.int (nI 0)) 1), (663, m_aload 2 1), (664, m_aload 3 1), (665, m_aload 4 2), (667, m_aload 5 2), (669, m_aload 6 2), (671, m_cst 78 6), (674, m_iload 19 2), (676, m_iload 20 2), (678, m_icmp (fun x y => !(x == y)) 706), (681, m_aload 1 1), (682, m_iload 11 2), (684, m_const (.int (nI 4)) 1), (685, m_bin (fun a b => a >>> (b &&& 31))), (686, m_aload 2 1), (687, m_aload 3 1), (688, m_aload 4 2), (690, m_aload 5 2), (692, m_aload 6 2), (694, m_aload 7 2), (696, m_aload 8 2)]
def tL_law_6 : m_Tab := [(698, m_aload 9 2), (700, m_cst 91 10), (703, m_if (fun x => !(x == 0)) 708), (706, m_const (.int (nI 0)) 1), (707, m_zret (fun x => x &&& 1)), (708, m_iinc 10 (nI 1)), (711, m_goto 97), (714, m_const (.int (nI 1)) 1), (715, m_zret (fun x => x &&& 1))]
def tL_law : m_Tab := tL_law_0 ++ (tL_law_1 ++ (tL_law_2 ++ (tL_law_3 ++ (tL_law_4 ++ (tL_law_5 ++ (tL_law_6))))))
def m_M : List m_Mt := [(yX0_init, cX0_init, 2, none), (yX0_record, cX0_record, 2, none), (yX0_takeLatestInto, cX0_takeLatestInto, 2, none), (yX0_copyTo, cX0_copyTo, 4, none), (yX1_init, cX1_init, 1, none), (yX1_copyFrom, cX1_copyFrom, 2, none), (yX1_layDown, cX1_layDown, 4, none), (yX1_takeAway, cX1_takeAway, 1, none), (yX1_isThere, cX1_isThere, 1, (some .boolean)), (yX1_left, cX1_left, 1, (some .int)), (yX1_hasPartsAt, cX1_hasPartsAt, 2, (some .boolean)), (yX1_cardAt, cX1_cardAt, 2, (some .int)), (yX1_placeOf, cX1_placeOf, 4, (some .int)), (yX1_cutAt, cX1_cutAt, 6, none), (yX1_shuffleAt, cX1_shuffleAt, 7, (some .int)), (yX1_marksOf, cX1_marksOf, 2, (some .int)), (yX1_marksAt, cX1_marksAt, 2, (some .int)), (yX1_canBeAt, cX1_canBeAt, 6, (some .int)), (yX1_guessAt, cX1_guessAt, 6, (some .int)), (yX1_known, cX1_known, 4, (some .int)), (yX1_guessedRight, cX1_guessedRight, 4, (some .int)), (yX1_sumOfChances, cX1_sumOfChances, 5, (some .float)), (yX2_init, cX2_init, 7, none), (yX2_cardCutTo, cX2_cardCutTo, 3, (some .int)), (yX2_cardsAtHome, cX2_cardsAtHome, 4, (some .int)), (yX3_init, cX3_init, 2, none), (yX3_copyFrom, cX3_copyFrom, 3, none), (yX3_exchange, cX3_exchange, 4, none), (yX3_cellOf, cX3_cellOf, 3, (some .int)), (yX3_hasMark, cX3_hasMark, 3, (some .boolean)), (yX3_setMark, cX3_setMark, 5, none), (yX3_marksOnBacks, cX3_marksOnBacks, 3, (some .int)), (yX3_sheetAt, cX3_sheetAt, 2, (some (.object "CardSheets$Sheet"))), (yX3_printSheet, cX3_printSheet, 2, none), (yX3_wear, cX3_wear, 2, none), (yX3_takeTopSheet, cX3_takeTopSheet, 2, (some (.object "CardSheets$Sheet"))), (yX3_reasonAgainstSale, cX3_reasonAgainstSale, 2, (some .int)), (yX3_knownIfPrinted, cX3_knownIfPrinted, 8, (some .int)), (yX4_init, cX4_init, 1, none), (yX5_init, cX5_init, 1, none), (yX5_swap, cX5_swap, 3, (some .int)), (yX5_mark, cX5_mark, 4, (some .int)), (yX5_lean, cX5_lean, 4, (some .int)), (yX5_set, cX5_set, 4, (some .int)), (yX5_print, cX5_print, 2, (some .int)), (yX5_cutSheet, cX5_cutSheet, 2, (some .int)), (yX5_cutPack, cX5_cutPack, 3, (some .int)), (yX5_shuffle, cX5_shuffle, 3, (some .int)), (yX5_deal, cX5_deal, 3, (some .int)), (yX5_sell, cX5_sell, 3, (some .int)), (yX5_pulp, cX5_pulp, 2, (some .int)), (yX5_undo, cX5_undo, 1, (some .int)), (yX5_block, cX5_block, 3, (some .int)), (yX5_cardOf, cX5_cardOf, 3, (some .int)), (yX5_sheet, cX5_sheet, 6, (some .int)), (yX5_pack, cX5_pack, 4, (some .int)), (yX5_count, cX5_count, 2, (some .int)), (yX5_why, cX5_why, 1, (some .int)), (yX5_chances, cX5_chances, 1, (some .float)), (yX5_ifPrinted, cX5_ifPrinted, 2, (some .int)), (yX5_bestWay, cX5_bestWay, 6, (some .int)), (yX5_isCell, cX5_isCell, 1, (some .boolean)), (yX5_isCard, cX5_isCard, 1, (some .boolean)), (yX5_isMark, cX5_isMark, 1, (some .boolean)), (yX5_isCourt, cX5_isCourt, 1, (some .boolean)), (yX5_at, cX5_at, 2, (some .int)), (yX5_put, cX5_put, 3, none), (yX5_copyRow, cX5_copyRow, 2, none), (yX5_courtsBeyond, cX5_courtsBeyond, 4, (some .int)), (yX5_cellAt, cX5_cellAt, 4, (some .int)), (yX5_along, cX5_along, 3, (some .int)), (yX5_placeBefore, cX5_placeBefore, 4, (some .int)), (yJ6_bitCount_0f7a4, cJ6_bitCount_0f7a4, 1, (some .int)), (yL_cell, cL_cell, 2, (some .int)), (yL_low, cL_low, 2, (some .int)), (yL_ones, cL_ones, 3, (some .int)), (yL_court, cL_court, 1, (some .int)), (yL_sheetAt, cL_sheetAt, 3, (some .int)), (yL_prints, cL_prints, 8, none), (yL_cellAt, cL_cellAt, 4, (some .int)), (yL_cuts, cL_cuts, 8, none), (yL_shuffles, cL_shuffles, 8, (some .int)), (yL_turns, cL_turns, 6, none), (yL_alike, cL_alike, 7, (some .int)), (yL_known, cL_known, 5, (some .int)), (yL_leaning, cL_leaning, 4, (some .int)), (yL_why, cL_why, 4, (some .int)), (yL_call, cL_call, 5, (some .int)), (yL_ofBlocks, cL_ofBlocks, 9, (some .int)), (yL_ofPack, cL_ofPack, 9, (some .int)), (yL_isPack, cL_isPack, 12, (some .boolean)), (yL_isSo, cL_isSo, 22, (some .boolean)), (yL_told, cL_told, 4, (some .long))]
def m_P : m_Prog := [(tX0_init, 2), (tX0_record, 2), (tX0_takeLatestInto, 2), (tX0_copyTo, 4), (tX1_init, 1), (tX1_copyFrom, 2), (tX1_layDown, 4), (tX1_takeAway, 1), (tX1_isThere, 1), (tX1_left, 1), (tX1_hasPartsAt, 2), (tX1_cardAt, 2), (tX1_placeOf, 4), (tX1_cutAt, 6), (tX1_shuffleAt, 7), (tX1_marksOf, 2), (tX1_marksAt, 2), (tX1_canBeAt, 6), (tX1_guessAt, 6), (tX1_known, 4), (tX1_guessedRight, 4), (tX1_sumOfChances, 5), (tX2_init, 7), (tX2_cardCutTo, 3), (tX2_cardsAtHome, 4), (tX3_init, 2), (tX3_copyFrom, 3), (tX3_exchange, 4), (tX3_cellOf, 3), (tX3_hasMark, 3), (tX3_setMark, 5), (tX3_marksOnBacks, 3), (tX3_sheetAt, 2), (tX3_printSheet, 2), (tX3_wear, 2), (tX3_takeTopSheet, 2), (tX3_reasonAgainstSale, 2), (tX3_knownIfPrinted, 8), (tX4_init, 1), (tX5_init, 1), (tX5_swap, 3), (tX5_mark, 4), (tX5_lean, 4), (tX5_set, 4), (tX5_print, 2), (tX5_cutSheet, 2), (tX5_cutPack, 3), (tX5_shuffle, 3), (tX5_deal, 3), (tX5_sell, 3), (tX5_pulp, 2), (tX5_undo, 1), (tX5_block, 3), (tX5_cardOf, 3), (tX5_sheet, 6), (tX5_pack, 4), (tX5_count, 2), (tX5_why, 1), (tX5_chances, 1), (tX5_ifPrinted, 2), (tX5_bestWay, 6), (tX5_isCell, 1), (tX5_isCard, 1), (tX5_isMark, 1), (tX5_isCourt, 1), (tX5_at, 2), (tX5_put, 3), (tX5_copyRow, 2), (tX5_courtsBeyond, 4), (tX5_cellAt, 4), (tX5_along, 3), (tX5_placeBefore, 4), (tJ6_bitCount_0f7a4, 1), (tL_cell, 2), (tL_low, 2), (tL_ones, 3), (tL_court, 1), (tL_sheetAt, 3), (tL_prints, 8), (tL_cellAt, 4), (tL_cuts, 8), (tL_shuffles, 8), (tL_turns, 6), (tL_alike, 7), (tL_known, 5), (tL_leaning, 4), (tL_why, 4), (tL_call, 5), (tL_ofBlocks, 9), (tL_ofPack, 9), (tL_isPack, 12), (tL_isSo, 22), (tL_told, 4)]
end
section
/-! each table is sound (printed) -/
section
variable {D : va_G} {cA : Nat → ClassId} {ra : Nat → Nat} {B : Nat} {ro : List (List Int32)}
set_option maxRecDepth 100000 in
theorem sX0_init : ∀ pc o, m_at tX0_init pc = some o → m_Snd D cA ra B ro m_M cX0_init 2 none RX0 "<init>" pc o :=
  m_at_cons (m_s_aload_n dX0_init_0 rfl) <| m_at_cons (m_s_init0 wd_0 wd_1 wd_2 dX0_init_1) <| m_at_cons (m_s_aload_n dX0_init_4 rfl) <| m_at_cons (m_s_iconst dX0_init_5 (by decide)) <| m_at_cons (m_s_anar (C := RX3) (fun _ => rfl) (Or.inr rfl) wd_3 dX0_init_6) <| m_at_cons (m_s_putF (C := RX0) (T := TX0) (N := 3) rfl (by decide) uw_0 tyX0_ok nmX0 rfl rfl rfl rfl rfl (m_ft1a _) wd_4 dX0_init_9) <| m_at_cons (m_s_aload_n dX0_init_12 rfl) <| m_at_cons (m_s_iconst dX0_init_13 (by decide)) <| m_at_cons (m_s_put (C := RX0) (T := TX0) (N := 3) rfl (by decide) uw_0 tyX0_ok nmX0 rfl rfl rfl m_ft0 wd_5 dX0_init_14) <| m_at_cons (m_s_aload_n dX0_init_17 rfl) <| m_at_cons (m_s_iconst dX0_init_18 (by decide)) <| m_at_cons (m_s_put (C := RX0) (T := TX0) (N := 3) rfl (by decide) uw_0 tyX0_ok nmX0 rfl rfl rfl m_ft0 wd_6 dX0_init_19) <| m_at_cons (m_s_iconst dX0_init_22 (by decide)) <| m_at_cons (m_s_istore_n dX0_init_23 rfl) <| m_at_cons (m_s_iload_n dX0_init_24 rfl) <| m_at_cons (m_s_iconst dX0_init_25 (by decide)) <| m_at_cons (m_s_icmp_ge dX0_init_26 (by decide)) <| m_at_cons (m_s_aload_n dX0_init_29 rfl) <| m_at_cons (m_s_get (C := RX0) (T := TX0) (N := 3) rfl (by decide) uw_0 rfl wd_4 dX0_init_30) <| m_at_cons (m_s_iload_n dX0_init_33 rfl) <| m_at_cons (m_s_new (C := RX3) (T := TX3) (N := 11) rfl uw_3 tyX3_ok (by decide) rfl (fun _ _ => rfl) wd_3 wd_7 wd_8 dX0_init_34) <| m_at_cons (m_s_dup dX0_init_37) <| m_at_cons (m_s_cin (T := TX3) (N := 11) (y := yX3_init) rfl rfl (by decide) rfl (Or.inl wd_9) wd_10 wd_8 wd_11 (by decide +kernel) dX0_init_38) <| m_at_cons (m_s_ast dX0_init_41 rfl (fun _ => rfl)) <| m_at_cons (m_s_iinc dX0_init_42 (by decide)) <| m_at_cons (m_s_goto dX0_init_45 (by decide)) <| m_at_cons (m_s_vret rfl dX0_init_48) <| m_at_nil
set_option maxRecDepth 100000 in
theorem sX0_record : ∀ pc o, m_at tX0_record pc = some o → m_Snd D cA ra B ro m_M cX0_record 2 none RX0 "record" pc o :=
  m_at_cons (m_s_aload_n dX0_record_0 rfl) <| m_at_cons (m_s_aload_n dX0_record_1 rfl) <| m_at_cons (m_s_get (C := RX0) (T := TX0) (N := 3) rfl (by decide) uw_0 rfl wd_5 dX0_record_2) <| m_at_cons (m_s_aload_n dX0_record_5 rfl) <| m_at_cons (m_s_cob (T := TX0) (N := 3) (y := yX0_copyTo) rfl rfl (by decide) (Or.inl wd_12) wd_13 wd_14 wd_15 wd_16 (by decide +kernel) dX0_record_6) <| m_at_cons (m_s_aload_n dX0_record_9 rfl) <| m_at_cons (m_s_aload_n dX0_record_10 rfl) <| m_at_cons (m_s_get (C := RX0) (T := TX0) (N := 3) rfl (by decide) uw_0 rfl wd_5 dX0_record_11) <| m_at_cons (m_s_iconst dX0_record_14 (by decide)) <| m_at_cons (m_s_iadd dX0_record_15) <| m_at_cons (m_s_iconst dX0_record_16 (by decide)) <| m_at_cons (m_s_irem dX0_record_17) <| m_at_cons (m_s_put (C := RX0) (T := TX0) (N := 3) rfl (by decide) uw_0 tyX0_ok nmX0 rfl rfl rfl m_ft0 wd_5 dX0_record_18) <| m_at_cons (m_s_aload_n dX0_record_21 rfl) <| m_at_cons (m_s_aload_n dX0_record_22 rfl) <| m_at_cons (m_s_get (C := RX0) (T := TX0) (N := 3) rfl (by decide) uw_0 rfl wd_6 dX0_record_23) <| m_at_cons (m_s_iconst dX0_record_26 (by decide)) <| m_at_cons (m_s_iadd dX0_record_27) <| m_at_cons (m_s_iconst dX0_record_28 (by decide)) <| m_at_cons (m_s_min wd_17 wd_18 wd_19 wd_20 dX0_record_29) <| m_at_cons (m_s_put (C := RX0) (T := TX0) (N := 3) rfl (by decide) uw_0 tyX0_ok nmX0 rfl rfl rfl m_ft0 wd_6 dX0_record_32) <| m_at_cons (m_s_vret rfl dX0_record_35) <| m_at_nil
set_option maxRecDepth 100000 in
theorem sX0_takeLatestInto : ∀ pc o, m_at tX0_takeLatestInto pc = some o → m_Snd D cA ra B ro m_M cX0_takeLatestInto 2 none RX0 "takeLatestInto" pc o :=
  m_at_cons (m_s_aload_n dX0_takeLatestInto_0 rfl) <| m_at_cons (m_s_get (C := RX0) (T := TX0) (N := 3) rfl (by decide) uw_0 rfl wd_6 dX0_takeLatestInto_1) <| m_at_cons (m_s_if_ne dX0_takeLatestInto_4 (by decide)) <| m_at_cons (m_s_vret rfl dX0_takeLatestInto_7) <| m_at_cons (m_s_aload_n dX0_takeLatestInto_8 rfl) <| m_at_cons (m_s_aload_n dX0_takeLatestInto_9 rfl) <| m_at_cons (m_s_get (C := RX0) (T := TX0) (N := 3) rfl (by decide) uw_0 rfl wd_5 dX0_takeLatestInto_10) <| m_at_cons (m_s_iconst dX0_takeLatestInto_13 (by decide)) <| m_at_cons (m_s_iadd dX0_takeLatestInto_14) <| m_at_cons (m_s_iconst dX0_takeLatestInto_15 (by decide)) <| m_at_cons (m_s_isub dX0_takeLatestInto_16) <| m_at_cons (m_s_iconst dX0_takeLatestInto_17 (by decide)) <| m_at_cons (m_s_irem dX0_takeLatestInto_18) <| m_at_cons (m_s_put (C := RX0) (T := TX0) (N := 3) rfl (by decide) uw_0 tyX0_ok nmX0 rfl rfl rfl m_ft0 wd_5 dX0_takeLatestInto_19) <| m_at_cons (m_s_aload_n dX0_takeLatestInto_22 rfl) <| m_at_cons (m_s_dup dX0_takeLatestInto_23) <| m_at_cons (m_s_get (C := RX0) (T := TX0) (N := 3) rfl (by decide) uw_0 rfl wd_6 dX0_takeLatestInto_24) <| m_at_cons (m_s_iconst dX0_takeLatestInto_27 (by decide)) <| m_at_cons (m_s_isub dX0_takeLatestInto_28) <| m_at_cons (m_s_put (C := RX0) (T := TX0) (N := 3) rfl (by decide) uw_0 tyX0_ok nmX0 rfl rfl rfl m_ft0 wd_6 dX0_takeLatestInto_29) <| m_at_cons (m_s_aload_n dX0_takeLatestInto_32 rfl) <| m_at_cons (m_s_get (C := RX0) (T := TX0) (N := 3) rfl (by decide) uw_0 rfl wd_5 dX0_takeLatestInto_33) <| m_at_cons (m_s_if_lt dX0_takeLatestInto_36 (by decide)) <| m_at_cons (m_s_aload_n dX0_takeLatestInto_39 rfl) <| m_at_cons (m_s_get (C := RX0) (T := TX0) (N := 3) rfl (by decide) uw_0 rfl wd_5 dX0_takeLatestInto_40) <| m_at_cons (m_s_iconst dX0_takeLatestInto_43 (by decide)) <| m_at_cons (m_s_icmp_ge dX0_takeLatestInto_44 (by decide)) <| m_at_cons (m_s_aload_n dX0_takeLatestInto_47 rfl) <| m_at_cons (m_s_aload_n dX0_takeLatestInto_48 rfl) <| m_at_cons (m_s_get (C := RX0) (T := TX0) (N := 3) rfl (by decide) uw_0 rfl wd_4 dX0_takeLatestInto_49) <| m_at_cons (m_s_aload_n dX0_takeLatestInto_52 rfl) <| m_at_cons (m_s_get (C := RX0) (T := TX0) (N := 3) rfl (by decide) uw_0 rfl wd_5 dX0_takeLatestInto_53) <| m_at_cons (m_s_ald dX0_takeLatestInto_56) <| m_at_cons (m_s_cob (T := TX3) (N := 11) (y := yX3_copyFrom) rfl rfl (by decide) (Or.inl wd_21) wd_22 wd_23 wd_8 wd_24 (by decide +kernel) dX0_takeLatestInto_57) <| m_at_cons (m_s_vret rfl dX0_takeLatestInto_60) <| m_at_nil
set_option maxRecDepth 100000 in
theorem sX0_copyTo : ∀ pc o, m_at tX0_copyTo pc = some o → m_Snd D cA ra B ro m_M cX0_copyTo 4 none RX0 "copyTo" pc o :=
  m_at_cons (m_s_iload_n dX0_copyTo_0 rfl) <| m_at_cons (m_s_if_lt dX0_copyTo_1 (by decide)) <| m_at_cons (m_s_iload_n dX0_copyTo_4 rfl) <| m_at_cons (m_s_iconst dX0_copyTo_5 (by decide)) <| m_at_cons (m_s_icmp_lt dX0_copyTo_6 (by decide)) <| m_at_cons (m_s_vret rfl dX0_copyTo_9) <| m_at_cons (m_s_aload_n dX0_copyTo_10 rfl) <| m_at_cons (m_s_get (C := RX0) (T := TX0) (N := 3) rfl (by decide) uw_0 rfl wd_4 dX0_copyTo_11) <| m_at_cons (m_s_iload_n dX0_copyTo_14 rfl) <| m_at_cons (m_s_ald dX0_copyTo_15) <| m_at_cons (m_s_astore_n dX0_copyTo_16 rfl) <| m_at_cons (m_s_aload_n dX0_copyTo_17 rfl) <| m_at_cons (m_s_ifnull dX0_copyTo_18 (by decide)) <| m_at_cons (m_s_aload_n dX0_copyTo_21 rfl) <| m_at_cons (m_s_aload_n dX0_copyTo_22 rfl) <| m_at_cons (m_s_cob (T := TX3) (N := 11) (y := yX3_copyFrom) rfl rfl (by decide) (Or.inl wd_21) wd_22 wd_23 wd_8 wd_24 (by decide +kernel) dX0_copyTo_23) <| m_at_cons (m_s_vret rfl dX0_copyTo_26) <| m_at_nil
set_option maxRecDepth 100000 in
theorem sX1_init : ∀ pc o, m_at tX1_init pc = some o → m_Snd D cA ra B ro m_M cX1_init 1 none RX1 "<init>" pc o :=
  m_at_cons (m_s_aload_n dX1_init_0 rfl) <| m_at_cons (m_s_init0 wd_25 wd_1 wd_2 dX1_init_1) <| m_at_cons (m_s_aload_n dX1_init_4 rfl) <| m_at_cons (m_s_bipush dX1_init_5 (by decide)) <| m_at_cons (m_s_nar (f := .int) rfl (fun _ => rfl) rfl (by decide) (fun _ _ _ g1 g2 => Option.some.inj (g1.symm.trans g2)) wd_26 dX1_init_7) <| m_at_cons (m_s_putF (C := RX1) (T := TX1) (N := 3) rfl (by decide) uw_1 tyX1_ok nmX1 rfl rfl rfl rfl rfl (m_ft1a _) wd_27 dX1_init_9) <| m_at_cons (m_s_aload_n dX1_init_12 rfl) <| m_at_cons (m_s_null dX1_init_13) <| m_at_cons (m_s_put (C := RX1) (T := TX1) (N := 3) rfl (by decide) uw_1 tyX1_ok nmX1 rfl rfl rfl (m_ft1o _) wd_28 dX1_init_14) <| m_at_cons (m_s_aload_n dX1_init_17 rfl) <| m_at_cons (m_s_iconst dX1_init_18 (by decide)) <| m_at_cons (m_s_put (C := RX1) (T := TX1) (N := 3) rfl (by decide) uw_1 tyX1_ok nmX1 rfl rfl rfl m_ft0 wd_29 dX1_init_19) <| m_at_cons (m_s_vret rfl dX1_init_22) <| m_at_nil
set_option maxRecDepth 100000 in
theorem sX1_copyFrom : ∀ pc o, m_at tX1_copyFrom pc = some o → m_Snd D cA ra B ro m_M cX1_copyFrom 2 none RX1 "copyFrom" pc o :=
  m_at_cons (m_s_aload_n dX1_copyFrom_0 rfl) <| m_at_cons (m_s_get (C := RX1) (T := TX1) (N := 3) rfl (by decide) uw_1 rfl wd_27 dX1_copyFrom_1) <| m_at_cons (m_s_aload_n dX1_copyFrom_4 rfl) <| m_at_cons (m_s_get (C := RX1) (T := TX1) (N := 3) rfl (by decide) uw_1 rfl wd_27 dX1_copyFrom_5) <| m_at_cons (m_s_cst (y := yX5_copyRow) rfl (by decide) (Or.inr ⟨_, wn_30⟩) wd_31 wd_32 wd_33 (by decide +kernel) dX1_copyFrom_8) <| m_at_cons (m_s_aload_n dX1_copyFrom_11 rfl) <| m_at_cons (m_s_aload_n dX1_copyFrom_12 rfl) <| m_at_cons (m_s_get (C := RX1) (T := TX1) (N := 3) rfl (by decide) uw_1 rfl wd_28 dX1_copyFrom_13) <| m_at_cons (m_s_put (C := RX1) (T := TX1) (N := 3) rfl (by decide) uw_1 tyX1_ok nmX1 rfl rfl rfl (m_ft1o _) wd_28 dX1_copyFrom_16) <| m_at_cons (m_s_aload_n dX1_copyFrom_19 rfl) <| m_at_cons (m_s_aload_n dX1_copyFrom_20 rfl) <| m_at_cons (m_s_get (C := RX1) (T := TX1) (N := 3) rfl (by decide) uw_1 rfl wd_29 dX1_copyFrom_21) <| m_at_cons (m_s_put (C := RX1) (T := TX1) (N := 3) rfl (by decide) uw_1 tyX1_ok nmX1 rfl rfl rfl m_ft0 wd_29 dX1_copyFrom_24) <| m_at_cons (m_s_vret rfl dX1_copyFrom_27) <| m_at_nil
set_option maxRecDepth 100000 in
theorem sX1_layDown : ∀ pc o, m_at tX1_layDown pc = some o → m_Snd D cA ra B ro m_M cX1_layDown 4 none RX1 "layDown" pc o :=
  m_at_cons (m_s_aload_n dX1_layDown_0 rfl) <| m_at_cons (m_s_ifnonnull dX1_layDown_1 (by decide)) <| m_at_cons (m_s_vret rfl dX1_layDown_4) <| m_at_cons (m_s_aload_n dX1_layDown_5 rfl) <| m_at_cons (m_s_aload_n dX1_layDown_6 rfl) <| m_at_cons (m_s_put (C := RX1) (T := TX1) (N := 3) rfl (by decide) uw_1 tyX1_ok nmX1 rfl rfl rfl (m_ft1o _) wd_28 dX1_layDown_7) <| m_at_cons (m_s_aload_n dX1_layDown_10 rfl) <| m_at_cons (m_s_iconst dX1_layDown_11 (by decide)) <| m_at_cons (m_s_put (C := RX1) (T := TX1) (N := 3) rfl (by decide) uw_1 tyX1_ok nmX1 rfl rfl rfl m_ft0 wd_29 dX1_layDown_12) <| m_at_cons (m_s_iconst dX1_layDown_15 (by decide)) <| m_at_cons (m_s_istore_n dX1_layDown_16 rfl) <| m_at_cons (m_s_iload_n dX1_layDown_17 rfl) <| m_at_cons (m_s_bipush dX1_layDown_18 (by decide)) <| m_at_cons (m_s_icmp_ge dX1_layDown_20 (by decide)) <| m_at_cons (m_s_aload_n dX1_layDown_23 rfl) <| m_at_cons (m_s_get (C := RX1) (T := TX1) (N := 3) rfl (by decide) uw_1 rfl wd_27 dX1_layDown_24) <| m_at_cons (m_s_iload_n dX1_layDown_27 rfl) <| m_at_cons (m_s_aload_n dX1_layDown_28 rfl) <| m_at_cons (m_s_iload_n dX1_layDown_29 rfl) <| m_at_cons (m_s_iload_n dX1_layDown_30 rfl) <| m_at_cons (m_s_cob (T := TX2) (N := 3) (y := yX2_cardCutTo) rfl rfl (by decide) (Or.inl wd_34) wd_35 wd_36 wd_37 wd_38 (by decide +kernel) dX1_layDown_31) <| m_at_cons (m_s_iast dX1_layDown_34) <| m_at_cons (m_s_iinc dX1_layDown_35 (by decide)) <| m_at_cons (m_s_goto dX1_layDown_38 (by decide)) <| m_at_cons (m_s_vret rfl dX1_layDown_41) <| m_at_nil
set_option maxRecDepth 100000 in
theorem sX1_takeAway : ∀ pc o, m_at tX1_takeAway pc = some o → m_Snd D cA ra B ro m_M cX1_takeAway 1 none RX1 "takeAway" pc o :=
  m_at_cons (m_s_aload_n dX1_takeAway_0 rfl) <| m_at_cons (m_s_null dX1_takeAway_1) <| m_at_cons (m_s_put (C := RX1) (T := TX1) (N := 3) rfl (by decide) uw_1 tyX1_ok nmX1 rfl rfl rfl (m_ft1o _) wd_28 dX1_takeAway_2) <| m_at_cons (m_s_aload_n dX1_takeAway_5 rfl) <| m_at_cons (m_s_iconst dX1_takeAway_6 (by decide)) <| m_at_cons (m_s_put (C := RX1) (T := TX1) (N := 3) rfl (by decide) uw_1 tyX1_ok nmX1 rfl rfl rfl m_ft0 wd_29 dX1_takeAway_7) <| m_at_cons (m_s_vret rfl dX1_takeAway_10) <| m_at_nil
set_option maxRecDepth 100000 in
theorem sX1_isThere : ∀ pc o, m_at tX1_isThere pc = some o → m_Snd D cA ra B ro m_M cX1_isThere 1 (some .boolean) RX1 "isThere" pc o :=
  m_at_cons (m_s_aload_n dX1_isThere_0 rfl) <| m_at_cons (m_s_get (C := RX1) (T := TX1) (N := 3) rfl (by decide) uw_1 rfl wd_28 dX1_isThere_1) <| m_at_cons (m_s_ifnull dX1_isThere_4 (by decide)) <| m_at_cons (m_s_iconst dX1_isThere_7 (by decide)) <| m_at_cons (m_s_goto dX1_isThere_8 (by decide)) <| m_at_cons (m_s_iconst dX1_isThere_11 (by decide)) <| m_at_cons (m_s_zret (ty := .boolean) rfl m_nz dX1_isThere_12) <| m_at_nil
set_option maxRecDepth 100000 in
theorem sX1_left : ∀ pc o, m_at tX1_left pc = some o → m_Snd D cA ra B ro m_M cX1_left 1 (some .int) RX1 "left" pc o :=
  m_at_cons (m_s_aload_n dX1_left_0 rfl) <| m_at_cons (m_s_get (C := RX1) (T := TX1) (N := 3) rfl (by decide) uw_1 rfl wd_28 dX1_left_1) <| m_at_cons (m_s_ifnonnull dX1_left_4 (by decide)) <| m_at_cons (m_s_iconst dX1_left_7 (by decide)) <| m_at_cons (m_s_goto dX1_left_8 (by decide)) <| m_at_cons (m_s_bipush dX1_left_11 (by decide)) <| m_at_cons (m_s_aload_n dX1_left_13 rfl) <| m_at_cons (m_s_get (C := RX1) (T := TX1) (N := 3) rfl (by decide) uw_1 rfl wd_29 dX1_left_14) <| m_at_cons (m_s_isub dX1_left_17) <| m_at_cons (m_s_iret rfl dX1_left_18) <| m_at_nil
set_option maxRecDepth 100000 in
theorem sX1_hasPartsAt : ∀ pc o, m_at tX1_hasPartsAt pc = some o → m_Snd D cA ra B ro m_M cX1_hasPartsAt 2 (some .boolean) RX1 "hasPartsAt" pc o :=
  m_at_cons (m_s_iload_n dX1_hasPartsAt_0 rfl) <| m_at_cons (m_s_iconst dX1_hasPartsAt_1 (by decide)) <| m_at_cons (m_s_icmp_lt dX1_hasPartsAt_2 (by decide)) <| m_at_cons (m_s_iload_n dX1_hasPartsAt_5 rfl) <| m_at_cons (m_s_aload_n dX1_hasPartsAt_6 rfl) <| m_at_cons (m_s_cob (T := TX1) (N := 3) (y := yX1_left) rfl rfl (by decide) (Or.inl wd_39) wd_40 wd_41 wd_42 wd_43 (by decide +kernel) dX1_hasPartsAt_7) <| m_at_cons (m_s_icmp_ge dX1_hasPartsAt_10 (by decide)) <| m_at_cons (m_s_iconst dX1_hasPartsAt_13 (by decide)) <| m_at_cons (m_s_goto dX1_hasPartsAt_14 (by decide)) <| m_at_cons (m_s_iconst dX1_hasPartsAt_17 (by decide)) <| m_at_cons (m_s_zret (ty := .boolean) rfl m_nz dX1_hasPartsAt_18) <| m_at_nil
set_option maxRecDepth 100000 in
theorem sX1_cardAt : ∀ pc o, m_at tX1_cardAt pc = some o → m_Snd D cA ra B ro m_M cX1_cardAt 2 (some .int) RX1 "cardAt" pc o :=
  m_at_cons (m_s_aload_n dX1_cardAt_0 rfl) <| m_at_cons (m_s_get (C := RX1) (T := TX1) (N := 3) rfl (by decide) uw_1 rfl wd_27 dX1_cardAt_1) <| m_at_cons (m_s_aload_n dX1_cardAt_4 rfl) <| m_at_cons (m_s_get (C := RX1) (T := TX1) (N := 3) rfl (by decide) uw_1 rfl wd_29 dX1_cardAt_5) <| m_at_cons (m_s_iload_n dX1_cardAt_8 rfl) <| m_at_cons (m_s_iadd dX1_cardAt_9) <| m_at_cons (m_s_cst (y := yX5_at) rfl (by decide) (Or.inr ⟨_, wn_44⟩) wd_45 wd_32 wd_46 (by decide +kernel) dX1_cardAt_10) <| m_at_cons (m_s_iret rfl dX1_cardAt_13) <| m_at_nil
set_option maxRecDepth 100000 in
theorem sX1_placeOf : ∀ pc o, m_at tX1_placeOf pc = some o → m_Snd D cA ra B ro m_M cX1_placeOf 4 (some .int) RX1 "placeOf" pc o :=
  m_at_cons (m_s_aload_n dX1_placeOf_0 rfl) <| m_at_cons (m_s_cob (T := TX1) (N := 3) (y := yX1_left) rfl rfl (by decide) (Or.inl wd_39) wd_40 wd_41 wd_42 wd_43 (by decide +kernel) dX1_placeOf_1) <| m_at_cons (m_s_istore_n dX1_placeOf_4 rfl) <| m_at_cons (m_s_iconst dX1_placeOf_5 (by decide)) <| m_at_cons (m_s_istore_n dX1_placeOf_6 rfl) <| m_at_cons (m_s_iload_n dX1_placeOf_7 rfl) <| m_at_cons (m_s_iload_n dX1_placeOf_8 rfl) <| m_at_cons (m_s_icmp_ge dX1_placeOf_9 (by decide)) <| m_at_cons (m_s_aload_n dX1_placeOf_12 rfl) <| m_at_cons (m_s_iload_n dX1_placeOf_13 rfl) <| m_at_cons (m_s_cob (T := TX1) (N := 3) (y := yX1_cardAt) rfl rfl (by decide) (Or.inl wd_47) wd_48 wd_49 wd_42 wd_50 (by decide +kernel) dX1_placeOf_14) <| m_at_cons (m_s_iload_n dX1_placeOf_17 rfl) <| m_at_cons (m_s_icmp_ne dX1_placeOf_18 (by decide)) <| m_at_cons (m_s_iload_n dX1_placeOf_21 rfl) <| m_at_cons (m_s_iret rfl dX1_placeOf_22) <| m_at_cons (m_s_iinc dX1_placeOf_23 (by decide)) <| m_at_cons (m_s_goto dX1_placeOf_26 (by decide)) <| m_at_cons (m_s_bipush dX1_placeOf_29 (by decide)) <| m_at_cons (m_s_iret rfl dX1_placeOf_31) <| m_at_nil
set_option maxRecDepth 100000 in
theorem sX1_cutAt : ∀ pc o, m_at tX1_cutAt pc = some o → m_Snd D cA ra B ro m_M cX1_cutAt 6 none RX1 "cutAt" pc o :=
  m_at_cons (m_s_aload_n dX1_cutAt_0 rfl) <| m_at_cons (m_s_get (C := RX1) (T := TX1) (N := 3) rfl (by decide) uw_1 rfl wd_27 dX1_cutAt_1) <| m_at_cons (m_s_aload_n dX1_cutAt_4 rfl) <| m_at_cons (m_s_cst (y := yX5_copyRow) rfl (by decide) (Or.inr ⟨_, wn_30⟩) wd_31 wd_32 wd_33 (by decide +kernel) dX1_cutAt_5) <| m_at_cons (m_s_aload_n dX1_cutAt_8 rfl) <| m_at_cons (m_s_cob (T := TX1) (N := 3) (y := yX1_left) rfl rfl (by decide) (Or.inl wd_39) wd_40 wd_41 wd_42 wd_43 (by decide +kernel) dX1_cutAt_9) <| m_at_cons (m_s_istore_n dX1_cutAt_12 rfl) <| m_at_cons (m_s_iconst dX1_cutAt_13 (by decide)) <| m_at_cons (m_s_istore dX1_cutAt_14) <| m_at_cons (m_s_iload dX1_cutAt_16) <| m_at_cons (m_s_iload_n dX1_cutAt_18 rfl) <| m_at_cons (m_s_icmp_ge dX1_cutAt_19 (by decide)) <| m_at_cons (m_s_iload dX1_cutAt_22) <| m_at_cons (m_s_iload_n dX1_cutAt_24 rfl) <| m_at_cons (m_s_iadd dX1_cutAt_25) <| m_at_cons (m_s_iload_n dX1_cutAt_26 rfl) <| m_at_cons (m_s_icmp_ge dX1_cutAt_27 (by decide)) <| m_at_cons (m_s_iload dX1_cutAt_30) <| m_at_cons (m_s_iload_n dX1_cutAt_32 rfl) <| m_at_cons (m_s_iadd dX1_cutAt_33) <| m_at_cons (m_s_goto dX1_cutAt_34 (by decide)) <| m_at_cons (m_s_iload dX1_cutAt_37) <| m_at_cons (m_s_iload_n dX1_cutAt_39 rfl) <| m_at_cons (m_s_iadd dX1_cutAt_40) <| m_at_cons (m_s_iload_n dX1_cutAt_41 rfl) <| m_at_cons (m_s_isub dX1_cutAt_42) <| m_at_cons (m_s_istore dX1_cutAt_43) <| m_at_cons (m_s_aload_n dX1_cutAt_45 rfl) <| m_at_cons (m_s_get (C := RX1) (T := TX1) (N := 3) rfl (by decide) uw_1 rfl wd_27 dX1_cutAt_46) <| m_at_cons (m_s_aload_n dX1_cutAt_49 rfl) <| m_at_cons (m_s_get (C := RX1) (T := TX1) (N := 3) rfl (by decide) uw_1 rfl wd_29 dX1_cutAt_50) <| m_at_cons (m_s_iload dX1_cutAt_53) <| m_at_cons (m_s_iadd dX1_cutAt_55) <| m_at_cons (m_s_aload_n dX1_cutAt_56 rfl) <| m_at_cons (m_s_aload_n dX1_cutAt_57 rfl) <| m_at_cons (m_s_get (C := RX1) (T := TX1) (N := 3) rfl (by decide) uw_1 rfl wd_29 dX1_cutAt_58) <| m_at_cons (m_s_iload dX1_cutAt_61) <| m_at_cons (m_s_iadd dX1_cutAt_63) <| m_at_cons (m_s_cst (y := yX5_at) rfl (by decide) (Or.inr ⟨_, wn_44⟩) wd_45 wd_32 wd_46 (by decide +kernel) dX1_cutAt_64) <| m_at_cons (m_s_cst (y := yX5_put) rfl (by decide) (Or.inr ⟨_, wn_51⟩) wd_52 wd_32 wd_53 (by decide +kernel) dX1_cutAt_67) <| m_at_cons (m_s_iinc dX1_cutAt_70 (by decide)) <| m_at_cons (m_s_goto dX1_cutAt_73 (by decide)) <| m_at_cons (m_s_vret rfl dX1_cutAt_76) <| m_at_nil
set_option maxRecDepth 100000 in
theorem sX1_shuffleAt : ∀ pc o, m_at tX1_shuffleAt pc = some o → m_Snd D cA ra B ro m_M cX1_shuffleAt 7 (some .int) RX1 "shuffleAt" pc o :=
  m_at_cons (m_s_aload_n dX1_shuffleAt_0 rfl) <| m_at_cons (m_s_get (C := RX1) (T := TX1) (N := 3) rfl (by decide) uw_1 rfl wd_27 dX1_shuffleAt_1) <| m_at_cons (m_s_aload_n dX1_shuffleAt_4 rfl) <| m_at_cons (m_s_cst (y := yX5_copyRow) rfl (by decide) (Or.inr ⟨_, wn_30⟩) wd_31 wd_32 wd_33 (by decide +kernel) dX1_shuffleAt_5) <| m_at_cons (m_s_aload_n dX1_shuffleAt_8 rfl) <| m_at_cons (m_s_cob (T := TX1) (N := 3) (y := yX1_left) rfl rfl (by decide) (Or.inl wd_39) wd_40 wd_41 wd_42 wd_43 (by decide +kernel) dX1_shuffleAt_9) <| m_at_cons (m_s_istore_n dX1_shuffleAt_12 rfl) <| m_at_cons (m_s_iconst dX1_shuffleAt_13 (by decide)) <| m_at_cons (m_s_istore dX1_shuffleAt_14) <| m_at_cons (m_s_iconst dX1_shuffleAt_16 (by decide)) <| m_at_cons (m_s_istore dX1_shuffleAt_17) <| m_at_cons (m_s_iload dX1_shuffleAt_19) <| m_at_cons (m_s_iload_n dX1_shuffleAt_21 rfl) <| m_at_cons (m_s_icmp_ge dX1_shuffleAt_22 (by decide)) <| m_at_cons (m_s_iload dX1_shuffleAt_25) <| m_at_cons (m_s_iload_n dX1_shuffleAt_27 rfl) <| m_at_cons (m_s_iload_n dX1_shuffleAt_28 rfl) <| m_at_cons (m_s_cst (y := yX5_placeBefore) rfl (by decide) (Or.inr ⟨_, wn_54⟩) wd_55 wd_32 wd_56 (by decide +kernel) dX1_shuffleAt_29) <| m_at_cons (m_s_istore dX1_shuffleAt_32) <| m_at_cons (m_s_aload_n dX1_shuffleAt_34 rfl) <| m_at_cons (m_s_get (C := RX1) (T := TX1) (N := 3) rfl (by decide) uw_1 rfl wd_27 dX1_shuffleAt_35) <| m_at_cons (m_s_aload_n dX1_shuffleAt_38 rfl) <| m_at_cons (m_s_get (C := RX1) (T := TX1) (N := 3) rfl (by decide) uw_1 rfl wd_29 dX1_shuffleAt_39) <| m_at_cons (m_s_iload dX1_shuffleAt_42) <| m_at_cons (m_s_iadd dX1_shuffleAt_44) <| m_at_cons (m_s_aload_n dX1_shuffleAt_45 rfl) <| m_at_cons (m_s_aload_n dX1_shuffleAt_46 rfl) <| m_at_cons (m_s_get (C := RX1) (T := TX1) (N := 3) rfl (by decide) uw_1 rfl wd_29 dX1_shuffleAt_47) <| m_at_cons (m_s_iload dX1_shuffleAt_50) <| m_at_cons (m_s_iadd dX1_shuffleAt_52) <| m_at_cons (m_s_cst (y := yX5_at) rfl (by decide) (Or.inr ⟨_, wn_44⟩) wd_45 wd_32 wd_46 (by decide +kernel) dX1_shuffleAt_53) <| m_at_cons (m_s_cst (y := yX5_put) rfl (by decide) (Or.inr ⟨_, wn_51⟩) wd_52 wd_32 wd_53 (by decide +kernel) dX1_shuffleAt_56) <| m_at_cons (m_s_iload dX1_shuffleAt_59) <| m_at_cons (m_s_iload dX1_shuffleAt_61) <| m_at_cons (m_s_icmp_eq dX1_shuffleAt_63 (by decide)) <| m_at_cons (m_s_iinc dX1_shuffleAt_66 (by decide)) <| m_at_cons (m_s_iinc dX1_shuffleAt_69 (by decide)) <| m_at_cons (m_s_goto dX1_shuffleAt_72 (by decide)) <| m_at_cons (m_s_iload dX1_shuffleAt_75) <| m_at_cons (m_s_iret rfl dX1_shuffleAt_77) <| m_at_nil
set_option maxRecDepth 100000 in
theorem sX1_marksOf : ∀ pc o, m_at tX1_marksOf pc = some o → m_Snd D cA ra B ro m_M cX1_marksOf 2 (some .int) RX1 "marksOf" pc o :=
  m_at_cons (m_s_aload_n dX1_marksOf_0 rfl) <| m_at_cons (m_s_get (C := RX1) (T := TX1) (N := 3) rfl (by decide) uw_1 rfl wd_28 dX1_marksOf_1) <| m_at_cons (m_s_ifnonnull dX1_marksOf_4 (by decide)) <| m_at_cons (m_s_bipush dX1_marksOf_7 (by decide)) <| m_at_cons (m_s_goto dX1_marksOf_9 (by decide)) <| m_at_cons (m_s_aload_n dX1_marksOf_12 rfl) <| m_at_cons (m_s_get (C := RX1) (T := TX1) (N := 3) rfl (by decide) uw_1 rfl wd_28 dX1_marksOf_13) <| m_at_cons (m_s_get (C := RX2) (T := TX2) (N := 3) rfl (by decide) uw_2 rfl wd_57 dX1_marksOf_16) <| m_at_cons (m_s_iload_n dX1_marksOf_19 rfl) <| m_at_cons (m_s_cst (y := yX5_at) rfl (by decide) (Or.inr ⟨_, wn_44⟩) wd_45 wd_32 wd_46 (by decide +kernel) dX1_marksOf_20) <| m_at_cons (m_s_iret rfl dX1_marksOf_23) <| m_at_nil
set_option maxRecDepth 100000 in
theorem sX1_marksAt : ∀ pc o, m_at tX1_marksAt pc = some o → m_Snd D cA ra B ro m_M cX1_marksAt 2 (some .int) RX1 "marksAt" pc o :=
  m_at_cons (m_s_aload_n dX1_marksAt_0 rfl) <| m_at_cons (m_s_aload_n dX1_marksAt_1 rfl) <| m_at_cons (m_s_iload_n dX1_marksAt_2 rfl) <| m_at_cons (m_s_cob (T := TX1) (N := 3) (y := yX1_cardAt) rfl rfl (by decide) (Or.inl wd_47) wd_48 wd_49 wd_42 wd_50 (by decide +kernel) dX1_marksAt_3) <| m_at_cons (m_s_cob (T := TX1) (N := 3) (y := yX1_marksOf) rfl rfl (by decide) (Or.inl wd_58) wd_59 wd_60 wd_42 wd_61 (by decide +kernel) dX1_marksAt_6) <| m_at_cons (m_s_iret rfl dX1_marksAt_9) <| m_at_nil
set_option maxRecDepth 100000 in
theorem sX1_canBeAt : ∀ pc o, m_at tX1_canBeAt pc = some o → m_Snd D cA ra B ro m_M cX1_canBeAt 6 (some .int) RX1 "canBeAt" pc o :=
  m_at_cons (m_s_aload_n dX1_canBeAt_0 rfl) <| m_at_cons (m_s_iload_n dX1_canBeAt_1 rfl) <| m_at_cons (m_s_cob (T := TX1) (N := 3) (y := yX1_marksAt) rfl rfl (by decide) (Or.inl wd_62) wd_63 wd_64 wd_42 wd_65 (by decide +kernel) dX1_canBeAt_2) <| m_at_cons (m_s_istore_n dX1_canBeAt_5 rfl) <| m_at_cons (m_s_aload_n dX1_canBeAt_6 rfl) <| m_at_cons (m_s_cob (T := TX1) (N := 3) (y := yX1_left) rfl rfl (by decide) (Or.inl wd_39) wd_40 wd_41 wd_42 wd_43 (by decide +kernel) dX1_canBeAt_7) <| m_at_cons (m_s_istore_n dX1_canBeAt_10 rfl) <| m_at_cons (m_s_iconst dX1_canBeAt_11 (by decide)) <| m_at_cons (m_s_istore dX1_canBeAt_12) <| m_at_cons (m_s_iconst dX1_canBeAt_14 (by decide)) <| m_at_cons (m_s_istore dX1_canBeAt_15) <| m_at_cons (m_s_iload dX1_canBeAt_17) <| m_at_cons (m_s_iload_n dX1_canBeAt_19 rfl) <| m_at_cons (m_s_icmp_ge dX1_canBeAt_20 (by decide)) <| m_at_cons (m_s_aload_n dX1_canBeAt_23 rfl) <| m_at_cons (m_s_iload dX1_canBeAt_24) <| m_at_cons (m_s_cob (T := TX1) (N := 3) (y := yX1_marksAt) rfl rfl (by decide) (Or.inl wd_62) wd_63 wd_64 wd_42 wd_65 (by decide +kernel) dX1_canBeAt_26) <| m_at_cons (m_s_iload_n dX1_canBeAt_29 rfl) <| m_at_cons (m_s_icmp_ne dX1_canBeAt_30 (by decide)) <| m_at_cons (m_s_iinc dX1_canBeAt_33 (by decide)) <| m_at_cons (m_s_iinc dX1_canBeAt_36 (by decide)) <| m_at_cons (m_s_goto dX1_canBeAt_39 (by decide)) <| m_at_cons (m_s_iload dX1_canBeAt_42) <| m_at_cons (m_s_iret rfl dX1_canBeAt_44) <| m_at_nil
set_option maxRecDepth 100000 in
theorem sX1_guessAt : ∀ pc o, m_at tX1_guessAt pc = some o → m_Snd D cA ra B ro m_M cX1_guessAt 6 (some .int) RX1 "guessAt" pc o :=
  m_at_cons (m_s_aload_n dX1_guessAt_0 rfl) <| m_at_cons (m_s_iload_n dX1_guessAt_1 rfl) <| m_at_cons (m_s_cob (T := TX1) (N := 3) (y := yX1_marksAt) rfl rfl (by decide) (Or.inl wd_62) wd_63 wd_64 wd_42 wd_65 (by decide +kernel) dX1_guessAt_2) <| m_at_cons (m_s_istore_n dX1_guessAt_5 rfl) <| m_at_cons (m_s_aload_n dX1_guessAt_6 rfl) <| m_at_cons (m_s_cob (T := TX1) (N := 3) (y := yX1_left) rfl rfl (by decide) (Or.inl wd_39) wd_40 wd_41 wd_42 wd_43 (by decide +kernel) dX1_guessAt_7) <| m_at_cons (m_s_istore_n dX1_guessAt_10 rfl) <| m_at_cons (m_s_aload_n dX1_guessAt_11 rfl) <| m_at_cons (m_s_iload_n dX1_guessAt_12 rfl) <| m_at_cons (m_s_cob (T := TX1) (N := 3) (y := yX1_cardAt) rfl rfl (by decide) (Or.inl wd_47) wd_48 wd_49 wd_42 wd_50 (by decide +kernel) dX1_guessAt_13) <| m_at_cons (m_s_istore dX1_guessAt_16) <| m_at_cons (m_s_iconst dX1_guessAt_18 (by decide)) <| m_at_cons (m_s_istore dX1_guessAt_19) <| m_at_cons (m_s_iload dX1_guessAt_21) <| m_at_cons (m_s_iload_n dX1_guessAt_23 rfl) <| m_at_cons (m_s_icmp_ge dX1_guessAt_24 (by decide)) <| m_at_cons (m_s_aload_n dX1_guessAt_27 rfl) <| m_at_cons (m_s_iload dX1_guessAt_28) <| m_at_cons (m_s_cob (T := TX1) (N := 3) (y := yX1_marksAt) rfl rfl (by decide) (Or.inl wd_62) wd_63 wd_64 wd_42 wd_65 (by decide +kernel) dX1_guessAt_30) <| m_at_cons (m_s_iload_n dX1_guessAt_33 rfl) <| m_at_cons (m_s_icmp_ne dX1_guessAt_34 (by decide)) <| m_at_cons (m_s_iload dX1_guessAt_37) <| m_at_cons (m_s_aload_n dX1_guessAt_39 rfl) <| m_at_cons (m_s_iload dX1_guessAt_40) <| m_at_cons (m_s_cob (T := TX1) (N := 3) (y := yX1_cardAt) rfl rfl (by decide) (Or.inl wd_47) wd_48 wd_49 wd_42 wd_50 (by decide +kernel) dX1_guessAt_42) <| m_at_cons (m_s_min wd_66 wd_18 wd_19 wd_20 dX1_guessAt_45) <| m_at_cons (m_s_istore dX1_guessAt_48) <| m_at_cons (m_s_iinc dX1_guessAt_50 (by decide)) <| m_at_cons (m_s_goto dX1_guessAt_53 (by decide)) <| m_at_cons (m_s_iload dX1_guessAt_56) <| m_at_cons (m_s_iret rfl dX1_guessAt_58) <| m_at_nil
set_option maxRecDepth 100000 in
theorem sX1_known : ∀ pc o, m_at tX1_known pc = some o → m_Snd D cA ra B ro m_M cX1_known 4 (some .int) RX1 "known" pc o :=
  m_at_cons (m_s_aload_n dX1_known_0 rfl) <| m_at_cons (m_s_cob (T := TX1) (N := 3) (y := yX1_left) rfl rfl (by decide) (Or.inl wd_39) wd_40 wd_41 wd_42 wd_43 (by decide +kernel) dX1_known_1) <| m_at_cons (m_s_istore_n dX1_known_4 rfl) <| m_at_cons (m_s_iconst dX1_known_5 (by decide)) <| m_at_cons (m_s_istore_n dX1_known_6 rfl) <| m_at_cons (m_s_iconst dX1_known_7 (by decide)) <| m_at_cons (m_s_istore_n dX1_known_8 rfl) <| m_at_cons (m_s_iload_n dX1_known_9 rfl) <| m_at_cons (m_s_iload_n dX1_known_10 rfl) <| m_at_cons (m_s_icmp_ge dX1_known_11 (by decide)) <| m_at_cons (m_s_aload_n dX1_known_14 rfl) <| m_at_cons (m_s_iload_n dX1_known_15 rfl) <| m_at_cons (m_s_cob (T := TX1) (N := 3) (y := yX1_canBeAt) rfl rfl (by decide) (Or.inl wd_67) wd_68 wd_69 wd_42 wd_70 (by decide +kernel) dX1_known_16) <| m_at_cons (m_s_iconst dX1_known_19 (by decide)) <| m_at_cons (m_s_icmp_ne dX1_known_20 (by decide)) <| m_at_cons (m_s_iinc dX1_known_23 (by decide)) <| m_at_cons (m_s_iinc dX1_known_26 (by decide)) <| m_at_cons (m_s_goto dX1_known_29 (by decide)) <| m_at_cons (m_s_iload_n dX1_known_32 rfl) <| m_at_cons (m_s_iret rfl dX1_known_33) <| m_at_nil
set_option maxRecDepth 100000 in
theorem sX1_guessedRight : ∀ pc o, m_at tX1_guessedRight pc = some o → m_Snd D cA ra B ro m_M cX1_guessedRight 4 (some .int) RX1 "guessedRight" pc o :=
  m_at_cons (m_s_aload_n dX1_guessedRight_0 rfl) <| m_at_cons (m_s_cob (T := TX1) (N := 3) (y := yX1_left) rfl rfl (by decide) (Or.inl wd_39) wd_40 wd_41 wd_42 wd_43 (by decide +kernel) dX1_guessedRight_1) <| m_at_cons (m_s_istore_n dX1_guessedRight_4 rfl) <| m_at_cons (m_s_iconst dX1_guessedRight_5 (by decide)) <| m_at_cons (m_s_istore_n dX1_guessedRight_6 rfl) <| m_at_cons (m_s_iconst dX1_guessedRight_7 (by decide)) <| m_at_cons (m_s_istore_n dX1_guessedRight_8 rfl) <| m_at_cons (m_s_iload_n dX1_guessedRight_9 rfl) <| m_at_cons (m_s_iload_n dX1_guessedRight_10 rfl) <| m_at_cons (m_s_icmp_ge dX1_guessedRight_11 (by decide)) <| m_at_cons (m_s_aload_n dX1_guessedRight_14 rfl) <| m_at_cons (m_s_iload_n dX1_guessedRight_15 rfl) <| m_at_cons (m_s_cob (T := TX1) (N := 3) (y := yX1_guessAt) rfl rfl (by decide) (Or.inl wd_71) wd_72 wd_73 wd_42 wd_74 (by decide +kernel) dX1_guessedRight_16) <| m_at_cons (m_s_aload_n dX1_guessedRight_19 rfl) <| m_at_cons (m_s_iload_n dX1_guessedRight_20 rfl) <| m_at_cons (m_s_cob (T := TX1) (N := 3) (y := yX1_cardAt) rfl rfl (by decide) (Or.inl wd_47) wd_48 wd_49 wd_42 wd_50 (by decide +kernel) dX1_guessedRight_21) <| m_at_cons (m_s_icmp_ne dX1_guessedRight_24 (by decide)) <| m_at_cons (m_s_iinc dX1_guessedRight_27 (by decide)) <| m_at_cons (m_s_iinc dX1_guessedRight_30 (by decide)) <| m_at_cons (m_s_goto dX1_guessedRight_33 (by decide)) <| m_at_cons (m_s_iload_n dX1_guessedRight_36 rfl) <| m_at_cons (m_s_iret rfl dX1_guessedRight_37) <| m_at_nil
set_option maxRecDepth 100000 in
theorem sX1_sumOfChances : ∀ pc o, m_at tX1_sumOfChances pc = some o → m_Snd D cA ra B ro m_M cX1_sumOfChances 5 (some .float) RX1 "sumOfChances" pc o :=
  m_at_cons (m_s_aload_n dX1_sumOfChances_0 rfl) <| m_at_cons (m_s_cob (T := TX1) (N := 3) (y := yX1_left) rfl rfl (by decide) (Or.inl wd_39) wd_40 wd_41 wd_42 wd_43 (by decide +kernel) dX1_sumOfChances_1) <| m_at_cons (m_s_istore_n dX1_sumOfChances_4 rfl) <| m_at_cons (m_s_fconst0 dX1_sumOfChances_5) <| m_at_cons (m_s_fstore_n dX1_sumOfChances_6 rfl) <| m_at_cons (m_s_iconst dX1_sumOfChances_7 (by decide)) <| m_at_cons (m_s_istore_n dX1_sumOfChances_8 rfl) <| m_at_cons (m_s_iload_n dX1_sumOfChances_9 rfl) <| m_at_cons (m_s_iload_n dX1_sumOfChances_10 rfl) <| m_at_cons (m_s_icmp_ge dX1_sumOfChances_11 (by decide)) <| m_at_cons (m_s_aload_n dX1_sumOfChances_14 rfl) <| m_at_cons (m_s_iload_n dX1_sumOfChances_15 rfl) <| m_at_cons (m_s_cob (T := TX1) (N := 3) (y := yX1_canBeAt) rfl rfl (by decide) (Or.inl wd_67) wd_68 wd_69 wd_42 wd_70 (by decide +kernel) dX1_sumOfChances_16) <| m_at_cons (m_s_istore dX1_sumOfChances_19) <| m_at_cons (m_s_iload dX1_sumOfChances_21) <| m_at_cons (m_s_if_le dX1_sumOfChances_23 (by decide)) <| m_at_cons (m_s_fload_n dX1_sumOfChances_26 rfl) <| m_at_cons (m_s_fconst1 dX1_sumOfChances_27) <| m_at_cons (m_s_iload dX1_sumOfChances_28) <| m_at_cons (m_s_i2f dX1_sumOfChances_30) <| m_at_cons (m_s_fdiv dX1_sumOfChances_31) <| m_at_cons (m_s_fadd dX1_sumOfChances_32) <| m_at_cons (m_s_fstore_n dX1_sumOfChances_33 rfl) <| m_at_cons (m_s_iinc dX1_sumOfChances_34 (by decide)) <| m_at_cons (m_s_goto dX1_sumOfChances_37 (by decide)) <| m_at_cons (m_s_fload_n dX1_sumOfChances_40 rfl) <| m_at_cons (m_s_fret rfl dX1_sumOfChances_41) <| m_at_nil
set_option maxRecDepth 100000 in
theorem sX2_init : ∀ pc o, m_at tX2_init pc = some o → m_Snd D cA ra B ro m_M cX2_init 7 none RX2 "<init>" pc o :=
  m_at_cons (m_s_aload_n dX2_init_0 rfl) <| m_at_cons (m_s_init0 wd_75 wd_1 wd_2 dX2_init_1) <| m_at_cons (m_s_aload_n dX2_init_4 rfl) <| m_at_cons (m_s_bipush dX2_init_5 (by decide)) <| m_at_cons (m_s_nar (f := .int) rfl (fun _ => rfl) rfl (by decide) (fun _ _ _ g1 g2 => Option.some.inj (g1.symm.trans g2)) wd_26 dX2_init_7) <| m_at_cons (m_s_putF (C := RX2) (T := TX2) (N := 3) rfl (by decide) uw_2 tyX2_ok nmX2 rfl rfl rfl rfl rfl (m_ft1a _) wd_76 dX2_init_9) <| m_at_cons (m_s_aload_n dX2_init_12 rfl) <| m_at_cons (m_s_bipush dX2_init_13 (by decide)) <| m_at_cons (m_s_nar (f := .int) rfl (fun _ => rfl) rfl (by decide) (fun _ _ _ g1 g2 => Option.some.inj (g1.symm.trans g2)) wd_26 dX2_init_15) <| m_at_cons (m_s_putF (C := RX2) (T := TX2) (N := 3) rfl (by decide) uw_2 tyX2_ok nmX2 rfl rfl rfl rfl rfl (m_ft1a _) wd_77 dX2_init_17) <| m_at_cons (m_s_aload_n dX2_init_20 rfl) <| m_at_cons (m_s_bipush dX2_init_21 (by decide)) <| m_at_cons (m_s_nar (f := .int) rfl (fun _ => rfl) rfl (by decide) (fun _ _ _ g1 g2 => Option.some.inj (g1.symm.trans g2)) wd_26 dX2_init_23) <| m_at_cons (m_s_putF (C := RX2) (T := TX2) (N := 3) rfl (by decide) uw_2 tyX2_ok nmX2 rfl rfl rfl rfl rfl (m_ft1a _) wd_78 dX2_init_25) <| m_at_cons (m_s_iconst dX2_init_28 (by decide)) <| m_at_cons (m_s_istore dX2_init_29) <| m_at_cons (m_s_iload dX2_init_31) <| m_at_cons (m_s_bipush dX2_init_33 (by decide)) <| m_at_cons (m_s_icmp_ge dX2_init_35 (by decide)) <| m_at_cons (m_s_aload_n dX2_init_38 rfl) <| m_at_cons (m_s_iload dX2_init_39) <| m_at_cons (m_s_cst (y := yX5_at) rfl (by decide) (Or.inr ⟨_, wn_79⟩) wd_45 wd_32 wd_46 (by decide +kernel) dX2_init_41) <| m_at_cons (m_s_istore dX2_init_44) <| m_at_cons (m_s_aload_n dX2_init_46 rfl) <| m_at_cons (m_s_get (C := RX2) (T := TX2) (N := 3) rfl (by decide) uw_2 rfl wd_76 dX2_init_47) <| m_at_cons (m_s_iload dX2_init_50) <| m_at_cons (m_s_iload dX2_init_52) <| m_at_cons (m_s_iast dX2_init_54) <| m_at_cons (m_s_iload dX2_init_55) <| m_at_cons (m_s_cst (y := yX5_isCard) rfl (by decide) (Or.inr ⟨_, wn_80⟩) wd_81 wd_32 wd_82 (by decide +kernel) dX2_init_57) <| m_at_cons (m_s_if_eq dX2_init_60 (by decide)) <| m_at_cons (m_s_aload_n dX2_init_63 rfl) <| m_at_cons (m_s_get (C := RX2) (T := TX2) (N := 3) rfl (by decide) uw_2 rfl wd_78 dX2_init_64) <| m_at_cons (m_s_iload dX2_init_67) <| m_at_cons (m_s_aload_n dX2_init_69 rfl) <| m_at_cons (m_s_iload dX2_init_70) <| m_at_cons (m_s_cst (y := yX5_at) rfl (by decide) (Or.inr ⟨_, wn_79⟩) wd_45 wd_32 wd_46 (by decide +kernel) dX2_init_72) <| m_at_cons (m_s_iast dX2_init_75) <| m_at_cons (m_s_aload_n dX2_init_76 rfl) <| m_at_cons (m_s_get (C := RX2) (T := TX2) (N := 3) rfl (by decide) uw_2 rfl wd_77 dX2_init_77) <| m_at_cons (m_s_iload dX2_init_80) <| m_at_cons (m_s_aload_n dX2_init_82 rfl) <| m_at_cons (m_s_iload dX2_init_83) <| m_at_cons (m_s_if_eq dX2_init_85 (by decide)) <| m_at_cons (m_s_bipush dX2_init_88 (by decide)) <| m_at_cons (m_s_iload dX2_init_90) <| m_at_cons (m_s_isub dX2_init_92) <| m_at_cons (m_s_goto dX2_init_93 (by decide)) <| m_at_cons (m_s_iload dX2_init_96) <| m_at_cons (m_s_cst (y := yX5_at) rfl (by decide) (Or.inr ⟨_, wn_79⟩) wd_45 wd_32 wd_46 (by decide +kernel) dX2_init_98) <| m_at_cons (m_s_iast dX2_init_101) <| m_at_cons (m_s_iinc dX2_init_102 (by decide)) <| m_at_cons (m_s_goto dX2_init_105 (by decide)) <| m_at_cons (m_s_vret rfl dX2_init_108) <| m_at_nil
set_option maxRecDepth 100000 in
theorem sX2_cardCutTo : ∀ pc o, m_at tX2_cardCutTo pc = some o → m_Snd D cA ra B ro m_M cX2_cardCutTo 3 (some .int) RX2 "cardCutTo" pc o :=
  m_at_cons (m_s_aload_n dX2_cardCutTo_0 rfl) <| m_at_cons (m_s_get (C := RX2) (T := TX2) (N := 3) rfl (by decide) uw_2 rfl wd_76 dX2_cardCutTo_1) <| m_at_cons (m_s_iload_n dX2_cardCutTo_4 rfl) <| m_at_cons (m_s_iload_n dX2_cardCutTo_5 rfl) <| m_at_cons (m_s_cst (y := yX5_cellAt) rfl (by decide) (Or.inr ⟨_, wn_83⟩) wd_84 wd_32 wd_85 (by decide +kernel) dX2_cardCutTo_6) <| m_at_cons (m_s_cst (y := yX5_at) rfl (by decide) (Or.inr ⟨_, wn_79⟩) wd_45 wd_32 wd_46 (by decide +kernel) dX2_cardCutTo_9) <| m_at_cons (m_s_iret rfl dX2_cardCutTo_12) <| m_at_nil
set_option maxRecDepth 100000 in
theorem sX2_cardsAtHome : ∀ pc o, m_at tX2_cardsAtHome pc = some o → m_Snd D cA ra B ro m_M cX2_cardsAtHome 4 (some .int) RX2 "cardsAtHome" pc o :=
  m_at_cons (m_s_iconst dX2_cardsAtHome_0 (by decide)) <| m_at_cons (m_s_istore_n dX2_cardsAtHome_1 rfl) <| m_at_cons (m_s_iconst dX2_cardsAtHome_2 (by decide)) <| m_at_cons (m_s_istore_n dX2_cardsAtHome_3 rfl) <| m_at_cons (m_s_iload_n dX2_cardsAtHome_4 rfl) <| m_at_cons (m_s_bipush dX2_cardsAtHome_5 (by decide)) <| m_at_cons (m_s_icmp_ge dX2_cardsAtHome_7 (by decide)) <| m_at_cons (m_s_aload_n dX2_cardsAtHome_10 rfl) <| m_at_cons (m_s_iload_n dX2_cardsAtHome_11 rfl) <| m_at_cons (m_s_iload_n dX2_cardsAtHome_12 rfl) <| m_at_cons (m_s_cob (T := TX2) (N := 3) (y := yX2_cardCutTo) rfl rfl (by decide) (Or.inl wd_86) wd_35 wd_36 wd_37 wd_38 (by decide +kernel) dX2_cardsAtHome_13) <| m_at_cons (m_s_iload_n dX2_cardsAtHome_16 rfl) <| m_at_cons (m_s_icmp_ne dX2_cardsAtHome_17 (by decide)) <| m_at_cons (m_s_iinc dX2_cardsAtHome_20 (by decide)) <| m_at_cons (m_s_iinc dX2_cardsAtHome_23 (by decide)) <| m_at_cons (m_s_goto dX2_cardsAtHome_26 (by decide)) <| m_at_cons (m_s_iload_n dX2_cardsAtHome_29 rfl) <| m_at_cons (m_s_iret rfl dX2_cardsAtHome_30) <| m_at_nil
set_option maxRecDepth 100000 in
theorem sX3_init_0 : ∀ pc o, m_at tX3_init_0 pc = some o → m_Snd D cA ra B ro m_M cX3_init 2 none RX3 "<init>" pc o :=
  m_at_cons (m_s_aload_n dX3_init_0 rfl) <| m_at_cons (m_s_init0 wd_87 wd_1 wd_2 dX3_init_1) <| m_at_cons (m_s_aload_n dX3_init_4 rfl) <| m_at_cons (m_s_bipush dX3_init_5 (by decide)) <| m_at_cons (m_s_nar (f := .int) rfl (fun _ => rfl) rfl (by decide) (fun _ _ _ g1 g2 => Option.some.inj (g1.symm.trans g2)) wd_26 dX3_init_7) <| m_at_cons (m_s_putF (C := RX3) (T := TX3) (N := 11) rfl (by decide) uw_3 tyX3_ok nmX3 rfl rfl rfl rfl rfl (m_ft1a _) wd_88 dX3_init_9) <| m_at_cons (m_s_aload_n dX3_init_12 rfl) <| m_at_cons (m_s_bipush dX3_init_13 (by decide)) <| m_at_cons (m_s_nar (f := .int) rfl (fun _ => rfl) rfl (by decide) (fun _ _ _ g1 g2 => Option.some.inj (g1.symm.trans g2)) wd_26 dX3_init_15) <| m_at_cons (m_s_putF (C := RX3) (T := TX3) (N := 11) rfl (by decide) uw_3 tyX3_ok nmX3 rfl rfl rfl rfl rfl (m_ft1a _) wd_89 dX3_init_17) <| m_at_cons (m_s_aload_n dX3_init_20 rfl) <| m_at_cons (m_s_bipush dX3_init_21 (by decide)) <| m_at_cons (m_s_nar (f := .int) rfl (fun _ => rfl) rfl (by decide) (fun _ _ _ g1 g2 => Option.some.inj (g1.symm.trans g2)) wd_26 dX3_init_23) <| m_at_cons (m_s_putF (C := RX3) (T := TX3) (N := 11) rfl (by decide) uw_3 tyX3_ok nmX3 rfl rfl rfl rfl rfl (m_ft1a _) wd_90 dX3_init_25) <| m_at_cons (m_s_aload_n dX3_init_28 rfl) <| m_at_cons (m_s_iconst dX3_init_29 (by decide)) <| m_at_cons (m_s_nar (f := .int) rfl (fun _ => rfl) rfl (by decide) (fun _ _ _ g1 g2 => Option.some.inj (g1.symm.trans g2)) wd_26 dX3_init_30) <| m_at_cons (m_s_putF (C := RX3) (T := TX3) (N := 11) rfl (by decide) uw_3 tyX3_ok nmX3 rfl rfl rfl rfl rfl (m_ft1a _) wd_91 dX3_init_32) <| m_at_cons (m_s_aload_n dX3_init_35 rfl) <| m_at_cons (m_s_bipush dX3_init_36 (by decide)) <| m_at_cons (m_s_anar (C := RX2) (fun _ => rfl) (Or.inl rfl) wd_92 dX3_init_38) <| m_at_cons (m_s_putF (C := RX3) (T := TX3) (N := 11) rfl (by decide) uw_3 tyX3_ok nmX3 rfl rfl rfl rfl rfl (m_ft1a _) wd_93 dX3_init_41) <| m_at_cons (m_s_aload_n dX3_init_44 rfl) <| m_at_cons (m_s_new (C := RX1) (T := TX1) (N := 3) rfl uw_1 tyX1_ok (by decide) rfl (fun _ _ => rfl) wd_94 wd_95 wd_42 dX3_init_45) <| m_at_cons (m_s_dup dX3_init_48) <| m_at_cons (m_s_cin (T := TX1) (N := 3) (y := yX1_init) rfl rfl (by decide) rfl (Or.inr ⟨_, wn_96⟩) wd_97 wd_42 wd_98 (by decide +kernel) dX3_init_49) <| m_at_cons (m_s_putF (C := RX3) (T := TX3) (N := 11) rfl (by decide) uw_3 tyX3_ok nmX3 rfl rfl rfl rfl rfl (m_ft1o _) wd_99 dX3_init_52) <| m_at_cons (m_s_aload_n dX3_init_55 rfl) <| m_at_cons (m_s_iconst dX3_init_56 (by decide)) <| m_at_cons (m_s_put (C := RX3) (T := TX3) (N := 11) rfl (by decide) uw_3 tyX3_ok nmX3 rfl rfl rfl m_ft0 wd_100 dX3_init_57) <| m_at_cons (m_s_aload_n dX3_init_60 rfl) <| m_at_cons (m_s_iconst dX3_init_61 (by decide)) <| m_at_cons (m_s_put (C := RX3) (T := TX3) (N := 11) rfl (by decide) uw_3 tyX3_ok nmX3 rfl rfl rfl m_ft0 wd_101 dX3_init_62) <| m_at_cons (m_s_aload_n dX3_init_65 rfl) <| m_at_cons (m_s_iconst dX3_init_66 (by decide)) <| m_at_cons (m_s_put (C := RX3) (T := TX3) (N := 11) rfl (by decide) uw_3 tyX3_ok nmX3 rfl rfl rfl m_ft0 wd_102 dX3_init_67) <| m_at_cons (m_s_aload_n dX3_init_70 rfl) <| m_at_cons (m_s_iconst dX3_init_71 (by decide)) <| m_at_cons (m_s_put (C := RX3) (T := TX3) (N := 11) rfl (by decide) uw_3 tyX3_ok nmX3 rfl rfl rfl m_ft0 wd_103 dX3_init_72) <| m_at_cons (m_s_aload_n dX3_init_75 rfl) <| m_at_cons (m_s_iconst dX3_init_76 (by decide)) <| m_at_cons (m_s_put (C := RX3) (T := TX3) (N := 11) rfl (by decide) uw_3 tyX3_ok nmX3 rfl rfl rfl m_ft0 wd_104 dX3_init_77) <| m_at_cons (m_s_iconst dX3_init_80 (by decide)) <| m_at_cons (m_s_istore_n dX3_init_81 rfl) <| m_at_cons (m_s_iload_n dX3_init_82 rfl) <| m_at_cons (m_s_bipush dX3_init_83 (by decide)) <| m_at_cons (m_s_icmp_ge dX3_init_85 (by decide)) <| m_at_cons (m_s_aload_n dX3_init_88 rfl) <| m_at_cons (m_s_get (C := RX3) (T := TX3) (N := 11) rfl (by decide) uw_3 rfl wd_88 dX3_init_89) <| m_at_cons (m_s_iload_n dX3_init_92 rfl) <| m_at_cons (m_s_iload_n dX3_init_93 rfl) <| m_at_cons (m_s_iast dX3_init_94) <| m_at_cons (m_s_iinc dX3_init_95 (by decide)) <| m_at_cons (m_s_goto dX3_init_98 (by decide)) <| m_at_cons (m_s_iconst dX3_init_101 (by decide)) <| m_at_cons (m_s_istore_n dX3_init_102 rfl) <| m_at_cons (m_s_iload_n dX3_init_103 rfl) <| m_at_cons (m_s_iconst dX3_init_104 (by decide)) <| m_at_cons (m_s_icmp_ge dX3_init_105 (by decide)) <| m_at_cons (m_s_aload_n dX3_init_108 rfl) <| m_at_nil
set_option maxRecDepth 100000 in
theorem sX3_init_1 : ∀ pc o, m_at tX3_init_1 pc = some o → m_Snd D cA ra B ro m_M cX3_init 2 none RX3 "<init>" pc o :=
  m_at_cons (m_s_get (C := RX3) (T := TX3) (N := 11) rfl (by decide) uw_3 rfl wd_91 dX3_init_109) <| m_at_cons (m_s_iload_n dX3_init_112 rfl) <| m_at_cons (m_s_getsN wn_105 dX3_init_113) <| m_at_cons (m_s_iload_n dX3_init_116 rfl) <| m_at_cons (m_s_cst (y := yX5_at) rfl (by decide) (Or.inr ⟨_, wn_106⟩) wd_45 wd_32 wd_46 (by decide +kernel) dX3_init_117) <| m_at_cons (m_s_iast dX3_init_120) <| m_at_cons (m_s_iinc dX3_init_121 (by decide)) <| m_at_cons (m_s_goto dX3_init_124 (by decide)) <| m_at_cons (m_s_vret rfl dX3_init_127) <| m_at_nil
set_option maxRecDepth 100000 in
theorem sX3_init : ∀ pc o, m_at tX3_init pc = some o → m_Snd D cA ra B ro m_M cX3_init 2 none RX3 "<init>" pc o := m_at_app sX3_init_0 (sX3_init_1)
set_option maxRecDepth 100000 in
theorem sX3_copyFrom_0 : ∀ pc o, m_at tX3_copyFrom_0 pc = some o → m_Snd D cA ra B ro m_M cX3_copyFrom 3 none RX3 "copyFrom" pc o :=
  m_at_cons (m_s_aload_n dX3_copyFrom_0 rfl) <| m_at_cons (m_s_ifnonnull dX3_copyFrom_1 (by decide)) <| m_at_cons (m_s_vret rfl dX3_copyFrom_4) <| m_at_cons (m_s_aload_n dX3_copyFrom_5 rfl) <| m_at_cons (m_s_get (C := RX3) (T := TX3) (N := 11) rfl (by decide) uw_3 rfl wd_88 dX3_copyFrom_6) <| m_at_cons (m_s_aload_n dX3_copyFrom_9 rfl) <| m_at_cons (m_s_get (C := RX3) (T := TX3) (N := 11) rfl (by decide) uw_3 rfl wd_88 dX3_copyFrom_10) <| m_at_cons (m_s_cst (y := yX5_copyRow) rfl (by decide) (Or.inr ⟨_, wn_107⟩) wd_31 wd_32 wd_33 (by decide +kernel) dX3_copyFrom_13) <| m_at_cons (m_s_aload_n dX3_copyFrom_16 rfl) <| m_at_cons (m_s_get (C := RX3) (T := TX3) (N := 11) rfl (by decide) uw_3 rfl wd_89 dX3_copyFrom_17) <| m_at_cons (m_s_aload_n dX3_copyFrom_20 rfl) <| m_at_cons (m_s_get (C := RX3) (T := TX3) (N := 11) rfl (by decide) uw_3 rfl wd_89 dX3_copyFrom_21) <| m_at_cons (m_s_cst (y := yX5_copyRow) rfl (by decide) (Or.inr ⟨_, wn_107⟩) wd_31 wd_32 wd_33 (by decide +kernel) dX3_copyFrom_24) <| m_at_cons (m_s_aload_n dX3_copyFrom_27 rfl) <| m_at_cons (m_s_get (C := RX3) (T := TX3) (N := 11) rfl (by decide) uw_3 rfl wd_90 dX3_copyFrom_28) <| m_at_cons (m_s_aload_n dX3_copyFrom_31 rfl) <| m_at_cons (m_s_get (C := RX3) (T := TX3) (N := 11) rfl (by decide) uw_3 rfl wd_90 dX3_copyFrom_32) <| m_at_cons (m_s_cst (y := yX5_copyRow) rfl (by decide) (Or.inr ⟨_, wn_107⟩) wd_31 wd_32 wd_33 (by decide +kernel) dX3_copyFrom_35) <| m_at_cons (m_s_aload_n dX3_copyFrom_38 rfl) <| m_at_cons (m_s_get (C := RX3) (T := TX3) (N := 11) rfl (by decide) uw_3 rfl wd_91 dX3_copyFrom_39) <| m_at_cons (m_s_aload_n dX3_copyFrom_42 rfl) <| m_at_cons (m_s_get (C := RX3) (T := TX3) (N := 11) rfl (by decide) uw_3 rfl wd_91 dX3_copyFrom_43) <| m_at_cons (m_s_cst (y := yX5_copyRow) rfl (by decide) (Or.inr ⟨_, wn_107⟩) wd_31 wd_32 wd_33 (by decide +kernel) dX3_copyFrom_46) <| m_at_cons (m_s_iconst dX3_copyFrom_49 (by decide)) <| m_at_cons (m_s_istore_n dX3_copyFrom_50 rfl) <| m_at_cons (m_s_iload_n dX3_copyFrom_51 rfl) <| m_at_cons (m_s_bipush dX3_copyFrom_52 (by decide)) <| m_at_cons (m_s_icmp_ge dX3_copyFrom_54 (by decide)) <| m_at_cons (m_s_aload_n dX3_copyFrom_57 rfl) <| m_at_cons (m_s_get (C := RX3) (T := TX3) (N := 11) rfl (by decide) uw_3 rfl wd_93 dX3_copyFrom_58) <| m_at_cons (m_s_iload_n dX3_copyFrom_61 rfl) <| m_at_cons (m_s_aload_n dX3_copyFrom_62 rfl) <| m_at_cons (m_s_get (C := RX3) (T := TX3) (N := 11) rfl (by decide) uw_3 rfl wd_93 dX3_copyFrom_63) <| m_at_cons (m_s_iload_n dX3_copyFrom_66 rfl) <| m_at_cons (m_s_ald dX3_copyFrom_67) <| m_at_cons (m_s_ast dX3_copyFrom_68 rfl (fun _ => rfl)) <| m_at_cons (m_s_iinc dX3_copyFrom_69 (by decide)) <| m_at_cons (m_s_goto dX3_copyFrom_72 (by decide)) <| m_at_cons (m_s_aload_n dX3_copyFrom_75 rfl) <| m_at_cons (m_s_get (C := RX3) (T := TX3) (N := 11) rfl (by decide) uw_3 rfl wd_99 dX3_copyFrom_76) <| m_at_cons (m_s_aload_n dX3_copyFrom_79 rfl) <| m_at_cons (m_s_get (C := RX3) (T := TX3) (N := 11) rfl (by decide) uw_3 rfl wd_99 dX3_copyFrom_80) <| m_at_cons (m_s_cob (T := TX1) (N := 3) (y := yX1_copyFrom) rfl rfl (by decide) (Or.inl wd_108) wd_109 wd_110 wd_42 wd_111 (by decide +kernel) dX3_copyFrom_83) <| m_at_cons (m_s_aload_n dX3_copyFrom_86 rfl) <| m_at_cons (m_s_aload_n dX3_copyFrom_87 rfl) <| m_at_cons (m_s_get (C := RX3) (T := TX3) (N := 11) rfl (by decide) uw_3 rfl wd_100 dX3_copyFrom_88) <| m_at_cons (m_s_put (C := RX3) (T := TX3) (N := 11) rfl (by decide) uw_3 tyX3_ok nmX3 rfl rfl rfl m_ft0 wd_100 dX3_copyFrom_91) <| m_at_cons (m_s_aload_n dX3_copyFrom_94 rfl) <| m_at_cons (m_s_aload_n dX3_copyFrom_95 rfl) <| m_at_cons (m_s_get (C := RX3) (T := TX3) (N := 11) rfl (by decide) uw_3 rfl wd_101 dX3_copyFrom_96) <| m_at_cons (m_s_put (C := RX3) (T := TX3) (N := 11) rfl (by decide) uw_3 tyX3_ok nmX3 rfl rfl rfl m_ft0 wd_101 dX3_copyFrom_99) <| m_at_cons (m_s_aload_n dX3_copyFrom_102 rfl) <| m_at_cons (m_s_aload_n dX3_copyFrom_103 rfl) <| m_at_cons (m_s_get (C := RX3) (T := TX3) (N := 11) rfl (by decide) uw_3 rfl wd_102 dX3_copyFrom_104) <| m_at_cons (m_s_put (C := RX3) (T := TX3) (N := 11) rfl (by decide) uw_3 tyX3_ok nmX3 rfl rfl rfl m_ft0 wd_102 dX3_copyFrom_107) <| m_at_cons (m_s_aload_n dX3_copyFrom_110 rfl) <| m_at_cons (m_s_aload_n dX3_copyFrom_111 rfl) <| m_at_cons (m_s_get (C := RX3) (T := TX3) (N := 11) rfl (by decide) uw_3 rfl wd_103 dX3_copyFrom_112) <| m_at_cons (m_s_put (C := RX3) (T := TX3) (N := 11) rfl (by decide) uw_3 tyX3_ok nmX3 rfl rfl rfl m_ft0 wd_103 dX3_copyFrom_115) <| m_at_cons (m_s_aload_n dX3_copyFrom_118 rfl) <| m_at_nil
set_option maxRecDepth 100000 in
theorem sX3_copyFrom_1 : ∀ pc o, m_at tX3_copyFrom_1 pc = some o → m_Snd D cA ra B ro m_M cX3_copyFrom 3 none RX3 "copyFrom" pc o :=
  m_at_cons (m_s_aload_n dX3_copyFrom_119 rfl) <| m_at_cons (m_s_get (C := RX3) (T := TX3) (N := 11) rfl (by decide) uw_3 rfl wd_104 dX3_copyFrom_120) <| m_at_cons (m_s_put (C := RX3) (T := TX3) (N := 11) rfl (by decide) uw_3 tyX3_ok nmX3 rfl rfl rfl m_ft0 wd_104 dX3_copyFrom_123) <| m_at_cons (m_s_vret rfl dX3_copyFrom_126) <| m_at_nil
set_option maxRecDepth 100000 in
theorem sX3_copyFrom : ∀ pc o, m_at tX3_copyFrom pc = some o → m_Snd D cA ra B ro m_M cX3_copyFrom 3 none RX3 "copyFrom" pc o := m_at_app sX3_copyFrom_0 (sX3_copyFrom_1)
set_option maxRecDepth 100000 in
theorem sX3_exchange : ∀ pc o, m_at tX3_exchange pc = some o → m_Snd D cA ra B ro m_M cX3_exchange 4 none RX3 "exchange" pc o :=
  m_at_cons (m_s_aload_n dX3_exchange_0 rfl) <| m_at_cons (m_s_get (C := RX3) (T := TX3) (N := 11) rfl (by decide) uw_3 rfl wd_88 dX3_exchange_1) <| m_at_cons (m_s_iload_n dX3_exchange_4 rfl) <| m_at_cons (m_s_cst (y := yX5_at) rfl (by decide) (Or.inr ⟨_, wn_106⟩) wd_45 wd_32 wd_46 (by decide +kernel) dX3_exchange_5) <| m_at_cons (m_s_istore_n dX3_exchange_8 rfl) <| m_at_cons (m_s_aload_n dX3_exchange_9 rfl) <| m_at_cons (m_s_get (C := RX3) (T := TX3) (N := 11) rfl (by decide) uw_3 rfl wd_88 dX3_exchange_10) <| m_at_cons (m_s_iload_n dX3_exchange_13 rfl) <| m_at_cons (m_s_aload_n dX3_exchange_14 rfl) <| m_at_cons (m_s_get (C := RX3) (T := TX3) (N := 11) rfl (by decide) uw_3 rfl wd_88 dX3_exchange_15) <| m_at_cons (m_s_iload_n dX3_exchange_18 rfl) <| m_at_cons (m_s_cst (y := yX5_at) rfl (by decide) (Or.inr ⟨_, wn_106⟩) wd_45 wd_32 wd_46 (by decide +kernel) dX3_exchange_19) <| m_at_cons (m_s_cst (y := yX5_put) rfl (by decide) (Or.inr ⟨_, wn_112⟩) wd_52 wd_32 wd_53 (by decide +kernel) dX3_exchange_22) <| m_at_cons (m_s_aload_n dX3_exchange_25 rfl) <| m_at_cons (m_s_get (C := RX3) (T := TX3) (N := 11) rfl (by decide) uw_3 rfl wd_88 dX3_exchange_26) <| m_at_cons (m_s_iload_n dX3_exchange_29 rfl) <| m_at_cons (m_s_iload_n dX3_exchange_30 rfl) <| m_at_cons (m_s_cst (y := yX5_put) rfl (by decide) (Or.inr ⟨_, wn_112⟩) wd_52 wd_32 wd_53 (by decide +kernel) dX3_exchange_31) <| m_at_cons (m_s_vret rfl dX3_exchange_34) <| m_at_nil
set_option maxRecDepth 100000 in
theorem sX3_cellOf : ∀ pc o, m_at tX3_cellOf pc = some o → m_Snd D cA ra B ro m_M cX3_cellOf 3 (some .int) RX3 "cellOf" pc o :=
  m_at_cons (m_s_iconst dX3_cellOf_0 (by decide)) <| m_at_cons (m_s_istore_n dX3_cellOf_1 rfl) <| m_at_cons (m_s_iload_n dX3_cellOf_2 rfl) <| m_at_cons (m_s_bipush dX3_cellOf_3 (by decide)) <| m_at_cons (m_s_icmp_ge dX3_cellOf_5 (by decide)) <| m_at_cons (m_s_aload_n dX3_cellOf_8 rfl) <| m_at_cons (m_s_get (C := RX3) (T := TX3) (N := 11) rfl (by decide) uw_3 rfl wd_88 dX3_cellOf_9) <| m_at_cons (m_s_iload_n dX3_cellOf_12 rfl) <| m_at_cons (m_s_ild (Or.inl ⟨rfl, dX3_cellOf_13⟩)) <| m_at_cons (m_s_iload_n dX3_cellOf_14 rfl) <| m_at_cons (m_s_icmp_ne dX3_cellOf_15 (by decide)) <| m_at_cons (m_s_iload_n dX3_cellOf_18 rfl) <| m_at_cons (m_s_iret rfl dX3_cellOf_19) <| m_at_cons (m_s_iinc dX3_cellOf_20 (by decide)) <| m_at_cons (m_s_goto dX3_cellOf_23 (by decide)) <| m_at_cons (m_s_bipush dX3_cellOf_26 (by decide)) <| m_at_cons (m_s_iret rfl dX3_cellOf_28) <| m_at_nil
set_option maxRecDepth 100000 in
theorem sX3_hasMark : ∀ pc o, m_at tX3_hasMark pc = some o → m_Snd D cA ra B ro m_M cX3_hasMark 3 (some .boolean) RX3 "hasMark" pc o :=
  m_at_cons (m_s_aload_n dX3_hasMark_0 rfl) <| m_at_cons (m_s_get (C := RX3) (T := TX3) (N := 11) rfl (by decide) uw_3 rfl wd_90 dX3_hasMark_1) <| m_at_cons (m_s_iload_n dX3_hasMark_4 rfl) <| m_at_cons (m_s_cst (y := yX5_at) rfl (by decide) (Or.inr ⟨_, wn_106⟩) wd_45 wd_32 wd_46 (by decide +kernel) dX3_hasMark_5) <| m_at_cons (m_s_iload_n dX3_hasMark_8 rfl) <| m_at_cons (m_s_ishr dX3_hasMark_9) <| m_at_cons (m_s_iconst dX3_hasMark_10 (by decide)) <| m_at_cons (m_s_iand dX3_hasMark_11) <| m_at_cons (m_s_iconst dX3_hasMark_12 (by decide)) <| m_at_cons (m_s_icmp_ne dX3_hasMark_13 (by decide)) <| m_at_cons (m_s_iconst dX3_hasMark_16 (by decide)) <| m_at_cons (m_s_goto dX3_hasMark_17 (by decide)) <| m_at_cons (m_s_iconst dX3_hasMark_20 (by decide)) <| m_at_cons (m_s_zret (ty := .boolean) rfl m_nz dX3_hasMark_21) <| m_at_nil
set_option maxRecDepth 100000 in
theorem sX3_setMark : ∀ pc o, m_at tX3_setMark pc = some o → m_Snd D cA ra B ro m_M cX3_setMark 5 none RX3 "setMark" pc o :=
  m_at_cons (m_s_aload_n dX3_setMark_0 rfl) <| m_at_cons (m_s_get (C := RX3) (T := TX3) (N := 11) rfl (by decide) uw_3 rfl wd_90 dX3_setMark_1) <| m_at_cons (m_s_iload_n dX3_setMark_4 rfl) <| m_at_cons (m_s_cst (y := yX5_at) rfl (by decide) (Or.inr ⟨_, wn_106⟩) wd_45 wd_32 wd_46 (by decide +kernel) dX3_setMark_5) <| m_at_cons (m_s_iconst dX3_setMark_8 (by decide)) <| m_at_cons (m_s_iload_n dX3_setMark_9 rfl) <| m_at_cons (m_s_ishl dX3_setMark_10) <| m_at_cons (m_s_iconst dX3_setMark_11 (by decide)) <| m_at_cons (m_s_ixor dX3_setMark_12) <| m_at_cons (m_s_iand dX3_setMark_13) <| m_at_cons (m_s_istore dX3_setMark_14) <| m_at_cons (m_s_aload_n dX3_setMark_16 rfl) <| m_at_cons (m_s_get (C := RX3) (T := TX3) (N := 11) rfl (by decide) uw_3 rfl wd_90 dX3_setMark_17) <| m_at_cons (m_s_iload_n dX3_setMark_20 rfl) <| m_at_cons (m_s_iload_n dX3_setMark_21 rfl) <| m_at_cons (m_s_if_eq dX3_setMark_22 (by decide)) <| m_at_cons (m_s_iload dX3_setMark_25) <| m_at_cons (m_s_iconst dX3_setMark_27 (by decide)) <| m_at_cons (m_s_iload_n dX3_setMark_28 rfl) <| m_at_cons (m_s_ishl dX3_setMark_29) <| m_at_cons (m_s_ior dX3_setMark_30) <| m_at_cons (m_s_goto dX3_setMark_31 (by decide)) <| m_at_cons (m_s_iload dX3_setMark_34) <| m_at_cons (m_s_cst (y := yX5_put) rfl (by decide) (Or.inr ⟨_, wn_112⟩) wd_52 wd_32 wd_53 (by decide +kernel) dX3_setMark_36) <| m_at_cons (m_s_vret rfl dX3_setMark_39) <| m_at_nil
set_option maxRecDepth 100000 in
theorem sX3_marksOnBacks : ∀ pc o, m_at tX3_marksOnBacks pc = some o → m_Snd D cA ra B ro m_M cX3_marksOnBacks 3 (some .int) RX3 "marksOnBacks" pc o :=
  m_at_cons (m_s_iconst dX3_marksOnBacks_0 (by decide)) <| m_at_cons (m_s_istore_n dX3_marksOnBacks_1 rfl) <| m_at_cons (m_s_iconst dX3_marksOnBacks_2 (by decide)) <| m_at_cons (m_s_istore_n dX3_marksOnBacks_3 rfl) <| m_at_cons (m_s_iload_n dX3_marksOnBacks_4 rfl) <| m_at_cons (m_s_bipush dX3_marksOnBacks_5 (by decide)) <| m_at_cons (m_s_icmp_ge dX3_marksOnBacks_7 (by decide)) <| m_at_cons (m_s_iload_n dX3_marksOnBacks_10 rfl) <| m_at_cons (m_s_aload_n dX3_marksOnBacks_11 rfl) <| m_at_cons (m_s_get (C := RX3) (T := TX3) (N := 11) rfl (by decide) uw_3 rfl wd_90 dX3_marksOnBacks_12) <| m_at_cons (m_s_iload_n dX3_marksOnBacks_15 rfl) <| m_at_cons (m_s_ild (Or.inl ⟨rfl, dX3_marksOnBacks_16⟩)) <| m_at_cons (m_s_cst (y := yJ6_bitCount_0f7a4) rfl (by decide) (Or.inl wd_113) wd_114 wd_115 wd_116 (by decide +kernel) dX3_marksOnBacks_17) <| m_at_cons (m_s_iadd dX3_marksOnBacks_20) <| m_at_cons (m_s_istore_n dX3_marksOnBacks_21 rfl) <| m_at_cons (m_s_iinc dX3_marksOnBacks_22 (by decide)) <| m_at_cons (m_s_goto dX3_marksOnBacks_25 (by decide)) <| m_at_cons (m_s_iload_n dX3_marksOnBacks_28 rfl) <| m_at_cons (m_s_iret rfl dX3_marksOnBacks_29) <| m_at_nil
set_option maxRecDepth 100000 in
theorem sX3_sheetAt : ∀ pc o, m_at tX3_sheetAt pc = some o → m_Snd D cA ra B ro m_M cX3_sheetAt 2 (some (.object "CardSheets$Sheet")) RX3 "sheetAt" pc o :=
  m_at_cons (m_s_iload_n dX3_sheetAt_0 rfl) <| m_at_cons (m_s_if_lt dX3_sheetAt_1 (by decide)) <| m_at_cons (m_s_iload_n dX3_sheetAt_4 rfl) <| m_at_cons (m_s_aload_n dX3_sheetAt_5 rfl) <| m_at_cons (m_s_get (C := RX3) (T := TX3) (N := 11) rfl (by decide) uw_3 rfl wd_100 dX3_sheetAt_6) <| m_at_cons (m_s_icmp_ge dX3_sheetAt_9 (by decide)) <| m_at_cons (m_s_aload_n dX3_sheetAt_12 rfl) <| m_at_cons (m_s_get (C := RX3) (T := TX3) (N := 11) rfl (by decide) uw_3 rfl wd_100 dX3_sheetAt_13) <| m_at_cons (m_s_bipush dX3_sheetAt_16 (by decide)) <| m_at_cons (m_s_icmp_le dX3_sheetAt_18 (by decide)) <| m_at_cons (m_s_null dX3_sheetAt_21) <| m_at_cons (m_s_aret rfl dX3_sheetAt_22) <| m_at_cons (m_s_aload_n dX3_sheetAt_23 rfl) <| m_at_cons (m_s_get (C := RX3) (T := TX3) (N := 11) rfl (by decide) uw_3 rfl wd_93 dX3_sheetAt_24) <| m_at_cons (m_s_aload_n dX3_sheetAt_27 rfl) <| m_at_cons (m_s_get (C := RX3) (T := TX3) (N := 11) rfl (by decide) uw_3 rfl wd_100 dX3_sheetAt_28) <| m_at_cons (m_s_iconst dX3_sheetAt_31 (by decide)) <| m_at_cons (m_s_isub dX3_sheetAt_32) <| m_at_cons (m_s_iload_n dX3_sheetAt_33 rfl) <| m_at_cons (m_s_isub dX3_sheetAt_34) <| m_at_cons (m_s_ald dX3_sheetAt_35) <| m_at_cons (m_s_aret rfl dX3_sheetAt_36) <| m_at_nil
set_option maxRecDepth 100000 in
theorem sX3_printSheet : ∀ pc o, m_at tX3_printSheet pc = some o → m_Snd D cA ra B ro m_M cX3_printSheet 2 none RX3 "printSheet" pc o :=
  m_at_cons (m_s_aload_n dX3_printSheet_0 rfl) <| m_at_cons (m_s_get (C := RX3) (T := TX3) (N := 11) rfl (by decide) uw_3 rfl wd_100 dX3_printSheet_1) <| m_at_cons (m_s_if_lt dX3_printSheet_4 (by decide)) <| m_at_cons (m_s_aload_n dX3_printSheet_7 rfl) <| m_at_cons (m_s_get (C := RX3) (T := TX3) (N := 11) rfl (by decide) uw_3 rfl wd_100 dX3_printSheet_8) <| m_at_cons (m_s_bipush dX3_printSheet_11 (by decide)) <| m_at_cons (m_s_icmp_lt dX3_printSheet_13 (by decide)) <| m_at_cons (m_s_vret rfl dX3_printSheet_16) <| m_at_cons (m_s_aload_n dX3_printSheet_17 rfl) <| m_at_cons (m_s_get (C := RX3) (T := TX3) (N := 11) rfl (by decide) uw_3 rfl wd_93 dX3_printSheet_18) <| m_at_cons (m_s_aload_n dX3_printSheet_21 rfl) <| m_at_cons (m_s_get (C := RX3) (T := TX3) (N := 11) rfl (by decide) uw_3 rfl wd_100 dX3_printSheet_22) <| m_at_cons (m_s_new (C := RX2) (T := TX2) (N := 3) rfl uw_2 tyX2_ok (by decide) rfl (fun _ _ => rfl) wd_92 wd_117 wd_37 dX3_printSheet_25) <| m_at_cons (m_s_dup dX3_printSheet_28) <| m_at_cons (m_s_aload_n dX3_printSheet_29 rfl) <| m_at_cons (m_s_get (C := RX3) (T := TX3) (N := 11) rfl (by decide) uw_3 rfl wd_88 dX3_printSheet_30) <| m_at_cons (m_s_aload_n dX3_printSheet_33 rfl) <| m_at_cons (m_s_get (C := RX3) (T := TX3) (N := 11) rfl (by decide) uw_3 rfl wd_89 dX3_printSheet_34) <| m_at_cons (m_s_aload_n dX3_printSheet_37 rfl) <| m_at_cons (m_s_get (C := RX3) (T := TX3) (N := 11) rfl (by decide) uw_3 rfl wd_90 dX3_printSheet_38) <| m_at_cons (m_s_iload_n dX3_printSheet_41 rfl) <| m_at_cons (m_s_cin (T := TX2) (N := 3) (y := yX2_init) rfl rfl (by decide) rfl (Or.inl wd_118) wd_119 wd_37 wd_120 (by decide +kernel) dX3_printSheet_42) <| m_at_cons (m_s_ast dX3_printSheet_45 rfl (fun _ => rfl)) <| m_at_cons (m_s_aload_n dX3_printSheet_46 rfl) <| m_at_cons (m_s_dup dX3_printSheet_47) <| m_at_cons (m_s_get (C := RX3) (T := TX3) (N := 11) rfl (by decide) uw_3 rfl wd_100 dX3_printSheet_48) <| m_at_cons (m_s_iconst dX3_printSheet_51 (by decide)) <| m_at_cons (m_s_iadd dX3_printSheet_52) <| m_at_cons (m_s_put (C := RX3) (T := TX3) (N := 11) rfl (by decide) uw_3 tyX3_ok nmX3 rfl rfl rfl m_ft0 wd_100 dX3_printSheet_53) <| m_at_cons (m_s_aload_n dX3_printSheet_56 rfl) <| m_at_cons (m_s_dup dX3_printSheet_57) <| m_at_cons (m_s_get (C := RX3) (T := TX3) (N := 11) rfl (by decide) uw_3 rfl wd_101 dX3_printSheet_58) <| m_at_cons (m_s_iconst dX3_printSheet_61 (by decide)) <| m_at_cons (m_s_iadd dX3_printSheet_62) <| m_at_cons (m_s_put (C := RX3) (T := TX3) (N := 11) rfl (by decide) uw_3 tyX3_ok nmX3 rfl rfl rfl m_ft0 wd_101 dX3_printSheet_63) <| m_at_cons (m_s_aload_n dX3_printSheet_66 rfl) <| m_at_cons (m_s_cob (T := TX3) (N := 11) (y := yX3_wear) rfl rfl (by decide) (Or.inl wd_121) wd_122 wd_123 wd_8 wd_124 (by decide +kernel) dX3_printSheet_67) <| m_at_cons (m_s_vret rfl dX3_printSheet_70) <| m_at_nil
set_option maxRecDepth 100000 in
theorem sX3_wear : ∀ pc o, m_at tX3_wear pc = some o → m_Snd D cA ra B ro m_M cX3_wear 2 none RX3 "wear" pc o :=
  m_at_cons (m_s_aload_n dX3_wear_0 rfl) <| m_at_cons (m_s_get (C := RX3) (T := TX3) (N := 11) rfl (by decide) uw_3 rfl wd_91 dX3_wear_1) <| m_at_cons (m_s_iconst dX3_wear_4 (by decide)) <| m_at_cons (m_s_cst (y := yX5_at) rfl (by decide) (Or.inr ⟨_, wn_106⟩) wd_45 wd_32 wd_46 (by decide +kernel) dX3_wear_5) <| m_at_cons (m_s_istore_n dX3_wear_8 rfl) <| m_at_cons (m_s_iload_n dX3_wear_9 rfl) <| m_at_cons (m_s_if_le dX3_wear_10 (by decide)) <| m_at_cons (m_s_aload_n dX3_wear_13 rfl) <| m_at_cons (m_s_get (C := RX3) (T := TX3) (N := 11) rfl (by decide) uw_3 rfl wd_101 dX3_wear_14) <| m_at_cons (m_s_iload_n dX3_wear_17 rfl) <| m_at_cons (m_s_irem dX3_wear_18) <| m_at_cons (m_s_if_ne dX3_wear_19 (by decide)) <| m_at_cons (m_s_aload_n dX3_wear_22 rfl) <| m_at_cons (m_s_aload_n dX3_wear_23 rfl) <| m_at_cons (m_s_get (C := RX3) (T := TX3) (N := 11) rfl (by decide) uw_3 rfl wd_101 dX3_wear_24) <| m_at_cons (m_s_bipush dX3_wear_27 (by decide)) <| m_at_cons (m_s_irem dX3_wear_29) <| m_at_cons (m_s_aload_n dX3_wear_30 rfl) <| m_at_cons (m_s_get (C := RX3) (T := TX3) (N := 11) rfl (by decide) uw_3 rfl wd_101 dX3_wear_31) <| m_at_cons (m_s_iload_n dX3_wear_34 rfl) <| m_at_cons (m_s_idiv dX3_wear_35) <| m_at_cons (m_s_iconst dX3_wear_36 (by decide)) <| m_at_cons (m_s_irem dX3_wear_37) <| m_at_cons (m_s_iconst dX3_wear_38 (by decide)) <| m_at_cons (m_s_cob (T := TX3) (N := 11) (y := yX3_setMark) rfl rfl (by decide) (Or.inl wd_125) wd_126 wd_127 wd_8 wd_128 (by decide +kernel) dX3_wear_39) <| m_at_cons (m_s_vret rfl dX3_wear_42) <| m_at_nil
set_option maxRecDepth 100000 in
theorem sX3_takeTopSheet : ∀ pc o, m_at tX3_takeTopSheet pc = some o → m_Snd D cA ra B ro m_M cX3_takeTopSheet 2 (some (.object "CardSheets$Sheet")) RX3 "takeTopSheet" pc o :=
  m_at_cons (m_s_aload_n dX3_takeTopSheet_0 rfl) <| m_at_cons (m_s_iconst dX3_takeTopSheet_1 (by decide)) <| m_at_cons (m_s_cob (T := TX3) (N := 11) (y := yX3_sheetAt) rfl rfl (by decide) (Or.inl wd_129) wd_130 wd_131 wd_8 wd_132 (by decide +kernel) dX3_takeTopSheet_2) <| m_at_cons (m_s_astore_n dX3_takeTopSheet_5 rfl) <| m_at_cons (m_s_aload_n dX3_takeTopSheet_6 rfl) <| m_at_cons (m_s_ifnull dX3_takeTopSheet_7 (by decide)) <| m_at_cons (m_s_aload_n dX3_takeTopSheet_10 rfl) <| m_at_cons (m_s_dup dX3_takeTopSheet_11) <| m_at_cons (m_s_get (C := RX3) (T := TX3) (N := 11) rfl (by decide) uw_3 rfl wd_100 dX3_takeTopSheet_12) <| m_at_cons (m_s_iconst dX3_takeTopSheet_15 (by decide)) <| m_at_cons (m_s_isub dX3_takeTopSheet_16) <| m_at_cons (m_s_put (C := RX3) (T := TX3) (N := 11) rfl (by decide) uw_3 tyX3_ok nmX3 rfl rfl rfl m_ft0 wd_100 dX3_takeTopSheet_17) <| m_at_cons (m_s_aload_n dX3_takeTopSheet_20 rfl) <| m_at_cons (m_s_get (C := RX3) (T := TX3) (N := 11) rfl (by decide) uw_3 rfl wd_93 dX3_takeTopSheet_21) <| m_at_cons (m_s_aload_n dX3_takeTopSheet_24 rfl) <| m_at_cons (m_s_get (C := RX3) (T := TX3) (N := 11) rfl (by decide) uw_3 rfl wd_100 dX3_takeTopSheet_25) <| m_at_cons (m_s_null dX3_takeTopSheet_28) <| m_at_cons (m_s_ast dX3_takeTopSheet_29 rfl (fun _ => rfl)) <| m_at_cons (m_s_aload_n dX3_takeTopSheet_30 rfl) <| m_at_cons (m_s_aret rfl dX3_takeTopSheet_31) <| m_at_nil
set_option maxRecDepth 100000 in
theorem sX3_reasonAgainstSale : ∀ pc o, m_at tX3_reasonAgainstSale pc = some o → m_Snd D cA ra B ro m_M cX3_reasonAgainstSale 2 (some .int) RX3 "reasonAgainstSale" pc o :=
  m_at_cons (m_s_aload_n dX3_reasonAgainstSale_0 rfl) <| m_at_cons (m_s_get (C := RX3) (T := TX3) (N := 11) rfl (by decide) uw_3 rfl wd_99 dX3_reasonAgainstSale_1) <| m_at_cons (m_s_get (C := RX1) (T := TX1) (N := 3) rfl (by decide) uw_1 rfl wd_133 dX3_reasonAgainstSale_4) <| m_at_cons (m_s_astore_n dX3_reasonAgainstSale_7 rfl) <| m_at_cons (m_s_aload_n dX3_reasonAgainstSale_8 rfl) <| m_at_cons (m_s_get (C := RX3) (T := TX3) (N := 11) rfl (by decide) uw_3 rfl wd_99 dX3_reasonAgainstSale_9) <| m_at_cons (m_s_get (C := RX1) (T := TX1) (N := 3) rfl (by decide) uw_1 rfl wd_134 dX3_reasonAgainstSale_12) <| m_at_cons (m_s_if_le dX3_reasonAgainstSale_15 (by decide)) <| m_at_cons (m_s_iconst dX3_reasonAgainstSale_18 (by decide)) <| m_at_cons (m_s_iret rfl dX3_reasonAgainstSale_19) <| m_at_cons (m_s_aload_n dX3_reasonAgainstSale_20 rfl) <| m_at_cons (m_s_ifnull dX3_reasonAgainstSale_21 (by decide)) <| m_at_cons (m_s_aload_n dX3_reasonAgainstSale_24 rfl) <| m_at_cons (m_s_get (C := RX2) (T := TX2) (N := 3) rfl (by decide) uw_2 rfl wd_135 dX3_reasonAgainstSale_25) <| m_at_cons (m_s_aload_n dX3_reasonAgainstSale_28 rfl) <| m_at_cons (m_s_get (C := RX3) (T := TX3) (N := 11) rfl (by decide) uw_3 rfl wd_91 dX3_reasonAgainstSale_29) <| m_at_cons (m_s_iconst dX3_reasonAgainstSale_32 (by decide)) <| m_at_cons (m_s_cst (y := yX5_at) rfl (by decide) (Or.inr ⟨_, wn_106⟩) wd_45 wd_32 wd_46 (by decide +kernel) dX3_reasonAgainstSale_33) <| m_at_cons (m_s_cst (y := yX5_courtsBeyond) rfl (by decide) (Or.inr ⟨_, wn_136⟩) wd_137 wd_32 wd_138 (by decide +kernel) dX3_reasonAgainstSale_36) <| m_at_cons (m_s_if_le dX3_reasonAgainstSale_39 (by decide)) <| m_at_cons (m_s_iconst dX3_reasonAgainstSale_42 (by decide)) <| m_at_cons (m_s_iret rfl dX3_reasonAgainstSale_43) <| m_at_cons (m_s_aload_n dX3_reasonAgainstSale_44 rfl) <| m_at_cons (m_s_get (C := RX3) (T := TX3) (N := 11) rfl (by decide) uw_3 rfl wd_99 dX3_reasonAgainstSale_45) <| m_at_cons (m_s_cob (T := TX1) (N := 3) (y := yX1_known) rfl rfl (by decide) (Or.inl wd_139) wd_140 wd_141 wd_42 wd_142 (by decide +kernel) dX3_reasonAgainstSale_48) <| m_at_cons (m_s_aload_n dX3_reasonAgainstSale_51 rfl) <| m_at_cons (m_s_get (C := RX3) (T := TX3) (N := 11) rfl (by decide) uw_3 rfl wd_91 dX3_reasonAgainstSale_52) <| m_at_cons (m_s_iconst dX3_reasonAgainstSale_55 (by decide)) <| m_at_cons (m_s_cst (y := yX5_at) rfl (by decide) (Or.inr ⟨_, wn_106⟩) wd_45 wd_32 wd_46 (by decide +kernel) dX3_reasonAgainstSale_56) <| m_at_cons (m_s_icmp_le dX3_reasonAgainstSale_59 (by decide)) <| m_at_cons (m_s_iconst dX3_reasonAgainstSale_62 (by decide)) <| m_at_cons (m_s_goto dX3_reasonAgainstSale_63 (by decide)) <| m_at_cons (m_s_iconst dX3_reasonAgainstSale_66 (by decide)) <| m_at_cons (m_s_iret rfl dX3_reasonAgainstSale_67) <| m_at_nil
set_option maxRecDepth 100000 in
theorem sX3_knownIfPrinted : ∀ pc o, m_at tX3_knownIfPrinted pc = some o → m_Snd D cA ra B ro m_M cX3_knownIfPrinted 8 (some .int) RX3 "knownIfPrinted" pc o :=
  m_at_cons (m_s_iconst dX3_knownIfPrinted_0 (by decide)) <| m_at_cons (m_s_istore_n dX3_knownIfPrinted_1 rfl) <| m_at_cons (m_s_iconst dX3_knownIfPrinted_2 (by decide)) <| m_at_cons (m_s_istore dX3_knownIfPrinted_3) <| m_at_cons (m_s_iconst dX3_knownIfPrinted_5 (by decide)) <| m_at_cons (m_s_istore dX3_knownIfPrinted_6) <| m_at_cons (m_s_iload dX3_knownIfPrinted_8) <| m_at_cons (m_s_bipush dX3_knownIfPrinted_10 (by decide)) <| m_at_cons (m_s_icmp_ge dX3_knownIfPrinted_12 (by decide)) <| m_at_cons (m_s_iload_n dX3_knownIfPrinted_15 rfl) <| m_at_cons (m_s_if_eq dX3_knownIfPrinted_16 (by decide)) <| m_at_cons (m_s_bipush dX3_knownIfPrinted_19 (by decide)) <| m_at_cons (m_s_iload dX3_knownIfPrinted_21) <| m_at_cons (m_s_isub dX3_knownIfPrinted_23) <| m_at_cons (m_s_goto dX3_knownIfPrinted_24 (by decide)) <| m_at_cons (m_s_iload dX3_knownIfPrinted_27) <| m_at_cons (m_s_istore dX3_knownIfPrinted_29) <| m_at_cons (m_s_iload dX3_knownIfPrinted_31) <| m_at_cons (m_s_iload_n dX3_knownIfPrinted_33 rfl) <| m_at_cons (m_s_icmp_ne dX3_knownIfPrinted_34 (by decide)) <| m_at_cons (m_s_iconst dX3_knownIfPrinted_37 (by decide)) <| m_at_cons (m_s_goto dX3_knownIfPrinted_38 (by decide)) <| m_at_cons (m_s_aload_n dX3_knownIfPrinted_41 rfl) <| m_at_cons (m_s_get (C := RX3) (T := TX3) (N := 11) rfl (by decide) uw_3 rfl wd_90 dX3_knownIfPrinted_42) <| m_at_cons (m_s_iload dX3_knownIfPrinted_45) <| m_at_cons (m_s_cst (y := yX5_at) rfl (by decide) (Or.inr ⟨_, wn_106⟩) wd_45 wd_32 wd_46 (by decide +kernel) dX3_knownIfPrinted_47) <| m_at_cons (m_s_istore dX3_knownIfPrinted_50) <| m_at_cons (m_s_iload dX3_knownIfPrinted_52) <| m_at_cons (m_s_iload_n dX3_knownIfPrinted_54 rfl) <| m_at_cons (m_s_iconst dX3_knownIfPrinted_55 (by decide)) <| m_at_cons (m_s_iload dX3_knownIfPrinted_56) <| m_at_cons (m_s_ishl dX3_knownIfPrinted_58) <| m_at_cons (m_s_iand dX3_knownIfPrinted_59) <| m_at_cons (m_s_ior dX3_knownIfPrinted_60) <| m_at_cons (m_s_istore dX3_knownIfPrinted_61) <| m_at_cons (m_s_iload_n dX3_knownIfPrinted_63 rfl) <| m_at_cons (m_s_iconst dX3_knownIfPrinted_64 (by decide)) <| m_at_cons (m_s_iload dX3_knownIfPrinted_65) <| m_at_cons (m_s_ishl dX3_knownIfPrinted_67) <| m_at_cons (m_s_ior dX3_knownIfPrinted_68) <| m_at_cons (m_s_istore_n dX3_knownIfPrinted_69 rfl) <| m_at_cons (m_s_iinc dX3_knownIfPrinted_70 (by decide)) <| m_at_cons (m_s_goto dX3_knownIfPrinted_73 (by decide)) <| m_at_cons (m_s_iload_n dX3_knownIfPrinted_76 rfl) <| m_at_cons (m_s_iload dX3_knownIfPrinted_77) <| m_at_cons (m_s_iconst dX3_knownIfPrinted_79 (by decide)) <| m_at_cons (m_s_ixor dX3_knownIfPrinted_80) <| m_at_cons (m_s_iand dX3_knownIfPrinted_81) <| m_at_cons (m_s_cst (y := yJ6_bitCount_0f7a4) rfl (by decide) (Or.inl wd_113) wd_114 wd_115 wd_116 (by decide +kernel) dX3_knownIfPrinted_82) <| m_at_cons (m_s_iret rfl dX3_knownIfPrinted_85) <| m_at_nil
set_option maxRecDepth 100000 in
theorem sX4_init : ∀ pc o, m_at tX4_init pc = some o → m_Snd D cA ra B ro m_M cX4_init 1 none RX4 "<init>" pc o :=
  m_at_cons (m_s_aload_n dX4_init_0 rfl) <| m_at_cons (m_s_init0 wd_143 wd_1 wd_2 dX4_init_1) <| m_at_cons (m_s_aload_n dX4_init_4 rfl) <| m_at_cons (m_s_bipush dX4_init_5 (by decide)) <| m_at_cons (m_s_nar (f := .char) rfl (fun _ => rfl) rfl (by decide) (fun _ _ _ g1 g2 => Option.some.inj (g1.symm.trans g2)) wd_144 dX4_init_7) <| m_at_cons (m_s_putF (C := RX4) (T := TX4) (N := 7) rfl (by decide) uw_4 tyX4_ok nmX4 rfl rfl rfl rfl rfl (m_ft1a _) wd_145 dX4_init_9) <| m_at_cons (m_s_aload_n dX4_init_12 rfl) <| m_at_cons (m_s_iconst dX4_init_13 (by decide)) <| m_at_cons (m_s_put (C := RX4) (T := TX4) (N := 7) rfl (by decide) uw_4 tyX4_ok nmX4 rfl rfl rfl m_ft0 wd_146 dX4_init_14) <| m_at_cons (m_s_aload_n dX4_init_17 rfl) <| m_at_cons (m_s_iconst dX4_init_18 (by decide)) <| m_at_cons (m_s_put (C := RX4) (T := TX4) (N := 7) rfl (by decide) uw_4 tyX4_ok nmX4 rfl rfl rfl m_ft0 wd_147 dX4_init_19) <| m_at_cons (m_s_aload_n dX4_init_22 rfl) <| m_at_cons (m_s_bipush dX4_init_23 (by decide)) <| m_at_cons (m_s_nar (f := .char) rfl (fun _ => rfl) rfl (by decide) (fun _ _ _ g1 g2 => Option.some.inj (g1.symm.trans g2)) wd_144 dX4_init_25) <| m_at_cons (m_s_putF (C := RX4) (T := TX4) (N := 7) rfl (by decide) uw_4 tyX4_ok nmX4 rfl rfl rfl rfl rfl (m_ft1a _) wd_148 dX4_init_27) <| m_at_cons (m_s_aload_n dX4_init_30 rfl) <| m_at_cons (m_s_bipush dX4_init_31 (by decide)) <| m_at_cons (m_s_nar (f := .int) rfl (fun _ => rfl) rfl (by decide) (fun _ _ _ g1 g2 => Option.some.inj (g1.symm.trans g2)) wd_26 dX4_init_33) <| m_at_cons (m_s_putF (C := RX4) (T := TX4) (N := 7) rfl (by decide) uw_4 tyX4_ok nmX4 rfl rfl rfl rfl rfl (m_ft1a _) wd_149 dX4_init_35) <| m_at_cons (m_s_aload_n dX4_init_38 rfl) <| m_at_cons (m_s_bipush dX4_init_39 (by decide)) <| m_at_cons (m_s_nar (f := .int) rfl (fun _ => rfl) rfl (by decide) (fun _ _ _ g1 g2 => Option.some.inj (g1.symm.trans g2)) wd_26 dX4_init_41) <| m_at_cons (m_s_putF (C := RX4) (T := TX4) (N := 7) rfl (by decide) uw_4 tyX4_ok nmX4 rfl rfl rfl rfl rfl (m_ft1a _) wd_150 dX4_init_43) <| m_at_cons (m_s_aload_n dX4_init_46 rfl) <| m_at_cons (m_s_iconst dX4_init_47 (by decide)) <| m_at_cons (m_s_put (C := RX4) (T := TX4) (N := 7) rfl (by decide) uw_4 tyX4_ok nmX4 rfl rfl rfl m_ft0 wd_151 dX4_init_48) <| m_at_cons (m_s_vret rfl dX4_init_51) <| m_at_nil
set_option maxRecDepth 100000 in
theorem sX5_init : ∀ pc o, m_at tX5_init pc = some o → m_Snd D cA ra B ro m_M cX5_init 1 none RX5 "<init>" pc o :=
  m_at_cons (m_s_aload_n dX5_init_0 rfl) <| m_at_cons (m_s_init0 wd_152 wd_1 wd_2 dX5_init_1) <| m_at_cons (m_s_aload_n dX5_init_4 rfl) <| m_at_cons (m_s_new (C := RX3) (T := TX3) (N := 11) rfl uw_3 tyX3_ok (by decide) rfl (fun _ _ => rfl) wd_153 wd_7 wd_8 dX5_init_5) <| m_at_cons (m_s_dup dX5_init_8) <| m_at_cons (m_s_cin (T := TX3) (N := 11) (y := yX3_init) rfl rfl (by decide) rfl (Or.inl wd_154) wd_10 wd_8 wd_11 (by decide +kernel) dX5_init_9) <| m_at_cons (m_s_putF (C := RX5) (T := TX5) (N := 6) rfl (by decide) uw_5 tyX5_ok nmX5 rfl rfl rfl rfl rfl (m_ft1o _) wd_155 dX5_init_12) <| m_at_cons (m_s_aload_n dX5_init_15 rfl) <| m_at_cons (m_s_new (C := RX3) (T := TX3) (N := 11) rfl uw_3 tyX3_ok (by decide) rfl (fun _ _ => rfl) wd_153 wd_7 wd_8 dX5_init_16) <| m_at_cons (m_s_dup dX5_init_19) <| m_at_cons (m_s_cin (T := TX3) (N := 11) (y := yX3_init) rfl rfl (by decide) rfl (Or.inl wd_154) wd_10 wd_8 wd_11 (by decide +kernel) dX5_init_20) <| m_at_cons (m_s_putF (C := RX5) (T := TX5) (N := 6) rfl (by decide) uw_5 tyX5_ok nmX5 rfl rfl rfl rfl rfl (m_ft1o _) wd_156 dX5_init_23) <| m_at_cons (m_s_aload_n dX5_init_26 rfl) <| m_at_cons (m_s_new (C := RX0) (T := TX0) (N := 3) rfl uw_0 tyX0_ok (by decide) rfl (fun _ _ => rfl) wd_157 wd_158 wd_15 dX5_init_27) <| m_at_cons (m_s_dup dX5_init_30) <| m_at_cons (m_s_cin (T := TX0) (N := 3) (y := yX0_init) rfl rfl (by decide) rfl (Or.inl wd_159) wd_160 wd_15 wd_161 (by decide +kernel) dX5_init_31) <| m_at_cons (m_s_putF (C := RX5) (T := TX5) (N := 6) rfl (by decide) uw_5 tyX5_ok nmX5 rfl rfl rfl rfl rfl (m_ft1o _) wd_162 dX5_init_34) <| m_at_cons (m_s_aload_n dX5_init_37 rfl) <| m_at_cons (m_s_new (C := RX4) (T := TX4) (N := 7) rfl uw_4 tyX4_ok (by decide) rfl (fun _ _ => rfl) wd_163 wd_164 wd_165 dX5_init_38) <| m_at_cons (m_s_dup dX5_init_41) <| m_at_cons (m_s_cin (T := TX4) (N := 7) (y := yX4_init) rfl rfl (by decide) rfl (Or.inr ⟨_, wn_166⟩) wd_167 wd_165 wd_168 (by decide +kernel) dX5_init_42) <| m_at_cons (m_s_putF (C := RX5) (T := TX5) (N := 6) rfl (by decide) uw_5 tyX5_ok nmX5 rfl rfl rfl rfl rfl (m_ft1o _) wd_169 dX5_init_45) <| m_at_cons (m_s_aload_n dX5_init_48 rfl) <| m_at_cons (m_s_bipush dX5_init_49 (by decide)) <| m_at_cons (m_s_nar (f := .int) rfl (fun _ => rfl) rfl (by decide) (fun _ _ _ g1 g2 => Option.some.inj (g1.symm.trans g2)) wd_26 dX5_init_51) <| m_at_cons (m_s_putF (C := RX5) (T := TX5) (N := 6) rfl (by decide) uw_5 tyX5_ok nmX5 rfl rfl rfl rfl rfl (m_ft1a _) wd_170 dX5_init_53) <| m_at_cons (m_s_aload_n dX5_init_56 rfl) <| m_at_cons (m_s_iconst dX5_init_57 (by decide)) <| m_at_cons (m_s_put (C := RX5) (T := TX5) (N := 6) rfl (by decide) uw_5 tyX5_ok nmX5 rfl rfl rfl m_ft2 wd_171 dX5_init_58) <| m_at_cons (m_s_vret rfl dX5_init_61) <| m_at_nil
set_option maxRecDepth 100000 in
theorem sX5_swap : ∀ pc o, m_at tX5_swap pc = some o → m_Snd D cA ra B ro m_M cX5_swap 3 (some .int) RX5 "swap" pc o :=
  m_at_cons (m_s_iload_n dX5_swap_0 rfl) <| m_at_cons (m_s_cst (y := yX5_isCell) rfl (by decide) (Or.inl wd_172) wd_173 wd_32 wd_174 (by decide +kernel) dX5_swap_1) <| m_at_cons (m_s_if_eq dX5_swap_4 (by decide)) <| m_at_cons (m_s_iload_n dX5_swap_7 rfl) <| m_at_cons (m_s_cst (y := yX5_isCell) rfl (by decide) (Or.inl wd_172) wd_173 wd_32 wd_174 (by decide +kernel) dX5_swap_8) <| m_at_cons (m_s_if_ne dX5_swap_11 (by decide)) <| m_at_cons (m_s_iconst dX5_swap_14 (by decide)) <| m_at_cons (m_s_iret rfl dX5_swap_15) <| m_at_cons (m_s_iload_n dX5_swap_16 rfl) <| m_at_cons (m_s_iload_n dX5_swap_17 rfl) <| m_at_cons (m_s_icmp_ne dX5_swap_18 (by decide)) <| m_at_cons (m_s_bipush dX5_swap_21 (by decide)) <| m_at_cons (m_s_iret rfl dX5_swap_23) <| m_at_cons (m_s_aload_n dX5_swap_24 rfl) <| m_at_cons (m_s_get (C := RX5) (T := TX5) (N := 6) rfl (by decide) uw_5 rfl wd_162 dX5_swap_25) <| m_at_cons (m_s_aload_n dX5_swap_28 rfl) <| m_at_cons (m_s_get (C := RX5) (T := TX5) (N := 6) rfl (by decide) uw_5 rfl wd_155 dX5_swap_29) <| m_at_cons (m_s_cob (T := TX0) (N := 3) (y := yX0_record) rfl rfl (by decide) (Or.inl wd_175) wd_176 wd_177 wd_15 wd_178 (by decide +kernel) dX5_swap_32) <| m_at_cons (m_s_aload_n dX5_swap_35 rfl) <| m_at_cons (m_s_get (C := RX5) (T := TX5) (N := 6) rfl (by decide) uw_5 rfl wd_155 dX5_swap_36) <| m_at_cons (m_s_iload_n dX5_swap_39 rfl) <| m_at_cons (m_s_iload_n dX5_swap_40 rfl) <| m_at_cons (m_s_cob (T := TX3) (N := 11) (y := yX3_exchange) rfl rfl (by decide) (Or.inl wd_179) wd_180 wd_181 wd_8 wd_182 (by decide +kernel) dX5_swap_41) <| m_at_cons (m_s_aload_n dX5_swap_44 rfl) <| m_at_cons (m_s_get (C := RX5) (T := TX5) (N := 6) rfl (by decide) uw_5 rfl wd_155 dX5_swap_45) <| m_at_cons (m_s_get (C := RX3) (T := TX3) (N := 11) rfl (by decide) uw_3 rfl wd_183 dX5_swap_48) <| m_at_cons (m_s_iload_n dX5_swap_51 rfl) <| m_at_cons (m_s_cst (y := yX5_at) rfl (by decide) (Or.inl wd_184) wd_45 wd_32 wd_46 (by decide +kernel) dX5_swap_52) <| m_at_cons (m_s_iret rfl dX5_swap_55) <| m_at_nil
set_option maxRecDepth 100000 in
theorem sX5_mark : ∀ pc o, m_at tX5_mark pc = some o → m_Snd D cA ra B ro m_M cX5_mark 4 (some .int) RX5 "mark" pc o :=
  m_at_cons (m_s_iload_n dX5_mark_0 rfl) <| m_at_cons (m_s_cst (y := yX5_isCell) rfl (by decide) (Or.inl wd_172) wd_173 wd_32 wd_174 (by decide +kernel) dX5_mark_1) <| m_at_cons (m_s_if_eq dX5_mark_4 (by decide)) <| m_at_cons (m_s_iload_n dX5_mark_7 rfl) <| m_at_cons (m_s_cst (y := yX5_isMark) rfl (by decide) (Or.inl wd_185) wd_186 wd_32 wd_187 (by decide +kernel) dX5_mark_8) <| m_at_cons (m_s_if_ne dX5_mark_11 (by decide)) <| m_at_cons (m_s_iconst dX5_mark_14 (by decide)) <| m_at_cons (m_s_iret rfl dX5_mark_15) <| m_at_cons (m_s_aload_n dX5_mark_16 rfl) <| m_at_cons (m_s_get (C := RX5) (T := TX5) (N := 6) rfl (by decide) uw_5 rfl wd_155 dX5_mark_17) <| m_at_cons (m_s_iload_n dX5_mark_20 rfl) <| m_at_cons (m_s_iload_n dX5_mark_21 rfl) <| m_at_cons (m_s_cob (T := TX3) (N := 11) (y := yX3_hasMark) rfl rfl (by decide) (Or.inl wd_188) wd_189 wd_190 wd_8 wd_191 (by decide +kernel) dX5_mark_22) <| m_at_cons (m_s_iload_n dX5_mark_25 rfl) <| m_at_cons (m_s_icmp_ne dX5_mark_26 (by decide)) <| m_at_cons (m_s_bipush dX5_mark_29 (by decide)) <| m_at_cons (m_s_iret rfl dX5_mark_31) <| m_at_cons (m_s_aload_n dX5_mark_32 rfl) <| m_at_cons (m_s_get (C := RX5) (T := TX5) (N := 6) rfl (by decide) uw_5 rfl wd_162 dX5_mark_33) <| m_at_cons (m_s_aload_n dX5_mark_36 rfl) <| m_at_cons (m_s_get (C := RX5) (T := TX5) (N := 6) rfl (by decide) uw_5 rfl wd_155 dX5_mark_37) <| m_at_cons (m_s_cob (T := TX0) (N := 3) (y := yX0_record) rfl rfl (by decide) (Or.inl wd_175) wd_176 wd_177 wd_15 wd_178 (by decide +kernel) dX5_mark_40) <| m_at_cons (m_s_aload_n dX5_mark_43 rfl) <| m_at_cons (m_s_get (C := RX5) (T := TX5) (N := 6) rfl (by decide) uw_5 rfl wd_155 dX5_mark_44) <| m_at_cons (m_s_iload_n dX5_mark_47 rfl) <| m_at_cons (m_s_iload_n dX5_mark_48 rfl) <| m_at_cons (m_s_iload_n dX5_mark_49 rfl) <| m_at_cons (m_s_cob (T := TX3) (N := 11) (y := yX3_setMark) rfl rfl (by decide) (Or.inl wd_192) wd_126 wd_127 wd_8 wd_128 (by decide +kernel) dX5_mark_50) <| m_at_cons (m_s_aload_n dX5_mark_53 rfl) <| m_at_cons (m_s_get (C := RX5) (T := TX5) (N := 6) rfl (by decide) uw_5 rfl wd_155 dX5_mark_54) <| m_at_cons (m_s_get (C := RX3) (T := TX3) (N := 11) rfl (by decide) uw_3 rfl wd_193 dX5_mark_57) <| m_at_cons (m_s_iload_n dX5_mark_60 rfl) <| m_at_cons (m_s_cst (y := yX5_at) rfl (by decide) (Or.inl wd_184) wd_45 wd_32 wd_46 (by decide +kernel) dX5_mark_61) <| m_at_cons (m_s_iret rfl dX5_mark_64) <| m_at_nil
set_option maxRecDepth 100000 in
theorem sX5_lean : ∀ pc o, m_at tX5_lean pc = some o → m_Snd D cA ra B ro m_M cX5_lean 4 (some .int) RX5 "lean" pc o :=
  m_at_cons (m_s_iload_n dX5_lean_0 rfl) <| m_at_cons (m_s_cst (y := yX5_isCard) rfl (by decide) (Or.inl wd_194) wd_81 wd_32 wd_82 (by decide +kernel) dX5_lean_1) <| m_at_cons (m_s_if_ne dX5_lean_4 (by decide)) <| m_at_cons (m_s_iconst dX5_lean_7 (by decide)) <| m_at_cons (m_s_iret rfl dX5_lean_8) <| m_at_cons (m_s_iload_n dX5_lean_9 rfl) <| m_at_cons (m_s_bipush dX5_lean_10 (by decide)) <| m_at_cons (m_s_icmp_lt dX5_lean_12 (by decide)) <| m_at_cons (m_s_iload_n dX5_lean_15 rfl) <| m_at_cons (m_s_bipush dX5_lean_16 (by decide)) <| m_at_cons (m_s_icmp_le dX5_lean_18 (by decide)) <| m_at_cons (m_s_bipush dX5_lean_21 (by decide)) <| m_at_cons (m_s_iret rfl dX5_lean_23) <| m_at_cons (m_s_iload_n dX5_lean_24 rfl) <| m_at_cons (m_s_cst (y := yX5_isCourt) rfl (by decide) (Or.inl wd_195) wd_196 wd_32 wd_197 (by decide +kernel) dX5_lean_25) <| m_at_cons (m_s_if_ne dX5_lean_28 (by decide)) <| m_at_cons (m_s_bipush dX5_lean_31 (by decide)) <| m_at_cons (m_s_iret rfl dX5_lean_33) <| m_at_cons (m_s_aload_n dX5_lean_34 rfl) <| m_at_cons (m_s_get (C := RX5) (T := TX5) (N := 6) rfl (by decide) uw_5 rfl wd_155 dX5_lean_35) <| m_at_cons (m_s_get (C := RX3) (T := TX3) (N := 11) rfl (by decide) uw_3 rfl wd_198 dX5_lean_38) <| m_at_cons (m_s_iload_n dX5_lean_41 rfl) <| m_at_cons (m_s_cst (y := yX5_at) rfl (by decide) (Or.inl wd_184) wd_45 wd_32 wd_46 (by decide +kernel) dX5_lean_42) <| m_at_cons (m_s_istore_n dX5_lean_45 rfl) <| m_at_cons (m_s_iload_n dX5_lean_46 rfl) <| m_at_cons (m_s_iload_n dX5_lean_47 rfl) <| m_at_cons (m_s_icmp_ne dX5_lean_48 (by decide)) <| m_at_cons (m_s_bipush dX5_lean_51 (by decide)) <| m_at_cons (m_s_iret rfl dX5_lean_53) <| m_at_cons (m_s_aload_n dX5_lean_54 rfl) <| m_at_cons (m_s_get (C := RX5) (T := TX5) (N := 6) rfl (by decide) uw_5 rfl wd_162 dX5_lean_55) <| m_at_cons (m_s_aload_n dX5_lean_58 rfl) <| m_at_cons (m_s_get (C := RX5) (T := TX5) (N := 6) rfl (by decide) uw_5 rfl wd_155 dX5_lean_59) <| m_at_cons (m_s_cob (T := TX0) (N := 3) (y := yX0_record) rfl rfl (by decide) (Or.inl wd_175) wd_176 wd_177 wd_15 wd_178 (by decide +kernel) dX5_lean_62) <| m_at_cons (m_s_aload_n dX5_lean_65 rfl) <| m_at_cons (m_s_get (C := RX5) (T := TX5) (N := 6) rfl (by decide) uw_5 rfl wd_155 dX5_lean_66) <| m_at_cons (m_s_get (C := RX3) (T := TX3) (N := 11) rfl (by decide) uw_3 rfl wd_198 dX5_lean_69) <| m_at_cons (m_s_iload_n dX5_lean_72 rfl) <| m_at_cons (m_s_iload_n dX5_lean_73 rfl) <| m_at_cons (m_s_cst (y := yX5_put) rfl (by decide) (Or.inl wd_199) wd_52 wd_32 wd_53 (by decide +kernel) dX5_lean_74) <| m_at_cons (m_s_iload_n dX5_lean_77 rfl) <| m_at_cons (m_s_bipush dX5_lean_78 (by decide)) <| m_at_cons (m_s_iadd dX5_lean_80) <| m_at_cons (m_s_iret rfl dX5_lean_81) <| m_at_nil
set_option maxRecDepth 100000 in
theorem sX5_set : ∀ pc o, m_at tX5_set pc = some o → m_Snd D cA ra B ro m_M cX5_set 4 (some .int) RX5 "set" pc o :=
  m_at_cons (m_s_iload_n dX5_set_0 rfl) <| m_at_cons (m_s_if_lt dX5_set_1 (by decide)) <| m_at_cons (m_s_iload_n dX5_set_4 rfl) <| m_at_cons (m_s_iconst dX5_set_5 (by decide)) <| m_at_cons (m_s_icmp_lt dX5_set_6 (by decide)) <| m_at_cons (m_s_bipush dX5_set_9 (by decide)) <| m_at_cons (m_s_iret rfl dX5_set_11) <| m_at_cons (m_s_iload_n dX5_set_12 rfl) <| m_at_cons (m_s_gets (Or.inr (Or.inl ⟨rfl, rfl⟩)) wd_200 dX5_set_13) <| m_at_cons (m_s_iload_n dX5_set_16 rfl) <| m_at_cons (m_s_cst (y := yX5_at) rfl (by decide) (Or.inl wd_184) wd_45 wd_32 wd_46 (by decide +kernel) dX5_set_17) <| m_at_cons (m_s_icmp_lt dX5_set_20 (by decide)) <| m_at_cons (m_s_iload_n dX5_set_23 rfl) <| m_at_cons (m_s_gets (Or.inr (Or.inr ⟨rfl, rfl⟩)) wd_201 dX5_set_24) <| m_at_cons (m_s_iload_n dX5_set_27 rfl) <| m_at_cons (m_s_cst (y := yX5_at) rfl (by decide) (Or.inl wd_184) wd_45 wd_32 wd_46 (by decide +kernel) dX5_set_28) <| m_at_cons (m_s_icmp_le dX5_set_31 (by decide)) <| m_at_cons (m_s_bipush dX5_set_34 (by decide)) <| m_at_cons (m_s_iret rfl dX5_set_36) <| m_at_cons (m_s_aload_n dX5_set_37 rfl) <| m_at_cons (m_s_get (C := RX5) (T := TX5) (N := 6) rfl (by decide) uw_5 rfl wd_155 dX5_set_38) <| m_at_cons (m_s_get (C := RX3) (T := TX3) (N := 11) rfl (by decide) uw_3 rfl wd_202 dX5_set_41) <| m_at_cons (m_s_iload_n dX5_set_44 rfl) <| m_at_cons (m_s_cst (y := yX5_at) rfl (by decide) (Or.inl wd_184) wd_45 wd_32 wd_46 (by decide +kernel) dX5_set_45) <| m_at_cons (m_s_istore_n dX5_set_48 rfl) <| m_at_cons (m_s_iload_n dX5_set_49 rfl) <| m_at_cons (m_s_iload_n dX5_set_50 rfl) <| m_at_cons (m_s_icmp_ne dX5_set_51 (by decide)) <| m_at_cons (m_s_bipush dX5_set_54 (by decide)) <| m_at_cons (m_s_iret rfl dX5_set_56) <| m_at_cons (m_s_aload_n dX5_set_57 rfl) <| m_at_cons (m_s_get (C := RX5) (T := TX5) (N := 6) rfl (by decide) uw_5 rfl wd_162 dX5_set_58) <| m_at_cons (m_s_aload_n dX5_set_61 rfl) <| m_at_cons (m_s_get (C := RX5) (T := TX5) (N := 6) rfl (by decide) uw_5 rfl wd_155 dX5_set_62) <| m_at_cons (m_s_cob (T := TX0) (N := 3) (y := yX0_record) rfl rfl (by decide) (Or.inl wd_175) wd_176 wd_177 wd_15 wd_178 (by decide +kernel) dX5_set_65) <| m_at_cons (m_s_aload_n dX5_set_68 rfl) <| m_at_cons (m_s_get (C := RX5) (T := TX5) (N := 6) rfl (by decide) uw_5 rfl wd_155 dX5_set_69) <| m_at_cons (m_s_get (C := RX3) (T := TX3) (N := 11) rfl (by decide) uw_3 rfl wd_202 dX5_set_72) <| m_at_cons (m_s_iload_n dX5_set_75 rfl) <| m_at_cons (m_s_iload_n dX5_set_76 rfl) <| m_at_cons (m_s_cst (y := yX5_put) rfl (by decide) (Or.inl wd_199) wd_52 wd_32 wd_53 (by decide +kernel) dX5_set_77) <| m_at_cons (m_s_iload_n dX5_set_80 rfl) <| m_at_cons (m_s_iret rfl dX5_set_81) <| m_at_nil
set_option maxRecDepth 100000 in
theorem sX5_print : ∀ pc o, m_at tX5_print pc = some o → m_Snd D cA ra B ro m_M cX5_print 2 (some .int) RX5 "print" pc o :=
  m_at_cons (m_s_aload_n dX5_print_0 rfl) <| m_at_cons (m_s_get (C := RX5) (T := TX5) (N := 6) rfl (by decide) uw_5 rfl wd_155 dX5_print_1) <| m_at_cons (m_s_get (C := RX3) (T := TX3) (N := 11) rfl (by decide) uw_3 rfl wd_203 dX5_print_4) <| m_at_cons (m_s_bipush dX5_print_7 (by decide)) <| m_at_cons (m_s_icmp_lt dX5_print_9 (by decide)) <| m_at_cons (m_s_bipush dX5_print_12 (by decide)) <| m_at_cons (m_s_iret rfl dX5_print_14) <| m_at_cons (m_s_aload_n dX5_print_15 rfl) <| m_at_cons (m_s_get (C := RX5) (T := TX5) (N := 6) rfl (by decide) uw_5 rfl wd_162 dX5_print_16) <| m_at_cons (m_s_aload_n dX5_print_19 rfl) <| m_at_cons (m_s_get (C := RX5) (T := TX5) (N := 6) rfl (by decide) uw_5 rfl wd_155 dX5_print_20) <| m_at_cons (m_s_cob (T := TX0) (N := 3) (y := yX0_record) rfl rfl (by decide) (Or.inl wd_175) wd_176 wd_177 wd_15 wd_178 (by decide +kernel) dX5_print_23) <| m_at_cons (m_s_aload_n dX5_print_26 rfl) <| m_at_cons (m_s_get (C := RX5) (T := TX5) (N := 6) rfl (by decide) uw_5 rfl wd_155 dX5_print_27) <| m_at_cons (m_s_iload_n dX5_print_30 rfl) <| m_at_cons (m_s_cob (T := TX3) (N := 11) (y := yX3_printSheet) rfl rfl (by decide) (Or.inl wd_204) wd_205 wd_206 wd_8 wd_207 (by decide +kernel) dX5_print_31) <| m_at_cons (m_s_aload_n dX5_print_34 rfl) <| m_at_cons (m_s_get (C := RX5) (T := TX5) (N := 6) rfl (by decide) uw_5 rfl wd_155 dX5_print_35) <| m_at_cons (m_s_get (C := RX3) (T := TX3) (N := 11) rfl (by decide) uw_3 rfl wd_203 dX5_print_38) <| m_at_cons (m_s_iret rfl dX5_print_41) <| m_at_nil
set_option maxRecDepth 100000 in
theorem sX5_cutSheet : ∀ pc o, m_at tX5_cutSheet pc = some o → m_Snd D cA ra B ro m_M cX5_cutSheet 2 (some .int) RX5 "cutSheet" pc o :=
  m_at_cons (m_s_iload_n dX5_cutSheet_0 rfl) <| m_at_cons (m_s_if_lt dX5_cutSheet_1 (by decide)) <| m_at_cons (m_s_iload_n dX5_cutSheet_4 rfl) <| m_at_cons (m_s_iconst dX5_cutSheet_5 (by decide)) <| m_at_cons (m_s_icmp_lt dX5_cutSheet_6 (by decide)) <| m_at_cons (m_s_bipush dX5_cutSheet_9 (by decide)) <| m_at_cons (m_s_iret rfl dX5_cutSheet_11) <| m_at_cons (m_s_aload_n dX5_cutSheet_12 rfl) <| m_at_cons (m_s_get (C := RX5) (T := TX5) (N := 6) rfl (by decide) uw_5 rfl wd_155 dX5_cutSheet_13) <| m_at_cons (m_s_get (C := RX3) (T := TX3) (N := 11) rfl (by decide) uw_3 rfl wd_208 dX5_cutSheet_16) <| m_at_cons (m_s_cob (T := TX1) (N := 3) (y := yX1_isThere) rfl rfl (by decide) (Or.inl wd_209) wd_210 wd_211 wd_42 wd_212 (by decide +kernel) dX5_cutSheet_19) <| m_at_cons (m_s_if_ne dX5_cutSheet_22 (by decide)) <| m_at_cons (m_s_aload_n dX5_cutSheet_25 rfl) <| m_at_cons (m_s_get (C := RX5) (T := TX5) (N := 6) rfl (by decide) uw_5 rfl wd_155 dX5_cutSheet_26) <| m_at_cons (m_s_iconst dX5_cutSheet_29 (by decide)) <| m_at_cons (m_s_cob (T := TX3) (N := 11) (y := yX3_sheetAt) rfl rfl (by decide) (Or.inl wd_213) wd_130 wd_131 wd_8 wd_132 (by decide +kernel) dX5_cutSheet_30) <| m_at_cons (m_s_ifnonnull dX5_cutSheet_33 (by decide)) <| m_at_cons (m_s_bipush dX5_cutSheet_36 (by decide)) <| m_at_cons (m_s_iret rfl dX5_cutSheet_38) <| m_at_cons (m_s_aload_n dX5_cutSheet_39 rfl) <| m_at_cons (m_s_get (C := RX5) (T := TX5) (N := 6) rfl (by decide) uw_5 rfl wd_162 dX5_cutSheet_40) <| m_at_cons (m_s_aload_n dX5_cutSheet_43 rfl) <| m_at_cons (m_s_get (C := RX5) (T := TX5) (N := 6) rfl (by decide) uw_5 rfl wd_155 dX5_cutSheet_44) <| m_at_cons (m_s_cob (T := TX0) (N := 3) (y := yX0_record) rfl rfl (by decide) (Or.inl wd_175) wd_176 wd_177 wd_15 wd_178 (by decide +kernel) dX5_cutSheet_47) <| m_at_cons (m_s_aload_n dX5_cutSheet_50 rfl) <| m_at_cons (m_s_get (C := RX5) (T := TX5) (N := 6) rfl (by decide) uw_5 rfl wd_155 dX5_cutSheet_51) <| m_at_cons (m_s_get (C := RX3) (T := TX3) (N := 11) rfl (by decide) uw_3 rfl wd_208 dX5_cutSheet_54) <| m_at_cons (m_s_aload_n dX5_cutSheet_57 rfl) <| m_at_cons (m_s_get (C := RX5) (T := TX5) (N := 6) rfl (by decide) uw_5 rfl wd_155 dX5_cutSheet_58) <| m_at_cons (m_s_cob (T := TX3) (N := 11) (y := yX3_takeTopSheet) rfl rfl (by decide) (Or.inl wd_214) wd_215 wd_216 wd_8 wd_217 (by decide +kernel) dX5_cutSheet_61) <| m_at_cons (m_s_iload_n dX5_cutSheet_64 rfl) <| m_at_cons (m_s_cob (T := TX1) (N := 3) (y := yX1_layDown) rfl rfl (by decide) (Or.inl wd_218) wd_219 wd_220 wd_42 wd_221 (by decide +kernel) dX5_cutSheet_65) <| m_at_cons (m_s_aload_n dX5_cutSheet_68 rfl) <| m_at_cons (m_s_get (C := RX5) (T := TX5) (N := 6) rfl (by decide) uw_5 rfl wd_155 dX5_cutSheet_69) <| m_at_cons (m_s_get (C := RX3) (T := TX3) (N := 11) rfl (by decide) uw_3 rfl wd_203 dX5_cutSheet_72) <| m_at_cons (m_s_iret rfl dX5_cutSheet_75) <| m_at_nil
set_option maxRecDepth 100000 in
theorem sX5_cutPack : ∀ pc o, m_at tX5_cutPack pc = some o → m_Snd D cA ra B ro m_M cX5_cutPack 3 (some .int) RX5 "cutPack" pc o :=
  m_at_cons (m_s_aload_n dX5_cutPack_0 rfl) <| m_at_cons (m_s_get (C := RX5) (T := TX5) (N := 6) rfl (by decide) uw_5 rfl wd_155 dX5_cutPack_1) <| m_at_cons (m_s_get (C := RX3) (T := TX3) (N := 11) rfl (by decide) uw_3 rfl wd_208 dX5_cutPack_4) <| m_at_cons (m_s_astore_n dX5_cutPack_7 rfl) <| m_at_cons (m_s_aload_n dX5_cutPack_8 rfl) <| m_at_cons (m_s_cob (T := TX1) (N := 3) (y := yX1_isThere) rfl rfl (by decide) (Or.inl wd_209) wd_210 wd_211 wd_42 wd_212 (by decide +kernel) dX5_cutPack_9) <| m_at_cons (m_s_if_ne dX5_cutPack_12 (by decide)) <| m_at_cons (m_s_bipush dX5_cutPack_15 (by decide)) <| m_at_cons (m_s_iret rfl dX5_cutPack_17) <| m_at_cons (m_s_aload_n dX5_cutPack_18 rfl) <| m_at_cons (m_s_iload_n dX5_cutPack_19 rfl) <| m_at_cons (m_s_cob (T := TX1) (N := 3) (y := yX1_hasPartsAt) rfl rfl (by decide) (Or.inl wd_222) wd_223 wd_224 wd_42 wd_225 (by decide +kernel) dX5_cutPack_20) <| m_at_cons (m_s_if_ne dX5_cutPack_23 (by decide)) <| m_at_cons (m_s_bipush dX5_cutPack_26 (by decide)) <| m_at_cons (m_s_iret rfl dX5_cutPack_28) <| m_at_cons (m_s_aload_n dX5_cutPack_29 rfl) <| m_at_cons (m_s_get (C := RX5) (T := TX5) (N := 6) rfl (by decide) uw_5 rfl wd_162 dX5_cutPack_30) <| m_at_cons (m_s_aload_n dX5_cutPack_33 rfl) <| m_at_cons (m_s_get (C := RX5) (T := TX5) (N := 6) rfl (by decide) uw_5 rfl wd_155 dX5_cutPack_34) <| m_at_cons (m_s_cob (T := TX0) (N := 3) (y := yX0_record) rfl rfl (by decide) (Or.inl wd_175) wd_176 wd_177 wd_15 wd_178 (by decide +kernel) dX5_cutPack_37) <| m_at_cons (m_s_aload_n dX5_cutPack_40 rfl) <| m_at_cons (m_s_iload_n dX5_cutPack_41 rfl) <| m_at_cons (m_s_aload_n dX5_cutPack_42 rfl) <| m_at_cons (m_s_get (C := RX5) (T := TX5) (N := 6) rfl (by decide) uw_5 rfl wd_170 dX5_cutPack_43) <| m_at_cons (m_s_cob (T := TX1) (N := 3) (y := yX1_cutAt) rfl rfl (by decide) (Or.inl wd_226) wd_227 wd_228 wd_42 wd_229 (by decide +kernel) dX5_cutPack_46) <| m_at_cons (m_s_aload_n dX5_cutPack_49 rfl) <| m_at_cons (m_s_iconst dX5_cutPack_50 (by decide)) <| m_at_cons (m_s_cob (T := TX1) (N := 3) (y := yX1_cardAt) rfl rfl (by decide) (Or.inl wd_230) wd_48 wd_49 wd_42 wd_50 (by decide +kernel) dX5_cutPack_51) <| m_at_cons (m_s_iret rfl dX5_cutPack_54) <| m_at_nil
set_option maxRecDepth 100000 in
theorem sX5_shuffle : ∀ pc o, m_at tX5_shuffle pc = some o → m_Snd D cA ra B ro m_M cX5_shuffle 3 (some .int) RX5 "shuffle" pc o :=
  m_at_cons (m_s_aload_n dX5_shuffle_0 rfl) <| m_at_cons (m_s_get (C := RX5) (T := TX5) (N := 6) rfl (by decide) uw_5 rfl wd_155 dX5_shuffle_1) <| m_at_cons (m_s_get (C := RX3) (T := TX3) (N := 11) rfl (by decide) uw_3 rfl wd_208 dX5_shuffle_4) <| m_at_cons (m_s_astore_n dX5_shuffle_7 rfl) <| m_at_cons (m_s_aload_n dX5_shuffle_8 rfl) <| m_at_cons (m_s_cob (T := TX1) (N := 3) (y := yX1_isThere) rfl rfl (by decide) (Or.inl wd_209) wd_210 wd_211 wd_42 wd_212 (by decide +kernel) dX5_shuffle_9) <| m_at_cons (m_s_if_ne dX5_shuffle_12 (by decide)) <| m_at_cons (m_s_bipush dX5_shuffle_15 (by decide)) <| m_at_cons (m_s_iret rfl dX5_shuffle_17) <| m_at_cons (m_s_aload_n dX5_shuffle_18 rfl) <| m_at_cons (m_s_iload_n dX5_shuffle_19 rfl) <| m_at_cons (m_s_cob (T := TX1) (N := 3) (y := yX1_hasPartsAt) rfl rfl (by decide) (Or.inl wd_222) wd_223 wd_224 wd_42 wd_225 (by decide +kernel) dX5_shuffle_20) <| m_at_cons (m_s_if_ne dX5_shuffle_23 (by decide)) <| m_at_cons (m_s_bipush dX5_shuffle_26 (by decide)) <| m_at_cons (m_s_iret rfl dX5_shuffle_28) <| m_at_cons (m_s_aload_n dX5_shuffle_29 rfl) <| m_at_cons (m_s_get (C := RX5) (T := TX5) (N := 6) rfl (by decide) uw_5 rfl wd_162 dX5_shuffle_30) <| m_at_cons (m_s_aload_n dX5_shuffle_33 rfl) <| m_at_cons (m_s_get (C := RX5) (T := TX5) (N := 6) rfl (by decide) uw_5 rfl wd_155 dX5_shuffle_34) <| m_at_cons (m_s_cob (T := TX0) (N := 3) (y := yX0_record) rfl rfl (by decide) (Or.inl wd_175) wd_176 wd_177 wd_15 wd_178 (by decide +kernel) dX5_shuffle_37) <| m_at_cons (m_s_aload_n dX5_shuffle_40 rfl) <| m_at_cons (m_s_iload_n dX5_shuffle_41 rfl) <| m_at_cons (m_s_aload_n dX5_shuffle_42 rfl) <| m_at_cons (m_s_get (C := RX5) (T := TX5) (N := 6) rfl (by decide) uw_5 rfl wd_170 dX5_shuffle_43) <| m_at_cons (m_s_cob (T := TX1) (N := 3) (y := yX1_shuffleAt) rfl rfl (by decide) (Or.inl wd_231) wd_232 wd_233 wd_42 wd_234 (by decide +kernel) dX5_shuffle_46) <| m_at_cons (m_s_iret rfl dX5_shuffle_49) <| m_at_nil
set_option maxRecDepth 100000 in
theorem sX5_deal : ∀ pc o, m_at tX5_deal pc = some o → m_Snd D cA ra B ro m_M cX5_deal 3 (some .int) RX5 "deal" pc o :=
  m_at_cons (m_s_aload_n dX5_deal_0 rfl) <| m_at_cons (m_s_get (C := RX5) (T := TX5) (N := 6) rfl (by decide) uw_5 rfl wd_155 dX5_deal_1) <| m_at_cons (m_s_get (C := RX3) (T := TX3) (N := 11) rfl (by decide) uw_3 rfl wd_208 dX5_deal_4) <| m_at_cons (m_s_astore_n dX5_deal_7 rfl) <| m_at_cons (m_s_aload_n dX5_deal_8 rfl) <| m_at_cons (m_s_cob (T := TX1) (N := 3) (y := yX1_isThere) rfl rfl (by decide) (Or.inl wd_209) wd_210 wd_211 wd_42 wd_212 (by decide +kernel) dX5_deal_9) <| m_at_cons (m_s_if_ne dX5_deal_12 (by decide)) <| m_at_cons (m_s_bipush dX5_deal_15 (by decide)) <| m_at_cons (m_s_iret rfl dX5_deal_17) <| m_at_cons (m_s_iload_n dX5_deal_18 rfl) <| m_at_cons (m_s_iconst dX5_deal_19 (by decide)) <| m_at_cons (m_s_icmp_lt dX5_deal_20 (by decide)) <| m_at_cons (m_s_iload_n dX5_deal_23 rfl) <| m_at_cons (m_s_aload_n dX5_deal_24 rfl) <| m_at_cons (m_s_cob (T := TX1) (N := 3) (y := yX1_left) rfl rfl (by decide) (Or.inl wd_235) wd_40 wd_41 wd_42 wd_43 (by decide +kernel) dX5_deal_25) <| m_at_cons (m_s_icmp_le dX5_deal_28 (by decide)) <| m_at_cons (m_s_bipush dX5_deal_31 (by decide)) <| m_at_cons (m_s_iret rfl dX5_deal_33) <| m_at_cons (m_s_aload_n dX5_deal_34 rfl) <| m_at_cons (m_s_get (C := RX5) (T := TX5) (N := 6) rfl (by decide) uw_5 rfl wd_162 dX5_deal_35) <| m_at_cons (m_s_aload_n dX5_deal_38 rfl) <| m_at_cons (m_s_get (C := RX5) (T := TX5) (N := 6) rfl (by decide) uw_5 rfl wd_155 dX5_deal_39) <| m_at_cons (m_s_cob (T := TX0) (N := 3) (y := yX0_record) rfl rfl (by decide) (Or.inl wd_175) wd_176 wd_177 wd_15 wd_178 (by decide +kernel) dX5_deal_42) <| m_at_cons (m_s_aload_n dX5_deal_45 rfl) <| m_at_cons (m_s_dup dX5_deal_46) <| m_at_cons (m_s_get (C := RX1) (T := TX1) (N := 3) rfl (by decide) uw_1 rfl wd_236 dX5_deal_47) <| m_at_cons (m_s_iload_n dX5_deal_50 rfl) <| m_at_cons (m_s_iadd dX5_deal_51) <| m_at_cons (m_s_put (C := RX1) (T := TX1) (N := 3) rfl (by decide) uw_1 tyX1_ok nmX1 rfl rfl rfl m_ft0 wd_236 dX5_deal_52) <| m_at_cons (m_s_aload_n dX5_deal_55 rfl) <| m_at_cons (m_s_cob (T := TX1) (N := 3) (y := yX1_left) rfl rfl (by decide) (Or.inl wd_235) wd_40 wd_41 wd_42 wd_43 (by decide +kernel) dX5_deal_56) <| m_at_cons (m_s_iret rfl dX5_deal_59) <| m_at_nil
set_option maxRecDepth 100000 in
theorem sX5_sell : ∀ pc o, m_at tX5_sell pc = some o → m_Snd D cA ra B ro m_M cX5_sell 3 (some .int) RX5 "sell" pc o :=
  m_at_cons (m_s_aload_n dX5_sell_0 rfl) <| m_at_cons (m_s_get (C := RX5) (T := TX5) (N := 6) rfl (by decide) uw_5 rfl wd_155 dX5_sell_1) <| m_at_cons (m_s_get (C := RX3) (T := TX3) (N := 11) rfl (by decide) uw_3 rfl wd_208 dX5_sell_4) <| m_at_cons (m_s_cob (T := TX1) (N := 3) (y := yX1_isThere) rfl rfl (by decide) (Or.inl wd_209) wd_210 wd_211 wd_42 wd_212 (by decide +kernel) dX5_sell_7) <| m_at_cons (m_s_if_ne dX5_sell_10 (by decide)) <| m_at_cons (m_s_bipush dX5_sell_13 (by decide)) <| m_at_cons (m_s_iret rfl dX5_sell_15) <| m_at_cons (m_s_aload_n dX5_sell_16 rfl) <| m_at_cons (m_s_get (C := RX5) (T := TX5) (N := 6) rfl (by decide) uw_5 rfl wd_155 dX5_sell_17) <| m_at_cons (m_s_cob (T := TX3) (N := 11) (y := yX3_reasonAgainstSale) rfl rfl (by decide) (Or.inl wd_237) wd_238 wd_239 wd_8 wd_240 (by decide +kernel) dX5_sell_20) <| m_at_cons (m_s_istore_n dX5_sell_23 rfl) <| m_at_cons (m_s_iload_n dX5_sell_24 rfl) <| m_at_cons (m_s_if_eq dX5_sell_25 (by decide)) <| m_at_cons (m_s_bipush dX5_sell_28 (by decide)) <| m_at_cons (m_s_iload_n dX5_sell_30 rfl) <| m_at_cons (m_s_isub dX5_sell_31) <| m_at_cons (m_s_iret rfl dX5_sell_32) <| m_at_cons (m_s_aload_n dX5_sell_33 rfl) <| m_at_cons (m_s_get (C := RX5) (T := TX5) (N := 6) rfl (by decide) uw_5 rfl wd_162 dX5_sell_34) <| m_at_cons (m_s_aload_n dX5_sell_37 rfl) <| m_at_cons (m_s_get (C := RX5) (T := TX5) (N := 6) rfl (by decide) uw_5 rfl wd_155 dX5_sell_38) <| m_at_cons (m_s_cob (T := TX0) (N := 3) (y := yX0_record) rfl rfl (by decide) (Or.inl wd_175) wd_176 wd_177 wd_15 wd_178 (by decide +kernel) dX5_sell_41) <| m_at_cons (m_s_aload_n dX5_sell_44 rfl) <| m_at_cons (m_s_get (C := RX5) (T := TX5) (N := 6) rfl (by decide) uw_5 rfl wd_155 dX5_sell_45) <| m_at_cons (m_s_get (C := RX3) (T := TX3) (N := 11) rfl (by decide) uw_3 rfl wd_202 dX5_sell_48) <| m_at_cons (m_s_iconst dX5_sell_51 (by decide)) <| m_at_cons (m_s_cst (y := yX5_at) rfl (by decide) (Or.inl wd_184) wd_45 wd_32 wd_46 (by decide +kernel) dX5_sell_52) <| m_at_cons (m_s_istore_n dX5_sell_55 rfl) <| m_at_cons (m_s_aload_n dX5_sell_56 rfl) <| m_at_cons (m_s_get (C := RX5) (T := TX5) (N := 6) rfl (by decide) uw_5 rfl wd_155 dX5_sell_57) <| m_at_cons (m_s_dup dX5_sell_60) <| m_at_cons (m_s_get (C := RX3) (T := TX3) (N := 11) rfl (by decide) uw_3 rfl wd_241 dX5_sell_61) <| m_at_cons (m_s_iload_n dX5_sell_64 rfl) <| m_at_cons (m_s_iadd dX5_sell_65) <| m_at_cons (m_s_put (C := RX3) (T := TX3) (N := 11) rfl (by decide) uw_3 tyX3_ok nmX3 rfl rfl rfl m_ft0 wd_241 dX5_sell_66) <| m_at_cons (m_s_aload_n dX5_sell_69 rfl) <| m_at_cons (m_s_get (C := RX5) (T := TX5) (N := 6) rfl (by decide) uw_5 rfl wd_155 dX5_sell_70) <| m_at_cons (m_s_dup dX5_sell_73) <| m_at_cons (m_s_get (C := RX3) (T := TX3) (N := 11) rfl (by decide) uw_3 rfl wd_242 dX5_sell_74) <| m_at_cons (m_s_iconst dX5_sell_77 (by decide)) <| m_at_cons (m_s_iadd dX5_sell_78) <| m_at_cons (m_s_put (C := RX3) (T := TX3) (N := 11) rfl (by decide) uw_3 tyX3_ok nmX3 rfl rfl rfl m_ft0 wd_242 dX5_sell_79) <| m_at_cons (m_s_aload_n dX5_sell_82 rfl) <| m_at_cons (m_s_get (C := RX5) (T := TX5) (N := 6) rfl (by decide) uw_5 rfl wd_155 dX5_sell_83) <| m_at_cons (m_s_get (C := RX3) (T := TX3) (N := 11) rfl (by decide) uw_3 rfl wd_208 dX5_sell_86) <| m_at_cons (m_s_cob (T := TX1) (N := 3) (y := yX1_takeAway) rfl rfl (by decide) (Or.inl wd_243) wd_244 wd_245 wd_42 wd_246 (by decide +kernel) dX5_sell_89) <| m_at_cons (m_s_iload_n dX5_sell_92 rfl) <| m_at_cons (m_s_iret rfl dX5_sell_93) <| m_at_nil
set_option maxRecDepth 100000 in
theorem sX5_pulp : ∀ pc o, m_at tX5_pulp pc = some o → m_Snd D cA ra B ro m_M cX5_pulp 2 (some .int) RX5 "pulp" pc o :=
  m_at_cons (m_s_aload_n dX5_pulp_0 rfl) <| m_at_cons (m_s_get (C := RX5) (T := TX5) (N := 6) rfl (by decide) uw_5 rfl wd_155 dX5_pulp_1) <| m_at_cons (m_s_get (C := RX3) (T := TX3) (N := 11) rfl (by decide) uw_3 rfl wd_208 dX5_pulp_4) <| m_at_cons (m_s_cob (T := TX1) (N := 3) (y := yX1_isThere) rfl rfl (by decide) (Or.inl wd_209) wd_210 wd_211 wd_42 wd_212 (by decide +kernel) dX5_pulp_7) <| m_at_cons (m_s_if_ne dX5_pulp_10 (by decide)) <| m_at_cons (m_s_bipush dX5_pulp_13 (by decide)) <| m_at_cons (m_s_iret rfl dX5_pulp_15) <| m_at_cons (m_s_aload_n dX5_pulp_16 rfl) <| m_at_cons (m_s_get (C := RX5) (T := TX5) (N := 6) rfl (by decide) uw_5 rfl wd_162 dX5_pulp_17) <| m_at_cons (m_s_aload_n dX5_pulp_20 rfl) <| m_at_cons (m_s_get (C := RX5) (T := TX5) (N := 6) rfl (by decide) uw_5 rfl wd_155 dX5_pulp_21) <| m_at_cons (m_s_cob (T := TX0) (N := 3) (y := yX0_record) rfl rfl (by decide) (Or.inl wd_175) wd_176 wd_177 wd_15 wd_178 (by decide +kernel) dX5_pulp_24) <| m_at_cons (m_s_aload_n dX5_pulp_27 rfl) <| m_at_cons (m_s_get (C := RX5) (T := TX5) (N := 6) rfl (by decide) uw_5 rfl wd_155 dX5_pulp_28) <| m_at_cons (m_s_get (C := RX3) (T := TX3) (N := 11) rfl (by decide) uw_3 rfl wd_208 dX5_pulp_31) <| m_at_cons (m_s_cob (T := TX1) (N := 3) (y := yX1_left) rfl rfl (by decide) (Or.inl wd_235) wd_40 wd_41 wd_42 wd_43 (by decide +kernel) dX5_pulp_34) <| m_at_cons (m_s_istore_n dX5_pulp_37 rfl) <| m_at_cons (m_s_aload_n dX5_pulp_38 rfl) <| m_at_cons (m_s_get (C := RX5) (T := TX5) (N := 6) rfl (by decide) uw_5 rfl wd_155 dX5_pulp_39) <| m_at_cons (m_s_dup dX5_pulp_42) <| m_at_cons (m_s_get (C := RX3) (T := TX3) (N := 11) rfl (by decide) uw_3 rfl wd_247 dX5_pulp_43) <| m_at_cons (m_s_iconst dX5_pulp_46 (by decide)) <| m_at_cons (m_s_iadd dX5_pulp_47) <| m_at_cons (m_s_put (C := RX3) (T := TX3) (N := 11) rfl (by decide) uw_3 tyX3_ok nmX3 rfl rfl rfl m_ft0 wd_247 dX5_pulp_48) <| m_at_cons (m_s_aload_n dX5_pulp_51 rfl) <| m_at_cons (m_s_get (C := RX5) (T := TX5) (N := 6) rfl (by decide) uw_5 rfl wd_155 dX5_pulp_52) <| m_at_cons (m_s_get (C := RX3) (T := TX3) (N := 11) rfl (by decide) uw_3 rfl wd_208 dX5_pulp_55) <| m_at_cons (m_s_cob (T := TX1) (N := 3) (y := yX1_takeAway) rfl rfl (by decide) (Or.inl wd_243) wd_244 wd_245 wd_42 wd_246 (by decide +kernel) dX5_pulp_58) <| m_at_cons (m_s_iload_n dX5_pulp_61 rfl) <| m_at_cons (m_s_iret rfl dX5_pulp_62) <| m_at_nil
set_option maxRecDepth 100000 in
theorem sX5_undo : ∀ pc o, m_at tX5_undo pc = some o → m_Snd D cA ra B ro m_M cX5_undo 1 (some .int) RX5 "undo" pc o :=
  m_at_cons (m_s_aload_n dX5_undo_0 rfl) <| m_at_cons (m_s_get (C := RX5) (T := TX5) (N := 6) rfl (by decide) uw_5 rfl wd_162 dX5_undo_1) <| m_at_cons (m_s_get (C := RX0) (T := TX0) (N := 3) rfl (by decide) uw_0 rfl wd_248 dX5_undo_4) <| m_at_cons (m_s_if_ne dX5_undo_7 (by decide)) <| m_at_cons (m_s_bipush dX5_undo_10 (by decide)) <| m_at_cons (m_s_iret rfl dX5_undo_12) <| m_at_cons (m_s_aload_n dX5_undo_13 rfl) <| m_at_cons (m_s_get (C := RX5) (T := TX5) (N := 6) rfl (by decide) uw_5 rfl wd_162 dX5_undo_14) <| m_at_cons (m_s_aload_n dX5_undo_17 rfl) <| m_at_cons (m_s_get (C := RX5) (T := TX5) (N := 6) rfl (by decide) uw_5 rfl wd_155 dX5_undo_18) <| m_at_cons (m_s_cob (T := TX0) (N := 3) (y := yX0_takeLatestInto) rfl rfl (by decide) (Or.inl wd_249) wd_250 wd_251 wd_15 wd_252 (by decide +kernel) dX5_undo_21) <| m_at_cons (m_s_aload_n dX5_undo_24 rfl) <| m_at_cons (m_s_get (C := RX5) (T := TX5) (N := 6) rfl (by decide) uw_5 rfl wd_162 dX5_undo_25) <| m_at_cons (m_s_get (C := RX0) (T := TX0) (N := 3) rfl (by decide) uw_0 rfl wd_248 dX5_undo_28) <| m_at_cons (m_s_iret rfl dX5_undo_31) <| m_at_nil
set_option maxRecDepth 100000 in
theorem sX5_block : ∀ pc o, m_at tX5_block pc = some o → m_Snd D cA ra B ro m_M cX5_block 3 (some .int) RX5 "block" pc o :=
  m_at_cons (m_s_iload_n dX5_block_0 rfl) <| m_at_cons (m_s_cst (y := yX5_isCell) rfl (by decide) (Or.inl wd_172) wd_173 wd_32 wd_174 (by decide +kernel) dX5_block_1) <| m_at_cons (m_s_if_ne dX5_block_4 (by decide)) <| m_at_cons (m_s_iconst dX5_block_7 (by decide)) <| m_at_cons (m_s_iret rfl dX5_block_8) <| m_at_cons (m_s_iload_n dX5_block_9 rfl) <| m_at_cons (m_s_lsw (a0 := 26) (a1 := 38) dX5_block_10 (by decide) (by decide) (by decide) (by decide) (by decide)) <| m_at_cons (m_s_aload_n dX5_block_36 rfl) <| m_at_cons (m_s_get (C := RX5) (T := TX5) (N := 6) rfl (by decide) uw_5 rfl wd_155 dX5_block_37) <| m_at_cons (m_s_get (C := RX3) (T := TX3) (N := 11) rfl (by decide) uw_3 rfl wd_183 dX5_block_40) <| m_at_cons (m_s_iload_n dX5_block_43 rfl) <| m_at_cons (m_s_cst (y := yX5_at) rfl (by decide) (Or.inl wd_184) wd_45 wd_32 wd_46 (by decide +kernel) dX5_block_44) <| m_at_cons (m_s_iret rfl dX5_block_47) <| m_at_cons (m_s_aload_n dX5_block_48 rfl) <| m_at_cons (m_s_get (C := RX5) (T := TX5) (N := 6) rfl (by decide) uw_5 rfl wd_155 dX5_block_49) <| m_at_cons (m_s_get (C := RX3) (T := TX3) (N := 11) rfl (by decide) uw_3 rfl wd_193 dX5_block_52) <| m_at_cons (m_s_iload_n dX5_block_55 rfl) <| m_at_cons (m_s_cst (y := yX5_at) rfl (by decide) (Or.inl wd_184) wd_45 wd_32 wd_46 (by decide +kernel) dX5_block_56) <| m_at_cons (m_s_iret rfl dX5_block_59) <| m_at_cons (m_s_bipush dX5_block_60 (by decide)) <| m_at_cons (m_s_iret rfl dX5_block_62) <| m_at_nil
set_option maxRecDepth 100000 in
theorem sX5_cardOf : ∀ pc o, m_at tX5_cardOf pc = some o → m_Snd D cA ra B ro m_M cX5_cardOf 3 (some .int) RX5 "cardOf" pc o :=
  m_at_cons (m_s_iload_n dX5_cardOf_0 rfl) <| m_at_cons (m_s_cst (y := yX5_isCard) rfl (by decide) (Or.inl wd_194) wd_81 wd_32 wd_82 (by decide +kernel) dX5_cardOf_1) <| m_at_cons (m_s_if_ne dX5_cardOf_4 (by decide)) <| m_at_cons (m_s_iconst dX5_cardOf_7 (by decide)) <| m_at_cons (m_s_iret rfl dX5_cardOf_8) <| m_at_cons (m_s_iload_n dX5_cardOf_9 rfl) <| m_at_cons (m_s_tsw dX5_cardOf_10 (by decide) (by decide) (by decide +kernel)) <| m_at_cons (m_s_aload_n dX5_cardOf_40 rfl) <| m_at_cons (m_s_get (C := RX5) (T := TX5) (N := 6) rfl (by decide) uw_5 rfl wd_155 dX5_cardOf_41) <| m_at_cons (m_s_iload_n dX5_cardOf_44 rfl) <| m_at_cons (m_s_cob (T := TX3) (N := 11) (y := yX3_cellOf) rfl rfl (by decide) (Or.inl wd_253) wd_254 wd_255 wd_8 wd_256 (by decide +kernel) dX5_cardOf_45) <| m_at_cons (m_s_iret rfl dX5_cardOf_48) <| m_at_cons (m_s_aload_n dX5_cardOf_49 rfl) <| m_at_cons (m_s_get (C := RX5) (T := TX5) (N := 6) rfl (by decide) uw_5 rfl wd_155 dX5_cardOf_50) <| m_at_cons (m_s_get (C := RX3) (T := TX3) (N := 11) rfl (by decide) uw_3 rfl wd_198 dX5_cardOf_53) <| m_at_cons (m_s_iload_n dX5_cardOf_56 rfl) <| m_at_cons (m_s_cst (y := yX5_at) rfl (by decide) (Or.inl wd_184) wd_45 wd_32 wd_46 (by decide +kernel) dX5_cardOf_57) <| m_at_cons (m_s_bipush dX5_cardOf_60 (by decide)) <| m_at_cons (m_s_iadd dX5_cardOf_62) <| m_at_cons (m_s_iret rfl dX5_cardOf_63) <| m_at_cons (m_s_aload_n dX5_cardOf_64 rfl) <| m_at_cons (m_s_get (C := RX5) (T := TX5) (N := 6) rfl (by decide) uw_5 rfl wd_155 dX5_cardOf_65) <| m_at_cons (m_s_get (C := RX3) (T := TX3) (N := 11) rfl (by decide) uw_3 rfl wd_208 dX5_cardOf_68) <| m_at_cons (m_s_iload_n dX5_cardOf_71 rfl) <| m_at_cons (m_s_cob (T := TX1) (N := 3) (y := yX1_placeOf) rfl rfl (by decide) (Or.inl wd_257) wd_258 wd_259 wd_42 wd_260 (by decide +kernel) dX5_cardOf_72) <| m_at_cons (m_s_iret rfl dX5_cardOf_75) <| m_at_cons (m_s_aload_n dX5_cardOf_76 rfl) <| m_at_cons (m_s_get (C := RX5) (T := TX5) (N := 6) rfl (by decide) uw_5 rfl wd_155 dX5_cardOf_77) <| m_at_cons (m_s_get (C := RX3) (T := TX3) (N := 11) rfl (by decide) uw_3 rfl wd_208 dX5_cardOf_80) <| m_at_cons (m_s_iload_n dX5_cardOf_83 rfl) <| m_at_cons (m_s_cob (T := TX1) (N := 3) (y := yX1_marksOf) rfl rfl (by decide) (Or.inl wd_261) wd_59 wd_60 wd_42 wd_61 (by decide +kernel) dX5_cardOf_84) <| m_at_cons (m_s_iret rfl dX5_cardOf_87) <| m_at_cons (m_s_bipush dX5_cardOf_88 (by decide)) <| m_at_cons (m_s_iret rfl dX5_cardOf_90) <| m_at_nil
set_option maxRecDepth 100000 in
theorem sX5_sheet : ∀ pc o, m_at tX5_sheet pc = some o → m_Snd D cA ra B ro m_M cX5_sheet 6 (some .int) RX5 "sheet" pc o :=
  m_at_cons (m_s_aload_n dX5_sheet_0 rfl) <| m_at_cons (m_s_get (C := RX5) (T := TX5) (N := 6) rfl (by decide) uw_5 rfl wd_155 dX5_sheet_1) <| m_at_cons (m_s_iload_n dX5_sheet_4 rfl) <| m_at_cons (m_s_cob (T := TX3) (N := 11) (y := yX3_sheetAt) rfl rfl (by decide) (Or.inl wd_213) wd_130 wd_131 wd_8 wd_132 (by decide +kernel) dX5_sheet_5) <| m_at_cons (m_s_astore dX5_sheet_8) <| m_at_cons (m_s_aload dX5_sheet_10) <| m_at_cons (m_s_ifnull dX5_sheet_12 (by decide)) <| m_at_cons (m_s_iload_n dX5_sheet_15 rfl) <| m_at_cons (m_s_cst (y := yX5_isCell) rfl (by decide) (Or.inl wd_172) wd_173 wd_32 wd_174 (by decide +kernel) dX5_sheet_16) <| m_at_cons (m_s_if_ne dX5_sheet_19 (by decide)) <| m_at_cons (m_s_iconst dX5_sheet_22 (by decide)) <| m_at_cons (m_s_iret rfl dX5_sheet_23) <| m_at_cons (m_s_aload dX5_sheet_24) <| m_at_cons (m_s_get (C := RX2) (T := TX2) (N := 3) rfl (by decide) uw_2 rfl wd_262 dX5_sheet_26) <| m_at_cons (m_s_iload_n dX5_sheet_29 rfl) <| m_at_cons (m_s_cst (y := yX5_at) rfl (by decide) (Or.inl wd_184) wd_45 wd_32 wd_46 (by decide +kernel) dX5_sheet_30) <| m_at_cons (m_s_istore dX5_sheet_33) <| m_at_cons (m_s_iload_n dX5_sheet_35 rfl) <| m_at_cons (m_s_lsw (a0 := 28) (a1 := 31) dX5_sheet_36 (by decide) (by decide) (by decide) (by decide) (by decide)) <| m_at_cons (m_s_iload dX5_sheet_64) <| m_at_cons (m_s_iret rfl dX5_sheet_66) <| m_at_cons (m_s_aload dX5_sheet_67) <| m_at_cons (m_s_get (C := RX2) (T := TX2) (N := 3) rfl (by decide) uw_2 rfl wd_263 dX5_sheet_69) <| m_at_cons (m_s_iload dX5_sheet_72) <| m_at_cons (m_s_cst (y := yX5_at) rfl (by decide) (Or.inl wd_184) wd_45 wd_32 wd_46 (by decide +kernel) dX5_sheet_74) <| m_at_cons (m_s_iret rfl dX5_sheet_77) <| m_at_cons (m_s_bipush dX5_sheet_78 (by decide)) <| m_at_cons (m_s_iret rfl dX5_sheet_80) <| m_at_nil
set_option maxRecDepth 100000 in
theorem sX5_pack : ∀ pc o, m_at tX5_pack pc = some o → m_Snd D cA ra B ro m_M cX5_pack 4 (some .int) RX5 "pack" pc o :=
  m_at_cons (m_s_aload_n dX5_pack_0 rfl) <| m_at_cons (m_s_get (C := RX5) (T := TX5) (N := 6) rfl (by decide) uw_5 rfl wd_155 dX5_pack_1) <| m_at_cons (m_s_get (C := RX3) (T := TX3) (N := 11) rfl (by decide) uw_3 rfl wd_208 dX5_pack_4) <| m_at_cons (m_s_astore_n dX5_pack_7 rfl) <| m_at_cons (m_s_iload_n dX5_pack_8 rfl) <| m_at_cons (m_s_if_lt dX5_pack_9 (by decide)) <| m_at_cons (m_s_iload_n dX5_pack_12 rfl) <| m_at_cons (m_s_aload_n dX5_pack_13 rfl) <| m_at_cons (m_s_cob (T := TX1) (N := 3) (y := yX1_left) rfl rfl (by decide) (Or.inl wd_235) wd_40 wd_41 wd_42 wd_43 (by decide +kernel) dX5_pack_14) <| m_at_cons (m_s_icmp_lt dX5_pack_17 (by decide)) <| m_at_cons (m_s_iconst dX5_pack_20 (by decide)) <| m_at_cons (m_s_iret rfl dX5_pack_21) <| m_at_cons (m_s_iload_n dX5_pack_22 rfl) <| m_at_cons (m_s_tsw dX5_pack_23 (by decide) (by decide) (by decide +kernel)) <| m_at_cons (m_s_aload_n dX5_pack_56 rfl) <| m_at_cons (m_s_iload_n dX5_pack_57 rfl) <| m_at_cons (m_s_cob (T := TX1) (N := 3) (y := yX1_cardAt) rfl rfl (by decide) (Or.inl wd_230) wd_48 wd_49 wd_42 wd_50 (by decide +kernel) dX5_pack_58) <| m_at_cons (m_s_iret rfl dX5_pack_61) <| m_at_cons (m_s_aload_n dX5_pack_62 rfl) <| m_at_cons (m_s_iload_n dX5_pack_63 rfl) <| m_at_cons (m_s_cob (T := TX1) (N := 3) (y := yX1_marksAt) rfl rfl (by decide) (Or.inl wd_264) wd_63 wd_64 wd_42 wd_65 (by decide +kernel) dX5_pack_64) <| m_at_cons (m_s_iret rfl dX5_pack_67) <| m_at_cons (m_s_aload_n dX5_pack_68 rfl) <| m_at_cons (m_s_iload_n dX5_pack_69 rfl) <| m_at_cons (m_s_cob (T := TX1) (N := 3) (y := yX1_canBeAt) rfl rfl (by decide) (Or.inl wd_265) wd_68 wd_69 wd_42 wd_70 (by decide +kernel) dX5_pack_70) <| m_at_cons (m_s_iret rfl dX5_pack_73) <| m_at_cons (m_s_aload_n dX5_pack_74 rfl) <| m_at_cons (m_s_iload_n dX5_pack_75 rfl) <| m_at_cons (m_s_cob (T := TX1) (N := 3) (y := yX1_guessAt) rfl rfl (by decide) (Or.inl wd_266) wd_72 wd_73 wd_42 wd_74 (by decide +kernel) dX5_pack_76) <| m_at_cons (m_s_iret rfl dX5_pack_79) <| m_at_cons (m_s_aload_n dX5_pack_80 rfl) <| m_at_cons (m_s_iload_n dX5_pack_81 rfl) <| m_at_cons (m_s_cob (T := TX1) (N := 3) (y := yX1_canBeAt) rfl rfl (by decide) (Or.inl wd_265) wd_68 wd_69 wd_42 wd_70 (by decide +kernel) dX5_pack_82) <| m_at_cons (m_s_iconst dX5_pack_85 (by decide)) <| m_at_cons (m_s_icmp_ne dX5_pack_86 (by decide)) <| m_at_cons (m_s_iconst dX5_pack_89 (by decide)) <| m_at_cons (m_s_goto dX5_pack_90 (by decide)) <| m_at_cons (m_s_iconst dX5_pack_93 (by decide)) <| m_at_cons (m_s_iret rfl dX5_pack_94) <| m_at_cons (m_s_bipush dX5_pack_95 (by decide)) <| m_at_cons (m_s_iret rfl dX5_pack_97) <| m_at_nil
set_option maxRecDepth 100000 in
theorem sX5_count_0 : ∀ pc o, m_at tX5_count_0 pc = some o → m_Snd D cA ra B ro m_M cX5_count 2 (some .int) RX5 "count" pc o :=
  m_at_cons (m_s_iload_n dX5_count_0 rfl) <| m_at_cons (m_s_tsw dX5_count_1 (by decide) (by decide) (by decide +kernel)) <| m_at_cons (m_s_aload_n dX5_count_88 rfl) <| m_at_cons (m_s_get (C := RX5) (T := TX5) (N := 6) rfl (by decide) uw_5 rfl wd_155 dX5_count_89) <| m_at_cons (m_s_get (C := RX3) (T := TX3) (N := 11) rfl (by decide) uw_3 rfl wd_203 dX5_count_92) <| m_at_cons (m_s_iret rfl dX5_count_95) <| m_at_cons (m_s_aload_n dX5_count_96 rfl) <| m_at_cons (m_s_get (C := RX5) (T := TX5) (N := 6) rfl (by decide) uw_5 rfl wd_155 dX5_count_97) <| m_at_cons (m_s_get (C := RX3) (T := TX3) (N := 11) rfl (by decide) uw_3 rfl wd_267 dX5_count_100) <| m_at_cons (m_s_iret rfl dX5_count_103) <| m_at_cons (m_s_aload_n dX5_count_104 rfl) <| m_at_cons (m_s_get (C := RX5) (T := TX5) (N := 6) rfl (by decide) uw_5 rfl wd_155 dX5_count_105) <| m_at_cons (m_s_get (C := RX3) (T := TX3) (N := 11) rfl (by decide) uw_3 rfl wd_208 dX5_count_108) <| m_at_cons (m_s_cob (T := TX1) (N := 3) (y := yX1_isThere) rfl rfl (by decide) (Or.inl wd_209) wd_210 wd_211 wd_42 wd_212 (by decide +kernel) dX5_count_111) <| m_at_cons (m_s_if_eq dX5_count_114 (by decide)) <| m_at_cons (m_s_iconst dX5_count_117 (by decide)) <| m_at_cons (m_s_goto dX5_count_118 (by decide)) <| m_at_cons (m_s_iconst dX5_count_121 (by decide)) <| m_at_cons (m_s_iret rfl dX5_count_122) <| m_at_cons (m_s_aload_n dX5_count_123 rfl) <| m_at_cons (m_s_get (C := RX5) (T := TX5) (N := 6) rfl (by decide) uw_5 rfl wd_155 dX5_count_124) <| m_at_cons (m_s_get (C := RX3) (T := TX3) (N := 11) rfl (by decide) uw_3 rfl wd_208 dX5_count_127) <| m_at_cons (m_s_cob (T := TX1) (N := 3) (y := yX1_left) rfl rfl (by decide) (Or.inl wd_235) wd_40 wd_41 wd_42 wd_43 (by decide +kernel) dX5_count_130) <| m_at_cons (m_s_iret rfl dX5_count_133) <| m_at_cons (m_s_aload_n dX5_count_134 rfl) <| m_at_cons (m_s_get (C := RX5) (T := TX5) (N := 6) rfl (by decide) uw_5 rfl wd_155 dX5_count_135) <| m_at_cons (m_s_get (C := RX3) (T := TX3) (N := 11) rfl (by decide) uw_3 rfl wd_208 dX5_count_138) <| m_at_cons (m_s_get (C := RX1) (T := TX1) (N := 3) rfl (by decide) uw_1 rfl wd_236 dX5_count_141) <| m_at_cons (m_s_iret rfl dX5_count_144) <| m_at_cons (m_s_aload_n dX5_count_145 rfl) <| m_at_cons (m_s_get (C := RX5) (T := TX5) (N := 6) rfl (by decide) uw_5 rfl wd_155 dX5_count_146) <| m_at_cons (m_s_get (C := RX3) (T := TX3) (N := 11) rfl (by decide) uw_3 rfl wd_208 dX5_count_149) <| m_at_cons (m_s_cob (T := TX1) (N := 3) (y := yX1_known) rfl rfl (by decide) (Or.inl wd_268) wd_140 wd_141 wd_42 wd_142 (by decide +kernel) dX5_count_152) <| m_at_cons (m_s_iret rfl dX5_count_155) <| m_at_cons (m_s_aload_n dX5_count_156 rfl) <| m_at_cons (m_s_get (C := RX5) (T := TX5) (N := 6) rfl (by decide) uw_5 rfl wd_155 dX5_count_157) <| m_at_cons (m_s_get (C := RX3) (T := TX3) (N := 11) rfl (by decide) uw_3 rfl wd_208 dX5_count_160) <| m_at_cons (m_s_cob (T := TX1) (N := 3) (y := yX1_guessedRight) rfl rfl (by decide) (Or.inl wd_269) wd_270 wd_271 wd_42 wd_272 (by decide +kernel) dX5_count_163) <| m_at_cons (m_s_iret rfl dX5_count_166) <| m_at_cons (m_s_aload_n dX5_count_167 rfl) <| m_at_cons (m_s_get (C := RX5) (T := TX5) (N := 6) rfl (by decide) uw_5 rfl wd_155 dX5_count_168) <| m_at_cons (m_s_get (C := RX3) (T := TX3) (N := 11) rfl (by decide) uw_3 rfl wd_242 dX5_count_171) <| m_at_cons (m_s_iret rfl dX5_count_174) <| m_at_cons (m_s_aload_n dX5_count_175 rfl) <| m_at_cons (m_s_get (C := RX5) (T := TX5) (N := 6) rfl (by decide) uw_5 rfl wd_155 dX5_count_176) <| m_at_cons (m_s_get (C := RX3) (T := TX3) (N := 11) rfl (by decide) uw_3 rfl wd_247 dX5_count_179) <| m_at_cons (m_s_iret rfl dX5_count_182) <| m_at_cons (m_s_aload_n dX5_count_183 rfl) <| m_at_cons (m_s_get (C := RX5) (T := TX5) (N := 6) rfl (by decide) uw_5 rfl wd_155 dX5_count_184) <| m_at_cons (m_s_get (C := RX3) (T := TX3) (N := 11) rfl (by decide) uw_3 rfl wd_241 dX5_count_187) <| m_at_cons (m_s_iret rfl dX5_count_190) <| m_at_cons (m_s_aload_n dX5_count_191 rfl) <| m_at_cons (m_s_get (C := RX5) (T := TX5) (N := 6) rfl (by decide) uw_5 rfl wd_155 dX5_count_192) <| m_at_cons (m_s_cob (T := TX3) (N := 11) (y := yX3_marksOnBacks) rfl rfl (by decide) (Or.inl wd_273) wd_274 wd_275 wd_8 wd_276 (by decide +kernel) dX5_count_195) <| m_at_cons (m_s_iret rfl dX5_count_198) <| m_at_cons (m_s_aload_n dX5_count_199 rfl) <| m_at_cons (m_s_get (C := RX5) (T := TX5) (N := 6) rfl (by decide) uw_5 rfl wd_155 dX5_count_200) <| m_at_cons (m_s_get (C := RX3) (T := TX3) (N := 11) rfl (by decide) uw_3 rfl wd_198 dX5_count_203) <| m_at_cons (m_s_aload_n dX5_count_206 rfl) <| m_at_cons (m_s_get (C := RX5) (T := TX5) (N := 6) rfl (by decide) uw_5 rfl wd_155 dX5_count_207) <| m_at_nil
set_option maxRecDepth 100000 in
theorem sX5_count_1 : ∀ pc o, m_at tX5_count_1 pc = some o → m_Snd D cA ra B ro m_M cX5_count 2 (some .int) RX5 "count" pc o :=
  m_at_cons (m_s_get (C := RX3) (T := TX3) (N := 11) rfl (by decide) uw_3 rfl wd_202 dX5_count_210) <| m_at_cons (m_s_iconst dX5_count_213 (by decide)) <| m_at_cons (m_s_cst (y := yX5_at) rfl (by decide) (Or.inl wd_184) wd_45 wd_32 wd_46 (by decide +kernel) dX5_count_214) <| m_at_cons (m_s_cst (y := yX5_courtsBeyond) rfl (by decide) (Or.inl wd_277) wd_137 wd_32 wd_138 (by decide +kernel) dX5_count_217) <| m_at_cons (m_s_iret rfl dX5_count_220) <| m_at_cons (m_s_aload_n dX5_count_221 rfl) <| m_at_cons (m_s_get (C := RX5) (T := TX5) (N := 6) rfl (by decide) uw_5 rfl wd_162 dX5_count_222) <| m_at_cons (m_s_get (C := RX0) (T := TX0) (N := 3) rfl (by decide) uw_0 rfl wd_248 dX5_count_225) <| m_at_cons (m_s_iret rfl dX5_count_228) <| m_at_cons (m_s_aload_n dX5_count_229 rfl) <| m_at_cons (m_s_get (C := RX5) (T := TX5) (N := 6) rfl (by decide) uw_5 rfl wd_169 dX5_count_230) <| m_at_cons (m_s_get (C := RX4) (T := TX4) (N := 7) rfl (by decide) uw_4 rfl wd_278 dX5_count_233) <| m_at_cons (m_s_iret rfl dX5_count_236) <| m_at_cons (m_s_aload_n dX5_count_237 rfl) <| m_at_cons (m_s_get (C := RX5) (T := TX5) (N := 6) rfl (by decide) uw_5 rfl wd_155 dX5_count_238) <| m_at_cons (m_s_get (C := RX3) (T := TX3) (N := 11) rfl (by decide) uw_3 rfl wd_202 dX5_count_241) <| m_at_cons (m_s_iconst dX5_count_244 (by decide)) <| m_at_cons (m_s_cst (y := yX5_at) rfl (by decide) (Or.inl wd_184) wd_45 wd_32 wd_46 (by decide +kernel) dX5_count_245) <| m_at_cons (m_s_iret rfl dX5_count_248) <| m_at_cons (m_s_aload_n dX5_count_249 rfl) <| m_at_cons (m_s_get (C := RX5) (T := TX5) (N := 6) rfl (by decide) uw_5 rfl wd_155 dX5_count_250) <| m_at_cons (m_s_get (C := RX3) (T := TX3) (N := 11) rfl (by decide) uw_3 rfl wd_202 dX5_count_253) <| m_at_cons (m_s_iconst dX5_count_256 (by decide)) <| m_at_cons (m_s_cst (y := yX5_at) rfl (by decide) (Or.inl wd_184) wd_45 wd_32 wd_46 (by decide +kernel) dX5_count_257) <| m_at_cons (m_s_iret rfl dX5_count_260) <| m_at_cons (m_s_aload_n dX5_count_261 rfl) <| m_at_cons (m_s_get (C := RX5) (T := TX5) (N := 6) rfl (by decide) uw_5 rfl wd_155 dX5_count_262) <| m_at_cons (m_s_get (C := RX3) (T := TX3) (N := 11) rfl (by decide) uw_3 rfl wd_202 dX5_count_265) <| m_at_cons (m_s_iconst dX5_count_268 (by decide)) <| m_at_cons (m_s_cst (y := yX5_at) rfl (by decide) (Or.inl wd_184) wd_45 wd_32 wd_46 (by decide +kernel) dX5_count_269) <| m_at_cons (m_s_iret rfl dX5_count_272) <| m_at_cons (m_s_aload_n dX5_count_273 rfl) <| m_at_cons (m_s_get (C := RX5) (T := TX5) (N := 6) rfl (by decide) uw_5 rfl wd_155 dX5_count_274) <| m_at_cons (m_s_get (C := RX3) (T := TX3) (N := 11) rfl (by decide) uw_3 rfl wd_202 dX5_count_277) <| m_at_cons (m_s_iconst dX5_count_280 (by decide)) <| m_at_cons (m_s_cst (y := yX5_at) rfl (by decide) (Or.inl wd_184) wd_45 wd_32 wd_46 (by decide +kernel) dX5_count_281) <| m_at_cons (m_s_iret rfl dX5_count_284) <| m_at_cons (m_s_bipush dX5_count_285 (by decide)) <| m_at_cons (m_s_iret rfl dX5_count_287) <| m_at_nil
set_option maxRecDepth 100000 in
theorem sX5_count : ∀ pc o, m_at tX5_count pc = some o → m_Snd D cA ra B ro m_M cX5_count 2 (some .int) RX5 "count" pc o := m_at_app sX5_count_0 (sX5_count_1)
set_option maxRecDepth 100000 in
theorem sX5_why : ∀ pc o, m_at tX5_why pc = some o → m_Snd D cA ra B ro m_M cX5_why 1 (some .int) RX5 "why" pc o :=
  m_at_cons (m_s_aload_n dX5_why_0 rfl) <| m_at_cons (m_s_get (C := RX5) (T := TX5) (N := 6) rfl (by decide) uw_5 rfl wd_155 dX5_why_1) <| m_at_cons (m_s_get (C := RX3) (T := TX3) (N := 11) rfl (by decide) uw_3 rfl wd_208 dX5_why_4) <| m_at_cons (m_s_cob (T := TX1) (N := 3) (y := yX1_isThere) rfl rfl (by decide) (Or.inl wd_209) wd_210 wd_211 wd_42 wd_212 (by decide +kernel) dX5_why_7) <| m_at_cons (m_s_if_eq dX5_why_10 (by decide)) <| m_at_cons (m_s_aload_n dX5_why_13 rfl) <| m_at_cons (m_s_get (C := RX5) (T := TX5) (N := 6) rfl (by decide) uw_5 rfl wd_155 dX5_why_14) <| m_at_cons (m_s_cob (T := TX3) (N := 11) (y := yX3_reasonAgainstSale) rfl rfl (by decide) (Or.inl wd_237) wd_238 wd_239 wd_8 wd_240 (by decide +kernel) dX5_why_17) <| m_at_cons (m_s_goto dX5_why_20 (by decide)) <| m_at_cons (m_s_bipush dX5_why_23 (by decide)) <| m_at_cons (m_s_iret rfl dX5_why_25) <| m_at_nil
set_option maxRecDepth 100000 in
theorem sX5_chances : ∀ pc o, m_at tX5_chances pc = some o → m_Snd D cA ra B ro m_M cX5_chances 1 (some .float) RX5 "chances" pc o :=
  m_at_cons (m_s_aload_n dX5_chances_0 rfl) <| m_at_cons (m_s_get (C := RX5) (T := TX5) (N := 6) rfl (by decide) uw_5 rfl wd_155 dX5_chances_1) <| m_at_cons (m_s_get (C := RX3) (T := TX3) (N := 11) rfl (by decide) uw_3 rfl wd_208 dX5_chances_4) <| m_at_cons (m_s_cob (T := TX1) (N := 3) (y := yX1_isThere) rfl rfl (by decide) (Or.inl wd_209) wd_210 wd_211 wd_42 wd_212 (by decide +kernel) dX5_chances_7) <| m_at_cons (m_s_if_eq dX5_chances_10 (by decide)) <| m_at_cons (m_s_aload_n dX5_chances_13 rfl) <| m_at_cons (m_s_get (C := RX5) (T := TX5) (N := 6) rfl (by decide) uw_5 rfl wd_155 dX5_chances_14) <| m_at_cons (m_s_get (C := RX3) (T := TX3) (N := 11) rfl (by decide) uw_3 rfl wd_208 dX5_chances_17) <| m_at_cons (m_s_cob (T := TX1) (N := 3) (y := yX1_sumOfChances) rfl rfl (by decide) (Or.inl wd_279) wd_280 wd_281 wd_42 wd_282 (by decide +kernel) dX5_chances_20) <| m_at_cons (m_s_goto dX5_chances_23 (by decide)) <| m_at_cons (m_s_ldcf wd_283 dX5_chances_26) <| m_at_cons (m_s_fret rfl dX5_chances_28) <| m_at_nil
set_option maxRecDepth 100000 in
theorem sX5_ifPrinted : ∀ pc o, m_at tX5_ifPrinted pc = some o → m_Snd D cA ra B ro m_M cX5_ifPrinted 2 (some .int) RX5 "ifPrinted" pc o :=
  m_at_cons (m_s_aload_n dX5_ifPrinted_0 rfl) <| m_at_cons (m_s_get (C := RX5) (T := TX5) (N := 6) rfl (by decide) uw_5 rfl wd_155 dX5_ifPrinted_1) <| m_at_cons (m_s_iload_n dX5_ifPrinted_4 rfl) <| m_at_cons (m_s_iconst dX5_ifPrinted_5 (by decide)) <| m_at_cons (m_s_cob (T := TX3) (N := 11) (y := yX3_knownIfPrinted) rfl rfl (by decide) (Or.inl wd_284) wd_285 wd_286 wd_8 wd_287 (by decide +kernel) dX5_ifPrinted_6) <| m_at_cons (m_s_iret rfl dX5_ifPrinted_9) <| m_at_nil
set_option maxRecDepth 100000 in
theorem sX5_bestWay : ∀ pc o, m_at tX5_bestWay pc = some o → m_Snd D cA ra B ro m_M cX5_bestWay 6 (some .int) RX5 "bestWay" pc o :=
  m_at_cons (m_s_aload_n dX5_bestWay_0 rfl) <| m_at_cons (m_s_get (C := RX5) (T := TX5) (N := 6) rfl (by decide) uw_5 rfl wd_155 dX5_bestWay_1) <| m_at_cons (m_s_iconst dX5_bestWay_4 (by decide)) <| m_at_cons (m_s_cob (T := TX3) (N := 11) (y := yX3_sheetAt) rfl rfl (by decide) (Or.inl wd_213) wd_130 wd_131 wd_8 wd_132 (by decide +kernel) dX5_bestWay_5) <| m_at_cons (m_s_astore_n dX5_bestWay_8 rfl) <| m_at_cons (m_s_aload_n dX5_bestWay_9 rfl) <| m_at_cons (m_s_ifnonnull dX5_bestWay_10 (by decide)) <| m_at_cons (m_s_bipush dX5_bestWay_13 (by decide)) <| m_at_cons (m_s_iret rfl dX5_bestWay_15) <| m_at_cons (m_s_iconst dX5_bestWay_16 (by decide)) <| m_at_cons (m_s_istore_n dX5_bestWay_17 rfl) <| m_at_cons (m_s_aload_n dX5_bestWay_18 rfl) <| m_at_cons (m_s_iconst dX5_bestWay_19 (by decide)) <| m_at_cons (m_s_cob (T := TX2) (N := 3) (y := yX2_cardsAtHome) rfl rfl (by decide) (Or.inl wd_288) wd_289 wd_290 wd_37 wd_291 (by decide +kernel) dX5_bestWay_20) <| m_at_cons (m_s_istore_n dX5_bestWay_23 rfl) <| m_at_cons (m_s_iconst dX5_bestWay_24 (by decide)) <| m_at_cons (m_s_istore dX5_bestWay_25) <| m_at_cons (m_s_iload dX5_bestWay_27) <| m_at_cons (m_s_iconst dX5_bestWay_29 (by decide)) <| m_at_cons (m_s_icmp_ge dX5_bestWay_30 (by decide)) <| m_at_cons (m_s_aload_n dX5_bestWay_33 rfl) <| m_at_cons (m_s_iload dX5_bestWay_34) <| m_at_cons (m_s_cob (T := TX2) (N := 3) (y := yX2_cardsAtHome) rfl rfl (by decide) (Or.inl wd_288) wd_289 wd_290 wd_37 wd_291 (by decide +kernel) dX5_bestWay_36) <| m_at_cons (m_s_istore dX5_bestWay_39) <| m_at_cons (m_s_iload dX5_bestWay_41) <| m_at_cons (m_s_iload_n dX5_bestWay_43 rfl) <| m_at_cons (m_s_icmp_ge dX5_bestWay_44 (by decide)) <| m_at_cons (m_s_iload dX5_bestWay_47) <| m_at_cons (m_s_istore_n dX5_bestWay_49 rfl) <| m_at_cons (m_s_iload dX5_bestWay_50) <| m_at_cons (m_s_istore_n dX5_bestWay_52 rfl) <| m_at_cons (m_s_iinc dX5_bestWay_53 (by decide)) <| m_at_cons (m_s_goto dX5_bestWay_56 (by decide)) <| m_at_cons (m_s_iload_n dX5_bestWay_59 rfl) <| m_at_cons (m_s_iret rfl dX5_bestWay_60) <| m_at_nil
set_option maxRecDepth 100000 in
theorem sX5_isCell : ∀ pc o, m_at tX5_isCell pc = some o → m_Snd D cA ra B ro m_M cX5_isCell 1 (some .boolean) RX5 "isCell" pc o :=
  m_at_cons (m_s_iload_n dX5_isCell_0 rfl) <| m_at_cons (m_s_if_lt dX5_isCell_1 (by decide)) <| m_at_cons (m_s_iload_n dX5_isCell_4 rfl) <| m_at_cons (m_s_bipush dX5_isCell_5 (by decide)) <| m_at_cons (m_s_icmp_ge dX5_isCell_7 (by decide)) <| m_at_cons (m_s_iconst dX5_isCell_10 (by decide)) <| m_at_cons (m_s_goto dX5_isCell_11 (by decide)) <| m_at_cons (m_s_iconst dX5_isCell_14 (by decide)) <| m_at_cons (m_s_zret (ty := .boolean) rfl m_nz dX5_isCell_15) <| m_at_nil
set_option maxRecDepth 100000 in
theorem sX5_isCard : ∀ pc o, m_at tX5_isCard pc = some o → m_Snd D cA ra B ro m_M cX5_isCard 1 (some .boolean) RX5 "isCard" pc o :=
  m_at_cons (m_s_iload_n dX5_isCard_0 rfl) <| m_at_cons (m_s_if_lt dX5_isCard_1 (by decide)) <| m_at_cons (m_s_iload_n dX5_isCard_4 rfl) <| m_at_cons (m_s_bipush dX5_isCard_5 (by decide)) <| m_at_cons (m_s_icmp_ge dX5_isCard_7 (by decide)) <| m_at_cons (m_s_iconst dX5_isCard_10 (by decide)) <| m_at_cons (m_s_goto dX5_isCard_11 (by decide)) <| m_at_cons (m_s_iconst dX5_isCard_14 (by decide)) <| m_at_cons (m_s_zret (ty := .boolean) rfl m_nz dX5_isCard_15) <| m_at_nil
set_option maxRecDepth 100000 in
theorem sX5_isMark : ∀ pc o, m_at tX5_isMark pc = some o → m_Snd D cA ra B ro m_M cX5_isMark 1 (some .boolean) RX5 "isMark" pc o :=
  m_at_cons (m_s_iload_n dX5_isMark_0 rfl) <| m_at_cons (m_s_if_lt dX5_isMark_1 (by decide)) <| m_at_cons (m_s_iload_n dX5_isMark_4 rfl) <| m_at_cons (m_s_iconst dX5_isMark_5 (by decide)) <| m_at_cons (m_s_icmp_ge dX5_isMark_6 (by decide)) <| m_at_cons (m_s_iconst dX5_isMark_9 (by decide)) <| m_at_cons (m_s_goto dX5_isMark_10 (by decide)) <| m_at_cons (m_s_iconst dX5_isMark_13 (by decide)) <| m_at_cons (m_s_zret (ty := .boolean) rfl m_nz dX5_isMark_14) <| m_at_nil
set_option maxRecDepth 100000 in
theorem sX5_isCourt : ∀ pc o, m_at tX5_isCourt pc = some o → m_Snd D cA ra B ro m_M cX5_isCourt 1 (some .boolean) RX5 "isCourt" pc o :=
  m_at_cons (m_s_iload_n dX5_isCourt_0 rfl) <| m_at_cons (m_s_bipush dX5_isCourt_1 (by decide)) <| m_at_cons (m_s_irem dX5_isCourt_3) <| m_at_cons (m_s_iconst dX5_isCourt_4 (by decide)) <| m_at_cons (m_s_icmp_lt dX5_isCourt_5 (by decide)) <| m_at_cons (m_s_iconst dX5_isCourt_8 (by decide)) <| m_at_cons (m_s_goto dX5_isCourt_9 (by decide)) <| m_at_cons (m_s_iconst dX5_isCourt_12 (by decide)) <| m_at_cons (m_s_zret (ty := .boolean) rfl m_nz dX5_isCourt_13) <| m_at_nil
set_option maxRecDepth 100000 in
theorem sX5_at : ∀ pc o, m_at tX5_at pc = some o → m_Snd D cA ra B ro m_M cX5_at 2 (some .int) RX5 "at" pc o :=
  m_at_cons (m_s_iload_n dX5_at_0 rfl) <| m_at_cons (m_s_if_lt dX5_at_1 (by decide)) <| m_at_cons (m_s_iload_n dX5_at_4 rfl) <| m_at_cons (m_s_aload_n dX5_at_5 rfl) <| m_at_cons (m_s_len dX5_at_6) <| m_at_cons (m_s_icmp_ge dX5_at_7 (by decide)) <| m_at_cons (m_s_aload_n dX5_at_10 rfl) <| m_at_cons (m_s_iload_n dX5_at_11 rfl) <| m_at_cons (m_s_ild (Or.inl ⟨rfl, dX5_at_12⟩)) <| m_at_cons (m_s_goto dX5_at_13 (by decide)) <| m_at_cons (m_s_iconst dX5_at_16 (by decide)) <| m_at_cons (m_s_iret rfl dX5_at_17) <| m_at_nil
set_option maxRecDepth 100000 in
theorem sX5_put : ∀ pc o, m_at tX5_put pc = some o → m_Snd D cA ra B ro m_M cX5_put 3 none RX5 "put" pc o :=
  m_at_cons (m_s_iload_n dX5_put_0 rfl) <| m_at_cons (m_s_if_lt dX5_put_1 (by decide)) <| m_at_cons (m_s_iload_n dX5_put_4 rfl) <| m_at_cons (m_s_aload_n dX5_put_5 rfl) <| m_at_cons (m_s_len dX5_put_6) <| m_at_cons (m_s_icmp_ge dX5_put_7 (by decide)) <| m_at_cons (m_s_aload_n dX5_put_10 rfl) <| m_at_cons (m_s_iload_n dX5_put_11 rfl) <| m_at_cons (m_s_iload_n dX5_put_12 rfl) <| m_at_cons (m_s_iast dX5_put_13) <| m_at_cons (m_s_vret rfl dX5_put_14) <| m_at_nil
set_option maxRecDepth 100000 in
theorem sX5_copyRow : ∀ pc o, m_at tX5_copyRow pc = some o → m_Snd D cA ra B ro m_M cX5_copyRow 2 none RX5 "copyRow" pc o :=
  m_at_cons (m_s_aload_n dX5_copyRow_0 rfl) <| m_at_cons (m_s_iconst dX5_copyRow_1 (by decide)) <| m_at_cons (m_s_aload_n dX5_copyRow_2 rfl) <| m_at_cons (m_s_iconst dX5_copyRow_3 (by decide)) <| m_at_cons (m_s_aload_n dX5_copyRow_4 rfl) <| m_at_cons (m_s_len dX5_copyRow_5) <| m_at_cons (m_s_aload_n dX5_copyRow_6 rfl) <| m_at_cons (m_s_len dX5_copyRow_7) <| m_at_cons (m_s_min wd_292 wd_18 wd_19 wd_20 dX5_copyRow_8) <| m_at_cons (m_s_copy wd_293 wd_294 wd_295 wd_296 dX5_copyRow_11) <| m_at_cons (m_s_vret rfl dX5_copyRow_14) <| m_at_nil
set_option maxRecDepth 100000 in
theorem sX5_courtsBeyond : ∀ pc o, m_at tX5_courtsBeyond pc = some o → m_Snd D cA ra B ro m_M cX5_courtsBeyond 4 (some .int) RX5 "courtsBeyond" pc o :=
  m_at_cons (m_s_iconst dX5_courtsBeyond_0 (by decide)) <| m_at_cons (m_s_istore_n dX5_courtsBeyond_1 rfl) <| m_at_cons (m_s_iconst dX5_courtsBeyond_2 (by decide)) <| m_at_cons (m_s_istore_n dX5_courtsBeyond_3 rfl) <| m_at_cons (m_s_iload_n dX5_courtsBeyond_4 rfl) <| m_at_cons (m_s_aload_n dX5_courtsBeyond_5 rfl) <| m_at_cons (m_s_len dX5_courtsBeyond_6) <| m_at_cons (m_s_icmp_ge dX5_courtsBeyond_7 (by decide)) <| m_at_cons (m_s_aload_n dX5_courtsBeyond_10 rfl) <| m_at_cons (m_s_iload_n dX5_courtsBeyond_11 rfl) <| m_at_cons (m_s_ild (Or.inl ⟨rfl, dX5_courtsBeyond_12⟩)) <| m_at_cons (m_s_abs wd_297 wd_298 wd_19 wd_299 dX5_courtsBeyond_13) <| m_at_cons (m_s_iload_n dX5_courtsBeyond_16 rfl) <| m_at_cons (m_s_icmp_le dX5_courtsBeyond_17 (by decide)) <| m_at_cons (m_s_iinc dX5_courtsBeyond_20 (by decide)) <| m_at_cons (m_s_iinc dX5_courtsBeyond_23 (by decide)) <| m_at_cons (m_s_goto dX5_courtsBeyond_26 (by decide)) <| m_at_cons (m_s_iload_n dX5_courtsBeyond_29 rfl) <| m_at_cons (m_s_iret rfl dX5_courtsBeyond_30) <| m_at_nil
set_option maxRecDepth 100000 in
theorem sX5_cellAt : ∀ pc o, m_at tX5_cellAt pc = some o → m_Snd D cA ra B ro m_M cX5_cellAt 4 (some .int) RX5 "cellAt" pc o :=
  m_at_cons (m_s_iload_n dX5_cellAt_0 rfl) <| m_at_cons (m_s_if_eq dX5_cellAt_1 (by decide)) <| m_at_cons (m_s_iload_n dX5_cellAt_4 rfl) <| m_at_cons (m_s_iconst dX5_cellAt_5 (by decide)) <| m_at_cons (m_s_icmp_ne dX5_cellAt_6 (by decide)) <| m_at_cons (m_s_iload_n dX5_cellAt_9 rfl) <| m_at_cons (m_s_bipush dX5_cellAt_10 (by decide)) <| m_at_cons (m_s_idiv dX5_cellAt_12) <| m_at_cons (m_s_istore_n dX5_cellAt_13 rfl) <| m_at_cons (m_s_iload_n dX5_cellAt_14 rfl) <| m_at_cons (m_s_iconst dX5_cellAt_15 (by decide)) <| m_at_cons (m_s_icmp_ne dX5_cellAt_16 (by decide)) <| m_at_cons (m_s_iload_n dX5_cellAt_19 rfl) <| m_at_cons (m_s_iconst dX5_cellAt_20 (by decide)) <| m_at_cons (m_s_irem dX5_cellAt_21) <| m_at_cons (m_s_iconst dX5_cellAt_22 (by decide)) <| m_at_cons (m_s_icmp_ne dX5_cellAt_23 (by decide)) <| m_at_cons (m_s_iconst dX5_cellAt_26 (by decide)) <| m_at_cons (m_s_goto dX5_cellAt_27 (by decide)) <| m_at_cons (m_s_iconst dX5_cellAt_30 (by decide)) <| m_at_cons (m_s_istore_n dX5_cellAt_31 rfl) <| m_at_cons (m_s_bipush dX5_cellAt_32 (by decide)) <| m_at_cons (m_s_iload_n dX5_cellAt_34 rfl) <| m_at_cons (m_s_imul dX5_cellAt_35) <| m_at_cons (m_s_iload_n dX5_cellAt_36 rfl) <| m_at_cons (m_s_bipush dX5_cellAt_37 (by decide)) <| m_at_cons (m_s_irem dX5_cellAt_39) <| m_at_cons (m_s_bipush dX5_cellAt_40 (by decide)) <| m_at_cons (m_s_iload_n dX5_cellAt_42 rfl) <| m_at_cons (m_s_cst (y := yX5_along) rfl (by decide) (Or.inl wd_300) wd_301 wd_32 wd_302 (by decide +kernel) dX5_cellAt_43) <| m_at_cons (m_s_iadd dX5_cellAt_46) <| m_at_cons (m_s_iret rfl dX5_cellAt_47) <| m_at_cons (m_s_iload_n dX5_cellAt_48 rfl) <| m_at_cons (m_s_iconst dX5_cellAt_49 (by decide)) <| m_at_cons (m_s_idiv dX5_cellAt_50) <| m_at_cons (m_s_istore_n dX5_cellAt_51 rfl) <| m_at_cons (m_s_iload_n dX5_cellAt_52 rfl) <| m_at_cons (m_s_iconst dX5_cellAt_53 (by decide)) <| m_at_cons (m_s_icmp_ne dX5_cellAt_54 (by decide)) <| m_at_cons (m_s_iload_n dX5_cellAt_57 rfl) <| m_at_cons (m_s_iconst dX5_cellAt_58 (by decide)) <| m_at_cons (m_s_irem dX5_cellAt_59) <| m_at_cons (m_s_iconst dX5_cellAt_60 (by decide)) <| m_at_cons (m_s_icmp_ne dX5_cellAt_61 (by decide)) <| m_at_cons (m_s_iconst dX5_cellAt_64 (by decide)) <| m_at_cons (m_s_goto dX5_cellAt_65 (by decide)) <| m_at_cons (m_s_iconst dX5_cellAt_68 (by decide)) <| m_at_cons (m_s_istore_n dX5_cellAt_69 rfl) <| m_at_cons (m_s_bipush dX5_cellAt_70 (by decide)) <| m_at_cons (m_s_iload_n dX5_cellAt_72 rfl) <| m_at_cons (m_s_iconst dX5_cellAt_73 (by decide)) <| m_at_cons (m_s_irem dX5_cellAt_74) <| m_at_cons (m_s_iconst dX5_cellAt_75 (by decide)) <| m_at_cons (m_s_iload_n dX5_cellAt_76 rfl) <| m_at_cons (m_s_cst (y := yX5_along) rfl (by decide) (Or.inl wd_300) wd_301 wd_32 wd_302 (by decide +kernel) dX5_cellAt_77) <| m_at_cons (m_s_imul dX5_cellAt_80) <| m_at_cons (m_s_iload_n dX5_cellAt_81 rfl) <| m_at_cons (m_s_iadd dX5_cellAt_82) <| m_at_cons (m_s_iret rfl dX5_cellAt_83) <| m_at_nil
set_option maxRecDepth 100000 in
theorem sX5_along : ∀ pc o, m_at tX5_along pc = some o → m_Snd D cA ra B ro m_M cX5_along 3 (some .int) RX5 "along" pc o :=
  m_at_cons (m_s_iload_n dX5_along_0 rfl) <| m_at_cons (m_s_if_eq dX5_along_1 (by decide)) <| m_at_cons (m_s_iload_n dX5_along_4 rfl) <| m_at_cons (m_s_iconst dX5_along_5 (by decide)) <| m_at_cons (m_s_isub dX5_along_6) <| m_at_cons (m_s_iload_n dX5_along_7 rfl) <| m_at_cons (m_s_isub dX5_along_8) <| m_at_cons (m_s_goto dX5_along_9 (by decide)) <| m_at_cons (m_s_iload_n dX5_along_12 rfl) <| m_at_cons (m_s_iret rfl dX5_along_13) <| m_at_nil
set_option maxRecDepth 100000 in
theorem sX5_placeBefore : ∀ pc o, m_at tX5_placeBefore pc = some o → m_Snd D cA ra B ro m_M cX5_placeBefore 4 (some .int) RX5 "placeBefore" pc o :=
  m_at_cons (m_s_iload_n dX5_placeBefore_0 rfl) <| m_at_cons (m_s_iload_n dX5_placeBefore_1 rfl) <| m_at_cons (m_s_iload_n dX5_placeBefore_2 rfl) <| m_at_cons (m_s_isub dX5_placeBefore_3) <| m_at_cons (m_s_min wd_292 wd_18 wd_19 wd_20 dX5_placeBefore_4) <| m_at_cons (m_s_istore_n dX5_placeBefore_7 rfl) <| m_at_cons (m_s_iload_n dX5_placeBefore_8 rfl) <| m_at_cons (m_s_iconst dX5_placeBefore_9 (by decide)) <| m_at_cons (m_s_iload_n dX5_placeBefore_10 rfl) <| m_at_cons (m_s_imul dX5_placeBefore_11) <| m_at_cons (m_s_icmp_lt dX5_placeBefore_12 (by decide)) <| m_at_cons (m_s_iload_n dX5_placeBefore_15 rfl) <| m_at_cons (m_s_iload_n dX5_placeBefore_16 rfl) <| m_at_cons (m_s_icmp_le dX5_placeBefore_17 (by decide)) <| m_at_cons (m_s_iload_n dX5_placeBefore_20 rfl) <| m_at_cons (m_s_iload_n dX5_placeBefore_21 rfl) <| m_at_cons (m_s_isub dX5_placeBefore_22) <| m_at_cons (m_s_goto dX5_placeBefore_23 (by decide)) <| m_at_cons (m_s_iload_n dX5_placeBefore_26 rfl) <| m_at_cons (m_s_iret rfl dX5_placeBefore_27) <| m_at_cons (m_s_iload_n dX5_placeBefore_28 rfl) <| m_at_cons (m_s_iconst dX5_placeBefore_29 (by decide)) <| m_at_cons (m_s_irem dX5_placeBefore_30) <| m_at_cons (m_s_if_ne dX5_placeBefore_31 (by decide)) <| m_at_cons (m_s_iload_n dX5_placeBefore_34 rfl) <| m_at_cons (m_s_iconst dX5_placeBefore_35 (by decide)) <| m_at_cons (m_s_idiv dX5_placeBefore_36) <| m_at_cons (m_s_goto dX5_placeBefore_37 (by decide)) <| m_at_cons (m_s_iload_n dX5_placeBefore_40 rfl) <| m_at_cons (m_s_iload_n dX5_placeBefore_41 rfl) <| m_at_cons (m_s_iconst dX5_placeBefore_42 (by decide)) <| m_at_cons (m_s_idiv dX5_placeBefore_43) <| m_at_cons (m_s_iadd dX5_placeBefore_44) <| m_at_cons (m_s_iret rfl dX5_placeBefore_45) <| m_at_nil
set_option maxRecDepth 100000 in
theorem sJ6_bitCount_0f7a4 : ∀ pc o, m_at tJ6_bitCount_0f7a4 pc = some o → m_Snd D cA ra B ro m_M cJ6_bitCount_0f7a4 1 (some .int) RJ6 "bitCount" pc o :=
  m_at_cons (m_s_iload_n dJ6_bitCount_0f7a4_0 rfl) <| m_at_cons (m_s_iload_n dJ6_bitCount_0f7a4_1 rfl) <| m_at_cons (m_s_iconst dJ6_bitCount_0f7a4_2 (by decide)) <| m_at_cons (m_s_iushr dJ6_bitCount_0f7a4_3) <| m_at_cons (m_s_ldcw wd_303 dJ6_bitCount_0f7a4_4) <| m_at_cons (m_s_iand dJ6_bitCount_0f7a4_7) <| m_at_cons (m_s_isub dJ6_bitCount_0f7a4_8) <| m_at_cons (m_s_istore_n dJ6_bitCount_0f7a4_9 rfl) <| m_at_cons (m_s_iload_n dJ6_bitCount_0f7a4_10 rfl) <| m_at_cons (m_s_ldcw wd_304 dJ6_bitCount_0f7a4_11) <| m_at_cons (m_s_iand dJ6_bitCount_0f7a4_14) <| m_at_cons (m_s_iload_n dJ6_bitCount_0f7a4_15 rfl) <| m_at_cons (m_s_iconst dJ6_bitCount_0f7a4_16 (by decide)) <| m_at_cons (m_s_iushr dJ6_bitCount_0f7a4_17) <| m_at_cons (m_s_ldcw wd_304 dJ6_bitCount_0f7a4_18) <| m_at_cons (m_s_iand dJ6_bitCount_0f7a4_21) <| m_at_cons (m_s_iadd dJ6_bitCount_0f7a4_22) <| m_at_cons (m_s_istore_n dJ6_bitCount_0f7a4_23 rfl) <| m_at_cons (m_s_iload_n dJ6_bitCount_0f7a4_24 rfl) <| m_at_cons (m_s_iload_n dJ6_bitCount_0f7a4_25 rfl) <| m_at_cons (m_s_iconst dJ6_bitCount_0f7a4_26 (by decide)) <| m_at_cons (m_s_iushr dJ6_bitCount_0f7a4_27) <| m_at_cons (m_s_iadd dJ6_bitCount_0f7a4_28) <| m_at_cons (m_s_ldcw wd_305 dJ6_bitCount_0f7a4_29) <| m_at_cons (m_s_iand dJ6_bitCount_0f7a4_32) <| m_at_cons (m_s_istore_n dJ6_bitCount_0f7a4_33 rfl) <| m_at_cons (m_s_iload_n dJ6_bitCount_0f7a4_34 rfl) <| m_at_cons (m_s_iload_n dJ6_bitCount_0f7a4_35 rfl) <| m_at_cons (m_s_bipush dJ6_bitCount_0f7a4_36 (by decide)) <| m_at_cons (m_s_iushr dJ6_bitCount_0f7a4_38) <| m_at_cons (m_s_iadd dJ6_bitCount_0f7a4_39) <| m_at_cons (m_s_istore_n dJ6_bitCount_0f7a4_40 rfl) <| m_at_cons (m_s_iload_n dJ6_bitCount_0f7a4_41 rfl) <| m_at_cons (m_s_iload_n dJ6_bitCount_0f7a4_42 rfl) <| m_at_cons (m_s_bipush dJ6_bitCount_0f7a4_43 (by decide)) <| m_at_cons (m_s_iushr dJ6_bitCount_0f7a4_45) <| m_at_cons (m_s_iadd dJ6_bitCount_0f7a4_46) <| m_at_cons (m_s_istore_n dJ6_bitCount_0f7a4_47 rfl) <| m_at_cons (m_s_iload_n dJ6_bitCount_0f7a4_48 rfl) <| m_at_cons (m_s_bipush dJ6_bitCount_0f7a4_49 (by decide)) <| m_at_cons (m_s_iand dJ6_bitCount_0f7a4_51) <| m_at_cons (m_s_iret rfl dJ6_bitCount_0f7a4_52) <| m_at_nil
set_option maxRecDepth 100000 in
theorem sL_cell : ∀ pc o, m_at tL_cell pc = some o → m_Snd D cA ra B ro m_M cL_cell 2 (some .int) RL "cell" pc o :=
  m_at_cons (m_s_iload_n dL_cell_0 rfl) <| m_at_cons (m_s_aload_n dL_cell_1 rfl) <| m_at_cons (m_s_len dL_cell_2) <| m_at_cons (m_s_icmp_ge dL_cell_3 (by decide)) <| m_at_cons (m_s_aload_n dL_cell_6 rfl) <| m_at_cons (m_s_iload_n dL_cell_7 rfl) <| m_at_cons (m_s_ild (Or.inl ⟨rfl, dL_cell_8⟩)) <| m_at_cons (m_s_goto dL_cell_9 (by decide)) <| m_at_cons (m_s_ldci wd_306 dL_cell_12) <| m_at_cons (m_s_iload_n dL_cell_14 rfl) <| m_at_cons (m_s_bipush dL_cell_15 (by decide)) <| m_at_cons (m_s_iadd dL_cell_17) <| m_at_cons (m_s_imul dL_cell_18) <| m_at_cons (m_s_ldci wd_307 dL_cell_19) <| m_at_cons (m_s_iadd dL_cell_21) <| m_at_cons (m_s_iret rfl dL_cell_22) <| m_at_nil
set_option maxRecDepth 100000 in
theorem sL_low : ∀ pc o, m_at tL_low pc = some o → m_Snd D cA ra B ro m_M cL_low 2 (some .int) RL "low" pc o :=
  m_at_cons (m_s_iload_n dL_low_0 rfl) <| m_at_cons (m_s_ldci wd_308 dL_low_1) <| m_at_cons (m_s_iand dL_low_3) <| m_at_cons (m_s_iload_n dL_low_4 rfl) <| m_at_cons (m_s_irem dL_low_5) <| m_at_cons (m_s_iret rfl dL_low_6) <| m_at_nil
set_option maxRecDepth 100000 in
theorem sL_ones : ∀ pc o, m_at tL_ones pc = some o → m_Snd D cA ra B ro m_M cL_ones 3 (some .int) RL "ones" pc o :=
  m_at_cons (m_s_iconst dL_ones_0 (by decide)) <| m_at_cons (m_s_istore_n dL_ones_1 rfl) <| m_at_cons (m_s_iload_n dL_ones_2 rfl) <| m_at_cons (m_s_istore_n dL_ones_3 rfl) <| m_at_cons (m_s_iload_n dL_ones_4 rfl) <| m_at_cons (m_s_if_eq dL_ones_5 (by decide)) <| m_at_cons (m_s_iinc dL_ones_8 (by decide)) <| m_at_cons (m_s_iload_n dL_ones_11 rfl) <| m_at_cons (m_s_iload_n dL_ones_12 rfl) <| m_at_cons (m_s_iconst dL_ones_13 (by decide)) <| m_at_cons (m_s_isub dL_ones_14) <| m_at_cons (m_s_iand dL_ones_15) <| m_at_cons (m_s_istore_n dL_ones_16 rfl) <| m_at_cons (m_s_goto dL_ones_17 (by decide)) <| m_at_cons (m_s_iload_n dL_ones_20 rfl) <| m_at_cons (m_s_iret rfl dL_ones_21) <| m_at_nil
set_option maxRecDepth 100000 in
theorem sL_court : ∀ pc o, m_at tL_court pc = some o → m_Snd D cA ra B ro m_M cL_court 1 (some .int) RL "court" pc o :=
  m_at_cons (m_s_iconst dL_court_0 (by decide)) <| m_at_cons (m_s_iload_n dL_court_1 rfl) <| m_at_cons (m_s_bipush dL_court_2 (by decide)) <| m_at_cons (m_s_idiv dL_court_4) <| m_at_cons (m_s_imul dL_court_5) <| m_at_cons (m_s_iload_n dL_court_6 rfl) <| m_at_cons (m_s_bipush dL_court_7 (by decide)) <| m_at_cons (m_s_irem dL_court_9) <| m_at_cons (m_s_iadd dL_court_10) <| m_at_cons (m_s_iconst dL_court_11 (by decide)) <| m_at_cons (m_s_isub dL_court_12) <| m_at_cons (m_s_iret rfl dL_court_13) <| m_at_nil
set_option maxRecDepth 100000 in
theorem sL_sheetAt : ∀ pc o, m_at tL_sheetAt pc = some o → m_Snd D cA ra B ro m_M cL_sheetAt 3 (some .int) RL "sheetAt" pc o :=
  m_at_cons (m_s_aload_n dL_sheetAt_0 rfl) <| m_at_cons (m_s_bipush dL_sheetAt_1 (by decide)) <| m_at_cons (m_s_iload_n dL_sheetAt_3 rfl) <| m_at_cons (m_s_imul dL_sheetAt_4) <| m_at_cons (m_s_iload_n dL_sheetAt_5 rfl) <| m_at_cons (m_s_iconst dL_sheetAt_6 (by decide)) <| m_at_cons (m_s_idiv dL_sheetAt_7) <| m_at_cons (m_s_iadd dL_sheetAt_8) <| m_at_cons (m_s_ild (Or.inl ⟨rfl, dL_sheetAt_9⟩)) <| m_at_cons (m_s_bipush dL_sheetAt_10 (by decide)) <| m_at_cons (m_s_iload_n dL_sheetAt_12 rfl) <| m_at_cons (m_s_iconst dL_sheetAt_13 (by decide)) <| m_at_cons (m_s_irem dL_sheetAt_14) <| m_at_cons (m_s_imul dL_sheetAt_15) <| m_at_cons (m_s_ishr dL_sheetAt_16) <| m_at_cons (m_s_sipush dL_sheetAt_17 (by decide)) <| m_at_cons (m_s_iand dL_sheetAt_20) <| m_at_cons (m_s_iret rfl dL_sheetAt_21) <| m_at_nil
set_option maxRecDepth 100000 in
theorem sL_prints_0 : ∀ pc o, m_at tL_prints_0 pc = some o → m_Snd D cA ra B ro m_M cL_prints 8 none RL "prints" pc o :=
  m_at_cons (m_s_bipush dL_prints_0 (by decide)) <| m_at_cons (m_s_aload_n dL_prints_2 rfl) <| m_at_cons (m_s_iconst dL_prints_3 (by decide)) <| m_at_cons (m_s_ild (Or.inl ⟨rfl, dL_prints_4⟩)) <| m_at_cons (m_s_imul dL_prints_5) <| m_at_cons (m_s_istore dL_prints_6) <| m_at_cons (m_s_iconst dL_prints_8 (by decide)) <| m_at_cons (m_s_istore dL_prints_9) <| m_at_cons (m_s_iload dL_prints_11) <| m_at_cons (m_s_bipush dL_prints_13 (by decide)) <| m_at_cons (m_s_icmp_ge dL_prints_15 (by decide)) <| m_at_cons (m_s_aload dL_prints_18) <| m_at_cons (m_s_iload dL_prints_20) <| m_at_cons (m_s_iload dL_prints_22) <| m_at_cons (m_s_iadd dL_prints_24) <| m_at_cons (m_s_iconst dL_prints_25 (by decide)) <| m_at_cons (m_s_iast dL_prints_26) <| m_at_cons (m_s_iinc dL_prints_27 (by decide)) <| m_at_cons (m_s_goto dL_prints_30 (by decide)) <| m_at_cons (m_s_iconst dL_prints_33 (by decide)) <| m_at_cons (m_s_istore dL_prints_34) <| m_at_cons (m_s_iload dL_prints_36) <| m_at_cons (m_s_bipush dL_prints_38 (by decide)) <| m_at_cons (m_s_icmp_ge dL_prints_40 (by decide)) <| m_at_cons (m_s_aload dL_prints_43) <| m_at_cons (m_s_iload dL_prints_45) <| m_at_cons (m_s_iload dL_prints_47) <| m_at_cons (m_s_iconst dL_prints_49 (by decide)) <| m_at_cons (m_s_idiv dL_prints_50) <| m_at_cons (m_s_iadd dL_prints_51) <| m_at_cons (m_s_dup2 dL_prints_52) <| m_at_cons (m_s_ild (Or.inl ⟨rfl, dL_prints_53⟩)) <| m_at_cons (m_s_aload_n dL_prints_54 rfl) <| m_at_cons (m_s_iload dL_prints_55) <| m_at_cons (m_s_ild (Or.inl ⟨rfl, dL_prints_57⟩)) <| m_at_cons (m_s_bipush dL_prints_58 (by decide)) <| m_at_cons (m_s_aload_n dL_prints_60 rfl) <| m_at_cons (m_s_iload_n dL_prints_61 rfl) <| m_at_cons (m_s_if_eq dL_prints_62 (by decide)) <| m_at_cons (m_s_bipush dL_prints_65 (by decide)) <| m_at_cons (m_s_iload dL_prints_67) <| m_at_cons (m_s_isub dL_prints_69) <| m_at_cons (m_s_goto dL_prints_70 (by decide)) <| m_at_cons (m_s_iload dL_prints_73) <| m_at_cons (m_s_ild (Or.inl ⟨rfl, dL_prints_75⟩)) <| m_at_cons (m_s_imul dL_prints_76) <| m_at_cons (m_s_iadd dL_prints_77) <| m_at_cons (m_s_bipush dL_prints_78 (by decide)) <| m_at_cons (m_s_iload dL_prints_80) <| m_at_cons (m_s_iconst dL_prints_82 (by decide)) <| m_at_cons (m_s_irem dL_prints_83) <| m_at_cons (m_s_imul dL_prints_84) <| m_at_cons (m_s_ishl dL_prints_85) <| m_at_cons (m_s_ior dL_prints_86) <| m_at_cons (m_s_iast dL_prints_87) <| m_at_cons (m_s_iinc dL_prints_88 (by decide)) <| m_at_cons (m_s_goto dL_prints_91 (by decide)) <| m_at_cons (m_s_iconst dL_prints_94 (by decide)) <| m_at_cons (m_s_istore dL_prints_95) <| m_at_cons (m_s_iload dL_prints_97) <| m_at_nil
set_option maxRecDepth 100000 in
theorem sL_prints_1 : ∀ pc o, m_at tL_prints_1 pc = some o → m_Snd D cA ra B ro m_M cL_prints 8 none RL "prints" pc o :=
  m_at_cons (m_s_bipush dL_prints_99 (by decide)) <| m_at_cons (m_s_icmp_ge dL_prints_101 (by decide)) <| m_at_cons (m_s_aload dL_prints_104) <| m_at_cons (m_s_iload dL_prints_106) <| m_at_cons (m_s_bipush dL_prints_108 (by decide)) <| m_at_cons (m_s_iadd dL_prints_110) <| m_at_cons (m_s_iload dL_prints_111) <| m_at_cons (m_s_bipush dL_prints_113 (by decide)) <| m_at_cons (m_s_idiv dL_prints_115) <| m_at_cons (m_s_iadd dL_prints_116) <| m_at_cons (m_s_dup2 dL_prints_117) <| m_at_cons (m_s_ild (Or.inl ⟨rfl, dL_prints_118⟩)) <| m_at_cons (m_s_aload dL_prints_119) <| m_at_cons (m_s_iload dL_prints_121) <| m_at_cons (m_s_ild (Or.inl ⟨rfl, dL_prints_123⟩)) <| m_at_cons (m_s_bipush dL_prints_124 (by decide)) <| m_at_cons (m_s_iadd dL_prints_126) <| m_at_cons (m_s_iconst dL_prints_127 (by decide)) <| m_at_cons (m_s_iload dL_prints_128) <| m_at_cons (m_s_bipush dL_prints_130 (by decide)) <| m_at_cons (m_s_irem dL_prints_132) <| m_at_cons (m_s_imul dL_prints_133) <| m_at_cons (m_s_ishl dL_prints_134) <| m_at_cons (m_s_ior dL_prints_135) <| m_at_cons (m_s_iast dL_prints_136) <| m_at_cons (m_s_iinc dL_prints_137 (by decide)) <| m_at_cons (m_s_goto dL_prints_140 (by decide)) <| m_at_cons (m_s_aload_n dL_prints_143 rfl) <| m_at_cons (m_s_iconst dL_prints_144 (by decide)) <| m_at_cons (m_s_dup2 dL_prints_145) <| m_at_cons (m_s_ild (Or.inl ⟨rfl, dL_prints_146⟩)) <| m_at_cons (m_s_iconst dL_prints_147 (by decide)) <| m_at_cons (m_s_iadd dL_prints_148) <| m_at_cons (m_s_iast dL_prints_149) <| m_at_cons (m_s_aload_n dL_prints_150 rfl) <| m_at_cons (m_s_iconst dL_prints_151 (by decide)) <| m_at_cons (m_s_dup2 dL_prints_152) <| m_at_cons (m_s_ild (Or.inl ⟨rfl, dL_prints_153⟩)) <| m_at_cons (m_s_iconst dL_prints_154 (by decide)) <| m_at_cons (m_s_iadd dL_prints_155) <| m_at_cons (m_s_iast dL_prints_156) <| m_at_cons (m_s_aload_n dL_prints_157 rfl) <| m_at_cons (m_s_iconst dL_prints_158 (by decide)) <| m_at_cons (m_s_ild (Or.inl ⟨rfl, dL_prints_159⟩)) <| m_at_cons (m_s_aload_n dL_prints_160 rfl) <| m_at_cons (m_s_iconst dL_prints_161 (by decide)) <| m_at_cons (m_s_ild (Or.inl ⟨rfl, dL_prints_162⟩)) <| m_at_cons (m_s_irem dL_prints_163) <| m_at_cons (m_s_if_ne dL_prints_164 (by decide)) <| m_at_cons (m_s_aload_n dL_prints_167 rfl) <| m_at_cons (m_s_aload_n dL_prints_168 rfl) <| m_at_cons (m_s_iconst dL_prints_169 (by decide)) <| m_at_cons (m_s_ild (Or.inl ⟨rfl, dL_prints_170⟩)) <| m_at_cons (m_s_bipush dL_prints_171 (by decide)) <| m_at_cons (m_s_irem dL_prints_173) <| m_at_cons (m_s_dup2 dL_prints_174) <| m_at_cons (m_s_ild (Or.inl ⟨rfl, dL_prints_175⟩)) <| m_at_cons (m_s_iconst dL_prints_176 (by decide)) <| m_at_cons (m_s_aload_n dL_prints_177 rfl) <| m_at_cons (m_s_iconst dL_prints_178 (by decide)) <| m_at_nil
set_option maxRecDepth 100000 in
theorem sL_prints_2 : ∀ pc o, m_at tL_prints_2 pc = some o → m_Snd D cA ra B ro m_M cL_prints 8 none RL "prints" pc o :=
  m_at_cons (m_s_ild (Or.inl ⟨rfl, dL_prints_179⟩)) <| m_at_cons (m_s_aload_n dL_prints_180 rfl) <| m_at_cons (m_s_iconst dL_prints_181 (by decide)) <| m_at_cons (m_s_ild (Or.inl ⟨rfl, dL_prints_182⟩)) <| m_at_cons (m_s_idiv dL_prints_183) <| m_at_cons (m_s_iconst dL_prints_184 (by decide)) <| m_at_cons (m_s_irem dL_prints_185) <| m_at_cons (m_s_ishl dL_prints_186) <| m_at_cons (m_s_ior dL_prints_187) <| m_at_cons (m_s_iast dL_prints_188) <| m_at_cons (m_s_vret rfl dL_prints_189) <| m_at_nil
set_option maxRecDepth 100000 in
theorem sL_prints : ∀ pc o, m_at tL_prints pc = some o → m_Snd D cA ra B ro m_M cL_prints 8 none RL "prints" pc o := m_at_app sL_prints_0 (m_at_app sL_prints_1 (sL_prints_2))
set_option maxRecDepth 100000 in
theorem sL_cellAt : ∀ pc o, m_at tL_cellAt pc = some o → m_Snd D cA ra B ro m_M cL_cellAt 4 (some .int) RL "cellAt" pc o :=
  m_at_cons (m_s_iload_n dL_cellAt_0 rfl) <| m_at_cons (m_s_iconst dL_cellAt_1 (by decide)) <| m_at_cons (m_s_irem dL_cellAt_2) <| m_at_cons (m_s_if_ne dL_cellAt_3 (by decide)) <| m_at_cons (m_s_iload_n dL_cellAt_6 rfl) <| m_at_cons (m_s_bipush dL_cellAt_7 (by decide)) <| m_at_cons (m_s_idiv dL_cellAt_9) <| m_at_cons (m_s_goto dL_cellAt_10 (by decide)) <| m_at_cons (m_s_iload_n dL_cellAt_13 rfl) <| m_at_cons (m_s_iconst dL_cellAt_14 (by decide)) <| m_at_cons (m_s_irem dL_cellAt_15) <| m_at_cons (m_s_istore_n dL_cellAt_16 rfl) <| m_at_cons (m_s_iload_n dL_cellAt_17 rfl) <| m_at_cons (m_s_iconst dL_cellAt_18 (by decide)) <| m_at_cons (m_s_irem dL_cellAt_19) <| m_at_cons (m_s_if_ne dL_cellAt_20 (by decide)) <| m_at_cons (m_s_iload_n dL_cellAt_23 rfl) <| m_at_cons (m_s_bipush dL_cellAt_24 (by decide)) <| m_at_cons (m_s_irem dL_cellAt_26) <| m_at_cons (m_s_goto dL_cellAt_27 (by decide)) <| m_at_cons (m_s_iload_n dL_cellAt_30 rfl) <| m_at_cons (m_s_iconst dL_cellAt_31 (by decide)) <| m_at_cons (m_s_idiv dL_cellAt_32) <| m_at_cons (m_s_istore_n dL_cellAt_33 rfl) <| m_at_cons (m_s_iload_n dL_cellAt_34 rfl) <| m_at_cons (m_s_iconst dL_cellAt_35 (by decide)) <| m_at_cons (m_s_icmp_ne dL_cellAt_36 (by decide)) <| m_at_cons (m_s_iload_n dL_cellAt_39 rfl) <| m_at_cons (m_s_iconst dL_cellAt_40 (by decide)) <| m_at_cons (m_s_irem dL_cellAt_41) <| m_at_cons (m_s_iconst dL_cellAt_42 (by decide)) <| m_at_cons (m_s_icmp_ne dL_cellAt_43 (by decide)) <| m_at_cons (m_s_iconst dL_cellAt_46 (by decide)) <| m_at_cons (m_s_iload_n dL_cellAt_47 rfl) <| m_at_cons (m_s_isub dL_cellAt_48) <| m_at_cons (m_s_istore_n dL_cellAt_49 rfl) <| m_at_cons (m_s_iload_n dL_cellAt_50 rfl) <| m_at_cons (m_s_iconst dL_cellAt_51 (by decide)) <| m_at_cons (m_s_icmp_ne dL_cellAt_52 (by decide)) <| m_at_cons (m_s_iload_n dL_cellAt_55 rfl) <| m_at_cons (m_s_iconst dL_cellAt_56 (by decide)) <| m_at_cons (m_s_irem dL_cellAt_57) <| m_at_cons (m_s_iconst dL_cellAt_58 (by decide)) <| m_at_cons (m_s_icmp_ne dL_cellAt_59 (by decide)) <| m_at_cons (m_s_iconst dL_cellAt_62 (by decide)) <| m_at_cons (m_s_iload_n dL_cellAt_63 rfl) <| m_at_cons (m_s_isub dL_cellAt_64) <| m_at_cons (m_s_istore_n dL_cellAt_65 rfl) <| m_at_cons (m_s_bipush dL_cellAt_66 (by decide)) <| m_at_cons (m_s_iload_n dL_cellAt_68 rfl) <| m_at_cons (m_s_imul dL_cellAt_69) <| m_at_cons (m_s_iload_n dL_cellAt_70 rfl) <| m_at_cons (m_s_iadd dL_cellAt_71) <| m_at_cons (m_s_iret rfl dL_cellAt_72) <| m_at_nil
set_option maxRecDepth 100000 in
theorem sL_cuts_0 : ∀ pc o, m_at tL_cuts_0 pc = some o → m_Snd D cA ra B ro m_M cL_cuts 8 none RL "cuts" pc o :=
  m_at_cons (m_s_aload_n dL_cuts_0 rfl) <| m_at_cons (m_s_iconst dL_cuts_1 (by decide)) <| m_at_cons (m_s_dup2 dL_cuts_2) <| m_at_cons (m_s_ild (Or.inl ⟨rfl, dL_cuts_3⟩)) <| m_at_cons (m_s_iconst dL_cuts_4 (by decide)) <| m_at_cons (m_s_isub dL_cuts_5) <| m_at_cons (m_s_iast dL_cuts_6) <| m_at_cons (m_s_iconst dL_cuts_7 (by decide)) <| m_at_cons (m_s_istore dL_cuts_8) <| m_at_cons (m_s_iload dL_cuts_10) <| m_at_cons (m_s_bipush dL_cuts_12 (by decide)) <| m_at_cons (m_s_icmp_ge dL_cuts_14 (by decide)) <| m_at_cons (m_s_aload_n dL_cuts_17 rfl) <| m_at_cons (m_s_iconst dL_cuts_18 (by decide)) <| m_at_cons (m_s_ild (Or.inl ⟨rfl, dL_cuts_19⟩)) <| m_at_cons (m_s_iload dL_cuts_20) <| m_at_cons (m_s_iload_n dL_cuts_22 rfl) <| m_at_cons (m_s_cst (y := yL_cellAt) rfl (by decide) (Or.inl wd_309) wd_310 wd_311 wd_312 (by decide +kernel) dL_cuts_23) <| m_at_cons (m_s_aload_n dL_cuts_26 rfl) <| m_at_cons (m_s_cst (y := yL_sheetAt) rfl (by decide) (Or.inl wd_313) wd_314 wd_311 wd_315 (by decide +kernel) dL_cuts_27) <| m_at_cons (m_s_istore dL_cuts_30) <| m_at_cons (m_s_aload_n dL_cuts_32 rfl) <| m_at_cons (m_s_iload dL_cuts_33) <| m_at_cons (m_s_iload dL_cuts_35) <| m_at_cons (m_s_bipush dL_cuts_37 (by decide)) <| m_at_cons (m_s_iand dL_cuts_39) <| m_at_cons (m_s_iast dL_cuts_40) <| m_at_cons (m_s_aload dL_cuts_41) <| m_at_cons (m_s_iload dL_cuts_43) <| m_at_cons (m_s_bipush dL_cuts_45 (by decide)) <| m_at_cons (m_s_iand dL_cuts_47) <| m_at_cons (m_s_iload dL_cuts_48) <| m_at_cons (m_s_iconst dL_cuts_50 (by decide)) <| m_at_cons (m_s_ishr dL_cuts_51) <| m_at_cons (m_s_iast dL_cuts_52) <| m_at_cons (m_s_iinc dL_cuts_53 (by decide)) <| m_at_cons (m_s_goto dL_cuts_56 (by decide)) <| m_at_cons (m_s_iconst dL_cuts_59 (by decide)) <| m_at_cons (m_s_istore dL_cuts_60) <| m_at_cons (m_s_iload dL_cuts_62) <| m_at_cons (m_s_bipush dL_cuts_64 (by decide)) <| m_at_cons (m_s_icmp_ge dL_cuts_66 (by decide)) <| m_at_cons (m_s_aload dL_cuts_69) <| m_at_cons (m_s_iload dL_cuts_71) <| m_at_cons (m_s_aload_n dL_cuts_73 rfl) <| m_at_cons (m_s_bipush dL_cuts_74 (by decide)) <| m_at_cons (m_s_aload_n dL_cuts_76 rfl) <| m_at_cons (m_s_iconst dL_cuts_77 (by decide)) <| m_at_cons (m_s_ild (Or.inl ⟨rfl, dL_cuts_78⟩)) <| m_at_cons (m_s_imul dL_cuts_79) <| m_at_cons (m_s_bipush dL_cuts_80 (by decide)) <| m_at_cons (m_s_iadd dL_cuts_82) <| m_at_cons (m_s_iload dL_cuts_83) <| m_at_cons (m_s_bipush dL_cuts_85 (by decide)) <| m_at_cons (m_s_idiv dL_cuts_87) <| m_at_cons (m_s_iadd dL_cuts_88) <| m_at_cons (m_s_ild (Or.inl ⟨rfl, dL_cuts_89⟩)) <| m_at_cons (m_s_iconst dL_cuts_90 (by decide)) <| m_at_cons (m_s_iload dL_cuts_91) <| m_at_cons (m_s_bipush dL_cuts_93 (by decide)) <| m_at_nil
set_option maxRecDepth 100000 in
theorem sL_cuts_1 : ∀ pc o, m_at tL_cuts_1 pc = some o → m_Snd D cA ra B ro m_M cL_cuts 8 none RL "cuts" pc o :=
  m_at_cons (m_s_irem dL_cuts_95) <| m_at_cons (m_s_imul dL_cuts_96) <| m_at_cons (m_s_ishr dL_cuts_97) <| m_at_cons (m_s_bipush dL_cuts_98 (by decide)) <| m_at_cons (m_s_iand dL_cuts_100) <| m_at_cons (m_s_bipush dL_cuts_101 (by decide)) <| m_at_cons (m_s_isub dL_cuts_103) <| m_at_cons (m_s_iast dL_cuts_104) <| m_at_cons (m_s_iinc dL_cuts_105 (by decide)) <| m_at_cons (m_s_goto dL_cuts_108 (by decide)) <| m_at_cons (m_s_aload_n dL_cuts_111 rfl) <| m_at_cons (m_s_bipush dL_cuts_112 (by decide)) <| m_at_cons (m_s_iconst dL_cuts_114 (by decide)) <| m_at_cons (m_s_iast dL_cuts_115) <| m_at_cons (m_s_aload_n dL_cuts_116 rfl) <| m_at_cons (m_s_bipush dL_cuts_117 (by decide)) <| m_at_cons (m_s_bipush dL_cuts_119 (by decide)) <| m_at_cons (m_s_iast dL_cuts_121) <| m_at_cons (m_s_aload_n dL_cuts_122 rfl) <| m_at_cons (m_s_bipush dL_cuts_123 (by decide)) <| m_at_cons (m_s_iconst dL_cuts_125 (by decide)) <| m_at_cons (m_s_iast dL_cuts_126) <| m_at_cons (m_s_vret rfl dL_cuts_127) <| m_at_nil
set_option maxRecDepth 100000 in
theorem sL_cuts : ∀ pc o, m_at tL_cuts pc = some o → m_Snd D cA ra B ro m_M cL_cuts 8 none RL "cuts" pc o := m_at_app sL_cuts_0 (sL_cuts_1)
set_option maxRecDepth 100000 in
theorem sL_shuffles_0 : ∀ pc o, m_at tL_shuffles_0 pc = some o → m_Snd D cA ra B ro m_M cL_shuffles 8 (some .int) RL "shuffles" pc o :=
  m_at_cons (m_s_bipush dL_shuffles_0 (by decide)) <| m_at_cons (m_s_nar (f := .int) rfl (fun _ => rfl) rfl (by decide) (fun _ _ _ g1 g2 => Option.some.inj (g1.symm.trans g2)) wd_26 dL_shuffles_2) <| m_at_cons (m_s_astore_n dL_shuffles_4 rfl) <| m_at_cons (m_s_iconst dL_shuffles_5 (by decide)) <| m_at_cons (m_s_istore dL_shuffles_6) <| m_at_cons (m_s_iload_n dL_shuffles_8 rfl) <| m_at_cons (m_s_istore dL_shuffles_9) <| m_at_cons (m_s_iconst dL_shuffles_11 (by decide)) <| m_at_cons (m_s_istore dL_shuffles_12) <| m_at_cons (m_s_iload dL_shuffles_14) <| m_at_cons (m_s_aload_n dL_shuffles_16 rfl) <| m_at_cons (m_s_bipush dL_shuffles_17 (by decide)) <| m_at_cons (m_s_ild (Or.inl ⟨rfl, dL_shuffles_19⟩)) <| m_at_cons (m_s_icmp_ge dL_shuffles_20 (by decide)) <| m_at_cons (m_s_iload dL_shuffles_23) <| m_at_cons (m_s_aload_n dL_shuffles_25 rfl) <| m_at_cons (m_s_bipush dL_shuffles_26 (by decide)) <| m_at_cons (m_s_ild (Or.inl ⟨rfl, dL_shuffles_28⟩)) <| m_at_cons (m_s_icmp_eq dL_shuffles_29 (by decide)) <| m_at_cons (m_s_iload dL_shuffles_32) <| m_at_cons (m_s_iload_n dL_shuffles_34 rfl) <| m_at_cons (m_s_icmp_ge dL_shuffles_35 (by decide)) <| m_at_cons (m_s_iload dL_shuffles_38) <| m_at_cons (m_s_iload dL_shuffles_40) <| m_at_cons (m_s_iload_n dL_shuffles_42 rfl) <| m_at_cons (m_s_isub dL_shuffles_43) <| m_at_cons (m_s_icmp_gt dL_shuffles_44 (by decide)) <| m_at_cons (m_s_iconst dL_shuffles_47 (by decide)) <| m_at_cons (m_s_goto dL_shuffles_48 (by decide)) <| m_at_cons (m_s_iconst dL_shuffles_51 (by decide)) <| m_at_cons (m_s_istore dL_shuffles_52) <| m_at_cons (m_s_aload_n dL_shuffles_54 rfl) <| m_at_cons (m_s_iload dL_shuffles_55) <| m_at_cons (m_s_iload dL_shuffles_57) <| m_at_cons (m_s_if_eq dL_shuffles_59 (by decide)) <| m_at_cons (m_s_aload_n dL_shuffles_62 rfl) <| m_at_cons (m_s_iload dL_shuffles_63) <| m_at_cons (m_s_ild (Or.inl ⟨rfl, dL_shuffles_65⟩)) <| m_at_cons (m_s_goto dL_shuffles_66 (by decide)) <| m_at_cons (m_s_aload_n dL_shuffles_69 rfl) <| m_at_cons (m_s_iload dL_shuffles_70) <| m_at_cons (m_s_ild (Or.inl ⟨rfl, dL_shuffles_72⟩)) <| m_at_cons (m_s_iast dL_shuffles_73) <| m_at_cons (m_s_iload dL_shuffles_74) <| m_at_cons (m_s_iload dL_shuffles_76) <| m_at_cons (m_s_if_eq dL_shuffles_78 (by decide)) <| m_at_cons (m_s_iconst dL_shuffles_81 (by decide)) <| m_at_cons (m_s_goto dL_shuffles_82 (by decide)) <| m_at_cons (m_s_iconst dL_shuffles_85 (by decide)) <| m_at_cons (m_s_iadd dL_shuffles_86) <| m_at_cons (m_s_istore dL_shuffles_87) <| m_at_cons (m_s_iload dL_shuffles_89) <| m_at_cons (m_s_iload dL_shuffles_91) <| m_at_cons (m_s_if_eq dL_shuffles_93 (by decide)) <| m_at_cons (m_s_iconst dL_shuffles_96 (by decide)) <| m_at_cons (m_s_goto dL_shuffles_97 (by decide)) <| m_at_cons (m_s_iconst dL_shuffles_100 (by decide)) <| m_at_cons (m_s_iadd dL_shuffles_101) <| m_at_cons (m_s_istore dL_shuffles_102) <| m_at_cons (m_s_iinc dL_shuffles_104 (by decide)) <| m_at_nil
set_option maxRecDepth 100000 in
theorem sL_shuffles_1 : ∀ pc o, m_at tL_shuffles_1 pc = some o → m_Snd D cA ra B ro m_M cL_shuffles 8 (some .int) RL "shuffles" pc o :=
  m_at_cons (m_s_goto dL_shuffles_107 (by decide)) <| m_at_cons (m_s_iconst dL_shuffles_110 (by decide)) <| m_at_cons (m_s_istore dL_shuffles_111) <| m_at_cons (m_s_iconst dL_shuffles_113 (by decide)) <| m_at_cons (m_s_istore dL_shuffles_114) <| m_at_cons (m_s_iload dL_shuffles_116) <| m_at_cons (m_s_aload_n dL_shuffles_118 rfl) <| m_at_cons (m_s_bipush dL_shuffles_119 (by decide)) <| m_at_cons (m_s_ild (Or.inl ⟨rfl, dL_shuffles_121⟩)) <| m_at_cons (m_s_icmp_ge dL_shuffles_122 (by decide)) <| m_at_cons (m_s_iload dL_shuffles_125) <| m_at_cons (m_s_aload_n dL_shuffles_127 rfl) <| m_at_cons (m_s_iload dL_shuffles_128) <| m_at_cons (m_s_ild (Or.inl ⟨rfl, dL_shuffles_130⟩)) <| m_at_cons (m_s_aload_n dL_shuffles_131 rfl) <| m_at_cons (m_s_iload dL_shuffles_132) <| m_at_cons (m_s_ild (Or.inl ⟨rfl, dL_shuffles_134⟩)) <| m_at_cons (m_s_icmp_ne dL_shuffles_135 (by decide)) <| m_at_cons (m_s_iconst dL_shuffles_138 (by decide)) <| m_at_cons (m_s_goto dL_shuffles_139 (by decide)) <| m_at_cons (m_s_iconst dL_shuffles_142 (by decide)) <| m_at_cons (m_s_iadd dL_shuffles_143) <| m_at_cons (m_s_istore dL_shuffles_144) <| m_at_cons (m_s_aload_n dL_shuffles_146 rfl) <| m_at_cons (m_s_iload dL_shuffles_147) <| m_at_cons (m_s_aload_n dL_shuffles_149 rfl) <| m_at_cons (m_s_iload dL_shuffles_150) <| m_at_cons (m_s_ild (Or.inl ⟨rfl, dL_shuffles_152⟩)) <| m_at_cons (m_s_iast dL_shuffles_153) <| m_at_cons (m_s_iinc dL_shuffles_154 (by decide)) <| m_at_cons (m_s_goto dL_shuffles_157 (by decide)) <| m_at_cons (m_s_iload dL_shuffles_160) <| m_at_cons (m_s_iret rfl dL_shuffles_162) <| m_at_nil
set_option maxRecDepth 100000 in
theorem sL_shuffles : ∀ pc o, m_at tL_shuffles pc = some o → m_Snd D cA ra B ro m_M cL_shuffles 8 (some .int) RL "shuffles" pc o := m_at_app sL_shuffles_0 (sL_shuffles_1)
set_option maxRecDepth 100000 in
theorem sL_turns : ∀ pc o, m_at tL_turns pc = some o → m_Snd D cA ra B ro m_M cL_turns 6 none RL "turns" pc o :=
  m_at_cons (m_s_iconst dL_turns_0 (by decide)) <| m_at_cons (m_s_istore_n dL_turns_1 rfl) <| m_at_cons (m_s_iload_n dL_turns_2 rfl) <| m_at_cons (m_s_iload_n dL_turns_3 rfl) <| m_at_cons (m_s_icmp_ge dL_turns_4 (by decide)) <| m_at_cons (m_s_aload_n dL_turns_7 rfl) <| m_at_cons (m_s_iconst dL_turns_8 (by decide)) <| m_at_cons (m_s_ild (Or.inl ⟨rfl, dL_turns_9⟩)) <| m_at_cons (m_s_istore dL_turns_10) <| m_at_cons (m_s_iconst dL_turns_12 (by decide)) <| m_at_cons (m_s_istore dL_turns_13) <| m_at_cons (m_s_iload dL_turns_15) <| m_at_cons (m_s_iconst dL_turns_17 (by decide)) <| m_at_cons (m_s_iadd dL_turns_18) <| m_at_cons (m_s_aload_n dL_turns_19 rfl) <| m_at_cons (m_s_bipush dL_turns_20 (by decide)) <| m_at_cons (m_s_ild (Or.inl ⟨rfl, dL_turns_22⟩)) <| m_at_cons (m_s_icmp_ge dL_turns_23 (by decide)) <| m_at_cons (m_s_aload_n dL_turns_26 rfl) <| m_at_cons (m_s_iload dL_turns_27) <| m_at_cons (m_s_aload_n dL_turns_29 rfl) <| m_at_cons (m_s_iload dL_turns_30) <| m_at_cons (m_s_iconst dL_turns_32 (by decide)) <| m_at_cons (m_s_iadd dL_turns_33) <| m_at_cons (m_s_ild (Or.inl ⟨rfl, dL_turns_34⟩)) <| m_at_cons (m_s_iast dL_turns_35) <| m_at_cons (m_s_iinc dL_turns_36 (by decide)) <| m_at_cons (m_s_goto dL_turns_39 (by decide)) <| m_at_cons (m_s_aload_n dL_turns_42 rfl) <| m_at_cons (m_s_aload_n dL_turns_43 rfl) <| m_at_cons (m_s_bipush dL_turns_44 (by decide)) <| m_at_cons (m_s_ild (Or.inl ⟨rfl, dL_turns_46⟩)) <| m_at_cons (m_s_iconst dL_turns_47 (by decide)) <| m_at_cons (m_s_isub dL_turns_48) <| m_at_cons (m_s_iload dL_turns_49) <| m_at_cons (m_s_iast dL_turns_51) <| m_at_cons (m_s_iinc dL_turns_52 (by decide)) <| m_at_cons (m_s_goto dL_turns_55 (by decide)) <| m_at_cons (m_s_vret rfl dL_turns_58) <| m_at_nil
set_option maxRecDepth 100000 in
theorem sL_alike : ∀ pc o, m_at tL_alike pc = some o → m_Snd D cA ra B ro m_M cL_alike 7 (some .int) RL "alike" pc o :=
  m_at_cons (m_s_iconst dL_alike_0 (by decide)) <| m_at_cons (m_s_istore_n dL_alike_1 rfl) <| m_at_cons (m_s_iconst dL_alike_2 (by decide)) <| m_at_cons (m_s_istore dL_alike_3) <| m_at_cons (m_s_iconst dL_alike_5 (by decide)) <| m_at_cons (m_s_istore dL_alike_6) <| m_at_cons (m_s_iload dL_alike_8) <| m_at_cons (m_s_bipush dL_alike_10 (by decide)) <| m_at_cons (m_s_icmp_ge dL_alike_12 (by decide)) <| m_at_cons (m_s_aload_n dL_alike_15 rfl) <| m_at_cons (m_s_bipush dL_alike_16 (by decide)) <| m_at_cons (m_s_ild (Or.inl ⟨rfl, dL_alike_18⟩)) <| m_at_cons (m_s_iload dL_alike_19) <| m_at_cons (m_s_ishr dL_alike_21) <| m_at_cons (m_s_iconst dL_alike_22 (by decide)) <| m_at_cons (m_s_iand dL_alike_23) <| m_at_cons (m_s_if_ne dL_alike_24 (by decide)) <| m_at_cons (m_s_aload_n dL_alike_27 rfl) <| m_at_cons (m_s_iload dL_alike_28) <| m_at_cons (m_s_ild (Or.inl ⟨rfl, dL_alike_30⟩)) <| m_at_cons (m_s_iload_n dL_alike_31 rfl) <| m_at_cons (m_s_icmp_ne dL_alike_32 (by decide)) <| m_at_cons (m_s_iconst dL_alike_35 (by decide)) <| m_at_cons (m_s_goto dL_alike_36 (by decide)) <| m_at_cons (m_s_iconst dL_alike_39 (by decide)) <| m_at_cons (m_s_istore dL_alike_40) <| m_at_cons (m_s_iload_n dL_alike_42 rfl) <| m_at_cons (m_s_iload dL_alike_43) <| m_at_cons (m_s_if_eq dL_alike_45 (by decide)) <| m_at_cons (m_s_iconst dL_alike_48 (by decide)) <| m_at_cons (m_s_goto dL_alike_49 (by decide)) <| m_at_cons (m_s_iconst dL_alike_52 (by decide)) <| m_at_cons (m_s_iadd dL_alike_53) <| m_at_cons (m_s_istore_n dL_alike_54 rfl) <| m_at_cons (m_s_iload dL_alike_55) <| m_at_cons (m_s_if_eq dL_alike_57 (by decide)) <| m_at_cons (m_s_iload dL_alike_60) <| m_at_cons (m_s_if_ge dL_alike_62 (by decide)) <| m_at_cons (m_s_iload dL_alike_65) <| m_at_cons (m_s_goto dL_alike_67 (by decide)) <| m_at_cons (m_s_iload dL_alike_70) <| m_at_cons (m_s_istore dL_alike_72) <| m_at_cons (m_s_iinc dL_alike_74 (by decide)) <| m_at_cons (m_s_goto dL_alike_77 (by decide)) <| m_at_cons (m_s_iload_n dL_alike_80 rfl) <| m_at_cons (m_s_bipush dL_alike_81 (by decide)) <| m_at_cons (m_s_iload dL_alike_83) <| m_at_cons (m_s_imul dL_alike_85) <| m_at_cons (m_s_iadd dL_alike_86) <| m_at_cons (m_s_iret rfl dL_alike_87) <| m_at_nil
set_option maxRecDepth 100000 in
theorem sL_known : ∀ pc o, m_at tL_known pc = some o → m_Snd D cA ra B ro m_M cL_known 5 (some .int) RL "known" pc o :=
  m_at_cons (m_s_iconst dL_known_0 (by decide)) <| m_at_cons (m_s_istore_n dL_known_1 rfl) <| m_at_cons (m_s_iconst dL_known_2 (by decide)) <| m_at_cons (m_s_istore dL_known_3) <| m_at_cons (m_s_iload dL_known_5) <| m_at_cons (m_s_aload_n dL_known_7 rfl) <| m_at_cons (m_s_bipush dL_known_8 (by decide)) <| m_at_cons (m_s_ild (Or.inl ⟨rfl, dL_known_10⟩)) <| m_at_cons (m_s_icmp_ge dL_known_11 (by decide)) <| m_at_cons (m_s_iload_n dL_known_14 rfl) <| m_at_cons (m_s_aload_n dL_known_15 rfl) <| m_at_cons (m_s_aload_n dL_known_16 rfl) <| m_at_cons (m_s_iload dL_known_17) <| m_at_cons (m_s_ild (Or.inl ⟨rfl, dL_known_19⟩)) <| m_at_cons (m_s_ild (Or.inl ⟨rfl, dL_known_20⟩)) <| m_at_cons (m_s_aload_n dL_known_21 rfl) <| m_at_cons (m_s_aload_n dL_known_22 rfl) <| m_at_cons (m_s_cst (y := yL_alike) rfl (by decide) (Or.inl wd_316) wd_317 wd_311 wd_318 (by decide +kernel) dL_known_23) <| m_at_cons (m_s_bipush dL_known_26 (by decide)) <| m_at_cons (m_s_irem dL_known_28) <| m_at_cons (m_s_iconst dL_known_29 (by decide)) <| m_at_cons (m_s_icmp_ne dL_known_30 (by decide)) <| m_at_cons (m_s_iconst dL_known_33 (by decide)) <| m_at_cons (m_s_goto dL_known_34 (by decide)) <| m_at_cons (m_s_iconst dL_known_37 (by decide)) <| m_at_cons (m_s_iadd dL_known_38) <| m_at_cons (m_s_istore_n dL_known_39 rfl) <| m_at_cons (m_s_iinc dL_known_40 (by decide)) <| m_at_cons (m_s_goto dL_known_43 (by decide)) <| m_at_cons (m_s_iload_n dL_known_46 rfl) <| m_at_cons (m_s_iret rfl dL_known_47) <| m_at_nil
set_option maxRecDepth 100000 in
theorem sL_leaning : ∀ pc o, m_at tL_leaning pc = some o → m_Snd D cA ra B ro m_M cL_leaning 4 (some .int) RL "leaning" pc o :=
  m_at_cons (m_s_iconst dL_leaning_0 (by decide)) <| m_at_cons (m_s_istore_n dL_leaning_1 rfl) <| m_at_cons (m_s_iconst dL_leaning_2 (by decide)) <| m_at_cons (m_s_istore_n dL_leaning_3 rfl) <| m_at_cons (m_s_iload_n dL_leaning_4 rfl) <| m_at_cons (m_s_bipush dL_leaning_5 (by decide)) <| m_at_cons (m_s_icmp_ge dL_leaning_7 (by decide)) <| m_at_cons (m_s_iload_n dL_leaning_10 rfl) <| m_at_cons (m_s_aload_n dL_leaning_11 rfl) <| m_at_cons (m_s_iload_n dL_leaning_12 rfl) <| m_at_cons (m_s_ild (Or.inl ⟨rfl, dL_leaning_13⟩)) <| m_at_cons (m_s_iload_n dL_leaning_14 rfl) <| m_at_cons (m_s_icmp_gt dL_leaning_15 (by decide)) <| m_at_cons (m_s_aload_n dL_leaning_18 rfl) <| m_at_cons (m_s_iload_n dL_leaning_19 rfl) <| m_at_cons (m_s_ild (Or.inl ⟨rfl, dL_leaning_20⟩)) <| m_at_cons (m_s_ineg dL_leaning_21) <| m_at_cons (m_s_iload_n dL_leaning_22 rfl) <| m_at_cons (m_s_icmp_le dL_leaning_23 (by decide)) <| m_at_cons (m_s_iconst dL_leaning_26 (by decide)) <| m_at_cons (m_s_goto dL_leaning_27 (by decide)) <| m_at_cons (m_s_iconst dL_leaning_30 (by decide)) <| m_at_cons (m_s_iadd dL_leaning_31) <| m_at_cons (m_s_istore_n dL_leaning_32 rfl) <| m_at_cons (m_s_iinc dL_leaning_33 (by decide)) <| m_at_cons (m_s_goto dL_leaning_36 (by decide)) <| m_at_cons (m_s_iload_n dL_leaning_39 rfl) <| m_at_cons (m_s_iret rfl dL_leaning_40) <| m_at_nil
set_option maxRecDepth 100000 in
theorem sL_why : ∀ pc o, m_at tL_why pc = some o → m_Snd D cA ra B ro m_M cL_why 4 (some .int) RL "why" pc o :=
  m_at_cons (m_s_aload_n dL_why_0 rfl) <| m_at_cons (m_s_bipush dL_why_1 (by decide)) <| m_at_cons (m_s_ild (Or.inl ⟨rfl, dL_why_3⟩)) <| m_at_cons (m_s_if_ne dL_why_4 (by decide)) <| m_at_cons (m_s_bipush dL_why_7 (by decide)) <| m_at_cons (m_s_goto dL_why_9 (by decide)) <| m_at_cons (m_s_aload_n dL_why_12 rfl) <| m_at_cons (m_s_bipush dL_why_13 (by decide)) <| m_at_cons (m_s_ild (Or.inl ⟨rfl, dL_why_15⟩)) <| m_at_cons (m_s_bipush dL_why_16 (by decide)) <| m_at_cons (m_s_icmp_ge dL_why_18 (by decide)) <| m_at_cons (m_s_iconst dL_why_21 (by decide)) <| m_at_cons (m_s_goto dL_why_22 (by decide)) <| m_at_cons (m_s_aload_n dL_why_25 rfl) <| m_at_cons (m_s_iconst dL_why_26 (by decide)) <| m_at_cons (m_s_ild (Or.inl ⟨rfl, dL_why_27⟩)) <| m_at_cons (m_s_aload_n dL_why_28 rfl) <| m_at_cons (m_s_cst (y := yL_leaning) rfl (by decide) (Or.inl wd_319) wd_320 wd_311 wd_321 (by decide +kernel) dL_why_29) <| m_at_cons (m_s_if_le dL_why_32 (by decide)) <| m_at_cons (m_s_iconst dL_why_35 (by decide)) <| m_at_cons (m_s_goto dL_why_36 (by decide)) <| m_at_cons (m_s_aload_n dL_why_39 rfl) <| m_at_cons (m_s_aload_n dL_why_40 rfl) <| m_at_cons (m_s_aload_n dL_why_41 rfl) <| m_at_cons (m_s_cst (y := yL_known) rfl (by decide) (Or.inl wd_322) wd_323 wd_311 wd_324 (by decide +kernel) dL_why_42) <| m_at_cons (m_s_aload_n dL_why_45 rfl) <| m_at_cons (m_s_iconst dL_why_46 (by decide)) <| m_at_cons (m_s_ild (Or.inl ⟨rfl, dL_why_47⟩)) <| m_at_cons (m_s_icmp_le dL_why_48 (by decide)) <| m_at_cons (m_s_iconst dL_why_51 (by decide)) <| m_at_cons (m_s_goto dL_why_52 (by decide)) <| m_at_cons (m_s_iconst dL_why_55 (by decide)) <| m_at_cons (m_s_iret rfl dL_why_56) <| m_at_nil
set_option maxRecDepth 100000 in
theorem sL_call_0 : ∀ pc o, m_at tL_call_0 pc = some o → m_Snd D cA ra B ro m_M cL_call 5 (some .int) RL "call" pc o :=
  m_at_cons (m_s_iload_n dL_call_0 rfl) <| m_at_cons (m_s_tsw dL_call_1 (by decide) (by decide) (by decide +kernel)) <| m_at_cons (m_s_aload_n dL_call_56 rfl) <| m_at_cons (m_s_iload_n dL_call_57 rfl) <| m_at_cons (m_s_iload_n dL_call_58 rfl) <| m_at_cons (m_s_cob (T := TX5) (N := 6) (y := yX5_swap) rfl rfl (by decide) (Or.inl wd_325) wd_326 wd_327 wd_32 wd_328 (by decide +kernel) dL_call_59) <| m_at_cons (m_s_iret rfl dL_call_62) <| m_at_cons (m_s_aload_n dL_call_63 rfl) <| m_at_cons (m_s_iload_n dL_call_64 rfl) <| m_at_cons (m_s_iload_n dL_call_65 rfl) <| m_at_cons (m_s_iload dL_call_66) <| m_at_cons (m_s_iconst dL_call_68 (by decide)) <| m_at_cons (m_s_icmp_ne dL_call_69 (by decide)) <| m_at_cons (m_s_iconst dL_call_72 (by decide)) <| m_at_cons (m_s_goto dL_call_73 (by decide)) <| m_at_cons (m_s_iconst dL_call_76 (by decide)) <| m_at_cons (m_s_cob (T := TX5) (N := 6) (y := yX5_mark) rfl rfl (by decide) (Or.inl wd_329) wd_330 wd_331 wd_32 wd_332 (by decide +kernel) dL_call_77) <| m_at_cons (m_s_iret rfl dL_call_80) <| m_at_cons (m_s_aload_n dL_call_81 rfl) <| m_at_cons (m_s_iload_n dL_call_82 rfl) <| m_at_cons (m_s_iload dL_call_83) <| m_at_cons (m_s_bipush dL_call_85 (by decide)) <| m_at_cons (m_s_isub dL_call_87) <| m_at_cons (m_s_cob (T := TX5) (N := 6) (y := yX5_lean) rfl rfl (by decide) (Or.inl wd_333) wd_334 wd_335 wd_32 wd_336 (by decide +kernel) dL_call_88) <| m_at_cons (m_s_iret rfl dL_call_91) <| m_at_cons (m_s_aload_n dL_call_92 rfl) <| m_at_cons (m_s_iload_n dL_call_93 rfl) <| m_at_cons (m_s_iload_n dL_call_94 rfl) <| m_at_cons (m_s_cob (T := TX5) (N := 6) (y := yX5_set) rfl rfl (by decide) (Or.inl wd_337) wd_338 wd_339 wd_32 wd_340 (by decide +kernel) dL_call_95) <| m_at_cons (m_s_iret rfl dL_call_98) <| m_at_cons (m_s_aload_n dL_call_99 rfl) <| m_at_cons (m_s_iload_n dL_call_100 rfl) <| m_at_cons (m_s_iconst dL_call_101 (by decide)) <| m_at_cons (m_s_icmp_ne dL_call_102 (by decide)) <| m_at_cons (m_s_iconst dL_call_105 (by decide)) <| m_at_cons (m_s_goto dL_call_106 (by decide)) <| m_at_cons (m_s_iconst dL_call_109 (by decide)) <| m_at_cons (m_s_cob (T := TX5) (N := 6) (y := yX5_print) rfl rfl (by decide) (Or.inl wd_341) wd_342 wd_343 wd_32 wd_344 (by decide +kernel) dL_call_110) <| m_at_cons (m_s_iret rfl dL_call_113) <| m_at_cons (m_s_aload_n dL_call_114 rfl) <| m_at_cons (m_s_iload_n dL_call_115 rfl) <| m_at_cons (m_s_cob (T := TX5) (N := 6) (y := yX5_cutSheet) rfl rfl (by decide) (Or.inl wd_345) wd_346 wd_347 wd_32 wd_348 (by decide +kernel) dL_call_116) <| m_at_cons (m_s_iret rfl dL_call_119) <| m_at_cons (m_s_aload_n dL_call_120 rfl) <| m_at_cons (m_s_iload_n dL_call_121 rfl) <| m_at_cons (m_s_cob (T := TX5) (N := 6) (y := yX5_cutPack) rfl rfl (by decide) (Or.inl wd_349) wd_350 wd_351 wd_32 wd_352 (by decide +kernel) dL_call_122) <| m_at_cons (m_s_iret rfl dL_call_125) <| m_at_cons (m_s_aload_n dL_call_126 rfl) <| m_at_cons (m_s_iload_n dL_call_127 rfl) <| m_at_cons (m_s_cob (T := TX5) (N := 6) (y := yX5_shuffle) rfl rfl (by decide) (Or.inl wd_353) wd_354 wd_355 wd_32 wd_356 (by decide +kernel) dL_call_128) <| m_at_cons (m_s_iret rfl dL_call_131) <| m_at_cons (m_s_aload_n dL_call_132 rfl) <| m_at_cons (m_s_iload_n dL_call_133 rfl) <| m_at_cons (m_s_cob (T := TX5) (N := 6) (y := yX5_deal) rfl rfl (by decide) (Or.inl wd_357) wd_358 wd_359 wd_32 wd_360 (by decide +kernel) dL_call_134) <| m_at_cons (m_s_iret rfl dL_call_137) <| m_at_cons (m_s_aload_n dL_call_138 rfl) <| m_at_cons (m_s_cob (T := TX5) (N := 6) (y := yX5_sell) rfl rfl (by decide) (Or.inl wd_361) wd_362 wd_363 wd_32 wd_364 (by decide +kernel) dL_call_139) <| m_at_cons (m_s_iret rfl dL_call_142) <| m_at_cons (m_s_aload_n dL_call_143 rfl) <| m_at_cons (m_s_cob (T := TX5) (N := 6) (y := yX5_pulp) rfl rfl (by decide) (Or.inl wd_365) wd_366 wd_367 wd_32 wd_368 (by decide +kernel) dL_call_144) <| m_at_nil
set_option maxRecDepth 100000 in
theorem sL_call_1 : ∀ pc o, m_at tL_call_1 pc = some o → m_Snd D cA ra B ro m_M cL_call 5 (some .int) RL "call" pc o :=
  m_at_cons (m_s_iret rfl dL_call_147) <| m_at_nil
set_option maxRecDepth 100000 in
theorem sL_call : ∀ pc o, m_at tL_call pc = some o → m_Snd D cA ra B ro m_M cL_call 5 (some .int) RL "call" pc o := m_at_app sL_call_0 (sL_call_1)
set_option maxRecDepth 100000 in
theorem sL_ofBlocks_0 : ∀ pc o, m_at tL_ofBlocks_0 pc = some o → m_Snd D cA ra B ro m_M cL_ofBlocks 9 (some .int) RL "ofBlocks" pc o :=
  m_at_cons (m_s_iload_n dL_ofBlocks_0 rfl) <| m_at_cons (m_s_if_ne dL_ofBlocks_1 (by decide)) <| m_at_cons (m_s_aload dL_ofBlocks_4) <| m_at_cons (m_s_iload_n dL_ofBlocks_6 rfl) <| m_at_cons (m_s_ild (Or.inl ⟨rfl, dL_ofBlocks_7⟩)) <| m_at_cons (m_s_istore dL_ofBlocks_8) <| m_at_cons (m_s_aload dL_ofBlocks_10) <| m_at_cons (m_s_iload_n dL_ofBlocks_12 rfl) <| m_at_cons (m_s_aload dL_ofBlocks_13) <| m_at_cons (m_s_iload_n dL_ofBlocks_15 rfl) <| m_at_cons (m_s_ild (Or.inl ⟨rfl, dL_ofBlocks_16⟩)) <| m_at_cons (m_s_iast dL_ofBlocks_17) <| m_at_cons (m_s_aload dL_ofBlocks_18) <| m_at_cons (m_s_iload_n dL_ofBlocks_20 rfl) <| m_at_cons (m_s_iload dL_ofBlocks_21) <| m_at_cons (m_s_iast dL_ofBlocks_23) <| m_at_cons (m_s_iload_n dL_ofBlocks_24 rfl) <| m_at_cons (m_s_iload_n dL_ofBlocks_25 rfl) <| m_at_cons (m_s_icmp_ne dL_ofBlocks_26 (by decide)) <| m_at_cons (m_s_bipush dL_ofBlocks_29 (by decide)) <| m_at_cons (m_s_goto dL_ofBlocks_31 (by decide)) <| m_at_cons (m_s_aload dL_ofBlocks_34) <| m_at_cons (m_s_iload_n dL_ofBlocks_36 rfl) <| m_at_cons (m_s_ild (Or.inl ⟨rfl, dL_ofBlocks_37⟩)) <| m_at_cons (m_s_iret rfl dL_ofBlocks_38) <| m_at_cons (m_s_iload_n dL_ofBlocks_39 rfl) <| m_at_cons (m_s_iconst dL_ofBlocks_40 (by decide)) <| m_at_cons (m_s_icmp_ne dL_ofBlocks_41 (by decide)) <| m_at_cons (m_s_aload dL_ofBlocks_44) <| m_at_cons (m_s_iload_n dL_ofBlocks_46 rfl) <| m_at_cons (m_s_ild (Or.inl ⟨rfl, dL_ofBlocks_47⟩)) <| m_at_cons (m_s_iload_n dL_ofBlocks_48 rfl) <| m_at_cons (m_s_ishr dL_ofBlocks_49) <| m_at_cons (m_s_iconst dL_ofBlocks_50 (by decide)) <| m_at_cons (m_s_iand dL_ofBlocks_51) <| m_at_cons (m_s_iload_n dL_ofBlocks_52 rfl) <| m_at_cons (m_s_icmp_ne dL_ofBlocks_53 (by decide)) <| m_at_cons (m_s_iconst dL_ofBlocks_56 (by decide)) <| m_at_cons (m_s_goto dL_ofBlocks_57 (by decide)) <| m_at_cons (m_s_iconst dL_ofBlocks_60 (by decide)) <| m_at_cons (m_s_istore dL_ofBlocks_61) <| m_at_cons (m_s_aload dL_ofBlocks_63) <| m_at_cons (m_s_iload_n dL_ofBlocks_65 rfl) <| m_at_cons (m_s_iload_n dL_ofBlocks_66 rfl) <| m_at_cons (m_s_iconst dL_ofBlocks_67 (by decide)) <| m_at_cons (m_s_icmp_ne dL_ofBlocks_68 (by decide)) <| m_at_cons (m_s_aload dL_ofBlocks_71) <| m_at_cons (m_s_iload_n dL_ofBlocks_73 rfl) <| m_at_cons (m_s_ild (Or.inl ⟨rfl, dL_ofBlocks_74⟩)) <| m_at_cons (m_s_iconst dL_ofBlocks_75 (by decide)) <| m_at_cons (m_s_iload_n dL_ofBlocks_76 rfl) <| m_at_cons (m_s_ishl dL_ofBlocks_77) <| m_at_cons (m_s_ior dL_ofBlocks_78) <| m_at_cons (m_s_goto dL_ofBlocks_79 (by decide)) <| m_at_cons (m_s_aload dL_ofBlocks_82) <| m_at_cons (m_s_iload_n dL_ofBlocks_84 rfl) <| m_at_cons (m_s_ild (Or.inl ⟨rfl, dL_ofBlocks_85⟩)) <| m_at_cons (m_s_iconst dL_ofBlocks_86 (by decide)) <| m_at_cons (m_s_iload_n dL_ofBlocks_87 rfl) <| m_at_cons (m_s_ishl dL_ofBlocks_88) <| m_at_nil
set_option maxRecDepth 100000 in
theorem sL_ofBlocks_1 : ∀ pc o, m_at tL_ofBlocks_1 pc = some o → m_Snd D cA ra B ro m_M cL_ofBlocks 9 (some .int) RL "ofBlocks" pc o :=
  m_at_cons (m_s_iconst dL_ofBlocks_89 (by decide)) <| m_at_cons (m_s_ixor dL_ofBlocks_90) <| m_at_cons (m_s_iand dL_ofBlocks_91) <| m_at_cons (m_s_iast dL_ofBlocks_92) <| m_at_cons (m_s_iload dL_ofBlocks_93) <| m_at_cons (m_s_if_eq dL_ofBlocks_95 (by decide)) <| m_at_cons (m_s_bipush dL_ofBlocks_98 (by decide)) <| m_at_cons (m_s_goto dL_ofBlocks_100 (by decide)) <| m_at_cons (m_s_aload dL_ofBlocks_103) <| m_at_cons (m_s_iload_n dL_ofBlocks_105 rfl) <| m_at_cons (m_s_ild (Or.inl ⟨rfl, dL_ofBlocks_106⟩)) <| m_at_cons (m_s_iret rfl dL_ofBlocks_107) <| m_at_cons (m_s_iload_n dL_ofBlocks_108 rfl) <| m_at_cons (m_s_iconst dL_ofBlocks_109 (by decide)) <| m_at_cons (m_s_icmp_ne dL_ofBlocks_110 (by decide)) <| m_at_cons (m_s_iload_n dL_ofBlocks_113 rfl) <| m_at_cons (m_s_bipush dL_ofBlocks_114 (by decide)) <| m_at_cons (m_s_irem dL_ofBlocks_116) <| m_at_cons (m_s_iconst dL_ofBlocks_117 (by decide)) <| m_at_cons (m_s_icmp_ge dL_ofBlocks_118 (by decide)) <| m_at_cons (m_s_bipush dL_ofBlocks_121 (by decide)) <| m_at_cons (m_s_iret rfl dL_ofBlocks_123) <| m_at_cons (m_s_aload dL_ofBlocks_124) <| m_at_cons (m_s_iload_n dL_ofBlocks_126 rfl) <| m_at_cons (m_s_cst (y := yL_court) rfl (by decide) (Or.inl wd_369) wd_370 wd_311 wd_371 (by decide +kernel) dL_ofBlocks_127) <| m_at_cons (m_s_ild (Or.inl ⟨rfl, dL_ofBlocks_130⟩)) <| m_at_cons (m_s_istore dL_ofBlocks_131) <| m_at_cons (m_s_aload dL_ofBlocks_133) <| m_at_cons (m_s_iload_n dL_ofBlocks_135 rfl) <| m_at_cons (m_s_cst (y := yL_court) rfl (by decide) (Or.inl wd_369) wd_370 wd_311 wd_371 (by decide +kernel) dL_ofBlocks_136) <| m_at_cons (m_s_iload_n dL_ofBlocks_139 rfl) <| m_at_cons (m_s_bipush dL_ofBlocks_140 (by decide)) <| m_at_cons (m_s_isub dL_ofBlocks_142) <| m_at_cons (m_s_iast dL_ofBlocks_143) <| m_at_cons (m_s_iload dL_ofBlocks_144) <| m_at_cons (m_s_iload_n dL_ofBlocks_146 rfl) <| m_at_cons (m_s_bipush dL_ofBlocks_147 (by decide)) <| m_at_cons (m_s_isub dL_ofBlocks_149) <| m_at_cons (m_s_icmp_ne dL_ofBlocks_150 (by decide)) <| m_at_cons (m_s_bipush dL_ofBlocks_153 (by decide)) <| m_at_cons (m_s_goto dL_ofBlocks_155 (by decide)) <| m_at_cons (m_s_iload dL_ofBlocks_158) <| m_at_cons (m_s_bipush dL_ofBlocks_160 (by decide)) <| m_at_cons (m_s_iadd dL_ofBlocks_162) <| m_at_cons (m_s_iret rfl dL_ofBlocks_163) <| m_at_cons (m_s_aload dL_ofBlocks_164) <| m_at_cons (m_s_iload_n dL_ofBlocks_166 rfl) <| m_at_cons (m_s_ild (Or.inl ⟨rfl, dL_ofBlocks_167⟩)) <| m_at_cons (m_s_istore dL_ofBlocks_168) <| m_at_cons (m_s_aload dL_ofBlocks_170) <| m_at_cons (m_s_iload_n dL_ofBlocks_172 rfl) <| m_at_cons (m_s_iload_n dL_ofBlocks_173 rfl) <| m_at_cons (m_s_iast dL_ofBlocks_174) <| m_at_cons (m_s_iload dL_ofBlocks_175) <| m_at_cons (m_s_iload_n dL_ofBlocks_177 rfl) <| m_at_cons (m_s_icmp_ne dL_ofBlocks_178 (by decide)) <| m_at_cons (m_s_bipush dL_ofBlocks_181 (by decide)) <| m_at_cons (m_s_goto dL_ofBlocks_183 (by decide)) <| m_at_cons (m_s_iload dL_ofBlocks_186) <| m_at_cons (m_s_iret rfl dL_ofBlocks_188) <| m_at_nil
set_option maxRecDepth 100000 in
theorem sL_ofBlocks : ∀ pc o, m_at tL_ofBlocks pc = some o → m_Snd D cA ra B ro m_M cL_ofBlocks 9 (some .int) RL "ofBlocks" pc o := m_at_app sL_ofBlocks_0 (sL_ofBlocks_1)
set_option maxRecDepth 100000 in
theorem sL_ofPack_0 : ∀ pc o, m_at tL_ofPack_0 pc = some o → m_Snd D cA ra B ro m_M cL_ofPack 9 (some .int) RL "ofPack" pc o :=
  m_at_cons (m_s_iload_n dL_ofPack_0 rfl) <| m_at_cons (m_s_iconst dL_ofPack_1 (by decide)) <| m_at_cons (m_s_icmp_ne dL_ofPack_2 (by decide)) <| m_at_cons (m_s_aload_n dL_ofPack_5 rfl) <| m_at_cons (m_s_bipush dL_ofPack_6 (by decide)) <| m_at_cons (m_s_ild (Or.inl ⟨rfl, dL_ofPack_8⟩)) <| m_at_cons (m_s_iconst dL_ofPack_9 (by decide)) <| m_at_cons (m_s_icmp_eq dL_ofPack_10 (by decide)) <| m_at_cons (m_s_aload_n dL_ofPack_13 rfl) <| m_at_cons (m_s_iconst dL_ofPack_14 (by decide)) <| m_at_cons (m_s_ild (Or.inl ⟨rfl, dL_ofPack_15⟩)) <| m_at_cons (m_s_if_ne dL_ofPack_16 (by decide)) <| m_at_cons (m_s_bipush dL_ofPack_19 (by decide)) <| m_at_cons (m_s_iret rfl dL_ofPack_21) <| m_at_cons (m_s_iload_n dL_ofPack_22 rfl) <| m_at_cons (m_s_aload_n dL_ofPack_23 rfl) <| m_at_cons (m_s_aload_n dL_ofPack_24 rfl) <| m_at_cons (m_s_aload dL_ofPack_25) <| m_at_cons (m_s_aload dL_ofPack_27) <| m_at_cons (m_s_aload dL_ofPack_29) <| m_at_cons (m_s_cst (y := yL_cuts) rfl (by decide) (Or.inl wd_372) wd_373 wd_311 wd_374 (by decide +kernel) dL_ofPack_31) <| m_at_cons (m_s_aload_n dL_ofPack_34 rfl) <| m_at_cons (m_s_iconst dL_ofPack_35 (by decide)) <| m_at_cons (m_s_ild (Or.inl ⟨rfl, dL_ofPack_36⟩)) <| m_at_cons (m_s_iret rfl dL_ofPack_37) <| m_at_cons (m_s_aload_n dL_ofPack_38 rfl) <| m_at_cons (m_s_bipush dL_ofPack_39 (by decide)) <| m_at_cons (m_s_ild (Or.inl ⟨rfl, dL_ofPack_41⟩)) <| m_at_cons (m_s_if_ne dL_ofPack_42 (by decide)) <| m_at_cons (m_s_bipush dL_ofPack_45 (by decide)) <| m_at_cons (m_s_iret rfl dL_ofPack_47) <| m_at_cons (m_s_iload_n dL_ofPack_48 rfl) <| m_at_cons (m_s_bipush dL_ofPack_49 (by decide)) <| m_at_cons (m_s_icmp_ge dL_ofPack_51 (by decide)) <| m_at_cons (m_s_iload_n dL_ofPack_54 rfl) <| m_at_cons (m_s_aload_n dL_ofPack_55 rfl) <| m_at_cons (m_s_bipush dL_ofPack_56 (by decide)) <| m_at_cons (m_s_ild (Or.inl ⟨rfl, dL_ofPack_58⟩)) <| m_at_cons (m_s_icmp_ge dL_ofPack_59 (by decide)) <| m_at_cons (m_s_iload_n dL_ofPack_62 rfl) <| m_at_cons (m_s_bipush dL_ofPack_63 (by decide)) <| m_at_cons (m_s_icmp_ne dL_ofPack_65 (by decide)) <| m_at_cons (m_s_iload_n dL_ofPack_68 rfl) <| m_at_cons (m_s_aload_n dL_ofPack_69 rfl) <| m_at_cons (m_s_bipush dL_ofPack_70 (by decide)) <| m_at_cons (m_s_ild (Or.inl ⟨rfl, dL_ofPack_72⟩)) <| m_at_cons (m_s_icmp_le dL_ofPack_73 (by decide)) <| m_at_cons (m_s_bipush dL_ofPack_76 (by decide)) <| m_at_cons (m_s_iret rfl dL_ofPack_78) <| m_at_cons (m_s_aload_n dL_ofPack_79 rfl) <| m_at_cons (m_s_bipush dL_ofPack_80 (by decide)) <| m_at_cons (m_s_ild (Or.inl ⟨rfl, dL_ofPack_82⟩)) <| m_at_cons (m_s_istore dL_ofPack_83) <| m_at_cons (m_s_iload_n dL_ofPack_85 rfl) <| m_at_cons (m_s_bipush dL_ofPack_86 (by decide)) <| m_at_cons (m_s_icmp_ne dL_ofPack_88 (by decide)) <| m_at_cons (m_s_iload_n dL_ofPack_91 rfl) <| m_at_cons (m_s_aload_n dL_ofPack_92 rfl) <| m_at_cons (m_s_aload dL_ofPack_93) <| m_at_cons (m_s_cst (y := yL_turns) rfl (by decide) (Or.inl wd_375) wd_376 wd_311 wd_377 (by decide +kernel) dL_ofPack_95) <| m_at_nil
set_option maxRecDepth 100000 in
theorem sL_ofPack_1 : ∀ pc o, m_at tL_ofPack_1 pc = some o → m_Snd D cA ra B ro m_M cL_ofPack 9 (some .int) RL "ofPack" pc o :=
  m_at_cons (m_s_aload dL_ofPack_98) <| m_at_cons (m_s_iconst dL_ofPack_100 (by decide)) <| m_at_cons (m_s_ild (Or.inl ⟨rfl, dL_ofPack_101⟩)) <| m_at_cons (m_s_iret rfl dL_ofPack_102) <| m_at_cons (m_s_iload_n dL_ofPack_103 rfl) <| m_at_cons (m_s_bipush dL_ofPack_104 (by decide)) <| m_at_cons (m_s_icmp_ne dL_ofPack_106 (by decide)) <| m_at_cons (m_s_iload_n dL_ofPack_109 rfl) <| m_at_cons (m_s_aload_n dL_ofPack_110 rfl) <| m_at_cons (m_s_aload dL_ofPack_111) <| m_at_cons (m_s_cst (y := yL_shuffles) rfl (by decide) (Or.inl wd_378) wd_379 wd_311 wd_380 (by decide +kernel) dL_ofPack_113) <| m_at_cons (m_s_iret rfl dL_ofPack_116) <| m_at_cons (m_s_iload_n dL_ofPack_117 rfl) <| m_at_cons (m_s_bipush dL_ofPack_118 (by decide)) <| m_at_cons (m_s_icmp_ne dL_ofPack_120 (by decide)) <| m_at_cons (m_s_iconst dL_ofPack_123 (by decide)) <| m_at_cons (m_s_istore dL_ofPack_124) <| m_at_cons (m_s_iload dL_ofPack_126) <| m_at_cons (m_s_iload_n dL_ofPack_128 rfl) <| m_at_cons (m_s_icmp_ge dL_ofPack_129 (by decide)) <| m_at_cons (m_s_aload_n dL_ofPack_132 rfl) <| m_at_cons (m_s_bipush dL_ofPack_133 (by decide)) <| m_at_cons (m_s_dup2 dL_ofPack_135) <| m_at_cons (m_s_ild (Or.inl ⟨rfl, dL_ofPack_136⟩)) <| m_at_cons (m_s_iconst dL_ofPack_137 (by decide)) <| m_at_cons (m_s_aload dL_ofPack_138) <| m_at_cons (m_s_iload dL_ofPack_140) <| m_at_cons (m_s_ild (Or.inl ⟨rfl, dL_ofPack_142⟩)) <| m_at_cons (m_s_ishl dL_ofPack_143) <| m_at_cons (m_s_ior dL_ofPack_144) <| m_at_cons (m_s_iast dL_ofPack_145) <| m_at_cons (m_s_iinc dL_ofPack_146 (by decide)) <| m_at_cons (m_s_goto dL_ofPack_149 (by decide)) <| m_at_cons (m_s_iload_n dL_ofPack_152 rfl) <| m_at_cons (m_s_aload_n dL_ofPack_153 rfl) <| m_at_cons (m_s_aload dL_ofPack_154) <| m_at_cons (m_s_cst (y := yL_turns) rfl (by decide) (Or.inl wd_375) wd_376 wd_311 wd_377 (by decide +kernel) dL_ofPack_156) <| m_at_cons (m_s_aload_n dL_ofPack_159 rfl) <| m_at_cons (m_s_bipush dL_ofPack_160 (by decide)) <| m_at_cons (m_s_dup2 dL_ofPack_162) <| m_at_cons (m_s_ild (Or.inl ⟨rfl, dL_ofPack_163⟩)) <| m_at_cons (m_s_iload_n dL_ofPack_164 rfl) <| m_at_cons (m_s_isub dL_ofPack_165) <| m_at_cons (m_s_iast dL_ofPack_166) <| m_at_cons (m_s_aload_n dL_ofPack_167 rfl) <| m_at_cons (m_s_bipush dL_ofPack_168 (by decide)) <| m_at_cons (m_s_ild (Or.inl ⟨rfl, dL_ofPack_170⟩)) <| m_at_cons (m_s_iret rfl dL_ofPack_171) <| m_at_cons (m_s_iload_n dL_ofPack_172 rfl) <| m_at_cons (m_s_bipush dL_ofPack_173 (by decide)) <| m_at_cons (m_s_icmp_ne dL_ofPack_175 (by decide)) <| m_at_cons (m_s_aload_n dL_ofPack_178 rfl) <| m_at_cons (m_s_aload dL_ofPack_179) <| m_at_cons (m_s_aload dL_ofPack_181) <| m_at_cons (m_s_aload dL_ofPack_183) <| m_at_cons (m_s_cst (y := yL_why) rfl (by decide) (Or.inl wd_381) wd_382 wd_311 wd_383 (by decide +kernel) dL_ofPack_185) <| m_at_cons (m_s_if_eq dL_ofPack_188 (by decide)) <| m_at_cons (m_s_bipush dL_ofPack_191 (by decide)) <| m_at_cons (m_s_aload_n dL_ofPack_193 rfl) <| m_at_cons (m_s_aload dL_ofPack_194) <| m_at_nil
set_option maxRecDepth 100000 in
theorem sL_ofPack_2 : ∀ pc o, m_at tL_ofPack_2 pc = some o → m_Snd D cA ra B ro m_M cL_ofPack 9 (some .int) RL "ofPack" pc o :=
  m_at_cons (m_s_aload dL_ofPack_196) <| m_at_cons (m_s_aload dL_ofPack_198) <| m_at_cons (m_s_cst (y := yL_why) rfl (by decide) (Or.inl wd_381) wd_382 wd_311 wd_383 (by decide +kernel) dL_ofPack_200) <| m_at_cons (m_s_isub dL_ofPack_203) <| m_at_cons (m_s_iret rfl dL_ofPack_204) <| m_at_cons (m_s_aload_n dL_ofPack_205 rfl) <| m_at_cons (m_s_bipush dL_ofPack_206 (by decide)) <| m_at_cons (m_s_iconst dL_ofPack_208 (by decide)) <| m_at_cons (m_s_iast dL_ofPack_209) <| m_at_cons (m_s_aload_n dL_ofPack_210 rfl) <| m_at_cons (m_s_bipush dL_ofPack_211 (by decide)) <| m_at_cons (m_s_iconst dL_ofPack_213 (by decide)) <| m_at_cons (m_s_iast dL_ofPack_214) <| m_at_cons (m_s_aload_n dL_ofPack_215 rfl) <| m_at_cons (m_s_bipush dL_ofPack_216 (by decide)) <| m_at_cons (m_s_dup2 dL_ofPack_218) <| m_at_cons (m_s_ild (Or.inl ⟨rfl, dL_ofPack_219⟩)) <| m_at_cons (m_s_iload_n dL_ofPack_220 rfl) <| m_at_cons (m_s_bipush dL_ofPack_221 (by decide)) <| m_at_cons (m_s_icmp_ne dL_ofPack_223 (by decide)) <| m_at_cons (m_s_iconst dL_ofPack_226 (by decide)) <| m_at_cons (m_s_goto dL_ofPack_227 (by decide)) <| m_at_cons (m_s_iconst dL_ofPack_230 (by decide)) <| m_at_cons (m_s_iadd dL_ofPack_231) <| m_at_cons (m_s_iast dL_ofPack_232) <| m_at_cons (m_s_aload_n dL_ofPack_233 rfl) <| m_at_cons (m_s_bipush dL_ofPack_234 (by decide)) <| m_at_cons (m_s_dup2 dL_ofPack_236) <| m_at_cons (m_s_ild (Or.inl ⟨rfl, dL_ofPack_237⟩)) <| m_at_cons (m_s_iload_n dL_ofPack_238 rfl) <| m_at_cons (m_s_bipush dL_ofPack_239 (by decide)) <| m_at_cons (m_s_icmp_ne dL_ofPack_241 (by decide)) <| m_at_cons (m_s_iconst dL_ofPack_244 (by decide)) <| m_at_cons (m_s_goto dL_ofPack_245 (by decide)) <| m_at_cons (m_s_iconst dL_ofPack_248 (by decide)) <| m_at_cons (m_s_iadd dL_ofPack_249) <| m_at_cons (m_s_iast dL_ofPack_250) <| m_at_cons (m_s_aload_n dL_ofPack_251 rfl) <| m_at_cons (m_s_bipush dL_ofPack_252 (by decide)) <| m_at_cons (m_s_dup2 dL_ofPack_254) <| m_at_cons (m_s_ild (Or.inl ⟨rfl, dL_ofPack_255⟩)) <| m_at_cons (m_s_iload_n dL_ofPack_256 rfl) <| m_at_cons (m_s_bipush dL_ofPack_257 (by decide)) <| m_at_cons (m_s_icmp_ne dL_ofPack_259 (by decide)) <| m_at_cons (m_s_aload_n dL_ofPack_262 rfl) <| m_at_cons (m_s_iconst dL_ofPack_263 (by decide)) <| m_at_cons (m_s_ild (Or.inl ⟨rfl, dL_ofPack_264⟩)) <| m_at_cons (m_s_goto dL_ofPack_265 (by decide)) <| m_at_cons (m_s_iconst dL_ofPack_268 (by decide)) <| m_at_cons (m_s_iadd dL_ofPack_269) <| m_at_cons (m_s_iast dL_ofPack_270) <| m_at_cons (m_s_iload_n dL_ofPack_271 rfl) <| m_at_cons (m_s_bipush dL_ofPack_272 (by decide)) <| m_at_cons (m_s_icmp_ne dL_ofPack_274 (by decide)) <| m_at_cons (m_s_aload_n dL_ofPack_277 rfl) <| m_at_cons (m_s_iconst dL_ofPack_278 (by decide)) <| m_at_cons (m_s_ild (Or.inl ⟨rfl, dL_ofPack_279⟩)) <| m_at_cons (m_s_goto dL_ofPack_280 (by decide)) <| m_at_cons (m_s_iload dL_ofPack_283) <| m_at_cons (m_s_iret rfl dL_ofPack_285) <| m_at_nil
set_option maxRecDepth 100000 in
theorem sL_ofPack : ∀ pc o, m_at tL_ofPack pc = some o → m_Snd D cA ra B ro m_M cL_ofPack 9 (some .int) RL "ofPack" pc o := m_at_app sL_ofPack_0 (m_at_app sL_ofPack_1 (sL_ofPack_2))
set_option maxRecDepth 100000 in
theorem sL_isPack_0 : ∀ pc o, m_at tL_isPack_0 pc = some o → m_Snd D cA ra B ro m_M cL_isPack 12 (some .boolean) RL "isPack" pc o :=
  m_at_cons (m_s_fconst0 dL_isPack_0) <| m_at_cons (m_s_fstore dL_isPack_1) <| m_at_cons (m_s_iconst dL_isPack_3 (by decide)) <| m_at_cons (m_s_istore dL_isPack_4) <| m_at_cons (m_s_iconst dL_isPack_6 (by decide)) <| m_at_cons (m_s_istore dL_isPack_7) <| m_at_cons (m_s_iload dL_isPack_9) <| m_at_cons (m_s_aload_n dL_isPack_11 rfl) <| m_at_cons (m_s_bipush dL_isPack_12 (by decide)) <| m_at_cons (m_s_ild (Or.inl ⟨rfl, dL_isPack_14⟩)) <| m_at_cons (m_s_icmp_ge dL_isPack_15 (by decide)) <| m_at_cons (m_s_aload dL_isPack_18) <| m_at_cons (m_s_aload_n dL_isPack_20 rfl) <| m_at_cons (m_s_iload dL_isPack_21) <| m_at_cons (m_s_ild (Or.inl ⟨rfl, dL_isPack_23⟩)) <| m_at_cons (m_s_ild (Or.inl ⟨rfl, dL_isPack_24⟩)) <| m_at_cons (m_s_aload_n dL_isPack_25 rfl) <| m_at_cons (m_s_aload dL_isPack_26) <| m_at_cons (m_s_cst (y := yL_alike) rfl (by decide) (Or.inl wd_316) wd_317 wd_311 wd_318 (by decide +kernel) dL_isPack_28) <| m_at_cons (m_s_istore dL_isPack_31) <| m_at_cons (m_s_fload dL_isPack_33) <| m_at_cons (m_s_fconst1 dL_isPack_35) <| m_at_cons (m_s_iload dL_isPack_36) <| m_at_cons (m_s_bipush dL_isPack_38 (by decide)) <| m_at_cons (m_s_irem dL_isPack_40) <| m_at_cons (m_s_i2f dL_isPack_41) <| m_at_cons (m_s_fdiv dL_isPack_42) <| m_at_cons (m_s_fadd dL_isPack_43) <| m_at_cons (m_s_fstore dL_isPack_44) <| m_at_cons (m_s_iload dL_isPack_46) <| m_at_cons (m_s_iload dL_isPack_48) <| m_at_cons (m_s_bipush dL_isPack_50 (by decide)) <| m_at_cons (m_s_idiv dL_isPack_52) <| m_at_cons (m_s_aload_n dL_isPack_53 rfl) <| m_at_cons (m_s_iload dL_isPack_54) <| m_at_cons (m_s_ild (Or.inl ⟨rfl, dL_isPack_56⟩)) <| m_at_cons (m_s_icmp_ne dL_isPack_57 (by decide)) <| m_at_cons (m_s_iconst dL_isPack_60 (by decide)) <| m_at_cons (m_s_goto dL_isPack_61 (by decide)) <| m_at_cons (m_s_iconst dL_isPack_64 (by decide)) <| m_at_cons (m_s_iadd dL_isPack_65) <| m_at_cons (m_s_istore dL_isPack_66) <| m_at_cons (m_s_iinc dL_isPack_68 (by decide)) <| m_at_cons (m_s_goto dL_isPack_71 (by decide)) <| m_at_cons (m_s_iload_n dL_isPack_74 rfl) <| m_at_cons (m_s_bipush dL_isPack_75 (by decide)) <| m_at_cons (m_s_cst (y := yL_low) rfl (by decide) (Or.inl wd_384) wd_385 wd_311 wd_386 (by decide +kernel) dL_isPack_77) <| m_at_cons (m_s_istore dL_isPack_80) <| m_at_cons (m_s_bipush dL_isPack_82 (by decide)) <| m_at_cons (m_s_istore dL_isPack_84) <| m_at_cons (m_s_iconst dL_isPack_86 (by decide)) <| m_at_cons (m_s_istore dL_isPack_87) <| m_at_cons (m_s_iload dL_isPack_89) <| m_at_cons (m_s_aload_n dL_isPack_91 rfl) <| m_at_cons (m_s_bipush dL_isPack_92 (by decide)) <| m_at_cons (m_s_ild (Or.inl ⟨rfl, dL_isPack_94⟩)) <| m_at_cons (m_s_icmp_ge dL_isPack_95 (by decide)) <| m_at_cons (m_s_aload_n dL_isPack_98 rfl) <| m_at_cons (m_s_iload dL_isPack_99) <| m_at_cons (m_s_ild (Or.inl ⟨rfl, dL_isPack_101⟩)) <| m_at_nil
set_option maxRecDepth 100000 in
theorem sL_isPack_1 : ∀ pc o, m_at tL_isPack_1 pc = some o → m_Snd D cA ra B ro m_M cL_isPack 12 (some .boolean) RL "isPack" pc o :=
  m_at_cons (m_s_iload dL_isPack_102) <| m_at_cons (m_s_icmp_ne dL_isPack_104 (by decide)) <| m_at_cons (m_s_iload dL_isPack_107) <| m_at_cons (m_s_goto dL_isPack_109 (by decide)) <| m_at_cons (m_s_iload dL_isPack_112) <| m_at_cons (m_s_istore dL_isPack_114) <| m_at_cons (m_s_iinc dL_isPack_116 (by decide)) <| m_at_cons (m_s_goto dL_isPack_119 (by decide)) <| m_at_cons (m_s_aload_n dL_isPack_122 rfl) <| m_at_cons (m_s_iconst dL_isPack_123 (by decide)) <| m_at_cons (m_s_cob (T := TX5) (N := 6) (y := yX5_count) rfl rfl (by decide) (Or.inl wd_387) wd_388 wd_389 wd_32 wd_390 (by decide +kernel) dL_isPack_124) <| m_at_cons (m_s_aload_n dL_isPack_127 rfl) <| m_at_cons (m_s_bipush dL_isPack_128 (by decide)) <| m_at_cons (m_s_ild (Or.inl ⟨rfl, dL_isPack_130⟩)) <| m_at_cons (m_s_icmp_ne dL_isPack_131 (by decide)) <| m_at_cons (m_s_aload_n dL_isPack_134 rfl) <| m_at_cons (m_s_iconst dL_isPack_135 (by decide)) <| m_at_cons (m_s_cob (T := TX5) (N := 6) (y := yX5_count) rfl rfl (by decide) (Or.inl wd_387) wd_388 wd_389 wd_32 wd_390 (by decide +kernel) dL_isPack_136) <| m_at_cons (m_s_aload_n dL_isPack_139 rfl) <| m_at_cons (m_s_bipush dL_isPack_140 (by decide)) <| m_at_cons (m_s_ild (Or.inl ⟨rfl, dL_isPack_142⟩)) <| m_at_cons (m_s_iconst dL_isPack_143 (by decide)) <| m_at_cons (m_s_icmp_ne dL_isPack_144 (by decide)) <| m_at_cons (m_s_bipush dL_isPack_147 (by decide)) <| m_at_cons (m_s_aload_n dL_isPack_149 rfl) <| m_at_cons (m_s_bipush dL_isPack_150 (by decide)) <| m_at_cons (m_s_ild (Or.inl ⟨rfl, dL_isPack_152⟩)) <| m_at_cons (m_s_isub dL_isPack_153) <| m_at_cons (m_s_goto dL_isPack_154 (by decide)) <| m_at_cons (m_s_iconst dL_isPack_157 (by decide)) <| m_at_cons (m_s_icmp_ne dL_isPack_158 (by decide)) <| m_at_cons (m_s_aload_n dL_isPack_161 rfl) <| m_at_cons (m_s_iconst dL_isPack_162 (by decide)) <| m_at_cons (m_s_cob (T := TX5) (N := 6) (y := yX5_count) rfl rfl (by decide) (Or.inl wd_387) wd_388 wd_389 wd_32 wd_390 (by decide +kernel) dL_isPack_163) <| m_at_cons (m_s_aload_n dL_isPack_166 rfl) <| m_at_cons (m_s_aload_n dL_isPack_167 rfl) <| m_at_cons (m_s_aload dL_isPack_168) <| m_at_cons (m_s_cst (y := yL_known) rfl (by decide) (Or.inl wd_322) wd_323 wd_311 wd_324 (by decide +kernel) dL_isPack_170) <| m_at_cons (m_s_icmp_ne dL_isPack_173 (by decide)) <| m_at_cons (m_s_aload_n dL_isPack_176 rfl) <| m_at_cons (m_s_bipush dL_isPack_177 (by decide)) <| m_at_cons (m_s_cob (T := TX5) (N := 6) (y := yX5_count) rfl rfl (by decide) (Or.inl wd_387) wd_388 wd_389 wd_32 wd_390 (by decide +kernel) dL_isPack_179) <| m_at_cons (m_s_iload dL_isPack_182) <| m_at_cons (m_s_icmp_ne dL_isPack_184 (by decide)) <| m_at_cons (m_s_aload_n dL_isPack_187 rfl) <| m_at_cons (m_s_cob (T := TX5) (N := 6) (y := yX5_chances) rfl rfl (by decide) (Or.inl wd_391) wd_392 wd_393 wd_32 wd_394 (by decide +kernel) dL_isPack_188) <| m_at_cons (m_s_aload_n dL_isPack_191 rfl) <| m_at_cons (m_s_bipush dL_isPack_192 (by decide)) <| m_at_cons (m_s_ild (Or.inl ⟨rfl, dL_isPack_194⟩)) <| m_at_cons (m_s_iconst dL_isPack_195 (by decide)) <| m_at_cons (m_s_icmp_ne dL_isPack_196 (by decide)) <| m_at_cons (m_s_fload dL_isPack_199) <| m_at_cons (m_s_goto dL_isPack_201 (by decide)) <| m_at_cons (m_s_ldcf wd_395 dL_isPack_204) <| m_at_cons (m_s_fcmp dL_isPack_206) <| m_at_cons (m_s_if_ne dL_isPack_207 (by decide)) <| m_at_cons (m_s_aload_n dL_isPack_210 rfl) <| m_at_cons (m_s_iload dL_isPack_211) <| m_at_cons (m_s_iconst dL_isPack_213 (by decide)) <| m_at_cons (m_s_cob (T := TX5) (N := 6) (y := yX5_cardOf) rfl rfl (by decide) (Or.inl wd_396) wd_397 wd_398 wd_32 wd_399 (by decide +kernel) dL_isPack_214) <| m_at_nil
set_option maxRecDepth 100000 in
theorem sL_isPack_2 : ∀ pc o, m_at tL_isPack_2 pc = some o → m_Snd D cA ra B ro m_M cL_isPack 12 (some .boolean) RL "isPack" pc o :=
  m_at_cons (m_s_iload dL_isPack_217) <| m_at_cons (m_s_icmp_ne dL_isPack_219 (by decide)) <| m_at_cons (m_s_aload_n dL_isPack_222 rfl) <| m_at_cons (m_s_iload dL_isPack_223) <| m_at_cons (m_s_iconst dL_isPack_225 (by decide)) <| m_at_cons (m_s_cob (T := TX5) (N := 6) (y := yX5_cardOf) rfl rfl (by decide) (Or.inl wd_396) wd_397 wd_398 wd_32 wd_399 (by decide +kernel) dL_isPack_226) <| m_at_cons (m_s_aload_n dL_isPack_229 rfl) <| m_at_cons (m_s_bipush dL_isPack_230 (by decide)) <| m_at_cons (m_s_ild (Or.inl ⟨rfl, dL_isPack_232⟩)) <| m_at_cons (m_s_iconst dL_isPack_233 (by decide)) <| m_at_cons (m_s_icmp_ne dL_isPack_234 (by decide)) <| m_at_cons (m_s_aload dL_isPack_237) <| m_at_cons (m_s_iload dL_isPack_239) <| m_at_cons (m_s_ild (Or.inl ⟨rfl, dL_isPack_241⟩)) <| m_at_cons (m_s_goto dL_isPack_242 (by decide)) <| m_at_cons (m_s_bipush dL_isPack_245 (by decide)) <| m_at_cons (m_s_icmp_ne dL_isPack_247 (by decide)) <| m_at_cons (m_s_aload_n dL_isPack_250 rfl) <| m_at_cons (m_s_aload_n dL_isPack_251 rfl) <| m_at_cons (m_s_bipush dL_isPack_252 (by decide)) <| m_at_cons (m_s_ild (Or.inl ⟨rfl, dL_isPack_254⟩)) <| m_at_cons (m_s_iconst dL_isPack_255 (by decide)) <| m_at_cons (m_s_cob (T := TX5) (N := 6) (y := yX5_pack) rfl rfl (by decide) (Or.inl wd_400) wd_401 wd_402 wd_32 wd_403 (by decide +kernel) dL_isPack_256) <| m_at_cons (m_s_iconst dL_isPack_259 (by decide)) <| m_at_cons (m_s_icmp_ne dL_isPack_260 (by decide)) <| m_at_cons (m_s_iconst dL_isPack_263 (by decide)) <| m_at_cons (m_s_goto dL_isPack_264 (by decide)) <| m_at_cons (m_s_iconst dL_isPack_267 (by decide)) <| m_at_cons (m_s_istore dL_isPack_268) <| m_at_cons (m_s_aload_n dL_isPack_270 rfl) <| m_at_cons (m_s_bipush dL_isPack_271 (by decide)) <| m_at_cons (m_s_ild (Or.inl ⟨rfl, dL_isPack_273⟩)) <| m_at_cons (m_s_if_ne dL_isPack_274 (by decide)) <| m_at_cons (m_s_iload dL_isPack_277) <| m_at_cons (m_s_zret (ty := .boolean) rfl m_nz dL_isPack_279) <| m_at_cons (m_s_iload_n dL_isPack_280 rfl) <| m_at_cons (m_s_iconst dL_isPack_281 (by decide)) <| m_at_cons (m_s_ishr dL_isPack_282) <| m_at_cons (m_s_aload_n dL_isPack_283 rfl) <| m_at_cons (m_s_bipush dL_isPack_284 (by decide)) <| m_at_cons (m_s_ild (Or.inl ⟨rfl, dL_isPack_286⟩)) <| m_at_cons (m_s_cst (y := yL_low) rfl (by decide) (Or.inl wd_384) wd_385 wd_311 wd_386 (by decide +kernel) dL_isPack_287) <| m_at_cons (m_s_istore dL_isPack_290) <| m_at_cons (m_s_aload dL_isPack_292) <| m_at_cons (m_s_aload_n dL_isPack_294 rfl) <| m_at_cons (m_s_iload dL_isPack_295) <| m_at_cons (m_s_ild (Or.inl ⟨rfl, dL_isPack_297⟩)) <| m_at_cons (m_s_ild (Or.inl ⟨rfl, dL_isPack_298⟩)) <| m_at_cons (m_s_aload_n dL_isPack_299 rfl) <| m_at_cons (m_s_aload dL_isPack_300) <| m_at_cons (m_s_cst (y := yL_alike) rfl (by decide) (Or.inl wd_316) wd_317 wd_311 wd_318 (by decide +kernel) dL_isPack_302) <| m_at_cons (m_s_istore dL_isPack_305) <| m_at_cons (m_s_iload dL_isPack_307) <| m_at_cons (m_s_if_eq dL_isPack_309 (by decide)) <| m_at_cons (m_s_aload_n dL_isPack_312 rfl) <| m_at_cons (m_s_iload dL_isPack_313) <| m_at_cons (m_s_iconst dL_isPack_315 (by decide)) <| m_at_cons (m_s_cob (T := TX5) (N := 6) (y := yX5_pack) rfl rfl (by decide) (Or.inl wd_400) wd_401 wd_402 wd_32 wd_403 (by decide +kernel) dL_isPack_316) <| m_at_cons (m_s_aload_n dL_isPack_319 rfl) <| m_at_cons (m_s_iload dL_isPack_320) <| m_at_nil
set_option maxRecDepth 100000 in
theorem sL_isPack_3 : ∀ pc o, m_at tL_isPack_3 pc = some o → m_Snd D cA ra B ro m_M cL_isPack 12 (some .boolean) RL "isPack" pc o :=
  m_at_cons (m_s_ild (Or.inl ⟨rfl, dL_isPack_322⟩)) <| m_at_cons (m_s_icmp_ne dL_isPack_323 (by decide)) <| m_at_cons (m_s_aload_n dL_isPack_326 rfl) <| m_at_cons (m_s_iload dL_isPack_327) <| m_at_cons (m_s_iconst dL_isPack_329 (by decide)) <| m_at_cons (m_s_cob (T := TX5) (N := 6) (y := yX5_pack) rfl rfl (by decide) (Or.inl wd_400) wd_401 wd_402 wd_32 wd_403 (by decide +kernel) dL_isPack_330) <| m_at_cons (m_s_aload dL_isPack_333) <| m_at_cons (m_s_aload_n dL_isPack_335 rfl) <| m_at_cons (m_s_iload dL_isPack_336) <| m_at_cons (m_s_ild (Or.inl ⟨rfl, dL_isPack_338⟩)) <| m_at_cons (m_s_ild (Or.inl ⟨rfl, dL_isPack_339⟩)) <| m_at_cons (m_s_icmp_ne dL_isPack_340 (by decide)) <| m_at_cons (m_s_aload_n dL_isPack_343 rfl) <| m_at_cons (m_s_iload dL_isPack_344) <| m_at_cons (m_s_iconst dL_isPack_346 (by decide)) <| m_at_cons (m_s_cob (T := TX5) (N := 6) (y := yX5_pack) rfl rfl (by decide) (Or.inl wd_400) wd_401 wd_402 wd_32 wd_403 (by decide +kernel) dL_isPack_347) <| m_at_cons (m_s_iload dL_isPack_350) <| m_at_cons (m_s_bipush dL_isPack_352 (by decide)) <| m_at_cons (m_s_irem dL_isPack_354) <| m_at_cons (m_s_icmp_ne dL_isPack_355 (by decide)) <| m_at_cons (m_s_aload_n dL_isPack_358 rfl) <| m_at_cons (m_s_iload dL_isPack_359) <| m_at_cons (m_s_iconst dL_isPack_361 (by decide)) <| m_at_cons (m_s_cob (T := TX5) (N := 6) (y := yX5_pack) rfl rfl (by decide) (Or.inl wd_400) wd_401 wd_402 wd_32 wd_403 (by decide +kernel) dL_isPack_362) <| m_at_cons (m_s_iload dL_isPack_365) <| m_at_cons (m_s_bipush dL_isPack_367 (by decide)) <| m_at_cons (m_s_idiv dL_isPack_369) <| m_at_cons (m_s_icmp_ne dL_isPack_370 (by decide)) <| m_at_cons (m_s_aload_n dL_isPack_373 rfl) <| m_at_cons (m_s_iload dL_isPack_374) <| m_at_cons (m_s_iconst dL_isPack_376 (by decide)) <| m_at_cons (m_s_cob (T := TX5) (N := 6) (y := yX5_pack) rfl rfl (by decide) (Or.inl wd_400) wd_401 wd_402 wd_32 wd_403 (by decide +kernel) dL_isPack_377) <| m_at_cons (m_s_iload dL_isPack_380) <| m_at_cons (m_s_bipush dL_isPack_382 (by decide)) <| m_at_cons (m_s_irem dL_isPack_384) <| m_at_cons (m_s_iconst dL_isPack_385 (by decide)) <| m_at_cons (m_s_icmp_ne dL_isPack_386 (by decide)) <| m_at_cons (m_s_iconst dL_isPack_389 (by decide)) <| m_at_cons (m_s_goto dL_isPack_390 (by decide)) <| m_at_cons (m_s_iconst dL_isPack_393 (by decide)) <| m_at_cons (m_s_icmp_ne dL_isPack_394 (by decide)) <| m_at_cons (m_s_aload_n dL_isPack_397 rfl) <| m_at_cons (m_s_iload dL_isPack_398) <| m_at_cons (m_s_iconst dL_isPack_400 (by decide)) <| m_at_cons (m_s_cob (T := TX5) (N := 6) (y := yX5_pack) rfl rfl (by decide) (Or.inl wd_400) wd_401 wd_402 wd_32 wd_403 (by decide +kernel) dL_isPack_401) <| m_at_cons (m_s_bipush dL_isPack_404 (by decide)) <| m_at_cons (m_s_icmp_ne dL_isPack_406 (by decide)) <| m_at_cons (m_s_iconst dL_isPack_409 (by decide)) <| m_at_cons (m_s_goto dL_isPack_410 (by decide)) <| m_at_cons (m_s_iconst dL_isPack_413 (by decide)) <| m_at_cons (m_s_zret (ty := .boolean) rfl m_nz dL_isPack_414) <| m_at_nil
set_option maxRecDepth 100000 in
theorem sL_isPack : ∀ pc o, m_at tL_isPack pc = some o → m_Snd D cA ra B ro m_M cL_isPack 12 (some .boolean) RL "isPack" pc o := m_at_app sL_isPack_0 (m_at_app sL_isPack_1 (m_at_app sL_isPack_2 (sL_isPack_3)))
set_option maxRecDepth 100000 in
theorem sL_isSo_0 : ∀ pc o, m_at tL_isSo_0 pc = some o → m_Snd D cA ra B ro m_M cL_isSo 22 (some .boolean) RL "isSo" pc o :=
  m_at_cons (m_s_iconst dL_isSo_0 (by decide)) <| m_at_cons (m_s_istore dL_isSo_1) <| m_at_cons (m_s_iconst dL_isSo_3 (by decide)) <| m_at_cons (m_s_istore dL_isSo_4) <| m_at_cons (m_s_iconst dL_isSo_6 (by decide)) <| m_at_cons (m_s_istore dL_isSo_7) <| m_at_cons (m_s_iload dL_isSo_9) <| m_at_cons (m_s_bipush dL_isSo_11 (by decide)) <| m_at_cons (m_s_icmp_ge dL_isSo_13 (by decide)) <| m_at_cons (m_s_iconst dL_isSo_16 (by decide)) <| m_at_cons (m_s_istore dL_isSo_17) <| m_at_cons (m_s_iload dL_isSo_19) <| m_at_cons (m_s_aload dL_isSo_21) <| m_at_cons (m_s_iload dL_isSo_23) <| m_at_cons (m_s_ild (Or.inl ⟨rfl, dL_isSo_25⟩)) <| m_at_cons (m_s_cst (y := yL_ones) rfl (by decide) (Or.inl wd_404) wd_405 wd_311 wd_406 (by decide +kernel) dL_isSo_26) <| m_at_cons (m_s_iadd dL_isSo_29) <| m_at_cons (m_s_istore dL_isSo_30) <| m_at_cons (m_s_iconst dL_isSo_32 (by decide)) <| m_at_cons (m_s_istore dL_isSo_33) <| m_at_cons (m_s_iload dL_isSo_35) <| m_at_cons (m_s_bipush dL_isSo_37 (by decide)) <| m_at_cons (m_s_icmp_ge dL_isSo_39 (by decide)) <| m_at_cons (m_s_iload dL_isSo_42) <| m_at_cons (m_s_aload dL_isSo_44) <| m_at_cons (m_s_iload dL_isSo_46) <| m_at_cons (m_s_ild (Or.inl ⟨rfl, dL_isSo_48⟩)) <| m_at_cons (m_s_aload dL_isSo_49) <| m_at_cons (m_s_iload dL_isSo_51) <| m_at_cons (m_s_ild (Or.inl ⟨rfl, dL_isSo_53⟩)) <| m_at_cons (m_s_icmp_ne dL_isSo_54 (by decide)) <| m_at_cons (m_s_iconst dL_isSo_57 (by decide)) <| m_at_cons (m_s_goto dL_isSo_58 (by decide)) <| m_at_cons (m_s_iconst dL_isSo_61 (by decide)) <| m_at_cons (m_s_iadd dL_isSo_62) <| m_at_cons (m_s_istore dL_isSo_63) <| m_at_cons (m_s_iinc dL_isSo_65 (by decide)) <| m_at_cons (m_s_goto dL_isSo_68 (by decide)) <| m_at_cons (m_s_iload dL_isSo_71) <| m_at_cons (m_s_iload dL_isSo_73) <| m_at_cons (m_s_iconst dL_isSo_75 (by decide)) <| m_at_cons (m_s_icmp_ne dL_isSo_76 (by decide)) <| m_at_cons (m_s_iconst dL_isSo_79 (by decide)) <| m_at_cons (m_s_goto dL_isSo_80 (by decide)) <| m_at_cons (m_s_iconst dL_isSo_83 (by decide)) <| m_at_cons (m_s_iadd dL_isSo_84) <| m_at_cons (m_s_istore dL_isSo_85) <| m_at_cons (m_s_iinc dL_isSo_87 (by decide)) <| m_at_cons (m_s_goto dL_isSo_90 (by decide)) <| m_at_cons (m_s_iload_n dL_isSo_93 rfl) <| m_at_cons (m_s_bipush dL_isSo_94 (by decide)) <| m_at_cons (m_s_cst (y := yL_low) rfl (by decide) (Or.inl wd_384) wd_385 wd_311 wd_386 (by decide +kernel) dL_isSo_96) <| m_at_cons (m_s_istore dL_isSo_99) <| m_at_cons (m_s_aload_n dL_isSo_101 rfl) <| m_at_cons (m_s_iconst dL_isSo_102 (by decide)) <| m_at_cons (m_s_cob (T := TX5) (N := 6) (y := yX5_count) rfl rfl (by decide) (Or.inl wd_387) wd_388 wd_389 wd_32 wd_390 (by decide +kernel) dL_isSo_103) <| m_at_cons (m_s_aload_n dL_isSo_106 rfl) <| m_at_cons (m_s_iconst dL_isSo_107 (by decide)) <| m_at_cons (m_s_ild (Or.inl ⟨rfl, dL_isSo_108⟩)) <| m_at_cons (m_s_icmp_ne dL_isSo_109 (by decide)) <| m_at_nil
set_option maxRecDepth 100000 in
theorem sL_isSo_1 : ∀ pc o, m_at tL_isSo_1 pc = some o → m_Snd D cA ra B ro m_M cL_isSo 22 (some .boolean) RL "isSo" pc o :=
  m_at_cons (m_s_aload_n dL_isSo_112 rfl) <| m_at_cons (m_s_iconst dL_isSo_113 (by decide)) <| m_at_cons (m_s_cob (T := TX5) (N := 6) (y := yX5_count) rfl rfl (by decide) (Or.inl wd_387) wd_388 wd_389 wd_32 wd_390 (by decide +kernel) dL_isSo_114) <| m_at_cons (m_s_aload_n dL_isSo_117 rfl) <| m_at_cons (m_s_iconst dL_isSo_118 (by decide)) <| m_at_cons (m_s_ild (Or.inl ⟨rfl, dL_isSo_119⟩)) <| m_at_cons (m_s_icmp_ne dL_isSo_120 (by decide)) <| m_at_cons (m_s_aload_n dL_isSo_123 rfl) <| m_at_cons (m_s_iconst dL_isSo_124 (by decide)) <| m_at_cons (m_s_cob (T := TX5) (N := 6) (y := yX5_count) rfl rfl (by decide) (Or.inl wd_387) wd_388 wd_389 wd_32 wd_390 (by decide +kernel) dL_isSo_125) <| m_at_cons (m_s_aload_n dL_isSo_128 rfl) <| m_at_cons (m_s_bipush dL_isSo_129 (by decide)) <| m_at_cons (m_s_ild (Or.inl ⟨rfl, dL_isSo_131⟩)) <| m_at_cons (m_s_icmp_ne dL_isSo_132 (by decide)) <| m_at_cons (m_s_aload_n dL_isSo_135 rfl) <| m_at_cons (m_s_bipush dL_isSo_136 (by decide)) <| m_at_cons (m_s_cob (T := TX5) (N := 6) (y := yX5_count) rfl rfl (by decide) (Or.inl wd_387) wd_388 wd_389 wd_32 wd_390 (by decide +kernel) dL_isSo_138) <| m_at_cons (m_s_aload_n dL_isSo_141 rfl) <| m_at_cons (m_s_bipush dL_isSo_142 (by decide)) <| m_at_cons (m_s_ild (Or.inl ⟨rfl, dL_isSo_144⟩)) <| m_at_cons (m_s_icmp_ne dL_isSo_145 (by decide)) <| m_at_cons (m_s_aload_n dL_isSo_148 rfl) <| m_at_cons (m_s_bipush dL_isSo_149 (by decide)) <| m_at_cons (m_s_cob (T := TX5) (N := 6) (y := yX5_count) rfl rfl (by decide) (Or.inl wd_387) wd_388 wd_389 wd_32 wd_390 (by decide +kernel) dL_isSo_151) <| m_at_cons (m_s_aload_n dL_isSo_154 rfl) <| m_at_cons (m_s_bipush dL_isSo_155 (by decide)) <| m_at_cons (m_s_ild (Or.inl ⟨rfl, dL_isSo_157⟩)) <| m_at_cons (m_s_icmp_ne dL_isSo_158 (by decide)) <| m_at_cons (m_s_aload_n dL_isSo_161 rfl) <| m_at_cons (m_s_bipush dL_isSo_162 (by decide)) <| m_at_cons (m_s_cob (T := TX5) (N := 6) (y := yX5_count) rfl rfl (by decide) (Or.inl wd_387) wd_388 wd_389 wd_32 wd_390 (by decide +kernel) dL_isSo_164) <| m_at_cons (m_s_aload_n dL_isSo_167 rfl) <| m_at_cons (m_s_bipush dL_isSo_168 (by decide)) <| m_at_cons (m_s_ild (Or.inl ⟨rfl, dL_isSo_170⟩)) <| m_at_cons (m_s_icmp_ne dL_isSo_171 (by decide)) <| m_at_cons (m_s_aload_n dL_isSo_174 rfl) <| m_at_cons (m_s_bipush dL_isSo_175 (by decide)) <| m_at_cons (m_s_cob (T := TX5) (N := 6) (y := yX5_count) rfl rfl (by decide) (Or.inl wd_387) wd_388 wd_389 wd_32 wd_390 (by decide +kernel) dL_isSo_177) <| m_at_cons (m_s_iload dL_isSo_180) <| m_at_cons (m_s_icmp_ne dL_isSo_182 (by decide)) <| m_at_cons (m_s_aload_n dL_isSo_185 rfl) <| m_at_cons (m_s_bipush dL_isSo_186 (by decide)) <| m_at_cons (m_s_cob (T := TX5) (N := 6) (y := yX5_count) rfl rfl (by decide) (Or.inl wd_387) wd_388 wd_389 wd_32 wd_390 (by decide +kernel) dL_isSo_188) <| m_at_cons (m_s_aload_n dL_isSo_191 rfl) <| m_at_cons (m_s_iconst dL_isSo_192 (by decide)) <| m_at_cons (m_s_ild (Or.inl ⟨rfl, dL_isSo_193⟩)) <| m_at_cons (m_s_aload dL_isSo_194) <| m_at_cons (m_s_cst (y := yL_leaning) rfl (by decide) (Or.inl wd_319) wd_320 wd_311 wd_321 (by decide +kernel) dL_isSo_196) <| m_at_cons (m_s_icmp_ne dL_isSo_199 (by decide)) <| m_at_cons (m_s_aload_n dL_isSo_202 rfl) <| m_at_cons (m_s_cob (T := TX5) (N := 6) (y := yX5_why) rfl rfl (by decide) (Or.inl wd_407) wd_408 wd_409 wd_32 wd_410 (by decide +kernel) dL_isSo_203) <| m_at_cons (m_s_aload_n dL_isSo_206 rfl) <| m_at_cons (m_s_aload dL_isSo_207) <| m_at_cons (m_s_aload dL_isSo_209) <| m_at_cons (m_s_aload dL_isSo_211) <| m_at_cons (m_s_cst (y := yL_why) rfl (by decide) (Or.inl wd_381) wd_382 wd_311 wd_383 (by decide +kernel) dL_isSo_213) <| m_at_cons (m_s_icmp_ne dL_isSo_216 (by decide)) <| m_at_cons (m_s_aload_n dL_isSo_219 rfl) <| m_at_cons (m_s_iconst dL_isSo_220 (by decide)) <| m_at_cons (m_s_cob (T := TX5) (N := 6) (y := yX5_ifPrinted) rfl rfl (by decide) (Or.inl wd_411) wd_412 wd_413 wd_32 wd_414 (by decide +kernel) dL_isSo_221) <| m_at_nil
set_option maxRecDepth 100000 in
theorem sL_isSo_2 : ∀ pc o, m_at tL_isSo_2 pc = some o → m_Snd D cA ra B ro m_M cL_isSo 22 (some .boolean) RL "isSo" pc o :=
  m_at_cons (m_s_iload dL_isSo_224) <| m_at_cons (m_s_icmp_ne dL_isSo_226 (by decide)) <| m_at_cons (m_s_aload_n dL_isSo_229 rfl) <| m_at_cons (m_s_iconst dL_isSo_230 (by decide)) <| m_at_cons (m_s_cob (T := TX5) (N := 6) (y := yX5_ifPrinted) rfl rfl (by decide) (Or.inl wd_411) wd_412 wd_413 wd_32 wd_414 (by decide +kernel) dL_isSo_231) <| m_at_cons (m_s_iload dL_isSo_234) <| m_at_cons (m_s_icmp_ne dL_isSo_236 (by decide)) <| m_at_cons (m_s_aload_n dL_isSo_239 rfl) <| m_at_cons (m_s_iload dL_isSo_240) <| m_at_cons (m_s_iconst dL_isSo_242 (by decide)) <| m_at_cons (m_s_cob (T := TX5) (N := 6) (y := yX5_block) rfl rfl (by decide) (Or.inl wd_415) wd_416 wd_417 wd_32 wd_418 (by decide +kernel) dL_isSo_243) <| m_at_cons (m_s_aload_n dL_isSo_246 rfl) <| m_at_cons (m_s_iload dL_isSo_247) <| m_at_cons (m_s_ild (Or.inl ⟨rfl, dL_isSo_249⟩)) <| m_at_cons (m_s_icmp_ne dL_isSo_250 (by decide)) <| m_at_cons (m_s_aload_n dL_isSo_253 rfl) <| m_at_cons (m_s_iload dL_isSo_254) <| m_at_cons (m_s_iconst dL_isSo_256 (by decide)) <| m_at_cons (m_s_cob (T := TX5) (N := 6) (y := yX5_block) rfl rfl (by decide) (Or.inl wd_415) wd_416 wd_417 wd_32 wd_418 (by decide +kernel) dL_isSo_257) <| m_at_cons (m_s_aload dL_isSo_260) <| m_at_cons (m_s_iload dL_isSo_262) <| m_at_cons (m_s_ild (Or.inl ⟨rfl, dL_isSo_264⟩)) <| m_at_cons (m_s_icmp_ne dL_isSo_265 (by decide)) <| m_at_cons (m_s_aload_n dL_isSo_268 rfl) <| m_at_cons (m_s_aload_n dL_isSo_269 rfl) <| m_at_cons (m_s_iload dL_isSo_270) <| m_at_cons (m_s_ild (Or.inl ⟨rfl, dL_isSo_272⟩)) <| m_at_cons (m_s_iconst dL_isSo_273 (by decide)) <| m_at_cons (m_s_cob (T := TX5) (N := 6) (y := yX5_cardOf) rfl rfl (by decide) (Or.inl wd_396) wd_397 wd_398 wd_32 wd_399 (by decide +kernel) dL_isSo_274) <| m_at_cons (m_s_iload dL_isSo_277) <| m_at_cons (m_s_icmp_ne dL_isSo_279 (by decide)) <| m_at_cons (m_s_aload_n dL_isSo_282 rfl) <| m_at_cons (m_s_iload dL_isSo_283) <| m_at_cons (m_s_iconst dL_isSo_285 (by decide)) <| m_at_cons (m_s_cob (T := TX5) (N := 6) (y := yX5_cardOf) rfl rfl (by decide) (Or.inl wd_396) wd_397 wd_398 wd_32 wd_399 (by decide +kernel) dL_isSo_286) <| m_at_cons (m_s_bipush dL_isSo_289 (by decide)) <| m_at_cons (m_s_iload dL_isSo_291) <| m_at_cons (m_s_bipush dL_isSo_293 (by decide)) <| m_at_cons (m_s_irem dL_isSo_295) <| m_at_cons (m_s_iconst dL_isSo_296 (by decide)) <| m_at_cons (m_s_icmp_ge dL_isSo_297 (by decide)) <| m_at_cons (m_s_iconst dL_isSo_300 (by decide)) <| m_at_cons (m_s_goto dL_isSo_301 (by decide)) <| m_at_cons (m_s_aload dL_isSo_304) <| m_at_cons (m_s_iload dL_isSo_306) <| m_at_cons (m_s_cst (y := yL_court) rfl (by decide) (Or.inl wd_369) wd_370 wd_311 wd_371 (by decide +kernel) dL_isSo_308) <| m_at_cons (m_s_ild (Or.inl ⟨rfl, dL_isSo_311⟩)) <| m_at_cons (m_s_iadd dL_isSo_312) <| m_at_cons (m_s_icmp_ne dL_isSo_313 (by decide)) <| m_at_cons (m_s_iconst dL_isSo_316 (by decide)) <| m_at_cons (m_s_goto dL_isSo_317 (by decide)) <| m_at_cons (m_s_iconst dL_isSo_320 (by decide)) <| m_at_cons (m_s_istore dL_isSo_321) <| m_at_cons (m_s_iconst dL_isSo_323 (by decide)) <| m_at_cons (m_s_istore dL_isSo_324) <| m_at_cons (m_s_iload dL_isSo_326) <| m_at_cons (m_s_iconst dL_isSo_328 (by decide)) <| m_at_cons (m_s_icmp_ge dL_isSo_329 (by decide)) <| m_at_cons (m_s_iload dL_isSo_332) <| m_at_cons (m_s_if_eq dL_isSo_334 (by decide)) <| m_at_nil
set_option maxRecDepth 100000 in
theorem sL_isSo_3 : ∀ pc o, m_at tL_isSo_3 pc = some o → m_Snd D cA ra B ro m_M cL_isSo 22 (some .boolean) RL "isSo" pc o :=
  m_at_cons (m_s_aload_n dL_isSo_337 rfl) <| m_at_cons (m_s_bipush dL_isSo_338 (by decide)) <| m_at_cons (m_s_iload dL_isSo_340) <| m_at_cons (m_s_iadd dL_isSo_342) <| m_at_cons (m_s_cob (T := TX5) (N := 6) (y := yX5_count) rfl rfl (by decide) (Or.inl wd_387) wd_388 wd_389 wd_32 wd_390 (by decide +kernel) dL_isSo_343) <| m_at_cons (m_s_aload_n dL_isSo_346 rfl) <| m_at_cons (m_s_iload dL_isSo_347) <| m_at_cons (m_s_ild (Or.inl ⟨rfl, dL_isSo_349⟩)) <| m_at_cons (m_s_icmp_ne dL_isSo_350 (by decide)) <| m_at_cons (m_s_iconst dL_isSo_353 (by decide)) <| m_at_cons (m_s_goto dL_isSo_354 (by decide)) <| m_at_cons (m_s_iconst dL_isSo_357 (by decide)) <| m_at_cons (m_s_istore dL_isSo_358) <| m_at_cons (m_s_iinc dL_isSo_360 (by decide)) <| m_at_cons (m_s_goto dL_isSo_363 (by decide)) <| m_at_cons (m_s_iload_n dL_isSo_366 rfl) <| m_at_cons (m_s_iconst dL_isSo_367 (by decide)) <| m_at_cons (m_s_ishr dL_isSo_368) <| m_at_cons (m_s_bipush dL_isSo_369 (by decide)) <| m_at_cons (m_s_cst (y := yL_low) rfl (by decide) (Or.inl wd_384) wd_385 wd_311 wd_386 (by decide +kernel) dL_isSo_371) <| m_at_cons (m_s_istore dL_isSo_374) <| m_at_cons (m_s_iload dL_isSo_376) <| m_at_cons (m_s_aload_n dL_isSo_378 rfl) <| m_at_cons (m_s_iconst dL_isSo_379 (by decide)) <| m_at_cons (m_s_ild (Or.inl ⟨rfl, dL_isSo_380⟩)) <| m_at_cons (m_s_icmp_ge dL_isSo_381 (by decide)) <| m_at_cons (m_s_iconst dL_isSo_384 (by decide)) <| m_at_cons (m_s_goto dL_isSo_385 (by decide)) <| m_at_cons (m_s_iconst dL_isSo_388 (by decide)) <| m_at_cons (m_s_istore dL_isSo_389) <| m_at_cons (m_s_iload dL_isSo_391) <| m_at_cons (m_s_if_eq dL_isSo_393 (by decide)) <| m_at_cons (m_s_aload_n dL_isSo_396 rfl) <| m_at_cons (m_s_iconst dL_isSo_397 (by decide)) <| m_at_cons (m_s_ild (Or.inl ⟨rfl, dL_isSo_398⟩)) <| m_at_cons (m_s_iconst dL_isSo_399 (by decide)) <| m_at_cons (m_s_isub dL_isSo_400) <| m_at_cons (m_s_iload dL_isSo_401) <| m_at_cons (m_s_isub dL_isSo_403) <| m_at_cons (m_s_iload dL_isSo_404) <| m_at_cons (m_s_aload dL_isSo_406) <| m_at_cons (m_s_cst (y := yL_sheetAt) rfl (by decide) (Or.inl wd_313) wd_314 wd_311 wd_315 (by decide +kernel) dL_isSo_408) <| m_at_cons (m_s_goto dL_isSo_411 (by decide)) <| m_at_cons (m_s_iconst dL_isSo_414 (by decide)) <| m_at_cons (m_s_istore dL_isSo_415) <| m_at_cons (m_s_iload dL_isSo_417) <| m_at_cons (m_s_if_eq dL_isSo_419 (by decide)) <| m_at_cons (m_s_aload_n dL_isSo_422 rfl) <| m_at_cons (m_s_iload dL_isSo_423) <| m_at_cons (m_s_iload dL_isSo_425) <| m_at_cons (m_s_iconst dL_isSo_427 (by decide)) <| m_at_cons (m_s_cob (T := TX5) (N := 6) (y := yX5_sheet) rfl rfl (by decide) (Or.inl wd_419) wd_420 wd_421 wd_32 wd_422 (by decide +kernel) dL_isSo_428) <| m_at_cons (m_s_iload dL_isSo_431) <| m_at_cons (m_s_if_eq dL_isSo_433 (by decide)) <| m_at_cons (m_s_iload dL_isSo_436) <| m_at_cons (m_s_bipush dL_isSo_438 (by decide)) <| m_at_cons (m_s_iand dL_isSo_440) <| m_at_cons (m_s_goto dL_isSo_441 (by decide)) <| m_at_cons (m_s_iconst dL_isSo_444 (by decide)) <| m_at_cons (m_s_icmp_ne dL_isSo_445 (by decide)) <| m_at_nil
set_option maxRecDepth 100000 in
theorem sL_isSo_4 : ∀ pc o, m_at tL_isSo_4 pc = some o → m_Snd D cA ra B ro m_M cL_isSo 22 (some .boolean) RL "isSo" pc o :=
  m_at_cons (m_s_aload_n dL_isSo_448 rfl) <| m_at_cons (m_s_iload dL_isSo_449) <| m_at_cons (m_s_iload dL_isSo_451) <| m_at_cons (m_s_iconst dL_isSo_453 (by decide)) <| m_at_cons (m_s_cob (T := TX5) (N := 6) (y := yX5_sheet) rfl rfl (by decide) (Or.inl wd_419) wd_420 wd_421 wd_32 wd_422 (by decide +kernel) dL_isSo_454) <| m_at_cons (m_s_iload dL_isSo_457) <| m_at_cons (m_s_if_eq dL_isSo_459 (by decide)) <| m_at_cons (m_s_iload dL_isSo_462) <| m_at_cons (m_s_iconst dL_isSo_464 (by decide)) <| m_at_cons (m_s_ishr dL_isSo_465) <| m_at_cons (m_s_goto dL_isSo_466 (by decide)) <| m_at_cons (m_s_iconst dL_isSo_469 (by decide)) <| m_at_cons (m_s_icmp_ne dL_isSo_470 (by decide)) <| m_at_cons (m_s_iconst dL_isSo_473 (by decide)) <| m_at_cons (m_s_goto dL_isSo_474 (by decide)) <| m_at_cons (m_s_iconst dL_isSo_477 (by decide)) <| m_at_cons (m_s_istore dL_isSo_478) <| m_at_cons (m_s_bipush dL_isSo_480 (by decide)) <| m_at_cons (m_s_istore dL_isSo_482) <| m_at_cons (m_s_bipush dL_isSo_484 (by decide)) <| m_at_cons (m_s_istore dL_isSo_486) <| m_at_cons (m_s_iconst dL_isSo_488 (by decide)) <| m_at_cons (m_s_istore dL_isSo_489) <| m_at_cons (m_s_iload dL_isSo_491) <| m_at_cons (m_s_iconst dL_isSo_493 (by decide)) <| m_at_cons (m_s_icmp_ge dL_isSo_494 (by decide)) <| m_at_cons (m_s_aload_n dL_isSo_497 rfl) <| m_at_cons (m_s_iconst dL_isSo_498 (by decide)) <| m_at_cons (m_s_ild (Or.inl ⟨rfl, dL_isSo_499⟩)) <| m_at_cons (m_s_if_le dL_isSo_500 (by decide)) <| m_at_cons (m_s_iconst dL_isSo_503 (by decide)) <| m_at_cons (m_s_istore dL_isSo_504) <| m_at_cons (m_s_iconst dL_isSo_506 (by decide)) <| m_at_cons (m_s_istore dL_isSo_507) <| m_at_cons (m_s_iload dL_isSo_509) <| m_at_cons (m_s_bipush dL_isSo_511 (by decide)) <| m_at_cons (m_s_icmp_ge dL_isSo_513 (by decide)) <| m_at_cons (m_s_iload dL_isSo_516) <| m_at_cons (m_s_aload_n dL_isSo_518 rfl) <| m_at_cons (m_s_iconst dL_isSo_519 (by decide)) <| m_at_cons (m_s_ild (Or.inl ⟨rfl, dL_isSo_520⟩)) <| m_at_cons (m_s_iconst dL_isSo_521 (by decide)) <| m_at_cons (m_s_isub dL_isSo_522) <| m_at_cons (m_s_iload dL_isSo_523) <| m_at_cons (m_s_iload dL_isSo_525) <| m_at_cons (m_s_cst (y := yL_cellAt) rfl (by decide) (Or.inl wd_309) wd_310 wd_311 wd_312 (by decide +kernel) dL_isSo_527) <| m_at_cons (m_s_aload dL_isSo_530) <| m_at_cons (m_s_cst (y := yL_sheetAt) rfl (by decide) (Or.inl wd_313) wd_314 wd_311 wd_315 (by decide +kernel) dL_isSo_532) <| m_at_cons (m_s_bipush dL_isSo_535 (by decide)) <| m_at_cons (m_s_iand dL_isSo_537) <| m_at_cons (m_s_iload dL_isSo_538) <| m_at_cons (m_s_icmp_ne dL_isSo_540 (by decide)) <| m_at_cons (m_s_iconst dL_isSo_543 (by decide)) <| m_at_cons (m_s_goto dL_isSo_544 (by decide)) <| m_at_cons (m_s_iconst dL_isSo_547 (by decide)) <| m_at_cons (m_s_iadd dL_isSo_548) <| m_at_cons (m_s_istore dL_isSo_549) <| m_at_cons (m_s_iinc dL_isSo_551 (by decide)) <| m_at_cons (m_s_goto dL_isSo_554 (by decide)) <| m_at_cons (m_s_iload dL_isSo_557) <| m_at_nil
set_option maxRecDepth 100000 in
theorem sL_isSo_5 : ∀ pc o, m_at tL_isSo_5 pc = some o → m_Snd D cA ra B ro m_M cL_isSo 22 (some .boolean) RL "isSo" pc o :=
  m_at_cons (m_s_iload dL_isSo_559) <| m_at_cons (m_s_icmp_ge dL_isSo_561 (by decide)) <| m_at_cons (m_s_iload dL_isSo_564) <| m_at_cons (m_s_goto dL_isSo_566 (by decide)) <| m_at_cons (m_s_iload dL_isSo_569) <| m_at_cons (m_s_istore dL_isSo_571) <| m_at_cons (m_s_iload dL_isSo_573) <| m_at_cons (m_s_iload dL_isSo_575) <| m_at_cons (m_s_icmp_ge dL_isSo_577 (by decide)) <| m_at_cons (m_s_iload dL_isSo_580) <| m_at_cons (m_s_goto dL_isSo_582 (by decide)) <| m_at_cons (m_s_iload dL_isSo_585) <| m_at_cons (m_s_istore dL_isSo_587) <| m_at_cons (m_s_iinc dL_isSo_589 (by decide)) <| m_at_cons (m_s_goto dL_isSo_592 (by decide)) <| m_at_cons (m_s_iload dL_isSo_595) <| m_at_cons (m_s_if_eq dL_isSo_597 (by decide)) <| m_at_cons (m_s_aload_n dL_isSo_600 rfl) <| m_at_cons (m_s_cob (T := TX5) (N := 6) (y := yX5_bestWay) rfl rfl (by decide) (Or.inl wd_423) wd_424 wd_425 wd_32 wd_426 (by decide +kernel) dL_isSo_601) <| m_at_cons (m_s_iload dL_isSo_604) <| m_at_cons (m_s_icmp_ne dL_isSo_606 (by decide)) <| m_at_cons (m_s_aload_n dL_isSo_609 rfl) <| m_at_cons (m_s_iload_n dL_isSo_610 rfl) <| m_at_cons (m_s_bipush dL_isSo_611 (by decide)) <| m_at_cons (m_s_ishr dL_isSo_613) <| m_at_cons (m_s_aload_n dL_isSo_614 rfl) <| m_at_cons (m_s_aload dL_isSo_615) <| m_at_cons (m_s_aload dL_isSo_617) <| m_at_cons (m_s_cst (y := yL_isPack) rfl (by decide) (Or.inl wd_427) wd_428 wd_311 wd_429 (by decide +kernel) dL_isSo_619) <| m_at_cons (m_s_if_eq dL_isSo_622 (by decide)) <| m_at_cons (m_s_iconst dL_isSo_625 (by decide)) <| m_at_cons (m_s_goto dL_isSo_626 (by decide)) <| m_at_cons (m_s_iconst dL_isSo_629 (by decide)) <| m_at_cons (m_s_zret (ty := .boolean) rfl m_nz dL_isSo_630) <| m_at_nil
set_option maxRecDepth 100000 in
theorem sL_isSo : ∀ pc o, m_at tL_isSo pc = some o → m_Snd D cA ra B ro m_M cL_isSo 22 (some .boolean) RL "isSo" pc o := m_at_app sL_isSo_0 (m_at_app sL_isSo_1 (m_at_app sL_isSo_2 (m_at_app sL_isSo_3 (m_at_app sL_isSo_4 (sL_isSo_5)))))
set_option maxRecDepth 100000 in
theorem sL_told_0 : ∀ pc o, m_at tL_told_0 pc = some o → m_Snd D cA ra B ro m_M cL_told 4 (some .long) RL "told" pc o :=
  m_at_cons (m_s_ldc2 wd_430 dL_told_0) <| m_at_cons (m_s_lstore_n dL_told_3 rfl) <| m_at_cons (m_s_iconst dL_told_4 (by decide)) <| m_at_cons (m_s_istore_n dL_told_5 rfl) <| m_at_cons (m_s_iload_n dL_told_6 rfl) <| m_at_cons (m_s_bipush dL_told_7 (by decide)) <| m_at_cons (m_s_icmp_ge dL_told_9 (by decide)) <| m_at_cons (m_s_ldc2 wd_431 dL_told_12) <| m_at_cons (m_s_lload_n dL_told_15 rfl) <| m_at_cons (m_s_lmul dL_told_16) <| m_at_cons (m_s_iload_n dL_told_17 rfl) <| m_at_cons (m_s_bipush dL_told_18 (by decide)) <| m_at_cons (m_s_icmp_eq dL_told_20 (by decide)) <| m_at_cons (m_s_iload_n dL_told_23 rfl) <| m_at_cons (m_s_bipush dL_told_24 (by decide)) <| m_at_cons (m_s_icmp_ne dL_told_26 (by decide)) <| m_at_cons (m_s_iconst dL_told_29 (by decide)) <| m_at_cons (m_s_goto dL_told_30 (by decide)) <| m_at_cons (m_s_aload_n dL_told_33 rfl) <| m_at_cons (m_s_iload_n dL_told_34 rfl) <| m_at_cons (m_s_cob (T := TX5) (N := 6) (y := yX5_count) rfl rfl (by decide) (Or.inl wd_387) wd_388 wd_389 wd_32 wd_390 (by decide +kernel) dL_told_35) <| m_at_cons (m_s_i2l dL_told_38) <| m_at_cons (m_s_ladd dL_told_39) <| m_at_cons (m_s_lstore_n dL_told_40 rfl) <| m_at_cons (m_s_iinc dL_told_41 (by decide)) <| m_at_cons (m_s_goto dL_told_44 (by decide)) <| m_at_cons (m_s_iconst dL_told_47 (by decide)) <| m_at_cons (m_s_istore_n dL_told_48 rfl) <| m_at_cons (m_s_iload_n dL_told_49 rfl) <| m_at_cons (m_s_bipush dL_told_50 (by decide)) <| m_at_cons (m_s_icmp_ge dL_told_52 (by decide)) <| m_at_cons (m_s_ldc2 wd_431 dL_told_55) <| m_at_cons (m_s_ldc2 wd_431 dL_told_58) <| m_at_cons (m_s_lload_n dL_told_61 rfl) <| m_at_cons (m_s_lmul dL_told_62) <| m_at_cons (m_s_aload_n dL_told_63 rfl) <| m_at_cons (m_s_iload_n dL_told_64 rfl) <| m_at_cons (m_s_iconst dL_told_65 (by decide)) <| m_at_cons (m_s_cob (T := TX5) (N := 6) (y := yX5_block) rfl rfl (by decide) (Or.inl wd_415) wd_416 wd_417 wd_32 wd_418 (by decide +kernel) dL_told_66) <| m_at_cons (m_s_i2l dL_told_69) <| m_at_cons (m_s_ladd dL_told_70) <| m_at_cons (m_s_lmul dL_told_71) <| m_at_cons (m_s_aload_n dL_told_72 rfl) <| m_at_cons (m_s_iload_n dL_told_73 rfl) <| m_at_cons (m_s_iconst dL_told_74 (by decide)) <| m_at_cons (m_s_cob (T := TX5) (N := 6) (y := yX5_block) rfl rfl (by decide) (Or.inl wd_415) wd_416 wd_417 wd_32 wd_418 (by decide +kernel) dL_told_75) <| m_at_cons (m_s_i2l dL_told_78) <| m_at_cons (m_s_ladd dL_told_79) <| m_at_cons (m_s_lstore_n dL_told_80 rfl) <| m_at_cons (m_s_ldc2 wd_431 dL_told_81) <| m_at_cons (m_s_ldc2 wd_431 dL_told_84) <| m_at_cons (m_s_lload_n dL_told_87 rfl) <| m_at_cons (m_s_lmul dL_told_88) <| m_at_cons (m_s_aload_n dL_told_89 rfl) <| m_at_cons (m_s_iload_n dL_told_90 rfl) <| m_at_cons (m_s_iconst dL_told_91 (by decide)) <| m_at_cons (m_s_cob (T := TX5) (N := 6) (y := yX5_cardOf) rfl rfl (by decide) (Or.inl wd_396) wd_397 wd_398 wd_32 wd_399 (by decide +kernel) dL_told_92) <| m_at_cons (m_s_i2l dL_told_95) <| m_at_cons (m_s_ladd dL_told_96) <| m_at_cons (m_s_lmul dL_told_97) <| m_at_nil
set_option maxRecDepth 100000 in
theorem sL_told_1 : ∀ pc o, m_at tL_told_1 pc = some o → m_Snd D cA ra B ro m_M cL_told 4 (some .long) RL "told" pc o :=
  m_at_cons (m_s_aload_n dL_told_98 rfl) <| m_at_cons (m_s_iload_n dL_told_99 rfl) <| m_at_cons (m_s_iconst dL_told_100 (by decide)) <| m_at_cons (m_s_cob (T := TX5) (N := 6) (y := yX5_cardOf) rfl rfl (by decide) (Or.inl wd_396) wd_397 wd_398 wd_32 wd_399 (by decide +kernel) dL_told_101) <| m_at_cons (m_s_i2l dL_told_104) <| m_at_cons (m_s_ladd dL_told_105) <| m_at_cons (m_s_lstore_n dL_told_106 rfl) <| m_at_cons (m_s_ldc2 wd_431 dL_told_107) <| m_at_cons (m_s_ldc2 wd_431 dL_told_110) <| m_at_cons (m_s_lload_n dL_told_113 rfl) <| m_at_cons (m_s_lmul dL_told_114) <| m_at_cons (m_s_aload_n dL_told_115 rfl) <| m_at_cons (m_s_iconst dL_told_116 (by decide)) <| m_at_cons (m_s_iload_n dL_told_117 rfl) <| m_at_cons (m_s_iconst dL_told_118 (by decide)) <| m_at_cons (m_s_cob (T := TX5) (N := 6) (y := yX5_sheet) rfl rfl (by decide) (Or.inl wd_419) wd_420 wd_421 wd_32 wd_422 (by decide +kernel) dL_told_119) <| m_at_cons (m_s_i2l dL_told_122) <| m_at_cons (m_s_ladd dL_told_123) <| m_at_cons (m_s_lmul dL_told_124) <| m_at_cons (m_s_aload_n dL_told_125 rfl) <| m_at_cons (m_s_iconst dL_told_126 (by decide)) <| m_at_cons (m_s_iload_n dL_told_127 rfl) <| m_at_cons (m_s_iconst dL_told_128 (by decide)) <| m_at_cons (m_s_cob (T := TX5) (N := 6) (y := yX5_sheet) rfl rfl (by decide) (Or.inl wd_419) wd_420 wd_421 wd_32 wd_422 (by decide +kernel) dL_told_129) <| m_at_cons (m_s_i2l dL_told_132) <| m_at_cons (m_s_ladd dL_told_133) <| m_at_cons (m_s_aload_n dL_told_134 rfl) <| m_at_cons (m_s_iload_n dL_told_135 rfl) <| m_at_cons (m_s_iconst dL_told_136 (by decide)) <| m_at_cons (m_s_cob (T := TX5) (N := 6) (y := yX5_cardOf) rfl rfl (by decide) (Or.inl wd_396) wd_397 wd_398 wd_32 wd_399 (by decide +kernel) dL_told_137) <| m_at_cons (m_s_i2l dL_told_140) <| m_at_cons (m_s_ladd dL_told_141) <| m_at_cons (m_s_lstore_n dL_told_142 rfl) <| m_at_cons (m_s_iinc dL_told_143 (by decide)) <| m_at_cons (m_s_goto dL_told_146 (by decide)) <| m_at_cons (m_s_lload_n dL_told_149 rfl) <| m_at_cons (m_s_lret rfl dL_told_150) <| m_at_nil
set_option maxRecDepth 100000 in
theorem sL_told : ∀ pc o, m_at tL_told pc = some o → m_Snd D cA ra B ro m_M cL_told 4 (some .long) RL "told" pc o := m_at_app sL_told_0 (sL_told_1)
set_option maxRecDepth 100000 in
theorem sL_law_0 {nm : String} : ∀ pc o, m_at tL_law_0 pc = some o → m_Snd D cA ra B ro m_M cL_law 21 ret RL nm pc o :=
  m_at_cons (m_s_new (C := RX5) (T := TX5) (N := 6) rfl uw_5 tyX5_ok (by decide) rfl (fun _ _ => rfl) wd_432 wd_433 wd_32 dL_law_0) <| m_at_cons (m_s_dup dL_law_3) <| m_at_cons (m_s_cin (T := TX5) (N := 6) (y := yX5_init) rfl rfl (by decide) rfl (Or.inl wd_434) wd_435 wd_32 wd_436 (by decide +kernel) dL_law_4) <| m_at_cons (m_s_astore_n dL_law_7 rfl) <| m_at_cons (m_s_bipush dL_law_8 (by decide)) <| m_at_cons (m_s_nar (f := .int) rfl (fun _ => rfl) rfl (by decide) (fun _ _ _ g1 g2 => Option.some.inj (g1.symm.trans g2)) wd_26 dL_law_10) <| m_at_cons (m_s_astore_n dL_law_12 rfl) <| m_at_cons (m_s_bipush dL_law_13 (by decide)) <| m_at_cons (m_s_nar (f := .int) rfl (fun _ => rfl) rfl (by decide) (fun _ _ _ g1 g2 => Option.some.inj (g1.symm.trans g2)) wd_26 dL_law_15) <| m_at_cons (m_s_astore_n dL_law_17 rfl) <| m_at_cons (m_s_bipush dL_law_18 (by decide)) <| m_at_cons (m_s_nar (f := .int) rfl (fun _ => rfl) rfl (by decide) (fun _ _ _ g1 g2 => Option.some.inj (g1.symm.trans g2)) wd_26 dL_law_20) <| m_at_cons (m_s_astore dL_law_22) <| m_at_cons (m_s_bipush dL_law_24 (by decide)) <| m_at_cons (m_s_nar (f := .int) rfl (fun _ => rfl) rfl (by decide) (fun _ _ _ g1 g2 => Option.some.inj (g1.symm.trans g2)) wd_26 dL_law_26) <| m_at_cons (m_s_astore dL_law_28) <| m_at_cons (m_s_bipush dL_law_30 (by decide)) <| m_at_cons (m_s_nar (f := .int) rfl (fun _ => rfl) rfl (by decide) (fun _ _ _ g1 g2 => Option.some.inj (g1.symm.trans g2)) wd_26 dL_law_32) <| m_at_cons (m_s_astore dL_law_34) <| m_at_cons (m_s_bipush dL_law_36 (by decide)) <| m_at_cons (m_s_nar (f := .int) rfl (fun _ => rfl) rfl (by decide) (fun _ _ _ g1 g2 => Option.some.inj (g1.symm.trans g2)) wd_26 dL_law_38) <| m_at_cons (m_s_astore dL_law_40) <| m_at_cons (m_s_bipush dL_law_42 (by decide)) <| m_at_cons (m_s_nar (f := .int) rfl (fun _ => rfl) rfl (by decide) (fun _ _ _ g1 g2 => Option.some.inj (g1.symm.trans g2)) wd_26 dL_law_44) <| m_at_cons (m_s_astore dL_law_46) <| m_at_cons (m_s_bipush dL_law_48 (by decide)) <| m_at_cons (m_s_nar (f := .int) rfl (fun _ => rfl) rfl (by decide) (fun _ _ _ g1 g2 => Option.some.inj (g1.symm.trans g2)) wd_26 dL_law_50) <| m_at_cons (m_s_astore dL_law_52) <| m_at_cons (m_s_aload_n dL_law_54 rfl) <| m_at_cons (m_s_iconst dL_law_55 (by decide)) <| m_at_cons (m_s_bipush dL_law_56 (by decide)) <| m_at_cons (m_s_iast dL_law_58) <| m_at_cons (m_s_aload_n dL_law_59 rfl) <| m_at_cons (m_s_iconst dL_law_60 (by decide)) <| m_at_cons (m_s_iconst dL_law_61 (by decide)) <| m_at_cons (m_s_iast dL_law_62) <| m_at_cons (m_s_aload_n dL_law_63 rfl) <| m_at_cons (m_s_iconst dL_law_64 (by decide)) <| m_at_cons (m_s_iconst dL_law_65 (by decide)) <| m_at_cons (m_s_iast dL_law_66) <| m_at_cons (m_s_aload_n dL_law_67 rfl) <| m_at_cons (m_s_iconst dL_law_68 (by decide)) <| m_at_cons (m_s_bipush dL_law_69 (by decide)) <| m_at_cons (m_s_iast dL_law_71) <| m_at_cons (m_s_iconst dL_law_72 (by decide)) <| m_at_cons (m_s_istore dL_law_73) <| m_at_cons (m_s_iload dL_law_75) <| m_at_cons (m_s_bipush dL_law_77 (by decide)) <| m_at_cons (m_s_icmp_ge dL_law_79 (by decide)) <| m_at_cons (m_s_aload_n dL_law_82 rfl) <| m_at_cons (m_s_iload dL_law_83) <| m_at_cons (m_s_iload dL_law_85) <| m_at_cons (m_s_iast dL_law_87) <| m_at_cons (m_s_iinc dL_law_88 (by decide)) <| m_at_cons (m_s_goto dL_law_91 (by decide)) <| m_at_cons (m_s_iconst dL_law_94 (by decide)) <| m_at_cons (m_s_istore dL_law_95) <| m_at_cons (m_s_iload dL_law_97) <| m_at_cons (m_s_bipush dL_law_99 (by decide)) <| m_at_cons (m_s_icmp_ge dL_law_101 (by decide)) <| m_at_nil
set_option maxRecDepth 100000 in
theorem sL_law_1 {nm : String} : ∀ pc o, m_at tL_law_1 pc = some o → m_Snd D cA ra B ro m_M cL_law 21 ret RL nm pc o :=
  m_at_cons (m_s_aload_n dL_law_104 rfl) <| m_at_cons (m_s_iconst dL_law_105 (by decide)) <| m_at_cons (m_s_iload dL_law_106) <| m_at_cons (m_s_imul dL_law_108) <| m_at_cons (m_s_cst (y := yL_cell) rfl (by decide) (Or.inl wd_437) wd_438 wd_311 wd_439 (by decide +kernel) dL_law_109) <| m_at_cons (m_s_istore dL_law_112) <| m_at_cons (m_s_aload_n dL_law_114 rfl) <| m_at_cons (m_s_iconst dL_law_115 (by decide)) <| m_at_cons (m_s_iload dL_law_116) <| m_at_cons (m_s_imul dL_law_118) <| m_at_cons (m_s_iconst dL_law_119 (by decide)) <| m_at_cons (m_s_iadd dL_law_120) <| m_at_cons (m_s_cst (y := yL_cell) rfl (by decide) (Or.inl wd_437) wd_438 wd_311 wd_439 (by decide +kernel) dL_law_121) <| m_at_cons (m_s_istore dL_law_124) <| m_at_cons (m_s_iload dL_law_126) <| m_at_cons (m_s_bipush dL_law_128 (by decide)) <| m_at_cons (m_s_cst (y := yL_low) rfl (by decide) (Or.inl wd_384) wd_385 wd_311 wd_386 (by decide +kernel) dL_law_130) <| m_at_cons (m_s_istore dL_law_133) <| m_at_cons (m_s_iload dL_law_135) <| m_at_cons (m_s_iconst dL_law_137 (by decide)) <| m_at_cons (m_s_icmp_ge dL_law_138 (by decide)) <| m_at_cons (m_s_iconst dL_law_141 (by decide)) <| m_at_cons (m_s_goto dL_law_142 (by decide)) <| m_at_cons (m_s_iload dL_law_145) <| m_at_cons (m_s_bipush dL_law_147 (by decide)) <| m_at_cons (m_s_icmp_ge dL_law_149 (by decide)) <| m_at_cons (m_s_iconst dL_law_152 (by decide)) <| m_at_cons (m_s_goto dL_law_153 (by decide)) <| m_at_cons (m_s_iload dL_law_156) <| m_at_cons (m_s_bipush dL_law_158 (by decide)) <| m_at_cons (m_s_icmp_ge dL_law_160 (by decide)) <| m_at_cons (m_s_iconst dL_law_163 (by decide)) <| m_at_cons (m_s_goto dL_law_164 (by decide)) <| m_at_cons (m_s_iload dL_law_167) <| m_at_cons (m_s_bipush dL_law_169 (by decide)) <| m_at_cons (m_s_icmp_ge dL_law_171 (by decide)) <| m_at_cons (m_s_iconst dL_law_174 (by decide)) <| m_at_cons (m_s_goto dL_law_175 (by decide)) <| m_at_cons (m_s_iload dL_law_178) <| m_at_cons (m_s_bipush dL_law_180 (by decide)) <| m_at_cons (m_s_icmp_ge dL_law_182 (by decide)) <| m_at_cons (m_s_iconst dL_law_185 (by decide)) <| m_at_cons (m_s_goto dL_law_186 (by decide)) <| m_at_cons (m_s_iload dL_law_189) <| m_at_cons (m_s_bipush dL_law_191 (by decide)) <| m_at_cons (m_s_icmp_ge dL_law_193 (by decide)) <| m_at_cons (m_s_iconst dL_law_196 (by decide)) <| m_at_cons (m_s_goto dL_law_197 (by decide)) <| m_at_cons (m_s_iload dL_law_200) <| m_at_cons (m_s_bipush dL_law_202 (by decide)) <| m_at_cons (m_s_icmp_ge dL_law_204 (by decide)) <| m_at_cons (m_s_bipush dL_law_207 (by decide)) <| m_at_cons (m_s_goto dL_law_209 (by decide)) <| m_at_cons (m_s_iload dL_law_212) <| m_at_cons (m_s_bipush dL_law_214 (by decide)) <| m_at_cons (m_s_icmp_ge dL_law_216 (by decide)) <| m_at_cons (m_s_bipush dL_law_219 (by decide)) <| m_at_cons (m_s_goto dL_law_221 (by decide)) <| m_at_cons (m_s_iload dL_law_224) <| m_at_cons (m_s_bipush dL_law_226 (by decide)) <| m_at_nil
set_option maxRecDepth 100000 in
theorem sL_law_2 {nm : String} : ∀ pc o, m_at tL_law_2 pc = some o → m_Snd D cA ra B ro m_M cL_law 21 ret RL nm pc o :=
  m_at_cons (m_s_icmp_ne dL_law_228 (by decide)) <| m_at_cons (m_s_bipush dL_law_231 (by decide)) <| m_at_cons (m_s_goto dL_law_233 (by decide)) <| m_at_cons (m_s_iload dL_law_236) <| m_at_cons (m_s_bipush dL_law_238 (by decide)) <| m_at_cons (m_s_icmp_ne dL_law_240 (by decide)) <| m_at_cons (m_s_bipush dL_law_243 (by decide)) <| m_at_cons (m_s_goto dL_law_245 (by decide)) <| m_at_cons (m_s_iload dL_law_248) <| m_at_cons (m_s_iconst dL_law_250 (by decide)) <| m_at_cons (m_s_irem dL_law_251) <| m_at_cons (m_s_if_ne dL_law_252 (by decide)) <| m_at_cons (m_s_bipush dL_law_255 (by decide)) <| m_at_cons (m_s_goto dL_law_257 (by decide)) <| m_at_cons (m_s_iconst dL_law_260 (by decide)) <| m_at_cons (m_s_istore dL_law_261) <| m_at_cons (m_s_iload dL_law_263) <| m_at_cons (m_s_iconst dL_law_265 (by decide)) <| m_at_cons (m_s_icmp_ge dL_law_266 (by decide)) <| m_at_cons (m_s_iload dL_law_269) <| m_at_cons (m_s_bipush dL_law_271 (by decide)) <| m_at_cons (m_s_cst (y := yL_low) rfl (by decide) (Or.inl wd_384) wd_385 wd_311 wd_386 (by decide +kernel) dL_law_273) <| m_at_cons (m_s_goto dL_law_276 (by decide)) <| m_at_cons (m_s_iload dL_law_279) <| m_at_cons (m_s_iconst dL_law_281 (by decide)) <| m_at_cons (m_s_icmp_eq dL_law_282 (by decide)) <| m_at_cons (m_s_iload dL_law_285) <| m_at_cons (m_s_iconst dL_law_287 (by decide)) <| m_at_cons (m_s_icmp_ne dL_law_288 (by decide)) <| m_at_cons (m_s_iload dL_law_291) <| m_at_cons (m_s_iconst dL_law_293 (by decide)) <| m_at_cons (m_s_cst (y := yL_low) rfl (by decide) (Or.inl wd_384) wd_385 wd_311 wd_386 (by decide +kernel) dL_law_294) <| m_at_cons (m_s_goto dL_law_297 (by decide)) <| m_at_cons (m_s_iload dL_law_300) <| m_at_cons (m_s_iconst dL_law_302 (by decide)) <| m_at_cons (m_s_icmp_ne dL_law_303 (by decide)) <| m_at_cons (m_s_iload dL_law_306) <| m_at_cons (m_s_iconst dL_law_308 (by decide)) <| m_at_cons (m_s_cst (y := yL_low) rfl (by decide) (Or.inl wd_384) wd_385 wd_311 wd_386 (by decide +kernel) dL_law_309) <| m_at_cons (m_s_goto dL_law_312 (by decide)) <| m_at_cons (m_s_iconst dL_law_315 (by decide)) <| m_at_cons (m_s_iload dL_law_316) <| m_at_cons (m_s_iload dL_law_318) <| m_at_cons (m_s_bipush dL_law_320 (by decide)) <| m_at_cons (m_s_ishr dL_law_322) <| m_at_cons (m_s_iconst dL_law_323 (by decide)) <| m_at_cons (m_s_cst (y := yL_low) rfl (by decide) (Or.inl wd_384) wd_385 wd_311 wd_386 (by decide +kernel) dL_law_324) <| m_at_cons (m_s_if_ne dL_law_327 (by decide)) <| m_at_cons (m_s_bipush dL_law_330 (by decide)) <| m_at_cons (m_s_goto dL_law_332 (by decide)) <| m_at_cons (m_s_bipush dL_law_335 (by decide)) <| m_at_cons (m_s_cst (y := yL_low) rfl (by decide) (Or.inl wd_384) wd_385 wd_311 wd_386 (by decide +kernel) dL_law_337) <| m_at_cons (m_s_iadd dL_law_340) <| m_at_cons (m_s_istore dL_law_341) <| m_at_cons (m_s_iload dL_law_343) <| m_at_cons (m_s_if_ne dL_law_345 (by decide)) <| m_at_cons (m_s_iload dL_law_348) <| m_at_cons (m_s_iconst dL_law_350 (by decide)) <| m_at_cons (m_s_ishr dL_law_351) <| m_at_cons (m_s_bipush dL_law_352 (by decide)) <| m_at_nil
set_option maxRecDepth 100000 in
theorem sL_law_3 {nm : String} : ∀ pc o, m_at tL_law_3 pc = some o → m_Snd D cA ra B ro m_M cL_law 21 ret RL nm pc o :=
  m_at_cons (m_s_cst (y := yL_low) rfl (by decide) (Or.inl wd_384) wd_385 wd_311 wd_386 (by decide +kernel) dL_law_354) <| m_at_cons (m_s_goto dL_law_357 (by decide)) <| m_at_cons (m_s_iload dL_law_360) <| m_at_cons (m_s_iconst dL_law_362 (by decide)) <| m_at_cons (m_s_icmp_ne dL_law_363 (by decide)) <| m_at_cons (m_s_iload dL_law_366) <| m_at_cons (m_s_iconst dL_law_368 (by decide)) <| m_at_cons (m_s_ishr dL_law_369) <| m_at_cons (m_s_iconst dL_law_370 (by decide)) <| m_at_cons (m_s_cst (y := yL_low) rfl (by decide) (Or.inl wd_384) wd_385 wd_311 wd_386 (by decide +kernel) dL_law_371) <| m_at_cons (m_s_goto dL_law_374 (by decide)) <| m_at_cons (m_s_iload dL_law_377) <| m_at_cons (m_s_if_ne dL_law_379 (by decide)) <| m_at_cons (m_s_iconst dL_law_382 (by decide)) <| m_at_cons (m_s_iload dL_law_383) <| m_at_cons (m_s_iconst dL_law_385 (by decide)) <| m_at_cons (m_s_ishr dL_law_386) <| m_at_cons (m_s_bipush dL_law_387 (by decide)) <| m_at_cons (m_s_cst (y := yL_low) rfl (by decide) (Or.inl wd_384) wd_385 wd_311 wd_386 (by decide +kernel) dL_law_389) <| m_at_cons (m_s_iadd dL_law_392) <| m_at_cons (m_s_goto dL_law_393 (by decide)) <| m_at_cons (m_s_iload dL_law_396) <| m_at_cons (m_s_iconst dL_law_398 (by decide)) <| m_at_cons (m_s_icmp_ne dL_law_399 (by decide)) <| m_at_cons (m_s_iload dL_law_402) <| m_at_cons (m_s_iconst dL_law_404 (by decide)) <| m_at_cons (m_s_ishr dL_law_405) <| m_at_cons (m_s_bipush dL_law_406 (by decide)) <| m_at_cons (m_s_cst (y := yL_low) rfl (by decide) (Or.inl wd_384) wd_385 wd_311 wd_386 (by decide +kernel) dL_law_408) <| m_at_cons (m_s_goto dL_law_411 (by decide)) <| m_at_cons (m_s_iload dL_law_414) <| m_at_cons (m_s_iconst dL_law_416 (by decide)) <| m_at_cons (m_s_icmp_ne dL_law_417 (by decide)) <| m_at_cons (m_s_iload dL_law_420) <| m_at_cons (m_s_iconst dL_law_422 (by decide)) <| m_at_cons (m_s_ishr dL_law_423) <| m_at_cons (m_s_bipush dL_law_424 (by decide)) <| m_at_cons (m_s_cst (y := yL_low) rfl (by decide) (Or.inl wd_384) wd_385 wd_311 wd_386 (by decide +kernel) dL_law_426) <| m_at_cons (m_s_goto dL_law_429 (by decide)) <| m_at_cons (m_s_iconst dL_law_432 (by decide)) <| m_at_cons (m_s_iload dL_law_433) <| m_at_cons (m_s_iconst dL_law_435 (by decide)) <| m_at_cons (m_s_ishr dL_law_436) <| m_at_cons (m_s_bipush dL_law_437 (by decide)) <| m_at_cons (m_s_cst (y := yL_low) rfl (by decide) (Or.inl wd_384) wd_385 wd_311 wd_386 (by decide +kernel) dL_law_439) <| m_at_cons (m_s_iadd dL_law_442) <| m_at_cons (m_s_istore dL_law_443) <| m_at_cons (m_s_iload dL_law_445) <| m_at_cons (m_s_iconst dL_law_447 (by decide)) <| m_at_cons (m_s_icmp_ne dL_law_448 (by decide)) <| m_at_cons (m_s_iload dL_law_451) <| m_at_cons (m_s_bipush dL_law_453 (by decide)) <| m_at_cons (m_s_ishr dL_law_455) <| m_at_cons (m_s_iconst dL_law_456 (by decide)) <| m_at_cons (m_s_cst (y := yL_low) rfl (by decide) (Or.inl wd_384) wd_385 wd_311 wd_386 (by decide +kernel) dL_law_457) <| m_at_cons (m_s_if_le dL_law_460 (by decide)) <| m_at_cons (m_s_iconst dL_law_463 (by decide)) <| m_at_cons (m_s_goto dL_law_464 (by decide)) <| m_at_cons (m_s_iconst dL_law_467 (by decide)) <| m_at_cons (m_s_goto dL_law_468 (by decide)) <| m_at_nil
set_option maxRecDepth 100000 in
theorem sL_law_4 {nm : String} : ∀ pc o, m_at tL_law_4 pc = some o → m_Snd D cA ra B ro m_M cL_law 21 ret RL nm pc o :=
  m_at_cons (m_s_iload dL_law_471) <| m_at_cons (m_s_bipush dL_law_473 (by decide)) <| m_at_cons (m_s_ishr dL_law_475) <| m_at_cons (m_s_bipush dL_law_476 (by decide)) <| m_at_cons (m_s_cst (y := yL_low) rfl (by decide) (Or.inl wd_384) wd_385 wd_311 wd_386 (by decide +kernel) dL_law_478) <| m_at_cons (m_s_istore dL_law_481) <| m_at_cons (m_s_aload_n dL_law_483 rfl) <| m_at_cons (m_s_cst (y := yL_told) rfl (by decide) (Or.inl wd_440) wd_441 wd_311 wd_442 (by decide +kernel) dL_law_484) <| m_at_cons (m_s_lstore dL_law_487) <| m_at_cons (m_s_aload_n dL_law_489 rfl) <| m_at_cons (m_s_iload dL_law_490) <| m_at_cons (m_s_iload dL_law_492) <| m_at_cons (m_s_iload dL_law_494) <| m_at_cons (m_s_iload dL_law_496) <| m_at_cons (m_s_cst (y := yL_call) rfl (by decide) (Or.inl wd_443) wd_444 wd_311 wd_445 (by decide +kernel) dL_law_498) <| m_at_cons (m_s_istore dL_law_501) <| m_at_cons (m_s_iload dL_law_503) <| m_at_cons (m_s_if_ge dL_law_505 (by decide)) <| m_at_cons (m_s_aload_n dL_law_508 rfl) <| m_at_cons (m_s_cst (y := yL_told) rfl (by decide) (Or.inl wd_440) wd_441 wd_311 wd_442 (by decide +kernel) dL_law_509) <| m_at_cons (m_s_lload dL_law_512) <| m_at_cons (m_s_lcmp dL_law_514) <| m_at_cons (m_s_if_eq dL_law_515 (by decide)) <| m_at_cons (m_s_goto dL_law_518 (by decide)) <| m_at_cons (m_s_iload dL_law_521) <| m_at_cons (m_s_bipush dL_law_523 (by decide)) <| m_at_cons (m_s_ishr dL_law_525) <| m_at_cons (m_s_iconst dL_law_526 (by decide)) <| m_at_cons (m_s_iand dL_law_527) <| m_at_cons (m_s_if_ne dL_law_528 (by decide)) <| m_at_cons (m_s_aload_n dL_law_531 rfl) <| m_at_cons (m_s_cob (T := TX5) (N := 6) (y := yX5_undo) rfl rfl (by decide) (Or.inl wd_446) wd_447 wd_448 wd_32 wd_449 (by decide +kernel) dL_law_532) <| m_at_cons (m_s_if_lt dL_law_535 (by decide)) <| m_at_cons (m_s_aload_n dL_law_538 rfl) <| m_at_cons (m_s_cst (y := yL_told) rfl (by decide) (Or.inl wd_440) wd_441 wd_311 wd_442 (by decide +kernel) dL_law_539) <| m_at_cons (m_s_lload dL_law_542) <| m_at_cons (m_s_lcmp dL_law_544) <| m_at_cons (m_s_if_ne dL_law_545 (by decide)) <| m_at_cons (m_s_aload_n dL_law_548 rfl) <| m_at_cons (m_s_iload dL_law_549) <| m_at_cons (m_s_iload dL_law_551) <| m_at_cons (m_s_iload dL_law_553) <| m_at_cons (m_s_iload dL_law_555) <| m_at_cons (m_s_cst (y := yL_call) rfl (by decide) (Or.inl wd_443) wd_444 wd_311 wd_445 (by decide +kernel) dL_law_557) <| m_at_cons (m_s_iload dL_law_560) <| m_at_cons (m_s_icmp_eq dL_law_562 (by decide)) <| m_at_cons (m_s_iconst dL_law_565 (by decide)) <| m_at_cons (m_s_zret (ty := .boolean) rfl m_nz dL_law_566) <| m_at_cons (m_s_iload dL_law_567) <| m_at_cons (m_s_iconst dL_law_569 (by decide)) <| m_at_cons (m_s_icmp_ge dL_law_570 (by decide)) <| m_at_cons (m_s_iload dL_law_573) <| m_at_cons (m_s_iload dL_law_575) <| m_at_cons (m_s_iload dL_law_577) <| m_at_cons (m_s_iload dL_law_579) <| m_at_cons (m_s_aload_n dL_law_581 rfl) <| m_at_cons (m_s_aload_n dL_law_582 rfl) <| m_at_cons (m_s_aload dL_law_583) <| m_at_cons (m_s_aload dL_law_585) <| m_at_cons (m_s_cst (y := yL_ofBlocks) rfl (by decide) (Or.inl wd_450) wd_451 wd_311 wd_452 (by decide +kernel) dL_law_587) <| m_at_nil
set_option maxRecDepth 100000 in
theorem sL_law_5 {nm : String} : ∀ pc o, m_at tL_law_5 pc = some o → m_Snd D cA ra B ro m_M cL_law 21 ret RL nm pc o :=
  m_at_cons (m_s_goto dL_law_590 (by decide)) <| m_at_cons (m_s_iload dL_law_593) <| m_at_cons (m_s_iconst dL_law_595 (by decide)) <| m_at_cons (m_s_icmp_ne dL_law_596 (by decide)) <| m_at_cons (m_s_aload_n dL_law_599 rfl) <| m_at_cons (m_s_iconst dL_law_600 (by decide)) <| m_at_cons (m_s_ild (Or.inl ⟨rfl, dL_law_601⟩)) <| m_at_cons (m_s_bipush dL_law_602 (by decide)) <| m_at_cons (m_s_icmp_ne dL_law_604 (by decide)) <| m_at_cons (m_s_bipush dL_law_607 (by decide)) <| m_at_cons (m_s_goto dL_law_609 (by decide)) <| m_at_cons (m_s_aload_n dL_law_612 rfl) <| m_at_cons (m_s_iconst dL_law_613 (by decide)) <| m_at_cons (m_s_ild (Or.inl ⟨rfl, dL_law_614⟩)) <| m_at_cons (m_s_iconst dL_law_615 (by decide)) <| m_at_cons (m_s_iadd dL_law_616) <| m_at_cons (m_s_goto dL_law_617 (by decide)) <| m_at_cons (m_s_iload dL_law_620) <| m_at_cons (m_s_iload dL_law_622) <| m_at_cons (m_s_aload_n dL_law_624 rfl) <| m_at_cons (m_s_aload dL_law_625) <| m_at_cons (m_s_aload dL_law_627) <| m_at_cons (m_s_aload dL_law_629) <| m_at_cons (m_s_aload dL_law_631) <| m_at_cons (m_s_cst (y := yL_ofPack) rfl (by decide) (Or.inl wd_453) wd_454 wd_311 wd_455 (by decide +kernel) dL_law_633) <| m_at_cons (m_s_istore dL_law_636) <| m_at_cons (m_s_iload dL_law_638) <| m_at_cons (m_s_iconst dL_law_640 (by decide)) <| m_at_cons (m_s_icmp_ne dL_law_641 (by decide)) <| m_at_cons (m_s_aload_n dL_law_644 rfl) <| m_at_cons (m_s_iconst dL_law_645 (by decide)) <| m_at_cons (m_s_ild (Or.inl ⟨rfl, dL_law_646⟩)) <| m_at_cons (m_s_bipush dL_law_647 (by decide)) <| m_at_cons (m_s_icmp_ge dL_law_649 (by decide)) <| m_at_cons (m_s_iload dL_law_652) <| m_at_cons (m_s_iconst dL_law_654 (by decide)) <| m_at_cons (m_s_icmp_ne dL_law_655 (by decide)) <| m_at_cons (m_s_iconst dL_law_658 (by decide)) <| m_at_cons (m_s_goto dL_law_659 (by decide)) <| m_at_cons (m_s_iconst dL_law_662 (by decide)) <| m_at_cons (m_s_aload_n dL_law_663 rfl) <| m_at_cons (m_s_aload_n dL_law_664 rfl) <| m_at_cons (m_s_aload dL_law_665) <| m_at_cons (m_s_aload dL_law_667) <| m_at_cons (m_s_aload dL_law_669) <| m_at_cons (m_s_cst (y := yL_prints) rfl (by decide) (Or.inl wd_456) wd_457 wd_311 wd_458 (by decide +kernel) dL_law_671) <| m_at_cons (m_s_iload dL_law_674) <| m_at_cons (m_s_iload dL_law_676) <| m_at_cons (m_s_icmp_ne dL_law_678 (by decide)) <| m_at_cons (m_s_aload_n dL_law_681 rfl) <| m_at_cons (m_s_iload dL_law_682) <| m_at_cons (m_s_iconst dL_law_684 (by decide)) <| m_at_cons (m_s_ishr dL_law_685) <| m_at_cons (m_s_aload_n dL_law_686 rfl) <| m_at_cons (m_s_aload_n dL_law_687 rfl) <| m_at_cons (m_s_aload dL_law_688) <| m_at_cons (m_s_aload dL_law_690) <| m_at_cons (m_s_aload dL_law_692) <| m_at_cons (m_s_aload dL_law_694) <| m_at_cons (m_s_aload dL_law_696) <| m_at_nil
set_option maxRecDepth 100000 in
theorem sL_law_6 {nm : String} : ∀ pc o, m_at tL_law_6 pc = some o → m_Snd D cA ra B ro m_M cL_law 21 ret RL nm pc o :=
  m_at_cons (m_s_aload dL_law_698) <| m_at_cons (m_s_cst (y := yL_isSo) rfl (by decide) (Or.inl wd_459) wd_460 wd_311 wd_461 (by decide +kernel) dL_law_700) <| m_at_cons (m_s_if_ne dL_law_703 (by decide)) <| m_at_cons (m_s_iconst dL_law_706 (by decide)) <| m_at_cons (m_s_zret (ty := .boolean) rfl m_nz dL_law_707) <| m_at_cons (m_s_iinc dL_law_708 (by decide)) <| m_at_cons (m_s_goto dL_law_711 (by decide)) <| m_at_cons (m_s_iconst dL_law_714 (by decide)) <| m_at_cons (m_s_zret (ty := .boolean) rfl m_nz dL_law_715) <| m_at_nil
set_option maxRecDepth 100000 in
theorem sL_law {nm : String} : ∀ pc o, m_at tL_law pc = some o → m_Snd D cA ra B ro m_M cL_law 21 ret RL nm pc o := m_at_app sL_law_0 (m_at_app sL_law_1 (m_at_app sL_law_2 (m_at_app sL_law_3 (m_at_app sL_law_4 (m_at_app sL_law_5 (sL_law_6))))))
theorem m_TS_cons {q : m_Mt} {w : m_Tab × Nat} {Ms : List m_Mt} {Ps : m_Prog} (h1 : m_TS D cA ra B ro m_M q w) (h2 : ∀ (z : Nat) (w : m_Tab × Nat), Ps[z]? = some w → ∃ q, Ms[z]? = some q ∧ m_TS D cA ra B ro m_M q w) : ∀ (z : Nat) (w2 : m_Tab × Nat), (w :: Ps)[z]? = some w2 → ∃ q2, (q :: Ms)[z]? = some q2 ∧ m_TS D cA ra B ro m_M q2 w2 := by
  intro z w2 h
  cases z with
  | zero => cases h; exact ⟨q, rfl, h1⟩
  | succ z => exact h2 z w2 h
set_option maxRecDepth 100000 in
theorem m_PS_all : m_PS D cA ra B ro m_M m_P :=
  m_TS_cons ⟨rfl, by decide +kernel, sX0_init⟩ <| m_TS_cons ⟨rfl, by decide +kernel, sX0_record⟩ <| m_TS_cons ⟨rfl, by decide +kernel, sX0_takeLatestInto⟩ <| m_TS_cons ⟨rfl, by decide +kernel, sX0_copyTo⟩ <| m_TS_cons ⟨rfl, by decide +kernel, sX1_init⟩ <| m_TS_cons ⟨rfl, by decide +kernel, sX1_copyFrom⟩ <| m_TS_cons ⟨rfl, by decide +kernel, sX1_layDown⟩ <| m_TS_cons ⟨rfl, by decide +kernel, sX1_takeAway⟩ <| m_TS_cons ⟨rfl, by decide +kernel, sX1_isThere⟩ <| m_TS_cons ⟨rfl, by decide +kernel, sX1_left⟩ <| m_TS_cons ⟨rfl, by decide +kernel, sX1_hasPartsAt⟩ <| m_TS_cons ⟨rfl, by decide +kernel, sX1_cardAt⟩ <| m_TS_cons ⟨rfl, by decide +kernel, sX1_placeOf⟩ <| m_TS_cons ⟨rfl, by decide +kernel, sX1_cutAt⟩ <| m_TS_cons ⟨rfl, by decide +kernel, sX1_shuffleAt⟩ <| m_TS_cons ⟨rfl, by decide +kernel, sX1_marksOf⟩ <| m_TS_cons ⟨rfl, by decide +kernel, sX1_marksAt⟩ <| m_TS_cons ⟨rfl, by decide +kernel, sX1_canBeAt⟩ <| m_TS_cons ⟨rfl, by decide +kernel, sX1_guessAt⟩ <| m_TS_cons ⟨rfl, by decide +kernel, sX1_known⟩ <| m_TS_cons ⟨rfl, by decide +kernel, sX1_guessedRight⟩ <| m_TS_cons ⟨rfl, by decide +kernel, sX1_sumOfChances⟩ <| m_TS_cons ⟨rfl, by decide +kernel, sX2_init⟩ <| m_TS_cons ⟨rfl, by decide +kernel, sX2_cardCutTo⟩ <| m_TS_cons ⟨rfl, by decide +kernel, sX2_cardsAtHome⟩ <| m_TS_cons ⟨rfl, by decide +kernel, sX3_init⟩ <| m_TS_cons ⟨rfl, by decide +kernel, sX3_copyFrom⟩ <| m_TS_cons ⟨rfl, by decide +kernel, sX3_exchange⟩ <| m_TS_cons ⟨rfl, by decide +kernel, sX3_cellOf⟩ <| m_TS_cons ⟨rfl, by decide +kernel, sX3_hasMark⟩ <| m_TS_cons ⟨rfl, by decide +kernel, sX3_setMark⟩ <| m_TS_cons ⟨rfl, by decide +kernel, sX3_marksOnBacks⟩ <| m_TS_cons ⟨rfl, by decide +kernel, sX3_sheetAt⟩ <| m_TS_cons ⟨rfl, by decide +kernel, sX3_printSheet⟩ <| m_TS_cons ⟨rfl, by decide +kernel, sX3_wear⟩ <| m_TS_cons ⟨rfl, by decide +kernel, sX3_takeTopSheet⟩ <| m_TS_cons ⟨rfl, by decide +kernel, sX3_reasonAgainstSale⟩ <| m_TS_cons ⟨rfl, by decide +kernel, sX3_knownIfPrinted⟩ <| m_TS_cons ⟨rfl, by decide +kernel, sX4_init⟩ <| m_TS_cons ⟨rfl, by decide +kernel, sX5_init⟩ <| m_TS_cons ⟨rfl, by decide +kernel, sX5_swap⟩ <| m_TS_cons ⟨rfl, by decide +kernel, sX5_mark⟩ <| m_TS_cons ⟨rfl, by decide +kernel, sX5_lean⟩ <| m_TS_cons ⟨rfl, by decide +kernel, sX5_set⟩ <| m_TS_cons ⟨rfl, by decide +kernel, sX5_print⟩ <| m_TS_cons ⟨rfl, by decide +kernel, sX5_cutSheet⟩ <| m_TS_cons ⟨rfl, by decide +kernel, sX5_cutPack⟩ <| m_TS_cons ⟨rfl, by decide +kernel, sX5_shuffle⟩ <| m_TS_cons ⟨rfl, by decide +kernel, sX5_deal⟩ <| m_TS_cons ⟨rfl, by decide +kernel, sX5_sell⟩ <| m_TS_cons ⟨rfl, by decide +kernel, sX5_pulp⟩ <| m_TS_cons ⟨rfl, by decide +kernel, sX5_undo⟩ <| m_TS_cons ⟨rfl, by decide +kernel, sX5_block⟩ <| m_TS_cons ⟨rfl, by decide +kernel, sX5_cardOf⟩ <| m_TS_cons ⟨rfl, by decide +kernel, sX5_sheet⟩ <| m_TS_cons ⟨rfl, by decide +kernel, sX5_pack⟩ <| m_TS_cons ⟨rfl, by decide +kernel, sX5_count⟩ <| m_TS_cons ⟨rfl, by decide +kernel, sX5_why⟩ <| m_TS_cons ⟨rfl, by decide +kernel, sX5_chances⟩ <| m_TS_cons ⟨rfl, by decide +kernel, sX5_ifPrinted⟩ <| m_TS_cons ⟨rfl, by decide +kernel, sX5_bestWay⟩ <| m_TS_cons ⟨rfl, by decide +kernel, sX5_isCell⟩ <| m_TS_cons ⟨rfl, by decide +kernel, sX5_isCard⟩ <| m_TS_cons ⟨rfl, by decide +kernel, sX5_isMark⟩ <| m_TS_cons ⟨rfl, by decide +kernel, sX5_isCourt⟩ <| m_TS_cons ⟨rfl, by decide +kernel, sX5_at⟩ <| m_TS_cons ⟨rfl, by decide +kernel, sX5_put⟩ <| m_TS_cons ⟨rfl, by decide +kernel, sX5_copyRow⟩ <| m_TS_cons ⟨rfl, by decide +kernel, sX5_courtsBeyond⟩ <| m_TS_cons ⟨rfl, by decide +kernel, sX5_cellAt⟩ <| m_TS_cons ⟨rfl, by decide +kernel, sX5_along⟩ <| m_TS_cons ⟨rfl, by decide +kernel, sX5_placeBefore⟩ <| m_TS_cons ⟨rfl, by decide +kernel, sJ6_bitCount_0f7a4⟩ <| m_TS_cons ⟨rfl, by decide +kernel, sL_cell⟩ <| m_TS_cons ⟨rfl, by decide +kernel, sL_low⟩ <| m_TS_cons ⟨rfl, by decide +kernel, sL_ones⟩ <| m_TS_cons ⟨rfl, by decide +kernel, sL_court⟩ <| m_TS_cons ⟨rfl, by decide +kernel, sL_sheetAt⟩ <| m_TS_cons ⟨rfl, by decide +kernel, sL_prints⟩ <| m_TS_cons ⟨rfl, by decide +kernel, sL_cellAt⟩ <| m_TS_cons ⟨rfl, by decide +kernel, sL_cuts⟩ <| m_TS_cons ⟨rfl, by decide +kernel, sL_shuffles⟩ <| m_TS_cons ⟨rfl, by decide +kernel, sL_turns⟩ <| m_TS_cons ⟨rfl, by decide +kernel, sL_alike⟩ <| m_TS_cons ⟨rfl, by decide +kernel, sL_known⟩ <| m_TS_cons ⟨rfl, by decide +kernel, sL_leaning⟩ <| m_TS_cons ⟨rfl, by decide +kernel, sL_why⟩ <| m_TS_cons ⟨rfl, by decide +kernel, sL_call⟩ <| m_TS_cons ⟨rfl, by decide +kernel, sL_ofBlocks⟩ <| m_TS_cons ⟨rfl, by decide +kernel, sL_ofPack⟩ <| m_TS_cons ⟨rfl, by decide +kernel, sL_isPack⟩ <| m_TS_cons ⟨rfl, by decide +kernel, sL_isSo⟩ <| m_TS_cons ⟨rfl, by decide +kernel, sL_told⟩ <| (fun z w h => by simp at h)
end
end
