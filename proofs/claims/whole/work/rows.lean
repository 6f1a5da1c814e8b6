section
-- ===== PART A: goes FIRST, ahead of the names: the tables' words, and 'selects' of the private methods out of them =====
/-- a private method of a class that the tables say can be made, by its rows of tables_1 -/
def lw_okq (q : MethodName × Nat) : Prop := (q.1.cls ≠ "java/lang/invoke/MethodHandle" ∧ q.1.cls ≠ "java/lang/invoke/VarHandle") ∧ Cond.instantiable q.1.cls q.2 ∈ tables_1 ∧ Cond.privateMethod q.1 ∈ tables_1 ∧ Cond.instanceMethod q.1 ∈ tables_1
theorem lw_p0 : lw_okq (⟨"CardSheets$History", "copyTo", "(ILCardSheets$State;)V"⟩, 3) := ⟨⟨by decide +kernel, by decide +kernel⟩, List.mem_of_getElem? (i := 103) (by decide +kernel), List.mem_of_getElem? (i := 186) (by decide +kernel), List.mem_of_getElem? (i := 187) (by decide +kernel)⟩
theorem lw_p1 : lw_okq (⟨"CardSheets$Text", "readChange", "()Z"⟩, 7) := ⟨⟨by decide +kernel, by decide +kernel⟩, List.mem_of_getElem? (i := 123) (by decide +kernel), List.mem_of_getElem? (i := 245) (by decide +kernel), List.mem_of_getElem? (i := 246) (by decide +kernel)⟩
theorem lw_p2 : lw_okq (⟨"CardSheets$Text", "nextSign", "()C"⟩, 7) := ⟨⟨by decide +kernel, by decide +kernel⟩, List.mem_of_getElem? (i := 123) (by decide +kernel), List.mem_of_getElem? (i := 249) (by decide +kernel), List.mem_of_getElem? (i := 250) (by decide +kernel)⟩
theorem lw_p3 : lw_okq (⟨"CardSheets$Text", "readNumber", "(II)I"⟩, 7) := ⟨⟨by decide +kernel, by decide +kernel⟩, List.mem_of_getElem? (i := 123) (by decide +kernel), List.mem_of_getElem? (i := 253) (by decide +kernel), List.mem_of_getElem? (i := 254) (by decide +kernel)⟩
theorem lw_p4 : lw_okq (⟨"CardSheets$Text", "nextDigit", "()I"⟩, 7) := ⟨⟨by decide +kernel, by decide +kernel⟩, List.mem_of_getElem? (i := 123) (by decide +kernel), List.mem_of_getElem? (i := 257) (by decide +kernel), List.mem_of_getElem? (i := 258) (by decide +kernel)⟩
theorem lw_p5 : lw_okq (⟨"CardSheets$Text", "take", "(C)Z"⟩, 7) := ⟨⟨by decide +kernel, by decide +kernel⟩, List.mem_of_getElem? (i := 123) (by decide +kernel), List.mem_of_getElem? (i := 261) (by decide +kernel), List.mem_of_getElem? (i := 262) (by decide +kernel)⟩
theorem lw_p6 : lw_okq (⟨"CardSheets$Text", "addChange", "(CII)V"⟩, 7) := ⟨⟨by decide +kernel, by decide +kernel⟩, List.mem_of_getElem? (i := 123) (by decide +kernel), List.mem_of_getElem? (i := 268) (by decide +kernel), List.mem_of_getElem? (i := 269) (by decide +kernel)⟩
theorem lw_p7 : lw_okq (⟨"CardSheets", "doChange", "(CII)V"⟩, 6) := ⟨⟨by decide +kernel, by decide +kernel⟩, List.mem_of_getElem? (i := 12) (by decide +kernel), List.mem_of_getElem? (i := 283) (by decide +kernel), List.mem_of_getElem? (i := 284) (by decide +kernel)⟩
theorem lw_p8 : lw_okq (⟨"CardSheets$State", "wear", "()V"⟩, 11) := ⟨⟨by decide +kernel, by decide +kernel⟩, List.mem_of_getElem? (i := 20) (by decide +kernel), List.mem_of_getElem? (i := 325) (by decide +kernel), List.mem_of_getElem? (i := 326) (by decide +kernel)⟩
theorem lw_p9 : lw_okq (⟨"CardSheetsModel", "record", "()V"⟩, 14) := ⟨⟨by decide +kernel, by decide +kernel⟩, List.mem_of_getElem? (i := 572) (by decide +kernel), List.mem_of_getElem? (i := 633) (by decide +kernel), List.mem_of_getElem? (i := 634) (by decide +kernel)⟩
theorem lw_p10 : lw_okq (⟨"CardSheetsModel", "putAside", "()V"⟩, 14) := ⟨⟨by decide +kernel, by decide +kernel⟩, List.mem_of_getElem? (i := 572) (by decide +kernel), List.mem_of_getElem? (i := 637) (by decide +kernel), List.mem_of_getElem? (i := 638) (by decide +kernel)⟩
theorem lw_p11 : lw_okq (⟨"CardSheetsModel", "push", "()V"⟩, 14) := ⟨⟨by decide +kernel, by decide +kernel⟩, List.mem_of_getElem? (i := 572) (by decide +kernel), List.mem_of_getElem? (i := 641) (by decide +kernel), List.mem_of_getElem? (i := 642) (by decide +kernel)⟩
theorem lw_p12 : lw_okq (⟨"CardSheetsModel", "exchange", "(II)V"⟩, 14) := ⟨⟨by decide +kernel, by decide +kernel⟩, List.mem_of_getElem? (i := 572) (by decide +kernel), List.mem_of_getElem? (i := 655) (by decide +kernel), List.mem_of_getElem? (i := 656) (by decide +kernel)⟩
theorem lw_p13 : lw_okq (⟨"CardSheetsModel", "setMark", "(IIZ)V"⟩, 14) := ⟨⟨by decide +kernel, by decide +kernel⟩, List.mem_of_getElem? (i := 572) (by decide +kernel), List.mem_of_getElem? (i := 666) (by decide +kernel), List.mem_of_getElem? (i := 667) (by decide +kernel)⟩
theorem lw_p14 : lw_okq (⟨"CardSheetsModel", "top", "()I"⟩, 14) := ⟨⟨by decide +kernel, by decide +kernel⟩, List.mem_of_getElem? (i := 572) (by decide +kernel), List.mem_of_getElem? (i := 691) (by decide +kernel), List.mem_of_getElem? (i := 692) (by decide +kernel)⟩
theorem lw_p15 : lw_okq (⟨"CardSheetsModel", "backOf", "(IZ)I"⟩, 14) := ⟨⟨by decide +kernel, by decide +kernel⟩, List.mem_of_getElem? (i := 572) (by decide +kernel), List.mem_of_getElem? (i := 698) (by decide +kernel), List.mem_of_getElem? (i := 699) (by decide +kernel)⟩
def lw_privs_1 : List (MethodName × Nat) := [(⟨"CardSheets$History", "copyTo", "(ILCardSheets$State;)V"⟩, 3), (⟨"CardSheets$Text", "readChange", "()Z"⟩, 7), (⟨"CardSheets$Text", "nextSign", "()C"⟩, 7), (⟨"CardSheets$Text", "readNumber", "(II)I"⟩, 7), (⟨"CardSheets$Text", "nextDigit", "()I"⟩, 7), (⟨"CardSheets$Text", "take", "(C)Z"⟩, 7), (⟨"CardSheets$Text", "addChange", "(CII)V"⟩, 7), (⟨"CardSheets", "doChange", "(CII)V"⟩, 6), (⟨"CardSheets$State", "wear", "()V"⟩, 11), (⟨"CardSheetsModel", "record", "()V"⟩, 14), (⟨"CardSheetsModel", "putAside", "()V"⟩, 14), (⟨"CardSheetsModel", "push", "()V"⟩, 14), (⟨"CardSheetsModel", "exchange", "(II)V"⟩, 14), (⟨"CardSheetsModel", "setMark", "(IIZ)V"⟩, 14), (⟨"CardSheetsModel", "top", "()I"⟩, 14), (⟨"CardSheetsModel", "backOf", "(IZ)I"⟩, 14)]
theorem lw_r1 : ∀ q ∈ lw_privs_1, lw_okq q := List.forall_mem_cons.mpr ⟨lw_p0, List.forall_mem_cons.mpr ⟨lw_p1, List.forall_mem_cons.mpr ⟨lw_p2, List.forall_mem_cons.mpr ⟨lw_p3, List.forall_mem_cons.mpr ⟨lw_p4, List.forall_mem_cons.mpr ⟨lw_p5, List.forall_mem_cons.mpr ⟨lw_p6, List.forall_mem_cons.mpr ⟨lw_p7, List.forall_mem_cons.mpr ⟨lw_p8, List.forall_mem_cons.mpr ⟨lw_p9, List.forall_mem_cons.mpr ⟨lw_p10, List.forall_mem_cons.mpr ⟨lw_p11, List.forall_mem_cons.mpr ⟨lw_p12, List.forall_mem_cons.mpr ⟨lw_p13, List.forall_mem_cons.mpr ⟨lw_p14, List.forall_mem_cons.mpr ⟨lw_p15, fun _ h => absurd h List.not_mem_nil⟩⟩⟩⟩⟩⟩⟩⟩⟩⟩⟩⟩⟩⟩⟩⟩
theorem lw_p16 : lw_okq (⟨"CardSheetsModel", "canPart", "(I)Z"⟩, 14) := ⟨⟨by decide +kernel, by decide +kernel⟩, List.mem_of_getElem? (i := 572) (by decide +kernel), List.mem_of_getElem? (i := 713) (by decide +kernel), List.mem_of_getElem? (i := 714) (by decide +kernel)⟩
theorem lw_p17 : lw_okq (⟨"CardSheetsModel", "takeOrder", "()V"⟩, 14) := ⟨⟨by decide +kernel, by decide +kernel⟩, List.mem_of_getElem? (i := 572) (by decide +kernel), List.mem_of_getElem? (i := 717) (by decide +kernel), List.mem_of_getElem? (i := 718) (by decide +kernel)⟩
theorem lw_p18 : lw_okq (⟨"CardSheetsModel", "cameFrom", "(II)I"⟩, 14) := ⟨⟨by decide +kernel, by decide +kernel⟩, List.mem_of_getElem? (i := 572) (by decide +kernel), List.mem_of_getElem? (i := 725) (by decide +kernel), List.mem_of_getElem? (i := 726) (by decide +kernel)⟩
theorem lw_p19 : lw_okq (⟨"CardSheetsModel", "reason", "()I"⟩, 14) := ⟨⟨by decide +kernel, by decide +kernel⟩, List.mem_of_getElem? (i := 572) (by decide +kernel), List.mem_of_getElem? (i := 737) (by decide +kernel), List.mem_of_getElem? (i := 738) (by decide +kernel)⟩
theorem lw_p20 : lw_okq (⟨"CardSheetsModel", "leaning", "(I)I"⟩, 14) := ⟨⟨by decide +kernel, by decide +kernel⟩, List.mem_of_getElem? (i := 572) (by decide +kernel), List.mem_of_getElem? (i := 741) (by decide +kernel), List.mem_of_getElem? (i := 742) (by decide +kernel)⟩
theorem lw_p21 : lw_okq (⟨"CardSheetsModel", "known", "()I"⟩, 14) := ⟨⟨by decide +kernel, by decide +kernel⟩, List.mem_of_getElem? (i := 572) (by decide +kernel), List.mem_of_getElem? (i := 748) (by decide +kernel), List.mem_of_getElem? (i := 749) (by decide +kernel)⟩
theorem lw_p22 : lw_okq (⟨"CardSheetsModel", "marksAt", "(I)I"⟩, 14) := ⟨⟨by decide +kernel, by decide +kernel⟩, List.mem_of_getElem? (i := 572) (by decide +kernel), List.mem_of_getElem? (i := 752) (by decide +kernel), List.mem_of_getElem? (i := 753) (by decide +kernel)⟩
theorem lw_p23 : lw_okq (⟨"CardSheetsModel", "alike", "(I)I"⟩, 14) := ⟨⟨by decide +kernel, by decide +kernel⟩, List.mem_of_getElem? (i := 572) (by decide +kernel), List.mem_of_getElem? (i := 756) (by decide +kernel), List.mem_of_getElem? (i := 757) (by decide +kernel)⟩
theorem lw_p24 : lw_okq (⟨"CardSheetsModel", "dropPack", "()V"⟩, 14) := ⟨⟨by decide +kernel, by decide +kernel⟩, List.mem_of_getElem? (i := 572) (by decide +kernel), List.mem_of_getElem? (i := 760) (by decide +kernel), List.mem_of_getElem? (i := 761) (by decide +kernel)⟩
theorem lw_p25 : lw_okq (⟨"CardSheetsModel", "findFault", "()I"⟩, 14) := ⟨⟨by decide +kernel, by decide +kernel⟩, List.mem_of_getElem? (i := 572) (by decide +kernel), List.mem_of_getElem? (i := 780) (by decide +kernel), List.mem_of_getElem? (i := 781) (by decide +kernel)⟩
theorem lw_p26 : lw_okq (⟨"CardSheetsModel", "readsChange", "()Z"⟩, 14) := ⟨⟨by decide +kernel, by decide +kernel⟩, List.mem_of_getElem? (i := 572) (by decide +kernel), List.mem_of_getElem? (i := 784) (by decide +kernel), List.mem_of_getElem? (i := 785) (by decide +kernel)⟩
theorem lw_p27 : lw_okq (⟨"CardSheetsModel", "code", "()I"⟩, 14) := ⟨⟨by decide +kernel, by decide +kernel⟩, List.mem_of_getElem? (i := 572) (by decide +kernel), List.mem_of_getElem? (i := 788) (by decide +kernel), List.mem_of_getElem? (i := 789) (by decide +kernel)⟩
theorem lw_p28 : lw_okq (⟨"CardSheetsModel", "readNumber", "(I)I"⟩, 14) := ⟨⟨by decide +kernel, by decide +kernel⟩, List.mem_of_getElem? (i := 572) (by decide +kernel), List.mem_of_getElem? (i := 792) (by decide +kernel), List.mem_of_getElem? (i := 793) (by decide +kernel)⟩
theorem lw_p29 : lw_okq (⟨"CardSheetsModel", "takes", "(I)Z"⟩, 14) := ⟨⟨by decide +kernel, by decide +kernel⟩, List.mem_of_getElem? (i := 572) (by decide +kernel), List.mem_of_getElem? (i := 796) (by decide +kernel), List.mem_of_getElem? (i := 797) (by decide +kernel)⟩
theorem lw_p30 : lw_okq (⟨"CardSheetsModel", "readsLean", "()Z"⟩, 14) := ⟨⟨by decide +kernel, by decide +kernel⟩, List.mem_of_getElem? (i := 572) (by decide +kernel), List.mem_of_getElem? (i := 800) (by decide +kernel), List.mem_of_getElem? (i := 801) (by decide +kernel)⟩
theorem lw_p31 : lw_okq (⟨"CardSheetsModel", "doesChange", "()Z"⟩, 14) := ⟨⟨by decide +kernel, by decide +kernel⟩, List.mem_of_getElem? (i := 572) (by decide +kernel), List.mem_of_getElem? (i := 808) (by decide +kernel), List.mem_of_getElem? (i := 809) (by decide +kernel)⟩
def lw_privs_2 : List (MethodName × Nat) := [(⟨"CardSheetsModel", "canPart", "(I)Z"⟩, 14), (⟨"CardSheetsModel", "takeOrder", "()V"⟩, 14), (⟨"CardSheetsModel", "cameFrom", "(II)I"⟩, 14), (⟨"CardSheetsModel", "reason", "()I"⟩, 14), (⟨"CardSheetsModel", "leaning", "(I)I"⟩, 14), (⟨"CardSheetsModel", "known", "()I"⟩, 14), (⟨"CardSheetsModel", "marksAt", "(I)I"⟩, 14), (⟨"CardSheetsModel", "alike", "(I)I"⟩, 14), (⟨"CardSheetsModel", "dropPack", "()V"⟩, 14), (⟨"CardSheetsModel", "findFault", "()I"⟩, 14), (⟨"CardSheetsModel", "readsChange", "()Z"⟩, 14), (⟨"CardSheetsModel", "code", "()I"⟩, 14), (⟨"CardSheetsModel", "readNumber", "(I)I"⟩, 14), (⟨"CardSheetsModel", "takes", "(I)Z"⟩, 14), (⟨"CardSheetsModel", "readsLean", "()Z"⟩, 14), (⟨"CardSheetsModel", "doesChange", "()Z"⟩, 14)]
theorem lw_r2 : ∀ q ∈ lw_privs_2, lw_okq q := List.forall_mem_cons.mpr ⟨lw_p16, List.forall_mem_cons.mpr ⟨lw_p17, List.forall_mem_cons.mpr ⟨lw_p18, List.forall_mem_cons.mpr ⟨lw_p19, List.forall_mem_cons.mpr ⟨lw_p20, List.forall_mem_cons.mpr ⟨lw_p21, List.forall_mem_cons.mpr ⟨lw_p22, List.forall_mem_cons.mpr ⟨lw_p23, List.forall_mem_cons.mpr ⟨lw_p24, List.forall_mem_cons.mpr ⟨lw_p25, List.forall_mem_cons.mpr ⟨lw_p26, List.forall_mem_cons.mpr ⟨lw_p27, List.forall_mem_cons.mpr ⟨lw_p28, List.forall_mem_cons.mpr ⟨lw_p29, List.forall_mem_cons.mpr ⟨lw_p30, List.forall_mem_cons.mpr ⟨lw_p31, fun _ h => absurd h List.not_mem_nil⟩⟩⟩⟩⟩⟩⟩⟩⟩⟩⟩⟩⟩⟩⟩⟩
theorem lw_p32 : lw_okq (⟨"CardSheetsModel", "takeBack", "()V"⟩, 14) := ⟨⟨by decide +kernel, by decide +kernel⟩, List.mem_of_getElem? (i := 572) (by decide +kernel), List.mem_of_getElem? (i := 812) (by decide +kernel), List.mem_of_getElem? (i := 813) (by decide +kernel)⟩
theorem lw_p33 : lw_okq (⟨"CardSheetsModel", "cellOf", "(I)I"⟩, 14) := ⟨⟨by decide +kernel, by decide +kernel⟩, List.mem_of_getElem? (i := 572) (by decide +kernel), List.mem_of_getElem? (i := 824) (by decide +kernel), List.mem_of_getElem? (i := 825) (by decide +kernel)⟩
theorem lw_p34 : lw_okq (⟨"CardSheetsModel", "placeOf", "(I)I"⟩, 14) := ⟨⟨by decide +kernel, by decide +kernel⟩, List.mem_of_getElem? (i := 572) (by decide +kernel), List.mem_of_getElem? (i := 828) (by decide +kernel), List.mem_of_getElem? (i := 829) (by decide +kernel)⟩
theorem lw_p35 : lw_okq (⟨"CardSheetsModel", "guess", "(I)I"⟩, 14) := ⟨⟨by decide +kernel, by decide +kernel⟩, List.mem_of_getElem? (i := 572) (by decide +kernel), List.mem_of_getElem? (i := 840) (by decide +kernel), List.mem_of_getElem? (i := 841) (by decide +kernel)⟩
theorem lw_p36 : lw_okq (⟨"CardSheetsModel", "rightOnes", "()I"⟩, 14) := ⟨⟨by decide +kernel, by decide +kernel⟩, List.mem_of_getElem? (i := 572) (by decide +kernel), List.mem_of_getElem? (i := 848) (by decide +kernel), List.mem_of_getElem? (i := 849) (by decide +kernel)⟩
theorem lw_p37 : lw_okq (⟨"CardSheetsModel", "marksOfBacks", "()I"⟩, 14) := ⟨⟨by decide +kernel, by decide +kernel⟩, List.mem_of_getElem? (i := 572) (by decide +kernel), List.mem_of_getElem? (i := 852) (by decide +kernel), List.mem_of_getElem? (i := 853) (by decide +kernel)⟩
theorem lw_p38 : lw_okq (⟨"CardSheetsModel", "see", "(Z)V"⟩, 14) := ⟨⟨by decide +kernel, by decide +kernel⟩, List.mem_of_getElem? (i := 572) (by decide +kernel), List.mem_of_getElem? (i := 872) (by decide +kernel), List.mem_of_getElem? (i := 873) (by decide +kernel)⟩
theorem lw_p39 : lw_okq (⟨"CardSheetsModel", "single", "()I"⟩, 14) := ⟨⟨by decide +kernel, by decide +kernel⟩, List.mem_of_getElem? (i := 572) (by decide +kernel), List.mem_of_getElem? (i := 876) (by decide +kernel), List.mem_of_getElem? (i := 877) (by decide +kernel)⟩
theorem lw_p40 : lw_okq (⟨"CardSheetsModel", "atHome", "(I)I"⟩, 14) := ⟨⟨by decide +kernel, by decide +kernel⟩, List.mem_of_getElem? (i := 572) (by decide +kernel), List.mem_of_getElem? (i := 888) (by decide +kernel), List.mem_of_getElem? (i := 889) (by decide +kernel)⟩
theorem lw_p41 : lw_okq (⟨"CardSheetsModel", "comesBack", "(I)Z"⟩, 14) := ⟨⟨by decide +kernel, by decide +kernel⟩, List.mem_of_getElem? (i := 572) (by decide +kernel), List.mem_of_getElem? (i := 896) (by decide +kernel), List.mem_of_getElem? (i := 897) (by decide +kernel)⟩
def lw_privs_3 : List (MethodName × Nat) := [(⟨"CardSheetsModel", "takeBack", "()V"⟩, 14), (⟨"CardSheetsModel", "cellOf", "(I)I"⟩, 14), (⟨"CardSheetsModel", "placeOf", "(I)I"⟩, 14), (⟨"CardSheetsModel", "guess", "(I)I"⟩, 14), (⟨"CardSheetsModel", "rightOnes", "()I"⟩, 14), (⟨"CardSheetsModel", "marksOfBacks", "()I"⟩, 14), (⟨"CardSheetsModel", "see", "(Z)V"⟩, 14), (⟨"CardSheetsModel", "single", "()I"⟩, 14), (⟨"CardSheetsModel", "atHome", "(I)I"⟩, 14), (⟨"CardSheetsModel", "comesBack", "(I)Z"⟩, 14)]
theorem lw_r3 : ∀ q ∈ lw_privs_3, lw_okq q := List.forall_mem_cons.mpr ⟨lw_p32, List.forall_mem_cons.mpr ⟨lw_p33, List.forall_mem_cons.mpr ⟨lw_p34, List.forall_mem_cons.mpr ⟨lw_p35, List.forall_mem_cons.mpr ⟨lw_p36, List.forall_mem_cons.mpr ⟨lw_p37, List.forall_mem_cons.mpr ⟨lw_p38, List.forall_mem_cons.mpr ⟨lw_p39, List.forall_mem_cons.mpr ⟨lw_p40, List.forall_mem_cons.mpr ⟨lw_p41, fun _ h => absurd h List.not_mem_nil⟩⟩⟩⟩⟩⟩⟩⟩⟩⟩
def lw_privs : List (MethodName × Nat) := lw_privs_1 ++ (lw_privs_2 ++ (lw_privs_3))
def lw_tbl : List Cond := k2_sels lw_privs ++ tables_1
theorem lw_privs_ok : ∀ q ∈ lw_privs, lw_okq q := by
  show ∀ q ∈ lw_privs_1 ++ (lw_privs_2 ++ (lw_privs_3)), lw_okq q
  exact List.forall_mem_append.mpr ⟨lw_r1, List.forall_mem_append.mpr ⟨lw_r2, lw_r3⟩⟩
/-- the streams that the claim lets the run draw from -/
abbrev lw_cs : List Choice := [Jvm.Choice.named "NaN.bits"]
theorem lw_bits : nanBits ∈ lw_cs := by first | decide | exact List.mem_cons_self | simp [lw_cs, nanBits]
end
section
def RX0 : String := "CardSheets$History"
def TX0 : u_T := fun k => match k with
  | 0 => ("CardSheets$History", "states", "[LCardSheets$State;", true)
  | 1 => ("CardSheets$History", "next", "I", false)
  | _ => ("CardSheets$History", "size", "I", false)
def tyX0 : Nat → FieldType := fun k => match k with
  | 0 => .array (.object "CardSheets$State")
  | 1 => .int
  | _ => .int
theorem nmX0 : ∀ a, a < 3 → ∀ b, b < 3 → a ≠ b → (TX0 a).2.1 ≠ (TX0 b).2.1 := by decide +kernel
theorem tyX0_ok : ∀ k, k < 3 → parseFieldDescriptor (TX0 k).2.2.1 = some (tyX0 k) := by decide +kernel
abbrev cX0_init : ByteArray := prog_2_method_1_code
def yX0_init : MethodName := ⟨RX0, "<init>", "()V"⟩
abbrev cX0_record : ByteArray := prog_2_method_2_code
def yX0_record : MethodName := ⟨RX0, "record", "(LCardSheets$State;)V"⟩
abbrev cX0_takeLatestInto : ByteArray := prog_2_method_3_code
def yX0_takeLatestInto : MethodName := ⟨RX0, "takeLatestInto", "(LCardSheets$State;)V"⟩
abbrev cX0_copyTo : ByteArray := prog_2_method_4_code
def yX0_copyTo : MethodName := ⟨RX0, "copyTo", "(ILCardSheets$State;)V"⟩
def RX1 : String := "CardSheets$Pack"
def TX1 : u_T := fun k => match k with
  | 0 => ("CardSheets$Pack", "order", "[I", true)
  | 1 => ("CardSheets$Pack", "from", "LCardSheets$Sheet;", false)
  | _ => ("CardSheets$Pack", "dealt", "I", false)
def tyX1 : Nat → FieldType := fun k => match k with
  | 0 => .array .int
  | 1 => .object "CardSheets$Sheet"
  | _ => .int
theorem nmX1 : ∀ a, a < 3 → ∀ b, b < 3 → a ≠ b → (TX1 a).2.1 ≠ (TX1 b).2.1 := by decide +kernel
theorem tyX1_ok : ∀ k, k < 3 → parseFieldDescriptor (TX1 k).2.2.1 = some (tyX1 k) := by decide +kernel
abbrev cX1_init : ByteArray := prog_3_method_1_code
def yX1_init : MethodName := ⟨RX1, "<init>", "()V"⟩
abbrev cX1_copyFrom : ByteArray := prog_3_method_2_code
def yX1_copyFrom : MethodName := ⟨RX1, "copyFrom", "(LCardSheets$Pack;)V"⟩
abbrev cX1_layDown : ByteArray := prog_3_method_3_code
def yX1_layDown : MethodName := ⟨RX1, "layDown", "(LCardSheets$Sheet;I)V"⟩
abbrev cX1_takeAway : ByteArray := prog_3_method_4_code
def yX1_takeAway : MethodName := ⟨RX1, "takeAway", "()V"⟩
abbrev cX1_isThere : ByteArray := prog_3_method_5_code
def yX1_isThere : MethodName := ⟨RX1, "isThere", "()Z"⟩
abbrev cX1_left : ByteArray := prog_3_method_6_code
def yX1_left : MethodName := ⟨RX1, "left", "()I"⟩
abbrev cX1_hasPartsAt : ByteArray := prog_3_method_7_code
def yX1_hasPartsAt : MethodName := ⟨RX1, "hasPartsAt", "(I)Z"⟩
abbrev cX1_cardAt : ByteArray := prog_3_method_8_code
def yX1_cardAt : MethodName := ⟨RX1, "cardAt", "(I)I"⟩
abbrev cX1_placeOf : ByteArray := prog_3_method_9_code
def yX1_placeOf : MethodName := ⟨RX1, "placeOf", "(I)I"⟩
abbrev cX1_cutAt : ByteArray := prog_3_method_10_code
def yX1_cutAt : MethodName := ⟨RX1, "cutAt", "(I[I)V"⟩
abbrev cX1_shuffleAt : ByteArray := prog_3_method_11_code
def yX1_shuffleAt : MethodName := ⟨RX1, "shuffleAt", "(I[I)I"⟩
abbrev cX1_marksOf : ByteArray := prog_3_method_12_code
def yX1_marksOf : MethodName := ⟨RX1, "marksOf", "(I)I"⟩
abbrev cX1_marksAt : ByteArray := prog_3_method_13_code
def yX1_marksAt : MethodName := ⟨RX1, "marksAt", "(I)I"⟩
abbrev cX1_canBeAt : ByteArray := prog_3_method_14_code
def yX1_canBeAt : MethodName := ⟨RX1, "canBeAt", "(I)I"⟩
abbrev cX1_guessAt : ByteArray := prog_3_method_15_code
def yX1_guessAt : MethodName := ⟨RX1, "guessAt", "(I)I"⟩
abbrev cX1_known : ByteArray := prog_3_method_16_code
def yX1_known : MethodName := ⟨RX1, "known", "()I"⟩
abbrev cX1_guessedRight : ByteArray := prog_3_method_17_code
def yX1_guessedRight : MethodName := ⟨RX1, "guessedRight", "()I"⟩
abbrev cX1_sumOfChances : ByteArray := prog_3_method_18_code
def yX1_sumOfChances : MethodName := ⟨RX1, "sumOfChances", "()F"⟩
def RX2 : String := "CardSheets$Sheet"
def TX2 : u_T := fun k => match k with
  | 0 => ("CardSheets$Sheet", "cards", "[I", true)
  | 1 => ("CardSheets$Sheet", "marks", "[I", true)
  | _ => ("CardSheets$Sheet", "leans", "[I", true)
def tyX2 : Nat → FieldType := fun k => match k with
  | 0 => .array .int
  | 1 => .array .int
  | _ => .array .int
theorem nmX2 : ∀ a, a < 3 → ∀ b, b < 3 → a ≠ b → (TX2 a).2.1 ≠ (TX2 b).2.1 := by decide +kernel
theorem tyX2_ok : ∀ k, k < 3 → parseFieldDescriptor (TX2 k).2.2.1 = some (tyX2 k) := by decide +kernel
abbrev cX2_init : ByteArray := prog_4_method_1_code
def yX2_init : MethodName := ⟨RX2, "<init>", "([I[I[IZ)V"⟩
abbrev cX2_cardCutTo : ByteArray := prog_4_method_2_code
def yX2_cardCutTo : MethodName := ⟨RX2, "cardCutTo", "(II)I"⟩
abbrev cX2_cardsAtHome : ByteArray := prog_4_method_3_code
def yX2_cardsAtHome : MethodName := ⟨RX2, "cardsAtHome", "(I)I"⟩
def RX3 : String := "CardSheets$State"
def TX3 : u_T := fun k => match k with
  | 0 => ("CardSheets$State", "cards", "[I", true)
  | 1 => ("CardSheets$State", "leans", "[I", true)
  | 2 => ("CardSheets$State", "backs", "[I", true)
  | 3 => ("CardSheets$State", "settings", "[I", true)
  | 4 => ("CardSheets$State", "pile", "[LCardSheets$Sheet;", true)
  | 5 => ("CardSheets$State", "pack", "LCardSheets$Pack;", true)
  | 6 => ("CardSheets$State", "piled", "I", false)
  | 7 => ("CardSheets$State", "printed", "I", false)
  | 8 => ("CardSheets$State", "sold", "I", false)
  | 9 => ("CardSheets$State", "pulped", "I", false)
  | _ => ("CardSheets$State", "coins", "I", false)
def tyX3 : Nat → FieldType := fun k => match k with
  | 0 => .array .int
  | 1 => .array .int
  | 2 => .array .int
  | 3 => .array .int
  | 4 => .array (.object "CardSheets$Sheet")
  | 5 => .object "CardSheets$Pack"
  | 6 => .int
  | 7 => .int
  | 8 => .int
  | 9 => .int
  | _ => .int
theorem nmX3 : ∀ a, a < 11 → ∀ b, b < 11 → a ≠ b → (TX3 a).2.1 ≠ (TX3 b).2.1 := by decide +kernel
theorem tyX3_ok : ∀ k, k < 11 → parseFieldDescriptor (TX3 k).2.2.1 = some (tyX3 k) := by decide +kernel
abbrev cX3_init : ByteArray := prog_5_method_1_code
def yX3_init : MethodName := ⟨RX3, "<init>", "()V"⟩
abbrev cX3_copyFrom : ByteArray := prog_5_method_2_code
def yX3_copyFrom : MethodName := ⟨RX3, "copyFrom", "(LCardSheets$State;)V"⟩
abbrev cX3_exchange : ByteArray := prog_5_method_3_code
def yX3_exchange : MethodName := ⟨RX3, "exchange", "(II)V"⟩
abbrev cX3_cellOf : ByteArray := prog_5_method_4_code
def yX3_cellOf : MethodName := ⟨RX3, "cellOf", "(I)I"⟩
abbrev cX3_hasMark : ByteArray := prog_5_method_5_code
def yX3_hasMark : MethodName := ⟨RX3, "hasMark", "(II)Z"⟩
abbrev cX3_setMark : ByteArray := prog_5_method_6_code
def yX3_setMark : MethodName := ⟨RX3, "setMark", "(IIZ)V"⟩
abbrev cX3_marksOnBacks : ByteArray := prog_5_method_7_code
def yX3_marksOnBacks : MethodName := ⟨RX3, "marksOnBacks", "()I"⟩
abbrev cX3_sheetAt : ByteArray := prog_5_method_8_code
def yX3_sheetAt : MethodName := ⟨RX3, "sheetAt", "(I)LCardSheets$Sheet;"⟩
abbrev cX3_printSheet : ByteArray := prog_5_method_9_code
def yX3_printSheet : MethodName := ⟨RX3, "printSheet", "(Z)V"⟩
abbrev cX3_wear : ByteArray := prog_5_method_10_code
def yX3_wear : MethodName := ⟨RX3, "wear", "()V"⟩
abbrev cX3_takeTopSheet : ByteArray := prog_5_method_11_code
def yX3_takeTopSheet : MethodName := ⟨RX3, "takeTopSheet", "()LCardSheets$Sheet;"⟩
abbrev cX3_reasonAgainstSale : ByteArray := prog_5_method_12_code
def yX3_reasonAgainstSale : MethodName := ⟨RX3, "reasonAgainstSale", "()I"⟩
abbrev cX3_knownIfPrinted : ByteArray := prog_5_method_13_code
def yX3_knownIfPrinted : MethodName := ⟨RX3, "knownIfPrinted", "(ZI)I"⟩
def RX4 : String := "CardSheets$Text"
def TX4 : u_T := fun k => match k with
  | 0 => ("CardSheets$Text", "signs", "[C", true)
  | 1 => ("CardSheets$Text", "length", "I", false)
  | 2 => ("CardSheets$Text", "next", "I", false)
  | 3 => ("CardSheets$Text", "kinds", "[C", true)
  | 4 => ("CardSheets$Text", "firsts", "[I", true)
  | 5 => ("CardSheets$Text", "seconds", "[I", true)
  | _ => ("CardSheets$Text", "changes", "I", false)
def tyX4 : Nat → FieldType := fun k => match k with
  | 0 => .array .char
  | 1 => .int
  | 2 => .int
  | 3 => .array .char
  | 4 => .array .int
  | 5 => .array .int
  | _ => .int
theorem nmX4 : ∀ a, a < 7 → ∀ b, b < 7 → a ≠ b → (TX4 a).2.1 ≠ (TX4 b).2.1 := by decide +kernel
theorem tyX4_ok : ∀ k, k < 7 → parseFieldDescriptor (TX4 k).2.2.1 = some (tyX4 k) := by decide +kernel
abbrev cX4_init : ByteArray := prog_6_method_1_code
def yX4_init : MethodName := ⟨RX4, "<init>", "()V"⟩
abbrev cX4_append : ByteArray := prog_6_method_2_code
def yX4_append : MethodName := ⟨RX4, "append", "(C)V"⟩
abbrev cX4_kindOf : ByteArray := prog_6_method_3_code
def yX4_kindOf : MethodName := ⟨RX4, "kindOf", "(I)C"⟩
abbrev cX4_findFault : ByteArray := prog_6_method_4_code
def yX4_findFault : MethodName := ⟨RX4, "findFault", "()I"⟩
abbrev cX4_leansAnotherThanCourts : ByteArray := prog_6_method_5_code
def yX4_leansAnotherThanCourts : MethodName := ⟨RX4, "leansAnotherThanCourts", "()Z"⟩
abbrev cX4_readChange : ByteArray := prog_6_method_6_code
def yX4_readChange : MethodName := ⟨RX4, "readChange", "()Z"⟩
abbrev cX4_mostBehind : ByteArray := prog_6_method_7_code
def yX4_mostBehind : MethodName := ⟨RX4, "mostBehind", "(C)I"⟩
abbrev cX4_addChange : ByteArray := prog_6_method_8_code
def yX4_addChange : MethodName := ⟨RX4, "addChange", "(CII)V"⟩
abbrev cX4_nextSign : ByteArray := prog_6_method_9_code
def yX4_nextSign : MethodName := ⟨RX4, "nextSign", "()C"⟩
abbrev cX4_take : ByteArray := prog_6_method_10_code
def yX4_take : MethodName := ⟨RX4, "take", "(C)Z"⟩
abbrev cX4_readNumber : ByteArray := prog_6_method_11_code
def yX4_readNumber : MethodName := ⟨RX4, "readNumber", "(II)I"⟩
abbrev cX4_nextDigit : ByteArray := prog_6_method_12_code
def yX4_nextDigit : MethodName := ⟨RX4, "nextDigit", "()I"⟩
def RX5 : String := "CardSheets"
def TX5 : u_T := fun k => match k with
  | 0 => ("CardSheets", "now", "LCardSheets$State;", true)
  | 1 => ("CardSheets", "snapshot", "LCardSheets$State;", true)
  | 2 => ("CardSheets", "history", "LCardSheets$History;", true)
  | 3 => ("CardSheets", "text", "LCardSheets$Text;", true)
  | 4 => ("CardSheets", "spare", "[I", true)
  | _ => ("CardSheets", "isKept", "Z", false)
def tyX5 : Nat → FieldType := fun k => match k with
  | 0 => .object "CardSheets$State"
  | 1 => .object "CardSheets$State"
  | 2 => .object "CardSheets$History"
  | 3 => .object "CardSheets$Text"
  | 4 => .array .int
  | _ => .boolean
theorem nmX5 : ∀ a, a < 6 → ∀ b, b < 6 → a ≠ b → (TX5 a).2.1 ≠ (TX5 b).2.1 := by decide +kernel
theorem tyX5_ok : ∀ k, k < 6 → parseFieldDescriptor (TX5 k).2.2.1 = some (tyX5 k) := by decide +kernel
abbrev cX5_init : ByteArray := prog_1_method_1_code
def yX5_init : MethodName := ⟨RX5, "<init>", "()V"⟩
abbrev cX5_swap : ByteArray := prog_1_method_2_code
def yX5_swap : MethodName := ⟨RX5, "swap", "(II)I"⟩
abbrev cX5_mark : ByteArray := prog_1_method_3_code
def yX5_mark : MethodName := ⟨RX5, "mark", "(IIZ)I"⟩
abbrev cX5_lean : ByteArray := prog_1_method_4_code
def yX5_lean : MethodName := ⟨RX5, "lean", "(II)I"⟩
abbrev cX5_changeAll : ByteArray := prog_1_method_5_code
def yX5_changeAll : MethodName := ⟨RX5, "changeAll", "()I"⟩
abbrev cX5_set : ByteArray := prog_1_method_6_code
def yX5_set : MethodName := ⟨RX5, "set", "(II)I"⟩
abbrev cX5_print : ByteArray := prog_1_method_7_code
def yX5_print : MethodName := ⟨RX5, "print", "(Z)I"⟩
abbrev cX5_cutSheet : ByteArray := prog_1_method_8_code
def yX5_cutSheet : MethodName := ⟨RX5, "cutSheet", "(I)I"⟩
abbrev cX5_cutPack : ByteArray := prog_1_method_9_code
def yX5_cutPack : MethodName := ⟨RX5, "cutPack", "(I)I"⟩
abbrev cX5_shuffle : ByteArray := prog_1_method_10_code
def yX5_shuffle : MethodName := ⟨RX5, "shuffle", "(I)I"⟩
abbrev cX5_deal : ByteArray := prog_1_method_11_code
def yX5_deal : MethodName := ⟨RX5, "deal", "(I)I"⟩
abbrev cX5_sell : ByteArray := prog_1_method_12_code
def yX5_sell : MethodName := ⟨RX5, "sell", "()I"⟩
abbrev cX5_pulp : ByteArray := prog_1_method_13_code
def yX5_pulp : MethodName := ⟨RX5, "pulp", "()I"⟩
abbrev cX5_type : ByteArray := prog_1_method_14_code
def yX5_type : MethodName := ⟨RX5, "type", "(C)I"⟩
abbrev cX5_clearText : ByteArray := prog_1_method_15_code
def yX5_clearText : MethodName := ⟨RX5, "clearText", "()I"⟩
abbrev cX5_fault : ByteArray := prog_1_method_16_code
def yX5_fault : MethodName := ⟨RX5, "fault", "()I"⟩
abbrev cX5_undo : ByteArray := prog_1_method_17_code
def yX5_undo : MethodName := ⟨RX5, "undo", "()I"⟩
abbrev cX5_keep : ByteArray := prog_1_method_18_code
def yX5_keep : MethodName := ⟨RX5, "keep", "()I"⟩
abbrev cX5_restore : ByteArray := prog_1_method_19_code
def yX5_restore : MethodName := ⟨RX5, "restore", "()I"⟩
abbrev cX5_block : ByteArray := prog_1_method_20_code
def yX5_block : MethodName := ⟨RX5, "block", "(II)I"⟩
abbrev cX5_cardOf : ByteArray := prog_1_method_21_code
def yX5_cardOf : MethodName := ⟨RX5, "cardOf", "(II)I"⟩
abbrev cX5_sheet : ByteArray := prog_1_method_22_code
def yX5_sheet : MethodName := ⟨RX5, "sheet", "(III)I"⟩
abbrev cX5_pack : ByteArray := prog_1_method_23_code
def yX5_pack : MethodName := ⟨RX5, "pack", "(II)I"⟩
abbrev cX5_count : ByteArray := prog_1_method_24_code
def yX5_count : MethodName := ⟨RX5, "count", "(I)I"⟩
abbrev cX5_why : ByteArray := prog_1_method_25_code
def yX5_why : MethodName := ⟨RX5, "why", "()I"⟩
abbrev cX5_chances : ByteArray := prog_1_method_26_code
def yX5_chances : MethodName := ⟨RX5, "chances", "()F"⟩
abbrev cX5_ifPrinted : ByteArray := prog_1_method_27_code
def yX5_ifPrinted : MethodName := ⟨RX5, "ifPrinted", "(Z)I"⟩
abbrev cX5_worstFlaw : ByteArray := prog_1_method_28_code
def yX5_worstFlaw : MethodName := ⟨RX5, "worstFlaw", "(I)I"⟩
abbrev cX5_bestWay : ByteArray := prog_1_method_29_code
def yX5_bestWay : MethodName := ⟨RX5, "bestWay", "()I"⟩
abbrev cX5_backIn : ByteArray := prog_1_method_30_code
def yX5_backIn : MethodName := ⟨RX5, "backIn", "(I)I"⟩
abbrev cX5_doChange : ByteArray := prog_1_method_31_code
def yX5_doChange : MethodName := ⟨RX5, "doChange", "(CII)V"⟩
abbrev cX5_isCell : ByteArray := prog_1_method_32_code
def yX5_isCell : MethodName := ⟨RX5, "isCell", "(I)Z"⟩
abbrev cX5_isCard : ByteArray := prog_1_method_33_code
def yX5_isCard : MethodName := ⟨RX5, "isCard", "(I)Z"⟩
abbrev cX5_isMark : ByteArray := prog_1_method_34_code
def yX5_isMark : MethodName := ⟨RX5, "isMark", "(I)Z"⟩
abbrev cX5_isCourt : ByteArray := prog_1_method_35_code
def yX5_isCourt : MethodName := ⟨RX5, "isCourt", "(I)Z"⟩
abbrev cX5_at : ByteArray := prog_1_method_36_code
def yX5_at : MethodName := ⟨RX5, "at", "([II)I"⟩
abbrev cX5_put : ByteArray := prog_1_method_37_code
def yX5_put : MethodName := ⟨RX5, "put", "([III)V"⟩
abbrev cX5_copyRow : ByteArray := prog_1_method_38_code
def yX5_copyRow : MethodName := ⟨RX5, "copyRow", "([I[I)V"⟩
abbrev cX5_courtsBeyond : ByteArray := prog_1_method_39_code
def yX5_courtsBeyond : MethodName := ⟨RX5, "courtsBeyond", "([II)I"⟩
abbrev cX5_cellAt : ByteArray := prog_1_method_40_code
def yX5_cellAt : MethodName := ⟨RX5, "cellAt", "(II)I"⟩
abbrev cX5_along : ByteArray := prog_1_method_41_code
def yX5_along : MethodName := ⟨RX5, "along", "(IIZ)I"⟩
abbrev cX5_placeBefore : ByteArray := prog_1_method_42_code
def yX5_placeBefore : MethodName := ⟨RX5, "placeBefore", "(III)I"⟩
abbrev cX5_shufflesUntilBack : ByteArray := prog_1_method_43_code
def yX5_shufflesUntilBack : MethodName := ⟨RX5, "shufflesUntilBack", "(II)I"⟩
abbrev cX5_roundOf : ByteArray := prog_1_method_44_code
def yX5_roundOf : MethodName := ⟨RX5, "roundOf", "(III)I"⟩
abbrev cX5_leastCommonMultiple : ByteArray := prog_1_method_45_code
def yX5_leastCommonMultiple : MethodName := ⟨RX5, "leastCommonMultiple", "(II)I"⟩
def RX6 : String := "CardSheetsModel"
def TX6 : u_T := fun k => match k with
  | 0 => ("CardSheetsModel", "state", "[I", true)
  | 1 => ("CardSheetsModel", "spare", "[I", true)
  | 2 => ("CardSheetsModel", "history", "[I", true)
  | 3 => ("CardSheetsModel", "states", "I", false)
  | 4 => ("CardSheetsModel", "snapshot", "[I", true)
  | 5 => ("CardSheetsModel", "hasSnapshot", "Z", false)
  | 6 => ("CardSheetsModel", "text", "[I", true)
  | 7 => ("CardSheetsModel", "length", "I", false)
  | 8 => ("CardSheetsModel", "at", "I", false)
  | 9 => ("CardSheetsModel", "sign", "I", false)
  | 10 => ("CardSheetsModel", "first", "I", false)
  | 11 => ("CardSheetsModel", "second", "I", false)
  | 12 => ("CardSheetsModel", "order", "[I", true)
  | _ => ("CardSheetsModel", "seen", "[I", true)
def tyX6 : Nat → FieldType := fun k => match k with
  | 0 => .array .int
  | 1 => .array .int
  | 2 => .array .int
  | 3 => .int
  | 4 => .array .int
  | 5 => .boolean
  | 6 => .array .int
  | 7 => .int
  | 8 => .int
  | 9 => .int
  | 10 => .int
  | 11 => .int
  | 12 => .array .int
  | _ => .array .int
theorem nmX6 : ∀ a, a < 14 → ∀ b, b < 14 → a ≠ b → (TX6 a).2.1 ≠ (TX6 b).2.1 := by decide +kernel
theorem tyX6_ok : ∀ k, k < 14 → parseFieldDescriptor (TX6 k).2.2.1 = some (tyX6 k) := by decide +kernel
abbrev cX6_init : ByteArray := prog_8_method_1_code
def yX6_init : MethodName := ⟨RX6, "<init>", "()V"⟩
abbrev cX6_within : ByteArray := prog_8_method_2_code
def yX6_within : MethodName := ⟨RX6, "within", "(III)Z"⟩
abbrev cX6_isCell : ByteArray := prog_8_method_3_code
def yX6_isCell : MethodName := ⟨RX6, "isCell", "(I)Z"⟩
abbrev cX6_isMark : ByteArray := prog_8_method_4_code
def yX6_isMark : MethodName := ⟨RX6, "isMark", "(I)Z"⟩
abbrev cX6_isCourt : ByteArray := prog_8_method_5_code
def yX6_isCourt : MethodName := ⟨RX6, "isCourt", "(I)Z"⟩
abbrev cX6_ones : ByteArray := prog_8_method_6_code
def yX6_ones : MethodName := ⟨RX6, "ones", "(I)I"⟩
abbrev cX6_putAside : ByteArray := prog_8_method_7_code
def yX6_putAside : MethodName := ⟨RX6, "putAside", "()V"⟩
abbrev cX6_takeBack : ByteArray := prog_8_method_8_code
def yX6_takeBack : MethodName := ⟨RX6, "takeBack", "()V"⟩
abbrev cX6_push : ByteArray := prog_8_method_9_code
def yX6_push : MethodName := ⟨RX6, "push", "()V"⟩
abbrev cX6_record : ByteArray := prog_8_method_10_code
def yX6_record : MethodName := ⟨RX6, "record", "()V"⟩
abbrev cX6_undo : ByteArray := prog_8_method_11_code
def yX6_undo : MethodName := ⟨RX6, "undo", "()I"⟩
abbrev cX6_keep : ByteArray := prog_8_method_12_code
def yX6_keep : MethodName := ⟨RX6, "keep", "()I"⟩
abbrev cX6_restore : ByteArray := prog_8_method_13_code
def yX6_restore : MethodName := ⟨RX6, "restore", "()I"⟩
abbrev cX6_exchange : ByteArray := prog_8_method_14_code
def yX6_exchange : MethodName := ⟨RX6, "exchange", "(II)V"⟩
abbrev cX6_setMark : ByteArray := prog_8_method_15_code
def yX6_setMark : MethodName := ⟨RX6, "setMark", "(IIZ)V"⟩
abbrev cX6_swap : ByteArray := prog_8_method_16_code
def yX6_swap : MethodName := ⟨RX6, "swap", "(II)I"⟩
abbrev cX6_mark : ByteArray := prog_8_method_17_code
def yX6_mark : MethodName := ⟨RX6, "mark", "(IIZ)I"⟩
abbrev cX6_lean : ByteArray := prog_8_method_18_code
def yX6_lean : MethodName := ⟨RX6, "lean", "(II)I"⟩
abbrev cX6_leastOf : ByteArray := prog_8_method_19_code
def yX6_leastOf : MethodName := ⟨RX6, "leastOf", "(I)I"⟩
abbrev cX6_mostOf : ByteArray := prog_8_method_20_code
def yX6_mostOf : MethodName := ⟨RX6, "mostOf", "(I)I"⟩
abbrev cX6_set : ByteArray := prog_8_method_21_code
def yX6_set : MethodName := ⟨RX6, "set", "(II)I"⟩
abbrev cX6_backOf : ByteArray := prog_8_method_22_code
def yX6_backOf : MethodName := ⟨RX6, "backOf", "(IZ)I"⟩
abbrev cX6_sheetAt : ByteArray := prog_8_method_23_code
def yX6_sheetAt : MethodName := ⟨RX6, "sheetAt", "(I)I"⟩
abbrev cX6_top : ByteArray := prog_8_method_24_code
def yX6_top : MethodName := ⟨RX6, "top", "()I"⟩
abbrev cX6_print : ByteArray := prog_8_method_25_code
def yX6_print : MethodName := ⟨RX6, "print", "(Z)I"⟩
abbrev cX6_cellAt : ByteArray := prog_8_method_26_code
def yX6_cellAt : MethodName := ⟨RX6, "cellAt", "(II)I"⟩
abbrev cX6_cutSheet : ByteArray := prog_8_method_27_code
def yX6_cutSheet : MethodName := ⟨RX6, "cutSheet", "(I)I"⟩
abbrev cX6_canPart : ByteArray := prog_8_method_28_code
def yX6_canPart : MethodName := ⟨RX6, "canPart", "(I)Z"⟩
abbrev cX6_takeOrder : ByteArray := prog_8_method_29_code
def yX6_takeOrder : MethodName := ⟨RX6, "takeOrder", "()V"⟩
abbrev cX6_cutPack : ByteArray := prog_8_method_30_code
def yX6_cutPack : MethodName := ⟨RX6, "cutPack", "(I)I"⟩
abbrev cX6_cameFrom : ByteArray := prog_8_method_31_code
def yX6_cameFrom : MethodName := ⟨RX6, "cameFrom", "(II)I"⟩
abbrev cX6_shuffle : ByteArray := prog_8_method_32_code
def yX6_shuffle : MethodName := ⟨RX6, "shuffle", "(I)I"⟩
abbrev cX6_deal : ByteArray := prog_8_method_33_code
def yX6_deal : MethodName := ⟨RX6, "deal", "(I)I"⟩
abbrev cX6_alike : ByteArray := prog_8_method_34_code
def yX6_alike : MethodName := ⟨RX6, "alike", "(I)I"⟩
abbrev cX6_marksAt : ByteArray := prog_8_method_35_code
def yX6_marksAt : MethodName := ⟨RX6, "marksAt", "(I)I"⟩
abbrev cX6_guess : ByteArray := prog_8_method_36_code
def yX6_guess : MethodName := ⟨RX6, "guess", "(I)I"⟩
abbrev cX6_known : ByteArray := prog_8_method_37_code
def yX6_known : MethodName := ⟨RX6, "known", "()I"⟩
abbrev cX6_rightOnes : ByteArray := prog_8_method_38_code
def yX6_rightOnes : MethodName := ⟨RX6, "rightOnes", "()I"⟩
abbrev cX6_great : ByteArray := prog_8_method_39_code
def yX6_great : MethodName := ⟨RX6, "great", "(I)I"⟩
abbrev cX6_leaning : ByteArray := prog_8_method_40_code
def yX6_leaning : MethodName := ⟨RX6, "leaning", "(I)I"⟩
abbrev cX6_reason : ByteArray := prog_8_method_41_code
def yX6_reason : MethodName := ⟨RX6, "reason", "()I"⟩
abbrev cX6_dropPack : ByteArray := prog_8_method_42_code
def yX6_dropPack : MethodName := ⟨RX6, "dropPack", "()V"⟩
abbrev cX6_sell : ByteArray := prog_8_method_43_code
def yX6_sell : MethodName := ⟨RX6, "sell", "()I"⟩
abbrev cX6_pulp : ByteArray := prog_8_method_44_code
def yX6_pulp : MethodName := ⟨RX6, "pulp", "()I"⟩
abbrev cX6_type : ByteArray := prog_8_method_45_code
def yX6_type : MethodName := ⟨RX6, "type", "(C)I"⟩
abbrev cX6_clearText : ByteArray := prog_8_method_46_code
def yX6_clearText : MethodName := ⟨RX6, "clearText", "()I"⟩
abbrev cX6_code : ByteArray := prog_8_method_47_code
def yX6_code : MethodName := ⟨RX6, "code", "()I"⟩
abbrev cX6_takes : ByteArray := prog_8_method_48_code
def yX6_takes : MethodName := ⟨RX6, "takes", "(I)Z"⟩
abbrev cX6_readNumber : ByteArray := prog_8_method_49_code
def yX6_readNumber : MethodName := ⟨RX6, "readNumber", "(I)I"⟩
abbrev cX6_readsLean : ByteArray := prog_8_method_50_code
def yX6_readsLean : MethodName := ⟨RX6, "readsLean", "()Z"⟩
abbrev cX6_readsChange : ByteArray := prog_8_method_51_code
def yX6_readsChange : MethodName := ⟨RX6, "readsChange", "()Z"⟩
abbrev cX6_findFault : ByteArray := prog_8_method_52_code
def yX6_findFault : MethodName := ⟨RX6, "findFault", "()I"⟩
abbrev cX6_fault : ByteArray := prog_8_method_53_code
def yX6_fault : MethodName := ⟨RX6, "fault", "()I"⟩
abbrev cX6_doesChange : ByteArray := prog_8_method_54_code
def yX6_doesChange : MethodName := ⟨RX6, "doesChange", "()Z"⟩
abbrev cX6_changeAll : ByteArray := prog_8_method_55_code
def yX6_changeAll : MethodName := ⟨RX6, "changeAll", "()I"⟩
abbrev cX6_block : ByteArray := prog_8_method_56_code
def yX6_block : MethodName := ⟨RX6, "block", "(II)I"⟩
abbrev cX6_cellOf : ByteArray := prog_8_method_57_code
def yX6_cellOf : MethodName := ⟨RX6, "cellOf", "(I)I"⟩
abbrev cX6_placeOf : ByteArray := prog_8_method_58_code
def yX6_placeOf : MethodName := ⟨RX6, "placeOf", "(I)I"⟩
abbrev cX6_cardOf : ByteArray := prog_8_method_59_code
def yX6_cardOf : MethodName := ⟨RX6, "cardOf", "(II)I"⟩
abbrev cX6_sheet : ByteArray := prog_8_method_60_code
def yX6_sheet : MethodName := ⟨RX6, "sheet", "(III)I"⟩
abbrev cX6_pack : ByteArray := prog_8_method_61_code
def yX6_pack : MethodName := ⟨RX6, "pack", "(II)I"⟩
abbrev cX6_marksOfBacks : ByteArray := prog_8_method_62_code
def yX6_marksOfBacks : MethodName := ⟨RX6, "marksOfBacks", "()I"⟩
abbrev cX6_count : ByteArray := prog_8_method_63_code
def yX6_count : MethodName := ⟨RX6, "count", "(I)I"⟩
abbrev cX6_why : ByteArray := prog_8_method_64_code
def yX6_why : MethodName := ⟨RX6, "why", "()I"⟩
abbrev cX6_chances : ByteArray := prog_8_method_65_code
def yX6_chances : MethodName := ⟨RX6, "chances", "()F"⟩
abbrev cX6_single : ByteArray := prog_8_method_66_code
def yX6_single : MethodName := ⟨RX6, "single", "()I"⟩
abbrev cX6_see : ByteArray := prog_8_method_67_code
def yX6_see : MethodName := ⟨RX6, "see", "(Z)V"⟩
abbrev cX6_ifPrinted : ByteArray := prog_8_method_68_code
def yX6_ifPrinted : MethodName := ⟨RX6, "ifPrinted", "(Z)I"⟩
abbrev cX6_worstFlaw : ByteArray := prog_8_method_69_code
def yX6_worstFlaw : MethodName := ⟨RX6, "worstFlaw", "(I)I"⟩
abbrev cX6_atHome : ByteArray := prog_8_method_70_code
def yX6_atHome : MethodName := ⟨RX6, "atHome", "(I)I"⟩
abbrev cX6_bestWay : ByteArray := prog_8_method_71_code
def yX6_bestWay : MethodName := ⟨RX6, "bestWay", "()I"⟩
abbrev cX6_comesBack : ByteArray := prog_8_method_72_code
def yX6_comesBack : MethodName := ⟨RX6, "comesBack", "(I)Z"⟩
abbrev cX6_backIn : ByteArray := prog_8_method_73_code
def yX6_backIn : MethodName := ⟨RX6, "backIn", "(I)I"⟩
def RJ6 : String := "java/lang/Integer"
def TJ6 : u_T := fun k => match k with
  | _ => ("", "", "", false)
def tyJ6 : Nat → FieldType := fun k => match k with
  | _ => .int
theorem nmJ6 : ∀ a, a < 0 → ∀ b, b < 0 → a ≠ b → (TJ6 a).2.1 ≠ (TJ6 b).2.1 := by decide +kernel
theorem tyJ6_ok : ∀ k, k < 0 → parseFieldDescriptor (TJ6 k).2.2.1 = some (tyJ6 k) := by decide +kernel
abbrev cJ6_bitCount_0f7a4 : ByteArray := prog_9_method_49_code
def yJ6_bitCount_0f7a4 : MethodName := ⟨RJ6, "bitCount", "(I)I"⟩
def RJ9 : String := "java/lang/Math"
def TJ9 : u_T := fun k => match k with
  | _ => ("", "", "", false)
def tyJ9 : Nat → FieldType := fun k => match k with
  | _ => .int
theorem nmJ9 : ∀ a, a < 0 → ∀ b, b < 0 → a ≠ b → (TJ9 a).2.1 ≠ (TJ9 b).2.1 := by decide +kernel
theorem tyJ9_ok : ∀ k, k < 0 → parseFieldDescriptor (TJ9 k).2.2.1 = some (tyJ9 k) := by decide +kernel
abbrev cJ9_abs_0f7a4 : ByteArray := prog_10_method_59_code
def yJ9_abs_0f7a4 : MethodName := ⟨RJ9, "abs", "(I)I"⟩
abbrev cJ9_min_7cf53 : ByteArray := prog_10_method_69_code
def yJ9_min_7cf53 : MethodName := ⟨RJ9, "min", "(II)I"⟩
def RJ10 : String := "java/lang/System"
def TJ10 : u_T := fun k => match k with
  | _ => ("", "", "", false)
def tyJ10 : Nat → FieldType := fun k => match k with
  | _ => .int
theorem nmJ10 : ∀ a, a < 0 → ∀ b, b < 0 → a ≠ b → (TJ10 a).2.1 ≠ (TJ10 b).2.1 := by decide +kernel
theorem tyJ10_ok : ∀ k, k < 0 → parseFieldDescriptor (TJ10 k).2.2.1 = some (tyJ10 k) := by decide +kernel
def RL : String := "CardSheetsLaw"
abbrev cL_law : ByteArray := code
def yL_law : MethodName := ⟨RL, "law", "([I)Z"⟩
theorem dX0_init_0 : decode cX0_init 0 = .ok (.aload_n 0, 1) := by decide +kernel
theorem dX0_init_1 : decode cX0_init 1 = .ok (.invokespecial 3, 3) := by decide +kernel
theorem dX0_init_4 : decode cX0_init 4 = .ok (.aload_n 0, 1) := by decide +kernel
theorem dX0_init_5 : decode cX0_init 5 = .ok (.iconst 4, 1) := by decide +kernel
theorem dX0_init_6 : decode cX0_init 6 = .ok (.anewarray 9, 3) := by decide +kernel
theorem dX0_init_9 : decode cX0_init 9 = .ok (.putfield 11, 3) := by decide +kernel
theorem dX0_init_12 : decode cX0_init 12 = .ok (.aload_n 0, 1) := by decide +kernel
theorem dX0_init_13 : decode cX0_init 13 = .ok (.iconst 0, 1) := by decide +kernel
theorem dX0_init_14 : decode cX0_init 14 = .ok (.putfield 17, 3) := by decide +kernel
theorem dX0_init_17 : decode cX0_init 17 = .ok (.aload_n 0, 1) := by decide +kernel
theorem dX0_init_18 : decode cX0_init 18 = .ok (.iconst 0, 1) := by decide +kernel
theorem dX0_init_19 : decode cX0_init 19 = .ok (.putfield 21, 3) := by decide +kernel
theorem dX0_init_22 : decode cX0_init 22 = .ok (.iconst 0, 1) := by decide +kernel
theorem dX0_init_23 : decode cX0_init 23 = .ok (.istore_n 1, 1) := by decide +kernel
theorem dX0_init_24 : decode cX0_init 24 = .ok (.iload_n 1, 1) := by decide +kernel
theorem dX0_init_25 : decode cX0_init 25 = .ok (.iconst 4, 1) := by decide +kernel
theorem dX0_init_26 : decode cX0_init 26 = .ok (.if_icmp .ge 22, 3) := by decide +kernel
theorem dX0_init_29 : decode cX0_init 29 = .ok (.aload_n 0, 1) := by decide +kernel
theorem dX0_init_30 : decode cX0_init 30 = .ok (.getfield 11, 3) := by decide +kernel
theorem dX0_init_33 : decode cX0_init 33 = .ok (.iload_n 1, 1) := by decide +kernel
theorem dX0_init_34 : decode cX0_init 34 = .ok (.new 9, 3) := by decide +kernel
theorem dX0_init_37 : decode cX0_init 37 = .ok (.dup, 1) := by decide +kernel
theorem dX0_init_38 : decode cX0_init 38 = .ok (.invokespecial 24, 3) := by decide +kernel
theorem dX0_init_41 : decode cX0_init 41 = .ok (.aastore, 1) := by decide +kernel
theorem dX0_init_42 : decode cX0_init 42 = .ok (.iinc 1 1, 3) := by decide +kernel
theorem dX0_init_45 : decode cX0_init 45 = .ok (.goto (-21), 3) := by decide +kernel
theorem dX0_init_48 : decode cX0_init 48 = .ok (.return_, 1) := by decide +kernel
theorem dX0_record_0 : decode cX0_record 0 = .ok (.aload_n 0, 1) := by decide +kernel
theorem dX0_record_1 : decode cX0_record 1 = .ok (.aload_n 0, 1) := by decide +kernel
theorem dX0_record_2 : decode cX0_record 2 = .ok (.getfield 17, 3) := by decide +kernel
theorem dX0_record_5 : decode cX0_record 5 = .ok (.aload_n 1, 1) := by decide +kernel
theorem dX0_record_6 : decode cX0_record 6 = .ok (.invokevirtual 25, 3) := by decide +kernel
theorem dX0_record_9 : decode cX0_record 9 = .ok (.aload_n 0, 1) := by decide +kernel
theorem dX0_record_10 : decode cX0_record 10 = .ok (.aload_n 0, 1) := by decide +kernel
theorem dX0_record_11 : decode cX0_record 11 = .ok (.getfield 17, 3) := by decide +kernel
theorem dX0_record_14 : decode cX0_record 14 = .ok (.iconst 1, 1) := by decide +kernel
theorem dX0_record_15 : decode cX0_record 15 = .ok (.iadd, 1) := by decide +kernel
theorem dX0_record_16 : decode cX0_record 16 = .ok (.iconst 4, 1) := by decide +kernel
theorem dX0_record_17 : decode cX0_record 17 = .ok (.irem, 1) := by decide +kernel
theorem dX0_record_18 : decode cX0_record 18 = .ok (.putfield 17, 3) := by decide +kernel
theorem dX0_record_21 : decode cX0_record 21 = .ok (.aload_n 0, 1) := by decide +kernel
theorem dX0_record_22 : decode cX0_record 22 = .ok (.aload_n 0, 1) := by decide +kernel
theorem dX0_record_23 : decode cX0_record 23 = .ok (.getfield 21, 3) := by decide +kernel
theorem dX0_record_26 : decode cX0_record 26 = .ok (.iconst 1, 1) := by decide +kernel
theorem dX0_record_27 : decode cX0_record 27 = .ok (.iadd, 1) := by decide +kernel
theorem dX0_record_28 : decode cX0_record 28 = .ok (.iconst 4, 1) := by decide +kernel
theorem dX0_record_29 : decode cX0_record 29 = .ok (.invokestatic 29, 3) := by decide +kernel
theorem dX0_record_32 : decode cX0_record 32 = .ok (.putfield 21, 3) := by decide +kernel
theorem dX0_record_35 : decode cX0_record 35 = .ok (.return_, 1) := by decide +kernel
theorem dX0_takeLatestInto_0 : decode cX0_takeLatestInto 0 = .ok (.aload_n 0, 1) := by decide +kernel
theorem dX0_takeLatestInto_1 : decode cX0_takeLatestInto 1 = .ok (.getfield 21, 3) := by decide +kernel
theorem dX0_takeLatestInto_4 : decode cX0_takeLatestInto 4 = .ok (.ifCond .ne 4, 3) := by decide +kernel
theorem dX0_takeLatestInto_7 : decode cX0_takeLatestInto 7 = .ok (.return_, 1) := by decide +kernel
theorem dX0_takeLatestInto_8 : decode cX0_takeLatestInto 8 = .ok (.aload_n 0, 1) := by decide +kernel
theorem dX0_takeLatestInto_9 : decode cX0_takeLatestInto 9 = .ok (.aload_n 0, 1) := by decide +kernel
theorem dX0_takeLatestInto_10 : decode cX0_takeLatestInto 10 = .ok (.getfield 17, 3) := by decide +kernel
theorem dX0_takeLatestInto_13 : decode cX0_takeLatestInto 13 = .ok (.iconst 4, 1) := by decide +kernel
theorem dX0_takeLatestInto_14 : decode cX0_takeLatestInto 14 = .ok (.iadd, 1) := by decide +kernel
theorem dX0_takeLatestInto_15 : decode cX0_takeLatestInto 15 = .ok (.iconst 1, 1) := by decide +kernel
theorem dX0_takeLatestInto_16 : decode cX0_takeLatestInto 16 = .ok (.isub, 1) := by decide +kernel
theorem dX0_takeLatestInto_17 : decode cX0_takeLatestInto 17 = .ok (.iconst 4, 1) := by decide +kernel
theorem dX0_takeLatestInto_18 : decode cX0_takeLatestInto 18 = .ok (.irem, 1) := by decide +kernel
theorem dX0_takeLatestInto_19 : decode cX0_takeLatestInto 19 = .ok (.putfield 17, 3) := by decide +kernel
theorem dX0_takeLatestInto_22 : decode cX0_takeLatestInto 22 = .ok (.aload_n 0, 1) := by decide +kernel
theorem dX0_takeLatestInto_23 : decode cX0_takeLatestInto 23 = .ok (.dup, 1) := by decide +kernel
theorem dX0_takeLatestInto_24 : decode cX0_takeLatestInto 24 = .ok (.getfield 21, 3) := by decide +kernel
theorem dX0_takeLatestInto_27 : decode cX0_takeLatestInto 27 = .ok (.iconst 1, 1) := by decide +kernel
theorem dX0_takeLatestInto_28 : decode cX0_takeLatestInto 28 = .ok (.isub, 1) := by decide +kernel
theorem dX0_takeLatestInto_29 : decode cX0_takeLatestInto 29 = .ok (.putfield 21, 3) := by decide +kernel
theorem dX0_takeLatestInto_32 : decode cX0_takeLatestInto 32 = .ok (.aload_n 0, 1) := by decide +kernel
theorem dX0_takeLatestInto_33 : decode cX0_takeLatestInto 33 = .ok (.getfield 17, 3) := by decide +kernel
theorem dX0_takeLatestInto_36 : decode cX0_takeLatestInto 36 = .ok (.ifCond .lt 24, 3) := by decide +kernel
theorem dX0_takeLatestInto_39 : decode cX0_takeLatestInto 39 = .ok (.aload_n 0, 1) := by decide +kernel
theorem dX0_takeLatestInto_40 : decode cX0_takeLatestInto 40 = .ok (.getfield 17, 3) := by decide +kernel
theorem dX0_takeLatestInto_43 : decode cX0_takeLatestInto 43 = .ok (.iconst 4, 1) := by decide +kernel
theorem dX0_takeLatestInto_44 : decode cX0_takeLatestInto 44 = .ok (.if_icmp .ge 16, 3) := by decide +kernel
theorem dX0_takeLatestInto_47 : decode cX0_takeLatestInto 47 = .ok (.aload_n 1, 1) := by decide +kernel
theorem dX0_takeLatestInto_48 : decode cX0_takeLatestInto 48 = .ok (.aload_n 0, 1) := by decide +kernel
theorem dX0_takeLatestInto_49 : decode cX0_takeLatestInto 49 = .ok (.getfield 11, 3) := by decide +kernel
theorem dX0_takeLatestInto_52 : decode cX0_takeLatestInto 52 = .ok (.aload_n 0, 1) := by decide +kernel
theorem dX0_takeLatestInto_53 : decode cX0_takeLatestInto 53 = .ok (.getfield 17, 3) := by decide +kernel
theorem dX0_takeLatestInto_56 : decode cX0_takeLatestInto 56 = .ok (.aaload, 1) := by decide +kernel
theorem dX0_takeLatestInto_57 : decode cX0_takeLatestInto 57 = .ok (.invokevirtual 35, 3) := by decide +kernel
theorem dX0_takeLatestInto_60 : decode cX0_takeLatestInto 60 = .ok (.return_, 1) := by decide +kernel
theorem dX0_copyTo_0 : decode cX0_copyTo 0 = .ok (.iload_n 1, 1) := by decide +kernel
theorem dX0_copyTo_1 : decode cX0_copyTo 1 = .ok (.ifCond .lt 8, 3) := by decide +kernel
theorem dX0_copyTo_4 : decode cX0_copyTo 4 = .ok (.iload_n 1, 1) := by decide +kernel
theorem dX0_copyTo_5 : decode cX0_copyTo 5 = .ok (.iconst 4, 1) := by decide +kernel
theorem dX0_copyTo_6 : decode cX0_copyTo 6 = .ok (.if_icmp .lt 4, 3) := by decide +kernel
theorem dX0_copyTo_9 : decode cX0_copyTo 9 = .ok (.return_, 1) := by decide +kernel
theorem dX0_copyTo_10 : decode cX0_copyTo 10 = .ok (.aload_n 0, 1) := by decide +kernel
theorem dX0_copyTo_11 : decode cX0_copyTo 11 = .ok (.getfield 11, 3) := by decide +kernel
theorem dX0_copyTo_14 : decode cX0_copyTo 14 = .ok (.iload_n 1, 1) := by decide +kernel
theorem dX0_copyTo_15 : decode cX0_copyTo 15 = .ok (.aaload, 1) := by decide +kernel
theorem dX0_copyTo_16 : decode cX0_copyTo 16 = .ok (.astore_n 3, 1) := by decide +kernel
theorem dX0_copyTo_17 : decode cX0_copyTo 17 = .ok (.aload_n 3, 1) := by decide +kernel
theorem dX0_copyTo_18 : decode cX0_copyTo 18 = .ok (.ifnull 8, 3) := by decide +kernel
theorem dX0_copyTo_21 : decode cX0_copyTo 21 = .ok (.aload_n 3, 1) := by decide +kernel
theorem dX0_copyTo_22 : decode cX0_copyTo 22 = .ok (.aload_n 2, 1) := by decide +kernel
theorem dX0_copyTo_23 : decode cX0_copyTo 23 = .ok (.invokevirtual 35, 3) := by decide +kernel
theorem dX0_copyTo_26 : decode cX0_copyTo 26 = .ok (.return_, 1) := by decide +kernel
theorem dX1_init_0 : decode cX1_init 0 = .ok (.aload_n 0, 1) := by decide +kernel
theorem dX1_init_1 : decode cX1_init 1 = .ok (.invokespecial 3, 3) := by decide +kernel
theorem dX1_init_4 : decode cX1_init 4 = .ok (.aload_n 0, 1) := by decide +kernel
theorem dX1_init_5 : decode cX1_init 5 = .ok (.bipush 24, 2) := by decide +kernel
theorem dX1_init_7 : decode cX1_init 7 = .ok (.newarray .int, 2) := by decide +kernel
theorem dX1_init_9 : decode cX1_init 9 = .ok (.putfield 9, 3) := by decide +kernel
theorem dX1_init_12 : decode cX1_init 12 = .ok (.aload_n 0, 1) := by decide +kernel
theorem dX1_init_13 : decode cX1_init 13 = .ok (.aconst_null, 1) := by decide +kernel
theorem dX1_init_14 : decode cX1_init 14 = .ok (.putfield 15, 3) := by decide +kernel
theorem dX1_init_17 : decode cX1_init 17 = .ok (.aload_n 0, 1) := by decide +kernel
theorem dX1_init_18 : decode cX1_init 18 = .ok (.iconst 0, 1) := by decide +kernel
theorem dX1_init_19 : decode cX1_init 19 = .ok (.putfield 19, 3) := by decide +kernel
theorem dX1_init_22 : decode cX1_init 22 = .ok (.return_, 1) := by decide +kernel
theorem dX1_copyFrom_0 : decode cX1_copyFrom 0 = .ok (.aload_n 1, 1) := by decide +kernel
theorem dX1_copyFrom_1 : decode cX1_copyFrom 1 = .ok (.getfield 9, 3) := by decide +kernel
theorem dX1_copyFrom_4 : decode cX1_copyFrom 4 = .ok (.aload_n 0, 1) := by decide +kernel
theorem dX1_copyFrom_5 : decode cX1_copyFrom 5 = .ok (.getfield 9, 3) := by decide +kernel
theorem dX1_copyFrom_8 : decode cX1_copyFrom 8 = .ok (.invokestatic 23, 3) := by decide +kernel
theorem dX1_copyFrom_11 : decode cX1_copyFrom 11 = .ok (.aload_n 0, 1) := by decide +kernel
theorem dX1_copyFrom_12 : decode cX1_copyFrom 12 = .ok (.aload_n 1, 1) := by decide +kernel
theorem dX1_copyFrom_13 : decode cX1_copyFrom 13 = .ok (.getfield 15, 3) := by decide +kernel
theorem dX1_copyFrom_16 : decode cX1_copyFrom 16 = .ok (.putfield 15, 3) := by decide +kernel
theorem dX1_copyFrom_19 : decode cX1_copyFrom 19 = .ok (.aload_n 0, 1) := by decide +kernel
theorem dX1_copyFrom_20 : decode cX1_copyFrom 20 = .ok (.aload_n 1, 1) := by decide +kernel
theorem dX1_copyFrom_21 : decode cX1_copyFrom 21 = .ok (.getfield 19, 3) := by decide +kernel
theorem dX1_copyFrom_24 : decode cX1_copyFrom 24 = .ok (.putfield 19, 3) := by decide +kernel
theorem dX1_copyFrom_27 : decode cX1_copyFrom 27 = .ok (.return_, 1) := by decide +kernel
theorem dX1_layDown_0 : decode cX1_layDown 0 = .ok (.aload_n 1, 1) := by decide +kernel
theorem dX1_layDown_1 : decode cX1_layDown 1 = .ok (.ifnonnull 4, 3) := by decide +kernel
theorem dX1_layDown_4 : decode cX1_layDown 4 = .ok (.return_, 1) := by decide +kernel
theorem dX1_layDown_5 : decode cX1_layDown 5 = .ok (.aload_n 0, 1) := by decide +kernel
theorem dX1_layDown_6 : decode cX1_layDown 6 = .ok (.aload_n 1, 1) := by decide +kernel
theorem dX1_layDown_7 : decode cX1_layDown 7 = .ok (.putfield 15, 3) := by decide +kernel
theorem dX1_layDown_10 : decode cX1_layDown 10 = .ok (.aload_n 0, 1) := by decide +kernel
theorem dX1_layDown_11 : decode cX1_layDown 11 = .ok (.iconst 0, 1) := by decide +kernel
theorem dX1_layDown_12 : decode cX1_layDown 12 = .ok (.putfield 19, 3) := by decide +kernel
theorem dX1_layDown_15 : decode cX1_layDown 15 = .ok (.iconst 0, 1) := by decide +kernel
theorem dX1_layDown_16 : decode cX1_layDown 16 = .ok (.istore_n 3, 1) := by decide +kernel
theorem dX1_layDown_17 : decode cX1_layDown 17 = .ok (.iload_n 3, 1) := by decide +kernel
theorem dX1_layDown_18 : decode cX1_layDown 18 = .ok (.bipush 24, 2) := by decide +kernel
theorem dX1_layDown_20 : decode cX1_layDown 20 = .ok (.if_icmp .ge 21, 3) := by decide +kernel
theorem dX1_layDown_23 : decode cX1_layDown 23 = .ok (.aload_n 0, 1) := by decide +kernel
theorem dX1_layDown_24 : decode cX1_layDown 24 = .ok (.getfield 9, 3) := by decide +kernel
theorem dX1_layDown_27 : decode cX1_layDown 27 = .ok (.iload_n 3, 1) := by decide +kernel
theorem dX1_layDown_28 : decode cX1_layDown 28 = .ok (.aload_n 1, 1) := by decide +kernel
theorem dX1_layDown_29 : decode cX1_layDown 29 = .ok (.iload_n 2, 1) := by decide +kernel
theorem dX1_layDown_30 : decode cX1_layDown 30 = .ok (.iload_n 3, 1) := by decide +kernel
theorem dX1_layDown_31 : decode cX1_layDown 31 = .ok (.invokevirtual 27, 3) := by decide +kernel
theorem dX1_layDown_34 : decode cX1_layDown 34 = .ok (.iastore, 1) := by decide +kernel
theorem dX1_layDown_35 : decode cX1_layDown 35 = .ok (.iinc 3 1, 3) := by decide +kernel
theorem dX1_layDown_38 : decode cX1_layDown 38 = .ok (.goto (-21), 3) := by decide +kernel
theorem dX1_layDown_41 : decode cX1_layDown 41 = .ok (.return_, 1) := by decide +kernel
theorem dX1_takeAway_0 : decode cX1_takeAway 0 = .ok (.aload_n 0, 1) := by decide +kernel
theorem dX1_takeAway_1 : decode cX1_takeAway 1 = .ok (.aconst_null, 1) := by decide +kernel
theorem dX1_takeAway_2 : decode cX1_takeAway 2 = .ok (.putfield 15, 3) := by decide +kernel
theorem dX1_takeAway_5 : decode cX1_takeAway 5 = .ok (.aload_n 0, 1) := by decide +kernel
theorem dX1_takeAway_6 : decode cX1_takeAway 6 = .ok (.iconst 0, 1) := by decide +kernel
theorem dX1_takeAway_7 : decode cX1_takeAway 7 = .ok (.putfield 19, 3) := by decide +kernel
theorem dX1_takeAway_10 : decode cX1_takeAway 10 = .ok (.return_, 1) := by decide +kernel
theorem dX1_isThere_0 : decode cX1_isThere 0 = .ok (.aload_n 0, 1) := by decide +kernel
theorem dX1_isThere_1 : decode cX1_isThere 1 = .ok (.getfield 15, 3) := by decide +kernel
theorem dX1_isThere_4 : decode cX1_isThere 4 = .ok (.ifnull 7, 3) := by decide +kernel
theorem dX1_isThere_7 : decode cX1_isThere 7 = .ok (.iconst 1, 1) := by decide +kernel
theorem dX1_isThere_8 : decode cX1_isThere 8 = .ok (.goto 4, 3) := by decide +kernel
theorem dX1_isThere_11 : decode cX1_isThere 11 = .ok (.iconst 0, 1) := by decide +kernel
theorem dX1_isThere_12 : decode cX1_isThere 12 = .ok (.ireturn, 1) := by decide +kernel
theorem dX1_left_0 : decode cX1_left 0 = .ok (.aload_n 0, 1) := by decide +kernel
theorem dX1_left_1 : decode cX1_left 1 = .ok (.getfield 15, 3) := by decide +kernel
theorem dX1_left_4 : decode cX1_left 4 = .ok (.ifnonnull 7, 3) := by decide +kernel
theorem dX1_left_7 : decode cX1_left 7 = .ok (.iconst 0, 1) := by decide +kernel
theorem dX1_left_8 : decode cX1_left 8 = .ok (.goto 10, 3) := by decide +kernel
theorem dX1_left_11 : decode cX1_left 11 = .ok (.bipush 24, 2) := by decide +kernel
theorem dX1_left_13 : decode cX1_left 13 = .ok (.aload_n 0, 1) := by decide +kernel
theorem dX1_left_14 : decode cX1_left 14 = .ok (.getfield 19, 3) := by decide +kernel
theorem dX1_left_17 : decode cX1_left 17 = .ok (.isub, 1) := by decide +kernel
theorem dX1_left_18 : decode cX1_left 18 = .ok (.ireturn, 1) := by decide +kernel
theorem dX1_hasPartsAt_0 : decode cX1_hasPartsAt 0 = .ok (.iload_n 1, 1) := by decide +kernel
theorem dX1_hasPartsAt_1 : decode cX1_hasPartsAt 1 = .ok (.iconst 1, 1) := by decide +kernel
theorem dX1_hasPartsAt_2 : decode cX1_hasPartsAt 2 = .ok (.if_icmp .lt 15, 3) := by decide +kernel
theorem dX1_hasPartsAt_5 : decode cX1_hasPartsAt 5 = .ok (.iload_n 1, 1) := by decide +kernel
theorem dX1_hasPartsAt_6 : decode cX1_hasPartsAt 6 = .ok (.aload_n 0, 1) := by decide +kernel
theorem dX1_hasPartsAt_7 : decode cX1_hasPartsAt 7 = .ok (.invokevirtual 33, 3) := by decide +kernel
theorem dX1_hasPartsAt_10 : decode cX1_hasPartsAt 10 = .ok (.if_icmp .ge 7, 3) := by decide +kernel
theorem dX1_hasPartsAt_13 : decode cX1_hasPartsAt 13 = .ok (.iconst 1, 1) := by decide +kernel
theorem dX1_hasPartsAt_14 : decode cX1_hasPartsAt 14 = .ok (.goto 4, 3) := by decide +kernel
theorem dX1_hasPartsAt_17 : decode cX1_hasPartsAt 17 = .ok (.iconst 0, 1) := by decide +kernel
theorem dX1_hasPartsAt_18 : decode cX1_hasPartsAt 18 = .ok (.ireturn, 1) := by decide +kernel
theorem dX1_cardAt_0 : decode cX1_cardAt 0 = .ok (.aload_n 0, 1) := by decide +kernel
theorem dX1_cardAt_1 : decode cX1_cardAt 1 = .ok (.getfield 9, 3) := by decide +kernel
theorem dX1_cardAt_4 : decode cX1_cardAt 4 = .ok (.aload_n 0, 1) := by decide +kernel
theorem dX1_cardAt_5 : decode cX1_cardAt 5 = .ok (.getfield 19, 3) := by decide +kernel
theorem dX1_cardAt_8 : decode cX1_cardAt 8 = .ok (.iload_n 1, 1) := by decide +kernel
theorem dX1_cardAt_9 : decode cX1_cardAt 9 = .ok (.iadd, 1) := by decide +kernel
theorem dX1_cardAt_10 : decode cX1_cardAt 10 = .ok (.invokestatic 37, 3) := by decide +kernel
theorem dX1_cardAt_13 : decode cX1_cardAt 13 = .ok (.ireturn, 1) := by decide +kernel
theorem dX1_placeOf_0 : decode cX1_placeOf 0 = .ok (.iconst 0, 1) := by decide +kernel
theorem dX1_placeOf_1 : decode cX1_placeOf 1 = .ok (.istore_n 2, 1) := by decide +kernel
theorem dX1_placeOf_2 : decode cX1_placeOf 2 = .ok (.iload_n 2, 1) := by decide +kernel
theorem dX1_placeOf_3 : decode cX1_placeOf 3 = .ok (.aload_n 0, 1) := by decide +kernel
theorem dX1_placeOf_4 : decode cX1_placeOf 4 = .ok (.invokevirtual 33, 3) := by decide +kernel
theorem dX1_placeOf_7 : decode cX1_placeOf 7 = .ok (.if_icmp .ge 20, 3) := by decide +kernel
theorem dX1_placeOf_10 : decode cX1_placeOf 10 = .ok (.aload_n 0, 1) := by decide +kernel
theorem dX1_placeOf_11 : decode cX1_placeOf 11 = .ok (.iload_n 2, 1) := by decide +kernel
theorem dX1_placeOf_12 : decode cX1_placeOf 12 = .ok (.invokevirtual 41, 3) := by decide +kernel
theorem dX1_placeOf_15 : decode cX1_placeOf 15 = .ok (.iload_n 1, 1) := by decide +kernel
theorem dX1_placeOf_16 : decode cX1_placeOf 16 = .ok (.if_icmp .ne 5, 3) := by decide +kernel
theorem dX1_placeOf_19 : decode cX1_placeOf 19 = .ok (.iload_n 2, 1) := by decide +kernel
theorem dX1_placeOf_20 : decode cX1_placeOf 20 = .ok (.ireturn, 1) := by decide +kernel
theorem dX1_placeOf_21 : decode cX1_placeOf 21 = .ok (.iinc 2 1, 3) := by decide +kernel
theorem dX1_placeOf_24 : decode cX1_placeOf 24 = .ok (.goto (-22), 3) := by decide +kernel
theorem dX1_placeOf_27 : decode cX1_placeOf 27 = .ok (.bipush (-5), 2) := by decide +kernel
theorem dX1_placeOf_29 : decode cX1_placeOf 29 = .ok (.ireturn, 1) := by decide +kernel
theorem dX1_cutAt_0 : decode cX1_cutAt 0 = .ok (.aload_n 0, 1) := by decide +kernel
theorem dX1_cutAt_1 : decode cX1_cutAt 1 = .ok (.getfield 9, 3) := by decide +kernel
theorem dX1_cutAt_4 : decode cX1_cutAt 4 = .ok (.aload_n 2, 1) := by decide +kernel
theorem dX1_cutAt_5 : decode cX1_cutAt 5 = .ok (.invokestatic 23, 3) := by decide +kernel
theorem dX1_cutAt_8 : decode cX1_cutAt 8 = .ok (.iconst 0, 1) := by decide +kernel
theorem dX1_cutAt_9 : decode cX1_cutAt 9 = .ok (.istore_n 3, 1) := by decide +kernel
theorem dX1_cutAt_10 : decode cX1_cutAt 10 = .ok (.iload_n 3, 1) := by decide +kernel
theorem dX1_cutAt_11 : decode cX1_cutAt 11 = .ok (.aload_n 0, 1) := by decide +kernel
theorem dX1_cutAt_12 : decode cX1_cutAt 12 = .ok (.invokevirtual 33, 3) := by decide +kernel
theorem dX1_cutAt_15 : decode cX1_cutAt 15 = .ok (.if_icmp .ge 59, 3) := by decide +kernel
theorem dX1_cutAt_18 : decode cX1_cutAt 18 = .ok (.iload_n 3, 1) := by decide +kernel
theorem dX1_cutAt_19 : decode cX1_cutAt 19 = .ok (.iload_n 1, 1) := by decide +kernel
theorem dX1_cutAt_20 : decode cX1_cutAt 20 = .ok (.iadd, 1) := by decide +kernel
theorem dX1_cutAt_21 : decode cX1_cutAt 21 = .ok (.aload_n 0, 1) := by decide +kernel
theorem dX1_cutAt_22 : decode cX1_cutAt 22 = .ok (.invokevirtual 33, 3) := by decide +kernel
theorem dX1_cutAt_25 : decode cX1_cutAt 25 = .ok (.if_icmp .ge 9, 3) := by decide +kernel
theorem dX1_cutAt_28 : decode cX1_cutAt 28 = .ok (.iload_n 3, 1) := by decide +kernel
theorem dX1_cutAt_29 : decode cX1_cutAt 29 = .ok (.iload_n 1, 1) := by decide +kernel
theorem dX1_cutAt_30 : decode cX1_cutAt 30 = .ok (.iadd, 1) := by decide +kernel
theorem dX1_cutAt_31 : decode cX1_cutAt 31 = .ok (.goto 11, 3) := by decide +kernel
theorem dX1_cutAt_34 : decode cX1_cutAt 34 = .ok (.iload_n 3, 1) := by decide +kernel
theorem dX1_cutAt_35 : decode cX1_cutAt 35 = .ok (.iload_n 1, 1) := by decide +kernel
theorem dX1_cutAt_36 : decode cX1_cutAt 36 = .ok (.iadd, 1) := by decide +kernel
theorem dX1_cutAt_37 : decode cX1_cutAt 37 = .ok (.aload_n 0, 1) := by decide +kernel
theorem dX1_cutAt_38 : decode cX1_cutAt 38 = .ok (.invokevirtual 33, 3) := by decide +kernel
theorem dX1_cutAt_41 : decode cX1_cutAt 41 = .ok (.isub, 1) := by decide +kernel
theorem dX1_cutAt_42 : decode cX1_cutAt 42 = .ok (.istore 4, 2) := by decide +kernel
theorem dX1_cutAt_44 : decode cX1_cutAt 44 = .ok (.aload_n 0, 1) := by decide +kernel
theorem dX1_cutAt_45 : decode cX1_cutAt 45 = .ok (.getfield 9, 3) := by decide +kernel
theorem dX1_cutAt_48 : decode cX1_cutAt 48 = .ok (.aload_n 0, 1) := by decide +kernel
theorem dX1_cutAt_49 : decode cX1_cutAt 49 = .ok (.getfield 19, 3) := by decide +kernel
theorem dX1_cutAt_52 : decode cX1_cutAt 52 = .ok (.iload_n 3, 1) := by decide +kernel
theorem dX1_cutAt_53 : decode cX1_cutAt 53 = .ok (.iadd, 1) := by decide +kernel
theorem dX1_cutAt_54 : decode cX1_cutAt 54 = .ok (.aload_n 2, 1) := by decide +kernel
theorem dX1_cutAt_55 : decode cX1_cutAt 55 = .ok (.aload_n 0, 1) := by decide +kernel
theorem dX1_cutAt_56 : decode cX1_cutAt 56 = .ok (.getfield 19, 3) := by decide +kernel
theorem dX1_cutAt_59 : decode cX1_cutAt 59 = .ok (.iload 4, 2) := by decide +kernel
theorem dX1_cutAt_61 : decode cX1_cutAt 61 = .ok (.iadd, 1) := by decide +kernel
theorem dX1_cutAt_62 : decode cX1_cutAt 62 = .ok (.invokestatic 37, 3) := by decide +kernel
theorem dX1_cutAt_65 : decode cX1_cutAt 65 = .ok (.invokestatic 45, 3) := by decide +kernel
theorem dX1_cutAt_68 : decode cX1_cutAt 68 = .ok (.iinc 3 1, 3) := by decide +kernel
theorem dX1_cutAt_71 : decode cX1_cutAt 71 = .ok (.goto (-61), 3) := by decide +kernel
theorem dX1_cutAt_74 : decode cX1_cutAt 74 = .ok (.return_, 1) := by decide +kernel
theorem dX1_shuffleAt_0 : decode cX1_shuffleAt 0 = .ok (.aload_n 0, 1) := by decide +kernel
theorem dX1_shuffleAt_1 : decode cX1_shuffleAt 1 = .ok (.getfield 9, 3) := by decide +kernel
theorem dX1_shuffleAt_4 : decode cX1_shuffleAt 4 = .ok (.aload_n 2, 1) := by decide +kernel
theorem dX1_shuffleAt_5 : decode cX1_shuffleAt 5 = .ok (.invokestatic 23, 3) := by decide +kernel
theorem dX1_shuffleAt_8 : decode cX1_shuffleAt 8 = .ok (.iconst 0, 1) := by decide +kernel
theorem dX1_shuffleAt_9 : decode cX1_shuffleAt 9 = .ok (.istore_n 3, 1) := by decide +kernel
theorem dX1_shuffleAt_10 : decode cX1_shuffleAt 10 = .ok (.iconst 0, 1) := by decide +kernel
theorem dX1_shuffleAt_11 : decode cX1_shuffleAt 11 = .ok (.istore 4, 2) := by decide +kernel
theorem dX1_shuffleAt_13 : decode cX1_shuffleAt 13 = .ok (.iload 4, 2) := by decide +kernel
theorem dX1_shuffleAt_15 : decode cX1_shuffleAt 15 = .ok (.aload_n 0, 1) := by decide +kernel
theorem dX1_shuffleAt_16 : decode cX1_shuffleAt 16 = .ok (.invokevirtual 33, 3) := by decide +kernel
theorem dX1_shuffleAt_19 : decode cX1_shuffleAt 19 = .ok (.if_icmp .ge 56, 3) := by decide +kernel
theorem dX1_shuffleAt_22 : decode cX1_shuffleAt 22 = .ok (.iload 4, 2) := by decide +kernel
theorem dX1_shuffleAt_24 : decode cX1_shuffleAt 24 = .ok (.iload_n 1, 1) := by decide +kernel
theorem dX1_shuffleAt_25 : decode cX1_shuffleAt 25 = .ok (.aload_n 0, 1) := by decide +kernel
theorem dX1_shuffleAt_26 : decode cX1_shuffleAt 26 = .ok (.invokevirtual 33, 3) := by decide +kernel
theorem dX1_shuffleAt_29 : decode cX1_shuffleAt 29 = .ok (.invokestatic 49, 3) := by decide +kernel
theorem dX1_shuffleAt_32 : decode cX1_shuffleAt 32 = .ok (.istore 5, 2) := by decide +kernel
theorem dX1_shuffleAt_34 : decode cX1_shuffleAt 34 = .ok (.aload_n 0, 1) := by decide +kernel
theorem dX1_shuffleAt_35 : decode cX1_shuffleAt 35 = .ok (.getfield 9, 3) := by decide +kernel
theorem dX1_shuffleAt_38 : decode cX1_shuffleAt 38 = .ok (.aload_n 0, 1) := by decide +kernel
theorem dX1_shuffleAt_39 : decode cX1_shuffleAt 39 = .ok (.getfield 19, 3) := by decide +kernel
theorem dX1_shuffleAt_42 : decode cX1_shuffleAt 42 = .ok (.iload 4, 2) := by decide +kernel
theorem dX1_shuffleAt_44 : decode cX1_shuffleAt 44 = .ok (.iadd, 1) := by decide +kernel
theorem dX1_shuffleAt_45 : decode cX1_shuffleAt 45 = .ok (.aload_n 2, 1) := by decide +kernel
theorem dX1_shuffleAt_46 : decode cX1_shuffleAt 46 = .ok (.aload_n 0, 1) := by decide +kernel
theorem dX1_shuffleAt_47 : decode cX1_shuffleAt 47 = .ok (.getfield 19, 3) := by decide +kernel
theorem dX1_shuffleAt_50 : decode cX1_shuffleAt 50 = .ok (.iload 5, 2) := by decide +kernel
theorem dX1_shuffleAt_52 : decode cX1_shuffleAt 52 = .ok (.iadd, 1) := by decide +kernel
theorem dX1_shuffleAt_53 : decode cX1_shuffleAt 53 = .ok (.invokestatic 37, 3) := by decide +kernel
theorem dX1_shuffleAt_56 : decode cX1_shuffleAt 56 = .ok (.invokestatic 45, 3) := by decide +kernel
theorem dX1_shuffleAt_59 : decode cX1_shuffleAt 59 = .ok (.iload 5, 2) := by decide +kernel
theorem dX1_shuffleAt_61 : decode cX1_shuffleAt 61 = .ok (.iload 4, 2) := by decide +kernel
theorem dX1_shuffleAt_63 : decode cX1_shuffleAt 63 = .ok (.if_icmp .eq 6, 3) := by decide +kernel
theorem dX1_shuffleAt_66 : decode cX1_shuffleAt 66 = .ok (.iinc 3 1, 3) := by decide +kernel
theorem dX1_shuffleAt_69 : decode cX1_shuffleAt 69 = .ok (.iinc 4 1, 3) := by decide +kernel
theorem dX1_shuffleAt_72 : decode cX1_shuffleAt 72 = .ok (.goto (-59), 3) := by decide +kernel
theorem dX1_shuffleAt_75 : decode cX1_shuffleAt 75 = .ok (.iload_n 3, 1) := by decide +kernel
theorem dX1_shuffleAt_76 : decode cX1_shuffleAt 76 = .ok (.ireturn, 1) := by decide +kernel
theorem dX1_marksOf_0 : decode cX1_marksOf 0 = .ok (.aload_n 0, 1) := by decide +kernel
theorem dX1_marksOf_1 : decode cX1_marksOf 1 = .ok (.getfield 15, 3) := by decide +kernel
theorem dX1_marksOf_4 : decode cX1_marksOf 4 = .ok (.ifnonnull 8, 3) := by decide +kernel
theorem dX1_marksOf_7 : decode cX1_marksOf 7 = .ok (.bipush (-5), 2) := by decide +kernel
theorem dX1_marksOf_9 : decode cX1_marksOf 9 = .ok (.goto 14, 3) := by decide +kernel
theorem dX1_marksOf_12 : decode cX1_marksOf 12 = .ok (.aload_n 0, 1) := by decide +kernel
theorem dX1_marksOf_13 : decode cX1_marksOf 13 = .ok (.getfield 15, 3) := by decide +kernel
theorem dX1_marksOf_16 : decode cX1_marksOf 16 = .ok (.getfield 53, 3) := by decide +kernel
theorem dX1_marksOf_19 : decode cX1_marksOf 19 = .ok (.iload_n 1, 1) := by decide +kernel
theorem dX1_marksOf_20 : decode cX1_marksOf 20 = .ok (.invokestatic 37, 3) := by decide +kernel
theorem dX1_marksOf_23 : decode cX1_marksOf 23 = .ok (.ireturn, 1) := by decide +kernel
theorem dX1_marksAt_0 : decode cX1_marksAt 0 = .ok (.aload_n 0, 1) := by decide +kernel
theorem dX1_marksAt_1 : decode cX1_marksAt 1 = .ok (.aload_n 0, 1) := by decide +kernel
theorem dX1_marksAt_2 : decode cX1_marksAt 2 = .ok (.iload_n 1, 1) := by decide +kernel
theorem dX1_marksAt_3 : decode cX1_marksAt 3 = .ok (.invokevirtual 41, 3) := by decide +kernel
theorem dX1_marksAt_6 : decode cX1_marksAt 6 = .ok (.invokevirtual 56, 3) := by decide +kernel
theorem dX1_marksAt_9 : decode cX1_marksAt 9 = .ok (.ireturn, 1) := by decide +kernel
theorem dX1_canBeAt_0 : decode cX1_canBeAt 0 = .ok (.aload_n 0, 1) := by decide +kernel
theorem dX1_canBeAt_1 : decode cX1_canBeAt 1 = .ok (.iload_n 1, 1) := by decide +kernel
theorem dX1_canBeAt_2 : decode cX1_canBeAt 2 = .ok (.invokevirtual 59, 3) := by decide +kernel
theorem dX1_canBeAt_5 : decode cX1_canBeAt 5 = .ok (.istore_n 2, 1) := by decide +kernel
theorem dX1_canBeAt_6 : decode cX1_canBeAt 6 = .ok (.iconst 0, 1) := by decide +kernel
theorem dX1_canBeAt_7 : decode cX1_canBeAt 7 = .ok (.istore_n 3, 1) := by decide +kernel
theorem dX1_canBeAt_8 : decode cX1_canBeAt 8 = .ok (.iconst 0, 1) := by decide +kernel
theorem dX1_canBeAt_9 : decode cX1_canBeAt 9 = .ok (.istore 4, 2) := by decide +kernel
theorem dX1_canBeAt_11 : decode cX1_canBeAt 11 = .ok (.iload 4, 2) := by decide +kernel
theorem dX1_canBeAt_13 : decode cX1_canBeAt 13 = .ok (.aload_n 0, 1) := by decide +kernel
theorem dX1_canBeAt_14 : decode cX1_canBeAt 14 = .ok (.invokevirtual 33, 3) := by decide +kernel
theorem dX1_canBeAt_17 : decode cX1_canBeAt 17 = .ok (.if_icmp .ge 22, 3) := by decide +kernel
theorem dX1_canBeAt_20 : decode cX1_canBeAt 20 = .ok (.aload_n 0, 1) := by decide +kernel
theorem dX1_canBeAt_21 : decode cX1_canBeAt 21 = .ok (.iload 4, 2) := by decide +kernel
theorem dX1_canBeAt_23 : decode cX1_canBeAt 23 = .ok (.invokevirtual 59, 3) := by decide +kernel
theorem dX1_canBeAt_26 : decode cX1_canBeAt 26 = .ok (.iload_n 2, 1) := by decide +kernel
theorem dX1_canBeAt_27 : decode cX1_canBeAt 27 = .ok (.if_icmp .ne 6, 3) := by decide +kernel
theorem dX1_canBeAt_30 : decode cX1_canBeAt 30 = .ok (.iinc 3 1, 3) := by decide +kernel
theorem dX1_canBeAt_33 : decode cX1_canBeAt 33 = .ok (.iinc 4 1, 3) := by decide +kernel
theorem dX1_canBeAt_36 : decode cX1_canBeAt 36 = .ok (.goto (-25), 3) := by decide +kernel
theorem dX1_canBeAt_39 : decode cX1_canBeAt 39 = .ok (.iload_n 3, 1) := by decide +kernel
theorem dX1_canBeAt_40 : decode cX1_canBeAt 40 = .ok (.ireturn, 1) := by decide +kernel
theorem dX1_guessAt_0 : decode cX1_guessAt 0 = .ok (.aload_n 0, 1) := by decide +kernel
theorem dX1_guessAt_1 : decode cX1_guessAt 1 = .ok (.iload_n 1, 1) := by decide +kernel
theorem dX1_guessAt_2 : decode cX1_guessAt 2 = .ok (.invokevirtual 59, 3) := by decide +kernel
theorem dX1_guessAt_5 : decode cX1_guessAt 5 = .ok (.istore_n 2, 1) := by decide +kernel
theorem dX1_guessAt_6 : decode cX1_guessAt 6 = .ok (.aload_n 0, 1) := by decide +kernel
theorem dX1_guessAt_7 : decode cX1_guessAt 7 = .ok (.iload_n 1, 1) := by decide +kernel
theorem dX1_guessAt_8 : decode cX1_guessAt 8 = .ok (.invokevirtual 41, 3) := by decide +kernel
theorem dX1_guessAt_11 : decode cX1_guessAt 11 = .ok (.istore_n 3, 1) := by decide +kernel
theorem dX1_guessAt_12 : decode cX1_guessAt 12 = .ok (.iconst 0, 1) := by decide +kernel
theorem dX1_guessAt_13 : decode cX1_guessAt 13 = .ok (.istore 4, 2) := by decide +kernel
theorem dX1_guessAt_15 : decode cX1_guessAt 15 = .ok (.iload 4, 2) := by decide +kernel
theorem dX1_guessAt_17 : decode cX1_guessAt 17 = .ok (.aload_n 0, 1) := by decide +kernel
theorem dX1_guessAt_18 : decode cX1_guessAt 18 = .ok (.invokevirtual 33, 3) := by decide +kernel
theorem dX1_guessAt_21 : decode cX1_guessAt 21 = .ok (.if_icmp .ge 30, 3) := by decide +kernel
theorem dX1_guessAt_24 : decode cX1_guessAt 24 = .ok (.aload_n 0, 1) := by decide +kernel
theorem dX1_guessAt_25 : decode cX1_guessAt 25 = .ok (.iload 4, 2) := by decide +kernel
theorem dX1_guessAt_27 : decode cX1_guessAt 27 = .ok (.invokevirtual 59, 3) := by decide +kernel
theorem dX1_guessAt_30 : decode cX1_guessAt 30 = .ok (.iload_n 2, 1) := by decide +kernel
theorem dX1_guessAt_31 : decode cX1_guessAt 31 = .ok (.if_icmp .ne 14, 3) := by decide +kernel
theorem dX1_guessAt_34 : decode cX1_guessAt 34 = .ok (.iload_n 3, 1) := by decide +kernel
theorem dX1_guessAt_35 : decode cX1_guessAt 35 = .ok (.aload_n 0, 1) := by decide +kernel
theorem dX1_guessAt_36 : decode cX1_guessAt 36 = .ok (.iload 4, 2) := by decide +kernel
theorem dX1_guessAt_38 : decode cX1_guessAt 38 = .ok (.invokevirtual 41, 3) := by decide +kernel
theorem dX1_guessAt_41 : decode cX1_guessAt 41 = .ok (.invokestatic 62, 3) := by decide +kernel
theorem dX1_guessAt_44 : decode cX1_guessAt 44 = .ok (.istore_n 3, 1) := by decide +kernel
theorem dX1_guessAt_45 : decode cX1_guessAt 45 = .ok (.iinc 4 1, 3) := by decide +kernel
theorem dX1_guessAt_48 : decode cX1_guessAt 48 = .ok (.goto (-33), 3) := by decide +kernel
theorem dX1_guessAt_51 : decode cX1_guessAt 51 = .ok (.iload_n 3, 1) := by decide +kernel
theorem dX1_guessAt_52 : decode cX1_guessAt 52 = .ok (.ireturn, 1) := by decide +kernel
theorem dX1_known_0 : decode cX1_known 0 = .ok (.iconst 0, 1) := by decide +kernel
theorem dX1_known_1 : decode cX1_known 1 = .ok (.istore_n 1, 1) := by decide +kernel
theorem dX1_known_2 : decode cX1_known 2 = .ok (.iconst 0, 1) := by decide +kernel
theorem dX1_known_3 : decode cX1_known 3 = .ok (.istore_n 2, 1) := by decide +kernel
theorem dX1_known_4 : decode cX1_known 4 = .ok (.iload_n 2, 1) := by decide +kernel
theorem dX1_known_5 : decode cX1_known 5 = .ok (.aload_n 0, 1) := by decide +kernel
theorem dX1_known_6 : decode cX1_known 6 = .ok (.invokevirtual 33, 3) := by decide +kernel
theorem dX1_known_9 : decode cX1_known 9 = .ok (.if_icmp .ge 21, 3) := by decide +kernel
theorem dX1_known_12 : decode cX1_known 12 = .ok (.aload_n 0, 1) := by decide +kernel
theorem dX1_known_13 : decode cX1_known 13 = .ok (.iload_n 2, 1) := by decide +kernel
theorem dX1_known_14 : decode cX1_known 14 = .ok (.invokevirtual 67, 3) := by decide +kernel
theorem dX1_known_17 : decode cX1_known 17 = .ok (.iconst 1, 1) := by decide +kernel
theorem dX1_known_18 : decode cX1_known 18 = .ok (.if_icmp .ne 6, 3) := by decide +kernel
theorem dX1_known_21 : decode cX1_known 21 = .ok (.iinc 1 1, 3) := by decide +kernel
theorem dX1_known_24 : decode cX1_known 24 = .ok (.iinc 2 1, 3) := by decide +kernel
theorem dX1_known_27 : decode cX1_known 27 = .ok (.goto (-23), 3) := by decide +kernel
theorem dX1_known_30 : decode cX1_known 30 = .ok (.iload_n 1, 1) := by decide +kernel
theorem dX1_known_31 : decode cX1_known 31 = .ok (.ireturn, 1) := by decide +kernel
theorem dX1_guessedRight_0 : decode cX1_guessedRight 0 = .ok (.iconst 0, 1) := by decide +kernel
theorem dX1_guessedRight_1 : decode cX1_guessedRight 1 = .ok (.istore_n 1, 1) := by decide +kernel
theorem dX1_guessedRight_2 : decode cX1_guessedRight 2 = .ok (.iconst 0, 1) := by decide +kernel
theorem dX1_guessedRight_3 : decode cX1_guessedRight 3 = .ok (.istore_n 2, 1) := by decide +kernel
theorem dX1_guessedRight_4 : decode cX1_guessedRight 4 = .ok (.iload_n 2, 1) := by decide +kernel
theorem dX1_guessedRight_5 : decode cX1_guessedRight 5 = .ok (.aload_n 0, 1) := by decide +kernel
theorem dX1_guessedRight_6 : decode cX1_guessedRight 6 = .ok (.invokevirtual 33, 3) := by decide +kernel
theorem dX1_guessedRight_9 : decode cX1_guessedRight 9 = .ok (.if_icmp .ge 25, 3) := by decide +kernel
theorem dX1_guessedRight_12 : decode cX1_guessedRight 12 = .ok (.aload_n 0, 1) := by decide +kernel
theorem dX1_guessedRight_13 : decode cX1_guessedRight 13 = .ok (.iload_n 2, 1) := by decide +kernel
theorem dX1_guessedRight_14 : decode cX1_guessedRight 14 = .ok (.invokevirtual 70, 3) := by decide +kernel
theorem dX1_guessedRight_17 : decode cX1_guessedRight 17 = .ok (.aload_n 0, 1) := by decide +kernel
theorem dX1_guessedRight_18 : decode cX1_guessedRight 18 = .ok (.iload_n 2, 1) := by decide +kernel
theorem dX1_guessedRight_19 : decode cX1_guessedRight 19 = .ok (.invokevirtual 41, 3) := by decide +kernel
theorem dX1_guessedRight_22 : decode cX1_guessedRight 22 = .ok (.if_icmp .ne 6, 3) := by decide +kernel
theorem dX1_guessedRight_25 : decode cX1_guessedRight 25 = .ok (.iinc 1 1, 3) := by decide +kernel
theorem dX1_guessedRight_28 : decode cX1_guessedRight 28 = .ok (.iinc 2 1, 3) := by decide +kernel
theorem dX1_guessedRight_31 : decode cX1_guessedRight 31 = .ok (.goto (-27), 3) := by decide +kernel
theorem dX1_guessedRight_34 : decode cX1_guessedRight 34 = .ok (.iload_n 1, 1) := by decide +kernel
theorem dX1_guessedRight_35 : decode cX1_guessedRight 35 = .ok (.ireturn, 1) := by decide +kernel
theorem dX1_sumOfChances_0 : decode cX1_sumOfChances 0 = .ok (.fconst 0, 1) := by decide +kernel
theorem dX1_sumOfChances_1 : decode cX1_sumOfChances 1 = .ok (.fstore_n 1, 1) := by decide +kernel
theorem dX1_sumOfChances_2 : decode cX1_sumOfChances 2 = .ok (.iconst 0, 1) := by decide +kernel
theorem dX1_sumOfChances_3 : decode cX1_sumOfChances 3 = .ok (.istore_n 2, 1) := by decide +kernel
theorem dX1_sumOfChances_4 : decode cX1_sumOfChances 4 = .ok (.iload_n 2, 1) := by decide +kernel
theorem dX1_sumOfChances_5 : decode cX1_sumOfChances 5 = .ok (.aload_n 0, 1) := by decide +kernel
theorem dX1_sumOfChances_6 : decode cX1_sumOfChances 6 = .ok (.invokevirtual 33, 3) := by decide +kernel
theorem dX1_sumOfChances_9 : decode cX1_sumOfChances 9 = .ok (.if_icmp .ge 26, 3) := by decide +kernel
theorem dX1_sumOfChances_12 : decode cX1_sumOfChances 12 = .ok (.aload_n 0, 1) := by decide +kernel
theorem dX1_sumOfChances_13 : decode cX1_sumOfChances 13 = .ok (.iload_n 2, 1) := by decide +kernel
theorem dX1_sumOfChances_14 : decode cX1_sumOfChances 14 = .ok (.invokevirtual 67, 3) := by decide +kernel
theorem dX1_sumOfChances_17 : decode cX1_sumOfChances 17 = .ok (.istore_n 3, 1) := by decide +kernel
theorem dX1_sumOfChances_18 : decode cX1_sumOfChances 18 = .ok (.iload_n 3, 1) := by decide +kernel
theorem dX1_sumOfChances_19 : decode cX1_sumOfChances 19 = .ok (.ifCond .le 10, 3) := by decide +kernel
theorem dX1_sumOfChances_22 : decode cX1_sumOfChances 22 = .ok (.fload_n 1, 1) := by decide +kernel
theorem dX1_sumOfChances_23 : decode cX1_sumOfChances 23 = .ok (.fconst 1, 1) := by decide +kernel
theorem dX1_sumOfChances_24 : decode cX1_sumOfChances 24 = .ok (.iload_n 3, 1) := by decide +kernel
theorem dX1_sumOfChances_25 : decode cX1_sumOfChances 25 = .ok (.i2f, 1) := by decide +kernel
theorem dX1_sumOfChances_26 : decode cX1_sumOfChances 26 = .ok (.fdiv, 1) := by decide +kernel
theorem dX1_sumOfChances_27 : decode cX1_sumOfChances 27 = .ok (.fadd, 1) := by decide +kernel
theorem dX1_sumOfChances_28 : decode cX1_sumOfChances 28 = .ok (.fstore_n 1, 1) := by decide +kernel
theorem dX1_sumOfChances_29 : decode cX1_sumOfChances 29 = .ok (.iinc 2 1, 3) := by decide +kernel
theorem dX1_sumOfChances_32 : decode cX1_sumOfChances 32 = .ok (.goto (-28), 3) := by decide +kernel
theorem dX1_sumOfChances_35 : decode cX1_sumOfChances 35 = .ok (.fload_n 1, 1) := by decide +kernel
theorem dX1_sumOfChances_36 : decode cX1_sumOfChances 36 = .ok (.freturn, 1) := by decide +kernel
theorem dX2_init_0 : decode cX2_init 0 = .ok (.aload_n 0, 1) := by decide +kernel
theorem dX2_init_1 : decode cX2_init 1 = .ok (.invokespecial 3, 3) := by decide +kernel
theorem dX2_init_4 : decode cX2_init 4 = .ok (.aload_n 0, 1) := by decide +kernel
theorem dX2_init_5 : decode cX2_init 5 = .ok (.bipush 24, 2) := by decide +kernel
theorem dX2_init_7 : decode cX2_init 7 = .ok (.newarray .int, 2) := by decide +kernel
theorem dX2_init_9 : decode cX2_init 9 = .ok (.putfield 9, 3) := by decide +kernel
theorem dX2_init_12 : decode cX2_init 12 = .ok (.aload_n 0, 1) := by decide +kernel
theorem dX2_init_13 : decode cX2_init 13 = .ok (.bipush 24, 2) := by decide +kernel
theorem dX2_init_15 : decode cX2_init 15 = .ok (.newarray .int, 2) := by decide +kernel
theorem dX2_init_17 : decode cX2_init 17 = .ok (.putfield 15, 3) := by decide +kernel
theorem dX2_init_20 : decode cX2_init 20 = .ok (.aload_n 0, 1) := by decide +kernel
theorem dX2_init_21 : decode cX2_init 21 = .ok (.bipush 24, 2) := by decide +kernel
theorem dX2_init_23 : decode cX2_init 23 = .ok (.newarray .int, 2) := by decide +kernel
theorem dX2_init_25 : decode cX2_init 25 = .ok (.putfield 18, 3) := by decide +kernel
theorem dX2_init_28 : decode cX2_init 28 = .ok (.aload_n 1, 1) := by decide +kernel
theorem dX2_init_29 : decode cX2_init 29 = .ok (.aload_n 0, 1) := by decide +kernel
theorem dX2_init_30 : decode cX2_init 30 = .ok (.getfield 9, 3) := by decide +kernel
theorem dX2_init_33 : decode cX2_init 33 = .ok (.invokestatic 21, 3) := by decide +kernel
theorem dX2_init_36 : decode cX2_init 36 = .ok (.aload_n 2, 1) := by decide +kernel
theorem dX2_init_37 : decode cX2_init 37 = .ok (.aload_n 0, 1) := by decide +kernel
theorem dX2_init_38 : decode cX2_init 38 = .ok (.getfield 18, 3) := by decide +kernel
theorem dX2_init_41 : decode cX2_init 41 = .ok (.invokestatic 21, 3) := by decide +kernel
theorem dX2_init_44 : decode cX2_init 44 = .ok (.iconst 0, 1) := by decide +kernel
theorem dX2_init_45 : decode cX2_init 45 = .ok (.istore 5, 2) := by decide +kernel
theorem dX2_init_47 : decode cX2_init 47 = .ok (.iload 5, 2) := by decide +kernel
theorem dX2_init_49 : decode cX2_init 49 = .ok (.bipush 24, 2) := by decide +kernel
theorem dX2_init_51 : decode cX2_init 51 = .ok (.if_icmp .ge 41, 3) := by decide +kernel
theorem dX2_init_54 : decode cX2_init 54 = .ok (.aload_n 0, 1) := by decide +kernel
theorem dX2_init_55 : decode cX2_init 55 = .ok (.getfield 15, 3) := by decide +kernel
theorem dX2_init_58 : decode cX2_init 58 = .ok (.aload_n 1, 1) := by decide +kernel
theorem dX2_init_59 : decode cX2_init 59 = .ok (.iload 5, 2) := by decide +kernel
theorem dX2_init_61 : decode cX2_init 61 = .ok (.invokestatic 25, 3) := by decide +kernel
theorem dX2_init_64 : decode cX2_init 64 = .ok (.aload_n 3, 1) := by decide +kernel
theorem dX2_init_65 : decode cX2_init 65 = .ok (.iload 4, 2) := by decide +kernel
theorem dX2_init_67 : decode cX2_init 67 = .ok (.ifCond .eq 11, 3) := by decide +kernel
theorem dX2_init_70 : decode cX2_init 70 = .ok (.bipush 23, 2) := by decide +kernel
theorem dX2_init_72 : decode cX2_init 72 = .ok (.iload 5, 2) := by decide +kernel
theorem dX2_init_74 : decode cX2_init 74 = .ok (.isub, 1) := by decide +kernel
theorem dX2_init_75 : decode cX2_init 75 = .ok (.goto 5, 3) := by decide +kernel
theorem dX2_init_78 : decode cX2_init 78 = .ok (.iload 5, 2) := by decide +kernel
theorem dX2_init_80 : decode cX2_init 80 = .ok (.invokestatic 25, 3) := by decide +kernel
theorem dX2_init_83 : decode cX2_init 83 = .ok (.invokestatic 29, 3) := by decide +kernel
theorem dX2_init_86 : decode cX2_init 86 = .ok (.iinc 5 1, 3) := by decide +kernel
theorem dX2_init_89 : decode cX2_init 89 = .ok (.goto (-42), 3) := by decide +kernel
theorem dX2_init_92 : decode cX2_init 92 = .ok (.return_, 1) := by decide +kernel
theorem dX2_cardCutTo_0 : decode cX2_cardCutTo 0 = .ok (.aload_n 0, 1) := by decide +kernel
theorem dX2_cardCutTo_1 : decode cX2_cardCutTo 1 = .ok (.getfield 9, 3) := by decide +kernel
theorem dX2_cardCutTo_4 : decode cX2_cardCutTo 4 = .ok (.iload_n 1, 1) := by decide +kernel
theorem dX2_cardCutTo_5 : decode cX2_cardCutTo 5 = .ok (.iload_n 2, 1) := by decide +kernel
theorem dX2_cardCutTo_6 : decode cX2_cardCutTo 6 = .ok (.invokestatic 33, 3) := by decide +kernel
theorem dX2_cardCutTo_9 : decode cX2_cardCutTo 9 = .ok (.invokestatic 25, 3) := by decide +kernel
theorem dX2_cardCutTo_12 : decode cX2_cardCutTo 12 = .ok (.ireturn, 1) := by decide +kernel
theorem dX2_cardsAtHome_0 : decode cX2_cardsAtHome 0 = .ok (.iconst 0, 1) := by decide +kernel
theorem dX2_cardsAtHome_1 : decode cX2_cardsAtHome 1 = .ok (.istore_n 2, 1) := by decide +kernel
theorem dX2_cardsAtHome_2 : decode cX2_cardsAtHome 2 = .ok (.iconst 0, 1) := by decide +kernel
theorem dX2_cardsAtHome_3 : decode cX2_cardsAtHome 3 = .ok (.istore_n 3, 1) := by decide +kernel
theorem dX2_cardsAtHome_4 : decode cX2_cardsAtHome 4 = .ok (.iload_n 3, 1) := by decide +kernel
theorem dX2_cardsAtHome_5 : decode cX2_cardsAtHome 5 = .ok (.bipush 24, 2) := by decide +kernel
theorem dX2_cardsAtHome_7 : decode cX2_cardsAtHome 7 = .ok (.if_icmp .ge 22, 3) := by decide +kernel
theorem dX2_cardsAtHome_10 : decode cX2_cardsAtHome 10 = .ok (.aload_n 0, 1) := by decide +kernel
theorem dX2_cardsAtHome_11 : decode cX2_cardsAtHome 11 = .ok (.iload_n 1, 1) := by decide +kernel
theorem dX2_cardsAtHome_12 : decode cX2_cardsAtHome 12 = .ok (.iload_n 3, 1) := by decide +kernel
theorem dX2_cardsAtHome_13 : decode cX2_cardsAtHome 13 = .ok (.invokevirtual 37, 3) := by decide +kernel
theorem dX2_cardsAtHome_16 : decode cX2_cardsAtHome 16 = .ok (.iload_n 3, 1) := by decide +kernel
theorem dX2_cardsAtHome_17 : decode cX2_cardsAtHome 17 = .ok (.if_icmp .ne 6, 3) := by decide +kernel
theorem dX2_cardsAtHome_20 : decode cX2_cardsAtHome 20 = .ok (.iinc 2 1, 3) := by decide +kernel
theorem dX2_cardsAtHome_23 : decode cX2_cardsAtHome 23 = .ok (.iinc 3 1, 3) := by decide +kernel
theorem dX2_cardsAtHome_26 : decode cX2_cardsAtHome 26 = .ok (.goto (-22), 3) := by decide +kernel
theorem dX2_cardsAtHome_29 : decode cX2_cardsAtHome 29 = .ok (.iload_n 2, 1) := by decide +kernel
theorem dX2_cardsAtHome_30 : decode cX2_cardsAtHome 30 = .ok (.ireturn, 1) := by decide +kernel
theorem dX3_init_0 : decode cX3_init 0 = .ok (.aload_n 0, 1) := by decide +kernel
theorem dX3_init_1 : decode cX3_init 1 = .ok (.invokespecial 3, 3) := by decide +kernel
theorem dX3_init_4 : decode cX3_init 4 = .ok (.aload_n 0, 1) := by decide +kernel
theorem dX3_init_5 : decode cX3_init 5 = .ok (.bipush 24, 2) := by decide +kernel
theorem dX3_init_7 : decode cX3_init 7 = .ok (.newarray .int, 2) := by decide +kernel
theorem dX3_init_9 : decode cX3_init 9 = .ok (.putfield 9, 3) := by decide +kernel
theorem dX3_init_12 : decode cX3_init 12 = .ok (.aload_n 0, 1) := by decide +kernel
theorem dX3_init_13 : decode cX3_init 13 = .ok (.bipush 24, 2) := by decide +kernel
theorem dX3_init_15 : decode cX3_init 15 = .ok (.newarray .int, 2) := by decide +kernel
theorem dX3_init_17 : decode cX3_init 17 = .ok (.putfield 15, 3) := by decide +kernel
theorem dX3_init_20 : decode cX3_init 20 = .ok (.aload_n 0, 1) := by decide +kernel
theorem dX3_init_21 : decode cX3_init 21 = .ok (.bipush 24, 2) := by decide +kernel
theorem dX3_init_23 : decode cX3_init 23 = .ok (.newarray .int, 2) := by decide +kernel
theorem dX3_init_25 : decode cX3_init 25 = .ok (.putfield 18, 3) := by decide +kernel
theorem dX3_init_28 : decode cX3_init 28 = .ok (.aload_n 0, 1) := by decide +kernel
theorem dX3_init_29 : decode cX3_init 29 = .ok (.iconst 4, 1) := by decide +kernel
theorem dX3_init_30 : decode cX3_init 30 = .ok (.newarray .int, 2) := by decide +kernel
theorem dX3_init_32 : decode cX3_init 32 = .ok (.putfield 21, 3) := by decide +kernel
theorem dX3_init_35 : decode cX3_init 35 = .ok (.aload_n 0, 1) := by decide +kernel
theorem dX3_init_36 : decode cX3_init 36 = .ok (.bipush 6, 2) := by decide +kernel
theorem dX3_init_38 : decode cX3_init 38 = .ok (.anewarray 24, 3) := by decide +kernel
theorem dX3_init_41 : decode cX3_init 41 = .ok (.putfield 26, 3) := by decide +kernel
theorem dX3_init_44 : decode cX3_init 44 = .ok (.aload_n 0, 1) := by decide +kernel
theorem dX3_init_45 : decode cX3_init 45 = .ok (.new 30, 3) := by decide +kernel
theorem dX3_init_48 : decode cX3_init 48 = .ok (.dup, 1) := by decide +kernel
theorem dX3_init_49 : decode cX3_init 49 = .ok (.invokespecial 32, 3) := by decide +kernel
theorem dX3_init_52 : decode cX3_init 52 = .ok (.putfield 33, 3) := by decide +kernel
theorem dX3_init_55 : decode cX3_init 55 = .ok (.aload_n 0, 1) := by decide +kernel
theorem dX3_init_56 : decode cX3_init 56 = .ok (.iconst 0, 1) := by decide +kernel
theorem dX3_init_57 : decode cX3_init 57 = .ok (.putfield 37, 3) := by decide +kernel
theorem dX3_init_60 : decode cX3_init 60 = .ok (.aload_n 0, 1) := by decide +kernel
theorem dX3_init_61 : decode cX3_init 61 = .ok (.iconst 0, 1) := by decide +kernel
theorem dX3_init_62 : decode cX3_init 62 = .ok (.putfield 41, 3) := by decide +kernel
theorem dX3_init_65 : decode cX3_init 65 = .ok (.aload_n 0, 1) := by decide +kernel
theorem dX3_init_66 : decode cX3_init 66 = .ok (.iconst 0, 1) := by decide +kernel
theorem dX3_init_67 : decode cX3_init 67 = .ok (.putfield 44, 3) := by decide +kernel
theorem dX3_init_70 : decode cX3_init 70 = .ok (.aload_n 0, 1) := by decide +kernel
theorem dX3_init_71 : decode cX3_init 71 = .ok (.iconst 0, 1) := by decide +kernel
theorem dX3_init_72 : decode cX3_init 72 = .ok (.putfield 47, 3) := by decide +kernel
theorem dX3_init_75 : decode cX3_init 75 = .ok (.aload_n 0, 1) := by decide +kernel
theorem dX3_init_76 : decode cX3_init 76 = .ok (.iconst 0, 1) := by decide +kernel
theorem dX3_init_77 : decode cX3_init 77 = .ok (.putfield 50, 3) := by decide +kernel
theorem dX3_init_80 : decode cX3_init 80 = .ok (.iconst 0, 1) := by decide +kernel
theorem dX3_init_81 : decode cX3_init 81 = .ok (.istore_n 1, 1) := by decide +kernel
theorem dX3_init_82 : decode cX3_init 82 = .ok (.iload_n 1, 1) := by decide +kernel
theorem dX3_init_83 : decode cX3_init 83 = .ok (.bipush 24, 2) := by decide +kernel
theorem dX3_init_85 : decode cX3_init 85 = .ok (.if_icmp .ge 16, 3) := by decide +kernel
theorem dX3_init_88 : decode cX3_init 88 = .ok (.aload_n 0, 1) := by decide +kernel
theorem dX3_init_89 : decode cX3_init 89 = .ok (.getfield 9, 3) := by decide +kernel
theorem dX3_init_92 : decode cX3_init 92 = .ok (.iload_n 1, 1) := by decide +kernel
theorem dX3_init_93 : decode cX3_init 93 = .ok (.iload_n 1, 1) := by decide +kernel
theorem dX3_init_94 : decode cX3_init 94 = .ok (.iastore, 1) := by decide +kernel
theorem dX3_init_95 : decode cX3_init 95 = .ok (.iinc 1 1, 3) := by decide +kernel
theorem dX3_init_98 : decode cX3_init 98 = .ok (.goto (-16), 3) := by decide +kernel
theorem dX3_init_101 : decode cX3_init 101 = .ok (.getstatic 53, 3) := by decide +kernel
theorem dX3_init_104 : decode cX3_init 104 = .ok (.aload_n 0, 1) := by decide +kernel
theorem dX3_init_105 : decode cX3_init 105 = .ok (.getfield 21, 3) := by decide +kernel
theorem dX3_init_108 : decode cX3_init 108 = .ok (.invokestatic 56, 3) := by decide +kernel
theorem dX3_init_111 : decode cX3_init 111 = .ok (.return_, 1) := by decide +kernel
theorem dX3_copyFrom_0 : decode cX3_copyFrom 0 = .ok (.aload_n 1, 1) := by decide +kernel
theorem dX3_copyFrom_1 : decode cX3_copyFrom 1 = .ok (.ifnonnull 4, 3) := by decide +kernel
theorem dX3_copyFrom_4 : decode cX3_copyFrom 4 = .ok (.return_, 1) := by decide +kernel
theorem dX3_copyFrom_5 : decode cX3_copyFrom 5 = .ok (.aload_n 1, 1) := by decide +kernel
theorem dX3_copyFrom_6 : decode cX3_copyFrom 6 = .ok (.getfield 9, 3) := by decide +kernel
theorem dX3_copyFrom_9 : decode cX3_copyFrom 9 = .ok (.aload_n 0, 1) := by decide +kernel
theorem dX3_copyFrom_10 : decode cX3_copyFrom 10 = .ok (.getfield 9, 3) := by decide +kernel
theorem dX3_copyFrom_13 : decode cX3_copyFrom 13 = .ok (.invokestatic 56, 3) := by decide +kernel
theorem dX3_copyFrom_16 : decode cX3_copyFrom 16 = .ok (.aload_n 1, 1) := by decide +kernel
theorem dX3_copyFrom_17 : decode cX3_copyFrom 17 = .ok (.getfield 15, 3) := by decide +kernel
theorem dX3_copyFrom_20 : decode cX3_copyFrom 20 = .ok (.aload_n 0, 1) := by decide +kernel
theorem dX3_copyFrom_21 : decode cX3_copyFrom 21 = .ok (.getfield 15, 3) := by decide +kernel
theorem dX3_copyFrom_24 : decode cX3_copyFrom 24 = .ok (.invokestatic 56, 3) := by decide +kernel
theorem dX3_copyFrom_27 : decode cX3_copyFrom 27 = .ok (.aload_n 1, 1) := by decide +kernel
theorem dX3_copyFrom_28 : decode cX3_copyFrom 28 = .ok (.getfield 18, 3) := by decide +kernel
theorem dX3_copyFrom_31 : decode cX3_copyFrom 31 = .ok (.aload_n 0, 1) := by decide +kernel
theorem dX3_copyFrom_32 : decode cX3_copyFrom 32 = .ok (.getfield 18, 3) := by decide +kernel
theorem dX3_copyFrom_35 : decode cX3_copyFrom 35 = .ok (.invokestatic 56, 3) := by decide +kernel
theorem dX3_copyFrom_38 : decode cX3_copyFrom 38 = .ok (.aload_n 1, 1) := by decide +kernel
theorem dX3_copyFrom_39 : decode cX3_copyFrom 39 = .ok (.getfield 21, 3) := by decide +kernel
theorem dX3_copyFrom_42 : decode cX3_copyFrom 42 = .ok (.aload_n 0, 1) := by decide +kernel
theorem dX3_copyFrom_43 : decode cX3_copyFrom 43 = .ok (.getfield 21, 3) := by decide +kernel
theorem dX3_copyFrom_46 : decode cX3_copyFrom 46 = .ok (.invokestatic 56, 3) := by decide +kernel
theorem dX3_copyFrom_49 : decode cX3_copyFrom 49 = .ok (.iconst 0, 1) := by decide +kernel
theorem dX3_copyFrom_50 : decode cX3_copyFrom 50 = .ok (.istore_n 2, 1) := by decide +kernel
theorem dX3_copyFrom_51 : decode cX3_copyFrom 51 = .ok (.iload_n 2, 1) := by decide +kernel
theorem dX3_copyFrom_52 : decode cX3_copyFrom 52 = .ok (.bipush 6, 2) := by decide +kernel
theorem dX3_copyFrom_54 : decode cX3_copyFrom 54 = .ok (.if_icmp .ge 21, 3) := by decide +kernel
theorem dX3_copyFrom_57 : decode cX3_copyFrom 57 = .ok (.aload_n 0, 1) := by decide +kernel
theorem dX3_copyFrom_58 : decode cX3_copyFrom 58 = .ok (.getfield 26, 3) := by decide +kernel
theorem dX3_copyFrom_61 : decode cX3_copyFrom 61 = .ok (.iload_n 2, 1) := by decide +kernel
theorem dX3_copyFrom_62 : decode cX3_copyFrom 62 = .ok (.aload_n 1, 1) := by decide +kernel
theorem dX3_copyFrom_63 : decode cX3_copyFrom 63 = .ok (.getfield 26, 3) := by decide +kernel
theorem dX3_copyFrom_66 : decode cX3_copyFrom 66 = .ok (.iload_n 2, 1) := by decide +kernel
theorem dX3_copyFrom_67 : decode cX3_copyFrom 67 = .ok (.aaload, 1) := by decide +kernel
theorem dX3_copyFrom_68 : decode cX3_copyFrom 68 = .ok (.aastore, 1) := by decide +kernel
theorem dX3_copyFrom_69 : decode cX3_copyFrom 69 = .ok (.iinc 2 1, 3) := by decide +kernel
theorem dX3_copyFrom_72 : decode cX3_copyFrom 72 = .ok (.goto (-21), 3) := by decide +kernel
theorem dX3_copyFrom_75 : decode cX3_copyFrom 75 = .ok (.aload_n 0, 1) := by decide +kernel
theorem dX3_copyFrom_76 : decode cX3_copyFrom 76 = .ok (.getfield 33, 3) := by decide +kernel
theorem dX3_copyFrom_79 : decode cX3_copyFrom 79 = .ok (.aload_n 1, 1) := by decide +kernel
theorem dX3_copyFrom_80 : decode cX3_copyFrom 80 = .ok (.getfield 33, 3) := by decide +kernel
theorem dX3_copyFrom_83 : decode cX3_copyFrom 83 = .ok (.invokevirtual 60, 3) := by decide +kernel
theorem dX3_copyFrom_86 : decode cX3_copyFrom 86 = .ok (.aload_n 0, 1) := by decide +kernel
theorem dX3_copyFrom_87 : decode cX3_copyFrom 87 = .ok (.aload_n 1, 1) := by decide +kernel
theorem dX3_copyFrom_88 : decode cX3_copyFrom 88 = .ok (.getfield 37, 3) := by decide +kernel
theorem dX3_copyFrom_91 : decode cX3_copyFrom 91 = .ok (.putfield 37, 3) := by decide +kernel
theorem dX3_copyFrom_94 : decode cX3_copyFrom 94 = .ok (.aload_n 0, 1) := by decide +kernel
theorem dX3_copyFrom_95 : decode cX3_copyFrom 95 = .ok (.aload_n 1, 1) := by decide +kernel
theorem dX3_copyFrom_96 : decode cX3_copyFrom 96 = .ok (.getfield 41, 3) := by decide +kernel
theorem dX3_copyFrom_99 : decode cX3_copyFrom 99 = .ok (.putfield 41, 3) := by decide +kernel
theorem dX3_copyFrom_102 : decode cX3_copyFrom 102 = .ok (.aload_n 0, 1) := by decide +kernel
theorem dX3_copyFrom_103 : decode cX3_copyFrom 103 = .ok (.aload_n 1, 1) := by decide +kernel
theorem dX3_copyFrom_104 : decode cX3_copyFrom 104 = .ok (.getfield 44, 3) := by decide +kernel
theorem dX3_copyFrom_107 : decode cX3_copyFrom 107 = .ok (.putfield 44, 3) := by decide +kernel
theorem dX3_copyFrom_110 : decode cX3_copyFrom 110 = .ok (.aload_n 0, 1) := by decide +kernel
theorem dX3_copyFrom_111 : decode cX3_copyFrom 111 = .ok (.aload_n 1, 1) := by decide +kernel
theorem dX3_copyFrom_112 : decode cX3_copyFrom 112 = .ok (.getfield 47, 3) := by decide +kernel
theorem dX3_copyFrom_115 : decode cX3_copyFrom 115 = .ok (.putfield 47, 3) := by decide +kernel
theorem dX3_copyFrom_118 : decode cX3_copyFrom 118 = .ok (.aload_n 0, 1) := by decide +kernel
theorem dX3_copyFrom_119 : decode cX3_copyFrom 119 = .ok (.aload_n 1, 1) := by decide +kernel
theorem dX3_copyFrom_120 : decode cX3_copyFrom 120 = .ok (.getfield 50, 3) := by decide +kernel
theorem dX3_copyFrom_123 : decode cX3_copyFrom 123 = .ok (.putfield 50, 3) := by decide +kernel
theorem dX3_copyFrom_126 : decode cX3_copyFrom 126 = .ok (.return_, 1) := by decide +kernel
theorem dX3_exchange_0 : decode cX3_exchange 0 = .ok (.aload_n 0, 1) := by decide +kernel
theorem dX3_exchange_1 : decode cX3_exchange 1 = .ok (.getfield 9, 3) := by decide +kernel
theorem dX3_exchange_4 : decode cX3_exchange 4 = .ok (.iload_n 1, 1) := by decide +kernel
theorem dX3_exchange_5 : decode cX3_exchange 5 = .ok (.invokestatic 64, 3) := by decide +kernel
theorem dX3_exchange_8 : decode cX3_exchange 8 = .ok (.istore_n 3, 1) := by decide +kernel
theorem dX3_exchange_9 : decode cX3_exchange 9 = .ok (.aload_n 0, 1) := by decide +kernel
theorem dX3_exchange_10 : decode cX3_exchange 10 = .ok (.getfield 9, 3) := by decide +kernel
theorem dX3_exchange_13 : decode cX3_exchange 13 = .ok (.iload_n 1, 1) := by decide +kernel
theorem dX3_exchange_14 : decode cX3_exchange 14 = .ok (.aload_n 0, 1) := by decide +kernel
theorem dX3_exchange_15 : decode cX3_exchange 15 = .ok (.getfield 9, 3) := by decide +kernel
theorem dX3_exchange_18 : decode cX3_exchange 18 = .ok (.iload_n 2, 1) := by decide +kernel
theorem dX3_exchange_19 : decode cX3_exchange 19 = .ok (.invokestatic 64, 3) := by decide +kernel
theorem dX3_exchange_22 : decode cX3_exchange 22 = .ok (.invokestatic 68, 3) := by decide +kernel
theorem dX3_exchange_25 : decode cX3_exchange 25 = .ok (.aload_n 0, 1) := by decide +kernel
theorem dX3_exchange_26 : decode cX3_exchange 26 = .ok (.getfield 9, 3) := by decide +kernel
theorem dX3_exchange_29 : decode cX3_exchange 29 = .ok (.iload_n 2, 1) := by decide +kernel
theorem dX3_exchange_30 : decode cX3_exchange 30 = .ok (.iload_n 3, 1) := by decide +kernel
theorem dX3_exchange_31 : decode cX3_exchange 31 = .ok (.invokestatic 68, 3) := by decide +kernel
theorem dX3_exchange_34 : decode cX3_exchange 34 = .ok (.return_, 1) := by decide +kernel
theorem dX3_cellOf_0 : decode cX3_cellOf 0 = .ok (.iconst 0, 1) := by decide +kernel
theorem dX3_cellOf_1 : decode cX3_cellOf 1 = .ok (.istore_n 2, 1) := by decide +kernel
theorem dX3_cellOf_2 : decode cX3_cellOf 2 = .ok (.iload_n 2, 1) := by decide +kernel
theorem dX3_cellOf_3 : decode cX3_cellOf 3 = .ok (.bipush 24, 2) := by decide +kernel
theorem dX3_cellOf_5 : decode cX3_cellOf 5 = .ok (.if_icmp .ge 21, 3) := by decide +kernel
theorem dX3_cellOf_8 : decode cX3_cellOf 8 = .ok (.aload_n 0, 1) := by decide +kernel
theorem dX3_cellOf_9 : decode cX3_cellOf 9 = .ok (.getfield 9, 3) := by decide +kernel
theorem dX3_cellOf_12 : decode cX3_cellOf 12 = .ok (.iload_n 2, 1) := by decide +kernel
theorem dX3_cellOf_13 : decode cX3_cellOf 13 = .ok (.iaload, 1) := by decide +kernel
theorem dX3_cellOf_14 : decode cX3_cellOf 14 = .ok (.iload_n 1, 1) := by decide +kernel
theorem dX3_cellOf_15 : decode cX3_cellOf 15 = .ok (.if_icmp .ne 5, 3) := by decide +kernel
theorem dX3_cellOf_18 : decode cX3_cellOf 18 = .ok (.iload_n 2, 1) := by decide +kernel
theorem dX3_cellOf_19 : decode cX3_cellOf 19 = .ok (.ireturn, 1) := by decide +kernel
theorem dX3_cellOf_20 : decode cX3_cellOf 20 = .ok (.iinc 2 1, 3) := by decide +kernel
theorem dX3_cellOf_23 : decode cX3_cellOf 23 = .ok (.goto (-21), 3) := by decide +kernel
theorem dX3_cellOf_26 : decode cX3_cellOf 26 = .ok (.bipush (-5), 2) := by decide +kernel
theorem dX3_cellOf_28 : decode cX3_cellOf 28 = .ok (.ireturn, 1) := by decide +kernel
theorem dX3_hasMark_0 : decode cX3_hasMark 0 = .ok (.aload_n 0, 1) := by decide +kernel
theorem dX3_hasMark_1 : decode cX3_hasMark 1 = .ok (.getfield 18, 3) := by decide +kernel
theorem dX3_hasMark_4 : decode cX3_hasMark 4 = .ok (.iload_n 1, 1) := by decide +kernel
theorem dX3_hasMark_5 : decode cX3_hasMark 5 = .ok (.invokestatic 64, 3) := by decide +kernel
theorem dX3_hasMark_8 : decode cX3_hasMark 8 = .ok (.iload_n 2, 1) := by decide +kernel
theorem dX3_hasMark_9 : decode cX3_hasMark 9 = .ok (.ishr, 1) := by decide +kernel
theorem dX3_hasMark_10 : decode cX3_hasMark 10 = .ok (.iconst 1, 1) := by decide +kernel
theorem dX3_hasMark_11 : decode cX3_hasMark 11 = .ok (.iand, 1) := by decide +kernel
theorem dX3_hasMark_12 : decode cX3_hasMark 12 = .ok (.iconst 1, 1) := by decide +kernel
theorem dX3_hasMark_13 : decode cX3_hasMark 13 = .ok (.if_icmp .ne 7, 3) := by decide +kernel
theorem dX3_hasMark_16 : decode cX3_hasMark 16 = .ok (.iconst 1, 1) := by decide +kernel
theorem dX3_hasMark_17 : decode cX3_hasMark 17 = .ok (.goto 4, 3) := by decide +kernel
theorem dX3_hasMark_20 : decode cX3_hasMark 20 = .ok (.iconst 0, 1) := by decide +kernel
theorem dX3_hasMark_21 : decode cX3_hasMark 21 = .ok (.ireturn, 1) := by decide +kernel
theorem dX3_setMark_0 : decode cX3_setMark 0 = .ok (.aload_n 0, 1) := by decide +kernel
theorem dX3_setMark_1 : decode cX3_setMark 1 = .ok (.getfield 18, 3) := by decide +kernel
theorem dX3_setMark_4 : decode cX3_setMark 4 = .ok (.iload_n 1, 1) := by decide +kernel
theorem dX3_setMark_5 : decode cX3_setMark 5 = .ok (.invokestatic 64, 3) := by decide +kernel
theorem dX3_setMark_8 : decode cX3_setMark 8 = .ok (.iconst 1, 1) := by decide +kernel
theorem dX3_setMark_9 : decode cX3_setMark 9 = .ok (.iload_n 2, 1) := by decide +kernel
theorem dX3_setMark_10 : decode cX3_setMark 10 = .ok (.ishl, 1) := by decide +kernel
theorem dX3_setMark_11 : decode cX3_setMark 11 = .ok (.iconst (-1), 1) := by decide +kernel
theorem dX3_setMark_12 : decode cX3_setMark 12 = .ok (.ixor, 1) := by decide +kernel
theorem dX3_setMark_13 : decode cX3_setMark 13 = .ok (.iand, 1) := by decide +kernel
theorem dX3_setMark_14 : decode cX3_setMark 14 = .ok (.istore 4, 2) := by decide +kernel
theorem dX3_setMark_16 : decode cX3_setMark 16 = .ok (.aload_n 0, 1) := by decide +kernel
theorem dX3_setMark_17 : decode cX3_setMark 17 = .ok (.getfield 18, 3) := by decide +kernel
theorem dX3_setMark_20 : decode cX3_setMark 20 = .ok (.iload_n 1, 1) := by decide +kernel
theorem dX3_setMark_21 : decode cX3_setMark 21 = .ok (.iload_n 3, 1) := by decide +kernel
theorem dX3_setMark_22 : decode cX3_setMark 22 = .ok (.ifCond .eq 12, 3) := by decide +kernel
theorem dX3_setMark_25 : decode cX3_setMark 25 = .ok (.iload 4, 2) := by decide +kernel
theorem dX3_setMark_27 : decode cX3_setMark 27 = .ok (.iconst 1, 1) := by decide +kernel
theorem dX3_setMark_28 : decode cX3_setMark 28 = .ok (.iload_n 2, 1) := by decide +kernel
theorem dX3_setMark_29 : decode cX3_setMark 29 = .ok (.ishl, 1) := by decide +kernel
theorem dX3_setMark_30 : decode cX3_setMark 30 = .ok (.ior, 1) := by decide +kernel
theorem dX3_setMark_31 : decode cX3_setMark 31 = .ok (.goto 5, 3) := by decide +kernel
theorem dX3_setMark_34 : decode cX3_setMark 34 = .ok (.iload 4, 2) := by decide +kernel
theorem dX3_setMark_36 : decode cX3_setMark 36 = .ok (.invokestatic 68, 3) := by decide +kernel
theorem dX3_setMark_39 : decode cX3_setMark 39 = .ok (.return_, 1) := by decide +kernel
theorem dX3_marksOnBacks_0 : decode cX3_marksOnBacks 0 = .ok (.iconst 0, 1) := by decide +kernel
theorem dX3_marksOnBacks_1 : decode cX3_marksOnBacks 1 = .ok (.istore_n 1, 1) := by decide +kernel
theorem dX3_marksOnBacks_2 : decode cX3_marksOnBacks 2 = .ok (.iconst 0, 1) := by decide +kernel
theorem dX3_marksOnBacks_3 : decode cX3_marksOnBacks 3 = .ok (.istore_n 2, 1) := by decide +kernel
theorem dX3_marksOnBacks_4 : decode cX3_marksOnBacks 4 = .ok (.iload_n 2, 1) := by decide +kernel
theorem dX3_marksOnBacks_5 : decode cX3_marksOnBacks 5 = .ok (.bipush 24, 2) := by decide +kernel
theorem dX3_marksOnBacks_7 : decode cX3_marksOnBacks 7 = .ok (.if_icmp .ge 21, 3) := by decide +kernel
theorem dX3_marksOnBacks_10 : decode cX3_marksOnBacks 10 = .ok (.iload_n 1, 1) := by decide +kernel
theorem dX3_marksOnBacks_11 : decode cX3_marksOnBacks 11 = .ok (.aload_n 0, 1) := by decide +kernel
theorem dX3_marksOnBacks_12 : decode cX3_marksOnBacks 12 = .ok (.getfield 18, 3) := by decide +kernel
theorem dX3_marksOnBacks_15 : decode cX3_marksOnBacks 15 = .ok (.iload_n 2, 1) := by decide +kernel
theorem dX3_marksOnBacks_16 : decode cX3_marksOnBacks 16 = .ok (.iaload, 1) := by decide +kernel
theorem dX3_marksOnBacks_17 : decode cX3_marksOnBacks 17 = .ok (.invokestatic 72, 3) := by decide +kernel
theorem dX3_marksOnBacks_20 : decode cX3_marksOnBacks 20 = .ok (.iadd, 1) := by decide +kernel
theorem dX3_marksOnBacks_21 : decode cX3_marksOnBacks 21 = .ok (.istore_n 1, 1) := by decide +kernel
theorem dX3_marksOnBacks_22 : decode cX3_marksOnBacks 22 = .ok (.iinc 2 1, 3) := by decide +kernel
theorem dX3_marksOnBacks_25 : decode cX3_marksOnBacks 25 = .ok (.goto (-21), 3) := by decide +kernel
theorem dX3_marksOnBacks_28 : decode cX3_marksOnBacks 28 = .ok (.iload_n 1, 1) := by decide +kernel
theorem dX3_marksOnBacks_29 : decode cX3_marksOnBacks 29 = .ok (.ireturn, 1) := by decide +kernel
theorem dX3_sheetAt_0 : decode cX3_sheetAt 0 = .ok (.iload_n 1, 1) := by decide +kernel
theorem dX3_sheetAt_1 : decode cX3_sheetAt 1 = .ok (.ifCond .lt 20, 3) := by decide +kernel
theorem dX3_sheetAt_4 : decode cX3_sheetAt 4 = .ok (.iload_n 1, 1) := by decide +kernel
theorem dX3_sheetAt_5 : decode cX3_sheetAt 5 = .ok (.aload_n 0, 1) := by decide +kernel
theorem dX3_sheetAt_6 : decode cX3_sheetAt 6 = .ok (.getfield 37, 3) := by decide +kernel
theorem dX3_sheetAt_9 : decode cX3_sheetAt 9 = .ok (.if_icmp .ge 12, 3) := by decide +kernel
theorem dX3_sheetAt_12 : decode cX3_sheetAt 12 = .ok (.aload_n 0, 1) := by decide +kernel
theorem dX3_sheetAt_13 : decode cX3_sheetAt 13 = .ok (.getfield 37, 3) := by decide +kernel
theorem dX3_sheetAt_16 : decode cX3_sheetAt 16 = .ok (.bipush 6, 2) := by decide +kernel
theorem dX3_sheetAt_18 : decode cX3_sheetAt 18 = .ok (.if_icmp .le 5, 3) := by decide +kernel
theorem dX3_sheetAt_21 : decode cX3_sheetAt 21 = .ok (.aconst_null, 1) := by decide +kernel
theorem dX3_sheetAt_22 : decode cX3_sheetAt 22 = .ok (.areturn, 1) := by decide +kernel
theorem dX3_sheetAt_23 : decode cX3_sheetAt 23 = .ok (.aload_n 0, 1) := by decide +kernel
theorem dX3_sheetAt_24 : decode cX3_sheetAt 24 = .ok (.getfield 26, 3) := by decide +kernel
theorem dX3_sheetAt_27 : decode cX3_sheetAt 27 = .ok (.aload_n 0, 1) := by decide +kernel
theorem dX3_sheetAt_28 : decode cX3_sheetAt 28 = .ok (.getfield 37, 3) := by decide +kernel
theorem dX3_sheetAt_31 : decode cX3_sheetAt 31 = .ok (.iconst 1, 1) := by decide +kernel
theorem dX3_sheetAt_32 : decode cX3_sheetAt 32 = .ok (.isub, 1) := by decide +kernel
theorem dX3_sheetAt_33 : decode cX3_sheetAt 33 = .ok (.iload_n 1, 1) := by decide +kernel
theorem dX3_sheetAt_34 : decode cX3_sheetAt 34 = .ok (.isub, 1) := by decide +kernel
theorem dX3_sheetAt_35 : decode cX3_sheetAt 35 = .ok (.aaload, 1) := by decide +kernel
theorem dX3_sheetAt_36 : decode cX3_sheetAt 36 = .ok (.areturn, 1) := by decide +kernel
theorem dX3_printSheet_0 : decode cX3_printSheet 0 = .ok (.aload_n 0, 1) := by decide +kernel
theorem dX3_printSheet_1 : decode cX3_printSheet 1 = .ok (.getfield 37, 3) := by decide +kernel
theorem dX3_printSheet_4 : decode cX3_printSheet 4 = .ok (.ifCond .lt 12, 3) := by decide +kernel
theorem dX3_printSheet_7 : decode cX3_printSheet 7 = .ok (.aload_n 0, 1) := by decide +kernel
theorem dX3_printSheet_8 : decode cX3_printSheet 8 = .ok (.getfield 37, 3) := by decide +kernel
theorem dX3_printSheet_11 : decode cX3_printSheet 11 = .ok (.bipush 6, 2) := by decide +kernel
theorem dX3_printSheet_13 : decode cX3_printSheet 13 = .ok (.if_icmp .lt 4, 3) := by decide +kernel
theorem dX3_printSheet_16 : decode cX3_printSheet 16 = .ok (.return_, 1) := by decide +kernel
theorem dX3_printSheet_17 : decode cX3_printSheet 17 = .ok (.aload_n 0, 1) := by decide +kernel
theorem dX3_printSheet_18 : decode cX3_printSheet 18 = .ok (.getfield 26, 3) := by decide +kernel
theorem dX3_printSheet_21 : decode cX3_printSheet 21 = .ok (.aload_n 0, 1) := by decide +kernel
theorem dX3_printSheet_22 : decode cX3_printSheet 22 = .ok (.getfield 37, 3) := by decide +kernel
theorem dX3_printSheet_25 : decode cX3_printSheet 25 = .ok (.new 24, 3) := by decide +kernel
theorem dX3_printSheet_28 : decode cX3_printSheet 28 = .ok (.dup, 1) := by decide +kernel
theorem dX3_printSheet_29 : decode cX3_printSheet 29 = .ok (.aload_n 0, 1) := by decide +kernel
theorem dX3_printSheet_30 : decode cX3_printSheet 30 = .ok (.getfield 9, 3) := by decide +kernel
theorem dX3_printSheet_33 : decode cX3_printSheet 33 = .ok (.aload_n 0, 1) := by decide +kernel
theorem dX3_printSheet_34 : decode cX3_printSheet 34 = .ok (.getfield 15, 3) := by decide +kernel
theorem dX3_printSheet_37 : decode cX3_printSheet 37 = .ok (.aload_n 0, 1) := by decide +kernel
theorem dX3_printSheet_38 : decode cX3_printSheet 38 = .ok (.getfield 18, 3) := by decide +kernel
theorem dX3_printSheet_41 : decode cX3_printSheet 41 = .ok (.iload_n 1, 1) := by decide +kernel
theorem dX3_printSheet_42 : decode cX3_printSheet 42 = .ok (.invokespecial 78, 3) := by decide +kernel
theorem dX3_printSheet_45 : decode cX3_printSheet 45 = .ok (.aastore, 1) := by decide +kernel
theorem dX3_printSheet_46 : decode cX3_printSheet 46 = .ok (.aload_n 0, 1) := by decide +kernel
theorem dX3_printSheet_47 : decode cX3_printSheet 47 = .ok (.dup, 1) := by decide +kernel
theorem dX3_printSheet_48 : decode cX3_printSheet 48 = .ok (.getfield 37, 3) := by decide +kernel
theorem dX3_printSheet_51 : decode cX3_printSheet 51 = .ok (.iconst 1, 1) := by decide +kernel
theorem dX3_printSheet_52 : decode cX3_printSheet 52 = .ok (.iadd, 1) := by decide +kernel
theorem dX3_printSheet_53 : decode cX3_printSheet 53 = .ok (.putfield 37, 3) := by decide +kernel
theorem dX3_printSheet_56 : decode cX3_printSheet 56 = .ok (.aload_n 0, 1) := by decide +kernel
theorem dX3_printSheet_57 : decode cX3_printSheet 57 = .ok (.dup, 1) := by decide +kernel
theorem dX3_printSheet_58 : decode cX3_printSheet 58 = .ok (.getfield 41, 3) := by decide +kernel
theorem dX3_printSheet_61 : decode cX3_printSheet 61 = .ok (.iconst 1, 1) := by decide +kernel
theorem dX3_printSheet_62 : decode cX3_printSheet 62 = .ok (.iadd, 1) := by decide +kernel
theorem dX3_printSheet_63 : decode cX3_printSheet 63 = .ok (.putfield 41, 3) := by decide +kernel
theorem dX3_printSheet_66 : decode cX3_printSheet 66 = .ok (.aload_n 0, 1) := by decide +kernel
theorem dX3_printSheet_67 : decode cX3_printSheet 67 = .ok (.invokevirtual 81, 3) := by decide +kernel
theorem dX3_printSheet_70 : decode cX3_printSheet 70 = .ok (.return_, 1) := by decide +kernel
theorem dX3_wear_0 : decode cX3_wear 0 = .ok (.aload_n 0, 1) := by decide +kernel
theorem dX3_wear_1 : decode cX3_wear 1 = .ok (.getfield 21, 3) := by decide +kernel
theorem dX3_wear_4 : decode cX3_wear 4 = .ok (.iconst 0, 1) := by decide +kernel
theorem dX3_wear_5 : decode cX3_wear 5 = .ok (.invokestatic 64, 3) := by decide +kernel
theorem dX3_wear_8 : decode cX3_wear 8 = .ok (.istore_n 1, 1) := by decide +kernel
theorem dX3_wear_9 : decode cX3_wear 9 = .ok (.iload_n 1, 1) := by decide +kernel
theorem dX3_wear_10 : decode cX3_wear 10 = .ok (.ifCond .le 32, 3) := by decide +kernel
theorem dX3_wear_13 : decode cX3_wear 13 = .ok (.aload_n 0, 1) := by decide +kernel
theorem dX3_wear_14 : decode cX3_wear 14 = .ok (.getfield 41, 3) := by decide +kernel
theorem dX3_wear_17 : decode cX3_wear 17 = .ok (.iload_n 1, 1) := by decide +kernel
theorem dX3_wear_18 : decode cX3_wear 18 = .ok (.irem, 1) := by decide +kernel
theorem dX3_wear_19 : decode cX3_wear 19 = .ok (.ifCond .ne 23, 3) := by decide +kernel
theorem dX3_wear_22 : decode cX3_wear 22 = .ok (.aload_n 0, 1) := by decide +kernel
theorem dX3_wear_23 : decode cX3_wear 23 = .ok (.aload_n 0, 1) := by decide +kernel
theorem dX3_wear_24 : decode cX3_wear 24 = .ok (.getfield 41, 3) := by decide +kernel
theorem dX3_wear_27 : decode cX3_wear 27 = .ok (.bipush 24, 2) := by decide +kernel
theorem dX3_wear_29 : decode cX3_wear 29 = .ok (.irem, 1) := by decide +kernel
theorem dX3_wear_30 : decode cX3_wear 30 = .ok (.aload_n 0, 1) := by decide +kernel
theorem dX3_wear_31 : decode cX3_wear 31 = .ok (.getfield 41, 3) := by decide +kernel
theorem dX3_wear_34 : decode cX3_wear 34 = .ok (.iload_n 1, 1) := by decide +kernel
theorem dX3_wear_35 : decode cX3_wear 35 = .ok (.idiv, 1) := by decide +kernel
theorem dX3_wear_36 : decode cX3_wear 36 = .ok (.iconst 4, 1) := by decide +kernel
theorem dX3_wear_37 : decode cX3_wear 37 = .ok (.irem, 1) := by decide +kernel
theorem dX3_wear_38 : decode cX3_wear 38 = .ok (.iconst 1, 1) := by decide +kernel
theorem dX3_wear_39 : decode cX3_wear 39 = .ok (.invokevirtual 84, 3) := by decide +kernel
theorem dX3_wear_42 : decode cX3_wear 42 = .ok (.return_, 1) := by decide +kernel
theorem dX3_takeTopSheet_0 : decode cX3_takeTopSheet 0 = .ok (.aload_n 0, 1) := by decide +kernel
theorem dX3_takeTopSheet_1 : decode cX3_takeTopSheet 1 = .ok (.iconst 0, 1) := by decide +kernel
theorem dX3_takeTopSheet_2 : decode cX3_takeTopSheet 2 = .ok (.invokevirtual 88, 3) := by decide +kernel
theorem dX3_takeTopSheet_5 : decode cX3_takeTopSheet 5 = .ok (.astore_n 1, 1) := by decide +kernel
theorem dX3_takeTopSheet_6 : decode cX3_takeTopSheet 6 = .ok (.aload_n 1, 1) := by decide +kernel
theorem dX3_takeTopSheet_7 : decode cX3_takeTopSheet 7 = .ok (.ifnull 23, 3) := by decide +kernel
theorem dX3_takeTopSheet_10 : decode cX3_takeTopSheet 10 = .ok (.aload_n 0, 1) := by decide +kernel
theorem dX3_takeTopSheet_11 : decode cX3_takeTopSheet 11 = .ok (.dup, 1) := by decide +kernel
theorem dX3_takeTopSheet_12 : decode cX3_takeTopSheet 12 = .ok (.getfield 37, 3) := by decide +kernel
theorem dX3_takeTopSheet_15 : decode cX3_takeTopSheet 15 = .ok (.iconst 1, 1) := by decide +kernel
theorem dX3_takeTopSheet_16 : decode cX3_takeTopSheet 16 = .ok (.isub, 1) := by decide +kernel
theorem dX3_takeTopSheet_17 : decode cX3_takeTopSheet 17 = .ok (.putfield 37, 3) := by decide +kernel
theorem dX3_takeTopSheet_20 : decode cX3_takeTopSheet 20 = .ok (.aload_n 0, 1) := by decide +kernel
theorem dX3_takeTopSheet_21 : decode cX3_takeTopSheet 21 = .ok (.getfield 26, 3) := by decide +kernel
theorem dX3_takeTopSheet_24 : decode cX3_takeTopSheet 24 = .ok (.aload_n 0, 1) := by decide +kernel
theorem dX3_takeTopSheet_25 : decode cX3_takeTopSheet 25 = .ok (.getfield 37, 3) := by decide +kernel
theorem dX3_takeTopSheet_28 : decode cX3_takeTopSheet 28 = .ok (.aconst_null, 1) := by decide +kernel
theorem dX3_takeTopSheet_29 : decode cX3_takeTopSheet 29 = .ok (.aastore, 1) := by decide +kernel
theorem dX3_takeTopSheet_30 : decode cX3_takeTopSheet 30 = .ok (.aload_n 1, 1) := by decide +kernel
theorem dX3_takeTopSheet_31 : decode cX3_takeTopSheet 31 = .ok (.areturn, 1) := by decide +kernel
theorem dX3_reasonAgainstSale_0 : decode cX3_reasonAgainstSale 0 = .ok (.aload_n 0, 1) := by decide +kernel
theorem dX3_reasonAgainstSale_1 : decode cX3_reasonAgainstSale 1 = .ok (.getfield 33, 3) := by decide +kernel
theorem dX3_reasonAgainstSale_4 : decode cX3_reasonAgainstSale 4 = .ok (.getfield 92, 3) := by decide +kernel
theorem dX3_reasonAgainstSale_7 : decode cX3_reasonAgainstSale 7 = .ok (.astore_n 1, 1) := by decide +kernel
theorem dX3_reasonAgainstSale_8 : decode cX3_reasonAgainstSale 8 = .ok (.aload_n 0, 1) := by decide +kernel
theorem dX3_reasonAgainstSale_9 : decode cX3_reasonAgainstSale 9 = .ok (.getfield 33, 3) := by decide +kernel
theorem dX3_reasonAgainstSale_12 : decode cX3_reasonAgainstSale 12 = .ok (.getfield 96, 3) := by decide +kernel
theorem dX3_reasonAgainstSale_15 : decode cX3_reasonAgainstSale 15 = .ok (.ifCond .le 5, 3) := by decide +kernel
theorem dX3_reasonAgainstSale_18 : decode cX3_reasonAgainstSale 18 = .ok (.iconst 1, 1) := by decide +kernel
theorem dX3_reasonAgainstSale_19 : decode cX3_reasonAgainstSale 19 = .ok (.ireturn, 1) := by decide +kernel
theorem dX3_reasonAgainstSale_20 : decode cX3_reasonAgainstSale 20 = .ok (.aload_n 1, 1) := by decide +kernel
theorem dX3_reasonAgainstSale_21 : decode cX3_reasonAgainstSale 21 = .ok (.ifnull 23, 3) := by decide +kernel
theorem dX3_reasonAgainstSale_24 : decode cX3_reasonAgainstSale 24 = .ok (.aload_n 1, 1) := by decide +kernel
theorem dX3_reasonAgainstSale_25 : decode cX3_reasonAgainstSale 25 = .ok (.getfield 99, 3) := by decide +kernel
theorem dX3_reasonAgainstSale_28 : decode cX3_reasonAgainstSale 28 = .ok (.aload_n 0, 1) := by decide +kernel
theorem dX3_reasonAgainstSale_29 : decode cX3_reasonAgainstSale 29 = .ok (.getfield 21, 3) := by decide +kernel
theorem dX3_reasonAgainstSale_32 : decode cX3_reasonAgainstSale 32 = .ok (.iconst 1, 1) := by decide +kernel
theorem dX3_reasonAgainstSale_33 : decode cX3_reasonAgainstSale 33 = .ok (.invokestatic 64, 3) := by decide +kernel
theorem dX3_reasonAgainstSale_36 : decode cX3_reasonAgainstSale 36 = .ok (.invokestatic 100, 3) := by decide +kernel
theorem dX3_reasonAgainstSale_39 : decode cX3_reasonAgainstSale 39 = .ok (.ifCond .le 5, 3) := by decide +kernel
theorem dX3_reasonAgainstSale_42 : decode cX3_reasonAgainstSale 42 = .ok (.iconst 2, 1) := by decide +kernel
theorem dX3_reasonAgainstSale_43 : decode cX3_reasonAgainstSale 43 = .ok (.ireturn, 1) := by decide +kernel
theorem dX3_reasonAgainstSale_44 : decode cX3_reasonAgainstSale 44 = .ok (.aload_n 0, 1) := by decide +kernel
theorem dX3_reasonAgainstSale_45 : decode cX3_reasonAgainstSale 45 = .ok (.getfield 33, 3) := by decide +kernel
theorem dX3_reasonAgainstSale_48 : decode cX3_reasonAgainstSale 48 = .ok (.invokevirtual 103, 3) := by decide +kernel
theorem dX3_reasonAgainstSale_51 : decode cX3_reasonAgainstSale 51 = .ok (.aload_n 0, 1) := by decide +kernel
theorem dX3_reasonAgainstSale_52 : decode cX3_reasonAgainstSale 52 = .ok (.getfield 21, 3) := by decide +kernel
theorem dX3_reasonAgainstSale_55 : decode cX3_reasonAgainstSale 55 = .ok (.iconst 2, 1) := by decide +kernel
theorem dX3_reasonAgainstSale_56 : decode cX3_reasonAgainstSale 56 = .ok (.invokestatic 64, 3) := by decide +kernel
theorem dX3_reasonAgainstSale_59 : decode cX3_reasonAgainstSale 59 = .ok (.if_icmp .le 7, 3) := by decide +kernel
theorem dX3_reasonAgainstSale_62 : decode cX3_reasonAgainstSale 62 = .ok (.iconst 3, 1) := by decide +kernel
theorem dX3_reasonAgainstSale_63 : decode cX3_reasonAgainstSale 63 = .ok (.goto 4, 3) := by decide +kernel
theorem dX3_reasonAgainstSale_66 : decode cX3_reasonAgainstSale 66 = .ok (.iconst 0, 1) := by decide +kernel
theorem dX3_reasonAgainstSale_67 : decode cX3_reasonAgainstSale 67 = .ok (.ireturn, 1) := by decide +kernel
theorem dX3_knownIfPrinted_0 : decode cX3_knownIfPrinted 0 = .ok (.iconst 0, 1) := by decide +kernel
theorem dX3_knownIfPrinted_1 : decode cX3_knownIfPrinted 1 = .ok (.istore_n 3, 1) := by decide +kernel
theorem dX3_knownIfPrinted_2 : decode cX3_knownIfPrinted 2 = .ok (.iconst 0, 1) := by decide +kernel
theorem dX3_knownIfPrinted_3 : decode cX3_knownIfPrinted 3 = .ok (.istore 4, 2) := by decide +kernel
theorem dX3_knownIfPrinted_5 : decode cX3_knownIfPrinted 5 = .ok (.iconst 0, 1) := by decide +kernel
theorem dX3_knownIfPrinted_6 : decode cX3_knownIfPrinted 6 = .ok (.istore 5, 2) := by decide +kernel
theorem dX3_knownIfPrinted_8 : decode cX3_knownIfPrinted 8 = .ok (.iload 5, 2) := by decide +kernel
theorem dX3_knownIfPrinted_10 : decode cX3_knownIfPrinted 10 = .ok (.bipush 24, 2) := by decide +kernel
theorem dX3_knownIfPrinted_12 : decode cX3_knownIfPrinted 12 = .ok (.if_icmp .ge 64, 3) := by decide +kernel
theorem dX3_knownIfPrinted_15 : decode cX3_knownIfPrinted 15 = .ok (.iload_n 1, 1) := by decide +kernel
theorem dX3_knownIfPrinted_16 : decode cX3_knownIfPrinted 16 = .ok (.ifCond .eq 11, 3) := by decide +kernel
theorem dX3_knownIfPrinted_19 : decode cX3_knownIfPrinted 19 = .ok (.bipush 23, 2) := by decide +kernel
theorem dX3_knownIfPrinted_21 : decode cX3_knownIfPrinted 21 = .ok (.iload 5, 2) := by decide +kernel
theorem dX3_knownIfPrinted_23 : decode cX3_knownIfPrinted 23 = .ok (.isub, 1) := by decide +kernel
theorem dX3_knownIfPrinted_24 : decode cX3_knownIfPrinted 24 = .ok (.goto 5, 3) := by decide +kernel
theorem dX3_knownIfPrinted_27 : decode cX3_knownIfPrinted 27 = .ok (.iload 5, 2) := by decide +kernel
theorem dX3_knownIfPrinted_29 : decode cX3_knownIfPrinted 29 = .ok (.istore 6, 2) := by decide +kernel
theorem dX3_knownIfPrinted_31 : decode cX3_knownIfPrinted 31 = .ok (.iload 6, 2) := by decide +kernel
theorem dX3_knownIfPrinted_33 : decode cX3_knownIfPrinted 33 = .ok (.iload_n 2, 1) := by decide +kernel
theorem dX3_knownIfPrinted_34 : decode cX3_knownIfPrinted 34 = .ok (.if_icmp .ne 7, 3) := by decide +kernel
theorem dX3_knownIfPrinted_37 : decode cX3_knownIfPrinted 37 = .ok (.iconst 0, 1) := by decide +kernel
theorem dX3_knownIfPrinted_38 : decode cX3_knownIfPrinted 38 = .ok (.goto 12, 3) := by decide +kernel
theorem dX3_knownIfPrinted_41 : decode cX3_knownIfPrinted 41 = .ok (.aload_n 0, 1) := by decide +kernel
theorem dX3_knownIfPrinted_42 : decode cX3_knownIfPrinted 42 = .ok (.getfield 18, 3) := by decide +kernel
theorem dX3_knownIfPrinted_45 : decode cX3_knownIfPrinted 45 = .ok (.iload 6, 2) := by decide +kernel
theorem dX3_knownIfPrinted_47 : decode cX3_knownIfPrinted 47 = .ok (.invokestatic 64, 3) := by decide +kernel
theorem dX3_knownIfPrinted_50 : decode cX3_knownIfPrinted 50 = .ok (.istore 7, 2) := by decide +kernel
theorem dX3_knownIfPrinted_52 : decode cX3_knownIfPrinted 52 = .ok (.iload 4, 2) := by decide +kernel
theorem dX3_knownIfPrinted_54 : decode cX3_knownIfPrinted 54 = .ok (.iload_n 3, 1) := by decide +kernel
theorem dX3_knownIfPrinted_55 : decode cX3_knownIfPrinted 55 = .ok (.iconst 1, 1) := by decide +kernel
theorem dX3_knownIfPrinted_56 : decode cX3_knownIfPrinted 56 = .ok (.iload 7, 2) := by decide +kernel
theorem dX3_knownIfPrinted_58 : decode cX3_knownIfPrinted 58 = .ok (.ishl, 1) := by decide +kernel
theorem dX3_knownIfPrinted_59 : decode cX3_knownIfPrinted 59 = .ok (.iand, 1) := by decide +kernel
theorem dX3_knownIfPrinted_60 : decode cX3_knownIfPrinted 60 = .ok (.ior, 1) := by decide +kernel
theorem dX3_knownIfPrinted_61 : decode cX3_knownIfPrinted 61 = .ok (.istore 4, 2) := by decide +kernel
theorem dX3_knownIfPrinted_63 : decode cX3_knownIfPrinted 63 = .ok (.iload_n 3, 1) := by decide +kernel
theorem dX3_knownIfPrinted_64 : decode cX3_knownIfPrinted 64 = .ok (.iconst 1, 1) := by decide +kernel
theorem dX3_knownIfPrinted_65 : decode cX3_knownIfPrinted 65 = .ok (.iload 7, 2) := by decide +kernel
theorem dX3_knownIfPrinted_67 : decode cX3_knownIfPrinted 67 = .ok (.ishl, 1) := by decide +kernel
theorem dX3_knownIfPrinted_68 : decode cX3_knownIfPrinted 68 = .ok (.ior, 1) := by decide +kernel
theorem dX3_knownIfPrinted_69 : decode cX3_knownIfPrinted 69 = .ok (.istore_n 3, 1) := by decide +kernel
theorem dX3_knownIfPrinted_70 : decode cX3_knownIfPrinted 70 = .ok (.iinc 5 1, 3) := by decide +kernel
theorem dX3_knownIfPrinted_73 : decode cX3_knownIfPrinted 73 = .ok (.goto (-65), 3) := by decide +kernel
theorem dX3_knownIfPrinted_76 : decode cX3_knownIfPrinted 76 = .ok (.iload_n 3, 1) := by decide +kernel
theorem dX3_knownIfPrinted_77 : decode cX3_knownIfPrinted 77 = .ok (.iload 4, 2) := by decide +kernel
theorem dX3_knownIfPrinted_79 : decode cX3_knownIfPrinted 79 = .ok (.iconst (-1), 1) := by decide +kernel
theorem dX3_knownIfPrinted_80 : decode cX3_knownIfPrinted 80 = .ok (.ixor, 1) := by decide +kernel
theorem dX3_knownIfPrinted_81 : decode cX3_knownIfPrinted 81 = .ok (.iand, 1) := by decide +kernel
theorem dX3_knownIfPrinted_82 : decode cX3_knownIfPrinted 82 = .ok (.invokestatic 72, 3) := by decide +kernel
theorem dX3_knownIfPrinted_85 : decode cX3_knownIfPrinted 85 = .ok (.ireturn, 1) := by decide +kernel
theorem dX4_init_0 : decode cX4_init 0 = .ok (.aload_n 0, 1) := by decide +kernel
theorem dX4_init_1 : decode cX4_init 1 = .ok (.invokespecial 3, 3) := by decide +kernel
theorem dX4_init_4 : decode cX4_init 4 = .ok (.aload_n 0, 1) := by decide +kernel
theorem dX4_init_5 : decode cX4_init 5 = .ok (.bipush 60, 2) := by decide +kernel
theorem dX4_init_7 : decode cX4_init 7 = .ok (.newarray .char, 2) := by decide +kernel
theorem dX4_init_9 : decode cX4_init 9 = .ok (.putfield 9, 3) := by decide +kernel
theorem dX4_init_12 : decode cX4_init 12 = .ok (.aload_n 0, 1) := by decide +kernel
theorem dX4_init_13 : decode cX4_init 13 = .ok (.iconst 0, 1) := by decide +kernel
theorem dX4_init_14 : decode cX4_init 14 = .ok (.putfield 15, 3) := by decide +kernel
theorem dX4_init_17 : decode cX4_init 17 = .ok (.aload_n 0, 1) := by decide +kernel
theorem dX4_init_18 : decode cX4_init 18 = .ok (.iconst 0, 1) := by decide +kernel
theorem dX4_init_19 : decode cX4_init 19 = .ok (.putfield 19, 3) := by decide +kernel
theorem dX4_init_22 : decode cX4_init 22 = .ok (.aload_n 0, 1) := by decide +kernel
theorem dX4_init_23 : decode cX4_init 23 = .ok (.bipush 12, 2) := by decide +kernel
theorem dX4_init_25 : decode cX4_init 25 = .ok (.newarray .char, 2) := by decide +kernel
theorem dX4_init_27 : decode cX4_init 27 = .ok (.putfield 22, 3) := by decide +kernel
theorem dX4_init_30 : decode cX4_init 30 = .ok (.aload_n 0, 1) := by decide +kernel
theorem dX4_init_31 : decode cX4_init 31 = .ok (.bipush 12, 2) := by decide +kernel
theorem dX4_init_33 : decode cX4_init 33 = .ok (.newarray .int, 2) := by decide +kernel
theorem dX4_init_35 : decode cX4_init 35 = .ok (.putfield 25, 3) := by decide +kernel
theorem dX4_init_38 : decode cX4_init 38 = .ok (.aload_n 0, 1) := by decide +kernel
theorem dX4_init_39 : decode cX4_init 39 = .ok (.bipush 12, 2) := by decide +kernel
theorem dX4_init_41 : decode cX4_init 41 = .ok (.newarray .int, 2) := by decide +kernel
theorem dX4_init_43 : decode cX4_init 43 = .ok (.putfield 29, 3) := by decide +kernel
theorem dX4_init_46 : decode cX4_init 46 = .ok (.aload_n 0, 1) := by decide +kernel
theorem dX4_init_47 : decode cX4_init 47 = .ok (.iconst 0, 1) := by decide +kernel
theorem dX4_init_48 : decode cX4_init 48 = .ok (.putfield 32, 3) := by decide +kernel
theorem dX4_init_51 : decode cX4_init 51 = .ok (.return_, 1) := by decide +kernel
theorem dX4_append_0 : decode cX4_append 0 = .ok (.aload_n 0, 1) := by decide +kernel
theorem dX4_append_1 : decode cX4_append 1 = .ok (.getfield 15, 3) := by decide +kernel
theorem dX4_append_4 : decode cX4_append 4 = .ok (.ifCond .lt 32, 3) := by decide +kernel
theorem dX4_append_7 : decode cX4_append 7 = .ok (.aload_n 0, 1) := by decide +kernel
theorem dX4_append_8 : decode cX4_append 8 = .ok (.getfield 15, 3) := by decide +kernel
theorem dX4_append_11 : decode cX4_append 11 = .ok (.bipush 60, 2) := by decide +kernel
theorem dX4_append_13 : decode cX4_append 13 = .ok (.if_icmp .ge 23, 3) := by decide +kernel
theorem dX4_append_16 : decode cX4_append 16 = .ok (.aload_n 0, 1) := by decide +kernel
theorem dX4_append_17 : decode cX4_append 17 = .ok (.getfield 9, 3) := by decide +kernel
theorem dX4_append_20 : decode cX4_append 20 = .ok (.aload_n 0, 1) := by decide +kernel
theorem dX4_append_21 : decode cX4_append 21 = .ok (.getfield 15, 3) := by decide +kernel
theorem dX4_append_24 : decode cX4_append 24 = .ok (.iload_n 1, 1) := by decide +kernel
theorem dX4_append_25 : decode cX4_append 25 = .ok (.castore, 1) := by decide +kernel
theorem dX4_append_26 : decode cX4_append 26 = .ok (.aload_n 0, 1) := by decide +kernel
theorem dX4_append_27 : decode cX4_append 27 = .ok (.dup, 1) := by decide +kernel
theorem dX4_append_28 : decode cX4_append 28 = .ok (.getfield 15, 3) := by decide +kernel
theorem dX4_append_31 : decode cX4_append 31 = .ok (.iconst 1, 1) := by decide +kernel
theorem dX4_append_32 : decode cX4_append 32 = .ok (.iadd, 1) := by decide +kernel
theorem dX4_append_33 : decode cX4_append 33 = .ok (.putfield 15, 3) := by decide +kernel
theorem dX4_append_36 : decode cX4_append 36 = .ok (.return_, 1) := by decide +kernel
theorem dX4_kindOf_0 : decode cX4_kindOf 0 = .ok (.iload_n 1, 1) := by decide +kernel
theorem dX4_kindOf_1 : decode cX4_kindOf 1 = .ok (.ifCond .lt 18, 3) := by decide +kernel
theorem dX4_kindOf_4 : decode cX4_kindOf 4 = .ok (.iload_n 1, 1) := by decide +kernel
theorem dX4_kindOf_5 : decode cX4_kindOf 5 = .ok (.bipush 12, 2) := by decide +kernel
theorem dX4_kindOf_7 : decode cX4_kindOf 7 = .ok (.if_icmp .ge 12, 3) := by decide +kernel
theorem dX4_kindOf_10 : decode cX4_kindOf 10 = .ok (.aload_n 0, 1) := by decide +kernel
theorem dX4_kindOf_11 : decode cX4_kindOf 11 = .ok (.getfield 22, 3) := by decide +kernel
theorem dX4_kindOf_14 : decode cX4_kindOf 14 = .ok (.iload_n 1, 1) := by decide +kernel
theorem dX4_kindOf_15 : decode cX4_kindOf 15 = .ok (.caload, 1) := by decide +kernel
theorem dX4_kindOf_16 : decode cX4_kindOf 16 = .ok (.goto 4, 3) := by decide +kernel
theorem dX4_kindOf_19 : decode cX4_kindOf 19 = .ok (.iconst 0, 1) := by decide +kernel
theorem dX4_kindOf_20 : decode cX4_kindOf 20 = .ok (.ireturn, 1) := by decide +kernel
theorem dX4_findFault_0 : decode cX4_findFault 0 = .ok (.aload_n 0, 1) := by decide +kernel
theorem dX4_findFault_1 : decode cX4_findFault 1 = .ok (.iconst 0, 1) := by decide +kernel
theorem dX4_findFault_2 : decode cX4_findFault 2 = .ok (.putfield 19, 3) := by decide +kernel
theorem dX4_findFault_5 : decode cX4_findFault 5 = .ok (.aload_n 0, 1) := by decide +kernel
theorem dX4_findFault_6 : decode cX4_findFault 6 = .ok (.iconst 0, 1) := by decide +kernel
theorem dX4_findFault_7 : decode cX4_findFault 7 = .ok (.putfield 32, 3) := by decide +kernel
theorem dX4_findFault_10 : decode cX4_findFault 10 = .ok (.iconst 0, 1) := by decide +kernel
theorem dX4_findFault_11 : decode cX4_findFault 11 = .ok (.istore_n 1, 1) := by decide +kernel
theorem dX4_findFault_12 : decode cX4_findFault 12 = .ok (.iload_n 1, 1) := by decide +kernel
theorem dX4_findFault_13 : decode cX4_findFault 13 = .ok (.bipush 60, 2) := by decide +kernel
theorem dX4_findFault_15 : decode cX4_findFault 15 = .ok (.if_icmp .ge 49, 3) := by decide +kernel
theorem dX4_findFault_18 : decode cX4_findFault 18 = .ok (.aload_n 0, 1) := by decide +kernel
theorem dX4_findFault_19 : decode cX4_findFault 19 = .ok (.invokevirtual 35, 3) := by decide +kernel
theorem dX4_findFault_22 : decode cX4_findFault 22 = .ok (.ifCond .ne 8, 3) := by decide +kernel
theorem dX4_findFault_25 : decode cX4_findFault 25 = .ok (.aload_n 0, 1) := by decide +kernel
theorem dX4_findFault_26 : decode cX4_findFault 26 = .ok (.getfield 19, 3) := by decide +kernel
theorem dX4_findFault_29 : decode cX4_findFault 29 = .ok (.ireturn, 1) := by decide +kernel
theorem dX4_findFault_30 : decode cX4_findFault 30 = .ok (.aload_n 0, 1) := by decide +kernel
theorem dX4_findFault_31 : decode cX4_findFault 31 = .ok (.getfield 19, 3) := by decide +kernel
theorem dX4_findFault_34 : decode cX4_findFault 34 = .ok (.aload_n 0, 1) := by decide +kernel
theorem dX4_findFault_35 : decode cX4_findFault 35 = .ok (.getfield 15, 3) := by decide +kernel
theorem dX4_findFault_38 : decode cX4_findFault 38 = .ok (.if_icmp .ne 6, 3) := by decide +kernel
theorem dX4_findFault_41 : decode cX4_findFault 41 = .ok (.bipush (-5), 2) := by decide +kernel
theorem dX4_findFault_43 : decode cX4_findFault 43 = .ok (.ireturn, 1) := by decide +kernel
theorem dX4_findFault_44 : decode cX4_findFault 44 = .ok (.aload_n 0, 1) := by decide +kernel
theorem dX4_findFault_45 : decode cX4_findFault 45 = .ok (.bipush 59, 2) := by decide +kernel
theorem dX4_findFault_47 : decode cX4_findFault 47 = .ok (.invokevirtual 39, 3) := by decide +kernel
theorem dX4_findFault_50 : decode cX4_findFault 50 = .ok (.ifCond .ne 8, 3) := by decide +kernel
theorem dX4_findFault_53 : decode cX4_findFault 53 = .ok (.aload_n 0, 1) := by decide +kernel
theorem dX4_findFault_54 : decode cX4_findFault 54 = .ok (.getfield 19, 3) := by decide +kernel
theorem dX4_findFault_57 : decode cX4_findFault 57 = .ok (.ireturn, 1) := by decide +kernel
theorem dX4_findFault_58 : decode cX4_findFault 58 = .ok (.iinc 1 1, 3) := by decide +kernel
theorem dX4_findFault_61 : decode cX4_findFault 61 = .ok (.goto (-49), 3) := by decide +kernel
theorem dX4_findFault_64 : decode cX4_findFault 64 = .ok (.aload_n 0, 1) := by decide +kernel
theorem dX4_findFault_65 : decode cX4_findFault 65 = .ok (.getfield 19, 3) := by decide +kernel
theorem dX4_findFault_68 : decode cX4_findFault 68 = .ok (.ireturn, 1) := by decide +kernel
theorem dX4_leansAnotherThanCourts_0 : decode cX4_leansAnotherThanCourts 0 = .ok (.iconst 0, 1) := by decide +kernel
theorem dX4_leansAnotherThanCourts_1 : decode cX4_leansAnotherThanCourts 1 = .ok (.istore_n 1, 1) := by decide +kernel
theorem dX4_leansAnotherThanCourts_2 : decode cX4_leansAnotherThanCourts 2 = .ok (.iload_n 1, 1) := by decide +kernel
theorem dX4_leansAnotherThanCourts_3 : decode cX4_leansAnotherThanCourts 3 = .ok (.aload_n 0, 1) := by decide +kernel
theorem dX4_leansAnotherThanCourts_4 : decode cX4_leansAnotherThanCourts 4 = .ok (.getfield 32, 3) := by decide +kernel
theorem dX4_leansAnotherThanCourts_7 : decode cX4_leansAnotherThanCourts 7 = .ok (.if_icmp .ge 35, 3) := by decide +kernel
theorem dX4_leansAnotherThanCourts_10 : decode cX4_leansAnotherThanCourts 10 = .ok (.aload_n 0, 1) := by decide +kernel
theorem dX4_leansAnotherThanCourts_11 : decode cX4_leansAnotherThanCourts 11 = .ok (.iload_n 1, 1) := by decide +kernel
theorem dX4_leansAnotherThanCourts_12 : decode cX4_leansAnotherThanCourts 12 = .ok (.invokevirtual 43, 3) := by decide +kernel
theorem dX4_leansAnotherThanCourts_15 : decode cX4_leansAnotherThanCourts 15 = .ok (.bipush 108, 2) := by decide +kernel
theorem dX4_leansAnotherThanCourts_17 : decode cX4_leansAnotherThanCourts 17 = .ok (.if_icmp .ne 19, 3) := by decide +kernel
theorem dX4_leansAnotherThanCourts_20 : decode cX4_leansAnotherThanCourts 20 = .ok (.aload_n 0, 1) := by decide +kernel
theorem dX4_leansAnotherThanCourts_21 : decode cX4_leansAnotherThanCourts 21 = .ok (.getfield 25, 3) := by decide +kernel
theorem dX4_leansAnotherThanCourts_24 : decode cX4_leansAnotherThanCourts 24 = .ok (.iload_n 1, 1) := by decide +kernel
theorem dX4_leansAnotherThanCourts_25 : decode cX4_leansAnotherThanCourts 25 = .ok (.invokestatic 47, 3) := by decide +kernel
theorem dX4_leansAnotherThanCourts_28 : decode cX4_leansAnotherThanCourts 28 = .ok (.invokestatic 51, 3) := by decide +kernel
theorem dX4_leansAnotherThanCourts_31 : decode cX4_leansAnotherThanCourts 31 = .ok (.ifCond .ne 5, 3) := by decide +kernel
theorem dX4_leansAnotherThanCourts_34 : decode cX4_leansAnotherThanCourts 34 = .ok (.iconst 1, 1) := by decide +kernel
theorem dX4_leansAnotherThanCourts_35 : decode cX4_leansAnotherThanCourts 35 = .ok (.ireturn, 1) := by decide +kernel
theorem dX4_leansAnotherThanCourts_36 : decode cX4_leansAnotherThanCourts 36 = .ok (.iinc 1 1, 3) := by decide +kernel
theorem dX4_leansAnotherThanCourts_39 : decode cX4_leansAnotherThanCourts 39 = .ok (.goto (-37), 3) := by decide +kernel
theorem dX4_leansAnotherThanCourts_42 : decode cX4_leansAnotherThanCourts 42 = .ok (.iconst 0, 1) := by decide +kernel
theorem dX4_leansAnotherThanCourts_43 : decode cX4_leansAnotherThanCourts 43 = .ok (.ireturn, 1) := by decide +kernel
theorem dX4_readChange_0 : decode cX4_readChange 0 = .ok (.aload_n 0, 1) := by decide +kernel
theorem dX4_readChange_1 : decode cX4_readChange 1 = .ok (.invokevirtual 55, 3) := by decide +kernel
theorem dX4_readChange_4 : decode cX4_readChange 4 = .ok (.istore_n 1, 1) := by decide +kernel
theorem dX4_readChange_5 : decode cX4_readChange 5 = .ok (.iload_n 1, 1) := by decide +kernel
theorem dX4_readChange_6 : decode cX4_readChange 6 = .ok (.bipush 115, 2) := by decide +kernel
theorem dX4_readChange_8 : decode cX4_readChange 8 = .ok (.if_icmp .eq 23, 3) := by decide +kernel
theorem dX4_readChange_11 : decode cX4_readChange 11 = .ok (.iload_n 1, 1) := by decide +kernel
theorem dX4_readChange_12 : decode cX4_readChange 12 = .ok (.bipush 109, 2) := by decide +kernel
theorem dX4_readChange_14 : decode cX4_readChange 14 = .ok (.if_icmp .eq 17, 3) := by decide +kernel
theorem dX4_readChange_17 : decode cX4_readChange 17 = .ok (.iload_n 1, 1) := by decide +kernel
theorem dX4_readChange_18 : decode cX4_readChange 18 = .ok (.bipush 117, 2) := by decide +kernel
theorem dX4_readChange_20 : decode cX4_readChange 20 = .ok (.if_icmp .eq 11, 3) := by decide +kernel
theorem dX4_readChange_23 : decode cX4_readChange 23 = .ok (.iload_n 1, 1) := by decide +kernel
theorem dX4_readChange_24 : decode cX4_readChange 24 = .ok (.bipush 108, 2) := by decide +kernel
theorem dX4_readChange_26 : decode cX4_readChange 26 = .ok (.if_icmp .eq 5, 3) := by decide +kernel
theorem dX4_readChange_29 : decode cX4_readChange 29 = .ok (.iconst 0, 1) := by decide +kernel
theorem dX4_readChange_30 : decode cX4_readChange 30 = .ok (.ireturn, 1) := by decide +kernel
theorem dX4_readChange_31 : decode cX4_readChange 31 = .ok (.aload_n 0, 1) := by decide +kernel
theorem dX4_readChange_32 : decode cX4_readChange 32 = .ok (.dup, 1) := by decide +kernel
theorem dX4_readChange_33 : decode cX4_readChange 33 = .ok (.getfield 19, 3) := by decide +kernel
theorem dX4_readChange_36 : decode cX4_readChange 36 = .ok (.iconst 1, 1) := by decide +kernel
theorem dX4_readChange_37 : decode cX4_readChange 37 = .ok (.iadd, 1) := by decide +kernel
theorem dX4_readChange_38 : decode cX4_readChange 38 = .ok (.putfield 19, 3) := by decide +kernel
theorem dX4_readChange_41 : decode cX4_readChange 41 = .ok (.aload_n 0, 1) := by decide +kernel
theorem dX4_readChange_42 : decode cX4_readChange 42 = .ok (.iconst 0, 1) := by decide +kernel
theorem dX4_readChange_43 : decode cX4_readChange 43 = .ok (.bipush 23, 2) := by decide +kernel
theorem dX4_readChange_45 : decode cX4_readChange 45 = .ok (.invokevirtual 59, 3) := by decide +kernel
theorem dX4_readChange_48 : decode cX4_readChange 48 = .ok (.istore_n 2, 1) := by decide +kernel
theorem dX4_readChange_49 : decode cX4_readChange 49 = .ok (.iload_n 2, 1) := by decide +kernel
theorem dX4_readChange_50 : decode cX4_readChange 50 = .ok (.bipush (-5), 2) := by decide +kernel
theorem dX4_readChange_52 : decode cX4_readChange 52 = .ok (.if_icmp .eq 23, 3) := by decide +kernel
theorem dX4_readChange_55 : decode cX4_readChange 55 = .ok (.aload_n 0, 1) := by decide +kernel
theorem dX4_readChange_56 : decode cX4_readChange 56 = .ok (.iload_n 1, 1) := by decide +kernel
theorem dX4_readChange_57 : decode cX4_readChange 57 = .ok (.bipush 115, 2) := by decide +kernel
theorem dX4_readChange_59 : decode cX4_readChange 59 = .ok (.if_icmp .ne 8, 3) := by decide +kernel
theorem dX4_readChange_62 : decode cX4_readChange 62 = .ok (.bipush 47, 2) := by decide +kernel
theorem dX4_readChange_64 : decode cX4_readChange 64 = .ok (.goto 5, 3) := by decide +kernel
theorem dX4_readChange_67 : decode cX4_readChange 67 = .ok (.bipush 61, 2) := by decide +kernel
theorem dX4_readChange_69 : decode cX4_readChange 69 = .ok (.invokevirtual 39, 3) := by decide +kernel
theorem dX4_readChange_72 : decode cX4_readChange 72 = .ok (.ifCond .ne 5, 3) := by decide +kernel
theorem dX4_readChange_75 : decode cX4_readChange 75 = .ok (.iconst 0, 1) := by decide +kernel
theorem dX4_readChange_76 : decode cX4_readChange 76 = .ok (.ireturn, 1) := by decide +kernel
theorem dX4_readChange_77 : decode cX4_readChange 77 = .ok (.iload_n 1, 1) := by decide +kernel
theorem dX4_readChange_78 : decode cX4_readChange 78 = .ok (.bipush 108, 2) := by decide +kernel
theorem dX4_readChange_80 : decode cX4_readChange 80 = .ok (.if_icmp .ne 16, 3) := by decide +kernel
theorem dX4_readChange_83 : decode cX4_readChange 83 = .ok (.aload_n 0, 1) := by decide +kernel
theorem dX4_readChange_84 : decode cX4_readChange 84 = .ok (.bipush 45, 2) := by decide +kernel
theorem dX4_readChange_86 : decode cX4_readChange 86 = .ok (.invokevirtual 39, 3) := by decide +kernel
theorem dX4_readChange_89 : decode cX4_readChange 89 = .ok (.ifCond .eq 7, 3) := by decide +kernel
theorem dX4_readChange_92 : decode cX4_readChange 92 = .ok (.iconst 1, 1) := by decide +kernel
theorem dX4_readChange_93 : decode cX4_readChange 93 = .ok (.goto 4, 3) := by decide +kernel
theorem dX4_readChange_96 : decode cX4_readChange 96 = .ok (.iconst 0, 1) := by decide +kernel
theorem dX4_readChange_97 : decode cX4_readChange 97 = .ok (.istore_n 3, 1) := by decide +kernel
theorem dX4_readChange_98 : decode cX4_readChange 98 = .ok (.aload_n 0, 1) := by decide +kernel
theorem dX4_readChange_99 : decode cX4_readChange 99 = .ok (.iload_n 3, 1) := by decide +kernel
theorem dX4_readChange_100 : decode cX4_readChange 100 = .ok (.ifCond .eq 7, 3) := by decide +kernel
theorem dX4_readChange_103 : decode cX4_readChange 103 = .ok (.iconst 1, 1) := by decide +kernel
theorem dX4_readChange_104 : decode cX4_readChange 104 = .ok (.goto 4, 3) := by decide +kernel
theorem dX4_readChange_107 : decode cX4_readChange 107 = .ok (.iconst 0, 1) := by decide +kernel
theorem dX4_readChange_108 : decode cX4_readChange 108 = .ok (.iload_n 1, 1) := by decide +kernel
theorem dX4_readChange_109 : decode cX4_readChange 109 = .ok (.invokestatic 63, 3) := by decide +kernel
theorem dX4_readChange_112 : decode cX4_readChange 112 = .ok (.invokevirtual 59, 3) := by decide +kernel
theorem dX4_readChange_115 : decode cX4_readChange 115 = .ok (.istore 4, 2) := by decide +kernel
theorem dX4_readChange_117 : decode cX4_readChange 117 = .ok (.iload 4, 2) := by decide +kernel
theorem dX4_readChange_119 : decode cX4_readChange 119 = .ok (.bipush (-5), 2) := by decide +kernel
theorem dX4_readChange_121 : decode cX4_readChange 121 = .ok (.if_icmp .ne 5, 3) := by decide +kernel
theorem dX4_readChange_124 : decode cX4_readChange 124 = .ok (.iconst 0, 1) := by decide +kernel
theorem dX4_readChange_125 : decode cX4_readChange 125 = .ok (.ireturn, 1) := by decide +kernel
theorem dX4_readChange_126 : decode cX4_readChange 126 = .ok (.aload_n 0, 1) := by decide +kernel
theorem dX4_readChange_127 : decode cX4_readChange 127 = .ok (.iload_n 1, 1) := by decide +kernel
theorem dX4_readChange_128 : decode cX4_readChange 128 = .ok (.iload_n 2, 1) := by decide +kernel
theorem dX4_readChange_129 : decode cX4_readChange 129 = .ok (.iload_n 3, 1) := by decide +kernel
theorem dX4_readChange_130 : decode cX4_readChange 130 = .ok (.ifCond .eq 9, 3) := by decide +kernel
theorem dX4_readChange_133 : decode cX4_readChange 133 = .ok (.iload 4, 2) := by decide +kernel
theorem dX4_readChange_135 : decode cX4_readChange 135 = .ok (.ineg, 1) := by decide +kernel
theorem dX4_readChange_136 : decode cX4_readChange 136 = .ok (.goto 5, 3) := by decide +kernel
theorem dX4_readChange_139 : decode cX4_readChange 139 = .ok (.iload 4, 2) := by decide +kernel
theorem dX4_readChange_141 : decode cX4_readChange 141 = .ok (.invokevirtual 67, 3) := by decide +kernel
theorem dX4_readChange_144 : decode cX4_readChange 144 = .ok (.iconst 1, 1) := by decide +kernel
theorem dX4_readChange_145 : decode cX4_readChange 145 = .ok (.ireturn, 1) := by decide +kernel
theorem dX4_mostBehind_0 : decode cX4_mostBehind 0 = .ok (.iload_n 0, 1) := by decide +kernel
theorem dX4_mostBehind_1 : decode cX4_mostBehind 1 = .ok (.bipush 115, 2) := by decide +kernel
theorem dX4_mostBehind_3 : decode cX4_mostBehind 3 = .ok (.if_icmp .ne 6, 3) := by decide +kernel
theorem dX4_mostBehind_6 : decode cX4_mostBehind 6 = .ok (.bipush 23, 2) := by decide +kernel
theorem dX4_mostBehind_8 : decode cX4_mostBehind 8 = .ok (.ireturn, 1) := by decide +kernel
theorem dX4_mostBehind_9 : decode cX4_mostBehind 9 = .ok (.iload_n 0, 1) := by decide +kernel
theorem dX4_mostBehind_10 : decode cX4_mostBehind 10 = .ok (.bipush 108, 2) := by decide +kernel
theorem dX4_mostBehind_12 : decode cX4_mostBehind 12 = .ok (.if_icmp .ne 8, 3) := by decide +kernel
theorem dX4_mostBehind_15 : decode cX4_mostBehind 15 = .ok (.bipush 9, 2) := by decide +kernel
theorem dX4_mostBehind_17 : decode cX4_mostBehind 17 = .ok (.goto 4, 3) := by decide +kernel
theorem dX4_mostBehind_20 : decode cX4_mostBehind 20 = .ok (.iconst 3, 1) := by decide +kernel
theorem dX4_mostBehind_21 : decode cX4_mostBehind 21 = .ok (.ireturn, 1) := by decide +kernel
theorem dX4_addChange_0 : decode cX4_addChange 0 = .ok (.aload_n 0, 1) := by decide +kernel
theorem dX4_addChange_1 : decode cX4_addChange 1 = .ok (.getfield 32, 3) := by decide +kernel
theorem dX4_addChange_4 : decode cX4_addChange 4 = .ok (.ifCond .lt 52, 3) := by decide +kernel
theorem dX4_addChange_7 : decode cX4_addChange 7 = .ok (.aload_n 0, 1) := by decide +kernel
theorem dX4_addChange_8 : decode cX4_addChange 8 = .ok (.getfield 32, 3) := by decide +kernel
theorem dX4_addChange_11 : decode cX4_addChange 11 = .ok (.bipush 12, 2) := by decide +kernel
theorem dX4_addChange_13 : decode cX4_addChange 13 = .ok (.if_icmp .ge 43, 3) := by decide +kernel
theorem dX4_addChange_16 : decode cX4_addChange 16 = .ok (.aload_n 0, 1) := by decide +kernel
theorem dX4_addChange_17 : decode cX4_addChange 17 = .ok (.getfield 22, 3) := by decide +kernel
theorem dX4_addChange_20 : decode cX4_addChange 20 = .ok (.aload_n 0, 1) := by decide +kernel
theorem dX4_addChange_21 : decode cX4_addChange 21 = .ok (.getfield 32, 3) := by decide +kernel
theorem dX4_addChange_24 : decode cX4_addChange 24 = .ok (.iload_n 1, 1) := by decide +kernel
theorem dX4_addChange_25 : decode cX4_addChange 25 = .ok (.castore, 1) := by decide +kernel
theorem dX4_addChange_26 : decode cX4_addChange 26 = .ok (.aload_n 0, 1) := by decide +kernel
theorem dX4_addChange_27 : decode cX4_addChange 27 = .ok (.getfield 25, 3) := by decide +kernel
theorem dX4_addChange_30 : decode cX4_addChange 30 = .ok (.aload_n 0, 1) := by decide +kernel
theorem dX4_addChange_31 : decode cX4_addChange 31 = .ok (.getfield 32, 3) := by decide +kernel
theorem dX4_addChange_34 : decode cX4_addChange 34 = .ok (.iload_n 2, 1) := by decide +kernel
theorem dX4_addChange_35 : decode cX4_addChange 35 = .ok (.iastore, 1) := by decide +kernel
theorem dX4_addChange_36 : decode cX4_addChange 36 = .ok (.aload_n 0, 1) := by decide +kernel
theorem dX4_addChange_37 : decode cX4_addChange 37 = .ok (.getfield 29, 3) := by decide +kernel
theorem dX4_addChange_40 : decode cX4_addChange 40 = .ok (.aload_n 0, 1) := by decide +kernel
theorem dX4_addChange_41 : decode cX4_addChange 41 = .ok (.getfield 32, 3) := by decide +kernel
theorem dX4_addChange_44 : decode cX4_addChange 44 = .ok (.iload_n 3, 1) := by decide +kernel
theorem dX4_addChange_45 : decode cX4_addChange 45 = .ok (.iastore, 1) := by decide +kernel
theorem dX4_addChange_46 : decode cX4_addChange 46 = .ok (.aload_n 0, 1) := by decide +kernel
theorem dX4_addChange_47 : decode cX4_addChange 47 = .ok (.dup, 1) := by decide +kernel
theorem dX4_addChange_48 : decode cX4_addChange 48 = .ok (.getfield 32, 3) := by decide +kernel
theorem dX4_addChange_51 : decode cX4_addChange 51 = .ok (.iconst 1, 1) := by decide +kernel
theorem dX4_addChange_52 : decode cX4_addChange 52 = .ok (.iadd, 1) := by decide +kernel
theorem dX4_addChange_53 : decode cX4_addChange 53 = .ok (.putfield 32, 3) := by decide +kernel
theorem dX4_addChange_56 : decode cX4_addChange 56 = .ok (.return_, 1) := by decide +kernel
theorem dX4_nextSign_0 : decode cX4_nextSign 0 = .ok (.aload_n 0, 1) := by decide +kernel
theorem dX4_nextSign_1 : decode cX4_nextSign 1 = .ok (.getfield 19, 3) := by decide +kernel
theorem dX4_nextSign_4 : decode cX4_nextSign 4 = .ok (.ifCond .lt 35, 3) := by decide +kernel
theorem dX4_nextSign_7 : decode cX4_nextSign 7 = .ok (.aload_n 0, 1) := by decide +kernel
theorem dX4_nextSign_8 : decode cX4_nextSign 8 = .ok (.getfield 19, 3) := by decide +kernel
theorem dX4_nextSign_11 : decode cX4_nextSign 11 = .ok (.aload_n 0, 1) := by decide +kernel
theorem dX4_nextSign_12 : decode cX4_nextSign 12 = .ok (.getfield 15, 3) := by decide +kernel
theorem dX4_nextSign_15 : decode cX4_nextSign 15 = .ok (.if_icmp .ge 24, 3) := by decide +kernel
theorem dX4_nextSign_18 : decode cX4_nextSign 18 = .ok (.aload_n 0, 1) := by decide +kernel
theorem dX4_nextSign_19 : decode cX4_nextSign 19 = .ok (.getfield 19, 3) := by decide +kernel
theorem dX4_nextSign_22 : decode cX4_nextSign 22 = .ok (.bipush 60, 2) := by decide +kernel
theorem dX4_nextSign_24 : decode cX4_nextSign 24 = .ok (.if_icmp .ge 15, 3) := by decide +kernel
theorem dX4_nextSign_27 : decode cX4_nextSign 27 = .ok (.aload_n 0, 1) := by decide +kernel
theorem dX4_nextSign_28 : decode cX4_nextSign 28 = .ok (.getfield 9, 3) := by decide +kernel
theorem dX4_nextSign_31 : decode cX4_nextSign 31 = .ok (.aload_n 0, 1) := by decide +kernel
theorem dX4_nextSign_32 : decode cX4_nextSign 32 = .ok (.getfield 19, 3) := by decide +kernel
theorem dX4_nextSign_35 : decode cX4_nextSign 35 = .ok (.caload, 1) := by decide +kernel
theorem dX4_nextSign_36 : decode cX4_nextSign 36 = .ok (.goto 4, 3) := by decide +kernel
theorem dX4_nextSign_39 : decode cX4_nextSign 39 = .ok (.iconst 0, 1) := by decide +kernel
theorem dX4_nextSign_40 : decode cX4_nextSign 40 = .ok (.ireturn, 1) := by decide +kernel
theorem dX4_take_0 : decode cX4_take 0 = .ok (.aload_n 0, 1) := by decide +kernel
theorem dX4_take_1 : decode cX4_take 1 = .ok (.invokevirtual 55, 3) := by decide +kernel
theorem dX4_take_4 : decode cX4_take 4 = .ok (.iload_n 1, 1) := by decide +kernel
theorem dX4_take_5 : decode cX4_take 5 = .ok (.if_icmp .eq 5, 3) := by decide +kernel
theorem dX4_take_8 : decode cX4_take 8 = .ok (.iconst 0, 1) := by decide +kernel
theorem dX4_take_9 : decode cX4_take 9 = .ok (.ireturn, 1) := by decide +kernel
theorem dX4_take_10 : decode cX4_take 10 = .ok (.aload_n 0, 1) := by decide +kernel
theorem dX4_take_11 : decode cX4_take 11 = .ok (.dup, 1) := by decide +kernel
theorem dX4_take_12 : decode cX4_take 12 = .ok (.getfield 19, 3) := by decide +kernel
theorem dX4_take_15 : decode cX4_take 15 = .ok (.iconst 1, 1) := by decide +kernel
theorem dX4_take_16 : decode cX4_take 16 = .ok (.iadd, 1) := by decide +kernel
theorem dX4_take_17 : decode cX4_take 17 = .ok (.putfield 19, 3) := by decide +kernel
theorem dX4_take_20 : decode cX4_take 20 = .ok (.iconst 1, 1) := by decide +kernel
theorem dX4_take_21 : decode cX4_take 21 = .ok (.ireturn, 1) := by decide +kernel
theorem dX4_readNumber_0 : decode cX4_readNumber 0 = .ok (.aload_n 0, 1) := by decide +kernel
theorem dX4_readNumber_1 : decode cX4_readNumber 1 = .ok (.invokevirtual 71, 3) := by decide +kernel
theorem dX4_readNumber_4 : decode cX4_readNumber 4 = .ok (.istore_n 3, 1) := by decide +kernel
theorem dX4_readNumber_5 : decode cX4_readNumber 5 = .ok (.iload_n 3, 1) := by decide +kernel
theorem dX4_readNumber_6 : decode cX4_readNumber 6 = .ok (.bipush (-5), 2) := by decide +kernel
theorem dX4_readNumber_8 : decode cX4_readNumber 8 = .ok (.if_icmp .eq 13, 3) := by decide +kernel
theorem dX4_readNumber_11 : decode cX4_readNumber 11 = .ok (.iload_n 3, 1) := by decide +kernel
theorem dX4_readNumber_12 : decode cX4_readNumber 12 = .ok (.iload_n 1, 1) := by decide +kernel
theorem dX4_readNumber_13 : decode cX4_readNumber 13 = .ok (.if_icmp .lt 8, 3) := by decide +kernel
theorem dX4_readNumber_16 : decode cX4_readNumber 16 = .ok (.iload_n 3, 1) := by decide +kernel
theorem dX4_readNumber_17 : decode cX4_readNumber 17 = .ok (.iload_n 2, 1) := by decide +kernel
theorem dX4_readNumber_18 : decode cX4_readNumber 18 = .ok (.if_icmp .le 6, 3) := by decide +kernel
theorem dX4_readNumber_21 : decode cX4_readNumber 21 = .ok (.bipush (-5), 2) := by decide +kernel
theorem dX4_readNumber_23 : decode cX4_readNumber 23 = .ok (.ireturn, 1) := by decide +kernel
theorem dX4_readNumber_24 : decode cX4_readNumber 24 = .ok (.aload_n 0, 1) := by decide +kernel
theorem dX4_readNumber_25 : decode cX4_readNumber 25 = .ok (.dup, 1) := by decide +kernel
theorem dX4_readNumber_26 : decode cX4_readNumber 26 = .ok (.getfield 19, 3) := by decide +kernel
theorem dX4_readNumber_29 : decode cX4_readNumber 29 = .ok (.iconst 1, 1) := by decide +kernel
theorem dX4_readNumber_30 : decode cX4_readNumber 30 = .ok (.iadd, 1) := by decide +kernel
theorem dX4_readNumber_31 : decode cX4_readNumber 31 = .ok (.putfield 19, 3) := by decide +kernel
theorem dX4_readNumber_34 : decode cX4_readNumber 34 = .ok (.aload_n 0, 1) := by decide +kernel
theorem dX4_readNumber_35 : decode cX4_readNumber 35 = .ok (.invokevirtual 71, 3) := by decide +kernel
theorem dX4_readNumber_38 : decode cX4_readNumber 38 = .ok (.istore 4, 2) := by decide +kernel
theorem dX4_readNumber_40 : decode cX4_readNumber 40 = .ok (.iload_n 3, 1) := by decide +kernel
theorem dX4_readNumber_41 : decode cX4_readNumber 41 = .ok (.ifCond .eq 21, 3) := by decide +kernel
theorem dX4_readNumber_44 : decode cX4_readNumber 44 = .ok (.iload 4, 2) := by decide +kernel
theorem dX4_readNumber_46 : decode cX4_readNumber 46 = .ok (.bipush (-5), 2) := by decide +kernel
theorem dX4_readNumber_48 : decode cX4_readNumber 48 = .ok (.if_icmp .eq 14, 3) := by decide +kernel
theorem dX4_readNumber_51 : decode cX4_readNumber 51 = .ok (.bipush 10, 2) := by decide +kernel
theorem dX4_readNumber_53 : decode cX4_readNumber 53 = .ok (.iload_n 3, 1) := by decide +kernel
theorem dX4_readNumber_54 : decode cX4_readNumber 54 = .ok (.imul, 1) := by decide +kernel
theorem dX4_readNumber_55 : decode cX4_readNumber 55 = .ok (.iload 4, 2) := by decide +kernel
theorem dX4_readNumber_57 : decode cX4_readNumber 57 = .ok (.iadd, 1) := by decide +kernel
theorem dX4_readNumber_58 : decode cX4_readNumber 58 = .ok (.iload_n 2, 1) := by decide +kernel
theorem dX4_readNumber_59 : decode cX4_readNumber 59 = .ok (.if_icmp .le 5, 3) := by decide +kernel
theorem dX4_readNumber_62 : decode cX4_readNumber 62 = .ok (.iload_n 3, 1) := by decide +kernel
theorem dX4_readNumber_63 : decode cX4_readNumber 63 = .ok (.ireturn, 1) := by decide +kernel
theorem dX4_readNumber_64 : decode cX4_readNumber 64 = .ok (.aload_n 0, 1) := by decide +kernel
theorem dX4_readNumber_65 : decode cX4_readNumber 65 = .ok (.dup, 1) := by decide +kernel
theorem dX4_readNumber_66 : decode cX4_readNumber 66 = .ok (.getfield 19, 3) := by decide +kernel
theorem dX4_readNumber_69 : decode cX4_readNumber 69 = .ok (.iconst 1, 1) := by decide +kernel
theorem dX4_readNumber_70 : decode cX4_readNumber 70 = .ok (.iadd, 1) := by decide +kernel
theorem dX4_readNumber_71 : decode cX4_readNumber 71 = .ok (.putfield 19, 3) := by decide +kernel
theorem dX4_readNumber_74 : decode cX4_readNumber 74 = .ok (.bipush 10, 2) := by decide +kernel
theorem dX4_readNumber_76 : decode cX4_readNumber 76 = .ok (.iload_n 3, 1) := by decide +kernel
theorem dX4_readNumber_77 : decode cX4_readNumber 77 = .ok (.imul, 1) := by decide +kernel
theorem dX4_readNumber_78 : decode cX4_readNumber 78 = .ok (.iload 4, 2) := by decide +kernel
theorem dX4_readNumber_80 : decode cX4_readNumber 80 = .ok (.iadd, 1) := by decide +kernel
theorem dX4_readNumber_81 : decode cX4_readNumber 81 = .ok (.ireturn, 1) := by decide +kernel
theorem dX4_nextDigit_0 : decode cX4_nextDigit 0 = .ok (.aload_n 0, 1) := by decide +kernel
theorem dX4_nextDigit_1 : decode cX4_nextDigit 1 = .ok (.invokevirtual 55, 3) := by decide +kernel
theorem dX4_nextDigit_4 : decode cX4_nextDigit 4 = .ok (.istore_n 1, 1) := by decide +kernel
theorem dX4_nextDigit_5 : decode cX4_nextDigit 5 = .ok (.iload_n 1, 1) := by decide +kernel
theorem dX4_nextDigit_6 : decode cX4_nextDigit 6 = .ok (.bipush 48, 2) := by decide +kernel
theorem dX4_nextDigit_8 : decode cX4_nextDigit 8 = .ok (.if_icmp .lt 16, 3) := by decide +kernel
theorem dX4_nextDigit_11 : decode cX4_nextDigit 11 = .ok (.iload_n 1, 1) := by decide +kernel
theorem dX4_nextDigit_12 : decode cX4_nextDigit 12 = .ok (.bipush 57, 2) := by decide +kernel
theorem dX4_nextDigit_14 : decode cX4_nextDigit 14 = .ok (.if_icmp .gt 10, 3) := by decide +kernel
theorem dX4_nextDigit_17 : decode cX4_nextDigit 17 = .ok (.iload_n 1, 1) := by decide +kernel
theorem dX4_nextDigit_18 : decode cX4_nextDigit 18 = .ok (.bipush 48, 2) := by decide +kernel
theorem dX4_nextDigit_20 : decode cX4_nextDigit 20 = .ok (.isub, 1) := by decide +kernel
theorem dX4_nextDigit_21 : decode cX4_nextDigit 21 = .ok (.goto 5, 3) := by decide +kernel
theorem dX4_nextDigit_24 : decode cX4_nextDigit 24 = .ok (.bipush (-5), 2) := by decide +kernel
theorem dX4_nextDigit_26 : decode cX4_nextDigit 26 = .ok (.ireturn, 1) := by decide +kernel
theorem dX5_init_0 : decode cX5_init 0 = .ok (.aload_n 0, 1) := by decide +kernel
theorem dX5_init_1 : decode cX5_init 1 = .ok (.invokespecial 1, 3) := by decide +kernel
theorem dX5_init_4 : decode cX5_init 4 = .ok (.aload_n 0, 1) := by decide +kernel
theorem dX5_init_5 : decode cX5_init 5 = .ok (.new 7, 3) := by decide +kernel
theorem dX5_init_8 : decode cX5_init 8 = .ok (.dup, 1) := by decide +kernel
theorem dX5_init_9 : decode cX5_init 9 = .ok (.invokespecial 9, 3) := by decide +kernel
theorem dX5_init_12 : decode cX5_init 12 = .ok (.putfield 10, 3) := by decide +kernel
theorem dX5_init_15 : decode cX5_init 15 = .ok (.aload_n 0, 1) := by decide +kernel
theorem dX5_init_16 : decode cX5_init 16 = .ok (.new 7, 3) := by decide +kernel
theorem dX5_init_19 : decode cX5_init 19 = .ok (.dup, 1) := by decide +kernel
theorem dX5_init_20 : decode cX5_init 20 = .ok (.invokespecial 9, 3) := by decide +kernel
theorem dX5_init_23 : decode cX5_init 23 = .ok (.putfield 16, 3) := by decide +kernel
theorem dX5_init_26 : decode cX5_init 26 = .ok (.aload_n 0, 1) := by decide +kernel
theorem dX5_init_27 : decode cX5_init 27 = .ok (.new 19, 3) := by decide +kernel
theorem dX5_init_30 : decode cX5_init 30 = .ok (.dup, 1) := by decide +kernel
theorem dX5_init_31 : decode cX5_init 31 = .ok (.invokespecial 21, 3) := by decide +kernel
theorem dX5_init_34 : decode cX5_init 34 = .ok (.putfield 22, 3) := by decide +kernel
theorem dX5_init_37 : decode cX5_init 37 = .ok (.aload_n 0, 1) := by decide +kernel
theorem dX5_init_38 : decode cX5_init 38 = .ok (.new 26, 3) := by decide +kernel
theorem dX5_init_41 : decode cX5_init 41 = .ok (.dup, 1) := by decide +kernel
theorem dX5_init_42 : decode cX5_init 42 = .ok (.invokespecial 28, 3) := by decide +kernel
theorem dX5_init_45 : decode cX5_init 45 = .ok (.putfield 29, 3) := by decide +kernel
theorem dX5_init_48 : decode cX5_init 48 = .ok (.aload_n 0, 1) := by decide +kernel
theorem dX5_init_49 : decode cX5_init 49 = .ok (.bipush 24, 2) := by decide +kernel
theorem dX5_init_51 : decode cX5_init 51 = .ok (.newarray .int, 2) := by decide +kernel
theorem dX5_init_53 : decode cX5_init 53 = .ok (.putfield 33, 3) := by decide +kernel
theorem dX5_init_56 : decode cX5_init 56 = .ok (.aload_n 0, 1) := by decide +kernel
theorem dX5_init_57 : decode cX5_init 57 = .ok (.iconst 0, 1) := by decide +kernel
theorem dX5_init_58 : decode cX5_init 58 = .ok (.putfield 37, 3) := by decide +kernel
theorem dX5_init_61 : decode cX5_init 61 = .ok (.return_, 1) := by decide +kernel
theorem dX5_swap_0 : decode cX5_swap 0 = .ok (.iload_n 1, 1) := by decide +kernel
theorem dX5_swap_1 : decode cX5_swap 1 = .ok (.invokestatic 41, 3) := by decide +kernel
theorem dX5_swap_4 : decode cX5_swap 4 = .ok (.ifCond .eq 10, 3) := by decide +kernel
theorem dX5_swap_7 : decode cX5_swap 7 = .ok (.iload_n 2, 1) := by decide +kernel
theorem dX5_swap_8 : decode cX5_swap 8 = .ok (.invokestatic 41, 3) := by decide +kernel
theorem dX5_swap_11 : decode cX5_swap 11 = .ok (.ifCond .ne 5, 3) := by decide +kernel
theorem dX5_swap_14 : decode cX5_swap 14 = .ok (.iconst (-1), 1) := by decide +kernel
theorem dX5_swap_15 : decode cX5_swap 15 = .ok (.ireturn, 1) := by decide +kernel
theorem dX5_swap_16 : decode cX5_swap 16 = .ok (.iload_n 1, 1) := by decide +kernel
theorem dX5_swap_17 : decode cX5_swap 17 = .ok (.iload_n 2, 1) := by decide +kernel
theorem dX5_swap_18 : decode cX5_swap 18 = .ok (.if_icmp .ne 6, 3) := by decide +kernel
theorem dX5_swap_21 : decode cX5_swap 21 = .ok (.bipush (-5), 2) := by decide +kernel
theorem dX5_swap_23 : decode cX5_swap 23 = .ok (.ireturn, 1) := by decide +kernel
theorem dX5_swap_24 : decode cX5_swap 24 = .ok (.aload_n 0, 1) := by decide +kernel
theorem dX5_swap_25 : decode cX5_swap 25 = .ok (.getfield 22, 3) := by decide +kernel
theorem dX5_swap_28 : decode cX5_swap 28 = .ok (.aload_n 0, 1) := by decide +kernel
theorem dX5_swap_29 : decode cX5_swap 29 = .ok (.getfield 10, 3) := by decide +kernel
theorem dX5_swap_32 : decode cX5_swap 32 = .ok (.invokevirtual 45, 3) := by decide +kernel
theorem dX5_swap_35 : decode cX5_swap 35 = .ok (.aload_n 0, 1) := by decide +kernel
theorem dX5_swap_36 : decode cX5_swap 36 = .ok (.getfield 10, 3) := by decide +kernel
theorem dX5_swap_39 : decode cX5_swap 39 = .ok (.iload_n 1, 1) := by decide +kernel
theorem dX5_swap_40 : decode cX5_swap 40 = .ok (.iload_n 2, 1) := by decide +kernel
theorem dX5_swap_41 : decode cX5_swap 41 = .ok (.invokevirtual 49, 3) := by decide +kernel
theorem dX5_swap_44 : decode cX5_swap 44 = .ok (.aload_n 0, 1) := by decide +kernel
theorem dX5_swap_45 : decode cX5_swap 45 = .ok (.getfield 10, 3) := by decide +kernel
theorem dX5_swap_48 : decode cX5_swap 48 = .ok (.getfield 53, 3) := by decide +kernel
theorem dX5_swap_51 : decode cX5_swap 51 = .ok (.iload_n 1, 1) := by decide +kernel
theorem dX5_swap_52 : decode cX5_swap 52 = .ok (.invokestatic 56, 3) := by decide +kernel
theorem dX5_swap_55 : decode cX5_swap 55 = .ok (.ireturn, 1) := by decide +kernel
theorem dX5_mark_0 : decode cX5_mark 0 = .ok (.iload_n 1, 1) := by decide +kernel
theorem dX5_mark_1 : decode cX5_mark 1 = .ok (.invokestatic 41, 3) := by decide +kernel
theorem dX5_mark_4 : decode cX5_mark 4 = .ok (.ifCond .eq 10, 3) := by decide +kernel
theorem dX5_mark_7 : decode cX5_mark 7 = .ok (.iload_n 2, 1) := by decide +kernel
theorem dX5_mark_8 : decode cX5_mark 8 = .ok (.invokestatic 60, 3) := by decide +kernel
theorem dX5_mark_11 : decode cX5_mark 11 = .ok (.ifCond .ne 5, 3) := by decide +kernel
theorem dX5_mark_14 : decode cX5_mark 14 = .ok (.iconst (-1), 1) := by decide +kernel
theorem dX5_mark_15 : decode cX5_mark 15 = .ok (.ireturn, 1) := by decide +kernel
theorem dX5_mark_16 : decode cX5_mark 16 = .ok (.aload_n 0, 1) := by decide +kernel
theorem dX5_mark_17 : decode cX5_mark 17 = .ok (.getfield 10, 3) := by decide +kernel
theorem dX5_mark_20 : decode cX5_mark 20 = .ok (.iload_n 1, 1) := by decide +kernel
theorem dX5_mark_21 : decode cX5_mark 21 = .ok (.iload_n 2, 1) := by decide +kernel
theorem dX5_mark_22 : decode cX5_mark 22 = .ok (.invokevirtual 63, 3) := by decide +kernel
theorem dX5_mark_25 : decode cX5_mark 25 = .ok (.iload_n 3, 1) := by decide +kernel
theorem dX5_mark_26 : decode cX5_mark 26 = .ok (.if_icmp .ne 6, 3) := by decide +kernel
theorem dX5_mark_29 : decode cX5_mark 29 = .ok (.bipush (-5), 2) := by decide +kernel
theorem dX5_mark_31 : decode cX5_mark 31 = .ok (.ireturn, 1) := by decide +kernel
theorem dX5_mark_32 : decode cX5_mark 32 = .ok (.aload_n 0, 1) := by decide +kernel
theorem dX5_mark_33 : decode cX5_mark 33 = .ok (.getfield 22, 3) := by decide +kernel
theorem dX5_mark_36 : decode cX5_mark 36 = .ok (.aload_n 0, 1) := by decide +kernel
theorem dX5_mark_37 : decode cX5_mark 37 = .ok (.getfield 10, 3) := by decide +kernel
theorem dX5_mark_40 : decode cX5_mark 40 = .ok (.invokevirtual 45, 3) := by decide +kernel
theorem dX5_mark_43 : decode cX5_mark 43 = .ok (.aload_n 0, 1) := by decide +kernel
theorem dX5_mark_44 : decode cX5_mark 44 = .ok (.getfield 10, 3) := by decide +kernel
theorem dX5_mark_47 : decode cX5_mark 47 = .ok (.iload_n 1, 1) := by decide +kernel
theorem dX5_mark_48 : decode cX5_mark 48 = .ok (.iload_n 2, 1) := by decide +kernel
theorem dX5_mark_49 : decode cX5_mark 49 = .ok (.iload_n 3, 1) := by decide +kernel
theorem dX5_mark_50 : decode cX5_mark 50 = .ok (.invokevirtual 67, 3) := by decide +kernel
theorem dX5_mark_53 : decode cX5_mark 53 = .ok (.aload_n 0, 1) := by decide +kernel
theorem dX5_mark_54 : decode cX5_mark 54 = .ok (.getfield 10, 3) := by decide +kernel
theorem dX5_mark_57 : decode cX5_mark 57 = .ok (.getfield 71, 3) := by decide +kernel
theorem dX5_mark_60 : decode cX5_mark 60 = .ok (.iload_n 1, 1) := by decide +kernel
theorem dX5_mark_61 : decode cX5_mark 61 = .ok (.invokestatic 56, 3) := by decide +kernel
theorem dX5_mark_64 : decode cX5_mark 64 = .ok (.ireturn, 1) := by decide +kernel
theorem dX5_lean_0 : decode cX5_lean 0 = .ok (.iload_n 1, 1) := by decide +kernel
theorem dX5_lean_1 : decode cX5_lean 1 = .ok (.invokestatic 74, 3) := by decide +kernel
theorem dX5_lean_4 : decode cX5_lean 4 = .ok (.ifCond .ne 5, 3) := by decide +kernel
theorem dX5_lean_7 : decode cX5_lean 7 = .ok (.iconst (-1), 1) := by decide +kernel
theorem dX5_lean_8 : decode cX5_lean 8 = .ok (.ireturn, 1) := by decide +kernel
theorem dX5_lean_9 : decode cX5_lean 9 = .ok (.iload_n 2, 1) := by decide +kernel
theorem dX5_lean_10 : decode cX5_lean 10 = .ok (.bipush (-9), 2) := by decide +kernel
theorem dX5_lean_12 : decode cX5_lean 12 = .ok (.if_icmp .lt 9, 3) := by decide +kernel
theorem dX5_lean_15 : decode cX5_lean 15 = .ok (.iload_n 2, 1) := by decide +kernel
theorem dX5_lean_16 : decode cX5_lean 16 = .ok (.bipush 9, 2) := by decide +kernel
theorem dX5_lean_18 : decode cX5_lean 18 = .ok (.if_icmp .le 6, 3) := by decide +kernel
theorem dX5_lean_21 : decode cX5_lean 21 = .ok (.bipush (-2), 2) := by decide +kernel
theorem dX5_lean_23 : decode cX5_lean 23 = .ok (.ireturn, 1) := by decide +kernel
theorem dX5_lean_24 : decode cX5_lean 24 = .ok (.iload_n 1, 1) := by decide +kernel
theorem dX5_lean_25 : decode cX5_lean 25 = .ok (.invokestatic 77, 3) := by decide +kernel
theorem dX5_lean_28 : decode cX5_lean 28 = .ok (.ifCond .ne 6, 3) := by decide +kernel
theorem dX5_lean_31 : decode cX5_lean 31 = .ok (.bipush (-4), 2) := by decide +kernel
theorem dX5_lean_33 : decode cX5_lean 33 = .ok (.ireturn, 1) := by decide +kernel
theorem dX5_lean_34 : decode cX5_lean 34 = .ok (.aload_n 0, 1) := by decide +kernel
theorem dX5_lean_35 : decode cX5_lean 35 = .ok (.getfield 10, 3) := by decide +kernel
theorem dX5_lean_38 : decode cX5_lean 38 = .ok (.getfield 80, 3) := by decide +kernel
theorem dX5_lean_41 : decode cX5_lean 41 = .ok (.iload_n 1, 1) := by decide +kernel
theorem dX5_lean_42 : decode cX5_lean 42 = .ok (.invokestatic 56, 3) := by decide +kernel
theorem dX5_lean_45 : decode cX5_lean 45 = .ok (.istore_n 3, 1) := by decide +kernel
theorem dX5_lean_46 : decode cX5_lean 46 = .ok (.iload_n 3, 1) := by decide +kernel
theorem dX5_lean_47 : decode cX5_lean 47 = .ok (.iload_n 2, 1) := by decide +kernel
theorem dX5_lean_48 : decode cX5_lean 48 = .ok (.if_icmp .ne 6, 3) := by decide +kernel
theorem dX5_lean_51 : decode cX5_lean 51 = .ok (.bipush (-5), 2) := by decide +kernel
theorem dX5_lean_53 : decode cX5_lean 53 = .ok (.ireturn, 1) := by decide +kernel
theorem dX5_lean_54 : decode cX5_lean 54 = .ok (.aload_n 0, 1) := by decide +kernel
theorem dX5_lean_55 : decode cX5_lean 55 = .ok (.getfield 22, 3) := by decide +kernel
theorem dX5_lean_58 : decode cX5_lean 58 = .ok (.aload_n 0, 1) := by decide +kernel
theorem dX5_lean_59 : decode cX5_lean 59 = .ok (.getfield 10, 3) := by decide +kernel
theorem dX5_lean_62 : decode cX5_lean 62 = .ok (.invokevirtual 45, 3) := by decide +kernel
theorem dX5_lean_65 : decode cX5_lean 65 = .ok (.aload_n 0, 1) := by decide +kernel
theorem dX5_lean_66 : decode cX5_lean 66 = .ok (.getfield 10, 3) := by decide +kernel
theorem dX5_lean_69 : decode cX5_lean 69 = .ok (.getfield 80, 3) := by decide +kernel
theorem dX5_lean_72 : decode cX5_lean 72 = .ok (.iload_n 1, 1) := by decide +kernel
theorem dX5_lean_73 : decode cX5_lean 73 = .ok (.iload_n 2, 1) := by decide +kernel
theorem dX5_lean_74 : decode cX5_lean 74 = .ok (.invokestatic 83, 3) := by decide +kernel
theorem dX5_lean_77 : decode cX5_lean 77 = .ok (.iload_n 3, 1) := by decide +kernel
theorem dX5_lean_78 : decode cX5_lean 78 = .ok (.bipush 100, 2) := by decide +kernel
theorem dX5_lean_80 : decode cX5_lean 80 = .ok (.iadd, 1) := by decide +kernel
theorem dX5_lean_81 : decode cX5_lean 81 = .ok (.ireturn, 1) := by decide +kernel
theorem dX5_changeAll_0 : decode cX5_changeAll 0 = .ok (.aload_n 0, 1) := by decide +kernel
theorem dX5_changeAll_1 : decode cX5_changeAll 1 = .ok (.getfield 29, 3) := by decide +kernel
theorem dX5_changeAll_4 : decode cX5_changeAll 4 = .ok (.invokevirtual 87, 3) := by decide +kernel
theorem dX5_changeAll_7 : decode cX5_changeAll 7 = .ok (.istore_n 1, 1) := by decide +kernel
theorem dX5_changeAll_8 : decode cX5_changeAll 8 = .ok (.iload_n 1, 1) := by decide +kernel
theorem dX5_changeAll_9 : decode cX5_changeAll 9 = .ok (.bipush (-5), 2) := by decide +kernel
theorem dX5_changeAll_11 : decode cX5_changeAll 11 = .ok (.if_icmp .eq 8, 3) := by decide +kernel
theorem dX5_changeAll_14 : decode cX5_changeAll 14 = .ok (.bipush (-100), 2) := by decide +kernel
theorem dX5_changeAll_16 : decode cX5_changeAll 16 = .ok (.iload_n 1, 1) := by decide +kernel
theorem dX5_changeAll_17 : decode cX5_changeAll 17 = .ok (.isub, 1) := by decide +kernel
theorem dX5_changeAll_18 : decode cX5_changeAll 18 = .ok (.ireturn, 1) := by decide +kernel
theorem dX5_changeAll_19 : decode cX5_changeAll 19 = .ok (.aload_n 0, 1) := by decide +kernel
theorem dX5_changeAll_20 : decode cX5_changeAll 20 = .ok (.getfield 29, 3) := by decide +kernel
theorem dX5_changeAll_23 : decode cX5_changeAll 23 = .ok (.invokevirtual 91, 3) := by decide +kernel
theorem dX5_changeAll_26 : decode cX5_changeAll 26 = .ok (.ifCond .eq 6, 3) := by decide +kernel
theorem dX5_changeAll_29 : decode cX5_changeAll 29 = .ok (.bipush (-4), 2) := by decide +kernel
theorem dX5_changeAll_31 : decode cX5_changeAll 31 = .ok (.ireturn, 1) := by decide +kernel
theorem dX5_changeAll_32 : decode cX5_changeAll 32 = .ok (.aload_n 0, 1) := by decide +kernel
theorem dX5_changeAll_33 : decode cX5_changeAll 33 = .ok (.getfield 22, 3) := by decide +kernel
theorem dX5_changeAll_36 : decode cX5_changeAll 36 = .ok (.aload_n 0, 1) := by decide +kernel
theorem dX5_changeAll_37 : decode cX5_changeAll 37 = .ok (.getfield 10, 3) := by decide +kernel
theorem dX5_changeAll_40 : decode cX5_changeAll 40 = .ok (.invokevirtual 45, 3) := by decide +kernel
theorem dX5_changeAll_43 : decode cX5_changeAll 43 = .ok (.iconst 0, 1) := by decide +kernel
theorem dX5_changeAll_44 : decode cX5_changeAll 44 = .ok (.istore_n 2, 1) := by decide +kernel
theorem dX5_changeAll_45 : decode cX5_changeAll 45 = .ok (.iload_n 2, 1) := by decide +kernel
theorem dX5_changeAll_46 : decode cX5_changeAll 46 = .ok (.aload_n 0, 1) := by decide +kernel
theorem dX5_changeAll_47 : decode cX5_changeAll 47 = .ok (.getfield 29, 3) := by decide +kernel
theorem dX5_changeAll_50 : decode cX5_changeAll 50 = .ok (.getfield 95, 3) := by decide +kernel
theorem dX5_changeAll_53 : decode cX5_changeAll 53 = .ok (.if_icmp .ge 43, 3) := by decide +kernel
theorem dX5_changeAll_56 : decode cX5_changeAll 56 = .ok (.aload_n 0, 1) := by decide +kernel
theorem dX5_changeAll_57 : decode cX5_changeAll 57 = .ok (.aload_n 0, 1) := by decide +kernel
theorem dX5_changeAll_58 : decode cX5_changeAll 58 = .ok (.getfield 29, 3) := by decide +kernel
theorem dX5_changeAll_61 : decode cX5_changeAll 61 = .ok (.iload_n 2, 1) := by decide +kernel
theorem dX5_changeAll_62 : decode cX5_changeAll 62 = .ok (.invokevirtual 99, 3) := by decide +kernel
theorem dX5_changeAll_65 : decode cX5_changeAll 65 = .ok (.aload_n 0, 1) := by decide +kernel
theorem dX5_changeAll_66 : decode cX5_changeAll 66 = .ok (.getfield 29, 3) := by decide +kernel
theorem dX5_changeAll_69 : decode cX5_changeAll 69 = .ok (.getfield 103, 3) := by decide +kernel
theorem dX5_changeAll_72 : decode cX5_changeAll 72 = .ok (.iload_n 2, 1) := by decide +kernel
theorem dX5_changeAll_73 : decode cX5_changeAll 73 = .ok (.invokestatic 56, 3) := by decide +kernel
theorem dX5_changeAll_76 : decode cX5_changeAll 76 = .ok (.aload_n 0, 1) := by decide +kernel
theorem dX5_changeAll_77 : decode cX5_changeAll 77 = .ok (.getfield 29, 3) := by decide +kernel
theorem dX5_changeAll_80 : decode cX5_changeAll 80 = .ok (.getfield 106, 3) := by decide +kernel
theorem dX5_changeAll_83 : decode cX5_changeAll 83 = .ok (.iload_n 2, 1) := by decide +kernel
theorem dX5_changeAll_84 : decode cX5_changeAll 84 = .ok (.invokestatic 56, 3) := by decide +kernel
theorem dX5_changeAll_87 : decode cX5_changeAll 87 = .ok (.invokevirtual 109, 3) := by decide +kernel
theorem dX5_changeAll_90 : decode cX5_changeAll 90 = .ok (.iinc 2 1, 3) := by decide +kernel
theorem dX5_changeAll_93 : decode cX5_changeAll 93 = .ok (.goto (-48), 3) := by decide +kernel
theorem dX5_changeAll_96 : decode cX5_changeAll 96 = .ok (.aload_n 0, 1) := by decide +kernel
theorem dX5_changeAll_97 : decode cX5_changeAll 97 = .ok (.getfield 29, 3) := by decide +kernel
theorem dX5_changeAll_100 : decode cX5_changeAll 100 = .ok (.getfield 95, 3) := by decide +kernel
theorem dX5_changeAll_103 : decode cX5_changeAll 103 = .ok (.ireturn, 1) := by decide +kernel
theorem dX5_set_0 : decode cX5_set 0 = .ok (.iload_n 1, 1) := by decide +kernel
theorem dX5_set_1 : decode cX5_set 1 = .ok (.ifCond .lt 8, 3) := by decide +kernel
theorem dX5_set_4 : decode cX5_set 4 = .ok (.iload_n 1, 1) := by decide +kernel
theorem dX5_set_5 : decode cX5_set 5 = .ok (.iconst 4, 1) := by decide +kernel
theorem dX5_set_6 : decode cX5_set 6 = .ok (.if_icmp .lt 6, 3) := by decide +kernel
theorem dX5_set_9 : decode cX5_set 9 = .ok (.bipush (-2), 2) := by decide +kernel
theorem dX5_set_11 : decode cX5_set 11 = .ok (.ireturn, 1) := by decide +kernel
theorem dX5_set_12 : decode cX5_set 12 = .ok (.iload_n 2, 1) := by decide +kernel
theorem dX5_set_13 : decode cX5_set 13 = .ok (.getstatic 113, 3) := by decide +kernel
theorem dX5_set_16 : decode cX5_set 16 = .ok (.iload_n 1, 1) := by decide +kernel
theorem dX5_set_17 : decode cX5_set 17 = .ok (.invokestatic 56, 3) := by decide +kernel
theorem dX5_set_20 : decode cX5_set 20 = .ok (.if_icmp .lt 14, 3) := by decide +kernel
theorem dX5_set_23 : decode cX5_set 23 = .ok (.iload_n 2, 1) := by decide +kernel
theorem dX5_set_24 : decode cX5_set 24 = .ok (.getstatic 116, 3) := by decide +kernel
theorem dX5_set_27 : decode cX5_set 27 = .ok (.iload_n 1, 1) := by decide +kernel
theorem dX5_set_28 : decode cX5_set 28 = .ok (.invokestatic 56, 3) := by decide +kernel
theorem dX5_set_31 : decode cX5_set 31 = .ok (.if_icmp .le 6, 3) := by decide +kernel
theorem dX5_set_34 : decode cX5_set 34 = .ok (.bipush (-2), 2) := by decide +kernel
theorem dX5_set_36 : decode cX5_set 36 = .ok (.ireturn, 1) := by decide +kernel
theorem dX5_set_37 : decode cX5_set 37 = .ok (.aload_n 0, 1) := by decide +kernel
theorem dX5_set_38 : decode cX5_set 38 = .ok (.getfield 10, 3) := by decide +kernel
theorem dX5_set_41 : decode cX5_set 41 = .ok (.getfield 119, 3) := by decide +kernel
theorem dX5_set_44 : decode cX5_set 44 = .ok (.iload_n 1, 1) := by decide +kernel
theorem dX5_set_45 : decode cX5_set 45 = .ok (.invokestatic 56, 3) := by decide +kernel
theorem dX5_set_48 : decode cX5_set 48 = .ok (.istore_n 3, 1) := by decide +kernel
theorem dX5_set_49 : decode cX5_set 49 = .ok (.iload_n 3, 1) := by decide +kernel
theorem dX5_set_50 : decode cX5_set 50 = .ok (.iload_n 2, 1) := by decide +kernel
theorem dX5_set_51 : decode cX5_set 51 = .ok (.if_icmp .ne 6, 3) := by decide +kernel
theorem dX5_set_54 : decode cX5_set 54 = .ok (.bipush (-5), 2) := by decide +kernel
theorem dX5_set_56 : decode cX5_set 56 = .ok (.ireturn, 1) := by decide +kernel
theorem dX5_set_57 : decode cX5_set 57 = .ok (.aload_n 0, 1) := by decide +kernel
theorem dX5_set_58 : decode cX5_set 58 = .ok (.getfield 22, 3) := by decide +kernel
theorem dX5_set_61 : decode cX5_set 61 = .ok (.aload_n 0, 1) := by decide +kernel
theorem dX5_set_62 : decode cX5_set 62 = .ok (.getfield 10, 3) := by decide +kernel
theorem dX5_set_65 : decode cX5_set 65 = .ok (.invokevirtual 45, 3) := by decide +kernel
theorem dX5_set_68 : decode cX5_set 68 = .ok (.aload_n 0, 1) := by decide +kernel
theorem dX5_set_69 : decode cX5_set 69 = .ok (.getfield 10, 3) := by decide +kernel
theorem dX5_set_72 : decode cX5_set 72 = .ok (.getfield 119, 3) := by decide +kernel
theorem dX5_set_75 : decode cX5_set 75 = .ok (.iload_n 1, 1) := by decide +kernel
theorem dX5_set_76 : decode cX5_set 76 = .ok (.iload_n 2, 1) := by decide +kernel
theorem dX5_set_77 : decode cX5_set 77 = .ok (.invokestatic 83, 3) := by decide +kernel
theorem dX5_set_80 : decode cX5_set 80 = .ok (.iload_n 3, 1) := by decide +kernel
theorem dX5_set_81 : decode cX5_set 81 = .ok (.ireturn, 1) := by decide +kernel
theorem dX5_print_0 : decode cX5_print 0 = .ok (.aload_n 0, 1) := by decide +kernel
theorem dX5_print_1 : decode cX5_print 1 = .ok (.getfield 10, 3) := by decide +kernel
theorem dX5_print_4 : decode cX5_print 4 = .ok (.getfield 122, 3) := by decide +kernel
theorem dX5_print_7 : decode cX5_print 7 = .ok (.bipush 6, 2) := by decide +kernel
theorem dX5_print_9 : decode cX5_print 9 = .ok (.if_icmp .lt 6, 3) := by decide +kernel
theorem dX5_print_12 : decode cX5_print 12 = .ok (.bipush (-3), 2) := by decide +kernel
theorem dX5_print_14 : decode cX5_print 14 = .ok (.ireturn, 1) := by decide +kernel
theorem dX5_print_15 : decode cX5_print 15 = .ok (.aload_n 0, 1) := by decide +kernel
theorem dX5_print_16 : decode cX5_print 16 = .ok (.getfield 22, 3) := by decide +kernel
theorem dX5_print_19 : decode cX5_print 19 = .ok (.aload_n 0, 1) := by decide +kernel
theorem dX5_print_20 : decode cX5_print 20 = .ok (.getfield 10, 3) := by decide +kernel
theorem dX5_print_23 : decode cX5_print 23 = .ok (.invokevirtual 45, 3) := by decide +kernel
theorem dX5_print_26 : decode cX5_print 26 = .ok (.aload_n 0, 1) := by decide +kernel
theorem dX5_print_27 : decode cX5_print 27 = .ok (.getfield 10, 3) := by decide +kernel
theorem dX5_print_30 : decode cX5_print 30 = .ok (.iload_n 1, 1) := by decide +kernel
theorem dX5_print_31 : decode cX5_print 31 = .ok (.invokevirtual 125, 3) := by decide +kernel
theorem dX5_print_34 : decode cX5_print 34 = .ok (.aload_n 0, 1) := by decide +kernel
theorem dX5_print_35 : decode cX5_print 35 = .ok (.getfield 10, 3) := by decide +kernel
theorem dX5_print_38 : decode cX5_print 38 = .ok (.getfield 122, 3) := by decide +kernel
theorem dX5_print_41 : decode cX5_print 41 = .ok (.ireturn, 1) := by decide +kernel
theorem dX5_cutSheet_0 : decode cX5_cutSheet 0 = .ok (.iload_n 1, 1) := by decide +kernel
theorem dX5_cutSheet_1 : decode cX5_cutSheet 1 = .ok (.ifCond .lt 8, 3) := by decide +kernel
theorem dX5_cutSheet_4 : decode cX5_cutSheet 4 = .ok (.iload_n 1, 1) := by decide +kernel
theorem dX5_cutSheet_5 : decode cX5_cutSheet 5 = .ok (.iconst 4, 1) := by decide +kernel
theorem dX5_cutSheet_6 : decode cX5_cutSheet 6 = .ok (.if_icmp .lt 6, 3) := by decide +kernel
theorem dX5_cutSheet_9 : decode cX5_cutSheet 9 = .ok (.bipush (-2), 2) := by decide +kernel
theorem dX5_cutSheet_11 : decode cX5_cutSheet 11 = .ok (.ireturn, 1) := by decide +kernel
theorem dX5_cutSheet_12 : decode cX5_cutSheet 12 = .ok (.aload_n 0, 1) := by decide +kernel
theorem dX5_cutSheet_13 : decode cX5_cutSheet 13 = .ok (.getfield 10, 3) := by decide +kernel
theorem dX5_cutSheet_16 : decode cX5_cutSheet 16 = .ok (.getfield 129, 3) := by decide +kernel
theorem dX5_cutSheet_19 : decode cX5_cutSheet 19 = .ok (.invokevirtual 133, 3) := by decide +kernel
theorem dX5_cutSheet_22 : decode cX5_cutSheet 22 = .ok (.ifCond .ne 14, 3) := by decide +kernel
theorem dX5_cutSheet_25 : decode cX5_cutSheet 25 = .ok (.aload_n 0, 1) := by decide +kernel
theorem dX5_cutSheet_26 : decode cX5_cutSheet 26 = .ok (.getfield 10, 3) := by decide +kernel
theorem dX5_cutSheet_29 : decode cX5_cutSheet 29 = .ok (.iconst 0, 1) := by decide +kernel
theorem dX5_cutSheet_30 : decode cX5_cutSheet 30 = .ok (.invokevirtual 138, 3) := by decide +kernel
theorem dX5_cutSheet_33 : decode cX5_cutSheet 33 = .ok (.ifnonnull 6, 3) := by decide +kernel
theorem dX5_cutSheet_36 : decode cX5_cutSheet 36 = .ok (.bipush (-4), 2) := by decide +kernel
theorem dX5_cutSheet_38 : decode cX5_cutSheet 38 = .ok (.ireturn, 1) := by decide +kernel
theorem dX5_cutSheet_39 : decode cX5_cutSheet 39 = .ok (.aload_n 0, 1) := by decide +kernel
theorem dX5_cutSheet_40 : decode cX5_cutSheet 40 = .ok (.getfield 22, 3) := by decide +kernel
theorem dX5_cutSheet_43 : decode cX5_cutSheet 43 = .ok (.aload_n 0, 1) := by decide +kernel
theorem dX5_cutSheet_44 : decode cX5_cutSheet 44 = .ok (.getfield 10, 3) := by decide +kernel
theorem dX5_cutSheet_47 : decode cX5_cutSheet 47 = .ok (.invokevirtual 45, 3) := by decide +kernel
theorem dX5_cutSheet_50 : decode cX5_cutSheet 50 = .ok (.aload_n 0, 1) := by decide +kernel
theorem dX5_cutSheet_51 : decode cX5_cutSheet 51 = .ok (.getfield 10, 3) := by decide +kernel
theorem dX5_cutSheet_54 : decode cX5_cutSheet 54 = .ok (.getfield 129, 3) := by decide +kernel
theorem dX5_cutSheet_57 : decode cX5_cutSheet 57 = .ok (.aload_n 0, 1) := by decide +kernel
theorem dX5_cutSheet_58 : decode cX5_cutSheet 58 = .ok (.getfield 10, 3) := by decide +kernel
theorem dX5_cutSheet_61 : decode cX5_cutSheet 61 = .ok (.invokevirtual 142, 3) := by decide +kernel
theorem dX5_cutSheet_64 : decode cX5_cutSheet 64 = .ok (.iload_n 1, 1) := by decide +kernel
theorem dX5_cutSheet_65 : decode cX5_cutSheet 65 = .ok (.invokevirtual 146, 3) := by decide +kernel
theorem dX5_cutSheet_68 : decode cX5_cutSheet 68 = .ok (.aload_n 0, 1) := by decide +kernel
theorem dX5_cutSheet_69 : decode cX5_cutSheet 69 = .ok (.getfield 10, 3) := by decide +kernel
theorem dX5_cutSheet_72 : decode cX5_cutSheet 72 = .ok (.getfield 122, 3) := by decide +kernel
theorem dX5_cutSheet_75 : decode cX5_cutSheet 75 = .ok (.ireturn, 1) := by decide +kernel
theorem dX5_cutPack_0 : decode cX5_cutPack 0 = .ok (.aload_n 0, 1) := by decide +kernel
theorem dX5_cutPack_1 : decode cX5_cutPack 1 = .ok (.getfield 10, 3) := by decide +kernel
theorem dX5_cutPack_4 : decode cX5_cutPack 4 = .ok (.getfield 129, 3) := by decide +kernel
theorem dX5_cutPack_7 : decode cX5_cutPack 7 = .ok (.astore_n 2, 1) := by decide +kernel
theorem dX5_cutPack_8 : decode cX5_cutPack 8 = .ok (.aload_n 2, 1) := by decide +kernel
theorem dX5_cutPack_9 : decode cX5_cutPack 9 = .ok (.invokevirtual 133, 3) := by decide +kernel
theorem dX5_cutPack_12 : decode cX5_cutPack 12 = .ok (.ifCond .ne 6, 3) := by decide +kernel
theorem dX5_cutPack_15 : decode cX5_cutPack 15 = .ok (.bipush (-4), 2) := by decide +kernel
theorem dX5_cutPack_17 : decode cX5_cutPack 17 = .ok (.ireturn, 1) := by decide +kernel
theorem dX5_cutPack_18 : decode cX5_cutPack 18 = .ok (.aload_n 2, 1) := by decide +kernel
theorem dX5_cutPack_19 : decode cX5_cutPack 19 = .ok (.iload_n 1, 1) := by decide +kernel
theorem dX5_cutPack_20 : decode cX5_cutPack 20 = .ok (.invokevirtual 150, 3) := by decide +kernel
theorem dX5_cutPack_23 : decode cX5_cutPack 23 = .ok (.ifCond .ne 6, 3) := by decide +kernel
theorem dX5_cutPack_26 : decode cX5_cutPack 26 = .ok (.bipush (-2), 2) := by decide +kernel
theorem dX5_cutPack_28 : decode cX5_cutPack 28 = .ok (.ireturn, 1) := by decide +kernel
theorem dX5_cutPack_29 : decode cX5_cutPack 29 = .ok (.aload_n 0, 1) := by decide +kernel
theorem dX5_cutPack_30 : decode cX5_cutPack 30 = .ok (.getfield 22, 3) := by decide +kernel
theorem dX5_cutPack_33 : decode cX5_cutPack 33 = .ok (.aload_n 0, 1) := by decide +kernel
theorem dX5_cutPack_34 : decode cX5_cutPack 34 = .ok (.getfield 10, 3) := by decide +kernel
theorem dX5_cutPack_37 : decode cX5_cutPack 37 = .ok (.invokevirtual 45, 3) := by decide +kernel
theorem dX5_cutPack_40 : decode cX5_cutPack 40 = .ok (.aload_n 2, 1) := by decide +kernel
theorem dX5_cutPack_41 : decode cX5_cutPack 41 = .ok (.iload_n 1, 1) := by decide +kernel
theorem dX5_cutPack_42 : decode cX5_cutPack 42 = .ok (.aload_n 0, 1) := by decide +kernel
theorem dX5_cutPack_43 : decode cX5_cutPack 43 = .ok (.getfield 33, 3) := by decide +kernel
theorem dX5_cutPack_46 : decode cX5_cutPack 46 = .ok (.invokevirtual 153, 3) := by decide +kernel
theorem dX5_cutPack_49 : decode cX5_cutPack 49 = .ok (.aload_n 2, 1) := by decide +kernel
theorem dX5_cutPack_50 : decode cX5_cutPack 50 = .ok (.iconst 0, 1) := by decide +kernel
theorem dX5_cutPack_51 : decode cX5_cutPack 51 = .ok (.invokevirtual 157, 3) := by decide +kernel
theorem dX5_cutPack_54 : decode cX5_cutPack 54 = .ok (.ireturn, 1) := by decide +kernel
theorem dX5_shuffle_0 : decode cX5_shuffle 0 = .ok (.aload_n 0, 1) := by decide +kernel
theorem dX5_shuffle_1 : decode cX5_shuffle 1 = .ok (.getfield 10, 3) := by decide +kernel
theorem dX5_shuffle_4 : decode cX5_shuffle 4 = .ok (.getfield 129, 3) := by decide +kernel
theorem dX5_shuffle_7 : decode cX5_shuffle 7 = .ok (.astore_n 2, 1) := by decide +kernel
theorem dX5_shuffle_8 : decode cX5_shuffle 8 = .ok (.aload_n 2, 1) := by decide +kernel
theorem dX5_shuffle_9 : decode cX5_shuffle 9 = .ok (.invokevirtual 133, 3) := by decide +kernel
theorem dX5_shuffle_12 : decode cX5_shuffle 12 = .ok (.ifCond .ne 6, 3) := by decide +kernel
theorem dX5_shuffle_15 : decode cX5_shuffle 15 = .ok (.bipush (-4), 2) := by decide +kernel
theorem dX5_shuffle_17 : decode cX5_shuffle 17 = .ok (.ireturn, 1) := by decide +kernel
theorem dX5_shuffle_18 : decode cX5_shuffle 18 = .ok (.aload_n 2, 1) := by decide +kernel
theorem dX5_shuffle_19 : decode cX5_shuffle 19 = .ok (.iload_n 1, 1) := by decide +kernel
theorem dX5_shuffle_20 : decode cX5_shuffle 20 = .ok (.invokevirtual 150, 3) := by decide +kernel
theorem dX5_shuffle_23 : decode cX5_shuffle 23 = .ok (.ifCond .ne 6, 3) := by decide +kernel
theorem dX5_shuffle_26 : decode cX5_shuffle 26 = .ok (.bipush (-2), 2) := by decide +kernel
theorem dX5_shuffle_28 : decode cX5_shuffle 28 = .ok (.ireturn, 1) := by decide +kernel
theorem dX5_shuffle_29 : decode cX5_shuffle 29 = .ok (.aload_n 0, 1) := by decide +kernel
theorem dX5_shuffle_30 : decode cX5_shuffle 30 = .ok (.getfield 22, 3) := by decide +kernel
theorem dX5_shuffle_33 : decode cX5_shuffle 33 = .ok (.aload_n 0, 1) := by decide +kernel
theorem dX5_shuffle_34 : decode cX5_shuffle 34 = .ok (.getfield 10, 3) := by decide +kernel
theorem dX5_shuffle_37 : decode cX5_shuffle 37 = .ok (.invokevirtual 45, 3) := by decide +kernel
theorem dX5_shuffle_40 : decode cX5_shuffle 40 = .ok (.aload_n 2, 1) := by decide +kernel
theorem dX5_shuffle_41 : decode cX5_shuffle 41 = .ok (.iload_n 1, 1) := by decide +kernel
theorem dX5_shuffle_42 : decode cX5_shuffle 42 = .ok (.aload_n 0, 1) := by decide +kernel
theorem dX5_shuffle_43 : decode cX5_shuffle 43 = .ok (.getfield 33, 3) := by decide +kernel
theorem dX5_shuffle_46 : decode cX5_shuffle 46 = .ok (.invokevirtual 161, 3) := by decide +kernel
theorem dX5_shuffle_49 : decode cX5_shuffle 49 = .ok (.ireturn, 1) := by decide +kernel
theorem dX5_deal_0 : decode cX5_deal 0 = .ok (.aload_n 0, 1) := by decide +kernel
theorem dX5_deal_1 : decode cX5_deal 1 = .ok (.getfield 10, 3) := by decide +kernel
theorem dX5_deal_4 : decode cX5_deal 4 = .ok (.getfield 129, 3) := by decide +kernel
theorem dX5_deal_7 : decode cX5_deal 7 = .ok (.astore_n 2, 1) := by decide +kernel
theorem dX5_deal_8 : decode cX5_deal 8 = .ok (.aload_n 2, 1) := by decide +kernel
theorem dX5_deal_9 : decode cX5_deal 9 = .ok (.invokevirtual 133, 3) := by decide +kernel
theorem dX5_deal_12 : decode cX5_deal 12 = .ok (.ifCond .ne 6, 3) := by decide +kernel
theorem dX5_deal_15 : decode cX5_deal 15 = .ok (.bipush (-4), 2) := by decide +kernel
theorem dX5_deal_17 : decode cX5_deal 17 = .ok (.ireturn, 1) := by decide +kernel
theorem dX5_deal_18 : decode cX5_deal 18 = .ok (.iload_n 1, 1) := by decide +kernel
theorem dX5_deal_19 : decode cX5_deal 19 = .ok (.iconst 1, 1) := by decide +kernel
theorem dX5_deal_20 : decode cX5_deal 20 = .ok (.if_icmp .lt 11, 3) := by decide +kernel
theorem dX5_deal_23 : decode cX5_deal 23 = .ok (.iload_n 1, 1) := by decide +kernel
theorem dX5_deal_24 : decode cX5_deal 24 = .ok (.aload_n 2, 1) := by decide +kernel
theorem dX5_deal_25 : decode cX5_deal 25 = .ok (.invokevirtual 165, 3) := by decide +kernel
theorem dX5_deal_28 : decode cX5_deal 28 = .ok (.if_icmp .le 6, 3) := by decide +kernel
theorem dX5_deal_31 : decode cX5_deal 31 = .ok (.bipush (-2), 2) := by decide +kernel
theorem dX5_deal_33 : decode cX5_deal 33 = .ok (.ireturn, 1) := by decide +kernel
theorem dX5_deal_34 : decode cX5_deal 34 = .ok (.aload_n 0, 1) := by decide +kernel
theorem dX5_deal_35 : decode cX5_deal 35 = .ok (.getfield 22, 3) := by decide +kernel
theorem dX5_deal_38 : decode cX5_deal 38 = .ok (.aload_n 0, 1) := by decide +kernel
theorem dX5_deal_39 : decode cX5_deal 39 = .ok (.getfield 10, 3) := by decide +kernel
theorem dX5_deal_42 : decode cX5_deal 42 = .ok (.invokevirtual 45, 3) := by decide +kernel
theorem dX5_deal_45 : decode cX5_deal 45 = .ok (.aload_n 2, 1) := by decide +kernel
theorem dX5_deal_46 : decode cX5_deal 46 = .ok (.dup, 1) := by decide +kernel
theorem dX5_deal_47 : decode cX5_deal 47 = .ok (.getfield 168, 3) := by decide +kernel
theorem dX5_deal_50 : decode cX5_deal 50 = .ok (.iload_n 1, 1) := by decide +kernel
theorem dX5_deal_51 : decode cX5_deal 51 = .ok (.iadd, 1) := by decide +kernel
theorem dX5_deal_52 : decode cX5_deal 52 = .ok (.putfield 168, 3) := by decide +kernel
theorem dX5_deal_55 : decode cX5_deal 55 = .ok (.aload_n 2, 1) := by decide +kernel
theorem dX5_deal_56 : decode cX5_deal 56 = .ok (.invokevirtual 165, 3) := by decide +kernel
theorem dX5_deal_59 : decode cX5_deal 59 = .ok (.ireturn, 1) := by decide +kernel
theorem dX5_sell_0 : decode cX5_sell 0 = .ok (.aload_n 0, 1) := by decide +kernel
theorem dX5_sell_1 : decode cX5_sell 1 = .ok (.getfield 10, 3) := by decide +kernel
theorem dX5_sell_4 : decode cX5_sell 4 = .ok (.getfield 129, 3) := by decide +kernel
theorem dX5_sell_7 : decode cX5_sell 7 = .ok (.invokevirtual 133, 3) := by decide +kernel
theorem dX5_sell_10 : decode cX5_sell 10 = .ok (.ifCond .ne 6, 3) := by decide +kernel
theorem dX5_sell_13 : decode cX5_sell 13 = .ok (.bipush (-4), 2) := by decide +kernel
theorem dX5_sell_15 : decode cX5_sell 15 = .ok (.ireturn, 1) := by decide +kernel
theorem dX5_sell_16 : decode cX5_sell 16 = .ok (.aload_n 0, 1) := by decide +kernel
theorem dX5_sell_17 : decode cX5_sell 17 = .ok (.getfield 10, 3) := by decide +kernel
theorem dX5_sell_20 : decode cX5_sell 20 = .ok (.invokevirtual 171, 3) := by decide +kernel
theorem dX5_sell_23 : decode cX5_sell 23 = .ok (.istore_n 1, 1) := by decide +kernel
theorem dX5_sell_24 : decode cX5_sell 24 = .ok (.iload_n 1, 1) := by decide +kernel
theorem dX5_sell_25 : decode cX5_sell 25 = .ok (.ifCond .eq 8, 3) := by decide +kernel
theorem dX5_sell_28 : decode cX5_sell 28 = .ok (.bipush (-10), 2) := by decide +kernel
theorem dX5_sell_30 : decode cX5_sell 30 = .ok (.iload_n 1, 1) := by decide +kernel
theorem dX5_sell_31 : decode cX5_sell 31 = .ok (.isub, 1) := by decide +kernel
theorem dX5_sell_32 : decode cX5_sell 32 = .ok (.ireturn, 1) := by decide +kernel
theorem dX5_sell_33 : decode cX5_sell 33 = .ok (.aload_n 0, 1) := by decide +kernel
theorem dX5_sell_34 : decode cX5_sell 34 = .ok (.getfield 22, 3) := by decide +kernel
theorem dX5_sell_37 : decode cX5_sell 37 = .ok (.aload_n 0, 1) := by decide +kernel
theorem dX5_sell_38 : decode cX5_sell 38 = .ok (.getfield 10, 3) := by decide +kernel
theorem dX5_sell_41 : decode cX5_sell 41 = .ok (.invokevirtual 45, 3) := by decide +kernel
theorem dX5_sell_44 : decode cX5_sell 44 = .ok (.aload_n 0, 1) := by decide +kernel
theorem dX5_sell_45 : decode cX5_sell 45 = .ok (.getfield 10, 3) := by decide +kernel
theorem dX5_sell_48 : decode cX5_sell 48 = .ok (.getfield 119, 3) := by decide +kernel
theorem dX5_sell_51 : decode cX5_sell 51 = .ok (.iconst 3, 1) := by decide +kernel
theorem dX5_sell_52 : decode cX5_sell 52 = .ok (.invokestatic 56, 3) := by decide +kernel
theorem dX5_sell_55 : decode cX5_sell 55 = .ok (.istore_n 2, 1) := by decide +kernel
theorem dX5_sell_56 : decode cX5_sell 56 = .ok (.aload_n 0, 1) := by decide +kernel
theorem dX5_sell_57 : decode cX5_sell 57 = .ok (.getfield 10, 3) := by decide +kernel
theorem dX5_sell_60 : decode cX5_sell 60 = .ok (.dup, 1) := by decide +kernel
theorem dX5_sell_61 : decode cX5_sell 61 = .ok (.getfield 174, 3) := by decide +kernel
theorem dX5_sell_64 : decode cX5_sell 64 = .ok (.iload_n 2, 1) := by decide +kernel
theorem dX5_sell_65 : decode cX5_sell 65 = .ok (.iadd, 1) := by decide +kernel
theorem dX5_sell_66 : decode cX5_sell 66 = .ok (.putfield 174, 3) := by decide +kernel
theorem dX5_sell_69 : decode cX5_sell 69 = .ok (.aload_n 0, 1) := by decide +kernel
theorem dX5_sell_70 : decode cX5_sell 70 = .ok (.getfield 10, 3) := by decide +kernel
theorem dX5_sell_73 : decode cX5_sell 73 = .ok (.dup, 1) := by decide +kernel
theorem dX5_sell_74 : decode cX5_sell 74 = .ok (.getfield 177, 3) := by decide +kernel
theorem dX5_sell_77 : decode cX5_sell 77 = .ok (.iconst 1, 1) := by decide +kernel
theorem dX5_sell_78 : decode cX5_sell 78 = .ok (.iadd, 1) := by decide +kernel
theorem dX5_sell_79 : decode cX5_sell 79 = .ok (.putfield 177, 3) := by decide +kernel
theorem dX5_sell_82 : decode cX5_sell 82 = .ok (.aload_n 0, 1) := by decide +kernel
theorem dX5_sell_83 : decode cX5_sell 83 = .ok (.getfield 10, 3) := by decide +kernel
theorem dX5_sell_86 : decode cX5_sell 86 = .ok (.getfield 129, 3) := by decide +kernel
theorem dX5_sell_89 : decode cX5_sell 89 = .ok (.invokevirtual 180, 3) := by decide +kernel
theorem dX5_sell_92 : decode cX5_sell 92 = .ok (.iload_n 2, 1) := by decide +kernel
theorem dX5_sell_93 : decode cX5_sell 93 = .ok (.ireturn, 1) := by decide +kernel
theorem dX5_pulp_0 : decode cX5_pulp 0 = .ok (.aload_n 0, 1) := by decide +kernel
theorem dX5_pulp_1 : decode cX5_pulp 1 = .ok (.getfield 10, 3) := by decide +kernel
theorem dX5_pulp_4 : decode cX5_pulp 4 = .ok (.getfield 129, 3) := by decide +kernel
theorem dX5_pulp_7 : decode cX5_pulp 7 = .ok (.invokevirtual 133, 3) := by decide +kernel
theorem dX5_pulp_10 : decode cX5_pulp 10 = .ok (.ifCond .ne 6, 3) := by decide +kernel
theorem dX5_pulp_13 : decode cX5_pulp 13 = .ok (.bipush (-4), 2) := by decide +kernel
theorem dX5_pulp_15 : decode cX5_pulp 15 = .ok (.ireturn, 1) := by decide +kernel
theorem dX5_pulp_16 : decode cX5_pulp 16 = .ok (.aload_n 0, 1) := by decide +kernel
theorem dX5_pulp_17 : decode cX5_pulp 17 = .ok (.getfield 22, 3) := by decide +kernel
theorem dX5_pulp_20 : decode cX5_pulp 20 = .ok (.aload_n 0, 1) := by decide +kernel
theorem dX5_pulp_21 : decode cX5_pulp 21 = .ok (.getfield 10, 3) := by decide +kernel
theorem dX5_pulp_24 : decode cX5_pulp 24 = .ok (.invokevirtual 45, 3) := by decide +kernel
theorem dX5_pulp_27 : decode cX5_pulp 27 = .ok (.aload_n 0, 1) := by decide +kernel
theorem dX5_pulp_28 : decode cX5_pulp 28 = .ok (.getfield 10, 3) := by decide +kernel
theorem dX5_pulp_31 : decode cX5_pulp 31 = .ok (.getfield 129, 3) := by decide +kernel
theorem dX5_pulp_34 : decode cX5_pulp 34 = .ok (.invokevirtual 165, 3) := by decide +kernel
theorem dX5_pulp_37 : decode cX5_pulp 37 = .ok (.istore_n 1, 1) := by decide +kernel
theorem dX5_pulp_38 : decode cX5_pulp 38 = .ok (.aload_n 0, 1) := by decide +kernel
theorem dX5_pulp_39 : decode cX5_pulp 39 = .ok (.getfield 10, 3) := by decide +kernel
theorem dX5_pulp_42 : decode cX5_pulp 42 = .ok (.dup, 1) := by decide +kernel
theorem dX5_pulp_43 : decode cX5_pulp 43 = .ok (.getfield 183, 3) := by decide +kernel
theorem dX5_pulp_46 : decode cX5_pulp 46 = .ok (.iconst 1, 1) := by decide +kernel
theorem dX5_pulp_47 : decode cX5_pulp 47 = .ok (.iadd, 1) := by decide +kernel
theorem dX5_pulp_48 : decode cX5_pulp 48 = .ok (.putfield 183, 3) := by decide +kernel
theorem dX5_pulp_51 : decode cX5_pulp 51 = .ok (.aload_n 0, 1) := by decide +kernel
theorem dX5_pulp_52 : decode cX5_pulp 52 = .ok (.getfield 10, 3) := by decide +kernel
theorem dX5_pulp_55 : decode cX5_pulp 55 = .ok (.getfield 129, 3) := by decide +kernel
theorem dX5_pulp_58 : decode cX5_pulp 58 = .ok (.invokevirtual 180, 3) := by decide +kernel
theorem dX5_pulp_61 : decode cX5_pulp 61 = .ok (.iload_n 1, 1) := by decide +kernel
theorem dX5_pulp_62 : decode cX5_pulp 62 = .ok (.ireturn, 1) := by decide +kernel
theorem dX5_type_0 : decode cX5_type 0 = .ok (.aload_n 0, 1) := by decide +kernel
theorem dX5_type_1 : decode cX5_type 1 = .ok (.getfield 29, 3) := by decide +kernel
theorem dX5_type_4 : decode cX5_type 4 = .ok (.getfield 186, 3) := by decide +kernel
theorem dX5_type_7 : decode cX5_type 7 = .ok (.bipush 60, 2) := by decide +kernel
theorem dX5_type_9 : decode cX5_type 9 = .ok (.if_icmp .lt 6, 3) := by decide +kernel
theorem dX5_type_12 : decode cX5_type 12 = .ok (.bipush (-3), 2) := by decide +kernel
theorem dX5_type_14 : decode cX5_type 14 = .ok (.ireturn, 1) := by decide +kernel
theorem dX5_type_15 : decode cX5_type 15 = .ok (.aload_n 0, 1) := by decide +kernel
theorem dX5_type_16 : decode cX5_type 16 = .ok (.getfield 29, 3) := by decide +kernel
theorem dX5_type_19 : decode cX5_type 19 = .ok (.iload_n 1, 1) := by decide +kernel
theorem dX5_type_20 : decode cX5_type 20 = .ok (.invokevirtual 189, 3) := by decide +kernel
theorem dX5_type_23 : decode cX5_type 23 = .ok (.aload_n 0, 1) := by decide +kernel
theorem dX5_type_24 : decode cX5_type 24 = .ok (.getfield 29, 3) := by decide +kernel
theorem dX5_type_27 : decode cX5_type 27 = .ok (.getfield 186, 3) := by decide +kernel
theorem dX5_type_30 : decode cX5_type 30 = .ok (.ireturn, 1) := by decide +kernel
theorem dX5_clearText_0 : decode cX5_clearText 0 = .ok (.aload_n 0, 1) := by decide +kernel
theorem dX5_clearText_1 : decode cX5_clearText 1 = .ok (.getfield 29, 3) := by decide +kernel
theorem dX5_clearText_4 : decode cX5_clearText 4 = .ok (.getfield 186, 3) := by decide +kernel
theorem dX5_clearText_7 : decode cX5_clearText 7 = .ok (.istore_n 1, 1) := by decide +kernel
theorem dX5_clearText_8 : decode cX5_clearText 8 = .ok (.aload_n 0, 1) := by decide +kernel
theorem dX5_clearText_9 : decode cX5_clearText 9 = .ok (.getfield 29, 3) := by decide +kernel
theorem dX5_clearText_12 : decode cX5_clearText 12 = .ok (.iconst 0, 1) := by decide +kernel
theorem dX5_clearText_13 : decode cX5_clearText 13 = .ok (.putfield 186, 3) := by decide +kernel
theorem dX5_clearText_16 : decode cX5_clearText 16 = .ok (.iload_n 1, 1) := by decide +kernel
theorem dX5_clearText_17 : decode cX5_clearText 17 = .ok (.ireturn, 1) := by decide +kernel
theorem dX5_fault_0 : decode cX5_fault 0 = .ok (.aload_n 0, 1) := by decide +kernel
theorem dX5_fault_1 : decode cX5_fault 1 = .ok (.getfield 29, 3) := by decide +kernel
theorem dX5_fault_4 : decode cX5_fault 4 = .ok (.invokevirtual 87, 3) := by decide +kernel
theorem dX5_fault_7 : decode cX5_fault 7 = .ok (.ireturn, 1) := by decide +kernel
theorem dX5_undo_0 : decode cX5_undo 0 = .ok (.aload_n 0, 1) := by decide +kernel
theorem dX5_undo_1 : decode cX5_undo 1 = .ok (.getfield 22, 3) := by decide +kernel
theorem dX5_undo_4 : decode cX5_undo 4 = .ok (.getfield 193, 3) := by decide +kernel
theorem dX5_undo_7 : decode cX5_undo 7 = .ok (.ifCond .ne 6, 3) := by decide +kernel
theorem dX5_undo_10 : decode cX5_undo 10 = .ok (.bipush (-5), 2) := by decide +kernel
theorem dX5_undo_12 : decode cX5_undo 12 = .ok (.ireturn, 1) := by decide +kernel
theorem dX5_undo_13 : decode cX5_undo 13 = .ok (.aload_n 0, 1) := by decide +kernel
theorem dX5_undo_14 : decode cX5_undo 14 = .ok (.getfield 22, 3) := by decide +kernel
theorem dX5_undo_17 : decode cX5_undo 17 = .ok (.aload_n 0, 1) := by decide +kernel
theorem dX5_undo_18 : decode cX5_undo 18 = .ok (.getfield 10, 3) := by decide +kernel
theorem dX5_undo_21 : decode cX5_undo 21 = .ok (.invokevirtual 196, 3) := by decide +kernel
theorem dX5_undo_24 : decode cX5_undo 24 = .ok (.aload_n 0, 1) := by decide +kernel
theorem dX5_undo_25 : decode cX5_undo 25 = .ok (.getfield 22, 3) := by decide +kernel
theorem dX5_undo_28 : decode cX5_undo 28 = .ok (.getfield 193, 3) := by decide +kernel
theorem dX5_undo_31 : decode cX5_undo 31 = .ok (.ireturn, 1) := by decide +kernel
theorem dX5_keep_0 : decode cX5_keep 0 = .ok (.aload_n 0, 1) := by decide +kernel
theorem dX5_keep_1 : decode cX5_keep 1 = .ok (.getfield 16, 3) := by decide +kernel
theorem dX5_keep_4 : decode cX5_keep 4 = .ok (.aload_n 0, 1) := by decide +kernel
theorem dX5_keep_5 : decode cX5_keep 5 = .ok (.getfield 10, 3) := by decide +kernel
theorem dX5_keep_8 : decode cX5_keep 8 = .ok (.invokevirtual 199, 3) := by decide +kernel
theorem dX5_keep_11 : decode cX5_keep 11 = .ok (.aload_n 0, 1) := by decide +kernel
theorem dX5_keep_12 : decode cX5_keep 12 = .ok (.iconst 1, 1) := by decide +kernel
theorem dX5_keep_13 : decode cX5_keep 13 = .ok (.putfield 37, 3) := by decide +kernel
theorem dX5_keep_16 : decode cX5_keep 16 = .ok (.aload_n 0, 1) := by decide +kernel
theorem dX5_keep_17 : decode cX5_keep 17 = .ok (.getfield 10, 3) := by decide +kernel
theorem dX5_keep_20 : decode cX5_keep 20 = .ok (.getfield 202, 3) := by decide +kernel
theorem dX5_keep_23 : decode cX5_keep 23 = .ok (.ireturn, 1) := by decide +kernel
theorem dX5_restore_0 : decode cX5_restore 0 = .ok (.aload_n 0, 1) := by decide +kernel
theorem dX5_restore_1 : decode cX5_restore 1 = .ok (.getfield 37, 3) := by decide +kernel
theorem dX5_restore_4 : decode cX5_restore 4 = .ok (.ifCond .ne 6, 3) := by decide +kernel
theorem dX5_restore_7 : decode cX5_restore 7 = .ok (.bipush (-5), 2) := by decide +kernel
theorem dX5_restore_9 : decode cX5_restore 9 = .ok (.ireturn, 1) := by decide +kernel
theorem dX5_restore_10 : decode cX5_restore 10 = .ok (.aload_n 0, 1) := by decide +kernel
theorem dX5_restore_11 : decode cX5_restore 11 = .ok (.getfield 22, 3) := by decide +kernel
theorem dX5_restore_14 : decode cX5_restore 14 = .ok (.aload_n 0, 1) := by decide +kernel
theorem dX5_restore_15 : decode cX5_restore 15 = .ok (.getfield 10, 3) := by decide +kernel
theorem dX5_restore_18 : decode cX5_restore 18 = .ok (.invokevirtual 45, 3) := by decide +kernel
theorem dX5_restore_21 : decode cX5_restore 21 = .ok (.aload_n 0, 1) := by decide +kernel
theorem dX5_restore_22 : decode cX5_restore 22 = .ok (.getfield 10, 3) := by decide +kernel
theorem dX5_restore_25 : decode cX5_restore 25 = .ok (.aload_n 0, 1) := by decide +kernel
theorem dX5_restore_26 : decode cX5_restore 26 = .ok (.getfield 16, 3) := by decide +kernel
theorem dX5_restore_29 : decode cX5_restore 29 = .ok (.invokevirtual 199, 3) := by decide +kernel
theorem dX5_restore_32 : decode cX5_restore 32 = .ok (.aload_n 0, 1) := by decide +kernel
theorem dX5_restore_33 : decode cX5_restore 33 = .ok (.getfield 10, 3) := by decide +kernel
theorem dX5_restore_36 : decode cX5_restore 36 = .ok (.getfield 202, 3) := by decide +kernel
theorem dX5_restore_39 : decode cX5_restore 39 = .ok (.ireturn, 1) := by decide +kernel
theorem dX5_block_0 : decode cX5_block 0 = .ok (.iload_n 1, 1) := by decide +kernel
theorem dX5_block_1 : decode cX5_block 1 = .ok (.invokestatic 41, 3) := by decide +kernel
theorem dX5_block_4 : decode cX5_block 4 = .ok (.ifCond .ne 5, 3) := by decide +kernel
theorem dX5_block_7 : decode cX5_block 7 = .ok (.iconst (-1), 1) := by decide +kernel
theorem dX5_block_8 : decode cX5_block 8 = .ok (.ireturn, 1) := by decide +kernel
theorem dX5_block_9 : decode cX5_block 9 = .ok (.iload_n 2, 1) := by decide +kernel
theorem dX5_block_10 : decode cX5_block 10 = .ok (.lookupswitch 50 #[(0, 26), (1, 38)], 26) := by decide +kernel
theorem dX5_block_36 : decode cX5_block 36 = .ok (.aload_n 0, 1) := by decide +kernel
theorem dX5_block_37 : decode cX5_block 37 = .ok (.getfield 10, 3) := by decide +kernel
theorem dX5_block_40 : decode cX5_block 40 = .ok (.getfield 53, 3) := by decide +kernel
theorem dX5_block_43 : decode cX5_block 43 = .ok (.iload_n 1, 1) := by decide +kernel
theorem dX5_block_44 : decode cX5_block 44 = .ok (.invokestatic 56, 3) := by decide +kernel
theorem dX5_block_47 : decode cX5_block 47 = .ok (.ireturn, 1) := by decide +kernel
theorem dX5_block_48 : decode cX5_block 48 = .ok (.aload_n 0, 1) := by decide +kernel
theorem dX5_block_49 : decode cX5_block 49 = .ok (.getfield 10, 3) := by decide +kernel
theorem dX5_block_52 : decode cX5_block 52 = .ok (.getfield 71, 3) := by decide +kernel
theorem dX5_block_55 : decode cX5_block 55 = .ok (.iload_n 1, 1) := by decide +kernel
theorem dX5_block_56 : decode cX5_block 56 = .ok (.invokestatic 56, 3) := by decide +kernel
theorem dX5_block_59 : decode cX5_block 59 = .ok (.ireturn, 1) := by decide +kernel
theorem dX5_block_60 : decode cX5_block 60 = .ok (.bipush (-2), 2) := by decide +kernel
theorem dX5_block_62 : decode cX5_block 62 = .ok (.ireturn, 1) := by decide +kernel
theorem dX5_cardOf_0 : decode cX5_cardOf 0 = .ok (.iload_n 1, 1) := by decide +kernel
theorem dX5_cardOf_1 : decode cX5_cardOf 1 = .ok (.invokestatic 74, 3) := by decide +kernel
theorem dX5_cardOf_4 : decode cX5_cardOf 4 = .ok (.ifCond .ne 5, 3) := by decide +kernel
theorem dX5_cardOf_7 : decode cX5_cardOf 7 = .ok (.iconst (-1), 1) := by decide +kernel
theorem dX5_cardOf_8 : decode cX5_cardOf 8 = .ok (.ireturn, 1) := by decide +kernel
theorem dX5_cardOf_9 : decode cX5_cardOf 9 = .ok (.iload_n 2, 1) := by decide +kernel
theorem dX5_cardOf_10 : decode cX5_cardOf 10 = .ok (.tableswitch 78 0 3 #[30, 39, 54, 66], 30) := by decide +kernel
theorem dX5_cardOf_40 : decode cX5_cardOf 40 = .ok (.aload_n 0, 1) := by decide +kernel
theorem dX5_cardOf_41 : decode cX5_cardOf 41 = .ok (.getfield 10, 3) := by decide +kernel
theorem dX5_cardOf_44 : decode cX5_cardOf 44 = .ok (.iload_n 1, 1) := by decide +kernel
theorem dX5_cardOf_45 : decode cX5_cardOf 45 = .ok (.invokevirtual 205, 3) := by decide +kernel
theorem dX5_cardOf_48 : decode cX5_cardOf 48 = .ok (.ireturn, 1) := by decide +kernel
theorem dX5_cardOf_49 : decode cX5_cardOf 49 = .ok (.aload_n 0, 1) := by decide +kernel
theorem dX5_cardOf_50 : decode cX5_cardOf 50 = .ok (.getfield 10, 3) := by decide +kernel
theorem dX5_cardOf_53 : decode cX5_cardOf 53 = .ok (.getfield 80, 3) := by decide +kernel
theorem dX5_cardOf_56 : decode cX5_cardOf 56 = .ok (.iload_n 1, 1) := by decide +kernel
theorem dX5_cardOf_57 : decode cX5_cardOf 57 = .ok (.invokestatic 56, 3) := by decide +kernel
theorem dX5_cardOf_60 : decode cX5_cardOf 60 = .ok (.bipush 100, 2) := by decide +kernel
theorem dX5_cardOf_62 : decode cX5_cardOf 62 = .ok (.iadd, 1) := by decide +kernel
theorem dX5_cardOf_63 : decode cX5_cardOf 63 = .ok (.ireturn, 1) := by decide +kernel
theorem dX5_cardOf_64 : decode cX5_cardOf 64 = .ok (.aload_n 0, 1) := by decide +kernel
theorem dX5_cardOf_65 : decode cX5_cardOf 65 = .ok (.getfield 10, 3) := by decide +kernel
theorem dX5_cardOf_68 : decode cX5_cardOf 68 = .ok (.getfield 129, 3) := by decide +kernel
theorem dX5_cardOf_71 : decode cX5_cardOf 71 = .ok (.iload_n 1, 1) := by decide +kernel
theorem dX5_cardOf_72 : decode cX5_cardOf 72 = .ok (.invokevirtual 208, 3) := by decide +kernel
theorem dX5_cardOf_75 : decode cX5_cardOf 75 = .ok (.ireturn, 1) := by decide +kernel
theorem dX5_cardOf_76 : decode cX5_cardOf 76 = .ok (.aload_n 0, 1) := by decide +kernel
theorem dX5_cardOf_77 : decode cX5_cardOf 77 = .ok (.getfield 10, 3) := by decide +kernel
theorem dX5_cardOf_80 : decode cX5_cardOf 80 = .ok (.getfield 129, 3) := by decide +kernel
theorem dX5_cardOf_83 : decode cX5_cardOf 83 = .ok (.iload_n 1, 1) := by decide +kernel
theorem dX5_cardOf_84 : decode cX5_cardOf 84 = .ok (.invokevirtual 211, 3) := by decide +kernel
theorem dX5_cardOf_87 : decode cX5_cardOf 87 = .ok (.ireturn, 1) := by decide +kernel
theorem dX5_cardOf_88 : decode cX5_cardOf 88 = .ok (.bipush (-2), 2) := by decide +kernel
theorem dX5_cardOf_90 : decode cX5_cardOf 90 = .ok (.ireturn, 1) := by decide +kernel
theorem dX5_sheet_0 : decode cX5_sheet 0 = .ok (.aload_n 0, 1) := by decide +kernel
theorem dX5_sheet_1 : decode cX5_sheet 1 = .ok (.getfield 10, 3) := by decide +kernel
theorem dX5_sheet_4 : decode cX5_sheet 4 = .ok (.iload_n 1, 1) := by decide +kernel
theorem dX5_sheet_5 : decode cX5_sheet 5 = .ok (.invokevirtual 138, 3) := by decide +kernel
theorem dX5_sheet_8 : decode cX5_sheet 8 = .ok (.astore 4, 2) := by decide +kernel
theorem dX5_sheet_10 : decode cX5_sheet 10 = .ok (.aload 4, 2) := by decide +kernel
theorem dX5_sheet_12 : decode cX5_sheet 12 = .ok (.ifnull 10, 3) := by decide +kernel
theorem dX5_sheet_15 : decode cX5_sheet 15 = .ok (.iload_n 2, 1) := by decide +kernel
theorem dX5_sheet_16 : decode cX5_sheet 16 = .ok (.invokestatic 41, 3) := by decide +kernel
theorem dX5_sheet_19 : decode cX5_sheet 19 = .ok (.ifCond .ne 5, 3) := by decide +kernel
theorem dX5_sheet_22 : decode cX5_sheet 22 = .ok (.iconst (-1), 1) := by decide +kernel
theorem dX5_sheet_23 : decode cX5_sheet 23 = .ok (.ireturn, 1) := by decide +kernel
theorem dX5_sheet_24 : decode cX5_sheet 24 = .ok (.aload 4, 2) := by decide +kernel
theorem dX5_sheet_26 : decode cX5_sheet 26 = .ok (.getfield 214, 3) := by decide +kernel
theorem dX5_sheet_29 : decode cX5_sheet 29 = .ok (.iload_n 2, 1) := by decide +kernel
theorem dX5_sheet_30 : decode cX5_sheet 30 = .ok (.invokestatic 56, 3) := by decide +kernel
theorem dX5_sheet_33 : decode cX5_sheet 33 = .ok (.istore 5, 2) := by decide +kernel
theorem dX5_sheet_35 : decode cX5_sheet 35 = .ok (.iload_n 3, 1) := by decide +kernel
theorem dX5_sheet_36 : decode cX5_sheet 36 = .ok (.lookupswitch 42 #[(0, 28), (1, 31)], 28) := by decide +kernel
theorem dX5_sheet_64 : decode cX5_sheet 64 = .ok (.iload 5, 2) := by decide +kernel
theorem dX5_sheet_66 : decode cX5_sheet 66 = .ok (.ireturn, 1) := by decide +kernel
theorem dX5_sheet_67 : decode cX5_sheet 67 = .ok (.aload 4, 2) := by decide +kernel
theorem dX5_sheet_69 : decode cX5_sheet 69 = .ok (.getfield 217, 3) := by decide +kernel
theorem dX5_sheet_72 : decode cX5_sheet 72 = .ok (.iload 5, 2) := by decide +kernel
theorem dX5_sheet_74 : decode cX5_sheet 74 = .ok (.invokestatic 56, 3) := by decide +kernel
theorem dX5_sheet_77 : decode cX5_sheet 77 = .ok (.ireturn, 1) := by decide +kernel
theorem dX5_sheet_78 : decode cX5_sheet 78 = .ok (.bipush (-2), 2) := by decide +kernel
theorem dX5_sheet_80 : decode cX5_sheet 80 = .ok (.ireturn, 1) := by decide +kernel
theorem dX5_pack_0 : decode cX5_pack 0 = .ok (.aload_n 0, 1) := by decide +kernel
theorem dX5_pack_1 : decode cX5_pack 1 = .ok (.getfield 10, 3) := by decide +kernel
theorem dX5_pack_4 : decode cX5_pack 4 = .ok (.getfield 129, 3) := by decide +kernel
theorem dX5_pack_7 : decode cX5_pack 7 = .ok (.astore_n 3, 1) := by decide +kernel
theorem dX5_pack_8 : decode cX5_pack 8 = .ok (.iload_n 1, 1) := by decide +kernel
theorem dX5_pack_9 : decode cX5_pack 9 = .ok (.ifCond .lt 11, 3) := by decide +kernel
theorem dX5_pack_12 : decode cX5_pack 12 = .ok (.iload_n 1, 1) := by decide +kernel
theorem dX5_pack_13 : decode cX5_pack 13 = .ok (.aload_n 3, 1) := by decide +kernel
theorem dX5_pack_14 : decode cX5_pack 14 = .ok (.invokevirtual 165, 3) := by decide +kernel
theorem dX5_pack_17 : decode cX5_pack 17 = .ok (.if_icmp .lt 5, 3) := by decide +kernel
theorem dX5_pack_20 : decode cX5_pack 20 = .ok (.iconst (-1), 1) := by decide +kernel
theorem dX5_pack_21 : decode cX5_pack 21 = .ok (.ireturn, 1) := by decide +kernel
theorem dX5_pack_22 : decode cX5_pack 22 = .ok (.iload_n 2, 1) := by decide +kernel
theorem dX5_pack_23 : decode cX5_pack 23 = .ok (.tableswitch 72 0 4 #[33, 39, 45, 51, 57], 33) := by decide +kernel
theorem dX5_pack_56 : decode cX5_pack 56 = .ok (.aload_n 3, 1) := by decide +kernel
theorem dX5_pack_57 : decode cX5_pack 57 = .ok (.iload_n 1, 1) := by decide +kernel
theorem dX5_pack_58 : decode cX5_pack 58 = .ok (.invokevirtual 157, 3) := by decide +kernel
theorem dX5_pack_61 : decode cX5_pack 61 = .ok (.ireturn, 1) := by decide +kernel
theorem dX5_pack_62 : decode cX5_pack 62 = .ok (.aload_n 3, 1) := by decide +kernel
theorem dX5_pack_63 : decode cX5_pack 63 = .ok (.iload_n 1, 1) := by decide +kernel
theorem dX5_pack_64 : decode cX5_pack 64 = .ok (.invokevirtual 220, 3) := by decide +kernel
theorem dX5_pack_67 : decode cX5_pack 67 = .ok (.ireturn, 1) := by decide +kernel
theorem dX5_pack_68 : decode cX5_pack 68 = .ok (.aload_n 3, 1) := by decide +kernel
theorem dX5_pack_69 : decode cX5_pack 69 = .ok (.iload_n 1, 1) := by decide +kernel
theorem dX5_pack_70 : decode cX5_pack 70 = .ok (.invokevirtual 223, 3) := by decide +kernel
theorem dX5_pack_73 : decode cX5_pack 73 = .ok (.ireturn, 1) := by decide +kernel
theorem dX5_pack_74 : decode cX5_pack 74 = .ok (.aload_n 3, 1) := by decide +kernel
theorem dX5_pack_75 : decode cX5_pack 75 = .ok (.iload_n 1, 1) := by decide +kernel
theorem dX5_pack_76 : decode cX5_pack 76 = .ok (.invokevirtual 226, 3) := by decide +kernel
theorem dX5_pack_79 : decode cX5_pack 79 = .ok (.ireturn, 1) := by decide +kernel
theorem dX5_pack_80 : decode cX5_pack 80 = .ok (.aload_n 3, 1) := by decide +kernel
theorem dX5_pack_81 : decode cX5_pack 81 = .ok (.iload_n 1, 1) := by decide +kernel
theorem dX5_pack_82 : decode cX5_pack 82 = .ok (.invokevirtual 223, 3) := by decide +kernel
theorem dX5_pack_85 : decode cX5_pack 85 = .ok (.iconst 1, 1) := by decide +kernel
theorem dX5_pack_86 : decode cX5_pack 86 = .ok (.if_icmp .ne 7, 3) := by decide +kernel
theorem dX5_pack_89 : decode cX5_pack 89 = .ok (.iconst 1, 1) := by decide +kernel
theorem dX5_pack_90 : decode cX5_pack 90 = .ok (.goto 4, 3) := by decide +kernel
theorem dX5_pack_93 : decode cX5_pack 93 = .ok (.iconst 0, 1) := by decide +kernel
theorem dX5_pack_94 : decode cX5_pack 94 = .ok (.ireturn, 1) := by decide +kernel
theorem dX5_pack_95 : decode cX5_pack 95 = .ok (.bipush (-2), 2) := by decide +kernel
theorem dX5_pack_97 : decode cX5_pack 97 = .ok (.ireturn, 1) := by decide +kernel
theorem dX5_count_0 : decode cX5_count 0 = .ok (.iload_n 1, 1) := by decide +kernel
theorem dX5_count_1 : decode cX5_count 1 = .ok (.tableswitch 284 0 17 #[87, 95, 103, 122, 133, 144, 155, 166, 174, 182, 190, 198, 220, 228, 236, 248, 260, 272], 87) := by decide +kernel
theorem dX5_count_88 : decode cX5_count 88 = .ok (.aload_n 0, 1) := by decide +kernel
theorem dX5_count_89 : decode cX5_count 89 = .ok (.getfield 10, 3) := by decide +kernel
theorem dX5_count_92 : decode cX5_count 92 = .ok (.getfield 122, 3) := by decide +kernel
theorem dX5_count_95 : decode cX5_count 95 = .ok (.ireturn, 1) := by decide +kernel
theorem dX5_count_96 : decode cX5_count 96 = .ok (.aload_n 0, 1) := by decide +kernel
theorem dX5_count_97 : decode cX5_count 97 = .ok (.getfield 10, 3) := by decide +kernel
theorem dX5_count_100 : decode cX5_count 100 = .ok (.getfield 202, 3) := by decide +kernel
theorem dX5_count_103 : decode cX5_count 103 = .ok (.ireturn, 1) := by decide +kernel
theorem dX5_count_104 : decode cX5_count 104 = .ok (.aload_n 0, 1) := by decide +kernel
theorem dX5_count_105 : decode cX5_count 105 = .ok (.getfield 10, 3) := by decide +kernel
theorem dX5_count_108 : decode cX5_count 108 = .ok (.getfield 129, 3) := by decide +kernel
theorem dX5_count_111 : decode cX5_count 111 = .ok (.invokevirtual 133, 3) := by decide +kernel
theorem dX5_count_114 : decode cX5_count 114 = .ok (.ifCond .eq 7, 3) := by decide +kernel
theorem dX5_count_117 : decode cX5_count 117 = .ok (.iconst 1, 1) := by decide +kernel
theorem dX5_count_118 : decode cX5_count 118 = .ok (.goto 4, 3) := by decide +kernel
theorem dX5_count_121 : decode cX5_count 121 = .ok (.iconst 0, 1) := by decide +kernel
theorem dX5_count_122 : decode cX5_count 122 = .ok (.ireturn, 1) := by decide +kernel
theorem dX5_count_123 : decode cX5_count 123 = .ok (.aload_n 0, 1) := by decide +kernel
theorem dX5_count_124 : decode cX5_count 124 = .ok (.getfield 10, 3) := by decide +kernel
theorem dX5_count_127 : decode cX5_count 127 = .ok (.getfield 129, 3) := by decide +kernel
theorem dX5_count_130 : decode cX5_count 130 = .ok (.invokevirtual 165, 3) := by decide +kernel
theorem dX5_count_133 : decode cX5_count 133 = .ok (.ireturn, 1) := by decide +kernel
theorem dX5_count_134 : decode cX5_count 134 = .ok (.aload_n 0, 1) := by decide +kernel
theorem dX5_count_135 : decode cX5_count 135 = .ok (.getfield 10, 3) := by decide +kernel
theorem dX5_count_138 : decode cX5_count 138 = .ok (.getfield 129, 3) := by decide +kernel
theorem dX5_count_141 : decode cX5_count 141 = .ok (.getfield 168, 3) := by decide +kernel
theorem dX5_count_144 : decode cX5_count 144 = .ok (.ireturn, 1) := by decide +kernel
theorem dX5_count_145 : decode cX5_count 145 = .ok (.aload_n 0, 1) := by decide +kernel
theorem dX5_count_146 : decode cX5_count 146 = .ok (.getfield 10, 3) := by decide +kernel
theorem dX5_count_149 : decode cX5_count 149 = .ok (.getfield 129, 3) := by decide +kernel
theorem dX5_count_152 : decode cX5_count 152 = .ok (.invokevirtual 229, 3) := by decide +kernel
theorem dX5_count_155 : decode cX5_count 155 = .ok (.ireturn, 1) := by decide +kernel
theorem dX5_count_156 : decode cX5_count 156 = .ok (.aload_n 0, 1) := by decide +kernel
theorem dX5_count_157 : decode cX5_count 157 = .ok (.getfield 10, 3) := by decide +kernel
theorem dX5_count_160 : decode cX5_count 160 = .ok (.getfield 129, 3) := by decide +kernel
theorem dX5_count_163 : decode cX5_count 163 = .ok (.invokevirtual 232, 3) := by decide +kernel
theorem dX5_count_166 : decode cX5_count 166 = .ok (.ireturn, 1) := by decide +kernel
theorem dX5_count_167 : decode cX5_count 167 = .ok (.aload_n 0, 1) := by decide +kernel
theorem dX5_count_168 : decode cX5_count 168 = .ok (.getfield 10, 3) := by decide +kernel
theorem dX5_count_171 : decode cX5_count 171 = .ok (.getfield 177, 3) := by decide +kernel
theorem dX5_count_174 : decode cX5_count 174 = .ok (.ireturn, 1) := by decide +kernel
theorem dX5_count_175 : decode cX5_count 175 = .ok (.aload_n 0, 1) := by decide +kernel
theorem dX5_count_176 : decode cX5_count 176 = .ok (.getfield 10, 3) := by decide +kernel
theorem dX5_count_179 : decode cX5_count 179 = .ok (.getfield 183, 3) := by decide +kernel
theorem dX5_count_182 : decode cX5_count 182 = .ok (.ireturn, 1) := by decide +kernel
theorem dX5_count_183 : decode cX5_count 183 = .ok (.aload_n 0, 1) := by decide +kernel
theorem dX5_count_184 : decode cX5_count 184 = .ok (.getfield 10, 3) := by decide +kernel
theorem dX5_count_187 : decode cX5_count 187 = .ok (.getfield 174, 3) := by decide +kernel
theorem dX5_count_190 : decode cX5_count 190 = .ok (.ireturn, 1) := by decide +kernel
theorem dX5_count_191 : decode cX5_count 191 = .ok (.aload_n 0, 1) := by decide +kernel
theorem dX5_count_192 : decode cX5_count 192 = .ok (.getfield 10, 3) := by decide +kernel
theorem dX5_count_195 : decode cX5_count 195 = .ok (.invokevirtual 235, 3) := by decide +kernel
theorem dX5_count_198 : decode cX5_count 198 = .ok (.ireturn, 1) := by decide +kernel
theorem dX5_count_199 : decode cX5_count 199 = .ok (.aload_n 0, 1) := by decide +kernel
theorem dX5_count_200 : decode cX5_count 200 = .ok (.getfield 10, 3) := by decide +kernel
theorem dX5_count_203 : decode cX5_count 203 = .ok (.getfield 80, 3) := by decide +kernel
theorem dX5_count_206 : decode cX5_count 206 = .ok (.aload_n 0, 1) := by decide +kernel
theorem dX5_count_207 : decode cX5_count 207 = .ok (.getfield 10, 3) := by decide +kernel
theorem dX5_count_210 : decode cX5_count 210 = .ok (.getfield 119, 3) := by decide +kernel
theorem dX5_count_213 : decode cX5_count 213 = .ok (.iconst 1, 1) := by decide +kernel
theorem dX5_count_214 : decode cX5_count 214 = .ok (.invokestatic 56, 3) := by decide +kernel
theorem dX5_count_217 : decode cX5_count 217 = .ok (.invokestatic 238, 3) := by decide +kernel
theorem dX5_count_220 : decode cX5_count 220 = .ok (.ireturn, 1) := by decide +kernel
theorem dX5_count_221 : decode cX5_count 221 = .ok (.aload_n 0, 1) := by decide +kernel
theorem dX5_count_222 : decode cX5_count 222 = .ok (.getfield 22, 3) := by decide +kernel
theorem dX5_count_225 : decode cX5_count 225 = .ok (.getfield 193, 3) := by decide +kernel
theorem dX5_count_228 : decode cX5_count 228 = .ok (.ireturn, 1) := by decide +kernel
theorem dX5_count_229 : decode cX5_count 229 = .ok (.aload_n 0, 1) := by decide +kernel
theorem dX5_count_230 : decode cX5_count 230 = .ok (.getfield 29, 3) := by decide +kernel
theorem dX5_count_233 : decode cX5_count 233 = .ok (.getfield 186, 3) := by decide +kernel
theorem dX5_count_236 : decode cX5_count 236 = .ok (.ireturn, 1) := by decide +kernel
theorem dX5_count_237 : decode cX5_count 237 = .ok (.aload_n 0, 1) := by decide +kernel
theorem dX5_count_238 : decode cX5_count 238 = .ok (.getfield 10, 3) := by decide +kernel
theorem dX5_count_241 : decode cX5_count 241 = .ok (.getfield 119, 3) := by decide +kernel
theorem dX5_count_244 : decode cX5_count 244 = .ok (.iconst 0, 1) := by decide +kernel
theorem dX5_count_245 : decode cX5_count 245 = .ok (.invokestatic 56, 3) := by decide +kernel
theorem dX5_count_248 : decode cX5_count 248 = .ok (.ireturn, 1) := by decide +kernel
theorem dX5_count_249 : decode cX5_count 249 = .ok (.aload_n 0, 1) := by decide +kernel
theorem dX5_count_250 : decode cX5_count 250 = .ok (.getfield 10, 3) := by decide +kernel
theorem dX5_count_253 : decode cX5_count 253 = .ok (.getfield 119, 3) := by decide +kernel
theorem dX5_count_256 : decode cX5_count 256 = .ok (.iconst 1, 1) := by decide +kernel
theorem dX5_count_257 : decode cX5_count 257 = .ok (.invokestatic 56, 3) := by decide +kernel
theorem dX5_count_260 : decode cX5_count 260 = .ok (.ireturn, 1) := by decide +kernel
theorem dX5_count_261 : decode cX5_count 261 = .ok (.aload_n 0, 1) := by decide +kernel
theorem dX5_count_262 : decode cX5_count 262 = .ok (.getfield 10, 3) := by decide +kernel
theorem dX5_count_265 : decode cX5_count 265 = .ok (.getfield 119, 3) := by decide +kernel
theorem dX5_count_268 : decode cX5_count 268 = .ok (.iconst 2, 1) := by decide +kernel
theorem dX5_count_269 : decode cX5_count 269 = .ok (.invokestatic 56, 3) := by decide +kernel
theorem dX5_count_272 : decode cX5_count 272 = .ok (.ireturn, 1) := by decide +kernel
theorem dX5_count_273 : decode cX5_count 273 = .ok (.aload_n 0, 1) := by decide +kernel
theorem dX5_count_274 : decode cX5_count 274 = .ok (.getfield 10, 3) := by decide +kernel
theorem dX5_count_277 : decode cX5_count 277 = .ok (.getfield 119, 3) := by decide +kernel
theorem dX5_count_280 : decode cX5_count 280 = .ok (.iconst 3, 1) := by decide +kernel
theorem dX5_count_281 : decode cX5_count 281 = .ok (.invokestatic 56, 3) := by decide +kernel
theorem dX5_count_284 : decode cX5_count 284 = .ok (.ireturn, 1) := by decide +kernel
theorem dX5_count_285 : decode cX5_count 285 = .ok (.bipush (-2), 2) := by decide +kernel
theorem dX5_count_287 : decode cX5_count 287 = .ok (.ireturn, 1) := by decide +kernel
theorem dX5_why_0 : decode cX5_why 0 = .ok (.aload_n 0, 1) := by decide +kernel
theorem dX5_why_1 : decode cX5_why 1 = .ok (.getfield 10, 3) := by decide +kernel
theorem dX5_why_4 : decode cX5_why 4 = .ok (.getfield 129, 3) := by decide +kernel
theorem dX5_why_7 : decode cX5_why 7 = .ok (.invokevirtual 133, 3) := by decide +kernel
theorem dX5_why_10 : decode cX5_why 10 = .ok (.ifCond .eq 13, 3) := by decide +kernel
theorem dX5_why_13 : decode cX5_why 13 = .ok (.aload_n 0, 1) := by decide +kernel
theorem dX5_why_14 : decode cX5_why 14 = .ok (.getfield 10, 3) := by decide +kernel
theorem dX5_why_17 : decode cX5_why 17 = .ok (.invokevirtual 171, 3) := by decide +kernel
theorem dX5_why_20 : decode cX5_why 20 = .ok (.goto 5, 3) := by decide +kernel
theorem dX5_why_23 : decode cX5_why 23 = .ok (.bipush (-4), 2) := by decide +kernel
theorem dX5_why_25 : decode cX5_why 25 = .ok (.ireturn, 1) := by decide +kernel
theorem dX5_chances_0 : decode cX5_chances 0 = .ok (.aload_n 0, 1) := by decide +kernel
theorem dX5_chances_1 : decode cX5_chances 1 = .ok (.getfield 10, 3) := by decide +kernel
theorem dX5_chances_4 : decode cX5_chances 4 = .ok (.getfield 129, 3) := by decide +kernel
theorem dX5_chances_7 : decode cX5_chances 7 = .ok (.invokevirtual 133, 3) := by decide +kernel
theorem dX5_chances_10 : decode cX5_chances 10 = .ok (.ifCond .eq 16, 3) := by decide +kernel
theorem dX5_chances_13 : decode cX5_chances 13 = .ok (.aload_n 0, 1) := by decide +kernel
theorem dX5_chances_14 : decode cX5_chances 14 = .ok (.getfield 10, 3) := by decide +kernel
theorem dX5_chances_17 : decode cX5_chances 17 = .ok (.getfield 129, 3) := by decide +kernel
theorem dX5_chances_20 : decode cX5_chances 20 = .ok (.invokevirtual 241, 3) := by decide +kernel
theorem dX5_chances_23 : decode cX5_chances 23 = .ok (.goto 5, 3) := by decide +kernel
theorem dX5_chances_26 : decode cX5_chances 26 = .ok (.ldc 245, 2) := by decide +kernel
theorem dX5_chances_28 : decode cX5_chances 28 = .ok (.freturn, 1) := by decide +kernel
theorem dX5_ifPrinted_0 : decode cX5_ifPrinted 0 = .ok (.aload_n 0, 1) := by decide +kernel
theorem dX5_ifPrinted_1 : decode cX5_ifPrinted 1 = .ok (.getfield 10, 3) := by decide +kernel
theorem dX5_ifPrinted_4 : decode cX5_ifPrinted 4 = .ok (.iload_n 1, 1) := by decide +kernel
theorem dX5_ifPrinted_5 : decode cX5_ifPrinted 5 = .ok (.iconst (-1), 1) := by decide +kernel
theorem dX5_ifPrinted_6 : decode cX5_ifPrinted 6 = .ok (.invokevirtual 246, 3) := by decide +kernel
theorem dX5_ifPrinted_9 : decode cX5_ifPrinted 9 = .ok (.ireturn, 1) := by decide +kernel
theorem dX5_worstFlaw_0 : decode cX5_worstFlaw 0 = .ok (.iload_n 1, 1) := by decide +kernel
theorem dX5_worstFlaw_1 : decode cX5_worstFlaw 1 = .ok (.ifCond .eq 11, 3) := by decide +kernel
theorem dX5_worstFlaw_4 : decode cX5_worstFlaw 4 = .ok (.iload_n 1, 1) := by decide +kernel
theorem dX5_worstFlaw_5 : decode cX5_worstFlaw 5 = .ok (.iconst 1, 1) := by decide +kernel
theorem dX5_worstFlaw_6 : decode cX5_worstFlaw 6 = .ok (.if_icmp .eq 6, 3) := by decide +kernel
theorem dX5_worstFlaw_9 : decode cX5_worstFlaw 9 = .ok (.bipush (-2), 2) := by decide +kernel
theorem dX5_worstFlaw_11 : decode cX5_worstFlaw 11 = .ok (.ireturn, 1) := by decide +kernel
theorem dX5_worstFlaw_12 : decode cX5_worstFlaw 12 = .ok (.iconst 0, 1) := by decide +kernel
theorem dX5_worstFlaw_13 : decode cX5_worstFlaw 13 = .ok (.istore_n 2, 1) := by decide +kernel
theorem dX5_worstFlaw_14 : decode cX5_worstFlaw 14 = .ok (.aload_n 0, 1) := by decide +kernel
theorem dX5_worstFlaw_15 : decode cX5_worstFlaw 15 = .ok (.getfield 10, 3) := by decide +kernel
theorem dX5_worstFlaw_18 : decode cX5_worstFlaw 18 = .ok (.iconst 0, 1) := by decide +kernel
theorem dX5_worstFlaw_19 : decode cX5_worstFlaw 19 = .ok (.iconst 0, 1) := by decide +kernel
theorem dX5_worstFlaw_20 : decode cX5_worstFlaw 20 = .ok (.invokevirtual 246, 3) := by decide +kernel
theorem dX5_worstFlaw_23 : decode cX5_worstFlaw 23 = .ok (.istore_n 3, 1) := by decide +kernel
theorem dX5_worstFlaw_24 : decode cX5_worstFlaw 24 = .ok (.iconst 1, 1) := by decide +kernel
theorem dX5_worstFlaw_25 : decode cX5_worstFlaw 25 = .ok (.istore 4, 2) := by decide +kernel
theorem dX5_worstFlaw_27 : decode cX5_worstFlaw 27 = .ok (.iload 4, 2) := by decide +kernel
theorem dX5_worstFlaw_29 : decode cX5_worstFlaw 29 = .ok (.bipush 24, 2) := by decide +kernel
theorem dX5_worstFlaw_31 : decode cX5_worstFlaw 31 = .ok (.if_icmp .ge 33, 3) := by decide +kernel
theorem dX5_worstFlaw_34 : decode cX5_worstFlaw 34 = .ok (.aload_n 0, 1) := by decide +kernel
theorem dX5_worstFlaw_35 : decode cX5_worstFlaw 35 = .ok (.getfield 10, 3) := by decide +kernel
theorem dX5_worstFlaw_38 : decode cX5_worstFlaw 38 = .ok (.iconst 0, 1) := by decide +kernel
theorem dX5_worstFlaw_39 : decode cX5_worstFlaw 39 = .ok (.iload 4, 2) := by decide +kernel
theorem dX5_worstFlaw_41 : decode cX5_worstFlaw 41 = .ok (.invokevirtual 246, 3) := by decide +kernel
theorem dX5_worstFlaw_44 : decode cX5_worstFlaw 44 = .ok (.istore 5, 2) := by decide +kernel
theorem dX5_worstFlaw_46 : decode cX5_worstFlaw 46 = .ok (.iload 5, 2) := by decide +kernel
theorem dX5_worstFlaw_48 : decode cX5_worstFlaw 48 = .ok (.iload_n 3, 1) := by decide +kernel
theorem dX5_worstFlaw_49 : decode cX5_worstFlaw 49 = .ok (.if_icmp .ge 9, 3) := by decide +kernel
theorem dX5_worstFlaw_52 : decode cX5_worstFlaw 52 = .ok (.iload 4, 2) := by decide +kernel
theorem dX5_worstFlaw_54 : decode cX5_worstFlaw 54 = .ok (.istore_n 2, 1) := by decide +kernel
theorem dX5_worstFlaw_55 : decode cX5_worstFlaw 55 = .ok (.iload 5, 2) := by decide +kernel
theorem dX5_worstFlaw_57 : decode cX5_worstFlaw 57 = .ok (.istore_n 3, 1) := by decide +kernel
theorem dX5_worstFlaw_58 : decode cX5_worstFlaw 58 = .ok (.iinc 4 1, 3) := by decide +kernel
theorem dX5_worstFlaw_61 : decode cX5_worstFlaw 61 = .ok (.goto (-34), 3) := by decide +kernel
theorem dX5_worstFlaw_64 : decode cX5_worstFlaw 64 = .ok (.iload_n 1, 1) := by decide +kernel
theorem dX5_worstFlaw_65 : decode cX5_worstFlaw 65 = .ok (.ifCond .ne 7, 3) := by decide +kernel
theorem dX5_worstFlaw_68 : decode cX5_worstFlaw 68 = .ok (.iload_n 2, 1) := by decide +kernel
theorem dX5_worstFlaw_69 : decode cX5_worstFlaw 69 = .ok (.goto 4, 3) := by decide +kernel
theorem dX5_worstFlaw_72 : decode cX5_worstFlaw 72 = .ok (.iload_n 3, 1) := by decide +kernel
theorem dX5_worstFlaw_73 : decode cX5_worstFlaw 73 = .ok (.ireturn, 1) := by decide +kernel
theorem dX5_bestWay_0 : decode cX5_bestWay 0 = .ok (.aload_n 0, 1) := by decide +kernel
theorem dX5_bestWay_1 : decode cX5_bestWay 1 = .ok (.getfield 10, 3) := by decide +kernel
theorem dX5_bestWay_4 : decode cX5_bestWay 4 = .ok (.iconst 0, 1) := by decide +kernel
theorem dX5_bestWay_5 : decode cX5_bestWay 5 = .ok (.invokevirtual 138, 3) := by decide +kernel
theorem dX5_bestWay_8 : decode cX5_bestWay 8 = .ok (.astore_n 1, 1) := by decide +kernel
theorem dX5_bestWay_9 : decode cX5_bestWay 9 = .ok (.aload_n 1, 1) := by decide +kernel
theorem dX5_bestWay_10 : decode cX5_bestWay 10 = .ok (.ifnonnull 6, 3) := by decide +kernel
theorem dX5_bestWay_13 : decode cX5_bestWay 13 = .ok (.bipush (-4), 2) := by decide +kernel
theorem dX5_bestWay_15 : decode cX5_bestWay 15 = .ok (.ireturn, 1) := by decide +kernel
theorem dX5_bestWay_16 : decode cX5_bestWay 16 = .ok (.iconst 0, 1) := by decide +kernel
theorem dX5_bestWay_17 : decode cX5_bestWay 17 = .ok (.istore_n 2, 1) := by decide +kernel
theorem dX5_bestWay_18 : decode cX5_bestWay 18 = .ok (.aload_n 1, 1) := by decide +kernel
theorem dX5_bestWay_19 : decode cX5_bestWay 19 = .ok (.iconst 0, 1) := by decide +kernel
theorem dX5_bestWay_20 : decode cX5_bestWay 20 = .ok (.invokevirtual 250, 3) := by decide +kernel
theorem dX5_bestWay_23 : decode cX5_bestWay 23 = .ok (.istore_n 3, 1) := by decide +kernel
theorem dX5_bestWay_24 : decode cX5_bestWay 24 = .ok (.iconst 1, 1) := by decide +kernel
theorem dX5_bestWay_25 : decode cX5_bestWay 25 = .ok (.istore 4, 2) := by decide +kernel
theorem dX5_bestWay_27 : decode cX5_bestWay 27 = .ok (.iload 4, 2) := by decide +kernel
theorem dX5_bestWay_29 : decode cX5_bestWay 29 = .ok (.iconst 4, 1) := by decide +kernel
theorem dX5_bestWay_30 : decode cX5_bestWay 30 = .ok (.if_icmp .ge 29, 3) := by decide +kernel
theorem dX5_bestWay_33 : decode cX5_bestWay 33 = .ok (.aload_n 1, 1) := by decide +kernel
theorem dX5_bestWay_34 : decode cX5_bestWay 34 = .ok (.iload 4, 2) := by decide +kernel
theorem dX5_bestWay_36 : decode cX5_bestWay 36 = .ok (.invokevirtual 250, 3) := by decide +kernel
theorem dX5_bestWay_39 : decode cX5_bestWay 39 = .ok (.istore 5, 2) := by decide +kernel
theorem dX5_bestWay_41 : decode cX5_bestWay 41 = .ok (.iload 5, 2) := by decide +kernel
theorem dX5_bestWay_43 : decode cX5_bestWay 43 = .ok (.iload_n 3, 1) := by decide +kernel
theorem dX5_bestWay_44 : decode cX5_bestWay 44 = .ok (.if_icmp .ge 9, 3) := by decide +kernel
theorem dX5_bestWay_47 : decode cX5_bestWay 47 = .ok (.iload 4, 2) := by decide +kernel
theorem dX5_bestWay_49 : decode cX5_bestWay 49 = .ok (.istore_n 2, 1) := by decide +kernel
theorem dX5_bestWay_50 : decode cX5_bestWay 50 = .ok (.iload 5, 2) := by decide +kernel
theorem dX5_bestWay_52 : decode cX5_bestWay 52 = .ok (.istore_n 3, 1) := by decide +kernel
theorem dX5_bestWay_53 : decode cX5_bestWay 53 = .ok (.iinc 4 1, 3) := by decide +kernel
theorem dX5_bestWay_56 : decode cX5_bestWay 56 = .ok (.goto (-29), 3) := by decide +kernel
theorem dX5_bestWay_59 : decode cX5_bestWay 59 = .ok (.iload_n 2, 1) := by decide +kernel
theorem dX5_bestWay_60 : decode cX5_bestWay 60 = .ok (.ireturn, 1) := by decide +kernel
theorem dX5_backIn_0 : decode cX5_backIn 0 = .ok (.aload_n 0, 1) := by decide +kernel
theorem dX5_backIn_1 : decode cX5_backIn 1 = .ok (.getfield 10, 3) := by decide +kernel
theorem dX5_backIn_4 : decode cX5_backIn 4 = .ok (.getfield 129, 3) := by decide +kernel
theorem dX5_backIn_7 : decode cX5_backIn 7 = .ok (.astore_n 2, 1) := by decide +kernel
theorem dX5_backIn_8 : decode cX5_backIn 8 = .ok (.aload_n 2, 1) := by decide +kernel
theorem dX5_backIn_9 : decode cX5_backIn 9 = .ok (.invokevirtual 133, 3) := by decide +kernel
theorem dX5_backIn_12 : decode cX5_backIn 12 = .ok (.ifCond .ne 6, 3) := by decide +kernel
theorem dX5_backIn_15 : decode cX5_backIn 15 = .ok (.bipush (-4), 2) := by decide +kernel
theorem dX5_backIn_17 : decode cX5_backIn 17 = .ok (.ireturn, 1) := by decide +kernel
theorem dX5_backIn_18 : decode cX5_backIn 18 = .ok (.aload_n 2, 1) := by decide +kernel
theorem dX5_backIn_19 : decode cX5_backIn 19 = .ok (.iload_n 1, 1) := by decide +kernel
theorem dX5_backIn_20 : decode cX5_backIn 20 = .ok (.invokevirtual 150, 3) := by decide +kernel
theorem dX5_backIn_23 : decode cX5_backIn 23 = .ok (.ifCond .ne 6, 3) := by decide +kernel
theorem dX5_backIn_26 : decode cX5_backIn 26 = .ok (.bipush (-2), 2) := by decide +kernel
theorem dX5_backIn_28 : decode cX5_backIn 28 = .ok (.ireturn, 1) := by decide +kernel
theorem dX5_backIn_29 : decode cX5_backIn 29 = .ok (.iload_n 1, 1) := by decide +kernel
theorem dX5_backIn_30 : decode cX5_backIn 30 = .ok (.aload_n 2, 1) := by decide +kernel
theorem dX5_backIn_31 : decode cX5_backIn 31 = .ok (.invokevirtual 165, 3) := by decide +kernel
theorem dX5_backIn_34 : decode cX5_backIn 34 = .ok (.invokestatic 253, 3) := by decide +kernel
theorem dX5_backIn_37 : decode cX5_backIn 37 = .ok (.istore_n 3, 1) := by decide +kernel
theorem dX5_backIn_38 : decode cX5_backIn 38 = .ok (.iload_n 3, 1) := by decide +kernel
theorem dX5_backIn_39 : decode cX5_backIn 39 = .ok (.sipush 500, 3) := by decide +kernel
theorem dX5_backIn_42 : decode cX5_backIn 42 = .ok (.if_icmp .le 8, 3) := by decide +kernel
theorem dX5_backIn_45 : decode cX5_backIn 45 = .ok (.bipush (-5), 2) := by decide +kernel
theorem dX5_backIn_47 : decode cX5_backIn 47 = .ok (.goto 4, 3) := by decide +kernel
theorem dX5_backIn_50 : decode cX5_backIn 50 = .ok (.iload_n 3, 1) := by decide +kernel
theorem dX5_backIn_51 : decode cX5_backIn 51 = .ok (.ireturn, 1) := by decide +kernel
theorem dX5_doChange_0 : decode cX5_doChange 0 = .ok (.iload_n 1, 1) := by decide +kernel
theorem dX5_doChange_1 : decode cX5_doChange 1 = .ok (.bipush 115, 2) := by decide +kernel
theorem dX5_doChange_3 : decode cX5_doChange 3 = .ok (.if_icmp .ne 15, 3) := by decide +kernel
theorem dX5_doChange_6 : decode cX5_doChange 6 = .ok (.aload_n 0, 1) := by decide +kernel
theorem dX5_doChange_7 : decode cX5_doChange 7 = .ok (.getfield 10, 3) := by decide +kernel
theorem dX5_doChange_10 : decode cX5_doChange 10 = .ok (.iload_n 2, 1) := by decide +kernel
theorem dX5_doChange_11 : decode cX5_doChange 11 = .ok (.iload_n 3, 1) := by decide +kernel
theorem dX5_doChange_12 : decode cX5_doChange 12 = .ok (.invokevirtual 49, 3) := by decide +kernel
theorem dX5_doChange_15 : decode cX5_doChange 15 = .ok (.goto 44, 3) := by decide +kernel
theorem dX5_doChange_18 : decode cX5_doChange 18 = .ok (.iload_n 1, 1) := by decide +kernel
theorem dX5_doChange_19 : decode cX5_doChange 19 = .ok (.bipush 108, 2) := by decide +kernel
theorem dX5_doChange_21 : decode cX5_doChange 21 = .ok (.if_icmp .ne 18, 3) := by decide +kernel
theorem dX5_doChange_24 : decode cX5_doChange 24 = .ok (.aload_n 0, 1) := by decide +kernel
theorem dX5_doChange_25 : decode cX5_doChange 25 = .ok (.getfield 10, 3) := by decide +kernel
theorem dX5_doChange_28 : decode cX5_doChange 28 = .ok (.getfield 80, 3) := by decide +kernel
theorem dX5_doChange_31 : decode cX5_doChange 31 = .ok (.iload_n 2, 1) := by decide +kernel
theorem dX5_doChange_32 : decode cX5_doChange 32 = .ok (.iload_n 3, 1) := by decide +kernel
theorem dX5_doChange_33 : decode cX5_doChange 33 = .ok (.invokestatic 83, 3) := by decide +kernel
theorem dX5_doChange_36 : decode cX5_doChange 36 = .ok (.goto 23, 3) := by decide +kernel
theorem dX5_doChange_39 : decode cX5_doChange 39 = .ok (.aload_n 0, 1) := by decide +kernel
theorem dX5_doChange_40 : decode cX5_doChange 40 = .ok (.getfield 10, 3) := by decide +kernel
theorem dX5_doChange_43 : decode cX5_doChange 43 = .ok (.iload_n 2, 1) := by decide +kernel
theorem dX5_doChange_44 : decode cX5_doChange 44 = .ok (.iload_n 3, 1) := by decide +kernel
theorem dX5_doChange_45 : decode cX5_doChange 45 = .ok (.iload_n 1, 1) := by decide +kernel
theorem dX5_doChange_46 : decode cX5_doChange 46 = .ok (.bipush 109, 2) := by decide +kernel
theorem dX5_doChange_48 : decode cX5_doChange 48 = .ok (.if_icmp .ne 7, 3) := by decide +kernel
theorem dX5_doChange_51 : decode cX5_doChange 51 = .ok (.iconst 1, 1) := by decide +kernel
theorem dX5_doChange_52 : decode cX5_doChange 52 = .ok (.goto 4, 3) := by decide +kernel
theorem dX5_doChange_55 : decode cX5_doChange 55 = .ok (.iconst 0, 1) := by decide +kernel
theorem dX5_doChange_56 : decode cX5_doChange 56 = .ok (.invokevirtual 67, 3) := by decide +kernel
theorem dX5_doChange_59 : decode cX5_doChange 59 = .ok (.return_, 1) := by decide +kernel
theorem dX5_isCell_0 : decode cX5_isCell 0 = .ok (.iload_n 0, 1) := by decide +kernel
theorem dX5_isCell_1 : decode cX5_isCell 1 = .ok (.ifCond .lt 13, 3) := by decide +kernel
theorem dX5_isCell_4 : decode cX5_isCell 4 = .ok (.iload_n 0, 1) := by decide +kernel
theorem dX5_isCell_5 : decode cX5_isCell 5 = .ok (.bipush 24, 2) := by decide +kernel
theorem dX5_isCell_7 : decode cX5_isCell 7 = .ok (.if_icmp .ge 7, 3) := by decide +kernel
theorem dX5_isCell_10 : decode cX5_isCell 10 = .ok (.iconst 1, 1) := by decide +kernel
theorem dX5_isCell_11 : decode cX5_isCell 11 = .ok (.goto 4, 3) := by decide +kernel
theorem dX5_isCell_14 : decode cX5_isCell 14 = .ok (.iconst 0, 1) := by decide +kernel
theorem dX5_isCell_15 : decode cX5_isCell 15 = .ok (.ireturn, 1) := by decide +kernel
theorem dX5_isCard_0 : decode cX5_isCard 0 = .ok (.iload_n 0, 1) := by decide +kernel
theorem dX5_isCard_1 : decode cX5_isCard 1 = .ok (.ifCond .lt 13, 3) := by decide +kernel
theorem dX5_isCard_4 : decode cX5_isCard 4 = .ok (.iload_n 0, 1) := by decide +kernel
theorem dX5_isCard_5 : decode cX5_isCard 5 = .ok (.bipush 24, 2) := by decide +kernel
theorem dX5_isCard_7 : decode cX5_isCard 7 = .ok (.if_icmp .ge 7, 3) := by decide +kernel
theorem dX5_isCard_10 : decode cX5_isCard 10 = .ok (.iconst 1, 1) := by decide +kernel
theorem dX5_isCard_11 : decode cX5_isCard 11 = .ok (.goto 4, 3) := by decide +kernel
theorem dX5_isCard_14 : decode cX5_isCard 14 = .ok (.iconst 0, 1) := by decide +kernel
theorem dX5_isCard_15 : decode cX5_isCard 15 = .ok (.ireturn, 1) := by decide +kernel
theorem dX5_isMark_0 : decode cX5_isMark 0 = .ok (.iload_n 0, 1) := by decide +kernel
theorem dX5_isMark_1 : decode cX5_isMark 1 = .ok (.ifCond .lt 12, 3) := by decide +kernel
theorem dX5_isMark_4 : decode cX5_isMark 4 = .ok (.iload_n 0, 1) := by decide +kernel
theorem dX5_isMark_5 : decode cX5_isMark 5 = .ok (.iconst 4, 1) := by decide +kernel
theorem dX5_isMark_6 : decode cX5_isMark 6 = .ok (.if_icmp .ge 7, 3) := by decide +kernel
theorem dX5_isMark_9 : decode cX5_isMark 9 = .ok (.iconst 1, 1) := by decide +kernel
theorem dX5_isMark_10 : decode cX5_isMark 10 = .ok (.goto 4, 3) := by decide +kernel
theorem dX5_isMark_13 : decode cX5_isMark 13 = .ok (.iconst 0, 1) := by decide +kernel
theorem dX5_isMark_14 : decode cX5_isMark 14 = .ok (.ireturn, 1) := by decide +kernel
theorem dX5_isCourt_0 : decode cX5_isCourt 0 = .ok (.iload_n 0, 1) := by decide +kernel
theorem dX5_isCourt_1 : decode cX5_isCourt 1 = .ok (.bipush 6, 2) := by decide +kernel
theorem dX5_isCourt_3 : decode cX5_isCourt 3 = .ok (.irem, 1) := by decide +kernel
theorem dX5_isCourt_4 : decode cX5_isCourt 4 = .ok (.iconst 3, 1) := by decide +kernel
theorem dX5_isCourt_5 : decode cX5_isCourt 5 = .ok (.if_icmp .lt 7, 3) := by decide +kernel
theorem dX5_isCourt_8 : decode cX5_isCourt 8 = .ok (.iconst 1, 1) := by decide +kernel
theorem dX5_isCourt_9 : decode cX5_isCourt 9 = .ok (.goto 4, 3) := by decide +kernel
theorem dX5_isCourt_12 : decode cX5_isCourt 12 = .ok (.iconst 0, 1) := by decide +kernel
theorem dX5_isCourt_13 : decode cX5_isCourt 13 = .ok (.ireturn, 1) := by decide +kernel
theorem dX5_at_0 : decode cX5_at 0 = .ok (.iload_n 1, 1) := by decide +kernel
theorem dX5_at_1 : decode cX5_at 1 = .ok (.ifCond .lt 15, 3) := by decide +kernel
theorem dX5_at_4 : decode cX5_at 4 = .ok (.iload_n 1, 1) := by decide +kernel
theorem dX5_at_5 : decode cX5_at 5 = .ok (.aload_n 0, 1) := by decide +kernel
theorem dX5_at_6 : decode cX5_at 6 = .ok (.arraylength, 1) := by decide +kernel
theorem dX5_at_7 : decode cX5_at 7 = .ok (.if_icmp .ge 9, 3) := by decide +kernel
theorem dX5_at_10 : decode cX5_at 10 = .ok (.aload_n 0, 1) := by decide +kernel
theorem dX5_at_11 : decode cX5_at 11 = .ok (.iload_n 1, 1) := by decide +kernel
theorem dX5_at_12 : decode cX5_at 12 = .ok (.iaload, 1) := by decide +kernel
theorem dX5_at_13 : decode cX5_at 13 = .ok (.goto 4, 3) := by decide +kernel
theorem dX5_at_16 : decode cX5_at 16 = .ok (.iconst 0, 1) := by decide +kernel
theorem dX5_at_17 : decode cX5_at 17 = .ok (.ireturn, 1) := by decide +kernel
theorem dX5_put_0 : decode cX5_put 0 = .ok (.iload_n 1, 1) := by decide +kernel
theorem dX5_put_1 : decode cX5_put 1 = .ok (.ifCond .lt 13, 3) := by decide +kernel
theorem dX5_put_4 : decode cX5_put 4 = .ok (.iload_n 1, 1) := by decide +kernel
theorem dX5_put_5 : decode cX5_put 5 = .ok (.aload_n 0, 1) := by decide +kernel
theorem dX5_put_6 : decode cX5_put 6 = .ok (.arraylength, 1) := by decide +kernel
theorem dX5_put_7 : decode cX5_put 7 = .ok (.if_icmp .ge 7, 3) := by decide +kernel
theorem dX5_put_10 : decode cX5_put 10 = .ok (.aload_n 0, 1) := by decide +kernel
theorem dX5_put_11 : decode cX5_put 11 = .ok (.iload_n 1, 1) := by decide +kernel
theorem dX5_put_12 : decode cX5_put 12 = .ok (.iload_n 2, 1) := by decide +kernel
theorem dX5_put_13 : decode cX5_put 13 = .ok (.iastore, 1) := by decide +kernel
theorem dX5_put_14 : decode cX5_put 14 = .ok (.return_, 1) := by decide +kernel
theorem dX5_copyRow_0 : decode cX5_copyRow 0 = .ok (.aload_n 0, 1) := by decide +kernel
theorem dX5_copyRow_1 : decode cX5_copyRow 1 = .ok (.iconst 0, 1) := by decide +kernel
theorem dX5_copyRow_2 : decode cX5_copyRow 2 = .ok (.aload_n 1, 1) := by decide +kernel
theorem dX5_copyRow_3 : decode cX5_copyRow 3 = .ok (.iconst 0, 1) := by decide +kernel
theorem dX5_copyRow_4 : decode cX5_copyRow 4 = .ok (.aload_n 0, 1) := by decide +kernel
theorem dX5_copyRow_5 : decode cX5_copyRow 5 = .ok (.arraylength, 1) := by decide +kernel
theorem dX5_copyRow_6 : decode cX5_copyRow 6 = .ok (.aload_n 1, 1) := by decide +kernel
theorem dX5_copyRow_7 : decode cX5_copyRow 7 = .ok (.arraylength, 1) := by decide +kernel
theorem dX5_copyRow_8 : decode cX5_copyRow 8 = .ok (.invokestatic 257, 3) := by decide +kernel
theorem dX5_copyRow_11 : decode cX5_copyRow 11 = .ok (.invokestatic 262, 3) := by decide +kernel
theorem dX5_copyRow_14 : decode cX5_copyRow 14 = .ok (.return_, 1) := by decide +kernel
theorem dX5_courtsBeyond_0 : decode cX5_courtsBeyond 0 = .ok (.iconst 0, 1) := by decide +kernel
theorem dX5_courtsBeyond_1 : decode cX5_courtsBeyond 1 = .ok (.istore_n 2, 1) := by decide +kernel
theorem dX5_courtsBeyond_2 : decode cX5_courtsBeyond 2 = .ok (.iconst 0, 1) := by decide +kernel
theorem dX5_courtsBeyond_3 : decode cX5_courtsBeyond 3 = .ok (.istore_n 3, 1) := by decide +kernel
theorem dX5_courtsBeyond_4 : decode cX5_courtsBeyond 4 = .ok (.iload_n 3, 1) := by decide +kernel
theorem dX5_courtsBeyond_5 : decode cX5_courtsBeyond 5 = .ok (.aload_n 0, 1) := by decide +kernel
theorem dX5_courtsBeyond_6 : decode cX5_courtsBeyond 6 = .ok (.arraylength, 1) := by decide +kernel
theorem dX5_courtsBeyond_7 : decode cX5_courtsBeyond 7 = .ok (.if_icmp .ge 22, 3) := by decide +kernel
theorem dX5_courtsBeyond_10 : decode cX5_courtsBeyond 10 = .ok (.aload_n 0, 1) := by decide +kernel
theorem dX5_courtsBeyond_11 : decode cX5_courtsBeyond 11 = .ok (.iload_n 3, 1) := by decide +kernel
theorem dX5_courtsBeyond_12 : decode cX5_courtsBeyond 12 = .ok (.iaload, 1) := by decide +kernel
theorem dX5_courtsBeyond_13 : decode cX5_courtsBeyond 13 = .ok (.invokestatic 268, 3) := by decide +kernel
theorem dX5_courtsBeyond_16 : decode cX5_courtsBeyond 16 = .ok (.iload_n 1, 1) := by decide +kernel
theorem dX5_courtsBeyond_17 : decode cX5_courtsBeyond 17 = .ok (.if_icmp .le 6, 3) := by decide +kernel
theorem dX5_courtsBeyond_20 : decode cX5_courtsBeyond 20 = .ok (.iinc 2 1, 3) := by decide +kernel
theorem dX5_courtsBeyond_23 : decode cX5_courtsBeyond 23 = .ok (.iinc 3 1, 3) := by decide +kernel
theorem dX5_courtsBeyond_26 : decode cX5_courtsBeyond 26 = .ok (.goto (-22), 3) := by decide +kernel
theorem dX5_courtsBeyond_29 : decode cX5_courtsBeyond 29 = .ok (.iload_n 2, 1) := by decide +kernel
theorem dX5_courtsBeyond_30 : decode cX5_courtsBeyond 30 = .ok (.ireturn, 1) := by decide +kernel
theorem dX5_cellAt_0 : decode cX5_cellAt 0 = .ok (.iload_n 0, 1) := by decide +kernel
theorem dX5_cellAt_1 : decode cX5_cellAt 1 = .ok (.ifCond .eq 8, 3) := by decide +kernel
theorem dX5_cellAt_4 : decode cX5_cellAt 4 = .ok (.iload_n 0, 1) := by decide +kernel
theorem dX5_cellAt_5 : decode cX5_cellAt 5 = .ok (.iconst 2, 1) := by decide +kernel
theorem dX5_cellAt_6 : decode cX5_cellAt 6 = .ok (.if_icmp .ne 42, 3) := by decide +kernel
theorem dX5_cellAt_9 : decode cX5_cellAt 9 = .ok (.iload_n 1, 1) := by decide +kernel
theorem dX5_cellAt_10 : decode cX5_cellAt 10 = .ok (.bipush 6, 2) := by decide +kernel
theorem dX5_cellAt_12 : decode cX5_cellAt 12 = .ok (.idiv, 1) := by decide +kernel
theorem dX5_cellAt_13 : decode cX5_cellAt 13 = .ok (.istore_n 2, 1) := by decide +kernel
theorem dX5_cellAt_14 : decode cX5_cellAt 14 = .ok (.iload_n 0, 1) := by decide +kernel
theorem dX5_cellAt_15 : decode cX5_cellAt 15 = .ok (.iconst 2, 1) := by decide +kernel
theorem dX5_cellAt_16 : decode cX5_cellAt 16 = .ok (.if_icmp .ne 14, 3) := by decide +kernel
theorem dX5_cellAt_19 : decode cX5_cellAt 19 = .ok (.iload_n 2, 1) := by decide +kernel
theorem dX5_cellAt_20 : decode cX5_cellAt 20 = .ok (.iconst 2, 1) := by decide +kernel
theorem dX5_cellAt_21 : decode cX5_cellAt 21 = .ok (.irem, 1) := by decide +kernel
theorem dX5_cellAt_22 : decode cX5_cellAt 22 = .ok (.iconst 1, 1) := by decide +kernel
theorem dX5_cellAt_23 : decode cX5_cellAt 23 = .ok (.if_icmp .ne 7, 3) := by decide +kernel
theorem dX5_cellAt_26 : decode cX5_cellAt 26 = .ok (.iconst 1, 1) := by decide +kernel
theorem dX5_cellAt_27 : decode cX5_cellAt 27 = .ok (.goto 4, 3) := by decide +kernel
theorem dX5_cellAt_30 : decode cX5_cellAt 30 = .ok (.iconst 0, 1) := by decide +kernel
theorem dX5_cellAt_31 : decode cX5_cellAt 31 = .ok (.istore_n 3, 1) := by decide +kernel
theorem dX5_cellAt_32 : decode cX5_cellAt 32 = .ok (.bipush 6, 2) := by decide +kernel
theorem dX5_cellAt_34 : decode cX5_cellAt 34 = .ok (.iload_n 2, 1) := by decide +kernel
theorem dX5_cellAt_35 : decode cX5_cellAt 35 = .ok (.imul, 1) := by decide +kernel
theorem dX5_cellAt_36 : decode cX5_cellAt 36 = .ok (.iload_n 1, 1) := by decide +kernel
theorem dX5_cellAt_37 : decode cX5_cellAt 37 = .ok (.bipush 6, 2) := by decide +kernel
theorem dX5_cellAt_39 : decode cX5_cellAt 39 = .ok (.irem, 1) := by decide +kernel
theorem dX5_cellAt_40 : decode cX5_cellAt 40 = .ok (.bipush 6, 2) := by decide +kernel
theorem dX5_cellAt_42 : decode cX5_cellAt 42 = .ok (.iload_n 3, 1) := by decide +kernel
theorem dX5_cellAt_43 : decode cX5_cellAt 43 = .ok (.invokestatic 271, 3) := by decide +kernel
theorem dX5_cellAt_46 : decode cX5_cellAt 46 = .ok (.iadd, 1) := by decide +kernel
theorem dX5_cellAt_47 : decode cX5_cellAt 47 = .ok (.ireturn, 1) := by decide +kernel
theorem dX5_cellAt_48 : decode cX5_cellAt 48 = .ok (.iload_n 1, 1) := by decide +kernel
theorem dX5_cellAt_49 : decode cX5_cellAt 49 = .ok (.iconst 4, 1) := by decide +kernel
theorem dX5_cellAt_50 : decode cX5_cellAt 50 = .ok (.idiv, 1) := by decide +kernel
theorem dX5_cellAt_51 : decode cX5_cellAt 51 = .ok (.istore_n 2, 1) := by decide +kernel
theorem dX5_cellAt_52 : decode cX5_cellAt 52 = .ok (.iload_n 0, 1) := by decide +kernel
theorem dX5_cellAt_53 : decode cX5_cellAt 53 = .ok (.iconst 3, 1) := by decide +kernel
theorem dX5_cellAt_54 : decode cX5_cellAt 54 = .ok (.if_icmp .ne 14, 3) := by decide +kernel
theorem dX5_cellAt_57 : decode cX5_cellAt 57 = .ok (.iload_n 2, 1) := by decide +kernel
theorem dX5_cellAt_58 : decode cX5_cellAt 58 = .ok (.iconst 2, 1) := by decide +kernel
theorem dX5_cellAt_59 : decode cX5_cellAt 59 = .ok (.irem, 1) := by decide +kernel
theorem dX5_cellAt_60 : decode cX5_cellAt 60 = .ok (.iconst 1, 1) := by decide +kernel
theorem dX5_cellAt_61 : decode cX5_cellAt 61 = .ok (.if_icmp .ne 7, 3) := by decide +kernel
theorem dX5_cellAt_64 : decode cX5_cellAt 64 = .ok (.iconst 1, 1) := by decide +kernel
theorem dX5_cellAt_65 : decode cX5_cellAt 65 = .ok (.goto 4, 3) := by decide +kernel
theorem dX5_cellAt_68 : decode cX5_cellAt 68 = .ok (.iconst 0, 1) := by decide +kernel
theorem dX5_cellAt_69 : decode cX5_cellAt 69 = .ok (.istore_n 3, 1) := by decide +kernel
theorem dX5_cellAt_70 : decode cX5_cellAt 70 = .ok (.bipush 6, 2) := by decide +kernel
theorem dX5_cellAt_72 : decode cX5_cellAt 72 = .ok (.iload_n 1, 1) := by decide +kernel
theorem dX5_cellAt_73 : decode cX5_cellAt 73 = .ok (.iconst 4, 1) := by decide +kernel
theorem dX5_cellAt_74 : decode cX5_cellAt 74 = .ok (.irem, 1) := by decide +kernel
theorem dX5_cellAt_75 : decode cX5_cellAt 75 = .ok (.iconst 4, 1) := by decide +kernel
theorem dX5_cellAt_76 : decode cX5_cellAt 76 = .ok (.iload_n 3, 1) := by decide +kernel
theorem dX5_cellAt_77 : decode cX5_cellAt 77 = .ok (.invokestatic 271, 3) := by decide +kernel
theorem dX5_cellAt_80 : decode cX5_cellAt 80 = .ok (.imul, 1) := by decide +kernel
theorem dX5_cellAt_81 : decode cX5_cellAt 81 = .ok (.iload_n 2, 1) := by decide +kernel
theorem dX5_cellAt_82 : decode cX5_cellAt 82 = .ok (.iadd, 1) := by decide +kernel
theorem dX5_cellAt_83 : decode cX5_cellAt 83 = .ok (.ireturn, 1) := by decide +kernel
theorem dX5_along_0 : decode cX5_along 0 = .ok (.iload_n 2, 1) := by decide +kernel
theorem dX5_along_1 : decode cX5_along 1 = .ok (.ifCond .eq 11, 3) := by decide +kernel
theorem dX5_along_4 : decode cX5_along 4 = .ok (.iload_n 1, 1) := by decide +kernel
theorem dX5_along_5 : decode cX5_along 5 = .ok (.iconst 1, 1) := by decide +kernel
theorem dX5_along_6 : decode cX5_along 6 = .ok (.isub, 1) := by decide +kernel
theorem dX5_along_7 : decode cX5_along 7 = .ok (.iload_n 0, 1) := by decide +kernel
theorem dX5_along_8 : decode cX5_along 8 = .ok (.isub, 1) := by decide +kernel
theorem dX5_along_9 : decode cX5_along 9 = .ok (.goto 4, 3) := by decide +kernel
theorem dX5_along_12 : decode cX5_along 12 = .ok (.iload_n 0, 1) := by decide +kernel
theorem dX5_along_13 : decode cX5_along 13 = .ok (.ireturn, 1) := by decide +kernel
theorem dX5_placeBefore_0 : decode cX5_placeBefore 0 = .ok (.iload_n 1, 1) := by decide +kernel
theorem dX5_placeBefore_1 : decode cX5_placeBefore 1 = .ok (.iload_n 2, 1) := by decide +kernel
theorem dX5_placeBefore_2 : decode cX5_placeBefore 2 = .ok (.iload_n 1, 1) := by decide +kernel
theorem dX5_placeBefore_3 : decode cX5_placeBefore 3 = .ok (.isub, 1) := by decide +kernel
theorem dX5_placeBefore_4 : decode cX5_placeBefore 4 = .ok (.invokestatic 257, 3) := by decide +kernel
theorem dX5_placeBefore_7 : decode cX5_placeBefore 7 = .ok (.istore_n 3, 1) := by decide +kernel
theorem dX5_placeBefore_8 : decode cX5_placeBefore 8 = .ok (.iload_n 0, 1) := by decide +kernel
theorem dX5_placeBefore_9 : decode cX5_placeBefore 9 = .ok (.iconst 2, 1) := by decide +kernel
theorem dX5_placeBefore_10 : decode cX5_placeBefore 10 = .ok (.iload_n 3, 1) := by decide +kernel
theorem dX5_placeBefore_11 : decode cX5_placeBefore 11 = .ok (.imul, 1) := by decide +kernel
theorem dX5_placeBefore_12 : decode cX5_placeBefore 12 = .ok (.if_icmp .lt 16, 3) := by decide +kernel
theorem dX5_placeBefore_15 : decode cX5_placeBefore 15 = .ok (.iload_n 1, 1) := by decide +kernel
theorem dX5_placeBefore_16 : decode cX5_placeBefore 16 = .ok (.iload_n 3, 1) := by decide +kernel
theorem dX5_placeBefore_17 : decode cX5_placeBefore 17 = .ok (.if_icmp .le 9, 3) := by decide +kernel
theorem dX5_placeBefore_20 : decode cX5_placeBefore 20 = .ok (.iload_n 0, 1) := by decide +kernel
theorem dX5_placeBefore_21 : decode cX5_placeBefore 21 = .ok (.iload_n 3, 1) := by decide +kernel
theorem dX5_placeBefore_22 : decode cX5_placeBefore 22 = .ok (.isub, 1) := by decide +kernel
theorem dX5_placeBefore_23 : decode cX5_placeBefore 23 = .ok (.goto 4, 3) := by decide +kernel
theorem dX5_placeBefore_26 : decode cX5_placeBefore 26 = .ok (.iload_n 0, 1) := by decide +kernel
theorem dX5_placeBefore_27 : decode cX5_placeBefore 27 = .ok (.ireturn, 1) := by decide +kernel
theorem dX5_placeBefore_28 : decode cX5_placeBefore 28 = .ok (.iload_n 0, 1) := by decide +kernel
theorem dX5_placeBefore_29 : decode cX5_placeBefore 29 = .ok (.iconst 2, 1) := by decide +kernel
theorem dX5_placeBefore_30 : decode cX5_placeBefore 30 = .ok (.irem, 1) := by decide +kernel
theorem dX5_placeBefore_31 : decode cX5_placeBefore 31 = .ok (.ifCond .ne 9, 3) := by decide +kernel
theorem dX5_placeBefore_34 : decode cX5_placeBefore 34 = .ok (.iload_n 0, 1) := by decide +kernel
theorem dX5_placeBefore_35 : decode cX5_placeBefore 35 = .ok (.iconst 2, 1) := by decide +kernel
theorem dX5_placeBefore_36 : decode cX5_placeBefore 36 = .ok (.idiv, 1) := by decide +kernel
theorem dX5_placeBefore_37 : decode cX5_placeBefore 37 = .ok (.goto 8, 3) := by decide +kernel
theorem dX5_placeBefore_40 : decode cX5_placeBefore 40 = .ok (.iload_n 1, 1) := by decide +kernel
theorem dX5_placeBefore_41 : decode cX5_placeBefore 41 = .ok (.iload_n 0, 1) := by decide +kernel
theorem dX5_placeBefore_42 : decode cX5_placeBefore 42 = .ok (.iconst 2, 1) := by decide +kernel
theorem dX5_placeBefore_43 : decode cX5_placeBefore 43 = .ok (.idiv, 1) := by decide +kernel
theorem dX5_placeBefore_44 : decode cX5_placeBefore 44 = .ok (.iadd, 1) := by decide +kernel
theorem dX5_placeBefore_45 : decode cX5_placeBefore 45 = .ok (.ireturn, 1) := by decide +kernel
theorem dX5_shufflesUntilBack_0 : decode cX5_shufflesUntilBack 0 = .ok (.iconst 1, 1) := by decide +kernel
theorem dX5_shufflesUntilBack_1 : decode cX5_shufflesUntilBack 1 = .ok (.istore_n 2, 1) := by decide +kernel
theorem dX5_shufflesUntilBack_2 : decode cX5_shufflesUntilBack 2 = .ok (.iconst 0, 1) := by decide +kernel
theorem dX5_shufflesUntilBack_3 : decode cX5_shufflesUntilBack 3 = .ok (.istore_n 3, 1) := by decide +kernel
theorem dX5_shufflesUntilBack_4 : decode cX5_shufflesUntilBack 4 = .ok (.iload_n 3, 1) := by decide +kernel
theorem dX5_shufflesUntilBack_5 : decode cX5_shufflesUntilBack 5 = .ok (.iload_n 1, 1) := by decide +kernel
theorem dX5_shufflesUntilBack_6 : decode cX5_shufflesUntilBack 6 = .ok (.if_icmp .ge 20, 3) := by decide +kernel
theorem dX5_shufflesUntilBack_9 : decode cX5_shufflesUntilBack 9 = .ok (.iload_n 2, 1) := by decide +kernel
theorem dX5_shufflesUntilBack_10 : decode cX5_shufflesUntilBack 10 = .ok (.iload_n 3, 1) := by decide +kernel
theorem dX5_shufflesUntilBack_11 : decode cX5_shufflesUntilBack 11 = .ok (.iload_n 0, 1) := by decide +kernel
theorem dX5_shufflesUntilBack_12 : decode cX5_shufflesUntilBack 12 = .ok (.iload_n 1, 1) := by decide +kernel
theorem dX5_shufflesUntilBack_13 : decode cX5_shufflesUntilBack 13 = .ok (.invokestatic 275, 3) := by decide +kernel
theorem dX5_shufflesUntilBack_16 : decode cX5_shufflesUntilBack 16 = .ok (.invokestatic 279, 3) := by decide +kernel
theorem dX5_shufflesUntilBack_19 : decode cX5_shufflesUntilBack 19 = .ok (.istore_n 2, 1) := by decide +kernel
theorem dX5_shufflesUntilBack_20 : decode cX5_shufflesUntilBack 20 = .ok (.iinc 3 1, 3) := by decide +kernel
theorem dX5_shufflesUntilBack_23 : decode cX5_shufflesUntilBack 23 = .ok (.goto (-19), 3) := by decide +kernel
theorem dX5_shufflesUntilBack_26 : decode cX5_shufflesUntilBack 26 = .ok (.iload_n 2, 1) := by decide +kernel
theorem dX5_shufflesUntilBack_27 : decode cX5_shufflesUntilBack 27 = .ok (.ireturn, 1) := by decide +kernel
theorem dX5_roundOf_0 : decode cX5_roundOf 0 = .ok (.iload_n 0, 1) := by decide +kernel
theorem dX5_roundOf_1 : decode cX5_roundOf 1 = .ok (.istore_n 3, 1) := by decide +kernel
theorem dX5_roundOf_2 : decode cX5_roundOf 2 = .ok (.iconst 1, 1) := by decide +kernel
theorem dX5_roundOf_3 : decode cX5_roundOf 3 = .ok (.istore 4, 2) := by decide +kernel
theorem dX5_roundOf_5 : decode cX5_roundOf 5 = .ok (.iload 4, 2) := by decide +kernel
theorem dX5_roundOf_7 : decode cX5_roundOf 7 = .ok (.iload_n 2, 1) := by decide +kernel
theorem dX5_roundOf_8 : decode cX5_roundOf 8 = .ok (.if_icmp .ge 24, 3) := by decide +kernel
theorem dX5_roundOf_11 : decode cX5_roundOf 11 = .ok (.iload_n 3, 1) := by decide +kernel
theorem dX5_roundOf_12 : decode cX5_roundOf 12 = .ok (.iload_n 1, 1) := by decide +kernel
theorem dX5_roundOf_13 : decode cX5_roundOf 13 = .ok (.iload_n 2, 1) := by decide +kernel
theorem dX5_roundOf_14 : decode cX5_roundOf 14 = .ok (.invokestatic 282, 3) := by decide +kernel
theorem dX5_roundOf_17 : decode cX5_roundOf 17 = .ok (.istore_n 3, 1) := by decide +kernel
theorem dX5_roundOf_18 : decode cX5_roundOf 18 = .ok (.iload_n 3, 1) := by decide +kernel
theorem dX5_roundOf_19 : decode cX5_roundOf 19 = .ok (.iload_n 0, 1) := by decide +kernel
theorem dX5_roundOf_20 : decode cX5_roundOf 20 = .ok (.if_icmp .ne 6, 3) := by decide +kernel
theorem dX5_roundOf_23 : decode cX5_roundOf 23 = .ok (.iload 4, 2) := by decide +kernel
theorem dX5_roundOf_25 : decode cX5_roundOf 25 = .ok (.ireturn, 1) := by decide +kernel
theorem dX5_roundOf_26 : decode cX5_roundOf 26 = .ok (.iinc 4 1, 3) := by decide +kernel
theorem dX5_roundOf_29 : decode cX5_roundOf 29 = .ok (.goto (-24), 3) := by decide +kernel
theorem dX5_roundOf_32 : decode cX5_roundOf 32 = .ok (.iload_n 2, 1) := by decide +kernel
theorem dX5_roundOf_33 : decode cX5_roundOf 33 = .ok (.ireturn, 1) := by decide +kernel
theorem dX5_leastCommonMultiple_0 : decode cX5_leastCommonMultiple 0 = .ok (.iconst 1, 1) := by decide +kernel
theorem dX5_leastCommonMultiple_1 : decode cX5_leastCommonMultiple 1 = .ok (.istore_n 2, 1) := by decide +kernel
theorem dX5_leastCommonMultiple_2 : decode cX5_leastCommonMultiple 2 = .ok (.iload_n 2, 1) := by decide +kernel
theorem dX5_leastCommonMultiple_3 : decode cX5_leastCommonMultiple 3 = .ok (.iload_n 1, 1) := by decide +kernel
theorem dX5_leastCommonMultiple_4 : decode cX5_leastCommonMultiple 4 = .ok (.if_icmp .ge 21, 3) := by decide +kernel
theorem dX5_leastCommonMultiple_7 : decode cX5_leastCommonMultiple 7 = .ok (.iload_n 0, 1) := by decide +kernel
theorem dX5_leastCommonMultiple_8 : decode cX5_leastCommonMultiple 8 = .ok (.iload_n 2, 1) := by decide +kernel
theorem dX5_leastCommonMultiple_9 : decode cX5_leastCommonMultiple 9 = .ok (.imul, 1) := by decide +kernel
theorem dX5_leastCommonMultiple_10 : decode cX5_leastCommonMultiple 10 = .ok (.iload_n 1, 1) := by decide +kernel
theorem dX5_leastCommonMultiple_11 : decode cX5_leastCommonMultiple 11 = .ok (.irem, 1) := by decide +kernel
theorem dX5_leastCommonMultiple_12 : decode cX5_leastCommonMultiple 12 = .ok (.ifCond .ne 7, 3) := by decide +kernel
theorem dX5_leastCommonMultiple_15 : decode cX5_leastCommonMultiple 15 = .ok (.iload_n 0, 1) := by decide +kernel
theorem dX5_leastCommonMultiple_16 : decode cX5_leastCommonMultiple 16 = .ok (.iload_n 2, 1) := by decide +kernel
theorem dX5_leastCommonMultiple_17 : decode cX5_leastCommonMultiple 17 = .ok (.imul, 1) := by decide +kernel
theorem dX5_leastCommonMultiple_18 : decode cX5_leastCommonMultiple 18 = .ok (.ireturn, 1) := by decide +kernel
theorem dX5_leastCommonMultiple_19 : decode cX5_leastCommonMultiple 19 = .ok (.iinc 2 1, 3) := by decide +kernel
theorem dX5_leastCommonMultiple_22 : decode cX5_leastCommonMultiple 22 = .ok (.goto (-20), 3) := by decide +kernel
theorem dX5_leastCommonMultiple_25 : decode cX5_leastCommonMultiple 25 = .ok (.iload_n 0, 1) := by decide +kernel
theorem dX5_leastCommonMultiple_26 : decode cX5_leastCommonMultiple 26 = .ok (.iload_n 1, 1) := by decide +kernel
theorem dX5_leastCommonMultiple_27 : decode cX5_leastCommonMultiple 27 = .ok (.imul, 1) := by decide +kernel
theorem dX5_leastCommonMultiple_28 : decode cX5_leastCommonMultiple 28 = .ok (.ireturn, 1) := by decide +kernel
theorem dX6_init_0 : decode cX6_init 0 = .ok (.aload_n 0, 1) := by decide +kernel
theorem dX6_init_1 : decode cX6_init 1 = .ok (.invokespecial 1, 3) := by decide +kernel
theorem dX6_init_4 : decode cX6_init 4 = .ok (.aload_n 0, 1) := by decide +kernel
theorem dX6_init_5 : decode cX6_init 5 = .ok (.sipush 611, 3) := by decide +kernel
theorem dX6_init_8 : decode cX6_init 8 = .ok (.newarray .int, 2) := by decide +kernel
theorem dX6_init_10 : decode cX6_init 10 = .ok (.putfield 7, 3) := by decide +kernel
theorem dX6_init_13 : decode cX6_init 13 = .ok (.aload_n 0, 1) := by decide +kernel
theorem dX6_init_14 : decode cX6_init 14 = .ok (.sipush 611, 3) := by decide +kernel
theorem dX6_init_17 : decode cX6_init 17 = .ok (.newarray .int, 2) := by decide +kernel
theorem dX6_init_19 : decode cX6_init 19 = .ok (.putfield 13, 3) := by decide +kernel
theorem dX6_init_22 : decode cX6_init 22 = .ok (.aload_n 0, 1) := by decide +kernel
theorem dX6_init_23 : decode cX6_init 23 = .ok (.sipush 2444, 3) := by decide +kernel
theorem dX6_init_26 : decode cX6_init 26 = .ok (.newarray .int, 2) := by decide +kernel
theorem dX6_init_28 : decode cX6_init 28 = .ok (.putfield 16, 3) := by decide +kernel
theorem dX6_init_31 : decode cX6_init 31 = .ok (.aload_n 0, 1) := by decide +kernel
theorem dX6_init_32 : decode cX6_init 32 = .ok (.sipush 611, 3) := by decide +kernel
theorem dX6_init_35 : decode cX6_init 35 = .ok (.newarray .int, 2) := by decide +kernel
theorem dX6_init_37 : decode cX6_init 37 = .ok (.putfield 19, 3) := by decide +kernel
theorem dX6_init_40 : decode cX6_init 40 = .ok (.aload_n 0, 1) := by decide +kernel
theorem dX6_init_41 : decode cX6_init 41 = .ok (.bipush 60, 2) := by decide +kernel
theorem dX6_init_43 : decode cX6_init 43 = .ok (.newarray .int, 2) := by decide +kernel
theorem dX6_init_45 : decode cX6_init 45 = .ok (.putfield 22, 3) := by decide +kernel
theorem dX6_init_48 : decode cX6_init 48 = .ok (.aload_n 0, 1) := by decide +kernel
theorem dX6_init_49 : decode cX6_init 49 = .ok (.bipush 24, 2) := by decide +kernel
theorem dX6_init_51 : decode cX6_init 51 = .ok (.newarray .int, 2) := by decide +kernel
theorem dX6_init_53 : decode cX6_init 53 = .ok (.putfield 25, 3) := by decide +kernel
theorem dX6_init_56 : decode cX6_init 56 = .ok (.aload_n 0, 1) := by decide +kernel
theorem dX6_init_57 : decode cX6_init 57 = .ok (.bipush 24, 2) := by decide +kernel
theorem dX6_init_59 : decode cX6_init 59 = .ok (.newarray .int, 2) := by decide +kernel
theorem dX6_init_61 : decode cX6_init 61 = .ok (.putfield 28, 3) := by decide +kernel
theorem dX6_init_64 : decode cX6_init 64 = .ok (.aload_n 0, 1) := by decide +kernel
theorem dX6_init_65 : decode cX6_init 65 = .ok (.getfield 7, 3) := by decide +kernel
theorem dX6_init_68 : decode cX6_init 68 = .ok (.iconst 0, 1) := by decide +kernel
theorem dX6_init_69 : decode cX6_init 69 = .ok (.bipush 10, 2) := by decide +kernel
theorem dX6_init_71 : decode cX6_init 71 = .ok (.iastore, 1) := by decide +kernel
theorem dX6_init_72 : decode cX6_init 72 = .ok (.aload_n 0, 1) := by decide +kernel
theorem dX6_init_73 : decode cX6_init 73 = .ok (.getfield 7, 3) := by decide +kernel
theorem dX6_init_76 : decode cX6_init 76 = .ok (.iconst 1, 1) := by decide +kernel
theorem dX6_init_77 : decode cX6_init 77 = .ok (.iconst 3, 1) := by decide +kernel
theorem dX6_init_78 : decode cX6_init 78 = .ok (.iastore, 1) := by decide +kernel
theorem dX6_init_79 : decode cX6_init 79 = .ok (.aload_n 0, 1) := by decide +kernel
theorem dX6_init_80 : decode cX6_init 80 = .ok (.getfield 7, 3) := by decide +kernel
theorem dX6_init_83 : decode cX6_init 83 = .ok (.iconst 2, 1) := by decide +kernel
theorem dX6_init_84 : decode cX6_init 84 = .ok (.iconst 4, 1) := by decide +kernel
theorem dX6_init_85 : decode cX6_init 85 = .ok (.iastore, 1) := by decide +kernel
theorem dX6_init_86 : decode cX6_init 86 = .ok (.aload_n 0, 1) := by decide +kernel
theorem dX6_init_87 : decode cX6_init 87 = .ok (.getfield 7, 3) := by decide +kernel
theorem dX6_init_90 : decode cX6_init 90 = .ok (.iconst 3, 1) := by decide +kernel
theorem dX6_init_91 : decode cX6_init 91 = .ok (.bipush 12, 2) := by decide +kernel
theorem dX6_init_93 : decode cX6_init 93 = .ok (.iastore, 1) := by decide +kernel
theorem dX6_init_94 : decode cX6_init 94 = .ok (.iconst 0, 1) := by decide +kernel
theorem dX6_init_95 : decode cX6_init 95 = .ok (.istore_n 1, 1) := by decide +kernel
theorem dX6_init_96 : decode cX6_init 96 = .ok (.iload_n 1, 1) := by decide +kernel
theorem dX6_init_97 : decode cX6_init 97 = .ok (.bipush 24, 2) := by decide +kernel
theorem dX6_init_99 : decode cX6_init 99 = .ok (.if_icmp .ge 19, 3) := by decide +kernel
theorem dX6_init_102 : decode cX6_init 102 = .ok (.aload_n 0, 1) := by decide +kernel
theorem dX6_init_103 : decode cX6_init 103 = .ok (.getfield 7, 3) := by decide +kernel
theorem dX6_init_106 : decode cX6_init 106 = .ok (.bipush 11, 2) := by decide +kernel
theorem dX6_init_108 : decode cX6_init 108 = .ok (.iload_n 1, 1) := by decide +kernel
theorem dX6_init_109 : decode cX6_init 109 = .ok (.iadd, 1) := by decide +kernel
theorem dX6_init_110 : decode cX6_init 110 = .ok (.iload_n 1, 1) := by decide +kernel
theorem dX6_init_111 : decode cX6_init 111 = .ok (.iastore, 1) := by decide +kernel
theorem dX6_init_112 : decode cX6_init 112 = .ok (.iinc 1 1, 3) := by decide +kernel
theorem dX6_init_115 : decode cX6_init 115 = .ok (.goto (-19), 3) := by decide +kernel
theorem dX6_init_118 : decode cX6_init 118 = .ok (.return_, 1) := by decide +kernel
theorem dX6_within_0 : decode cX6_within 0 = .ok (.iload_n 0, 1) := by decide +kernel
theorem dX6_within_1 : decode cX6_within 1 = .ok (.iload_n 1, 1) := by decide +kernel
theorem dX6_within_2 : decode cX6_within 2 = .ok (.if_icmp .lt 12, 3) := by decide +kernel
theorem dX6_within_5 : decode cX6_within 5 = .ok (.iload_n 0, 1) := by decide +kernel
theorem dX6_within_6 : decode cX6_within 6 = .ok (.iload_n 2, 1) := by decide +kernel
theorem dX6_within_7 : decode cX6_within 7 = .ok (.if_icmp .gt 7, 3) := by decide +kernel
theorem dX6_within_10 : decode cX6_within 10 = .ok (.iconst 1, 1) := by decide +kernel
theorem dX6_within_11 : decode cX6_within 11 = .ok (.goto 4, 3) := by decide +kernel
theorem dX6_within_14 : decode cX6_within 14 = .ok (.iconst 0, 1) := by decide +kernel
theorem dX6_within_15 : decode cX6_within 15 = .ok (.ireturn, 1) := by decide +kernel
theorem dX6_isCell_0 : decode cX6_isCell 0 = .ok (.iload_n 0, 1) := by decide +kernel
theorem dX6_isCell_1 : decode cX6_isCell 1 = .ok (.iconst 0, 1) := by decide +kernel
theorem dX6_isCell_2 : decode cX6_isCell 2 = .ok (.bipush 23, 2) := by decide +kernel
theorem dX6_isCell_4 : decode cX6_isCell 4 = .ok (.invokestatic 31, 3) := by decide +kernel
theorem dX6_isCell_7 : decode cX6_isCell 7 = .ok (.ireturn, 1) := by decide +kernel
theorem dX6_isMark_0 : decode cX6_isMark 0 = .ok (.iload_n 0, 1) := by decide +kernel
theorem dX6_isMark_1 : decode cX6_isMark 1 = .ok (.iconst 0, 1) := by decide +kernel
theorem dX6_isMark_2 : decode cX6_isMark 2 = .ok (.iconst 3, 1) := by decide +kernel
theorem dX6_isMark_3 : decode cX6_isMark 3 = .ok (.invokestatic 31, 3) := by decide +kernel
theorem dX6_isMark_6 : decode cX6_isMark 6 = .ok (.ireturn, 1) := by decide +kernel
theorem dX6_isCourt_0 : decode cX6_isCourt 0 = .ok (.iload_n 0, 1) := by decide +kernel
theorem dX6_isCourt_1 : decode cX6_isCourt 1 = .ok (.bipush 6, 2) := by decide +kernel
theorem dX6_isCourt_3 : decode cX6_isCourt 3 = .ok (.irem, 1) := by decide +kernel
theorem dX6_isCourt_4 : decode cX6_isCourt 4 = .ok (.iconst 2, 1) := by decide +kernel
theorem dX6_isCourt_5 : decode cX6_isCourt 5 = .ok (.if_icmp .le 7, 3) := by decide +kernel
theorem dX6_isCourt_8 : decode cX6_isCourt 8 = .ok (.iconst 1, 1) := by decide +kernel
theorem dX6_isCourt_9 : decode cX6_isCourt 9 = .ok (.goto 4, 3) := by decide +kernel
theorem dX6_isCourt_12 : decode cX6_isCourt 12 = .ok (.iconst 0, 1) := by decide +kernel
theorem dX6_isCourt_13 : decode cX6_isCourt 13 = .ok (.ireturn, 1) := by decide +kernel
theorem dX6_ones_0 : decode cX6_ones 0 = .ok (.iload_n 0, 1) := by decide +kernel
theorem dX6_ones_1 : decode cX6_ones 1 = .ok (.iconst 1, 1) := by decide +kernel
theorem dX6_ones_2 : decode cX6_ones 2 = .ok (.iand, 1) := by decide +kernel
theorem dX6_ones_3 : decode cX6_ones 3 = .ok (.iload_n 0, 1) := by decide +kernel
theorem dX6_ones_4 : decode cX6_ones 4 = .ok (.iconst 1, 1) := by decide +kernel
theorem dX6_ones_5 : decode cX6_ones 5 = .ok (.ishr, 1) := by decide +kernel
theorem dX6_ones_6 : decode cX6_ones 6 = .ok (.iconst 1, 1) := by decide +kernel
theorem dX6_ones_7 : decode cX6_ones 7 = .ok (.iand, 1) := by decide +kernel
theorem dX6_ones_8 : decode cX6_ones 8 = .ok (.iadd, 1) := by decide +kernel
theorem dX6_ones_9 : decode cX6_ones 9 = .ok (.iload_n 0, 1) := by decide +kernel
theorem dX6_ones_10 : decode cX6_ones 10 = .ok (.iconst 2, 1) := by decide +kernel
theorem dX6_ones_11 : decode cX6_ones 11 = .ok (.ishr, 1) := by decide +kernel
theorem dX6_ones_12 : decode cX6_ones 12 = .ok (.iconst 1, 1) := by decide +kernel
theorem dX6_ones_13 : decode cX6_ones 13 = .ok (.iand, 1) := by decide +kernel
theorem dX6_ones_14 : decode cX6_ones 14 = .ok (.iadd, 1) := by decide +kernel
theorem dX6_ones_15 : decode cX6_ones 15 = .ok (.iload_n 0, 1) := by decide +kernel
theorem dX6_ones_16 : decode cX6_ones 16 = .ok (.iconst 3, 1) := by decide +kernel
theorem dX6_ones_17 : decode cX6_ones 17 = .ok (.ishr, 1) := by decide +kernel
theorem dX6_ones_18 : decode cX6_ones 18 = .ok (.iconst 1, 1) := by decide +kernel
theorem dX6_ones_19 : decode cX6_ones 19 = .ok (.iand, 1) := by decide +kernel
theorem dX6_ones_20 : decode cX6_ones 20 = .ok (.iadd, 1) := by decide +kernel
theorem dX6_ones_21 : decode cX6_ones 21 = .ok (.ireturn, 1) := by decide +kernel
theorem dX6_putAside_0 : decode cX6_putAside 0 = .ok (.iconst 0, 1) := by decide +kernel
theorem dX6_putAside_1 : decode cX6_putAside 1 = .ok (.istore_n 1, 1) := by decide +kernel
theorem dX6_putAside_2 : decode cX6_putAside 2 = .ok (.iload_n 1, 1) := by decide +kernel
theorem dX6_putAside_3 : decode cX6_putAside 3 = .ok (.sipush 611, 3) := by decide +kernel
theorem dX6_putAside_6 : decode cX6_putAside 6 = .ok (.if_icmp .ge 21, 3) := by decide +kernel
theorem dX6_putAside_9 : decode cX6_putAside 9 = .ok (.aload_n 0, 1) := by decide +kernel
theorem dX6_putAside_10 : decode cX6_putAside 10 = .ok (.getfield 13, 3) := by decide +kernel
theorem dX6_putAside_13 : decode cX6_putAside 13 = .ok (.iload_n 1, 1) := by decide +kernel
theorem dX6_putAside_14 : decode cX6_putAside 14 = .ok (.aload_n 0, 1) := by decide +kernel
theorem dX6_putAside_15 : decode cX6_putAside 15 = .ok (.getfield 7, 3) := by decide +kernel
theorem dX6_putAside_18 : decode cX6_putAside 18 = .ok (.iload_n 1, 1) := by decide +kernel
theorem dX6_putAside_19 : decode cX6_putAside 19 = .ok (.iaload, 1) := by decide +kernel
theorem dX6_putAside_20 : decode cX6_putAside 20 = .ok (.iastore, 1) := by decide +kernel
theorem dX6_putAside_21 : decode cX6_putAside 21 = .ok (.iinc 1 1, 3) := by decide +kernel
theorem dX6_putAside_24 : decode cX6_putAside 24 = .ok (.goto (-22), 3) := by decide +kernel
theorem dX6_putAside_27 : decode cX6_putAside 27 = .ok (.return_, 1) := by decide +kernel
theorem dX6_takeBack_0 : decode cX6_takeBack 0 = .ok (.iconst 0, 1) := by decide +kernel
theorem dX6_takeBack_1 : decode cX6_takeBack 1 = .ok (.istore_n 1, 1) := by decide +kernel
theorem dX6_takeBack_2 : decode cX6_takeBack 2 = .ok (.iload_n 1, 1) := by decide +kernel
theorem dX6_takeBack_3 : decode cX6_takeBack 3 = .ok (.sipush 611, 3) := by decide +kernel
theorem dX6_takeBack_6 : decode cX6_takeBack 6 = .ok (.if_icmp .ge 21, 3) := by decide +kernel
theorem dX6_takeBack_9 : decode cX6_takeBack 9 = .ok (.aload_n 0, 1) := by decide +kernel
theorem dX6_takeBack_10 : decode cX6_takeBack 10 = .ok (.getfield 7, 3) := by decide +kernel
theorem dX6_takeBack_13 : decode cX6_takeBack 13 = .ok (.iload_n 1, 1) := by decide +kernel
theorem dX6_takeBack_14 : decode cX6_takeBack 14 = .ok (.aload_n 0, 1) := by decide +kernel
theorem dX6_takeBack_15 : decode cX6_takeBack 15 = .ok (.getfield 13, 3) := by decide +kernel
theorem dX6_takeBack_18 : decode cX6_takeBack 18 = .ok (.iload_n 1, 1) := by decide +kernel
theorem dX6_takeBack_19 : decode cX6_takeBack 19 = .ok (.iaload, 1) := by decide +kernel
theorem dX6_takeBack_20 : decode cX6_takeBack 20 = .ok (.iastore, 1) := by decide +kernel
theorem dX6_takeBack_21 : decode cX6_takeBack 21 = .ok (.iinc 1 1, 3) := by decide +kernel
theorem dX6_takeBack_24 : decode cX6_takeBack 24 = .ok (.goto (-22), 3) := by decide +kernel
theorem dX6_takeBack_27 : decode cX6_takeBack 27 = .ok (.return_, 1) := by decide +kernel
theorem dX6_push_0 : decode cX6_push 0 = .ok (.aload_n 0, 1) := by decide +kernel
theorem dX6_push_1 : decode cX6_push 1 = .ok (.getfield 35, 3) := by decide +kernel
theorem dX6_push_4 : decode cX6_push 4 = .ok (.iconst 4, 1) := by decide +kernel
theorem dX6_push_5 : decode cX6_push 5 = .ok (.if_icmp .ne 44, 3) := by decide +kernel
theorem dX6_push_8 : decode cX6_push 8 = .ok (.iconst 0, 1) := by decide +kernel
theorem dX6_push_9 : decode cX6_push 9 = .ok (.istore_n 1, 1) := by decide +kernel
theorem dX6_push_10 : decode cX6_push 10 = .ok (.iload_n 1, 1) := by decide +kernel
theorem dX6_push_11 : decode cX6_push 11 = .ok (.sipush 1833, 3) := by decide +kernel
theorem dX6_push_14 : decode cX6_push 14 = .ok (.if_icmp .ge 25, 3) := by decide +kernel
theorem dX6_push_17 : decode cX6_push 17 = .ok (.aload_n 0, 1) := by decide +kernel
theorem dX6_push_18 : decode cX6_push 18 = .ok (.getfield 16, 3) := by decide +kernel
theorem dX6_push_21 : decode cX6_push 21 = .ok (.iload_n 1, 1) := by decide +kernel
theorem dX6_push_22 : decode cX6_push 22 = .ok (.aload_n 0, 1) := by decide +kernel
theorem dX6_push_23 : decode cX6_push 23 = .ok (.getfield 16, 3) := by decide +kernel
theorem dX6_push_26 : decode cX6_push 26 = .ok (.iload_n 1, 1) := by decide +kernel
theorem dX6_push_27 : decode cX6_push 27 = .ok (.sipush 611, 3) := by decide +kernel
theorem dX6_push_30 : decode cX6_push 30 = .ok (.iadd, 1) := by decide +kernel
theorem dX6_push_31 : decode cX6_push 31 = .ok (.iaload, 1) := by decide +kernel
theorem dX6_push_32 : decode cX6_push 32 = .ok (.iastore, 1) := by decide +kernel
theorem dX6_push_33 : decode cX6_push 33 = .ok (.iinc 1 1, 3) := by decide +kernel
theorem dX6_push_36 : decode cX6_push 36 = .ok (.goto (-26), 3) := by decide +kernel
theorem dX6_push_39 : decode cX6_push 39 = .ok (.aload_n 0, 1) := by decide +kernel
theorem dX6_push_40 : decode cX6_push 40 = .ok (.dup, 1) := by decide +kernel
theorem dX6_push_41 : decode cX6_push 41 = .ok (.getfield 35, 3) := by decide +kernel
theorem dX6_push_44 : decode cX6_push 44 = .ok (.iconst 1, 1) := by decide +kernel
theorem dX6_push_45 : decode cX6_push 45 = .ok (.isub, 1) := by decide +kernel
theorem dX6_push_46 : decode cX6_push 46 = .ok (.putfield 35, 3) := by decide +kernel
theorem dX6_push_49 : decode cX6_push 49 = .ok (.iconst 0, 1) := by decide +kernel
theorem dX6_push_50 : decode cX6_push 50 = .ok (.istore_n 1, 1) := by decide +kernel
theorem dX6_push_51 : decode cX6_push 51 = .ok (.iload_n 1, 1) := by decide +kernel
theorem dX6_push_52 : decode cX6_push 52 = .ok (.sipush 611, 3) := by decide +kernel
theorem dX6_push_55 : decode cX6_push 55 = .ok (.if_icmp .ge 30, 3) := by decide +kernel
theorem dX6_push_58 : decode cX6_push 58 = .ok (.aload_n 0, 1) := by decide +kernel
theorem dX6_push_59 : decode cX6_push 59 = .ok (.getfield 16, 3) := by decide +kernel
theorem dX6_push_62 : decode cX6_push 62 = .ok (.aload_n 0, 1) := by decide +kernel
theorem dX6_push_63 : decode cX6_push 63 = .ok (.getfield 35, 3) := by decide +kernel
theorem dX6_push_66 : decode cX6_push 66 = .ok (.sipush 611, 3) := by decide +kernel
theorem dX6_push_69 : decode cX6_push 69 = .ok (.imul, 1) := by decide +kernel
theorem dX6_push_70 : decode cX6_push 70 = .ok (.iload_n 1, 1) := by decide +kernel
theorem dX6_push_71 : decode cX6_push 71 = .ok (.iadd, 1) := by decide +kernel
theorem dX6_push_72 : decode cX6_push 72 = .ok (.aload_n 0, 1) := by decide +kernel
theorem dX6_push_73 : decode cX6_push 73 = .ok (.getfield 13, 3) := by decide +kernel
theorem dX6_push_76 : decode cX6_push 76 = .ok (.iload_n 1, 1) := by decide +kernel
theorem dX6_push_77 : decode cX6_push 77 = .ok (.iaload, 1) := by decide +kernel
theorem dX6_push_78 : decode cX6_push 78 = .ok (.iastore, 1) := by decide +kernel
theorem dX6_push_79 : decode cX6_push 79 = .ok (.iinc 1 1, 3) := by decide +kernel
theorem dX6_push_82 : decode cX6_push 82 = .ok (.goto (-31), 3) := by decide +kernel
theorem dX6_push_85 : decode cX6_push 85 = .ok (.aload_n 0, 1) := by decide +kernel
theorem dX6_push_86 : decode cX6_push 86 = .ok (.dup, 1) := by decide +kernel
theorem dX6_push_87 : decode cX6_push 87 = .ok (.getfield 35, 3) := by decide +kernel
theorem dX6_push_90 : decode cX6_push 90 = .ok (.iconst 1, 1) := by decide +kernel
theorem dX6_push_91 : decode cX6_push 91 = .ok (.iadd, 1) := by decide +kernel
theorem dX6_push_92 : decode cX6_push 92 = .ok (.putfield 35, 3) := by decide +kernel
theorem dX6_push_95 : decode cX6_push 95 = .ok (.return_, 1) := by decide +kernel
theorem dX6_record_0 : decode cX6_record 0 = .ok (.aload_n 0, 1) := by decide +kernel
theorem dX6_record_1 : decode cX6_record 1 = .ok (.invokevirtual 39, 3) := by decide +kernel
theorem dX6_record_4 : decode cX6_record 4 = .ok (.aload_n 0, 1) := by decide +kernel
theorem dX6_record_5 : decode cX6_record 5 = .ok (.invokevirtual 42, 3) := by decide +kernel
theorem dX6_record_8 : decode cX6_record 8 = .ok (.return_, 1) := by decide +kernel
theorem dX6_undo_0 : decode cX6_undo 0 = .ok (.aload_n 0, 1) := by decide +kernel
theorem dX6_undo_1 : decode cX6_undo 1 = .ok (.getfield 35, 3) := by decide +kernel
theorem dX6_undo_4 : decode cX6_undo 4 = .ok (.ifCond .ne 6, 3) := by decide +kernel
theorem dX6_undo_7 : decode cX6_undo 7 = .ok (.bipush (-5), 2) := by decide +kernel
theorem dX6_undo_9 : decode cX6_undo 9 = .ok (.ireturn, 1) := by decide +kernel
theorem dX6_undo_10 : decode cX6_undo 10 = .ok (.aload_n 0, 1) := by decide +kernel
theorem dX6_undo_11 : decode cX6_undo 11 = .ok (.dup, 1) := by decide +kernel
theorem dX6_undo_12 : decode cX6_undo 12 = .ok (.getfield 35, 3) := by decide +kernel
theorem dX6_undo_15 : decode cX6_undo 15 = .ok (.iconst 1, 1) := by decide +kernel
theorem dX6_undo_16 : decode cX6_undo 16 = .ok (.isub, 1) := by decide +kernel
theorem dX6_undo_17 : decode cX6_undo 17 = .ok (.putfield 35, 3) := by decide +kernel
theorem dX6_undo_20 : decode cX6_undo 20 = .ok (.iconst 0, 1) := by decide +kernel
theorem dX6_undo_21 : decode cX6_undo 21 = .ok (.istore_n 1, 1) := by decide +kernel
theorem dX6_undo_22 : decode cX6_undo 22 = .ok (.iload_n 1, 1) := by decide +kernel
theorem dX6_undo_23 : decode cX6_undo 23 = .ok (.sipush 611, 3) := by decide +kernel
theorem dX6_undo_26 : decode cX6_undo 26 = .ok (.if_icmp .ge 30, 3) := by decide +kernel
theorem dX6_undo_29 : decode cX6_undo 29 = .ok (.aload_n 0, 1) := by decide +kernel
theorem dX6_undo_30 : decode cX6_undo 30 = .ok (.getfield 7, 3) := by decide +kernel
theorem dX6_undo_33 : decode cX6_undo 33 = .ok (.iload_n 1, 1) := by decide +kernel
theorem dX6_undo_34 : decode cX6_undo 34 = .ok (.aload_n 0, 1) := by decide +kernel
theorem dX6_undo_35 : decode cX6_undo 35 = .ok (.getfield 16, 3) := by decide +kernel
theorem dX6_undo_38 : decode cX6_undo 38 = .ok (.aload_n 0, 1) := by decide +kernel
theorem dX6_undo_39 : decode cX6_undo 39 = .ok (.getfield 35, 3) := by decide +kernel
theorem dX6_undo_42 : decode cX6_undo 42 = .ok (.sipush 611, 3) := by decide +kernel
theorem dX6_undo_45 : decode cX6_undo 45 = .ok (.imul, 1) := by decide +kernel
theorem dX6_undo_46 : decode cX6_undo 46 = .ok (.iload_n 1, 1) := by decide +kernel
theorem dX6_undo_47 : decode cX6_undo 47 = .ok (.iadd, 1) := by decide +kernel
theorem dX6_undo_48 : decode cX6_undo 48 = .ok (.iaload, 1) := by decide +kernel
theorem dX6_undo_49 : decode cX6_undo 49 = .ok (.iastore, 1) := by decide +kernel
theorem dX6_undo_50 : decode cX6_undo 50 = .ok (.iinc 1 1, 3) := by decide +kernel
theorem dX6_undo_53 : decode cX6_undo 53 = .ok (.goto (-31), 3) := by decide +kernel
theorem dX6_undo_56 : decode cX6_undo 56 = .ok (.aload_n 0, 1) := by decide +kernel
theorem dX6_undo_57 : decode cX6_undo 57 = .ok (.getfield 35, 3) := by decide +kernel
theorem dX6_undo_60 : decode cX6_undo 60 = .ok (.ireturn, 1) := by decide +kernel
theorem dX6_keep_0 : decode cX6_keep 0 = .ok (.iconst 0, 1) := by decide +kernel
theorem dX6_keep_1 : decode cX6_keep 1 = .ok (.istore_n 1, 1) := by decide +kernel
theorem dX6_keep_2 : decode cX6_keep 2 = .ok (.iload_n 1, 1) := by decide +kernel
theorem dX6_keep_3 : decode cX6_keep 3 = .ok (.sipush 611, 3) := by decide +kernel
theorem dX6_keep_6 : decode cX6_keep 6 = .ok (.if_icmp .ge 21, 3) := by decide +kernel
theorem dX6_keep_9 : decode cX6_keep 9 = .ok (.aload_n 0, 1) := by decide +kernel
theorem dX6_keep_10 : decode cX6_keep 10 = .ok (.getfield 19, 3) := by decide +kernel
theorem dX6_keep_13 : decode cX6_keep 13 = .ok (.iload_n 1, 1) := by decide +kernel
theorem dX6_keep_14 : decode cX6_keep 14 = .ok (.aload_n 0, 1) := by decide +kernel
theorem dX6_keep_15 : decode cX6_keep 15 = .ok (.getfield 7, 3) := by decide +kernel
theorem dX6_keep_18 : decode cX6_keep 18 = .ok (.iload_n 1, 1) := by decide +kernel
theorem dX6_keep_19 : decode cX6_keep 19 = .ok (.iaload, 1) := by decide +kernel
theorem dX6_keep_20 : decode cX6_keep 20 = .ok (.iastore, 1) := by decide +kernel
theorem dX6_keep_21 : decode cX6_keep 21 = .ok (.iinc 1 1, 3) := by decide +kernel
theorem dX6_keep_24 : decode cX6_keep 24 = .ok (.goto (-22), 3) := by decide +kernel
theorem dX6_keep_27 : decode cX6_keep 27 = .ok (.aload_n 0, 1) := by decide +kernel
theorem dX6_keep_28 : decode cX6_keep 28 = .ok (.iconst 1, 1) := by decide +kernel
theorem dX6_keep_29 : decode cX6_keep 29 = .ok (.putfield 45, 3) := by decide +kernel
theorem dX6_keep_32 : decode cX6_keep 32 = .ok (.aload_n 0, 1) := by decide +kernel
theorem dX6_keep_33 : decode cX6_keep 33 = .ok (.getfield 7, 3) := by decide +kernel
theorem dX6_keep_36 : decode cX6_keep 36 = .ok (.iconst 4, 1) := by decide +kernel
theorem dX6_keep_37 : decode cX6_keep 37 = .ok (.iaload, 1) := by decide +kernel
theorem dX6_keep_38 : decode cX6_keep 38 = .ok (.ireturn, 1) := by decide +kernel
theorem dX6_restore_0 : decode cX6_restore 0 = .ok (.aload_n 0, 1) := by decide +kernel
theorem dX6_restore_1 : decode cX6_restore 1 = .ok (.getfield 45, 3) := by decide +kernel
theorem dX6_restore_4 : decode cX6_restore 4 = .ok (.ifCond .ne 6, 3) := by decide +kernel
theorem dX6_restore_7 : decode cX6_restore 7 = .ok (.bipush (-5), 2) := by decide +kernel
theorem dX6_restore_9 : decode cX6_restore 9 = .ok (.ireturn, 1) := by decide +kernel
theorem dX6_restore_10 : decode cX6_restore 10 = .ok (.aload_n 0, 1) := by decide +kernel
theorem dX6_restore_11 : decode cX6_restore 11 = .ok (.invokevirtual 49, 3) := by decide +kernel
theorem dX6_restore_14 : decode cX6_restore 14 = .ok (.iconst 0, 1) := by decide +kernel
theorem dX6_restore_15 : decode cX6_restore 15 = .ok (.istore_n 1, 1) := by decide +kernel
theorem dX6_restore_16 : decode cX6_restore 16 = .ok (.iload_n 1, 1) := by decide +kernel
theorem dX6_restore_17 : decode cX6_restore 17 = .ok (.sipush 611, 3) := by decide +kernel
theorem dX6_restore_20 : decode cX6_restore 20 = .ok (.if_icmp .ge 21, 3) := by decide +kernel
theorem dX6_restore_23 : decode cX6_restore 23 = .ok (.aload_n 0, 1) := by decide +kernel
theorem dX6_restore_24 : decode cX6_restore 24 = .ok (.getfield 7, 3) := by decide +kernel
theorem dX6_restore_27 : decode cX6_restore 27 = .ok (.iload_n 1, 1) := by decide +kernel
theorem dX6_restore_28 : decode cX6_restore 28 = .ok (.aload_n 0, 1) := by decide +kernel
theorem dX6_restore_29 : decode cX6_restore 29 = .ok (.getfield 19, 3) := by decide +kernel
theorem dX6_restore_32 : decode cX6_restore 32 = .ok (.iload_n 1, 1) := by decide +kernel
theorem dX6_restore_33 : decode cX6_restore 33 = .ok (.iaload, 1) := by decide +kernel
theorem dX6_restore_34 : decode cX6_restore 34 = .ok (.iastore, 1) := by decide +kernel
theorem dX6_restore_35 : decode cX6_restore 35 = .ok (.iinc 1 1, 3) := by decide +kernel
theorem dX6_restore_38 : decode cX6_restore 38 = .ok (.goto (-22), 3) := by decide +kernel
theorem dX6_restore_41 : decode cX6_restore 41 = .ok (.aload_n 0, 1) := by decide +kernel
theorem dX6_restore_42 : decode cX6_restore 42 = .ok (.getfield 7, 3) := by decide +kernel
theorem dX6_restore_45 : decode cX6_restore 45 = .ok (.iconst 4, 1) := by decide +kernel
theorem dX6_restore_46 : decode cX6_restore 46 = .ok (.iaload, 1) := by decide +kernel
theorem dX6_restore_47 : decode cX6_restore 47 = .ok (.ireturn, 1) := by decide +kernel
theorem dX6_exchange_0 : decode cX6_exchange 0 = .ok (.aload_n 0, 1) := by decide +kernel
theorem dX6_exchange_1 : decode cX6_exchange 1 = .ok (.getfield 7, 3) := by decide +kernel
theorem dX6_exchange_4 : decode cX6_exchange 4 = .ok (.bipush 11, 2) := by decide +kernel
theorem dX6_exchange_6 : decode cX6_exchange 6 = .ok (.iload_n 1, 1) := by decide +kernel
theorem dX6_exchange_7 : decode cX6_exchange 7 = .ok (.iadd, 1) := by decide +kernel
theorem dX6_exchange_8 : decode cX6_exchange 8 = .ok (.iaload, 1) := by decide +kernel
theorem dX6_exchange_9 : decode cX6_exchange 9 = .ok (.istore_n 3, 1) := by decide +kernel
theorem dX6_exchange_10 : decode cX6_exchange 10 = .ok (.aload_n 0, 1) := by decide +kernel
theorem dX6_exchange_11 : decode cX6_exchange 11 = .ok (.getfield 7, 3) := by decide +kernel
theorem dX6_exchange_14 : decode cX6_exchange 14 = .ok (.bipush 11, 2) := by decide +kernel
theorem dX6_exchange_16 : decode cX6_exchange 16 = .ok (.iload_n 1, 1) := by decide +kernel
theorem dX6_exchange_17 : decode cX6_exchange 17 = .ok (.iadd, 1) := by decide +kernel
theorem dX6_exchange_18 : decode cX6_exchange 18 = .ok (.aload_n 0, 1) := by decide +kernel
theorem dX6_exchange_19 : decode cX6_exchange 19 = .ok (.getfield 7, 3) := by decide +kernel
theorem dX6_exchange_22 : decode cX6_exchange 22 = .ok (.bipush 11, 2) := by decide +kernel
theorem dX6_exchange_24 : decode cX6_exchange 24 = .ok (.iload_n 2, 1) := by decide +kernel
theorem dX6_exchange_25 : decode cX6_exchange 25 = .ok (.iadd, 1) := by decide +kernel
theorem dX6_exchange_26 : decode cX6_exchange 26 = .ok (.iaload, 1) := by decide +kernel
theorem dX6_exchange_27 : decode cX6_exchange 27 = .ok (.iastore, 1) := by decide +kernel
theorem dX6_exchange_28 : decode cX6_exchange 28 = .ok (.aload_n 0, 1) := by decide +kernel
theorem dX6_exchange_29 : decode cX6_exchange 29 = .ok (.getfield 7, 3) := by decide +kernel
theorem dX6_exchange_32 : decode cX6_exchange 32 = .ok (.bipush 11, 2) := by decide +kernel
theorem dX6_exchange_34 : decode cX6_exchange 34 = .ok (.iload_n 2, 1) := by decide +kernel
theorem dX6_exchange_35 : decode cX6_exchange 35 = .ok (.iadd, 1) := by decide +kernel
theorem dX6_exchange_36 : decode cX6_exchange 36 = .ok (.iload_n 3, 1) := by decide +kernel
theorem dX6_exchange_37 : decode cX6_exchange 37 = .ok (.iastore, 1) := by decide +kernel
theorem dX6_exchange_38 : decode cX6_exchange 38 = .ok (.return_, 1) := by decide +kernel
theorem dX6_setMark_0 : decode cX6_setMark 0 = .ok (.aload_n 0, 1) := by decide +kernel
theorem dX6_setMark_1 : decode cX6_setMark 1 = .ok (.getfield 7, 3) := by decide +kernel
theorem dX6_setMark_4 : decode cX6_setMark 4 = .ok (.bipush 59, 2) := by decide +kernel
theorem dX6_setMark_6 : decode cX6_setMark 6 = .ok (.iload_n 1, 1) := by decide +kernel
theorem dX6_setMark_7 : decode cX6_setMark 7 = .ok (.iadd, 1) := by decide +kernel
theorem dX6_setMark_8 : decode cX6_setMark 8 = .ok (.iload_n 3, 1) := by decide +kernel
theorem dX6_setMark_9 : decode cX6_setMark 9 = .ok (.ifCond .eq 19, 3) := by decide +kernel
theorem dX6_setMark_12 : decode cX6_setMark 12 = .ok (.aload_n 0, 1) := by decide +kernel
theorem dX6_setMark_13 : decode cX6_setMark 13 = .ok (.getfield 7, 3) := by decide +kernel
theorem dX6_setMark_16 : decode cX6_setMark 16 = .ok (.bipush 59, 2) := by decide +kernel
theorem dX6_setMark_18 : decode cX6_setMark 18 = .ok (.iload_n 1, 1) := by decide +kernel
theorem dX6_setMark_19 : decode cX6_setMark 19 = .ok (.iadd, 1) := by decide +kernel
theorem dX6_setMark_20 : decode cX6_setMark 20 = .ok (.iaload, 1) := by decide +kernel
theorem dX6_setMark_21 : decode cX6_setMark 21 = .ok (.iconst 1, 1) := by decide +kernel
theorem dX6_setMark_22 : decode cX6_setMark 22 = .ok (.iload_n 2, 1) := by decide +kernel
theorem dX6_setMark_23 : decode cX6_setMark 23 = .ok (.ishl, 1) := by decide +kernel
theorem dX6_setMark_24 : decode cX6_setMark 24 = .ok (.ior, 1) := by decide +kernel
theorem dX6_setMark_25 : decode cX6_setMark 25 = .ok (.goto 18, 3) := by decide +kernel
theorem dX6_setMark_28 : decode cX6_setMark 28 = .ok (.aload_n 0, 1) := by decide +kernel
theorem dX6_setMark_29 : decode cX6_setMark 29 = .ok (.getfield 7, 3) := by decide +kernel
theorem dX6_setMark_32 : decode cX6_setMark 32 = .ok (.bipush 59, 2) := by decide +kernel
theorem dX6_setMark_34 : decode cX6_setMark 34 = .ok (.iload_n 1, 1) := by decide +kernel
theorem dX6_setMark_35 : decode cX6_setMark 35 = .ok (.iadd, 1) := by decide +kernel
theorem dX6_setMark_36 : decode cX6_setMark 36 = .ok (.iaload, 1) := by decide +kernel
theorem dX6_setMark_37 : decode cX6_setMark 37 = .ok (.iconst 1, 1) := by decide +kernel
theorem dX6_setMark_38 : decode cX6_setMark 38 = .ok (.iload_n 2, 1) := by decide +kernel
theorem dX6_setMark_39 : decode cX6_setMark 39 = .ok (.ishl, 1) := by decide +kernel
theorem dX6_setMark_40 : decode cX6_setMark 40 = .ok (.iconst (-1), 1) := by decide +kernel
theorem dX6_setMark_41 : decode cX6_setMark 41 = .ok (.ixor, 1) := by decide +kernel
theorem dX6_setMark_42 : decode cX6_setMark 42 = .ok (.iand, 1) := by decide +kernel
theorem dX6_setMark_43 : decode cX6_setMark 43 = .ok (.iastore, 1) := by decide +kernel
theorem dX6_setMark_44 : decode cX6_setMark 44 = .ok (.return_, 1) := by decide +kernel
theorem dX6_swap_0 : decode cX6_swap 0 = .ok (.iload_n 1, 1) := by decide +kernel
theorem dX6_swap_1 : decode cX6_swap 1 = .ok (.invokestatic 52, 3) := by decide +kernel
theorem dX6_swap_4 : decode cX6_swap 4 = .ok (.ifCond .eq 10, 3) := by decide +kernel
theorem dX6_swap_7 : decode cX6_swap 7 = .ok (.iload_n 2, 1) := by decide +kernel
theorem dX6_swap_8 : decode cX6_swap 8 = .ok (.invokestatic 52, 3) := by decide +kernel
theorem dX6_swap_11 : decode cX6_swap 11 = .ok (.ifCond .ne 5, 3) := by decide +kernel
theorem dX6_swap_14 : decode cX6_swap 14 = .ok (.iconst (-1), 1) := by decide +kernel
theorem dX6_swap_15 : decode cX6_swap 15 = .ok (.ireturn, 1) := by decide +kernel
theorem dX6_swap_16 : decode cX6_swap 16 = .ok (.iload_n 1, 1) := by decide +kernel
theorem dX6_swap_17 : decode cX6_swap 17 = .ok (.iload_n 2, 1) := by decide +kernel
theorem dX6_swap_18 : decode cX6_swap 18 = .ok (.if_icmp .ne 6, 3) := by decide +kernel
theorem dX6_swap_21 : decode cX6_swap 21 = .ok (.bipush (-5), 2) := by decide +kernel
theorem dX6_swap_23 : decode cX6_swap 23 = .ok (.ireturn, 1) := by decide +kernel
theorem dX6_swap_24 : decode cX6_swap 24 = .ok (.aload_n 0, 1) := by decide +kernel
theorem dX6_swap_25 : decode cX6_swap 25 = .ok (.invokevirtual 49, 3) := by decide +kernel
theorem dX6_swap_28 : decode cX6_swap 28 = .ok (.aload_n 0, 1) := by decide +kernel
theorem dX6_swap_29 : decode cX6_swap 29 = .ok (.iload_n 1, 1) := by decide +kernel
theorem dX6_swap_30 : decode cX6_swap 30 = .ok (.iload_n 2, 1) := by decide +kernel
theorem dX6_swap_31 : decode cX6_swap 31 = .ok (.invokevirtual 56, 3) := by decide +kernel
theorem dX6_swap_34 : decode cX6_swap 34 = .ok (.aload_n 0, 1) := by decide +kernel
theorem dX6_swap_35 : decode cX6_swap 35 = .ok (.getfield 7, 3) := by decide +kernel
theorem dX6_swap_38 : decode cX6_swap 38 = .ok (.bipush 11, 2) := by decide +kernel
theorem dX6_swap_40 : decode cX6_swap 40 = .ok (.iload_n 1, 1) := by decide +kernel
theorem dX6_swap_41 : decode cX6_swap 41 = .ok (.iadd, 1) := by decide +kernel
theorem dX6_swap_42 : decode cX6_swap 42 = .ok (.iaload, 1) := by decide +kernel
theorem dX6_swap_43 : decode cX6_swap 43 = .ok (.ireturn, 1) := by decide +kernel
theorem dX6_mark_0 : decode cX6_mark 0 = .ok (.iload_n 1, 1) := by decide +kernel
theorem dX6_mark_1 : decode cX6_mark 1 = .ok (.invokestatic 52, 3) := by decide +kernel
theorem dX6_mark_4 : decode cX6_mark 4 = .ok (.ifCond .eq 10, 3) := by decide +kernel
theorem dX6_mark_7 : decode cX6_mark 7 = .ok (.iload_n 2, 1) := by decide +kernel
theorem dX6_mark_8 : decode cX6_mark 8 = .ok (.invokestatic 60, 3) := by decide +kernel
theorem dX6_mark_11 : decode cX6_mark 11 = .ok (.ifCond .ne 5, 3) := by decide +kernel
theorem dX6_mark_14 : decode cX6_mark 14 = .ok (.iconst (-1), 1) := by decide +kernel
theorem dX6_mark_15 : decode cX6_mark 15 = .ok (.ireturn, 1) := by decide +kernel
theorem dX6_mark_16 : decode cX6_mark 16 = .ok (.aload_n 0, 1) := by decide +kernel
theorem dX6_mark_17 : decode cX6_mark 17 = .ok (.getfield 7, 3) := by decide +kernel
theorem dX6_mark_20 : decode cX6_mark 20 = .ok (.bipush 59, 2) := by decide +kernel
theorem dX6_mark_22 : decode cX6_mark 22 = .ok (.iload_n 1, 1) := by decide +kernel
theorem dX6_mark_23 : decode cX6_mark 23 = .ok (.iadd, 1) := by decide +kernel
theorem dX6_mark_24 : decode cX6_mark 24 = .ok (.iaload, 1) := by decide +kernel
theorem dX6_mark_25 : decode cX6_mark 25 = .ok (.iload_n 2, 1) := by decide +kernel
theorem dX6_mark_26 : decode cX6_mark 26 = .ok (.ishr, 1) := by decide +kernel
theorem dX6_mark_27 : decode cX6_mark 27 = .ok (.iconst 1, 1) := by decide +kernel
theorem dX6_mark_28 : decode cX6_mark 28 = .ok (.iand, 1) := by decide +kernel
theorem dX6_mark_29 : decode cX6_mark 29 = .ok (.iload_n 3, 1) := by decide +kernel
theorem dX6_mark_30 : decode cX6_mark 30 = .ok (.ifCond .eq 7, 3) := by decide +kernel
theorem dX6_mark_33 : decode cX6_mark 33 = .ok (.iconst 1, 1) := by decide +kernel
theorem dX6_mark_34 : decode cX6_mark 34 = .ok (.goto 4, 3) := by decide +kernel
theorem dX6_mark_37 : decode cX6_mark 37 = .ok (.iconst 0, 1) := by decide +kernel
theorem dX6_mark_38 : decode cX6_mark 38 = .ok (.if_icmp .ne 6, 3) := by decide +kernel
theorem dX6_mark_41 : decode cX6_mark 41 = .ok (.bipush (-5), 2) := by decide +kernel
theorem dX6_mark_43 : decode cX6_mark 43 = .ok (.ireturn, 1) := by decide +kernel
theorem dX6_mark_44 : decode cX6_mark 44 = .ok (.aload_n 0, 1) := by decide +kernel
theorem dX6_mark_45 : decode cX6_mark 45 = .ok (.invokevirtual 49, 3) := by decide +kernel
theorem dX6_mark_48 : decode cX6_mark 48 = .ok (.aload_n 0, 1) := by decide +kernel
theorem dX6_mark_49 : decode cX6_mark 49 = .ok (.iload_n 1, 1) := by decide +kernel
theorem dX6_mark_50 : decode cX6_mark 50 = .ok (.iload_n 2, 1) := by decide +kernel
theorem dX6_mark_51 : decode cX6_mark 51 = .ok (.iload_n 3, 1) := by decide +kernel
theorem dX6_mark_52 : decode cX6_mark 52 = .ok (.invokevirtual 63, 3) := by decide +kernel
theorem dX6_mark_55 : decode cX6_mark 55 = .ok (.aload_n 0, 1) := by decide +kernel
theorem dX6_mark_56 : decode cX6_mark 56 = .ok (.getfield 7, 3) := by decide +kernel
theorem dX6_mark_59 : decode cX6_mark 59 = .ok (.bipush 59, 2) := by decide +kernel
theorem dX6_mark_61 : decode cX6_mark 61 = .ok (.iload_n 1, 1) := by decide +kernel
theorem dX6_mark_62 : decode cX6_mark 62 = .ok (.iadd, 1) := by decide +kernel
theorem dX6_mark_63 : decode cX6_mark 63 = .ok (.iaload, 1) := by decide +kernel
theorem dX6_mark_64 : decode cX6_mark 64 = .ok (.ireturn, 1) := by decide +kernel
theorem dX6_lean_0 : decode cX6_lean 0 = .ok (.iload_n 1, 1) := by decide +kernel
theorem dX6_lean_1 : decode cX6_lean 1 = .ok (.invokestatic 52, 3) := by decide +kernel
theorem dX6_lean_4 : decode cX6_lean 4 = .ok (.ifCond .ne 5, 3) := by decide +kernel
theorem dX6_lean_7 : decode cX6_lean 7 = .ok (.iconst (-1), 1) := by decide +kernel
theorem dX6_lean_8 : decode cX6_lean 8 = .ok (.ireturn, 1) := by decide +kernel
theorem dX6_lean_9 : decode cX6_lean 9 = .ok (.iload_n 2, 1) := by decide +kernel
theorem dX6_lean_10 : decode cX6_lean 10 = .ok (.bipush (-9), 2) := by decide +kernel
theorem dX6_lean_12 : decode cX6_lean 12 = .ok (.bipush 9, 2) := by decide +kernel
theorem dX6_lean_14 : decode cX6_lean 14 = .ok (.invokestatic 31, 3) := by decide +kernel
theorem dX6_lean_17 : decode cX6_lean 17 = .ok (.ifCond .ne 6, 3) := by decide +kernel
theorem dX6_lean_20 : decode cX6_lean 20 = .ok (.bipush (-2), 2) := by decide +kernel
theorem dX6_lean_22 : decode cX6_lean 22 = .ok (.ireturn, 1) := by decide +kernel
theorem dX6_lean_23 : decode cX6_lean 23 = .ok (.iload_n 1, 1) := by decide +kernel
theorem dX6_lean_24 : decode cX6_lean 24 = .ok (.invokestatic 67, 3) := by decide +kernel
theorem dX6_lean_27 : decode cX6_lean 27 = .ok (.ifCond .ne 6, 3) := by decide +kernel
theorem dX6_lean_30 : decode cX6_lean 30 = .ok (.bipush (-4), 2) := by decide +kernel
theorem dX6_lean_32 : decode cX6_lean 32 = .ok (.ireturn, 1) := by decide +kernel
theorem dX6_lean_33 : decode cX6_lean 33 = .ok (.aload_n 0, 1) := by decide +kernel
theorem dX6_lean_34 : decode cX6_lean 34 = .ok (.getfield 7, 3) := by decide +kernel
theorem dX6_lean_37 : decode cX6_lean 37 = .ok (.bipush 35, 2) := by decide +kernel
theorem dX6_lean_39 : decode cX6_lean 39 = .ok (.iload_n 1, 1) := by decide +kernel
theorem dX6_lean_40 : decode cX6_lean 40 = .ok (.iadd, 1) := by decide +kernel
theorem dX6_lean_41 : decode cX6_lean 41 = .ok (.iaload, 1) := by decide +kernel
theorem dX6_lean_42 : decode cX6_lean 42 = .ok (.istore_n 3, 1) := by decide +kernel
theorem dX6_lean_43 : decode cX6_lean 43 = .ok (.iload_n 3, 1) := by decide +kernel
theorem dX6_lean_44 : decode cX6_lean 44 = .ok (.iload_n 2, 1) := by decide +kernel
theorem dX6_lean_45 : decode cX6_lean 45 = .ok (.if_icmp .ne 6, 3) := by decide +kernel
theorem dX6_lean_48 : decode cX6_lean 48 = .ok (.bipush (-5), 2) := by decide +kernel
theorem dX6_lean_50 : decode cX6_lean 50 = .ok (.ireturn, 1) := by decide +kernel
theorem dX6_lean_51 : decode cX6_lean 51 = .ok (.aload_n 0, 1) := by decide +kernel
theorem dX6_lean_52 : decode cX6_lean 52 = .ok (.invokevirtual 49, 3) := by decide +kernel
theorem dX6_lean_55 : decode cX6_lean 55 = .ok (.aload_n 0, 1) := by decide +kernel
theorem dX6_lean_56 : decode cX6_lean 56 = .ok (.getfield 7, 3) := by decide +kernel
theorem dX6_lean_59 : decode cX6_lean 59 = .ok (.bipush 35, 2) := by decide +kernel
theorem dX6_lean_61 : decode cX6_lean 61 = .ok (.iload_n 1, 1) := by decide +kernel
theorem dX6_lean_62 : decode cX6_lean 62 = .ok (.iadd, 1) := by decide +kernel
theorem dX6_lean_63 : decode cX6_lean 63 = .ok (.iload_n 2, 1) := by decide +kernel
theorem dX6_lean_64 : decode cX6_lean 64 = .ok (.iastore, 1) := by decide +kernel
theorem dX6_lean_65 : decode cX6_lean 65 = .ok (.iload_n 3, 1) := by decide +kernel
theorem dX6_lean_66 : decode cX6_lean 66 = .ok (.bipush 100, 2) := by decide +kernel
theorem dX6_lean_68 : decode cX6_lean 68 = .ok (.iadd, 1) := by decide +kernel
theorem dX6_lean_69 : decode cX6_lean 69 = .ok (.ireturn, 1) := by decide +kernel
theorem dX6_leastOf_0 : decode cX6_leastOf 0 = .ok (.iload_n 0, 1) := by decide +kernel
theorem dX6_leastOf_1 : decode cX6_leastOf 1 = .ok (.ifCond .eq 8, 3) := by decide +kernel
theorem dX6_leastOf_4 : decode cX6_leastOf 4 = .ok (.iload_n 0, 1) := by decide +kernel
theorem dX6_leastOf_5 : decode cX6_leastOf 5 = .ok (.iconst 3, 1) := by decide +kernel
theorem dX6_leastOf_6 : decode cX6_leastOf 6 = .ok (.if_icmp .ne 7, 3) := by decide +kernel
theorem dX6_leastOf_9 : decode cX6_leastOf 9 = .ok (.iconst 1, 1) := by decide +kernel
theorem dX6_leastOf_10 : decode cX6_leastOf 10 = .ok (.goto 4, 3) := by decide +kernel
theorem dX6_leastOf_13 : decode cX6_leastOf 13 = .ok (.iconst 0, 1) := by decide +kernel
theorem dX6_leastOf_14 : decode cX6_leastOf 14 = .ok (.ireturn, 1) := by decide +kernel
theorem dX6_mostOf_0 : decode cX6_mostOf 0 = .ok (.iload_n 0, 1) := by decide +kernel
theorem dX6_mostOf_1 : decode cX6_mostOf 1 = .ok (.iconst 1, 1) := by decide +kernel
theorem dX6_mostOf_2 : decode cX6_mostOf 2 = .ok (.if_icmp .ne 8, 3) := by decide +kernel
theorem dX6_mostOf_5 : decode cX6_mostOf 5 = .ok (.bipush 9, 2) := by decide +kernel
theorem dX6_mostOf_7 : decode cX6_mostOf 7 = .ok (.goto 15, 3) := by decide +kernel
theorem dX6_mostOf_10 : decode cX6_mostOf 10 = .ok (.iload_n 0, 1) := by decide +kernel
theorem dX6_mostOf_11 : decode cX6_mostOf 11 = .ok (.iconst 2, 1) := by decide +kernel
theorem dX6_mostOf_12 : decode cX6_mostOf 12 = .ok (.if_icmp .ne 8, 3) := by decide +kernel
theorem dX6_mostOf_15 : decode cX6_mostOf 15 = .ok (.bipush 24, 2) := by decide +kernel
theorem dX6_mostOf_17 : decode cX6_mostOf 17 = .ok (.goto 5, 3) := by decide +kernel
theorem dX6_mostOf_20 : decode cX6_mostOf 20 = .ok (.bipush 99, 2) := by decide +kernel
theorem dX6_mostOf_22 : decode cX6_mostOf 22 = .ok (.ireturn, 1) := by decide +kernel
theorem dX6_set_0 : decode cX6_set 0 = .ok (.iload_n 1, 1) := by decide +kernel
theorem dX6_set_1 : decode cX6_set 1 = .ok (.iconst 0, 1) := by decide +kernel
theorem dX6_set_2 : decode cX6_set 2 = .ok (.iconst 3, 1) := by decide +kernel
theorem dX6_set_3 : decode cX6_set 3 = .ok (.invokestatic 31, 3) := by decide +kernel
theorem dX6_set_6 : decode cX6_set 6 = .ok (.ifCond .eq 18, 3) := by decide +kernel
theorem dX6_set_9 : decode cX6_set 9 = .ok (.iload_n 2, 1) := by decide +kernel
theorem dX6_set_10 : decode cX6_set 10 = .ok (.iload_n 1, 1) := by decide +kernel
theorem dX6_set_11 : decode cX6_set 11 = .ok (.invokestatic 70, 3) := by decide +kernel
theorem dX6_set_14 : decode cX6_set 14 = .ok (.iload_n 1, 1) := by decide +kernel
theorem dX6_set_15 : decode cX6_set 15 = .ok (.invokestatic 74, 3) := by decide +kernel
theorem dX6_set_18 : decode cX6_set 18 = .ok (.invokestatic 31, 3) := by decide +kernel
theorem dX6_set_21 : decode cX6_set 21 = .ok (.ifCond .ne 6, 3) := by decide +kernel
theorem dX6_set_24 : decode cX6_set 24 = .ok (.bipush (-2), 2) := by decide +kernel
theorem dX6_set_26 : decode cX6_set 26 = .ok (.ireturn, 1) := by decide +kernel
theorem dX6_set_27 : decode cX6_set 27 = .ok (.aload_n 0, 1) := by decide +kernel
theorem dX6_set_28 : decode cX6_set 28 = .ok (.getfield 7, 3) := by decide +kernel
theorem dX6_set_31 : decode cX6_set 31 = .ok (.iconst 0, 1) := by decide +kernel
theorem dX6_set_32 : decode cX6_set 32 = .ok (.iload_n 1, 1) := by decide +kernel
theorem dX6_set_33 : decode cX6_set 33 = .ok (.iadd, 1) := by decide +kernel
theorem dX6_set_34 : decode cX6_set 34 = .ok (.iaload, 1) := by decide +kernel
theorem dX6_set_35 : decode cX6_set 35 = .ok (.istore_n 3, 1) := by decide +kernel
theorem dX6_set_36 : decode cX6_set 36 = .ok (.iload_n 3, 1) := by decide +kernel
theorem dX6_set_37 : decode cX6_set 37 = .ok (.iload_n 2, 1) := by decide +kernel
theorem dX6_set_38 : decode cX6_set 38 = .ok (.if_icmp .ne 6, 3) := by decide +kernel
theorem dX6_set_41 : decode cX6_set 41 = .ok (.bipush (-5), 2) := by decide +kernel
theorem dX6_set_43 : decode cX6_set 43 = .ok (.ireturn, 1) := by decide +kernel
theorem dX6_set_44 : decode cX6_set 44 = .ok (.aload_n 0, 1) := by decide +kernel
theorem dX6_set_45 : decode cX6_set 45 = .ok (.invokevirtual 49, 3) := by decide +kernel
theorem dX6_set_48 : decode cX6_set 48 = .ok (.aload_n 0, 1) := by decide +kernel
theorem dX6_set_49 : decode cX6_set 49 = .ok (.getfield 7, 3) := by decide +kernel
theorem dX6_set_52 : decode cX6_set 52 = .ok (.iconst 0, 1) := by decide +kernel
theorem dX6_set_53 : decode cX6_set 53 = .ok (.iload_n 1, 1) := by decide +kernel
theorem dX6_set_54 : decode cX6_set 54 = .ok (.iadd, 1) := by decide +kernel
theorem dX6_set_55 : decode cX6_set 55 = .ok (.iload_n 2, 1) := by decide +kernel
theorem dX6_set_56 : decode cX6_set 56 = .ok (.iastore, 1) := by decide +kernel
theorem dX6_set_57 : decode cX6_set 57 = .ok (.iload_n 3, 1) := by decide +kernel
theorem dX6_set_58 : decode cX6_set 58 = .ok (.ireturn, 1) := by decide +kernel
theorem dX6_backOf_0 : decode cX6_backOf 0 = .ok (.aload_n 0, 1) := by decide +kernel
theorem dX6_backOf_1 : decode cX6_backOf 1 = .ok (.getfield 7, 3) := by decide +kernel
theorem dX6_backOf_4 : decode cX6_backOf 4 = .ok (.bipush 59, 2) := by decide +kernel
theorem dX6_backOf_6 : decode cX6_backOf 6 = .ok (.iload_n 2, 1) := by decide +kernel
theorem dX6_backOf_7 : decode cX6_backOf 7 = .ok (.ifCond .eq 10, 3) := by decide +kernel
theorem dX6_backOf_10 : decode cX6_backOf 10 = .ok (.bipush 23, 2) := by decide +kernel
theorem dX6_backOf_12 : decode cX6_backOf 12 = .ok (.iload_n 1, 1) := by decide +kernel
theorem dX6_backOf_13 : decode cX6_backOf 13 = .ok (.isub, 1) := by decide +kernel
theorem dX6_backOf_14 : decode cX6_backOf 14 = .ok (.goto 4, 3) := by decide +kernel
theorem dX6_backOf_17 : decode cX6_backOf 17 = .ok (.iload_n 1, 1) := by decide +kernel
theorem dX6_backOf_18 : decode cX6_backOf 18 = .ok (.iadd, 1) := by decide +kernel
theorem dX6_backOf_19 : decode cX6_backOf 19 = .ok (.iaload, 1) := by decide +kernel
theorem dX6_backOf_20 : decode cX6_backOf 20 = .ok (.ireturn, 1) := by decide +kernel
theorem dX6_sheetAt_0 : decode cX6_sheetAt 0 = .ok (.sipush 179, 3) := by decide +kernel
theorem dX6_sheetAt_3 : decode cX6_sheetAt 3 = .ok (.bipush 72, 2) := by decide +kernel
theorem dX6_sheetAt_5 : decode cX6_sheetAt 5 = .ok (.iload_n 0, 1) := by decide +kernel
theorem dX6_sheetAt_6 : decode cX6_sheetAt 6 = .ok (.imul, 1) := by decide +kernel
theorem dX6_sheetAt_7 : decode cX6_sheetAt 7 = .ok (.iadd, 1) := by decide +kernel
theorem dX6_sheetAt_8 : decode cX6_sheetAt 8 = .ok (.ireturn, 1) := by decide +kernel
theorem dX6_top_0 : decode cX6_top 0 = .ok (.aload_n 0, 1) := by decide +kernel
theorem dX6_top_1 : decode cX6_top 1 = .ok (.getfield 7, 3) := by decide +kernel
theorem dX6_top_4 : decode cX6_top 4 = .ok (.iconst 5, 1) := by decide +kernel
theorem dX6_top_5 : decode cX6_top 5 = .ok (.iaload, 1) := by decide +kernel
theorem dX6_top_6 : decode cX6_top 6 = .ok (.iconst 1, 1) := by decide +kernel
theorem dX6_top_7 : decode cX6_top 7 = .ok (.isub, 1) := by decide +kernel
theorem dX6_top_8 : decode cX6_top 8 = .ok (.invokestatic 77, 3) := by decide +kernel
theorem dX6_top_11 : decode cX6_top 11 = .ok (.ireturn, 1) := by decide +kernel
theorem dX6_print_0 : decode cX6_print 0 = .ok (.aload_n 0, 1) := by decide +kernel
theorem dX6_print_1 : decode cX6_print 1 = .ok (.getfield 7, 3) := by decide +kernel
theorem dX6_print_4 : decode cX6_print 4 = .ok (.iconst 5, 1) := by decide +kernel
theorem dX6_print_5 : decode cX6_print 5 = .ok (.iaload, 1) := by decide +kernel
theorem dX6_print_6 : decode cX6_print 6 = .ok (.bipush 6, 2) := by decide +kernel
theorem dX6_print_8 : decode cX6_print 8 = .ok (.if_icmp .ne 6, 3) := by decide +kernel
theorem dX6_print_11 : decode cX6_print 11 = .ok (.bipush (-3), 2) := by decide +kernel
theorem dX6_print_13 : decode cX6_print 13 = .ok (.ireturn, 1) := by decide +kernel
theorem dX6_print_14 : decode cX6_print 14 = .ok (.aload_n 0, 1) := by decide +kernel
theorem dX6_print_15 : decode cX6_print 15 = .ok (.invokevirtual 49, 3) := by decide +kernel
theorem dX6_print_18 : decode cX6_print 18 = .ok (.aload_n 0, 1) := by decide +kernel
theorem dX6_print_19 : decode cX6_print 19 = .ok (.getfield 7, 3) := by decide +kernel
theorem dX6_print_22 : decode cX6_print 22 = .ok (.iconst 5, 1) := by decide +kernel
theorem dX6_print_23 : decode cX6_print 23 = .ok (.dup2, 1) := by decide +kernel
theorem dX6_print_24 : decode cX6_print 24 = .ok (.iaload, 1) := by decide +kernel
theorem dX6_print_25 : decode cX6_print 25 = .ok (.iconst 1, 1) := by decide +kernel
theorem dX6_print_26 : decode cX6_print 26 = .ok (.iadd, 1) := by decide +kernel
theorem dX6_print_27 : decode cX6_print 27 = .ok (.iastore, 1) := by decide +kernel
theorem dX6_print_28 : decode cX6_print 28 = .ok (.iconst 0, 1) := by decide +kernel
theorem dX6_print_29 : decode cX6_print 29 = .ok (.istore_n 2, 1) := by decide +kernel
theorem dX6_print_30 : decode cX6_print 30 = .ok (.iload_n 2, 1) := by decide +kernel
theorem dX6_print_31 : decode cX6_print 31 = .ok (.bipush 24, 2) := by decide +kernel
theorem dX6_print_33 : decode cX6_print 33 = .ok (.if_icmp .ge 72, 3) := by decide +kernel
theorem dX6_print_36 : decode cX6_print 36 = .ok (.aload_n 0, 1) := by decide +kernel
theorem dX6_print_37 : decode cX6_print 37 = .ok (.getfield 7, 3) := by decide +kernel
theorem dX6_print_40 : decode cX6_print 40 = .ok (.aload_n 0, 1) := by decide +kernel
theorem dX6_print_41 : decode cX6_print 41 = .ok (.invokevirtual 80, 3) := by decide +kernel
theorem dX6_print_44 : decode cX6_print 44 = .ok (.iload_n 2, 1) := by decide +kernel
theorem dX6_print_45 : decode cX6_print 45 = .ok (.iadd, 1) := by decide +kernel
theorem dX6_print_46 : decode cX6_print 46 = .ok (.aload_n 0, 1) := by decide +kernel
theorem dX6_print_47 : decode cX6_print 47 = .ok (.getfield 7, 3) := by decide +kernel
theorem dX6_print_50 : decode cX6_print 50 = .ok (.bipush 11, 2) := by decide +kernel
theorem dX6_print_52 : decode cX6_print 52 = .ok (.iload_n 2, 1) := by decide +kernel
theorem dX6_print_53 : decode cX6_print 53 = .ok (.iadd, 1) := by decide +kernel
theorem dX6_print_54 : decode cX6_print 54 = .ok (.iaload, 1) := by decide +kernel
theorem dX6_print_55 : decode cX6_print 55 = .ok (.iastore, 1) := by decide +kernel
theorem dX6_print_56 : decode cX6_print 56 = .ok (.aload_n 0, 1) := by decide +kernel
theorem dX6_print_57 : decode cX6_print 57 = .ok (.getfield 7, 3) := by decide +kernel
theorem dX6_print_60 : decode cX6_print 60 = .ok (.aload_n 0, 1) := by decide +kernel
theorem dX6_print_61 : decode cX6_print 61 = .ok (.invokevirtual 80, 3) := by decide +kernel
theorem dX6_print_64 : decode cX6_print 64 = .ok (.bipush 24, 2) := by decide +kernel
theorem dX6_print_66 : decode cX6_print 66 = .ok (.iadd, 1) := by decide +kernel
theorem dX6_print_67 : decode cX6_print 67 = .ok (.iload_n 2, 1) := by decide +kernel
theorem dX6_print_68 : decode cX6_print 68 = .ok (.iadd, 1) := by decide +kernel
theorem dX6_print_69 : decode cX6_print 69 = .ok (.aload_n 0, 1) := by decide +kernel
theorem dX6_print_70 : decode cX6_print 70 = .ok (.getfield 7, 3) := by decide +kernel
theorem dX6_print_73 : decode cX6_print 73 = .ok (.bipush 35, 2) := by decide +kernel
theorem dX6_print_75 : decode cX6_print 75 = .ok (.iload_n 2, 1) := by decide +kernel
theorem dX6_print_76 : decode cX6_print 76 = .ok (.iadd, 1) := by decide +kernel
theorem dX6_print_77 : decode cX6_print 77 = .ok (.iaload, 1) := by decide +kernel
theorem dX6_print_78 : decode cX6_print 78 = .ok (.iastore, 1) := by decide +kernel
theorem dX6_print_79 : decode cX6_print 79 = .ok (.aload_n 0, 1) := by decide +kernel
theorem dX6_print_80 : decode cX6_print 80 = .ok (.getfield 7, 3) := by decide +kernel
theorem dX6_print_83 : decode cX6_print 83 = .ok (.aload_n 0, 1) := by decide +kernel
theorem dX6_print_84 : decode cX6_print 84 = .ok (.invokevirtual 80, 3) := by decide +kernel
theorem dX6_print_87 : decode cX6_print 87 = .ok (.bipush 48, 2) := by decide +kernel
theorem dX6_print_89 : decode cX6_print 89 = .ok (.iadd, 1) := by decide +kernel
theorem dX6_print_90 : decode cX6_print 90 = .ok (.iload_n 2, 1) := by decide +kernel
theorem dX6_print_91 : decode cX6_print 91 = .ok (.iadd, 1) := by decide +kernel
theorem dX6_print_92 : decode cX6_print 92 = .ok (.aload_n 0, 1) := by decide +kernel
theorem dX6_print_93 : decode cX6_print 93 = .ok (.iload_n 2, 1) := by decide +kernel
theorem dX6_print_94 : decode cX6_print 94 = .ok (.iload_n 1, 1) := by decide +kernel
theorem dX6_print_95 : decode cX6_print 95 = .ok (.invokevirtual 84, 3) := by decide +kernel
theorem dX6_print_98 : decode cX6_print 98 = .ok (.iastore, 1) := by decide +kernel
theorem dX6_print_99 : decode cX6_print 99 = .ok (.iinc 2 1, 3) := by decide +kernel
theorem dX6_print_102 : decode cX6_print 102 = .ok (.goto (-72), 3) := by decide +kernel
theorem dX6_print_105 : decode cX6_print 105 = .ok (.aload_n 0, 1) := by decide +kernel
theorem dX6_print_106 : decode cX6_print 106 = .ok (.getfield 7, 3) := by decide +kernel
theorem dX6_print_109 : decode cX6_print 109 = .ok (.iconst 4, 1) := by decide +kernel
theorem dX6_print_110 : decode cX6_print 110 = .ok (.dup2, 1) := by decide +kernel
theorem dX6_print_111 : decode cX6_print 111 = .ok (.iaload, 1) := by decide +kernel
theorem dX6_print_112 : decode cX6_print 112 = .ok (.iconst 1, 1) := by decide +kernel
theorem dX6_print_113 : decode cX6_print 113 = .ok (.iadd, 1) := by decide +kernel
theorem dX6_print_114 : decode cX6_print 114 = .ok (.iastore, 1) := by decide +kernel
theorem dX6_print_115 : decode cX6_print 115 = .ok (.aload_n 0, 1) := by decide +kernel
theorem dX6_print_116 : decode cX6_print 116 = .ok (.getfield 7, 3) := by decide +kernel
theorem dX6_print_119 : decode cX6_print 119 = .ok (.iconst 4, 1) := by decide +kernel
theorem dX6_print_120 : decode cX6_print 120 = .ok (.iaload, 1) := by decide +kernel
theorem dX6_print_121 : decode cX6_print 121 = .ok (.istore_n 2, 1) := by decide +kernel
theorem dX6_print_122 : decode cX6_print 122 = .ok (.iload_n 2, 1) := by decide +kernel
theorem dX6_print_123 : decode cX6_print 123 = .ok (.aload_n 0, 1) := by decide +kernel
theorem dX6_print_124 : decode cX6_print 124 = .ok (.getfield 7, 3) := by decide +kernel
theorem dX6_print_127 : decode cX6_print 127 = .ok (.iconst 0, 1) := by decide +kernel
theorem dX6_print_128 : decode cX6_print 128 = .ok (.iaload, 1) := by decide +kernel
theorem dX6_print_129 : decode cX6_print 129 = .ok (.irem, 1) := by decide +kernel
theorem dX6_print_130 : decode cX6_print 130 = .ok (.ifCond .ne 22, 3) := by decide +kernel
theorem dX6_print_133 : decode cX6_print 133 = .ok (.aload_n 0, 1) := by decide +kernel
theorem dX6_print_134 : decode cX6_print 134 = .ok (.iload_n 2, 1) := by decide +kernel
theorem dX6_print_135 : decode cX6_print 135 = .ok (.bipush 24, 2) := by decide +kernel
theorem dX6_print_137 : decode cX6_print 137 = .ok (.irem, 1) := by decide +kernel
theorem dX6_print_138 : decode cX6_print 138 = .ok (.iload_n 2, 1) := by decide +kernel
theorem dX6_print_139 : decode cX6_print 139 = .ok (.aload_n 0, 1) := by decide +kernel
theorem dX6_print_140 : decode cX6_print 140 = .ok (.getfield 7, 3) := by decide +kernel
theorem dX6_print_143 : decode cX6_print 143 = .ok (.iconst 0, 1) := by decide +kernel
theorem dX6_print_144 : decode cX6_print 144 = .ok (.iaload, 1) := by decide +kernel
theorem dX6_print_145 : decode cX6_print 145 = .ok (.idiv, 1) := by decide +kernel
theorem dX6_print_146 : decode cX6_print 146 = .ok (.iconst 4, 1) := by decide +kernel
theorem dX6_print_147 : decode cX6_print 147 = .ok (.irem, 1) := by decide +kernel
theorem dX6_print_148 : decode cX6_print 148 = .ok (.iconst 1, 1) := by decide +kernel
theorem dX6_print_149 : decode cX6_print 149 = .ok (.invokevirtual 63, 3) := by decide +kernel
theorem dX6_print_152 : decode cX6_print 152 = .ok (.aload_n 0, 1) := by decide +kernel
theorem dX6_print_153 : decode cX6_print 153 = .ok (.getfield 7, 3) := by decide +kernel
theorem dX6_print_156 : decode cX6_print 156 = .ok (.iconst 5, 1) := by decide +kernel
theorem dX6_print_157 : decode cX6_print 157 = .ok (.iaload, 1) := by decide +kernel
theorem dX6_print_158 : decode cX6_print 158 = .ok (.ireturn, 1) := by decide +kernel
theorem dX6_cellAt_0 : decode cX6_cellAt 0 = .ok (.iload_n 1, 1) := by decide +kernel
theorem dX6_cellAt_1 : decode cX6_cellAt 1 = .ok (.iconst 2, 1) := by decide +kernel
theorem dX6_cellAt_2 : decode cX6_cellAt 2 = .ok (.irem, 1) := by decide +kernel
theorem dX6_cellAt_3 : decode cX6_cellAt 3 = .ok (.ifCond .ne 7, 3) := by decide +kernel
theorem dX6_cellAt_6 : decode cX6_cellAt 6 = .ok (.iconst 1, 1) := by decide +kernel
theorem dX6_cellAt_7 : decode cX6_cellAt 7 = .ok (.goto 4, 3) := by decide +kernel
theorem dX6_cellAt_10 : decode cX6_cellAt 10 = .ok (.iconst 0, 1) := by decide +kernel
theorem dX6_cellAt_11 : decode cX6_cellAt 11 = .ok (.istore_n 2, 1) := by decide +kernel
theorem dX6_cellAt_12 : decode cX6_cellAt 12 = .ok (.iload_n 2, 1) := by decide +kernel
theorem dX6_cellAt_13 : decode cX6_cellAt 13 = .ok (.ifCond .eq 8, 3) := by decide +kernel
theorem dX6_cellAt_16 : decode cX6_cellAt 16 = .ok (.bipush 6, 2) := by decide +kernel
theorem dX6_cellAt_18 : decode cX6_cellAt 18 = .ok (.goto 4, 3) := by decide +kernel
theorem dX6_cellAt_21 : decode cX6_cellAt 21 = .ok (.iconst 4, 1) := by decide +kernel
theorem dX6_cellAt_22 : decode cX6_cellAt 22 = .ok (.istore_n 3, 1) := by decide +kernel
theorem dX6_cellAt_23 : decode cX6_cellAt 23 = .ok (.iload_n 0, 1) := by decide +kernel
theorem dX6_cellAt_24 : decode cX6_cellAt 24 = .ok (.iload_n 3, 1) := by decide +kernel
theorem dX6_cellAt_25 : decode cX6_cellAt 25 = .ok (.idiv, 1) := by decide +kernel
theorem dX6_cellAt_26 : decode cX6_cellAt 26 = .ok (.istore 4, 2) := by decide +kernel
theorem dX6_cellAt_28 : decode cX6_cellAt 28 = .ok (.iload_n 0, 1) := by decide +kernel
theorem dX6_cellAt_29 : decode cX6_cellAt 29 = .ok (.iload_n 3, 1) := by decide +kernel
theorem dX6_cellAt_30 : decode cX6_cellAt 30 = .ok (.irem, 1) := by decide +kernel
theorem dX6_cellAt_31 : decode cX6_cellAt 31 = .ok (.istore 5, 2) := by decide +kernel
theorem dX6_cellAt_33 : decode cX6_cellAt 33 = .ok (.iload_n 1, 1) := by decide +kernel
theorem dX6_cellAt_34 : decode cX6_cellAt 34 = .ok (.iconst 1, 1) := by decide +kernel
theorem dX6_cellAt_35 : decode cX6_cellAt 35 = .ok (.if_icmp .le 20, 3) := by decide +kernel
theorem dX6_cellAt_38 : decode cX6_cellAt 38 = .ok (.iload 4, 2) := by decide +kernel
theorem dX6_cellAt_40 : decode cX6_cellAt 40 = .ok (.iconst 2, 1) := by decide +kernel
theorem dX6_cellAt_41 : decode cX6_cellAt 41 = .ok (.irem, 1) := by decide +kernel
theorem dX6_cellAt_42 : decode cX6_cellAt 42 = .ok (.iconst 1, 1) := by decide +kernel
theorem dX6_cellAt_43 : decode cX6_cellAt 43 = .ok (.if_icmp .ne 12, 3) := by decide +kernel
theorem dX6_cellAt_46 : decode cX6_cellAt 46 = .ok (.iload_n 3, 1) := by decide +kernel
theorem dX6_cellAt_47 : decode cX6_cellAt 47 = .ok (.iconst 1, 1) := by decide +kernel
theorem dX6_cellAt_48 : decode cX6_cellAt 48 = .ok (.isub, 1) := by decide +kernel
theorem dX6_cellAt_49 : decode cX6_cellAt 49 = .ok (.iload 5, 2) := by decide +kernel
theorem dX6_cellAt_51 : decode cX6_cellAt 51 = .ok (.isub, 1) := by decide +kernel
theorem dX6_cellAt_52 : decode cX6_cellAt 52 = .ok (.goto 5, 3) := by decide +kernel
theorem dX6_cellAt_55 : decode cX6_cellAt 55 = .ok (.iload 5, 2) := by decide +kernel
theorem dX6_cellAt_57 : decode cX6_cellAt 57 = .ok (.istore 5, 2) := by decide +kernel
theorem dX6_cellAt_59 : decode cX6_cellAt 59 = .ok (.iload_n 2, 1) := by decide +kernel
theorem dX6_cellAt_60 : decode cX6_cellAt 60 = .ok (.ifCond .eq 14, 3) := by decide +kernel
theorem dX6_cellAt_63 : decode cX6_cellAt 63 = .ok (.bipush 6, 2) := by decide +kernel
theorem dX6_cellAt_65 : decode cX6_cellAt 65 = .ok (.iload 4, 2) := by decide +kernel
theorem dX6_cellAt_67 : decode cX6_cellAt 67 = .ok (.imul, 1) := by decide +kernel
theorem dX6_cellAt_68 : decode cX6_cellAt 68 = .ok (.iload 5, 2) := by decide +kernel
theorem dX6_cellAt_70 : decode cX6_cellAt 70 = .ok (.iadd, 1) := by decide +kernel
theorem dX6_cellAt_71 : decode cX6_cellAt 71 = .ok (.goto 11, 3) := by decide +kernel
theorem dX6_cellAt_74 : decode cX6_cellAt 74 = .ok (.bipush 6, 2) := by decide +kernel
theorem dX6_cellAt_76 : decode cX6_cellAt 76 = .ok (.iload 5, 2) := by decide +kernel
theorem dX6_cellAt_78 : decode cX6_cellAt 78 = .ok (.imul, 1) := by decide +kernel
theorem dX6_cellAt_79 : decode cX6_cellAt 79 = .ok (.iload 4, 2) := by decide +kernel
theorem dX6_cellAt_81 : decode cX6_cellAt 81 = .ok (.iadd, 1) := by decide +kernel
theorem dX6_cellAt_82 : decode cX6_cellAt 82 = .ok (.ireturn, 1) := by decide +kernel
theorem dX6_cutSheet_0 : decode cX6_cutSheet 0 = .ok (.iload_n 1, 1) := by decide +kernel
theorem dX6_cutSheet_1 : decode cX6_cutSheet 1 = .ok (.iconst 0, 1) := by decide +kernel
theorem dX6_cutSheet_2 : decode cX6_cutSheet 2 = .ok (.iconst 3, 1) := by decide +kernel
theorem dX6_cutSheet_3 : decode cX6_cutSheet 3 = .ok (.invokestatic 31, 3) := by decide +kernel
theorem dX6_cutSheet_6 : decode cX6_cutSheet 6 = .ok (.ifCond .ne 6, 3) := by decide +kernel
theorem dX6_cutSheet_9 : decode cX6_cutSheet 9 = .ok (.bipush (-2), 2) := by decide +kernel
theorem dX6_cutSheet_11 : decode cX6_cutSheet 11 = .ok (.ireturn, 1) := by decide +kernel
theorem dX6_cutSheet_12 : decode cX6_cutSheet 12 = .ok (.aload_n 0, 1) := by decide +kernel
theorem dX6_cutSheet_13 : decode cX6_cutSheet 13 = .ok (.getfield 7, 3) := by decide +kernel
theorem dX6_cutSheet_16 : decode cX6_cutSheet 16 = .ok (.bipush 6, 2) := by decide +kernel
theorem dX6_cutSheet_18 : decode cX6_cutSheet 18 = .ok (.iaload, 1) := by decide +kernel
theorem dX6_cutSheet_19 : decode cX6_cutSheet 19 = .ok (.iconst 1, 1) := by decide +kernel
theorem dX6_cutSheet_20 : decode cX6_cutSheet 20 = .ok (.if_icmp .eq 12, 3) := by decide +kernel
theorem dX6_cutSheet_23 : decode cX6_cutSheet 23 = .ok (.aload_n 0, 1) := by decide +kernel
theorem dX6_cutSheet_24 : decode cX6_cutSheet 24 = .ok (.getfield 7, 3) := by decide +kernel
theorem dX6_cutSheet_27 : decode cX6_cutSheet 27 = .ok (.iconst 5, 1) := by decide +kernel
theorem dX6_cutSheet_28 : decode cX6_cutSheet 28 = .ok (.iaload, 1) := by decide +kernel
theorem dX6_cutSheet_29 : decode cX6_cutSheet 29 = .ok (.ifCond .ne 6, 3) := by decide +kernel
theorem dX6_cutSheet_32 : decode cX6_cutSheet 32 = .ok (.bipush (-4), 2) := by decide +kernel
theorem dX6_cutSheet_34 : decode cX6_cutSheet 34 = .ok (.ireturn, 1) := by decide +kernel
theorem dX6_cutSheet_35 : decode cX6_cutSheet 35 = .ok (.aload_n 0, 1) := by decide +kernel
theorem dX6_cutSheet_36 : decode cX6_cutSheet 36 = .ok (.invokevirtual 49, 3) := by decide +kernel
theorem dX6_cutSheet_39 : decode cX6_cutSheet 39 = .ok (.iconst 0, 1) := by decide +kernel
theorem dX6_cutSheet_40 : decode cX6_cutSheet 40 = .ok (.istore_n 2, 1) := by decide +kernel
theorem dX6_cutSheet_41 : decode cX6_cutSheet 41 = .ok (.iload_n 2, 1) := by decide +kernel
theorem dX6_cutSheet_42 : decode cX6_cutSheet 42 = .ok (.bipush 24, 2) := by decide +kernel
theorem dX6_cutSheet_44 : decode cX6_cutSheet 44 = .ok (.if_icmp .ge 98, 3) := by decide +kernel
theorem dX6_cutSheet_47 : decode cX6_cutSheet 47 = .ok (.iload_n 2, 1) := by decide +kernel
theorem dX6_cutSheet_48 : decode cX6_cutSheet 48 = .ok (.iload_n 1, 1) := by decide +kernel
theorem dX6_cutSheet_49 : decode cX6_cutSheet 49 = .ok (.invokestatic 88, 3) := by decide +kernel
theorem dX6_cutSheet_52 : decode cX6_cutSheet 52 = .ok (.istore_n 3, 1) := by decide +kernel
theorem dX6_cutSheet_53 : decode cX6_cutSheet 53 = .ok (.aload_n 0, 1) := by decide +kernel
theorem dX6_cutSheet_54 : decode cX6_cutSheet 54 = .ok (.getfield 7, 3) := by decide +kernel
theorem dX6_cutSheet_57 : decode cX6_cutSheet 57 = .ok (.aload_n 0, 1) := by decide +kernel
theorem dX6_cutSheet_58 : decode cX6_cutSheet 58 = .ok (.invokevirtual 80, 3) := by decide +kernel
theorem dX6_cutSheet_61 : decode cX6_cutSheet 61 = .ok (.iload_n 3, 1) := by decide +kernel
theorem dX6_cutSheet_62 : decode cX6_cutSheet 62 = .ok (.iadd, 1) := by decide +kernel
theorem dX6_cutSheet_63 : decode cX6_cutSheet 63 = .ok (.iaload, 1) := by decide +kernel
theorem dX6_cutSheet_64 : decode cX6_cutSheet 64 = .ok (.istore 4, 2) := by decide +kernel
theorem dX6_cutSheet_66 : decode cX6_cutSheet 66 = .ok (.aload_n 0, 1) := by decide +kernel
theorem dX6_cutSheet_67 : decode cX6_cutSheet 67 = .ok (.getfield 7, 3) := by decide +kernel
theorem dX6_cutSheet_70 : decode cX6_cutSheet 70 = .ok (.bipush 83, 2) := by decide +kernel
theorem dX6_cutSheet_72 : decode cX6_cutSheet 72 = .ok (.iload_n 2, 1) := by decide +kernel
theorem dX6_cutSheet_73 : decode cX6_cutSheet 73 = .ok (.iadd, 1) := by decide +kernel
theorem dX6_cutSheet_74 : decode cX6_cutSheet 74 = .ok (.iload 4, 2) := by decide +kernel
theorem dX6_cutSheet_76 : decode cX6_cutSheet 76 = .ok (.iastore, 1) := by decide +kernel
theorem dX6_cutSheet_77 : decode cX6_cutSheet 77 = .ok (.aload_n 0, 1) := by decide +kernel
theorem dX6_cutSheet_78 : decode cX6_cutSheet 78 = .ok (.getfield 7, 3) := by decide +kernel
theorem dX6_cutSheet_81 : decode cX6_cutSheet 81 = .ok (.sipush 131, 3) := by decide +kernel
theorem dX6_cutSheet_84 : decode cX6_cutSheet 84 = .ok (.iload 4, 2) := by decide +kernel
theorem dX6_cutSheet_86 : decode cX6_cutSheet 86 = .ok (.iadd, 1) := by decide +kernel
theorem dX6_cutSheet_87 : decode cX6_cutSheet 87 = .ok (.aload_n 0, 1) := by decide +kernel
theorem dX6_cutSheet_88 : decode cX6_cutSheet 88 = .ok (.getfield 7, 3) := by decide +kernel
theorem dX6_cutSheet_91 : decode cX6_cutSheet 91 = .ok (.aload_n 0, 1) := by decide +kernel
theorem dX6_cutSheet_92 : decode cX6_cutSheet 92 = .ok (.invokevirtual 80, 3) := by decide +kernel
theorem dX6_cutSheet_95 : decode cX6_cutSheet 95 = .ok (.bipush 48, 2) := by decide +kernel
theorem dX6_cutSheet_97 : decode cX6_cutSheet 97 = .ok (.iadd, 1) := by decide +kernel
theorem dX6_cutSheet_98 : decode cX6_cutSheet 98 = .ok (.iload_n 3, 1) := by decide +kernel
theorem dX6_cutSheet_99 : decode cX6_cutSheet 99 = .ok (.iadd, 1) := by decide +kernel
theorem dX6_cutSheet_100 : decode cX6_cutSheet 100 = .ok (.iaload, 1) := by decide +kernel
theorem dX6_cutSheet_101 : decode cX6_cutSheet 101 = .ok (.iastore, 1) := by decide +kernel
theorem dX6_cutSheet_102 : decode cX6_cutSheet 102 = .ok (.aload_n 0, 1) := by decide +kernel
theorem dX6_cutSheet_103 : decode cX6_cutSheet 103 = .ok (.getfield 7, 3) := by decide +kernel
theorem dX6_cutSheet_106 : decode cX6_cutSheet 106 = .ok (.bipush 107, 2) := by decide +kernel
theorem dX6_cutSheet_108 : decode cX6_cutSheet 108 = .ok (.iload_n 2, 1) := by decide +kernel
theorem dX6_cutSheet_109 : decode cX6_cutSheet 109 = .ok (.iadd, 1) := by decide +kernel
theorem dX6_cutSheet_110 : decode cX6_cutSheet 110 = .ok (.aload_n 0, 1) := by decide +kernel
theorem dX6_cutSheet_111 : decode cX6_cutSheet 111 = .ok (.getfield 7, 3) := by decide +kernel
theorem dX6_cutSheet_114 : decode cX6_cutSheet 114 = .ok (.aload_n 0, 1) := by decide +kernel
theorem dX6_cutSheet_115 : decode cX6_cutSheet 115 = .ok (.invokevirtual 80, 3) := by decide +kernel
theorem dX6_cutSheet_118 : decode cX6_cutSheet 118 = .ok (.bipush 24, 2) := by decide +kernel
theorem dX6_cutSheet_120 : decode cX6_cutSheet 120 = .ok (.iadd, 1) := by decide +kernel
theorem dX6_cutSheet_121 : decode cX6_cutSheet 121 = .ok (.iload_n 2, 1) := by decide +kernel
theorem dX6_cutSheet_122 : decode cX6_cutSheet 122 = .ok (.iadd, 1) := by decide +kernel
theorem dX6_cutSheet_123 : decode cX6_cutSheet 123 = .ok (.iaload, 1) := by decide +kernel
theorem dX6_cutSheet_124 : decode cX6_cutSheet 124 = .ok (.iastore, 1) := by decide +kernel
theorem dX6_cutSheet_125 : decode cX6_cutSheet 125 = .ok (.aload_n 0, 1) := by decide +kernel
theorem dX6_cutSheet_126 : decode cX6_cutSheet 126 = .ok (.getfield 7, 3) := by decide +kernel
theorem dX6_cutSheet_129 : decode cX6_cutSheet 129 = .ok (.sipush 155, 3) := by decide +kernel
theorem dX6_cutSheet_132 : decode cX6_cutSheet 132 = .ok (.iload_n 2, 1) := by decide +kernel
theorem dX6_cutSheet_133 : decode cX6_cutSheet 133 = .ok (.iadd, 1) := by decide +kernel
theorem dX6_cutSheet_134 : decode cX6_cutSheet 134 = .ok (.iconst 0, 1) := by decide +kernel
theorem dX6_cutSheet_135 : decode cX6_cutSheet 135 = .ok (.iastore, 1) := by decide +kernel
theorem dX6_cutSheet_136 : decode cX6_cutSheet 136 = .ok (.iinc 2 1, 3) := by decide +kernel
theorem dX6_cutSheet_139 : decode cX6_cutSheet 139 = .ok (.goto (-98), 3) := by decide +kernel
theorem dX6_cutSheet_142 : decode cX6_cutSheet 142 = .ok (.aload_n 0, 1) := by decide +kernel
theorem dX6_cutSheet_143 : decode cX6_cutSheet 143 = .ok (.getfield 7, 3) := by decide +kernel
theorem dX6_cutSheet_146 : decode cX6_cutSheet 146 = .ok (.bipush 6, 2) := by decide +kernel
theorem dX6_cutSheet_148 : decode cX6_cutSheet 148 = .ok (.iconst 1, 1) := by decide +kernel
theorem dX6_cutSheet_149 : decode cX6_cutSheet 149 = .ok (.iastore, 1) := by decide +kernel
theorem dX6_cutSheet_150 : decode cX6_cutSheet 150 = .ok (.aload_n 0, 1) := by decide +kernel
theorem dX6_cutSheet_151 : decode cX6_cutSheet 151 = .ok (.getfield 7, 3) := by decide +kernel
theorem dX6_cutSheet_154 : decode cX6_cutSheet 154 = .ok (.bipush 7, 2) := by decide +kernel
theorem dX6_cutSheet_156 : decode cX6_cutSheet 156 = .ok (.bipush 24, 2) := by decide +kernel
theorem dX6_cutSheet_158 : decode cX6_cutSheet 158 = .ok (.iastore, 1) := by decide +kernel
theorem dX6_cutSheet_159 : decode cX6_cutSheet 159 = .ok (.aload_n 0, 1) := by decide +kernel
theorem dX6_cutSheet_160 : decode cX6_cutSheet 160 = .ok (.getfield 7, 3) := by decide +kernel
theorem dX6_cutSheet_163 : decode cX6_cutSheet 163 = .ok (.iconst 5, 1) := by decide +kernel
theorem dX6_cutSheet_164 : decode cX6_cutSheet 164 = .ok (.dup2, 1) := by decide +kernel
theorem dX6_cutSheet_165 : decode cX6_cutSheet 165 = .ok (.iaload, 1) := by decide +kernel
theorem dX6_cutSheet_166 : decode cX6_cutSheet 166 = .ok (.iconst 1, 1) := by decide +kernel
theorem dX6_cutSheet_167 : decode cX6_cutSheet 167 = .ok (.isub, 1) := by decide +kernel
theorem dX6_cutSheet_168 : decode cX6_cutSheet 168 = .ok (.iastore, 1) := by decide +kernel
theorem dX6_cutSheet_169 : decode cX6_cutSheet 169 = .ok (.aload_n 0, 1) := by decide +kernel
theorem dX6_cutSheet_170 : decode cX6_cutSheet 170 = .ok (.getfield 7, 3) := by decide +kernel
theorem dX6_cutSheet_173 : decode cX6_cutSheet 173 = .ok (.iconst 5, 1) := by decide +kernel
theorem dX6_cutSheet_174 : decode cX6_cutSheet 174 = .ok (.iaload, 1) := by decide +kernel
theorem dX6_cutSheet_175 : decode cX6_cutSheet 175 = .ok (.ireturn, 1) := by decide +kernel
theorem dX6_canPart_0 : decode cX6_canPart 0 = .ok (.iload_n 1, 1) := by decide +kernel
theorem dX6_canPart_1 : decode cX6_canPart 1 = .ok (.iconst 1, 1) := by decide +kernel
theorem dX6_canPart_2 : decode cX6_canPart 2 = .ok (.aload_n 0, 1) := by decide +kernel
theorem dX6_canPart_3 : decode cX6_canPart 3 = .ok (.getfield 7, 3) := by decide +kernel
theorem dX6_canPart_6 : decode cX6_canPart 6 = .ok (.bipush 7, 2) := by decide +kernel
theorem dX6_canPart_8 : decode cX6_canPart 8 = .ok (.iaload, 1) := by decide +kernel
theorem dX6_canPart_9 : decode cX6_canPart 9 = .ok (.iconst 1, 1) := by decide +kernel
theorem dX6_canPart_10 : decode cX6_canPart 10 = .ok (.isub, 1) := by decide +kernel
theorem dX6_canPart_11 : decode cX6_canPart 11 = .ok (.invokestatic 31, 3) := by decide +kernel
theorem dX6_canPart_14 : decode cX6_canPart 14 = .ok (.ireturn, 1) := by decide +kernel
theorem dX6_takeOrder_0 : decode cX6_takeOrder 0 = .ok (.iconst 0, 1) := by decide +kernel
theorem dX6_takeOrder_1 : decode cX6_takeOrder 1 = .ok (.istore_n 1, 1) := by decide +kernel
theorem dX6_takeOrder_2 : decode cX6_takeOrder 2 = .ok (.iload_n 1, 1) := by decide +kernel
theorem dX6_takeOrder_3 : decode cX6_takeOrder 3 = .ok (.aload_n 0, 1) := by decide +kernel
theorem dX6_takeOrder_4 : decode cX6_takeOrder 4 = .ok (.getfield 7, 3) := by decide +kernel
theorem dX6_takeOrder_7 : decode cX6_takeOrder 7 = .ok (.bipush 7, 2) := by decide +kernel
theorem dX6_takeOrder_9 : decode cX6_takeOrder 9 = .ok (.iaload, 1) := by decide +kernel
theorem dX6_takeOrder_10 : decode cX6_takeOrder 10 = .ok (.if_icmp .ge 24, 3) := by decide +kernel
theorem dX6_takeOrder_13 : decode cX6_takeOrder 13 = .ok (.aload_n 0, 1) := by decide +kernel
theorem dX6_takeOrder_14 : decode cX6_takeOrder 14 = .ok (.getfield 25, 3) := by decide +kernel
theorem dX6_takeOrder_17 : decode cX6_takeOrder 17 = .ok (.iload_n 1, 1) := by decide +kernel
theorem dX6_takeOrder_18 : decode cX6_takeOrder 18 = .ok (.aload_n 0, 1) := by decide +kernel
theorem dX6_takeOrder_19 : decode cX6_takeOrder 19 = .ok (.getfield 7, 3) := by decide +kernel
theorem dX6_takeOrder_22 : decode cX6_takeOrder 22 = .ok (.bipush 83, 2) := by decide +kernel
theorem dX6_takeOrder_24 : decode cX6_takeOrder 24 = .ok (.iload_n 1, 1) := by decide +kernel
theorem dX6_takeOrder_25 : decode cX6_takeOrder 25 = .ok (.iadd, 1) := by decide +kernel
theorem dX6_takeOrder_26 : decode cX6_takeOrder 26 = .ok (.iaload, 1) := by decide +kernel
theorem dX6_takeOrder_27 : decode cX6_takeOrder 27 = .ok (.iastore, 1) := by decide +kernel
theorem dX6_takeOrder_28 : decode cX6_takeOrder 28 = .ok (.iinc 1 1, 3) := by decide +kernel
theorem dX6_takeOrder_31 : decode cX6_takeOrder 31 = .ok (.goto (-29), 3) := by decide +kernel
theorem dX6_takeOrder_34 : decode cX6_takeOrder 34 = .ok (.return_, 1) := by decide +kernel
theorem dX6_cutPack_0 : decode cX6_cutPack 0 = .ok (.aload_n 0, 1) := by decide +kernel
theorem dX6_cutPack_1 : decode cX6_cutPack 1 = .ok (.getfield 7, 3) := by decide +kernel
theorem dX6_cutPack_4 : decode cX6_cutPack 4 = .ok (.bipush 6, 2) := by decide +kernel
theorem dX6_cutPack_6 : decode cX6_cutPack 6 = .ok (.iaload, 1) := by decide +kernel
theorem dX6_cutPack_7 : decode cX6_cutPack 7 = .ok (.ifCond .ne 6, 3) := by decide +kernel
theorem dX6_cutPack_10 : decode cX6_cutPack 10 = .ok (.bipush (-4), 2) := by decide +kernel
theorem dX6_cutPack_12 : decode cX6_cutPack 12 = .ok (.ireturn, 1) := by decide +kernel
theorem dX6_cutPack_13 : decode cX6_cutPack 13 = .ok (.aload_n 0, 1) := by decide +kernel
theorem dX6_cutPack_14 : decode cX6_cutPack 14 = .ok (.iload_n 1, 1) := by decide +kernel
theorem dX6_cutPack_15 : decode cX6_cutPack 15 = .ok (.invokevirtual 92, 3) := by decide +kernel
theorem dX6_cutPack_18 : decode cX6_cutPack 18 = .ok (.ifCond .ne 6, 3) := by decide +kernel
theorem dX6_cutPack_21 : decode cX6_cutPack 21 = .ok (.bipush (-2), 2) := by decide +kernel
theorem dX6_cutPack_23 : decode cX6_cutPack 23 = .ok (.ireturn, 1) := by decide +kernel
theorem dX6_cutPack_24 : decode cX6_cutPack 24 = .ok (.aload_n 0, 1) := by decide +kernel
theorem dX6_cutPack_25 : decode cX6_cutPack 25 = .ok (.invokevirtual 49, 3) := by decide +kernel
theorem dX6_cutPack_28 : decode cX6_cutPack 28 = .ok (.aload_n 0, 1) := by decide +kernel
theorem dX6_cutPack_29 : decode cX6_cutPack 29 = .ok (.invokevirtual 95, 3) := by decide +kernel
theorem dX6_cutPack_32 : decode cX6_cutPack 32 = .ok (.iconst 0, 1) := by decide +kernel
theorem dX6_cutPack_33 : decode cX6_cutPack 33 = .ok (.istore_n 2, 1) := by decide +kernel
theorem dX6_cutPack_34 : decode cX6_cutPack 34 = .ok (.iload_n 2, 1) := by decide +kernel
theorem dX6_cutPack_35 : decode cX6_cutPack 35 = .ok (.aload_n 0, 1) := by decide +kernel
theorem dX6_cutPack_36 : decode cX6_cutPack 36 = .ok (.getfield 7, 3) := by decide +kernel
theorem dX6_cutPack_39 : decode cX6_cutPack 39 = .ok (.bipush 7, 2) := by decide +kernel
theorem dX6_cutPack_41 : decode cX6_cutPack 41 = .ok (.iaload, 1) := by decide +kernel
theorem dX6_cutPack_42 : decode cX6_cutPack 42 = .ok (.if_icmp .ge 34, 3) := by decide +kernel
theorem dX6_cutPack_45 : decode cX6_cutPack 45 = .ok (.aload_n 0, 1) := by decide +kernel
theorem dX6_cutPack_46 : decode cX6_cutPack 46 = .ok (.getfield 7, 3) := by decide +kernel
theorem dX6_cutPack_49 : decode cX6_cutPack 49 = .ok (.bipush 83, 2) := by decide +kernel
theorem dX6_cutPack_51 : decode cX6_cutPack 51 = .ok (.iload_n 2, 1) := by decide +kernel
theorem dX6_cutPack_52 : decode cX6_cutPack 52 = .ok (.iadd, 1) := by decide +kernel
theorem dX6_cutPack_53 : decode cX6_cutPack 53 = .ok (.aload_n 0, 1) := by decide +kernel
theorem dX6_cutPack_54 : decode cX6_cutPack 54 = .ok (.getfield 25, 3) := by decide +kernel
theorem dX6_cutPack_57 : decode cX6_cutPack 57 = .ok (.iload_n 2, 1) := by decide +kernel
theorem dX6_cutPack_58 : decode cX6_cutPack 58 = .ok (.iload_n 1, 1) := by decide +kernel
theorem dX6_cutPack_59 : decode cX6_cutPack 59 = .ok (.iadd, 1) := by decide +kernel
theorem dX6_cutPack_60 : decode cX6_cutPack 60 = .ok (.aload_n 0, 1) := by decide +kernel
theorem dX6_cutPack_61 : decode cX6_cutPack 61 = .ok (.getfield 7, 3) := by decide +kernel
theorem dX6_cutPack_64 : decode cX6_cutPack 64 = .ok (.bipush 7, 2) := by decide +kernel
theorem dX6_cutPack_66 : decode cX6_cutPack 66 = .ok (.iaload, 1) := by decide +kernel
theorem dX6_cutPack_67 : decode cX6_cutPack 67 = .ok (.irem, 1) := by decide +kernel
theorem dX6_cutPack_68 : decode cX6_cutPack 68 = .ok (.iaload, 1) := by decide +kernel
theorem dX6_cutPack_69 : decode cX6_cutPack 69 = .ok (.iastore, 1) := by decide +kernel
theorem dX6_cutPack_70 : decode cX6_cutPack 70 = .ok (.iinc 2 1, 3) := by decide +kernel
theorem dX6_cutPack_73 : decode cX6_cutPack 73 = .ok (.goto (-39), 3) := by decide +kernel
theorem dX6_cutPack_76 : decode cX6_cutPack 76 = .ok (.aload_n 0, 1) := by decide +kernel
theorem dX6_cutPack_77 : decode cX6_cutPack 77 = .ok (.getfield 7, 3) := by decide +kernel
theorem dX6_cutPack_80 : decode cX6_cutPack 80 = .ok (.bipush 83, 2) := by decide +kernel
theorem dX6_cutPack_82 : decode cX6_cutPack 82 = .ok (.iaload, 1) := by decide +kernel
theorem dX6_cutPack_83 : decode cX6_cutPack 83 = .ok (.ireturn, 1) := by decide +kernel
theorem dX6_cameFrom_0 : decode cX6_cameFrom 0 = .ok (.iload_n 2, 1) := by decide +kernel
theorem dX6_cameFrom_1 : decode cX6_cameFrom 1 = .ok (.aload_n 0, 1) := by decide +kernel
theorem dX6_cameFrom_2 : decode cX6_cameFrom 2 = .ok (.getfield 7, 3) := by decide +kernel
theorem dX6_cameFrom_5 : decode cX6_cameFrom 5 = .ok (.bipush 7, 2) := by decide +kernel
theorem dX6_cameFrom_7 : decode cX6_cameFrom 7 = .ok (.iaload, 1) := by decide +kernel
theorem dX6_cameFrom_8 : decode cX6_cameFrom 8 = .ok (.iload_n 2, 1) := by decide +kernel
theorem dX6_cameFrom_9 : decode cX6_cameFrom 9 = .ok (.isub, 1) := by decide +kernel
theorem dX6_cameFrom_10 : decode cX6_cameFrom 10 = .ok (.if_icmp .ge 7, 3) := by decide +kernel
theorem dX6_cameFrom_13 : decode cX6_cameFrom 13 = .ok (.iload_n 2, 1) := by decide +kernel
theorem dX6_cameFrom_14 : decode cX6_cameFrom 14 = .ok (.goto 12, 3) := by decide +kernel
theorem dX6_cameFrom_17 : decode cX6_cameFrom 17 = .ok (.aload_n 0, 1) := by decide +kernel
theorem dX6_cameFrom_18 : decode cX6_cameFrom 18 = .ok (.getfield 7, 3) := by decide +kernel
theorem dX6_cameFrom_21 : decode cX6_cameFrom 21 = .ok (.bipush 7, 2) := by decide +kernel
theorem dX6_cameFrom_23 : decode cX6_cameFrom 23 = .ok (.iaload, 1) := by decide +kernel
theorem dX6_cameFrom_24 : decode cX6_cameFrom 24 = .ok (.iload_n 2, 1) := by decide +kernel
theorem dX6_cameFrom_25 : decode cX6_cameFrom 25 = .ok (.isub, 1) := by decide +kernel
theorem dX6_cameFrom_26 : decode cX6_cameFrom 26 = .ok (.istore_n 3, 1) := by decide +kernel
theorem dX6_cameFrom_27 : decode cX6_cameFrom 27 = .ok (.iload_n 1, 1) := by decide +kernel
theorem dX6_cameFrom_28 : decode cX6_cameFrom 28 = .ok (.iconst 2, 1) := by decide +kernel
theorem dX6_cameFrom_29 : decode cX6_cameFrom 29 = .ok (.iload_n 3, 1) := by decide +kernel
theorem dX6_cameFrom_30 : decode cX6_cameFrom 30 = .ok (.imul, 1) := by decide +kernel
theorem dX6_cameFrom_31 : decode cX6_cameFrom 31 = .ok (.if_icmp .ge 21, 3) := by decide +kernel
theorem dX6_cameFrom_34 : decode cX6_cameFrom 34 = .ok (.iload_n 1, 1) := by decide +kernel
theorem dX6_cameFrom_35 : decode cX6_cameFrom 35 = .ok (.iconst 2, 1) := by decide +kernel
theorem dX6_cameFrom_36 : decode cX6_cameFrom 36 = .ok (.irem, 1) := by decide +kernel
theorem dX6_cameFrom_37 : decode cX6_cameFrom 37 = .ok (.ifCond .ne 9, 3) := by decide +kernel
theorem dX6_cameFrom_40 : decode cX6_cameFrom 40 = .ok (.iload_n 1, 1) := by decide +kernel
theorem dX6_cameFrom_41 : decode cX6_cameFrom 41 = .ok (.iconst 2, 1) := by decide +kernel
theorem dX6_cameFrom_42 : decode cX6_cameFrom 42 = .ok (.idiv, 1) := by decide +kernel
theorem dX6_cameFrom_43 : decode cX6_cameFrom 43 = .ok (.goto 8, 3) := by decide +kernel
theorem dX6_cameFrom_46 : decode cX6_cameFrom 46 = .ok (.iload_n 2, 1) := by decide +kernel
theorem dX6_cameFrom_47 : decode cX6_cameFrom 47 = .ok (.iload_n 1, 1) := by decide +kernel
theorem dX6_cameFrom_48 : decode cX6_cameFrom 48 = .ok (.iconst 2, 1) := by decide +kernel
theorem dX6_cameFrom_49 : decode cX6_cameFrom 49 = .ok (.idiv, 1) := by decide +kernel
theorem dX6_cameFrom_50 : decode cX6_cameFrom 50 = .ok (.iadd, 1) := by decide +kernel
theorem dX6_cameFrom_51 : decode cX6_cameFrom 51 = .ok (.ireturn, 1) := by decide +kernel
theorem dX6_cameFrom_52 : decode cX6_cameFrom 52 = .ok (.iload_n 2, 1) := by decide +kernel
theorem dX6_cameFrom_53 : decode cX6_cameFrom 53 = .ok (.iload_n 3, 1) := by decide +kernel
theorem dX6_cameFrom_54 : decode cX6_cameFrom 54 = .ok (.if_icmp .le 9, 3) := by decide +kernel
theorem dX6_cameFrom_57 : decode cX6_cameFrom 57 = .ok (.iload_n 1, 1) := by decide +kernel
theorem dX6_cameFrom_58 : decode cX6_cameFrom 58 = .ok (.iload_n 3, 1) := by decide +kernel
theorem dX6_cameFrom_59 : decode cX6_cameFrom 59 = .ok (.isub, 1) := by decide +kernel
theorem dX6_cameFrom_60 : decode cX6_cameFrom 60 = .ok (.goto 4, 3) := by decide +kernel
theorem dX6_cameFrom_63 : decode cX6_cameFrom 63 = .ok (.iload_n 1, 1) := by decide +kernel
theorem dX6_cameFrom_64 : decode cX6_cameFrom 64 = .ok (.ireturn, 1) := by decide +kernel
theorem dX6_shuffle_0 : decode cX6_shuffle 0 = .ok (.aload_n 0, 1) := by decide +kernel
theorem dX6_shuffle_1 : decode cX6_shuffle 1 = .ok (.getfield 7, 3) := by decide +kernel
theorem dX6_shuffle_4 : decode cX6_shuffle 4 = .ok (.bipush 6, 2) := by decide +kernel
theorem dX6_shuffle_6 : decode cX6_shuffle 6 = .ok (.iaload, 1) := by decide +kernel
theorem dX6_shuffle_7 : decode cX6_shuffle 7 = .ok (.ifCond .ne 6, 3) := by decide +kernel
theorem dX6_shuffle_10 : decode cX6_shuffle 10 = .ok (.bipush (-4), 2) := by decide +kernel
theorem dX6_shuffle_12 : decode cX6_shuffle 12 = .ok (.ireturn, 1) := by decide +kernel
theorem dX6_shuffle_13 : decode cX6_shuffle 13 = .ok (.aload_n 0, 1) := by decide +kernel
theorem dX6_shuffle_14 : decode cX6_shuffle 14 = .ok (.iload_n 1, 1) := by decide +kernel
theorem dX6_shuffle_15 : decode cX6_shuffle 15 = .ok (.invokevirtual 92, 3) := by decide +kernel
theorem dX6_shuffle_18 : decode cX6_shuffle 18 = .ok (.ifCond .ne 6, 3) := by decide +kernel
theorem dX6_shuffle_21 : decode cX6_shuffle 21 = .ok (.bipush (-2), 2) := by decide +kernel
theorem dX6_shuffle_23 : decode cX6_shuffle 23 = .ok (.ireturn, 1) := by decide +kernel
theorem dX6_shuffle_24 : decode cX6_shuffle 24 = .ok (.aload_n 0, 1) := by decide +kernel
theorem dX6_shuffle_25 : decode cX6_shuffle 25 = .ok (.invokevirtual 49, 3) := by decide +kernel
theorem dX6_shuffle_28 : decode cX6_shuffle 28 = .ok (.aload_n 0, 1) := by decide +kernel
theorem dX6_shuffle_29 : decode cX6_shuffle 29 = .ok (.invokevirtual 95, 3) := by decide +kernel
theorem dX6_shuffle_32 : decode cX6_shuffle 32 = .ok (.iconst 0, 1) := by decide +kernel
theorem dX6_shuffle_33 : decode cX6_shuffle 33 = .ok (.istore_n 2, 1) := by decide +kernel
theorem dX6_shuffle_34 : decode cX6_shuffle 34 = .ok (.iconst 0, 1) := by decide +kernel
theorem dX6_shuffle_35 : decode cX6_shuffle 35 = .ok (.istore_n 3, 1) := by decide +kernel
theorem dX6_shuffle_36 : decode cX6_shuffle 36 = .ok (.iload_n 3, 1) := by decide +kernel
theorem dX6_shuffle_37 : decode cX6_shuffle 37 = .ok (.aload_n 0, 1) := by decide +kernel
theorem dX6_shuffle_38 : decode cX6_shuffle 38 = .ok (.getfield 7, 3) := by decide +kernel
theorem dX6_shuffle_41 : decode cX6_shuffle 41 = .ok (.bipush 7, 2) := by decide +kernel
theorem dX6_shuffle_43 : decode cX6_shuffle 43 = .ok (.iaload, 1) := by decide +kernel
theorem dX6_shuffle_44 : decode cX6_shuffle 44 = .ok (.if_icmp .ge 47, 3) := by decide +kernel
theorem dX6_shuffle_47 : decode cX6_shuffle 47 = .ok (.aload_n 0, 1) := by decide +kernel
theorem dX6_shuffle_48 : decode cX6_shuffle 48 = .ok (.iload_n 3, 1) := by decide +kernel
theorem dX6_shuffle_49 : decode cX6_shuffle 49 = .ok (.iload_n 1, 1) := by decide +kernel
theorem dX6_shuffle_50 : decode cX6_shuffle 50 = .ok (.invokevirtual 98, 3) := by decide +kernel
theorem dX6_shuffle_53 : decode cX6_shuffle 53 = .ok (.istore 4, 2) := by decide +kernel
theorem dX6_shuffle_55 : decode cX6_shuffle 55 = .ok (.aload_n 0, 1) := by decide +kernel
theorem dX6_shuffle_56 : decode cX6_shuffle 56 = .ok (.getfield 7, 3) := by decide +kernel
theorem dX6_shuffle_59 : decode cX6_shuffle 59 = .ok (.bipush 83, 2) := by decide +kernel
theorem dX6_shuffle_61 : decode cX6_shuffle 61 = .ok (.iload_n 3, 1) := by decide +kernel
theorem dX6_shuffle_62 : decode cX6_shuffle 62 = .ok (.iadd, 1) := by decide +kernel
theorem dX6_shuffle_63 : decode cX6_shuffle 63 = .ok (.aload_n 0, 1) := by decide +kernel
theorem dX6_shuffle_64 : decode cX6_shuffle 64 = .ok (.getfield 25, 3) := by decide +kernel
theorem dX6_shuffle_67 : decode cX6_shuffle 67 = .ok (.iload 4, 2) := by decide +kernel
theorem dX6_shuffle_69 : decode cX6_shuffle 69 = .ok (.iaload, 1) := by decide +kernel
theorem dX6_shuffle_70 : decode cX6_shuffle 70 = .ok (.iastore, 1) := by decide +kernel
theorem dX6_shuffle_71 : decode cX6_shuffle 71 = .ok (.iload_n 2, 1) := by decide +kernel
theorem dX6_shuffle_72 : decode cX6_shuffle 72 = .ok (.iload 4, 2) := by decide +kernel
theorem dX6_shuffle_74 : decode cX6_shuffle 74 = .ok (.iload_n 3, 1) := by decide +kernel
theorem dX6_shuffle_75 : decode cX6_shuffle 75 = .ok (.if_icmp .ne 7, 3) := by decide +kernel
theorem dX6_shuffle_78 : decode cX6_shuffle 78 = .ok (.iconst 0, 1) := by decide +kernel
theorem dX6_shuffle_79 : decode cX6_shuffle 79 = .ok (.goto 4, 3) := by decide +kernel
theorem dX6_shuffle_82 : decode cX6_shuffle 82 = .ok (.iconst 1, 1) := by decide +kernel
theorem dX6_shuffle_83 : decode cX6_shuffle 83 = .ok (.iadd, 1) := by decide +kernel
theorem dX6_shuffle_84 : decode cX6_shuffle 84 = .ok (.istore_n 2, 1) := by decide +kernel
theorem dX6_shuffle_85 : decode cX6_shuffle 85 = .ok (.iinc 3 1, 3) := by decide +kernel
theorem dX6_shuffle_88 : decode cX6_shuffle 88 = .ok (.goto (-52), 3) := by decide +kernel
theorem dX6_shuffle_91 : decode cX6_shuffle 91 = .ok (.iload_n 2, 1) := by decide +kernel
theorem dX6_shuffle_92 : decode cX6_shuffle 92 = .ok (.ireturn, 1) := by decide +kernel
theorem dX6_deal_0 : decode cX6_deal 0 = .ok (.aload_n 0, 1) := by decide +kernel
theorem dX6_deal_1 : decode cX6_deal 1 = .ok (.getfield 7, 3) := by decide +kernel
theorem dX6_deal_4 : decode cX6_deal 4 = .ok (.bipush 6, 2) := by decide +kernel
theorem dX6_deal_6 : decode cX6_deal 6 = .ok (.iaload, 1) := by decide +kernel
theorem dX6_deal_7 : decode cX6_deal 7 = .ok (.ifCond .ne 6, 3) := by decide +kernel
theorem dX6_deal_10 : decode cX6_deal 10 = .ok (.bipush (-4), 2) := by decide +kernel
theorem dX6_deal_12 : decode cX6_deal 12 = .ok (.ireturn, 1) := by decide +kernel
theorem dX6_deal_13 : decode cX6_deal 13 = .ok (.iload_n 1, 1) := by decide +kernel
theorem dX6_deal_14 : decode cX6_deal 14 = .ok (.iconst 1, 1) := by decide +kernel
theorem dX6_deal_15 : decode cX6_deal 15 = .ok (.aload_n 0, 1) := by decide +kernel
theorem dX6_deal_16 : decode cX6_deal 16 = .ok (.getfield 7, 3) := by decide +kernel
theorem dX6_deal_19 : decode cX6_deal 19 = .ok (.bipush 7, 2) := by decide +kernel
theorem dX6_deal_21 : decode cX6_deal 21 = .ok (.iaload, 1) := by decide +kernel
theorem dX6_deal_22 : decode cX6_deal 22 = .ok (.invokestatic 31, 3) := by decide +kernel
theorem dX6_deal_25 : decode cX6_deal 25 = .ok (.ifCond .ne 6, 3) := by decide +kernel
theorem dX6_deal_28 : decode cX6_deal 28 = .ok (.bipush (-2), 2) := by decide +kernel
theorem dX6_deal_30 : decode cX6_deal 30 = .ok (.ireturn, 1) := by decide +kernel
theorem dX6_deal_31 : decode cX6_deal 31 = .ok (.aload_n 0, 1) := by decide +kernel
theorem dX6_deal_32 : decode cX6_deal 32 = .ok (.invokevirtual 49, 3) := by decide +kernel
theorem dX6_deal_35 : decode cX6_deal 35 = .ok (.iconst 0, 1) := by decide +kernel
theorem dX6_deal_36 : decode cX6_deal 36 = .ok (.istore_n 2, 1) := by decide +kernel
theorem dX6_deal_37 : decode cX6_deal 37 = .ok (.iload_n 2, 1) := by decide +kernel
theorem dX6_deal_38 : decode cX6_deal 38 = .ok (.iload_n 1, 1) := by decide +kernel
theorem dX6_deal_39 : decode cX6_deal 39 = .ok (.if_icmp .ge 28, 3) := by decide +kernel
theorem dX6_deal_42 : decode cX6_deal 42 = .ok (.aload_n 0, 1) := by decide +kernel
theorem dX6_deal_43 : decode cX6_deal 43 = .ok (.getfield 7, 3) := by decide +kernel
theorem dX6_deal_46 : decode cX6_deal 46 = .ok (.sipush 155, 3) := by decide +kernel
theorem dX6_deal_49 : decode cX6_deal 49 = .ok (.aload_n 0, 1) := by decide +kernel
theorem dX6_deal_50 : decode cX6_deal 50 = .ok (.getfield 7, 3) := by decide +kernel
theorem dX6_deal_53 : decode cX6_deal 53 = .ok (.bipush 83, 2) := by decide +kernel
theorem dX6_deal_55 : decode cX6_deal 55 = .ok (.iload_n 2, 1) := by decide +kernel
theorem dX6_deal_56 : decode cX6_deal 56 = .ok (.iadd, 1) := by decide +kernel
theorem dX6_deal_57 : decode cX6_deal 57 = .ok (.iaload, 1) := by decide +kernel
theorem dX6_deal_58 : decode cX6_deal 58 = .ok (.iadd, 1) := by decide +kernel
theorem dX6_deal_59 : decode cX6_deal 59 = .ok (.iconst 1, 1) := by decide +kernel
theorem dX6_deal_60 : decode cX6_deal 60 = .ok (.iastore, 1) := by decide +kernel
theorem dX6_deal_61 : decode cX6_deal 61 = .ok (.iinc 2 1, 3) := by decide +kernel
theorem dX6_deal_64 : decode cX6_deal 64 = .ok (.goto (-27), 3) := by decide +kernel
theorem dX6_deal_67 : decode cX6_deal 67 = .ok (.aload_n 0, 1) := by decide +kernel
theorem dX6_deal_68 : decode cX6_deal 68 = .ok (.getfield 7, 3) := by decide +kernel
theorem dX6_deal_71 : decode cX6_deal 71 = .ok (.bipush 7, 2) := by decide +kernel
theorem dX6_deal_73 : decode cX6_deal 73 = .ok (.dup2, 1) := by decide +kernel
theorem dX6_deal_74 : decode cX6_deal 74 = .ok (.iaload, 1) := by decide +kernel
theorem dX6_deal_75 : decode cX6_deal 75 = .ok (.iload_n 1, 1) := by decide +kernel
theorem dX6_deal_76 : decode cX6_deal 76 = .ok (.isub, 1) := by decide +kernel
theorem dX6_deal_77 : decode cX6_deal 77 = .ok (.iastore, 1) := by decide +kernel
theorem dX6_deal_78 : decode cX6_deal 78 = .ok (.iconst 0, 1) := by decide +kernel
theorem dX6_deal_79 : decode cX6_deal 79 = .ok (.istore_n 2, 1) := by decide +kernel
theorem dX6_deal_80 : decode cX6_deal 80 = .ok (.iload_n 2, 1) := by decide +kernel
theorem dX6_deal_81 : decode cX6_deal 81 = .ok (.aload_n 0, 1) := by decide +kernel
theorem dX6_deal_82 : decode cX6_deal 82 = .ok (.getfield 7, 3) := by decide +kernel
theorem dX6_deal_85 : decode cX6_deal 85 = .ok (.bipush 7, 2) := by decide +kernel
theorem dX6_deal_87 : decode cX6_deal 87 = .ok (.iaload, 1) := by decide +kernel
theorem dX6_deal_88 : decode cX6_deal 88 = .ok (.if_icmp .ge 29, 3) := by decide +kernel
theorem dX6_deal_91 : decode cX6_deal 91 = .ok (.aload_n 0, 1) := by decide +kernel
theorem dX6_deal_92 : decode cX6_deal 92 = .ok (.getfield 7, 3) := by decide +kernel
theorem dX6_deal_95 : decode cX6_deal 95 = .ok (.bipush 83, 2) := by decide +kernel
theorem dX6_deal_97 : decode cX6_deal 97 = .ok (.iload_n 2, 1) := by decide +kernel
theorem dX6_deal_98 : decode cX6_deal 98 = .ok (.iadd, 1) := by decide +kernel
theorem dX6_deal_99 : decode cX6_deal 99 = .ok (.aload_n 0, 1) := by decide +kernel
theorem dX6_deal_100 : decode cX6_deal 100 = .ok (.getfield 7, 3) := by decide +kernel
theorem dX6_deal_103 : decode cX6_deal 103 = .ok (.bipush 83, 2) := by decide +kernel
theorem dX6_deal_105 : decode cX6_deal 105 = .ok (.iload_n 2, 1) := by decide +kernel
theorem dX6_deal_106 : decode cX6_deal 106 = .ok (.iadd, 1) := by decide +kernel
theorem dX6_deal_107 : decode cX6_deal 107 = .ok (.iload_n 1, 1) := by decide +kernel
theorem dX6_deal_108 : decode cX6_deal 108 = .ok (.iadd, 1) := by decide +kernel
theorem dX6_deal_109 : decode cX6_deal 109 = .ok (.iaload, 1) := by decide +kernel
theorem dX6_deal_110 : decode cX6_deal 110 = .ok (.iastore, 1) := by decide +kernel
theorem dX6_deal_111 : decode cX6_deal 111 = .ok (.iinc 2 1, 3) := by decide +kernel
theorem dX6_deal_114 : decode cX6_deal 114 = .ok (.goto (-34), 3) := by decide +kernel
theorem dX6_deal_117 : decode cX6_deal 117 = .ok (.aload_n 0, 1) := by decide +kernel
theorem dX6_deal_118 : decode cX6_deal 118 = .ok (.getfield 7, 3) := by decide +kernel
theorem dX6_deal_121 : decode cX6_deal 121 = .ok (.bipush 7, 2) := by decide +kernel
theorem dX6_deal_123 : decode cX6_deal 123 = .ok (.iaload, 1) := by decide +kernel
theorem dX6_deal_124 : decode cX6_deal 124 = .ok (.ireturn, 1) := by decide +kernel
theorem dX6_alike_0 : decode cX6_alike 0 = .ok (.iconst 0, 1) := by decide +kernel
theorem dX6_alike_1 : decode cX6_alike 1 = .ok (.istore_n 2, 1) := by decide +kernel
theorem dX6_alike_2 : decode cX6_alike 2 = .ok (.iconst 0, 1) := by decide +kernel
theorem dX6_alike_3 : decode cX6_alike 3 = .ok (.istore_n 3, 1) := by decide +kernel
theorem dX6_alike_4 : decode cX6_alike 4 = .ok (.iload_n 3, 1) := by decide +kernel
theorem dX6_alike_5 : decode cX6_alike 5 = .ok (.bipush 24, 2) := by decide +kernel
theorem dX6_alike_7 : decode cX6_alike 7 = .ok (.if_icmp .ge 44, 3) := by decide +kernel
theorem dX6_alike_10 : decode cX6_alike 10 = .ok (.iload_n 2, 1) := by decide +kernel
theorem dX6_alike_11 : decode cX6_alike 11 = .ok (.aload_n 0, 1) := by decide +kernel
theorem dX6_alike_12 : decode cX6_alike 12 = .ok (.getfield 7, 3) := by decide +kernel
theorem dX6_alike_15 : decode cX6_alike 15 = .ok (.sipush 155, 3) := by decide +kernel
theorem dX6_alike_18 : decode cX6_alike 18 = .ok (.iload_n 3, 1) := by decide +kernel
theorem dX6_alike_19 : decode cX6_alike 19 = .ok (.iadd, 1) := by decide +kernel
theorem dX6_alike_20 : decode cX6_alike 20 = .ok (.iaload, 1) := by decide +kernel
theorem dX6_alike_21 : decode cX6_alike 21 = .ok (.ifCond .ne 21, 3) := by decide +kernel
theorem dX6_alike_24 : decode cX6_alike 24 = .ok (.aload_n 0, 1) := by decide +kernel
theorem dX6_alike_25 : decode cX6_alike 25 = .ok (.getfield 7, 3) := by decide +kernel
theorem dX6_alike_28 : decode cX6_alike 28 = .ok (.sipush 131, 3) := by decide +kernel
theorem dX6_alike_31 : decode cX6_alike 31 = .ok (.iload_n 3, 1) := by decide +kernel
theorem dX6_alike_32 : decode cX6_alike 32 = .ok (.iadd, 1) := by decide +kernel
theorem dX6_alike_33 : decode cX6_alike 33 = .ok (.iaload, 1) := by decide +kernel
theorem dX6_alike_34 : decode cX6_alike 34 = .ok (.iload_n 1, 1) := by decide +kernel
theorem dX6_alike_35 : decode cX6_alike 35 = .ok (.if_icmp .ne 7, 3) := by decide +kernel
theorem dX6_alike_38 : decode cX6_alike 38 = .ok (.iconst 1, 1) := by decide +kernel
theorem dX6_alike_39 : decode cX6_alike 39 = .ok (.goto 4, 3) := by decide +kernel
theorem dX6_alike_42 : decode cX6_alike 42 = .ok (.iconst 0, 1) := by decide +kernel
theorem dX6_alike_43 : decode cX6_alike 43 = .ok (.iadd, 1) := by decide +kernel
theorem dX6_alike_44 : decode cX6_alike 44 = .ok (.istore_n 2, 1) := by decide +kernel
theorem dX6_alike_45 : decode cX6_alike 45 = .ok (.iinc 3 1, 3) := by decide +kernel
theorem dX6_alike_48 : decode cX6_alike 48 = .ok (.goto (-44), 3) := by decide +kernel
theorem dX6_alike_51 : decode cX6_alike 51 = .ok (.iload_n 2, 1) := by decide +kernel
theorem dX6_alike_52 : decode cX6_alike 52 = .ok (.ireturn, 1) := by decide +kernel
theorem dX6_marksAt_0 : decode cX6_marksAt 0 = .ok (.aload_n 0, 1) := by decide +kernel
theorem dX6_marksAt_1 : decode cX6_marksAt 1 = .ok (.getfield 7, 3) := by decide +kernel
theorem dX6_marksAt_4 : decode cX6_marksAt 4 = .ok (.sipush 131, 3) := by decide +kernel
theorem dX6_marksAt_7 : decode cX6_marksAt 7 = .ok (.aload_n 0, 1) := by decide +kernel
theorem dX6_marksAt_8 : decode cX6_marksAt 8 = .ok (.getfield 7, 3) := by decide +kernel
theorem dX6_marksAt_11 : decode cX6_marksAt 11 = .ok (.bipush 83, 2) := by decide +kernel
theorem dX6_marksAt_13 : decode cX6_marksAt 13 = .ok (.iload_n 1, 1) := by decide +kernel
theorem dX6_marksAt_14 : decode cX6_marksAt 14 = .ok (.iadd, 1) := by decide +kernel
theorem dX6_marksAt_15 : decode cX6_marksAt 15 = .ok (.iaload, 1) := by decide +kernel
theorem dX6_marksAt_16 : decode cX6_marksAt 16 = .ok (.iadd, 1) := by decide +kernel
theorem dX6_marksAt_17 : decode cX6_marksAt 17 = .ok (.iaload, 1) := by decide +kernel
theorem dX6_marksAt_18 : decode cX6_marksAt 18 = .ok (.ireturn, 1) := by decide +kernel
theorem dX6_guess_0 : decode cX6_guess 0 = .ok (.iconst 0, 1) := by decide +kernel
theorem dX6_guess_1 : decode cX6_guess 1 = .ok (.istore_n 2, 1) := by decide +kernel
theorem dX6_guess_2 : decode cX6_guess 2 = .ok (.aload_n 0, 1) := by decide +kernel
theorem dX6_guess_3 : decode cX6_guess 3 = .ok (.getfield 7, 3) := by decide +kernel
theorem dX6_guess_6 : decode cX6_guess 6 = .ok (.sipush 155, 3) := by decide +kernel
theorem dX6_guess_9 : decode cX6_guess 9 = .ok (.iload_n 2, 1) := by decide +kernel
theorem dX6_guess_10 : decode cX6_guess 10 = .ok (.iadd, 1) := by decide +kernel
theorem dX6_guess_11 : decode cX6_guess 11 = .ok (.iaload, 1) := by decide +kernel
theorem dX6_guess_12 : decode cX6_guess 12 = .ok (.iconst 1, 1) := by decide +kernel
theorem dX6_guess_13 : decode cX6_guess 13 = .ok (.if_icmp .eq 21, 3) := by decide +kernel
theorem dX6_guess_16 : decode cX6_guess 16 = .ok (.aload_n 0, 1) := by decide +kernel
theorem dX6_guess_17 : decode cX6_guess 17 = .ok (.getfield 7, 3) := by decide +kernel
theorem dX6_guess_20 : decode cX6_guess 20 = .ok (.sipush 131, 3) := by decide +kernel
theorem dX6_guess_23 : decode cX6_guess 23 = .ok (.iload_n 2, 1) := by decide +kernel
theorem dX6_guess_24 : decode cX6_guess 24 = .ok (.iadd, 1) := by decide +kernel
theorem dX6_guess_25 : decode cX6_guess 25 = .ok (.iaload, 1) := by decide +kernel
theorem dX6_guess_26 : decode cX6_guess 26 = .ok (.aload_n 0, 1) := by decide +kernel
theorem dX6_guess_27 : decode cX6_guess 27 = .ok (.iload_n 1, 1) := by decide +kernel
theorem dX6_guess_28 : decode cX6_guess 28 = .ok (.invokevirtual 101, 3) := by decide +kernel
theorem dX6_guess_31 : decode cX6_guess 31 = .ok (.if_icmp .eq 9, 3) := by decide +kernel
theorem dX6_guess_34 : decode cX6_guess 34 = .ok (.iinc 2 1, 3) := by decide +kernel
theorem dX6_guess_37 : decode cX6_guess 37 = .ok (.goto (-35), 3) := by decide +kernel
theorem dX6_guess_40 : decode cX6_guess 40 = .ok (.iload_n 2, 1) := by decide +kernel
theorem dX6_guess_41 : decode cX6_guess 41 = .ok (.ireturn, 1) := by decide +kernel
theorem dX6_known_0 : decode cX6_known 0 = .ok (.iconst 0, 1) := by decide +kernel
theorem dX6_known_1 : decode cX6_known 1 = .ok (.istore_n 1, 1) := by decide +kernel
theorem dX6_known_2 : decode cX6_known 2 = .ok (.iconst 0, 1) := by decide +kernel
theorem dX6_known_3 : decode cX6_known 3 = .ok (.istore_n 2, 1) := by decide +kernel
theorem dX6_known_4 : decode cX6_known 4 = .ok (.iload_n 2, 1) := by decide +kernel
theorem dX6_known_5 : decode cX6_known 5 = .ok (.aload_n 0, 1) := by decide +kernel
theorem dX6_known_6 : decode cX6_known 6 = .ok (.getfield 7, 3) := by decide +kernel
theorem dX6_known_9 : decode cX6_known 9 = .ok (.bipush 7, 2) := by decide +kernel
theorem dX6_known_11 : decode cX6_known 11 = .ok (.iaload, 1) := by decide +kernel
theorem dX6_known_12 : decode cX6_known 12 = .ok (.if_icmp .ge 30, 3) := by decide +kernel
theorem dX6_known_15 : decode cX6_known 15 = .ok (.iload_n 1, 1) := by decide +kernel
theorem dX6_known_16 : decode cX6_known 16 = .ok (.aload_n 0, 1) := by decide +kernel
theorem dX6_known_17 : decode cX6_known 17 = .ok (.aload_n 0, 1) := by decide +kernel
theorem dX6_known_18 : decode cX6_known 18 = .ok (.iload_n 2, 1) := by decide +kernel
theorem dX6_known_19 : decode cX6_known 19 = .ok (.invokevirtual 101, 3) := by decide +kernel
theorem dX6_known_22 : decode cX6_known 22 = .ok (.invokevirtual 104, 3) := by decide +kernel
theorem dX6_known_25 : decode cX6_known 25 = .ok (.iconst 1, 1) := by decide +kernel
theorem dX6_known_26 : decode cX6_known 26 = .ok (.if_icmp .ne 7, 3) := by decide +kernel
theorem dX6_known_29 : decode cX6_known 29 = .ok (.iconst 1, 1) := by decide +kernel
theorem dX6_known_30 : decode cX6_known 30 = .ok (.goto 4, 3) := by decide +kernel
theorem dX6_known_33 : decode cX6_known 33 = .ok (.iconst 0, 1) := by decide +kernel
theorem dX6_known_34 : decode cX6_known 34 = .ok (.iadd, 1) := by decide +kernel
theorem dX6_known_35 : decode cX6_known 35 = .ok (.istore_n 1, 1) := by decide +kernel
theorem dX6_known_36 : decode cX6_known 36 = .ok (.iinc 2 1, 3) := by decide +kernel
theorem dX6_known_39 : decode cX6_known 39 = .ok (.goto (-35), 3) := by decide +kernel
theorem dX6_known_42 : decode cX6_known 42 = .ok (.iload_n 1, 1) := by decide +kernel
theorem dX6_known_43 : decode cX6_known 43 = .ok (.ireturn, 1) := by decide +kernel
theorem dX6_rightOnes_0 : decode cX6_rightOnes 0 = .ok (.iconst 0, 1) := by decide +kernel
theorem dX6_rightOnes_1 : decode cX6_rightOnes 1 = .ok (.istore_n 1, 1) := by decide +kernel
theorem dX6_rightOnes_2 : decode cX6_rightOnes 2 = .ok (.iconst 0, 1) := by decide +kernel
theorem dX6_rightOnes_3 : decode cX6_rightOnes 3 = .ok (.istore_n 2, 1) := by decide +kernel
theorem dX6_rightOnes_4 : decode cX6_rightOnes 4 = .ok (.iload_n 2, 1) := by decide +kernel
theorem dX6_rightOnes_5 : decode cX6_rightOnes 5 = .ok (.aload_n 0, 1) := by decide +kernel
theorem dX6_rightOnes_6 : decode cX6_rightOnes 6 = .ok (.getfield 7, 3) := by decide +kernel
theorem dX6_rightOnes_9 : decode cX6_rightOnes 9 = .ok (.bipush 7, 2) := by decide +kernel
theorem dX6_rightOnes_11 : decode cX6_rightOnes 11 = .ok (.iaload, 1) := by decide +kernel
theorem dX6_rightOnes_12 : decode cX6_rightOnes 12 = .ok (.if_icmp .ge 34, 3) := by decide +kernel
theorem dX6_rightOnes_15 : decode cX6_rightOnes 15 = .ok (.iload_n 1, 1) := by decide +kernel
theorem dX6_rightOnes_16 : decode cX6_rightOnes 16 = .ok (.aload_n 0, 1) := by decide +kernel
theorem dX6_rightOnes_17 : decode cX6_rightOnes 17 = .ok (.iload_n 2, 1) := by decide +kernel
theorem dX6_rightOnes_18 : decode cX6_rightOnes 18 = .ok (.invokevirtual 107, 3) := by decide +kernel
theorem dX6_rightOnes_21 : decode cX6_rightOnes 21 = .ok (.aload_n 0, 1) := by decide +kernel
theorem dX6_rightOnes_22 : decode cX6_rightOnes 22 = .ok (.getfield 7, 3) := by decide +kernel
theorem dX6_rightOnes_25 : decode cX6_rightOnes 25 = .ok (.bipush 83, 2) := by decide +kernel
theorem dX6_rightOnes_27 : decode cX6_rightOnes 27 = .ok (.iload_n 2, 1) := by decide +kernel
theorem dX6_rightOnes_28 : decode cX6_rightOnes 28 = .ok (.iadd, 1) := by decide +kernel
theorem dX6_rightOnes_29 : decode cX6_rightOnes 29 = .ok (.iaload, 1) := by decide +kernel
theorem dX6_rightOnes_30 : decode cX6_rightOnes 30 = .ok (.if_icmp .ne 7, 3) := by decide +kernel
theorem dX6_rightOnes_33 : decode cX6_rightOnes 33 = .ok (.iconst 1, 1) := by decide +kernel
theorem dX6_rightOnes_34 : decode cX6_rightOnes 34 = .ok (.goto 4, 3) := by decide +kernel
theorem dX6_rightOnes_37 : decode cX6_rightOnes 37 = .ok (.iconst 0, 1) := by decide +kernel
theorem dX6_rightOnes_38 : decode cX6_rightOnes 38 = .ok (.iadd, 1) := by decide +kernel
theorem dX6_rightOnes_39 : decode cX6_rightOnes 39 = .ok (.istore_n 1, 1) := by decide +kernel
theorem dX6_rightOnes_40 : decode cX6_rightOnes 40 = .ok (.iinc 2 1, 3) := by decide +kernel
theorem dX6_rightOnes_43 : decode cX6_rightOnes 43 = .ok (.goto (-39), 3) := by decide +kernel
theorem dX6_rightOnes_46 : decode cX6_rightOnes 46 = .ok (.iload_n 1, 1) := by decide +kernel
theorem dX6_rightOnes_47 : decode cX6_rightOnes 47 = .ok (.ireturn, 1) := by decide +kernel
theorem dX6_great_0 : decode cX6_great 0 = .ok (.iload_n 0, 1) := by decide +kernel
theorem dX6_great_1 : decode cX6_great 1 = .ok (.ifCond .ge 8, 3) := by decide +kernel
theorem dX6_great_4 : decode cX6_great 4 = .ok (.iload_n 0, 1) := by decide +kernel
theorem dX6_great_5 : decode cX6_great 5 = .ok (.ineg, 1) := by decide +kernel
theorem dX6_great_6 : decode cX6_great 6 = .ok (.goto 4, 3) := by decide +kernel
theorem dX6_great_9 : decode cX6_great 9 = .ok (.iload_n 0, 1) := by decide +kernel
theorem dX6_great_10 : decode cX6_great 10 = .ok (.ireturn, 1) := by decide +kernel
theorem dX6_leaning_0 : decode cX6_leaning 0 = .ok (.iconst 0, 1) := by decide +kernel
theorem dX6_leaning_1 : decode cX6_leaning 1 = .ok (.istore_n 2, 1) := by decide +kernel
theorem dX6_leaning_2 : decode cX6_leaning 2 = .ok (.iconst 0, 1) := by decide +kernel
theorem dX6_leaning_3 : decode cX6_leaning 3 = .ok (.istore_n 3, 1) := by decide +kernel
theorem dX6_leaning_4 : decode cX6_leaning 4 = .ok (.iload_n 3, 1) := by decide +kernel
theorem dX6_leaning_5 : decode cX6_leaning 5 = .ok (.bipush 24, 2) := by decide +kernel
theorem dX6_leaning_7 : decode cX6_leaning 7 = .ok (.if_icmp .ge 37, 3) := by decide +kernel
theorem dX6_leaning_10 : decode cX6_leaning 10 = .ok (.iload_n 2, 1) := by decide +kernel
theorem dX6_leaning_11 : decode cX6_leaning 11 = .ok (.aload_n 0, 1) := by decide +kernel
theorem dX6_leaning_12 : decode cX6_leaning 12 = .ok (.getfield 7, 3) := by decide +kernel
theorem dX6_leaning_15 : decode cX6_leaning 15 = .ok (.iload_n 1, 1) := by decide +kernel
theorem dX6_leaning_16 : decode cX6_leaning 16 = .ok (.iload_n 3, 1) := by decide +kernel
theorem dX6_leaning_17 : decode cX6_leaning 17 = .ok (.iadd, 1) := by decide +kernel
theorem dX6_leaning_18 : decode cX6_leaning 18 = .ok (.iaload, 1) := by decide +kernel
theorem dX6_leaning_19 : decode cX6_leaning 19 = .ok (.invokestatic 110, 3) := by decide +kernel
theorem dX6_leaning_22 : decode cX6_leaning 22 = .ok (.aload_n 0, 1) := by decide +kernel
theorem dX6_leaning_23 : decode cX6_leaning 23 = .ok (.getfield 7, 3) := by decide +kernel
theorem dX6_leaning_26 : decode cX6_leaning 26 = .ok (.iconst 1, 1) := by decide +kernel
theorem dX6_leaning_27 : decode cX6_leaning 27 = .ok (.iaload, 1) := by decide +kernel
theorem dX6_leaning_28 : decode cX6_leaning 28 = .ok (.if_icmp .le 7, 3) := by decide +kernel
theorem dX6_leaning_31 : decode cX6_leaning 31 = .ok (.iconst 1, 1) := by decide +kernel
theorem dX6_leaning_32 : decode cX6_leaning 32 = .ok (.goto 4, 3) := by decide +kernel
theorem dX6_leaning_35 : decode cX6_leaning 35 = .ok (.iconst 0, 1) := by decide +kernel
theorem dX6_leaning_36 : decode cX6_leaning 36 = .ok (.iadd, 1) := by decide +kernel
theorem dX6_leaning_37 : decode cX6_leaning 37 = .ok (.istore_n 2, 1) := by decide +kernel
theorem dX6_leaning_38 : decode cX6_leaning 38 = .ok (.iinc 3 1, 3) := by decide +kernel
theorem dX6_leaning_41 : decode cX6_leaning 41 = .ok (.goto (-37), 3) := by decide +kernel
theorem dX6_leaning_44 : decode cX6_leaning 44 = .ok (.iload_n 2, 1) := by decide +kernel
theorem dX6_leaning_45 : decode cX6_leaning 45 = .ok (.ireturn, 1) := by decide +kernel
theorem dX6_reason_0 : decode cX6_reason 0 = .ok (.aload_n 0, 1) := by decide +kernel
theorem dX6_reason_1 : decode cX6_reason 1 = .ok (.getfield 7, 3) := by decide +kernel
theorem dX6_reason_4 : decode cX6_reason 4 = .ok (.bipush 7, 2) := by decide +kernel
theorem dX6_reason_6 : decode cX6_reason 6 = .ok (.iaload, 1) := by decide +kernel
theorem dX6_reason_7 : decode cX6_reason 7 = .ok (.bipush 24, 2) := by decide +kernel
theorem dX6_reason_9 : decode cX6_reason 9 = .ok (.if_icmp .ge 5, 3) := by decide +kernel
theorem dX6_reason_12 : decode cX6_reason 12 = .ok (.iconst 1, 1) := by decide +kernel
theorem dX6_reason_13 : decode cX6_reason 13 = .ok (.ireturn, 1) := by decide +kernel
theorem dX6_reason_14 : decode cX6_reason 14 = .ok (.aload_n 0, 1) := by decide +kernel
theorem dX6_reason_15 : decode cX6_reason 15 = .ok (.bipush 107, 2) := by decide +kernel
theorem dX6_reason_17 : decode cX6_reason 17 = .ok (.invokevirtual 113, 3) := by decide +kernel
theorem dX6_reason_20 : decode cX6_reason 20 = .ok (.ifCond .le 7, 3) := by decide +kernel
theorem dX6_reason_23 : decode cX6_reason 23 = .ok (.iconst 2, 1) := by decide +kernel
theorem dX6_reason_24 : decode cX6_reason 24 = .ok (.goto 21, 3) := by decide +kernel
theorem dX6_reason_27 : decode cX6_reason 27 = .ok (.aload_n 0, 1) := by decide +kernel
theorem dX6_reason_28 : decode cX6_reason 28 = .ok (.invokevirtual 116, 3) := by decide +kernel
theorem dX6_reason_31 : decode cX6_reason 31 = .ok (.aload_n 0, 1) := by decide +kernel
theorem dX6_reason_32 : decode cX6_reason 32 = .ok (.getfield 7, 3) := by decide +kernel
theorem dX6_reason_35 : decode cX6_reason 35 = .ok (.iconst 2, 1) := by decide +kernel
theorem dX6_reason_36 : decode cX6_reason 36 = .ok (.iaload, 1) := by decide +kernel
theorem dX6_reason_37 : decode cX6_reason 37 = .ok (.if_icmp .le 7, 3) := by decide +kernel
theorem dX6_reason_40 : decode cX6_reason 40 = .ok (.iconst 3, 1) := by decide +kernel
theorem dX6_reason_41 : decode cX6_reason 41 = .ok (.goto 4, 3) := by decide +kernel
theorem dX6_reason_44 : decode cX6_reason 44 = .ok (.iconst 0, 1) := by decide +kernel
theorem dX6_reason_45 : decode cX6_reason 45 = .ok (.ireturn, 1) := by decide +kernel
theorem dX6_dropPack_0 : decode cX6_dropPack 0 = .ok (.aload_n 0, 1) := by decide +kernel
theorem dX6_dropPack_1 : decode cX6_dropPack 1 = .ok (.getfield 7, 3) := by decide +kernel
theorem dX6_dropPack_4 : decode cX6_dropPack 4 = .ok (.bipush 6, 2) := by decide +kernel
theorem dX6_dropPack_6 : decode cX6_dropPack 6 = .ok (.iconst 0, 1) := by decide +kernel
theorem dX6_dropPack_7 : decode cX6_dropPack 7 = .ok (.iastore, 1) := by decide +kernel
theorem dX6_dropPack_8 : decode cX6_dropPack 8 = .ok (.aload_n 0, 1) := by decide +kernel
theorem dX6_dropPack_9 : decode cX6_dropPack 9 = .ok (.getfield 7, 3) := by decide +kernel
theorem dX6_dropPack_12 : decode cX6_dropPack 12 = .ok (.bipush 7, 2) := by decide +kernel
theorem dX6_dropPack_14 : decode cX6_dropPack 14 = .ok (.iconst 0, 1) := by decide +kernel
theorem dX6_dropPack_15 : decode cX6_dropPack 15 = .ok (.iastore, 1) := by decide +kernel
theorem dX6_dropPack_16 : decode cX6_dropPack 16 = .ok (.iconst 0, 1) := by decide +kernel
theorem dX6_dropPack_17 : decode cX6_dropPack 17 = .ok (.istore_n 1, 1) := by decide +kernel
theorem dX6_dropPack_18 : decode cX6_dropPack 18 = .ok (.iload_n 1, 1) := by decide +kernel
theorem dX6_dropPack_19 : decode cX6_dropPack 19 = .ok (.bipush 24, 2) := by decide +kernel
theorem dX6_dropPack_21 : decode cX6_dropPack 21 = .ok (.if_icmp .ge 51, 3) := by decide +kernel
theorem dX6_dropPack_24 : decode cX6_dropPack 24 = .ok (.aload_n 0, 1) := by decide +kernel
theorem dX6_dropPack_25 : decode cX6_dropPack 25 = .ok (.getfield 7, 3) := by decide +kernel
theorem dX6_dropPack_28 : decode cX6_dropPack 28 = .ok (.bipush 83, 2) := by decide +kernel
theorem dX6_dropPack_30 : decode cX6_dropPack 30 = .ok (.iload_n 1, 1) := by decide +kernel
theorem dX6_dropPack_31 : decode cX6_dropPack 31 = .ok (.iadd, 1) := by decide +kernel
theorem dX6_dropPack_32 : decode cX6_dropPack 32 = .ok (.iconst 0, 1) := by decide +kernel
theorem dX6_dropPack_33 : decode cX6_dropPack 33 = .ok (.iastore, 1) := by decide +kernel
theorem dX6_dropPack_34 : decode cX6_dropPack 34 = .ok (.aload_n 0, 1) := by decide +kernel
theorem dX6_dropPack_35 : decode cX6_dropPack 35 = .ok (.getfield 7, 3) := by decide +kernel
theorem dX6_dropPack_38 : decode cX6_dropPack 38 = .ok (.bipush 107, 2) := by decide +kernel
theorem dX6_dropPack_40 : decode cX6_dropPack 40 = .ok (.iload_n 1, 1) := by decide +kernel
theorem dX6_dropPack_41 : decode cX6_dropPack 41 = .ok (.iadd, 1) := by decide +kernel
theorem dX6_dropPack_42 : decode cX6_dropPack 42 = .ok (.iconst 0, 1) := by decide +kernel
theorem dX6_dropPack_43 : decode cX6_dropPack 43 = .ok (.iastore, 1) := by decide +kernel
theorem dX6_dropPack_44 : decode cX6_dropPack 44 = .ok (.aload_n 0, 1) := by decide +kernel
theorem dX6_dropPack_45 : decode cX6_dropPack 45 = .ok (.getfield 7, 3) := by decide +kernel
theorem dX6_dropPack_48 : decode cX6_dropPack 48 = .ok (.sipush 131, 3) := by decide +kernel
theorem dX6_dropPack_51 : decode cX6_dropPack 51 = .ok (.iload_n 1, 1) := by decide +kernel
theorem dX6_dropPack_52 : decode cX6_dropPack 52 = .ok (.iadd, 1) := by decide +kernel
theorem dX6_dropPack_53 : decode cX6_dropPack 53 = .ok (.iconst 0, 1) := by decide +kernel
theorem dX6_dropPack_54 : decode cX6_dropPack 54 = .ok (.iastore, 1) := by decide +kernel
theorem dX6_dropPack_55 : decode cX6_dropPack 55 = .ok (.aload_n 0, 1) := by decide +kernel
theorem dX6_dropPack_56 : decode cX6_dropPack 56 = .ok (.getfield 7, 3) := by decide +kernel
theorem dX6_dropPack_59 : decode cX6_dropPack 59 = .ok (.sipush 155, 3) := by decide +kernel
theorem dX6_dropPack_62 : decode cX6_dropPack 62 = .ok (.iload_n 1, 1) := by decide +kernel
theorem dX6_dropPack_63 : decode cX6_dropPack 63 = .ok (.iadd, 1) := by decide +kernel
theorem dX6_dropPack_64 : decode cX6_dropPack 64 = .ok (.iconst 0, 1) := by decide +kernel
theorem dX6_dropPack_65 : decode cX6_dropPack 65 = .ok (.iastore, 1) := by decide +kernel
theorem dX6_dropPack_66 : decode cX6_dropPack 66 = .ok (.iinc 1 1, 3) := by decide +kernel
theorem dX6_dropPack_69 : decode cX6_dropPack 69 = .ok (.goto (-51), 3) := by decide +kernel
theorem dX6_dropPack_72 : decode cX6_dropPack 72 = .ok (.return_, 1) := by decide +kernel
theorem dX6_sell_0 : decode cX6_sell 0 = .ok (.aload_n 0, 1) := by decide +kernel
theorem dX6_sell_1 : decode cX6_sell 1 = .ok (.getfield 7, 3) := by decide +kernel
theorem dX6_sell_4 : decode cX6_sell 4 = .ok (.bipush 6, 2) := by decide +kernel
theorem dX6_sell_6 : decode cX6_sell 6 = .ok (.iaload, 1) := by decide +kernel
theorem dX6_sell_7 : decode cX6_sell 7 = .ok (.ifCond .ne 6, 3) := by decide +kernel
theorem dX6_sell_10 : decode cX6_sell 10 = .ok (.bipush (-4), 2) := by decide +kernel
theorem dX6_sell_12 : decode cX6_sell 12 = .ok (.ireturn, 1) := by decide +kernel
theorem dX6_sell_13 : decode cX6_sell 13 = .ok (.aload_n 0, 1) := by decide +kernel
theorem dX6_sell_14 : decode cX6_sell 14 = .ok (.invokevirtual 119, 3) := by decide +kernel
theorem dX6_sell_17 : decode cX6_sell 17 = .ok (.ifCond .eq 11, 3) := by decide +kernel
theorem dX6_sell_20 : decode cX6_sell 20 = .ok (.bipush (-10), 2) := by decide +kernel
theorem dX6_sell_22 : decode cX6_sell 22 = .ok (.aload_n 0, 1) := by decide +kernel
theorem dX6_sell_23 : decode cX6_sell 23 = .ok (.invokevirtual 119, 3) := by decide +kernel
theorem dX6_sell_26 : decode cX6_sell 26 = .ok (.isub, 1) := by decide +kernel
theorem dX6_sell_27 : decode cX6_sell 27 = .ok (.ireturn, 1) := by decide +kernel
theorem dX6_sell_28 : decode cX6_sell 28 = .ok (.aload_n 0, 1) := by decide +kernel
theorem dX6_sell_29 : decode cX6_sell 29 = .ok (.invokevirtual 49, 3) := by decide +kernel
theorem dX6_sell_32 : decode cX6_sell 32 = .ok (.aload_n 0, 1) := by decide +kernel
theorem dX6_sell_33 : decode cX6_sell 33 = .ok (.invokevirtual 122, 3) := by decide +kernel
theorem dX6_sell_36 : decode cX6_sell 36 = .ok (.aload_n 0, 1) := by decide +kernel
theorem dX6_sell_37 : decode cX6_sell 37 = .ok (.getfield 7, 3) := by decide +kernel
theorem dX6_sell_40 : decode cX6_sell 40 = .ok (.bipush 8, 2) := by decide +kernel
theorem dX6_sell_42 : decode cX6_sell 42 = .ok (.dup2, 1) := by decide +kernel
theorem dX6_sell_43 : decode cX6_sell 43 = .ok (.iaload, 1) := by decide +kernel
theorem dX6_sell_44 : decode cX6_sell 44 = .ok (.iconst 1, 1) := by decide +kernel
theorem dX6_sell_45 : decode cX6_sell 45 = .ok (.iadd, 1) := by decide +kernel
theorem dX6_sell_46 : decode cX6_sell 46 = .ok (.iastore, 1) := by decide +kernel
theorem dX6_sell_47 : decode cX6_sell 47 = .ok (.aload_n 0, 1) := by decide +kernel
theorem dX6_sell_48 : decode cX6_sell 48 = .ok (.getfield 7, 3) := by decide +kernel
theorem dX6_sell_51 : decode cX6_sell 51 = .ok (.bipush 10, 2) := by decide +kernel
theorem dX6_sell_53 : decode cX6_sell 53 = .ok (.dup2, 1) := by decide +kernel
theorem dX6_sell_54 : decode cX6_sell 54 = .ok (.iaload, 1) := by decide +kernel
theorem dX6_sell_55 : decode cX6_sell 55 = .ok (.aload_n 0, 1) := by decide +kernel
theorem dX6_sell_56 : decode cX6_sell 56 = .ok (.getfield 7, 3) := by decide +kernel
theorem dX6_sell_59 : decode cX6_sell 59 = .ok (.iconst 3, 1) := by decide +kernel
theorem dX6_sell_60 : decode cX6_sell 60 = .ok (.iaload, 1) := by decide +kernel
theorem dX6_sell_61 : decode cX6_sell 61 = .ok (.iadd, 1) := by decide +kernel
theorem dX6_sell_62 : decode cX6_sell 62 = .ok (.iastore, 1) := by decide +kernel
theorem dX6_sell_63 : decode cX6_sell 63 = .ok (.aload_n 0, 1) := by decide +kernel
theorem dX6_sell_64 : decode cX6_sell 64 = .ok (.getfield 7, 3) := by decide +kernel
theorem dX6_sell_67 : decode cX6_sell 67 = .ok (.iconst 3, 1) := by decide +kernel
theorem dX6_sell_68 : decode cX6_sell 68 = .ok (.iaload, 1) := by decide +kernel
theorem dX6_sell_69 : decode cX6_sell 69 = .ok (.ireturn, 1) := by decide +kernel
theorem dX6_pulp_0 : decode cX6_pulp 0 = .ok (.aload_n 0, 1) := by decide +kernel
theorem dX6_pulp_1 : decode cX6_pulp 1 = .ok (.getfield 7, 3) := by decide +kernel
theorem dX6_pulp_4 : decode cX6_pulp 4 = .ok (.bipush 6, 2) := by decide +kernel
theorem dX6_pulp_6 : decode cX6_pulp 6 = .ok (.iaload, 1) := by decide +kernel
theorem dX6_pulp_7 : decode cX6_pulp 7 = .ok (.ifCond .ne 6, 3) := by decide +kernel
theorem dX6_pulp_10 : decode cX6_pulp 10 = .ok (.bipush (-4), 2) := by decide +kernel
theorem dX6_pulp_12 : decode cX6_pulp 12 = .ok (.ireturn, 1) := by decide +kernel
theorem dX6_pulp_13 : decode cX6_pulp 13 = .ok (.aload_n 0, 1) := by decide +kernel
theorem dX6_pulp_14 : decode cX6_pulp 14 = .ok (.invokevirtual 49, 3) := by decide +kernel
theorem dX6_pulp_17 : decode cX6_pulp 17 = .ok (.aload_n 0, 1) := by decide +kernel
theorem dX6_pulp_18 : decode cX6_pulp 18 = .ok (.getfield 7, 3) := by decide +kernel
theorem dX6_pulp_21 : decode cX6_pulp 21 = .ok (.bipush 7, 2) := by decide +kernel
theorem dX6_pulp_23 : decode cX6_pulp 23 = .ok (.iaload, 1) := by decide +kernel
theorem dX6_pulp_24 : decode cX6_pulp 24 = .ok (.istore_n 1, 1) := by decide +kernel
theorem dX6_pulp_25 : decode cX6_pulp 25 = .ok (.aload_n 0, 1) := by decide +kernel
theorem dX6_pulp_26 : decode cX6_pulp 26 = .ok (.invokevirtual 122, 3) := by decide +kernel
theorem dX6_pulp_29 : decode cX6_pulp 29 = .ok (.aload_n 0, 1) := by decide +kernel
theorem dX6_pulp_30 : decode cX6_pulp 30 = .ok (.getfield 7, 3) := by decide +kernel
theorem dX6_pulp_33 : decode cX6_pulp 33 = .ok (.bipush 9, 2) := by decide +kernel
theorem dX6_pulp_35 : decode cX6_pulp 35 = .ok (.dup2, 1) := by decide +kernel
theorem dX6_pulp_36 : decode cX6_pulp 36 = .ok (.iaload, 1) := by decide +kernel
theorem dX6_pulp_37 : decode cX6_pulp 37 = .ok (.iconst 1, 1) := by decide +kernel
theorem dX6_pulp_38 : decode cX6_pulp 38 = .ok (.iadd, 1) := by decide +kernel
theorem dX6_pulp_39 : decode cX6_pulp 39 = .ok (.iastore, 1) := by decide +kernel
theorem dX6_pulp_40 : decode cX6_pulp 40 = .ok (.iload_n 1, 1) := by decide +kernel
theorem dX6_pulp_41 : decode cX6_pulp 41 = .ok (.ireturn, 1) := by decide +kernel
theorem dX6_type_0 : decode cX6_type 0 = .ok (.aload_n 0, 1) := by decide +kernel
theorem dX6_type_1 : decode cX6_type 1 = .ok (.getfield 125, 3) := by decide +kernel
theorem dX6_type_4 : decode cX6_type 4 = .ok (.bipush 60, 2) := by decide +kernel
theorem dX6_type_6 : decode cX6_type 6 = .ok (.if_icmp .ne 6, 3) := by decide +kernel
theorem dX6_type_9 : decode cX6_type 9 = .ok (.bipush (-3), 2) := by decide +kernel
theorem dX6_type_11 : decode cX6_type 11 = .ok (.ireturn, 1) := by decide +kernel
theorem dX6_type_12 : decode cX6_type 12 = .ok (.aload_n 0, 1) := by decide +kernel
theorem dX6_type_13 : decode cX6_type 13 = .ok (.getfield 22, 3) := by decide +kernel
theorem dX6_type_16 : decode cX6_type 16 = .ok (.aload_n 0, 1) := by decide +kernel
theorem dX6_type_17 : decode cX6_type 17 = .ok (.getfield 125, 3) := by decide +kernel
theorem dX6_type_20 : decode cX6_type 20 = .ok (.iload_n 1, 1) := by decide +kernel
theorem dX6_type_21 : decode cX6_type 21 = .ok (.iastore, 1) := by decide +kernel
theorem dX6_type_22 : decode cX6_type 22 = .ok (.aload_n 0, 1) := by decide +kernel
theorem dX6_type_23 : decode cX6_type 23 = .ok (.dup, 1) := by decide +kernel
theorem dX6_type_24 : decode cX6_type 24 = .ok (.getfield 125, 3) := by decide +kernel
theorem dX6_type_27 : decode cX6_type 27 = .ok (.iconst 1, 1) := by decide +kernel
theorem dX6_type_28 : decode cX6_type 28 = .ok (.iadd, 1) := by decide +kernel
theorem dX6_type_29 : decode cX6_type 29 = .ok (.putfield 125, 3) := by decide +kernel
theorem dX6_type_32 : decode cX6_type 32 = .ok (.aload_n 0, 1) := by decide +kernel
theorem dX6_type_33 : decode cX6_type 33 = .ok (.getfield 125, 3) := by decide +kernel
theorem dX6_type_36 : decode cX6_type 36 = .ok (.ireturn, 1) := by decide +kernel
theorem dX6_clearText_0 : decode cX6_clearText 0 = .ok (.aload_n 0, 1) := by decide +kernel
theorem dX6_clearText_1 : decode cX6_clearText 1 = .ok (.getfield 125, 3) := by decide +kernel
theorem dX6_clearText_4 : decode cX6_clearText 4 = .ok (.istore_n 1, 1) := by decide +kernel
theorem dX6_clearText_5 : decode cX6_clearText 5 = .ok (.aload_n 0, 1) := by decide +kernel
theorem dX6_clearText_6 : decode cX6_clearText 6 = .ok (.iconst 0, 1) := by decide +kernel
theorem dX6_clearText_7 : decode cX6_clearText 7 = .ok (.putfield 125, 3) := by decide +kernel
theorem dX6_clearText_10 : decode cX6_clearText 10 = .ok (.iload_n 1, 1) := by decide +kernel
theorem dX6_clearText_11 : decode cX6_clearText 11 = .ok (.ireturn, 1) := by decide +kernel
theorem dX6_code_0 : decode cX6_code 0 = .ok (.aload_n 0, 1) := by decide +kernel
theorem dX6_code_1 : decode cX6_code 1 = .ok (.getfield 128, 3) := by decide +kernel
theorem dX6_code_4 : decode cX6_code 4 = .ok (.aload_n 0, 1) := by decide +kernel
theorem dX6_code_5 : decode cX6_code 5 = .ok (.getfield 125, 3) := by decide +kernel
theorem dX6_code_8 : decode cX6_code 8 = .ok (.if_icmp .ge 15, 3) := by decide +kernel
theorem dX6_code_11 : decode cX6_code 11 = .ok (.aload_n 0, 1) := by decide +kernel
theorem dX6_code_12 : decode cX6_code 12 = .ok (.getfield 22, 3) := by decide +kernel
theorem dX6_code_15 : decode cX6_code 15 = .ok (.aload_n 0, 1) := by decide +kernel
theorem dX6_code_16 : decode cX6_code 16 = .ok (.getfield 128, 3) := by decide +kernel
theorem dX6_code_19 : decode cX6_code 19 = .ok (.iaload, 1) := by decide +kernel
theorem dX6_code_20 : decode cX6_code 20 = .ok (.goto 4, 3) := by decide +kernel
theorem dX6_code_23 : decode cX6_code 23 = .ok (.iconst 0, 1) := by decide +kernel
theorem dX6_code_24 : decode cX6_code 24 = .ok (.ireturn, 1) := by decide +kernel
theorem dX6_takes_0 : decode cX6_takes 0 = .ok (.aload_n 0, 1) := by decide +kernel
theorem dX6_takes_1 : decode cX6_takes 1 = .ok (.getfield 128, 3) := by decide +kernel
theorem dX6_takes_4 : decode cX6_takes 4 = .ok (.aload_n 0, 1) := by decide +kernel
theorem dX6_takes_5 : decode cX6_takes 5 = .ok (.getfield 125, 3) := by decide +kernel
theorem dX6_takes_8 : decode cX6_takes 8 = .ok (.if_icmp .ge 20, 3) := by decide +kernel
theorem dX6_takes_11 : decode cX6_takes 11 = .ok (.aload_n 0, 1) := by decide +kernel
theorem dX6_takes_12 : decode cX6_takes 12 = .ok (.getfield 22, 3) := by decide +kernel
theorem dX6_takes_15 : decode cX6_takes 15 = .ok (.aload_n 0, 1) := by decide +kernel
theorem dX6_takes_16 : decode cX6_takes 16 = .ok (.getfield 128, 3) := by decide +kernel
theorem dX6_takes_19 : decode cX6_takes 19 = .ok (.iaload, 1) := by decide +kernel
theorem dX6_takes_20 : decode cX6_takes 20 = .ok (.iload_n 1, 1) := by decide +kernel
theorem dX6_takes_21 : decode cX6_takes 21 = .ok (.if_icmp .ne 7, 3) := by decide +kernel
theorem dX6_takes_24 : decode cX6_takes 24 = .ok (.iconst 1, 1) := by decide +kernel
theorem dX6_takes_25 : decode cX6_takes 25 = .ok (.goto 4, 3) := by decide +kernel
theorem dX6_takes_28 : decode cX6_takes 28 = .ok (.iconst 0, 1) := by decide +kernel
theorem dX6_takes_29 : decode cX6_takes 29 = .ok (.istore_n 2, 1) := by decide +kernel
theorem dX6_takes_30 : decode cX6_takes 30 = .ok (.aload_n 0, 1) := by decide +kernel
theorem dX6_takes_31 : decode cX6_takes 31 = .ok (.dup, 1) := by decide +kernel
theorem dX6_takes_32 : decode cX6_takes 32 = .ok (.getfield 128, 3) := by decide +kernel
theorem dX6_takes_35 : decode cX6_takes 35 = .ok (.iload_n 2, 1) := by decide +kernel
theorem dX6_takes_36 : decode cX6_takes 36 = .ok (.ifCond .eq 7, 3) := by decide +kernel
theorem dX6_takes_39 : decode cX6_takes 39 = .ok (.iconst 1, 1) := by decide +kernel
theorem dX6_takes_40 : decode cX6_takes 40 = .ok (.goto 4, 3) := by decide +kernel
theorem dX6_takes_43 : decode cX6_takes 43 = .ok (.iconst 0, 1) := by decide +kernel
theorem dX6_takes_44 : decode cX6_takes 44 = .ok (.iadd, 1) := by decide +kernel
theorem dX6_takes_45 : decode cX6_takes 45 = .ok (.putfield 128, 3) := by decide +kernel
theorem dX6_takes_48 : decode cX6_takes 48 = .ok (.iload_n 2, 1) := by decide +kernel
theorem dX6_takes_49 : decode cX6_takes 49 = .ok (.ireturn, 1) := by decide +kernel
theorem dX6_readNumber_0 : decode cX6_readNumber 0 = .ok (.aload_n 0, 1) := by decide +kernel
theorem dX6_readNumber_1 : decode cX6_readNumber 1 = .ok (.invokevirtual 131, 3) := by decide +kernel
theorem dX6_readNumber_4 : decode cX6_readNumber 4 = .ok (.bipush 48, 2) := by decide +kernel
theorem dX6_readNumber_6 : decode cX6_readNumber 6 = .ok (.isub, 1) := by decide +kernel
theorem dX6_readNumber_7 : decode cX6_readNumber 7 = .ok (.istore_n 2, 1) := by decide +kernel
theorem dX6_readNumber_8 : decode cX6_readNumber 8 = .ok (.iload_n 2, 1) := by decide +kernel
theorem dX6_readNumber_9 : decode cX6_readNumber 9 = .ok (.iconst 0, 1) := by decide +kernel
theorem dX6_readNumber_10 : decode cX6_readNumber 10 = .ok (.bipush 9, 2) := by decide +kernel
theorem dX6_readNumber_12 : decode cX6_readNumber 12 = .ok (.invokestatic 31, 3) := by decide +kernel
theorem dX6_readNumber_15 : decode cX6_readNumber 15 = .ok (.ifCond .eq 8, 3) := by decide +kernel
theorem dX6_readNumber_18 : decode cX6_readNumber 18 = .ok (.iload_n 2, 1) := by decide +kernel
theorem dX6_readNumber_19 : decode cX6_readNumber 19 = .ok (.iload_n 1, 1) := by decide +kernel
theorem dX6_readNumber_20 : decode cX6_readNumber 20 = .ok (.if_icmp .le 6, 3) := by decide +kernel
theorem dX6_readNumber_23 : decode cX6_readNumber 23 = .ok (.bipush (-5), 2) := by decide +kernel
theorem dX6_readNumber_25 : decode cX6_readNumber 25 = .ok (.ireturn, 1) := by decide +kernel
theorem dX6_readNumber_26 : decode cX6_readNumber 26 = .ok (.aload_n 0, 1) := by decide +kernel
theorem dX6_readNumber_27 : decode cX6_readNumber 27 = .ok (.dup, 1) := by decide +kernel
theorem dX6_readNumber_28 : decode cX6_readNumber 28 = .ok (.getfield 128, 3) := by decide +kernel
theorem dX6_readNumber_31 : decode cX6_readNumber 31 = .ok (.iconst 1, 1) := by decide +kernel
theorem dX6_readNumber_32 : decode cX6_readNumber 32 = .ok (.iadd, 1) := by decide +kernel
theorem dX6_readNumber_33 : decode cX6_readNumber 33 = .ok (.putfield 128, 3) := by decide +kernel
theorem dX6_readNumber_36 : decode cX6_readNumber 36 = .ok (.aload_n 0, 1) := by decide +kernel
theorem dX6_readNumber_37 : decode cX6_readNumber 37 = .ok (.invokevirtual 131, 3) := by decide +kernel
theorem dX6_readNumber_40 : decode cX6_readNumber 40 = .ok (.bipush 48, 2) := by decide +kernel
theorem dX6_readNumber_42 : decode cX6_readNumber 42 = .ok (.isub, 1) := by decide +kernel
theorem dX6_readNumber_43 : decode cX6_readNumber 43 = .ok (.istore_n 3, 1) := by decide +kernel
theorem dX6_readNumber_44 : decode cX6_readNumber 44 = .ok (.iload_n 2, 1) := by decide +kernel
theorem dX6_readNumber_45 : decode cX6_readNumber 45 = .ok (.ifCond .le 40, 3) := by decide +kernel
theorem dX6_readNumber_48 : decode cX6_readNumber 48 = .ok (.iload_n 3, 1) := by decide +kernel
theorem dX6_readNumber_49 : decode cX6_readNumber 49 = .ok (.iconst 0, 1) := by decide +kernel
theorem dX6_readNumber_50 : decode cX6_readNumber 50 = .ok (.bipush 9, 2) := by decide +kernel
theorem dX6_readNumber_52 : decode cX6_readNumber 52 = .ok (.invokestatic 31, 3) := by decide +kernel
theorem dX6_readNumber_55 : decode cX6_readNumber 55 = .ok (.ifCond .eq 30, 3) := by decide +kernel
theorem dX6_readNumber_58 : decode cX6_readNumber 58 = .ok (.bipush 10, 2) := by decide +kernel
theorem dX6_readNumber_60 : decode cX6_readNumber 60 = .ok (.iload_n 2, 1) := by decide +kernel
theorem dX6_readNumber_61 : decode cX6_readNumber 61 = .ok (.imul, 1) := by decide +kernel
theorem dX6_readNumber_62 : decode cX6_readNumber 62 = .ok (.iload_n 3, 1) := by decide +kernel
theorem dX6_readNumber_63 : decode cX6_readNumber 63 = .ok (.iadd, 1) := by decide +kernel
theorem dX6_readNumber_64 : decode cX6_readNumber 64 = .ok (.iload_n 1, 1) := by decide +kernel
theorem dX6_readNumber_65 : decode cX6_readNumber 65 = .ok (.if_icmp .gt 20, 3) := by decide +kernel
theorem dX6_readNumber_68 : decode cX6_readNumber 68 = .ok (.bipush 10, 2) := by decide +kernel
theorem dX6_readNumber_70 : decode cX6_readNumber 70 = .ok (.iload_n 2, 1) := by decide +kernel
theorem dX6_readNumber_71 : decode cX6_readNumber 71 = .ok (.imul, 1) := by decide +kernel
theorem dX6_readNumber_72 : decode cX6_readNumber 72 = .ok (.iload_n 3, 1) := by decide +kernel
theorem dX6_readNumber_73 : decode cX6_readNumber 73 = .ok (.iadd, 1) := by decide +kernel
theorem dX6_readNumber_74 : decode cX6_readNumber 74 = .ok (.istore_n 2, 1) := by decide +kernel
theorem dX6_readNumber_75 : decode cX6_readNumber 75 = .ok (.aload_n 0, 1) := by decide +kernel
theorem dX6_readNumber_76 : decode cX6_readNumber 76 = .ok (.dup, 1) := by decide +kernel
theorem dX6_readNumber_77 : decode cX6_readNumber 77 = .ok (.getfield 128, 3) := by decide +kernel
theorem dX6_readNumber_80 : decode cX6_readNumber 80 = .ok (.iconst 1, 1) := by decide +kernel
theorem dX6_readNumber_81 : decode cX6_readNumber 81 = .ok (.iadd, 1) := by decide +kernel
theorem dX6_readNumber_82 : decode cX6_readNumber 82 = .ok (.putfield 128, 3) := by decide +kernel
theorem dX6_readNumber_85 : decode cX6_readNumber 85 = .ok (.iload_n 2, 1) := by decide +kernel
theorem dX6_readNumber_86 : decode cX6_readNumber 86 = .ok (.ireturn, 1) := by decide +kernel
theorem dX6_readsLean_0 : decode cX6_readsLean 0 = .ok (.aload_n 0, 1) := by decide +kernel
theorem dX6_readsLean_1 : decode cX6_readsLean 1 = .ok (.bipush 45, 2) := by decide +kernel
theorem dX6_readsLean_3 : decode cX6_readsLean 3 = .ok (.invokevirtual 134, 3) := by decide +kernel
theorem dX6_readsLean_6 : decode cX6_readsLean 6 = .ok (.istore_n 1, 1) := by decide +kernel
theorem dX6_readsLean_7 : decode cX6_readsLean 7 = .ok (.iload_n 1, 1) := by decide +kernel
theorem dX6_readsLean_8 : decode cX6_readsLean 8 = .ok (.ifCond .eq 14, 3) := by decide +kernel
theorem dX6_readsLean_11 : decode cX6_readsLean 11 = .ok (.aload_n 0, 1) := by decide +kernel
theorem dX6_readsLean_12 : decode cX6_readsLean 12 = .ok (.invokevirtual 131, 3) := by decide +kernel
theorem dX6_readsLean_15 : decode cX6_readsLean 15 = .ok (.bipush 48, 2) := by decide +kernel
theorem dX6_readsLean_17 : decode cX6_readsLean 17 = .ok (.if_icmp .ne 5, 3) := by decide +kernel
theorem dX6_readsLean_20 : decode cX6_readsLean 20 = .ok (.iconst 0, 1) := by decide +kernel
theorem dX6_readsLean_21 : decode cX6_readsLean 21 = .ok (.ireturn, 1) := by decide +kernel
theorem dX6_readsLean_22 : decode cX6_readsLean 22 = .ok (.aload_n 0, 1) := by decide +kernel
theorem dX6_readsLean_23 : decode cX6_readsLean 23 = .ok (.aload_n 0, 1) := by decide +kernel
theorem dX6_readsLean_24 : decode cX6_readsLean 24 = .ok (.bipush 9, 2) := by decide +kernel
theorem dX6_readsLean_26 : decode cX6_readsLean 26 = .ok (.invokevirtual 137, 3) := by decide +kernel
theorem dX6_readsLean_29 : decode cX6_readsLean 29 = .ok (.putfield 140, 3) := by decide +kernel
theorem dX6_readsLean_32 : decode cX6_readsLean 32 = .ok (.aload_n 0, 1) := by decide +kernel
theorem dX6_readsLean_33 : decode cX6_readsLean 33 = .ok (.getfield 140, 3) := by decide +kernel
theorem dX6_readsLean_36 : decode cX6_readsLean 36 = .ok (.bipush (-5), 2) := by decide +kernel
theorem dX6_readsLean_38 : decode cX6_readsLean 38 = .ok (.if_icmp .eq 7, 3) := by decide +kernel
theorem dX6_readsLean_41 : decode cX6_readsLean 41 = .ok (.iconst 1, 1) := by decide +kernel
theorem dX6_readsLean_42 : decode cX6_readsLean 42 = .ok (.goto 4, 3) := by decide +kernel
theorem dX6_readsLean_45 : decode cX6_readsLean 45 = .ok (.iconst 0, 1) := by decide +kernel
theorem dX6_readsLean_46 : decode cX6_readsLean 46 = .ok (.istore_n 2, 1) := by decide +kernel
theorem dX6_readsLean_47 : decode cX6_readsLean 47 = .ok (.aload_n 0, 1) := by decide +kernel
theorem dX6_readsLean_48 : decode cX6_readsLean 48 = .ok (.iload_n 1, 1) := by decide +kernel
theorem dX6_readsLean_49 : decode cX6_readsLean 49 = .ok (.ifCond .eq 11, 3) := by decide +kernel
theorem dX6_readsLean_52 : decode cX6_readsLean 52 = .ok (.aload_n 0, 1) := by decide +kernel
theorem dX6_readsLean_53 : decode cX6_readsLean 53 = .ok (.getfield 140, 3) := by decide +kernel
theorem dX6_readsLean_56 : decode cX6_readsLean 56 = .ok (.ineg, 1) := by decide +kernel
theorem dX6_readsLean_57 : decode cX6_readsLean 57 = .ok (.goto 7, 3) := by decide +kernel
theorem dX6_readsLean_60 : decode cX6_readsLean 60 = .ok (.aload_n 0, 1) := by decide +kernel
theorem dX6_readsLean_61 : decode cX6_readsLean 61 = .ok (.getfield 140, 3) := by decide +kernel
theorem dX6_readsLean_64 : decode cX6_readsLean 64 = .ok (.putfield 140, 3) := by decide +kernel
theorem dX6_readsLean_67 : decode cX6_readsLean 67 = .ok (.iload_n 2, 1) := by decide +kernel
theorem dX6_readsLean_68 : decode cX6_readsLean 68 = .ok (.ireturn, 1) := by decide +kernel
theorem dX6_readsChange_0 : decode cX6_readsChange 0 = .ok (.aload_n 0, 1) := by decide +kernel
theorem dX6_readsChange_1 : decode cX6_readsChange 1 = .ok (.aload_n 0, 1) := by decide +kernel
theorem dX6_readsChange_2 : decode cX6_readsChange 2 = .ok (.invokevirtual 131, 3) := by decide +kernel
theorem dX6_readsChange_5 : decode cX6_readsChange 5 = .ok (.putfield 143, 3) := by decide +kernel
theorem dX6_readsChange_8 : decode cX6_readsChange 8 = .ok (.aload_n 0, 1) := by decide +kernel
theorem dX6_readsChange_9 : decode cX6_readsChange 9 = .ok (.getfield 143, 3) := by decide +kernel
theorem dX6_readsChange_12 : decode cX6_readsChange 12 = .ok (.bipush 115, 2) := by decide +kernel
theorem dX6_readsChange_14 : decode cX6_readsChange 14 = .ok (.if_icmp .eq 32, 3) := by decide +kernel
theorem dX6_readsChange_17 : decode cX6_readsChange 17 = .ok (.aload_n 0, 1) := by decide +kernel
theorem dX6_readsChange_18 : decode cX6_readsChange 18 = .ok (.getfield 143, 3) := by decide +kernel
theorem dX6_readsChange_21 : decode cX6_readsChange 21 = .ok (.bipush 109, 2) := by decide +kernel
theorem dX6_readsChange_23 : decode cX6_readsChange 23 = .ok (.if_icmp .eq 23, 3) := by decide +kernel
theorem dX6_readsChange_26 : decode cX6_readsChange 26 = .ok (.aload_n 0, 1) := by decide +kernel
theorem dX6_readsChange_27 : decode cX6_readsChange 27 = .ok (.getfield 143, 3) := by decide +kernel
theorem dX6_readsChange_30 : decode cX6_readsChange 30 = .ok (.bipush 117, 2) := by decide +kernel
theorem dX6_readsChange_32 : decode cX6_readsChange 32 = .ok (.if_icmp .eq 14, 3) := by decide +kernel
theorem dX6_readsChange_35 : decode cX6_readsChange 35 = .ok (.aload_n 0, 1) := by decide +kernel
theorem dX6_readsChange_36 : decode cX6_readsChange 36 = .ok (.getfield 143, 3) := by decide +kernel
theorem dX6_readsChange_39 : decode cX6_readsChange 39 = .ok (.bipush 108, 2) := by decide +kernel
theorem dX6_readsChange_41 : decode cX6_readsChange 41 = .ok (.if_icmp .eq 5, 3) := by decide +kernel
theorem dX6_readsChange_44 : decode cX6_readsChange 44 = .ok (.iconst 0, 1) := by decide +kernel
theorem dX6_readsChange_45 : decode cX6_readsChange 45 = .ok (.ireturn, 1) := by decide +kernel
theorem dX6_readsChange_46 : decode cX6_readsChange 46 = .ok (.aload_n 0, 1) := by decide +kernel
theorem dX6_readsChange_47 : decode cX6_readsChange 47 = .ok (.dup, 1) := by decide +kernel
theorem dX6_readsChange_48 : decode cX6_readsChange 48 = .ok (.getfield 128, 3) := by decide +kernel
theorem dX6_readsChange_51 : decode cX6_readsChange 51 = .ok (.iconst 1, 1) := by decide +kernel
theorem dX6_readsChange_52 : decode cX6_readsChange 52 = .ok (.iadd, 1) := by decide +kernel
theorem dX6_readsChange_53 : decode cX6_readsChange 53 = .ok (.putfield 128, 3) := by decide +kernel
theorem dX6_readsChange_56 : decode cX6_readsChange 56 = .ok (.aload_n 0, 1) := by decide +kernel
theorem dX6_readsChange_57 : decode cX6_readsChange 57 = .ok (.aload_n 0, 1) := by decide +kernel
theorem dX6_readsChange_58 : decode cX6_readsChange 58 = .ok (.bipush 23, 2) := by decide +kernel
theorem dX6_readsChange_60 : decode cX6_readsChange 60 = .ok (.invokevirtual 137, 3) := by decide +kernel
theorem dX6_readsChange_63 : decode cX6_readsChange 63 = .ok (.putfield 146, 3) := by decide +kernel
theorem dX6_readsChange_66 : decode cX6_readsChange 66 = .ok (.aload_n 0, 1) := by decide +kernel
theorem dX6_readsChange_67 : decode cX6_readsChange 67 = .ok (.getfield 146, 3) := by decide +kernel
theorem dX6_readsChange_70 : decode cX6_readsChange 70 = .ok (.bipush (-5), 2) := by decide +kernel
theorem dX6_readsChange_72 : decode cX6_readsChange 72 = .ok (.if_icmp .eq 26, 3) := by decide +kernel
theorem dX6_readsChange_75 : decode cX6_readsChange 75 = .ok (.aload_n 0, 1) := by decide +kernel
theorem dX6_readsChange_76 : decode cX6_readsChange 76 = .ok (.aload_n 0, 1) := by decide +kernel
theorem dX6_readsChange_77 : decode cX6_readsChange 77 = .ok (.getfield 143, 3) := by decide +kernel
theorem dX6_readsChange_80 : decode cX6_readsChange 80 = .ok (.bipush 115, 2) := by decide +kernel
theorem dX6_readsChange_82 : decode cX6_readsChange 82 = .ok (.if_icmp .ne 8, 3) := by decide +kernel
theorem dX6_readsChange_85 : decode cX6_readsChange 85 = .ok (.bipush 47, 2) := by decide +kernel
theorem dX6_readsChange_87 : decode cX6_readsChange 87 = .ok (.goto 5, 3) := by decide +kernel
theorem dX6_readsChange_90 : decode cX6_readsChange 90 = .ok (.bipush 61, 2) := by decide +kernel
theorem dX6_readsChange_92 : decode cX6_readsChange 92 = .ok (.invokevirtual 134, 3) := by decide +kernel
theorem dX6_readsChange_95 : decode cX6_readsChange 95 = .ok (.ifCond .ne 5, 3) := by decide +kernel
theorem dX6_readsChange_98 : decode cX6_readsChange 98 = .ok (.iconst 0, 1) := by decide +kernel
theorem dX6_readsChange_99 : decode cX6_readsChange 99 = .ok (.ireturn, 1) := by decide +kernel
theorem dX6_readsChange_100 : decode cX6_readsChange 100 = .ok (.aload_n 0, 1) := by decide +kernel
theorem dX6_readsChange_101 : decode cX6_readsChange 101 = .ok (.getfield 143, 3) := by decide +kernel
theorem dX6_readsChange_104 : decode cX6_readsChange 104 = .ok (.bipush 108, 2) := by decide +kernel
theorem dX6_readsChange_106 : decode cX6_readsChange 106 = .ok (.if_icmp .ne 8, 3) := by decide +kernel
theorem dX6_readsChange_109 : decode cX6_readsChange 109 = .ok (.aload_n 0, 1) := by decide +kernel
theorem dX6_readsChange_110 : decode cX6_readsChange 110 = .ok (.invokevirtual 149, 3) := by decide +kernel
theorem dX6_readsChange_113 : decode cX6_readsChange 113 = .ok (.ireturn, 1) := by decide +kernel
theorem dX6_readsChange_114 : decode cX6_readsChange 114 = .ok (.aload_n 0, 1) := by decide +kernel
theorem dX6_readsChange_115 : decode cX6_readsChange 115 = .ok (.aload_n 0, 1) := by decide +kernel
theorem dX6_readsChange_116 : decode cX6_readsChange 116 = .ok (.aload_n 0, 1) := by decide +kernel
theorem dX6_readsChange_117 : decode cX6_readsChange 117 = .ok (.getfield 143, 3) := by decide +kernel
theorem dX6_readsChange_120 : decode cX6_readsChange 120 = .ok (.bipush 115, 2) := by decide +kernel
theorem dX6_readsChange_122 : decode cX6_readsChange 122 = .ok (.if_icmp .ne 8, 3) := by decide +kernel
theorem dX6_readsChange_125 : decode cX6_readsChange 125 = .ok (.bipush 23, 2) := by decide +kernel
theorem dX6_readsChange_127 : decode cX6_readsChange 127 = .ok (.goto 4, 3) := by decide +kernel
theorem dX6_readsChange_130 : decode cX6_readsChange 130 = .ok (.iconst 3, 1) := by decide +kernel
theorem dX6_readsChange_131 : decode cX6_readsChange 131 = .ok (.invokevirtual 137, 3) := by decide +kernel
theorem dX6_readsChange_134 : decode cX6_readsChange 134 = .ok (.putfield 140, 3) := by decide +kernel
theorem dX6_readsChange_137 : decode cX6_readsChange 137 = .ok (.aload_n 0, 1) := by decide +kernel
theorem dX6_readsChange_138 : decode cX6_readsChange 138 = .ok (.getfield 140, 3) := by decide +kernel
theorem dX6_readsChange_141 : decode cX6_readsChange 141 = .ok (.bipush (-5), 2) := by decide +kernel
theorem dX6_readsChange_143 : decode cX6_readsChange 143 = .ok (.if_icmp .eq 7, 3) := by decide +kernel
theorem dX6_readsChange_146 : decode cX6_readsChange 146 = .ok (.iconst 1, 1) := by decide +kernel
theorem dX6_readsChange_147 : decode cX6_readsChange 147 = .ok (.goto 4, 3) := by decide +kernel
theorem dX6_readsChange_150 : decode cX6_readsChange 150 = .ok (.iconst 0, 1) := by decide +kernel
theorem dX6_readsChange_151 : decode cX6_readsChange 151 = .ok (.ireturn, 1) := by decide +kernel
theorem dX6_findFault_0 : decode cX6_findFault 0 = .ok (.aload_n 0, 1) := by decide +kernel
theorem dX6_findFault_1 : decode cX6_findFault 1 = .ok (.iconst 0, 1) := by decide +kernel
theorem dX6_findFault_2 : decode cX6_findFault 2 = .ok (.putfield 128, 3) := by decide +kernel
theorem dX6_findFault_5 : decode cX6_findFault 5 = .ok (.aload_n 0, 1) := by decide +kernel
theorem dX6_findFault_6 : decode cX6_findFault 6 = .ok (.invokevirtual 153, 3) := by decide +kernel
theorem dX6_findFault_9 : decode cX6_findFault 9 = .ok (.ifCond .eq 31, 3) := by decide +kernel
theorem dX6_findFault_12 : decode cX6_findFault 12 = .ok (.aload_n 0, 1) := by decide +kernel
theorem dX6_findFault_13 : decode cX6_findFault 13 = .ok (.getfield 128, 3) := by decide +kernel
theorem dX6_findFault_16 : decode cX6_findFault 16 = .ok (.aload_n 0, 1) := by decide +kernel
theorem dX6_findFault_17 : decode cX6_findFault 17 = .ok (.getfield 125, 3) := by decide +kernel
theorem dX6_findFault_20 : decode cX6_findFault 20 = .ok (.if_icmp .ne 6, 3) := by decide +kernel
theorem dX6_findFault_23 : decode cX6_findFault 23 = .ok (.bipush (-5), 2) := by decide +kernel
theorem dX6_findFault_25 : decode cX6_findFault 25 = .ok (.ireturn, 1) := by decide +kernel
theorem dX6_findFault_26 : decode cX6_findFault 26 = .ok (.aload_n 0, 1) := by decide +kernel
theorem dX6_findFault_27 : decode cX6_findFault 27 = .ok (.bipush 59, 2) := by decide +kernel
theorem dX6_findFault_29 : decode cX6_findFault 29 = .ok (.invokevirtual 134, 3) := by decide +kernel
theorem dX6_findFault_32 : decode cX6_findFault 32 = .ok (.ifCond .ne (-27), 3) := by decide +kernel
theorem dX6_findFault_35 : decode cX6_findFault 35 = .ok (.aload_n 0, 1) := by decide +kernel
theorem dX6_findFault_36 : decode cX6_findFault 36 = .ok (.getfield 128, 3) := by decide +kernel
theorem dX6_findFault_39 : decode cX6_findFault 39 = .ok (.ireturn, 1) := by decide +kernel
theorem dX6_findFault_40 : decode cX6_findFault 40 = .ok (.aload_n 0, 1) := by decide +kernel
theorem dX6_findFault_41 : decode cX6_findFault 41 = .ok (.getfield 128, 3) := by decide +kernel
theorem dX6_findFault_44 : decode cX6_findFault 44 = .ok (.ireturn, 1) := by decide +kernel
theorem dX6_fault_0 : decode cX6_fault 0 = .ok (.aload_n 0, 1) := by decide +kernel
theorem dX6_fault_1 : decode cX6_fault 1 = .ok (.invokevirtual 156, 3) := by decide +kernel
theorem dX6_fault_4 : decode cX6_fault 4 = .ok (.ireturn, 1) := by decide +kernel
theorem dX6_doesChange_0 : decode cX6_doesChange 0 = .ok (.aload_n 0, 1) := by decide +kernel
theorem dX6_doesChange_1 : decode cX6_doesChange 1 = .ok (.getfield 143, 3) := by decide +kernel
theorem dX6_doesChange_4 : decode cX6_doesChange 4 = .ok (.bipush 108, 2) := by decide +kernel
theorem dX6_doesChange_6 : decode cX6_doesChange 6 = .ok (.if_icmp .ne 15, 3) := by decide +kernel
theorem dX6_doesChange_9 : decode cX6_doesChange 9 = .ok (.aload_n 0, 1) := by decide +kernel
theorem dX6_doesChange_10 : decode cX6_doesChange 10 = .ok (.getfield 146, 3) := by decide +kernel
theorem dX6_doesChange_13 : decode cX6_doesChange 13 = .ok (.invokestatic 67, 3) := by decide +kernel
theorem dX6_doesChange_16 : decode cX6_doesChange 16 = .ok (.ifCond .ne 5, 3) := by decide +kernel
theorem dX6_doesChange_19 : decode cX6_doesChange 19 = .ok (.iconst 0, 1) := by decide +kernel
theorem dX6_doesChange_20 : decode cX6_doesChange 20 = .ok (.ireturn, 1) := by decide +kernel
theorem dX6_doesChange_21 : decode cX6_doesChange 21 = .ok (.aload_n 0, 1) := by decide +kernel
theorem dX6_doesChange_22 : decode cX6_doesChange 22 = .ok (.getfield 143, 3) := by decide +kernel
theorem dX6_doesChange_25 : decode cX6_doesChange 25 = .ok (.bipush 115, 2) := by decide +kernel
theorem dX6_doesChange_27 : decode cX6_doesChange 27 = .ok (.if_icmp .ne 18, 3) := by decide +kernel
theorem dX6_doesChange_30 : decode cX6_doesChange 30 = .ok (.aload_n 0, 1) := by decide +kernel
theorem dX6_doesChange_31 : decode cX6_doesChange 31 = .ok (.aload_n 0, 1) := by decide +kernel
theorem dX6_doesChange_32 : decode cX6_doesChange 32 = .ok (.getfield 146, 3) := by decide +kernel
theorem dX6_doesChange_35 : decode cX6_doesChange 35 = .ok (.aload_n 0, 1) := by decide +kernel
theorem dX6_doesChange_36 : decode cX6_doesChange 36 = .ok (.getfield 140, 3) := by decide +kernel
theorem dX6_doesChange_39 : decode cX6_doesChange 39 = .ok (.invokevirtual 56, 3) := by decide +kernel
theorem dX6_doesChange_42 : decode cX6_doesChange 42 = .ok (.goto 57, 3) := by decide +kernel
theorem dX6_doesChange_45 : decode cX6_doesChange 45 = .ok (.aload_n 0, 1) := by decide +kernel
theorem dX6_doesChange_46 : decode cX6_doesChange 46 = .ok (.getfield 143, 3) := by decide +kernel
theorem dX6_doesChange_49 : decode cX6_doesChange 49 = .ok (.bipush 108, 2) := by decide +kernel
theorem dX6_doesChange_51 : decode cX6_doesChange 51 = .ok (.if_icmp .ne 22, 3) := by decide +kernel
theorem dX6_doesChange_54 : decode cX6_doesChange 54 = .ok (.aload_n 0, 1) := by decide +kernel
theorem dX6_doesChange_55 : decode cX6_doesChange 55 = .ok (.getfield 7, 3) := by decide +kernel
theorem dX6_doesChange_58 : decode cX6_doesChange 58 = .ok (.bipush 35, 2) := by decide +kernel
theorem dX6_doesChange_60 : decode cX6_doesChange 60 = .ok (.aload_n 0, 1) := by decide +kernel
theorem dX6_doesChange_61 : decode cX6_doesChange 61 = .ok (.getfield 146, 3) := by decide +kernel
theorem dX6_doesChange_64 : decode cX6_doesChange 64 = .ok (.iadd, 1) := by decide +kernel
theorem dX6_doesChange_65 : decode cX6_doesChange 65 = .ok (.aload_n 0, 1) := by decide +kernel
theorem dX6_doesChange_66 : decode cX6_doesChange 66 = .ok (.getfield 140, 3) := by decide +kernel
theorem dX6_doesChange_69 : decode cX6_doesChange 69 = .ok (.iastore, 1) := by decide +kernel
theorem dX6_doesChange_70 : decode cX6_doesChange 70 = .ok (.goto 29, 3) := by decide +kernel
theorem dX6_doesChange_73 : decode cX6_doesChange 73 = .ok (.aload_n 0, 1) := by decide +kernel
theorem dX6_doesChange_74 : decode cX6_doesChange 74 = .ok (.aload_n 0, 1) := by decide +kernel
theorem dX6_doesChange_75 : decode cX6_doesChange 75 = .ok (.getfield 146, 3) := by decide +kernel
theorem dX6_doesChange_78 : decode cX6_doesChange 78 = .ok (.aload_n 0, 1) := by decide +kernel
theorem dX6_doesChange_79 : decode cX6_doesChange 79 = .ok (.getfield 140, 3) := by decide +kernel
theorem dX6_doesChange_82 : decode cX6_doesChange 82 = .ok (.aload_n 0, 1) := by decide +kernel
theorem dX6_doesChange_83 : decode cX6_doesChange 83 = .ok (.getfield 143, 3) := by decide +kernel
theorem dX6_doesChange_86 : decode cX6_doesChange 86 = .ok (.bipush 109, 2) := by decide +kernel
theorem dX6_doesChange_88 : decode cX6_doesChange 88 = .ok (.if_icmp .ne 7, 3) := by decide +kernel
theorem dX6_doesChange_91 : decode cX6_doesChange 91 = .ok (.iconst 1, 1) := by decide +kernel
theorem dX6_doesChange_92 : decode cX6_doesChange 92 = .ok (.goto 4, 3) := by decide +kernel
theorem dX6_doesChange_95 : decode cX6_doesChange 95 = .ok (.iconst 0, 1) := by decide +kernel
theorem dX6_doesChange_96 : decode cX6_doesChange 96 = .ok (.invokevirtual 63, 3) := by decide +kernel
theorem dX6_doesChange_99 : decode cX6_doesChange 99 = .ok (.iconst 1, 1) := by decide +kernel
theorem dX6_doesChange_100 : decode cX6_doesChange 100 = .ok (.ireturn, 1) := by decide +kernel
theorem dX6_changeAll_0 : decode cX6_changeAll 0 = .ok (.aload_n 0, 1) := by decide +kernel
theorem dX6_changeAll_1 : decode cX6_changeAll 1 = .ok (.invokevirtual 156, 3) := by decide +kernel
theorem dX6_changeAll_4 : decode cX6_changeAll 4 = .ok (.istore_n 1, 1) := by decide +kernel
theorem dX6_changeAll_5 : decode cX6_changeAll 5 = .ok (.iload_n 1, 1) := by decide +kernel
theorem dX6_changeAll_6 : decode cX6_changeAll 6 = .ok (.bipush (-5), 2) := by decide +kernel
theorem dX6_changeAll_8 : decode cX6_changeAll 8 = .ok (.if_icmp .eq 8, 3) := by decide +kernel
theorem dX6_changeAll_11 : decode cX6_changeAll 11 = .ok (.bipush (-100), 2) := by decide +kernel
theorem dX6_changeAll_13 : decode cX6_changeAll 13 = .ok (.iload_n 1, 1) := by decide +kernel
theorem dX6_changeAll_14 : decode cX6_changeAll 14 = .ok (.isub, 1) := by decide +kernel
theorem dX6_changeAll_15 : decode cX6_changeAll 15 = .ok (.ireturn, 1) := by decide +kernel
theorem dX6_changeAll_16 : decode cX6_changeAll 16 = .ok (.aload_n 0, 1) := by decide +kernel
theorem dX6_changeAll_17 : decode cX6_changeAll 17 = .ok (.invokevirtual 39, 3) := by decide +kernel
theorem dX6_changeAll_20 : decode cX6_changeAll 20 = .ok (.aload_n 0, 1) := by decide +kernel
theorem dX6_changeAll_21 : decode cX6_changeAll 21 = .ok (.iconst 0, 1) := by decide +kernel
theorem dX6_changeAll_22 : decode cX6_changeAll 22 = .ok (.putfield 128, 3) := by decide +kernel
theorem dX6_changeAll_25 : decode cX6_changeAll 25 = .ok (.iconst 0, 1) := by decide +kernel
theorem dX6_changeAll_26 : decode cX6_changeAll 26 = .ok (.istore_n 2, 1) := by decide +kernel
theorem dX6_changeAll_27 : decode cX6_changeAll 27 = .ok (.aload_n 0, 1) := by decide +kernel
theorem dX6_changeAll_28 : decode cX6_changeAll 28 = .ok (.getfield 128, 3) := by decide +kernel
theorem dX6_changeAll_31 : decode cX6_changeAll 31 = .ok (.aload_n 0, 1) := by decide +kernel
theorem dX6_changeAll_32 : decode cX6_changeAll 32 = .ok (.getfield 125, 3) := by decide +kernel
theorem dX6_changeAll_35 : decode cX6_changeAll 35 = .ok (.if_icmp .ge 40, 3) := by decide +kernel
theorem dX6_changeAll_38 : decode cX6_changeAll 38 = .ok (.aload_n 0, 1) := by decide +kernel
theorem dX6_changeAll_39 : decode cX6_changeAll 39 = .ok (.invokevirtual 153, 3) := by decide +kernel
theorem dX6_changeAll_42 : decode cX6_changeAll 42 = .ok (.ifCond .eq 10, 3) := by decide +kernel
theorem dX6_changeAll_45 : decode cX6_changeAll 45 = .ok (.aload_n 0, 1) := by decide +kernel
theorem dX6_changeAll_46 : decode cX6_changeAll 46 = .ok (.invokevirtual 159, 3) := by decide +kernel
theorem dX6_changeAll_49 : decode cX6_changeAll 49 = .ok (.ifCond .ne 10, 3) := by decide +kernel
theorem dX6_changeAll_52 : decode cX6_changeAll 52 = .ok (.aload_n 0, 1) := by decide +kernel
theorem dX6_changeAll_53 : decode cX6_changeAll 53 = .ok (.invokevirtual 162, 3) := by decide +kernel
theorem dX6_changeAll_56 : decode cX6_changeAll 56 = .ok (.bipush (-4), 2) := by decide +kernel
theorem dX6_changeAll_58 : decode cX6_changeAll 58 = .ok (.ireturn, 1) := by decide +kernel
theorem dX6_changeAll_59 : decode cX6_changeAll 59 = .ok (.iinc 2 1, 3) := by decide +kernel
theorem dX6_changeAll_62 : decode cX6_changeAll 62 = .ok (.aload_n 0, 1) := by decide +kernel
theorem dX6_changeAll_63 : decode cX6_changeAll 63 = .ok (.dup, 1) := by decide +kernel
theorem dX6_changeAll_64 : decode cX6_changeAll 64 = .ok (.getfield 128, 3) := by decide +kernel
theorem dX6_changeAll_67 : decode cX6_changeAll 67 = .ok (.iconst 1, 1) := by decide +kernel
theorem dX6_changeAll_68 : decode cX6_changeAll 68 = .ok (.iadd, 1) := by decide +kernel
theorem dX6_changeAll_69 : decode cX6_changeAll 69 = .ok (.putfield 128, 3) := by decide +kernel
theorem dX6_changeAll_72 : decode cX6_changeAll 72 = .ok (.goto (-45), 3) := by decide +kernel
theorem dX6_changeAll_75 : decode cX6_changeAll 75 = .ok (.aload_n 0, 1) := by decide +kernel
theorem dX6_changeAll_76 : decode cX6_changeAll 76 = .ok (.invokevirtual 42, 3) := by decide +kernel
theorem dX6_changeAll_79 : decode cX6_changeAll 79 = .ok (.iload_n 2, 1) := by decide +kernel
theorem dX6_changeAll_80 : decode cX6_changeAll 80 = .ok (.ireturn, 1) := by decide +kernel
theorem dX6_block_0 : decode cX6_block 0 = .ok (.iload_n 1, 1) := by decide +kernel
theorem dX6_block_1 : decode cX6_block 1 = .ok (.invokestatic 52, 3) := by decide +kernel
theorem dX6_block_4 : decode cX6_block 4 = .ok (.ifCond .ne 5, 3) := by decide +kernel
theorem dX6_block_7 : decode cX6_block 7 = .ok (.iconst (-1), 1) := by decide +kernel
theorem dX6_block_8 : decode cX6_block 8 = .ok (.ireturn, 1) := by decide +kernel
theorem dX6_block_9 : decode cX6_block 9 = .ok (.iload_n 2, 1) := by decide +kernel
theorem dX6_block_10 : decode cX6_block 10 = .ok (.ifCond .ne 15, 3) := by decide +kernel
theorem dX6_block_13 : decode cX6_block 13 = .ok (.aload_n 0, 1) := by decide +kernel
theorem dX6_block_14 : decode cX6_block 14 = .ok (.getfield 7, 3) := by decide +kernel
theorem dX6_block_17 : decode cX6_block 17 = .ok (.bipush 11, 2) := by decide +kernel
theorem dX6_block_19 : decode cX6_block 19 = .ok (.iload_n 1, 1) := by decide +kernel
theorem dX6_block_20 : decode cX6_block 20 = .ok (.iadd, 1) := by decide +kernel
theorem dX6_block_21 : decode cX6_block 21 = .ok (.iaload, 1) := by decide +kernel
theorem dX6_block_22 : decode cX6_block 22 = .ok (.goto 22, 3) := by decide +kernel
theorem dX6_block_25 : decode cX6_block 25 = .ok (.iload_n 2, 1) := by decide +kernel
theorem dX6_block_26 : decode cX6_block 26 = .ok (.iconst 1, 1) := by decide +kernel
theorem dX6_block_27 : decode cX6_block 27 = .ok (.if_icmp .ne 15, 3) := by decide +kernel
theorem dX6_block_30 : decode cX6_block 30 = .ok (.aload_n 0, 1) := by decide +kernel
theorem dX6_block_31 : decode cX6_block 31 = .ok (.getfield 7, 3) := by decide +kernel
theorem dX6_block_34 : decode cX6_block 34 = .ok (.bipush 59, 2) := by decide +kernel
theorem dX6_block_36 : decode cX6_block 36 = .ok (.iload_n 1, 1) := by decide +kernel
theorem dX6_block_37 : decode cX6_block 37 = .ok (.iadd, 1) := by decide +kernel
theorem dX6_block_38 : decode cX6_block 38 = .ok (.iaload, 1) := by decide +kernel
theorem dX6_block_39 : decode cX6_block 39 = .ok (.goto 5, 3) := by decide +kernel
theorem dX6_block_42 : decode cX6_block 42 = .ok (.bipush (-2), 2) := by decide +kernel
theorem dX6_block_44 : decode cX6_block 44 = .ok (.ireturn, 1) := by decide +kernel
theorem dX6_cellOf_0 : decode cX6_cellOf 0 = .ok (.iconst 0, 1) := by decide +kernel
theorem dX6_cellOf_1 : decode cX6_cellOf 1 = .ok (.istore_n 2, 1) := by decide +kernel
theorem dX6_cellOf_2 : decode cX6_cellOf 2 = .ok (.aload_n 0, 1) := by decide +kernel
theorem dX6_cellOf_3 : decode cX6_cellOf 3 = .ok (.getfield 7, 3) := by decide +kernel
theorem dX6_cellOf_6 : decode cX6_cellOf 6 = .ok (.bipush 11, 2) := by decide +kernel
theorem dX6_cellOf_8 : decode cX6_cellOf 8 = .ok (.iload_n 2, 1) := by decide +kernel
theorem dX6_cellOf_9 : decode cX6_cellOf 9 = .ok (.iadd, 1) := by decide +kernel
theorem dX6_cellOf_10 : decode cX6_cellOf 10 = .ok (.iaload, 1) := by decide +kernel
theorem dX6_cellOf_11 : decode cX6_cellOf 11 = .ok (.iload_n 1, 1) := by decide +kernel
theorem dX6_cellOf_12 : decode cX6_cellOf 12 = .ok (.if_icmp .eq 9, 3) := by decide +kernel
theorem dX6_cellOf_15 : decode cX6_cellOf 15 = .ok (.iinc 2 1, 3) := by decide +kernel
theorem dX6_cellOf_18 : decode cX6_cellOf 18 = .ok (.goto (-16), 3) := by decide +kernel
theorem dX6_cellOf_21 : decode cX6_cellOf 21 = .ok (.iload_n 2, 1) := by decide +kernel
theorem dX6_cellOf_22 : decode cX6_cellOf 22 = .ok (.ireturn, 1) := by decide +kernel
theorem dX6_placeOf_0 : decode cX6_placeOf 0 = .ok (.iconst 0, 1) := by decide +kernel
theorem dX6_placeOf_1 : decode cX6_placeOf 1 = .ok (.istore_n 2, 1) := by decide +kernel
theorem dX6_placeOf_2 : decode cX6_placeOf 2 = .ok (.iload_n 2, 1) := by decide +kernel
theorem dX6_placeOf_3 : decode cX6_placeOf 3 = .ok (.aload_n 0, 1) := by decide +kernel
theorem dX6_placeOf_4 : decode cX6_placeOf 4 = .ok (.getfield 7, 3) := by decide +kernel
theorem dX6_placeOf_7 : decode cX6_placeOf 7 = .ok (.bipush 7, 2) := by decide +kernel
theorem dX6_placeOf_9 : decode cX6_placeOf 9 = .ok (.iaload, 1) := by decide +kernel
theorem dX6_placeOf_10 : decode cX6_placeOf 10 = .ok (.if_icmp .ge 24, 3) := by decide +kernel
theorem dX6_placeOf_13 : decode cX6_placeOf 13 = .ok (.aload_n 0, 1) := by decide +kernel
theorem dX6_placeOf_14 : decode cX6_placeOf 14 = .ok (.getfield 7, 3) := by decide +kernel
theorem dX6_placeOf_17 : decode cX6_placeOf 17 = .ok (.bipush 83, 2) := by decide +kernel
theorem dX6_placeOf_19 : decode cX6_placeOf 19 = .ok (.iload_n 2, 1) := by decide +kernel
theorem dX6_placeOf_20 : decode cX6_placeOf 20 = .ok (.iadd, 1) := by decide +kernel
theorem dX6_placeOf_21 : decode cX6_placeOf 21 = .ok (.iaload, 1) := by decide +kernel
theorem dX6_placeOf_22 : decode cX6_placeOf 22 = .ok (.iload_n 1, 1) := by decide +kernel
theorem dX6_placeOf_23 : decode cX6_placeOf 23 = .ok (.if_icmp .ne 5, 3) := by decide +kernel
theorem dX6_placeOf_26 : decode cX6_placeOf 26 = .ok (.iload_n 2, 1) := by decide +kernel
theorem dX6_placeOf_27 : decode cX6_placeOf 27 = .ok (.ireturn, 1) := by decide +kernel
theorem dX6_placeOf_28 : decode cX6_placeOf 28 = .ok (.iinc 2 1, 3) := by decide +kernel
theorem dX6_placeOf_31 : decode cX6_placeOf 31 = .ok (.goto (-29), 3) := by decide +kernel
theorem dX6_placeOf_34 : decode cX6_placeOf 34 = .ok (.bipush (-5), 2) := by decide +kernel
theorem dX6_placeOf_36 : decode cX6_placeOf 36 = .ok (.ireturn, 1) := by decide +kernel
theorem dX6_cardOf_0 : decode cX6_cardOf 0 = .ok (.iload_n 1, 1) := by decide +kernel
theorem dX6_cardOf_1 : decode cX6_cardOf 1 = .ok (.invokestatic 52, 3) := by decide +kernel
theorem dX6_cardOf_4 : decode cX6_cardOf 4 = .ok (.ifCond .ne 5, 3) := by decide +kernel
theorem dX6_cardOf_7 : decode cX6_cardOf 7 = .ok (.iconst (-1), 1) := by decide +kernel
theorem dX6_cardOf_8 : decode cX6_cardOf 8 = .ok (.ireturn, 1) := by decide +kernel
theorem dX6_cardOf_9 : decode cX6_cardOf 9 = .ok (.iload_n 2, 1) := by decide +kernel
theorem dX6_cardOf_10 : decode cX6_cardOf 10 = .ok (.tableswitch 82 0 3 #[30, 36, 49, 55], 30) := by decide +kernel
theorem dX6_cardOf_40 : decode cX6_cardOf 40 = .ok (.aload_n 0, 1) := by decide +kernel
theorem dX6_cardOf_41 : decode cX6_cardOf 41 = .ok (.iload_n 1, 1) := by decide +kernel
theorem dX6_cardOf_42 : decode cX6_cardOf 42 = .ok (.invokevirtual 165, 3) := by decide +kernel
theorem dX6_cardOf_45 : decode cX6_cardOf 45 = .ok (.ireturn, 1) := by decide +kernel
theorem dX6_cardOf_46 : decode cX6_cardOf 46 = .ok (.aload_n 0, 1) := by decide +kernel
theorem dX6_cardOf_47 : decode cX6_cardOf 47 = .ok (.getfield 7, 3) := by decide +kernel
theorem dX6_cardOf_50 : decode cX6_cardOf 50 = .ok (.bipush 35, 2) := by decide +kernel
theorem dX6_cardOf_52 : decode cX6_cardOf 52 = .ok (.iload_n 1, 1) := by decide +kernel
theorem dX6_cardOf_53 : decode cX6_cardOf 53 = .ok (.iadd, 1) := by decide +kernel
theorem dX6_cardOf_54 : decode cX6_cardOf 54 = .ok (.iaload, 1) := by decide +kernel
theorem dX6_cardOf_55 : decode cX6_cardOf 55 = .ok (.bipush 100, 2) := by decide +kernel
theorem dX6_cardOf_57 : decode cX6_cardOf 57 = .ok (.iadd, 1) := by decide +kernel
theorem dX6_cardOf_58 : decode cX6_cardOf 58 = .ok (.ireturn, 1) := by decide +kernel
theorem dX6_cardOf_59 : decode cX6_cardOf 59 = .ok (.aload_n 0, 1) := by decide +kernel
theorem dX6_cardOf_60 : decode cX6_cardOf 60 = .ok (.iload_n 1, 1) := by decide +kernel
theorem dX6_cardOf_61 : decode cX6_cardOf 61 = .ok (.invokevirtual 168, 3) := by decide +kernel
theorem dX6_cardOf_64 : decode cX6_cardOf 64 = .ok (.ireturn, 1) := by decide +kernel
theorem dX6_cardOf_65 : decode cX6_cardOf 65 = .ok (.aload_n 0, 1) := by decide +kernel
theorem dX6_cardOf_66 : decode cX6_cardOf 66 = .ok (.getfield 7, 3) := by decide +kernel
theorem dX6_cardOf_69 : decode cX6_cardOf 69 = .ok (.bipush 6, 2) := by decide +kernel
theorem dX6_cardOf_71 : decode cX6_cardOf 71 = .ok (.iaload, 1) := by decide +kernel
theorem dX6_cardOf_72 : decode cX6_cardOf 72 = .ok (.iconst 1, 1) := by decide +kernel
theorem dX6_cardOf_73 : decode cX6_cardOf 73 = .ok (.if_icmp .ne 16, 3) := by decide +kernel
theorem dX6_cardOf_76 : decode cX6_cardOf 76 = .ok (.aload_n 0, 1) := by decide +kernel
theorem dX6_cardOf_77 : decode cX6_cardOf 77 = .ok (.getfield 7, 3) := by decide +kernel
theorem dX6_cardOf_80 : decode cX6_cardOf 80 = .ok (.sipush 131, 3) := by decide +kernel
theorem dX6_cardOf_83 : decode cX6_cardOf 83 = .ok (.iload_n 1, 1) := by decide +kernel
theorem dX6_cardOf_84 : decode cX6_cardOf 84 = .ok (.iadd, 1) := by decide +kernel
theorem dX6_cardOf_85 : decode cX6_cardOf 85 = .ok (.iaload, 1) := by decide +kernel
theorem dX6_cardOf_86 : decode cX6_cardOf 86 = .ok (.goto 5, 3) := by decide +kernel
theorem dX6_cardOf_89 : decode cX6_cardOf 89 = .ok (.bipush (-5), 2) := by decide +kernel
theorem dX6_cardOf_91 : decode cX6_cardOf 91 = .ok (.ireturn, 1) := by decide +kernel
theorem dX6_cardOf_92 : decode cX6_cardOf 92 = .ok (.bipush (-2), 2) := by decide +kernel
theorem dX6_cardOf_94 : decode cX6_cardOf 94 = .ok (.ireturn, 1) := by decide +kernel
theorem dX6_sheet_0 : decode cX6_sheet 0 = .ok (.iload_n 1, 1) := by decide +kernel
theorem dX6_sheet_1 : decode cX6_sheet 1 = .ok (.iconst 0, 1) := by decide +kernel
theorem dX6_sheet_2 : decode cX6_sheet 2 = .ok (.aload_n 0, 1) := by decide +kernel
theorem dX6_sheet_3 : decode cX6_sheet 3 = .ok (.getfield 7, 3) := by decide +kernel
theorem dX6_sheet_6 : decode cX6_sheet 6 = .ok (.iconst 5, 1) := by decide +kernel
theorem dX6_sheet_7 : decode cX6_sheet 7 = .ok (.iaload, 1) := by decide +kernel
theorem dX6_sheet_8 : decode cX6_sheet 8 = .ok (.iconst 1, 1) := by decide +kernel
theorem dX6_sheet_9 : decode cX6_sheet 9 = .ok (.isub, 1) := by decide +kernel
theorem dX6_sheet_10 : decode cX6_sheet 10 = .ok (.invokestatic 31, 3) := by decide +kernel
theorem dX6_sheet_13 : decode cX6_sheet 13 = .ok (.ifCond .eq 10, 3) := by decide +kernel
theorem dX6_sheet_16 : decode cX6_sheet 16 = .ok (.iload_n 2, 1) := by decide +kernel
theorem dX6_sheet_17 : decode cX6_sheet 17 = .ok (.invokestatic 52, 3) := by decide +kernel
theorem dX6_sheet_20 : decode cX6_sheet 20 = .ok (.ifCond .ne 5, 3) := by decide +kernel
theorem dX6_sheet_23 : decode cX6_sheet 23 = .ok (.iconst (-1), 1) := by decide +kernel
theorem dX6_sheet_24 : decode cX6_sheet 24 = .ok (.ireturn, 1) := by decide +kernel
theorem dX6_sheet_25 : decode cX6_sheet 25 = .ok (.iload_n 3, 1) := by decide +kernel
theorem dX6_sheet_26 : decode cX6_sheet 26 = .ok (.iconst 0, 1) := by decide +kernel
theorem dX6_sheet_27 : decode cX6_sheet 27 = .ok (.iconst 1, 1) := by decide +kernel
theorem dX6_sheet_28 : decode cX6_sheet 28 = .ok (.invokestatic 31, 3) := by decide +kernel
theorem dX6_sheet_31 : decode cX6_sheet 31 = .ok (.ifCond .ne 6, 3) := by decide +kernel
theorem dX6_sheet_34 : decode cX6_sheet 34 = .ok (.bipush (-2), 2) := by decide +kernel
theorem dX6_sheet_36 : decode cX6_sheet 36 = .ok (.ireturn, 1) := by decide +kernel
theorem dX6_sheet_37 : decode cX6_sheet 37 = .ok (.aload_n 0, 1) := by decide +kernel
theorem dX6_sheet_38 : decode cX6_sheet 38 = .ok (.getfield 7, 3) := by decide +kernel
theorem dX6_sheet_41 : decode cX6_sheet 41 = .ok (.aload_n 0, 1) := by decide +kernel
theorem dX6_sheet_42 : decode cX6_sheet 42 = .ok (.getfield 7, 3) := by decide +kernel
theorem dX6_sheet_45 : decode cX6_sheet 45 = .ok (.iconst 5, 1) := by decide +kernel
theorem dX6_sheet_46 : decode cX6_sheet 46 = .ok (.iaload, 1) := by decide +kernel
theorem dX6_sheet_47 : decode cX6_sheet 47 = .ok (.iconst 1, 1) := by decide +kernel
theorem dX6_sheet_48 : decode cX6_sheet 48 = .ok (.isub, 1) := by decide +kernel
theorem dX6_sheet_49 : decode cX6_sheet 49 = .ok (.iload_n 1, 1) := by decide +kernel
theorem dX6_sheet_50 : decode cX6_sheet 50 = .ok (.isub, 1) := by decide +kernel
theorem dX6_sheet_51 : decode cX6_sheet 51 = .ok (.invokestatic 77, 3) := by decide +kernel
theorem dX6_sheet_54 : decode cX6_sheet 54 = .ok (.bipush 48, 2) := by decide +kernel
theorem dX6_sheet_56 : decode cX6_sheet 56 = .ok (.iload_n 3, 1) := by decide +kernel
theorem dX6_sheet_57 : decode cX6_sheet 57 = .ok (.imul, 1) := by decide +kernel
theorem dX6_sheet_58 : decode cX6_sheet 58 = .ok (.iadd, 1) := by decide +kernel
theorem dX6_sheet_59 : decode cX6_sheet 59 = .ok (.iload_n 2, 1) := by decide +kernel
theorem dX6_sheet_60 : decode cX6_sheet 60 = .ok (.iadd, 1) := by decide +kernel
theorem dX6_sheet_61 : decode cX6_sheet 61 = .ok (.iaload, 1) := by decide +kernel
theorem dX6_sheet_62 : decode cX6_sheet 62 = .ok (.ireturn, 1) := by decide +kernel
theorem dX6_pack_0 : decode cX6_pack 0 = .ok (.iload_n 1, 1) := by decide +kernel
theorem dX6_pack_1 : decode cX6_pack 1 = .ok (.iconst 0, 1) := by decide +kernel
theorem dX6_pack_2 : decode cX6_pack 2 = .ok (.aload_n 0, 1) := by decide +kernel
theorem dX6_pack_3 : decode cX6_pack 3 = .ok (.getfield 7, 3) := by decide +kernel
theorem dX6_pack_6 : decode cX6_pack 6 = .ok (.bipush 7, 2) := by decide +kernel
theorem dX6_pack_8 : decode cX6_pack 8 = .ok (.iaload, 1) := by decide +kernel
theorem dX6_pack_9 : decode cX6_pack 9 = .ok (.iconst 1, 1) := by decide +kernel
theorem dX6_pack_10 : decode cX6_pack 10 = .ok (.isub, 1) := by decide +kernel
theorem dX6_pack_11 : decode cX6_pack 11 = .ok (.invokestatic 31, 3) := by decide +kernel
theorem dX6_pack_14 : decode cX6_pack 14 = .ok (.ifCond .ne 5, 3) := by decide +kernel
theorem dX6_pack_17 : decode cX6_pack 17 = .ok (.iconst (-1), 1) := by decide +kernel
theorem dX6_pack_18 : decode cX6_pack 18 = .ok (.ireturn, 1) := by decide +kernel
theorem dX6_pack_19 : decode cX6_pack 19 = .ok (.iload_n 2, 1) := by decide +kernel
theorem dX6_pack_20 : decode cX6_pack 20 = .ok (.tableswitch 87 0 4 #[36, 46, 52, 62, 68], 36) := by decide +kernel
theorem dX6_pack_56 : decode cX6_pack 56 = .ok (.aload_n 0, 1) := by decide +kernel
theorem dX6_pack_57 : decode cX6_pack 57 = .ok (.getfield 7, 3) := by decide +kernel
theorem dX6_pack_60 : decode cX6_pack 60 = .ok (.bipush 83, 2) := by decide +kernel
theorem dX6_pack_62 : decode cX6_pack 62 = .ok (.iload_n 1, 1) := by decide +kernel
theorem dX6_pack_63 : decode cX6_pack 63 = .ok (.iadd, 1) := by decide +kernel
theorem dX6_pack_64 : decode cX6_pack 64 = .ok (.iaload, 1) := by decide +kernel
theorem dX6_pack_65 : decode cX6_pack 65 = .ok (.ireturn, 1) := by decide +kernel
theorem dX6_pack_66 : decode cX6_pack 66 = .ok (.aload_n 0, 1) := by decide +kernel
theorem dX6_pack_67 : decode cX6_pack 67 = .ok (.iload_n 1, 1) := by decide +kernel
theorem dX6_pack_68 : decode cX6_pack 68 = .ok (.invokevirtual 101, 3) := by decide +kernel
theorem dX6_pack_71 : decode cX6_pack 71 = .ok (.ireturn, 1) := by decide +kernel
theorem dX6_pack_72 : decode cX6_pack 72 = .ok (.aload_n 0, 1) := by decide +kernel
theorem dX6_pack_73 : decode cX6_pack 73 = .ok (.aload_n 0, 1) := by decide +kernel
theorem dX6_pack_74 : decode cX6_pack 74 = .ok (.iload_n 1, 1) := by decide +kernel
theorem dX6_pack_75 : decode cX6_pack 75 = .ok (.invokevirtual 101, 3) := by decide +kernel
theorem dX6_pack_78 : decode cX6_pack 78 = .ok (.invokevirtual 104, 3) := by decide +kernel
theorem dX6_pack_81 : decode cX6_pack 81 = .ok (.ireturn, 1) := by decide +kernel
theorem dX6_pack_82 : decode cX6_pack 82 = .ok (.aload_n 0, 1) := by decide +kernel
theorem dX6_pack_83 : decode cX6_pack 83 = .ok (.iload_n 1, 1) := by decide +kernel
theorem dX6_pack_84 : decode cX6_pack 84 = .ok (.invokevirtual 107, 3) := by decide +kernel
theorem dX6_pack_87 : decode cX6_pack 87 = .ok (.ireturn, 1) := by decide +kernel
theorem dX6_pack_88 : decode cX6_pack 88 = .ok (.aload_n 0, 1) := by decide +kernel
theorem dX6_pack_89 : decode cX6_pack 89 = .ok (.aload_n 0, 1) := by decide +kernel
theorem dX6_pack_90 : decode cX6_pack 90 = .ok (.iload_n 1, 1) := by decide +kernel
theorem dX6_pack_91 : decode cX6_pack 91 = .ok (.invokevirtual 101, 3) := by decide +kernel
theorem dX6_pack_94 : decode cX6_pack 94 = .ok (.invokevirtual 104, 3) := by decide +kernel
theorem dX6_pack_97 : decode cX6_pack 97 = .ok (.iconst 1, 1) := by decide +kernel
theorem dX6_pack_98 : decode cX6_pack 98 = .ok (.if_icmp .ne 7, 3) := by decide +kernel
theorem dX6_pack_101 : decode cX6_pack 101 = .ok (.iconst 1, 1) := by decide +kernel
theorem dX6_pack_102 : decode cX6_pack 102 = .ok (.goto 4, 3) := by decide +kernel
theorem dX6_pack_105 : decode cX6_pack 105 = .ok (.iconst 0, 1) := by decide +kernel
theorem dX6_pack_106 : decode cX6_pack 106 = .ok (.ireturn, 1) := by decide +kernel
theorem dX6_pack_107 : decode cX6_pack 107 = .ok (.bipush (-2), 2) := by decide +kernel
theorem dX6_pack_109 : decode cX6_pack 109 = .ok (.ireturn, 1) := by decide +kernel
theorem dX6_marksOfBacks_0 : decode cX6_marksOfBacks 0 = .ok (.iconst 0, 1) := by decide +kernel
theorem dX6_marksOfBacks_1 : decode cX6_marksOfBacks 1 = .ok (.istore_n 1, 1) := by decide +kernel
theorem dX6_marksOfBacks_2 : decode cX6_marksOfBacks 2 = .ok (.iconst 0, 1) := by decide +kernel
theorem dX6_marksOfBacks_3 : decode cX6_marksOfBacks 3 = .ok (.istore_n 2, 1) := by decide +kernel
theorem dX6_marksOfBacks_4 : decode cX6_marksOfBacks 4 = .ok (.iload_n 2, 1) := by decide +kernel
theorem dX6_marksOfBacks_5 : decode cX6_marksOfBacks 5 = .ok (.bipush 24, 2) := by decide +kernel
theorem dX6_marksOfBacks_7 : decode cX6_marksOfBacks 7 = .ok (.if_icmp .ge 24, 3) := by decide +kernel
theorem dX6_marksOfBacks_10 : decode cX6_marksOfBacks 10 = .ok (.iload_n 1, 1) := by decide +kernel
theorem dX6_marksOfBacks_11 : decode cX6_marksOfBacks 11 = .ok (.aload_n 0, 1) := by decide +kernel
theorem dX6_marksOfBacks_12 : decode cX6_marksOfBacks 12 = .ok (.getfield 7, 3) := by decide +kernel
theorem dX6_marksOfBacks_15 : decode cX6_marksOfBacks 15 = .ok (.bipush 59, 2) := by decide +kernel
theorem dX6_marksOfBacks_17 : decode cX6_marksOfBacks 17 = .ok (.iload_n 2, 1) := by decide +kernel
theorem dX6_marksOfBacks_18 : decode cX6_marksOfBacks 18 = .ok (.iadd, 1) := by decide +kernel
theorem dX6_marksOfBacks_19 : decode cX6_marksOfBacks 19 = .ok (.iaload, 1) := by decide +kernel
theorem dX6_marksOfBacks_20 : decode cX6_marksOfBacks 20 = .ok (.invokestatic 171, 3) := by decide +kernel
theorem dX6_marksOfBacks_23 : decode cX6_marksOfBacks 23 = .ok (.iadd, 1) := by decide +kernel
theorem dX6_marksOfBacks_24 : decode cX6_marksOfBacks 24 = .ok (.istore_n 1, 1) := by decide +kernel
theorem dX6_marksOfBacks_25 : decode cX6_marksOfBacks 25 = .ok (.iinc 2 1, 3) := by decide +kernel
theorem dX6_marksOfBacks_28 : decode cX6_marksOfBacks 28 = .ok (.goto (-24), 3) := by decide +kernel
theorem dX6_marksOfBacks_31 : decode cX6_marksOfBacks 31 = .ok (.iload_n 1, 1) := by decide +kernel
theorem dX6_marksOfBacks_32 : decode cX6_marksOfBacks 32 = .ok (.ireturn, 1) := by decide +kernel
theorem dX6_count_0 : decode cX6_count 0 = .ok (.iload_n 1, 1) := by decide +kernel
theorem dX6_count_1 : decode cX6_count 1 = .ok (.tableswitch 200 0 17 #[87, 94, 101, 109, 117, 143, 148, 153, 153, 153, 166, 171, 178, 183, 188, 188, 188, 188], 87) := by decide +kernel
theorem dX6_count_88 : decode cX6_count 88 = .ok (.aload_n 0, 1) := by decide +kernel
theorem dX6_count_89 : decode cX6_count 89 = .ok (.getfield 7, 3) := by decide +kernel
theorem dX6_count_92 : decode cX6_count 92 = .ok (.iconst 5, 1) := by decide +kernel
theorem dX6_count_93 : decode cX6_count 93 = .ok (.iaload, 1) := by decide +kernel
theorem dX6_count_94 : decode cX6_count 94 = .ok (.ireturn, 1) := by decide +kernel
theorem dX6_count_95 : decode cX6_count 95 = .ok (.aload_n 0, 1) := by decide +kernel
theorem dX6_count_96 : decode cX6_count 96 = .ok (.getfield 7, 3) := by decide +kernel
theorem dX6_count_99 : decode cX6_count 99 = .ok (.iconst 4, 1) := by decide +kernel
theorem dX6_count_100 : decode cX6_count 100 = .ok (.iaload, 1) := by decide +kernel
theorem dX6_count_101 : decode cX6_count 101 = .ok (.ireturn, 1) := by decide +kernel
theorem dX6_count_102 : decode cX6_count 102 = .ok (.aload_n 0, 1) := by decide +kernel
theorem dX6_count_103 : decode cX6_count 103 = .ok (.getfield 7, 3) := by decide +kernel
theorem dX6_count_106 : decode cX6_count 106 = .ok (.bipush 6, 2) := by decide +kernel
theorem dX6_count_108 : decode cX6_count 108 = .ok (.iaload, 1) := by decide +kernel
theorem dX6_count_109 : decode cX6_count 109 = .ok (.ireturn, 1) := by decide +kernel
theorem dX6_count_110 : decode cX6_count 110 = .ok (.aload_n 0, 1) := by decide +kernel
theorem dX6_count_111 : decode cX6_count 111 = .ok (.getfield 7, 3) := by decide +kernel
theorem dX6_count_114 : decode cX6_count 114 = .ok (.bipush 7, 2) := by decide +kernel
theorem dX6_count_116 : decode cX6_count 116 = .ok (.iaload, 1) := by decide +kernel
theorem dX6_count_117 : decode cX6_count 117 = .ok (.ireturn, 1) := by decide +kernel
theorem dX6_count_118 : decode cX6_count 118 = .ok (.aload_n 0, 1) := by decide +kernel
theorem dX6_count_119 : decode cX6_count 119 = .ok (.getfield 7, 3) := by decide +kernel
theorem dX6_count_122 : decode cX6_count 122 = .ok (.bipush 6, 2) := by decide +kernel
theorem dX6_count_124 : decode cX6_count 124 = .ok (.iaload, 1) := by decide +kernel
theorem dX6_count_125 : decode cX6_count 125 = .ok (.iconst 1, 1) := by decide +kernel
theorem dX6_count_126 : decode cX6_count 126 = .ok (.if_icmp .ne 16, 3) := by decide +kernel
theorem dX6_count_129 : decode cX6_count 129 = .ok (.bipush 24, 2) := by decide +kernel
theorem dX6_count_131 : decode cX6_count 131 = .ok (.aload_n 0, 1) := by decide +kernel
theorem dX6_count_132 : decode cX6_count 132 = .ok (.getfield 7, 3) := by decide +kernel
theorem dX6_count_135 : decode cX6_count 135 = .ok (.bipush 7, 2) := by decide +kernel
theorem dX6_count_137 : decode cX6_count 137 = .ok (.iaload, 1) := by decide +kernel
theorem dX6_count_138 : decode cX6_count 138 = .ok (.isub, 1) := by decide +kernel
theorem dX6_count_139 : decode cX6_count 139 = .ok (.goto 4, 3) := by decide +kernel
theorem dX6_count_142 : decode cX6_count 142 = .ok (.iconst 0, 1) := by decide +kernel
theorem dX6_count_143 : decode cX6_count 143 = .ok (.ireturn, 1) := by decide +kernel
theorem dX6_count_144 : decode cX6_count 144 = .ok (.aload_n 0, 1) := by decide +kernel
theorem dX6_count_145 : decode cX6_count 145 = .ok (.invokevirtual 116, 3) := by decide +kernel
theorem dX6_count_148 : decode cX6_count 148 = .ok (.ireturn, 1) := by decide +kernel
theorem dX6_count_149 : decode cX6_count 149 = .ok (.aload_n 0, 1) := by decide +kernel
theorem dX6_count_150 : decode cX6_count 150 = .ok (.invokevirtual 174, 3) := by decide +kernel
theorem dX6_count_153 : decode cX6_count 153 = .ok (.ireturn, 1) := by decide +kernel
theorem dX6_count_154 : decode cX6_count 154 = .ok (.aload_n 0, 1) := by decide +kernel
theorem dX6_count_155 : decode cX6_count 155 = .ok (.getfield 7, 3) := by decide +kernel
theorem dX6_count_158 : decode cX6_count 158 = .ok (.bipush 8, 2) := by decide +kernel
theorem dX6_count_160 : decode cX6_count 160 = .ok (.iload_n 1, 1) := by decide +kernel
theorem dX6_count_161 : decode cX6_count 161 = .ok (.iadd, 1) := by decide +kernel
theorem dX6_count_162 : decode cX6_count 162 = .ok (.bipush 7, 2) := by decide +kernel
theorem dX6_count_164 : decode cX6_count 164 = .ok (.isub, 1) := by decide +kernel
theorem dX6_count_165 : decode cX6_count 165 = .ok (.iaload, 1) := by decide +kernel
theorem dX6_count_166 : decode cX6_count 166 = .ok (.ireturn, 1) := by decide +kernel
theorem dX6_count_167 : decode cX6_count 167 = .ok (.aload_n 0, 1) := by decide +kernel
theorem dX6_count_168 : decode cX6_count 168 = .ok (.invokevirtual 177, 3) := by decide +kernel
theorem dX6_count_171 : decode cX6_count 171 = .ok (.ireturn, 1) := by decide +kernel
theorem dX6_count_172 : decode cX6_count 172 = .ok (.aload_n 0, 1) := by decide +kernel
theorem dX6_count_173 : decode cX6_count 173 = .ok (.bipush 35, 2) := by decide +kernel
theorem dX6_count_175 : decode cX6_count 175 = .ok (.invokevirtual 113, 3) := by decide +kernel
theorem dX6_count_178 : decode cX6_count 178 = .ok (.ireturn, 1) := by decide +kernel
theorem dX6_count_179 : decode cX6_count 179 = .ok (.aload_n 0, 1) := by decide +kernel
theorem dX6_count_180 : decode cX6_count 180 = .ok (.getfield 35, 3) := by decide +kernel
theorem dX6_count_183 : decode cX6_count 183 = .ok (.ireturn, 1) := by decide +kernel
theorem dX6_count_184 : decode cX6_count 184 = .ok (.aload_n 0, 1) := by decide +kernel
theorem dX6_count_185 : decode cX6_count 185 = .ok (.getfield 125, 3) := by decide +kernel
theorem dX6_count_188 : decode cX6_count 188 = .ok (.ireturn, 1) := by decide +kernel
theorem dX6_count_189 : decode cX6_count 189 = .ok (.aload_n 0, 1) := by decide +kernel
theorem dX6_count_190 : decode cX6_count 190 = .ok (.getfield 7, 3) := by decide +kernel
theorem dX6_count_193 : decode cX6_count 193 = .ok (.iconst 0, 1) := by decide +kernel
theorem dX6_count_194 : decode cX6_count 194 = .ok (.iload_n 1, 1) := by decide +kernel
theorem dX6_count_195 : decode cX6_count 195 = .ok (.iadd, 1) := by decide +kernel
theorem dX6_count_196 : decode cX6_count 196 = .ok (.bipush 14, 2) := by decide +kernel
theorem dX6_count_198 : decode cX6_count 198 = .ok (.isub, 1) := by decide +kernel
theorem dX6_count_199 : decode cX6_count 199 = .ok (.iaload, 1) := by decide +kernel
theorem dX6_count_200 : decode cX6_count 200 = .ok (.ireturn, 1) := by decide +kernel
theorem dX6_count_201 : decode cX6_count 201 = .ok (.bipush (-2), 2) := by decide +kernel
theorem dX6_count_203 : decode cX6_count 203 = .ok (.ireturn, 1) := by decide +kernel
theorem dX6_why_0 : decode cX6_why 0 = .ok (.aload_n 0, 1) := by decide +kernel
theorem dX6_why_1 : decode cX6_why 1 = .ok (.getfield 7, 3) := by decide +kernel
theorem dX6_why_4 : decode cX6_why 4 = .ok (.bipush 6, 2) := by decide +kernel
theorem dX6_why_6 : decode cX6_why 6 = .ok (.iaload, 1) := by decide +kernel
theorem dX6_why_7 : decode cX6_why 7 = .ok (.iconst 1, 1) := by decide +kernel
theorem dX6_why_8 : decode cX6_why 8 = .ok (.if_icmp .ne 10, 3) := by decide +kernel
theorem dX6_why_11 : decode cX6_why 11 = .ok (.aload_n 0, 1) := by decide +kernel
theorem dX6_why_12 : decode cX6_why 12 = .ok (.invokevirtual 119, 3) := by decide +kernel
theorem dX6_why_15 : decode cX6_why 15 = .ok (.goto 5, 3) := by decide +kernel
theorem dX6_why_18 : decode cX6_why 18 = .ok (.bipush (-4), 2) := by decide +kernel
theorem dX6_why_20 : decode cX6_why 20 = .ok (.ireturn, 1) := by decide +kernel
theorem dX6_chances_0 : decode cX6_chances 0 = .ok (.aload_n 0, 1) := by decide +kernel
theorem dX6_chances_1 : decode cX6_chances 1 = .ok (.getfield 7, 3) := by decide +kernel
theorem dX6_chances_4 : decode cX6_chances 4 = .ok (.bipush 6, 2) := by decide +kernel
theorem dX6_chances_6 : decode cX6_chances 6 = .ok (.iaload, 1) := by decide +kernel
theorem dX6_chances_7 : decode cX6_chances 7 = .ok (.ifCond .ne 6, 3) := by decide +kernel
theorem dX6_chances_10 : decode cX6_chances 10 = .ok (.ldc 180, 2) := by decide +kernel
theorem dX6_chances_12 : decode cX6_chances 12 = .ok (.freturn, 1) := by decide +kernel
theorem dX6_chances_13 : decode cX6_chances 13 = .ok (.fconst 0, 1) := by decide +kernel
theorem dX6_chances_14 : decode cX6_chances 14 = .ok (.fstore_n 1, 1) := by decide +kernel
theorem dX6_chances_15 : decode cX6_chances 15 = .ok (.iconst 0, 1) := by decide +kernel
theorem dX6_chances_16 : decode cX6_chances 16 = .ok (.istore_n 2, 1) := by decide +kernel
theorem dX6_chances_17 : decode cX6_chances 17 = .ok (.iload_n 2, 1) := by decide +kernel
theorem dX6_chances_18 : decode cX6_chances 18 = .ok (.aload_n 0, 1) := by decide +kernel
theorem dX6_chances_19 : decode cX6_chances 19 = .ok (.getfield 7, 3) := by decide +kernel
theorem dX6_chances_22 : decode cX6_chances 22 = .ok (.bipush 7, 2) := by decide +kernel
theorem dX6_chances_24 : decode cX6_chances 24 = .ok (.iaload, 1) := by decide +kernel
theorem dX6_chances_25 : decode cX6_chances 25 = .ok (.if_icmp .ge 24, 3) := by decide +kernel
theorem dX6_chances_28 : decode cX6_chances 28 = .ok (.fload_n 1, 1) := by decide +kernel
theorem dX6_chances_29 : decode cX6_chances 29 = .ok (.fconst 1, 1) := by decide +kernel
theorem dX6_chances_30 : decode cX6_chances 30 = .ok (.aload_n 0, 1) := by decide +kernel
theorem dX6_chances_31 : decode cX6_chances 31 = .ok (.aload_n 0, 1) := by decide +kernel
theorem dX6_chances_32 : decode cX6_chances 32 = .ok (.iload_n 2, 1) := by decide +kernel
theorem dX6_chances_33 : decode cX6_chances 33 = .ok (.invokevirtual 101, 3) := by decide +kernel
theorem dX6_chances_36 : decode cX6_chances 36 = .ok (.invokevirtual 104, 3) := by decide +kernel
theorem dX6_chances_39 : decode cX6_chances 39 = .ok (.i2f, 1) := by decide +kernel
theorem dX6_chances_40 : decode cX6_chances 40 = .ok (.fdiv, 1) := by decide +kernel
theorem dX6_chances_41 : decode cX6_chances 41 = .ok (.fadd, 1) := by decide +kernel
theorem dX6_chances_42 : decode cX6_chances 42 = .ok (.fstore_n 1, 1) := by decide +kernel
theorem dX6_chances_43 : decode cX6_chances 43 = .ok (.iinc 2 1, 3) := by decide +kernel
theorem dX6_chances_46 : decode cX6_chances 46 = .ok (.goto (-29), 3) := by decide +kernel
theorem dX6_chances_49 : decode cX6_chances 49 = .ok (.fload_n 1, 1) := by decide +kernel
theorem dX6_chances_50 : decode cX6_chances 50 = .ok (.freturn, 1) := by decide +kernel
theorem dX6_single_0 : decode cX6_single 0 = .ok (.iconst 0, 1) := by decide +kernel
theorem dX6_single_1 : decode cX6_single 1 = .ok (.istore_n 1, 1) := by decide +kernel
theorem dX6_single_2 : decode cX6_single 2 = .ok (.iconst 0, 1) := by decide +kernel
theorem dX6_single_3 : decode cX6_single 3 = .ok (.istore_n 2, 1) := by decide +kernel
theorem dX6_single_4 : decode cX6_single 4 = .ok (.iload_n 2, 1) := by decide +kernel
theorem dX6_single_5 : decode cX6_single 5 = .ok (.bipush 24, 2) := by decide +kernel
theorem dX6_single_7 : decode cX6_single 7 = .ok (.if_icmp .ge 64, 3) := by decide +kernel
theorem dX6_single_10 : decode cX6_single 10 = .ok (.iconst 0, 1) := by decide +kernel
theorem dX6_single_11 : decode cX6_single 11 = .ok (.istore_n 3, 1) := by decide +kernel
theorem dX6_single_12 : decode cX6_single 12 = .ok (.iconst 0, 1) := by decide +kernel
theorem dX6_single_13 : decode cX6_single 13 = .ok (.istore 4, 2) := by decide +kernel
theorem dX6_single_15 : decode cX6_single 15 = .ok (.iload 4, 2) := by decide +kernel
theorem dX6_single_17 : decode cX6_single 17 = .ok (.bipush 24, 2) := by decide +kernel
theorem dX6_single_19 : decode cX6_single 19 = .ok (.if_icmp .ge 33, 3) := by decide +kernel
theorem dX6_single_22 : decode cX6_single 22 = .ok (.iload_n 3, 1) := by decide +kernel
theorem dX6_single_23 : decode cX6_single 23 = .ok (.aload_n 0, 1) := by decide +kernel
theorem dX6_single_24 : decode cX6_single 24 = .ok (.getfield 28, 3) := by decide +kernel
theorem dX6_single_27 : decode cX6_single 27 = .ok (.iload_n 2, 1) := by decide +kernel
theorem dX6_single_28 : decode cX6_single 28 = .ok (.iaload, 1) := by decide +kernel
theorem dX6_single_29 : decode cX6_single 29 = .ok (.aload_n 0, 1) := by decide +kernel
theorem dX6_single_30 : decode cX6_single 30 = .ok (.getfield 28, 3) := by decide +kernel
theorem dX6_single_33 : decode cX6_single 33 = .ok (.iload 4, 2) := by decide +kernel
theorem dX6_single_35 : decode cX6_single 35 = .ok (.iaload, 1) := by decide +kernel
theorem dX6_single_36 : decode cX6_single 36 = .ok (.if_icmp .ne 7, 3) := by decide +kernel
theorem dX6_single_39 : decode cX6_single 39 = .ok (.iconst 1, 1) := by decide +kernel
theorem dX6_single_40 : decode cX6_single 40 = .ok (.goto 4, 3) := by decide +kernel
theorem dX6_single_43 : decode cX6_single 43 = .ok (.iconst 0, 1) := by decide +kernel
theorem dX6_single_44 : decode cX6_single 44 = .ok (.iadd, 1) := by decide +kernel
theorem dX6_single_45 : decode cX6_single 45 = .ok (.istore_n 3, 1) := by decide +kernel
theorem dX6_single_46 : decode cX6_single 46 = .ok (.iinc 4 1, 3) := by decide +kernel
theorem dX6_single_49 : decode cX6_single 49 = .ok (.goto (-34), 3) := by decide +kernel
theorem dX6_single_52 : decode cX6_single 52 = .ok (.iload_n 1, 1) := by decide +kernel
theorem dX6_single_53 : decode cX6_single 53 = .ok (.iload_n 3, 1) := by decide +kernel
theorem dX6_single_54 : decode cX6_single 54 = .ok (.iconst 1, 1) := by decide +kernel
theorem dX6_single_55 : decode cX6_single 55 = .ok (.if_icmp .ne 7, 3) := by decide +kernel
theorem dX6_single_58 : decode cX6_single 58 = .ok (.iconst 1, 1) := by decide +kernel
theorem dX6_single_59 : decode cX6_single 59 = .ok (.goto 4, 3) := by decide +kernel
theorem dX6_single_62 : decode cX6_single 62 = .ok (.iconst 0, 1) := by decide +kernel
theorem dX6_single_63 : decode cX6_single 63 = .ok (.iadd, 1) := by decide +kernel
theorem dX6_single_64 : decode cX6_single 64 = .ok (.istore_n 1, 1) := by decide +kernel
theorem dX6_single_65 : decode cX6_single 65 = .ok (.iinc 2 1, 3) := by decide +kernel
theorem dX6_single_68 : decode cX6_single 68 = .ok (.goto (-64), 3) := by decide +kernel
theorem dX6_single_71 : decode cX6_single 71 = .ok (.iload_n 1, 1) := by decide +kernel
theorem dX6_single_72 : decode cX6_single 72 = .ok (.ireturn, 1) := by decide +kernel
theorem dX6_see_0 : decode cX6_see 0 = .ok (.iconst 0, 1) := by decide +kernel
theorem dX6_see_1 : decode cX6_see 1 = .ok (.istore_n 2, 1) := by decide +kernel
theorem dX6_see_2 : decode cX6_see 2 = .ok (.iload_n 2, 1) := by decide +kernel
theorem dX6_see_3 : decode cX6_see 3 = .ok (.bipush 24, 2) := by decide +kernel
theorem dX6_see_5 : decode cX6_see 5 = .ok (.if_icmp .ge 21, 3) := by decide +kernel
theorem dX6_see_8 : decode cX6_see 8 = .ok (.aload_n 0, 1) := by decide +kernel
theorem dX6_see_9 : decode cX6_see 9 = .ok (.getfield 28, 3) := by decide +kernel
theorem dX6_see_12 : decode cX6_see 12 = .ok (.iload_n 2, 1) := by decide +kernel
theorem dX6_see_13 : decode cX6_see 13 = .ok (.aload_n 0, 1) := by decide +kernel
theorem dX6_see_14 : decode cX6_see 14 = .ok (.iload_n 2, 1) := by decide +kernel
theorem dX6_see_15 : decode cX6_see 15 = .ok (.iload_n 1, 1) := by decide +kernel
theorem dX6_see_16 : decode cX6_see 16 = .ok (.invokevirtual 84, 3) := by decide +kernel
theorem dX6_see_19 : decode cX6_see 19 = .ok (.iastore, 1) := by decide +kernel
theorem dX6_see_20 : decode cX6_see 20 = .ok (.iinc 2 1, 3) := by decide +kernel
theorem dX6_see_23 : decode cX6_see 23 = .ok (.goto (-21), 3) := by decide +kernel
theorem dX6_see_26 : decode cX6_see 26 = .ok (.return_, 1) := by decide +kernel
theorem dX6_ifPrinted_0 : decode cX6_ifPrinted 0 = .ok (.aload_n 0, 1) := by decide +kernel
theorem dX6_ifPrinted_1 : decode cX6_ifPrinted 1 = .ok (.iload_n 1, 1) := by decide +kernel
theorem dX6_ifPrinted_2 : decode cX6_ifPrinted 2 = .ok (.invokevirtual 181, 3) := by decide +kernel
theorem dX6_ifPrinted_5 : decode cX6_ifPrinted 5 = .ok (.aload_n 0, 1) := by decide +kernel
theorem dX6_ifPrinted_6 : decode cX6_ifPrinted 6 = .ok (.invokevirtual 185, 3) := by decide +kernel
theorem dX6_ifPrinted_9 : decode cX6_ifPrinted 9 = .ok (.ireturn, 1) := by decide +kernel
theorem dX6_worstFlaw_0 : decode cX6_worstFlaw 0 = .ok (.iload_n 1, 1) := by decide +kernel
theorem dX6_worstFlaw_1 : decode cX6_worstFlaw 1 = .ok (.iconst 0, 1) := by decide +kernel
theorem dX6_worstFlaw_2 : decode cX6_worstFlaw 2 = .ok (.iconst 1, 1) := by decide +kernel
theorem dX6_worstFlaw_3 : decode cX6_worstFlaw 3 = .ok (.invokestatic 31, 3) := by decide +kernel
theorem dX6_worstFlaw_6 : decode cX6_worstFlaw 6 = .ok (.ifCond .ne 6, 3) := by decide +kernel
theorem dX6_worstFlaw_9 : decode cX6_worstFlaw 9 = .ok (.bipush (-2), 2) := by decide +kernel
theorem dX6_worstFlaw_11 : decode cX6_worstFlaw 11 = .ok (.ireturn, 1) := by decide +kernel
theorem dX6_worstFlaw_12 : decode cX6_worstFlaw 12 = .ok (.bipush (-5), 2) := by decide +kernel
theorem dX6_worstFlaw_14 : decode cX6_worstFlaw 14 = .ok (.istore_n 2, 1) := by decide +kernel
theorem dX6_worstFlaw_15 : decode cX6_worstFlaw 15 = .ok (.iconst 0, 1) := by decide +kernel
theorem dX6_worstFlaw_16 : decode cX6_worstFlaw 16 = .ok (.istore_n 3, 1) := by decide +kernel
theorem dX6_worstFlaw_17 : decode cX6_worstFlaw 17 = .ok (.iconst 0, 1) := by decide +kernel
theorem dX6_worstFlaw_18 : decode cX6_worstFlaw 18 = .ok (.istore 4, 2) := by decide +kernel
theorem dX6_worstFlaw_20 : decode cX6_worstFlaw 20 = .ok (.iload 4, 2) := by decide +kernel
theorem dX6_worstFlaw_22 : decode cX6_worstFlaw 22 = .ok (.bipush 24, 2) := by decide +kernel
theorem dX6_worstFlaw_24 : decode cX6_worstFlaw 24 = .ok (.if_icmp .ge 69, 3) := by decide +kernel
theorem dX6_worstFlaw_27 : decode cX6_worstFlaw 27 = .ok (.aload_n 0, 1) := by decide +kernel
theorem dX6_worstFlaw_28 : decode cX6_worstFlaw 28 = .ok (.iconst 0, 1) := by decide +kernel
theorem dX6_worstFlaw_29 : decode cX6_worstFlaw 29 = .ok (.invokevirtual 181, 3) := by decide +kernel
theorem dX6_worstFlaw_32 : decode cX6_worstFlaw 32 = .ok (.aload_n 0, 1) := by decide +kernel
theorem dX6_worstFlaw_33 : decode cX6_worstFlaw 33 = .ok (.getfield 28, 3) := by decide +kernel
theorem dX6_worstFlaw_36 : decode cX6_worstFlaw 36 = .ok (.iload 4, 2) := by decide +kernel
theorem dX6_worstFlaw_38 : decode cX6_worstFlaw 38 = .ok (.iconst 0, 1) := by decide +kernel
theorem dX6_worstFlaw_39 : decode cX6_worstFlaw 39 = .ok (.iastore, 1) := by decide +kernel
theorem dX6_worstFlaw_40 : decode cX6_worstFlaw 40 = .ok (.iload_n 2, 1) := by decide +kernel
theorem dX6_worstFlaw_41 : decode cX6_worstFlaw 41 = .ok (.bipush (-5), 2) := by decide +kernel
theorem dX6_worstFlaw_43 : decode cX6_worstFlaw 43 = .ok (.if_icmp .eq 11, 3) := by decide +kernel
theorem dX6_worstFlaw_46 : decode cX6_worstFlaw 46 = .ok (.aload_n 0, 1) := by decide +kernel
theorem dX6_worstFlaw_47 : decode cX6_worstFlaw 47 = .ok (.invokevirtual 185, 3) := by decide +kernel
theorem dX6_worstFlaw_50 : decode cX6_worstFlaw 50 = .ok (.iload_n 3, 1) := by decide +kernel
theorem dX6_worstFlaw_51 : decode cX6_worstFlaw 51 = .ok (.if_icmp .ge 7, 3) := by decide +kernel
theorem dX6_worstFlaw_54 : decode cX6_worstFlaw 54 = .ok (.iconst 1, 1) := by decide +kernel
theorem dX6_worstFlaw_55 : decode cX6_worstFlaw 55 = .ok (.goto 4, 3) := by decide +kernel
theorem dX6_worstFlaw_58 : decode cX6_worstFlaw 58 = .ok (.iconst 0, 1) := by decide +kernel
theorem dX6_worstFlaw_59 : decode cX6_worstFlaw 59 = .ok (.istore 5, 2) := by decide +kernel
theorem dX6_worstFlaw_61 : decode cX6_worstFlaw 61 = .ok (.iload 5, 2) := by decide +kernel
theorem dX6_worstFlaw_63 : decode cX6_worstFlaw 63 = .ok (.ifCond .eq 8, 3) := by decide +kernel
theorem dX6_worstFlaw_66 : decode cX6_worstFlaw 66 = .ok (.iload 4, 2) := by decide +kernel
theorem dX6_worstFlaw_68 : decode cX6_worstFlaw 68 = .ok (.goto 4, 3) := by decide +kernel
theorem dX6_worstFlaw_71 : decode cX6_worstFlaw 71 = .ok (.iload_n 2, 1) := by decide +kernel
theorem dX6_worstFlaw_72 : decode cX6_worstFlaw 72 = .ok (.istore_n 2, 1) := by decide +kernel
theorem dX6_worstFlaw_73 : decode cX6_worstFlaw 73 = .ok (.iload 5, 2) := by decide +kernel
theorem dX6_worstFlaw_75 : decode cX6_worstFlaw 75 = .ok (.ifCond .eq 10, 3) := by decide +kernel
theorem dX6_worstFlaw_78 : decode cX6_worstFlaw 78 = .ok (.aload_n 0, 1) := by decide +kernel
theorem dX6_worstFlaw_79 : decode cX6_worstFlaw 79 = .ok (.invokevirtual 185, 3) := by decide +kernel
theorem dX6_worstFlaw_82 : decode cX6_worstFlaw 82 = .ok (.goto 4, 3) := by decide +kernel
theorem dX6_worstFlaw_85 : decode cX6_worstFlaw 85 = .ok (.iload_n 3, 1) := by decide +kernel
theorem dX6_worstFlaw_86 : decode cX6_worstFlaw 86 = .ok (.istore_n 3, 1) := by decide +kernel
theorem dX6_worstFlaw_87 : decode cX6_worstFlaw 87 = .ok (.iinc 4 1, 3) := by decide +kernel
theorem dX6_worstFlaw_90 : decode cX6_worstFlaw 90 = .ok (.goto (-70), 3) := by decide +kernel
theorem dX6_worstFlaw_93 : decode cX6_worstFlaw 93 = .ok (.iload_n 1, 1) := by decide +kernel
theorem dX6_worstFlaw_94 : decode cX6_worstFlaw 94 = .ok (.ifCond .ne 7, 3) := by decide +kernel
theorem dX6_worstFlaw_97 : decode cX6_worstFlaw 97 = .ok (.iload_n 2, 1) := by decide +kernel
theorem dX6_worstFlaw_98 : decode cX6_worstFlaw 98 = .ok (.goto 4, 3) := by decide +kernel
theorem dX6_worstFlaw_101 : decode cX6_worstFlaw 101 = .ok (.iload_n 3, 1) := by decide +kernel
theorem dX6_worstFlaw_102 : decode cX6_worstFlaw 102 = .ok (.ireturn, 1) := by decide +kernel
theorem dX6_atHome_0 : decode cX6_atHome 0 = .ok (.iconst 0, 1) := by decide +kernel
theorem dX6_atHome_1 : decode cX6_atHome 1 = .ok (.istore_n 2, 1) := by decide +kernel
theorem dX6_atHome_2 : decode cX6_atHome 2 = .ok (.iconst 0, 1) := by decide +kernel
theorem dX6_atHome_3 : decode cX6_atHome 3 = .ok (.istore_n 3, 1) := by decide +kernel
theorem dX6_atHome_4 : decode cX6_atHome 4 = .ok (.iload_n 3, 1) := by decide +kernel
theorem dX6_atHome_5 : decode cX6_atHome 5 = .ok (.bipush 24, 2) := by decide +kernel
theorem dX6_atHome_7 : decode cX6_atHome 7 = .ok (.if_icmp .ge 36, 3) := by decide +kernel
theorem dX6_atHome_10 : decode cX6_atHome 10 = .ok (.iload_n 2, 1) := by decide +kernel
theorem dX6_atHome_11 : decode cX6_atHome 11 = .ok (.aload_n 0, 1) := by decide +kernel
theorem dX6_atHome_12 : decode cX6_atHome 12 = .ok (.getfield 7, 3) := by decide +kernel
theorem dX6_atHome_15 : decode cX6_atHome 15 = .ok (.aload_n 0, 1) := by decide +kernel
theorem dX6_atHome_16 : decode cX6_atHome 16 = .ok (.invokevirtual 80, 3) := by decide +kernel
theorem dX6_atHome_19 : decode cX6_atHome 19 = .ok (.iload_n 3, 1) := by decide +kernel
theorem dX6_atHome_20 : decode cX6_atHome 20 = .ok (.iload_n 1, 1) := by decide +kernel
theorem dX6_atHome_21 : decode cX6_atHome 21 = .ok (.invokestatic 88, 3) := by decide +kernel
theorem dX6_atHome_24 : decode cX6_atHome 24 = .ok (.iadd, 1) := by decide +kernel
theorem dX6_atHome_25 : decode cX6_atHome 25 = .ok (.iaload, 1) := by decide +kernel
theorem dX6_atHome_26 : decode cX6_atHome 26 = .ok (.iload_n 3, 1) := by decide +kernel
theorem dX6_atHome_27 : decode cX6_atHome 27 = .ok (.if_icmp .ne 7, 3) := by decide +kernel
theorem dX6_atHome_30 : decode cX6_atHome 30 = .ok (.iconst 1, 1) := by decide +kernel
theorem dX6_atHome_31 : decode cX6_atHome 31 = .ok (.goto 4, 3) := by decide +kernel
theorem dX6_atHome_34 : decode cX6_atHome 34 = .ok (.iconst 0, 1) := by decide +kernel
theorem dX6_atHome_35 : decode cX6_atHome 35 = .ok (.iadd, 1) := by decide +kernel
theorem dX6_atHome_36 : decode cX6_atHome 36 = .ok (.istore_n 2, 1) := by decide +kernel
theorem dX6_atHome_37 : decode cX6_atHome 37 = .ok (.iinc 3 1, 3) := by decide +kernel
theorem dX6_atHome_40 : decode cX6_atHome 40 = .ok (.goto (-36), 3) := by decide +kernel
theorem dX6_atHome_43 : decode cX6_atHome 43 = .ok (.iload_n 2, 1) := by decide +kernel
theorem dX6_atHome_44 : decode cX6_atHome 44 = .ok (.ireturn, 1) := by decide +kernel
theorem dX6_bestWay_0 : decode cX6_bestWay 0 = .ok (.aload_n 0, 1) := by decide +kernel
theorem dX6_bestWay_1 : decode cX6_bestWay 1 = .ok (.getfield 7, 3) := by decide +kernel
theorem dX6_bestWay_4 : decode cX6_bestWay 4 = .ok (.iconst 5, 1) := by decide +kernel
theorem dX6_bestWay_5 : decode cX6_bestWay 5 = .ok (.iaload, 1) := by decide +kernel
theorem dX6_bestWay_6 : decode cX6_bestWay 6 = .ok (.ifCond .ne 6, 3) := by decide +kernel
theorem dX6_bestWay_9 : decode cX6_bestWay 9 = .ok (.bipush (-4), 2) := by decide +kernel
theorem dX6_bestWay_11 : decode cX6_bestWay 11 = .ok (.ireturn, 1) := by decide +kernel
theorem dX6_bestWay_12 : decode cX6_bestWay 12 = .ok (.iconst 0, 1) := by decide +kernel
theorem dX6_bestWay_13 : decode cX6_bestWay 13 = .ok (.istore_n 1, 1) := by decide +kernel
theorem dX6_bestWay_14 : decode cX6_bestWay 14 = .ok (.iconst 1, 1) := by decide +kernel
theorem dX6_bestWay_15 : decode cX6_bestWay 15 = .ok (.istore_n 2, 1) := by decide +kernel
theorem dX6_bestWay_16 : decode cX6_bestWay 16 = .ok (.iload_n 2, 1) := by decide +kernel
theorem dX6_bestWay_17 : decode cX6_bestWay 17 = .ok (.iconst 4, 1) := by decide +kernel
theorem dX6_bestWay_18 : decode cX6_bestWay 18 = .ok (.if_icmp .ge 28, 3) := by decide +kernel
theorem dX6_bestWay_21 : decode cX6_bestWay 21 = .ok (.aload_n 0, 1) := by decide +kernel
theorem dX6_bestWay_22 : decode cX6_bestWay 22 = .ok (.iload_n 2, 1) := by decide +kernel
theorem dX6_bestWay_23 : decode cX6_bestWay 23 = .ok (.invokevirtual 188, 3) := by decide +kernel
theorem dX6_bestWay_26 : decode cX6_bestWay 26 = .ok (.aload_n 0, 1) := by decide +kernel
theorem dX6_bestWay_27 : decode cX6_bestWay 27 = .ok (.iload_n 1, 1) := by decide +kernel
theorem dX6_bestWay_28 : decode cX6_bestWay 28 = .ok (.invokevirtual 188, 3) := by decide +kernel
theorem dX6_bestWay_31 : decode cX6_bestWay 31 = .ok (.if_icmp .ge 7, 3) := by decide +kernel
theorem dX6_bestWay_34 : decode cX6_bestWay 34 = .ok (.iload_n 2, 1) := by decide +kernel
theorem dX6_bestWay_35 : decode cX6_bestWay 35 = .ok (.goto 4, 3) := by decide +kernel
theorem dX6_bestWay_38 : decode cX6_bestWay 38 = .ok (.iload_n 1, 1) := by decide +kernel
theorem dX6_bestWay_39 : decode cX6_bestWay 39 = .ok (.istore_n 1, 1) := by decide +kernel
theorem dX6_bestWay_40 : decode cX6_bestWay 40 = .ok (.iinc 2 1, 3) := by decide +kernel
theorem dX6_bestWay_43 : decode cX6_bestWay 43 = .ok (.goto (-27), 3) := by decide +kernel
theorem dX6_bestWay_46 : decode cX6_bestWay 46 = .ok (.iload_n 1, 1) := by decide +kernel
theorem dX6_bestWay_47 : decode cX6_bestWay 47 = .ok (.ireturn, 1) := by decide +kernel
theorem dX6_comesBack_0 : decode cX6_comesBack 0 = .ok (.iconst 0, 1) := by decide +kernel
theorem dX6_comesBack_1 : decode cX6_comesBack 1 = .ok (.istore_n 2, 1) := by decide +kernel
theorem dX6_comesBack_2 : decode cX6_comesBack 2 = .ok (.iload_n 2, 1) := by decide +kernel
theorem dX6_comesBack_3 : decode cX6_comesBack 3 = .ok (.aload_n 0, 1) := by decide +kernel
theorem dX6_comesBack_4 : decode cX6_comesBack 4 = .ok (.getfield 7, 3) := by decide +kernel
theorem dX6_comesBack_7 : decode cX6_comesBack 7 = .ok (.bipush 7, 2) := by decide +kernel
theorem dX6_comesBack_9 : decode cX6_comesBack 9 = .ok (.iaload, 1) := by decide +kernel
theorem dX6_comesBack_10 : decode cX6_comesBack 10 = .ok (.if_icmp .ge 26, 3) := by decide +kernel
theorem dX6_comesBack_13 : decode cX6_comesBack 13 = .ok (.aload_n 0, 1) := by decide +kernel
theorem dX6_comesBack_14 : decode cX6_comesBack 14 = .ok (.getfield 28, 3) := by decide +kernel
theorem dX6_comesBack_17 : decode cX6_comesBack 17 = .ok (.iload_n 2, 1) := by decide +kernel
theorem dX6_comesBack_18 : decode cX6_comesBack 18 = .ok (.aload_n 0, 1) := by decide +kernel
theorem dX6_comesBack_19 : decode cX6_comesBack 19 = .ok (.getfield 25, 3) := by decide +kernel
theorem dX6_comesBack_22 : decode cX6_comesBack 22 = .ok (.aload_n 0, 1) := by decide +kernel
theorem dX6_comesBack_23 : decode cX6_comesBack 23 = .ok (.iload_n 2, 1) := by decide +kernel
theorem dX6_comesBack_24 : decode cX6_comesBack 24 = .ok (.iload_n 1, 1) := by decide +kernel
theorem dX6_comesBack_25 : decode cX6_comesBack 25 = .ok (.invokevirtual 98, 3) := by decide +kernel
theorem dX6_comesBack_28 : decode cX6_comesBack 28 = .ok (.iaload, 1) := by decide +kernel
theorem dX6_comesBack_29 : decode cX6_comesBack 29 = .ok (.iastore, 1) := by decide +kernel
theorem dX6_comesBack_30 : decode cX6_comesBack 30 = .ok (.iinc 2 1, 3) := by decide +kernel
theorem dX6_comesBack_33 : decode cX6_comesBack 33 = .ok (.goto (-31), 3) := by decide +kernel
theorem dX6_comesBack_36 : decode cX6_comesBack 36 = .ok (.iconst 1, 1) := by decide +kernel
theorem dX6_comesBack_37 : decode cX6_comesBack 37 = .ok (.istore_n 2, 1) := by decide +kernel
theorem dX6_comesBack_38 : decode cX6_comesBack 38 = .ok (.iconst 0, 1) := by decide +kernel
theorem dX6_comesBack_39 : decode cX6_comesBack 39 = .ok (.istore_n 3, 1) := by decide +kernel
theorem dX6_comesBack_40 : decode cX6_comesBack 40 = .ok (.iload_n 3, 1) := by decide +kernel
theorem dX6_comesBack_41 : decode cX6_comesBack 41 = .ok (.aload_n 0, 1) := by decide +kernel
theorem dX6_comesBack_42 : decode cX6_comesBack 42 = .ok (.getfield 7, 3) := by decide +kernel
theorem dX6_comesBack_45 : decode cX6_comesBack 45 = .ok (.bipush 7, 2) := by decide +kernel
theorem dX6_comesBack_47 : decode cX6_comesBack 47 = .ok (.iaload, 1) := by decide +kernel
theorem dX6_comesBack_48 : decode cX6_comesBack 48 = .ok (.if_icmp .ge 41, 3) := by decide +kernel
theorem dX6_comesBack_51 : decode cX6_comesBack 51 = .ok (.aload_n 0, 1) := by decide +kernel
theorem dX6_comesBack_52 : decode cX6_comesBack 52 = .ok (.getfield 25, 3) := by decide +kernel
theorem dX6_comesBack_55 : decode cX6_comesBack 55 = .ok (.iload_n 3, 1) := by decide +kernel
theorem dX6_comesBack_56 : decode cX6_comesBack 56 = .ok (.aload_n 0, 1) := by decide +kernel
theorem dX6_comesBack_57 : decode cX6_comesBack 57 = .ok (.getfield 28, 3) := by decide +kernel
theorem dX6_comesBack_60 : decode cX6_comesBack 60 = .ok (.iload_n 3, 1) := by decide +kernel
theorem dX6_comesBack_61 : decode cX6_comesBack 61 = .ok (.iaload, 1) := by decide +kernel
theorem dX6_comesBack_62 : decode cX6_comesBack 62 = .ok (.iastore, 1) := by decide +kernel
theorem dX6_comesBack_63 : decode cX6_comesBack 63 = .ok (.iload_n 2, 1) := by decide +kernel
theorem dX6_comesBack_64 : decode cX6_comesBack 64 = .ok (.ifCond .eq 17, 3) := by decide +kernel
theorem dX6_comesBack_67 : decode cX6_comesBack 67 = .ok (.aload_n 0, 1) := by decide +kernel
theorem dX6_comesBack_68 : decode cX6_comesBack 68 = .ok (.getfield 25, 3) := by decide +kernel
theorem dX6_comesBack_71 : decode cX6_comesBack 71 = .ok (.iload_n 3, 1) := by decide +kernel
theorem dX6_comesBack_72 : decode cX6_comesBack 72 = .ok (.iaload, 1) := by decide +kernel
theorem dX6_comesBack_73 : decode cX6_comesBack 73 = .ok (.iload_n 3, 1) := by decide +kernel
theorem dX6_comesBack_74 : decode cX6_comesBack 74 = .ok (.if_icmp .ne 7, 3) := by decide +kernel
theorem dX6_comesBack_77 : decode cX6_comesBack 77 = .ok (.iconst 1, 1) := by decide +kernel
theorem dX6_comesBack_78 : decode cX6_comesBack 78 = .ok (.goto 4, 3) := by decide +kernel
theorem dX6_comesBack_81 : decode cX6_comesBack 81 = .ok (.iconst 0, 1) := by decide +kernel
theorem dX6_comesBack_82 : decode cX6_comesBack 82 = .ok (.istore_n 2, 1) := by decide +kernel
theorem dX6_comesBack_83 : decode cX6_comesBack 83 = .ok (.iinc 3 1, 3) := by decide +kernel
theorem dX6_comesBack_86 : decode cX6_comesBack 86 = .ok (.goto (-46), 3) := by decide +kernel
theorem dX6_comesBack_89 : decode cX6_comesBack 89 = .ok (.iload_n 2, 1) := by decide +kernel
theorem dX6_comesBack_90 : decode cX6_comesBack 90 = .ok (.ireturn, 1) := by decide +kernel
theorem dX6_backIn_0 : decode cX6_backIn 0 = .ok (.aload_n 0, 1) := by decide +kernel
theorem dX6_backIn_1 : decode cX6_backIn 1 = .ok (.getfield 7, 3) := by decide +kernel
theorem dX6_backIn_4 : decode cX6_backIn 4 = .ok (.bipush 6, 2) := by decide +kernel
theorem dX6_backIn_6 : decode cX6_backIn 6 = .ok (.iaload, 1) := by decide +kernel
theorem dX6_backIn_7 : decode cX6_backIn 7 = .ok (.ifCond .ne 6, 3) := by decide +kernel
theorem dX6_backIn_10 : decode cX6_backIn 10 = .ok (.bipush (-4), 2) := by decide +kernel
theorem dX6_backIn_12 : decode cX6_backIn 12 = .ok (.ireturn, 1) := by decide +kernel
theorem dX6_backIn_13 : decode cX6_backIn 13 = .ok (.aload_n 0, 1) := by decide +kernel
theorem dX6_backIn_14 : decode cX6_backIn 14 = .ok (.iload_n 1, 1) := by decide +kernel
theorem dX6_backIn_15 : decode cX6_backIn 15 = .ok (.invokevirtual 92, 3) := by decide +kernel
theorem dX6_backIn_18 : decode cX6_backIn 18 = .ok (.ifCond .ne 6, 3) := by decide +kernel
theorem dX6_backIn_21 : decode cX6_backIn 21 = .ok (.bipush (-2), 2) := by decide +kernel
theorem dX6_backIn_23 : decode cX6_backIn 23 = .ok (.ireturn, 1) := by decide +kernel
theorem dX6_backIn_24 : decode cX6_backIn 24 = .ok (.iconst 0, 1) := by decide +kernel
theorem dX6_backIn_25 : decode cX6_backIn 25 = .ok (.istore_n 2, 1) := by decide +kernel
theorem dX6_backIn_26 : decode cX6_backIn 26 = .ok (.iload_n 2, 1) := by decide +kernel
theorem dX6_backIn_27 : decode cX6_backIn 27 = .ok (.aload_n 0, 1) := by decide +kernel
theorem dX6_backIn_28 : decode cX6_backIn 28 = .ok (.getfield 7, 3) := by decide +kernel
theorem dX6_backIn_31 : decode cX6_backIn 31 = .ok (.bipush 7, 2) := by decide +kernel
theorem dX6_backIn_33 : decode cX6_backIn 33 = .ok (.iaload, 1) := by decide +kernel
theorem dX6_backIn_34 : decode cX6_backIn 34 = .ok (.if_icmp .ge 16, 3) := by decide +kernel
theorem dX6_backIn_37 : decode cX6_backIn 37 = .ok (.aload_n 0, 1) := by decide +kernel
theorem dX6_backIn_38 : decode cX6_backIn 38 = .ok (.getfield 25, 3) := by decide +kernel
theorem dX6_backIn_41 : decode cX6_backIn 41 = .ok (.iload_n 2, 1) := by decide +kernel
theorem dX6_backIn_42 : decode cX6_backIn 42 = .ok (.iload_n 2, 1) := by decide +kernel
theorem dX6_backIn_43 : decode cX6_backIn 43 = .ok (.iastore, 1) := by decide +kernel
theorem dX6_backIn_44 : decode cX6_backIn 44 = .ok (.iinc 2 1, 3) := by decide +kernel
theorem dX6_backIn_47 : decode cX6_backIn 47 = .ok (.goto (-21), 3) := by decide +kernel
theorem dX6_backIn_50 : decode cX6_backIn 50 = .ok (.iconst 1, 1) := by decide +kernel
theorem dX6_backIn_51 : decode cX6_backIn 51 = .ok (.istore_n 2, 1) := by decide +kernel
theorem dX6_backIn_52 : decode cX6_backIn 52 = .ok (.iload_n 2, 1) := by decide +kernel
theorem dX6_backIn_53 : decode cX6_backIn 53 = .ok (.sipush 500, 3) := by decide +kernel
theorem dX6_backIn_56 : decode cX6_backIn 56 = .ok (.if_icmp .gt 17, 3) := by decide +kernel
theorem dX6_backIn_59 : decode cX6_backIn 59 = .ok (.aload_n 0, 1) := by decide +kernel
theorem dX6_backIn_60 : decode cX6_backIn 60 = .ok (.iload_n 1, 1) := by decide +kernel
theorem dX6_backIn_61 : decode cX6_backIn 61 = .ok (.invokevirtual 191, 3) := by decide +kernel
theorem dX6_backIn_64 : decode cX6_backIn 64 = .ok (.ifCond .ne 9, 3) := by decide +kernel
theorem dX6_backIn_67 : decode cX6_backIn 67 = .ok (.iinc 2 1, 3) := by decide +kernel
theorem dX6_backIn_70 : decode cX6_backIn 70 = .ok (.goto (-18), 3) := by decide +kernel
theorem dX6_backIn_73 : decode cX6_backIn 73 = .ok (.iload_n 2, 1) := by decide +kernel
theorem dX6_backIn_74 : decode cX6_backIn 74 = .ok (.sipush 500, 3) := by decide +kernel
theorem dX6_backIn_77 : decode cX6_backIn 77 = .ok (.if_icmp .le 8, 3) := by decide +kernel
theorem dX6_backIn_80 : decode cX6_backIn 80 = .ok (.bipush (-5), 2) := by decide +kernel
theorem dX6_backIn_82 : decode cX6_backIn 82 = .ok (.goto 4, 3) := by decide +kernel
theorem dX6_backIn_85 : decode cX6_backIn 85 = .ok (.iload_n 2, 1) := by decide +kernel
theorem dX6_backIn_86 : decode cX6_backIn 86 = .ok (.ireturn, 1) := by decide +kernel
theorem dJ6_bitCount_0f7a4_0 : decode cJ6_bitCount_0f7a4 0 = .ok (.iload_n 0, 1) := by decide +kernel
theorem dJ6_bitCount_0f7a4_1 : decode cJ6_bitCount_0f7a4 1 = .ok (.iload_n 0, 1) := by decide +kernel
theorem dJ6_bitCount_0f7a4_2 : decode cJ6_bitCount_0f7a4 2 = .ok (.iconst 1, 1) := by decide +kernel
theorem dJ6_bitCount_0f7a4_3 : decode cJ6_bitCount_0f7a4 3 = .ok (.iushr, 1) := by decide +kernel
theorem dJ6_bitCount_0f7a4_4 : decode cJ6_bitCount_0f7a4 4 = .ok (.ldc_w 265, 3) := by decide +kernel
theorem dJ6_bitCount_0f7a4_7 : decode cJ6_bitCount_0f7a4 7 = .ok (.iand, 1) := by decide +kernel
theorem dJ6_bitCount_0f7a4_8 : decode cJ6_bitCount_0f7a4 8 = .ok (.isub, 1) := by decide +kernel
theorem dJ6_bitCount_0f7a4_9 : decode cJ6_bitCount_0f7a4 9 = .ok (.istore_n 0, 1) := by decide +kernel
theorem dJ6_bitCount_0f7a4_10 : decode cJ6_bitCount_0f7a4 10 = .ok (.iload_n 0, 1) := by decide +kernel
theorem dJ6_bitCount_0f7a4_11 : decode cJ6_bitCount_0f7a4 11 = .ok (.ldc_w 266, 3) := by decide +kernel
theorem dJ6_bitCount_0f7a4_14 : decode cJ6_bitCount_0f7a4 14 = .ok (.iand, 1) := by decide +kernel
theorem dJ6_bitCount_0f7a4_15 : decode cJ6_bitCount_0f7a4 15 = .ok (.iload_n 0, 1) := by decide +kernel
theorem dJ6_bitCount_0f7a4_16 : decode cJ6_bitCount_0f7a4 16 = .ok (.iconst 2, 1) := by decide +kernel
theorem dJ6_bitCount_0f7a4_17 : decode cJ6_bitCount_0f7a4 17 = .ok (.iushr, 1) := by decide +kernel
theorem dJ6_bitCount_0f7a4_18 : decode cJ6_bitCount_0f7a4 18 = .ok (.ldc_w 266, 3) := by decide +kernel
theorem dJ6_bitCount_0f7a4_21 : decode cJ6_bitCount_0f7a4 21 = .ok (.iand, 1) := by decide +kernel
theorem dJ6_bitCount_0f7a4_22 : decode cJ6_bitCount_0f7a4 22 = .ok (.iadd, 1) := by decide +kernel
theorem dJ6_bitCount_0f7a4_23 : decode cJ6_bitCount_0f7a4 23 = .ok (.istore_n 0, 1) := by decide +kernel
theorem dJ6_bitCount_0f7a4_24 : decode cJ6_bitCount_0f7a4 24 = .ok (.iload_n 0, 1) := by decide +kernel
theorem dJ6_bitCount_0f7a4_25 : decode cJ6_bitCount_0f7a4 25 = .ok (.iload_n 0, 1) := by decide +kernel
theorem dJ6_bitCount_0f7a4_26 : decode cJ6_bitCount_0f7a4 26 = .ok (.iconst 4, 1) := by decide +kernel
theorem dJ6_bitCount_0f7a4_27 : decode cJ6_bitCount_0f7a4 27 = .ok (.iushr, 1) := by decide +kernel
theorem dJ6_bitCount_0f7a4_28 : decode cJ6_bitCount_0f7a4 28 = .ok (.iadd, 1) := by decide +kernel
theorem dJ6_bitCount_0f7a4_29 : decode cJ6_bitCount_0f7a4 29 = .ok (.ldc_w 267, 3) := by decide +kernel
theorem dJ6_bitCount_0f7a4_32 : decode cJ6_bitCount_0f7a4 32 = .ok (.iand, 1) := by decide +kernel
theorem dJ6_bitCount_0f7a4_33 : decode cJ6_bitCount_0f7a4 33 = .ok (.istore_n 0, 1) := by decide +kernel
theorem dJ6_bitCount_0f7a4_34 : decode cJ6_bitCount_0f7a4 34 = .ok (.iload_n 0, 1) := by decide +kernel
theorem dJ6_bitCount_0f7a4_35 : decode cJ6_bitCount_0f7a4 35 = .ok (.iload_n 0, 1) := by decide +kernel
theorem dJ6_bitCount_0f7a4_36 : decode cJ6_bitCount_0f7a4 36 = .ok (.bipush 8, 2) := by decide +kernel
theorem dJ6_bitCount_0f7a4_38 : decode cJ6_bitCount_0f7a4 38 = .ok (.iushr, 1) := by decide +kernel
theorem dJ6_bitCount_0f7a4_39 : decode cJ6_bitCount_0f7a4 39 = .ok (.iadd, 1) := by decide +kernel
theorem dJ6_bitCount_0f7a4_40 : decode cJ6_bitCount_0f7a4 40 = .ok (.istore_n 0, 1) := by decide +kernel
theorem dJ6_bitCount_0f7a4_41 : decode cJ6_bitCount_0f7a4 41 = .ok (.iload_n 0, 1) := by decide +kernel
theorem dJ6_bitCount_0f7a4_42 : decode cJ6_bitCount_0f7a4 42 = .ok (.iload_n 0, 1) := by decide +kernel
theorem dJ6_bitCount_0f7a4_43 : decode cJ6_bitCount_0f7a4 43 = .ok (.bipush 16, 2) := by decide +kernel
theorem dJ6_bitCount_0f7a4_45 : decode cJ6_bitCount_0f7a4 45 = .ok (.iushr, 1) := by decide +kernel
theorem dJ6_bitCount_0f7a4_46 : decode cJ6_bitCount_0f7a4 46 = .ok (.iadd, 1) := by decide +kernel
theorem dJ6_bitCount_0f7a4_47 : decode cJ6_bitCount_0f7a4 47 = .ok (.istore_n 0, 1) := by decide +kernel
theorem dJ6_bitCount_0f7a4_48 : decode cJ6_bitCount_0f7a4 48 = .ok (.iload_n 0, 1) := by decide +kernel
theorem dJ6_bitCount_0f7a4_49 : decode cJ6_bitCount_0f7a4 49 = .ok (.bipush 63, 2) := by decide +kernel
theorem dJ6_bitCount_0f7a4_51 : decode cJ6_bitCount_0f7a4 51 = .ok (.iand, 1) := by decide +kernel
theorem dJ6_bitCount_0f7a4_52 : decode cJ6_bitCount_0f7a4 52 = .ok (.ireturn, 1) := by decide +kernel
theorem dJ9_abs_0f7a4_0 : decode cJ9_abs_0f7a4 0 = .ok (.iload_n 0, 1) := by decide +kernel
theorem dJ9_abs_0f7a4_1 : decode cJ9_abs_0f7a4 1 = .ok (.ifCond .ge 8, 3) := by decide +kernel
theorem dJ9_abs_0f7a4_4 : decode cJ9_abs_0f7a4 4 = .ok (.iload_n 0, 1) := by decide +kernel
theorem dJ9_abs_0f7a4_5 : decode cJ9_abs_0f7a4 5 = .ok (.ineg, 1) := by decide +kernel
theorem dJ9_abs_0f7a4_6 : decode cJ9_abs_0f7a4 6 = .ok (.goto 4, 3) := by decide +kernel
theorem dJ9_abs_0f7a4_9 : decode cJ9_abs_0f7a4 9 = .ok (.iload_n 0, 1) := by decide +kernel
theorem dJ9_abs_0f7a4_10 : decode cJ9_abs_0f7a4 10 = .ok (.ireturn, 1) := by decide +kernel
theorem dJ9_min_7cf53_0 : decode cJ9_min_7cf53 0 = .ok (.iload_n 0, 1) := by decide +kernel
theorem dJ9_min_7cf53_1 : decode cJ9_min_7cf53 1 = .ok (.iload_n 1, 1) := by decide +kernel
theorem dJ9_min_7cf53_2 : decode cJ9_min_7cf53 2 = .ok (.if_icmp .gt 7, 3) := by decide +kernel
theorem dJ9_min_7cf53_5 : decode cJ9_min_7cf53 5 = .ok (.iload_n 0, 1) := by decide +kernel
theorem dJ9_min_7cf53_6 : decode cJ9_min_7cf53 6 = .ok (.goto 4, 3) := by decide +kernel
theorem dJ9_min_7cf53_9 : decode cJ9_min_7cf53 9 = .ok (.iload_n 1, 1) := by decide +kernel
theorem dJ9_min_7cf53_10 : decode cJ9_min_7cf53 10 = .ok (.ireturn, 1) := by decide +kernel
theorem dL_law_0 : decode cL_law 0 = .ok (.new 7, 3) := by decide +kernel
theorem dL_law_3 : decode cL_law 3 = .ok (.dup, 1) := by decide +kernel
theorem dL_law_4 : decode cL_law 4 = .ok (.invokespecial 9, 3) := by decide +kernel
theorem dL_law_7 : decode cL_law 7 = .ok (.astore_n 1, 1) := by decide +kernel
theorem dL_law_8 : decode cL_law 8 = .ok (.new 10, 3) := by decide +kernel
theorem dL_law_11 : decode cL_law 11 = .ok (.dup, 1) := by decide +kernel
theorem dL_law_12 : decode cL_law 12 = .ok (.invokespecial 12, 3) := by decide +kernel
theorem dL_law_15 : decode cL_law 15 = .ok (.astore_n 2, 1) := by decide +kernel
theorem dL_law_16 : decode cL_law 16 = .ok (.iconst 0, 1) := by decide +kernel
theorem dL_law_17 : decode cL_law 17 = .ok (.istore_n 3, 1) := by decide +kernel
theorem dL_law_18 : decode cL_law 18 = .ok (.iload_n 3, 1) := by decide +kernel
theorem dL_law_19 : decode cL_law 19 = .ok (.aload_n 0, 1) := by decide +kernel
theorem dL_law_20 : decode cL_law 20 = .ok (.arraylength, 1) := by decide +kernel
theorem dL_law_21 : decode cL_law 21 = .ok (.iconst 4, 1) := by decide +kernel
theorem dL_law_22 : decode cL_law 22 = .ok (.isub, 1) := by decide +kernel
theorem dL_law_23 : decode cL_law 23 = .ok (.if_icmp .gt 884, 3) := by decide +kernel
theorem dL_law_26 : decode cL_law 26 = .ok (.aload_n 0, 1) := by decide +kernel
theorem dL_law_27 : decode cL_law 27 = .ok (.iload_n 3, 1) := by decide +kernel
theorem dL_law_28 : decode cL_law 28 = .ok (.iaload, 1) := by decide +kernel
theorem dL_law_29 : decode cL_law 29 = .ok (.bipush 31, 2) := by decide +kernel
theorem dL_law_31 : decode cL_law 31 = .ok (.iand, 1) := by decide +kernel
theorem dL_law_32 : decode cL_law 32 = .ok (.tableswitch 869 0 28 #[132, 165, 224, 257, 270, 303, 342, 365, 388, 411, 434, 447, 460, 485, 498, 511, 524, 537, 550, 583, 616, 659, 692, 715, 728, 771, 810, 833, 846], 132) := by decide +kernel
theorem dL_law_164 : decode cL_law 164 = .ok (.aload_n 1, 1) := by decide +kernel
theorem dL_law_165 : decode cL_law 165 = .ok (.aload_n 0, 1) := by decide +kernel
theorem dL_law_166 : decode cL_law 166 = .ok (.iload_n 3, 1) := by decide +kernel
theorem dL_law_167 : decode cL_law 167 = .ok (.iconst 1, 1) := by decide +kernel
theorem dL_law_168 : decode cL_law 168 = .ok (.iadd, 1) := by decide +kernel
theorem dL_law_169 : decode cL_law 169 = .ok (.iaload, 1) := by decide +kernel
theorem dL_law_170 : decode cL_law 170 = .ok (.aload_n 0, 1) := by decide +kernel
theorem dL_law_171 : decode cL_law 171 = .ok (.iload_n 3, 1) := by decide +kernel
theorem dL_law_172 : decode cL_law 172 = .ok (.iconst 2, 1) := by decide +kernel
theorem dL_law_173 : decode cL_law 173 = .ok (.iadd, 1) := by decide +kernel
theorem dL_law_174 : decode cL_law 174 = .ok (.iaload, 1) := by decide +kernel
theorem dL_law_175 : decode cL_law 175 = .ok (.invokevirtual 13, 3) := by decide +kernel
theorem dL_law_178 : decode cL_law 178 = .ok (.aload_n 2, 1) := by decide +kernel
theorem dL_law_179 : decode cL_law 179 = .ok (.aload_n 0, 1) := by decide +kernel
theorem dL_law_180 : decode cL_law 180 = .ok (.iload_n 3, 1) := by decide +kernel
theorem dL_law_181 : decode cL_law 181 = .ok (.iconst 1, 1) := by decide +kernel
theorem dL_law_182 : decode cL_law 182 = .ok (.iadd, 1) := by decide +kernel
theorem dL_law_183 : decode cL_law 183 = .ok (.iaload, 1) := by decide +kernel
theorem dL_law_184 : decode cL_law 184 = .ok (.aload_n 0, 1) := by decide +kernel
theorem dL_law_185 : decode cL_law 185 = .ok (.iload_n 3, 1) := by decide +kernel
theorem dL_law_186 : decode cL_law 186 = .ok (.iconst 2, 1) := by decide +kernel
theorem dL_law_187 : decode cL_law 187 = .ok (.iadd, 1) := by decide +kernel
theorem dL_law_188 : decode cL_law 188 = .ok (.iaload, 1) := by decide +kernel
theorem dL_law_189 : decode cL_law 189 = .ok (.invokevirtual 17, 3) := by decide +kernel
theorem dL_law_192 : decode cL_law 192 = .ok (.if_icmp .eq 709, 3) := by decide +kernel
theorem dL_law_195 : decode cL_law 195 = .ok (.iconst 0, 1) := by decide +kernel
theorem dL_law_196 : decode cL_law 196 = .ok (.ireturn, 1) := by decide +kernel
theorem dL_law_197 : decode cL_law 197 = .ok (.aload_n 1, 1) := by decide +kernel
theorem dL_law_198 : decode cL_law 198 = .ok (.aload_n 0, 1) := by decide +kernel
theorem dL_law_199 : decode cL_law 199 = .ok (.iload_n 3, 1) := by decide +kernel
theorem dL_law_200 : decode cL_law 200 = .ok (.iconst 1, 1) := by decide +kernel
theorem dL_law_201 : decode cL_law 201 = .ok (.iadd, 1) := by decide +kernel
theorem dL_law_202 : decode cL_law 202 = .ok (.iaload, 1) := by decide +kernel
theorem dL_law_203 : decode cL_law 203 = .ok (.aload_n 0, 1) := by decide +kernel
theorem dL_law_204 : decode cL_law 204 = .ok (.iload_n 3, 1) := by decide +kernel
theorem dL_law_205 : decode cL_law 205 = .ok (.iconst 2, 1) := by decide +kernel
theorem dL_law_206 : decode cL_law 206 = .ok (.iadd, 1) := by decide +kernel
theorem dL_law_207 : decode cL_law 207 = .ok (.iaload, 1) := by decide +kernel
theorem dL_law_208 : decode cL_law 208 = .ok (.aload_n 0, 1) := by decide +kernel
theorem dL_law_209 : decode cL_law 209 = .ok (.iload_n 3, 1) := by decide +kernel
theorem dL_law_210 : decode cL_law 210 = .ok (.iconst 3, 1) := by decide +kernel
theorem dL_law_211 : decode cL_law 211 = .ok (.iadd, 1) := by decide +kernel
theorem dL_law_212 : decode cL_law 212 = .ok (.iaload, 1) := by decide +kernel
theorem dL_law_213 : decode cL_law 213 = .ok (.ifCond .eq 7, 3) := by decide +kernel
theorem dL_law_216 : decode cL_law 216 = .ok (.iconst 1, 1) := by decide +kernel
theorem dL_law_217 : decode cL_law 217 = .ok (.goto 4, 3) := by decide +kernel
theorem dL_law_220 : decode cL_law 220 = .ok (.iconst 0, 1) := by decide +kernel
theorem dL_law_221 : decode cL_law 221 = .ok (.invokevirtual 18, 3) := by decide +kernel
theorem dL_law_224 : decode cL_law 224 = .ok (.aload_n 2, 1) := by decide +kernel
theorem dL_law_225 : decode cL_law 225 = .ok (.aload_n 0, 1) := by decide +kernel
theorem dL_law_226 : decode cL_law 226 = .ok (.iload_n 3, 1) := by decide +kernel
theorem dL_law_227 : decode cL_law 227 = .ok (.iconst 1, 1) := by decide +kernel
theorem dL_law_228 : decode cL_law 228 = .ok (.iadd, 1) := by decide +kernel
theorem dL_law_229 : decode cL_law 229 = .ok (.iaload, 1) := by decide +kernel
theorem dL_law_230 : decode cL_law 230 = .ok (.aload_n 0, 1) := by decide +kernel
theorem dL_law_231 : decode cL_law 231 = .ok (.iload_n 3, 1) := by decide +kernel
theorem dL_law_232 : decode cL_law 232 = .ok (.iconst 2, 1) := by decide +kernel
theorem dL_law_233 : decode cL_law 233 = .ok (.iadd, 1) := by decide +kernel
theorem dL_law_234 : decode cL_law 234 = .ok (.iaload, 1) := by decide +kernel
theorem dL_law_235 : decode cL_law 235 = .ok (.aload_n 0, 1) := by decide +kernel
theorem dL_law_236 : decode cL_law 236 = .ok (.iload_n 3, 1) := by decide +kernel
theorem dL_law_237 : decode cL_law 237 = .ok (.iconst 3, 1) := by decide +kernel
theorem dL_law_238 : decode cL_law 238 = .ok (.iadd, 1) := by decide +kernel
theorem dL_law_239 : decode cL_law 239 = .ok (.iaload, 1) := by decide +kernel
theorem dL_law_240 : decode cL_law 240 = .ok (.ifCond .eq 7, 3) := by decide +kernel
theorem dL_law_243 : decode cL_law 243 = .ok (.iconst 1, 1) := by decide +kernel
theorem dL_law_244 : decode cL_law 244 = .ok (.goto 4, 3) := by decide +kernel
theorem dL_law_247 : decode cL_law 247 = .ok (.iconst 0, 1) := by decide +kernel
theorem dL_law_248 : decode cL_law 248 = .ok (.invokevirtual 22, 3) := by decide +kernel
theorem dL_law_251 : decode cL_law 251 = .ok (.if_icmp .eq 650, 3) := by decide +kernel
theorem dL_law_254 : decode cL_law 254 = .ok (.iconst 0, 1) := by decide +kernel
theorem dL_law_255 : decode cL_law 255 = .ok (.ireturn, 1) := by decide +kernel
theorem dL_law_256 : decode cL_law 256 = .ok (.aload_n 1, 1) := by decide +kernel
theorem dL_law_257 : decode cL_law 257 = .ok (.aload_n 0, 1) := by decide +kernel
theorem dL_law_258 : decode cL_law 258 = .ok (.iload_n 3, 1) := by decide +kernel
theorem dL_law_259 : decode cL_law 259 = .ok (.iconst 1, 1) := by decide +kernel
theorem dL_law_260 : decode cL_law 260 = .ok (.iadd, 1) := by decide +kernel
theorem dL_law_261 : decode cL_law 261 = .ok (.iaload, 1) := by decide +kernel
theorem dL_law_262 : decode cL_law 262 = .ok (.aload_n 0, 1) := by decide +kernel
theorem dL_law_263 : decode cL_law 263 = .ok (.iload_n 3, 1) := by decide +kernel
theorem dL_law_264 : decode cL_law 264 = .ok (.iconst 2, 1) := by decide +kernel
theorem dL_law_265 : decode cL_law 265 = .ok (.iadd, 1) := by decide +kernel
theorem dL_law_266 : decode cL_law 266 = .ok (.iaload, 1) := by decide +kernel
theorem dL_law_267 : decode cL_law 267 = .ok (.invokevirtual 23, 3) := by decide +kernel
theorem dL_law_270 : decode cL_law 270 = .ok (.aload_n 2, 1) := by decide +kernel
theorem dL_law_271 : decode cL_law 271 = .ok (.aload_n 0, 1) := by decide +kernel
theorem dL_law_272 : decode cL_law 272 = .ok (.iload_n 3, 1) := by decide +kernel
theorem dL_law_273 : decode cL_law 273 = .ok (.iconst 1, 1) := by decide +kernel
theorem dL_law_274 : decode cL_law 274 = .ok (.iadd, 1) := by decide +kernel
theorem dL_law_275 : decode cL_law 275 = .ok (.iaload, 1) := by decide +kernel
theorem dL_law_276 : decode cL_law 276 = .ok (.aload_n 0, 1) := by decide +kernel
theorem dL_law_277 : decode cL_law 277 = .ok (.iload_n 3, 1) := by decide +kernel
theorem dL_law_278 : decode cL_law 278 = .ok (.iconst 2, 1) := by decide +kernel
theorem dL_law_279 : decode cL_law 279 = .ok (.iadd, 1) := by decide +kernel
theorem dL_law_280 : decode cL_law 280 = .ok (.iaload, 1) := by decide +kernel
theorem dL_law_281 : decode cL_law 281 = .ok (.invokevirtual 26, 3) := by decide +kernel
theorem dL_law_284 : decode cL_law 284 = .ok (.if_icmp .eq 617, 3) := by decide +kernel
theorem dL_law_287 : decode cL_law 287 = .ok (.iconst 0, 1) := by decide +kernel
theorem dL_law_288 : decode cL_law 288 = .ok (.ireturn, 1) := by decide +kernel
theorem dL_law_289 : decode cL_law 289 = .ok (.aload_n 1, 1) := by decide +kernel
theorem dL_law_290 : decode cL_law 290 = .ok (.invokevirtual 27, 3) := by decide +kernel
theorem dL_law_293 : decode cL_law 293 = .ok (.aload_n 2, 1) := by decide +kernel
theorem dL_law_294 : decode cL_law 294 = .ok (.invokevirtual 31, 3) := by decide +kernel
theorem dL_law_297 : decode cL_law 297 = .ok (.if_icmp .eq 604, 3) := by decide +kernel
theorem dL_law_300 : decode cL_law 300 = .ok (.iconst 0, 1) := by decide +kernel
theorem dL_law_301 : decode cL_law 301 = .ok (.ireturn, 1) := by decide +kernel
theorem dL_law_302 : decode cL_law 302 = .ok (.aload_n 1, 1) := by decide +kernel
theorem dL_law_303 : decode cL_law 303 = .ok (.aload_n 0, 1) := by decide +kernel
theorem dL_law_304 : decode cL_law 304 = .ok (.iload_n 3, 1) := by decide +kernel
theorem dL_law_305 : decode cL_law 305 = .ok (.iconst 1, 1) := by decide +kernel
theorem dL_law_306 : decode cL_law 306 = .ok (.iadd, 1) := by decide +kernel
theorem dL_law_307 : decode cL_law 307 = .ok (.iaload, 1) := by decide +kernel
theorem dL_law_308 : decode cL_law 308 = .ok (.aload_n 0, 1) := by decide +kernel
theorem dL_law_309 : decode cL_law 309 = .ok (.iload_n 3, 1) := by decide +kernel
theorem dL_law_310 : decode cL_law 310 = .ok (.iconst 2, 1) := by decide +kernel
theorem dL_law_311 : decode cL_law 311 = .ok (.iadd, 1) := by decide +kernel
theorem dL_law_312 : decode cL_law 312 = .ok (.iaload, 1) := by decide +kernel
theorem dL_law_313 : decode cL_law 313 = .ok (.invokevirtual 32, 3) := by decide +kernel
theorem dL_law_316 : decode cL_law 316 = .ok (.aload_n 2, 1) := by decide +kernel
theorem dL_law_317 : decode cL_law 317 = .ok (.aload_n 0, 1) := by decide +kernel
theorem dL_law_318 : decode cL_law 318 = .ok (.iload_n 3, 1) := by decide +kernel
theorem dL_law_319 : decode cL_law 319 = .ok (.iconst 1, 1) := by decide +kernel
theorem dL_law_320 : decode cL_law 320 = .ok (.iadd, 1) := by decide +kernel
theorem dL_law_321 : decode cL_law 321 = .ok (.iaload, 1) := by decide +kernel
theorem dL_law_322 : decode cL_law 322 = .ok (.aload_n 0, 1) := by decide +kernel
theorem dL_law_323 : decode cL_law 323 = .ok (.iload_n 3, 1) := by decide +kernel
theorem dL_law_324 : decode cL_law 324 = .ok (.iconst 2, 1) := by decide +kernel
theorem dL_law_325 : decode cL_law 325 = .ok (.iadd, 1) := by decide +kernel
theorem dL_law_326 : decode cL_law 326 = .ok (.iaload, 1) := by decide +kernel
theorem dL_law_327 : decode cL_law 327 = .ok (.invokevirtual 35, 3) := by decide +kernel
theorem dL_law_330 : decode cL_law 330 = .ok (.if_icmp .eq 571, 3) := by decide +kernel
theorem dL_law_333 : decode cL_law 333 = .ok (.iconst 0, 1) := by decide +kernel
theorem dL_law_334 : decode cL_law 334 = .ok (.ireturn, 1) := by decide +kernel
theorem dL_law_335 : decode cL_law 335 = .ok (.aload_n 1, 1) := by decide +kernel
theorem dL_law_336 : decode cL_law 336 = .ok (.aload_n 0, 1) := by decide +kernel
theorem dL_law_337 : decode cL_law 337 = .ok (.iload_n 3, 1) := by decide +kernel
theorem dL_law_338 : decode cL_law 338 = .ok (.iconst 1, 1) := by decide +kernel
theorem dL_law_339 : decode cL_law 339 = .ok (.iadd, 1) := by decide +kernel
theorem dL_law_340 : decode cL_law 340 = .ok (.iaload, 1) := by decide +kernel
theorem dL_law_341 : decode cL_law 341 = .ok (.ifCond .eq 7, 3) := by decide +kernel
theorem dL_law_344 : decode cL_law 344 = .ok (.iconst 1, 1) := by decide +kernel
theorem dL_law_345 : decode cL_law 345 = .ok (.goto 4, 3) := by decide +kernel
theorem dL_law_348 : decode cL_law 348 = .ok (.iconst 0, 1) := by decide +kernel
theorem dL_law_349 : decode cL_law 349 = .ok (.invokevirtual 36, 3) := by decide +kernel
theorem dL_law_352 : decode cL_law 352 = .ok (.aload_n 2, 1) := by decide +kernel
theorem dL_law_353 : decode cL_law 353 = .ok (.aload_n 0, 1) := by decide +kernel
theorem dL_law_354 : decode cL_law 354 = .ok (.iload_n 3, 1) := by decide +kernel
theorem dL_law_355 : decode cL_law 355 = .ok (.iconst 1, 1) := by decide +kernel
theorem dL_law_356 : decode cL_law 356 = .ok (.iadd, 1) := by decide +kernel
theorem dL_law_357 : decode cL_law 357 = .ok (.iaload, 1) := by decide +kernel
theorem dL_law_358 : decode cL_law 358 = .ok (.ifCond .eq 7, 3) := by decide +kernel
theorem dL_law_361 : decode cL_law 361 = .ok (.iconst 1, 1) := by decide +kernel
theorem dL_law_362 : decode cL_law 362 = .ok (.goto 4, 3) := by decide +kernel
theorem dL_law_365 : decode cL_law 365 = .ok (.iconst 0, 1) := by decide +kernel
theorem dL_law_366 : decode cL_law 366 = .ok (.invokevirtual 40, 3) := by decide +kernel
theorem dL_law_369 : decode cL_law 369 = .ok (.if_icmp .eq 532, 3) := by decide +kernel
theorem dL_law_372 : decode cL_law 372 = .ok (.iconst 0, 1) := by decide +kernel
theorem dL_law_373 : decode cL_law 373 = .ok (.ireturn, 1) := by decide +kernel
theorem dL_law_374 : decode cL_law 374 = .ok (.aload_n 1, 1) := by decide +kernel
theorem dL_law_375 : decode cL_law 375 = .ok (.aload_n 0, 1) := by decide +kernel
theorem dL_law_376 : decode cL_law 376 = .ok (.iload_n 3, 1) := by decide +kernel
theorem dL_law_377 : decode cL_law 377 = .ok (.iconst 1, 1) := by decide +kernel
theorem dL_law_378 : decode cL_law 378 = .ok (.iadd, 1) := by decide +kernel
theorem dL_law_379 : decode cL_law 379 = .ok (.iaload, 1) := by decide +kernel
theorem dL_law_380 : decode cL_law 380 = .ok (.invokevirtual 41, 3) := by decide +kernel
theorem dL_law_383 : decode cL_law 383 = .ok (.aload_n 2, 1) := by decide +kernel
theorem dL_law_384 : decode cL_law 384 = .ok (.aload_n 0, 1) := by decide +kernel
theorem dL_law_385 : decode cL_law 385 = .ok (.iload_n 3, 1) := by decide +kernel
theorem dL_law_386 : decode cL_law 386 = .ok (.iconst 1, 1) := by decide +kernel
theorem dL_law_387 : decode cL_law 387 = .ok (.iadd, 1) := by decide +kernel
theorem dL_law_388 : decode cL_law 388 = .ok (.iaload, 1) := by decide +kernel
theorem dL_law_389 : decode cL_law 389 = .ok (.invokevirtual 45, 3) := by decide +kernel
theorem dL_law_392 : decode cL_law 392 = .ok (.if_icmp .eq 509, 3) := by decide +kernel
theorem dL_law_395 : decode cL_law 395 = .ok (.iconst 0, 1) := by decide +kernel
theorem dL_law_396 : decode cL_law 396 = .ok (.ireturn, 1) := by decide +kernel
theorem dL_law_397 : decode cL_law 397 = .ok (.aload_n 1, 1) := by decide +kernel
theorem dL_law_398 : decode cL_law 398 = .ok (.aload_n 0, 1) := by decide +kernel
theorem dL_law_399 : decode cL_law 399 = .ok (.iload_n 3, 1) := by decide +kernel
theorem dL_law_400 : decode cL_law 400 = .ok (.iconst 1, 1) := by decide +kernel
theorem dL_law_401 : decode cL_law 401 = .ok (.iadd, 1) := by decide +kernel
theorem dL_law_402 : decode cL_law 402 = .ok (.iaload, 1) := by decide +kernel
theorem dL_law_403 : decode cL_law 403 = .ok (.invokevirtual 46, 3) := by decide +kernel
theorem dL_law_406 : decode cL_law 406 = .ok (.aload_n 2, 1) := by decide +kernel
theorem dL_law_407 : decode cL_law 407 = .ok (.aload_n 0, 1) := by decide +kernel
theorem dL_law_408 : decode cL_law 408 = .ok (.iload_n 3, 1) := by decide +kernel
theorem dL_law_409 : decode cL_law 409 = .ok (.iconst 1, 1) := by decide +kernel
theorem dL_law_410 : decode cL_law 410 = .ok (.iadd, 1) := by decide +kernel
theorem dL_law_411 : decode cL_law 411 = .ok (.iaload, 1) := by decide +kernel
theorem dL_law_412 : decode cL_law 412 = .ok (.invokevirtual 49, 3) := by decide +kernel
theorem dL_law_415 : decode cL_law 415 = .ok (.if_icmp .eq 486, 3) := by decide +kernel
theorem dL_law_418 : decode cL_law 418 = .ok (.iconst 0, 1) := by decide +kernel
theorem dL_law_419 : decode cL_law 419 = .ok (.ireturn, 1) := by decide +kernel
theorem dL_law_420 : decode cL_law 420 = .ok (.aload_n 1, 1) := by decide +kernel
theorem dL_law_421 : decode cL_law 421 = .ok (.aload_n 0, 1) := by decide +kernel
theorem dL_law_422 : decode cL_law 422 = .ok (.iload_n 3, 1) := by decide +kernel
theorem dL_law_423 : decode cL_law 423 = .ok (.iconst 1, 1) := by decide +kernel
theorem dL_law_424 : decode cL_law 424 = .ok (.iadd, 1) := by decide +kernel
theorem dL_law_425 : decode cL_law 425 = .ok (.iaload, 1) := by decide +kernel
theorem dL_law_426 : decode cL_law 426 = .ok (.invokevirtual 50, 3) := by decide +kernel
theorem dL_law_429 : decode cL_law 429 = .ok (.aload_n 2, 1) := by decide +kernel
theorem dL_law_430 : decode cL_law 430 = .ok (.aload_n 0, 1) := by decide +kernel
theorem dL_law_431 : decode cL_law 431 = .ok (.iload_n 3, 1) := by decide +kernel
theorem dL_law_432 : decode cL_law 432 = .ok (.iconst 1, 1) := by decide +kernel
theorem dL_law_433 : decode cL_law 433 = .ok (.iadd, 1) := by decide +kernel
theorem dL_law_434 : decode cL_law 434 = .ok (.iaload, 1) := by decide +kernel
theorem dL_law_435 : decode cL_law 435 = .ok (.invokevirtual 53, 3) := by decide +kernel
theorem dL_law_438 : decode cL_law 438 = .ok (.if_icmp .eq 463, 3) := by decide +kernel
theorem dL_law_441 : decode cL_law 441 = .ok (.iconst 0, 1) := by decide +kernel
theorem dL_law_442 : decode cL_law 442 = .ok (.ireturn, 1) := by decide +kernel
theorem dL_law_443 : decode cL_law 443 = .ok (.aload_n 1, 1) := by decide +kernel
theorem dL_law_444 : decode cL_law 444 = .ok (.aload_n 0, 1) := by decide +kernel
theorem dL_law_445 : decode cL_law 445 = .ok (.iload_n 3, 1) := by decide +kernel
theorem dL_law_446 : decode cL_law 446 = .ok (.iconst 1, 1) := by decide +kernel
theorem dL_law_447 : decode cL_law 447 = .ok (.iadd, 1) := by decide +kernel
theorem dL_law_448 : decode cL_law 448 = .ok (.iaload, 1) := by decide +kernel
theorem dL_law_449 : decode cL_law 449 = .ok (.invokevirtual 54, 3) := by decide +kernel
theorem dL_law_452 : decode cL_law 452 = .ok (.aload_n 2, 1) := by decide +kernel
theorem dL_law_453 : decode cL_law 453 = .ok (.aload_n 0, 1) := by decide +kernel
theorem dL_law_454 : decode cL_law 454 = .ok (.iload_n 3, 1) := by decide +kernel
theorem dL_law_455 : decode cL_law 455 = .ok (.iconst 1, 1) := by decide +kernel
theorem dL_law_456 : decode cL_law 456 = .ok (.iadd, 1) := by decide +kernel
theorem dL_law_457 : decode cL_law 457 = .ok (.iaload, 1) := by decide +kernel
theorem dL_law_458 : decode cL_law 458 = .ok (.invokevirtual 57, 3) := by decide +kernel
theorem dL_law_461 : decode cL_law 461 = .ok (.if_icmp .eq 440, 3) := by decide +kernel
theorem dL_law_464 : decode cL_law 464 = .ok (.iconst 0, 1) := by decide +kernel
theorem dL_law_465 : decode cL_law 465 = .ok (.ireturn, 1) := by decide +kernel
theorem dL_law_466 : decode cL_law 466 = .ok (.aload_n 1, 1) := by decide +kernel
theorem dL_law_467 : decode cL_law 467 = .ok (.invokevirtual 58, 3) := by decide +kernel
theorem dL_law_470 : decode cL_law 470 = .ok (.aload_n 2, 1) := by decide +kernel
theorem dL_law_471 : decode cL_law 471 = .ok (.invokevirtual 61, 3) := by decide +kernel
theorem dL_law_474 : decode cL_law 474 = .ok (.if_icmp .eq 427, 3) := by decide +kernel
theorem dL_law_477 : decode cL_law 477 = .ok (.iconst 0, 1) := by decide +kernel
theorem dL_law_478 : decode cL_law 478 = .ok (.ireturn, 1) := by decide +kernel
theorem dL_law_479 : decode cL_law 479 = .ok (.aload_n 1, 1) := by decide +kernel
theorem dL_law_480 : decode cL_law 480 = .ok (.invokevirtual 62, 3) := by decide +kernel
theorem dL_law_483 : decode cL_law 483 = .ok (.aload_n 2, 1) := by decide +kernel
theorem dL_law_484 : decode cL_law 484 = .ok (.invokevirtual 65, 3) := by decide +kernel
theorem dL_law_487 : decode cL_law 487 = .ok (.if_icmp .eq 414, 3) := by decide +kernel
theorem dL_law_490 : decode cL_law 490 = .ok (.iconst 0, 1) := by decide +kernel
theorem dL_law_491 : decode cL_law 491 = .ok (.ireturn, 1) := by decide +kernel
theorem dL_law_492 : decode cL_law 492 = .ok (.aload_n 1, 1) := by decide +kernel
theorem dL_law_493 : decode cL_law 493 = .ok (.aload_n 0, 1) := by decide +kernel
theorem dL_law_494 : decode cL_law 494 = .ok (.iload_n 3, 1) := by decide +kernel
theorem dL_law_495 : decode cL_law 495 = .ok (.iconst 1, 1) := by decide +kernel
theorem dL_law_496 : decode cL_law 496 = .ok (.iadd, 1) := by decide +kernel
theorem dL_law_497 : decode cL_law 497 = .ok (.iaload, 1) := by decide +kernel
theorem dL_law_498 : decode cL_law 498 = .ok (.i2c, 1) := by decide +kernel
theorem dL_law_499 : decode cL_law 499 = .ok (.invokevirtual 66, 3) := by decide +kernel
theorem dL_law_502 : decode cL_law 502 = .ok (.aload_n 2, 1) := by decide +kernel
theorem dL_law_503 : decode cL_law 503 = .ok (.aload_n 0, 1) := by decide +kernel
theorem dL_law_504 : decode cL_law 504 = .ok (.iload_n 3, 1) := by decide +kernel
theorem dL_law_505 : decode cL_law 505 = .ok (.iconst 1, 1) := by decide +kernel
theorem dL_law_506 : decode cL_law 506 = .ok (.iadd, 1) := by decide +kernel
theorem dL_law_507 : decode cL_law 507 = .ok (.iaload, 1) := by decide +kernel
theorem dL_law_508 : decode cL_law 508 = .ok (.i2c, 1) := by decide +kernel
theorem dL_law_509 : decode cL_law 509 = .ok (.invokevirtual 70, 3) := by decide +kernel
theorem dL_law_512 : decode cL_law 512 = .ok (.if_icmp .eq 389, 3) := by decide +kernel
theorem dL_law_515 : decode cL_law 515 = .ok (.iconst 0, 1) := by decide +kernel
theorem dL_law_516 : decode cL_law 516 = .ok (.ireturn, 1) := by decide +kernel
theorem dL_law_517 : decode cL_law 517 = .ok (.aload_n 1, 1) := by decide +kernel
theorem dL_law_518 : decode cL_law 518 = .ok (.invokevirtual 71, 3) := by decide +kernel
theorem dL_law_521 : decode cL_law 521 = .ok (.aload_n 2, 1) := by decide +kernel
theorem dL_law_522 : decode cL_law 522 = .ok (.invokevirtual 74, 3) := by decide +kernel
theorem dL_law_525 : decode cL_law 525 = .ok (.if_icmp .eq 376, 3) := by decide +kernel
theorem dL_law_528 : decode cL_law 528 = .ok (.iconst 0, 1) := by decide +kernel
theorem dL_law_529 : decode cL_law 529 = .ok (.ireturn, 1) := by decide +kernel
theorem dL_law_530 : decode cL_law 530 = .ok (.aload_n 1, 1) := by decide +kernel
theorem dL_law_531 : decode cL_law 531 = .ok (.invokevirtual 75, 3) := by decide +kernel
theorem dL_law_534 : decode cL_law 534 = .ok (.aload_n 2, 1) := by decide +kernel
theorem dL_law_535 : decode cL_law 535 = .ok (.invokevirtual 78, 3) := by decide +kernel
theorem dL_law_538 : decode cL_law 538 = .ok (.if_icmp .eq 363, 3) := by decide +kernel
theorem dL_law_541 : decode cL_law 541 = .ok (.iconst 0, 1) := by decide +kernel
theorem dL_law_542 : decode cL_law 542 = .ok (.ireturn, 1) := by decide +kernel
theorem dL_law_543 : decode cL_law 543 = .ok (.aload_n 1, 1) := by decide +kernel
theorem dL_law_544 : decode cL_law 544 = .ok (.invokevirtual 79, 3) := by decide +kernel
theorem dL_law_547 : decode cL_law 547 = .ok (.aload_n 2, 1) := by decide +kernel
theorem dL_law_548 : decode cL_law 548 = .ok (.invokevirtual 82, 3) := by decide +kernel
theorem dL_law_551 : decode cL_law 551 = .ok (.if_icmp .eq 350, 3) := by decide +kernel
theorem dL_law_554 : decode cL_law 554 = .ok (.iconst 0, 1) := by decide +kernel
theorem dL_law_555 : decode cL_law 555 = .ok (.ireturn, 1) := by decide +kernel
theorem dL_law_556 : decode cL_law 556 = .ok (.aload_n 1, 1) := by decide +kernel
theorem dL_law_557 : decode cL_law 557 = .ok (.invokevirtual 83, 3) := by decide +kernel
theorem dL_law_560 : decode cL_law 560 = .ok (.aload_n 2, 1) := by decide +kernel
theorem dL_law_561 : decode cL_law 561 = .ok (.invokevirtual 86, 3) := by decide +kernel
theorem dL_law_564 : decode cL_law 564 = .ok (.if_icmp .eq 337, 3) := by decide +kernel
theorem dL_law_567 : decode cL_law 567 = .ok (.iconst 0, 1) := by decide +kernel
theorem dL_law_568 : decode cL_law 568 = .ok (.ireturn, 1) := by decide +kernel
theorem dL_law_569 : decode cL_law 569 = .ok (.aload_n 1, 1) := by decide +kernel
theorem dL_law_570 : decode cL_law 570 = .ok (.invokevirtual 87, 3) := by decide +kernel
theorem dL_law_573 : decode cL_law 573 = .ok (.aload_n 2, 1) := by decide +kernel
theorem dL_law_574 : decode cL_law 574 = .ok (.invokevirtual 90, 3) := by decide +kernel
theorem dL_law_577 : decode cL_law 577 = .ok (.if_icmp .eq 324, 3) := by decide +kernel
theorem dL_law_580 : decode cL_law 580 = .ok (.iconst 0, 1) := by decide +kernel
theorem dL_law_581 : decode cL_law 581 = .ok (.ireturn, 1) := by decide +kernel
theorem dL_law_582 : decode cL_law 582 = .ok (.aload_n 1, 1) := by decide +kernel
theorem dL_law_583 : decode cL_law 583 = .ok (.aload_n 0, 1) := by decide +kernel
theorem dL_law_584 : decode cL_law 584 = .ok (.iload_n 3, 1) := by decide +kernel
theorem dL_law_585 : decode cL_law 585 = .ok (.iconst 1, 1) := by decide +kernel
theorem dL_law_586 : decode cL_law 586 = .ok (.iadd, 1) := by decide +kernel
theorem dL_law_587 : decode cL_law 587 = .ok (.iaload, 1) := by decide +kernel
theorem dL_law_588 : decode cL_law 588 = .ok (.aload_n 0, 1) := by decide +kernel
theorem dL_law_589 : decode cL_law 589 = .ok (.iload_n 3, 1) := by decide +kernel
theorem dL_law_590 : decode cL_law 590 = .ok (.iconst 2, 1) := by decide +kernel
theorem dL_law_591 : decode cL_law 591 = .ok (.iadd, 1) := by decide +kernel
theorem dL_law_592 : decode cL_law 592 = .ok (.iaload, 1) := by decide +kernel
theorem dL_law_593 : decode cL_law 593 = .ok (.invokevirtual 91, 3) := by decide +kernel
theorem dL_law_596 : decode cL_law 596 = .ok (.aload_n 2, 1) := by decide +kernel
theorem dL_law_597 : decode cL_law 597 = .ok (.aload_n 0, 1) := by decide +kernel
theorem dL_law_598 : decode cL_law 598 = .ok (.iload_n 3, 1) := by decide +kernel
theorem dL_law_599 : decode cL_law 599 = .ok (.iconst 1, 1) := by decide +kernel
theorem dL_law_600 : decode cL_law 600 = .ok (.iadd, 1) := by decide +kernel
theorem dL_law_601 : decode cL_law 601 = .ok (.iaload, 1) := by decide +kernel
theorem dL_law_602 : decode cL_law 602 = .ok (.aload_n 0, 1) := by decide +kernel
theorem dL_law_603 : decode cL_law 603 = .ok (.iload_n 3, 1) := by decide +kernel
theorem dL_law_604 : decode cL_law 604 = .ok (.iconst 2, 1) := by decide +kernel
theorem dL_law_605 : decode cL_law 605 = .ok (.iadd, 1) := by decide +kernel
theorem dL_law_606 : decode cL_law 606 = .ok (.iaload, 1) := by decide +kernel
theorem dL_law_607 : decode cL_law 607 = .ok (.invokevirtual 94, 3) := by decide +kernel
theorem dL_law_610 : decode cL_law 610 = .ok (.if_icmp .eq 291, 3) := by decide +kernel
theorem dL_law_613 : decode cL_law 613 = .ok (.iconst 0, 1) := by decide +kernel
theorem dL_law_614 : decode cL_law 614 = .ok (.ireturn, 1) := by decide +kernel
theorem dL_law_615 : decode cL_law 615 = .ok (.aload_n 1, 1) := by decide +kernel
theorem dL_law_616 : decode cL_law 616 = .ok (.aload_n 0, 1) := by decide +kernel
theorem dL_law_617 : decode cL_law 617 = .ok (.iload_n 3, 1) := by decide +kernel
theorem dL_law_618 : decode cL_law 618 = .ok (.iconst 1, 1) := by decide +kernel
theorem dL_law_619 : decode cL_law 619 = .ok (.iadd, 1) := by decide +kernel
theorem dL_law_620 : decode cL_law 620 = .ok (.iaload, 1) := by decide +kernel
theorem dL_law_621 : decode cL_law 621 = .ok (.aload_n 0, 1) := by decide +kernel
theorem dL_law_622 : decode cL_law 622 = .ok (.iload_n 3, 1) := by decide +kernel
theorem dL_law_623 : decode cL_law 623 = .ok (.iconst 2, 1) := by decide +kernel
theorem dL_law_624 : decode cL_law 624 = .ok (.iadd, 1) := by decide +kernel
theorem dL_law_625 : decode cL_law 625 = .ok (.iaload, 1) := by decide +kernel
theorem dL_law_626 : decode cL_law 626 = .ok (.invokevirtual 95, 3) := by decide +kernel
theorem dL_law_629 : decode cL_law 629 = .ok (.aload_n 2, 1) := by decide +kernel
theorem dL_law_630 : decode cL_law 630 = .ok (.aload_n 0, 1) := by decide +kernel
theorem dL_law_631 : decode cL_law 631 = .ok (.iload_n 3, 1) := by decide +kernel
theorem dL_law_632 : decode cL_law 632 = .ok (.iconst 1, 1) := by decide +kernel
theorem dL_law_633 : decode cL_law 633 = .ok (.iadd, 1) := by decide +kernel
theorem dL_law_634 : decode cL_law 634 = .ok (.iaload, 1) := by decide +kernel
theorem dL_law_635 : decode cL_law 635 = .ok (.aload_n 0, 1) := by decide +kernel
theorem dL_law_636 : decode cL_law 636 = .ok (.iload_n 3, 1) := by decide +kernel
theorem dL_law_637 : decode cL_law 637 = .ok (.iconst 2, 1) := by decide +kernel
theorem dL_law_638 : decode cL_law 638 = .ok (.iadd, 1) := by decide +kernel
theorem dL_law_639 : decode cL_law 639 = .ok (.iaload, 1) := by decide +kernel
theorem dL_law_640 : decode cL_law 640 = .ok (.invokevirtual 98, 3) := by decide +kernel
theorem dL_law_643 : decode cL_law 643 = .ok (.if_icmp .eq 258, 3) := by decide +kernel
theorem dL_law_646 : decode cL_law 646 = .ok (.iconst 0, 1) := by decide +kernel
theorem dL_law_647 : decode cL_law 647 = .ok (.ireturn, 1) := by decide +kernel
theorem dL_law_648 : decode cL_law 648 = .ok (.aload_n 1, 1) := by decide +kernel
theorem dL_law_649 : decode cL_law 649 = .ok (.aload_n 0, 1) := by decide +kernel
theorem dL_law_650 : decode cL_law 650 = .ok (.iload_n 3, 1) := by decide +kernel
theorem dL_law_651 : decode cL_law 651 = .ok (.iconst 1, 1) := by decide +kernel
theorem dL_law_652 : decode cL_law 652 = .ok (.iadd, 1) := by decide +kernel
theorem dL_law_653 : decode cL_law 653 = .ok (.iaload, 1) := by decide +kernel
theorem dL_law_654 : decode cL_law 654 = .ok (.aload_n 0, 1) := by decide +kernel
theorem dL_law_655 : decode cL_law 655 = .ok (.iload_n 3, 1) := by decide +kernel
theorem dL_law_656 : decode cL_law 656 = .ok (.iconst 2, 1) := by decide +kernel
theorem dL_law_657 : decode cL_law 657 = .ok (.iadd, 1) := by decide +kernel
theorem dL_law_658 : decode cL_law 658 = .ok (.iaload, 1) := by decide +kernel
theorem dL_law_659 : decode cL_law 659 = .ok (.aload_n 0, 1) := by decide +kernel
theorem dL_law_660 : decode cL_law 660 = .ok (.iload_n 3, 1) := by decide +kernel
theorem dL_law_661 : decode cL_law 661 = .ok (.iconst 3, 1) := by decide +kernel
theorem dL_law_662 : decode cL_law 662 = .ok (.iadd, 1) := by decide +kernel
theorem dL_law_663 : decode cL_law 663 = .ok (.iaload, 1) := by decide +kernel
theorem dL_law_664 : decode cL_law 664 = .ok (.invokevirtual 99, 3) := by decide +kernel
theorem dL_law_667 : decode cL_law 667 = .ok (.aload_n 2, 1) := by decide +kernel
theorem dL_law_668 : decode cL_law 668 = .ok (.aload_n 0, 1) := by decide +kernel
theorem dL_law_669 : decode cL_law 669 = .ok (.iload_n 3, 1) := by decide +kernel
theorem dL_law_670 : decode cL_law 670 = .ok (.iconst 1, 1) := by decide +kernel
theorem dL_law_671 : decode cL_law 671 = .ok (.iadd, 1) := by decide +kernel
theorem dL_law_672 : decode cL_law 672 = .ok (.iaload, 1) := by decide +kernel
theorem dL_law_673 : decode cL_law 673 = .ok (.aload_n 0, 1) := by decide +kernel
theorem dL_law_674 : decode cL_law 674 = .ok (.iload_n 3, 1) := by decide +kernel
theorem dL_law_675 : decode cL_law 675 = .ok (.iconst 2, 1) := by decide +kernel
theorem dL_law_676 : decode cL_law 676 = .ok (.iadd, 1) := by decide +kernel
theorem dL_law_677 : decode cL_law 677 = .ok (.iaload, 1) := by decide +kernel
theorem dL_law_678 : decode cL_law 678 = .ok (.aload_n 0, 1) := by decide +kernel
theorem dL_law_679 : decode cL_law 679 = .ok (.iload_n 3, 1) := by decide +kernel
theorem dL_law_680 : decode cL_law 680 = .ok (.iconst 3, 1) := by decide +kernel
theorem dL_law_681 : decode cL_law 681 = .ok (.iadd, 1) := by decide +kernel
theorem dL_law_682 : decode cL_law 682 = .ok (.iaload, 1) := by decide +kernel
theorem dL_law_683 : decode cL_law 683 = .ok (.invokevirtual 103, 3) := by decide +kernel
theorem dL_law_686 : decode cL_law 686 = .ok (.if_icmp .eq 215, 3) := by decide +kernel
theorem dL_law_689 : decode cL_law 689 = .ok (.iconst 0, 1) := by decide +kernel
theorem dL_law_690 : decode cL_law 690 = .ok (.ireturn, 1) := by decide +kernel
theorem dL_law_691 : decode cL_law 691 = .ok (.aload_n 1, 1) := by decide +kernel
theorem dL_law_692 : decode cL_law 692 = .ok (.aload_n 0, 1) := by decide +kernel
theorem dL_law_693 : decode cL_law 693 = .ok (.iload_n 3, 1) := by decide +kernel
theorem dL_law_694 : decode cL_law 694 = .ok (.iconst 1, 1) := by decide +kernel
theorem dL_law_695 : decode cL_law 695 = .ok (.iadd, 1) := by decide +kernel
theorem dL_law_696 : decode cL_law 696 = .ok (.iaload, 1) := by decide +kernel
theorem dL_law_697 : decode cL_law 697 = .ok (.aload_n 0, 1) := by decide +kernel
theorem dL_law_698 : decode cL_law 698 = .ok (.iload_n 3, 1) := by decide +kernel
theorem dL_law_699 : decode cL_law 699 = .ok (.iconst 2, 1) := by decide +kernel
theorem dL_law_700 : decode cL_law 700 = .ok (.iadd, 1) := by decide +kernel
theorem dL_law_701 : decode cL_law 701 = .ok (.iaload, 1) := by decide +kernel
theorem dL_law_702 : decode cL_law 702 = .ok (.invokevirtual 104, 3) := by decide +kernel
theorem dL_law_705 : decode cL_law 705 = .ok (.aload_n 2, 1) := by decide +kernel
theorem dL_law_706 : decode cL_law 706 = .ok (.aload_n 0, 1) := by decide +kernel
theorem dL_law_707 : decode cL_law 707 = .ok (.iload_n 3, 1) := by decide +kernel
theorem dL_law_708 : decode cL_law 708 = .ok (.iconst 1, 1) := by decide +kernel
theorem dL_law_709 : decode cL_law 709 = .ok (.iadd, 1) := by decide +kernel
theorem dL_law_710 : decode cL_law 710 = .ok (.iaload, 1) := by decide +kernel
theorem dL_law_711 : decode cL_law 711 = .ok (.aload_n 0, 1) := by decide +kernel
theorem dL_law_712 : decode cL_law 712 = .ok (.iload_n 3, 1) := by decide +kernel
theorem dL_law_713 : decode cL_law 713 = .ok (.iconst 2, 1) := by decide +kernel
theorem dL_law_714 : decode cL_law 714 = .ok (.iadd, 1) := by decide +kernel
theorem dL_law_715 : decode cL_law 715 = .ok (.iaload, 1) := by decide +kernel
theorem dL_law_716 : decode cL_law 716 = .ok (.invokevirtual 107, 3) := by decide +kernel
theorem dL_law_719 : decode cL_law 719 = .ok (.if_icmp .eq 182, 3) := by decide +kernel
theorem dL_law_722 : decode cL_law 722 = .ok (.iconst 0, 1) := by decide +kernel
theorem dL_law_723 : decode cL_law 723 = .ok (.ireturn, 1) := by decide +kernel
theorem dL_law_724 : decode cL_law 724 = .ok (.aload_n 1, 1) := by decide +kernel
theorem dL_law_725 : decode cL_law 725 = .ok (.aload_n 0, 1) := by decide +kernel
theorem dL_law_726 : decode cL_law 726 = .ok (.iload_n 3, 1) := by decide +kernel
theorem dL_law_727 : decode cL_law 727 = .ok (.iconst 1, 1) := by decide +kernel
theorem dL_law_728 : decode cL_law 728 = .ok (.iadd, 1) := by decide +kernel
theorem dL_law_729 : decode cL_law 729 = .ok (.iaload, 1) := by decide +kernel
theorem dL_law_730 : decode cL_law 730 = .ok (.invokevirtual 108, 3) := by decide +kernel
theorem dL_law_733 : decode cL_law 733 = .ok (.aload_n 2, 1) := by decide +kernel
theorem dL_law_734 : decode cL_law 734 = .ok (.aload_n 0, 1) := by decide +kernel
theorem dL_law_735 : decode cL_law 735 = .ok (.iload_n 3, 1) := by decide +kernel
theorem dL_law_736 : decode cL_law 736 = .ok (.iconst 1, 1) := by decide +kernel
theorem dL_law_737 : decode cL_law 737 = .ok (.iadd, 1) := by decide +kernel
theorem dL_law_738 : decode cL_law 738 = .ok (.iaload, 1) := by decide +kernel
theorem dL_law_739 : decode cL_law 739 = .ok (.invokevirtual 111, 3) := by decide +kernel
theorem dL_law_742 : decode cL_law 742 = .ok (.if_icmp .eq 159, 3) := by decide +kernel
theorem dL_law_745 : decode cL_law 745 = .ok (.iconst 0, 1) := by decide +kernel
theorem dL_law_746 : decode cL_law 746 = .ok (.ireturn, 1) := by decide +kernel
theorem dL_law_747 : decode cL_law 747 = .ok (.aload_n 1, 1) := by decide +kernel
theorem dL_law_748 : decode cL_law 748 = .ok (.invokevirtual 112, 3) := by decide +kernel
theorem dL_law_751 : decode cL_law 751 = .ok (.aload_n 2, 1) := by decide +kernel
theorem dL_law_752 : decode cL_law 752 = .ok (.invokevirtual 115, 3) := by decide +kernel
theorem dL_law_755 : decode cL_law 755 = .ok (.if_icmp .eq 146, 3) := by decide +kernel
theorem dL_law_758 : decode cL_law 758 = .ok (.iconst 0, 1) := by decide +kernel
theorem dL_law_759 : decode cL_law 759 = .ok (.ireturn, 1) := by decide +kernel
theorem dL_law_760 : decode cL_law 760 = .ok (.aload_n 1, 1) := by decide +kernel
theorem dL_law_761 : decode cL_law 761 = .ok (.invokevirtual 116, 3) := by decide +kernel
theorem dL_law_764 : decode cL_law 764 = .ok (.f2d, 1) := by decide +kernel
theorem dL_law_765 : decode cL_law 765 = .ok (.dstore 4, 2) := by decide +kernel
theorem dL_law_767 : decode cL_law 767 = .ok (.aload_n 2, 1) := by decide +kernel
theorem dL_law_768 : decode cL_law 768 = .ok (.invokevirtual 120, 3) := by decide +kernel
theorem dL_law_771 : decode cL_law 771 = .ok (.f2d, 1) := by decide +kernel
theorem dL_law_772 : decode cL_law 772 = .ok (.dstore 6, 2) := by decide +kernel
theorem dL_law_774 : decode cL_law 774 = .ok (.dload 4, 2) := by decide +kernel
theorem dL_law_776 : decode cL_law 776 = .ok (.dload 6, 2) := by decide +kernel
theorem dL_law_778 : decode cL_law 778 = .ok (.dcmp .l, 1) := by decide +kernel
theorem dL_law_779 : decode cL_law 779 = .ok (.ifCond .eq 21, 3) := by decide +kernel
theorem dL_law_782 : decode cL_law 782 = .ok (.dload 4, 2) := by decide +kernel
theorem dL_law_784 : decode cL_law 784 = .ok (.dload 4, 2) := by decide +kernel
theorem dL_law_786 : decode cL_law 786 = .ok (.dcmp .l, 1) := by decide +kernel
theorem dL_law_787 : decode cL_law 787 = .ok (.ifCond .eq 11, 3) := by decide +kernel
theorem dL_law_790 : decode cL_law 790 = .ok (.dload 6, 2) := by decide +kernel
theorem dL_law_792 : decode cL_law 792 = .ok (.dload 6, 2) := by decide +kernel
theorem dL_law_794 : decode cL_law 794 = .ok (.dcmp .l, 1) := by decide +kernel
theorem dL_law_795 : decode cL_law 795 = .ok (.ifCond .ne 5, 3) := by decide +kernel
theorem dL_law_798 : decode cL_law 798 = .ok (.iconst 0, 1) := by decide +kernel
theorem dL_law_799 : decode cL_law 799 = .ok (.ireturn, 1) := by decide +kernel
theorem dL_law_800 : decode cL_law 800 = .ok (.goto 101, 3) := by decide +kernel
theorem dL_law_803 : decode cL_law 803 = .ok (.aload_n 1, 1) := by decide +kernel
theorem dL_law_804 : decode cL_law 804 = .ok (.aload_n 0, 1) := by decide +kernel
theorem dL_law_805 : decode cL_law 805 = .ok (.iload_n 3, 1) := by decide +kernel
theorem dL_law_806 : decode cL_law 806 = .ok (.iconst 1, 1) := by decide +kernel
theorem dL_law_807 : decode cL_law 807 = .ok (.iadd, 1) := by decide +kernel
theorem dL_law_808 : decode cL_law 808 = .ok (.iaload, 1) := by decide +kernel
theorem dL_law_809 : decode cL_law 809 = .ok (.ifCond .eq 7, 3) := by decide +kernel
theorem dL_law_812 : decode cL_law 812 = .ok (.iconst 1, 1) := by decide +kernel
theorem dL_law_813 : decode cL_law 813 = .ok (.goto 4, 3) := by decide +kernel
theorem dL_law_816 : decode cL_law 816 = .ok (.iconst 0, 1) := by decide +kernel
theorem dL_law_817 : decode cL_law 817 = .ok (.invokevirtual 121, 3) := by decide +kernel
theorem dL_law_820 : decode cL_law 820 = .ok (.aload_n 2, 1) := by decide +kernel
theorem dL_law_821 : decode cL_law 821 = .ok (.aload_n 0, 1) := by decide +kernel
theorem dL_law_822 : decode cL_law 822 = .ok (.iload_n 3, 1) := by decide +kernel
theorem dL_law_823 : decode cL_law 823 = .ok (.iconst 1, 1) := by decide +kernel
theorem dL_law_824 : decode cL_law 824 = .ok (.iadd, 1) := by decide +kernel
theorem dL_law_825 : decode cL_law 825 = .ok (.iaload, 1) := by decide +kernel
theorem dL_law_826 : decode cL_law 826 = .ok (.ifCond .eq 7, 3) := by decide +kernel
theorem dL_law_829 : decode cL_law 829 = .ok (.iconst 1, 1) := by decide +kernel
theorem dL_law_830 : decode cL_law 830 = .ok (.goto 4, 3) := by decide +kernel
theorem dL_law_833 : decode cL_law 833 = .ok (.iconst 0, 1) := by decide +kernel
theorem dL_law_834 : decode cL_law 834 = .ok (.invokevirtual 124, 3) := by decide +kernel
theorem dL_law_837 : decode cL_law 837 = .ok (.if_icmp .eq 64, 3) := by decide +kernel
theorem dL_law_840 : decode cL_law 840 = .ok (.iconst 0, 1) := by decide +kernel
theorem dL_law_841 : decode cL_law 841 = .ok (.ireturn, 1) := by decide +kernel
theorem dL_law_842 : decode cL_law 842 = .ok (.aload_n 1, 1) := by decide +kernel
theorem dL_law_843 : decode cL_law 843 = .ok (.aload_n 0, 1) := by decide +kernel
theorem dL_law_844 : decode cL_law 844 = .ok (.iload_n 3, 1) := by decide +kernel
theorem dL_law_845 : decode cL_law 845 = .ok (.iconst 1, 1) := by decide +kernel
theorem dL_law_846 : decode cL_law 846 = .ok (.iadd, 1) := by decide +kernel
theorem dL_law_847 : decode cL_law 847 = .ok (.iaload, 1) := by decide +kernel
theorem dL_law_848 : decode cL_law 848 = .ok (.invokevirtual 125, 3) := by decide +kernel
theorem dL_law_851 : decode cL_law 851 = .ok (.aload_n 2, 1) := by decide +kernel
theorem dL_law_852 : decode cL_law 852 = .ok (.aload_n 0, 1) := by decide +kernel
theorem dL_law_853 : decode cL_law 853 = .ok (.iload_n 3, 1) := by decide +kernel
theorem dL_law_854 : decode cL_law 854 = .ok (.iconst 1, 1) := by decide +kernel
theorem dL_law_855 : decode cL_law 855 = .ok (.iadd, 1) := by decide +kernel
theorem dL_law_856 : decode cL_law 856 = .ok (.iaload, 1) := by decide +kernel
theorem dL_law_857 : decode cL_law 857 = .ok (.invokevirtual 128, 3) := by decide +kernel
theorem dL_law_860 : decode cL_law 860 = .ok (.if_icmp .eq 41, 3) := by decide +kernel
theorem dL_law_863 : decode cL_law 863 = .ok (.iconst 0, 1) := by decide +kernel
theorem dL_law_864 : decode cL_law 864 = .ok (.ireturn, 1) := by decide +kernel
theorem dL_law_865 : decode cL_law 865 = .ok (.aload_n 1, 1) := by decide +kernel
theorem dL_law_866 : decode cL_law 866 = .ok (.invokevirtual 129, 3) := by decide +kernel
theorem dL_law_869 : decode cL_law 869 = .ok (.aload_n 2, 1) := by decide +kernel
theorem dL_law_870 : decode cL_law 870 = .ok (.invokevirtual 132, 3) := by decide +kernel
theorem dL_law_873 : decode cL_law 873 = .ok (.if_icmp .eq 28, 3) := by decide +kernel
theorem dL_law_876 : decode cL_law 876 = .ok (.iconst 0, 1) := by decide +kernel
theorem dL_law_877 : decode cL_law 877 = .ok (.ireturn, 1) := by decide +kernel
theorem dL_law_878 : decode cL_law 878 = .ok (.aload_n 1, 1) := by decide +kernel
theorem dL_law_879 : decode cL_law 879 = .ok (.aload_n 0, 1) := by decide +kernel
theorem dL_law_880 : decode cL_law 880 = .ok (.iload_n 3, 1) := by decide +kernel
theorem dL_law_881 : decode cL_law 881 = .ok (.iconst 1, 1) := by decide +kernel
theorem dL_law_882 : decode cL_law 882 = .ok (.iadd, 1) := by decide +kernel
theorem dL_law_883 : decode cL_law 883 = .ok (.iaload, 1) := by decide +kernel
theorem dL_law_884 : decode cL_law 884 = .ok (.invokevirtual 133, 3) := by decide +kernel
theorem dL_law_887 : decode cL_law 887 = .ok (.aload_n 2, 1) := by decide +kernel
theorem dL_law_888 : decode cL_law 888 = .ok (.aload_n 0, 1) := by decide +kernel
theorem dL_law_889 : decode cL_law 889 = .ok (.iload_n 3, 1) := by decide +kernel
theorem dL_law_890 : decode cL_law 890 = .ok (.iconst 1, 1) := by decide +kernel
theorem dL_law_891 : decode cL_law 891 = .ok (.iadd, 1) := by decide +kernel
theorem dL_law_892 : decode cL_law 892 = .ok (.iaload, 1) := by decide +kernel
theorem dL_law_893 : decode cL_law 893 = .ok (.invokevirtual 136, 3) := by decide +kernel
theorem dL_law_896 : decode cL_law 896 = .ok (.if_icmp .eq 5, 3) := by decide +kernel
theorem dL_law_899 : decode cL_law 899 = .ok (.iconst 0, 1) := by decide +kernel
theorem dL_law_900 : decode cL_law 900 = .ok (.ireturn, 1) := by decide +kernel
theorem dL_law_901 : decode cL_law 901 = .ok (.iinc 3 4, 3) := by decide +kernel
theorem dL_law_904 : decode cL_law 904 = .ok (.goto (-886), 3) := by decide +kernel
theorem dL_law_907 : decode cL_law 907 = .ok (.iconst 1, 1) := by decide +kernel
theorem dL_law_908 : decode cL_law 908 = .ok (.ireturn, 1) := by decide +kernel
abbrev vwCl : List vw_C := [(RX0, TX0, 3), (RX1, TX1, 3), (RX2, TX2, 3), (RX3, TX3, 11), (RX4, TX4, 7), (RX5, TX5, 6), (RX6, TX6, 14)]
end
section
/-! A plain machine: values are the JVM's, a reference is the number of a cell; numbers 0 to 3 are rows that are only read. -/
abbrev m_Cel : Type := (Nat × List Int32) ⊕ ((Nat × List Value) ⊕ (Nat × List (Option Nat)))
abbrev m_Hp : Type := List m_Cel
abbrev m_Ls : Type := List (Option Value)
abbrev m_FS : Type := Nat × m_Ls × List Value × m_Hp
abbrev m_Res : Type := m_FS ⊕ ((Nat × List Value × List Value) ⊕ Option Value)
abbrev m_Op : Type := Nat → m_Ls → List Value → m_Hp → Option m_Res
abbrev m_Tab : Type := List (Nat × m_Op)
abbrev m_Prog : Type := List (m_Tab × Nat)
abbrev m_CR : Type := Nat → List Value → m_Hp → Option Value → m_Hp → Prop
def m_at : m_Tab → Nat → Option m_Op
  | [], _ => none
  | (k, o) :: l, pc => bif Nat.beq k pc then some o else m_at l pc
def m_Ex (C : m_CR) (tab : m_Tab) : Nat → Nat → m_Ls → List Value → m_Hp → Option Value → m_Hp → Prop
  | 0, _, _, _, _, _, _ => False
  | n + 1, pc, ls, st, h, r, h' => ∃ (op : m_Op) (x : m_Res), m_at tab pc = some op ∧ op pc ls st h = some x ∧ match x with
    | .inl (pc1, ls1, st1, h1) => m_Ex C tab n pc1 ls1 st1 h1 r h'
    | .inr (.inl (z, as, rest)) => ∃ r1 h1, C z as h r1 h1 ∧ m_Ex C tab n (pc + 3) ls (r1.toList ++ rest) h1 r h'
    | .inr (.inr v) => r = v ∧ h' = h
def m_c1 : Value → Bool
  | .long _ => false
  | .double _ => false
  | _ => true
def m_entry (as : List Value) (nL : Nat) : m_Ls := as.map some ++ List.replicate (nL - as.length) none
def m_Call (P : m_Prog) : Nat → m_CR
  | 0, _, _, _, _, _ => False
  | d + 1, z, as, h, r, h' => ∃ (q : m_Tab × Nat) (n : Nat), P[z]? = some q ∧ (Nat.ble as.length q.2 && as.all m_c1) = true ∧ m_Ex (m_Call P d) q.1 n 0 (m_entry as q.2) [] h r h'
/-- from here the method comes to an end that Q allows -/
def m_E (C : m_CR) (tab : m_Tab) (pc : Nat) (ls : m_Ls) (st : List Value) (h : m_Hp) (Q : Option Value → m_Hp → Prop) : Prop := ∃ n r h', m_Ex C tab n pc ls st h r h' ∧ Q r h'
def m_run (tab : m_Tab) : Nat → m_FS → Option m_FS
  | 0, s => some s
  | n + 1, (pc, ls, st, h) => match m_at tab pc with
    | some op => match op pc ls st h with
      | some (.inl s) => m_run tab n s
      | _ => none
    | none => none
section
variable {C : m_CR} {tab : m_Tab} {pc pc1 : Nat} {ls ls1 : m_Ls} {st st1 : List Value} {h h1 : m_Hp} {Q : Option Value → m_Hp → Prop}
theorem m_E.op {o : m_Op} (e1 : m_at tab pc = some o) (e2 : o pc ls st h = some (.inl (pc1, ls1, st1, h1))) (k : m_E C tab pc1 ls1 st1 h1 Q) : m_E C tab pc ls st h Q := by
  obtain ⟨n, r, h', k1, k2⟩ := k
  exact ⟨n + 1, r, h', ⟨o, _, e1, e2, k1⟩, k2⟩
theorem m_E.run (n : Nat) (e : m_run tab n (pc, ls, st, h) = some (pc1, ls1, st1, h1)) (k : m_E C tab pc1 ls1 st1 h1 Q) : m_E C tab pc ls st h Q := by
  induction n generalizing pc ls st h with
  | zero => cases e; exact k
  | succ n ih =>
    rw [m_run] at e
    cases h3 : m_at tab pc with
    | none => rw [h3] at e; cases e
    | some o =>
      rw [h3] at e
      dsimp only at e
      cases h4 : o pc ls st h with
      | none => rw [h4] at e; cases e
      | some x =>
        rw [h4] at e
        cases x with
        | inr y => cases e
        | inl s =>
          obtain ⟨p2, l2, s2, h2⟩ := s
          exact m_E.op h3 h4 (ih e)
theorem m_E.ite {c : Prop} [Decidable c] {t f : Nat} (kt : c → m_E C tab t ls st h Q) (kf : ¬ c → m_E C tab f ls st h Q) : m_E C tab (if c then t else f) ls st h Q := by
  by_cases hc : c
  · rw [if_pos hc]; exact kt hc
  · rw [if_neg hc]; exact kf hc
theorem m_E.yes {c : Prop} [Decidable c] {t f : Nat} (hc : c) (kt : m_E C tab t ls st h Q) : m_E C tab (if c then t else f) ls st h Q := by
  rw [if_pos hc]; exact kt
theorem m_E.no {c : Prop} [Decidable c] {t f : Nat} (hc : ¬ c) (kf : m_E C tab f ls st h Q) : m_E C tab (if c then t else f) ls st h Q := by
  rw [if_neg hc]; exact kf
theorem m_E.call {o : m_Op} {z : Nat} {as rest : List Value} {r1 : Option Value} (e1 : m_at tab pc = some o) (e2 : o pc ls st h = some (.inr (.inl (z, as, rest)))) (hc : C z as h r1 h1) (k : m_E C tab (pc + 3) ls (r1.toList ++ rest) h1 Q) : m_E C tab pc ls st h Q := by
  obtain ⟨n, r, h', k1, k2⟩ := k
  exact ⟨n + 1, r, h', ⟨o, _, e1, e2, r1, h1, hc, k1⟩, k2⟩
theorem m_E.cv {o : m_Op} {z : Nat} {as rest : List Value} {v : Value} (e1 : m_at tab pc = some o) (e2 : o pc ls st h = some (.inr (.inl (z, as, rest)))) (hc : C z as h (some v) h1) (k : m_E C tab (pc + 3) ls (v :: rest) h1 Q) : m_E C tab pc ls st h Q := m_E.call e1 e2 hc k
theorem m_E.cn {o : m_Op} {z : Nat} {as rest : List Value} (e1 : m_at tab pc = some o) (e2 : o pc ls st h = some (.inr (.inl (z, as, rest)))) (hc : C z as h none h1) (k : m_E C tab (pc + 3) ls rest h1 Q) : m_E C tab pc ls st h Q := m_E.call e1 e2 hc k
theorem m_E.ret {o : m_Op} {v : Option Value} (e1 : m_at tab pc = some o) (e2 : o pc ls st h = some (.inr (.inr v))) (k : Q v h) : m_E C tab pc ls st h Q := ⟨1, v, h, ⟨o, _, e1, e2, rfl, rfl⟩, k⟩
theorem m_E.up (σ : Nat → m_FS) (n : Nat) (I : Nat → Prop) (hs : ∀ i, i < n → I i → (I (i + 1) → m_E C tab (σ (i + 1)).1 (σ (i + 1)).2.1 (σ (i + 1)).2.2.1 (σ (i + 1)).2.2.2 Q) → m_E C tab (σ i).1 (σ i).2.1 (σ i).2.2.1 (σ i).2.2.2 Q)
    (h0 : I 0) (k : I n → m_E C tab (σ n).1 (σ n).2.1 (σ n).2.2.1 (σ n).2.2.2 Q) : m_E C tab (σ 0).1 (σ 0).2.1 (σ 0).2.2.1 (σ 0).2.2.2 Q := by
  have key : ∀ j i, i + j = n → I i → m_E C tab (σ i).1 (σ i).2.1 (σ i).2.2.1 (σ i).2.2.2 Q := by
    intro j
    induction j with
    | zero => intro i e hi; have e2 : i = n := by omega
              subst e2; exact k hi
    | succ j ih => intro i e hi; exact hs i (by omega) hi (fun h2 => ih (i + 1) (by omega) h2)
  exact key n 0 (by omega) h0
end
theorem m_call_of {P : m_Prog} {d z nL : Nat} {tab : m_Tab} {as : List Value} {h h' : m_Hp} {r : Option Value} (hp : P[z]? = some (tab, nL)) (ha : (Nat.ble as.length nL && as.all m_c1) = true) (hE : m_E (m_Call P d) tab 0 (m_entry as nL) [] h (fun r2 h2 => r2 = r ∧ h2 = h')) : m_Call P (d + 1) z as h r h' := by
  obtain ⟨n, r2, h2, k1, rfl, rfl⟩ := hE
  exact ⟨(tab, nL), n, hp, ha, k1⟩
theorem m_call_ex {P : m_Prog} {d z nL : Nat} {tab : m_Tab} {as : List Value} {h : m_Hp} {Q : Option Value → m_Hp → Prop} (hp : P[z]? = some (tab, nL)) (ha : (Nat.ble as.length nL && as.all m_c1) = true) (hE : m_E (m_Call P d) tab 0 (m_entry as nL) [] h Q) : ∃ r h', m_Call P (d + 1) z as h r h' ∧ Q r h' := by
  obtain ⟨n, r2, h2, k1, k2⟩ := hE
  exact ⟨r2, h2, ⟨(tab, nL), n, hp, ha, k1⟩, k2⟩
theorem m_Ex.mono {C C' : m_CR} (hC : ∀ z as h r h', C z as h r h' → C' z as h r h') {tab : m_Tab} : ∀ (n pc : Nat) (ls : m_Ls) (st : List Value) (h : m_Hp) (r : Option Value) (h' : m_Hp), m_Ex C tab n pc ls st h r h' → m_Ex C' tab n pc ls st h r h' := by
  intro n
  induction n with
  | zero => intro _ _ _ _ _ _ k; exact k
  | succ n ih =>
    intro pc ls st h r h' k
    obtain ⟨op, x, e1, e2, k⟩ := k
    refine ⟨op, x, e1, e2, ?_⟩
    rcases x with ⟨p1, l1, s1, h1⟩ | ⟨z, as, rest⟩ | v
    · exact ih _ _ _ _ _ _ k
    · obtain ⟨r1, h1, c1, k⟩ := k
      exact ⟨r1, h1, hC _ _ _ _ _ c1, ih _ _ _ _ _ _ k⟩
    · exact k
theorem m_Call.up {P : m_Prog} : ∀ (d z : Nat) (as : List Value) (h : m_Hp) (r : Option Value) (h' : m_Hp), m_Call P d z as h r h' → m_Call P (d + 1) z as h r h' := by
  intro d
  induction d with
  | zero => intro _ _ _ _ _ k; exact k.elim
  | succ d ih =>
    intro z as h r h' k
    obtain ⟨q, n, e, e2, k⟩ := k
    exact ⟨q, n, e, e2, m_Ex.mono ih _ _ _ _ _ _ _ k⟩
theorem m_Call.le {P : m_Prog} {d d' z : Nat} {as : List Value} {h : m_Hp} {r : Option Value} {h' : m_Hp} (hd : d ≤ d') (k : m_Call P d z as h r h') : m_Call P d' z as h r h' := by
  induction hd with
  | refl => exact k
  | step _ ih => exact m_Call.up _ _ _ _ _ _ ih
/-! the instructions -/
/-- no double stands just before -/
def m_ok (ls : m_Ls) : Nat → Bool
  | 0 => true
  | j + 1 => match ls[j]? with
    | some (some v) => m_c1 v
    | _ => true
def m_no (_ : Nat) (_ : m_Ls) (_ : List Value) (_ : m_Hp) : Option m_Res := none
def m_const (v : Value) (w : Nat) : m_Op := fun pc ls st h => some (.inl (pc + w, ls, v :: st, h))
def m_iload (i w : Nat) : m_Op := fun pc ls st h => match ls[i]? with
  | some (some (.int x)) => some (.inl (pc + w, ls, .int x :: st, h))
  | _ => none
def m_fload (i w : Nat) : m_Op := fun pc ls st h => match ls[i]? with
  | some (some (.float x)) => some (.inl (pc + w, ls, .float x :: st, h))
  | _ => none
def m_dload (i w : Nat) : m_Op := fun pc ls st h => match ls[i]? with
  | some (some (.double x)) => some (.inl (pc + w, ls, .double x :: st, h))
  | _ => none
def m_aload (i w : Nat) : m_Op := fun pc ls st h => match ls[i]? with
  | some (some (.ref x)) => some (.inl (pc + w, ls, .ref x :: st, h))
  | some (some .null) => some (.inl (pc + w, ls, .null :: st, h))
  | _ => none
def m_sto (i w : Nat) (v : Value) (st : List Value) : m_Op := fun pc ls _ h => bif m_ok ls i && Nat.blt i ls.length then some (.inl (pc + w, ls.set i (some v), st, h)) else none
def m_istore (i w : Nat) : m_Op := fun pc ls st h => match st with
  | .int x :: st => m_sto i w (.int x) st pc ls st h
  | _ => none
def m_fstore (i w : Nat) : m_Op := fun pc ls st h => match st with
  | .float x :: st => m_sto i w (.float x) st pc ls st h
  | _ => none
def m_astore (i w : Nat) : m_Op := fun pc ls st h => match st with
  | .ref x :: st => m_sto i w (.ref x) st pc ls st h
  | .null :: st => m_sto i w .null st pc ls st h
  | _ => none
def m_dstore (i w : Nat) : m_Op := fun pc ls st h => match st with
  | .double x :: st => bif m_ok ls i && Nat.blt (i + 1) ls.length then some (.inl (pc + w, (ls.set (i + 1) none).set i (some (.double x)), st, h)) else none
  | _ => none
def m_iinc (i : Nat) (n : Int32) : m_Op := fun pc ls st h => match ls[i]? with
  | some (some (.int x)) => m_sto i 3 (.int (x + n)) st pc ls st h
  | _ => none
def m_bin (f : Int32 → Int32 → Int32) : m_Op := fun pc ls st h => match st with
  | .int y :: .int x :: st => some (.inl (pc + 1, ls, .int (f x y) :: st, h))
  | _ => none
def m_un (f : Int32 → Int32) : m_Op := fun pc ls st h => match st with
  | .int x :: st => some (.inl (pc + 1, ls, .int (f x) :: st, h))
  | _ => none
def m_div (f : Int32 → Int32 → Int32) : m_Op := fun pc ls st h => match st with
  | .int y :: .int x :: st => if y = 0 then none else some (.inl (pc + 1, ls, .int (f x y) :: st, h))
  | _ => none
def m_dup : m_Op := fun pc ls st h => match st with
  | .ref x :: st => some (.inl (pc + 1, ls, .ref x :: .ref x :: st, h))
  | .int x :: st => some (.inl (pc + 1, ls, .int x :: .int x :: st, h))
  | _ => none
def m_dup2 : m_Op := fun pc ls st h => match st with
  | .int i :: .ref x :: st => some (.inl (pc + 1, ls, .int i :: .ref x :: .int i :: .ref x :: st, h))
  | _ => none
def m_if (c : Int32 → Bool) (t : Nat) : m_Op := fun pc ls st h => match st with
  | .int x :: st => some (.inl (if c x = true then t else pc + 3, ls, st, h))
  | _ => none
def m_icmp (c : Int32 → Int32 → Bool) (t : Nat) : m_Op := fun pc ls st h => match st with
  | .int y :: .int x :: st => some (.inl (if c x y = true then t else pc + 3, ls, st, h))
  | _ => none
def m_ifnull (t : Nat) : m_Op := fun pc ls st h => match st with
  | .null :: st => some (.inl (t, ls, st, h))
  | .ref _ :: st => some (.inl (pc + 3, ls, st, h))
  | _ => none
def m_ifnonnull (t : Nat) : m_Op := fun pc ls st h => match st with
  | .null :: st => some (.inl (pc + 3, ls, st, h))
  | .ref _ :: st => some (.inl (t, ls, st, h))
  | _ => none
def m_goto (t : Nat) : m_Op := fun _ ls st h => some (.inl (t, ls, st, h))
def m_tsw (lo hi : Int) (dflt : Nat) (tg : List Nat) : m_Op := fun _ ls st h => match st with
  | .int x :: st => some (.inl (if x.toInt < lo ∨ hi < x.toInt then dflt else tg.getD (x.toInt - lo).toNat 0, ls, st, h))
  | _ => none
def m_lsw (lo hi : Int32) (dflt t0 t1 : Nat) : m_Op := fun _ ls st h => match st with
  | .int x :: st => some (.inl (if x = lo then t0 else if x = hi then t1 else dflt, ls, st, h))
  | _ => none
def m_i2f : m_Op := fun pc ls st h => match st with
  | .int x :: st => some (.inl (pc + 1, ls, .float (FP.i2f x) :: st, h))
  | _ => none
def m_fbin (f : UInt32 → UInt32 → UInt32) : m_Op := fun pc ls st h => match st with
  | .float y :: .float x :: st => if (f x y) &&& 0x7fffffff ≤ 0x7f800000 then some (.inl (pc + 1, ls, .float (f x y) :: st, h)) else none
  | _ => none
def m_f2d : m_Op := fun pc ls st h => match st with
  | .float x :: st => if (FP.f2d x) &&& 0x7fffffffffffffff ≤ 0x7ff0000000000000 then some (.inl (pc + 1, ls, .double (FP.f2d x) :: st, h)) else none
  | _ => none
def m_dcmp (op : CmpOp) : m_Op := fun pc ls st h => match st with
  | .double y :: .double x :: st => some (.inl (pc + 1, ls, .int (Op.cmpValue (FP.dcmp x y) op) :: st, h))
  | _ => none
def m_get (ci k : Nat) : m_Op := fun pc ls st h => match st with
  | .ref a :: st => match h[a]? with
    | some (.inr (.inl (cj, fs))) => match fs[k]? with
      | some v => bif Nat.beq cj ci && Nat.blt 3 a then some (.inl (pc + 3, ls, v :: st, h)) else none
      | none => none
    | _ => none
  | _ => none
def m_fit : Nat → Value → Bool
  | 0, .int _ => true
  | 1, .ref _ => true
  | 1, .null => true
  | 2, .int x => x == 0 || x == 1
  | _, _ => false
def m_put (ci k ty : Nat) : m_Op := fun pc ls st h => match st with
  | v :: .ref a :: st => match h[a]? with
    | some (.inr (.inl (cj, fs))) => bif Nat.beq cj ci && Nat.blt 3 a && m_fit ty v && Nat.blt k fs.length then some (.inl (pc + 3, ls, st, h.set a (.inr (.inl (ci, fs.set k v))))) else none
    | _ => none
  | _ => none
def m_gets (k : Nat) : m_Op := fun pc ls st h => some (.inl (pc + 3, ls, .ref k :: st, h))
def m_len : m_Op := fun pc ls st h => match st with
  | .ref a :: st => match h[a]? with
    | some (.inl (u, xs)) => bif Nat.blt u 4 then some (.inl (pc + 1, ls, .int (Int32.ofNat xs.length) :: st, h)) else none
    | some (.inr (.inr (u, rs))) => bif Nat.blt u 4 && Nat.blt 3 a then some (.inl (pc + 1, ls, .int (Int32.ofNat rs.length) :: st, h)) else none
    | _ => none
  | _ => none
/-- loads from a row of kind t (0 int, 1 char) -/
def m_ild (t : Nat) : m_Op := fun pc ls st h => match st with
  | .int i :: .ref a :: st => match h[a]? with
    | some (.inl (u, xs)) => if (i < 0 ∨ xs.length ≤ i.toNatClampNeg) then none else bif Nat.beq u t && (Nat.beq t 0 || Nat.blt 3 a) then some (.inl (pc + 1, ls, .int (xs.getD i.toNatClampNeg 0) :: st, h)) else none
    | _ => none
  | _ => none
def m_ist (t : Nat) (f : Int32 → Int32) : m_Op := fun pc ls st h => match st with
  | .int x :: .int i :: .ref a :: st => match h[a]? with
    | some (.inl (u, xs)) => if (i < 0 ∨ xs.length ≤ i.toNatClampNeg) then none else bif Nat.beq u t && Nat.blt 3 a then some (.inl (pc + 1, ls, st, h.set a (.inl (t, xs.set i.toNatClampNeg (f x))))) else none
    | _ => none
  | _ => none
def m_rf : Option Nat → Value
  | none => .null
  | some k => .ref k
def m_ald : m_Op := fun pc ls st h => match st with
  | .int i :: .ref a :: st => match h[a]? with
    | some (.inr (.inr (u, rs))) => if (i < 0 ∨ rs.length ≤ i.toNatClampNeg) then none else bif (Nat.beq u 2 || Nat.beq u 3) && Nat.blt 3 a then some (.inl (pc + 1, ls, m_rf (rs.getD i.toNatClampNeg none) :: st, h)) else none
    | _ => none
  | _ => none
/-- kind of row t, for the class of number ci -/
def m_ast (t ci : Nat) : m_Op := fun pc ls st h => match st with
  | .null :: .int i :: .ref a :: st => match h[a]? with
    | some (.inr (.inr (u, rs))) => if (i < 0 ∨ rs.length ≤ i.toNatClampNeg) then none else bif Nat.beq u t && Nat.blt 3 a then some (.inl (pc + 1, ls, st, h.set a (.inr (.inr (t, rs.set i.toNatClampNeg none))))) else none
    | _ => none
  | .ref b :: .int i :: .ref a :: st => match h[a]? with
    | some (.inr (.inr (u, rs))) => match h[b]? with
      | some (.inr (.inl (cj, _))) => if (i < 0 ∨ rs.length ≤ i.toNatClampNeg) then none else bif Nat.beq u t && Nat.blt 3 a && Nat.beq cj ci && Nat.blt 3 b then some (.inl (pc + 1, ls, st, h.set a (.inr (.inr (t, rs.set i.toNatClampNeg (some b)))))) else none
      | _ => none
    | _ => none
  | _ => none
def m_new (ci : Nat) (fs : List Value) : m_Op := fun pc ls st h => some (.inl (pc + 3, ls, .ref h.length :: st, h ++ [.inr (.inl (ci, fs))]))
def m_nar (t : Nat) : m_Op := fun pc ls st h => match st with
  | .int n :: st => if n < 0 ∨ 100000 < n.toNatClampNeg then none else some (.inl (pc + 2, ls, .ref h.length :: st, h ++ [.inl (t, List.replicate n.toNatClampNeg 0)]))
  | _ => none
def m_anar (t : Nat) : m_Op := fun pc ls st h => match st with
  | .int n :: st => if n < 0 ∨ 100000 < n.toNatClampNeg then none else some (.inl (pc + 3, ls, .ref h.length :: st, h ++ [.inr (.inr (t, List.replicate n.toNatClampNeg none))]))
  | _ => none
def m_cs (st : List Value) : Nat := (st.map fun v => v.category).sum
def m_init0 : m_Op := fun pc ls st h => match st with
  | .ref _ :: st => bif Nat.ble (m_cs st) 8 then some (.inl (pc + 3, ls, st, h)) else none
  | _ => none
def m_copy : m_Op := fun pc ls st h => match st with
  | .int n :: .int dp :: .ref b :: .int sp :: .ref a :: st => match h[a]?, h[b]? with
    | some (.inl (0, xs)), some (.inl (0, ys)) => if sp = 0 ∧ dp = 0 ∧ ¬ n < 0 ∧ n.toNatClampNeg ≤ xs.length ∧ n.toNatClampNeg ≤ ys.length then bif Nat.blt 3 b && Nat.ble (m_cs st) 8 then some (.inl (pc + 3, ls, st, h.set b (.inl (0, xs.take n.toNatClampNeg ++ ys.drop n.toNatClampNeg)))) else none else none
    | _, _ => none
  | _ => none
def m_min : m_Op := fun pc ls st h => match st with
  | .int y :: .int x :: st => bif Nat.ble (m_cs st) 8 then some (.inl (pc + 3, ls, .int (if y < x then y else x) :: st, h)) else none
  | _ => none
def m_abs : m_Op := fun pc ls st h => match st with
  | .int x :: st => bif Nat.ble (m_cs st) 8 then some (.inl (pc + 3, ls, .int (if 0 ≤ x then x else 0 - x) :: st, h)) else none
  | _ => none
/-- a call of method z with n arguments; of one of an object: the object, of class ci, below them -/
def m_cst (z n : Nat) : m_Op := fun _ _ st _ => bif Nat.ble n st.length && Nat.ble (m_cs (st.drop n)) 8 && (st.take n).all m_c1 then some (.inr (.inl (z, (st.take n).reverse, st.drop n))) else none
def m_cob (z n ci : Nat) : m_Op := fun _ _ st h => match st.drop n with
  | .ref a :: rest => match h[a]? with
    | some (.inr (.inl (cj, _))) => bif Nat.beq cj ci && Nat.blt 3 a && Nat.ble (m_cs rest) 8 && (st.take n).all m_c1 then some (.inr (.inl (z, .ref a :: (st.take n).reverse, rest))) else none
    | _ => none
  | _ => none
def m_iret : m_Op := fun _ _ st _ => match st with
  | [.int x] => some (.inr (.inr (some (.int x))))
  | _ => none
/-- returns a boolean or a char: what is kept of x is x -/
def m_zret (f : Int32 → Int32) : m_Op := fun _ _ st _ => match st with
  | [.int x] => if f x = x then some (.inr (.inr (some (.int x)))) else none
  | _ => none
def m_fret : m_Op := fun _ _ st _ => match st with
  | [.float x] => some (.inr (.inr (some (.float x))))
  | _ => none
def m_aret : m_Op := fun _ _ st _ => match st with
  | [.ref x] => some (.inr (.inr (some (.ref x))))
  | [.null] => some (.inr (.inr (some .null)))
  | _ => none
def m_vret : m_Op := fun _ _ st _ => match st with
  | [] => some (.inr (.inr none))
  | _ => none
end
section
/-! The plain machine's cells upon the JVM's heap -/
def m_ad (ra : Nat → Nat) (B k : Nat) : Nat := if k < 4 then ra k else B + (k - 4)
def m_cv (ra : Nat → Nat) (B : Nat) : Value → Value
  | .ref k => .ref (m_ad ra B k)
  | v => v
def m_ce (cA : Nat → ClassId) (ra : Nat → Nat) (B : Nat) : m_Cel → va_E
  | .inl (t, xs) => .inl (cA t, xs.length, .inl (fun j => xs.getD j 0))
  | .inr (.inl (ci, fs)) => .inr (ci, fs.map (m_cv ra B))
  | .inr (.inr (t, rs)) => .inl (cA t, rs.length, .inr (.inr (.inr (.inr (fun j => (rs.getD j none).map (m_ad ra B))))))
def m_ws (cA : Nat → ClassId) (ra : Nat → Nat) (B : Nat) (h : m_Hp) : va_W := (h.drop 4).mapIdx (fun k c => (B + k, m_ce cA ra B c))
def m_A (B : Nat) : Nat → Prop := fun q => B ≤ q
def m_tys (cA : Nat → ClassId) : List (ClassId × FieldType) := [(cA 0, .int), (cA 1, .char), (cA 2, .object RX2), (cA 3, .object RX3)]
def m_csz : m_Cel → Nat
  | .inl (_, xs) => xs.length
  | .inr (.inl (_, fs)) => fs.length
  | .inr (.inr (_, rs)) => rs.length
def m_sz (h : m_Hp) : Nat := (h.map m_csz).sum
def m_mono (h h1 : m_Hp) : Prop := h.length ≤ h1.length ∧ m_sz h ≤ m_sz h1 ∧ h1.take 4 = h.take 4
theorem m_mono.rf {h : m_Hp} : m_mono h h := ⟨Nat.le_refl _, Nat.le_refl _, rfl⟩
theorem m_mono.tr {a b c : m_Hp} (h1 : m_mono a b) (h2 : m_mono b c) : m_mono a c := ⟨Nat.le_trans h1.1 h2.1, Nat.le_trans h1.2.1 h2.2.1, h2.2.2.trans h1.2.2⟩
theorem m_sz_set {h : m_Hp} {k : Nat} {c c1 : m_Cel} (hk : h[k]? = some c) (hc : m_csz c1 = m_csz c) : m_sz (h.set k c1) = m_sz h := by
  unfold m_sz
  rw [List.map_set, hc]
  congr 1
  apply List.ext_getElem?
  intro i
  by_cases hi : i = k
  · subst hi
    rw [List.getElem?_set_self', List.getElem?_map, hk]; rfl
  · rw [List.getElem?_set_ne (Ne.symm hi)]
theorem m_mono.set {h : m_Hp} {k : Nat} {c c1 : m_Cel} (hk : h[k]? = some c) (h3 : 3 < k) (hc : m_csz c1 = m_csz c) : m_mono h (h.set k c1) := by
  refine ⟨by rw [List.length_set]; exact Nat.le_refl _, by rw [m_sz_set hk hc]; exact Nat.le_refl _, ?_⟩
  rw [List.take_set_of_le (by omega)]
theorem m_mono.app {h : m_Hp} {c : m_Cel} (h4 : 4 ≤ h.length) : m_mono h (h ++ [c]) := by
  refine ⟨by rw [List.length_append]; omega, by unfold m_sz; rw [List.map_append, List.sum_append]; omega, ?_⟩
  rw [List.take_append_of_le_length h4]
theorem m_sz_app {h : m_Hp} {c : m_Cel} : m_sz (h ++ [c]) = m_sz h + m_csz c := by
  unfold m_sz; rw [List.map_append, List.sum_append]; simp
section
variable {D : va_G} {cA : Nat → ClassId} {ra : Nat → Nat} {B : Nat} {ro : List (List Int32)}
theorem m_ws_get {h : m_Hp} {k : Nat} {c : m_Cel} (hk : h[k]? = some c) (h3 : 3 < k) : (m_ws cA ra B h)[k - 4]? = some (m_ad ra B k, m_ce cA ra B c) := by
  unfold m_ws
  rw [List.getElem?_mapIdx, List.getElem?_drop, show 4 + (k - 4) = k by omega, hk]
  simp [m_ad, show ¬ k < 4 by omega]
theorem m_ws_set {h : m_Hp} {k : Nat} {c : m_Cel} (h3 : 3 < k) : (m_ws cA ra B h).set (k - 4) (m_ad ra B k, m_ce cA ra B c) = m_ws cA ra B (h.set k c) := by
  unfold m_ws
  rw [List.drop_set, if_neg (by omega), List.mapIdx_set]
  simp [m_ad, show ¬ k < 4 by omega]
theorem m_ws_app {h : m_Hp} {c : m_Cel} (h4 : 4 ≤ h.length) : m_ws cA ra B (h ++ [c]) = m_ws cA ra B h ++ [(m_ad ra B h.length, m_ce cA ra B c)] := by
  unfold m_ws
  rw [List.drop_append_of_le_length h4, List.mapIdx_append]
  simp [m_ad, show ¬ h.length < 4 by omega]
theorem m_ws_at {h : m_Hp} {k : Nat} {q : Nat × va_E} (hk : (m_ws cA ra B h)[k]? = some q) : q.1 = B + k ∧ k + 4 < h.length := by
  unfold m_ws at hk
  rw [List.getElem?_mapIdx, List.getElem?_drop] at hk
  cases hc : h[4 + k]? with
  | none => rw [hc] at hk; cases hk
  | some c =>
    rw [hc] at hk
    cases hk
    refine ⟨rfl, ?_⟩
    have := (List.getElem?_eq_some_iff.mp hc).1
    omega
theorem m_wsD {h : m_Hp} : va_D (m_A B) (m_ws cA ra B h) := by
  refine ⟨fun i j x y hi hj e => ?_, fun k q hk => ?_⟩
  · have h1 := (m_ws_at hi).1
    have h2 := (m_ws_at hj).1
    omega
  · have h1 := (m_ws_at hk).1
    show B ≤ q.1
    omega
def m_Hd (D : va_G) (cA : Nat → ClassId) (ra : Nat → Nat) (B : Nat) (h : m_Hp) (H : Heap) : Prop := va_P D vwCl (m_ws cA ra B h) H ∧ B + h.length ≤ H.size + 4
/-- the rows that are only read -/
def m_Ro (ra : Nat → Nat) (B : Nat) (ro : List (List Int32)) (U : State) (H : Heap) : Prop := ∀ k xs, ro[k]? = some xs → va_T .int (ra k) xs.length (fun j => .int (xs.getD j 0)) (m_A B) U H
def m_nest : List Cond := lw_tbl.filter (fun w => !goodWord w && w.onTables && w.keepsH)
def m_gd : List Cond := lw_tbl.filter goodWord
/-- what the tables and the cells below say -/
def m_Wd (D : va_G) (cA : Nat → ClassId) (ra : Nat → Nat) (B : Nat) (ro : List (List Int32)) (U : State) (H : Heap) : Prop :=
  va_K D vwCl (m_tys cA) U ∧ m_Ro ra B ro U H ∧ va_Z "CardSheets" "FIRST_OF_SETTING" "[I" (.ref (ra 0)) (m_A B) U H ∧ va_Z "CardSheets" "LEAST_OF_SETTING" "[I" (.ref (ra 1)) (m_A B) U H ∧ va_Z "CardSheets" "MOST_OF_SETTING" "[I" (.ref (ra 2)) (m_A B) U H ∧ (∀ w ∈ m_nest, va_Nw w U) ∧ va_AO RX2 U ∧ va_AO RX3 U ∧ B ≤ H.size
theorem m_nest_warm {s U : State} (hW : s.WarmedH U.vm) (h : ∀ w ∈ m_nest, va_Nw w s) : ∀ w ∈ m_nest, va_Nw w U := by
  intro w hw
  have h1 := h w hw
  unfold m_nest at hw
  have h2 := (List.mem_filter.mp hw).2
  simp only [Bool.and_eq_true] at h2
  obtain ⟨⟨h3, h4⟩, h5⟩ := h2
  cases w <;> first
    | exact va_Nw.warmF hW h1
    | exact va_Nw.warmM hW h1
    | (exfalso; revert h3 h4 h5; simp [goodWord, Cond.keeps, Cond.keepsH, Cond.steady, Cond.onTables]; done)
    | (exfalso; revert h3 h4 h5; simp [goodWord, Cond.keeps, Cond.keepsH, Cond.steady, Cond.onTables]; intros; simp_all; done)
theorem m_Wd.warm {s U : State} {H : Heap} (hW : s.WarmedH U.vm) (h : m_Wd D cA ra B ro s H) : m_Wd D cA ra B ro U H := by
  obtain ⟨h1, h2, h3, h4, h5, h6, h7, h8, h9⟩ := h
  have ha := hW.alike
  exact ⟨va_K.moved ha h1, fun k xs hk => va_T.moved ha (h2 k xs hk), va_Z.moved ha h3, va_Z.moved ha h4, va_Z.moved ha h5, m_nest_warm hW h6, va_AO.moved ha h7, va_AO.moved ha h8, h9⟩
theorem m_Wd.kept {U : State} {H H1 : Heap} (hz : H.size ≤ H1.size) (hq : ∀ a : Nat, a < H.size → ¬ m_A B a → H1[a]? = H[a]?) (h : m_Wd D cA ra B ro U H) : m_Wd D cA ra B ro U H1 := by
  obtain ⟨h1, h2, h3, h4, h5, h6, h7, h8, h9⟩ := h
  exact ⟨h1, fun k xs hk => va_T.kept (h2 k xs hk) hq, va_Z.kept h3 hq, va_Z.kept h4 hq, va_Z.kept h5 hq, h6, h7, h8, Nat.le_trans h9 hz⟩
theorem m_Wd.same {u U : State} {H : Heap} (hv : u.vm = U.vm) (h : m_Wd D cA ra B ro u H) : m_Wd D cA ra B ro U H := by
  obtain ⟨h1, h2, h3, h4, h5, h6, h7, h8, h9⟩ := h
  have ha : u.vm.Alike U.vm := by rw [hv]; exact Vm.Alike.refl _
  refine ⟨va_K.moved ha h1, fun k xs hk => va_T.moved ha (h2 k xs hk), va_Z.moved ha h3, va_Z.moved ha h4, va_Z.moved ha h5, fun w hw => ?_, va_AO.moved ha h7, va_AO.moved ha h8, h9⟩
  have h10 := (List.mem_filter.mp hw).2
  simp only [Bool.and_eq_true] at h10
  exact va_Nw.same h10.1.2 hv (h6 w hw)
/-! locals -/
def m_Lv (ra : Nat → Nat) (B : Nat) (al : Array Slot) (nL : Nat) (ls : m_Ls) : Prop := ls.length = nL ∧ al.size = nL ∧ lv_wf al ∧ ∀ (i : Nat) (v : Value), ls[i]? = some (some v) → al[i]? = some (Slot.val (m_cv ra B v))
def m_lvl (ra : Nat → Nat) (B : Nat) : Nat → m_Ls → List (Nat × Value)
  | _, [] => []
  | i, some v :: l => (i, m_cv ra B v) :: m_lvl ra B (i + 1) l
  | i, none :: l => m_lvl ra B (i + 1) l
theorem m_lvl_mem : ∀ (ls : m_Ls) (i : Nat) (q : Nat × Value), q ∈ m_lvl ra B i ls ↔ ∃ j v, ls[j]? = some (some v) ∧ q = (i + j, m_cv ra B v)
  | [], i, q => by simp [m_lvl]
  | some w :: l, i, q => by
    rw [m_lvl, List.mem_cons, m_lvl_mem l (i + 1) q]
    constructor
    · rintro (h | ⟨j, v, h1, h2⟩)
      · exact ⟨0, w, rfl, h⟩
      · exact ⟨j + 1, v, h1, by rw [h2]; congr 1; omega⟩
    · rintro ⟨j, v, h1, h2⟩
      cases j with
      | zero => cases h1; exact Or.inl h2
      | succ j => exact Or.inr ⟨j, v, h1, by rw [h2]; congr 1; omega⟩
  | none :: l, i, q => by
    rw [m_lvl, m_lvl_mem l (i + 1) q]
    constructor
    · rintro ⟨j, v, h1, h2⟩
      exact ⟨j + 1, v, h1, by rw [h2]; congr 1; omega⟩
    · rintro ⟨j, v, h1, h2⟩
      cases j with
      | zero => cases h1
      | succ j => exact ⟨j, v, h1, by rw [h2]; congr 1; omega⟩
theorem m_Lv.has {al : Array Slot} {nL : Nat} {ls : m_Ls} (h : m_Lv ra B al nL ls) : lv_has al nL (m_lvl ra B 0 ls) := by
  refine ⟨h.2.1, h.2.2.1, fun q hq => ?_⟩
  obtain ⟨j, v, h1, h2⟩ := (m_lvl_mem ls 0 q).mp hq
  rw [h2]
  simp only [Nat.zero_add]
  exact h.2.2.2 j v h1
theorem m_cv_c1 (v : Value) : (m_cv ra B v).category = v.category := by cases v <;> rfl
theorem m_c1_cat {v : Value} (h : m_c1 v = true) : v.category = 1 := by cases v <;> first | rfl | cases h
theorem m_Lv.set {al al1 : Array Slot} {nL : Nat} {ls : m_Ls} {i : Nat} {v : Value} (h : m_Lv ra B al nL ls) (ho : m_ok ls i = true) (hi : i < nL) (h1 : lv_has al1 nL ((i, m_cv ra B v) :: (m_lvl ra B 0 ls).filter (fun q => !(q.1 == i) && !(q.1 + 1 == i && q.2.category == 2)))) : m_Lv ra B al1 nL (ls.set i (some v)) := by
  refine ⟨by rw [List.length_set]; exact h.1, h1.1, h1.2.1, fun j w hj => ?_⟩
  by_cases hji : j = i
  · subst hji
    rw [List.getElem?_set_self (by rw [h.1]; exact hi)] at hj
    cases hj
    exact h1.2.2 (j, m_cv ra B v) List.mem_cons_self
  · rw [List.getElem?_set_ne (Ne.symm hji)] at hj
    refine h1.2.2 (j, m_cv ra B w) (List.mem_cons_of_mem _ (List.mem_filter.mpr ⟨(m_lvl_mem ls 0 _).mpr ⟨j, w, hj, by rw [Nat.zero_add]⟩, ?_⟩))
    have e1 : (j == i) = false := by simpa using hji
    have e2 : (j + 1 == i && (m_cv ra B w).category == 2) = false := by
      by_cases h2 : j + 1 = i
      · subst h2
        have h3 : m_c1 w = true := by
          have h4 : m_ok ls (j + 1) = match ls[j]? with
            | some (some v) => m_c1 v
            | _ => true := rfl
          rw [hj] at h4
          rw [← ho, h4]
        rw [m_cv_c1, m_c1_cat h3]
        simp
      · simp [h2]
    simp [e1, e2]
theorem m_Lv.set2 {al al1 : Array Slot} {nL : Nat} {ls : m_Ls} {i : Nat} {v : Value} (h : m_Lv ra B al nL ls) (ho : m_ok ls i = true) (hi : i + 1 < nL) (h1 : lv_has al1 nL ((i, m_cv ra B v) :: (m_lvl ra B 0 ls).filter (fun q => !(q.1 == i) && (!(q.1 == i + 1) && !(q.1 + 1 == i && q.2.category == 2))))) : m_Lv ra B al1 nL ((ls.set (i + 1) none).set i (some v)) := by
  refine ⟨by rw [List.length_set, List.length_set]; exact h.1, h1.1, h1.2.1, fun j w hj => ?_⟩
  by_cases hji : j = i
  · subst hji
    rw [List.getElem?_set_self (by rw [List.length_set, h.1]; omega)] at hj
    cases hj
    exact h1.2.2 (j, m_cv ra B v) List.mem_cons_self
  · rw [List.getElem?_set_ne (Ne.symm hji)] at hj
    by_cases hj2 : j = i + 1
    · subst hj2
      rw [List.getElem?_set_self (by rw [h.1]; omega)] at hj
      cases hj
    rw [List.getElem?_set_ne (Ne.symm hj2)] at hj
    refine h1.2.2 (j, m_cv ra B w) (List.mem_cons_of_mem _ (List.mem_filter.mpr ⟨(m_lvl_mem ls 0 _).mpr ⟨j, w, hj, by rw [Nat.zero_add]⟩, ?_⟩))
    have e1 : (j == i) = false := by simpa using hji
    have e3 : (j == i + 1) = false := by simpa using hj2
    have e2 : (j + 1 == i && (m_cv ra B w).category == 2) = false := by
      by_cases h2 : j + 1 = i
      · subst h2
        have h3 : m_c1 w = true := by
          have h4 : m_ok ls (j + 1) = match ls[j]? with
            | some (some v) => m_c1 v
            | _ => true := rfl
          rw [hj] at h4
          rw [← ho, h4]
        rw [m_cv_c1, m_c1_cat h3]
        simp
      · simp [h2]
    simp [e1, e2, e3]
end
end
section

/-! each instruction of the plain machine stands for one of the JVM's -/
abbrev m_Mt : Type := MethodName × ByteArray × Nat × Option FieldType
def m_rm (d : Nat) (h h1 : m_Hp) : Room := { frames := d, cells := h1.length - h.length, slots := m_sz h1 - m_sz h, locals := 27 * d + 40 }
def m_Rd (ro : List (List Int32)) (h : m_Hp) : Prop := h.take 4 = ro.map (fun xs => (Sum.inl (0, xs) : m_Cel))
def m_Pc (D : va_G) (cA : Nat → ClassId) (ra : Nat → Nat) (B : Nat) (ro : List (List Int32)) (as : List Value) (h : m_Hp) : Array Value → State → Prop := fun v U => v = (as.map (m_cv ra B)).toArray ∧ m_Hd D cA ra B h U.heap ∧ B + h.length = U.heap.size + 4 ∧ m_Wd D cA ra B ro U U.heap ∧ m_Rd ro h ∧ ro.length = 4
def m_Qc (D : va_G) (cA : Nat → ClassId) (ra : Nat → Nat) (B : Nat) (r : Option Value) (h1 : m_Hp) : Array Value → State → Outcome → State → Prop := fun _ st oc t => oc = .returned (r.map (m_cv ra B)) ∧ m_Hd D cA ra B h1 t.heap ∧ va_F (m_A B) st t
def m_Met (D : va_G) (cA : Nat → ClassId) (ra : Nat → Nat) (B : Nat) (ro : List (List Int32)) (l : Launch) (d : Nat) (q : m_Mt) (as : List Value) (h : m_Hp) (r : Option Value) (h1 : m_Hp) : Prop := Met l q.1 (Cond.code q.1 q.2.1 q.2.2.1 q.2.2.2 :: m_gd) (m_rm d h h1) (m_Pc D cA ra B ro as h) (m_Qc D cA ra B r h1) (h1.length - h.length) (m_sz h1 - m_sz h) (m_A B)
def m_Cx (D : va_G) (cA : Nat → ClassId) (ra : Nat → Nat) (B : Nat) (ro : List (List Int32)) (p : Program) (R : Room) (s : State) (m : MethodId) (args : Array Value) (meth : Method) (c : Code) (cc : ByteArray) (nL : Nat) (ret : Option FieldType) (own nm : String) (d : Nat) (h0 : m_Hp) : Prop :=
  p.tables.exec = Jvm.exec ∧ c.code = cc ∧ c.maxLocals = nL ∧ meth.sig.returnType = ret ∧ s.vm.findClass own = some m.cls ∧ meth.locks = false ∧ meth.name = nm ∧ (∀ w ∈ m_gd, w.before args s = true) ∧ m_Wd D cA ra B ro s s.heap ∧ B + h0.length = s.heap.size + 4 ∧ ro.length = 4 ∧ d + 1 ≤ R.frames ∧ 27 * (d + 1) + 40 ≤ R.locals
def m_Zp (D : va_G) (cA : Nat → ClassId) (ra : Nat → Nat) (B : Nat) (ro : List (List Int32)) (p : Program) (l : Launch) (e : Env) (R : Room) (s : State) (m : MethodId) (args : Array Value) (below : List Frame) (meth : Method) (c : Code) (nL : Nat) (Q : State → Prop) (h0 : m_Hp) (pc : Nat) (ls : m_Ls) (st : List Value) (h : m_Hp) : Prop :=
  ∀ (H : Heap) (locs : List Loc) (al : Array Slot), va_S (m_A B) s.heap H locs → m_Hd D cA ra B h H → m_Rd ro h → m_Lv ra B al nL ls → W p l e R s m args below meth c H locs (h.length - h0.length) (m_sz h - m_sz h0) Q (F0 m pc al (st.map (m_cv ra B)))
def m_Rm (R : Room) (h0 h1 : m_Hp) : Prop := h1.length - h0.length ≤ R.cells ∧ m_sz h1 - m_sz h0 ≤ R.slots
def m_Snd (D : va_G) (cA : Nat → ClassId) (ra : Nat → Nat) (B : Nat) (ro : List (List Int32)) (M : List m_Mt) (cc : ByteArray) (nL : Nat) (ret : Option FieldType) (own nm : String) (pc : Nat) (o : m_Op) : Prop :=
  (∀ (ls : m_Ls) (st : List Value) (h : m_Hp) (pc1 : Nat) (ls1 : m_Ls) (st1 : List Value) (h1 : m_Hp), o pc ls st h = some (.inl (pc1, ls1, st1, h1)) → 4 ≤ h.length → m_mono h h1) ∧
  ∀ (p : Program) (l : Launch) (e : Env) (R : Room) (s : State) (m : MethodId) (args : Array Value) (below : List Frame) (meth : Method) (c : Code) (d : Nat) (h0 : m_Hp) (Q : State → Prop),
    m_Cx D cA ra B ro p R s m args meth c cc nL ret own nm d h0 →
    (∀ (ls : m_Ls) (st : List Value) (h : m_Hp) (pc1 : Nat) (ls1 : m_Ls) (st1 : List Value) (h1 : m_Hp), o pc ls st h = some (.inl (pc1, ls1, st1, h1)) → 4 ≤ h.length → m_mono h0 h → m_Rm R h0 h1 → m_Zp D cA ra B ro p l e R s m args below meth c nL Q h0 pc1 ls1 st1 h1 → m_Zp D cA ra B ro p l e R s m args below meth c nL Q h0 pc ls st h) ∧
    (∀ (ls : m_Ls) (st : List Value) (h : m_Hp) (z : Nat) (as rest : List Value) (r1 : Option Value) (h1 : m_Hp), o pc ls st h = some (.inr (.inl (z, as, rest))) → m_mono h h1 → (∀ q, M[z]? = some q → m_Met D cA ra B ro l d q as h r1 h1) → m_mono h0 h → m_Rm R h0 h1 → m_Zp D cA ra B ro p l e R s m args below meth c nL Q h0 (pc + 3) ls (r1.toList ++ rest) h1 → m_Zp D cA ra B ro p l e R s m args below meth c nL Q h0 pc ls st h) ∧
    (∀ (ls : m_Ls) (st : List Value) (h : m_Hp) (v : Option Value), o pc ls st h = some (.inr (.inr v)) → m_mono h0 h → Q = MQ below (m_Qc D cA ra B v h) args s (h.length - h0.length) (m_sz h - m_sz h0) (m_A B) → m_Zp D cA ra B ro p l e R s m args below meth c nL Q h0 pc ls st h)
section
variable {D : va_G} {cA : Nat → ClassId} {ra : Nat → Nat} {B : Nat} {ro : List (List Int32)} {M : List m_Mt} {cc : ByteArray} {nL : Nat} {ret : Option FieldType} {own nm : String} {pc : Nat} {o : m_Op}
theorem m_pure (hn : ∀ (ls : m_Ls) (st : List Value) (h : m_Hp) (x : m_Res), o pc ls st h = some x → ∃ (pc1 : Nat) (ls1 : m_Ls) (st1 : List Value), x = .inl (pc1, ls1, st1, h))
    (hz : ∀ (p : Program) (l : Launch) (e : Env) (R : Room) (s : State) (m : MethodId) (args : Array Value) (below : List Frame) (meth : Method) (c : Code) (d : Nat) (h0 : m_Hp) (Q : State → Prop), m_Cx D cA ra B ro p R s m args meth c cc nL ret own nm d h0 →
      ∀ (ls : m_Ls) (st : List Value) (h : m_Hp) (pc1 : Nat) (ls1 : m_Ls) (st1 : List Value), o pc ls st h = some (.inl (pc1, ls1, st1, h)) → ∀ (H : Heap) (locs : List Loc) (al : Array Slot) (cells slots : Nat), va_S (m_A B) s.heap H locs → m_Hd D cA ra B h H → m_Rd ro h → m_Lv ra B al nL ls → cells ≤ R.cells → slots ≤ R.slots →
        (∀ al1, m_Lv ra B al1 nL ls1 → W p l e R s m args below meth c H locs cells slots Q (F0 m pc1 al1 (st1.map (m_cv ra B)))) → W p l e R s m args below meth c H locs cells slots Q (F0 m pc al (st.map (m_cv ra B)))) : m_Snd D cA ra B ro M cc nL ret own nm pc o := by
  refine ⟨fun ls st h pc1 ls1 st1 h1 eq h4 => ?_, ?_⟩
  · obtain ⟨q1, q2, q3, q4⟩ := hn ls st h _ eq
    cases q4
    exact m_mono.rf
  intro p l e R s m args below meth c d h0 Q X
  refine ⟨fun ls st h pc1 ls1 st1 h1 eq h4 => ?_, fun ls st h z as rest r1 h1 eq => ?_, fun ls st h v eq => ?_⟩
  · obtain ⟨q1, q2, q3, q4⟩ := hn ls st h _ eq
    cases q4
    intro hm hR k H locs al hS hH hro hL
    exact hz p l e R s m args below meth c d h0 Q X ls st h pc1 ls1 st1 eq H locs al _ _ hS hH hro hL hR.1 hR.2 (fun al1 h1 => k H locs al1 hS hH hro h1)
  · obtain ⟨q1, q2, q3, q4⟩ := hn ls st h _ eq
    cases q4
  · obtain ⟨q1, q2, q3, q4⟩ := hn ls st h _ eq
    cases q4
theorem m_s_no : m_Snd D cA ra B ro M cc nL ret own nm pc m_no := m_pure (fun _ _ _ _ e => by cases e) (fun _ _ _ _ _ _ _ _ _ _ _ _ _ _ _ _ _ _ _ _ e => by cases e)
theorem m_sto_spec {i w : Nat} {v : Value} {st st0 : List Value} {ls : m_Ls} {h : m_Hp} {x : m_Res} (e : m_sto i w v st pc ls st0 h = some x) : m_ok ls i = true ∧ i < ls.length ∧ x = .inl (pc + w, ls.set i (some v), st, h) := by
  unfold m_sto at e
  cases hc : (m_ok ls i && Nat.blt i ls.length) with
  | false => rw [hc] at e; cases e
  | true =>
    rw [hc] at e
    cases e
    rw [Bool.and_eq_true] at hc
    exact ⟨hc.1, by have := hc.2; rw [Nat.blt_eq] at this; exact this, rfl⟩

theorem m_s_iconst {n : Int} {v : Int32} (hdg : decode cc pc = .ok (.iconst n, 1)) (hv : Int32.ofInt n = v) : m_Snd D cA ra B ro M cc nL ret own nm pc (m_const (.int v) 1) := by
  refine m_pure (by
  intro ls st h x e
  unfold m_const at e
  (repeat' split at e) <;> first | (cases e; done) | (cases e; exact ⟨_, _, _, rfl⟩)) ?_
  intro p l e R s m args below meth c d h0 Q X ls st h pc1 ls1 st1 eq H locs al cells slots hS hH hro hL hcl hsl k
  obtain ⟨hx, hb, hml, hr, hown, hlk, hnm, hts, hW, hsz, hrl, hfr, hlo⟩ := X
  unfold m_const at eq
  cases eq
  exact lv_iconst hx hb hdg hv (k al hL)

theorem m_s_bipush {n : Int} {v : Int32} (hdg : decode cc pc = .ok (.bipush n, 2)) (hv : (Int8.ofInt n).toInt32 = v) : m_Snd D cA ra B ro M cc nL ret own nm pc (m_const (.int v) 2) := by
  refine m_pure (by
  intro ls st h x e
  unfold m_const at e
  (repeat' split at e) <;> first | (cases e; done) | (cases e; exact ⟨_, _, _, rfl⟩)) ?_
  intro p l e R s m args below meth c d h0 Q X ls st h pc1 ls1 st1 eq H locs al cells slots hS hH hro hL hcl hsl k
  obtain ⟨hx, hb, hml, hr, hown, hlk, hnm, hts, hW, hsz, hrl, hfr, hlo⟩ := X
  unfold m_const at eq
  cases eq
  exact lv_bipush hx hb hdg hv (k al hL)

theorem m_s_sipush {n : Int} {v : Int32} (hdg : decode cc pc = .ok (.sipush n, 3)) (hv : (Int16.ofInt n).toInt32 = v) : m_Snd D cA ra B ro M cc nL ret own nm pc (m_const (.int v) 3) := by
  refine m_pure (by
  intro ls st h x e
  unfold m_const at e
  (repeat' split at e) <;> first | (cases e; done) | (cases e; exact ⟨_, _, _, rfl⟩)) ?_
  intro p l e R s m args below meth c d h0 Q X ls st h pc1 ls1 st1 eq H locs al cells slots hS hH hro hL hcl hsl k
  obtain ⟨hx, hb, hml, hr, hown, hlk, hnm, hts, hW, hsz, hrl, hfr, hlo⟩ := X
  unfold m_const at eq
  cases eq
  exact lv_sipush hx hb hdg hv (k al hL)

theorem m_s_fconst0 (hdg : decode cc pc = .ok (.fconst 0, 1)) : m_Snd D cA ra B ro M cc nL ret own nm pc (m_const (.float FP.fconst0) 1) := by
  refine m_pure (by
  intro ls st h x e
  unfold m_const at e
  (repeat' split at e) <;> first | (cases e; done) | (cases e; exact ⟨_, _, _, rfl⟩)) ?_
  intro p l e R s m args below meth c d h0 Q X ls st h pc1 ls1 st1 eq H locs al cells slots hS hH hro hL hcl hsl k
  obtain ⟨hx, hb, hml, hr, hown, hlk, hnm, hts, hW, hsz, hrl, hfr, hlo⟩ := X
  unfold m_const at eq
  cases eq
  exact lv_fconst0 hx hb hdg (k al hL)

theorem m_s_fconst1 (hdg : decode cc pc = .ok (.fconst 1, 1)) : m_Snd D cA ra B ro M cc nL ret own nm pc (m_const (.float FP.fconst1) 1) := by
  refine m_pure (by
  intro ls st h x e
  unfold m_const at e
  (repeat' split at e) <;> first | (cases e; done) | (cases e; exact ⟨_, _, _, rfl⟩)) ?_
  intro p l e R s m args below meth c d h0 Q X ls st h pc1 ls1 st1 eq H locs al cells slots hS hH hro hL hcl hsl k
  obtain ⟨hx, hb, hml, hr, hown, hlk, hnm, hts, hW, hsz, hrl, hfr, hlo⟩ := X
  unfold m_const at eq
  cases eq
  exact lv_fconst1 hx hb hdg (k al hL)

theorem m_s_null (hdg : decode cc pc = .ok (.aconst_null, 1)) : m_Snd D cA ra B ro M cc nL ret own nm pc (m_const .null 1) := by
  refine m_pure (by
  intro ls st h x e
  unfold m_const at e
  (repeat' split at e) <;> first | (cases e; done) | (cases e; exact ⟨_, _, _, rfl⟩)) ?_
  intro p l e R s m args below meth c d h0 Q X ls st h pc1 ls1 st1 eq H locs al cells slots hS hH hro hL hcl hsl k
  obtain ⟨hx, hb, hml, hr, hown, hlk, hnm, hts, hW, hsz, hrl, hfr, hlo⟩ := X
  unfold m_const at eq
  cases eq
  exact lv_null hx hb hdg (k al hL)

theorem m_s_ldcf {index : Nat} {v : UInt32} (hw : Cond.constantFloat own index v ∈ m_gd) (hdg : decode cc pc = .ok (.ldc index, 2)) : m_Snd D cA ra B ro M cc nL ret own nm pc (m_const (.float v) 2) := by
  refine m_pure (by
  intro ls st h x e
  unfold m_const at e
  (repeat' split at e) <;> first | (cases e; done) | (cases e; exact ⟨_, _, _, rfl⟩)) ?_
  intro p l e R s m args below meth c d h0 Q X ls st h pc1 ls1 st1 eq H locs al cells slots hS hH hro hL hcl hsl k
  obtain ⟨hx, hb, hml, hr, hown, hlk, hnm, hts, hW, hsz, hrl, hfr, hlo⟩ := X
  unfold m_const at eq
  cases eq
  exact lv_ldcf hx hb hown (hts _ hw) hdg (k al hL)

theorem m_s_ldcw {index : Nat} {v : Int32} (hw : Cond.constant own index v ∈ m_gd) (hdg : decode cc pc = .ok (.ldc_w index, 3)) : m_Snd D cA ra B ro M cc nL ret own nm pc (m_const (.int v) 3) := by
  refine m_pure (by
  intro ls st h x e
  unfold m_const at e
  (repeat' split at e) <;> first | (cases e; done) | (cases e; exact ⟨_, _, _, rfl⟩)) ?_
  intro p l e R s m args below meth c d h0 Q X ls st h pc1 ls1 st1 eq H locs al cells slots hS hH hro hL hcl hsl k
  obtain ⟨hx, hb, hml, hr, hown, hlk, hnm, hts, hW, hsz, hrl, hfr, hlo⟩ := X
  unfold m_const at eq
  cases eq
  exact lv_ldcw hx hb hown (hts _ hw) hdg (k al hL)

theorem m_s_iload_n {k : Fin 4} {i : Nat} (hdg : decode cc pc = .ok (.iload_n k, 1)) (hi : (k : Nat) = i) : m_Snd D cA ra B ro M cc nL ret own nm pc (m_iload i 1) := by
  refine m_pure (by
  intro ls st h x e
  unfold m_iload at e
  (repeat' split at e) <;> first | (cases e; done) | (cases e; exact ⟨_, _, _, rfl⟩)) ?_
  intro p l e R s m args below meth c d h0 Q X ls st h pc1 ls1 st1 eq H locs al cells slots hS hH hro hL hcl hsl k
  obtain ⟨hx, hb, hml, hr, hown, hlk, hnm, hts, hW, hsz, hrl, hfr, hlo⟩ := X
  unfold m_iload at eq
  split at eq
  · rename_i x hq
    cases eq
    exact lv_iload_n hx hb hdg hi (hL.2.2.2 i _ hq) (k al hL)
  · cases eq

theorem m_s_fload_n {k : Fin 4} {i : Nat} (hdg : decode cc pc = .ok (.fload_n k, 1)) (hi : (k : Nat) = i) : m_Snd D cA ra B ro M cc nL ret own nm pc (m_fload i 1) := by
  refine m_pure (by
  intro ls st h x e
  unfold m_fload at e
  (repeat' split at e) <;> first | (cases e; done) | (cases e; exact ⟨_, _, _, rfl⟩)) ?_
  intro p l e R s m args below meth c d h0 Q X ls st h pc1 ls1 st1 eq H locs al cells slots hS hH hro hL hcl hsl k
  obtain ⟨hx, hb, hml, hr, hown, hlk, hnm, hts, hW, hsz, hrl, hfr, hlo⟩ := X
  unfold m_fload at eq
  split at eq
  · rename_i x hq
    cases eq
    exact lv_fload_n hx hb hdg hi (hL.2.2.2 i _ hq) (k al hL)
  · cases eq

theorem m_s_iload {i : Nat} (hdg : decode cc pc = .ok (.iload i, 2)) : m_Snd D cA ra B ro M cc nL ret own nm pc (m_iload i 2) := by
  refine m_pure (by
  intro ls st h x e
  unfold m_iload at e
  (repeat' split at e) <;> first | (cases e; done) | (cases e; exact ⟨_, _, _, rfl⟩)) ?_
  intro p l e R s m args below meth c d h0 Q X ls st h pc1 ls1 st1 eq H locs al cells slots hS hH hro hL hcl hsl k
  obtain ⟨hx, hb, hml, hr, hown, hlk, hnm, hts, hW, hsz, hrl, hfr, hlo⟩ := X
  unfold m_iload at eq
  split at eq
  · rename_i x hq
    cases eq
    exact lv_iload hx hb hdg (hL.2.2.2 i _ hq) (k al hL)
  · cases eq

theorem m_s_dload {i : Nat} (hdg : decode cc pc = .ok (.dload i, 2)) : m_Snd D cA ra B ro M cc nL ret own nm pc (m_dload i 2) := by
  refine m_pure (by
  intro ls st h x e
  unfold m_dload at e
  (repeat' split at e) <;> first | (cases e; done) | (cases e; exact ⟨_, _, _, rfl⟩)) ?_
  intro p l e R s m args below meth c d h0 Q X ls st h pc1 ls1 st1 eq H locs al cells slots hS hH hro hL hcl hsl k
  obtain ⟨hx, hb, hml, hr, hown, hlk, hnm, hts, hW, hsz, hrl, hfr, hlo⟩ := X
  unfold m_dload at eq
  split at eq
  · rename_i x hq
    cases eq
    exact lv_dload hx hb hdg (hL.2.2.2 i _ hq) (k al hL)
  · cases eq

theorem m_s_aload_n {k : Fin 4} {i : Nat} (hdg : decode cc pc = .ok (.aload_n k, 1)) (hi : (k : Nat) = i) : m_Snd D cA ra B ro M cc nL ret own nm pc (m_aload i 1) := by
  refine m_pure (by
  intro ls st h x e
  unfold m_aload at e
  (repeat' split at e) <;> first | (cases e; done) | (cases e; exact ⟨_, _, _, rfl⟩)) ?_
  intro p l e R s m args below meth c d h0 Q X ls st h pc1 ls1 st1 eq H locs al cells slots hS hH hro hL hcl hsl k
  obtain ⟨hx, hb, hml, hr, hown, hlk, hnm, hts, hW, hsz, hrl, hfr, hlo⟩ := X
  unfold m_aload at eq
  split at eq
  · rename_i x hq
    cases eq
    exact lv_aload_n hx hb hdg hi (hL.2.2.2 i _ hq) (k al hL)
  · rename_i hq
    cases eq
    exact lv_aload_nN hx hb hdg hi (hL.2.2.2 i _ hq) (k al hL)
  · cases eq

theorem m_s_aload {i : Nat} (hdg : decode cc pc = .ok (.aload i, 2)) : m_Snd D cA ra B ro M cc nL ret own nm pc (m_aload i 2) := by
  refine m_pure (by
  intro ls st h x e
  unfold m_aload at e
  (repeat' split at e) <;> first | (cases e; done) | (cases e; exact ⟨_, _, _, rfl⟩)) ?_
  intro p l e R s m args below meth c d h0 Q X ls st h pc1 ls1 st1 eq H locs al cells slots hS hH hro hL hcl hsl k
  obtain ⟨hx, hb, hml, hr, hown, hlk, hnm, hts, hW, hsz, hrl, hfr, hlo⟩ := X
  unfold m_aload at eq
  split at eq
  · rename_i x hq
    cases eq
    exact lv_aload hx hb hdg (hL.2.2.2 i _ hq) (k al hL)
  · rename_i hq
    cases eq
    exact lv_aloadN hx hb hdg (hL.2.2.2 i _ hq) (k al hL)
  · cases eq

theorem m_s_istore_n {k : Fin 4} {i : Nat} (hdg : decode cc pc = .ok (.istore_n k, 1)) (hi : (k : Nat) = i) : m_Snd D cA ra B ro M cc nL ret own nm pc (m_istore i 1) := by
  refine m_pure (by
  intro ls st h x e
  unfold m_istore at e
  (repeat' split at e) <;> first | (cases e; done) | (obtain ⟨_, _, e3⟩ := m_sto_spec e; exact ⟨_, _, _, e3⟩)) ?_
  intro p l e R s m args below meth c d h0 Q X ls st h pc1 ls1 st1 eq H locs al cells slots hS hH hro hL hcl hsl k
  obtain ⟨hx, hb, hml, hr, hown, hlk, hnm, hts, hW, hsz, hrl, hfr, hlo⟩ := X
  unfold m_istore at eq
  split at eq
  · obtain ⟨e1, e2, e3⟩ := m_sto_spec eq
    cases e3
    rw [hL.1] at e2
    exact lv_istore_n hx hb hdg hi hL.has e2 rfl (fun al1 h1 => k al1 (hL.set e1 e2 h1))
  · cases eq

theorem m_s_fstore_n {k : Fin 4} {i : Nat} (hdg : decode cc pc = .ok (.fstore_n k, 1)) (hi : (k : Nat) = i) : m_Snd D cA ra B ro M cc nL ret own nm pc (m_fstore i 1) := by
  refine m_pure (by
  intro ls st h x e
  unfold m_fstore at e
  (repeat' split at e) <;> first | (cases e; done) | (obtain ⟨_, _, e3⟩ := m_sto_spec e; exact ⟨_, _, _, e3⟩)) ?_
  intro p l e R s m args below meth c d h0 Q X ls st h pc1 ls1 st1 eq H locs al cells slots hS hH hro hL hcl hsl k
  obtain ⟨hx, hb, hml, hr, hown, hlk, hnm, hts, hW, hsz, hrl, hfr, hlo⟩ := X
  unfold m_fstore at eq
  split at eq
  · obtain ⟨e1, e2, e3⟩ := m_sto_spec eq
    cases e3
    rw [hL.1] at e2
    exact lv_fstore_n hx hb hdg hi hL.has e2 rfl (fun al1 h1 => k al1 (hL.set e1 e2 h1))
  · cases eq

theorem m_s_istore {i : Nat} (hdg : decode cc pc = .ok (.istore i, 2)) : m_Snd D cA ra B ro M cc nL ret own nm pc (m_istore i 2) := by
  refine m_pure (by
  intro ls st h x e
  unfold m_istore at e
  (repeat' split at e) <;> first | (cases e; done) | (obtain ⟨_, _, e3⟩ := m_sto_spec e; exact ⟨_, _, _, e3⟩)) ?_
  intro p l e R s m args below meth c d h0 Q X ls st h pc1 ls1 st1 eq H locs al cells slots hS hH hro hL hcl hsl k
  obtain ⟨hx, hb, hml, hr, hown, hlk, hnm, hts, hW, hsz, hrl, hfr, hlo⟩ := X
  unfold m_istore at eq
  split at eq
  · obtain ⟨e1, e2, e3⟩ := m_sto_spec eq
    cases e3
    rw [hL.1] at e2
    exact lv_istore hx hb hdg hL.has e2 rfl (fun al1 h1 => k al1 (hL.set e1 e2 h1))
  · cases eq

theorem m_s_astore_n {k : Fin 4} {i : Nat} (hdg : decode cc pc = .ok (.astore_n k, 1)) (hi : (k : Nat) = i) : m_Snd D cA ra B ro M cc nL ret own nm pc (m_astore i 1) := by
  refine m_pure (by
  intro ls st h x e
  unfold m_astore at e
  (repeat' split at e) <;> first | (cases e; done) | (obtain ⟨_, _, e3⟩ := m_sto_spec e; exact ⟨_, _, _, e3⟩)) ?_
  intro p l e R s m args below meth c d h0 Q X ls st h pc1 ls1 st1 eq H locs al cells slots hS hH hro hL hcl hsl k
  obtain ⟨hx, hb, hml, hr, hown, hlk, hnm, hts, hW, hsz, hrl, hfr, hlo⟩ := X
  unfold m_astore at eq
  split at eq
  · obtain ⟨e1, e2, e3⟩ := m_sto_spec eq
    cases e3
    rw [hL.1] at e2
    exact lv_astore_n hx hb hdg hi hL.has e2 rfl (fun al1 h1 => k al1 (hL.set e1 e2 h1))
  · obtain ⟨e1, e2, e3⟩ := m_sto_spec eq
    cases e3
    rw [hL.1] at e2
    exact lv_astore_nN hx hb hdg hi hL.has e2 rfl (fun al1 h1 => k al1 (hL.set e1 e2 h1))
  · cases eq

theorem m_s_astore {i : Nat} (hdg : decode cc pc = .ok (.astore i, 2)) : m_Snd D cA ra B ro M cc nL ret own nm pc (m_astore i 2) := by
  refine m_pure (by
  intro ls st h x e
  unfold m_astore at e
  (repeat' split at e) <;> first | (cases e; done) | (obtain ⟨_, _, e3⟩ := m_sto_spec e; exact ⟨_, _, _, e3⟩)) ?_
  intro p l e R s m args below meth c d h0 Q X ls st h pc1 ls1 st1 eq H locs al cells slots hS hH hro hL hcl hsl k
  obtain ⟨hx, hb, hml, hr, hown, hlk, hnm, hts, hW, hsz, hrl, hfr, hlo⟩ := X
  unfold m_astore at eq
  split at eq
  · obtain ⟨e1, e2, e3⟩ := m_sto_spec eq
    cases e3
    rw [hL.1] at e2
    exact lv_astore hx hb hdg hL.has e2 rfl (fun al1 h1 => k al1 (hL.set e1 e2 h1))
  · obtain ⟨e1, e2, e3⟩ := m_sto_spec eq
    cases e3
    rw [hL.1] at e2
    exact lv_astoreN hx hb hdg hL.has e2 rfl (fun al1 h1 => k al1 (hL.set e1 e2 h1))
  · cases eq

theorem m_dsto_spec {i : Nat} {x0 : UInt64} {st : List Value} {ls : m_Ls} {h : m_Hp} {x : m_Res} (e : m_dstore i 2 pc ls (.double x0 :: st) h = some x) : m_ok ls i = true ∧ i + 1 < ls.length ∧ x = .inl (pc + 2, (ls.set (i + 1) none).set i (some (.double x0)), st, h) := by
  unfold m_dstore at e
  dsimp only at e
  cases hc : (m_ok ls i && Nat.blt (i + 1) ls.length) with
  | false => rw [hc] at e; cases e
  | true =>
    rw [hc] at e
    cases e
    rw [Bool.and_eq_true] at hc
    exact ⟨hc.1, by have := hc.2; rw [Nat.blt_eq] at this; exact this, rfl⟩
theorem m_s_dstore {i : Nat} (hdg : decode cc pc = .ok (.dstore i, 2)) : m_Snd D cA ra B ro M cc nL ret own nm pc (m_dstore i 2) := by
  refine m_pure (fun ls st h x e => ?_) ?_
  · match st, e with
    | .double x0 :: st, e =>
      obtain ⟨_, _, e3⟩ := m_dsto_spec e
      exact ⟨_, _, _, e3⟩
  intro p l e R s m args below meth c d h0 Q X ls st h pc1 ls1 st1 eq H locs al cells slots hS hH hro hL hcl hsl k
  obtain ⟨hx, hb, hml, hr, hown, hlk, hnm, hts, hW, hsz, hrl, hfr, hlo⟩ := X
  match st, eq with
  | .double x0 :: st, eq =>
    obtain ⟨e1, e2, e3⟩ := m_dsto_spec eq
    cases e3
    rw [hL.1] at e2
    exact lv_dstore hx hb hdg hL.has e2 rfl (fun al1 h1 => k al1 (hL.set2 e1 e2 h1))
theorem m_s_iinc {i : Nat} {n : Int} {v : Int32} (hdg : decode cc pc = .ok (.iinc i n, 3)) (hv : Int32.ofInt n = v) : m_Snd D cA ra B ro M cc nL ret own nm pc (m_iinc i v) := by
  subst hv
  refine m_pure (fun ls st h x e => ?_) ?_
  · unfold m_iinc at e
    split at e
    · obtain ⟨_, _, e3⟩ := m_sto_spec e
      exact ⟨_, _, _, e3⟩
    · cases e
  intro p l e R s m args below meth c d h0 Q X ls st h pc1 ls1 st1 eq H locs al cells slots hS hH hro hL hcl hsl k
  obtain ⟨hx, hb, hml, hr, hown, hlk, hnm, hts, hW, hsz, hrl, hfr, hlo⟩ := X
  unfold m_iinc at eq
  split at eq
  · rename_i x hq
    obtain ⟨e1, e2, e3⟩ := m_sto_spec eq
    cases e3
    rw [hL.1] at e2
    have hmem : (i, m_cv ra B (.int x)) ∈ m_lvl ra B 0 ls := (m_lvl_mem ls 0 _).mpr ⟨i, _, hq, by rw [Nat.zero_add]⟩
    obtain ⟨kk, hkk⟩ := List.getElem?_of_mem hmem
    exact lv_iinc (v := x + Int32.ofInt n) hx hb hdg hL.has hkk rfl e2 rfl (fun al1 h1 => k al1 (hL.set (v := .int (x + Int32.ofInt n)) e1 e2 h1))
  · cases eq

theorem m_s_iadd (hdg : decode cc pc = .ok (.iadd, 1)) : m_Snd D cA ra B ro M cc nL ret own nm pc (m_bin (fun a b => a + b)) := by
  refine m_pure (by
  intro ls st h x e
  unfold m_bin at e
  (repeat' split at e) <;> first | (cases e; done) | (cases e; exact ⟨_, _, _, rfl⟩)) ?_
  intro p l e R s m args below meth c d h0 Q X ls st h pc1 ls1 st1 eq H locs al cells slots hS hH hro hL hcl hsl k
  obtain ⟨hx, hb, hml, hr, hown, hlk, hnm, hts, hW, hsz, hrl, hfr, hlo⟩ := X
  unfold m_bin at eq
  split at eq
  · cases eq
    exact lv_iadd hx hb hdg (k al hL)
  · cases eq

theorem m_s_isub (hdg : decode cc pc = .ok (.isub, 1)) : m_Snd D cA ra B ro M cc nL ret own nm pc (m_bin (fun a b => a - b)) := by
  refine m_pure (by
  intro ls st h x e
  unfold m_bin at e
  (repeat' split at e) <;> first | (cases e; done) | (cases e; exact ⟨_, _, _, rfl⟩)) ?_
  intro p l e R s m args below meth c d h0 Q X ls st h pc1 ls1 st1 eq H locs al cells slots hS hH hro hL hcl hsl k
  obtain ⟨hx, hb, hml, hr, hown, hlk, hnm, hts, hW, hsz, hrl, hfr, hlo⟩ := X
  unfold m_bin at eq
  split at eq
  · cases eq
    exact lv_isub hx hb hdg (k al hL)
  · cases eq

theorem m_s_imul (hdg : decode cc pc = .ok (.imul, 1)) : m_Snd D cA ra B ro M cc nL ret own nm pc (m_bin (fun a b => a * b)) := by
  refine m_pure (by
  intro ls st h x e
  unfold m_bin at e
  (repeat' split at e) <;> first | (cases e; done) | (cases e; exact ⟨_, _, _, rfl⟩)) ?_
  intro p l e R s m args below meth c d h0 Q X ls st h pc1 ls1 st1 eq H locs al cells slots hS hH hro hL hcl hsl k
  obtain ⟨hx, hb, hml, hr, hown, hlk, hnm, hts, hW, hsz, hrl, hfr, hlo⟩ := X
  unfold m_bin at eq
  split at eq
  · cases eq
    exact lv_imul hx hb hdg (k al hL)
  · cases eq

theorem m_s_iand (hdg : decode cc pc = .ok (.iand, 1)) : m_Snd D cA ra B ro M cc nL ret own nm pc (m_bin (fun a b => a &&& b)) := by
  refine m_pure (by
  intro ls st h x e
  unfold m_bin at e
  (repeat' split at e) <;> first | (cases e; done) | (cases e; exact ⟨_, _, _, rfl⟩)) ?_
  intro p l e R s m args below meth c d h0 Q X ls st h pc1 ls1 st1 eq H locs al cells slots hS hH hro hL hcl hsl k
  obtain ⟨hx, hb, hml, hr, hown, hlk, hnm, hts, hW, hsz, hrl, hfr, hlo⟩ := X
  unfold m_bin at eq
  split at eq
  · cases eq
    exact lv_iand hx hb hdg (k al hL)
  · cases eq

theorem m_s_ior (hdg : decode cc pc = .ok (.ior, 1)) : m_Snd D cA ra B ro M cc nL ret own nm pc (m_bin (fun a b => a ||| b)) := by
  refine m_pure (by
  intro ls st h x e
  unfold m_bin at e
  (repeat' split at e) <;> first | (cases e; done) | (cases e; exact ⟨_, _, _, rfl⟩)) ?_
  intro p l e R s m args below meth c d h0 Q X ls st h pc1 ls1 st1 eq H locs al cells slots hS hH hro hL hcl hsl k
  obtain ⟨hx, hb, hml, hr, hown, hlk, hnm, hts, hW, hsz, hrl, hfr, hlo⟩ := X
  unfold m_bin at eq
  split at eq
  · cases eq
    exact lv_ior hx hb hdg (k al hL)
  · cases eq

theorem m_s_ixor (hdg : decode cc pc = .ok (.ixor, 1)) : m_Snd D cA ra B ro M cc nL ret own nm pc (m_bin (fun a b => a ^^^ b)) := by
  refine m_pure (by
  intro ls st h x e
  unfold m_bin at e
  (repeat' split at e) <;> first | (cases e; done) | (cases e; exact ⟨_, _, _, rfl⟩)) ?_
  intro p l e R s m args below meth c d h0 Q X ls st h pc1 ls1 st1 eq H locs al cells slots hS hH hro hL hcl hsl k
  obtain ⟨hx, hb, hml, hr, hown, hlk, hnm, hts, hW, hsz, hrl, hfr, hlo⟩ := X
  unfold m_bin at eq
  split at eq
  · cases eq
    exact lv_ixor hx hb hdg (k al hL)
  · cases eq

theorem m_s_ishl (hdg : decode cc pc = .ok (.ishl, 1)) : m_Snd D cA ra B ro M cc nL ret own nm pc (m_bin (fun a b => a <<< (b &&& 31))) := by
  refine m_pure (by
  intro ls st h x e
  unfold m_bin at e
  (repeat' split at e) <;> first | (cases e; done) | (cases e; exact ⟨_, _, _, rfl⟩)) ?_
  intro p l e R s m args below meth c d h0 Q X ls st h pc1 ls1 st1 eq H locs al cells slots hS hH hro hL hcl hsl k
  obtain ⟨hx, hb, hml, hr, hown, hlk, hnm, hts, hW, hsz, hrl, hfr, hlo⟩ := X
  unfold m_bin at eq
  split at eq
  · cases eq
    exact lv_ishl hx hb hdg (k al hL)
  · cases eq

theorem m_s_ishr (hdg : decode cc pc = .ok (.ishr, 1)) : m_Snd D cA ra B ro M cc nL ret own nm pc (m_bin (fun a b => a >>> (b &&& 31))) := by
  refine m_pure (by
  intro ls st h x e
  unfold m_bin at e
  (repeat' split at e) <;> first | (cases e; done) | (cases e; exact ⟨_, _, _, rfl⟩)) ?_
  intro p l e R s m args below meth c d h0 Q X ls st h pc1 ls1 st1 eq H locs al cells slots hS hH hro hL hcl hsl k
  obtain ⟨hx, hb, hml, hr, hown, hlk, hnm, hts, hW, hsz, hrl, hfr, hlo⟩ := X
  unfold m_bin at eq
  split at eq
  · cases eq
    exact lv_ishr hx hb hdg (k al hL)
  · cases eq

theorem m_s_iushr (hdg : decode cc pc = .ok (.iushr, 1)) : m_Snd D cA ra B ro M cc nL ret own nm pc (m_bin (fun a b => (a.toUInt32 >>> (b.toUInt32 &&& Int32.toUInt32 31)).toInt32)) := by
  refine m_pure (by
  intro ls st h x e
  unfold m_bin at e
  (repeat' split at e) <;> first | (cases e; done) | (cases e; exact ⟨_, _, _, rfl⟩)) ?_
  intro p l e R s m args below meth c d h0 Q X ls st h pc1 ls1 st1 eq H locs al cells slots hS hH hro hL hcl hsl k
  obtain ⟨hx, hb, hml, hr, hown, hlk, hnm, hts, hW, hsz, hrl, hfr, hlo⟩ := X
  unfold m_bin at eq
  split at eq
  · cases eq
    exact lv_iushr hx hb hdg rfl (k al hL)
  · cases eq

theorem m_s_ineg (hdg : decode cc pc = .ok (.ineg, 1)) : m_Snd D cA ra B ro M cc nL ret own nm pc (m_un (fun a => -a)) := by
  refine m_pure (by
  intro ls st h x e
  unfold m_un at e
  (repeat' split at e) <;> first | (cases e; done) | (cases e; exact ⟨_, _, _, rfl⟩)) ?_
  intro p l e R s m args below meth c d h0 Q X ls st h pc1 ls1 st1 eq H locs al cells slots hS hH hro hL hcl hsl k
  obtain ⟨hx, hb, hml, hr, hown, hlk, hnm, hts, hW, hsz, hrl, hfr, hlo⟩ := X
  unfold m_un at eq
  split at eq
  · cases eq
    exact lv_ineg hx hb hdg (k al hL)
  · cases eq

theorem m_s_i2c (hdg : decode cc pc = .ok (.i2c, 1)) : m_Snd D cA ra B ro M cc nL ret own nm pc (m_un (fun a => (a.toUInt32 % 65536).toInt32)) := by
  refine m_pure (by
  intro ls st h x e
  unfold m_un at e
  (repeat' split at e) <;> first | (cases e; done) | (cases e; exact ⟨_, _, _, rfl⟩)) ?_
  intro p l e R s m args below meth c d h0 Q X ls st h pc1 ls1 st1 eq H locs al cells slots hS hH hro hL hcl hsl k
  obtain ⟨hx, hb, hml, hr, hown, hlk, hnm, hts, hW, hsz, hrl, hfr, hlo⟩ := X
  unfold m_un at eq
  split at eq
  · cases eq
    exact lv_i2c hx hb hdg rfl (k al hL)
  · cases eq

theorem m_s_idiv (hdg : decode cc pc = .ok (.idiv, 1)) : m_Snd D cA ra B ro M cc nL ret own nm pc (m_div (fun a b => a / b)) := by
  refine m_pure (by
  intro ls st h x e
  unfold m_div at e
  (repeat' split at e) <;> first | (cases e; done) | (cases e; exact ⟨_, _, _, rfl⟩)) ?_
  intro p l e R s m args below meth c d h0 Q X ls st h pc1 ls1 st1 eq H locs al cells slots hS hH hro hL hcl hsl k
  obtain ⟨hx, hb, hml, hr, hown, hlk, hnm, hts, hW, hsz, hrl, hfr, hlo⟩ := X
  unfold m_div at eq
  split at eq
  · split at eq
    · cases eq
    · rename_i hne
      cases eq
      exact lv_idiv hx hb hdg hne (k al hL)
  · cases eq

theorem m_s_irem (hdg : decode cc pc = .ok (.irem, 1)) : m_Snd D cA ra B ro M cc nL ret own nm pc (m_div (fun a b => a - a / b * b)) := by
  refine m_pure (by
  intro ls st h x e
  unfold m_div at e
  (repeat' split at e) <;> first | (cases e; done) | (cases e; exact ⟨_, _, _, rfl⟩)) ?_
  intro p l e R s m args below meth c d h0 Q X ls st h pc1 ls1 st1 eq H locs al cells slots hS hH hro hL hcl hsl k
  obtain ⟨hx, hb, hml, hr, hown, hlk, hnm, hts, hW, hsz, hrl, hfr, hlo⟩ := X
  unfold m_div at eq
  split at eq
  · split at eq
    · cases eq
    · rename_i hne
      cases eq
      exact lv_irem hx hb hdg hne (k al hL)
  · cases eq

theorem m_s_dup (hdg : decode cc pc = .ok (.dup, 1)) : m_Snd D cA ra B ro M cc nL ret own nm pc (m_dup) := by
  refine m_pure (by
  intro ls st h x e
  unfold m_dup at e
  (repeat' split at e) <;> first | (cases e; done) | (cases e; exact ⟨_, _, _, rfl⟩)) ?_
  intro p l e R s m args below meth c d h0 Q X ls st h pc1 ls1 st1 eq H locs al cells slots hS hH hro hL hcl hsl k
  obtain ⟨hx, hb, hml, hr, hown, hlk, hnm, hts, hW, hsz, hrl, hfr, hlo⟩ := X
  unfold m_dup at eq
  split at eq
  · cases eq
    exact lv_dup hx hb hdg rfl (k al hL)
  · cases eq
    exact lv_dup hx hb hdg rfl (k al hL)
  · cases eq

theorem m_s_dup2 (hdg : decode cc pc = .ok (.dup2, 1)) : m_Snd D cA ra B ro M cc nL ret own nm pc (m_dup2) := by
  refine m_pure (by
  intro ls st h x e
  unfold m_dup2 at e
  (repeat' split at e) <;> first | (cases e; done) | (cases e; exact ⟨_, _, _, rfl⟩)) ?_
  intro p l e R s m args below meth c d h0 Q X ls st h pc1 ls1 st1 eq H locs al cells slots hS hH hro hL hcl hsl k
  obtain ⟨hx, hb, hml, hr, hown, hlk, hnm, hts, hW, hsz, hrl, hfr, hlo⟩ := X
  unfold m_dup2 at eq
  split at eq
  · cases eq
    exact lv_dup2_11 hx hb hdg rfl rfl (k al hL)
  · cases eq

theorem m_s_if_eq {off : Int} {t : Nat} (hdg : decode cc pc = .ok (.ifCond .eq off, 3)) (ht : (pc : Int) + off = (t : Int)) : m_Snd D cA ra B ro M cc nL ret own nm pc (m_if (fun x => x == 0) t) := by
  refine m_pure (by
  intro ls st h x e
  unfold m_if at e
  (repeat' split at e) <;> first | (cases e; done) | (cases e; exact ⟨_, _, _, rfl⟩)) ?_
  intro p l e R s m args below meth c d h0 Q X ls st h pc1 ls1 st1 eq H locs al cells slots hS hH hro hL hcl hsl k
  obtain ⟨hx, hb, hml, hr, hown, hlk, hnm, hts, hW, hsz, hrl, hfr, hlo⟩ := X
  unfold m_if at eq
  split at eq
  · rename_i x st2
    simp only [Option.some.injEq, Sum.inl.injEq, Prod.mk.injEq] at eq
    obtain ⟨e1, e2, e3, -⟩ := eq
    subst e2 e3
    refine lv_if_eq (tgt := t) hx hb hdg ht (fun hc => ?_) (fun hc => ?_)
    · rw [if_pos (by simpa using hc)] at e1
      subst e1
      exact k al hL
    · rw [if_neg (by simpa using hc)] at e1
      subst e1
      exact k al hL
  · cases eq

theorem m_s_icmp_eq {off : Int} {t : Nat} (hdg : decode cc pc = .ok (.if_icmp .eq off, 3)) (ht : (pc : Int) + off = (t : Int)) : m_Snd D cA ra B ro M cc nL ret own nm pc (m_icmp (fun x y => x == y) t) := by
  refine m_pure (by
  intro ls st h x e
  unfold m_icmp at e
  (repeat' split at e) <;> first | (cases e; done) | (cases e; exact ⟨_, _, _, rfl⟩)) ?_
  intro p l e R s m args below meth c d h0 Q X ls st h pc1 ls1 st1 eq H locs al cells slots hS hH hro hL hcl hsl k
  obtain ⟨hx, hb, hml, hr, hown, hlk, hnm, hts, hW, hsz, hrl, hfr, hlo⟩ := X
  unfold m_icmp at eq
  split at eq
  · rename_i y x st2
    simp only [Option.some.injEq, Sum.inl.injEq, Prod.mk.injEq] at eq
    obtain ⟨e1, e2, e3, -⟩ := eq
    subst e2 e3
    refine lv_icmp_eq (tgt := t) hx hb hdg ht (fun hc => ?_) (fun hc => ?_)
    · rw [if_pos (by simpa using hc)] at e1
      subst e1
      exact k al hL
    · rw [if_neg (by simpa using hc)] at e1
      subst e1
      exact k al hL
  · cases eq

theorem m_s_if_ne {off : Int} {t : Nat} (hdg : decode cc pc = .ok (.ifCond .ne off, 3)) (ht : (pc : Int) + off = (t : Int)) : m_Snd D cA ra B ro M cc nL ret own nm pc (m_if (fun x => !(x == 0)) t) := by
  refine m_pure (by
  intro ls st h x e
  unfold m_if at e
  (repeat' split at e) <;> first | (cases e; done) | (cases e; exact ⟨_, _, _, rfl⟩)) ?_
  intro p l e R s m args below meth c d h0 Q X ls st h pc1 ls1 st1 eq H locs al cells slots hS hH hro hL hcl hsl k
  obtain ⟨hx, hb, hml, hr, hown, hlk, hnm, hts, hW, hsz, hrl, hfr, hlo⟩ := X
  unfold m_if at eq
  split at eq
  · rename_i x st2
    simp only [Option.some.injEq, Sum.inl.injEq, Prod.mk.injEq] at eq
    obtain ⟨e1, e2, e3, -⟩ := eq
    subst e2 e3
    refine lv_if_ne (tgt := t) hx hb hdg ht (fun hc => ?_) (fun hc => ?_)
    · rw [if_pos (by simpa using hc)] at e1
      subst e1
      exact k al hL
    · rw [if_neg (by simpa using hc)] at e1
      subst e1
      exact k al hL
  · cases eq

theorem m_s_icmp_ne {off : Int} {t : Nat} (hdg : decode cc pc = .ok (.if_icmp .ne off, 3)) (ht : (pc : Int) + off = (t : Int)) : m_Snd D cA ra B ro M cc nL ret own nm pc (m_icmp (fun x y => !(x == y)) t) := by
  refine m_pure (by
  intro ls st h x e
  unfold m_icmp at e
  (repeat' split at e) <;> first | (cases e; done) | (cases e; exact ⟨_, _, _, rfl⟩)) ?_
  intro p l e R s m args below meth c d h0 Q X ls st h pc1 ls1 st1 eq H locs al cells slots hS hH hro hL hcl hsl k
  obtain ⟨hx, hb, hml, hr, hown, hlk, hnm, hts, hW, hsz, hrl, hfr, hlo⟩ := X
  unfold m_icmp at eq
  split at eq
  · rename_i y x st2
    simp only [Option.some.injEq, Sum.inl.injEq, Prod.mk.injEq] at eq
    obtain ⟨e1, e2, e3, -⟩ := eq
    subst e2 e3
    refine lv_icmp_ne (tgt := t) hx hb hdg ht (fun hc => ?_) (fun hc => ?_)
    · rw [if_pos (by simpa using hc)] at e1
      subst e1
      exact k al hL
    · rw [if_neg (by simpa using hc)] at e1
      subst e1
      exact k al hL
  · cases eq

theorem m_s_if_lt {off : Int} {t : Nat} (hdg : decode cc pc = .ok (.ifCond .lt off, 3)) (ht : (pc : Int) + off = (t : Int)) : m_Snd D cA ra B ro M cc nL ret own nm pc (m_if (fun x => decide (x < 0)) t) := by
  refine m_pure (by
  intro ls st h x e
  unfold m_if at e
  (repeat' split at e) <;> first | (cases e; done) | (cases e; exact ⟨_, _, _, rfl⟩)) ?_
  intro p l e R s m args below meth c d h0 Q X ls st h pc1 ls1 st1 eq H locs al cells slots hS hH hro hL hcl hsl k
  obtain ⟨hx, hb, hml, hr, hown, hlk, hnm, hts, hW, hsz, hrl, hfr, hlo⟩ := X
  unfold m_if at eq
  split at eq
  · rename_i x st2
    simp only [Option.some.injEq, Sum.inl.injEq, Prod.mk.injEq] at eq
    obtain ⟨e1, e2, e3, -⟩ := eq
    subst e2 e3
    refine lv_if_lt (tgt := t) hx hb hdg ht (fun hc => ?_) (fun hc => ?_)
    · rw [if_pos (by simpa using hc)] at e1
      subst e1
      exact k al hL
    · rw [if_neg (by simpa using hc)] at e1
      subst e1
      exact k al hL
  · cases eq

theorem m_s_icmp_lt {off : Int} {t : Nat} (hdg : decode cc pc = .ok (.if_icmp .lt off, 3)) (ht : (pc : Int) + off = (t : Int)) : m_Snd D cA ra B ro M cc nL ret own nm pc (m_icmp (fun x y => decide (x < y)) t) := by
  refine m_pure (by
  intro ls st h x e
  unfold m_icmp at e
  (repeat' split at e) <;> first | (cases e; done) | (cases e; exact ⟨_, _, _, rfl⟩)) ?_
  intro p l e R s m args below meth c d h0 Q X ls st h pc1 ls1 st1 eq H locs al cells slots hS hH hro hL hcl hsl k
  obtain ⟨hx, hb, hml, hr, hown, hlk, hnm, hts, hW, hsz, hrl, hfr, hlo⟩ := X
  unfold m_icmp at eq
  split at eq
  · rename_i y x st2
    simp only [Option.some.injEq, Sum.inl.injEq, Prod.mk.injEq] at eq
    obtain ⟨e1, e2, e3, -⟩ := eq
    subst e2 e3
    refine lv_icmp_lt (tgt := t) hx hb hdg ht (fun hc => ?_) (fun hc => ?_)
    · rw [if_pos (by simpa using hc)] at e1
      subst e1
      exact k al hL
    · rw [if_neg (by simpa using hc)] at e1
      subst e1
      exact k al hL
  · cases eq

theorem m_s_if_ge {off : Int} {t : Nat} (hdg : decode cc pc = .ok (.ifCond .ge off, 3)) (ht : (pc : Int) + off = (t : Int)) : m_Snd D cA ra B ro M cc nL ret own nm pc (m_if (fun x => decide (0 ≤ x)) t) := by
  refine m_pure (by
  intro ls st h x e
  unfold m_if at e
  (repeat' split at e) <;> first | (cases e; done) | (cases e; exact ⟨_, _, _, rfl⟩)) ?_
  intro p l e R s m args below meth c d h0 Q X ls st h pc1 ls1 st1 eq H locs al cells slots hS hH hro hL hcl hsl k
  obtain ⟨hx, hb, hml, hr, hown, hlk, hnm, hts, hW, hsz, hrl, hfr, hlo⟩ := X
  unfold m_if at eq
  split at eq
  · rename_i x st2
    simp only [Option.some.injEq, Sum.inl.injEq, Prod.mk.injEq] at eq
    obtain ⟨e1, e2, e3, -⟩ := eq
    subst e2 e3
    refine lv_if_ge (tgt := t) hx hb hdg ht (fun hc => ?_) (fun hc => ?_)
    · rw [if_pos (by simpa using hc)] at e1
      subst e1
      exact k al hL
    · rw [if_neg (by simpa using hc)] at e1
      subst e1
      exact k al hL
  · cases eq

theorem m_s_icmp_ge {off : Int} {t : Nat} (hdg : decode cc pc = .ok (.if_icmp .ge off, 3)) (ht : (pc : Int) + off = (t : Int)) : m_Snd D cA ra B ro M cc nL ret own nm pc (m_icmp (fun x y => decide (y ≤ x)) t) := by
  refine m_pure (by
  intro ls st h x e
  unfold m_icmp at e
  (repeat' split at e) <;> first | (cases e; done) | (cases e; exact ⟨_, _, _, rfl⟩)) ?_
  intro p l e R s m args below meth c d h0 Q X ls st h pc1 ls1 st1 eq H locs al cells slots hS hH hro hL hcl hsl k
  obtain ⟨hx, hb, hml, hr, hown, hlk, hnm, hts, hW, hsz, hrl, hfr, hlo⟩ := X
  unfold m_icmp at eq
  split at eq
  · rename_i y x st2
    simp only [Option.some.injEq, Sum.inl.injEq, Prod.mk.injEq] at eq
    obtain ⟨e1, e2, e3, -⟩ := eq
    subst e2 e3
    refine lv_icmp_ge (tgt := t) hx hb hdg ht (fun hc => ?_) (fun hc => ?_)
    · rw [if_pos (by simpa using hc)] at e1
      subst e1
      exact k al hL
    · rw [if_neg (by simpa using hc)] at e1
      subst e1
      exact k al hL
  · cases eq

theorem m_s_if_gt {off : Int} {t : Nat} (hdg : decode cc pc = .ok (.ifCond .gt off, 3)) (ht : (pc : Int) + off = (t : Int)) : m_Snd D cA ra B ro M cc nL ret own nm pc (m_if (fun x => decide (0 < x)) t) := by
  refine m_pure (by
  intro ls st h x e
  unfold m_if at e
  (repeat' split at e) <;> first | (cases e; done) | (cases e; exact ⟨_, _, _, rfl⟩)) ?_
  intro p l e R s m args below meth c d h0 Q X ls st h pc1 ls1 st1 eq H locs al cells slots hS hH hro hL hcl hsl k
  obtain ⟨hx, hb, hml, hr, hown, hlk, hnm, hts, hW, hsz, hrl, hfr, hlo⟩ := X
  unfold m_if at eq
  split at eq
  · rename_i x st2
    simp only [Option.some.injEq, Sum.inl.injEq, Prod.mk.injEq] at eq
    obtain ⟨e1, e2, e3, -⟩ := eq
    subst e2 e3
    refine lv_if_gt (tgt := t) hx hb hdg ht (fun hc => ?_) (fun hc => ?_)
    · rw [if_pos (by simpa using hc)] at e1
      subst e1
      exact k al hL
    · rw [if_neg (by simpa using hc)] at e1
      subst e1
      exact k al hL
  · cases eq

theorem m_s_icmp_gt {off : Int} {t : Nat} (hdg : decode cc pc = .ok (.if_icmp .gt off, 3)) (ht : (pc : Int) + off = (t : Int)) : m_Snd D cA ra B ro M cc nL ret own nm pc (m_icmp (fun x y => decide (y < x)) t) := by
  refine m_pure (by
  intro ls st h x e
  unfold m_icmp at e
  (repeat' split at e) <;> first | (cases e; done) | (cases e; exact ⟨_, _, _, rfl⟩)) ?_
  intro p l e R s m args below meth c d h0 Q X ls st h pc1 ls1 st1 eq H locs al cells slots hS hH hro hL hcl hsl k
  obtain ⟨hx, hb, hml, hr, hown, hlk, hnm, hts, hW, hsz, hrl, hfr, hlo⟩ := X
  unfold m_icmp at eq
  split at eq
  · rename_i y x st2
    simp only [Option.some.injEq, Sum.inl.injEq, Prod.mk.injEq] at eq
    obtain ⟨e1, e2, e3, -⟩ := eq
    subst e2 e3
    refine lv_icmp_gt (tgt := t) hx hb hdg ht (fun hc => ?_) (fun hc => ?_)
    · rw [if_pos (by simpa using hc)] at e1
      subst e1
      exact k al hL
    · rw [if_neg (by simpa using hc)] at e1
      subst e1
      exact k al hL
  · cases eq

theorem m_s_if_le {off : Int} {t : Nat} (hdg : decode cc pc = .ok (.ifCond .le off, 3)) (ht : (pc : Int) + off = (t : Int)) : m_Snd D cA ra B ro M cc nL ret own nm pc (m_if (fun x => decide (x ≤ 0)) t) := by
  refine m_pure (by
  intro ls st h x e
  unfold m_if at e
  (repeat' split at e) <;> first | (cases e; done) | (cases e; exact ⟨_, _, _, rfl⟩)) ?_
  intro p l e R s m args below meth c d h0 Q X ls st h pc1 ls1 st1 eq H locs al cells slots hS hH hro hL hcl hsl k
  obtain ⟨hx, hb, hml, hr, hown, hlk, hnm, hts, hW, hsz, hrl, hfr, hlo⟩ := X
  unfold m_if at eq
  split at eq
  · rename_i x st2
    simp only [Option.some.injEq, Sum.inl.injEq, Prod.mk.injEq] at eq
    obtain ⟨e1, e2, e3, -⟩ := eq
    subst e2 e3
    refine lv_if_le (tgt := t) hx hb hdg ht (fun hc => ?_) (fun hc => ?_)
    · rw [if_pos (by simpa using hc)] at e1
      subst e1
      exact k al hL
    · rw [if_neg (by simpa using hc)] at e1
      subst e1
      exact k al hL
  · cases eq

theorem m_s_icmp_le {off : Int} {t : Nat} (hdg : decode cc pc = .ok (.if_icmp .le off, 3)) (ht : (pc : Int) + off = (t : Int)) : m_Snd D cA ra B ro M cc nL ret own nm pc (m_icmp (fun x y => decide (x ≤ y)) t) := by
  refine m_pure (by
  intro ls st h x e
  unfold m_icmp at e
  (repeat' split at e) <;> first | (cases e; done) | (cases e; exact ⟨_, _, _, rfl⟩)) ?_
  intro p l e R s m args below meth c d h0 Q X ls st h pc1 ls1 st1 eq H locs al cells slots hS hH hro hL hcl hsl k
  obtain ⟨hx, hb, hml, hr, hown, hlk, hnm, hts, hW, hsz, hrl, hfr, hlo⟩ := X
  unfold m_icmp at eq
  split at eq
  · rename_i y x st2
    simp only [Option.some.injEq, Sum.inl.injEq, Prod.mk.injEq] at eq
    obtain ⟨e1, e2, e3, -⟩ := eq
    subst e2 e3
    refine lv_icmp_le (tgt := t) hx hb hdg ht (fun hc => ?_) (fun hc => ?_)
    · rw [if_pos (by simpa using hc)] at e1
      subst e1
      exact k al hL
    · rw [if_neg (by simpa using hc)] at e1
      subst e1
      exact k al hL
  · cases eq

theorem m_s_ifnull {off : Int} {t : Nat} (hdg : decode cc pc = .ok (.ifnull off, 3)) (ht : (pc : Int) + off = (t : Int)) : m_Snd D cA ra B ro M cc nL ret own nm pc (m_ifnull t) := by
  refine m_pure (by
  intro ls st h x e
  unfold m_ifnull at e
  (repeat' split at e) <;> first | (cases e; done) | (cases e; exact ⟨_, _, _, rfl⟩)) ?_
  intro p l e R s m args below meth c d h0 Q X ls st h pc1 ls1 st1 eq H locs al cells slots hS hH hro hL hcl hsl k
  obtain ⟨hx, hb, hml, hr, hown, hlk, hnm, hts, hW, hsz, hrl, hfr, hlo⟩ := X
  unfold m_ifnull at eq
  split at eq
  · cases eq
    exact lv_ifnullN hx hb hdg ht (k al hL)
  · cases eq
    exact lv_ifnull hx hb hdg (k al hL)
  · cases eq

theorem m_s_ifnonnull {off : Int} {t : Nat} (hdg : decode cc pc = .ok (.ifnonnull off, 3)) (ht : (pc : Int) + off = (t : Int)) : m_Snd D cA ra B ro M cc nL ret own nm pc (m_ifnonnull t) := by
  refine m_pure (by
  intro ls st h x e
  unfold m_ifnonnull at e
  (repeat' split at e) <;> first | (cases e; done) | (cases e; exact ⟨_, _, _, rfl⟩)) ?_
  intro p l e R s m args below meth c d h0 Q X ls st h pc1 ls1 st1 eq H locs al cells slots hS hH hro hL hcl hsl k
  obtain ⟨hx, hb, hml, hr, hown, hlk, hnm, hts, hW, hsz, hrl, hfr, hlo⟩ := X
  unfold m_ifnonnull at eq
  split at eq
  · cases eq
    exact lv_ifnonnullN hx hb hdg (k al hL)
  · cases eq
    exact lv_ifnonnull hx hb hdg ht (k al hL)
  · cases eq

theorem m_s_goto {off : Int} {t : Nat} (hdg : decode cc pc = .ok (.goto off, 3)) (ht : (pc : Int) + off = (t : Int)) : m_Snd D cA ra B ro M cc nL ret own nm pc (m_goto t) := by
  refine m_pure (by
  intro ls st h x e
  unfold m_goto at e
  (repeat' split at e) <;> first | (cases e; done) | (cases e; exact ⟨_, _, _, rfl⟩)) ?_
  intro p l e R s m args below meth c d h0 Q X ls st h pc1 ls1 st1 eq H locs al cells slots hS hH hro hL hcl hsl k
  obtain ⟨hx, hb, hml, hr, hown, hlk, hnm, hts, hW, hsz, hrl, hfr, hlo⟩ := X
  unfold m_goto at eq
  cases eq
  exact lv_goto hx hb hdg ht (k al hL)

theorem m_s_tsw {dflt lo hi : Int} {offs : Array Int} {len t0 : Nat} {tg : List Nat} (hdg : decode cc pc = .ok (.tableswitch dflt lo hi offs, len)) (hlen : (tg.length : Int) = hi - lo + 1) (ht : (pc : Int) + dflt = (t0 : Int)) (hof : ∀ i, i < tg.length → offs[i]? = some (((tg.getD i 0 : Nat) : Int) - (pc : Int))) : m_Snd D cA ra B ro M cc nL ret own nm pc (m_tsw lo hi t0 tg) := by
  refine m_pure (by
  intro ls st h x e
  unfold m_tsw at e
  (repeat' split at e) <;> first | (cases e; done) | (cases e; exact ⟨_, _, _, rfl⟩)) ?_
  intro p l e R s m args below meth c d h0 Q X ls st h pc1 ls1 st1 eq H locs al cells slots hS hH hro hL hcl hsl k
  obtain ⟨hx, hb, hml, hr, hown, hlk, hnm, hts, hW, hsz, hrl, hfr, hlo⟩ := X
  unfold m_tsw at eq
  split at eq
  · rename_i x st2
    simp only [Option.some.injEq, Sum.inl.injEq, Prod.mk.injEq] at eq
    obtain ⟨e1, e2, e3, -⟩ := eq
    subst e2 e3
    by_cases hc : x.toInt < lo ∨ hi < x.toInt
    · rw [if_pos hc] at e1
      subst e1
      exact lv_tableOut hx hb hdg hc ht (k al hL)
    · rw [if_neg hc] at e1
      subst e1
      have h1 : ¬ x.toInt < lo := fun z => hc (Or.inl z)
      have h2 : ¬ hi < x.toInt := fun z => hc (Or.inr z)
      have g1 := hof (x.toInt - lo).toNat (by omega)
      exact lv_tableIn hx hb hdg h1 h2 g1 (by omega) (k al hL)
  · cases eq

theorem m_s_lsw {dflt : Int} {ps : Array (Int × Int)} {len t0 t1 td : Nat} {lo hi : Int32} {a0 a1 : Int} (hdg : decode cc pc = .ok (.lookupswitch dflt ps, len)) (hps : ps.toList = [(lo.toInt, a0), (hi.toInt, a1)]) (hlt : lo.toInt < hi.toInt) (g0 : (pc : Int) + a0 = (t0 : Int)) (g1 : (pc : Int) + a1 = (t1 : Int)) (gd : (pc : Int) + dflt = (td : Int)) : m_Snd D cA ra B ro M cc nL ret own nm pc (m_lsw lo hi td t0 t1) := by
  refine m_pure (by
  intro ls st h x e
  unfold m_lsw at e
  (repeat' split at e) <;> first | (cases e; done) | (cases e; exact ⟨_, _, _, rfl⟩)) ?_
  intro p l e R s m args below meth c d h0 Q X ls st h pc1 ls1 st1 eq H locs al cells slots hS hH hro hL hcl hsl k
  obtain ⟨hx, hb, hml, hr, hown, hlk, hnm, hts, hW, hsz, hrl, hfr, hlo⟩ := X
  unfold m_lsw at eq
  split at eq
  · rename_i x st2
    simp only [Option.some.injEq, Sum.inl.injEq, Prod.mk.injEq] at eq
    obtain ⟨e1, e2, e3, -⟩ := eq
    subst e2 e3
    have hp : (ps.toList.zip (ps.toList.drop 1)).all (fun (a, next) => a.1 < next.1) = true := by rw [hps]; simp [hlt]
    by_cases hc : x = lo
    · rw [if_pos hc] at e1
      subst e1
      subst hc
      exact lv_lookup (off := a0) hx hb hdg hp (by rw [hps]; simp [Op.lookupswitch.offset]) g0 (k al hL)
    · rw [if_neg hc] at e1
      have n1 : ¬ x.toInt = lo.toInt := fun z => hc (Int32.toInt_inj.mp z)
      by_cases hc2 : x = hi
      · rw [if_pos hc2] at e1
        subst e1
        subst hc2
        exact lv_lookup (off := a1) hx hb hdg hp (by rw [hps]; simp [Op.lookupswitch.offset, Ne.symm n1]) g1 (k al hL)
      · rw [if_neg hc2] at e1
        subst e1
        have n2 : ¬ x.toInt = hi.toInt := fun z => hc2 (Int32.toInt_inj.mp z)
        exact lv_lookup (off := dflt) hx hb hdg hp (by rw [hps]; simp [Op.lookupswitch.offset, Ne.symm n1, Ne.symm n2]) gd (k al hL)
  · cases eq

theorem m_s_i2f (hdg : decode cc pc = .ok (.i2f, 1)) : m_Snd D cA ra B ro M cc nL ret own nm pc (m_i2f) := by
  refine m_pure (by
  intro ls st h x e
  unfold m_i2f at e
  (repeat' split at e) <;> first | (cases e; done) | (cases e; exact ⟨_, _, _, rfl⟩)) ?_
  intro p l e R s m args below meth c d h0 Q X ls st h pc1 ls1 st1 eq H locs al cells slots hS hH hro hL hcl hsl k
  obtain ⟨hx, hb, hml, hr, hown, hlk, hnm, hts, hW, hsz, hrl, hfr, hlo⟩ := X
  unfold m_i2f at eq
  split at eq
  · cases eq
    exact lv_i2f hx hb hdg (k al hL)
  · cases eq

theorem m_s_fadd (hdg : decode cc pc = .ok (.fadd, 1)) : m_Snd D cA ra B ro M cc nL ret own nm pc (m_fbin FP.fadd) := by
  refine m_pure (by
  intro ls st h x e
  unfold m_fbin at e
  (repeat' split at e) <;> first | (cases e; done) | (cases e; exact ⟨_, _, _, rfl⟩)) ?_
  intro p l e R s m args below meth c d h0 Q X ls st h pc1 ls1 st1 eq H locs al cells slots hS hH hro hL hcl hsl k
  obtain ⟨hx, hb, hml, hr, hown, hlk, hnm, hts, hW, hsz, hrl, hfr, hlo⟩ := X
  unfold m_fbin at eq
  split at eq
  · split at eq
    · rename_i hne
      cases eq
      exact lv_fadd hx hb hdg hne (k al hL)
    · cases eq
  · cases eq

theorem m_s_fdiv (hdg : decode cc pc = .ok (.fdiv, 1)) : m_Snd D cA ra B ro M cc nL ret own nm pc (m_fbin FP.fdiv) := by
  refine m_pure (by
  intro ls st h x e
  unfold m_fbin at e
  (repeat' split at e) <;> first | (cases e; done) | (cases e; exact ⟨_, _, _, rfl⟩)) ?_
  intro p l e R s m args below meth c d h0 Q X ls st h pc1 ls1 st1 eq H locs al cells slots hS hH hro hL hcl hsl k
  obtain ⟨hx, hb, hml, hr, hown, hlk, hnm, hts, hW, hsz, hrl, hfr, hlo⟩ := X
  unfold m_fbin at eq
  split at eq
  · split at eq
    · rename_i hne
      cases eq
      exact lv_fdiv hx hb hdg hne (k al hL)
    · cases eq
  · cases eq

theorem m_s_f2d (hdg : decode cc pc = .ok (.f2d, 1)) : m_Snd D cA ra B ro M cc nL ret own nm pc (m_f2d) := by
  refine m_pure (by
  intro ls st h x e
  unfold m_f2d at e
  (repeat' split at e) <;> first | (cases e; done) | (cases e; exact ⟨_, _, _, rfl⟩)) ?_
  intro p l e R s m args below meth c d h0 Q X ls st h pc1 ls1 st1 eq H locs al cells slots hS hH hro hL hcl hsl k
  obtain ⟨hx, hb, hml, hr, hown, hlk, hnm, hts, hW, hsz, hrl, hfr, hlo⟩ := X
  unfold m_f2d at eq
  split at eq
  · split at eq
    · rename_i hne
      cases eq
      exact lv_f2d hx hb hdg hne (k al hL)
    · cases eq
  · cases eq

theorem m_s_dcmp {op : CmpOp} (hdg : decode cc pc = .ok (.dcmp op, 1)) : m_Snd D cA ra B ro M cc nL ret own nm pc (m_dcmp op) := by
  refine m_pure (by
  intro ls st h x e
  unfold m_dcmp at e
  (repeat' split at e) <;> first | (cases e; done) | (cases e; exact ⟨_, _, _, rfl⟩)) ?_
  intro p l e R s m args below meth c d h0 Q X ls st h pc1 ls1 st1 eq H locs al cells slots hS hH hro hL hcl hsl k
  obtain ⟨hx, hb, hml, hr, hown, hlk, hnm, hts, hW, hsz, hrl, hfr, hlo⟩ := X
  unfold m_dcmp at eq
  split at eq
  · cases eq
    exact lv_dcmp hx hb hdg (k al hL)
  · cases eq

end
end
section
/-! instructions that read and write cells, make them, call and return -/
theorem m_Wsize {p : Program} {l : Launch} {e : Env} {R : Room} {s : State} {m : MethodId} {args : Array Value} {below : List Frame} {meth : Method} {c : Code} {H : Heap} {locs : List Loc} {cells slots : Nat} {Q : State → Prop} {g : JFrame} (k : H.size ≤ s.heap.size + cells → W p l e R s m args below meth c H locs cells slots Q g) : W p l e R s m args below meth c H locs cells slots Q g := fun T hT X => k (by rw [← hT]; exact X.heapSize) T hT X
theorem m_S2 {A : Nat → Prop} {H0 H H1 : Heap} {locs locs1 : List Loc} (h : va_S A H0 H locs) (h1 : va_S A H H1 locs1) : va_S A H0 H1 locs1 := ⟨Nat.le_trans h.1 h1.1, fun q g1 g2 => (h1.2.1 q (Nat.lt_of_lt_of_le g1 h.1) g2).trans (h.2.1 q g1 g2), h1.2.2⟩
theorem m_S0 {A : Nat → Prop} {H0 H : Heap} {locs : List Loc} (h : va_S A H0 H locs) : va_S A H H locs := ⟨Nat.le_refl _, fun _ _ _ => rfl, h.2.2⟩
theorem m_Rd.ro {ro : List (List Int32)} {h : m_Hp} {a : Nat} {x : m_Cel} (hro : m_Rd ro h) (ha : a < 4) (hx : h[a]? = some x) : ∃ xs, ro[a]? = some xs ∧ x = .inl (0, xs) := by
  have h1 : (h.take 4)[a]? = some x := by rw [List.getElem?_take_of_lt ha]; exact hx
  rw [hro, List.getElem?_map] at h1
  cases hr : ro[a]? with
  | none => rw [hr] at h1; cases h1
  | some xs => rw [hr] at h1; cases h1; exact ⟨xs, rfl, rfl⟩
theorem m_Rd.mono {ro : List (List Int32)} {h h1 : m_Hp} (hm : m_mono h h1) (hro : m_Rd ro h) : m_Rd ro h1 := hm.2.2.trans hro
section
variable {D : va_G} {cA : Nat → ClassId} {ra : Nat → Nat} {B : Nat} {ro : List (List Int32)} {M : List m_Mt} {cc : ByteArray} {nL : Nat} {ret : Option FieldType} {own nm : String} {pc : Nat} {o : m_Op}
theorem m_ad4 {a : Nat} (h : a < 4) : m_ad ra B a = ra a := if_pos h
/-- an instruction that goes on, and may move the heap -/
theorem m_heap (hn : ∀ (ls : m_Ls) (st : List Value) (h : m_Hp) (x : m_Res), o pc ls st h = some x → ∃ y, x = .inl y)
    (hm : ∀ (ls : m_Ls) (st : List Value) (h : m_Hp) (pc1 : Nat) (ls1 : m_Ls) (st1 : List Value) (h1 : m_Hp), o pc ls st h = some (.inl (pc1, ls1, st1, h1)) → 4 ≤ h.length → m_mono h h1)
    (hz : ∀ (p : Program) (l : Launch) (e : Env) (R : Room) (s : State) (m : MethodId) (args : Array Value) (below : List Frame) (meth : Method) (c : Code) (d : Nat) (h0 : m_Hp) (Q : State → Prop), m_Cx D cA ra B ro p R s m args meth c cc nL ret own nm d h0 →
      ∀ (ls : m_Ls) (st : List Value) (h : m_Hp) (pc1 : Nat) (ls1 : m_Ls) (st1 : List Value) (h1 : m_Hp), o pc ls st h = some (.inl (pc1, ls1, st1, h1)) → 4 ≤ h.length → m_mono h h1 → m_mono h0 h → m_Rm R h0 h1 → ∀ (H : Heap) (locs : List Loc) (al : Array Slot), va_S (m_A B) s.heap H locs → m_Hd D cA ra B h H → m_Rd ro h → m_Lv ra B al nL ls → H.size + 4 = B + h.length →
        (∀ (H1 : Heap) (locs1 : List Loc), va_S (m_A B) s.heap H1 locs1 → m_Hd D cA ra B h1 H1 → ∀ al1, m_Lv ra B al1 nL ls1 → W p l e R s m args below meth c H1 locs1 (h1.length - h0.length) (m_sz h1 - m_sz h0) Q (F0 m pc1 al1 (st1.map (m_cv ra B)))) → W p l e R s m args below meth c H locs (h.length - h0.length) (m_sz h - m_sz h0) Q (F0 m pc al (st.map (m_cv ra B)))) : m_Snd D cA ra B ro M cc nL ret own nm pc o := by
  refine ⟨hm, ?_⟩
  intro p l e R s m args below meth c d h0 Q X
  refine ⟨fun ls st h pc1 ls1 st1 h1 eq h4 => ?_, fun ls st h z as rest r1 h1 eq => ?_, fun ls st h v eq => ?_⟩
  · have hmm := hm ls st h pc1 ls1 st1 h1 eq h4
    intro hm0 hR k H locs al hS hH hro hL
    refine m_Wsize fun hup => ?_
    have hsz := X.2.2.2.2.2.2.2.2.2.1
    have h5 := hm0.1
    have h6 := hH.2
    exact hz p l e R s m args below meth c d h0 Q X ls st h pc1 ls1 st1 h1 eq h4 hmm hm0 hR H locs al hS hH hro hL (by omega) (fun H1 locs1 hS1 hH1 al1 hL1 => k H1 locs1 al1 hS1 hH1 (hro.mono hmm) hL1)
  · obtain ⟨y, q⟩ := hn ls st h _ eq
    cases q
  · obtain ⟨y, q⟩ := hn ls st h _ eq
    cases q
theorem m_bif {c : Bool} {x y : m_Res} (h : (bif c then some x else none) = some y) : c = true ∧ y = x := by
  cases c with
  | false => cases h
  | true => cases h; exact ⟨rfl, rfl⟩
theorem m_beq {a b : Nat} (h : Nat.beq a b = true) : a = b := Nat.eq_of_beq_eq_true h
theorem m_blt {a b : Nat} (h : Nat.blt a b = true) : a < b := by rw [Nat.blt_eq] at h; exact h
theorem m_s_get {ci k N idx : Nat} {C : String} {T : u_T} (hc : vwCl[ci]? = some (C, T, N)) (hk : k < N) (hin : ∀ w ∈ u_ws C T N, w ∈ m_gd) (hC : (T k).1 = C) (hw : Cond.fieldLink own idx C (T k).2.1 (T k).2.2.1 ∈ m_gd) (hdg : decode cc pc = .ok (.getfield idx, 3)) : m_Snd D cA ra B ro M cc nL ret own nm pc (m_get ci k) := by
  refine m_pure (fun ls st h x e => ?_) ?_
  · unfold m_get at e
    (repeat' split at e) <;> first | (cases e; done) | (obtain ⟨_, rfl⟩ := m_bif e; exact ⟨_, _, _, rfl⟩)
  intro p l e R s m args below meth c d h0 Q X ls st h pc1 ls1 st1 eq H locs al cells slots hS hH hro hL hcl hsl kk
  obtain ⟨hx, hb, hml, hr, hown, hlk, hnm, hts, hW, hsz, hrl, hfr, hlo⟩ := X
  unfold m_get at eq
  split at eq
  · rename_i a st2
    split at eq
    · rename_i cj fs hh
      split at eq
      · rename_i v hv
        obtain ⟨hq, e3⟩ := m_bif eq
        cases e3
        rw [Bool.and_eq_true] at hq
        have e1 := m_beq hq.1
        subst e1
        have h3 := m_blt hq.2
        exact va_get (D := D) hx hb hts hin hown hW.1 hH.1 (a - 4) (m_ws_get hh h3) hc k hk (hts _ hw) (fun x hx => by rw [← hC]; exact hx) (v := m_cv ra B v) (by rw [List.getElem?_map, hv]; rfl) hdg (kk al hL)
      · cases eq
    · cases eq
  · cases eq
theorem m_put_spec {ci k ty : Nat} {ls : m_Ls} {st : List Value} {h : m_Hp} {x : m_Res} (e : m_put ci k ty pc ls st h = some x) : ∃ v a st2 fs, st = v :: .ref a :: st2 ∧ h[a]? = some (.inr (.inl (ci, fs))) ∧ 3 < a ∧ m_fit ty v = true ∧ k < fs.length ∧ x = .inl (pc + 3, ls, st2, h.set a (.inr (.inl (ci, fs.set k v)))) := by
  unfold m_put at e
  split at e
  · rename_i v a st2
    split at e
    · rename_i cj fs hh
      obtain ⟨hq, e3⟩ := m_bif e
      rw [Bool.and_eq_true, Bool.and_eq_true, Bool.and_eq_true] at hq
      obtain ⟨⟨⟨q1, q2⟩, q3⟩, q4⟩ := hq
      have e1 := m_beq q1
      subst e1
      exact ⟨v, a, st2, fs, rfl, hh, m_blt q2, q3, m_blt q4, e3⟩
    · cases e
  · cases e
theorem m_put_n {ci k ty : Nat} (ls : m_Ls) (st : List Value) (h : m_Hp) (x : m_Res) (e : m_put ci k ty pc ls st h = some x) : ∃ y, x = .inl y := by
  obtain ⟨v, a, st2, fs, -, -, -, -, -, q⟩ := m_put_spec e
  exact ⟨_, q⟩
theorem m_put_m {ci k ty : Nat} (ls : m_Ls) (st : List Value) (h : m_Hp) (pc1 : Nat) (ls1 : m_Ls) (st1 : List Value) (h1 : m_Hp) (e : m_put ci k ty pc ls st h = some (.inl (pc1, ls1, st1, h1))) (_ : 4 ≤ h.length) : m_mono h h1 := by
  obtain ⟨v, a, st2, fs, -, hh, h3, -, -, q⟩ := m_put_spec e
  cases q
  exact m_mono.set hh h3 (by simp [m_csz])
/-- what fits a field -/
def m_ft (ty : Nat) (f : FieldType) : Prop := ∀ (ra : Nat → Nat) (B : Nat) (v : Value), m_fit ty v = true → narrow f (m_cv ra B v) = m_cv ra B v ∧ fits f (m_cv ra B v) = true
theorem m_ft0 : m_ft 0 .int := fun ra B v h => by cases v <;> first | (cases h; done) | exact ⟨rfl, rfl⟩
theorem m_ft1o (n : String) : m_ft 1 (.object n) := fun ra B v h => by cases v <;> first | (cases h; done) | exact ⟨rfl, rfl⟩
theorem m_ft1a (t : FieldType) : m_ft 1 (.array t) := fun ra B v h => by cases v <;> first | (cases h; done) | exact ⟨rfl, rfl⟩
theorem m_ft2 : m_ft 2 .boolean := fun ra B v h => by
  cases v with
  | int x =>
    have h1 : x = 0 ∨ x = 1 := by simpa [m_fit] using h
    rcases h1 with rfl | rfl
    · exact ⟨(by decide : narrow .boolean (.int 0) = .int 0), (by decide : fits .boolean (.int 0) = true)⟩
    · exact ⟨(by decide : narrow .boolean (.int 1) = .int 1), (by decide : fits .boolean (.int 1) = true)⟩
  | _ => cases h
theorem m_ce_o {ci k : Nat} {fs : List Value} {v : Value} : m_ce cA ra B (.inr (.inl (ci, fs.set k v))) = .inr (ci, (fs.map (m_cv ra B)).set k (m_cv ra B v)) := by
  show Sum.inr (ci, (fs.set k v).map (m_cv ra B)) = _
  rw [List.map_set]
theorem m_Hd_set {h : m_Hp} {a : Nat} {x : m_Cel} {E : va_E} {H H1 : Heap} (h3 : 3 < a) (hE : m_ce cA ra B x = E) (hP : va_P D vwCl ((m_ws cA ra B h).set (a - 4) (m_ad ra B a, E)) H1) (hz : H.size ≤ H1.size) (hH : m_Hd D cA ra B h H) : m_Hd D cA ra B (h.set a x) H1 := by
  subst hE
  rw [m_ws_set h3] at hP
  refine ⟨hP, ?_⟩
  have h1 := hH.2
  rw [List.length_set]
  omega
theorem m_len_set {h h0 : m_Hp} {a : Nat} {x : m_Cel} : (h.set a x).length - h0.length = h.length - h0.length := by rw [List.length_set]
theorem m_s_put {ci k N idx ty : Nat} {C : String} {T : u_T} {ty0 : Nat → FieldType} {f : FieldType} (hc : vwCl[ci]? = some (C, T, N)) (hk : k < N) (hin : ∀ w ∈ u_ws C T N, w ∈ m_gd) (hty : ∀ k, k < N → parseFieldDescriptor (T k).2.2.1 = some (ty0 k)) (hnm : ∀ a, a < N → ∀ b, b < N → a ≠ b → (T a).2.1 ≠ (T b).2.1) (hC : (T k).1 = C) (hfin : (T k).2.2.2 = false) (hf : ty0 k = f) (hft : m_ft ty f) (hw : Cond.fieldLink own idx C (T k).2.1 (T k).2.2.1 ∈ m_gd) (hdg : decode cc pc = .ok (.putfield idx, 3)) : m_Snd D cA ra B ro M cc nL ret own nm pc (m_put ci k ty) := by
  refine m_heap m_put_n m_put_m ?_
  intro p l e R s m args below meth c d h0 Q X ls st h pc1 ls1 st1 h1 eq h4 hmm hm0 hR H locs al hS hH hro hL hex kk
  obtain ⟨hx, hb, hml, hr, hown, hlk, hnm2, hts, hW, hsz, hrl, hfr, hlo⟩ := X
  obtain ⟨v, a, st2, fs, rfl, hh, h3, q3, q4, q5⟩ := m_put_spec eq
  cases q5
  subst hf
  refine va_put (D := D) (H0 := H) (A := m_A B) hx hb hts hin ty0 hty hnm hown hW.1 hH.1 m_wsD (m_S0 hS) (a - 4) (m_ws_get hh h3) hc k hk (hts _ hw) (fun x hx => by rw [← hC]; exact hx) hfin (hty k hk) (hft ra B v q3).1 (hft ra B v q3).2 (by rw [List.length_map]; exact q4) hdg (fun H1 locs1 hP1 hD1 hS1 => ?_)
  have k1 := kk H1 locs1 (m_S2 hS hS1) (m_Hd_set h3 m_ce_o hP1 hS1.1 hH) al hL
  rw [m_len_set, m_sz_set hh (by simp [m_csz])] at k1
  exact k1
theorem m_s_putF {ci k N idx ty : Nat} {C : String} {T : u_T} {ty0 : Nat → FieldType} {f : FieldType} (hc : vwCl[ci]? = some (C, T, N)) (hk : k < N) (hin : ∀ w ∈ u_ws C T N, w ∈ m_gd) (hty : ∀ k, k < N → parseFieldDescriptor (T k).2.2.1 = some (ty0 k)) (hnm : ∀ a, a < N → ∀ b, b < N → a ≠ b → (T a).2.1 ≠ (T b).2.1) (hC : (T k).1 = C) (hfin : (T k).2.2.2 = true) (hi : nm = "<init>") (ho : (T k).1 = own) (hf : ty0 k = f) (hft : m_ft ty f) (hw : Cond.fieldLink own idx C (T k).2.1 (T k).2.2.1 ∈ m_gd) (hdg : decode cc pc = .ok (.putfield idx, 3)) : m_Snd D cA ra B ro M cc nL ret own nm pc (m_put ci k ty) := by
  refine m_heap m_put_n m_put_m ?_
  intro p l e R s m args below meth c d h0 Q X ls st h pc1 ls1 st1 h1 eq h4 hmm hm0 hR H locs al hS hH hro hL hex kk
  obtain ⟨hx, hb, hml, hr, hown, hlk, hnm2, hts, hW, hsz, hrl, hfr, hlo⟩ := X
  obtain ⟨v, a, st2, fs, rfl, hh, h3, q3, q4, q5⟩ := m_put_spec eq
  cases q5
  subst hf
  refine va_putF (D := D) (H0 := H) (A := m_A B) hx hb hts hin ty0 hty hnm hown hW.1 hH.1 m_wsD (m_S0 hS) (a - 4) (m_ws_get hh h3) hc k hk (hts _ hw) (fun x hx => by rw [← hC]; exact hx) hfin (by rw [hnm2, hi]) ho (hty k hk) (hft ra B v q3).1 (hft ra B v q3).2 (by rw [List.length_map]; exact q4) hdg (fun H1 locs1 hP1 hD1 hS1 => ?_)
  have k1 := kk H1 locs1 (m_S2 hS hS1) (m_Hd_set h3 m_ce_o hP1 hS1.1 hH) al hL
  rw [m_len_set, m_sz_set hh (by simp [m_csz])] at k1
  exact k1
theorem m_s_gets {idx j : Nat} {n dd : String} (hj : (n = "FIRST_OF_SETTING" ∧ j = 0) ∨ (n = "LEAST_OF_SETTING" ∧ j = 1) ∨ (n = "MOST_OF_SETTING" ∧ j = 2)) (hw : Cond.fieldLink own idx "CardSheets" n "[I" ∈ m_gd) (hdg : decode cc pc = .ok (.getstatic idx, 3)) : m_Snd D cA ra B ro M cc nL ret own nm pc (m_gets j) := by
  refine m_pure (fun ls st h x e => by cases e; exact ⟨_, _, _, rfl⟩) ?_
  intro p l e R s m args below meth c d h0 Q X ls st h pc1 ls1 st1 eq H locs al cells slots hS hH hro hL hcl hsl kk
  obtain ⟨hx, hb, hml, hr, hown, hlk, hnm, hts, hW, hsz, hrl, hfr, hlo⟩ := X
  cases eq
  rcases hj with ⟨rfl, rfl⟩ | ⟨rfl, rfl⟩ | ⟨rfl, rfl⟩
  · exact va_gets hx hb hW.2.2.1 hS hown (hts _ hw) (fun _ h9 => h9) hdg (kk al hL)
  · exact va_gets hx hb hW.2.2.2.1 hS hown (hts _ hw) (fun _ h9 => h9) hdg (kk al hL)
  · exact va_gets hx hb hW.2.2.2.2.1 hS hown (hts _ hw) (fun _ h9 => h9) hdg (kk al hL)
theorem m_s_getsN {idx : Nat} (hw : Cond.fieldLinkNest own idx "CardSheets" "FIRST_OF_SETTING" "[I" "CardSheets" ∈ m_nest) (hdg : decode cc pc = .ok (.getstatic idx, 3)) : m_Snd D cA ra B ro M cc nL ret own nm pc (m_gets 0) := by
  refine m_pure (fun ls st h x e => by cases e; exact ⟨_, _, _, rfl⟩) ?_
  intro p l e R s m args below meth c d h0 Q X ls st h pc1 ls1 st1 eq H locs al cells slots hS hH hro hL hcl hsl kk
  obtain ⟨hx, hb, hml, hr, hown, hlk, hnm, hts, hW, hsz, hrl, hfr, hlo⟩ := X
  cases eq
  exact va_getsN hx hb hW.2.2.1 hS hown (va_Nw.use rfl (hW.2.2.2.2.2.1 _ hw)) (fun _ h9 => h9) hdg (kk al hL)
theorem m_ty0 : (m_tys cA)[0]? = some (cA 0, .int) := rfl
theorem m_ty1 : (m_tys cA)[1]? = some (cA 1, .char) := rfl
theorem m_ty2 : (m_tys cA)[2]? = some (cA 2, .object RX2) := rfl
theorem m_ty3 : (m_tys cA)[3]? = some (cA 3, .object RX3) := rfl
theorem m_tyx {t : Nat} (h : t < 4) : ∃ f, (m_tys cA)[t]? = some (cA t, f) := by
  match t, h with
  | 0, _ => exact ⟨_, rfl⟩
  | 1, _ => exact ⟨_, rfl⟩
  | 2, _ => exact ⟨_, rfl⟩
  | 3, _ => exact ⟨_, rfl⟩
theorem m_s_ild {t : Nat} (ht : (t = 0 ∧ decode cc pc = .ok (.iaload, 1)) ∨ (t = 1 ∧ decode cc pc = .ok (.caload, 1))) : m_Snd D cA ra B ro M cc nL ret own nm pc (m_ild t) := by
  refine m_pure (fun ls st h x e => ?_) ?_
  · unfold m_ild at e
    (repeat' split at e) <;> first | (cases e; done) | (obtain ⟨_, rfl⟩ := m_bif e; exact ⟨_, _, _, rfl⟩)
  intro p l e R s m args below meth c d h0 Q X ls st h pc1 ls1 st1 eq H locs al cells slots hS hH hro hL hcl hsl kk
  obtain ⟨hx, hb, hml, hr, hown, hlk, hnm, hts, hW, hsz, hrl, hfr, hlo⟩ := X
  unfold m_ild at eq
  split at eq
  · rename_i i a st2
    split at eq
    · rename_i u xs hh
      split at eq
      · cases eq
      · rename_i hin
        obtain ⟨hq, e3⟩ := m_bif eq
        cases e3
        rw [Bool.and_eq_true, Bool.or_eq_true] at hq
        have e1 := m_beq hq.1
        subst e1
        by_cases h3 : 3 < a
        · rcases ht with ⟨rfl, hdg⟩ | ⟨rfl, hdg⟩
          · exact va_iald (D := D) hx hb hW.1 hH.1 (a - 4) 0 (m_ws_get hh h3) m_ty0 hin hdg (kk al hL)
          · exact va_cald (D := D) hx hb hW.1 hH.1 (a - 4) 1 (m_ws_get hh h3) m_ty1 hin hdg (kk al hL)
        · have ha : a < 4 := Nat.lt_succ_of_le (Nat.le_of_not_lt h3)
          obtain ⟨ys, g1, g2⟩ := hro.ro ha hh
          cases g2
          rcases ht with ⟨_, hdg⟩ | ⟨z, _⟩
          · have k1 := kk al hL
            show W p l e R s m args below meth c H locs cells slots Q (F0 m pc al (.int i :: .ref (m_ad ra B a) :: st2.map (m_cv ra B)))
            rw [m_ad4 ha]
            exact va_ti (v := .int (xs.getD i.toNatClampNeg 0)) hx hb (hW.2.1 a xs g1) hS hin rfl hdg k1
          · cases z
    · cases eq
  · cases eq
theorem m_s_len (hdg : decode cc pc = .ok (.arraylength, 1)) : m_Snd D cA ra B ro M cc nL ret own nm pc m_len := by
  refine m_pure (fun ls st h x e => ?_) ?_
  · unfold m_len at e
    (repeat' split at e) <;> first | (cases e; done) | (obtain ⟨_, rfl⟩ := m_bif e; exact ⟨_, _, _, rfl⟩)
  intro p l e R s m args below meth c d h0 Q X ls st h pc1 ls1 st1 eq H locs al cells slots hS hH hro hL hcl hsl kk
  obtain ⟨hx, hb, hml, hr, hown, hlk, hnm, hts, hW, hsz, hrl, hfr, hlo⟩ := X
  unfold m_len at eq
  split at eq
  · rename_i a st2
    split at eq
    · rename_i u xs hh
      obtain ⟨hq, e3⟩ := m_bif eq
      cases e3
      by_cases h3 : 3 < a
      · obtain ⟨f, hf⟩ := m_tyx (cA := cA) (m_blt hq)
        exact va_alen (D := D) hx hb hW.1 hH.1 (a - 4) u (m_ws_get hh h3) hf rfl hdg (kk al hL)
      · have ha : a < 4 := Nat.lt_succ_of_le (Nat.le_of_not_lt h3)
        obtain ⟨ys, g1, g2⟩ := hro.ro ha hh
        cases g2
        have k1 := kk al hL
        show W p l e R s m args below meth c H locs cells slots Q (F0 m pc al (.ref (m_ad ra B a) :: st2.map (m_cv ra B)))
        rw [m_ad4 ha]
        exact va_tlen hx hb (hW.2.1 a xs g1) hS rfl hdg k1
    · rename_i u rs hh
      obtain ⟨hq, e3⟩ := m_bif eq
      cases e3
      rw [Bool.and_eq_true] at hq
      obtain ⟨f, hf⟩ := m_tyx (cA := cA) (m_blt hq.1)
      exact va_alen (D := D) hx hb hW.1 hH.1 (a - 4) u (m_ws_get hh (m_blt hq.2)) hf rfl hdg (kk al hL)
    · cases eq
  · cases eq
theorem m_getD_set {α : Type} {xs : List α} {i : Nat} (hi : i < xs.length) (x d : α) (j : Nat) : (xs.set i x).getD j d = if j = i then x else xs.getD j d := by
  rw [List.getD_eq_getElem?_getD, List.getD_eq_getElem?_getD]
  by_cases h : j = i
  · subst h
    rw [if_pos rfl, List.getElem?_set_self hi]; rfl
  · rw [if_neg h, List.getElem?_set_ne (Ne.symm h)]
theorem m_ce_i {t i : Nat} {xs : List Int32} (hi : i < xs.length) (x : Int32) : m_ce cA ra B (.inl (t, xs.set i x)) = .inl (cA t, xs.length, .inl (upd (fun j => xs.getD j 0) i x)) := by
  show Sum.inl (cA t, (xs.set i x).length, Sum.inl (fun j => (xs.set i x).getD j 0)) = _
  rw [List.length_set]
  congr 3
  exact congrArg Sum.inl (funext fun j => m_getD_set hi x 0 j)
theorem m_ist_spec {t : Nat} {f : Int32 → Int32} {ls : m_Ls} {st : List Value} {h : m_Hp} {x : m_Res} (e : m_ist t f pc ls st h = some x) : ∃ (v i : Int32) (a : Nat) (st2 : List Value) (xs : List Int32), st = .int v :: .int i :: .ref a :: st2 ∧ h[a]? = some (.inl (t, xs)) ∧ ¬ (i < 0 ∨ xs.length ≤ i.toNatClampNeg) ∧ 3 < a ∧ x = .inl (pc + 1, ls, st2, h.set a (.inl (t, xs.set i.toNatClampNeg (f v)))) := by
  unfold m_ist at e
  split at e
  · rename_i v i a st2
    split at e
    · rename_i u xs hh
      split at e
      · cases e
      · rename_i hin
        obtain ⟨hq, e3⟩ := m_bif e
        rw [Bool.and_eq_true] at hq
        have e1 := m_beq hq.1
        subst e1
        exact ⟨v, i, a, st2, xs, rfl, hh, hin, m_blt hq.2, e3⟩
    · cases e
  · cases e
theorem m_ist_n {t : Nat} {f : Int32 → Int32} (ls : m_Ls) (st : List Value) (h : m_Hp) (x : m_Res) (e : m_ist t f pc ls st h = some x) : ∃ y, x = .inl y := by
  obtain ⟨v, i, a, st2, xs, -, -, -, -, q⟩ := m_ist_spec e
  exact ⟨_, q⟩
theorem m_ist_m {t : Nat} {f : Int32 → Int32} (ls : m_Ls) (st : List Value) (h : m_Hp) (pc1 : Nat) (ls1 : m_Ls) (st1 : List Value) (h1 : m_Hp) (e : m_ist t f pc ls st h = some (.inl (pc1, ls1, st1, h1))) (_ : 4 ≤ h.length) : m_mono h h1 := by
  obtain ⟨v, i, a, st2, xs, -, hh, -, h3, q⟩ := m_ist_spec e
  cases q
  exact m_mono.set hh h3 (by simp [m_csz])
theorem m_s_iast (hdg : decode cc pc = .ok (.iastore, 1)) : m_Snd D cA ra B ro M cc nL ret own nm pc (m_ist 0 (fun x => x)) := by
  refine m_heap m_ist_n m_ist_m ?_
  intro p l e R s m args below meth c d h0 Q X ls st h pc1 ls1 st1 h1 eq h4 hmm hm0 hR H locs al hS hH hro hL hex kk
  obtain ⟨hx, hb, hml, hr, hown, hlk, hnm2, hts, hW, hsz, hrl, hfr, hlo⟩ := X
  obtain ⟨v, i, a, st2, xs, rfl, hh, hin, h3, q⟩ := m_ist_spec eq
  cases q
  have hi : i.toNatClampNeg < xs.length := Nat.not_le.mp fun z => hin (Or.inr z)
  refine va_iast (D := D) (H0 := H) (A := m_A B) hx hb hW.1 hH.1 m_wsD (m_S0 hS) (a - 4) 0 (m_ws_get hh h3) m_ty0 hin hdg (fun H1 locs1 hP1 hD1 hS1 => ?_)
  have k1 := kk H1 locs1 (m_S2 hS hS1) (m_Hd_set h3 (m_ce_i hi v) hP1 hS1.1 hH) al hL
  rw [m_len_set, m_sz_set hh (by simp [m_csz])] at k1
  exact k1
theorem m_s_cast (hdg : decode cc pc = .ok (.castore, 1)) : m_Snd D cA ra B ro M cc nL ret own nm pc (m_ist 1 (vp_nar .char)) := by
  refine m_heap m_ist_n m_ist_m ?_
  intro p l e R s m args below meth c d h0 Q X ls st h pc1 ls1 st1 h1 eq h4 hmm hm0 hR H locs al hS hH hro hL hex kk
  obtain ⟨hx, hb, hml, hr, hown, hlk, hnm2, hts, hW, hsz, hrl, hfr, hlo⟩ := X
  obtain ⟨v, i, a, st2, xs, rfl, hh, hin, h3, q⟩ := m_ist_spec eq
  cases q
  have hi : i.toNatClampNeg < xs.length := Nat.not_le.mp fun z => hin (Or.inr z)
  refine va_cast (D := D) (H0 := H) (A := m_A B) hx hb hW.1 hH.1 m_wsD (m_S0 hS) (a - 4) 1 (m_ws_get hh h3) m_ty1 hin hdg (fun H1 locs1 hP1 hD1 hS1 => ?_)
  have k1 := kk H1 locs1 (m_S2 hS hS1) (m_Hd_set h3 (m_ce_i hi (vp_nar .char v)) hP1 hS1.1 hH) al hL
  rw [m_len_set, m_sz_set hh (by simp [m_csz])] at k1
  exact k1
theorem m_cv_rf (r : Option Nat) : m_cv ra B (m_rf r) = va_rf (r.map (m_ad ra B)) := by cases r <;> rfl
theorem m_s_ald {t : Nat} {C : String} (hdg : decode cc pc = .ok (.aaload, 1)) : m_Snd D cA ra B ro M cc nL ret own nm pc m_ald := by
  refine m_pure (fun ls st h x e => ?_) ?_
  · unfold m_ald at e
    (repeat' split at e) <;> first | (cases e; done) | (obtain ⟨_, rfl⟩ := m_bif e; exact ⟨_, _, _, rfl⟩)
  intro p l e R s m args below meth c d h0 Q X ls st h pc1 ls1 st1 eq H locs al cells slots hS hH hro hL hcl hsl kk
  obtain ⟨hx, hb, hml, hr, hown, hlk, hnm, hts, hW, hsz, hrl, hfr, hlo⟩ := X
  unfold m_ald at eq
  split at eq
  · rename_i i a st2
    split at eq
    · rename_i u rs hh
      split at eq
      · cases eq
      · rename_i hin
        obtain ⟨hq, e3⟩ := m_bif eq
        cases e3
        rw [Bool.and_eq_true, Bool.or_eq_true] at hq
        have k1 := kk al hL
        rw [List.map_cons, m_cv_rf] at k1
        rcases hq.1 with hu | hu
        · have e1 := m_beq hu
          subst e1
          exact va_aldq (D := D) hx hb hW.1 hH.1 (a - 4) 2 (m_ws_get hh (m_blt hq.2)) m_ty2 hin hdg k1
        · have e1 := m_beq hu
          subst e1
          exact va_aldq (D := D) hx hb hW.1 hH.1 (a - 4) 3 (m_ws_get hh (m_blt hq.2)) m_ty3 hin hdg k1
    · cases eq
  · cases eq
theorem m_ce_q {t i : Nat} {rs : List (Option Nat)} (hi : i < rs.length) (x : Option Nat) : m_ce cA ra B (.inr (.inr (t, rs.set i x))) = .inl (cA t, rs.length, .inr (.inr (.inr (.inr (va_up (fun j => (rs.getD j none).map (m_ad ra B)) i (x.map (m_ad ra B))))))) := by
  show Sum.inl (cA t, (rs.set i x).length, Sum.inr (Sum.inr (Sum.inr (Sum.inr (fun j => ((rs.set i x).getD j none).map (m_ad ra B)))))) = _
  rw [List.length_set]
  congr 6
  apply congrArg Sum.inr
  funext j
  rw [m_getD_set hi x none j]
  unfold va_up
  by_cases h : j = i
  · rw [if_pos h, if_pos h]
  · rw [if_neg h, if_neg h]
theorem m_ast_spec {t ci : Nat} {ls : m_Ls} {st : List Value} {h : m_Hp} {x : m_Res} (e : m_ast t ci pc ls st h = some x) : ∃ (r : Option Nat) (i : Int32) (a : Nat) (st2 : List Value) (rs : List (Option Nat)), st = m_rf r :: .int i :: .ref a :: st2 ∧ h[a]? = some (.inr (.inr (t, rs))) ∧ ¬ (i < 0 ∨ rs.length ≤ i.toNatClampNeg) ∧ 3 < a ∧ (∀ b, r = some b → 3 < b ∧ ∃ fs, h[b]? = some (.inr (.inl (ci, fs)))) ∧ x = .inl (pc + 1, ls, st2, h.set a (.inr (.inr (t, rs.set i.toNatClampNeg r)))) := by
  unfold m_ast at e
  split at e
  · rename_i i a st2
    split at e
    · rename_i u rs hh
      split at e
      · cases e
      · rename_i hin
        obtain ⟨hq, e3⟩ := m_bif e
        rw [Bool.and_eq_true] at hq
        have e1 := m_beq hq.1
        subst e1
        exact ⟨none, i, a, st2, rs, rfl, hh, hin, m_blt hq.2, (fun b z => by cases z), e3⟩
    · cases e
  · rename_i b i a st2
    split at e
    · rename_i u rs hh
      split at e
      · rename_i cj fs hb
        split at e
        · cases e
        · rename_i hin
          obtain ⟨hq, e3⟩ := m_bif e
          rw [Bool.and_eq_true, Bool.and_eq_true, Bool.and_eq_true] at hq
          obtain ⟨⟨⟨q1, q2⟩, q3⟩, q4⟩ := hq
          have e1 := m_beq q1
          subst e1
          have e2 := m_beq q3
          subst e2
          exact ⟨some b, i, a, st2, rs, rfl, hh, hin, m_blt q2, (fun b2 z => by cases z; exact ⟨m_blt q4, fs, hb⟩), e3⟩
      · cases e
    · cases e
  · cases e
theorem m_s_ast {t ci : Nat} {q : vw_C} (hdg : decode cc pc = .ok (.aastore, 1)) (hc : vwCl[ci]? = some q) (ht : ∀ cA : Nat → ClassId, (m_tys cA)[t]? = some (cA t, .object q.1)) : m_Snd D cA ra B ro M cc nL ret own nm pc (m_ast t ci) := by
  refine m_heap (fun ls st h x e => ?_) (fun ls st h pc1 ls1 st1 h1 e _ => ?_) ?_
  · obtain ⟨r, i, a, st2, rs, -, -, -, -, -, z⟩ := m_ast_spec e
    exact ⟨_, z⟩
  · obtain ⟨r, i, a, st2, rs, -, hh, -, h3, -, z⟩ := m_ast_spec e
    cases z
    exact m_mono.set hh h3 (by simp [m_csz])
  intro p l e R s m args below meth c d h0 Q X ls st h pc1 ls1 st1 h1 eq h4 hmm hm0 hR H locs al hS hH hro hL hex kk
  obtain ⟨hx, hb, hml, hr, hown, hlk, hnm2, hts, hW, hsz, hrl, hfr, hlo⟩ := X
  obtain ⟨r, i, a, st2, rs, rfl, hh, hin, h3, hb3, z⟩ := m_ast_spec eq
  cases z
  have hi : i.toNatClampNeg < rs.length := Nat.not_le.mp fun z => hin (Or.inr z)
  cases r with
  | none =>
    refine va_astqN (D := D) (H0 := H) (A := m_A B) hx hb hW.1 hH.1 m_wsD (m_S0 hS) (a - 4) t (m_ws_get hh h3) (ht cA) hin hdg (fun H1 locs1 hP1 hD1 hS1 => ?_)
    have k1 := kk H1 locs1 (m_S2 hS hS1) (m_Hd_set h3 (m_ce_q hi none) hP1 hS1.1 hH) al hL
    rw [m_len_set, m_sz_set hh (by simp [m_csz])] at k1
    exact k1
  | some b =>
    obtain ⟨hb4, fs, hb5⟩ := hb3 b rfl
    refine va_astq (D := D) (H0 := H) (A := m_A B) hx hb hW.1 hH.1 m_wsD (m_S0 hS) (a - 4) t (b - 4) ci (m_ws_get hh h3) (ht cA) (m_ws_get hb5 hb4) hc hin hdg (fun H1 locs1 hP1 hD1 hS1 => ?_)
    have k1 := kk H1 locs1 (m_S2 hS hS1) (m_Hd_set h3 (m_ce_q hi (some b)) hP1 hS1.1 hH) al hL
    rw [m_len_set, m_sz_set hh (by simp [m_csz])] at k1
    exact k1
theorem m_cpy0 {xs ys : List Int32} {n : Nat} (h1 : n ≤ xs.length) (h2 : n ≤ ys.length) (j : Nat) : (xs.take n ++ ys.drop n).getD j 0 = va_cpy (fun j => xs.getD j 0) (fun j => ys.getD j 0) 0 0 n j := by
  unfold va_cpy
  simp only [List.getD_eq_getElem?_getD]
  by_cases h : j < n
  · rw [if_pos ⟨Nat.zero_le _, by omega⟩, List.getElem?_append_left (by rw [List.length_take]; omega), List.getElem?_take_of_lt h]
    simp
  · rw [if_neg (by omega), List.getElem?_append_right (by rw [List.length_take]; omega), List.getElem?_drop, List.length_take, show n + (j - min n xs.length) = j by omega]
end
end
section
/-! cells that are made, natives, calls, returns -/
section
variable {D : va_G} {cA : Nat → ClassId} {ra : Nat → Nat} {B : Nat} {ro : List (List Int32)} {M : List m_Mt} {cc : ByteArray} {nL : Nat} {ret : Option FieldType} {own nm : String} {pc : Nat} {o : m_Op}
theorem m_ws_len {h : m_Hp} : (m_ws cA ra B h).length = h.length - 4 := by unfold m_ws; rw [List.length_mapIdx, List.length_drop]
/-- a new cell is the next one -/
theorem m_Hd_app {h : m_Hp} {x : m_Cel} {E : va_E} {H H1 : Heap} {q : Nat} (h4 : 4 ≤ h.length) (hE : m_ce cA ra B x = E) (hex : H.size + 4 = B + h.length) (hP : va_P D vwCl (m_ws cA ra B h ++ [(q, E)]) H1) (hD : va_D (m_A B) (m_ws cA ra B h ++ [(q, E)])) (hz0 : H.size ≤ H1.size) (hz : H1.size ≤ H.size + 1) : q = m_ad ra B h.length ∧ m_Hd D cA ra B (h ++ [x]) H1 := by
  subst hE
  have hlast : (m_ws cA ra B h ++ [(q, m_ce cA ra B x)])[h.length - 4]? = some (q, m_ce cA ra B x) := by
    rw [List.getElem?_append_right (by rw [m_ws_len]; exact Nat.le_refl _), m_ws_len]
    simp
  have h0 : B ≤ q := hD.2 _ _ hlast
  have h1 : H.size ≤ q := by
    rcases Nat.lt_or_ge q H.size with hlt | hge
    · exfalso
      have hk : q - B + 4 < h.length := by omega
      have hc : h[q - B + 4]? = some h[q - B + 4] := List.getElem?_eq_getElem hk
      have hw := m_ws_get (cA := cA) (ra := ra) (B := B) hc (by omega)
      have hw2 : (m_ws cA ra B h ++ [(q, m_ce cA ra B x)])[q - B + 4 - 4]? = some (m_ad ra B (q - B + 4), m_ce cA ra B h[q - B + 4]) := by
        rw [List.getElem?_append_left (by rw [m_ws_len]; omega)]
        exact hw
      have he := hD.1 _ _ _ _ hw2 hlast (by show m_ad ra B (q - B + 4) = q; unfold m_ad; rw [if_neg (by omega)]; omega)
      omega
    · exact hge
  have h2 : q < H1.size := (hP _ _ hlast).lt
  have e : q = m_ad ra B h.length := by
    unfold m_ad
    rw [if_neg (by omega)]
    omega
  refine ⟨e, ?_, ?_⟩
  · rw [m_ws_app h4, ← e]
    exact hP
  · rw [List.length_append]
    simp only [List.length_singleton]
    omega
theorem m_room1 {R : Room} {h h0 : m_Hp} {x : m_Cel} (hm0 : m_mono h0 h) (hR : m_Rm R h0 (h ++ [x])) : h.length - h0.length + 1 ≤ R.cells ∧ m_sz h - m_sz h0 + m_csz x ≤ R.slots ∧ (h ++ [x]).length - h0.length = h.length - h0.length + 1 ∧ m_sz (h ++ [x]) - m_sz h0 = m_sz h - m_sz h0 + m_csz x := by
  obtain ⟨h1, h2⟩ := hR
  have h3 := hm0.1
  have h4 := hm0.2.1
  rw [m_sz_app] at h2 ⊢
  rw [List.length_append, List.length_singleton] at h1 ⊢
  omega
theorem m_s_new {ci N idx : Nat} {C : String} {T : u_T} {ty0 : Nat → FieldType} {fs : List Value} (hc : vwCl[ci]? = some (C, T, N)) (hin : ∀ w ∈ u_ws C T N, w ∈ m_gd) (hty : ∀ k, k < N → parseFieldDescriptor (T k).2.2.1 = some (ty0 k)) (hfs : ∀ j, j < N → defaultValue (ty0 j) = vp_V fs j) (hN : fs.length = N) (hcv : ∀ (ra : Nat → Nat) (B : Nat), fs.map (m_cv ra B) = fs) (hw1 : Cond.classLink own idx C ∈ m_gd) (hw2 : Cond.instantiable C N ∈ m_gd) (hw3 : Cond.initialized C ∈ m_gd) (hdg : decode cc pc = .ok (.new idx, 3)) : m_Snd D cA ra B ro M cc nL ret own nm pc (m_new ci fs) := by
  refine m_heap (fun ls st h x e => by cases e; exact ⟨_, rfl⟩) (fun ls st h pc1 ls1 st1 h1 e h4 => by cases e; exact m_mono.app h4) ?_
  intro p l e R s m args below meth c d h0 Q X ls st h pc1 ls1 st1 h1 eq h4 hmm hm0 hR H locs al hS hH hro hL hex kk
  obtain ⟨hx, hb, hml, hr, hown, hlk, hnm2, hts, hW, hsz, hrl, hfr, hlo⟩ := X
  cases eq
  obtain ⟨r1, r2, r3, r4⟩ := m_room1 hm0 hR
  subst hN
  refine va_new (D := D) (H0 := H) (A := m_A B) hx hb hts hin ty0 hty hown (hts _ hw1) (hts _ hw2) (hts _ hw3) hW.1 hH.1 m_wsD (m_S0 hS) (fun q hq => Nat.le_trans hW.2.2.2.2.2.2.2.2 (Nat.le_trans hS.1 hq)) hc hfs r1 r2 hdg (fun q H1 hP1 hD1 hS1 => ?_)
  refine m_Wsize fun hup => ?_
  obtain ⟨q1, q2⟩ := m_Hd_app (D := D) (x := .inr (.inl (ci, fs))) h4 (by show Sum.inr (ci, fs.map (m_cv ra B)) = _; rw [hcv]) hex hP1 hD1 hS1.1 (by have := hm0.1; omega)
  have k1 := kk H1 locs (m_S2 hS hS1) q2 al hL
  rw [r3, r4] at k1
  rw [q1]
  exact k1
theorem m_num_spec {n : Int32} {x y : m_Res} (e : (if n < 0 ∨ 100000 < n.toNatClampNeg then none else some x) = some y) : ¬ n < 0 ∧ n.toNatClampNeg ≤ 100000 ∧ y = x := by
  split at e
  · cases e
  · rename_i hn
    cases e
    exact ⟨fun z => hn (Or.inl z), Nat.le_of_not_lt fun z => hn (Or.inr z), rfl⟩
theorem m_rep0 (N : Nat) (j : Nat) : (List.replicate N (0 : Int32)).getD j 0 = 0 := by
  rw [List.getD_eq_getElem?_getD, List.getElem?_replicate]
  split <;> rfl
theorem m_repn (N : Nat) (j : Nat) : (List.replicate N (none : Option Nat)).getD j none = none := by
  rw [List.getD_eq_getElem?_getD, List.getElem?_replicate]
  split <;> rfl
theorem m_s_nar {t : Nat} {atype : ArrayType} {f : FieldType} (hf : newarray.typeOf atype = f) (ht : ∀ cA : Nat → ClassId, (m_tys cA)[t]? = some (cA t, f)) (hdf : defaultValue f = .int 0) (hcb : componentBytes f ≤ 8) (hra : ∀ (U : State) (c1 c2 : ClassId), va_RA U c1 f → va_RA U c2 f → c1 = c2) (hw : Cond.arrayClass f ∈ m_gd) (hdg : decode cc pc = .ok (.newarray atype, 2)) : m_Snd D cA ra B ro M cc nL ret own nm pc (m_nar t) := by
  refine m_heap (fun ls st h x e => ?_) (fun ls st h pc1 ls1 st1 h1 e h4 => ?_) ?_
  · unfold m_nar at e
    split at e
    · obtain ⟨_, _, e3⟩ := m_num_spec e
      exact ⟨_, e3⟩
    · cases e
  · unfold m_nar at e
    split at e
    · obtain ⟨_, _, e3⟩ := m_num_spec e
      cases e3
      exact m_mono.app h4
    · cases e
  intro p l e R s m args below meth c d h0 Q X ls st h pc1 ls1 st1 h1 eq h4 hmm hm0 hR H locs al hS hH hro hL hex kk
  obtain ⟨hx, hb, hml, hr, hown, hlk, hnm2, hts, hW, hsz, hrl, hfr, hlo⟩ := X
  unfold m_nar at eq
  split at eq
  · rename_i n st2
    obtain ⟨hn, hn2, e3⟩ := m_num_spec eq
    cases e3
    obtain ⟨r1, r2, r3, r4⟩ := m_room1 hm0 hR
    have e5 : m_csz (.inl (t, List.replicate n.toNatClampNeg 0)) = n.toNatClampNeg := by simp [m_csz]
    rw [e5] at r2 r4
    subst hf
    refine va_newa (D := D) (H0 := H) (A := m_A B) (a0 := (n.toNatClampNeg, .inl (fun _ => 0))) hx hb (hts _ hw) rfl hW.1 hH.1 m_wsD (m_S0 hS) (fun q hq => Nat.le_trans hW.2.2.2.2.2.2.2.2 (Nat.le_trans hS.1 hq)) (fun cA2 => by rw [hdf]; rfl) hn rfl (Nat.le_trans (Nat.mul_le_mul hn2 hcb) (Nat.le_of_ble_eq_true rfl)) r1 r2 hdg (fun q cA2 H1 hK1 hP1 hD1 hS1 => ?_)
    refine m_Wsize fun hup => ?_
    have ec : cA2 = cA t := by
      have g1 := (hK1.2 4 (cA2, newarray.typeOf atype) rfl).2
      have g2 := (hW.1.2 t _ (ht cA)).2
      exact hra s _ _ g1 g2
    subst ec
    obtain ⟨q1, q2⟩ := m_Hd_app (D := D) (x := .inl (t, List.replicate n.toNatClampNeg 0)) h4 (by show Sum.inl (cA t, (List.replicate n.toNatClampNeg (0 : Int32)).length, Sum.inl (fun j => (List.replicate n.toNatClampNeg (0 : Int32)).getD j 0)) = _; rw [List.length_replicate]; congr 3; exact congrArg Sum.inl (funext fun j => m_rep0 _ j)) hex hP1 hD1 hS1.1 (by have := hm0.1; omega)
    have k1 := kk H1 locs (m_S2 hS hS1) q2 al hL
    rw [r3, r4] at k1
    rw [q1]
    exact k1
  · cases eq
theorem m_s_anar {t idx : Nat} {C : String} (ht : ∀ cA : Nat → ClassId, (m_tys cA)[t]? = some (cA t, .object C)) (hCC : C = RX2 ∨ C = RX3) (hw : Cond.classLink own idx C ∈ m_gd) (hdg : decode cc pc = .ok (.anewarray idx, 3)) : m_Snd D cA ra B ro M cc nL ret own nm pc (m_anar t) := by
  refine m_heap (fun ls st h x e => ?_) (fun ls st h pc1 ls1 st1 h1 e h4 => ?_) ?_
  · unfold m_anar at e
    split at e
    · obtain ⟨_, _, e3⟩ := m_num_spec e
      exact ⟨_, e3⟩
    · cases e
  · unfold m_anar at e
    split at e
    · obtain ⟨_, _, e3⟩ := m_num_spec e
      cases e3
      exact m_mono.app h4
    · cases e
  intro p l e R s m args below meth c d h0 Q X ls st h pc1 ls1 st1 h1 eq h4 hmm hm0 hR H locs al hS hH hro hL hex kk
  obtain ⟨hx, hb, hml, hr, hown, hlk, hnm2, hts, hW, hsz, hrl, hfr, hlo⟩ := X
  unfold m_anar at eq
  split at eq
  · rename_i n st2
    obtain ⟨hn, hn2, e3⟩ := m_num_spec eq
    cases e3
    obtain ⟨r1, r2, r3, r4⟩ := m_room1 hm0 hR
    have e5 : m_csz (.inr (.inr (t, List.replicate n.toNatClampNeg none))) = n.toNatClampNeg := by simp [m_csz]
    rw [e5] at r2 r4
    have hAO : va_AO C s := by
      rcases hCC with rfl | rfl
      · exact hW.2.2.2.2.2.2.1
      · exact hW.2.2.2.2.2.2.2.1
    refine va_newq (D := D) (H0 := H) (A := m_A B) hx hb hown (hts _ hw) hAO hW.1 hH.1 m_wsD (m_S0 hS) (fun q hq => Nat.le_trans hW.2.2.2.2.2.2.2.2 (Nat.le_trans hS.1 hq)) hn rfl (Nat.le_trans (Nat.mul_le_mul hn2 (Nat.le_refl 4)) (Nat.le_of_ble_eq_true rfl)) r1 r2 hdg (fun q cA2 H1 hK1 hP1 hD1 hS1 => ?_)
    refine m_Wsize fun hup => ?_
    have ec : cA2 = cA t := by
      obtain ⟨_, _, -, -, -, g1⟩ := (hK1.2 4 (cA2, .object C) rfl).2
      obtain ⟨_, _, -, -, -, g2⟩ := (hW.1.2 t _ (ht cA)).2
      exact Option.some.inj (g1.symm.trans g2)
    subst ec
    obtain ⟨q1, q2⟩ := m_Hd_app (D := D) (x := .inr (.inr (t, List.replicate n.toNatClampNeg none))) h4 (by show Sum.inl (cA t, (List.replicate n.toNatClampNeg (none : Option Nat)).length, Sum.inr (Sum.inr (Sum.inr (Sum.inr (fun j => ((List.replicate n.toNatClampNeg (none : Option Nat)).getD j none).map (m_ad ra B)))))) = _; rw [List.length_replicate]; congr 6; exact congrArg Sum.inr (funext fun j => by rw [m_repn]; rfl)) hex hP1 hD1 hS1.1 (by have := hm0.1; omega)
    have k1 := kk H1 locs (m_S2 hS hS1) q2 al hL
    rw [r3, r4] at k1
    rw [q1]
    exact k1
  · cases eq
theorem m_ble {a b : Nat} (h : Nat.ble a b = true) : a ≤ b := Nat.le_of_ble_eq_true h
theorem m_cs_cv (st : List Value) : ((st.map (m_cv ra B)).map fun v => v.category).sum = m_cs st := by
  unfold m_cs
  rw [List.map_map]
  congr 1
  exact List.map_congr_left fun v _ => m_cv_c1 v
theorem m_s_init0 {idx : Nat} (hw1 : Cond.methodLink own idx Lib.objectInit ∈ m_gd) (hw2 : Cond.instanceMethod Lib.objectInit ∈ m_gd) (hw3 : Cond.code Lib.objectInit ⟨#[0xb1]⟩ 1 none ∈ m_gd) (hdg : decode cc pc = .ok (.invokespecial idx, 3)) : m_Snd D cA ra B ro M cc nL ret own nm pc m_init0 := by
  refine m_pure (fun ls st h x e => ?_) ?_
  · unfold m_init0 at e
    split at e
    · obtain ⟨_, rfl⟩ := m_bif e; exact ⟨_, _, _, rfl⟩
    · cases e
  intro p l e R s m args below meth c d h0 Q X ls st h pc1 ls1 st1 eq H locs al cells slots hS hH hro hL hcl hsl kk
  obtain ⟨hx, hb, hml, hr, hown, hlk, hnm, hts, hW, hsz, hrl, hfr, hlo⟩ := X
  unfold m_init0 at eq
  split at eq
  · rename_i a st2
    obtain ⟨hq, e3⟩ := m_bif eq
    cases e3
    have h8 := m_ble hq
    exact W.objInit hx hb hown (hts _ hw1) (hts _ hw2) (hts _ hw3) rfl (hL.2.1.trans hml.symm) rfl hdg (by omega) (by show 2 * 0 + ((st1.map (m_cv ra B)).map fun v => v.category).sum + 12 ≤ R.locals; rw [m_cs_cv]; omega) (kk al hL)
  · cases eq
theorem m_s_min {idx : Nat} (hw1 : Cond.methodLink own idx Lib.Math.min.name ∈ m_gd) (hw2 : Cond.static Lib.Math.min.name ∈ m_gd) (hw3 : Cond.initialized "java/lang/Math" ∈ m_gd) (hw4 : Cond.code Lib.Math.min.name Lib.Math.min.code 2 (some .int) ∈ m_gd) (hdg : decode cc pc = .ok (.invokestatic idx, 3)) : m_Snd D cA ra B ro M cc nL ret own nm pc m_min := by
  refine m_pure (fun ls st h x e => ?_) ?_
  · unfold m_min at e
    split at e
    · obtain ⟨_, rfl⟩ := m_bif e; exact ⟨_, _, _, rfl⟩
    · cases e
  intro p l e R s m args below meth c d h0 Q X ls st h pc1 ls1 st1 eq H locs al cells slots hS hH hro hL hcl hsl kk
  obtain ⟨hx, hb, hml, hr, hown, hlk, hnm, hts, hW, hsz, hrl, hfr, hlo⟩ := X
  unfold m_min at eq
  split at eq
  · rename_i y x st2
    obtain ⟨hq, e3⟩ := m_bif eq
    cases e3
    have h8 := m_ble hq
    exact va_mmin hx hb (hml.trans hL.2.1.symm) hown (hts _ hw1) (hts _ hw2) (hts _ hw3) (hts _ hw4) (by omega) (by rw [m_cs_cv]; omega) hcl hsl hdg (kk al hL)
  · cases eq
theorem m_s_abs {idx : Nat} (hw1 : Cond.methodLink own idx Lib.Math.abs.name ∈ m_gd) (hw2 : Cond.static Lib.Math.abs.name ∈ m_gd) (hw3 : Cond.initialized "java/lang/Math" ∈ m_gd) (hw4 : Cond.code Lib.Math.abs.name Lib.Math.abs.code 1 (some .int) ∈ m_gd) (hdg : decode cc pc = .ok (.invokestatic idx, 3)) : m_Snd D cA ra B ro M cc nL ret own nm pc m_abs := by
  refine m_pure (fun ls st h x e => ?_) ?_
  · unfold m_abs at e
    split at e
    · obtain ⟨_, rfl⟩ := m_bif e; exact ⟨_, _, _, rfl⟩
    · cases e
  intro p l e R s m args below meth c d h0 Q X ls st h pc1 ls1 st1 eq H locs al cells slots hS hH hro hL hcl hsl kk
  obtain ⟨hx, hb, hml, hr, hown, hlk, hnm, hts, hW, hsz, hrl, hfr, hlo⟩ := X
  unfold m_abs at eq
  split at eq
  · rename_i x st2
    obtain ⟨hq, e3⟩ := m_bif eq
    cases e3
    have h8 := m_ble hq
    exact va_mabs hx hb (hml.trans hL.2.1.symm) hown (hts _ hw1) (hts _ hw2) (hts _ hw3) (hts _ hw4) (by omega) (by rw [m_cs_cv]; omega) hcl hsl hdg (kk al hL)
  · cases eq
end
end
section
/-! arraycopy, calls, returns; the plain machine's runs are the JVM's -/
section
variable {D : va_G} {cA : Nat → ClassId} {ra : Nat → Nat} {B : Nat} {ro : List (List Int32)} {M : List m_Mt} {cc : ByteArray} {nL : Nat} {ret : Option FieldType} {own nm : String} {pc : Nat} {o : m_Op}
theorem m_copy_spec {ls : m_Ls} {st : List Value} {h : m_Hp} {x : m_Res} (e : m_copy pc ls st h = some x) : ∃ (n : Int32) (b a : Nat) (st2 : List Value) (xs ys : List Int32), st = .int n :: .int 0 :: .ref b :: .int 0 :: .ref a :: st2 ∧ h[a]? = some (.inl (0, xs)) ∧ h[b]? = some (.inl (0, ys)) ∧ ¬ n < 0 ∧ n.toNatClampNeg ≤ xs.length ∧ n.toNatClampNeg ≤ ys.length ∧ 3 < b ∧ m_cs st2 ≤ 8 ∧ x = .inl (pc + 3, ls, st2, h.set b (.inl (0, xs.take n.toNatClampNeg ++ ys.drop n.toNatClampNeg))) := by
  unfold m_copy at e
  split at e
  · rename_i n dp b sp a st2
    split at e
    · rename_i xs ys ha hb
      split at e
      · rename_i hc
        obtain ⟨rfl, rfl, h3, h4, h5⟩ := hc
        obtain ⟨hq, e3⟩ := m_bif e
        rw [Bool.and_eq_true] at hq
        exact ⟨n, b, a, st2, xs, ys, rfl, ha, hb, h3, h4, h5, m_blt hq.1, m_ble hq.2, e3⟩
      · cases e
    · cases e
  · cases e
theorem m_ce_cpy {xs ys : List Int32} {n : Nat} (h1 : n ≤ xs.length) (h2 : n ≤ ys.length) : m_ce cA ra B (.inl (0, xs.take n ++ ys.drop n)) = .inl (cA 0, ys.length, .inl (va_cpy (fun j => xs.getD j 0) (fun j => ys.getD j 0) 0 0 n)) := by
  show Sum.inl (cA 0, (xs.take n ++ ys.drop n).length, Sum.inl (fun j => (xs.take n ++ ys.drop n).getD j 0)) = _
  have e : (xs.take n ++ ys.drop n).length = ys.length := by rw [List.length_append, List.length_take, List.length_drop]; omega
  rw [e]
  congr 3
  exact congrArg Sum.inl (funext fun j => m_cpy0 h1 h2 j)
/-- from a row that is only read -/
theorem m_copyR {p : Program} {l : Launch} {e : Env} {R : Room} {s : State} {m : MethodId} {args : Array Value} {below : List Frame} {meth : Method} {c : Code} {H : Heap} {locs : List Loc} {cells slots : Nat} {Q : State → Prop} {al : Array Slot} {rest : List Value} {ws : va_W} {index : Nat}
    (hx : p.tables.exec = Jvm.exec) (hb : c.code = cc) (hml : c.maxLocals = al.size) (hown : s.vm.findClass own = some m.cls) (hlink : (Cond.methodLink own index arraycopyName).before args s = true) (hnat : (Cond.native arraycopyName).before args s = true) (hstat : (Cond.static arraycopyName).before args s = true) (hini : (Cond.initialized "java/lang/System").before args s = true)
    (hK : va_K D vwCl (m_tys cA) s) (hP : va_P D vwCl ws H) (hD : va_D (m_A B) ws) (hS : va_S (m_A B) s.heap H locs) (q1 : Nat) {a0 a N n1 : Nat} {f g : Nat → Int32} (hT : va_T .int a0 N (fun j => .int (f j)) (m_A B) s s.heap) (ha1 : ws[q1]? = some (a, .inl (cA 0, n1, .inl g)))
    {n : Int32} (h3 : ¬ n < 0) (h4 : n.toNatClampNeg ≤ N) (h5 : n.toNatClampNeg ≤ n1)
    (hframes : 1 ≤ R.frames) (hlocals : (rest.map fun v => v.category).sum + (nativeFrameWords "java/lang/System" "arraycopy" 5 + 11) ≤ R.locals) (hdg : decode cc pc = .ok (.invokestatic index, 3))
    (kk : ∀ (H1 : Heap) (locs1 : List Loc), va_P D vwCl (ws.set q1 (a, .inl (cA 0, n1, .inl (va_cpy f g 0 0 n.toNatClampNeg)))) H1 → va_S (m_A B) H H1 locs1 → W p l e R s m args below meth c H1 locs1 cells slots Q (F0 m (pc + 3) al rest)) : W p l e R s m args below meth c H locs cells slots Q (F0 m pc al (.int n :: .int 0 :: .ref a :: .int 0 :: .ref a0 :: rest)) := by
  have nn : ∀ z : Int32, ¬ z < 0 → z.toInt = (z.toNatClampNeg : Int) := by
    intro z hz
    have hz0 : (0 : Int) ≤ z.toInt := by
      have := Int32.not_lt.mp hz
      simpa using Int32.le_iff_toInt_le.mp this
    show z.toInt = ((z.toInt.toNat : Nat) : Int)
    omega
  obtain ⟨cell, c1, c2, c3, c4, c5, c6, c7⟩ := hT
  obtain ⟨co, k0, hk0, cm0, hkk0⟩ := c2
  intro T hT X
  have hc0 : H[a0]? = some cell := by rw [hS.2.1 a0 (Array.getElem?_eq_some_iff.mp c1).1 c7]; exact c1
  have hc1 : H[a]? = some (vp_cell (cA 0) (n1, .inl g)) := hP q1 _ ha1
  obtain ⟨-, k1, hk1, cm1, hkk1⟩ := (hK.2 0 _ m_ty0).1 n1 (fun j => .int (g j))
  have z0 : (0 : Int32).toNatClampNeg = 0 := rfl
  have rd : ∀ i, i < n.toNatClampNeg → cell.slots.getD (0 + i) .null = .int (f i) := fun i hi => by
    rw [Array.getD_eq_getD_getElem?, Nat.zero_add, c6 i (by omega)]; rfl
  obtain ⟨vm', X', step⟩ := X.arraycopy hx hown hlink hnat hstat hini (src := a0) (dst := a) (cs := cell) (cd := vp_cell (cA 0) (n1, .inl g)) (srcPos := 0) (destPos := 0) (n := n) (by rw [hT]; exact hc0) (by rw [hT]; exact hc1)
    co (fun _ h => by cases h) c3 (fun h => by cases h) hk0 hk1 hkk0 hkk1 (by show ((refKind FieldType.int != refKind FieldType.int) || (!refKind FieldType.int && FieldType.int != FieldType.int)) = false; decide) (by decide) (by decide) h3
    (by rw [nn 0 (by decide), nn n h3, z0]; omega)
    (by rw [nn 0 (by decide), nn n h3, z0]; show ¬ _ > ((arrV (cA 0) n1 (fun j => .int (g j))).slots.size : Int); rw [arrV_size]; omega)
    (fun vm₁ _ i hi => by
      rw [z0, rd i hi]
      exact ⟨rfl, trivial⟩)
    (g := F0 m pc al (.int n :: .int 0 :: .ref a :: .int 0 :: .ref a0 :: rest)) rfl (by rw [hml]) (rest := rest) rfl (by rw [hb]; exact hdg) hframes (by show 2 * 0 + _ + _ ≤ _; omega)
  have es : cell.stretch 0 n.toNatClampNeg = (arrV (cA 0) N (fun j => Value.int (f j))).stretch 0 n.toNatClampNeg := by
    unfold Cell.stretch
    apply List.map_congr_left
    intro i hi
    have hi' := List.mem_range.mp hi
    rw [rd i hi', Array.getD_eq_getD_getElem?, arrV_read _ _ (by omega), Nat.zero_add]
    rfl
  have e1 : copied cell (vp_cell (cA 0) (n1, .inl g)) 0 0 n = vp_cell (cA 0) (n1, .inl (va_cpy f g 0 0 n.toNatClampNeg)) := by
    show (arrV (cA 0) n1 (fun j => Value.int (g j))).storeRun 0 (cell.stretch 0 n.toNatClampNeg) = _
    rw [es]
    exact va_copied (fun z => .int z) (cA 0) (cA 0) f g (by omega)
  rw [e1] at X' step
  have hl : a < H.size := (Array.getElem?_eq_some_iff.mp hc1).1
  have hheap : ((T.setVm vm').setCell a (vp_cell (cA 0) (n1, .inl (va_cpy f g 0 0 n.toNatClampNeg)))).heap = H.setIfInBounds a (vp_cell (cA 0) (n1, .inl (va_cpy f g 0 0 n.toNatClampNeg))) := by rw [← hT]; rfl
  have oq : ∀ q : Nat, q ≠ a → (H.setIfInBounds a (vp_cell (cA 0) (n1, .inl (va_cpy f g 0 0 n.toNatClampNeg))))[q]? = H[q]? := fun q hq => by simp [Array.getElem?_setIfInBounds, Ne.symm hq]
  obtain ⟨t, a1, b1⟩ := kk _ _ (hP.set hD ha1 (show (H.setIfInBounds a _)[a]? = some _ by simp [Array.getElem?_setIfInBounds, hl]) oq) ⟨by simp, fun q g1 g2 => oq q (fun e => g2 (by rw [e]; exact hD.2 q1 _ ha1)), fun q hq => by
      rcases List.mem_append.mp hq with h | h
      · exact hS.2.2 q h
      · obtain ⟨z, -, hz⟩ := List.mem_map.mp h
        rw [← hz]
        exact hD.2 q1 _ ha1⟩ _ hheap X'
  exact ⟨t, step t a1, b1⟩
theorem m_s_copy {idx : Nat} (hw1 : Cond.methodLink own idx arraycopyName ∈ m_gd) (hw2 : Cond.native arraycopyName ∈ m_gd) (hw3 : Cond.static arraycopyName ∈ m_gd) (hw4 : Cond.initialized "java/lang/System" ∈ m_gd) (hdg : decode cc pc = .ok (.invokestatic idx, 3)) : m_Snd D cA ra B ro M cc nL ret own nm pc m_copy := by
  refine m_heap (fun ls st h x e => ?_) (fun ls st h pc1 ls1 st1 h1 e _ => ?_) ?_
  · obtain ⟨n, b, a, st2, xs, ys, -, -, -, -, -, -, -, -, z⟩ := m_copy_spec e
    exact ⟨_, z⟩
  · obtain ⟨n, b, a, st2, xs, ys, -, -, hb, -, h4, h5, h3, -, z⟩ := m_copy_spec e
    cases z
    exact m_mono.set hb h3 (by show (xs.take n.toNatClampNeg ++ ys.drop n.toNatClampNeg).length = ys.length; rw [List.length_append, List.length_take, List.length_drop]; omega)
  intro p l e R s m args below meth c d h0 Q X ls st h pc1 ls1 st1 h1 eq h4 hmm hm0 hR H locs al hS hH hro hL hex kk
  obtain ⟨hx, hb, hml, hr, hown, hlk, hnm2, hts, hW, hsz, hrl, hfr, hlo⟩ := X
  obtain ⟨n, b, a, st2, xs, ys, rfl, ha, hb2, g1, g2, g3, g4, g5, z⟩ := m_copy_spec eq
  cases z
  have hz : m_csz (.inl (0, xs.take n.toNatClampNeg ++ ys.drop n.toNatClampNeg)) = m_csz (.inl (0, ys)) := by show (xs.take n.toNatClampNeg ++ ys.drop n.toNatClampNeg).length = ys.length; rw [List.length_append, List.length_take, List.length_drop]; omega
  have hnat : nativeFrameWords "java/lang/System" "arraycopy" 5 = 7 := by decide
  by_cases h3 : 3 < a
  · refine va_copyi (D := D) (H0 := H) (A := m_A B) (sp := 0) (dp := 0) (n := n) hx hb (hml.trans hL.2.1.symm) hown (hts _ hw1) (hts _ hw2) (hts _ hw3) (hts _ hw4) hW.1 hH.1 m_wsD (m_S0 hS) (a - 4) (b - 4) 0 0 (m_ws_get ha h3) (m_ws_get hb2 g4) m_ty0 m_ty0 (by decide) (by decide) (by decide) g1 (by show 0 + _ ≤ _; omega) (by show 0 + _ ≤ _; omega) (fun i _ => rfl) (by omega) (by rw [m_cs_cv, hnat]; omega) hdg (fun H1 locs1 hP1 hD1 hS1 => ?_)
    have k1 := kk H1 locs1 (m_S2 hS hS1) (m_Hd_set g4 (m_ce_cpy g2 g3) hP1 hS1.1 hH) al hL
    rw [m_len_set, m_sz_set hb2 hz] at k1
    exact k1
  · have h3' : a < 4 := Nat.lt_succ_of_le (Nat.le_of_not_lt h3)
    obtain ⟨xs2, f1, f2⟩ := hro.ro h3' ha
    cases f2
    have ea : m_cv ra B (.ref a) = .ref (ra a) := by show Value.ref (m_ad ra B a) = _; rw [m_ad4 h3']
    simp only [List.map_cons]
    rw [ea]
    refine m_copyR (D := D) (cA := cA) (B := B) (n := n) hx hb (hml.trans hL.2.1.symm) hown (hts _ hw1) (hts _ hw2) (hts _ hw3) (hts _ hw4) hW.1 hH.1 m_wsD hS (b - 4) (hW.2.1 a xs f1) (m_ws_get hb2 g4) g1 g2 g3 (by omega) (by rw [m_cs_cv, hnat]; omega) hdg (fun H1 locs1 hP1 hS1 => ?_)
    have k1 := kk H1 locs1 (m_S2 hS hS1) (m_Hd_set g4 (m_ce_cpy g2 g3) hP1 hS1.1 hH) al hL
    rw [m_len_set, m_sz_set hb2 hz] at k1
    exact k1
/-! calls -/
theorem m_Pc_blind {as : List Value} {h : m_Hp} : FrameBlind (m_Pc D cA ra B ro as h) := fun a U g mk q => ⟨q.1, q.2.1, q.2.2.1, m_Wd.same (u := U) rfl q.2.2.2.1, q.2.2.2.2⟩
theorem m_gi {y : MethodName} {b : ByteArray} {k : Nat} {rt : Option FieldType} (h : Cond.code y b k rt ∈ m_gd) : GoodIn m_gd (Cond.code y b k rt :: m_gd) := by
  intro w hw
  have hm : w ∈ m_gd := by
    rcases List.mem_cons.mp hw with e | e
    · rw [e]; exact h
    · exact e
  exact ⟨hm, good_of_word (List.mem_filter.mp hm).2⟩
theorem m_cont {p : Program} {l : Launch} {e : Env} {R : Room} {s : State} {m : MethodId} {args : Array Value} {below : List Frame} {meth : Method} {c : Code} {H : Heap} {locs : List Loc} {cells slots mc ms : Nat} {Q : State → Prop} {al : Array Slot} {st0 rest : List Value} {r1 : Option Value} {h1 : m_Hp} {a0 : Array Value}
    (hr : va_Run p l e R s m args below meth c H locs cells slots mc ms (F0 m pc al st0) rest (m_Qc D cA ra B r1 h1 a0) (m_A B)) (hS : va_S (m_A B) s.heap H locs)
    (kk : ∀ (H1 : Heap) (locs1 : List Loc), va_S (m_A B) s.heap H1 locs1 → m_Hd D cA ra B h1 H1 → W p l e R s m args below meth c H1 locs1 (cells + mc) (slots + ms) Q (F0 m (pc + 3) al ((r1.map (m_cv ra B)).toList ++ rest))) : W p l e R s m args below meth c H locs cells slots Q (F0 m pc al st0) := by
  intro T hT X
  obtain ⟨v, st₀, t, T', L, e0, X', hL, e1, e2, ⟨hv, hHd, hz, hk⟩, st⟩ := hr T hT X
  cases hv
  rw [e0] at hz hk
  obtain ⟨t2, a1, b1⟩ := kk T'.heap (locs ++ L)
    ⟨Nat.le_trans hS.1 (by rw [e1]; exact hz), fun q g1 g2 => by rw [e1, hk q (Nat.lt_of_lt_of_le g1 hS.1) g2]; exact hS.2.1 q g1 g2, fun q hq => by
      rcases List.mem_append.mp hq with h | h
      · exact hS.2.2 q h
      · exact hL q h⟩ (by rw [e1]; exact hHd) T' rfl X'
  exact ⟨t2, st t2 a1, b1⟩
theorem m_Pc_at {p : Program} {R : Room} {s : State} {m : MethodId} {args : Array Value} {meth : Method} {c : Code} {d : Nat} {h0 h : m_Hp} {H : Heap} {locs : List Loc} {as : List Value} (X : m_Cx D cA ra B ro p R s m args meth c cc nL ret own nm d h0) (hS : va_S (m_A B) s.heap H locs) (hH : m_Hd D cA ra B h H) (hro : m_Rd ro h) (hex : H.size + 4 = B + h.length) (U : State) (hU : U.heap = H) (hWU : s.WarmedH U.vm) : m_Pc D cA ra B ro as h (as.map (m_cv ra B)).toArray U := by
  obtain ⟨hx, hb, hml, hr, hown, hlk, hnm, hts, hW, hsz, hrl, hfr, hlo⟩ := X
  refine ⟨rfl, by rw [hU]; exact hH, by rw [hU]; omega, ?_, hro, hrl⟩
  rw [hU]
  exact (hW.kept hS.1 (fun a g1 g2 => hS.2.1 a g1 g2)).warm hWU
theorem m_call_go {p : Program} {l : Launch} {e : Env} {R : Room} {s : State} {m : MethodId} {args : Array Value} {below : List Frame} {meth : Method} {c : Code} {d : Nat} {h0 h h1 : m_Hp} {Q : State → Prop} {ls : m_Ls} {st rest as : List Value} {r1 : Option Value} {q : m_Mt}
    (X : m_Cx D cA ra B ro p R s m args meth c cc nL ret own nm d h0) (hm : m_mono h h1) (hm0 : m_mono h0 h) (hR : m_Rm R h0 h1) (hmet : m_Met D cA ra B ro l d q as h r1 h1)
    (run : ∀ (H : Heap) (locs : List Loc) (al : Array Slot), va_S (m_A B) s.heap H locs → m_Hd D cA ra B h H → al.size = nL → (∀ U : State, U.heap = H → s.WarmedH U.vm → m_Pc D cA ra B ro as h (as.map (m_cv ra B)).toArray U) → (h.length - h0.length + (h1.length - h.length) ≤ R.cells ∧ m_sz h - m_sz h0 + (m_sz h1 - m_sz h) ≤ R.slots) → va_Run p l e R s m args below meth c H locs (h.length - h0.length) (m_sz h - m_sz h0) (h1.length - h.length) (m_sz h1 - m_sz h) (F0 m pc al (st.map (m_cv ra B))) (rest.map (m_cv ra B)) (m_Qc D cA ra B r1 h1 (as.map (m_cv ra B)).toArray) (m_A B))
    (kk : m_Zp D cA ra B ro p l e R s m args below meth c nL Q h0 (pc + 3) ls (r1.toList ++ rest) h1) : m_Zp D cA ra B ro p l e R s m args below meth c nL Q h0 pc ls st h := by
  intro H locs al hS hH hro hL
  refine m_Wsize fun hup => ?_
  have hsz := X.2.2.2.2.2.2.2.2.2.1
  have h5 := hm0.1
  have h6 := hH.2
  have h7 := hm.1
  have h8 := hm.2.1
  have h9 := hm0.2.1
  obtain ⟨k1, k2⟩ := hR
  refine m_cont (run H locs al hS hH hL.2.1 (m_Pc_at X hS hH hro (by omega)) (by omega)) hS (fun H1 locs1 hS1 hH1 => ?_)
  have k3 := kk H1 locs1 al hS1 hH1 (hro.mono hm) hL
  rw [List.map_append] at k3
  have e1 : h.length - h0.length + (h1.length - h.length) = h1.length - h0.length := by omega
  have e2 : m_sz h - m_sz h0 + (m_sz h1 - m_sz h) = m_sz h1 - m_sz h0 := by omega
  rw [e1, e2]
  have e3 : (r1.map (m_cv ra B)).toList = r1.toList.map (m_cv ra B) := by cases r1 <;> rfl
  rw [e3]
  exact k3
theorem m_cst_spec {z n : Nat} {ls : m_Ls} {st : List Value} {h : m_Hp} {x : m_Res} (e : m_cst z n pc ls st h = some x) : n ≤ st.length ∧ m_cs (st.drop n) ≤ 8 ∧ x = .inr (.inl (z, (st.take n).reverse, st.drop n)) := by
  unfold m_cst at e
  obtain ⟨hq, e3⟩ := m_bif e
  rw [Bool.and_eq_true, Bool.and_eq_true] at hq
  exact ⟨m_ble hq.1.1, m_ble hq.1.2, e3⟩
theorem m_st_cut {st : List Value} {n : Nat} : st.map (m_cv ra B) = (((st.take n).reverse).map (m_cv ra B)).reverse ++ (st.drop n).map (m_cv ra B) := by
  rw [← List.map_reverse, List.reverse_reverse, ← List.map_append, List.take_append_drop]
/-- a static call -/
theorem m_s_cst {z n idx : Nat} {y : MethodName} {b : ByteArray} {k : Nat} {rt : Option FieldType} (hM : M[z]? = some (y, b, k, rt)) (hk : k ≤ 8) (hlk : Cond.methodLink own idx y ∈ m_gd ∨ ∃ host, Cond.methodLinkNest own idx y host ∈ m_nest) (hst : Cond.static y ∈ m_gd) (hin : Cond.initialized y.cls ∈ m_gd) (hcd : Cond.code y b k rt ∈ m_gd)
    (hd : y.cls ≠ "java/lang/invoke/MethodHandle" ∧ y.cls ≠ "java/lang/invoke/VarHandle" ∧ (parseMethodDescriptor y.desc).map (fun d => d.parameters.length) = some n) (hdg : decode cc pc = .ok (.invokestatic idx, 3)) : m_Snd D cA ra B ro M cc nL ret own nm pc (m_cst z n) := by
  refine ⟨fun ls st h pc1 ls1 st1 h1 e _ => (by obtain ⟨_, _, z⟩ := m_cst_spec e; cases z), ?_⟩
  intro p l e R s m args below meth c d h0 Q X
  refine ⟨fun ls st h pc1 ls1 st1 h1 e => (by obtain ⟨_, _, z⟩ := m_cst_spec e; cases z), ?_, fun ls st h v e => (by obtain ⟨_, _, z⟩ := m_cst_spec e; cases z)⟩
  intro ls st h z2 as rest r1 h1 eq hm hmet hm0 hR kk
  obtain ⟨g1, g2, g3⟩ := m_cst_spec eq
  cases g3
  have met := hmet _ hM
  refine m_call_go X hm hm0 hR met (fun H locs al hS hH hal hPc hroom => ?_) kk
  obtain ⟨hx, hb, hml, hr, hown, hlk2, hnm, hts, hW, hsz, hrl, hfr, hlo⟩ := X
  have hstk : st.map (m_cv ra B) = (((st.take n).reverse).map (m_cv ra B)).reverse ++ (st.drop n).map (m_cv ra B) := m_st_cut
  have hlen : (((st.take n).reverse).map (m_cv ra B)).length = n := by rw [List.length_map, List.length_reverse, List.length_take]; omega
  have hrm : (m_rm d h h1).frames + 1 ≤ R.frames ∧ 8 + (k + 11) + (m_rm d h h1).locals ≤ R.locals := ⟨hfr, by show 8 + (k + 11) + (27 * d + 40) ≤ R.locals; omega⟩
  rcases hlk with hl | ⟨host, hl⟩
  · exact va_runS (n := n) (nL := nL) ⟨hx, hb, hml, hown, hts⟩ met ⟨callB_of n hts (m_gi hcd) rfl rfl rfl (hts _ hin) (hts _ hl) hd hrm, hts _ hst⟩ ⟨m_Pc_blind, hPc⟩ rfl hlen hal hstk (lv_room (by rw [m_cs_cv]; exact g2)) hdg hroom
  · exact va_runSN (n := n) (nL := nL) (host := host) ⟨hx, hb, hml, hown, hts⟩ met ⟨va_cnB n hts (m_gi hcd) rfl rfl rfl (hW.2.2.2.2.2.1 _ hl) (hts _ hin) hd hrm, hts _ hst, trivial⟩ ⟨m_Pc_blind, hPc⟩ rfl hlen hal hstk (lv_room (by rw [m_cs_cv]; exact g2)) hdg hroom
theorem m_cob_spec {z n ci : Nat} {ls : m_Ls} {st : List Value} {h : m_Hp} {x : m_Res} (e : m_cob z n ci pc ls st h = some x) : ∃ (a : Nat) (rest fs : List Value), st.drop n = .ref a :: rest ∧ h[a]? = some (.inr (.inl (ci, fs))) ∧ 3 < a ∧ m_cs rest ≤ 8 ∧ x = .inr (.inl (z, .ref a :: (st.take n).reverse, rest)) := by
  unfold m_cob at e
  split at e
  · rename_i a rest hdrop
    split at e
    · rename_i cj fs hh
      obtain ⟨hq, e3⟩ := m_bif e
      rw [Bool.and_eq_true, Bool.and_eq_true, Bool.and_eq_true] at hq
      obtain ⟨⟨⟨q1, q2⟩, q3⟩, q4⟩ := hq
      have e1 := m_beq q1
      subst e1
      exact ⟨a, rest, fs, hdrop, hh, m_blt q2, m_ble q3, e3⟩
    · cases e
  · cases e
theorem m_st_cut2 {st rest : List Value} {n a : Nat} (h : st.drop n = .ref a :: rest) : st.map (m_cv ra B) = (((st.take n).reverse).map (m_cv ra B)).reverse ++ .ref (m_ad ra B a) :: rest.map (m_cv ra B) := by
  rw [m_st_cut (n := n), h]; rfl
theorem m_drop_len {st rest : List Value} {n a : Nat} (h : st.drop n = .ref a :: rest) : n ≤ st.length := by
  have := congrArg List.length h
  rw [List.length_drop, List.length_cons] at this
  omega
/-- a call of an object's method -/
theorem m_s_cob {z n idx ci N : Nat} {T : u_T} {y : MethodName} {b : ByteArray} {k : Nat} {rt : Option FieldType} (hM : M[z]? = some (y, b, k, rt)) (hc : vwCl[ci]? = some (y.cls, T, N)) (hk : k ≤ 8) (hlk : Cond.methodLink own idx y ∈ m_gd ∨ ∃ host, Cond.methodLinkNest own idx y host ∈ m_nest) (him : Cond.instanceMethod y ∈ m_gd) (hsl : Cond.selects y.cls y y ∈ m_gd) (hin : Cond.initialized y.cls ∈ m_gd) (hcd : Cond.code y b k rt ∈ m_gd)
    (hd : y.cls ≠ "java/lang/invoke/MethodHandle" ∧ y.cls ≠ "java/lang/invoke/VarHandle" ∧ (parseMethodDescriptor y.desc).map (fun d => d.parameters.length) = some n) (hdg : decode cc pc = .ok (.invokevirtual idx, 3)) : m_Snd D cA ra B ro M cc nL ret own nm pc (m_cob z n ci) := by
  refine ⟨fun ls st h pc1 ls1 st1 h1 e _ => (by obtain ⟨_, _, _, _, _, _, _, z⟩ := m_cob_spec e; cases z), ?_⟩
  intro p l e R s m args below meth c d h0 Q X
  refine ⟨fun ls st h pc1 ls1 st1 h1 e => (by obtain ⟨_, _, _, _, _, _, _, z⟩ := m_cob_spec e; cases z), ?_, fun ls st h v e => (by obtain ⟨_, _, _, _, _, _, _, z⟩ := m_cob_spec e; cases z)⟩
  intro ls st h z2 as rest r1 h1 eq hm hmet hm0 hR kk
  obtain ⟨a, rest2, fs, g0, g1, g2, g3, g4⟩ := m_cob_spec eq
  cases g4
  have met := hmet _ hM
  refine m_call_go X hm hm0 hR met (fun H locs al hS hH hal hPc hroom => ?_) kk
  obtain ⟨hx, hb, hml, hr, hown, hlk2, hnm, hts, hW, hsz, hrl, hfr, hlo⟩ := X
  have hstk := m_st_cut2 (ra := ra) (B := B) g0
  have hln := m_drop_len g0
  have hlen : (((st.take n).reverse).map (m_cv ra B)).length = n := by rw [List.length_map, List.length_reverse, List.length_take]; omega
  have hrm : (m_rm d h h1).frames + 1 ≤ R.frames ∧ 8 + (k + 11) + (m_rm d h h1).locals ≤ R.locals := ⟨hfr, by show 8 + (k + 11) + (27 * d + 40) ≤ R.locals; omega⟩
  have hrecv := va_recv hW.1 hH.1 hc (m_ws_get (cA := cA) (ra := ra) (B := B) g1 g2)
  rcases hlk with hl | ⟨host, hl⟩
  · exact va_runV (n := n) (nL := nL) (C := y.cls) (b := m_ad ra B a) ⟨hx, hb, hml, hown, hts⟩ met ⟨callB_of n hts (m_gi hcd) rfl rfl rfl (hts _ hin) (hts _ hl) hd hrm, hts _ him, hts _ hsl⟩ ⟨m_Pc_blind, hrecv, hPc⟩ rfl hlen hal hstk (lv_room (by rw [m_cs_cv]; exact g3)) hdg hroom
  · exact va_runVN (n := n) (nL := nL) (host := host) (C := y.cls) (b := m_ad ra B a) ⟨hx, hb, hml, hown, hts⟩ met ⟨va_cnB n hts (m_gi hcd) rfl rfl rfl (hW.2.2.2.2.2.1 _ hl) (hts _ hin) hd hrm, hts _ him, hts _ hsl⟩ ⟨m_Pc_blind, hrecv, hPc⟩ rfl hlen hal hstk (lv_room (by rw [m_cs_cv]; exact g3)) hdg hroom
/-- a constructor's call -/
theorem m_s_cin {z n idx ci N : Nat} {T : u_T} {y : MethodName} {b : ByteArray} {k : Nat} (hM : M[z]? = some (y, b, k, none)) (hc : vwCl[ci]? = some (y.cls, T, N)) (hk : k ≤ 8) (hy : y.name = "<init>") (hlk : Cond.methodLink own idx y ∈ m_gd ∨ ∃ host, Cond.methodLinkNest own idx y host ∈ m_nest) (him : Cond.instanceMethod y ∈ m_gd) (hin : Cond.initialized y.cls ∈ m_gd) (hcd : Cond.code y b k none ∈ m_gd)
    (hd : y.cls ≠ "java/lang/invoke/MethodHandle" ∧ y.cls ≠ "java/lang/invoke/VarHandle" ∧ (parseMethodDescriptor y.desc).map (fun d => d.parameters.length) = some n) (hdg : decode cc pc = .ok (.invokespecial idx, 3)) : m_Snd D cA ra B ro M cc nL ret own nm pc (m_cob z n ci) := by
  refine ⟨fun ls st h pc1 ls1 st1 h1 e _ => (by obtain ⟨_, _, _, _, _, _, _, z⟩ := m_cob_spec e; cases z), ?_⟩
  intro p l e R s m args below meth c d h0 Q X
  refine ⟨fun ls st h pc1 ls1 st1 h1 e => (by obtain ⟨_, _, _, _, _, _, _, z⟩ := m_cob_spec e; cases z), ?_, fun ls st h v e => (by obtain ⟨_, _, _, _, _, _, _, z⟩ := m_cob_spec e; cases z)⟩
  intro ls st h z2 as rest r1 h1 eq hm hmet hm0 hR kk
  obtain ⟨a, rest2, fs, g0, g1, g2, g3, g4⟩ := m_cob_spec eq
  cases g4
  have met := hmet _ hM
  refine m_call_go X hm hm0 hR met (fun H locs al hS hH hal hPc hroom => ?_) kk
  obtain ⟨hx, hb, hml, hr, hown, hlk2, hnm, hts, hW, hsz, hrl, hfr, hlo⟩ := X
  have hstk := m_st_cut2 (ra := ra) (B := B) g0
  have hln := m_drop_len g0
  have hlen : (((st.take n).reverse).map (m_cv ra B)).length = n := by rw [List.length_map, List.length_reverse, List.length_take]; omega
  have hrm : (m_rm d h h1).frames + 1 ≤ R.frames ∧ 8 + (k + 11) + (m_rm d h h1).locals ≤ R.locals := ⟨hfr, by show 8 + (k + 11) + (27 * d + 40) ≤ R.locals; omega⟩
  rcases hlk with hl | ⟨host, hl⟩
  · exact va_runI (n := n) (nL := nL) (b := m_ad ra B a) ⟨hx, hb, hml, hown, hts⟩ met ⟨callB_of n hts (m_gi hcd) rfl rfl rfl (hts _ hin) (hts _ hl) hd hrm, hy, hts _ him⟩ ⟨m_Pc_blind, hPc⟩ rfl hlen hal hstk (lv_room (by rw [m_cs_cv]; exact g3)) hdg hroom
  · exact va_runIN (n := n) (nL := nL) (host := host) (b := m_ad ra B a) ⟨hx, hb, hml, hown, hts⟩ met ⟨va_cnB n hts (m_gi hcd) rfl rfl rfl (hW.2.2.2.2.2.1 _ hl) (hts _ hin) hd hrm, hy, hts _ him⟩ ⟨m_Pc_blind, hPc⟩ rfl hlen hal hstk (lv_room (by rw [m_cs_cv]; exact g3)) hdg hroom
end
end
section
/-! returns; a run of the plain machine is a contract of the JVM's method -/
section
variable {D : va_G} {cA : Nat → ClassId} {ra : Nat → Nat} {B : Nat} {ro : List (List Int32)} {M : List m_Mt} {cc : ByteArray} {nL : Nat} {ret : Option FieldType} {own nm : String} {pc : Nat} {o : m_Op}
theorem m_end (hn : ∀ (ls : m_Ls) (st : List Value) (h : m_Hp) (x : m_Res), o pc ls st h = some x → ∃ v, x = .inr (.inr v))
    (hz : ∀ (p : Program) (l : Launch) (e : Env) (R : Room) (s : State) (m : MethodId) (args : Array Value) (below : List Frame) (meth : Method) (c : Code) (d : Nat) (h0 : m_Hp), m_Cx D cA ra B ro p R s m args meth c cc nL ret own nm d h0 →
      ∀ (ls : m_Ls) (st : List Value) (h : m_Hp) (v : Option Value), o pc ls st h = some (.inr (.inr v)) → ∀ (H : Heap) (locs : List Loc) (al : Array Slot) (cells slots : Nat), va_S (m_A B) s.heap H locs → m_Hd D cA ra B h H → W p l e R s m args below meth c H locs cells slots (MQ below (m_Qc D cA ra B v h) args s cells slots (m_A B)) (F0 m pc al (st.map (m_cv ra B)))) : m_Snd D cA ra B ro M cc nL ret own nm pc o := by
  refine ⟨fun ls st h pc1 ls1 st1 h1 eq h4 => ?_, ?_⟩
  · obtain ⟨v, q⟩ := hn ls st h _ eq
    cases q
  intro p l e R s m args below meth c d h0 Q X
  refine ⟨fun ls st h pc1 ls1 st1 h1 eq h4 => ?_, fun ls st h z as rest r1 h1 eq => ?_, fun ls st h v eq hm hQ => ?_⟩
  · obtain ⟨v, q⟩ := hn ls st h _ eq
    cases q
  · obtain ⟨v, q⟩ := hn ls st h _ eq
    cases q
  · subst hQ
    intro H locs al hS hH hro hL
    exact hz p l e R s m args below meth c d h0 X ls st h v eq H locs al _ _ hS hH
theorem m_s_iret (hR : ret = some .int) (hdg : decode cc pc = .ok (.ireturn, 1)) : m_Snd D cA ra B ro M cc nL ret own nm pc m_iret := by
  refine m_end (fun ls st h x e => ?_) ?_
  · unfold m_iret at e
    split at e
    · cases e; exact ⟨_, rfl⟩
    · cases e
  intro p l e R s m args below meth c d h0 X ls st h v eq H locs al cells slots hS hH
  obtain ⟨hx, hb, hml, hr, hown, hlk, hnm, hts, hW, hsz, hrl, hfr, hlo⟩ := X
  unfold m_iret at eq
  split at eq
  · cases eq
    exact W.iret hx hb (hr.trans hR) (fun t ht hw => ⟨rfl, by rw [ht]; exact hH, hS.F ht⟩) hS.2.2 hdg (hlocks := hlk)
  · cases eq
theorem m_s_zret {ty : FieldType} {f : Int32 → Int32} (hR : ret = some ty) (hn : ∀ x, f x = x → narrow ty (.int x) = .int x) (hdg : decode cc pc = .ok (.ireturn, 1)) : m_Snd D cA ra B ro M cc nL ret own nm pc (m_zret f) := by
  refine m_end (fun ls st h x e => ?_) ?_
  · unfold m_zret at e
    split at e
    · split at e
      · cases e; exact ⟨_, rfl⟩
      · cases e
    · cases e
  intro p l e R s m args below meth c d h0 X ls st h v eq H locs al cells slots hS hH
  obtain ⟨hx, hb, hml, hr, hown, hlk, hnm, hts, hW, hsz, hrl, hfr, hlo⟩ := X
  unfold m_zret at eq
  split at eq
  · split at eq
    · rename_i hf
      cases eq
      exact W.zret hx hb (hr.trans hR) (hn _ hf) (fun t ht hw => ⟨rfl, by rw [ht]; exact hH, hS.F ht⟩) hS.2.2 hdg (hlocks := hlk)
    · cases eq
  · cases eq
theorem m_s_fret (hR : ret = some .float) (hdg : decode cc pc = .ok (.freturn, 1)) : m_Snd D cA ra B ro M cc nL ret own nm pc m_fret := by
  refine m_end (fun ls st h x e => ?_) ?_
  · unfold m_fret at e
    split at e
    · cases e; exact ⟨_, rfl⟩
    · cases e
  intro p l e R s m args below meth c d h0 X ls st h v eq H locs al cells slots hS hH
  obtain ⟨hx, hb, hml, hr, hown, hlk, hnm, hts, hW, hsz, hrl, hfr, hlo⟩ := X
  unfold m_fret at eq
  split at eq
  · cases eq
    exact W.fret hx hb (hr.trans hR) (fun t ht hw => ⟨rfl, by rw [ht]; exact hH, hS.F ht⟩) hS.2.2 hdg (hlocks := hlk)
  · cases eq
theorem m_s_aret {n : String} (hR : ret = some (.object n)) (hdg : decode cc pc = .ok (.areturn, 1)) : m_Snd D cA ra B ro M cc nL ret own nm pc m_aret := by
  refine m_end (fun ls st h x e => ?_) ?_
  · unfold m_aret at e
    split at e
    · cases e; exact ⟨_, rfl⟩
    · cases e; exact ⟨_, rfl⟩
    · cases e
  intro p l e R s m args below meth c d h0 X ls st h v eq H locs al cells slots hS hH
  obtain ⟨hx, hb, hml, hr, hown, hlk, hnm, hts, hW, hsz, hrl, hfr, hlo⟩ := X
  unfold m_aret at eq
  split at eq
  · cases eq
    exact W.aret hx hb (hr.trans hR) (Or.inl ⟨n, rfl⟩) (Or.inr ⟨_, rfl⟩) (fun t ht hw => ⟨rfl, by rw [ht]; exact hH, hS.F ht⟩) hS.2.2 hdg (hlocks := hlk)
  · cases eq
    exact W.aret hx hb (hr.trans hR) (Or.inl ⟨n, rfl⟩) (Or.inl rfl) (fun t ht hw => ⟨rfl, by rw [ht]; exact hH, hS.F ht⟩) hS.2.2 hdg (hlocks := hlk)
  · cases eq
theorem m_s_vret (hR : ret = none) (hdg : decode cc pc = .ok (.return_, 1)) : m_Snd D cA ra B ro M cc nL ret own nm pc m_vret := by
  refine m_end (fun ls st h x e => ?_) ?_
  · unfold m_vret at e
    split at e
    · cases e; exact ⟨_, rfl⟩
    · cases e
  intro p l e R s m args below meth c d h0 X ls st h v eq H locs al cells slots hS hH
  obtain ⟨hx, hb, hml, hr, hown, hlk, hnm, hts, hW, hsz, hrl, hfr, hlo⟩ := X
  unfold m_vret at eq
  split at eq
  · cases eq
    exact W.vret hx hb (hr.trans hR) (fun t ht hw => ⟨rfl, by rw [ht]; exact hH, hS.F ht⟩) hS.2.2 hdg (hlocks := hlk)
  · cases eq
/-! a table, all its rows -/
theorem m_at_nil {F : Nat → m_Op → Prop} : ∀ pc o, m_at [] pc = some o → F pc o := fun _ _ h => by cases h
theorem m_at_cons {F : Nat → m_Op → Prop} {k : Nat} {o : m_Op} {l : m_Tab} (h1 : F k o) (h2 : ∀ pc o, m_at l pc = some o → F pc o) : ∀ pc o2, m_at ((k, o) :: l) pc = some o2 → F pc o2 := by
  intro pc o2 h
  rw [m_at] at h
  cases hk : Nat.beq k pc with
  | true =>
    rw [hk] at h
    cases h
    have := m_beq hk
    subst this
    exact h1
  | false =>
    rw [hk] at h
    exact h2 pc o2 h
theorem m_at_split : ∀ (l1 l2 : m_Tab) (pc : Nat) (o : m_Op), m_at (l1 ++ l2) pc = some o → m_at l1 pc = some o ∨ m_at l2 pc = some o
  | [], _, _, _, h => Or.inr h
  | (k, x) :: l, l2, pc, o, h => by
    rw [List.cons_append, m_at] at h
    rw [m_at]
    cases hk : Nat.beq k pc with
    | true => rw [hk] at h; exact Or.inl h
    | false => rw [hk] at h; exact m_at_split l l2 pc o h
theorem m_at_app {F : Nat → m_Op → Prop} {l1 l2 : m_Tab} (h1 : ∀ pc o, m_at l1 pc = some o → F pc o) (h2 : ∀ pc o, m_at l2 pc = some o → F pc o) : ∀ pc o, m_at (l1 ++ l2) pc = some o → F pc o := fun pc o h => (m_at_split l1 l2 pc o h).elim (h1 pc o) (h2 pc o)
def m_TS (D : va_G) (cA : Nat → ClassId) (ra : Nat → Nat) (B : Nat) (ro : List (List Int32)) (M : List m_Mt) (q : m_Mt) (w : m_Tab × Nat) : Prop := w.2 = q.2.2.1 ∧ plainName q.1.cls = true ∧ ∀ pc o, m_at w.1 pc = some o → m_Snd D cA ra B ro M q.2.1 q.2.2.1 q.2.2.2 q.1.cls q.1.name pc o
def m_PS (D : va_G) (cA : Nat → ClassId) (ra : Nat → Nat) (B : Nat) (ro : List (List Int32)) (M : List m_Mt) (P : m_Prog) : Prop := ∀ (z : Nat) (w : m_Tab × Nat), P[z]? = some w → ∃ q, M[z]? = some q ∧ m_TS D cA ra B ro M q w
theorem m_ex_mono {C : m_CR} {tab : m_Tab} (hT : ∀ pc o, m_at tab pc = some o → ∀ (ls : m_Ls) (st : List Value) (h : m_Hp) (pc1 : Nat) (ls1 : m_Ls) (st1 : List Value) (h1 : m_Hp), o pc ls st h = some (.inl (pc1, ls1, st1, h1)) → 4 ≤ h.length → m_mono h h1) (hC : ∀ z as h r h1, C z as h r h1 → 4 ≤ h.length → m_mono h h1) : ∀ (n pc : Nat) (ls : m_Ls) (st : List Value) (h : m_Hp) (r : Option Value) (h' : m_Hp), m_Ex C tab n pc ls st h r h' → 4 ≤ h.length → m_mono h h' := by
  intro n
  induction n with
  | zero => intro _ _ _ _ _ _ k; exact k.elim
  | succ n ih =>
    intro pc ls st h r h' k h4
    obtain ⟨op, x, e1, e2, k⟩ := k
    rcases x with ⟨p1, l1, s1, h1⟩ | ⟨z, as, rest⟩ | v
    · have m1 := hT pc op e1 ls st h p1 l1 s1 h1 e2 h4
      exact m1.tr (ih _ _ _ _ _ _ k (Nat.le_trans h4 m1.1))
    · obtain ⟨r1, h1, c1, k⟩ := k
      have m1 := hC _ _ _ _ _ c1 h4
      exact m1.tr (ih _ _ _ _ _ _ k (Nat.le_trans h4 m1.1))
    · obtain ⟨-, rfl⟩ := k
      exact m_mono.rf
theorem m_call_mono {P : m_Prog} (hP : m_PS D cA ra B ro M P) : ∀ (d z : Nat) (as : List Value) (h : m_Hp) (r : Option Value) (h' : m_Hp), m_Call P d z as h r h' → 4 ≤ h.length → m_mono h h' := by
  intro d
  induction d with
  | zero => intro _ _ _ _ _ k; exact k.elim
  | succ d ih =>
    intro z as h r h' k h4
    obtain ⟨w, n, hw, -, k⟩ := k
    obtain ⟨q, -, -, -, hT⟩ := hP z w hw
    exact m_ex_mono (fun pc o e => (hT pc o e).1) ih n 0 _ _ h r h' k h4
theorem m_ex_go {p : Program} {l : Launch} {e : Env} {R : Room} {s : State} {m : MethodId} {args : Array Value} {below : List Frame} {meth : Method} {c : Code} {d : Nat} {h0 h' : m_Hp} {r : Option Value} {Q : State → Prop} {C : m_CR} {tab : m_Tab}
    (X : m_Cx D cA ra B ro p R s m args meth c cc nL ret own nm d h0) (hT : ∀ pc o, m_at tab pc = some o → m_Snd D cA ra B ro M cc nL ret own nm pc o) (hCm : ∀ z as h r h1, C z as h r h1 → 4 ≤ h.length → m_mono h h1) (hC : ∀ z as h r h1, C z as h r h1 → 4 ≤ h.length → ∀ q, M[z]? = some q → m_Met D cA ra B ro l d q as h r h1)
    (hret : ∀ (pc : Nat) (ls : m_Ls) (st : List Value) (h : m_Hp) (o : m_Op) (v : Option Value), m_at tab pc = some o → o pc ls st h = some (.inr (.inr v)) → m_mono h0 h → r = v → h' = h → m_Zp D cA ra B ro p l e R s m args below meth c nL Q h0 pc ls st h) (h04 : 4 ≤ h0.length) (hR : m_Rm R h0 h') :
    ∀ (n pc : Nat) (ls : m_Ls) (st : List Value) (h : m_Hp), m_Ex C tab n pc ls st h r h' → m_mono h0 h → m_Zp D cA ra B ro p l e R s m args below meth c nL Q h0 pc ls st h := by
  have room : ∀ h1 : m_Hp, m_mono h1 h' → m_Rm R h0 h1 := fun h1 g => ⟨Nat.le_trans (Nat.sub_le_sub_right g.1 _) hR.1, Nat.le_trans (Nat.sub_le_sub_right g.2.1 _) hR.2⟩
  have mono := m_ex_mono (fun pc o e => (hT pc o e).1) hCm
  intro n
  induction n with
  | zero => intro _ _ _ _ k; exact k.elim
  | succ n ih =>
    intro pc ls st h k hm0
    have h4 : 4 ≤ h.length := Nat.le_trans h04 hm0.1
    obtain ⟨op, x, e1, e2, k⟩ := k
    have S := (hT pc op e1).2 p l e R s m args below meth c d h0 Q X
    rcases x with ⟨p1, l1, s1, h1⟩ | ⟨z, as, rest⟩ | v
    · have m1 := (hT pc op e1).1 ls st h p1 l1 s1 h1 e2 h4
      exact S.1 ls st h p1 l1 s1 h1 e2 h4 hm0 (room h1 (mono n p1 l1 s1 h1 r h' k (Nat.le_trans h4 m1.1))) (ih p1 l1 s1 h1 k (hm0.tr m1))
    · obtain ⟨r1, h1, c1, k⟩ := k
      have m1 := hCm _ _ _ _ _ c1 h4
      exact S.2.1 ls st h z as rest r1 h1 e2 m1 (hC _ _ _ _ _ c1 h4) hm0 (room h1 (mono n _ _ _ h1 r h' k (Nat.le_trans h4 m1.1))) (ih _ _ _ h1 k (hm0.tr m1))
    · exact hret pc ls st h op v e1 e2 hm0 k.1 k.2
/-! the entry -/
theorem m_sl_len : ∀ (vs : List Value), (∀ v ∈ vs, v.category = 1) → (lg_sl vs).length = vs.length
  | [], _ => rfl
  | v :: l, h => by
    have h1 := h v List.mem_cons_self
    have ih := m_sl_len l (fun w hw => h w (List.mem_cons_of_mem _ hw))
    show ((if v.category = 2 then [Slot.val v, Slot.second] else [Slot.val v]) ++ lg_sl l).length = _
    rw [if_neg (by omega)]
    simp only [List.length_append, ih, List.length_cons, List.length_nil]
    omega
theorem m_args_mem : ∀ (vs : List Value) (i j : Nat) (v : Value), (∀ v ∈ vs, v.category = 1) → vs[j]? = some v → (i + j, v) ∈ lv_args i vs
  | [], i, j, v, _, h => by simp at h
  | w :: l, i, j, v, hc, h => by
    have h1 := hc w List.mem_cons_self
    rw [lv_args, if_neg (by omega)]
    cases j with
    | zero => cases h; exact List.mem_cons_self
    | succ j =>
      have := m_args_mem l (i + 1) j v (fun w hw => hc w (List.mem_cons_of_mem _ hw)) h
      rw [show i + 1 + j = i + (j + 1) by omega] at this
      exact List.mem_cons_of_mem _ this
theorem m_Lv_entry {as : List Value} {n : Nat} (hc : (Nat.ble as.length n && as.all m_c1) = true) : m_Lv ra B ((lg_sl (as.map (m_cv ra B)) ++ List.replicate (n - (lg_sl (as.map (m_cv ra B))).length) Slot.unset).toArray) n (m_entry as n) := by
  rw [Bool.and_eq_true] at hc
  have hl := m_ble hc.1
  have hcat : ∀ v ∈ as.map (m_cv ra B), v.category = 1 := by
    intro v hv
    obtain ⟨w, hw, rfl⟩ := List.mem_map.mp hv
    rw [m_cv_c1]
    exact m_c1_cat (List.all_eq_true.mp hc.2 w hw)
  have hlen : (lg_sl (as.map (m_cv ra B))).length ≤ n := by rw [m_sl_len _ hcat, List.length_map]; exact hl
  have h1 := lv_entry (as.map (m_cv ra B)) hlen
  refine ⟨by unfold m_entry; rw [List.length_append, List.length_map, List.length_replicate]; omega, h1.1, h1.2.1, fun i v hi => ?_⟩
  have hi2 : as[i]? = some v := by
    unfold m_entry at hi
    by_cases hlt : i < as.length
    · rw [List.getElem?_append_left (by rw [List.length_map]; exact hlt), List.getElem?_map] at hi
      cases hq : as[i]? with
      | none => rw [hq] at hi; cases hi
      | some w => rw [hq] at hi; cases hi; rfl
    · rw [List.getElem?_append_right (by rw [List.length_map]; omega), List.getElem?_replicate] at hi
      split at hi <;> cases hi
  have h2 := m_args_mem (as.map (m_cv ra B)) 0 i (m_cv ra B v) hcat (by rw [List.getElem?_map, hi2]; rfl)
  rw [Nat.zero_add] at h2
  exact h1.2.2 _ h2
end
end
section
section
variable {D : va_G} {cA : Nat → ClassId} {ra : Nat → Nat} {B : Nat} {ro : List (List Int32)} {M : List m_Mt} {cc : ByteArray} {nL : Nat} {ret : Option FieldType} {own nm : String} {pc : Nat} {o : m_Op}
/-- THE PLAIN MACHINE IS SOUND -/
theorem m_sound {P : m_Prog} (hP : m_PS D cA ra B ro M P) (l : Launch) : ∀ (d z : Nat) (as : List Value) (h : m_Hp) (r : Option Value) (h' : m_Hp), m_Call P d z as h r h' → 4 ≤ h.length → ∀ q, M[z]? = some q → m_Met D cA ra B ro l d q as h r h' := by
  intro d
  induction d with
  | zero => intro _ _ _ _ _ k; exact k.elim
  | succ d ih =>
    intro z as h r h' k h4 q hq
    obtain ⟨w, n, hw, hca, k⟩ := k
    obtain ⟨q2, hq2, hw2, hpl, hT⟩ := hP z w hw
    cases hq.symm.trans hq2
    rw [hw2] at k hca
    unfold m_Met
    refine Met.ofW (cc := q.2.1) (maxL := q.2.2.1) (ret := q.2.2.2) hpl rfl ?_
    intro p e s m args below meth c s₁ Bd hml hv
    obtain ⟨rfl, hH, hex, hW, hro, hrl⟩ := hv
    have hts := atoms_spec (ws := Cond.code q.1 q.2.1 q.2.2.1 q.2.2.2 :: m_gd) Bd.pre
    have X : m_Cx D cA ra B ro p (m_rm (d + 1) h h') s m (as.map (m_cv ra B)).toArray meth c q.2.1 q.2.2.1 q.2.2.2 q.1.cls q.1.name d h :=
      ⟨Bd.exec, Bd.bytes, hml, Bd.returns, findClass_of_methodNamed Bd.named, Bd.notSynchronized, (name_of_methodNamed Bd.named Bd.method).1, fun w hw => hts w (List.mem_cons_of_mem _ hw), hW, hex, hrl, Nat.le_refl _, Nat.le_refl _⟩
    have Z := m_ex_go (l := l) (e := e) (below := below) (Q := MQ below (m_Qc D cA ra B r h') (as.map (m_cv ra B)).toArray s (h'.length - h.length) (m_sz h' - m_sz h) (m_A B)) X hT (m_call_mono hP d) ih
      (fun pc ls st h1 o v e1 e2 hm er eh => by subst er; subst eh; exact ((hT pc o e1).2 p l e _ s m _ below meth c d h _ X).2.2 ls st _ _ e2 hm rfl) h4 ⟨Nat.le_refl _, Nat.le_refl _⟩ n 0 _ _ h k m_mono.rf
    have Z2 := Z s.heap [] _ va_S.rf hH hro (m_Lv_entry hca)
    rw [Nat.sub_self, Nat.sub_self] at Z2
    rw [lg_entry_eq]
    exact Z2
end
end
section
/-! what the tables say, word by word; the methods as tables of the plain machine: printed by wip/whole/gen/gen11.py out of the printed names -/
theorem uw_0 : ∀ w ∈ u_ws RX0 TX0 3, w ∈ m_gd := by decide +kernel
theorem uw_1 : ∀ w ∈ u_ws RX1 TX1 3, w ∈ m_gd := by decide +kernel
theorem uw_2 : ∀ w ∈ u_ws RX2 TX2 3, w ∈ m_gd := by decide +kernel
theorem uw_3 : ∀ w ∈ u_ws RX3 TX3 11, w ∈ m_gd := by decide +kernel
theorem uw_4 : ∀ w ∈ u_ws RX4 TX4 7, w ∈ m_gd := by decide +kernel
theorem uw_5 : ∀ w ∈ u_ws RX5 TX5 6, w ∈ m_gd := by decide +kernel
theorem uw_6 : ∀ w ∈ u_ws RX6 TX6 14, w ∈ m_gd := by decide +kernel
theorem m_nz : ∀ x : Int32, x &&& 1 = x → narrow .boolean (.int x) = .int x := fun x h => by show Value.int (x &&& 1) = _; rw [h]
theorem m_nc : ∀ x : Int32, x.toUInt32.toUInt16.toUInt32.toInt32 = x → narrow .char (.int x) = .int x := fun x h => by show Value.int _ = _; rw [h]
theorem wd_0 : Cond.methodLink RX0 3 Lib.objectInit ∈ m_gd := List.mem_filter.mpr ⟨List.mem_of_getElem? (i := 149) (by decide +kernel), by decide +kernel⟩
theorem wd_1 : Cond.instanceMethod Lib.objectInit ∈ m_gd := List.mem_filter.mpr ⟨List.mem_of_getElem? (i := 59) (by decide +kernel), by decide +kernel⟩
theorem wd_2 : Cond.code Lib.objectInit ⟨#[0xb1]⟩ 1 none ∈ m_gd := List.mem_filter.mpr ⟨List.mem_of_getElem? (i := 60) (by decide +kernel), by decide +kernel⟩
theorem wd_3 : Cond.classLink RX0 9 RX3 ∈ m_gd := List.mem_filter.mpr ⟨List.mem_of_getElem? (i := 150) (by decide +kernel), by decide +kernel⟩
theorem wd_4 : Cond.fieldLink RX0 11 RX0 (TX0 0).2.1 (TX0 0).2.2.1 ∈ m_gd := List.mem_filter.mpr ⟨List.mem_of_getElem? (i := 153) (by decide +kernel), by decide +kernel⟩
theorem wd_5 : Cond.fieldLink RX0 17 RX0 (TX0 1).2.1 (TX0 1).2.2.1 ∈ m_gd := List.mem_filter.mpr ⟨List.mem_of_getElem? (i := 154) (by decide +kernel), by decide +kernel⟩
theorem wd_6 : Cond.fieldLink RX0 21 RX0 (TX0 2).2.1 (TX0 2).2.2.1 ∈ m_gd := List.mem_filter.mpr ⟨List.mem_of_getElem? (i := 155) (by decide +kernel), by decide +kernel⟩
theorem wd_7 : Cond.instantiable RX3 11 ∈ m_gd := List.mem_filter.mpr ⟨List.mem_of_getElem? (i := 62) (by decide +kernel), by decide +kernel⟩
theorem wd_8 : Cond.initialized RX3 ∈ m_gd := List.mem_filter.mpr ⟨List.mem_of_getElem? (i := 44) (by decide +kernel), by decide +kernel⟩
theorem wd_9 : Cond.methodLink RX0 24 yX3_init ∈ m_gd := List.mem_filter.mpr ⟨List.mem_of_getElem? (i := 152) (by decide +kernel), by decide +kernel⟩
theorem wd_10 : Cond.instanceMethod yX3_init ∈ m_gd := List.mem_filter.mpr ⟨List.mem_of_getElem? (i := 64) (by decide +kernel), by decide +kernel⟩
theorem wd_11 : Cond.code yX3_init cX3_init 2 none ∈ m_gd := List.mem_filter.mpr ⟨List.mem_of_getElem? (i := 65) (by decide +kernel), by decide +kernel⟩
theorem wd_12 : Cond.methodLink RX0 25 yX0_copyTo ∈ m_gd := List.mem_filter.mpr ⟨List.mem_of_getElem? (i := 227) (by decide +kernel), by decide +kernel⟩
theorem wd_13 : Cond.instanceMethod yX0_copyTo ∈ m_gd := List.mem_filter.mpr ⟨List.mem_of_getElem? (i := 229) (by decide +kernel), by decide +kernel⟩
theorem wd_14 : Cond.selects RX0 yX0_copyTo yX0_copyTo ∈ m_gd := List.mem_filter.mpr ⟨List.mem_of_getElem? (i := 0) (by decide +kernel), by decide +kernel⟩
theorem wd_15 : Cond.initialized RX0 ∈ m_gd := List.mem_filter.mpr ⟨List.mem_of_getElem? (i := 48) (by decide +kernel), by decide +kernel⟩
theorem wd_16 : Cond.code yX0_copyTo cX0_copyTo 4 none ∈ m_gd := List.mem_filter.mpr ⟨List.mem_of_getElem? (i := 230) (by decide +kernel), by decide +kernel⟩
theorem wd_17 : Cond.methodLink RX0 29 Lib.Math.min.name ∈ m_gd := List.mem_filter.mpr ⟨List.mem_of_getElem? (i := 240) (by decide +kernel), by decide +kernel⟩
theorem wd_18 : Cond.static Lib.Math.min.name ∈ m_gd := List.mem_filter.mpr ⟨List.mem_of_getElem? (i := 95) (by decide +kernel), by decide +kernel⟩
theorem wd_19 : Cond.initialized "java/lang/Math" ∈ m_gd := List.mem_filter.mpr ⟨List.mem_of_getElem? (i := 46) (by decide +kernel), by decide +kernel⟩
theorem wd_20 : Cond.code Lib.Math.min.name Lib.Math.min.code 2 (some .int) ∈ m_gd := List.mem_filter.mpr ⟨List.mem_of_getElem? (i := 96) (by decide +kernel), by decide +kernel⟩
theorem wd_21 : Cond.methodLink RX0 35 yX3_copyFrom ∈ m_gd := List.mem_filter.mpr ⟨List.mem_of_getElem? (i := 231) (by decide +kernel), by decide +kernel⟩
theorem wd_22 : Cond.instanceMethod yX3_copyFrom ∈ m_gd := List.mem_filter.mpr ⟨List.mem_of_getElem? (i := 232) (by decide +kernel), by decide +kernel⟩
theorem wd_23 : Cond.selects RX3 yX3_copyFrom yX3_copyFrom ∈ m_gd := List.mem_filter.mpr ⟨List.mem_of_getElem? (i := 233) (by decide +kernel), by decide +kernel⟩
theorem wd_24 : Cond.code yX3_copyFrom cX3_copyFrom 3 none ∈ m_gd := List.mem_filter.mpr ⟨List.mem_of_getElem? (i := 234) (by decide +kernel), by decide +kernel⟩
theorem wd_25 : Cond.methodLink RX1 3 Lib.objectInit ∈ m_gd := List.mem_filter.mpr ⟨List.mem_of_getElem? (i := 74) (by decide +kernel), by decide +kernel⟩
theorem wd_26 : Cond.arrayClass .int ∈ m_gd := List.mem_filter.mpr ⟨List.mem_of_getElem? (i := 88) (by decide +kernel), by decide +kernel⟩
theorem wd_27 : Cond.fieldLink RX1 9 RX1 (TX1 0).2.1 (TX1 0).2.2.1 ∈ m_gd := List.mem_filter.mpr ⟨List.mem_of_getElem? (i := 75) (by decide +kernel), by decide +kernel⟩
theorem wd_28 : Cond.fieldLink RX1 15 RX1 (TX1 1).2.1 (TX1 1).2.2.1 ∈ m_gd := List.mem_filter.mpr ⟨List.mem_of_getElem? (i := 76) (by decide +kernel), by decide +kernel⟩
theorem wd_29 : Cond.fieldLink RX1 19 RX1 (TX1 2).2.1 (TX1 2).2.2.1 ∈ m_gd := List.mem_filter.mpr ⟨List.mem_of_getElem? (i := 78) (by decide +kernel), by decide +kernel⟩
theorem wn_30 : Cond.methodLinkNest RX1 23 yX5_copyRow "CardSheets" ∈ m_nest := List.mem_filter.mpr ⟨List.mem_of_getElem? (i := 239) (by decide +kernel), by decide +kernel⟩
theorem wd_31 : Cond.static yX5_copyRow ∈ m_gd := List.mem_filter.mpr ⟨List.mem_of_getElem? (i := 92) (by decide +kernel), by decide +kernel⟩
theorem wd_32 : Cond.initialized RX5 ∈ m_gd := List.mem_filter.mpr ⟨List.mem_of_getElem? (i := 43) (by decide +kernel), by decide +kernel⟩
theorem wd_33 : Cond.code yX5_copyRow cX5_copyRow 2 none ∈ m_gd := List.mem_filter.mpr ⟨List.mem_of_getElem? (i := 93) (by decide +kernel), by decide +kernel⟩
theorem wd_34 : Cond.methodLink RX1 27 yX2_cardCutTo ∈ m_gd := List.mem_filter.mpr ⟨List.mem_of_getElem? (i := 392) (by decide +kernel), by decide +kernel⟩
theorem wd_35 : Cond.instanceMethod yX2_cardCutTo ∈ m_gd := List.mem_filter.mpr ⟨List.mem_of_getElem? (i := 393) (by decide +kernel), by decide +kernel⟩
theorem wd_36 : Cond.selects RX2 yX2_cardCutTo yX2_cardCutTo ∈ m_gd := List.mem_filter.mpr ⟨List.mem_of_getElem? (i := 394) (by decide +kernel), by decide +kernel⟩
theorem wd_37 : Cond.initialized RX2 ∈ m_gd := List.mem_filter.mpr ⟨List.mem_of_getElem? (i := 51) (by decide +kernel), by decide +kernel⟩
theorem wd_38 : Cond.code yX2_cardCutTo cX2_cardCutTo 3 (some .int) ∈ m_gd := List.mem_filter.mpr ⟨List.mem_of_getElem? (i := 395) (by decide +kernel), by decide +kernel⟩
theorem wd_39 : Cond.methodLink RX1 33 yX1_left ∈ m_gd := List.mem_filter.mpr ⟨List.mem_of_getElem? (i := 410) (by decide +kernel), by decide +kernel⟩
theorem wd_40 : Cond.instanceMethod yX1_left ∈ m_gd := List.mem_filter.mpr ⟨List.mem_of_getElem? (i := 411) (by decide +kernel), by decide +kernel⟩
theorem wd_41 : Cond.selects RX1 yX1_left yX1_left ∈ m_gd := List.mem_filter.mpr ⟨List.mem_of_getElem? (i := 412) (by decide +kernel), by decide +kernel⟩
theorem wd_42 : Cond.initialized RX1 ∈ m_gd := List.mem_filter.mpr ⟨List.mem_of_getElem? (i := 45) (by decide +kernel), by decide +kernel⟩
theorem wd_43 : Cond.code yX1_left cX1_left 1 (some .int) ∈ m_gd := List.mem_filter.mpr ⟨List.mem_of_getElem? (i := 413) (by decide +kernel), by decide +kernel⟩
theorem wn_44 : Cond.methodLinkNest RX1 37 yX5_at "CardSheets" ∈ m_nest := List.mem_filter.mpr ⟨List.mem_of_getElem? (i := 418) (by decide +kernel), by decide +kernel⟩
theorem wd_45 : Cond.static yX5_at ∈ m_gd := List.mem_filter.mpr ⟨List.mem_of_getElem? (i := 246) (by decide +kernel), by decide +kernel⟩
theorem wd_46 : Cond.code yX5_at cX5_at 2 (some .int) ∈ m_gd := List.mem_filter.mpr ⟨List.mem_of_getElem? (i := 247) (by decide +kernel), by decide +kernel⟩
theorem wd_47 : Cond.methodLink RX1 41 yX1_cardAt ∈ m_gd := List.mem_filter.mpr ⟨List.mem_of_getElem? (i := 466) (by decide +kernel), by decide +kernel⟩
theorem wd_48 : Cond.instanceMethod yX1_cardAt ∈ m_gd := List.mem_filter.mpr ⟨List.mem_of_getElem? (i := 421) (by decide +kernel), by decide +kernel⟩
theorem wd_49 : Cond.selects RX1 yX1_cardAt yX1_cardAt ∈ m_gd := List.mem_filter.mpr ⟨List.mem_of_getElem? (i := 422) (by decide +kernel), by decide +kernel⟩
theorem wd_50 : Cond.code yX1_cardAt cX1_cardAt 2 (some .int) ∈ m_gd := List.mem_filter.mpr ⟨List.mem_of_getElem? (i := 423) (by decide +kernel), by decide +kernel⟩
theorem wn_51 : Cond.methodLinkNest RX1 45 yX5_put "CardSheets" ∈ m_nest := List.mem_filter.mpr ⟨List.mem_of_getElem? (i := 419) (by decide +kernel), by decide +kernel⟩
theorem wd_52 : Cond.static yX5_put ∈ m_gd := List.mem_filter.mpr ⟨List.mem_of_getElem? (i := 249) (by decide +kernel), by decide +kernel⟩
theorem wd_53 : Cond.code yX5_put cX5_put 3 none ∈ m_gd := List.mem_filter.mpr ⟨List.mem_of_getElem? (i := 250) (by decide +kernel), by decide +kernel⟩
theorem wn_54 : Cond.methodLinkNest RX1 49 yX5_placeBefore "CardSheets" ∈ m_nest := List.mem_filter.mpr ⟨List.mem_of_getElem? (i := 432) (by decide +kernel), by decide +kernel⟩
theorem wd_55 : Cond.static yX5_placeBefore ∈ m_gd := List.mem_filter.mpr ⟨List.mem_of_getElem? (i := 433) (by decide +kernel), by decide +kernel⟩
theorem wd_56 : Cond.code yX5_placeBefore cX5_placeBefore 4 (some .int) ∈ m_gd := List.mem_filter.mpr ⟨List.mem_of_getElem? (i := 434) (by decide +kernel), by decide +kernel⟩
theorem wd_57 : Cond.fieldLink RX1 53 RX2 (TX2 1).2.1 (TX2 1).2.2.1 ∈ m_gd := List.mem_filter.mpr ⟨List.mem_of_getElem? (i := 355) (by decide +kernel), by decide +kernel⟩
theorem wd_58 : Cond.methodLink RX1 56 yX1_marksOf ∈ m_gd := List.mem_filter.mpr ⟨List.mem_of_getElem? (i := 467) (by decide +kernel), by decide +kernel⟩
theorem wd_59 : Cond.instanceMethod yX1_marksOf ∈ m_gd := List.mem_filter.mpr ⟨List.mem_of_getElem? (i := 468) (by decide +kernel), by decide +kernel⟩
theorem wd_60 : Cond.selects RX1 yX1_marksOf yX1_marksOf ∈ m_gd := List.mem_filter.mpr ⟨List.mem_of_getElem? (i := 469) (by decide +kernel), by decide +kernel⟩
theorem wd_61 : Cond.code yX1_marksOf cX1_marksOf 2 (some .int) ∈ m_gd := List.mem_filter.mpr ⟨List.mem_of_getElem? (i := 470) (by decide +kernel), by decide +kernel⟩
theorem wd_62 : Cond.methodLink RX1 59 yX1_marksAt ∈ m_gd := List.mem_filter.mpr ⟨List.mem_of_getElem? (i := 462) (by decide +kernel), by decide +kernel⟩
theorem wd_63 : Cond.instanceMethod yX1_marksAt ∈ m_gd := List.mem_filter.mpr ⟨List.mem_of_getElem? (i := 463) (by decide +kernel), by decide +kernel⟩
theorem wd_64 : Cond.selects RX1 yX1_marksAt yX1_marksAt ∈ m_gd := List.mem_filter.mpr ⟨List.mem_of_getElem? (i := 464) (by decide +kernel), by decide +kernel⟩
theorem wd_65 : Cond.code yX1_marksAt cX1_marksAt 2 (some .int) ∈ m_gd := List.mem_filter.mpr ⟨List.mem_of_getElem? (i := 465) (by decide +kernel), by decide +kernel⟩
theorem wd_66 : Cond.methodLink RX1 62 Lib.Math.min.name ∈ m_gd := List.mem_filter.mpr ⟨List.mem_of_getElem? (i := 543) (by decide +kernel), by decide +kernel⟩
theorem wd_67 : Cond.methodLink RX1 67 yX1_canBeAt ∈ m_gd := List.mem_filter.mpr ⟨List.mem_of_getElem? (i := 458) (by decide +kernel), by decide +kernel⟩
theorem wd_68 : Cond.instanceMethod yX1_canBeAt ∈ m_gd := List.mem_filter.mpr ⟨List.mem_of_getElem? (i := 459) (by decide +kernel), by decide +kernel⟩
theorem wd_69 : Cond.selects RX1 yX1_canBeAt yX1_canBeAt ∈ m_gd := List.mem_filter.mpr ⟨List.mem_of_getElem? (i := 460) (by decide +kernel), by decide +kernel⟩
theorem wd_70 : Cond.code yX1_canBeAt cX1_canBeAt 5 (some .int) ∈ m_gd := List.mem_filter.mpr ⟨List.mem_of_getElem? (i := 461) (by decide +kernel), by decide +kernel⟩
theorem wd_71 : Cond.methodLink RX1 70 yX1_guessAt ∈ m_gd := List.mem_filter.mpr ⟨List.mem_of_getElem? (i := 553) (by decide +kernel), by decide +kernel⟩
theorem wd_72 : Cond.instanceMethod yX1_guessAt ∈ m_gd := List.mem_filter.mpr ⟨List.mem_of_getElem? (i := 540) (by decide +kernel), by decide +kernel⟩
theorem wd_73 : Cond.selects RX1 yX1_guessAt yX1_guessAt ∈ m_gd := List.mem_filter.mpr ⟨List.mem_of_getElem? (i := 541) (by decide +kernel), by decide +kernel⟩
theorem wd_74 : Cond.code yX1_guessAt cX1_guessAt 5 (some .int) ∈ m_gd := List.mem_filter.mpr ⟨List.mem_of_getElem? (i := 542) (by decide +kernel), by decide +kernel⟩
theorem wd_75 : Cond.methodLink RX2 3 Lib.objectInit ∈ m_gd := List.mem_filter.mpr ⟨List.mem_of_getElem? (i := 348) (by decide +kernel), by decide +kernel⟩
theorem wd_76 : Cond.fieldLink RX2 9 RX2 (TX2 0).2.1 (TX2 0).2.2.1 ∈ m_gd := List.mem_filter.mpr ⟨List.mem_of_getElem? (i := 352) (by decide +kernel), by decide +kernel⟩
theorem wd_77 : Cond.fieldLink RX2 15 RX2 (TX2 1).2.1 (TX2 1).2.2.1 ∈ m_gd := List.mem_filter.mpr ⟨List.mem_of_getElem? (i := 354) (by decide +kernel), by decide +kernel⟩
theorem wd_78 : Cond.fieldLink RX2 18 RX2 (TX2 2).2.1 (TX2 2).2.2.1 ∈ m_gd := List.mem_filter.mpr ⟨List.mem_of_getElem? (i := 357) (by decide +kernel), by decide +kernel⟩
theorem wn_79 : Cond.methodLinkNest RX2 21 yX5_copyRow "CardSheets" ∈ m_nest := List.mem_filter.mpr ⟨List.mem_of_getElem? (i := 349) (by decide +kernel), by decide +kernel⟩
theorem wn_80 : Cond.methodLinkNest RX2 25 yX5_at "CardSheets" ∈ m_nest := List.mem_filter.mpr ⟨List.mem_of_getElem? (i := 350) (by decide +kernel), by decide +kernel⟩
theorem wn_81 : Cond.methodLinkNest RX2 29 yX5_put "CardSheets" ∈ m_nest := List.mem_filter.mpr ⟨List.mem_of_getElem? (i := 351) (by decide +kernel), by decide +kernel⟩
theorem wn_82 : Cond.methodLinkNest RX2 33 yX5_cellAt "CardSheets" ∈ m_nest := List.mem_filter.mpr ⟨List.mem_of_getElem? (i := 396) (by decide +kernel), by decide +kernel⟩
theorem wd_83 : Cond.static yX5_cellAt ∈ m_gd := List.mem_filter.mpr ⟨List.mem_of_getElem? (i := 397) (by decide +kernel), by decide +kernel⟩
theorem wd_84 : Cond.code yX5_cellAt cX5_cellAt 4 (some .int) ∈ m_gd := List.mem_filter.mpr ⟨List.mem_of_getElem? (i := 398) (by decide +kernel), by decide +kernel⟩
theorem wd_85 : Cond.methodLink RX2 37 yX2_cardCutTo ∈ m_gd := List.mem_filter.mpr ⟨List.mem_of_getElem? (i := 598) (by decide +kernel), by decide +kernel⟩
theorem wd_86 : Cond.methodLink RX3 3 Lib.objectInit ∈ m_gd := List.mem_filter.mpr ⟨List.mem_of_getElem? (i := 66) (by decide +kernel), by decide +kernel⟩
theorem wd_87 : Cond.fieldLink RX3 9 RX3 (TX3 0).2.1 (TX3 0).2.2.1 ∈ m_gd := List.mem_filter.mpr ⟨List.mem_of_getElem? (i := 100) (by decide +kernel), by decide +kernel⟩
theorem wd_88 : Cond.fieldLink RX3 15 RX3 (TX3 1).2.1 (TX3 1).2.2.1 ∈ m_gd := List.mem_filter.mpr ⟨List.mem_of_getElem? (i := 102) (by decide +kernel), by decide +kernel⟩
theorem wd_89 : Cond.fieldLink RX3 18 RX3 (TX3 2).2.1 (TX3 2).2.2.1 ∈ m_gd := List.mem_filter.mpr ⟨List.mem_of_getElem? (i := 104) (by decide +kernel), by decide +kernel⟩
theorem wd_90 : Cond.fieldLink RX3 21 RX3 (TX3 3).2.1 (TX3 3).2.2.1 ∈ m_gd := List.mem_filter.mpr ⟨List.mem_of_getElem? (i := 106) (by decide +kernel), by decide +kernel⟩
theorem wd_91 : Cond.classLink RX3 24 RX2 ∈ m_gd := List.mem_filter.mpr ⟨List.mem_of_getElem? (i := 67) (by decide +kernel), by decide +kernel⟩
theorem wd_92 : Cond.fieldLink RX3 26 RX3 (TX3 4).2.1 (TX3 4).2.2.1 ∈ m_gd := List.mem_filter.mpr ⟨List.mem_of_getElem? (i := 108) (by decide +kernel), by decide +kernel⟩
theorem wd_93 : Cond.classLink RX3 30 RX1 ∈ m_gd := List.mem_filter.mpr ⟨List.mem_of_getElem? (i := 69) (by decide +kernel), by decide +kernel⟩
theorem wd_94 : Cond.instantiable RX1 3 ∈ m_gd := List.mem_filter.mpr ⟨List.mem_of_getElem? (i := 70) (by decide +kernel), by decide +kernel⟩
theorem wn_95 : Cond.methodLinkNest RX3 32 yX1_init "CardSheets" ∈ m_nest := List.mem_filter.mpr ⟨List.mem_of_getElem? (i := 71) (by decide +kernel), by decide +kernel⟩
theorem wd_96 : Cond.instanceMethod yX1_init ∈ m_gd := List.mem_filter.mpr ⟨List.mem_of_getElem? (i := 72) (by decide +kernel), by decide +kernel⟩
theorem wd_97 : Cond.code yX1_init cX1_init 1 none ∈ m_gd := List.mem_filter.mpr ⟨List.mem_of_getElem? (i := 73) (by decide +kernel), by decide +kernel⟩
theorem wd_98 : Cond.fieldLink RX3 33 RX3 (TX3 5).2.1 (TX3 5).2.2.1 ∈ m_gd := List.mem_filter.mpr ⟨List.mem_of_getElem? (i := 109) (by decide +kernel), by decide +kernel⟩
theorem wd_99 : Cond.fieldLink RX3 37 RX3 (TX3 6).2.1 (TX3 6).2.2.1 ∈ m_gd := List.mem_filter.mpr ⟨List.mem_of_getElem? (i := 111) (by decide +kernel), by decide +kernel⟩
theorem wd_100 : Cond.fieldLink RX3 41 RX3 (TX3 7).2.1 (TX3 7).2.2.1 ∈ m_gd := List.mem_filter.mpr ⟨List.mem_of_getElem? (i := 113) (by decide +kernel), by decide +kernel⟩
theorem wd_101 : Cond.fieldLink RX3 44 RX3 (TX3 8).2.1 (TX3 8).2.2.1 ∈ m_gd := List.mem_filter.mpr ⟨List.mem_of_getElem? (i := 115) (by decide +kernel), by decide +kernel⟩
theorem wd_102 : Cond.fieldLink RX3 47 RX3 (TX3 9).2.1 (TX3 9).2.2.1 ∈ m_gd := List.mem_filter.mpr ⟨List.mem_of_getElem? (i := 117) (by decide +kernel), by decide +kernel⟩
theorem wd_103 : Cond.fieldLink RX3 50 RX3 (TX3 10).2.1 (TX3 10).2.2.1 ∈ m_gd := List.mem_filter.mpr ⟨List.mem_of_getElem? (i := 119) (by decide +kernel), by decide +kernel⟩
theorem wn_104 : Cond.fieldLinkNest RX3 53 "CardSheets" "FIRST_OF_SETTING" "[I" "CardSheets" ∈ m_nest := List.mem_filter.mpr ⟨List.mem_of_getElem? (i := 89) (by decide +kernel), by decide +kernel⟩
theorem wn_105 : Cond.methodLinkNest RX3 56 yX5_copyRow "CardSheets" ∈ m_nest := List.mem_filter.mpr ⟨List.mem_of_getElem? (i := 91) (by decide +kernel), by decide +kernel⟩
theorem wd_106 : Cond.methodLink RX3 60 yX1_copyFrom ∈ m_gd := List.mem_filter.mpr ⟨List.mem_of_getElem? (i := 235) (by decide +kernel), by decide +kernel⟩
theorem wd_107 : Cond.instanceMethod yX1_copyFrom ∈ m_gd := List.mem_filter.mpr ⟨List.mem_of_getElem? (i := 236) (by decide +kernel), by decide +kernel⟩
theorem wd_108 : Cond.selects RX1 yX1_copyFrom yX1_copyFrom ∈ m_gd := List.mem_filter.mpr ⟨List.mem_of_getElem? (i := 237) (by decide +kernel), by decide +kernel⟩
theorem wd_109 : Cond.code yX1_copyFrom cX1_copyFrom 2 none ∈ m_gd := List.mem_filter.mpr ⟨List.mem_of_getElem? (i := 238) (by decide +kernel), by decide +kernel⟩
theorem wn_110 : Cond.methodLinkNest RX3 64 yX5_at "CardSheets" ∈ m_nest := List.mem_filter.mpr ⟨List.mem_of_getElem? (i := 245) (by decide +kernel), by decide +kernel⟩
theorem wn_111 : Cond.methodLinkNest RX3 68 yX5_put "CardSheets" ∈ m_nest := List.mem_filter.mpr ⟨List.mem_of_getElem? (i := 248) (by decide +kernel), by decide +kernel⟩
theorem wd_112 : Cond.methodLink RX3 72 yJ6_bitCount_0f7a4 ∈ m_gd := List.mem_filter.mpr ⟨List.mem_of_getElem? (i := 558) (by decide +kernel), by decide +kernel⟩
theorem wd_113 : Cond.static yJ6_bitCount_0f7a4 ∈ m_gd := List.mem_filter.mpr ⟨List.mem_of_getElem? (i := 559) (by decide +kernel), by decide +kernel⟩
theorem wd_114 : Cond.initialized "java/lang/Integer" ∈ m_gd := List.mem_filter.mpr ⟨List.mem_of_getElem? (i := 52) (by decide +kernel), by decide +kernel⟩
theorem wd_115 : Cond.code yJ6_bitCount_0f7a4 cJ6_bitCount_0f7a4 1 (some .int) ∈ m_gd := List.mem_filter.mpr ⟨List.mem_of_getElem? (i := 560) (by decide +kernel), by decide +kernel⟩
theorem wd_116 : Cond.instantiable RX2 3 ∈ m_gd := List.mem_filter.mpr ⟨List.mem_of_getElem? (i := 344) (by decide +kernel), by decide +kernel⟩
theorem wd_117 : Cond.methodLink RX3 78 yX2_init ∈ m_gd := List.mem_filter.mpr ⟨List.mem_of_getElem? (i := 345) (by decide +kernel), by decide +kernel⟩
theorem wd_118 : Cond.instanceMethod yX2_init ∈ m_gd := List.mem_filter.mpr ⟨List.mem_of_getElem? (i := 346) (by decide +kernel), by decide +kernel⟩
theorem wd_119 : Cond.code yX2_init cX2_init 6 none ∈ m_gd := List.mem_filter.mpr ⟨List.mem_of_getElem? (i := 347) (by decide +kernel), by decide +kernel⟩
theorem wd_120 : Cond.methodLink RX3 81 yX3_wear ∈ m_gd := List.mem_filter.mpr ⟨List.mem_of_getElem? (i := 366) (by decide +kernel), by decide +kernel⟩
theorem wd_121 : Cond.instanceMethod yX3_wear ∈ m_gd := List.mem_filter.mpr ⟨List.mem_of_getElem? (i := 368) (by decide +kernel), by decide +kernel⟩
theorem wd_122 : Cond.selects RX3 yX3_wear yX3_wear ∈ m_gd := List.mem_filter.mpr ⟨List.mem_of_getElem? (i := 8) (by decide +kernel), by decide +kernel⟩
theorem wd_123 : Cond.code yX3_wear cX3_wear 2 none ∈ m_gd := List.mem_filter.mpr ⟨List.mem_of_getElem? (i := 369) (by decide +kernel), by decide +kernel⟩
theorem wd_124 : Cond.methodLink RX3 84 yX3_setMark ∈ m_gd := List.mem_filter.mpr ⟨List.mem_of_getElem? (i := 370) (by decide +kernel), by decide +kernel⟩
theorem wd_125 : Cond.instanceMethod yX3_setMark ∈ m_gd := List.mem_filter.mpr ⟨List.mem_of_getElem? (i := 264) (by decide +kernel), by decide +kernel⟩
theorem wd_126 : Cond.selects RX3 yX3_setMark yX3_setMark ∈ m_gd := List.mem_filter.mpr ⟨List.mem_of_getElem? (i := 265) (by decide +kernel), by decide +kernel⟩
theorem wd_127 : Cond.code yX3_setMark cX3_setMark 5 none ∈ m_gd := List.mem_filter.mpr ⟨List.mem_of_getElem? (i := 266) (by decide +kernel), by decide +kernel⟩
theorem wd_128 : Cond.methodLink RX3 88 yX3_sheetAt ∈ m_gd := List.mem_filter.mpr ⟨List.mem_of_getElem? (i := 387) (by decide +kernel), by decide +kernel⟩
theorem wd_129 : Cond.instanceMethod yX3_sheetAt ∈ m_gd := List.mem_filter.mpr ⟨List.mem_of_getElem? (i := 380) (by decide +kernel), by decide +kernel⟩
theorem wd_130 : Cond.selects RX3 yX3_sheetAt yX3_sheetAt ∈ m_gd := List.mem_filter.mpr ⟨List.mem_of_getElem? (i := 381) (by decide +kernel), by decide +kernel⟩
theorem wd_131 : Cond.code yX3_sheetAt cX3_sheetAt 2 (some (.object "CardSheets$Sheet")) ∈ m_gd := List.mem_filter.mpr ⟨List.mem_of_getElem? (i := 382) (by decide +kernel), by decide +kernel⟩
theorem wd_132 : Cond.fieldLink RX3 92 RX1 (TX1 1).2.1 (TX1 1).2.2.1 ∈ m_gd := List.mem_filter.mpr ⟨List.mem_of_getElem? (i := 77) (by decide +kernel), by decide +kernel⟩
theorem wd_133 : Cond.fieldLink RX3 96 RX1 (TX1 2).2.1 (TX1 2).2.2.1 ∈ m_gd := List.mem_filter.mpr ⟨List.mem_of_getElem? (i := 80) (by decide +kernel), by decide +kernel⟩
theorem wd_134 : Cond.fieldLink RX3 99 RX2 (TX2 2).2.1 (TX2 2).2.2.1 ∈ m_gd := List.mem_filter.mpr ⟨List.mem_of_getElem? (i := 358) (by decide +kernel), by decide +kernel⟩
theorem wn_135 : Cond.methodLinkNest RX3 100 yX5_courtsBeyond "CardSheets" ∈ m_nest := List.mem_filter.mpr ⟨List.mem_of_getElem? (i := 448) (by decide +kernel), by decide +kernel⟩
theorem wd_136 : Cond.static yX5_courtsBeyond ∈ m_gd := List.mem_filter.mpr ⟨List.mem_of_getElem? (i := 449) (by decide +kernel), by decide +kernel⟩
theorem wd_137 : Cond.code yX5_courtsBeyond cX5_courtsBeyond 4 (some .int) ∈ m_gd := List.mem_filter.mpr ⟨List.mem_of_getElem? (i := 450) (by decide +kernel), by decide +kernel⟩
theorem wd_138 : Cond.methodLink RX3 103 yX1_known ∈ m_gd := List.mem_filter.mpr ⟨List.mem_of_getElem? (i := 454) (by decide +kernel), by decide +kernel⟩
theorem wd_139 : Cond.instanceMethod yX1_known ∈ m_gd := List.mem_filter.mpr ⟨List.mem_of_getElem? (i := 455) (by decide +kernel), by decide +kernel⟩
theorem wd_140 : Cond.selects RX1 yX1_known yX1_known ∈ m_gd := List.mem_filter.mpr ⟨List.mem_of_getElem? (i := 456) (by decide +kernel), by decide +kernel⟩
theorem wd_141 : Cond.code yX1_known cX1_known 3 (some .int) ∈ m_gd := List.mem_filter.mpr ⟨List.mem_of_getElem? (i := 457) (by decide +kernel), by decide +kernel⟩
theorem wd_142 : Cond.methodLink RX4 3 Lib.objectInit ∈ m_gd := List.mem_filter.mpr ⟨List.mem_of_getElem? (i := 169) (by decide +kernel), by decide +kernel⟩
theorem wd_143 : Cond.arrayClass .char ∈ m_gd := List.mem_filter.mpr ⟨List.mem_of_getElem? (i := 196) (by decide +kernel), by decide +kernel⟩
theorem wd_144 : Cond.fieldLink RX4 9 RX4 (TX4 0).2.1 (TX4 0).2.2.1 ∈ m_gd := List.mem_filter.mpr ⟨List.mem_of_getElem? (i := 170) (by decide +kernel), by decide +kernel⟩
theorem wd_145 : Cond.fieldLink RX4 15 RX4 (TX4 1).2.1 (TX4 1).2.2.1 ∈ m_gd := List.mem_filter.mpr ⟨List.mem_of_getElem? (i := 171) (by decide +kernel), by decide +kernel⟩
theorem wd_146 : Cond.fieldLink RX4 19 RX4 (TX4 2).2.1 (TX4 2).2.2.1 ∈ m_gd := List.mem_filter.mpr ⟨List.mem_of_getElem? (i := 173) (by decide +kernel), by decide +kernel⟩
theorem wd_147 : Cond.fieldLink RX4 22 RX4 (TX4 3).2.1 (TX4 3).2.2.1 ∈ m_gd := List.mem_filter.mpr ⟨List.mem_of_getElem? (i := 174) (by decide +kernel), by decide +kernel⟩
theorem wd_148 : Cond.fieldLink RX4 25 RX4 (TX4 4).2.1 (TX4 4).2.2.1 ∈ m_gd := List.mem_filter.mpr ⟨List.mem_of_getElem? (i := 175) (by decide +kernel), by decide +kernel⟩
theorem wd_149 : Cond.fieldLink RX4 29 RX4 (TX4 5).2.1 (TX4 5).2.2.1 ∈ m_gd := List.mem_filter.mpr ⟨List.mem_of_getElem? (i := 177) (by decide +kernel), by decide +kernel⟩
theorem wd_150 : Cond.fieldLink RX4 32 RX4 (TX4 6).2.1 (TX4 6).2.2.1 ∈ m_gd := List.mem_filter.mpr ⟨List.mem_of_getElem? (i := 179) (by decide +kernel), by decide +kernel⟩
theorem wd_151 : Cond.methodLink RX4 35 yX4_readChange ∈ m_gd := List.mem_filter.mpr ⟨List.mem_of_getElem? (i := 286) (by decide +kernel), by decide +kernel⟩
theorem wd_152 : Cond.instanceMethod yX4_readChange ∈ m_gd := List.mem_filter.mpr ⟨List.mem_of_getElem? (i := 288) (by decide +kernel), by decide +kernel⟩
theorem wd_153 : Cond.selects RX4 yX4_readChange yX4_readChange ∈ m_gd := List.mem_filter.mpr ⟨List.mem_of_getElem? (i := 1) (by decide +kernel), by decide +kernel⟩
theorem wd_154 : Cond.initialized RX4 ∈ m_gd := List.mem_filter.mpr ⟨List.mem_of_getElem? (i := 49) (by decide +kernel), by decide +kernel⟩
theorem wd_155 : Cond.code yX4_readChange cX4_readChange 5 (some .boolean) ∈ m_gd := List.mem_filter.mpr ⟨List.mem_of_getElem? (i := 289) (by decide +kernel), by decide +kernel⟩
theorem wd_156 : Cond.methodLink RX4 39 yX4_take ∈ m_gd := List.mem_filter.mpr ⟨List.mem_of_getElem? (i := 302) (by decide +kernel), by decide +kernel⟩
theorem wd_157 : Cond.instanceMethod yX4_take ∈ m_gd := List.mem_filter.mpr ⟨List.mem_of_getElem? (i := 304) (by decide +kernel), by decide +kernel⟩
theorem wd_158 : Cond.selects RX4 yX4_take yX4_take ∈ m_gd := List.mem_filter.mpr ⟨List.mem_of_getElem? (i := 5) (by decide +kernel), by decide +kernel⟩
theorem wd_159 : Cond.code yX4_take cX4_take 2 (some .boolean) ∈ m_gd := List.mem_filter.mpr ⟨List.mem_of_getElem? (i := 305) (by decide +kernel), by decide +kernel⟩
theorem wd_160 : Cond.methodLink RX4 43 yX4_kindOf ∈ m_gd := List.mem_filter.mpr ⟨List.mem_of_getElem? (i := 317) (by decide +kernel), by decide +kernel⟩
theorem wd_161 : Cond.instanceMethod yX4_kindOf ∈ m_gd := List.mem_filter.mpr ⟨List.mem_of_getElem? (i := 318) (by decide +kernel), by decide +kernel⟩
theorem wd_162 : Cond.selects RX4 yX4_kindOf yX4_kindOf ∈ m_gd := List.mem_filter.mpr ⟨List.mem_of_getElem? (i := 319) (by decide +kernel), by decide +kernel⟩
theorem wd_163 : Cond.code yX4_kindOf cX4_kindOf 2 (some .char) ∈ m_gd := List.mem_filter.mpr ⟨List.mem_of_getElem? (i := 320) (by decide +kernel), by decide +kernel⟩
theorem wn_164 : Cond.methodLinkNest RX4 47 yX5_at "CardSheets" ∈ m_nest := List.mem_filter.mpr ⟨List.mem_of_getElem? (i := 321) (by decide +kernel), by decide +kernel⟩
theorem wn_165 : Cond.methodLinkNest RX4 51 yX5_isCourt "CardSheets" ∈ m_nest := List.mem_filter.mpr ⟨List.mem_of_getElem? (i := 322) (by decide +kernel), by decide +kernel⟩
theorem wd_166 : Cond.static yX5_isCourt ∈ m_gd := List.mem_filter.mpr ⟨List.mem_of_getElem? (i := 275) (by decide +kernel), by decide +kernel⟩
theorem wd_167 : Cond.code yX5_isCourt cX5_isCourt 1 (some .boolean) ∈ m_gd := List.mem_filter.mpr ⟨List.mem_of_getElem? (i := 276) (by decide +kernel), by decide +kernel⟩
theorem wd_168 : Cond.methodLink RX4 55 yX4_nextSign ∈ m_gd := List.mem_filter.mpr ⟨List.mem_of_getElem? (i := 290) (by decide +kernel), by decide +kernel⟩
theorem wd_169 : Cond.instanceMethod yX4_nextSign ∈ m_gd := List.mem_filter.mpr ⟨List.mem_of_getElem? (i := 292) (by decide +kernel), by decide +kernel⟩
theorem wd_170 : Cond.selects RX4 yX4_nextSign yX4_nextSign ∈ m_gd := List.mem_filter.mpr ⟨List.mem_of_getElem? (i := 2) (by decide +kernel), by decide +kernel⟩
theorem wd_171 : Cond.code yX4_nextSign cX4_nextSign 1 (some .char) ∈ m_gd := List.mem_filter.mpr ⟨List.mem_of_getElem? (i := 293) (by decide +kernel), by decide +kernel⟩
theorem wd_172 : Cond.methodLink RX4 59 yX4_readNumber ∈ m_gd := List.mem_filter.mpr ⟨List.mem_of_getElem? (i := 294) (by decide +kernel), by decide +kernel⟩
theorem wd_173 : Cond.instanceMethod yX4_readNumber ∈ m_gd := List.mem_filter.mpr ⟨List.mem_of_getElem? (i := 296) (by decide +kernel), by decide +kernel⟩
theorem wd_174 : Cond.selects RX4 yX4_readNumber yX4_readNumber ∈ m_gd := List.mem_filter.mpr ⟨List.mem_of_getElem? (i := 3) (by decide +kernel), by decide +kernel⟩
theorem wd_175 : Cond.code yX4_readNumber cX4_readNumber 5 (some .int) ∈ m_gd := List.mem_filter.mpr ⟨List.mem_of_getElem? (i := 297) (by decide +kernel), by decide +kernel⟩
theorem wd_176 : Cond.methodLink RX4 63 yX4_mostBehind ∈ m_gd := List.mem_filter.mpr ⟨List.mem_of_getElem? (i := 306) (by decide +kernel), by decide +kernel⟩
theorem wd_177 : Cond.static yX4_mostBehind ∈ m_gd := List.mem_filter.mpr ⟨List.mem_of_getElem? (i := 307) (by decide +kernel), by decide +kernel⟩
theorem wd_178 : Cond.code yX4_mostBehind cX4_mostBehind 1 (some .int) ∈ m_gd := List.mem_filter.mpr ⟨List.mem_of_getElem? (i := 308) (by decide +kernel), by decide +kernel⟩
theorem wd_179 : Cond.methodLink RX4 67 yX4_addChange ∈ m_gd := List.mem_filter.mpr ⟨List.mem_of_getElem? (i := 309) (by decide +kernel), by decide +kernel⟩
theorem wd_180 : Cond.instanceMethod yX4_addChange ∈ m_gd := List.mem_filter.mpr ⟨List.mem_of_getElem? (i := 311) (by decide +kernel), by decide +kernel⟩
theorem wd_181 : Cond.selects RX4 yX4_addChange yX4_addChange ∈ m_gd := List.mem_filter.mpr ⟨List.mem_of_getElem? (i := 6) (by decide +kernel), by decide +kernel⟩
theorem wd_182 : Cond.code yX4_addChange cX4_addChange 4 none ∈ m_gd := List.mem_filter.mpr ⟨List.mem_of_getElem? (i := 312) (by decide +kernel), by decide +kernel⟩
theorem wd_183 : Cond.methodLink RX4 71 yX4_nextDigit ∈ m_gd := List.mem_filter.mpr ⟨List.mem_of_getElem? (i := 298) (by decide +kernel), by decide +kernel⟩
theorem wd_184 : Cond.instanceMethod yX4_nextDigit ∈ m_gd := List.mem_filter.mpr ⟨List.mem_of_getElem? (i := 300) (by decide +kernel), by decide +kernel⟩
theorem wd_185 : Cond.selects RX4 yX4_nextDigit yX4_nextDigit ∈ m_gd := List.mem_filter.mpr ⟨List.mem_of_getElem? (i := 4) (by decide +kernel), by decide +kernel⟩
theorem wd_186 : Cond.code yX4_nextDigit cX4_nextDigit 2 (some .int) ∈ m_gd := List.mem_filter.mpr ⟨List.mem_of_getElem? (i := 301) (by decide +kernel), by decide +kernel⟩
theorem wd_187 : Cond.methodLink RX5 1 Lib.objectInit ∈ m_gd := List.mem_filter.mpr ⟨List.mem_of_getElem? (i := 58) (by decide +kernel), by decide +kernel⟩
theorem wd_188 : Cond.classLink RX5 7 RX3 ∈ m_gd := List.mem_filter.mpr ⟨List.mem_of_getElem? (i := 61) (by decide +kernel), by decide +kernel⟩
theorem wd_189 : Cond.methodLink RX5 9 yX3_init ∈ m_gd := List.mem_filter.mpr ⟨List.mem_of_getElem? (i := 63) (by decide +kernel), by decide +kernel⟩
theorem wd_190 : Cond.fieldLink RX5 10 RX5 (TX5 0).2.1 (TX5 0).2.2.1 ∈ m_gd := List.mem_filter.mpr ⟨List.mem_of_getElem? (i := 197) (by decide +kernel), by decide +kernel⟩
theorem wd_191 : Cond.fieldLink RX5 16 RX5 (TX5 1).2.1 (TX5 1).2.2.1 ∈ m_gd := List.mem_filter.mpr ⟨List.mem_of_getElem? (i := 198) (by decide +kernel), by decide +kernel⟩
theorem wd_192 : Cond.classLink RX5 19 RX0 ∈ m_gd := List.mem_filter.mpr ⟨List.mem_of_getElem? (i := 144) (by decide +kernel), by decide +kernel⟩
theorem wd_193 : Cond.instantiable RX0 3 ∈ m_gd := List.mem_filter.mpr ⟨List.mem_of_getElem? (i := 145) (by decide +kernel), by decide +kernel⟩
theorem wd_194 : Cond.methodLink RX5 21 yX0_init ∈ m_gd := List.mem_filter.mpr ⟨List.mem_of_getElem? (i := 146) (by decide +kernel), by decide +kernel⟩
theorem wd_195 : Cond.instanceMethod yX0_init ∈ m_gd := List.mem_filter.mpr ⟨List.mem_of_getElem? (i := 147) (by decide +kernel), by decide +kernel⟩
theorem wd_196 : Cond.code yX0_init cX0_init 2 none ∈ m_gd := List.mem_filter.mpr ⟨List.mem_of_getElem? (i := 148) (by decide +kernel), by decide +kernel⟩
theorem wd_197 : Cond.fieldLink RX5 22 RX5 (TX5 2).2.1 (TX5 2).2.2.1 ∈ m_gd := List.mem_filter.mpr ⟨List.mem_of_getElem? (i := 199) (by decide +kernel), by decide +kernel⟩
theorem wd_198 : Cond.classLink RX5 26 RX4 ∈ m_gd := List.mem_filter.mpr ⟨List.mem_of_getElem? (i := 164) (by decide +kernel), by decide +kernel⟩
theorem wd_199 : Cond.instantiable RX4 7 ∈ m_gd := List.mem_filter.mpr ⟨List.mem_of_getElem? (i := 165) (by decide +kernel), by decide +kernel⟩
theorem wn_200 : Cond.methodLinkNest RX5 28 yX4_init "CardSheets" ∈ m_nest := List.mem_filter.mpr ⟨List.mem_of_getElem? (i := 166) (by decide +kernel), by decide +kernel⟩
theorem wd_201 : Cond.instanceMethod yX4_init ∈ m_gd := List.mem_filter.mpr ⟨List.mem_of_getElem? (i := 167) (by decide +kernel), by decide +kernel⟩
theorem wd_202 : Cond.code yX4_init cX4_init 1 none ∈ m_gd := List.mem_filter.mpr ⟨List.mem_of_getElem? (i := 168) (by decide +kernel), by decide +kernel⟩
theorem wd_203 : Cond.fieldLink RX5 29 RX5 (TX5 3).2.1 (TX5 3).2.2.1 ∈ m_gd := List.mem_filter.mpr ⟨List.mem_of_getElem? (i := 200) (by decide +kernel), by decide +kernel⟩
theorem wd_204 : Cond.fieldLink RX5 33 RX5 (TX5 4).2.1 (TX5 4).2.2.1 ∈ m_gd := List.mem_filter.mpr ⟨List.mem_of_getElem? (i := 201) (by decide +kernel), by decide +kernel⟩
theorem wd_205 : Cond.fieldLink RX5 37 RX5 (TX5 5).2.1 (TX5 5).2.2.1 ∈ m_gd := List.mem_filter.mpr ⟨List.mem_of_getElem? (i := 202) (by decide +kernel), by decide +kernel⟩
theorem wd_206 : Cond.methodLink RX5 41 yX5_isCell ∈ m_gd := List.mem_filter.mpr ⟨List.mem_of_getElem? (i := 220) (by decide +kernel), by decide +kernel⟩
theorem wd_207 : Cond.static yX5_isCell ∈ m_gd := List.mem_filter.mpr ⟨List.mem_of_getElem? (i := 221) (by decide +kernel), by decide +kernel⟩
theorem wd_208 : Cond.code yX5_isCell cX5_isCell 1 (some .boolean) ∈ m_gd := List.mem_filter.mpr ⟨List.mem_of_getElem? (i := 222) (by decide +kernel), by decide +kernel⟩
theorem wd_209 : Cond.methodLink RX5 45 yX0_record ∈ m_gd := List.mem_filter.mpr ⟨List.mem_of_getElem? (i := 223) (by decide +kernel), by decide +kernel⟩
theorem wd_210 : Cond.instanceMethod yX0_record ∈ m_gd := List.mem_filter.mpr ⟨List.mem_of_getElem? (i := 224) (by decide +kernel), by decide +kernel⟩
theorem wd_211 : Cond.selects RX0 yX0_record yX0_record ∈ m_gd := List.mem_filter.mpr ⟨List.mem_of_getElem? (i := 225) (by decide +kernel), by decide +kernel⟩
theorem wd_212 : Cond.code yX0_record cX0_record 2 none ∈ m_gd := List.mem_filter.mpr ⟨List.mem_of_getElem? (i := 226) (by decide +kernel), by decide +kernel⟩
theorem wd_213 : Cond.methodLink RX5 49 yX3_exchange ∈ m_gd := List.mem_filter.mpr ⟨List.mem_of_getElem? (i := 241) (by decide +kernel), by decide +kernel⟩
theorem wd_214 : Cond.instanceMethod yX3_exchange ∈ m_gd := List.mem_filter.mpr ⟨List.mem_of_getElem? (i := 242) (by decide +kernel), by decide +kernel⟩
theorem wd_215 : Cond.selects RX3 yX3_exchange yX3_exchange ∈ m_gd := List.mem_filter.mpr ⟨List.mem_of_getElem? (i := 243) (by decide +kernel), by decide +kernel⟩
theorem wd_216 : Cond.code yX3_exchange cX3_exchange 4 none ∈ m_gd := List.mem_filter.mpr ⟨List.mem_of_getElem? (i := 244) (by decide +kernel), by decide +kernel⟩
theorem wd_217 : Cond.fieldLink RX5 53 RX3 (TX3 0).2.1 (TX3 0).2.2.1 ∈ m_gd := List.mem_filter.mpr ⟨List.mem_of_getElem? (i := 101) (by decide +kernel), by decide +kernel⟩
theorem wd_218 : Cond.methodLink RX5 56 yX5_at ∈ m_gd := List.mem_filter.mpr ⟨List.mem_of_getElem? (i := 251) (by decide +kernel), by decide +kernel⟩
theorem wd_219 : Cond.methodLink RX5 60 yX5_isMark ∈ m_gd := List.mem_filter.mpr ⟨List.mem_of_getElem? (i := 256) (by decide +kernel), by decide +kernel⟩
theorem wd_220 : Cond.static yX5_isMark ∈ m_gd := List.mem_filter.mpr ⟨List.mem_of_getElem? (i := 257) (by decide +kernel), by decide +kernel⟩
theorem wd_221 : Cond.code yX5_isMark cX5_isMark 1 (some .boolean) ∈ m_gd := List.mem_filter.mpr ⟨List.mem_of_getElem? (i := 258) (by decide +kernel), by decide +kernel⟩
theorem wd_222 : Cond.methodLink RX5 63 yX3_hasMark ∈ m_gd := List.mem_filter.mpr ⟨List.mem_of_getElem? (i := 259) (by decide +kernel), by decide +kernel⟩
theorem wd_223 : Cond.instanceMethod yX3_hasMark ∈ m_gd := List.mem_filter.mpr ⟨List.mem_of_getElem? (i := 260) (by decide +kernel), by decide +kernel⟩
theorem wd_224 : Cond.selects RX3 yX3_hasMark yX3_hasMark ∈ m_gd := List.mem_filter.mpr ⟨List.mem_of_getElem? (i := 261) (by decide +kernel), by decide +kernel⟩
theorem wd_225 : Cond.code yX3_hasMark cX3_hasMark 3 (some .boolean) ∈ m_gd := List.mem_filter.mpr ⟨List.mem_of_getElem? (i := 262) (by decide +kernel), by decide +kernel⟩
theorem wd_226 : Cond.methodLink RX5 67 yX3_setMark ∈ m_gd := List.mem_filter.mpr ⟨List.mem_of_getElem? (i := 263) (by decide +kernel), by decide +kernel⟩
theorem wd_227 : Cond.fieldLink RX5 71 RX3 (TX3 2).2.1 (TX3 2).2.2.1 ∈ m_gd := List.mem_filter.mpr ⟨List.mem_of_getElem? (i := 105) (by decide +kernel), by decide +kernel⟩
theorem wd_228 : Cond.methodLink RX5 74 yX5_isCard ∈ m_gd := List.mem_filter.mpr ⟨List.mem_of_getElem? (i := 271) (by decide +kernel), by decide +kernel⟩
theorem wd_229 : Cond.static yX5_isCard ∈ m_gd := List.mem_filter.mpr ⟨List.mem_of_getElem? (i := 272) (by decide +kernel), by decide +kernel⟩
theorem wd_230 : Cond.code yX5_isCard cX5_isCard 1 (some .boolean) ∈ m_gd := List.mem_filter.mpr ⟨List.mem_of_getElem? (i := 273) (by decide +kernel), by decide +kernel⟩
theorem wd_231 : Cond.methodLink RX5 77 yX5_isCourt ∈ m_gd := List.mem_filter.mpr ⟨List.mem_of_getElem? (i := 274) (by decide +kernel), by decide +kernel⟩
theorem wd_232 : Cond.fieldLink RX5 80 RX3 (TX3 1).2.1 (TX3 1).2.2.1 ∈ m_gd := List.mem_filter.mpr ⟨List.mem_of_getElem? (i := 103) (by decide +kernel), by decide +kernel⟩
theorem wd_233 : Cond.methodLink RX5 83 yX5_put ∈ m_gd := List.mem_filter.mpr ⟨List.mem_of_getElem? (i := 277) (by decide +kernel), by decide +kernel⟩
theorem wd_234 : Cond.methodLink RX5 87 yX4_findFault ∈ m_gd := List.mem_filter.mpr ⟨List.mem_of_getElem? (i := 282) (by decide +kernel), by decide +kernel⟩
theorem wd_235 : Cond.instanceMethod yX4_findFault ∈ m_gd := List.mem_filter.mpr ⟨List.mem_of_getElem? (i := 283) (by decide +kernel), by decide +kernel⟩
theorem wd_236 : Cond.selects RX4 yX4_findFault yX4_findFault ∈ m_gd := List.mem_filter.mpr ⟨List.mem_of_getElem? (i := 284) (by decide +kernel), by decide +kernel⟩
theorem wd_237 : Cond.code yX4_findFault cX4_findFault 2 (some .int) ∈ m_gd := List.mem_filter.mpr ⟨List.mem_of_getElem? (i := 285) (by decide +kernel), by decide +kernel⟩
theorem wd_238 : Cond.methodLink RX5 91 yX4_leansAnotherThanCourts ∈ m_gd := List.mem_filter.mpr ⟨List.mem_of_getElem? (i := 313) (by decide +kernel), by decide +kernel⟩
theorem wd_239 : Cond.instanceMethod yX4_leansAnotherThanCourts ∈ m_gd := List.mem_filter.mpr ⟨List.mem_of_getElem? (i := 314) (by decide +kernel), by decide +kernel⟩
theorem wd_240 : Cond.selects RX4 yX4_leansAnotherThanCourts yX4_leansAnotherThanCourts ∈ m_gd := List.mem_filter.mpr ⟨List.mem_of_getElem? (i := 315) (by decide +kernel), by decide +kernel⟩
theorem wd_241 : Cond.code yX4_leansAnotherThanCourts cX4_leansAnotherThanCourts 2 (some .boolean) ∈ m_gd := List.mem_filter.mpr ⟨List.mem_of_getElem? (i := 316) (by decide +kernel), by decide +kernel⟩
theorem wd_242 : Cond.fieldLink RX5 95 RX4 (TX4 6).2.1 (TX4 6).2.2.1 ∈ m_gd := List.mem_filter.mpr ⟨List.mem_of_getElem? (i := 180) (by decide +kernel), by decide +kernel⟩
theorem wd_243 : Cond.methodLink RX5 99 yX4_kindOf ∈ m_gd := List.mem_filter.mpr ⟨List.mem_of_getElem? (i := 323) (by decide +kernel), by decide +kernel⟩
theorem wd_244 : Cond.fieldLink RX5 103 RX4 (TX4 4).2.1 (TX4 4).2.2.1 ∈ m_gd := List.mem_filter.mpr ⟨List.mem_of_getElem? (i := 176) (by decide +kernel), by decide +kernel⟩
theorem wd_245 : Cond.fieldLink RX5 106 RX4 (TX4 5).2.1 (TX4 5).2.2.1 ∈ m_gd := List.mem_filter.mpr ⟨List.mem_of_getElem? (i := 178) (by decide +kernel), by decide +kernel⟩
theorem wd_246 : Cond.methodLink RX5 109 yX5_doChange ∈ m_gd := List.mem_filter.mpr ⟨List.mem_of_getElem? (i := 324) (by decide +kernel), by decide +kernel⟩
theorem wd_247 : Cond.instanceMethod yX5_doChange ∈ m_gd := List.mem_filter.mpr ⟨List.mem_of_getElem? (i := 326) (by decide +kernel), by decide +kernel⟩
theorem wd_248 : Cond.selects RX5 yX5_doChange yX5_doChange ∈ m_gd := List.mem_filter.mpr ⟨List.mem_of_getElem? (i := 7) (by decide +kernel), by decide +kernel⟩
theorem wd_249 : Cond.code yX5_doChange cX5_doChange 4 none ∈ m_gd := List.mem_filter.mpr ⟨List.mem_of_getElem? (i := 327) (by decide +kernel), by decide +kernel⟩
theorem wd_250 : Cond.fieldLink RX5 113 "CardSheets" "LEAST_OF_SETTING" "[I" ∈ m_gd := List.mem_filter.mpr ⟨List.mem_of_getElem? (i := 332) (by decide +kernel), by decide +kernel⟩
theorem wd_251 : Cond.fieldLink RX5 116 "CardSheets" "MOST_OF_SETTING" "[I" ∈ m_gd := List.mem_filter.mpr ⟨List.mem_of_getElem? (i := 334) (by decide +kernel), by decide +kernel⟩
theorem wd_252 : Cond.fieldLink RX5 119 RX3 (TX3 3).2.1 (TX3 3).2.2.1 ∈ m_gd := List.mem_filter.mpr ⟨List.mem_of_getElem? (i := 107) (by decide +kernel), by decide +kernel⟩
theorem wd_253 : Cond.fieldLink RX5 122 RX3 (TX3 6).2.1 (TX3 6).2.2.1 ∈ m_gd := List.mem_filter.mpr ⟨List.mem_of_getElem? (i := 112) (by decide +kernel), by decide +kernel⟩
theorem wd_254 : Cond.methodLink RX5 125 yX3_printSheet ∈ m_gd := List.mem_filter.mpr ⟨List.mem_of_getElem? (i := 340) (by decide +kernel), by decide +kernel⟩
theorem wd_255 : Cond.instanceMethod yX3_printSheet ∈ m_gd := List.mem_filter.mpr ⟨List.mem_of_getElem? (i := 341) (by decide +kernel), by decide +kernel⟩
theorem wd_256 : Cond.selects RX3 yX3_printSheet yX3_printSheet ∈ m_gd := List.mem_filter.mpr ⟨List.mem_of_getElem? (i := 342) (by decide +kernel), by decide +kernel⟩
theorem wd_257 : Cond.code yX3_printSheet cX3_printSheet 2 none ∈ m_gd := List.mem_filter.mpr ⟨List.mem_of_getElem? (i := 343) (by decide +kernel), by decide +kernel⟩
theorem wd_258 : Cond.fieldLink RX5 129 RX3 (TX3 5).2.1 (TX3 5).2.2.1 ∈ m_gd := List.mem_filter.mpr ⟨List.mem_of_getElem? (i := 110) (by decide +kernel), by decide +kernel⟩
theorem wd_259 : Cond.methodLink RX5 133 yX1_isThere ∈ m_gd := List.mem_filter.mpr ⟨List.mem_of_getElem? (i := 375) (by decide +kernel), by decide +kernel⟩
theorem wd_260 : Cond.instanceMethod yX1_isThere ∈ m_gd := List.mem_filter.mpr ⟨List.mem_of_getElem? (i := 376) (by decide +kernel), by decide +kernel⟩
theorem wd_261 : Cond.selects RX1 yX1_isThere yX1_isThere ∈ m_gd := List.mem_filter.mpr ⟨List.mem_of_getElem? (i := 377) (by decide +kernel), by decide +kernel⟩
theorem wd_262 : Cond.code yX1_isThere cX1_isThere 1 (some .boolean) ∈ m_gd := List.mem_filter.mpr ⟨List.mem_of_getElem? (i := 378) (by decide +kernel), by decide +kernel⟩
theorem wd_263 : Cond.methodLink RX5 138 yX3_sheetAt ∈ m_gd := List.mem_filter.mpr ⟨List.mem_of_getElem? (i := 379) (by decide +kernel), by decide +kernel⟩
theorem wd_264 : Cond.methodLink RX5 142 yX3_takeTopSheet ∈ m_gd := List.mem_filter.mpr ⟨List.mem_of_getElem? (i := 383) (by decide +kernel), by decide +kernel⟩
theorem wd_265 : Cond.instanceMethod yX3_takeTopSheet ∈ m_gd := List.mem_filter.mpr ⟨List.mem_of_getElem? (i := 384) (by decide +kernel), by decide +kernel⟩
theorem wd_266 : Cond.selects RX3 yX3_takeTopSheet yX3_takeTopSheet ∈ m_gd := List.mem_filter.mpr ⟨List.mem_of_getElem? (i := 385) (by decide +kernel), by decide +kernel⟩
theorem wd_267 : Cond.code yX3_takeTopSheet cX3_takeTopSheet 2 (some (.object "CardSheets$Sheet")) ∈ m_gd := List.mem_filter.mpr ⟨List.mem_of_getElem? (i := 386) (by decide +kernel), by decide +kernel⟩
theorem wd_268 : Cond.methodLink RX5 146 yX1_layDown ∈ m_gd := List.mem_filter.mpr ⟨List.mem_of_getElem? (i := 388) (by decide +kernel), by decide +kernel⟩
theorem wd_269 : Cond.instanceMethod yX1_layDown ∈ m_gd := List.mem_filter.mpr ⟨List.mem_of_getElem? (i := 389) (by decide +kernel), by decide +kernel⟩
theorem wd_270 : Cond.selects RX1 yX1_layDown yX1_layDown ∈ m_gd := List.mem_filter.mpr ⟨List.mem_of_getElem? (i := 390) (by decide +kernel), by decide +kernel⟩
theorem wd_271 : Cond.code yX1_layDown cX1_layDown 4 none ∈ m_gd := List.mem_filter.mpr ⟨List.mem_of_getElem? (i := 391) (by decide +kernel), by decide +kernel⟩
theorem wd_272 : Cond.methodLink RX5 150 yX1_hasPartsAt ∈ m_gd := List.mem_filter.mpr ⟨List.mem_of_getElem? (i := 406) (by decide +kernel), by decide +kernel⟩
theorem wd_273 : Cond.instanceMethod yX1_hasPartsAt ∈ m_gd := List.mem_filter.mpr ⟨List.mem_of_getElem? (i := 407) (by decide +kernel), by decide +kernel⟩
theorem wd_274 : Cond.selects RX1 yX1_hasPartsAt yX1_hasPartsAt ∈ m_gd := List.mem_filter.mpr ⟨List.mem_of_getElem? (i := 408) (by decide +kernel), by decide +kernel⟩
theorem wd_275 : Cond.code yX1_hasPartsAt cX1_hasPartsAt 2 (some .boolean) ∈ m_gd := List.mem_filter.mpr ⟨List.mem_of_getElem? (i := 409) (by decide +kernel), by decide +kernel⟩
theorem wd_276 : Cond.methodLink RX5 153 yX1_cutAt ∈ m_gd := List.mem_filter.mpr ⟨List.mem_of_getElem? (i := 414) (by decide +kernel), by decide +kernel⟩
theorem wd_277 : Cond.instanceMethod yX1_cutAt ∈ m_gd := List.mem_filter.mpr ⟨List.mem_of_getElem? (i := 415) (by decide +kernel), by decide +kernel⟩
theorem wd_278 : Cond.selects RX1 yX1_cutAt yX1_cutAt ∈ m_gd := List.mem_filter.mpr ⟨List.mem_of_getElem? (i := 416) (by decide +kernel), by decide +kernel⟩
theorem wd_279 : Cond.code yX1_cutAt cX1_cutAt 5 none ∈ m_gd := List.mem_filter.mpr ⟨List.mem_of_getElem? (i := 417) (by decide +kernel), by decide +kernel⟩
theorem wd_280 : Cond.methodLink RX5 157 yX1_cardAt ∈ m_gd := List.mem_filter.mpr ⟨List.mem_of_getElem? (i := 420) (by decide +kernel), by decide +kernel⟩
theorem wd_281 : Cond.methodLink RX5 161 yX1_shuffleAt ∈ m_gd := List.mem_filter.mpr ⟨List.mem_of_getElem? (i := 428) (by decide +kernel), by decide +kernel⟩
theorem wd_282 : Cond.instanceMethod yX1_shuffleAt ∈ m_gd := List.mem_filter.mpr ⟨List.mem_of_getElem? (i := 429) (by decide +kernel), by decide +kernel⟩
theorem wd_283 : Cond.selects RX1 yX1_shuffleAt yX1_shuffleAt ∈ m_gd := List.mem_filter.mpr ⟨List.mem_of_getElem? (i := 430) (by decide +kernel), by decide +kernel⟩
theorem wd_284 : Cond.code yX1_shuffleAt cX1_shuffleAt 6 (some .int) ∈ m_gd := List.mem_filter.mpr ⟨List.mem_of_getElem? (i := 431) (by decide +kernel), by decide +kernel⟩
theorem wd_285 : Cond.methodLink RX5 165 yX1_left ∈ m_gd := List.mem_filter.mpr ⟨List.mem_of_getElem? (i := 439) (by decide +kernel), by decide +kernel⟩
theorem wd_286 : Cond.fieldLink RX5 168 RX1 (TX1 2).2.1 (TX1 2).2.2.1 ∈ m_gd := List.mem_filter.mpr ⟨List.mem_of_getElem? (i := 79) (by decide +kernel), by decide +kernel⟩
theorem wd_287 : Cond.methodLink RX5 171 yX3_reasonAgainstSale ∈ m_gd := List.mem_filter.mpr ⟨List.mem_of_getElem? (i := 444) (by decide +kernel), by decide +kernel⟩
theorem wd_288 : Cond.instanceMethod yX3_reasonAgainstSale ∈ m_gd := List.mem_filter.mpr ⟨List.mem_of_getElem? (i := 445) (by decide +kernel), by decide +kernel⟩
theorem wd_289 : Cond.selects RX3 yX3_reasonAgainstSale yX3_reasonAgainstSale ∈ m_gd := List.mem_filter.mpr ⟨List.mem_of_getElem? (i := 446) (by decide +kernel), by decide +kernel⟩
theorem wd_290 : Cond.code yX3_reasonAgainstSale cX3_reasonAgainstSale 2 (some .int) ∈ m_gd := List.mem_filter.mpr ⟨List.mem_of_getElem? (i := 447) (by decide +kernel), by decide +kernel⟩
theorem wd_291 : Cond.fieldLink RX5 174 RX3 (TX3 10).2.1 (TX3 10).2.2.1 ∈ m_gd := List.mem_filter.mpr ⟨List.mem_of_getElem? (i := 120) (by decide +kernel), by decide +kernel⟩
theorem wd_292 : Cond.fieldLink RX5 177 RX3 (TX3 8).2.1 (TX3 8).2.2.1 ∈ m_gd := List.mem_filter.mpr ⟨List.mem_of_getElem? (i := 116) (by decide +kernel), by decide +kernel⟩
theorem wd_293 : Cond.methodLink RX5 180 yX1_takeAway ∈ m_gd := List.mem_filter.mpr ⟨List.mem_of_getElem? (i := 471) (by decide +kernel), by decide +kernel⟩
theorem wd_294 : Cond.instanceMethod yX1_takeAway ∈ m_gd := List.mem_filter.mpr ⟨List.mem_of_getElem? (i := 472) (by decide +kernel), by decide +kernel⟩
theorem wd_295 : Cond.selects RX1 yX1_takeAway yX1_takeAway ∈ m_gd := List.mem_filter.mpr ⟨List.mem_of_getElem? (i := 473) (by decide +kernel), by decide +kernel⟩
theorem wd_296 : Cond.code yX1_takeAway cX1_takeAway 1 none ∈ m_gd := List.mem_filter.mpr ⟨List.mem_of_getElem? (i := 474) (by decide +kernel), by decide +kernel⟩
theorem wd_297 : Cond.fieldLink RX5 183 RX3 (TX3 9).2.1 (TX3 9).2.2.1 ∈ m_gd := List.mem_filter.mpr ⟨List.mem_of_getElem? (i := 118) (by decide +kernel), by decide +kernel⟩
theorem wd_298 : Cond.fieldLink RX5 186 RX4 (TX4 1).2.1 (TX4 1).2.2.1 ∈ m_gd := List.mem_filter.mpr ⟨List.mem_of_getElem? (i := 172) (by decide +kernel), by decide +kernel⟩
theorem wd_299 : Cond.methodLink RX5 189 yX4_append ∈ m_gd := List.mem_filter.mpr ⟨List.mem_of_getElem? (i := 483) (by decide +kernel), by decide +kernel⟩
theorem wd_300 : Cond.instanceMethod yX4_append ∈ m_gd := List.mem_filter.mpr ⟨List.mem_of_getElem? (i := 484) (by decide +kernel), by decide +kernel⟩
theorem wd_301 : Cond.selects RX4 yX4_append yX4_append ∈ m_gd := List.mem_filter.mpr ⟨List.mem_of_getElem? (i := 485) (by decide +kernel), by decide +kernel⟩
theorem wd_302 : Cond.code yX4_append cX4_append 2 none ∈ m_gd := List.mem_filter.mpr ⟨List.mem_of_getElem? (i := 486) (by decide +kernel), by decide +kernel⟩
theorem wd_303 : Cond.fieldLink RX5 193 RX0 (TX0 2).2.1 (TX0 2).2.2.1 ∈ m_gd := List.mem_filter.mpr ⟨List.mem_of_getElem? (i := 156) (by decide +kernel), by decide +kernel⟩
theorem wd_304 : Cond.methodLink RX5 196 yX0_takeLatestInto ∈ m_gd := List.mem_filter.mpr ⟨List.mem_of_getElem? (i := 499) (by decide +kernel), by decide +kernel⟩
theorem wd_305 : Cond.instanceMethod yX0_takeLatestInto ∈ m_gd := List.mem_filter.mpr ⟨List.mem_of_getElem? (i := 500) (by decide +kernel), by decide +kernel⟩
theorem wd_306 : Cond.selects RX0 yX0_takeLatestInto yX0_takeLatestInto ∈ m_gd := List.mem_filter.mpr ⟨List.mem_of_getElem? (i := 501) (by decide +kernel), by decide +kernel⟩
theorem wd_307 : Cond.code yX0_takeLatestInto cX0_takeLatestInto 2 none ∈ m_gd := List.mem_filter.mpr ⟨List.mem_of_getElem? (i := 502) (by decide +kernel), by decide +kernel⟩
theorem wd_308 : Cond.methodLink RX5 199 yX3_copyFrom ∈ m_gd := List.mem_filter.mpr ⟨List.mem_of_getElem? (i := 507) (by decide +kernel), by decide +kernel⟩
theorem wd_309 : Cond.fieldLink RX5 202 RX3 (TX3 7).2.1 (TX3 7).2.2.1 ∈ m_gd := List.mem_filter.mpr ⟨List.mem_of_getElem? (i := 114) (by decide +kernel), by decide +kernel⟩
theorem wd_310 : Cond.methodLink RX5 205 yX3_cellOf ∈ m_gd := List.mem_filter.mpr ⟨List.mem_of_getElem? (i := 520) (by decide +kernel), by decide +kernel⟩
theorem wd_311 : Cond.instanceMethod yX3_cellOf ∈ m_gd := List.mem_filter.mpr ⟨List.mem_of_getElem? (i := 521) (by decide +kernel), by decide +kernel⟩
theorem wd_312 : Cond.selects RX3 yX3_cellOf yX3_cellOf ∈ m_gd := List.mem_filter.mpr ⟨List.mem_of_getElem? (i := 522) (by decide +kernel), by decide +kernel⟩
theorem wd_313 : Cond.code yX3_cellOf cX3_cellOf 3 (some .int) ∈ m_gd := List.mem_filter.mpr ⟨List.mem_of_getElem? (i := 523) (by decide +kernel), by decide +kernel⟩
theorem wd_314 : Cond.methodLink RX5 208 yX1_placeOf ∈ m_gd := List.mem_filter.mpr ⟨List.mem_of_getElem? (i := 524) (by decide +kernel), by decide +kernel⟩
theorem wd_315 : Cond.instanceMethod yX1_placeOf ∈ m_gd := List.mem_filter.mpr ⟨List.mem_of_getElem? (i := 525) (by decide +kernel), by decide +kernel⟩
theorem wd_316 : Cond.selects RX1 yX1_placeOf yX1_placeOf ∈ m_gd := List.mem_filter.mpr ⟨List.mem_of_getElem? (i := 526) (by decide +kernel), by decide +kernel⟩
theorem wd_317 : Cond.code yX1_placeOf cX1_placeOf 3 (some .int) ∈ m_gd := List.mem_filter.mpr ⟨List.mem_of_getElem? (i := 527) (by decide +kernel), by decide +kernel⟩
theorem wd_318 : Cond.methodLink RX5 211 yX1_marksOf ∈ m_gd := List.mem_filter.mpr ⟨List.mem_of_getElem? (i := 528) (by decide +kernel), by decide +kernel⟩
theorem wd_319 : Cond.fieldLink RX5 214 RX2 (TX2 0).2.1 (TX2 0).2.2.1 ∈ m_gd := List.mem_filter.mpr ⟨List.mem_of_getElem? (i := 353) (by decide +kernel), by decide +kernel⟩
theorem wd_320 : Cond.fieldLink RX5 217 RX2 (TX2 1).2.1 (TX2 1).2.2.1 ∈ m_gd := List.mem_filter.mpr ⟨List.mem_of_getElem? (i := 356) (by decide +kernel), by decide +kernel⟩
theorem wd_321 : Cond.methodLink RX5 220 yX1_marksAt ∈ m_gd := List.mem_filter.mpr ⟨List.mem_of_getElem? (i := 537) (by decide +kernel), by decide +kernel⟩
theorem wd_322 : Cond.methodLink RX5 223 yX1_canBeAt ∈ m_gd := List.mem_filter.mpr ⟨List.mem_of_getElem? (i := 538) (by decide +kernel), by decide +kernel⟩
theorem wd_323 : Cond.methodLink RX5 226 yX1_guessAt ∈ m_gd := List.mem_filter.mpr ⟨List.mem_of_getElem? (i := 539) (by decide +kernel), by decide +kernel⟩
theorem wd_324 : Cond.methodLink RX5 229 yX1_known ∈ m_gd := List.mem_filter.mpr ⟨List.mem_of_getElem? (i := 548) (by decide +kernel), by decide +kernel⟩
theorem wd_325 : Cond.methodLink RX5 232 yX1_guessedRight ∈ m_gd := List.mem_filter.mpr ⟨List.mem_of_getElem? (i := 549) (by decide +kernel), by decide +kernel⟩
theorem wd_326 : Cond.instanceMethod yX1_guessedRight ∈ m_gd := List.mem_filter.mpr ⟨List.mem_of_getElem? (i := 550) (by decide +kernel), by decide +kernel⟩
theorem wd_327 : Cond.selects RX1 yX1_guessedRight yX1_guessedRight ∈ m_gd := List.mem_filter.mpr ⟨List.mem_of_getElem? (i := 551) (by decide +kernel), by decide +kernel⟩
theorem wd_328 : Cond.code yX1_guessedRight cX1_guessedRight 3 (some .int) ∈ m_gd := List.mem_filter.mpr ⟨List.mem_of_getElem? (i := 552) (by decide +kernel), by decide +kernel⟩
theorem wd_329 : Cond.methodLink RX5 235 yX3_marksOnBacks ∈ m_gd := List.mem_filter.mpr ⟨List.mem_of_getElem? (i := 554) (by decide +kernel), by decide +kernel⟩
theorem wd_330 : Cond.instanceMethod yX3_marksOnBacks ∈ m_gd := List.mem_filter.mpr ⟨List.mem_of_getElem? (i := 555) (by decide +kernel), by decide +kernel⟩
theorem wd_331 : Cond.selects RX3 yX3_marksOnBacks yX3_marksOnBacks ∈ m_gd := List.mem_filter.mpr ⟨List.mem_of_getElem? (i := 556) (by decide +kernel), by decide +kernel⟩
theorem wd_332 : Cond.code yX3_marksOnBacks cX3_marksOnBacks 3 (some .int) ∈ m_gd := List.mem_filter.mpr ⟨List.mem_of_getElem? (i := 557) (by decide +kernel), by decide +kernel⟩
theorem wd_333 : Cond.methodLink RX5 238 yX5_courtsBeyond ∈ m_gd := List.mem_filter.mpr ⟨List.mem_of_getElem? (i := 564) (by decide +kernel), by decide +kernel⟩
theorem wd_334 : Cond.methodLink RX5 241 yX1_sumOfChances ∈ m_gd := List.mem_filter.mpr ⟨List.mem_of_getElem? (i := 573) (by decide +kernel), by decide +kernel⟩
theorem wd_335 : Cond.instanceMethod yX1_sumOfChances ∈ m_gd := List.mem_filter.mpr ⟨List.mem_of_getElem? (i := 574) (by decide +kernel), by decide +kernel⟩
theorem wd_336 : Cond.selects RX1 yX1_sumOfChances yX1_sumOfChances ∈ m_gd := List.mem_filter.mpr ⟨List.mem_of_getElem? (i := 575) (by decide +kernel), by decide +kernel⟩
theorem wd_337 : Cond.code yX1_sumOfChances cX1_sumOfChances 4 (some .float) ∈ m_gd := List.mem_filter.mpr ⟨List.mem_of_getElem? (i := 576) (by decide +kernel), by decide +kernel⟩
theorem wd_338 : Cond.constantFloat RX5 245 3212836864 ∈ m_gd := List.mem_filter.mpr ⟨List.mem_of_getElem? (i := 577) (by decide +kernel), by decide +kernel⟩
theorem wd_339 : Cond.methodLink RX5 246 yX3_knownIfPrinted ∈ m_gd := List.mem_filter.mpr ⟨List.mem_of_getElem? (i := 582) (by decide +kernel), by decide +kernel⟩
theorem wd_340 : Cond.instanceMethod yX3_knownIfPrinted ∈ m_gd := List.mem_filter.mpr ⟨List.mem_of_getElem? (i := 583) (by decide +kernel), by decide +kernel⟩
theorem wd_341 : Cond.selects RX3 yX3_knownIfPrinted yX3_knownIfPrinted ∈ m_gd := List.mem_filter.mpr ⟨List.mem_of_getElem? (i := 584) (by decide +kernel), by decide +kernel⟩
theorem wd_342 : Cond.code yX3_knownIfPrinted cX3_knownIfPrinted 8 (some .int) ∈ m_gd := List.mem_filter.mpr ⟨List.mem_of_getElem? (i := 585) (by decide +kernel), by decide +kernel⟩
theorem wd_343 : Cond.methodLink RX5 250 yX2_cardsAtHome ∈ m_gd := List.mem_filter.mpr ⟨List.mem_of_getElem? (i := 594) (by decide +kernel), by decide +kernel⟩
theorem wd_344 : Cond.instanceMethod yX2_cardsAtHome ∈ m_gd := List.mem_filter.mpr ⟨List.mem_of_getElem? (i := 595) (by decide +kernel), by decide +kernel⟩
theorem wd_345 : Cond.selects RX2 yX2_cardsAtHome yX2_cardsAtHome ∈ m_gd := List.mem_filter.mpr ⟨List.mem_of_getElem? (i := 596) (by decide +kernel), by decide +kernel⟩
theorem wd_346 : Cond.code yX2_cardsAtHome cX2_cardsAtHome 4 (some .int) ∈ m_gd := List.mem_filter.mpr ⟨List.mem_of_getElem? (i := 597) (by decide +kernel), by decide +kernel⟩
theorem wd_347 : Cond.methodLink RX5 253 yX5_shufflesUntilBack ∈ m_gd := List.mem_filter.mpr ⟨List.mem_of_getElem? (i := 603) (by decide +kernel), by decide +kernel⟩
theorem wd_348 : Cond.static yX5_shufflesUntilBack ∈ m_gd := List.mem_filter.mpr ⟨List.mem_of_getElem? (i := 604) (by decide +kernel), by decide +kernel⟩
theorem wd_349 : Cond.code yX5_shufflesUntilBack cX5_shufflesUntilBack 4 (some .int) ∈ m_gd := List.mem_filter.mpr ⟨List.mem_of_getElem? (i := 605) (by decide +kernel), by decide +kernel⟩
theorem wd_350 : Cond.methodLink RX5 257 Lib.Math.min.name ∈ m_gd := List.mem_filter.mpr ⟨List.mem_of_getElem? (i := 94) (by decide +kernel), by decide +kernel⟩
theorem wd_351 : Cond.methodLink RX5 262 arraycopyName ∈ m_gd := List.mem_filter.mpr ⟨List.mem_of_getElem? (i := 97) (by decide +kernel), by decide +kernel⟩
theorem wd_352 : Cond.native arraycopyName ∈ m_gd := List.mem_filter.mpr ⟨List.mem_of_getElem? (i := 99) (by decide +kernel), by decide +kernel⟩
theorem wd_353 : Cond.static arraycopyName ∈ m_gd := List.mem_filter.mpr ⟨List.mem_of_getElem? (i := 98) (by decide +kernel), by decide +kernel⟩
theorem wd_354 : Cond.initialized "java/lang/System" ∈ m_gd := List.mem_filter.mpr ⟨List.mem_of_getElem? (i := 47) (by decide +kernel), by decide +kernel⟩
theorem wd_355 : Cond.methodLink RX5 268 Lib.Math.abs.name ∈ m_gd := List.mem_filter.mpr ⟨List.mem_of_getElem? (i := 451) (by decide +kernel), by decide +kernel⟩
theorem wd_356 : Cond.static Lib.Math.abs.name ∈ m_gd := List.mem_filter.mpr ⟨List.mem_of_getElem? (i := 452) (by decide +kernel), by decide +kernel⟩
theorem wd_357 : Cond.code Lib.Math.abs.name Lib.Math.abs.code 1 (some .int) ∈ m_gd := List.mem_filter.mpr ⟨List.mem_of_getElem? (i := 453) (by decide +kernel), by decide +kernel⟩
theorem wd_358 : Cond.methodLink RX5 271 yX5_along ∈ m_gd := List.mem_filter.mpr ⟨List.mem_of_getElem? (i := 399) (by decide +kernel), by decide +kernel⟩
theorem wd_359 : Cond.static yX5_along ∈ m_gd := List.mem_filter.mpr ⟨List.mem_of_getElem? (i := 400) (by decide +kernel), by decide +kernel⟩
theorem wd_360 : Cond.code yX5_along cX5_along 3 (some .int) ∈ m_gd := List.mem_filter.mpr ⟨List.mem_of_getElem? (i := 401) (by decide +kernel), by decide +kernel⟩
theorem wd_361 : Cond.methodLink RX5 275 yX5_roundOf ∈ m_gd := List.mem_filter.mpr ⟨List.mem_of_getElem? (i := 606) (by decide +kernel), by decide +kernel⟩
theorem wd_362 : Cond.static yX5_roundOf ∈ m_gd := List.mem_filter.mpr ⟨List.mem_of_getElem? (i := 607) (by decide +kernel), by decide +kernel⟩
theorem wd_363 : Cond.code yX5_roundOf cX5_roundOf 5 (some .int) ∈ m_gd := List.mem_filter.mpr ⟨List.mem_of_getElem? (i := 608) (by decide +kernel), by decide +kernel⟩
theorem wd_364 : Cond.methodLink RX5 279 yX5_leastCommonMultiple ∈ m_gd := List.mem_filter.mpr ⟨List.mem_of_getElem? (i := 610) (by decide +kernel), by decide +kernel⟩
theorem wd_365 : Cond.static yX5_leastCommonMultiple ∈ m_gd := List.mem_filter.mpr ⟨List.mem_of_getElem? (i := 611) (by decide +kernel), by decide +kernel⟩
theorem wd_366 : Cond.code yX5_leastCommonMultiple cX5_leastCommonMultiple 3 (some .int) ∈ m_gd := List.mem_filter.mpr ⟨List.mem_of_getElem? (i := 612) (by decide +kernel), by decide +kernel⟩
theorem wd_367 : Cond.methodLink RX5 282 yX5_placeBefore ∈ m_gd := List.mem_filter.mpr ⟨List.mem_of_getElem? (i := 609) (by decide +kernel), by decide +kernel⟩
theorem wd_368 : Cond.methodLink RX6 1 Lib.objectInit ∈ m_gd := List.mem_filter.mpr ⟨List.mem_of_getElem? (i := 618) (by decide +kernel), by decide +kernel⟩
theorem wd_369 : Cond.fieldLink RX6 7 RX6 (TX6 0).2.1 (TX6 0).2.2.1 ∈ m_gd := List.mem_filter.mpr ⟨List.mem_of_getElem? (i := 619) (by decide +kernel), by decide +kernel⟩
theorem wd_370 : Cond.fieldLink RX6 13 RX6 (TX6 1).2.1 (TX6 1).2.2.1 ∈ m_gd := List.mem_filter.mpr ⟨List.mem_of_getElem? (i := 620) (by decide +kernel), by decide +kernel⟩
theorem wd_371 : Cond.fieldLink RX6 16 RX6 (TX6 2).2.1 (TX6 2).2.2.1 ∈ m_gd := List.mem_filter.mpr ⟨List.mem_of_getElem? (i := 621) (by decide +kernel), by decide +kernel⟩
theorem wd_372 : Cond.fieldLink RX6 19 RX6 (TX6 4).2.1 (TX6 4).2.2.1 ∈ m_gd := List.mem_filter.mpr ⟨List.mem_of_getElem? (i := 623) (by decide +kernel), by decide +kernel⟩
theorem wd_373 : Cond.fieldLink RX6 22 RX6 (TX6 6).2.1 (TX6 6).2.2.1 ∈ m_gd := List.mem_filter.mpr ⟨List.mem_of_getElem? (i := 625) (by decide +kernel), by decide +kernel⟩
theorem wd_374 : Cond.fieldLink RX6 25 RX6 (TX6 12).2.1 (TX6 12).2.2.1 ∈ m_gd := List.mem_filter.mpr ⟨List.mem_of_getElem? (i := 631) (by decide +kernel), by decide +kernel⟩
theorem wd_375 : Cond.fieldLink RX6 28 RX6 (TX6 13).2.1 (TX6 13).2.2.1 ∈ m_gd := List.mem_filter.mpr ⟨List.mem_of_getElem? (i := 632) (by decide +kernel), by decide +kernel⟩
theorem wd_376 : Cond.methodLink RX6 31 yX6_within ∈ m_gd := List.mem_filter.mpr ⟨List.mem_of_getElem? (i := 693) (by decide +kernel), by decide +kernel⟩
theorem wd_377 : Cond.static yX6_within ∈ m_gd := List.mem_filter.mpr ⟨List.mem_of_getElem? (i := 694) (by decide +kernel), by decide +kernel⟩
theorem wd_378 : Cond.initialized RX6 ∈ m_gd := List.mem_filter.mpr ⟨List.mem_of_getElem? (i := 50) (by decide +kernel), by decide +kernel⟩
theorem wd_379 : Cond.code yX6_within cX6_within 3 (some .boolean) ∈ m_gd := List.mem_filter.mpr ⟨List.mem_of_getElem? (i := 695) (by decide +kernel), by decide +kernel⟩
theorem wd_380 : Cond.fieldLink RX6 35 RX6 (TX6 3).2.1 (TX6 3).2.2.1 ∈ m_gd := List.mem_filter.mpr ⟨List.mem_of_getElem? (i := 622) (by decide +kernel), by decide +kernel⟩
theorem wd_381 : Cond.methodLink RX6 39 yX6_putAside ∈ m_gd := List.mem_filter.mpr ⟨List.mem_of_getElem? (i := 678) (by decide +kernel), by decide +kernel⟩
theorem wd_382 : Cond.instanceMethod yX6_putAside ∈ m_gd := List.mem_filter.mpr ⟨List.mem_of_getElem? (i := 680) (by decide +kernel), by decide +kernel⟩
theorem wd_383 : Cond.selects RX6 yX6_putAside yX6_putAside ∈ m_gd := List.mem_filter.mpr ⟨List.mem_of_getElem? (i := 10) (by decide +kernel), by decide +kernel⟩
theorem wd_384 : Cond.code yX6_putAside cX6_putAside 2 none ∈ m_gd := List.mem_filter.mpr ⟨List.mem_of_getElem? (i := 681) (by decide +kernel), by decide +kernel⟩
theorem wd_385 : Cond.methodLink RX6 42 yX6_push ∈ m_gd := List.mem_filter.mpr ⟨List.mem_of_getElem? (i := 682) (by decide +kernel), by decide +kernel⟩
theorem wd_386 : Cond.instanceMethod yX6_push ∈ m_gd := List.mem_filter.mpr ⟨List.mem_of_getElem? (i := 684) (by decide +kernel), by decide +kernel⟩
theorem wd_387 : Cond.selects RX6 yX6_push yX6_push ∈ m_gd := List.mem_filter.mpr ⟨List.mem_of_getElem? (i := 11) (by decide +kernel), by decide +kernel⟩
theorem wd_388 : Cond.code yX6_push cX6_push 2 none ∈ m_gd := List.mem_filter.mpr ⟨List.mem_of_getElem? (i := 685) (by decide +kernel), by decide +kernel⟩
theorem wd_389 : Cond.fieldLink RX6 45 RX6 (TX6 5).2.1 (TX6 5).2.2.1 ∈ m_gd := List.mem_filter.mpr ⟨List.mem_of_getElem? (i := 624) (by decide +kernel), by decide +kernel⟩
theorem wd_390 : Cond.methodLink RX6 49 yX6_record ∈ m_gd := List.mem_filter.mpr ⟨List.mem_of_getElem? (i := 674) (by decide +kernel), by decide +kernel⟩
theorem wd_391 : Cond.instanceMethod yX6_record ∈ m_gd := List.mem_filter.mpr ⟨List.mem_of_getElem? (i := 676) (by decide +kernel), by decide +kernel⟩
theorem wd_392 : Cond.selects RX6 yX6_record yX6_record ∈ m_gd := List.mem_filter.mpr ⟨List.mem_of_getElem? (i := 9) (by decide +kernel), by decide +kernel⟩
theorem wd_393 : Cond.code yX6_record cX6_record 1 none ∈ m_gd := List.mem_filter.mpr ⟨List.mem_of_getElem? (i := 677) (by decide +kernel), by decide +kernel⟩
theorem wd_394 : Cond.methodLink RX6 52 yX6_isCell ∈ m_gd := List.mem_filter.mpr ⟨List.mem_of_getElem? (i := 690) (by decide +kernel), by decide +kernel⟩
theorem wd_395 : Cond.static yX6_isCell ∈ m_gd := List.mem_filter.mpr ⟨List.mem_of_getElem? (i := 691) (by decide +kernel), by decide +kernel⟩
theorem wd_396 : Cond.code yX6_isCell cX6_isCell 1 (some .boolean) ∈ m_gd := List.mem_filter.mpr ⟨List.mem_of_getElem? (i := 692) (by decide +kernel), by decide +kernel⟩
theorem wd_397 : Cond.methodLink RX6 56 yX6_exchange ∈ m_gd := List.mem_filter.mpr ⟨List.mem_of_getElem? (i := 696) (by decide +kernel), by decide +kernel⟩
theorem wd_398 : Cond.instanceMethod yX6_exchange ∈ m_gd := List.mem_filter.mpr ⟨List.mem_of_getElem? (i := 698) (by decide +kernel), by decide +kernel⟩
theorem wd_399 : Cond.selects RX6 yX6_exchange yX6_exchange ∈ m_gd := List.mem_filter.mpr ⟨List.mem_of_getElem? (i := 12) (by decide +kernel), by decide +kernel⟩
theorem wd_400 : Cond.code yX6_exchange cX6_exchange 4 none ∈ m_gd := List.mem_filter.mpr ⟨List.mem_of_getElem? (i := 699) (by decide +kernel), by decide +kernel⟩
theorem wd_401 : Cond.methodLink RX6 60 yX6_isMark ∈ m_gd := List.mem_filter.mpr ⟨List.mem_of_getElem? (i := 704) (by decide +kernel), by decide +kernel⟩
theorem wd_402 : Cond.static yX6_isMark ∈ m_gd := List.mem_filter.mpr ⟨List.mem_of_getElem? (i := 705) (by decide +kernel), by decide +kernel⟩
theorem wd_403 : Cond.code yX6_isMark cX6_isMark 1 (some .boolean) ∈ m_gd := List.mem_filter.mpr ⟨List.mem_of_getElem? (i := 706) (by decide +kernel), by decide +kernel⟩
theorem wd_404 : Cond.methodLink RX6 63 yX6_setMark ∈ m_gd := List.mem_filter.mpr ⟨List.mem_of_getElem? (i := 707) (by decide +kernel), by decide +kernel⟩
theorem wd_405 : Cond.instanceMethod yX6_setMark ∈ m_gd := List.mem_filter.mpr ⟨List.mem_of_getElem? (i := 709) (by decide +kernel), by decide +kernel⟩
theorem wd_406 : Cond.selects RX6 yX6_setMark yX6_setMark ∈ m_gd := List.mem_filter.mpr ⟨List.mem_of_getElem? (i := 13) (by decide +kernel), by decide +kernel⟩
theorem wd_407 : Cond.code yX6_setMark cX6_setMark 4 none ∈ m_gd := List.mem_filter.mpr ⟨List.mem_of_getElem? (i := 710) (by decide +kernel), by decide +kernel⟩
theorem wd_408 : Cond.methodLink RX6 67 yX6_isCourt ∈ m_gd := List.mem_filter.mpr ⟨List.mem_of_getElem? (i := 715) (by decide +kernel), by decide +kernel⟩
theorem wd_409 : Cond.static yX6_isCourt ∈ m_gd := List.mem_filter.mpr ⟨List.mem_of_getElem? (i := 716) (by decide +kernel), by decide +kernel⟩
theorem wd_410 : Cond.code yX6_isCourt cX6_isCourt 1 (some .boolean) ∈ m_gd := List.mem_filter.mpr ⟨List.mem_of_getElem? (i := 717) (by decide +kernel), by decide +kernel⟩
theorem wd_411 : Cond.methodLink RX6 70 yX6_leastOf ∈ m_gd := List.mem_filter.mpr ⟨List.mem_of_getElem? (i := 722) (by decide +kernel), by decide +kernel⟩
theorem wd_412 : Cond.static yX6_leastOf ∈ m_gd := List.mem_filter.mpr ⟨List.mem_of_getElem? (i := 723) (by decide +kernel), by decide +kernel⟩
theorem wd_413 : Cond.code yX6_leastOf cX6_leastOf 1 (some .int) ∈ m_gd := List.mem_filter.mpr ⟨List.mem_of_getElem? (i := 724) (by decide +kernel), by decide +kernel⟩
theorem wd_414 : Cond.methodLink RX6 74 yX6_mostOf ∈ m_gd := List.mem_filter.mpr ⟨List.mem_of_getElem? (i := 725) (by decide +kernel), by decide +kernel⟩
theorem wd_415 : Cond.static yX6_mostOf ∈ m_gd := List.mem_filter.mpr ⟨List.mem_of_getElem? (i := 726) (by decide +kernel), by decide +kernel⟩
theorem wd_416 : Cond.code yX6_mostOf cX6_mostOf 1 (some .int) ∈ m_gd := List.mem_filter.mpr ⟨List.mem_of_getElem? (i := 727) (by decide +kernel), by decide +kernel⟩
theorem wd_417 : Cond.methodLink RX6 77 yX6_sheetAt ∈ m_gd := List.mem_filter.mpr ⟨List.mem_of_getElem? (i := 736) (by decide +kernel), by decide +kernel⟩
theorem wd_418 : Cond.static yX6_sheetAt ∈ m_gd := List.mem_filter.mpr ⟨List.mem_of_getElem? (i := 737) (by decide +kernel), by decide +kernel⟩
theorem wd_419 : Cond.code yX6_sheetAt cX6_sheetAt 1 (some .int) ∈ m_gd := List.mem_filter.mpr ⟨List.mem_of_getElem? (i := 738) (by decide +kernel), by decide +kernel⟩
theorem wd_420 : Cond.methodLink RX6 80 yX6_top ∈ m_gd := List.mem_filter.mpr ⟨List.mem_of_getElem? (i := 732) (by decide +kernel), by decide +kernel⟩
theorem wd_421 : Cond.instanceMethod yX6_top ∈ m_gd := List.mem_filter.mpr ⟨List.mem_of_getElem? (i := 734) (by decide +kernel), by decide +kernel⟩
theorem wd_422 : Cond.selects RX6 yX6_top yX6_top ∈ m_gd := List.mem_filter.mpr ⟨List.mem_of_getElem? (i := 14) (by decide +kernel), by decide +kernel⟩
theorem wd_423 : Cond.code yX6_top cX6_top 1 (some .int) ∈ m_gd := List.mem_filter.mpr ⟨List.mem_of_getElem? (i := 735) (by decide +kernel), by decide +kernel⟩
theorem wd_424 : Cond.methodLink RX6 84 yX6_backOf ∈ m_gd := List.mem_filter.mpr ⟨List.mem_of_getElem? (i := 739) (by decide +kernel), by decide +kernel⟩
theorem wd_425 : Cond.instanceMethod yX6_backOf ∈ m_gd := List.mem_filter.mpr ⟨List.mem_of_getElem? (i := 741) (by decide +kernel), by decide +kernel⟩
theorem wd_426 : Cond.selects RX6 yX6_backOf yX6_backOf ∈ m_gd := List.mem_filter.mpr ⟨List.mem_of_getElem? (i := 15) (by decide +kernel), by decide +kernel⟩
theorem wd_427 : Cond.code yX6_backOf cX6_backOf 3 (some .int) ∈ m_gd := List.mem_filter.mpr ⟨List.mem_of_getElem? (i := 742) (by decide +kernel), by decide +kernel⟩
theorem wd_428 : Cond.methodLink RX6 88 yX6_cellAt ∈ m_gd := List.mem_filter.mpr ⟨List.mem_of_getElem? (i := 747) (by decide +kernel), by decide +kernel⟩
theorem wd_429 : Cond.static yX6_cellAt ∈ m_gd := List.mem_filter.mpr ⟨List.mem_of_getElem? (i := 748) (by decide +kernel), by decide +kernel⟩
theorem wd_430 : Cond.code yX6_cellAt cX6_cellAt 6 (some .int) ∈ m_gd := List.mem_filter.mpr ⟨List.mem_of_getElem? (i := 749) (by decide +kernel), by decide +kernel⟩
theorem wd_431 : Cond.methodLink RX6 92 yX6_canPart ∈ m_gd := List.mem_filter.mpr ⟨List.mem_of_getElem? (i := 754) (by decide +kernel), by decide +kernel⟩
theorem wd_432 : Cond.instanceMethod yX6_canPart ∈ m_gd := List.mem_filter.mpr ⟨List.mem_of_getElem? (i := 756) (by decide +kernel), by decide +kernel⟩
theorem wd_433 : Cond.selects RX6 yX6_canPart yX6_canPart ∈ m_gd := List.mem_filter.mpr ⟨List.mem_of_getElem? (i := 16) (by decide +kernel), by decide +kernel⟩
theorem wd_434 : Cond.code yX6_canPart cX6_canPart 2 (some .boolean) ∈ m_gd := List.mem_filter.mpr ⟨List.mem_of_getElem? (i := 757) (by decide +kernel), by decide +kernel⟩
theorem wd_435 : Cond.methodLink RX6 95 yX6_takeOrder ∈ m_gd := List.mem_filter.mpr ⟨List.mem_of_getElem? (i := 758) (by decide +kernel), by decide +kernel⟩
theorem wd_436 : Cond.instanceMethod yX6_takeOrder ∈ m_gd := List.mem_filter.mpr ⟨List.mem_of_getElem? (i := 760) (by decide +kernel), by decide +kernel⟩
theorem wd_437 : Cond.selects RX6 yX6_takeOrder yX6_takeOrder ∈ m_gd := List.mem_filter.mpr ⟨List.mem_of_getElem? (i := 17) (by decide +kernel), by decide +kernel⟩
theorem wd_438 : Cond.code yX6_takeOrder cX6_takeOrder 2 none ∈ m_gd := List.mem_filter.mpr ⟨List.mem_of_getElem? (i := 761) (by decide +kernel), by decide +kernel⟩
theorem wd_439 : Cond.methodLink RX6 98 yX6_cameFrom ∈ m_gd := List.mem_filter.mpr ⟨List.mem_of_getElem? (i := 766) (by decide +kernel), by decide +kernel⟩
theorem wd_440 : Cond.instanceMethod yX6_cameFrom ∈ m_gd := List.mem_filter.mpr ⟨List.mem_of_getElem? (i := 768) (by decide +kernel), by decide +kernel⟩
theorem wd_441 : Cond.selects RX6 yX6_cameFrom yX6_cameFrom ∈ m_gd := List.mem_filter.mpr ⟨List.mem_of_getElem? (i := 18) (by decide +kernel), by decide +kernel⟩
theorem wd_442 : Cond.code yX6_cameFrom cX6_cameFrom 4 (some .int) ∈ m_gd := List.mem_filter.mpr ⟨List.mem_of_getElem? (i := 769) (by decide +kernel), by decide +kernel⟩
theorem wd_443 : Cond.methodLink RX6 101 yX6_marksAt ∈ m_gd := List.mem_filter.mpr ⟨List.mem_of_getElem? (i := 793) (by decide +kernel), by decide +kernel⟩
theorem wd_444 : Cond.instanceMethod yX6_marksAt ∈ m_gd := List.mem_filter.mpr ⟨List.mem_of_getElem? (i := 795) (by decide +kernel), by decide +kernel⟩
theorem wd_445 : Cond.selects RX6 yX6_marksAt yX6_marksAt ∈ m_gd := List.mem_filter.mpr ⟨List.mem_of_getElem? (i := 22) (by decide +kernel), by decide +kernel⟩
theorem wd_446 : Cond.code yX6_marksAt cX6_marksAt 2 (some .int) ∈ m_gd := List.mem_filter.mpr ⟨List.mem_of_getElem? (i := 796) (by decide +kernel), by decide +kernel⟩
theorem wd_447 : Cond.methodLink RX6 104 yX6_alike ∈ m_gd := List.mem_filter.mpr ⟨List.mem_of_getElem? (i := 797) (by decide +kernel), by decide +kernel⟩
theorem wd_448 : Cond.instanceMethod yX6_alike ∈ m_gd := List.mem_filter.mpr ⟨List.mem_of_getElem? (i := 799) (by decide +kernel), by decide +kernel⟩
theorem wd_449 : Cond.selects RX6 yX6_alike yX6_alike ∈ m_gd := List.mem_filter.mpr ⟨List.mem_of_getElem? (i := 23) (by decide +kernel), by decide +kernel⟩
theorem wd_450 : Cond.code yX6_alike cX6_alike 4 (some .int) ∈ m_gd := List.mem_filter.mpr ⟨List.mem_of_getElem? (i := 800) (by decide +kernel), by decide +kernel⟩
theorem wd_451 : Cond.methodLink RX6 107 yX6_guess ∈ m_gd := List.mem_filter.mpr ⟨List.mem_of_getElem? (i := 881) (by decide +kernel), by decide +kernel⟩
theorem wd_452 : Cond.instanceMethod yX6_guess ∈ m_gd := List.mem_filter.mpr ⟨List.mem_of_getElem? (i := 883) (by decide +kernel), by decide +kernel⟩
theorem wd_453 : Cond.selects RX6 yX6_guess yX6_guess ∈ m_gd := List.mem_filter.mpr ⟨List.mem_of_getElem? (i := 35) (by decide +kernel), by decide +kernel⟩
theorem wd_454 : Cond.code yX6_guess cX6_guess 3 (some .int) ∈ m_gd := List.mem_filter.mpr ⟨List.mem_of_getElem? (i := 884) (by decide +kernel), by decide +kernel⟩
theorem wd_455 : Cond.methodLink RX6 110 yX6_great ∈ m_gd := List.mem_filter.mpr ⟨List.mem_of_getElem? (i := 786) (by decide +kernel), by decide +kernel⟩
theorem wd_456 : Cond.static yX6_great ∈ m_gd := List.mem_filter.mpr ⟨List.mem_of_getElem? (i := 787) (by decide +kernel), by decide +kernel⟩
theorem wd_457 : Cond.code yX6_great cX6_great 1 (some .int) ∈ m_gd := List.mem_filter.mpr ⟨List.mem_of_getElem? (i := 788) (by decide +kernel), by decide +kernel⟩
theorem wd_458 : Cond.methodLink RX6 113 yX6_leaning ∈ m_gd := List.mem_filter.mpr ⟨List.mem_of_getElem? (i := 782) (by decide +kernel), by decide +kernel⟩
theorem wd_459 : Cond.instanceMethod yX6_leaning ∈ m_gd := List.mem_filter.mpr ⟨List.mem_of_getElem? (i := 784) (by decide +kernel), by decide +kernel⟩
theorem wd_460 : Cond.selects RX6 yX6_leaning yX6_leaning ∈ m_gd := List.mem_filter.mpr ⟨List.mem_of_getElem? (i := 20) (by decide +kernel), by decide +kernel⟩
theorem wd_461 : Cond.code yX6_leaning cX6_leaning 4 (some .int) ∈ m_gd := List.mem_filter.mpr ⟨List.mem_of_getElem? (i := 785) (by decide +kernel), by decide +kernel⟩
theorem wd_462 : Cond.methodLink RX6 116 yX6_known ∈ m_gd := List.mem_filter.mpr ⟨List.mem_of_getElem? (i := 789) (by decide +kernel), by decide +kernel⟩
theorem wd_463 : Cond.instanceMethod yX6_known ∈ m_gd := List.mem_filter.mpr ⟨List.mem_of_getElem? (i := 791) (by decide +kernel), by decide +kernel⟩
theorem wd_464 : Cond.selects RX6 yX6_known yX6_known ∈ m_gd := List.mem_filter.mpr ⟨List.mem_of_getElem? (i := 21) (by decide +kernel), by decide +kernel⟩
theorem wd_465 : Cond.code yX6_known cX6_known 3 (some .int) ∈ m_gd := List.mem_filter.mpr ⟨List.mem_of_getElem? (i := 792) (by decide +kernel), by decide +kernel⟩
theorem wd_466 : Cond.methodLink RX6 119 yX6_reason ∈ m_gd := List.mem_filter.mpr ⟨List.mem_of_getElem? (i := 778) (by decide +kernel), by decide +kernel⟩
theorem wd_467 : Cond.instanceMethod yX6_reason ∈ m_gd := List.mem_filter.mpr ⟨List.mem_of_getElem? (i := 780) (by decide +kernel), by decide +kernel⟩
theorem wd_468 : Cond.selects RX6 yX6_reason yX6_reason ∈ m_gd := List.mem_filter.mpr ⟨List.mem_of_getElem? (i := 19) (by decide +kernel), by decide +kernel⟩
theorem wd_469 : Cond.code yX6_reason cX6_reason 1 (some .int) ∈ m_gd := List.mem_filter.mpr ⟨List.mem_of_getElem? (i := 781) (by decide +kernel), by decide +kernel⟩
theorem wd_470 : Cond.methodLink RX6 122 yX6_dropPack ∈ m_gd := List.mem_filter.mpr ⟨List.mem_of_getElem? (i := 801) (by decide +kernel), by decide +kernel⟩
theorem wd_471 : Cond.instanceMethod yX6_dropPack ∈ m_gd := List.mem_filter.mpr ⟨List.mem_of_getElem? (i := 803) (by decide +kernel), by decide +kernel⟩
theorem wd_472 : Cond.selects RX6 yX6_dropPack yX6_dropPack ∈ m_gd := List.mem_filter.mpr ⟨List.mem_of_getElem? (i := 24) (by decide +kernel), by decide +kernel⟩
theorem wd_473 : Cond.code yX6_dropPack cX6_dropPack 2 none ∈ m_gd := List.mem_filter.mpr ⟨List.mem_of_getElem? (i := 804) (by decide +kernel), by decide +kernel⟩
theorem wd_474 : Cond.fieldLink RX6 125 RX6 (TX6 7).2.1 (TX6 7).2.2.1 ∈ m_gd := List.mem_filter.mpr ⟨List.mem_of_getElem? (i := 626) (by decide +kernel), by decide +kernel⟩
theorem wd_475 : Cond.fieldLink RX6 128 RX6 (TX6 8).2.1 (TX6 8).2.2.1 ∈ m_gd := List.mem_filter.mpr ⟨List.mem_of_getElem? (i := 627) (by decide +kernel), by decide +kernel⟩
theorem wd_476 : Cond.methodLink RX6 131 yX6_code ∈ m_gd := List.mem_filter.mpr ⟨List.mem_of_getElem? (i := 829) (by decide +kernel), by decide +kernel⟩
theorem wd_477 : Cond.instanceMethod yX6_code ∈ m_gd := List.mem_filter.mpr ⟨List.mem_of_getElem? (i := 831) (by decide +kernel), by decide +kernel⟩
theorem wd_478 : Cond.selects RX6 yX6_code yX6_code ∈ m_gd := List.mem_filter.mpr ⟨List.mem_of_getElem? (i := 27) (by decide +kernel), by decide +kernel⟩
theorem wd_479 : Cond.code yX6_code cX6_code 1 (some .int) ∈ m_gd := List.mem_filter.mpr ⟨List.mem_of_getElem? (i := 832) (by decide +kernel), by decide +kernel⟩
theorem wd_480 : Cond.methodLink RX6 134 yX6_takes ∈ m_gd := List.mem_filter.mpr ⟨List.mem_of_getElem? (i := 837) (by decide +kernel), by decide +kernel⟩
theorem wd_481 : Cond.instanceMethod yX6_takes ∈ m_gd := List.mem_filter.mpr ⟨List.mem_of_getElem? (i := 839) (by decide +kernel), by decide +kernel⟩
theorem wd_482 : Cond.selects RX6 yX6_takes yX6_takes ∈ m_gd := List.mem_filter.mpr ⟨List.mem_of_getElem? (i := 29) (by decide +kernel), by decide +kernel⟩
theorem wd_483 : Cond.code yX6_takes cX6_takes 3 (some .boolean) ∈ m_gd := List.mem_filter.mpr ⟨List.mem_of_getElem? (i := 840) (by decide +kernel), by decide +kernel⟩
theorem wd_484 : Cond.methodLink RX6 137 yX6_readNumber ∈ m_gd := List.mem_filter.mpr ⟨List.mem_of_getElem? (i := 833) (by decide +kernel), by decide +kernel⟩
theorem wd_485 : Cond.instanceMethod yX6_readNumber ∈ m_gd := List.mem_filter.mpr ⟨List.mem_of_getElem? (i := 835) (by decide +kernel), by decide +kernel⟩
theorem wd_486 : Cond.selects RX6 yX6_readNumber yX6_readNumber ∈ m_gd := List.mem_filter.mpr ⟨List.mem_of_getElem? (i := 28) (by decide +kernel), by decide +kernel⟩
theorem wd_487 : Cond.code yX6_readNumber cX6_readNumber 4 (some .int) ∈ m_gd := List.mem_filter.mpr ⟨List.mem_of_getElem? (i := 836) (by decide +kernel), by decide +kernel⟩
theorem wd_488 : Cond.fieldLink RX6 140 RX6 (TX6 11).2.1 (TX6 11).2.2.1 ∈ m_gd := List.mem_filter.mpr ⟨List.mem_of_getElem? (i := 630) (by decide +kernel), by decide +kernel⟩
theorem wd_489 : Cond.fieldLink RX6 143 RX6 (TX6 9).2.1 (TX6 9).2.2.1 ∈ m_gd := List.mem_filter.mpr ⟨List.mem_of_getElem? (i := 628) (by decide +kernel), by decide +kernel⟩
theorem wd_490 : Cond.fieldLink RX6 146 RX6 (TX6 10).2.1 (TX6 10).2.2.1 ∈ m_gd := List.mem_filter.mpr ⟨List.mem_of_getElem? (i := 629) (by decide +kernel), by decide +kernel⟩
theorem wd_491 : Cond.methodLink RX6 149 yX6_readsLean ∈ m_gd := List.mem_filter.mpr ⟨List.mem_of_getElem? (i := 841) (by decide +kernel), by decide +kernel⟩
theorem wd_492 : Cond.instanceMethod yX6_readsLean ∈ m_gd := List.mem_filter.mpr ⟨List.mem_of_getElem? (i := 843) (by decide +kernel), by decide +kernel⟩
theorem wd_493 : Cond.selects RX6 yX6_readsLean yX6_readsLean ∈ m_gd := List.mem_filter.mpr ⟨List.mem_of_getElem? (i := 30) (by decide +kernel), by decide +kernel⟩
theorem wd_494 : Cond.code yX6_readsLean cX6_readsLean 3 (some .boolean) ∈ m_gd := List.mem_filter.mpr ⟨List.mem_of_getElem? (i := 844) (by decide +kernel), by decide +kernel⟩
theorem wd_495 : Cond.methodLink RX6 153 yX6_readsChange ∈ m_gd := List.mem_filter.mpr ⟨List.mem_of_getElem? (i := 825) (by decide +kernel), by decide +kernel⟩
theorem wd_496 : Cond.instanceMethod yX6_readsChange ∈ m_gd := List.mem_filter.mpr ⟨List.mem_of_getElem? (i := 827) (by decide +kernel), by decide +kernel⟩
theorem wd_497 : Cond.selects RX6 yX6_readsChange yX6_readsChange ∈ m_gd := List.mem_filter.mpr ⟨List.mem_of_getElem? (i := 26) (by decide +kernel), by decide +kernel⟩
theorem wd_498 : Cond.code yX6_readsChange cX6_readsChange 1 (some .boolean) ∈ m_gd := List.mem_filter.mpr ⟨List.mem_of_getElem? (i := 828) (by decide +kernel), by decide +kernel⟩
theorem wd_499 : Cond.methodLink RX6 156 yX6_findFault ∈ m_gd := List.mem_filter.mpr ⟨List.mem_of_getElem? (i := 821) (by decide +kernel), by decide +kernel⟩
theorem wd_500 : Cond.instanceMethod yX6_findFault ∈ m_gd := List.mem_filter.mpr ⟨List.mem_of_getElem? (i := 823) (by decide +kernel), by decide +kernel⟩
theorem wd_501 : Cond.selects RX6 yX6_findFault yX6_findFault ∈ m_gd := List.mem_filter.mpr ⟨List.mem_of_getElem? (i := 25) (by decide +kernel), by decide +kernel⟩
theorem wd_502 : Cond.code yX6_findFault cX6_findFault 1 (some .int) ∈ m_gd := List.mem_filter.mpr ⟨List.mem_of_getElem? (i := 824) (by decide +kernel), by decide +kernel⟩
theorem wd_503 : Cond.methodLink RX6 159 yX6_doesChange ∈ m_gd := List.mem_filter.mpr ⟨List.mem_of_getElem? (i := 849) (by decide +kernel), by decide +kernel⟩
theorem wd_504 : Cond.instanceMethod yX6_doesChange ∈ m_gd := List.mem_filter.mpr ⟨List.mem_of_getElem? (i := 851) (by decide +kernel), by decide +kernel⟩
theorem wd_505 : Cond.selects RX6 yX6_doesChange yX6_doesChange ∈ m_gd := List.mem_filter.mpr ⟨List.mem_of_getElem? (i := 31) (by decide +kernel), by decide +kernel⟩
theorem wd_506 : Cond.code yX6_doesChange cX6_doesChange 1 (some .boolean) ∈ m_gd := List.mem_filter.mpr ⟨List.mem_of_getElem? (i := 852) (by decide +kernel), by decide +kernel⟩
theorem wd_507 : Cond.methodLink RX6 162 yX6_takeBack ∈ m_gd := List.mem_filter.mpr ⟨List.mem_of_getElem? (i := 853) (by decide +kernel), by decide +kernel⟩
theorem wd_508 : Cond.instanceMethod yX6_takeBack ∈ m_gd := List.mem_filter.mpr ⟨List.mem_of_getElem? (i := 855) (by decide +kernel), by decide +kernel⟩
theorem wd_509 : Cond.selects RX6 yX6_takeBack yX6_takeBack ∈ m_gd := List.mem_filter.mpr ⟨List.mem_of_getElem? (i := 32) (by decide +kernel), by decide +kernel⟩
theorem wd_510 : Cond.code yX6_takeBack cX6_takeBack 2 none ∈ m_gd := List.mem_filter.mpr ⟨List.mem_of_getElem? (i := 856) (by decide +kernel), by decide +kernel⟩
theorem wd_511 : Cond.methodLink RX6 165 yX6_cellOf ∈ m_gd := List.mem_filter.mpr ⟨List.mem_of_getElem? (i := 865) (by decide +kernel), by decide +kernel⟩
theorem wd_512 : Cond.instanceMethod yX6_cellOf ∈ m_gd := List.mem_filter.mpr ⟨List.mem_of_getElem? (i := 867) (by decide +kernel), by decide +kernel⟩
theorem wd_513 : Cond.selects RX6 yX6_cellOf yX6_cellOf ∈ m_gd := List.mem_filter.mpr ⟨List.mem_of_getElem? (i := 33) (by decide +kernel), by decide +kernel⟩
theorem wd_514 : Cond.code yX6_cellOf cX6_cellOf 3 (some .int) ∈ m_gd := List.mem_filter.mpr ⟨List.mem_of_getElem? (i := 868) (by decide +kernel), by decide +kernel⟩
theorem wd_515 : Cond.methodLink RX6 168 yX6_placeOf ∈ m_gd := List.mem_filter.mpr ⟨List.mem_of_getElem? (i := 869) (by decide +kernel), by decide +kernel⟩
theorem wd_516 : Cond.instanceMethod yX6_placeOf ∈ m_gd := List.mem_filter.mpr ⟨List.mem_of_getElem? (i := 871) (by decide +kernel), by decide +kernel⟩
theorem wd_517 : Cond.selects RX6 yX6_placeOf yX6_placeOf ∈ m_gd := List.mem_filter.mpr ⟨List.mem_of_getElem? (i := 34) (by decide +kernel), by decide +kernel⟩
theorem wd_518 : Cond.code yX6_placeOf cX6_placeOf 3 (some .int) ∈ m_gd := List.mem_filter.mpr ⟨List.mem_of_getElem? (i := 872) (by decide +kernel), by decide +kernel⟩
theorem wd_519 : Cond.methodLink RX6 171 yX6_ones ∈ m_gd := List.mem_filter.mpr ⟨List.mem_of_getElem? (i := 897) (by decide +kernel), by decide +kernel⟩
theorem wd_520 : Cond.static yX6_ones ∈ m_gd := List.mem_filter.mpr ⟨List.mem_of_getElem? (i := 898) (by decide +kernel), by decide +kernel⟩
theorem wd_521 : Cond.code yX6_ones cX6_ones 1 (some .int) ∈ m_gd := List.mem_filter.mpr ⟨List.mem_of_getElem? (i := 899) (by decide +kernel), by decide +kernel⟩
theorem wd_522 : Cond.methodLink RX6 174 yX6_rightOnes ∈ m_gd := List.mem_filter.mpr ⟨List.mem_of_getElem? (i := 889) (by decide +kernel), by decide +kernel⟩
theorem wd_523 : Cond.instanceMethod yX6_rightOnes ∈ m_gd := List.mem_filter.mpr ⟨List.mem_of_getElem? (i := 891) (by decide +kernel), by decide +kernel⟩
theorem wd_524 : Cond.selects RX6 yX6_rightOnes yX6_rightOnes ∈ m_gd := List.mem_filter.mpr ⟨List.mem_of_getElem? (i := 36) (by decide +kernel), by decide +kernel⟩
theorem wd_525 : Cond.code yX6_rightOnes cX6_rightOnes 3 (some .int) ∈ m_gd := List.mem_filter.mpr ⟨List.mem_of_getElem? (i := 892) (by decide +kernel), by decide +kernel⟩
theorem wd_526 : Cond.methodLink RX6 177 yX6_marksOfBacks ∈ m_gd := List.mem_filter.mpr ⟨List.mem_of_getElem? (i := 893) (by decide +kernel), by decide +kernel⟩
theorem wd_527 : Cond.instanceMethod yX6_marksOfBacks ∈ m_gd := List.mem_filter.mpr ⟨List.mem_of_getElem? (i := 895) (by decide +kernel), by decide +kernel⟩
theorem wd_528 : Cond.selects RX6 yX6_marksOfBacks yX6_marksOfBacks ∈ m_gd := List.mem_filter.mpr ⟨List.mem_of_getElem? (i := 37) (by decide +kernel), by decide +kernel⟩
theorem wd_529 : Cond.code yX6_marksOfBacks cX6_marksOfBacks 3 (some .int) ∈ m_gd := List.mem_filter.mpr ⟨List.mem_of_getElem? (i := 896) (by decide +kernel), by decide +kernel⟩
theorem wd_530 : Cond.constantFloat RX6 180 3212836864 ∈ m_gd := List.mem_filter.mpr ⟨List.mem_of_getElem? (i := 908) (by decide +kernel), by decide +kernel⟩
theorem wd_531 : Cond.methodLink RX6 181 yX6_see ∈ m_gd := List.mem_filter.mpr ⟨List.mem_of_getElem? (i := 913) (by decide +kernel), by decide +kernel⟩
theorem wd_532 : Cond.instanceMethod yX6_see ∈ m_gd := List.mem_filter.mpr ⟨List.mem_of_getElem? (i := 915) (by decide +kernel), by decide +kernel⟩
theorem wd_533 : Cond.selects RX6 yX6_see yX6_see ∈ m_gd := List.mem_filter.mpr ⟨List.mem_of_getElem? (i := 38) (by decide +kernel), by decide +kernel⟩
theorem wd_534 : Cond.code yX6_see cX6_see 3 none ∈ m_gd := List.mem_filter.mpr ⟨List.mem_of_getElem? (i := 916) (by decide +kernel), by decide +kernel⟩
theorem wd_535 : Cond.methodLink RX6 185 yX6_single ∈ m_gd := List.mem_filter.mpr ⟨List.mem_of_getElem? (i := 917) (by decide +kernel), by decide +kernel⟩
theorem wd_536 : Cond.instanceMethod yX6_single ∈ m_gd := List.mem_filter.mpr ⟨List.mem_of_getElem? (i := 919) (by decide +kernel), by decide +kernel⟩
theorem wd_537 : Cond.selects RX6 yX6_single yX6_single ∈ m_gd := List.mem_filter.mpr ⟨List.mem_of_getElem? (i := 39) (by decide +kernel), by decide +kernel⟩
theorem wd_538 : Cond.code yX6_single cX6_single 5 (some .int) ∈ m_gd := List.mem_filter.mpr ⟨List.mem_of_getElem? (i := 920) (by decide +kernel), by decide +kernel⟩
theorem wd_539 : Cond.methodLink RX6 188 yX6_atHome ∈ m_gd := List.mem_filter.mpr ⟨List.mem_of_getElem? (i := 929) (by decide +kernel), by decide +kernel⟩
theorem wd_540 : Cond.instanceMethod yX6_atHome ∈ m_gd := List.mem_filter.mpr ⟨List.mem_of_getElem? (i := 931) (by decide +kernel), by decide +kernel⟩
theorem wd_541 : Cond.selects RX6 yX6_atHome yX6_atHome ∈ m_gd := List.mem_filter.mpr ⟨List.mem_of_getElem? (i := 40) (by decide +kernel), by decide +kernel⟩
theorem wd_542 : Cond.code yX6_atHome cX6_atHome 4 (some .int) ∈ m_gd := List.mem_filter.mpr ⟨List.mem_of_getElem? (i := 932) (by decide +kernel), by decide +kernel⟩
theorem wd_543 : Cond.methodLink RX6 191 yX6_comesBack ∈ m_gd := List.mem_filter.mpr ⟨List.mem_of_getElem? (i := 937) (by decide +kernel), by decide +kernel⟩
theorem wd_544 : Cond.instanceMethod yX6_comesBack ∈ m_gd := List.mem_filter.mpr ⟨List.mem_of_getElem? (i := 939) (by decide +kernel), by decide +kernel⟩
theorem wd_545 : Cond.selects RX6 yX6_comesBack yX6_comesBack ∈ m_gd := List.mem_filter.mpr ⟨List.mem_of_getElem? (i := 41) (by decide +kernel), by decide +kernel⟩
theorem wd_546 : Cond.code yX6_comesBack cX6_comesBack 4 (some .boolean) ∈ m_gd := List.mem_filter.mpr ⟨List.mem_of_getElem? (i := 940) (by decide +kernel), by decide +kernel⟩
theorem wd_547 : Cond.constant RJ6 265 1431655765 ∈ m_gd := List.mem_filter.mpr ⟨List.mem_of_getElem? (i := 561) (by decide +kernel), by decide +kernel⟩
theorem wd_548 : Cond.constant RJ6 266 858993459 ∈ m_gd := List.mem_filter.mpr ⟨List.mem_of_getElem? (i := 562) (by decide +kernel), by decide +kernel⟩
theorem wd_549 : Cond.constant RJ6 267 252645135 ∈ m_gd := List.mem_filter.mpr ⟨List.mem_of_getElem? (i := 563) (by decide +kernel), by decide +kernel⟩
theorem wd_550 : Cond.classLink RL 7 RX5 ∈ m_gd := List.mem_filter.mpr ⟨List.mem_of_getElem? (i := 53) (by decide +kernel), by decide +kernel⟩
theorem wd_551 : Cond.instantiable RX5 6 ∈ m_gd := List.mem_filter.mpr ⟨List.mem_of_getElem? (i := 54) (by decide +kernel), by decide +kernel⟩
theorem wd_552 : Cond.methodLink RL 9 yX5_init ∈ m_gd := List.mem_filter.mpr ⟨List.mem_of_getElem? (i := 55) (by decide +kernel), by decide +kernel⟩
theorem wd_553 : Cond.instanceMethod yX5_init ∈ m_gd := List.mem_filter.mpr ⟨List.mem_of_getElem? (i := 56) (by decide +kernel), by decide +kernel⟩
theorem wd_554 : Cond.code yX5_init cX5_init 1 none ∈ m_gd := List.mem_filter.mpr ⟨List.mem_of_getElem? (i := 57) (by decide +kernel), by decide +kernel⟩
theorem wd_555 : Cond.classLink RL 10 RX6 ∈ m_gd := List.mem_filter.mpr ⟨List.mem_of_getElem? (i := 613) (by decide +kernel), by decide +kernel⟩
theorem wd_556 : Cond.instantiable RX6 14 ∈ m_gd := List.mem_filter.mpr ⟨List.mem_of_getElem? (i := 614) (by decide +kernel), by decide +kernel⟩
theorem wd_557 : Cond.methodLink RL 12 yX6_init ∈ m_gd := List.mem_filter.mpr ⟨List.mem_of_getElem? (i := 615) (by decide +kernel), by decide +kernel⟩
theorem wd_558 : Cond.instanceMethod yX6_init ∈ m_gd := List.mem_filter.mpr ⟨List.mem_of_getElem? (i := 616) (by decide +kernel), by decide +kernel⟩
theorem wd_559 : Cond.code yX6_init cX6_init 2 none ∈ m_gd := List.mem_filter.mpr ⟨List.mem_of_getElem? (i := 617) (by decide +kernel), by decide +kernel⟩
theorem wd_560 : Cond.methodLink RL 13 yX5_swap ∈ m_gd := List.mem_filter.mpr ⟨List.mem_of_getElem? (i := 216) (by decide +kernel), by decide +kernel⟩
theorem wd_561 : Cond.instanceMethod yX5_swap ∈ m_gd := List.mem_filter.mpr ⟨List.mem_of_getElem? (i := 217) (by decide +kernel), by decide +kernel⟩
theorem wd_562 : Cond.selects RX5 yX5_swap yX5_swap ∈ m_gd := List.mem_filter.mpr ⟨List.mem_of_getElem? (i := 218) (by decide +kernel), by decide +kernel⟩
theorem wd_563 : Cond.code yX5_swap cX5_swap 3 (some .int) ∈ m_gd := List.mem_filter.mpr ⟨List.mem_of_getElem? (i := 219) (by decide +kernel), by decide +kernel⟩
theorem wd_564 : Cond.methodLink RL 17 yX6_swap ∈ m_gd := List.mem_filter.mpr ⟨List.mem_of_getElem? (i := 686) (by decide +kernel), by decide +kernel⟩
theorem wd_565 : Cond.instanceMethod yX6_swap ∈ m_gd := List.mem_filter.mpr ⟨List.mem_of_getElem? (i := 687) (by decide +kernel), by decide +kernel⟩
theorem wd_566 : Cond.selects RX6 yX6_swap yX6_swap ∈ m_gd := List.mem_filter.mpr ⟨List.mem_of_getElem? (i := 688) (by decide +kernel), by decide +kernel⟩
theorem wd_567 : Cond.code yX6_swap cX6_swap 3 (some .int) ∈ m_gd := List.mem_filter.mpr ⟨List.mem_of_getElem? (i := 689) (by decide +kernel), by decide +kernel⟩
theorem wd_568 : Cond.methodLink RL 18 yX5_mark ∈ m_gd := List.mem_filter.mpr ⟨List.mem_of_getElem? (i := 252) (by decide +kernel), by decide +kernel⟩
theorem wd_569 : Cond.instanceMethod yX5_mark ∈ m_gd := List.mem_filter.mpr ⟨List.mem_of_getElem? (i := 253) (by decide +kernel), by decide +kernel⟩
theorem wd_570 : Cond.selects RX5 yX5_mark yX5_mark ∈ m_gd := List.mem_filter.mpr ⟨List.mem_of_getElem? (i := 254) (by decide +kernel), by decide +kernel⟩
theorem wd_571 : Cond.code yX5_mark cX5_mark 4 (some .int) ∈ m_gd := List.mem_filter.mpr ⟨List.mem_of_getElem? (i := 255) (by decide +kernel), by decide +kernel⟩
theorem wd_572 : Cond.methodLink RL 22 yX6_mark ∈ m_gd := List.mem_filter.mpr ⟨List.mem_of_getElem? (i := 700) (by decide +kernel), by decide +kernel⟩
theorem wd_573 : Cond.instanceMethod yX6_mark ∈ m_gd := List.mem_filter.mpr ⟨List.mem_of_getElem? (i := 701) (by decide +kernel), by decide +kernel⟩
theorem wd_574 : Cond.selects RX6 yX6_mark yX6_mark ∈ m_gd := List.mem_filter.mpr ⟨List.mem_of_getElem? (i := 702) (by decide +kernel), by decide +kernel⟩
theorem wd_575 : Cond.code yX6_mark cX6_mark 4 (some .int) ∈ m_gd := List.mem_filter.mpr ⟨List.mem_of_getElem? (i := 703) (by decide +kernel), by decide +kernel⟩
theorem wd_576 : Cond.methodLink RL 23 yX5_lean ∈ m_gd := List.mem_filter.mpr ⟨List.mem_of_getElem? (i := 267) (by decide +kernel), by decide +kernel⟩
theorem wd_577 : Cond.instanceMethod yX5_lean ∈ m_gd := List.mem_filter.mpr ⟨List.mem_of_getElem? (i := 268) (by decide +kernel), by decide +kernel⟩
theorem wd_578 : Cond.selects RX5 yX5_lean yX5_lean ∈ m_gd := List.mem_filter.mpr ⟨List.mem_of_getElem? (i := 269) (by decide +kernel), by decide +kernel⟩
theorem wd_579 : Cond.code yX5_lean cX5_lean 4 (some .int) ∈ m_gd := List.mem_filter.mpr ⟨List.mem_of_getElem? (i := 270) (by decide +kernel), by decide +kernel⟩
theorem wd_580 : Cond.methodLink RL 26 yX6_lean ∈ m_gd := List.mem_filter.mpr ⟨List.mem_of_getElem? (i := 711) (by decide +kernel), by decide +kernel⟩
theorem wd_581 : Cond.instanceMethod yX6_lean ∈ m_gd := List.mem_filter.mpr ⟨List.mem_of_getElem? (i := 712) (by decide +kernel), by decide +kernel⟩
theorem wd_582 : Cond.selects RX6 yX6_lean yX6_lean ∈ m_gd := List.mem_filter.mpr ⟨List.mem_of_getElem? (i := 713) (by decide +kernel), by decide +kernel⟩
theorem wd_583 : Cond.code yX6_lean cX6_lean 4 (some .int) ∈ m_gd := List.mem_filter.mpr ⟨List.mem_of_getElem? (i := 714) (by decide +kernel), by decide +kernel⟩
theorem wd_584 : Cond.methodLink RL 27 yX5_changeAll ∈ m_gd := List.mem_filter.mpr ⟨List.mem_of_getElem? (i := 278) (by decide +kernel), by decide +kernel⟩
theorem wd_585 : Cond.instanceMethod yX5_changeAll ∈ m_gd := List.mem_filter.mpr ⟨List.mem_of_getElem? (i := 279) (by decide +kernel), by decide +kernel⟩
theorem wd_586 : Cond.selects RX5 yX5_changeAll yX5_changeAll ∈ m_gd := List.mem_filter.mpr ⟨List.mem_of_getElem? (i := 280) (by decide +kernel), by decide +kernel⟩
theorem wd_587 : Cond.code yX5_changeAll cX5_changeAll 3 (some .int) ∈ m_gd := List.mem_filter.mpr ⟨List.mem_of_getElem? (i := 281) (by decide +kernel), by decide +kernel⟩
theorem wd_588 : Cond.methodLink RL 31 yX6_changeAll ∈ m_gd := List.mem_filter.mpr ⟨List.mem_of_getElem? (i := 845) (by decide +kernel), by decide +kernel⟩
theorem wd_589 : Cond.instanceMethod yX6_changeAll ∈ m_gd := List.mem_filter.mpr ⟨List.mem_of_getElem? (i := 846) (by decide +kernel), by decide +kernel⟩
theorem wd_590 : Cond.selects RX6 yX6_changeAll yX6_changeAll ∈ m_gd := List.mem_filter.mpr ⟨List.mem_of_getElem? (i := 847) (by decide +kernel), by decide +kernel⟩
theorem wd_591 : Cond.code yX6_changeAll cX6_changeAll 3 (some .int) ∈ m_gd := List.mem_filter.mpr ⟨List.mem_of_getElem? (i := 848) (by decide +kernel), by decide +kernel⟩
theorem wd_592 : Cond.methodLink RL 32 yX5_set ∈ m_gd := List.mem_filter.mpr ⟨List.mem_of_getElem? (i := 328) (by decide +kernel), by decide +kernel⟩
theorem wd_593 : Cond.instanceMethod yX5_set ∈ m_gd := List.mem_filter.mpr ⟨List.mem_of_getElem? (i := 329) (by decide +kernel), by decide +kernel⟩
theorem wd_594 : Cond.selects RX5 yX5_set yX5_set ∈ m_gd := List.mem_filter.mpr ⟨List.mem_of_getElem? (i := 330) (by decide +kernel), by decide +kernel⟩
theorem wd_595 : Cond.code yX5_set cX5_set 4 (some .int) ∈ m_gd := List.mem_filter.mpr ⟨List.mem_of_getElem? (i := 331) (by decide +kernel), by decide +kernel⟩
theorem wd_596 : Cond.methodLink RL 35 yX6_set ∈ m_gd := List.mem_filter.mpr ⟨List.mem_of_getElem? (i := 718) (by decide +kernel), by decide +kernel⟩
theorem wd_597 : Cond.instanceMethod yX6_set ∈ m_gd := List.mem_filter.mpr ⟨List.mem_of_getElem? (i := 719) (by decide +kernel), by decide +kernel⟩
theorem wd_598 : Cond.selects RX6 yX6_set yX6_set ∈ m_gd := List.mem_filter.mpr ⟨List.mem_of_getElem? (i := 720) (by decide +kernel), by decide +kernel⟩
theorem wd_599 : Cond.code yX6_set cX6_set 4 (some .int) ∈ m_gd := List.mem_filter.mpr ⟨List.mem_of_getElem? (i := 721) (by decide +kernel), by decide +kernel⟩
theorem wd_600 : Cond.methodLink RL 36 yX5_print ∈ m_gd := List.mem_filter.mpr ⟨List.mem_of_getElem? (i := 336) (by decide +kernel), by decide +kernel⟩
theorem wd_601 : Cond.instanceMethod yX5_print ∈ m_gd := List.mem_filter.mpr ⟨List.mem_of_getElem? (i := 337) (by decide +kernel), by decide +kernel⟩
theorem wd_602 : Cond.selects RX5 yX5_print yX5_print ∈ m_gd := List.mem_filter.mpr ⟨List.mem_of_getElem? (i := 338) (by decide +kernel), by decide +kernel⟩
theorem wd_603 : Cond.code yX5_print cX5_print 2 (some .int) ∈ m_gd := List.mem_filter.mpr ⟨List.mem_of_getElem? (i := 339) (by decide +kernel), by decide +kernel⟩
theorem wd_604 : Cond.methodLink RL 40 yX6_print ∈ m_gd := List.mem_filter.mpr ⟨List.mem_of_getElem? (i := 728) (by decide +kernel), by decide +kernel⟩
theorem wd_605 : Cond.instanceMethod yX6_print ∈ m_gd := List.mem_filter.mpr ⟨List.mem_of_getElem? (i := 729) (by decide +kernel), by decide +kernel⟩
theorem wd_606 : Cond.selects RX6 yX6_print yX6_print ∈ m_gd := List.mem_filter.mpr ⟨List.mem_of_getElem? (i := 730) (by decide +kernel), by decide +kernel⟩
theorem wd_607 : Cond.code yX6_print cX6_print 3 (some .int) ∈ m_gd := List.mem_filter.mpr ⟨List.mem_of_getElem? (i := 731) (by decide +kernel), by decide +kernel⟩
theorem wd_608 : Cond.methodLink RL 41 yX5_cutSheet ∈ m_gd := List.mem_filter.mpr ⟨List.mem_of_getElem? (i := 371) (by decide +kernel), by decide +kernel⟩
theorem wd_609 : Cond.instanceMethod yX5_cutSheet ∈ m_gd := List.mem_filter.mpr ⟨List.mem_of_getElem? (i := 372) (by decide +kernel), by decide +kernel⟩
theorem wd_610 : Cond.selects RX5 yX5_cutSheet yX5_cutSheet ∈ m_gd := List.mem_filter.mpr ⟨List.mem_of_getElem? (i := 373) (by decide +kernel), by decide +kernel⟩
theorem wd_611 : Cond.code yX5_cutSheet cX5_cutSheet 2 (some .int) ∈ m_gd := List.mem_filter.mpr ⟨List.mem_of_getElem? (i := 374) (by decide +kernel), by decide +kernel⟩
theorem wd_612 : Cond.methodLink RL 45 yX6_cutSheet ∈ m_gd := List.mem_filter.mpr ⟨List.mem_of_getElem? (i := 743) (by decide +kernel), by decide +kernel⟩
theorem wd_613 : Cond.instanceMethod yX6_cutSheet ∈ m_gd := List.mem_filter.mpr ⟨List.mem_of_getElem? (i := 744) (by decide +kernel), by decide +kernel⟩
theorem wd_614 : Cond.selects RX6 yX6_cutSheet yX6_cutSheet ∈ m_gd := List.mem_filter.mpr ⟨List.mem_of_getElem? (i := 745) (by decide +kernel), by decide +kernel⟩
theorem wd_615 : Cond.code yX6_cutSheet cX6_cutSheet 5 (some .int) ∈ m_gd := List.mem_filter.mpr ⟨List.mem_of_getElem? (i := 746) (by decide +kernel), by decide +kernel⟩
theorem wd_616 : Cond.methodLink RL 46 yX5_cutPack ∈ m_gd := List.mem_filter.mpr ⟨List.mem_of_getElem? (i := 402) (by decide +kernel), by decide +kernel⟩
theorem wd_617 : Cond.instanceMethod yX5_cutPack ∈ m_gd := List.mem_filter.mpr ⟨List.mem_of_getElem? (i := 403) (by decide +kernel), by decide +kernel⟩
theorem wd_618 : Cond.selects RX5 yX5_cutPack yX5_cutPack ∈ m_gd := List.mem_filter.mpr ⟨List.mem_of_getElem? (i := 404) (by decide +kernel), by decide +kernel⟩
theorem wd_619 : Cond.code yX5_cutPack cX5_cutPack 3 (some .int) ∈ m_gd := List.mem_filter.mpr ⟨List.mem_of_getElem? (i := 405) (by decide +kernel), by decide +kernel⟩
theorem wd_620 : Cond.methodLink RL 49 yX6_cutPack ∈ m_gd := List.mem_filter.mpr ⟨List.mem_of_getElem? (i := 750) (by decide +kernel), by decide +kernel⟩
theorem wd_621 : Cond.instanceMethod yX6_cutPack ∈ m_gd := List.mem_filter.mpr ⟨List.mem_of_getElem? (i := 751) (by decide +kernel), by decide +kernel⟩
theorem wd_622 : Cond.selects RX6 yX6_cutPack yX6_cutPack ∈ m_gd := List.mem_filter.mpr ⟨List.mem_of_getElem? (i := 752) (by decide +kernel), by decide +kernel⟩
theorem wd_623 : Cond.code yX6_cutPack cX6_cutPack 3 (some .int) ∈ m_gd := List.mem_filter.mpr ⟨List.mem_of_getElem? (i := 753) (by decide +kernel), by decide +kernel⟩
theorem wd_624 : Cond.methodLink RL 50 yX5_shuffle ∈ m_gd := List.mem_filter.mpr ⟨List.mem_of_getElem? (i := 424) (by decide +kernel), by decide +kernel⟩
theorem wd_625 : Cond.instanceMethod yX5_shuffle ∈ m_gd := List.mem_filter.mpr ⟨List.mem_of_getElem? (i := 425) (by decide +kernel), by decide +kernel⟩
theorem wd_626 : Cond.selects RX5 yX5_shuffle yX5_shuffle ∈ m_gd := List.mem_filter.mpr ⟨List.mem_of_getElem? (i := 426) (by decide +kernel), by decide +kernel⟩
theorem wd_627 : Cond.code yX5_shuffle cX5_shuffle 3 (some .int) ∈ m_gd := List.mem_filter.mpr ⟨List.mem_of_getElem? (i := 427) (by decide +kernel), by decide +kernel⟩
theorem wd_628 : Cond.methodLink RL 53 yX6_shuffle ∈ m_gd := List.mem_filter.mpr ⟨List.mem_of_getElem? (i := 762) (by decide +kernel), by decide +kernel⟩
theorem wd_629 : Cond.instanceMethod yX6_shuffle ∈ m_gd := List.mem_filter.mpr ⟨List.mem_of_getElem? (i := 763) (by decide +kernel), by decide +kernel⟩
theorem wd_630 : Cond.selects RX6 yX6_shuffle yX6_shuffle ∈ m_gd := List.mem_filter.mpr ⟨List.mem_of_getElem? (i := 764) (by decide +kernel), by decide +kernel⟩
theorem wd_631 : Cond.code yX6_shuffle cX6_shuffle 5 (some .int) ∈ m_gd := List.mem_filter.mpr ⟨List.mem_of_getElem? (i := 765) (by decide +kernel), by decide +kernel⟩
theorem wd_632 : Cond.methodLink RL 54 yX5_deal ∈ m_gd := List.mem_filter.mpr ⟨List.mem_of_getElem? (i := 435) (by decide +kernel), by decide +kernel⟩
theorem wd_633 : Cond.instanceMethod yX5_deal ∈ m_gd := List.mem_filter.mpr ⟨List.mem_of_getElem? (i := 436) (by decide +kernel), by decide +kernel⟩
theorem wd_634 : Cond.selects RX5 yX5_deal yX5_deal ∈ m_gd := List.mem_filter.mpr ⟨List.mem_of_getElem? (i := 437) (by decide +kernel), by decide +kernel⟩
theorem wd_635 : Cond.code yX5_deal cX5_deal 3 (some .int) ∈ m_gd := List.mem_filter.mpr ⟨List.mem_of_getElem? (i := 438) (by decide +kernel), by decide +kernel⟩
theorem wd_636 : Cond.methodLink RL 57 yX6_deal ∈ m_gd := List.mem_filter.mpr ⟨List.mem_of_getElem? (i := 770) (by decide +kernel), by decide +kernel⟩
theorem wd_637 : Cond.instanceMethod yX6_deal ∈ m_gd := List.mem_filter.mpr ⟨List.mem_of_getElem? (i := 771) (by decide +kernel), by decide +kernel⟩
theorem wd_638 : Cond.selects RX6 yX6_deal yX6_deal ∈ m_gd := List.mem_filter.mpr ⟨List.mem_of_getElem? (i := 772) (by decide +kernel), by decide +kernel⟩
theorem wd_639 : Cond.code yX6_deal cX6_deal 3 (some .int) ∈ m_gd := List.mem_filter.mpr ⟨List.mem_of_getElem? (i := 773) (by decide +kernel), by decide +kernel⟩
theorem wd_640 : Cond.methodLink RL 58 yX5_sell ∈ m_gd := List.mem_filter.mpr ⟨List.mem_of_getElem? (i := 440) (by decide +kernel), by decide +kernel⟩
theorem wd_641 : Cond.instanceMethod yX5_sell ∈ m_gd := List.mem_filter.mpr ⟨List.mem_of_getElem? (i := 441) (by decide +kernel), by decide +kernel⟩
theorem wd_642 : Cond.selects RX5 yX5_sell yX5_sell ∈ m_gd := List.mem_filter.mpr ⟨List.mem_of_getElem? (i := 442) (by decide +kernel), by decide +kernel⟩
theorem wd_643 : Cond.code yX5_sell cX5_sell 3 (some .int) ∈ m_gd := List.mem_filter.mpr ⟨List.mem_of_getElem? (i := 443) (by decide +kernel), by decide +kernel⟩
theorem wd_644 : Cond.methodLink RL 61 yX6_sell ∈ m_gd := List.mem_filter.mpr ⟨List.mem_of_getElem? (i := 774) (by decide +kernel), by decide +kernel⟩
theorem wd_645 : Cond.instanceMethod yX6_sell ∈ m_gd := List.mem_filter.mpr ⟨List.mem_of_getElem? (i := 775) (by decide +kernel), by decide +kernel⟩
theorem wd_646 : Cond.selects RX6 yX6_sell yX6_sell ∈ m_gd := List.mem_filter.mpr ⟨List.mem_of_getElem? (i := 776) (by decide +kernel), by decide +kernel⟩
theorem wd_647 : Cond.code yX6_sell cX6_sell 1 (some .int) ∈ m_gd := List.mem_filter.mpr ⟨List.mem_of_getElem? (i := 777) (by decide +kernel), by decide +kernel⟩
theorem wd_648 : Cond.methodLink RL 62 yX5_pulp ∈ m_gd := List.mem_filter.mpr ⟨List.mem_of_getElem? (i := 475) (by decide +kernel), by decide +kernel⟩
theorem wd_649 : Cond.instanceMethod yX5_pulp ∈ m_gd := List.mem_filter.mpr ⟨List.mem_of_getElem? (i := 476) (by decide +kernel), by decide +kernel⟩
theorem wd_650 : Cond.selects RX5 yX5_pulp yX5_pulp ∈ m_gd := List.mem_filter.mpr ⟨List.mem_of_getElem? (i := 477) (by decide +kernel), by decide +kernel⟩
theorem wd_651 : Cond.code yX5_pulp cX5_pulp 2 (some .int) ∈ m_gd := List.mem_filter.mpr ⟨List.mem_of_getElem? (i := 478) (by decide +kernel), by decide +kernel⟩
theorem wd_652 : Cond.methodLink RL 65 yX6_pulp ∈ m_gd := List.mem_filter.mpr ⟨List.mem_of_getElem? (i := 805) (by decide +kernel), by decide +kernel⟩
theorem wd_653 : Cond.instanceMethod yX6_pulp ∈ m_gd := List.mem_filter.mpr ⟨List.mem_of_getElem? (i := 806) (by decide +kernel), by decide +kernel⟩
theorem wd_654 : Cond.selects RX6 yX6_pulp yX6_pulp ∈ m_gd := List.mem_filter.mpr ⟨List.mem_of_getElem? (i := 807) (by decide +kernel), by decide +kernel⟩
theorem wd_655 : Cond.code yX6_pulp cX6_pulp 2 (some .int) ∈ m_gd := List.mem_filter.mpr ⟨List.mem_of_getElem? (i := 808) (by decide +kernel), by decide +kernel⟩
theorem wd_656 : Cond.methodLink RL 66 yX5_type ∈ m_gd := List.mem_filter.mpr ⟨List.mem_of_getElem? (i := 479) (by decide +kernel), by decide +kernel⟩
theorem wd_657 : Cond.instanceMethod yX5_type ∈ m_gd := List.mem_filter.mpr ⟨List.mem_of_getElem? (i := 480) (by decide +kernel), by decide +kernel⟩
theorem wd_658 : Cond.selects RX5 yX5_type yX5_type ∈ m_gd := List.mem_filter.mpr ⟨List.mem_of_getElem? (i := 481) (by decide +kernel), by decide +kernel⟩
theorem wd_659 : Cond.code yX5_type cX5_type 2 (some .int) ∈ m_gd := List.mem_filter.mpr ⟨List.mem_of_getElem? (i := 482) (by decide +kernel), by decide +kernel⟩
theorem wd_660 : Cond.methodLink RL 70 yX6_type ∈ m_gd := List.mem_filter.mpr ⟨List.mem_of_getElem? (i := 809) (by decide +kernel), by decide +kernel⟩
theorem wd_661 : Cond.instanceMethod yX6_type ∈ m_gd := List.mem_filter.mpr ⟨List.mem_of_getElem? (i := 810) (by decide +kernel), by decide +kernel⟩
theorem wd_662 : Cond.selects RX6 yX6_type yX6_type ∈ m_gd := List.mem_filter.mpr ⟨List.mem_of_getElem? (i := 811) (by decide +kernel), by decide +kernel⟩
theorem wd_663 : Cond.code yX6_type cX6_type 2 (some .int) ∈ m_gd := List.mem_filter.mpr ⟨List.mem_of_getElem? (i := 812) (by decide +kernel), by decide +kernel⟩
theorem wd_664 : Cond.methodLink RL 71 yX5_clearText ∈ m_gd := List.mem_filter.mpr ⟨List.mem_of_getElem? (i := 487) (by decide +kernel), by decide +kernel⟩
theorem wd_665 : Cond.instanceMethod yX5_clearText ∈ m_gd := List.mem_filter.mpr ⟨List.mem_of_getElem? (i := 488) (by decide +kernel), by decide +kernel⟩
theorem wd_666 : Cond.selects RX5 yX5_clearText yX5_clearText ∈ m_gd := List.mem_filter.mpr ⟨List.mem_of_getElem? (i := 489) (by decide +kernel), by decide +kernel⟩
theorem wd_667 : Cond.code yX5_clearText cX5_clearText 2 (some .int) ∈ m_gd := List.mem_filter.mpr ⟨List.mem_of_getElem? (i := 490) (by decide +kernel), by decide +kernel⟩
theorem wd_668 : Cond.methodLink RL 74 yX6_clearText ∈ m_gd := List.mem_filter.mpr ⟨List.mem_of_getElem? (i := 813) (by decide +kernel), by decide +kernel⟩
theorem wd_669 : Cond.instanceMethod yX6_clearText ∈ m_gd := List.mem_filter.mpr ⟨List.mem_of_getElem? (i := 814) (by decide +kernel), by decide +kernel⟩
theorem wd_670 : Cond.selects RX6 yX6_clearText yX6_clearText ∈ m_gd := List.mem_filter.mpr ⟨List.mem_of_getElem? (i := 815) (by decide +kernel), by decide +kernel⟩
theorem wd_671 : Cond.code yX6_clearText cX6_clearText 2 (some .int) ∈ m_gd := List.mem_filter.mpr ⟨List.mem_of_getElem? (i := 816) (by decide +kernel), by decide +kernel⟩
theorem wd_672 : Cond.methodLink RL 75 yX5_fault ∈ m_gd := List.mem_filter.mpr ⟨List.mem_of_getElem? (i := 491) (by decide +kernel), by decide +kernel⟩
theorem wd_673 : Cond.instanceMethod yX5_fault ∈ m_gd := List.mem_filter.mpr ⟨List.mem_of_getElem? (i := 492) (by decide +kernel), by decide +kernel⟩
theorem wd_674 : Cond.selects RX5 yX5_fault yX5_fault ∈ m_gd := List.mem_filter.mpr ⟨List.mem_of_getElem? (i := 493) (by decide +kernel), by decide +kernel⟩
theorem wd_675 : Cond.code yX5_fault cX5_fault 1 (some .int) ∈ m_gd := List.mem_filter.mpr ⟨List.mem_of_getElem? (i := 494) (by decide +kernel), by decide +kernel⟩
theorem wd_676 : Cond.methodLink RL 78 yX6_fault ∈ m_gd := List.mem_filter.mpr ⟨List.mem_of_getElem? (i := 817) (by decide +kernel), by decide +kernel⟩
theorem wd_677 : Cond.instanceMethod yX6_fault ∈ m_gd := List.mem_filter.mpr ⟨List.mem_of_getElem? (i := 818) (by decide +kernel), by decide +kernel⟩
theorem wd_678 : Cond.selects RX6 yX6_fault yX6_fault ∈ m_gd := List.mem_filter.mpr ⟨List.mem_of_getElem? (i := 819) (by decide +kernel), by decide +kernel⟩
theorem wd_679 : Cond.code yX6_fault cX6_fault 1 (some .int) ∈ m_gd := List.mem_filter.mpr ⟨List.mem_of_getElem? (i := 820) (by decide +kernel), by decide +kernel⟩
theorem wd_680 : Cond.methodLink RL 79 yX5_undo ∈ m_gd := List.mem_filter.mpr ⟨List.mem_of_getElem? (i := 495) (by decide +kernel), by decide +kernel⟩
theorem wd_681 : Cond.instanceMethod yX5_undo ∈ m_gd := List.mem_filter.mpr ⟨List.mem_of_getElem? (i := 496) (by decide +kernel), by decide +kernel⟩
theorem wd_682 : Cond.selects RX5 yX5_undo yX5_undo ∈ m_gd := List.mem_filter.mpr ⟨List.mem_of_getElem? (i := 497) (by decide +kernel), by decide +kernel⟩
theorem wd_683 : Cond.code yX5_undo cX5_undo 1 (some .int) ∈ m_gd := List.mem_filter.mpr ⟨List.mem_of_getElem? (i := 498) (by decide +kernel), by decide +kernel⟩
theorem wd_684 : Cond.methodLink RL 82 yX6_undo ∈ m_gd := List.mem_filter.mpr ⟨List.mem_of_getElem? (i := 662) (by decide +kernel), by decide +kernel⟩
theorem wd_685 : Cond.instanceMethod yX6_undo ∈ m_gd := List.mem_filter.mpr ⟨List.mem_of_getElem? (i := 663) (by decide +kernel), by decide +kernel⟩
theorem wd_686 : Cond.selects RX6 yX6_undo yX6_undo ∈ m_gd := List.mem_filter.mpr ⟨List.mem_of_getElem? (i := 664) (by decide +kernel), by decide +kernel⟩
theorem wd_687 : Cond.code yX6_undo cX6_undo 2 (some .int) ∈ m_gd := List.mem_filter.mpr ⟨List.mem_of_getElem? (i := 665) (by decide +kernel), by decide +kernel⟩
theorem wd_688 : Cond.methodLink RL 83 yX5_keep ∈ m_gd := List.mem_filter.mpr ⟨List.mem_of_getElem? (i := 503) (by decide +kernel), by decide +kernel⟩
theorem wd_689 : Cond.instanceMethod yX5_keep ∈ m_gd := List.mem_filter.mpr ⟨List.mem_of_getElem? (i := 504) (by decide +kernel), by decide +kernel⟩
theorem wd_690 : Cond.selects RX5 yX5_keep yX5_keep ∈ m_gd := List.mem_filter.mpr ⟨List.mem_of_getElem? (i := 505) (by decide +kernel), by decide +kernel⟩
theorem wd_691 : Cond.code yX5_keep cX5_keep 1 (some .int) ∈ m_gd := List.mem_filter.mpr ⟨List.mem_of_getElem? (i := 506) (by decide +kernel), by decide +kernel⟩
theorem wd_692 : Cond.methodLink RL 86 yX6_keep ∈ m_gd := List.mem_filter.mpr ⟨List.mem_of_getElem? (i := 666) (by decide +kernel), by decide +kernel⟩
theorem wd_693 : Cond.instanceMethod yX6_keep ∈ m_gd := List.mem_filter.mpr ⟨List.mem_of_getElem? (i := 667) (by decide +kernel), by decide +kernel⟩
theorem wd_694 : Cond.selects RX6 yX6_keep yX6_keep ∈ m_gd := List.mem_filter.mpr ⟨List.mem_of_getElem? (i := 668) (by decide +kernel), by decide +kernel⟩
theorem wd_695 : Cond.code yX6_keep cX6_keep 2 (some .int) ∈ m_gd := List.mem_filter.mpr ⟨List.mem_of_getElem? (i := 669) (by decide +kernel), by decide +kernel⟩
theorem wd_696 : Cond.methodLink RL 87 yX5_restore ∈ m_gd := List.mem_filter.mpr ⟨List.mem_of_getElem? (i := 508) (by decide +kernel), by decide +kernel⟩
theorem wd_697 : Cond.instanceMethod yX5_restore ∈ m_gd := List.mem_filter.mpr ⟨List.mem_of_getElem? (i := 509) (by decide +kernel), by decide +kernel⟩
theorem wd_698 : Cond.selects RX5 yX5_restore yX5_restore ∈ m_gd := List.mem_filter.mpr ⟨List.mem_of_getElem? (i := 510) (by decide +kernel), by decide +kernel⟩
theorem wd_699 : Cond.code yX5_restore cX5_restore 1 (some .int) ∈ m_gd := List.mem_filter.mpr ⟨List.mem_of_getElem? (i := 511) (by decide +kernel), by decide +kernel⟩
theorem wd_700 : Cond.methodLink RL 90 yX6_restore ∈ m_gd := List.mem_filter.mpr ⟨List.mem_of_getElem? (i := 670) (by decide +kernel), by decide +kernel⟩
theorem wd_701 : Cond.instanceMethod yX6_restore ∈ m_gd := List.mem_filter.mpr ⟨List.mem_of_getElem? (i := 671) (by decide +kernel), by decide +kernel⟩
theorem wd_702 : Cond.selects RX6 yX6_restore yX6_restore ∈ m_gd := List.mem_filter.mpr ⟨List.mem_of_getElem? (i := 672) (by decide +kernel), by decide +kernel⟩
theorem wd_703 : Cond.code yX6_restore cX6_restore 2 (some .int) ∈ m_gd := List.mem_filter.mpr ⟨List.mem_of_getElem? (i := 673) (by decide +kernel), by decide +kernel⟩
theorem wd_704 : Cond.methodLink RL 91 yX5_block ∈ m_gd := List.mem_filter.mpr ⟨List.mem_of_getElem? (i := 512) (by decide +kernel), by decide +kernel⟩
theorem wd_705 : Cond.instanceMethod yX5_block ∈ m_gd := List.mem_filter.mpr ⟨List.mem_of_getElem? (i := 513) (by decide +kernel), by decide +kernel⟩
theorem wd_706 : Cond.selects RX5 yX5_block yX5_block ∈ m_gd := List.mem_filter.mpr ⟨List.mem_of_getElem? (i := 514) (by decide +kernel), by decide +kernel⟩
theorem wd_707 : Cond.code yX5_block cX5_block 3 (some .int) ∈ m_gd := List.mem_filter.mpr ⟨List.mem_of_getElem? (i := 515) (by decide +kernel), by decide +kernel⟩
theorem wd_708 : Cond.methodLink RL 94 yX6_block ∈ m_gd := List.mem_filter.mpr ⟨List.mem_of_getElem? (i := 857) (by decide +kernel), by decide +kernel⟩
theorem wd_709 : Cond.instanceMethod yX6_block ∈ m_gd := List.mem_filter.mpr ⟨List.mem_of_getElem? (i := 858) (by decide +kernel), by decide +kernel⟩
theorem wd_710 : Cond.selects RX6 yX6_block yX6_block ∈ m_gd := List.mem_filter.mpr ⟨List.mem_of_getElem? (i := 859) (by decide +kernel), by decide +kernel⟩
theorem wd_711 : Cond.code yX6_block cX6_block 3 (some .int) ∈ m_gd := List.mem_filter.mpr ⟨List.mem_of_getElem? (i := 860) (by decide +kernel), by decide +kernel⟩
theorem wd_712 : Cond.methodLink RL 95 yX5_cardOf ∈ m_gd := List.mem_filter.mpr ⟨List.mem_of_getElem? (i := 516) (by decide +kernel), by decide +kernel⟩
theorem wd_713 : Cond.instanceMethod yX5_cardOf ∈ m_gd := List.mem_filter.mpr ⟨List.mem_of_getElem? (i := 517) (by decide +kernel), by decide +kernel⟩
theorem wd_714 : Cond.selects RX5 yX5_cardOf yX5_cardOf ∈ m_gd := List.mem_filter.mpr ⟨List.mem_of_getElem? (i := 518) (by decide +kernel), by decide +kernel⟩
theorem wd_715 : Cond.code yX5_cardOf cX5_cardOf 3 (some .int) ∈ m_gd := List.mem_filter.mpr ⟨List.mem_of_getElem? (i := 519) (by decide +kernel), by decide +kernel⟩
theorem wd_716 : Cond.methodLink RL 98 yX6_cardOf ∈ m_gd := List.mem_filter.mpr ⟨List.mem_of_getElem? (i := 861) (by decide +kernel), by decide +kernel⟩
theorem wd_717 : Cond.instanceMethod yX6_cardOf ∈ m_gd := List.mem_filter.mpr ⟨List.mem_of_getElem? (i := 862) (by decide +kernel), by decide +kernel⟩
theorem wd_718 : Cond.selects RX6 yX6_cardOf yX6_cardOf ∈ m_gd := List.mem_filter.mpr ⟨List.mem_of_getElem? (i := 863) (by decide +kernel), by decide +kernel⟩
theorem wd_719 : Cond.code yX6_cardOf cX6_cardOf 3 (some .int) ∈ m_gd := List.mem_filter.mpr ⟨List.mem_of_getElem? (i := 864) (by decide +kernel), by decide +kernel⟩
theorem wd_720 : Cond.methodLink RL 99 yX5_sheet ∈ m_gd := List.mem_filter.mpr ⟨List.mem_of_getElem? (i := 529) (by decide +kernel), by decide +kernel⟩
theorem wd_721 : Cond.instanceMethod yX5_sheet ∈ m_gd := List.mem_filter.mpr ⟨List.mem_of_getElem? (i := 530) (by decide +kernel), by decide +kernel⟩
theorem wd_722 : Cond.selects RX5 yX5_sheet yX5_sheet ∈ m_gd := List.mem_filter.mpr ⟨List.mem_of_getElem? (i := 531) (by decide +kernel), by decide +kernel⟩
theorem wd_723 : Cond.code yX5_sheet cX5_sheet 6 (some .int) ∈ m_gd := List.mem_filter.mpr ⟨List.mem_of_getElem? (i := 532) (by decide +kernel), by decide +kernel⟩
theorem wd_724 : Cond.methodLink RL 103 yX6_sheet ∈ m_gd := List.mem_filter.mpr ⟨List.mem_of_getElem? (i := 873) (by decide +kernel), by decide +kernel⟩
theorem wd_725 : Cond.instanceMethod yX6_sheet ∈ m_gd := List.mem_filter.mpr ⟨List.mem_of_getElem? (i := 874) (by decide +kernel), by decide +kernel⟩
theorem wd_726 : Cond.selects RX6 yX6_sheet yX6_sheet ∈ m_gd := List.mem_filter.mpr ⟨List.mem_of_getElem? (i := 875) (by decide +kernel), by decide +kernel⟩
theorem wd_727 : Cond.code yX6_sheet cX6_sheet 4 (some .int) ∈ m_gd := List.mem_filter.mpr ⟨List.mem_of_getElem? (i := 876) (by decide +kernel), by decide +kernel⟩
theorem wd_728 : Cond.methodLink RL 104 yX5_pack ∈ m_gd := List.mem_filter.mpr ⟨List.mem_of_getElem? (i := 533) (by decide +kernel), by decide +kernel⟩
theorem wd_729 : Cond.instanceMethod yX5_pack ∈ m_gd := List.mem_filter.mpr ⟨List.mem_of_getElem? (i := 534) (by decide +kernel), by decide +kernel⟩
theorem wd_730 : Cond.selects RX5 yX5_pack yX5_pack ∈ m_gd := List.mem_filter.mpr ⟨List.mem_of_getElem? (i := 535) (by decide +kernel), by decide +kernel⟩
theorem wd_731 : Cond.code yX5_pack cX5_pack 4 (some .int) ∈ m_gd := List.mem_filter.mpr ⟨List.mem_of_getElem? (i := 536) (by decide +kernel), by decide +kernel⟩
theorem wd_732 : Cond.methodLink RL 107 yX6_pack ∈ m_gd := List.mem_filter.mpr ⟨List.mem_of_getElem? (i := 877) (by decide +kernel), by decide +kernel⟩
theorem wd_733 : Cond.instanceMethod yX6_pack ∈ m_gd := List.mem_filter.mpr ⟨List.mem_of_getElem? (i := 878) (by decide +kernel), by decide +kernel⟩
theorem wd_734 : Cond.selects RX6 yX6_pack yX6_pack ∈ m_gd := List.mem_filter.mpr ⟨List.mem_of_getElem? (i := 879) (by decide +kernel), by decide +kernel⟩
theorem wd_735 : Cond.code yX6_pack cX6_pack 3 (some .int) ∈ m_gd := List.mem_filter.mpr ⟨List.mem_of_getElem? (i := 880) (by decide +kernel), by decide +kernel⟩
theorem wd_736 : Cond.methodLink RL 108 yX5_count ∈ m_gd := List.mem_filter.mpr ⟨List.mem_of_getElem? (i := 544) (by decide +kernel), by decide +kernel⟩
theorem wd_737 : Cond.instanceMethod yX5_count ∈ m_gd := List.mem_filter.mpr ⟨List.mem_of_getElem? (i := 545) (by decide +kernel), by decide +kernel⟩
theorem wd_738 : Cond.selects RX5 yX5_count yX5_count ∈ m_gd := List.mem_filter.mpr ⟨List.mem_of_getElem? (i := 546) (by decide +kernel), by decide +kernel⟩
theorem wd_739 : Cond.code yX5_count cX5_count 2 (some .int) ∈ m_gd := List.mem_filter.mpr ⟨List.mem_of_getElem? (i := 547) (by decide +kernel), by decide +kernel⟩
theorem wd_740 : Cond.methodLink RL 111 yX6_count ∈ m_gd := List.mem_filter.mpr ⟨List.mem_of_getElem? (i := 885) (by decide +kernel), by decide +kernel⟩
theorem wd_741 : Cond.instanceMethod yX6_count ∈ m_gd := List.mem_filter.mpr ⟨List.mem_of_getElem? (i := 886) (by decide +kernel), by decide +kernel⟩
theorem wd_742 : Cond.selects RX6 yX6_count yX6_count ∈ m_gd := List.mem_filter.mpr ⟨List.mem_of_getElem? (i := 887) (by decide +kernel), by decide +kernel⟩
theorem wd_743 : Cond.code yX6_count cX6_count 2 (some .int) ∈ m_gd := List.mem_filter.mpr ⟨List.mem_of_getElem? (i := 888) (by decide +kernel), by decide +kernel⟩
theorem wd_744 : Cond.methodLink RL 112 yX5_why ∈ m_gd := List.mem_filter.mpr ⟨List.mem_of_getElem? (i := 565) (by decide +kernel), by decide +kernel⟩
theorem wd_745 : Cond.instanceMethod yX5_why ∈ m_gd := List.mem_filter.mpr ⟨List.mem_of_getElem? (i := 566) (by decide +kernel), by decide +kernel⟩
theorem wd_746 : Cond.selects RX5 yX5_why yX5_why ∈ m_gd := List.mem_filter.mpr ⟨List.mem_of_getElem? (i := 567) (by decide +kernel), by decide +kernel⟩
theorem wd_747 : Cond.code yX5_why cX5_why 1 (some .int) ∈ m_gd := List.mem_filter.mpr ⟨List.mem_of_getElem? (i := 568) (by decide +kernel), by decide +kernel⟩
theorem wd_748 : Cond.methodLink RL 115 yX6_why ∈ m_gd := List.mem_filter.mpr ⟨List.mem_of_getElem? (i := 900) (by decide +kernel), by decide +kernel⟩
theorem wd_749 : Cond.instanceMethod yX6_why ∈ m_gd := List.mem_filter.mpr ⟨List.mem_of_getElem? (i := 901) (by decide +kernel), by decide +kernel⟩
theorem wd_750 : Cond.selects RX6 yX6_why yX6_why ∈ m_gd := List.mem_filter.mpr ⟨List.mem_of_getElem? (i := 902) (by decide +kernel), by decide +kernel⟩
theorem wd_751 : Cond.code yX6_why cX6_why 1 (some .int) ∈ m_gd := List.mem_filter.mpr ⟨List.mem_of_getElem? (i := 903) (by decide +kernel), by decide +kernel⟩
theorem wd_752 : Cond.methodLink RL 116 yX5_chances ∈ m_gd := List.mem_filter.mpr ⟨List.mem_of_getElem? (i := 569) (by decide +kernel), by decide +kernel⟩
theorem wd_753 : Cond.instanceMethod yX5_chances ∈ m_gd := List.mem_filter.mpr ⟨List.mem_of_getElem? (i := 570) (by decide +kernel), by decide +kernel⟩
theorem wd_754 : Cond.selects RX5 yX5_chances yX5_chances ∈ m_gd := List.mem_filter.mpr ⟨List.mem_of_getElem? (i := 571) (by decide +kernel), by decide +kernel⟩
theorem wd_755 : Cond.code yX5_chances cX5_chances 1 (some .float) ∈ m_gd := List.mem_filter.mpr ⟨List.mem_of_getElem? (i := 572) (by decide +kernel), by decide +kernel⟩
theorem wd_756 : Cond.methodLink RL 120 yX6_chances ∈ m_gd := List.mem_filter.mpr ⟨List.mem_of_getElem? (i := 904) (by decide +kernel), by decide +kernel⟩
theorem wd_757 : Cond.instanceMethod yX6_chances ∈ m_gd := List.mem_filter.mpr ⟨List.mem_of_getElem? (i := 905) (by decide +kernel), by decide +kernel⟩
theorem wd_758 : Cond.selects RX6 yX6_chances yX6_chances ∈ m_gd := List.mem_filter.mpr ⟨List.mem_of_getElem? (i := 906) (by decide +kernel), by decide +kernel⟩
theorem wd_759 : Cond.code yX6_chances cX6_chances 3 (some .float) ∈ m_gd := List.mem_filter.mpr ⟨List.mem_of_getElem? (i := 907) (by decide +kernel), by decide +kernel⟩
theorem wd_760 : Cond.methodLink RL 121 yX5_ifPrinted ∈ m_gd := List.mem_filter.mpr ⟨List.mem_of_getElem? (i := 578) (by decide +kernel), by decide +kernel⟩
theorem wd_761 : Cond.instanceMethod yX5_ifPrinted ∈ m_gd := List.mem_filter.mpr ⟨List.mem_of_getElem? (i := 579) (by decide +kernel), by decide +kernel⟩
theorem wd_762 : Cond.selects RX5 yX5_ifPrinted yX5_ifPrinted ∈ m_gd := List.mem_filter.mpr ⟨List.mem_of_getElem? (i := 580) (by decide +kernel), by decide +kernel⟩
theorem wd_763 : Cond.code yX5_ifPrinted cX5_ifPrinted 2 (some .int) ∈ m_gd := List.mem_filter.mpr ⟨List.mem_of_getElem? (i := 581) (by decide +kernel), by decide +kernel⟩
theorem wd_764 : Cond.methodLink RL 124 yX6_ifPrinted ∈ m_gd := List.mem_filter.mpr ⟨List.mem_of_getElem? (i := 909) (by decide +kernel), by decide +kernel⟩
theorem wd_765 : Cond.instanceMethod yX6_ifPrinted ∈ m_gd := List.mem_filter.mpr ⟨List.mem_of_getElem? (i := 910) (by decide +kernel), by decide +kernel⟩
theorem wd_766 : Cond.selects RX6 yX6_ifPrinted yX6_ifPrinted ∈ m_gd := List.mem_filter.mpr ⟨List.mem_of_getElem? (i := 911) (by decide +kernel), by decide +kernel⟩
theorem wd_767 : Cond.code yX6_ifPrinted cX6_ifPrinted 2 (some .int) ∈ m_gd := List.mem_filter.mpr ⟨List.mem_of_getElem? (i := 912) (by decide +kernel), by decide +kernel⟩
theorem wd_768 : Cond.methodLink RL 125 yX5_worstFlaw ∈ m_gd := List.mem_filter.mpr ⟨List.mem_of_getElem? (i := 586) (by decide +kernel), by decide +kernel⟩
theorem wd_769 : Cond.instanceMethod yX5_worstFlaw ∈ m_gd := List.mem_filter.mpr ⟨List.mem_of_getElem? (i := 587) (by decide +kernel), by decide +kernel⟩
theorem wd_770 : Cond.selects RX5 yX5_worstFlaw yX5_worstFlaw ∈ m_gd := List.mem_filter.mpr ⟨List.mem_of_getElem? (i := 588) (by decide +kernel), by decide +kernel⟩
theorem wd_771 : Cond.code yX5_worstFlaw cX5_worstFlaw 6 (some .int) ∈ m_gd := List.mem_filter.mpr ⟨List.mem_of_getElem? (i := 589) (by decide +kernel), by decide +kernel⟩
theorem wd_772 : Cond.methodLink RL 128 yX6_worstFlaw ∈ m_gd := List.mem_filter.mpr ⟨List.mem_of_getElem? (i := 921) (by decide +kernel), by decide +kernel⟩
theorem wd_773 : Cond.instanceMethod yX6_worstFlaw ∈ m_gd := List.mem_filter.mpr ⟨List.mem_of_getElem? (i := 922) (by decide +kernel), by decide +kernel⟩
theorem wd_774 : Cond.selects RX6 yX6_worstFlaw yX6_worstFlaw ∈ m_gd := List.mem_filter.mpr ⟨List.mem_of_getElem? (i := 923) (by decide +kernel), by decide +kernel⟩
theorem wd_775 : Cond.code yX6_worstFlaw cX6_worstFlaw 6 (some .int) ∈ m_gd := List.mem_filter.mpr ⟨List.mem_of_getElem? (i := 924) (by decide +kernel), by decide +kernel⟩
theorem wd_776 : Cond.methodLink RL 129 yX5_bestWay ∈ m_gd := List.mem_filter.mpr ⟨List.mem_of_getElem? (i := 590) (by decide +kernel), by decide +kernel⟩
theorem wd_777 : Cond.instanceMethod yX5_bestWay ∈ m_gd := List.mem_filter.mpr ⟨List.mem_of_getElem? (i := 591) (by decide +kernel), by decide +kernel⟩
theorem wd_778 : Cond.selects RX5 yX5_bestWay yX5_bestWay ∈ m_gd := List.mem_filter.mpr ⟨List.mem_of_getElem? (i := 592) (by decide +kernel), by decide +kernel⟩
theorem wd_779 : Cond.code yX5_bestWay cX5_bestWay 6 (some .int) ∈ m_gd := List.mem_filter.mpr ⟨List.mem_of_getElem? (i := 593) (by decide +kernel), by decide +kernel⟩
theorem wd_780 : Cond.methodLink RL 132 yX6_bestWay ∈ m_gd := List.mem_filter.mpr ⟨List.mem_of_getElem? (i := 925) (by decide +kernel), by decide +kernel⟩
theorem wd_781 : Cond.instanceMethod yX6_bestWay ∈ m_gd := List.mem_filter.mpr ⟨List.mem_of_getElem? (i := 926) (by decide +kernel), by decide +kernel⟩
theorem wd_782 : Cond.selects RX6 yX6_bestWay yX6_bestWay ∈ m_gd := List.mem_filter.mpr ⟨List.mem_of_getElem? (i := 927) (by decide +kernel), by decide +kernel⟩
theorem wd_783 : Cond.code yX6_bestWay cX6_bestWay 3 (some .int) ∈ m_gd := List.mem_filter.mpr ⟨List.mem_of_getElem? (i := 928) (by decide +kernel), by decide +kernel⟩
theorem wd_784 : Cond.methodLink RL 133 yX5_backIn ∈ m_gd := List.mem_filter.mpr ⟨List.mem_of_getElem? (i := 599) (by decide +kernel), by decide +kernel⟩
theorem wd_785 : Cond.instanceMethod yX5_backIn ∈ m_gd := List.mem_filter.mpr ⟨List.mem_of_getElem? (i := 600) (by decide +kernel), by decide +kernel⟩
theorem wd_786 : Cond.selects RX5 yX5_backIn yX5_backIn ∈ m_gd := List.mem_filter.mpr ⟨List.mem_of_getElem? (i := 601) (by decide +kernel), by decide +kernel⟩
theorem wd_787 : Cond.code yX5_backIn cX5_backIn 4 (some .int) ∈ m_gd := List.mem_filter.mpr ⟨List.mem_of_getElem? (i := 602) (by decide +kernel), by decide +kernel⟩
theorem wd_788 : Cond.methodLink RL 136 yX6_backIn ∈ m_gd := List.mem_filter.mpr ⟨List.mem_of_getElem? (i := 933) (by decide +kernel), by decide +kernel⟩
theorem wd_789 : Cond.instanceMethod yX6_backIn ∈ m_gd := List.mem_filter.mpr ⟨List.mem_of_getElem? (i := 934) (by decide +kernel), by decide +kernel⟩
theorem wd_790 : Cond.selects RX6 yX6_backIn yX6_backIn ∈ m_gd := List.mem_filter.mpr ⟨List.mem_of_getElem? (i := 935) (by decide +kernel), by decide +kernel⟩
theorem wd_791 : Cond.code yX6_backIn cX6_backIn 3 (some .int) ∈ m_gd := List.mem_filter.mpr ⟨List.mem_of_getElem? (i := 936) (by decide +kernel), by decide +kernel⟩
end
section
/-! the methods as tables of the plain machine (printed) -/
def tX0_init : m_Tab := [(0, m_aload 0 1), (1, m_init0), (4, m_aload 0 1), (5, m_const (.int (nI 4)) 1), (6, m_anar 3), (9, m_put 0 0 1), (12, m_aload 0 1), (13, m_const (.int (nI 0)) 1), (14, m_put 0 1 0), (17, m_aload 0 1), (18, m_const (.int (nI 0)) 1), (19, m_put 0 2 0), (22, m_const (.int (nI 0)) 1), (23, m_istore 1 1), (24, m_iload 1 1), (25, m_const (.int (nI 4)) 1), (26, m_icmp (fun x y => decide (y ≤ x)) 48), (29, m_aload 0 1), (30, m_get 0 0), (33, m_iload 1 1), (34, m_new 3 [.null, .null, .null, .null, .null, .null, .int 0, .int 0, .int 0, .int 0, .int 0]), (37, m_dup), (38, m_cob 25 0 3), (41, m_ast 3 3), (42, m_iinc 1 (nI 1)), (45, m_goto 24), (48, m_vret)]
def tX0_record : m_Tab := [(0, m_aload 0 1), (1, m_aload 0 1), (2, m_get 0 1), (5, m_aload 1 1), (6, m_cob 3 2 0), (9, m_aload 0 1), (10, m_aload 0 1), (11, m_get 0 1), (14, m_const (.int (nI 1)) 1), (15, m_bin (fun a b => a + b)), (16, m_const (.int (nI 4)) 1), (17, m_div (fun a b => a - a / b * b)), (18, m_put 0 1 0), (21, m_aload 0 1), (22, m_aload 0 1), (23, m_get 0 2), (26, m_const (.int (nI 1)) 1), (27, m_bin (fun a b => a + b)), (28, m_const (.int (nI 4)) 1), (29, m_min), (32, m_put 0 2 0), (35, m_vret)]
def tX0_takeLatestInto : m_Tab := [(0, m_aload 0 1), (1, m_get 0 2), (4, m_if (fun x => !(x == 0)) 8), (7, m_vret), (8, m_aload 0 1), (9, m_aload 0 1), (10, m_get 0 1), (13, m_const (.int (nI 4)) 1), (14, m_bin (fun a b => a + b)), (15, m_const (.int (nI 1)) 1), (16, m_bin (fun a b => a - b)), (17, m_const (.int (nI 4)) 1), (18, m_div (fun a b => a - a / b * b)), (19, m_put 0 1 0), (22, m_aload 0 1), (23, m_dup), (24, m_get 0 2), (27, m_const (.int (nI 1)) 1), (28, m_bin (fun a b => a - b)), (29, m_put 0 2 0), (32, m_aload 0 1), (33, m_get 0 1), (36, m_if (fun x => decide (x < 0)) 60), (39, m_aload 0 1), (40, m_get 0 1), (43, m_const (.int (nI 4)) 1), (44, m_icmp (fun x y => decide (y ≤ x)) 60), (47, m_aload 1 1), (48, m_aload 0 1), (49, m_get 0 0), (52, m_aload 0 1), (53, m_get 0 1), (56, m_ald), (57, m_cob 26 1 3), (60, m_vret)]
def tX0_copyTo : m_Tab := [(0, m_iload 1 1), (1, m_if (fun x => decide (x < 0)) 9), (4, m_iload 1 1), (5, m_const (.int (nI 4)) 1), (6, m_icmp (fun x y => decide (x < y)) 10), (9, m_vret), (10, m_aload 0 1), (11, m_get 0 0), (14, m_iload 1 1), (15, m_ald), (16, m_astore 3 1), (17, m_aload 3 1), (18, m_ifnull 26), (21, m_aload 3 1), (22, m_aload 2 1), (23, m_cob 26 1 3), (26, m_vret)]
def tX1_init : m_Tab := [(0, m_aload 0 1), (1, m_init0), (4, m_aload 0 1), (5, m_const (.int (nI 24)) 2), (7, m_nar 0), (9, m_put 1 0 1), (12, m_aload 0 1), (13, m_const .null 1), (14, m_put 1 1 1), (17, m_aload 0 1), (18, m_const (.int (nI 0)) 1), (19, m_put 1 2 0), (22, m_vret)]
def tX1_copyFrom : m_Tab := [(0, m_aload 1 1), (1, m_get 1 0), (4, m_aload 0 1), (5, m_get 1 0), (8, m_cst 87 2), (11, m_aload 0 1), (12, m_aload 1 1), (13, m_get 1 1), (16, m_put 1 1 1), (19, m_aload 0 1), (20, m_aload 1 1), (21, m_get 1 2), (24, m_put 1 2 0), (27, m_vret)]
def tX1_layDown : m_Tab := [(0, m_aload 1 1), (1, m_ifnonnull 5), (4, m_vret), (5, m_aload 0 1), (6, m_aload 1 1), (7, m_put 1 1 1), (10, m_aload 0 1), (11, m_const (.int (nI 0)) 1), (12, m_put 1 2 0), (15, m_const (.int (nI 0)) 1), (16, m_istore 3 1), (17, m_iload 3 1), (18, m_const (.int (nI 24)) 2), (20, m_icmp (fun x y => decide (y ≤ x)) 41), (23, m_aload 0 1), (24, m_get 1 0), (27, m_iload 3 1), (28, m_aload 1 1), (29, m_iload 2 1), (30, m_iload 3 1), (31, m_cob 23 2 2), (34, m_ist 0 (fun x => x)), (35, m_iinc 3 (nI 1)), (38, m_goto 17), (41, m_vret)]
def tX1_takeAway : m_Tab := [(0, m_aload 0 1), (1, m_const .null 1), (2, m_put 1 1 1), (5, m_aload 0 1), (6, m_const (.int (nI 0)) 1), (7, m_put 1 2 0), (10, m_vret)]
def tX1_isThere : m_Tab := [(0, m_aload 0 1), (1, m_get 1 1), (4, m_ifnull 11), (7, m_const (.int (nI 1)) 1), (8, m_goto 12), (11, m_const (.int (nI 0)) 1), (12, m_zret (fun x => x &&& 1))]
def tX1_left : m_Tab := [(0, m_aload 0 1), (1, m_get 1 1), (4, m_ifnonnull 11), (7, m_const (.int (nI 0)) 1), (8, m_goto 18), (11, m_const (.int (nI 24)) 2), (13, m_aload 0 1), (14, m_get 1 2), (17, m_bin (fun a b => a - b)), (18, m_iret)]
def tX1_hasPartsAt : m_Tab := [(0, m_iload 1 1), (1, m_const (.int (nI 1)) 1), (2, m_icmp (fun x y => decide (x < y)) 17), (5, m_iload 1 1), (6, m_aload 0 1), (7, m_cob 9 0 1), (10, m_icmp (fun x y => decide (y ≤ x)) 17), (13, m_const (.int (nI 1)) 1), (14, m_goto 18), (17, m_const (.int (nI 0)) 1), (18, m_zret (fun x => x &&& 1))]
def tX1_cardAt : m_Tab := [(0, m_aload 0 1), (1, m_get 1 0), (4, m_aload 0 1), (5, m_get 1 2), (8, m_iload 1 1), (9, m_bin (fun a b => a + b)), (10, m_cst 85 2), (13, m_iret)]
def tX1_placeOf : m_Tab := [(0, m_const (.int (nI 0)) 1), (1, m_istore 2 1), (2, m_iload 2 1), (3, m_aload 0 1), (4, m_cob 9 0 1), (7, m_icmp (fun x y => decide (y ≤ x)) 27), (10, m_aload 0 1), (11, m_iload 2 1), (12, m_cob 11 1 1), (15, m_iload 1 1), (16, m_icmp (fun x y => !(x == y)) 21), (19, m_iload 2 1), (20, m_iret), (21, m_iinc 2 (nI 1)), (24, m_goto 2), (27, m_const (.int (-5)) 2), (29, m_iret)]
def tX1_cutAt : m_Tab := [(0, m_aload 0 1), (1, m_get 1 0), (4, m_aload 2 1), (5, m_cst 87 2), (8, m_const (.int (nI 0)) 1), (9, m_istore 3 1), (10, m_iload 3 1), (11, m_aload 0 1), (12, m_cob 9 0 1), (15, m_icmp (fun x y => decide (y ≤ x)) 74), (18, m_iload 3 1), (19, m_iload 1 1), (20, m_bin (fun a b => a + b)), (21, m_aload 0 1), (22, m_cob 9 0 1), (25, m_icmp (fun x y => decide (y ≤ x)) 34), (28, m_iload 3 1), (29, m_iload 1 1), (30, m_bin (fun a b => a + b)), (31, m_goto 42), (34, m_iload 3 1), (35, m_iload 1 1), (36, m_bin (fun a b => a + b)), (37, m_aload 0 1), (38, m_cob 9 0 1), (41, m_bin (fun a b => a - b)), (42, m_istore 4 2), (44, m_aload 0 1), (45, m_get 1 0), (48, m_aload 0 1), (49, m_get 1 2), (52, m_iload 3 1), (53, m_bin (fun a b => a + b)), (54, m_aload 2 1), (55, m_aload 0 1), (56, m_get 1 2), (59, m_iload 4 2), (61, m_bin (fun a b => a + b)), (62, m_cst 85 2), (65, m_cst 86 3), (68, m_iinc 3 (nI 1)), (71, m_goto 10), (74, m_vret)]
def tX1_shuffleAt : m_Tab := [(0, m_aload 0 1), (1, m_get 1 0), (4, m_aload 2 1), (5, m_cst 87 2), (8, m_const (.int (nI 0)) 1), (9, m_istore 3 1), (10, m_const (.int (nI 0)) 1), (11, m_istore 4 2), (13, m_iload 4 2), (15, m_aload 0 1), (16, m_cob 9 0 1), (19, m_icmp (fun x y => decide (y ≤ x)) 75), (22, m_iload 4 2), (24, m_iload 1 1), (25, m_aload 0 1), (26, m_cob 9 0 1), (29, m_cst 91 3), (32, m_istore 5 2), (34, m_aload 0 1), (35, m_get 1 0), (38, m_aload 0 1), (39, m_get 1 2), (42, m_iload 4 2), (44, m_bin (fun a b => a + b)), (45, m_aload 2 1), (46, m_aload 0 1), (47, m_get 1 2), (50, m_iload 5 2), (52, m_bin (fun a b => a + b)), (53, m_cst 85 2), (56, m_cst 86 3), (59, m_iload 5 2), (61, m_iload 4 2), (63, m_icmp (fun x y => x == y) 69), (66, m_iinc 3 (nI 1)), (69, m_iinc 4 (nI 1)), (72, m_goto 13), (75, m_iload 3 1), (76, m_iret)]
def tX1_marksOf : m_Tab := [(0, m_aload 0 1), (1, m_get 1 1), (4, m_ifnonnull 12), (7, m_const (.int (-5)) 2), (9, m_goto 23), (12, m_aload 0 1), (13, m_get 1 1), (16, m_get 2 1), (19, m_iload 1 1), (20, m_cst 85 2), (23, m_iret)]
def tX1_marksAt : m_Tab := [(0, m_aload 0 1), (1, m_aload 0 1), (2, m_iload 1 1), (3, m_cob 11 1 1), (6, m_cob 15 1 1), (9, m_iret)]
def tX1_canBeAt : m_Tab := [(0, m_aload 0 1), (1, m_iload 1 1), (2, m_cob 16 1 1), (5, m_istore 2 1), (6, m_const (.int (nI 0)) 1), (7, m_istore 3 1), (8, m_const (.int (nI 0)) 1), (9, m_istore 4 2), (11, m_iload 4 2), (13, m_aload 0 1), (14, m_cob 9 0 1), (17, m_icmp (fun x y => decide (y ≤ x)) 39), (20, m_aload 0 1), (21, m_iload 4 2), (23, m_cob 16 1 1), (26, m_iload 2 1), (27, m_icmp (fun x y => !(x == y)) 33), (30, m_iinc 3 (nI 1)), (33, m_iinc 4 (nI 1)), (36, m_goto 11), (39, m_iload 3 1), (40, m_iret)]
def tX1_guessAt : m_Tab := [(0, m_aload 0 1), (1, m_iload 1 1), (2, m_cob 16 1 1), (5, m_istore 2 1), (6, m_aload 0 1), (7, m_iload 1 1), (8, m_cob 11 1 1), (11, m_istore 3 1), (12, m_const (.int (nI 0)) 1), (13, m_istore 4 2), (15, m_iload 4 2), (17, m_aload 0 1), (18, m_cob 9 0 1), (21, m_icmp (fun x y => decide (y ≤ x)) 51), (24, m_aload 0 1), (25, m_iload 4 2), (27, m_cob 16 1 1), (30, m_iload 2 1), (31, m_icmp (fun x y => !(x == y)) 45), (34, m_iload 3 1), (35, m_aload 0 1), (36, m_iload 4 2), (38, m_cob 11 1 1), (41, m_min), (44, m_istore 3 1), (45, m_iinc 4 (nI 1)), (48, m_goto 15), (51, m_iload 3 1), (52, m_iret)]
def tX1_known : m_Tab := [(0, m_const (.int (nI 0)) 1), (1, m_istore 1 1), (2, m_const (.int (nI 0)) 1), (3, m_istore 2 1), (4, m_iload 2 1), (5, m_aload 0 1), (6, m_cob 9 0 1), (9, m_icmp (fun x y => decide (y ≤ x)) 30), (12, m_aload 0 1), (13, m_iload 2 1), (14, m_cob 17 1 1), (17, m_const (.int (nI 1)) 1), (18, m_icmp (fun x y => !(x == y)) 24), (21, m_iinc 1 (nI 1)), (24, m_iinc 2 (nI 1)), (27, m_goto 4), (30, m_iload 1 1), (31, m_iret)]
def tX1_guessedRight : m_Tab := [(0, m_const (.int (nI 0)) 1), (1, m_istore 1 1), (2, m_const (.int (nI 0)) 1), (3, m_istore 2 1), (4, m_iload 2 1), (5, m_aload 0 1), (6, m_cob 9 0 1), (9, m_icmp (fun x y => decide (y ≤ x)) 34), (12, m_aload 0 1), (13, m_iload 2 1), (14, m_cob 18 1 1), (17, m_aload 0 1), (18, m_iload 2 1), (19, m_cob 11 1 1), (22, m_icmp (fun x y => !(x == y)) 28), (25, m_iinc 1 (nI 1)), (28, m_iinc 2 (nI 1)), (31, m_goto 4), (34, m_iload 1 1), (35, m_iret)]
def tX1_sumOfChances : m_Tab := [(0, m_const (.float FP.fconst0) 1), (1, m_fstore 1 1), (2, m_const (.int (nI 0)) 1), (3, m_istore 2 1), (4, m_iload 2 1), (5, m_aload 0 1), (6, m_cob 9 0 1), (9, m_icmp (fun x y => decide (y ≤ x)) 35), (12, m_aload 0 1), (13, m_iload 2 1), (14, m_cob 17 1 1), (17, m_istore 3 1), (18, m_iload 3 1), (19, m_if (fun x => decide (x ≤ 0)) 29), (22, m_fload 1 1), (23, m_const (.float FP.fconst1) 1), (24, m_iload 3 1), (25, m_i2f), (26, m_fbin FP.fdiv), (27, m_fbin FP.fadd), (28, m_fstore 1 1), (29, m_iinc 2 (nI 1)), (32, m_goto 4), (35, m_fload 1 1), (36, m_fret)]
def tX2_init : m_Tab := [(0, m_aload 0 1), (1, m_init0), (4, m_aload 0 1), (5, m_const (.int (nI 24)) 2), (7, m_nar 0), (9, m_put 2 0 1), (12, m_aload 0 1), (13, m_const (.int (nI 24)) 2), (15, m_nar 0), (17, m_put 2 1 1), (20, m_aload 0 1), (21, m_const (.int (nI 24)) 2), (23, m_nar 0), (25, m_put 2 2 1), (28, m_aload 1 1), (29, m_aload 0 1), (30, m_get 2 0), (33, m_cst 87 2), (36, m_aload 2 1), (37, m_aload 0 1), (38, m_get 2 2), (41, m_cst 87 2), (44, m_const (.int (nI 0)) 1), (45, m_istore 5 2), (47, m_iload 5 2), (49, m_const (.int (nI 24)) 2), (51, m_icmp (fun x y => decide (y ≤ x)) 92), (54, m_aload 0 1), (55, m_get 2 1), (58, m_aload 1 1), (59, m_iload 5 2), (61, m_cst 85 2), (64, m_aload 3 1), (65, m_iload 4 2), (67, m_if (fun x => x == 0) 78), (70, m_const (.int (nI 23)) 2), (72, m_iload 5 2), (74, m_bin (fun a b => a - b)), (75, m_goto 80), (78, m_iload 5 2), (80, m_cst 85 2), (83, m_cst 86 3), (86, m_iinc 5 (nI 1)), (89, m_goto 47), (92, m_vret)]
def tX2_cardCutTo : m_Tab := [(0, m_aload 0 1), (1, m_get 2 0), (4, m_iload 1 1), (5, m_iload 2 1), (6, m_cst 89 2), (9, m_cst 85 2), (12, m_iret)]
def tX2_cardsAtHome : m_Tab := [(0, m_const (.int (nI 0)) 1), (1, m_istore 2 1), (2, m_const (.int (nI 0)) 1), (3, m_istore 3 1), (4, m_iload 3 1), (5, m_const (.int (nI 24)) 2), (7, m_icmp (fun x y => decide (y ≤ x)) 29), (10, m_aload 0 1), (11, m_iload 1 1), (12, m_iload 3 1), (13, m_cob 23 2 2), (16, m_iload 3 1), (17, m_icmp (fun x y => !(x == y)) 23), (20, m_iinc 2 (nI 1)), (23, m_iinc 3 (nI 1)), (26, m_goto 4), (29, m_iload 2 1), (30, m_iret)]
def tX3_init : m_Tab := [(0, m_aload 0 1), (1, m_init0), (4, m_aload 0 1), (5, m_const (.int (nI 24)) 2), (7, m_nar 0), (9, m_put 3 0 1), (12, m_aload 0 1), (13, m_const (.int (nI 24)) 2), (15, m_nar 0), (17, m_put 3 1 1), (20, m_aload 0 1), (21, m_const (.int (nI 24)) 2), (23, m_nar 0), (25, m_put 3 2 1), (28, m_aload 0 1), (29, m_const (.int (nI 4)) 1), (30, m_nar 0), (32, m_put 3 3 1), (35, m_aload 0 1), (36, m_const (.int (nI 6)) 2), (38, m_anar 2), (41, m_put 3 4 1), (44, m_aload 0 1), (45, m_new 1 [.null, .null, .int 0]), (48, m_dup), (49, m_cob 4 0 1), (52, m_put 3 5 1), (55, m_aload 0 1), (56, m_const (.int (nI 0)) 1), (57, m_put 3 6 0), (60, m_aload 0 1), (61, m_const (.int (nI 0)) 1), (62, m_put 3 7 0), (65, m_aload 0 1), (66, m_const (.int (nI 0)) 1), (67, m_put 3 8 0), (70, m_aload 0 1), (71, m_const (.int (nI 0)) 1), (72, m_put 3 9 0), (75, m_aload 0 1), (76, m_const (.int (nI 0)) 1), (77, m_put 3 10 0), (80, m_const (.int (nI 0)) 1), (81, m_istore 1 1), (82, m_iload 1 1), (83, m_const (.int (nI 24)) 2), (85, m_icmp (fun x y => decide (y ≤ x)) 101), (88, m_aload 0 1), (89, m_get 3 0), (92, m_iload 1 1), (93, m_iload 1 1), (94, m_ist 0 (fun x => x)), (95, m_iinc 1 (nI 1)), (98, m_goto 82), (101, m_gets 0), (104, m_aload 0 1), (105, m_get 3 3), (108, m_cst 87 2), (111, m_vret)]
def tX3_copyFrom_0 : m_Tab := [(0, m_aload 1 1), (1, m_ifnonnull 5), (4, m_vret), (5, m_aload 1 1), (6, m_get 3 0), (9, m_aload 0 1), (10, m_get 3 0), (13, m_cst 87 2), (16, m_aload 1 1), (17, m_get 3 1), (20, m_aload 0 1), (21, m_get 3 1), (24, m_cst 87 2), (27, m_aload 1 1), (28, m_get 3 2), (31, m_aload 0 1), (32, m_get 3 2), (35, m_cst 87 2), (38, m_aload 1 1), (39, m_get 3 3), (42, m_aload 0 1), (43, m_get 3 3), (46, m_cst 87 2), (49, m_const (.int (nI 0)) 1), (50, m_istore 2 1), (51, m_iload 2 1), (52, m_const (.int (nI 6)) 2), (54, m_icmp (fun x y => decide (y ≤ x)) 75), (57, m_aload 0 1), (58, m_get 3 4), (61, m_iload 2 1), (62, m_aload 1 1), (63, m_get 3 4), (66, m_iload 2 1), (67, m_ald), (68, m_ast 2 2), (69, m_iinc 2 (nI 1)), (72, m_goto 51), (75, m_aload 0 1), (76, m_get 3 5), (79, m_aload 1 1), (80, m_get 3 5), (83, m_cob 5 1 1), (86, m_aload 0 1), (87, m_aload 1 1), (88, m_get 3 6), (91, m_put 3 6 0), (94, m_aload 0 1), (95, m_aload 1 1), (96, m_get 3 7), (99, m_put 3 7 0), (102, m_aload 0 1), (103, m_aload 1 1), (104, m_get 3 8), (107, m_put 3 8 0), (110, m_aload 0 1), (111, m_aload 1 1), (112, m_get 3 9), (115, m_put 3 9 0), (118, m_aload 0 1)]
def tX3_copyFrom_1 : m_Tab := [(119, m_aload 1 1), (120, m_get 3 10), (123, m_put 3 10 0), (126, m_vret)]
def tX3_copyFrom : m_Tab := tX3_copyFrom_0 ++ (tX3_copyFrom_1)
def tX3_exchange : m_Tab := [(0, m_aload 0 1), (1, m_get 3 0), (4, m_iload 1 1), (5, m_cst 85 2), (8, m_istore 3 1), (9, m_aload 0 1), (10, m_get 3 0), (13, m_iload 1 1), (14, m_aload 0 1), (15, m_get 3 0), (18, m_iload 2 1), (19, m_cst 85 2), (22, m_cst 86 3), (25, m_aload 0 1), (26, m_get 3 0), (29, m_iload 2 1), (30, m_iload 3 1), (31, m_cst 86 3), (34, m_vret)]
def tX3_cellOf : m_Tab := [(0, m_const (.int (nI 0)) 1), (1, m_istore 2 1), (2, m_iload 2 1), (3, m_const (.int (nI 24)) 2), (5, m_icmp (fun x y => decide (y ≤ x)) 26), (8, m_aload 0 1), (9, m_get 3 0), (12, m_iload 2 1), (13, m_ild 0), (14, m_iload 1 1), (15, m_icmp (fun x y => !(x == y)) 20), (18, m_iload 2 1), (19, m_iret), (20, m_iinc 2 (nI 1)), (23, m_goto 2), (26, m_const (.int (-5)) 2), (28, m_iret)]
def tX3_hasMark : m_Tab := [(0, m_aload 0 1), (1, m_get 3 2), (4, m_iload 1 1), (5, m_cst 85 2), (8, m_iload 2 1), (9, m_bin (fun a b => a >>> (b &&& 31))), (10, m_const (.int (nI 1)) 1), (11, m_bin (fun a b => a &&& b)), (12, m_const (.int (nI 1)) 1), (13, m_icmp (fun x y => !(x == y)) 20), (16, m_const (.int (nI 1)) 1), (17, m_goto 21), (20, m_const (.int (nI 0)) 1), (21, m_zret (fun x => x &&& 1))]
def tX3_setMark : m_Tab := [(0, m_aload 0 1), (1, m_get 3 2), (4, m_iload 1 1), (5, m_cst 85 2), (8, m_const (.int (nI 1)) 1), (9, m_iload 2 1), (10, m_bin (fun a b => a <<< (b &&& 31))), (11, m_const (.int (-1)) 1), (12, m_bin (fun a b => a ^^^ b)), (13, m_bin (fun a b => a &&& b)), (14, m_istore 4 2), (16, m_aload 0 1), (17, m_get 3 2), (20, m_iload 1 1), (21, m_iload 3 1), (22, m_if (fun x => x == 0) 34), (25, m_iload 4 2), (27, m_const (.int (nI 1)) 1), (28, m_iload 2 1), (29, m_bin (fun a b => a <<< (b &&& 31))), (30, m_bin (fun a b => a ||| b)), (31, m_goto 36), (34, m_iload 4 2), (36, m_cst 86 3), (39, m_vret)]
def tX3_marksOnBacks : m_Tab := [(0, m_const (.int (nI 0)) 1), (1, m_istore 1 1), (2, m_const (.int (nI 0)) 1), (3, m_istore 2 1), (4, m_iload 2 1), (5, m_const (.int (nI 24)) 2), (7, m_icmp (fun x y => decide (y ≤ x)) 28), (10, m_iload 1 1), (11, m_aload 0 1), (12, m_get 3 2), (15, m_iload 2 1), (16, m_ild 0), (17, m_cst 168 1), (20, m_bin (fun a b => a + b)), (21, m_istore 1 1), (22, m_iinc 2 (nI 1)), (25, m_goto 4), (28, m_iload 1 1), (29, m_iret)]
def tX3_sheetAt : m_Tab := [(0, m_iload 1 1), (1, m_if (fun x => decide (x < 0)) 21), (4, m_iload 1 1), (5, m_aload 0 1), (6, m_get 3 6), (9, m_icmp (fun x y => decide (y ≤ x)) 21), (12, m_aload 0 1), (13, m_get 3 6), (16, m_const (.int (nI 6)) 2), (18, m_icmp (fun x y => decide (x ≤ y)) 23), (21, m_const .null 1), (22, m_aret), (23, m_aload 0 1), (24, m_get 3 4), (27, m_aload 0 1), (28, m_get 3 6), (31, m_const (.int (nI 1)) 1), (32, m_bin (fun a b => a - b)), (33, m_iload 1 1), (34, m_bin (fun a b => a - b)), (35, m_ald), (36, m_aret)]
def tX3_printSheet : m_Tab := [(0, m_aload 0 1), (1, m_get 3 6), (4, m_if (fun x => decide (x < 0)) 16), (7, m_aload 0 1), (8, m_get 3 6), (11, m_const (.int (nI 6)) 2), (13, m_icmp (fun x y => decide (x < y)) 17), (16, m_vret), (17, m_aload 0 1), (18, m_get 3 4), (21, m_aload 0 1), (22, m_get 3 6), (25, m_new 2 [.null, .null, .null]), (28, m_dup), (29, m_aload 0 1), (30, m_get 3 0), (33, m_aload 0 1), (34, m_get 3 1), (37, m_aload 0 1), (38, m_get 3 2), (41, m_iload 1 1), (42, m_cob 22 4 2), (45, m_ast 2 2), (46, m_aload 0 1), (47, m_dup), (48, m_get 3 6), (51, m_const (.int (nI 1)) 1), (52, m_bin (fun a b => a + b)), (53, m_put 3 6 0), (56, m_aload 0 1), (57, m_dup), (58, m_get 3 7), (61, m_const (.int (nI 1)) 1), (62, m_bin (fun a b => a + b)), (63, m_put 3 7 0), (66, m_aload 0 1), (67, m_cob 34 0 3), (70, m_vret)]
def tX3_wear : m_Tab := [(0, m_aload 0 1), (1, m_get 3 3), (4, m_const (.int (nI 0)) 1), (5, m_cst 85 2), (8, m_istore 1 1), (9, m_iload 1 1), (10, m_if (fun x => decide (x ≤ 0)) 42), (13, m_aload 0 1), (14, m_get 3 7), (17, m_iload 1 1), (18, m_div (fun a b => a - a / b * b)), (19, m_if (fun x => !(x == 0)) 42), (22, m_aload 0 1), (23, m_aload 0 1), (24, m_get 3 7), (27, m_const (.int (nI 24)) 2), (29, m_div (fun a b => a - a / b * b)), (30, m_aload 0 1), (31, m_get 3 7), (34, m_iload 1 1), (35, m_div (fun a b => a / b)), (36, m_const (.int (nI 4)) 1), (37, m_div (fun a b => a - a / b * b)), (38, m_const (.int (nI 1)) 1), (39, m_cob 30 3 3), (42, m_vret)]
def tX3_takeTopSheet : m_Tab := [(0, m_aload 0 1), (1, m_const (.int (nI 0)) 1), (2, m_cob 32 1 3), (5, m_astore 1 1), (6, m_aload 1 1), (7, m_ifnull 30), (10, m_aload 0 1), (11, m_dup), (12, m_get 3 6), (15, m_const (.int (nI 1)) 1), (16, m_bin (fun a b => a - b)), (17, m_put 3 6 0), (20, m_aload 0 1), (21, m_get 3 4), (24, m_aload 0 1), (25, m_get 3 6), (28, m_const .null 1), (29, m_ast 2 2), (30, m_aload 1 1), (31, m_aret)]
def tX3_reasonAgainstSale : m_Tab := [(0, m_aload 0 1), (1, m_get 3 5), (4, m_get 1 1), (7, m_astore 1 1), (8, m_aload 0 1), (9, m_get 3 5), (12, m_get 1 2), (15, m_if (fun x => decide (x ≤ 0)) 20), (18, m_const (.int (nI 1)) 1), (19, m_iret), (20, m_aload 1 1), (21, m_ifnull 44), (24, m_aload 1 1), (25, m_get 2 2), (28, m_aload 0 1), (29, m_get 3 3), (32, m_const (.int (nI 1)) 1), (33, m_cst 85 2), (36, m_cst 88 2), (39, m_if (fun x => decide (x ≤ 0)) 44), (42, m_const (.int (nI 2)) 1), (43, m_iret), (44, m_aload 0 1), (45, m_get 3 5), (48, m_cob 19 0 1), (51, m_aload 0 1), (52, m_get 3 3), (55, m_const (.int (nI 2)) 1), (56, m_cst 85 2), (59, m_icmp (fun x y => decide (x ≤ y)) 66), (62, m_const (.int (nI 3)) 1), (63, m_goto 67), (66, m_const (.int (nI 0)) 1), (67, m_iret)]
def tX3_knownIfPrinted : m_Tab := [(0, m_const (.int (nI 0)) 1), (1, m_istore 3 1), (2, m_const (.int (nI 0)) 1), (3, m_istore 4 2), (5, m_const (.int (nI 0)) 1), (6, m_istore 5 2), (8, m_iload 5 2), (10, m_const (.int (nI 24)) 2), (12, m_icmp (fun x y => decide (y ≤ x)) 76), (15, m_iload 1 1), (16, m_if (fun x => x == 0) 27), (19, m_const (.int (nI 23)) 2), (21, m_iload 5 2), (23, m_bin (fun a b => a - b)), (24, m_goto 29), (27, m_iload 5 2), (29, m_istore 6 2), (31, m_iload 6 2), (33, m_iload 2 1), (34, m_icmp (fun x y => !(x == y)) 41), (37, m_const (.int (nI 0)) 1), (38, m_goto 50), (41, m_aload 0 1), (42, m_get 3 2), (45, m_iload 6 2), (47, m_cst 85 2), (50, m_istore 7 2), (52, m_iload 4 2), (54, m_iload 3 1), (55, m_const (.int (nI 1)) 1), (56, m_iload 7 2), (58, m_bin (fun a b => a <<< (b &&& 31))), (59, m_bin (fun a b => a &&& b)), (60, m_bin (fun a b => a ||| b)), (61, m_istore 4 2), (63, m_iload 3 1), (64, m_const (.int (nI 1)) 1), (65, m_iload 7 2), (67, m_bin (fun a b => a <<< (b &&& 31))), (68, m_bin (fun a b => a ||| b)), (69, m_istore 3 1), (70, m_iinc 5 (nI 1)), (73, m_goto 8), (76, m_iload 3 1), (77, m_iload 4 2), (79, m_const (.int (-1)) 1), (80, m_bin (fun a b => a ^^^ b)), (81, m_bin (fun a b => a &&& b)), (82, m_cst 168 1), (85, m_iret)]
def tX4_init : m_Tab := [(0, m_aload 0 1), (1, m_init0), (4, m_aload 0 1), (5, m_const (.int (nI 60)) 2), (7, m_nar 1), (9, m_put 4 0 1), (12, m_aload 0 1), (13, m_const (.int (nI 0)) 1), (14, m_put 4 1 0), (17, m_aload 0 1), (18, m_const (.int (nI 0)) 1), (19, m_put 4 2 0), (22, m_aload 0 1), (23, m_const (.int (nI 12)) 2), (25, m_nar 1), (27, m_put 4 3 1), (30, m_aload 0 1), (31, m_const (.int (nI 12)) 2), (33, m_nar 0), (35, m_put 4 4 1), (38, m_aload 0 1), (39, m_const (.int (nI 12)) 2), (41, m_nar 0), (43, m_put 4 5 1), (46, m_aload 0 1), (47, m_const (.int (nI 0)) 1), (48, m_put 4 6 0), (51, m_vret)]
def tX4_append : m_Tab := [(0, m_aload 0 1), (1, m_get 4 1), (4, m_if (fun x => decide (x < 0)) 36), (7, m_aload 0 1), (8, m_get 4 1), (11, m_const (.int (nI 60)) 2), (13, m_icmp (fun x y => decide (y ≤ x)) 36), (16, m_aload 0 1), (17, m_get 4 0), (20, m_aload 0 1), (21, m_get 4 1), (24, m_iload 1 1), (25, m_ist 1 (vp_nar .char)), (26, m_aload 0 1), (27, m_dup), (28, m_get 4 1), (31, m_const (.int (nI 1)) 1), (32, m_bin (fun a b => a + b)), (33, m_put 4 1 0), (36, m_vret)]
def tX4_kindOf : m_Tab := [(0, m_iload 1 1), (1, m_if (fun x => decide (x < 0)) 19), (4, m_iload 1 1), (5, m_const (.int (nI 12)) 2), (7, m_icmp (fun x y => decide (y ≤ x)) 19), (10, m_aload 0 1), (11, m_get 4 3), (14, m_iload 1 1), (15, m_ild 1), (16, m_goto 20), (19, m_const (.int (nI 0)) 1), (20, m_zret (fun x => x.toUInt32.toUInt16.toUInt32.toInt32))]
def tX4_findFault : m_Tab := [(0, m_aload 0 1), (1, m_const (.int (nI 0)) 1), (2, m_put 4 2 0), (5, m_aload 0 1), (6, m_const (.int (nI 0)) 1), (7, m_put 4 6 0), (10, m_const (.int (nI 0)) 1), (11, m_istore 1 1), (12, m_iload 1 1), (13, m_const (.int (nI 60)) 2), (15, m_icmp (fun x y => decide (y ≤ x)) 64), (18, m_aload 0 1), (19, m_cob 43 0 4), (22, m_if (fun x => !(x == 0)) 30), (25, m_aload 0 1), (26, m_get 4 2), (29, m_iret), (30, m_aload 0 1), (31, m_get 4 2), (34, m_aload 0 1), (35, m_get 4 1), (38, m_icmp (fun x y => !(x == y)) 44), (41, m_const (.int (-5)) 2), (43, m_iret), (44, m_aload 0 1), (45, m_const (.int (nI 59)) 2), (47, m_cob 47 1 4), (50, m_if (fun x => !(x == 0)) 58), (53, m_aload 0 1), (54, m_get 4 2), (57, m_iret), (58, m_iinc 1 (nI 1)), (61, m_goto 12), (64, m_aload 0 1), (65, m_get 4 2), (68, m_iret)]
def tX4_leansAnotherThanCourts : m_Tab := [(0, m_const (.int (nI 0)) 1), (1, m_istore 1 1), (2, m_iload 1 1), (3, m_aload 0 1), (4, m_get 4 6), (7, m_icmp (fun x y => decide (y ≤ x)) 42), (10, m_aload 0 1), (11, m_iload 1 1), (12, m_cob 40 1 4), (15, m_const (.int (nI 108)) 2), (17, m_icmp (fun x y => !(x == y)) 36), (20, m_aload 0 1), (21, m_get 4 4), (24, m_iload 1 1), (25, m_cst 85 2), (28, m_cst 84 1), (31, m_if (fun x => !(x == 0)) 36), (34, m_const (.int (nI 1)) 1), (35, m_zret (fun x => x &&& 1)), (36, m_iinc 1 (nI 1)), (39, m_goto 2), (42, m_const (.int (nI 0)) 1), (43, m_zret (fun x => x &&& 1))]
def tX4_readChange_0 : m_Tab := [(0, m_aload 0 1), (1, m_cob 46 0 4), (4, m_istore 1 1), (5, m_iload 1 1), (6, m_const (.int (nI 115)) 2), (8, m_icmp (fun x y => x == y) 31), (11, m_iload 1 1), (12, m_const (.int (nI 109)) 2), (14, m_icmp (fun x y => x == y) 31), (17, m_iload 1 1), (18, m_const (.int (nI 117)) 2), (20, m_icmp (fun x y => x == y) 31), (23, m_iload 1 1), (24, m_const (.int (nI 108)) 2), (26, m_icmp (fun x y => x == y) 31), (29, m_const (.int (nI 0)) 1), (30, m_zret (fun x => x &&& 1)), (31, m_aload 0 1), (32, m_dup), (33, m_get 4 2), (36, m_const (.int (nI 1)) 1), (37, m_bin (fun a b => a + b)), (38, m_put 4 2 0), (41, m_aload 0 1), (42, m_const (.int (nI 0)) 1), (43, m_const (.int (nI 23)) 2), (45, m_cob 48 2 4), (48, m_istore 2 1), (49, m_iload 2 1), (50, m_const (.int (-5)) 2), (52, m_icmp (fun x y => x == y) 75), (55, m_aload 0 1), (56, m_iload 1 1), (57, m_const (.int (nI 115)) 2), (59, m_icmp (fun x y => !(x == y)) 67), (62, m_const (.int (nI 47)) 2), (64, m_goto 69), (67, m_const (.int (nI 61)) 2), (69, m_cob 47 1 4), (72, m_if (fun x => !(x == 0)) 77), (75, m_const (.int (nI 0)) 1), (76, m_zret (fun x => x &&& 1)), (77, m_iload 1 1), (78, m_const (.int (nI 108)) 2), (80, m_icmp (fun x y => !(x == y)) 96), (83, m_aload 0 1), (84, m_const (.int (nI 45)) 2), (86, m_cob 47 1 4), (89, m_if (fun x => x == 0) 96), (92, m_const (.int (nI 1)) 1), (93, m_goto 97), (96, m_const (.int (nI 0)) 1), (97, m_istore 3 1), (98, m_aload 0 1), (99, m_iload 3 1), (100, m_if (fun x => x == 0) 107), (103, m_const (.int (nI 1)) 1), (104, m_goto 108), (107, m_const (.int (nI 0)) 1), (108, m_iload 1 1)]
def tX4_readChange_1 : m_Tab := [(109, m_cst 44 1), (112, m_cob 48 2 4), (115, m_istore 4 2), (117, m_iload 4 2), (119, m_const (.int (-5)) 2), (121, m_icmp (fun x y => !(x == y)) 126), (124, m_const (.int (nI 0)) 1), (125, m_zret (fun x => x &&& 1)), (126, m_aload 0 1), (127, m_iload 1 1), (128, m_iload 2 1), (129, m_iload 3 1), (130, m_if (fun x => x == 0) 139), (133, m_iload 4 2), (135, m_un (fun a => -a)), (136, m_goto 141), (139, m_iload 4 2), (141, m_cob 45 3 4), (144, m_const (.int (nI 1)) 1), (145, m_zret (fun x => x &&& 1))]
def tX4_readChange : m_Tab := tX4_readChange_0 ++ (tX4_readChange_1)
def tX4_mostBehind : m_Tab := [(0, m_iload 0 1), (1, m_const (.int (nI 115)) 2), (3, m_icmp (fun x y => !(x == y)) 9), (6, m_const (.int (nI 23)) 2), (8, m_iret), (9, m_iload 0 1), (10, m_const (.int (nI 108)) 2), (12, m_icmp (fun x y => !(x == y)) 20), (15, m_const (.int (nI 9)) 2), (17, m_goto 21), (20, m_const (.int (nI 3)) 1), (21, m_iret)]
def tX4_addChange : m_Tab := [(0, m_aload 0 1), (1, m_get 4 6), (4, m_if (fun x => decide (x < 0)) 56), (7, m_aload 0 1), (8, m_get 4 6), (11, m_const (.int (nI 12)) 2), (13, m_icmp (fun x y => decide (y ≤ x)) 56), (16, m_aload 0 1), (17, m_get 4 3), (20, m_aload 0 1), (21, m_get 4 6), (24, m_iload 1 1), (25, m_ist 1 (vp_nar .char)), (26, m_aload 0 1), (27, m_get 4 4), (30, m_aload 0 1), (31, m_get 4 6), (34, m_iload 2 1), (35, m_ist 0 (fun x => x)), (36, m_aload 0 1), (37, m_get 4 5), (40, m_aload 0 1), (41, m_get 4 6), (44, m_iload 3 1), (45, m_ist 0 (fun x => x)), (46, m_aload 0 1), (47, m_dup), (48, m_get 4 6), (51, m_const (.int (nI 1)) 1), (52, m_bin (fun a b => a + b)), (53, m_put 4 6 0), (56, m_vret)]
def tX4_nextSign : m_Tab := [(0, m_aload 0 1), (1, m_get 4 2), (4, m_if (fun x => decide (x < 0)) 39), (7, m_aload 0 1), (8, m_get 4 2), (11, m_aload 0 1), (12, m_get 4 1), (15, m_icmp (fun x y => decide (y ≤ x)) 39), (18, m_aload 0 1), (19, m_get 4 2), (22, m_const (.int (nI 60)) 2), (24, m_icmp (fun x y => decide (y ≤ x)) 39), (27, m_aload 0 1), (28, m_get 4 0), (31, m_aload 0 1), (32, m_get 4 2), (35, m_ild 1), (36, m_goto 40), (39, m_const (.int (nI 0)) 1), (40, m_zret (fun x => x.toUInt32.toUInt16.toUInt32.toInt32))]
def tX4_take : m_Tab := [(0, m_aload 0 1), (1, m_cob 46 0 4), (4, m_iload 1 1), (5, m_icmp (fun x y => x == y) 10), (8, m_const (.int (nI 0)) 1), (9, m_zret (fun x => x &&& 1)), (10, m_aload 0 1), (11, m_dup), (12, m_get 4 2), (15, m_const (.int (nI 1)) 1), (16, m_bin (fun a b => a + b)), (17, m_put 4 2 0), (20, m_const (.int (nI 1)) 1), (21, m_zret (fun x => x &&& 1))]
def tX4_readNumber : m_Tab := [(0, m_aload 0 1), (1, m_cob 49 0 4), (4, m_istore 3 1), (5, m_iload 3 1), (6, m_const (.int (-5)) 2), (8, m_icmp (fun x y => x == y) 21), (11, m_iload 3 1), (12, m_iload 1 1), (13, m_icmp (fun x y => decide (x < y)) 21), (16, m_iload 3 1), (17, m_iload 2 1), (18, m_icmp (fun x y => decide (x ≤ y)) 24), (21, m_const (.int (-5)) 2), (23, m_iret), (24, m_aload 0 1), (25, m_dup), (26, m_get 4 2), (29, m_const (.int (nI 1)) 1), (30, m_bin (fun a b => a + b)), (31, m_put 4 2 0), (34, m_aload 0 1), (35, m_cob 49 0 4), (38, m_istore 4 2), (40, m_iload 3 1), (41, m_if (fun x => x == 0) 62), (44, m_iload 4 2), (46, m_const (.int (-5)) 2), (48, m_icmp (fun x y => x == y) 62), (51, m_const (.int (nI 10)) 2), (53, m_iload 3 1), (54, m_bin (fun a b => a * b)), (55, m_iload 4 2), (57, m_bin (fun a b => a + b)), (58, m_iload 2 1), (59, m_icmp (fun x y => decide (x ≤ y)) 64), (62, m_iload 3 1), (63, m_iret), (64, m_aload 0 1), (65, m_dup), (66, m_get 4 2), (69, m_const (.int (nI 1)) 1), (70, m_bin (fun a b => a + b)), (71, m_put 4 2 0), (74, m_const (.int (nI 10)) 2), (76, m_iload 3 1), (77, m_bin (fun a b => a * b)), (78, m_iload 4 2), (80, m_bin (fun a b => a + b)), (81, m_iret)]
def tX4_nextDigit : m_Tab := [(0, m_aload 0 1), (1, m_cob 46 0 4), (4, m_istore 1 1), (5, m_iload 1 1), (6, m_const (.int (nI 48)) 2), (8, m_icmp (fun x y => decide (x < y)) 24), (11, m_iload 1 1), (12, m_const (.int (nI 57)) 2), (14, m_icmp (fun x y => decide (y < x)) 24), (17, m_iload 1 1), (18, m_const (.int (nI 48)) 2), (20, m_bin (fun a b => a - b)), (21, m_goto 26), (24, m_const (.int (-5)) 2), (26, m_iret)]
def tX5_init : m_Tab := [(0, m_aload 0 1), (1, m_init0), (4, m_aload 0 1), (5, m_new 3 [.null, .null, .null, .null, .null, .null, .int 0, .int 0, .int 0, .int 0, .int 0]), (8, m_dup), (9, m_cob 25 0 3), (12, m_put 5 0 1), (15, m_aload 0 1), (16, m_new 3 [.null, .null, .null, .null, .null, .null, .int 0, .int 0, .int 0, .int 0, .int 0]), (19, m_dup), (20, m_cob 25 0 3), (23, m_put 5 1 1), (26, m_aload 0 1), (27, m_new 0 [.null, .int 0, .int 0]), (30, m_dup), (31, m_cob 0 0 0), (34, m_put 5 2 1), (37, m_aload 0 1), (38, m_new 4 [.null, .int 0, .int 0, .null, .null, .null, .int 0]), (41, m_dup), (42, m_cob 38 0 4), (45, m_put 5 3 1), (48, m_aload 0 1), (49, m_const (.int (nI 24)) 2), (51, m_nar 0), (53, m_put 5 4 1), (56, m_aload 0 1), (57, m_const (.int (nI 0)) 1), (58, m_put 5 5 2), (61, m_vret)]
def tX5_swap : m_Tab := [(0, m_iload 1 1), (1, m_cst 81 1), (4, m_if (fun x => x == 0) 14), (7, m_iload 2 1), (8, m_cst 81 1), (11, m_if (fun x => !(x == 0)) 16), (14, m_const (.int (-1)) 1), (15, m_iret), (16, m_iload 1 1), (17, m_iload 2 1), (18, m_icmp (fun x y => !(x == y)) 24), (21, m_const (.int (-5)) 2), (23, m_iret), (24, m_aload 0 1), (25, m_get 5 2), (28, m_aload 0 1), (29, m_get 5 0), (32, m_cob 1 1 0), (35, m_aload 0 1), (36, m_get 5 0), (39, m_iload 1 1), (40, m_iload 2 1), (41, m_cob 27 2 3), (44, m_aload 0 1), (45, m_get 5 0), (48, m_get 3 0), (51, m_iload 1 1), (52, m_cst 85 2), (55, m_iret)]
def tX5_mark : m_Tab := [(0, m_iload 1 1), (1, m_cst 81 1), (4, m_if (fun x => x == 0) 14), (7, m_iload 2 1), (8, m_cst 83 1), (11, m_if (fun x => !(x == 0)) 16), (14, m_const (.int (-1)) 1), (15, m_iret), (16, m_aload 0 1), (17, m_get 5 0), (20, m_iload 1 1), (21, m_iload 2 1), (22, m_cob 29 2 3), (25, m_iload 3 1), (26, m_icmp (fun x y => !(x == y)) 32), (29, m_const (.int (-5)) 2), (31, m_iret), (32, m_aload 0 1), (33, m_get 5 2), (36, m_aload 0 1), (37, m_get 5 0), (40, m_cob 1 1 0), (43, m_aload 0 1), (44, m_get 5 0), (47, m_iload 1 1), (48, m_iload 2 1), (49, m_iload 3 1), (50, m_cob 30 3 3), (53, m_aload 0 1), (54, m_get 5 0), (57, m_get 3 2), (60, m_iload 1 1), (61, m_cst 85 2), (64, m_iret)]
def tX5_lean : m_Tab := [(0, m_iload 1 1), (1, m_cst 82 1), (4, m_if (fun x => !(x == 0)) 9), (7, m_const (.int (-1)) 1), (8, m_iret), (9, m_iload 2 1), (10, m_const (.int (-9)) 2), (12, m_icmp (fun x y => decide (x < y)) 21), (15, m_iload 2 1), (16, m_const (.int (nI 9)) 2), (18, m_icmp (fun x y => decide (x ≤ y)) 24), (21, m_const (.int (-2)) 2), (23, m_iret), (24, m_iload 1 1), (25, m_cst 84 1), (28, m_if (fun x => !(x == 0)) 34), (31, m_const (.int (-4)) 2), (33, m_iret), (34, m_aload 0 1), (35, m_get 5 0), (38, m_get 3 1), (41, m_iload 1 1), (42, m_cst 85 2), (45, m_istore 3 1), (46, m_iload 3 1), (47, m_iload 2 1), (48, m_icmp (fun x y => !(x == y)) 54), (51, m_const (.int (-5)) 2), (53, m_iret), (54, m_aload 0 1), (55, m_get 5 2), (58, m_aload 0 1), (59, m_get 5 0), (62, m_cob 1 1 0), (65, m_aload 0 1), (66, m_get 5 0), (69, m_get 3 1), (72, m_iload 1 1), (73, m_iload 2 1), (74, m_cst 86 3), (77, m_iload 3 1), (78, m_const (.int (nI 100)) 2), (80, m_bin (fun a b => a + b)), (81, m_iret)]
def tX5_changeAll : m_Tab := [(0, m_aload 0 1), (1, m_get 5 3), (4, m_cob 41 0 4), (7, m_istore 1 1), (8, m_iload 1 1), (9, m_const (.int (-5)) 2), (11, m_icmp (fun x y => x == y) 19), (14, m_const (.int (-100)) 2), (16, m_iload 1 1), (17, m_bin (fun a b => a - b)), (18, m_iret), (19, m_aload 0 1), (20, m_get 5 3), (23, m_cob 42 0 4), (26, m_if (fun x => x == 0) 32), (29, m_const (.int (-4)) 2), (31, m_iret), (32, m_aload 0 1), (33, m_get 5 2), (36, m_aload 0 1), (37, m_get 5 0), (40, m_cob 1 1 0), (43, m_const (.int (nI 0)) 1), (44, m_istore 2 1), (45, m_iload 2 1), (46, m_aload 0 1), (47, m_get 5 3), (50, m_get 4 6), (53, m_icmp (fun x y => decide (y ≤ x)) 96), (56, m_aload 0 1), (57, m_aload 0 1), (58, m_get 5 3), (61, m_iload 2 1), (62, m_cob 40 1 4), (65, m_aload 0 1), (66, m_get 5 3), (69, m_get 4 4), (72, m_iload 2 1), (73, m_cst 85 2), (76, m_aload 0 1), (77, m_get 5 3), (80, m_get 4 5), (83, m_iload 2 1), (84, m_cst 85 2), (87, m_cob 80 3 5), (90, m_iinc 2 (nI 1)), (93, m_goto 45), (96, m_aload 0 1), (97, m_get 5 3), (100, m_get 4 6), (103, m_iret)]
def tX5_set : m_Tab := [(0, m_iload 1 1), (1, m_if (fun x => decide (x < 0)) 9), (4, m_iload 1 1), (5, m_const (.int (nI 4)) 1), (6, m_icmp (fun x y => decide (x < y)) 12), (9, m_const (.int (-2)) 2), (11, m_iret), (12, m_iload 2 1), (13, m_gets 1), (16, m_iload 1 1), (17, m_cst 85 2), (20, m_icmp (fun x y => decide (x < y)) 34), (23, m_iload 2 1), (24, m_gets 2), (27, m_iload 1 1), (28, m_cst 85 2), (31, m_icmp (fun x y => decide (x ≤ y)) 37), (34, m_const (.int (-2)) 2), (36, m_iret), (37, m_aload 0 1), (38, m_get 5 0), (41, m_get 3 3), (44, m_iload 1 1), (45, m_cst 85 2), (48, m_istore 3 1), (49, m_iload 3 1), (50, m_iload 2 1), (51, m_icmp (fun x y => !(x == y)) 57), (54, m_const (.int (-5)) 2), (56, m_iret), (57, m_aload 0 1), (58, m_get 5 2), (61, m_aload 0 1), (62, m_get 5 0), (65, m_cob 1 1 0), (68, m_aload 0 1), (69, m_get 5 0), (72, m_get 3 3), (75, m_iload 1 1), (76, m_iload 2 1), (77, m_cst 86 3), (80, m_iload 3 1), (81, m_iret)]
def tX5_print : m_Tab := [(0, m_aload 0 1), (1, m_get 5 0), (4, m_get 3 6), (7, m_const (.int (nI 6)) 2), (9, m_icmp (fun x y => decide (x < y)) 15), (12, m_const (.int (-3)) 2), (14, m_iret), (15, m_aload 0 1), (16, m_get 5 2), (19, m_aload 0 1), (20, m_get 5 0), (23, m_cob 1 1 0), (26, m_aload 0 1), (27, m_get 5 0), (30, m_iload 1 1), (31, m_cob 33 1 3), (34, m_aload 0 1), (35, m_get 5 0), (38, m_get 3 6), (41, m_iret)]
def tX5_cutSheet : m_Tab := [(0, m_iload 1 1), (1, m_if (fun x => decide (x < 0)) 9), (4, m_iload 1 1), (5, m_const (.int (nI 4)) 1), (6, m_icmp (fun x y => decide (x < y)) 12), (9, m_const (.int (-2)) 2), (11, m_iret), (12, m_aload 0 1), (13, m_get 5 0), (16, m_get 3 5), (19, m_cob 8 0 1), (22, m_if (fun x => !(x == 0)) 36), (25, m_aload 0 1), (26, m_get 5 0), (29, m_const (.int (nI 0)) 1), (30, m_cob 32 1 3), (33, m_ifnonnull 39), (36, m_const (.int (-4)) 2), (38, m_iret), (39, m_aload 0 1), (40, m_get 5 2), (43, m_aload 0 1), (44, m_get 5 0), (47, m_cob 1 1 0), (50, m_aload 0 1), (51, m_get 5 0), (54, m_get 3 5), (57, m_aload 0 1), (58, m_get 5 0), (61, m_cob 35 0 3), (64, m_iload 1 1), (65, m_cob 6 2 1), (68, m_aload 0 1), (69, m_get 5 0), (72, m_get 3 6), (75, m_iret)]
def tX5_cutPack : m_Tab := [(0, m_aload 0 1), (1, m_get 5 0), (4, m_get 3 5), (7, m_astore 2 1), (8, m_aload 2 1), (9, m_cob 8 0 1), (12, m_if (fun x => !(x == 0)) 18), (15, m_const (.int (-4)) 2), (17, m_iret), (18, m_aload 2 1), (19, m_iload 1 1), (20, m_cob 10 1 1), (23, m_if (fun x => !(x == 0)) 29), (26, m_const (.int (-2)) 2), (28, m_iret), (29, m_aload 0 1), (30, m_get 5 2), (33, m_aload 0 1), (34, m_get 5 0), (37, m_cob 1 1 0), (40, m_aload 2 1), (41, m_iload 1 1), (42, m_aload 0 1), (43, m_get 5 4), (46, m_cob 13 2 1), (49, m_aload 2 1), (50, m_const (.int (nI 0)) 1), (51, m_cob 11 1 1), (54, m_iret)]
def tX5_shuffle : m_Tab := [(0, m_aload 0 1), (1, m_get 5 0), (4, m_get 3 5), (7, m_astore 2 1), (8, m_aload 2 1), (9, m_cob 8 0 1), (12, m_if (fun x => !(x == 0)) 18), (15, m_const (.int (-4)) 2), (17, m_iret), (18, m_aload 2 1), (19, m_iload 1 1), (20, m_cob 10 1 1), (23, m_if (fun x => !(x == 0)) 29), (26, m_const (.int (-2)) 2), (28, m_iret), (29, m_aload 0 1), (30, m_get 5 2), (33, m_aload 0 1), (34, m_get 5 0), (37, m_cob 1 1 0), (40, m_aload 2 1), (41, m_iload 1 1), (42, m_aload 0 1), (43, m_get 5 4), (46, m_cob 14 2 1), (49, m_iret)]
def tX5_deal : m_Tab := [(0, m_aload 0 1), (1, m_get 5 0), (4, m_get 3 5), (7, m_astore 2 1), (8, m_aload 2 1), (9, m_cob 8 0 1), (12, m_if (fun x => !(x == 0)) 18), (15, m_const (.int (-4)) 2), (17, m_iret), (18, m_iload 1 1), (19, m_const (.int (nI 1)) 1), (20, m_icmp (fun x y => decide (x < y)) 31), (23, m_iload 1 1), (24, m_aload 2 1), (25, m_cob 9 0 1), (28, m_icmp (fun x y => decide (x ≤ y)) 34), (31, m_const (.int (-2)) 2), (33, m_iret), (34, m_aload 0 1), (35, m_get 5 2), (38, m_aload 0 1), (39, m_get 5 0), (42, m_cob 1 1 0), (45, m_aload 2 1), (46, m_dup), (47, m_get 1 2), (50, m_iload 1 1), (51, m_bin (fun a b => a + b)), (52, m_put 1 2 0), (55, m_aload 2 1), (56, m_cob 9 0 1), (59, m_iret)]
def tX5_sell : m_Tab := [(0, m_aload 0 1), (1, m_get 5 0), (4, m_get 3 5), (7, m_cob 8 0 1), (10, m_if (fun x => !(x == 0)) 16), (13, m_const (.int (-4)) 2), (15, m_iret), (16, m_aload 0 1), (17, m_get 5 0), (20, m_cob 36 0 3), (23, m_istore 1 1), (24, m_iload 1 1), (25, m_if (fun x => x == 0) 33), (28, m_const (.int (-10)) 2), (30, m_iload 1 1), (31, m_bin (fun a b => a - b)), (32, m_iret), (33, m_aload 0 1), (34, m_get 5 2), (37, m_aload 0 1), (38, m_get 5 0), (41, m_cob 1 1 0), (44, m_aload 0 1), (45, m_get 5 0), (48, m_get 3 3), (51, m_const (.int (nI 3)) 1), (52, m_cst 85 2), (55, m_istore 2 1), (56, m_aload 0 1), (57, m_get 5 0), (60, m_dup), (61, m_get 3 10), (64, m_iload 2 1), (65, m_bin (fun a b => a + b)), (66, m_put 3 10 0), (69, m_aload 0 1), (70, m_get 5 0), (73, m_dup), (74, m_get 3 8), (77, m_const (.int (nI 1)) 1), (78, m_bin (fun a b => a + b)), (79, m_put 3 8 0), (82, m_aload 0 1), (83, m_get 5 0), (86, m_get 3 5), (89, m_cob 7 0 1), (92, m_iload 2 1), (93, m_iret)]
def tX5_pulp : m_Tab := [(0, m_aload 0 1), (1, m_get 5 0), (4, m_get 3 5), (7, m_cob 8 0 1), (10, m_if (fun x => !(x == 0)) 16), (13, m_const (.int (-4)) 2), (15, m_iret), (16, m_aload 0 1), (17, m_get 5 2), (20, m_aload 0 1), (21, m_get 5 0), (24, m_cob 1 1 0), (27, m_aload 0 1), (28, m_get 5 0), (31, m_get 3 5), (34, m_cob 9 0 1), (37, m_istore 1 1), (38, m_aload 0 1), (39, m_get 5 0), (42, m_dup), (43, m_get 3 9), (46, m_const (.int (nI 1)) 1), (47, m_bin (fun a b => a + b)), (48, m_put 3 9 0), (51, m_aload 0 1), (52, m_get 5 0), (55, m_get 3 5), (58, m_cob 7 0 1), (61, m_iload 1 1), (62, m_iret)]
def tX5_type : m_Tab := [(0, m_aload 0 1), (1, m_get 5 3), (4, m_get 4 1), (7, m_const (.int (nI 60)) 2), (9, m_icmp (fun x y => decide (x < y)) 15), (12, m_const (.int (-3)) 2), (14, m_iret), (15, m_aload 0 1), (16, m_get 5 3), (19, m_iload 1 1), (20, m_cob 39 1 4), (23, m_aload 0 1), (24, m_get 5 3), (27, m_get 4 1), (30, m_iret)]
def tX5_clearText : m_Tab := [(0, m_aload 0 1), (1, m_get 5 3), (4, m_get 4 1), (7, m_istore 1 1), (8, m_aload 0 1), (9, m_get 5 3), (12, m_const (.int (nI 0)) 1), (13, m_put 4 1 0), (16, m_iload 1 1), (17, m_iret)]
def tX5_fault : m_Tab := [(0, m_aload 0 1), (1, m_get 5 3), (4, m_cob 41 0 4), (7, m_iret)]
def tX5_undo : m_Tab := [(0, m_aload 0 1), (1, m_get 5 2), (4, m_get 0 2), (7, m_if (fun x => !(x == 0)) 13), (10, m_const (.int (-5)) 2), (12, m_iret), (13, m_aload 0 1), (14, m_get 5 2), (17, m_aload 0 1), (18, m_get 5 0), (21, m_cob 2 1 0), (24, m_aload 0 1), (25, m_get 5 2), (28, m_get 0 2), (31, m_iret)]
def tX5_keep : m_Tab := [(0, m_aload 0 1), (1, m_get 5 1), (4, m_aload 0 1), (5, m_get 5 0), (8, m_cob 26 1 3), (11, m_aload 0 1), (12, m_const (.int (nI 1)) 1), (13, m_put 5 5 2), (16, m_aload 0 1), (17, m_get 5 0), (20, m_get 3 7), (23, m_iret)]
def tX5_restore : m_Tab := [(0, m_aload 0 1), (1, m_get 5 5), (4, m_if (fun x => !(x == 0)) 10), (7, m_const (.int (-5)) 2), (9, m_iret), (10, m_aload 0 1), (11, m_get 5 2), (14, m_aload 0 1), (15, m_get 5 0), (18, m_cob 1 1 0), (21, m_aload 0 1), (22, m_get 5 0), (25, m_aload 0 1), (26, m_get 5 1), (29, m_cob 26 1 3), (32, m_aload 0 1), (33, m_get 5 0), (36, m_get 3 7), (39, m_iret)]
def tX5_block : m_Tab := [(0, m_iload 1 1), (1, m_cst 81 1), (4, m_if (fun x => !(x == 0)) 9), (7, m_const (.int (-1)) 1), (8, m_iret), (9, m_iload 2 1), (10, m_lsw (nI 0) (nI 1) 60 36 48), (36, m_aload 0 1), (37, m_get 5 0), (40, m_get 3 0), (43, m_iload 1 1), (44, m_cst 85 2), (47, m_iret), (48, m_aload 0 1), (49, m_get 5 0), (52, m_get 3 2), (55, m_iload 1 1), (56, m_cst 85 2), (59, m_iret), (60, m_const (.int (-2)) 2), (62, m_iret)]
def tX5_cardOf : m_Tab := [(0, m_iload 1 1), (1, m_cst 82 1), (4, m_if (fun x => !(x == 0)) 9), (7, m_const (.int (-1)) 1), (8, m_iret), (9, m_iload 2 1), (10, m_tsw 0 3 88 [40, 49, 64, 76]), (40, m_aload 0 1), (41, m_get 5 0), (44, m_iload 1 1), (45, m_cob 28 1 3), (48, m_iret), (49, m_aload 0 1), (50, m_get 5 0), (53, m_get 3 1), (56, m_iload 1 1), (57, m_cst 85 2), (60, m_const (.int (nI 100)) 2), (62, m_bin (fun a b => a + b)), (63, m_iret), (64, m_aload 0 1), (65, m_get 5 0), (68, m_get 3 5), (71, m_iload 1 1), (72, m_cob 12 1 1), (75, m_iret), (76, m_aload 0 1), (77, m_get 5 0), (80, m_get 3 5), (83, m_iload 1 1), (84, m_cob 15 1 1), (87, m_iret), (88, m_const (.int (-2)) 2), (90, m_iret)]
def tX5_sheet : m_Tab := [(0, m_aload 0 1), (1, m_get 5 0), (4, m_iload 1 1), (5, m_cob 32 1 3), (8, m_astore 4 2), (10, m_aload 4 2), (12, m_ifnull 22), (15, m_iload 2 1), (16, m_cst 81 1), (19, m_if (fun x => !(x == 0)) 24), (22, m_const (.int (-1)) 1), (23, m_iret), (24, m_aload 4 2), (26, m_get 2 0), (29, m_iload 2 1), (30, m_cst 85 2), (33, m_istore 5 2), (35, m_iload 3 1), (36, m_lsw (nI 0) (nI 1) 78 64 67), (64, m_iload 5 2), (66, m_iret), (67, m_aload 4 2), (69, m_get 2 1), (72, m_iload 5 2), (74, m_cst 85 2), (77, m_iret), (78, m_const (.int (-2)) 2), (80, m_iret)]
def tX5_pack : m_Tab := [(0, m_aload 0 1), (1, m_get 5 0), (4, m_get 3 5), (7, m_astore 3 1), (8, m_iload 1 1), (9, m_if (fun x => decide (x < 0)) 20), (12, m_iload 1 1), (13, m_aload 3 1), (14, m_cob 9 0 1), (17, m_icmp (fun x y => decide (x < y)) 22), (20, m_const (.int (-1)) 1), (21, m_iret), (22, m_iload 2 1), (23, m_tsw 0 4 95 [56, 62, 68, 74, 80]), (56, m_aload 3 1), (57, m_iload 1 1), (58, m_cob 11 1 1), (61, m_iret), (62, m_aload 3 1), (63, m_iload 1 1), (64, m_cob 16 1 1), (67, m_iret), (68, m_aload 3 1), (69, m_iload 1 1), (70, m_cob 17 1 1), (73, m_iret), (74, m_aload 3 1), (75, m_iload 1 1), (76, m_cob 18 1 1), (79, m_iret), (80, m_aload 3 1), (81, m_iload 1 1), (82, m_cob 17 1 1), (85, m_const (.int (nI 1)) 1), (86, m_icmp (fun x y => !(x == y)) 93), (89, m_const (.int (nI 1)) 1), (90, m_goto 94), (93, m_const (.int (nI 0)) 1), (94, m_iret), (95, m_const (.int (-2)) 2), (97, m_iret)]
def tX5_count_0 : m_Tab := [(0, m_iload 1 1), (1, m_tsw 0 17 285 [88, 96, 104, 123, 134, 145, 156, 167, 175, 183, 191, 199, 221, 229, 237, 249, 261, 273]), (88, m_aload 0 1), (89, m_get 5 0), (92, m_get 3 6), (95, m_iret), (96, m_aload 0 1), (97, m_get 5 0), (100, m_get 3 7), (103, m_iret), (104, m_aload 0 1), (105, m_get 5 0), (108, m_get 3 5), (111, m_cob 8 0 1), (114, m_if (fun x => x == 0) 121), (117, m_const (.int (nI 1)) 1), (118, m_goto 122), (121, m_const (.int (nI 0)) 1), (122, m_iret), (123, m_aload 0 1), (124, m_get 5 0), (127, m_get 3 5), (130, m_cob 9 0 1), (133, m_iret), (134, m_aload 0 1), (135, m_get 5 0), (138, m_get 3 5), (141, m_get 1 2), (144, m_iret), (145, m_aload 0 1), (146, m_get 5 0), (149, m_get 3 5), (152, m_cob 19 0 1), (155, m_iret), (156, m_aload 0 1), (157, m_get 5 0), (160, m_get 3 5), (163, m_cob 20 0 1), (166, m_iret), (167, m_aload 0 1), (168, m_get 5 0), (171, m_get 3 8), (174, m_iret), (175, m_aload 0 1), (176, m_get 5 0), (179, m_get 3 9), (182, m_iret), (183, m_aload 0 1), (184, m_get 5 0), (187, m_get 3 10), (190, m_iret), (191, m_aload 0 1), (192, m_get 5 0), (195, m_cob 31 0 3), (198, m_iret), (199, m_aload 0 1), (200, m_get 5 0), (203, m_get 3 1), (206, m_aload 0 1), (207, m_get 5 0)]
def tX5_count_1 : m_Tab := [(210, m_get 3 3), (213, m_const (.int (nI 1)) 1), (214, m_cst 85 2), (217, m_cst 88 2), (220, m_iret), (221, m_aload 0 1), (222, m_get 5 2), (225, m_get 0 2), (228, m_iret), (229, m_aload 0 1), (230, m_get 5 3), (233, m_get 4 1), (236, m_iret), (237, m_aload 0 1), (238, m_get 5 0), (241, m_get 3 3), (244, m_const (.int (nI 0)) 1), (245, m_cst 85 2), (248, m_iret), (249, m_aload 0 1), (250, m_get 5 0), (253, m_get 3 3), (256, m_const (.int (nI 1)) 1), (257, m_cst 85 2), (260, m_iret), (261, m_aload 0 1), (262, m_get 5 0), (265, m_get 3 3), (268, m_const (.int (nI 2)) 1), (269, m_cst 85 2), (272, m_iret), (273, m_aload 0 1), (274, m_get 5 0), (277, m_get 3 3), (280, m_const (.int (nI 3)) 1), (281, m_cst 85 2), (284, m_iret), (285, m_const (.int (-2)) 2), (287, m_iret)]
def tX5_count : m_Tab := tX5_count_0 ++ (tX5_count_1)
def tX5_why : m_Tab := [(0, m_aload 0 1), (1, m_get 5 0), (4, m_get 3 5), (7, m_cob 8 0 1), (10, m_if (fun x => x == 0) 23), (13, m_aload 0 1), (14, m_get 5 0), (17, m_cob 36 0 3), (20, m_goto 25), (23, m_const (.int (-4)) 2), (25, m_iret)]
def tX5_chances : m_Tab := [(0, m_aload 0 1), (1, m_get 5 0), (4, m_get 3 5), (7, m_cob 8 0 1), (10, m_if (fun x => x == 0) 26), (13, m_aload 0 1), (14, m_get 5 0), (17, m_get 3 5), (20, m_cob 21 0 1), (23, m_goto 28), (26, m_const (.float 3212836864) 2), (28, m_fret)]
def tX5_ifPrinted : m_Tab := [(0, m_aload 0 1), (1, m_get 5 0), (4, m_iload 1 1), (5, m_const (.int (-1)) 1), (6, m_cob 37 2 3), (9, m_iret)]
def tX5_worstFlaw : m_Tab := [(0, m_iload 1 1), (1, m_if (fun x => x == 0) 12), (4, m_iload 1 1), (5, m_const (.int (nI 1)) 1), (6, m_icmp (fun x y => x == y) 12), (9, m_const (.int (-2)) 2), (11, m_iret), (12, m_const (.int (nI 0)) 1), (13, m_istore 2 1), (14, m_aload 0 1), (15, m_get 5 0), (18, m_const (.int (nI 0)) 1), (19, m_const (.int (nI 0)) 1), (20, m_cob 37 2 3), (23, m_istore 3 1), (24, m_const (.int (nI 1)) 1), (25, m_istore 4 2), (27, m_iload 4 2), (29, m_const (.int (nI 24)) 2), (31, m_icmp (fun x y => decide (y ≤ x)) 64), (34, m_aload 0 1), (35, m_get 5 0), (38, m_const (.int (nI 0)) 1), (39, m_iload 4 2), (41, m_cob 37 2 3), (44, m_istore 5 2), (46, m_iload 5 2), (48, m_iload 3 1), (49, m_icmp (fun x y => decide (y ≤ x)) 58), (52, m_iload 4 2), (54, m_istore 2 1), (55, m_iload 5 2), (57, m_istore 3 1), (58, m_iinc 4 (nI 1)), (61, m_goto 27), (64, m_iload 1 1), (65, m_if (fun x => !(x == 0)) 72), (68, m_iload 2 1), (69, m_goto 73), (72, m_iload 3 1), (73, m_iret)]
def tX5_bestWay : m_Tab := [(0, m_aload 0 1), (1, m_get 5 0), (4, m_const (.int (nI 0)) 1), (5, m_cob 32 1 3), (8, m_astore 1 1), (9, m_aload 1 1), (10, m_ifnonnull 16), (13, m_const (.int (-4)) 2), (15, m_iret), (16, m_const (.int (nI 0)) 1), (17, m_istore 2 1), (18, m_aload 1 1), (19, m_const (.int (nI 0)) 1), (20, m_cob 24 1 2), (23, m_istore 3 1), (24, m_const (.int (nI 1)) 1), (25, m_istore 4 2), (27, m_iload 4 2), (29, m_const (.int (nI 4)) 1), (30, m_icmp (fun x y => decide (y ≤ x)) 59), (33, m_aload 1 1), (34, m_iload 4 2), (36, m_cob 24 1 2), (39, m_istore 5 2), (41, m_iload 5 2), (43, m_iload 3 1), (44, m_icmp (fun x y => decide (y ≤ x)) 53), (47, m_iload 4 2), (49, m_istore 2 1), (50, m_iload 5 2), (52, m_istore 3 1), (53, m_iinc 4 (nI 1)), (56, m_goto 27), (59, m_iload 2 1), (60, m_iret)]
def tX5_backIn : m_Tab := [(0, m_aload 0 1), (1, m_get 5 0), (4, m_get 3 5), (7, m_astore 2 1), (8, m_aload 2 1), (9, m_cob 8 0 1), (12, m_if (fun x => !(x == 0)) 18), (15, m_const (.int (-4)) 2), (17, m_iret), (18, m_aload 2 1), (19, m_iload 1 1), (20, m_cob 10 1 1), (23, m_if (fun x => !(x == 0)) 29), (26, m_const (.int (-2)) 2), (28, m_iret), (29, m_iload 1 1), (30, m_aload 2 1), (31, m_cob 9 0 1), (34, m_cst 92 2), (37, m_istore 3 1), (38, m_iload 3 1), (39, m_const (.int (nI 500)) 3), (42, m_icmp (fun x y => decide (x ≤ y)) 50), (45, m_const (.int (-5)) 2), (47, m_goto 51), (50, m_iload 3 1), (51, m_iret)]
def tX5_doChange : m_Tab := [(0, m_iload 1 1), (1, m_const (.int (nI 115)) 2), (3, m_icmp (fun x y => !(x == y)) 18), (6, m_aload 0 1), (7, m_get 5 0), (10, m_iload 2 1), (11, m_iload 3 1), (12, m_cob 27 2 3), (15, m_goto 59), (18, m_iload 1 1), (19, m_const (.int (nI 108)) 2), (21, m_icmp (fun x y => !(x == y)) 39), (24, m_aload 0 1), (25, m_get 5 0), (28, m_get 3 1), (31, m_iload 2 1), (32, m_iload 3 1), (33, m_cst 86 3), (36, m_goto 59), (39, m_aload 0 1), (40, m_get 5 0), (43, m_iload 2 1), (44, m_iload 3 1), (45, m_iload 1 1), (46, m_const (.int (nI 109)) 2), (48, m_icmp (fun x y => !(x == y)) 55), (51, m_const (.int (nI 1)) 1), (52, m_goto 56), (55, m_const (.int (nI 0)) 1), (56, m_cob 30 3 3), (59, m_vret)]
def tX5_isCell : m_Tab := [(0, m_iload 0 1), (1, m_if (fun x => decide (x < 0)) 14), (4, m_iload 0 1), (5, m_const (.int (nI 24)) 2), (7, m_icmp (fun x y => decide (y ≤ x)) 14), (10, m_const (.int (nI 1)) 1), (11, m_goto 15), (14, m_const (.int (nI 0)) 1), (15, m_zret (fun x => x &&& 1))]
def tX5_isCard : m_Tab := [(0, m_iload 0 1), (1, m_if (fun x => decide (x < 0)) 14), (4, m_iload 0 1), (5, m_const (.int (nI 24)) 2), (7, m_icmp (fun x y => decide (y ≤ x)) 14), (10, m_const (.int (nI 1)) 1), (11, m_goto 15), (14, m_const (.int (nI 0)) 1), (15, m_zret (fun x => x &&& 1))]
def tX5_isMark : m_Tab := [(0, m_iload 0 1), (1, m_if (fun x => decide (x < 0)) 13), (4, m_iload 0 1), (5, m_const (.int (nI 4)) 1), (6, m_icmp (fun x y => decide (y ≤ x)) 13), (9, m_const (.int (nI 1)) 1), (10, m_goto 14), (13, m_const (.int (nI 0)) 1), (14, m_zret (fun x => x &&& 1))]
def tX5_isCourt : m_Tab := [(0, m_iload 0 1), (1, m_const (.int (nI 6)) 2), (3, m_div (fun a b => a - a / b * b)), (4, m_const (.int (nI 3)) 1), (5, m_icmp (fun x y => decide (x < y)) 12), (8, m_const (.int (nI 1)) 1), (9, m_goto 13), (12, m_const (.int (nI 0)) 1), (13, m_zret (fun x => x &&& 1))]
def tX5_at : m_Tab := [(0, m_iload 1 1), (1, m_if (fun x => decide (x < 0)) 16), (4, m_iload 1 1), (5, m_aload 0 1), (6, m_len), (7, m_icmp (fun x y => decide (y ≤ x)) 16), (10, m_aload 0 1), (11, m_iload 1 1), (12, m_ild 0), (13, m_goto 17), (16, m_const (.int (nI 0)) 1), (17, m_iret)]
def tX5_put : m_Tab := [(0, m_iload 1 1), (1, m_if (fun x => decide (x < 0)) 14), (4, m_iload 1 1), (5, m_aload 0 1), (6, m_len), (7, m_icmp (fun x y => decide (y ≤ x)) 14), (10, m_aload 0 1), (11, m_iload 1 1), (12, m_iload 2 1), (13, m_ist 0 (fun x => x)), (14, m_vret)]
def tX5_copyRow : m_Tab := [(0, m_aload 0 1), (1, m_const (.int (nI 0)) 1), (2, m_aload 1 1), (3, m_const (.int (nI 0)) 1), (4, m_aload 0 1), (5, m_len), (6, m_aload 1 1), (7, m_len), (8, m_min), (11, m_copy), (14, m_vret)]
def tX5_courtsBeyond : m_Tab := [(0, m_const (.int (nI 0)) 1), (1, m_istore 2 1), (2, m_const (.int (nI 0)) 1), (3, m_istore 3 1), (4, m_iload 3 1), (5, m_aload 0 1), (6, m_len), (7, m_icmp (fun x y => decide (y ≤ x)) 29), (10, m_aload 0 1), (11, m_iload 3 1), (12, m_ild 0), (13, m_abs), (16, m_iload 1 1), (17, m_icmp (fun x y => decide (x ≤ y)) 23), (20, m_iinc 2 (nI 1)), (23, m_iinc 3 (nI 1)), (26, m_goto 4), (29, m_iload 2 1), (30, m_iret)]
def tX5_cellAt : m_Tab := [(0, m_iload 0 1), (1, m_if (fun x => x == 0) 9), (4, m_iload 0 1), (5, m_const (.int (nI 2)) 1), (6, m_icmp (fun x y => !(x == y)) 48), (9, m_iload 1 1), (10, m_const (.int (nI 6)) 2), (12, m_div (fun a b => a / b)), (13, m_istore 2 1), (14, m_iload 0 1), (15, m_const (.int (nI 2)) 1), (16, m_icmp (fun x y => !(x == y)) 30), (19, m_iload 2 1), (20, m_const (.int (nI 2)) 1), (21, m_div (fun a b => a - a / b * b)), (22, m_const (.int (nI 1)) 1), (23, m_icmp (fun x y => !(x == y)) 30), (26, m_const (.int (nI 1)) 1), (27, m_goto 31), (30, m_const (.int (nI 0)) 1), (31, m_istore 3 1), (32, m_const (.int (nI 6)) 2), (34, m_iload 2 1), (35, m_bin (fun a b => a * b)), (36, m_iload 1 1), (37, m_const (.int (nI 6)) 2), (39, m_div (fun a b => a - a / b * b)), (40, m_const (.int (nI 6)) 2), (42, m_iload 3 1), (43, m_cst 90 3), (46, m_bin (fun a b => a + b)), (47, m_iret), (48, m_iload 1 1), (49, m_const (.int (nI 4)) 1), (50, m_div (fun a b => a / b)), (51, m_istore 2 1), (52, m_iload 0 1), (53, m_const (.int (nI 3)) 1), (54, m_icmp (fun x y => !(x == y)) 68), (57, m_iload 2 1), (58, m_const (.int (nI 2)) 1), (59, m_div (fun a b => a - a / b * b)), (60, m_const (.int (nI 1)) 1), (61, m_icmp (fun x y => !(x == y)) 68), (64, m_const (.int (nI 1)) 1), (65, m_goto 69), (68, m_const (.int (nI 0)) 1), (69, m_istore 3 1), (70, m_const (.int (nI 6)) 2), (72, m_iload 1 1), (73, m_const (.int (nI 4)) 1), (74, m_div (fun a b => a - a / b * b)), (75, m_const (.int (nI 4)) 1), (76, m_iload 3 1), (77, m_cst 90 3), (80, m_bin (fun a b => a * b)), (81, m_iload 2 1), (82, m_bin (fun a b => a + b)), (83, m_iret)]
def tX5_along : m_Tab := [(0, m_iload 2 1), (1, m_if (fun x => x == 0) 12), (4, m_iload 1 1), (5, m_const (.int (nI 1)) 1), (6, m_bin (fun a b => a - b)), (7, m_iload 0 1), (8, m_bin (fun a b => a - b)), (9, m_goto 13), (12, m_iload 0 1), (13, m_iret)]
def tX5_placeBefore : m_Tab := [(0, m_iload 1 1), (1, m_iload 2 1), (2, m_iload 1 1), (3, m_bin (fun a b => a - b)), (4, m_min), (7, m_istore 3 1), (8, m_iload 0 1), (9, m_const (.int (nI 2)) 1), (10, m_iload 3 1), (11, m_bin (fun a b => a * b)), (12, m_icmp (fun x y => decide (x < y)) 28), (15, m_iload 1 1), (16, m_iload 3 1), (17, m_icmp (fun x y => decide (x ≤ y)) 26), (20, m_iload 0 1), (21, m_iload 3 1), (22, m_bin (fun a b => a - b)), (23, m_goto 27), (26, m_iload 0 1), (27, m_iret), (28, m_iload 0 1), (29, m_const (.int (nI 2)) 1), (30, m_div (fun a b => a - a / b * b)), (31, m_if (fun x => !(x == 0)) 40), (34, m_iload 0 1), (35, m_const (.int (nI 2)) 1), (36, m_div (fun a b => a / b)), (37, m_goto 45), (40, m_iload 1 1), (41, m_iload 0 1), (42, m_const (.int (nI 2)) 1), (43, m_div (fun a b => a / b)), (44, m_bin (fun a b => a + b)), (45, m_iret)]
def tX5_shufflesUntilBack : m_Tab := [(0, m_const (.int (nI 1)) 1), (1, m_istore 2 1), (2, m_const (.int (nI 0)) 1), (3, m_istore 3 1), (4, m_iload 3 1), (5, m_iload 1 1), (6, m_icmp (fun x y => decide (y ≤ x)) 26), (9, m_iload 2 1), (10, m_iload 3 1), (11, m_iload 0 1), (12, m_iload 1 1), (13, m_cst 93 3), (16, m_cst 94 2), (19, m_istore 2 1), (20, m_iinc 3 (nI 1)), (23, m_goto 4), (26, m_iload 2 1), (27, m_iret)]
def tX5_roundOf : m_Tab := [(0, m_iload 0 1), (1, m_istore 3 1), (2, m_const (.int (nI 1)) 1), (3, m_istore 4 2), (5, m_iload 4 2), (7, m_iload 2 1), (8, m_icmp (fun x y => decide (y ≤ x)) 32), (11, m_iload 3 1), (12, m_iload 1 1), (13, m_iload 2 1), (14, m_cst 91 3), (17, m_istore 3 1), (18, m_iload 3 1), (19, m_iload 0 1), (20, m_icmp (fun x y => !(x == y)) 26), (23, m_iload 4 2), (25, m_iret), (26, m_iinc 4 (nI 1)), (29, m_goto 5), (32, m_iload 2 1), (33, m_iret)]
def tX5_leastCommonMultiple : m_Tab := [(0, m_const (.int (nI 1)) 1), (1, m_istore 2 1), (2, m_iload 2 1), (3, m_iload 1 1), (4, m_icmp (fun x y => decide (y ≤ x)) 25), (7, m_iload 0 1), (8, m_iload 2 1), (9, m_bin (fun a b => a * b)), (10, m_iload 1 1), (11, m_div (fun a b => a - a / b * b)), (12, m_if (fun x => !(x == 0)) 19), (15, m_iload 0 1), (16, m_iload 2 1), (17, m_bin (fun a b => a * b)), (18, m_iret), (19, m_iinc 2 (nI 1)), (22, m_goto 2), (25, m_iload 0 1), (26, m_iload 1 1), (27, m_bin (fun a b => a * b)), (28, m_iret)]
def tX6_init_0 : m_Tab := [(0, m_aload 0 1), (1, m_init0), (4, m_aload 0 1), (5, m_const (.int (nI 611)) 3), (8, m_nar 0), (10, m_put 6 0 1), (13, m_aload 0 1), (14, m_const (.int (nI 611)) 3), (17, m_nar 0), (19, m_put 6 1 1), (22, m_aload 0 1), (23, m_const (.int (nI 2444)) 3), (26, m_nar 0), (28, m_put 6 2 1), (31, m_aload 0 1), (32, m_const (.int (nI 611)) 3), (35, m_nar 0), (37, m_put 6 4 1), (40, m_aload 0 1), (41, m_const (.int (nI 60)) 2), (43, m_nar 0), (45, m_put 6 6 1), (48, m_aload 0 1), (49, m_const (.int (nI 24)) 2), (51, m_nar 0), (53, m_put 6 12 1), (56, m_aload 0 1), (57, m_const (.int (nI 24)) 2), (59, m_nar 0), (61, m_put 6 13 1), (64, m_aload 0 1), (65, m_get 6 0), (68, m_const (.int (nI 0)) 1), (69, m_const (.int (nI 10)) 2), (71, m_ist 0 (fun x => x)), (72, m_aload 0 1), (73, m_get 6 0), (76, m_const (.int (nI 1)) 1), (77, m_const (.int (nI 3)) 1), (78, m_ist 0 (fun x => x)), (79, m_aload 0 1), (80, m_get 6 0), (83, m_const (.int (nI 2)) 1), (84, m_const (.int (nI 4)) 1), (85, m_ist 0 (fun x => x)), (86, m_aload 0 1), (87, m_get 6 0), (90, m_const (.int (nI 3)) 1), (91, m_const (.int (nI 12)) 2), (93, m_ist 0 (fun x => x)), (94, m_const (.int (nI 0)) 1), (95, m_istore 1 1), (96, m_iload 1 1), (97, m_const (.int (nI 24)) 2), (99, m_icmp (fun x y => decide (y ≤ x)) 118), (102, m_aload 0 1), (103, m_get 6 0), (106, m_const (.int (nI 11)) 2), (108, m_iload 1 1), (109, m_bin (fun a b => a + b))]
def tX6_init_1 : m_Tab := [(110, m_iload 1 1), (111, m_ist 0 (fun x => x)), (112, m_iinc 1 (nI 1)), (115, m_goto 96), (118, m_vret)]
def tX6_init : m_Tab := tX6_init_0 ++ (tX6_init_1)
def tX6_within : m_Tab := [(0, m_iload 0 1), (1, m_iload 1 1), (2, m_icmp (fun x y => decide (x < y)) 14), (5, m_iload 0 1), (6, m_iload 2 1), (7, m_icmp (fun x y => decide (y < x)) 14), (10, m_const (.int (nI 1)) 1), (11, m_goto 15), (14, m_const (.int (nI 0)) 1), (15, m_zret (fun x => x &&& 1))]
def tX6_isCell : m_Tab := [(0, m_iload 0 1), (1, m_const (.int (nI 0)) 1), (2, m_const (.int (nI 23)) 2), (4, m_cst 96 3), (7, m_zret (fun x => x &&& 1))]
def tX6_isMark : m_Tab := [(0, m_iload 0 1), (1, m_const (.int (nI 0)) 1), (2, m_const (.int (nI 3)) 1), (3, m_cst 96 3), (6, m_zret (fun x => x &&& 1))]
def tX6_isCourt : m_Tab := [(0, m_iload 0 1), (1, m_const (.int (nI 6)) 2), (3, m_div (fun a b => a - a / b * b)), (4, m_const (.int (nI 2)) 1), (5, m_icmp (fun x y => decide (x ≤ y)) 12), (8, m_const (.int (nI 1)) 1), (9, m_goto 13), (12, m_const (.int (nI 0)) 1), (13, m_zret (fun x => x &&& 1))]
def tX6_ones : m_Tab := [(0, m_iload 0 1), (1, m_const (.int (nI 1)) 1), (2, m_bin (fun a b => a &&& b)), (3, m_iload 0 1), (4, m_const (.int (nI 1)) 1), (5, m_bin (fun a b => a >>> (b &&& 31))), (6, m_const (.int (nI 1)) 1), (7, m_bin (fun a b => a &&& b)), (8, m_bin (fun a b => a + b)), (9, m_iload 0 1), (10, m_const (.int (nI 2)) 1), (11, m_bin (fun a b => a >>> (b &&& 31))), (12, m_const (.int (nI 1)) 1), (13, m_bin (fun a b => a &&& b)), (14, m_bin (fun a b => a + b)), (15, m_iload 0 1), (16, m_const (.int (nI 3)) 1), (17, m_bin (fun a b => a >>> (b &&& 31))), (18, m_const (.int (nI 1)) 1), (19, m_bin (fun a b => a &&& b)), (20, m_bin (fun a b => a + b)), (21, m_iret)]
def tX6_putAside : m_Tab := [(0, m_const (.int (nI 0)) 1), (1, m_istore 1 1), (2, m_iload 1 1), (3, m_const (.int (nI 611)) 3), (6, m_icmp (fun x y => decide (y ≤ x)) 27), (9, m_aload 0 1), (10, m_get 6 1), (13, m_iload 1 1), (14, m_aload 0 1), (15, m_get 6 0), (18, m_iload 1 1), (19, m_ild 0), (20, m_ist 0 (fun x => x)), (21, m_iinc 1 (nI 1)), (24, m_goto 2), (27, m_vret)]
def tX6_takeBack : m_Tab := [(0, m_const (.int (nI 0)) 1), (1, m_istore 1 1), (2, m_iload 1 1), (3, m_const (.int (nI 611)) 3), (6, m_icmp (fun x y => decide (y ≤ x)) 27), (9, m_aload 0 1), (10, m_get 6 0), (13, m_iload 1 1), (14, m_aload 0 1), (15, m_get 6 1), (18, m_iload 1 1), (19, m_ild 0), (20, m_ist 0 (fun x => x)), (21, m_iinc 1 (nI 1)), (24, m_goto 2), (27, m_vret)]
def tX6_push : m_Tab := [(0, m_aload 0 1), (1, m_get 6 3), (4, m_const (.int (nI 4)) 1), (5, m_icmp (fun x y => !(x == y)) 49), (8, m_const (.int (nI 0)) 1), (9, m_istore 1 1), (10, m_iload 1 1), (11, m_const (.int (nI 1833)) 3), (14, m_icmp (fun x y => decide (y ≤ x)) 39), (17, m_aload 0 1), (18, m_get 6 2), (21, m_iload 1 1), (22, m_aload 0 1), (23, m_get 6 2), (26, m_iload 1 1), (27, m_const (.int (nI 611)) 3), (30, m_bin (fun a b => a + b)), (31, m_ild 0), (32, m_ist 0 (fun x => x)), (33, m_iinc 1 (nI 1)), (36, m_goto 10), (39, m_aload 0 1), (40, m_dup), (41, m_get 6 3), (44, m_const (.int (nI 1)) 1), (45, m_bin (fun a b => a - b)), (46, m_put 6 3 0), (49, m_const (.int (nI 0)) 1), (50, m_istore 1 1), (51, m_iload 1 1), (52, m_const (.int (nI 611)) 3), (55, m_icmp (fun x y => decide (y ≤ x)) 85), (58, m_aload 0 1), (59, m_get 6 2), (62, m_aload 0 1), (63, m_get 6 3), (66, m_const (.int (nI 611)) 3), (69, m_bin (fun a b => a * b)), (70, m_iload 1 1), (71, m_bin (fun a b => a + b)), (72, m_aload 0 1), (73, m_get 6 1), (76, m_iload 1 1), (77, m_ild 0), (78, m_ist 0 (fun x => x)), (79, m_iinc 1 (nI 1)), (82, m_goto 51), (85, m_aload 0 1), (86, m_dup), (87, m_get 6 3), (90, m_const (.int (nI 1)) 1), (91, m_bin (fun a b => a + b)), (92, m_put 6 3 0), (95, m_vret)]
def tX6_record : m_Tab := [(0, m_aload 0 1), (1, m_cob 101 0 6), (4, m_aload 0 1), (5, m_cob 103 0 6), (8, m_vret)]
def tX6_undo : m_Tab := [(0, m_aload 0 1), (1, m_get 6 3), (4, m_if (fun x => !(x == 0)) 10), (7, m_const (.int (-5)) 2), (9, m_iret), (10, m_aload 0 1), (11, m_dup), (12, m_get 6 3), (15, m_const (.int (nI 1)) 1), (16, m_bin (fun a b => a - b)), (17, m_put 6 3 0), (20, m_const (.int (nI 0)) 1), (21, m_istore 1 1), (22, m_iload 1 1), (23, m_const (.int (nI 611)) 3), (26, m_icmp (fun x y => decide (y ≤ x)) 56), (29, m_aload 0 1), (30, m_get 6 0), (33, m_iload 1 1), (34, m_aload 0 1), (35, m_get 6 2), (38, m_aload 0 1), (39, m_get 6 3), (42, m_const (.int (nI 611)) 3), (45, m_bin (fun a b => a * b)), (46, m_iload 1 1), (47, m_bin (fun a b => a + b)), (48, m_ild 0), (49, m_ist 0 (fun x => x)), (50, m_iinc 1 (nI 1)), (53, m_goto 22), (56, m_aload 0 1), (57, m_get 6 3), (60, m_iret)]
def tX6_keep : m_Tab := [(0, m_const (.int (nI 0)) 1), (1, m_istore 1 1), (2, m_iload 1 1), (3, m_const (.int (nI 611)) 3), (6, m_icmp (fun x y => decide (y ≤ x)) 27), (9, m_aload 0 1), (10, m_get 6 4), (13, m_iload 1 1), (14, m_aload 0 1), (15, m_get 6 0), (18, m_iload 1 1), (19, m_ild 0), (20, m_ist 0 (fun x => x)), (21, m_iinc 1 (nI 1)), (24, m_goto 2), (27, m_aload 0 1), (28, m_const (.int (nI 1)) 1), (29, m_put 6 5 2), (32, m_aload 0 1), (33, m_get 6 0), (36, m_const (.int (nI 4)) 1), (37, m_ild 0), (38, m_iret)]
def tX6_restore : m_Tab := [(0, m_aload 0 1), (1, m_get 6 5), (4, m_if (fun x => !(x == 0)) 10), (7, m_const (.int (-5)) 2), (9, m_iret), (10, m_aload 0 1), (11, m_cob 104 0 6), (14, m_const (.int (nI 0)) 1), (15, m_istore 1 1), (16, m_iload 1 1), (17, m_const (.int (nI 611)) 3), (20, m_icmp (fun x y => decide (y ≤ x)) 41), (23, m_aload 0 1), (24, m_get 6 0), (27, m_iload 1 1), (28, m_aload 0 1), (29, m_get 6 4), (32, m_iload 1 1), (33, m_ild 0), (34, m_ist 0 (fun x => x)), (35, m_iinc 1 (nI 1)), (38, m_goto 16), (41, m_aload 0 1), (42, m_get 6 0), (45, m_const (.int (nI 4)) 1), (46, m_ild 0), (47, m_iret)]
def tX6_exchange : m_Tab := [(0, m_aload 0 1), (1, m_get 6 0), (4, m_const (.int (nI 11)) 2), (6, m_iload 1 1), (7, m_bin (fun a b => a + b)), (8, m_ild 0), (9, m_istore 3 1), (10, m_aload 0 1), (11, m_get 6 0), (14, m_const (.int (nI 11)) 2), (16, m_iload 1 1), (17, m_bin (fun a b => a + b)), (18, m_aload 0 1), (19, m_get 6 0), (22, m_const (.int (nI 11)) 2), (24, m_iload 2 1), (25, m_bin (fun a b => a + b)), (26, m_ild 0), (27, m_ist 0 (fun x => x)), (28, m_aload 0 1), (29, m_get 6 0), (32, m_const (.int (nI 11)) 2), (34, m_iload 2 1), (35, m_bin (fun a b => a + b)), (36, m_iload 3 1), (37, m_ist 0 (fun x => x)), (38, m_vret)]
def tX6_setMark : m_Tab := [(0, m_aload 0 1), (1, m_get 6 0), (4, m_const (.int (nI 59)) 2), (6, m_iload 1 1), (7, m_bin (fun a b => a + b)), (8, m_iload 3 1), (9, m_if (fun x => x == 0) 28), (12, m_aload 0 1), (13, m_get 6 0), (16, m_const (.int (nI 59)) 2), (18, m_iload 1 1), (19, m_bin (fun a b => a + b)), (20, m_ild 0), (21, m_const (.int (nI 1)) 1), (22, m_iload 2 1), (23, m_bin (fun a b => a <<< (b &&& 31))), (24, m_bin (fun a b => a ||| b)), (25, m_goto 43), (28, m_aload 0 1), (29, m_get 6 0), (32, m_const (.int (nI 59)) 2), (34, m_iload 1 1), (35, m_bin (fun a b => a + b)), (36, m_ild 0), (37, m_const (.int (nI 1)) 1), (38, m_iload 2 1), (39, m_bin (fun a b => a <<< (b &&& 31))), (40, m_const (.int (-1)) 1), (41, m_bin (fun a b => a ^^^ b)), (42, m_bin (fun a b => a &&& b)), (43, m_ist 0 (fun x => x)), (44, m_vret)]
def tX6_swap : m_Tab := [(0, m_iload 1 1), (1, m_cst 97 1), (4, m_if (fun x => x == 0) 14), (7, m_iload 2 1), (8, m_cst 97 1), (11, m_if (fun x => !(x == 0)) 16), (14, m_const (.int (-1)) 1), (15, m_iret), (16, m_iload 1 1), (17, m_iload 2 1), (18, m_icmp (fun x y => !(x == y)) 24), (21, m_const (.int (-5)) 2), (23, m_iret), (24, m_aload 0 1), (25, m_cob 104 0 6), (28, m_aload 0 1), (29, m_iload 1 1), (30, m_iload 2 1), (31, m_cob 108 2 6), (34, m_aload 0 1), (35, m_get 6 0), (38, m_const (.int (nI 11)) 2), (40, m_iload 1 1), (41, m_bin (fun a b => a + b)), (42, m_ild 0), (43, m_iret)]
def tX6_mark : m_Tab := [(0, m_iload 1 1), (1, m_cst 97 1), (4, m_if (fun x => x == 0) 14), (7, m_iload 2 1), (8, m_cst 98 1), (11, m_if (fun x => !(x == 0)) 16), (14, m_const (.int (-1)) 1), (15, m_iret), (16, m_aload 0 1), (17, m_get 6 0), (20, m_const (.int (nI 59)) 2), (22, m_iload 1 1), (23, m_bin (fun a b => a + b)), (24, m_ild 0), (25, m_iload 2 1), (26, m_bin (fun a b => a >>> (b &&& 31))), (27, m_const (.int (nI 1)) 1), (28, m_bin (fun a b => a &&& b)), (29, m_iload 3 1), (30, m_if (fun x => x == 0) 37), (33, m_const (.int (nI 1)) 1), (34, m_goto 38), (37, m_const (.int (nI 0)) 1), (38, m_icmp (fun x y => !(x == y)) 44), (41, m_const (.int (-5)) 2), (43, m_iret), (44, m_aload 0 1), (45, m_cob 104 0 6), (48, m_aload 0 1), (49, m_iload 1 1), (50, m_iload 2 1), (51, m_iload 3 1), (52, m_cob 109 3 6), (55, m_aload 0 1), (56, m_get 6 0), (59, m_const (.int (nI 59)) 2), (61, m_iload 1 1), (62, m_bin (fun a b => a + b)), (63, m_ild 0), (64, m_iret)]
def tX6_lean : m_Tab := [(0, m_iload 1 1), (1, m_cst 97 1), (4, m_if (fun x => !(x == 0)) 9), (7, m_const (.int (-1)) 1), (8, m_iret), (9, m_iload 2 1), (10, m_const (.int (-9)) 2), (12, m_const (.int (nI 9)) 2), (14, m_cst 96 3), (17, m_if (fun x => !(x == 0)) 23), (20, m_const (.int (-2)) 2), (22, m_iret), (23, m_iload 1 1), (24, m_cst 99 1), (27, m_if (fun x => !(x == 0)) 33), (30, m_const (.int (-4)) 2), (32, m_iret), (33, m_aload 0 1), (34, m_get 6 0), (37, m_const (.int (nI 35)) 2), (39, m_iload 1 1), (40, m_bin (fun a b => a + b)), (41, m_ild 0), (42, m_istore 3 1), (43, m_iload 3 1), (44, m_iload 2 1), (45, m_icmp (fun x y => !(x == y)) 51), (48, m_const (.int (-5)) 2), (50, m_iret), (51, m_aload 0 1), (52, m_cob 104 0 6), (55, m_aload 0 1), (56, m_get 6 0), (59, m_const (.int (nI 35)) 2), (61, m_iload 1 1), (62, m_bin (fun a b => a + b)), (63, m_iload 2 1), (64, m_ist 0 (fun x => x)), (65, m_iload 3 1), (66, m_const (.int (nI 100)) 2), (68, m_bin (fun a b => a + b)), (69, m_iret)]
def tX6_leastOf : m_Tab := [(0, m_iload 0 1), (1, m_if (fun x => x == 0) 9), (4, m_iload 0 1), (5, m_const (.int (nI 3)) 1), (6, m_icmp (fun x y => !(x == y)) 13), (9, m_const (.int (nI 1)) 1), (10, m_goto 14), (13, m_const (.int (nI 0)) 1), (14, m_iret)]
def tX6_mostOf : m_Tab := [(0, m_iload 0 1), (1, m_const (.int (nI 1)) 1), (2, m_icmp (fun x y => !(x == y)) 10), (5, m_const (.int (nI 9)) 2), (7, m_goto 22), (10, m_iload 0 1), (11, m_const (.int (nI 2)) 1), (12, m_icmp (fun x y => !(x == y)) 20), (15, m_const (.int (nI 24)) 2), (17, m_goto 22), (20, m_const (.int (nI 99)) 2), (22, m_iret)]
def tX6_set : m_Tab := [(0, m_iload 1 1), (1, m_const (.int (nI 0)) 1), (2, m_const (.int (nI 3)) 1), (3, m_cst 96 3), (6, m_if (fun x => x == 0) 24), (9, m_iload 2 1), (10, m_iload 1 1), (11, m_cst 113 1), (14, m_iload 1 1), (15, m_cst 114 1), (18, m_cst 96 3), (21, m_if (fun x => !(x == 0)) 27), (24, m_const (.int (-2)) 2), (26, m_iret), (27, m_aload 0 1), (28, m_get 6 0), (31, m_const (.int (nI 0)) 1), (32, m_iload 1 1), (33, m_bin (fun a b => a + b)), (34, m_ild 0), (35, m_istore 3 1), (36, m_iload 3 1), (37, m_iload 2 1), (38, m_icmp (fun x y => !(x == y)) 44), (41, m_const (.int (-5)) 2), (43, m_iret), (44, m_aload 0 1), (45, m_cob 104 0 6), (48, m_aload 0 1), (49, m_get 6 0), (52, m_const (.int (nI 0)) 1), (53, m_iload 1 1), (54, m_bin (fun a b => a + b)), (55, m_iload 2 1), (56, m_ist 0 (fun x => x)), (57, m_iload 3 1), (58, m_iret)]
def tX6_backOf : m_Tab := [(0, m_aload 0 1), (1, m_get 6 0), (4, m_const (.int (nI 59)) 2), (6, m_iload 2 1), (7, m_if (fun x => x == 0) 17), (10, m_const (.int (nI 23)) 2), (12, m_iload 1 1), (13, m_bin (fun a b => a - b)), (14, m_goto 18), (17, m_iload 1 1), (18, m_bin (fun a b => a + b)), (19, m_ild 0), (20, m_iret)]
def tX6_sheetAt : m_Tab := [(0, m_const (.int (nI 179)) 3), (3, m_const (.int (nI 72)) 2), (5, m_iload 0 1), (6, m_bin (fun a b => a * b)), (7, m_bin (fun a b => a + b)), (8, m_iret)]
def tX6_top : m_Tab := [(0, m_aload 0 1), (1, m_get 6 0), (4, m_const (.int (nI 5)) 1), (5, m_ild 0), (6, m_const (.int (nI 1)) 1), (7, m_bin (fun a b => a - b)), (8, m_cst 117 1), (11, m_iret)]
def tX6_print_0 : m_Tab := [(0, m_aload 0 1), (1, m_get 6 0), (4, m_const (.int (nI 5)) 1), (5, m_ild 0), (6, m_const (.int (nI 6)) 2), (8, m_icmp (fun x y => !(x == y)) 14), (11, m_const (.int (-3)) 2), (13, m_iret), (14, m_aload 0 1), (15, m_cob 104 0 6), (18, m_aload 0 1), (19, m_get 6 0), (22, m_const (.int (nI 5)) 1), (23, m_dup2), (24, m_ild 0), (25, m_const (.int (nI 1)) 1), (26, m_bin (fun a b => a + b)), (27, m_ist 0 (fun x => x)), (28, m_const (.int (nI 0)) 1), (29, m_istore 2 1), (30, m_iload 2 1), (31, m_const (.int (nI 24)) 2), (33, m_icmp (fun x y => decide (y ≤ x)) 105), (36, m_aload 0 1), (37, m_get 6 0), (40, m_aload 0 1), (41, m_cob 118 0 6), (44, m_iload 2 1), (45, m_bin (fun a b => a + b)), (46, m_aload 0 1), (47, m_get 6 0), (50, m_const (.int (nI 11)) 2), (52, m_iload 2 1), (53, m_bin (fun a b => a + b)), (54, m_ild 0), (55, m_ist 0 (fun x => x)), (56, m_aload 0 1), (57, m_get 6 0), (60, m_aload 0 1), (61, m_cob 118 0 6), (64, m_const (.int (nI 24)) 2), (66, m_bin (fun a b => a + b)), (67, m_iload 2 1), (68, m_bin (fun a b => a + b)), (69, m_aload 0 1), (70, m_get 6 0), (73, m_const (.int (nI 35)) 2), (75, m_iload 2 1), (76, m_bin (fun a b => a + b)), (77, m_ild 0), (78, m_ist 0 (fun x => x)), (79, m_aload 0 1), (80, m_get 6 0), (83, m_aload 0 1), (84, m_cob 118 0 6), (87, m_const (.int (nI 48)) 2), (89, m_bin (fun a b => a + b)), (90, m_iload 2 1), (91, m_bin (fun a b => a + b)), (92, m_aload 0 1)]
def tX6_print_1 : m_Tab := [(93, m_iload 2 1), (94, m_iload 1 1), (95, m_cob 116 2 6), (98, m_ist 0 (fun x => x)), (99, m_iinc 2 (nI 1)), (102, m_goto 30), (105, m_aload 0 1), (106, m_get 6 0), (109, m_const (.int (nI 4)) 1), (110, m_dup2), (111, m_ild 0), (112, m_const (.int (nI 1)) 1), (113, m_bin (fun a b => a + b)), (114, m_ist 0 (fun x => x)), (115, m_aload 0 1), (116, m_get 6 0), (119, m_const (.int (nI 4)) 1), (120, m_ild 0), (121, m_istore 2 1), (122, m_iload 2 1), (123, m_aload 0 1), (124, m_get 6 0), (127, m_const (.int (nI 0)) 1), (128, m_ild 0), (129, m_div (fun a b => a - a / b * b)), (130, m_if (fun x => !(x == 0)) 152), (133, m_aload 0 1), (134, m_iload 2 1), (135, m_const (.int (nI 24)) 2), (137, m_div (fun a b => a - a / b * b)), (138, m_iload 2 1), (139, m_aload 0 1), (140, m_get 6 0), (143, m_const (.int (nI 0)) 1), (144, m_ild 0), (145, m_div (fun a b => a / b)), (146, m_const (.int (nI 4)) 1), (147, m_div (fun a b => a - a / b * b)), (148, m_const (.int (nI 1)) 1), (149, m_cob 109 3 6), (152, m_aload 0 1), (153, m_get 6 0), (156, m_const (.int (nI 5)) 1), (157, m_ild 0), (158, m_iret)]
def tX6_print : m_Tab := tX6_print_0 ++ (tX6_print_1)
def tX6_cellAt : m_Tab := [(0, m_iload 1 1), (1, m_const (.int (nI 2)) 1), (2, m_div (fun a b => a - a / b * b)), (3, m_if (fun x => !(x == 0)) 10), (6, m_const (.int (nI 1)) 1), (7, m_goto 11), (10, m_const (.int (nI 0)) 1), (11, m_istore 2 1), (12, m_iload 2 1), (13, m_if (fun x => x == 0) 21), (16, m_const (.int (nI 6)) 2), (18, m_goto 22), (21, m_const (.int (nI 4)) 1), (22, m_istore 3 1), (23, m_iload 0 1), (24, m_iload 3 1), (25, m_div (fun a b => a / b)), (26, m_istore 4 2), (28, m_iload 0 1), (29, m_iload 3 1), (30, m_div (fun a b => a - a / b * b)), (31, m_istore 5 2), (33, m_iload 1 1), (34, m_const (.int (nI 1)) 1), (35, m_icmp (fun x y => decide (x ≤ y)) 55), (38, m_iload 4 2), (40, m_const (.int (nI 2)) 1), (41, m_div (fun a b => a - a / b * b)), (42, m_const (.int (nI 1)) 1), (43, m_icmp (fun x y => !(x == y)) 55), (46, m_iload 3 1), (47, m_const (.int (nI 1)) 1), (48, m_bin (fun a b => a - b)), (49, m_iload 5 2), (51, m_bin (fun a b => a - b)), (52, m_goto 57), (55, m_iload 5 2), (57, m_istore 5 2), (59, m_iload 2 1), (60, m_if (fun x => x == 0) 74), (63, m_const (.int (nI 6)) 2), (65, m_iload 4 2), (67, m_bin (fun a b => a * b)), (68, m_iload 5 2), (70, m_bin (fun a b => a + b)), (71, m_goto 82), (74, m_const (.int (nI 6)) 2), (76, m_iload 5 2), (78, m_bin (fun a b => a * b)), (79, m_iload 4 2), (81, m_bin (fun a b => a + b)), (82, m_iret)]
def tX6_cutSheet_0 : m_Tab := [(0, m_iload 1 1), (1, m_const (.int (nI 0)) 1), (2, m_const (.int (nI 3)) 1), (3, m_cst 96 3), (6, m_if (fun x => !(x == 0)) 12), (9, m_const (.int (-2)) 2), (11, m_iret), (12, m_aload 0 1), (13, m_get 6 0), (16, m_const (.int (nI 6)) 2), (18, m_ild 0), (19, m_const (.int (nI 1)) 1), (20, m_icmp (fun x y => x == y) 32), (23, m_aload 0 1), (24, m_get 6 0), (27, m_const (.int (nI 5)) 1), (28, m_ild 0), (29, m_if (fun x => !(x == 0)) 35), (32, m_const (.int (-4)) 2), (34, m_iret), (35, m_aload 0 1), (36, m_cob 104 0 6), (39, m_const (.int (nI 0)) 1), (40, m_istore 2 1), (41, m_iload 2 1), (42, m_const (.int (nI 24)) 2), (44, m_icmp (fun x y => decide (y ≤ x)) 142), (47, m_iload 2 1), (48, m_iload 1 1), (49, m_cst 120 2), (52, m_istore 3 1), (53, m_aload 0 1), (54, m_get 6 0), (57, m_aload 0 1), (58, m_cob 118 0 6), (61, m_iload 3 1), (62, m_bin (fun a b => a + b)), (63, m_ild 0), (64, m_istore 4 2), (66, m_aload 0 1), (67, m_get 6 0), (70, m_const (.int (nI 83)) 2), (72, m_iload 2 1), (73, m_bin (fun a b => a + b)), (74, m_iload 4 2), (76, m_ist 0 (fun x => x)), (77, m_aload 0 1), (78, m_get 6 0), (81, m_const (.int (nI 131)) 3), (84, m_iload 4 2), (86, m_bin (fun a b => a + b)), (87, m_aload 0 1), (88, m_get 6 0), (91, m_aload 0 1), (92, m_cob 118 0 6), (95, m_const (.int (nI 48)) 2), (97, m_bin (fun a b => a + b)), (98, m_iload 3 1), (99, m_bin (fun a b => a + b)), (100, m_ild 0)]
def tX6_cutSheet_1 : m_Tab := [(101, m_ist 0 (fun x => x)), (102, m_aload 0 1), (103, m_get 6 0), (106, m_const (.int (nI 107)) 2), (108, m_iload 2 1), (109, m_bin (fun a b => a + b)), (110, m_aload 0 1), (111, m_get 6 0), (114, m_aload 0 1), (115, m_cob 118 0 6), (118, m_const (.int (nI 24)) 2), (120, m_bin (fun a b => a + b)), (121, m_iload 2 1), (122, m_bin (fun a b => a + b)), (123, m_ild 0), (124, m_ist 0 (fun x => x)), (125, m_aload 0 1), (126, m_get 6 0), (129, m_const (.int (nI 155)) 3), (132, m_iload 2 1), (133, m_bin (fun a b => a + b)), (134, m_const (.int (nI 0)) 1), (135, m_ist 0 (fun x => x)), (136, m_iinc 2 (nI 1)), (139, m_goto 41), (142, m_aload 0 1), (143, m_get 6 0), (146, m_const (.int (nI 6)) 2), (148, m_const (.int (nI 1)) 1), (149, m_ist 0 (fun x => x)), (150, m_aload 0 1), (151, m_get 6 0), (154, m_const (.int (nI 7)) 2), (156, m_const (.int (nI 24)) 2), (158, m_ist 0 (fun x => x)), (159, m_aload 0 1), (160, m_get 6 0), (163, m_const (.int (nI 5)) 1), (164, m_dup2), (165, m_ild 0), (166, m_const (.int (nI 1)) 1), (167, m_bin (fun a b => a - b)), (168, m_ist 0 (fun x => x)), (169, m_aload 0 1), (170, m_get 6 0), (173, m_const (.int (nI 5)) 1), (174, m_ild 0), (175, m_iret)]
def tX6_cutSheet : m_Tab := tX6_cutSheet_0 ++ (tX6_cutSheet_1)
def tX6_canPart : m_Tab := [(0, m_iload 1 1), (1, m_const (.int (nI 1)) 1), (2, m_aload 0 1), (3, m_get 6 0), (6, m_const (.int (nI 7)) 2), (8, m_ild 0), (9, m_const (.int (nI 1)) 1), (10, m_bin (fun a b => a - b)), (11, m_cst 96 3), (14, m_zret (fun x => x &&& 1))]
def tX6_takeOrder : m_Tab := [(0, m_const (.int (nI 0)) 1), (1, m_istore 1 1), (2, m_iload 1 1), (3, m_aload 0 1), (4, m_get 6 0), (7, m_const (.int (nI 7)) 2), (9, m_ild 0), (10, m_icmp (fun x y => decide (y ≤ x)) 34), (13, m_aload 0 1), (14, m_get 6 12), (17, m_iload 1 1), (18, m_aload 0 1), (19, m_get 6 0), (22, m_const (.int (nI 83)) 2), (24, m_iload 1 1), (25, m_bin (fun a b => a + b)), (26, m_ild 0), (27, m_ist 0 (fun x => x)), (28, m_iinc 1 (nI 1)), (31, m_goto 2), (34, m_vret)]
def tX6_cutPack : m_Tab := [(0, m_aload 0 1), (1, m_get 6 0), (4, m_const (.int (nI 6)) 2), (6, m_ild 0), (7, m_if (fun x => !(x == 0)) 13), (10, m_const (.int (-4)) 2), (12, m_iret), (13, m_aload 0 1), (14, m_iload 1 1), (15, m_cob 122 1 6), (18, m_if (fun x => !(x == 0)) 24), (21, m_const (.int (-2)) 2), (23, m_iret), (24, m_aload 0 1), (25, m_cob 104 0 6), (28, m_aload 0 1), (29, m_cob 123 0 6), (32, m_const (.int (nI 0)) 1), (33, m_istore 2 1), (34, m_iload 2 1), (35, m_aload 0 1), (36, m_get 6 0), (39, m_const (.int (nI 7)) 2), (41, m_ild 0), (42, m_icmp (fun x y => decide (y ≤ x)) 76), (45, m_aload 0 1), (46, m_get 6 0), (49, m_const (.int (nI 83)) 2), (51, m_iload 2 1), (52, m_bin (fun a b => a + b)), (53, m_aload 0 1), (54, m_get 6 12), (57, m_iload 2 1), (58, m_iload 1 1), (59, m_bin (fun a b => a + b)), (60, m_aload 0 1), (61, m_get 6 0), (64, m_const (.int (nI 7)) 2), (66, m_ild 0), (67, m_div (fun a b => a - a / b * b)), (68, m_ild 0), (69, m_ist 0 (fun x => x)), (70, m_iinc 2 (nI 1)), (73, m_goto 34), (76, m_aload 0 1), (77, m_get 6 0), (80, m_const (.int (nI 83)) 2), (82, m_ild 0), (83, m_iret)]
def tX6_cameFrom : m_Tab := [(0, m_iload 2 1), (1, m_aload 0 1), (2, m_get 6 0), (5, m_const (.int (nI 7)) 2), (7, m_ild 0), (8, m_iload 2 1), (9, m_bin (fun a b => a - b)), (10, m_icmp (fun x y => decide (y ≤ x)) 17), (13, m_iload 2 1), (14, m_goto 26), (17, m_aload 0 1), (18, m_get 6 0), (21, m_const (.int (nI 7)) 2), (23, m_ild 0), (24, m_iload 2 1), (25, m_bin (fun a b => a - b)), (26, m_istore 3 1), (27, m_iload 1 1), (28, m_const (.int (nI 2)) 1), (29, m_iload 3 1), (30, m_bin (fun a b => a * b)), (31, m_icmp (fun x y => decide (y ≤ x)) 52), (34, m_iload 1 1), (35, m_const (.int (nI 2)) 1), (36, m_div (fun a b => a - a / b * b)), (37, m_if (fun x => !(x == 0)) 46), (40, m_iload 1 1), (41, m_const (.int (nI 2)) 1), (42, m_div (fun a b => a / b)), (43, m_goto 51), (46, m_iload 2 1), (47, m_iload 1 1), (48, m_const (.int (nI 2)) 1), (49, m_div (fun a b => a / b)), (50, m_bin (fun a b => a + b)), (51, m_iret), (52, m_iload 2 1), (53, m_iload 3 1), (54, m_icmp (fun x y => decide (x ≤ y)) 63), (57, m_iload 1 1), (58, m_iload 3 1), (59, m_bin (fun a b => a - b)), (60, m_goto 64), (63, m_iload 1 1), (64, m_iret)]
def tX6_shuffle : m_Tab := [(0, m_aload 0 1), (1, m_get 6 0), (4, m_const (.int (nI 6)) 2), (6, m_ild 0), (7, m_if (fun x => !(x == 0)) 13), (10, m_const (.int (-4)) 2), (12, m_iret), (13, m_aload 0 1), (14, m_iload 1 1), (15, m_cob 122 1 6), (18, m_if (fun x => !(x == 0)) 24), (21, m_const (.int (-2)) 2), (23, m_iret), (24, m_aload 0 1), (25, m_cob 104 0 6), (28, m_aload 0 1), (29, m_cob 123 0 6), (32, m_const (.int (nI 0)) 1), (33, m_istore 2 1), (34, m_const (.int (nI 0)) 1), (35, m_istore 3 1), (36, m_iload 3 1), (37, m_aload 0 1), (38, m_get 6 0), (41, m_const (.int (nI 7)) 2), (43, m_ild 0), (44, m_icmp (fun x y => decide (y ≤ x)) 91), (47, m_aload 0 1), (48, m_iload 3 1), (49, m_iload 1 1), (50, m_cob 125 2 6), (53, m_istore 4 2), (55, m_aload 0 1), (56, m_get 6 0), (59, m_const (.int (nI 83)) 2), (61, m_iload 3 1), (62, m_bin (fun a b => a + b)), (63, m_aload 0 1), (64, m_get 6 12), (67, m_iload 4 2), (69, m_ild 0), (70, m_ist 0 (fun x => x)), (71, m_iload 2 1), (72, m_iload 4 2), (74, m_iload 3 1), (75, m_icmp (fun x y => !(x == y)) 82), (78, m_const (.int (nI 0)) 1), (79, m_goto 83), (82, m_const (.int (nI 1)) 1), (83, m_bin (fun a b => a + b)), (84, m_istore 2 1), (85, m_iinc 3 (nI 1)), (88, m_goto 36), (91, m_iload 2 1), (92, m_iret)]
def tX6_deal_0 : m_Tab := [(0, m_aload 0 1), (1, m_get 6 0), (4, m_const (.int (nI 6)) 2), (6, m_ild 0), (7, m_if (fun x => !(x == 0)) 13), (10, m_const (.int (-4)) 2), (12, m_iret), (13, m_iload 1 1), (14, m_const (.int (nI 1)) 1), (15, m_aload 0 1), (16, m_get 6 0), (19, m_const (.int (nI 7)) 2), (21, m_ild 0), (22, m_cst 96 3), (25, m_if (fun x => !(x == 0)) 31), (28, m_const (.int (-2)) 2), (30, m_iret), (31, m_aload 0 1), (32, m_cob 104 0 6), (35, m_const (.int (nI 0)) 1), (36, m_istore 2 1), (37, m_iload 2 1), (38, m_iload 1 1), (39, m_icmp (fun x y => decide (y ≤ x)) 67), (42, m_aload 0 1), (43, m_get 6 0), (46, m_const (.int (nI 155)) 3), (49, m_aload 0 1), (50, m_get 6 0), (53, m_const (.int (nI 83)) 2), (55, m_iload 2 1), (56, m_bin (fun a b => a + b)), (57, m_ild 0), (58, m_bin (fun a b => a + b)), (59, m_const (.int (nI 1)) 1), (60, m_ist 0 (fun x => x)), (61, m_iinc 2 (nI 1)), (64, m_goto 37), (67, m_aload 0 1), (68, m_get 6 0), (71, m_const (.int (nI 7)) 2), (73, m_dup2), (74, m_ild 0), (75, m_iload 1 1), (76, m_bin (fun a b => a - b)), (77, m_ist 0 (fun x => x)), (78, m_const (.int (nI 0)) 1), (79, m_istore 2 1), (80, m_iload 2 1), (81, m_aload 0 1), (82, m_get 6 0), (85, m_const (.int (nI 7)) 2), (87, m_ild 0), (88, m_icmp (fun x y => decide (y ≤ x)) 117), (91, m_aload 0 1), (92, m_get 6 0), (95, m_const (.int (nI 83)) 2), (97, m_iload 2 1), (98, m_bin (fun a b => a + b)), (99, m_aload 0 1)]
def tX6_deal_1 : m_Tab := [(100, m_get 6 0), (103, m_const (.int (nI 83)) 2), (105, m_iload 2 1), (106, m_bin (fun a b => a + b)), (107, m_iload 1 1), (108, m_bin (fun a b => a + b)), (109, m_ild 0), (110, m_ist 0 (fun x => x)), (111, m_iinc 2 (nI 1)), (114, m_goto 80), (117, m_aload 0 1), (118, m_get 6 0), (121, m_const (.int (nI 7)) 2), (123, m_ild 0), (124, m_iret)]
def tX6_deal : m_Tab := tX6_deal_0 ++ (tX6_deal_1)
def tX6_alike : m_Tab := [(0, m_const (.int (nI 0)) 1), (1, m_istore 2 1), (2, m_const (.int (nI 0)) 1), (3, m_istore 3 1), (4, m_iload 3 1), (5, m_const (.int (nI 24)) 2), (7, m_icmp (fun x y => decide (y ≤ x)) 51), (10, m_iload 2 1), (11, m_aload 0 1), (12, m_get 6 0), (15, m_const (.int (nI 155)) 3), (18, m_iload 3 1), (19, m_bin (fun a b => a + b)), (20, m_ild 0), (21, m_if (fun x => !(x == 0)) 42), (24, m_aload 0 1), (25, m_get 6 0), (28, m_const (.int (nI 131)) 3), (31, m_iload 3 1), (32, m_bin (fun a b => a + b)), (33, m_ild 0), (34, m_iload 1 1), (35, m_icmp (fun x y => !(x == y)) 42), (38, m_const (.int (nI 1)) 1), (39, m_goto 43), (42, m_const (.int (nI 0)) 1), (43, m_bin (fun a b => a + b)), (44, m_istore 2 1), (45, m_iinc 3 (nI 1)), (48, m_goto 4), (51, m_iload 2 1), (52, m_iret)]
def tX6_marksAt : m_Tab := [(0, m_aload 0 1), (1, m_get 6 0), (4, m_const (.int (nI 131)) 3), (7, m_aload 0 1), (8, m_get 6 0), (11, m_const (.int (nI 83)) 2), (13, m_iload 1 1), (14, m_bin (fun a b => a + b)), (15, m_ild 0), (16, m_bin (fun a b => a + b)), (17, m_ild 0), (18, m_iret)]
def tX6_guess : m_Tab := [(0, m_const (.int (nI 0)) 1), (1, m_istore 2 1), (2, m_aload 0 1), (3, m_get 6 0), (6, m_const (.int (nI 155)) 3), (9, m_iload 2 1), (10, m_bin (fun a b => a + b)), (11, m_ild 0), (12, m_const (.int (nI 1)) 1), (13, m_icmp (fun x y => x == y) 34), (16, m_aload 0 1), (17, m_get 6 0), (20, m_const (.int (nI 131)) 3), (23, m_iload 2 1), (24, m_bin (fun a b => a + b)), (25, m_ild 0), (26, m_aload 0 1), (27, m_iload 1 1), (28, m_cob 129 1 6), (31, m_icmp (fun x y => x == y) 40), (34, m_iinc 2 (nI 1)), (37, m_goto 2), (40, m_iload 2 1), (41, m_iret)]
def tX6_known : m_Tab := [(0, m_const (.int (nI 0)) 1), (1, m_istore 1 1), (2, m_const (.int (nI 0)) 1), (3, m_istore 2 1), (4, m_iload 2 1), (5, m_aload 0 1), (6, m_get 6 0), (9, m_const (.int (nI 7)) 2), (11, m_ild 0), (12, m_icmp (fun x y => decide (y ≤ x)) 42), (15, m_iload 1 1), (16, m_aload 0 1), (17, m_aload 0 1), (18, m_iload 2 1), (19, m_cob 129 1 6), (22, m_cob 128 1 6), (25, m_const (.int (nI 1)) 1), (26, m_icmp (fun x y => !(x == y)) 33), (29, m_const (.int (nI 1)) 1), (30, m_goto 34), (33, m_const (.int (nI 0)) 1), (34, m_bin (fun a b => a + b)), (35, m_istore 1 1), (36, m_iinc 2 (nI 1)), (39, m_goto 4), (42, m_iload 1 1), (43, m_iret)]
def tX6_rightOnes : m_Tab := [(0, m_const (.int (nI 0)) 1), (1, m_istore 1 1), (2, m_const (.int (nI 0)) 1), (3, m_istore 2 1), (4, m_iload 2 1), (5, m_aload 0 1), (6, m_get 6 0), (9, m_const (.int (nI 7)) 2), (11, m_ild 0), (12, m_icmp (fun x y => decide (y ≤ x)) 46), (15, m_iload 1 1), (16, m_aload 0 1), (17, m_iload 2 1), (18, m_cob 130 1 6), (21, m_aload 0 1), (22, m_get 6 0), (25, m_const (.int (nI 83)) 2), (27, m_iload 2 1), (28, m_bin (fun a b => a + b)), (29, m_ild 0), (30, m_icmp (fun x y => !(x == y)) 37), (33, m_const (.int (nI 1)) 1), (34, m_goto 38), (37, m_const (.int (nI 0)) 1), (38, m_bin (fun a b => a + b)), (39, m_istore 1 1), (40, m_iinc 2 (nI 1)), (43, m_goto 4), (46, m_iload 1 1), (47, m_iret)]
def tX6_great : m_Tab := [(0, m_iload 0 1), (1, m_if (fun x => decide (0 ≤ x)) 9), (4, m_iload 0 1), (5, m_un (fun a => -a)), (6, m_goto 10), (9, m_iload 0 1), (10, m_iret)]
def tX6_leaning : m_Tab := [(0, m_const (.int (nI 0)) 1), (1, m_istore 2 1), (2, m_const (.int (nI 0)) 1), (3, m_istore 3 1), (4, m_iload 3 1), (5, m_const (.int (nI 24)) 2), (7, m_icmp (fun x y => decide (y ≤ x)) 44), (10, m_iload 2 1), (11, m_aload 0 1), (12, m_get 6 0), (15, m_iload 1 1), (16, m_iload 3 1), (17, m_bin (fun a b => a + b)), (18, m_ild 0), (19, m_cst 133 1), (22, m_aload 0 1), (23, m_get 6 0), (26, m_const (.int (nI 1)) 1), (27, m_ild 0), (28, m_icmp (fun x y => decide (x ≤ y)) 35), (31, m_const (.int (nI 1)) 1), (32, m_goto 36), (35, m_const (.int (nI 0)) 1), (36, m_bin (fun a b => a + b)), (37, m_istore 2 1), (38, m_iinc 3 (nI 1)), (41, m_goto 4), (44, m_iload 2 1), (45, m_iret)]
def tX6_reason : m_Tab := [(0, m_aload 0 1), (1, m_get 6 0), (4, m_const (.int (nI 7)) 2), (6, m_ild 0), (7, m_const (.int (nI 24)) 2), (9, m_icmp (fun x y => decide (y ≤ x)) 14), (12, m_const (.int (nI 1)) 1), (13, m_iret), (14, m_aload 0 1), (15, m_const (.int (nI 107)) 2), (17, m_cob 134 1 6), (20, m_if (fun x => decide (x ≤ 0)) 27), (23, m_const (.int (nI 2)) 1), (24, m_goto 45), (27, m_aload 0 1), (28, m_cob 131 0 6), (31, m_aload 0 1), (32, m_get 6 0), (35, m_const (.int (nI 2)) 1), (36, m_ild 0), (37, m_icmp (fun x y => decide (x ≤ y)) 44), (40, m_const (.int (nI 3)) 1), (41, m_goto 45), (44, m_const (.int (nI 0)) 1), (45, m_iret)]
def tX6_dropPack : m_Tab := [(0, m_aload 0 1), (1, m_get 6 0), (4, m_const (.int (nI 6)) 2), (6, m_const (.int (nI 0)) 1), (7, m_ist 0 (fun x => x)), (8, m_aload 0 1), (9, m_get 6 0), (12, m_const (.int (nI 7)) 2), (14, m_const (.int (nI 0)) 1), (15, m_ist 0 (fun x => x)), (16, m_const (.int (nI 0)) 1), (17, m_istore 1 1), (18, m_iload 1 1), (19, m_const (.int (nI 24)) 2), (21, m_icmp (fun x y => decide (y ≤ x)) 72), (24, m_aload 0 1), (25, m_get 6 0), (28, m_const (.int (nI 83)) 2), (30, m_iload 1 1), (31, m_bin (fun a b => a + b)), (32, m_const (.int (nI 0)) 1), (33, m_ist 0 (fun x => x)), (34, m_aload 0 1), (35, m_get 6 0), (38, m_const (.int (nI 107)) 2), (40, m_iload 1 1), (41, m_bin (fun a b => a + b)), (42, m_const (.int (nI 0)) 1), (43, m_ist 0 (fun x => x)), (44, m_aload 0 1), (45, m_get 6 0), (48, m_const (.int (nI 131)) 3), (51, m_iload 1 1), (52, m_bin (fun a b => a + b)), (53, m_const (.int (nI 0)) 1), (54, m_ist 0 (fun x => x)), (55, m_aload 0 1), (56, m_get 6 0), (59, m_const (.int (nI 155)) 3), (62, m_iload 1 1), (63, m_bin (fun a b => a + b)), (64, m_const (.int (nI 0)) 1), (65, m_ist 0 (fun x => x)), (66, m_iinc 1 (nI 1)), (69, m_goto 18), (72, m_vret)]
def tX6_sell : m_Tab := [(0, m_aload 0 1), (1, m_get 6 0), (4, m_const (.int (nI 6)) 2), (6, m_ild 0), (7, m_if (fun x => !(x == 0)) 13), (10, m_const (.int (-4)) 2), (12, m_iret), (13, m_aload 0 1), (14, m_cob 135 0 6), (17, m_if (fun x => x == 0) 28), (20, m_const (.int (-10)) 2), (22, m_aload 0 1), (23, m_cob 135 0 6), (26, m_bin (fun a b => a - b)), (27, m_iret), (28, m_aload 0 1), (29, m_cob 104 0 6), (32, m_aload 0 1), (33, m_cob 136 0 6), (36, m_aload 0 1), (37, m_get 6 0), (40, m_const (.int (nI 8)) 2), (42, m_dup2), (43, m_ild 0), (44, m_const (.int (nI 1)) 1), (45, m_bin (fun a b => a + b)), (46, m_ist 0 (fun x => x)), (47, m_aload 0 1), (48, m_get 6 0), (51, m_const (.int (nI 10)) 2), (53, m_dup2), (54, m_ild 0), (55, m_aload 0 1), (56, m_get 6 0), (59, m_const (.int (nI 3)) 1), (60, m_ild 0), (61, m_bin (fun a b => a + b)), (62, m_ist 0 (fun x => x)), (63, m_aload 0 1), (64, m_get 6 0), (67, m_const (.int (nI 3)) 1), (68, m_ild 0), (69, m_iret)]
def tX6_pulp : m_Tab := [(0, m_aload 0 1), (1, m_get 6 0), (4, m_const (.int (nI 6)) 2), (6, m_ild 0), (7, m_if (fun x => !(x == 0)) 13), (10, m_const (.int (-4)) 2), (12, m_iret), (13, m_aload 0 1), (14, m_cob 104 0 6), (17, m_aload 0 1), (18, m_get 6 0), (21, m_const (.int (nI 7)) 2), (23, m_ild 0), (24, m_istore 1 1), (25, m_aload 0 1), (26, m_cob 136 0 6), (29, m_aload 0 1), (30, m_get 6 0), (33, m_const (.int (nI 9)) 2), (35, m_dup2), (36, m_ild 0), (37, m_const (.int (nI 1)) 1), (38, m_bin (fun a b => a + b)), (39, m_ist 0 (fun x => x)), (40, m_iload 1 1), (41, m_iret)]
def tX6_type : m_Tab := [(0, m_aload 0 1), (1, m_get 6 7), (4, m_const (.int (nI 60)) 2), (6, m_icmp (fun x y => !(x == y)) 12), (9, m_const (.int (-3)) 2), (11, m_iret), (12, m_aload 0 1), (13, m_get 6 6), (16, m_aload 0 1), (17, m_get 6 7), (20, m_iload 1 1), (21, m_ist 0 (fun x => x)), (22, m_aload 0 1), (23, m_dup), (24, m_get 6 7), (27, m_const (.int (nI 1)) 1), (28, m_bin (fun a b => a + b)), (29, m_put 6 7 0), (32, m_aload 0 1), (33, m_get 6 7), (36, m_iret)]
def tX6_clearText : m_Tab := [(0, m_aload 0 1), (1, m_get 6 7), (4, m_istore 1 1), (5, m_aload 0 1), (6, m_const (.int (nI 0)) 1), (7, m_put 6 7 0), (10, m_iload 1 1), (11, m_iret)]
def tX6_code : m_Tab := [(0, m_aload 0 1), (1, m_get 6 8), (4, m_aload 0 1), (5, m_get 6 7), (8, m_icmp (fun x y => decide (y ≤ x)) 23), (11, m_aload 0 1), (12, m_get 6 6), (15, m_aload 0 1), (16, m_get 6 8), (19, m_ild 0), (20, m_goto 24), (23, m_const (.int (nI 0)) 1), (24, m_iret)]
def tX6_takes : m_Tab := [(0, m_aload 0 1), (1, m_get 6 8), (4, m_aload 0 1), (5, m_get 6 7), (8, m_icmp (fun x y => decide (y ≤ x)) 28), (11, m_aload 0 1), (12, m_get 6 6), (15, m_aload 0 1), (16, m_get 6 8), (19, m_ild 0), (20, m_iload 1 1), (21, m_icmp (fun x y => !(x == y)) 28), (24, m_const (.int (nI 1)) 1), (25, m_goto 29), (28, m_const (.int (nI 0)) 1), (29, m_istore 2 1), (30, m_aload 0 1), (31, m_dup), (32, m_get 6 8), (35, m_iload 2 1), (36, m_if (fun x => x == 0) 43), (39, m_const (.int (nI 1)) 1), (40, m_goto 44), (43, m_const (.int (nI 0)) 1), (44, m_bin (fun a b => a + b)), (45, m_put 6 8 0), (48, m_iload 2 1), (49, m_zret (fun x => x &&& 1))]
def tX6_readNumber : m_Tab := [(0, m_aload 0 1), (1, m_cob 141 0 6), (4, m_const (.int (nI 48)) 2), (6, m_bin (fun a b => a - b)), (7, m_istore 2 1), (8, m_iload 2 1), (9, m_const (.int (nI 0)) 1), (10, m_const (.int (nI 9)) 2), (12, m_cst 96 3), (15, m_if (fun x => x == 0) 23), (18, m_iload 2 1), (19, m_iload 1 1), (20, m_icmp (fun x y => decide (x ≤ y)) 26), (23, m_const (.int (-5)) 2), (25, m_iret), (26, m_aload 0 1), (27, m_dup), (28, m_get 6 8), (31, m_const (.int (nI 1)) 1), (32, m_bin (fun a b => a + b)), (33, m_put 6 8 0), (36, m_aload 0 1), (37, m_cob 141 0 6), (40, m_const (.int (nI 48)) 2), (42, m_bin (fun a b => a - b)), (43, m_istore 3 1), (44, m_iload 2 1), (45, m_if (fun x => decide (x ≤ 0)) 85), (48, m_iload 3 1), (49, m_const (.int (nI 0)) 1), (50, m_const (.int (nI 9)) 2), (52, m_cst 96 3), (55, m_if (fun x => x == 0) 85), (58, m_const (.int (nI 10)) 2), (60, m_iload 2 1), (61, m_bin (fun a b => a * b)), (62, m_iload 3 1), (63, m_bin (fun a b => a + b)), (64, m_iload 1 1), (65, m_icmp (fun x y => decide (y < x)) 85), (68, m_const (.int (nI 10)) 2), (70, m_iload 2 1), (71, m_bin (fun a b => a * b)), (72, m_iload 3 1), (73, m_bin (fun a b => a + b)), (74, m_istore 2 1), (75, m_aload 0 1), (76, m_dup), (77, m_get 6 8), (80, m_const (.int (nI 1)) 1), (81, m_bin (fun a b => a + b)), (82, m_put 6 8 0), (85, m_iload 2 1), (86, m_iret)]
def tX6_readsLean : m_Tab := [(0, m_aload 0 1), (1, m_const (.int (nI 45)) 2), (3, m_cob 142 1 6), (6, m_istore 1 1), (7, m_iload 1 1), (8, m_if (fun x => x == 0) 22), (11, m_aload 0 1), (12, m_cob 141 0 6), (15, m_const (.int (nI 48)) 2), (17, m_icmp (fun x y => !(x == y)) 22), (20, m_const (.int (nI 0)) 1), (21, m_zret (fun x => x &&& 1)), (22, m_aload 0 1), (23, m_aload 0 1), (24, m_const (.int (nI 9)) 2), (26, m_cob 143 1 6), (29, m_put 6 11 0), (32, m_aload 0 1), (33, m_get 6 11), (36, m_const (.int (-5)) 2), (38, m_icmp (fun x y => x == y) 45), (41, m_const (.int (nI 1)) 1), (42, m_goto 46), (45, m_const (.int (nI 0)) 1), (46, m_istore 2 1), (47, m_aload 0 1), (48, m_iload 1 1), (49, m_if (fun x => x == 0) 60), (52, m_aload 0 1), (53, m_get 6 11), (56, m_un (fun a => -a)), (57, m_goto 64), (60, m_aload 0 1), (61, m_get 6 11), (64, m_put 6 11 0), (67, m_iload 2 1), (68, m_zret (fun x => x &&& 1))]
def tX6_readsChange_0 : m_Tab := [(0, m_aload 0 1), (1, m_aload 0 1), (2, m_cob 141 0 6), (5, m_put 6 9 0), (8, m_aload 0 1), (9, m_get 6 9), (12, m_const (.int (nI 115)) 2), (14, m_icmp (fun x y => x == y) 46), (17, m_aload 0 1), (18, m_get 6 9), (21, m_const (.int (nI 109)) 2), (23, m_icmp (fun x y => x == y) 46), (26, m_aload 0 1), (27, m_get 6 9), (30, m_const (.int (nI 117)) 2), (32, m_icmp (fun x y => x == y) 46), (35, m_aload 0 1), (36, m_get 6 9), (39, m_const (.int (nI 108)) 2), (41, m_icmp (fun x y => x == y) 46), (44, m_const (.int (nI 0)) 1), (45, m_zret (fun x => x &&& 1)), (46, m_aload 0 1), (47, m_dup), (48, m_get 6 8), (51, m_const (.int (nI 1)) 1), (52, m_bin (fun a b => a + b)), (53, m_put 6 8 0), (56, m_aload 0 1), (57, m_aload 0 1), (58, m_const (.int (nI 23)) 2), (60, m_cob 143 1 6), (63, m_put 6 10 0), (66, m_aload 0 1), (67, m_get 6 10), (70, m_const (.int (-5)) 2), (72, m_icmp (fun x y => x == y) 98), (75, m_aload 0 1), (76, m_aload 0 1), (77, m_get 6 9), (80, m_const (.int (nI 115)) 2), (82, m_icmp (fun x y => !(x == y)) 90), (85, m_const (.int (nI 47)) 2), (87, m_goto 92), (90, m_const (.int (nI 61)) 2), (92, m_cob 142 1 6), (95, m_if (fun x => !(x == 0)) 100), (98, m_const (.int (nI 0)) 1), (99, m_zret (fun x => x &&& 1)), (100, m_aload 0 1), (101, m_get 6 9), (104, m_const (.int (nI 108)) 2), (106, m_icmp (fun x y => !(x == y)) 114), (109, m_aload 0 1), (110, m_cob 144 0 6), (113, m_zret (fun x => x &&& 1)), (114, m_aload 0 1), (115, m_aload 0 1), (116, m_aload 0 1), (117, m_get 6 9)]
def tX6_readsChange_1 : m_Tab := [(120, m_const (.int (nI 115)) 2), (122, m_icmp (fun x y => !(x == y)) 130), (125, m_const (.int (nI 23)) 2), (127, m_goto 131), (130, m_const (.int (nI 3)) 1), (131, m_cob 143 1 6), (134, m_put 6 11 0), (137, m_aload 0 1), (138, m_get 6 11), (141, m_const (.int (-5)) 2), (143, m_icmp (fun x y => x == y) 150), (146, m_const (.int (nI 1)) 1), (147, m_goto 151), (150, m_const (.int (nI 0)) 1), (151, m_zret (fun x => x &&& 1))]
def tX6_readsChange : m_Tab := tX6_readsChange_0 ++ (tX6_readsChange_1)
def tX6_findFault : m_Tab := [(0, m_aload 0 1), (1, m_const (.int (nI 0)) 1), (2, m_put 6 8 0), (5, m_aload 0 1), (6, m_cob 145 0 6), (9, m_if (fun x => x == 0) 40), (12, m_aload 0 1), (13, m_get 6 8), (16, m_aload 0 1), (17, m_get 6 7), (20, m_icmp (fun x y => !(x == y)) 26), (23, m_const (.int (-5)) 2), (25, m_iret), (26, m_aload 0 1), (27, m_const (.int (nI 59)) 2), (29, m_cob 142 1 6), (32, m_if (fun x => !(x == 0)) 5), (35, m_aload 0 1), (36, m_get 6 8), (39, m_iret), (40, m_aload 0 1), (41, m_get 6 8), (44, m_iret)]
def tX6_fault : m_Tab := [(0, m_aload 0 1), (1, m_cob 146 0 6), (4, m_iret)]
def tX6_doesChange : m_Tab := [(0, m_aload 0 1), (1, m_get 6 9), (4, m_const (.int (nI 108)) 2), (6, m_icmp (fun x y => !(x == y)) 21), (9, m_aload 0 1), (10, m_get 6 10), (13, m_cst 99 1), (16, m_if (fun x => !(x == 0)) 21), (19, m_const (.int (nI 0)) 1), (20, m_zret (fun x => x &&& 1)), (21, m_aload 0 1), (22, m_get 6 9), (25, m_const (.int (nI 115)) 2), (27, m_icmp (fun x y => !(x == y)) 45), (30, m_aload 0 1), (31, m_aload 0 1), (32, m_get 6 10), (35, m_aload 0 1), (36, m_get 6 11), (39, m_cob 108 2 6), (42, m_goto 99), (45, m_aload 0 1), (46, m_get 6 9), (49, m_const (.int (nI 108)) 2), (51, m_icmp (fun x y => !(x == y)) 73), (54, m_aload 0 1), (55, m_get 6 0), (58, m_const (.int (nI 35)) 2), (60, m_aload 0 1), (61, m_get 6 10), (64, m_bin (fun a b => a + b)), (65, m_aload 0 1), (66, m_get 6 11), (69, m_ist 0 (fun x => x)), (70, m_goto 99), (73, m_aload 0 1), (74, m_aload 0 1), (75, m_get 6 10), (78, m_aload 0 1), (79, m_get 6 11), (82, m_aload 0 1), (83, m_get 6 9), (86, m_const (.int (nI 109)) 2), (88, m_icmp (fun x y => !(x == y)) 95), (91, m_const (.int (nI 1)) 1), (92, m_goto 96), (95, m_const (.int (nI 0)) 1), (96, m_cob 109 3 6), (99, m_const (.int (nI 1)) 1), (100, m_zret (fun x => x &&& 1))]
def tX6_changeAll : m_Tab := [(0, m_aload 0 1), (1, m_cob 146 0 6), (4, m_istore 1 1), (5, m_iload 1 1), (6, m_const (.int (-5)) 2), (8, m_icmp (fun x y => x == y) 16), (11, m_const (.int (-100)) 2), (13, m_iload 1 1), (14, m_bin (fun a b => a - b)), (15, m_iret), (16, m_aload 0 1), (17, m_cob 101 0 6), (20, m_aload 0 1), (21, m_const (.int (nI 0)) 1), (22, m_put 6 8 0), (25, m_const (.int (nI 0)) 1), (26, m_istore 2 1), (27, m_aload 0 1), (28, m_get 6 8), (31, m_aload 0 1), (32, m_get 6 7), (35, m_icmp (fun x y => decide (y ≤ x)) 75), (38, m_aload 0 1), (39, m_cob 145 0 6), (42, m_if (fun x => x == 0) 52), (45, m_aload 0 1), (46, m_cob 148 0 6), (49, m_if (fun x => !(x == 0)) 59), (52, m_aload 0 1), (53, m_cob 102 0 6), (56, m_const (.int (-4)) 2), (58, m_iret), (59, m_iinc 2 (nI 1)), (62, m_aload 0 1), (63, m_dup), (64, m_get 6 8), (67, m_const (.int (nI 1)) 1), (68, m_bin (fun a b => a + b)), (69, m_put 6 8 0), (72, m_goto 27), (75, m_aload 0 1), (76, m_cob 103 0 6), (79, m_iload 2 1), (80, m_iret)]
def tX6_block : m_Tab := [(0, m_iload 1 1), (1, m_cst 97 1), (4, m_if (fun x => !(x == 0)) 9), (7, m_const (.int (-1)) 1), (8, m_iret), (9, m_iload 2 1), (10, m_if (fun x => !(x == 0)) 25), (13, m_aload 0 1), (14, m_get 6 0), (17, m_const (.int (nI 11)) 2), (19, m_iload 1 1), (20, m_bin (fun a b => a + b)), (21, m_ild 0), (22, m_goto 44), (25, m_iload 2 1), (26, m_const (.int (nI 1)) 1), (27, m_icmp (fun x y => !(x == y)) 42), (30, m_aload 0 1), (31, m_get 6 0), (34, m_const (.int (nI 59)) 2), (36, m_iload 1 1), (37, m_bin (fun a b => a + b)), (38, m_ild 0), (39, m_goto 44), (42, m_const (.int (-2)) 2), (44, m_iret)]
def tX6_cellOf : m_Tab := [(0, m_const (.int (nI 0)) 1), (1, m_istore 2 1), (2, m_aload 0 1), (3, m_get 6 0), (6, m_const (.int (nI 11)) 2), (8, m_iload 2 1), (9, m_bin (fun a b => a + b)), (10, m_ild 0), (11, m_iload 1 1), (12, m_icmp (fun x y => x == y) 21), (15, m_iinc 2 (nI 1)), (18, m_goto 2), (21, m_iload 2 1), (22, m_iret)]
def tX6_placeOf : m_Tab := [(0, m_const (.int (nI 0)) 1), (1, m_istore 2 1), (2, m_iload 2 1), (3, m_aload 0 1), (4, m_get 6 0), (7, m_const (.int (nI 7)) 2), (9, m_ild 0), (10, m_icmp (fun x y => decide (y ≤ x)) 34), (13, m_aload 0 1), (14, m_get 6 0), (17, m_const (.int (nI 83)) 2), (19, m_iload 2 1), (20, m_bin (fun a b => a + b)), (21, m_ild 0), (22, m_iload 1 1), (23, m_icmp (fun x y => !(x == y)) 28), (26, m_iload 2 1), (27, m_iret), (28, m_iinc 2 (nI 1)), (31, m_goto 2), (34, m_const (.int (-5)) 2), (36, m_iret)]
def tX6_cardOf : m_Tab := [(0, m_iload 1 1), (1, m_cst 97 1), (4, m_if (fun x => !(x == 0)) 9), (7, m_const (.int (-1)) 1), (8, m_iret), (9, m_iload 2 1), (10, m_tsw 0 3 92 [40, 46, 59, 65]), (40, m_aload 0 1), (41, m_iload 1 1), (42, m_cob 151 1 6), (45, m_iret), (46, m_aload 0 1), (47, m_get 6 0), (50, m_const (.int (nI 35)) 2), (52, m_iload 1 1), (53, m_bin (fun a b => a + b)), (54, m_ild 0), (55, m_const (.int (nI 100)) 2), (57, m_bin (fun a b => a + b)), (58, m_iret), (59, m_aload 0 1), (60, m_iload 1 1), (61, m_cob 152 1 6), (64, m_iret), (65, m_aload 0 1), (66, m_get 6 0), (69, m_const (.int (nI 6)) 2), (71, m_ild 0), (72, m_const (.int (nI 1)) 1), (73, m_icmp (fun x y => !(x == y)) 89), (76, m_aload 0 1), (77, m_get 6 0), (80, m_const (.int (nI 131)) 3), (83, m_iload 1 1), (84, m_bin (fun a b => a + b)), (85, m_ild 0), (86, m_goto 91), (89, m_const (.int (-5)) 2), (91, m_iret), (92, m_const (.int (-2)) 2), (94, m_iret)]
def tX6_sheet : m_Tab := [(0, m_iload 1 1), (1, m_const (.int (nI 0)) 1), (2, m_aload 0 1), (3, m_get 6 0), (6, m_const (.int (nI 5)) 1), (7, m_ild 0), (8, m_const (.int (nI 1)) 1), (9, m_bin (fun a b => a - b)), (10, m_cst 96 3), (13, m_if (fun x => x == 0) 23), (16, m_iload 2 1), (17, m_cst 97 1), (20, m_if (fun x => !(x == 0)) 25), (23, m_const (.int (-1)) 1), (24, m_iret), (25, m_iload 3 1), (26, m_const (.int (nI 0)) 1), (27, m_const (.int (nI 1)) 1), (28, m_cst 96 3), (31, m_if (fun x => !(x == 0)) 37), (34, m_const (.int (-2)) 2), (36, m_iret), (37, m_aload 0 1), (38, m_get 6 0), (41, m_aload 0 1), (42, m_get 6 0), (45, m_const (.int (nI 5)) 1), (46, m_ild 0), (47, m_const (.int (nI 1)) 1), (48, m_bin (fun a b => a - b)), (49, m_iload 1 1), (50, m_bin (fun a b => a - b)), (51, m_cst 117 1), (54, m_const (.int (nI 48)) 2), (56, m_iload 3 1), (57, m_bin (fun a b => a * b)), (58, m_bin (fun a b => a + b)), (59, m_iload 2 1), (60, m_bin (fun a b => a + b)), (61, m_ild 0), (62, m_iret)]
def tX6_pack : m_Tab := [(0, m_iload 1 1), (1, m_const (.int (nI 0)) 1), (2, m_aload 0 1), (3, m_get 6 0), (6, m_const (.int (nI 7)) 2), (8, m_ild 0), (9, m_const (.int (nI 1)) 1), (10, m_bin (fun a b => a - b)), (11, m_cst 96 3), (14, m_if (fun x => !(x == 0)) 19), (17, m_const (.int (-1)) 1), (18, m_iret), (19, m_iload 2 1), (20, m_tsw 0 4 107 [56, 66, 72, 82, 88]), (56, m_aload 0 1), (57, m_get 6 0), (60, m_const (.int (nI 83)) 2), (62, m_iload 1 1), (63, m_bin (fun a b => a + b)), (64, m_ild 0), (65, m_iret), (66, m_aload 0 1), (67, m_iload 1 1), (68, m_cob 129 1 6), (71, m_iret), (72, m_aload 0 1), (73, m_aload 0 1), (74, m_iload 1 1), (75, m_cob 129 1 6), (78, m_cob 128 1 6), (81, m_iret), (82, m_aload 0 1), (83, m_iload 1 1), (84, m_cob 130 1 6), (87, m_iret), (88, m_aload 0 1), (89, m_aload 0 1), (90, m_iload 1 1), (91, m_cob 129 1 6), (94, m_cob 128 1 6), (97, m_const (.int (nI 1)) 1), (98, m_icmp (fun x y => !(x == y)) 105), (101, m_const (.int (nI 1)) 1), (102, m_goto 106), (105, m_const (.int (nI 0)) 1), (106, m_iret), (107, m_const (.int (-2)) 2), (109, m_iret)]
def tX6_marksOfBacks : m_Tab := [(0, m_const (.int (nI 0)) 1), (1, m_istore 1 1), (2, m_const (.int (nI 0)) 1), (3, m_istore 2 1), (4, m_iload 2 1), (5, m_const (.int (nI 24)) 2), (7, m_icmp (fun x y => decide (y ≤ x)) 31), (10, m_iload 1 1), (11, m_aload 0 1), (12, m_get 6 0), (15, m_const (.int (nI 59)) 2), (17, m_iload 2 1), (18, m_bin (fun a b => a + b)), (19, m_ild 0), (20, m_cst 100 1), (23, m_bin (fun a b => a + b)), (24, m_istore 1 1), (25, m_iinc 2 (nI 1)), (28, m_goto 4), (31, m_iload 1 1), (32, m_iret)]
def tX6_count_0 : m_Tab := [(0, m_iload 1 1), (1, m_tsw 0 17 201 [88, 95, 102, 110, 118, 144, 149, 154, 154, 154, 167, 172, 179, 184, 189, 189, 189, 189]), (88, m_aload 0 1), (89, m_get 6 0), (92, m_const (.int (nI 5)) 1), (93, m_ild 0), (94, m_iret), (95, m_aload 0 1), (96, m_get 6 0), (99, m_const (.int (nI 4)) 1), (100, m_ild 0), (101, m_iret), (102, m_aload 0 1), (103, m_get 6 0), (106, m_const (.int (nI 6)) 2), (108, m_ild 0), (109, m_iret), (110, m_aload 0 1), (111, m_get 6 0), (114, m_const (.int (nI 7)) 2), (116, m_ild 0), (117, m_iret), (118, m_aload 0 1), (119, m_get 6 0), (122, m_const (.int (nI 6)) 2), (124, m_ild 0), (125, m_const (.int (nI 1)) 1), (126, m_icmp (fun x y => !(x == y)) 142), (129, m_const (.int (nI 24)) 2), (131, m_aload 0 1), (132, m_get 6 0), (135, m_const (.int (nI 7)) 2), (137, m_ild 0), (138, m_bin (fun a b => a - b)), (139, m_goto 143), (142, m_const (.int (nI 0)) 1), (143, m_iret), (144, m_aload 0 1), (145, m_cob 131 0 6), (148, m_iret), (149, m_aload 0 1), (150, m_cob 132 0 6), (153, m_iret), (154, m_aload 0 1), (155, m_get 6 0), (158, m_const (.int (nI 8)) 2), (160, m_iload 1 1), (161, m_bin (fun a b => a + b)), (162, m_const (.int (nI 7)) 2), (164, m_bin (fun a b => a - b)), (165, m_ild 0), (166, m_iret), (167, m_aload 0 1), (168, m_cob 156 0 6), (171, m_iret), (172, m_aload 0 1), (173, m_const (.int (nI 35)) 2), (175, m_cob 134 1 6), (178, m_iret), (179, m_aload 0 1)]
def tX6_count_1 : m_Tab := [(180, m_get 6 3), (183, m_iret), (184, m_aload 0 1), (185, m_get 6 7), (188, m_iret), (189, m_aload 0 1), (190, m_get 6 0), (193, m_const (.int (nI 0)) 1), (194, m_iload 1 1), (195, m_bin (fun a b => a + b)), (196, m_const (.int (nI 14)) 2), (198, m_bin (fun a b => a - b)), (199, m_ild 0), (200, m_iret), (201, m_const (.int (-2)) 2), (203, m_iret)]
def tX6_count : m_Tab := tX6_count_0 ++ (tX6_count_1)
def tX6_why : m_Tab := [(0, m_aload 0 1), (1, m_get 6 0), (4, m_const (.int (nI 6)) 2), (6, m_ild 0), (7, m_const (.int (nI 1)) 1), (8, m_icmp (fun x y => !(x == y)) 18), (11, m_aload 0 1), (12, m_cob 135 0 6), (15, m_goto 20), (18, m_const (.int (-4)) 2), (20, m_iret)]
def tX6_chances : m_Tab := [(0, m_aload 0 1), (1, m_get 6 0), (4, m_const (.int (nI 6)) 2), (6, m_ild 0), (7, m_if (fun x => !(x == 0)) 13), (10, m_const (.float 3212836864) 2), (12, m_fret), (13, m_const (.float FP.fconst0) 1), (14, m_fstore 1 1), (15, m_const (.int (nI 0)) 1), (16, m_istore 2 1), (17, m_iload 2 1), (18, m_aload 0 1), (19, m_get 6 0), (22, m_const (.int (nI 7)) 2), (24, m_ild 0), (25, m_icmp (fun x y => decide (y ≤ x)) 49), (28, m_fload 1 1), (29, m_const (.float FP.fconst1) 1), (30, m_aload 0 1), (31, m_aload 0 1), (32, m_iload 2 1), (33, m_cob 129 1 6), (36, m_cob 128 1 6), (39, m_i2f), (40, m_fbin FP.fdiv), (41, m_fbin FP.fadd), (42, m_fstore 1 1), (43, m_iinc 2 (nI 1)), (46, m_goto 17), (49, m_fload 1 1), (50, m_fret)]
def tX6_single : m_Tab := [(0, m_const (.int (nI 0)) 1), (1, m_istore 1 1), (2, m_const (.int (nI 0)) 1), (3, m_istore 2 1), (4, m_iload 2 1), (5, m_const (.int (nI 24)) 2), (7, m_icmp (fun x y => decide (y ≤ x)) 71), (10, m_const (.int (nI 0)) 1), (11, m_istore 3 1), (12, m_const (.int (nI 0)) 1), (13, m_istore 4 2), (15, m_iload 4 2), (17, m_const (.int (nI 24)) 2), (19, m_icmp (fun x y => decide (y ≤ x)) 52), (22, m_iload 3 1), (23, m_aload 0 1), (24, m_get 6 13), (27, m_iload 2 1), (28, m_ild 0), (29, m_aload 0 1), (30, m_get 6 13), (33, m_iload 4 2), (35, m_ild 0), (36, m_icmp (fun x y => !(x == y)) 43), (39, m_const (.int (nI 1)) 1), (40, m_goto 44), (43, m_const (.int (nI 0)) 1), (44, m_bin (fun a b => a + b)), (45, m_istore 3 1), (46, m_iinc 4 (nI 1)), (49, m_goto 15), (52, m_iload 1 1), (53, m_iload 3 1), (54, m_const (.int (nI 1)) 1), (55, m_icmp (fun x y => !(x == y)) 62), (58, m_const (.int (nI 1)) 1), (59, m_goto 63), (62, m_const (.int (nI 0)) 1), (63, m_bin (fun a b => a + b)), (64, m_istore 1 1), (65, m_iinc 2 (nI 1)), (68, m_goto 4), (71, m_iload 1 1), (72, m_iret)]
def tX6_see : m_Tab := [(0, m_const (.int (nI 0)) 1), (1, m_istore 2 1), (2, m_iload 2 1), (3, m_const (.int (nI 24)) 2), (5, m_icmp (fun x y => decide (y ≤ x)) 26), (8, m_aload 0 1), (9, m_get 6 13), (12, m_iload 2 1), (13, m_aload 0 1), (14, m_iload 2 1), (15, m_iload 1 1), (16, m_cob 116 2 6), (19, m_ist 0 (fun x => x)), (20, m_iinc 2 (nI 1)), (23, m_goto 2), (26, m_vret)]
def tX6_ifPrinted : m_Tab := [(0, m_aload 0 1), (1, m_iload 1 1), (2, m_cob 161 1 6), (5, m_aload 0 1), (6, m_cob 160 0 6), (9, m_iret)]
def tX6_worstFlaw : m_Tab := [(0, m_iload 1 1), (1, m_const (.int (nI 0)) 1), (2, m_const (.int (nI 1)) 1), (3, m_cst 96 3), (6, m_if (fun x => !(x == 0)) 12), (9, m_const (.int (-2)) 2), (11, m_iret), (12, m_const (.int (-5)) 2), (14, m_istore 2 1), (15, m_const (.int (nI 0)) 1), (16, m_istore 3 1), (17, m_const (.int (nI 0)) 1), (18, m_istore 4 2), (20, m_iload 4 2), (22, m_const (.int (nI 24)) 2), (24, m_icmp (fun x y => decide (y ≤ x)) 93), (27, m_aload 0 1), (28, m_const (.int (nI 0)) 1), (29, m_cob 161 1 6), (32, m_aload 0 1), (33, m_get 6 13), (36, m_iload 4 2), (38, m_const (.int (nI 0)) 1), (39, m_ist 0 (fun x => x)), (40, m_iload 2 1), (41, m_const (.int (-5)) 2), (43, m_icmp (fun x y => x == y) 54), (46, m_aload 0 1), (47, m_cob 160 0 6), (50, m_iload 3 1), (51, m_icmp (fun x y => decide (y ≤ x)) 58), (54, m_const (.int (nI 1)) 1), (55, m_goto 59), (58, m_const (.int (nI 0)) 1), (59, m_istore 5 2), (61, m_iload 5 2), (63, m_if (fun x => x == 0) 71), (66, m_iload 4 2), (68, m_goto 72), (71, m_iload 2 1), (72, m_istore 2 1), (73, m_iload 5 2), (75, m_if (fun x => x == 0) 85), (78, m_aload 0 1), (79, m_cob 160 0 6), (82, m_goto 86), (85, m_iload 3 1), (86, m_istore 3 1), (87, m_iinc 4 (nI 1)), (90, m_goto 20), (93, m_iload 1 1), (94, m_if (fun x => !(x == 0)) 101), (97, m_iload 2 1), (98, m_goto 102), (101, m_iload 3 1), (102, m_iret)]
def tX6_atHome : m_Tab := [(0, m_const (.int (nI 0)) 1), (1, m_istore 2 1), (2, m_const (.int (nI 0)) 1), (3, m_istore 3 1), (4, m_iload 3 1), (5, m_const (.int (nI 24)) 2), (7, m_icmp (fun x y => decide (y ≤ x)) 43), (10, m_iload 2 1), (11, m_aload 0 1), (12, m_get 6 0), (15, m_aload 0 1), (16, m_cob 118 0 6), (19, m_iload 3 1), (20, m_iload 1 1), (21, m_cst 120 2), (24, m_bin (fun a b => a + b)), (25, m_ild 0), (26, m_iload 3 1), (27, m_icmp (fun x y => !(x == y)) 34), (30, m_const (.int (nI 1)) 1), (31, m_goto 35), (34, m_const (.int (nI 0)) 1), (35, m_bin (fun a b => a + b)), (36, m_istore 2 1), (37, m_iinc 3 (nI 1)), (40, m_goto 4), (43, m_iload 2 1), (44, m_iret)]
def tX6_bestWay : m_Tab := [(0, m_aload 0 1), (1, m_get 6 0), (4, m_const (.int (nI 5)) 1), (5, m_ild 0), (6, m_if (fun x => !(x == 0)) 12), (9, m_const (.int (-4)) 2), (11, m_iret), (12, m_const (.int (nI 0)) 1), (13, m_istore 1 1), (14, m_const (.int (nI 1)) 1), (15, m_istore 2 1), (16, m_iload 2 1), (17, m_const (.int (nI 4)) 1), (18, m_icmp (fun x y => decide (y ≤ x)) 46), (21, m_aload 0 1), (22, m_iload 2 1), (23, m_cob 164 1 6), (26, m_aload 0 1), (27, m_iload 1 1), (28, m_cob 164 1 6), (31, m_icmp (fun x y => decide (y ≤ x)) 38), (34, m_iload 2 1), (35, m_goto 39), (38, m_iload 1 1), (39, m_istore 1 1), (40, m_iinc 2 (nI 1)), (43, m_goto 16), (46, m_iload 1 1), (47, m_iret)]
def tX6_comesBack : m_Tab := [(0, m_const (.int (nI 0)) 1), (1, m_istore 2 1), (2, m_iload 2 1), (3, m_aload 0 1), (4, m_get 6 0), (7, m_const (.int (nI 7)) 2), (9, m_ild 0), (10, m_icmp (fun x y => decide (y ≤ x)) 36), (13, m_aload 0 1), (14, m_get 6 13), (17, m_iload 2 1), (18, m_aload 0 1), (19, m_get 6 12), (22, m_aload 0 1), (23, m_iload 2 1), (24, m_iload 1 1), (25, m_cob 125 2 6), (28, m_ild 0), (29, m_ist 0 (fun x => x)), (30, m_iinc 2 (nI 1)), (33, m_goto 2), (36, m_const (.int (nI 1)) 1), (37, m_istore 2 1), (38, m_const (.int (nI 0)) 1), (39, m_istore 3 1), (40, m_iload 3 1), (41, m_aload 0 1), (42, m_get 6 0), (45, m_const (.int (nI 7)) 2), (47, m_ild 0), (48, m_icmp (fun x y => decide (y ≤ x)) 89), (51, m_aload 0 1), (52, m_get 6 12), (55, m_iload 3 1), (56, m_aload 0 1), (57, m_get 6 13), (60, m_iload 3 1), (61, m_ild 0), (62, m_ist 0 (fun x => x)), (63, m_iload 2 1), (64, m_if (fun x => x == 0) 81), (67, m_aload 0 1), (68, m_get 6 12), (71, m_iload 3 1), (72, m_ild 0), (73, m_iload 3 1), (74, m_icmp (fun x y => !(x == y)) 81), (77, m_const (.int (nI 1)) 1), (78, m_goto 82), (81, m_const (.int (nI 0)) 1), (82, m_istore 2 1), (83, m_iinc 3 (nI 1)), (86, m_goto 40), (89, m_iload 2 1), (90, m_zret (fun x => x &&& 1))]
def tX6_backIn : m_Tab := [(0, m_aload 0 1), (1, m_get 6 0), (4, m_const (.int (nI 6)) 2), (6, m_ild 0), (7, m_if (fun x => !(x == 0)) 13), (10, m_const (.int (-4)) 2), (12, m_iret), (13, m_aload 0 1), (14, m_iload 1 1), (15, m_cob 122 1 6), (18, m_if (fun x => !(x == 0)) 24), (21, m_const (.int (-2)) 2), (23, m_iret), (24, m_const (.int (nI 0)) 1), (25, m_istore 2 1), (26, m_iload 2 1), (27, m_aload 0 1), (28, m_get 6 0), (31, m_const (.int (nI 7)) 2), (33, m_ild 0), (34, m_icmp (fun x y => decide (y ≤ x)) 50), (37, m_aload 0 1), (38, m_get 6 12), (41, m_iload 2 1), (42, m_iload 2 1), (43, m_ist 0 (fun x => x)), (44, m_iinc 2 (nI 1)), (47, m_goto 26), (50, m_const (.int (nI 1)) 1), (51, m_istore 2 1), (52, m_iload 2 1), (53, m_const (.int (nI 500)) 3), (56, m_icmp (fun x y => decide (y < x)) 73), (59, m_aload 0 1), (60, m_iload 1 1), (61, m_cob 166 1 6), (64, m_if (fun x => !(x == 0)) 73), (67, m_iinc 2 (nI 1)), (70, m_goto 52), (73, m_iload 2 1), (74, m_const (.int (nI 500)) 3), (77, m_icmp (fun x y => decide (x ≤ y)) 85), (80, m_const (.int (-5)) 2), (82, m_goto 86), (85, m_iload 2 1), (86, m_iret)]
def tJ6_bitCount_0f7a4 : m_Tab := [(0, m_iload 0 1), (1, m_iload 0 1), (2, m_const (.int (nI 1)) 1), (3, m_bin (fun a b => (a.toUInt32 >>> (b.toUInt32 &&& Int32.toUInt32 31)).toInt32)), (4, m_const (.int 1431655765) 3), (7, m_bin (fun a b => a &&& b)), (8, m_bin (fun a b => a - b)), (9, m_istore 0 1), (10, m_iload 0 1), (11, m_const (.int 858993459) 3), (14, m_bin (fun a b => a &&& b)), (15, m_iload 0 1), (16, m_const (.int (nI 2)) 1), (17, m_bin (fun a b => (a.toUInt32 >>> (b.toUInt32 &&& Int32.toUInt32 31)).toInt32)), (18, m_const (.int 858993459) 3), (21, m_bin (fun a b => a &&& b)), (22, m_bin (fun a b => a + b)), (23, m_istore 0 1), (24, m_iload 0 1), (25, m_iload 0 1), (26, m_const (.int (nI 4)) 1), (27, m_bin (fun a b => (a.toUInt32 >>> (b.toUInt32 &&& Int32.toUInt32 31)).toInt32)), (28, m_bin (fun a b => a + b)), (29, m_const (.int 252645135) 3), (32, m_bin (fun a b => a &&& b)), (33, m_istore 0 1), (34, m_iload 0 1), (35, m_iload 0 1), (36, m_const (.int (nI 8)) 2), (38, m_bin (fun a b => (a.toUInt32 >>> (b.toUInt32 &&& Int32.toUInt32 31)).toInt32)), (39, m_bin (fun a b => a + b)), (40, m_istore 0 1), (41, m_iload 0 1), (42, m_iload 0 1), (43, m_const (.int (nI 16)) 2), (45, m_bin (fun a b => (a.toUInt32 >>> (b.toUInt32 &&& Int32.toUInt32 31)).toInt32)), (46, m_bin (fun a b => a + b)), (47, m_istore 0 1), (48, m_iload 0 1), (49, m_const (.int (nI 63)) 2), (51, m_bin (fun a b => a &&& b)), (52, m_iret)]
def tL_law_0 : m_Tab := [(0, m_new 5 [.null, .null, .null, .null, .null, .int 0]), (3, m_dup), (4, m_cob 50 0 5), (7, m_astore 1 1), (8, m_new 6 [.null, .null, .null, .int 0, .null, .int 0, .null, .int 0, .int 0, .int 0, .int 0, .int 0, .null, .null]), (11, m_dup), (12, m_cob 95 0 6), (15, m_astore 2 1), (16, m_const (.int (nI 0)) 1), (17, m_istore 3 1), (18, m_iload 3 1), (19, m_aload 0 1), (20, m_len), (21, m_const (.int (nI 4)) 1), (22, m_bin (fun a b => a - b)), (23, m_icmp (fun x y => decide (y < x)) 907), (26, m_aload 0 1), (27, m_iload 3 1), (28, m_ild 0), (29, m_const (.int (nI 31)) 2), (31, m_bin (fun a b => a &&& b)), (32, m_tsw 0 28 901 [164, 197, 256, 289, 302, 335, 374, 397, 420, 443, 466, 479, 492, 517, 530, 543, 556, 569, 582, 615, 648, 691, 724, 747, 760, 803, 842, 865, 878]), (164, m_aload 1 1), (165, m_aload 0 1), (166, m_iload 3 1), (167, m_const (.int (nI 1)) 1), (168, m_bin (fun a b => a + b)), (169, m_ild 0), (170, m_aload 0 1), (171, m_iload 3 1), (172, m_const (.int (nI 2)) 1), (173, m_bin (fun a b => a + b)), (174, m_ild 0), (175, m_cob 51 2 5), (178, m_aload 2 1), (179, m_aload 0 1), (180, m_iload 3 1), (181, m_const (.int (nI 1)) 1), (182, m_bin (fun a b => a + b)), (183, m_ild 0), (184, m_aload 0 1), (185, m_iload 3 1), (186, m_const (.int (nI 2)) 1), (187, m_bin (fun a b => a + b)), (188, m_ild 0), (189, m_cob 110 2 6), (192, m_icmp (fun x y => x == y) 901), (195, m_const (.int (nI 0)) 1), (196, m_zret (fun x => x &&& 1)), (197, m_aload 1 1), (198, m_aload 0 1), (199, m_iload 3 1), (200, m_const (.int (nI 1)) 1), (201, m_bin (fun a b => a + b)), (202, m_ild 0), (203, m_aload 0 1), (204, m_iload 3 1), (205, m_const (.int (nI 2)) 1), (206, m_bin (fun a b => a + b)), (207, m_ild 0)]
def tL_law_1 : m_Tab := [(208, m_aload 0 1), (209, m_iload 3 1), (210, m_const (.int (nI 3)) 1), (211, m_bin (fun a b => a + b)), (212, m_ild 0), (213, m_if (fun x => x == 0) 220), (216, m_const (.int (nI 1)) 1), (217, m_goto 221), (220, m_const (.int (nI 0)) 1), (221, m_cob 52 3 5), (224, m_aload 2 1), (225, m_aload 0 1), (226, m_iload 3 1), (227, m_const (.int (nI 1)) 1), (228, m_bin (fun a b => a + b)), (229, m_ild 0), (230, m_aload 0 1), (231, m_iload 3 1), (232, m_const (.int (nI 2)) 1), (233, m_bin (fun a b => a + b)), (234, m_ild 0), (235, m_aload 0 1), (236, m_iload 3 1), (237, m_const (.int (nI 3)) 1), (238, m_bin (fun a b => a + b)), (239, m_ild 0), (240, m_if (fun x => x == 0) 247), (243, m_const (.int (nI 1)) 1), (244, m_goto 248), (247, m_const (.int (nI 0)) 1), (248, m_cob 111 3 6), (251, m_icmp (fun x y => x == y) 901), (254, m_const (.int (nI 0)) 1), (255, m_zret (fun x => x &&& 1)), (256, m_aload 1 1), (257, m_aload 0 1), (258, m_iload 3 1), (259, m_const (.int (nI 1)) 1), (260, m_bin (fun a b => a + b)), (261, m_ild 0), (262, m_aload 0 1), (263, m_iload 3 1), (264, m_const (.int (nI 2)) 1), (265, m_bin (fun a b => a + b)), (266, m_ild 0), (267, m_cob 53 2 5), (270, m_aload 2 1), (271, m_aload 0 1), (272, m_iload 3 1), (273, m_const (.int (nI 1)) 1), (274, m_bin (fun a b => a + b)), (275, m_ild 0), (276, m_aload 0 1), (277, m_iload 3 1), (278, m_const (.int (nI 2)) 1), (279, m_bin (fun a b => a + b)), (280, m_ild 0), (281, m_cob 112 2 6), (284, m_icmp (fun x y => x == y) 901), (287, m_const (.int (nI 0)) 1)]
def tL_law_2 : m_Tab := [(288, m_zret (fun x => x &&& 1)), (289, m_aload 1 1), (290, m_cob 54 0 5), (293, m_aload 2 1), (294, m_cob 149 0 6), (297, m_icmp (fun x y => x == y) 901), (300, m_const (.int (nI 0)) 1), (301, m_zret (fun x => x &&& 1)), (302, m_aload 1 1), (303, m_aload 0 1), (304, m_iload 3 1), (305, m_const (.int (nI 1)) 1), (306, m_bin (fun a b => a + b)), (307, m_ild 0), (308, m_aload 0 1), (309, m_iload 3 1), (310, m_const (.int (nI 2)) 1), (311, m_bin (fun a b => a + b)), (312, m_ild 0), (313, m_cob 55 2 5), (316, m_aload 2 1), (317, m_aload 0 1), (318, m_iload 3 1), (319, m_const (.int (nI 1)) 1), (320, m_bin (fun a b => a + b)), (321, m_ild 0), (322, m_aload 0 1), (323, m_iload 3 1), (324, m_const (.int (nI 2)) 1), (325, m_bin (fun a b => a + b)), (326, m_ild 0), (327, m_cob 115 2 6), (330, m_icmp (fun x y => x == y) 901), (333, m_const (.int (nI 0)) 1), (334, m_zret (fun x => x &&& 1)), (335, m_aload 1 1), (336, m_aload 0 1), (337, m_iload 3 1), (338, m_const (.int (nI 1)) 1), (339, m_bin (fun a b => a + b)), (340, m_ild 0), (341, m_if (fun x => x == 0) 348), (344, m_const (.int (nI 1)) 1), (345, m_goto 349), (348, m_const (.int (nI 0)) 1), (349, m_cob 56 1 5), (352, m_aload 2 1), (353, m_aload 0 1), (354, m_iload 3 1), (355, m_const (.int (nI 1)) 1), (356, m_bin (fun a b => a + b)), (357, m_ild 0), (358, m_if (fun x => x == 0) 365), (361, m_const (.int (nI 1)) 1), (362, m_goto 366), (365, m_const (.int (nI 0)) 1), (366, m_cob 119 1 6), (369, m_icmp (fun x y => x == y) 901), (372, m_const (.int (nI 0)) 1), (373, m_zret (fun x => x &&& 1))]
def tL_law_3 : m_Tab := [(374, m_aload 1 1), (375, m_aload 0 1), (376, m_iload 3 1), (377, m_const (.int (nI 1)) 1), (378, m_bin (fun a b => a + b)), (379, m_ild 0), (380, m_cob 57 1 5), (383, m_aload 2 1), (384, m_aload 0 1), (385, m_iload 3 1), (386, m_const (.int (nI 1)) 1), (387, m_bin (fun a b => a + b)), (388, m_ild 0), (389, m_cob 121 1 6), (392, m_icmp (fun x y => x == y) 901), (395, m_const (.int (nI 0)) 1), (396, m_zret (fun x => x &&& 1)), (397, m_aload 1 1), (398, m_aload 0 1), (399, m_iload 3 1), (400, m_const (.int (nI 1)) 1), (401, m_bin (fun a b => a + b)), (402, m_ild 0), (403, m_cob 58 1 5), (406, m_aload 2 1), (407, m_aload 0 1), (408, m_iload 3 1), (409, m_const (.int (nI 1)) 1), (410, m_bin (fun a b => a + b)), (411, m_ild 0), (412, m_cob 124 1 6), (415, m_icmp (fun x y => x == y) 901), (418, m_const (.int (nI 0)) 1), (419, m_zret (fun x => x &&& 1)), (420, m_aload 1 1), (421, m_aload 0 1), (422, m_iload 3 1), (423, m_const (.int (nI 1)) 1), (424, m_bin (fun a b => a + b)), (425, m_ild 0), (426, m_cob 59 1 5), (429, m_aload 2 1), (430, m_aload 0 1), (431, m_iload 3 1), (432, m_const (.int (nI 1)) 1), (433, m_bin (fun a b => a + b)), (434, m_ild 0), (435, m_cob 126 1 6), (438, m_icmp (fun x y => x == y) 901), (441, m_const (.int (nI 0)) 1), (442, m_zret (fun x => x &&& 1)), (443, m_aload 1 1), (444, m_aload 0 1), (445, m_iload 3 1), (446, m_const (.int (nI 1)) 1), (447, m_bin (fun a b => a + b)), (448, m_ild 0), (449, m_cob 60 1 5), (452, m_aload 2 1), (453, m_aload 0 1)]
def tL_law_4 : m_Tab := [(454, m_iload 3 1), (455, m_const (.int (nI 1)) 1), (456, m_bin (fun a b => a + b)), (457, m_ild 0), (458, m_cob 127 1 6), (461, m_icmp (fun x y => x == y) 901), (464, m_const (.int (nI 0)) 1), (465, m_zret (fun x => x &&& 1)), (466, m_aload 1 1), (467, m_cob 61 0 5), (470, m_aload 2 1), (471, m_cob 137 0 6), (474, m_icmp (fun x y => x == y) 901), (477, m_const (.int (nI 0)) 1), (478, m_zret (fun x => x &&& 1)), (479, m_aload 1 1), (480, m_cob 62 0 5), (483, m_aload 2 1), (484, m_cob 138 0 6), (487, m_icmp (fun x y => x == y) 901), (490, m_const (.int (nI 0)) 1), (491, m_zret (fun x => x &&& 1)), (492, m_aload 1 1), (493, m_aload 0 1), (494, m_iload 3 1), (495, m_const (.int (nI 1)) 1), (496, m_bin (fun a b => a + b)), (497, m_ild 0), (498, m_un (fun a => (a.toUInt32 % 65536).toInt32)), (499, m_cob 63 1 5), (502, m_aload 2 1), (503, m_aload 0 1), (504, m_iload 3 1), (505, m_const (.int (nI 1)) 1), (506, m_bin (fun a b => a + b)), (507, m_ild 0), (508, m_un (fun a => (a.toUInt32 % 65536).toInt32)), (509, m_cob 139 1 6), (512, m_icmp (fun x y => x == y) 901), (515, m_const (.int (nI 0)) 1), (516, m_zret (fun x => x &&& 1)), (517, m_aload 1 1), (518, m_cob 64 0 5), (521, m_aload 2 1), (522, m_cob 140 0 6), (525, m_icmp (fun x y => x == y) 901), (528, m_const (.int (nI 0)) 1), (529, m_zret (fun x => x &&& 1)), (530, m_aload 1 1), (531, m_cob 65 0 5), (534, m_aload 2 1), (535, m_cob 147 0 6), (538, m_icmp (fun x y => x == y) 901), (541, m_const (.int (nI 0)) 1), (542, m_zret (fun x => x &&& 1)), (543, m_aload 1 1), (544, m_cob 66 0 5), (547, m_aload 2 1), (548, m_cob 105 0 6), (551, m_icmp (fun x y => x == y) 901)]
def tL_law_5 : m_Tab := [(554, m_const (.int (nI 0)) 1), (555, m_zret (fun x => x &&& 1)), (556, m_aload 1 1), (557, m_cob 67 0 5), (560, m_aload 2 1), (561, m_cob 106 0 6), (564, m_icmp (fun x y => x == y) 901), (567, m_const (.int (nI 0)) 1), (568, m_zret (fun x => x &&& 1)), (569, m_aload 1 1), (570, m_cob 68 0 5), (573, m_aload 2 1), (574, m_cob 107 0 6), (577, m_icmp (fun x y => x == y) 901), (580, m_const (.int (nI 0)) 1), (581, m_zret (fun x => x &&& 1)), (582, m_aload 1 1), (583, m_aload 0 1), (584, m_iload 3 1), (585, m_const (.int (nI 1)) 1), (586, m_bin (fun a b => a + b)), (587, m_ild 0), (588, m_aload 0 1), (589, m_iload 3 1), (590, m_const (.int (nI 2)) 1), (591, m_bin (fun a b => a + b)), (592, m_ild 0), (593, m_cob 69 2 5), (596, m_aload 2 1), (597, m_aload 0 1), (598, m_iload 3 1), (599, m_const (.int (nI 1)) 1), (600, m_bin (fun a b => a + b)), (601, m_ild 0), (602, m_aload 0 1), (603, m_iload 3 1), (604, m_const (.int (nI 2)) 1), (605, m_bin (fun a b => a + b)), (606, m_ild 0), (607, m_cob 150 2 6), (610, m_icmp (fun x y => x == y) 901), (613, m_const (.int (nI 0)) 1), (614, m_zret (fun x => x &&& 1)), (615, m_aload 1 1), (616, m_aload 0 1), (617, m_iload 3 1), (618, m_const (.int (nI 1)) 1), (619, m_bin (fun a b => a + b)), (620, m_ild 0), (621, m_aload 0 1), (622, m_iload 3 1), (623, m_const (.int (nI 2)) 1), (624, m_bin (fun a b => a + b)), (625, m_ild 0), (626, m_cob 70 2 5), (629, m_aload 2 1), (630, m_aload 0 1), (631, m_iload 3 1), (632, m_const (.int (nI 1)) 1), (633, m_bin (fun a b => a + b))]
def tL_law_6 : m_Tab := [(634, m_ild 0), (635, m_aload 0 1), (636, m_iload 3 1), (637, m_const (.int (nI 2)) 1), (638, m_bin (fun a b => a + b)), (639, m_ild 0), (640, m_cob 153 2 6), (643, m_icmp (fun x y => x == y) 901), (646, m_const (.int (nI 0)) 1), (647, m_zret (fun x => x &&& 1)), (648, m_aload 1 1), (649, m_aload 0 1), (650, m_iload 3 1), (651, m_const (.int (nI 1)) 1), (652, m_bin (fun a b => a + b)), (653, m_ild 0), (654, m_aload 0 1), (655, m_iload 3 1), (656, m_const (.int (nI 2)) 1), (657, m_bin (fun a b => a + b)), (658, m_ild 0), (659, m_aload 0 1), (660, m_iload 3 1), (661, m_const (.int (nI 3)) 1), (662, m_bin (fun a b => a + b)), (663, m_ild 0), (664, m_cob 71 3 5), (667, m_aload 2 1), (668, m_aload 0 1), (669, m_iload 3 1), (670, m_const (.int (nI 1)) 1), (671, m_bin (fun a b => a + b)), (672, m_ild 0), (673, m_aload 0 1), (674, m_iload 3 1), (675, m_const (.int (nI 2)) 1), (676, m_bin (fun a b => a + b)), (677, m_ild 0), (678, m_aload 0 1), (679, m_iload 3 1), (680, m_const (.int (nI 3)) 1), (681, m_bin (fun a b => a + b)), (682, m_ild 0), (683, m_cob 154 3 6), (686, m_icmp (fun x y => x == y) 901), (689, m_const (.int (nI 0)) 1), (690, m_zret (fun x => x &&& 1)), (691, m_aload 1 1), (692, m_aload 0 1), (693, m_iload 3 1), (694, m_const (.int (nI 1)) 1), (695, m_bin (fun a b => a + b)), (696, m_ild 0), (697, m_aload 0 1), (698, m_iload 3 1), (699, m_const (.int (nI 2)) 1), (700, m_bin (fun a b => a + b)), (701, m_ild 0), (702, m_cob 72 2 5), (705, m_aload 2 1)]
def tL_law_7 : m_Tab := [(706, m_aload 0 1), (707, m_iload 3 1), (708, m_const (.int (nI 1)) 1), (709, m_bin (fun a b => a + b)), (710, m_ild 0), (711, m_aload 0 1), (712, m_iload 3 1), (713, m_const (.int (nI 2)) 1), (714, m_bin (fun a b => a + b)), (715, m_ild 0), (716, m_cob 155 2 6), (719, m_icmp (fun x y => x == y) 901), (722, m_const (.int (nI 0)) 1), (723, m_zret (fun x => x &&& 1)), (724, m_aload 1 1), (725, m_aload 0 1), (726, m_iload 3 1), (727, m_const (.int (nI 1)) 1), (728, m_bin (fun a b => a + b)), (729, m_ild 0), (730, m_cob 73 1 5), (733, m_aload 2 1), (734, m_aload 0 1), (735, m_iload 3 1), (736, m_const (.int (nI 1)) 1), (737, m_bin (fun a b => a + b)), (738, m_ild 0), (739, m_cob 157 1 6), (742, m_icmp (fun x y => x == y) 901), (745, m_const (.int (nI 0)) 1), (746, m_zret (fun x => x &&& 1)), (747, m_aload 1 1), (748, m_cob 74 0 5), (751, m_aload 2 1), (752, m_cob 158 0 6), (755, m_icmp (fun x y => x == y) 901), (758, m_const (.int (nI 0)) 1), (759, m_zret (fun x => x &&& 1)), (760, m_aload 1 1), (761, m_cob 75 0 5), (764, m_f2d), (765, m_dstore 4 2), (767, m_aload 2 1), (768, m_cob 159 0 6), (771, m_f2d), (772, m_dstore 6 2), (774, m_dload 4 2), (776, m_dload 6 2), (778, m_dcmp .l), (779, m_if (fun x => x == 0) 800), (782, m_dload 4 2), (784, m_dload 4 2), (786, m_dcmp .l), (787, m_if (fun x => x == 0) 798), (790, m_dload 6 2), (792, m_dload 6 2), (794, m_dcmp .l), (795, m_if (fun x => !(x == 0)) 800), (798, m_const (.int (nI 0)) 1), (799, m_zret (fun x => x &&& 1))]
def tL_law_8 : m_Tab := [(800, m_goto 901), (803, m_aload 1 1), (804, m_aload 0 1), (805, m_iload 3 1), (806, m_const (.int (nI 1)) 1), (807, m_bin (fun a b => a + b)), (808, m_ild 0), (809, m_if (fun x => x == 0) 816), (812, m_const (.int (nI 1)) 1), (813, m_goto 817), (816, m_const (.int (nI 0)) 1), (817, m_cob 76 1 5), (820, m_aload 2 1), (821, m_aload 0 1), (822, m_iload 3 1), (823, m_const (.int (nI 1)) 1), (824, m_bin (fun a b => a + b)), (825, m_ild 0), (826, m_if (fun x => x == 0) 833), (829, m_const (.int (nI 1)) 1), (830, m_goto 834), (833, m_const (.int (nI 0)) 1), (834, m_cob 162 1 6), (837, m_icmp (fun x y => x == y) 901), (840, m_const (.int (nI 0)) 1), (841, m_zret (fun x => x &&& 1)), (842, m_aload 1 1), (843, m_aload 0 1), (844, m_iload 3 1), (845, m_const (.int (nI 1)) 1), (846, m_bin (fun a b => a + b)), (847, m_ild 0), (848, m_cob 77 1 5), (851, m_aload 2 1), (852, m_aload 0 1), (853, m_iload 3 1), (854, m_const (.int (nI 1)) 1), (855, m_bin (fun a b => a + b)), (856, m_ild 0), (857, m_cob 163 1 6), (860, m_icmp (fun x y => x == y) 901), (863, m_const (.int (nI 0)) 1), (864, m_zret (fun x => x &&& 1)), (865, m_aload 1 1), (866, m_cob 78 0 5), (869, m_aload 2 1), (870, m_cob 165 0 6), (873, m_icmp (fun x y => x == y) 901), (876, m_const (.int (nI 0)) 1), (877, m_zret (fun x => x &&& 1)), (878, m_aload 1 1), (879, m_aload 0 1), (880, m_iload 3 1), (881, m_const (.int (nI 1)) 1), (882, m_bin (fun a b => a + b)), (883, m_ild 0), (884, m_cob 79 1 5), (887, m_aload 2 1), (888, m_aload 0 1), (889, m_iload 3 1)]
def tL_law_9 : m_Tab := [(890, m_const (.int (nI 1)) 1), (891, m_bin (fun a b => a + b)), (892, m_ild 0), (893, m_cob 167 1 6), (896, m_icmp (fun x y => x == y) 901), (899, m_const (.int (nI 0)) 1), (900, m_zret (fun x => x &&& 1)), (901, m_iinc 3 (nI 4)), (904, m_goto 18), (907, m_const (.int (nI 1)) 1), (908, m_zret (fun x => x &&& 1))]
def tL_law : m_Tab := tL_law_0 ++ (tL_law_1 ++ (tL_law_2 ++ (tL_law_3 ++ (tL_law_4 ++ (tL_law_5 ++ (tL_law_6 ++ (tL_law_7 ++ (tL_law_8 ++ (tL_law_9)))))))))
def m_M : List m_Mt := [(yX0_init, cX0_init, 2, none), (yX0_record, cX0_record, 2, none), (yX0_takeLatestInto, cX0_takeLatestInto, 2, none), (yX0_copyTo, cX0_copyTo, 4, none), (yX1_init, cX1_init, 1, none), (yX1_copyFrom, cX1_copyFrom, 2, none), (yX1_layDown, cX1_layDown, 4, none), (yX1_takeAway, cX1_takeAway, 1, none), (yX1_isThere, cX1_isThere, 1, (some .boolean)), (yX1_left, cX1_left, 1, (some .int)), (yX1_hasPartsAt, cX1_hasPartsAt, 2, (some .boolean)), (yX1_cardAt, cX1_cardAt, 2, (some .int)), (yX1_placeOf, cX1_placeOf, 3, (some .int)), (yX1_cutAt, cX1_cutAt, 5, none), (yX1_shuffleAt, cX1_shuffleAt, 6, (some .int)), (yX1_marksOf, cX1_marksOf, 2, (some .int)), (yX1_marksAt, cX1_marksAt, 2, (some .int)), (yX1_canBeAt, cX1_canBeAt, 5, (some .int)), (yX1_guessAt, cX1_guessAt, 5, (some .int)), (yX1_known, cX1_known, 3, (some .int)), (yX1_guessedRight, cX1_guessedRight, 3, (some .int)), (yX1_sumOfChances, cX1_sumOfChances, 4, (some .float)), (yX2_init, cX2_init, 6, none), (yX2_cardCutTo, cX2_cardCutTo, 3, (some .int)), (yX2_cardsAtHome, cX2_cardsAtHome, 4, (some .int)), (yX3_init, cX3_init, 2, none), (yX3_copyFrom, cX3_copyFrom, 3, none), (yX3_exchange, cX3_exchange, 4, none), (yX3_cellOf, cX3_cellOf, 3, (some .int)), (yX3_hasMark, cX3_hasMark, 3, (some .boolean)), (yX3_setMark, cX3_setMark, 5, none), (yX3_marksOnBacks, cX3_marksOnBacks, 3, (some .int)), (yX3_sheetAt, cX3_sheetAt, 2, (some (.object "CardSheets$Sheet"))), (yX3_printSheet, cX3_printSheet, 2, none), (yX3_wear, cX3_wear, 2, none), (yX3_takeTopSheet, cX3_takeTopSheet, 2, (some (.object "CardSheets$Sheet"))), (yX3_reasonAgainstSale, cX3_reasonAgainstSale, 2, (some .int)), (yX3_knownIfPrinted, cX3_knownIfPrinted, 8, (some .int)), (yX4_init, cX4_init, 1, none), (yX4_append, cX4_append, 2, none), (yX4_kindOf, cX4_kindOf, 2, (some .char)), (yX4_findFault, cX4_findFault, 2, (some .int)), (yX4_leansAnotherThanCourts, cX4_leansAnotherThanCourts, 2, (some .boolean)), (yX4_readChange, cX4_readChange, 5, (some .boolean)), (yX4_mostBehind, cX4_mostBehind, 1, (some .int)), (yX4_addChange, cX4_addChange, 4, none), (yX4_nextSign, cX4_nextSign, 1, (some .char)), (yX4_take, cX4_take, 2, (some .boolean)), (yX4_readNumber, cX4_readNumber, 5, (some .int)), (yX4_nextDigit, cX4_nextDigit, 2, (some .int)), (yX5_init, cX5_init, 1, none), (yX5_swap, cX5_swap, 3, (some .int)), (yX5_mark, cX5_mark, 4, (some .int)), (yX5_lean, cX5_lean, 4, (some .int)), (yX5_changeAll, cX5_changeAll, 3, (some .int)), (yX5_set, cX5_set, 4, (some .int)), (yX5_print, cX5_print, 2, (some .int)), (yX5_cutSheet, cX5_cutSheet, 2, (some .int)), (yX5_cutPack, cX5_cutPack, 3, (some .int)), (yX5_shuffle, cX5_shuffle, 3, (some .int)), (yX5_deal, cX5_deal, 3, (some .int)), (yX5_sell, cX5_sell, 3, (some .int)), (yX5_pulp, cX5_pulp, 2, (some .int)), (yX5_type, cX5_type, 2, (some .int)), (yX5_clearText, cX5_clearText, 2, (some .int)), (yX5_fault, cX5_fault, 1, (some .int)), (yX5_undo, cX5_undo, 1, (some .int)), (yX5_keep, cX5_keep, 1, (some .int)), (yX5_restore, cX5_restore, 1, (some .int)), (yX5_block, cX5_block, 3, (some .int)), (yX5_cardOf, cX5_cardOf, 3, (some .int)), (yX5_sheet, cX5_sheet, 6, (some .int)), (yX5_pack, cX5_pack, 4, (some .int)), (yX5_count, cX5_count, 2, (some .int)), (yX5_why, cX5_why, 1, (some .int)), (yX5_chances, cX5_chances, 1, (some .float)), (yX5_ifPrinted, cX5_ifPrinted, 2, (some .int)), (yX5_worstFlaw, cX5_worstFlaw, 6, (some .int)), (yX5_bestWay, cX5_bestWay, 6, (some .int)), (yX5_backIn, cX5_backIn, 4, (some .int)), (yX5_doChange, cX5_doChange, 4, none), (yX5_isCell, cX5_isCell, 1, (some .boolean)), (yX5_isCard, cX5_isCard, 1, (some .boolean)), (yX5_isMark, cX5_isMark, 1, (some .boolean)), (yX5_isCourt, cX5_isCourt, 1, (some .boolean)), (yX5_at, cX5_at, 2, (some .int)), (yX5_put, cX5_put, 3, none), (yX5_copyRow, cX5_copyRow, 2, none), (yX5_courtsBeyond, cX5_courtsBeyond, 4, (some .int)), (yX5_cellAt, cX5_cellAt, 4, (some .int)), (yX5_along, cX5_along, 3, (some .int)), (yX5_placeBefore, cX5_placeBefore, 4, (some .int)), (yX5_shufflesUntilBack, cX5_shufflesUntilBack, 4, (some .int)), (yX5_roundOf, cX5_roundOf, 5, (some .int)), (yX5_leastCommonMultiple, cX5_leastCommonMultiple, 3, (some .int)), (yX6_init, cX6_init, 2, none), (yX6_within, cX6_within, 3, (some .boolean)), (yX6_isCell, cX6_isCell, 1, (some .boolean)), (yX6_isMark, cX6_isMark, 1, (some .boolean)), (yX6_isCourt, cX6_isCourt, 1, (some .boolean)), (yX6_ones, cX6_ones, 1, (some .int)), (yX6_putAside, cX6_putAside, 2, none), (yX6_takeBack, cX6_takeBack, 2, none), (yX6_push, cX6_push, 2, none), (yX6_record, cX6_record, 1, none), (yX6_undo, cX6_undo, 2, (some .int)), (yX6_keep, cX6_keep, 2, (some .int)), (yX6_restore, cX6_restore, 2, (some .int)), (yX6_exchange, cX6_exchange, 4, none), (yX6_setMark, cX6_setMark, 4, none), (yX6_swap, cX6_swap, 3, (some .int)), (yX6_mark, cX6_mark, 4, (some .int)), (yX6_lean, cX6_lean, 4, (some .int)), (yX6_leastOf, cX6_leastOf, 1, (some .int)), (yX6_mostOf, cX6_mostOf, 1, (some .int)), (yX6_set, cX6_set, 4, (some .int)), (yX6_backOf, cX6_backOf, 3, (some .int)), (yX6_sheetAt, cX6_sheetAt, 1, (some .int)), (yX6_top, cX6_top, 1, (some .int)), (yX6_print, cX6_print, 3, (some .int)), (yX6_cellAt, cX6_cellAt, 6, (some .int)), (yX6_cutSheet, cX6_cutSheet, 5, (some .int)), (yX6_canPart, cX6_canPart, 2, (some .boolean)), (yX6_takeOrder, cX6_takeOrder, 2, none), (yX6_cutPack, cX6_cutPack, 3, (some .int)), (yX6_cameFrom, cX6_cameFrom, 4, (some .int)), (yX6_shuffle, cX6_shuffle, 5, (some .int)), (yX6_deal, cX6_deal, 3, (some .int)), (yX6_alike, cX6_alike, 4, (some .int)), (yX6_marksAt, cX6_marksAt, 2, (some .int)), (yX6_guess, cX6_guess, 3, (some .int)), (yX6_known, cX6_known, 3, (some .int)), (yX6_rightOnes, cX6_rightOnes, 3, (some .int)), (yX6_great, cX6_great, 1, (some .int)), (yX6_leaning, cX6_leaning, 4, (some .int)), (yX6_reason, cX6_reason, 1, (some .int)), (yX6_dropPack, cX6_dropPack, 2, none), (yX6_sell, cX6_sell, 1, (some .int)), (yX6_pulp, cX6_pulp, 2, (some .int)), (yX6_type, cX6_type, 2, (some .int)), (yX6_clearText, cX6_clearText, 2, (some .int)), (yX6_code, cX6_code, 1, (some .int)), (yX6_takes, cX6_takes, 3, (some .boolean)), (yX6_readNumber, cX6_readNumber, 4, (some .int)), (yX6_readsLean, cX6_readsLean, 3, (some .boolean)), (yX6_readsChange, cX6_readsChange, 1, (some .boolean)), (yX6_findFault, cX6_findFault, 1, (some .int)), (yX6_fault, cX6_fault, 1, (some .int)), (yX6_doesChange, cX6_doesChange, 1, (some .boolean)), (yX6_changeAll, cX6_changeAll, 3, (some .int)), (yX6_block, cX6_block, 3, (some .int)), (yX6_cellOf, cX6_cellOf, 3, (some .int)), (yX6_placeOf, cX6_placeOf, 3, (some .int)), (yX6_cardOf, cX6_cardOf, 3, (some .int)), (yX6_sheet, cX6_sheet, 4, (some .int)), (yX6_pack, cX6_pack, 3, (some .int)), (yX6_marksOfBacks, cX6_marksOfBacks, 3, (some .int)), (yX6_count, cX6_count, 2, (some .int)), (yX6_why, cX6_why, 1, (some .int)), (yX6_chances, cX6_chances, 3, (some .float)), (yX6_single, cX6_single, 5, (some .int)), (yX6_see, cX6_see, 3, none), (yX6_ifPrinted, cX6_ifPrinted, 2, (some .int)), (yX6_worstFlaw, cX6_worstFlaw, 6, (some .int)), (yX6_atHome, cX6_atHome, 4, (some .int)), (yX6_bestWay, cX6_bestWay, 3, (some .int)), (yX6_comesBack, cX6_comesBack, 4, (some .boolean)), (yX6_backIn, cX6_backIn, 3, (some .int)), (yJ6_bitCount_0f7a4, cJ6_bitCount_0f7a4, 1, (some .int))]
def m_P : m_Prog := [(tX0_init, 2), (tX0_record, 2), (tX0_takeLatestInto, 2), (tX0_copyTo, 4), (tX1_init, 1), (tX1_copyFrom, 2), (tX1_layDown, 4), (tX1_takeAway, 1), (tX1_isThere, 1), (tX1_left, 1), (tX1_hasPartsAt, 2), (tX1_cardAt, 2), (tX1_placeOf, 3), (tX1_cutAt, 5), (tX1_shuffleAt, 6), (tX1_marksOf, 2), (tX1_marksAt, 2), (tX1_canBeAt, 5), (tX1_guessAt, 5), (tX1_known, 3), (tX1_guessedRight, 3), (tX1_sumOfChances, 4), (tX2_init, 6), (tX2_cardCutTo, 3), (tX2_cardsAtHome, 4), (tX3_init, 2), (tX3_copyFrom, 3), (tX3_exchange, 4), (tX3_cellOf, 3), (tX3_hasMark, 3), (tX3_setMark, 5), (tX3_marksOnBacks, 3), (tX3_sheetAt, 2), (tX3_printSheet, 2), (tX3_wear, 2), (tX3_takeTopSheet, 2), (tX3_reasonAgainstSale, 2), (tX3_knownIfPrinted, 8), (tX4_init, 1), (tX4_append, 2), (tX4_kindOf, 2), (tX4_findFault, 2), (tX4_leansAnotherThanCourts, 2), (tX4_readChange, 5), (tX4_mostBehind, 1), (tX4_addChange, 4), (tX4_nextSign, 1), (tX4_take, 2), (tX4_readNumber, 5), (tX4_nextDigit, 2), (tX5_init, 1), (tX5_swap, 3), (tX5_mark, 4), (tX5_lean, 4), (tX5_changeAll, 3), (tX5_set, 4), (tX5_print, 2), (tX5_cutSheet, 2), (tX5_cutPack, 3), (tX5_shuffle, 3), (tX5_deal, 3), (tX5_sell, 3), (tX5_pulp, 2), (tX5_type, 2), (tX5_clearText, 2), (tX5_fault, 1), (tX5_undo, 1), (tX5_keep, 1), (tX5_restore, 1), (tX5_block, 3), (tX5_cardOf, 3), (tX5_sheet, 6), (tX5_pack, 4), (tX5_count, 2), (tX5_why, 1), (tX5_chances, 1), (tX5_ifPrinted, 2), (tX5_worstFlaw, 6), (tX5_bestWay, 6), (tX5_backIn, 4), (tX5_doChange, 4), (tX5_isCell, 1), (tX5_isCard, 1), (tX5_isMark, 1), (tX5_isCourt, 1), (tX5_at, 2), (tX5_put, 3), (tX5_copyRow, 2), (tX5_courtsBeyond, 4), (tX5_cellAt, 4), (tX5_along, 3), (tX5_placeBefore, 4), (tX5_shufflesUntilBack, 4), (tX5_roundOf, 5), (tX5_leastCommonMultiple, 3), (tX6_init, 2), (tX6_within, 3), (tX6_isCell, 1), (tX6_isMark, 1), (tX6_isCourt, 1), (tX6_ones, 1), (tX6_putAside, 2), (tX6_takeBack, 2), (tX6_push, 2), (tX6_record, 1), (tX6_undo, 2), (tX6_keep, 2), (tX6_restore, 2), (tX6_exchange, 4), (tX6_setMark, 4), (tX6_swap, 3), (tX6_mark, 4), (tX6_lean, 4), (tX6_leastOf, 1), (tX6_mostOf, 1), (tX6_set, 4), (tX6_backOf, 3), (tX6_sheetAt, 1), (tX6_top, 1), (tX6_print, 3), (tX6_cellAt, 6), (tX6_cutSheet, 5), (tX6_canPart, 2), (tX6_takeOrder, 2), (tX6_cutPack, 3), (tX6_cameFrom, 4), (tX6_shuffle, 5), (tX6_deal, 3), (tX6_alike, 4), (tX6_marksAt, 2), (tX6_guess, 3), (tX6_known, 3), (tX6_rightOnes, 3), (tX6_great, 1), (tX6_leaning, 4), (tX6_reason, 1), (tX6_dropPack, 2), (tX6_sell, 1), (tX6_pulp, 2), (tX6_type, 2), (tX6_clearText, 2), (tX6_code, 1), (tX6_takes, 3), (tX6_readNumber, 4), (tX6_readsLean, 3), (tX6_readsChange, 1), (tX6_findFault, 1), (tX6_fault, 1), (tX6_doesChange, 1), (tX6_changeAll, 3), (tX6_block, 3), (tX6_cellOf, 3), (tX6_placeOf, 3), (tX6_cardOf, 3), (tX6_sheet, 4), (tX6_pack, 3), (tX6_marksOfBacks, 3), (tX6_count, 2), (tX6_why, 1), (tX6_chances, 3), (tX6_single, 5), (tX6_see, 3), (tX6_ifPrinted, 2), (tX6_worstFlaw, 6), (tX6_atHome, 4), (tX6_bestWay, 3), (tX6_comesBack, 4), (tX6_backIn, 3), (tJ6_bitCount_0f7a4, 1)]
end
section
theorem i_vc : Claimed_1_1 ∧ Claimed_1_2 := sorry
end
