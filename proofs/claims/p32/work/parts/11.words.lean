/-! what the tables say, word by word; the methods as tables of the plain machine: printed by wip/whole/gen/gen11.py out of the printed names -/
theorem uw_0 : ∀ w ∈ u_ws RX0 TX0 3, w ∈ m_gd := by decide +kernel
theorem uw_1 : ∀ w ∈ u_ws RX1 TX1 3, w ∈ m_gd := by decide +kernel
theorem uw_2 : ∀ w ∈ u_ws RX2 TX2 3, w ∈ m_gd := by decide +kernel
theorem uw_3 : ∀ w ∈ u_ws RX3 TX3 11, w ∈ m_gd := by decide +kernel
theorem uw_4 : ∀ w ∈ u_ws RX4 TX4 7, w ∈ m_gd := by decide +kernel
theorem uw_5 : ∀ w ∈ u_ws RX5 TX5 6, w ∈ m_gd := by decide +kernel
theorem m_nz : ∀ x : Int32, x &&& 1 = x → narrow .boolean (.int x) = .int x := fun x h => by show Value.int (x &&& 1) = _; rw [h]
theorem m_nc : ∀ x : Int32, x.toUInt32.toUInt16.toUInt32.toInt32 = x → narrow .char (.int x) = .int x := fun x h => by show Value.int _ = _; rw [h]
theorem wd_0 : Cond.methodLink RX0 3 Lib.objectInit ∈ m_gd := List.mem_filter.mpr ⟨List.mem_of_getElem? (i := 102) (by decide +kernel), by decide +kernel⟩
theorem wd_1 : Cond.instanceMethod Lib.objectInit ∈ m_gd := List.mem_filter.mpr ⟨List.mem_of_getElem? (i := 18) (by decide +kernel), by decide +kernel⟩
theorem wd_2 : Cond.code Lib.objectInit ⟨#[0xb1]⟩ 1 none ∈ m_gd := List.mem_filter.mpr ⟨List.mem_of_getElem? (i := 19) (by decide +kernel), by decide +kernel⟩
theorem wd_3 : Cond.classLink RX0 9 RX3 ∈ m_gd := List.mem_filter.mpr ⟨List.mem_of_getElem? (i := 103) (by decide +kernel), by decide +kernel⟩
theorem wd_4 : Cond.fieldLink RX0 11 RX0 (TX0 0).2.1 (TX0 0).2.2.1 ∈ m_gd := List.mem_filter.mpr ⟨List.mem_of_getElem? (i := 106) (by decide +kernel), by decide +kernel⟩
theorem wd_5 : Cond.fieldLink RX0 17 RX0 (TX0 1).2.1 (TX0 1).2.2.1 ∈ m_gd := List.mem_filter.mpr ⟨List.mem_of_getElem? (i := 107) (by decide +kernel), by decide +kernel⟩
theorem wd_6 : Cond.fieldLink RX0 21 RX0 (TX0 2).2.1 (TX0 2).2.2.1 ∈ m_gd := List.mem_filter.mpr ⟨List.mem_of_getElem? (i := 108) (by decide +kernel), by decide +kernel⟩
theorem wd_7 : Cond.instantiable RX3 11 ∈ m_gd := List.mem_filter.mpr ⟨List.mem_of_getElem? (i := 21) (by decide +kernel), by decide +kernel⟩
theorem wd_8 : Cond.initialized RX3 ∈ m_gd := List.mem_filter.mpr ⟨List.mem_of_getElem? (i := 4) (by decide +kernel), by decide +kernel⟩
theorem wd_9 : Cond.methodLink RX0 24 yX3_init ∈ m_gd := List.mem_filter.mpr ⟨List.mem_of_getElem? (i := 105) (by decide +kernel), by decide +kernel⟩
theorem wd_10 : Cond.instanceMethod yX3_init ∈ m_gd := List.mem_filter.mpr ⟨List.mem_of_getElem? (i := 23) (by decide +kernel), by decide +kernel⟩
theorem wd_11 : Cond.code yX3_init cX3_init 2 none ∈ m_gd := List.mem_filter.mpr ⟨List.mem_of_getElem? (i := 24) (by decide +kernel), by decide +kernel⟩
theorem wd_12 : Cond.methodLink RX0 25 yX0_copyTo ∈ m_gd := List.mem_filter.mpr ⟨List.mem_of_getElem? (i := 218) (by decide +kernel), by decide +kernel⟩
theorem wd_13 : Cond.instanceMethod yX0_copyTo ∈ m_gd := List.mem_filter.mpr ⟨List.mem_of_getElem? (i := 220) (by decide +kernel), by decide +kernel⟩
theorem wd_14 : Cond.selects RX0 yX0_copyTo yX0_copyTo ∈ m_gd := List.mem_filter.mpr ⟨List.mem_of_getElem? (i := 0) (by decide +kernel), by decide +kernel⟩
theorem wd_15 : Cond.initialized RX0 ∈ m_gd := List.mem_filter.mpr ⟨List.mem_of_getElem? (i := 6) (by decide +kernel), by decide +kernel⟩
theorem wd_16 : Cond.code yX0_copyTo cX0_copyTo 4 none ∈ m_gd := List.mem_filter.mpr ⟨List.mem_of_getElem? (i := 221) (by decide +kernel), by decide +kernel⟩
theorem wd_17 : Cond.methodLink RX0 29 Lib.Math.min.name ∈ m_gd := List.mem_filter.mpr ⟨List.mem_of_getElem? (i := 222) (by decide +kernel), by decide +kernel⟩
theorem wd_18 : Cond.static Lib.Math.min.name ∈ m_gd := List.mem_filter.mpr ⟨List.mem_of_getElem? (i := 182) (by decide +kernel), by decide +kernel⟩
theorem wd_19 : Cond.initialized "java/lang/Math" ∈ m_gd := List.mem_filter.mpr ⟨List.mem_of_getElem? (i := 8) (by decide +kernel), by decide +kernel⟩
theorem wd_20 : Cond.code Lib.Math.min.name Lib.Math.min.code 2 (some .int) ∈ m_gd := List.mem_filter.mpr ⟨List.mem_of_getElem? (i := 183) (by decide +kernel), by decide +kernel⟩
theorem wd_21 : Cond.methodLink RX0 35 yX3_copyFrom ∈ m_gd := List.mem_filter.mpr ⟨List.mem_of_getElem? (i := 174) (by decide +kernel), by decide +kernel⟩
theorem wd_22 : Cond.instanceMethod yX3_copyFrom ∈ m_gd := List.mem_filter.mpr ⟨List.mem_of_getElem? (i := 175) (by decide +kernel), by decide +kernel⟩
theorem wd_23 : Cond.selects RX3 yX3_copyFrom yX3_copyFrom ∈ m_gd := List.mem_filter.mpr ⟨List.mem_of_getElem? (i := 176) (by decide +kernel), by decide +kernel⟩
theorem wd_24 : Cond.code yX3_copyFrom cX3_copyFrom 3 none ∈ m_gd := List.mem_filter.mpr ⟨List.mem_of_getElem? (i := 177) (by decide +kernel), by decide +kernel⟩
theorem wd_25 : Cond.methodLink RX1 3 Lib.objectInit ∈ m_gd := List.mem_filter.mpr ⟨List.mem_of_getElem? (i := 33) (by decide +kernel), by decide +kernel⟩
theorem wd_26 : Cond.arrayClass .int ∈ m_gd := List.mem_filter.mpr ⟨List.mem_of_getElem? (i := 47) (by decide +kernel), by decide +kernel⟩
theorem wd_27 : Cond.fieldLink RX1 9 RX1 (TX1 0).2.1 (TX1 0).2.2.1 ∈ m_gd := List.mem_filter.mpr ⟨List.mem_of_getElem? (i := 34) (by decide +kernel), by decide +kernel⟩
theorem wd_28 : Cond.fieldLink RX1 15 RX1 (TX1 1).2.1 (TX1 1).2.2.1 ∈ m_gd := List.mem_filter.mpr ⟨List.mem_of_getElem? (i := 35) (by decide +kernel), by decide +kernel⟩
theorem wd_29 : Cond.fieldLink RX1 19 RX1 (TX1 2).2.1 (TX1 2).2.2.1 ∈ m_gd := List.mem_filter.mpr ⟨List.mem_of_getElem? (i := 37) (by decide +kernel), by decide +kernel⟩
theorem wn_30 : Cond.methodLinkNest RX1 23 yX5_copyRow "CardSheets" ∈ m_nest := List.mem_filter.mpr ⟨List.mem_of_getElem? (i := 191) (by decide +kernel), by decide +kernel⟩
theorem wd_31 : Cond.static yX5_copyRow ∈ m_gd := List.mem_filter.mpr ⟨List.mem_of_getElem? (i := 179) (by decide +kernel), by decide +kernel⟩
theorem wd_32 : Cond.initialized RX5 ∈ m_gd := List.mem_filter.mpr ⟨List.mem_of_getElem? (i := 3) (by decide +kernel), by decide +kernel⟩
theorem wd_33 : Cond.code yX5_copyRow cX5_copyRow 2 none ∈ m_gd := List.mem_filter.mpr ⟨List.mem_of_getElem? (i := 180) (by decide +kernel), by decide +kernel⟩
theorem wd_34 : Cond.methodLink RX1 27 yX2_cardCutTo ∈ m_gd := List.mem_filter.mpr ⟨List.mem_of_getElem? (i := 320) (by decide +kernel), by decide +kernel⟩
theorem wd_35 : Cond.instanceMethod yX2_cardCutTo ∈ m_gd := List.mem_filter.mpr ⟨List.mem_of_getElem? (i := 321) (by decide +kernel), by decide +kernel⟩
theorem wd_36 : Cond.selects RX2 yX2_cardCutTo yX2_cardCutTo ∈ m_gd := List.mem_filter.mpr ⟨List.mem_of_getElem? (i := 322) (by decide +kernel), by decide +kernel⟩
theorem wd_37 : Cond.initialized RX2 ∈ m_gd := List.mem_filter.mpr ⟨List.mem_of_getElem? (i := 11) (by decide +kernel), by decide +kernel⟩
theorem wd_38 : Cond.code yX2_cardCutTo cX2_cardCutTo 3 (some .int) ∈ m_gd := List.mem_filter.mpr ⟨List.mem_of_getElem? (i := 323) (by decide +kernel), by decide +kernel⟩
theorem wd_39 : Cond.methodLink RX1 33 yX1_left ∈ m_gd := List.mem_filter.mpr ⟨List.mem_of_getElem? (i := 338) (by decide +kernel), by decide +kernel⟩
theorem wd_40 : Cond.instanceMethod yX1_left ∈ m_gd := List.mem_filter.mpr ⟨List.mem_of_getElem? (i := 339) (by decide +kernel), by decide +kernel⟩
theorem wd_41 : Cond.selects RX1 yX1_left yX1_left ∈ m_gd := List.mem_filter.mpr ⟨List.mem_of_getElem? (i := 340) (by decide +kernel), by decide +kernel⟩
theorem wd_42 : Cond.initialized RX1 ∈ m_gd := List.mem_filter.mpr ⟨List.mem_of_getElem? (i := 5) (by decide +kernel), by decide +kernel⟩
theorem wd_43 : Cond.code yX1_left cX1_left 1 (some .int) ∈ m_gd := List.mem_filter.mpr ⟨List.mem_of_getElem? (i := 341) (by decide +kernel), by decide +kernel⟩
theorem wn_44 : Cond.methodLinkNest RX1 37 yX5_at "CardSheets" ∈ m_nest := List.mem_filter.mpr ⟨List.mem_of_getElem? (i := 346) (by decide +kernel), by decide +kernel⟩
theorem wd_45 : Cond.static yX5_at ∈ m_gd := List.mem_filter.mpr ⟨List.mem_of_getElem? (i := 51) (by decide +kernel), by decide +kernel⟩
theorem wd_46 : Cond.code yX5_at cX5_at 2 (some .int) ∈ m_gd := List.mem_filter.mpr ⟨List.mem_of_getElem? (i := 52) (by decide +kernel), by decide +kernel⟩
theorem wd_47 : Cond.methodLink RX1 41 yX1_cardAt ∈ m_gd := List.mem_filter.mpr ⟨List.mem_of_getElem? (i := 394) (by decide +kernel), by decide +kernel⟩
theorem wd_48 : Cond.instanceMethod yX1_cardAt ∈ m_gd := List.mem_filter.mpr ⟨List.mem_of_getElem? (i := 349) (by decide +kernel), by decide +kernel⟩
theorem wd_49 : Cond.selects RX1 yX1_cardAt yX1_cardAt ∈ m_gd := List.mem_filter.mpr ⟨List.mem_of_getElem? (i := 350) (by decide +kernel), by decide +kernel⟩
theorem wd_50 : Cond.code yX1_cardAt cX1_cardAt 2 (some .int) ∈ m_gd := List.mem_filter.mpr ⟨List.mem_of_getElem? (i := 351) (by decide +kernel), by decide +kernel⟩
theorem wn_51 : Cond.methodLinkNest RX1 45 yX5_put "CardSheets" ∈ m_nest := List.mem_filter.mpr ⟨List.mem_of_getElem? (i := 347) (by decide +kernel), by decide +kernel⟩
theorem wd_52 : Cond.static yX5_put ∈ m_gd := List.mem_filter.mpr ⟨List.mem_of_getElem? (i := 228) (by decide +kernel), by decide +kernel⟩
theorem wd_53 : Cond.code yX5_put cX5_put 3 none ∈ m_gd := List.mem_filter.mpr ⟨List.mem_of_getElem? (i := 229) (by decide +kernel), by decide +kernel⟩
theorem wn_54 : Cond.methodLinkNest RX1 49 yX5_placeBefore "CardSheets" ∈ m_nest := List.mem_filter.mpr ⟨List.mem_of_getElem? (i := 360) (by decide +kernel), by decide +kernel⟩
theorem wd_55 : Cond.static yX5_placeBefore ∈ m_gd := List.mem_filter.mpr ⟨List.mem_of_getElem? (i := 361) (by decide +kernel), by decide +kernel⟩
theorem wd_56 : Cond.code yX5_placeBefore cX5_placeBefore 4 (some .int) ∈ m_gd := List.mem_filter.mpr ⟨List.mem_of_getElem? (i := 362) (by decide +kernel), by decide +kernel⟩
theorem wd_57 : Cond.fieldLink RX1 53 RX2 (TX2 1).2.1 (TX2 1).2.2.1 ∈ m_gd := List.mem_filter.mpr ⟨List.mem_of_getElem? (i := 283) (by decide +kernel), by decide +kernel⟩
theorem wd_58 : Cond.methodLink RX1 56 yX1_marksOf ∈ m_gd := List.mem_filter.mpr ⟨List.mem_of_getElem? (i := 395) (by decide +kernel), by decide +kernel⟩
theorem wd_59 : Cond.instanceMethod yX1_marksOf ∈ m_gd := List.mem_filter.mpr ⟨List.mem_of_getElem? (i := 396) (by decide +kernel), by decide +kernel⟩
theorem wd_60 : Cond.selects RX1 yX1_marksOf yX1_marksOf ∈ m_gd := List.mem_filter.mpr ⟨List.mem_of_getElem? (i := 397) (by decide +kernel), by decide +kernel⟩
theorem wd_61 : Cond.code yX1_marksOf cX1_marksOf 2 (some .int) ∈ m_gd := List.mem_filter.mpr ⟨List.mem_of_getElem? (i := 398) (by decide +kernel), by decide +kernel⟩
theorem wd_62 : Cond.methodLink RX1 59 yX1_marksAt ∈ m_gd := List.mem_filter.mpr ⟨List.mem_of_getElem? (i := 390) (by decide +kernel), by decide +kernel⟩
theorem wd_63 : Cond.instanceMethod yX1_marksAt ∈ m_gd := List.mem_filter.mpr ⟨List.mem_of_getElem? (i := 391) (by decide +kernel), by decide +kernel⟩
theorem wd_64 : Cond.selects RX1 yX1_marksAt yX1_marksAt ∈ m_gd := List.mem_filter.mpr ⟨List.mem_of_getElem? (i := 392) (by decide +kernel), by decide +kernel⟩
theorem wd_65 : Cond.code yX1_marksAt cX1_marksAt 2 (some .int) ∈ m_gd := List.mem_filter.mpr ⟨List.mem_of_getElem? (i := 393) (by decide +kernel), by decide +kernel⟩
theorem wd_66 : Cond.methodLink RX1 62 Lib.Math.min.name ∈ m_gd := List.mem_filter.mpr ⟨List.mem_of_getElem? (i := 462) (by decide +kernel), by decide +kernel⟩
theorem wd_67 : Cond.methodLink RX1 67 yX1_canBeAt ∈ m_gd := List.mem_filter.mpr ⟨List.mem_of_getElem? (i := 386) (by decide +kernel), by decide +kernel⟩
theorem wd_68 : Cond.instanceMethod yX1_canBeAt ∈ m_gd := List.mem_filter.mpr ⟨List.mem_of_getElem? (i := 387) (by decide +kernel), by decide +kernel⟩
theorem wd_69 : Cond.selects RX1 yX1_canBeAt yX1_canBeAt ∈ m_gd := List.mem_filter.mpr ⟨List.mem_of_getElem? (i := 388) (by decide +kernel), by decide +kernel⟩
theorem wd_70 : Cond.code yX1_canBeAt cX1_canBeAt 6 (some .int) ∈ m_gd := List.mem_filter.mpr ⟨List.mem_of_getElem? (i := 389) (by decide +kernel), by decide +kernel⟩
theorem wd_71 : Cond.methodLink RX1 70 yX1_guessAt ∈ m_gd := List.mem_filter.mpr ⟨List.mem_of_getElem? (i := 458) (by decide +kernel), by decide +kernel⟩
theorem wd_72 : Cond.instanceMethod yX1_guessAt ∈ m_gd := List.mem_filter.mpr ⟨List.mem_of_getElem? (i := 459) (by decide +kernel), by decide +kernel⟩
theorem wd_73 : Cond.selects RX1 yX1_guessAt yX1_guessAt ∈ m_gd := List.mem_filter.mpr ⟨List.mem_of_getElem? (i := 460) (by decide +kernel), by decide +kernel⟩
theorem wd_74 : Cond.code yX1_guessAt cX1_guessAt 6 (some .int) ∈ m_gd := List.mem_filter.mpr ⟨List.mem_of_getElem? (i := 461) (by decide +kernel), by decide +kernel⟩
theorem wd_75 : Cond.methodLink RX2 3 Lib.objectInit ∈ m_gd := List.mem_filter.mpr ⟨List.mem_of_getElem? (i := 277) (by decide +kernel), by decide +kernel⟩
theorem wd_76 : Cond.fieldLink RX2 9 RX2 (TX2 0).2.1 (TX2 0).2.2.1 ∈ m_gd := List.mem_filter.mpr ⟨List.mem_of_getElem? (i := 280) (by decide +kernel), by decide +kernel⟩
theorem wd_77 : Cond.fieldLink RX2 15 RX2 (TX2 1).2.1 (TX2 1).2.2.1 ∈ m_gd := List.mem_filter.mpr ⟨List.mem_of_getElem? (i := 282) (by decide +kernel), by decide +kernel⟩
theorem wd_78 : Cond.fieldLink RX2 18 RX2 (TX2 2).2.1 (TX2 2).2.2.1 ∈ m_gd := List.mem_filter.mpr ⟨List.mem_of_getElem? (i := 285) (by decide +kernel), by decide +kernel⟩
theorem wn_79 : Cond.methodLinkNest RX2 21 yX5_at "CardSheets" ∈ m_nest := List.mem_filter.mpr ⟨List.mem_of_getElem? (i := 278) (by decide +kernel), by decide +kernel⟩
theorem wn_80 : Cond.methodLinkNest RX2 25 yX5_isCard "CardSheets" ∈ m_nest := List.mem_filter.mpr ⟨List.mem_of_getElem? (i := 279) (by decide +kernel), by decide +kernel⟩
theorem wd_81 : Cond.static yX5_isCard ∈ m_gd := List.mem_filter.mpr ⟨List.mem_of_getElem? (i := 251) (by decide +kernel), by decide +kernel⟩
theorem wd_82 : Cond.code yX5_isCard cX5_isCard 1 (some .boolean) ∈ m_gd := List.mem_filter.mpr ⟨List.mem_of_getElem? (i := 252) (by decide +kernel), by decide +kernel⟩
theorem wn_83 : Cond.methodLinkNest RX2 29 yX5_cellAt "CardSheets" ∈ m_nest := List.mem_filter.mpr ⟨List.mem_of_getElem? (i := 324) (by decide +kernel), by decide +kernel⟩
theorem wd_84 : Cond.static yX5_cellAt ∈ m_gd := List.mem_filter.mpr ⟨List.mem_of_getElem? (i := 325) (by decide +kernel), by decide +kernel⟩
theorem wd_85 : Cond.code yX5_cellAt cX5_cellAt 4 (some .int) ∈ m_gd := List.mem_filter.mpr ⟨List.mem_of_getElem? (i := 326) (by decide +kernel), by decide +kernel⟩
theorem wd_86 : Cond.methodLink RX2 33 yX2_cardCutTo ∈ m_gd := List.mem_filter.mpr ⟨List.mem_of_getElem? (i := 515) (by decide +kernel), by decide +kernel⟩
theorem wd_87 : Cond.methodLink RX3 3 Lib.objectInit ∈ m_gd := List.mem_filter.mpr ⟨List.mem_of_getElem? (i := 25) (by decide +kernel), by decide +kernel⟩
theorem wd_88 : Cond.fieldLink RX3 9 RX3 (TX3 0).2.1 (TX3 0).2.2.1 ∈ m_gd := List.mem_filter.mpr ⟨List.mem_of_getElem? (i := 53) (by decide +kernel), by decide +kernel⟩
theorem wd_89 : Cond.fieldLink RX3 15 RX3 (TX3 1).2.1 (TX3 1).2.2.1 ∈ m_gd := List.mem_filter.mpr ⟨List.mem_of_getElem? (i := 55) (by decide +kernel), by decide +kernel⟩
theorem wd_90 : Cond.fieldLink RX3 18 RX3 (TX3 2).2.1 (TX3 2).2.2.1 ∈ m_gd := List.mem_filter.mpr ⟨List.mem_of_getElem? (i := 57) (by decide +kernel), by decide +kernel⟩
theorem wd_91 : Cond.fieldLink RX3 21 RX3 (TX3 3).2.1 (TX3 3).2.2.1 ∈ m_gd := List.mem_filter.mpr ⟨List.mem_of_getElem? (i := 59) (by decide +kernel), by decide +kernel⟩
theorem wd_92 : Cond.classLink RX3 24 RX2 ∈ m_gd := List.mem_filter.mpr ⟨List.mem_of_getElem? (i := 26) (by decide +kernel), by decide +kernel⟩
theorem wd_93 : Cond.fieldLink RX3 26 RX3 (TX3 4).2.1 (TX3 4).2.2.1 ∈ m_gd := List.mem_filter.mpr ⟨List.mem_of_getElem? (i := 61) (by decide +kernel), by decide +kernel⟩
theorem wd_94 : Cond.classLink RX3 30 RX1 ∈ m_gd := List.mem_filter.mpr ⟨List.mem_of_getElem? (i := 28) (by decide +kernel), by decide +kernel⟩
theorem wd_95 : Cond.instantiable RX1 3 ∈ m_gd := List.mem_filter.mpr ⟨List.mem_of_getElem? (i := 29) (by decide +kernel), by decide +kernel⟩
theorem wn_96 : Cond.methodLinkNest RX3 32 yX1_init "CardSheets" ∈ m_nest := List.mem_filter.mpr ⟨List.mem_of_getElem? (i := 30) (by decide +kernel), by decide +kernel⟩
theorem wd_97 : Cond.instanceMethod yX1_init ∈ m_gd := List.mem_filter.mpr ⟨List.mem_of_getElem? (i := 31) (by decide +kernel), by decide +kernel⟩
theorem wd_98 : Cond.code yX1_init cX1_init 1 none ∈ m_gd := List.mem_filter.mpr ⟨List.mem_of_getElem? (i := 32) (by decide +kernel), by decide +kernel⟩
theorem wd_99 : Cond.fieldLink RX3 33 RX3 (TX3 5).2.1 (TX3 5).2.2.1 ∈ m_gd := List.mem_filter.mpr ⟨List.mem_of_getElem? (i := 62) (by decide +kernel), by decide +kernel⟩
theorem wd_100 : Cond.fieldLink RX3 37 RX3 (TX3 6).2.1 (TX3 6).2.2.1 ∈ m_gd := List.mem_filter.mpr ⟨List.mem_of_getElem? (i := 64) (by decide +kernel), by decide +kernel⟩
theorem wd_101 : Cond.fieldLink RX3 41 RX3 (TX3 7).2.1 (TX3 7).2.2.1 ∈ m_gd := List.mem_filter.mpr ⟨List.mem_of_getElem? (i := 66) (by decide +kernel), by decide +kernel⟩
theorem wd_102 : Cond.fieldLink RX3 44 RX3 (TX3 8).2.1 (TX3 8).2.2.1 ∈ m_gd := List.mem_filter.mpr ⟨List.mem_of_getElem? (i := 68) (by decide +kernel), by decide +kernel⟩
theorem wd_103 : Cond.fieldLink RX3 47 RX3 (TX3 9).2.1 (TX3 9).2.2.1 ∈ m_gd := List.mem_filter.mpr ⟨List.mem_of_getElem? (i := 70) (by decide +kernel), by decide +kernel⟩
theorem wd_104 : Cond.fieldLink RX3 50 RX3 (TX3 10).2.1 (TX3 10).2.2.1 ∈ m_gd := List.mem_filter.mpr ⟨List.mem_of_getElem? (i := 72) (by decide +kernel), by decide +kernel⟩
theorem wn_105 : Cond.fieldLinkNest RX3 53 "CardSheets" "FIRST_OF_SETTING" "[I" "CardSheets" ∈ m_nest := List.mem_filter.mpr ⟨List.mem_of_getElem? (i := 48) (by decide +kernel), by decide +kernel⟩
theorem wn_106 : Cond.methodLinkNest RX3 56 yX5_at "CardSheets" ∈ m_nest := List.mem_filter.mpr ⟨List.mem_of_getElem? (i := 50) (by decide +kernel), by decide +kernel⟩
theorem wn_107 : Cond.methodLinkNest RX3 60 yX5_copyRow "CardSheets" ∈ m_nest := List.mem_filter.mpr ⟨List.mem_of_getElem? (i := 178) (by decide +kernel), by decide +kernel⟩
theorem wd_108 : Cond.methodLink RX3 64 yX1_copyFrom ∈ m_gd := List.mem_filter.mpr ⟨List.mem_of_getElem? (i := 187) (by decide +kernel), by decide +kernel⟩
theorem wd_109 : Cond.instanceMethod yX1_copyFrom ∈ m_gd := List.mem_filter.mpr ⟨List.mem_of_getElem? (i := 188) (by decide +kernel), by decide +kernel⟩
theorem wd_110 : Cond.selects RX1 yX1_copyFrom yX1_copyFrom ∈ m_gd := List.mem_filter.mpr ⟨List.mem_of_getElem? (i := 189) (by decide +kernel), by decide +kernel⟩
theorem wd_111 : Cond.code yX1_copyFrom cX1_copyFrom 2 none ∈ m_gd := List.mem_filter.mpr ⟨List.mem_of_getElem? (i := 190) (by decide +kernel), by decide +kernel⟩
theorem wn_112 : Cond.methodLinkNest RX3 68 yX5_put "CardSheets" ∈ m_nest := List.mem_filter.mpr ⟨List.mem_of_getElem? (i := 227) (by decide +kernel), by decide +kernel⟩
theorem wd_113 : Cond.methodLink RX3 72 yJ6_bitCount_0f7a4 ∈ m_gd := List.mem_filter.mpr ⟨List.mem_of_getElem? (i := 467) (by decide +kernel), by decide +kernel⟩
theorem wd_114 : Cond.static yJ6_bitCount_0f7a4 ∈ m_gd := List.mem_filter.mpr ⟨List.mem_of_getElem? (i := 468) (by decide +kernel), by decide +kernel⟩
theorem wd_115 : Cond.initialized "java/lang/Integer" ∈ m_gd := List.mem_filter.mpr ⟨List.mem_of_getElem? (i := 9) (by decide +kernel), by decide +kernel⟩
theorem wd_116 : Cond.code yJ6_bitCount_0f7a4 cJ6_bitCount_0f7a4 1 (some .int) ∈ m_gd := List.mem_filter.mpr ⟨List.mem_of_getElem? (i := 469) (by decide +kernel), by decide +kernel⟩
theorem wd_117 : Cond.instantiable RX2 3 ∈ m_gd := List.mem_filter.mpr ⟨List.mem_of_getElem? (i := 273) (by decide +kernel), by decide +kernel⟩
theorem wd_118 : Cond.methodLink RX3 78 yX2_init ∈ m_gd := List.mem_filter.mpr ⟨List.mem_of_getElem? (i := 274) (by decide +kernel), by decide +kernel⟩
theorem wd_119 : Cond.instanceMethod yX2_init ∈ m_gd := List.mem_filter.mpr ⟨List.mem_of_getElem? (i := 275) (by decide +kernel), by decide +kernel⟩
theorem wd_120 : Cond.code yX2_init cX2_init 7 none ∈ m_gd := List.mem_filter.mpr ⟨List.mem_of_getElem? (i := 276) (by decide +kernel), by decide +kernel⟩
theorem wd_121 : Cond.methodLink RX3 81 yX3_wear ∈ m_gd := List.mem_filter.mpr ⟨List.mem_of_getElem? (i := 294) (by decide +kernel), by decide +kernel⟩
theorem wd_122 : Cond.instanceMethod yX3_wear ∈ m_gd := List.mem_filter.mpr ⟨List.mem_of_getElem? (i := 296) (by decide +kernel), by decide +kernel⟩
theorem wd_123 : Cond.selects RX3 yX3_wear yX3_wear ∈ m_gd := List.mem_filter.mpr ⟨List.mem_of_getElem? (i := 1) (by decide +kernel), by decide +kernel⟩
theorem wd_124 : Cond.code yX3_wear cX3_wear 2 none ∈ m_gd := List.mem_filter.mpr ⟨List.mem_of_getElem? (i := 297) (by decide +kernel), by decide +kernel⟩
theorem wd_125 : Cond.methodLink RX3 84 yX3_setMark ∈ m_gd := List.mem_filter.mpr ⟨List.mem_of_getElem? (i := 298) (by decide +kernel), by decide +kernel⟩
theorem wd_126 : Cond.instanceMethod yX3_setMark ∈ m_gd := List.mem_filter.mpr ⟨List.mem_of_getElem? (i := 243) (by decide +kernel), by decide +kernel⟩
theorem wd_127 : Cond.selects RX3 yX3_setMark yX3_setMark ∈ m_gd := List.mem_filter.mpr ⟨List.mem_of_getElem? (i := 244) (by decide +kernel), by decide +kernel⟩
theorem wd_128 : Cond.code yX3_setMark cX3_setMark 5 none ∈ m_gd := List.mem_filter.mpr ⟨List.mem_of_getElem? (i := 245) (by decide +kernel), by decide +kernel⟩
theorem wd_129 : Cond.methodLink RX3 88 yX3_sheetAt ∈ m_gd := List.mem_filter.mpr ⟨List.mem_of_getElem? (i := 315) (by decide +kernel), by decide +kernel⟩
theorem wd_130 : Cond.instanceMethod yX3_sheetAt ∈ m_gd := List.mem_filter.mpr ⟨List.mem_of_getElem? (i := 308) (by decide +kernel), by decide +kernel⟩
theorem wd_131 : Cond.selects RX3 yX3_sheetAt yX3_sheetAt ∈ m_gd := List.mem_filter.mpr ⟨List.mem_of_getElem? (i := 309) (by decide +kernel), by decide +kernel⟩
theorem wd_132 : Cond.code yX3_sheetAt cX3_sheetAt 2 (some (.object "CardSheets$Sheet")) ∈ m_gd := List.mem_filter.mpr ⟨List.mem_of_getElem? (i := 310) (by decide +kernel), by decide +kernel⟩
theorem wd_133 : Cond.fieldLink RX3 92 RX1 (TX1 1).2.1 (TX1 1).2.2.1 ∈ m_gd := List.mem_filter.mpr ⟨List.mem_of_getElem? (i := 36) (by decide +kernel), by decide +kernel⟩
theorem wd_134 : Cond.fieldLink RX3 96 RX1 (TX1 2).2.1 (TX1 2).2.2.1 ∈ m_gd := List.mem_filter.mpr ⟨List.mem_of_getElem? (i := 39) (by decide +kernel), by decide +kernel⟩
theorem wd_135 : Cond.fieldLink RX3 99 RX2 (TX2 2).2.1 (TX2 2).2.2.1 ∈ m_gd := List.mem_filter.mpr ⟨List.mem_of_getElem? (i := 286) (by decide +kernel), by decide +kernel⟩
theorem wn_136 : Cond.methodLinkNest RX3 100 yX5_courtsBeyond "CardSheets" ∈ m_nest := List.mem_filter.mpr ⟨List.mem_of_getElem? (i := 376) (by decide +kernel), by decide +kernel⟩
theorem wd_137 : Cond.static yX5_courtsBeyond ∈ m_gd := List.mem_filter.mpr ⟨List.mem_of_getElem? (i := 377) (by decide +kernel), by decide +kernel⟩
theorem wd_138 : Cond.code yX5_courtsBeyond cX5_courtsBeyond 4 (some .int) ∈ m_gd := List.mem_filter.mpr ⟨List.mem_of_getElem? (i := 378) (by decide +kernel), by decide +kernel⟩
theorem wd_139 : Cond.methodLink RX3 103 yX1_known ∈ m_gd := List.mem_filter.mpr ⟨List.mem_of_getElem? (i := 382) (by decide +kernel), by decide +kernel⟩
theorem wd_140 : Cond.instanceMethod yX1_known ∈ m_gd := List.mem_filter.mpr ⟨List.mem_of_getElem? (i := 383) (by decide +kernel), by decide +kernel⟩
theorem wd_141 : Cond.selects RX1 yX1_known yX1_known ∈ m_gd := List.mem_filter.mpr ⟨List.mem_of_getElem? (i := 384) (by decide +kernel), by decide +kernel⟩
theorem wd_142 : Cond.code yX1_known cX1_known 4 (some .int) ∈ m_gd := List.mem_filter.mpr ⟨List.mem_of_getElem? (i := 385) (by decide +kernel), by decide +kernel⟩
theorem wd_143 : Cond.methodLink RX4 3 Lib.objectInit ∈ m_gd := List.mem_filter.mpr ⟨List.mem_of_getElem? (i := 122) (by decide +kernel), by decide +kernel⟩
theorem wd_144 : Cond.arrayClass .char ∈ m_gd := List.mem_filter.mpr ⟨List.mem_of_getElem? (i := 146) (by decide +kernel), by decide +kernel⟩
theorem wd_145 : Cond.fieldLink RX4 9 RX4 (TX4 0).2.1 (TX4 0).2.2.1 ∈ m_gd := List.mem_filter.mpr ⟨List.mem_of_getElem? (i := 123) (by decide +kernel), by decide +kernel⟩
theorem wd_146 : Cond.fieldLink RX4 15 RX4 (TX4 1).2.1 (TX4 1).2.2.1 ∈ m_gd := List.mem_filter.mpr ⟨List.mem_of_getElem? (i := 124) (by decide +kernel), by decide +kernel⟩
theorem wd_147 : Cond.fieldLink RX4 19 RX4 (TX4 2).2.1 (TX4 2).2.2.1 ∈ m_gd := List.mem_filter.mpr ⟨List.mem_of_getElem? (i := 126) (by decide +kernel), by decide +kernel⟩
theorem wd_148 : Cond.fieldLink RX4 22 RX4 (TX4 3).2.1 (TX4 3).2.2.1 ∈ m_gd := List.mem_filter.mpr ⟨List.mem_of_getElem? (i := 127) (by decide +kernel), by decide +kernel⟩
theorem wd_149 : Cond.fieldLink RX4 25 RX4 (TX4 4).2.1 (TX4 4).2.2.1 ∈ m_gd := List.mem_filter.mpr ⟨List.mem_of_getElem? (i := 128) (by decide +kernel), by decide +kernel⟩
theorem wd_150 : Cond.fieldLink RX4 29 RX4 (TX4 5).2.1 (TX4 5).2.2.1 ∈ m_gd := List.mem_filter.mpr ⟨List.mem_of_getElem? (i := 129) (by decide +kernel), by decide +kernel⟩
theorem wd_151 : Cond.fieldLink RX4 32 RX4 (TX4 6).2.1 (TX4 6).2.2.1 ∈ m_gd := List.mem_filter.mpr ⟨List.mem_of_getElem? (i := 130) (by decide +kernel), by decide +kernel⟩
theorem wd_152 : Cond.methodLink RX5 1 Lib.objectInit ∈ m_gd := List.mem_filter.mpr ⟨List.mem_of_getElem? (i := 17) (by decide +kernel), by decide +kernel⟩
theorem wd_153 : Cond.classLink RX5 7 RX3 ∈ m_gd := List.mem_filter.mpr ⟨List.mem_of_getElem? (i := 20) (by decide +kernel), by decide +kernel⟩
theorem wd_154 : Cond.methodLink RX5 9 yX3_init ∈ m_gd := List.mem_filter.mpr ⟨List.mem_of_getElem? (i := 22) (by decide +kernel), by decide +kernel⟩
theorem wd_155 : Cond.fieldLink RX5 10 RX5 (TX5 0).2.1 (TX5 0).2.2.1 ∈ m_gd := List.mem_filter.mpr ⟨List.mem_of_getElem? (i := 147) (by decide +kernel), by decide +kernel⟩
theorem wd_156 : Cond.fieldLink RX5 16 RX5 (TX5 1).2.1 (TX5 1).2.2.1 ∈ m_gd := List.mem_filter.mpr ⟨List.mem_of_getElem? (i := 148) (by decide +kernel), by decide +kernel⟩
theorem wd_157 : Cond.classLink RX5 19 RX0 ∈ m_gd := List.mem_filter.mpr ⟨List.mem_of_getElem? (i := 97) (by decide +kernel), by decide +kernel⟩
theorem wd_158 : Cond.instantiable RX0 3 ∈ m_gd := List.mem_filter.mpr ⟨List.mem_of_getElem? (i := 98) (by decide +kernel), by decide +kernel⟩
theorem wd_159 : Cond.methodLink RX5 21 yX0_init ∈ m_gd := List.mem_filter.mpr ⟨List.mem_of_getElem? (i := 99) (by decide +kernel), by decide +kernel⟩
theorem wd_160 : Cond.instanceMethod yX0_init ∈ m_gd := List.mem_filter.mpr ⟨List.mem_of_getElem? (i := 100) (by decide +kernel), by decide +kernel⟩
theorem wd_161 : Cond.code yX0_init cX0_init 2 none ∈ m_gd := List.mem_filter.mpr ⟨List.mem_of_getElem? (i := 101) (by decide +kernel), by decide +kernel⟩
theorem wd_162 : Cond.fieldLink RX5 22 RX5 (TX5 2).2.1 (TX5 2).2.2.1 ∈ m_gd := List.mem_filter.mpr ⟨List.mem_of_getElem? (i := 149) (by decide +kernel), by decide +kernel⟩
theorem wd_163 : Cond.classLink RX5 26 RX4 ∈ m_gd := List.mem_filter.mpr ⟨List.mem_of_getElem? (i := 117) (by decide +kernel), by decide +kernel⟩
theorem wd_164 : Cond.instantiable RX4 7 ∈ m_gd := List.mem_filter.mpr ⟨List.mem_of_getElem? (i := 118) (by decide +kernel), by decide +kernel⟩
theorem wd_165 : Cond.initialized RX4 ∈ m_gd := List.mem_filter.mpr ⟨List.mem_of_getElem? (i := 7) (by decide +kernel), by decide +kernel⟩
theorem wn_166 : Cond.methodLinkNest RX5 28 yX4_init "CardSheets" ∈ m_nest := List.mem_filter.mpr ⟨List.mem_of_getElem? (i := 119) (by decide +kernel), by decide +kernel⟩
theorem wd_167 : Cond.instanceMethod yX4_init ∈ m_gd := List.mem_filter.mpr ⟨List.mem_of_getElem? (i := 120) (by decide +kernel), by decide +kernel⟩
theorem wd_168 : Cond.code yX4_init cX4_init 1 none ∈ m_gd := List.mem_filter.mpr ⟨List.mem_of_getElem? (i := 121) (by decide +kernel), by decide +kernel⟩
theorem wd_169 : Cond.fieldLink RX5 29 RX5 (TX5 3).2.1 (TX5 3).2.2.1 ∈ m_gd := List.mem_filter.mpr ⟨List.mem_of_getElem? (i := 150) (by decide +kernel), by decide +kernel⟩
theorem wd_170 : Cond.fieldLink RX5 33 RX5 (TX5 4).2.1 (TX5 4).2.2.1 ∈ m_gd := List.mem_filter.mpr ⟨List.mem_of_getElem? (i := 151) (by decide +kernel), by decide +kernel⟩
theorem wd_171 : Cond.fieldLink RX5 37 RX5 (TX5 5).2.1 (TX5 5).2.2.1 ∈ m_gd := List.mem_filter.mpr ⟨List.mem_of_getElem? (i := 152) (by decide +kernel), by decide +kernel⟩
theorem wd_172 : Cond.methodLink RX5 41 yX5_isCell ∈ m_gd := List.mem_filter.mpr ⟨List.mem_of_getElem? (i := 211) (by decide +kernel), by decide +kernel⟩
theorem wd_173 : Cond.static yX5_isCell ∈ m_gd := List.mem_filter.mpr ⟨List.mem_of_getElem? (i := 212) (by decide +kernel), by decide +kernel⟩
theorem wd_174 : Cond.code yX5_isCell cX5_isCell 1 (some .boolean) ∈ m_gd := List.mem_filter.mpr ⟨List.mem_of_getElem? (i := 213) (by decide +kernel), by decide +kernel⟩
theorem wd_175 : Cond.methodLink RX5 45 yX0_record ∈ m_gd := List.mem_filter.mpr ⟨List.mem_of_getElem? (i := 214) (by decide +kernel), by decide +kernel⟩
theorem wd_176 : Cond.instanceMethod yX0_record ∈ m_gd := List.mem_filter.mpr ⟨List.mem_of_getElem? (i := 215) (by decide +kernel), by decide +kernel⟩
theorem wd_177 : Cond.selects RX0 yX0_record yX0_record ∈ m_gd := List.mem_filter.mpr ⟨List.mem_of_getElem? (i := 216) (by decide +kernel), by decide +kernel⟩
theorem wd_178 : Cond.code yX0_record cX0_record 2 none ∈ m_gd := List.mem_filter.mpr ⟨List.mem_of_getElem? (i := 217) (by decide +kernel), by decide +kernel⟩
theorem wd_179 : Cond.methodLink RX5 49 yX3_exchange ∈ m_gd := List.mem_filter.mpr ⟨List.mem_of_getElem? (i := 223) (by decide +kernel), by decide +kernel⟩
theorem wd_180 : Cond.instanceMethod yX3_exchange ∈ m_gd := List.mem_filter.mpr ⟨List.mem_of_getElem? (i := 224) (by decide +kernel), by decide +kernel⟩
theorem wd_181 : Cond.selects RX3 yX3_exchange yX3_exchange ∈ m_gd := List.mem_filter.mpr ⟨List.mem_of_getElem? (i := 225) (by decide +kernel), by decide +kernel⟩
theorem wd_182 : Cond.code yX3_exchange cX3_exchange 4 none ∈ m_gd := List.mem_filter.mpr ⟨List.mem_of_getElem? (i := 226) (by decide +kernel), by decide +kernel⟩
theorem wd_183 : Cond.fieldLink RX5 53 RX3 (TX3 0).2.1 (TX3 0).2.2.1 ∈ m_gd := List.mem_filter.mpr ⟨List.mem_of_getElem? (i := 54) (by decide +kernel), by decide +kernel⟩
theorem wd_184 : Cond.methodLink RX5 56 yX5_at ∈ m_gd := List.mem_filter.mpr ⟨List.mem_of_getElem? (i := 230) (by decide +kernel), by decide +kernel⟩
theorem wd_185 : Cond.methodLink RX5 60 yX5_isMark ∈ m_gd := List.mem_filter.mpr ⟨List.mem_of_getElem? (i := 235) (by decide +kernel), by decide +kernel⟩
theorem wd_186 : Cond.static yX5_isMark ∈ m_gd := List.mem_filter.mpr ⟨List.mem_of_getElem? (i := 236) (by decide +kernel), by decide +kernel⟩
theorem wd_187 : Cond.code yX5_isMark cX5_isMark 1 (some .boolean) ∈ m_gd := List.mem_filter.mpr ⟨List.mem_of_getElem? (i := 237) (by decide +kernel), by decide +kernel⟩
theorem wd_188 : Cond.methodLink RX5 63 yX3_hasMark ∈ m_gd := List.mem_filter.mpr ⟨List.mem_of_getElem? (i := 238) (by decide +kernel), by decide +kernel⟩
theorem wd_189 : Cond.instanceMethod yX3_hasMark ∈ m_gd := List.mem_filter.mpr ⟨List.mem_of_getElem? (i := 239) (by decide +kernel), by decide +kernel⟩
theorem wd_190 : Cond.selects RX3 yX3_hasMark yX3_hasMark ∈ m_gd := List.mem_filter.mpr ⟨List.mem_of_getElem? (i := 240) (by decide +kernel), by decide +kernel⟩
theorem wd_191 : Cond.code yX3_hasMark cX3_hasMark 3 (some .boolean) ∈ m_gd := List.mem_filter.mpr ⟨List.mem_of_getElem? (i := 241) (by decide +kernel), by decide +kernel⟩
theorem wd_192 : Cond.methodLink RX5 67 yX3_setMark ∈ m_gd := List.mem_filter.mpr ⟨List.mem_of_getElem? (i := 242) (by decide +kernel), by decide +kernel⟩
theorem wd_193 : Cond.fieldLink RX5 71 RX3 (TX3 2).2.1 (TX3 2).2.2.1 ∈ m_gd := List.mem_filter.mpr ⟨List.mem_of_getElem? (i := 58) (by decide +kernel), by decide +kernel⟩
theorem wd_194 : Cond.methodLink RX5 74 yX5_isCard ∈ m_gd := List.mem_filter.mpr ⟨List.mem_of_getElem? (i := 250) (by decide +kernel), by decide +kernel⟩
theorem wd_195 : Cond.methodLink RX5 77 yX5_isCourt ∈ m_gd := List.mem_filter.mpr ⟨List.mem_of_getElem? (i := 253) (by decide +kernel), by decide +kernel⟩
theorem wd_196 : Cond.static yX5_isCourt ∈ m_gd := List.mem_filter.mpr ⟨List.mem_of_getElem? (i := 254) (by decide +kernel), by decide +kernel⟩
theorem wd_197 : Cond.code yX5_isCourt cX5_isCourt 1 (some .boolean) ∈ m_gd := List.mem_filter.mpr ⟨List.mem_of_getElem? (i := 255) (by decide +kernel), by decide +kernel⟩
theorem wd_198 : Cond.fieldLink RX5 80 RX3 (TX3 1).2.1 (TX3 1).2.2.1 ∈ m_gd := List.mem_filter.mpr ⟨List.mem_of_getElem? (i := 56) (by decide +kernel), by decide +kernel⟩
theorem wd_199 : Cond.methodLink RX5 83 yX5_put ∈ m_gd := List.mem_filter.mpr ⟨List.mem_of_getElem? (i := 256) (by decide +kernel), by decide +kernel⟩
theorem wd_200 : Cond.fieldLink RX5 113 "CardSheets" "LEAST_OF_SETTING" "[I" ∈ m_gd := List.mem_filter.mpr ⟨List.mem_of_getElem? (i := 261) (by decide +kernel), by decide +kernel⟩
theorem wd_201 : Cond.fieldLink RX5 116 "CardSheets" "MOST_OF_SETTING" "[I" ∈ m_gd := List.mem_filter.mpr ⟨List.mem_of_getElem? (i := 263) (by decide +kernel), by decide +kernel⟩
theorem wd_202 : Cond.fieldLink RX5 119 RX3 (TX3 3).2.1 (TX3 3).2.2.1 ∈ m_gd := List.mem_filter.mpr ⟨List.mem_of_getElem? (i := 60) (by decide +kernel), by decide +kernel⟩
theorem wd_203 : Cond.fieldLink RX5 122 RX3 (TX3 6).2.1 (TX3 6).2.2.1 ∈ m_gd := List.mem_filter.mpr ⟨List.mem_of_getElem? (i := 65) (by decide +kernel), by decide +kernel⟩
theorem wd_204 : Cond.methodLink RX5 125 yX3_printSheet ∈ m_gd := List.mem_filter.mpr ⟨List.mem_of_getElem? (i := 269) (by decide +kernel), by decide +kernel⟩
theorem wd_205 : Cond.instanceMethod yX3_printSheet ∈ m_gd := List.mem_filter.mpr ⟨List.mem_of_getElem? (i := 270) (by decide +kernel), by decide +kernel⟩
theorem wd_206 : Cond.selects RX3 yX3_printSheet yX3_printSheet ∈ m_gd := List.mem_filter.mpr ⟨List.mem_of_getElem? (i := 271) (by decide +kernel), by decide +kernel⟩
theorem wd_207 : Cond.code yX3_printSheet cX3_printSheet 2 none ∈ m_gd := List.mem_filter.mpr ⟨List.mem_of_getElem? (i := 272) (by decide +kernel), by decide +kernel⟩
theorem wd_208 : Cond.fieldLink RX5 129 RX3 (TX3 5).2.1 (TX3 5).2.2.1 ∈ m_gd := List.mem_filter.mpr ⟨List.mem_of_getElem? (i := 63) (by decide +kernel), by decide +kernel⟩
theorem wd_209 : Cond.methodLink RX5 133 yX1_isThere ∈ m_gd := List.mem_filter.mpr ⟨List.mem_of_getElem? (i := 303) (by decide +kernel), by decide +kernel⟩
theorem wd_210 : Cond.instanceMethod yX1_isThere ∈ m_gd := List.mem_filter.mpr ⟨List.mem_of_getElem? (i := 304) (by decide +kernel), by decide +kernel⟩
theorem wd_211 : Cond.selects RX1 yX1_isThere yX1_isThere ∈ m_gd := List.mem_filter.mpr ⟨List.mem_of_getElem? (i := 305) (by decide +kernel), by decide +kernel⟩
theorem wd_212 : Cond.code yX1_isThere cX1_isThere 1 (some .boolean) ∈ m_gd := List.mem_filter.mpr ⟨List.mem_of_getElem? (i := 306) (by decide +kernel), by decide +kernel⟩
theorem wd_213 : Cond.methodLink RX5 138 yX3_sheetAt ∈ m_gd := List.mem_filter.mpr ⟨List.mem_of_getElem? (i := 307) (by decide +kernel), by decide +kernel⟩
theorem wd_214 : Cond.methodLink RX5 142 yX3_takeTopSheet ∈ m_gd := List.mem_filter.mpr ⟨List.mem_of_getElem? (i := 311) (by decide +kernel), by decide +kernel⟩
theorem wd_215 : Cond.instanceMethod yX3_takeTopSheet ∈ m_gd := List.mem_filter.mpr ⟨List.mem_of_getElem? (i := 312) (by decide +kernel), by decide +kernel⟩
theorem wd_216 : Cond.selects RX3 yX3_takeTopSheet yX3_takeTopSheet ∈ m_gd := List.mem_filter.mpr ⟨List.mem_of_getElem? (i := 313) (by decide +kernel), by decide +kernel⟩
theorem wd_217 : Cond.code yX3_takeTopSheet cX3_takeTopSheet 2 (some (.object "CardSheets$Sheet")) ∈ m_gd := List.mem_filter.mpr ⟨List.mem_of_getElem? (i := 314) (by decide +kernel), by decide +kernel⟩
theorem wd_218 : Cond.methodLink RX5 146 yX1_layDown ∈ m_gd := List.mem_filter.mpr ⟨List.mem_of_getElem? (i := 316) (by decide +kernel), by decide +kernel⟩
theorem wd_219 : Cond.instanceMethod yX1_layDown ∈ m_gd := List.mem_filter.mpr ⟨List.mem_of_getElem? (i := 317) (by decide +kernel), by decide +kernel⟩
theorem wd_220 : Cond.selects RX1 yX1_layDown yX1_layDown ∈ m_gd := List.mem_filter.mpr ⟨List.mem_of_getElem? (i := 318) (by decide +kernel), by decide +kernel⟩
theorem wd_221 : Cond.code yX1_layDown cX1_layDown 4 none ∈ m_gd := List.mem_filter.mpr ⟨List.mem_of_getElem? (i := 319) (by decide +kernel), by decide +kernel⟩
theorem wd_222 : Cond.methodLink RX5 150 yX1_hasPartsAt ∈ m_gd := List.mem_filter.mpr ⟨List.mem_of_getElem? (i := 334) (by decide +kernel), by decide +kernel⟩
theorem wd_223 : Cond.instanceMethod yX1_hasPartsAt ∈ m_gd := List.mem_filter.mpr ⟨List.mem_of_getElem? (i := 335) (by decide +kernel), by decide +kernel⟩
theorem wd_224 : Cond.selects RX1 yX1_hasPartsAt yX1_hasPartsAt ∈ m_gd := List.mem_filter.mpr ⟨List.mem_of_getElem? (i := 336) (by decide +kernel), by decide +kernel⟩
theorem wd_225 : Cond.code yX1_hasPartsAt cX1_hasPartsAt 2 (some .boolean) ∈ m_gd := List.mem_filter.mpr ⟨List.mem_of_getElem? (i := 337) (by decide +kernel), by decide +kernel⟩
theorem wd_226 : Cond.methodLink RX5 153 yX1_cutAt ∈ m_gd := List.mem_filter.mpr ⟨List.mem_of_getElem? (i := 342) (by decide +kernel), by decide +kernel⟩
theorem wd_227 : Cond.instanceMethod yX1_cutAt ∈ m_gd := List.mem_filter.mpr ⟨List.mem_of_getElem? (i := 343) (by decide +kernel), by decide +kernel⟩
theorem wd_228 : Cond.selects RX1 yX1_cutAt yX1_cutAt ∈ m_gd := List.mem_filter.mpr ⟨List.mem_of_getElem? (i := 344) (by decide +kernel), by decide +kernel⟩
theorem wd_229 : Cond.code yX1_cutAt cX1_cutAt 6 none ∈ m_gd := List.mem_filter.mpr ⟨List.mem_of_getElem? (i := 345) (by decide +kernel), by decide +kernel⟩
theorem wd_230 : Cond.methodLink RX5 157 yX1_cardAt ∈ m_gd := List.mem_filter.mpr ⟨List.mem_of_getElem? (i := 348) (by decide +kernel), by decide +kernel⟩
theorem wd_231 : Cond.methodLink RX5 161 yX1_shuffleAt ∈ m_gd := List.mem_filter.mpr ⟨List.mem_of_getElem? (i := 356) (by decide +kernel), by decide +kernel⟩
theorem wd_232 : Cond.instanceMethod yX1_shuffleAt ∈ m_gd := List.mem_filter.mpr ⟨List.mem_of_getElem? (i := 357) (by decide +kernel), by decide +kernel⟩
theorem wd_233 : Cond.selects RX1 yX1_shuffleAt yX1_shuffleAt ∈ m_gd := List.mem_filter.mpr ⟨List.mem_of_getElem? (i := 358) (by decide +kernel), by decide +kernel⟩
theorem wd_234 : Cond.code yX1_shuffleAt cX1_shuffleAt 7 (some .int) ∈ m_gd := List.mem_filter.mpr ⟨List.mem_of_getElem? (i := 359) (by decide +kernel), by decide +kernel⟩
theorem wd_235 : Cond.methodLink RX5 165 yX1_left ∈ m_gd := List.mem_filter.mpr ⟨List.mem_of_getElem? (i := 367) (by decide +kernel), by decide +kernel⟩
theorem wd_236 : Cond.fieldLink RX5 168 RX1 (TX1 2).2.1 (TX1 2).2.2.1 ∈ m_gd := List.mem_filter.mpr ⟨List.mem_of_getElem? (i := 38) (by decide +kernel), by decide +kernel⟩
theorem wd_237 : Cond.methodLink RX5 171 yX3_reasonAgainstSale ∈ m_gd := List.mem_filter.mpr ⟨List.mem_of_getElem? (i := 372) (by decide +kernel), by decide +kernel⟩
theorem wd_238 : Cond.instanceMethod yX3_reasonAgainstSale ∈ m_gd := List.mem_filter.mpr ⟨List.mem_of_getElem? (i := 373) (by decide +kernel), by decide +kernel⟩
theorem wd_239 : Cond.selects RX3 yX3_reasonAgainstSale yX3_reasonAgainstSale ∈ m_gd := List.mem_filter.mpr ⟨List.mem_of_getElem? (i := 374) (by decide +kernel), by decide +kernel⟩
theorem wd_240 : Cond.code yX3_reasonAgainstSale cX3_reasonAgainstSale 2 (some .int) ∈ m_gd := List.mem_filter.mpr ⟨List.mem_of_getElem? (i := 375) (by decide +kernel), by decide +kernel⟩
theorem wd_241 : Cond.fieldLink RX5 174 RX3 (TX3 10).2.1 (TX3 10).2.2.1 ∈ m_gd := List.mem_filter.mpr ⟨List.mem_of_getElem? (i := 73) (by decide +kernel), by decide +kernel⟩
theorem wd_242 : Cond.fieldLink RX5 177 RX3 (TX3 8).2.1 (TX3 8).2.2.1 ∈ m_gd := List.mem_filter.mpr ⟨List.mem_of_getElem? (i := 69) (by decide +kernel), by decide +kernel⟩
theorem wd_243 : Cond.methodLink RX5 180 yX1_takeAway ∈ m_gd := List.mem_filter.mpr ⟨List.mem_of_getElem? (i := 399) (by decide +kernel), by decide +kernel⟩
theorem wd_244 : Cond.instanceMethod yX1_takeAway ∈ m_gd := List.mem_filter.mpr ⟨List.mem_of_getElem? (i := 400) (by decide +kernel), by decide +kernel⟩
theorem wd_245 : Cond.selects RX1 yX1_takeAway yX1_takeAway ∈ m_gd := List.mem_filter.mpr ⟨List.mem_of_getElem? (i := 401) (by decide +kernel), by decide +kernel⟩
theorem wd_246 : Cond.code yX1_takeAway cX1_takeAway 1 none ∈ m_gd := List.mem_filter.mpr ⟨List.mem_of_getElem? (i := 402) (by decide +kernel), by decide +kernel⟩
theorem wd_247 : Cond.fieldLink RX5 183 RX3 (TX3 9).2.1 (TX3 9).2.2.1 ∈ m_gd := List.mem_filter.mpr ⟨List.mem_of_getElem? (i := 71) (by decide +kernel), by decide +kernel⟩
theorem wd_248 : Cond.fieldLink RX5 193 RX0 (TX0 2).2.1 (TX0 2).2.2.1 ∈ m_gd := List.mem_filter.mpr ⟨List.mem_of_getElem? (i := 109) (by decide +kernel), by decide +kernel⟩
theorem wd_249 : Cond.methodLink RX5 196 yX0_takeLatestInto ∈ m_gd := List.mem_filter.mpr ⟨List.mem_of_getElem? (i := 170) (by decide +kernel), by decide +kernel⟩
theorem wd_250 : Cond.instanceMethod yX0_takeLatestInto ∈ m_gd := List.mem_filter.mpr ⟨List.mem_of_getElem? (i := 171) (by decide +kernel), by decide +kernel⟩
theorem wd_251 : Cond.selects RX0 yX0_takeLatestInto yX0_takeLatestInto ∈ m_gd := List.mem_filter.mpr ⟨List.mem_of_getElem? (i := 172) (by decide +kernel), by decide +kernel⟩
theorem wd_252 : Cond.code yX0_takeLatestInto cX0_takeLatestInto 2 none ∈ m_gd := List.mem_filter.mpr ⟨List.mem_of_getElem? (i := 173) (by decide +kernel), by decide +kernel⟩
theorem wd_253 : Cond.methodLink RX5 205 yX3_cellOf ∈ m_gd := List.mem_filter.mpr ⟨List.mem_of_getElem? (i := 494) (by decide +kernel), by decide +kernel⟩
theorem wd_254 : Cond.instanceMethod yX3_cellOf ∈ m_gd := List.mem_filter.mpr ⟨List.mem_of_getElem? (i := 495) (by decide +kernel), by decide +kernel⟩
theorem wd_255 : Cond.selects RX3 yX3_cellOf yX3_cellOf ∈ m_gd := List.mem_filter.mpr ⟨List.mem_of_getElem? (i := 496) (by decide +kernel), by decide +kernel⟩
theorem wd_256 : Cond.code yX3_cellOf cX3_cellOf 3 (some .int) ∈ m_gd := List.mem_filter.mpr ⟨List.mem_of_getElem? (i := 497) (by decide +kernel), by decide +kernel⟩
theorem wd_257 : Cond.methodLink RX5 208 yX1_placeOf ∈ m_gd := List.mem_filter.mpr ⟨List.mem_of_getElem? (i := 498) (by decide +kernel), by decide +kernel⟩
theorem wd_258 : Cond.instanceMethod yX1_placeOf ∈ m_gd := List.mem_filter.mpr ⟨List.mem_of_getElem? (i := 499) (by decide +kernel), by decide +kernel⟩
theorem wd_259 : Cond.selects RX1 yX1_placeOf yX1_placeOf ∈ m_gd := List.mem_filter.mpr ⟨List.mem_of_getElem? (i := 500) (by decide +kernel), by decide +kernel⟩
theorem wd_260 : Cond.code yX1_placeOf cX1_placeOf 4 (some .int) ∈ m_gd := List.mem_filter.mpr ⟨List.mem_of_getElem? (i := 501) (by decide +kernel), by decide +kernel⟩
theorem wd_261 : Cond.methodLink RX5 211 yX1_marksOf ∈ m_gd := List.mem_filter.mpr ⟨List.mem_of_getElem? (i := 502) (by decide +kernel), by decide +kernel⟩
theorem wd_262 : Cond.fieldLink RX5 214 RX2 (TX2 0).2.1 (TX2 0).2.2.1 ∈ m_gd := List.mem_filter.mpr ⟨List.mem_of_getElem? (i := 281) (by decide +kernel), by decide +kernel⟩
theorem wd_263 : Cond.fieldLink RX5 217 RX2 (TX2 1).2.1 (TX2 1).2.2.1 ∈ m_gd := List.mem_filter.mpr ⟨List.mem_of_getElem? (i := 284) (by decide +kernel), by decide +kernel⟩
theorem wd_264 : Cond.methodLink RX5 220 yX1_marksAt ∈ m_gd := List.mem_filter.mpr ⟨List.mem_of_getElem? (i := 533) (by decide +kernel), by decide +kernel⟩
theorem wd_265 : Cond.methodLink RX5 223 yX1_canBeAt ∈ m_gd := List.mem_filter.mpr ⟨List.mem_of_getElem? (i := 534) (by decide +kernel), by decide +kernel⟩
theorem wd_266 : Cond.methodLink RX5 226 yX1_guessAt ∈ m_gd := List.mem_filter.mpr ⟨List.mem_of_getElem? (i := 535) (by decide +kernel), by decide +kernel⟩
theorem wd_267 : Cond.fieldLink RX5 202 RX3 (TX3 7).2.1 (TX3 7).2.2.1 ∈ m_gd := List.mem_filter.mpr ⟨List.mem_of_getElem? (i := 67) (by decide +kernel), by decide +kernel⟩
theorem wd_268 : Cond.methodLink RX5 229 yX1_known ∈ m_gd := List.mem_filter.mpr ⟨List.mem_of_getElem? (i := 453) (by decide +kernel), by decide +kernel⟩
theorem wd_269 : Cond.methodLink RX5 232 yX1_guessedRight ∈ m_gd := List.mem_filter.mpr ⟨List.mem_of_getElem? (i := 454) (by decide +kernel), by decide +kernel⟩
theorem wd_270 : Cond.instanceMethod yX1_guessedRight ∈ m_gd := List.mem_filter.mpr ⟨List.mem_of_getElem? (i := 455) (by decide +kernel), by decide +kernel⟩
theorem wd_271 : Cond.selects RX1 yX1_guessedRight yX1_guessedRight ∈ m_gd := List.mem_filter.mpr ⟨List.mem_of_getElem? (i := 456) (by decide +kernel), by decide +kernel⟩
theorem wd_272 : Cond.code yX1_guessedRight cX1_guessedRight 4 (some .int) ∈ m_gd := List.mem_filter.mpr ⟨List.mem_of_getElem? (i := 457) (by decide +kernel), by decide +kernel⟩
theorem wd_273 : Cond.methodLink RX5 235 yX3_marksOnBacks ∈ m_gd := List.mem_filter.mpr ⟨List.mem_of_getElem? (i := 463) (by decide +kernel), by decide +kernel⟩
theorem wd_274 : Cond.instanceMethod yX3_marksOnBacks ∈ m_gd := List.mem_filter.mpr ⟨List.mem_of_getElem? (i := 464) (by decide +kernel), by decide +kernel⟩
theorem wd_275 : Cond.selects RX3 yX3_marksOnBacks yX3_marksOnBacks ∈ m_gd := List.mem_filter.mpr ⟨List.mem_of_getElem? (i := 465) (by decide +kernel), by decide +kernel⟩
theorem wd_276 : Cond.code yX3_marksOnBacks cX3_marksOnBacks 3 (some .int) ∈ m_gd := List.mem_filter.mpr ⟨List.mem_of_getElem? (i := 466) (by decide +kernel), by decide +kernel⟩
theorem wd_277 : Cond.methodLink RX5 238 yX5_courtsBeyond ∈ m_gd := List.mem_filter.mpr ⟨List.mem_of_getElem? (i := 473) (by decide +kernel), by decide +kernel⟩
theorem wd_278 : Cond.fieldLink RX5 186 RX4 (TX4 1).2.1 (TX4 1).2.2.1 ∈ m_gd := List.mem_filter.mpr ⟨List.mem_of_getElem? (i := 125) (by decide +kernel), by decide +kernel⟩
theorem wd_279 : Cond.methodLink RX5 241 yX1_sumOfChances ∈ m_gd := List.mem_filter.mpr ⟨List.mem_of_getElem? (i := 523) (by decide +kernel), by decide +kernel⟩
theorem wd_280 : Cond.instanceMethod yX1_sumOfChances ∈ m_gd := List.mem_filter.mpr ⟨List.mem_of_getElem? (i := 524) (by decide +kernel), by decide +kernel⟩
theorem wd_281 : Cond.selects RX1 yX1_sumOfChances yX1_sumOfChances ∈ m_gd := List.mem_filter.mpr ⟨List.mem_of_getElem? (i := 525) (by decide +kernel), by decide +kernel⟩
theorem wd_282 : Cond.code yX1_sumOfChances cX1_sumOfChances 5 (some .float) ∈ m_gd := List.mem_filter.mpr ⟨List.mem_of_getElem? (i := 526) (by decide +kernel), by decide +kernel⟩
theorem wd_283 : Cond.constantFloat RX5 245 3212836864 ∈ m_gd := List.mem_filter.mpr ⟨List.mem_of_getElem? (i := 527) (by decide +kernel), by decide +kernel⟩
theorem wd_284 : Cond.methodLink RX5 246 yX3_knownIfPrinted ∈ m_gd := List.mem_filter.mpr ⟨List.mem_of_getElem? (i := 482) (by decide +kernel), by decide +kernel⟩
theorem wd_285 : Cond.instanceMethod yX3_knownIfPrinted ∈ m_gd := List.mem_filter.mpr ⟨List.mem_of_getElem? (i := 483) (by decide +kernel), by decide +kernel⟩
theorem wd_286 : Cond.selects RX3 yX3_knownIfPrinted yX3_knownIfPrinted ∈ m_gd := List.mem_filter.mpr ⟨List.mem_of_getElem? (i := 484) (by decide +kernel), by decide +kernel⟩
theorem wd_287 : Cond.code yX3_knownIfPrinted cX3_knownIfPrinted 8 (some .int) ∈ m_gd := List.mem_filter.mpr ⟨List.mem_of_getElem? (i := 485) (by decide +kernel), by decide +kernel⟩
theorem wd_288 : Cond.methodLink RX5 250 yX2_cardsAtHome ∈ m_gd := List.mem_filter.mpr ⟨List.mem_of_getElem? (i := 511) (by decide +kernel), by decide +kernel⟩
theorem wd_289 : Cond.instanceMethod yX2_cardsAtHome ∈ m_gd := List.mem_filter.mpr ⟨List.mem_of_getElem? (i := 512) (by decide +kernel), by decide +kernel⟩
theorem wd_290 : Cond.selects RX2 yX2_cardsAtHome yX2_cardsAtHome ∈ m_gd := List.mem_filter.mpr ⟨List.mem_of_getElem? (i := 513) (by decide +kernel), by decide +kernel⟩
theorem wd_291 : Cond.code yX2_cardsAtHome cX2_cardsAtHome 4 (some .int) ∈ m_gd := List.mem_filter.mpr ⟨List.mem_of_getElem? (i := 514) (by decide +kernel), by decide +kernel⟩
theorem wd_292 : Cond.methodLink RX5 257 Lib.Math.min.name ∈ m_gd := List.mem_filter.mpr ⟨List.mem_of_getElem? (i := 181) (by decide +kernel), by decide +kernel⟩
theorem wd_293 : Cond.methodLink RX5 262 arraycopyName ∈ m_gd := List.mem_filter.mpr ⟨List.mem_of_getElem? (i := 184) (by decide +kernel), by decide +kernel⟩
theorem wd_294 : Cond.native arraycopyName ∈ m_gd := List.mem_filter.mpr ⟨List.mem_of_getElem? (i := 186) (by decide +kernel), by decide +kernel⟩
theorem wd_295 : Cond.static arraycopyName ∈ m_gd := List.mem_filter.mpr ⟨List.mem_of_getElem? (i := 185) (by decide +kernel), by decide +kernel⟩
theorem wd_296 : Cond.initialized "java/lang/System" ∈ m_gd := List.mem_filter.mpr ⟨List.mem_of_getElem? (i := 10) (by decide +kernel), by decide +kernel⟩
theorem wd_297 : Cond.methodLink RX5 268 Lib.Math.abs.name ∈ m_gd := List.mem_filter.mpr ⟨List.mem_of_getElem? (i := 379) (by decide +kernel), by decide +kernel⟩
theorem wd_298 : Cond.static Lib.Math.abs.name ∈ m_gd := List.mem_filter.mpr ⟨List.mem_of_getElem? (i := 380) (by decide +kernel), by decide +kernel⟩
theorem wd_299 : Cond.code Lib.Math.abs.name Lib.Math.abs.code 1 (some .int) ∈ m_gd := List.mem_filter.mpr ⟨List.mem_of_getElem? (i := 381) (by decide +kernel), by decide +kernel⟩
theorem wd_300 : Cond.methodLink RX5 271 yX5_along ∈ m_gd := List.mem_filter.mpr ⟨List.mem_of_getElem? (i := 327) (by decide +kernel), by decide +kernel⟩
theorem wd_301 : Cond.static yX5_along ∈ m_gd := List.mem_filter.mpr ⟨List.mem_of_getElem? (i := 328) (by decide +kernel), by decide +kernel⟩
theorem wd_302 : Cond.code yX5_along cX5_along 3 (some .int) ∈ m_gd := List.mem_filter.mpr ⟨List.mem_of_getElem? (i := 329) (by decide +kernel), by decide +kernel⟩
theorem wd_303 : Cond.constant RJ6 265 1431655765 ∈ m_gd := List.mem_filter.mpr ⟨List.mem_of_getElem? (i := 470) (by decide +kernel), by decide +kernel⟩
theorem wd_304 : Cond.constant RJ6 266 858993459 ∈ m_gd := List.mem_filter.mpr ⟨List.mem_of_getElem? (i := 471) (by decide +kernel), by decide +kernel⟩
theorem wd_305 : Cond.constant RJ6 267 252645135 ∈ m_gd := List.mem_filter.mpr ⟨List.mem_of_getElem? (i := 472) (by decide +kernel), by decide +kernel⟩
theorem wd_306 : Cond.constant RL 7 43943 ∈ m_gd := List.mem_filter.mpr ⟨List.mem_of_getElem? (i := 195) (by decide +kernel), by decide +kernel⟩
theorem wd_307 : Cond.constant RL 8 2984729 ∈ m_gd := List.mem_filter.mpr ⟨List.mem_of_getElem? (i := 196) (by decide +kernel), by decide +kernel⟩
theorem wd_308 : Cond.constant RL 9 2147483647 ∈ m_gd := List.mem_filter.mpr ⟨List.mem_of_getElem? (i := 200) (by decide +kernel), by decide +kernel⟩
theorem wd_309 : Cond.methodLink RL 10 yL_cellAt ∈ m_gd := List.mem_filter.mpr ⟨List.mem_of_getElem? (i := 419) (by decide +kernel), by decide +kernel⟩
theorem wd_310 : Cond.static yL_cellAt ∈ m_gd := List.mem_filter.mpr ⟨List.mem_of_getElem? (i := 420) (by decide +kernel), by decide +kernel⟩
theorem wd_311 : Cond.initialized RL ∈ m_gd := List.mem_filter.mpr ⟨List.mem_of_getElem? (i := 2) (by decide +kernel), by decide +kernel⟩
theorem wd_312 : Cond.code yL_cellAt cL_cellAt 4 (some .int) ∈ m_gd := List.mem_filter.mpr ⟨List.mem_of_getElem? (i := 421) (by decide +kernel), by decide +kernel⟩
theorem wd_313 : Cond.methodLink RL 16 yL_sheetAt ∈ m_gd := List.mem_filter.mpr ⟨List.mem_of_getElem? (i := 422) (by decide +kernel), by decide +kernel⟩
theorem wd_314 : Cond.static yL_sheetAt ∈ m_gd := List.mem_filter.mpr ⟨List.mem_of_getElem? (i := 423) (by decide +kernel), by decide +kernel⟩
theorem wd_315 : Cond.code yL_sheetAt cL_sheetAt 3 (some .int) ∈ m_gd := List.mem_filter.mpr ⟨List.mem_of_getElem? (i := 424) (by decide +kernel), by decide +kernel⟩
theorem wd_316 : Cond.methodLink RL 20 yL_alike ∈ m_gd := List.mem_filter.mpr ⟨List.mem_of_getElem? (i := 440) (by decide +kernel), by decide +kernel⟩
theorem wd_317 : Cond.static yL_alike ∈ m_gd := List.mem_filter.mpr ⟨List.mem_of_getElem? (i := 441) (by decide +kernel), by decide +kernel⟩
theorem wd_318 : Cond.code yL_alike cL_alike 7 (some .int) ∈ m_gd := List.mem_filter.mpr ⟨List.mem_of_getElem? (i := 442) (by decide +kernel), by decide +kernel⟩
theorem wd_319 : Cond.methodLink RL 24 yL_leaning ∈ m_gd := List.mem_filter.mpr ⟨List.mem_of_getElem? (i := 434) (by decide +kernel), by decide +kernel⟩
theorem wd_320 : Cond.static yL_leaning ∈ m_gd := List.mem_filter.mpr ⟨List.mem_of_getElem? (i := 435) (by decide +kernel), by decide +kernel⟩
theorem wd_321 : Cond.code yL_leaning cL_leaning 4 (some .int) ∈ m_gd := List.mem_filter.mpr ⟨List.mem_of_getElem? (i := 436) (by decide +kernel), by decide +kernel⟩
theorem wd_322 : Cond.methodLink RL 28 yL_known ∈ m_gd := List.mem_filter.mpr ⟨List.mem_of_getElem? (i := 437) (by decide +kernel), by decide +kernel⟩
theorem wd_323 : Cond.static yL_known ∈ m_gd := List.mem_filter.mpr ⟨List.mem_of_getElem? (i := 438) (by decide +kernel), by decide +kernel⟩
theorem wd_324 : Cond.code yL_known cL_known 5 (some .int) ∈ m_gd := List.mem_filter.mpr ⟨List.mem_of_getElem? (i := 439) (by decide +kernel), by decide +kernel⟩
theorem wd_325 : Cond.methodLink RL 32 yX5_swap ∈ m_gd := List.mem_filter.mpr ⟨List.mem_of_getElem? (i := 207) (by decide +kernel), by decide +kernel⟩
theorem wd_326 : Cond.instanceMethod yX5_swap ∈ m_gd := List.mem_filter.mpr ⟨List.mem_of_getElem? (i := 208) (by decide +kernel), by decide +kernel⟩
theorem wd_327 : Cond.selects RX5 yX5_swap yX5_swap ∈ m_gd := List.mem_filter.mpr ⟨List.mem_of_getElem? (i := 209) (by decide +kernel), by decide +kernel⟩
theorem wd_328 : Cond.code yX5_swap cX5_swap 3 (some .int) ∈ m_gd := List.mem_filter.mpr ⟨List.mem_of_getElem? (i := 210) (by decide +kernel), by decide +kernel⟩
theorem wd_329 : Cond.methodLink RL 37 yX5_mark ∈ m_gd := List.mem_filter.mpr ⟨List.mem_of_getElem? (i := 231) (by decide +kernel), by decide +kernel⟩
theorem wd_330 : Cond.instanceMethod yX5_mark ∈ m_gd := List.mem_filter.mpr ⟨List.mem_of_getElem? (i := 232) (by decide +kernel), by decide +kernel⟩
theorem wd_331 : Cond.selects RX5 yX5_mark yX5_mark ∈ m_gd := List.mem_filter.mpr ⟨List.mem_of_getElem? (i := 233) (by decide +kernel), by decide +kernel⟩
theorem wd_332 : Cond.code yX5_mark cX5_mark 4 (some .int) ∈ m_gd := List.mem_filter.mpr ⟨List.mem_of_getElem? (i := 234) (by decide +kernel), by decide +kernel⟩
theorem wd_333 : Cond.methodLink RL 41 yX5_lean ∈ m_gd := List.mem_filter.mpr ⟨List.mem_of_getElem? (i := 246) (by decide +kernel), by decide +kernel⟩
theorem wd_334 : Cond.instanceMethod yX5_lean ∈ m_gd := List.mem_filter.mpr ⟨List.mem_of_getElem? (i := 247) (by decide +kernel), by decide +kernel⟩
theorem wd_335 : Cond.selects RX5 yX5_lean yX5_lean ∈ m_gd := List.mem_filter.mpr ⟨List.mem_of_getElem? (i := 248) (by decide +kernel), by decide +kernel⟩
theorem wd_336 : Cond.code yX5_lean cX5_lean 4 (some .int) ∈ m_gd := List.mem_filter.mpr ⟨List.mem_of_getElem? (i := 249) (by decide +kernel), by decide +kernel⟩
theorem wd_337 : Cond.methodLink RL 44 yX5_set ∈ m_gd := List.mem_filter.mpr ⟨List.mem_of_getElem? (i := 257) (by decide +kernel), by decide +kernel⟩
theorem wd_338 : Cond.instanceMethod yX5_set ∈ m_gd := List.mem_filter.mpr ⟨List.mem_of_getElem? (i := 258) (by decide +kernel), by decide +kernel⟩
theorem wd_339 : Cond.selects RX5 yX5_set yX5_set ∈ m_gd := List.mem_filter.mpr ⟨List.mem_of_getElem? (i := 259) (by decide +kernel), by decide +kernel⟩
theorem wd_340 : Cond.code yX5_set cX5_set 4 (some .int) ∈ m_gd := List.mem_filter.mpr ⟨List.mem_of_getElem? (i := 260) (by decide +kernel), by decide +kernel⟩
theorem wd_341 : Cond.methodLink RL 47 yX5_print ∈ m_gd := List.mem_filter.mpr ⟨List.mem_of_getElem? (i := 265) (by decide +kernel), by decide +kernel⟩
theorem wd_342 : Cond.instanceMethod yX5_print ∈ m_gd := List.mem_filter.mpr ⟨List.mem_of_getElem? (i := 266) (by decide +kernel), by decide +kernel⟩
theorem wd_343 : Cond.selects RX5 yX5_print yX5_print ∈ m_gd := List.mem_filter.mpr ⟨List.mem_of_getElem? (i := 267) (by decide +kernel), by decide +kernel⟩
theorem wd_344 : Cond.code yX5_print cX5_print 2 (some .int) ∈ m_gd := List.mem_filter.mpr ⟨List.mem_of_getElem? (i := 268) (by decide +kernel), by decide +kernel⟩
theorem wd_345 : Cond.methodLink RL 51 yX5_cutSheet ∈ m_gd := List.mem_filter.mpr ⟨List.mem_of_getElem? (i := 299) (by decide +kernel), by decide +kernel⟩
theorem wd_346 : Cond.instanceMethod yX5_cutSheet ∈ m_gd := List.mem_filter.mpr ⟨List.mem_of_getElem? (i := 300) (by decide +kernel), by decide +kernel⟩
theorem wd_347 : Cond.selects RX5 yX5_cutSheet yX5_cutSheet ∈ m_gd := List.mem_filter.mpr ⟨List.mem_of_getElem? (i := 301) (by decide +kernel), by decide +kernel⟩
theorem wd_348 : Cond.code yX5_cutSheet cX5_cutSheet 2 (some .int) ∈ m_gd := List.mem_filter.mpr ⟨List.mem_of_getElem? (i := 302) (by decide +kernel), by decide +kernel⟩
theorem wd_349 : Cond.methodLink RL 55 yX5_cutPack ∈ m_gd := List.mem_filter.mpr ⟨List.mem_of_getElem? (i := 330) (by decide +kernel), by decide +kernel⟩
theorem wd_350 : Cond.instanceMethod yX5_cutPack ∈ m_gd := List.mem_filter.mpr ⟨List.mem_of_getElem? (i := 331) (by decide +kernel), by decide +kernel⟩
theorem wd_351 : Cond.selects RX5 yX5_cutPack yX5_cutPack ∈ m_gd := List.mem_filter.mpr ⟨List.mem_of_getElem? (i := 332) (by decide +kernel), by decide +kernel⟩
theorem wd_352 : Cond.code yX5_cutPack cX5_cutPack 3 (some .int) ∈ m_gd := List.mem_filter.mpr ⟨List.mem_of_getElem? (i := 333) (by decide +kernel), by decide +kernel⟩
theorem wd_353 : Cond.methodLink RL 58 yX5_shuffle ∈ m_gd := List.mem_filter.mpr ⟨List.mem_of_getElem? (i := 352) (by decide +kernel), by decide +kernel⟩
theorem wd_354 : Cond.instanceMethod yX5_shuffle ∈ m_gd := List.mem_filter.mpr ⟨List.mem_of_getElem? (i := 353) (by decide +kernel), by decide +kernel⟩
theorem wd_355 : Cond.selects RX5 yX5_shuffle yX5_shuffle ∈ m_gd := List.mem_filter.mpr ⟨List.mem_of_getElem? (i := 354) (by decide +kernel), by decide +kernel⟩
theorem wd_356 : Cond.code yX5_shuffle cX5_shuffle 3 (some .int) ∈ m_gd := List.mem_filter.mpr ⟨List.mem_of_getElem? (i := 355) (by decide +kernel), by decide +kernel⟩
theorem wd_357 : Cond.methodLink RL 61 yX5_deal ∈ m_gd := List.mem_filter.mpr ⟨List.mem_of_getElem? (i := 363) (by decide +kernel), by decide +kernel⟩
theorem wd_358 : Cond.instanceMethod yX5_deal ∈ m_gd := List.mem_filter.mpr ⟨List.mem_of_getElem? (i := 364) (by decide +kernel), by decide +kernel⟩
theorem wd_359 : Cond.selects RX5 yX5_deal yX5_deal ∈ m_gd := List.mem_filter.mpr ⟨List.mem_of_getElem? (i := 365) (by decide +kernel), by decide +kernel⟩
theorem wd_360 : Cond.code yX5_deal cX5_deal 3 (some .int) ∈ m_gd := List.mem_filter.mpr ⟨List.mem_of_getElem? (i := 366) (by decide +kernel), by decide +kernel⟩
theorem wd_361 : Cond.methodLink RL 64 yX5_sell ∈ m_gd := List.mem_filter.mpr ⟨List.mem_of_getElem? (i := 368) (by decide +kernel), by decide +kernel⟩
theorem wd_362 : Cond.instanceMethod yX5_sell ∈ m_gd := List.mem_filter.mpr ⟨List.mem_of_getElem? (i := 369) (by decide +kernel), by decide +kernel⟩
theorem wd_363 : Cond.selects RX5 yX5_sell yX5_sell ∈ m_gd := List.mem_filter.mpr ⟨List.mem_of_getElem? (i := 370) (by decide +kernel), by decide +kernel⟩
theorem wd_364 : Cond.code yX5_sell cX5_sell 3 (some .int) ∈ m_gd := List.mem_filter.mpr ⟨List.mem_of_getElem? (i := 371) (by decide +kernel), by decide +kernel⟩
theorem wd_365 : Cond.methodLink RL 68 yX5_pulp ∈ m_gd := List.mem_filter.mpr ⟨List.mem_of_getElem? (i := 403) (by decide +kernel), by decide +kernel⟩
theorem wd_366 : Cond.instanceMethod yX5_pulp ∈ m_gd := List.mem_filter.mpr ⟨List.mem_of_getElem? (i := 404) (by decide +kernel), by decide +kernel⟩
theorem wd_367 : Cond.selects RX5 yX5_pulp yX5_pulp ∈ m_gd := List.mem_filter.mpr ⟨List.mem_of_getElem? (i := 405) (by decide +kernel), by decide +kernel⟩
theorem wd_368 : Cond.code yX5_pulp cX5_pulp 2 (some .int) ∈ m_gd := List.mem_filter.mpr ⟨List.mem_of_getElem? (i := 406) (by decide +kernel), by decide +kernel⟩
theorem wd_369 : Cond.methodLink RL 71 yL_court ∈ m_gd := List.mem_filter.mpr ⟨List.mem_of_getElem? (i := 410) (by decide +kernel), by decide +kernel⟩
theorem wd_370 : Cond.static yL_court ∈ m_gd := List.mem_filter.mpr ⟨List.mem_of_getElem? (i := 411) (by decide +kernel), by decide +kernel⟩
theorem wd_371 : Cond.code yL_court cL_court 1 (some .int) ∈ m_gd := List.mem_filter.mpr ⟨List.mem_of_getElem? (i := 412) (by decide +kernel), by decide +kernel⟩
theorem wd_372 : Cond.methodLink RL 74 yL_cuts ∈ m_gd := List.mem_filter.mpr ⟨List.mem_of_getElem? (i := 416) (by decide +kernel), by decide +kernel⟩
theorem wd_373 : Cond.static yL_cuts ∈ m_gd := List.mem_filter.mpr ⟨List.mem_of_getElem? (i := 417) (by decide +kernel), by decide +kernel⟩
theorem wd_374 : Cond.code yL_cuts cL_cuts 8 none ∈ m_gd := List.mem_filter.mpr ⟨List.mem_of_getElem? (i := 418) (by decide +kernel), by decide +kernel⟩
theorem wd_375 : Cond.methodLink RL 78 yL_turns ∈ m_gd := List.mem_filter.mpr ⟨List.mem_of_getElem? (i := 425) (by decide +kernel), by decide +kernel⟩
theorem wd_376 : Cond.static yL_turns ∈ m_gd := List.mem_filter.mpr ⟨List.mem_of_getElem? (i := 426) (by decide +kernel), by decide +kernel⟩
theorem wd_377 : Cond.code yL_turns cL_turns 6 none ∈ m_gd := List.mem_filter.mpr ⟨List.mem_of_getElem? (i := 427) (by decide +kernel), by decide +kernel⟩
theorem wd_378 : Cond.methodLink RL 82 yL_shuffles ∈ m_gd := List.mem_filter.mpr ⟨List.mem_of_getElem? (i := 428) (by decide +kernel), by decide +kernel⟩
theorem wd_379 : Cond.static yL_shuffles ∈ m_gd := List.mem_filter.mpr ⟨List.mem_of_getElem? (i := 429) (by decide +kernel), by decide +kernel⟩
theorem wd_380 : Cond.code yL_shuffles cL_shuffles 8 (some .int) ∈ m_gd := List.mem_filter.mpr ⟨List.mem_of_getElem? (i := 430) (by decide +kernel), by decide +kernel⟩
theorem wd_381 : Cond.methodLink RL 85 yL_why ∈ m_gd := List.mem_filter.mpr ⟨List.mem_of_getElem? (i := 431) (by decide +kernel), by decide +kernel⟩
theorem wd_382 : Cond.static yL_why ∈ m_gd := List.mem_filter.mpr ⟨List.mem_of_getElem? (i := 432) (by decide +kernel), by decide +kernel⟩
theorem wd_383 : Cond.code yL_why cL_why 4 (some .int) ∈ m_gd := List.mem_filter.mpr ⟨List.mem_of_getElem? (i := 433) (by decide +kernel), by decide +kernel⟩
theorem wd_384 : Cond.methodLink RL 89 yL_low ∈ m_gd := List.mem_filter.mpr ⟨List.mem_of_getElem? (i := 197) (by decide +kernel), by decide +kernel⟩
theorem wd_385 : Cond.static yL_low ∈ m_gd := List.mem_filter.mpr ⟨List.mem_of_getElem? (i := 198) (by decide +kernel), by decide +kernel⟩
theorem wd_386 : Cond.code yL_low cL_low 2 (some .int) ∈ m_gd := List.mem_filter.mpr ⟨List.mem_of_getElem? (i := 199) (by decide +kernel), by decide +kernel⟩
theorem wd_387 : Cond.methodLink RL 92 yX5_count ∈ m_gd := List.mem_filter.mpr ⟨List.mem_of_getElem? (i := 449) (by decide +kernel), by decide +kernel⟩
theorem wd_388 : Cond.instanceMethod yX5_count ∈ m_gd := List.mem_filter.mpr ⟨List.mem_of_getElem? (i := 450) (by decide +kernel), by decide +kernel⟩
theorem wd_389 : Cond.selects RX5 yX5_count yX5_count ∈ m_gd := List.mem_filter.mpr ⟨List.mem_of_getElem? (i := 451) (by decide +kernel), by decide +kernel⟩
theorem wd_390 : Cond.code yX5_count cX5_count 2 (some .int) ∈ m_gd := List.mem_filter.mpr ⟨List.mem_of_getElem? (i := 452) (by decide +kernel), by decide +kernel⟩
theorem wd_391 : Cond.methodLink RL 95 yX5_chances ∈ m_gd := List.mem_filter.mpr ⟨List.mem_of_getElem? (i := 519) (by decide +kernel), by decide +kernel⟩
theorem wd_392 : Cond.instanceMethod yX5_chances ∈ m_gd := List.mem_filter.mpr ⟨List.mem_of_getElem? (i := 520) (by decide +kernel), by decide +kernel⟩
theorem wd_393 : Cond.selects RX5 yX5_chances yX5_chances ∈ m_gd := List.mem_filter.mpr ⟨List.mem_of_getElem? (i := 521) (by decide +kernel), by decide +kernel⟩
theorem wd_394 : Cond.code yX5_chances cX5_chances 1 (some .float) ∈ m_gd := List.mem_filter.mpr ⟨List.mem_of_getElem? (i := 522) (by decide +kernel), by decide +kernel⟩
theorem wd_395 : Cond.constantFloat RL 99 3212836864 ∈ m_gd := List.mem_filter.mpr ⟨List.mem_of_getElem? (i := 528) (by decide +kernel), by decide +kernel⟩
theorem wd_396 : Cond.methodLink RL 100 yX5_cardOf ∈ m_gd := List.mem_filter.mpr ⟨List.mem_of_getElem? (i := 490) (by decide +kernel), by decide +kernel⟩
theorem wd_397 : Cond.instanceMethod yX5_cardOf ∈ m_gd := List.mem_filter.mpr ⟨List.mem_of_getElem? (i := 491) (by decide +kernel), by decide +kernel⟩
theorem wd_398 : Cond.selects RX5 yX5_cardOf yX5_cardOf ∈ m_gd := List.mem_filter.mpr ⟨List.mem_of_getElem? (i := 492) (by decide +kernel), by decide +kernel⟩
theorem wd_399 : Cond.code yX5_cardOf cX5_cardOf 3 (some .int) ∈ m_gd := List.mem_filter.mpr ⟨List.mem_of_getElem? (i := 493) (by decide +kernel), by decide +kernel⟩
theorem wd_400 : Cond.methodLink RL 103 yX5_pack ∈ m_gd := List.mem_filter.mpr ⟨List.mem_of_getElem? (i := 529) (by decide +kernel), by decide +kernel⟩
theorem wd_401 : Cond.instanceMethod yX5_pack ∈ m_gd := List.mem_filter.mpr ⟨List.mem_of_getElem? (i := 530) (by decide +kernel), by decide +kernel⟩
theorem wd_402 : Cond.selects RX5 yX5_pack yX5_pack ∈ m_gd := List.mem_filter.mpr ⟨List.mem_of_getElem? (i := 531) (by decide +kernel), by decide +kernel⟩
theorem wd_403 : Cond.code yX5_pack cX5_pack 4 (some .int) ∈ m_gd := List.mem_filter.mpr ⟨List.mem_of_getElem? (i := 532) (by decide +kernel), by decide +kernel⟩
theorem wd_404 : Cond.methodLink RL 106 yL_ones ∈ m_gd := List.mem_filter.mpr ⟨List.mem_of_getElem? (i := 446) (by decide +kernel), by decide +kernel⟩
theorem wd_405 : Cond.static yL_ones ∈ m_gd := List.mem_filter.mpr ⟨List.mem_of_getElem? (i := 447) (by decide +kernel), by decide +kernel⟩
theorem wd_406 : Cond.code yL_ones cL_ones 3 (some .int) ∈ m_gd := List.mem_filter.mpr ⟨List.mem_of_getElem? (i := 448) (by decide +kernel), by decide +kernel⟩
theorem wd_407 : Cond.methodLink RL 109 yX5_why ∈ m_gd := List.mem_filter.mpr ⟨List.mem_of_getElem? (i := 474) (by decide +kernel), by decide +kernel⟩
theorem wd_408 : Cond.instanceMethod yX5_why ∈ m_gd := List.mem_filter.mpr ⟨List.mem_of_getElem? (i := 475) (by decide +kernel), by decide +kernel⟩
theorem wd_409 : Cond.selects RX5 yX5_why yX5_why ∈ m_gd := List.mem_filter.mpr ⟨List.mem_of_getElem? (i := 476) (by decide +kernel), by decide +kernel⟩
theorem wd_410 : Cond.code yX5_why cX5_why 1 (some .int) ∈ m_gd := List.mem_filter.mpr ⟨List.mem_of_getElem? (i := 477) (by decide +kernel), by decide +kernel⟩
theorem wd_411 : Cond.methodLink RL 111 yX5_ifPrinted ∈ m_gd := List.mem_filter.mpr ⟨List.mem_of_getElem? (i := 478) (by decide +kernel), by decide +kernel⟩
theorem wd_412 : Cond.instanceMethod yX5_ifPrinted ∈ m_gd := List.mem_filter.mpr ⟨List.mem_of_getElem? (i := 479) (by decide +kernel), by decide +kernel⟩
theorem wd_413 : Cond.selects RX5 yX5_ifPrinted yX5_ifPrinted ∈ m_gd := List.mem_filter.mpr ⟨List.mem_of_getElem? (i := 480) (by decide +kernel), by decide +kernel⟩
theorem wd_414 : Cond.code yX5_ifPrinted cX5_ifPrinted 2 (some .int) ∈ m_gd := List.mem_filter.mpr ⟨List.mem_of_getElem? (i := 481) (by decide +kernel), by decide +kernel⟩
theorem wd_415 : Cond.methodLink RL 114 yX5_block ∈ m_gd := List.mem_filter.mpr ⟨List.mem_of_getElem? (i := 486) (by decide +kernel), by decide +kernel⟩
theorem wd_416 : Cond.instanceMethod yX5_block ∈ m_gd := List.mem_filter.mpr ⟨List.mem_of_getElem? (i := 487) (by decide +kernel), by decide +kernel⟩
theorem wd_417 : Cond.selects RX5 yX5_block yX5_block ∈ m_gd := List.mem_filter.mpr ⟨List.mem_of_getElem? (i := 488) (by decide +kernel), by decide +kernel⟩
theorem wd_418 : Cond.code yX5_block cX5_block 3 (some .int) ∈ m_gd := List.mem_filter.mpr ⟨List.mem_of_getElem? (i := 489) (by decide +kernel), by decide +kernel⟩
theorem wd_419 : Cond.methodLink RL 117 yX5_sheet ∈ m_gd := List.mem_filter.mpr ⟨List.mem_of_getElem? (i := 503) (by decide +kernel), by decide +kernel⟩
theorem wd_420 : Cond.instanceMethod yX5_sheet ∈ m_gd := List.mem_filter.mpr ⟨List.mem_of_getElem? (i := 504) (by decide +kernel), by decide +kernel⟩
theorem wd_421 : Cond.selects RX5 yX5_sheet yX5_sheet ∈ m_gd := List.mem_filter.mpr ⟨List.mem_of_getElem? (i := 505) (by decide +kernel), by decide +kernel⟩
theorem wd_422 : Cond.code yX5_sheet cX5_sheet 6 (some .int) ∈ m_gd := List.mem_filter.mpr ⟨List.mem_of_getElem? (i := 506) (by decide +kernel), by decide +kernel⟩
theorem wd_423 : Cond.methodLink RL 121 yX5_bestWay ∈ m_gd := List.mem_filter.mpr ⟨List.mem_of_getElem? (i := 507) (by decide +kernel), by decide +kernel⟩
theorem wd_424 : Cond.instanceMethod yX5_bestWay ∈ m_gd := List.mem_filter.mpr ⟨List.mem_of_getElem? (i := 508) (by decide +kernel), by decide +kernel⟩
theorem wd_425 : Cond.selects RX5 yX5_bestWay yX5_bestWay ∈ m_gd := List.mem_filter.mpr ⟨List.mem_of_getElem? (i := 509) (by decide +kernel), by decide +kernel⟩
theorem wd_426 : Cond.code yX5_bestWay cX5_bestWay 6 (some .int) ∈ m_gd := List.mem_filter.mpr ⟨List.mem_of_getElem? (i := 510) (by decide +kernel), by decide +kernel⟩
theorem wd_427 : Cond.methodLink RL 124 yL_isPack ∈ m_gd := List.mem_filter.mpr ⟨List.mem_of_getElem? (i := 516) (by decide +kernel), by decide +kernel⟩
theorem wd_428 : Cond.static yL_isPack ∈ m_gd := List.mem_filter.mpr ⟨List.mem_of_getElem? (i := 517) (by decide +kernel), by decide +kernel⟩
theorem wd_429 : Cond.code yL_isPack cL_isPack 12 (some .boolean) ∈ m_gd := List.mem_filter.mpr ⟨List.mem_of_getElem? (i := 518) (by decide +kernel), by decide +kernel⟩
theorem wd_430 : Cond.constantLong RL 128 173 ∈ m_gd := List.mem_filter.mpr ⟨List.mem_of_getElem? (i := 539) (by decide +kernel), by decide +kernel⟩
theorem wd_431 : Cond.constantLong RL 130 31 ∈ m_gd := List.mem_filter.mpr ⟨List.mem_of_getElem? (i := 540) (by decide +kernel), by decide +kernel⟩
theorem wd_432 : Cond.classLink RL 33 RX5 ∈ m_gd := List.mem_filter.mpr ⟨List.mem_of_getElem? (i := 12) (by decide +kernel), by decide +kernel⟩
theorem wd_433 : Cond.instantiable RX5 6 ∈ m_gd := List.mem_filter.mpr ⟨List.mem_of_getElem? (i := 13) (by decide +kernel), by decide +kernel⟩
theorem wd_434 : Cond.methodLink RL 132 yX5_init ∈ m_gd := List.mem_filter.mpr ⟨List.mem_of_getElem? (i := 14) (by decide +kernel), by decide +kernel⟩
theorem wd_435 : Cond.instanceMethod yX5_init ∈ m_gd := List.mem_filter.mpr ⟨List.mem_of_getElem? (i := 15) (by decide +kernel), by decide +kernel⟩
theorem wd_436 : Cond.code yX5_init cX5_init 1 none ∈ m_gd := List.mem_filter.mpr ⟨List.mem_of_getElem? (i := 16) (by decide +kernel), by decide +kernel⟩
theorem wd_437 : Cond.methodLink RL 133 yL_cell ∈ m_gd := List.mem_filter.mpr ⟨List.mem_of_getElem? (i := 192) (by decide +kernel), by decide +kernel⟩
theorem wd_438 : Cond.static yL_cell ∈ m_gd := List.mem_filter.mpr ⟨List.mem_of_getElem? (i := 193) (by decide +kernel), by decide +kernel⟩
theorem wd_439 : Cond.code yL_cell cL_cell 2 (some .int) ∈ m_gd := List.mem_filter.mpr ⟨List.mem_of_getElem? (i := 194) (by decide +kernel), by decide +kernel⟩
theorem wd_440 : Cond.methodLink RL 137 yL_told ∈ m_gd := List.mem_filter.mpr ⟨List.mem_of_getElem? (i := 536) (by decide +kernel), by decide +kernel⟩
theorem wd_441 : Cond.static yL_told ∈ m_gd := List.mem_filter.mpr ⟨List.mem_of_getElem? (i := 537) (by decide +kernel), by decide +kernel⟩
theorem wd_442 : Cond.code yL_told cL_told 4 (some .long) ∈ m_gd := List.mem_filter.mpr ⟨List.mem_of_getElem? (i := 538) (by decide +kernel), by decide +kernel⟩
theorem wd_443 : Cond.methodLink RL 141 yL_call ∈ m_gd := List.mem_filter.mpr ⟨List.mem_of_getElem? (i := 204) (by decide +kernel), by decide +kernel⟩
theorem wd_444 : Cond.static yL_call ∈ m_gd := List.mem_filter.mpr ⟨List.mem_of_getElem? (i := 205) (by decide +kernel), by decide +kernel⟩
theorem wd_445 : Cond.code yL_call cL_call 5 (some .int) ∈ m_gd := List.mem_filter.mpr ⟨List.mem_of_getElem? (i := 206) (by decide +kernel), by decide +kernel⟩
theorem wd_446 : Cond.methodLink RL 145 yX5_undo ∈ m_gd := List.mem_filter.mpr ⟨List.mem_of_getElem? (i := 166) (by decide +kernel), by decide +kernel⟩
theorem wd_447 : Cond.instanceMethod yX5_undo ∈ m_gd := List.mem_filter.mpr ⟨List.mem_of_getElem? (i := 167) (by decide +kernel), by decide +kernel⟩
theorem wd_448 : Cond.selects RX5 yX5_undo yX5_undo ∈ m_gd := List.mem_filter.mpr ⟨List.mem_of_getElem? (i := 168) (by decide +kernel), by decide +kernel⟩
theorem wd_449 : Cond.code yX5_undo cX5_undo 1 (some .int) ∈ m_gd := List.mem_filter.mpr ⟨List.mem_of_getElem? (i := 169) (by decide +kernel), by decide +kernel⟩
theorem wd_450 : Cond.methodLink RL 148 yL_ofBlocks ∈ m_gd := List.mem_filter.mpr ⟨List.mem_of_getElem? (i := 407) (by decide +kernel), by decide +kernel⟩
theorem wd_451 : Cond.static yL_ofBlocks ∈ m_gd := List.mem_filter.mpr ⟨List.mem_of_getElem? (i := 408) (by decide +kernel), by decide +kernel⟩
theorem wd_452 : Cond.code yL_ofBlocks cL_ofBlocks 9 (some .int) ∈ m_gd := List.mem_filter.mpr ⟨List.mem_of_getElem? (i := 409) (by decide +kernel), by decide +kernel⟩
theorem wd_453 : Cond.methodLink RL 152 yL_ofPack ∈ m_gd := List.mem_filter.mpr ⟨List.mem_of_getElem? (i := 413) (by decide +kernel), by decide +kernel⟩
theorem wd_454 : Cond.static yL_ofPack ∈ m_gd := List.mem_filter.mpr ⟨List.mem_of_getElem? (i := 414) (by decide +kernel), by decide +kernel⟩
theorem wd_455 : Cond.code yL_ofPack cL_ofPack 9 (some .int) ∈ m_gd := List.mem_filter.mpr ⟨List.mem_of_getElem? (i := 415) (by decide +kernel), by decide +kernel⟩
theorem wd_456 : Cond.methodLink RL 156 yL_prints ∈ m_gd := List.mem_filter.mpr ⟨List.mem_of_getElem? (i := 201) (by decide +kernel), by decide +kernel⟩
theorem wd_457 : Cond.static yL_prints ∈ m_gd := List.mem_filter.mpr ⟨List.mem_of_getElem? (i := 202) (by decide +kernel), by decide +kernel⟩
theorem wd_458 : Cond.code yL_prints cL_prints 8 none ∈ m_gd := List.mem_filter.mpr ⟨List.mem_of_getElem? (i := 203) (by decide +kernel), by decide +kernel⟩
theorem wd_459 : Cond.methodLink RL 160 yL_isSo ∈ m_gd := List.mem_filter.mpr ⟨List.mem_of_getElem? (i := 443) (by decide +kernel), by decide +kernel⟩
theorem wd_460 : Cond.static yL_isSo ∈ m_gd := List.mem_filter.mpr ⟨List.mem_of_getElem? (i := 444) (by decide +kernel), by decide +kernel⟩
theorem wd_461 : Cond.code yL_isSo cL_isSo 22 (some .boolean) ∈ m_gd := List.mem_filter.mpr ⟨List.mem_of_getElem? (i := 445) (by decide +kernel), by decide +kernel⟩
