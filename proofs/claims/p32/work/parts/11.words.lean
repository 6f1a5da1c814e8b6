/-! what the tables say, word by word; the methods as tables of the plain machine: printed by wip/whole/gen/gen11.py out of the printed names -/
theorem uw_0 : ∀ w ∈ u_ws RX0 TX0 3, w ∈ m_gd := by decide +kernel
theorem uw_1 : ∀ w ∈ u_ws RX1 TX1 3, w ∈ m_gd := by decide +kernel
theorem uw_2 : ∀ w ∈ u_ws RX2 TX2 3, w ∈ m_gd := by decide +kernel
theorem uw_3 : ∀ w ∈ u_ws RX3 TX3 11, w ∈ m_gd := by decide +kernel
theorem uw_4 : ∀ w ∈ u_ws RX4 TX4 7, w ∈ m_gd := by decide +kernel
theorem uw_5 : ∀ w ∈ u_ws RX5 TX5 6, w ∈ m_gd := by decide +kernel
theorem m_nz : ∀ x : Int32, x &&& 1 = x → narrow .boolean (.int x) = .int x := fun x h => by show Value.int (x &&& 1) = _; rw [h]
theorem m_nc : ∀ x : Int32, x.toUInt32.toUInt16.toUInt32.toInt32 = x → narrow .char (.int x) = .int x := fun x h => by show Value.int _ = _; rw [h]
theorem wd_0 : Cond.methodLink RX0 3 Lib.objectInit ∈ m_gd := List.mem_filter.mpr ⟨List.mem_of_getElem? (i := 102) (by decide +kernel), by decide +kernel⟩
theorem wd_1 : Cond.instanceMethod Lib.objectInit ∈ m_gd := List.mem_filter.mpr ⟨List.mem_of_getElem? (i := 18) (by decide +kernel), by decide +kernel⟩
theorem wd_2 : Cond.code Lib.objectInit ⟨#[0xb1]⟩ 1 none ∈ m_gd := List.mem_filter.mpr ⟨List.mem_of_getElem? (i := 19) (by decide +kernel), by decide +kernel⟩
theorem wd_3 : Cond.classLink RX0 9 RX3 ∈ m_gd := List.mem_filter.mpr ⟨List.mem_of_getElem? (i := 103) (by decide +kernel), by decide +kernel⟩
theorem wd_4 : Cond.fieldLink RX0 11 RX0 (TX0 0).2.1 (TX0 0).2.2.1 ∈ m_gd := List.mem_filter.mpr ⟨List.mem_of_getElem? (i := 106) (by decide +kernel), by decide +kernel⟩
theorem wd_5 : Cond.fieldLink RX0 17 RX0 (TX0 1).2.1 (TX0 1).2.2.1 ∈ m_gd := List.mem_filter.mpr ⟨List.mem_of_getElem? (i := 107) (by decide +kernel), by decide +kernel⟩
theorem wd_6 : Cond.fieldLink RX0 21 RX0 (TX0 2).2.1 (TX0 2).2.2.1 ∈ m_gd := List.mem_filter.mpr ⟨List.mem_of_getElem? (i := 108) (by decide +kernel), by decide +kernel⟩
theorem wd_7 : Cond.instantiable RX3 11 ∈ m_gd := List.mem_filter.mpr ⟨List.mem_of_getElem? (i := 21) (by decide +kernel), by decide +kernel⟩
theorem wd_8 : Cond.initialized RX3 ∈ m_gd := List.mem_filter.mpr ⟨List.mem_of_getElem? (i := 4) (by decide +kernel), by decide +kernel⟩
theorem wd_9 : Cond.methodLink RX0 24 yX3_init ∈ m_gd := List.mem_filter.mpr ⟨List.mem_of_getElem? (i := 105) (by decide +kernel), by decide +kernel⟩
theorem wd_10 : Cond.instanceMethod yX3_init ∈ m_gd := List.mem_filter.mpr ⟨List.mem_of_getElem? (i := 23) (by decide +kernel), by decide +kernel⟩
theorem wd_11 : Cond.code yX3_init cX3_init 2 none ∈ m_gd := List.mem_filter.mpr ⟨List.mem_of_getElem? (i := 24) (by decide +kernel), by decide +kernel⟩
theorem wd_12 : Cond.methodLink RX0 25 yX0_copyTo ∈ m_gd := List.mem_filter.mpr ⟨List.mem_of_getElem? (i := 218) (by decide +kernel), by decide +kernel⟩
theorem wd_13 : Cond.instanceMethod yX0_copyTo ∈ m_gd := List.mem_filter.mpr ⟨List.mem_of_getElem? (i := 220) (by decide +kernel), by decide +kernel⟩
theorem wd_14 : Cond.selects RX0 yX0_copyTo yX0_copyTo ∈ m_gd := List.mem_filter.mpr ⟨List.mem_of_getElem? (i := 0) (by decide +kernel), by decide +kernel⟩
theorem wd_15 : Cond.initialized RX0 ∈ m_gd := List.mem_filter.mpr ⟨List.mem_of_getElem? (i := 6) (by decide +kernel), by decide +kernel⟩
theorem wd_16 : Cond.code yX0_copyTo cX0_copyTo 4 none ∈ m_gd := List.mem_filter.mpr ⟨List.mem_of_getElem? (i := 221) (by decide +kernel), by decide +kernel⟩
theorem wd_17 : Cond.methodLink RX0 29 Lib.Math.min.name ∈ m_gd := List.mem_filter.mpr ⟨List.mem_of_getElem? (i := 222) (by decide +kernel), by decide +kernel⟩
theorem wd_18 : Cond.static Lib.Math.min.name ∈ m_gd := List.mem_filter.mpr ⟨List.mem_of_getElem? (i := 182) (by decide +kernel), by decide +kernel⟩
theorem wd_19 : Cond.initialized "java/lang/Math" ∈ m_gd := List.mem_filter.mpr ⟨List.mem_of_getElem? (i := 8) (by decide +kernel), by decide +kernel⟩
theorem wd_20 : Cond.code Lib.Math.min.name Lib.Math.min.code 2 (some .int) ∈ m_gd := List.mem_filter.mpr ⟨List.mem_of_getElem? (i := 183) (by decide +kernel), by decide +kernel⟩
theorem wd_21 : Cond.methodLink RX0 35 yX3_copyFrom ∈ m_gd := List.mem_filter.mpr ⟨List.mem_of_getElem? (i := 174) (by decide +kernel), by decide +kernel⟩
theorem wd_22 : Cond.instanceMethod yX3_copyFrom ∈ m_gd := List.mem_filter.mpr ⟨List.mem_of_getElem? (i := 175) (by decide +kernel), by decide +kernel⟩
theorem wd_23 : Cond.selects RX3 yX3_copyFrom yX3_copyFrom ∈ m_gd := List.mem_filter.mpr ⟨List.mem_of_getElem? (i := 176) (by decide +kernel), by decide +kernel⟩
theorem wd_24 : Cond.code yX3_copyFrom cX3_copyFrom 3 none ∈ m_gd := List.mem_filter.mpr ⟨List.mem_of_getElem? (i := 177) (by decide +kernel), by decide +kernel⟩
theorem wd_25 : Cond.methodLink RX1 3 Lib.objectInit ∈ m_gd := List.mem_filter.mpr ⟨List.mem_of_getElem? (i := 33) (by decide +kernel), by decide +kernel⟩
theorem wd_26 : Cond.arrayClass .int ∈ m_gd := List.mem_filter.mpr ⟨List.mem_of_getElem? (i := 47) (by decide +kernel), by decide +kernel⟩
theorem wd_27 : Cond.fieldLink RX1 9 RX1 (TX1 0).2.1 (TX1 0).2.2.1 ∈ m_gd := List.mem_filter.mpr ⟨List.mem_of_getElem? (i := 34) (by decide +kernel), by decide +kernel⟩
theorem wd_28 : Cond.fieldLink RX1 15 RX1 (TX1 1).2.1 (TX1 1).2.2.1 ∈ m_gd := List.mem_filter.mpr ⟨List.mem_of_getElem? (i := 35) (by decide +kernel), by decide +kernel⟩
theorem wd_29 : Cond.fieldLink RX1 19 RX1 (TX1 2).2.1 (TX1 2).2.2.1 ∈ m_gd := List.mem_filter.mpr ⟨List.mem_of_getElem? (i := 37) (by decide +kernel), by decide +kernel⟩
theorem wn_30 : Cond.methodLinkNest RX1 23 yX5_copyRow "CardSheets" ∈ m_nest := List.mem_filter.mpr ⟨List.mem_of_getElem? (i := 191) (by decide +kernel), by decide +kernel⟩
theorem wd_31 : Cond.static yX5_copyRow ∈ m_gd := List.mem_filter.mpr ⟨List.mem_of_getElem? (i := 179) (by decide +kernel), by decide +kernel⟩
theorem wd_32 : Cond.initialized RX5 ∈ m_gd := List.mem_filter.mpr ⟨List.mem_of_getElem? (i := 3) (by decide +kernel), by decide +kernel⟩
theorem wd_33 : Cond.code yX5_copyRow cX5_copyRow 2 none ∈ m_gd := List.mem_filter.mpr ⟨List.mem_of_getElem? (i := 180) (by decide +kernel), by decide +kernel⟩
theorem wd_34 : Cond.methodLink RX1 27 yX2_cardCutTo ∈ m_gd := List.mem_filter.mpr ⟨List.mem_of_getElem? (i := 320) (by decide +kernel), by decide +kernel⟩
theorem wd_35 : Cond.instanceMethod yX2_cardCutTo ∈ m_gd := List.mem_filter.mpr ⟨List.mem_of_getElem? (i := 321) (by decide +kernel), by decide +kernel⟩
theorem wd_36 : Cond.selects RX2 yX2_cardCutTo yX2_cardCutTo ∈ m_gd := List.mem_filter.mpr ⟨List.mem_of_getElem? (i := 322) (by decide +kernel), by decide +kernel⟩
theorem wd_37 : Cond.initialized RX2 ∈ m_gd := List.mem_filter.mpr ⟨List.mem_of_getElem? (i := 11) (by decide +kernel), by decide +kernel⟩
theorem wd_38 : Cond.code yX2_cardCutTo cX2_cardCutTo 3 (some .int) ∈ m_gd := List.mem_filter.mpr ⟨List.mem_of_getElem? (i := 323) (by decide +kernel), by decide +kernel⟩
theorem wd_39 : Cond.methodLink RX1 33 yX1_left ∈ m_gd := List.mem_filter.mpr ⟨List.mem_of_getElem? (i := 338) (by decide +kernel), by decide +kernel⟩
theorem wd_40 : Cond.instanceMethod yX1_left ∈ m_gd := List.mem_filter.mpr ⟨List.mem_of_getElem? (i := 339) (by decide +kernel), by decide +kernel⟩
theorem wd_41 : Cond.selects RX1 yX1_left yX1_left ∈ m_gd := List.mem_filter.mpr ⟨List.mem_of_getElem? (i := 340) (by decide +kernel), by decide +kernel⟩
theorem wd_42 : Cond.initialized RX1 ∈ m_gd := List.mem_filter.mpr ⟨List.mem_of_getElem? (i := 5) (by decide +kernel), by decide +kernel⟩
theorem wd_43 : Cond.code yX1_left cX1_left 1 (some .int) ∈ m_gd := List.mem_filter.mpr ⟨List.mem_of_getElem? (i := 341) (by decide +kernel), by decide +kernel⟩
theorem wn_44 : Cond.methodLinkNest RX1 37 yX5_at "CardSheets" ∈ m_nest := List.mem_filter.mpr ⟨List.mem_of_getElem? (i := 346) (by decide +kernel), by decide +kernel⟩
theorem wd_45 : Cond.static yX5_at ∈ m_gd := List.mem_filter.mpr ⟨List.mem_of_getElem? (i := 51) (by decide +kernel), by decide +kernel⟩
theorem wd_46 : Cond.code yX5_at cX5_at 2 (some .int) ∈ m_gd := List.mem_filter.mpr ⟨List.mem_of_getElem? (i := 52) (by decide +kernel), by decide +kernel⟩
theorem wd_47 : Cond.methodLink RX1 41 yX1_cardAt ∈ m_gd := List.mem_filter.mpr ⟨List.mem_of_getElem? (i := 394) (by decide +kernel), by decide +kernel⟩
theorem wd_48 : Cond.instanceMethod yX1_cardAt ∈ m_gd := List.mem_filter.mpr ⟨List.mem_of_getElem? (i := 349) (by decide +kernel), by decide +kernel⟩
theorem wd_49 : Cond.selects RX1 yX1_cardAt yX1_cardAt ∈ m_gd := List.mem_filter.mpr ⟨List.mem_of_getElem? (i := 350) (by decide +kernel), by decide +kernel⟩
theorem wd_50 : Cond.code yX1_cardAt cX1_cardAt 2 (some .int) ∈ m_gd := List.mem_filter.mpr ⟨List.mem_of_getElem? (i := 351) (by decide +kernel), by decide +kernel⟩
theorem wn_51 : Cond.methodLinkNest RX1 45 yX5_put "CardSheets" ∈ m_nest := List.mem_filter.mpr ⟨List.mem_of_getElem? (i := 347) (by decide +kernel), by decide +kernel⟩
theorem wd_52 : Cond.static yX5_put ∈ m_gd := List.mem_filter.mpr ⟨List.mem_of_getElem? (i := 228) (by decide +kernel), by decide +kernel⟩
theorem wd_53 : Cond.code yX5_put cX5_put 3 none ∈ m_gd := List.mem_filter.mpr ⟨List.mem_of_getElem? (i := 229) (by decide +kernel), by decide +kernel⟩
theorem wn_54 : Cond.methodLinkNest RX1 49 yX5_placeBefore "CardSheets" ∈ m_nest := List.mem_filter.mpr ⟨List.mem_of_getElem? (i := 360) (by decide +kernel), by decide +kernel⟩
theorem wd_55 : Cond.static yX5_placeBefore ∈ m_gd := List.mem_filter.mpr ⟨List.mem_of_getElem? (i := 361) (by decide +kernel), by decide +kernel⟩
theorem wd_56 : Cond.code yX5_placeBefore cX5_placeBefore 4 (some .int) ∈ m_gd := List.mem_filter.mpr ⟨List.mem_of_getElem? (i := 362) (by decide +kernel), by decide +kernel⟩
theorem wd_57 : Cond.fieldLink RX1 53 RX2 (TX2 1).2.1 (TX2 1).2.2.1 ∈ m_gd := List.mem_filter.mpr ⟨List.mem_of_getElem? (i := 283) (by decide +kernel), by decide +kernel⟩
theorem wd_58 : Cond.methodLink RX1 56 yX1_marksOf ∈ m_gd := List.mem_filter.mpr ⟨List.mem_of_getElem? (i := 395) (by decide +kernel), by decide +kernel⟩
theorem wd_59 : Cond.instanceMethod yX1_marksOf ∈ m_gd := List.mem_filter.mpr ⟨List.mem_of_getElem? (i := 396) (by decide +kernel), by decide +kernel⟩
theorem wd_60 : Cond.selects RX1 yX1_marksOf yX1_marksOf ∈ m_gd := List.mem_filter.mpr ⟨List.mem_of_getElem? (i := 397) (by decide +kernel), by decide +kernel⟩
theorem wd_61 : Cond.code yX1_marksOf cX1_marksOf 2 (some .int) ∈ m_gd := List.mem_filter.mpr ⟨List.mem_of_getElem? (i := 398) (by decide +kernel), by decide +kernel⟩
theorem wd_62 : Cond.methodLink RX1 59 yX1_marksAt ∈ m_gd := List.mem_filter.mpr ⟨List.mem_of_getElem? (i := 390) (by decide +kernel), by decide +kernel⟩
theorem wd_63 : Cond.instanceMethod yX1_marksAt ∈ m_gd := List.mem_filter.mpr ⟨List.mem_of_getElem? (i := 391) (by decide +kernel), by decide +kernel⟩
theorem wd_64 : Cond.selects RX1 yX1_marksAt yX1_marksAt ∈ m_gd := List.mem_filter.mpr ⟨List.mem_of_getElem? (i := 392) (by decide +kernel), by decide +kernel⟩
theorem wd_65 : Cond.code yX1_marksAt cX1_marksAt 2 (some .int) ∈ m_gd := List.mem_filter.mpr ⟨List.mem_of_getElem? (i := 393) (by decide +kernel), by decide +kernel⟩
theorem wd_66 : Cond.methodLink RX1 62 Lib.Math.min.name ∈ m_gd := List.mem_filter.mpr ⟨List.mem_of_getElem? (i := 462) (by decide +kernel), by decide +kernel⟩
theorem wd_67 : Cond.methodLink RX1 67 yX1_canBeAt ∈ m_gd := List.mem_filter.mpr ⟨List.mem_of_getElem? (i := 386) (by decide +kernel), by decide +kernel⟩
theorem wd_68 : Cond.instanceMethod yX1_canBeAt ∈ m_gd := List.mem_filter.mpr ⟨List.mem_of_getElem? (i := 387) (by decide +kernel), by decide +kernel⟩
theorem wd_69 : Cond.selects RX1 yX1_canBeAt yX1_canBeAt ∈ m_gd := List.mem_filter.mpr ⟨List.mem_of_getElem? (i := 388) (by decide +kernel), by decide +kernel⟩
theorem wd_70 : Cond.code yX1_canBeAt cX1_canBeAt 6 (some .int) ∈ m_gd := List.mem_filter.mpr ⟨List.mem_of_getElem? (i := 389) (by decide +kernel), by decide +kernel⟩
theorem wd_71 : Cond.methodLink RX1 70 yX1_guessAt ∈ m_gd := List.mem_filter.mpr ⟨List.mem_of_getElem? (i := 458) (by decide +kernel), by decide +kernel⟩
theorem wd_72 : Cond.instanceMethod yX1_guessAt ∈ m_gd := List.mem_filter.mpr ⟨List.mem_of_getElem? (i := 459) (by decide +kernel), by decide +kernel⟩
theorem wd_73 : Cond.selects RX1 yX1_guessAt yX1_guessAt ∈ m_gd := List.mem_filter.mpr ⟨List.mem_of_getElem? (i := 460) (by decide +kernel), by decide +kernel⟩
theorem wd_74 : Cond.code yX1_guessAt cX1_guessAt 6 (some .int) ∈ m_gd := List.mem_filter.mpr ⟨List.mem_of_getElem? (i := 461) (by decide +kernel), by decide +kernel⟩
theorem wd_75 : Cond.methodLink RX2 3 Lib.objectInit ∈ m_gd := List.mem_filter.mpr ⟨List.mem_of_getElem? (i := 277) (by decide +kernel), by decide +kernel⟩
theorem wd_76 : Cond.fieldLink RX2 9 RX2 (TX2 0).2.1 (TX2 0).2.2.1 ∈ m_gd := List.mem_filter.mpr ⟨List.mem_of_getElem? (i := 280) (by decide +kernel), by decide +kernel⟩
theorem wd_77 : Cond.fieldLink RX2 15 RX2 (TX2 1).2.1 (TX2 1).2.2.1 ∈ m_gd := List.mem_filter.mpr ⟨List.mem_of_getElem? (i := 282) (by decide +kernel), by decide +kernel⟩
theorem wd_78 : Cond.fieldLink RX2 18 RX2 (TX2 2).2.1 (TX2 2).2.2.1 ∈ m_gd := List.mem_filter.mpr ⟨List.mem_of_getElem? (i := 285) (by decide +kernel), by decide +kernel⟩
theorem wn_79 : Cond.methodLinkNest RX2 21 yX5_at "CardSheets" ∈ m_nest := List.mem_filter.mpr ⟨List.mem_of_getElem? (i := 278) (by decide +kernel), by decide +kernel⟩
theorem wn_80 : Cond.methodLinkNest RX2 25 yX5_isCard "CardSheets" ∈ m_nest := List.mem_filter.mpr ⟨List.mem_of_getElem? (i := 279) (by decide +kernel), by decide +kernel⟩
theorem wd_81 : Cond.static yX5_isCard ∈ m_gd := List.mem_filter.mpr ⟨List.mem_of_getElem? (i := 251) (by decide +kernel), by decide +kernel⟩
theorem wd_82 : Cond.code yX5_isCard cX5_isCard 1 (some .boolean) ∈ m_gd := List.mem_filter.mpr ⟨List.mem_of_getElem? (i := 252) (by decide +kernel), by decide +kernel⟩
theorem wn_83 : Cond.methodLinkNest RX2 29 yX5_cellAt "CardSheets" ∈ m_nest := List.mem_filter.mpr ⟨List.mem_of_getElem? (i := 324) (by decide +kernel), by decide +kernel⟩
theorem wd_84 : Cond.static yX5_cellAt ∈ m_gd := List.mem_filter.mpr ⟨List.mem_of_getElem? (i := 325) (by decide +kernel), by decide +kernel⟩
theorem wd_85 : Cond.code yX5_cellAt cX5_cellAt 4 (some .int) ∈ m_gd := List.mem_filter.mpr ⟨List.mem_of_getElem? (i := 326) (by decide +kernel), by decide +kernel⟩
theorem wd_86 : Cond.methodLink RX2 33 yX2_cardCutTo ∈ m_gd := List.mem_filter.mpr ⟨List.mem_of_getElem? (i := 515) (by decide +kernel), by decide +kernel⟩
theorem wd_87 : Cond.methodLink RX3 3 Lib.objectInit ∈ m_gd := List.mem_filter.mpr ⟨List.mem_of_getElem? (i := 25) (by decide +kernel), by decide +kernel⟩
theorem wd_88 : Cond.fieldLink RX3 9 RX3 (TX3 0).2.1 (TX3 0).2.2.1 ∈ m_gd := List.mem_filter.mpr ⟨List.mem_of_getElem? (i := 53) (by decide +kernel), by decide +kernel⟩
theorem wd_89 : Cond.fieldLink RX3 15 RX3 (TX3 1).2.1 (TX3 1).2.2.1 ∈ m_gd := List.mem_filter.mpr ⟨List.mem_of_getElem? (i := 55) (by decide +kernel), by decide +kernel⟩
theorem wd_90 : Cond.fieldLink RX3 18 RX3 (TX3 2).2.1 (TX3 2).2.2.1 ∈ m_gd := List.mem_filter.mpr ⟨List.mem_of_getElem? (i := 57) (by decide +kernel), by decide +kernel⟩
theorem wd_91 : Cond.fieldLink RX3 21 RX3 (TX3 3).2.1 (TX3 3).2.2.1 ∈ m_gd := List.mem_filter.mpr ⟨List.mem_of_getElem? (i := 59) (by decide +kernel), by decide +kernel⟩
theorem wd_92 : Cond.classLink RX3 24 RX2 ∈ m_gd := List.mem_filter.mpr ⟨List.mem_of_getElem? (i := 26) (by decide +kernel), by decide +kernel⟩
theorem wd_93 : Cond.fieldLink RX3 26 RX3 (TX3 4).2.1 (TX3 4).2.2.1 ∈ m_gd := List.mem_filter.mpr ⟨List.mem_of_getElem? (i := 61) (by decide +kernel), by decide +kernel⟩
theorem wd_94 : Cond.classLink RX3 30 RX1 ∈ m_gd := List.mem_filter.mpr ⟨List.mem_of_getElem? (i := 28) (by decide +kernel), by decide +kernel⟩
theorem wd_95 : Cond.instantiable RX1 3 ∈ m_gd := List.mem_filter.mpr ⟨List.mem_of_getElem? (i := 29) (by decide +kernel), by decide +kernel⟩
theorem wn_96 : Cond.methodLinkNest RX3 32 yX1_init "CardSheets" ∈ m_nest := List.mem_filter.mpr ⟨List.mem_of_getElem? (i := 30) (by decide +kernel), by decide +kernel⟩
theorem wd_97 : Cond.instanceMethod yX1_init ∈ m_gd := List.mem_filter.mpr ⟨List.mem_of_getElem? (i := 31) (by decide +kernel), by decide +kernel⟩
theorem wd_98 : Cond.code yX1_init cX1_init 1 none ∈ m_gd := List.mem_filter.mpr ⟨List.mem_of_getElem? (i := 32) (by decide +kernel), by decide +kernel⟩
theorem wd_99 : Cond.fieldLink RX3 33 RX3 (TX3 5).2.1 (TX3 5).2.2.1 ∈ m_gd := List.mem_filter.mpr ⟨List.mem_of_getElem? (i := 62) (by decide +kernel), by decide +kernel⟩
theorem wd_100 : Cond.fieldLink RX3 37 RX3 (TX3 6).2.1 (TX3 6).2.2.1 ∈ m_gd := List.mem_filter.mpr ⟨List.mem_of_getElem? (i := 64) (by decide +kernel), by decide +kernel⟩
theorem wd_101 : Cond.fieldLink RX3 41 RX3 (TX3 7).2.1 (TX3 7).2.2.1 ∈ m_gd := List.mem_filter.mpr ⟨List.mem_of_getElem? (i := 66) (by decide +kernel), by decide +kernel⟩
theorem wd_102 : Cond.fieldLink RX3 44 RX3 (TX3 8).2.1 (TX3 8).2.2.1 ∈ m_gd := List.mem_filter.mpr ⟨List.mem_of_getElem? (i := 68) (by decide +kernel), by decide +kernel⟩
theorem wd_103 : Cond.fieldLink RX3 47 RX3 (TX3 9).2.1 (TX3 9).2.2.1 ∈ m_gd := List.mem_filter.mpr ⟨List.mem_of_getElem? (i := 70) (by decide +kernel), by decide +kernel⟩
theorem wd_104 : Cond.fieldLink RX3 50 RX3 (TX3 10).2.1 (TX3 10).2.2.1 ∈ m_gd := List.mem_filter.mpr ⟨List.mem_of_getElem? (i := 72) (by decide +kernel), by decide +kernel⟩
theorem wn_105 : Cond.fieldLinkNest RX3 53 "CardSheets" "FIRST_OF_SETTING" "[I" "CardSheets" ∈ m_nest := List.mem_filter.mpr ⟨List.mem_of_getElem? (i := 48) (by decide +kernel), by decide +kernel⟩
theorem wn_106 : Cond.methodLinkNest RX3 56 yX5_at "CardSheets" ∈ m_nest := List.mem_filter.mpr ⟨List.mem_of_getElem? (i := 50) (by decide +kernel), by decide +kernel⟩
theorem wn_107 : Cond.methodLinkNest RX3 60 yX5_copyRow "CardSheets" ∈ m_nest := List.mem_filter.mpr ⟨List.mem_of_getElem? (i := 178) (by decide +kernel), by decide +kernel⟩
theorem wd_108 : Cond.methodLink RX3 64 yX1_copyFrom ∈ m_gd := List.mem_filter.mpr ⟨List.mem_of_getElem? (i := 187) (by decide +kernel), by decide +kernel⟩
theorem wd_109 : Cond.instanceMethod yX1_copyFrom ∈ m_gd := List.mem_filter.mpr ⟨List.mem_of_getElem? (i := 188) (by decide +kernel), by decide +kernel⟩
theorem wd_110 : Cond.selects RX1 yX1_copyFrom yX1_copyFrom ∈ m_gd := List.mem_filter.mpr ⟨List.mem_of_getElem? (i := 189) (by decide +kernel), by decide +kernel⟩
theorem wd_111 : Cond.code yX1_copyFrom cX1_copyFrom 2 none ∈ m_gd := List.mem_filter.mpr ⟨List.mem_of_getElem? (i := 190) (by decide +kernel), by decide +kernel⟩
theorem wn_112 : Cond.methodLinkNest RX3 68 yX5_put "CardSheets" ∈ m_nest := List.mem_filter.mpr ⟨List.mem_of_getElem? (i := 227) (by decide +kernel), by decide +kernel⟩
theorem wd_113 : Cond.methodLink RX3 72 yJ6_bitCount_0f7a4 ∈ m_gd := List.mem_filter.mpr ⟨List.mem_of_getElem? (i := 467) (by decide +kernel), by decide +kernel⟩
theorem wd_114 : Cond.static yJ6_bitCount_0f7a4 ∈ m_gd := List.mem_filter.mpr ⟨List.mem_of_getElem? (i := 468) (by decide +kernel), by decide +kernel⟩
theorem wd_115 : Cond.initialized "java/lang/Integer" ∈ m_gd := List.mem_filter.mpr ⟨List.mem_of_getElem? (i := 9) (by decide +kernel), by decide +kernel⟩
