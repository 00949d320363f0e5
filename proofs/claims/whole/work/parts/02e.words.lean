def wk_isX (w : Cond) : Bool := match w with
  | .methodLinkNest .. => true
  | .declares _ => true
  | .castable .. => true
  | _ => false
def wk_T : List Cond := lw_tbl.filter goodWord
def wk_X : List Cond := lw_tbl.filter wk_isX
theorem mw_0 : (Cond.selects RX11 yX11_giveRank yX11_giveRank) ∈ wk_T := List.mem_filter.mpr ⟨List.mem_of_getElem? (i := 0) (by decide +kernel), rfl⟩
theorem mw_1 : (Cond.selects RX11 yX11_doDuty yX11_doDuty) ∈ wk_T := List.mem_filter.mpr ⟨List.mem_of_getElem? (i := 1) (by decide +kernel), rfl⟩
theorem mw_2 : (Cond.selects RX11 yX11_sailLine yX11_sailLine) ∈ wk_T := List.mem_filter.mpr ⟨List.mem_of_getElem? (i := 2) (by decide +kernel), rfl⟩
theorem mw_3 : (Cond.selects RX12 yX12_isMember yX12_isMember) ∈ wk_T := List.mem_filter.mpr ⟨List.mem_of_getElem? (i := 3) (by decide +kernel), rfl⟩
theorem mw_4 : (Cond.selects RX12 yX12_begin yX12_begin) ∈ wk_T := List.mem_filter.mpr ⟨List.mem_of_getElem? (i := 4) (by decide +kernel), rfl⟩
theorem mw_5 : (Cond.selects RX12 yX12_may yX12_may) ∈ wk_T := List.mem_filter.mpr ⟨List.mem_of_getElem? (i := 5) (by decide +kernel), rfl⟩
theorem mw_6 : (Cond.selects RX12 yX12_work yX12_work) ∈ wk_T := List.mem_filter.mpr ⟨List.mem_of_getElem? (i := 6) (by decide +kernel), rfl⟩
theorem mw_7 : (Cond.selects RX12 yX12_does yX12_does) ∈ wk_T := List.mem_filter.mpr ⟨List.mem_of_getElem? (i := 7) (by decide +kernel), rfl⟩
theorem mw_8 : (Cond.selects RX12 yX12_toils yX12_toils) ∈ wk_T := List.mem_filter.mpr ⟨List.mem_of_getElem? (i := 8) (by decide +kernel), rfl⟩
theorem mw_9 : (Cond.selects RX12 yX12_soulToils yX12_soulToils) ∈ wk_T := List.mem_filter.mpr ⟨List.mem_of_getElem? (i := 9) (by decide +kernel), rfl⟩
theorem mw_10 : (Cond.selects RX12 yX12_mark yX12_mark) ∈ wk_T := List.mem_filter.mpr ⟨List.mem_of_getElem? (i := 10) (by decide +kernel), rfl⟩
theorem mw_11 : (Cond.selects RX12 yX12_tire yX12_tire) ∈ wk_T := List.mem_filter.mpr ⟨List.mem_of_getElem? (i := 11) (by decide +kernel), rfl⟩
theorem mw_12 : (Cond.selects RX12 yX12_topmanToils yX12_topmanToils) ∈ wk_T := List.mem_filter.mpr ⟨List.mem_of_getElem? (i := 12) (by decide +kernel), rfl⟩
theorem mw_13 : (Cond.selects RX12 yX12_mateToils yX12_mateToils) ∈ wk_T := List.mem_filter.mpr ⟨List.mem_of_getElem? (i := 13) (by decide +kernel), rfl⟩
theorem mw_14 : (Cond.selects RX12 yX12_masterToils yX12_masterToils) ∈ wk_T := List.mem_filter.mpr ⟨List.mem_of_getElem? (i := 14) (by decide +kernel), rfl⟩
theorem mw_15 : (Cond.selects RX12 yX12_cookToils yX12_cookToils) ∈ wk_T := List.mem_filter.mpr ⟨List.mem_of_getElem? (i := 15) (by decide +kernel), rfl⟩
theorem mw_16 : (Cond.selects RX12 yX12_isPaid yX12_isPaid) ∈ wk_T := List.mem_filter.mpr ⟨List.mem_of_getElem? (i := 16) (by decide +kernel), rfl⟩
theorem mw_17 : (Cond.selects RX12 yX12_bosunIsPaid yX12_bosunIsPaid) ∈ wk_T := List.mem_filter.mpr ⟨List.mem_of_getElem? (i := 17) (by decide +kernel), rfl⟩
theorem mw_18 : (Cond.selects RX12 yX12_handIsPaid yX12_handIsPaid) ∈ wk_T := List.mem_filter.mpr ⟨List.mem_of_getElem? (i := 18) (by decide +kernel), rfl⟩
theorem mw_19 : (Cond.selects RX12 yX12_howMany yX12_howMany) ∈ wk_T := List.mem_filter.mpr ⟨List.mem_of_getElem? (i := 19) (by decide +kernel), rfl⟩
theorem mw_20 : (Cond.selects RX12 yX12_masterIsPaid yX12_masterIsPaid) ∈ wk_T := List.mem_filter.mpr ⟨List.mem_of_getElem? (i := 20) (by decide +kernel), rfl⟩
theorem mw_21 : (Cond.selects RX12 yX12_surgeonIsPaid yX12_surgeonIsPaid) ∈ wk_T := List.mem_filter.mpr ⟨List.mem_of_getElem? (i := 21) (by decide +kernel), rfl⟩
theorem mw_22 : (Cond.selects RX12 yX12_climbs yX12_climbs) ∈ wk_T := List.mem_filter.mpr ⟨List.mem_of_getElem? (i := 22) (by decide +kernel), rfl⟩
theorem mw_23 : (Cond.selects RX12 yX12_sailorClimbs yX12_sailorClimbs) ∈ wk_T := List.mem_filter.mpr ⟨List.mem_of_getElem? (i := 23) (by decide +kernel), rfl⟩
theorem mw_24 : (Cond.selects RX12 yX12_soulClimbs yX12_soulClimbs) ∈ wk_T := List.mem_filter.mpr ⟨List.mem_of_getElem? (i := 24) (by decide +kernel), rfl⟩
theorem mw_25 : (Cond.selects RX12 yX12_mateClimbs yX12_mateClimbs) ∈ wk_T := List.mem_filter.mpr ⟨List.mem_of_getElem? (i := 25) (by decide +kernel), rfl⟩
theorem mw_26 : (Cond.selects RX12 yX12_surgeonClimbs yX12_surgeonClimbs) ∈ wk_T := List.mem_filter.mpr ⟨List.mem_of_getElem? (i := 26) (by decide +kernel), rfl⟩
theorem mw_27 : (Cond.selects RX12 yX12_heeds yX12_heeds) ∈ wk_T := List.mem_filter.mpr ⟨List.mem_of_getElem? (i := 27) (by decide +kernel), rfl⟩
theorem mw_28 : (Cond.selects RX12 yX12_soulHeeds yX12_soulHeeds) ∈ wk_T := List.mem_filter.mpr ⟨List.mem_of_getElem? (i := 28) (by decide +kernel), rfl⟩
theorem mw_29 : (Cond.selects RX12 yX12_topmanHeeds yX12_topmanHeeds) ∈ wk_T := List.mem_filter.mpr ⟨List.mem_of_getElem? (i := 29) (by decide +kernel), rfl⟩
theorem mw_30 : (Cond.selects RX12 yX12_bosunHeeds yX12_bosunHeeds) ∈ wk_T := List.mem_filter.mpr ⟨List.mem_of_getElem? (i := 30) (by decide +kernel), rfl⟩
theorem mw_31 : (Cond.selects RX12 yX12_masterHeeds yX12_masterHeeds) ∈ wk_T := List.mem_filter.mpr ⟨List.mem_of_getElem? (i := 31) (by decide +kernel), rfl⟩
theorem mw_32 : (Cond.selects RX12 yX12_cookHeeds yX12_cookHeeds) ∈ wk_T := List.mem_filter.mpr ⟨List.mem_of_getElem? (i := 32) (by decide +kernel), rfl⟩
theorem mw_33 : (Cond.initialized RL) ∈ wk_T := List.mem_filter.mpr ⟨List.mem_of_getElem? (i := 33) (by decide +kernel), rfl⟩
theorem mw_34 : (Cond.initialized RX11) ∈ wk_T := List.mem_filter.mpr ⟨List.mem_of_getElem? (i := 34) (by decide +kernel), rfl⟩
theorem mw_35 : (Cond.initialized RX2) ∈ wk_T := List.mem_filter.mpr ⟨List.mem_of_getElem? (i := 35) (by decide +kernel), rfl⟩
theorem mw_36 : (Cond.initialized RX8) ∈ wk_T := List.mem_filter.mpr ⟨List.mem_of_getElem? (i := 36) (by decide +kernel), rfl⟩
theorem mw_37 : (Cond.initialized RX3) ∈ wk_T := List.mem_filter.mpr ⟨List.mem_of_getElem? (i := 37) (by decide +kernel), rfl⟩
theorem mw_38 : (Cond.initialized RX7) ∈ wk_T := List.mem_filter.mpr ⟨List.mem_of_getElem? (i := 38) (by decide +kernel), rfl⟩
theorem mw_39 : (Cond.initialized RX10) ∈ wk_T := List.mem_filter.mpr ⟨List.mem_of_getElem? (i := 39) (by decide +kernel), rfl⟩
theorem mw_40 : (Cond.initialized RX0) ∈ wk_T := List.mem_filter.mpr ⟨List.mem_of_getElem? (i := 40) (by decide +kernel), rfl⟩
theorem mw_41 : (Cond.initialized RX5) ∈ wk_T := List.mem_filter.mpr ⟨List.mem_of_getElem? (i := 41) (by decide +kernel), rfl⟩
theorem mw_42 : (Cond.initialized RX4) ∈ wk_T := List.mem_filter.mpr ⟨List.mem_of_getElem? (i := 42) (by decide +kernel), rfl⟩
theorem mw_43 : (Cond.initialized RX1) ∈ wk_T := List.mem_filter.mpr ⟨List.mem_of_getElem? (i := 43) (by decide +kernel), rfl⟩
theorem mw_44 : (Cond.initialized RX9) ∈ wk_T := List.mem_filter.mpr ⟨List.mem_of_getElem? (i := 44) (by decide +kernel), rfl⟩
theorem mw_45 : (Cond.initialized RX12) ∈ wk_T := List.mem_filter.mpr ⟨List.mem_of_getElem? (i := 45) (by decide +kernel), rfl⟩
theorem mw_46 : (Cond.initialized RX6) ∈ wk_T := List.mem_filter.mpr ⟨List.mem_of_getElem? (i := 46) (by decide +kernel), rfl⟩
theorem mw_47 : (Cond.classLink RL 7 RX11) ∈ wk_T := List.mem_filter.mpr ⟨List.mem_of_getElem? (i := 47) (by decide +kernel), rfl⟩
theorem mw_48 : (Cond.instantiable RX11 6) ∈ wk_T := List.mem_filter.mpr ⟨List.mem_of_getElem? (i := 48) (by decide +kernel), rfl⟩
theorem mw_49 : (Cond.methodLink RL 9 yX11_init) ∈ wk_T := List.mem_filter.mpr ⟨List.mem_of_getElem? (i := 49) (by decide +kernel), rfl⟩
theorem mw_50 : (Cond.instanceMethod yX11_init) ∈ wk_T := List.mem_filter.mpr ⟨List.mem_of_getElem? (i := 50) (by decide +kernel), rfl⟩
theorem mw_51 : (Cond.code yX11_init prog_1_method_1_code 2 (Option.none : Option FieldType)) ∈ wk_T := List.mem_filter.mpr ⟨List.mem_of_getElem? (i := 51) (by decide +kernel), rfl⟩
theorem mw_52 : (Cond.methodLink RX11 1 (⟨"java/lang/Object", "<init>", "()V"⟩ : MethodName)) ∈ wk_T := List.mem_filter.mpr ⟨List.mem_of_getElem? (i := 52) (by decide +kernel), rfl⟩
theorem mw_53 : (Cond.instanceMethod (⟨"java/lang/Object", "<init>", "()V"⟩ : MethodName)) ∈ wk_T := List.mem_filter.mpr ⟨List.mem_of_getElem? (i := 53) (by decide +kernel), rfl⟩
theorem mw_54 : (Cond.code (⟨"java/lang/Object", "<init>", "()V"⟩ : MethodName) object_method_1_code 1 (Option.none : Option FieldType)) ∈ wk_T := List.mem_filter.mpr ⟨List.mem_of_getElem? (i := 54) (by decide +kernel), rfl⟩
theorem mw_55 : (Cond.classLink RX11 7 RX2) ∈ wk_T := List.mem_filter.mpr ⟨List.mem_of_getElem? (i := 55) (by decide +kernel), rfl⟩
theorem mw_56 : (Cond.instantiable RX2 5) ∈ wk_T := List.mem_filter.mpr ⟨List.mem_of_getElem? (i := 56) (by decide +kernel), rfl⟩
theorem mx_57 : (Cond.methodLinkNest RX11 9 yX2_init RX11) ∈ wk_X := List.mem_filter.mpr ⟨List.mem_of_getElem? (i := 57) (by decide +kernel), rfl⟩
theorem mw_58 : (Cond.instanceMethod yX2_init) ∈ wk_T := List.mem_filter.mpr ⟨List.mem_of_getElem? (i := 58) (by decide +kernel), rfl⟩
theorem mw_59 : (Cond.code yX2_init prog_4_method_1_code 1 (Option.none : Option FieldType)) ∈ wk_T := List.mem_filter.mpr ⟨List.mem_of_getElem? (i := 59) (by decide +kernel), rfl⟩
theorem mw_60 : (Cond.methodLink RX2 3 (⟨"java/lang/Object", "<init>", "()V"⟩ : MethodName)) ∈ wk_T := List.mem_filter.mpr ⟨List.mem_of_getElem? (i := 60) (by decide +kernel), rfl⟩
theorem mw_61 : (Cond.fieldLink RX9 19 RX2 "first" "LWatchBill$Member;") ∈ wk_T := List.mem_filter.mpr ⟨List.mem_of_getElem? (i := 61) (by decide +kernel), rfl⟩
theorem mw_62 : (Cond.fieldLink RX0 21 RX2 "first" "LWatchBill$Member;") ∈ wk_T := List.mem_filter.mpr ⟨List.mem_of_getElem? (i := 62) (by decide +kernel), rfl⟩
theorem mw_63 : (Cond.fieldLink RX2 28 RX2 "first" "LWatchBill$Member;") ∈ wk_T := List.mem_filter.mpr ⟨List.mem_of_getElem? (i := 63) (by decide +kernel), rfl⟩
theorem mw_64 : (Cond.fieldLink RX11 135 RX2 "first" "LWatchBill$Member;") ∈ wk_T := List.mem_filter.mpr ⟨List.mem_of_getElem? (i := 64) (by decide +kernel), rfl⟩
theorem mw_65 : (Cond.fieldLink RX2 24 RX2 "last" "LWatchBill$Member;") ∈ wk_T := List.mem_filter.mpr ⟨List.mem_of_getElem? (i := 65) (by decide +kernel), rfl⟩
theorem mw_66 : (Cond.fieldLink RX2 17 RX2 "count" "I") ∈ wk_T := List.mem_filter.mpr ⟨List.mem_of_getElem? (i := 66) (by decide +kernel), rfl⟩
theorem mw_67 : (Cond.fieldLink RX11 63 RX2 "count" "I") ∈ wk_T := List.mem_filter.mpr ⟨List.mem_of_getElem? (i := 67) (by decide +kernel), rfl⟩
theorem mw_68 : (Cond.fieldLink RX2 9 RX2 "kept" "[I") ∈ wk_T := List.mem_filter.mpr ⟨List.mem_of_getElem? (i := 68) (by decide +kernel), rfl⟩
theorem mw_69 : (Cond.fieldLink RX11 166 RX2 "kept" "[I") ∈ wk_T := List.mem_filter.mpr ⟨List.mem_of_getElem? (i := 69) (by decide +kernel), rfl⟩
theorem mw_70 : (Cond.fieldLink RX2 37 RX2 "noted" "I") ∈ wk_T := List.mem_filter.mpr ⟨List.mem_of_getElem? (i := 70) (by decide +kernel), rfl⟩
theorem mw_71 : (Cond.fieldLink RX11 163 RX2 "noted" "I") ∈ wk_T := List.mem_filter.mpr ⟨List.mem_of_getElem? (i := 71) (by decide +kernel), rfl⟩
theorem mw_72 : (Cond.lays RX2 RX2 "first" "LWatchBill$Member;") ∈ wk_T := List.mem_filter.mpr ⟨List.mem_of_getElem? (i := 72) (by decide +kernel), rfl⟩
theorem mw_74 : (Cond.lays RX2 RX2 "last" "LWatchBill$Member;") ∈ wk_T := List.mem_filter.mpr ⟨List.mem_of_getElem? (i := 74) (by decide +kernel), rfl⟩
theorem mw_76 : (Cond.lays RX2 RX2 "count" "I") ∈ wk_T := List.mem_filter.mpr ⟨List.mem_of_getElem? (i := 76) (by decide +kernel), rfl⟩
theorem mw_78 : (Cond.laysFinal RX2 RX2 "kept" "[I") ∈ wk_T := List.mem_filter.mpr ⟨List.mem_of_getElem? (i := 78) (by decide +kernel), rfl⟩
theorem mw_80 : (Cond.lays RX2 RX2 "noted" "I") ∈ wk_T := List.mem_filter.mpr ⟨List.mem_of_getElem? (i := 80) (by decide +kernel), rfl⟩
theorem mw_82 : (Cond.superclass RX2 "java/lang/Object") ∈ wk_T := List.mem_filter.mpr ⟨List.mem_of_getElem? (i := 82) (by decide +kernel), rfl⟩
theorem mw_83 : (Cond.arrayClass FieldType.int) ∈ wk_T := List.mem_filter.mpr ⟨List.mem_of_getElem? (i := 83) (by decide +kernel), rfl⟩
theorem mw_84 : (Cond.classLink RX11 16 RX8) ∈ wk_T := List.mem_filter.mpr ⟨List.mem_of_getElem? (i := 84) (by decide +kernel), rfl⟩
theorem ma_85 : (Cond.arrayOver (FieldType.object RX8)) ∈ lw_tbl := List.mem_of_getElem? (i := 85) (by decide +kernel)
theorem mw_86 : (Cond.classLink RX11 18 RX3) ∈ wk_T := List.mem_filter.mpr ⟨List.mem_of_getElem? (i := 86) (by decide +kernel), rfl⟩
theorem mw_87 : (Cond.instantiable RX3 0) ∈ wk_T := List.mem_filter.mpr ⟨List.mem_of_getElem? (i := 87) (by decide +kernel), rfl⟩
theorem mx_88 : (Cond.methodLinkNest RX11 20 yX3_init RX11) ∈ wk_X := List.mem_filter.mpr ⟨List.mem_of_getElem? (i := 88) (by decide +kernel), rfl⟩
theorem mw_89 : (Cond.instanceMethod yX3_init) ∈ wk_T := List.mem_filter.mpr ⟨List.mem_of_getElem? (i := 89) (by decide +kernel), rfl⟩
theorem mw_90 : (Cond.code yX3_init prog_5_method_1_code 1 (Option.none : Option FieldType)) ∈ wk_T := List.mem_filter.mpr ⟨List.mem_of_getElem? (i := 90) (by decide +kernel), rfl⟩
theorem mx_91 : (Cond.methodLinkNest RX3 3 yX8_init RX11) ∈ wk_X := List.mem_filter.mpr ⟨List.mem_of_getElem? (i := 91) (by decide +kernel), rfl⟩
theorem mw_92 : (Cond.instanceMethod yX8_init) ∈ wk_T := List.mem_filter.mpr ⟨List.mem_of_getElem? (i := 92) (by decide +kernel), rfl⟩
theorem mw_93 : (Cond.code yX8_init prog_10_method_1_code 1 (Option.none : Option FieldType)) ∈ wk_T := List.mem_filter.mpr ⟨List.mem_of_getElem? (i := 93) (by decide +kernel), rfl⟩
theorem mw_94 : (Cond.methodLink RX8 3 (⟨"java/lang/Object", "<init>", "()V"⟩ : MethodName)) ∈ wk_T := List.mem_filter.mpr ⟨List.mem_of_getElem? (i := 94) (by decide +kernel), rfl⟩
theorem mw_95 : (Cond.superclass RX3 RX8) ∈ wk_T := List.mem_filter.mpr ⟨List.mem_of_getElem? (i := 95) (by decide +kernel), rfl⟩
theorem mw_96 : (Cond.classLink RX11 21 RX7) ∈ wk_T := List.mem_filter.mpr ⟨List.mem_of_getElem? (i := 96) (by decide +kernel), rfl⟩
theorem mw_97 : (Cond.instantiable RX7 0) ∈ wk_T := List.mem_filter.mpr ⟨List.mem_of_getElem? (i := 97) (by decide +kernel), rfl⟩
theorem mx_98 : (Cond.methodLinkNest RX11 23 yX7_init RX11) ∈ wk_X := List.mem_filter.mpr ⟨List.mem_of_getElem? (i := 98) (by decide +kernel), rfl⟩
theorem mw_99 : (Cond.instanceMethod yX7_init) ∈ wk_T := List.mem_filter.mpr ⟨List.mem_of_getElem? (i := 99) (by decide +kernel), rfl⟩
theorem mw_100 : (Cond.code yX7_init prog_9_method_1_code 1 (Option.none : Option FieldType)) ∈ wk_T := List.mem_filter.mpr ⟨List.mem_of_getElem? (i := 100) (by decide +kernel), rfl⟩
theorem mx_101 : (Cond.methodLinkNest RX7 3 yX3_init RX11) ∈ wk_X := List.mem_filter.mpr ⟨List.mem_of_getElem? (i := 101) (by decide +kernel), rfl⟩
theorem mw_102 : (Cond.superclass RX7 RX3) ∈ wk_T := List.mem_filter.mpr ⟨List.mem_of_getElem? (i := 102) (by decide +kernel), rfl⟩
theorem mw_103 : (Cond.classLink RX11 24 RX10) ∈ wk_T := List.mem_filter.mpr ⟨List.mem_of_getElem? (i := 103) (by decide +kernel), rfl⟩
theorem mw_104 : (Cond.instantiable RX10 0) ∈ wk_T := List.mem_filter.mpr ⟨List.mem_of_getElem? (i := 104) (by decide +kernel), rfl⟩
theorem mx_105 : (Cond.methodLinkNest RX11 26 yX10_init RX11) ∈ wk_X := List.mem_filter.mpr ⟨List.mem_of_getElem? (i := 105) (by decide +kernel), rfl⟩
theorem mw_106 : (Cond.instanceMethod yX10_init) ∈ wk_T := List.mem_filter.mpr ⟨List.mem_of_getElem? (i := 106) (by decide +kernel), rfl⟩
theorem mw_107 : (Cond.code yX10_init prog_12_method_1_code 1 (Option.none : Option FieldType)) ∈ wk_T := List.mem_filter.mpr ⟨List.mem_of_getElem? (i := 107) (by decide +kernel), rfl⟩
theorem mx_108 : (Cond.methodLinkNest RX10 3 yX7_init RX11) ∈ wk_X := List.mem_filter.mpr ⟨List.mem_of_getElem? (i := 108) (by decide +kernel), rfl⟩
theorem mw_109 : (Cond.superclass RX10 RX7) ∈ wk_T := List.mem_filter.mpr ⟨List.mem_of_getElem? (i := 109) (by decide +kernel), rfl⟩
theorem mw_110 : (Cond.classLink RX11 27 RX0) ∈ wk_T := List.mem_filter.mpr ⟨List.mem_of_getElem? (i := 110) (by decide +kernel), rfl⟩
theorem mw_111 : (Cond.instantiable RX0 0) ∈ wk_T := List.mem_filter.mpr ⟨List.mem_of_getElem? (i := 111) (by decide +kernel), rfl⟩
theorem mx_112 : (Cond.methodLinkNest RX11 29 yX0_init RX11) ∈ wk_X := List.mem_filter.mpr ⟨List.mem_of_getElem? (i := 112) (by decide +kernel), rfl⟩
theorem mw_113 : (Cond.instanceMethod yX0_init) ∈ wk_T := List.mem_filter.mpr ⟨List.mem_of_getElem? (i := 113) (by decide +kernel), rfl⟩
theorem mw_114 : (Cond.code yX0_init prog_2_method_1_code 1 (Option.none : Option FieldType)) ∈ wk_T := List.mem_filter.mpr ⟨List.mem_of_getElem? (i := 114) (by decide +kernel), rfl⟩
theorem mx_115 : (Cond.methodLinkNest RX0 3 yX10_init RX11) ∈ wk_X := List.mem_filter.mpr ⟨List.mem_of_getElem? (i := 115) (by decide +kernel), rfl⟩
theorem mw_116 : (Cond.superclass RX0 RX10) ∈ wk_T := List.mem_filter.mpr ⟨List.mem_of_getElem? (i := 116) (by decide +kernel), rfl⟩
theorem mw_117 : (Cond.classLink RX11 30 RX5) ∈ wk_T := List.mem_filter.mpr ⟨List.mem_of_getElem? (i := 117) (by decide +kernel), rfl⟩
theorem mw_118 : (Cond.instantiable RX5 0) ∈ wk_T := List.mem_filter.mpr ⟨List.mem_of_getElem? (i := 118) (by decide +kernel), rfl⟩
theorem mx_119 : (Cond.methodLinkNest RX11 32 yX5_init RX11) ∈ wk_X := List.mem_filter.mpr ⟨List.mem_of_getElem? (i := 119) (by decide +kernel), rfl⟩
theorem mw_120 : (Cond.instanceMethod yX5_init) ∈ wk_T := List.mem_filter.mpr ⟨List.mem_of_getElem? (i := 120) (by decide +kernel), rfl⟩
theorem mw_121 : (Cond.code yX5_init prog_7_method_1_code 1 (Option.none : Option FieldType)) ∈ wk_T := List.mem_filter.mpr ⟨List.mem_of_getElem? (i := 121) (by decide +kernel), rfl⟩
theorem mx_122 : (Cond.methodLinkNest RX5 3 yX0_init RX11) ∈ wk_X := List.mem_filter.mpr ⟨List.mem_of_getElem? (i := 122) (by decide +kernel), rfl⟩
theorem mw_123 : (Cond.superclass RX5 RX0) ∈ wk_T := List.mem_filter.mpr ⟨List.mem_of_getElem? (i := 123) (by decide +kernel), rfl⟩
theorem mw_124 : (Cond.classLink RX11 33 RX4) ∈ wk_T := List.mem_filter.mpr ⟨List.mem_of_getElem? (i := 124) (by decide +kernel), rfl⟩
theorem mw_125 : (Cond.instantiable RX4 0) ∈ wk_T := List.mem_filter.mpr ⟨List.mem_of_getElem? (i := 125) (by decide +kernel), rfl⟩
theorem mx_126 : (Cond.methodLinkNest RX11 35 yX4_init RX11) ∈ wk_X := List.mem_filter.mpr ⟨List.mem_of_getElem? (i := 126) (by decide +kernel), rfl⟩
theorem mw_127 : (Cond.instanceMethod yX4_init) ∈ wk_T := List.mem_filter.mpr ⟨List.mem_of_getElem? (i := 127) (by decide +kernel), rfl⟩
theorem mw_128 : (Cond.code yX4_init prog_6_method_1_code 1 (Option.none : Option FieldType)) ∈ wk_T := List.mem_filter.mpr ⟨List.mem_of_getElem? (i := 128) (by decide +kernel), rfl⟩
theorem mx_129 : (Cond.methodLinkNest RX4 3 yX5_init RX11) ∈ wk_X := List.mem_filter.mpr ⟨List.mem_of_getElem? (i := 129) (by decide +kernel), rfl⟩
theorem mw_130 : (Cond.superclass RX4 RX5) ∈ wk_T := List.mem_filter.mpr ⟨List.mem_of_getElem? (i := 130) (by decide +kernel), rfl⟩
theorem mw_131 : (Cond.classLink RX11 36 RX1) ∈ wk_T := List.mem_filter.mpr ⟨List.mem_of_getElem? (i := 131) (by decide +kernel), rfl⟩
theorem mw_132 : (Cond.instantiable RX1 0) ∈ wk_T := List.mem_filter.mpr ⟨List.mem_of_getElem? (i := 132) (by decide +kernel), rfl⟩
theorem mx_133 : (Cond.methodLinkNest RX11 38 yX1_init RX11) ∈ wk_X := List.mem_filter.mpr ⟨List.mem_of_getElem? (i := 133) (by decide +kernel), rfl⟩
theorem mw_134 : (Cond.instanceMethod yX1_init) ∈ wk_T := List.mem_filter.mpr ⟨List.mem_of_getElem? (i := 134) (by decide +kernel), rfl⟩
theorem mw_135 : (Cond.code yX1_init prog_3_method_1_code 1 (Option.none : Option FieldType)) ∈ wk_T := List.mem_filter.mpr ⟨List.mem_of_getElem? (i := 135) (by decide +kernel), rfl⟩
theorem mx_136 : (Cond.methodLinkNest RX1 3 yX3_init RX11) ∈ wk_X := List.mem_filter.mpr ⟨List.mem_of_getElem? (i := 136) (by decide +kernel), rfl⟩
theorem mw_137 : (Cond.superclass RX1 RX3) ∈ wk_T := List.mem_filter.mpr ⟨List.mem_of_getElem? (i := 137) (by decide +kernel), rfl⟩
theorem mw_138 : (Cond.classLink RX11 39 RX9) ∈ wk_T := List.mem_filter.mpr ⟨List.mem_of_getElem? (i := 138) (by decide +kernel), rfl⟩
theorem mw_139 : (Cond.instantiable RX9 0) ∈ wk_T := List.mem_filter.mpr ⟨List.mem_of_getElem? (i := 139) (by decide +kernel), rfl⟩
theorem mx_140 : (Cond.methodLinkNest RX11 41 yX9_init RX11) ∈ wk_X := List.mem_filter.mpr ⟨List.mem_of_getElem? (i := 140) (by decide +kernel), rfl⟩
theorem mw_141 : (Cond.instanceMethod yX9_init) ∈ wk_T := List.mem_filter.mpr ⟨List.mem_of_getElem? (i := 141) (by decide +kernel), rfl⟩
theorem mw_142 : (Cond.code yX9_init prog_11_method_1_code 1 (Option.none : Option FieldType)) ∈ wk_T := List.mem_filter.mpr ⟨List.mem_of_getElem? (i := 142) (by decide +kernel), rfl⟩
theorem mx_143 : (Cond.methodLinkNest RX9 3 yX1_init RX11) ∈ wk_X := List.mem_filter.mpr ⟨List.mem_of_getElem? (i := 143) (by decide +kernel), rfl⟩
theorem mw_144 : (Cond.superclass RX9 RX1) ∈ wk_T := List.mem_filter.mpr ⟨List.mem_of_getElem? (i := 144) (by decide +kernel), rfl⟩
theorem mw_145 : (Cond.fieldLink RX11 10 RX11 "crew" "LWatchBill$Crew;") ∈ wk_T := List.mem_filter.mpr ⟨List.mem_of_getElem? (i := 145) (by decide +kernel), rfl⟩
theorem mw_146 : (Cond.fieldLink RX11 42 RX11 "ranks" "[LWatchBill$Soul;") ∈ wk_T := List.mem_filter.mpr ⟨List.mem_of_getElem? (i := 146) (by decide +kernel), rfl⟩
theorem mw_147 : (Cond.fieldLink RX11 46 RX11 "lineDuty" "[I") ∈ wk_T := List.mem_filter.mpr ⟨List.mem_of_getElem? (i := 147) (by decide +kernel), rfl⟩
theorem mw_148 : (Cond.fieldLink RX11 50 RX11 "lineNumber" "[I") ∈ wk_T := List.mem_filter.mpr ⟨List.mem_of_getElem? (i := 148) (by decide +kernel), rfl⟩
theorem mw_149 : (Cond.fieldLink RX11 53 RX11 "lineLow" "[I") ∈ wk_T := List.mem_filter.mpr ⟨List.mem_of_getElem? (i := 149) (by decide +kernel), rfl⟩
theorem mw_150 : (Cond.fieldLink RX11 56 RX11 "lineHigh" "[I") ∈ wk_T := List.mem_filter.mpr ⟨List.mem_of_getElem? (i := 150) (by decide +kernel), rfl⟩
theorem mw_151 : (Cond.laysFinal RX11 RX11 "crew" "LWatchBill$Crew;") ∈ wk_T := List.mem_filter.mpr ⟨List.mem_of_getElem? (i := 151) (by decide +kernel), rfl⟩
theorem mw_153 : (Cond.laysFinal RX11 RX11 "ranks" "[LWatchBill$Soul;") ∈ wk_T := List.mem_filter.mpr ⟨List.mem_of_getElem? (i := 153) (by decide +kernel), rfl⟩
theorem mw_155 : (Cond.laysFinal RX11 RX11 "lineDuty" "[I") ∈ wk_T := List.mem_filter.mpr ⟨List.mem_of_getElem? (i := 155) (by decide +kernel), rfl⟩
theorem mw_157 : (Cond.laysFinal RX11 RX11 "lineNumber" "[I") ∈ wk_T := List.mem_filter.mpr ⟨List.mem_of_getElem? (i := 157) (by decide +kernel), rfl⟩
theorem mw_159 : (Cond.laysFinal RX11 RX11 "lineLow" "[I") ∈ wk_T := List.mem_filter.mpr ⟨List.mem_of_getElem? (i := 159) (by decide +kernel), rfl⟩
theorem mw_161 : (Cond.laysFinal RX11 RX11 "lineHigh" "[I") ∈ wk_T := List.mem_filter.mpr ⟨List.mem_of_getElem? (i := 161) (by decide +kernel), rfl⟩
theorem mw_163 : (Cond.superclass RX11 "java/lang/Object") ∈ wk_T := List.mem_filter.mpr ⟨List.mem_of_getElem? (i := 163) (by decide +kernel), rfl⟩
theorem mw_164 : (Cond.methodLink RL 13 yX11_enlist) ∈ wk_T := List.mem_filter.mpr ⟨List.mem_of_getElem? (i := 164) (by decide +kernel), rfl⟩
theorem mw_165 : (Cond.instanceMethod yX11_enlist) ∈ wk_T := List.mem_filter.mpr ⟨List.mem_of_getElem? (i := 165) (by decide +kernel), rfl⟩
theorem mw_166 : (Cond.selects RX11 yX11_enlist yX11_enlist) ∈ wk_T := List.mem_filter.mpr ⟨List.mem_of_getElem? (i := 166) (by decide +kernel), rfl⟩
theorem mw_167 : (Cond.code yX11_enlist prog_1_method_2_code 3 (Option.some FieldType.int)) ∈ wk_T := List.mem_filter.mpr ⟨List.mem_of_getElem? (i := 167) (by decide +kernel), rfl⟩
theorem mw_168 : (Cond.methodLink RX11 59 yX11_isRank) ∈ wk_T := List.mem_filter.mpr ⟨List.mem_of_getElem? (i := 168) (by decide +kernel), rfl⟩
theorem mw_169 : (Cond.static yX11_isRank) ∈ wk_T := List.mem_filter.mpr ⟨List.mem_of_getElem? (i := 169) (by decide +kernel), rfl⟩
theorem mw_170 : (Cond.code yX11_isRank prog_1_method_22_code 1 (Option.some FieldType.boolean)) ∈ wk_T := List.mem_filter.mpr ⟨List.mem_of_getElem? (i := 170) (by decide +kernel), rfl⟩
theorem mw_171 : (Cond.constant RX11 67 (-1000000)) ∈ wk_T := List.mem_filter.mpr ⟨List.mem_of_getElem? (i := 171) (by decide +kernel), rfl⟩
theorem mw_172 : (Cond.methodLink RX11 68 yX2_add) ∈ wk_T := List.mem_filter.mpr ⟨List.mem_of_getElem? (i := 172) (by decide +kernel), rfl⟩
theorem mw_173 : (Cond.instanceMethod yX2_add) ∈ wk_T := List.mem_filter.mpr ⟨List.mem_of_getElem? (i := 173) (by decide +kernel), rfl⟩
theorem mw_174 : (Cond.selects RX2 yX2_add yX2_add) ∈ wk_T := List.mem_filter.mpr ⟨List.mem_of_getElem? (i := 174) (by decide +kernel), rfl⟩
theorem mw_175 : (Cond.code yX2_add prog_4_method_2_code 5 (Option.some FieldType.int)) ∈ wk_T := List.mem_filter.mpr ⟨List.mem_of_getElem? (i := 175) (by decide +kernel), rfl⟩
theorem mw_176 : (Cond.classLink RX2 15 RX6) ∈ wk_T := List.mem_filter.mpr ⟨List.mem_of_getElem? (i := 176) (by decide +kernel), rfl⟩
theorem mw_177 : (Cond.instantiable RX6 7) ∈ wk_T := List.mem_filter.mpr ⟨List.mem_of_getElem? (i := 177) (by decide +kernel), rfl⟩
theorem mw_178 : (Cond.methodLink RX2 21 yX6_init) ∈ wk_T := List.mem_filter.mpr ⟨List.mem_of_getElem? (i := 178) (by decide +kernel), rfl⟩
theorem mw_179 : (Cond.instanceMethod yX6_init) ∈ wk_T := List.mem_filter.mpr ⟨List.mem_of_getElem? (i := 179) (by decide +kernel), rfl⟩
theorem mw_180 : (Cond.code yX6_init prog_8_method_1_code 5 (Option.none : Option FieldType)) ∈ wk_T := List.mem_filter.mpr ⟨List.mem_of_getElem? (i := 180) (by decide +kernel), rfl⟩
theorem mw_181 : (Cond.methodLink RX6 3 (⟨"java/lang/Object", "<init>", "()V"⟩ : MethodName)) ∈ wk_T := List.mem_filter.mpr ⟨List.mem_of_getElem? (i := 181) (by decide +kernel), rfl⟩
theorem mw_182 : (Cond.fieldLink RX6 9 RX6 "number" "I") ∈ wk_T := List.mem_filter.mpr ⟨List.mem_of_getElem? (i := 182) (by decide +kernel), rfl⟩
theorem mw_183 : (Cond.fieldLink RX2 34 RX6 "number" "I") ∈ wk_T := List.mem_filter.mpr ⟨List.mem_of_getElem? (i := 183) (by decide +kernel), rfl⟩
theorem mw_184 : (Cond.fieldLink RX8 28 RX6 "number" "I") ∈ wk_T := List.mem_filter.mpr ⟨List.mem_of_getElem? (i := 184) (by decide +kernel), rfl⟩
theorem mw_185 : (Cond.fieldLink RX6 15 RX6 "skill" "I") ∈ wk_T := List.mem_filter.mpr ⟨List.mem_of_getElem? (i := 185) (by decide +kernel), rfl⟩
theorem mw_186 : (Cond.fieldLink RX3 15 RX6 "skill" "I") ∈ wk_T := List.mem_filter.mpr ⟨List.mem_of_getElem? (i := 186) (by decide +kernel), rfl⟩
theorem mw_187 : (Cond.fieldLink RX8 15 RX6 "skill" "I") ∈ wk_T := List.mem_filter.mpr ⟨List.mem_of_getElem? (i := 187) (by decide +kernel), rfl⟩
theorem mw_188 : (Cond.fieldLink RX11 157 RX6 "skill" "I") ∈ wk_T := List.mem_filter.mpr ⟨List.mem_of_getElem? (i := 188) (by decide +kernel), rfl⟩
theorem mw_189 : (Cond.fieldLink RX6 18 RX6 "rank" "I") ∈ wk_T := List.mem_filter.mpr ⟨List.mem_of_getElem? (i := 189) (by decide +kernel), rfl⟩
theorem mw_190 : (Cond.fieldLink RX11 76 RX6 "rank" "I") ∈ wk_T := List.mem_filter.mpr ⟨List.mem_of_getElem? (i := 190) (by decide +kernel), rfl⟩
theorem mw_191 : (Cond.fieldLink RX6 21 RX6 "ways" "LWatchBill$Soul;") ∈ wk_T := List.mem_filter.mpr ⟨List.mem_of_getElem? (i := 191) (by decide +kernel), rfl⟩
theorem mw_192 : (Cond.fieldLink RX0 38 RX6 "ways" "LWatchBill$Soul;") ∈ wk_T := List.mem_filter.mpr ⟨List.mem_of_getElem? (i := 192) (by decide +kernel), rfl⟩
theorem mw_193 : (Cond.fieldLink RX11 94 RX6 "ways" "LWatchBill$Soul;") ∈ wk_T := List.mem_filter.mpr ⟨List.mem_of_getElem? (i := 193) (by decide +kernel), rfl⟩
theorem mw_194 : (Cond.fieldLink RX6 25 RX6 "weary" "I") ∈ wk_T := List.mem_filter.mpr ⟨List.mem_of_getElem? (i := 194) (by decide +kernel), rfl⟩
theorem mw_195 : (Cond.fieldLink RX10 15 RX6 "weary" "I") ∈ wk_T := List.mem_filter.mpr ⟨List.mem_of_getElem? (i := 195) (by decide +kernel), rfl⟩
theorem mw_196 : (Cond.fieldLink RX8 21 RX6 "weary" "I") ∈ wk_T := List.mem_filter.mpr ⟨List.mem_of_getElem? (i := 196) (by decide +kernel), rfl⟩
theorem mw_197 : (Cond.fieldLink RX9 23 RX6 "weary" "I") ∈ wk_T := List.mem_filter.mpr ⟨List.mem_of_getElem? (i := 197) (by decide +kernel), rfl⟩
theorem mw_198 : (Cond.fieldLink RX4 24 RX6 "weary" "I") ∈ wk_T := List.mem_filter.mpr ⟨List.mem_of_getElem? (i := 198) (by decide +kernel), rfl⟩
theorem mw_199 : (Cond.fieldLink RX11 160 RX6 "weary" "I") ∈ wk_T := List.mem_filter.mpr ⟨List.mem_of_getElem? (i := 199) (by decide +kernel), rfl⟩
theorem mw_200 : (Cond.fieldLink RX11 105 RX6 "purse" "J") ∈ wk_T := List.mem_filter.mpr ⟨List.mem_of_getElem? (i := 200) (by decide +kernel), rfl⟩
theorem mw_201 : (Cond.fieldLink RX2 31 RX6 "next" "LWatchBill$Member;") ∈ wk_T := List.mem_filter.mpr ⟨List.mem_of_getElem? (i := 201) (by decide +kernel), rfl⟩
theorem mw_202 : (Cond.fieldLink RX9 31 RX6 "next" "LWatchBill$Member;") ∈ wk_T := List.mem_filter.mpr ⟨List.mem_of_getElem? (i := 202) (by decide +kernel), rfl⟩
theorem mw_203 : (Cond.fieldLink RX0 31 RX6 "next" "LWatchBill$Member;") ∈ wk_T := List.mem_filter.mpr ⟨List.mem_of_getElem? (i := 203) (by decide +kernel), rfl⟩
theorem mw_204 : (Cond.fieldLink RX11 143 RX6 "next" "LWatchBill$Member;") ∈ wk_T := List.mem_filter.mpr ⟨List.mem_of_getElem? (i := 204) (by decide +kernel), rfl⟩
theorem mw_205 : (Cond.laysFinal RX6 RX6 "number" "I") ∈ wk_T := List.mem_filter.mpr ⟨List.mem_of_getElem? (i := 205) (by decide +kernel), rfl⟩
theorem mw_207 : (Cond.laysFinal RX6 RX6 "skill" "I") ∈ wk_T := List.mem_filter.mpr ⟨List.mem_of_getElem? (i := 207) (by decide +kernel), rfl⟩
theorem mw_209 : (Cond.lays RX6 RX6 "rank" "I") ∈ wk_T := List.mem_filter.mpr ⟨List.mem_of_getElem? (i := 209) (by decide +kernel), rfl⟩
theorem mw_211 : (Cond.lays RX6 RX6 "ways" "LWatchBill$Soul;") ∈ wk_T := List.mem_filter.mpr ⟨List.mem_of_getElem? (i := 211) (by decide +kernel), rfl⟩
theorem mw_213 : (Cond.lays RX6 RX6 "weary" "I") ∈ wk_T := List.mem_filter.mpr ⟨List.mem_of_getElem? (i := 213) (by decide +kernel), rfl⟩
theorem mw_215 : (Cond.lays RX6 RX6 "purse" "J") ∈ wk_T := List.mem_filter.mpr ⟨List.mem_of_getElem? (i := 215) (by decide +kernel), rfl⟩
theorem mw_217 : (Cond.lays RX6 RX6 "next" "LWatchBill$Member;") ∈ wk_T := List.mem_filter.mpr ⟨List.mem_of_getElem? (i := 217) (by decide +kernel), rfl⟩
theorem mw_219 : (Cond.superclass RX6 "java/lang/Object") ∈ wk_T := List.mem_filter.mpr ⟨List.mem_of_getElem? (i := 219) (by decide +kernel), rfl⟩
theorem mw_220 : (Cond.methodLink RL 18 yX11_promote) ∈ wk_T := List.mem_filter.mpr ⟨List.mem_of_getElem? (i := 220) (by decide +kernel), rfl⟩
theorem mw_221 : (Cond.instanceMethod yX11_promote) ∈ wk_T := List.mem_filter.mpr ⟨List.mem_of_getElem? (i := 221) (by decide +kernel), rfl⟩
theorem mw_222 : (Cond.selects RX11 yX11_promote yX11_promote) ∈ wk_T := List.mem_filter.mpr ⟨List.mem_of_getElem? (i := 222) (by decide +kernel), rfl⟩
theorem mw_223 : (Cond.code yX11_promote prog_1_method_3_code 3 (Option.some FieldType.int)) ∈ wk_T := List.mem_filter.mpr ⟨List.mem_of_getElem? (i := 223) (by decide +kernel), rfl⟩
theorem mw_224 : (Cond.methodLink RX11 72 yX2_member) ∈ wk_T := List.mem_filter.mpr ⟨List.mem_of_getElem? (i := 224) (by decide +kernel), rfl⟩
theorem mw_225 : (Cond.instanceMethod yX2_member) ∈ wk_T := List.mem_filter.mpr ⟨List.mem_of_getElem? (i := 225) (by decide +kernel), rfl⟩
theorem mw_226 : (Cond.selects RX2 yX2_member yX2_member) ∈ wk_T := List.mem_filter.mpr ⟨List.mem_of_getElem? (i := 226) (by decide +kernel), rfl⟩
theorem mw_227 : (Cond.code yX2_member prog_4_method_3_code 3 (Option.some (FieldType.object RX6))) ∈ wk_T := List.mem_filter.mpr ⟨List.mem_of_getElem? (i := 227) (by decide +kernel), rfl⟩
theorem mw_228 : (Cond.methodLink RX11 81 yX11_giveRank) ∈ wk_T := List.mem_filter.mpr ⟨List.mem_of_getElem? (i := 228) (by decide +kernel), rfl⟩
theorem mw_230 : (Cond.instanceMethod yX11_giveRank) ∈ wk_T := List.mem_filter.mpr ⟨List.mem_of_getElem? (i := 230) (by decide +kernel), rfl⟩
theorem mw_231 : (Cond.code yX11_giveRank prog_1_method_19_code 3 (Option.some FieldType.int)) ∈ wk_T := List.mem_filter.mpr ⟨List.mem_of_getElem? (i := 231) (by decide +kernel), rfl⟩
theorem mw_232 : (Cond.methodLink RL 23 yX11_demote) ∈ wk_T := List.mem_filter.mpr ⟨List.mem_of_getElem? (i := 232) (by decide +kernel), rfl⟩
theorem mw_233 : (Cond.instanceMethod yX11_demote) ∈ wk_T := List.mem_filter.mpr ⟨List.mem_of_getElem? (i := 233) (by decide +kernel), rfl⟩
theorem mw_234 : (Cond.selects RX11 yX11_demote yX11_demote) ∈ wk_T := List.mem_filter.mpr ⟨List.mem_of_getElem? (i := 234) (by decide +kernel), rfl⟩
theorem mw_235 : (Cond.code yX11_demote prog_1_method_4_code 3 (Option.some FieldType.int)) ∈ wk_T := List.mem_filter.mpr ⟨List.mem_of_getElem? (i := 235) (by decide +kernel), rfl⟩
theorem mw_236 : (Cond.methodLink RL 27 yX11_toil) ∈ wk_T := List.mem_filter.mpr ⟨List.mem_of_getElem? (i := 236) (by decide +kernel), rfl⟩
theorem mw_237 : (Cond.instanceMethod yX11_toil) ∈ wk_T := List.mem_filter.mpr ⟨List.mem_of_getElem? (i := 237) (by decide +kernel), rfl⟩
theorem mw_238 : (Cond.selects RX11 yX11_toil yX11_toil) ∈ wk_T := List.mem_filter.mpr ⟨List.mem_of_getElem? (i := 238) (by decide +kernel), rfl⟩
theorem mw_239 : (Cond.code yX11_toil prog_1_method_5_code 4 (Option.some FieldType.long)) ∈ wk_T := List.mem_filter.mpr ⟨List.mem_of_getElem? (i := 239) (by decide +kernel), rfl⟩
theorem mw_240 : (Cond.methodLink RX11 85 yX11_isBeyondBound) ∈ wk_T := List.mem_filter.mpr ⟨List.mem_of_getElem? (i := 240) (by decide +kernel), rfl⟩
theorem mw_241 : (Cond.static yX11_isBeyondBound) ∈ wk_T := List.mem_filter.mpr ⟨List.mem_of_getElem? (i := 241) (by decide +kernel), rfl⟩
theorem mw_242 : (Cond.code yX11_isBeyondBound prog_1_method_25_code 2 (Option.some FieldType.boolean)) ∈ wk_T := List.mem_filter.mpr ⟨List.mem_of_getElem? (i := 242) (by decide +kernel), rfl⟩
theorem mw_243 : (Cond.methodLink RX11 169 yX11_boundOf) ∈ wk_T := List.mem_filter.mpr ⟨List.mem_of_getElem? (i := 243) (by decide +kernel), rfl⟩
theorem mw_244 : (Cond.static yX11_boundOf) ∈ wk_T := List.mem_filter.mpr ⟨List.mem_of_getElem? (i := 244) (by decide +kernel), rfl⟩
theorem mw_245 : (Cond.code yX11_boundOf prog_1_method_26_code 1 (Option.some FieldType.int)) ∈ wk_T := List.mem_filter.mpr ⟨List.mem_of_getElem? (i := 245) (by decide +kernel), rfl⟩
theorem mw_246 : (Cond.constantLong RX11 89 (-1000000)) ∈ wk_T := List.mem_filter.mpr ⟨List.mem_of_getElem? (i := 246) (by decide +kernel), rfl⟩
theorem mw_247 : (Cond.methodLink RX11 91 yX2_forgetNotes) ∈ wk_T := List.mem_filter.mpr ⟨List.mem_of_getElem? (i := 247) (by decide +kernel), rfl⟩
theorem mw_248 : (Cond.instanceMethod yX2_forgetNotes) ∈ wk_T := List.mem_filter.mpr ⟨List.mem_of_getElem? (i := 248) (by decide +kernel), rfl⟩
theorem mw_249 : (Cond.selects RX2 yX2_forgetNotes yX2_forgetNotes) ∈ wk_T := List.mem_filter.mpr ⟨List.mem_of_getElem? (i := 249) (by decide +kernel), rfl⟩
theorem mw_250 : (Cond.code yX2_forgetNotes prog_4_method_4_code 1 (Option.none : Option FieldType)) ∈ wk_T := List.mem_filter.mpr ⟨List.mem_of_getElem? (i := 250) (by decide +kernel), rfl⟩
theorem mw_251 : (Cond.methodLink RX11 98 yX8_toilWay) ∈ wk_T := List.mem_filter.mpr ⟨List.mem_of_getElem? (i := 251) (by decide +kernel), rfl⟩
theorem mw_252 : (Cond.instanceMethod yX8_toilWay) ∈ wk_T := List.mem_filter.mpr ⟨List.mem_of_getElem? (i := 252) (by decide +kernel), rfl⟩
theorem mw_253 : (Cond.sameMethod RX8 RX8 "toilWay" "(LWatchBill$Crew;LWatchBill$Member;I)J") ∈ wk_T := List.mem_filter.mpr ⟨List.mem_of_getElem? (i := 253) (by decide +kernel), rfl⟩
theorem mw_254 : (Cond.selects RX0 yX8_toilWay yX10_toilWay) ∈ wk_T := List.mem_filter.mpr ⟨List.mem_of_getElem? (i := 254) (by decide +kernel), rfl⟩
theorem mw_255 : (Cond.instanceMethod yX10_toilWay) ∈ wk_T := List.mem_filter.mpr ⟨List.mem_of_getElem? (i := 255) (by decide +kernel), rfl⟩
theorem mw_256 : (Cond.code yX10_toilWay prog_12_method_2_code 4 (Option.some FieldType.long)) ∈ wk_T := List.mem_filter.mpr ⟨List.mem_of_getElem? (i := 256) (by decide +kernel), rfl⟩
theorem mw_257 : (Cond.methodLink RX10 9 yX2_noteWay) ∈ wk_T := List.mem_filter.mpr ⟨List.mem_of_getElem? (i := 257) (by decide +kernel), rfl⟩
theorem mw_258 : (Cond.instanceMethod yX2_noteWay) ∈ wk_T := List.mem_filter.mpr ⟨List.mem_of_getElem? (i := 258) (by decide +kernel), rfl⟩
theorem mw_259 : (Cond.selects RX2 yX2_noteWay yX2_noteWay) ∈ wk_T := List.mem_filter.mpr ⟨List.mem_of_getElem? (i := 259) (by decide +kernel), rfl⟩
theorem mw_260 : (Cond.code yX2_noteWay prog_4_method_5_code 3 (Option.none : Option FieldType)) ∈ wk_T := List.mem_filter.mpr ⟨List.mem_of_getElem? (i := 260) (by decide +kernel), rfl⟩
theorem mw_261 : (Cond.methodLink RX10 21 (⟨RX7, "toilWay", "(LWatchBill$Crew;LWatchBill$Member;I)J"⟩ : MethodName)) ∈ wk_T := List.mem_filter.mpr ⟨List.mem_of_getElem? (i := 261) (by decide +kernel), rfl⟩
theorem mw_262 : (Cond.sameMethod RX7 RX8 "toilWay" "(LWatchBill$Crew;LWatchBill$Member;I)J") ∈ wk_T := List.mem_filter.mpr ⟨List.mem_of_getElem? (i := 262) (by decide +kernel), rfl⟩
theorem mx_263 : (Cond.declares yX8_toilWay) ∈ wk_X := List.mem_filter.mpr ⟨List.mem_of_getElem? (i := 263) (by decide +kernel), rfl⟩
theorem mw_264 : (Cond.constantLong RX10 25 3) ∈ wk_T := List.mem_filter.mpr ⟨List.mem_of_getElem? (i := 264) (by decide +kernel), rfl⟩
theorem mw_265 : (Cond.selects RX1 yX8_toilWay yX1_toilWay) ∈ wk_T := List.mem_filter.mpr ⟨List.mem_of_getElem? (i := 265) (by decide +kernel), rfl⟩
theorem mw_266 : (Cond.instanceMethod yX1_toilWay) ∈ wk_T := List.mem_filter.mpr ⟨List.mem_of_getElem? (i := 266) (by decide +kernel), rfl⟩
theorem mw_267 : (Cond.code yX1_toilWay prog_3_method_2_code 6 (Option.some FieldType.long)) ∈ wk_T := List.mem_filter.mpr ⟨List.mem_of_getElem? (i := 267) (by decide +kernel), rfl⟩
theorem mw_268 : (Cond.methodLink RX1 9 yX2_noteWay) ∈ wk_T := List.mem_filter.mpr ⟨List.mem_of_getElem? (i := 268) (by decide +kernel), rfl⟩
theorem mw_269 : (Cond.methodLink RX1 15 (⟨RX3, "toilWay", "(LWatchBill$Crew;LWatchBill$Member;I)J"⟩ : MethodName)) ∈ wk_T := List.mem_filter.mpr ⟨List.mem_of_getElem? (i := 269) (by decide +kernel), rfl⟩
theorem mw_270 : (Cond.sameMethod RX3 RX8 "toilWay" "(LWatchBill$Crew;LWatchBill$Member;I)J") ∈ wk_T := List.mem_filter.mpr ⟨List.mem_of_getElem? (i := 270) (by decide +kernel), rfl⟩
theorem mw_271 : (Cond.methodLink RX1 19 yX6_tire) ∈ wk_T := List.mem_filter.mpr ⟨List.mem_of_getElem? (i := 271) (by decide +kernel), rfl⟩
theorem mw_272 : (Cond.instanceMethod yX6_tire) ∈ wk_T := List.mem_filter.mpr ⟨List.mem_of_getElem? (i := 272) (by decide +kernel), rfl⟩
theorem mw_273 : (Cond.selects RX6 yX6_tire yX6_tire) ∈ wk_T := List.mem_filter.mpr ⟨List.mem_of_getElem? (i := 273) (by decide +kernel), rfl⟩
theorem mw_274 : (Cond.code yX6_tire prog_8_method_2_code 3 (Option.none : Option FieldType)) ∈ wk_T := List.mem_filter.mpr ⟨List.mem_of_getElem? (i := 274) (by decide +kernel), rfl⟩
theorem mw_275 : (Cond.selects RX3 yX8_toilWay yX8_toilWay) ∈ wk_T := List.mem_filter.mpr ⟨List.mem_of_getElem? (i := 275) (by decide +kernel), rfl⟩
theorem mw_276 : (Cond.selects RX4 yX8_toilWay yX4_toilWay) ∈ wk_T := List.mem_filter.mpr ⟨List.mem_of_getElem? (i := 276) (by decide +kernel), rfl⟩
theorem mw_277 : (Cond.instanceMethod yX4_toilWay) ∈ wk_T := List.mem_filter.mpr ⟨List.mem_of_getElem? (i := 277) (by decide +kernel), rfl⟩
theorem mw_278 : (Cond.code yX4_toilWay prog_6_method_2_code 4 (Option.some FieldType.long)) ∈ wk_T := List.mem_filter.mpr ⟨List.mem_of_getElem? (i := 278) (by decide +kernel), rfl⟩
theorem mw_279 : (Cond.methodLink RX4 9 yX2_noteWay) ∈ wk_T := List.mem_filter.mpr ⟨List.mem_of_getElem? (i := 279) (by decide +kernel), rfl⟩
theorem mw_280 : (Cond.methodLink RX4 15 yX5_toilWay) ∈ wk_T := List.mem_filter.mpr ⟨List.mem_of_getElem? (i := 280) (by decide +kernel), rfl⟩
theorem mw_281 : (Cond.instanceMethod yX5_toilWay) ∈ wk_T := List.mem_filter.mpr ⟨List.mem_of_getElem? (i := 281) (by decide +kernel), rfl⟩
theorem mw_282 : (Cond.code yX5_toilWay prog_7_method_2_code 7 (Option.some FieldType.long)) ∈ wk_T := List.mem_filter.mpr ⟨List.mem_of_getElem? (i := 282) (by decide +kernel), rfl⟩
theorem mw_283 : (Cond.methodLink RX5 9 yX2_noteWay) ∈ wk_T := List.mem_filter.mpr ⟨List.mem_of_getElem? (i := 283) (by decide +kernel), rfl⟩
theorem mw_284 : (Cond.methodLink RX5 15 (⟨RX0, "toilWay", "(LWatchBill$Crew;LWatchBill$Member;I)J"⟩ : MethodName)) ∈ wk_T := List.mem_filter.mpr ⟨List.mem_of_getElem? (i := 284) (by decide +kernel), rfl⟩
theorem mw_285 : (Cond.sameMethod RX0 RX10 "toilWay" "(LWatchBill$Crew;LWatchBill$Member;I)J") ∈ wk_T := List.mem_filter.mpr ⟨List.mem_of_getElem? (i := 285) (by decide +kernel), rfl⟩
theorem mx_286 : (Cond.declares yX10_toilWay) ∈ wk_X := List.mem_filter.mpr ⟨List.mem_of_getElem? (i := 286) (by decide +kernel), rfl⟩
theorem mw_287 : (Cond.constantLong RX4 19 4) ∈ wk_T := List.mem_filter.mpr ⟨List.mem_of_getElem? (i := 287) (by decide +kernel), rfl⟩
theorem mw_288 : (Cond.selects RX5 yX8_toilWay yX5_toilWay) ∈ wk_T := List.mem_filter.mpr ⟨List.mem_of_getElem? (i := 288) (by decide +kernel), rfl⟩
theorem mw_289 : (Cond.selects RX7 yX8_toilWay yX8_toilWay) ∈ wk_T := List.mem_filter.mpr ⟨List.mem_of_getElem? (i := 289) (by decide +kernel), rfl⟩
theorem mw_290 : (Cond.selects RX9 yX8_toilWay yX1_toilWay) ∈ wk_T := List.mem_filter.mpr ⟨List.mem_of_getElem? (i := 290) (by decide +kernel), rfl⟩
theorem mw_291 : (Cond.selects RX10 yX8_toilWay yX10_toilWay) ∈ wk_T := List.mem_filter.mpr ⟨List.mem_of_getElem? (i := 291) (by decide +kernel), rfl⟩
theorem mw_292 : (Cond.code yX8_toilWay prog_10_method_2_code 6 (Option.some FieldType.long)) ∈ wk_T := List.mem_filter.mpr ⟨List.mem_of_getElem? (i := 292) (by decide +kernel), rfl⟩
theorem mw_293 : (Cond.methodLink RX8 9 yX2_noteWay) ∈ wk_T := List.mem_filter.mpr ⟨List.mem_of_getElem? (i := 293) (by decide +kernel), rfl⟩
theorem mw_294 : (Cond.methodLink RX8 24 yX6_tire) ∈ wk_T := List.mem_filter.mpr ⟨List.mem_of_getElem? (i := 294) (by decide +kernel), rfl⟩
theorem mw_295 : (Cond.methodLink RL 32 yX11_pay) ∈ wk_T := List.mem_filter.mpr ⟨List.mem_of_getElem? (i := 295) (by decide +kernel), rfl⟩
theorem mw_296 : (Cond.instanceMethod yX11_pay) ∈ wk_T := List.mem_filter.mpr ⟨List.mem_of_getElem? (i := 296) (by decide +kernel), rfl⟩
theorem mw_297 : (Cond.selects RX11 yX11_pay yX11_pay) ∈ wk_T := List.mem_filter.mpr ⟨List.mem_of_getElem? (i := 297) (by decide +kernel), rfl⟩
theorem mw_298 : (Cond.code yX11_pay prog_1_method_6_code 6 (Option.some FieldType.long)) ∈ wk_T := List.mem_filter.mpr ⟨List.mem_of_getElem? (i := 298) (by decide +kernel), rfl⟩
theorem mw_299 : (Cond.methodLink RX11 102 (⟨RX8, "payWay", "(LWatchBill$Crew;LWatchBill$Member;I)J"⟩ : MethodName)) ∈ wk_T := List.mem_filter.mpr ⟨List.mem_of_getElem? (i := 299) (by decide +kernel), rfl⟩
theorem mx_300 : (Cond.declares (⟨RX8, "payWay", "(LWatchBill$Crew;LWatchBill$Member;I)J"⟩ : MethodName)) ∈ wk_X := List.mem_filter.mpr ⟨List.mem_of_getElem? (i := 300) (by decide +kernel), rfl⟩
theorem mw_301 : (Cond.sameMethod RX8 RX8 "payWay" "(LWatchBill$Crew;LWatchBill$Member;I)J") ∈ wk_T := List.mem_filter.mpr ⟨List.mem_of_getElem? (i := 301) (by decide +kernel), rfl⟩
theorem mw_302 : (Cond.selects RX0 (⟨RX8, "payWay", "(LWatchBill$Crew;LWatchBill$Member;I)J"⟩ : MethodName) yX0_payWay) ∈ wk_T := List.mem_filter.mpr ⟨List.mem_of_getElem? (i := 302) (by decide +kernel), rfl⟩
theorem mw_303 : (Cond.instanceMethod yX0_payWay) ∈ wk_T := List.mem_filter.mpr ⟨List.mem_of_getElem? (i := 303) (by decide +kernel), rfl⟩
theorem mw_304 : (Cond.code yX0_payWay prog_2_method_2_code 7 (Option.some FieldType.long)) ∈ wk_T := List.mem_filter.mpr ⟨List.mem_of_getElem? (i := 304) (by decide +kernel), rfl⟩
theorem mw_305 : (Cond.methodLink RX0 9 yX2_noteWay) ∈ wk_T := List.mem_filter.mpr ⟨List.mem_of_getElem? (i := 305) (by decide +kernel), rfl⟩
theorem mw_306 : (Cond.methodLink RX0 15 (⟨RX10, "payWay", "(LWatchBill$Crew;LWatchBill$Member;I)J"⟩ : MethodName)) ∈ wk_T := List.mem_filter.mpr ⟨List.mem_of_getElem? (i := 306) (by decide +kernel), rfl⟩
theorem mw_307 : (Cond.sameMethod RX10 RX3 "payWay" "(LWatchBill$Crew;LWatchBill$Member;I)J") ∈ wk_T := List.mem_filter.mpr ⟨List.mem_of_getElem? (i := 307) (by decide +kernel), rfl⟩
theorem mx_308 : (Cond.declares yX3_payWay) ∈ wk_X := List.mem_filter.mpr ⟨List.mem_of_getElem? (i := 308) (by decide +kernel), rfl⟩
theorem mw_309 : (Cond.instanceMethod yX3_payWay) ∈ wk_T := List.mem_filter.mpr ⟨List.mem_of_getElem? (i := 309) (by decide +kernel), rfl⟩
theorem mw_310 : (Cond.code yX3_payWay prog_5_method_2_code 4 (Option.some FieldType.long)) ∈ wk_T := List.mem_filter.mpr ⟨List.mem_of_getElem? (i := 310) (by decide +kernel), rfl⟩
theorem mw_311 : (Cond.methodLink RX3 9 yX2_noteWay) ∈ wk_T := List.mem_filter.mpr ⟨List.mem_of_getElem? (i := 311) (by decide +kernel), rfl⟩
theorem mw_312 : (Cond.constantLong RX0 19 2) ∈ wk_T := List.mem_filter.mpr ⟨List.mem_of_getElem? (i := 312) (by decide +kernel), rfl⟩
theorem mw_313 : (Cond.methodLink RX0 25 yX6_isBelowBosun) ∈ wk_T := List.mem_filter.mpr ⟨List.mem_of_getElem? (i := 313) (by decide +kernel), rfl⟩
theorem mw_314 : (Cond.instanceMethod yX6_isBelowBosun) ∈ wk_T := List.mem_filter.mpr ⟨List.mem_of_getElem? (i := 314) (by decide +kernel), rfl⟩
theorem mw_315 : (Cond.selects RX6 yX6_isBelowBosun yX6_isBelowBosun) ∈ wk_T := List.mem_filter.mpr ⟨List.mem_of_getElem? (i := 315) (by decide +kernel), rfl⟩
theorem mw_316 : (Cond.code yX6_isBelowBosun prog_8_method_3_code 1 (Option.some FieldType.boolean)) ∈ wk_T := List.mem_filter.mpr ⟨List.mem_of_getElem? (i := 316) (by decide +kernel), rfl⟩
theorem mw_317 : (Cond.selects RX1 (⟨RX8, "payWay", "(LWatchBill$Crew;LWatchBill$Member;I)J"⟩ : MethodName) yX3_payWay) ∈ wk_T := List.mem_filter.mpr ⟨List.mem_of_getElem? (i := 317) (by decide +kernel), rfl⟩
theorem mw_318 : (Cond.selects RX3 (⟨RX8, "payWay", "(LWatchBill$Crew;LWatchBill$Member;I)J"⟩ : MethodName) yX3_payWay) ∈ wk_T := List.mem_filter.mpr ⟨List.mem_of_getElem? (i := 318) (by decide +kernel), rfl⟩
theorem mw_319 : (Cond.selects RX4 (⟨RX8, "payWay", "(LWatchBill$Crew;LWatchBill$Member;I)J"⟩ : MethodName) yX4_payWay) ∈ wk_T := List.mem_filter.mpr ⟨List.mem_of_getElem? (i := 319) (by decide +kernel), rfl⟩
theorem mw_320 : (Cond.instanceMethod yX4_payWay) ∈ wk_T := List.mem_filter.mpr ⟨List.mem_of_getElem? (i := 320) (by decide +kernel), rfl⟩
theorem mw_321 : (Cond.code yX4_payWay prog_6_method_3_code 6 (Option.some FieldType.long)) ∈ wk_T := List.mem_filter.mpr ⟨List.mem_of_getElem? (i := 321) (by decide +kernel), rfl⟩
theorem mw_322 : (Cond.methodLink RX4 21 (⟨RX5, "payWay", "(LWatchBill$Crew;LWatchBill$Member;I)J"⟩ : MethodName)) ∈ wk_T := List.mem_filter.mpr ⟨List.mem_of_getElem? (i := 322) (by decide +kernel), rfl⟩
theorem mw_323 : (Cond.sameMethod RX5 RX0 "payWay" "(LWatchBill$Crew;LWatchBill$Member;I)J") ∈ wk_T := List.mem_filter.mpr ⟨List.mem_of_getElem? (i := 323) (by decide +kernel), rfl⟩
theorem mx_324 : (Cond.declares yX0_payWay) ∈ wk_X := List.mem_filter.mpr ⟨List.mem_of_getElem? (i := 324) (by decide +kernel), rfl⟩
theorem mw_325 : (Cond.constantLong RX4 30 2) ∈ wk_T := List.mem_filter.mpr ⟨List.mem_of_getElem? (i := 325) (by decide +kernel), rfl⟩
theorem mw_326 : (Cond.selects RX5 (⟨RX8, "payWay", "(LWatchBill$Crew;LWatchBill$Member;I)J"⟩ : MethodName) yX0_payWay) ∈ wk_T := List.mem_filter.mpr ⟨List.mem_of_getElem? (i := 326) (by decide +kernel), rfl⟩
theorem mw_327 : (Cond.selects RX7 (⟨RX8, "payWay", "(LWatchBill$Crew;LWatchBill$Member;I)J"⟩ : MethodName) yX3_payWay) ∈ wk_T := List.mem_filter.mpr ⟨List.mem_of_getElem? (i := 327) (by decide +kernel), rfl⟩
theorem mw_328 : (Cond.selects RX9 (⟨RX8, "payWay", "(LWatchBill$Crew;LWatchBill$Member;I)J"⟩ : MethodName) yX9_payWay) ∈ wk_T := List.mem_filter.mpr ⟨List.mem_of_getElem? (i := 328) (by decide +kernel), rfl⟩
theorem mw_329 : (Cond.instanceMethod yX9_payWay) ∈ wk_T := List.mem_filter.mpr ⟨List.mem_of_getElem? (i := 329) (by decide +kernel), rfl⟩
theorem mw_330 : (Cond.code yX9_payWay prog_11_method_2_code 7 (Option.some FieldType.long)) ∈ wk_T := List.mem_filter.mpr ⟨List.mem_of_getElem? (i := 330) (by decide +kernel), rfl⟩
theorem mw_331 : (Cond.methodLink RX9 9 yX2_noteWay) ∈ wk_T := List.mem_filter.mpr ⟨List.mem_of_getElem? (i := 331) (by decide +kernel), rfl⟩
theorem mw_332 : (Cond.methodLink RX9 15 (⟨RX1, "payWay", "(LWatchBill$Crew;LWatchBill$Member;I)J"⟩ : MethodName)) ∈ wk_T := List.mem_filter.mpr ⟨List.mem_of_getElem? (i := 332) (by decide +kernel), rfl⟩
theorem mw_333 : (Cond.sameMethod RX1 RX3 "payWay" "(LWatchBill$Crew;LWatchBill$Member;I)J") ∈ wk_T := List.mem_filter.mpr ⟨List.mem_of_getElem? (i := 333) (by decide +kernel), rfl⟩
theorem mw_334 : (Cond.constantLong RX9 29 7) ∈ wk_T := List.mem_filter.mpr ⟨List.mem_of_getElem? (i := 334) (by decide +kernel), rfl⟩
theorem mw_335 : (Cond.selects RX10 (⟨RX8, "payWay", "(LWatchBill$Crew;LWatchBill$Member;I)J"⟩ : MethodName) yX3_payWay) ∈ wk_T := List.mem_filter.mpr ⟨List.mem_of_getElem? (i := 335) (by decide +kernel), rfl⟩
theorem mw_336 : (Cond.methodLink RL 36 yX11_climb) ∈ wk_T := List.mem_filter.mpr ⟨List.mem_of_getElem? (i := 336) (by decide +kernel), rfl⟩
theorem mw_337 : (Cond.instanceMethod yX11_climb) ∈ wk_T := List.mem_filter.mpr ⟨List.mem_of_getElem? (i := 337) (by decide +kernel), rfl⟩
theorem mw_338 : (Cond.selects RX11 yX11_climb yX11_climb) ∈ wk_T := List.mem_filter.mpr ⟨List.mem_of_getElem? (i := 338) (by decide +kernel), rfl⟩
theorem mw_339 : (Cond.code yX11_climb prog_1_method_7_code 4 (Option.some FieldType.int)) ∈ wk_T := List.mem_filter.mpr ⟨List.mem_of_getElem? (i := 339) (by decide +kernel), rfl⟩
theorem mw_340 : (Cond.methodLink RX11 109 yX8_climbWay) ∈ wk_T := List.mem_filter.mpr ⟨List.mem_of_getElem? (i := 340) (by decide +kernel), rfl⟩
theorem mw_341 : (Cond.instanceMethod yX8_climbWay) ∈ wk_T := List.mem_filter.mpr ⟨List.mem_of_getElem? (i := 341) (by decide +kernel), rfl⟩
theorem mw_342 : (Cond.sameMethod RX8 RX8 "climbWay" "(LWatchBill$Crew;LWatchBill$Member;I)I") ∈ wk_T := List.mem_filter.mpr ⟨List.mem_of_getElem? (i := 342) (by decide +kernel), rfl⟩
theorem mw_343 : (Cond.selects RX0 yX8_climbWay yX7_climbWay) ∈ wk_T := List.mem_filter.mpr ⟨List.mem_of_getElem? (i := 343) (by decide +kernel), rfl⟩
theorem mw_344 : (Cond.instanceMethod yX7_climbWay) ∈ wk_T := List.mem_filter.mpr ⟨List.mem_of_getElem? (i := 344) (by decide +kernel), rfl⟩
theorem mw_345 : (Cond.code yX7_climbWay prog_9_method_2_code 4 (Option.some FieldType.int)) ∈ wk_T := List.mem_filter.mpr ⟨List.mem_of_getElem? (i := 345) (by decide +kernel), rfl⟩
theorem mw_346 : (Cond.methodLink RX7 9 yX2_noteWay) ∈ wk_T := List.mem_filter.mpr ⟨List.mem_of_getElem? (i := 346) (by decide +kernel), rfl⟩
theorem mw_347 : (Cond.methodLink RX7 15 (⟨RX3, "climbWay", "(LWatchBill$Crew;LWatchBill$Member;I)I"⟩ : MethodName)) ∈ wk_T := List.mem_filter.mpr ⟨List.mem_of_getElem? (i := 347) (by decide +kernel), rfl⟩
theorem mw_348 : (Cond.sameMethod RX3 RX8 "climbWay" "(LWatchBill$Crew;LWatchBill$Member;I)I") ∈ wk_T := List.mem_filter.mpr ⟨List.mem_of_getElem? (i := 348) (by decide +kernel), rfl⟩
theorem mx_349 : (Cond.declares yX8_climbWay) ∈ wk_X := List.mem_filter.mpr ⟨List.mem_of_getElem? (i := 349) (by decide +kernel), rfl⟩
theorem mw_350 : (Cond.methodLink RX7 19 yX6_tire) ∈ wk_T := List.mem_filter.mpr ⟨List.mem_of_getElem? (i := 350) (by decide +kernel), rfl⟩
theorem mw_351 : (Cond.selects RX1 yX8_climbWay yX8_climbWay) ∈ wk_T := List.mem_filter.mpr ⟨List.mem_of_getElem? (i := 351) (by decide +kernel), rfl⟩
theorem mw_352 : (Cond.selects RX3 yX8_climbWay yX8_climbWay) ∈ wk_T := List.mem_filter.mpr ⟨List.mem_of_getElem? (i := 352) (by decide +kernel), rfl⟩
theorem mw_353 : (Cond.selects RX4 yX8_climbWay yX5_climbWay) ∈ wk_T := List.mem_filter.mpr ⟨List.mem_of_getElem? (i := 353) (by decide +kernel), rfl⟩
theorem mw_354 : (Cond.instanceMethod yX5_climbWay) ∈ wk_T := List.mem_filter.mpr ⟨List.mem_of_getElem? (i := 354) (by decide +kernel), rfl⟩
theorem mw_355 : (Cond.code yX5_climbWay prog_7_method_3_code 5 (Option.some FieldType.int)) ∈ wk_T := List.mem_filter.mpr ⟨List.mem_of_getElem? (i := 355) (by decide +kernel), rfl⟩
theorem mw_356 : (Cond.methodLink RX5 19 (⟨RX0, "climbWay", "(LWatchBill$Crew;LWatchBill$Member;I)I"⟩ : MethodName)) ∈ wk_T := List.mem_filter.mpr ⟨List.mem_of_getElem? (i := 356) (by decide +kernel), rfl⟩
theorem mw_357 : (Cond.sameMethod RX0 RX7 "climbWay" "(LWatchBill$Crew;LWatchBill$Member;I)I") ∈ wk_T := List.mem_filter.mpr ⟨List.mem_of_getElem? (i := 357) (by decide +kernel), rfl⟩
theorem mx_358 : (Cond.declares yX7_climbWay) ∈ wk_X := List.mem_filter.mpr ⟨List.mem_of_getElem? (i := 358) (by decide +kernel), rfl⟩
theorem mw_359 : (Cond.selects RX5 yX8_climbWay yX5_climbWay) ∈ wk_T := List.mem_filter.mpr ⟨List.mem_of_getElem? (i := 359) (by decide +kernel), rfl⟩
theorem mw_360 : (Cond.selects RX7 yX8_climbWay yX7_climbWay) ∈ wk_T := List.mem_filter.mpr ⟨List.mem_of_getElem? (i := 360) (by decide +kernel), rfl⟩
theorem mw_361 : (Cond.selects RX9 yX8_climbWay yX9_climbWay) ∈ wk_T := List.mem_filter.mpr ⟨List.mem_of_getElem? (i := 361) (by decide +kernel), rfl⟩
theorem mw_362 : (Cond.instanceMethod yX9_climbWay) ∈ wk_T := List.mem_filter.mpr ⟨List.mem_of_getElem? (i := 362) (by decide +kernel), rfl⟩
theorem mw_363 : (Cond.code yX9_climbWay prog_11_method_3_code 4 (Option.some FieldType.int)) ∈ wk_T := List.mem_filter.mpr ⟨List.mem_of_getElem? (i := 363) (by decide +kernel), rfl⟩
theorem mw_364 : (Cond.methodLink RX9 34 (⟨RX1, "climbWay", "(LWatchBill$Crew;LWatchBill$Member;I)I"⟩ : MethodName)) ∈ wk_T := List.mem_filter.mpr ⟨List.mem_of_getElem? (i := 364) (by decide +kernel), rfl⟩
theorem mw_365 : (Cond.sameMethod RX1 RX8 "climbWay" "(LWatchBill$Crew;LWatchBill$Member;I)I") ∈ wk_T := List.mem_filter.mpr ⟨List.mem_of_getElem? (i := 365) (by decide +kernel), rfl⟩
theorem mw_366 : (Cond.selects RX10 yX8_climbWay yX7_climbWay) ∈ wk_T := List.mem_filter.mpr ⟨List.mem_of_getElem? (i := 366) (by decide +kernel), rfl⟩
theorem mw_367 : (Cond.code yX8_climbWay prog_10_method_4_code 4 (Option.some FieldType.int)) ∈ wk_T := List.mem_filter.mpr ⟨List.mem_of_getElem? (i := 367) (by decide +kernel), rfl⟩
theorem mw_368 : (Cond.methodLink RL 40 yX11_heed) ∈ wk_T := List.mem_filter.mpr ⟨List.mem_of_getElem? (i := 368) (by decide +kernel), rfl⟩
theorem mw_369 : (Cond.instanceMethod yX11_heed) ∈ wk_T := List.mem_filter.mpr ⟨List.mem_of_getElem? (i := 369) (by decide +kernel), rfl⟩
theorem mw_370 : (Cond.selects RX11 yX11_heed yX11_heed) ∈ wk_T := List.mem_filter.mpr ⟨List.mem_of_getElem? (i := 370) (by decide +kernel), rfl⟩
theorem mw_371 : (Cond.code yX11_heed prog_1_method_8_code 4 (Option.some FieldType.int)) ∈ wk_T := List.mem_filter.mpr ⟨List.mem_of_getElem? (i := 371) (by decide +kernel), rfl⟩
theorem mw_372 : (Cond.methodLink RX11 113 yX8_heedWay) ∈ wk_T := List.mem_filter.mpr ⟨List.mem_of_getElem? (i := 372) (by decide +kernel), rfl⟩
theorem mw_373 : (Cond.instanceMethod yX8_heedWay) ∈ wk_T := List.mem_filter.mpr ⟨List.mem_of_getElem? (i := 373) (by decide +kernel), rfl⟩
theorem mw_374 : (Cond.sameMethod RX8 RX8 "heedWay" "(LWatchBill$Crew;LWatchBill$Member;I)I") ∈ wk_T := List.mem_filter.mpr ⟨List.mem_of_getElem? (i := 374) (by decide +kernel), rfl⟩
theorem mw_375 : (Cond.selects RX0 yX8_heedWay yX0_heedWay) ∈ wk_T := List.mem_filter.mpr ⟨List.mem_of_getElem? (i := 375) (by decide +kernel), rfl⟩
theorem mw_376 : (Cond.instanceMethod yX0_heedWay) ∈ wk_T := List.mem_filter.mpr ⟨List.mem_of_getElem? (i := 376) (by decide +kernel), rfl⟩
theorem mw_377 : (Cond.code yX0_heedWay prog_2_method_3_code 6 (Option.some FieldType.int)) ∈ wk_T := List.mem_filter.mpr ⟨List.mem_of_getElem? (i := 377) (by decide +kernel), rfl⟩
theorem mw_378 : (Cond.methodLink RX0 34 yX10_heedWay) ∈ wk_T := List.mem_filter.mpr ⟨List.mem_of_getElem? (i := 378) (by decide +kernel), rfl⟩
theorem mw_379 : (Cond.instanceMethod yX10_heedWay) ∈ wk_T := List.mem_filter.mpr ⟨List.mem_of_getElem? (i := 379) (by decide +kernel), rfl⟩
theorem mw_380 : (Cond.code yX10_heedWay prog_12_method_3_code 4 (Option.some FieldType.int)) ∈ wk_T := List.mem_filter.mpr ⟨List.mem_of_getElem? (i := 380) (by decide +kernel), rfl⟩
theorem mw_381 : (Cond.methodLink RX10 27 (⟨RX7, "heedWay", "(LWatchBill$Crew;LWatchBill$Member;I)I"⟩ : MethodName)) ∈ wk_T := List.mem_filter.mpr ⟨List.mem_of_getElem? (i := 381) (by decide +kernel), rfl⟩
theorem mw_382 : (Cond.sameMethod RX7 RX8 "heedWay" "(LWatchBill$Crew;LWatchBill$Member;I)I") ∈ wk_T := List.mem_filter.mpr ⟨List.mem_of_getElem? (i := 382) (by decide +kernel), rfl⟩
theorem mx_383 : (Cond.declares yX8_heedWay) ∈ wk_X := List.mem_filter.mpr ⟨List.mem_of_getElem? (i := 383) (by decide +kernel), rfl⟩
theorem mw_384 : (Cond.methodLink RX0 42 yX8_heedWay) ∈ wk_T := List.mem_filter.mpr ⟨List.mem_of_getElem? (i := 384) (by decide +kernel), rfl⟩
theorem mw_385 : (Cond.instanceMethod yX1_heedWay) ∈ wk_T := List.mem_filter.mpr ⟨List.mem_of_getElem? (i := 385) (by decide +kernel), rfl⟩
theorem mw_386 : (Cond.code yX1_heedWay prog_3_method_3_code 4 (Option.some FieldType.int)) ∈ wk_T := List.mem_filter.mpr ⟨List.mem_of_getElem? (i := 386) (by decide +kernel), rfl⟩
theorem mw_387 : (Cond.methodLink RX1 25 (⟨RX3, "heedWay", "(LWatchBill$Crew;LWatchBill$Member;I)I"⟩ : MethodName)) ∈ wk_T := List.mem_filter.mpr ⟨List.mem_of_getElem? (i := 387) (by decide +kernel), rfl⟩
theorem mw_388 : (Cond.sameMethod RX3 RX8 "heedWay" "(LWatchBill$Crew;LWatchBill$Member;I)I") ∈ wk_T := List.mem_filter.mpr ⟨List.mem_of_getElem? (i := 388) (by decide +kernel), rfl⟩
theorem mw_389 : (Cond.instanceMethod yX4_heedWay) ∈ wk_T := List.mem_filter.mpr ⟨List.mem_of_getElem? (i := 389) (by decide +kernel), rfl⟩
theorem mw_390 : (Cond.code yX4_heedWay prog_6_method_4_code 4 (Option.some FieldType.int)) ∈ wk_T := List.mem_filter.mpr ⟨List.mem_of_getElem? (i := 390) (by decide +kernel), rfl⟩
theorem mw_391 : (Cond.methodLink RX4 32 (⟨RX5, "heedWay", "(LWatchBill$Crew;LWatchBill$Member;I)I"⟩ : MethodName)) ∈ wk_T := List.mem_filter.mpr ⟨List.mem_of_getElem? (i := 391) (by decide +kernel), rfl⟩
theorem mw_392 : (Cond.sameMethod RX5 RX0 "heedWay" "(LWatchBill$Crew;LWatchBill$Member;I)I") ∈ wk_T := List.mem_filter.mpr ⟨List.mem_of_getElem? (i := 392) (by decide +kernel), rfl⟩
theorem mx_393 : (Cond.declares yX0_heedWay) ∈ wk_X := List.mem_filter.mpr ⟨List.mem_of_getElem? (i := 393) (by decide +kernel), rfl⟩
theorem mw_394 : (Cond.selects RX1 yX8_heedWay yX1_heedWay) ∈ wk_T := List.mem_filter.mpr ⟨List.mem_of_getElem? (i := 394) (by decide +kernel), rfl⟩
theorem mw_395 : (Cond.selects RX3 yX8_heedWay yX8_heedWay) ∈ wk_T := List.mem_filter.mpr ⟨List.mem_of_getElem? (i := 395) (by decide +kernel), rfl⟩
theorem mw_396 : (Cond.selects RX4 yX8_heedWay yX4_heedWay) ∈ wk_T := List.mem_filter.mpr ⟨List.mem_of_getElem? (i := 396) (by decide +kernel), rfl⟩
theorem mw_397 : (Cond.selects RX5 yX8_heedWay yX0_heedWay) ∈ wk_T := List.mem_filter.mpr ⟨List.mem_of_getElem? (i := 397) (by decide +kernel), rfl⟩
theorem mw_398 : (Cond.selects RX7 yX8_heedWay yX8_heedWay) ∈ wk_T := List.mem_filter.mpr ⟨List.mem_of_getElem? (i := 398) (by decide +kernel), rfl⟩
theorem mw_399 : (Cond.selects RX9 yX8_heedWay yX1_heedWay) ∈ wk_T := List.mem_filter.mpr ⟨List.mem_of_getElem? (i := 399) (by decide +kernel), rfl⟩
theorem mw_400 : (Cond.selects RX10 yX8_heedWay yX10_heedWay) ∈ wk_T := List.mem_filter.mpr ⟨List.mem_of_getElem? (i := 400) (by decide +kernel), rfl⟩
theorem mw_401 : (Cond.code yX8_heedWay prog_10_method_5_code 4 (Option.some FieldType.int)) ∈ wk_T := List.mem_filter.mpr ⟨List.mem_of_getElem? (i := 401) (by decide +kernel), rfl⟩
theorem mw_402 : (Cond.methodLink RL 44 yX11_race) ∈ wk_T := List.mem_filter.mpr ⟨List.mem_of_getElem? (i := 402) (by decide +kernel), rfl⟩
theorem mw_403 : (Cond.instanceMethod yX11_race) ∈ wk_T := List.mem_filter.mpr ⟨List.mem_of_getElem? (i := 403) (by decide +kernel), rfl⟩
theorem mw_404 : (Cond.selects RX11 yX11_race yX11_race) ∈ wk_T := List.mem_filter.mpr ⟨List.mem_of_getElem? (i := 404) (by decide +kernel), rfl⟩
theorem mw_405 : (Cond.code yX11_race prog_1_method_9_code 5 (Option.some FieldType.int)) ∈ wk_T := List.mem_filter.mpr ⟨List.mem_of_getElem? (i := 405) (by decide +kernel), rfl⟩
theorem mw_406 : (Cond.methodLink RX11 116 yX6_isClimber) ∈ wk_T := List.mem_filter.mpr ⟨List.mem_of_getElem? (i := 406) (by decide +kernel), rfl⟩
theorem mw_407 : (Cond.instanceMethod yX6_isClimber) ∈ wk_T := List.mem_filter.mpr ⟨List.mem_of_getElem? (i := 407) (by decide +kernel), rfl⟩
theorem mw_408 : (Cond.selects RX6 yX6_isClimber yX6_isClimber) ∈ wk_T := List.mem_filter.mpr ⟨List.mem_of_getElem? (i := 408) (by decide +kernel), rfl⟩
theorem mw_409 : (Cond.code yX6_isClimber prog_8_method_4_code 1 (Option.some FieldType.boolean)) ∈ wk_T := List.mem_filter.mpr ⟨List.mem_of_getElem? (i := 409) (by decide +kernel), rfl⟩
theorem mw_410 : (Cond.methodLink RX11 120 yX11_isTimes) ∈ wk_T := List.mem_filter.mpr ⟨List.mem_of_getElem? (i := 410) (by decide +kernel), rfl⟩
theorem mw_411 : (Cond.static yX11_isTimes) ∈ wk_T := List.mem_filter.mpr ⟨List.mem_of_getElem? (i := 411) (by decide +kernel), rfl⟩
theorem mw_412 : (Cond.code yX11_isTimes prog_1_method_24_code 1 (Option.some FieldType.boolean)) ∈ wk_T := List.mem_filter.mpr ⟨List.mem_of_getElem? (i := 412) (by decide +kernel), rfl⟩
theorem mw_413 : (Cond.methodLink RX11 123 yX8_raceWay) ∈ wk_T := List.mem_filter.mpr ⟨List.mem_of_getElem? (i := 413) (by decide +kernel), rfl⟩
theorem mw_414 : (Cond.instanceMethod yX8_raceWay) ∈ wk_T := List.mem_filter.mpr ⟨List.mem_of_getElem? (i := 414) (by decide +kernel), rfl⟩
theorem mw_415 : (Cond.sameMethod RX8 RX8 "raceWay" "(LWatchBill$Crew;LWatchBill$Member;II)I") ∈ wk_T := List.mem_filter.mpr ⟨List.mem_of_getElem? (i := 415) (by decide +kernel), rfl⟩
theorem mw_416 : (Cond.selects RX0 yX8_raceWay yX8_raceWay) ∈ wk_T := List.mem_filter.mpr ⟨List.mem_of_getElem? (i := 416) (by decide +kernel), rfl⟩
theorem mw_417 : (Cond.selects RX1 yX8_raceWay yX8_raceWay) ∈ wk_T := List.mem_filter.mpr ⟨List.mem_of_getElem? (i := 417) (by decide +kernel), rfl⟩
theorem mw_418 : (Cond.selects RX3 yX8_raceWay yX8_raceWay) ∈ wk_T := List.mem_filter.mpr ⟨List.mem_of_getElem? (i := 418) (by decide +kernel), rfl⟩
theorem mw_419 : (Cond.selects RX4 yX8_raceWay yX4_raceWay) ∈ wk_T := List.mem_filter.mpr ⟨List.mem_of_getElem? (i := 419) (by decide +kernel), rfl⟩
theorem mw_420 : (Cond.instanceMethod yX4_raceWay) ∈ wk_T := List.mem_filter.mpr ⟨List.mem_of_getElem? (i := 420) (by decide +kernel), rfl⟩
theorem mw_421 : (Cond.code yX4_raceWay prog_6_method_5_code 5 (Option.some FieldType.int)) ∈ wk_T := List.mem_filter.mpr ⟨List.mem_of_getElem? (i := 421) (by decide +kernel), rfl⟩
theorem mw_422 : (Cond.methodLink RX4 36 (⟨RX5, "raceWay", "(LWatchBill$Crew;LWatchBill$Member;II)I"⟩ : MethodName)) ∈ wk_T := List.mem_filter.mpr ⟨List.mem_of_getElem? (i := 422) (by decide +kernel), rfl⟩
theorem mw_423 : (Cond.sameMethod RX5 RX8 "raceWay" "(LWatchBill$Crew;LWatchBill$Member;II)I") ∈ wk_T := List.mem_filter.mpr ⟨List.mem_of_getElem? (i := 423) (by decide +kernel), rfl⟩
theorem mx_424 : (Cond.declares yX8_raceWay) ∈ wk_X := List.mem_filter.mpr ⟨List.mem_of_getElem? (i := 424) (by decide +kernel), rfl⟩
theorem mw_425 : (Cond.selects RX5 yX8_raceWay yX8_raceWay) ∈ wk_T := List.mem_filter.mpr ⟨List.mem_of_getElem? (i := 425) (by decide +kernel), rfl⟩
theorem mw_426 : (Cond.selects RX7 yX8_raceWay yX8_raceWay) ∈ wk_T := List.mem_filter.mpr ⟨List.mem_of_getElem? (i := 426) (by decide +kernel), rfl⟩
theorem mw_427 : (Cond.selects RX9 yX8_raceWay yX8_raceWay) ∈ wk_T := List.mem_filter.mpr ⟨List.mem_of_getElem? (i := 427) (by decide +kernel), rfl⟩
theorem mw_428 : (Cond.selects RX10 yX8_raceWay yX8_raceWay) ∈ wk_T := List.mem_filter.mpr ⟨List.mem_of_getElem? (i := 428) (by decide +kernel), rfl⟩
theorem mw_429 : (Cond.code yX8_raceWay prog_10_method_6_code 8 (Option.some FieldType.int)) ∈ wk_T := List.mem_filter.mpr ⟨List.mem_of_getElem? (i := 429) (by decide +kernel), rfl⟩
theorem mw_430 : (Cond.methodLink RX8 31 yX8_climbWay) ∈ wk_T := List.mem_filter.mpr ⟨List.mem_of_getElem? (i := 430) (by decide +kernel), rfl⟩
theorem mw_431 : (Cond.methodLink RL 49 yX11_due) ∈ wk_T := List.mem_filter.mpr ⟨List.mem_of_getElem? (i := 431) (by decide +kernel), rfl⟩
theorem mw_432 : (Cond.instanceMethod yX11_due) ∈ wk_T := List.mem_filter.mpr ⟨List.mem_of_getElem? (i := 432) (by decide +kernel), rfl⟩
theorem mw_433 : (Cond.selects RX11 yX11_due yX11_due) ∈ wk_T := List.mem_filter.mpr ⟨List.mem_of_getElem? (i := 433) (by decide +kernel), rfl⟩
theorem mw_434 : (Cond.code yX11_due prog_1_method_10_code 7 (Option.some FieldType.long)) ∈ wk_T := List.mem_filter.mpr ⟨List.mem_of_getElem? (i := 434) (by decide +kernel), rfl⟩
theorem mw_435 : (Cond.methodLink RX11 127 yX6_isPayee) ∈ wk_T := List.mem_filter.mpr ⟨List.mem_of_getElem? (i := 435) (by decide +kernel), rfl⟩
theorem mw_436 : (Cond.instanceMethod yX6_isPayee) ∈ wk_T := List.mem_filter.mpr ⟨List.mem_of_getElem? (i := 436) (by decide +kernel), rfl⟩
theorem mw_437 : (Cond.selects RX6 yX6_isPayee yX6_isPayee) ∈ wk_T := List.mem_filter.mpr ⟨List.mem_of_getElem? (i := 437) (by decide +kernel), rfl⟩
theorem mw_438 : (Cond.code yX6_isPayee prog_8_method_5_code 1 (Option.some FieldType.boolean)) ∈ wk_T := List.mem_filter.mpr ⟨List.mem_of_getElem? (i := 438) (by decide +kernel), rfl⟩
theorem mw_439 : (Cond.methodLink RL 54 yX11_feed) ∈ wk_T := List.mem_filter.mpr ⟨List.mem_of_getElem? (i := 439) (by decide +kernel), rfl⟩
theorem mw_440 : (Cond.instanceMethod yX11_feed) ∈ wk_T := List.mem_filter.mpr ⟨List.mem_of_getElem? (i := 440) (by decide +kernel), rfl⟩
theorem mw_441 : (Cond.selects RX11 yX11_feed yX11_feed) ∈ wk_T := List.mem_filter.mpr ⟨List.mem_of_getElem? (i := 441) (by decide +kernel), rfl⟩
theorem mw_442 : (Cond.code yX11_feed prog_1_method_11_code 6 (Option.some FieldType.int)) ∈ wk_T := List.mem_filter.mpr ⟨List.mem_of_getElem? (i := 442) (by decide +kernel), rfl⟩
theorem mw_443 : (Cond.methodLink RX11 130 yX6_isCarer) ∈ wk_T := List.mem_filter.mpr ⟨List.mem_of_getElem? (i := 443) (by decide +kernel), rfl⟩
theorem mw_444 : (Cond.instanceMethod yX6_isCarer) ∈ wk_T := List.mem_filter.mpr ⟨List.mem_of_getElem? (i := 444) (by decide +kernel), rfl⟩
theorem mw_445 : (Cond.selects RX6 yX6_isCarer yX6_isCarer) ∈ wk_T := List.mem_filter.mpr ⟨List.mem_of_getElem? (i := 445) (by decide +kernel), rfl⟩
theorem mw_446 : (Cond.code yX6_isCarer prog_8_method_6_code 1 (Option.some FieldType.boolean)) ∈ wk_T := List.mem_filter.mpr ⟨List.mem_of_getElem? (i := 446) (by decide +kernel), rfl⟩
theorem mw_447 : (Cond.constantLong RX11 133 100) ∈ wk_T := List.mem_filter.mpr ⟨List.mem_of_getElem? (i := 447) (by decide +kernel), rfl⟩
theorem mw_448 : (Cond.methodLink RX11 139 yX6_tire) ∈ wk_T := List.mem_filter.mpr ⟨List.mem_of_getElem? (i := 448) (by decide +kernel), rfl⟩
theorem mw_449 : (Cond.methodLink RL 58 yX11_watch) ∈ wk_T := List.mem_filter.mpr ⟨List.mem_of_getElem? (i := 449) (by decide +kernel), rfl⟩
theorem mw_450 : (Cond.instanceMethod yX11_watch) ∈ wk_T := List.mem_filter.mpr ⟨List.mem_of_getElem? (i := 450) (by decide +kernel), rfl⟩
theorem mw_451 : (Cond.selects RX11 yX11_watch yX11_watch) ∈ wk_T := List.mem_filter.mpr ⟨List.mem_of_getElem? (i := 451) (by decide +kernel), rfl⟩
theorem mw_452 : (Cond.code yX11_watch prog_1_method_12_code 6 (Option.some FieldType.long)) ∈ wk_T := List.mem_filter.mpr ⟨List.mem_of_getElem? (i := 452) (by decide +kernel), rfl⟩
theorem mw_453 : (Cond.methodLink RX11 146 yX11_isDuty) ∈ wk_T := List.mem_filter.mpr ⟨List.mem_of_getElem? (i := 453) (by decide +kernel), rfl⟩
theorem mw_454 : (Cond.static yX11_isDuty) ∈ wk_T := List.mem_filter.mpr ⟨List.mem_of_getElem? (i := 454) (by decide +kernel), rfl⟩
theorem mw_455 : (Cond.code yX11_isDuty prog_1_method_23_code 1 (Option.some FieldType.boolean)) ∈ wk_T := List.mem_filter.mpr ⟨List.mem_of_getElem? (i := 455) (by decide +kernel), rfl⟩
theorem mw_456 : (Cond.methodLink RX11 149 yX11_doDuty) ∈ wk_T := List.mem_filter.mpr ⟨List.mem_of_getElem? (i := 456) (by decide +kernel), rfl⟩
theorem mw_458 : (Cond.instanceMethod yX11_doDuty) ∈ wk_T := List.mem_filter.mpr ⟨List.mem_of_getElem? (i := 458) (by decide +kernel), rfl⟩
theorem mw_459 : (Cond.code yX11_doDuty prog_1_method_21_code 4 (Option.some FieldType.long)) ∈ wk_T := List.mem_filter.mpr ⟨List.mem_of_getElem? (i := 459) (by decide +kernel), rfl⟩
theorem mw_460 : (Cond.methodLink RL 62 yX11_line) ∈ wk_T := List.mem_filter.mpr ⟨List.mem_of_getElem? (i := 460) (by decide +kernel), rfl⟩
theorem mw_461 : (Cond.instanceMethod yX11_line) ∈ wk_T := List.mem_filter.mpr ⟨List.mem_of_getElem? (i := 461) (by decide +kernel), rfl⟩
theorem mw_462 : (Cond.selects RX11 yX11_line yX11_line) ∈ wk_T := List.mem_filter.mpr ⟨List.mem_of_getElem? (i := 462) (by decide +kernel), rfl⟩
theorem mw_463 : (Cond.code yX11_line prog_1_method_13_code 6 (Option.some FieldType.int)) ∈ wk_T := List.mem_filter.mpr ⟨List.mem_of_getElem? (i := 463) (by decide +kernel), rfl⟩
theorem mw_464 : (Cond.methodLink RL 67 yX11_sail) ∈ wk_T := List.mem_filter.mpr ⟨List.mem_of_getElem? (i := 464) (by decide +kernel), rfl⟩
theorem mw_465 : (Cond.instanceMethod yX11_sail) ∈ wk_T := List.mem_filter.mpr ⟨List.mem_of_getElem? (i := 465) (by decide +kernel), rfl⟩
theorem mw_466 : (Cond.selects RX11 yX11_sail yX11_sail) ∈ wk_T := List.mem_filter.mpr ⟨List.mem_of_getElem? (i := 466) (by decide +kernel), rfl⟩
theorem mw_467 : (Cond.code yX11_sail prog_1_method_14_code 6 (Option.some FieldType.long)) ∈ wk_T := List.mem_filter.mpr ⟨List.mem_of_getElem? (i := 467) (by decide +kernel), rfl⟩
theorem mw_468 : (Cond.methodLink RX11 153 yX11_sailLine) ∈ wk_T := List.mem_filter.mpr ⟨List.mem_of_getElem? (i := 468) (by decide +kernel), rfl⟩
theorem mw_470 : (Cond.instanceMethod yX11_sailLine) ∈ wk_T := List.mem_filter.mpr ⟨List.mem_of_getElem? (i := 470) (by decide +kernel), rfl⟩
theorem mw_471 : (Cond.code yX11_sailLine prog_1_method_20_code 10 (Option.some FieldType.long)) ∈ wk_T := List.mem_filter.mpr ⟨List.mem_of_getElem? (i := 471) (by decide +kernel), rfl⟩
theorem mw_472 : (Cond.methodLink RL 72 yX11_rest) ∈ wk_T := List.mem_filter.mpr ⟨List.mem_of_getElem? (i := 472) (by decide +kernel), rfl⟩
theorem mw_473 : (Cond.instanceMethod yX11_rest) ∈ wk_T := List.mem_filter.mpr ⟨List.mem_of_getElem? (i := 473) (by decide +kernel), rfl⟩
theorem mw_474 : (Cond.selects RX11 yX11_rest yX11_rest) ∈ wk_T := List.mem_filter.mpr ⟨List.mem_of_getElem? (i := 474) (by decide +kernel), rfl⟩
theorem mw_475 : (Cond.code yX11_rest prog_1_method_15_code 3 (Option.some FieldType.int)) ∈ wk_T := List.mem_filter.mpr ⟨List.mem_of_getElem? (i := 475) (by decide +kernel), rfl⟩
theorem mw_476 : (Cond.methodLink RL 76 yX11_told) ∈ wk_T := List.mem_filter.mpr ⟨List.mem_of_getElem? (i := 476) (by decide +kernel), rfl⟩
theorem mw_477 : (Cond.instanceMethod yX11_told) ∈ wk_T := List.mem_filter.mpr ⟨List.mem_of_getElem? (i := 477) (by decide +kernel), rfl⟩
theorem mw_478 : (Cond.selects RX11 yX11_told yX11_told) ∈ wk_T := List.mem_filter.mpr ⟨List.mem_of_getElem? (i := 478) (by decide +kernel), rfl⟩
theorem mw_479 : (Cond.code yX11_told prog_1_method_16_code 4 (Option.some FieldType.long)) ∈ wk_T := List.mem_filter.mpr ⟨List.mem_of_getElem? (i := 479) (by decide +kernel), rfl⟩
theorem mw_480 : (Cond.methodLink RL 80 yX11_note) ∈ wk_T := List.mem_filter.mpr ⟨List.mem_of_getElem? (i := 480) (by decide +kernel), rfl⟩
theorem mw_481 : (Cond.instanceMethod yX11_note) ∈ wk_T := List.mem_filter.mpr ⟨List.mem_of_getElem? (i := 481) (by decide +kernel), rfl⟩
theorem mw_482 : (Cond.selects RX11 yX11_note yX11_note) ∈ wk_T := List.mem_filter.mpr ⟨List.mem_of_getElem? (i := 482) (by decide +kernel), rfl⟩
theorem mw_483 : (Cond.code yX11_note prog_1_method_17_code 2 (Option.some FieldType.int)) ∈ wk_T := List.mem_filter.mpr ⟨List.mem_of_getElem? (i := 483) (by decide +kernel), rfl⟩
theorem mw_484 : (Cond.methodLink RL 84 yX11_notes) ∈ wk_T := List.mem_filter.mpr ⟨List.mem_of_getElem? (i := 484) (by decide +kernel), rfl⟩
theorem mw_485 : (Cond.instanceMethod yX11_notes) ∈ wk_T := List.mem_filter.mpr ⟨List.mem_of_getElem? (i := 485) (by decide +kernel), rfl⟩
theorem mw_486 : (Cond.selects RX11 yX11_notes yX11_notes) ∈ wk_T := List.mem_filter.mpr ⟨List.mem_of_getElem? (i := 486) (by decide +kernel), rfl⟩
theorem mw_487 : (Cond.code yX11_notes prog_1_method_18_code 1 (Option.some FieldType.int)) ∈ wk_T := List.mem_filter.mpr ⟨List.mem_of_getElem? (i := 487) (by decide +kernel), rfl⟩
theorem mw_488 : (Cond.classLink RL 10 RX12) ∈ wk_T := List.mem_filter.mpr ⟨List.mem_of_getElem? (i := 488) (by decide +kernel), rfl⟩
theorem mw_489 : (Cond.instantiable RX12 11) ∈ wk_T := List.mem_filter.mpr ⟨List.mem_of_getElem? (i := 489) (by decide +kernel), rfl⟩
theorem mw_490 : (Cond.methodLink RL 12 yX12_init) ∈ wk_T := List.mem_filter.mpr ⟨List.mem_of_getElem? (i := 490) (by decide +kernel), rfl⟩
theorem mw_491 : (Cond.instanceMethod yX12_init) ∈ wk_T := List.mem_filter.mpr ⟨List.mem_of_getElem? (i := 491) (by decide +kernel), rfl⟩
theorem mw_492 : (Cond.code yX12_init prog_14_method_1_code 2 (Option.none : Option FieldType)) ∈ wk_T := List.mem_filter.mpr ⟨List.mem_of_getElem? (i := 492) (by decide +kernel), rfl⟩
theorem mw_493 : (Cond.methodLink RX12 1 (⟨"java/lang/Object", "<init>", "()V"⟩ : MethodName)) ∈ wk_T := List.mem_filter.mpr ⟨List.mem_of_getElem? (i := 493) (by decide +kernel), rfl⟩
theorem mw_494 : (Cond.fieldLink RX12 38 RX12 "members" "I") ∈ wk_T := List.mem_filter.mpr ⟨List.mem_of_getElem? (i := 494) (by decide +kernel), rfl⟩
theorem mw_495 : (Cond.fieldLink RX12 7 RX12 "rank" "[I") ∈ wk_T := List.mem_filter.mpr ⟨List.mem_of_getElem? (i := 495) (by decide +kernel), rfl⟩
theorem mw_496 : (Cond.fieldLink RX12 13 RX12 "skill" "[I") ∈ wk_T := List.mem_filter.mpr ⟨List.mem_of_getElem? (i := 496) (by decide +kernel), rfl⟩
theorem mw_497 : (Cond.fieldLink RX12 16 RX12 "weary" "[I") ∈ wk_T := List.mem_filter.mpr ⟨List.mem_of_getElem? (i := 497) (by decide +kernel), rfl⟩
theorem mw_498 : (Cond.fieldLink RX12 19 RX12 "purse" "[J") ∈ wk_T := List.mem_filter.mpr ⟨List.mem_of_getElem? (i := 498) (by decide +kernel), rfl⟩
theorem mw_499 : (Cond.fieldLink RX12 23 RX12 "lineDuty" "[I") ∈ wk_T := List.mem_filter.mpr ⟨List.mem_of_getElem? (i := 499) (by decide +kernel), rfl⟩
theorem mw_500 : (Cond.fieldLink RX12 26 RX12 "lineNumber" "[I") ∈ wk_T := List.mem_filter.mpr ⟨List.mem_of_getElem? (i := 500) (by decide +kernel), rfl⟩
theorem mw_501 : (Cond.fieldLink RX12 29 RX12 "lineLow" "[I") ∈ wk_T := List.mem_filter.mpr ⟨List.mem_of_getElem? (i := 501) (by decide +kernel), rfl⟩
theorem mw_502 : (Cond.fieldLink RX12 32 RX12 "lineHigh" "[I") ∈ wk_T := List.mem_filter.mpr ⟨List.mem_of_getElem? (i := 502) (by decide +kernel), rfl⟩
theorem mw_503 : (Cond.fieldLink RX12 35 RX12 "kept" "[I") ∈ wk_T := List.mem_filter.mpr ⟨List.mem_of_getElem? (i := 503) (by decide +kernel), rfl⟩
theorem mw_504 : (Cond.fieldLink RX12 46 RX12 "noted" "I") ∈ wk_T := List.mem_filter.mpr ⟨List.mem_of_getElem? (i := 504) (by decide +kernel), rfl⟩
theorem mw_505 : (Cond.lays RX12 RX12 "members" "I") ∈ wk_T := List.mem_filter.mpr ⟨List.mem_of_getElem? (i := 505) (by decide +kernel), rfl⟩
theorem mw_507 : (Cond.laysFinal RX12 RX12 "rank" "[I") ∈ wk_T := List.mem_filter.mpr ⟨List.mem_of_getElem? (i := 507) (by decide +kernel), rfl⟩
theorem mw_509 : (Cond.laysFinal RX12 RX12 "skill" "[I") ∈ wk_T := List.mem_filter.mpr ⟨List.mem_of_getElem? (i := 509) (by decide +kernel), rfl⟩
theorem mw_511 : (Cond.laysFinal RX12 RX12 "weary" "[I") ∈ wk_T := List.mem_filter.mpr ⟨List.mem_of_getElem? (i := 511) (by decide +kernel), rfl⟩
theorem mw_513 : (Cond.laysFinal RX12 RX12 "purse" "[J") ∈ wk_T := List.mem_filter.mpr ⟨List.mem_of_getElem? (i := 513) (by decide +kernel), rfl⟩
theorem mw_515 : (Cond.laysFinal RX12 RX12 "lineDuty" "[I") ∈ wk_T := List.mem_filter.mpr ⟨List.mem_of_getElem? (i := 515) (by decide +kernel), rfl⟩
theorem mw_517 : (Cond.laysFinal RX12 RX12 "lineNumber" "[I") ∈ wk_T := List.mem_filter.mpr ⟨List.mem_of_getElem? (i := 517) (by decide +kernel), rfl⟩
theorem mw_519 : (Cond.laysFinal RX12 RX12 "lineLow" "[I") ∈ wk_T := List.mem_filter.mpr ⟨List.mem_of_getElem? (i := 519) (by decide +kernel), rfl⟩
theorem mw_521 : (Cond.laysFinal RX12 RX12 "lineHigh" "[I") ∈ wk_T := List.mem_filter.mpr ⟨List.mem_of_getElem? (i := 521) (by decide +kernel), rfl⟩
theorem mw_523 : (Cond.laysFinal RX12 RX12 "kept" "[I") ∈ wk_T := List.mem_filter.mpr ⟨List.mem_of_getElem? (i := 523) (by decide +kernel), rfl⟩
theorem mw_525 : (Cond.lays RX12 RX12 "noted" "I") ∈ wk_T := List.mem_filter.mpr ⟨List.mem_of_getElem? (i := 525) (by decide +kernel), rfl⟩
theorem mw_527 : (Cond.superclass RX12 "java/lang/Object") ∈ wk_T := List.mem_filter.mpr ⟨List.mem_of_getElem? (i := 527) (by decide +kernel), rfl⟩
theorem mw_528 : (Cond.arrayClass FieldType.long) ∈ wk_T := List.mem_filter.mpr ⟨List.mem_of_getElem? (i := 528) (by decide +kernel), rfl⟩
theorem mw_529 : (Cond.methodLink RL 17 yX12_enlist) ∈ wk_T := List.mem_filter.mpr ⟨List.mem_of_getElem? (i := 529) (by decide +kernel), rfl⟩
theorem mw_530 : (Cond.instanceMethod yX12_enlist) ∈ wk_T := List.mem_filter.mpr ⟨List.mem_of_getElem? (i := 530) (by decide +kernel), rfl⟩
theorem mw_531 : (Cond.selects RX12 yX12_enlist yX12_enlist) ∈ wk_T := List.mem_filter.mpr ⟨List.mem_of_getElem? (i := 531) (by decide +kernel), rfl⟩
theorem mw_532 : (Cond.code yX12_enlist prog_14_method_35_code 4 (Option.some FieldType.int)) ∈ wk_T := List.mem_filter.mpr ⟨List.mem_of_getElem? (i := 532) (by decide +kernel), rfl⟩
theorem mw_533 : (Cond.constant RX12 166 (-1000000)) ∈ wk_T := List.mem_filter.mpr ⟨List.mem_of_getElem? (i := 533) (by decide +kernel), rfl⟩
theorem mw_534 : (Cond.methodLink RL 22 yX12_promote) ∈ wk_T := List.mem_filter.mpr ⟨List.mem_of_getElem? (i := 534) (by decide +kernel), rfl⟩
theorem mw_535 : (Cond.instanceMethod yX12_promote) ∈ wk_T := List.mem_filter.mpr ⟨List.mem_of_getElem? (i := 535) (by decide +kernel), rfl⟩
theorem mw_536 : (Cond.selects RX12 yX12_promote yX12_promote) ∈ wk_T := List.mem_filter.mpr ⟨List.mem_of_getElem? (i := 536) (by decide +kernel), rfl⟩
theorem mw_537 : (Cond.code yX12_promote prog_14_method_36_code 2 (Option.some FieldType.int)) ∈ wk_T := List.mem_filter.mpr ⟨List.mem_of_getElem? (i := 537) (by decide +kernel), rfl⟩
theorem mw_538 : (Cond.methodLink RX12 148 yX12_isMember) ∈ wk_T := List.mem_filter.mpr ⟨List.mem_of_getElem? (i := 538) (by decide +kernel), rfl⟩
theorem mw_540 : (Cond.instanceMethod yX12_isMember) ∈ wk_T := List.mem_filter.mpr ⟨List.mem_of_getElem? (i := 540) (by decide +kernel), rfl⟩
theorem mw_541 : (Cond.code yX12_isMember prog_14_method_4_code 2 (Option.some FieldType.boolean)) ∈ wk_T := List.mem_filter.mpr ⟨List.mem_of_getElem? (i := 541) (by decide +kernel), rfl⟩
theorem mw_542 : (Cond.methodLink RL 26 yX12_demote) ∈ wk_T := List.mem_filter.mpr ⟨List.mem_of_getElem? (i := 542) (by decide +kernel), rfl⟩
theorem mw_543 : (Cond.instanceMethod yX12_demote) ∈ wk_T := List.mem_filter.mpr ⟨List.mem_of_getElem? (i := 543) (by decide +kernel), rfl⟩
theorem mw_544 : (Cond.selects RX12 yX12_demote yX12_demote) ∈ wk_T := List.mem_filter.mpr ⟨List.mem_of_getElem? (i := 544) (by decide +kernel), rfl⟩
theorem mw_545 : (Cond.code yX12_demote prog_14_method_37_code 2 (Option.some FieldType.int)) ∈ wk_T := List.mem_filter.mpr ⟨List.mem_of_getElem? (i := 545) (by decide +kernel), rfl⟩
theorem mw_546 : (Cond.methodLink RX12 167 yX12_elderOf) ∈ wk_T := List.mem_filter.mpr ⟨List.mem_of_getElem? (i := 546) (by decide +kernel), rfl⟩
theorem mw_547 : (Cond.static yX12_elderOf) ∈ wk_T := List.mem_filter.mpr ⟨List.mem_of_getElem? (i := 547) (by decide +kernel), rfl⟩
theorem mw_548 : (Cond.code yX12_elderOf prog_14_method_2_code 1 (Option.some FieldType.int)) ∈ wk_T := List.mem_filter.mpr ⟨List.mem_of_getElem? (i := 548) (by decide +kernel), rfl⟩
theorem mw_549 : (Cond.methodLink RL 31 yX12_toil) ∈ wk_T := List.mem_filter.mpr ⟨List.mem_of_getElem? (i := 549) (by decide +kernel), rfl⟩
theorem mw_550 : (Cond.instanceMethod yX12_toil) ∈ wk_T := List.mem_filter.mpr ⟨List.mem_of_getElem? (i := 550) (by decide +kernel), rfl⟩
theorem mw_551 : (Cond.selects RX12 yX12_toil yX12_toil) ∈ wk_T := List.mem_filter.mpr ⟨List.mem_of_getElem? (i := 551) (by decide +kernel), rfl⟩
theorem mw_552 : (Cond.code yX12_toil prog_14_method_38_code 3 (Option.some FieldType.long)) ∈ wk_T := List.mem_filter.mpr ⟨List.mem_of_getElem? (i := 552) (by decide +kernel), rfl⟩
theorem mw_553 : (Cond.methodLink RX12 170 yX12_begin) ∈ wk_T := List.mem_filter.mpr ⟨List.mem_of_getElem? (i := 553) (by decide +kernel), rfl⟩
theorem mw_555 : (Cond.instanceMethod yX12_begin) ∈ wk_T := List.mem_filter.mpr ⟨List.mem_of_getElem? (i := 555) (by decide +kernel), rfl⟩
theorem mw_556 : (Cond.code yX12_begin prog_14_method_34_code 4 (Option.some FieldType.long)) ∈ wk_T := List.mem_filter.mpr ⟨List.mem_of_getElem? (i := 556) (by decide +kernel), rfl⟩
theorem mw_557 : (Cond.methodLink RX12 156 yX12_may) ∈ wk_T := List.mem_filter.mpr ⟨List.mem_of_getElem? (i := 557) (by decide +kernel), rfl⟩
theorem mw_559 : (Cond.instanceMethod yX12_may) ∈ wk_T := List.mem_filter.mpr ⟨List.mem_of_getElem? (i := 559) (by decide +kernel), rfl⟩
theorem mw_560 : (Cond.code yX12_may prog_14_method_33_code 4 (Option.some FieldType.boolean)) ∈ wk_T := List.mem_filter.mpr ⟨List.mem_of_getElem? (i := 560) (by decide +kernel), rfl⟩
theorem mw_561 : (Cond.methodLink RX12 152 yX12_isWithin) ∈ wk_T := List.mem_filter.mpr ⟨List.mem_of_getElem? (i := 561) (by decide +kernel), rfl⟩
theorem mw_562 : (Cond.static yX12_isWithin) ∈ wk_T := List.mem_filter.mpr ⟨List.mem_of_getElem? (i := 562) (by decide +kernel), rfl⟩
theorem mw_563 : (Cond.code yX12_isWithin prog_14_method_5_code 2 (Option.some FieldType.boolean)) ∈ wk_T := List.mem_filter.mpr ⟨List.mem_of_getElem? (i := 563) (by decide +kernel), rfl⟩
theorem mw_564 : (Cond.methodLink RX12 42 yX12_boundOf) ∈ wk_T := List.mem_filter.mpr ⟨List.mem_of_getElem? (i := 564) (by decide +kernel), rfl⟩
theorem mw_565 : (Cond.static yX12_boundOf) ∈ wk_T := List.mem_filter.mpr ⟨List.mem_of_getElem? (i := 565) (by decide +kernel), rfl⟩
theorem mw_566 : (Cond.code yX12_boundOf prog_14_method_3_code 1 (Option.some FieldType.int)) ∈ wk_T := List.mem_filter.mpr ⟨List.mem_of_getElem? (i := 566) (by decide +kernel), rfl⟩
theorem mw_567 : (Cond.constantLong RX12 160 (-1000000)) ∈ wk_T := List.mem_filter.mpr ⟨List.mem_of_getElem? (i := 567) (by decide +kernel), rfl⟩
theorem mw_568 : (Cond.methodLink RX12 162 yX12_work) ∈ wk_T := List.mem_filter.mpr ⟨List.mem_of_getElem? (i := 568) (by decide +kernel), rfl⟩
theorem mw_570 : (Cond.instanceMethod yX12_work) ∈ wk_T := List.mem_filter.mpr ⟨List.mem_of_getElem? (i := 570) (by decide +kernel), rfl⟩
theorem mw_571 : (Cond.code yX12_work prog_14_method_32_code 7 (Option.some FieldType.long)) ∈ wk_T := List.mem_filter.mpr ⟨List.mem_of_getElem? (i := 571) (by decide +kernel), rfl⟩
theorem mw_572 : (Cond.methodLink RX12 144 yX12_does) ∈ wk_T := List.mem_filter.mpr ⟨List.mem_of_getElem? (i := 572) (by decide +kernel), rfl⟩
theorem mw_574 : (Cond.instanceMethod yX12_does) ∈ wk_T := List.mem_filter.mpr ⟨List.mem_of_getElem? (i := 574) (by decide +kernel), rfl⟩
theorem mw_575 : (Cond.code yX12_does prog_14_method_31_code 4 (Option.some FieldType.long)) ∈ wk_T := List.mem_filter.mpr ⟨List.mem_of_getElem? (i := 575) (by decide +kernel), rfl⟩
theorem mw_576 : (Cond.methodLink RX12 132 yX12_toils) ∈ wk_T := List.mem_filter.mpr ⟨List.mem_of_getElem? (i := 576) (by decide +kernel), rfl⟩
theorem mw_578 : (Cond.instanceMethod yX12_toils) ∈ wk_T := List.mem_filter.mpr ⟨List.mem_of_getElem? (i := 578) (by decide +kernel), rfl⟩
theorem mw_579 : (Cond.code yX12_toils prog_14_method_14_code 3 (Option.some FieldType.long)) ∈ wk_T := List.mem_filter.mpr ⟨List.mem_of_getElem? (i := 579) (by decide +kernel), rfl⟩
theorem mw_580 : (Cond.methodLink RX12 57 yX12_soulToils) ∈ wk_T := List.mem_filter.mpr ⟨List.mem_of_getElem? (i := 580) (by decide +kernel), rfl⟩
theorem mw_582 : (Cond.instanceMethod yX12_soulToils) ∈ wk_T := List.mem_filter.mpr ⟨List.mem_of_getElem? (i := 582) (by decide +kernel), rfl⟩
theorem mw_583 : (Cond.code yX12_soulToils prog_14_method_9_code 5 (Option.some FieldType.long)) ∈ wk_T := List.mem_filter.mpr ⟨List.mem_of_getElem? (i := 583) (by decide +kernel), rfl⟩
theorem mw_584 : (Cond.methodLink RX12 49 yX12_mark) ∈ wk_T := List.mem_filter.mpr ⟨List.mem_of_getElem? (i := 584) (by decide +kernel), rfl⟩
theorem mw_586 : (Cond.instanceMethod yX12_mark) ∈ wk_T := List.mem_filter.mpr ⟨List.mem_of_getElem? (i := 586) (by decide +kernel), rfl⟩
theorem mw_587 : (Cond.code yX12_mark prog_14_method_6_code 2 (Option.none : Option FieldType)) ∈ wk_T := List.mem_filter.mpr ⟨List.mem_of_getElem? (i := 587) (by decide +kernel), rfl⟩
theorem mw_588 : (Cond.methodLink RX12 53 yX12_tire) ∈ wk_T := List.mem_filter.mpr ⟨List.mem_of_getElem? (i := 588) (by decide +kernel), rfl⟩
theorem mw_590 : (Cond.instanceMethod yX12_tire) ∈ wk_T := List.mem_filter.mpr ⟨List.mem_of_getElem? (i := 590) (by decide +kernel), rfl⟩
theorem mw_591 : (Cond.code yX12_tire prog_14_method_7_code 4 (Option.none : Option FieldType)) ∈ wk_T := List.mem_filter.mpr ⟨List.mem_of_getElem? (i := 591) (by decide +kernel), rfl⟩
theorem mw_592 : (Cond.methodLink RX12 63 yX12_topmanToils) ∈ wk_T := List.mem_filter.mpr ⟨List.mem_of_getElem? (i := 592) (by decide +kernel), rfl⟩
theorem mw_594 : (Cond.instanceMethod yX12_topmanToils) ∈ wk_T := List.mem_filter.mpr ⟨List.mem_of_getElem? (i := 594) (by decide +kernel), rfl⟩
theorem mw_595 : (Cond.code yX12_topmanToils prog_14_method_10_code 3 (Option.some FieldType.long)) ∈ wk_T := List.mem_filter.mpr ⟨List.mem_of_getElem? (i := 595) (by decide +kernel), rfl⟩
theorem mw_596 : (Cond.constantLong RX12 61 3) ∈ wk_T := List.mem_filter.mpr ⟨List.mem_of_getElem? (i := 596) (by decide +kernel), rfl⟩
theorem mw_597 : (Cond.methodLink RX12 66 yX12_mateToils) ∈ wk_T := List.mem_filter.mpr ⟨List.mem_of_getElem? (i := 597) (by decide +kernel), rfl⟩
theorem mw_599 : (Cond.instanceMethod yX12_mateToils) ∈ wk_T := List.mem_filter.mpr ⟨List.mem_of_getElem? (i := 599) (by decide +kernel), rfl⟩
theorem mw_600 : (Cond.code yX12_mateToils prog_14_method_11_code 5 (Option.some FieldType.long)) ∈ wk_T := List.mem_filter.mpr ⟨List.mem_of_getElem? (i := 600) (by decide +kernel), rfl⟩
theorem mw_601 : (Cond.methodLink RX12 71 yX12_masterToils) ∈ wk_T := List.mem_filter.mpr ⟨List.mem_of_getElem? (i := 601) (by decide +kernel), rfl⟩
theorem mw_603 : (Cond.instanceMethod yX12_masterToils) ∈ wk_T := List.mem_filter.mpr ⟨List.mem_of_getElem? (i := 603) (by decide +kernel), rfl⟩
theorem mw_604 : (Cond.code yX12_masterToils prog_14_method_12_code 3 (Option.some FieldType.long)) ∈ wk_T := List.mem_filter.mpr ⟨List.mem_of_getElem? (i := 604) (by decide +kernel), rfl⟩
theorem mw_605 : (Cond.constantLong RX12 69 4) ∈ wk_T := List.mem_filter.mpr ⟨List.mem_of_getElem? (i := 605) (by decide +kernel), rfl⟩
theorem mw_606 : (Cond.methodLink RX12 74 yX12_cookToils) ∈ wk_T := List.mem_filter.mpr ⟨List.mem_of_getElem? (i := 606) (by decide +kernel), rfl⟩
theorem mw_608 : (Cond.instanceMethod yX12_cookToils) ∈ wk_T := List.mem_filter.mpr ⟨List.mem_of_getElem? (i := 608) (by decide +kernel), rfl⟩
theorem mw_609 : (Cond.code yX12_cookToils prog_14_method_13_code 5 (Option.some FieldType.long)) ∈ wk_T := List.mem_filter.mpr ⟨List.mem_of_getElem? (i := 609) (by decide +kernel), rfl⟩
theorem mw_610 : (Cond.methodLink RX12 135 yX12_isPaid) ∈ wk_T := List.mem_filter.mpr ⟨List.mem_of_getElem? (i := 610) (by decide +kernel), rfl⟩
theorem mw_612 : (Cond.instanceMethod yX12_isPaid) ∈ wk_T := List.mem_filter.mpr ⟨List.mem_of_getElem? (i := 612) (by decide +kernel), rfl⟩
theorem mw_613 : (Cond.code yX12_isPaid prog_14_method_19_code 3 (Option.some FieldType.long)) ∈ wk_T := List.mem_filter.mpr ⟨List.mem_of_getElem? (i := 613) (by decide +kernel), rfl⟩
theorem mw_614 : (Cond.methodLink RX12 86 yX12_bosunIsPaid) ∈ wk_T := List.mem_filter.mpr ⟨List.mem_of_getElem? (i := 614) (by decide +kernel), rfl⟩
theorem mw_616 : (Cond.instanceMethod yX12_bosunIsPaid) ∈ wk_T := List.mem_filter.mpr ⟨List.mem_of_getElem? (i := 616) (by decide +kernel), rfl⟩
theorem mw_617 : (Cond.code yX12_bosunIsPaid prog_14_method_16_code 5 (Option.some FieldType.long)) ∈ wk_T := List.mem_filter.mpr ⟨List.mem_of_getElem? (i := 617) (by decide +kernel), rfl⟩
theorem mw_618 : (Cond.methodLink RX12 77 yX12_handIsPaid) ∈ wk_T := List.mem_filter.mpr ⟨List.mem_of_getElem? (i := 618) (by decide +kernel), rfl⟩
theorem mw_620 : (Cond.instanceMethod yX12_handIsPaid) ∈ wk_T := List.mem_filter.mpr ⟨List.mem_of_getElem? (i := 620) (by decide +kernel), rfl⟩
theorem mw_621 : (Cond.code yX12_handIsPaid prog_14_method_15_code 3 (Option.some FieldType.long)) ∈ wk_T := List.mem_filter.mpr ⟨List.mem_of_getElem? (i := 621) (by decide +kernel), rfl⟩
theorem mw_622 : (Cond.constantLong RX12 80 2) ∈ wk_T := List.mem_filter.mpr ⟨List.mem_of_getElem? (i := 622) (by decide +kernel), rfl⟩
theorem mw_623 : (Cond.methodLink RX12 82 yX12_howMany) ∈ wk_T := List.mem_filter.mpr ⟨List.mem_of_getElem? (i := 623) (by decide +kernel), rfl⟩
theorem mw_625 : (Cond.instanceMethod yX12_howMany) ∈ wk_T := List.mem_filter.mpr ⟨List.mem_of_getElem? (i := 625) (by decide +kernel), rfl⟩
theorem mw_626 : (Cond.code yX12_howMany prog_14_method_8_code 5 (Option.some FieldType.int)) ∈ wk_T := List.mem_filter.mpr ⟨List.mem_of_getElem? (i := 626) (by decide +kernel), rfl⟩
theorem mw_627 : (Cond.methodLink RX12 91 yX12_masterIsPaid) ∈ wk_T := List.mem_filter.mpr ⟨List.mem_of_getElem? (i := 627) (by decide +kernel), rfl⟩
theorem mw_629 : (Cond.instanceMethod yX12_masterIsPaid) ∈ wk_T := List.mem_filter.mpr ⟨List.mem_of_getElem? (i := 629) (by decide +kernel), rfl⟩
theorem mw_630 : (Cond.code yX12_masterIsPaid prog_14_method_17_code 5 (Option.some FieldType.long)) ∈ wk_T := List.mem_filter.mpr ⟨List.mem_of_getElem? (i := 630) (by decide +kernel), rfl⟩
theorem mw_631 : (Cond.methodLink RX12 94 yX12_surgeonIsPaid) ∈ wk_T := List.mem_filter.mpr ⟨List.mem_of_getElem? (i := 631) (by decide +kernel), rfl⟩
theorem mw_633 : (Cond.instanceMethod yX12_surgeonIsPaid) ∈ wk_T := List.mem_filter.mpr ⟨List.mem_of_getElem? (i := 633) (by decide +kernel), rfl⟩
theorem mw_634 : (Cond.code yX12_surgeonIsPaid prog_14_method_18_code 6 (Option.some FieldType.long)) ∈ wk_T := List.mem_filter.mpr ⟨List.mem_of_getElem? (i := 634) (by decide +kernel), rfl⟩
theorem mw_635 : (Cond.constantLong RX12 89 7) ∈ wk_T := List.mem_filter.mpr ⟨List.mem_of_getElem? (i := 635) (by decide +kernel), rfl⟩
theorem mw_636 : (Cond.methodLink RX12 138 yX12_climbs) ∈ wk_T := List.mem_filter.mpr ⟨List.mem_of_getElem? (i := 636) (by decide +kernel), rfl⟩
theorem mw_638 : (Cond.instanceMethod yX12_climbs) ∈ wk_T := List.mem_filter.mpr ⟨List.mem_of_getElem? (i := 638) (by decide +kernel), rfl⟩
theorem mw_639 : (Cond.code yX12_climbs prog_14_method_24_code 3 (Option.some FieldType.long)) ∈ wk_T := List.mem_filter.mpr ⟨List.mem_of_getElem? (i := 639) (by decide +kernel), rfl⟩
theorem mw_640 : (Cond.methodLink RX12 102 yX12_sailorClimbs) ∈ wk_T := List.mem_filter.mpr ⟨List.mem_of_getElem? (i := 640) (by decide +kernel), rfl⟩
theorem mw_642 : (Cond.instanceMethod yX12_sailorClimbs) ∈ wk_T := List.mem_filter.mpr ⟨List.mem_of_getElem? (i := 642) (by decide +kernel), rfl⟩
theorem mw_643 : (Cond.code yX12_sailorClimbs prog_14_method_21_code 3 (Option.some FieldType.long)) ∈ wk_T := List.mem_filter.mpr ⟨List.mem_of_getElem? (i := 643) (by decide +kernel), rfl⟩
theorem mw_644 : (Cond.methodLink RX12 99 yX12_soulClimbs) ∈ wk_T := List.mem_filter.mpr ⟨List.mem_of_getElem? (i := 644) (by decide +kernel), rfl⟩
theorem mw_646 : (Cond.instanceMethod yX12_soulClimbs) ∈ wk_T := List.mem_filter.mpr ⟨List.mem_of_getElem? (i := 646) (by decide +kernel), rfl⟩
theorem mw_647 : (Cond.code yX12_soulClimbs prog_14_method_20_code 3 (Option.some FieldType.long)) ∈ wk_T := List.mem_filter.mpr ⟨List.mem_of_getElem? (i := 647) (by decide +kernel), rfl⟩
theorem mw_648 : (Cond.constantLong RX12 97 (-1)) ∈ wk_T := List.mem_filter.mpr ⟨List.mem_of_getElem? (i := 648) (by decide +kernel), rfl⟩
theorem mw_649 : (Cond.methodLink RX12 105 yX12_mateClimbs) ∈ wk_T := List.mem_filter.mpr ⟨List.mem_of_getElem? (i := 649) (by decide +kernel), rfl⟩
theorem mw_651 : (Cond.instanceMethod yX12_mateClimbs) ∈ wk_T := List.mem_filter.mpr ⟨List.mem_of_getElem? (i := 651) (by decide +kernel), rfl⟩
theorem mw_652 : (Cond.code yX12_mateClimbs prog_14_method_22_code 5 (Option.some FieldType.long)) ∈ wk_T := List.mem_filter.mpr ⟨List.mem_of_getElem? (i := 652) (by decide +kernel), rfl⟩
theorem mw_653 : (Cond.methodLink RX12 108 yX12_surgeonClimbs) ∈ wk_T := List.mem_filter.mpr ⟨List.mem_of_getElem? (i := 653) (by decide +kernel), rfl⟩
theorem mw_655 : (Cond.instanceMethod yX12_surgeonClimbs) ∈ wk_T := List.mem_filter.mpr ⟨List.mem_of_getElem? (i := 655) (by decide +kernel), rfl⟩
theorem mw_656 : (Cond.code yX12_surgeonClimbs prog_14_method_23_code 3 (Option.some FieldType.long)) ∈ wk_T := List.mem_filter.mpr ⟨List.mem_of_getElem? (i := 656) (by decide +kernel), rfl⟩
theorem mw_657 : (Cond.methodLink RX12 141 yX12_heeds) ∈ wk_T := List.mem_filter.mpr ⟨List.mem_of_getElem? (i := 657) (by decide +kernel), rfl⟩
theorem mw_659 : (Cond.instanceMethod yX12_heeds) ∈ wk_T := List.mem_filter.mpr ⟨List.mem_of_getElem? (i := 659) (by decide +kernel), rfl⟩
theorem mw_660 : (Cond.code yX12_heeds prog_14_method_30_code 3 (Option.some FieldType.long)) ∈ wk_T := List.mem_filter.mpr ⟨List.mem_of_getElem? (i := 660) (by decide +kernel), rfl⟩
theorem mw_661 : (Cond.methodLink RX12 115 yX12_soulHeeds) ∈ wk_T := List.mem_filter.mpr ⟨List.mem_of_getElem? (i := 661) (by decide +kernel), rfl⟩
theorem mw_663 : (Cond.instanceMethod yX12_soulHeeds) ∈ wk_T := List.mem_filter.mpr ⟨List.mem_of_getElem? (i := 663) (by decide +kernel), rfl⟩
theorem mw_664 : (Cond.code yX12_soulHeeds prog_14_method_25_code 3 (Option.some FieldType.long)) ∈ wk_T := List.mem_filter.mpr ⟨List.mem_of_getElem? (i := 664) (by decide +kernel), rfl⟩
theorem mw_665 : (Cond.constantLong RX12 111 31) ∈ wk_T := List.mem_filter.mpr ⟨List.mem_of_getElem? (i := 665) (by decide +kernel), rfl⟩
theorem mw_666 : (Cond.constantLong RX12 113 1000) ∈ wk_T := List.mem_filter.mpr ⟨List.mem_of_getElem? (i := 666) (by decide +kernel), rfl⟩
theorem mw_667 : (Cond.methodLink RX12 118 yX12_topmanHeeds) ∈ wk_T := List.mem_filter.mpr ⟨List.mem_of_getElem? (i := 667) (by decide +kernel), rfl⟩
theorem mw_669 : (Cond.instanceMethod yX12_topmanHeeds) ∈ wk_T := List.mem_filter.mpr ⟨List.mem_of_getElem? (i := 669) (by decide +kernel), rfl⟩
theorem mw_670 : (Cond.code yX12_topmanHeeds prog_14_method_26_code 3 (Option.some FieldType.long)) ∈ wk_T := List.mem_filter.mpr ⟨List.mem_of_getElem? (i := 670) (by decide +kernel), rfl⟩
theorem mw_671 : (Cond.methodLink RX12 123 yX12_bosunHeeds) ∈ wk_T := List.mem_filter.mpr ⟨List.mem_of_getElem? (i := 671) (by decide +kernel), rfl⟩
theorem mw_673 : (Cond.instanceMethod yX12_bosunHeeds) ∈ wk_T := List.mem_filter.mpr ⟨List.mem_of_getElem? (i := 673) (by decide +kernel), rfl⟩
theorem mw_674 : (Cond.code yX12_bosunHeeds prog_14_method_27_code 6 (Option.some FieldType.long)) ∈ wk_T := List.mem_filter.mpr ⟨List.mem_of_getElem? (i := 674) (by decide +kernel), rfl⟩
theorem mw_675 : (Cond.methodLink RX12 126 yX12_masterHeeds) ∈ wk_T := List.mem_filter.mpr ⟨List.mem_of_getElem? (i := 675) (by decide +kernel), rfl⟩
theorem mw_677 : (Cond.instanceMethod yX12_masterHeeds) ∈ wk_T := List.mem_filter.mpr ⟨List.mem_of_getElem? (i := 677) (by decide +kernel), rfl⟩
theorem mw_678 : (Cond.code yX12_masterHeeds prog_14_method_28_code 3 (Option.some FieldType.long)) ∈ wk_T := List.mem_filter.mpr ⟨List.mem_of_getElem? (i := 678) (by decide +kernel), rfl⟩
theorem mw_679 : (Cond.constantLong RX12 121 (-5)) ∈ wk_T := List.mem_filter.mpr ⟨List.mem_of_getElem? (i := 679) (by decide +kernel), rfl⟩
theorem mw_680 : (Cond.methodLink RX12 129 yX12_cookHeeds) ∈ wk_T := List.mem_filter.mpr ⟨List.mem_of_getElem? (i := 680) (by decide +kernel), rfl⟩
theorem mw_682 : (Cond.instanceMethod yX12_cookHeeds) ∈ wk_T := List.mem_filter.mpr ⟨List.mem_of_getElem? (i := 682) (by decide +kernel), rfl⟩
theorem mw_683 : (Cond.code yX12_cookHeeds prog_14_method_29_code 3 (Option.some FieldType.long)) ∈ wk_T := List.mem_filter.mpr ⟨List.mem_of_getElem? (i := 683) (by decide +kernel), rfl⟩
theorem mw_684 : (Cond.methodLink RL 35 yX12_pay) ∈ wk_T := List.mem_filter.mpr ⟨List.mem_of_getElem? (i := 684) (by decide +kernel), rfl⟩
theorem mw_685 : (Cond.instanceMethod yX12_pay) ∈ wk_T := List.mem_filter.mpr ⟨List.mem_of_getElem? (i := 685) (by decide +kernel), rfl⟩
theorem mw_686 : (Cond.selects RX12 yX12_pay yX12_pay) ∈ wk_T := List.mem_filter.mpr ⟨List.mem_of_getElem? (i := 686) (by decide +kernel), rfl⟩
theorem mw_687 : (Cond.code yX12_pay prog_14_method_39_code 3 (Option.some FieldType.long)) ∈ wk_T := List.mem_filter.mpr ⟨List.mem_of_getElem? (i := 687) (by decide +kernel), rfl⟩
theorem mw_688 : (Cond.methodLink RL 39 yX12_climb) ∈ wk_T := List.mem_filter.mpr ⟨List.mem_of_getElem? (i := 688) (by decide +kernel), rfl⟩
theorem mw_689 : (Cond.instanceMethod yX12_climb) ∈ wk_T := List.mem_filter.mpr ⟨List.mem_of_getElem? (i := 689) (by decide +kernel), rfl⟩
theorem mw_690 : (Cond.selects RX12 yX12_climb yX12_climb) ∈ wk_T := List.mem_filter.mpr ⟨List.mem_of_getElem? (i := 690) (by decide +kernel), rfl⟩
theorem mw_691 : (Cond.code yX12_climb prog_14_method_40_code 3 (Option.some FieldType.int)) ∈ wk_T := List.mem_filter.mpr ⟨List.mem_of_getElem? (i := 691) (by decide +kernel), rfl⟩
theorem mw_692 : (Cond.methodLink RL 43 yX12_heed) ∈ wk_T := List.mem_filter.mpr ⟨List.mem_of_getElem? (i := 692) (by decide +kernel), rfl⟩
theorem mw_693 : (Cond.instanceMethod yX12_heed) ∈ wk_T := List.mem_filter.mpr ⟨List.mem_of_getElem? (i := 693) (by decide +kernel), rfl⟩
theorem mw_694 : (Cond.selects RX12 yX12_heed yX12_heed) ∈ wk_T := List.mem_filter.mpr ⟨List.mem_of_getElem? (i := 694) (by decide +kernel), rfl⟩
theorem mw_695 : (Cond.code yX12_heed prog_14_method_41_code 3 (Option.some FieldType.int)) ∈ wk_T := List.mem_filter.mpr ⟨List.mem_of_getElem? (i := 695) (by decide +kernel), rfl⟩
theorem mw_696 : (Cond.methodLink RL 48 yX12_race) ∈ wk_T := List.mem_filter.mpr ⟨List.mem_of_getElem? (i := 696) (by decide +kernel), rfl⟩
theorem mw_697 : (Cond.instanceMethod yX12_race) ∈ wk_T := List.mem_filter.mpr ⟨List.mem_of_getElem? (i := 697) (by decide +kernel), rfl⟩
theorem mw_698 : (Cond.selects RX12 yX12_race yX12_race) ∈ wk_T := List.mem_filter.mpr ⟨List.mem_of_getElem? (i := 698) (by decide +kernel), rfl⟩
theorem mw_699 : (Cond.code yX12_race prog_14_method_44_code 12 (Option.some FieldType.int)) ∈ wk_T := List.mem_filter.mpr ⟨List.mem_of_getElem? (i := 699) (by decide +kernel), rfl⟩
theorem mw_700 : (Cond.methodLink RX12 173 yX12_isClimber) ∈ wk_T := List.mem_filter.mpr ⟨List.mem_of_getElem? (i := 700) (by decide +kernel), rfl⟩
theorem mw_701 : (Cond.static yX12_isClimber) ∈ wk_T := List.mem_filter.mpr ⟨List.mem_of_getElem? (i := 701) (by decide +kernel), rfl⟩
theorem mw_702 : (Cond.code yX12_isClimber prog_14_method_42_code 1 (Option.some FieldType.boolean)) ∈ wk_T := List.mem_filter.mpr ⟨List.mem_of_getElem? (i := 702) (by decide +kernel), rfl⟩
theorem mw_703 : (Cond.methodLink RL 53 yX12_due) ∈ wk_T := List.mem_filter.mpr ⟨List.mem_of_getElem? (i := 703) (by decide +kernel), rfl⟩
theorem mw_704 : (Cond.instanceMethod yX12_due) ∈ wk_T := List.mem_filter.mpr ⟨List.mem_of_getElem? (i := 704) (by decide +kernel), rfl⟩
theorem mw_705 : (Cond.selects RX12 yX12_due yX12_due) ∈ wk_T := List.mem_filter.mpr ⟨List.mem_of_getElem? (i := 705) (by decide +kernel), rfl⟩
theorem mw_706 : (Cond.code yX12_due prog_14_method_45_code 6 (Option.some FieldType.long)) ∈ wk_T := List.mem_filter.mpr ⟨List.mem_of_getElem? (i := 706) (by decide +kernel), rfl⟩
theorem mw_707 : (Cond.methodLink RL 57 yX12_feed) ∈ wk_T := List.mem_filter.mpr ⟨List.mem_of_getElem? (i := 707) (by decide +kernel), rfl⟩
theorem mw_708 : (Cond.instanceMethod yX12_feed) ∈ wk_T := List.mem_filter.mpr ⟨List.mem_of_getElem? (i := 708) (by decide +kernel), rfl⟩
theorem mw_709 : (Cond.selects RX12 yX12_feed yX12_feed) ∈ wk_T := List.mem_filter.mpr ⟨List.mem_of_getElem? (i := 709) (by decide +kernel), rfl⟩
theorem mw_710 : (Cond.code yX12_feed prog_14_method_46_code 5 (Option.some FieldType.int)) ∈ wk_T := List.mem_filter.mpr ⟨List.mem_of_getElem? (i := 710) (by decide +kernel), rfl⟩
theorem mw_711 : (Cond.methodLink RX12 176 yX12_isCarer) ∈ wk_T := List.mem_filter.mpr ⟨List.mem_of_getElem? (i := 711) (by decide +kernel), rfl⟩
theorem mw_712 : (Cond.static yX12_isCarer) ∈ wk_T := List.mem_filter.mpr ⟨List.mem_of_getElem? (i := 712) (by decide +kernel), rfl⟩
theorem mw_713 : (Cond.code yX12_isCarer prog_14_method_43_code 1 (Option.some FieldType.boolean)) ∈ wk_T := List.mem_filter.mpr ⟨List.mem_of_getElem? (i := 713) (by decide +kernel), rfl⟩
theorem mw_714 : (Cond.constantLong RX12 179 100) ∈ wk_T := List.mem_filter.mpr ⟨List.mem_of_getElem? (i := 714) (by decide +kernel), rfl⟩
theorem mw_715 : (Cond.methodLink RL 61 yX12_watch) ∈ wk_T := List.mem_filter.mpr ⟨List.mem_of_getElem? (i := 715) (by decide +kernel), rfl⟩
theorem mw_716 : (Cond.instanceMethod yX12_watch) ∈ wk_T := List.mem_filter.mpr ⟨List.mem_of_getElem? (i := 716) (by decide +kernel), rfl⟩
theorem mw_717 : (Cond.selects RX12 yX12_watch yX12_watch) ∈ wk_T := List.mem_filter.mpr ⟨List.mem_of_getElem? (i := 717) (by decide +kernel), rfl⟩
theorem mw_718 : (Cond.code yX12_watch prog_14_method_47_code 6 (Option.some FieldType.long)) ∈ wk_T := List.mem_filter.mpr ⟨List.mem_of_getElem? (i := 718) (by decide +kernel), rfl⟩
theorem mw_719 : (Cond.methodLink RL 66 yX12_line) ∈ wk_T := List.mem_filter.mpr ⟨List.mem_of_getElem? (i := 719) (by decide +kernel), rfl⟩
theorem mw_720 : (Cond.instanceMethod yX12_line) ∈ wk_T := List.mem_filter.mpr ⟨List.mem_of_getElem? (i := 720) (by decide +kernel), rfl⟩
theorem mw_721 : (Cond.selects RX12 yX12_line yX12_line) ∈ wk_T := List.mem_filter.mpr ⟨List.mem_of_getElem? (i := 721) (by decide +kernel), rfl⟩
theorem mw_722 : (Cond.code yX12_line prog_14_method_48_code 6 (Option.some FieldType.int)) ∈ wk_T := List.mem_filter.mpr ⟨List.mem_of_getElem? (i := 722) (by decide +kernel), rfl⟩
theorem mw_723 : (Cond.methodLink RL 71 yX12_sail) ∈ wk_T := List.mem_filter.mpr ⟨List.mem_of_getElem? (i := 723) (by decide +kernel), rfl⟩
theorem mw_724 : (Cond.instanceMethod yX12_sail) ∈ wk_T := List.mem_filter.mpr ⟨List.mem_of_getElem? (i := 724) (by decide +kernel), rfl⟩
theorem mw_725 : (Cond.selects RX12 yX12_sail yX12_sail) ∈ wk_T := List.mem_filter.mpr ⟨List.mem_of_getElem? (i := 725) (by decide +kernel), rfl⟩
theorem mw_726 : (Cond.code yX12_sail prog_14_method_49_code 7 (Option.some FieldType.long)) ∈ wk_T := List.mem_filter.mpr ⟨List.mem_of_getElem? (i := 726) (by decide +kernel), rfl⟩
theorem mw_727 : (Cond.methodLink RL 75 yX12_rest) ∈ wk_T := List.mem_filter.mpr ⟨List.mem_of_getElem? (i := 727) (by decide +kernel), rfl⟩
theorem mw_728 : (Cond.instanceMethod yX12_rest) ∈ wk_T := List.mem_filter.mpr ⟨List.mem_of_getElem? (i := 728) (by decide +kernel), rfl⟩
theorem mw_729 : (Cond.selects RX12 yX12_rest yX12_rest) ∈ wk_T := List.mem_filter.mpr ⟨List.mem_of_getElem? (i := 729) (by decide +kernel), rfl⟩
theorem mw_730 : (Cond.code yX12_rest prog_14_method_50_code 3 (Option.some FieldType.int)) ∈ wk_T := List.mem_filter.mpr ⟨List.mem_of_getElem? (i := 730) (by decide +kernel), rfl⟩
theorem mw_731 : (Cond.methodLink RL 79 yX12_told) ∈ wk_T := List.mem_filter.mpr ⟨List.mem_of_getElem? (i := 731) (by decide +kernel), rfl⟩
theorem mw_732 : (Cond.instanceMethod yX12_told) ∈ wk_T := List.mem_filter.mpr ⟨List.mem_of_getElem? (i := 732) (by decide +kernel), rfl⟩
theorem mw_733 : (Cond.selects RX12 yX12_told yX12_told) ∈ wk_T := List.mem_filter.mpr ⟨List.mem_of_getElem? (i := 733) (by decide +kernel), rfl⟩
theorem mw_734 : (Cond.code yX12_told prog_14_method_51_code 3 (Option.some FieldType.long)) ∈ wk_T := List.mem_filter.mpr ⟨List.mem_of_getElem? (i := 734) (by decide +kernel), rfl⟩
theorem mw_735 : (Cond.methodLink RL 83 yX12_note) ∈ wk_T := List.mem_filter.mpr ⟨List.mem_of_getElem? (i := 735) (by decide +kernel), rfl⟩
theorem mw_736 : (Cond.instanceMethod yX12_note) ∈ wk_T := List.mem_filter.mpr ⟨List.mem_of_getElem? (i := 736) (by decide +kernel), rfl⟩
theorem mw_737 : (Cond.selects RX12 yX12_note yX12_note) ∈ wk_T := List.mem_filter.mpr ⟨List.mem_of_getElem? (i := 737) (by decide +kernel), rfl⟩
theorem mw_738 : (Cond.code yX12_note prog_14_method_52_code 2 (Option.some FieldType.int)) ∈ wk_T := List.mem_filter.mpr ⟨List.mem_of_getElem? (i := 738) (by decide +kernel), rfl⟩
theorem mw_739 : (Cond.methodLink RL 88 yX12_notes) ∈ wk_T := List.mem_filter.mpr ⟨List.mem_of_getElem? (i := 739) (by decide +kernel), rfl⟩
theorem mw_740 : (Cond.instanceMethod yX12_notes) ∈ wk_T := List.mem_filter.mpr ⟨List.mem_of_getElem? (i := 740) (by decide +kernel), rfl⟩
theorem mw_741 : (Cond.selects RX12 yX12_notes yX12_notes) ∈ wk_T := List.mem_filter.mpr ⟨List.mem_of_getElem? (i := 741) (by decide +kernel), rfl⟩
theorem mw_742 : (Cond.code yX12_notes prog_14_method_53_code 1 (Option.some FieldType.int)) ∈ wk_T := List.mem_filter.mpr ⟨List.mem_of_getElem? (i := 742) (by decide +kernel), rfl⟩
theorem mw_743 : (Cond.sameMethod RX5 RX5 "toilWay" "(LWatchBill$Crew;LWatchBill$Member;I)J") ∈ wk_T := List.mem_filter.mpr ⟨List.mem_of_getElem? (i := 743) (by decide +kernel), rfl⟩
theorem mw_744 : (Cond.sameMethod RX10 RX10 "heedWay" "(LWatchBill$Crew;LWatchBill$Member;I)I") ∈ wk_T := List.mem_filter.mpr ⟨List.mem_of_getElem? (i := 744) (by decide +kernel), rfl⟩
theorem mx_745 : (Cond.castable RX0 RX8) ∈ wk_X := List.mem_filter.mpr ⟨List.mem_of_getElem? (i := 745) (by decide +kernel), rfl⟩
theorem mx_746 : (Cond.castable RX1 RX8) ∈ wk_X := List.mem_filter.mpr ⟨List.mem_of_getElem? (i := 746) (by decide +kernel), rfl⟩
theorem mx_747 : (Cond.castable RX3 RX8) ∈ wk_X := List.mem_filter.mpr ⟨List.mem_of_getElem? (i := 747) (by decide +kernel), rfl⟩
theorem mx_748 : (Cond.castable RX4 RX8) ∈ wk_X := List.mem_filter.mpr ⟨List.mem_of_getElem? (i := 748) (by decide +kernel), rfl⟩
theorem mx_749 : (Cond.castable RX5 RX8) ∈ wk_X := List.mem_filter.mpr ⟨List.mem_of_getElem? (i := 749) (by decide +kernel), rfl⟩
theorem mx_750 : (Cond.castable RX7 RX8) ∈ wk_X := List.mem_filter.mpr ⟨List.mem_of_getElem? (i := 750) (by decide +kernel), rfl⟩
theorem mx_751 : (Cond.castable RX9 RX8) ∈ wk_X := List.mem_filter.mpr ⟨List.mem_of_getElem? (i := 751) (by decide +kernel), rfl⟩
theorem mx_752 : (Cond.castable RX10 RX8) ∈ wk_X := List.mem_filter.mpr ⟨List.mem_of_getElem? (i := 752) (by decide +kernel), rfl⟩
theorem lay_X2 : ∀ w ∈ u_ws RX2 TX2 5, w ∈ wk_T := by decide +kernel
theorem lay_X6 : ∀ w ∈ u_ws RX6 TX6 7, w ∈ wk_T := by decide +kernel
theorem lay_X11 : ∀ w ∈ u_ws RX11 TX11 6, w ∈ wk_T := by decide +kernel
theorem lay_X12 : ∀ w ∈ u_ws RX12 TX12 11, w ∈ wk_T := by decide +kernel
