/-! the words of the tables that are used, by their places -/
theorem wm_0 : Cond.selects yX2_fits.cls yX2_fits yX2_fits ∈ px_T := List.mem_filter.mpr ⟨List.mem_of_getElem? (i := 0) (by decide +kernel), by decide +kernel⟩
theorem wm_1 : Cond.selects yX2_fitsPart.cls yX2_fitsPart yX2_fitsPart ∈ px_T := List.mem_filter.mpr ⟨List.mem_of_getElem? (i := 1) (by decide +kernel), by decide +kernel⟩
theorem wm_2 : Cond.selects yX1_isJoined.cls yX1_isJoined yX1_isJoined ∈ px_T := List.mem_filter.mpr ⟨List.mem_of_getElem? (i := 2) (by decide +kernel), by decide +kernel⟩
theorem wm_3 : Cond.selects yX2_take.cls yX2_take yX2_take ∈ px_T := List.mem_filter.mpr ⟨List.mem_of_getElem? (i := 3) (by decide +kernel), by decide +kernel⟩
theorem wm_4 : Cond.selects yX2_takePart.cls yX2_takePart yX2_takePart ∈ px_T := List.mem_filter.mpr ⟨List.mem_of_getElem? (i := 4) (by decide +kernel), by decide +kernel⟩
theorem wm_5 : Cond.selects yX0_dropFirst.cls yX0_dropFirst yX0_dropFirst ∈ px_T := List.mem_filter.mpr ⟨List.mem_of_getElem? (i := 5) (by decide +kernel), by decide +kernel⟩
theorem wm_6 : Cond.selects yX5_arrive.cls yX5_arrive yX5_arrive ∈ px_T := List.mem_filter.mpr ⟨List.mem_of_getElem? (i := 6) (by decide +kernel), by decide +kernel⟩
theorem wm_7 : Cond.selects yX6_readSteps.cls yX6_readSteps yX6_readSteps ∈ px_T := List.mem_filter.mpr ⟨List.mem_of_getElem? (i := 7) (by decide +kernel), by decide +kernel⟩
theorem wm_8 : Cond.selects yX6_canStep.cls yX6_canStep yX6_canStep ∈ px_T := List.mem_filter.mpr ⟨List.mem_of_getElem? (i := 8) (by decide +kernel), by decide +kernel⟩
theorem wm_9 : Cond.selects yX6_tryTurning.cls yX6_tryTurning yX6_tryTurning ∈ px_T := List.mem_filter.mpr ⟨List.mem_of_getElem? (i := 9) (by decide +kernel), by decide +kernel⟩
theorem wm_10 : Cond.selects yX6_passHours.cls yX6_passHours yX6_passHours ∈ px_T := List.mem_filter.mpr ⟨List.mem_of_getElem? (i := 10) (by decide +kernel), by decide +kernel⟩
theorem wm_11 : Cond.selects yX6_fewestTurned.cls yX6_fewestTurned yX6_fewestTurned ∈ px_T := List.mem_filter.mpr ⟨List.mem_of_getElem? (i := 11) (by decide +kernel), by decide +kernel⟩
theorem wm_12 : Cond.selects yX6_fewestBySecond.cls yX6_fewestBySecond yX6_fewestBySecond ∈ px_T := List.mem_filter.mpr ⟨List.mem_of_getElem? (i := 12) (by decide +kernel), by decide +kernel⟩
theorem wm_13 : Cond.selects yX6_dungHalting.cls yX6_dungHalting yX6_dungHalting ∈ px_T := List.mem_filter.mpr ⟨List.mem_of_getElem? (i := 13) (by decide +kernel), by decide +kernel⟩
theorem wm_14 : Cond.selects yX6_overRains.cls yX6_overRains yX6_overRains ∈ px_T := List.mem_filter.mpr ⟨List.mem_of_getElem? (i := 14) (by decide +kernel), by decide +kernel⟩
theorem wm_15 : Cond.selects yX6_isAsSeen.cls yX6_isAsSeen yX6_isAsSeen ∈ px_T := List.mem_filter.mpr ⟨List.mem_of_getElem? (i := 15) (by decide +kernel), by decide +kernel⟩
theorem wm_16 : Cond.selects yX6_leftByMove.cls yX6_leftByMove yX6_leftByMove ∈ px_T := List.mem_filter.mpr ⟨List.mem_of_getElem? (i := 16) (by decide +kernel), by decide +kernel⟩
theorem wm_17 : Cond.selects yX6_leftFrom.cls yX6_leftFrom yX6_leftFrom ∈ px_T := List.mem_filter.mpr ⟨List.mem_of_getElem? (i := 17) (by decide +kernel), by decide +kernel⟩
theorem wm_18 : Cond.selects yX7_readText.cls yX7_readText yX7_readText ∈ px_T := List.mem_filter.mpr ⟨List.mem_of_getElem? (i := 18) (by decide +kernel), by decide +kernel⟩
theorem wm_19 : Cond.selects yX7_readPart.cls yX7_readPart yX7_readPart ∈ px_T := List.mem_filter.mpr ⟨List.mem_of_getElem? (i := 19) (by decide +kernel), by decide +kernel⟩
theorem wm_20 : Cond.selects yX7_figure.cls yX7_figure yX7_figure ∈ px_T := List.mem_filter.mpr ⟨List.mem_of_getElem? (i := 20) (by decide +kernel), by decide +kernel⟩
theorem wm_21 : Cond.selects yX7_begins.cls yX7_begins yX7_begins ∈ px_T := List.mem_filter.mpr ⟨List.mem_of_getElem? (i := 21) (by decide +kernel), by decide +kernel⟩
theorem wm_22 : Cond.selects yX7_left.cls yX7_left yX7_left ∈ px_T := List.mem_filter.mpr ⟨List.mem_of_getElem? (i := 22) (by decide +kernel), by decide +kernel⟩
theorem wm_23 : Cond.selects yX7_isPlace.cls yX7_isPlace yX7_isPlace ∈ px_T := List.mem_filter.mpr ⟨List.mem_of_getElem? (i := 23) (by decide +kernel), by decide +kernel⟩
theorem wm_24 : Cond.selects yX7_leastOpen.cls yX7_leastOpen yX7_leastOpen ∈ px_T := List.mem_filter.mpr ⟨List.mem_of_getElem? (i := 24) (by decide +kernel), by decide +kernel⟩
theorem wm_25 : Cond.selects yX7_isDitch.cls yX7_isDitch yX7_isDitch ∈ px_T := List.mem_filter.mpr ⟨List.mem_of_getElem? (i := 25) (by decide +kernel), by decide +kernel⟩
theorem wm_26 : Cond.selects yX7_keepAct.cls yX7_keepAct yX7_keepAct ∈ px_T := List.mem_filter.mpr ⟨List.mem_of_getElem? (i := 26) (by decide +kernel), by decide +kernel⟩
theorem wm_27 : Cond.selects yX7_pass.cls yX7_pass yX7_pass ∈ px_T := List.mem_filter.mpr ⟨List.mem_of_getElem? (i := 27) (by decide +kernel), by decide +kernel⟩
theorem wm_28 : Cond.selects yX7_lay.cls yX7_lay yX7_lay ∈ px_T := List.mem_filter.mpr ⟨List.mem_of_getElem? (i := 28) (by decide +kernel), by decide +kernel⟩
theorem wm_29 : Cond.selects yX7_wet.cls yX7_wet yX7_wet ∈ px_T := List.mem_filter.mpr ⟨List.mem_of_getElem? (i := 29) (by decide +kernel), by decide +kernel⟩
theorem wm_30 : Cond.selects yX7_passes.cls yX7_passes yX7_passes ∈ px_T := List.mem_filter.mpr ⟨List.mem_of_getElem? (i := 30) (by decide +kernel), by decide +kernel⟩
theorem wm_31 : Cond.selects yX7_run.cls yX7_run yX7_run ∈ px_T := List.mem_filter.mpr ⟨List.mem_of_getElem? (i := 31) (by decide +kernel), by decide +kernel⟩
theorem wm_32 : Cond.selects yX7_allDung.cls yX7_allDung yX7_allDung ∈ px_T := List.mem_filter.mpr ⟨List.mem_of_getElem? (i := 32) (by decide +kernel), by decide +kernel⟩
theorem wm_33 : Cond.selects yX7_worth.cls yX7_worth yX7_worth ∈ px_T := List.mem_filter.mpr ⟨List.mem_of_getElem? (i := 33) (by decide +kernel), by decide +kernel⟩
theorem wm_34 : Cond.selects yX7_does.cls yX7_does yX7_does ∈ px_T := List.mem_filter.mpr ⟨List.mem_of_getElem? (i := 34) (by decide +kernel), by decide +kernel⟩
theorem wm_35 : Cond.selects yX7_onceBy.cls yX7_onceBy yX7_onceBy ∈ px_T := List.mem_filter.mpr ⟨List.mem_of_getElem? (i := 35) (by decide +kernel), by decide +kernel⟩
theorem wm_36 : Cond.selects yX7_turned.cls yX7_turned yX7_turned ∈ px_T := List.mem_filter.mpr ⟨List.mem_of_getElem? (i := 36) (by decide +kernel), by decide +kernel⟩
theorem wm_37 : Cond.selects yX7_dams.cls yX7_dams yX7_dams ∈ px_T := List.mem_filter.mpr ⟨List.mem_of_getElem? (i := 37) (by decide +kernel), by decide +kernel⟩
theorem wm_38 : Cond.selects yX7_dungBy.cls yX7_dungBy yX7_dungBy ∈ px_T := List.mem_filter.mpr ⟨List.mem_of_getElem? (i := 38) (by decide +kernel), by decide +kernel⟩
theorem wm_39 : Cond.selects yX7_parts.cls yX7_parts yX7_parts ∈ px_T := List.mem_filter.mpr ⟨List.mem_of_getElem? (i := 39) (by decide +kernel), by decide +kernel⟩
theorem wm_40 : Cond.selects yX7_isSeen.cls yX7_isSeen yX7_isSeen ∈ px_T := List.mem_filter.mpr ⟨List.mem_of_getElem? (i := 40) (by decide +kernel), by decide +kernel⟩
theorem wm_42 : Cond.initialized "StableRivers" ∈ px_T := List.mem_filter.mpr ⟨List.mem_of_getElem? (i := 42) (by decide +kernel), by decide +kernel⟩
theorem wm_43 : Cond.initialized "StableRivers$Reader" ∈ px_T := List.mem_filter.mpr ⟨List.mem_of_getElem? (i := 43) (by decide +kernel), by decide +kernel⟩
theorem wm_44 : Cond.initialized "StableRivers$Land" ∈ px_T := List.mem_filter.mpr ⟨List.mem_of_getElem? (i := 44) (by decide +kernel), by decide +kernel⟩
theorem wm_45 : Cond.initialized "StableRivers$Stream" ∈ px_T := List.mem_filter.mpr ⟨List.mem_of_getElem? (i := 45) (by decide +kernel), by decide +kernel⟩
theorem wm_46 : Cond.initialized "StableRivers$Scene" ∈ px_T := List.mem_filter.mpr ⟨List.mem_of_getElem? (i := 46) (by decide +kernel), by decide +kernel⟩
theorem wm_47 : Cond.initialized "StableRivers$Acts" ∈ px_T := List.mem_filter.mpr ⟨List.mem_of_getElem? (i := 47) (by decide +kernel), by decide +kernel⟩
theorem wm_48 : Cond.initialized "StableRivers$Sightings" ∈ px_T := List.mem_filter.mpr ⟨List.mem_of_getElem? (i := 48) (by decide +kernel), by decide +kernel⟩
theorem wm_49 : Cond.initialized "StableRiversModel" ∈ px_T := List.mem_filter.mpr ⟨List.mem_of_getElem? (i := 49) (by decide +kernel), by decide +kernel⟩
theorem wm_50 : Cond.initialized "java/lang/Math" ∈ px_T := List.mem_filter.mpr ⟨List.mem_of_getElem? (i := 50) (by decide +kernel), by decide +kernel⟩
theorem wm_51 : Cond.initialized "java/lang/Integer" ∈ px_T := List.mem_filter.mpr ⟨List.mem_of_getElem? (i := 51) (by decide +kernel), by decide +kernel⟩
theorem wm_52 : Cond.classLink "StableRiversLaw" 7 "StableRivers" ∈ px_T := List.mem_filter.mpr ⟨List.mem_of_getElem? (i := 52) (by decide +kernel), by decide +kernel⟩
theorem wm_53 : Cond.instantiable "StableRivers" 16 ∈ px_T := List.mem_filter.mpr ⟨List.mem_of_getElem? (i := 53) (by decide +kernel), by decide +kernel⟩
theorem wm_54 : Cond.methodLink "StableRiversLaw" 9 yX6_init ∈ px_T := List.mem_filter.mpr ⟨List.mem_of_getElem? (i := 54) (by decide +kernel), by decide +kernel⟩
theorem wm_55 : Cond.instanceMethod yX6_init ∈ px_T := List.mem_filter.mpr ⟨List.mem_of_getElem? (i := 55) (by decide +kernel), by decide +kernel⟩
theorem wm_56 : Cond.code yX6_init cX6_init 2 (none) ∈ px_T := List.mem_filter.mpr ⟨List.mem_of_getElem? (i := 56) (by decide +kernel), by decide +kernel⟩
theorem wm_57 : Cond.methodLink "StableRivers" 3 Lib.objectInit ∈ px_T := List.mem_filter.mpr ⟨List.mem_of_getElem? (i := 57) (by decide +kernel), by decide +kernel⟩
theorem wm_58 : Cond.instanceMethod Lib.objectInit ∈ px_T := List.mem_filter.mpr ⟨List.mem_of_getElem? (i := 58) (by decide +kernel), by decide +kernel⟩
theorem wm_59 : Cond.code Lib.objectInit ⟨#[0xb1]⟩ 1 none ∈ px_T := List.mem_filter.mpr ⟨List.mem_of_getElem? (i := 59) (by decide +kernel), by decide +kernel⟩
theorem wm_60 : Cond.classLink "StableRivers" 13 "StableRivers$Reader" ∈ px_T := List.mem_filter.mpr ⟨List.mem_of_getElem? (i := 60) (by decide +kernel), by decide +kernel⟩
theorem wm_61 : Cond.instantiable "StableRivers$Reader" 3 ∈ px_T := List.mem_filter.mpr ⟨List.mem_of_getElem? (i := 61) (by decide +kernel), by decide +kernel⟩
theorem wm_63 : Cond.instanceMethod yX2_init ∈ px_T := List.mem_filter.mpr ⟨List.mem_of_getElem? (i := 63) (by decide +kernel), by decide +kernel⟩
theorem wm_64 : Cond.code yX2_init cX2_init 1 (none) ∈ px_T := List.mem_filter.mpr ⟨List.mem_of_getElem? (i := 64) (by decide +kernel), by decide +kernel⟩
theorem wm_65 : Cond.methodLink "StableRivers$Reader" 3 Lib.objectInit ∈ px_T := List.mem_filter.mpr ⟨List.mem_of_getElem? (i := 65) (by decide +kernel), by decide +kernel⟩
theorem wm_66 : Cond.fieldLink "StableRivers$Reader" 16 "StableRivers$Reader" "stage" "I" ∈ px_T := List.mem_filter.mpr ⟨List.mem_of_getElem? (i := 66) (by decide +kernel), by decide +kernel⟩
theorem wm_67 : Cond.fieldLink "StableRivers$Reader" 35 "StableRivers$Reader" "first" "I" ∈ px_T := List.mem_filter.mpr ⟨List.mem_of_getElem? (i := 67) (by decide +kernel), by decide +kernel⟩
theorem wm_68 : Cond.fieldLink "StableRivers$Reader" 56 "StableRivers$Reader" "second" "I" ∈ px_T := List.mem_filter.mpr ⟨List.mem_of_getElem? (i := 68) (by decide +kernel), by decide +kernel⟩
theorem wm_76 : Cond.arrayClass .int ∈ px_T := List.mem_filter.mpr ⟨List.mem_of_getElem? (i := 76) (by decide +kernel), by decide +kernel⟩
theorem wm_77 : Cond.classLink "StableRivers" 20 "StableRivers$Land" ∈ px_T := List.mem_filter.mpr ⟨List.mem_of_getElem? (i := 77) (by decide +kernel), by decide +kernel⟩
theorem wm_78 : Cond.instantiable "StableRivers$Land" 8 ∈ px_T := List.mem_filter.mpr ⟨List.mem_of_getElem? (i := 78) (by decide +kernel), by decide +kernel⟩
theorem wm_80 : Cond.instanceMethod yX1_init ∈ px_T := List.mem_filter.mpr ⟨List.mem_of_getElem? (i := 80) (by decide +kernel), by decide +kernel⟩
theorem wm_81 : Cond.code yX1_init cX1_init 1 (none) ∈ px_T := List.mem_filter.mpr ⟨List.mem_of_getElem? (i := 81) (by decide +kernel), by decide +kernel⟩
theorem wm_82 : Cond.methodLink "StableRivers$Land" 3 Lib.objectInit ∈ px_T := List.mem_filter.mpr ⟨List.mem_of_getElem? (i := 82) (by decide +kernel), by decide +kernel⟩
theorem wm_83 : Cond.fieldLink "StableRivers$Land" 9 "StableRivers$Land" "kind" "[I" ∈ px_T := List.mem_filter.mpr ⟨List.mem_of_getElem? (i := 83) (by decide +kernel), by decide +kernel⟩
theorem wm_84 : Cond.fieldLink "StableRivers$Scene" 30 "StableRivers$Land" "kind" "[I" ∈ px_T := List.mem_filter.mpr ⟨List.mem_of_getElem? (i := 84) (by decide +kernel), by decide +kernel⟩
theorem wm_85 : Cond.fieldLink "StableRivers$Stream" 32 "StableRivers$Land" "kind" "[I" ∈ px_T := List.mem_filter.mpr ⟨List.mem_of_getElem? (i := 85) (by decide +kernel), by decide +kernel⟩
theorem wm_86 : Cond.fieldLink "StableRivers" 102 "StableRivers$Land" "kind" "[I" ∈ px_T := List.mem_filter.mpr ⟨List.mem_of_getElem? (i := 86) (by decide +kernel), by decide +kernel⟩
theorem wm_87 : Cond.fieldLink "StableRivers$Land" 15 "StableRivers$Land" "stock" "[I" ∈ px_T := List.mem_filter.mpr ⟨List.mem_of_getElem? (i := 87) (by decide +kernel), by decide +kernel⟩
theorem wm_88 : Cond.fieldLink "StableRivers$Scene" 27 "StableRivers$Land" "stock" "[I" ∈ px_T := List.mem_filter.mpr ⟨List.mem_of_getElem? (i := 88) (by decide +kernel), by decide +kernel⟩
theorem wm_89 : Cond.fieldLink "StableRivers$Land" 18 "StableRivers$Land" "measure" "[I" ∈ px_T := List.mem_filter.mpr ⟨List.mem_of_getElem? (i := 89) (by decide +kernel), by decide +kernel⟩
theorem wm_90 : Cond.fieldLink "StableRivers$Stream" 35 "StableRivers$Land" "measure" "[I" ∈ px_T := List.mem_filter.mpr ⟨List.mem_of_getElem? (i := 90) (by decide +kernel), by decide +kernel⟩
theorem wm_91 : Cond.fieldLink "StableRivers" 111 "StableRivers$Land" "measure" "[I" ∈ px_T := List.mem_filter.mpr ⟨List.mem_of_getElem? (i := 91) (by decide +kernel), by decide +kernel⟩
theorem wm_92 : Cond.fieldLink "StableRivers$Scene" 49 "StableRivers$Land" "measure" "[I" ∈ px_T := List.mem_filter.mpr ⟨List.mem_of_getElem? (i := 92) (by decide +kernel), by decide +kernel⟩
theorem wm_93 : Cond.fieldLink "StableRivers$Land" 21 "StableRivers$Land" "from" "[I" ∈ px_T := List.mem_filter.mpr ⟨List.mem_of_getElem? (i := 93) (by decide +kernel), by decide +kernel⟩
theorem wm_94 : Cond.fieldLink "StableRivers$Stream" 21 "StableRivers$Land" "from" "[I" ∈ px_T := List.mem_filter.mpr ⟨List.mem_of_getElem? (i := 94) (by decide +kernel), by decide +kernel⟩
theorem wm_95 : Cond.fieldLink "StableRivers" 127 "StableRivers$Land" "from" "[I" ∈ px_T := List.mem_filter.mpr ⟨List.mem_of_getElem? (i := 95) (by decide +kernel), by decide +kernel⟩
theorem wm_96 : Cond.fieldLink "StableRivers$Land" 24 "StableRivers$Land" "to" "[I" ∈ px_T := List.mem_filter.mpr ⟨List.mem_of_getElem? (i := 96) (by decide +kernel), by decide +kernel⟩
theorem wm_97 : Cond.fieldLink "StableRivers$Stream" 44 "StableRivers$Land" "to" "[I" ∈ px_T := List.mem_filter.mpr ⟨List.mem_of_getElem? (i := 97) (by decide +kernel), by decide +kernel⟩
theorem wm_98 : Cond.fieldLink "StableRivers" 130 "StableRivers$Land" "to" "[I" ∈ px_T := List.mem_filter.mpr ⟨List.mem_of_getElem? (i := 98) (by decide +kernel), by decide +kernel⟩
theorem wm_99 : Cond.fieldLink "StableRivers$Land" 27 "StableRivers$Land" "openAtFirst" "I" ∈ px_T := List.mem_filter.mpr ⟨List.mem_of_getElem? (i := 99) (by decide +kernel), by decide +kernel⟩
theorem wm_100 : Cond.fieldLink "StableRivers$Scene" 33 "StableRivers$Land" "openAtFirst" "I" ∈ px_T := List.mem_filter.mpr ⟨List.mem_of_getElem? (i := 100) (by decide +kernel), by decide +kernel⟩
theorem wm_101 : Cond.fieldLink "StableRivers$Land" 31 "StableRivers$Land" "places" "I" ∈ px_T := List.mem_filter.mpr ⟨List.mem_of_getElem? (i := 101) (by decide +kernel), by decide +kernel⟩
theorem wm_102 : Cond.fieldLink "StableRivers$Scene" 21 "StableRivers$Land" "places" "I" ∈ px_T := List.mem_filter.mpr ⟨List.mem_of_getElem? (i := 102) (by decide +kernel), by decide +kernel⟩
theorem wm_103 : Cond.fieldLink "StableRivers$Stream" 50 "StableRivers$Land" "places" "I" ∈ px_T := List.mem_filter.mpr ⟨List.mem_of_getElem? (i := 103) (by decide +kernel), by decide +kernel⟩
theorem wm_104 : Cond.fieldLink "StableRivers$Reader" 42 "StableRivers$Land" "places" "I" ∈ px_T := List.mem_filter.mpr ⟨List.mem_of_getElem? (i := 104) (by decide +kernel), by decide +kernel⟩
theorem wm_105 : Cond.fieldLink "StableRivers" 92 "StableRivers$Land" "places" "I" ∈ px_T := List.mem_filter.mpr ⟨List.mem_of_getElem? (i := 105) (by decide +kernel), by decide +kernel⟩
theorem wm_106 : Cond.fieldLink "StableRivers$Stream" 15 "StableRivers$Land" "ditches" "I" ∈ px_T := List.mem_filter.mpr ⟨List.mem_of_getElem? (i := 106) (by decide +kernel), by decide +kernel⟩
theorem wm_107 : Cond.fieldLink "StableRivers$Land" 34 "StableRivers$Land" "ditches" "I" ∈ px_T := List.mem_filter.mpr ⟨List.mem_of_getElem? (i := 107) (by decide +kernel), by decide +kernel⟩
theorem wm_108 : Cond.fieldLink "StableRivers" 95 "StableRivers$Land" "ditches" "I" ∈ px_T := List.mem_filter.mpr ⟨List.mem_of_getElem? (i := 108) (by decide +kernel), by decide +kernel⟩
theorem wm_126 : Cond.classLink "StableRivers" 30 "StableRivers$Stream" ∈ px_T := List.mem_filter.mpr ⟨List.mem_of_getElem? (i := 126) (by decide +kernel), by decide +kernel⟩
theorem wm_127 : Cond.instantiable "StableRivers$Stream" 1 ∈ px_T := List.mem_filter.mpr ⟨List.mem_of_getElem? (i := 127) (by decide +kernel), by decide +kernel⟩
theorem wm_129 : Cond.instanceMethod yX5_init ∈ px_T := List.mem_filter.mpr ⟨List.mem_of_getElem? (i := 129) (by decide +kernel), by decide +kernel⟩
theorem wm_130 : Cond.code yX5_init cX5_init 1 (none) ∈ px_T := List.mem_filter.mpr ⟨List.mem_of_getElem? (i := 130) (by decide +kernel), by decide +kernel⟩
theorem wm_131 : Cond.methodLink "StableRivers$Stream" 3 Lib.objectInit ∈ px_T := List.mem_filter.mpr ⟨List.mem_of_getElem? (i := 131) (by decide +kernel), by decide +kernel⟩
theorem wm_132 : Cond.fieldLink "StableRivers$Stream" 9 "StableRivers$Stream" "coming" "[I" ∈ px_T := List.mem_filter.mpr ⟨List.mem_of_getElem? (i := 132) (by decide +kernel), by decide +kernel⟩
theorem wm_136 : Cond.classLink "StableRivers" 37 "StableRivers$Scene" ∈ px_T := List.mem_filter.mpr ⟨List.mem_of_getElem? (i := 136) (by decide +kernel), by decide +kernel⟩
theorem wm_137 : Cond.instantiable "StableRivers$Scene" 5 ∈ px_T := List.mem_filter.mpr ⟨List.mem_of_getElem? (i := 137) (by decide +kernel), by decide +kernel⟩
theorem wm_139 : Cond.instanceMethod yX3_init ∈ px_T := List.mem_filter.mpr ⟨List.mem_of_getElem? (i := 139) (by decide +kernel), by decide +kernel⟩
theorem wm_140 : Cond.code yX3_init cX3_init 1 (none) ∈ px_T := List.mem_filter.mpr ⟨List.mem_of_getElem? (i := 140) (by decide +kernel), by decide +kernel⟩
theorem wm_141 : Cond.methodLink "StableRivers$Scene" 3 Lib.objectInit ∈ px_T := List.mem_filter.mpr ⟨List.mem_of_getElem? (i := 141) (by decide +kernel), by decide +kernel⟩
theorem wm_142 : Cond.fieldLink "StableRivers$Scene" 9 "StableRivers$Scene" "buckets" "[I" ∈ px_T := List.mem_filter.mpr ⟨List.mem_of_getElem? (i := 142) (by decide +kernel), by decide +kernel⟩
theorem wm_143 : Cond.fieldLink "StableRivers$Stream" 29 "StableRivers$Scene" "buckets" "[I" ∈ px_T := List.mem_filter.mpr ⟨List.mem_of_getElem? (i := 143) (by decide +kernel), by decide +kernel⟩
theorem wm_144 : Cond.fieldLink "StableRivers$Sightings" 37 "StableRivers$Scene" "buckets" "[I" ∈ px_T := List.mem_filter.mpr ⟨List.mem_of_getElem? (i := 144) (by decide +kernel), by decide +kernel⟩
theorem wm_145 : Cond.fieldLink "StableRivers" 105 "StableRivers$Scene" "buckets" "[I" ∈ px_T := List.mem_filter.mpr ⟨List.mem_of_getElem? (i := 145) (by decide +kernel), by decide +kernel⟩
theorem wm_146 : Cond.fieldLink "StableRivers$Scene" 15 "StableRivers$Scene" "dung" "[I" ∈ px_T := List.mem_filter.mpr ⟨List.mem_of_getElem? (i := 146) (by decide +kernel), by decide +kernel⟩
theorem wm_147 : Cond.fieldLink "StableRivers$Stream" 60 "StableRivers$Scene" "dung" "[I" ∈ px_T := List.mem_filter.mpr ⟨List.mem_of_getElem? (i := 147) (by decide +kernel), by decide +kernel⟩
theorem wm_148 : Cond.fieldLink "StableRivers" 108 "StableRivers$Scene" "dung" "[I" ∈ px_T := List.mem_filter.mpr ⟨List.mem_of_getElem? (i := 148) (by decide +kernel), by decide +kernel⟩
theorem wm_149 : Cond.fieldLink "StableRivers$Scene" 18 "StableRivers$Scene" "wetHour" "[I" ∈ px_T := List.mem_filter.mpr ⟨List.mem_of_getElem? (i := 149) (by decide +kernel), by decide +kernel⟩
theorem wm_150 : Cond.fieldLink "StableRivers$Stream" 57 "StableRivers$Scene" "wetHour" "[I" ∈ px_T := List.mem_filter.mpr ⟨List.mem_of_getElem? (i := 150) (by decide +kernel), by decide +kernel⟩
theorem wm_151 : Cond.fieldLink "StableRivers" 114 "StableRivers$Scene" "wetHour" "[I" ∈ px_T := List.mem_filter.mpr ⟨List.mem_of_getElem? (i := 151) (by decide +kernel), by decide +kernel⟩
theorem wm_152 : Cond.fieldLink "StableRivers$Stream" 24 "StableRivers$Scene" "open" "I" ∈ px_T := List.mem_filter.mpr ⟨List.mem_of_getElem? (i := 152) (by decide +kernel), by decide +kernel⟩
theorem wm_153 : Cond.fieldLink "StableRivers$Scene" 36 "StableRivers$Scene" "open" "I" ∈ px_T := List.mem_filter.mpr ⟨List.mem_of_getElem? (i := 153) (by decide +kernel), by decide +kernel⟩
theorem wm_154 : Cond.fieldLink "StableRivers" 117 "StableRivers$Scene" "open" "I" ∈ px_T := List.mem_filter.mpr ⟨List.mem_of_getElem? (i := 154) (by decide +kernel), by decide +kernel⟩
theorem wm_155 : Cond.fieldLink "StableRivers$Scene" 39 "StableRivers$Scene" "hour" "I" ∈ px_T := List.mem_filter.mpr ⟨List.mem_of_getElem? (i := 155) (by decide +kernel), by decide +kernel⟩
theorem wm_156 : Cond.fieldLink "StableRivers$Stream" 47 "StableRivers$Scene" "hour" "I" ∈ px_T := List.mem_filter.mpr ⟨List.mem_of_getElem? (i := 156) (by decide +kernel), by decide +kernel⟩
theorem wm_157 : Cond.fieldLink "StableRivers" 277 "StableRivers$Scene" "hour" "I" ∈ px_T := List.mem_filter.mpr ⟨List.mem_of_getElem? (i := 157) (by decide +kernel), by decide +kernel⟩
theorem wm_169 : Cond.classLink "StableRivers" 44 "StableRivers$Acts" ∈ px_T := List.mem_filter.mpr ⟨List.mem_of_getElem? (i := 169) (by decide +kernel), by decide +kernel⟩
theorem wm_170 : Cond.instantiable "StableRivers$Acts" 2 ∈ px_T := List.mem_filter.mpr ⟨List.mem_of_getElem? (i := 170) (by decide +kernel), by decide +kernel⟩
theorem wm_171 : Cond.methodLink "StableRivers" 46 yX0_init ∈ px_T := List.mem_filter.mpr ⟨List.mem_of_getElem? (i := 171) (by decide +kernel), by decide +kernel⟩
theorem wm_172 : Cond.instanceMethod yX0_init ∈ px_T := List.mem_filter.mpr ⟨List.mem_of_getElem? (i := 172) (by decide +kernel), by decide +kernel⟩
theorem wm_173 : Cond.code yX0_init cX0_init 2 (none) ∈ px_T := List.mem_filter.mpr ⟨List.mem_of_getElem? (i := 173) (by decide +kernel), by decide +kernel⟩
theorem wm_174 : Cond.methodLink "StableRivers$Acts" 3 Lib.objectInit ∈ px_T := List.mem_filter.mpr ⟨List.mem_of_getElem? (i := 174) (by decide +kernel), by decide +kernel⟩
theorem wm_175 : Cond.classLink "StableRivers$Acts" 9 "StableRivers$Scene" ∈ px_T := List.mem_filter.mpr ⟨List.mem_of_getElem? (i := 175) (by decide +kernel), by decide +kernel⟩
theorem wm_178 : Cond.fieldLink "StableRivers$Acts" 11 "StableRivers$Acts" "ahead" "[LStableRivers$Scene;" ∈ px_T := List.mem_filter.mpr ⟨List.mem_of_getElem? (i := 178) (by decide +kernel), by decide +kernel⟩
theorem wm_179 : Cond.fieldLink "StableRivers$Acts" 18 "StableRivers$Acts" "size" "I" ∈ px_T := List.mem_filter.mpr ⟨List.mem_of_getElem? (i := 179) (by decide +kernel), by decide +kernel⟩
theorem wm_180 : Cond.fieldLink "StableRivers" 141 "StableRivers$Acts" "size" "I" ∈ px_T := List.mem_filter.mpr ⟨List.mem_of_getElem? (i := 180) (by decide +kernel), by decide +kernel⟩
theorem wm_186 : Cond.classLink "StableRivers" 51 "StableRivers$Sightings" ∈ px_T := List.mem_filter.mpr ⟨List.mem_of_getElem? (i := 186) (by decide +kernel), by decide +kernel⟩
theorem wm_187 : Cond.instantiable "StableRivers$Sightings" 4 ∈ px_T := List.mem_filter.mpr ⟨List.mem_of_getElem? (i := 187) (by decide +kernel), by decide +kernel⟩
theorem wm_189 : Cond.instanceMethod yX4_init ∈ px_T := List.mem_filter.mpr ⟨List.mem_of_getElem? (i := 189) (by decide +kernel), by decide +kernel⟩
theorem wm_190 : Cond.code yX4_init cX4_init 1 (none) ∈ px_T := List.mem_filter.mpr ⟨List.mem_of_getElem? (i := 190) (by decide +kernel), by decide +kernel⟩
theorem wm_191 : Cond.methodLink "StableRivers$Sightings" 3 Lib.objectInit ∈ px_T := List.mem_filter.mpr ⟨List.mem_of_getElem? (i := 191) (by decide +kernel), by decide +kernel⟩
theorem wm_192 : Cond.fieldLink "StableRivers$Sightings" 9 "StableRivers$Sightings" "place" "[I" ∈ px_T := List.mem_filter.mpr ⟨List.mem_of_getElem? (i := 192) (by decide +kernel), by decide +kernel⟩
theorem wm_193 : Cond.fieldLink "StableRivers$Sightings" 15 "StableRivers$Sightings" "time" "[I" ∈ px_T := List.mem_filter.mpr ⟨List.mem_of_getElem? (i := 193) (by decide +kernel), by decide +kernel⟩
theorem wm_194 : Cond.fieldLink "StableRivers$Sightings" 18 "StableRivers$Sightings" "buckets" "[I" ∈ px_T := List.mem_filter.mpr ⟨List.mem_of_getElem? (i := 194) (by decide +kernel), by decide +kernel⟩
theorem wm_195 : Cond.fieldLink "StableRivers$Sightings" 21 "StableRivers$Sightings" "size" "I" ∈ px_T := List.mem_filter.mpr ⟨List.mem_of_getElem? (i := 195) (by decide +kernel), by decide +kernel⟩
theorem wm_196 : Cond.fieldLink "StableRivers" 242 "StableRivers$Sightings" "size" "I" ∈ px_T := List.mem_filter.mpr ⟨List.mem_of_getElem? (i := 196) (by decide +kernel), by decide +kernel⟩
theorem wm_206 : Cond.methodLink "StableRivers" 74 yX3_begin ∈ px_T := List.mem_filter.mpr ⟨List.mem_of_getElem? (i := 206) (by decide +kernel), by decide +kernel⟩
theorem wm_207 : Cond.instanceMethod yX3_begin ∈ px_T := List.mem_filter.mpr ⟨List.mem_of_getElem? (i := 207) (by decide +kernel), by decide +kernel⟩
theorem wm_208 : Cond.selects yX3_begin.cls yX3_begin yX3_begin ∈ px_T := List.mem_filter.mpr ⟨List.mem_of_getElem? (i := 208) (by decide +kernel), by decide +kernel⟩
theorem wm_209 : Cond.code yX3_begin cX3_begin 4 (none) ∈ px_T := List.mem_filter.mpr ⟨List.mem_of_getElem? (i := 209) (by decide +kernel), by decide +kernel⟩
theorem wm_210 : Cond.fieldLink "StableRivers" 9 "StableRivers" "text" "[I" ∈ px_T := List.mem_filter.mpr ⟨List.mem_of_getElem? (i := 210) (by decide +kernel), by decide +kernel⟩
theorem wm_211 : Cond.fieldLink "StableRivers" 78 "StableRivers" "letters" "I" ∈ px_T := List.mem_filter.mpr ⟨List.mem_of_getElem? (i := 211) (by decide +kernel), by decide +kernel⟩
theorem wm_212 : Cond.fieldLink "StableRivers" 16 "StableRivers" "reader" "LStableRivers$Reader;" ∈ px_T := List.mem_filter.mpr ⟨List.mem_of_getElem? (i := 212) (by decide +kernel), by decide +kernel⟩
theorem wm_213 : Cond.fieldLink "StableRivers" 23 "StableRivers" "land" "LStableRivers$Land;" ∈ px_T := List.mem_filter.mpr ⟨List.mem_of_getElem? (i := 213) (by decide +kernel), by decide +kernel⟩
theorem wm_214 : Cond.fieldLink "StableRivers" 27 "StableRivers" "draft" "LStableRivers$Land;" ∈ px_T := List.mem_filter.mpr ⟨List.mem_of_getElem? (i := 214) (by decide +kernel), by decide +kernel⟩
theorem wm_215 : Cond.fieldLink "StableRivers" 33 "StableRivers" "stream" "LStableRivers$Stream;" ∈ px_T := List.mem_filter.mpr ⟨List.mem_of_getElem? (i := 215) (by decide +kernel), by decide +kernel⟩
theorem wm_216 : Cond.fieldLink "StableRivers" 40 "StableRivers" "now" "LStableRivers$Scene;" ∈ px_T := List.mem_filter.mpr ⟨List.mem_of_getElem? (i := 216) (by decide +kernel), by decide +kernel⟩
theorem wm_217 : Cond.fieldLink "StableRivers" 47 "StableRivers" "acts" "LStableRivers$Acts;" ∈ px_T := List.mem_filter.mpr ⟨List.mem_of_getElem? (i := 217) (by decide +kernel), by decide +kernel⟩
theorem wm_218 : Cond.fieldLink "StableRivers" 54 "StableRivers" "sightings" "LStableRivers$Sightings;" ∈ px_T := List.mem_filter.mpr ⟨List.mem_of_getElem? (i := 218) (by decide +kernel), by decide +kernel⟩
theorem wm_219 : Cond.fieldLink "StableRivers" 58 "StableRivers" "slots" "[LStableRivers$Scene;" ∈ px_T := List.mem_filter.mpr ⟨List.mem_of_getElem? (i := 219) (by decide +kernel), by decide +kernel⟩
theorem wm_220 : Cond.fieldLink "StableRivers" 89 "StableRivers" "keptSlots" "I" ∈ px_T := List.mem_filter.mpr ⟨List.mem_of_getElem? (i := 220) (by decide +kernel), by decide +kernel⟩
theorem wm_221 : Cond.fieldLink "StableRivers" 269 "StableRivers" "seed" "J" ∈ px_T := List.mem_filter.mpr ⟨List.mem_of_getElem? (i := 221) (by decide +kernel), by decide +kernel⟩
theorem wm_222 : Cond.fieldLink "StableRivers" 62 "StableRivers" "trial" "LStableRivers$Scene;" ∈ px_T := List.mem_filter.mpr ⟨List.mem_of_getElem? (i := 222) (by decide +kernel), by decide +kernel⟩
theorem wm_223 : Cond.fieldLink "StableRivers" 65 "StableRivers" "midway" "LStableRivers$Scene;" ∈ px_T := List.mem_filter.mpr ⟨List.mem_of_getElem? (i := 223) (by decide +kernel), by decide +kernel⟩
theorem wm_224 : Cond.fieldLink "StableRivers" 68 "StableRivers" "turns" "[LStableRivers$Scene;" ∈ px_T := List.mem_filter.mpr ⟨List.mem_of_getElem? (i := 224) (by decide +kernel), by decide +kernel⟩
theorem wm_225 : Cond.fieldLink "StableRivers" 71 "StableRivers" "steps" "[I" ∈ px_T := List.mem_filter.mpr ⟨List.mem_of_getElem? (i := 225) (by decide +kernel), by decide +kernel⟩
theorem wm_259 : Cond.methodLink "StableRiversLaw" 13 yX6_write ∈ px_T := List.mem_filter.mpr ⟨List.mem_of_getElem? (i := 259) (by decide +kernel), by decide +kernel⟩
theorem wm_260 : Cond.instanceMethod yX6_write ∈ px_T := List.mem_filter.mpr ⟨List.mem_of_getElem? (i := 260) (by decide +kernel), by decide +kernel⟩
theorem wm_261 : Cond.selects yX6_write.cls yX6_write yX6_write ∈ px_T := List.mem_filter.mpr ⟨List.mem_of_getElem? (i := 261) (by decide +kernel), by decide +kernel⟩
theorem wm_262 : Cond.code yX6_write cX6_write 2 (some .int) ∈ px_T := List.mem_filter.mpr ⟨List.mem_of_getElem? (i := 262) (by decide +kernel), by decide +kernel⟩
theorem wm_263 : Cond.methodLink "StableRiversLaw" 18 yX6_wipe ∈ px_T := List.mem_filter.mpr ⟨List.mem_of_getElem? (i := 263) (by decide +kernel), by decide +kernel⟩
theorem wm_264 : Cond.instanceMethod yX6_wipe ∈ px_T := List.mem_filter.mpr ⟨List.mem_of_getElem? (i := 264) (by decide +kernel), by decide +kernel⟩
theorem wm_265 : Cond.selects yX6_wipe.cls yX6_wipe yX6_wipe ∈ px_T := List.mem_filter.mpr ⟨List.mem_of_getElem? (i := 265) (by decide +kernel), by decide +kernel⟩
theorem wm_266 : Cond.code yX6_wipe cX6_wipe 2 (some .int) ∈ px_T := List.mem_filter.mpr ⟨List.mem_of_getElem? (i := 266) (by decide +kernel), by decide +kernel⟩
theorem wm_267 : Cond.methodLink "StableRiversLaw" 23 yX6_fault ∈ px_T := List.mem_filter.mpr ⟨List.mem_of_getElem? (i := 267) (by decide +kernel), by decide +kernel⟩
theorem wm_268 : Cond.instanceMethod yX6_fault ∈ px_T := List.mem_filter.mpr ⟨List.mem_of_getElem? (i := 268) (by decide +kernel), by decide +kernel⟩
theorem wm_269 : Cond.selects yX6_fault.cls yX6_fault yX6_fault ∈ px_T := List.mem_filter.mpr ⟨List.mem_of_getElem? (i := 269) (by decide +kernel), by decide +kernel⟩
theorem wm_270 : Cond.code yX6_fault cX6_fault 1 (some .int) ∈ px_T := List.mem_filter.mpr ⟨List.mem_of_getElem? (i := 270) (by decide +kernel), by decide +kernel⟩
theorem wm_271 : Cond.methodLink "StableRivers" 82 yX2_read ∈ px_T := List.mem_filter.mpr ⟨List.mem_of_getElem? (i := 271) (by decide +kernel), by decide +kernel⟩
theorem wm_272 : Cond.instanceMethod yX2_read ∈ px_T := List.mem_filter.mpr ⟨List.mem_of_getElem? (i := 272) (by decide +kernel), by decide +kernel⟩
theorem wm_273 : Cond.selects yX2_read.cls yX2_read yX2_read ∈ px_T := List.mem_filter.mpr ⟨List.mem_of_getElem? (i := 273) (by decide +kernel), by decide +kernel⟩
theorem wm_274 : Cond.code yX2_read cX2_read 5 (some .int) ∈ px_T := List.mem_filter.mpr ⟨List.mem_of_getElem? (i := 274) (by decide +kernel), by decide +kernel⟩
theorem wm_275 : Cond.methodLink "StableRivers$Reader" 9 yX1_clear ∈ px_T := List.mem_filter.mpr ⟨List.mem_of_getElem? (i := 275) (by decide +kernel), by decide +kernel⟩
theorem wm_276 : Cond.instanceMethod yX1_clear ∈ px_T := List.mem_filter.mpr ⟨List.mem_of_getElem? (i := 276) (by decide +kernel), by decide +kernel⟩
theorem wm_277 : Cond.selects yX1_clear.cls yX1_clear yX1_clear ∈ px_T := List.mem_filter.mpr ⟨List.mem_of_getElem? (i := 277) (by decide +kernel), by decide +kernel⟩
theorem wm_278 : Cond.code yX1_clear cX1_clear 1 (none) ∈ px_T := List.mem_filter.mpr ⟨List.mem_of_getElem? (i := 278) (by decide +kernel), by decide +kernel⟩
theorem wm_279 : Cond.methodLink "StableRivers$Reader" 20 yX2_fits ∈ px_T := List.mem_filter.mpr ⟨List.mem_of_getElem? (i := 279) (by decide +kernel), by decide +kernel⟩
theorem wm_281 : Cond.instanceMethod yX2_fits ∈ px_T := List.mem_filter.mpr ⟨List.mem_of_getElem? (i := 281) (by decide +kernel), by decide +kernel⟩
theorem wm_282 : Cond.code yX2_fits cX2_fits 4 (some .boolean) ∈ px_T := List.mem_filter.mpr ⟨List.mem_of_getElem? (i := 282) (by decide +kernel), by decide +kernel⟩
theorem wm_283 : Cond.methodLink "StableRivers$Reader" 28 yX2_fitsPart ∈ px_T := List.mem_filter.mpr ⟨List.mem_of_getElem? (i := 283) (by decide +kernel), by decide +kernel⟩
theorem wm_285 : Cond.instanceMethod yX2_fitsPart ∈ px_T := List.mem_filter.mpr ⟨List.mem_of_getElem? (i := 285) (by decide +kernel), by decide +kernel⟩
theorem wm_286 : Cond.code yX2_fitsPart cX2_fitsPart 3 (some .boolean) ∈ px_T := List.mem_filter.mpr ⟨List.mem_of_getElem? (i := 286) (by decide +kernel), by decide +kernel⟩
theorem wm_287 : Cond.methodLink "StableRivers$Reader" 45 yX1_canDig ∈ px_T := List.mem_filter.mpr ⟨List.mem_of_getElem? (i := 287) (by decide +kernel), by decide +kernel⟩
theorem wm_288 : Cond.instanceMethod yX1_canDig ∈ px_T := List.mem_filter.mpr ⟨List.mem_of_getElem? (i := 288) (by decide +kernel), by decide +kernel⟩
theorem wm_289 : Cond.selects yX1_canDig.cls yX1_canDig yX1_canDig ∈ px_T := List.mem_filter.mpr ⟨List.mem_of_getElem? (i := 289) (by decide +kernel), by decide +kernel⟩
theorem wm_290 : Cond.code yX1_canDig cX1_canDig 3 (some .boolean) ∈ px_T := List.mem_filter.mpr ⟨List.mem_of_getElem? (i := 290) (by decide +kernel), by decide +kernel⟩
theorem wm_291 : Cond.methodLink "StableRivers$Land" 37 yX1_canDigTo ∈ px_T := List.mem_filter.mpr ⟨List.mem_of_getElem? (i := 291) (by decide +kernel), by decide +kernel⟩
theorem wm_292 : Cond.instanceMethod yX1_canDigTo ∈ px_T := List.mem_filter.mpr ⟨List.mem_of_getElem? (i := 292) (by decide +kernel), by decide +kernel⟩
theorem wm_293 : Cond.selects yX1_canDigTo.cls yX1_canDigTo yX1_canDigTo ∈ px_T := List.mem_filter.mpr ⟨List.mem_of_getElem? (i := 293) (by decide +kernel), by decide +kernel⟩
theorem wm_294 : Cond.code yX1_canDigTo cX1_canDigTo 3 (some .boolean) ∈ px_T := List.mem_filter.mpr ⟨List.mem_of_getElem? (i := 294) (by decide +kernel), by decide +kernel⟩
theorem wm_295 : Cond.methodLink "StableRivers$Land" 41 yX1_hasPlace ∈ px_T := List.mem_filter.mpr ⟨List.mem_of_getElem? (i := 295) (by decide +kernel), by decide +kernel⟩
theorem wm_296 : Cond.instanceMethod yX1_hasPlace ∈ px_T := List.mem_filter.mpr ⟨List.mem_of_getElem? (i := 296) (by decide +kernel), by decide +kernel⟩
theorem wm_297 : Cond.selects yX1_hasPlace.cls yX1_hasPlace yX1_hasPlace ∈ px_T := List.mem_filter.mpr ⟨List.mem_of_getElem? (i := 297) (by decide +kernel), by decide +kernel⟩
theorem wm_298 : Cond.code yX1_hasPlace cX1_hasPlace 2 (some .boolean) ∈ px_T := List.mem_filter.mpr ⟨List.mem_of_getElem? (i := 298) (by decide +kernel), by decide +kernel⟩
theorem wm_299 : Cond.methodLink "StableRivers$Land" 45 yX1_isJoined ∈ px_T := List.mem_filter.mpr ⟨List.mem_of_getElem? (i := 299) (by decide +kernel), by decide +kernel⟩
theorem wm_301 : Cond.instanceMethod yX1_isJoined ∈ px_T := List.mem_filter.mpr ⟨List.mem_of_getElem? (i := 301) (by decide +kernel), by decide +kernel⟩
theorem wm_302 : Cond.code yX1_isJoined cX1_isJoined 4 (some .boolean) ∈ px_T := List.mem_filter.mpr ⟨List.mem_of_getElem? (i := 302) (by decide +kernel), by decide +kernel⟩
theorem wm_303 : Cond.methodLink "StableRivers$Reader" 31 yX1_canDigFrom ∈ px_T := List.mem_filter.mpr ⟨List.mem_of_getElem? (i := 303) (by decide +kernel), by decide +kernel⟩
theorem wm_304 : Cond.instanceMethod yX1_canDigFrom ∈ px_T := List.mem_filter.mpr ⟨List.mem_of_getElem? (i := 304) (by decide +kernel), by decide +kernel⟩
theorem wm_305 : Cond.selects yX1_canDigFrom.cls yX1_canDigFrom yX1_canDigFrom ∈ px_T := List.mem_filter.mpr ⟨List.mem_of_getElem? (i := 305) (by decide +kernel), by decide +kernel⟩
theorem wm_306 : Cond.code yX1_canDigFrom cX1_canDigFrom 3 (some .boolean) ∈ px_T := List.mem_filter.mpr ⟨List.mem_of_getElem? (i := 306) (by decide +kernel), by decide +kernel⟩
theorem wm_307 : Cond.methodLink "StableRivers$Reader" 38 yX1_canDigTo ∈ px_T := List.mem_filter.mpr ⟨List.mem_of_getElem? (i := 307) (by decide +kernel), by decide +kernel⟩
theorem wm_308 : Cond.methodLink "StableRivers$Reader" 24 yX2_take ∈ px_T := List.mem_filter.mpr ⟨List.mem_of_getElem? (i := 308) (by decide +kernel), by decide +kernel⟩
theorem wm_310 : Cond.instanceMethod yX2_take ∈ px_T := List.mem_filter.mpr ⟨List.mem_of_getElem? (i := 310) (by decide +kernel), by decide +kernel⟩
theorem wm_311 : Cond.code yX2_take cX2_take 4 (none) ∈ px_T := List.mem_filter.mpr ⟨List.mem_of_getElem? (i := 311) (by decide +kernel), by decide +kernel⟩
theorem wm_312 : Cond.methodLink "StableRivers$Reader" 49 yX2_takePart ∈ px_T := List.mem_filter.mpr ⟨List.mem_of_getElem? (i := 312) (by decide +kernel), by decide +kernel⟩
theorem wm_314 : Cond.instanceMethod yX2_takePart ∈ px_T := List.mem_filter.mpr ⟨List.mem_of_getElem? (i := 314) (by decide +kernel), by decide +kernel⟩
theorem wm_315 : Cond.code yX2_takePart cX2_takePart 3 (none) ∈ px_T := List.mem_filter.mpr ⟨List.mem_of_getElem? (i := 315) (by decide +kernel), by decide +kernel⟩
theorem wm_316 : Cond.methodLink "StableRivers$Reader" 52 yX1_addPlace ∈ px_T := List.mem_filter.mpr ⟨List.mem_of_getElem? (i := 316) (by decide +kernel), by decide +kernel⟩
theorem wm_317 : Cond.instanceMethod yX1_addPlace ∈ px_T := List.mem_filter.mpr ⟨List.mem_of_getElem? (i := 317) (by decide +kernel), by decide +kernel⟩
theorem wm_318 : Cond.selects yX1_addPlace.cls yX1_addPlace yX1_addPlace ∈ px_T := List.mem_filter.mpr ⟨List.mem_of_getElem? (i := 318) (by decide +kernel), by decide +kernel⟩
theorem wm_319 : Cond.code yX1_addPlace cX1_addPlace 4 (none) ∈ px_T := List.mem_filter.mpr ⟨List.mem_of_getElem? (i := 319) (by decide +kernel), by decide +kernel⟩
theorem wm_320 : Cond.methodLink "StableRivers$Reader" 59 yX1_addDitch ∈ px_T := List.mem_filter.mpr ⟨List.mem_of_getElem? (i := 320) (by decide +kernel), by decide +kernel⟩
theorem wm_321 : Cond.instanceMethod yX1_addDitch ∈ px_T := List.mem_filter.mpr ⟨List.mem_of_getElem? (i := 321) (by decide +kernel), by decide +kernel⟩
theorem wm_322 : Cond.selects yX1_addDitch.cls yX1_addDitch yX1_addDitch ∈ px_T := List.mem_filter.mpr ⟨List.mem_of_getElem? (i := 322) (by decide +kernel), by decide +kernel⟩
theorem wm_323 : Cond.code yX1_addDitch cX1_addDitch 4 (none) ∈ px_T := List.mem_filter.mpr ⟨List.mem_of_getElem? (i := 323) (by decide +kernel), by decide +kernel⟩
theorem wm_324 : Cond.methodLink "StableRiversLaw" 27 yX6_land ∈ px_T := List.mem_filter.mpr ⟨List.mem_of_getElem? (i := 324) (by decide +kernel), by decide +kernel⟩
theorem wm_325 : Cond.instanceMethod yX6_land ∈ px_T := List.mem_filter.mpr ⟨List.mem_of_getElem? (i := 325) (by decide +kernel), by decide +kernel⟩
theorem wm_326 : Cond.selects yX6_land.cls yX6_land yX6_land ∈ px_T := List.mem_filter.mpr ⟨List.mem_of_getElem? (i := 326) (by decide +kernel), by decide +kernel⟩
theorem wm_327 : Cond.code yX6_land cX6_land 2 (some .int) ∈ px_T := List.mem_filter.mpr ⟨List.mem_of_getElem? (i := 327) (by decide +kernel), by decide +kernel⟩
theorem wm_328 : Cond.methodLink "StableRivers" 86 yX0_forget ∈ px_T := List.mem_filter.mpr ⟨List.mem_of_getElem? (i := 328) (by decide +kernel), by decide +kernel⟩
theorem wm_329 : Cond.instanceMethod yX0_forget ∈ px_T := List.mem_filter.mpr ⟨List.mem_of_getElem? (i := 329) (by decide +kernel), by decide +kernel⟩
theorem wm_330 : Cond.selects yX0_forget.cls yX0_forget yX0_forget ∈ px_T := List.mem_filter.mpr ⟨List.mem_of_getElem? (i := 330) (by decide +kernel), by decide +kernel⟩
theorem wm_331 : Cond.code yX0_forget cX0_forget 1 (none) ∈ px_T := List.mem_filter.mpr ⟨List.mem_of_getElem? (i := 331) (by decide +kernel), by decide +kernel⟩
theorem wm_332 : Cond.methodLink "StableRiversLaw" 31 yX6_place ∈ px_T := List.mem_filter.mpr ⟨List.mem_of_getElem? (i := 332) (by decide +kernel), by decide +kernel⟩
theorem wm_333 : Cond.instanceMethod yX6_place ∈ px_T := List.mem_filter.mpr ⟨List.mem_of_getElem? (i := 333) (by decide +kernel), by decide +kernel⟩
theorem wm_334 : Cond.selects yX6_place.cls yX6_place yX6_place ∈ px_T := List.mem_filter.mpr ⟨List.mem_of_getElem? (i := 334) (by decide +kernel), by decide +kernel⟩
theorem wm_335 : Cond.code yX6_place cX6_place 3 (some .int) ∈ px_T := List.mem_filter.mpr ⟨List.mem_of_getElem? (i := 335) (by decide +kernel), by decide +kernel⟩
theorem wm_336 : Cond.methodLink "StableRivers" 98 yX1_hasPlace ∈ px_T := List.mem_filter.mpr ⟨List.mem_of_getElem? (i := 336) (by decide +kernel), by decide +kernel⟩
theorem wm_337 : Cond.methodLink "StableRivers" 120 yX1_leastOpen ∈ px_T := List.mem_filter.mpr ⟨List.mem_of_getElem? (i := 337) (by decide +kernel), by decide +kernel⟩
theorem wm_338 : Cond.instanceMethod yX1_leastOpen ∈ px_T := List.mem_filter.mpr ⟨List.mem_of_getElem? (i := 338) (by decide +kernel), by decide +kernel⟩
theorem wm_339 : Cond.selects yX1_leastOpen.cls yX1_leastOpen yX1_leastOpen ∈ px_T := List.mem_filter.mpr ⟨List.mem_of_getElem? (i := 339) (by decide +kernel), by decide +kernel⟩
theorem wm_340 : Cond.code yX1_leastOpen cX1_leastOpen 4 (some .int) ∈ px_T := List.mem_filter.mpr ⟨List.mem_of_getElem? (i := 340) (by decide +kernel), by decide +kernel⟩
theorem wm_341 : Cond.methodLink "StableRiversLaw" 36 yX6_ditch ∈ px_T := List.mem_filter.mpr ⟨List.mem_of_getElem? (i := 341) (by decide +kernel), by decide +kernel⟩
theorem wm_342 : Cond.instanceMethod yX6_ditch ∈ px_T := List.mem_filter.mpr ⟨List.mem_of_getElem? (i := 342) (by decide +kernel), by decide +kernel⟩
theorem wm_343 : Cond.selects yX6_ditch.cls yX6_ditch yX6_ditch ∈ px_T := List.mem_filter.mpr ⟨List.mem_of_getElem? (i := 343) (by decide +kernel), by decide +kernel⟩
theorem wm_344 : Cond.code yX6_ditch cX6_ditch 3 (some .int) ∈ px_T := List.mem_filter.mpr ⟨List.mem_of_getElem? (i := 344) (by decide +kernel), by decide +kernel⟩
theorem wm_345 : Cond.methodLink "StableRivers" 124 yX1_hasDitch ∈ px_T := List.mem_filter.mpr ⟨List.mem_of_getElem? (i := 345) (by decide +kernel), by decide +kernel⟩
theorem wm_346 : Cond.instanceMethod yX1_hasDitch ∈ px_T := List.mem_filter.mpr ⟨List.mem_of_getElem? (i := 346) (by decide +kernel), by decide +kernel⟩
theorem wm_347 : Cond.selects yX1_hasDitch.cls yX1_hasDitch yX1_hasDitch ∈ px_T := List.mem_filter.mpr ⟨List.mem_of_getElem? (i := 347) (by decide +kernel), by decide +kernel⟩
theorem wm_348 : Cond.code yX1_hasDitch cX1_hasDitch 2 (some .boolean) ∈ px_T := List.mem_filter.mpr ⟨List.mem_of_getElem? (i := 348) (by decide +kernel), by decide +kernel⟩
theorem wm_349 : Cond.methodLink "StableRiversLaw" 40 yX6_hour ∈ px_T := List.mem_filter.mpr ⟨List.mem_of_getElem? (i := 349) (by decide +kernel), by decide +kernel⟩
theorem wm_350 : Cond.instanceMethod yX6_hour ∈ px_T := List.mem_filter.mpr ⟨List.mem_of_getElem? (i := 350) (by decide +kernel), by decide +kernel⟩
theorem wm_351 : Cond.selects yX6_hour.cls yX6_hour yX6_hour ∈ px_T := List.mem_filter.mpr ⟨List.mem_of_getElem? (i := 351) (by decide +kernel), by decide +kernel⟩
theorem wm_352 : Cond.code yX6_hour cX6_hour 1 (some .int) ∈ px_T := List.mem_filter.mpr ⟨List.mem_of_getElem? (i := 352) (by decide +kernel), by decide +kernel⟩
theorem wm_353 : Cond.methodLink "StableRivers" 133 yX0_remember ∈ px_T := List.mem_filter.mpr ⟨List.mem_of_getElem? (i := 353) (by decide +kernel), by decide +kernel⟩
theorem wm_354 : Cond.instanceMethod yX0_remember ∈ px_T := List.mem_filter.mpr ⟨List.mem_of_getElem? (i := 354) (by decide +kernel), by decide +kernel⟩
theorem wm_355 : Cond.selects yX0_remember.cls yX0_remember yX0_remember ∈ px_T := List.mem_filter.mpr ⟨List.mem_of_getElem? (i := 355) (by decide +kernel), by decide +kernel⟩
theorem wm_356 : Cond.code yX0_remember cX0_remember 2 (none) ∈ px_T := List.mem_filter.mpr ⟨List.mem_of_getElem? (i := 356) (by decide +kernel), by decide +kernel⟩
theorem wm_357 : Cond.methodLink "StableRivers$Acts" 22 yX0_dropFirst ∈ px_T := List.mem_filter.mpr ⟨List.mem_of_getElem? (i := 357) (by decide +kernel), by decide +kernel⟩
theorem wm_359 : Cond.instanceMethod yX0_dropFirst ∈ px_T := List.mem_filter.mpr ⟨List.mem_of_getElem? (i := 359) (by decide +kernel), by decide +kernel⟩
theorem wm_360 : Cond.code yX0_dropFirst cX0_dropFirst 3 (none) ∈ px_T := List.mem_filter.mpr ⟨List.mem_of_getElem? (i := 360) (by decide +kernel), by decide +kernel⟩
theorem wm_361 : Cond.methodLink "StableRivers$Acts" 25 yX3_copy ∈ px_T := List.mem_filter.mpr ⟨List.mem_of_getElem? (i := 361) (by decide +kernel), by decide +kernel⟩
theorem wm_362 : Cond.instanceMethod yX3_copy ∈ px_T := List.mem_filter.mpr ⟨List.mem_of_getElem? (i := 362) (by decide +kernel), by decide +kernel⟩
theorem wm_363 : Cond.selects yX3_copy.cls yX3_copy yX3_copy ∈ px_T := List.mem_filter.mpr ⟨List.mem_of_getElem? (i := 363) (by decide +kernel), by decide +kernel⟩
theorem wm_364 : Cond.code yX3_copy cX3_copy 3 (none) ∈ px_T := List.mem_filter.mpr ⟨List.mem_of_getElem? (i := 364) (by decide +kernel), by decide +kernel⟩
theorem wm_365 : Cond.methodLink "StableRivers" 137 yX5_pass ∈ px_T := List.mem_filter.mpr ⟨List.mem_of_getElem? (i := 365) (by decide +kernel), by decide +kernel⟩
theorem wm_366 : Cond.instanceMethod yX5_pass ∈ px_T := List.mem_filter.mpr ⟨List.mem_of_getElem? (i := 366) (by decide +kernel), by decide +kernel⟩
theorem wm_367 : Cond.selects yX5_pass.cls yX5_pass yX5_pass ∈ px_T := List.mem_filter.mpr ⟨List.mem_of_getElem? (i := 367) (by decide +kernel), by decide +kernel⟩
theorem wm_368 : Cond.code yX5_pass cX5_pass 8 (some .int) ∈ px_T := List.mem_filter.mpr ⟨List.mem_of_getElem? (i := 368) (by decide +kernel), by decide +kernel⟩
theorem wm_369 : Cond.methodLink "StableRivers$Stream" 38 Lib.Math.min.name ∈ px_T := List.mem_filter.mpr ⟨List.mem_of_getElem? (i := 369) (by decide +kernel), by decide +kernel⟩
theorem wm_370 : Cond.static Lib.Math.min.name ∈ px_T := List.mem_filter.mpr ⟨List.mem_of_getElem? (i := 370) (by decide +kernel), by decide +kernel⟩
theorem wm_371 : Cond.code Lib.Math.min.name Lib.Math.min.code 2 (some .int) ∈ px_T := List.mem_filter.mpr ⟨List.mem_of_getElem? (i := 371) (by decide +kernel), by decide +kernel⟩
theorem wm_372 : Cond.methodLink "StableRivers$Stream" 53 yX5_arrive ∈ px_T := List.mem_filter.mpr ⟨List.mem_of_getElem? (i := 372) (by decide +kernel), by decide +kernel⟩
theorem wm_374 : Cond.instanceMethod yX5_arrive ∈ px_T := List.mem_filter.mpr ⟨List.mem_of_getElem? (i := 374) (by decide +kernel), by decide +kernel⟩
theorem wm_375 : Cond.code yX5_arrive cX5_arrive 6 (some .int) ∈ px_T := List.mem_filter.mpr ⟨List.mem_of_getElem? (i := 375) (by decide +kernel), by decide +kernel⟩
theorem wm_376 : Cond.methodLink "StableRiversLaw" 44 yX6_turn ∈ px_T := List.mem_filter.mpr ⟨List.mem_of_getElem? (i := 376) (by decide +kernel), by decide +kernel⟩
theorem wm_377 : Cond.instanceMethod yX6_turn ∈ px_T := List.mem_filter.mpr ⟨List.mem_of_getElem? (i := 377) (by decide +kernel), by decide +kernel⟩
theorem wm_378 : Cond.selects yX6_turn.cls yX6_turn yX6_turn ∈ px_T := List.mem_filter.mpr ⟨List.mem_of_getElem? (i := 378) (by decide +kernel), by decide +kernel⟩
theorem wm_379 : Cond.code yX6_turn cX6_turn 2 (some .int) ∈ px_T := List.mem_filter.mpr ⟨List.mem_of_getElem? (i := 379) (by decide +kernel), by decide +kernel⟩
theorem wm_380 : Cond.methodLink "StableRiversLaw" 48 yX6_rain ∈ px_T := List.mem_filter.mpr ⟨List.mem_of_getElem? (i := 380) (by decide +kernel), by decide +kernel⟩
theorem wm_381 : Cond.instanceMethod yX6_rain ∈ px_T := List.mem_filter.mpr ⟨List.mem_of_getElem? (i := 381) (by decide +kernel), by decide +kernel⟩
theorem wm_382 : Cond.selects yX6_rain.cls yX6_rain yX6_rain ∈ px_T := List.mem_filter.mpr ⟨List.mem_of_getElem? (i := 382) (by decide +kernel), by decide +kernel⟩
theorem wm_383 : Cond.code yX6_rain cX6_rain 3 (some .int) ∈ px_T := List.mem_filter.mpr ⟨List.mem_of_getElem? (i := 383) (by decide +kernel), by decide +kernel⟩
theorem wm_384 : Cond.methodLink "StableRiversLaw" 52 yX6_undo ∈ px_T := List.mem_filter.mpr ⟨List.mem_of_getElem? (i := 384) (by decide +kernel), by decide +kernel⟩
theorem wm_385 : Cond.instanceMethod yX6_undo ∈ px_T := List.mem_filter.mpr ⟨List.mem_of_getElem? (i := 385) (by decide +kernel), by decide +kernel⟩
theorem wm_386 : Cond.selects yX6_undo.cls yX6_undo yX6_undo ∈ px_T := List.mem_filter.mpr ⟨List.mem_of_getElem? (i := 386) (by decide +kernel), by decide +kernel⟩
theorem wm_387 : Cond.code yX6_undo cX6_undo 1 (some .int) ∈ px_T := List.mem_filter.mpr ⟨List.mem_of_getElem? (i := 387) (by decide +kernel), by decide +kernel⟩
theorem wm_388 : Cond.methodLink "StableRivers" 144 yX0_takeBack ∈ px_T := List.mem_filter.mpr ⟨List.mem_of_getElem? (i := 388) (by decide +kernel), by decide +kernel⟩
theorem wm_389 : Cond.instanceMethod yX0_takeBack ∈ px_T := List.mem_filter.mpr ⟨List.mem_of_getElem? (i := 389) (by decide +kernel), by decide +kernel⟩
theorem wm_390 : Cond.selects yX0_takeBack.cls yX0_takeBack yX0_takeBack ∈ px_T := List.mem_filter.mpr ⟨List.mem_of_getElem? (i := 390) (by decide +kernel), by decide +kernel⟩
theorem wm_391 : Cond.code yX0_takeBack cX0_takeBack 2 (none) ∈ px_T := List.mem_filter.mpr ⟨List.mem_of_getElem? (i := 391) (by decide +kernel), by decide +kernel⟩
theorem wm_392 : Cond.methodLink "StableRiversLaw" 56 yX6_judge ∈ px_T := List.mem_filter.mpr ⟨List.mem_of_getElem? (i := 392) (by decide +kernel), by decide +kernel⟩
theorem wm_393 : Cond.instanceMethod yX6_judge ∈ px_T := List.mem_filter.mpr ⟨List.mem_of_getElem? (i := 393) (by decide +kernel), by decide +kernel⟩
theorem wm_394 : Cond.selects yX6_judge.cls yX6_judge yX6_judge ∈ px_T := List.mem_filter.mpr ⟨List.mem_of_getElem? (i := 394) (by decide +kernel), by decide +kernel⟩
theorem wm_395 : Cond.code yX6_judge cX6_judge 5 (some .int) ∈ px_T := List.mem_filter.mpr ⟨List.mem_of_getElem? (i := 395) (by decide +kernel), by decide +kernel⟩
theorem wm_396 : Cond.methodLink "StableRivers" 147 yX6_readSteps ∈ px_T := List.mem_filter.mpr ⟨List.mem_of_getElem? (i := 396) (by decide +kernel), by decide +kernel⟩
theorem wm_398 : Cond.instanceMethod yX6_readSteps ∈ px_T := List.mem_filter.mpr ⟨List.mem_of_getElem? (i := 398) (by decide +kernel), by decide +kernel⟩
theorem wm_399 : Cond.code yX6_readSteps cX6_readSteps 5 (some .boolean) ∈ px_T := List.mem_filter.mpr ⟨List.mem_of_getElem? (i := 399) (by decide +kernel), by decide +kernel⟩
theorem wm_400 : Cond.methodLink "StableRivers" 151 yX3_copy ∈ px_T := List.mem_filter.mpr ⟨List.mem_of_getElem? (i := 400) (by decide +kernel), by decide +kernel⟩
theorem wm_401 : Cond.methodLink "StableRivers" 154 yX3_wetTowns ∈ px_T := List.mem_filter.mpr ⟨List.mem_of_getElem? (i := 401) (by decide +kernel), by decide +kernel⟩
theorem wm_402 : Cond.instanceMethod yX3_wetTowns ∈ px_T := List.mem_filter.mpr ⟨List.mem_of_getElem? (i := 402) (by decide +kernel), by decide +kernel⟩
theorem wm_403 : Cond.selects yX3_wetTowns.cls yX3_wetTowns yX3_wetTowns ∈ px_T := List.mem_filter.mpr ⟨List.mem_of_getElem? (i := 403) (by decide +kernel), by decide +kernel⟩
theorem wm_404 : Cond.code yX3_wetTowns cX3_wetTowns 3 (some .int) ∈ px_T := List.mem_filter.mpr ⟨List.mem_of_getElem? (i := 404) (by decide +kernel), by decide +kernel⟩
theorem wm_405 : Cond.methodLink "StableRivers" 158 yX6_canStep ∈ px_T := List.mem_filter.mpr ⟨List.mem_of_getElem? (i := 405) (by decide +kernel), by decide +kernel⟩
theorem wm_407 : Cond.instanceMethod yX6_canStep ∈ px_T := List.mem_filter.mpr ⟨List.mem_of_getElem? (i := 407) (by decide +kernel), by decide +kernel⟩
theorem wm_408 : Cond.code yX6_canStep cX6_canStep 3 (some .boolean) ∈ px_T := List.mem_filter.mpr ⟨List.mem_of_getElem? (i := 408) (by decide +kernel), by decide +kernel⟩
theorem wm_409 : Cond.methodLink "StableRiversLaw" 60 yX6_behind ∈ px_T := List.mem_filter.mpr ⟨List.mem_of_getElem? (i := 409) (by decide +kernel), by decide +kernel⟩
theorem wm_410 : Cond.instanceMethod yX6_behind ∈ px_T := List.mem_filter.mpr ⟨List.mem_of_getElem? (i := 410) (by decide +kernel), by decide +kernel⟩
theorem wm_411 : Cond.selects yX6_behind.cls yX6_behind yX6_behind ∈ px_T := List.mem_filter.mpr ⟨List.mem_of_getElem? (i := 411) (by decide +kernel), by decide +kernel⟩
theorem wm_412 : Cond.code yX6_behind cX6_behind 4 (some .int) ∈ px_T := List.mem_filter.mpr ⟨List.mem_of_getElem? (i := 412) (by decide +kernel), by decide +kernel⟩
theorem wm_413 : Cond.methodLink "StableRivers" 162 yX6_areHours ∈ px_T := List.mem_filter.mpr ⟨List.mem_of_getElem? (i := 413) (by decide +kernel), by decide +kernel⟩
theorem wm_414 : Cond.static yX6_areHours ∈ px_T := List.mem_filter.mpr ⟨List.mem_of_getElem? (i := 414) (by decide +kernel), by decide +kernel⟩
theorem wm_415 : Cond.code yX6_areHours cX6_areHours 1 (some .boolean) ∈ px_T := List.mem_filter.mpr ⟨List.mem_of_getElem? (i := 415) (by decide +kernel), by decide +kernel⟩
theorem wm_416 : Cond.methodLink "StableRivers" 165 yX6_tryTurning ∈ px_T := List.mem_filter.mpr ⟨List.mem_of_getElem? (i := 416) (by decide +kernel), by decide +kernel⟩
theorem wm_418 : Cond.instanceMethod yX6_tryTurning ∈ px_T := List.mem_filter.mpr ⟨List.mem_of_getElem? (i := 418) (by decide +kernel), by decide +kernel⟩
theorem wm_419 : Cond.code yX6_tryTurning cX6_tryTurning 3 (none) ∈ px_T := List.mem_filter.mpr ⟨List.mem_of_getElem? (i := 419) (by decide +kernel), by decide +kernel⟩
theorem wm_420 : Cond.methodLink "StableRivers" 205 yX6_passHours ∈ px_T := List.mem_filter.mpr ⟨List.mem_of_getElem? (i := 420) (by decide +kernel), by decide +kernel⟩
theorem wm_422 : Cond.instanceMethod yX6_passHours ∈ px_T := List.mem_filter.mpr ⟨List.mem_of_getElem? (i := 422) (by decide +kernel), by decide +kernel⟩
theorem wm_423 : Cond.code yX6_passHours cX6_passHours 5 (none) ∈ px_T := List.mem_filter.mpr ⟨List.mem_of_getElem? (i := 423) (by decide +kernel), by decide +kernel⟩
theorem wm_424 : Cond.methodLink "StableRiversLaw" 65 yX6_by ∈ px_T := List.mem_filter.mpr ⟨List.mem_of_getElem? (i := 424) (by decide +kernel), by decide +kernel⟩
theorem wm_425 : Cond.instanceMethod yX6_by ∈ px_T := List.mem_filter.mpr ⟨List.mem_of_getElem? (i := 425) (by decide +kernel), by decide +kernel⟩
theorem wm_426 : Cond.selects yX6_by.cls yX6_by yX6_by ∈ px_T := List.mem_filter.mpr ⟨List.mem_of_getElem? (i := 426) (by decide +kernel), by decide +kernel⟩
theorem wm_427 : Cond.code yX6_by cX6_by 4 (some .int) ∈ px_T := List.mem_filter.mpr ⟨List.mem_of_getElem? (i := 427) (by decide +kernel), by decide +kernel⟩
theorem wm_428 : Cond.methodLink "StableRivers" 169 yX1_allDitches ∈ px_T := List.mem_filter.mpr ⟨List.mem_of_getElem? (i := 428) (by decide +kernel), by decide +kernel⟩
theorem wm_429 : Cond.instanceMethod yX1_allDitches ∈ px_T := List.mem_filter.mpr ⟨List.mem_of_getElem? (i := 429) (by decide +kernel), by decide +kernel⟩
theorem wm_430 : Cond.selects yX1_allDitches.cls yX1_allDitches yX1_allDitches ∈ px_T := List.mem_filter.mpr ⟨List.mem_of_getElem? (i := 430) (by decide +kernel), by decide +kernel⟩
theorem wm_431 : Cond.code yX1_allDitches cX1_allDitches 1 (some .int) ∈ px_T := List.mem_filter.mpr ⟨List.mem_of_getElem? (i := 431) (by decide +kernel), by decide +kernel⟩
theorem wm_432 : Cond.methodLink "StableRivers" 172 yX3_allDung ∈ px_T := List.mem_filter.mpr ⟨List.mem_of_getElem? (i := 432) (by decide +kernel), by decide +kernel⟩
theorem wm_433 : Cond.instanceMethod yX3_allDung ∈ px_T := List.mem_filter.mpr ⟨List.mem_of_getElem? (i := 433) (by decide +kernel), by decide +kernel⟩
theorem wm_434 : Cond.selects yX3_allDung.cls yX3_allDung yX3_allDung ∈ px_T := List.mem_filter.mpr ⟨List.mem_of_getElem? (i := 434) (by decide +kernel), by decide +kernel⟩
theorem wm_435 : Cond.code yX3_allDung cX3_allDung 3 (some .int) ∈ px_T := List.mem_filter.mpr ⟨List.mem_of_getElem? (i := 435) (by decide +kernel), by decide +kernel⟩
theorem wm_436 : Cond.methodLink "StableRivers" 175 yX3_worth ∈ px_T := List.mem_filter.mpr ⟨List.mem_of_getElem? (i := 436) (by decide +kernel), by decide +kernel⟩
theorem wm_437 : Cond.instanceMethod yX3_worth ∈ px_T := List.mem_filter.mpr ⟨List.mem_of_getElem? (i := 437) (by decide +kernel), by decide +kernel⟩
theorem wm_438 : Cond.selects yX3_worth.cls yX3_worth yX3_worth ∈ px_T := List.mem_filter.mpr ⟨List.mem_of_getElem? (i := 438) (by decide +kernel), by decide +kernel⟩
theorem wm_439 : Cond.code yX3_worth cX3_worth 4 (some .int) ∈ px_T := List.mem_filter.mpr ⟨List.mem_of_getElem? (i := 439) (by decide +kernel), by decide +kernel⟩
theorem wm_440 : Cond.methodLink "StableRivers" 179 yX3_isDone ∈ px_T := List.mem_filter.mpr ⟨List.mem_of_getElem? (i := 440) (by decide +kernel), by decide +kernel⟩
theorem wm_441 : Cond.instanceMethod yX3_isDone ∈ px_T := List.mem_filter.mpr ⟨List.mem_of_getElem? (i := 441) (by decide +kernel), by decide +kernel⟩
theorem wm_442 : Cond.selects yX3_isDone.cls yX3_isDone yX3_isDone ∈ px_T := List.mem_filter.mpr ⟨List.mem_of_getElem? (i := 442) (by decide +kernel), by decide +kernel⟩
theorem wm_443 : Cond.code yX3_isDone cX3_isDone 1 (some .boolean) ∈ px_T := List.mem_filter.mpr ⟨List.mem_of_getElem? (i := 443) (by decide +kernel), by decide +kernel⟩
theorem wm_444 : Cond.methodLink "StableRivers$Scene" 42 yX3_allDung ∈ px_T := List.mem_filter.mpr ⟨List.mem_of_getElem? (i := 444) (by decide +kernel), by decide +kernel⟩
theorem wm_445 : Cond.methodLink "StableRivers$Scene" 46 yX3_wetTowns ∈ px_T := List.mem_filter.mpr ⟨List.mem_of_getElem? (i := 445) (by decide +kernel), by decide +kernel⟩
theorem wm_446 : Cond.methodLink "StableRiversLaw" 69 yX6_once ∈ px_T := List.mem_filter.mpr ⟨List.mem_of_getElem? (i := 446) (by decide +kernel), by decide +kernel⟩
theorem wm_447 : Cond.instanceMethod yX6_once ∈ px_T := List.mem_filter.mpr ⟨List.mem_of_getElem? (i := 447) (by decide +kernel), by decide +kernel⟩
theorem wm_448 : Cond.selects yX6_once.cls yX6_once yX6_once ∈ px_T := List.mem_filter.mpr ⟨List.mem_of_getElem? (i := 448) (by decide +kernel), by decide +kernel⟩
theorem wm_449 : Cond.code yX6_once cX6_once 4 (some .int) ∈ px_T := List.mem_filter.mpr ⟨List.mem_of_getElem? (i := 449) (by decide +kernel), by decide +kernel⟩
theorem wm_450 : Cond.methodLink "StableRivers" 183 yX6_fewestTurned ∈ px_T := List.mem_filter.mpr ⟨List.mem_of_getElem? (i := 450) (by decide +kernel), by decide +kernel⟩
theorem wm_452 : Cond.instanceMethod yX6_fewestTurned ∈ px_T := List.mem_filter.mpr ⟨List.mem_of_getElem? (i := 452) (by decide +kernel), by decide +kernel⟩
theorem wm_453 : Cond.code yX6_fewestTurned cX6_fewestTurned 8 (some .int) ∈ px_T := List.mem_filter.mpr ⟨List.mem_of_getElem? (i := 453) (by decide +kernel), by decide +kernel⟩
theorem wm_454 : Cond.methodLink "StableRivers" 186 yJ6_bitCount_0f7a4 ∈ px_T := List.mem_filter.mpr ⟨List.mem_of_getElem? (i := 454) (by decide +kernel), by decide +kernel⟩
theorem wm_455 : Cond.static yJ6_bitCount_0f7a4 ∈ px_T := List.mem_filter.mpr ⟨List.mem_of_getElem? (i := 455) (by decide +kernel), by decide +kernel⟩
theorem wm_456 : Cond.code yJ6_bitCount_0f7a4 cJ6_bitCount_0f7a4 1 (some .int) ∈ px_T := List.mem_filter.mpr ⟨List.mem_of_getElem? (i := 456) (by decide +kernel), by decide +kernel⟩
theorem wm_457 : Cond.constant "java/lang/Integer" 265 (1431655765) ∈ px_T := List.mem_filter.mpr ⟨List.mem_of_getElem? (i := 457) (by decide +kernel), by decide +kernel⟩
theorem wm_458 : Cond.constant "java/lang/Integer" 266 (858993459) ∈ px_T := List.mem_filter.mpr ⟨List.mem_of_getElem? (i := 458) (by decide +kernel), by decide +kernel⟩
theorem wm_459 : Cond.constant "java/lang/Integer" 267 (252645135) ∈ px_T := List.mem_filter.mpr ⟨List.mem_of_getElem? (i := 459) (by decide +kernel), by decide +kernel⟩
theorem wm_460 : Cond.methodLink "StableRiversLaw" 74 yX6_twice ∈ px_T := List.mem_filter.mpr ⟨List.mem_of_getElem? (i := 460) (by decide +kernel), by decide +kernel⟩
theorem wm_461 : Cond.instanceMethod yX6_twice ∈ px_T := List.mem_filter.mpr ⟨List.mem_of_getElem? (i := 461) (by decide +kernel), by decide +kernel⟩
theorem wm_462 : Cond.selects yX6_twice.cls yX6_twice yX6_twice ∈ px_T := List.mem_filter.mpr ⟨List.mem_of_getElem? (i := 462) (by decide +kernel), by decide +kernel⟩
theorem wm_463 : Cond.code yX6_twice cX6_twice 6 (some .int) ∈ px_T := List.mem_filter.mpr ⟨List.mem_of_getElem? (i := 463) (by decide +kernel), by decide +kernel⟩
theorem wm_464 : Cond.methodLink "StableRivers" 192 yX6_fewestBySecond ∈ px_T := List.mem_filter.mpr ⟨List.mem_of_getElem? (i := 464) (by decide +kernel), by decide +kernel⟩
theorem wm_466 : Cond.instanceMethod yX6_fewestBySecond ∈ px_T := List.mem_filter.mpr ⟨List.mem_of_getElem? (i := 466) (by decide +kernel), by decide +kernel⟩
theorem wm_467 : Cond.code yX6_fewestBySecond cX6_fewestBySecond 10 (some .int) ∈ px_T := List.mem_filter.mpr ⟨List.mem_of_getElem? (i := 467) (by decide +kernel), by decide +kernel⟩
theorem wm_468 : Cond.methodLink "StableRiversLaw" 78 yX6_richest ∈ px_T := List.mem_filter.mpr ⟨List.mem_of_getElem? (i := 468) (by decide +kernel), by decide +kernel⟩
theorem wm_469 : Cond.instanceMethod yX6_richest ∈ px_T := List.mem_filter.mpr ⟨List.mem_of_getElem? (i := 469) (by decide +kernel), by decide +kernel⟩
theorem wm_470 : Cond.selects yX6_richest.cls yX6_richest yX6_richest ∈ px_T := List.mem_filter.mpr ⟨List.mem_of_getElem? (i := 470) (by decide +kernel), by decide +kernel⟩
theorem wm_471 : Cond.code yX6_richest cX6_richest 6 (some .int) ∈ px_T := List.mem_filter.mpr ⟨List.mem_of_getElem? (i := 471) (by decide +kernel), by decide +kernel⟩
theorem wm_472 : Cond.methodLink "StableRiversLaw" 82 yX6_barred ∈ px_T := List.mem_filter.mpr ⟨List.mem_of_getElem? (i := 472) (by decide +kernel), by decide +kernel⟩
theorem wm_473 : Cond.instanceMethod yX6_barred ∈ px_T := List.mem_filter.mpr ⟨List.mem_of_getElem? (i := 473) (by decide +kernel), by decide +kernel⟩
theorem wm_474 : Cond.selects yX6_barred.cls yX6_barred yX6_barred ∈ px_T := List.mem_filter.mpr ⟨List.mem_of_getElem? (i := 474) (by decide +kernel), by decide +kernel⟩
theorem wm_475 : Cond.code yX6_barred cX6_barred 5 (some .int) ∈ px_T := List.mem_filter.mpr ⟨List.mem_of_getElem? (i := 475) (by decide +kernel), by decide +kernel⟩
theorem wm_476 : Cond.methodLink "StableRivers" 196 yX1_placesOf ∈ px_T := List.mem_filter.mpr ⟨List.mem_of_getElem? (i := 476) (by decide +kernel), by decide +kernel⟩
theorem wm_477 : Cond.instanceMethod yX1_placesOf ∈ px_T := List.mem_filter.mpr ⟨List.mem_of_getElem? (i := 477) (by decide +kernel), by decide +kernel⟩
theorem wm_478 : Cond.selects yX1_placesOf.cls yX1_placesOf yX1_placesOf ∈ px_T := List.mem_filter.mpr ⟨List.mem_of_getElem? (i := 478) (by decide +kernel), by decide +kernel⟩
theorem wm_479 : Cond.code yX1_placesOf cX1_placesOf 4 (some .int) ∈ px_T := List.mem_filter.mpr ⟨List.mem_of_getElem? (i := 479) (by decide +kernel), by decide +kernel⟩
theorem wm_480 : Cond.methodLink "StableRivers" 199 yX3_withDung ∈ px_T := List.mem_filter.mpr ⟨List.mem_of_getElem? (i := 480) (by decide +kernel), by decide +kernel⟩
theorem wm_481 : Cond.instanceMethod yX3_withDung ∈ px_T := List.mem_filter.mpr ⟨List.mem_of_getElem? (i := 481) (by decide +kernel), by decide +kernel⟩
theorem wm_482 : Cond.selects yX3_withDung.cls yX3_withDung yX3_withDung ∈ px_T := List.mem_filter.mpr ⟨List.mem_of_getElem? (i := 482) (by decide +kernel), by decide +kernel⟩
theorem wm_483 : Cond.code yX3_withDung cX3_withDung 3 (some .int) ∈ px_T := List.mem_filter.mpr ⟨List.mem_of_getElem? (i := 483) (by decide +kernel), by decide +kernel⟩
theorem wm_484 : Cond.methodLink "StableRivers" 202 yX6_leastBit ∈ px_T := List.mem_filter.mpr ⟨List.mem_of_getElem? (i := 484) (by decide +kernel), by decide +kernel⟩
theorem wm_485 : Cond.static yX6_leastBit ∈ px_T := List.mem_filter.mpr ⟨List.mem_of_getElem? (i := 485) (by decide +kernel), by decide +kernel⟩
theorem wm_486 : Cond.code yX6_leastBit cX6_leastBit 2 (some .int) ∈ px_T := List.mem_filter.mpr ⟨List.mem_of_getElem? (i := 486) (by decide +kernel), by decide +kernel⟩
theorem wm_487 : Cond.methodLink "StableRiversLaw" 86 yX6_free ∈ px_T := List.mem_filter.mpr ⟨List.mem_of_getElem? (i := 487) (by decide +kernel), by decide +kernel⟩
theorem wm_488 : Cond.instanceMethod yX6_free ∈ px_T := List.mem_filter.mpr ⟨List.mem_of_getElem? (i := 488) (by decide +kernel), by decide +kernel⟩
theorem wm_489 : Cond.selects yX6_free.cls yX6_free yX6_free ∈ px_T := List.mem_filter.mpr ⟨List.mem_of_getElem? (i := 489) (by decide +kernel), by decide +kernel⟩
theorem wm_490 : Cond.code yX6_free cX6_free 6 (some .int) ∈ px_T := List.mem_filter.mpr ⟨List.mem_of_getElem? (i := 490) (by decide +kernel), by decide +kernel⟩
theorem wm_491 : Cond.methodLink "StableRiversLaw" 90 yX6_stuck ∈ px_T := List.mem_filter.mpr ⟨List.mem_of_getElem? (i := 491) (by decide +kernel), by decide +kernel⟩
theorem wm_492 : Cond.instanceMethod yX6_stuck ∈ px_T := List.mem_filter.mpr ⟨List.mem_of_getElem? (i := 492) (by decide +kernel), by decide +kernel⟩
theorem wm_493 : Cond.selects yX6_stuck.cls yX6_stuck yX6_stuck ∈ px_T := List.mem_filter.mpr ⟨List.mem_of_getElem? (i := 493) (by decide +kernel), by decide +kernel⟩
theorem wm_494 : Cond.code yX6_stuck cX6_stuck 5 (some .int) ∈ px_T := List.mem_filter.mpr ⟨List.mem_of_getElem? (i := 494) (by decide +kernel), by decide +kernel⟩
theorem wm_495 : Cond.methodLink "StableRiversLaw" 94 yX6_share ∈ px_T := List.mem_filter.mpr ⟨List.mem_of_getElem? (i := 495) (by decide +kernel), by decide +kernel⟩
theorem wm_496 : Cond.instanceMethod yX6_share ∈ px_T := List.mem_filter.mpr ⟨List.mem_of_getElem? (i := 496) (by decide +kernel), by decide +kernel⟩
theorem wm_497 : Cond.selects yX6_share.cls yX6_share yX6_share ∈ px_T := List.mem_filter.mpr ⟨List.mem_of_getElem? (i := 497) (by decide +kernel), by decide +kernel⟩
theorem wm_498 : Cond.code yX6_share cX6_share 12 (some .int) ∈ px_T := List.mem_filter.mpr ⟨List.mem_of_getElem? (i := 498) (by decide +kernel), by decide +kernel⟩
theorem wm_499 : Cond.fieldLink "StableRivers" 209 "StableRivers" "FACTORIALS" "[I" ∈ px_T := List.mem_filter.mpr ⟨List.mem_of_getElem? (i := 499) (by decide +kernel), by decide +kernel⟩
theorem wm_501 : Cond.methodLink "StableRivers" 212 yX6_dungHalting ∈ px_T := List.mem_filter.mpr ⟨List.mem_of_getElem? (i := 501) (by decide +kernel), by decide +kernel⟩
theorem wm_503 : Cond.instanceMethod yX6_dungHalting ∈ px_T := List.mem_filter.mpr ⟨List.mem_of_getElem? (i := 503) (by decide +kernel), by decide +kernel⟩
theorem wm_504 : Cond.code yX6_dungHalting cX6_dungHalting 3 (some .int) ∈ px_T := List.mem_filter.mpr ⟨List.mem_of_getElem? (i := 504) (by decide +kernel), by decide +kernel⟩
theorem wm_505 : Cond.methodLink "StableRivers" 215 yX6_fraction ∈ px_T := List.mem_filter.mpr ⟨List.mem_of_getElem? (i := 505) (by decide +kernel), by decide +kernel⟩
theorem wm_506 : Cond.static yX6_fraction ∈ px_T := List.mem_filter.mpr ⟨List.mem_of_getElem? (i := 506) (by decide +kernel), by decide +kernel⟩
theorem wm_507 : Cond.code yX6_fraction cX6_fraction 4 (some .int) ∈ px_T := List.mem_filter.mpr ⟨List.mem_of_getElem? (i := 507) (by decide +kernel), by decide +kernel⟩
theorem wm_508 : Cond.methodLink "StableRivers" 234 yX6_greatestDivisor ∈ px_T := List.mem_filter.mpr ⟨List.mem_of_getElem? (i := 508) (by decide +kernel), by decide +kernel⟩
theorem wm_509 : Cond.static yX6_greatestDivisor ∈ px_T := List.mem_filter.mpr ⟨List.mem_of_getElem? (i := 509) (by decide +kernel), by decide +kernel⟩
theorem wm_510 : Cond.code yX6_greatestDivisor cX6_greatestDivisor 6 (some .int) ∈ px_T := List.mem_filter.mpr ⟨List.mem_of_getElem? (i := 510) (by decide +kernel), by decide +kernel⟩
theorem wm_511 : Cond.methodLink "StableRivers" 237 Lib.Math.abs.name ∈ px_T := List.mem_filter.mpr ⟨List.mem_of_getElem? (i := 511) (by decide +kernel), by decide +kernel⟩
theorem wm_512 : Cond.static Lib.Math.abs.name ∈ px_T := List.mem_filter.mpr ⟨List.mem_of_getElem? (i := 512) (by decide +kernel), by decide +kernel⟩
theorem wm_513 : Cond.code Lib.Math.abs.name Lib.Math.abs.code 1 (some .int) ∈ px_T := List.mem_filter.mpr ⟨List.mem_of_getElem? (i := 513) (by decide +kernel), by decide +kernel⟩
theorem wm_514 : Cond.methodLink "StableRiversLaw" 99 yX6_chance ∈ px_T := List.mem_filter.mpr ⟨List.mem_of_getElem? (i := 514) (by decide +kernel), by decide +kernel⟩
theorem wm_515 : Cond.instanceMethod yX6_chance ∈ px_T := List.mem_filter.mpr ⟨List.mem_of_getElem? (i := 515) (by decide +kernel), by decide +kernel⟩
theorem wm_516 : Cond.selects yX6_chance.cls yX6_chance yX6_chance ∈ px_T := List.mem_filter.mpr ⟨List.mem_of_getElem? (i := 516) (by decide +kernel), by decide +kernel⟩
theorem wm_517 : Cond.code yX6_chance cX6_chance 4 (some .int) ∈ px_T := List.mem_filter.mpr ⟨List.mem_of_getElem? (i := 517) (by decide +kernel), by decide +kernel⟩
theorem wm_518 : Cond.methodLink "StableRivers" 219 yX6_overRains ∈ px_T := List.mem_filter.mpr ⟨List.mem_of_getElem? (i := 518) (by decide +kernel), by decide +kernel⟩
theorem wm_520 : Cond.instanceMethod yX6_overRains ∈ px_T := List.mem_filter.mpr ⟨List.mem_of_getElem? (i := 520) (by decide +kernel), by decide +kernel⟩
theorem wm_521 : Cond.code yX6_overRains cX6_overRains 10 (some .int) ∈ px_T := List.mem_filter.mpr ⟨List.mem_of_getElem? (i := 521) (by decide +kernel), by decide +kernel⟩
theorem wm_522 : Cond.methodLink "StableRivers" 223 yX6_weightOf ∈ px_T := List.mem_filter.mpr ⟨List.mem_of_getElem? (i := 522) (by decide +kernel), by decide +kernel⟩
theorem wm_523 : Cond.static yX6_weightOf ∈ px_T := List.mem_filter.mpr ⟨List.mem_of_getElem? (i := 523) (by decide +kernel), by decide +kernel⟩
theorem wm_524 : Cond.code yX6_weightOf cX6_weightOf 4 (some .int) ∈ px_T := List.mem_filter.mpr ⟨List.mem_of_getElem? (i := 524) (by decide +kernel), by decide +kernel⟩
theorem wm_525 : Cond.methodLink "StableRivers" 231 yX6_power ∈ px_T := List.mem_filter.mpr ⟨List.mem_of_getElem? (i := 525) (by decide +kernel), by decide +kernel⟩
theorem wm_526 : Cond.static yX6_power ∈ px_T := List.mem_filter.mpr ⟨List.mem_of_getElem? (i := 526) (by decide +kernel), by decide +kernel⟩
theorem wm_527 : Cond.code yX6_power cX6_power 4 (some .int) ∈ px_T := List.mem_filter.mpr ⟨List.mem_of_getElem? (i := 527) (by decide +kernel), by decide +kernel⟩
theorem wm_528 : Cond.methodLink "StableRivers" 227 yX3_addOneTo ∈ px_T := List.mem_filter.mpr ⟨List.mem_of_getElem? (i := 528) (by decide +kernel), by decide +kernel⟩
theorem wm_529 : Cond.instanceMethod yX3_addOneTo ∈ px_T := List.mem_filter.mpr ⟨List.mem_of_getElem? (i := 529) (by decide +kernel), by decide +kernel⟩
theorem wm_530 : Cond.selects yX3_addOneTo.cls yX3_addOneTo yX3_addOneTo ∈ px_T := List.mem_filter.mpr ⟨List.mem_of_getElem? (i := 530) (by decide +kernel), by decide +kernel⟩
theorem wm_531 : Cond.code yX3_addOneTo cX3_addOneTo 3 (none) ∈ px_T := List.mem_filter.mpr ⟨List.mem_of_getElem? (i := 531) (by decide +kernel), by decide +kernel⟩
theorem wm_532 : Cond.methodLink "StableRiversLaw" 103 yX6_mean ∈ px_T := List.mem_filter.mpr ⟨List.mem_of_getElem? (i := 532) (by decide +kernel), by decide +kernel⟩
theorem wm_533 : Cond.instanceMethod yX6_mean ∈ px_T := List.mem_filter.mpr ⟨List.mem_of_getElem? (i := 533) (by decide +kernel), by decide +kernel⟩
theorem wm_534 : Cond.selects yX6_mean.cls yX6_mean yX6_mean ∈ px_T := List.mem_filter.mpr ⟨List.mem_of_getElem? (i := 534) (by decide +kernel), by decide +kernel⟩
theorem wm_535 : Cond.code yX6_mean cX6_mean 4 (some .int) ∈ px_T := List.mem_filter.mpr ⟨List.mem_of_getElem? (i := 535) (by decide +kernel), by decide +kernel⟩
theorem wm_536 : Cond.methodLink "StableRiversLaw" 107 yX6_see ∈ px_T := List.mem_filter.mpr ⟨List.mem_of_getElem? (i := 536) (by decide +kernel), by decide +kernel⟩
theorem wm_537 : Cond.instanceMethod yX6_see ∈ px_T := List.mem_filter.mpr ⟨List.mem_of_getElem? (i := 537) (by decide +kernel), by decide +kernel⟩
theorem wm_538 : Cond.selects yX6_see.cls yX6_see yX6_see ∈ px_T := List.mem_filter.mpr ⟨List.mem_of_getElem? (i := 538) (by decide +kernel), by decide +kernel⟩
theorem wm_539 : Cond.code yX6_see cX6_see 4 (some .int) ∈ px_T := List.mem_filter.mpr ⟨List.mem_of_getElem? (i := 539) (by decide +kernel), by decide +kernel⟩
theorem wm_540 : Cond.methodLink "StableRivers" 243 yX4_note ∈ px_T := List.mem_filter.mpr ⟨List.mem_of_getElem? (i := 540) (by decide +kernel), by decide +kernel⟩
theorem wm_541 : Cond.instanceMethod yX4_note ∈ px_T := List.mem_filter.mpr ⟨List.mem_of_getElem? (i := 541) (by decide +kernel), by decide +kernel⟩
theorem wm_542 : Cond.selects yX4_note.cls yX4_note yX4_note ∈ px_T := List.mem_filter.mpr ⟨List.mem_of_getElem? (i := 542) (by decide +kernel), by decide +kernel⟩
theorem wm_543 : Cond.code yX4_note cX4_note 4 (none) ∈ px_T := List.mem_filter.mpr ⟨List.mem_of_getElem? (i := 543) (by decide +kernel), by decide +kernel⟩
theorem wm_544 : Cond.methodLink "StableRiversLaw" 111 yX6_unsee ∈ px_T := List.mem_filter.mpr ⟨List.mem_of_getElem? (i := 544) (by decide +kernel), by decide +kernel⟩
theorem wm_545 : Cond.instanceMethod yX6_unsee ∈ px_T := List.mem_filter.mpr ⟨List.mem_of_getElem? (i := 545) (by decide +kernel), by decide +kernel⟩
theorem wm_546 : Cond.selects yX6_unsee.cls yX6_unsee yX6_unsee ∈ px_T := List.mem_filter.mpr ⟨List.mem_of_getElem? (i := 546) (by decide +kernel), by decide +kernel⟩
theorem wm_547 : Cond.code yX6_unsee cX6_unsee 2 (some .int) ∈ px_T := List.mem_filter.mpr ⟨List.mem_of_getElem? (i := 547) (by decide +kernel), by decide +kernel⟩
theorem wm_548 : Cond.methodLink "StableRiversLaw" 115 yX6_fit ∈ px_T := List.mem_filter.mpr ⟨List.mem_of_getElem? (i := 548) (by decide +kernel), by decide +kernel⟩
theorem wm_549 : Cond.instanceMethod yX6_fit ∈ px_T := List.mem_filter.mpr ⟨List.mem_of_getElem? (i := 549) (by decide +kernel), by decide +kernel⟩
theorem wm_550 : Cond.selects yX6_fit.cls yX6_fit yX6_fit ∈ px_T := List.mem_filter.mpr ⟨List.mem_of_getElem? (i := 550) (by decide +kernel), by decide +kernel⟩
theorem wm_551 : Cond.code yX6_fit cX6_fit 7 (some .int) ∈ px_T := List.mem_filter.mpr ⟨List.mem_of_getElem? (i := 551) (by decide +kernel), by decide +kernel⟩
theorem wm_552 : Cond.methodLink "StableRivers" 247 yX6_isAsSeen ∈ px_T := List.mem_filter.mpr ⟨List.mem_of_getElem? (i := 552) (by decide +kernel), by decide +kernel⟩
theorem wm_554 : Cond.instanceMethod yX6_isAsSeen ∈ px_T := List.mem_filter.mpr ⟨List.mem_of_getElem? (i := 554) (by decide +kernel), by decide +kernel⟩
theorem wm_555 : Cond.code yX6_isAsSeen cX6_isAsSeen 4 (some .boolean) ∈ px_T := List.mem_filter.mpr ⟨List.mem_of_getElem? (i := 555) (by decide +kernel), by decide +kernel⟩
theorem wm_556 : Cond.methodLink "StableRivers" 250 yX4_lastTime ∈ px_T := List.mem_filter.mpr ⟨List.mem_of_getElem? (i := 556) (by decide +kernel), by decide +kernel⟩
theorem wm_557 : Cond.instanceMethod yX4_lastTime ∈ px_T := List.mem_filter.mpr ⟨List.mem_of_getElem? (i := 557) (by decide +kernel), by decide +kernel⟩
theorem wm_558 : Cond.selects yX4_lastTime.cls yX4_lastTime yX4_lastTime ∈ px_T := List.mem_filter.mpr ⟨List.mem_of_getElem? (i := 558) (by decide +kernel), by decide +kernel⟩
theorem wm_559 : Cond.code yX4_lastTime cX4_lastTime 3 (some .int) ∈ px_T := List.mem_filter.mpr ⟨List.mem_of_getElem? (i := 559) (by decide +kernel), by decide +kernel⟩
theorem wm_560 : Cond.methodLink "StableRivers$Sightings" 25 Lib.Math.max.name ∈ px_T := List.mem_filter.mpr ⟨List.mem_of_getElem? (i := 560) (by decide +kernel), by decide +kernel⟩
theorem wm_561 : Cond.static Lib.Math.max.name ∈ px_T := List.mem_filter.mpr ⟨List.mem_of_getElem? (i := 561) (by decide +kernel), by decide +kernel⟩
theorem wm_562 : Cond.code Lib.Math.max.name Lib.Math.max.code 2 (some .int) ∈ px_T := List.mem_filter.mpr ⟨List.mem_of_getElem? (i := 562) (by decide +kernel), by decide +kernel⟩
theorem wm_563 : Cond.methodLink "StableRivers" 253 yX4_agree ∈ px_T := List.mem_filter.mpr ⟨List.mem_of_getElem? (i := 563) (by decide +kernel), by decide +kernel⟩
theorem wm_564 : Cond.instanceMethod yX4_agree ∈ px_T := List.mem_filter.mpr ⟨List.mem_of_getElem? (i := 564) (by decide +kernel), by decide +kernel⟩
theorem wm_565 : Cond.selects yX4_agree.cls yX4_agree yX4_agree ∈ px_T := List.mem_filter.mpr ⟨List.mem_of_getElem? (i := 565) (by decide +kernel), by decide +kernel⟩
theorem wm_566 : Cond.code yX4_agree cX4_agree 5 (some .boolean) ∈ px_T := List.mem_filter.mpr ⟨List.mem_of_getElem? (i := 566) (by decide +kernel), by decide +kernel⟩
theorem wm_567 : Cond.methodLink "StableRivers$Sightings" 31 yX1_hasPlace ∈ px_T := List.mem_filter.mpr ⟨List.mem_of_getElem? (i := 567) (by decide +kernel), by decide +kernel⟩
theorem wm_568 : Cond.methodLink "StableRiversLaw" 119 yX6_kings ∈ px_T := List.mem_filter.mpr ⟨List.mem_of_getElem? (i := 568) (by decide +kernel), by decide +kernel⟩
theorem wm_569 : Cond.instanceMethod yX6_kings ∈ px_T := List.mem_filter.mpr ⟨List.mem_of_getElem? (i := 569) (by decide +kernel), by decide +kernel⟩
theorem wm_570 : Cond.selects yX6_kings.cls yX6_kings yX6_kings ∈ px_T := List.mem_filter.mpr ⟨List.mem_of_getElem? (i := 570) (by decide +kernel), by decide +kernel⟩
theorem wm_571 : Cond.code yX6_kings cX6_kings 8 (some .int) ∈ px_T := List.mem_filter.mpr ⟨List.mem_of_getElem? (i := 571) (by decide +kernel), by decide +kernel⟩
theorem wm_572 : Cond.methodLink "StableRivers" 257 yX6_leftByMove ∈ px_T := List.mem_filter.mpr ⟨List.mem_of_getElem? (i := 572) (by decide +kernel), by decide +kernel⟩
theorem wm_574 : Cond.instanceMethod yX6_leftByMove ∈ px_T := List.mem_filter.mpr ⟨List.mem_of_getElem? (i := 574) (by decide +kernel), by decide +kernel⟩
theorem wm_575 : Cond.code yX6_leftByMove cX6_leftByMove 6 (some .int) ∈ px_T := List.mem_filter.mpr ⟨List.mem_of_getElem? (i := 575) (by decide +kernel), by decide +kernel⟩
theorem wm_576 : Cond.methodLink "StableRivers" 260 yX6_leftFrom ∈ px_T := List.mem_filter.mpr ⟨List.mem_of_getElem? (i := 576) (by decide +kernel), by decide +kernel⟩
theorem wm_578 : Cond.instanceMethod yX6_leftFrom ∈ px_T := List.mem_filter.mpr ⟨List.mem_of_getElem? (i := 578) (by decide +kernel), by decide +kernel⟩
theorem wm_579 : Cond.code yX6_leftFrom cX6_leftFrom 8 (some .int) ∈ px_T := List.mem_filter.mpr ⟨List.mem_of_getElem? (i := 579) (by decide +kernel), by decide +kernel⟩
theorem wm_580 : Cond.methodLink "StableRivers" 263 Lib.Math.min.name ∈ px_T := List.mem_filter.mpr ⟨List.mem_of_getElem? (i := 580) (by decide +kernel), by decide +kernel⟩
theorem wm_581 : Cond.methodLink "StableRivers" 266 Lib.Math.max.name ∈ px_T := List.mem_filter.mpr ⟨List.mem_of_getElem? (i := 581) (by decide +kernel), by decide +kernel⟩
theorem wm_582 : Cond.methodLink "StableRiversLaw" 125 yX6_seed ∈ px_T := List.mem_filter.mpr ⟨List.mem_of_getElem? (i := 582) (by decide +kernel), by decide +kernel⟩
theorem wm_583 : Cond.instanceMethod yX6_seed ∈ px_T := List.mem_filter.mpr ⟨List.mem_of_getElem? (i := 583) (by decide +kernel), by decide +kernel⟩
theorem wm_584 : Cond.selects yX6_seed.cls yX6_seed yX6_seed ∈ px_T := List.mem_filter.mpr ⟨List.mem_of_getElem? (i := 584) (by decide +kernel), by decide +kernel⟩
theorem wm_585 : Cond.code yX6_seed cX6_seed 5 (some .long) ∈ px_T := List.mem_filter.mpr ⟨List.mem_of_getElem? (i := 585) (by decide +kernel), by decide +kernel⟩
theorem wm_586 : Cond.methodLink "StableRiversLaw" 130 yX6_days ∈ px_T := List.mem_filter.mpr ⟨List.mem_of_getElem? (i := 586) (by decide +kernel), by decide +kernel⟩
theorem wm_587 : Cond.instanceMethod yX6_days ∈ px_T := List.mem_filter.mpr ⟨List.mem_of_getElem? (i := 587) (by decide +kernel), by decide +kernel⟩
theorem wm_588 : Cond.selects yX6_days.cls yX6_days yX6_days ∈ px_T := List.mem_filter.mpr ⟨List.mem_of_getElem? (i := 588) (by decide +kernel), by decide +kernel⟩
theorem wm_589 : Cond.code yX6_days cX6_days 5 (some .int) ∈ px_T := List.mem_filter.mpr ⟨List.mem_of_getElem? (i := 589) (by decide +kernel), by decide +kernel⟩
theorem wm_590 : Cond.constantLong "StableRivers" 273 (6364136223846793005) ∈ px_T := List.mem_filter.mpr ⟨List.mem_of_getElem? (i := 590) (by decide +kernel), by decide +kernel⟩
theorem wm_591 : Cond.constantLong "StableRivers" 275 (1442695040888963407) ∈ px_T := List.mem_filter.mpr ⟨List.mem_of_getElem? (i := 591) (by decide +kernel), by decide +kernel⟩
theorem wm_592 : Cond.methodLink "StableRiversLaw" 134 yX6_keep ∈ px_T := List.mem_filter.mpr ⟨List.mem_of_getElem? (i := 592) (by decide +kernel), by decide +kernel⟩
theorem wm_593 : Cond.instanceMethod yX6_keep ∈ px_T := List.mem_filter.mpr ⟨List.mem_of_getElem? (i := 593) (by decide +kernel), by decide +kernel⟩
theorem wm_594 : Cond.selects yX6_keep.cls yX6_keep yX6_keep ∈ px_T := List.mem_filter.mpr ⟨List.mem_of_getElem? (i := 594) (by decide +kernel), by decide +kernel⟩
theorem wm_595 : Cond.code yX6_keep cX6_keep 2 (some .int) ∈ px_T := List.mem_filter.mpr ⟨List.mem_of_getElem? (i := 595) (by decide +kernel), by decide +kernel⟩
theorem wm_596 : Cond.methodLink "StableRiversLaw" 138 yX6_again ∈ px_T := List.mem_filter.mpr ⟨List.mem_of_getElem? (i := 596) (by decide +kernel), by decide +kernel⟩
theorem wm_597 : Cond.instanceMethod yX6_again ∈ px_T := List.mem_filter.mpr ⟨List.mem_of_getElem? (i := 597) (by decide +kernel), by decide +kernel⟩
theorem wm_598 : Cond.selects yX6_again.cls yX6_again yX6_again ∈ px_T := List.mem_filter.mpr ⟨List.mem_of_getElem? (i := 598) (by decide +kernel), by decide +kernel⟩
theorem wm_599 : Cond.code yX6_again cX6_again 2 (some .int) ∈ px_T := List.mem_filter.mpr ⟨List.mem_of_getElem? (i := 599) (by decide +kernel), by decide +kernel⟩
theorem wm_600 : Cond.methodLink "StableRiversLaw" 142 yX6_count ∈ px_T := List.mem_filter.mpr ⟨List.mem_of_getElem? (i := 600) (by decide +kernel), by decide +kernel⟩
theorem wm_601 : Cond.instanceMethod yX6_count ∈ px_T := List.mem_filter.mpr ⟨List.mem_of_getElem? (i := 601) (by decide +kernel), by decide +kernel⟩
theorem wm_602 : Cond.selects yX6_count.cls yX6_count yX6_count ∈ px_T := List.mem_filter.mpr ⟨List.mem_of_getElem? (i := 602) (by decide +kernel), by decide +kernel⟩
theorem wm_603 : Cond.code yX6_count cX6_count 2 (some .int) ∈ px_T := List.mem_filter.mpr ⟨List.mem_of_getElem? (i := 603) (by decide +kernel), by decide +kernel⟩
theorem wm_604 : Cond.methodLink "StableRivers" 280 yX3_allBuckets ∈ px_T := List.mem_filter.mpr ⟨List.mem_of_getElem? (i := 604) (by decide +kernel), by decide +kernel⟩
theorem wm_605 : Cond.instanceMethod yX3_allBuckets ∈ px_T := List.mem_filter.mpr ⟨List.mem_of_getElem? (i := 605) (by decide +kernel), by decide +kernel⟩
theorem wm_606 : Cond.selects yX3_allBuckets.cls yX3_allBuckets yX3_allBuckets ∈ px_T := List.mem_filter.mpr ⟨List.mem_of_getElem? (i := 606) (by decide +kernel), by decide +kernel⟩
theorem wm_607 : Cond.code yX3_allBuckets cX3_allBuckets 3 (some .int) ∈ px_T := List.mem_filter.mpr ⟨List.mem_of_getElem? (i := 607) (by decide +kernel), by decide +kernel⟩
theorem wm_608 : Cond.classLink "StableRiversLaw" 10 "StableRiversModel" ∈ px_T := List.mem_filter.mpr ⟨List.mem_of_getElem? (i := 608) (by decide +kernel), by decide +kernel⟩
theorem wm_609 : Cond.instantiable "StableRiversModel" 34 ∈ px_T := List.mem_filter.mpr ⟨List.mem_of_getElem? (i := 609) (by decide +kernel), by decide +kernel⟩
theorem wm_610 : Cond.methodLink "StableRiversLaw" 12 yX7_init ∈ px_T := List.mem_filter.mpr ⟨List.mem_of_getElem? (i := 610) (by decide +kernel), by decide +kernel⟩
theorem wm_611 : Cond.instanceMethod yX7_init ∈ px_T := List.mem_filter.mpr ⟨List.mem_of_getElem? (i := 611) (by decide +kernel), by decide +kernel⟩
theorem wm_612 : Cond.code yX7_init cX7_init 1 (none) ∈ px_T := List.mem_filter.mpr ⟨List.mem_of_getElem? (i := 612) (by decide +kernel), by decide +kernel⟩
theorem wm_613 : Cond.methodLink "StableRiversModel" 1 Lib.objectInit ∈ px_T := List.mem_filter.mpr ⟨List.mem_of_getElem? (i := 613) (by decide +kernel), by decide +kernel⟩
theorem wm_614 : Cond.fieldLink "StableRiversModel" 7 "StableRiversModel" "readKind" "[I" ∈ px_T := List.mem_filter.mpr ⟨List.mem_of_getElem? (i := 614) (by decide +kernel), by decide +kernel⟩
theorem wm_615 : Cond.fieldLink "StableRiversModel" 13 "StableRiversModel" "readHas" "[I" ∈ px_T := List.mem_filter.mpr ⟨List.mem_of_getElem? (i := 615) (by decide +kernel), by decide +kernel⟩
theorem wm_616 : Cond.fieldLink "StableRiversModel" 16 "StableRiversModel" "readRate" "[I" ∈ px_T := List.mem_filter.mpr ⟨List.mem_of_getElem? (i := 616) (by decide +kernel), by decide +kernel⟩
theorem wm_617 : Cond.fieldLink "StableRiversModel" 19 "StableRiversModel" "readFrom" "[I" ∈ px_T := List.mem_filter.mpr ⟨List.mem_of_getElem? (i := 617) (by decide +kernel), by decide +kernel⟩
theorem wm_618 : Cond.fieldLink "StableRiversModel" 22 "StableRiversModel" "readTo" "[I" ∈ px_T := List.mem_filter.mpr ⟨List.mem_of_getElem? (i := 618) (by decide +kernel), by decide +kernel⟩
theorem wm_619 : Cond.fieldLink "StableRiversModel" 25 "StableRiversModel" "readGoes" "[I" ∈ px_T := List.mem_filter.mpr ⟨List.mem_of_getElem? (i := 619) (by decide +kernel), by decide +kernel⟩
theorem wm_620 : Cond.fieldLink "StableRiversModel" 108 "StableRiversModel" "readOpen" "I" ∈ px_T := List.mem_filter.mpr ⟨List.mem_of_getElem? (i := 620) (by decide +kernel), by decide +kernel⟩
theorem wm_621 : Cond.fieldLink "StableRiversModel" 98 "StableRiversModel" "readPlaces" "I" ∈ px_T := List.mem_filter.mpr ⟨List.mem_of_getElem? (i := 621) (by decide +kernel), by decide +kernel⟩
theorem wm_622 : Cond.fieldLink "StableRiversModel" 105 "StableRiversModel" "readDitches" "I" ∈ px_T := List.mem_filter.mpr ⟨List.mem_of_getElem? (i := 622) (by decide +kernel), by decide +kernel⟩
theorem wm_623 : Cond.fieldLink "StableRiversModel" 28 "StableRiversModel" "kind" "[I" ∈ px_T := List.mem_filter.mpr ⟨List.mem_of_getElem? (i := 623) (by decide +kernel), by decide +kernel⟩
theorem wm_624 : Cond.fieldLink "StableRiversModel" 31 "StableRiversModel" "rate" "[I" ∈ px_T := List.mem_filter.mpr ⟨List.mem_of_getElem? (i := 624) (by decide +kernel), by decide +kernel⟩
theorem wm_625 : Cond.fieldLink "StableRiversModel" 34 "StableRiversModel" "from" "[I" ∈ px_T := List.mem_filter.mpr ⟨List.mem_of_getElem? (i := 625) (by decide +kernel), by decide +kernel⟩
theorem wm_626 : Cond.fieldLink "StableRiversModel" 37 "StableRiversModel" "to" "[I" ∈ px_T := List.mem_filter.mpr ⟨List.mem_of_getElem? (i := 626) (by decide +kernel), by decide +kernel⟩
theorem wm_627 : Cond.fieldLink "StableRiversModel" 77 "StableRiversModel" "places" "I" ∈ px_T := List.mem_filter.mpr ⟨List.mem_of_getElem? (i := 627) (by decide +kernel), by decide +kernel⟩
theorem wm_628 : Cond.fieldLink "StableRiversModel" 125 "StableRiversModel" "ditches" "I" ∈ px_T := List.mem_filter.mpr ⟨List.mem_of_getElem? (i := 628) (by decide +kernel), by decide +kernel⟩
theorem wm_629 : Cond.fieldLink "StableRiversModel" 40 "StableRiversModel" "now" "[I" ∈ px_T := List.mem_filter.mpr ⟨List.mem_of_getElem? (i := 629) (by decide +kernel), by decide +kernel⟩
theorem wm_630 : Cond.fieldLink "StableRiversModel" 43 "StableRiversModel" "text" "[I" ∈ px_T := List.mem_filter.mpr ⟨List.mem_of_getElem? (i := 630) (by decide +kernel), by decide +kernel⟩
theorem wm_631 : Cond.fieldLink "StableRiversModel" 87 "StableRiversModel" "length" "I" ∈ px_T := List.mem_filter.mpr ⟨List.mem_of_getElem? (i := 631) (by decide +kernel), by decide +kernel⟩
theorem wm_632 : Cond.fieldLink "StableRiversModel" 93 "StableRiversModel" "at" "I" ∈ px_T := List.mem_filter.mpr ⟨List.mem_of_getElem? (i := 632) (by decide +kernel), by decide +kernel⟩
theorem wm_633 : Cond.fieldLink "StableRiversModel" 90 "StableRiversModel" "faultAt" "I" ∈ px_T := List.mem_filter.mpr ⟨List.mem_of_getElem? (i := 633) (by decide +kernel), by decide +kernel⟩
theorem wm_634 : Cond.fieldLink "StableRiversModel" 46 "StableRiversModel" "flows" "[I" ∈ px_T := List.mem_filter.mpr ⟨List.mem_of_getElem? (i := 634) (by decide +kernel), by decide +kernel⟩
theorem wm_635 : Cond.fieldLink "StableRiversModel" 128 "StableRiversModel" "acts" "I" ∈ px_T := List.mem_filter.mpr ⟨List.mem_of_getElem? (i := 635) (by decide +kernel), by decide +kernel⟩
theorem wm_636 : Cond.fieldLink "StableRiversModel" 155 "StableRiversModel" "next" "I" ∈ px_T := List.mem_filter.mpr ⟨List.mem_of_getElem? (i := 636) (by decide +kernel), by decide +kernel⟩
theorem wm_637 : Cond.fieldLink "StableRiversModel" 49 "StableRiversModel" "row" "[I" ∈ px_T := List.mem_filter.mpr ⟨List.mem_of_getElem? (i := 637) (by decide +kernel), by decide +kernel⟩
theorem wm_638 : Cond.fieldLink "StableRiversModel" 216 "StableRiversModel" "sights" "I" ∈ px_T := List.mem_filter.mpr ⟨List.mem_of_getElem? (i := 638) (by decide +kernel), by decide +kernel⟩
theorem wm_639 : Cond.fieldLink "StableRiversModel" 52 "StableRiversModel" "seenAt" "[I" ∈ px_T := List.mem_filter.mpr ⟨List.mem_of_getElem? (i := 639) (by decide +kernel), by decide +kernel⟩
theorem wm_640 : Cond.fieldLink "StableRiversModel" 55 "StableRiversModel" "seenWhen" "[I" ∈ px_T := List.mem_filter.mpr ⟨List.mem_of_getElem? (i := 640) (by decide +kernel), by decide +kernel⟩
theorem wm_641 : Cond.fieldLink "StableRiversModel" 58 "StableRiversModel" "seenMany" "[I" ∈ px_T := List.mem_filter.mpr ⟨List.mem_of_getElem? (i := 641) (by decide +kernel), by decide +kernel⟩
theorem wm_642 : Cond.fieldLink "StableRiversModel" 61 "StableRiversModel" "tries" "[I" ∈ px_T := List.mem_filter.mpr ⟨List.mem_of_getElem? (i := 642) (by decide +kernel), by decide +kernel⟩
theorem wm_643 : Cond.fieldLink "StableRiversModel" 64 "StableRiversModel" "best" "[I" ∈ px_T := List.mem_filter.mpr ⟨List.mem_of_getElem? (i := 643) (by decide +kernel), by decide +kernel⟩
theorem wm_644 : Cond.fieldLink "StableRiversModel" 67 "StableRiversModel" "moves" "[I" ∈ px_T := List.mem_filter.mpr ⟨List.mem_of_getElem? (i := 644) (by decide +kernel), by decide +kernel⟩
theorem wm_645 : Cond.fieldLink "StableRiversModel" 226 "StableRiversModel" "seed" "J" ∈ px_T := List.mem_filter.mpr ⟨List.mem_of_getElem? (i := 645) (by decide +kernel), by decide +kernel⟩
theorem wm_646 : Cond.fieldLink "StableRiversModel" 70 "StableRiversModel" "isKept" "[Z" ∈ px_T := List.mem_filter.mpr ⟨List.mem_of_getElem? (i := 646) (by decide +kernel), by decide +kernel⟩
theorem wm_647 : Cond.fieldLink "StableRiversModel" 74 "StableRiversModel" "kept" "[I" ∈ px_T := List.mem_filter.mpr ⟨List.mem_of_getElem? (i := 647) (by decide +kernel), by decide +kernel⟩
theorem wm_717 : Cond.arrayClass .boolean ∈ px_T := List.mem_filter.mpr ⟨List.mem_of_getElem? (i := 717) (by decide +kernel), by decide +kernel⟩
theorem wm_718 : Cond.methodLink "StableRiversLaw" 17 yX7_write ∈ px_T := List.mem_filter.mpr ⟨List.mem_of_getElem? (i := 718) (by decide +kernel), by decide +kernel⟩
theorem wm_719 : Cond.instanceMethod yX7_write ∈ px_T := List.mem_filter.mpr ⟨List.mem_of_getElem? (i := 719) (by decide +kernel), by decide +kernel⟩
theorem wm_720 : Cond.selects yX7_write.cls yX7_write yX7_write ∈ px_T := List.mem_filter.mpr ⟨List.mem_of_getElem? (i := 720) (by decide +kernel), by decide +kernel⟩
theorem wm_721 : Cond.code yX7_write cX7_write 2 (some .int) ∈ px_T := List.mem_filter.mpr ⟨List.mem_of_getElem? (i := 721) (by decide +kernel), by decide +kernel⟩
theorem wm_722 : Cond.constantLong "StableRiversModel" 81 (255) ∈ px_T := List.mem_filter.mpr ⟨List.mem_of_getElem? (i := 722) (by decide +kernel), by decide +kernel⟩
theorem wm_723 : Cond.methodLink "StableRiversModel" 83 yX7_in ∈ px_T := List.mem_filter.mpr ⟨List.mem_of_getElem? (i := 723) (by decide +kernel), by decide +kernel⟩
theorem wm_724 : Cond.static yX7_in ∈ px_T := List.mem_filter.mpr ⟨List.mem_of_getElem? (i := 724) (by decide +kernel), by decide +kernel⟩
theorem wm_725 : Cond.code yX7_in cX7_in 6 (some .boolean) ∈ px_T := List.mem_filter.mpr ⟨List.mem_of_getElem? (i := 725) (by decide +kernel), by decide +kernel⟩
theorem wm_726 : Cond.methodLink "StableRiversLaw" 22 yX7_wipe ∈ px_T := List.mem_filter.mpr ⟨List.mem_of_getElem? (i := 726) (by decide +kernel), by decide +kernel⟩
theorem wm_727 : Cond.instanceMethod yX7_wipe ∈ px_T := List.mem_filter.mpr ⟨List.mem_of_getElem? (i := 727) (by decide +kernel), by decide +kernel⟩
theorem wm_728 : Cond.selects yX7_wipe.cls yX7_wipe yX7_wipe ∈ px_T := List.mem_filter.mpr ⟨List.mem_of_getElem? (i := 728) (by decide +kernel), by decide +kernel⟩
theorem wm_729 : Cond.code yX7_wipe cX7_wipe 2 (some .int) ∈ px_T := List.mem_filter.mpr ⟨List.mem_of_getElem? (i := 729) (by decide +kernel), by decide +kernel⟩
theorem wm_730 : Cond.methodLink "StableRiversLaw" 26 yX7_fault ∈ px_T := List.mem_filter.mpr ⟨List.mem_of_getElem? (i := 730) (by decide +kernel), by decide +kernel⟩
theorem wm_731 : Cond.instanceMethod yX7_fault ∈ px_T := List.mem_filter.mpr ⟨List.mem_of_getElem? (i := 731) (by decide +kernel), by decide +kernel⟩
theorem wm_732 : Cond.selects yX7_fault.cls yX7_fault yX7_fault ∈ px_T := List.mem_filter.mpr ⟨List.mem_of_getElem? (i := 732) (by decide +kernel), by decide +kernel⟩
theorem wm_733 : Cond.code yX7_fault cX7_fault 1 (some .int) ∈ px_T := List.mem_filter.mpr ⟨List.mem_of_getElem? (i := 733) (by decide +kernel), by decide +kernel⟩
theorem wm_734 : Cond.methodLink "StableRiversModel" 122 yX7_readText ∈ px_T := List.mem_filter.mpr ⟨List.mem_of_getElem? (i := 734) (by decide +kernel), by decide +kernel⟩
theorem wm_736 : Cond.instanceMethod yX7_readText ∈ px_T := List.mem_filter.mpr ⟨List.mem_of_getElem? (i := 736) (by decide +kernel), by decide +kernel⟩
theorem wm_737 : Cond.code yX7_readText cX7_readText 1 (some .int) ∈ px_T := List.mem_filter.mpr ⟨List.mem_of_getElem? (i := 737) (by decide +kernel), by decide +kernel⟩
theorem wm_738 : Cond.methodLink "StableRiversModel" 111 yX7_readPart ∈ px_T := List.mem_filter.mpr ⟨List.mem_of_getElem? (i := 738) (by decide +kernel), by decide +kernel⟩
theorem wm_740 : Cond.instanceMethod yX7_readPart ∈ px_T := List.mem_filter.mpr ⟨List.mem_of_getElem? (i := 740) (by decide +kernel), by decide +kernel⟩
theorem wm_741 : Cond.code yX7_readPart cX7_readPart 6 (none) ∈ px_T := List.mem_filter.mpr ⟨List.mem_of_getElem? (i := 741) (by decide +kernel), by decide +kernel⟩
theorem wm_742 : Cond.methodLink "StableRiversModel" 115 yX7_figure ∈ px_T := List.mem_filter.mpr ⟨List.mem_of_getElem? (i := 742) (by decide +kernel), by decide +kernel⟩
theorem wm_744 : Cond.instanceMethod yX7_figure ∈ px_T := List.mem_filter.mpr ⟨List.mem_of_getElem? (i := 744) (by decide +kernel), by decide +kernel⟩
theorem wm_745 : Cond.code yX7_figure cX7_figure 3 (some .int) ∈ px_T := List.mem_filter.mpr ⟨List.mem_of_getElem? (i := 745) (by decide +kernel), by decide +kernel⟩
theorem wm_746 : Cond.constantLong "StableRiversModel" 96 (9) ∈ px_T := List.mem_filter.mpr ⟨List.mem_of_getElem? (i := 746) (by decide +kernel), by decide +kernel⟩
theorem wm_747 : Cond.methodLink "StableRiversModel" 118 yX7_begins ∈ px_T := List.mem_filter.mpr ⟨List.mem_of_getElem? (i := 747) (by decide +kernel), by decide +kernel⟩
theorem wm_749 : Cond.instanceMethod yX7_begins ∈ px_T := List.mem_filter.mpr ⟨List.mem_of_getElem? (i := 749) (by decide +kernel), by decide +kernel⟩
theorem wm_750 : Cond.code yX7_begins cX7_begins 3 (some .int) ∈ px_T := List.mem_filter.mpr ⟨List.mem_of_getElem? (i := 750) (by decide +kernel), by decide +kernel⟩
theorem wm_751 : Cond.methodLink "StableRiversModel" 101 yX7_left ∈ px_T := List.mem_filter.mpr ⟨List.mem_of_getElem? (i := 751) (by decide +kernel), by decide +kernel⟩
theorem wm_753 : Cond.instanceMethod yX7_left ∈ px_T := List.mem_filter.mpr ⟨List.mem_of_getElem? (i := 753) (by decide +kernel), by decide +kernel⟩
theorem wm_754 : Cond.code yX7_left cX7_left 2 (some .int) ∈ px_T := List.mem_filter.mpr ⟨List.mem_of_getElem? (i := 754) (by decide +kernel), by decide +kernel⟩
theorem wm_755 : Cond.methodLink "StableRiversLaw" 30 yX7_land ∈ px_T := List.mem_filter.mpr ⟨List.mem_of_getElem? (i := 755) (by decide +kernel), by decide +kernel⟩
theorem wm_756 : Cond.instanceMethod yX7_land ∈ px_T := List.mem_filter.mpr ⟨List.mem_of_getElem? (i := 756) (by decide +kernel), by decide +kernel⟩
theorem wm_757 : Cond.selects yX7_land.cls yX7_land yX7_land ∈ px_T := List.mem_filter.mpr ⟨List.mem_of_getElem? (i := 757) (by decide +kernel), by decide +kernel⟩
theorem wm_758 : Cond.code yX7_land cX7_land 3 (some .int) ∈ px_T := List.mem_filter.mpr ⟨List.mem_of_getElem? (i := 758) (by decide +kernel), by decide +kernel⟩
theorem wm_759 : Cond.methodLink "StableRiversLaw" 35 yX7_place ∈ px_T := List.mem_filter.mpr ⟨List.mem_of_getElem? (i := 759) (by decide +kernel), by decide +kernel⟩
theorem wm_760 : Cond.instanceMethod yX7_place ∈ px_T := List.mem_filter.mpr ⟨List.mem_of_getElem? (i := 760) (by decide +kernel), by decide +kernel⟩
theorem wm_761 : Cond.selects yX7_place.cls yX7_place yX7_place ∈ px_T := List.mem_filter.mpr ⟨List.mem_of_getElem? (i := 761) (by decide +kernel), by decide +kernel⟩
theorem wm_762 : Cond.code yX7_place cX7_place 3 (some .int) ∈ px_T := List.mem_filter.mpr ⟨List.mem_of_getElem? (i := 762) (by decide +kernel), by decide +kernel⟩
theorem wm_763 : Cond.methodLink "StableRiversModel" 135 yX7_isPlace ∈ px_T := List.mem_filter.mpr ⟨List.mem_of_getElem? (i := 763) (by decide +kernel), by decide +kernel⟩
theorem wm_765 : Cond.instanceMethod yX7_isPlace ∈ px_T := List.mem_filter.mpr ⟨List.mem_of_getElem? (i := 765) (by decide +kernel), by decide +kernel⟩
theorem wm_766 : Cond.code yX7_isPlace cX7_isPlace 2 (some .boolean) ∈ px_T := List.mem_filter.mpr ⟨List.mem_of_getElem? (i := 766) (by decide +kernel), by decide +kernel⟩
theorem wm_767 : Cond.methodLink "StableRiversModel" 139 yX7_leastOpen ∈ px_T := List.mem_filter.mpr ⟨List.mem_of_getElem? (i := 767) (by decide +kernel), by decide +kernel⟩
theorem wm_769 : Cond.instanceMethod yX7_leastOpen ∈ px_T := List.mem_filter.mpr ⟨List.mem_of_getElem? (i := 769) (by decide +kernel), by decide +kernel⟩
theorem wm_770 : Cond.code yX7_leastOpen cX7_leastOpen 4 (some .int) ∈ px_T := List.mem_filter.mpr ⟨List.mem_of_getElem? (i := 770) (by decide +kernel), by decide +kernel⟩
theorem wm_771 : Cond.methodLink "StableRiversModel" 131 yX7_has ∈ px_T := List.mem_filter.mpr ⟨List.mem_of_getElem? (i := 771) (by decide +kernel), by decide +kernel⟩
theorem wm_772 : Cond.static yX7_has ∈ px_T := List.mem_filter.mpr ⟨List.mem_of_getElem? (i := 772) (by decide +kernel), by decide +kernel⟩
theorem wm_773 : Cond.code yX7_has cX7_has 2 (some .boolean) ∈ px_T := List.mem_filter.mpr ⟨List.mem_of_getElem? (i := 773) (by decide +kernel), by decide +kernel⟩
theorem wm_774 : Cond.methodLink "StableRiversLaw" 39 yX7_ditch ∈ px_T := List.mem_filter.mpr ⟨List.mem_of_getElem? (i := 774) (by decide +kernel), by decide +kernel⟩
theorem wm_775 : Cond.instanceMethod yX7_ditch ∈ px_T := List.mem_filter.mpr ⟨List.mem_of_getElem? (i := 775) (by decide +kernel), by decide +kernel⟩
theorem wm_776 : Cond.selects yX7_ditch.cls yX7_ditch yX7_ditch ∈ px_T := List.mem_filter.mpr ⟨List.mem_of_getElem? (i := 776) (by decide +kernel), by decide +kernel⟩
theorem wm_777 : Cond.code yX7_ditch cX7_ditch 3 (some .int) ∈ px_T := List.mem_filter.mpr ⟨List.mem_of_getElem? (i := 777) (by decide +kernel), by decide +kernel⟩
theorem wm_778 : Cond.methodLink "StableRiversModel" 143 yX7_isDitch ∈ px_T := List.mem_filter.mpr ⟨List.mem_of_getElem? (i := 778) (by decide +kernel), by decide +kernel⟩
theorem wm_780 : Cond.instanceMethod yX7_isDitch ∈ px_T := List.mem_filter.mpr ⟨List.mem_of_getElem? (i := 780) (by decide +kernel), by decide +kernel⟩
theorem wm_781 : Cond.code yX7_isDitch cX7_isDitch 2 (some .boolean) ∈ px_T := List.mem_filter.mpr ⟨List.mem_of_getElem? (i := 781) (by decide +kernel), by decide +kernel⟩
theorem wm_782 : Cond.methodLink "StableRiversLaw" 43 yX7_hour ∈ px_T := List.mem_filter.mpr ⟨List.mem_of_getElem? (i := 782) (by decide +kernel), by decide +kernel⟩
theorem wm_783 : Cond.instanceMethod yX7_hour ∈ px_T := List.mem_filter.mpr ⟨List.mem_of_getElem? (i := 783) (by decide +kernel), by decide +kernel⟩
theorem wm_784 : Cond.selects yX7_hour.cls yX7_hour yX7_hour ∈ px_T := List.mem_filter.mpr ⟨List.mem_of_getElem? (i := 784) (by decide +kernel), by decide +kernel⟩
theorem wm_785 : Cond.code yX7_hour cX7_hour 1 (some .int) ∈ px_T := List.mem_filter.mpr ⟨List.mem_of_getElem? (i := 785) (by decide +kernel), by decide +kernel⟩
theorem wm_786 : Cond.methodLink "StableRiversModel" 158 yX7_keepAct ∈ px_T := List.mem_filter.mpr ⟨List.mem_of_getElem? (i := 786) (by decide +kernel), by decide +kernel⟩
theorem wm_788 : Cond.instanceMethod yX7_keepAct ∈ px_T := List.mem_filter.mpr ⟨List.mem_of_getElem? (i := 788) (by decide +kernel), by decide +kernel⟩
theorem wm_789 : Cond.code yX7_keepAct cX7_keepAct 2 (none) ∈ px_T := List.mem_filter.mpr ⟨List.mem_of_getElem? (i := 789) (by decide +kernel), by decide +kernel⟩
theorem wm_790 : Cond.methodLink "StableRiversModel" 146 yX7_pass ∈ px_T := List.mem_filter.mpr ⟨List.mem_of_getElem? (i := 790) (by decide +kernel), by decide +kernel⟩
theorem wm_792 : Cond.instanceMethod yX7_pass ∈ px_T := List.mem_filter.mpr ⟨List.mem_of_getElem? (i := 792) (by decide +kernel), by decide +kernel⟩
theorem wm_793 : Cond.code yX7_pass cX7_pass 9 (some .int) ∈ px_T := List.mem_filter.mpr ⟨List.mem_of_getElem? (i := 793) (by decide +kernel), by decide +kernel⟩
theorem wm_794 : Cond.methodLink "StableRiversLaw" 47 yX7_turn ∈ px_T := List.mem_filter.mpr ⟨List.mem_of_getElem? (i := 794) (by decide +kernel), by decide +kernel⟩
theorem wm_795 : Cond.instanceMethod yX7_turn ∈ px_T := List.mem_filter.mpr ⟨List.mem_of_getElem? (i := 795) (by decide +kernel), by decide +kernel⟩
theorem wm_796 : Cond.selects yX7_turn.cls yX7_turn yX7_turn ∈ px_T := List.mem_filter.mpr ⟨List.mem_of_getElem? (i := 796) (by decide +kernel), by decide +kernel⟩
theorem wm_797 : Cond.code yX7_turn cX7_turn 2 (some .int) ∈ px_T := List.mem_filter.mpr ⟨List.mem_of_getElem? (i := 797) (by decide +kernel), by decide +kernel⟩
theorem wm_798 : Cond.methodLink "StableRiversLaw" 51 yX7_rain ∈ px_T := List.mem_filter.mpr ⟨List.mem_of_getElem? (i := 798) (by decide +kernel), by decide +kernel⟩
theorem wm_799 : Cond.instanceMethod yX7_rain ∈ px_T := List.mem_filter.mpr ⟨List.mem_of_getElem? (i := 799) (by decide +kernel), by decide +kernel⟩
theorem wm_800 : Cond.selects yX7_rain.cls yX7_rain yX7_rain ∈ px_T := List.mem_filter.mpr ⟨List.mem_of_getElem? (i := 800) (by decide +kernel), by decide +kernel⟩
theorem wm_801 : Cond.code yX7_rain cX7_rain 3 (some .int) ∈ px_T := List.mem_filter.mpr ⟨List.mem_of_getElem? (i := 801) (by decide +kernel), by decide +kernel⟩
theorem wm_802 : Cond.methodLink "StableRiversLaw" 55 yX7_undo ∈ px_T := List.mem_filter.mpr ⟨List.mem_of_getElem? (i := 802) (by decide +kernel), by decide +kernel⟩
theorem wm_803 : Cond.instanceMethod yX7_undo ∈ px_T := List.mem_filter.mpr ⟨List.mem_of_getElem? (i := 803) (by decide +kernel), by decide +kernel⟩
theorem wm_804 : Cond.selects yX7_undo.cls yX7_undo yX7_undo ∈ px_T := List.mem_filter.mpr ⟨List.mem_of_getElem? (i := 804) (by decide +kernel), by decide +kernel⟩
theorem wm_805 : Cond.code yX7_undo cX7_undo 2 (some .int) ∈ px_T := List.mem_filter.mpr ⟨List.mem_of_getElem? (i := 805) (by decide +kernel), by decide +kernel⟩
theorem wm_806 : Cond.methodLink "StableRiversLaw" 59 yX7_judge ∈ px_T := List.mem_filter.mpr ⟨List.mem_of_getElem? (i := 806) (by decide +kernel), by decide +kernel⟩
theorem wm_807 : Cond.instanceMethod yX7_judge ∈ px_T := List.mem_filter.mpr ⟨List.mem_of_getElem? (i := 807) (by decide +kernel), by decide +kernel⟩
theorem wm_808 : Cond.selects yX7_judge.cls yX7_judge yX7_judge ∈ px_T := List.mem_filter.mpr ⟨List.mem_of_getElem? (i := 808) (by decide +kernel), by decide +kernel⟩
theorem wm_809 : Cond.code yX7_judge cX7_judge 6 (some .int) ∈ px_T := List.mem_filter.mpr ⟨List.mem_of_getElem? (i := 809) (by decide +kernel), by decide +kernel⟩
theorem wm_810 : Cond.constantLong "StableRiversModel" 161 (8) ∈ px_T := List.mem_filter.mpr ⟨List.mem_of_getElem? (i := 810) (by decide +kernel), by decide +kernel⟩
theorem wm_811 : Cond.methodLink "StableRiversModel" 163 yX7_tenTo ∈ px_T := List.mem_filter.mpr ⟨List.mem_of_getElem? (i := 811) (by decide +kernel), by decide +kernel⟩
theorem wm_812 : Cond.static yX7_tenTo ∈ px_T := List.mem_filter.mpr ⟨List.mem_of_getElem? (i := 812) (by decide +kernel), by decide +kernel⟩
theorem wm_813 : Cond.code yX7_tenTo cX7_tenTo 3 (some .int) ∈ px_T := List.mem_filter.mpr ⟨List.mem_of_getElem? (i := 813) (by decide +kernel), by decide +kernel⟩
theorem wm_814 : Cond.methodLink "StableRiversModel" 166 yX7_lay ∈ px_T := List.mem_filter.mpr ⟨List.mem_of_getElem? (i := 814) (by decide +kernel), by decide +kernel⟩
theorem wm_816 : Cond.instanceMethod yX7_lay ∈ px_T := List.mem_filter.mpr ⟨List.mem_of_getElem? (i := 816) (by decide +kernel), by decide +kernel⟩
theorem wm_817 : Cond.code yX7_lay cX7_lay 4 (none) ∈ px_T := List.mem_filter.mpr ⟨List.mem_of_getElem? (i := 817) (by decide +kernel), by decide +kernel⟩
theorem wm_818 : Cond.methodLink "StableRiversModel" 152 yX7_wet ∈ px_T := List.mem_filter.mpr ⟨List.mem_of_getElem? (i := 818) (by decide +kernel), by decide +kernel⟩
theorem wm_820 : Cond.instanceMethod yX7_wet ∈ px_T := List.mem_filter.mpr ⟨List.mem_of_getElem? (i := 820) (by decide +kernel), by decide +kernel⟩
theorem wm_821 : Cond.code yX7_wet cX7_wet 4 (some .int) ∈ px_T := List.mem_filter.mpr ⟨List.mem_of_getElem? (i := 821) (by decide +kernel), by decide +kernel⟩
theorem wm_822 : Cond.methodLink "StableRiversLaw" 64 yX7_behind ∈ px_T := List.mem_filter.mpr ⟨List.mem_of_getElem? (i := 822) (by decide +kernel), by decide +kernel⟩
theorem wm_823 : Cond.instanceMethod yX7_behind ∈ px_T := List.mem_filter.mpr ⟨List.mem_of_getElem? (i := 823) (by decide +kernel), by decide +kernel⟩
theorem wm_824 : Cond.selects yX7_behind.cls yX7_behind yX7_behind ∈ px_T := List.mem_filter.mpr ⟨List.mem_of_getElem? (i := 824) (by decide +kernel), by decide +kernel⟩
theorem wm_825 : Cond.code yX7_behind cX7_behind 4 (some .int) ∈ px_T := List.mem_filter.mpr ⟨List.mem_of_getElem? (i := 825) (by decide +kernel), by decide +kernel⟩
theorem wm_826 : Cond.constantLong "StableRiversModel" 170 (12) ∈ px_T := List.mem_filter.mpr ⟨List.mem_of_getElem? (i := 826) (by decide +kernel), by decide +kernel⟩
theorem wm_827 : Cond.methodLink "StableRiversModel" 172 yX7_passes ∈ px_T := List.mem_filter.mpr ⟨List.mem_of_getElem? (i := 827) (by decide +kernel), by decide +kernel⟩
theorem wm_829 : Cond.instanceMethod yX7_passes ∈ px_T := List.mem_filter.mpr ⟨List.mem_of_getElem? (i := 829) (by decide +kernel), by decide +kernel⟩
theorem wm_830 : Cond.code yX7_passes cX7_passes 5 (none) ∈ px_T := List.mem_filter.mpr ⟨List.mem_of_getElem? (i := 830) (by decide +kernel), by decide +kernel⟩
theorem wm_831 : Cond.methodLink "StableRiversLaw" 68 yX7_by ∈ px_T := List.mem_filter.mpr ⟨List.mem_of_getElem? (i := 831) (by decide +kernel), by decide +kernel⟩
theorem wm_832 : Cond.instanceMethod yX7_by ∈ px_T := List.mem_filter.mpr ⟨List.mem_of_getElem? (i := 832) (by decide +kernel), by decide +kernel⟩
theorem wm_833 : Cond.selects yX7_by.cls yX7_by yX7_by ∈ px_T := List.mem_filter.mpr ⟨List.mem_of_getElem? (i := 833) (by decide +kernel), by decide +kernel⟩
theorem wm_834 : Cond.code yX7_by cX7_by 4 (some .int) ∈ px_T := List.mem_filter.mpr ⟨List.mem_of_getElem? (i := 834) (by decide +kernel), by decide +kernel⟩
theorem wm_835 : Cond.constantLong "StableRiversModel" 176 (3) ∈ px_T := List.mem_filter.mpr ⟨List.mem_of_getElem? (i := 835) (by decide +kernel), by decide +kernel⟩
theorem wm_836 : Cond.methodLink "StableRiversModel" 178 yX7_run ∈ px_T := List.mem_filter.mpr ⟨List.mem_of_getElem? (i := 836) (by decide +kernel), by decide +kernel⟩
theorem wm_838 : Cond.instanceMethod yX7_run ∈ px_T := List.mem_filter.mpr ⟨List.mem_of_getElem? (i := 838) (by decide +kernel), by decide +kernel⟩
theorem wm_839 : Cond.code yX7_run cX7_run 3 (none) ∈ px_T := List.mem_filter.mpr ⟨List.mem_of_getElem? (i := 839) (by decide +kernel), by decide +kernel⟩
theorem wm_840 : Cond.methodLink "StableRiversModel" 149 yX7_allDung ∈ px_T := List.mem_filter.mpr ⟨List.mem_of_getElem? (i := 840) (by decide +kernel), by decide +kernel⟩
theorem wm_842 : Cond.instanceMethod yX7_allDung ∈ px_T := List.mem_filter.mpr ⟨List.mem_of_getElem? (i := 842) (by decide +kernel), by decide +kernel⟩
theorem wm_843 : Cond.code yX7_allDung cX7_allDung 4 (some .int) ∈ px_T := List.mem_filter.mpr ⟨List.mem_of_getElem? (i := 843) (by decide +kernel), by decide +kernel⟩
theorem wm_844 : Cond.methodLink "StableRiversModel" 181 yX7_worth ∈ px_T := List.mem_filter.mpr ⟨List.mem_of_getElem? (i := 844) (by decide +kernel), by decide +kernel⟩
theorem wm_846 : Cond.instanceMethod yX7_worth ∈ px_T := List.mem_filter.mpr ⟨List.mem_of_getElem? (i := 846) (by decide +kernel), by decide +kernel⟩
theorem wm_847 : Cond.code yX7_worth cX7_worth 4 (some .int) ∈ px_T := List.mem_filter.mpr ⟨List.mem_of_getElem? (i := 847) (by decide +kernel), by decide +kernel⟩
theorem wm_848 : Cond.methodLink "StableRiversModel" 184 yX7_does ∈ px_T := List.mem_filter.mpr ⟨List.mem_of_getElem? (i := 848) (by decide +kernel), by decide +kernel⟩
theorem wm_850 : Cond.instanceMethod yX7_does ∈ px_T := List.mem_filter.mpr ⟨List.mem_of_getElem? (i := 850) (by decide +kernel), by decide +kernel⟩
theorem wm_851 : Cond.code yX7_does cX7_does 2 (some .boolean) ∈ px_T := List.mem_filter.mpr ⟨List.mem_of_getElem? (i := 851) (by decide +kernel), by decide +kernel⟩
theorem wm_852 : Cond.methodLink "StableRiversLaw" 73 yX7_once ∈ px_T := List.mem_filter.mpr ⟨List.mem_of_getElem? (i := 852) (by decide +kernel), by decide +kernel⟩
theorem wm_853 : Cond.instanceMethod yX7_once ∈ px_T := List.mem_filter.mpr ⟨List.mem_of_getElem? (i := 853) (by decide +kernel), by decide +kernel⟩
theorem wm_854 : Cond.selects yX7_once.cls yX7_once yX7_once ∈ px_T := List.mem_filter.mpr ⟨List.mem_of_getElem? (i := 854) (by decide +kernel), by decide +kernel⟩
theorem wm_855 : Cond.code yX7_once cX7_once 4 (some .int) ∈ px_T := List.mem_filter.mpr ⟨List.mem_of_getElem? (i := 855) (by decide +kernel), by decide +kernel⟩
theorem wm_856 : Cond.methodLink "StableRiversModel" 193 yX7_onceBy ∈ px_T := List.mem_filter.mpr ⟨List.mem_of_getElem? (i := 856) (by decide +kernel), by decide +kernel⟩
theorem wm_858 : Cond.instanceMethod yX7_onceBy ∈ px_T := List.mem_filter.mpr ⟨List.mem_of_getElem? (i := 858) (by decide +kernel), by decide +kernel⟩
theorem wm_859 : Cond.code yX7_onceBy cX7_onceBy 7 (some .int) ∈ px_T := List.mem_filter.mpr ⟨List.mem_of_getElem? (i := 859) (by decide +kernel), by decide +kernel⟩
theorem wm_860 : Cond.methodLink "StableRiversModel" 190 yX7_turned ∈ px_T := List.mem_filter.mpr ⟨List.mem_of_getElem? (i := 860) (by decide +kernel), by decide +kernel⟩
theorem wm_862 : Cond.instanceMethod yX7_turned ∈ px_T := List.mem_filter.mpr ⟨List.mem_of_getElem? (i := 862) (by decide +kernel), by decide +kernel⟩
theorem wm_863 : Cond.code yX7_turned cX7_turned 2 (some .int) ∈ px_T := List.mem_filter.mpr ⟨List.mem_of_getElem? (i := 863) (by decide +kernel), by decide +kernel⟩
theorem wm_864 : Cond.methodLink "StableRiversModel" 187 yX7_ones ∈ px_T := List.mem_filter.mpr ⟨List.mem_of_getElem? (i := 864) (by decide +kernel), by decide +kernel⟩
theorem wm_865 : Cond.static yX7_ones ∈ px_T := List.mem_filter.mpr ⟨List.mem_of_getElem? (i := 865) (by decide +kernel), by decide +kernel⟩
theorem wm_866 : Cond.code yX7_ones cX7_ones 3 (some .int) ∈ px_T := List.mem_filter.mpr ⟨List.mem_of_getElem? (i := 866) (by decide +kernel), by decide +kernel⟩
theorem wm_867 : Cond.methodLink "StableRiversLaw" 77 yX7_twice ∈ px_T := List.mem_filter.mpr ⟨List.mem_of_getElem? (i := 867) (by decide +kernel), by decide +kernel⟩
theorem wm_868 : Cond.instanceMethod yX7_twice ∈ px_T := List.mem_filter.mpr ⟨List.mem_of_getElem? (i := 868) (by decide +kernel), by decide +kernel⟩
theorem wm_869 : Cond.selects yX7_twice.cls yX7_twice yX7_twice ∈ px_T := List.mem_filter.mpr ⟨List.mem_of_getElem? (i := 869) (by decide +kernel), by decide +kernel⟩
theorem wm_870 : Cond.code yX7_twice cX7_twice 7 (some .int) ∈ px_T := List.mem_filter.mpr ⟨List.mem_of_getElem? (i := 870) (by decide +kernel), by decide +kernel⟩
theorem wm_871 : Cond.methodLink "StableRiversLaw" 81 yX7_richest ∈ px_T := List.mem_filter.mpr ⟨List.mem_of_getElem? (i := 871) (by decide +kernel), by decide +kernel⟩
theorem wm_872 : Cond.instanceMethod yX7_richest ∈ px_T := List.mem_filter.mpr ⟨List.mem_of_getElem? (i := 872) (by decide +kernel), by decide +kernel⟩
theorem wm_873 : Cond.selects yX7_richest.cls yX7_richest yX7_richest ∈ px_T := List.mem_filter.mpr ⟨List.mem_of_getElem? (i := 873) (by decide +kernel), by decide +kernel⟩
theorem wm_874 : Cond.code yX7_richest cX7_richest 6 (some .int) ∈ px_T := List.mem_filter.mpr ⟨List.mem_of_getElem? (i := 874) (by decide +kernel), by decide +kernel⟩
theorem wm_875 : Cond.methodLink "StableRiversLaw" 85 yX7_barred ∈ px_T := List.mem_filter.mpr ⟨List.mem_of_getElem? (i := 875) (by decide +kernel), by decide +kernel⟩
theorem wm_876 : Cond.instanceMethod yX7_barred ∈ px_T := List.mem_filter.mpr ⟨List.mem_of_getElem? (i := 876) (by decide +kernel), by decide +kernel⟩
theorem wm_877 : Cond.selects yX7_barred.cls yX7_barred yX7_barred ∈ px_T := List.mem_filter.mpr ⟨List.mem_of_getElem? (i := 877) (by decide +kernel), by decide +kernel⟩
theorem wm_878 : Cond.code yX7_barred cX7_barred 5 (some .int) ∈ px_T := List.mem_filter.mpr ⟨List.mem_of_getElem? (i := 878) (by decide +kernel), by decide +kernel⟩
theorem wm_879 : Cond.methodLink "StableRiversLaw" 89 yX7_free ∈ px_T := List.mem_filter.mpr ⟨List.mem_of_getElem? (i := 879) (by decide +kernel), by decide +kernel⟩
theorem wm_880 : Cond.instanceMethod yX7_free ∈ px_T := List.mem_filter.mpr ⟨List.mem_of_getElem? (i := 880) (by decide +kernel), by decide +kernel⟩
theorem wm_881 : Cond.selects yX7_free.cls yX7_free yX7_free ∈ px_T := List.mem_filter.mpr ⟨List.mem_of_getElem? (i := 881) (by decide +kernel), by decide +kernel⟩
theorem wm_882 : Cond.code yX7_free cX7_free 5 (some .int) ∈ px_T := List.mem_filter.mpr ⟨List.mem_of_getElem? (i := 882) (by decide +kernel), by decide +kernel⟩
theorem wm_883 : Cond.methodLink "StableRiversLaw" 93 yX7_stuck ∈ px_T := List.mem_filter.mpr ⟨List.mem_of_getElem? (i := 883) (by decide +kernel), by decide +kernel⟩
theorem wm_884 : Cond.instanceMethod yX7_stuck ∈ px_T := List.mem_filter.mpr ⟨List.mem_of_getElem? (i := 884) (by decide +kernel), by decide +kernel⟩
theorem wm_885 : Cond.selects yX7_stuck.cls yX7_stuck yX7_stuck ∈ px_T := List.mem_filter.mpr ⟨List.mem_of_getElem? (i := 885) (by decide +kernel), by decide +kernel⟩
theorem wm_886 : Cond.code yX7_stuck cX7_stuck 5 (some .int) ∈ px_T := List.mem_filter.mpr ⟨List.mem_of_getElem? (i := 886) (by decide +kernel), by decide +kernel⟩
theorem wm_887 : Cond.methodLink "StableRiversLaw" 98 yX7_share ∈ px_T := List.mem_filter.mpr ⟨List.mem_of_getElem? (i := 887) (by decide +kernel), by decide +kernel⟩
theorem wm_888 : Cond.instanceMethod yX7_share ∈ px_T := List.mem_filter.mpr ⟨List.mem_of_getElem? (i := 888) (by decide +kernel), by decide +kernel⟩
theorem wm_889 : Cond.selects yX7_share.cls yX7_share yX7_share ∈ px_T := List.mem_filter.mpr ⟨List.mem_of_getElem? (i := 889) (by decide +kernel), by decide +kernel⟩
theorem wm_890 : Cond.code yX7_share cX7_share 8 (some .int) ∈ px_T := List.mem_filter.mpr ⟨List.mem_of_getElem? (i := 890) (by decide +kernel), by decide +kernel⟩
theorem wm_891 : Cond.methodLink "StableRiversModel" 196 yX7_dams ∈ px_T := List.mem_filter.mpr ⟨List.mem_of_getElem? (i := 891) (by decide +kernel), by decide +kernel⟩
theorem wm_893 : Cond.instanceMethod yX7_dams ∈ px_T := List.mem_filter.mpr ⟨List.mem_of_getElem? (i := 893) (by decide +kernel), by decide +kernel⟩
theorem wm_894 : Cond.code yX7_dams cX7_dams 3 (some .int) ∈ px_T := List.mem_filter.mpr ⟨List.mem_of_getElem? (i := 894) (by decide +kernel), by decide +kernel⟩
theorem wm_895 : Cond.methodLink "StableRiversModel" 199 yX7_factorial ∈ px_T := List.mem_filter.mpr ⟨List.mem_of_getElem? (i := 895) (by decide +kernel), by decide +kernel⟩
theorem wm_896 : Cond.static yX7_factorial ∈ px_T := List.mem_filter.mpr ⟨List.mem_of_getElem? (i := 896) (by decide +kernel), by decide +kernel⟩
theorem wm_897 : Cond.code yX7_factorial cX7_factorial 3 (some .int) ∈ px_T := List.mem_filter.mpr ⟨List.mem_of_getElem? (i := 897) (by decide +kernel), by decide +kernel⟩
theorem wm_898 : Cond.methodLink "StableRiversModel" 202 yX7_dungBy ∈ px_T := List.mem_filter.mpr ⟨List.mem_of_getElem? (i := 898) (by decide +kernel), by decide +kernel⟩
theorem wm_900 : Cond.instanceMethod yX7_dungBy ∈ px_T := List.mem_filter.mpr ⟨List.mem_of_getElem? (i := 900) (by decide +kernel), by decide +kernel⟩
theorem wm_901 : Cond.code yX7_dungBy cX7_dungBy 3 (some .int) ∈ px_T := List.mem_filter.mpr ⟨List.mem_of_getElem? (i := 901) (by decide +kernel), by decide +kernel⟩
theorem wm_902 : Cond.methodLink "StableRiversModel" 205 yX7_common ∈ px_T := List.mem_filter.mpr ⟨List.mem_of_getElem? (i := 902) (by decide +kernel), by decide +kernel⟩
theorem wm_903 : Cond.static yX7_common ∈ px_T := List.mem_filter.mpr ⟨List.mem_of_getElem? (i := 903) (by decide +kernel), by decide +kernel⟩
theorem wm_904 : Cond.code yX7_common cX7_common 5 (some .int) ∈ px_T := List.mem_filter.mpr ⟨List.mem_of_getElem? (i := 904) (by decide +kernel), by decide +kernel⟩
theorem wm_905 : Cond.methodLink "StableRiversLaw" 102 yX7_chance ∈ px_T := List.mem_filter.mpr ⟨List.mem_of_getElem? (i := 905) (by decide +kernel), by decide +kernel⟩
theorem wm_906 : Cond.instanceMethod yX7_chance ∈ px_T := List.mem_filter.mpr ⟨List.mem_of_getElem? (i := 906) (by decide +kernel), by decide +kernel⟩
theorem wm_907 : Cond.selects yX7_chance.cls yX7_chance yX7_chance ∈ px_T := List.mem_filter.mpr ⟨List.mem_of_getElem? (i := 907) (by decide +kernel), by decide +kernel⟩
theorem wm_908 : Cond.code yX7_chance cX7_chance 6 (some .int) ∈ px_T := List.mem_filter.mpr ⟨List.mem_of_getElem? (i := 908) (by decide +kernel), by decide +kernel⟩
theorem wm_909 : Cond.constantLong "StableRiversModel" 208 (10) ∈ px_T := List.mem_filter.mpr ⟨List.mem_of_getElem? (i := 909) (by decide +kernel), by decide +kernel⟩
theorem wm_910 : Cond.methodLink "StableRiversModel" 210 yX7_parts ∈ px_T := List.mem_filter.mpr ⟨List.mem_of_getElem? (i := 910) (by decide +kernel), by decide +kernel⟩
theorem wm_912 : Cond.instanceMethod yX7_parts ∈ px_T := List.mem_filter.mpr ⟨List.mem_of_getElem? (i := 912) (by decide +kernel), by decide +kernel⟩
theorem wm_913 : Cond.code yX7_parts cX7_parts 8 (some .int) ∈ px_T := List.mem_filter.mpr ⟨List.mem_of_getElem? (i := 913) (by decide +kernel), by decide +kernel⟩
theorem wm_914 : Cond.methodLink "StableRiversLaw" 106 yX7_mean ∈ px_T := List.mem_filter.mpr ⟨List.mem_of_getElem? (i := 914) (by decide +kernel), by decide +kernel⟩
theorem wm_915 : Cond.instanceMethod yX7_mean ∈ px_T := List.mem_filter.mpr ⟨List.mem_of_getElem? (i := 915) (by decide +kernel), by decide +kernel⟩
theorem wm_916 : Cond.selects yX7_mean.cls yX7_mean yX7_mean ∈ px_T := List.mem_filter.mpr ⟨List.mem_of_getElem? (i := 916) (by decide +kernel), by decide +kernel⟩
theorem wm_917 : Cond.code yX7_mean cX7_mean 6 (some .int) ∈ px_T := List.mem_filter.mpr ⟨List.mem_of_getElem? (i := 917) (by decide +kernel), by decide +kernel⟩
theorem wm_918 : Cond.methodLink "StableRiversLaw" 110 yX7_see ∈ px_T := List.mem_filter.mpr ⟨List.mem_of_getElem? (i := 918) (by decide +kernel), by decide +kernel⟩
theorem wm_919 : Cond.instanceMethod yX7_see ∈ px_T := List.mem_filter.mpr ⟨List.mem_of_getElem? (i := 919) (by decide +kernel), by decide +kernel⟩
theorem wm_920 : Cond.selects yX7_see.cls yX7_see yX7_see ∈ px_T := List.mem_filter.mpr ⟨List.mem_of_getElem? (i := 920) (by decide +kernel), by decide +kernel⟩
theorem wm_921 : Cond.code yX7_see cX7_see 4 (some .int) ∈ px_T := List.mem_filter.mpr ⟨List.mem_of_getElem? (i := 921) (by decide +kernel), by decide +kernel⟩
theorem wm_922 : Cond.constantLong "StableRiversModel" 214 (99) ∈ px_T := List.mem_filter.mpr ⟨List.mem_of_getElem? (i := 922) (by decide +kernel), by decide +kernel⟩
theorem wm_923 : Cond.methodLink "StableRiversLaw" 114 yX7_unsee ∈ px_T := List.mem_filter.mpr ⟨List.mem_of_getElem? (i := 923) (by decide +kernel), by decide +kernel⟩
theorem wm_924 : Cond.instanceMethod yX7_unsee ∈ px_T := List.mem_filter.mpr ⟨List.mem_of_getElem? (i := 924) (by decide +kernel), by decide +kernel⟩
theorem wm_925 : Cond.selects yX7_unsee.cls yX7_unsee yX7_unsee ∈ px_T := List.mem_filter.mpr ⟨List.mem_of_getElem? (i := 925) (by decide +kernel), by decide +kernel⟩
theorem wm_926 : Cond.code yX7_unsee cX7_unsee 2 (some .int) ∈ px_T := List.mem_filter.mpr ⟨List.mem_of_getElem? (i := 926) (by decide +kernel), by decide +kernel⟩
theorem wm_927 : Cond.methodLink "StableRiversLaw" 118 yX7_fit ∈ px_T := List.mem_filter.mpr ⟨List.mem_of_getElem? (i := 927) (by decide +kernel), by decide +kernel⟩
theorem wm_928 : Cond.instanceMethod yX7_fit ∈ px_T := List.mem_filter.mpr ⟨List.mem_of_getElem? (i := 928) (by decide +kernel), by decide +kernel⟩
theorem wm_929 : Cond.selects yX7_fit.cls yX7_fit yX7_fit ∈ px_T := List.mem_filter.mpr ⟨List.mem_of_getElem? (i := 929) (by decide +kernel), by decide +kernel⟩
theorem wm_930 : Cond.code yX7_fit cX7_fit 6 (some .int) ∈ px_T := List.mem_filter.mpr ⟨List.mem_of_getElem? (i := 930) (by decide +kernel), by decide +kernel⟩
theorem wm_931 : Cond.constantLong "StableRiversModel" 219 (2) ∈ px_T := List.mem_filter.mpr ⟨List.mem_of_getElem? (i := 931) (by decide +kernel), by decide +kernel⟩
theorem wm_932 : Cond.methodLink "StableRiversModel" 221 yX7_isSeen ∈ px_T := List.mem_filter.mpr ⟨List.mem_of_getElem? (i := 932) (by decide +kernel), by decide +kernel⟩
theorem wm_934 : Cond.instanceMethod yX7_isSeen ∈ px_T := List.mem_filter.mpr ⟨List.mem_of_getElem? (i := 934) (by decide +kernel), by decide +kernel⟩
theorem wm_935 : Cond.code yX7_isSeen cX7_isSeen 4 (some .boolean) ∈ px_T := List.mem_filter.mpr ⟨List.mem_of_getElem? (i := 935) (by decide +kernel), by decide +kernel⟩
theorem wm_936 : Cond.methodLink "StableRiversLaw" 122 yX7_kings ∈ px_T := List.mem_filter.mpr ⟨List.mem_of_getElem? (i := 936) (by decide +kernel), by decide +kernel⟩
theorem wm_937 : Cond.instanceMethod yX7_kings ∈ px_T := List.mem_filter.mpr ⟨List.mem_of_getElem? (i := 937) (by decide +kernel), by decide +kernel⟩
theorem wm_938 : Cond.selects yX7_kings.cls yX7_kings yX7_kings ∈ px_T := List.mem_filter.mpr ⟨List.mem_of_getElem? (i := 938) (by decide +kernel), by decide +kernel⟩
theorem wm_939 : Cond.code yX7_kings cX7_kings 7 (some .int) ∈ px_T := List.mem_filter.mpr ⟨List.mem_of_getElem? (i := 939) (by decide +kernel), by decide +kernel⟩
theorem wm_940 : Cond.constantLong "StableRiversModel" 224 (4) ∈ px_T := List.mem_filter.mpr ⟨List.mem_of_getElem? (i := 940) (by decide +kernel), by decide +kernel⟩
theorem wm_941 : Cond.methodLink "StableRiversLaw" 129 yX7_seed ∈ px_T := List.mem_filter.mpr ⟨List.mem_of_getElem? (i := 941) (by decide +kernel), by decide +kernel⟩
theorem wm_942 : Cond.instanceMethod yX7_seed ∈ px_T := List.mem_filter.mpr ⟨List.mem_of_getElem? (i := 942) (by decide +kernel), by decide +kernel⟩
theorem wm_943 : Cond.selects yX7_seed.cls yX7_seed yX7_seed ∈ px_T := List.mem_filter.mpr ⟨List.mem_of_getElem? (i := 943) (by decide +kernel), by decide +kernel⟩
theorem wm_944 : Cond.code yX7_seed cX7_seed 5 (some .long) ∈ px_T := List.mem_filter.mpr ⟨List.mem_of_getElem? (i := 944) (by decide +kernel), by decide +kernel⟩
theorem wm_945 : Cond.methodLink "StableRiversLaw" 133 yX7_days ∈ px_T := List.mem_filter.mpr ⟨List.mem_of_getElem? (i := 945) (by decide +kernel), by decide +kernel⟩
theorem wm_946 : Cond.instanceMethod yX7_days ∈ px_T := List.mem_filter.mpr ⟨List.mem_of_getElem? (i := 946) (by decide +kernel), by decide +kernel⟩
theorem wm_947 : Cond.selects yX7_days.cls yX7_days yX7_days ∈ px_T := List.mem_filter.mpr ⟨List.mem_of_getElem? (i := 947) (by decide +kernel), by decide +kernel⟩
theorem wm_948 : Cond.code yX7_days cX7_days 4 (some .int) ∈ px_T := List.mem_filter.mpr ⟨List.mem_of_getElem? (i := 948) (by decide +kernel), by decide +kernel⟩
theorem wm_949 : Cond.constantLong "StableRiversModel" 230 (40) ∈ px_T := List.mem_filter.mpr ⟨List.mem_of_getElem? (i := 949) (by decide +kernel), by decide +kernel⟩
theorem wm_950 : Cond.constantLong "StableRiversModel" 232 (6364136223846793005) ∈ px_T := List.mem_filter.mpr ⟨List.mem_of_getElem? (i := 950) (by decide +kernel), by decide +kernel⟩
theorem wm_951 : Cond.constantLong "StableRiversModel" 234 (1442695040888963407) ∈ px_T := List.mem_filter.mpr ⟨List.mem_of_getElem? (i := 951) (by decide +kernel), by decide +kernel⟩
theorem wm_952 : Cond.methodLink "StableRiversLaw" 137 yX7_keep ∈ px_T := List.mem_filter.mpr ⟨List.mem_of_getElem? (i := 952) (by decide +kernel), by decide +kernel⟩
theorem wm_953 : Cond.instanceMethod yX7_keep ∈ px_T := List.mem_filter.mpr ⟨List.mem_of_getElem? (i := 953) (by decide +kernel), by decide +kernel⟩
theorem wm_954 : Cond.selects yX7_keep.cls yX7_keep yX7_keep ∈ px_T := List.mem_filter.mpr ⟨List.mem_of_getElem? (i := 954) (by decide +kernel), by decide +kernel⟩
theorem wm_955 : Cond.code yX7_keep cX7_keep 3 (some .int) ∈ px_T := List.mem_filter.mpr ⟨List.mem_of_getElem? (i := 955) (by decide +kernel), by decide +kernel⟩
theorem wm_956 : Cond.methodLink "StableRiversLaw" 141 yX7_again ∈ px_T := List.mem_filter.mpr ⟨List.mem_of_getElem? (i := 956) (by decide +kernel), by decide +kernel⟩
theorem wm_957 : Cond.instanceMethod yX7_again ∈ px_T := List.mem_filter.mpr ⟨List.mem_of_getElem? (i := 957) (by decide +kernel), by decide +kernel⟩
theorem wm_958 : Cond.selects yX7_again.cls yX7_again yX7_again ∈ px_T := List.mem_filter.mpr ⟨List.mem_of_getElem? (i := 958) (by decide +kernel), by decide +kernel⟩
theorem wm_959 : Cond.code yX7_again cX7_again 3 (some .int) ∈ px_T := List.mem_filter.mpr ⟨List.mem_of_getElem? (i := 959) (by decide +kernel), by decide +kernel⟩
theorem wm_960 : Cond.methodLink "StableRiversLaw" 145 yX7_count ∈ px_T := List.mem_filter.mpr ⟨List.mem_of_getElem? (i := 960) (by decide +kernel), by decide +kernel⟩
theorem wm_961 : Cond.instanceMethod yX7_count ∈ px_T := List.mem_filter.mpr ⟨List.mem_of_getElem? (i := 961) (by decide +kernel), by decide +kernel⟩
theorem wm_962 : Cond.selects yX7_count.cls yX7_count yX7_count ∈ px_T := List.mem_filter.mpr ⟨List.mem_of_getElem? (i := 962) (by decide +kernel), by decide +kernel⟩
theorem wm_963 : Cond.code yX7_count cX7_count 4 (some .int) ∈ px_T := List.mem_filter.mpr ⟨List.mem_of_getElem? (i := 963) (by decide +kernel), by decide +kernel⟩
theorem wm_964 : Cond.constantLong "StableRiversLaw" 123 (4294967295) ∈ px_T := List.mem_filter.mpr ⟨List.mem_of_getElem? (i := 964) (by decide +kernel), by decide +kernel⟩
theorem wu_X0 : ∀ w ∈ u_ws RX0 TX0 2, w ∈ px_T := by decide +kernel
theorem wu_X1 : ∀ w ∈ u_ws RX1 TX1 8, w ∈ px_T := by decide +kernel
theorem wu_X2 : ∀ w ∈ u_ws RX2 TX2 3, w ∈ px_T := by decide +kernel
theorem wu_X3 : ∀ w ∈ u_ws RX3 TX3 5, w ∈ px_T := by decide +kernel
theorem wu_X4 : ∀ w ∈ u_ws RX4 TX4 4, w ∈ px_T := by decide +kernel
theorem wu_X5 : ∀ w ∈ u_ws RX5 TX5 1, w ∈ px_T := by decide +kernel
theorem wu_X6 : ∀ w ∈ u_ws RX6 TX6 16, w ∈ px_T := by decide +kernel
theorem wu_X7 : ∀ w ∈ u_ws RX7 TX7 34, w ∈ px_T := by decide +kernel
