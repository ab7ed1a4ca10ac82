theorem wd_0 : Cond.selects RX5 yX5_madeOurs yX5_madeOurs ∈ TBL := List.mem_filter.mpr ⟨List.mem_append_left _ (List.mem_of_getElem? (i := 0) (by decide +kernel)), by decide +kernel⟩
theorem wd_1 : Cond.selects RX8 yX8_rowsRefusal yX8_rowsRefusal ∈ TBL := List.mem_filter.mpr ⟨List.mem_append_left _ (List.mem_of_getElem? (i := 1) (by decide +kernel)), by decide +kernel⟩
theorem wd_2 : Cond.selects RX6 yX6_leastNumber yX6_leastNumber ∈ TBL := List.mem_filter.mpr ⟨List.mem_append_left _ (List.mem_of_getElem? (i := 2) (by decide +kernel)), by decide +kernel⟩
theorem wd_3 : Cond.selects RX0 yX0_countFigures yX0_countFigures ∈ TBL := List.mem_filter.mpr ⟨List.mem_append_left _ (List.mem_of_getElem? (i := 3) (by decide +kernel)), by decide +kernel⟩
theorem wd_4 : Cond.selects RX0 yX0_putInOrder yX0_putInOrder ∈ TBL := List.mem_filter.mpr ⟨List.mem_append_left _ (List.mem_of_getElem? (i := 4) (by decide +kernel)), by decide +kernel⟩
theorem wd_5 : Cond.selects RX7 yX7_sharesIn yX7_sharesIn ∈ TBL := List.mem_filter.mpr ⟨List.mem_append_left _ (List.mem_of_getElem? (i := 5) (by decide +kernel)), by decide +kernel⟩
theorem wd_6 : Cond.selects RX0 yX0_mostFalling yX0_mostFalling ∈ TBL := List.mem_filter.mpr ⟨List.mem_append_left _ (List.mem_of_getElem? (i := 6) (by decide +kernel)), by decide +kernel⟩
theorem wd_7 : Cond.selects RX4 yX4_consider yX4_consider ∈ TBL := List.mem_filter.mpr ⟨List.mem_append_left _ (List.mem_of_getElem? (i := 7) (by decide +kernel)), by decide +kernel⟩
theorem wd_8 : Cond.selects RX0 yX0_unevenness yX0_unevenness ∈ TBL := List.mem_filter.mpr ⟨List.mem_append_left _ (List.mem_of_getElem? (i := 8) (by decide +kernel)), by decide +kernel⟩
theorem wd_9 : Cond.selects RX0 yX0_drawn yX0_drawn ∈ TBL := List.mem_filter.mpr ⟨List.mem_append_left _ (List.mem_of_getElem? (i := 9) (by decide +kernel)), by decide +kernel⟩
theorem wd_10 : Cond.selects RX8 yX8_textRefusal yX8_textRefusal ∈ TBL := List.mem_filter.mpr ⟨List.mem_append_left _ (List.mem_of_getElem? (i := 10) (by decide +kernel)), by decide +kernel⟩
theorem wd_11 : Cond.selects RX8 yX8_rowRefusal yX8_rowRefusal ∈ TBL := List.mem_filter.mpr ⟨List.mem_append_left _ (List.mem_of_getElem? (i := 11) (by decide +kernel)), by decide +kernel⟩
theorem wd_12 : Cond.selects RX2 yX2_goesOn yX2_goesOn ∈ TBL := List.mem_filter.mpr ⟨List.mem_append_left _ (List.mem_of_getElem? (i := 12) (by decide +kernel)), by decide +kernel⟩
theorem wd_13 : Cond.selects RX2 yX2_become yX2_become ∈ TBL := List.mem_filter.mpr ⟨List.mem_append_left _ (List.mem_of_getElem? (i := 13) (by decide +kernel)), by decide +kernel⟩
theorem wd_14 : Cond.selects RX2 yX2_beginsTest yX2_beginsTest ∈ TBL := List.mem_filter.mpr ⟨List.mem_append_left _ (List.mem_of_getElem? (i := 14) (by decide +kernel)), by decide +kernel⟩
theorem wd_15 : Cond.selects RX2 yX2_beginsAtom yX2_beginsAtom ∈ TBL := List.mem_filter.mpr ⟨List.mem_append_left _ (List.mem_of_getElem? (i := 15) (by decide +kernel)), by decide +kernel⟩
theorem wd_16 : Cond.selects RX2 yX2_addsDigit yX2_addsDigit ∈ TBL := List.mem_filter.mpr ⟨List.mem_append_left _ (List.mem_of_getElem? (i := 16) (by decide +kernel)), by decide +kernel⟩
theorem wd_17 : Cond.selects RX2 yX2_followsAtom yX2_followsAtom ∈ TBL := List.mem_filter.mpr ⟨List.mem_append_left _ (List.mem_of_getElem? (i := 17) (by decide +kernel)), by decide +kernel⟩
theorem wd_18 : Cond.selects RX2 yX2_followsTest yX2_followsTest ∈ TBL := List.mem_filter.mpr ⟨List.mem_append_left _ (List.mem_of_getElem? (i := 18) (by decide +kernel)), by decide +kernel⟩
theorem wd_19 : Cond.selects RX2 yX2_isWhole yX2_isWhole ∈ TBL := List.mem_filter.mpr ⟨List.mem_append_left _ (List.mem_of_getElem? (i := 19) (by decide +kernel)), by decide +kernel⟩
theorem wd_20 : Cond.selects RX3 yX3_beginGroup yX3_beginGroup ∈ TBL := List.mem_filter.mpr ⟨List.mem_append_left _ (List.mem_of_getElem? (i := 20) (by decide +kernel)), by decide +kernel⟩
theorem wd_21 : Cond.selects RX3 yX3_beginSum yX3_beginSum ∈ TBL := List.mem_filter.mpr ⟨List.mem_append_left _ (List.mem_of_getElem? (i := 21) (by decide +kernel)), by decide +kernel⟩
theorem wd_22 : Cond.selects RX3 yX3_beginProduct yX3_beginProduct ∈ TBL := List.mem_filter.mpr ⟨List.mem_append_left _ (List.mem_of_getElem? (i := 22) (by decide +kernel)), by decide +kernel⟩
theorem wd_23 : Cond.selects RX3 yX3_takeAtom yX3_takeAtom ∈ TBL := List.mem_filter.mpr ⟨List.mem_append_left _ (List.mem_of_getElem? (i := 23) (by decide +kernel)), by decide +kernel⟩
theorem wd_24 : Cond.selects RX3 yX3_takeDigit yX3_takeDigit ∈ TBL := List.mem_filter.mpr ⟨List.mem_append_left _ (List.mem_of_getElem? (i := 24) (by decide +kernel)), by decide +kernel⟩
theorem wd_25 : Cond.selects RX3 yX3_takeSign yX3_takeSign ∈ TBL := List.mem_filter.mpr ⟨List.mem_append_left _ (List.mem_of_getElem? (i := 25) (by decide +kernel)), by decide +kernel⟩
theorem wd_26 : Cond.selects RX3 yX3_endProduct yX3_endProduct ∈ TBL := List.mem_filter.mpr ⟨List.mem_append_left _ (List.mem_of_getElem? (i := 26) (by decide +kernel)), by decide +kernel⟩
theorem wd_27 : Cond.selects RX3 yX3_endTest yX3_endTest ∈ TBL := List.mem_filter.mpr ⟨List.mem_append_left _ (List.mem_of_getElem? (i := 27) (by decide +kernel)), by decide +kernel⟩
theorem wd_28 : Cond.selects RX3 yX3_compared yX3_compared ∈ TBL := List.mem_filter.mpr ⟨List.mem_append_left _ (List.mem_of_getElem? (i := 28) (by decide +kernel)), by decide +kernel⟩
theorem wd_29 : Cond.selects RX3 yX3_join yX3_join ∈ TBL := List.mem_filter.mpr ⟨List.mem_append_left _ (List.mem_of_getElem? (i := 29) (by decide +kernel)), by decide +kernel⟩
theorem wd_30 : Cond.selects RX3 yX3_takeJoint yX3_takeJoint ∈ TBL := List.mem_filter.mpr ⟨List.mem_append_left _ (List.mem_of_getElem? (i := 30) (by decide +kernel)), by decide +kernel⟩
theorem wd_31 : Cond.selects RX8 yX8_sheetRefusal yX8_sheetRefusal ∈ TBL := List.mem_filter.mpr ⟨List.mem_append_left _ (List.mem_of_getElem? (i := 31) (by decide +kernel)), by decide +kernel⟩
theorem wd_33 : Cond.selects RX9 yX9_isHall yX9_isHall ∈ TBL := List.mem_filter.mpr ⟨List.mem_append_left _ (List.mem_of_getElem? (i := 33) (by decide +kernel)), by decide +kernel⟩
theorem wd_34 : Cond.selects RX9 yX9_get yX9_get ∈ TBL := List.mem_filter.mpr ⟨List.mem_append_left _ (List.mem_of_getElem? (i := 34) (by decide +kernel)), by decide +kernel⟩
theorem wd_35 : Cond.selects RX9 yX9_becomes yX9_becomes ∈ TBL := List.mem_filter.mpr ⟨List.mem_append_left _ (List.mem_of_getElem? (i := 35) (by decide +kernel)), by decide +kernel⟩
theorem wd_36 : Cond.selects RX9 yX9_tellsCame yX9_tellsCame ∈ TBL := List.mem_filter.mpr ⟨List.mem_append_left _ (List.mem_of_getElem? (i := 36) (by decide +kernel)), by decide +kernel⟩
theorem wd_37 : Cond.selects RX9 yX9_tellsOurs yX9_tellsOurs ∈ TBL := List.mem_filter.mpr ⟨List.mem_append_left _ (List.mem_of_getElem? (i := 37) (by decide +kernel)), by decide +kernel⟩
theorem wd_38 : Cond.selects RX9 yX9_has yX9_has ∈ TBL := List.mem_filter.mpr ⟨List.mem_append_left _ (List.mem_of_getElem? (i := 38) (by decide +kernel)), by decide +kernel⟩
theorem wd_39 : Cond.selects RX9 yX9_share yX9_share ∈ TBL := List.mem_filter.mpr ⟨List.mem_append_left _ (List.mem_of_getElem? (i := 39) (by decide +kernel)), by decide +kernel⟩
theorem wd_40 : Cond.selects RX9 yX9_writes yX9_writes ∈ TBL := List.mem_filter.mpr ⟨List.mem_append_left _ (List.mem_of_getElem? (i := 40) (by decide +kernel)), by decide +kernel⟩
theorem wd_41 : Cond.selects RX9 yX9_there yX9_there ∈ TBL := List.mem_filter.mpr ⟨List.mem_append_left _ (List.mem_of_getElem? (i := 41) (by decide +kernel)), by decide +kernel⟩
theorem wd_42 : Cond.selects RX9 yX9_counts yX9_counts ∈ TBL := List.mem_filter.mpr ⟨List.mem_append_left _ (List.mem_of_getElem? (i := 42) (by decide +kernel)), by decide +kernel⟩
theorem wd_43 : Cond.selects RX9 yX9_hasFigure yX9_hasFigure ∈ TBL := List.mem_filter.mpr ⟨List.mem_append_left _ (List.mem_of_getElem? (i := 43) (by decide +kernel)), by decide +kernel⟩
theorem wd_44 : Cond.selects RX9 yX9_middleOf yX9_middleOf ∈ TBL := List.mem_filter.mpr ⟨List.mem_append_left _ (List.mem_of_getElem? (i := 44) (by decide +kernel)), by decide +kernel⟩
theorem wd_45 : Cond.selects RX9 yX9_leftOf yX9_leftOf ∈ TBL := List.mem_filter.mpr ⟨List.mem_append_left _ (List.mem_of_getElem? (i := 45) (by decide +kernel)), by decide +kernel⟩
theorem wd_46 : Cond.selects RX9 yX9_findWatched yX9_findWatched ∈ TBL := List.mem_filter.mpr ⟨List.mem_append_left _ (List.mem_of_getElem? (i := 46) (by decide +kernel)), by decide +kernel⟩
theorem wd_47 : Cond.selects RX9 yX9_costOf yX9_costOf ∈ TBL := List.mem_filter.mpr ⟨List.mem_append_left _ (List.mem_of_getElem? (i := 47) (by decide +kernel)), by decide +kernel⟩
theorem wd_48 : Cond.selects RX9 yX9_written yX9_written ∈ TBL := List.mem_filter.mpr ⟨List.mem_append_left _ (List.mem_of_getElem? (i := 48) (by decide +kernel)), by decide +kernel⟩
theorem wd_49 : Cond.selects RX9 yX9_sentUp yX9_sentUp ∈ TBL := List.mem_filter.mpr ⟨List.mem_append_left _ (List.mem_of_getElem? (i := 49) (by decide +kernel)), by decide +kernel⟩
theorem wd_50 : Cond.selects RX9 yX9_untrueAll yX9_untrueAll ∈ TBL := List.mem_filter.mpr ⟨List.mem_append_left _ (List.mem_of_getElem? (i := 50) (by decide +kernel)), by decide +kernel⟩
theorem wd_51 : Cond.selects RX9 yX9_untrueOf yX9_untrueOf ∈ TBL := List.mem_filter.mpr ⟨List.mem_append_left _ (List.mem_of_getElem? (i := 51) (by decide +kernel)), by decide +kernel⟩
theorem wd_52 : Cond.selects RX9 yX9_falls yX9_falls ∈ TBL := List.mem_filter.mpr ⟨List.mem_append_left _ (List.mem_of_getElem? (i := 52) (by decide +kernel)), by decide +kernel⟩
theorem wd_53 : Cond.selects RX9 yX9_findAgain yX9_findAgain ∈ TBL := List.mem_filter.mpr ⟨List.mem_append_left _ (List.mem_of_getElem? (i := 53) (by decide +kernel)), by decide +kernel⟩
theorem wd_54 : Cond.selects RX9 yX9_costAgain yX9_costAgain ∈ TBL := List.mem_filter.mpr ⟨List.mem_append_left _ (List.mem_of_getElem? (i := 54) (by decide +kernel)), by decide +kernel⟩
theorem wd_55 : Cond.selects RX9 yX9_worthAgain yX9_worthAgain ∈ TBL := List.mem_filter.mpr ⟨List.mem_append_left _ (List.mem_of_getElem? (i := 55) (by decide +kernel)), by decide +kernel⟩
theorem wd_56 : Cond.selects RX9 yX9_measureNow yX9_measureNow ∈ TBL := List.mem_filter.mpr ⟨List.mem_append_left _ (List.mem_of_getElem? (i := 56) (by decide +kernel)), by decide +kernel⟩
theorem wd_57 : Cond.selects RX9 yX9_squares yX9_squares ∈ TBL := List.mem_filter.mpr ⟨List.mem_append_left _ (List.mem_of_getElem? (i := 57) (by decide +kernel)), by decide +kernel⟩
theorem wd_58 : Cond.selects RX9 yX9_makes yX9_makes ∈ TBL := List.mem_filter.mpr ⟨List.mem_append_left _ (List.mem_of_getElem? (i := 58) (by decide +kernel)), by decide +kernel⟩
theorem wd_59 : Cond.selects RX9 yX9_hundredths yX9_hundredths ∈ TBL := List.mem_filter.mpr ⟨List.mem_append_left _ (List.mem_of_getElem? (i := 59) (by decide +kernel)), by decide +kernel⟩
theorem wd_60 : Cond.selects RX9 yX9_wrongRow yX9_wrongRow ∈ TBL := List.mem_filter.mpr ⟨List.mem_append_left _ (List.mem_of_getElem? (i := 60) (by decide +kernel)), by decide +kernel⟩
theorem wd_61 : Cond.selects RX9 yX9_faultOf yX9_faultOf ∈ TBL := List.mem_filter.mpr ⟨List.mem_append_left _ (List.mem_of_getElem? (i := 61) (by decide +kernel)), by decide +kernel⟩
theorem wd_62 : Cond.selects RX9 yX9_begins yX9_begins ∈ TBL := List.mem_filter.mpr ⟨List.mem_append_left _ (List.mem_of_getElem? (i := 62) (by decide +kernel)), by decide +kernel⟩
theorem wd_63 : Cond.selects RX9 yX9_sign yX9_sign ∈ TBL := List.mem_filter.mpr ⟨List.mem_append_left _ (List.mem_of_getElem? (i := 63) (by decide +kernel)), by decide +kernel⟩
theorem wd_64 : Cond.selects RX9 yX9_takes yX9_takes ∈ TBL := List.mem_filter.mpr ⟨List.mem_append_left _ (List.mem_of_getElem? (i := 64) (by decide +kernel)), by decide +kernel⟩
theorem wd_65 : Cond.selects RX9 yX9_or yX9_or ∈ TBL := List.mem_filter.mpr ⟨List.mem_append_left _ (List.mem_of_getElem? (i := 65) (by decide +kernel)), by decide +kernel⟩
theorem wd_66 : Cond.selects RX9 yX9_and yX9_and ∈ TBL := List.mem_filter.mpr ⟨List.mem_append_left _ (List.mem_of_getElem? (i := 66) (by decide +kernel)), by decide +kernel⟩
theorem wd_67 : Cond.selects RX9 yX9_test yX9_test ∈ TBL := List.mem_filter.mpr ⟨List.mem_append_left _ (List.mem_of_getElem? (i := 67) (by decide +kernel)), by decide +kernel⟩
theorem wd_68 : Cond.selects RX9 yX9_breaks yX9_breaks ∈ TBL := List.mem_filter.mpr ⟨List.mem_append_left _ (List.mem_of_getElem? (i := 68) (by decide +kernel)), by decide +kernel⟩
theorem wd_69 : Cond.selects RX9 yX9_sum_ yX9_sum_ ∈ TBL := List.mem_filter.mpr ⟨List.mem_append_left _ (List.mem_of_getElem? (i := 69) (by decide +kernel)), by decide +kernel⟩
theorem wd_70 : Cond.selects RX9 yX9_product yX9_product ∈ TBL := List.mem_filter.mpr ⟨List.mem_append_left _ (List.mem_of_getElem? (i := 70) (by decide +kernel)), by decide +kernel⟩
theorem wd_71 : Cond.selects RX9 yX9_atom yX9_atom ∈ TBL := List.mem_filter.mpr ⟨List.mem_append_left _ (List.mem_of_getElem? (i := 71) (by decide +kernel)), by decide +kernel⟩
theorem wd_72 : Cond.selects RX9 yX9_fieldOf yX9_fieldOf ∈ TBL := List.mem_filter.mpr ⟨List.mem_append_left _ (List.mem_of_getElem? (i := 72) (by decide +kernel)), by decide +kernel⟩
theorem wd_73 : Cond.selects RX9 yX9_markOf yX9_markOf ∈ TBL := List.mem_filter.mpr ⟨List.mem_append_left _ (List.mem_of_getElem? (i := 73) (by decide +kernel)), by decide +kernel⟩
theorem wd_74 : Cond.selects RX9 yX9_weightOf yX9_weightOf ∈ TBL := List.mem_filter.mpr ⟨List.mem_append_left _ (List.mem_of_getElem? (i := 74) (by decide +kernel)), by decide +kernel⟩
theorem wd_75 : Cond.selects RX9 yX9_wrongKept yX9_wrongKept ∈ TBL := List.mem_filter.mpr ⟨List.mem_append_left _ (List.mem_of_getElem? (i := 75) (by decide +kernel)), by decide +kernel⟩
theorem wd_76 : Cond.initialized RL ∈ TBL := List.mem_filter.mpr ⟨List.mem_append_right _ (List.mem_of_getElem? (i := 0) (by decide +kernel)), by decide +kernel⟩
theorem wd_77 : Cond.initialized RX8 ∈ TBL := List.mem_filter.mpr ⟨List.mem_append_right _ (List.mem_of_getElem? (i := 1) (by decide +kernel)), by decide +kernel⟩
theorem wd_78 : Cond.initialized RX0 ∈ TBL := List.mem_filter.mpr ⟨List.mem_append_right _ (List.mem_of_getElem? (i := 2) (by decide +kernel)), by decide +kernel⟩
theorem wd_79 : Cond.initialized RX3 ∈ TBL := List.mem_filter.mpr ⟨List.mem_append_right _ (List.mem_of_getElem? (i := 3) (by decide +kernel)), by decide +kernel⟩
theorem wd_80 : Cond.initialized RX1 ∈ TBL := List.mem_filter.mpr ⟨List.mem_append_right _ (List.mem_of_getElem? (i := 4) (by decide +kernel)), by decide +kernel⟩
theorem wd_81 : Cond.initialized RX5 ∈ TBL := List.mem_filter.mpr ⟨List.mem_append_right _ (List.mem_of_getElem? (i := 5) (by decide +kernel)), by decide +kernel⟩
theorem wd_82 : Cond.initialized RX7 ∈ TBL := List.mem_filter.mpr ⟨List.mem_append_right _ (List.mem_of_getElem? (i := 6) (by decide +kernel)), by decide +kernel⟩
theorem wd_83 : Cond.initialized RX4 ∈ TBL := List.mem_filter.mpr ⟨List.mem_append_right _ (List.mem_of_getElem? (i := 7) (by decide +kernel)), by decide +kernel⟩
theorem wd_84 : Cond.initialized RX2 ∈ TBL := List.mem_filter.mpr ⟨List.mem_append_right _ (List.mem_of_getElem? (i := 8) (by decide +kernel)), by decide +kernel⟩
theorem wd_85 : Cond.initialized RX6 ∈ TBL := List.mem_filter.mpr ⟨List.mem_append_right _ (List.mem_of_getElem? (i := 9) (by decide +kernel)), by decide +kernel⟩
theorem wd_86 : Cond.initialized RX9 ∈ TBL := List.mem_filter.mpr ⟨List.mem_append_right _ (List.mem_of_getElem? (i := 10) (by decide +kernel)), by decide +kernel⟩
theorem wd_87 : Cond.initialized RJ9 ∈ TBL := List.mem_filter.mpr ⟨List.mem_append_right _ (List.mem_of_getElem? (i := 11) (by decide +kernel)), by decide +kernel⟩
theorem wd_88 : Cond.initialized RJ7 ∈ TBL := List.mem_filter.mpr ⟨List.mem_append_right _ (List.mem_of_getElem? (i := 12) (by decide +kernel)), by decide +kernel⟩
theorem wd_89 : Cond.initialized RJ6 ∈ TBL := List.mem_filter.mpr ⟨List.mem_append_right _ (List.mem_of_getElem? (i := 13) (by decide +kernel)), by decide +kernel⟩
theorem wd_90 : Cond.initialized RJ10 ∈ TBL := List.mem_filter.mpr ⟨List.mem_append_right _ (List.mem_of_getElem? (i := 14) (by decide +kernel)), by decide +kernel⟩
theorem wd_91 : Cond.initialized RJ0 ∈ TBL := List.mem_filter.mpr ⟨List.mem_append_right _ (List.mem_of_getElem? (i := 15) (by decide +kernel)), by decide +kernel⟩
theorem wd_92 : Cond.initialized RJ1 ∈ TBL := List.mem_filter.mpr ⟨List.mem_append_right _ (List.mem_of_getElem? (i := 16) (by decide +kernel)), by decide +kernel⟩
theorem wd_96 : Cond.initialized "java/lang/Throwable" ∈ TBL := List.mem_filter.mpr ⟨List.mem_append_right _ (List.mem_of_getElem? (i := 20) (by decide +kernel)), by decide +kernel⟩
theorem wd_99 : Cond.initialized "java/lang/IllegalArgumentException" ∈ TBL := List.mem_filter.mpr ⟨List.mem_append_right _ (List.mem_of_getElem? (i := 23) (by decide +kernel)), by decide +kernel⟩
theorem wd_100 : Cond.initialized "java/lang/IllegalStateException" ∈ TBL := List.mem_filter.mpr ⟨List.mem_append_right _ (List.mem_of_getElem? (i := 24) (by decide +kernel)), by decide +kernel⟩
theorem wd_101 : Cond.initialized "java/lang/UnsupportedOperationException" ∈ TBL := List.mem_filter.mpr ⟨List.mem_append_right _ (List.mem_of_getElem? (i := 25) (by decide +kernel)), by decide +kernel⟩
theorem wd_102 : Cond.initialized "java/util/NoSuchElementException" ∈ TBL := List.mem_filter.mpr ⟨List.mem_append_right _ (List.mem_of_getElem? (i := 26) (by decide +kernel)), by decide +kernel⟩
theorem wd_103 : Cond.classLink RL 8 RX8 ∈ TBL := List.mem_filter.mpr ⟨List.mem_append_right _ (List.mem_of_getElem? (i := 27) (by decide +kernel)), by decide +kernel⟩
theorem wd_104 : Cond.instantiable RX8 8 ∈ TBL := List.mem_filter.mpr ⟨List.mem_append_right _ (List.mem_of_getElem? (i := 28) (by decide +kernel)), by decide +kernel⟩
theorem wd_105 : Cond.methodLink RL 17 yX8_init ∈ TBL := List.mem_filter.mpr ⟨List.mem_append_right _ (List.mem_of_getElem? (i := 29) (by decide +kernel)), by decide +kernel⟩
theorem wd_106 : Cond.instanceMethod yX8_init ∈ TBL := List.mem_filter.mpr ⟨List.mem_append_right _ (List.mem_of_getElem? (i := 30) (by decide +kernel)), by decide +kernel⟩
theorem wd_107 : Cond.code yX8_init cX8_init 2 none ∈ TBL := List.mem_filter.mpr ⟨List.mem_append_right _ (List.mem_of_getElem? (i := 31) (by decide +kernel)), by decide +kernel⟩
theorem wd_108 : Cond.methodLink RX8 1 Lib.objectInit ∈ TBL := List.mem_filter.mpr ⟨List.mem_append_right _ (List.mem_of_getElem? (i := 32) (by decide +kernel)), by decide +kernel⟩
theorem wd_109 : Cond.instanceMethod Lib.objectInit ∈ TBL := List.mem_filter.mpr ⟨List.mem_append_right _ (List.mem_of_getElem? (i := 33) (by decide +kernel)), by decide +kernel⟩
theorem wd_110 : Cond.code Lib.objectInit ⟨#[0xb1]⟩ 1 none ∈ TBL := List.mem_filter.mpr ⟨List.mem_append_right _ (List.mem_of_getElem? (i := 34) (by decide +kernel)), by decide +kernel⟩
theorem wd_111 : Cond.classLink RX8 7 RX0 ∈ TBL := List.mem_filter.mpr ⟨List.mem_append_right _ (List.mem_of_getElem? (i := 35) (by decide +kernel)), by decide +kernel⟩
theorem wd_112 : Cond.instantiable RX0 12 ∈ TBL := List.mem_filter.mpr ⟨List.mem_append_right _ (List.mem_of_getElem? (i := 36) (by decide +kernel)), by decide +kernel⟩
theorem wd_113 : Cond.methodLink RX8 9 yX0_init ∈ TBL := List.mem_filter.mpr ⟨List.mem_append_right _ (List.mem_of_getElem? (i := 37) (by decide +kernel)), by decide +kernel⟩
theorem wd_114 : Cond.instanceMethod yX0_init ∈ TBL := List.mem_filter.mpr ⟨List.mem_append_right _ (List.mem_of_getElem? (i := 38) (by decide +kernel)), by decide +kernel⟩
theorem wd_115 : Cond.code yX0_init cX0_init 2 none ∈ TBL := List.mem_filter.mpr ⟨List.mem_append_right _ (List.mem_of_getElem? (i := 39) (by decide +kernel)), by decide +kernel⟩
theorem wd_116 : Cond.methodLink RX0 5 Lib.objectInit ∈ TBL := List.mem_filter.mpr ⟨List.mem_append_right _ (List.mem_of_getElem? (i := 40) (by decide +kernel)), by decide +kernel⟩
theorem wd_117 : Cond.classLink RX0 11 RX1 ∈ TBL := List.mem_filter.mpr ⟨List.mem_append_right _ (List.mem_of_getElem? (i := 41) (by decide +kernel)), by decide +kernel⟩
theorem wd_118 : Cond.arrayOver (.object RX1) ∈ NST := List.mem_filter.mpr ⟨List.mem_append_right _ (List.mem_of_getElem? (i := 42) (by decide +kernel)), by decide +kernel⟩
theorem wd_119 : Cond.classLink RX0 31 ("[" ++ (FieldType.array .int).toString) ∈ TBL := List.mem_filter.mpr ⟨List.mem_append_right _ (List.mem_of_getElem? (i := 43) (by decide +kernel)), by decide +kernel⟩
theorem wd_120 : Cond.arrayOver (.array .int) ∈ NST := List.mem_filter.mpr ⟨List.mem_append_right _ (List.mem_of_getElem? (i := 44) (by decide +kernel)), by decide +kernel⟩
theorem wd_121 : Cond.classLink RX0 39 RX3 ∈ TBL := List.mem_filter.mpr ⟨List.mem_append_right _ (List.mem_of_getElem? (i := 45) (by decide +kernel)), by decide +kernel⟩
theorem wd_122 : Cond.instantiable RX3 11 ∈ TBL := List.mem_filter.mpr ⟨List.mem_append_right _ (List.mem_of_getElem? (i := 46) (by decide +kernel)), by decide +kernel⟩
theorem wd_123 : Cond.methodLinkNest RX0 41 yX3_init "HallSheets" ∈ NST := List.mem_filter.mpr ⟨List.mem_append_right _ (List.mem_of_getElem? (i := 47) (by decide +kernel)), by decide +kernel⟩
theorem wd_124 : Cond.instanceMethod yX3_init ∈ TBL := List.mem_filter.mpr ⟨List.mem_append_right _ (List.mem_of_getElem? (i := 48) (by decide +kernel)), by decide +kernel⟩
theorem wd_125 : Cond.code yX3_init cX3_init 1 none ∈ TBL := List.mem_filter.mpr ⟨List.mem_append_right _ (List.mem_of_getElem? (i := 49) (by decide +kernel)), by decide +kernel⟩
theorem wd_126 : Cond.methodLink RX3 1 Lib.objectInit ∈ TBL := List.mem_filter.mpr ⟨List.mem_append_right _ (List.mem_of_getElem? (i := 50) (by decide +kernel)), by decide +kernel⟩
theorem wd_127 : Cond.fieldLink RX3 9 "HallSheets$MarkTruth" "any" "[Z" ∈ TBL := List.mem_filter.mpr ⟨List.mem_append_right _ (List.mem_of_getElem? (i := 51) (by decide +kernel)), by decide +kernel⟩
theorem wd_128 : Cond.fieldLink RX3 15 "HallSheets$MarkTruth" "all" "[Z" ∈ TBL := List.mem_filter.mpr ⟨List.mem_append_right _ (List.mem_of_getElem? (i := 52) (by decide +kernel)), by decide +kernel⟩
theorem wd_129 : Cond.fieldLink RX3 18 "HallSheets$MarkTruth" "turned" "[Z" ∈ TBL := List.mem_filter.mpr ⟨List.mem_append_right _ (List.mem_of_getElem? (i := 53) (by decide +kernel)), by decide +kernel⟩
theorem wd_130 : Cond.fieldLink RX3 21 "HallSheets$MarkTruth" "depth" "I" ∈ TBL := List.mem_filter.mpr ⟨List.mem_append_right _ (List.mem_of_getElem? (i := 54) (by decide +kernel)), by decide +kernel⟩
theorem wd_131 : Cond.fieldLink RX3 111 "HallSheets$MarkTruth" "left" "I" ∈ TBL := List.mem_filter.mpr ⟨List.mem_append_right _ (List.mem_of_getElem? (i := 55) (by decide +kernel)), by decide +kernel⟩
theorem wd_132 : Cond.fieldLink RX3 31 "HallSheets$MarkTruth" "comparison" "I" ∈ TBL := List.mem_filter.mpr ⟨List.mem_append_right _ (List.mem_of_getElem? (i := 56) (by decide +kernel)), by decide +kernel⟩
theorem wd_133 : Cond.fieldLink RX3 93 "HallSheets$MarkTruth" "sum" "I" ∈ TBL := List.mem_filter.mpr ⟨List.mem_append_right _ (List.mem_of_getElem? (i := 57) (by decide +kernel)), by decide +kernel⟩
theorem wd_134 : Cond.fieldLink RX3 96 "HallSheets$MarkTruth" "adding" "I" ∈ TBL := List.mem_filter.mpr ⟨List.mem_append_right _ (List.mem_of_getElem? (i := 58) (by decide +kernel)), by decide +kernel⟩
theorem wd_135 : Cond.fieldLink RX3 102 "HallSheets$MarkTruth" "product" "I" ∈ TBL := List.mem_filter.mpr ⟨List.mem_append_right _ (List.mem_of_getElem? (i := 59) (by decide +kernel)), by decide +kernel⟩
theorem wd_136 : Cond.fieldLink RX3 105 "HallSheets$MarkTruth" "scaling" "I" ∈ TBL := List.mem_filter.mpr ⟨List.mem_append_right _ (List.mem_of_getElem? (i := 60) (by decide +kernel)), by decide +kernel⟩
theorem wd_137 : Cond.fieldLink RX3 34 "HallSheets$MarkTruth" "number" "I" ∈ TBL := List.mem_filter.mpr ⟨List.mem_append_right _ (List.mem_of_getElem? (i := 61) (by decide +kernel)), by decide +kernel⟩
theorem wd_161 : Cond.arrayClass .int ∈ TBL := List.mem_filter.mpr ⟨List.mem_append_right _ (List.mem_of_getElem? (i := 85) (by decide +kernel)), by decide +kernel⟩
theorem wd_162 : Cond.arrayClass .boolean ∈ TBL := List.mem_filter.mpr ⟨List.mem_append_right _ (List.mem_of_getElem? (i := 86) (by decide +kernel)), by decide +kernel⟩
theorem wd_163 : Cond.instantiable RX1 12 ∈ TBL := List.mem_filter.mpr ⟨List.mem_append_right _ (List.mem_of_getElem? (i := 87) (by decide +kernel)), by decide +kernel⟩
theorem wd_164 : Cond.methodLinkNest RX0 52 yX1_init "HallSheets" ∈ NST := List.mem_filter.mpr ⟨List.mem_append_right _ (List.mem_of_getElem? (i := 88) (by decide +kernel)), by decide +kernel⟩
theorem wd_165 : Cond.instanceMethod yX1_init ∈ TBL := List.mem_filter.mpr ⟨List.mem_append_right _ (List.mem_of_getElem? (i := 89) (by decide +kernel)), by decide +kernel⟩
theorem wd_166 : Cond.code yX1_init cX1_init 1 none ∈ TBL := List.mem_filter.mpr ⟨List.mem_append_right _ (List.mem_of_getElem? (i := 90) (by decide +kernel)), by decide +kernel⟩
theorem wd_167 : Cond.methodLink RX1 3 Lib.objectInit ∈ TBL := List.mem_filter.mpr ⟨List.mem_append_right _ (List.mem_of_getElem? (i := 91) (by decide +kernel)), by decide +kernel⟩
theorem wd_168 : Cond.classLink RX1 9 RX5 ∈ TBL := List.mem_filter.mpr ⟨List.mem_append_right _ (List.mem_of_getElem? (i := 92) (by decide +kernel)), by decide +kernel⟩
theorem wd_169 : Cond.instantiable RX5 2 ∈ TBL := List.mem_filter.mpr ⟨List.mem_append_right _ (List.mem_of_getElem? (i := 93) (by decide +kernel)), by decide +kernel⟩
theorem wd_170 : Cond.methodLinkNest RX1 11 yX5_init "HallSheets" ∈ NST := List.mem_filter.mpr ⟨List.mem_append_right _ (List.mem_of_getElem? (i := 94) (by decide +kernel)), by decide +kernel⟩
theorem wd_171 : Cond.instanceMethod yX5_init ∈ TBL := List.mem_filter.mpr ⟨List.mem_append_right _ (List.mem_of_getElem? (i := 95) (by decide +kernel)), by decide +kernel⟩
theorem wd_172 : Cond.code yX5_init cX5_init 1 none ∈ TBL := List.mem_filter.mpr ⟨List.mem_append_right _ (List.mem_of_getElem? (i := 96) (by decide +kernel)), by decide +kernel⟩
theorem wd_173 : Cond.methodLink RX5 3 Lib.objectInit ∈ TBL := List.mem_filter.mpr ⟨List.mem_append_right _ (List.mem_of_getElem? (i := 97) (by decide +kernel)), by decide +kernel⟩
theorem wd_174 : Cond.fieldLink RX5 9 "HallSheets$Sheet" "kind" "I" ∈ TBL := List.mem_filter.mpr ⟨List.mem_append_right _ (List.mem_of_getElem? (i := 98) (by decide +kernel)), by decide +kernel⟩
theorem wd_175 : Cond.fieldLink RX1 40 "HallSheets$Sheet" "kind" "I" ∈ TBL := List.mem_filter.mpr ⟨List.mem_append_right _ (List.mem_of_getElem? (i := 99) (by decide +kernel)), by decide +kernel⟩
theorem wd_176 : Cond.fieldLink RX8 84 "HallSheets$Sheet" "kind" "I" ∈ TBL := List.mem_filter.mpr ⟨List.mem_append_right _ (List.mem_of_getElem? (i := 100) (by decide +kernel)), by decide +kernel⟩
theorem wd_177 : Cond.fieldLink RX5 13 "HallSheets$Sheet" "number" "I" ∈ TBL := List.mem_filter.mpr ⟨List.mem_append_right _ (List.mem_of_getElem? (i := 101) (by decide +kernel)), by decide +kernel⟩
theorem wd_178 : Cond.fieldLink RX1 43 "HallSheets$Sheet" "number" "I" ∈ TBL := List.mem_filter.mpr ⟨List.mem_append_right _ (List.mem_of_getElem? (i := 102) (by decide +kernel)), by decide +kernel⟩
theorem wd_179 : Cond.fieldLink RX8 87 "HallSheets$Sheet" "number" "I" ∈ TBL := List.mem_filter.mpr ⟨List.mem_append_right _ (List.mem_of_getElem? (i := 103) (by decide +kernel)), by decide +kernel⟩
theorem wd_180 : Cond.fieldLink RX6 70 "HallSheets$Sheet" "number" "I" ∈ TBL := List.mem_filter.mpr ⟨List.mem_append_right _ (List.mem_of_getElem? (i := 104) (by decide +kernel)), by decide +kernel⟩
theorem wd_186 : Cond.fieldLink RX1 12 "HallSheets$Hall" "sheet" "LHallSheets$Sheet;" ∈ TBL := List.mem_filter.mpr ⟨List.mem_append_right _ (List.mem_of_getElem? (i := 110) (by decide +kernel)), by decide +kernel⟩
theorem wd_187 : Cond.fieldLink RX6 35 "HallSheets$Hall" "sheet" "LHallSheets$Sheet;" ∈ TBL := List.mem_filter.mpr ⟨List.mem_append_right _ (List.mem_of_getElem? (i := 111) (by decide +kernel)), by decide +kernel⟩
theorem wd_188 : Cond.fieldLink RX8 80 "HallSheets$Hall" "sheet" "LHallSheets$Sheet;" ∈ TBL := List.mem_filter.mpr ⟨List.mem_append_right _ (List.mem_of_getElem? (i := 112) (by decide +kernel)), by decide +kernel⟩
theorem wd_189 : Cond.fieldLink RX1 18 "HallSheets$Hall" "list" "I" ∈ TBL := List.mem_filter.mpr ⟨List.mem_append_right _ (List.mem_of_getElem? (i := 113) (by decide +kernel)), by decide +kernel⟩
theorem wd_190 : Cond.fieldLink RX8 66 "HallSheets$Hall" "list" "I" ∈ TBL := List.mem_filter.mpr ⟨List.mem_append_right _ (List.mem_of_getElem? (i := 114) (by decide +kernel)), by decide +kernel⟩
theorem wd_191 : Cond.fieldLink RX3 70 "HallSheets$Hall" "list" "I" ∈ TBL := List.mem_filter.mpr ⟨List.mem_append_right _ (List.mem_of_getElem? (i := 115) (by decide +kernel)), by decide +kernel⟩
theorem wd_192 : Cond.fieldLink RX0 89 "HallSheets$Hall" "list" "I" ∈ TBL := List.mem_filter.mpr ⟨List.mem_append_right _ (List.mem_of_getElem? (i := 116) (by decide +kernel)), by decide +kernel⟩
theorem wd_193 : Cond.fieldLink RX1 22 "HallSheets$Hall" "town" "I" ∈ TBL := List.mem_filter.mpr ⟨List.mem_append_right _ (List.mem_of_getElem? (i := 117) (by decide +kernel)), by decide +kernel⟩
theorem wd_194 : Cond.fieldLink RX4 48 "HallSheets$Hall" "town" "I" ∈ TBL := List.mem_filter.mpr ⟨List.mem_append_right _ (List.mem_of_getElem? (i := 118) (by decide +kernel)), by decide +kernel⟩
theorem wd_195 : Cond.fieldLink RX3 73 "HallSheets$Hall" "town" "I" ∈ TBL := List.mem_filter.mpr ⟨List.mem_append_right _ (List.mem_of_getElem? (i := 119) (by decide +kernel)), by decide +kernel⟩
theorem wd_196 : Cond.fieldLink RX0 131 "HallSheets$Hall" "town" "I" ∈ TBL := List.mem_filter.mpr ⟨List.mem_append_right _ (List.mem_of_getElem? (i := 120) (by decide +kernel)), by decide +kernel⟩
theorem wd_197 : Cond.fieldLink RX1 25 "HallSheets$Hall" "kin" "I" ∈ TBL := List.mem_filter.mpr ⟨List.mem_append_right _ (List.mem_of_getElem? (i := 121) (by decide +kernel)), by decide +kernel⟩
theorem wd_198 : Cond.fieldLink RX3 76 "HallSheets$Hall" "kin" "I" ∈ TBL := List.mem_filter.mpr ⟨List.mem_append_right _ (List.mem_of_getElem? (i := 122) (by decide +kernel)), by decide +kernel⟩
theorem wd_199 : Cond.fieldLink RX0 128 "HallSheets$Hall" "kin" "I" ∈ TBL := List.mem_filter.mpr ⟨List.mem_append_right _ (List.mem_of_getElem? (i := 123) (by decide +kernel)), by decide +kernel⟩
theorem wd_200 : Cond.fieldLink RX1 28 "HallSheets$Hall" "district" "I" ∈ TBL := List.mem_filter.mpr ⟨List.mem_append_right _ (List.mem_of_getElem? (i := 124) (by decide +kernel)), by decide +kernel⟩
theorem wd_201 : Cond.fieldLink RX3 79 "HallSheets$Hall" "district" "I" ∈ TBL := List.mem_filter.mpr ⟨List.mem_append_right _ (List.mem_of_getElem? (i := 125) (by decide +kernel)), by decide +kernel⟩
theorem wd_202 : Cond.fieldLink RX0 142 "HallSheets$Hall" "district" "I" ∈ TBL := List.mem_filter.mpr ⟨List.mem_append_right _ (List.mem_of_getElem? (i := 126) (by decide +kernel)), by decide +kernel⟩
theorem wd_203 : Cond.fieldLink RX1 31 "HallSheets$Hall" "earlier" "I" ∈ TBL := List.mem_filter.mpr ⟨List.mem_append_right _ (List.mem_of_getElem? (i := 127) (by decide +kernel)), by decide +kernel⟩
theorem wd_204 : Cond.fieldLink RX3 82 "HallSheets$Hall" "earlier" "I" ∈ TBL := List.mem_filter.mpr ⟨List.mem_append_right _ (List.mem_of_getElem? (i := 128) (by decide +kernel)), by decide +kernel⟩
theorem wd_205 : Cond.fieldLink RX8 177 "HallSheets$Hall" "earlier" "I" ∈ TBL := List.mem_filter.mpr ⟨List.mem_append_right _ (List.mem_of_getElem? (i := 129) (by decide +kernel)), by decide +kernel⟩
theorem wd_206 : Cond.fieldLink RX6 29 "HallSheets$Hall" "trueCame" "I" ∈ TBL := List.mem_filter.mpr ⟨List.mem_append_right _ (List.mem_of_getElem? (i := 130) (by decide +kernel)), by decide +kernel⟩
theorem wd_207 : Cond.fieldLink RX1 34 "HallSheets$Hall" "trueCame" "I" ∈ TBL := List.mem_filter.mpr ⟨List.mem_append_right _ (List.mem_of_getElem? (i := 131) (by decide +kernel)), by decide +kernel⟩
theorem wd_208 : Cond.fieldLink RX8 72 "HallSheets$Hall" "trueCame" "I" ∈ TBL := List.mem_filter.mpr ⟨List.mem_append_right _ (List.mem_of_getElem? (i := 132) (by decide +kernel)), by decide +kernel⟩
theorem wd_209 : Cond.fieldLink RX0 200 "HallSheets$Hall" "trueCame" "I" ∈ TBL := List.mem_filter.mpr ⟨List.mem_append_right _ (List.mem_of_getElem? (i := 133) (by decide +kernel)), by decide +kernel⟩
theorem wd_210 : Cond.fieldLink RX1 37 "HallSheets$Hall" "trueOurs" "I" ∈ TBL := List.mem_filter.mpr ⟨List.mem_append_right _ (List.mem_of_getElem? (i := 134) (by decide +kernel)), by decide +kernel⟩
theorem wd_211 : Cond.fieldLink RX8 75 "HallSheets$Hall" "trueOurs" "I" ∈ TBL := List.mem_filter.mpr ⟨List.mem_append_right _ (List.mem_of_getElem? (i := 135) (by decide +kernel)), by decide +kernel⟩
theorem wd_212 : Cond.fieldLink RX0 203 "HallSheets$Hall" "trueOurs" "I" ∈ TBL := List.mem_filter.mpr ⟨List.mem_append_right _ (List.mem_of_getElem? (i := 136) (by decide +kernel)), by decide +kernel⟩
theorem wd_213 : Cond.fieldLink RX1 46 "HallSheets$Hall" "watched" "Z" ∈ TBL := List.mem_filter.mpr ⟨List.mem_append_right _ (List.mem_of_getElem? (i := 137) (by decide +kernel)), by decide +kernel⟩
theorem wd_214 : Cond.fieldLink RX7 47 "HallSheets$Hall" "watched" "Z" ∈ TBL := List.mem_filter.mpr ⟨List.mem_append_right _ (List.mem_of_getElem? (i := 138) (by decide +kernel)), by decide +kernel⟩
theorem wd_215 : Cond.fieldLink RX3 89 "HallSheets$Hall" "watched" "Z" ∈ TBL := List.mem_filter.mpr ⟨List.mem_append_right _ (List.mem_of_getElem? (i := 139) (by decide +kernel)), by decide +kernel⟩
theorem wd_216 : Cond.fieldLink RX0 86 "HallSheets$Hall" "watched" "Z" ∈ TBL := List.mem_filter.mpr ⟨List.mem_append_right _ (List.mem_of_getElem? (i := 140) (by decide +kernel)), by decide +kernel⟩
theorem wd_217 : Cond.fieldLink RX8 183 "HallSheets$Hall" "watched" "Z" ∈ TBL := List.mem_filter.mpr ⟨List.mem_append_right _ (List.mem_of_getElem? (i := 141) (by decide +kernel)), by decide +kernel⟩
theorem wd_218 : Cond.fieldLink RX7 37 "HallSheets$Hall" "missing" "Z" ∈ TBL := List.mem_filter.mpr ⟨List.mem_append_right _ (List.mem_of_getElem? (i := 142) (by decide +kernel)), by decide +kernel⟩
theorem wd_219 : Cond.fieldLink RX4 38 "HallSheets$Hall" "missing" "Z" ∈ TBL := List.mem_filter.mpr ⟨List.mem_append_right _ (List.mem_of_getElem? (i := 143) (by decide +kernel)), by decide +kernel⟩
theorem wd_220 : Cond.fieldLink RX1 50 "HallSheets$Hall" "missing" "Z" ∈ TBL := List.mem_filter.mpr ⟨List.mem_append_right _ (List.mem_of_getElem? (i := 144) (by decide +kernel)), by decide +kernel⟩
theorem wd_221 : Cond.fieldLink RX8 105 "HallSheets$Hall" "missing" "Z" ∈ TBL := List.mem_filter.mpr ⟨List.mem_append_right _ (List.mem_of_getElem? (i := 145) (by decide +kernel)), by decide +kernel⟩
theorem wd_222 : Cond.fieldLink RX0 78 "HallSheets$Hall" "missing" "Z" ∈ TBL := List.mem_filter.mpr ⟨List.mem_append_right _ (List.mem_of_getElem? (i := 146) (by decide +kernel)), by decide +kernel⟩
theorem wd_223 : Cond.fieldLink RX4 51 "HallSheets$Hall" "came" "I" ∈ TBL := List.mem_filter.mpr ⟨List.mem_append_right _ (List.mem_of_getElem? (i := 147) (by decide +kernel)), by decide +kernel⟩
theorem wd_224 : Cond.fieldLink RX1 57 "HallSheets$Hall" "came" "I" ∈ TBL := List.mem_filter.mpr ⟨List.mem_append_right _ (List.mem_of_getElem? (i := 148) (by decide +kernel)), by decide +kernel⟩
theorem wd_225 : Cond.fieldLink RX3 62 "HallSheets$Hall" "came" "I" ∈ TBL := List.mem_filter.mpr ⟨List.mem_append_right _ (List.mem_of_getElem? (i := 149) (by decide +kernel)), by decide +kernel⟩
theorem wd_226 : Cond.fieldLink RX8 109 "HallSheets$Hall" "came" "I" ∈ TBL := List.mem_filter.mpr ⟨List.mem_append_right _ (List.mem_of_getElem? (i := 150) (by decide +kernel)), by decide +kernel⟩
theorem wd_227 : Cond.fieldLink RX0 115 "HallSheets$Hall" "came" "I" ∈ TBL := List.mem_filter.mpr ⟨List.mem_append_right _ (List.mem_of_getElem? (i := 151) (by decide +kernel)), by decide +kernel⟩
theorem wd_228 : Cond.fieldLink RX1 60 "HallSheets$Hall" "ours" "I" ∈ TBL := List.mem_filter.mpr ⟨List.mem_append_right _ (List.mem_of_getElem? (i := 152) (by decide +kernel)), by decide +kernel⟩
theorem wd_229 : Cond.fieldLink RX3 67 "HallSheets$Hall" "ours" "I" ∈ TBL := List.mem_filter.mpr ⟨List.mem_append_right _ (List.mem_of_getElem? (i := 153) (by decide +kernel)), by decide +kernel⟩
theorem wd_230 : Cond.fieldLink RX8 112 "HallSheets$Hall" "ours" "I" ∈ TBL := List.mem_filter.mpr ⟨List.mem_append_right _ (List.mem_of_getElem? (i := 154) (by decide +kernel)), by decide +kernel⟩
theorem wd_231 : Cond.fieldLink RX0 118 "HallSheets$Hall" "ours" "I" ∈ TBL := List.mem_filter.mpr ⟨List.mem_append_right _ (List.mem_of_getElem? (i := 155) (by decide +kernel)), by decide +kernel⟩
theorem wd_257 : Cond.fieldLink RX0 13 "HallSheets$Country" "halls" "[LHallSheets$Hall;" ∈ TBL := List.mem_filter.mpr ⟨List.mem_append_right _ (List.mem_of_getElem? (i := 181) (by decide +kernel)), by decide +kernel⟩
theorem wd_258 : Cond.fieldLink RX7 33 "HallSheets$Country" "halls" "[LHallSheets$Hall;" ∈ TBL := List.mem_filter.mpr ⟨List.mem_append_right _ (List.mem_of_getElem? (i := 182) (by decide +kernel)), by decide +kernel⟩
theorem wd_259 : Cond.fieldLink RX4 34 "HallSheets$Country" "halls" "[LHallSheets$Hall;" ∈ TBL := List.mem_filter.mpr ⟨List.mem_append_right _ (List.mem_of_getElem? (i := 183) (by decide +kernel)), by decide +kernel⟩
theorem wd_260 : Cond.fieldLink RX8 62 "HallSheets$Country" "halls" "[LHallSheets$Hall;" ∈ TBL := List.mem_filter.mpr ⟨List.mem_append_right _ (List.mem_of_getElem? (i := 184) (by decide +kernel)), by decide +kernel⟩
theorem wd_261 : Cond.fieldLink RX0 53 "HallSheets$Country" "hallCount" "I" ∈ TBL := List.mem_filter.mpr ⟨List.mem_append_right _ (List.mem_of_getElem? (i := 185) (by decide +kernel)), by decide +kernel⟩
theorem wd_262 : Cond.fieldLink RX7 28 "HallSheets$Country" "hallCount" "I" ∈ TBL := List.mem_filter.mpr ⟨List.mem_append_right _ (List.mem_of_getElem? (i := 186) (by decide +kernel)), by decide +kernel⟩
theorem wd_263 : Cond.fieldLink RX4 30 "HallSheets$Country" "hallCount" "I" ∈ TBL := List.mem_filter.mpr ⟨List.mem_append_right _ (List.mem_of_getElem? (i := 187) (by decide +kernel)), by decide +kernel⟩
theorem wd_264 : Cond.fieldLink RX8 118 "HallSheets$Country" "hallCount" "I" ∈ TBL := List.mem_filter.mpr ⟨List.mem_append_right _ (List.mem_of_getElem? (i := 188) (by decide +kernel)), by decide +kernel⟩
theorem wd_265 : Cond.fieldLink RX0 17 "HallSheets$Country" "laws" "[I" ∈ TBL := List.mem_filter.mpr ⟨List.mem_append_right _ (List.mem_of_getElem? (i := 189) (by decide +kernel)), by decide +kernel⟩
theorem wd_266 : Cond.fieldLink RX8 94 "HallSheets$Country" "laws" "[I" ∈ TBL := List.mem_filter.mpr ⟨List.mem_append_right _ (List.mem_of_getElem? (i := 190) (by decide +kernel)), by decide +kernel⟩
theorem wd_267 : Cond.fieldLink RX0 21 "HallSheets$Country" "told" "[Z" ∈ TBL := List.mem_filter.mpr ⟨List.mem_append_right _ (List.mem_of_getElem? (i := 191) (by decide +kernel)), by decide +kernel⟩
theorem wd_268 : Cond.fieldLink RX8 208 "HallSheets$Country" "told" "[Z" ∈ TBL := List.mem_filter.mpr ⟨List.mem_append_right _ (List.mem_of_getElem? (i := 192) (by decide +kernel)), by decide +kernel⟩
theorem wd_269 : Cond.fieldLink RX0 25 "HallSheets$Country" "toldCame" "[I" ∈ TBL := List.mem_filter.mpr ⟨List.mem_append_right _ (List.mem_of_getElem? (i := 193) (by decide +kernel)), by decide +kernel⟩
theorem wd_270 : Cond.fieldLink RX8 212 "HallSheets$Country" "toldCame" "[I" ∈ TBL := List.mem_filter.mpr ⟨List.mem_append_right _ (List.mem_of_getElem? (i := 194) (by decide +kernel)), by decide +kernel⟩
theorem wd_271 : Cond.fieldLink RX0 28 "HallSheets$Country" "toldOurs" "[I" ∈ TBL := List.mem_filter.mpr ⟨List.mem_append_right _ (List.mem_of_getElem? (i := 195) (by decide +kernel)), by decide +kernel⟩
theorem wd_272 : Cond.fieldLink RX8 214 "HallSheets$Country" "toldOurs" "[I" ∈ TBL := List.mem_filter.mpr ⟨List.mem_append_right _ (List.mem_of_getElem? (i := 196) (by decide +kernel)), by decide +kernel⟩
theorem wd_273 : Cond.fieldLink RX0 33 "HallSheets$Country" "markTexts" "[[I" ∈ TBL := List.mem_filter.mpr ⟨List.mem_append_right _ (List.mem_of_getElem? (i := 197) (by decide +kernel)), by decide +kernel⟩
theorem wd_274 : Cond.fieldLink RX0 36 "HallSheets$Country" "markSizes" "[I" ∈ TBL := List.mem_filter.mpr ⟨List.mem_append_right _ (List.mem_of_getElem? (i := 198) (by decide +kernel)), by decide +kernel⟩
theorem wd_275 : Cond.fieldLink RX0 67 "HallSheets$Country" "markCount" "I" ∈ TBL := List.mem_filter.mpr ⟨List.mem_append_right _ (List.mem_of_getElem? (i := 199) (by decide +kernel)), by decide +kernel⟩
theorem wd_276 : Cond.fieldLink RX8 284 "HallSheets$Country" "markCount" "I" ∈ TBL := List.mem_filter.mpr ⟨List.mem_append_right _ (List.mem_of_getElem? (i := 200) (by decide +kernel)), by decide +kernel⟩
theorem wd_277 : Cond.fieldLink RX0 42 "HallSheets$Country" "markTruth" "LHallSheets$MarkTruth;" ∈ TBL := List.mem_filter.mpr ⟨List.mem_append_right _ (List.mem_of_getElem? (i := 201) (by decide +kernel)), by decide +kernel⟩
theorem wd_278 : Cond.fieldLink RX0 46 "HallSheets$Country" "figureCounts" "[I" ∈ TBL := List.mem_filter.mpr ⟨List.mem_append_right _ (List.mem_of_getElem? (i := 202) (by decide +kernel)), by decide +kernel⟩
theorem wd_279 : Cond.fieldLink RX0 49 "HallSheets$Country" "inOrder" "[I" ∈ TBL := List.mem_filter.mpr ⟨List.mem_append_right _ (List.mem_of_getElem? (i := 203) (by decide +kernel)), by decide +kernel⟩
theorem wd_305 : Cond.classLink RX8 22 RX6 ∈ TBL := List.mem_filter.mpr ⟨List.mem_append_right _ (List.mem_of_getElem? (i := 229) (by decide +kernel)), by decide +kernel⟩
theorem wd_306 : Cond.arrayOver (.object RX6) ∈ NST := List.mem_filter.mpr ⟨List.mem_append_right _ (List.mem_of_getElem? (i := 230) (by decide +kernel)), by decide +kernel⟩
theorem wd_307 : Cond.classLink RX8 28 RX7 ∈ TBL := List.mem_filter.mpr ⟨List.mem_append_right _ (List.mem_of_getElem? (i := 231) (by decide +kernel)), by decide +kernel⟩
theorem wd_308 : Cond.instantiable RX7 5 ∈ TBL := List.mem_filter.mpr ⟨List.mem_append_right _ (List.mem_of_getElem? (i := 232) (by decide +kernel)), by decide +kernel⟩
theorem wd_309 : Cond.methodLinkNest RX8 30 yX7_init "HallSheets" ∈ NST := List.mem_filter.mpr ⟨List.mem_append_right _ (List.mem_of_getElem? (i := 233) (by decide +kernel)), by decide +kernel⟩
theorem wd_310 : Cond.instanceMethod yX7_init ∈ TBL := List.mem_filter.mpr ⟨List.mem_append_right _ (List.mem_of_getElem? (i := 234) (by decide +kernel)), by decide +kernel⟩
theorem wd_311 : Cond.code yX7_init cX7_init 1 none ∈ TBL := List.mem_filter.mpr ⟨List.mem_append_right _ (List.mem_of_getElem? (i := 235) (by decide +kernel)), by decide +kernel⟩
theorem wd_312 : Cond.methodLink RX7 3 Lib.objectInit ∈ TBL := List.mem_filter.mpr ⟨List.mem_append_right _ (List.mem_of_getElem? (i := 236) (by decide +kernel)), by decide +kernel⟩
theorem wd_313 : Cond.fieldLink RX7 9 "HallSheets$Watchers" "shares" "[I" ∈ TBL := List.mem_filter.mpr ⟨List.mem_append_right _ (List.mem_of_getElem? (i := 237) (by decide +kernel)), by decide +kernel⟩
theorem wd_314 : Cond.fieldLink RX7 15 "HallSheets$Watchers" "all" "I" ∈ TBL := List.mem_filter.mpr ⟨List.mem_append_right _ (List.mem_of_getElem? (i := 238) (by decide +kernel)), by decide +kernel⟩
theorem wd_315 : Cond.fieldLink RX7 19 "HallSheets$Watchers" "allShares" "I" ∈ TBL := List.mem_filter.mpr ⟨List.mem_append_right _ (List.mem_of_getElem? (i := 239) (by decide +kernel)), by decide +kernel⟩
theorem wd_316 : Cond.fieldLink RX7 22 "HallSheets$Watchers" "watched" "I" ∈ TBL := List.mem_filter.mpr ⟨List.mem_append_right _ (List.mem_of_getElem? (i := 240) (by decide +kernel)), by decide +kernel⟩
theorem wd_317 : Cond.fieldLink RX7 25 "HallSheets$Watchers" "watchedShares" "I" ∈ TBL := List.mem_filter.mpr ⟨List.mem_append_right _ (List.mem_of_getElem? (i := 241) (by decide +kernel)), by decide +kernel⟩
theorem wd_329 : Cond.classLink RX8 35 RX4 ∈ TBL := List.mem_filter.mpr ⟨List.mem_append_right _ (List.mem_of_getElem? (i := 253) (by decide +kernel)), by decide +kernel⟩
theorem wd_330 : Cond.instantiable RX4 2 ∈ TBL := List.mem_filter.mpr ⟨List.mem_append_right _ (List.mem_of_getElem? (i := 254) (by decide +kernel)), by decide +kernel⟩
theorem wd_331 : Cond.methodLinkNest RX8 37 yX4_init "HallSheets" ∈ NST := List.mem_filter.mpr ⟨List.mem_append_right _ (List.mem_of_getElem? (i := 255) (by decide +kernel)), by decide +kernel⟩
theorem wd_332 : Cond.instanceMethod yX4_init ∈ TBL := List.mem_filter.mpr ⟨List.mem_append_right _ (List.mem_of_getElem? (i := 256) (by decide +kernel)), by decide +kernel⟩
theorem wd_333 : Cond.code yX4_init cX4_init 1 none ∈ TBL := List.mem_filter.mpr ⟨List.mem_append_right _ (List.mem_of_getElem? (i := 257) (by decide +kernel)), by decide +kernel⟩
theorem wd_334 : Cond.methodLink RX4 3 Lib.objectInit ∈ TBL := List.mem_filter.mpr ⟨List.mem_append_right _ (List.mem_of_getElem? (i := 258) (by decide +kernel)), by decide +kernel⟩
theorem wd_335 : Cond.fieldLink RX4 9 "HallSheets$Recount" "best" "[I" ∈ TBL := List.mem_filter.mpr ⟨List.mem_append_right _ (List.mem_of_getElem? (i := 259) (by decide +kernel)), by decide +kernel⟩
theorem wd_336 : Cond.fieldLink RX8 253 "HallSheets$Recount" "best" "[I" ∈ TBL := List.mem_filter.mpr ⟨List.mem_append_right _ (List.mem_of_getElem? (i := 260) (by decide +kernel)), by decide +kernel⟩
theorem wd_337 : Cond.fieldLink RX4 15 "HallSheets$Recount" "chosen" "[I" ∈ TBL := List.mem_filter.mpr ⟨List.mem_append_right _ (List.mem_of_getElem? (i := 261) (by decide +kernel)), by decide +kernel⟩
theorem wd_338 : Cond.fieldLink RX8 256 "HallSheets$Recount" "chosen" "[I" ∈ TBL := List.mem_filter.mpr ⟨List.mem_append_right _ (List.mem_of_getElem? (i := 262) (by decide +kernel)), by decide +kernel⟩
theorem wd_344 : Cond.classLink RX8 42 RX2 ∈ TBL := List.mem_filter.mpr ⟨List.mem_append_right _ (List.mem_of_getElem? (i := 268) (by decide +kernel)), by decide +kernel⟩
theorem wd_345 : Cond.instantiable RX2 5 ∈ TBL := List.mem_filter.mpr ⟨List.mem_append_right _ (List.mem_of_getElem? (i := 269) (by decide +kernel)), by decide +kernel⟩
theorem wd_346 : Cond.methodLinkNest RX8 44 yX2_init "HallSheets" ∈ NST := List.mem_filter.mpr ⟨List.mem_append_right _ (List.mem_of_getElem? (i := 270) (by decide +kernel)), by decide +kernel⟩
theorem wd_347 : Cond.instanceMethod yX2_init ∈ TBL := List.mem_filter.mpr ⟨List.mem_append_right _ (List.mem_of_getElem? (i := 271) (by decide +kernel)), by decide +kernel⟩
theorem wd_348 : Cond.code yX2_init cX2_init 1 none ∈ TBL := List.mem_filter.mpr ⟨List.mem_append_right _ (List.mem_of_getElem? (i := 272) (by decide +kernel)), by decide +kernel⟩
theorem wd_349 : Cond.methodLink RX2 1 Lib.objectInit ∈ TBL := List.mem_filter.mpr ⟨List.mem_append_right _ (List.mem_of_getElem? (i := 273) (by decide +kernel)), by decide +kernel⟩
theorem wd_350 : Cond.fieldLink RX2 9 "HallSheets$MarkGrammar" "state" "I" ∈ TBL := List.mem_filter.mpr ⟨List.mem_append_right _ (List.mem_of_getElem? (i := 274) (by decide +kernel)), by decide +kernel⟩
theorem wd_351 : Cond.fieldLink RX2 13 "HallSheets$MarkGrammar" "depth" "I" ∈ TBL := List.mem_filter.mpr ⟨List.mem_append_right _ (List.mem_of_getElem? (i := 275) (by decide +kernel)), by decide +kernel⟩
theorem wd_352 : Cond.fieldLink RX2 24 "HallSheets$MarkGrammar" "compared" "Z" ∈ TBL := List.mem_filter.mpr ⟨List.mem_append_right _ (List.mem_of_getElem? (i := 276) (by decide +kernel)), by decide +kernel⟩
theorem wd_353 : Cond.fieldLink RX2 49 "HallSheets$MarkGrammar" "digits" "I" ∈ TBL := List.mem_filter.mpr ⟨List.mem_append_right _ (List.mem_of_getElem? (i := 277) (by decide +kernel)), by decide +kernel⟩
theorem wd_354 : Cond.fieldLink RX2 52 "HallSheets$MarkGrammar" "zeroAhead" "Z" ∈ TBL := List.mem_filter.mpr ⟨List.mem_append_right _ (List.mem_of_getElem? (i := 278) (by decide +kernel)), by decide +kernel⟩
theorem wd_366 : Cond.instantiable RX6 7 ∈ TBL := List.mem_filter.mpr ⟨List.mem_append_right _ (List.mem_of_getElem? (i := 290) (by decide +kernel)), by decide +kernel⟩
theorem wd_367 : Cond.methodLinkNest RX8 49 yX6_init "HallSheets" ∈ NST := List.mem_filter.mpr ⟨List.mem_append_right _ (List.mem_of_getElem? (i := 291) (by decide +kernel)), by decide +kernel⟩
theorem wd_368 : Cond.instanceMethod yX6_init ∈ TBL := List.mem_filter.mpr ⟨List.mem_append_right _ (List.mem_of_getElem? (i := 292) (by decide +kernel)), by decide +kernel⟩
theorem wd_369 : Cond.code yX6_init cX6_init 1 none ∈ TBL := List.mem_filter.mpr ⟨List.mem_append_right _ (List.mem_of_getElem? (i := 293) (by decide +kernel)), by decide +kernel⟩
theorem wd_370 : Cond.methodLink RX6 3 Lib.objectInit ∈ TBL := List.mem_filter.mpr ⟨List.mem_append_right _ (List.mem_of_getElem? (i := 294) (by decide +kernel)), by decide +kernel⟩
theorem wd_371 : Cond.classLink RX6 15 RX5 ∈ TBL := List.mem_filter.mpr ⟨List.mem_append_right _ (List.mem_of_getElem? (i := 295) (by decide +kernel)), by decide +kernel⟩
theorem wd_372 : Cond.methodLinkNest RX6 17 yX5_init "HallSheets" ∈ NST := List.mem_filter.mpr ⟨List.mem_append_right _ (List.mem_of_getElem? (i := 296) (by decide +kernel)), by decide +kernel⟩
theorem wd_373 : Cond.fieldLink RX6 11 "HallSheets$Shelf" "held" "I" ∈ TBL := List.mem_filter.mpr ⟨List.mem_append_right _ (List.mem_of_getElem? (i := 297) (by decide +kernel)), by decide +kernel⟩
theorem wd_374 : Cond.fieldLink RX8 308 "HallSheets$Shelf" "held" "I" ∈ TBL := List.mem_filter.mpr ⟨List.mem_append_right _ (List.mem_of_getElem? (i := 298) (by decide +kernel)), by decide +kernel⟩
theorem wd_375 : Cond.fieldLink RX6 18 "HallSheets$Shelf" "sheet" "LHallSheets$Sheet;" ∈ TBL := List.mem_filter.mpr ⟨List.mem_append_right _ (List.mem_of_getElem? (i := 299) (by decide +kernel)), by decide +kernel⟩
theorem wd_376 : Cond.fieldLink RX8 351 "HallSheets$Shelf" "sheet" "LHallSheets$Sheet;" ∈ TBL := List.mem_filter.mpr ⟨List.mem_append_right _ (List.mem_of_getElem? (i := 300) (by decide +kernel)), by decide +kernel⟩
theorem wd_377 : Cond.fieldLink RX6 26 "HallSheets$Shelf" "hall" "I" ∈ TBL := List.mem_filter.mpr ⟨List.mem_append_right _ (List.mem_of_getElem? (i := 301) (by decide +kernel)), by decide +kernel⟩
theorem wd_378 : Cond.fieldLink RX6 34 "HallSheets$Shelf" "trueCame" "I" ∈ TBL := List.mem_filter.mpr ⟨List.mem_append_right _ (List.mem_of_getElem? (i := 302) (by decide +kernel)), by decide +kernel⟩
theorem wd_379 : Cond.fieldLink RX6 40 "HallSheets$Shelf" "sort" "I" ∈ TBL := List.mem_filter.mpr ⟨List.mem_append_right _ (List.mem_of_getElem? (i := 303) (by decide +kernel)), by decide +kernel⟩
theorem wd_380 : Cond.fieldLink RX8 366 "HallSheets$Shelf" "sort" "I" ∈ TBL := List.mem_filter.mpr ⟨List.mem_append_right _ (List.mem_of_getElem? (i := 304) (by decide +kernel)), by decide +kernel⟩
theorem wd_381 : Cond.fieldLink RX6 43 "HallSheets$Shelf" "size" "I" ∈ TBL := List.mem_filter.mpr ⟨List.mem_append_right _ (List.mem_of_getElem? (i := 305) (by decide +kernel)), by decide +kernel⟩
theorem wd_382 : Cond.fieldLink RX8 274 "HallSheets$Shelf" "size" "I" ∈ TBL := List.mem_filter.mpr ⟨List.mem_append_right _ (List.mem_of_getElem? (i := 306) (by decide +kernel)), by decide +kernel⟩
theorem wd_383 : Cond.fieldLink RX6 22 "HallSheets$Shelf" "elements" "[I" ∈ TBL := List.mem_filter.mpr ⟨List.mem_append_right _ (List.mem_of_getElem? (i := 307) (by decide +kernel)), by decide +kernel⟩
theorem wd_384 : Cond.fieldLink RX8 139 "HallSheets$Shelf" "elements" "[I" ∈ TBL := List.mem_filter.mpr ⟨List.mem_append_right _ (List.mem_of_getElem? (i := 308) (by decide +kernel)), by decide +kernel⟩
theorem wd_400 : Cond.fieldLink RX8 10 "HallSheets" "now" "LHallSheets$Country;" ∈ TBL := List.mem_filter.mpr ⟨List.mem_append_right _ (List.mem_of_getElem? (i := 324) (by decide +kernel)), by decide +kernel⟩
theorem wd_401 : Cond.fieldLink RX8 16 "HallSheets" "then" "LHallSheets$Country;" ∈ TBL := List.mem_filter.mpr ⟨List.mem_append_right _ (List.mem_of_getElem? (i := 325) (by decide +kernel)), by decide +kernel⟩
theorem wd_402 : Cond.fieldLink RX8 19 "HallSheets" "mind" "LHallSheets$Country;" ∈ TBL := List.mem_filter.mpr ⟨List.mem_append_right _ (List.mem_of_getElem? (i := 326) (by decide +kernel)), by decide +kernel⟩
theorem wd_403 : Cond.fieldLink RX8 293 "HallSheets" "imageTaken" "Z" ∈ TBL := List.mem_filter.mpr ⟨List.mem_append_right _ (List.mem_of_getElem? (i := 327) (by decide +kernel)), by decide +kernel⟩
theorem wd_404 : Cond.fieldLink RX8 24 "HallSheets" "shelves" "[LHallSheets$Shelf;" ∈ TBL := List.mem_filter.mpr ⟨List.mem_append_right _ (List.mem_of_getElem? (i := 328) (by decide +kernel)), by decide +kernel⟩
theorem wd_405 : Cond.fieldLink RX8 31 "HallSheets" "watchers" "LHallSheets$Watchers;" ∈ TBL := List.mem_filter.mpr ⟨List.mem_append_right _ (List.mem_of_getElem? (i := 329) (by decide +kernel)), by decide +kernel⟩
theorem wd_406 : Cond.fieldLink RX8 38 "HallSheets" "recount" "LHallSheets$Recount;" ∈ TBL := List.mem_filter.mpr ⟨List.mem_append_right _ (List.mem_of_getElem? (i := 330) (by decide +kernel)), by decide +kernel⟩
theorem wd_407 : Cond.fieldLink RX8 45 "HallSheets" "grammar" "LHallSheets$MarkGrammar;" ∈ TBL := List.mem_filter.mpr ⟨List.mem_append_right _ (List.mem_of_getElem? (i := 331) (by decide +kernel)), by decide +kernel⟩
theorem wd_425 : Cond.methodLink RL 21 yX8_hall ∈ TBL := List.mem_filter.mpr ⟨List.mem_append_right _ (List.mem_of_getElem? (i := 349) (by decide +kernel)), by decide +kernel⟩
theorem wd_426 : Cond.instanceMethod yX8_hall ∈ TBL := List.mem_filter.mpr ⟨List.mem_append_right _ (List.mem_of_getElem? (i := 350) (by decide +kernel)), by decide +kernel⟩
theorem wd_427 : Cond.selects RX8 yX8_hall yX8_hall ∈ TBL := List.mem_filter.mpr ⟨List.mem_append_right _ (List.mem_of_getElem? (i := 351) (by decide +kernel)), by decide +kernel⟩
theorem wd_428 : Cond.code yX8_hall cX8_hall 4 (some .int) ∈ TBL := List.mem_filter.mpr ⟨List.mem_append_right _ (List.mem_of_getElem? (i := 352) (by decide +kernel)), by decide +kernel⟩
theorem wd_429 : Cond.methodLink RX8 50 yX8_within ∈ TBL := List.mem_filter.mpr ⟨List.mem_append_right _ (List.mem_of_getElem? (i := 353) (by decide +kernel)), by decide +kernel⟩
theorem wd_430 : Cond.static yX8_within ∈ TBL := List.mem_filter.mpr ⟨List.mem_append_right _ (List.mem_of_getElem? (i := 354) (by decide +kernel)), by decide +kernel⟩
theorem wd_431 : Cond.code yX8_within cX8_within 3 (some .boolean) ∈ TBL := List.mem_filter.mpr ⟨List.mem_append_right _ (List.mem_of_getElem? (i := 355) (by decide +kernel)), by decide +kernel⟩
theorem wd_432 : Cond.methodLink RX8 54 yX0_addHall ∈ TBL := List.mem_filter.mpr ⟨List.mem_append_right _ (List.mem_of_getElem? (i := 356) (by decide +kernel)), by decide +kernel⟩
theorem wd_433 : Cond.instanceMethod yX0_addHall ∈ TBL := List.mem_filter.mpr ⟨List.mem_append_right _ (List.mem_of_getElem? (i := 357) (by decide +kernel)), by decide +kernel⟩
theorem wd_434 : Cond.selects RX0 yX0_addHall yX0_addHall ∈ TBL := List.mem_filter.mpr ⟨List.mem_append_right _ (List.mem_of_getElem? (i := 358) (by decide +kernel)), by decide +kernel⟩
theorem wd_435 : Cond.code yX0_addHall cX0_addHall 4 (some .int) ∈ TBL := List.mem_filter.mpr ⟨List.mem_append_right _ (List.mem_of_getElem? (i := 359) (by decide +kernel)), by decide +kernel⟩
theorem wd_436 : Cond.methodLink RX0 74 yX1_begin ∈ TBL := List.mem_filter.mpr ⟨List.mem_append_right _ (List.mem_of_getElem? (i := 360) (by decide +kernel)), by decide +kernel⟩
theorem wd_437 : Cond.instanceMethod yX1_begin ∈ TBL := List.mem_filter.mpr ⟨List.mem_append_right _ (List.mem_of_getElem? (i := 361) (by decide +kernel)), by decide +kernel⟩
theorem wd_438 : Cond.selects RX1 yX1_begin yX1_begin ∈ TBL := List.mem_filter.mpr ⟨List.mem_append_right _ (List.mem_of_getElem? (i := 362) (by decide +kernel)), by decide +kernel⟩
theorem wd_439 : Cond.code yX1_begin cX1_begin 4 none ∈ TBL := List.mem_filter.mpr ⟨List.mem_append_right _ (List.mem_of_getElem? (i := 363) (by decide +kernel)), by decide +kernel⟩
theorem wd_440 : Cond.methodLink RL 26 yX8_truly ∈ TBL := List.mem_filter.mpr ⟨List.mem_append_right _ (List.mem_of_getElem? (i := 364) (by decide +kernel)), by decide +kernel⟩
theorem wd_441 : Cond.instanceMethod yX8_truly ∈ TBL := List.mem_filter.mpr ⟨List.mem_append_right _ (List.mem_of_getElem? (i := 365) (by decide +kernel)), by decide +kernel⟩
theorem wd_442 : Cond.selects RX8 yX8_truly yX8_truly ∈ TBL := List.mem_filter.mpr ⟨List.mem_append_right _ (List.mem_of_getElem? (i := 366) (by decide +kernel)), by decide +kernel⟩
theorem wd_443 : Cond.code yX8_truly cX8_truly 6 (some .int) ∈ TBL := List.mem_filter.mpr ⟨List.mem_append_right _ (List.mem_of_getElem? (i := 367) (by decide +kernel)), by decide +kernel⟩
theorem wd_444 : Cond.methodLink RX8 58 yX0_isHall ∈ TBL := List.mem_filter.mpr ⟨List.mem_append_right _ (List.mem_of_getElem? (i := 368) (by decide +kernel)), by decide +kernel⟩
theorem wd_445 : Cond.instanceMethod yX0_isHall ∈ TBL := List.mem_filter.mpr ⟨List.mem_append_right _ (List.mem_of_getElem? (i := 369) (by decide +kernel)), by decide +kernel⟩
theorem wd_446 : Cond.selects RX0 yX0_isHall yX0_isHall ∈ TBL := List.mem_filter.mpr ⟨List.mem_append_right _ (List.mem_of_getElem? (i := 370) (by decide +kernel)), by decide +kernel⟩
theorem wd_447 : Cond.code yX0_isHall cX0_isHall 2 (some .boolean) ∈ TBL := List.mem_filter.mpr ⟨List.mem_append_right _ (List.mem_of_getElem? (i := 371) (by decide +kernel)), by decide +kernel⟩
theorem wd_448 : Cond.methodLinkNest RX0 70 yX8_within "HallSheets" ∈ NST := List.mem_filter.mpr ⟨List.mem_append_right _ (List.mem_of_getElem? (i := 372) (by decide +kernel)), by decide +kernel⟩
theorem wd_449 : Cond.methodLink RL 30 yX8_sheet ∈ TBL := List.mem_filter.mpr ⟨List.mem_append_right _ (List.mem_of_getElem? (i := 373) (by decide +kernel)), by decide +kernel⟩
theorem wd_450 : Cond.instanceMethod yX8_sheet ∈ TBL := List.mem_filter.mpr ⟨List.mem_append_right _ (List.mem_of_getElem? (i := 374) (by decide +kernel)), by decide +kernel⟩
theorem wd_451 : Cond.selects RX8 yX8_sheet yX8_sheet ∈ TBL := List.mem_filter.mpr ⟨List.mem_append_right _ (List.mem_of_getElem? (i := 375) (by decide +kernel)), by decide +kernel⟩
theorem wd_452 : Cond.code yX8_sheet cX8_sheet 6 (some .int) ∈ TBL := List.mem_filter.mpr ⟨List.mem_append_right _ (List.mem_of_getElem? (i := 376) (by decide +kernel)), by decide +kernel⟩
theorem wd_453 : Cond.methodLink RL 34 yX8_set ∈ TBL := List.mem_filter.mpr ⟨List.mem_append_right _ (List.mem_of_getElem? (i := 377) (by decide +kernel)), by decide +kernel⟩
theorem wd_454 : Cond.instanceMethod yX8_set ∈ TBL := List.mem_filter.mpr ⟨List.mem_append_right _ (List.mem_of_getElem? (i := 378) (by decide +kernel)), by decide +kernel⟩
theorem wd_455 : Cond.selects RX8 yX8_set yX8_set ∈ TBL := List.mem_filter.mpr ⟨List.mem_append_right _ (List.mem_of_getElem? (i := 379) (by decide +kernel)), by decide +kernel⟩
theorem wd_456 : Cond.code yX8_set cX8_set 4 (some .int) ∈ TBL := List.mem_filter.mpr ⟨List.mem_append_right _ (List.mem_of_getElem? (i := 380) (by decide +kernel)), by decide +kernel⟩
theorem wd_457 : Cond.methodLink RX8 90 yX0_mostOfLaw ∈ TBL := List.mem_filter.mpr ⟨List.mem_append_right _ (List.mem_of_getElem? (i := 381) (by decide +kernel)), by decide +kernel⟩
theorem wd_458 : Cond.static yX0_mostOfLaw ∈ TBL := List.mem_filter.mpr ⟨List.mem_append_right _ (List.mem_of_getElem? (i := 382) (by decide +kernel)), by decide +kernel⟩
theorem wd_459 : Cond.code yX0_mostOfLaw cX0_mostOfLaw 1 (some .int) ∈ TBL := List.mem_filter.mpr ⟨List.mem_append_right _ (List.mem_of_getElem? (i := 383) (by decide +kernel)), by decide +kernel⟩
theorem wd_460 : Cond.methodLink RL 39 yX8_of ∈ TBL := List.mem_filter.mpr ⟨List.mem_append_right _ (List.mem_of_getElem? (i := 384) (by decide +kernel)), by decide +kernel⟩
theorem wd_461 : Cond.instanceMethod yX8_of ∈ TBL := List.mem_filter.mpr ⟨List.mem_append_right _ (List.mem_of_getElem? (i := 385) (by decide +kernel)), by decide +kernel⟩
theorem wd_462 : Cond.selects RX8 yX8_of yX8_of ∈ TBL := List.mem_filter.mpr ⟨List.mem_append_right _ (List.mem_of_getElem? (i := 386) (by decide +kernel)), by decide +kernel⟩
theorem wd_463 : Cond.code yX8_of cX8_of 4 (some .int) ∈ TBL := List.mem_filter.mpr ⟨List.mem_append_right _ (List.mem_of_getElem? (i := 387) (by decide +kernel)), by decide +kernel⟩
theorem wd_464 : Cond.methodLink RX8 98 yX1_toldCame ∈ TBL := List.mem_filter.mpr ⟨List.mem_append_right _ (List.mem_of_getElem? (i := 388) (by decide +kernel)), by decide +kernel⟩
theorem wd_465 : Cond.instanceMethod yX1_toldCame ∈ TBL := List.mem_filter.mpr ⟨List.mem_append_right _ (List.mem_of_getElem? (i := 389) (by decide +kernel)), by decide +kernel⟩
theorem wd_466 : Cond.selects RX1 yX1_toldCame yX1_toldCame ∈ TBL := List.mem_filter.mpr ⟨List.mem_append_right _ (List.mem_of_getElem? (i := 390) (by decide +kernel)), by decide +kernel⟩
theorem wd_467 : Cond.code yX1_toldCame cX1_toldCame 1 (some .int) ∈ TBL := List.mem_filter.mpr ⟨List.mem_append_right _ (List.mem_of_getElem? (i := 391) (by decide +kernel)), by decide +kernel⟩
theorem wd_468 : Cond.methodLink RX1 63 yX5_tellsCame ∈ TBL := List.mem_filter.mpr ⟨List.mem_append_right _ (List.mem_of_getElem? (i := 392) (by decide +kernel)), by decide +kernel⟩
theorem wd_469 : Cond.instanceMethod yX5_tellsCame ∈ TBL := List.mem_filter.mpr ⟨List.mem_append_right _ (List.mem_of_getElem? (i := 393) (by decide +kernel)), by decide +kernel⟩
theorem wd_470 : Cond.selects RX5 yX5_tellsCame yX5_tellsCame ∈ TBL := List.mem_filter.mpr ⟨List.mem_append_right _ (List.mem_of_getElem? (i := 394) (by decide +kernel)), by decide +kernel⟩
theorem wd_471 : Cond.code yX5_tellsCame cX5_tellsCame 3 (some .int) ∈ TBL := List.mem_filter.mpr ⟨List.mem_append_right _ (List.mem_of_getElem? (i := 395) (by decide +kernel)), by decide +kernel⟩
theorem wd_472 : Cond.methodLink RX5 16 yX5_toTen ∈ TBL := List.mem_filter.mpr ⟨List.mem_append_right _ (List.mem_of_getElem? (i := 396) (by decide +kernel)), by decide +kernel⟩
theorem wd_473 : Cond.static yX5_toTen ∈ TBL := List.mem_filter.mpr ⟨List.mem_append_right _ (List.mem_of_getElem? (i := 397) (by decide +kernel)), by decide +kernel⟩
theorem wd_474 : Cond.code yX5_toTen cX5_toTen 1 (some .int) ∈ TBL := List.mem_filter.mpr ⟨List.mem_append_right _ (List.mem_of_getElem? (i := 398) (by decide +kernel)), by decide +kernel⟩
theorem wd_475 : Cond.methodLink RX5 20 Lib.Math.min.name ∈ TBL := List.mem_filter.mpr ⟨List.mem_append_right _ (List.mem_of_getElem? (i := 399) (by decide +kernel)), by decide +kernel⟩
theorem wd_476 : Cond.static Lib.Math.min.name ∈ TBL := List.mem_filter.mpr ⟨List.mem_append_right _ (List.mem_of_getElem? (i := 400) (by decide +kernel)), by decide +kernel⟩
theorem wd_477 : Cond.code Lib.Math.min.name Lib.Math.min.code 2 (some .int) ∈ TBL := List.mem_filter.mpr ⟨List.mem_append_right _ (List.mem_of_getElem? (i := 401) (by decide +kernel)), by decide +kernel⟩
theorem wd_478 : Cond.methodLink RX8 102 yX1_toldOurs ∈ TBL := List.mem_filter.mpr ⟨List.mem_append_right _ (List.mem_of_getElem? (i := 402) (by decide +kernel)), by decide +kernel⟩
theorem wd_479 : Cond.instanceMethod yX1_toldOurs ∈ TBL := List.mem_filter.mpr ⟨List.mem_append_right _ (List.mem_of_getElem? (i := 403) (by decide +kernel)), by decide +kernel⟩
theorem wd_480 : Cond.selects RX1 yX1_toldOurs yX1_toldOurs ∈ TBL := List.mem_filter.mpr ⟨List.mem_append_right _ (List.mem_of_getElem? (i := 404) (by decide +kernel)), by decide +kernel⟩
theorem wd_481 : Cond.code yX1_toldOurs cX1_toldOurs 2 (some .int) ∈ TBL := List.mem_filter.mpr ⟨List.mem_append_right _ (List.mem_of_getElem? (i := 405) (by decide +kernel)), by decide +kernel⟩
theorem wd_482 : Cond.methodLink RX1 67 yX5_tellsOurs ∈ TBL := List.mem_filter.mpr ⟨List.mem_append_right _ (List.mem_of_getElem? (i := 406) (by decide +kernel)), by decide +kernel⟩
theorem wd_483 : Cond.instanceMethod yX5_tellsOurs ∈ TBL := List.mem_filter.mpr ⟨List.mem_append_right _ (List.mem_of_getElem? (i := 407) (by decide +kernel)), by decide +kernel⟩
theorem wd_484 : Cond.selects RX5 yX5_tellsOurs yX5_tellsOurs ∈ TBL := List.mem_filter.mpr ⟨List.mem_append_right _ (List.mem_of_getElem? (i := 408) (by decide +kernel)), by decide +kernel⟩
theorem wd_485 : Cond.code yX5_tellsOurs cX5_tellsOurs 5 (some .int) ∈ TBL := List.mem_filter.mpr ⟨List.mem_append_right _ (List.mem_of_getElem? (i := 409) (by decide +kernel)), by decide +kernel⟩
theorem wd_486 : Cond.methodLink RX5 26 yX5_tellsCame ∈ TBL := List.mem_filter.mpr ⟨List.mem_append_right _ (List.mem_of_getElem? (i := 410) (by decide +kernel)), by decide +kernel⟩
theorem wd_487 : Cond.methodLink RX5 29 yX5_madeOurs ∈ TBL := List.mem_filter.mpr ⟨List.mem_append_right _ (List.mem_of_getElem? (i := 411) (by decide +kernel)), by decide +kernel⟩
theorem wd_489 : Cond.instanceMethod yX5_madeOurs ∈ TBL := List.mem_filter.mpr ⟨List.mem_append_right _ (List.mem_of_getElem? (i := 413) (by decide +kernel)), by decide +kernel⟩
theorem wd_490 : Cond.code yX5_madeOurs cX5_madeOurs 5 (some .int) ∈ TBL := List.mem_filter.mpr ⟨List.mem_append_right _ (List.mem_of_getElem? (i := 414) (by decide +kernel)), by decide +kernel⟩
theorem wd_491 : Cond.methodLink RX5 32 yX5_copiedOurs ∈ TBL := List.mem_filter.mpr ⟨List.mem_append_right _ (List.mem_of_getElem? (i := 415) (by decide +kernel)), by decide +kernel⟩
theorem wd_492 : Cond.static yX5_copiedOurs ∈ TBL := List.mem_filter.mpr ⟨List.mem_append_right _ (List.mem_of_getElem? (i := 416) (by decide +kernel)), by decide +kernel⟩
theorem wd_493 : Cond.code yX5_copiedOurs cX5_copiedOurs 3 (some .int) ∈ TBL := List.mem_filter.mpr ⟨List.mem_append_right _ (List.mem_of_getElem? (i := 417) (by decide +kernel)), by decide +kernel⟩
theorem wd_494 : Cond.methodLink RX8 115 yX1_share ∈ TBL := List.mem_filter.mpr ⟨List.mem_append_right _ (List.mem_of_getElem? (i := 418) (by decide +kernel)), by decide +kernel⟩
theorem wd_495 : Cond.instanceMethod yX1_share ∈ TBL := List.mem_filter.mpr ⟨List.mem_append_right _ (List.mem_of_getElem? (i := 419) (by decide +kernel)), by decide +kernel⟩
theorem wd_496 : Cond.selects RX1 yX1_share yX1_share ∈ TBL := List.mem_filter.mpr ⟨List.mem_append_right _ (List.mem_of_getElem? (i := 420) (by decide +kernel)), by decide +kernel⟩
theorem wd_497 : Cond.code yX1_share cX1_share 1 (some .int) ∈ TBL := List.mem_filter.mpr ⟨List.mem_append_right _ (List.mem_of_getElem? (i := 421) (by decide +kernel)), by decide +kernel⟩
theorem wd_498 : Cond.methodLinkNest RX1 71 yX8_shareOf "HallSheets" ∈ NST := List.mem_filter.mpr ⟨List.mem_append_right _ (List.mem_of_getElem? (i := 422) (by decide +kernel)), by decide +kernel⟩
theorem wd_499 : Cond.static yX8_shareOf ∈ TBL := List.mem_filter.mpr ⟨List.mem_append_right _ (List.mem_of_getElem? (i := 423) (by decide +kernel)), by decide +kernel⟩
theorem wd_500 : Cond.code yX8_shareOf cX8_shareOf 2 (some .int) ∈ TBL := List.mem_filter.mpr ⟨List.mem_append_right _ (List.mem_of_getElem? (i := 424) (by decide +kernel)), by decide +kernel⟩
theorem wd_501 : Cond.methodLink RL 43 yX8_send ∈ TBL := List.mem_filter.mpr ⟨List.mem_append_right _ (List.mem_of_getElem? (i := 425) (by decide +kernel)), by decide +kernel⟩
theorem wd_502 : Cond.instanceMethod yX8_send ∈ TBL := List.mem_filter.mpr ⟨List.mem_append_right _ (List.mem_of_getElem? (i := 426) (by decide +kernel)), by decide +kernel⟩
theorem wd_503 : Cond.selects RX8 yX8_send yX8_send ∈ TBL := List.mem_filter.mpr ⟨List.mem_append_right _ (List.mem_of_getElem? (i := 427) (by decide +kernel)), by decide +kernel⟩
theorem wd_504 : Cond.code yX8_send cX8_send 5 (some .int) ∈ TBL := List.mem_filter.mpr ⟨List.mem_append_right _ (List.mem_of_getElem? (i := 428) (by decide +kernel)), by decide +kernel⟩
theorem wd_505 : Cond.methodLink RX8 121 yX1_write ∈ TBL := List.mem_filter.mpr ⟨List.mem_append_right _ (List.mem_of_getElem? (i := 429) (by decide +kernel)), by decide +kernel⟩
theorem wd_506 : Cond.instanceMethod yX1_write ∈ TBL := List.mem_filter.mpr ⟨List.mem_append_right _ (List.mem_of_getElem? (i := 430) (by decide +kernel)), by decide +kernel⟩
theorem wd_507 : Cond.selects RX1 yX1_write yX1_write ∈ TBL := List.mem_filter.mpr ⟨List.mem_append_right _ (List.mem_of_getElem? (i := 431) (by decide +kernel)), by decide +kernel⟩
theorem wd_508 : Cond.code yX1_write cX1_write 3 none ∈ TBL := List.mem_filter.mpr ⟨List.mem_append_right _ (List.mem_of_getElem? (i := 432) (by decide +kernel)), by decide +kernel⟩
theorem wd_509 : Cond.methodLink RX8 125 yX0_writtenCount ∈ TBL := List.mem_filter.mpr ⟨List.mem_append_right _ (List.mem_of_getElem? (i := 433) (by decide +kernel)), by decide +kernel⟩
theorem wd_510 : Cond.instanceMethod yX0_writtenCount ∈ TBL := List.mem_filter.mpr ⟨List.mem_append_right _ (List.mem_of_getElem? (i := 434) (by decide +kernel)), by decide +kernel⟩
theorem wd_511 : Cond.selects RX0 yX0_writtenCount yX0_writtenCount ∈ TBL := List.mem_filter.mpr ⟨List.mem_append_right _ (List.mem_of_getElem? (i := 435) (by decide +kernel)), by decide +kernel⟩
theorem wd_512 : Cond.code yX0_writtenCount cX0_writtenCount 3 (some .int) ∈ TBL := List.mem_filter.mpr ⟨List.mem_append_right _ (List.mem_of_getElem? (i := 436) (by decide +kernel)), by decide +kernel⟩
theorem wd_513 : Cond.methodLink RL 48 yX8_hear ∈ TBL := List.mem_filter.mpr ⟨List.mem_append_right _ (List.mem_of_getElem? (i := 437) (by decide +kernel)), by decide +kernel⟩
theorem wd_514 : Cond.instanceMethod yX8_hear ∈ TBL := List.mem_filter.mpr ⟨List.mem_append_right _ (List.mem_of_getElem? (i := 438) (by decide +kernel)), by decide +kernel⟩
theorem wd_515 : Cond.selects RX8 yX8_hear yX8_hear ∈ TBL := List.mem_filter.mpr ⟨List.mem_append_right _ (List.mem_of_getElem? (i := 439) (by decide +kernel)), by decide +kernel⟩
theorem wd_516 : Cond.code yX8_hear cX8_hear 5 (some .int) ∈ TBL := List.mem_filter.mpr ⟨List.mem_append_right _ (List.mem_of_getElem? (i := 440) (by decide +kernel)), by decide +kernel⟩
theorem wd_517 : Cond.methodLink RX8 128 yX8_rowsRefusal ∈ TBL := List.mem_filter.mpr ⟨List.mem_append_right _ (List.mem_of_getElem? (i := 441) (by decide +kernel)), by decide +kernel⟩
theorem wd_519 : Cond.instanceMethod yX8_rowsRefusal ∈ TBL := List.mem_filter.mpr ⟨List.mem_append_right _ (List.mem_of_getElem? (i := 443) (by decide +kernel)), by decide +kernel⟩
theorem wd_520 : Cond.code yX8_rowsRefusal cX8_rowsRefusal 3 (some .int) ∈ TBL := List.mem_filter.mpr ⟨List.mem_append_right _ (List.mem_of_getElem? (i := 444) (by decide +kernel)), by decide +kernel⟩
theorem wd_521 : Cond.methodLink RX8 281 yX8_isShelf ∈ TBL := List.mem_filter.mpr ⟨List.mem_append_right _ (List.mem_of_getElem? (i := 445) (by decide +kernel)), by decide +kernel⟩
theorem wd_522 : Cond.static yX8_isShelf ∈ TBL := List.mem_filter.mpr ⟨List.mem_append_right _ (List.mem_of_getElem? (i := 446) (by decide +kernel)), by decide +kernel⟩
theorem wd_523 : Cond.code yX8_isShelf cX8_isShelf 1 (some .boolean) ∈ TBL := List.mem_filter.mpr ⟨List.mem_append_right _ (List.mem_of_getElem? (i := 447) (by decide +kernel)), by decide +kernel⟩
theorem wd_524 : Cond.methodLink RX8 132 yX8_hearOne ∈ TBL := List.mem_filter.mpr ⟨List.mem_append_right _ (List.mem_of_getElem? (i := 448) (by decide +kernel)), by decide +kernel⟩
theorem wd_525 : Cond.static yX8_hearOne ∈ TBL := List.mem_filter.mpr ⟨List.mem_append_right _ (List.mem_of_getElem? (i := 449) (by decide +kernel)), by decide +kernel⟩
theorem wd_526 : Cond.code yX8_hearOne cX8_hearOne 5 none ∈ TBL := List.mem_filter.mpr ⟨List.mem_append_right _ (List.mem_of_getElem? (i := 450) (by decide +kernel)), by decide +kernel⟩
theorem wd_527 : Cond.methodLink RX8 136 yX6_tellsNumber ∈ TBL := List.mem_filter.mpr ⟨List.mem_append_right _ (List.mem_of_getElem? (i := 451) (by decide +kernel)), by decide +kernel⟩
theorem wd_528 : Cond.instanceMethod yX6_tellsNumber ∈ TBL := List.mem_filter.mpr ⟨List.mem_append_right _ (List.mem_of_getElem? (i := 452) (by decide +kernel)), by decide +kernel⟩
theorem wd_529 : Cond.selects RX6 yX6_tellsNumber yX6_tellsNumber ∈ TBL := List.mem_filter.mpr ⟨List.mem_append_right _ (List.mem_of_getElem? (i := 453) (by decide +kernel)), by decide +kernel⟩
theorem wd_530 : Cond.code yX6_tellsNumber cX6_tellsNumber 2 (some .boolean) ∈ TBL := List.mem_filter.mpr ⟨List.mem_append_right _ (List.mem_of_getElem? (i := 454) (by decide +kernel)), by decide +kernel⟩
theorem wd_531 : Cond.methodLink RX6 56 yX6_hasPlace ∈ TBL := List.mem_filter.mpr ⟨List.mem_append_right _ (List.mem_of_getElem? (i := 455) (by decide +kernel)), by decide +kernel⟩
theorem wd_532 : Cond.instanceMethod yX6_hasPlace ∈ TBL := List.mem_filter.mpr ⟨List.mem_append_right _ (List.mem_of_getElem? (i := 456) (by decide +kernel)), by decide +kernel⟩
theorem wd_533 : Cond.selects RX6 yX6_hasPlace yX6_hasPlace ∈ TBL := List.mem_filter.mpr ⟨List.mem_append_right _ (List.mem_of_getElem? (i := 457) (by decide +kernel)), by decide +kernel⟩
theorem wd_534 : Cond.code yX6_hasPlace cX6_hasPlace 2 (some .boolean) ∈ TBL := List.mem_filter.mpr ⟨List.mem_append_right _ (List.mem_of_getElem? (i := 458) (by decide +kernel)), by decide +kernel⟩
theorem wd_535 : Cond.methodLinkNest RX6 52 yX8_within "HallSheets" ∈ NST := List.mem_filter.mpr ⟨List.mem_append_right _ (List.mem_of_getElem? (i := 459) (by decide +kernel)), by decide +kernel⟩
theorem wd_536 : Cond.methodLink RX6 60 yX6_leastNumber ∈ TBL := List.mem_filter.mpr ⟨List.mem_append_right _ (List.mem_of_getElem? (i := 460) (by decide +kernel)), by decide +kernel⟩
theorem wd_538 : Cond.instanceMethod yX6_leastNumber ∈ TBL := List.mem_filter.mpr ⟨List.mem_append_right _ (List.mem_of_getElem? (i := 462) (by decide +kernel)), by decide +kernel⟩
theorem wd_539 : Cond.code yX6_leastNumber cX6_leastNumber 1 (some .int) ∈ TBL := List.mem_filter.mpr ⟨List.mem_append_right _ (List.mem_of_getElem? (i := 463) (by decide +kernel)), by decide +kernel⟩
theorem wd_540 : Cond.constant RX6 64 (-2147483648) ∈ TBL := List.mem_filter.mpr ⟨List.mem_append_right _ (List.mem_of_getElem? (i := 464) (by decide +kernel)), by decide +kernel⟩
theorem wd_541 : Cond.methodLink RX8 142 yX8_heldTo ∈ TBL := List.mem_filter.mpr ⟨List.mem_append_right _ (List.mem_of_getElem? (i := 465) (by decide +kernel)), by decide +kernel⟩
theorem wd_542 : Cond.static yX8_heldTo ∈ TBL := List.mem_filter.mpr ⟨List.mem_append_right _ (List.mem_of_getElem? (i := 466) (by decide +kernel)), by decide +kernel⟩
theorem wd_543 : Cond.code yX8_heldTo cX8_heldTo 3 (some .int) ∈ TBL := List.mem_filter.mpr ⟨List.mem_append_right _ (List.mem_of_getElem? (i := 467) (by decide +kernel)), by decide +kernel⟩
theorem wd_544 : Cond.methodLink RX8 358 Lib.Math.min.name ∈ TBL := List.mem_filter.mpr ⟨List.mem_append_right _ (List.mem_of_getElem? (i := 468) (by decide +kernel)), by decide +kernel⟩
theorem wd_545 : Cond.methodLink RX8 363 Lib.Math.max.name ∈ TBL := List.mem_filter.mpr ⟨List.mem_append_right _ (List.mem_of_getElem? (i := 469) (by decide +kernel)), by decide +kernel⟩
theorem wd_546 : Cond.static Lib.Math.max.name ∈ TBL := List.mem_filter.mpr ⟨List.mem_append_right _ (List.mem_of_getElem? (i := 470) (by decide +kernel)), by decide +kernel⟩
theorem wd_547 : Cond.code Lib.Math.max.name Lib.Math.max.code 2 (some .int) ∈ TBL := List.mem_filter.mpr ⟨List.mem_append_right _ (List.mem_of_getElem? (i := 471) (by decide +kernel)), by decide +kernel⟩
theorem wd_548 : Cond.methodLink RL 52 yX8_figures ∈ TBL := List.mem_filter.mpr ⟨List.mem_append_right _ (List.mem_of_getElem? (i := 472) (by decide +kernel)), by decide +kernel⟩
theorem wd_549 : Cond.instanceMethod yX8_figures ∈ TBL := List.mem_filter.mpr ⟨List.mem_append_right _ (List.mem_of_getElem? (i := 473) (by decide +kernel)), by decide +kernel⟩
theorem wd_550 : Cond.selects RX8 yX8_figures yX8_figures ∈ TBL := List.mem_filter.mpr ⟨List.mem_append_right _ (List.mem_of_getElem? (i := 474) (by decide +kernel)), by decide +kernel⟩
theorem wd_551 : Cond.code yX8_figures cX8_figures 3 (some .int) ∈ TBL := List.mem_filter.mpr ⟨List.mem_append_right _ (List.mem_of_getElem? (i := 475) (by decide +kernel)), by decide +kernel⟩
theorem wd_552 : Cond.methodLink RX8 145 yX0_figureCount ∈ TBL := List.mem_filter.mpr ⟨List.mem_append_right _ (List.mem_of_getElem? (i := 476) (by decide +kernel)), by decide +kernel⟩
theorem wd_553 : Cond.instanceMethod yX0_figureCount ∈ TBL := List.mem_filter.mpr ⟨List.mem_append_right _ (List.mem_of_getElem? (i := 477) (by decide +kernel)), by decide +kernel⟩
theorem wd_554 : Cond.selects RX0 yX0_figureCount yX0_figureCount ∈ TBL := List.mem_filter.mpr ⟨List.mem_append_right _ (List.mem_of_getElem? (i := 478) (by decide +kernel)), by decide +kernel⟩
theorem wd_555 : Cond.code yX0_figureCount cX0_figureCount 3 (some .int) ∈ TBL := List.mem_filter.mpr ⟨List.mem_append_right _ (List.mem_of_getElem? (i := 479) (by decide +kernel)), by decide +kernel⟩
theorem wd_556 : Cond.methodLink RX0 92 yX0_countFigures ∈ TBL := List.mem_filter.mpr ⟨List.mem_append_right _ (List.mem_of_getElem? (i := 480) (by decide +kernel)), by decide +kernel⟩
theorem wd_558 : Cond.instanceMethod yX0_countFigures ∈ TBL := List.mem_filter.mpr ⟨List.mem_append_right _ (List.mem_of_getElem? (i := 482) (by decide +kernel)), by decide +kernel⟩
theorem wd_559 : Cond.code yX0_countFigures cX0_countFigures 5 (some .int) ∈ TBL := List.mem_filter.mpr ⟨List.mem_append_right _ (List.mem_of_getElem? (i := 483) (by decide +kernel)), by decide +kernel⟩
theorem wd_560 : Cond.methodLink RX0 96 yJ7_fill_53178 ∈ TBL := List.mem_filter.mpr ⟨List.mem_append_right _ (List.mem_of_getElem? (i := 484) (by decide +kernel)), by decide +kernel⟩
theorem wd_561 : Cond.static yJ7_fill_53178 ∈ TBL := List.mem_filter.mpr ⟨List.mem_append_right _ (List.mem_of_getElem? (i := 485) (by decide +kernel)), by decide +kernel⟩
theorem wd_562 : Cond.code yJ7_fill_53178 cJ7_fill_53178 4 none ∈ TBL := List.mem_filter.mpr ⟨List.mem_append_right _ (List.mem_of_getElem? (i := 486) (by decide +kernel)), by decide +kernel⟩
theorem wd_563 : Cond.methodLink RX0 102 yX1_firstFigure ∈ TBL := List.mem_filter.mpr ⟨List.mem_append_right _ (List.mem_of_getElem? (i := 487) (by decide +kernel)), by decide +kernel⟩
theorem wd_564 : Cond.instanceMethod yX1_firstFigure ∈ TBL := List.mem_filter.mpr ⟨List.mem_append_right _ (List.mem_of_getElem? (i := 488) (by decide +kernel)), by decide +kernel⟩
theorem wd_565 : Cond.selects RX1 yX1_firstFigure yX1_firstFigure ∈ TBL := List.mem_filter.mpr ⟨List.mem_append_right _ (List.mem_of_getElem? (i := 489) (by decide +kernel)), by decide +kernel⟩
theorem wd_566 : Cond.code yX1_firstFigure cX1_firstFigure 3 (some .int) ∈ TBL := List.mem_filter.mpr ⟨List.mem_append_right _ (List.mem_of_getElem? (i := 490) (by decide +kernel)), by decide +kernel⟩
theorem wd_567 : Cond.methodLink RX0 106 yX1_lastFigure ∈ TBL := List.mem_filter.mpr ⟨List.mem_append_right _ (List.mem_of_getElem? (i := 491) (by decide +kernel)), by decide +kernel⟩
theorem wd_568 : Cond.instanceMethod yX1_lastFigure ∈ TBL := List.mem_filter.mpr ⟨List.mem_append_right _ (List.mem_of_getElem? (i := 492) (by decide +kernel)), by decide +kernel⟩
theorem wd_569 : Cond.selects RX1 yX1_lastFigure yX1_lastFigure ∈ TBL := List.mem_filter.mpr ⟨List.mem_append_right _ (List.mem_of_getElem? (i := 493) (by decide +kernel)), by decide +kernel⟩
theorem wd_570 : Cond.code yX1_lastFigure cX1_lastFigure 1 (some .int) ∈ TBL := List.mem_filter.mpr ⟨List.mem_append_right _ (List.mem_of_getElem? (i := 494) (by decide +kernel)), by decide +kernel⟩
theorem wd_571 : Cond.methodLink RL 56 yX8_odds ∈ TBL := List.mem_filter.mpr ⟨List.mem_append_right _ (List.mem_of_getElem? (i := 495) (by decide +kernel)), by decide +kernel⟩
theorem wd_572 : Cond.instanceMethod yX8_odds ∈ TBL := List.mem_filter.mpr ⟨List.mem_append_right _ (List.mem_of_getElem? (i := 496) (by decide +kernel)), by decide +kernel⟩
theorem wd_573 : Cond.selects RX8 yX8_odds yX8_odds ∈ TBL := List.mem_filter.mpr ⟨List.mem_append_right _ (List.mem_of_getElem? (i := 497) (by decide +kernel)), by decide +kernel⟩
theorem wd_574 : Cond.code yX8_odds cX8_odds 2 (some .long) ∈ TBL := List.mem_filter.mpr ⟨List.mem_append_right _ (List.mem_of_getElem? (i := 498) (by decide +kernel)), by decide +kernel⟩
theorem wd_575 : Cond.constantLong RX8 149 (-1) ∈ TBL := List.mem_filter.mpr ⟨List.mem_append_right _ (List.mem_of_getElem? (i := 499) (by decide +kernel)), by decide +kernel⟩
theorem wd_576 : Cond.methodLink RX8 151 yX0_rowsWithFigure ∈ TBL := List.mem_filter.mpr ⟨List.mem_append_right _ (List.mem_of_getElem? (i := 500) (by decide +kernel)), by decide +kernel⟩
theorem wd_577 : Cond.instanceMethod yX0_rowsWithFigure ∈ TBL := List.mem_filter.mpr ⟨List.mem_append_right _ (List.mem_of_getElem? (i := 501) (by decide +kernel)), by decide +kernel⟩
theorem wd_578 : Cond.selects RX0 yX0_rowsWithFigure yX0_rowsWithFigure ∈ TBL := List.mem_filter.mpr ⟨List.mem_append_right _ (List.mem_of_getElem? (i := 502) (by decide +kernel)), by decide +kernel⟩
theorem wd_579 : Cond.code yX0_rowsWithFigure cX0_rowsWithFigure 6 (some .long) ∈ TBL := List.mem_filter.mpr ⟨List.mem_append_right _ (List.mem_of_getElem? (i := 503) (by decide +kernel)), by decide +kernel⟩
theorem wd_580 : Cond.methodLink RX0 109 yX0_rowsWith ∈ TBL := List.mem_filter.mpr ⟨List.mem_append_right _ (List.mem_of_getElem? (i := 504) (by decide +kernel)), by decide +kernel⟩
theorem wd_581 : Cond.static yX0_rowsWith ∈ TBL := List.mem_filter.mpr ⟨List.mem_append_right _ (List.mem_of_getElem? (i := 505) (by decide +kernel)), by decide +kernel⟩
theorem wd_582 : Cond.code yX0_rowsWith cX0_rowsWith 9 (some .long) ∈ TBL := List.mem_filter.mpr ⟨List.mem_append_right _ (List.mem_of_getElem? (i := 506) (by decide +kernel)), by decide +kernel⟩
theorem wd_583 : Cond.constantLong RX0 113 (9) ∈ TBL := List.mem_filter.mpr ⟨List.mem_append_right _ (List.mem_of_getElem? (i := 507) (by decide +kernel)), by decide +kernel⟩
theorem wd_584 : Cond.methodLink RL 61 yX8_round ∈ TBL := List.mem_filter.mpr ⟨List.mem_append_right _ (List.mem_of_getElem? (i := 508) (by decide +kernel)), by decide +kernel⟩
theorem wd_585 : Cond.instanceMethod yX8_round ∈ TBL := List.mem_filter.mpr ⟨List.mem_append_right _ (List.mem_of_getElem? (i := 509) (by decide +kernel)), by decide +kernel⟩
theorem wd_586 : Cond.selects RX8 yX8_round yX8_round ∈ TBL := List.mem_filter.mpr ⟨List.mem_append_right _ (List.mem_of_getElem? (i := 510) (by decide +kernel)), by decide +kernel⟩
theorem wd_587 : Cond.code yX8_round cX8_round 2 (some .int) ∈ TBL := List.mem_filter.mpr ⟨List.mem_append_right _ (List.mem_of_getElem? (i := 511) (by decide +kernel)), by decide +kernel⟩
theorem wd_588 : Cond.methodLink RX8 155 yX0_roundCount ∈ TBL := List.mem_filter.mpr ⟨List.mem_append_right _ (List.mem_of_getElem? (i := 512) (by decide +kernel)), by decide +kernel⟩
theorem wd_589 : Cond.instanceMethod yX0_roundCount ∈ TBL := List.mem_filter.mpr ⟨List.mem_append_right _ (List.mem_of_getElem? (i := 513) (by decide +kernel)), by decide +kernel⟩
theorem wd_590 : Cond.selects RX0 yX0_roundCount yX0_roundCount ∈ TBL := List.mem_filter.mpr ⟨List.mem_append_right _ (List.mem_of_getElem? (i := 514) (by decide +kernel)), by decide +kernel⟩
theorem wd_591 : Cond.code yX0_roundCount cX0_roundCount 5 (some .int) ∈ TBL := List.mem_filter.mpr ⟨List.mem_append_right _ (List.mem_of_getElem? (i := 515) (by decide +kernel)), by decide +kernel⟩
theorem wd_592 : Cond.methodLinkNest RX0 121 yX8_isRound "HallSheets" ∈ NST := List.mem_filter.mpr ⟨List.mem_append_right _ (List.mem_of_getElem? (i := 516) (by decide +kernel)), by decide +kernel⟩
theorem wd_593 : Cond.static yX8_isRound ∈ TBL := List.mem_filter.mpr ⟨List.mem_append_right _ (List.mem_of_getElem? (i := 517) (by decide +kernel)), by decide +kernel⟩
theorem wd_594 : Cond.code yX8_isRound cX8_isRound 2 (some .boolean) ∈ TBL := List.mem_filter.mpr ⟨List.mem_append_right _ (List.mem_of_getElem? (i := 518) (by decide +kernel)), by decide +kernel⟩
theorem wd_595 : Cond.methodLink RX0 125 yX1_share ∈ TBL := List.mem_filter.mpr ⟨List.mem_append_right _ (List.mem_of_getElem? (i := 519) (by decide +kernel)), by decide +kernel⟩
theorem wd_596 : Cond.methodLink RL 65 yX8_may ∈ TBL := List.mem_filter.mpr ⟨List.mem_append_right _ (List.mem_of_getElem? (i := 520) (by decide +kernel)), by decide +kernel⟩
theorem wd_597 : Cond.instanceMethod yX8_may ∈ TBL := List.mem_filter.mpr ⟨List.mem_append_right _ (List.mem_of_getElem? (i := 521) (by decide +kernel)), by decide +kernel⟩
theorem wd_598 : Cond.selects RX8 yX8_may yX8_may ∈ TBL := List.mem_filter.mpr ⟨List.mem_append_right _ (List.mem_of_getElem? (i := 522) (by decide +kernel)), by decide +kernel⟩
theorem wd_599 : Cond.code yX8_may cX8_may 3 (some .int) ∈ TBL := List.mem_filter.mpr ⟨List.mem_append_right _ (List.mem_of_getElem? (i := 523) (by decide +kernel)), by decide +kernel⟩
theorem wd_600 : Cond.methodLink RX8 158 yX8_roundChoices ∈ TBL := List.mem_filter.mpr ⟨List.mem_append_right _ (List.mem_of_getElem? (i := 524) (by decide +kernel)), by decide +kernel⟩
theorem wd_601 : Cond.static yX8_roundChoices ∈ TBL := List.mem_filter.mpr ⟨List.mem_append_right _ (List.mem_of_getElem? (i := 525) (by decide +kernel)), by decide +kernel⟩
theorem wd_602 : Cond.code yX8_roundChoices cX8_roundChoices 3 (some .int) ∈ TBL := List.mem_filter.mpr ⟨List.mem_append_right _ (List.mem_of_getElem? (i := 526) (by decide +kernel)), by decide +kernel⟩
theorem wd_603 : Cond.methodLink RX8 164 yX8_isRound ∈ TBL := List.mem_filter.mpr ⟨List.mem_append_right _ (List.mem_of_getElem? (i := 527) (by decide +kernel)), by decide +kernel⟩
theorem wd_604 : Cond.methodLink RX8 161 yX8_leastCame ∈ TBL := List.mem_filter.mpr ⟨List.mem_append_right _ (List.mem_of_getElem? (i := 528) (by decide +kernel)), by decide +kernel⟩
theorem wd_605 : Cond.static yX8_leastCame ∈ TBL := List.mem_filter.mpr ⟨List.mem_append_right _ (List.mem_of_getElem? (i := 529) (by decide +kernel)), by decide +kernel⟩
theorem wd_606 : Cond.code yX8_leastCame cX8_leastCame 2 (some .int) ∈ TBL := List.mem_filter.mpr ⟨List.mem_append_right _ (List.mem_of_getElem? (i := 530) (by decide +kernel)), by decide +kernel⟩
theorem wd_607 : Cond.methodLink RL 69 yX8_middle ∈ TBL := List.mem_filter.mpr ⟨List.mem_append_right _ (List.mem_of_getElem? (i := 531) (by decide +kernel)), by decide +kernel⟩
theorem wd_608 : Cond.instanceMethod yX8_middle ∈ TBL := List.mem_filter.mpr ⟨List.mem_append_right _ (List.mem_of_getElem? (i := 532) (by decide +kernel)), by decide +kernel⟩
theorem wd_609 : Cond.selects RX8 yX8_middle yX8_middle ∈ TBL := List.mem_filter.mpr ⟨List.mem_append_right _ (List.mem_of_getElem? (i := 533) (by decide +kernel)), by decide +kernel⟩
theorem wd_610 : Cond.code yX8_middle cX8_middle 2 (some .int) ∈ TBL := List.mem_filter.mpr ⟨List.mem_append_right _ (List.mem_of_getElem? (i := 534) (by decide +kernel)), by decide +kernel⟩
theorem wd_611 : Cond.methodLink RX8 168 yX0_middleShare ∈ TBL := List.mem_filter.mpr ⟨List.mem_append_right _ (List.mem_of_getElem? (i := 535) (by decide +kernel)), by decide +kernel⟩
theorem wd_612 : Cond.instanceMethod yX0_middleShare ∈ TBL := List.mem_filter.mpr ⟨List.mem_append_right _ (List.mem_of_getElem? (i := 536) (by decide +kernel)), by decide +kernel⟩
theorem wd_613 : Cond.selects RX0 yX0_middleShare yX0_middleShare ∈ TBL := List.mem_filter.mpr ⟨List.mem_append_right _ (List.mem_of_getElem? (i := 537) (by decide +kernel)), by decide +kernel⟩
theorem wd_614 : Cond.code yX0_middleShare cX0_middleShare 5 (some .int) ∈ TBL := List.mem_filter.mpr ⟨List.mem_append_right _ (List.mem_of_getElem? (i := 538) (by decide +kernel)), by decide +kernel⟩
theorem wd_615 : Cond.methodLink RX0 134 yX0_putInOrder ∈ TBL := List.mem_filter.mpr ⟨List.mem_append_right _ (List.mem_of_getElem? (i := 539) (by decide +kernel)), by decide +kernel⟩
theorem wd_617 : Cond.instanceMethod yX0_putInOrder ∈ TBL := List.mem_filter.mpr ⟨List.mem_append_right _ (List.mem_of_getElem? (i := 541) (by decide +kernel)), by decide +kernel⟩
theorem wd_618 : Cond.code yX0_putInOrder cX0_putInOrder 4 none ∈ TBL := List.mem_filter.mpr ⟨List.mem_append_right _ (List.mem_of_getElem? (i := 542) (by decide +kernel)), by decide +kernel⟩
theorem wd_619 : Cond.methodLink RL 73 yX8_left ∈ TBL := List.mem_filter.mpr ⟨List.mem_append_right _ (List.mem_of_getElem? (i := 543) (by decide +kernel)), by decide +kernel⟩
theorem wd_620 : Cond.instanceMethod yX8_left ∈ TBL := List.mem_filter.mpr ⟨List.mem_append_right _ (List.mem_of_getElem? (i := 544) (by decide +kernel)), by decide +kernel⟩
theorem wd_621 : Cond.selects RX8 yX8_left yX8_left ∈ TBL := List.mem_filter.mpr ⟨List.mem_append_right _ (List.mem_of_getElem? (i := 545) (by decide +kernel)), by decide +kernel⟩
theorem wd_622 : Cond.code yX8_left cX8_left 2 (some .int) ∈ TBL := List.mem_filter.mpr ⟨List.mem_append_right _ (List.mem_of_getElem? (i := 546) (by decide +kernel)), by decide +kernel⟩
theorem wd_623 : Cond.constant RX8 171 (-1000000001) ∈ TBL := List.mem_filter.mpr ⟨List.mem_append_right _ (List.mem_of_getElem? (i := 547) (by decide +kernel)), by decide +kernel⟩
theorem wd_624 : Cond.constant RX8 172 (-1000000004) ∈ TBL := List.mem_filter.mpr ⟨List.mem_append_right _ (List.mem_of_getElem? (i := 548) (by decide +kernel)), by decide +kernel⟩
theorem wd_625 : Cond.methodLink RX8 173 yX0_shareFromMiddle ∈ TBL := List.mem_filter.mpr ⟨List.mem_append_right _ (List.mem_of_getElem? (i := 549) (by decide +kernel)), by decide +kernel⟩
theorem wd_626 : Cond.instanceMethod yX0_shareFromMiddle ∈ TBL := List.mem_filter.mpr ⟨List.mem_append_right _ (List.mem_of_getElem? (i := 550) (by decide +kernel)), by decide +kernel⟩
theorem wd_627 : Cond.selects RX0 yX0_shareFromMiddle yX0_shareFromMiddle ∈ TBL := List.mem_filter.mpr ⟨List.mem_append_right _ (List.mem_of_getElem? (i := 551) (by decide +kernel)), by decide +kernel⟩
theorem wd_628 : Cond.code yX0_shareFromMiddle cX0_shareFromMiddle 2 (some .int) ∈ TBL := List.mem_filter.mpr ⟨List.mem_append_right _ (List.mem_of_getElem? (i := 552) (by decide +kernel)), by decide +kernel⟩
theorem wd_629 : Cond.methodLink RX0 138 yX0_middleShare ∈ TBL := List.mem_filter.mpr ⟨List.mem_append_right _ (List.mem_of_getElem? (i := 553) (by decide +kernel)), by decide +kernel⟩
theorem wd_630 : Cond.methodLink RL 77 yX8_trulyAll ∈ TBL := List.mem_filter.mpr ⟨List.mem_append_right _ (List.mem_of_getElem? (i := 554) (by decide +kernel)), by decide +kernel⟩
theorem wd_631 : Cond.instanceMethod yX8_trulyAll ∈ TBL := List.mem_filter.mpr ⟨List.mem_append_right _ (List.mem_of_getElem? (i := 555) (by decide +kernel)), by decide +kernel⟩
theorem wd_632 : Cond.selects RX8 yX8_trulyAll yX8_trulyAll ∈ TBL := List.mem_filter.mpr ⟨List.mem_append_right _ (List.mem_of_getElem? (i := 556) (by decide +kernel)), by decide +kernel⟩
theorem wd_633 : Cond.code yX8_trulyAll cX8_trulyAll 4 (some .int) ∈ TBL := List.mem_filter.mpr ⟨List.mem_append_right _ (List.mem_of_getElem? (i := 557) (by decide +kernel)), by decide +kernel⟩
theorem wd_634 : Cond.methodLink RX8 180 yX0_hasHighKin ∈ TBL := List.mem_filter.mpr ⟨List.mem_append_right _ (List.mem_of_getElem? (i := 558) (by decide +kernel)), by decide +kernel⟩
theorem wd_635 : Cond.instanceMethod yX0_hasHighKin ∈ TBL := List.mem_filter.mpr ⟨List.mem_append_right _ (List.mem_of_getElem? (i := 559) (by decide +kernel)), by decide +kernel⟩
theorem wd_636 : Cond.selects RX0 yX0_hasHighKin yX0_hasHighKin ∈ TBL := List.mem_filter.mpr ⟨List.mem_append_right _ (List.mem_of_getElem? (i := 560) (by decide +kernel)), by decide +kernel⟩
theorem wd_637 : Cond.code yX0_hasHighKin cX0_hasHighKin 4 (some .boolean) ∈ TBL := List.mem_filter.mpr ⟨List.mem_append_right _ (List.mem_of_getElem? (i := 561) (by decide +kernel)), by decide +kernel⟩
theorem wd_638 : Cond.methodLink RL 81 yX8_watch ∈ TBL := List.mem_filter.mpr ⟨List.mem_append_right _ (List.mem_of_getElem? (i := 562) (by decide +kernel)), by decide +kernel⟩
theorem wd_639 : Cond.instanceMethod yX8_watch ∈ TBL := List.mem_filter.mpr ⟨List.mem_append_right _ (List.mem_of_getElem? (i := 563) (by decide +kernel)), by decide +kernel⟩
theorem wd_640 : Cond.selects RX8 yX8_watch yX8_watch ∈ TBL := List.mem_filter.mpr ⟨List.mem_append_right _ (List.mem_of_getElem? (i := 564) (by decide +kernel)), by decide +kernel⟩
theorem wd_641 : Cond.code yX8_watch cX8_watch 4 (some .int) ∈ TBL := List.mem_filter.mpr ⟨List.mem_append_right _ (List.mem_of_getElem? (i := 565) (by decide +kernel)), by decide +kernel⟩
theorem wd_642 : Cond.methodLink RL 86 yX8_cost ∈ TBL := List.mem_filter.mpr ⟨List.mem_append_right _ (List.mem_of_getElem? (i := 566) (by decide +kernel)), by decide +kernel⟩
theorem wd_643 : Cond.instanceMethod yX8_cost ∈ TBL := List.mem_filter.mpr ⟨List.mem_append_right _ (List.mem_of_getElem? (i := 567) (by decide +kernel)), by decide +kernel⟩
theorem wd_644 : Cond.selects RX8 yX8_cost yX8_cost ∈ TBL := List.mem_filter.mpr ⟨List.mem_append_right _ (List.mem_of_getElem? (i := 568) (by decide +kernel)), by decide +kernel⟩
theorem wd_645 : Cond.code yX8_cost cX8_cost 1 (some .int) ∈ TBL := List.mem_filter.mpr ⟨List.mem_append_right _ (List.mem_of_getElem? (i := 569) (by decide +kernel)), by decide +kernel⟩
theorem wd_646 : Cond.methodLink RX8 186 yX7_look ∈ TBL := List.mem_filter.mpr ⟨List.mem_append_right _ (List.mem_of_getElem? (i := 570) (by decide +kernel)), by decide +kernel⟩
theorem wd_647 : Cond.instanceMethod yX7_look ∈ TBL := List.mem_filter.mpr ⟨List.mem_append_right _ (List.mem_of_getElem? (i := 571) (by decide +kernel)), by decide +kernel⟩
theorem wd_648 : Cond.selects RX7 yX7_look yX7_look ∈ TBL := List.mem_filter.mpr ⟨List.mem_append_right _ (List.mem_of_getElem? (i := 572) (by decide +kernel)), by decide +kernel⟩
theorem wd_649 : Cond.code yX7_look cX7_look 4 none ∈ TBL := List.mem_filter.mpr ⟨List.mem_append_right _ (List.mem_of_getElem? (i := 573) (by decide +kernel)), by decide +kernel⟩
theorem wd_650 : Cond.methodLink RX7 43 yX1_share ∈ TBL := List.mem_filter.mpr ⟨List.mem_append_right _ (List.mem_of_getElem? (i := 574) (by decide +kernel)), by decide +kernel⟩
theorem wd_651 : Cond.methodLink RX8 190 yX7_areSome ∈ TBL := List.mem_filter.mpr ⟨List.mem_append_right _ (List.mem_of_getElem? (i := 575) (by decide +kernel)), by decide +kernel⟩
theorem wd_652 : Cond.instanceMethod yX7_areSome ∈ TBL := List.mem_filter.mpr ⟨List.mem_append_right _ (List.mem_of_getElem? (i := 576) (by decide +kernel)), by decide +kernel⟩
theorem wd_653 : Cond.selects RX7 yX7_areSome yX7_areSome ∈ TBL := List.mem_filter.mpr ⟨List.mem_append_right _ (List.mem_of_getElem? (i := 577) (by decide +kernel)), by decide +kernel⟩
theorem wd_654 : Cond.code yX7_areSome cX7_areSome 1 (some .boolean) ∈ TBL := List.mem_filter.mpr ⟨List.mem_append_right _ (List.mem_of_getElem? (i := 578) (by decide +kernel)), by decide +kernel⟩
theorem wd_655 : Cond.methodLink RX8 194 yX7_worth ∈ TBL := List.mem_filter.mpr ⟨List.mem_append_right _ (List.mem_of_getElem? (i := 579) (by decide +kernel)), by decide +kernel⟩
theorem wd_656 : Cond.instanceMethod yX7_worth ∈ TBL := List.mem_filter.mpr ⟨List.mem_append_right _ (List.mem_of_getElem? (i := 580) (by decide +kernel)), by decide +kernel⟩
theorem wd_657 : Cond.selects RX7 yX7_worth yX7_worth ∈ TBL := List.mem_filter.mpr ⟨List.mem_append_right _ (List.mem_of_getElem? (i := 581) (by decide +kernel)), by decide +kernel⟩
theorem wd_658 : Cond.code yX7_worth cX7_worth 1 (some .int) ∈ TBL := List.mem_filter.mpr ⟨List.mem_append_right _ (List.mem_of_getElem? (i := 582) (by decide +kernel)), by decide +kernel⟩
theorem wd_659 : Cond.methodLink RL 91 yX8_ways ∈ TBL := List.mem_filter.mpr ⟨List.mem_append_right _ (List.mem_of_getElem? (i := 583) (by decide +kernel)), by decide +kernel⟩
theorem wd_660 : Cond.instanceMethod yX8_ways ∈ TBL := List.mem_filter.mpr ⟨List.mem_append_right _ (List.mem_of_getElem? (i := 584) (by decide +kernel)), by decide +kernel⟩
theorem wd_661 : Cond.selects RX8 yX8_ways yX8_ways ∈ TBL := List.mem_filter.mpr ⟨List.mem_append_right _ (List.mem_of_getElem? (i := 585) (by decide +kernel)), by decide +kernel⟩
theorem wd_662 : Cond.code yX8_ways cX8_ways 2 (some .int) ∈ TBL := List.mem_filter.mpr ⟨List.mem_append_right _ (List.mem_of_getElem? (i := 586) (by decide +kernel)), by decide +kernel⟩
theorem wd_663 : Cond.methodLink RX8 197 yX7_areFew ∈ TBL := List.mem_filter.mpr ⟨List.mem_append_right _ (List.mem_of_getElem? (i := 587) (by decide +kernel)), by decide +kernel⟩
theorem wd_664 : Cond.instanceMethod yX7_areFew ∈ TBL := List.mem_filter.mpr ⟨List.mem_append_right _ (List.mem_of_getElem? (i := 588) (by decide +kernel)), by decide +kernel⟩
theorem wd_665 : Cond.selects RX7 yX7_areFew yX7_areFew ∈ TBL := List.mem_filter.mpr ⟨List.mem_append_right _ (List.mem_of_getElem? (i := 589) (by decide +kernel)), by decide +kernel⟩
theorem wd_666 : Cond.code yX7_areFew cX7_areFew 1 (some .boolean) ∈ TBL := List.mem_filter.mpr ⟨List.mem_append_right _ (List.mem_of_getElem? (i := 590) (by decide +kernel)), by decide +kernel⟩
theorem wd_667 : Cond.methodLink RX8 200 yX7_choices ∈ TBL := List.mem_filter.mpr ⟨List.mem_append_right _ (List.mem_of_getElem? (i := 591) (by decide +kernel)), by decide +kernel⟩
theorem wd_668 : Cond.instanceMethod yX7_choices ∈ TBL := List.mem_filter.mpr ⟨List.mem_append_right _ (List.mem_of_getElem? (i := 592) (by decide +kernel)), by decide +kernel⟩
theorem wd_669 : Cond.selects RX7 yX7_choices yX7_choices ∈ TBL := List.mem_filter.mpr ⟨List.mem_append_right _ (List.mem_of_getElem? (i := 593) (by decide +kernel)), by decide +kernel⟩
theorem wd_670 : Cond.code yX7_choices cX7_choices 4 (some .int) ∈ TBL := List.mem_filter.mpr ⟨List.mem_append_right _ (List.mem_of_getElem? (i := 594) (by decide +kernel)), by decide +kernel⟩
theorem wd_671 : Cond.methodLink RX7 49 yX7_areFew ∈ TBL := List.mem_filter.mpr ⟨List.mem_append_right _ (List.mem_of_getElem? (i := 595) (by decide +kernel)), by decide +kernel⟩
theorem wd_672 : Cond.methodLink RX7 53 yJ6_bitCount_0f7a4 ∈ TBL := List.mem_filter.mpr ⟨List.mem_append_right _ (List.mem_of_getElem? (i := 596) (by decide +kernel)), by decide +kernel⟩
theorem wd_673 : Cond.static yJ6_bitCount_0f7a4 ∈ TBL := List.mem_filter.mpr ⟨List.mem_append_right _ (List.mem_of_getElem? (i := 597) (by decide +kernel)), by decide +kernel⟩
theorem wd_674 : Cond.code yJ6_bitCount_0f7a4 cJ6_bitCount_0f7a4 1 (some .int) ∈ TBL := List.mem_filter.mpr ⟨List.mem_append_right _ (List.mem_of_getElem? (i := 598) (by decide +kernel)), by decide +kernel⟩
theorem wd_675 : Cond.constant RJ6 265 (1431655765) ∈ TBL := List.mem_filter.mpr ⟨List.mem_append_right _ (List.mem_of_getElem? (i := 599) (by decide +kernel)), by decide +kernel⟩
theorem wd_676 : Cond.constant RJ6 266 (858993459) ∈ TBL := List.mem_filter.mpr ⟨List.mem_append_right _ (List.mem_of_getElem? (i := 600) (by decide +kernel)), by decide +kernel⟩
theorem wd_677 : Cond.constant RJ6 267 (252645135) ∈ TBL := List.mem_filter.mpr ⟨List.mem_append_right _ (List.mem_of_getElem? (i := 601) (by decide +kernel)), by decide +kernel⟩
theorem wd_678 : Cond.methodLink RX7 59 yX7_sharesIn ∈ TBL := List.mem_filter.mpr ⟨List.mem_append_right _ (List.mem_of_getElem? (i := 602) (by decide +kernel)), by decide +kernel⟩
theorem wd_680 : Cond.instanceMethod yX7_sharesIn ∈ TBL := List.mem_filter.mpr ⟨List.mem_append_right _ (List.mem_of_getElem? (i := 604) (by decide +kernel)), by decide +kernel⟩
theorem wd_681 : Cond.code yX7_sharesIn cX7_sharesIn 4 (some .int) ∈ TBL := List.mem_filter.mpr ⟨List.mem_append_right _ (List.mem_of_getElem? (i := 605) (by decide +kernel)), by decide +kernel⟩
theorem wd_682 : Cond.methodLink RL 95 yX8_up ∈ TBL := List.mem_filter.mpr ⟨List.mem_append_right _ (List.mem_of_getElem? (i := 606) (by decide +kernel)), by decide +kernel⟩
theorem wd_683 : Cond.instanceMethod yX8_up ∈ TBL := List.mem_filter.mpr ⟨List.mem_append_right _ (List.mem_of_getElem? (i := 607) (by decide +kernel)), by decide +kernel⟩
theorem wd_684 : Cond.selects RX8 yX8_up yX8_up ∈ TBL := List.mem_filter.mpr ⟨List.mem_append_right _ (List.mem_of_getElem? (i := 608) (by decide +kernel)), by decide +kernel⟩
theorem wd_685 : Cond.code yX8_up cX8_up 5 (some .int) ∈ TBL := List.mem_filter.mpr ⟨List.mem_append_right _ (List.mem_of_getElem? (i := 609) (by decide +kernel)), by decide +kernel⟩
theorem wd_686 : Cond.methodLink RX8 204 yX8_isDistrict ∈ TBL := List.mem_filter.mpr ⟨List.mem_append_right _ (List.mem_of_getElem? (i := 610) (by decide +kernel)), by decide +kernel⟩
theorem wd_687 : Cond.static yX8_isDistrict ∈ TBL := List.mem_filter.mpr ⟨List.mem_append_right _ (List.mem_of_getElem? (i := 611) (by decide +kernel)), by decide +kernel⟩
theorem wd_688 : Cond.code yX8_isDistrict cX8_isDistrict 1 (some .boolean) ∈ TBL := List.mem_filter.mpr ⟨List.mem_append_right _ (List.mem_of_getElem? (i := 612) (by decide +kernel)), by decide +kernel⟩
theorem wd_689 : Cond.constant RX8 207 (99999) ∈ TBL := List.mem_filter.mpr ⟨List.mem_append_right _ (List.mem_of_getElem? (i := 613) (by decide +kernel)), by decide +kernel⟩
theorem wd_690 : Cond.methodLink RL 99 yX8_down ∈ TBL := List.mem_filter.mpr ⟨List.mem_append_right _ (List.mem_of_getElem? (i := 614) (by decide +kernel)), by decide +kernel⟩
theorem wd_691 : Cond.instanceMethod yX8_down ∈ TBL := List.mem_filter.mpr ⟨List.mem_append_right _ (List.mem_of_getElem? (i := 615) (by decide +kernel)), by decide +kernel⟩
theorem wd_692 : Cond.selects RX8 yX8_down yX8_down ∈ TBL := List.mem_filter.mpr ⟨List.mem_append_right _ (List.mem_of_getElem? (i := 616) (by decide +kernel)), by decide +kernel⟩
theorem wd_693 : Cond.code yX8_down cX8_down 3 (some .int) ∈ TBL := List.mem_filter.mpr ⟨List.mem_append_right _ (List.mem_of_getElem? (i := 617) (by decide +kernel)), by decide +kernel⟩
theorem wd_694 : Cond.methodLink RL 103 yX8_sum ∈ TBL := List.mem_filter.mpr ⟨List.mem_append_right _ (List.mem_of_getElem? (i := 618) (by decide +kernel)), by decide +kernel⟩
theorem wd_695 : Cond.instanceMethod yX8_sum ∈ TBL := List.mem_filter.mpr ⟨List.mem_append_right _ (List.mem_of_getElem? (i := 619) (by decide +kernel)), by decide +kernel⟩
theorem wd_696 : Cond.selects RX8 yX8_sum yX8_sum ∈ TBL := List.mem_filter.mpr ⟨List.mem_append_right _ (List.mem_of_getElem? (i := 620) (by decide +kernel)), by decide +kernel⟩
theorem wd_697 : Cond.code yX8_sum cX8_sum 3 (some .int) ∈ TBL := List.mem_filter.mpr ⟨List.mem_append_right _ (List.mem_of_getElem? (i := 621) (by decide +kernel)), by decide +kernel⟩
theorem wd_698 : Cond.methodLink RX8 216 yX0_writtenCame ∈ TBL := List.mem_filter.mpr ⟨List.mem_append_right _ (List.mem_of_getElem? (i := 622) (by decide +kernel)), by decide +kernel⟩
theorem wd_699 : Cond.instanceMethod yX0_writtenCame ∈ TBL := List.mem_filter.mpr ⟨List.mem_append_right _ (List.mem_of_getElem? (i := 623) (by decide +kernel)), by decide +kernel⟩
theorem wd_700 : Cond.selects RX0 yX0_writtenCame yX0_writtenCame ∈ TBL := List.mem_filter.mpr ⟨List.mem_append_right _ (List.mem_of_getElem? (i := 624) (by decide +kernel)), by decide +kernel⟩
theorem wd_701 : Cond.code yX0_writtenCame cX0_writtenCame 4 (some .int) ∈ TBL := List.mem_filter.mpr ⟨List.mem_append_right _ (List.mem_of_getElem? (i := 625) (by decide +kernel)), by decide +kernel⟩
theorem wd_702 : Cond.methodLink RX8 219 yX0_writtenOurs ∈ TBL := List.mem_filter.mpr ⟨List.mem_append_right _ (List.mem_of_getElem? (i := 626) (by decide +kernel)), by decide +kernel⟩
theorem wd_703 : Cond.instanceMethod yX0_writtenOurs ∈ TBL := List.mem_filter.mpr ⟨List.mem_append_right _ (List.mem_of_getElem? (i := 627) (by decide +kernel)), by decide +kernel⟩
theorem wd_704 : Cond.selects RX0 yX0_writtenOurs yX0_writtenOurs ∈ TBL := List.mem_filter.mpr ⟨List.mem_append_right _ (List.mem_of_getElem? (i := 628) (by decide +kernel)), by decide +kernel⟩
theorem wd_705 : Cond.code yX0_writtenOurs cX0_writtenOurs 4 (some .int) ∈ TBL := List.mem_filter.mpr ⟨List.mem_append_right _ (List.mem_of_getElem? (i := 629) (by decide +kernel)), by decide +kernel⟩
theorem wd_706 : Cond.methodLink RX8 222 yX0_sentCame ∈ TBL := List.mem_filter.mpr ⟨List.mem_append_right _ (List.mem_of_getElem? (i := 630) (by decide +kernel)), by decide +kernel⟩
theorem wd_707 : Cond.instanceMethod yX0_sentCame ∈ TBL := List.mem_filter.mpr ⟨List.mem_append_right _ (List.mem_of_getElem? (i := 631) (by decide +kernel)), by decide +kernel⟩
theorem wd_708 : Cond.selects RX0 yX0_sentCame yX0_sentCame ∈ TBL := List.mem_filter.mpr ⟨List.mem_append_right _ (List.mem_of_getElem? (i := 632) (by decide +kernel)), by decide +kernel⟩
theorem wd_709 : Cond.code yX0_sentCame cX0_sentCame 2 (some .int) ∈ TBL := List.mem_filter.mpr ⟨List.mem_append_right _ (List.mem_of_getElem? (i := 633) (by decide +kernel)), by decide +kernel⟩
theorem wd_710 : Cond.methodLink RX0 145 yX0_writtenCame ∈ TBL := List.mem_filter.mpr ⟨List.mem_append_right _ (List.mem_of_getElem? (i := 634) (by decide +kernel)), by decide +kernel⟩
theorem wd_711 : Cond.methodLink RX8 225 yX0_sentOurs ∈ TBL := List.mem_filter.mpr ⟨List.mem_append_right _ (List.mem_of_getElem? (i := 635) (by decide +kernel)), by decide +kernel⟩
theorem wd_712 : Cond.instanceMethod yX0_sentOurs ∈ TBL := List.mem_filter.mpr ⟨List.mem_append_right _ (List.mem_of_getElem? (i := 636) (by decide +kernel)), by decide +kernel⟩
theorem wd_713 : Cond.selects RX0 yX0_sentOurs yX0_sentOurs ∈ TBL := List.mem_filter.mpr ⟨List.mem_append_right _ (List.mem_of_getElem? (i := 637) (by decide +kernel)), by decide +kernel⟩
theorem wd_714 : Cond.code yX0_sentOurs cX0_sentOurs 2 (some .int) ∈ TBL := List.mem_filter.mpr ⟨List.mem_append_right _ (List.mem_of_getElem? (i := 638) (by decide +kernel)), by decide +kernel⟩
theorem wd_715 : Cond.methodLink RX0 148 yX0_writtenOurs ∈ TBL := List.mem_filter.mpr ⟨List.mem_append_right _ (List.mem_of_getElem? (i := 639) (by decide +kernel)), by decide +kernel⟩
theorem wd_716 : Cond.methodLink RL 107 yX8_won ∈ TBL := List.mem_filter.mpr ⟨List.mem_append_right _ (List.mem_of_getElem? (i := 640) (by decide +kernel)), by decide +kernel⟩
theorem wd_717 : Cond.instanceMethod yX8_won ∈ TBL := List.mem_filter.mpr ⟨List.mem_append_right _ (List.mem_of_getElem? (i := 641) (by decide +kernel)), by decide +kernel⟩
theorem wd_718 : Cond.selects RX8 yX8_won yX8_won ∈ TBL := List.mem_filter.mpr ⟨List.mem_append_right _ (List.mem_of_getElem? (i := 642) (by decide +kernel)), by decide +kernel⟩
theorem wd_719 : Cond.code yX8_won cX8_won 1 (some .int) ∈ TBL := List.mem_filter.mpr ⟨List.mem_append_right _ (List.mem_of_getElem? (i := 643) (by decide +kernel)), by decide +kernel⟩
theorem wd_720 : Cond.methodLink RX8 228 yX0_sentMargin ∈ TBL := List.mem_filter.mpr ⟨List.mem_append_right _ (List.mem_of_getElem? (i := 644) (by decide +kernel)), by decide +kernel⟩
theorem wd_721 : Cond.instanceMethod yX0_sentMargin ∈ TBL := List.mem_filter.mpr ⟨List.mem_append_right _ (List.mem_of_getElem? (i := 645) (by decide +kernel)), by decide +kernel⟩
theorem wd_722 : Cond.selects RX0 yX0_sentMargin yX0_sentMargin ∈ TBL := List.mem_filter.mpr ⟨List.mem_append_right _ (List.mem_of_getElem? (i := 646) (by decide +kernel)), by decide +kernel⟩
theorem wd_723 : Cond.code yX0_sentMargin cX0_sentMargin 3 (some .int) ∈ TBL := List.mem_filter.mpr ⟨List.mem_append_right _ (List.mem_of_getElem? (i := 647) (by decide +kernel)), by decide +kernel⟩
theorem wd_724 : Cond.methodLink RX0 151 yX0_sentOurs ∈ TBL := List.mem_filter.mpr ⟨List.mem_append_right _ (List.mem_of_getElem? (i := 648) (by decide +kernel)), by decide +kernel⟩
theorem wd_725 : Cond.methodLink RX0 154 yX0_sentCame ∈ TBL := List.mem_filter.mpr ⟨List.mem_append_right _ (List.mem_of_getElem? (i := 649) (by decide +kernel)), by decide +kernel⟩
theorem wd_726 : Cond.methodLink RL 111 yX8_helped ∈ TBL := List.mem_filter.mpr ⟨List.mem_append_right _ (List.mem_of_getElem? (i := 650) (by decide +kernel)), by decide +kernel⟩
theorem wd_727 : Cond.instanceMethod yX8_helped ∈ TBL := List.mem_filter.mpr ⟨List.mem_append_right _ (List.mem_of_getElem? (i := 651) (by decide +kernel)), by decide +kernel⟩
theorem wd_728 : Cond.selects RX8 yX8_helped yX8_helped ∈ TBL := List.mem_filter.mpr ⟨List.mem_append_right _ (List.mem_of_getElem? (i := 652) (by decide +kernel)), by decide +kernel⟩
theorem wd_729 : Cond.code yX8_helped cX8_helped 1 (some .int) ∈ TBL := List.mem_filter.mpr ⟨List.mem_append_right _ (List.mem_of_getElem? (i := 653) (by decide +kernel)), by decide +kernel⟩
theorem wd_730 : Cond.methodLink RX8 231 yX0_writtenMargin ∈ TBL := List.mem_filter.mpr ⟨List.mem_append_right _ (List.mem_of_getElem? (i := 654) (by decide +kernel)), by decide +kernel⟩
theorem wd_731 : Cond.instanceMethod yX0_writtenMargin ∈ TBL := List.mem_filter.mpr ⟨List.mem_append_right _ (List.mem_of_getElem? (i := 655) (by decide +kernel)), by decide +kernel⟩
theorem wd_732 : Cond.selects RX0 yX0_writtenMargin yX0_writtenMargin ∈ TBL := List.mem_filter.mpr ⟨List.mem_append_right _ (List.mem_of_getElem? (i := 656) (by decide +kernel)), by decide +kernel⟩
theorem wd_733 : Cond.code yX0_writtenMargin cX0_writtenMargin 1 (some .int) ∈ TBL := List.mem_filter.mpr ⟨List.mem_append_right _ (List.mem_of_getElem? (i := 657) (by decide +kernel)), by decide +kernel⟩
theorem wd_734 : Cond.methodLink RX0 157 yX0_allWrittenOurs ∈ TBL := List.mem_filter.mpr ⟨List.mem_append_right _ (List.mem_of_getElem? (i := 658) (by decide +kernel)), by decide +kernel⟩
theorem wd_735 : Cond.instanceMethod yX0_allWrittenOurs ∈ TBL := List.mem_filter.mpr ⟨List.mem_append_right _ (List.mem_of_getElem? (i := 659) (by decide +kernel)), by decide +kernel⟩
theorem wd_736 : Cond.selects RX0 yX0_allWrittenOurs yX0_allWrittenOurs ∈ TBL := List.mem_filter.mpr ⟨List.mem_append_right _ (List.mem_of_getElem? (i := 660) (by decide +kernel)), by decide +kernel⟩
theorem wd_737 : Cond.code yX0_allWrittenOurs cX0_allWrittenOurs 3 (some .int) ∈ TBL := List.mem_filter.mpr ⟨List.mem_append_right _ (List.mem_of_getElem? (i := 661) (by decide +kernel)), by decide +kernel⟩
theorem wd_738 : Cond.methodLink RX0 160 yX0_allWrittenCame ∈ TBL := List.mem_filter.mpr ⟨List.mem_append_right _ (List.mem_of_getElem? (i := 662) (by decide +kernel)), by decide +kernel⟩
theorem wd_739 : Cond.instanceMethod yX0_allWrittenCame ∈ TBL := List.mem_filter.mpr ⟨List.mem_append_right _ (List.mem_of_getElem? (i := 663) (by decide +kernel)), by decide +kernel⟩
theorem wd_740 : Cond.selects RX0 yX0_allWrittenCame yX0_allWrittenCame ∈ TBL := List.mem_filter.mpr ⟨List.mem_append_right _ (List.mem_of_getElem? (i := 664) (by decide +kernel)), by decide +kernel⟩
theorem wd_741 : Cond.code yX0_allWrittenCame cX0_allWrittenCame 3 (some .int) ∈ TBL := List.mem_filter.mpr ⟨List.mem_append_right _ (List.mem_of_getElem? (i := 665) (by decide +kernel)), by decide +kernel⟩
theorem wd_742 : Cond.methodLink RL 115 yX8_untrue ∈ TBL := List.mem_filter.mpr ⟨List.mem_append_right _ (List.mem_of_getElem? (i := 666) (by decide +kernel)), by decide +kernel⟩
theorem wd_743 : Cond.instanceMethod yX8_untrue ∈ TBL := List.mem_filter.mpr ⟨List.mem_append_right _ (List.mem_of_getElem? (i := 667) (by decide +kernel)), by decide +kernel⟩
theorem wd_744 : Cond.selects RX8 yX8_untrue yX8_untrue ∈ TBL := List.mem_filter.mpr ⟨List.mem_append_right _ (List.mem_of_getElem? (i := 668) (by decide +kernel)), by decide +kernel⟩
theorem wd_745 : Cond.code yX8_untrue cX8_untrue 4 (some .int) ∈ TBL := List.mem_filter.mpr ⟨List.mem_append_right _ (List.mem_of_getElem? (i := 669) (by decide +kernel)), by decide +kernel⟩
theorem wd_746 : Cond.methodLink RX8 234 yX0_allUntrue ∈ TBL := List.mem_filter.mpr ⟨List.mem_append_right _ (List.mem_of_getElem? (i := 670) (by decide +kernel)), by decide +kernel⟩
theorem wd_747 : Cond.instanceMethod yX0_allUntrue ∈ TBL := List.mem_filter.mpr ⟨List.mem_append_right _ (List.mem_of_getElem? (i := 671) (by decide +kernel)), by decide +kernel⟩
theorem wd_748 : Cond.selects RX0 yX0_allUntrue yX0_allUntrue ∈ TBL := List.mem_filter.mpr ⟨List.mem_append_right _ (List.mem_of_getElem? (i := 672) (by decide +kernel)), by decide +kernel⟩
theorem wd_749 : Cond.code yX0_allUntrue cX0_allUntrue 3 (some .int) ∈ TBL := List.mem_filter.mpr ⟨List.mem_append_right _ (List.mem_of_getElem? (i := 673) (by decide +kernel)), by decide +kernel⟩
theorem wd_750 : Cond.methodLink RX0 163 yX1_untruth ∈ TBL := List.mem_filter.mpr ⟨List.mem_append_right _ (List.mem_of_getElem? (i := 674) (by decide +kernel)), by decide +kernel⟩
theorem wd_751 : Cond.instanceMethod yX1_untruth ∈ TBL := List.mem_filter.mpr ⟨List.mem_append_right _ (List.mem_of_getElem? (i := 675) (by decide +kernel)), by decide +kernel⟩
theorem wd_752 : Cond.selects RX1 yX1_untruth yX1_untruth ∈ TBL := List.mem_filter.mpr ⟨List.mem_append_right _ (List.mem_of_getElem? (i := 676) (by decide +kernel)), by decide +kernel⟩
theorem wd_753 : Cond.code yX1_untruth cX1_untruth 1 (some .int) ∈ TBL := List.mem_filter.mpr ⟨List.mem_append_right _ (List.mem_of_getElem? (i := 677) (by decide +kernel)), by decide +kernel⟩
theorem wd_754 : Cond.methodLink RX1 74 Lib.Math.abs.name ∈ TBL := List.mem_filter.mpr ⟨List.mem_append_right _ (List.mem_of_getElem? (i := 678) (by decide +kernel)), by decide +kernel⟩
theorem wd_755 : Cond.static Lib.Math.abs.name ∈ TBL := List.mem_filter.mpr ⟨List.mem_append_right _ (List.mem_of_getElem? (i := 679) (by decide +kernel)), by decide +kernel⟩
theorem wd_756 : Cond.code Lib.Math.abs.name Lib.Math.abs.code 1 (some .int) ∈ TBL := List.mem_filter.mpr ⟨List.mem_append_right _ (List.mem_of_getElem? (i := 680) (by decide +kernel)), by decide +kernel⟩
theorem wd_757 : Cond.methodLink RX1 80 Lib.Math.max.name ∈ TBL := List.mem_filter.mpr ⟨List.mem_append_right _ (List.mem_of_getElem? (i := 681) (by decide +kernel)), by decide +kernel⟩
theorem wd_758 : Cond.methodLink RX8 237 yX0_allMustBe ∈ TBL := List.mem_filter.mpr ⟨List.mem_append_right _ (List.mem_of_getElem? (i := 682) (by decide +kernel)), by decide +kernel⟩
theorem wd_759 : Cond.instanceMethod yX0_allMustBe ∈ TBL := List.mem_filter.mpr ⟨List.mem_append_right _ (List.mem_of_getElem? (i := 683) (by decide +kernel)), by decide +kernel⟩
theorem wd_760 : Cond.selects RX0 yX0_allMustBe yX0_allMustBe ∈ TBL := List.mem_filter.mpr ⟨List.mem_append_right _ (List.mem_of_getElem? (i := 684) (by decide +kernel)), by decide +kernel⟩
theorem wd_761 : Cond.code yX0_allMustBe cX0_allMustBe 3 (some .int) ∈ TBL := List.mem_filter.mpr ⟨List.mem_append_right _ (List.mem_of_getElem? (i := 685) (by decide +kernel)), by decide +kernel⟩
theorem wd_762 : Cond.methodLink RX0 166 yX1_mustBe ∈ TBL := List.mem_filter.mpr ⟨List.mem_append_right _ (List.mem_of_getElem? (i := 686) (by decide +kernel)), by decide +kernel⟩
theorem wd_763 : Cond.instanceMethod yX1_mustBe ∈ TBL := List.mem_filter.mpr ⟨List.mem_append_right _ (List.mem_of_getElem? (i := 687) (by decide +kernel)), by decide +kernel⟩
theorem wd_764 : Cond.selects RX1 yX1_mustBe yX1_mustBe ∈ TBL := List.mem_filter.mpr ⟨List.mem_append_right _ (List.mem_of_getElem? (i := 688) (by decide +kernel)), by decide +kernel⟩
theorem wd_765 : Cond.code yX1_mustBe cX1_mustBe 1 (some .int) ∈ TBL := List.mem_filter.mpr ⟨List.mem_append_right _ (List.mem_of_getElem? (i := 689) (by decide +kernel)), by decide +kernel⟩
theorem wd_766 : Cond.methodLink RX8 240 yX1_untruth ∈ TBL := List.mem_filter.mpr ⟨List.mem_append_right _ (List.mem_of_getElem? (i := 690) (by decide +kernel)), by decide +kernel⟩
theorem wd_767 : Cond.methodLink RX8 243 yX1_mustBe ∈ TBL := List.mem_filter.mpr ⟨List.mem_append_right _ (List.mem_of_getElem? (i := 691) (by decide +kernel)), by decide +kernel⟩
theorem wd_768 : Cond.methodLink RL 119 yX8_turn ∈ TBL := List.mem_filter.mpr ⟨List.mem_append_right _ (List.mem_of_getElem? (i := 692) (by decide +kernel)), by decide +kernel⟩
theorem wd_769 : Cond.instanceMethod yX8_turn ∈ TBL := List.mem_filter.mpr ⟨List.mem_append_right _ (List.mem_of_getElem? (i := 693) (by decide +kernel)), by decide +kernel⟩
theorem wd_770 : Cond.selects RX8 yX8_turn yX8_turn ∈ TBL := List.mem_filter.mpr ⟨List.mem_append_right _ (List.mem_of_getElem? (i := 694) (by decide +kernel)), by decide +kernel⟩
theorem wd_771 : Cond.code yX8_turn cX8_turn 1 (some .int) ∈ TBL := List.mem_filter.mpr ⟨List.mem_append_right _ (List.mem_of_getElem? (i := 695) (by decide +kernel)), by decide +kernel⟩
theorem wd_772 : Cond.methodLink RX8 246 yX0_fewestTurns ∈ TBL := List.mem_filter.mpr ⟨List.mem_append_right _ (List.mem_of_getElem? (i := 696) (by decide +kernel)), by decide +kernel⟩
theorem wd_773 : Cond.instanceMethod yX0_fewestTurns ∈ TBL := List.mem_filter.mpr ⟨List.mem_append_right _ (List.mem_of_getElem? (i := 697) (by decide +kernel)), by decide +kernel⟩
theorem wd_774 : Cond.selects RX0 yX0_fewestTurns yX0_fewestTurns ∈ TBL := List.mem_filter.mpr ⟨List.mem_append_right _ (List.mem_of_getElem? (i := 698) (by decide +kernel)), by decide +kernel⟩
theorem wd_775 : Cond.code yX0_fewestTurns cX0_fewestTurns 5 (some .int) ∈ TBL := List.mem_filter.mpr ⟨List.mem_append_right _ (List.mem_of_getElem? (i := 699) (by decide +kernel)), by decide +kernel⟩
theorem wd_776 : Cond.methodLink RX0 169 yX0_writtenMargin ∈ TBL := List.mem_filter.mpr ⟨List.mem_append_right _ (List.mem_of_getElem? (i := 700) (by decide +kernel)), by decide +kernel⟩
theorem wd_777 : Cond.methodLink RX0 172 yX0_mostFalling ∈ TBL := List.mem_filter.mpr ⟨List.mem_append_right _ (List.mem_of_getElem? (i := 701) (by decide +kernel)), by decide +kernel⟩
theorem wd_779 : Cond.instanceMethod yX0_mostFalling ∈ TBL := List.mem_filter.mpr ⟨List.mem_append_right _ (List.mem_of_getElem? (i := 703) (by decide +kernel)), by decide +kernel⟩
theorem wd_780 : Cond.code yX0_mostFalling cX0_mostFalling 5 (some .int) ∈ TBL := List.mem_filter.mpr ⟨List.mem_append_right _ (List.mem_of_getElem? (i := 704) (by decide +kernel)), by decide +kernel⟩
theorem wd_781 : Cond.methodLink RX0 175 yX1_marginFall ∈ TBL := List.mem_filter.mpr ⟨List.mem_append_right _ (List.mem_of_getElem? (i := 705) (by decide +kernel)), by decide +kernel⟩
theorem wd_782 : Cond.instanceMethod yX1_marginFall ∈ TBL := List.mem_filter.mpr ⟨List.mem_append_right _ (List.mem_of_getElem? (i := 706) (by decide +kernel)), by decide +kernel⟩
theorem wd_783 : Cond.selects RX1 yX1_marginFall yX1_marginFall ∈ TBL := List.mem_filter.mpr ⟨List.mem_append_right _ (List.mem_of_getElem? (i := 707) (by decide +kernel)), by decide +kernel⟩
theorem wd_784 : Cond.code yX1_marginFall cX1_marginFall 1 (some .int) ∈ TBL := List.mem_filter.mpr ⟨List.mem_append_right _ (List.mem_of_getElem? (i := 708) (by decide +kernel)), by decide +kernel⟩
theorem wd_785 : Cond.methodLink RX1 83 yX1_margin ∈ TBL := List.mem_filter.mpr ⟨List.mem_append_right _ (List.mem_of_getElem? (i := 709) (by decide +kernel)), by decide +kernel⟩
theorem wd_786 : Cond.instanceMethod yX1_margin ∈ TBL := List.mem_filter.mpr ⟨List.mem_append_right _ (List.mem_of_getElem? (i := 710) (by decide +kernel)), by decide +kernel⟩
theorem wd_787 : Cond.selects RX1 yX1_margin yX1_margin ∈ TBL := List.mem_filter.mpr ⟨List.mem_append_right _ (List.mem_of_getElem? (i := 711) (by decide +kernel)), by decide +kernel⟩
theorem wd_788 : Cond.code yX1_margin cX1_margin 1 (some .int) ∈ TBL := List.mem_filter.mpr ⟨List.mem_append_right _ (List.mem_of_getElem? (i := 712) (by decide +kernel)), by decide +kernel⟩
theorem wd_789 : Cond.methodLink RL 123 yX8_again ∈ TBL := List.mem_filter.mpr ⟨List.mem_append_right _ (List.mem_of_getElem? (i := 713) (by decide +kernel)), by decide +kernel⟩
theorem wd_790 : Cond.instanceMethod yX8_again ∈ TBL := List.mem_filter.mpr ⟨List.mem_append_right _ (List.mem_of_getElem? (i := 714) (by decide +kernel)), by decide +kernel⟩
theorem wd_791 : Cond.selects RX8 yX8_again yX8_again ∈ TBL := List.mem_filter.mpr ⟨List.mem_append_right _ (List.mem_of_getElem? (i := 715) (by decide +kernel)), by decide +kernel⟩
theorem wd_792 : Cond.code yX8_again cX8_again 3 (some .int) ∈ TBL := List.mem_filter.mpr ⟨List.mem_append_right _ (List.mem_of_getElem? (i := 716) (by decide +kernel)), by decide +kernel⟩
theorem wd_793 : Cond.methodLink RX8 249 yX4_plan ∈ TBL := List.mem_filter.mpr ⟨List.mem_append_right _ (List.mem_of_getElem? (i := 717) (by decide +kernel)), by decide +kernel⟩
theorem wd_794 : Cond.instanceMethod yX4_plan ∈ TBL := List.mem_filter.mpr ⟨List.mem_append_right _ (List.mem_of_getElem? (i := 718) (by decide +kernel)), by decide +kernel⟩
theorem wd_795 : Cond.selects RX4 yX4_plan yX4_plan ∈ TBL := List.mem_filter.mpr ⟨List.mem_append_right _ (List.mem_of_getElem? (i := 719) (by decide +kernel)), by decide +kernel⟩
theorem wd_796 : Cond.code yX4_plan cX4_plan 8 none ∈ TBL := List.mem_filter.mpr ⟨List.mem_append_right _ (List.mem_of_getElem? (i := 720) (by decide +kernel)), by decide +kernel⟩
theorem wd_797 : Cond.methodLink RX4 18 yJ7_fill_53178 ∈ TBL := List.mem_filter.mpr ⟨List.mem_append_right _ (List.mem_of_getElem? (i := 721) (by decide +kernel)), by decide +kernel⟩
theorem wd_798 : Cond.methodLink RX4 24 yX0_middleShare ∈ TBL := List.mem_filter.mpr ⟨List.mem_append_right _ (List.mem_of_getElem? (i := 722) (by decide +kernel)), by decide +kernel⟩
theorem wd_799 : Cond.methodLink RX4 44 yX1_share ∈ TBL := List.mem_filter.mpr ⟨List.mem_append_right _ (List.mem_of_getElem? (i := 723) (by decide +kernel)), by decide +kernel⟩
theorem wd_800 : Cond.methodLink RX4 54 yX1_mustBe ∈ TBL := List.mem_filter.mpr ⟨List.mem_append_right _ (List.mem_of_getElem? (i := 724) (by decide +kernel)), by decide +kernel⟩
theorem wd_801 : Cond.methodLink RX4 57 yX4_worthOf ∈ TBL := List.mem_filter.mpr ⟨List.mem_append_right _ (List.mem_of_getElem? (i := 725) (by decide +kernel)), by decide +kernel⟩
theorem wd_802 : Cond.static yX4_worthOf ∈ TBL := List.mem_filter.mpr ⟨List.mem_append_right _ (List.mem_of_getElem? (i := 726) (by decide +kernel)), by decide +kernel⟩
theorem wd_803 : Cond.code yX4_worthOf cX4_worthOf 2 (some .int) ∈ TBL := List.mem_filter.mpr ⟨List.mem_append_right _ (List.mem_of_getElem? (i := 727) (by decide +kernel)), by decide +kernel⟩
theorem wd_804 : Cond.methodLink RX4 65 Lib.Math.abs.name ∈ TBL := List.mem_filter.mpr ⟨List.mem_append_right _ (List.mem_of_getElem? (i := 728) (by decide +kernel)), by decide +kernel⟩
theorem wd_805 : Cond.methodLink RX4 61 yX4_consider ∈ TBL := List.mem_filter.mpr ⟨List.mem_append_right _ (List.mem_of_getElem? (i := 729) (by decide +kernel)), by decide +kernel⟩
theorem wd_807 : Cond.instanceMethod yX4_consider ∈ TBL := List.mem_filter.mpr ⟨List.mem_append_right _ (List.mem_of_getElem? (i := 731) (by decide +kernel)), by decide +kernel⟩
theorem wd_808 : Cond.code yX4_consider cX4_consider 6 none ∈ TBL := List.mem_filter.mpr ⟨List.mem_append_right _ (List.mem_of_getElem? (i := 732) (by decide +kernel)), by decide +kernel⟩
theorem wd_809 : Cond.methodLink RL 127 yX8_measure ∈ TBL := List.mem_filter.mpr ⟨List.mem_append_right _ (List.mem_of_getElem? (i := 733) (by decide +kernel)), by decide +kernel⟩
theorem wd_810 : Cond.instanceMethod yX8_measure ∈ TBL := List.mem_filter.mpr ⟨List.mem_append_right _ (List.mem_of_getElem? (i := 734) (by decide +kernel)), by decide +kernel⟩
theorem wd_811 : Cond.selects RX8 yX8_measure yX8_measure ∈ TBL := List.mem_filter.mpr ⟨List.mem_append_right _ (List.mem_of_getElem? (i := 735) (by decide +kernel)), by decide +kernel⟩
theorem wd_812 : Cond.code yX8_measure cX8_measure 2 (some .int) ∈ TBL := List.mem_filter.mpr ⟨List.mem_append_right _ (List.mem_of_getElem? (i := 736) (by decide +kernel)), by decide +kernel⟩
theorem wd_813 : Cond.methodLink RX8 259 yX0_measured ∈ TBL := List.mem_filter.mpr ⟨List.mem_append_right _ (List.mem_of_getElem? (i := 737) (by decide +kernel)), by decide +kernel⟩
theorem wd_814 : Cond.instanceMethod yX0_measured ∈ TBL := List.mem_filter.mpr ⟨List.mem_append_right _ (List.mem_of_getElem? (i := 738) (by decide +kernel)), by decide +kernel⟩
theorem wd_815 : Cond.selects RX0 yX0_measured yX0_measured ∈ TBL := List.mem_filter.mpr ⟨List.mem_append_right _ (List.mem_of_getElem? (i := 739) (by decide +kernel)), by decide +kernel⟩
theorem wd_816 : Cond.code yX0_measured cX0_measured 2 (some .int) ∈ TBL := List.mem_filter.mpr ⟨List.mem_append_right _ (List.mem_of_getElem? (i := 740) (by decide +kernel)), by decide +kernel⟩
theorem wd_817 : Cond.methodLink RX0 178 yX0_unevenness ∈ TBL := List.mem_filter.mpr ⟨List.mem_append_right _ (List.mem_of_getElem? (i := 741) (by decide +kernel)), by decide +kernel⟩
theorem wd_819 : Cond.instanceMethod yX0_unevenness ∈ TBL := List.mem_filter.mpr ⟨List.mem_append_right _ (List.mem_of_getElem? (i := 743) (by decide +kernel)), by decide +kernel⟩
theorem wd_820 : Cond.code yX0_unevenness cX0_unevenness 7 (some .int) ∈ TBL := List.mem_filter.mpr ⟨List.mem_append_right _ (List.mem_of_getElem? (i := 744) (by decide +kernel)), by decide +kernel⟩
theorem wd_821 : Cond.methodLink RX0 181 yX0_roundCount ∈ TBL := List.mem_filter.mpr ⟨List.mem_append_right _ (List.mem_of_getElem? (i := 745) (by decide +kernel)), by decide +kernel⟩
theorem wd_822 : Cond.methodLink RX0 184 yX0_highCount ∈ TBL := List.mem_filter.mpr ⟨List.mem_append_right _ (List.mem_of_getElem? (i := 746) (by decide +kernel)), by decide +kernel⟩
theorem wd_823 : Cond.instanceMethod yX0_highCount ∈ TBL := List.mem_filter.mpr ⟨List.mem_append_right _ (List.mem_of_getElem? (i := 747) (by decide +kernel)), by decide +kernel⟩
theorem wd_824 : Cond.selects RX0 yX0_highCount yX0_highCount ∈ TBL := List.mem_filter.mpr ⟨List.mem_append_right _ (List.mem_of_getElem? (i := 748) (by decide +kernel)), by decide +kernel⟩
theorem wd_825 : Cond.code yX0_highCount cX0_highCount 3 (some .int) ∈ TBL := List.mem_filter.mpr ⟨List.mem_append_right _ (List.mem_of_getElem? (i := 749) (by decide +kernel)), by decide +kernel⟩
theorem wd_826 : Cond.methodLink RX0 187 yX0_allMustBe ∈ TBL := List.mem_filter.mpr ⟨List.mem_append_right _ (List.mem_of_getElem? (i := 750) (by decide +kernel)), by decide +kernel⟩
theorem wd_827 : Cond.methodLink RL 131 yX8_odd ∈ TBL := List.mem_filter.mpr ⟨List.mem_append_right _ (List.mem_of_getElem? (i := 751) (by decide +kernel)), by decide +kernel⟩
theorem wd_828 : Cond.instanceMethod yX8_odd ∈ TBL := List.mem_filter.mpr ⟨List.mem_append_right _ (List.mem_of_getElem? (i := 752) (by decide +kernel)), by decide +kernel⟩
theorem wd_829 : Cond.selects RX8 yX8_odd yX8_odd ∈ TBL := List.mem_filter.mpr ⟨List.mem_append_right _ (List.mem_of_getElem? (i := 753) (by decide +kernel)), by decide +kernel⟩
theorem wd_830 : Cond.code yX8_odd cX8_odd 7 (some .int) ∈ TBL := List.mem_filter.mpr ⟨List.mem_append_right _ (List.mem_of_getElem? (i := 754) (by decide +kernel)), by decide +kernel⟩
theorem wd_831 : Cond.methodLink RX8 262 yX0_copyFrom ∈ TBL := List.mem_filter.mpr ⟨List.mem_append_right _ (List.mem_of_getElem? (i := 755) (by decide +kernel)), by decide +kernel⟩
theorem wd_832 : Cond.instanceMethod yX0_copyFrom ∈ TBL := List.mem_filter.mpr ⟨List.mem_append_right _ (List.mem_of_getElem? (i := 756) (by decide +kernel)), by decide +kernel⟩
theorem wd_833 : Cond.selects RX0 yX0_copyFrom yX0_copyFrom ∈ TBL := List.mem_filter.mpr ⟨List.mem_append_right _ (List.mem_of_getElem? (i := 757) (by decide +kernel)), by decide +kernel⟩
theorem wd_834 : Cond.code yX0_copyFrom cX0_copyFrom 3 none ∈ TBL := List.mem_filter.mpr ⟨List.mem_append_right _ (List.mem_of_getElem? (i := 758) (by decide +kernel)), by decide +kernel⟩
theorem wd_835 : Cond.methodLink RX0 57 yX1_copyFrom ∈ TBL := List.mem_filter.mpr ⟨List.mem_append_right _ (List.mem_of_getElem? (i := 759) (by decide +kernel)), by decide +kernel⟩
theorem wd_836 : Cond.instanceMethod yX1_copyFrom ∈ TBL := List.mem_filter.mpr ⟨List.mem_append_right _ (List.mem_of_getElem? (i := 760) (by decide +kernel)), by decide +kernel⟩
theorem wd_837 : Cond.selects RX1 yX1_copyFrom yX1_copyFrom ∈ TBL := List.mem_filter.mpr ⟨List.mem_append_right _ (List.mem_of_getElem? (i := 761) (by decide +kernel)), by decide +kernel⟩
theorem wd_838 : Cond.code yX1_copyFrom cX1_copyFrom 2 none ∈ TBL := List.mem_filter.mpr ⟨List.mem_append_right _ (List.mem_of_getElem? (i := 762) (by decide +kernel)), by decide +kernel⟩
theorem wd_839 : Cond.methodLink RX1 53 yX5_copyFrom ∈ TBL := List.mem_filter.mpr ⟨List.mem_append_right _ (List.mem_of_getElem? (i := 763) (by decide +kernel)), by decide +kernel⟩
theorem wd_840 : Cond.instanceMethod yX5_copyFrom ∈ TBL := List.mem_filter.mpr ⟨List.mem_append_right _ (List.mem_of_getElem? (i := 764) (by decide +kernel)), by decide +kernel⟩
theorem wd_841 : Cond.selects RX5 yX5_copyFrom yX5_copyFrom ∈ TBL := List.mem_filter.mpr ⟨List.mem_append_right _ (List.mem_of_getElem? (i := 765) (by decide +kernel)), by decide +kernel⟩
theorem wd_842 : Cond.code yX5_copyFrom cX5_copyFrom 2 none ∈ TBL := List.mem_filter.mpr ⟨List.mem_append_right _ (List.mem_of_getElem? (i := 766) (by decide +kernel)), by decide +kernel⟩
theorem wd_843 : Cond.methodLink RX0 61 arraycopyName ∈ TBL := List.mem_filter.mpr ⟨List.mem_append_right _ (List.mem_of_getElem? (i := 767) (by decide +kernel)), by decide +kernel⟩
theorem wd_844 : Cond.static arraycopyName ∈ TBL := List.mem_filter.mpr ⟨List.mem_append_right _ (List.mem_of_getElem? (i := 768) (by decide +kernel)), by decide +kernel⟩
theorem wd_845 : Cond.native arraycopyName ∈ TBL := List.mem_filter.mpr ⟨List.mem_append_right _ (List.mem_of_getElem? (i := 769) (by decide +kernel)), by decide +kernel⟩
theorem wd_846 : Cond.methodLink RX8 265 yX0_becomeHonest ∈ TBL := List.mem_filter.mpr ⟨List.mem_append_right _ (List.mem_of_getElem? (i := 770) (by decide +kernel)), by decide +kernel⟩
theorem wd_847 : Cond.instanceMethod yX0_becomeHonest ∈ TBL := List.mem_filter.mpr ⟨List.mem_append_right _ (List.mem_of_getElem? (i := 771) (by decide +kernel)), by decide +kernel⟩
theorem wd_848 : Cond.selects RX0 yX0_becomeHonest yX0_becomeHonest ∈ TBL := List.mem_filter.mpr ⟨List.mem_append_right _ (List.mem_of_getElem? (i := 772) (by decide +kernel)), by decide +kernel⟩
theorem wd_849 : Cond.code yX0_becomeHonest cX0_becomeHonest 6 (some .int) ∈ TBL := List.mem_filter.mpr ⟨List.mem_append_right _ (List.mem_of_getElem? (i := 773) (by decide +kernel)), by decide +kernel⟩
theorem wd_850 : Cond.methodLink RX0 190 yX0_nextSeed ∈ TBL := List.mem_filter.mpr ⟨List.mem_append_right _ (List.mem_of_getElem? (i := 774) (by decide +kernel)), by decide +kernel⟩
theorem wd_851 : Cond.static yX0_nextSeed ∈ TBL := List.mem_filter.mpr ⟨List.mem_append_right _ (List.mem_of_getElem? (i := 775) (by decide +kernel)), by decide +kernel⟩
theorem wd_852 : Cond.code yX0_nextSeed cX0_nextSeed 1 (some .int) ∈ TBL := List.mem_filter.mpr ⟨List.mem_append_right _ (List.mem_of_getElem? (i := 776) (by decide +kernel)), by decide +kernel⟩
theorem wd_853 : Cond.constant RX0 206 (1103515245) ∈ TBL := List.mem_filter.mpr ⟨List.mem_append_right _ (List.mem_of_getElem? (i := 777) (by decide +kernel)), by decide +kernel⟩
theorem wd_854 : Cond.methodLink RX0 193 yX0_drawn ∈ TBL := List.mem_filter.mpr ⟨List.mem_append_right _ (List.mem_of_getElem? (i := 778) (by decide +kernel)), by decide +kernel⟩
theorem wd_856 : Cond.instanceMethod yX0_drawn ∈ TBL := List.mem_filter.mpr ⟨List.mem_append_right _ (List.mem_of_getElem? (i := 780) (by decide +kernel)), by decide +kernel⟩
theorem wd_857 : Cond.code yX0_drawn cX0_drawn 3 (some .int) ∈ TBL := List.mem_filter.mpr ⟨List.mem_append_right _ (List.mem_of_getElem? (i := 781) (by decide +kernel)), by decide +kernel⟩
theorem wd_858 : Cond.constant RX0 207 (2147483647) ∈ TBL := List.mem_filter.mpr ⟨List.mem_append_right _ (List.mem_of_getElem? (i := 782) (by decide +kernel)), by decide +kernel⟩
theorem wd_859 : Cond.constant RX0 208 (65536) ∈ TBL := List.mem_filter.mpr ⟨List.mem_append_right _ (List.mem_of_getElem? (i := 783) (by decide +kernel)), by decide +kernel⟩
theorem wd_860 : Cond.methodLinkNest RX0 196 yX8_heldTo "HallSheets" ∈ NST := List.mem_filter.mpr ⟨List.mem_append_right _ (List.mem_of_getElem? (i := 784) (by decide +kernel)), by decide +kernel⟩
theorem wd_861 : Cond.methodLink RX8 268 yX0_writeTruth ∈ TBL := List.mem_filter.mpr ⟨List.mem_append_right _ (List.mem_of_getElem? (i := 785) (by decide +kernel)), by decide +kernel⟩
theorem wd_862 : Cond.instanceMethod yX0_writeTruth ∈ TBL := List.mem_filter.mpr ⟨List.mem_append_right _ (List.mem_of_getElem? (i := 786) (by decide +kernel)), by decide +kernel⟩
theorem wd_863 : Cond.selects RX0 yX0_writeTruth yX0_writeTruth ∈ TBL := List.mem_filter.mpr ⟨List.mem_append_right _ (List.mem_of_getElem? (i := 787) (by decide +kernel)), by decide +kernel⟩
theorem wd_864 : Cond.code yX0_writeTruth cX0_writeTruth 3 none ∈ TBL := List.mem_filter.mpr ⟨List.mem_append_right _ (List.mem_of_getElem? (i := 788) (by decide +kernel)), by decide +kernel⟩
theorem wd_865 : Cond.methodLink RX0 209 yX1_write ∈ TBL := List.mem_filter.mpr ⟨List.mem_append_right _ (List.mem_of_getElem? (i := 789) (by decide +kernel)), by decide +kernel⟩
theorem wd_866 : Cond.methodLink RL 135 yX8_land ∈ TBL := List.mem_filter.mpr ⟨List.mem_append_right _ (List.mem_of_getElem? (i := 790) (by decide +kernel)), by decide +kernel⟩
theorem wd_867 : Cond.instanceMethod yX8_land ∈ TBL := List.mem_filter.mpr ⟨List.mem_append_right _ (List.mem_of_getElem? (i := 791) (by decide +kernel)), by decide +kernel⟩
theorem wd_868 : Cond.selects RX8 yX8_land yX8_land ∈ TBL := List.mem_filter.mpr ⟨List.mem_append_right _ (List.mem_of_getElem? (i := 792) (by decide +kernel)), by decide +kernel⟩
theorem wd_869 : Cond.code yX8_land cX8_land 2 (some .int) ∈ TBL := List.mem_filter.mpr ⟨List.mem_append_right _ (List.mem_of_getElem? (i := 793) (by decide +kernel)), by decide +kernel⟩
theorem wd_870 : Cond.methodLink RL 139 yX8_fault ∈ TBL := List.mem_filter.mpr ⟨List.mem_append_right _ (List.mem_of_getElem? (i := 794) (by decide +kernel)), by decide +kernel⟩
theorem wd_871 : Cond.instanceMethod yX8_fault ∈ TBL := List.mem_filter.mpr ⟨List.mem_append_right _ (List.mem_of_getElem? (i := 795) (by decide +kernel)), by decide +kernel⟩
theorem wd_872 : Cond.selects RX8 yX8_fault yX8_fault ∈ TBL := List.mem_filter.mpr ⟨List.mem_append_right _ (List.mem_of_getElem? (i := 796) (by decide +kernel)), by decide +kernel⟩
theorem wd_873 : Cond.code yX8_fault cX8_fault 4 (some .int) ∈ TBL := List.mem_filter.mpr ⟨List.mem_append_right _ (List.mem_of_getElem? (i := 797) (by decide +kernel)), by decide +kernel⟩
theorem wd_874 : Cond.methodLink RX8 271 yX8_textRefusal ∈ TBL := List.mem_filter.mpr ⟨List.mem_append_right _ (List.mem_of_getElem? (i := 798) (by decide +kernel)), by decide +kernel⟩
theorem wd_876 : Cond.instanceMethod yX8_textRefusal ∈ TBL := List.mem_filter.mpr ⟨List.mem_append_right _ (List.mem_of_getElem? (i := 800) (by decide +kernel)), by decide +kernel⟩
theorem wd_877 : Cond.code yX8_textRefusal cX8_textRefusal 3 (some .int) ∈ TBL := List.mem_filter.mpr ⟨List.mem_append_right _ (List.mem_of_getElem? (i := 801) (by decide +kernel)), by decide +kernel⟩
theorem wd_878 : Cond.methodLink RX8 318 yX8_rowRefusal ∈ TBL := List.mem_filter.mpr ⟨List.mem_append_right _ (List.mem_of_getElem? (i := 802) (by decide +kernel)), by decide +kernel⟩
theorem wd_880 : Cond.instanceMethod yX8_rowRefusal ∈ TBL := List.mem_filter.mpr ⟨List.mem_append_right _ (List.mem_of_getElem? (i := 804) (by decide +kernel)), by decide +kernel⟩
theorem wd_881 : Cond.code yX8_rowRefusal cX8_rowRefusal 2 (some .int) ∈ TBL := List.mem_filter.mpr ⟨List.mem_append_right _ (List.mem_of_getElem? (i := 805) (by decide +kernel)), by decide +kernel⟩
theorem wd_882 : Cond.methodLink RX8 277 yX2_faultOf ∈ TBL := List.mem_filter.mpr ⟨List.mem_append_right _ (List.mem_of_getElem? (i := 806) (by decide +kernel)), by decide +kernel⟩
theorem wd_883 : Cond.instanceMethod yX2_faultOf ∈ TBL := List.mem_filter.mpr ⟨List.mem_append_right _ (List.mem_of_getElem? (i := 807) (by decide +kernel)), by decide +kernel⟩
theorem wd_884 : Cond.selects RX2 yX2_faultOf yX2_faultOf ∈ TBL := List.mem_filter.mpr ⟨List.mem_append_right _ (List.mem_of_getElem? (i := 808) (by decide +kernel)), by decide +kernel⟩
theorem wd_885 : Cond.code yX2_faultOf cX2_faultOf 4 (some .int) ∈ TBL := List.mem_filter.mpr ⟨List.mem_append_right _ (List.mem_of_getElem? (i := 809) (by decide +kernel)), by decide +kernel⟩
theorem wd_886 : Cond.methodLink RX2 16 yX2_goesOn ∈ TBL := List.mem_filter.mpr ⟨List.mem_append_right _ (List.mem_of_getElem? (i := 810) (by decide +kernel)), by decide +kernel⟩
theorem wd_888 : Cond.instanceMethod yX2_goesOn ∈ TBL := List.mem_filter.mpr ⟨List.mem_append_right _ (List.mem_of_getElem? (i := 812) (by decide +kernel)), by decide +kernel⟩
theorem wd_889 : Cond.code yX2_goesOn cX2_goesOn 2 (some .boolean) ∈ TBL := List.mem_filter.mpr ⟨List.mem_append_right _ (List.mem_of_getElem? (i := 813) (by decide +kernel)), by decide +kernel⟩
theorem wd_890 : Cond.methodLink RX2 28 yX2_become ∈ TBL := List.mem_filter.mpr ⟨List.mem_append_right _ (List.mem_of_getElem? (i := 814) (by decide +kernel)), by decide +kernel⟩
theorem wd_892 : Cond.instanceMethod yX2_become ∈ TBL := List.mem_filter.mpr ⟨List.mem_append_right _ (List.mem_of_getElem? (i := 816) (by decide +kernel)), by decide +kernel⟩
theorem wd_893 : Cond.code yX2_become cX2_become 2 (some .boolean) ∈ TBL := List.mem_filter.mpr ⟨List.mem_append_right _ (List.mem_of_getElem? (i := 817) (by decide +kernel)), by decide +kernel⟩
theorem wd_894 : Cond.methodLink RX2 31 yX2_beginsTest ∈ TBL := List.mem_filter.mpr ⟨List.mem_append_right _ (List.mem_of_getElem? (i := 818) (by decide +kernel)), by decide +kernel⟩
theorem wd_896 : Cond.instanceMethod yX2_beginsTest ∈ TBL := List.mem_filter.mpr ⟨List.mem_append_right _ (List.mem_of_getElem? (i := 820) (by decide +kernel)), by decide +kernel⟩
theorem wd_897 : Cond.code yX2_beginsTest cX2_beginsTest 2 (some .boolean) ∈ TBL := List.mem_filter.mpr ⟨List.mem_append_right _ (List.mem_of_getElem? (i := 821) (by decide +kernel)), by decide +kernel⟩
theorem wd_898 : Cond.methodLink RX2 34 yX2_beginsAtom ∈ TBL := List.mem_filter.mpr ⟨List.mem_append_right _ (List.mem_of_getElem? (i := 822) (by decide +kernel)), by decide +kernel⟩
theorem wd_900 : Cond.instanceMethod yX2_beginsAtom ∈ TBL := List.mem_filter.mpr ⟨List.mem_append_right _ (List.mem_of_getElem? (i := 824) (by decide +kernel)), by decide +kernel⟩
theorem wd_901 : Cond.code yX2_beginsAtom cX2_beginsAtom 2 (some .boolean) ∈ TBL := List.mem_filter.mpr ⟨List.mem_append_right _ (List.mem_of_getElem? (i := 825) (by decide +kernel)), by decide +kernel⟩
theorem wd_902 : Cond.methodLink RX2 46 yX2_isDigit ∈ TBL := List.mem_filter.mpr ⟨List.mem_append_right _ (List.mem_of_getElem? (i := 826) (by decide +kernel)), by decide +kernel⟩
theorem wd_903 : Cond.static yX2_isDigit ∈ TBL := List.mem_filter.mpr ⟨List.mem_append_right _ (List.mem_of_getElem? (i := 827) (by decide +kernel)), by decide +kernel⟩
theorem wd_904 : Cond.code yX2_isDigit cX2_isDigit 1 (some .boolean) ∈ TBL := List.mem_filter.mpr ⟨List.mem_append_right _ (List.mem_of_getElem? (i := 828) (by decide +kernel)), by decide +kernel⟩
theorem wd_905 : Cond.methodLink RX2 55 yX2_isField ∈ TBL := List.mem_filter.mpr ⟨List.mem_append_right _ (List.mem_of_getElem? (i := 829) (by decide +kernel)), by decide +kernel⟩
theorem wd_906 : Cond.static yX2_isField ∈ TBL := List.mem_filter.mpr ⟨List.mem_append_right _ (List.mem_of_getElem? (i := 830) (by decide +kernel)), by decide +kernel⟩
theorem wd_907 : Cond.code yX2_isField cX2_isField 1 (some .boolean) ∈ TBL := List.mem_filter.mpr ⟨List.mem_append_right _ (List.mem_of_getElem? (i := 831) (by decide +kernel)), by decide +kernel⟩
theorem wd_909 : Cond.methodLink RX2 60 yJ0_indexOf_0f7a4 ∈ TBL := List.mem_filter.mpr ⟨List.mem_append_right _ (List.mem_of_getElem? (i := 833) (by decide +kernel)), by decide +kernel⟩
theorem wd_910 : Cond.instanceMethod yJ0_indexOf_0f7a4 ∈ TBL := List.mem_filter.mpr ⟨List.mem_append_right _ (List.mem_of_getElem? (i := 834) (by decide +kernel)), by decide +kernel⟩
theorem wd_911 : Cond.selects RJ0 yJ0_indexOf_0f7a4 yJ0_indexOf_0f7a4 ∈ TBL := List.mem_filter.mpr ⟨List.mem_append_right _ (List.mem_of_getElem? (i := 835) (by decide +kernel)), by decide +kernel⟩
theorem wd_912 : Cond.code yJ0_indexOf_0f7a4 cJ0_indexOf_0f7a4 2 (some .int) ∈ TBL := List.mem_filter.mpr ⟨List.mem_append_right _ (List.mem_of_getElem? (i := 836) (by decide +kernel)), by decide +kernel⟩
theorem wd_913 : Cond.methodLink RJ0 633 yJ0_indexOf_7cf53 ∈ TBL := List.mem_filter.mpr ⟨List.mem_append_right _ (List.mem_of_getElem? (i := 837) (by decide +kernel)), by decide +kernel⟩
theorem wd_914 : Cond.instanceMethod yJ0_indexOf_7cf53 ∈ TBL := List.mem_filter.mpr ⟨List.mem_append_right _ (List.mem_of_getElem? (i := 838) (by decide +kernel)), by decide +kernel⟩
theorem wd_915 : Cond.selects RJ0 yJ0_indexOf_7cf53 yJ0_indexOf_7cf53 ∈ TBL := List.mem_filter.mpr ⟨List.mem_append_right _ (List.mem_of_getElem? (i := 839) (by decide +kernel)), by decide +kernel⟩
theorem wd_916 : Cond.code yJ0_indexOf_7cf53 cJ0_indexOf_7cf53 3 (some .int) ∈ TBL := List.mem_filter.mpr ⟨List.mem_append_right _ (List.mem_of_getElem? (i := 840) (by decide +kernel)), by decide +kernel⟩
theorem wd_917 : Cond.methodLink RJ0 492 yJ0_isLatin1_aae02 ∈ TBL := List.mem_filter.mpr ⟨List.mem_append_right _ (List.mem_of_getElem? (i := 841) (by decide +kernel)), by decide +kernel⟩
theorem wd_918 : Cond.instanceMethod yJ0_isLatin1_aae02 ∈ TBL := List.mem_filter.mpr ⟨List.mem_append_right _ (List.mem_of_getElem? (i := 842) (by decide +kernel)), by decide +kernel⟩
theorem wd_919 : Cond.selects RJ0 yJ0_isLatin1_aae02 yJ0_isLatin1_aae02 ∈ TBL := List.mem_filter.mpr ⟨List.mem_append_right _ (List.mem_of_getElem? (i := 843) (by decide +kernel)), by decide +kernel⟩
theorem wd_920 : Cond.code yJ0_isLatin1_aae02 cJ0_isLatin1_aae02 1 (some .boolean) ∈ TBL := List.mem_filter.mpr ⟨List.mem_append_right _ (List.mem_of_getElem? (i := 844) (by decide +kernel)), by decide +kernel⟩
theorem wd_921 : Cond.fieldLink RJ0 38 "java/lang/String" "COMPACT_STRINGS" "Z" ∈ TBL := List.mem_filter.mpr ⟨List.mem_append_right _ (List.mem_of_getElem? (i := 845) (by decide +kernel)), by decide +kernel⟩
theorem wd_923 : Cond.methodLink RJ0 505 yJ0_length_8abf5 ∈ TBL := List.mem_filter.mpr ⟨List.mem_append_right _ (List.mem_of_getElem? (i := 847) (by decide +kernel)), by decide +kernel⟩
theorem wd_924 : Cond.instanceMethod yJ0_length_8abf5 ∈ TBL := List.mem_filter.mpr ⟨List.mem_append_right _ (List.mem_of_getElem? (i := 848) (by decide +kernel)), by decide +kernel⟩
theorem wd_925 : Cond.selects RJ0 yJ0_length_8abf5 yJ0_length_8abf5 ∈ TBL := List.mem_filter.mpr ⟨List.mem_append_right _ (List.mem_of_getElem? (i := 849) (by decide +kernel)), by decide +kernel⟩
theorem wd_926 : Cond.code yJ0_length_8abf5 cJ0_length_8abf5 1 (some .int) ∈ TBL := List.mem_filter.mpr ⟨List.mem_append_right _ (List.mem_of_getElem? (i := 850) (by decide +kernel)), by decide +kernel⟩
theorem wd_927 : Cond.methodLink RJ0 335 yJ0_coder_7d493 ∈ TBL := List.mem_filter.mpr ⟨List.mem_append_right _ (List.mem_of_getElem? (i := 851) (by decide +kernel)), by decide +kernel⟩
theorem wd_928 : Cond.instanceMethod yJ0_coder_7d493 ∈ TBL := List.mem_filter.mpr ⟨List.mem_append_right _ (List.mem_of_getElem? (i := 852) (by decide +kernel)), by decide +kernel⟩
theorem wd_929 : Cond.selects RJ0 yJ0_coder_7d493 yJ0_coder_7d493 ∈ TBL := List.mem_filter.mpr ⟨List.mem_append_right _ (List.mem_of_getElem? (i := 853) (by decide +kernel)), by decide +kernel⟩
theorem wd_930 : Cond.code yJ0_coder_7d493 cJ0_coder_7d493 1 (some .byte) ∈ TBL := List.mem_filter.mpr ⟨List.mem_append_right _ (List.mem_of_getElem? (i := 854) (by decide +kernel)), by decide +kernel⟩
theorem wd_931 : Cond.methodLink RJ0 637 yJ1_indexOf_4cfef ∈ TBL := List.mem_filter.mpr ⟨List.mem_append_right _ (List.mem_of_getElem? (i := 855) (by decide +kernel)), by decide +kernel⟩
theorem wd_932 : Cond.static yJ1_indexOf_4cfef ∈ TBL := List.mem_filter.mpr ⟨List.mem_append_right _ (List.mem_of_getElem? (i := 856) (by decide +kernel)), by decide +kernel⟩
theorem wd_933 : Cond.code yJ1_indexOf_4cfef cJ1_indexOf_4cfef 4 (some .int) ∈ TBL := List.mem_filter.mpr ⟨List.mem_append_right _ (List.mem_of_getElem? (i := 857) (by decide +kernel)), by decide +kernel⟩
theorem wd_934 : Cond.methodLink RJ1 88 yJ1_canEncode_9a6ad ∈ TBL := List.mem_filter.mpr ⟨List.mem_append_right _ (List.mem_of_getElem? (i := 858) (by decide +kernel)), by decide +kernel⟩
theorem wd_935 : Cond.static yJ1_canEncode_9a6ad ∈ TBL := List.mem_filter.mpr ⟨List.mem_append_right _ (List.mem_of_getElem? (i := 859) (by decide +kernel)), by decide +kernel⟩
theorem wd_936 : Cond.code yJ1_canEncode_9a6ad cJ1_canEncode_9a6ad 1 (some .boolean) ∈ TBL := List.mem_filter.mpr ⟨List.mem_append_right _ (List.mem_of_getElem? (i := 860) (by decide +kernel)), by decide +kernel⟩
theorem wd_937 : Cond.methodLink RJ1 92 Lib.Math.max.name ∈ TBL := List.mem_filter.mpr ⟨List.mem_append_right _ (List.mem_of_getElem? (i := 861) (by decide +kernel)), by decide +kernel⟩
theorem wd_938 : Cond.methodLink RJ1 38 Lib.Math.min.name ∈ TBL := List.mem_filter.mpr ⟨List.mem_append_right _ (List.mem_of_getElem? (i := 862) (by decide +kernel)), by decide +kernel⟩
theorem wd_939 : Cond.methodLink RJ1 95 yJ1_indexOfChar_4cfef ∈ TBL := List.mem_filter.mpr ⟨List.mem_append_right _ (List.mem_of_getElem? (i := 863) (by decide +kernel)), by decide +kernel⟩
theorem wd_940 : Cond.static yJ1_indexOfChar_4cfef ∈ TBL := List.mem_filter.mpr ⟨List.mem_append_right _ (List.mem_of_getElem? (i := 864) (by decide +kernel)), by decide +kernel⟩
theorem wd_941 : Cond.code yJ1_indexOfChar_4cfef cJ1_indexOfChar_4cfef 6 (some .int) ∈ TBL := List.mem_filter.mpr ⟨List.mem_append_right _ (List.mem_of_getElem? (i := 865) (by decide +kernel)), by decide +kernel⟩
theorem wd_991 : Cond.methodLink RX2 37 yX2_addsDigit ∈ TBL := List.mem_filter.mpr ⟨List.mem_append_right _ (List.mem_of_getElem? (i := 915) (by decide +kernel)), by decide +kernel⟩
theorem wd_993 : Cond.instanceMethod yX2_addsDigit ∈ TBL := List.mem_filter.mpr ⟨List.mem_append_right _ (List.mem_of_getElem? (i := 917) (by decide +kernel)), by decide +kernel⟩
theorem wd_994 : Cond.code yX2_addsDigit cX2_addsDigit 2 (some .boolean) ∈ TBL := List.mem_filter.mpr ⟨List.mem_append_right _ (List.mem_of_getElem? (i := 918) (by decide +kernel)), by decide +kernel⟩
theorem wd_995 : Cond.methodLink RX2 40 yX2_followsAtom ∈ TBL := List.mem_filter.mpr ⟨List.mem_append_right _ (List.mem_of_getElem? (i := 919) (by decide +kernel)), by decide +kernel⟩
theorem wd_997 : Cond.instanceMethod yX2_followsAtom ∈ TBL := List.mem_filter.mpr ⟨List.mem_append_right _ (List.mem_of_getElem? (i := 921) (by decide +kernel)), by decide +kernel⟩
theorem wd_998 : Cond.code yX2_followsAtom cX2_followsAtom 2 (some .boolean) ∈ TBL := List.mem_filter.mpr ⟨List.mem_append_right _ (List.mem_of_getElem? (i := 922) (by decide +kernel)), by decide +kernel⟩
theorem wd_999 : Cond.methodLink RX2 43 yX2_followsTest ∈ TBL := List.mem_filter.mpr ⟨List.mem_append_right _ (List.mem_of_getElem? (i := 923) (by decide +kernel)), by decide +kernel⟩
theorem wd_1001 : Cond.instanceMethod yX2_followsTest ∈ TBL := List.mem_filter.mpr ⟨List.mem_append_right _ (List.mem_of_getElem? (i := 925) (by decide +kernel)), by decide +kernel⟩
theorem wd_1002 : Cond.code yX2_followsTest cX2_followsTest 2 (some .boolean) ∈ TBL := List.mem_filter.mpr ⟨List.mem_append_right _ (List.mem_of_getElem? (i := 926) (by decide +kernel)), by decide +kernel⟩
theorem wd_1003 : Cond.methodLink RX2 20 yX2_isWhole ∈ TBL := List.mem_filter.mpr ⟨List.mem_append_right _ (List.mem_of_getElem? (i := 927) (by decide +kernel)), by decide +kernel⟩
theorem wd_1005 : Cond.instanceMethod yX2_isWhole ∈ TBL := List.mem_filter.mpr ⟨List.mem_append_right _ (List.mem_of_getElem? (i := 929) (by decide +kernel)), by decide +kernel⟩
theorem wd_1006 : Cond.code yX2_isWhole cX2_isWhole 2 (some .boolean) ∈ TBL := List.mem_filter.mpr ⟨List.mem_append_right _ (List.mem_of_getElem? (i := 930) (by decide +kernel)), by decide +kernel⟩
theorem wd_1008 : Cond.methodLink RL 143 yX8_mark ∈ TBL := List.mem_filter.mpr ⟨List.mem_append_right _ (List.mem_of_getElem? (i := 932) (by decide +kernel)), by decide +kernel⟩
theorem wd_1009 : Cond.instanceMethod yX8_mark ∈ TBL := List.mem_filter.mpr ⟨List.mem_append_right _ (List.mem_of_getElem? (i := 933) (by decide +kernel)), by decide +kernel⟩
theorem wd_1010 : Cond.selects RX8 yX8_mark yX8_mark ∈ TBL := List.mem_filter.mpr ⟨List.mem_append_right _ (List.mem_of_getElem? (i := 934) (by decide +kernel)), by decide +kernel⟩
theorem wd_1011 : Cond.code yX8_mark cX8_mark 4 (some .int) ∈ TBL := List.mem_filter.mpr ⟨List.mem_append_right _ (List.mem_of_getElem? (i := 935) (by decide +kernel)), by decide +kernel⟩
theorem wd_1012 : Cond.methodLink RX8 287 yX0_addMark ∈ TBL := List.mem_filter.mpr ⟨List.mem_append_right _ (List.mem_of_getElem? (i := 936) (by decide +kernel)), by decide +kernel⟩
theorem wd_1013 : Cond.instanceMethod yX0_addMark ∈ TBL := List.mem_filter.mpr ⟨List.mem_append_right _ (List.mem_of_getElem? (i := 937) (by decide +kernel)), by decide +kernel⟩
theorem wd_1014 : Cond.selects RX0 yX0_addMark yX0_addMark ∈ TBL := List.mem_filter.mpr ⟨List.mem_append_right _ (List.mem_of_getElem? (i := 938) (by decide +kernel)), by decide +kernel⟩
theorem wd_1015 : Cond.code yX0_addMark cX0_addMark 3 (some .int) ∈ TBL := List.mem_filter.mpr ⟨List.mem_append_right _ (List.mem_of_getElem? (i := 939) (by decide +kernel)), by decide +kernel⟩
theorem wd_1016 : Cond.methodLink RL 147 yX8_marked ∈ TBL := List.mem_filter.mpr ⟨List.mem_append_right _ (List.mem_of_getElem? (i := 940) (by decide +kernel)), by decide +kernel⟩
theorem wd_1017 : Cond.instanceMethod yX8_marked ∈ TBL := List.mem_filter.mpr ⟨List.mem_append_right _ (List.mem_of_getElem? (i := 941) (by decide +kernel)), by decide +kernel⟩
theorem wd_1018 : Cond.selects RX8 yX8_marked yX8_marked ∈ TBL := List.mem_filter.mpr ⟨List.mem_append_right _ (List.mem_of_getElem? (i := 942) (by decide +kernel)), by decide +kernel⟩
theorem wd_1019 : Cond.code yX8_marked cX8_marked 2 (some .int) ∈ TBL := List.mem_filter.mpr ⟨List.mem_append_right _ (List.mem_of_getElem? (i := 943) (by decide +kernel)), by decide +kernel⟩
theorem wd_1020 : Cond.methodLink RX8 290 yX0_nameOf ∈ TBL := List.mem_filter.mpr ⟨List.mem_append_right _ (List.mem_of_getElem? (i := 944) (by decide +kernel)), by decide +kernel⟩
theorem wd_1021 : Cond.instanceMethod yX0_nameOf ∈ TBL := List.mem_filter.mpr ⟨List.mem_append_right _ (List.mem_of_getElem? (i := 945) (by decide +kernel)), by decide +kernel⟩
theorem wd_1022 : Cond.selects RX0 yX0_nameOf yX0_nameOf ∈ TBL := List.mem_filter.mpr ⟨List.mem_append_right _ (List.mem_of_getElem? (i := 946) (by decide +kernel)), by decide +kernel⟩
theorem wd_1023 : Cond.code yX0_nameOf cX0_nameOf 3 (some .int) ∈ TBL := List.mem_filter.mpr ⟨List.mem_append_right _ (List.mem_of_getElem? (i := 947) (by decide +kernel)), by decide +kernel⟩
theorem wd_1024 : Cond.methodLink RX0 82 yX3_holds ∈ TBL := List.mem_filter.mpr ⟨List.mem_append_right _ (List.mem_of_getElem? (i := 948) (by decide +kernel)), by decide +kernel⟩
theorem wd_1025 : Cond.instanceMethod yX3_holds ∈ TBL := List.mem_filter.mpr ⟨List.mem_append_right _ (List.mem_of_getElem? (i := 949) (by decide +kernel)), by decide +kernel⟩
theorem wd_1026 : Cond.selects RX3 yX3_holds yX3_holds ∈ TBL := List.mem_filter.mpr ⟨List.mem_append_right _ (List.mem_of_getElem? (i := 950) (by decide +kernel)), by decide +kernel⟩
theorem wd_1027 : Cond.code yX3_holds cX3_holds 7 (some .boolean) ∈ TBL := List.mem_filter.mpr ⟨List.mem_append_right _ (List.mem_of_getElem? (i := 951) (by decide +kernel)), by decide +kernel⟩
theorem wd_1028 : Cond.methodLink RX3 25 yX3_beginGroup ∈ TBL := List.mem_filter.mpr ⟨List.mem_append_right _ (List.mem_of_getElem? (i := 952) (by decide +kernel)), by decide +kernel⟩
theorem wd_1030 : Cond.instanceMethod yX3_beginGroup ∈ TBL := List.mem_filter.mpr ⟨List.mem_append_right _ (List.mem_of_getElem? (i := 954) (by decide +kernel)), by decide +kernel⟩
theorem wd_1031 : Cond.code yX3_beginGroup cX3_beginGroup 1 none ∈ TBL := List.mem_filter.mpr ⟨List.mem_append_right _ (List.mem_of_getElem? (i := 955) (by decide +kernel)), by decide +kernel⟩
theorem wd_1032 : Cond.methodLink RX3 28 yX3_beginSum ∈ TBL := List.mem_filter.mpr ⟨List.mem_append_right _ (List.mem_of_getElem? (i := 956) (by decide +kernel)), by decide +kernel⟩
theorem wd_1034 : Cond.instanceMethod yX3_beginSum ∈ TBL := List.mem_filter.mpr ⟨List.mem_append_right _ (List.mem_of_getElem? (i := 958) (by decide +kernel)), by decide +kernel⟩
theorem wd_1035 : Cond.code yX3_beginSum cX3_beginSum 1 none ∈ TBL := List.mem_filter.mpr ⟨List.mem_append_right _ (List.mem_of_getElem? (i := 959) (by decide +kernel)), by decide +kernel⟩
theorem wd_1036 : Cond.methodLink RX3 99 yX3_beginProduct ∈ TBL := List.mem_filter.mpr ⟨List.mem_append_right _ (List.mem_of_getElem? (i := 960) (by decide +kernel)), by decide +kernel⟩
theorem wd_1038 : Cond.instanceMethod yX3_beginProduct ∈ TBL := List.mem_filter.mpr ⟨List.mem_append_right _ (List.mem_of_getElem? (i := 962) (by decide +kernel)), by decide +kernel⟩
theorem wd_1039 : Cond.code yX3_beginProduct cX3_beginProduct 1 none ∈ TBL := List.mem_filter.mpr ⟨List.mem_append_right _ (List.mem_of_getElem? (i := 963) (by decide +kernel)), by decide +kernel⟩
theorem wd_1040 : Cond.methodLink RX3 37 yX2_isField ∈ TBL := List.mem_filter.mpr ⟨List.mem_append_right _ (List.mem_of_getElem? (i := 964) (by decide +kernel)), by decide +kernel⟩
theorem wd_1041 : Cond.methodLink RX3 41 yX3_fieldOf ∈ TBL := List.mem_filter.mpr ⟨List.mem_append_right _ (List.mem_of_getElem? (i := 965) (by decide +kernel)), by decide +kernel⟩
theorem wd_1042 : Cond.static yX3_fieldOf ∈ TBL := List.mem_filter.mpr ⟨List.mem_append_right _ (List.mem_of_getElem? (i := 966) (by decide +kernel)), by decide +kernel⟩
theorem wd_1043 : Cond.code yX3_fieldOf cX3_fieldOf 3 (some .int) ∈ TBL := List.mem_filter.mpr ⟨List.mem_append_right _ (List.mem_of_getElem? (i := 967) (by decide +kernel)), by decide +kernel⟩
theorem wd_1044 : Cond.methodLink RX3 85 yX1_share ∈ TBL := List.mem_filter.mpr ⟨List.mem_append_right _ (List.mem_of_getElem? (i := 968) (by decide +kernel)), by decide +kernel⟩
theorem wd_1045 : Cond.methodLink RX3 45 yX3_takeAtom ∈ TBL := List.mem_filter.mpr ⟨List.mem_append_right _ (List.mem_of_getElem? (i := 969) (by decide +kernel)), by decide +kernel⟩
theorem wd_1047 : Cond.instanceMethod yX3_takeAtom ∈ TBL := List.mem_filter.mpr ⟨List.mem_append_right _ (List.mem_of_getElem? (i := 971) (by decide +kernel)), by decide +kernel⟩
theorem wd_1048 : Cond.code yX3_takeAtom cX3_takeAtom 2 none ∈ TBL := List.mem_filter.mpr ⟨List.mem_append_right _ (List.mem_of_getElem? (i := 972) (by decide +kernel)), by decide +kernel⟩
theorem wd_1049 : Cond.methodLink RX3 49 yX2_isDigit ∈ TBL := List.mem_filter.mpr ⟨List.mem_append_right _ (List.mem_of_getElem? (i := 973) (by decide +kernel)), by decide +kernel⟩
theorem wd_1050 : Cond.methodLink RX3 52 yX3_takeDigit ∈ TBL := List.mem_filter.mpr ⟨List.mem_append_right _ (List.mem_of_getElem? (i := 974) (by decide +kernel)), by decide +kernel⟩
theorem wd_1052 : Cond.instanceMethod yX3_takeDigit ∈ TBL := List.mem_filter.mpr ⟨List.mem_append_right _ (List.mem_of_getElem? (i := 976) (by decide +kernel)), by decide +kernel⟩
theorem wd_1053 : Cond.code yX3_takeDigit cX3_takeDigit 3 none ∈ TBL := List.mem_filter.mpr ⟨List.mem_append_right _ (List.mem_of_getElem? (i := 977) (by decide +kernel)), by decide +kernel⟩
theorem wd_1054 : Cond.methodLink RX3 56 yX3_takeSign ∈ TBL := List.mem_filter.mpr ⟨List.mem_append_right _ (List.mem_of_getElem? (i := 978) (by decide +kernel)), by decide +kernel⟩
theorem wd_1056 : Cond.instanceMethod yX3_takeSign ∈ TBL := List.mem_filter.mpr ⟨List.mem_append_right _ (List.mem_of_getElem? (i := 980) (by decide +kernel)), by decide +kernel⟩
theorem wd_1057 : Cond.code yX3_takeSign cX3_takeSign 2 none ∈ TBL := List.mem_filter.mpr ⟨List.mem_append_right _ (List.mem_of_getElem? (i := 981) (by decide +kernel)), by decide +kernel⟩
theorem wd_1058 : Cond.methodLink RX3 108 yX3_endProduct ∈ TBL := List.mem_filter.mpr ⟨List.mem_append_right _ (List.mem_of_getElem? (i := 982) (by decide +kernel)), by decide +kernel⟩
theorem wd_1060 : Cond.instanceMethod yX3_endProduct ∈ TBL := List.mem_filter.mpr ⟨List.mem_append_right _ (List.mem_of_getElem? (i := 984) (by decide +kernel)), by decide +kernel⟩
theorem wd_1061 : Cond.code yX3_endProduct cX3_endProduct 1 none ∈ TBL := List.mem_filter.mpr ⟨List.mem_append_right _ (List.mem_of_getElem? (i := 985) (by decide +kernel)), by decide +kernel⟩
theorem wd_1062 : Cond.methodLink RX3 59 yX3_endTest ∈ TBL := List.mem_filter.mpr ⟨List.mem_append_right _ (List.mem_of_getElem? (i := 986) (by decide +kernel)), by decide +kernel⟩
theorem wd_1064 : Cond.instanceMethod yX3_endTest ∈ TBL := List.mem_filter.mpr ⟨List.mem_append_right _ (List.mem_of_getElem? (i := 988) (by decide +kernel)), by decide +kernel⟩
theorem wd_1065 : Cond.code yX3_endTest cX3_endTest 1 none ∈ TBL := List.mem_filter.mpr ⟨List.mem_append_right _ (List.mem_of_getElem? (i := 989) (by decide +kernel)), by decide +kernel⟩
theorem wd_1066 : Cond.methodLink RX3 121 yX3_compared ∈ TBL := List.mem_filter.mpr ⟨List.mem_append_right _ (List.mem_of_getElem? (i := 990) (by decide +kernel)), by decide +kernel⟩
theorem wd_1068 : Cond.instanceMethod yX3_compared ∈ TBL := List.mem_filter.mpr ⟨List.mem_append_right _ (List.mem_of_getElem? (i := 992) (by decide +kernel)), by decide +kernel⟩
theorem wd_1069 : Cond.code yX3_compared cX3_compared 1 (some .boolean) ∈ TBL := List.mem_filter.mpr ⟨List.mem_append_right _ (List.mem_of_getElem? (i := 993) (by decide +kernel)), by decide +kernel⟩
theorem wd_1070 : Cond.methodLink RX3 117 yX3_join ∈ TBL := List.mem_filter.mpr ⟨List.mem_append_right _ (List.mem_of_getElem? (i := 994) (by decide +kernel)), by decide +kernel⟩
theorem wd_1072 : Cond.instanceMethod yX3_join ∈ TBL := List.mem_filter.mpr ⟨List.mem_append_right _ (List.mem_of_getElem? (i := 996) (by decide +kernel)), by decide +kernel⟩
theorem wd_1073 : Cond.code yX3_join cX3_join 2 none ∈ TBL := List.mem_filter.mpr ⟨List.mem_append_right _ (List.mem_of_getElem? (i := 997) (by decide +kernel)), by decide +kernel⟩
theorem wd_1074 : Cond.methodLink RX3 114 yX3_takeJoint ∈ TBL := List.mem_filter.mpr ⟨List.mem_append_right _ (List.mem_of_getElem? (i := 998) (by decide +kernel)), by decide +kernel⟩
theorem wd_1076 : Cond.instanceMethod yX3_takeJoint ∈ TBL := List.mem_filter.mpr ⟨List.mem_append_right _ (List.mem_of_getElem? (i := 1000) (by decide +kernel)), by decide +kernel⟩
theorem wd_1077 : Cond.code yX3_takeJoint cX3_takeJoint 2 none ∈ TBL := List.mem_filter.mpr ⟨List.mem_append_right _ (List.mem_of_getElem? (i := 1001) (by decide +kernel)), by decide +kernel⟩
theorem wd_1078 : Cond.methodLink RL 151 yX8_said ∈ TBL := List.mem_filter.mpr ⟨List.mem_append_right _ (List.mem_of_getElem? (i := 1002) (by decide +kernel)), by decide +kernel⟩
theorem wd_1079 : Cond.instanceMethod yX8_said ∈ TBL := List.mem_filter.mpr ⟨List.mem_append_right _ (List.mem_of_getElem? (i := 1003) (by decide +kernel)), by decide +kernel⟩
theorem wd_1080 : Cond.selects RX8 yX8_said yX8_said ∈ TBL := List.mem_filter.mpr ⟨List.mem_append_right _ (List.mem_of_getElem? (i := 1004) (by decide +kernel)), by decide +kernel⟩
theorem wd_1081 : Cond.code yX8_said cX8_said 5 (some .int) ∈ TBL := List.mem_filter.mpr ⟨List.mem_append_right _ (List.mem_of_getElem? (i := 1005) (by decide +kernel)), by decide +kernel⟩
theorem wd_1082 : Cond.methodLink RL 155 yX8_image ∈ TBL := List.mem_filter.mpr ⟨List.mem_append_right _ (List.mem_of_getElem? (i := 1006) (by decide +kernel)), by decide +kernel⟩
theorem wd_1083 : Cond.instanceMethod yX8_image ∈ TBL := List.mem_filter.mpr ⟨List.mem_append_right _ (List.mem_of_getElem? (i := 1007) (by decide +kernel)), by decide +kernel⟩
theorem wd_1084 : Cond.selects RX8 yX8_image yX8_image ∈ TBL := List.mem_filter.mpr ⟨List.mem_append_right _ (List.mem_of_getElem? (i := 1008) (by decide +kernel)), by decide +kernel⟩
theorem wd_1085 : Cond.code yX8_image cX8_image 1 (some .int) ∈ TBL := List.mem_filter.mpr ⟨List.mem_append_right _ (List.mem_of_getElem? (i := 1009) (by decide +kernel)), by decide +kernel⟩
theorem wd_1086 : Cond.methodLink RL 159 yX8_restore ∈ TBL := List.mem_filter.mpr ⟨List.mem_append_right _ (List.mem_of_getElem? (i := 1010) (by decide +kernel)), by decide +kernel⟩
theorem wd_1087 : Cond.instanceMethod yX8_restore ∈ TBL := List.mem_filter.mpr ⟨List.mem_append_right _ (List.mem_of_getElem? (i := 1011) (by decide +kernel)), by decide +kernel⟩
theorem wd_1088 : Cond.selects RX8 yX8_restore yX8_restore ∈ TBL := List.mem_filter.mpr ⟨List.mem_append_right _ (List.mem_of_getElem? (i := 1012) (by decide +kernel)), by decide +kernel⟩
theorem wd_1089 : Cond.code yX8_restore cX8_restore 1 (some .int) ∈ TBL := List.mem_filter.mpr ⟨List.mem_append_right _ (List.mem_of_getElem? (i := 1013) (by decide +kernel)), by decide +kernel⟩
theorem wd_1090 : Cond.methodLink RL 163 yX8_count ∈ TBL := List.mem_filter.mpr ⟨List.mem_append_right _ (List.mem_of_getElem? (i := 1014) (by decide +kernel)), by decide +kernel⟩
theorem wd_1091 : Cond.instanceMethod yX8_count ∈ TBL := List.mem_filter.mpr ⟨List.mem_append_right _ (List.mem_of_getElem? (i := 1015) (by decide +kernel)), by decide +kernel⟩
theorem wd_1092 : Cond.selects RX8 yX8_count yX8_count ∈ TBL := List.mem_filter.mpr ⟨List.mem_append_right _ (List.mem_of_getElem? (i := 1016) (by decide +kernel)), by decide +kernel⟩
theorem wd_1093 : Cond.code yX8_count cX8_count 2 (some .int) ∈ TBL := List.mem_filter.mpr ⟨List.mem_append_right _ (List.mem_of_getElem? (i := 1017) (by decide +kernel)), by decide +kernel⟩
theorem wd_1094 : Cond.methodLink RX8 296 yX0_allLists ∈ TBL := List.mem_filter.mpr ⟨List.mem_append_right _ (List.mem_of_getElem? (i := 1018) (by decide +kernel)), by decide +kernel⟩
theorem wd_1095 : Cond.instanceMethod yX0_allLists ∈ TBL := List.mem_filter.mpr ⟨List.mem_append_right _ (List.mem_of_getElem? (i := 1019) (by decide +kernel)), by decide +kernel⟩
theorem wd_1096 : Cond.selects RX0 yX0_allLists yX0_allLists ∈ TBL := List.mem_filter.mpr ⟨List.mem_append_right _ (List.mem_of_getElem? (i := 1020) (by decide +kernel)), by decide +kernel⟩
theorem wd_1097 : Cond.code yX0_allLists cX0_allLists 3 (some .int) ∈ TBL := List.mem_filter.mpr ⟨List.mem_append_right _ (List.mem_of_getElem? (i := 1021) (by decide +kernel)), by decide +kernel⟩
theorem wd_1098 : Cond.methodLink RX8 299 yX0_watchedCount ∈ TBL := List.mem_filter.mpr ⟨List.mem_append_right _ (List.mem_of_getElem? (i := 1022) (by decide +kernel)), by decide +kernel⟩
theorem wd_1099 : Cond.instanceMethod yX0_watchedCount ∈ TBL := List.mem_filter.mpr ⟨List.mem_append_right _ (List.mem_of_getElem? (i := 1023) (by decide +kernel)), by decide +kernel⟩
theorem wd_1100 : Cond.selects RX0 yX0_watchedCount yX0_watchedCount ∈ TBL := List.mem_filter.mpr ⟨List.mem_append_right _ (List.mem_of_getElem? (i := 1024) (by decide +kernel)), by decide +kernel⟩
theorem wd_1101 : Cond.code yX0_watchedCount cX0_watchedCount 3 (some .int) ∈ TBL := List.mem_filter.mpr ⟨List.mem_append_right _ (List.mem_of_getElem? (i := 1025) (by decide +kernel)), by decide +kernel⟩
theorem wd_1102 : Cond.methodLink RX8 302 yX0_allWrittenCame ∈ TBL := List.mem_filter.mpr ⟨List.mem_append_right _ (List.mem_of_getElem? (i := 1026) (by decide +kernel)), by decide +kernel⟩
theorem wd_1103 : Cond.methodLink RX8 305 yX0_allWrittenOurs ∈ TBL := List.mem_filter.mpr ⟨List.mem_append_right _ (List.mem_of_getElem? (i := 1027) (by decide +kernel)), by decide +kernel⟩
theorem wd_1104 : Cond.methodLink RL 167 yX8_keep ∈ TBL := List.mem_filter.mpr ⟨List.mem_append_right _ (List.mem_of_getElem? (i := 1028) (by decide +kernel)), by decide +kernel⟩
theorem wd_1105 : Cond.instanceMethod yX8_keep ∈ TBL := List.mem_filter.mpr ⟨List.mem_append_right _ (List.mem_of_getElem? (i := 1029) (by decide +kernel)), by decide +kernel⟩
theorem wd_1106 : Cond.selects RX8 yX8_keep yX8_keep ∈ TBL := List.mem_filter.mpr ⟨List.mem_append_right _ (List.mem_of_getElem? (i := 1030) (by decide +kernel)), by decide +kernel⟩
theorem wd_1107 : Cond.code yX8_keep cX8_keep 4 (some .int) ∈ TBL := List.mem_filter.mpr ⟨List.mem_append_right _ (List.mem_of_getElem? (i := 1031) (by decide +kernel)), by decide +kernel⟩
theorem wd_1108 : Cond.methodLink RX8 311 yX6_holdSheet ∈ TBL := List.mem_filter.mpr ⟨List.mem_append_right _ (List.mem_of_getElem? (i := 1032) (by decide +kernel)), by decide +kernel⟩
theorem wd_1109 : Cond.instanceMethod yX6_holdSheet ∈ TBL := List.mem_filter.mpr ⟨List.mem_append_right _ (List.mem_of_getElem? (i := 1033) (by decide +kernel)), by decide +kernel⟩
theorem wd_1110 : Cond.selects RX6 yX6_holdSheet yX6_holdSheet ∈ TBL := List.mem_filter.mpr ⟨List.mem_append_right _ (List.mem_of_getElem? (i := 1034) (by decide +kernel)), by decide +kernel⟩
theorem wd_1111 : Cond.code yX6_holdSheet cX6_holdSheet 3 none ∈ TBL := List.mem_filter.mpr ⟨List.mem_append_right _ (List.mem_of_getElem? (i := 1035) (by decide +kernel)), by decide +kernel⟩
theorem wd_1112 : Cond.methodLink RX6 36 yX5_copyFrom ∈ TBL := List.mem_filter.mpr ⟨List.mem_append_right _ (List.mem_of_getElem? (i := 1036) (by decide +kernel)), by decide +kernel⟩
theorem wd_1113 : Cond.methodLink RL 171 yX8_row ∈ TBL := List.mem_filter.mpr ⟨List.mem_append_right _ (List.mem_of_getElem? (i := 1037) (by decide +kernel)), by decide +kernel⟩
theorem wd_1114 : Cond.instanceMethod yX8_row ∈ TBL := List.mem_filter.mpr ⟨List.mem_append_right _ (List.mem_of_getElem? (i := 1038) (by decide +kernel)), by decide +kernel⟩
theorem wd_1115 : Cond.selects RX8 yX8_row yX8_row ∈ TBL := List.mem_filter.mpr ⟨List.mem_append_right _ (List.mem_of_getElem? (i := 1039) (by decide +kernel)), by decide +kernel⟩
theorem wd_1116 : Cond.code yX8_row cX8_row 4 (some .int) ∈ TBL := List.mem_filter.mpr ⟨List.mem_append_right _ (List.mem_of_getElem? (i := 1040) (by decide +kernel)), by decide +kernel⟩
theorem wd_1117 : Cond.methodLink RX8 315 yX6_holdRow ∈ TBL := List.mem_filter.mpr ⟨List.mem_append_right _ (List.mem_of_getElem? (i := 1041) (by decide +kernel)), by decide +kernel⟩
theorem wd_1118 : Cond.instanceMethod yX6_holdRow ∈ TBL := List.mem_filter.mpr ⟨List.mem_append_right _ (List.mem_of_getElem? (i := 1042) (by decide +kernel)), by decide +kernel⟩
theorem wd_1119 : Cond.selects RX6 yX6_holdRow yX6_holdRow ∈ TBL := List.mem_filter.mpr ⟨List.mem_append_right _ (List.mem_of_getElem? (i := 1043) (by decide +kernel)), by decide +kernel⟩
theorem wd_1120 : Cond.code yX6_holdRow cX6_holdRow 3 none ∈ TBL := List.mem_filter.mpr ⟨List.mem_append_right _ (List.mem_of_getElem? (i := 1044) (by decide +kernel)), by decide +kernel⟩
theorem wd_1121 : Cond.methodLink RX6 46 yJ7_fill_53178 ∈ TBL := List.mem_filter.mpr ⟨List.mem_append_right _ (List.mem_of_getElem? (i := 1045) (by decide +kernel)), by decide +kernel⟩
theorem wd_1122 : Cond.methodLink RL 175 yX8_put ∈ TBL := List.mem_filter.mpr ⟨List.mem_append_right _ (List.mem_of_getElem? (i := 1046) (by decide +kernel)), by decide +kernel⟩
theorem wd_1123 : Cond.instanceMethod yX8_put ∈ TBL := List.mem_filter.mpr ⟨List.mem_append_right _ (List.mem_of_getElem? (i := 1047) (by decide +kernel)), by decide +kernel⟩
theorem wd_1124 : Cond.selects RX8 yX8_put yX8_put ∈ TBL := List.mem_filter.mpr ⟨List.mem_append_right _ (List.mem_of_getElem? (i := 1048) (by decide +kernel)), by decide +kernel⟩
theorem wd_1125 : Cond.code yX8_put cX8_put 6 (some .int) ∈ TBL := List.mem_filter.mpr ⟨List.mem_append_right _ (List.mem_of_getElem? (i := 1049) (by decide +kernel)), by decide +kernel⟩
theorem wd_1126 : Cond.methodLink RX8 321 yX6_hasPlace ∈ TBL := List.mem_filter.mpr ⟨List.mem_append_right _ (List.mem_of_getElem? (i := 1050) (by decide +kernel)), by decide +kernel⟩
theorem wd_1127 : Cond.methodLink RX8 324 yX6_lowestBits ∈ TBL := List.mem_filter.mpr ⟨List.mem_append_right _ (List.mem_of_getElem? (i := 1051) (by decide +kernel)), by decide +kernel⟩
theorem wd_1128 : Cond.instanceMethod yX6_lowestBits ∈ TBL := List.mem_filter.mpr ⟨List.mem_append_right _ (List.mem_of_getElem? (i := 1052) (by decide +kernel)), by decide +kernel⟩
theorem wd_1129 : Cond.selects RX6 yX6_lowestBits yX6_lowestBits ∈ TBL := List.mem_filter.mpr ⟨List.mem_append_right _ (List.mem_of_getElem? (i := 1053) (by decide +kernel)), by decide +kernel⟩
theorem wd_1130 : Cond.code yX6_lowestBits cX6_lowestBits 2 (some .int) ∈ TBL := List.mem_filter.mpr ⟨List.mem_append_right _ (List.mem_of_getElem? (i := 1054) (by decide +kernel)), by decide +kernel⟩
theorem wd_1131 : Cond.methodLink RL 188 yX8_copy ∈ TBL := List.mem_filter.mpr ⟨List.mem_append_right _ (List.mem_of_getElem? (i := 1055) (by decide +kernel)), by decide +kernel⟩
theorem wd_1132 : Cond.instanceMethod yX8_copy ∈ TBL := List.mem_filter.mpr ⟨List.mem_append_right _ (List.mem_of_getElem? (i := 1056) (by decide +kernel)), by decide +kernel⟩
theorem wd_1133 : Cond.selects RX8 yX8_copy yX8_copy ∈ TBL := List.mem_filter.mpr ⟨List.mem_append_right _ (List.mem_of_getElem? (i := 1057) (by decide +kernel)), by decide +kernel⟩
theorem wd_1134 : Cond.code yX8_copy cX8_copy 7 (some .int) ∈ TBL := List.mem_filter.mpr ⟨List.mem_append_right _ (List.mem_of_getElem? (i := 1058) (by decide +kernel)), by decide +kernel⟩
theorem wd_1135 : Cond.methodLink RX8 339 yX6_hasPlaces ∈ TBL := List.mem_filter.mpr ⟨List.mem_append_right _ (List.mem_of_getElem? (i := 1059) (by decide +kernel)), by decide +kernel⟩
theorem wd_1136 : Cond.instanceMethod yX6_hasPlaces ∈ TBL := List.mem_filter.mpr ⟨List.mem_append_right _ (List.mem_of_getElem? (i := 1060) (by decide +kernel)), by decide +kernel⟩
theorem wd_1137 : Cond.selects RX6 yX6_hasPlaces yX6_hasPlaces ∈ TBL := List.mem_filter.mpr ⟨List.mem_append_right _ (List.mem_of_getElem? (i := 1061) (by decide +kernel)), by decide +kernel⟩
theorem wd_1138 : Cond.code yX6_hasPlaces cX6_hasPlaces 3 (some .boolean) ∈ TBL := List.mem_filter.mpr ⟨List.mem_append_right _ (List.mem_of_getElem? (i := 1062) (by decide +kernel)), by decide +kernel⟩
theorem wd_1139 : Cond.methodLink RX8 342 arraycopyName ∈ TBL := List.mem_filter.mpr ⟨List.mem_append_right _ (List.mem_of_getElem? (i := 1063) (by decide +kernel)), by decide +kernel⟩
theorem wd_1140 : Cond.methodLink RL 193 yX8_weight ∈ TBL := List.mem_filter.mpr ⟨List.mem_append_right _ (List.mem_of_getElem? (i := 1064) (by decide +kernel)), by decide +kernel⟩
theorem wd_1141 : Cond.instanceMethod yX8_weight ∈ TBL := List.mem_filter.mpr ⟨List.mem_append_right _ (List.mem_of_getElem? (i := 1065) (by decide +kernel)), by decide +kernel⟩
theorem wd_1142 : Cond.selects RX8 yX8_weight yX8_weight ∈ TBL := List.mem_filter.mpr ⟨List.mem_append_right _ (List.mem_of_getElem? (i := 1066) (by decide +kernel)), by decide +kernel⟩
theorem wd_1143 : Cond.code yX8_weight cX8_weight 3 (some .int) ∈ TBL := List.mem_filter.mpr ⟨List.mem_append_right _ (List.mem_of_getElem? (i := 1067) (by decide +kernel)), by decide +kernel⟩
theorem wd_1144 : Cond.methodLink RX8 348 yX8_sheetRefusal ∈ TBL := List.mem_filter.mpr ⟨List.mem_append_right _ (List.mem_of_getElem? (i := 1068) (by decide +kernel)), by decide +kernel⟩
theorem wd_1146 : Cond.instanceMethod yX8_sheetRefusal ∈ TBL := List.mem_filter.mpr ⟨List.mem_append_right _ (List.mem_of_getElem? (i := 1070) (by decide +kernel)), by decide +kernel⟩
theorem wd_1147 : Cond.code yX8_sheetRefusal cX8_sheetRefusal 2 (some .int) ∈ TBL := List.mem_filter.mpr ⟨List.mem_append_right _ (List.mem_of_getElem? (i := 1071) (by decide +kernel)), by decide +kernel⟩
theorem wd_1148 : Cond.methodLink RX8 352 yX5_heaviness ∈ TBL := List.mem_filter.mpr ⟨List.mem_append_right _ (List.mem_of_getElem? (i := 1072) (by decide +kernel)), by decide +kernel⟩
theorem wd_1149 : Cond.instanceMethod yX5_heaviness ∈ TBL := List.mem_filter.mpr ⟨List.mem_append_right _ (List.mem_of_getElem? (i := 1073) (by decide +kernel)), by decide +kernel⟩
theorem wd_1150 : Cond.selects RX5 yX5_heaviness yX5_heaviness ∈ TBL := List.mem_filter.mpr ⟨List.mem_append_right _ (List.mem_of_getElem? (i := 1074) (by decide +kernel)), by decide +kernel⟩
theorem wd_1151 : Cond.code yX5_heaviness cX5_heaviness 1 (some .int) ∈ TBL := List.mem_filter.mpr ⟨List.mem_append_right _ (List.mem_of_getElem? (i := 1075) (by decide +kernel)), by decide +kernel⟩
theorem wd_1152 : Cond.methodLink RL 197 yX8_toss ∈ TBL := List.mem_filter.mpr ⟨List.mem_append_right _ (List.mem_of_getElem? (i := 1076) (by decide +kernel)), by decide +kernel⟩
theorem wd_1153 : Cond.instanceMethod yX8_toss ∈ TBL := List.mem_filter.mpr ⟨List.mem_append_right _ (List.mem_of_getElem? (i := 1077) (by decide +kernel)), by decide +kernel⟩
theorem wd_1154 : Cond.selects RX8 yX8_toss yX8_toss ∈ TBL := List.mem_filter.mpr ⟨List.mem_append_right _ (List.mem_of_getElem? (i := 1078) (by decide +kernel)), by decide +kernel⟩
theorem wd_1155 : Cond.code yX8_toss cX8_toss 3 (some .int) ∈ TBL := List.mem_filter.mpr ⟨List.mem_append_right _ (List.mem_of_getElem? (i := 1079) (by decide +kernel)), by decide +kernel⟩
theorem wd_1156 : Cond.methodLink RX8 355 yX6_caughtFailure ∈ TBL := List.mem_filter.mpr ⟨List.mem_append_right _ (List.mem_of_getElem? (i := 1080) (by decide +kernel)), by decide +kernel⟩
theorem wd_1157 : Cond.instanceMethod yX6_caughtFailure ∈ TBL := List.mem_filter.mpr ⟨List.mem_append_right _ (List.mem_of_getElem? (i := 1081) (by decide +kernel)), by decide +kernel⟩
theorem wd_1158 : Cond.selects RX6 yX6_caughtFailure yX6_caughtFailure ∈ TBL := List.mem_filter.mpr ⟨List.mem_append_right _ (List.mem_of_getElem? (i := 1082) (by decide +kernel)), by decide +kernel⟩
theorem wd_1159 : Cond.codeWith yX6_caughtFailure cX6_caughtFailure 2 (some .int) [(10, 19, 20, 68), (10, 19, 29, 73), (10, 19, 38, 75), (10, 19, 48, 77)] ∈ TBL := List.mem_filter.mpr ⟨List.mem_append_right _ (List.mem_of_getElem? (i := 1083) (by decide +kernel)), by decide +kernel⟩
theorem wd_1160 : Cond.classLink RX6 68 "java/lang/IllegalArgumentException" ∈ TBL := List.mem_filter.mpr ⟨List.mem_append_right _ (List.mem_of_getElem? (i := 1084) (by decide +kernel)), by decide +kernel⟩
theorem wd_1161 : Cond.classLink RX6 73 "java/lang/UnsupportedOperationException" ∈ TBL := List.mem_filter.mpr ⟨List.mem_append_right _ (List.mem_of_getElem? (i := 1085) (by decide +kernel)), by decide +kernel⟩
theorem wd_1162 : Cond.classLink RX6 75 "java/util/NoSuchElementException" ∈ TBL := List.mem_filter.mpr ⟨List.mem_append_right _ (List.mem_of_getElem? (i := 1086) (by decide +kernel)), by decide +kernel⟩
theorem wd_1163 : Cond.classLink RX6 77 "java/lang/IllegalStateException" ∈ TBL := List.mem_filter.mpr ⟨List.mem_append_right _ (List.mem_of_getElem? (i := 1087) (by decide +kernel)), by decide +kernel⟩
theorem wd_1164 : Cond.methodLink RX6 65 yX5_fail ∈ TBL := List.mem_filter.mpr ⟨List.mem_append_right _ (List.mem_of_getElem? (i := 1088) (by decide +kernel)), by decide +kernel⟩
theorem wd_1165 : Cond.instanceMethod yX5_fail ∈ TBL := List.mem_filter.mpr ⟨List.mem_append_right _ (List.mem_of_getElem? (i := 1089) (by decide +kernel)), by decide +kernel⟩
theorem wd_1166 : Cond.selects RX5 yX5_fail yX5_fail ∈ TBL := List.mem_filter.mpr ⟨List.mem_append_right _ (List.mem_of_getElem? (i := 1090) (by decide +kernel)), by decide +kernel⟩
theorem wd_1167 : Cond.code yX5_fail cX5_fail 1 none ∈ TBL := List.mem_filter.mpr ⟨List.mem_append_right _ (List.mem_of_getElem? (i := 1091) (by decide +kernel)), by decide +kernel⟩
theorem wd_1168 : Cond.classLink RX5 35 "java/lang/IllegalArgumentException" ∈ TBL := List.mem_filter.mpr ⟨List.mem_append_right _ (List.mem_of_getElem? (i := 1092) (by decide +kernel)), by decide +kernel⟩
theorem wd_1170 : Cond.castable "java/lang/IllegalArgumentException" "java/lang/IllegalArgumentException" ∈ NST := List.mem_filter.mpr ⟨List.mem_append_right _ (List.mem_of_getElem? (i := 1094) (by decide +kernel)), by decide +kernel⟩
theorem wd_1236 : Cond.classLink RX5 42 "java/lang/UnsupportedOperationException" ∈ TBL := List.mem_filter.mpr ⟨List.mem_append_right _ (List.mem_of_getElem? (i := 1160) (by decide +kernel)), by decide +kernel⟩
theorem wd_1238 : Cond.castable "java/lang/UnsupportedOperationException" "java/lang/UnsupportedOperationException" ∈ NST := List.mem_filter.mpr ⟨List.mem_append_right _ (List.mem_of_getElem? (i := 1162) (by decide +kernel)), by decide +kernel⟩
theorem wd_1252 : Cond.classLink RX5 47 "java/util/NoSuchElementException" ∈ TBL := List.mem_filter.mpr ⟨List.mem_append_right _ (List.mem_of_getElem? (i := 1176) (by decide +kernel)), by decide +kernel⟩
theorem wd_1254 : Cond.castable "java/util/NoSuchElementException" "java/util/NoSuchElementException" ∈ NST := List.mem_filter.mpr ⟨List.mem_append_right _ (List.mem_of_getElem? (i := 1178) (by decide +kernel)), by decide +kernel⟩
theorem wd_1268 : Cond.classLink RX5 52 "java/lang/IllegalStateException" ∈ TBL := List.mem_filter.mpr ⟨List.mem_append_right _ (List.mem_of_getElem? (i := 1192) (by decide +kernel)), by decide +kernel⟩
theorem wd_1270 : Cond.castable "java/lang/IllegalStateException" "java/lang/IllegalStateException" ∈ NST := List.mem_filter.mpr ⟨List.mem_append_right _ (List.mem_of_getElem? (i := 1194) (by decide +kernel)), by decide +kernel⟩
theorem wd_1284 : Cond.methodLink RL 179 yL_element ∈ TBL := List.mem_filter.mpr ⟨List.mem_append_right _ (List.mem_of_getElem? (i := 1208) (by decide +kernel)), by decide +kernel⟩
theorem wd_1285 : Cond.static yL_element ∈ TBL := List.mem_filter.mpr ⟨List.mem_append_right _ (List.mem_of_getElem? (i := 1209) (by decide +kernel)), by decide +kernel⟩
theorem wd_1286 : Cond.codeWith yL_element cL_element 5 (some .int) [(0, 9, 12, 13), (0, 9, 16, 15)] ∈ TBL := List.mem_filter.mpr ⟨List.mem_append_right _ (List.mem_of_getElem? (i := 1210) (by decide +kernel)), by decide +kernel⟩
theorem wd_1287 : Cond.classLink RL 13 "java/lang/IllegalArgumentException" ∈ TBL := List.mem_filter.mpr ⟨List.mem_append_right _ (List.mem_of_getElem? (i := 1211) (by decide +kernel)), by decide +kernel⟩
theorem wd_1288 : Cond.classLink RL 15 "java/lang/IllegalStateException" ∈ TBL := List.mem_filter.mpr ⟨List.mem_append_right _ (List.mem_of_getElem? (i := 1212) (by decide +kernel)), by decide +kernel⟩
theorem wd_1289 : Cond.methodLink RL 7 yX8_element ∈ TBL := List.mem_filter.mpr ⟨List.mem_append_right _ (List.mem_of_getElem? (i := 1213) (by decide +kernel)), by decide +kernel⟩
theorem wd_1290 : Cond.instanceMethod yX8_element ∈ TBL := List.mem_filter.mpr ⟨List.mem_append_right _ (List.mem_of_getElem? (i := 1214) (by decide +kernel)), by decide +kernel⟩
theorem wd_1291 : Cond.selects RX8 yX8_element yX8_element ∈ TBL := List.mem_filter.mpr ⟨List.mem_append_right _ (List.mem_of_getElem? (i := 1215) (by decide +kernel)), by decide +kernel⟩
theorem wd_1292 : Cond.code yX8_element cX8_element 4 (some .long) ∈ TBL := List.mem_filter.mpr ⟨List.mem_append_right _ (List.mem_of_getElem? (i := 1216) (by decide +kernel)), by decide +kernel⟩
theorem wd_1293 : Cond.classLink RX8 327 "java/lang/IllegalArgumentException" ∈ TBL := List.mem_filter.mpr ⟨List.mem_append_right _ (List.mem_of_getElem? (i := 1217) (by decide +kernel)), by decide +kernel⟩
theorem wd_1296 : Cond.classLink RX8 334 "java/lang/IllegalStateException" ∈ TBL := List.mem_filter.mpr ⟨List.mem_append_right _ (List.mem_of_getElem? (i := 1220) (by decide +kernel)), by decide +kernel⟩
theorem wd_1299 : Cond.classLink RL 18 RX9 ∈ TBL := List.mem_filter.mpr ⟨List.mem_append_right _ (List.mem_of_getElem? (i := 1223) (by decide +kernel)), by decide +kernel⟩
theorem wd_1300 : Cond.instantiable RX9 28 ∈ TBL := List.mem_filter.mpr ⟨List.mem_append_right _ (List.mem_of_getElem? (i := 1224) (by decide +kernel)), by decide +kernel⟩
theorem wd_1301 : Cond.methodLink RL 20 yX9_init ∈ TBL := List.mem_filter.mpr ⟨List.mem_append_right _ (List.mem_of_getElem? (i := 1225) (by decide +kernel)), by decide +kernel⟩
theorem wd_1302 : Cond.instanceMethod yX9_init ∈ TBL := List.mem_filter.mpr ⟨List.mem_append_right _ (List.mem_of_getElem? (i := 1226) (by decide +kernel)), by decide +kernel⟩
theorem wd_1303 : Cond.code yX9_init cX9_init 2 none ∈ TBL := List.mem_filter.mpr ⟨List.mem_append_right _ (List.mem_of_getElem? (i := 1227) (by decide +kernel)), by decide +kernel⟩
theorem wd_1304 : Cond.methodLink RX9 1 Lib.objectInit ∈ TBL := List.mem_filter.mpr ⟨List.mem_append_right _ (List.mem_of_getElem? (i := 1228) (by decide +kernel)), by decide +kernel⟩
theorem wd_1305 : Cond.fieldLink RX9 9 "HallSheetsModel" "s" "[I" ∈ TBL := List.mem_filter.mpr ⟨List.mem_append_right _ (List.mem_of_getElem? (i := 1229) (by decide +kernel)), by decide +kernel⟩
theorem wd_1306 : Cond.fieldLink RX9 13 "HallSheetsModel" "image" "[I" ∈ TBL := List.mem_filter.mpr ⟨List.mem_append_right _ (List.mem_of_getElem? (i := 1230) (by decide +kernel)), by decide +kernel⟩
theorem wd_1307 : Cond.fieldLink RX9 16 "HallSheetsModel" "kept" "[I" ∈ TBL := List.mem_filter.mpr ⟨List.mem_append_right _ (List.mem_of_getElem? (i := 1231) (by decide +kernel)), by decide +kernel⟩
theorem wd_1308 : Cond.fieldLink RX9 19 "HallSheetsModel" "sort" "[I" ∈ TBL := List.mem_filter.mpr ⟨List.mem_append_right _ (List.mem_of_getElem? (i := 1232) (by decide +kernel)), by decide +kernel⟩
theorem wd_1309 : Cond.fieldLink RX9 22 "HallSheetsModel" "size" "[I" ∈ TBL := List.mem_filter.mpr ⟨List.mem_append_right _ (List.mem_of_getElem? (i := 1233) (by decide +kernel)), by decide +kernel⟩
theorem wd_1310 : Cond.fieldLink RX9 25 "HallSheetsModel" "element" "[I" ∈ TBL := List.mem_filter.mpr ⟨List.mem_append_right _ (List.mem_of_getElem? (i := 1234) (by decide +kernel)), by decide +kernel⟩
theorem wd_1311 : Cond.fieldLink RX9 28 "HallSheetsModel" "keptWeight" "[I" ∈ TBL := List.mem_filter.mpr ⟨List.mem_append_right _ (List.mem_of_getElem? (i := 1235) (by decide +kernel)), by decide +kernel⟩
theorem wd_1312 : Cond.fieldLink RX9 31 "HallSheetsModel" "keptToss" "[I" ∈ TBL := List.mem_filter.mpr ⟨List.mem_append_right _ (List.mem_of_getElem? (i := 1236) (by decide +kernel)), by decide +kernel⟩
theorem wd_1313 : Cond.fieldLink RX9 291 "HallSheetsModel" "hasImage" "Z" ∈ TBL := List.mem_filter.mpr ⟨List.mem_append_right _ (List.mem_of_getElem? (i := 1237) (by decide +kernel)), by decide +kernel⟩
theorem wd_1314 : Cond.fieldLink RX9 58 "HallSheetsModel" "thrown" "I" ∈ TBL := List.mem_filter.mpr ⟨List.mem_append_right _ (List.mem_of_getElem? (i := 1238) (by decide +kernel)), by decide +kernel⟩
theorem wd_1315 : Cond.fieldLink RX9 34 "HallSheetsModel" "count" "[I" ∈ TBL := List.mem_filter.mpr ⟨List.mem_append_right _ (List.mem_of_getElem? (i := 1239) (by decide +kernel)), by decide +kernel⟩
theorem wd_1316 : Cond.fieldLink RX9 118 "HallSheetsModel" "counted" "I" ∈ TBL := List.mem_filter.mpr ⟨List.mem_append_right _ (List.mem_of_getElem? (i := 1240) (by decide +kernel)), by decide +kernel⟩
theorem wd_1317 : Cond.fieldLink RX9 37 "HallSheetsModel" "shares" "[I" ∈ TBL := List.mem_filter.mpr ⟨List.mem_append_right _ (List.mem_of_getElem? (i := 1241) (by decide +kernel)), by decide +kernel⟩
theorem wd_1318 : Cond.fieldLink RX9 145 "HallSheetsModel" "some" "I" ∈ TBL := List.mem_filter.mpr ⟨List.mem_append_right _ (List.mem_of_getElem? (i := 1242) (by decide +kernel)), by decide +kernel⟩
theorem wd_1319 : Cond.fieldLink RX9 148 "HallSheetsModel" "someWatched" "I" ∈ TBL := List.mem_filter.mpr ⟨List.mem_append_right _ (List.mem_of_getElem? (i := 1243) (by decide +kernel)), by decide +kernel⟩
theorem wd_1320 : Cond.fieldLink RX9 40 "HallSheetsModel" "worths" "[I" ∈ TBL := List.mem_filter.mpr ⟨List.mem_append_right _ (List.mem_of_getElem? (i := 1244) (by decide +kernel)), by decide +kernel⟩
theorem wd_1321 : Cond.fieldLink RX9 206 "HallSheetsModel" "seed" "I" ∈ TBL := List.mem_filter.mpr ⟨List.mem_append_right _ (List.mem_of_getElem? (i := 1245) (by decide +kernel)), by decide +kernel⟩
theorem wd_1322 : Cond.fieldLink RX9 43 "HallSheetsModel" "landCame" "[I" ∈ TBL := List.mem_filter.mpr ⟨List.mem_append_right _ (List.mem_of_getElem? (i := 1246) (by decide +kernel)), by decide +kernel⟩
theorem wd_1323 : Cond.fieldLink RX9 46 "HallSheetsModel" "landOurs" "[I" ∈ TBL := List.mem_filter.mpr ⟨List.mem_append_right _ (List.mem_of_getElem? (i := 1247) (by decide +kernel)), by decide +kernel⟩
theorem wd_1324 : Cond.fieldLink RX9 49 "HallSheetsModel" "oldCame" "[I" ∈ TBL := List.mem_filter.mpr ⟨List.mem_append_right _ (List.mem_of_getElem? (i := 1248) (by decide +kernel)), by decide +kernel⟩
theorem wd_1325 : Cond.fieldLink RX9 52 "HallSheetsModel" "oldOurs" "[I" ∈ TBL := List.mem_filter.mpr ⟨List.mem_append_right _ (List.mem_of_getElem? (i := 1249) (by decide +kernel)), by decide +kernel⟩
theorem wd_1326 : Cond.fieldLink RX9 221 "HallSheetsModel" "pos" "I" ∈ TBL := List.mem_filter.mpr ⟨List.mem_append_right _ (List.mem_of_getElem? (i := 1250) (by decide +kernel)), by decide +kernel⟩
theorem wd_1327 : Cond.fieldLink RX9 227 "HallSheetsModel" "base" "I" ∈ TBL := List.mem_filter.mpr ⟨List.mem_append_right _ (List.mem_of_getElem? (i := 1251) (by decide +kernel)), by decide +kernel⟩
theorem wd_1328 : Cond.fieldLink RX9 224 "HallSheetsModel" "end" "I" ∈ TBL := List.mem_filter.mpr ⟨List.mem_append_right _ (List.mem_of_getElem? (i := 1252) (by decide +kernel)), by decide +kernel⟩
theorem wd_1329 : Cond.fieldLink RX9 247 "HallSheetsModel" "deep" "I" ∈ TBL := List.mem_filter.mpr ⟨List.mem_append_right _ (List.mem_of_getElem? (i := 1253) (by decide +kernel)), by decide +kernel⟩
theorem wd_1330 : Cond.fieldLink RX9 268 "HallSheetsModel" "asked" "I" ∈ TBL := List.mem_filter.mpr ⟨List.mem_append_right _ (List.mem_of_getElem? (i := 1254) (by decide +kernel)), by decide +kernel⟩
theorem wd_1331 : Cond.fieldLink RX9 55 "HallSheetsModel" "text" "[I" ∈ TBL := List.mem_filter.mpr ⟨List.mem_append_right _ (List.mem_of_getElem? (i := 1255) (by decide +kernel)), by decide +kernel⟩
theorem wd_1332 : Cond.fieldLink RX9 230 "HallSheetsModel" "isWell" "Z" ∈ TBL := List.mem_filter.mpr ⟨List.mem_append_right _ (List.mem_of_getElem? (i := 1256) (by decide +kernel)), by decide +kernel⟩
theorem wd_1390 : Cond.methodLink RL 185 yX9_thrown ∈ TBL := List.mem_filter.mpr ⟨List.mem_append_right _ (List.mem_of_getElem? (i := 1314) (by decide +kernel)), by decide +kernel⟩
theorem wd_1391 : Cond.instanceMethod yX9_thrown ∈ TBL := List.mem_filter.mpr ⟨List.mem_append_right _ (List.mem_of_getElem? (i := 1315) (by decide +kernel)), by decide +kernel⟩
theorem wd_1392 : Cond.selects RX9 yX9_thrown yX9_thrown ∈ TBL := List.mem_filter.mpr ⟨List.mem_append_right _ (List.mem_of_getElem? (i := 1316) (by decide +kernel)), by decide +kernel⟩
theorem wd_1393 : Cond.code yX9_thrown cX9_thrown 1 (some .int) ∈ TBL := List.mem_filter.mpr ⟨List.mem_append_right _ (List.mem_of_getElem? (i := 1317) (by decide +kernel)), by decide +kernel⟩
theorem wd_1394 : Cond.methodLink RL 25 yX9_hall ∈ TBL := List.mem_filter.mpr ⟨List.mem_append_right _ (List.mem_of_getElem? (i := 1318) (by decide +kernel)), by decide +kernel⟩
theorem wd_1395 : Cond.instanceMethod yX9_hall ∈ TBL := List.mem_filter.mpr ⟨List.mem_append_right _ (List.mem_of_getElem? (i := 1319) (by decide +kernel)), by decide +kernel⟩
theorem wd_1396 : Cond.selects RX9 yX9_hall yX9_hall ∈ TBL := List.mem_filter.mpr ⟨List.mem_append_right _ (List.mem_of_getElem? (i := 1320) (by decide +kernel)), by decide +kernel⟩
theorem wd_1397 : Cond.code yX9_hall cX9_hall 6 (some .int) ∈ TBL := List.mem_filter.mpr ⟨List.mem_append_right _ (List.mem_of_getElem? (i := 1321) (by decide +kernel)), by decide +kernel⟩
theorem wd_1398 : Cond.constantLong RX9 68 (999) ∈ TBL := List.mem_filter.mpr ⟨List.mem_append_right _ (List.mem_of_getElem? (i := 1322) (by decide +kernel)), by decide +kernel⟩
theorem wd_1399 : Cond.methodLink RX9 62 yX9_isIn ∈ TBL := List.mem_filter.mpr ⟨List.mem_append_right _ (List.mem_of_getElem? (i := 1323) (by decide +kernel)), by decide +kernel⟩
theorem wd_1400 : Cond.static yX9_isIn ∈ TBL := List.mem_filter.mpr ⟨List.mem_append_right _ (List.mem_of_getElem? (i := 1324) (by decide +kernel)), by decide +kernel⟩
theorem wd_1401 : Cond.code yX9_isIn cX9_isIn 6 (some .boolean) ∈ TBL := List.mem_filter.mpr ⟨List.mem_append_right _ (List.mem_of_getElem? (i := 1325) (by decide +kernel)), by decide +kernel⟩
theorem wd_1402 : Cond.constantLong RX9 70 (100) ∈ TBL := List.mem_filter.mpr ⟨List.mem_append_right _ (List.mem_of_getElem? (i := 1326) (by decide +kernel)), by decide +kernel⟩
theorem wd_1403 : Cond.methodLink RL 29 yX9_truly ∈ TBL := List.mem_filter.mpr ⟨List.mem_append_right _ (List.mem_of_getElem? (i := 1327) (by decide +kernel)), by decide +kernel⟩
theorem wd_1404 : Cond.instanceMethod yX9_truly ∈ TBL := List.mem_filter.mpr ⟨List.mem_append_right _ (List.mem_of_getElem? (i := 1328) (by decide +kernel)), by decide +kernel⟩
theorem wd_1405 : Cond.selects RX9 yX9_truly yX9_truly ∈ TBL := List.mem_filter.mpr ⟨List.mem_append_right _ (List.mem_of_getElem? (i := 1329) (by decide +kernel)), by decide +kernel⟩
theorem wd_1406 : Cond.code yX9_truly cX9_truly 4 (some .int) ∈ TBL := List.mem_filter.mpr ⟨List.mem_append_right _ (List.mem_of_getElem? (i := 1330) (by decide +kernel)), by decide +kernel⟩
theorem wd_1407 : Cond.methodLink RX9 72 yX9_isHall ∈ TBL := List.mem_filter.mpr ⟨List.mem_append_right _ (List.mem_of_getElem? (i := 1331) (by decide +kernel)), by decide +kernel⟩
theorem wd_1409 : Cond.instanceMethod yX9_isHall ∈ TBL := List.mem_filter.mpr ⟨List.mem_append_right _ (List.mem_of_getElem? (i := 1333) (by decide +kernel)), by decide +kernel⟩
theorem wd_1410 : Cond.code yX9_isHall cX9_isHall 2 (some .boolean) ∈ TBL := List.mem_filter.mpr ⟨List.mem_append_right _ (List.mem_of_getElem? (i := 1334) (by decide +kernel)), by decide +kernel⟩
theorem wd_1411 : Cond.methodLink RX9 76 yX9_get ∈ TBL := List.mem_filter.mpr ⟨List.mem_append_right _ (List.mem_of_getElem? (i := 1335) (by decide +kernel)), by decide +kernel⟩
theorem wd_1413 : Cond.instanceMethod yX9_get ∈ TBL := List.mem_filter.mpr ⟨List.mem_append_right _ (List.mem_of_getElem? (i := 1337) (by decide +kernel)), by decide +kernel⟩
theorem wd_1414 : Cond.code yX9_get cX9_get 3 (some .int) ∈ TBL := List.mem_filter.mpr ⟨List.mem_append_right _ (List.mem_of_getElem? (i := 1338) (by decide +kernel)), by decide +kernel⟩
theorem wd_1415 : Cond.methodLink RX9 80 yX9_becomes ∈ TBL := List.mem_filter.mpr ⟨List.mem_append_right _ (List.mem_of_getElem? (i := 1339) (by decide +kernel)), by decide +kernel⟩
theorem wd_1417 : Cond.instanceMethod yX9_becomes ∈ TBL := List.mem_filter.mpr ⟨List.mem_append_right _ (List.mem_of_getElem? (i := 1341) (by decide +kernel)), by decide +kernel⟩
theorem wd_1418 : Cond.code yX9_becomes cX9_becomes 4 (some .int) ∈ TBL := List.mem_filter.mpr ⟨List.mem_append_right _ (List.mem_of_getElem? (i := 1342) (by decide +kernel)), by decide +kernel⟩
theorem wd_1419 : Cond.methodLink RL 33 yX9_sheet ∈ TBL := List.mem_filter.mpr ⟨List.mem_append_right _ (List.mem_of_getElem? (i := 1343) (by decide +kernel)), by decide +kernel⟩
theorem wd_1420 : Cond.instanceMethod yX9_sheet ∈ TBL := List.mem_filter.mpr ⟨List.mem_append_right _ (List.mem_of_getElem? (i := 1344) (by decide +kernel)), by decide +kernel⟩
theorem wd_1421 : Cond.selects RX9 yX9_sheet yX9_sheet ∈ TBL := List.mem_filter.mpr ⟨List.mem_append_right _ (List.mem_of_getElem? (i := 1345) (by decide +kernel)), by decide +kernel⟩
theorem wd_1422 : Cond.code yX9_sheet cX9_sheet 4 (some .int) ∈ TBL := List.mem_filter.mpr ⟨List.mem_append_right _ (List.mem_of_getElem? (i := 1346) (by decide +kernel)), by decide +kernel⟩
theorem wd_1423 : Cond.constantLong RX9 66 (7) ∈ TBL := List.mem_filter.mpr ⟨List.mem_append_right _ (List.mem_of_getElem? (i := 1347) (by decide +kernel)), by decide +kernel⟩
theorem wd_1424 : Cond.methodLink RL 38 yX9_set ∈ TBL := List.mem_filter.mpr ⟨List.mem_append_right _ (List.mem_of_getElem? (i := 1348) (by decide +kernel)), by decide +kernel⟩
theorem wd_1425 : Cond.instanceMethod yX9_set ∈ TBL := List.mem_filter.mpr ⟨List.mem_append_right _ (List.mem_of_getElem? (i := 1349) (by decide +kernel)), by decide +kernel⟩
theorem wd_1426 : Cond.selects RX9 yX9_set yX9_set ∈ TBL := List.mem_filter.mpr ⟨List.mem_append_right _ (List.mem_of_getElem? (i := 1350) (by decide +kernel)), by decide +kernel⟩
theorem wd_1427 : Cond.code yX9_set cX9_set 3 (some .int) ∈ TBL := List.mem_filter.mpr ⟨List.mem_append_right _ (List.mem_of_getElem? (i := 1351) (by decide +kernel)), by decide +kernel⟩
theorem wd_1428 : Cond.constantLong RX9 83 (9) ∈ TBL := List.mem_filter.mpr ⟨List.mem_append_right _ (List.mem_of_getElem? (i := 1352) (by decide +kernel)), by decide +kernel⟩
theorem wd_1429 : Cond.constantLong RX9 85 (30) ∈ TBL := List.mem_filter.mpr ⟨List.mem_append_right _ (List.mem_of_getElem? (i := 1353) (by decide +kernel)), by decide +kernel⟩
theorem wd_1430 : Cond.methodLink RL 42 yX9_of ∈ TBL := List.mem_filter.mpr ⟨List.mem_append_right _ (List.mem_of_getElem? (i := 1354) (by decide +kernel)), by decide +kernel⟩
theorem wd_1431 : Cond.instanceMethod yX9_of ∈ TBL := List.mem_filter.mpr ⟨List.mem_append_right _ (List.mem_of_getElem? (i := 1355) (by decide +kernel)), by decide +kernel⟩
theorem wd_1432 : Cond.selects RX9 yX9_of yX9_of ∈ TBL := List.mem_filter.mpr ⟨List.mem_append_right _ (List.mem_of_getElem? (i := 1356) (by decide +kernel)), by decide +kernel⟩
theorem wd_1433 : Cond.code yX9_of cX9_of 3 (some .int) ∈ TBL := List.mem_filter.mpr ⟨List.mem_append_right _ (List.mem_of_getElem? (i := 1357) (by decide +kernel)), by decide +kernel⟩
theorem wd_1434 : Cond.methodLink RX9 90 yX9_tellsCame ∈ TBL := List.mem_filter.mpr ⟨List.mem_append_right _ (List.mem_of_getElem? (i := 1358) (by decide +kernel)), by decide +kernel⟩
theorem wd_1436 : Cond.instanceMethod yX9_tellsCame ∈ TBL := List.mem_filter.mpr ⟨List.mem_append_right _ (List.mem_of_getElem? (i := 1360) (by decide +kernel)), by decide +kernel⟩
theorem wd_1437 : Cond.code yX9_tellsCame cX9_tellsCame 3 (some .int) ∈ TBL := List.mem_filter.mpr ⟨List.mem_append_right _ (List.mem_of_getElem? (i := 1361) (by decide +kernel)), by decide +kernel⟩
theorem wd_1438 : Cond.methodLink RX9 87 yX9_less ∈ TBL := List.mem_filter.mpr ⟨List.mem_append_right _ (List.mem_of_getElem? (i := 1362) (by decide +kernel)), by decide +kernel⟩
theorem wd_1439 : Cond.static yX9_less ∈ TBL := List.mem_filter.mpr ⟨List.mem_append_right _ (List.mem_of_getElem? (i := 1363) (by decide +kernel)), by decide +kernel⟩
theorem wd_1440 : Cond.code yX9_less cX9_less 2 (some .int) ∈ TBL := List.mem_filter.mpr ⟨List.mem_append_right _ (List.mem_of_getElem? (i := 1364) (by decide +kernel)), by decide +kernel⟩
theorem wd_1441 : Cond.methodLink RX9 94 yX9_tellsOurs ∈ TBL := List.mem_filter.mpr ⟨List.mem_append_right _ (List.mem_of_getElem? (i := 1365) (by decide +kernel)), by decide +kernel⟩
theorem wd_1443 : Cond.instanceMethod yX9_tellsOurs ∈ TBL := List.mem_filter.mpr ⟨List.mem_append_right _ (List.mem_of_getElem? (i := 1367) (by decide +kernel)), by decide +kernel⟩
theorem wd_1444 : Cond.code yX9_tellsOurs cX9_tellsOurs 5 (some .int) ∈ TBL := List.mem_filter.mpr ⟨List.mem_append_right _ (List.mem_of_getElem? (i := 1368) (by decide +kernel)), by decide +kernel⟩
theorem wd_1445 : Cond.methodLink RX9 97 yX9_has ∈ TBL := List.mem_filter.mpr ⟨List.mem_append_right _ (List.mem_of_getElem? (i := 1369) (by decide +kernel)), by decide +kernel⟩
theorem wd_1447 : Cond.instanceMethod yX9_has ∈ TBL := List.mem_filter.mpr ⟨List.mem_append_right _ (List.mem_of_getElem? (i := 1371) (by decide +kernel)), by decide +kernel⟩
theorem wd_1448 : Cond.code yX9_has cX9_has 2 (some .boolean) ∈ TBL := List.mem_filter.mpr ⟨List.mem_append_right _ (List.mem_of_getElem? (i := 1372) (by decide +kernel)), by decide +kernel⟩
theorem wd_1449 : Cond.methodLink RX9 100 yX9_share ∈ TBL := List.mem_filter.mpr ⟨List.mem_append_right _ (List.mem_of_getElem? (i := 1373) (by decide +kernel)), by decide +kernel⟩
theorem wd_1451 : Cond.instanceMethod yX9_share ∈ TBL := List.mem_filter.mpr ⟨List.mem_append_right _ (List.mem_of_getElem? (i := 1375) (by decide +kernel)), by decide +kernel⟩
theorem wd_1452 : Cond.code yX9_share cX9_share 2 (some .int) ∈ TBL := List.mem_filter.mpr ⟨List.mem_append_right _ (List.mem_of_getElem? (i := 1376) (by decide +kernel)), by decide +kernel⟩
theorem wd_1453 : Cond.methodLink RL 47 yX9_send ∈ TBL := List.mem_filter.mpr ⟨List.mem_append_right _ (List.mem_of_getElem? (i := 1377) (by decide +kernel)), by decide +kernel⟩
theorem wd_1454 : Cond.instanceMethod yX9_send ∈ TBL := List.mem_filter.mpr ⟨List.mem_append_right _ (List.mem_of_getElem? (i := 1378) (by decide +kernel)), by decide +kernel⟩
theorem wd_1455 : Cond.selects RX9 yX9_send yX9_send ∈ TBL := List.mem_filter.mpr ⟨List.mem_append_right _ (List.mem_of_getElem? (i := 1379) (by decide +kernel)), by decide +kernel⟩
theorem wd_1456 : Cond.code yX9_send cX9_send 3 (some .int) ∈ TBL := List.mem_filter.mpr ⟨List.mem_append_right _ (List.mem_of_getElem? (i := 1380) (by decide +kernel)), by decide +kernel⟩
theorem wd_1457 : Cond.methodLink RX9 103 yX9_writes ∈ TBL := List.mem_filter.mpr ⟨List.mem_append_right _ (List.mem_of_getElem? (i := 1381) (by decide +kernel)), by decide +kernel⟩
theorem wd_1459 : Cond.instanceMethod yX9_writes ∈ TBL := List.mem_filter.mpr ⟨List.mem_append_right _ (List.mem_of_getElem? (i := 1383) (by decide +kernel)), by decide +kernel⟩
theorem wd_1460 : Cond.code yX9_writes cX9_writes 4 none ∈ TBL := List.mem_filter.mpr ⟨List.mem_append_right _ (List.mem_of_getElem? (i := 1384) (by decide +kernel)), by decide +kernel⟩
theorem wd_1461 : Cond.methodLink RX9 107 yX9_there ∈ TBL := List.mem_filter.mpr ⟨List.mem_append_right _ (List.mem_of_getElem? (i := 1385) (by decide +kernel)), by decide +kernel⟩
theorem wd_1463 : Cond.instanceMethod yX9_there ∈ TBL := List.mem_filter.mpr ⟨List.mem_append_right _ (List.mem_of_getElem? (i := 1387) (by decide +kernel)), by decide +kernel⟩
theorem wd_1464 : Cond.code yX9_there cX9_there 3 (some .int) ∈ TBL := List.mem_filter.mpr ⟨List.mem_append_right _ (List.mem_of_getElem? (i := 1388) (by decide +kernel)), by decide +kernel⟩
theorem wd_1465 : Cond.methodLink RL 51 yX9_hear ∈ TBL := List.mem_filter.mpr ⟨List.mem_append_right _ (List.mem_of_getElem? (i := 1389) (by decide +kernel)), by decide +kernel⟩
theorem wd_1466 : Cond.instanceMethod yX9_hear ∈ TBL := List.mem_filter.mpr ⟨List.mem_append_right _ (List.mem_of_getElem? (i := 1390) (by decide +kernel)), by decide +kernel⟩
theorem wd_1467 : Cond.selects RX9 yX9_hear yX9_hear ∈ TBL := List.mem_filter.mpr ⟨List.mem_append_right _ (List.mem_of_getElem? (i := 1391) (by decide +kernel)), by decide +kernel⟩
theorem wd_1468 : Cond.code yX9_hear cX9_hear 7 (some .int) ∈ TBL := List.mem_filter.mpr ⟨List.mem_append_right _ (List.mem_of_getElem? (i := 1392) (by decide +kernel)), by decide +kernel⟩
theorem wd_1469 : Cond.methodLink RX9 111 yX9_isShelf ∈ TBL := List.mem_filter.mpr ⟨List.mem_append_right _ (List.mem_of_getElem? (i := 1393) (by decide +kernel)), by decide +kernel⟩
theorem wd_1470 : Cond.static yX9_isShelf ∈ TBL := List.mem_filter.mpr ⟨List.mem_append_right _ (List.mem_of_getElem? (i := 1394) (by decide +kernel)), by decide +kernel⟩
theorem wd_1471 : Cond.code yX9_isShelf cX9_isShelf 1 (some .boolean) ∈ TBL := List.mem_filter.mpr ⟨List.mem_append_right _ (List.mem_of_getElem? (i := 1395) (by decide +kernel)), by decide +kernel⟩
theorem wd_1472 : Cond.constant RX9 114 (-2147483648) ∈ TBL := List.mem_filter.mpr ⟨List.mem_append_right _ (List.mem_of_getElem? (i := 1396) (by decide +kernel)), by decide +kernel⟩
theorem wd_1473 : Cond.methodLink RX9 115 yX9_held ∈ TBL := List.mem_filter.mpr ⟨List.mem_append_right _ (List.mem_of_getElem? (i := 1397) (by decide +kernel)), by decide +kernel⟩
theorem wd_1474 : Cond.static yX9_held ∈ TBL := List.mem_filter.mpr ⟨List.mem_append_right _ (List.mem_of_getElem? (i := 1398) (by decide +kernel)), by decide +kernel⟩
theorem wd_1475 : Cond.code yX9_held cX9_held 2 (some .int) ∈ TBL := List.mem_filter.mpr ⟨List.mem_append_right _ (List.mem_of_getElem? (i := 1399) (by decide +kernel)), by decide +kernel⟩
theorem wd_1476 : Cond.methodLink RL 55 yX9_figures ∈ TBL := List.mem_filter.mpr ⟨List.mem_append_right _ (List.mem_of_getElem? (i := 1400) (by decide +kernel)), by decide +kernel⟩
theorem wd_1477 : Cond.instanceMethod yX9_figures ∈ TBL := List.mem_filter.mpr ⟨List.mem_append_right _ (List.mem_of_getElem? (i := 1401) (by decide +kernel)), by decide +kernel⟩
theorem wd_1478 : Cond.selects RX9 yX9_figures yX9_figures ∈ TBL := List.mem_filter.mpr ⟨List.mem_append_right _ (List.mem_of_getElem? (i := 1402) (by decide +kernel)), by decide +kernel⟩
theorem wd_1479 : Cond.code yX9_figures cX9_figures 3 (some .int) ∈ TBL := List.mem_filter.mpr ⟨List.mem_append_right _ (List.mem_of_getElem? (i := 1403) (by decide +kernel)), by decide +kernel⟩
theorem wd_1480 : Cond.methodLink RX9 128 yX9_counts ∈ TBL := List.mem_filter.mpr ⟨List.mem_append_right _ (List.mem_of_getElem? (i := 1404) (by decide +kernel)), by decide +kernel⟩
theorem wd_1482 : Cond.instanceMethod yX9_counts ∈ TBL := List.mem_filter.mpr ⟨List.mem_append_right _ (List.mem_of_getElem? (i := 1406) (by decide +kernel)), by decide +kernel⟩
theorem wd_1483 : Cond.code yX9_counts cX9_counts 4 none ∈ TBL := List.mem_filter.mpr ⟨List.mem_append_right _ (List.mem_of_getElem? (i := 1407) (by decide +kernel)), by decide +kernel⟩
theorem wd_1484 : Cond.methodLink RX9 121 yX9_hasFigure ∈ TBL := List.mem_filter.mpr ⟨List.mem_append_right _ (List.mem_of_getElem? (i := 1408) (by decide +kernel)), by decide +kernel⟩
theorem wd_1486 : Cond.instanceMethod yX9_hasFigure ∈ TBL := List.mem_filter.mpr ⟨List.mem_append_right _ (List.mem_of_getElem? (i := 1410) (by decide +kernel)), by decide +kernel⟩
theorem wd_1487 : Cond.code yX9_hasFigure cX9_hasFigure 3 (some .boolean) ∈ TBL := List.mem_filter.mpr ⟨List.mem_append_right _ (List.mem_of_getElem? (i := 1411) (by decide +kernel)), by decide +kernel⟩
theorem wd_1488 : Cond.methodLink RX9 125 yX9_figureOf ∈ TBL := List.mem_filter.mpr ⟨List.mem_append_right _ (List.mem_of_getElem? (i := 1412) (by decide +kernel)), by decide +kernel⟩
theorem wd_1489 : Cond.static yX9_figureOf ∈ TBL := List.mem_filter.mpr ⟨List.mem_append_right _ (List.mem_of_getElem? (i := 1413) (by decide +kernel)), by decide +kernel⟩
theorem wd_1490 : Cond.code yX9_figureOf cX9_figureOf 3 (some .int) ∈ TBL := List.mem_filter.mpr ⟨List.mem_append_right _ (List.mem_of_getElem? (i := 1414) (by decide +kernel)), by decide +kernel⟩
theorem wd_1491 : Cond.methodLink RL 60 yX9_odds ∈ TBL := List.mem_filter.mpr ⟨List.mem_append_right _ (List.mem_of_getElem? (i := 1415) (by decide +kernel)), by decide +kernel⟩
theorem wd_1492 : Cond.instanceMethod yX9_odds ∈ TBL := List.mem_filter.mpr ⟨List.mem_append_right _ (List.mem_of_getElem? (i := 1416) (by decide +kernel)), by decide +kernel⟩
theorem wd_1493 : Cond.selects RX9 yX9_odds yX9_odds ∈ TBL := List.mem_filter.mpr ⟨List.mem_append_right _ (List.mem_of_getElem? (i := 1417) (by decide +kernel)), by decide +kernel⟩
theorem wd_1494 : Cond.code yX9_odds cX9_odds 8 (some .long) ∈ TBL := List.mem_filter.mpr ⟨List.mem_append_right _ (List.mem_of_getElem? (i := 1418) (by decide +kernel)), by decide +kernel⟩
theorem wd_1495 : Cond.constantLong RX9 132 (-1) ∈ TBL := List.mem_filter.mpr ⟨List.mem_append_right _ (List.mem_of_getElem? (i := 1419) (by decide +kernel)), by decide +kernel⟩
theorem wd_1496 : Cond.methodLink RL 64 yX9_round ∈ TBL := List.mem_filter.mpr ⟨List.mem_append_right _ (List.mem_of_getElem? (i := 1420) (by decide +kernel)), by decide +kernel⟩
theorem wd_1497 : Cond.instanceMethod yX9_round ∈ TBL := List.mem_filter.mpr ⟨List.mem_append_right _ (List.mem_of_getElem? (i := 1421) (by decide +kernel)), by decide +kernel⟩
theorem wd_1498 : Cond.selects RX9 yX9_round yX9_round ∈ TBL := List.mem_filter.mpr ⟨List.mem_append_right _ (List.mem_of_getElem? (i := 1422) (by decide +kernel)), by decide +kernel⟩
theorem wd_1499 : Cond.code yX9_round cX9_round 4 (some .int) ∈ TBL := List.mem_filter.mpr ⟨List.mem_append_right _ (List.mem_of_getElem? (i := 1423) (by decide +kernel)), by decide +kernel⟩
theorem wd_1500 : Cond.methodLink RX9 134 yX9_isRound ∈ TBL := List.mem_filter.mpr ⟨List.mem_append_right _ (List.mem_of_getElem? (i := 1424) (by decide +kernel)), by decide +kernel⟩
theorem wd_1501 : Cond.static yX9_isRound ∈ TBL := List.mem_filter.mpr ⟨List.mem_append_right _ (List.mem_of_getElem? (i := 1425) (by decide +kernel)), by decide +kernel⟩
theorem wd_1502 : Cond.code yX9_isRound cX9_isRound 2 (some .boolean) ∈ TBL := List.mem_filter.mpr ⟨List.mem_append_right _ (List.mem_of_getElem? (i := 1426) (by decide +kernel)), by decide +kernel⟩
theorem wd_1503 : Cond.methodLink RL 68 yX9_may ∈ TBL := List.mem_filter.mpr ⟨List.mem_append_right _ (List.mem_of_getElem? (i := 1427) (by decide +kernel)), by decide +kernel⟩
theorem wd_1504 : Cond.instanceMethod yX9_may ∈ TBL := List.mem_filter.mpr ⟨List.mem_append_right _ (List.mem_of_getElem? (i := 1428) (by decide +kernel)), by decide +kernel⟩
theorem wd_1505 : Cond.selects RX9 yX9_may yX9_may ∈ TBL := List.mem_filter.mpr ⟨List.mem_append_right _ (List.mem_of_getElem? (i := 1429) (by decide +kernel)), by decide +kernel⟩
theorem wd_1506 : Cond.code yX9_may cX9_may 5 (some .int) ∈ TBL := List.mem_filter.mpr ⟨List.mem_append_right _ (List.mem_of_getElem? (i := 1430) (by decide +kernel)), by decide +kernel⟩
theorem wd_1507 : Cond.methodLink RL 72 yX9_middle ∈ TBL := List.mem_filter.mpr ⟨List.mem_append_right _ (List.mem_of_getElem? (i := 1431) (by decide +kernel)), by decide +kernel⟩
theorem wd_1508 : Cond.instanceMethod yX9_middle ∈ TBL := List.mem_filter.mpr ⟨List.mem_append_right _ (List.mem_of_getElem? (i := 1432) (by decide +kernel)), by decide +kernel⟩
theorem wd_1509 : Cond.selects RX9 yX9_middle yX9_middle ∈ TBL := List.mem_filter.mpr ⟨List.mem_append_right _ (List.mem_of_getElem? (i := 1433) (by decide +kernel)), by decide +kernel⟩
theorem wd_1510 : Cond.code yX9_middle cX9_middle 2 (some .int) ∈ TBL := List.mem_filter.mpr ⟨List.mem_append_right _ (List.mem_of_getElem? (i := 1434) (by decide +kernel)), by decide +kernel⟩
theorem wd_1511 : Cond.methodLink RX9 137 yX9_middleOf ∈ TBL := List.mem_filter.mpr ⟨List.mem_append_right _ (List.mem_of_getElem? (i := 1435) (by decide +kernel)), by decide +kernel⟩
theorem wd_1513 : Cond.instanceMethod yX9_middleOf ∈ TBL := List.mem_filter.mpr ⟨List.mem_append_right _ (List.mem_of_getElem? (i := 1437) (by decide +kernel)), by decide +kernel⟩
theorem wd_1514 : Cond.code yX9_middleOf cX9_middleOf 5 (some .int) ∈ TBL := List.mem_filter.mpr ⟨List.mem_append_right _ (List.mem_of_getElem? (i := 1438) (by decide +kernel)), by decide +kernel⟩
theorem wd_1515 : Cond.methodLink RL 76 yX9_left ∈ TBL := List.mem_filter.mpr ⟨List.mem_append_right _ (List.mem_of_getElem? (i := 1439) (by decide +kernel)), by decide +kernel⟩
theorem wd_1516 : Cond.instanceMethod yX9_left ∈ TBL := List.mem_filter.mpr ⟨List.mem_append_right _ (List.mem_of_getElem? (i := 1440) (by decide +kernel)), by decide +kernel⟩
theorem wd_1517 : Cond.selects RX9 yX9_left yX9_left ∈ TBL := List.mem_filter.mpr ⟨List.mem_append_right _ (List.mem_of_getElem? (i := 1441) (by decide +kernel)), by decide +kernel⟩
theorem wd_1518 : Cond.code yX9_left cX9_left 2 (some .int) ∈ TBL := List.mem_filter.mpr ⟨List.mem_append_right _ (List.mem_of_getElem? (i := 1442) (by decide +kernel)), by decide +kernel⟩
theorem wd_1519 : Cond.constant RX9 140 (-1000000001) ∈ TBL := List.mem_filter.mpr ⟨List.mem_append_right _ (List.mem_of_getElem? (i := 1443) (by decide +kernel)), by decide +kernel⟩
theorem wd_1520 : Cond.constant RX9 141 (-1000000004) ∈ TBL := List.mem_filter.mpr ⟨List.mem_append_right _ (List.mem_of_getElem? (i := 1444) (by decide +kernel)), by decide +kernel⟩
theorem wd_1521 : Cond.methodLink RX9 142 yX9_leftOf ∈ TBL := List.mem_filter.mpr ⟨List.mem_append_right _ (List.mem_of_getElem? (i := 1445) (by decide +kernel)), by decide +kernel⟩
theorem wd_1523 : Cond.instanceMethod yX9_leftOf ∈ TBL := List.mem_filter.mpr ⟨List.mem_append_right _ (List.mem_of_getElem? (i := 1447) (by decide +kernel)), by decide +kernel⟩
theorem wd_1524 : Cond.code yX9_leftOf cX9_leftOf 2 (some .int) ∈ TBL := List.mem_filter.mpr ⟨List.mem_append_right _ (List.mem_of_getElem? (i := 1448) (by decide +kernel)), by decide +kernel⟩
theorem wd_1525 : Cond.methodLink RL 80 yX9_trulyAll ∈ TBL := List.mem_filter.mpr ⟨List.mem_append_right _ (List.mem_of_getElem? (i := 1449) (by decide +kernel)), by decide +kernel⟩
theorem wd_1526 : Cond.instanceMethod yX9_trulyAll ∈ TBL := List.mem_filter.mpr ⟨List.mem_append_right _ (List.mem_of_getElem? (i := 1450) (by decide +kernel)), by decide +kernel⟩
theorem wd_1527 : Cond.selects RX9 yX9_trulyAll yX9_trulyAll ∈ TBL := List.mem_filter.mpr ⟨List.mem_append_right _ (List.mem_of_getElem? (i := 1451) (by decide +kernel)), by decide +kernel⟩
theorem wd_1528 : Cond.code yX9_trulyAll cX9_trulyAll 4 (some .int) ∈ TBL := List.mem_filter.mpr ⟨List.mem_append_right _ (List.mem_of_getElem? (i := 1452) (by decide +kernel)), by decide +kernel⟩
theorem wd_1529 : Cond.methodLink RL 85 yX9_watch ∈ TBL := List.mem_filter.mpr ⟨List.mem_append_right _ (List.mem_of_getElem? (i := 1453) (by decide +kernel)), by decide +kernel⟩
theorem wd_1530 : Cond.instanceMethod yX9_watch ∈ TBL := List.mem_filter.mpr ⟨List.mem_append_right _ (List.mem_of_getElem? (i := 1454) (by decide +kernel)), by decide +kernel⟩
theorem wd_1531 : Cond.selects RX9 yX9_watch yX9_watch ∈ TBL := List.mem_filter.mpr ⟨List.mem_append_right _ (List.mem_of_getElem? (i := 1455) (by decide +kernel)), by decide +kernel⟩
theorem wd_1532 : Cond.code yX9_watch cX9_watch 3 (some .int) ∈ TBL := List.mem_filter.mpr ⟨List.mem_append_right _ (List.mem_of_getElem? (i := 1456) (by decide +kernel)), by decide +kernel⟩
theorem wd_1533 : Cond.methodLink RL 90 yX9_cost ∈ TBL := List.mem_filter.mpr ⟨List.mem_append_right _ (List.mem_of_getElem? (i := 1457) (by decide +kernel)), by decide +kernel⟩
theorem wd_1534 : Cond.instanceMethod yX9_cost ∈ TBL := List.mem_filter.mpr ⟨List.mem_append_right _ (List.mem_of_getElem? (i := 1458) (by decide +kernel)), by decide +kernel⟩
theorem wd_1535 : Cond.selects RX9 yX9_cost yX9_cost ∈ TBL := List.mem_filter.mpr ⟨List.mem_append_right _ (List.mem_of_getElem? (i := 1459) (by decide +kernel)), by decide +kernel⟩
theorem wd_1536 : Cond.code yX9_cost cX9_cost 2 (some .int) ∈ TBL := List.mem_filter.mpr ⟨List.mem_append_right _ (List.mem_of_getElem? (i := 1460) (by decide +kernel)), by decide +kernel⟩
theorem wd_1537 : Cond.methodLink RX9 151 yX9_findWatched ∈ TBL := List.mem_filter.mpr ⟨List.mem_append_right _ (List.mem_of_getElem? (i := 1461) (by decide +kernel)), by decide +kernel⟩
theorem wd_1539 : Cond.instanceMethod yX9_findWatched ∈ TBL := List.mem_filter.mpr ⟨List.mem_append_right _ (List.mem_of_getElem? (i := 1463) (by decide +kernel)), by decide +kernel⟩
theorem wd_1540 : Cond.code yX9_findWatched cX9_findWatched 3 (some .int) ∈ TBL := List.mem_filter.mpr ⟨List.mem_append_right _ (List.mem_of_getElem? (i := 1464) (by decide +kernel)), by decide +kernel⟩
theorem wd_1541 : Cond.methodLink RX9 154 yX9_costOf ∈ TBL := List.mem_filter.mpr ⟨List.mem_append_right _ (List.mem_of_getElem? (i := 1465) (by decide +kernel)), by decide +kernel⟩
theorem wd_1543 : Cond.instanceMethod yX9_costOf ∈ TBL := List.mem_filter.mpr ⟨List.mem_append_right _ (List.mem_of_getElem? (i := 1467) (by decide +kernel)), by decide +kernel⟩
theorem wd_1544 : Cond.code yX9_costOf cX9_costOf 4 (some .int) ∈ TBL := List.mem_filter.mpr ⟨List.mem_append_right _ (List.mem_of_getElem? (i := 1468) (by decide +kernel)), by decide +kernel⟩
theorem wd_1545 : Cond.methodLink RL 94 yX9_ways ∈ TBL := List.mem_filter.mpr ⟨List.mem_append_right _ (List.mem_of_getElem? (i := 1469) (by decide +kernel)), by decide +kernel⟩
theorem wd_1546 : Cond.instanceMethod yX9_ways ∈ TBL := List.mem_filter.mpr ⟨List.mem_append_right _ (List.mem_of_getElem? (i := 1470) (by decide +kernel)), by decide +kernel⟩
theorem wd_1547 : Cond.selects RX9 yX9_ways yX9_ways ∈ TBL := List.mem_filter.mpr ⟨List.mem_append_right _ (List.mem_of_getElem? (i := 1471) (by decide +kernel)), by decide +kernel⟩
theorem wd_1548 : Cond.code yX9_ways cX9_ways 5 (some .int) ∈ TBL := List.mem_filter.mpr ⟨List.mem_append_right _ (List.mem_of_getElem? (i := 1472) (by decide +kernel)), by decide +kernel⟩
theorem wd_1549 : Cond.methodLink RX9 157 yX9_bits ∈ TBL := List.mem_filter.mpr ⟨List.mem_append_right _ (List.mem_of_getElem? (i := 1473) (by decide +kernel)), by decide +kernel⟩
theorem wd_1550 : Cond.static yX9_bits ∈ TBL := List.mem_filter.mpr ⟨List.mem_append_right _ (List.mem_of_getElem? (i := 1474) (by decide +kernel)), by decide +kernel⟩
theorem wd_1551 : Cond.code yX9_bits cX9_bits 3 (some .int) ∈ TBL := List.mem_filter.mpr ⟨List.mem_append_right _ (List.mem_of_getElem? (i := 1475) (by decide +kernel)), by decide +kernel⟩
theorem wd_1552 : Cond.methodLink RL 98 yX9_up ∈ TBL := List.mem_filter.mpr ⟨List.mem_append_right _ (List.mem_of_getElem? (i := 1476) (by decide +kernel)), by decide +kernel⟩
theorem wd_1553 : Cond.instanceMethod yX9_up ∈ TBL := List.mem_filter.mpr ⟨List.mem_append_right _ (List.mem_of_getElem? (i := 1477) (by decide +kernel)), by decide +kernel⟩
theorem wd_1554 : Cond.selects RX9 yX9_up yX9_up ∈ TBL := List.mem_filter.mpr ⟨List.mem_append_right _ (List.mem_of_getElem? (i := 1478) (by decide +kernel)), by decide +kernel⟩
theorem wd_1555 : Cond.code yX9_up cX9_up 4 (some .int) ∈ TBL := List.mem_filter.mpr ⟨List.mem_append_right _ (List.mem_of_getElem? (i := 1479) (by decide +kernel)), by decide +kernel⟩
theorem wd_1556 : Cond.constantLong RX9 160 (3) ∈ TBL := List.mem_filter.mpr ⟨List.mem_append_right _ (List.mem_of_getElem? (i := 1480) (by decide +kernel)), by decide +kernel⟩
theorem wd_1557 : Cond.constantLong RX9 162 (99999) ∈ TBL := List.mem_filter.mpr ⟨List.mem_append_right _ (List.mem_of_getElem? (i := 1481) (by decide +kernel)), by decide +kernel⟩
theorem wd_1558 : Cond.methodLink RL 102 yX9_down ∈ TBL := List.mem_filter.mpr ⟨List.mem_append_right _ (List.mem_of_getElem? (i := 1482) (by decide +kernel)), by decide +kernel⟩
theorem wd_1559 : Cond.instanceMethod yX9_down ∈ TBL := List.mem_filter.mpr ⟨List.mem_append_right _ (List.mem_of_getElem? (i := 1483) (by decide +kernel)), by decide +kernel⟩
theorem wd_1560 : Cond.selects RX9 yX9_down yX9_down ∈ TBL := List.mem_filter.mpr ⟨List.mem_append_right _ (List.mem_of_getElem? (i := 1484) (by decide +kernel)), by decide +kernel⟩
theorem wd_1561 : Cond.code yX9_down cX9_down 2 (some .int) ∈ TBL := List.mem_filter.mpr ⟨List.mem_append_right _ (List.mem_of_getElem? (i := 1485) (by decide +kernel)), by decide +kernel⟩
theorem wd_1562 : Cond.methodLink RL 106 yX9_sum ∈ TBL := List.mem_filter.mpr ⟨List.mem_append_right _ (List.mem_of_getElem? (i := 1486) (by decide +kernel)), by decide +kernel⟩
theorem wd_1563 : Cond.instanceMethod yX9_sum ∈ TBL := List.mem_filter.mpr ⟨List.mem_append_right _ (List.mem_of_getElem? (i := 1487) (by decide +kernel)), by decide +kernel⟩
theorem wd_1564 : Cond.selects RX9 yX9_sum yX9_sum ∈ TBL := List.mem_filter.mpr ⟨List.mem_append_right _ (List.mem_of_getElem? (i := 1488) (by decide +kernel)), by decide +kernel⟩
theorem wd_1565 : Cond.code yX9_sum cX9_sum 3 (some .int) ∈ TBL := List.mem_filter.mpr ⟨List.mem_append_right _ (List.mem_of_getElem? (i := 1489) (by decide +kernel)), by decide +kernel⟩
theorem wd_1566 : Cond.constantLong RX9 167 (5) ∈ TBL := List.mem_filter.mpr ⟨List.mem_append_right _ (List.mem_of_getElem? (i := 1490) (by decide +kernel)), by decide +kernel⟩
theorem wd_1567 : Cond.methodLink RX9 164 yX9_written ∈ TBL := List.mem_filter.mpr ⟨List.mem_append_right _ (List.mem_of_getElem? (i := 1491) (by decide +kernel)), by decide +kernel⟩
theorem wd_1569 : Cond.instanceMethod yX9_written ∈ TBL := List.mem_filter.mpr ⟨List.mem_append_right _ (List.mem_of_getElem? (i := 1493) (by decide +kernel)), by decide +kernel⟩
theorem wd_1570 : Cond.code yX9_written cX9_written 5 (some .int) ∈ TBL := List.mem_filter.mpr ⟨List.mem_append_right _ (List.mem_of_getElem? (i := 1494) (by decide +kernel)), by decide +kernel⟩
theorem wd_1571 : Cond.methodLink RX9 169 yX9_sentUp ∈ TBL := List.mem_filter.mpr ⟨List.mem_append_right _ (List.mem_of_getElem? (i := 1495) (by decide +kernel)), by decide +kernel⟩
theorem wd_1573 : Cond.instanceMethod yX9_sentUp ∈ TBL := List.mem_filter.mpr ⟨List.mem_append_right _ (List.mem_of_getElem? (i := 1497) (by decide +kernel)), by decide +kernel⟩
theorem wd_1574 : Cond.code yX9_sentUp cX9_sentUp 3 (some .int) ∈ TBL := List.mem_filter.mpr ⟨List.mem_append_right _ (List.mem_of_getElem? (i := 1498) (by decide +kernel)), by decide +kernel⟩
theorem wd_1575 : Cond.methodLink RL 110 yX9_won ∈ TBL := List.mem_filter.mpr ⟨List.mem_append_right _ (List.mem_of_getElem? (i := 1499) (by decide +kernel)), by decide +kernel⟩
theorem wd_1576 : Cond.instanceMethod yX9_won ∈ TBL := List.mem_filter.mpr ⟨List.mem_append_right _ (List.mem_of_getElem? (i := 1500) (by decide +kernel)), by decide +kernel⟩
theorem wd_1577 : Cond.selects RX9 yX9_won yX9_won ∈ TBL := List.mem_filter.mpr ⟨List.mem_append_right _ (List.mem_of_getElem? (i := 1501) (by decide +kernel)), by decide +kernel⟩
theorem wd_1578 : Cond.code yX9_won cX9_won 3 (some .int) ∈ TBL := List.mem_filter.mpr ⟨List.mem_append_right _ (List.mem_of_getElem? (i := 1502) (by decide +kernel)), by decide +kernel⟩
theorem wd_1579 : Cond.methodLink RL 114 yX9_helped ∈ TBL := List.mem_filter.mpr ⟨List.mem_append_right _ (List.mem_of_getElem? (i := 1503) (by decide +kernel)), by decide +kernel⟩
theorem wd_1580 : Cond.instanceMethod yX9_helped ∈ TBL := List.mem_filter.mpr ⟨List.mem_append_right _ (List.mem_of_getElem? (i := 1504) (by decide +kernel)), by decide +kernel⟩
theorem wd_1581 : Cond.selects RX9 yX9_helped yX9_helped ∈ TBL := List.mem_filter.mpr ⟨List.mem_append_right _ (List.mem_of_getElem? (i := 1505) (by decide +kernel)), by decide +kernel⟩
theorem wd_1582 : Cond.code yX9_helped cX9_helped 3 (some .int) ∈ TBL := List.mem_filter.mpr ⟨List.mem_append_right _ (List.mem_of_getElem? (i := 1506) (by decide +kernel)), by decide +kernel⟩
theorem wd_1583 : Cond.methodLink RL 118 yX9_untrue ∈ TBL := List.mem_filter.mpr ⟨List.mem_append_right _ (List.mem_of_getElem? (i := 1507) (by decide +kernel)), by decide +kernel⟩
theorem wd_1584 : Cond.instanceMethod yX9_untrue ∈ TBL := List.mem_filter.mpr ⟨List.mem_append_right _ (List.mem_of_getElem? (i := 1508) (by decide +kernel)), by decide +kernel⟩
theorem wd_1585 : Cond.selects RX9 yX9_untrue yX9_untrue ∈ TBL := List.mem_filter.mpr ⟨List.mem_append_right _ (List.mem_of_getElem? (i := 1509) (by decide +kernel)), by decide +kernel⟩
theorem wd_1586 : Cond.code yX9_untrue cX9_untrue 3 (some .int) ∈ TBL := List.mem_filter.mpr ⟨List.mem_append_right _ (List.mem_of_getElem? (i := 1510) (by decide +kernel)), by decide +kernel⟩
theorem wd_1587 : Cond.methodLink RX9 178 yX9_untrueAll ∈ TBL := List.mem_filter.mpr ⟨List.mem_append_right _ (List.mem_of_getElem? (i := 1511) (by decide +kernel)), by decide +kernel⟩
theorem wd_1589 : Cond.instanceMethod yX9_untrueAll ∈ TBL := List.mem_filter.mpr ⟨List.mem_append_right _ (List.mem_of_getElem? (i := 1513) (by decide +kernel)), by decide +kernel⟩
theorem wd_1590 : Cond.code yX9_untrueAll cX9_untrueAll 4 (some .int) ∈ TBL := List.mem_filter.mpr ⟨List.mem_append_right _ (List.mem_of_getElem? (i := 1514) (by decide +kernel)), by decide +kernel⟩
theorem wd_1591 : Cond.methodLink RX9 175 yX9_untrueOf ∈ TBL := List.mem_filter.mpr ⟨List.mem_append_right _ (List.mem_of_getElem? (i := 1515) (by decide +kernel)), by decide +kernel⟩
theorem wd_1593 : Cond.instanceMethod yX9_untrueOf ∈ TBL := List.mem_filter.mpr ⟨List.mem_append_right _ (List.mem_of_getElem? (i := 1517) (by decide +kernel)), by decide +kernel⟩
theorem wd_1594 : Cond.code yX9_untrueOf cX9_untrueOf 5 (some .int) ∈ TBL := List.mem_filter.mpr ⟨List.mem_append_right _ (List.mem_of_getElem? (i := 1518) (by decide +kernel)), by decide +kernel⟩
theorem wd_1595 : Cond.methodLink RX9 172 yX9_amount ∈ TBL := List.mem_filter.mpr ⟨List.mem_append_right _ (List.mem_of_getElem? (i := 1519) (by decide +kernel)), by decide +kernel⟩
theorem wd_1596 : Cond.static yX9_amount ∈ TBL := List.mem_filter.mpr ⟨List.mem_append_right _ (List.mem_of_getElem? (i := 1520) (by decide +kernel)), by decide +kernel⟩
theorem wd_1597 : Cond.code yX9_amount cX9_amount 1 (some .int) ∈ TBL := List.mem_filter.mpr ⟨List.mem_append_right _ (List.mem_of_getElem? (i := 1521) (by decide +kernel)), by decide +kernel⟩
theorem wd_1598 : Cond.methodLink RL 122 yX9_turn ∈ TBL := List.mem_filter.mpr ⟨List.mem_append_right _ (List.mem_of_getElem? (i := 1522) (by decide +kernel)), by decide +kernel⟩
theorem wd_1599 : Cond.instanceMethod yX9_turn ∈ TBL := List.mem_filter.mpr ⟨List.mem_append_right _ (List.mem_of_getElem? (i := 1523) (by decide +kernel)), by decide +kernel⟩
theorem wd_1600 : Cond.selects RX9 yX9_turn yX9_turn ∈ TBL := List.mem_filter.mpr ⟨List.mem_append_right _ (List.mem_of_getElem? (i := 1524) (by decide +kernel)), by decide +kernel⟩
theorem wd_1601 : Cond.code yX9_turn cX9_turn 6 (some .int) ∈ TBL := List.mem_filter.mpr ⟨List.mem_append_right _ (List.mem_of_getElem? (i := 1525) (by decide +kernel)), by decide +kernel⟩
theorem wd_1602 : Cond.methodLink RX9 181 yX9_falls ∈ TBL := List.mem_filter.mpr ⟨List.mem_append_right _ (List.mem_of_getElem? (i := 1526) (by decide +kernel)), by decide +kernel⟩
theorem wd_1604 : Cond.instanceMethod yX9_falls ∈ TBL := List.mem_filter.mpr ⟨List.mem_append_right _ (List.mem_of_getElem? (i := 1528) (by decide +kernel)), by decide +kernel⟩
theorem wd_1605 : Cond.code yX9_falls cX9_falls 2 (some .int) ∈ TBL := List.mem_filter.mpr ⟨List.mem_append_right _ (List.mem_of_getElem? (i := 1529) (by decide +kernel)), by decide +kernel⟩
theorem wd_1606 : Cond.methodLink RL 126 yX9_again ∈ TBL := List.mem_filter.mpr ⟨List.mem_append_right _ (List.mem_of_getElem? (i := 1530) (by decide +kernel)), by decide +kernel⟩
theorem wd_1607 : Cond.instanceMethod yX9_again ∈ TBL := List.mem_filter.mpr ⟨List.mem_append_right _ (List.mem_of_getElem? (i := 1531) (by decide +kernel)), by decide +kernel⟩
theorem wd_1608 : Cond.selects RX9 yX9_again yX9_again ∈ TBL := List.mem_filter.mpr ⟨List.mem_append_right _ (List.mem_of_getElem? (i := 1532) (by decide +kernel)), by decide +kernel⟩
theorem wd_1609 : Cond.code yX9_again cX9_again 6 (some .int) ∈ TBL := List.mem_filter.mpr ⟨List.mem_append_right _ (List.mem_of_getElem? (i := 1533) (by decide +kernel)), by decide +kernel⟩
theorem wd_1610 : Cond.constantLong RX9 190 (300) ∈ TBL := List.mem_filter.mpr ⟨List.mem_append_right _ (List.mem_of_getElem? (i := 1534) (by decide +kernel)), by decide +kernel⟩
theorem wd_1611 : Cond.methodLink RX9 192 yX9_findAgain ∈ TBL := List.mem_filter.mpr ⟨List.mem_append_right _ (List.mem_of_getElem? (i := 1535) (by decide +kernel)), by decide +kernel⟩
theorem wd_1613 : Cond.instanceMethod yX9_findAgain ∈ TBL := List.mem_filter.mpr ⟨List.mem_append_right _ (List.mem_of_getElem? (i := 1537) (by decide +kernel)), by decide +kernel⟩
theorem wd_1614 : Cond.code yX9_findAgain cX9_findAgain 7 none ∈ TBL := List.mem_filter.mpr ⟨List.mem_append_right _ (List.mem_of_getElem? (i := 1538) (by decide +kernel)), by decide +kernel⟩
theorem wd_1615 : Cond.methodLink RX9 184 yX9_costAgain ∈ TBL := List.mem_filter.mpr ⟨List.mem_append_right _ (List.mem_of_getElem? (i := 1539) (by decide +kernel)), by decide +kernel⟩
theorem wd_1617 : Cond.instanceMethod yX9_costAgain ∈ TBL := List.mem_filter.mpr ⟨List.mem_append_right _ (List.mem_of_getElem? (i := 1541) (by decide +kernel)), by decide +kernel⟩
theorem wd_1618 : Cond.code yX9_costAgain cX9_costAgain 2 (some .int) ∈ TBL := List.mem_filter.mpr ⟨List.mem_append_right _ (List.mem_of_getElem? (i := 1542) (by decide +kernel)), by decide +kernel⟩
theorem wd_1619 : Cond.methodLink RX9 187 yX9_worthAgain ∈ TBL := List.mem_filter.mpr ⟨List.mem_append_right _ (List.mem_of_getElem? (i := 1543) (by decide +kernel)), by decide +kernel⟩
theorem wd_1621 : Cond.instanceMethod yX9_worthAgain ∈ TBL := List.mem_filter.mpr ⟨List.mem_append_right _ (List.mem_of_getElem? (i := 1545) (by decide +kernel)), by decide +kernel⟩
theorem wd_1622 : Cond.code yX9_worthAgain cX9_worthAgain 2 (some .int) ∈ TBL := List.mem_filter.mpr ⟨List.mem_append_right _ (List.mem_of_getElem? (i := 1546) (by decide +kernel)), by decide +kernel⟩
theorem wd_1623 : Cond.methodLink RL 130 yX9_measure ∈ TBL := List.mem_filter.mpr ⟨List.mem_append_right _ (List.mem_of_getElem? (i := 1547) (by decide +kernel)), by decide +kernel⟩
theorem wd_1624 : Cond.instanceMethod yX9_measure ∈ TBL := List.mem_filter.mpr ⟨List.mem_append_right _ (List.mem_of_getElem? (i := 1548) (by decide +kernel)), by decide +kernel⟩
theorem wd_1625 : Cond.selects RX9 yX9_measure yX9_measure ∈ TBL := List.mem_filter.mpr ⟨List.mem_append_right _ (List.mem_of_getElem? (i := 1549) (by decide +kernel)), by decide +kernel⟩
theorem wd_1626 : Cond.code yX9_measure cX9_measure 2 (some .int) ∈ TBL := List.mem_filter.mpr ⟨List.mem_append_right _ (List.mem_of_getElem? (i := 1550) (by decide +kernel)), by decide +kernel⟩
theorem wd_1627 : Cond.constantLong RX9 201 (4) ∈ TBL := List.mem_filter.mpr ⟨List.mem_append_right _ (List.mem_of_getElem? (i := 1551) (by decide +kernel)), by decide +kernel⟩
theorem wd_1628 : Cond.methodLink RX9 203 yX9_measureNow ∈ TBL := List.mem_filter.mpr ⟨List.mem_append_right _ (List.mem_of_getElem? (i := 1552) (by decide +kernel)), by decide +kernel⟩
theorem wd_1630 : Cond.instanceMethod yX9_measureNow ∈ TBL := List.mem_filter.mpr ⟨List.mem_append_right _ (List.mem_of_getElem? (i := 1554) (by decide +kernel)), by decide +kernel⟩
theorem wd_1631 : Cond.code yX9_measureNow cX9_measureNow 4 (some .int) ∈ TBL := List.mem_filter.mpr ⟨List.mem_append_right _ (List.mem_of_getElem? (i := 1555) (by decide +kernel)), by decide +kernel⟩
theorem wd_1632 : Cond.methodLink RX9 195 yX9_squares ∈ TBL := List.mem_filter.mpr ⟨List.mem_append_right _ (List.mem_of_getElem? (i := 1556) (by decide +kernel)), by decide +kernel⟩
theorem wd_1634 : Cond.instanceMethod yX9_squares ∈ TBL := List.mem_filter.mpr ⟨List.mem_append_right _ (List.mem_of_getElem? (i := 1558) (by decide +kernel)), by decide +kernel⟩
theorem wd_1635 : Cond.code yX9_squares cX9_squares 5 (some .int) ∈ TBL := List.mem_filter.mpr ⟨List.mem_append_right _ (List.mem_of_getElem? (i := 1559) (by decide +kernel)), by decide +kernel⟩
theorem wd_1636 : Cond.methodLink RX9 198 yX9_round ∈ TBL := List.mem_filter.mpr ⟨List.mem_append_right _ (List.mem_of_getElem? (i := 1560) (by decide +kernel)), by decide +kernel⟩
theorem wd_1637 : Cond.methodLink RL 134 yX9_odd ∈ TBL := List.mem_filter.mpr ⟨List.mem_append_right _ (List.mem_of_getElem? (i := 1561) (by decide +kernel)), by decide +kernel⟩
theorem wd_1638 : Cond.instanceMethod yX9_odd ∈ TBL := List.mem_filter.mpr ⟨List.mem_append_right _ (List.mem_of_getElem? (i := 1562) (by decide +kernel)), by decide +kernel⟩
theorem wd_1639 : Cond.selects RX9 yX9_odd yX9_odd ∈ TBL := List.mem_filter.mpr ⟨List.mem_append_right _ (List.mem_of_getElem? (i := 1563) (by decide +kernel)), by decide +kernel⟩
theorem wd_1640 : Cond.code yX9_odd cX9_odd 8 (some .int) ∈ TBL := List.mem_filter.mpr ⟨List.mem_append_right _ (List.mem_of_getElem? (i := 1564) (by decide +kernel)), by decide +kernel⟩
theorem wd_1641 : Cond.constantLong RX9 215 (50) ∈ TBL := List.mem_filter.mpr ⟨List.mem_append_right _ (List.mem_of_getElem? (i := 1565) (by decide +kernel)), by decide +kernel⟩
theorem wd_1642 : Cond.methodLink RX9 217 yX9_makes ∈ TBL := List.mem_filter.mpr ⟨List.mem_append_right _ (List.mem_of_getElem? (i := 1566) (by decide +kernel)), by decide +kernel⟩
theorem wd_1644 : Cond.instanceMethod yX9_makes ∈ TBL := List.mem_filter.mpr ⟨List.mem_append_right _ (List.mem_of_getElem? (i := 1568) (by decide +kernel)), by decide +kernel⟩
theorem wd_1645 : Cond.code yX9_makes cX9_makes 3 none ∈ TBL := List.mem_filter.mpr ⟨List.mem_append_right _ (List.mem_of_getElem? (i := 1569) (by decide +kernel)), by decide +kernel⟩
theorem wd_1646 : Cond.methodLink RX9 212 yX9_hundredths ∈ TBL := List.mem_filter.mpr ⟨List.mem_append_right _ (List.mem_of_getElem? (i := 1570) (by decide +kernel)), by decide +kernel⟩
theorem wd_1648 : Cond.instanceMethod yX9_hundredths ∈ TBL := List.mem_filter.mpr ⟨List.mem_append_right _ (List.mem_of_getElem? (i := 1572) (by decide +kernel)), by decide +kernel⟩
theorem wd_1649 : Cond.code yX9_hundredths cX9_hundredths 3 (some .int) ∈ TBL := List.mem_filter.mpr ⟨List.mem_append_right _ (List.mem_of_getElem? (i := 1573) (by decide +kernel)), by decide +kernel⟩
theorem wd_1650 : Cond.constant RX9 209 (1103515245) ∈ TBL := List.mem_filter.mpr ⟨List.mem_append_right _ (List.mem_of_getElem? (i := 1574) (by decide +kernel)), by decide +kernel⟩
theorem wd_1651 : Cond.constant RX9 210 (2147483647) ∈ TBL := List.mem_filter.mpr ⟨List.mem_append_right _ (List.mem_of_getElem? (i := 1575) (by decide +kernel)), by decide +kernel⟩
theorem wd_1652 : Cond.constant RX9 211 (65536) ∈ TBL := List.mem_filter.mpr ⟨List.mem_append_right _ (List.mem_of_getElem? (i := 1576) (by decide +kernel)), by decide +kernel⟩
theorem wd_1653 : Cond.methodLink RL 138 yX9_land ∈ TBL := List.mem_filter.mpr ⟨List.mem_append_right _ (List.mem_of_getElem? (i := 1577) (by decide +kernel)), by decide +kernel⟩
theorem wd_1654 : Cond.instanceMethod yX9_land ∈ TBL := List.mem_filter.mpr ⟨List.mem_append_right _ (List.mem_of_getElem? (i := 1578) (by decide +kernel)), by decide +kernel⟩
theorem wd_1655 : Cond.selects RX9 yX9_land yX9_land ∈ TBL := List.mem_filter.mpr ⟨List.mem_append_right _ (List.mem_of_getElem? (i := 1579) (by decide +kernel)), by decide +kernel⟩
theorem wd_1656 : Cond.code yX9_land cX9_land 4 (some .int) ∈ TBL := List.mem_filter.mpr ⟨List.mem_append_right _ (List.mem_of_getElem? (i := 1580) (by decide +kernel)), by decide +kernel⟩
theorem wd_1657 : Cond.methodLink RL 142 yX9_fault ∈ TBL := List.mem_filter.mpr ⟨List.mem_append_right _ (List.mem_of_getElem? (i := 1581) (by decide +kernel)), by decide +kernel⟩
theorem wd_1658 : Cond.instanceMethod yX9_fault ∈ TBL := List.mem_filter.mpr ⟨List.mem_append_right _ (List.mem_of_getElem? (i := 1582) (by decide +kernel)), by decide +kernel⟩
theorem wd_1659 : Cond.selects RX9 yX9_fault yX9_fault ∈ TBL := List.mem_filter.mpr ⟨List.mem_append_right _ (List.mem_of_getElem? (i := 1583) (by decide +kernel)), by decide +kernel⟩
theorem wd_1660 : Cond.code yX9_fault cX9_fault 3 (some .int) ∈ TBL := List.mem_filter.mpr ⟨List.mem_append_right _ (List.mem_of_getElem? (i := 1584) (by decide +kernel)), by decide +kernel⟩
theorem wd_1661 : Cond.methodLink RX9 282 yX9_wrongRow ∈ TBL := List.mem_filter.mpr ⟨List.mem_append_right _ (List.mem_of_getElem? (i := 1585) (by decide +kernel)), by decide +kernel⟩
theorem wd_1663 : Cond.instanceMethod yX9_wrongRow ∈ TBL := List.mem_filter.mpr ⟨List.mem_append_right _ (List.mem_of_getElem? (i := 1587) (by decide +kernel)), by decide +kernel⟩
theorem wd_1664 : Cond.code yX9_wrongRow cX9_wrongRow 3 (some .int) ∈ TBL := List.mem_filter.mpr ⟨List.mem_append_right _ (List.mem_of_getElem? (i := 1588) (by decide +kernel)), by decide +kernel⟩
theorem wd_1665 : Cond.methodLink RX9 285 yX9_faultOf ∈ TBL := List.mem_filter.mpr ⟨List.mem_append_right _ (List.mem_of_getElem? (i := 1589) (by decide +kernel)), by decide +kernel⟩
theorem wd_1667 : Cond.instanceMethod yX9_faultOf ∈ TBL := List.mem_filter.mpr ⟨List.mem_append_right _ (List.mem_of_getElem? (i := 1591) (by decide +kernel)), by decide +kernel⟩
theorem wd_1668 : Cond.code yX9_faultOf cX9_faultOf 3 (some .int) ∈ TBL := List.mem_filter.mpr ⟨List.mem_append_right _ (List.mem_of_getElem? (i := 1592) (by decide +kernel)), by decide +kernel⟩
theorem wd_1669 : Cond.methodLink RX9 274 yX9_begins ∈ TBL := List.mem_filter.mpr ⟨List.mem_append_right _ (List.mem_of_getElem? (i := 1593) (by decide +kernel)), by decide +kernel⟩
theorem wd_1671 : Cond.instanceMethod yX9_begins ∈ TBL := List.mem_filter.mpr ⟨List.mem_append_right _ (List.mem_of_getElem? (i := 1595) (by decide +kernel)), by decide +kernel⟩
theorem wd_1672 : Cond.code yX9_begins cX9_begins 5 none ∈ TBL := List.mem_filter.mpr ⟨List.mem_append_right _ (List.mem_of_getElem? (i := 1596) (by decide +kernel)), by decide +kernel⟩
theorem wd_1673 : Cond.methodLink RX9 234 yX9_sign ∈ TBL := List.mem_filter.mpr ⟨List.mem_append_right _ (List.mem_of_getElem? (i := 1597) (by decide +kernel)), by decide +kernel⟩
theorem wd_1675 : Cond.instanceMethod yX9_sign ∈ TBL := List.mem_filter.mpr ⟨List.mem_append_right _ (List.mem_of_getElem? (i := 1599) (by decide +kernel)), by decide +kernel⟩
theorem wd_1676 : Cond.code yX9_sign cX9_sign 1 (some .int) ∈ TBL := List.mem_filter.mpr ⟨List.mem_append_right _ (List.mem_of_getElem? (i := 1600) (by decide +kernel)), by decide +kernel⟩
theorem wd_1677 : Cond.constantLong RX9 278 (65) ∈ TBL := List.mem_filter.mpr ⟨List.mem_append_right _ (List.mem_of_getElem? (i := 1601) (by decide +kernel)), by decide +kernel⟩
theorem wd_1678 : Cond.constantLong RX9 280 (90) ∈ TBL := List.mem_filter.mpr ⟨List.mem_append_right _ (List.mem_of_getElem? (i := 1602) (by decide +kernel)), by decide +kernel⟩
theorem wd_1679 : Cond.methodLink RX9 241 yX9_takes ∈ TBL := List.mem_filter.mpr ⟨List.mem_append_right _ (List.mem_of_getElem? (i := 1603) (by decide +kernel)), by decide +kernel⟩
theorem wd_1681 : Cond.instanceMethod yX9_takes ∈ TBL := List.mem_filter.mpr ⟨List.mem_append_right _ (List.mem_of_getElem? (i := 1605) (by decide +kernel)), by decide +kernel⟩
theorem wd_1682 : Cond.code yX9_takes cX9_takes 2 (some .boolean) ∈ TBL := List.mem_filter.mpr ⟨List.mem_append_right _ (List.mem_of_getElem? (i := 1606) (by decide +kernel)), by decide +kernel⟩
theorem wd_1683 : Cond.methodLink RX9 253 yX9_or ∈ TBL := List.mem_filter.mpr ⟨List.mem_append_right _ (List.mem_of_getElem? (i := 1607) (by decide +kernel)), by decide +kernel⟩
theorem wd_1685 : Cond.instanceMethod yX9_or ∈ TBL := List.mem_filter.mpr ⟨List.mem_append_right _ (List.mem_of_getElem? (i := 1609) (by decide +kernel)), by decide +kernel⟩
theorem wd_1686 : Cond.code yX9_or cX9_or 3 (some .boolean) ∈ TBL := List.mem_filter.mpr ⟨List.mem_append_right _ (List.mem_of_getElem? (i := 1610) (by decide +kernel)), by decide +kernel⟩
theorem wd_1687 : Cond.methodLink RX9 237 yX9_and ∈ TBL := List.mem_filter.mpr ⟨List.mem_append_right _ (List.mem_of_getElem? (i := 1611) (by decide +kernel)), by decide +kernel⟩
theorem wd_1689 : Cond.instanceMethod yX9_and ∈ TBL := List.mem_filter.mpr ⟨List.mem_append_right _ (List.mem_of_getElem? (i := 1613) (by decide +kernel)), by decide +kernel⟩
theorem wd_1690 : Cond.code yX9_and cX9_and 3 (some .boolean) ∈ TBL := List.mem_filter.mpr ⟨List.mem_append_right _ (List.mem_of_getElem? (i := 1614) (by decide +kernel)), by decide +kernel⟩
theorem wd_1691 : Cond.methodLink RX9 244 yX9_test ∈ TBL := List.mem_filter.mpr ⟨List.mem_append_right _ (List.mem_of_getElem? (i := 1615) (by decide +kernel)), by decide +kernel⟩
theorem wd_1693 : Cond.instanceMethod yX9_test ∈ TBL := List.mem_filter.mpr ⟨List.mem_append_right _ (List.mem_of_getElem? (i := 1617) (by decide +kernel)), by decide +kernel⟩
theorem wd_1694 : Cond.code yX9_test cX9_test 4 (some .boolean) ∈ TBL := List.mem_filter.mpr ⟨List.mem_append_right _ (List.mem_of_getElem? (i := 1618) (by decide +kernel)), by decide +kernel⟩
theorem wd_1695 : Cond.methodLink RX9 250 yX9_breaks ∈ TBL := List.mem_filter.mpr ⟨List.mem_append_right _ (List.mem_of_getElem? (i := 1619) (by decide +kernel)), by decide +kernel⟩
theorem wd_1697 : Cond.instanceMethod yX9_breaks ∈ TBL := List.mem_filter.mpr ⟨List.mem_append_right _ (List.mem_of_getElem? (i := 1621) (by decide +kernel)), by decide +kernel⟩
theorem wd_1698 : Cond.code yX9_breaks cX9_breaks 1 (some .boolean) ∈ TBL := List.mem_filter.mpr ⟨List.mem_append_right _ (List.mem_of_getElem? (i := 1622) (by decide +kernel)), by decide +kernel⟩
theorem wd_1699 : Cond.methodLink RX9 256 yX9_sum_ ∈ TBL := List.mem_filter.mpr ⟨List.mem_append_right _ (List.mem_of_getElem? (i := 1623) (by decide +kernel)), by decide +kernel⟩
theorem wd_1701 : Cond.instanceMethod yX9_sum_ ∈ TBL := List.mem_filter.mpr ⟨List.mem_append_right _ (List.mem_of_getElem? (i := 1625) (by decide +kernel)), by decide +kernel⟩
theorem wd_1702 : Cond.code yX9_sum_ cX9_sum_ 4 (some .int) ∈ TBL := List.mem_filter.mpr ⟨List.mem_append_right _ (List.mem_of_getElem? (i := 1626) (by decide +kernel)), by decide +kernel⟩
theorem wd_1703 : Cond.methodLink RX9 259 yX9_product ∈ TBL := List.mem_filter.mpr ⟨List.mem_append_right _ (List.mem_of_getElem? (i := 1627) (by decide +kernel)), by decide +kernel⟩
theorem wd_1705 : Cond.instanceMethod yX9_product ∈ TBL := List.mem_filter.mpr ⟨List.mem_append_right _ (List.mem_of_getElem? (i := 1629) (by decide +kernel)), by decide +kernel⟩
theorem wd_1706 : Cond.code yX9_product cX9_product 4 (some .int) ∈ TBL := List.mem_filter.mpr ⟨List.mem_append_right _ (List.mem_of_getElem? (i := 1630) (by decide +kernel)), by decide +kernel⟩
theorem wd_1707 : Cond.methodLink RX9 262 yX9_atom ∈ TBL := List.mem_filter.mpr ⟨List.mem_append_right _ (List.mem_of_getElem? (i := 1631) (by decide +kernel)), by decide +kernel⟩
theorem wd_1709 : Cond.instanceMethod yX9_atom ∈ TBL := List.mem_filter.mpr ⟨List.mem_append_right _ (List.mem_of_getElem? (i := 1633) (by decide +kernel)), by decide +kernel⟩
theorem wd_1710 : Cond.code yX9_atom cX9_atom 4 (some .int) ∈ TBL := List.mem_filter.mpr ⟨List.mem_append_right _ (List.mem_of_getElem? (i := 1634) (by decide +kernel)), by decide +kernel⟩
theorem wd_1711 : Cond.methodLink RX9 265 yX9_isDigit ∈ TBL := List.mem_filter.mpr ⟨List.mem_append_right _ (List.mem_of_getElem? (i := 1635) (by decide +kernel)), by decide +kernel⟩
theorem wd_1712 : Cond.static yX9_isDigit ∈ TBL := List.mem_filter.mpr ⟨List.mem_append_right _ (List.mem_of_getElem? (i := 1636) (by decide +kernel)), by decide +kernel⟩
theorem wd_1713 : Cond.code yX9_isDigit cX9_isDigit 1 (some .boolean) ∈ TBL := List.mem_filter.mpr ⟨List.mem_append_right _ (List.mem_of_getElem? (i := 1637) (by decide +kernel)), by decide +kernel⟩
theorem wd_1714 : Cond.methodLink RX9 271 yX9_fieldOf ∈ TBL := List.mem_filter.mpr ⟨List.mem_append_right _ (List.mem_of_getElem? (i := 1638) (by decide +kernel)), by decide +kernel⟩
theorem wd_1716 : Cond.instanceMethod yX9_fieldOf ∈ TBL := List.mem_filter.mpr ⟨List.mem_append_right _ (List.mem_of_getElem? (i := 1640) (by decide +kernel)), by decide +kernel⟩
theorem wd_1717 : Cond.code yX9_fieldOf cX9_fieldOf 2 (some .int) ∈ TBL := List.mem_filter.mpr ⟨List.mem_append_right _ (List.mem_of_getElem? (i := 1641) (by decide +kernel)), by decide +kernel⟩
theorem wd_1718 : Cond.methodLink RL 146 yX9_mark ∈ TBL := List.mem_filter.mpr ⟨List.mem_append_right _ (List.mem_of_getElem? (i := 1642) (by decide +kernel)), by decide +kernel⟩
theorem wd_1719 : Cond.instanceMethod yX9_mark ∈ TBL := List.mem_filter.mpr ⟨List.mem_append_right _ (List.mem_of_getElem? (i := 1643) (by decide +kernel)), by decide +kernel⟩
theorem wd_1720 : Cond.selects RX9 yX9_mark yX9_mark ∈ TBL := List.mem_filter.mpr ⟨List.mem_append_right _ (List.mem_of_getElem? (i := 1644) (by decide +kernel)), by decide +kernel⟩
theorem wd_1721 : Cond.code yX9_mark cX9_mark 6 (some .int) ∈ TBL := List.mem_filter.mpr ⟨List.mem_append_right _ (List.mem_of_getElem? (i := 1645) (by decide +kernel)), by decide +kernel⟩
theorem wd_1722 : Cond.methodLink RL 150 yX9_marked ∈ TBL := List.mem_filter.mpr ⟨List.mem_append_right _ (List.mem_of_getElem? (i := 1646) (by decide +kernel)), by decide +kernel⟩
theorem wd_1723 : Cond.instanceMethod yX9_marked ∈ TBL := List.mem_filter.mpr ⟨List.mem_append_right _ (List.mem_of_getElem? (i := 1647) (by decide +kernel)), by decide +kernel⟩
theorem wd_1724 : Cond.selects RX9 yX9_marked yX9_marked ∈ TBL := List.mem_filter.mpr ⟨List.mem_append_right _ (List.mem_of_getElem? (i := 1648) (by decide +kernel)), by decide +kernel⟩
theorem wd_1725 : Cond.code yX9_marked cX9_marked 2 (some .int) ∈ TBL := List.mem_filter.mpr ⟨List.mem_append_right _ (List.mem_of_getElem? (i := 1649) (by decide +kernel)), by decide +kernel⟩
theorem wd_1726 : Cond.methodLink RX9 288 yX9_markOf ∈ TBL := List.mem_filter.mpr ⟨List.mem_append_right _ (List.mem_of_getElem? (i := 1650) (by decide +kernel)), by decide +kernel⟩
theorem wd_1728 : Cond.instanceMethod yX9_markOf ∈ TBL := List.mem_filter.mpr ⟨List.mem_append_right _ (List.mem_of_getElem? (i := 1652) (by decide +kernel)), by decide +kernel⟩
theorem wd_1729 : Cond.code yX9_markOf cX9_markOf 3 (some .int) ∈ TBL := List.mem_filter.mpr ⟨List.mem_append_right _ (List.mem_of_getElem? (i := 1653) (by decide +kernel)), by decide +kernel⟩
theorem wd_1730 : Cond.methodLink RL 154 yX9_said ∈ TBL := List.mem_filter.mpr ⟨List.mem_append_right _ (List.mem_of_getElem? (i := 1654) (by decide +kernel)), by decide +kernel⟩
theorem wd_1731 : Cond.instanceMethod yX9_said ∈ TBL := List.mem_filter.mpr ⟨List.mem_append_right _ (List.mem_of_getElem? (i := 1655) (by decide +kernel)), by decide +kernel⟩
theorem wd_1732 : Cond.selects RX9 yX9_said yX9_said ∈ TBL := List.mem_filter.mpr ⟨List.mem_append_right _ (List.mem_of_getElem? (i := 1656) (by decide +kernel)), by decide +kernel⟩
theorem wd_1733 : Cond.code yX9_said cX9_said 5 (some .int) ∈ TBL := List.mem_filter.mpr ⟨List.mem_append_right _ (List.mem_of_getElem? (i := 1657) (by decide +kernel)), by decide +kernel⟩
theorem wd_1734 : Cond.methodLink RL 158 yX9_image ∈ TBL := List.mem_filter.mpr ⟨List.mem_append_right _ (List.mem_of_getElem? (i := 1658) (by decide +kernel)), by decide +kernel⟩
theorem wd_1735 : Cond.instanceMethod yX9_image ∈ TBL := List.mem_filter.mpr ⟨List.mem_append_right _ (List.mem_of_getElem? (i := 1659) (by decide +kernel)), by decide +kernel⟩
theorem wd_1736 : Cond.selects RX9 yX9_image yX9_image ∈ TBL := List.mem_filter.mpr ⟨List.mem_append_right _ (List.mem_of_getElem? (i := 1660) (by decide +kernel)), by decide +kernel⟩
theorem wd_1737 : Cond.code yX9_image cX9_image 2 (some .int) ∈ TBL := List.mem_filter.mpr ⟨List.mem_append_right _ (List.mem_of_getElem? (i := 1661) (by decide +kernel)), by decide +kernel⟩
theorem wd_1738 : Cond.methodLink RL 162 yX9_restore ∈ TBL := List.mem_filter.mpr ⟨List.mem_append_right _ (List.mem_of_getElem? (i := 1662) (by decide +kernel)), by decide +kernel⟩
theorem wd_1739 : Cond.instanceMethod yX9_restore ∈ TBL := List.mem_filter.mpr ⟨List.mem_append_right _ (List.mem_of_getElem? (i := 1663) (by decide +kernel)), by decide +kernel⟩
theorem wd_1740 : Cond.selects RX9 yX9_restore yX9_restore ∈ TBL := List.mem_filter.mpr ⟨List.mem_append_right _ (List.mem_of_getElem? (i := 1664) (by decide +kernel)), by decide +kernel⟩
theorem wd_1741 : Cond.code yX9_restore cX9_restore 2 (some .int) ∈ TBL := List.mem_filter.mpr ⟨List.mem_append_right _ (List.mem_of_getElem? (i := 1665) (by decide +kernel)), by decide +kernel⟩
theorem wd_1742 : Cond.methodLink RL 166 yX9_count ∈ TBL := List.mem_filter.mpr ⟨List.mem_append_right _ (List.mem_of_getElem? (i := 1666) (by decide +kernel)), by decide +kernel⟩
theorem wd_1743 : Cond.instanceMethod yX9_count ∈ TBL := List.mem_filter.mpr ⟨List.mem_append_right _ (List.mem_of_getElem? (i := 1667) (by decide +kernel)), by decide +kernel⟩
theorem wd_1744 : Cond.selects RX9 yX9_count yX9_count ∈ TBL := List.mem_filter.mpr ⟨List.mem_append_right _ (List.mem_of_getElem? (i := 1668) (by decide +kernel)), by decide +kernel⟩
theorem wd_1745 : Cond.code yX9_count cX9_count 4 (some .int) ∈ TBL := List.mem_filter.mpr ⟨List.mem_append_right _ (List.mem_of_getElem? (i := 1669) (by decide +kernel)), by decide +kernel⟩
theorem wd_1746 : Cond.constantLong RX9 294 (6) ∈ TBL := List.mem_filter.mpr ⟨List.mem_append_right _ (List.mem_of_getElem? (i := 1670) (by decide +kernel)), by decide +kernel⟩
theorem wd_1747 : Cond.methodLink RL 170 yX9_keep ∈ TBL := List.mem_filter.mpr ⟨List.mem_append_right _ (List.mem_of_getElem? (i := 1671) (by decide +kernel)), by decide +kernel⟩
theorem wd_1748 : Cond.instanceMethod yX9_keep ∈ TBL := List.mem_filter.mpr ⟨List.mem_append_right _ (List.mem_of_getElem? (i := 1672) (by decide +kernel)), by decide +kernel⟩
theorem wd_1749 : Cond.selects RX9 yX9_keep yX9_keep ∈ TBL := List.mem_filter.mpr ⟨List.mem_append_right _ (List.mem_of_getElem? (i := 1673) (by decide +kernel)), by decide +kernel⟩
theorem wd_1750 : Cond.code yX9_keep cX9_keep 5 (some .int) ∈ TBL := List.mem_filter.mpr ⟨List.mem_append_right _ (List.mem_of_getElem? (i := 1674) (by decide +kernel)), by decide +kernel⟩
theorem wd_1751 : Cond.methodLink RX9 296 yX9_weightOf ∈ TBL := List.mem_filter.mpr ⟨List.mem_append_right _ (List.mem_of_getElem? (i := 1675) (by decide +kernel)), by decide +kernel⟩
theorem wd_1753 : Cond.instanceMethod yX9_weightOf ∈ TBL := List.mem_filter.mpr ⟨List.mem_append_right _ (List.mem_of_getElem? (i := 1677) (by decide +kernel)), by decide +kernel⟩
theorem wd_1754 : Cond.code yX9_weightOf cX9_weightOf 2 (some .int) ∈ TBL := List.mem_filter.mpr ⟨List.mem_append_right _ (List.mem_of_getElem? (i := 1678) (by decide +kernel)), by decide +kernel⟩
theorem wd_1755 : Cond.methodLink RL 174 yX9_row ∈ TBL := List.mem_filter.mpr ⟨List.mem_append_right _ (List.mem_of_getElem? (i := 1679) (by decide +kernel)), by decide +kernel⟩
theorem wd_1756 : Cond.instanceMethod yX9_row ∈ TBL := List.mem_filter.mpr ⟨List.mem_append_right _ (List.mem_of_getElem? (i := 1680) (by decide +kernel)), by decide +kernel⟩
theorem wd_1757 : Cond.selects RX9 yX9_row yX9_row ∈ TBL := List.mem_filter.mpr ⟨List.mem_append_right _ (List.mem_of_getElem? (i := 1681) (by decide +kernel)), by decide +kernel⟩
theorem wd_1758 : Cond.code yX9_row cX9_row 5 (some .int) ∈ TBL := List.mem_filter.mpr ⟨List.mem_append_right _ (List.mem_of_getElem? (i := 1682) (by decide +kernel)), by decide +kernel⟩
theorem wd_1759 : Cond.constantLong RX9 299 (2) ∈ TBL := List.mem_filter.mpr ⟨List.mem_append_right _ (List.mem_of_getElem? (i := 1683) (by decide +kernel)), by decide +kernel⟩
theorem wd_1760 : Cond.methodLink RL 178 yX9_put ∈ TBL := List.mem_filter.mpr ⟨List.mem_append_right _ (List.mem_of_getElem? (i := 1684) (by decide +kernel)), by decide +kernel⟩
theorem wd_1761 : Cond.instanceMethod yX9_put ∈ TBL := List.mem_filter.mpr ⟨List.mem_append_right _ (List.mem_of_getElem? (i := 1685) (by decide +kernel)), by decide +kernel⟩
theorem wd_1762 : Cond.selects RX9 yX9_put yX9_put ∈ TBL := List.mem_filter.mpr ⟨List.mem_append_right _ (List.mem_of_getElem? (i := 1686) (by decide +kernel)), by decide +kernel⟩
theorem wd_1763 : Cond.code yX9_put cX9_put 5 (some .int) ∈ TBL := List.mem_filter.mpr ⟨List.mem_append_right _ (List.mem_of_getElem? (i := 1687) (by decide +kernel)), by decide +kernel⟩
theorem wd_1764 : Cond.methodLink RL 184 yX9_element ∈ TBL := List.mem_filter.mpr ⟨List.mem_append_right _ (List.mem_of_getElem? (i := 1688) (by decide +kernel)), by decide +kernel⟩
theorem wd_1765 : Cond.instanceMethod yX9_element ∈ TBL := List.mem_filter.mpr ⟨List.mem_append_right _ (List.mem_of_getElem? (i := 1689) (by decide +kernel)), by decide +kernel⟩
theorem wd_1766 : Cond.selects RX9 yX9_element yX9_element ∈ TBL := List.mem_filter.mpr ⟨List.mem_append_right _ (List.mem_of_getElem? (i := 1690) (by decide +kernel)), by decide +kernel⟩
theorem wd_1767 : Cond.code yX9_element cX9_element 3 (some .long) ∈ TBL := List.mem_filter.mpr ⟨List.mem_append_right _ (List.mem_of_getElem? (i := 1691) (by decide +kernel)), by decide +kernel⟩
theorem wd_1768 : Cond.methodLink RL 192 yX9_copy ∈ TBL := List.mem_filter.mpr ⟨List.mem_append_right _ (List.mem_of_getElem? (i := 1692) (by decide +kernel)), by decide +kernel⟩
theorem wd_1769 : Cond.instanceMethod yX9_copy ∈ TBL := List.mem_filter.mpr ⟨List.mem_append_right _ (List.mem_of_getElem? (i := 1693) (by decide +kernel)), by decide +kernel⟩
theorem wd_1770 : Cond.selects RX9 yX9_copy yX9_copy ∈ TBL := List.mem_filter.mpr ⟨List.mem_append_right _ (List.mem_of_getElem? (i := 1694) (by decide +kernel)), by decide +kernel⟩
theorem wd_1771 : Cond.code yX9_copy cX9_copy 8 (some .int) ∈ TBL := List.mem_filter.mpr ⟨List.mem_append_right _ (List.mem_of_getElem? (i := 1695) (by decide +kernel)), by decide +kernel⟩
theorem wd_1772 : Cond.methodLink RL 196 yX9_weight ∈ TBL := List.mem_filter.mpr ⟨List.mem_append_right _ (List.mem_of_getElem? (i := 1696) (by decide +kernel)), by decide +kernel⟩
theorem wd_1773 : Cond.instanceMethod yX9_weight ∈ TBL := List.mem_filter.mpr ⟨List.mem_append_right _ (List.mem_of_getElem? (i := 1697) (by decide +kernel)), by decide +kernel⟩
theorem wd_1774 : Cond.selects RX9 yX9_weight yX9_weight ∈ TBL := List.mem_filter.mpr ⟨List.mem_append_right _ (List.mem_of_getElem? (i := 1698) (by decide +kernel)), by decide +kernel⟩
theorem wd_1775 : Cond.code yX9_weight cX9_weight 3 (some .int) ∈ TBL := List.mem_filter.mpr ⟨List.mem_append_right _ (List.mem_of_getElem? (i := 1699) (by decide +kernel)), by decide +kernel⟩
theorem wd_1776 : Cond.methodLink RX9 301 yX9_wrongKept ∈ TBL := List.mem_filter.mpr ⟨List.mem_append_right _ (List.mem_of_getElem? (i := 1700) (by decide +kernel)), by decide +kernel⟩
theorem wd_1778 : Cond.instanceMethod yX9_wrongKept ∈ TBL := List.mem_filter.mpr ⟨List.mem_append_right _ (List.mem_of_getElem? (i := 1702) (by decide +kernel)), by decide +kernel⟩
theorem wd_1779 : Cond.code yX9_wrongKept cX9_wrongKept 2 (some .int) ∈ TBL := List.mem_filter.mpr ⟨List.mem_append_right _ (List.mem_of_getElem? (i := 1703) (by decide +kernel)), by decide +kernel⟩
theorem wd_1780 : Cond.methodLink RL 200 yX9_toss ∈ TBL := List.mem_filter.mpr ⟨List.mem_append_right _ (List.mem_of_getElem? (i := 1704) (by decide +kernel)), by decide +kernel⟩
theorem wd_1781 : Cond.instanceMethod yX9_toss ∈ TBL := List.mem_filter.mpr ⟨List.mem_append_right _ (List.mem_of_getElem? (i := 1705) (by decide +kernel)), by decide +kernel⟩
theorem wd_1782 : Cond.selects RX9 yX9_toss yX9_toss ∈ TBL := List.mem_filter.mpr ⟨List.mem_append_right _ (List.mem_of_getElem? (i := 1706) (by decide +kernel)), by decide +kernel⟩
theorem wd_1783 : Cond.code yX9_toss cX9_toss 3 (some .int) ∈ TBL := List.mem_filter.mpr ⟨List.mem_append_right _ (List.mem_of_getElem? (i := 1707) (by decide +kernel)), by decide +kernel⟩
theorem wd_1784 : Cond.arrayClass .long ∈ TBL := List.mem_filter.mpr ⟨List.mem_append_right _ (List.mem_of_getElem? (i := 1708) (by decide +kernel)), by decide +kernel⟩
theorem wd_1802 : Cond.fieldLink RJ0 15 "java/lang/String" "coder" "B" ∈ TBL := List.mem_filter.mpr ⟨List.mem_append_right _ (List.mem_of_getElem? (i := 1726) (by decide +kernel)), by decide +kernel⟩
theorem wd_1803 : Cond.fieldLink RJ0 9 "java/lang/String" "value" "[B" ∈ TBL := List.mem_filter.mpr ⟨List.mem_append_right _ (List.mem_of_getElem? (i := 1727) (by decide +kernel)), by decide +kernel⟩
theorem k0_0 : K0[0]? = some (8, 8) := by decide +kernel
theorem k0_1 : K0[1]? = some (0, 12) := by decide +kernel
theorem k0_2 : K0[2]? = some (13, 30) := by decide +kernel
theorem k0_3 : K0[3]? = some (10, 10) := by decide +kernel
theorem k0_4 : K0[4]? = some (11, 4) := by decide +kernel
theorem k0_5 : K0[5]? = some (10, 4) := by decide +kernel
theorem k0_6 : K0[6]? = some (10, 4) := by decide +kernel
theorem k0_85 : K0[85]? = some (0, 12) := by decide +kernel
theorem k0_169 : K0[169]? = some (0, 12) := by decide +kernel
theorem k0_253 : K0[253]? = some (14, 8) := by decide +kernel
theorem k0_254 : K0[254]? = some (7, 5) := by decide +kernel
theorem k0_255 : K0[255]? = some (10, 30) := by decide +kernel
theorem k0_256 : K0[256]? = some (4, 2) := by decide +kernel
theorem k0_257 : K0[257]? = some (10, 301) := by decide +kernel
theorem k0_258 : K0[258]? = some (10, 301) := by decide +kernel
theorem k0_259 : K0[259]? = some (2, 5) := by decide +kernel
theorem k0_284 : K0[284]? = some (9, 28) := by decide +kernel
theorem k0_285 : K0[285]? = some (10, 1194) := by decide +kernel
theorem k0_286 : K0[286]? = some (10, 1194) := by decide +kernel
theorem k0_287 : K0[287]? = some (10, 8) := by decide +kernel
theorem k0_288 : K0[288]? = some (10, 8) := by decide +kernel
theorem k0_289 : K0[289]? = some (10, 8) := by decide +kernel
theorem k0_290 : K0[290]? = some (10, 640) := by decide +kernel
theorem k0_291 : K0[291]? = some (10, 8) := by decide +kernel
theorem k0_292 : K0[292]? = some (10, 8) := by decide +kernel
theorem k0_293 : K0[293]? = some (10, 10) := by decide +kernel
theorem k0_294 : K0[294]? = some (10, 30) := by decide +kernel
theorem k0_295 : K0[295]? = some (10, 9331) := by decide +kernel
theorem k0_296 : K0[296]? = some (10, 30) := by decide +kernel
theorem k0_297 : K0[297]? = some (10, 30) := by decide +kernel
theorem k0_298 : K0[298]? = some (10, 30) := by decide +kernel
theorem k0_299 : K0[299]? = some (10, 30) := by decide +kernel
theorem k0_300 : K0[300]? = some (12, 1) := by decide +kernel
theorem mk_J0_coder_7d493 : MOk yJ0_coder_7d493 cJ0_coder_7d493 1 (some .byte) 0 := ⟨by decide +kernel, wd_930, wd_91⟩
theorem vk_J0_coder_7d493 : VOk yJ0_coder_7d493 := ⟨wd_928, wd_929⟩
theorem mk_J0_indexOf_0f7a4 : MOk yJ0_indexOf_0f7a4 cJ0_indexOf_0f7a4 2 (some .int) 1 := ⟨by decide +kernel, wd_912, wd_91⟩
theorem vk_J0_indexOf_0f7a4 : VOk yJ0_indexOf_0f7a4 := ⟨wd_910, wd_911⟩
theorem mk_J0_indexOf_7cf53 : MOk yJ0_indexOf_7cf53 cJ0_indexOf_7cf53 3 (some .int) 2 := ⟨by decide +kernel, wd_916, wd_91⟩
theorem vk_J0_indexOf_7cf53 : VOk yJ0_indexOf_7cf53 := ⟨wd_914, wd_915⟩
theorem mk_J0_isLatin1_aae02 : MOk yJ0_isLatin1_aae02 cJ0_isLatin1_aae02 1 (some .boolean) 0 := ⟨by decide +kernel, wd_920, wd_91⟩
theorem vk_J0_isLatin1_aae02 : VOk yJ0_isLatin1_aae02 := ⟨wd_918, wd_919⟩
theorem mk_J0_length_8abf5 : MOk yJ0_length_8abf5 cJ0_length_8abf5 1 (some .int) 0 := ⟨by decide +kernel, wd_926, wd_91⟩
theorem vk_J0_length_8abf5 : VOk yJ0_length_8abf5 := ⟨wd_924, wd_925⟩
theorem mk_J1_canEncode_9a6ad : MOk yJ1_canEncode_9a6ad cJ1_canEncode_9a6ad 1 (some .boolean) 1 := ⟨by decide +kernel, wd_936, wd_92⟩
theorem mk_J1_indexOfChar_4cfef : MOk yJ1_indexOfChar_4cfef cJ1_indexOfChar_4cfef 6 (some .int) 4 := ⟨by decide +kernel, wd_941, wd_92⟩
theorem mk_J1_indexOf_4cfef : MOk yJ1_indexOf_4cfef cJ1_indexOf_4cfef 4 (some .int) 4 := ⟨by decide +kernel, wd_933, wd_92⟩
theorem mk_J6_bitCount_0f7a4 : MOk yJ6_bitCount_0f7a4 cJ6_bitCount_0f7a4 1 (some .int) 1 := ⟨by decide +kernel, wd_674, wd_89⟩
theorem mk_J7_fill_53178 : MOk yJ7_fill_53178 cJ7_fill_53178 4 none 2 := ⟨by decide +kernel, wd_562, wd_88⟩
theorem mk_X0_addHall : MOk yX0_addHall cX0_addHall 4 (some .int) 3 := ⟨by decide +kernel, wd_435, wd_78⟩
theorem vk_X0_addHall : VOk yX0_addHall := ⟨wd_433, wd_434⟩
theorem mk_X0_addMark : MOk yX0_addMark cX0_addMark 3 (some .int) 2 := ⟨by decide +kernel, wd_1015, wd_78⟩
theorem vk_X0_addMark : VOk yX0_addMark := ⟨wd_1013, wd_1014⟩
theorem mk_X0_allLists : MOk yX0_allLists cX0_allLists 3 (some .int) 0 := ⟨by decide +kernel, wd_1097, wd_78⟩
theorem vk_X0_allLists : VOk yX0_allLists := ⟨wd_1095, wd_1096⟩
theorem mk_X0_allMustBe : MOk yX0_allMustBe cX0_allMustBe 3 (some .int) 0 := ⟨by decide +kernel, wd_761, wd_78⟩
theorem vk_X0_allMustBe : VOk yX0_allMustBe := ⟨wd_759, wd_760⟩
theorem mk_X0_allUntrue : MOk yX0_allUntrue cX0_allUntrue 3 (some .int) 0 := ⟨by decide +kernel, wd_749, wd_78⟩
theorem vk_X0_allUntrue : VOk yX0_allUntrue := ⟨wd_747, wd_748⟩
theorem mk_X0_allWrittenCame : MOk yX0_allWrittenCame cX0_allWrittenCame 3 (some .int) 0 := ⟨by decide +kernel, wd_741, wd_78⟩
theorem vk_X0_allWrittenCame : VOk yX0_allWrittenCame := ⟨wd_739, wd_740⟩
theorem mk_X0_allWrittenOurs : MOk yX0_allWrittenOurs cX0_allWrittenOurs 3 (some .int) 0 := ⟨by decide +kernel, wd_737, wd_78⟩
theorem vk_X0_allWrittenOurs : VOk yX0_allWrittenOurs := ⟨wd_735, wd_736⟩
theorem mk_X0_becomeHonest : MOk yX0_becomeHonest cX0_becomeHonest 6 (some .int) 1 := ⟨by decide +kernel, wd_849, wd_78⟩
theorem vk_X0_becomeHonest : VOk yX0_becomeHonest := ⟨wd_847, wd_848⟩
theorem mk_X0_copyFrom : MOk yX0_copyFrom cX0_copyFrom 3 none 1 := ⟨by decide +kernel, wd_834, wd_78⟩
theorem vk_X0_copyFrom : VOk yX0_copyFrom := ⟨wd_832, wd_833⟩
theorem mk_X0_countFigures : MOk yX0_countFigures cX0_countFigures 5 (some .int) 1 := ⟨by decide +kernel, wd_559, wd_78⟩
theorem vk_X0_countFigures : VOk yX0_countFigures := ⟨wd_558, wd_3⟩
theorem mk_X0_drawn : MOk yX0_drawn cX0_drawn 3 (some .int) 1 := ⟨by decide +kernel, wd_857, wd_78⟩
theorem vk_X0_drawn : VOk yX0_drawn := ⟨wd_856, wd_9⟩
theorem mk_X0_fewestTurns : MOk yX0_fewestTurns cX0_fewestTurns 5 (some .int) 0 := ⟨by decide +kernel, wd_775, wd_78⟩
theorem vk_X0_fewestTurns : VOk yX0_fewestTurns := ⟨wd_773, wd_774⟩
theorem mk_X0_figureCount : MOk yX0_figureCount cX0_figureCount 3 (some .int) 2 := ⟨by decide +kernel, wd_555, wd_78⟩
theorem vk_X0_figureCount : VOk yX0_figureCount := ⟨wd_553, wd_554⟩
theorem mk_X0_hasHighKin : MOk yX0_hasHighKin cX0_hasHighKin 4 (some .boolean) 1 := ⟨by decide +kernel, wd_637, wd_78⟩
theorem vk_X0_hasHighKin : VOk yX0_hasHighKin := ⟨wd_635, wd_636⟩
theorem mk_X0_highCount : MOk yX0_highCount cX0_highCount 3 (some .int) 0 := ⟨by decide +kernel, wd_825, wd_78⟩
theorem vk_X0_highCount : VOk yX0_highCount := ⟨wd_823, wd_824⟩
theorem mk_X0_init : MOk yX0_init cX0_init 2 none 0 := ⟨by decide +kernel, wd_115, wd_78⟩
theorem mk_X0_isHall : MOk yX0_isHall cX0_isHall 2 (some .boolean) 1 := ⟨by decide +kernel, wd_447, wd_78⟩
theorem vk_X0_isHall : VOk yX0_isHall := ⟨wd_445, wd_446⟩
theorem mk_X0_measured : MOk yX0_measured cX0_measured 2 (some .int) 1 := ⟨by decide +kernel, wd_816, wd_78⟩
theorem vk_X0_measured : VOk yX0_measured := ⟨wd_814, wd_815⟩
theorem mk_X0_middleShare : MOk yX0_middleShare cX0_middleShare 5 (some .int) 1 := ⟨by decide +kernel, wd_614, wd_78⟩
theorem vk_X0_middleShare : VOk yX0_middleShare := ⟨wd_612, wd_613⟩
theorem mk_X0_mostFalling : MOk yX0_mostFalling cX0_mostFalling 5 (some .int) 1 := ⟨by decide +kernel, wd_780, wd_78⟩
theorem vk_X0_mostFalling : VOk yX0_mostFalling := ⟨wd_779, wd_6⟩
theorem mk_X0_mostOfLaw : MOk yX0_mostOfLaw cX0_mostOfLaw 1 (some .int) 1 := ⟨by decide +kernel, wd_459, wd_78⟩
theorem mk_X0_nameOf : MOk yX0_nameOf cX0_nameOf 3 (some .int) 1 := ⟨by decide +kernel, wd_1023, wd_78⟩
theorem vk_X0_nameOf : VOk yX0_nameOf := ⟨wd_1021, wd_1022⟩
theorem mk_X0_nextSeed : MOk yX0_nextSeed cX0_nextSeed 1 (some .int) 1 := ⟨by decide +kernel, wd_852, wd_78⟩
theorem mk_X0_putInOrder : MOk yX0_putInOrder cX0_putInOrder 4 none 2 := ⟨by decide +kernel, wd_618, wd_78⟩
theorem vk_X0_putInOrder : VOk yX0_putInOrder := ⟨wd_617, wd_4⟩
theorem mk_X0_roundCount : MOk yX0_roundCount cX0_roundCount 5 (some .int) 1 := ⟨by decide +kernel, wd_591, wd_78⟩
theorem vk_X0_roundCount : VOk yX0_roundCount := ⟨wd_589, wd_590⟩
theorem mk_X0_rowsWith : MOk yX0_rowsWith cX0_rowsWith 9 (some .long) 2 := ⟨by decide +kernel, wd_582, wd_78⟩
theorem mk_X0_rowsWithFigure : MOk yX0_rowsWithFigure cX0_rowsWithFigure 6 (some .long) 1 := ⟨by decide +kernel, wd_579, wd_78⟩
theorem vk_X0_rowsWithFigure : VOk yX0_rowsWithFigure := ⟨wd_577, wd_578⟩
theorem mk_X0_sentCame : MOk yX0_sentCame cX0_sentCame 2 (some .int) 1 := ⟨by decide +kernel, wd_709, wd_78⟩
theorem vk_X0_sentCame : VOk yX0_sentCame := ⟨wd_707, wd_708⟩
theorem mk_X0_sentMargin : MOk yX0_sentMargin cX0_sentMargin 3 (some .int) 0 := ⟨by decide +kernel, wd_723, wd_78⟩
theorem vk_X0_sentMargin : VOk yX0_sentMargin := ⟨wd_721, wd_722⟩
theorem mk_X0_sentOurs : MOk yX0_sentOurs cX0_sentOurs 2 (some .int) 1 := ⟨by decide +kernel, wd_714, wd_78⟩
theorem vk_X0_sentOurs : VOk yX0_sentOurs := ⟨wd_712, wd_713⟩
theorem mk_X0_shareFromMiddle : MOk yX0_shareFromMiddle cX0_shareFromMiddle 2 (some .int) 1 := ⟨by decide +kernel, wd_628, wd_78⟩
theorem vk_X0_shareFromMiddle : VOk yX0_shareFromMiddle := ⟨wd_626, wd_627⟩
theorem mk_X0_unevenness : MOk yX0_unevenness cX0_unevenness 7 (some .int) 1 := ⟨by decide +kernel, wd_820, wd_78⟩
theorem vk_X0_unevenness : VOk yX0_unevenness := ⟨wd_819, wd_8⟩
theorem mk_X0_watchedCount : MOk yX0_watchedCount cX0_watchedCount 3 (some .int) 0 := ⟨by decide +kernel, wd_1101, wd_78⟩
theorem vk_X0_watchedCount : VOk yX0_watchedCount := ⟨wd_1099, wd_1100⟩
theorem mk_X0_writeTruth : MOk yX0_writeTruth cX0_writeTruth 3 none 0 := ⟨by decide +kernel, wd_864, wd_78⟩
theorem vk_X0_writeTruth : VOk yX0_writeTruth := ⟨wd_862, wd_863⟩
theorem mk_X0_writtenCame : MOk yX0_writtenCame cX0_writtenCame 4 (some .int) 1 := ⟨by decide +kernel, wd_701, wd_78⟩
theorem vk_X0_writtenCame : VOk yX0_writtenCame := ⟨wd_699, wd_700⟩
theorem mk_X0_writtenCount : MOk yX0_writtenCount cX0_writtenCount 3 (some .int) 0 := ⟨by decide +kernel, wd_512, wd_78⟩
theorem vk_X0_writtenCount : VOk yX0_writtenCount := ⟨wd_510, wd_511⟩
theorem mk_X0_writtenMargin : MOk yX0_writtenMargin cX0_writtenMargin 1 (some .int) 0 := ⟨by decide +kernel, wd_733, wd_78⟩
theorem vk_X0_writtenMargin : VOk yX0_writtenMargin := ⟨wd_731, wd_732⟩
theorem mk_X0_writtenOurs : MOk yX0_writtenOurs cX0_writtenOurs 4 (some .int) 1 := ⟨by decide +kernel, wd_705, wd_78⟩
theorem vk_X0_writtenOurs : VOk yX0_writtenOurs := ⟨wd_703, wd_704⟩
theorem mk_X1_begin : MOk yX1_begin cX1_begin 4 none 3 := ⟨by decide +kernel, wd_439, wd_80⟩
theorem vk_X1_begin : VOk yX1_begin := ⟨wd_437, wd_438⟩
theorem mk_X1_copyFrom : MOk yX1_copyFrom cX1_copyFrom 2 none 1 := ⟨by decide +kernel, wd_838, wd_80⟩
theorem vk_X1_copyFrom : VOk yX1_copyFrom := ⟨wd_836, wd_837⟩
theorem mk_X1_firstFigure : MOk yX1_firstFigure cX1_firstFigure 3 (some .int) 0 := ⟨by decide +kernel, wd_566, wd_80⟩
theorem vk_X1_firstFigure : VOk yX1_firstFigure := ⟨wd_564, wd_565⟩
theorem mk_X1_init : MOk yX1_init cX1_init 1 none 0 := ⟨by decide +kernel, wd_166, wd_80⟩
theorem mk_X1_lastFigure : MOk yX1_lastFigure cX1_lastFigure 1 (some .int) 0 := ⟨by decide +kernel, wd_570, wd_80⟩
theorem vk_X1_lastFigure : VOk yX1_lastFigure := ⟨wd_568, wd_569⟩
theorem mk_X1_margin : MOk yX1_margin cX1_margin 1 (some .int) 0 := ⟨by decide +kernel, wd_788, wd_80⟩
theorem vk_X1_margin : VOk yX1_margin := ⟨wd_786, wd_787⟩
theorem mk_X1_marginFall : MOk yX1_marginFall cX1_marginFall 1 (some .int) 0 := ⟨by decide +kernel, wd_784, wd_80⟩
theorem vk_X1_marginFall : VOk yX1_marginFall := ⟨wd_782, wd_783⟩
theorem mk_X1_mustBe : MOk yX1_mustBe cX1_mustBe 1 (some .int) 0 := ⟨by decide +kernel, wd_765, wd_80⟩
theorem vk_X1_mustBe : VOk yX1_mustBe := ⟨wd_763, wd_764⟩
theorem mk_X1_share : MOk yX1_share cX1_share 1 (some .int) 0 := ⟨by decide +kernel, wd_497, wd_80⟩
theorem vk_X1_share : VOk yX1_share := ⟨wd_495, wd_496⟩
theorem mk_X1_toldCame : MOk yX1_toldCame cX1_toldCame 1 (some .int) 0 := ⟨by decide +kernel, wd_467, wd_80⟩
theorem vk_X1_toldCame : VOk yX1_toldCame := ⟨wd_465, wd_466⟩
theorem mk_X1_toldOurs : MOk yX1_toldOurs cX1_toldOurs 2 (some .int) 1 := ⟨by decide +kernel, wd_481, wd_80⟩
theorem vk_X1_toldOurs : VOk yX1_toldOurs := ⟨wd_479, wd_480⟩
theorem mk_X1_untruth : MOk yX1_untruth cX1_untruth 1 (some .int) 0 := ⟨by decide +kernel, wd_753, wd_80⟩
theorem vk_X1_untruth : VOk yX1_untruth := ⟨wd_751, wd_752⟩
theorem mk_X1_write : MOk yX1_write cX1_write 3 none 2 := ⟨by decide +kernel, wd_508, wd_80⟩
theorem vk_X1_write : VOk yX1_write := ⟨wd_506, wd_507⟩
theorem mk_X2_addsDigit : MOk yX2_addsDigit cX2_addsDigit 2 (some .boolean) 1 := ⟨by decide +kernel, wd_994, wd_84⟩
theorem vk_X2_addsDigit : VOk yX2_addsDigit := ⟨wd_993, wd_16⟩
theorem mk_X2_become : MOk yX2_become cX2_become 2 (some .boolean) 1 := ⟨by decide +kernel, wd_893, wd_84⟩
theorem vk_X2_become : VOk yX2_become := ⟨wd_892, wd_13⟩
theorem mk_X2_beginsAtom : MOk yX2_beginsAtom cX2_beginsAtom 2 (some .boolean) 1 := ⟨by decide +kernel, wd_901, wd_84⟩
theorem vk_X2_beginsAtom : VOk yX2_beginsAtom := ⟨wd_900, wd_15⟩
theorem mk_X2_beginsTest : MOk yX2_beginsTest cX2_beginsTest 2 (some .boolean) 1 := ⟨by decide +kernel, wd_897, wd_84⟩
theorem vk_X2_beginsTest : VOk yX2_beginsTest := ⟨wd_896, wd_14⟩
theorem mk_X2_faultOf : MOk yX2_faultOf cX2_faultOf 4 (some .int) 2 := ⟨by decide +kernel, wd_885, wd_84⟩
theorem vk_X2_faultOf : VOk yX2_faultOf := ⟨wd_883, wd_884⟩
theorem mk_X2_followsAtom : MOk yX2_followsAtom cX2_followsAtom 2 (some .boolean) 1 := ⟨by decide +kernel, wd_998, wd_84⟩
theorem vk_X2_followsAtom : VOk yX2_followsAtom := ⟨wd_997, wd_17⟩
theorem mk_X2_followsTest : MOk yX2_followsTest cX2_followsTest 2 (some .boolean) 1 := ⟨by decide +kernel, wd_1002, wd_84⟩
theorem vk_X2_followsTest : VOk yX2_followsTest := ⟨wd_1001, wd_18⟩
theorem mk_X2_goesOn : MOk yX2_goesOn cX2_goesOn 2 (some .boolean) 1 := ⟨by decide +kernel, wd_889, wd_84⟩
theorem vk_X2_goesOn : VOk yX2_goesOn := ⟨wd_888, wd_12⟩
theorem mk_X2_init : MOk yX2_init cX2_init 1 none 0 := ⟨by decide +kernel, wd_348, wd_84⟩
theorem mk_X2_isDigit : MOk yX2_isDigit cX2_isDigit 1 (some .boolean) 1 := ⟨by decide +kernel, wd_904, wd_84⟩
theorem mk_X2_isField : MOk yX2_isField cX2_isField 1 (some .boolean) 1 := ⟨by decide +kernel, wd_907, wd_84⟩
theorem mk_X2_isWhole : MOk yX2_isWhole cX2_isWhole 2 (some .boolean) 0 := ⟨by decide +kernel, wd_1006, wd_84⟩
theorem vk_X2_isWhole : VOk yX2_isWhole := ⟨wd_1005, wd_19⟩
theorem mk_X3_beginGroup : MOk yX3_beginGroup cX3_beginGroup 1 none 0 := ⟨by decide +kernel, wd_1031, wd_79⟩
theorem vk_X3_beginGroup : VOk yX3_beginGroup := ⟨wd_1030, wd_20⟩
theorem mk_X3_beginProduct : MOk yX3_beginProduct cX3_beginProduct 1 none 0 := ⟨by decide +kernel, wd_1039, wd_79⟩
theorem vk_X3_beginProduct : VOk yX3_beginProduct := ⟨wd_1038, wd_22⟩
theorem mk_X3_beginSum : MOk yX3_beginSum cX3_beginSum 1 none 0 := ⟨by decide +kernel, wd_1035, wd_79⟩
theorem vk_X3_beginSum : VOk yX3_beginSum := ⟨wd_1034, wd_21⟩
theorem mk_X3_compared : MOk yX3_compared cX3_compared 1 (some .boolean) 0 := ⟨by decide +kernel, wd_1069, wd_79⟩
theorem vk_X3_compared : VOk yX3_compared := ⟨wd_1068, wd_28⟩
theorem mk_X3_endProduct : MOk yX3_endProduct cX3_endProduct 1 none 0 := ⟨by decide +kernel, wd_1061, wd_79⟩
theorem vk_X3_endProduct : VOk yX3_endProduct := ⟨wd_1060, wd_26⟩
theorem mk_X3_endTest : MOk yX3_endTest cX3_endTest 1 none 0 := ⟨by decide +kernel, wd_1065, wd_79⟩
theorem vk_X3_endTest : VOk yX3_endTest := ⟨wd_1064, wd_27⟩
theorem mk_X3_fieldOf : MOk yX3_fieldOf cX3_fieldOf 3 (some .int) 3 := ⟨by decide +kernel, wd_1043, wd_79⟩
theorem mk_X3_holds : MOk yX3_holds cX3_holds 7 (some .boolean) 4 := ⟨by decide +kernel, wd_1027, wd_79⟩
theorem vk_X3_holds : VOk yX3_holds := ⟨wd_1025, wd_1026⟩
theorem mk_X3_init : MOk yX3_init cX3_init 1 none 0 := ⟨by decide +kernel, wd_125, wd_79⟩
theorem mk_X3_join : MOk yX3_join cX3_join 2 none 1 := ⟨by decide +kernel, wd_1073, wd_79⟩
theorem vk_X3_join : VOk yX3_join := ⟨wd_1072, wd_29⟩
theorem mk_X3_takeAtom : MOk yX3_takeAtom cX3_takeAtom 2 none 1 := ⟨by decide +kernel, wd_1048, wd_79⟩
theorem vk_X3_takeAtom : VOk yX3_takeAtom := ⟨wd_1047, wd_23⟩
theorem mk_X3_takeDigit : MOk yX3_takeDigit cX3_takeDigit 3 none 2 := ⟨by decide +kernel, wd_1053, wd_79⟩
theorem vk_X3_takeDigit : VOk yX3_takeDigit := ⟨wd_1052, wd_24⟩
theorem mk_X3_takeJoint : MOk yX3_takeJoint cX3_takeJoint 2 none 1 := ⟨by decide +kernel, wd_1077, wd_79⟩
theorem vk_X3_takeJoint : VOk yX3_takeJoint := ⟨wd_1076, wd_30⟩
theorem mk_X3_takeSign : MOk yX3_takeSign cX3_takeSign 2 none 1 := ⟨by decide +kernel, wd_1057, wd_79⟩
theorem vk_X3_takeSign : VOk yX3_takeSign := ⟨wd_1056, wd_25⟩
theorem mk_X4_consider : MOk yX4_consider cX4_consider 6 none 4 := ⟨by decide +kernel, wd_808, wd_83⟩
theorem vk_X4_consider : VOk yX4_consider := ⟨wd_807, wd_7⟩
theorem mk_X4_init : MOk yX4_init cX4_init 1 none 0 := ⟨by decide +kernel, wd_333, wd_83⟩
theorem mk_X4_plan : MOk yX4_plan cX4_plan 8 none 2 := ⟨by decide +kernel, wd_796, wd_83⟩
theorem vk_X4_plan : VOk yX4_plan := ⟨wd_794, wd_795⟩
theorem mk_X4_worthOf : MOk yX4_worthOf cX4_worthOf 2 (some .int) 2 := ⟨by decide +kernel, wd_803, wd_83⟩
theorem mk_X5_copiedOurs : MOk yX5_copiedOurs cX5_copiedOurs 3 (some .int) 2 := ⟨by decide +kernel, wd_493, wd_81⟩
theorem mk_X5_copyFrom : MOk yX5_copyFrom cX5_copyFrom 2 none 1 := ⟨by decide +kernel, wd_842, wd_81⟩
theorem vk_X5_copyFrom : VOk yX5_copyFrom := ⟨wd_840, wd_841⟩
theorem mk_X5_fail : MOk yX5_fail cX5_fail 1 none 0 := ⟨by decide +kernel, wd_1167, wd_81⟩
theorem vk_X5_fail : VOk yX5_fail := ⟨wd_1165, wd_1166⟩
theorem mk_X5_heaviness : MOk yX5_heaviness cX5_heaviness 1 (some .int) 0 := ⟨by decide +kernel, wd_1151, wd_81⟩
theorem vk_X5_heaviness : VOk yX5_heaviness := ⟨wd_1149, wd_1150⟩
theorem mk_X5_init : MOk yX5_init cX5_init 1 none 0 := ⟨by decide +kernel, wd_172, wd_81⟩
theorem mk_X5_madeOurs : MOk yX5_madeOurs cX5_madeOurs 5 (some .int) 2 := ⟨by decide +kernel, wd_490, wd_81⟩
theorem vk_X5_madeOurs : VOk yX5_madeOurs := ⟨wd_489, wd_0⟩
theorem mk_X5_tellsCame : MOk yX5_tellsCame cX5_tellsCame 3 (some .int) 2 := ⟨by decide +kernel, wd_471, wd_81⟩
theorem vk_X5_tellsCame : VOk yX5_tellsCame := ⟨wd_469, wd_470⟩
theorem mk_X5_tellsOurs : MOk yX5_tellsOurs cX5_tellsOurs 5 (some .int) 4 := ⟨by decide +kernel, wd_485, wd_81⟩
theorem vk_X5_tellsOurs : VOk yX5_tellsOurs := ⟨wd_483, wd_484⟩
theorem mk_X5_toTen : MOk yX5_toTen cX5_toTen 1 (some .int) 1 := ⟨by decide +kernel, wd_474, wd_81⟩
theorem mk_X6_hasPlace : MOk yX6_hasPlace cX6_hasPlace 2 (some .boolean) 1 := ⟨by decide +kernel, wd_534, wd_85⟩
theorem vk_X6_hasPlace : VOk yX6_hasPlace := ⟨wd_532, wd_533⟩
theorem mk_X6_hasPlaces : MOk yX6_hasPlaces cX6_hasPlaces 3 (some .boolean) 2 := ⟨by decide +kernel, wd_1138, wd_85⟩
theorem vk_X6_hasPlaces : VOk yX6_hasPlaces := ⟨wd_1136, wd_1137⟩
theorem mk_X6_holdRow : MOk yX6_holdRow cX6_holdRow 3 none 2 := ⟨by decide +kernel, wd_1120, wd_85⟩
theorem vk_X6_holdRow : VOk yX6_holdRow := ⟨wd_1118, wd_1119⟩
theorem mk_X6_holdSheet : MOk yX6_holdSheet cX6_holdSheet 3 none 2 := ⟨by decide +kernel, wd_1111, wd_85⟩
theorem vk_X6_holdSheet : VOk yX6_holdSheet := ⟨wd_1109, wd_1110⟩
theorem mk_X6_init : MOk yX6_init cX6_init 1 none 0 := ⟨by decide +kernel, wd_369, wd_85⟩
theorem mk_X6_leastNumber : MOk yX6_leastNumber cX6_leastNumber 1 (some .int) 0 := ⟨by decide +kernel, wd_539, wd_85⟩
theorem vk_X6_leastNumber : VOk yX6_leastNumber := ⟨wd_538, wd_2⟩
theorem mk_X6_lowestBits : MOk yX6_lowestBits cX6_lowestBits 2 (some .int) 1 := ⟨by decide +kernel, wd_1130, wd_85⟩
theorem vk_X6_lowestBits : VOk yX6_lowestBits := ⟨wd_1128, wd_1129⟩
theorem mk_X6_tellsNumber : MOk yX6_tellsNumber cX6_tellsNumber 2 (some .boolean) 1 := ⟨by decide +kernel, wd_530, wd_85⟩
theorem vk_X6_tellsNumber : VOk yX6_tellsNumber := ⟨wd_528, wd_529⟩
theorem mk_X7_areFew : MOk yX7_areFew cX7_areFew 1 (some .boolean) 0 := ⟨by decide +kernel, wd_666, wd_82⟩
theorem vk_X7_areFew : VOk yX7_areFew := ⟨wd_664, wd_665⟩
theorem mk_X7_areSome : MOk yX7_areSome cX7_areSome 1 (some .boolean) 0 := ⟨by decide +kernel, wd_654, wd_82⟩
theorem vk_X7_areSome : VOk yX7_areSome := ⟨wd_652, wd_653⟩
theorem mk_X7_choices : MOk yX7_choices cX7_choices 4 (some .int) 1 := ⟨by decide +kernel, wd_670, wd_82⟩
theorem vk_X7_choices : VOk yX7_choices := ⟨wd_668, wd_669⟩
theorem mk_X7_init : MOk yX7_init cX7_init 1 none 0 := ⟨by decide +kernel, wd_311, wd_82⟩
theorem mk_X7_look : MOk yX7_look cX7_look 4 none 1 := ⟨by decide +kernel, wd_649, wd_82⟩
theorem vk_X7_look : VOk yX7_look := ⟨wd_647, wd_648⟩
theorem mk_X7_sharesIn : MOk yX7_sharesIn cX7_sharesIn 4 (some .int) 1 := ⟨by decide +kernel, wd_681, wd_82⟩
theorem vk_X7_sharesIn : VOk yX7_sharesIn := ⟨wd_680, wd_5⟩
theorem mk_X7_worth : MOk yX7_worth cX7_worth 1 (some .int) 0 := ⟨by decide +kernel, wd_658, wd_82⟩
theorem vk_X7_worth : VOk yX7_worth := ⟨wd_656, wd_657⟩
theorem mk_X8_again : MOk yX8_again cX8_again 3 (some .int) 2 := ⟨by decide +kernel, wd_792, wd_77⟩
theorem vk_X8_again : VOk yX8_again := ⟨wd_790, wd_791⟩
theorem mk_X8_copy : MOk yX8_copy cX8_copy 7 (some .int) 5 := ⟨by decide +kernel, wd_1134, wd_77⟩
theorem vk_X8_copy : VOk yX8_copy := ⟨wd_1132, wd_1133⟩
theorem mk_X8_cost : MOk yX8_cost cX8_cost 1 (some .int) 0 := ⟨by decide +kernel, wd_645, wd_77⟩
theorem vk_X8_cost : VOk yX8_cost := ⟨wd_643, wd_644⟩
theorem mk_X8_count : MOk yX8_count cX8_count 2 (some .int) 1 := ⟨by decide +kernel, wd_1093, wd_77⟩
theorem vk_X8_count : VOk yX8_count := ⟨wd_1091, wd_1092⟩
theorem mk_X8_down : MOk yX8_down cX8_down 3 (some .int) 1 := ⟨by decide +kernel, wd_693, wd_77⟩
theorem vk_X8_down : VOk yX8_down := ⟨wd_691, wd_692⟩
theorem mk_X8_element : MOk yX8_element cX8_element 4 (some .long) 2 := ⟨by decide +kernel, wd_1292, wd_77⟩
theorem vk_X8_element : VOk yX8_element := ⟨wd_1290, wd_1291⟩
theorem mk_X8_fault : MOk yX8_fault cX8_fault 4 (some .int) 1 := ⟨by decide +kernel, wd_873, wd_77⟩
theorem vk_X8_fault : VOk yX8_fault := ⟨wd_871, wd_872⟩
theorem mk_X8_figures : MOk yX8_figures cX8_figures 3 (some .int) 2 := ⟨by decide +kernel, wd_551, wd_77⟩
theorem vk_X8_figures : VOk yX8_figures := ⟨wd_549, wd_550⟩
theorem mk_X8_hall : MOk yX8_hall cX8_hall 4 (some .int) 3 := ⟨by decide +kernel, wd_428, wd_77⟩
theorem vk_X8_hall : VOk yX8_hall := ⟨wd_426, wd_427⟩
theorem mk_X8_hear : MOk yX8_hear cX8_hear 5 (some .int) 2 := ⟨by decide +kernel, wd_516, wd_77⟩
theorem vk_X8_hear : VOk yX8_hear := ⟨wd_514, wd_515⟩
theorem mk_X8_hearOne : MOk yX8_hearOne cX8_hearOne 5 none 4 := ⟨by decide +kernel, wd_526, wd_77⟩
theorem mk_X8_heldTo : MOk yX8_heldTo cX8_heldTo 3 (some .int) 3 := ⟨by decide +kernel, wd_543, wd_77⟩
theorem mk_X8_helped : MOk yX8_helped cX8_helped 1 (some .int) 0 := ⟨by decide +kernel, wd_729, wd_77⟩
theorem vk_X8_helped : VOk yX8_helped := ⟨wd_727, wd_728⟩
theorem mk_X8_image : MOk yX8_image cX8_image 1 (some .int) 0 := ⟨by decide +kernel, wd_1085, wd_77⟩
theorem vk_X8_image : VOk yX8_image := ⟨wd_1083, wd_1084⟩
theorem mk_X8_init : MOk yX8_init cX8_init 2 none 0 := ⟨by decide +kernel, wd_107, wd_77⟩
theorem mk_X8_isDistrict : MOk yX8_isDistrict cX8_isDistrict 1 (some .boolean) 1 := ⟨by decide +kernel, wd_688, wd_77⟩
theorem mk_X8_isRound : MOk yX8_isRound cX8_isRound 2 (some .boolean) 2 := ⟨by decide +kernel, wd_594, wd_77⟩
theorem mk_X8_isShelf : MOk yX8_isShelf cX8_isShelf 1 (some .boolean) 1 := ⟨by decide +kernel, wd_523, wd_77⟩
theorem mk_X8_keep : MOk yX8_keep cX8_keep 4 (some .int) 3 := ⟨by decide +kernel, wd_1107, wd_77⟩
theorem vk_X8_keep : VOk yX8_keep := ⟨wd_1105, wd_1106⟩
theorem mk_X8_land : MOk yX8_land cX8_land 2 (some .int) 1 := ⟨by decide +kernel, wd_869, wd_77⟩
theorem vk_X8_land : VOk yX8_land := ⟨wd_867, wd_868⟩
theorem mk_X8_leastCame : MOk yX8_leastCame cX8_leastCame 2 (some .int) 1 := ⟨by decide +kernel, wd_606, wd_77⟩
theorem mk_X8_left : MOk yX8_left cX8_left 2 (some .int) 1 := ⟨by decide +kernel, wd_622, wd_77⟩
theorem vk_X8_left : VOk yX8_left := ⟨wd_620, wd_621⟩
theorem mk_X8_mark : MOk yX8_mark cX8_mark 4 (some .int) 1 := ⟨by decide +kernel, wd_1011, wd_77⟩
theorem vk_X8_mark : VOk yX8_mark := ⟨wd_1009, wd_1010⟩
theorem mk_X8_marked : MOk yX8_marked cX8_marked 2 (some .int) 1 := ⟨by decide +kernel, wd_1019, wd_77⟩
theorem vk_X8_marked : VOk yX8_marked := ⟨wd_1017, wd_1018⟩
theorem mk_X8_may : MOk yX8_may cX8_may 3 (some .int) 2 := ⟨by decide +kernel, wd_599, wd_77⟩
theorem vk_X8_may : VOk yX8_may := ⟨wd_597, wd_598⟩
theorem mk_X8_measure : MOk yX8_measure cX8_measure 2 (some .int) 1 := ⟨by decide +kernel, wd_812, wd_77⟩
theorem vk_X8_measure : VOk yX8_measure := ⟨wd_810, wd_811⟩
theorem mk_X8_middle : MOk yX8_middle cX8_middle 2 (some .int) 1 := ⟨by decide +kernel, wd_610, wd_77⟩
theorem vk_X8_middle : VOk yX8_middle := ⟨wd_608, wd_609⟩
theorem mk_X8_odd : MOk yX8_odd cX8_odd 7 (some .int) 3 := ⟨by decide +kernel, wd_830, wd_77⟩
theorem vk_X8_odd : VOk yX8_odd := ⟨wd_828, wd_829⟩
theorem mk_X8_odds : MOk yX8_odds cX8_odds 2 (some .long) 1 := ⟨by decide +kernel, wd_574, wd_77⟩
theorem vk_X8_odds : VOk yX8_odds := ⟨wd_572, wd_573⟩
theorem mk_X8_of : MOk yX8_of cX8_of 4 (some .int) 2 := ⟨by decide +kernel, wd_463, wd_77⟩
theorem vk_X8_of : VOk yX8_of := ⟨wd_461, wd_462⟩
theorem mk_X8_put : MOk yX8_put cX8_put 6 (some .int) 3 := ⟨by decide +kernel, wd_1125, wd_77⟩
theorem vk_X8_put : VOk yX8_put := ⟨wd_1123, wd_1124⟩
theorem mk_X8_restore : MOk yX8_restore cX8_restore 1 (some .int) 0 := ⟨by decide +kernel, wd_1089, wd_77⟩
theorem vk_X8_restore : VOk yX8_restore := ⟨wd_1087, wd_1088⟩
theorem mk_X8_round : MOk yX8_round cX8_round 2 (some .int) 1 := ⟨by decide +kernel, wd_587, wd_77⟩
theorem vk_X8_round : VOk yX8_round := ⟨wd_585, wd_586⟩
theorem mk_X8_roundChoices : MOk yX8_roundChoices cX8_roundChoices 3 (some .int) 1 := ⟨by decide +kernel, wd_602, wd_77⟩
theorem mk_X8_row : MOk yX8_row cX8_row 4 (some .int) 3 := ⟨by decide +kernel, wd_1116, wd_77⟩
theorem vk_X8_row : VOk yX8_row := ⟨wd_1114, wd_1115⟩
theorem mk_X8_rowRefusal : MOk yX8_rowRefusal cX8_rowRefusal 2 (some .int) 1 := ⟨by decide +kernel, wd_881, wd_77⟩
theorem vk_X8_rowRefusal : VOk yX8_rowRefusal := ⟨wd_880, wd_11⟩
theorem mk_X8_rowsRefusal : MOk yX8_rowsRefusal cX8_rowsRefusal 3 (some .int) 2 := ⟨by decide +kernel, wd_520, wd_77⟩
theorem vk_X8_rowsRefusal : VOk yX8_rowsRefusal := ⟨wd_519, wd_1⟩
theorem mk_X8_said : MOk yX8_said cX8_said 5 (some .int) 2 := ⟨by decide +kernel, wd_1081, wd_77⟩
theorem vk_X8_said : VOk yX8_said := ⟨wd_1079, wd_1080⟩
theorem mk_X8_send : MOk yX8_send cX8_send 5 (some .int) 1 := ⟨by decide +kernel, wd_504, wd_77⟩
theorem vk_X8_send : VOk yX8_send := ⟨wd_502, wd_503⟩
theorem mk_X8_set : MOk yX8_set cX8_set 4 (some .int) 2 := ⟨by decide +kernel, wd_456, wd_77⟩
theorem vk_X8_set : VOk yX8_set := ⟨wd_454, wd_455⟩
theorem mk_X8_shareOf : MOk yX8_shareOf cX8_shareOf 2 (some .int) 2 := ⟨by decide +kernel, wd_500, wd_77⟩
theorem mk_X8_sheet : MOk yX8_sheet cX8_sheet 6 (some .int) 3 := ⟨by decide +kernel, wd_452, wd_77⟩
theorem vk_X8_sheet : VOk yX8_sheet := ⟨wd_450, wd_451⟩
theorem mk_X8_sheetRefusal : MOk yX8_sheetRefusal cX8_sheetRefusal 2 (some .int) 1 := ⟨by decide +kernel, wd_1147, wd_77⟩
theorem vk_X8_sheetRefusal : VOk yX8_sheetRefusal := ⟨wd_1146, wd_31⟩
theorem mk_X8_sum : MOk yX8_sum cX8_sum 3 (some .int) 2 := ⟨by decide +kernel, wd_697, wd_77⟩
theorem vk_X8_sum : VOk yX8_sum := ⟨wd_695, wd_696⟩
theorem mk_X8_textRefusal : MOk yX8_textRefusal cX8_textRefusal 3 (some .int) 1 := ⟨by decide +kernel, wd_877, wd_77⟩
theorem vk_X8_textRefusal : VOk yX8_textRefusal := ⟨wd_876, wd_10⟩
theorem mk_X8_toss : MOk yX8_toss cX8_toss 3 (some .int) 1 := ⟨by decide +kernel, wd_1155, wd_77⟩
theorem vk_X8_toss : VOk yX8_toss := ⟨wd_1153, wd_1154⟩
theorem mk_X8_truly : MOk yX8_truly cX8_truly 6 (some .int) 3 := ⟨by decide +kernel, wd_443, wd_77⟩
theorem vk_X8_truly : VOk yX8_truly := ⟨wd_441, wd_442⟩
theorem mk_X8_trulyAll : MOk yX8_trulyAll cX8_trulyAll 4 (some .int) 1 := ⟨by decide +kernel, wd_633, wd_77⟩
theorem vk_X8_trulyAll : VOk yX8_trulyAll := ⟨wd_631, wd_632⟩
theorem mk_X8_turn : MOk yX8_turn cX8_turn 1 (some .int) 0 := ⟨by decide +kernel, wd_771, wd_77⟩
theorem vk_X8_turn : VOk yX8_turn := ⟨wd_769, wd_770⟩
theorem mk_X8_untrue : MOk yX8_untrue cX8_untrue 4 (some .int) 2 := ⟨by decide +kernel, wd_745, wd_77⟩
theorem vk_X8_untrue : VOk yX8_untrue := ⟨wd_743, wd_744⟩
theorem mk_X8_up : MOk yX8_up cX8_up 5 (some .int) 3 := ⟨by decide +kernel, wd_685, wd_77⟩
theorem vk_X8_up : VOk yX8_up := ⟨wd_683, wd_684⟩
theorem mk_X8_watch : MOk yX8_watch cX8_watch 4 (some .int) 2 := ⟨by decide +kernel, wd_641, wd_77⟩
theorem vk_X8_watch : VOk yX8_watch := ⟨wd_639, wd_640⟩
theorem mk_X8_ways : MOk yX8_ways cX8_ways 2 (some .int) 1 := ⟨by decide +kernel, wd_662, wd_77⟩
theorem vk_X8_ways : VOk yX8_ways := ⟨wd_660, wd_661⟩
theorem mk_X8_weight : MOk yX8_weight cX8_weight 3 (some .int) 1 := ⟨by decide +kernel, wd_1143, wd_77⟩
theorem vk_X8_weight : VOk yX8_weight := ⟨wd_1141, wd_1142⟩
theorem mk_X8_within : MOk yX8_within cX8_within 3 (some .boolean) 3 := ⟨by decide +kernel, wd_431, wd_77⟩
theorem mk_X8_won : MOk yX8_won cX8_won 1 (some .int) 0 := ⟨by decide +kernel, wd_719, wd_77⟩
theorem vk_X8_won : VOk yX8_won := ⟨wd_717, wd_718⟩
theorem mk_X9_again : MOk yX9_again cX9_again 6 (some .int) 2 := ⟨by decide +kernel, wd_1609, wd_86⟩
theorem vk_X9_again : VOk yX9_again := ⟨wd_1607, wd_1608⟩
theorem mk_X9_amount : MOk yX9_amount cX9_amount 1 (some .int) 1 := ⟨by decide +kernel, wd_1597, wd_86⟩
theorem mk_X9_and : MOk yX9_and cX9_and 3 (some .boolean) 0 := ⟨by decide +kernel, wd_1690, wd_86⟩
theorem vk_X9_and : VOk yX9_and := ⟨wd_1689, wd_66⟩
theorem mk_X9_atom : MOk yX9_atom cX9_atom 4 (some .int) 0 := ⟨by decide +kernel, wd_1710, wd_86⟩
theorem vk_X9_atom : VOk yX9_atom := ⟨wd_1709, wd_71⟩
theorem mk_X9_becomes : MOk yX9_becomes cX9_becomes 4 (some .int) 2 := ⟨by decide +kernel, wd_1418, wd_86⟩
theorem vk_X9_becomes : VOk yX9_becomes := ⟨wd_1417, wd_35⟩
theorem mk_X9_begins : MOk yX9_begins cX9_begins 5 none 4 := ⟨by decide +kernel, wd_1672, wd_86⟩
theorem vk_X9_begins : VOk yX9_begins := ⟨wd_1671, wd_62⟩
theorem mk_X9_bits : MOk yX9_bits cX9_bits 3 (some .int) 1 := ⟨by decide +kernel, wd_1551, wd_86⟩
theorem mk_X9_breaks : MOk yX9_breaks cX9_breaks 1 (some .boolean) 0 := ⟨by decide +kernel, wd_1698, wd_86⟩
theorem vk_X9_breaks : VOk yX9_breaks := ⟨wd_1697, wd_68⟩
theorem mk_X9_copy : MOk yX9_copy cX9_copy 8 (some .int) 5 := ⟨by decide +kernel, wd_1771, wd_86⟩
theorem vk_X9_copy : VOk yX9_copy := ⟨wd_1769, wd_1770⟩
theorem mk_X9_cost : MOk yX9_cost cX9_cost 2 (some .int) 0 := ⟨by decide +kernel, wd_1536, wd_86⟩
theorem vk_X9_cost : VOk yX9_cost := ⟨wd_1534, wd_1535⟩
theorem mk_X9_costAgain : MOk yX9_costAgain cX9_costAgain 2 (some .int) 1 := ⟨by decide +kernel, wd_1618, wd_86⟩
theorem vk_X9_costAgain : VOk yX9_costAgain := ⟨wd_1617, wd_54⟩
theorem mk_X9_costOf : MOk yX9_costOf cX9_costOf 4 (some .int) 1 := ⟨by decide +kernel, wd_1544, wd_86⟩
theorem vk_X9_costOf : VOk yX9_costOf := ⟨wd_1543, wd_47⟩
theorem mk_X9_count : MOk yX9_count cX9_count 4 (some .int) 1 := ⟨by decide +kernel, wd_1745, wd_86⟩
theorem vk_X9_count : VOk yX9_count := ⟨wd_1743, wd_1744⟩
theorem mk_X9_counts : MOk yX9_counts cX9_counts 4 none 2 := ⟨by decide +kernel, wd_1483, wd_86⟩
theorem vk_X9_counts : VOk yX9_counts := ⟨wd_1482, wd_42⟩
theorem mk_X9_down : MOk yX9_down cX9_down 2 (some .int) 1 := ⟨by decide +kernel, wd_1561, wd_86⟩
theorem vk_X9_down : VOk yX9_down := ⟨wd_1559, wd_1560⟩
theorem mk_X9_element : MOk yX9_element cX9_element 3 (some .long) 2 := ⟨by decide +kernel, wd_1767, wd_86⟩
theorem vk_X9_element : VOk yX9_element := ⟨wd_1765, wd_1766⟩
theorem mk_X9_falls : MOk yX9_falls cX9_falls 2 (some .int) 1 := ⟨by decide +kernel, wd_1605, wd_86⟩
theorem vk_X9_falls : VOk yX9_falls := ⟨wd_1604, wd_52⟩
theorem mk_X9_fault : MOk yX9_fault cX9_fault 3 (some .int) 1 := ⟨by decide +kernel, wd_1660, wd_86⟩
theorem vk_X9_fault : VOk yX9_fault := ⟨wd_1658, wd_1659⟩
theorem mk_X9_faultOf : MOk yX9_faultOf cX9_faultOf 3 (some .int) 1 := ⟨by decide +kernel, wd_1668, wd_86⟩
theorem vk_X9_faultOf : VOk yX9_faultOf := ⟨wd_1667, wd_61⟩
theorem mk_X9_fieldOf : MOk yX9_fieldOf cX9_fieldOf 2 (some .int) 1 := ⟨by decide +kernel, wd_1717, wd_86⟩
theorem vk_X9_fieldOf : VOk yX9_fieldOf := ⟨wd_1716, wd_72⟩
theorem mk_X9_figureOf : MOk yX9_figureOf cX9_figureOf 3 (some .int) 2 := ⟨by decide +kernel, wd_1490, wd_86⟩
theorem mk_X9_figures : MOk yX9_figures cX9_figures 3 (some .int) 2 := ⟨by decide +kernel, wd_1479, wd_86⟩
theorem vk_X9_figures : VOk yX9_figures := ⟨wd_1477, wd_1478⟩
theorem mk_X9_findAgain : MOk yX9_findAgain cX9_findAgain 7 none 0 := ⟨by decide +kernel, wd_1614, wd_86⟩
theorem vk_X9_findAgain : VOk yX9_findAgain := ⟨wd_1613, wd_53⟩
theorem mk_X9_findWatched : MOk yX9_findWatched cX9_findWatched 3 (some .int) 0 := ⟨by decide +kernel, wd_1540, wd_86⟩
theorem vk_X9_findWatched : VOk yX9_findWatched := ⟨wd_1539, wd_46⟩
theorem mk_X9_get : MOk yX9_get cX9_get 3 (some .int) 2 := ⟨by decide +kernel, wd_1414, wd_86⟩
theorem vk_X9_get : VOk yX9_get := ⟨wd_1413, wd_34⟩
theorem mk_X9_hall : MOk yX9_hall cX9_hall 6 (some .int) 3 := ⟨by decide +kernel, wd_1397, wd_86⟩
theorem vk_X9_hall : VOk yX9_hall := ⟨wd_1395, wd_1396⟩
theorem mk_X9_has : MOk yX9_has cX9_has 2 (some .boolean) 1 := ⟨by decide +kernel, wd_1448, wd_86⟩
theorem vk_X9_has : VOk yX9_has := ⟨wd_1447, wd_38⟩
theorem mk_X9_hasFigure : MOk yX9_hasFigure cX9_hasFigure 3 (some .boolean) 2 := ⟨by decide +kernel, wd_1487, wd_86⟩
theorem vk_X9_hasFigure : VOk yX9_hasFigure := ⟨wd_1486, wd_43⟩
theorem mk_X9_hear : MOk yX9_hear cX9_hear 7 (some .int) 2 := ⟨by decide +kernel, wd_1468, wd_86⟩
theorem vk_X9_hear : VOk yX9_hear := ⟨wd_1466, wd_1467⟩
theorem mk_X9_held : MOk yX9_held cX9_held 2 (some .int) 2 := ⟨by decide +kernel, wd_1475, wd_86⟩
theorem mk_X9_helped : MOk yX9_helped cX9_helped 3 (some .int) 0 := ⟨by decide +kernel, wd_1582, wd_86⟩
theorem vk_X9_helped : VOk yX9_helped := ⟨wd_1580, wd_1581⟩
theorem mk_X9_hundredths : MOk yX9_hundredths cX9_hundredths 3 (some .int) 1 := ⟨by decide +kernel, wd_1649, wd_86⟩
theorem vk_X9_hundredths : VOk yX9_hundredths := ⟨wd_1648, wd_59⟩
theorem mk_X9_image : MOk yX9_image cX9_image 2 (some .int) 0 := ⟨by decide +kernel, wd_1737, wd_86⟩
theorem vk_X9_image : VOk yX9_image := ⟨wd_1735, wd_1736⟩
theorem mk_X9_init : MOk yX9_init cX9_init 2 none 0 := ⟨by decide +kernel, wd_1303, wd_86⟩
theorem mk_X9_isDigit : MOk yX9_isDigit cX9_isDigit 1 (some .boolean) 1 := ⟨by decide +kernel, wd_1713, wd_86⟩
theorem mk_X9_isHall : MOk yX9_isHall cX9_isHall 2 (some .boolean) 1 := ⟨by decide +kernel, wd_1410, wd_86⟩
theorem vk_X9_isHall : VOk yX9_isHall := ⟨wd_1409, wd_33⟩
theorem mk_X9_isIn : MOk yX9_isIn cX9_isIn 6 (some .boolean) 3 := ⟨by decide +kernel, wd_1401, wd_86⟩
theorem mk_X9_isRound : MOk yX9_isRound cX9_isRound 2 (some .boolean) 2 := ⟨by decide +kernel, wd_1502, wd_86⟩
theorem mk_X9_isShelf : MOk yX9_isShelf cX9_isShelf 1 (some .boolean) 1 := ⟨by decide +kernel, wd_1471, wd_86⟩
theorem mk_X9_keep : MOk yX9_keep cX9_keep 5 (some .int) 3 := ⟨by decide +kernel, wd_1750, wd_86⟩
theorem vk_X9_keep : VOk yX9_keep := ⟨wd_1748, wd_1749⟩
theorem mk_X9_land : MOk yX9_land cX9_land 4 (some .int) 1 := ⟨by decide +kernel, wd_1656, wd_86⟩
theorem vk_X9_land : VOk yX9_land := ⟨wd_1654, wd_1655⟩
theorem mk_X9_left : MOk yX9_left cX9_left 2 (some .int) 1 := ⟨by decide +kernel, wd_1518, wd_86⟩
theorem vk_X9_left : VOk yX9_left := ⟨wd_1516, wd_1517⟩
theorem mk_X9_leftOf : MOk yX9_leftOf cX9_leftOf 2 (some .int) 1 := ⟨by decide +kernel, wd_1524, wd_86⟩
theorem vk_X9_leftOf : VOk yX9_leftOf := ⟨wd_1523, wd_45⟩
theorem mk_X9_less : MOk yX9_less cX9_less 2 (some .int) 2 := ⟨by decide +kernel, wd_1440, wd_86⟩
theorem mk_X9_makes : MOk yX9_makes cX9_makes 3 none 1 := ⟨by decide +kernel, wd_1645, wd_86⟩
theorem vk_X9_makes : VOk yX9_makes := ⟨wd_1644, wd_58⟩
theorem mk_X9_mark : MOk yX9_mark cX9_mark 6 (some .int) 1 := ⟨by decide +kernel, wd_1721, wd_86⟩
theorem vk_X9_mark : VOk yX9_mark := ⟨wd_1719, wd_1720⟩
theorem mk_X9_markOf : MOk yX9_markOf cX9_markOf 3 (some .int) 1 := ⟨by decide +kernel, wd_1729, wd_86⟩
theorem vk_X9_markOf : VOk yX9_markOf := ⟨wd_1728, wd_73⟩
theorem mk_X9_marked : MOk yX9_marked cX9_marked 2 (some .int) 1 := ⟨by decide +kernel, wd_1725, wd_86⟩
theorem vk_X9_marked : VOk yX9_marked := ⟨wd_1723, wd_1724⟩
theorem mk_X9_may : MOk yX9_may cX9_may 5 (some .int) 2 := ⟨by decide +kernel, wd_1506, wd_86⟩
theorem vk_X9_may : VOk yX9_may := ⟨wd_1504, wd_1505⟩
theorem mk_X9_measure : MOk yX9_measure cX9_measure 2 (some .int) 1 := ⟨by decide +kernel, wd_1626, wd_86⟩
theorem vk_X9_measure : VOk yX9_measure := ⟨wd_1624, wd_1625⟩
theorem mk_X9_measureNow : MOk yX9_measureNow cX9_measureNow 4 (some .int) 1 := ⟨by decide +kernel, wd_1631, wd_86⟩
theorem vk_X9_measureNow : VOk yX9_measureNow := ⟨wd_1630, wd_56⟩
theorem mk_X9_middle : MOk yX9_middle cX9_middle 2 (some .int) 1 := ⟨by decide +kernel, wd_1510, wd_86⟩
theorem vk_X9_middle : VOk yX9_middle := ⟨wd_1508, wd_1509⟩
theorem mk_X9_middleOf : MOk yX9_middleOf cX9_middleOf 5 (some .int) 1 := ⟨by decide +kernel, wd_1514, wd_86⟩
theorem vk_X9_middleOf : VOk yX9_middleOf := ⟨wd_1513, wd_44⟩
theorem mk_X9_odd : MOk yX9_odd cX9_odd 8 (some .int) 3 := ⟨by decide +kernel, wd_1640, wd_86⟩
theorem vk_X9_odd : VOk yX9_odd := ⟨wd_1638, wd_1639⟩
theorem mk_X9_odds : MOk yX9_odds cX9_odds 8 (some .long) 1 := ⟨by decide +kernel, wd_1494, wd_86⟩
theorem vk_X9_odds : VOk yX9_odds := ⟨wd_1492, wd_1493⟩
theorem mk_X9_of : MOk yX9_of cX9_of 3 (some .int) 2 := ⟨by decide +kernel, wd_1433, wd_86⟩
theorem vk_X9_of : VOk yX9_of := ⟨wd_1431, wd_1432⟩
theorem mk_X9_or : MOk yX9_or cX9_or 3 (some .boolean) 0 := ⟨by decide +kernel, wd_1686, wd_86⟩
theorem vk_X9_or : VOk yX9_or := ⟨wd_1685, wd_65⟩
theorem mk_X9_product : MOk yX9_product cX9_product 4 (some .int) 0 := ⟨by decide +kernel, wd_1706, wd_86⟩
theorem vk_X9_product : VOk yX9_product := ⟨wd_1705, wd_70⟩
theorem mk_X9_put : MOk yX9_put cX9_put 5 (some .int) 3 := ⟨by decide +kernel, wd_1763, wd_86⟩
theorem vk_X9_put : VOk yX9_put := ⟨wd_1761, wd_1762⟩
theorem mk_X9_restore : MOk yX9_restore cX9_restore 2 (some .int) 0 := ⟨by decide +kernel, wd_1741, wd_86⟩
theorem vk_X9_restore : VOk yX9_restore := ⟨wd_1739, wd_1740⟩
theorem mk_X9_round : MOk yX9_round cX9_round 4 (some .int) 1 := ⟨by decide +kernel, wd_1499, wd_86⟩
theorem vk_X9_round : VOk yX9_round := ⟨wd_1497, wd_1498⟩
theorem mk_X9_row : MOk yX9_row cX9_row 5 (some .int) 3 := ⟨by decide +kernel, wd_1758, wd_86⟩
theorem vk_X9_row : VOk yX9_row := ⟨wd_1756, wd_1757⟩
theorem mk_X9_said : MOk yX9_said cX9_said 5 (some .int) 2 := ⟨by decide +kernel, wd_1733, wd_86⟩
theorem vk_X9_said : VOk yX9_said := ⟨wd_1731, wd_1732⟩
theorem mk_X9_send : MOk yX9_send cX9_send 3 (some .int) 1 := ⟨by decide +kernel, wd_1456, wd_86⟩
theorem vk_X9_send : VOk yX9_send := ⟨wd_1454, wd_1455⟩
theorem mk_X9_sentUp : MOk yX9_sentUp cX9_sentUp 3 (some .int) 2 := ⟨by decide +kernel, wd_1574, wd_86⟩
theorem vk_X9_sentUp : VOk yX9_sentUp := ⟨wd_1573, wd_49⟩
theorem mk_X9_set : MOk yX9_set cX9_set 3 (some .int) 2 := ⟨by decide +kernel, wd_1427, wd_86⟩
theorem vk_X9_set : VOk yX9_set := ⟨wd_1425, wd_1426⟩
theorem mk_X9_share : MOk yX9_share cX9_share 2 (some .int) 1 := ⟨by decide +kernel, wd_1452, wd_86⟩
theorem vk_X9_share : VOk yX9_share := ⟨wd_1451, wd_39⟩
theorem mk_X9_sheet : MOk yX9_sheet cX9_sheet 4 (some .int) 3 := ⟨by decide +kernel, wd_1422, wd_86⟩
theorem vk_X9_sheet : VOk yX9_sheet := ⟨wd_1420, wd_1421⟩
theorem mk_X9_sign : MOk yX9_sign cX9_sign 1 (some .int) 0 := ⟨by decide +kernel, wd_1676, wd_86⟩
theorem vk_X9_sign : VOk yX9_sign := ⟨wd_1675, wd_63⟩
theorem mk_X9_squares : MOk yX9_squares cX9_squares 5 (some .int) 1 := ⟨by decide +kernel, wd_1635, wd_86⟩
theorem vk_X9_squares : VOk yX9_squares := ⟨wd_1634, wd_57⟩
theorem mk_X9_sum : MOk yX9_sum cX9_sum 3 (some .int) 2 := ⟨by decide +kernel, wd_1565, wd_86⟩
theorem vk_X9_sum : VOk yX9_sum := ⟨wd_1563, wd_1564⟩
theorem mk_X9_sum_ : MOk yX9_sum_ cX9_sum_ 4 (some .int) 0 := ⟨by decide +kernel, wd_1702, wd_86⟩
theorem vk_X9_sum_ : VOk yX9_sum_ := ⟨wd_1701, wd_69⟩
theorem mk_X9_takes : MOk yX9_takes cX9_takes 2 (some .boolean) 1 := ⟨by decide +kernel, wd_1682, wd_86⟩
theorem vk_X9_takes : VOk yX9_takes := ⟨wd_1681, wd_64⟩
theorem mk_X9_tellsCame : MOk yX9_tellsCame cX9_tellsCame 3 (some .int) 1 := ⟨by decide +kernel, wd_1437, wd_86⟩
theorem vk_X9_tellsCame : VOk yX9_tellsCame := ⟨wd_1436, wd_36⟩
theorem mk_X9_tellsOurs : MOk yX9_tellsOurs cX9_tellsOurs 5 (some .int) 1 := ⟨by decide +kernel, wd_1444, wd_86⟩
theorem vk_X9_tellsOurs : VOk yX9_tellsOurs := ⟨wd_1443, wd_37⟩
theorem mk_X9_test : MOk yX9_test cX9_test 4 (some .boolean) 0 := ⟨by decide +kernel, wd_1694, wd_86⟩
theorem vk_X9_test : VOk yX9_test := ⟨wd_1693, wd_67⟩
theorem mk_X9_there : MOk yX9_there cX9_there 3 (some .int) 0 := ⟨by decide +kernel, wd_1464, wd_86⟩
theorem vk_X9_there : VOk yX9_there := ⟨wd_1463, wd_41⟩
theorem mk_X9_thrown : MOk yX9_thrown cX9_thrown 1 (some .int) 0 := ⟨by decide +kernel, wd_1393, wd_86⟩
theorem vk_X9_thrown : VOk yX9_thrown := ⟨wd_1391, wd_1392⟩
theorem mk_X9_toss : MOk yX9_toss cX9_toss 3 (some .int) 1 := ⟨by decide +kernel, wd_1783, wd_86⟩
theorem vk_X9_toss : VOk yX9_toss := ⟨wd_1781, wd_1782⟩
theorem mk_X9_truly : MOk yX9_truly cX9_truly 4 (some .int) 3 := ⟨by decide +kernel, wd_1406, wd_86⟩
theorem vk_X9_truly : VOk yX9_truly := ⟨wd_1404, wd_1405⟩
theorem mk_X9_trulyAll : MOk yX9_trulyAll cX9_trulyAll 4 (some .int) 1 := ⟨by decide +kernel, wd_1528, wd_86⟩
theorem vk_X9_trulyAll : VOk yX9_trulyAll := ⟨wd_1526, wd_1527⟩
theorem mk_X9_turn : MOk yX9_turn cX9_turn 6 (some .int) 0 := ⟨by decide +kernel, wd_1601, wd_86⟩
theorem vk_X9_turn : VOk yX9_turn := ⟨wd_1599, wd_1600⟩
theorem mk_X9_untrue : MOk yX9_untrue cX9_untrue 3 (some .int) 2 := ⟨by decide +kernel, wd_1586, wd_86⟩
theorem vk_X9_untrue : VOk yX9_untrue := ⟨wd_1584, wd_1585⟩
theorem mk_X9_untrueAll : MOk yX9_untrueAll cX9_untrueAll 4 (some .int) 1 := ⟨by decide +kernel, wd_1590, wd_86⟩
theorem vk_X9_untrueAll : VOk yX9_untrueAll := ⟨wd_1589, wd_50⟩
theorem mk_X9_untrueOf : MOk yX9_untrueOf cX9_untrueOf 5 (some .int) 2 := ⟨by decide +kernel, wd_1594, wd_86⟩
theorem vk_X9_untrueOf : VOk yX9_untrueOf := ⟨wd_1593, wd_51⟩
theorem mk_X9_up : MOk yX9_up cX9_up 4 (some .int) 3 := ⟨by decide +kernel, wd_1555, wd_86⟩
theorem vk_X9_up : VOk yX9_up := ⟨wd_1553, wd_1554⟩
theorem mk_X9_watch : MOk yX9_watch cX9_watch 3 (some .int) 2 := ⟨by decide +kernel, wd_1532, wd_86⟩
theorem vk_X9_watch : VOk yX9_watch := ⟨wd_1530, wd_1531⟩
theorem mk_X9_ways : MOk yX9_ways cX9_ways 5 (some .int) 1 := ⟨by decide +kernel, wd_1548, wd_86⟩
theorem vk_X9_ways : VOk yX9_ways := ⟨wd_1546, wd_1547⟩
theorem mk_X9_weight : MOk yX9_weight cX9_weight 3 (some .int) 1 := ⟨by decide +kernel, wd_1775, wd_86⟩
theorem vk_X9_weight : VOk yX9_weight := ⟨wd_1773, wd_1774⟩
theorem mk_X9_weightOf : MOk yX9_weightOf cX9_weightOf 2 (some .int) 1 := ⟨by decide +kernel, wd_1754, wd_86⟩
theorem vk_X9_weightOf : VOk yX9_weightOf := ⟨wd_1753, wd_74⟩
theorem mk_X9_won : MOk yX9_won cX9_won 3 (some .int) 0 := ⟨by decide +kernel, wd_1578, wd_86⟩
theorem vk_X9_won : VOk yX9_won := ⟨wd_1576, wd_1577⟩
theorem mk_X9_worthAgain : MOk yX9_worthAgain cX9_worthAgain 2 (some .int) 1 := ⟨by decide +kernel, wd_1622, wd_86⟩
theorem vk_X9_worthAgain : VOk yX9_worthAgain := ⟨wd_1621, wd_55⟩
theorem mk_X9_writes : MOk yX9_writes cX9_writes 4 none 3 := ⟨by decide +kernel, wd_1460, wd_86⟩
theorem vk_X9_writes : VOk yX9_writes := ⟨wd_1459, wd_40⟩
theorem mk_X9_written : MOk yX9_written cX9_written 5 (some .int) 2 := ⟨by decide +kernel, wd_1570, wd_86⟩
theorem vk_X9_written : VOk yX9_written := ⟨wd_1569, wd_48⟩
theorem mk_X9_wrongKept : MOk yX9_wrongKept cX9_wrongKept 2 (some .int) 1 := ⟨by decide +kernel, wd_1779, wd_86⟩
theorem vk_X9_wrongKept : VOk yX9_wrongKept := ⟨wd_1778, wd_75⟩
theorem mk_X9_wrongRow : MOk yX9_wrongRow cX9_wrongRow 3 (some .int) 2 := ⟨by decide +kernel, wd_1664, wd_86⟩
theorem vk_X9_wrongRow : VOk yX9_wrongRow := ⟨wd_1663, wd_60⟩
