theorem k_0_3 : Cond.methodLink (xown 0) 3 Lib.objectInit ∈ xws := xmem (List.mem_of_getElem? (i := 215) (by decide +kernel)) rfl
theorem k_0_69 : Cond.methodLink (xown 0) 69 y_B_addStatus.1 ∈ xws := xmem (List.mem_of_getElem? (i := 890) (by decide +kernel)) rfl
theorem k_0_73 : Cond.methodLink (xown 0) 73 y_J_fill_aIIV.1 ∈ xws := xmem (List.mem_of_getElem? (i := 960) (by decide +kernel)) rfl
theorem k_0_79 : Cond.methodLink (xown 0) 79 y_J_fill_aJJV.1 ∈ xws := xmem (List.mem_of_getElem? (i := 963) (by decide +kernel)) rfl
theorem k_0_82 : Cond.methodLink (xown 0) 82 y_B_gatherEvent.1 ∈ xws := xmem (List.mem_of_getElem? (i := 966) (by decide +kernel)) rfl
theorem k_1_3 : Cond.methodLink (xown 1) 3 Lib.objectInit ∈ xws := xmem (List.mem_of_getElem? (i := 281) (by decide +kernel)) rfl
theorem k_1_54 : Cond.methodLink (xown 1) 54 y_J_fill_aIIV.1 ∈ xws := xmem (List.mem_of_getElem? (i := 974) (by decide +kernel)) rfl
theorem k_1_60 : Cond.methodLink (xown 1) 60 arraycopyName ∈ xws := xmem (List.mem_of_getElem? (i := 1118) (by decide +kernel)) rfl
theorem k_1_66 : Cond.methodLink (xown 1) 66 y_J_fill_aIIIIV.1 ∈ xws := xmem (List.mem_of_getElem? (i := 979) (by decide +kernel)) rfl
theorem k_1_69 : Cond.methodLink (xown 1) 69 y_F_bringDust.1 ∈ xws := xmem (List.mem_of_getElem? (i := 982) (by decide +kernel)) rfl
theorem k_1_78 : Cond.methodLink (xown 1) 78 y_F_isKnocked.1 ∈ xws := xmem (List.mem_of_getElem? (i := 987) (by decide +kernel)) rfl
theorem k_1_82 : Cond.methodLink (xown 1) 82 y_F_shake.1 ∈ xws := xmem (List.mem_of_getElem? (i := 995) (by decide +kernel)) rfl
theorem k_1_86 : Cond.methodLink (xown 1) 86 y_F_clean.1 ∈ xws := xmem (List.mem_of_getElem? (i := 999) (by decide +kernel)) rfl
theorem k_1_90 : Cond.methodLink (xown 1) 90 y_F_pass.1 ∈ xws := xmem (List.mem_of_getElem? (i := 1024) (by decide +kernel)) rfl
theorem k_1_105 : Cond.methodLink (xown 1) 105 y_B_cell.1 ∈ xws := xmem (List.mem_of_getElem? (i := 986) (by decide +kernel)) rfl
theorem k_1_109 : Cond.methodLink (xown 1) 109 y_B_isKnocked.1 ∈ xws := xmem (List.mem_of_getElem? (i := 991) (by decide +kernel)) rfl
theorem k_1_118 : Cond.methodLink (xown 1) 118 y_F_sumOf.1 ∈ xws := xmem (List.mem_of_getElem? (i := 1003) (by decide +kernel)) rfl
theorem k_1_125 : Cond.methodLink (xown 1) 125 y_B_isOff.1 ∈ xws := xmem (List.mem_of_getElem? (i := 1006) (by decide +kernel)) rfl
theorem k_1_131 : Cond.methodLink (xown 1) 131 y_F_lessBy.1 ∈ xws := xmem (List.mem_of_getElem? (i := 1010) (by decide +kernel)) rfl
theorem k_1_135 : Cond.methodLink (xown 1) 135 y_N_keepsLayer.1 ∈ xws := xmem (List.mem_of_getElem? (i := 1018) (by decide +kernel)) rfl
theorem k_1_142 : Cond.methodLink (xown 1) 142 y_J_max.1 ∈ xws := xmem (List.mem_of_getElem? (i := 1019) (by decide +kernel)) rfl
theorem k_1_148 : Cond.methodLink (xown 1) 148 y_F_hold.1 ∈ xws := xmem (List.mem_of_getElem? (i := 1020) (by decide +kernel)) rfl
theorem k_1_152 : Cond.methodLink (xown 1) 152 y_B_holesBy.1 ∈ xws := xmem (List.mem_of_getElem? (i := 1014) (by decide +kernel)) rfl
theorem k_1_167 : Cond.methodLink (xown 1) 167 y_T_share.1 ∈ xws := xmem (List.mem_of_getElem? (i := 1029) (by decide +kernel)) rfl
theorem k_1_177 : Cond.methodLink (xown 1) 177 y_F_amountsOf.1 ∈ xws := xmem (List.mem_of_getElem? (i := 1050) (by decide +kernel)) rfl
theorem k_2_3 : Cond.methodLink (xown 2) 3 Lib.objectInit ∈ xws := xmem (List.mem_of_getElem? (i := 348) (by decide +kernel)) rfl
theorem k_2_54 : Cond.methodLink (xown 2) 54 y_Y_get.1 ∈ xws := xmem (List.mem_of_getElem? (i := 1104) (by decide +kernel)) rfl
theorem k_2_60 : Cond.methodLink (xown 2) 60 y_F_restart.1 ∈ xws := xmem (List.mem_of_getElem? (i := 1109) (by decide +kernel)) rfl
theorem k_2_71 : Cond.methodLink (xown 2) 71 y_H_tryHoles.1 ∈ xws := xmem (List.mem_of_getElem? (i := 1110) (by decide +kernel)) rfl
theorem k_2_75 : Cond.methodLink (xown 2) 75 y_F_step.1 ∈ xws := xmem (List.mem_of_getElem? (i := 1127) (by decide +kernel)) rfl
theorem k_2_79 : Cond.methodLink (xown 2) 79 y_H_isNear.1 ∈ xws := xmem (List.mem_of_getElem? (i := 1128) (by decide +kernel)) rfl
theorem k_2_83 : Cond.methodLink (xown 2) 83 y_F_goOnFrom.1 ∈ xws := xmem (List.mem_of_getElem? (i := 1114) (by decide +kernel)) rfl
theorem k_2_87 : Cond.methodLink (xown 2) 87 y_F_supposeHole.1 ∈ xws := xmem (List.mem_of_getElem? (i := 1119) (by decide +kernel)) rfl
theorem k_2_91 : Cond.methodLink (xown 2) 91 y_H_explains.1 ∈ xws := xmem (List.mem_of_getElem? (i := 1123) (by decide +kernel)) rfl
theorem k_2_95 : Cond.methodLink (xown 2) 95 y_F_upOf.1 ∈ xws := xmem (List.mem_of_getElem? (i := 1132) (by decide +kernel)) rfl
theorem k_2_99 : Cond.methodLink (xown 2) 99 y_J_bitCount.1 ∈ xws := xmem (List.mem_of_getElem? (i := 1159) (by decide +kernel)) rfl
theorem k_2_105 : Cond.methodLink (xown 2) 105 y_H_upTogether.1 ∈ xws := xmem (List.mem_of_getElem? (i := 1165) (by decide +kernel)) rfl
theorem k_2_109 : Cond.methodLink (xown 2) 109 y_F_supposeKnocks.1 ∈ xws := xmem (List.mem_of_getElem? (i := 1169) (by decide +kernel)) rfl
theorem k_3_3 : Cond.methodLink (xown 3) 3 Lib.objectInit ∈ xws := xmem (List.mem_of_getElem? (i := 180) (by decide +kernel)) rfl
theorem k_3_46 : Cond.methodLink (xown 3) 46 y_L_readLaw.1 ∈ xws := xmem (List.mem_of_getElem? (i := 817) (by decide +kernel)) rfl
theorem k_3_50 : Cond.methodLink (xown 3) 50 y_A_isName.1 ∈ xws := xmem (List.mem_of_getElem? (i := 821) (by decide +kernel)) rfl
theorem k_3_54 : Cond.methodLink (xown 3) 54 y_A_stands.1 ∈ xws := xmem (List.mem_of_getElem? (i := 822) (by decide +kernel)) rfl
theorem k_3_58 : Cond.methodLink (xown 3) 58 y_A_wrong.1 ∈ xws := xmem (List.mem_of_getElem? (i := 823) (by decide +kernel)) rfl
theorem k_3_66 : Cond.methodLink (xown 3) 66 y_L_isLawName.1 ∈ xws := xmem (List.mem_of_getElem? (i := 824) (by decide +kernel)) rfl
theorem k_3_70 : Cond.methodLink (xown 3) 70 y_A_advance.1 ∈ xws := xmem (List.mem_of_getElem? (i := 828) (by decide +kernel)) rfl
theorem k_3_73 : Cond.methodLink (xown 3) 73 y_A_takeSign.1 ∈ xws := xmem (List.mem_of_getElem? (i := 829) (by decide +kernel)) rfl
theorem k_3_77 : Cond.methodLink (xown 3) 77 y_L_readSum.1 ∈ xws := xmem (List.mem_of_getElem? (i := 830) (by decide +kernel)) rfl
theorem k_3_81 : Cond.methodLink (xown 3) 81 y_L_readBounds.1 ∈ xws := xmem (List.mem_of_getElem? (i := 847) (by decide +kernel)) rfl
theorem k_3_84 : Cond.methodLink (xown 3) 84 y_A_takeKey.1 ∈ xws := xmem (List.mem_of_getElem? (i := 851) (by decide +kernel)) rfl
theorem k_3_87 : Cond.methodLink (xown 3) 87 y_A_takeNumber.1 ∈ xws := xmem (List.mem_of_getElem? (i := 852) (by decide +kernel)) rfl
theorem k_3_94 : Cond.methodLink (xown 3) 94 y_L_readItem.1 ∈ xws := xmem (List.mem_of_getElem? (i := 834) (by decide +kernel)) rfl
theorem k_3_97 : Cond.methodLink (xown 3) 97 y_A_isSign.1 ∈ xws := xmem (List.mem_of_getElem? (i := 842) (by decide +kernel)) rfl
theorem k_3_100 : Cond.methodLink (xown 3) 100 y_L_addStep.1 ∈ xws := xmem (List.mem_of_getElem? (i := 843) (by decide +kernel)) rfl
theorem k_3_104 : Cond.methodLink (xown 3) 104 y_L_readAtom.1 ∈ xws := xmem (List.mem_of_getElem? (i := 838) (by decide +kernel)) rfl
theorem k_3_113 : Cond.methodLink (xown 3) 113 y_L_sumOf.1 ∈ xws := xmem (List.mem_of_getElem? (i := 1067) (by decide +kernel)) rfl
theorem k_3_117 : Cond.methodLink (xown 3) 117 y_L_isTooMuch.1 ∈ xws := xmem (List.mem_of_getElem? (i := 1077) (by decide +kernel)) rfl
theorem k_3_121 : Cond.methodLink (xown 3) 121 y_L_variable.1 ∈ xws := xmem (List.mem_of_getElem? (i := 1071) (by decide +kernel)) rfl
theorem k_3_124 : Cond.methodLink (xown 3) 124 y_L_joinSides.1 ∈ xws := xmem (List.mem_of_getElem? (i := 1074) (by decide +kernel)) rfl
theorem k_4_3 : Cond.methodLink (xown 4) 3 Lib.objectInit ∈ xws := xmem (List.mem_of_getElem? (i := 397) (by decide +kernel)) rfl
theorem k_4_50 : Cond.methodLink (xown 4) 50 y_Y_get.1 ∈ xws := xmem (List.mem_of_getElem? (i := 1190) (by decide +kernel)) rfl
theorem k_4_58 : Cond.methodLink (xown 4) 58 y_Y_areWithin.1 ∈ xws := xmem (List.mem_of_getElem? (i := 1196) (by decide +kernel)) rfl
theorem k_4_62 : Cond.methodLink (xown 4) 62 y_P_spellRow.1 ∈ xws := xmem (List.mem_of_getElem? (i := 1201) (by decide +kernel)) rfl
theorem k_4_66 : Cond.methodLink (xown 4) 66 y_P_costOf.1 ∈ xws := xmem (List.mem_of_getElem? (i := 1205) (by decide +kernel)) rfl
theorem k_4_70 : Cond.methodLink (xown 4) 70 y_P_passesOf.1 ∈ xws := xmem (List.mem_of_getElem? (i := 1209) (by decide +kernel)) rfl
theorem k_4_73 : Cond.methodLink (xown 4) 73 arraycopyName ∈ xws := xmem (List.mem_of_getElem? (i := 1213) (by decide +kernel)) rfl
theorem k_4_81 : Cond.methodLink (xown 4) 81 y_J_fill_aIIV.1 ∈ xws := xmem (List.mem_of_getElem? (i := 1231) (by decide +kernel)) rfl
theorem k_4_87 : Cond.methodLink (xown 4) 87 y_P_hindranceWithOneMore.1 ∈ xws := xmem (List.mem_of_getElem? (i := 1232) (by decide +kernel)) rfl
theorem k_4_90 : Cond.methodLink (xown 4) 90 y_J_max.1 ∈ xws := xmem (List.mem_of_getElem? (i := 1250) (by decide +kernel)) rfl
theorem k_4_96 : Cond.methodLink (xown 4) 96 y_J_min.1 ∈ xws := xmem (List.mem_of_getElem? (i := 1251) (by decide +kernel)) rfl
theorem k_4_99 : Cond.methodLink (xown 4) 99 y_P_fits.1 ∈ xws := xmem (List.mem_of_getElem? (i := 1256) (by decide +kernel)) rfl
theorem k_5_3 : Cond.methodLink (xown 5) 3 Lib.objectInit ∈ xws := xmem (List.mem_of_getElem? (i := 287) (by decide +kernel)) rfl
theorem k_6_3 : Cond.methodLink (xown 6) 3 Lib.objectInit ∈ xws := xmem (List.mem_of_getElem? (i := 115) (by decide +kernel)) rfl
theorem k_6_62 : Cond.methodLink (xown 6) 62 y_A_stands.1 ∈ xws := xmem (List.mem_of_getElem? (i := 716) (by decide +kernel)) rfl
theorem k_6_66 : Cond.methodLink (xown 6) 66 y_A_advance.1 ∈ xws := xmem (List.mem_of_getElem? (i := 724) (by decide +kernel)) rfl
theorem k_6_69 : Cond.methodLink (xown 6) 69 y_N_readJoin.1 ∈ xws := xmem (List.mem_of_getElem? (i := 725) (by decide +kernel)) rfl
theorem k_6_73 : Cond.methodLink (xown 6) 73 y_N_readWorks.1 ∈ xws := xmem (List.mem_of_getElem? (i := 767) (by decide +kernel)) rfl
theorem k_6_76 : Cond.methodLink (xown 6) 76 y_N_readCleaner.1 ∈ xws := xmem (List.mem_of_getElem? (i := 784) (by decide +kernel)) rfl
theorem k_6_80 : Cond.methodLink (xown 6) 80 y_N_isNewName.1 ∈ xws := xmem (List.mem_of_getElem? (i := 771) (by decide +kernel)) rfl
theorem k_6_88 : Cond.methodLink (xown 6) 88 y_N_addWay.1 ∈ xws := xmem (List.mem_of_getElem? (i := 755) (by decide +kernel)) rfl
theorem k_6_92 : Cond.methodLink (xown 6) 92 y_N_readHolds.1 ∈ xws := xmem (List.mem_of_getElem? (i := 788) (by decide +kernel)) rfl
theorem k_6_95 : Cond.methodLink (xown 6) 95 y_N_readLimit.1 ∈ xws := xmem (List.mem_of_getElem? (i := 792) (by decide +kernel)) rfl
theorem k_6_98 : Cond.methodLink (xown 6) 98 y_A_takeSign.1 ∈ xws := xmem (List.mem_of_getElem? (i := 779) (by decide +kernel)) rfl
theorem k_6_102 : Cond.methodLink (xown 6) 102 y_A_isName.1 ∈ xws := xmem (List.mem_of_getElem? (i := 729) (by decide +kernel)) rfl
theorem k_6_106 : Cond.methodLink (xown 6) 106 y_N_cleanerNamed.1 ∈ xws := xmem (List.mem_of_getElem? (i := 733) (by decide +kernel)) rfl
theorem k_6_110 : Cond.methodLink (xown 6) 110 y_N_isWorksName.1 ∈ xws := xmem (List.mem_of_getElem? (i := 775) (by decide +kernel)) rfl
theorem k_6_114 : Cond.methodLink (xown 6) 114 y_A_wrong.1 ∈ xws := xmem (List.mem_of_getElem? (i := 737) (by decide +kernel)) rfl
theorem k_6_118 : Cond.methodLink (xown 6) 118 y_A_takeKey.1 ∈ xws := xmem (List.mem_of_getElem? (i := 738) (by decide +kernel)) rfl
theorem k_6_121 : Cond.methodLink (xown 6) 121 y_A_takeNumber.1 ∈ xws := xmem (List.mem_of_getElem? (i := 751) (by decide +kernel)) rfl
theorem k_6_128 : Cond.methodLink (xown 6) 128 y_N_limitWord.1 ∈ xws := xmem (List.mem_of_getElem? (i := 796) (by decide +kernel)) rfl
theorem k_6_132 : Cond.methodLink (xown 6) 132 y_N_readWay.1 ∈ xws := xmem (List.mem_of_getElem? (i := 743) (by decide +kernel)) rfl
theorem k_6_135 : Cond.methodLink (xown 6) 135 y_A_isSign.1 ∈ xws := xmem (List.mem_of_getElem? (i := 759) (by decide +kernel)) rfl
theorem k_6_138 : Cond.methodLink (xown 6) 138 y_N_endJoin.1 ∈ xws := xmem (List.mem_of_getElem? (i := 763) (by decide +kernel)) rfl
theorem k_6_141 : Cond.methodLink (xown 6) 141 y_N_hasWay.1 ∈ xws := xmem (List.mem_of_getElem? (i := 747) (by decide +kernel)) rfl
theorem k_7_3 : Cond.methodLink (xown 7) 3 Lib.objectInit ∈ xws := xmem (List.mem_of_getElem? (i := 34) (by decide +kernel)) rfl
theorem k_7_59 : Cond.methodLink (xown 7) 59 y_A_advance.1 ∈ xws := xmem (List.mem_of_getElem? (i := 580) (by decide +kernel)) rfl
theorem k_7_62 : Cond.methodLink (xown 7) 62 y_A_isLetter.1 ∈ xws := xmem (List.mem_of_getElem? (i := 584) (by decide +kernel)) rfl
theorem k_7_66 : Cond.methodLink (xown 7) 66 y_A_scanWord.1 ∈ xws := xmem (List.mem_of_getElem? (i := 588) (by decide +kernel)) rfl
theorem k_7_69 : Cond.methodLink (xown 7) 69 y_A_keyOf.1 ∈ xws := xmem (List.mem_of_getElem? (i := 593) (by decide +kernel)) rfl
theorem k_7_73 : Cond.methodLink (xown 7) 73 y_A_isDigit.1 ∈ xws := xmem (List.mem_of_getElem? (i := 645) (by decide +kernel)) rfl
theorem k_7_76 : Cond.methodLink (xown 7) 76 y_A_scanNumber.1 ∈ xws := xmem (List.mem_of_getElem? (i := 649) (by decide +kernel)) rfl
theorem k_7_79 : Cond.methodLink (xown 7) 79 y_S_indexOf_II.1 ∈ xws := xmem (List.mem_of_getElem? (i := 653) (by decide +kernel)) rfl
theorem k_7_87 : Cond.methodLink (xown 7) 87 y_S_length.1 ∈ xws := xmem (List.mem_of_getElem? (i := 597) (by decide +kernel)) rfl
theorem k_7_91 : Cond.methodLink (xown 7) 91 y_S_charAt.1 ∈ xws := xmem (List.mem_of_getElem? (i := 607) (by decide +kernel)) rfl
theorem k_7_95 : Cond.methodLink (xown 7) 95 y_A_wrong.1 ∈ xws := xmem (List.mem_of_getElem? (i := 720) (by decide +kernel)) rfl
theorem k_7_98 : Cond.methodLink (xown 7) 98 y_A_stands.1 ∈ xws := xmem (List.mem_of_getElem? (i := 742) (by decide +kernel)) rfl
theorem k_7_102 : Cond.methodLink (xown 7) 102 y_A_isSign.1 ∈ xws := xmem (List.mem_of_getElem? (i := 783) (by decide +kernel)) rfl
theorem k_8_3 : Cond.methodLink (xown 8) 3 Lib.objectInit ∈ xws := xmem (List.mem_of_getElem? (i := 97) (by decide +kernel)) rfl
theorem k_8_22 : Cond.methodLink (xown 8) 22 y_J_fill_aJIIJV.1 ∈ xws := xmem (List.mem_of_getElem? (i := 494) (by decide +kernel)) rfl
theorem k_8_28 : Cond.methodLink (xown 8) 28 y_Y_cut.1 ∈ xws := xmem (List.mem_of_getElem? (i := 524) (by decide +kernel)) rfl
theorem k_8_32 : Cond.methodLink (xown 8) 32 arraycopyName ∈ xws := xmem (List.mem_of_getElem? (i := 555) (by decide +kernel)) rfl
theorem k_8_38 : Cond.methodLink (xown 8) 38 y_Y_get.1 ∈ xws := xmem (List.mem_of_getElem? (i := 1146) (by decide +kernel)) rfl
theorem k_9_1 : Cond.methodLink (xown 9) 1 Lib.objectInit ∈ xws := xmem (List.mem_of_getElem? (i := 26) (by decide +kernel)) rfl
theorem k_9_82 : Cond.methodLink (xown 9) 82 y_X_isTray.1 ∈ xws := xmem (List.mem_of_getElem? (i := 483) (by decide +kernel)) rfl
theorem k_9_86 : Cond.methodLink (xown 9) 86 y_X_deny.1 ∈ xws := xmem (List.mem_of_getElem? (i := 486) (by decide +kernel)) rfl
theorem k_9_89 : Cond.methodLink (xown 9) 89 y_Y_lay.1 ∈ xws := xmem (List.mem_of_getElem? (i := 490) (by decide +kernel)) rfl
theorem k_9_93 : Cond.methodLink (xown 9) 93 y_X_done.1 ∈ xws := xmem (List.mem_of_getElem? (i := 500) (by decide +kernel)) rfl
theorem k_9_97 : Cond.methodLink (xown 9) 97 y_X_placeStatus.1 ∈ xws := xmem (List.mem_of_getElem? (i := 508) (by decide +kernel)) rfl
theorem k_9_101 : Cond.methodLink (xown 9) 101 y_Y_put.1 ∈ xws := xmem (List.mem_of_getElem? (i := 520) (by decide +kernel)) rfl
theorem k_9_105 : Cond.methodLink (xown 9) 105 y_X_refuse.1 ∈ xws := xmem (List.mem_of_getElem? (i := 531) (by decide +kernel)) rfl
theorem k_9_109 : Cond.methodLink (xown 9) 109 y_Y_get.1 ∈ xws := xmem (List.mem_of_getElem? (i := 535) (by decide +kernel)) rfl
theorem k_9_113 : Cond.methodLink (xown 9) 113 y_Y_isMissing.1 ∈ xws := xmem (List.mem_of_getElem? (i := 512) (by decide +kernel)) rfl
theorem k_9_116 : Cond.methodLink (xown 9) 116 y_Y_areAlike.1 ∈ xws := xmem (List.mem_of_getElem? (i := 543) (by decide +kernel)) rfl
theorem k_9_120 : Cond.methodLink (xown 9) 120 y_Y_hasRun.1 ∈ xws := xmem (List.mem_of_getElem? (i := 547) (by decide +kernel)) rfl
theorem k_9_124 : Cond.methodLink (xown 9) 124 y_Y_move.1 ∈ xws := xmem (List.mem_of_getElem? (i := 551) (by decide +kernel)) rfl
theorem k_9_128 : Cond.methodLink (xown 9) 128 y_A_hasRoom.1 ∈ xws := xmem (List.mem_of_getElem? (i := 562) (by decide +kernel)) rfl
theorem k_9_131 : Cond.methodLink (xown 9) 131 y_A_append.1 ∈ xws := xmem (List.mem_of_getElem? (i := 566) (by decide +kernel)) rfl
theorem k_9_142 : Cond.methodLink (xown 9) 142 y_A_open.1 ∈ xws := xmem (List.mem_of_getElem? (i := 576) (by decide +kernel)) rfl
theorem k_9_146 : Cond.methodLink (xown 9) 146 y_N_readFrom.1 ∈ xws := xmem (List.mem_of_getElem? (i := 712) (by decide +kernel)) rfl
theorem k_9_150 : Cond.methodLink (xown 9) 150 y_B_forget.1 ∈ xws := xmem (List.mem_of_getElem? (i := 799) (by decide +kernel)) rfl
theorem k_9_156 : Cond.methodLink (xown 9) 156 y_X_answer.1 ∈ xws := xmem (List.mem_of_getElem? (i := 803) (by decide +kernel)) rfl
theorem k_9_163 : Cond.methodLink (xown 9) 163 y_L_readFrom.1 ∈ xws := xmem (List.mem_of_getElem? (i := 813) (by decide +kernel)) rfl
theorem k_9_171 : Cond.methodLink (xown 9) 171 y_X_isCleaner.1 ∈ xws := xmem (List.mem_of_getElem? (i := 861) (by decide +kernel)) rfl
theorem k_9_184 : Cond.methodLink (xown 9) 184 y_X_isWorks.1 ∈ xws := xmem (List.mem_of_getElem? (i := 869) (by decide +kernel)) rfl
theorem k_9_190 : Cond.methodLink (xown 9) 190 y_X_isHour.1 ∈ xws := xmem (List.mem_of_getElem? (i := 877) (by decide +kernel)) rfl
theorem k_9_193 : Cond.methodLink (xown 9) 193 y_X_isSize.1 ∈ xws := xmem (List.mem_of_getElem? (i := 880) (by decide +kernel)) rfl
theorem k_9_196 : Cond.methodLink (xown 9) 196 y_X_isKnownHour.1 ∈ xws := xmem (List.mem_of_getElem? (i := 883) (by decide +kernel)) rfl
theorem k_9_199 : Cond.methodLink (xown 9) 199 y_B_rowStatus.1 ∈ xws := xmem (List.mem_of_getElem? (i := 886) (by decide +kernel)) rfl
theorem k_9_202 : Cond.methodLink (xown 9) 202 y_B_cell.1 ∈ xws := xmem (List.mem_of_getElem? (i := 894) (by decide +kernel)) rfl
theorem k_9_206 : Cond.methodLink (xown 9) 206 y_B_addRow.1 ∈ xws := xmem (List.mem_of_getElem? (i := 897) (by decide +kernel)) rfl
theorem k_9_209 : Cond.methodLink (xown 9) 209 y_B_setWarmth.1 ∈ xws := xmem (List.mem_of_getElem? (i := 905) (by decide +kernel)) rfl
theorem k_9_213 : Cond.methodLink (xown 9) 213 y_B_eventStatus.1 ∈ xws := xmem (List.mem_of_getElem? (i := 913) (by decide +kernel)) rfl
theorem k_9_216 : Cond.methodLink (xown 9) 216 y_N_keepsLayer.1 ∈ xws := xmem (List.mem_of_getElem? (i := 917) (by decide +kernel)) rfl
theorem k_9_219 : Cond.methodLink (xown 9) 219 y_B_addEvent.1 ∈ xws := xmem (List.mem_of_getElem? (i := 921) (by decide +kernel)) rfl
theorem k_9_222 : Cond.methodLink (xown 9) 222 y_B_setAsOf.1 ∈ xws := xmem (List.mem_of_getElem? (i := 937) (by decide +kernel)) rfl
theorem k_9_225 : Cond.methodLink (xown 9) 225 y_X_isSizeOrAll.1 ∈ xws := xmem (List.mem_of_getElem? (i := 945) (by decide +kernel)) rfl
theorem k_9_228 : Cond.methodLink (xown 9) 228 y_X_stepThrough.1 ∈ xws := xmem (List.mem_of_getElem? (i := 948) (by decide +kernel)) rfl
theorem k_9_231 : Cond.methodLink (xown 9) 231 y_F_upOf.1 ∈ xws := xmem (List.mem_of_getElem? (i := 1034) (by decide +kernel)) rfl
theorem k_9_234 : Cond.methodLink (xown 9) 234 y_X_stepToEndOf.1 ∈ xws := xmem (List.mem_of_getElem? (i := 1042) (by decide +kernel)) rfl
theorem k_9_237 : Cond.methodLink (xown 9) 237 y_F_amountOf.1 ∈ xws := xmem (List.mem_of_getElem? (i := 1046) (by decide +kernel)) rfl
theorem k_9_250 : Cond.methodLink (xown 9) 250 y_T_share.1 ∈ xws := xmem (List.mem_of_getElem? (i := 1058) (by decide +kernel)) rfl
theorem k_9_263 : Cond.methodLink (xown 9) 263 y_L_isBroken.1 ∈ xws := xmem (List.mem_of_getElem? (i := 1063) (by decide +kernel)) rfl
theorem k_9_267 : Cond.methodLink (xown 9) 267 y_L_firstBroken.1 ∈ xws := xmem (List.mem_of_getElem? (i := 1085) (by decide +kernel)) rfl
theorem k_9_271 : Cond.methodLink (xown 9) 271 y_X_isSpan.1 ∈ xws := xmem (List.mem_of_getElem? (i := 1093) (by decide +kernel)) rfl
theorem k_9_274 : Cond.methodLink (xown 9) 274 y_X_rowStatus.1 ∈ xws := xmem (List.mem_of_getElem? (i := 1096) (by decide +kernel)) rfl
theorem k_9_276 : Cond.methodLink (xown 9) 276 y_X_freshen.1 ∈ xws := xmem (List.mem_of_getElem? (i := 952) (by decide +kernel)) rfl
theorem k_9_279 : Cond.methodLink (xown 9) 279 y_H_takeUps.1 ∈ xws := xmem (List.mem_of_getElem? (i := 1100) (by decide +kernel)) rfl
theorem k_9_283 : Cond.methodLink (xown 9) 283 y_H_countHoles.1 ∈ xws := xmem (List.mem_of_getElem? (i := 1105) (by decide +kernel)) rfl
theorem k_9_298 : Cond.methodLink (xown 9) 298 y_Y_areWithin.1 ∈ xws := xmem (List.mem_of_getElem? (i := 1142) (by decide +kernel)) rfl
theorem k_9_302 : Cond.methodLink (xown 9) 302 y_Y_hasTwoAlike.1 ∈ xws := xmem (List.mem_of_getElem? (i := 1147) (by decide +kernel)) rfl
theorem k_9_305 : Cond.methodLink (xown 9) 305 y_H_takeHours.1 ∈ xws := xmem (List.mem_of_getElem? (i := 1151) (by decide +kernel)) rfl
theorem k_9_309 : Cond.methodLink (xown 9) 309 y_H_leastUp.1 ∈ xws := xmem (List.mem_of_getElem? (i := 1155) (by decide +kernel)) rfl
theorem k_9_317 : Cond.methodLink (xown 9) 317 y_X_bothStatus.1 ∈ xws := xmem (List.mem_of_getElem? (i := 1182) (by decide +kernel)) rfl
theorem k_9_321 : Cond.methodLink (xown 9) 321 y_P_takeCleaners.1 ∈ xws := xmem (List.mem_of_getElem? (i := 1186) (by decide +kernel)) rfl
theorem k_9_325 : Cond.methodLink (xown 9) 325 y_P_takePortions.1 ∈ xws := xmem (List.mem_of_getElem? (i := 1191) (by decide +kernel)) rfl
theorem k_9_329 : Cond.methodLink (xown 9) 329 y_P_cheapest.1 ∈ xws := xmem (List.mem_of_getElem? (i := 1197) (by decide +kernel)) rfl
theorem k_9_338 : Cond.methodLink (xown 9) 338 y_P_takeHindrances.1 ∈ xws := xmem (List.mem_of_getElem? (i := 1222) (by decide +kernel)) rfl
theorem k_9_341 : Cond.methodLink (xown 9) 341 y_P_partAir.1 ∈ xws := xmem (List.mem_of_getElem? (i := 1227) (by decide +kernel)) rfl
theorem k_9_351 : Cond.methodLink (xown 9) 351 y_P_clearLines.1 ∈ xws := xmem (List.mem_of_getElem? (i := 1242) (by decide +kernel)) rfl
theorem k_9_354 : Cond.methodLink (xown 9) 354 y_P_narrowLines.1 ∈ xws := xmem (List.mem_of_getElem? (i := 1246) (by decide +kernel)) rfl
theorem k_9_357 : Cond.methodLink (xown 9) 357 y_P_countLines.1 ∈ xws := xmem (List.mem_of_getElem? (i := 1252) (by decide +kernel)) rfl
theorem k_9_361 : Cond.methodLink (xown 9) 361 y_P_leastTold.1 ∈ xws := xmem (List.mem_of_getElem? (i := 1264) (by decide +kernel)) rfl
theorem k_9_364 : Cond.methodLink (xown 9) 364 y_P_mostTold.1 ∈ xws := xmem (List.mem_of_getElem? (i := 1268) (by decide +kernel)) rfl
theorem k_9_367 : Cond.methodLink (xown 9) 367 y_Y_hasPlace.1 ∈ xws := xmem (List.mem_of_getElem? (i := 516) (by decide +kernel)) rfl
theorem k_9_374 : Cond.methodLink (xown 9) 374 y_B_gather.1 ∈ xws := xmem (List.mem_of_getElem? (i := 956) (by decide +kernel)) rfl
theorem k_9_377 : Cond.methodLink (xown 9) 377 y_F_restart.1 ∈ xws := xmem (List.mem_of_getElem? (i := 970) (by decide +kernel)) rfl
theorem k_9_383 : Cond.methodLink (xown 9) 383 y_F_step.1 ∈ xws := xmem (List.mem_of_getElem? (i := 975) (by decide +kernel)) rfl
theorem k_10_1 : Cond.methodLink (xown 10) 1 Lib.objectInit ∈ xws := xmem (List.mem_of_getElem? (i := 1277) (by decide +kernel)) rfl
theorem k_10_250 : Cond.methodLink (xown 10) 250 y_M_isTray.1 ∈ xws := xmem (List.mem_of_getElem? (i := 1608) (by decide +kernel)) rfl
theorem k_10_254 : Cond.methodLink (xown 10) 254 y_M_is.1 ∈ xws := xmem (List.mem_of_getElem? (i := 1611) (by decide +kernel)) rfl
theorem k_10_257 : Cond.methodLink (xown 10) 257 y_M_wrongPlace.1 ∈ xws := xmem (List.mem_of_getElem? (i := 1619) (by decide +kernel)) rfl
theorem k_10_261 : Cond.methodLink (xown 10) 261 y_M_cut.1 ∈ xws := xmem (List.mem_of_getElem? (i := 1623) (by decide +kernel)) rfl
theorem k_10_270 : Cond.methodLink (xown 10) 270 y_M_four.1 ∈ xws := xmem (List.mem_of_getElem? (i := 1639) (by decide +kernel)) rfl
theorem k_10_280 : Cond.methodLink (xown 10) 280 y_M_byteAt.1 ∈ xws := xmem (List.mem_of_getElem? (i := 1659) (by decide +kernel)) rfl
theorem k_10_293 : Cond.methodLink (xown 10) 293 y_M_isSmall.1 ∈ xws := xmem (List.mem_of_getElem? (i := 1663) (by decide +kernel)) rfl
theorem k_10_296 : Cond.methodLink (xown 10) 296 y_M_isDigit.1 ∈ xws := xmem (List.mem_of_getElem? (i := 1666) (by decide +kernel)) rfl
theorem k_10_300 : Cond.methodLink (xown 10) 300 y_J_min.1 ∈ xws := xmem (List.mem_of_getElem? (i := 1670) (by decide +kernel)) rfl
theorem k_10_309 : Cond.methodLink (xown 10) 309 y_M_isLawSign.1 ∈ xws := xmem (List.mem_of_getElem? (i := 1671) (by decide +kernel)) rfl
theorem k_10_312 : Cond.methodLink (xown 10) 312 y_S_length.1 ∈ xws := xmem (List.mem_of_getElem? (i := 1679) (by decide +kernel)) rfl
theorem k_10_318 : Cond.methodLink (xown 10) 318 y_S_charAt.1 ∈ xws := xmem (List.mem_of_getElem? (i := 1680) (by decide +kernel)) rfl
theorem k_10_327 : Cond.methodLink (xown 10) 327 y_M_inWords.1 ∈ xws := xmem (List.mem_of_getElem? (i := 1675) (by decide +kernel)) rfl
theorem k_10_331 : Cond.methodLink (xown 10) 331 y_M_fails.1 ∈ xws := xmem (List.mem_of_getElem? (i := 1681) (by decide +kernel)) rfl
theorem k_10_334 : Cond.methodLink (xown 10) 334 y_M_next.1 ∈ xws := xmem (List.mem_of_getElem? (i := 1655) (by decide +kernel)) rfl
theorem k_10_337 : Cond.methodLink (xown 10) 337 y_M_isSign.1 ∈ xws := xmem (List.mem_of_getElem? (i := 1710) (by decide +kernel)) rfl
theorem k_10_351 : Cond.methodLink (xown 10) 351 y_M_cleanerOf.1 ∈ xws := xmem (List.mem_of_getElem? (i := 1698) (by decide +kernel)) rfl
theorem k_10_355 : Cond.methodLink (xown 10) 355 y_M_nameHere.1 ∈ xws := xmem (List.mem_of_getElem? (i := 1689) (by decide +kernel)) rfl
theorem k_10_359 : Cond.methodLink (xown 10) 359 y_M_isThere.1 ∈ xws := xmem (List.mem_of_getElem? (i := 1694) (by decide +kernel)) rfl
theorem k_10_363 : Cond.methodLink (xown 10) 363 y_M_wantKey.1 ∈ xws := xmem (List.mem_of_getElem? (i := 1702) (by decide +kernel)) rfl
theorem k_10_366 : Cond.methodLink (xown 10) 366 y_M_want.1 ∈ xws := xmem (List.mem_of_getElem? (i := 1706) (by decide +kernel)) rfl
theorem k_10_369 : Cond.methodLink (xown 10) 369 y_M_number.1 ∈ xws := xmem (List.mem_of_getElem? (i := 1714) (by decide +kernel)) rfl
theorem k_10_373 : Cond.methodLink (xown 10) 373 y_M_known.1 ∈ xws := xmem (List.mem_of_getElem? (i := 1722) (by decide +kernel)) rfl
theorem k_10_377 : Cond.methodLink (xown 10) 377 y_M_refuse.1 ∈ xws := xmem (List.mem_of_getElem? (i := 1647) (by decide +kernel)) rfl
theorem k_10_380 : Cond.methodLink (xown 10) 380 y_M_begin.1 ∈ xws := xmem (List.mem_of_getElem? (i := 1651) (by decide +kernel)) rfl
theorem k_10_384 : Cond.methodLink (xown 10) 384 y_M_makes.1 ∈ xws := xmem (List.mem_of_getElem? (i := 1685) (by decide +kernel)) rfl
theorem k_10_387 : Cond.methodLink (xown 10) 387 y_M_joins.1 ∈ xws := xmem (List.mem_of_getElem? (i := 1718) (by decide +kernel)) rfl
theorem k_10_390 : Cond.methodLink (xown 10) 390 y_M_worksAt.1 ∈ xws := xmem (List.mem_of_getElem? (i := 1726) (by decide +kernel)) rfl
theorem k_10_405 : Cond.methodLink (xown 10) 405 y_M_gives.1 ∈ xws := xmem (List.mem_of_getElem? (i := 1730) (by decide +kernel)) rfl
theorem k_10_411 : Cond.methodLink (xown 10) 411 y_M_puts.1 ∈ xws := xmem (List.mem_of_getElem? (i := 1746) (by decide +kernel)) rfl
theorem k_10_418 : Cond.methodLink (xown 10) 418 y_M_sum.1 ∈ xws := xmem (List.mem_of_getElem? (i := 1742) (by decide +kernel)) rfl
theorem k_10_421 : Cond.methodLink (xown 10) 421 y_M_law.1 ∈ xws := xmem (List.mem_of_getElem? (i := 1738) (by decide +kernel)) rfl
theorem k_10_430 : Cond.methodLink (xown 10) 430 y_M_isCleaner.1 ∈ xws := xmem (List.mem_of_getElem? (i := 1758) (by decide +kernel)) rfl
theorem k_10_433 : Cond.methodLink (xown 10) 433 y_M_isWorks.1 ∈ xws := xmem (List.mem_of_getElem? (i := 1766) (by decide +kernel)) rfl
theorem k_10_436 : Cond.methodLink (xown 10) 436 y_M_isHour.1 ∈ xws := xmem (List.mem_of_getElem? (i := 1774) (by decide +kernel)) rfl
theorem k_10_439 : Cond.methodLink (xown 10) 439 y_M_isSize.1 ∈ xws := xmem (List.mem_of_getElem? (i := 1777) (by decide +kernel)) rfl
theorem k_10_442 : Cond.methodLink (xown 10) 442 y_M_isKnown.1 ∈ xws := xmem (List.mem_of_getElem? (i := 1780) (by decide +kernel)) rfl
theorem k_10_448 : Cond.methodLink (xown 10) 448 y_M_hasLayer.1 ∈ xws := xmem (List.mem_of_getElem? (i := 1791) (by decide +kernel)) rfl
theorem k_10_451 : Cond.methodLink (xown 10) 451 y_M_happens.1 ∈ xws := xmem (List.mem_of_getElem? (i := 1795) (by decide +kernel)) rfl
theorem k_10_464 : Cond.methodLink (xown 10) 464 y_M_isOff.1 ∈ xws := xmem (List.mem_of_getElem? (i := 1843) (by decide +kernel)) rfl
theorem k_10_468 : Cond.methodLink (xown 10) 468 y_M_holesOf.1 ∈ xws := xmem (List.mem_of_getElem? (i := 1847) (by decide +kernel)) rfl
theorem k_10_471 : Cond.methodLink (xown 10) 471 y_J_max.1 ∈ xws := xmem (List.mem_of_getElem? (i := 1851) (by decide +kernel)) rfl
theorem k_10_474 : Cond.methodLink (xown 10) 474 y_M_portionsOf.1 ∈ xws := xmem (List.mem_of_getElem? (i := 1823) (by decide +kernel)) rfl
theorem k_10_478 : Cond.methodLink (xown 10) 478 y_M_isKnocked.1 ∈ xws := xmem (List.mem_of_getElem? (i := 1827) (by decide +kernel)) rfl
theorem k_10_481 : Cond.methodLink (xown 10) 481 y_M_knocked.1 ∈ xws := xmem (List.mem_of_getElem? (i := 1831) (by decide +kernel)) rfl
theorem k_10_484 : Cond.methodLink (xown 10) 484 y_M_layerOf.1 ∈ xws := xmem (List.mem_of_getElem? (i := 1835) (by decide +kernel)) rfl
theorem k_10_487 : Cond.methodLink (xown 10) 487 y_M_holdsNow.1 ∈ xws := xmem (List.mem_of_getElem? (i := 1839) (by decide +kernel)) rfl
theorem k_10_491 : Cond.methodLink (xown 10) 491 y_M_sends.1 ∈ xws := xmem (List.mem_of_getElem? (i := 1852) (by decide +kernel)) rfl
theorem k_10_495 : Cond.methodLink (xown 10) 495 y_M_hour.1 ∈ xws := xmem (List.mem_of_getElem? (i := 1819) (by decide +kernel)) rfl
theorem k_10_498 : Cond.methodLink (xown 10) 498 y_M_steps.1 ∈ xws := xmem (List.mem_of_getElem? (i := 1815) (by decide +kernel)) rfl
theorem k_10_501 : Cond.methodLink (xown 10) 501 y_M_upIn.1 ∈ xws := xmem (List.mem_of_getElem? (i := 1856) (by decide +kernel)) rfl
theorem k_10_504 : Cond.methodLink (xown 10) 504 y_M_work.1 ∈ xws := xmem (List.mem_of_getElem? (i := 1876) (by decide +kernel)) rfl
theorem k_10_508 : Cond.methodLink (xown 10) 508 y_M_breaks.1 ∈ xws := xmem (List.mem_of_getElem? (i := 1872) (by decide +kernel)) rfl
theorem k_10_511 : Cond.methodLink (xown 10) 511 y_M_explains.1 ∈ xws := xmem (List.mem_of_getElem? (i := 1888) (by decide +kernel)) rfl
theorem k_10_526 : Cond.methodLink (xown 10) 526 y_M_bits.1 ∈ xws := xmem (List.mem_of_getElem? (i := 1901) (by decide +kernel)) rfl
theorem k_10_534 : Cond.methodLink (xown 10) 534 y_M_isFrom.1 ∈ xws := xmem (List.mem_of_getElem? (i := 1915) (by decide +kernel)) rfl
theorem k_10_540 : Cond.methodLink (xown 10) 540 y_M_passes.1 ∈ xws := xmem (List.mem_of_getElem? (i := 1919) (by decide +kernel)) rfl
theorem k_10_543 : Cond.methodLink (xown 10) 543 y_M_hinders.1 ∈ xws := xmem (List.mem_of_getElem? (i := 1931) (by decide +kernel)) rfl
theorem k_10_549 : Cond.methodLink (xown 10) 549 y_J_abs.1 ∈ xws := xmem (List.mem_of_getElem? (i := 1945) (by decide +kernel)) rfl
theorem k_10_559 : Cond.methodLink (xown 10) 559 y_M_fits.1 ∈ xws := xmem (List.mem_of_getElem? (i := 1941) (by decide +kernel)) rfl
theorem k_11_9 : Cond.methodLink (xown 11) 9 y_X_init.1 ∈ xws := xmem (List.mem_of_getElem? (i := 23) (by decide +kernel)) rfl
theorem k_11_12 : Cond.methodLink (xown 11) 12 y_M_init.1 ∈ xws := xmem (List.mem_of_getElem? (i := 1274) (by decide +kernel)) rfl
theorem k_11_13 : Cond.methodLink (xown 11) 13 y_X_status.1 ∈ xws := xmem (List.mem_of_getElem? (i := 475) (by decide +kernel)) rfl
theorem k_11_17 : Cond.methodLink (xown 11) 17 y_M_status.1 ∈ xws := xmem (List.mem_of_getElem? (i := 1600) (by decide +kernel)) rfl
theorem k_11_18 : Cond.methodLink (xown 11) 18 y_X_tray.1 ∈ xws := xmem (List.mem_of_getElem? (i := 479) (by decide +kernel)) rfl
theorem k_11_22 : Cond.methodLink (xown 11) 22 y_M_tray.1 ∈ xws := xmem (List.mem_of_getElem? (i := 1604) (by decide +kernel)) rfl
theorem k_11_25 : Cond.methodLink (xown 11) 25 y_X_write.1 ∈ xws := xmem (List.mem_of_getElem? (i := 504) (by decide +kernel)) rfl
theorem k_11_29 : Cond.methodLink (xown 11) 29 y_M_write.1 ∈ xws := xmem (List.mem_of_getElem? (i := 1615) (by decide +kernel)) rfl
theorem k_11_30 : Cond.methodLink (xown 11) 30 y_X_read.1 ∈ xws := xmem (List.mem_of_getElem? (i := 527) (by decide +kernel)) rfl
theorem k_11_34 : Cond.methodLink (xown 11) 34 y_M_read.1 ∈ xws := xmem (List.mem_of_getElem? (i := 1626) (by decide +kernel)) rfl
theorem k_11_35 : Cond.methodLink (xown 11) 35 y_X_pour.1 ∈ xws := xmem (List.mem_of_getElem? (i := 539) (by decide +kernel)) rfl
theorem k_11_39 : Cond.methodLink (xown 11) 39 y_M_pour.1 ∈ xws := xmem (List.mem_of_getElem? (i := 1631) (by decide +kernel)) rfl
theorem k_11_40 : Cond.methodLink (xown 11) 40 y_X_feed.1 ∈ xws := xmem (List.mem_of_getElem? (i := 558) (by decide +kernel)) rfl
theorem k_11_44 : Cond.methodLink (xown 11) 44 y_M_feed.1 ∈ xws := xmem (List.mem_of_getElem? (i := 1635) (by decide +kernel)) rfl
theorem k_11_45 : Cond.methodLink (xown 11) 45 y_X_plant.1 ∈ xws := xmem (List.mem_of_getElem? (i := 570) (by decide +kernel)) rfl
theorem k_11_49 : Cond.methodLink (xown 11) 49 y_M_plant.1 ∈ xws := xmem (List.mem_of_getElem? (i := 1643) (by decide +kernel)) rfl
theorem k_11_50 : Cond.methodLink (xown 11) 50 y_X_laws.1 ∈ xws := xmem (List.mem_of_getElem? (i := 807) (by decide +kernel)) rfl
theorem k_11_53 : Cond.methodLink (xown 11) 53 y_M_laws.1 ∈ xws := xmem (List.mem_of_getElem? (i := 1734) (by decide +kernel)) rfl
theorem k_11_54 : Cond.methodLink (xown 11) 54 y_X_fault.1 ∈ xws := xmem (List.mem_of_getElem? (i := 853) (by decide +kernel)) rfl
theorem k_11_57 : Cond.methodLink (xown 11) 57 y_M_fault.1 ∈ xws := xmem (List.mem_of_getElem? (i := 1750) (by decide +kernel)) rfl
theorem k_11_58 : Cond.methodLink (xown 11) 58 y_X_cleaner.1 ∈ xws := xmem (List.mem_of_getElem? (i := 857) (by decide +kernel)) rfl
theorem k_11_62 : Cond.methodLink (xown 11) 62 y_M_cleaner.1 ∈ xws := xmem (List.mem_of_getElem? (i := 1754) (by decide +kernel)) rfl
theorem k_11_63 : Cond.methodLink (xown 11) 63 y_X_works.1 ∈ xws := xmem (List.mem_of_getElem? (i := 865) (by decide +kernel)) rfl
theorem k_11_66 : Cond.methodLink (xown 11) 66 y_M_works.1 ∈ xws := xmem (List.mem_of_getElem? (i := 1762) (by decide +kernel)) rfl
theorem k_11_67 : Cond.methodLink (xown 11) 67 y_X_row.1 ∈ xws := xmem (List.mem_of_getElem? (i := 873) (by decide +kernel)) rfl
theorem k_11_70 : Cond.methodLink (xown 11) 70 y_M_row.1 ∈ xws := xmem (List.mem_of_getElem? (i := 1770) (by decide +kernel)) rfl
theorem k_11_71 : Cond.methodLink (xown 11) 71 y_X_warmth.1 ∈ xws := xmem (List.mem_of_getElem? (i := 901) (by decide +kernel)) rfl
theorem k_11_75 : Cond.methodLink (xown 11) 75 y_M_warmth.1 ∈ xws := xmem (List.mem_of_getElem? (i := 1783) (by decide +kernel)) rfl
theorem k_11_76 : Cond.methodLink (xown 11) 76 y_X_knock.1 ∈ xws := xmem (List.mem_of_getElem? (i := 909) (by decide +kernel)) rfl
theorem k_11_79 : Cond.methodLink (xown 11) 79 y_M_knock.1 ∈ xws := xmem (List.mem_of_getElem? (i := 1787) (by decide +kernel)) rfl
theorem k_11_80 : Cond.methodLink (xown 11) 80 y_X_hole.1 ∈ xws := xmem (List.mem_of_getElem? (i := 925) (by decide +kernel)) rfl
theorem k_11_84 : Cond.methodLink (xown 11) 84 y_M_hole.1 ∈ xws := xmem (List.mem_of_getElem? (i := 1799) (by decide +kernel)) rfl
theorem k_11_85 : Cond.methodLink (xown 11) 85 y_X_off.1 ∈ xws := xmem (List.mem_of_getElem? (i := 929) (by decide +kernel)) rfl
theorem k_11_88 : Cond.methodLink (xown 11) 88 y_M_off.1 ∈ xws := xmem (List.mem_of_getElem? (i := 1803) (by decide +kernel)) rfl
theorem k_11_89 : Cond.methodLink (xown 11) 89 y_X_asof.1 ∈ xws := xmem (List.mem_of_getElem? (i := 933) (by decide +kernel)) rfl
theorem k_11_93 : Cond.methodLink (xown 11) 93 y_M_asof.1 ∈ xws := xmem (List.mem_of_getElem? (i := 1807) (by decide +kernel)) rfl
theorem k_11_94 : Cond.methodLink (xown 11) 94 y_X_up.1 ∈ xws := xmem (List.mem_of_getElem? (i := 941) (by decide +kernel)) rfl
theorem k_11_97 : Cond.methodLink (xown 11) 97 y_M_up.1 ∈ xws := xmem (List.mem_of_getElem? (i := 1811) (by decide +kernel)) rfl
theorem k_11_98 : Cond.methodLink (xown 11) 98 y_X_at.1 ∈ xws := xmem (List.mem_of_getElem? (i := 1038) (by decide +kernel)) rfl
theorem k_11_102 : Cond.methodLink (xown 11) 102 y_M_at.1 ∈ xws := xmem (List.mem_of_getElem? (i := 1860) (by decide +kernel)) rfl
theorem k_11_103 : Cond.methodLink (xown 11) 103 y_X_whose.1 ∈ xws := xmem (List.mem_of_getElem? (i := 1054) (by decide +kernel)) rfl
theorem k_11_107 : Cond.methodLink (xown 11) 107 y_M_whose.1 ∈ xws := xmem (List.mem_of_getElem? (i := 1864) (by decide +kernel)) rfl
theorem k_11_108 : Cond.methodLink (xown 11) 108 y_X_broken.1 ∈ xws := xmem (List.mem_of_getElem? (i := 1059) (by decide +kernel)) rfl
theorem k_11_111 : Cond.methodLink (xown 11) 111 y_M_broken.1 ∈ xws := xmem (List.mem_of_getElem? (i := 1868) (by decide +kernel)) rfl
theorem k_11_112 : Cond.methodLink (xown 11) 112 y_X_breach.1 ∈ xws := xmem (List.mem_of_getElem? (i := 1081) (by decide +kernel)) rfl
theorem k_11_115 : Cond.methodLink (xown 11) 115 y_M_breach.1 ∈ xws := xmem (List.mem_of_getElem? (i := 1880) (by decide +kernel)) rfl
theorem k_11_116 : Cond.methodLink (xown 11) 116 y_X_torn.1 ∈ xws := xmem (List.mem_of_getElem? (i := 1089) (by decide +kernel)) rfl
theorem k_11_119 : Cond.methodLink (xown 11) 119 y_M_torn.1 ∈ xws := xmem (List.mem_of_getElem? (i := 1884) (by decide +kernel)) rfl
theorem k_11_120 : Cond.methodLink (xown 11) 120 y_X_tornTold.1 ∈ xws := xmem (List.mem_of_getElem? (i := 1133) (by decide +kernel)) rfl
theorem k_11_123 : Cond.methodLink (xown 11) 123 y_M_tornTold.1 ∈ xws := xmem (List.mem_of_getElem? (i := 1892) (by decide +kernel)) rfl
theorem k_11_124 : Cond.methodLink (xown 11) 124 y_X_knocks.1 ∈ xws := xmem (List.mem_of_getElem? (i := 1137) (by decide +kernel)) rfl
theorem k_11_127 : Cond.methodLink (xown 11) 127 y_M_knocks.1 ∈ xws := xmem (List.mem_of_getElem? (i := 1896) (by decide +kernel)) rfl
theorem k_11_128 : Cond.methodLink (xown 11) 128 y_X_knockSet.1 ∈ xws := xmem (List.mem_of_getElem? (i := 1173) (by decide +kernel)) rfl
theorem k_11_131 : Cond.methodLink (xown 11) 131 y_M_knockSet.1 ∈ xws := xmem (List.mem_of_getElem? (i := 1904) (by decide +kernel)) rfl
theorem k_11_132 : Cond.methodLink (xown 11) 132 y_X_rowOf.1 ∈ xws := xmem (List.mem_of_getElem? (i := 1177) (by decide +kernel)) rfl
theorem k_11_135 : Cond.methodLink (xown 11) 135 y_M_rowOf.1 ∈ xws := xmem (List.mem_of_getElem? (i := 1908) (by decide +kernel)) rfl
theorem k_11_136 : Cond.methodLink (xown 11) 136 y_X_rowAt.1 ∈ xws := xmem (List.mem_of_getElem? (i := 1214) (by decide +kernel)) rfl
theorem k_11_139 : Cond.methodLink (xown 11) 139 y_M_rowAt.1 ∈ xws := xmem (List.mem_of_getElem? (i := 1923) (by decide +kernel)) rfl
theorem k_11_140 : Cond.methodLink (xown 11) 140 y_X_air.1 ∈ xws := xmem (List.mem_of_getElem? (i := 1218) (by decide +kernel)) rfl
theorem k_11_143 : Cond.methodLink (xown 11) 143 y_M_air.1 ∈ xws := xmem (List.mem_of_getElem? (i := 1927) (by decide +kernel)) rfl
theorem k_11_144 : Cond.methodLink (xown 11) 144 y_X_gauge.1 ∈ xws := xmem (List.mem_of_getElem? (i := 1236) (by decide +kernel)) rfl
theorem k_11_147 : Cond.methodLink (xown 11) 147 y_M_gauge.1 ∈ xws := xmem (List.mem_of_getElem? (i := 1935) (by decide +kernel)) rfl
theorem k_11_148 : Cond.methodLink (xown 11) 148 y_X_gaugeTold.1 ∈ xws := xmem (List.mem_of_getElem? (i := 1260) (by decide +kernel)) rfl
theorem k_11_151 : Cond.methodLink (xown 11) 151 y_M_gaugeTold.1 ∈ xws := xmem (List.mem_of_getElem? (i := 1948) (by decide +kernel)) rfl
theorem k_12_13 : Cond.methodLink (xown 12) 13 y_J_rangeCheck.1 ∈ xws := xmem (List.mem_of_getElem? (i := 497) (by decide +kernel)) rfl
theorem k_15_335 : Cond.methodLink (xown 15) 335 y_S_coder.1 ∈ xws := xmem (List.mem_of_getElem? (i := 601) (by decide +kernel)) rfl
theorem k_15_492 : Cond.methodLink (xown 15) 492 y_S_isLatin1.1 ∈ xws := xmem (List.mem_of_getElem? (i := 611) (by decide +kernel)) rfl
theorem k_15_495 : Cond.methodLink (xown 15) 495 y_Z_charAt.1 ∈ xws := xmem (List.mem_of_getElem? (i := 615) (by decide +kernel)) rfl
theorem k_15_505 : Cond.methodLink (xown 15) 505 y_S_length.1 ∈ xws := xmem (List.mem_of_getElem? (i := 661) (by decide +kernel)) rfl
theorem k_15_633 : Cond.methodLink (xown 15) 633 y_S_indexOf_III.1 ∈ xws := xmem (List.mem_of_getElem? (i := 657) (by decide +kernel)) rfl
theorem k_15_637 : Cond.methodLink (xown 15) 637 y_Z_indexOf.1 ∈ xws := xmem (List.mem_of_getElem? (i := 662) (by decide +kernel)) rfl
theorem k_15_1059 : Cond.methodLink (xown 15) 1059 y_J_checkIndex.1 ∈ xws := xmem (List.mem_of_getElem? (i := 623) (by decide +kernel)) rfl
theorem k_16_9 : Cond.methodLink (xown 16) 9 y_S_checkIndex.1 ∈ xws := xmem (List.mem_of_getElem? (i := 618) (by decide +kernel)) rfl
theorem k_16_38 : Cond.methodLink (xown 16) 38 y_J_min.1 ∈ xws := xmem (List.mem_of_getElem? (i := 671) (by decide +kernel)) rfl
theorem k_16_88 : Cond.methodLink (xown 16) 88 y_Z_canEncode.1 ∈ xws := xmem (List.mem_of_getElem? (i := 665) (by decide +kernel)) rfl
theorem k_16_92 : Cond.methodLink (xown 16) 92 y_J_max.1 ∈ xws := xmem (List.mem_of_getElem? (i := 668) (by decide +kernel)) rfl
theorem k_16_95 : Cond.methodLink (xown 16) 95 y_Z_indexOfChar.1 ∈ xws := xmem (List.mem_of_getElem? (i := 674) (by decide +kernel)) rfl
theorem k_objI : Cond.instanceMethod Lib.objectInit ∈ xws := xmem (List.mem_of_getElem? (i := 27) (by decide +kernel)) rfl
theorem k_objC : Cond.code Lib.objectInit ⟨#[0xb1]⟩ 1 none ∈ xws := xmem (List.mem_of_getElem? (i := 28) (by decide +kernel)) rfl
theorem k_acN : Cond.native arraycopyName ∈ xws := xmem (List.mem_of_getElem? (i := 557) (by decide +kernel)) rfl
theorem k_acS : Cond.static arraycopyName ∈ xws := xmem (List.mem_of_getElem? (i := 556) (by decide +kernel)) rfl
theorem k_acI : Cond.initialized "java/lang/System" ∈ xws := xmem (List.mem_of_getElem? (i := 13) (by decide +kernel)) rfl
theorem xar_20 : xar 20 0 := ⟨by decide, by decide⟩
theorem xar_21 : xar 21 0 := ⟨by decide, by decide⟩
theorem xar_22 : xar 22 0 := ⟨by decide, by decide⟩
theorem xar_23 : xar 23 0 := ⟨by decide, by decide⟩
theorem xar_24 : xar 24 1 := ⟨by decide, by decide⟩
theorem xar_25 : xar 25 0 := ⟨by decide, by decide⟩
theorem xar_26 : xar 26 0 := ⟨by decide, by decide⟩
theorem xar_27 : xar 27 0 := ⟨by decide, by decide⟩
theorem xar_28 : xar 28 1 := ⟨by decide, by decide⟩
theorem xar_29 : xar 29 0 := ⟨by decide, by decide⟩
theorem xar_30 : xar 30 0 := ⟨by decide, by decide⟩
theorem xar_31 : xar 31 0 := ⟨by decide, by decide⟩
theorem xar_32 : xar 32 1 := ⟨by decide, by decide⟩
theorem xar_33 : xar 33 0 := ⟨by decide, by decide⟩
theorem xar_34 : xar 34 0 := ⟨by decide, by decide⟩
theorem xar_35 : xar 35 0 := ⟨by decide, by decide⟩
theorem xar_36 : xar 36 1 := ⟨by decide, by decide⟩
theorem xar_37 : xar 37 3 := ⟨by decide, by decide⟩
theorem xar_38 : xar 38 0 := ⟨by decide, by decide⟩
theorem xar_39 : xar 39 2 := ⟨by decide, by decide⟩
theorem xar_40 : xar 40 1 := ⟨by decide, by decide⟩
theorem xar_41 : xar 41 0 := ⟨by decide, by decide⟩
theorem xar_42 : xar 42 1 := ⟨by decide, by decide⟩
theorem xar_43 : xar 43 0 := ⟨by decide, by decide⟩
theorem xix_20 {i : Int} (h : 0 ≤ i ∧ i < 200) : xidx i (xan 20) := h
theorem xix_21 {i : Int} (h : 0 ≤ i ∧ i < 40) : xidx i (xan 21) := h
theorem xix_22 {i : Int} (h : 0 ≤ i ∧ i < 48) : xidx i (xan 22) := h
theorem xix_23 {i : Int} (h : 0 ≤ i ∧ i < 768) : xidx i (xan 23) := h
theorem xix_24 {i : Int} (h : 0 ≤ i ∧ i < 8) : xidx i (xan 24) := h
theorem xix_25 {i : Int} (h : 0 ≤ i ∧ i < 384) : xidx i (xan 25) := h
theorem xix_26 {i : Int} (h : 0 ≤ i ∧ i < 192) : xidx i (xan 26) := h
theorem xix_27 {i : Int} (h : 0 ≤ i ∧ i < 32) : xidx i (xan 27) := h
theorem xix_28 {i : Int} (h : 0 ≤ i ∧ i < 24) : xidx i (xan 28) := h
theorem xix_29 {i : Int} (h : 0 ≤ i ∧ i < 6) : xidx i (xan 29) := h
theorem xix_30 {i : Int} (h : 0 ≤ i ∧ i < 8) : xidx i (xan 30) := h
theorem xix_31 {i : Int} (h : 0 ≤ i ∧ i < 600) : xidx i (xan 31) := h
theorem xix_32 {i : Int} (h : 0 ≤ i ∧ i < 32) : xidx i (xan 32) := h
theorem xix_33 {i : Int} (h : 0 ≤ i ∧ i < 35) : xidx i (xan 33) := h
theorem xix_34 {i : Int} (h : 0 ≤ i ∧ i < 4) : xidx i (xan 34) := h
theorem xix_35 {i : Int} (h : 0 ≤ i ∧ i < 100) : xidx i (xan 35) := h
theorem xix_36 {i : Int} (h : 0 ≤ i ∧ i < 4) : xidx i (xan 36) := h
theorem xix_37 {i : Int} (h : 0 ≤ i ∧ i < 8) : xidx i (xan 37) := h
theorem xix_38 {i : Int} (h : 0 ≤ i ∧ i < 64) : xidx i (xan 38) := h
theorem xix_39 {i : Int} (h : 0 ≤ i ∧ i < 600) : xidx i (xan 39) := h
theorem xix_40 {i : Int} (h : 0 ≤ i ∧ i < 240) : xidx i (xan 40) := h
theorem xix_41 {i : Int} (h : 0 ≤ i ∧ i < 700) : xidx i (xan 41) := h
theorem xix_42 {i : Int} (h : 0 ≤ i ∧ i < 700) : xidx i (xan 42) := h
theorem xix_43 {i : Int} (h : 0 ≤ i ∧ i < 10) : xidx i (xan 43) := h
