set_option maxRecDepth 100000 in
theorem xk_T_line : x_mok (⟨"CueBoard", "line", "(II)I"⟩, prog_1_method_2_code, 3, some .int, false, 2, 11, xc_T_line) := ⟨⟨572, 90, 570, 571, by decide +kernel⟩, by decide +kernel, x_none⟩
set_option maxRecDepth 100000 in
theorem xk_T_pull : x_mok (⟨"CueBoard", "pull", "(I)I"⟩, prog_1_method_3_code, 2, some .int, false, 1, 11, xc_T_pull) := ⟨⟨911, 90, 909, 910, by decide +kernel⟩, by decide +kernel, x_none⟩
set_option maxRecDepth 100000 in
theorem xk_T_plug : x_mok (⟨"CueBoard", "plug", "(I)I"⟩, prog_1_method_4_code, 2, some .int, false, 1, 11, xc_T_plug) := ⟨⟨915, 90, 913, 914, by decide +kernel⟩, by decide +kernel, x_none⟩
set_option maxRecDepth 100000 in
theorem xk_T_at : x_mok (⟨"CueBoard", "at", "(II)I"⟩, prog_1_method_5_code, 3, some .int, false, 2, 13, xc_T_at) := ⟨⟨919, 90, 917, 918, by decide +kernel⟩, by decide +kernel, x_none⟩
set_option maxRecDepth 100000 in
theorem xk_T_wide : x_mok (⟨"CueBoard", "wide", "(II)I"⟩, prog_1_method_6_code, 3, some .int, false, 2, 13, xc_T_wide) := ⟨⟨931, 90, 929, 930, by decide +kernel⟩, by decide +kernel, x_none⟩
set_option maxRecDepth 100000 in
theorem xk_T_fixture : x_mok (⟨"CueBoard", "fixture", "(II)I"⟩, prog_1_method_7_code, 3, some .int, false, 2, 11, xc_T_fixture) := ⟨⟨939, 90, 937, 938, by decide +kernel⟩, by decide +kernel, x_none⟩
set_option maxRecDepth 100000 in
theorem xk_T_group : x_mok (⟨"CueBoard", "group", "(II)I"⟩, prog_1_method_8_code, 3, some .int, false, 2, 11, xc_T_group) := ⟨⟨943, 90, 941, 942, by decide +kernel⟩, by decide +kernel, x_none⟩
set_option maxRecDepth 100000 in
theorem xk_T_member : x_mok (⟨"CueBoard", "member", "(III)I"⟩, prog_1_method_9_code, 4, some .int, false, 3, 11, xc_T_member) := ⟨⟨947, 90, 945, 946, by decide +kernel⟩, by decide +kernel, x_none⟩
set_option maxRecDepth 100000 in
theorem xk_T_memberAt : x_mok (⟨"CueBoard", "memberAt", "(II)I"⟩, prog_1_method_10_code, 3, some .int, false, 2, 13, xc_T_memberAt) := ⟨⟨951, 90, 949, 950, by decide +kernel⟩, by decide +kernel, x_none⟩
set_option maxRecDepth 100000 in
theorem xk_T_asks : x_mok (⟨"CueBoard", "asks", "(II)I"⟩, prog_1_method_11_code, 3, some .int, false, 2, 13, xc_T_asks) := ⟨⟨960, 90, 958, 959, by decide +kernel⟩, by decide +kernel, x_none⟩
set_option maxRecDepth 100000 in
theorem xk_T_trace : x_mok (⟨"CueBoard", "trace", "(I)I"⟩, prog_1_method_12_code, 2, some .int, false, 1, 12, xc_T_trace) := ⟨⟨981, 90, 979, 980, by decide +kernel⟩, by decide +kernel, x_none⟩
set_option maxRecDepth 100000 in
theorem xk_T_about : x_mok (⟨"CueBoard", "about", "(II)I"⟩, prog_1_method_13_code, 3, some .int, false, 2, 10, xc_T_about) := ⟨⟨989, 90, 987, 988, by decide +kernel⟩, by decide +kernel, x_none⟩
set_option maxRecDepth 100000 in
theorem xk_T_patch : x_mok (⟨"CueBoard", "patch", "(III)I"⟩, prog_1_method_14_code, 4, some .int, false, 3, 12, xc_T_patch) := ⟨⟨998, 90, 996, 997, by decide +kernel⟩, by decide +kernel, x_none⟩
set_option maxRecDepth 100000 in
theorem xk_T_unpatch : x_mok (⟨"CueBoard", "unpatch", "(I)I"⟩, prog_1_method_15_code, 2, some .int, false, 1, 12, xc_T_unpatch) := ⟨⟨1002, 90, 1000, 1001, by decide +kernel⟩, by decide +kernel, x_none⟩
set_option maxRecDepth 100000 in
theorem xk_T_firm : x_mok (⟨"CueBoard", "firm", "(IZ)I"⟩, prog_1_method_16_code, 3, some .int, false, 2, 20, xc_T_firm) := ⟨⟨1006, 90, 1004, 1005, by decide +kernel⟩, by decide +kernel, x_none⟩
set_option maxRecDepth 100000 in
theorem xk_T_point : x_mok (⟨"CueBoard", "point", "(III)I"⟩, prog_1_method_17_code, 4, some .int, false, 3, 12, xc_T_point) := ⟨⟨1010, 90, 1008, 1009, by decide +kernel⟩, by decide +kernel, x_none⟩
set_option maxRecDepth 100000 in
theorem xk_T_curve : x_mok (⟨"CueBoard", "curve", "(II)I"⟩, prog_1_method_18_code, 3, some .int, false, 2, 13, xc_T_curve) := ⟨⟨1014, 90, 1012, 1013, by decide +kernel⟩, by decide +kernel, x_none⟩
set_option maxRecDepth 100000 in
theorem xk_T_bend : x_mok (⟨"CueBoard", "bend", "(III)I"⟩, prog_1_method_19_code, 4, some .int, false, 3, 12, xc_T_bend) := ⟨⟨1033, 90, 1031, 1032, by decide +kernel⟩, by decide +kernel, x_none⟩
set_option maxRecDepth 100000 in
theorem xk_T_entry : x_mok (⟨"CueBoard", "entry", "(IIIII)I"⟩, prog_1_method_20_code, 6, some .int, false, 5, 14, xc_T_entry) := ⟨⟨1037, 90, 1035, 1036, by decide +kernel⟩, by decide +kernel, x_none⟩
set_option maxRecDepth 100000 in
theorem xk_T_list : x_mok (⟨"CueBoard", "list", "(III)I"⟩, prog_1_method_21_code, 4, some .int, false, 3, 12, xc_T_list) := ⟨⟨1041, 90, 1039, 1040, by decide +kernel⟩, by decide +kernel, x_none⟩
set_option maxRecDepth 100000 in
theorem xk_T_load : x_mok (⟨"CueBoard", "load", "(II)I"⟩, prog_1_method_22_code, 3, some .int, false, 2, 12, xc_T_load) := ⟨⟨1045, 90, 1043, 1044, by decide +kernel⟩, by decide +kernel, x_none⟩
set_option maxRecDepth 100000 in
theorem xk_T_go : x_mok (⟨"CueBoard", "go", "(I)I"⟩, prog_1_method_23_code, 2, some .int, false, 1, 12, xc_T_go) := ⟨⟨1049, 90, 1047, 1048, by decide +kernel⟩, by decide +kernel, x_none⟩
set_option maxRecDepth 100000 in
theorem xk_T_stop : x_mok (⟨"CueBoard", "stop", "(I)I"⟩, prog_1_method_24_code, 2, some .int, false, 1, 12, xc_T_stop) := ⟨⟨1053, 90, 1051, 1052, by decide +kernel⟩, by decide +kernel, x_none⟩
set_option maxRecDepth 100000 in
theorem xk_T_release : x_mok (⟨"CueBoard", "release", "(I)I"⟩, prog_1_method_25_code, 2, some .int, false, 1, 12, xc_T_release) := ⟨⟨1057, 90, 1055, 1056, by decide +kernel⟩, by decide +kernel, x_none⟩
set_option maxRecDepth 100000 in
theorem xk_T_master : x_mok (⟨"CueBoard", "master", "(II)I"⟩, prog_1_method_26_code, 3, some .int, false, 2, 12, xc_T_master) := ⟨⟨1061, 90, 1059, 1060, by decide +kernel⟩, by decide +kernel, x_none⟩
set_option maxRecDepth 100000 in
theorem xk_T_merge : x_mok (⟨"CueBoard", "merge", "(IIZ)I"⟩, prog_1_method_27_code, 4, some .int, false, 3, 20, xc_T_merge) := ⟨⟨1065, 90, 1063, 1064, by decide +kernel⟩, by decide +kernel, x_none⟩
set_option maxRecDepth 100000 in
theorem xk_T_value : x_mok (⟨"CueBoard", "value", "(III)I"⟩, prog_1_method_28_code, 4, some .int, false, 3, 11, xc_T_value) := ⟨⟨1069, 90, 1067, 1068, by decide +kernel⟩, by decide +kernel, x_none⟩
set_option maxRecDepth 100000 in
theorem xk_T_playback : x_mok (⟨"CueBoard", "playback", "(II)I"⟩, prog_1_method_29_code, 3, some .int, false, 2, 10, xc_T_playback) := ⟨⟨1078, 90, 1076, 1077, by decide +kernel⟩, by decide +kernel, x_none⟩
set_option maxRecDepth 100000 in
theorem xk_T_limit : x_mok (⟨"CueBoard", "limit", "(II)I"⟩, prog_1_method_30_code, 3, some .int, false, 2, 12, xc_T_limit) := ⟨⟨1086, 90, 1084, 1085, by decide +kernel⟩, by decide +kernel, x_none⟩
set_option maxRecDepth 100000 in
theorem xk_T_heat : x_mok (⟨"CueBoard", "heat", "(I)I"⟩, prog_1_method_31_code, 2, some .int, false, 1, 12, xc_T_heat) := ⟨⟨1090, 90, 1088, 1089, by decide +kernel⟩, by decide +kernel, x_none⟩
set_option maxRecDepth 100000 in
theorem xk_T_over : x_mok (⟨"CueBoard", "over", "(I)I"⟩, prog_1_method_32_code, 2, some .int, false, 1, 12, xc_T_over) := ⟨⟨1098, 90, 1096, 1097, by decide +kernel⟩, by decide +kernel, x_none⟩
set_option maxRecDepth 100000 in
theorem xk_T_blackout : x_mok (⟨"CueBoard", "blackout", "(Z)I"⟩, prog_1_method_33_code, 2, some .int, false, 1, 20, xc_T_blackout) := ⟨⟨1106, 90, 1104, 1105, by decide +kernel⟩, by decide +kernel, x_none⟩
set_option maxRecDepth 100000 in
theorem xk_T_tick : x_mok (⟨"CueBoard", "tick", "(I)I"⟩, prog_1_method_34_code, 2, some .int, false, 1, 12, xc_T_tick) := ⟨⟨1110, 90, 1108, 1109, by decide +kernel⟩, by decide +kernel, x_none⟩
set_option maxRecDepth 100000 in
theorem xk_T_found : x_mok (⟨"CueBoard", "found", "(I)I"⟩, prog_1_method_35_code, 2, some .int, false, 1, 12, xc_T_found) := ⟨⟨1114, 90, 1112, 1113, by decide +kernel⟩, by decide +kernel, x_none⟩
set_option maxRecDepth 100000 in
theorem xk_T_digest : x_mok (⟨"CueBoard", "digest", "()I"⟩, prog_1_method_36_code, 1, some .int, false, 0, 8, xc_T_digest) := ⟨⟨1122, 90, 1120, 1121, by decide +kernel⟩, by decide +kernel, x_none⟩
set_option maxRecDepth 100000 in
theorem xk_T_replay : x_mok (⟨"CueBoard", "replay", "()I"⟩, prog_1_method_37_code, 1, some .int, false, 0, 29, xc_T_replay) := ⟨⟨1126, 90, 1124, 1125, by decide +kernel⟩, by decide +kernel, x_none⟩
set_option maxRecDepth 100000 in
theorem xk_T_back : x_mok (⟨"CueBoard", "back", "(I)I"⟩, prog_1_method_38_code, 2, some .int, false, 1, 69, xc_T_back) := ⟨⟨1140, 90, 1138, 1139, by decide +kernel⟩, by decide +kernel, x_none⟩
set_option maxRecDepth 100000 in
theorem xk_T_told : x_mok (⟨"CueBoard", "told", "(I)I"⟩, prog_1_method_39_code, 2, some .int, false, 1, 96, xc_T_told) := ⟨⟨1148, 90, 1146, 1147, by decide +kernel⟩, by decide +kernel, x_none⟩
set_option maxRecDepth 100000 in
theorem xk_T_enact : x_mok (⟨"CueBoard", "enact", "(IIIIII)I"⟩, prog_1_method_40_code, 8, some .int, false, 6, 42, xc_T_enact) := ⟨⟨576, 90, 575, 0, by decide +kernel⟩, by decide +kernel, x_none⟩
set_option maxRecDepth 100000 in
theorem xk_T_playOn : x_mok (⟨"CueBoard", "playOn", "(LCueBoard$Board;)V"⟩, prog_1_method_41_code, 6, none, false, 1, 90, xc_T_playOn) := ⟨⟨1134, 90, 1133, 31, by decide +kernel⟩, by decide +kernel, x_none⟩
set_option maxRecDepth 100000 in
theorem xk_B_clear : x_mok (⟨"CueBoard$Board", "clear", "()V"⟩, prog_2_method_2_code, 2, none, false, 0, 87, xc_B_clear) := ⟨⟨463, 92, 461, 462, by decide +kernel⟩, by decide +kernel, x_none⟩
set_option maxRecDepth 100000 in
theorem xk_B_perform : x_mok (⟨"CueBoard$Board", "perform", "(IIIIII)I"⟩, prog_2_method_3_code, 7, some .int, false, 6, 343, xc_B_perform) := ⟨⟨580, 92, 578, 579, by decide +kernel⟩, by decide +kernel, x_none⟩
set_option maxRecDepth 100000 in
theorem xk_B_isPlayback : x_mok (⟨"CueBoard$Board", "isPlayback", "(I)Z"⟩, prog_2_method_4_code, 1, some .boolean, true, 1, 15, xc_B_isPlayback) := ⟨⟨728, 92, 727, 0, by decide +kernel⟩, by decide +kernel, x_none⟩
set_option maxRecDepth 100000 in
theorem xk_B_tellOfFixture : x_mok (⟨"CueBoard$Board", "tellOfFixture", "(II)I"⟩, prog_2_method_5_code, 3, some .int, false, 2, 109, xc_B_tellOfFixture) := ⟨⟨993, 92, 991, 992, by decide +kernel⟩, by decide +kernel, x_none⟩
set_option maxRecDepth 100000 in
theorem xk_B_tellOfPlayback : x_mok (⟨"CueBoard$Board", "tellOfPlayback", "(II)I"⟩, prog_2_method_6_code, 3, some .int, false, 2, 125, xc_B_tellOfPlayback) := ⟨⟨1082, 92, 1080, 1081, by decide +kernel⟩, by decide +kernel, x_none⟩
set_option maxRecDepth 100000 in
theorem xk_B_valueIn : x_mok (⟨"CueBoard$Board", "valueIn", "(III)I"⟩, prog_2_method_7_code, 5, some .int, false, 3, 88, xc_B_valueIn) := ⟨⟨1073, 92, 1071, 1072, by decide +kernel⟩, by decide +kernel, x_none⟩
set_option maxRecDepth 100000 in
theorem xk_B_loadList : x_mok (⟨"CueBoard$Board", "loadList", "(II)I"⟩, prog_2_method_8_code, 3, some .int, false, 2, 34, xc_B_loadList) := ⟨⟨725, 92, 724, 8, by decide +kernel⟩, by decide +kernel, x_none⟩
set_option maxRecDepth 100000 in
theorem xk_B_goOn : x_mok (⟨"CueBoard$Board", "goOn", "(I)I"⟩, prog_2_method_9_code, 3, some .int, false, 1, 81, xc_B_goOn) := ⟨⟨734, 92, 733, 9, by decide +kernel⟩, by decide +kernel, x_none⟩
set_option maxRecDepth 100000 in
theorem xk_B_stopFades : x_mok (⟨"CueBoard$Board", "stopFades", "(I)I"⟩, prog_2_method_10_code, 3, some .int, false, 1, 31, xc_B_stopFades) := ⟨⟨776, 92, 775, 13, by decide +kernel⟩, by decide +kernel, x_none⟩
set_option maxRecDepth 100000 in
theorem xk_B_letGo : x_mok (⟨"CueBoard$Board", "letGo", "(I)I"⟩, prog_2_method_11_code, 3, some .int, false, 1, 40, xc_B_letGo) := ⟨⟨784, 92, 783, 14, by decide +kernel⟩, by decide +kernel, x_none⟩
set_option maxRecDepth 100000 in
theorem xk_B_setMaster : x_mok (⟨"CueBoard$Board", "setMaster", "(II)I"⟩, prog_2_method_12_code, 4, some .int, false, 2, 71, xc_B_setMaster) := ⟨⟨790, 92, 789, 15, by decide +kernel⟩, by decide +kernel, x_none⟩
set_option maxRecDepth 100000 in
theorem xk_B_runTicks : x_mok (⟨"CueBoard$Board", "runTicks", "(I)I"⟩, prog_2_method_13_code, 4, some .int, false, 1, 192, xc_B_runTicks) := ⟨⟨806, 92, 805, 16, by decide +kernel⟩, by decide +kernel, x_none⟩
set_option maxRecDepth 100000 in
theorem xk_B_isFollowedNow : x_mok (⟨"CueBoard$Board", "isFollowedNow", "(LCueBoard$Playback;)Z"⟩, prog_2_method_14_code, 3, some .boolean, false, 1, 50, xc_B_isFollowedNow) := ⟨⟨817, 92, 816, 17, by decide +kernel⟩, by decide +kernel, x_none⟩
set_option maxRecDepth 100000 in
theorem xk_B_startNext : x_mok (⟨"CueBoard$Board", "startNext", "(LCueBoard$Playback;)V"⟩, prog_2_method_15_code, 4, none, false, 1, 59, xc_B_startNext) := ⟨⟨742, 92, 741, 10, by decide +kernel⟩, by decide +kernel, x_none⟩
set_option maxRecDepth 100000 in
theorem xk_B_startEntry : x_mok (⟨"CueBoard$Board", "startEntry", "(LCueBoard$Playback;I)V"⟩, prog_2_method_16_code, 9, none, false, 2, 157, xc_B_startEntry) := ⟨⟨755, 92, 754, 11, by decide +kernel⟩, by decide +kernel, x_none⟩
set_option maxRecDepth 100000 in
theorem xk_K_isExceeded : x_mok (⟨"CueBoard$Book", "isExceeded", "()Z"⟩, prog_3_method_2_code, 1, some .boolean, false, 0, 15, xc_K_isExceeded) := ⟨⟨1130, 91, 1128, 1129, by decide +kernel⟩, by decide +kernel, x_none⟩
set_option maxRecDepth 100000 in
theorem xk_K_write : x_mok (⟨"CueBoard$Book", "write", "(IIIIII)V"⟩, prog_3_method_3_code, 8, none, false, 6, 94, xc_K_write) := ⟨⟨906, 91, 904, 905, by decide +kernel⟩, by decide +kernel, x_none⟩
set_option maxRecDepth 100000 in
theorem xk_K_cutBehind : x_mok (⟨"CueBoard$Book", "cutBehind", "(I)V"⟩, prog_3_method_4_code, 5, none, false, 1, 77, xc_K_cutBehind) := ⟨⟨1144, 91, 1142, 1143, by decide +kernel⟩, by decide +kernel, x_none⟩
set_option maxRecDepth 100000 in
theorem xk_Q_clear : x_mok (⟨"CueBoard$Cues", "clear", "()V"⟩, prog_4_method_2_code, 1, none, false, 0, 17, xc_Q_clear) := ⟨⟨494, 98, 492, 493, by decide +kernel⟩, by decide +kernel, x_none⟩
set_option maxRecDepth 100000 in
theorem xk_Q_isList : x_mok (⟨"CueBoard$Cues", "isList", "(I)Z"⟩, prog_4_method_3_code, 1, some .boolean, true, 1, 15, xc_Q_isList) := ⟨⟨721, 98, 720, 0, by decide +kernel⟩, by decide +kernel, x_none⟩
set_option maxRecDepth 100000 in
theorem xk_Q_isCue : x_mok (⟨"CueBoard$Cues", "isCue", "(I)Z"⟩, prog_4_method_4_code, 1, some .boolean, true, 1, 16, xc_Q_isCue) := ⟨⟨711, 98, 710, 0, by decide +kernel⟩, by decide +kernel, x_none⟩
set_option maxRecDepth 100000 in
theorem xk_Q_addEntry : x_mok (⟨"CueBoard$Cues", "addEntry", "(IIIII)I"⟩, prog_4_method_5_code, 7, some .int, false, 5, 133, xc_Q_addEntry) := ⟨⟨708, 98, 706, 707, by decide +kernel⟩, by decide +kernel, x_none⟩
set_option maxRecDepth 100000 in
theorem xk_Q_addStep : x_mok (⟨"CueBoard$Cues", "addStep", "(III)I"⟩, prog_4_method_6_code, 5, some .int, false, 3, 87, xc_Q_addStep) := ⟨⟨718, 98, 716, 717, by decide +kernel⟩, by decide +kernel, x_none⟩
set_option maxRecDepth 100000 in
theorem xk_Q_hasStep : x_mok (⟨"CueBoard$Cues", "hasStep", "(II)Z"⟩, prog_4_method_7_code, 3, some .boolean, false, 2, 29, xc_Q_hasStep) := ⟨⟨738, 98, 736, 737, by decide +kernel⟩, by decide +kernel, x_none⟩
set_option maxRecDepth 100000 in
theorem xk_Q_cueAt : x_mok (⟨"CueBoard$Cues", "cueAt", "(II)I"⟩, prog_4_method_8_code, 3, some .int, false, 2, 25, xc_Q_cueAt) := ⟨⟨750, 98, 748, 749, by decide +kernel⟩, by decide +kernel, x_none⟩
set_option maxRecDepth 100000 in
theorem xk_Q_followAt : x_mok (⟨"CueBoard$Cues", "followAt", "(II)I"⟩, prog_4_method_9_code, 3, some .int, false, 2, 25, xc_Q_followAt) := ⟨⟨821, 98, 819, 820, by decide +kernel⟩, by decide +kernel, x_none⟩
set_option maxRecDepth 100000 in
theorem xk_V_clear : x_mok (⟨"CueBoard$Curves", "clear", "()V"⟩, prog_5_method_2_code, 1, none, false, 0, 9, xc_V_clear) := ⟨⟨489, 97, 487, 488, by decide +kernel⟩, by decide +kernel, x_none⟩
set_option maxRecDepth 100000 in
theorem xk_V_isCurve : x_mok (⟨"CueBoard$Curves", "isCurve", "(I)Z"⟩, prog_5_method_3_code, 1, some .boolean, true, 1, 15, xc_V_isCurve) := ⟨⟨677, 97, 676, 0, by decide +kernel⟩, by decide +kernel, x_none⟩
set_option maxRecDepth 100000 in
theorem xk_V_add : x_mok (⟨"CueBoard$Curves", "add", "(III)I"⟩, prog_5_method_4_code, 5, some .int, false, 3, 161, xc_V_add) := ⟨⟨674, 97, 672, 673, by decide +kernel⟩, by decide +kernel, x_none⟩
set_option maxRecDepth 100000 in
theorem xk_V_bitsAt : x_mok (⟨"CueBoard$Curves", "bitsAt", "(II)I"⟩, prog_5_method_5_code, 4, some .int, false, 2, 101, xc_V_bitsAt) := ⟨⟨1018, 97, 1016, 1017, by decide +kernel⟩, by decide +kernel, x_none⟩
set_option maxRecDepth 100000 in
theorem xk_V_bentAt : x_mok (⟨"CueBoard$Curves", "bentAt", "(III)I"⟩, prog_5_method_6_code, 5, some .int, false, 3, 63, xc_V_bentAt) := ⟨⟨844, 97, 842, 843, by decide +kernel⟩, by decide +kernel, x_none⟩
set_option maxRecDepth 100000 in
theorem xk_V_seek : x_mok (⟨"CueBoard$Curves", "seek", "(II)V"⟩, prog_5_method_7_code, 6, none, false, 2, 95, xc_V_seek) := ⟨⟨848, 97, 847, 19, by decide +kernel⟩, by decide +kernel, x_none⟩
set_option maxRecDepth 100000 in
theorem xk_V_isHole : x_mok (⟨"CueBoard$Curves", "isHole", "()Z"⟩, prog_5_method_8_code, 1, some .boolean, false, 0, 30, xc_V_isHole) := ⟨⟨852, 97, 851, 20, by decide +kernel⟩, by decide +kernel, x_none⟩
set_option maxRecDepth 100000 in
theorem xk_V_height : x_mok (⟨"CueBoard$Curves", "height", "(I)F"⟩, prog_5_method_9_code, 4, some .float, false, 1, 82, xc_V_height) := ⟨⟨856, 97, 855, 21, by decide +kernel⟩, by decide +kernel, x_none⟩
set_option maxRecDepth 100000 in
theorem xk_V_fadesBelowZero : x_mok (⟨"CueBoard$Curves", "fadesBelowZero", "()Z"⟩, prog_5_method_10_code, 1, some .boolean, false, 0, 34, xc_V_fadesBelowZero) := ⟨⟨1029, 97, 1028, 30, by decide +kernel⟩, by decide +kernel, x_none⟩
set_option maxRecDepth 100000 in
theorem xk_V_floatOf : x_mok (⟨"CueBoard$Curves", "floatOf", "(I)F"⟩, prog_5_method_11_code, 5, some .float, true, 1, 87, xc_V_floatOf) := ⟨⟨682, 97, 681, 0, by decide +kernel⟩, by decide +kernel, x_none⟩
set_option maxRecDepth 100000 in
theorem xk_V_bitsOf : x_mok (⟨"CueBoard$Curves", "bitsOf", "(F)I"⟩, prog_5_method_12_code, 5, some .int, true, 1, 118, xc_V_bitsOf) := ⟨⟨1021, 97, 1020, 0, by decide +kernel⟩, by decide +kernel, x_none⟩
set_option maxRecDepth 100000 in
theorem xk_F_clear : x_mok (⟨"CueBoard$Findings", "clear", "()V"⟩, prog_6_method_2_code, 1, none, false, 0, 9, xc_F_clear) := ⟨⟨467, 93, 465, 466, by decide +kernel⟩, by decide +kernel, x_none⟩
set_option maxRecDepth 100000 in
theorem xk_F_note : x_mok (⟨"CueBoard$Findings", "note", "(I)I"⟩, prog_6_method_3_code, 2, some .int, false, 1, 26, xc_F_note) := ⟨⟨591, 93, 589, 590, by decide +kernel⟩, by decide +kernel, x_none⟩
set_option maxRecDepth 100000 in
theorem xk_F_countOf : x_mok (⟨"CueBoard$Findings", "countOf", "(I)I"⟩, prog_6_method_4_code, 2, some .int, false, 1, 23, xc_F_countOf) := ⟨⟨1118, 93, 1116, 1117, by decide +kernel⟩, by decide +kernel, x_none⟩
set_option maxRecDepth 100000 in
theorem xk_L_clear : x_mok (⟨"CueBoard$Lines", "clear", "()V"⟩, prog_7_method_2_code, 2, none, false, 0, 61, xc_L_clear) := ⟨⟨474, 94, 472, 473, by decide +kernel⟩, by decide +kernel, x_none⟩
set_option maxRecDepth 100000 in
theorem xk_L_isLine : x_mok (⟨"CueBoard$Lines", "isLine", "(I)Z"⟩, prog_7_method_3_code, 1, some .boolean, true, 1, 15, xc_L_isLine) := ⟨⟨587, 94, 586, 0, by decide +kernel⟩, by decide +kernel, x_none⟩
set_option maxRecDepth 100000 in
theorem xk_L_reaches : x_mok (⟨"CueBoard$Lines", "reaches", "(II)Z"⟩, prog_7_method_4_code, 3, some .boolean, false, 2, 20, xc_L_reaches) := ⟨⟨927, 94, 925, 926, by decide +kernel⟩, by decide +kernel, x_none⟩
set_option maxRecDepth 100000 in
theorem xk_L_tell : x_mok (⟨"CueBoard$Lines", "tell", "(II)I"⟩, prog_7_method_5_code, 3, some .int, false, 2, 50, xc_L_tell) := ⟨⟨584, 94, 582, 583, by decide +kernel⟩, by decide +kernel, x_none⟩
set_option maxRecDepth 100000 in
theorem xk_L_pullOut : x_mok (⟨"CueBoard$Lines", "pullOut", "(I)I"⟩, prog_7_method_6_code, 2, some .int, false, 1, 31, xc_L_pullOut) := ⟨⟨599, 94, 597, 598, by decide +kernel⟩, by decide +kernel, x_none⟩
set_option maxRecDepth 100000 in
theorem xk_L_plugIn : x_mok (⟨"CueBoard$Lines", "plugIn", "(I)I"⟩, prog_7_method_7_code, 2, some .int, false, 1, 46, xc_L_plugIn) := ⟨⟨603, 94, 601, 602, by decide +kernel⟩, by decide +kernel, x_none⟩
set_option maxRecDepth 100000 in
theorem xk_L_byteAt : x_mok (⟨"CueBoard$Lines", "byteAt", "(II)I"⟩, prog_7_method_8_code, 3, some .int, false, 2, 60, xc_L_byteAt) := ⟨⟨923, 94, 921, 922, by decide +kernel⟩, by decide +kernel, x_none⟩
set_option maxRecDepth 100000 in
theorem xk_L_wordAt : x_mok (⟨"CueBoard$Lines", "wordAt", "(II)I"⟩, prog_7_method_9_code, 3, some .int, false, 2, 87, xc_L_wordAt) := ⟨⟨935, 94, 933, 934, by decide +kernel⟩, by decide +kernel, x_none⟩
set_option maxRecDepth 100000 in
theorem xk_L_setLimit : x_mok (⟨"CueBoard$Lines", "setLimit", "(II)I"⟩, prog_7_method_10_code, 3, some .int, false, 2, 29, xc_L_setLimit) := ⟨⟨798, 94, 796, 797, by decide +kernel⟩, by decide +kernel, x_none⟩
set_option maxRecDepth 100000 in
theorem xk_L_heatOf : x_mok (⟨"CueBoard$Lines", "heatOf", "(I)I"⟩, prog_7_method_11_code, 2, some .int, false, 1, 19, xc_L_heatOf) := ⟨⟨1094, 94, 1092, 1093, by decide +kernel⟩, by decide +kernel, x_none⟩
set_option maxRecDepth 100000 in
theorem xk_L_overOf : x_mok (⟨"CueBoard$Lines", "overOf", "(I)I"⟩, prog_7_method_12_code, 2, some .int, false, 1, 25, xc_L_overOf) := ⟨⟨1102, 94, 1100, 1101, by decide +kernel⟩, by decide +kernel, x_none⟩
set_option maxRecDepth 100000 in
theorem xk_L_blank : x_mok (⟨"CueBoard$Lines", "blank", "(I)V"⟩, prog_7_method_13_code, 3, none, false, 1, 31, xc_L_blank) := ⟨⟨595, 94, 594, 1, by decide +kernel⟩, by decide +kernel, x_none⟩
set_option maxRecDepth 100000 in
theorem xk_L_blankPlugged : x_mok (⟨"CueBoard$Lines", "blankPlugged", "()V"⟩, prog_7_method_14_code, 2, none, false, 0, 28, xc_L_blankPlugged) := ⟨⟨890, 94, 888, 889, by decide +kernel⟩, by decide +kernel, x_none⟩
set_option maxRecDepth 100000 in
theorem xk_L_addTo : x_mok (⟨"CueBoard$Lines", "addTo", "(I)I"⟩, prog_7_method_15_code, 5, some .int, false, 1, 64, xc_L_addTo) := ⟨⟨902, 94, 900, 901, by decide +kernel⟩, by decide +kernel, x_none⟩
set_option maxRecDepth 100000 in
theorem xk_X_clear : x_mok (⟨"CueBoard$Mixer", "clear", "()V"⟩, prog_8_method_2_code, 2, none, false, 0, 64, xc_X_clear) := ⟨⟨499, 99, 497, 498, by decide +kernel⟩, by decide +kernel, x_none⟩
set_option maxRecDepth 100000 in
theorem xk_X_setCurve : x_mok (⟨"CueBoard$Mixer", "setCurve", "(III)I"⟩, prog_8_method_3_code, 4, some .int, false, 3, 79, xc_X_setCurve) := ⟨⟨690, 99, 688, 689, by decide +kernel⟩, by decide +kernel, x_none⟩
set_option maxRecDepth 100000 in
theorem xk_X_setMerge : x_mok (⟨"CueBoard$Mixer", "setMerge", "(IIZ)I"⟩, prog_8_method_4_code, 4, some .int, false, 3, 55, xc_X_setMerge) := ⟨⟨794, 99, 792, 793, by decide +kernel⟩, by decide +kernel, x_none⟩
set_option maxRecDepth 100000 in
theorem xk_X_setDark : x_mok (⟨"CueBoard$Mixer", "setDark", "(Z)I"⟩, prog_8_method_5_code, 3, some .int, false, 1, 20, xc_X_setDark) := ⟨⟨802, 99, 800, 801, by decide +kernel⟩, by decide +kernel, x_none⟩
set_option maxRecDepth 100000 in
theorem xk_X_reckonLevels : x_mok (⟨"CueBoard$Mixer", "reckonLevels", "()V"⟩, prog_8_method_6_code, 7, none, false, 0, 184, xc_X_reckonLevels) := ⟨⟨829, 99, 827, 828, by decide +kernel⟩, by decide +kernel, x_none⟩
set_option maxRecDepth 100000 in
theorem xk_X_isWhole : x_mok (⟨"CueBoard$Mixer", "isWhole", "(II)Z"⟩, prog_8_method_7_code, 4, some .boolean, false, 2, 47, xc_X_isWhole) := ⟨⟨862, 99, 861, 22, by decide +kernel⟩, by decide +kernel, x_none⟩
set_option maxRecDepth 100000 in
theorem xk_X_merged : x_mok (⟨"CueBoard$Mixer", "merged", "(IZ)I"⟩, prog_8_method_8_code, 10, some .int, false, 2, 113, xc_X_merged) := ⟨⟨837, 99, 836, 18, by decide +kernel⟩, by decide +kernel, x_none⟩
set_option maxRecDepth 100000 in
theorem xk_X_coolLines : x_mok (⟨"CueBoard$Mixer", "coolLines", "()V"⟩, prog_8_method_9_code, 3, none, false, 0, 77, xc_X_coolLines) := ⟨⟨870, 99, 868, 869, by decide +kernel⟩, by decide +kernel, x_none⟩
set_option maxRecDepth 100000 in
theorem xk_X_heatOn : x_mok (⟨"CueBoard$Mixer", "heatOn", "(I)I"⟩, prog_8_method_10_code, 6, some .int, false, 1, 133, xc_X_heatOn) := ⟨⟨874, 99, 873, 23, by decide +kernel⟩, by decide +kernel, x_none⟩
set_option maxRecDepth 100000 in
theorem xk_X_cut : x_mok (⟨"CueBoard$Mixer", "cut", "(II)I"⟩, prog_8_method_11_code, 7, some .int, false, 2, 153, xc_X_cut) := ⟨⟨878, 99, 877, 24, by decide +kernel⟩, by decide +kernel, x_none⟩
set_option maxRecDepth 100000 in
theorem xk_X_cutChannel : x_mok (⟨"CueBoard$Mixer", "cutChannel", "(IIII)I"⟩, prog_8_method_12_code, 9, some .int, false, 4, 90, xc_X_cutChannel) := ⟨⟨882, 99, 881, 25, by decide +kernel⟩, by decide +kernel, x_none⟩
set_option maxRecDepth 100000 in
theorem xk_X_write : x_mok (⟨"CueBoard$Mixer", "write", "()V"⟩, prog_8_method_13_code, 4, none, false, 0, 63, xc_X_write) := ⟨⟨886, 99, 884, 885, by decide +kernel⟩, by decide +kernel, x_none⟩
set_option maxRecDepth 100000 in
theorem xk_X_writeChannel : x_mok (⟨"CueBoard$Mixer", "writeChannel", "(II)V"⟩, prog_8_method_14_code, 6, none, false, 2, 178, xc_X_writeChannel) := ⟨⟨894, 99, 893, 26, by decide +kernel⟩, by decide +kernel, x_none⟩
set_option maxRecDepth 100000 in
theorem xk_P_clear : x_mok (⟨"CueBoard$Patching", "clear", "()V"⟩, prog_9_method_2_code, 2, none, false, 0, 43, xc_P_clear) := ⟨⟨484, 96, 482, 483, by decide +kernel⟩, by decide +kernel, x_none⟩
set_option maxRecDepth 100000 in
theorem xk_P_put : x_mok (⟨"CueBoard$Patching", "put", "(III)I"⟩, prog_9_method_3_code, 4, some .int, false, 3, 92, xc_P_put) := ⟨⟨651, 96, 649, 650, by decide +kernel⟩, by decide +kernel, x_none⟩
set_option maxRecDepth 100000 in
theorem xk_P_takeOff : x_mok (⟨"CueBoard$Patching", "takeOff", "(I)I"⟩, prog_9_method_4_code, 2, some .int, false, 1, 34, xc_P_takeOff) := ⟨⟨666, 96, 664, 665, by decide +kernel⟩, by decide +kernel, x_none⟩
set_option maxRecDepth 100000 in
theorem xk_P_drop : x_mok (⟨"CueBoard$Patching", "drop", "(I)V"⟩, prog_9_method_5_code, 4, none, false, 1, 63, xc_P_drop) := ⟨⟨662, 96, 661, 7, by decide +kernel⟩, by decide +kernel, x_none⟩
set_option maxRecDepth 100000 in
theorem xk_P_makeFirm : x_mok (⟨"CueBoard$Patching", "makeFirm", "(IZ)I"⟩, prog_9_method_6_code, 3, some .int, false, 2, 23, xc_P_makeFirm) := ⟨⟨670, 96, 668, 669, by decide +kernel⟩, by decide +kernel, x_none⟩
set_option maxRecDepth 100000 in
theorem xk_Y_clear : x_mok (⟨"CueBoard$Playback", "clear", "()V"⟩, prog_10_method_2_code, 1, none, false, 0, 26, xc_Y_clear) := ⟨⟨504, 100, 502, 503, by decide +kernel⟩, by decide +kernel, x_none⟩
set_option maxRecDepth 100000 in
theorem xk_Y_takeList : x_mok (⟨"CueBoard$Playback", "takeList", "(I)V"⟩, prog_10_method_3_code, 2, none, false, 1, 10, xc_Y_takeList) := ⟨⟨508, 100, 506, 507, by decide +kernel⟩, by decide +kernel, x_none⟩
set_option maxRecDepth 100000 in
theorem xk_Y_rewind : x_mok (⟨"CueBoard$Playback", "rewind", "()V"⟩, prog_10_method_4_code, 1, none, false, 0, 16, xc_Y_rewind) := ⟨⟨512, 100, 510, 511, by decide +kernel⟩, by decide +kernel, x_none⟩
set_option maxRecDepth 100000 in
theorem xk_Y_dropChannels : x_mok (⟨"CueBoard$Playback", "dropChannels", "()V"⟩, prog_10_method_5_code, 1, none, false, 0, 35, xc_Y_dropChannels) := ⟨⟨516, 100, 514, 515, by decide +kernel⟩, by decide +kernel, x_none⟩
set_option maxRecDepth 100000 in
theorem xk_Y_moveOn : x_mok (⟨"CueBoard$Playback", "moveOn", "()V"⟩, prog_10_method_6_code, 1, none, false, 0, 21, xc_Y_moveOn) := ⟨⟨746, 100, 744, 745, by decide +kernel⟩, by decide +kernel, x_none⟩
set_option maxRecDepth 100000 in
theorem xk_Y_halt : x_mok (⟨"CueBoard$Playback", "halt", "()V"⟩, prog_10_method_7_code, 1, none, false, 0, 19, xc_Y_halt) := ⟨⟨780, 100, 778, 779, by decide +kernel⟩, by decide +kernel, x_none⟩
set_option maxRecDepth 100000 in
theorem xk_Y_startFade : x_mok (⟨"CueBoard$Playback", "startFade", "(IIII)V"⟩, prog_10_method_8_code, 5, none, false, 4, 102, xc_Y_startFade) := ⟨⟨772, 100, 770, 771, by decide +kernel⟩, by decide +kernel, x_none⟩
set_option maxRecDepth 100000 in
theorem xk_Y_stepFades : x_mok (⟨"CueBoard$Playback", "stepFades", "()V"⟩, prog_10_method_9_code, 4, none, false, 0, 116, xc_Y_stepFades) := ⟨⟨810, 100, 808, 809, by decide +kernel⟩, by decide +kernel, x_none⟩
set_option maxRecDepth 100000 in
theorem xk_Y_isFollowDue : x_mok (⟨"CueBoard$Playback", "isFollowDue", "(I)Z"⟩, prog_10_method_10_code, 2, some .boolean, false, 1, 35, xc_Y_isFollowDue) := ⟨⟨825, 100, 823, 824, by decide +kernel⟩, by decide +kernel, x_none⟩
set_option maxRecDepth 100000 in
theorem xk_R_clear : x_mok (⟨"CueBoard$Rig", "clear", "()V"⟩, prog_11_method_2_code, 1, none, false, 0, 26, xc_R_clear) := ⟨⟨480, 95, 478, 479, by decide +kernel⟩, by decide +kernel, x_none⟩
set_option maxRecDepth 100000 in
theorem xk_R_has : x_mok (⟨"CueBoard$Rig", "has", "(I)Z"⟩, prog_11_method_3_code, 2, some .boolean, false, 1, 18, xc_R_has) := ⟨⟨643, 95, 641, 642, by decide +kernel⟩, by decide +kernel, x_none⟩
set_option maxRecDepth 100000 in
theorem xk_R_shows : x_mok (⟨"CueBoard$Rig", "shows", "(I)Z"⟩, prog_11_method_4_code, 2, some .boolean, false, 1, 16, xc_R_shows) := ⟨⟨657, 95, 655, 656, by decide +kernel⟩, by decide +kernel, x_none⟩
set_option maxRecDepth 100000 in
theorem xk_R_moves : x_mok (⟨"CueBoard$Rig", "moves", "(I)Z"⟩, prog_11_method_5_code, 2, some .boolean, false, 1, 26, xc_R_moves) := ⟨⟨627, 95, 625, 626, by decide +kernel⟩, by decide +kernel, x_none⟩
set_option maxRecDepth 100000 in
theorem xk_R_add : x_mok (⟨"CueBoard$Rig", "add", "(II)I"⟩, prog_11_method_6_code, 4, some .int, false, 2, 94, xc_R_add) := ⟨⟨607, 95, 605, 606, by decide +kernel⟩, by decide +kernel, x_none⟩
set_option maxRecDepth 100000 in
theorem xk_R_addGroup : x_mok (⟨"CueBoard$Rig", "addGroup", "(II)I"⟩, prog_11_method_7_code, 5, some .int, false, 2, 128, xc_R_addGroup) := ⟨⟨634, 95, 632, 633, by decide +kernel⟩, by decide +kernel, x_none⟩
