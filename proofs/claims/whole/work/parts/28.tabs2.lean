set_option maxRecDepth 100000 in
theorem xk_R_seat : x_mok (⟨"CueBoard$Rig", "seat", "(III)I"⟩, prog_11_method_8_code, 4, some .int, false, 3, 114, xc_R_seat) := ⟨⟨639, 95, 637, 638, by decide +kernel⟩, by decide +kernel, x_none⟩
set_option maxRecDepth 100000 in
theorem xk_R_fits : x_mok (⟨"CueBoard$Rig", "fits", "(II)Z"⟩, prog_11_method_9_code, 3, some .boolean, false, 2, 48, xc_R_fits) := ⟨⟨647, 95, 646, 6, by decide +kernel⟩, by decide +kernel, x_none⟩
set_option maxRecDepth 100000 in
theorem xk_R_memberOf : x_mok (⟨"CueBoard$Rig", "memberOf", "(II)I"⟩, prog_11_method_10_code, 4, some .int, false, 2, 56, xc_R_memberOf) := ⟨⟨955, 95, 953, 954, by decide +kernel⟩, by decide +kernel, x_none⟩
set_option maxRecDepth 100000 in
theorem xk_R_collect : x_mok (⟨"CueBoard$Rig", "collect", "(I)I"⟩, prog_11_method_11_code, 2, some .int, false, 1, 16, xc_R_collect) := ⟨⟨759, 95, 757, 758, by decide +kernel⟩, by decide +kernel, x_none⟩
set_option maxRecDepth 100000 in
theorem xk_R_gather : x_mok (⟨"CueBoard$Rig", "gather", "(II)V"⟩, prog_11_method_12_code, 5, none, false, 2, 94, xc_R_gather) := ⟨⟨763, 95, 762, 12, by decide +kernel⟩, by decide +kernel, x_none⟩
set_option maxRecDepth 100000 in
theorem xk_R_answer : x_mok (⟨"CueBoard$Rig", "answer", "(II)I"⟩, prog_11_method_13_code, 4, some .int, false, 2, 78, xc_R_answer) := ⟨⟨964, 95, 962, 963, by decide +kernel⟩, by decide +kernel, x_none⟩
set_option maxRecDepth 100000 in
theorem xk_R_answerOf : x_mok (⟨"CueBoard$Rig", "answerOf", "(II)I"⟩, prog_11_method_14_code, 3, some .int, false, 2, 53, xc_R_answerOf) := ⟨⟨969, 95, 968, 27, by decide +kernel⟩, by decide +kernel, x_none⟩
set_option maxRecDepth 100000 in
theorem xk_R_traceAt : x_mok (⟨"CueBoard$Rig", "traceAt", "(I)I"⟩, prog_11_method_15_code, 2, some .int, false, 1, 23, xc_R_traceAt) := ⟨⟨985, 95, 983, 984, by decide +kernel⟩, by decide +kernel, x_none⟩
set_option maxRecDepth 100000 in
theorem xk_R_mark : x_mok (⟨"CueBoard$Rig", "mark", "(I)V"⟩, prog_11_method_16_code, 2, none, false, 1, 38, xc_R_mark) := ⟨⟨615, 95, 614, 3, by decide +kernel⟩, by decide +kernel, x_none⟩
set_option maxRecDepth 100000 in
theorem xk_R_spanOf : x_mok (⟨"CueBoard$Rig", "spanOf", "(II)I"⟩, prog_11_method_17_code, 6, some .int, false, 2, 84, xc_R_spanOf) := ⟨⟨973, 95, 972, 28, by decide +kernel⟩, by decide +kernel, x_none⟩
set_option maxRecDepth 100000 in
theorem xk_R_spanOfOne : x_mok (⟨"CueBoard$Rig", "spanOfOne", "(I)I"⟩, prog_11_method_18_code, 2, some .int, false, 1, 65, xc_R_spanOfOne) := ⟨⟨619, 95, 618, 4, by decide +kernel⟩, by decide +kernel, x_none⟩
set_option maxRecDepth 100000 in
theorem xk_R_heatOf : x_mok (⟨"CueBoard$Rig", "heatOf", "(I)I"⟩, prog_11_method_19_code, 4, some .int, false, 1, 74, xc_R_heatOf) := ⟨⟨611, 95, 610, 2, by decide +kernel⟩, by decide +kernel, x_none⟩
set_option maxRecDepth 100000 in
theorem xk_R_reachOf : x_mok (⟨"CueBoard$Rig", "reachOf", "(I)I"⟩, prog_11_method_20_code, 4, some .int, false, 1, 64, xc_R_reachOf) := ⟨⟨977, 95, 976, 29, by decide +kernel⟩, by decide +kernel, x_none⟩
set_option maxRecDepth 100000 in
theorem xk_R_mostOf : x_mok (⟨"CueBoard$Rig", "mostOf", "(I)I"⟩, prog_11_method_21_code, 2, some .int, false, 1, 68, xc_R_mostOf) := ⟨⟨623, 95, 622, 5, by decide +kernel⟩, by decide +kernel, x_none⟩
set_option maxRecDepth 100000 in
theorem xk_R_isChannel : x_mok (⟨"CueBoard$Rig", "isChannel", "(I)Z"⟩, prog_11_method_22_code, 1, some .boolean, true, 1, 15, xc_R_isChannel) := ⟨⟨694, 95, 693, 0, by decide +kernel⟩, by decide +kernel, x_none⟩
set_option maxRecDepth 100000 in
theorem xk_R_channelsOf : x_mok (⟨"CueBoard$Rig", "channelsOf", "(I)I"⟩, prog_11_method_23_code, 2, some .int, false, 1, 46, xc_R_channelsOf) := ⟨⟨699, 95, 697, 698, by decide +kernel⟩, by decide +kernel, x_none⟩
set_option maxRecDepth 100000 in
theorem xk_R_isWide : x_mok (⟨"CueBoard$Rig", "isWide", "(II)Z"⟩, prog_11_method_24_code, 3, some .boolean, false, 2, 21, xc_R_isWide) := ⟨⟨703, 95, 701, 702, by decide +kernel⟩, by decide +kernel, x_none⟩
set_option maxRecDepth 100000 in
theorem xk_R_isDimming : x_mok (⟨"CueBoard$Rig", "isDimming", "(II)Z"⟩, prog_11_method_25_code, 3, some .boolean, false, 2, 35, xc_R_isDimming) := ⟨⟨833, 95, 831, 832, by decide +kernel⟩, by decide +kernel, x_none⟩
set_option maxRecDepth 100000 in
theorem xk_R_startOf : x_mok (⟨"CueBoard$Rig", "startOf", "(II)I"⟩, prog_11_method_26_code, 3, some .int, false, 2, 18, xc_R_startOf) := ⟨⟨898, 95, 896, 897, by decide +kernel⟩, by decide +kernel, x_none⟩
set_option maxRecDepth 100000 in
theorem xk_R_endOf : x_mok (⟨"CueBoard$Rig", "endOf", "(II)I"⟩, prog_11_method_27_code, 3, some .int, false, 2, 24, xc_R_endOf) := ⟨⟨866, 95, 864, 865, by decide +kernel⟩, by decide +kernel, x_none⟩
set_option maxRecDepth 100000 in
theorem xk_m_begin : x_mok (⟨"CueBoardModel", "begin", "()V"⟩, prog_13_method_3_code, 2, none, false, 0, 190, xc_m_begin) := ⟨⟨1158, 102, 1157, 32, by decide +kernel⟩, by decide +kernel, x_none⟩
set_option maxRecDepth 100000 in
theorem xk_m_in : x_mok (⟨"CueBoardModel", "in", "(III)Z"⟩, prog_13_method_4_code, 3, some .boolean, true, 3, 16, xc_m_in) := ⟨⟨1225, 102, 1224, 0, by decide +kernel⟩, by decide +kernel, x_none⟩
set_option maxRecDepth 100000 in
theorem xk_m_finds : x_mok (⟨"CueBoardModel", "finds", "(I)I"⟩, prog_13_method_5_code, 2, some .int, false, 1, 19, xc_m_finds) := ⟨⟨1229, 102, 1228, 36, by decide +kernel⟩, by decide +kernel, x_none⟩
set_option maxRecDepth 100000 in
theorem xk_m_noted : x_mok (⟨"CueBoardModel", "noted", "(IIIIIII)I"⟩, prog_13_method_6_code, 9, some .int, false, 7, 118, xc_m_noted) := ⟨⟨1237, 102, 1236, 38, by decide +kernel⟩, by decide +kernel, x_none⟩
set_option maxRecDepth 100000 in
theorem xk_m_called : x_mok (⟨"CueBoardModel", "called", "(I)I"⟩, prog_13_method_7_code, 5, some .int, false, 1, 335, xc_m_called) := ⟨⟨1211, 102, 1210, 34, by decide +kernel⟩, by decide +kernel, x_none⟩
set_option maxRecDepth 100000 in
theorem xk_m_playBook : x_mok (⟨"CueBoardModel", "playBook", "()V"⟩, prog_13_method_8_code, 3, none, false, 0, 40, xc_m_playBook) := ⟨⟨1207, 102, 1206, 33, by decide +kernel⟩, by decide +kernel, x_none⟩
set_option maxRecDepth 100000 in
theorem xk_m_replay : x_mok (⟨"CueBoardModel", "replay", "()I"⟩, prog_13_method_9_code, 3, some .int, false, 0, 81, xc_m_replay) := ⟨⟨1203, 102, 1201, 1202, by decide +kernel⟩, by decide +kernel, x_none⟩
set_option maxRecDepth 100000 in
theorem xk_m_back : x_mok (⟨"CueBoardModel", "back", "(I)I"⟩, prog_13_method_10_code, 5, some .int, false, 1, 150, xc_m_back) := ⟨⟨1524, 102, 1522, 1523, by decide +kernel⟩, by decide +kernel, x_none⟩
set_option maxRecDepth 100000 in
theorem xk_m_isLine : x_mok (⟨"CueBoardModel", "isLine", "(I)Z"⟩, prog_13_method_11_code, 1, some .boolean, true, 1, 7, xc_m_isLine) := ⟨⟨1222, 102, 1221, 0, by decide +kernel⟩, by decide +kernel, x_none⟩
set_option maxRecDepth 100000 in
theorem xk_m_darken : x_mok (⟨"CueBoardModel", "darken", "(I)V"⟩, prog_13_method_12_code, 3, none, false, 1, 30, xc_m_darken) := ⟨⟨1233, 102, 1232, 37, by decide +kernel⟩, by decide +kernel, x_none⟩
set_option maxRecDepth 100000 in
theorem xk_m_lined : x_mok (⟨"CueBoardModel", "lined", "(II)I"⟩, prog_13_method_13_code, 3, some .int, false, 2, 51, xc_m_lined) := ⟨⟨1219, 102, 1218, 35, by decide +kernel⟩, by decide +kernel, x_none⟩
set_option maxRecDepth 100000 in
theorem xk_m_line : x_mok (⟨"CueBoardModel", "line", "(II)I"⟩, prog_13_method_14_code, 3, some .int, false, 2, 17, xc_m_line) := ⟨⟨1215, 102, 1213, 1214, by decide +kernel⟩, by decide +kernel, x_none⟩
set_option maxRecDepth 100000 in
theorem xk_m_turned : x_mok (⟨"CueBoardModel", "turned", "(III)I"⟩, prog_13_method_15_code, 4, some .int, false, 3, 41, xc_m_turned) := ⟨⟨1245, 102, 1244, 39, by decide +kernel⟩, by decide +kernel, x_none⟩
set_option maxRecDepth 100000 in
theorem xk_m_pull : x_mok (⟨"CueBoardModel", "pull", "(I)I"⟩, prog_13_method_16_code, 2, some .int, false, 1, 18, xc_m_pull) := ⟨⟨1241, 102, 1239, 1240, by decide +kernel⟩, by decide +kernel, x_none⟩
set_option maxRecDepth 100000 in
theorem xk_m_plug : x_mok (⟨"CueBoardModel", "plug", "(I)I"⟩, prog_13_method_17_code, 2, some .int, false, 1, 18, xc_m_plug) := ⟨⟨1249, 102, 1247, 1248, by decide +kernel⟩, by decide +kernel, x_none⟩
set_option maxRecDepth 100000 in
theorem xk_m_asked : x_mok (⟨"CueBoardModel", "asked", "(III)I"⟩, prog_13_method_18_code, 4, some .int, false, 3, 56, xc_m_asked) := ⟨⟨1535, 102, 1534, 82, by decide +kernel⟩, by decide +kernel, x_none⟩
set_option maxRecDepth 100000 in
theorem xk_m_at : x_mok (⟨"CueBoardModel", "at", "(II)I"⟩, prog_13_method_19_code, 4, some .int, false, 2, 31, xc_m_at) := ⟨⟨1531, 102, 1529, 1530, by decide +kernel⟩, by decide +kernel, x_none⟩
set_option maxRecDepth 100000 in
theorem xk_m_wide : x_mok (⟨"CueBoardModel", "wide", "(II)I"⟩, prog_13_method_20_code, 4, some .int, false, 2, 52, xc_m_wide) := ⟨⟨1539, 102, 1537, 1538, by decide +kernel⟩, by decide +kernel, x_none⟩
set_option maxRecDepth 100000 in
theorem xk_m_isFixture : x_mok (⟨"CueBoardModel", "isFixture", "(I)Z"⟩, prog_13_method_21_code, 2, some .boolean, false, 1, 16, xc_m_isFixture) := ⟨⟨1281, 102, 1280, 44, by decide +kernel⟩, by decide +kernel, x_none⟩
set_option maxRecDepth 100000 in
theorem xk_m_kindOf : x_mok (⟨"CueBoardModel", "kindOf", "(I)I"⟩, prog_13_method_22_code, 2, some .int, false, 1, 11, xc_m_kindOf) := ⟨⟨1285, 102, 1284, 45, by decide +kernel⟩, by decide +kernel, x_none⟩
set_option maxRecDepth 100000 in
theorem xk_m_newFixture : x_mok (⟨"CueBoardModel", "newFixture", "(II)I"⟩, prog_13_method_23_code, 4, some .int, false, 2, 45, xc_m_newFixture) := ⟨⟨1261, 102, 1260, 41, by decide +kernel⟩, by decide +kernel, x_none⟩
set_option maxRecDepth 100000 in
theorem xk_m_fixed : x_mok (⟨"CueBoardModel", "fixed", "(II)I"⟩, prog_13_method_24_code, 3, some .int, false, 2, 47, xc_m_fixed) := ⟨⟨1257, 102, 1256, 40, by decide +kernel⟩, by decide +kernel, x_none⟩
set_option maxRecDepth 100000 in
theorem xk_m_fixture : x_mok (⟨"CueBoardModel", "fixture", "(II)I"⟩, prog_13_method_25_code, 3, some .int, false, 2, 17, xc_m_fixture) := ⟨⟨1253, 102, 1251, 1252, by decide +kernel⟩, by decide +kernel, x_none⟩
set_option maxRecDepth 100000 in
theorem xk_m_grouped : x_mok (⟨"CueBoardModel", "grouped", "(II)I"⟩, prog_13_method_26_code, 3, some .int, false, 2, 93, xc_m_grouped) := ⟨⟨1269, 102, 1268, 42, by decide +kernel⟩, by decide +kernel, x_none⟩
set_option maxRecDepth 100000 in
theorem xk_m_group : x_mok (⟨"CueBoardModel", "group", "(II)I"⟩, prog_13_method_27_code, 3, some .int, false, 2, 17, xc_m_group) := ⟨⟨1265, 102, 1263, 1264, by decide +kernel⟩, by decide +kernel, x_none⟩
set_option maxRecDepth 100000 in
theorem xk_m_isOf : x_mok (⟨"CueBoardModel", "isOf", "(II)Z"⟩, prog_13_method_28_code, 4, some .boolean, false, 2, 39, xc_m_isOf) := ⟨⟨1289, 102, 1288, 46, by decide +kernel⟩, by decide +kernel, x_none⟩
set_option maxRecDepth 100000 in
theorem xk_m_placed : x_mok (⟨"CueBoardModel", "placed", "(III)I"⟩, prog_13_method_29_code, 4, some .int, false, 3, 116, xc_m_placed) := ⟨⟨1277, 102, 1276, 43, by decide +kernel⟩, by decide +kernel, x_none⟩
set_option maxRecDepth 100000 in
theorem xk_m_member : x_mok (⟨"CueBoardModel", "member", "(III)I"⟩, prog_13_method_30_code, 4, some .int, false, 3, 18, xc_m_member) := ⟨⟨1273, 102, 1271, 1272, by decide +kernel⟩, by decide +kernel, x_none⟩
set_option maxRecDepth 100000 in
theorem xk_m_open : x_mok (⟨"CueBoardModel", "open", "(I)V"⟩, prog_13_method_31_code, 2, none, false, 1, 31, xc_m_open) := ⟨⟨1383, 102, 1382, 59, by decide +kernel⟩, by decide +kernel, x_none⟩
set_option maxRecDepth 100000 in
theorem xk_m_next : x_mok (⟨"CueBoardModel", "next", "()I"⟩, prog_13_method_32_code, 3, some .int, false, 0, 81, xc_m_next) := ⟨⟨1387, 102, 1386, 60, by decide +kernel⟩, by decide +kernel, x_none⟩
set_option maxRecDepth 100000 in
theorem xk_m_meet : x_mok (⟨"CueBoardModel", "meet", "(I)V"⟩, prog_13_method_33_code, 2, none, false, 1, 38, xc_m_meet) := ⟨⟨1379, 102, 1378, 58, by decide +kernel⟩, by decide +kernel, x_none⟩
set_option maxRecDepth 100000 in
theorem xk_m_gather : x_mok (⟨"CueBoardModel", "gather", "(I)V"⟩, prog_13_method_34_code, 3, none, false, 1, 41, xc_m_gather) := ⟨⟨1375, 102, 1374, 57, by decide +kernel⟩, by decide +kernel, x_none⟩
set_option maxRecDepth 100000 in
theorem xk_m_memberAt : x_mok (⟨"CueBoardModel", "memberAt", "(II)I"⟩, prog_13_method_35_code, 3, some .int, false, 2, 56, xc_m_memberAt) := ⟨⟨1546, 102, 1544, 1545, by decide +kernel⟩, by decide +kernel, x_none⟩
set_option maxRecDepth 100000 in
theorem xk_m_by : x_mok (⟨"CueBoardModel", "by", "(II)I"⟩, prog_13_method_36_code, 3, some .int, false, 2, 22, xc_m_by) := ⟨⟨1562, 102, 1561, 85, by decide +kernel⟩, by decide +kernel, x_none⟩
set_option maxRecDepth 100000 in
theorem xk_m_span : x_mok (⟨"CueBoardModel", "span", "(I)I"⟩, prog_13_method_37_code, 2, some .int, false, 1, 83, xc_m_span) := ⟨⟨1558, 102, 1557, 84, by decide +kernel⟩, by decide +kernel, x_none⟩
set_option maxRecDepth 100000 in
theorem xk_m_spanOfAll : x_mok (⟨"CueBoardModel", "spanOfAll", "(I)I"⟩, prog_13_method_38_code, 4, some .int, false, 1, 45, xc_m_spanOfAll) := ⟨⟨1554, 102, 1553, 83, by decide +kernel⟩, by decide +kernel, x_none⟩
set_option maxRecDepth 100000 in
theorem xk_m_heatByBodies : x_mok (⟨"CueBoardModel", "heatByBodies", "(I)I"⟩, prog_13_method_39_code, 2, some .int, false, 1, 110, xc_m_heatByBodies) := ⟨⟨1566, 102, 1565, 86, by decide +kernel⟩, by decide +kernel, x_none⟩
set_option maxRecDepth 100000 in
theorem xk_m_reach : x_mok (⟨"CueBoardModel", "reach", "(I)I"⟩, prog_13_method_40_code, 3, some .int, false, 1, 71, xc_m_reach) := ⟨⟨1570, 102, 1569, 87, by decide +kernel⟩, by decide +kernel, x_none⟩
set_option maxRecDepth 100000 in
theorem xk_m_mostByBodies : x_mok (⟨"CueBoardModel", "mostByBodies", "(I)I"⟩, prog_13_method_41_code, 5, some .int, false, 1, 86, xc_m_mostByBodies) := ⟨⟨1574, 102, 1573, 88, by decide +kernel⟩, by decide +kernel, x_none⟩
set_option maxRecDepth 100000 in
theorem xk_m_asks : x_mok (⟨"CueBoardModel", "asks", "(II)I"⟩, prog_13_method_42_code, 4, some .int, false, 2, 100, xc_m_asks) := ⟨⟨1550, 102, 1548, 1549, by decide +kernel⟩, by decide +kernel, x_none⟩
set_option maxRecDepth 100000 in
theorem xk_m_trace : x_mok (⟨"CueBoardModel", "trace", "(I)I"⟩, prog_13_method_43_code, 2, some .int, false, 1, 25, xc_m_trace) := ⟨⟨1578, 102, 1576, 1577, by decide +kernel⟩, by decide +kernel, x_none⟩
set_option maxRecDepth 100000 in
theorem xk_m_about : x_mok (⟨"CueBoardModel", "about", "(II)I"⟩, prog_13_method_44_code, 3, some .int, false, 2, 101, xc_m_about) := ⟨⟨1582, 102, 1580, 1581, by decide +kernel⟩, by decide +kernel, x_none⟩
set_option maxRecDepth 100000 in
theorem xk_m_patched : x_mok (⟨"CueBoardModel", "patched", "(III)I"⟩, prog_13_method_45_code, 4, some .int, false, 3, 97, xc_m_patched) := ⟨⟨1297, 102, 1296, 47, by decide +kernel⟩, by decide +kernel, x_none⟩
set_option maxRecDepth 100000 in
theorem xk_m_patch : x_mok (⟨"CueBoardModel", "patch", "(III)I"⟩, prog_13_method_46_code, 4, some .int, false, 3, 19, xc_m_patch) := ⟨⟨1293, 102, 1291, 1292, by decide +kernel⟩, by decide +kernel, x_none⟩
set_option maxRecDepth 100000 in
theorem xk_m_unpatched : x_mok (⟨"CueBoardModel", "unpatched", "(I)I"⟩, prog_13_method_47_code, 2, some .int, false, 1, 52, xc_m_unpatched) := ⟨⟨1305, 102, 1304, 48, by decide +kernel⟩, by decide +kernel, x_none⟩
set_option maxRecDepth 100000 in
theorem xk_m_unpatch : x_mok (⟨"CueBoardModel", "unpatch", "(I)I"⟩, prog_13_method_48_code, 2, some .int, false, 1, 17, xc_m_unpatch) := ⟨⟨1301, 102, 1299, 1300, by decide +kernel⟩, by decide +kernel, x_none⟩
set_option maxRecDepth 100000 in
theorem xk_m_firm : x_mok (⟨"CueBoardModel", "firm", "(IZ)I"⟩, prog_13_method_49_code, 3, some .int, false, 2, 51, xc_m_firm) := ⟨⟨1309, 102, 1307, 1308, by decide +kernel⟩, by decide +kernel, x_none⟩
set_option maxRecDepth 100000 in
theorem xk_m_isChannel : x_mok (⟨"CueBoardModel", "isChannel", "(II)Z"⟩, prog_13_method_50_code, 4, some .boolean, false, 2, 39, xc_m_isChannel) := ⟨⟨1331, 102, 1330, 51, by decide +kernel⟩, by decide +kernel, x_none⟩
set_option maxRecDepth 100000 in
theorem xk_m_isWide : x_mok (⟨"CueBoardModel", "isWide", "(II)Z"⟩, prog_13_method_51_code, 3, some .boolean, false, 2, 20, xc_m_isWide) := ⟨⟨1335, 102, 1334, 52, by decide +kernel⟩, by decide +kernel, x_none⟩
set_option maxRecDepth 100000 in
theorem xk_m_isDimming : x_mok (⟨"CueBoardModel", "isDimming", "(II)Z"⟩, prog_13_method_52_code, 4, some .boolean, false, 2, 39, xc_m_isDimming) := ⟨⟨1450, 102, 1449, 68, by decide +kernel⟩, by decide +kernel, x_none⟩
set_option maxRecDepth 100000 in
theorem xk_m_pointed : x_mok (⟨"CueBoardModel", "pointed", "(III)I"⟩, prog_13_method_53_code, 6, some .int, false, 3, 149, xc_m_pointed) := ⟨⟨1317, 102, 1316, 49, by decide +kernel⟩, by decide +kernel, x_none⟩
set_option maxRecDepth 100000 in
theorem xk_m_point : x_mok (⟨"CueBoardModel", "point", "(III)I"⟩, prog_13_method_54_code, 4, some .int, false, 3, 19, xc_m_point) := ⟨⟨1313, 102, 1311, 1312, by decide +kernel⟩, by decide +kernel, x_none⟩
set_option maxRecDepth 100000 in
theorem xk_m_isNone : x_mok (⟨"CueBoardModel", "isNone", "(I)Z"⟩, prog_13_method_55_code, 1, some .boolean, true, 1, 15, xc_m_isNone) := ⟨⟨1475, 102, 1474, 0, by decide +kernel⟩, by decide +kernel, x_none⟩
set_option maxRecDepth 100000 in
theorem xk_m_curveAt : x_mok (⟨"CueBoardModel", "curveAt", "(II)I"⟩, prog_13_method_56_code, 10, some .int, false, 2, 261, xc_m_curveAt) := ⟨⟨1462, 102, 1461, 71, by decide +kernel⟩, by decide +kernel, x_none⟩
set_option maxRecDepth 100000 in
theorem xk_m_curve : x_mok (⟨"CueBoardModel", "curve", "(II)I"⟩, prog_13_method_57_code, 3, some .int, false, 2, 31, xc_m_curve) := ⟨⟨1590, 102, 1588, 1589, by decide +kernel⟩, by decide +kernel, x_none⟩
set_option maxRecDepth 100000 in
theorem xk_m_bent : x_mok (⟨"CueBoardModel", "bent", "(III)I"⟩, prog_13_method_58_code, 4, some .int, false, 3, 70, xc_m_bent) := ⟨⟨1327, 102, 1326, 50, by decide +kernel⟩, by decide +kernel, x_none⟩
set_option maxRecDepth 100000 in
theorem xk_m_bend : x_mok (⟨"CueBoardModel", "bend", "(III)I"⟩, prog_13_method_59_code, 4, some .int, false, 3, 19, xc_m_bend) := ⟨⟨1323, 102, 1321, 1322, by decide +kernel⟩, by decide +kernel, x_none⟩
set_option maxRecDepth 100000 in
theorem xk_m_entered : x_mok (⟨"CueBoardModel", "entered", "(IIIII)I"⟩, prog_13_method_60_code, 7, some .int, false, 5, 162, xc_m_entered) := ⟨⟨1343, 102, 1342, 53, by decide +kernel⟩, by decide +kernel, x_none⟩
set_option maxRecDepth 100000 in
theorem xk_m_entry : x_mok (⟨"CueBoardModel", "entry", "(IIIII)I"⟩, prog_13_method_61_code, 6, some .int, false, 5, 25, xc_m_entry) := ⟨⟨1339, 102, 1337, 1338, by decide +kernel⟩, by decide +kernel, x_none⟩
set_option maxRecDepth 100000 in
theorem xk_m_listed : x_mok (⟨"CueBoardModel", "listed", "(III)I"⟩, prog_13_method_62_code, 5, some .int, false, 3, 116, xc_m_listed) := ⟨⟨1352, 102, 1351, 54, by decide +kernel⟩, by decide +kernel, x_none⟩
set_option maxRecDepth 100000 in
theorem xk_m_list : x_mok (⟨"CueBoardModel", "list", "(III)I"⟩, prog_13_method_63_code, 4, some .int, false, 3, 19, xc_m_list) := ⟨⟨1348, 102, 1346, 1347, by decide +kernel⟩, by decide +kernel, x_none⟩
set_option maxRecDepth 100000 in
theorem xk_m_isPlayback : x_mok (⟨"CueBoardModel", "isPlayback", "(I)Z"⟩, prog_13_method_64_code, 1, some .boolean, true, 1, 7, xc_m_isPlayback) := ⟨⟨1359, 102, 1358, 0, by decide +kernel⟩, by decide +kernel, x_none⟩
set_option maxRecDepth 100000 in
theorem xk_m_load : x_mok (⟨"CueBoardModel", "load", "(II)I"⟩, prog_13_method_65_code, 3, some .int, false, 2, 65, xc_m_load) := ⟨⟨1356, 102, 1354, 1355, by decide +kernel⟩, by decide +kernel, x_none⟩
set_option maxRecDepth 100000 in
theorem xk_m_fade : x_mok (⟨"CueBoardModel", "fade", "(IIIII)V"⟩, prog_13_method_66_code, 8, none, false, 5, 194, xc_m_fade) := ⟨⟨1391, 102, 1390, 61, by decide +kernel⟩, by decide +kernel, x_none⟩
set_option maxRecDepth 100000 in
theorem xk_m_hasNext : x_mok (⟨"CueBoardModel", "hasNext", "(I)Z"⟩, prog_13_method_67_code, 3, some .boolean, false, 1, 47, xc_m_hasNext) := ⟨⟨1367, 102, 1366, 55, by decide +kernel⟩, by decide +kernel, x_none⟩
set_option maxRecDepth 100000 in
theorem xk_m_goes : x_mok (⟨"CueBoardModel", "goes", "(I)I"⟩, prog_13_method_68_code, 5, some .int, false, 1, 204, xc_m_goes) := ⟨⟨1371, 102, 1370, 56, by decide +kernel⟩, by decide +kernel, x_none⟩
set_option maxRecDepth 100000 in
theorem xk_m_go : x_mok (⟨"CueBoardModel", "go", "(I)I"⟩, prog_13_method_69_code, 2, some .int, false, 1, 66, xc_m_go) := ⟨⟨1363, 102, 1361, 1362, by decide +kernel⟩, by decide +kernel, x_none⟩
set_option maxRecDepth 100000 in
theorem xk_m_fades : x_mok (⟨"CueBoardModel", "fades", "(I)I"⟩, prog_13_method_70_code, 4, some .int, false, 1, 61, xc_m_fades) := ⟨⟨1399, 102, 1398, 62, by decide +kernel⟩, by decide +kernel, x_none⟩
set_option maxRecDepth 100000 in
theorem xk_m_stop : x_mok (⟨"CueBoardModel", "stop", "(I)I"⟩, prog_13_method_71_code, 4, some .int, false, 1, 73, xc_m_stop) := ⟨⟨1395, 102, 1393, 1394, by decide +kernel⟩, by decide +kernel, x_none⟩
set_option maxRecDepth 100000 in
theorem xk_m_channels : x_mok (⟨"CueBoardModel", "channels", "(I)I"⟩, prog_13_method_72_code, 4, some .int, false, 1, 39, xc_m_channels) := ⟨⟨1407, 102, 1406, 63, by decide +kernel⟩, by decide +kernel, x_none⟩
set_option maxRecDepth 100000 in
theorem xk_m_release : x_mok (⟨"CueBoardModel", "release", "(I)I"⟩, prog_13_method_73_code, 4, some .int, false, 1, 95, xc_m_release) := ⟨⟨1403, 102, 1401, 1402, by decide +kernel⟩, by decide +kernel, x_none⟩
set_option maxRecDepth 100000 in
theorem xk_m_master : x_mok (⟨"CueBoardModel", "master", "(II)I"⟩, prog_13_method_74_code, 5, some .int, false, 2, 71, xc_m_master) := ⟨⟨1411, 102, 1409, 1410, by decide +kernel⟩, by decide +kernel, x_none⟩
set_option maxRecDepth 100000 in
theorem xk_m_merged : x_mok (⟨"CueBoardModel", "merged", "(IIZ)I"⟩, prog_13_method_75_code, 4, some .int, false, 3, 60, xc_m_merged) := ⟨⟨1419, 102, 1418, 64, by decide +kernel⟩, by decide +kernel, x_none⟩
set_option maxRecDepth 100000 in
theorem xk_m_merge : x_mok (⟨"CueBoardModel", "merge", "(IIZ)I"⟩, prog_13_method_76_code, 4, some .int, false, 3, 27, xc_m_merge) := ⟨⟨1415, 102, 1413, 1414, by decide +kernel⟩, by decide +kernel, x_none⟩
set_option maxRecDepth 100000 in
theorem xk_m_value : x_mok (⟨"CueBoardModel", "value", "(III)I"⟩, prog_13_method_77_code, 5, some .int, false, 3, 85, xc_m_value) := ⟨⟨1603, 102, 1601, 1602, by decide +kernel⟩, by decide +kernel, x_none⟩
set_option maxRecDepth 100000 in
theorem xk_m_playback : x_mok (⟨"CueBoardModel", "playback", "(II)I"⟩, prog_13_method_78_code, 3, some .int, false, 2, 122, xc_m_playback) := ⟨⟨1607, 102, 1605, 1606, by decide +kernel⟩, by decide +kernel, x_none⟩
set_option maxRecDepth 100000 in
theorem xk_m_limit : x_mok (⟨"CueBoardModel", "limit", "(II)I"⟩, prog_13_method_79_code, 3, some .int, false, 2, 44, xc_m_limit) := ⟨⟨1423, 102, 1421, 1422, by decide +kernel⟩, by decide +kernel, x_none⟩
set_option maxRecDepth 100000 in
theorem xk_m_heat : x_mok (⟨"CueBoardModel", "heat", "(I)I"⟩, prog_13_method_80_code, 2, some .int, false, 1, 23, xc_m_heat) := ⟨⟨1612, 102, 1610, 1611, by decide +kernel⟩, by decide +kernel, x_none⟩
set_option maxRecDepth 100000 in
theorem xk_m_over : x_mok (⟨"CueBoardModel", "over", "(I)I"⟩, prog_13_method_81_code, 2, some .int, false, 1, 23, xc_m_over) := ⟨⟨1616, 102, 1614, 1615, by decide +kernel⟩, by decide +kernel, x_none⟩
set_option maxRecDepth 100000 in
theorem xk_m_blackout : x_mok (⟨"CueBoardModel", "blackout", "(Z)I"⟩, prog_13_method_82_code, 3, some .int, false, 1, 47, xc_m_blackout) := ⟨⟨1427, 102, 1425, 1426, by decide +kernel⟩, by decide +kernel, x_none⟩
set_option maxRecDepth 100000 in
theorem xk_m_floor : x_mok (⟨"CueBoardModel", "floor", "(II)I"⟩, prog_13_method_83_code, 3, some .int, true, 2, 18, xc_m_floor) := ⟨⟨1442, 102, 1441, 0, by decide +kernel⟩, by decide +kernel, x_none⟩
set_option maxRecDepth 100000 in
theorem xk_m_play : x_mok (⟨"CueBoardModel", "play", "(I)V"⟩, prog_13_method_84_code, 5, none, false, 1, 283, xc_m_play) := ⟨⟨1439, 102, 1438, 66, by decide +kernel⟩, by decide +kernel, x_none⟩
set_option maxRecDepth 100000 in
theorem xk_m_mergedValue : x_mok (⟨"CueBoardModel", "mergedValue", "(II)I"⟩, prog_13_method_85_code, 10, some .int, false, 2, 203, xc_m_mergedValue) := ⟨⟨1454, 102, 1453, 69, by decide +kernel⟩, by decide +kernel, x_none⟩
set_option maxRecDepth 100000 in
theorem xk_m_bentValue : x_mok (⟨"CueBoardModel", "bentValue", "(II)I"⟩, prog_13_method_86_code, 5, some .int, false, 2, 95, xc_m_bentValue) := ⟨⟨1458, 102, 1457, 70, by decide +kernel⟩, by decide +kernel, x_none⟩
set_option maxRecDepth 100000 in
theorem xk_m_mostOf : x_mok (⟨"CueBoardModel", "mostOf", "(I)I"⟩, prog_13_method_87_code, 3, some .int, false, 1, 39, xc_m_mostOf) := ⟨⟨1484, 102, 1483, 72, by decide +kernel⟩, by decide +kernel, x_none⟩
set_option maxRecDepth 100000 in
theorem xk_m_heatOf : x_mok (⟨"CueBoardModel", "heatOf", "(I)I"⟩, prog_13_method_88_code, 3, some .int, false, 1, 40, xc_m_heatOf) := ⟨⟨1504, 102, 1503, 77, by decide +kernel⟩, by decide +kernel, x_none⟩
set_option maxRecDepth 100000 in
theorem xk_m_work : x_mok (⟨"CueBoardModel", "work", "(II)V"⟩, prog_13_method_89_code, 5, none, false, 2, 102, xc_m_work) := ⟨⟨1446, 102, 1445, 67, by decide +kernel⟩, by decide +kernel, x_none⟩
set_option maxRecDepth 100000 in
theorem xk_m_placeOf : x_mok (⟨"CueBoardModel", "placeOf", "(II)I"⟩, prog_13_method_90_code, 3, some .int, false, 2, 28, xc_m_placeOf) := ⟨⟨1500, 102, 1499, 76, by decide +kernel⟩, by decide +kernel, x_none⟩
set_option maxRecDepth 100000 in
theorem xk_m_isWhole : x_mok (⟨"CueBoardModel", "isWhole", "(II)Z"⟩, prog_13_method_91_code, 3, some .boolean, false, 2, 47, xc_m_isWhole) := ⟨⟨1496, 102, 1495, 75, by decide +kernel⟩, by decide +kernel, x_none⟩
set_option maxRecDepth 100000 in
theorem xk_m_isWarm : x_mok (⟨"CueBoardModel", "isWarm", "(III)Z"⟩, prog_13_method_92_code, 4, some .boolean, false, 3, 47, xc_m_isWarm) := ⟨⟨1492, 102, 1491, 74, by decide +kernel⟩, by decide +kernel, x_none⟩
set_option maxRecDepth 100000 in
theorem xk_m_patchedBefore : x_mok (⟨"CueBoardModel", "patchedBefore", "(I)I"⟩, prog_13_method_93_code, 5, some .int, false, 1, 98, xc_m_patchedBefore) := ⟨⟨1508, 102, 1507, 78, by decide +kernel⟩, by decide +kernel, x_none⟩
set_option maxRecDepth 100000 in
theorem xk_m_cut : x_mok (⟨"CueBoardModel", "cut", "(III)I"⟩, prog_13_method_94_code, 8, some .int, false, 3, 157, xc_m_cut) := ⟨⟨1512, 102, 1511, 79, by decide +kernel⟩, by decide +kernel, x_none⟩
set_option maxRecDepth 100000 in
theorem xk_m_warm : x_mok (⟨"CueBoardModel", "warm", "(I)V"⟩, prog_13_method_95_code, 5, none, false, 1, 176, xc_m_warm) := ⟨⟨1488, 102, 1487, 73, by decide +kernel⟩, by decide +kernel, x_none⟩
set_option maxRecDepth 100000 in
theorem xk_m_write : x_mok (⟨"CueBoardModel", "write", "(II)V"⟩, prog_13_method_96_code, 6, none, false, 2, 165, xc_m_write) := ⟨⟨1520, 102, 1519, 81, by decide +kernel⟩, by decide +kernel, x_none⟩
set_option maxRecDepth 100000 in
theorem xk_m_writeAll : x_mok (⟨"CueBoardModel", "writeAll", "()V"⟩, prog_13_method_97_code, 5, none, false, 0, 220, xc_m_writeAll) := ⟨⟨1516, 102, 1515, 80, by decide +kernel⟩, by decide +kernel, x_none⟩
set_option maxRecDepth 100000 in
theorem xk_m_tickOnce : x_mok (⟨"CueBoardModel", "tickOnce", "()V"⟩, prog_13_method_98_code, 3, none, false, 0, 115, xc_m_tickOnce) := ⟨⟨1435, 102, 1434, 65, by decide +kernel⟩, by decide +kernel, x_none⟩
set_option maxRecDepth 100000 in
theorem xk_m_tick : x_mok (⟨"CueBoardModel", "tick", "(I)I"⟩, prog_13_method_99_code, 3, some .int, false, 1, 68, xc_m_tick) := ⟨⟨1431, 102, 1429, 1430, by decide +kernel⟩, by decide +kernel, x_none⟩
set_option maxRecDepth 100000 in
theorem xk_m_found : x_mok (⟨"CueBoardModel", "found", "(I)I"⟩, prog_13_method_100_code, 2, some .int, false, 1, 26, xc_m_found) := ⟨⟨1622, 102, 1620, 1621, by decide +kernel⟩, by decide +kernel, x_none⟩
set_option maxRecDepth 100000 in
theorem xk_m_digest : x_mok (⟨"CueBoardModel", "digest", "()I"⟩, prog_13_method_101_code, 1, some .int, false, 0, 9, xc_m_digest) := ⟨⟨1626, 102, 1624, 1625, by decide +kernel⟩, by decide +kernel, x_none⟩
set_option maxRecDepth 100000 in
theorem xk_m_told : x_mok (⟨"CueBoardModel", "told", "(I)I"⟩, prog_13_method_102_code, 2, some .int, false, 1, 78, xc_m_told) := ⟨⟨1630, 102, 1628, 1629, by decide +kernel⟩, by decide +kernel, x_none⟩
set_option maxRecDepth 100000 in
theorem xk_J_isNaN : x_mok (⟨"java/lang/Float", "isNaN", "(F)Z"⟩, prog_14_method_6_code, 1, some .boolean, true, 1, 12, xc_J_isNaN) := ⟨⟨1468, 105, 1467, 0, by decide +kernel⟩, by decide +kernel, x_none⟩
set_option maxRecDepth 100000 in
theorem xk_J_floatToIntBits : x_mok (⟨"java/lang/Float", "floatToIntBits", "(F)I"⟩, prog_14_method_24_code, 1, some .int, true, 1, 15, xc_J_floatToIntBits) := ⟨⟨1465, 105, 1464, 0, by decide +kernel⟩, by decide +kernel, x_none⟩
set_option maxRecDepth 100000 in
theorem xk_J_floorDiv : x_mok (⟨"java/lang/Math", "floorDiv", "(II)I"⟩, prog_15_method_47_code, 3, some .int, true, 2, 23, xc_J_floorDiv) := ⟨⟨813, 103, 812, 0, by decide +kernel⟩, by decide +kernel, x_none⟩
set_option maxRecDepth 100000 in
theorem xk_J_max : x_mok (⟨"java/lang/Math", "max", "(II)I"⟩, prog_15_method_65_code, 2, some .int, true, 2, 11, xc_J_max) := ⟨⟨840, 103, 839, 0, by decide +kernel⟩, by decide +kernel, x_none⟩
set_option maxRecDepth 100000 in
theorem xk_J_min : x_mok (⟨"java/lang/Math", "min", "(II)I"⟩, prog_15_method_69_code, 2, some .int, true, 2, 11, xc_J_min) := ⟨⟨630, 103, 629, 0, by decide +kernel⟩, by decide +kernel, x_none⟩
set_option maxRecDepth 100000 in
theorem xk_J_fill : x_mok (⟨"java/util/Arrays", "fill", "([II)V"⟩, prog_17_method_103_code, 4, none, true, 2, 21, xc_J_fill) := ⟨⟨470, 101, 469, 0, by decide +kernel⟩, by decide +kernel, x_none⟩
theorem x_mr0 : ∀ q ∈ x_ms_0, x_mok q := List.forall_mem_cons.mpr ⟨xk_T_line, List.forall_mem_cons.mpr ⟨xk_T_pull, List.forall_mem_cons.mpr ⟨xk_T_plug, List.forall_mem_cons.mpr ⟨xk_T_at, List.forall_mem_cons.mpr ⟨xk_T_wide, List.forall_mem_cons.mpr ⟨xk_T_fixture, List.forall_mem_cons.mpr ⟨xk_T_group, List.forall_mem_cons.mpr ⟨xk_T_member, List.forall_mem_cons.mpr ⟨xk_T_memberAt, List.forall_mem_cons.mpr ⟨xk_T_asks, List.forall_mem_cons.mpr ⟨xk_T_trace, List.forall_mem_cons.mpr ⟨xk_T_about, List.forall_mem_cons.mpr ⟨xk_T_patch, List.forall_mem_cons.mpr ⟨xk_T_unpatch, List.forall_mem_cons.mpr ⟨xk_T_firm, List.forall_mem_cons.mpr ⟨xk_T_point, List.forall_mem_cons.mpr ⟨xk_T_curve, List.forall_mem_cons.mpr ⟨xk_T_bend, List.forall_mem_cons.mpr ⟨xk_T_entry, List.forall_mem_cons.mpr ⟨xk_T_list, List.forall_mem_cons.mpr ⟨xk_T_load, List.forall_mem_cons.mpr ⟨xk_T_go, List.forall_mem_cons.mpr ⟨xk_T_stop, List.forall_mem_cons.mpr ⟨xk_T_release, List.forall_mem_cons.mpr ⟨xk_T_master, List.forall_mem_cons.mpr ⟨xk_T_merge, List.forall_mem_cons.mpr ⟨xk_T_value, List.forall_mem_cons.mpr ⟨xk_T_playback, List.forall_mem_cons.mpr ⟨xk_T_limit, List.forall_mem_cons.mpr ⟨xk_T_heat, List.forall_mem_cons.mpr ⟨xk_T_over, List.forall_mem_cons.mpr ⟨xk_T_blackout, fun _ h => absurd h List.not_mem_nil⟩⟩⟩⟩⟩⟩⟩⟩⟩⟩⟩⟩⟩⟩⟩⟩⟩⟩⟩⟩⟩⟩⟩⟩⟩⟩⟩⟩⟩⟩⟩⟩
theorem x_mr1 : ∀ q ∈ x_ms_1, x_mok q := List.forall_mem_cons.mpr ⟨xk_T_tick, List.forall_mem_cons.mpr ⟨xk_T_found, List.forall_mem_cons.mpr ⟨xk_T_digest, List.forall_mem_cons.mpr ⟨xk_T_replay, List.forall_mem_cons.mpr ⟨xk_T_back, List.forall_mem_cons.mpr ⟨xk_T_told, List.forall_mem_cons.mpr ⟨xk_T_enact, List.forall_mem_cons.mpr ⟨xk_T_playOn, List.forall_mem_cons.mpr ⟨xk_B_clear, List.forall_mem_cons.mpr ⟨xk_B_perform, List.forall_mem_cons.mpr ⟨xk_B_isPlayback, List.forall_mem_cons.mpr ⟨xk_B_tellOfFixture, List.forall_mem_cons.mpr ⟨xk_B_tellOfPlayback, List.forall_mem_cons.mpr ⟨xk_B_valueIn, List.forall_mem_cons.mpr ⟨xk_B_loadList, List.forall_mem_cons.mpr ⟨xk_B_goOn, List.forall_mem_cons.mpr ⟨xk_B_stopFades, List.forall_mem_cons.mpr ⟨xk_B_letGo, List.forall_mem_cons.mpr ⟨xk_B_setMaster, List.forall_mem_cons.mpr ⟨xk_B_runTicks, List.forall_mem_cons.mpr ⟨xk_B_isFollowedNow, List.forall_mem_cons.mpr ⟨xk_B_startNext, List.forall_mem_cons.mpr ⟨xk_B_startEntry, List.forall_mem_cons.mpr ⟨xk_K_isExceeded, List.forall_mem_cons.mpr ⟨xk_K_write, List.forall_mem_cons.mpr ⟨xk_K_cutBehind, List.forall_mem_cons.mpr ⟨xk_Q_clear, List.forall_mem_cons.mpr ⟨xk_Q_isList, List.forall_mem_cons.mpr ⟨xk_Q_isCue, List.forall_mem_cons.mpr ⟨xk_Q_addEntry, List.forall_mem_cons.mpr ⟨xk_Q_addStep, List.forall_mem_cons.mpr ⟨xk_Q_hasStep, fun _ h => absurd h List.not_mem_nil⟩⟩⟩⟩⟩⟩⟩⟩⟩⟩⟩⟩⟩⟩⟩⟩⟩⟩⟩⟩⟩⟩⟩⟩⟩⟩⟩⟩⟩⟩⟩⟩
theorem x_mr2 : ∀ q ∈ x_ms_2, x_mok q := List.forall_mem_cons.mpr ⟨xk_Q_cueAt, List.forall_mem_cons.mpr ⟨xk_Q_followAt, List.forall_mem_cons.mpr ⟨xk_V_clear, List.forall_mem_cons.mpr ⟨xk_V_isCurve, List.forall_mem_cons.mpr ⟨xk_V_add, List.forall_mem_cons.mpr ⟨xk_V_bitsAt, List.forall_mem_cons.mpr ⟨xk_V_bentAt, List.forall_mem_cons.mpr ⟨xk_V_seek, List.forall_mem_cons.mpr ⟨xk_V_isHole, List.forall_mem_cons.mpr ⟨xk_V_height, List.forall_mem_cons.mpr ⟨xk_V_fadesBelowZero, List.forall_mem_cons.mpr ⟨xk_V_floatOf, List.forall_mem_cons.mpr ⟨xk_V_bitsOf, List.forall_mem_cons.mpr ⟨xk_F_clear, List.forall_mem_cons.mpr ⟨xk_F_note, List.forall_mem_cons.mpr ⟨xk_F_countOf, List.forall_mem_cons.mpr ⟨xk_L_clear, List.forall_mem_cons.mpr ⟨xk_L_isLine, List.forall_mem_cons.mpr ⟨xk_L_reaches, List.forall_mem_cons.mpr ⟨xk_L_tell, List.forall_mem_cons.mpr ⟨xk_L_pullOut, List.forall_mem_cons.mpr ⟨xk_L_plugIn, List.forall_mem_cons.mpr ⟨xk_L_byteAt, List.forall_mem_cons.mpr ⟨xk_L_wordAt, List.forall_mem_cons.mpr ⟨xk_L_setLimit, List.forall_mem_cons.mpr ⟨xk_L_heatOf, List.forall_mem_cons.mpr ⟨xk_L_overOf, List.forall_mem_cons.mpr ⟨xk_L_blank, List.forall_mem_cons.mpr ⟨xk_L_blankPlugged, List.forall_mem_cons.mpr ⟨xk_L_addTo, List.forall_mem_cons.mpr ⟨xk_X_clear, List.forall_mem_cons.mpr ⟨xk_X_setCurve, fun _ h => absurd h List.not_mem_nil⟩⟩⟩⟩⟩⟩⟩⟩⟩⟩⟩⟩⟩⟩⟩⟩⟩⟩⟩⟩⟩⟩⟩⟩⟩⟩⟩⟩⟩⟩⟩⟩
theorem x_mr3 : ∀ q ∈ x_ms_3, x_mok q := List.forall_mem_cons.mpr ⟨xk_X_setMerge, List.forall_mem_cons.mpr ⟨xk_X_setDark, List.forall_mem_cons.mpr ⟨xk_X_reckonLevels, List.forall_mem_cons.mpr ⟨xk_X_isWhole, List.forall_mem_cons.mpr ⟨xk_X_merged, List.forall_mem_cons.mpr ⟨xk_X_coolLines, List.forall_mem_cons.mpr ⟨xk_X_heatOn, List.forall_mem_cons.mpr ⟨xk_X_cut, List.forall_mem_cons.mpr ⟨xk_X_cutChannel, List.forall_mem_cons.mpr ⟨xk_X_write, List.forall_mem_cons.mpr ⟨xk_X_writeChannel, List.forall_mem_cons.mpr ⟨xk_P_clear, List.forall_mem_cons.mpr ⟨xk_P_put, List.forall_mem_cons.mpr ⟨xk_P_takeOff, List.forall_mem_cons.mpr ⟨xk_P_drop, List.forall_mem_cons.mpr ⟨xk_P_makeFirm, List.forall_mem_cons.mpr ⟨xk_Y_clear, List.forall_mem_cons.mpr ⟨xk_Y_takeList, List.forall_mem_cons.mpr ⟨xk_Y_rewind, List.forall_mem_cons.mpr ⟨xk_Y_dropChannels, List.forall_mem_cons.mpr ⟨xk_Y_moveOn, List.forall_mem_cons.mpr ⟨xk_Y_halt, List.forall_mem_cons.mpr ⟨xk_Y_startFade, List.forall_mem_cons.mpr ⟨xk_Y_stepFades, List.forall_mem_cons.mpr ⟨xk_Y_isFollowDue, List.forall_mem_cons.mpr ⟨xk_R_clear, List.forall_mem_cons.mpr ⟨xk_R_has, List.forall_mem_cons.mpr ⟨xk_R_shows, List.forall_mem_cons.mpr ⟨xk_R_moves, List.forall_mem_cons.mpr ⟨xk_R_add, List.forall_mem_cons.mpr ⟨xk_R_addGroup, List.forall_mem_cons.mpr ⟨xk_R_seat, fun _ h => absurd h List.not_mem_nil⟩⟩⟩⟩⟩⟩⟩⟩⟩⟩⟩⟩⟩⟩⟩⟩⟩⟩⟩⟩⟩⟩⟩⟩⟩⟩⟩⟩⟩⟩⟩⟩
theorem x_mr4 : ∀ q ∈ x_ms_4, x_mok q := List.forall_mem_cons.mpr ⟨xk_R_fits, List.forall_mem_cons.mpr ⟨xk_R_memberOf, List.forall_mem_cons.mpr ⟨xk_R_collect, List.forall_mem_cons.mpr ⟨xk_R_gather, List.forall_mem_cons.mpr ⟨xk_R_answer, List.forall_mem_cons.mpr ⟨xk_R_answerOf, List.forall_mem_cons.mpr ⟨xk_R_traceAt, List.forall_mem_cons.mpr ⟨xk_R_mark, List.forall_mem_cons.mpr ⟨xk_R_spanOf, List.forall_mem_cons.mpr ⟨xk_R_spanOfOne, List.forall_mem_cons.mpr ⟨xk_R_heatOf, List.forall_mem_cons.mpr ⟨xk_R_reachOf, List.forall_mem_cons.mpr ⟨xk_R_mostOf, List.forall_mem_cons.mpr ⟨xk_R_isChannel, List.forall_mem_cons.mpr ⟨xk_R_channelsOf, List.forall_mem_cons.mpr ⟨xk_R_isWide, List.forall_mem_cons.mpr ⟨xk_R_isDimming, List.forall_mem_cons.mpr ⟨xk_R_startOf, List.forall_mem_cons.mpr ⟨xk_R_endOf, List.forall_mem_cons.mpr ⟨xk_m_begin, List.forall_mem_cons.mpr ⟨xk_m_in, List.forall_mem_cons.mpr ⟨xk_m_finds, List.forall_mem_cons.mpr ⟨xk_m_noted, List.forall_mem_cons.mpr ⟨xk_m_called, List.forall_mem_cons.mpr ⟨xk_m_playBook, List.forall_mem_cons.mpr ⟨xk_m_replay, List.forall_mem_cons.mpr ⟨xk_m_back, List.forall_mem_cons.mpr ⟨xk_m_isLine, List.forall_mem_cons.mpr ⟨xk_m_darken, List.forall_mem_cons.mpr ⟨xk_m_lined, List.forall_mem_cons.mpr ⟨xk_m_line, List.forall_mem_cons.mpr ⟨xk_m_turned, fun _ h => absurd h List.not_mem_nil⟩⟩⟩⟩⟩⟩⟩⟩⟩⟩⟩⟩⟩⟩⟩⟩⟩⟩⟩⟩⟩⟩⟩⟩⟩⟩⟩⟩⟩⟩⟩⟩
theorem x_mr5 : ∀ q ∈ x_ms_5, x_mok q := List.forall_mem_cons.mpr ⟨xk_m_pull, List.forall_mem_cons.mpr ⟨xk_m_plug, List.forall_mem_cons.mpr ⟨xk_m_asked, List.forall_mem_cons.mpr ⟨xk_m_at, List.forall_mem_cons.mpr ⟨xk_m_wide, List.forall_mem_cons.mpr ⟨xk_m_isFixture, List.forall_mem_cons.mpr ⟨xk_m_kindOf, List.forall_mem_cons.mpr ⟨xk_m_newFixture, List.forall_mem_cons.mpr ⟨xk_m_fixed, List.forall_mem_cons.mpr ⟨xk_m_fixture, List.forall_mem_cons.mpr ⟨xk_m_grouped, List.forall_mem_cons.mpr ⟨xk_m_group, List.forall_mem_cons.mpr ⟨xk_m_isOf, List.forall_mem_cons.mpr ⟨xk_m_placed, List.forall_mem_cons.mpr ⟨xk_m_member, List.forall_mem_cons.mpr ⟨xk_m_open, List.forall_mem_cons.mpr ⟨xk_m_next, List.forall_mem_cons.mpr ⟨xk_m_meet, List.forall_mem_cons.mpr ⟨xk_m_gather, List.forall_mem_cons.mpr ⟨xk_m_memberAt, List.forall_mem_cons.mpr ⟨xk_m_by, List.forall_mem_cons.mpr ⟨xk_m_span, List.forall_mem_cons.mpr ⟨xk_m_spanOfAll, List.forall_mem_cons.mpr ⟨xk_m_heatByBodies, List.forall_mem_cons.mpr ⟨xk_m_reach, List.forall_mem_cons.mpr ⟨xk_m_mostByBodies, List.forall_mem_cons.mpr ⟨xk_m_asks, List.forall_mem_cons.mpr ⟨xk_m_trace, List.forall_mem_cons.mpr ⟨xk_m_about, List.forall_mem_cons.mpr ⟨xk_m_patched, List.forall_mem_cons.mpr ⟨xk_m_patch, List.forall_mem_cons.mpr ⟨xk_m_unpatched, fun _ h => absurd h List.not_mem_nil⟩⟩⟩⟩⟩⟩⟩⟩⟩⟩⟩⟩⟩⟩⟩⟩⟩⟩⟩⟩⟩⟩⟩⟩⟩⟩⟩⟩⟩⟩⟩⟩
theorem x_mr6 : ∀ q ∈ x_ms_6, x_mok q := List.forall_mem_cons.mpr ⟨xk_m_unpatch, List.forall_mem_cons.mpr ⟨xk_m_firm, List.forall_mem_cons.mpr ⟨xk_m_isChannel, List.forall_mem_cons.mpr ⟨xk_m_isWide, List.forall_mem_cons.mpr ⟨xk_m_isDimming, List.forall_mem_cons.mpr ⟨xk_m_pointed, List.forall_mem_cons.mpr ⟨xk_m_point, List.forall_mem_cons.mpr ⟨xk_m_isNone, List.forall_mem_cons.mpr ⟨xk_m_curveAt, List.forall_mem_cons.mpr ⟨xk_m_curve, List.forall_mem_cons.mpr ⟨xk_m_bent, List.forall_mem_cons.mpr ⟨xk_m_bend, List.forall_mem_cons.mpr ⟨xk_m_entered, List.forall_mem_cons.mpr ⟨xk_m_entry, List.forall_mem_cons.mpr ⟨xk_m_listed, List.forall_mem_cons.mpr ⟨xk_m_list, List.forall_mem_cons.mpr ⟨xk_m_isPlayback, List.forall_mem_cons.mpr ⟨xk_m_load, List.forall_mem_cons.mpr ⟨xk_m_fade, List.forall_mem_cons.mpr ⟨xk_m_hasNext, List.forall_mem_cons.mpr ⟨xk_m_goes, List.forall_mem_cons.mpr ⟨xk_m_go, List.forall_mem_cons.mpr ⟨xk_m_fades, List.forall_mem_cons.mpr ⟨xk_m_stop, List.forall_mem_cons.mpr ⟨xk_m_channels, List.forall_mem_cons.mpr ⟨xk_m_release, List.forall_mem_cons.mpr ⟨xk_m_master, List.forall_mem_cons.mpr ⟨xk_m_merged, List.forall_mem_cons.mpr ⟨xk_m_merge, List.forall_mem_cons.mpr ⟨xk_m_value, List.forall_mem_cons.mpr ⟨xk_m_playback, List.forall_mem_cons.mpr ⟨xk_m_limit, fun _ h => absurd h List.not_mem_nil⟩⟩⟩⟩⟩⟩⟩⟩⟩⟩⟩⟩⟩⟩⟩⟩⟩⟩⟩⟩⟩⟩⟩⟩⟩⟩⟩⟩⟩⟩⟩⟩
theorem x_mr7 : ∀ q ∈ x_ms_7, x_mok q := List.forall_mem_cons.mpr ⟨xk_m_heat, List.forall_mem_cons.mpr ⟨xk_m_over, List.forall_mem_cons.mpr ⟨xk_m_blackout, List.forall_mem_cons.mpr ⟨xk_m_floor, List.forall_mem_cons.mpr ⟨xk_m_play, List.forall_mem_cons.mpr ⟨xk_m_mergedValue, List.forall_mem_cons.mpr ⟨xk_m_bentValue, List.forall_mem_cons.mpr ⟨xk_m_mostOf, List.forall_mem_cons.mpr ⟨xk_m_heatOf, List.forall_mem_cons.mpr ⟨xk_m_work, List.forall_mem_cons.mpr ⟨xk_m_placeOf, List.forall_mem_cons.mpr ⟨xk_m_isWhole, List.forall_mem_cons.mpr ⟨xk_m_isWarm, List.forall_mem_cons.mpr ⟨xk_m_patchedBefore, List.forall_mem_cons.mpr ⟨xk_m_cut, List.forall_mem_cons.mpr ⟨xk_m_warm, List.forall_mem_cons.mpr ⟨xk_m_write, List.forall_mem_cons.mpr ⟨xk_m_writeAll, List.forall_mem_cons.mpr ⟨xk_m_tickOnce, List.forall_mem_cons.mpr ⟨xk_m_tick, List.forall_mem_cons.mpr ⟨xk_m_found, List.forall_mem_cons.mpr ⟨xk_m_digest, List.forall_mem_cons.mpr ⟨xk_m_told, List.forall_mem_cons.mpr ⟨xk_J_isNaN, List.forall_mem_cons.mpr ⟨xk_J_floatToIntBits, List.forall_mem_cons.mpr ⟨xk_J_floorDiv, List.forall_mem_cons.mpr ⟨xk_J_max, List.forall_mem_cons.mpr ⟨xk_J_min, List.forall_mem_cons.mpr ⟨xk_J_fill, fun _ h => absurd h List.not_mem_nil⟩⟩⟩⟩⟩⟩⟩⟩⟩⟩⟩⟩⟩⟩⟩⟩⟩⟩⟩⟩⟩⟩⟩⟩⟩⟩⟩⟩⟩
theorem x_ms_ok : ∀ q ∈ x_ms, x_mok q := List.forall_mem_append.mpr ⟨x_mr0, List.forall_mem_append.mpr ⟨x_mr1, List.forall_mem_append.mpr ⟨x_mr2, List.forall_mem_append.mpr ⟨x_mr3, List.forall_mem_append.mpr ⟨x_mr4, List.forall_mem_append.mpr ⟨x_mr5, List.forall_mem_append.mpr ⟨x_mr6, x_mr7⟩⟩⟩⟩⟩⟩⟩
