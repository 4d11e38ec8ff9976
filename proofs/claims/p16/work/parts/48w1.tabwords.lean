set_option maxRecDepth 100000 in
theorem z_in_0 : ∀ w ∈ u_ws RX0 TX0 3, w ∈ lw_tbl := z_mem [422, 424, 426] (by decide +kernel)
set_option maxRecDepth 100000 in
theorem z_in_1 : ∀ w ∈ u_ws RX1 TX1 4, w ∈ lw_tbl := z_mem [178, 180, 182, 184] (by decide +kernel)
set_option maxRecDepth 100000 in
theorem z_in_2 : ∀ w ∈ u_ws RX2 TX2 9, w ∈ lw_tbl := z_mem [219, 221, 223, 225, 227, 229, 231, 233, 235] (by decide +kernel)
set_option maxRecDepth 100000 in
theorem z_in_3 : ∀ w ∈ u_ws RX3 TX3 3, w ∈ lw_tbl := z_mem [463, 465, 467] (by decide +kernel)
set_option maxRecDepth 100000 in
theorem z_in_4 : ∀ w ∈ u_ws RX4 TX4 4, w ∈ lw_tbl := z_mem [253, 255, 257, 259] (by decide +kernel)
set_option maxRecDepth 100000 in
theorem z_in_5 : ∀ w ∈ u_ws RX5 TX5 19, w ∈ lw_tbl := z_mem [374, 376, 378, 380, 382, 384, 386, 388, 390, 392, 394, 396, 398, 400, 402, 404, 406, 408, 410] (by decide +kernel)
set_option maxRecDepth 100000 in
theorem z_in_6 : ∀ w ∈ u_ws RX6 TX6 6, w ∈ lw_tbl := z_mem [285, 287, 289, 291, 293, 295] (by decide +kernel)
set_option maxRecDepth 100000 in
theorem z_in_7 : ∀ w ∈ u_ws RX7 TX7 12, w ∈ lw_tbl := z_mem [317, 319, 321, 323, 325, 327, 329, 331, 333, 335, 337, 339] (by decide +kernel)
set_option maxRecDepth 100000 in
theorem z_in_8 : ∀ w ∈ u_ws RX8 TX8 6, w ∈ lw_tbl := z_mem [149, 151, 153, 155, 157, 159] (by decide +kernel)
set_option maxRecDepth 100000 in
theorem z_in_9 : ∀ w ∈ u_ws RX9 TX9 5, w ∈ lw_tbl := z_mem [441, 443, 445, 447, 449] (by decide +kernel)
set_option maxRecDepth 100000 in
theorem z_in_10 : ∀ w ∈ u_ws RX10 TX10 14, w ∈ lw_tbl := z_mem [484, 486, 488, 490, 492, 494, 496, 498, 500, 502, 504, 506, 508, 510] (by decide +kernel)
set_option maxRecDepth 100000 in
theorem z_in_11 : ∀ w ∈ u_ws RX11 TX11 30, w ∈ lw_tbl := z_mem [1261, 1263, 1265, 1267, 1269, 1271, 1273, 1275, 1277, 1279, 1281, 1283, 1285, 1287, 1289, 1291, 1293, 1295, 1297, 1299, 1301, 1303, 1305, 1307, 1309, 1311, 1313, 1315, 1317, 1319] (by decide +kernel)
set_option maxRecDepth 100000 in
theorem z_in_12 : ∀ w ∈ u_ws RX12 TX12 10, w ∈ lw_tbl := z_mem [1370, 1372, 1374, 1376, 1378, 1380, 1382, 1384, 1386, 1388] (by decide +kernel)
set_option maxRecDepth 100000 in
theorem z_in_13 : ∀ w ∈ u_ws RX13 TX13 8, w ∈ lw_tbl := z_mem [1326, 1327, 1328, 1329, 1330, 1349, 1345, 1347] (by decide +kernel)
set_option maxRecDepth 100000 in
theorem z_in_14 : ∀ w ∈ u_ws RX14 TX14 40, w ∈ lw_tbl := z_mem [1431, 1433, 1435, 1437, 1439, 1441, 1443, 1445, 1447, 1449, 1451, 1453, 1455, 1457, 1459, 1461, 1463, 1465, 1467, 1469, 1471, 1473, 1475, 1477, 1479, 1481, 1483, 1485, 1487, 1489, 1491, 1493, 1495, 1497, 1499, 1501, 1503, 1505, 1507, 1509] (by decide +kernel)
theorem zt_zc_lay : ∀ w ∈ zc_lay, w ∈ lw_tbl := z_app z_in_0 (z_app z_in_1 (z_app z_in_2 (z_app z_in_3 (z_app z_in_4 (z_app z_in_5 (z_app z_in_6 (z_app z_in_7 (z_app z_in_8 (z_app z_in_9 (z_app z_in_10 (z_app z_in_11 (z_app z_in_12 (z_app z_in_13 (z_in_14))))))))))))))
set_option maxRecDepth 100000 in
theorem zt_zc_thr : ∀ w ∈ zc_thr, w ∈ lw_tbl := z_mem [1089, 118, 107, 1111, 1120, 1123, 1126, 1128, 1112, 1113, 127, 128, 1114, 1119, 1124, 1144, 1101, 1145, 1103, 1146, 1105, 1115, 1117, 1107, 1140, 1141, 1143, 1107, 1131, 1132, 1133, 1134, 1134, 1135, 1136, 1137, 1137, 1138, 1139, 1140, 1130, 1090, 1098, 1099, 1100, 1102, 1104, 1106, 1110, 1109, 1108] (by decide +kernel)
def zd_zc_RJ0_0 : List Cond := [.instanceMethod yJ0_length_8abf5, .selects RJ0 yJ0_length_8abf5 yJ0_length_8abf5, .instanceMethod yJ0_charAt_5068e, .selects RJ0 yJ0_charAt_5068e yJ0_charAt_5068e, .code yJ0_length_8abf5 cJ0_length_8abf5 1 (some .int), .initialized RJ0, .fieldLink RJ0 9 "java/lang/String" "value" "[B", .methodLink RJ0 335 yJ0_coder_7d493, .instanceMethod yJ0_coder_7d493, .selects RJ0 yJ0_coder_7d493 yJ0_coder_7d493, .code yJ0_charAt_5068e cJ0_charAt_5068e 2 (some .char), .methodLink RJ0 492 yJ0_isLatin1_aae02, .instanceMethod yJ0_isLatin1_aae02, .selects RJ0 yJ0_isLatin1_aae02 yJ0_isLatin1_aae02, .methodLink RJ0 495 yJ1_charAt_3b067, .static yJ1_charAt_3b067, .code yJ0_coder_7d493 cJ0_coder_7d493 1 (some .byte), .fieldLink RJ0 38 "java/lang/String" "COMPACT_STRINGS" "Z", .fieldLink RJ0 15 "java/lang/String" "coder" "B", .code yJ0_isLatin1_aae02 cJ0_isLatin1_aae02 1 (some .boolean)]
set_option maxRecDepth 100000 in
theorem zt_zc_RJ0_0 : ∀ w ∈ zd_zc_RJ0_0, w ∈ lw_tbl := z_mem [595, 596, 605, 606, 597, 114, 1809, 598, 599, 600, 607, 608, 609, 610, 612, 613, 601, 602, 1810, 611] (by decide +kernel)
def zd_zc_RJ0_1 : List Cond := [.code yJ0_checkIndex_df160 cJ0_checkIndex_df160 2 none, .fieldLink RJ0 1053 "jdk/internal/util/Preconditions" "SIOOBE_FORMATTER" "Ljava/util/function/BiFunction;", .methodLink RJ0 1059 yJ3_checkIndex_8e157, .static yJ3_checkIndex_8e157]
set_option maxRecDepth 100000 in
theorem zt_zc_RJ0_1 : ∀ w ∈ zd_zc_RJ0_1, w ∈ lw_tbl := z_mem [617, 618, 620, 621] (by decide +kernel)
set_option maxRecDepth 100000 in
theorem zt_zc_RJ0 : ∀ w ∈ zc_RJ0, w ∈ lw_tbl := show ∀ w ∈ zd_zc_RJ0_0 ++ (zd_zc_RJ0_1), w ∈ lw_tbl from z_app zt_zc_RJ0_0 (zt_zc_RJ0_1)
def zd_zc_RJ1_0 : List Cond := [.code yJ1_charAt_3b067 cJ1_charAt_3b067 2 (some .char), .initialized RJ1, .methodLink RJ1 9 yJ0_checkIndex_df160, .static yJ0_checkIndex_df160]
set_option maxRecDepth 100000 in
theorem zt_zc_RJ1_0 : ∀ w ∈ zd_zc_RJ1_0, w ∈ lw_tbl := z_mem [614, 115, 615, 616] (by decide +kernel)
set_option maxRecDepth 100000 in
theorem zt_zc_RJ1 : ∀ w ∈ zc_RJ1, w ∈ lw_tbl := show ∀ w ∈ zd_zc_RJ1_0, w ∈ lw_tbl from zt_zc_RJ1_0
def zd_zc_RJ3_0 : List Cond := [.code yJ3_checkIndex_8e157 cJ3_checkIndex_8e157 3 (some .int), .initialized RJ3]
set_option maxRecDepth 100000 in
theorem zt_zc_RJ3_0 : ∀ w ∈ zd_zc_RJ3_0, w ∈ lw_tbl := z_mem [622, 116] (by decide +kernel)
set_option maxRecDepth 100000 in
theorem zt_zc_RJ3 : ∀ w ∈ zc_RJ3, w ∈ lw_tbl := show ∀ w ∈ zd_zc_RJ3_0, w ∈ lw_tbl from zt_zc_RJ3_0
def zd_zc_RJ6_0 : List Cond := [.code yJ6_bitCount_0f7a4 cJ6_bitCount_0f7a4 1 (some .int), .initialized RJ6, .constant RJ6 265 (1431655765), .constant RJ6 266 (858993459), .constant RJ6 267 (252645135)]
set_option maxRecDepth 100000 in
theorem zt_zc_RJ6_0 : ∀ w ∈ zd_zc_RJ6_0, w ∈ lw_tbl := z_mem [995, 120, 996, 997, 998] (by decide +kernel)
set_option maxRecDepth 100000 in
theorem zt_zc_RJ6 : ∀ w ∈ zc_RJ6, w ∈ lw_tbl := show ∀ w ∈ zd_zc_RJ6_0, w ∈ lw_tbl from zt_zc_RJ6_0
def zd_zc_RJ13_0 : List Cond := [.code yJ13_bitCount_95d88 cJ13_bitCount_95d88 2 (some .int), .initialized RJ13, .constantLong RJ13 314 (6148914691236517205), .constantLong RJ13 316 (3689348814741910323), .constantLong RJ13 318 (1085102592571150095)]
set_option maxRecDepth 100000 in
theorem zt_zc_RJ13_0 : ∀ w ∈ zd_zc_RJ13_0, w ∈ lw_tbl := z_mem [943, 119, 944, 945, 946] (by decide +kernel)
set_option maxRecDepth 100000 in
theorem zt_zc_RJ13 : ∀ w ∈ zc_RJ13, w ∈ lw_tbl := show ∀ w ∈ zd_zc_RJ13_0, w ∈ lw_tbl from zt_zc_RJ13_0
def zd_zc_RL_0 : List Cond := [.codeWith yL_name cL_name 5 (some .int) [(0, 10, 13, 13)], .initialized RL, .methodLink RL 7 yX10_name, .codeWith yL_said cL_said 4 (some .int) [(0, 9, 12, 13)], .methodLink RL 15 yX10_said, .codeWith yL_trace cL_trace 5 (some .int) [(0, 10, 13, 13)], .methodLink RL 19 yX10_trace, .classLink RL 13 "java/util/NoSuchElementException"]
set_option maxRecDepth 100000 in
theorem zt_zc_RL_0 : ∀ w ∈ zd_zc_RL_0, w ∈ lw_tbl := z_mem [1083, 93, 1085, 1159, 1160, 1176, 1177, 1084] (by decide +kernel)
set_option maxRecDepth 100000 in
theorem zt_zc_RL : ∀ w ∈ zc_RL, w ∈ lw_tbl := show ∀ w ∈ zd_zc_RL_0, w ∈ lw_tbl from zt_zc_RL_0
def zd_zc_RX0_0 : List Cond := [.code yX0_forget cX0_forget 1 none, .initialized RX0, .fieldLink RX0 20 "LessonMaker$Chapters" "known" "Z", .code yX0_callsAhead cX0_callsAhead 2 (some .int), .methodLink RX0 24 yX0_find, .instanceMethod yX0_find, .selects RX0 yX0_find yX0_find, .fieldLink RX0 11 "LessonMaker$Chapters" "best" "[I", .code yX0_functionAt cX0_functionAt 3 (some .int), .fieldLink RX0 17 "LessonMaker$Chapters" "order" "[I", .code yX0_find cX0_find 5 none, .fieldLink RX0 28 "LessonMaker$Program" "functionCount" "I", .methodLink RX0 32 Lib.Math.min.name, .static Lib.Math.min.name, .initialized "java/lang/Math", .code Lib.Math.min.name Lib.Math.min.code 2 (some .int), .methodLink RX0 38 yX0_firstOfBest, .instanceMethod yX0_firstOfBest, .selects RX0 yX0_firstOfBest yX0_firstOfBest, .methodLink RX0 42 yX0_costBehind]
set_option maxRecDepth 100000 in
theorem zt_zc_RX0_0 : ∀ w ∈ zd_zc_RX0_0, w ∈ lw_tbl := z_mem [808, 102, 421, 978, 979, 981, 52, 419, 1006, 420, 982, 281, 983, 550, 112, 551, 984, 986, 53, 988] (by decide +kernel)
def zd_zc_RX0_1 : List Cond := [.instanceMethod yX0_costBehind, .selects RX0 yX0_costBehind yX0_costBehind, .code yX0_firstOfBest cX0_firstOfBest 8 (some .int), .code yX0_costBehind cX0_costBehind 5 (some .int), .methodLink RX0 46 yX6_hasFunction, .fieldLink RX0 50 "LessonMaker$Program" "functions" "[LLessonMaker$Function;", .fieldLink RX0 54 "LessonMaker$Function" "calls" "I", .methodLink RX0 59 yJ6_bitCount_0f7a4, .static yJ6_bitCount_0f7a4, .instanceMethod yX0_callsAhead, .selects RX0 yX0_callsAhead yX0_callsAhead, .instanceMethod yX0_functionAt, .selects RX0 yX0_functionAt yX0_functionAt, .instanceMethod yX0_forget, .selects RX0 yX0_forget yX0_forget]
set_option maxRecDepth 100000 in
theorem zt_zc_RX0_1 : ∀ w ∈ zd_zc_RX0_1, w ∈ lw_tbl := z_mem [990, 54, 987, 991, 992, 274, 212, 993, 994, 976, 977, 1004, 1005, 806, 807] (by decide +kernel)
set_option maxRecDepth 100000 in
theorem zt_zc_RX0 : ∀ w ∈ zc_RX0, w ∈ lw_tbl := show ∀ w ∈ zd_zc_RX0_0 ++ (zd_zc_RX0_1), w ∈ lw_tbl from z_app zt_zc_RX0_0 (zt_zc_RX0_1)
def zd_zc_RX1_0 : List Cond := [.code yX1_clear cX1_clear 1 none, .initialized RX1, .fieldLink RX1 21 "LessonMaker$Code" "size" "I", .code yX1_add cX1_add 4 (some .int), .fieldLink RX1 11 "LessonMaker$Code" "acts" "[I", .fieldLink RX1 15 "LessonMaker$Code" "numbers" "[I", .fieldLink RX1 18 "LessonMaker$Code" "lines" "[I", .code yX1_setNumber cX1_setNumber 3 none, .methodLink RX1 25 yX1_has, .instanceMethod yX1_has, .selects RX1 yX1_has yX1_has, .code yX1_has cX1_has 2 (some .boolean), .instanceMethod yX1_clear, .selects RX1 yX1_clear yX1_clear, .instanceMethod yX1_add, .selects RX1 yX1_add yX1_add, .instanceMethod yX1_setNumber, .selects RX1 yX1_setNumber yX1_setNumber]
set_option maxRecDepth 100000 in
theorem zt_zc_RX1_0 : ∀ w ∈ zd_zc_RX1_0, w ∈ lw_tbl := z_mem [544, 97, 176, 729, 170, 172, 174, 780, 781, 782, 783, 784, 542, 543, 727, 728, 778, 779] (by decide +kernel)
set_option maxRecDepth 100000 in
theorem zt_zc_RX1 : ∀ w ∈ zc_RX1, w ∈ lw_tbl := show ∀ w ∈ zd_zc_RX1_0, w ∈ lw_tbl from zt_zc_RX1_0
def zd_zc_RX2_0 : List Cond := [.code yX2_begin cX2_begin 4 none, .initialized RX2, .fieldLink RX2 13 "LessonMaker$Function" "firstToken" "I", .fieldLink RX2 17 "LessonMaker$Function" "firstLine" "I", .fieldLink RX2 20 "LessonMaker$Function" "firstAct" "I", .fieldLink RX2 23 "LessonMaker$Function" "calls" "I", .fieldLink RX2 26 "LessonMaker$Function" "placeCount" "I", .code yX2_hasPlace cX2_hasPlace 3 (some .boolean), .fieldLink RX2 9 "LessonMaker$Function" "places" "[I", .code yX2_addPlace cX2_addPlace 2 none, .code yX2_placeAt cX2_placeAt 2 (some .int), .instanceMethod yX2_placeAt, .selects RX2 yX2_placeAt yX2_placeAt, .instanceMethod yX2_begin, .selects RX2 yX2_begin yX2_begin, .instanceMethod yX2_hasPlace, .selects RX2 yX2_hasPlace yX2_hasPlace, .instanceMethod yX2_addPlace, .selects RX2 yX2_addPlace yX2_addPlace]
set_option maxRecDepth 100000 in
theorem zt_zc_RX2_0 : ∀ w ∈ zd_zc_RX2_0, w ∈ lw_tbl := z_mem [662, 98, 198, 202, 207, 209, 214, 702, 218, 706, 882, 880, 881, 660, 661, 700, 701, 704, 705] (by decide +kernel)
set_option maxRecDepth 100000 in
theorem zt_zc_RX2 : ∀ w ∈ zc_RX2, w ∈ lw_tbl := show ∀ w ∈ zd_zc_RX2_0, w ∈ lw_tbl from zt_zc_RX2_0
def zd_zc_RX3_0 : List Cond := [.code yX3_stateOf cX3_stateOf 2 (some .int), .initialized RX3, .fieldLink RX3 11 "LessonMaker$Growth" "states" "[I", .code yX3_compare cX3_compare 5 none, .fieldLink RX3 20 "LessonMaker$Program" "functionCount" "I", .methodLink RX3 24 yX3_isNew, .static yX3_isNew, .methodLink RX3 28 yX3_findReaches, .instanceMethod yX3_findReaches, .selects RX3 yX3_findReaches yX3_findReaches, .fieldLink RX3 17 "LessonMaker$Growth" "reaches" "[I", .methodLink RX3 32 yX3_countGone, .static yX3_countGone, .fieldLink RX3 36 "LessonMaker$Growth" "goneCount" "I", .code yX3_isNew cX3_isNew 7 (some .boolean), .methodLink RX3 39 yX6_hasFunction, .fieldLink RX3 43 "LessonMaker$Program" "functions" "[LLessonMaker$Function;", .fieldLink RX3 47 "LessonMaker$Program" "tokens" "LLessonMaker$Tokens;", .fieldLink RX3 51 "LessonMaker$Function" "name" "I", .methodLink RX3 56 yX6_functionNamed]
set_option maxRecDepth 100000 in
theorem zt_zc_RX3_0 : ∀ w ∈ zd_zc_RX3_0, w ∈ lw_tbl := z_mem [1068, 104, 459, 812, 278, 813, 814, 819, 821, 34, 460, 824, 825, 461, 815, 816, 272, 264, 194, 817] (by decide +kernel)
def zd_zc_RX3_1 : List Cond := [.fieldLink RX3 60 "LessonMaker$Function" "lastToken" "I", .fieldLink RX3 63 "LessonMaker$Function" "firstToken" "I", .methodLink RX3 66 yX8_isLike, .code yX3_findReaches cX3_findReaches 5 none, .methodLink RX3 72 Lib.Math.min.name, .static Lib.Math.min.name, .initialized "java/lang/Math", .code Lib.Math.min.name Lib.Math.min.code 2 (some .int), .fieldLink RX3 78 "LessonMaker$Function" "calls" "I", .code yX3_countGone cX3_countGone 4 (some .int), .instanceMethod yX3_stateOf, .selects RX3 yX3_stateOf yX3_stateOf, .instanceMethod yX3_compare, .selects RX3 yX3_compare yX3_compare]
set_option maxRecDepth 100000 in
theorem zt_zc_RX3_1 : ∀ w ∈ zd_zc_RX3_1, w ∈ lw_tbl := z_mem [201, 199, 818, 822, 823, 550, 112, 551, 210, 826, 1066, 1067, 810, 811] (by decide +kernel)
set_option maxRecDepth 100000 in
theorem zt_zc_RX3 : ∀ w ∈ zc_RX3, w ∈ lw_tbl := show ∀ w ∈ zd_zc_RX3_0 ++ (zd_zc_RX3_1), w ∈ lw_tbl from z_app zt_zc_RX3_0 (zt_zc_RX3_1)
def zd_zc_RX5_0 : List Cond := [.code yX5_start cX5_start 4 none, .initialized RX5, .fieldLink RX5 27 "LessonMaker$Machine" "program" "LLessonMaker$Program;", .fieldLink RX5 31 "LessonMaker$Machine" "fuel" "I", .fieldLink RX5 35 "LessonMaker$Machine" "rule" "I", .fieldLink RX5 38 "LessonMaker$Machine" "end" "I", .fieldLink RX5 41 "LessonMaker$Machine" "value" "I", .fieldLink RX5 44 "LessonMaker$Machine" "steps" "I", .fieldLink RX5 47 "LessonMaker$Machine" "saidCount" "I", .fieldLink RX5 50 "LessonMaker$Machine" "traceCount" "I", .fieldLink RX5 53 "LessonMaker$Machine" "deepest" "I", .fieldLink RX5 56 "LessonMaker$Machine" "covers" "J", .fieldLink RX5 60 "LessonMaker$Machine" "depth" "I", .fieldLink RX5 63 "LessonMaker$Machine" "top" "I", .fieldLink RX5 66 "LessonMaker$Machine" "going" "Z", .code yX5_finish cX5_finish 8 none, .methodLink RX5 70 yX6_hasFunction, .methodLink RX5 76 yX5_push, .instanceMethod yX5_push, .selects RX5 yX5_push yX5_push]
set_option maxRecDepth 100000 in
theorem zt_zc_RX5_0 : ∀ w ∈ zd_zc_RX5_0, w ∈ lw_tbl := z_mem [855, 101, 365, 367, 366, 348, 350, 352, 354, 356, 358, 360, 370, 373, 368, 859, 860, 861, 863, 35] (by decide +kernel)
def zd_zc_RX5_1 : List Cond := [.fieldLink RX5 80 "LessonMaker$Program" "functions" "[LLessonMaker$Function;", .fieldLink RX5 84 "LessonMaker$Function" "placeCount" "I", .methodLink RX5 89 Lib.Math.min.name, .static Lib.Math.min.name, .initialized "java/lang/Math", .code Lib.Math.min.name Lib.Math.min.code 2 (some .int), .methodLink RX5 95 yX5_enter, .instanceMethod yX5_enter, .selects RX5 yX5_enter yX5_enter, .fieldLink RX5 98 "LessonMaker$Program" "code" "LLessonMaker$Code;", .constant RX5 102 (4000000), .fieldLink RX5 103 "LessonMaker$Machine" "next" "I", .methodLink RX5 106 yX1_has, .fieldLink RX5 111 "LessonMaker$Code" "acts" "[I", .fieldLink RX5 114 "LessonMaker$Code" "numbers" "[I", .fieldLink RX5 117 "LessonMaker$Code" "lines" "[I", .methodLink RX5 120 yX5_obey, .instanceMethod yX5_obey, .selects RX5 yX5_obey yX5_obey, .code yX5_keepsSaid cX5_keepsSaid 2 (some .boolean)]
set_option maxRecDepth 100000 in
theorem zt_zc_RX5_1 : ∀ w ∈ zd_zc_RX5_1, w ∈ lw_tbl := z_mem [271, 215, 865, 550, 112, 551, 866, 868, 36, 268, 887, 369, 888, 171, 173, 175, 889, 891, 40, 1167] (by decide +kernel)
def zd_zc_RX5_2 : List Cond := [.fieldLink RX5 11 "LessonMaker$Machine" "said" "[I", .code yX5_saidAt cX5_saidAt 2 (some .int), .methodLink RX5 124 yX5_keepsSaid, .instanceMethod yX5_keepsSaid, .selects RX5 yX5_keepsSaid yX5_keepsSaid, .code yX5_keepsTrace cX5_keepsTrace 3 (some .boolean), .code yX5_traceAt cX5_traceAt 3 (some .int), .methodLink RX5 127 yX5_keepsTrace, .instanceMethod yX5_keepsTrace, .selects RX5 yX5_keepsTrace yX5_keepsTrace, .fieldLink RX5 15 "LessonMaker$Machine" "trace" "[I", .code yX5_firstCallsPlace cX5_firstCallsPlace 2 (some .int), .fieldLink RX5 18 "LessonMaker$Machine" "places" "[I", .code yX5_tellsLike cX5_tellsLike 3 (some .boolean), .code yX5_obey cX5_obey 4 none, .methodLink RX5 131 yX5_begin, .instanceMethod yX5_begin, .selects RX5 yX5_begin yX5_begin, .methodLink RX5 134 yX5_placeNow, .instanceMethod yX5_placeNow]
set_option maxRecDepth 100000 in
theorem zt_zc_RX5_2 : ∀ w ∈ zd_zc_RX5_2, w ∈ lw_tbl := z_mem [362, 1172, 1173, 1165, 1166, 1184, 1189, 1190, 1182, 1183, 363, 958, 364, 970, 892, 893, 895, 41, 901, 903] (by decide +kernel)
def zd_zc_RX5_3 : List Cond := [.selects RX5 yX5_placeNow yX5_placeNow, .methodLink RX5 138 yX5_set, .instanceMethod yX5_set, .selects RX5 yX5_set yX5_set, .methodLink RX5 142 yX5_say, .instanceMethod yX5_say, .selects RX5 yX5_say yX5_say, .methodLink RX5 145 yX5_giveBack, .instanceMethod yX5_giveBack, .selects RX5 yX5_giveBack yX5_giveBack, .methodLink RX5 148 yX5_branch, .instanceMethod yX5_branch, .selects RX5 yX5_branch yX5_branch, .methodLink RX5 151 yX5_again, .instanceMethod yX5_again, .selects RX5 yX5_again yX5_again, .methodLink RX5 154 yX5_leave, .instanceMethod yX5_leave, .selects RX5 yX5_leave yX5_leave, .methodLink RX5 157 yX5_reckon]
set_option maxRecDepth 100000 in
theorem zt_zc_RX5_3 : ∀ w ∈ zd_zc_RX5_3, w ∈ lw_tbl := z_mem [43, 905, 907, 44, 913, 915, 46, 917, 919, 47, 925, 927, 49, 929, 931, 50, 921, 923, 48, 933] (by decide +kernel)
def zd_zc_RX5_4 : List Cond := [.instanceMethod yX5_reckon, .selects RX5 yX5_reckon yX5_reckon, .code yX5_reckon cX5_reckon 4 none, .methodLink RX5 160 yX5_pop, .instanceMethod yX5_pop, .selects RX5 yX5_pop yX5_pop, .code yX5_begin cX5_begin 2 none, .methodLink RX5 164 yX5_spendStep, .instanceMethod yX5_spendStep, .selects RX5 yX5_spendStep yX5_spendStep, .code yX5_spendStep cX5_spendStep 1 (some .boolean), .methodLink RX5 168 yX5_stop, .instanceMethod yX5_stop, .selects RX5 yX5_stop yX5_stop, .code yX5_stop cX5_stop 2 none, .code yX5_enter cX5_enter 4 none, .fieldLink RX5 21 "LessonMaker$Machine" "backs" "[I", .methodLink RX5 171 Lib.Math.max.name, .static Lib.Math.max.name, .code Lib.Math.max.name Lib.Math.max.code 2 (some .int)]
set_option maxRecDepth 100000 in
theorem zt_zc_RX5_4 : ∀ w ∈ zd_zc_RX5_4, w ∈ lw_tbl := z_mem [935, 51, 936, 883, 885, 39, 896, 897, 899, 42, 900, 870, 872, 37, 873, 869, 371, 874, 553, 554] (by decide +kernel)
def zd_zc_RX5_5 : List Cond := [.methodLink RX5 174 yX5_setPlace, .instanceMethod yX5_setPlace, .selects RX5 yX5_setPlace yX5_setPlace, .methodLink RX5 177 yX2_placeAt, .fieldLink RX5 180 "LessonMaker$Function" "firstAct" "I", .code yX5_leave cX5_leave 2 none, .code yX5_set cX5_set 4 none, .methodLink RX5 183 yX5_note, .instanceMethod yX5_note, .selects RX5 yX5_note yX5_note, .code yX5_say cX5_say 3 none, .code yX5_giveBack cX5_giveBack 3 none, .code yX5_branch cX5_branch 4 none, .code yX5_again cX5_again 2 none, .code yX5_note cX5_note 6 none, .code yX5_placeNow cX5_placeNow 3 (some .int), .code yX5_setPlace cX5_setPlace 4 none, .code yX5_push cX5_push 2 none, .fieldLink RX5 24 "LessonMaker$Machine" "stack" "[I", .code yX5_pop cX5_pop 1 (some .int)]
set_option maxRecDepth 100000 in
theorem zt_zc_RX5_5 : ∀ w ∈ zd_zc_RX5_5, w ∈ lw_tbl := z_mem [875, 877, 38, 879, 208, 924, 908, 909, 911, 45, 916, 920, 928, 932, 912, 904, 878, 864, 372, 886] (by decide +kernel)
def zd_zc_RX5_6 : List Cond := [.instanceMethod yX5_start, .selects RX5 yX5_start yX5_start, .instanceMethod yX5_finish, .selects RX5 yX5_finish yX5_finish, .instanceMethod yX5_saidAt, .selects RX5 yX5_saidAt yX5_saidAt, .instanceMethod yX5_traceAt, .selects RX5 yX5_traceAt yX5_traceAt, .instanceMethod yX5_firstCallsPlace, .selects RX5 yX5_firstCallsPlace yX5_firstCallsPlace, .instanceMethod yX5_tellsLike, .selects RX5 yX5_tellsLike yX5_tellsLike]
set_option maxRecDepth 100000 in
theorem zt_zc_RX5_6 : ∀ w ∈ zd_zc_RX5_6, w ∈ lw_tbl := z_mem [853, 854, 857, 858, 1170, 1171, 1187, 1188, 956, 957, 968, 969] (by decide +kernel)
set_option maxRecDepth 100000 in
theorem zt_zc_RX5 : ∀ w ∈ zc_RX5, w ∈ lw_tbl := show ∀ w ∈ zd_zc_RX5_0 ++ (zd_zc_RX5_1 ++ (zd_zc_RX5_2 ++ (zd_zc_RX5_3 ++ (zd_zc_RX5_4 ++ (zd_zc_RX5_5 ++ (zd_zc_RX5_6)))))), w ∈ lw_tbl from z_app zt_zc_RX5_0 (z_app zt_zc_RX5_1 (z_app zt_zc_RX5_2 (z_app zt_zc_RX5_3 (z_app zt_zc_RX5_4 (z_app zt_zc_RX5_5 (zt_zc_RX5_6))))))
def zd_zc_RX6_0 : List Cond := [.instanceMethod yX6_hasFunction, .selects RX6 yX6_hasFunction yX6_hasFunction, .instanceMethod yX6_functionNamed, .selects RX6 yX6_functionNamed yX6_functionNamed, .code yX6_clear cX6_clear 1 none, .initialized RX6, .fieldLink RX6 39 "LessonMaker$Program" "functionCount" "I", .fieldLink RX6 43 "LessonMaker$Program" "lineCount" "I", .fieldLink RX6 21 "LessonMaker$Program" "code" "LLessonMaker$Code;", .methodLink RX6 46 yX1_clear, .code yX6_hasFunction cX6_hasFunction 2 (some .boolean), .fieldLink RX6 27 "LessonMaker$Program" "functions" "[LLessonMaker$Function;", .code yX6_hasLine cX6_hasLine 2 (some .boolean), .fieldLink RX6 34 "LessonMaker$Program" "lines" "[LLessonMaker$Line;", .code yX6_addLine cX6_addLine 5 (some .int), .fieldLink RX6 49 "LessonMaker$Line" "kind" "I", .fieldLink RX6 52 "LessonMaker$Line" "function" "I", .fieldLink RX6 55 "LessonMaker$Line" "at" "I", .fieldLink RX6 58 "LessonMaker$Line" "blocks" "I", .code yX6_functionNamed cX6_functionNamed 4 (some .int)]
set_option maxRecDepth 100000 in
theorem zt_zc_RX6_0 : ∀ w ∈ zd_zc_RX6_0, w ∈ lw_tbl := z_mem [794, 795, 668, 669, 540, 95, 277, 282, 266, 541, 796, 269, 847, 275, 725, 245, 247, 249, 251, 670] (by decide +kernel)
def zd_zc_RX6_1 : List Cond := [.fieldLink RX6 12 "LessonMaker$Program" "tokens" "LLessonMaker$Tokens;", .fieldLink RX6 61 "LessonMaker$Function" "name" "I", .methodLink RX6 64 yX8_isLike, .instanceMethod yX6_clear, .selects RX6 yX6_clear yX6_clear, .instanceMethod yX6_addLine, .selects RX6 yX6_addLine yX6_addLine, .instanceMethod yX6_hasLine, .selects RX6 yX6_hasLine yX6_hasLine]
set_option maxRecDepth 100000 in
theorem zt_zc_RX6_1 : ∀ w ∈ zd_zc_RX6_1, w ∈ lw_tbl := z_mem [262, 196, 671, 538, 539, 723, 724, 845, 846] (by decide +kernel)
set_option maxRecDepth 100000 in
theorem zt_zc_RX6 : ∀ w ∈ zc_RX6, w ∈ lw_tbl := show ∀ w ∈ zd_zc_RX6_0 ++ (zd_zc_RX6_1), w ∈ lw_tbl from z_app zt_zc_RX6_0 (zt_zc_RX6_1)
