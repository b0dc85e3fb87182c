/-! ===== STATIC: names, words and links by number ===== -/
def gh_Rn : Nat → String
  | 0 => RX0
  | 1 => RX1
  | 2 => RX2
  | 3 => RX3
  | 4 => RX4
  | 5 => RX5
  | 6 => RX6
  | 7 => RX7
  | 8 => RX8
  | 9 => RX9
  | 10 => RX10
  | _ => RL
def gh_Tn : Nat → u_T
  | 0 => TX0
  | 1 => TX1
  | 2 => TX2
  | 3 => TX3
  | 4 => TX4
  | 5 => TX5
  | 6 => TX6
  | 7 => TX7
  | 8 => TX8
  | 9 => TX9
  | 10 => TX10
  | _ => TX10
def gh_tn : Nat → Nat → FieldType
  | 0 => tyX0
  | 1 => tyX1
  | 2 => tyX2
  | 3 => tyX3
  | 4 => tyX4
  | 5 => tyX5
  | 6 => tyX6
  | 7 => tyX7
  | 8 => tyX8
  | 9 => tyX9
  | 10 => tyX10
  | _ => tyX10
def gh_ty : Nat → FieldType
  | 0 => .int
  | 1 => .long
  | 2 => .byte
  | _ => .boolean
def gh_tbl : List Jvm.Cond := lw_tbl.filter goodWord
theorem gh_mem {p : Nat} {w : Jvm.Cond} (h : lw_tbl[p]? = some w) (g : goodWord w = true) : w ∈ gh_tbl := List.mem_filter.mpr ⟨List.mem_of_getElem? h, g⟩
theorem gh_mem2 {p : Nat} {w : Jvm.Cond} (h : (decide (lw_tbl[p]? = some w) && goodWord w) = true) : w ∈ gh_tbl := by
  simp only [Bool.and_eq_true, decide_eq_true_eq] at h
  exact gh_mem h.1 h.2
def gh_ys : List MethodName := [yX0_init, yX0_has, yX0_canTake, yX0_canPut, yX0_part, yX0_take, yX0_put, yX0_moist, yX0_allGrams, yX1_init, yX1_choose, yX1_best, yX1_reckon, yX1_tryAll, yX2_init, yX2_setHour, yX2_setPower, yX2_setNeed, yX2_cost, yX2_paid, yX2_cheapest, yX2_addHour, yX2_reachBy, yX2_reach, yX2_reachFrom, yX2_shift, yX2_makeFirst, yX2_exchange, yX2_reachBySpare, yX3_init, yX3_isFull, yX3_add, yX3_value, yX3_valueOf, yX3_gramsOf, yX3_countOf, yX3_allGrams, yX4_init, yX4_add, yX4_find, yX4_costOf, yX4_spread, yX4_spreadOver, yX4_trace, yX4_firstLeg, yX4_goBy, yX5_init, yX5_clear, yX5_hasPrice, yX5_hasDock, yX5_isFull, yX5_addPrice, yX5_addDock, yX5_value, yX6_init, yX6_read, yX6_next, yX6_readNumber, yX6_isLetter, yX6_isDigit, yX6_isWord, yX6_faultHere, yX6_faultOfFirst, yX6_faultOfSecond, yX6_accept, yX7_init, yX7_add, yX7_sortIn, yX7_setPit, yX7_clear, yX7_waits, yX7_tryAll, yX7_takes, yX7_atLeast, yX7_setEmpty, yX8_init, yX8_hasRoom, yX8_put, yX9_init, yX9_holds, yX9_load, yX9_leg, yX9_cleaning, yX9_way, yX9_wayLeg, yX9_move, yX9_dry, yX9_ship, yX9_binOf, yX9_dryIn, yX9_truck, yX9_pit, yX9_rush, yX9_served, yX9_gone, yX9_hour, yX9_needs, yX9_fans, yX9_fansOf, yX9_blend, yX9_blended, yX9_feed, yX9_end, yX9_list, yX9_fault, yX9_worth, yX9_account, yX9_about, yX9_within, yX9_isBin, yX9_isKind, yX9_isFarmer, yX10_init, yX10_in, yX10_isBin, yX10_isKind, yX10_holds, yX10_canPut, yX10_puts, yX10_dryOf, yX10_moistOf, yX10_load, yX10_leg, yX10_cleaning, yX10_legCost, yX10_goes, yX10_lessens, yX10_isWay, yX10_way, yX10_nextLeg, yX10_wayLeg, yX10_goesBy, yX10_takes, yX10_move, yX10_dry, yX10_ship, yX10_binOf, yX10_dryIn, yX10_truck, yX10_pit, yX10_emptyAt, yX10_nextRow, yX10_swaps, yX10_rush, yX10_served, yX10_gone, yX10_hour, yX10_needs, yX10_may, yX10_reaches, yX10_walks, yX10_turns, yX10_plans, yX10_fans, yX10_fansOf, yX10_blends, yX10_isThere, yX10_blend, yX10_blended, yX10_put, yX10_feed, yX10_end, yX10_isLetter, yX10_wordOf, yX10_next, yX10_errs, yX10_wasDock, yX10_number, yX10_clause, yX10_list, yX10_fault, yX10_worthOf, yX10_worth, yX10_account, yX10_about]
def gh_cs : List ByteArray := [cX0_init, cX0_has, cX0_canTake, cX0_canPut, cX0_part, cX0_take, cX0_put, cX0_moist, cX0_allGrams, cX1_init, cX1_choose, cX1_best, cX1_reckon, cX1_tryAll, cX2_init, cX2_setHour, cX2_setPower, cX2_setNeed, cX2_cost, cX2_paid, cX2_cheapest, cX2_addHour, cX2_reachBy, cX2_reach, cX2_reachFrom, cX2_shift, cX2_makeFirst, cX2_exchange, cX2_reachBySpare, cX3_init, cX3_isFull, cX3_add, cX3_value, cX3_valueOf, cX3_gramsOf, cX3_countOf, cX3_allGrams, cX4_init, cX4_add, cX4_find, cX4_costOf, cX4_spread, cX4_spreadOver, cX4_trace, cX4_firstLeg, cX4_goBy, cX5_init, cX5_clear, cX5_hasPrice, cX5_hasDock, cX5_isFull, cX5_addPrice, cX5_addDock, cX5_value, cX6_init, cX6_read, cX6_next, cX6_readNumber, cX6_isLetter, cX6_isDigit, cX6_isWord, cX6_faultHere, cX6_faultOfFirst, cX6_faultOfSecond, cX6_accept, cX7_init, cX7_add, cX7_sortIn, cX7_setPit, cX7_clear, cX7_waits, cX7_tryAll, cX7_takes, cX7_atLeast, cX7_setEmpty, cX8_init, cX8_hasRoom, cX8_put, cX9_init, cX9_holds, cX9_load, cX9_leg, cX9_cleaning, cX9_way, cX9_wayLeg, cX9_move, cX9_dry, cX9_ship, cX9_binOf, cX9_dryIn, cX9_truck, cX9_pit, cX9_rush, cX9_served, cX9_gone, cX9_hour, cX9_needs, cX9_fans, cX9_fansOf, cX9_blend, cX9_blended, cX9_feed, cX9_end, cX9_list, cX9_fault, cX9_worth, cX9_account, cX9_about, cX9_within, cX9_isBin, cX9_isKind, cX9_isFarmer, cX10_init, cX10_in, cX10_isBin, cX10_isKind, cX10_holds, cX10_canPut, cX10_puts, cX10_dryOf, cX10_moistOf, cX10_load, cX10_leg, cX10_cleaning, cX10_legCost, cX10_goes, cX10_lessens, cX10_isWay, cX10_way, cX10_nextLeg, cX10_wayLeg, cX10_goesBy, cX10_takes, cX10_move, cX10_dry, cX10_ship, cX10_binOf, cX10_dryIn, cX10_truck, cX10_pit, cX10_emptyAt, cX10_nextRow, cX10_swaps, cX10_rush, cX10_served, cX10_gone, cX10_hour, cX10_needs, cX10_may, cX10_reaches, cX10_walks, cX10_turns, cX10_plans, cX10_fans, cX10_fansOf, cX10_blends, cX10_isThere, cX10_blend, cX10_blended, cX10_put, cX10_feed, cX10_end, cX10_isLetter, cX10_wordOf, cX10_next, cX10_errs, cX10_wasDock, cX10_number, cX10_clause, cX10_list, cX10_fault, cX10_worthOf, cX10_worth, cX10_account, cX10_about]
def gh_ls : List Nat := [2, 3, 3, 4, 3, 5, 6, 2, 4, 1, 5, 5, 5, 14, 2, 4, 2, 4, 1, 3, 4, 5, 5, 4, 4, 6, 4, 5, 3, 1, 1, 6, 3, 6, 5, 4, 4, 1, 4, 6, 4, 6, 7, 7, 10, 4, 1, 2, 2, 3, 1, 3, 3, 8, 1, 4, 2, 2, 1, 1, 4, 3, 3, 2, 3, 1, 4, 3, 3, 2, 1, 10, 4, 8, 4, 1, 2, 3, 1, 3, 8, 4, 2, 4, 5, 6, 8, 5, 3, 2, 4, 3, 1, 3, 1, 4, 4, 1, 2, 5, 2, 6, 2, 3, 2, 2, 3, 2, 3, 1, 1, 1, 2, 6, 1, 1, 3, 4, 6, 3, 6, 8, 4, 2, 3, 7, 6, 4, 4, 7, 8, 8, 3, 7, 9, 5, 4, 2, 4, 3, 8, 5, 4, 5, 4, 2, 4, 4, 3, 4, 7, 5, 5, 1, 4, 5, 3, 16, 2, 2, 6, 2, 1, 2, 6, 2, 4, 5, 6, 4, 2, 6, 2, 6, 7]
def gh_rs : List (Option FieldType) := [none, some .boolean, some .boolean, some .boolean, some .long, some .long, none, some .int, some .long, none, some .boolean, some .long, none, none, none, some .boolean, some .boolean, some .boolean, some .int, some .int, some .boolean, some .boolean, none, none, none, none, none, none, none, none, some .boolean, some .int, some .int, some .long, some .long, some .int, some .long, none, some .int, some .int, some .int, none, none, none, some .int, none, none, none, some .boolean, some .boolean, some .boolean, none, none, some .int, none, some .int, none, none, some .boolean, some .boolean, some .boolean, some .int, some .int, some .int, none, none, some .int, none, none, some .int, some .int, none, some .int, some .int, none, none, some .boolean, none, none, some .boolean, some .int, some .int, some .boolean, some .int, some .int, some .int, some .int, some .long, some .int, some .long, some .int, some .boolean, some .int, some .int, some .int, some .boolean, some .boolean, some .int, some .int, some .long, some .int, some .int, some .int, some .int, some .int, some .int, some .long, some .long, some .boolean, some .boolean, some .boolean, some .boolean, none, some .boolean, some .boolean, some .boolean, some .boolean, some .boolean, none, some .long, some .int, some .int, some .int, some .boolean, some .int, none, some .boolean, some .boolean, some .int, some .int, some .int, some .int, none, some .int, some .int, some .long, some .int, some .long, some .int, some .boolean, some .int, some .boolean, none, some .int, some .int, some .int, some .boolean, some .boolean, some .boolean, some .boolean, none, none, some .int, some .int, some .int, some .long, some .boolean, some .long, some .int, none, some .int, some .int, some .boolean, some .int, none, none, some .boolean, some .int, none, some .int, some .int, some .int, some .int, some .long, some .long]
def gh_ps : List Nat := [0, 2, 2, 3, 2, 2, 4, 1, 0, 0, 3, 3, 2, 2, 0, 3, 1, 3, 0, 0, 0, 1, 2, 3, 2, 1, 0, 2, 1, 0, 0, 4, 2, 2, 1, 1, 0, 0, 3, 3, 2, 3, 5, 2, 4, 2, 0, 0, 1, 1, 0, 2, 2, 3, 0, 2, 1, 1, 1, 1, 2, 2, 1, 0, 2, 0, 3, 1, 2, 0, 0, 4, 2, 2, 0, 0, 1, 1, 0, 2, 5, 3, 1, 3, 4, 3, 4, 2, 2, 1, 3, 2, 0, 2, 0, 3, 3, 0, 1, 4, 1, 5, 1, 0, 1, 1, 2, 1, 3, 1, 1, 1, 0, 3, 1, 1, 2, 3, 4, 2, 2, 5, 3, 1, 2, 2, 5, 3, 3, 3, 4, 3, 2, 3, 4, 2, 2, 1, 3, 2, 2, 0, 2, 0, 2, 0, 3, 3, 2, 3, 1, 2, 0, 0, 1, 1, 2, 4, 1, 1, 5, 1, 1, 1, 1, 1, 1, 3, 1, 0, 1, 1, 1, 2, 1]
/-- 0 static, 1 instance, 2 constructor -/
def gh_ks : List Nat := [2, 1, 1, 1, 1, 1, 1, 1, 1, 2, 1, 1, 1, 1, 2, 1, 1, 1, 1, 1, 1, 1, 1, 1, 1, 1, 1, 1, 1, 2, 1, 1, 1, 1, 1, 1, 1, 2, 1, 1, 1, 1, 1, 1, 1, 1, 2, 1, 1, 1, 1, 1, 1, 1, 2, 1, 1, 1, 0, 0, 1, 1, 1, 1, 1, 2, 1, 1, 1, 1, 1, 1, 1, 1, 1, 2, 1, 1, 2, 1, 1, 1, 1, 1, 1, 1, 1, 1, 1, 1, 1, 1, 1, 1, 1, 1, 1, 1, 1, 1, 1, 1, 1, 1, 1, 1, 1, 1, 0, 0, 0, 0, 2, 0, 0, 0, 1, 1, 1, 1, 0, 1, 1, 1, 1, 1, 1, 1, 1, 1, 1, 1, 1, 1, 1, 1, 1, 1, 1, 1, 1, 1, 1, 1, 1, 1, 1, 1, 1, 1, 1, 1, 1, 1, 1, 1, 1, 1, 1, 1, 1, 1, 0, 0, 1, 1, 1, 1, 1, 1, 1, 1, 1, 1, 1]
def gh_pos : List (Nat × Nat × Nat × Nat) := [(86, 85, 0, 58), (719, 717, 718, 58), (529, 527, 528, 58), (460, 458, 459, 58), (542, 540, 541, 58), (538, 536, 537, 58), (465, 463, 464, 58), (550, 548, 549, 58), (923, 921, 922, 58), (281, 280, 0, 63), (715, 713, 714, 63), (723, 721, 722, 63), (727, 726, 20, 63), (735, 734, 21, 63), (226, 225, 0, 62), (641, 639, 640, 62), (650, 648, 649, 62), (654, 652, 653, 62), (663, 661, 662, 62), (691, 690, 16, 62), (667, 666, 10, 62), (671, 670, 11, 62), (675, 674, 12, 62), (679, 678, 13, 62), (683, 682, 14, 62), (687, 686, 15, 62), (695, 694, 17, 62), (699, 698, 18, 62), (703, 702, 19, 62), (113, 112, 0, 59), (456, 454, 455, 59), (469, 467, 468, 59), (891, 889, 890, 59), (910, 908, 909, 59), (906, 904, 905, 59), (915, 913, 914, 59), (927, 925, 926, 59), (136, 135, 0, 60), (478, 476, 477, 60), (491, 489, 490, 60), (502, 501, 1, 60), (498, 497, 0, 60), (506, 505, 2, 60), (513, 512, 3, 60), (517, 516, 4, 60), (534, 532, 533, 60), (373, 372, 0, 66), (769, 767, 768, 66), (860, 858, 859, 66), (856, 854, 855, 66), (847, 845, 846, 66), (878, 876, 877, 66), (873, 871, 872, 66), (895, 893, 894, 66), (330, 329, 0, 65), (765, 763, 764, 65), (773, 772, 22, 65), (784, 783, 23, 65), (776, 775, 0, 65), (780, 779, 0, 65), (795, 794, 25, 65), (790, 789, 24, 65), (852, 851, 26, 65), (865, 864, 27, 65), (869, 868, 28, 65), (178, 177, 0, 61), (576, 574, 575, 61), (582, 581, 5, 61), (590, 588, 589, 61), (633, 631, 632, 61), (598, 596, 597, 61), (603, 602, 6, 61), (613, 612, 7, 61), (617, 616, 8, 61), (621, 620, 9, 61), (314, 313, 0, 64), (748, 746, 747, 64), (752, 750, 751, 64), (78, 77, 0, 57), (434, 432, 433, 57), (445, 443, 444, 57), (474, 472, 473, 57), (483, 481, 482, 57), (487, 485, 486, 57), (521, 519, 520, 57), (525, 523, 524, 57), (546, 544, 545, 57), (559, 557, 558, 57), (564, 562, 563, 57), (568, 566, 567, 57), (572, 570, 571, 57), (586, 584, 585, 57), (594, 592, 593, 57), (625, 623, 624, 57), (629, 627, 628, 57), (637, 635, 636, 57), (646, 644, 645, 57), (659, 657, 658, 57), (707, 705, 706, 57), (711, 709, 710, 57), (740, 738, 739, 57), (744, 742, 743, 57), (757, 755, 756, 57), (761, 759, 760, 57), (883, 881, 882, 57), (887, 885, 886, 57), (902, 900, 901, 57), (919, 917, 918, 57), (440, 439, 0, 57), (437, 436, 0, 57), (451, 450, 0, 57), (448, 447, 0, 57), (932, 931, 0, 67), (1135, 1134, 0, 67), (1131, 1130, 0, 67), (1144, 1143, 0, 67), (1128, 1126, 1127, 67), (1151, 1150, 29, 67), (1155, 1154, 30, 67), (1203, 1202, 36, 67), (1219, 1218, 0, 67), (1140, 1138, 1139, 67), (1159, 1157, 1158, 67), (1165, 1163, 1164, 67), (1187, 1186, 34, 67), (1178, 1177, 32, 67), (1183, 1182, 33, 67), (1174, 1173, 31, 67), (1170, 1168, 1169, 67), (1195, 1194, 35, 67), (1191, 1189, 1190, 67), (1207, 1206, 37, 67), (1211, 1210, 38, 67), (1199, 1197, 1198, 67), (1215, 1213, 1214, 67), (1224, 1222, 1223, 67), (1229, 1227, 1228, 67), (1233, 1231, 1232, 67), (1237, 1235, 1236, 67), (1242, 1240, 1241, 67), (1250, 1249, 39, 67), (1254, 1253, 40, 67), (1258, 1257, 41, 67), (1246, 1244, 1245, 67), (1262, 1260, 1261, 67), (1267, 1265, 1266, 67), (1271, 1269, 1270, 67), (1275, 1273, 1274, 67), (1293, 1292, 44, 67), (1297, 1296, 45, 67), (1289, 1288, 43, 67), (1301, 1300, 46, 67), (1285, 1284, 42, 67), (1281, 1279, 1280, 67), (1305, 1303, 1304, 67), (1319, 1318, 48, 67), (1315, 1314, 47, 67), (1309, 1307, 1308, 67), (1323, 1321, 1322, 67), (1331, 1330, 49, 67), (1327, 1325, 1326, 67), (1335, 1333, 1334, 67), (1346, 1345, 0, 67), (1354, 1353, 0, 67), (1343, 1342, 50, 67), (1367, 1366, 52, 67), (1371, 1370, 53, 67), (1375, 1374, 54, 67), (1363, 1362, 51, 67), (1339, 1337, 1338, 67), (1379, 1377, 1378, 67), (1387, 1386, 55, 67), (1383, 1381, 1382, 67), (1393, 1391, 1392, 67), (1398, 1396, 1397, 67)]
def gh_yn (z : Nat) : MethodName := gh_ys.getD z yL_law
def gh_cn (z : Nat) : ByteArray := gh_cs.getD z code
def gh_ln (z : Nat) : Nat := gh_ls.getD z 0
def gh_rn (z : Nat) : Option FieldType := gh_rs.getD z none
def gh_pn (z : Nat) : Nat := gh_ps.getD z 0
def gh_kn (z : Nat) : Nat := gh_ks.getD z 0
def gh_NZ : Nat := 175
def gh_okm (z : Nat) (q : Nat × Nat × Nat × Nat) : Bool :=
  (decide (lw_tbl[q.2.2.2]? = some (.initialized (gh_yn z).cls)) && goodWord (.initialized (gh_yn z).cls))
  && decide ((gh_yn z).cls = gh_Rn (gh_oc z)) && decide ((gh_yn z).cls ≠ "java/lang/invoke/MethodHandle") && decide ((gh_yn z).cls ≠ "java/lang/invoke/VarHandle")
  && decide ((parseMethodDescriptor (gh_yn z).desc).map (fun d => d.parameters.length) = some (gh_pn z)) && plainName (gh_yn z).cls && Nat.ble (gh_ln z) 40
  && (match gh_kn z with
    | 0 => (decide (lw_tbl[q.2.1]? = some (.static (gh_yn z))) && goodWord (.static (gh_yn z)))
    | 1 => (decide (lw_tbl[q.2.1]? = some (.instanceMethod (gh_yn z))) && goodWord (.instanceMethod (gh_yn z))) && (decide (lw_tbl[q.2.2.1]? = some (.selects (gh_yn z).cls (gh_yn z) (gh_yn z))) && goodWord (.selects (gh_yn z).cls (gh_yn z) (gh_yn z)))
    | _ => (decide (lw_tbl[q.2.1]? = some (.instanceMethod (gh_yn z))) && goodWord (.instanceMethod (gh_yn z))) && decide ((gh_yn z).name = "<init>") && decide (gh_rn z = none))
set_option maxRecDepth 100000 in
theorem gh_okm_all : (List.range 175).all (fun z => gh_okm z (gh_pos.getD z (0, 0, 0, 0))) = true := by decide +kernel
theorem gh_okm_of {z : Nat} (h : z < gh_NZ) : gh_okm z (gh_pos.getD z (0, 0, 0, 0)) = true := List.all_eq_true.mp gh_okm_all z (List.mem_range.mpr h)
set_option maxRecDepth 100000 in
theorem gh_codes : (gh_pos.map (fun q => q.1)).map (fun i => lw_tbl[i]?) = (List.range 175).map (fun z => some (Jvm.Cond.code (gh_yn z) (gh_cn z) (gh_ln z) (gh_rn z))) := by rfl
theorem gh_code_in {z : Nat} (h : z < gh_NZ) : Jvm.Cond.code (gh_yn z) (gh_cn z) (gh_ln z) (gh_rn z) ∈ gh_tbl := by
  have hz : z < 175 := h
  have e := congrArg (fun l => l[z]?) gh_codes
  simp only [List.getElem?_map, List.getElem?_range hz, Option.map_some] at e
  cases hp : gh_pos[z]? with
  | none => rw [hp] at e; cases e
  | some q =>
    rw [hp] at e
    exact gh_mem (p := q.1) (Option.some.inj e) rfl
def gh_flt : List (Nat × Nat × Nat × Nat) := [(0, 9, 0, 0), (9, 143, 0, 0), (0, 15, 0, 1), (9, 94, 0, 1), (1, 60, 0, 1), (0, 18, 0, 2), (9, 98, 0, 2), (0, 21, 0, 3), (9, 163, 0, 3), (3, 11, 3, 0), (3, 15, 3, 1), (3, 18, 3, 2), (3, 21, 3, 3), (3, 24, 3, 4), (9, 240, 3, 4), (4, 11, 4, 0), (4, 15, 4, 1), (4, 18, 4, 2), (4, 21, 4, 3), (4, 24, 4, 4), (4, 27, 4, 5), (9, 136, 4, 5), (4, 30, 4, 6), (9, 133, 4, 6), (4, 34, 4, 7), (9, 256, 4, 7), (4, 37, 4, 8), (9, 126, 4, 8), (4, 40, 4, 9), (9, 257, 4, 9), (7, 11, 7, 0), (7, 15, 7, 1), (7, 18, 7, 2), (7, 21, 7, 3), (7, 24, 7, 4), (7, 27, 7, 5), (9, 178, 7, 5), (7, 30, 7, 6), (9, 181, 7, 6), (7, 33, 7, 7), (9, 175, 7, 7), (7, 37, 7, 8), (9, 265, 7, 8), (7, 40, 7, 9), (9, 268, 7, 9), (7, 43, 7, 10), (7, 46, 7, 11), (2, 11, 2, 0), (2, 15, 2, 1), (2, 19, 2, 2), (2, 22, 2, 3), (2, 25, 2, 4), (2, 28, 2, 5), (2, 31, 2, 6), (2, 34, 2, 7), (2, 37, 2, 8), (2, 40, 2, 9), (9, 200, 2, 9), (2, 43, 2, 10), (9, 271, 2, 10), (2, 47, 2, 11), (2, 50, 2, 12), (2, 53, 2, 13), (2, 56, 2, 14), (1, 11, 1, 0), (1, 15, 1, 1), (1, 18, 1, 2), (1, 22, 1, 3), (1, 25, 1, 4), (1, 29, 1, 5), (1, 33, 1, 6), (9, 215, 1, 6), (1, 36, 1, 7), (9, 211, 1, 7), (8, 9, 8, 0), (6, 68, 8, 0), (8, 13, 8, 1), (6, 51, 8, 1), (9, 224, 8, 1), (6, 9, 6, 0), (9, 231, 6, 0), (6, 15, 6, 1), (9, 234, 6, 1), (6, 19, 6, 2), (9, 237, 6, 2), (6, 22, 6, 3), (6, 25, 6, 4), (6, 28, 6, 5), (6, 31, 6, 6), (6, 34, 6, 7), (6, 37, 6, 8), (6, 40, 6, 9), (6, 43, 6, 10), (5, 9, 5, 0), (5, 15, 5, 1), (5, 19, 5, 2), (5, 22, 5, 3), (5, 25, 5, 4), (9, 10, 9, 0), (9, 19, 9, 1), (9, 26, 9, 2), (9, 33, 9, 3), (9, 40, 9, 4), (9, 47, 9, 5), (9, 54, 9, 6), (9, 61, 9, 7), (9, 68, 9, 8), (9, 72, 9, 9), (9, 75, 9, 10), (9, 79, 9, 11), (9, 82, 9, 12), (10, 7, 10, 0), (10, 13, 10, 1), (10, 16, 10, 2), (10, 19, 10, 3), (10, 175, 10, 4), (10, 23, 10, 5), (10, 26, 10, 6), (10, 29, 10, 7), (10, 32, 10, 8), (10, 190, 10, 9), (10, 35, 10, 10), (10, 38, 10, 11), (10, 41, 10, 12), (10, 44, 10, 13), (10, 47, 10, 14), (10, 215, 10, 15), (10, 234, 10, 16), (10, 240, 10, 17), (10, 243, 10, 18), (10, 248, 10, 19), (10, 51, 10, 20), (10, 54, 10, 21), (10, 57, 10, 22), (10, 60, 10, 23), (10, 63, 10, 24), (10, 66, 10, 25), (10, 70, 10, 26), (10, 73, 10, 27), (10, 76, 10, 28), (10, 79, 10, 29), (10, 82, 10, 30), (10, 305, 10, 31), (10, 323, 10, 32), (10, 326, 10, 33), (10, 329, 10, 34), (10, 341, 10, 35), (10, 349, 10, 36), (10, 352, 10, 37), (10, 86, 10, 38), (10, 89, 10, 39), (10, 92, 10, 40), (10, 355, 10, 41), (10, 95, 10, 42), (10, 98, 10, 43), (10, 101, 10, 44), (10, 373, 10, 45), (10, 104, 10, 46), (10, 107, 10, 47), (10, 110, 10, 48), (10, 113, 10, 49), (10, 116, 10, 50), (10, 119, 10, 51), (10, 251, 10, 52), (10, 122, 10, 53), (10, 125, 10, 54), (10, 128, 10, 55), (10, 131, 10, 56), (10, 134, 10, 57), (10, 137, 10, 58), (10, 140, 10, 59), (10, 143, 10, 60), (10, 146, 10, 61), (10, 301, 10, 62)]
def gh_flp : List Nat := [89, 90, 91, 92, 93, 94, 95, 96, 97, 115, 116, 117, 118, 119, 120, 138, 139, 140, 141, 142, 143, 144, 145, 146, 147, 148, 149, 150, 151, 152, 180, 181, 182, 183, 184, 185, 186, 187, 188, 189, 190, 191, 192, 193, 194, 195, 196, 228, 229, 230, 231, 232, 233, 234, 235, 236, 237, 238, 239, 240, 241, 242, 243, 244, 283, 284, 285, 286, 287, 288, 289, 290, 291, 292, 316, 317, 318, 319, 320, 332, 333, 334, 335, 336, 337, 338, 339, 340, 341, 342, 343, 344, 345, 375, 376, 377, 378, 379, 391, 392, 393, 394, 395, 396, 397, 398, 399, 400, 401, 402, 403, 935, 936, 937, 938, 939, 940, 941, 942, 943, 944, 945, 946, 947, 948, 949, 950, 951, 952, 953, 954, 955, 956, 957, 958, 959, 960, 961, 962, 963, 964, 965, 966, 967, 968, 969, 970, 971, 972, 973, 974, 975, 976, 977, 978, 979, 980, 981, 982, 983, 984, 985, 986, 987, 988, 989, 990, 991, 992, 993, 994, 995, 996, 997]
abbrev gh_flw (q : Nat × Nat × Nat × Nat) : Jvm.Cond := .fieldLink (gh_Rn q.1) q.2.1 ((gh_Tn q.2.2.1) q.2.2.2).1 ((gh_Tn q.2.2.1) q.2.2.2).2.1 ((gh_Tn q.2.2.1) q.2.2.2).2.2.1
theorem gh_zip {α : Type} {l : List α} {ps : List Nat} {f : α → Jvm.Cond} (hl : l.length = ps.length) (h : (l.zip ps).all (fun q => decide (lw_tbl[q.2]? = some (f q.1)) && goodWord (f q.1)) = true) : ∀ a ∈ l, f a ∈ gh_tbl := by
  intro a ha
  obtain ⟨i, hi⟩ := List.getElem?_of_mem ha
  have hil : i < l.length := (List.getElem?_eq_some_iff.mp hi).1
  have hip : i < ps.length := hl ▸ hil
  have hz : (l.zip ps)[i]? = some (a, ps[i]) := by
    rw [List.getElem?_zip_eq_some]
    exact ⟨hi, List.getElem?_eq_getElem hip⟩
  exact gh_mem2 (List.all_eq_true.mp h _ (List.mem_of_getElem? hz))
set_option maxRecDepth 100000 in
theorem gh_flt_ok : ∀ q ∈ gh_flt, gh_flw q ∈ gh_tbl := gh_zip (ps := gh_flp) rfl (by decide +kernel)
def gh_clt : List (Nat × Nat × Nat) := [(11, 7, 9), (9, 7, 0), (9, 16, 3), (9, 23, 4), (9, 30, 7), (9, 37, 2), (9, 44, 1), (9, 51, 8), (9, 58, 6), (9, 65, 5), (11, 10, 10)]
def gh_clp : List Nat := [74, 82, 109, 132, 174, 222, 277, 310, 326, 369, 928]
set_option maxRecDepth 100000 in
theorem gh_clt_ok : ∀ q ∈ gh_clt, (fun q : Nat × Nat × Nat => Jvm.Cond.classLink (gh_Rn q.1) q.2.1 (gh_Rn q.2.2)) q ∈ gh_tbl := gh_zip (ps := gh_clp) rfl (by decide +kernel)
def gh_kit : List (Nat × Nat × Int32) := [(0, 25, 100000), (9, 89, 500000), (9, 107, 40000), (4, 55, 1000000), (7, 62, 1000000000), (6, 82, 1000000), (10, 149, 100000), (10, 195, 100000000), (10, 348, 99999)]
set_option maxRecDepth 100000 in
theorem gh_kit_ok : ∀ q ∈ gh_kit, (fun q : Nat × Nat × Int32 => Jvm.Cond.constant (gh_Rn q.1) q.2.1 q.2.2) q ∈ gh_tbl := gh_zip (ps := [88, 441, 452, 494, 599, 785, 934, 1179, 1359]) rfl (by decide +kernel)
def gh_kjt : List (Nat × Nat × Int64) := [(0, 38, 1000), (9, 161, (-1)), (1, 50, 1000000000000), (1, 52, 1000), (1, 58, (-1)), (5, 37, 1000000), (5, 45, 100), (10, 150, 7), (10, 162, 500000), (10, 166, 9), (10, 156, 3), (10, 171, 40000), (10, 173, 400), (10, 186, 11), (10, 188, 60), (10, 193, 99), (10, 228, 300), (10, 164, 1000), (10, 238, (-1)), (10, 246, 999), (10, 269, 8), (10, 271, 12), (10, 290, 255), (10, 292, 20), (10, 311, 97), (10, 313, 122), (10, 315, 65), (10, 317, 90), (10, 335, 64), (10, 319, 818583781), (10, 321, 9631979), (10, 344, 48), (10, 346, 57), (10, 376, 1000000), (10, 378, 100), (10, 384, 2)]
set_option maxRecDepth 100000 in
theorem gh_kjt_ok : ∀ q ∈ gh_kjt, (fun q : Nat × Nat × Int64 => Jvm.Cond.constantLong (gh_Rn q.1) q.2.1 q.2.2) q ∈ gh_tbl := gh_zip (ps := [551, 560, 730, 731, 736, 896, 898, 1132, 1136, 1141, 1145, 1146, 1147, 1160, 1161, 1166, 1216, 1220, 1225, 1238, 1276, 1277, 1310, 1311, 1347, 1348, 1349, 1350, 1351, 1355, 1356, 1357, 1358, 1388, 1389, 1394]) rfl (by decide +kernel)
def gh_mlt : List (Nat × Nat × Nat) := [(11, 9, 78), (9, 9, 0), (9, 39, 14), (11, 13, 79), (9, 85, 109), (9, 90, 108), (11, 18, 80), (9, 101, 111), (9, 104, 110), (9, 108, 30), (9, 112, 3), (9, 115, 6), (9, 119, 31), (3, 28, 30), (11, 23, 81), (9, 123, 38), (11, 28, 82), (11, 33, 83), (9, 130, 39), (4, 56, 41), (4, 64, 40), (4, 68, 42), (4, 60, 43), (4, 77, 44), (11, 37, 84), (11, 42, 85), (9, 139, 2), (9, 146, 45), (9, 150, 5), (0, 34, 4), (11, 46, 86), (9, 154, 7), (9, 158, 4), (11, 50, 87), (11, 55, 88), (11, 60, 89), (11, 65, 90), (9, 167, 66), (7, 58, 67), (11, 69, 91), (9, 168, 68), (11, 73, 92), (9, 171, 70), (7, 63, 71), (7, 82, 72), (7, 85, 73), (7, 67, 74), (11, 78, 93), (11, 82, 94), (9, 184, 69), (11, 86, 95), (9, 187, 15), (11, 91, 96), (9, 191, 16), (9, 194, 17), (11, 96, 97), (9, 197, 18), (2, 68, 20), (2, 79, 21), (2, 82, 22), (2, 93, 23), (2, 86, 24), (2, 89, 25), (2, 72, 19), (2, 76, 26), (2, 97, 27), (2, 100, 28), (11, 100, 98), (11, 105, 99), (9, 203, 10), (1, 40, 1), (9, 207, 11), (1, 46, 12), (1, 69, 4), (1, 54, 13), (11, 110, 100), (11, 114, 101), (9, 218, 76), (9, 221, 77), (8, 17, 76), (11, 118, 102), (11, 122, 103), (9, 227, 55), (6, 46, 47), (6, 56, 56), (6, 72, 58), (6, 76, 59), (6, 79, 57), (6, 60, 61), (6, 104, 60), (6, 108, 50), (6, 114, 62), (6, 121, 49), (6, 124, 48), (6, 118, 63), (6, 64, 64), (6, 127, 52), (5, 33, 50), (6, 131, 51), (11, 126, 104), (11, 130, 105), (9, 241, 32), (3, 32, 53), (11, 134, 106), (9, 245, 34), (9, 249, 33), (3, 38, 32), (9, 253, 35), (11, 138, 107), (9, 260, 8), (9, 264, 36), (11, 12, 112), (11, 17, 116), (10, 158, 114), (10, 152, 113), (11, 22, 121), (10, 168, 115), (10, 178, 117), (10, 182, 118), (11, 27, 122), (11, 32, 123), (11, 36, 128), (10, 208, 127), (10, 204, 125), (10, 196, 126), (10, 200, 124), (11, 41, 130), (10, 211, 129), (11, 45, 133), (10, 218, 119), (10, 222, 131), (10, 225, 132), (11, 49, 134), (10, 230, 120), (11, 54, 135), (11, 59, 136), (11, 64, 137), (11, 68, 138), (11, 72, 139), (11, 77, 143), (10, 257, 140), (10, 261, 141), (10, 254, 142), (11, 81, 144), (10, 265, 143), (11, 85, 145), (11, 90, 146), (11, 95, 147), (11, 99, 153), (10, 287, 152), (10, 280, 150), (10, 273, 148), (10, 277, 149), (10, 284, 151), (11, 104, 154), (11, 109, 157), (10, 294, 156), (10, 297, 155), (11, 113, 158), (11, 117, 160), (10, 308, 159), (11, 121, 161), (11, 125, 169), (10, 361, 164), (10, 332, 162), (10, 337, 163), (10, 370, 168), (10, 358, 165), (10, 364, 166), (10, 367, 167), (11, 129, 170), (11, 133, 172), (10, 380, 171), (11, 137, 173), (11, 141, 174)]
set_option maxRecDepth 100000 in
theorem gh_mlt_ok : ∀ q ∈ gh_mlt, (fun q : Nat × Nat × Nat => Jvm.Cond.methodLink (gh_Rn q.1) q.2.1 (gh_yn q.2.2)) q ∈ gh_tbl := gh_zip (ps := [76, 84, 224, 431, 435, 438, 442, 446, 449, 453, 457, 462, 466, 470, 471, 475, 480, 484, 488, 495, 499, 503, 510, 514, 518, 522, 526, 531, 535, 539, 543, 547, 555, 556, 561, 565, 569, 573, 579, 583, 587, 591, 595, 600, 610, 614, 618, 622, 626, 630, 634, 638, 643, 647, 651, 656, 660, 664, 668, 672, 676, 680, 684, 688, 692, 696, 700, 704, 708, 712, 716, 720, 724, 729, 732, 737, 741, 745, 749, 753, 754, 758, 762, 766, 770, 774, 778, 781, 787, 792, 844, 849, 853, 857, 862, 866, 870, 874, 875, 880, 884, 888, 892, 899, 903, 907, 911, 912, 916, 920, 924, 930, 1125, 1129, 1133, 1137, 1142, 1148, 1152, 1156, 1162, 1167, 1171, 1175, 1180, 1184, 1188, 1192, 1196, 1200, 1204, 1208, 1212, 1217, 1221, 1226, 1230, 1234, 1239, 1243, 1247, 1251, 1255, 1259, 1263, 1264, 1268, 1272, 1278, 1282, 1286, 1290, 1294, 1298, 1302, 1306, 1312, 1316, 1320, 1324, 1328, 1332, 1336, 1340, 1344, 1352, 1360, 1364, 1368, 1372, 1376, 1380, 1384, 1390, 1395]) rfl (by decide +kernel)
/-- links to private members of nest mates: they are held by the state, not by the tables' words -/
def gh_mnt : List (Nat × Nat × Nat × Nat) := [(9, 18, 29, 9), (9, 25, 37, 9), (9, 32, 65, 9), (9, 46, 9, 9), (9, 53, 75, 9), (9, 60, 54, 9), (9, 67, 46, 9), (0, 26, 109, 9), (4, 44, 108, 9), (4, 48, 110, 9), (4, 52, 109, 9), (0, 30, 108, 9), (7, 50, 108, 9), (7, 54, 110, 9), (2, 60, 108, 9), (2, 64, 109, 9), (6, 89, 108, 9), (5, 29, 110, 9)]
def gh_mnw (q : Nat × Nat × Nat × Nat) : Jvm.Cond := .methodLinkNest (gh_Rn q.1) q.2.1 (gh_yn q.2.2.1) (gh_Rn q.2.2.2)
set_option maxRecDepth 100000 in
theorem gh_mnt_ok : ∀ q ∈ gh_mnt, gh_mnw q ∈ lw_tbl := by
  have h : (gh_mnt.zip [111, 134, 176, 279, 312, 328, 371, 461, 479, 492, 493, 530, 577, 578, 642, 655, 777, 861]).all (fun q => decide (lw_tbl[q.2]? = some (gh_mnw q.1))) = true := by decide +kernel
  intro a ha
  obtain ⟨i, hi⟩ := List.getElem?_of_mem ha
  have hil : i < gh_mnt.length := (List.getElem?_eq_some_iff.mp hi).1
  have hip : i < [111, 134, 176, 279, 312, 328, 371, 461, 479, 492, 493, 530, 577, 578, 642, 655, 777, 861].length := hil
  have hz : (gh_mnt.zip [111, 134, 176, 279, 312, 328, 371, 461, 479, 492, 493, 530, 577, 578, 642, 655, 777, 861])[i]? = some (a, [111, 134, 176, 279, 312, 328, 371, 461, 479, 492, 493, 530, 577, 578, 642, 655, 777, 861][i]) := by
    rw [List.getElem?_zip_eq_some]
    exact ⟨hi, List.getElem?_eq_getElem hip⟩
  exact List.mem_of_getElem? (of_decide_eq_true (List.all_eq_true.mp h _ (List.mem_of_getElem? hz)))
def gh_xn : Nat → MethodName
  | 1000 => Lib.Math.max.name
  | 1001 => Lib.Math.min.name
  | 1002 => Lib.MathLoose.max_long.x
  | 1003 => arraycopyName
  | 2000 => Lib.objectInit
  | _ => Lib.objectInit
def gh_xlt : List (Nat × Nat × Nat) := [(9, 1, 2000), (0, 3, 2000), (3, 3, 2000), (4, 5, 2000), (7, 3, 2000), (2, 3, 2000), (1, 5, 2000), (8, 1, 2000), (6, 3, 2000), (5, 3, 2000), (4, 72, 1001), (0, 40, 1002), (7, 70, 1003), (7, 76, 1000), (1, 63, 1001), (6, 83, 1001), (5, 39, 1001), (10, 1, 2000)]
set_option maxRecDepth 100000 in
theorem gh_xlt_ok : ∀ q ∈ gh_xlt, (fun q : Nat × Nat × Nat => Jvm.Cond.methodLink (gh_Rn q.1) q.2.1 (gh_xn q.2.2)) q ∈ gh_tbl := gh_zip (ps := [79, 87, 114, 137, 179, 227, 282, 315, 331, 374, 507, 552, 604, 607, 728, 786, 897, 933]) rfl (by decide +kernel)
theorem gh_w_xst0 : (.static Lib.Math.max.name : Jvm.Cond) ∈ gh_tbl := gh_mem2 (p := 608) (by decide +kernel)
theorem gh_w_xst1 : (.static Lib.Math.min.name : Jvm.Cond) ∈ gh_tbl := gh_mem2 (p := 508) (by decide +kernel)
theorem gh_w_xst2 : (.static Lib.MathLoose.max_long.x : Jvm.Cond) ∈ gh_tbl := gh_mem2 (p := 553) (by decide +kernel)
theorem gh_w_xst3 : (.static arraycopyName : Jvm.Cond) ∈ gh_tbl := gh_mem2 (p := 605) (by decide +kernel)
theorem gh_w_nat : (.native arraycopyName : Jvm.Cond) ∈ gh_tbl := gh_mem2 (p := 606) (by decide +kernel)
theorem gh_w_im : (.initialized "java/lang/Math" : Jvm.Cond) ∈ gh_tbl := gh_mem2 (p := 68) (by decide +kernel)
theorem gh_w_is : (.initialized "java/lang/System" : Jvm.Cond) ∈ gh_tbl := gh_mem2 (p := 69) (by decide +kernel)
theorem gh_w_c0 : (.code Lib.Math.max.name Lib.Math.max.code 2 (some .int) : Jvm.Cond) ∈ gh_tbl := gh_mem2 (p := 609) (by decide +kernel)
theorem gh_w_c1 : (.code Lib.Math.min.name Lib.Math.min.code 2 (some .int) : Jvm.Cond) ∈ gh_tbl := gh_mem2 (p := 509) (by decide +kernel)
theorem gh_w_c2 : (.code Lib.MathLoose.max_long.x Lib.MathLoose.max_long.code 4 (some .long) : Jvm.Cond) ∈ gh_tbl := gh_mem2 (p := 554) (by decide +kernel)
theorem gh_w_oi : (.instanceMethod Lib.objectInit : Jvm.Cond) ∈ gh_tbl := gh_mem2 (p := 80) (by decide +kernel)
theorem gh_w_oc : (.code Lib.objectInit ⟨#[0xb1]⟩ 1 none : Jvm.Cond) ∈ gh_tbl := gh_mem2 (p := 81) (by decide +kernel)
theorem gh_w_ac : ∀ t, t ≤ 3 → Jvm.Cond.arrayClass (gh_ty t) ∈ gh_tbl := by
  intro t h
  match t, h with
  | 0, _ => exact gh_mem2 (p := 107) (by decide +kernel)
  | 1, _ => exact gh_mem2 (p := 108) (by decide +kernel)
  | 2, _ => exact gh_mem2 (p := 879) (by decide +kernel)
  | 3, _ => exact gh_mem2 (p := 276) (by decide +kernel)
theorem gh_w_in : ∀ u, u < 11 → (Jvm.Cond.instantiable (gh_Rn u) (gh_ft u).length ∈ gh_tbl ∧ Jvm.Cond.initialized (gh_Rn u) ∈ gh_tbl) := by
  intro u h
  match u, h with
  | 0, _ => exact ⟨gh_mem2 (p := 83) (by decide +kernel), gh_mem2 (p := 58) (by decide +kernel)⟩
  | 1, _ => exact ⟨gh_mem2 (p := 278) (by decide +kernel), gh_mem2 (p := 63) (by decide +kernel)⟩
  | 2, _ => exact ⟨gh_mem2 (p := 223) (by decide +kernel), gh_mem2 (p := 62) (by decide +kernel)⟩
  | 3, _ => exact ⟨gh_mem2 (p := 110) (by decide +kernel), gh_mem2 (p := 59) (by decide +kernel)⟩
  | 4, _ => exact ⟨gh_mem2 (p := 133) (by decide +kernel), gh_mem2 (p := 60) (by decide +kernel)⟩
  | 5, _ => exact ⟨gh_mem2 (p := 370) (by decide +kernel), gh_mem2 (p := 66) (by decide +kernel)⟩
  | 6, _ => exact ⟨gh_mem2 (p := 327) (by decide +kernel), gh_mem2 (p := 65) (by decide +kernel)⟩
  | 7, _ => exact ⟨gh_mem2 (p := 175) (by decide +kernel), gh_mem2 (p := 61) (by decide +kernel)⟩
  | 8, _ => exact ⟨gh_mem2 (p := 311) (by decide +kernel), gh_mem2 (p := 64) (by decide +kernel)⟩
  | 9, _ => exact ⟨gh_mem2 (p := 75) (by decide +kernel), gh_mem2 (p := 57) (by decide +kernel)⟩
  | 10, _ => exact ⟨gh_mem2 (p := 929) (by decide +kernel), gh_mem2 (p := 67) (by decide +kernel)⟩
theorem gh_u0 : ∀ w ∈ u_ws RX0 TX0 4, w ∈ gh_tbl := by
  have h : (u_ws RX0 TX0 4).all goodWord = true := by decide +kernel
  have e : u_ws RX0 TX0 4 = [98, 100, 102, 104].filterMap (fun i => lw_tbl[i]?) := by decide +kernel
  intro w hw
  have g := List.all_eq_true.mp h w hw
  rw [e] at hw
  obtain ⟨i, -, hi⟩ := List.mem_filterMap.mp hw
  exact gh_mem hi g
theorem gh_u1 : ∀ w ∈ u_ws RX1 TX1 8, w ∈ gh_tbl := by
  have h : (u_ws RX1 TX1 8).all goodWord = true := by decide +kernel
  have e : u_ws RX1 TX1 8 = [293, 295, 297, 299, 301, 303, 305, 307].filterMap (fun i => lw_tbl[i]?) := by decide +kernel
  intro w hw
  have g := List.all_eq_true.mp h w hw
  rw [e] at hw
  obtain ⟨i, -, hi⟩ := List.mem_filterMap.mp hw
  exact gh_mem hi g
theorem gh_u2 : ∀ w ∈ u_ws RX2 TX2 15, w ∈ gh_tbl := by
  have h : (u_ws RX2 TX2 15).all goodWord = true := by decide +kernel
  have e : u_ws RX2 TX2 15 = [245, 247, 249, 251, 253, 255, 257, 259, 261, 263, 265, 267, 269, 271, 273].filterMap (fun i => lw_tbl[i]?) := by decide +kernel
  intro w hw
  have g := List.all_eq_true.mp h w hw
  rw [e] at hw
  obtain ⟨i, -, hi⟩ := List.mem_filterMap.mp hw
  exact gh_mem hi g
theorem gh_u3 : ∀ w ∈ u_ws RX3 TX3 5, w ∈ gh_tbl := by
  have h : (u_ws RX3 TX3 5).all goodWord = true := by decide +kernel
  have e : u_ws RX3 TX3 5 = [121, 123, 125, 127, 129].filterMap (fun i => lw_tbl[i]?) := by decide +kernel
  intro w hw
  have g := List.all_eq_true.mp h w hw
  rw [e] at hw
  obtain ⟨i, -, hi⟩ := List.mem_filterMap.mp hw
  exact gh_mem hi g
theorem gh_u4 : ∀ w ∈ u_ws RX4 TX4 10, w ∈ gh_tbl := by
  have h : (u_ws RX4 TX4 10).all goodWord = true := by decide +kernel
  have e : u_ws RX4 TX4 10 = [153, 155, 157, 159, 161, 163, 165, 167, 169, 171].filterMap (fun i => lw_tbl[i]?) := by decide +kernel
  intro w hw
  have g := List.all_eq_true.mp h w hw
  rw [e] at hw
  obtain ⟨i, -, hi⟩ := List.mem_filterMap.mp hw
  exact gh_mem hi g
theorem gh_u5 : ∀ w ∈ u_ws RX5 TX5 5, w ∈ gh_tbl := by
  have h : (u_ws RX5 TX5 5).all goodWord = true := by decide +kernel
  have e : u_ws RX5 TX5 5 = [380, 382, 384, 386, 388].filterMap (fun i => lw_tbl[i]?) := by decide +kernel
  intro w hw
  have g := List.all_eq_true.mp h w hw
  rw [e] at hw
  obtain ⟨i, -, hi⟩ := List.mem_filterMap.mp hw
  exact gh_mem hi g
theorem gh_u6 : ∀ w ∈ u_ws RX6 TX6 11, w ∈ gh_tbl := by
  have h : (u_ws RX6 TX6 11).all goodWord = true := by decide +kernel
  have e : u_ws RX6 TX6 11 = [346, 348, 350, 352, 354, 356, 358, 360, 362, 364, 366].filterMap (fun i => lw_tbl[i]?) := by decide +kernel
  intro w hw
  have g := List.all_eq_true.mp h w hw
  rw [e] at hw
  obtain ⟨i, -, hi⟩ := List.mem_filterMap.mp hw
  exact gh_mem hi g
theorem gh_u7 : ∀ w ∈ u_ws RX7 TX7 12, w ∈ gh_tbl := by
  have h : (u_ws RX7 TX7 12).all goodWord = true := by decide +kernel
  have e : u_ws RX7 TX7 12 = [197, 199, 201, 203, 205, 207, 209, 211, 213, 215, 217, 219].filterMap (fun i => lw_tbl[i]?) := by decide +kernel
  intro w hw
  have g := List.all_eq_true.mp h w hw
  rw [e] at hw
  obtain ⟨i, -, hi⟩ := List.mem_filterMap.mp hw
  exact gh_mem hi g
theorem gh_u8 : ∀ w ∈ u_ws RX8 TX8 2, w ∈ gh_tbl := by
  have h : (u_ws RX8 TX8 2).all goodWord = true := by decide +kernel
  have e : u_ws RX8 TX8 2 = [321, 323].filterMap (fun i => lw_tbl[i]?) := by decide +kernel
  intro w hw
  have g := List.all_eq_true.mp h w hw
  rw [e] at hw
  obtain ⟨i, -, hi⟩ := List.mem_filterMap.mp hw
  exact gh_mem hi g
theorem gh_u9 : ∀ w ∈ u_ws RX9 TX9 13, w ∈ gh_tbl := by
  have h : (u_ws RX9 TX9 13).all goodWord = true := by decide +kernel
  have e : u_ws RX9 TX9 13 = [404, 406, 408, 410, 412, 414, 416, 418, 420, 422, 424, 426, 428].filterMap (fun i => lw_tbl[i]?) := by decide +kernel
  intro w hw
  have g := List.all_eq_true.mp h w hw
  rw [e] at hw
  obtain ⟨i, -, hi⟩ := List.mem_filterMap.mp hw
  exact gh_mem hi g
theorem gh_u10 : ∀ w ∈ u_ws RX10 TX10 63, w ∈ gh_tbl := by
  have h : (u_ws RX10 TX10 63).all goodWord = true := by decide +kernel
  have e : u_ws RX10 TX10 63 = [998, 1000, 1002, 1004, 1006, 1008, 1010, 1012, 1014, 1016, 1018, 1020, 1022, 1024, 1026, 1028, 1030, 1032, 1034, 1036, 1038, 1040, 1042, 1044, 1046, 1048, 1050, 1052, 1054, 1056, 1058, 1060, 1062, 1064, 1066, 1068, 1070, 1072, 1074, 1076, 1078, 1080, 1082, 1084, 1086, 1088, 1090, 1092, 1094, 1096, 1098, 1100, 1102, 1104, 1106, 1108, 1110, 1112, 1114, 1116, 1118, 1120, 1122].filterMap (fun i => lw_tbl[i]?) := by decide +kernel
  intro w hw
  have g := List.all_eq_true.mp h w hw
  rw [e] at hw
  obtain ⟨i, -, hi⟩ := List.mem_filterMap.mp hw
  exact gh_mem hi g
theorem gh_cl : ∀ u, u < 11 → (vwCl[u]? = some (gh_Rn u, gh_Tn u, (gh_ft u).length) ∧ (∀ w ∈ u_ws (gh_Rn u) (gh_Tn u) (gh_ft u).length, w ∈ gh_tbl) ∧ (∀ k, k < (gh_ft u).length → parseFieldDescriptor (gh_Tn u k).2.2.1 = some (gh_tn u k)) ∧ (∀ a, a < (gh_ft u).length → ∀ b, b < (gh_ft u).length → a ≠ b → (gh_Tn u a).2.1 ≠ (gh_Tn u b).2.1)) := by
  intro u h
  match u, h with
  | 0, _ => exact ⟨rfl, gh_u0, tyX0_ok, nmX0⟩
  | 1, _ => exact ⟨rfl, gh_u1, tyX1_ok, nmX1⟩
  | 2, _ => exact ⟨rfl, gh_u2, tyX2_ok, nmX2⟩
  | 3, _ => exact ⟨rfl, gh_u3, tyX3_ok, nmX3⟩
  | 4, _ => exact ⟨rfl, gh_u4, tyX4_ok, nmX4⟩
  | 5, _ => exact ⟨rfl, gh_u5, tyX5_ok, nmX5⟩
  | 6, _ => exact ⟨rfl, gh_u6, tyX6_ok, nmX6⟩
  | 7, _ => exact ⟨rfl, gh_u7, tyX7_ok, nmX7⟩
  | 8, _ => exact ⟨rfl, gh_u8, tyX8_ok, nmX8⟩
  | 9, _ => exact ⟨rfl, gh_u9, tyX9_ok, nmX9⟩
  | 10, _ => exact ⟨rfl, gh_u10, tyX10_ok, nmX10⟩
def gh_kd : FieldType → Nat
  | .long => 1
  | .boolean => 3
  | .int => 0
  | .array _ => 2
  | .object _ => 2
  | _ => 9
theorem gh_kds : ∀ u, u < 11 → ∀ k, k < (gh_ft u).length → (gh_ft u)[k]? = some (gh_kd (gh_tn u k)) := by decide +kernel
