/-! the words of the methods -/
theorem owX0_init : am_okWB qX0_init [222, 94, 221] = true := by decide +kernel
theorem owX0_keep : am_okWB qX0_keep [772, 94, 770, 771] = true := by decide +kernel
theorem owX0_bringBack : am_okWB qX0_bringBack [859, 94, 857, 858] = true := by decide +kernel
theorem owX1_init : am_okWB qX1_init [291, 98, 290] = true := by decide +kernel
theorem owX1_add : am_okWB qX1_add [698, 98, 697, 5] = true := by decide +kernel
theorem owX1_readLevel : am_okWB qX1_readLevel [675, 98, 674, 3] = true := by decide +kernel
theorem owX1_operatorOf : am_okWB qX1_operatorOf [701, 98, 700] = true := by decide +kernel
theorem owX1_readPart : am_okWB qX1_readPart [679, 98, 678, 4] = true := by decide +kernel
theorem owX1_factOf : am_okWB qX1_factOf [685, 98, 684] = true := by decide +kernel
theorem owX1_value : am_okWB qX1_value [820, 98, 818, 819] = true := by decide +kernel
theorem owX1_joined : am_okWB qX1_joined [823, 98, 822] = true := by decide +kernel
theorem owX2_init : am_okWB qX2_init [243, 95, 242] = true := by decide +kernel
theorem owX2_lay : am_okWB qX2_lay [1046, 95, 1044, 1045] = true := by decide +kernel
theorem owX3_init : am_okWB qX3_init [388, 99, 387] = true := by decide +kernel
theorem owX3_add : am_okWB qX3_add [735, 99, 733, 734] = true := by decide +kernel
theorem owX3_carryOut : am_okWB qX3_carryOut [867, 99, 865, 866] = true := by decide +kernel
theorem owX4_readVale : am_okWB qX4_readVale [469, 101, 468] = true := by decide +kernel
theorem owX4_readValeLine : am_okWB qX4_readValeLine [501, 101, 500] = true := by decide +kernel
theorem owX4_readHouse : am_okWB qX4_readHouse [557, 101, 556] = true := by decide +kernel
theorem owX4_readLends : am_okWB qX4_readLends [629, 101, 628] = true := by decide +kernel
theorem owX4_readDay : am_okWB qX4_readDay [642, 101, 641] = true := by decide +kernel
theorem owX4_readClash : am_okWB qX4_readClash [660, 101, 659] = true := by decide +kernel
theorem owX4_readStays : am_okWB qX4_readStays [667, 101, 666] = true := by decide +kernel
theorem owX4_readFades : am_okWB qX4_readFades [671, 101, 670] = true := by decide +kernel
theorem owX4_readPlan : am_okWB qX4_readPlan [721, 101, 720] = true := by decide +kernel
theorem owX4_readPlanLine : am_okWB qX4_readPlanLine [724, 101, 723] = true := by decide +kernel
theorem owX4_lineAct : am_okWB qX4_lineAct [727, 101, 726] = true := by decide +kernel
theorem owX4_passNewName : am_okWB qX4_passNewName [565, 101, 564] = true := by decide +kernel
theorem owX4_passKind : am_okWB qX4_passKind [645, 101, 644] = true := by decide +kernel
theorem owX4_passHouse : am_okWB qX4_passHouse [632, 101, 631] = true := by decide +kernel
theorem owX4_passDay : am_okWB qX4_passDay [663, 101, 662] = true := by decide +kernel
theorem owX4_passTold : am_okWB qX4_passTold [635, 101, 634] = true := by decide +kernel
theorem owX5_init : am_okWB qX5_init [251, 96, 250] = true := by decide +kernel
theorem owX5_add : am_okWB qX5_add [962, 96, 960, 961] = true := by decide +kernel
theorem owX5_copyFrom : am_okWB qX5_copyFrom [1051, 96, 1049, 1050] = true := by decide +kernel
theorem owX6_init : am_okWB qX6_init [165, 92, 164] = true := by decide +kernel
theorem owX6_begin : am_okWB qX6_begin [711, 92, 709, 710] = true := by decide +kernel
theorem owX6_copyFrom : am_okWB qX6_copyFrom [776, 92, 774, 775] = true := by decide +kernel
theorem owX6_passDate : am_okWB qX6_passDate [783, 92, 781, 782] = true := by decide +kernel
theorem owX6_stayLonger : am_okWB qX6_stayLonger [787, 92, 786, 9] = true := by decide +kernel
theorem owX6_leave : am_okWB qX6_leave [791, 92, 789, 790] = true := by decide +kernel
theorem owX6_flood : am_okWB qX6_flood [1018, 92, 1016, 1017] = true := by decide +kernel
theorem owX6_isDue : am_okWB qX6_isDue [795, 92, 794, 10] = true := by decide +kernel
theorem owX6_receive : am_okWB qX6_receive [810, 92, 809, 12] = true := by decide +kernel
theorem owX6_hostOf : am_okWB qX6_hostOf [799, 92, 798, 11] = true := by decide +kernel
theorem owX6_holds : am_okWB qX6_holds [803, 92, 801, 802] = true := by decide +kernel
theorem owX6_canShift : am_okWB qX6_canShift [838, 92, 836, 837] = true := by decide +kernel
theorem owX6_shift : am_okWB qX6_shift [842, 92, 840, 841] = true := by decide +kernel
theorem owX6_freeBeds : am_okWB qX6_freeBeds [748, 92, 746, 747] = true := by decide +kernel
theorem owX6_guests : am_okWB qX6_guests [752, 92, 750, 751] = true := by decide +kernel
theorem owX6_somewhere : am_okWB qX6_somewhere [893, 92, 891, 892] = true := by decide +kernel
theorem owX6_talk : am_okWB qX6_talk [756, 92, 754, 755] = true := by decide +kernel
theorem owX6_talkOfAll : am_okWB qX6_talkOfAll [1038, 92, 1036, 1037] = true := by decide +kernel
theorem owX6_bedsOfAll : am_okWB qX6_bedsOfAll [1061, 92, 1059, 1060] = true := by decide +kernel
theorem owX6_faded : am_okWB qX6_faded [1065, 92, 1063, 1064] = true := by decide +kernel
theorem owX7_init : am_okWB qX7_init [125, 91, 124] = true := by decide +kernel
theorem owX7_add : am_okWB qX7_add [459, 91, 457, 458] = true := by decide +kernel
theorem owX7_begin : am_okWB qX7_begin [478, 91, 476, 477] = true := by decide +kernel
theorem owX7_atEnd : am_okWB qX7_atEnd [498, 91, 496, 497] = true := by decide +kernel
theorem owX7_step : am_okWB qX7_step [482, 91, 480, 481] = true := by decide +kernel
theorem owX7_scanWord : am_okWB qX7_scanWord [486, 91, 485, 1] = true := by decide +kernel
theorem owX7_scanNumber : am_okWB qX7_scanNumber [491, 91, 490, 2] = true := by decide +kernel
theorem owX7_isSign : am_okWB qX7_isSign [494, 91, 493] = true := by decide +kernel
theorem owX7_isWord : am_okWB qX7_isWord [506, 91, 504, 505] = true := by decide +kernel
theorem owX7_isSignOf : am_okWB qX7_isSignOf [625, 91, 623, 624] = true := by decide +kernel
theorem owX7_isNumber : am_okWB qX7_isNumber [613, 91, 611, 612] = true := by decide +kernel
theorem owX7_isName : am_okWB qX7_isName [569, 91, 567, 568] = true := by decide +kernel
theorem owX7_refuse : am_okWB qX7_refuse [561, 91, 559, 560] = true := by decide +kernel
theorem owX7_passWord : am_okWB qX7_passWord [604, 91, 602, 603] = true := by decide +kernel
theorem owX7_passSign : am_okWB qX7_passSign [621, 91, 619, 620] = true := by decide +kernel
theorem owX7_passNumber : am_okWB qX7_passNumber [609, 91, 607, 608] = true := by decide +kernel
theorem owX8_init : am_okWB qX8_init [285, 97, 284] = true := by decide +kernel
theorem owX8_clear : am_okWB qX8_clear [473, 97, 471, 472] = true := by decide +kernel
theorem owX8_addHouse : am_okWB qX8_addHouse [617, 97, 615, 616] = true := by decide +kernel
theorem owX8_addDay : am_okWB qX8_addDay [656, 97, 654, 655] = true := by decide +kernel
theorem owX8_houseNamed : am_okWB qX8_houseNamed [595, 97, 593, 594] = true := by decide +kernel
theorem owX8_dayNamed : am_okWB qX8_dayNamed [599, 97, 597, 598] = true := by decide +kernel
theorem owX9_init : am_okWB qX9_init [117, 90, 116] = true := by decide +kernel
theorem owX9_feed : am_okWB qX9_feed [451, 90, 449, 450] = true := by decide +kernel
theorem owX9_feedBytes : am_okWB qX9_feedBytes [455, 90, 454, 0] = true := by decide +kernel
theorem owX9_vale : am_okWB qX9_vale [466, 90, 464, 465] = true := by decide +kernel
theorem owX9_startAnew : am_okWB qX9_startAnew [707, 90, 706, 6] = true := by decide +kernel
theorem owX9_year : am_okWB qX9_year [718, 90, 716, 717] = true := by decide +kernel
theorem owX9_house : am_okWB qX9_house [739, 90, 737, 738] = true := by decide +kernel
theorem owX9_day : am_okWB qX9_day [760, 90, 758, 759] = true := by decide +kernel
theorem owX9_date : am_okWB qX9_date [768, 90, 766, 767] = true := by decide +kernel
theorem owX9_move : am_okWB qX9_move [834, 90, 832, 833] = true := by decide +kernel
theorem owX9_send : am_okWB qX9_send [846, 90, 844, 845] = true := by decide +kernel
theorem owX9_build : am_okWB qX9_build [851, 90, 849, 850] = true := by decide +kernel
theorem owX9_undo : am_okWB qX9_undo [855, 90, 853, 854] = true := by decide +kernel
theorem owX9_judged : am_okWB qX9_judged [863, 90, 861, 862] = true := by decide +kernel
theorem owX9_where : am_okWB qX9_where [875, 90, 873, 874] = true := by decide +kernel
theorem owX9_next : am_okWB qX9_next [880, 90, 878, 879] = true := by decide +kernel
theorem owX9_gone : am_okWB qX9_gone [885, 90, 883, 884] = true := by decide +kernel
theorem owX9_crowd : am_okWB qX9_crowd [889, 90, 887, 888] = true := by decide +kernel
theorem owX9_refused : am_okWB qX9_refused [898, 90, 896, 897] = true := by decide +kernel
theorem owX9_meets : am_okWB qX9_meets [906, 90, 904, 905] = true := by decide +kernel
theorem owX9_beds : am_okWB qX9_beds [910, 90, 908, 909] = true := by decide +kernel
theorem owX9_fewestBeds : am_okWB qX9_fewestBeds [914, 90, 913, 13] = true := by decide +kernel
theorem owX9_layRow : am_okWB qX9_layRow [918, 90, 917, 14] = true := by decide +kernel
theorem owX9_buildRow : am_okWB qX9_buildRow [922, 90, 921, 15] = true := by decide +kernel
theorem owX9_noneTurnedOff : am_okWB qX9_noneTurnedOff [926, 90, 925, 16] = true := by decide +kernel
theorem owX9_laying : am_okWB qX9_laying [930, 90, 928, 929] = true := by decide +kernel
theorem owX9_waysFrom : am_okWB qX9_waysFrom [934, 90, 933, 17] = true := by decide +kernel
theorem owX9_apart : am_okWB qX9_apart [938, 90, 936, 937] = true := by decide +kernel
theorem owX9_fewestHouses : am_okWB qX9_fewestHouses [942, 90, 941, 18] = true := by decide +kernel
theorem owX9_isPeaceful : am_okWB qX9_isPeaceful [946, 90, 945, 19] = true := by decide +kernel
theorem owX9_defer : am_okWB qX9_defer [950, 90, 948, 949] = true := by decide +kernel
theorem owX9_mostAtOnce : am_okWB qX9_mostAtOnce [954, 90, 953, 20] = true := by decide +kernel
theorem owX9_see : am_okWB qX9_see [958, 90, 956, 957] = true := by decide +kernel
theorem owX9_who : am_okWB qX9_who [966, 90, 964, 965] = true := by decide +kernel
theorem owX9_look : am_okWB qX9_look [970, 90, 968, 969] = true := by decide +kernel
theorem owX9_mostTogether : am_okWB qX9_mostTogether [975, 90, 974, 21] = true := by decide +kernel
theorem owX9_through : am_okWB qX9_through [979, 90, 977, 978] = true := by decide +kernel
theorem owX9_lendersOf : am_okWB qX9_lendersOf [983, 90, 982, 22] = true := by decide +kernel
theorem owX9_quiet : am_okWB qX9_quiet [987, 90, 985, 986] = true := by decide +kernel
theorem owX9_peace : am_okWB qX9_peace [991, 90, 989, 990] = true := by decide +kernel
theorem owX9_loudest : am_okWB qX9_loudest [995, 90, 993, 994] = true := by decide +kernel
theorem owX9_eldest : am_okWB qX9_eldest [999, 90, 997, 998] = true := by decide +kernel
theorem owX9_spare : am_okWB qX9_spare [1003, 90, 1001, 1002] = true := by decide +kernel
theorem owX9_chance : am_okWB qX9_chance [1007, 90, 1005, 1006] = true := by decide +kernel
theorem owX9_weightOf : am_okWB qX9_weightOf [1010, 90, 1009] = true := by decide +kernel
theorem owX9_isTurnedOffBy : am_okWB qX9_isTurnedOffBy [1014, 90, 1013, 23] = true := by decide +kernel
theorem owX9_gain : am_okWB qX9_gain [1141, 90, 1140] = true := by decide +kernel
theorem owX9_ages : am_okWB qX9_ages [1022, 90, 1020, 1021] = true := by decide +kernel
theorem owX9_actByDraw : am_okWB qX9_actByDraw [1026, 90, 1025, 24] = true := by decide +kernel
theorem owX9_drawBelow : am_okWB qX9_drawBelow [1030, 90, 1029, 25] = true := by decide +kernel
theorem owX9_mark : am_okWB qX9_mark [1042, 90, 1040, 1041] = true := by decide +kernel
theorem owX9_count : am_okWB qX9_count [1057, 90, 1055, 1056] = true := by decide +kernel
theorem owX9_isHouse : am_okWB qX9_isHouse [743, 90, 742, 7] = true := by decide +kernel
theorem owX9_isDay : am_okWB qX9_isDay [764, 90, 763, 8] = true := by decide +kernel
theorem owX9_within : am_okWB qX9_within [462, 90, 461] = true := by decide +kernel
theorem owX9_has : am_okWB qX9_has [638, 90, 637] = true := by decide +kernel
theorem owX9_clamp : am_okWB qX9_clamp [826, 90, 825] = true := by decide +kernel
theorem owX10_thrown : am_okWB qX10_thrown [1146, 100, 1144, 1145] = true := by decide +kernel
theorem owX10_feed : am_okWB qX10_feed [1150, 100, 1148, 1149] = true := by decide +kernel
theorem owX10_lay : am_okWB qX10_lay [1155, 100, 1153, 27] = true := by decide +kernel
theorem owX10_init : am_okWB qX10_init [1159, 100, 1158] = true := by decide +kernel
theorem owX10_isLetter : am_okWB qX10_isLetter [1326, 100, 1325] = true := by decide +kernel
theorem owX10_isDigit : am_okWB qX10_isDigit [1333, 100, 1332] = true := by decide +kernel
theorem owX10_rank : am_okWB qX10_rank [1330, 100, 1329] = true := by decide +kernel
theorem owX10_isSignOf : am_okWB qX10_isSignOf [1338, 100, 1337] = true := by decide +kernel
theorem owX10_cutAll : am_okWB qX10_cutAll [1323, 100, 1322, 36] = true := by decide +kernel
theorem owX10_wrong : am_okWB qX10_wrong [1354, 100, 1353, 40] = true := by decide +kernel
theorem owX10_isSign : am_okWB qX10_isSign [1429, 100, 1428, 58] = true := by decide +kernel
theorem owX10_isWord : am_okWB qX10_isWord [1346, 100, 1345, 38] = true := by decide +kernel
theorem owX10_takeSign : am_okWB qX10_takeSign [1441, 100, 1440, 61] = true := by decide +kernel
theorem owX10_hasSign : am_okWB qX10_hasSign [1437, 100, 1436, 60] = true := by decide +kernel
theorem owX10_hasWord : am_okWB qX10_hasWord [1378, 100, 1377, 46] = true := by decide +kernel
theorem owX10_takeWord : am_okWB qX10_takeWord [1374, 100, 1373, 45] = true := by decide +kernel
theorem owX10_within : am_okWB qX10_within [1397, 100, 1396] = true := by decide +kernel
theorem owX10_standsAsAlways : am_okWB qX10_standsAsAlways [1189, 100, 1188, 28] = true := by decide +kernel
theorem owX10_takeNumber : am_okWB qX10_takeNumber [1382, 100, 1381, 47] = true := by decide +kernel
theorem owX10_takeAfter : am_okWB qX10_takeAfter [1370, 100, 1369, 44] = true := by decide +kernel
theorem owX10_wordHere : am_okWB qX10_wordHere [1362, 100, 1361, 42] = true := by decide +kernel
theorem owX10_takeOne : am_okWB qX10_takeOne [1390, 100, 1389, 49] = true := by decide +kernel
theorem owX10_isName : am_okWB qX10_isName [1358, 100, 1357, 41] = true := by decide +kernel
theorem owX10_nameAt : am_okWB qX10_nameAt [1366, 100, 1365, 43] = true := by decide +kernel
theorem owX10_takeTold : am_okWB qX10_takeTold [1394, 100, 1393, 50] = true := by decide +kernel
theorem owX10_vale : am_okWB qX10_vale [1319, 100, 1317, 1318] = true := by decide +kernel
theorem owX10_readLine : am_okWB qX10_readLine [1342, 100, 1341, 37] = true := by decide +kernel
theorem owX10_readPair : am_okWB qX10_readPair [1401, 100, 1400, 51] = true := by decide +kernel
theorem owX10_readName : am_okWB qX10_readName [1350, 100, 1349, 39] = true := by decide +kernel
theorem owX10_readDay : am_okWB qX10_readDay [1386, 100, 1385, 48] = true := by decide +kernel
theorem owX10_readOnce : am_okWB qX10_readOnce [1405, 100, 1404, 52] = true := by decide +kernel
theorem owX10_year : am_okWB qX10_year [1445, 100, 1443, 1444] = true := by decide +kernel
theorem owX10_emit : am_okWB qX10_emit [1433, 100, 1432, 59] = true := by decide +kernel
theorem owX10_whole : am_okWB qX10_whole [1409, 100, 1408, 53] = true := by decide +kernel
theorem owX10_test : am_okWB qX10_test [1413, 100, 1412, 54] = true := by decide +kernel
theorem owX10_sums : am_okWB qX10_sums [1417, 100, 1416, 55] = true := by decide +kernel
theorem owX10_products : am_okWB qX10_products [1421, 100, 1420, 56] = true := by decide +kernel
theorem owX10_takePart : am_okWB qX10_takePart [1425, 100, 1424, 57] = true := by decide +kernel
theorem owX10_worthAt : am_okWB qX10_worthAt [1520, 100, 1519, 76] = true := by decide +kernel
theorem owX10_both : am_okWB qX10_both [1523, 100, 1522] = true := by decide +kernel
theorem owX10_copies : am_okWB qX10_copies [1489, 100, 1488, 69] = true := by decide +kernel
theorem owX10_starts : am_okWB qX10_starts [1209, 100, 1208, 33] = true := by decide +kernel
theorem owX10_datesAsTold : am_okWB qX10_datesAsTold [1197, 100, 1196, 30] = true := by decide +kernel
theorem owX10_begins : am_okWB qX10_begins [1193, 100, 1192, 29] = true := by decide +kernel
theorem owX10_keeps : am_okWB qX10_keeps [1485, 100, 1484, 68] = true := by decide +kernel
theorem owX10_houses : am_okWB qX10_houses [1213, 100, 1212, 34] = true := by decide +kernel
theorem owX10_days : am_okWB qX10_days [1201, 100, 1200, 31] = true := by decide +kernel
theorem owX10_houseOf : am_okWB qX10_houseOf [1217, 100, 1216, 35] = true := by decide +kernel
theorem owX10_dayOf : am_okWB qX10_dayOf [1205, 100, 1204, 32] = true := by decide +kernel
theorem owX10_isHouse : am_okWB qX10_isHouse [1453, 100, 1452, 62] = true := by decide +kernel
theorem owX10_isDay : am_okWB qX10_isDay [1477, 100, 1476, 67] = true := by decide +kernel
theorem owX10_widthOf : am_okWB qX10_widthOf [1461, 100, 1460, 64] = true := by decide +kernel
theorem owX10_inHouse : am_okWB qX10_inHouse [1465, 100, 1464, 65] = true := by decide +kernel
theorem owX10_freeOf : am_okWB qX10_freeOf [1457, 100, 1456, 63] = true := by decide +kernel
theorem owX10_doesHold : am_okWB qX10_doesHold [1513, 100, 1512, 75] = true := by decide +kernel
theorem owX10_bits : am_okWB qX10_bits [1516, 100, 1515] = true := by decide +kernel
theorem owX10_somewhere : am_okWB qX10_somewhere [1571, 100, 1570, 79] = true := by decide +kernel
theorem owX10_leaves : am_okWB qX10_leaves [1497, 100, 1496, 71] = true := by decide +kernel
theorem owX10_isDate : am_okWB qX10_isDate [1501, 100, 1500, 72] = true := by decide +kernel
theorem owX10_bedFor : am_okWB qX10_bedFor [1509, 100, 1508, 74] = true := by decide +kernel
theorem owX10_comes : am_okWB qX10_comes [1505, 100, 1504, 73] = true := by decide +kernel
theorem owX10_passes : am_okWB qX10_passes [1493, 100, 1492, 70] = true := by decide +kernel
theorem owX10_talkIn : am_okWB qX10_talkIn [1469, 100, 1468, 66] = true := by decide +kernel
theorem owX10_house : am_okWB qX10_house [1449, 100, 1447, 1448] = true := by decide +kernel
theorem owX10_day : am_okWB qX10_day [1473, 100, 1471, 1472] = true := by decide +kernel
theorem owX10_date : am_okWB qX10_date [1481, 100, 1479, 1480] = true := by decide +kernel
theorem owX10_mayMove : am_okWB qX10_mayMove [1531, 100, 1530, 77] = true := by decide +kernel
theorem owX10_move : am_okWB qX10_move [1527, 100, 1525, 1526] = true := by decide +kernel
theorem owX10_send : am_okWB qX10_send [1535, 100, 1533, 1534] = true := by decide +kernel
theorem owX10_build : am_okWB qX10_build [1539, 100, 1537, 1538] = true := by decide +kernel
theorem owX10_undo : am_okWB qX10_undo [1543, 100, 1541, 1542] = true := by decide +kernel
theorem owX10_judged : am_okWB qX10_judged [1547, 100, 1545, 1546] = true := by decide +kernel
theorem owX10_triesNow : am_okWB qX10_triesNow [1555, 100, 1554, 78] = true := by decide +kernel
theorem owX10_where : am_okWB qX10_where [1551, 100, 1549, 1550] = true := by decide +kernel
theorem owX10_next : am_okWB qX10_next [1559, 100, 1557, 1558] = true := by decide +kernel
theorem owX10_gone : am_okWB qX10_gone [1563, 100, 1561, 1562] = true := by decide +kernel
theorem owX10_crowd : am_okWB qX10_crowd [1567, 100, 1565, 1566] = true := by decide +kernel
theorem owX10_refused : am_okWB qX10_refused [1575, 100, 1573, 1574] = true := by decide +kernel
theorem owX10_meets : am_okWB qX10_meets [1579, 100, 1577, 1578] = true := by decide +kernel
theorem owX10_isCalm : am_okWB qX10_isCalm [1591, 100, 1590, 81] = true := by decide +kernel
theorem owX10_builtIn : am_okWB qX10_builtIn [1587, 100, 1586, 80] = true := by decide +kernel
theorem owX10_beds : am_okWB qX10_beds [1583, 100, 1581, 1582] = true := by decide +kernel
theorem owX10_laysFrom : am_okWB qX10_laysFrom [1599, 100, 1598, 82] = true := by decide +kernel
theorem owX10_laying : am_okWB qX10_laying [1595, 100, 1593, 1594] = true := by decide +kernel
theorem owX10_isApart : am_okWB qX10_isApart [1607, 100, 1606, 83] = true := by decide +kernel
theorem owX10_apart : am_okWB qX10_apart [1603, 100, 1601, 1602] = true := by decide +kernel
theorem owX10_defer : am_okWB qX10_defer [1611, 100, 1609, 1610] = true := by decide +kernel
theorem owX10_spare : am_okWB qX10_spare [1615, 100, 1613, 1614] = true := by decide +kernel
theorem owX10_see : am_okWB qX10_see [1619, 100, 1617, 1618] = true := by decide +kernel
theorem owX10_whoNow : am_okWB qX10_whoNow [1627, 100, 1626, 84] = true := by decide +kernel
theorem owX10_who : am_okWB qX10_who [1623, 100, 1621, 1622] = true := by decide +kernel
theorem owX10_look : am_okWB qX10_look [1631, 100, 1629, 1630] = true := by decide +kernel
theorem owX10_through : am_okWB qX10_through [1635, 100, 1633, 1634] = true := by decide +kernel
theorem owX10_quiet : am_okWB qX10_quiet [1639, 100, 1637, 1638] = true := by decide +kernel
theorem owX10_peace : am_okWB qX10_peace [1643, 100, 1641, 1642] = true := by decide +kernel
theorem owX10_eldest : am_okWB qX10_eldest [1647, 100, 1645, 1646] = true := by decide +kernel
theorem owX10_loudest : am_okWB qX10_loudest [1651, 100, 1649, 1650] = true := by decide +kernel
theorem owX10_chance : am_okWB qX10_chance [1655, 100, 1653, 1654] = true := by decide +kernel
theorem owX10_getsBy : am_okWB qX10_getsBy [1663, 100, 1662] = true := by decide +kernel
theorem owX10_rests : am_okWB qX10_rests [1660, 100, 1658, 1659] = true := by decide +kernel
theorem owX10_draw : am_okWB qX10_draw [1675, 100, 1674, 86] = true := by decide +kernel
theorem owX10_drawsDeed : am_okWB qX10_drawsDeed [1671, 100, 1670, 85] = true := by decide +kernel
theorem owX10_ages : am_okWB qX10_ages [1667, 100, 1665, 1666] = true := by decide +kernel
theorem owX10_mark : am_okWB qX10_mark [1683, 100, 1681, 1682] = true := by decide +kernel
theorem owX10_fadedNow : am_okWB qX10_fadedNow [1695, 100, 1694, 88] = true := by decide +kernel
theorem owX10_bedsOfAll : am_okWB qX10_bedsOfAll [1691, 100, 1690, 87] = true := by decide +kernel
theorem owX10_count : am_okWB qX10_count [1687, 100, 1685, 1686] = true := by decide +kernel
theorem owJ6_numberOfTrailingZeros_0f7a4 : am_okWB qJ6_numberOfTrailingZeros_0f7a4 [901, 108, 900] = true := by decide +kernel
theorem owJ6_bitCount_0f7a4 : am_okWB qJ6_bitCount_0f7a4 [813, 108, 812] = true := by decide +kernel
theorem owJ9_max_7cf53 : am_okWB qJ9_max_7cf53 [830, 107, 829] = true := by decide +kernel
theorem owJ9_min_7cf53 : am_okWB qJ9_min_7cf53 [779, 107, 778] = true := by decide +kernel
theorem owJ7_fill_53178 : am_okWB qJ7_fill_53178 [169, 93, 168] = true := by decide +kernel
def am_okQ (q : am_Q) : Prop := am_okW q ∧ ∀ pc i, q.2.2.2.2.2.2 pc = some i → am_okI am_T q pc i
theorem oqX0_init : am_okQ qX0_init := ⟨am_okWB_ok owX0_init, am_okC ocX0_init⟩
theorem oqX0_keep : am_okQ qX0_keep := ⟨am_okWB_ok owX0_keep, am_okC ocX0_keep⟩
theorem oqX0_bringBack : am_okQ qX0_bringBack := ⟨am_okWB_ok owX0_bringBack, am_okC ocX0_bringBack⟩
theorem oqX1_init : am_okQ qX1_init := ⟨am_okWB_ok owX1_init, am_okC ocX1_init⟩
theorem oqX1_add : am_okQ qX1_add := ⟨am_okWB_ok owX1_add, am_okC ocX1_add⟩
theorem oqX1_readLevel : am_okQ qX1_readLevel := ⟨am_okWB_ok owX1_readLevel, am_okC ocX1_readLevel⟩
theorem oqX1_operatorOf : am_okQ qX1_operatorOf := ⟨am_okWB_ok owX1_operatorOf, am_okC ocX1_operatorOf⟩
theorem oqX1_readPart : am_okQ qX1_readPart := ⟨am_okWB_ok owX1_readPart, am_okC ocX1_readPart⟩
theorem oqX1_factOf : am_okQ qX1_factOf := ⟨am_okWB_ok owX1_factOf, am_okC ocX1_factOf⟩
theorem oqX1_value : am_okQ qX1_value := ⟨am_okWB_ok owX1_value, am_okC ocX1_value⟩
theorem oqX1_joined : am_okQ qX1_joined := ⟨am_okWB_ok owX1_joined, am_okC ocX1_joined⟩
theorem oqX2_init : am_okQ qX2_init := ⟨am_okWB_ok owX2_init, am_okC ocX2_init⟩
theorem oqX2_lay : am_okQ qX2_lay := ⟨am_okWB_ok owX2_lay, am_okC ocX2_lay⟩
theorem oqX3_init : am_okQ qX3_init := ⟨am_okWB_ok owX3_init, am_okC ocX3_init⟩
theorem oqX3_add : am_okQ qX3_add := ⟨am_okWB_ok owX3_add, am_okC ocX3_add⟩
theorem oqX3_carryOut : am_okQ qX3_carryOut := ⟨am_okWB_ok owX3_carryOut, am_okC ocX3_carryOut⟩
theorem oqX4_readVale : am_okQ qX4_readVale := ⟨am_okWB_ok owX4_readVale, am_okC ocX4_readVale⟩
theorem oqX4_readValeLine : am_okQ qX4_readValeLine := ⟨am_okWB_ok owX4_readValeLine, am_okC ocX4_readValeLine⟩
theorem oqX4_readHouse : am_okQ qX4_readHouse := ⟨am_okWB_ok owX4_readHouse, am_okC ocX4_readHouse⟩
theorem oqX4_readLends : am_okQ qX4_readLends := ⟨am_okWB_ok owX4_readLends, am_okC ocX4_readLends⟩
theorem oqX4_readDay : am_okQ qX4_readDay := ⟨am_okWB_ok owX4_readDay, am_okC ocX4_readDay⟩
theorem oqX4_readClash : am_okQ qX4_readClash := ⟨am_okWB_ok owX4_readClash, am_okC ocX4_readClash⟩
theorem oqX4_readStays : am_okQ qX4_readStays := ⟨am_okWB_ok owX4_readStays, am_okC ocX4_readStays⟩
theorem oqX4_readFades : am_okQ qX4_readFades := ⟨am_okWB_ok owX4_readFades, am_okC ocX4_readFades⟩
theorem oqX4_readPlan : am_okQ qX4_readPlan := ⟨am_okWB_ok owX4_readPlan, am_okC ocX4_readPlan⟩
theorem oqX4_readPlanLine : am_okQ qX4_readPlanLine := ⟨am_okWB_ok owX4_readPlanLine, am_okC ocX4_readPlanLine⟩
theorem oqX4_lineAct : am_okQ qX4_lineAct := ⟨am_okWB_ok owX4_lineAct, am_okC ocX4_lineAct⟩
theorem oqX4_passNewName : am_okQ qX4_passNewName := ⟨am_okWB_ok owX4_passNewName, am_okC ocX4_passNewName⟩
theorem oqX4_passKind : am_okQ qX4_passKind := ⟨am_okWB_ok owX4_passKind, am_okC ocX4_passKind⟩
theorem oqX4_passHouse : am_okQ qX4_passHouse := ⟨am_okWB_ok owX4_passHouse, am_okC ocX4_passHouse⟩
theorem oqX4_passDay : am_okQ qX4_passDay := ⟨am_okWB_ok owX4_passDay, am_okC ocX4_passDay⟩
theorem oqX4_passTold : am_okQ qX4_passTold := ⟨am_okWB_ok owX4_passTold, am_okC ocX4_passTold⟩
theorem oqX5_init : am_okQ qX5_init := ⟨am_okWB_ok owX5_init, am_okC ocX5_init⟩
theorem oqX5_add : am_okQ qX5_add := ⟨am_okWB_ok owX5_add, am_okC ocX5_add⟩
theorem oqX5_copyFrom : am_okQ qX5_copyFrom := ⟨am_okWB_ok owX5_copyFrom, am_okC ocX5_copyFrom⟩
theorem oqX6_init : am_okQ qX6_init := ⟨am_okWB_ok owX6_init, am_okC ocX6_init⟩
theorem oqX6_begin : am_okQ qX6_begin := ⟨am_okWB_ok owX6_begin, am_okC ocX6_begin⟩
theorem oqX6_copyFrom : am_okQ qX6_copyFrom := ⟨am_okWB_ok owX6_copyFrom, am_okC ocX6_copyFrom⟩
theorem oqX6_passDate : am_okQ qX6_passDate := ⟨am_okWB_ok owX6_passDate, am_okC ocX6_passDate⟩
theorem oqX6_stayLonger : am_okQ qX6_stayLonger := ⟨am_okWB_ok owX6_stayLonger, am_okC ocX6_stayLonger⟩
theorem oqX6_leave : am_okQ qX6_leave := ⟨am_okWB_ok owX6_leave, am_okC ocX6_leave⟩
theorem oqX6_flood : am_okQ qX6_flood := ⟨am_okWB_ok owX6_flood, am_okC ocX6_flood⟩
theorem oqX6_isDue : am_okQ qX6_isDue := ⟨am_okWB_ok owX6_isDue, am_okC ocX6_isDue⟩
theorem oqX6_receive : am_okQ qX6_receive := ⟨am_okWB_ok owX6_receive, am_okC ocX6_receive⟩
theorem oqX6_hostOf : am_okQ qX6_hostOf := ⟨am_okWB_ok owX6_hostOf, am_okC ocX6_hostOf⟩
theorem oqX6_holds : am_okQ qX6_holds := ⟨am_okWB_ok owX6_holds, am_okC ocX6_holds⟩
theorem oqX6_canShift : am_okQ qX6_canShift := ⟨am_okWB_ok owX6_canShift, am_okC ocX6_canShift⟩
theorem oqX6_shift : am_okQ qX6_shift := ⟨am_okWB_ok owX6_shift, am_okC ocX6_shift⟩
theorem oqX6_freeBeds : am_okQ qX6_freeBeds := ⟨am_okWB_ok owX6_freeBeds, am_okC ocX6_freeBeds⟩
theorem oqX6_guests : am_okQ qX6_guests := ⟨am_okWB_ok owX6_guests, am_okC ocX6_guests⟩
theorem oqX6_somewhere : am_okQ qX6_somewhere := ⟨am_okWB_ok owX6_somewhere, am_okC ocX6_somewhere⟩
theorem oqX6_talk : am_okQ qX6_talk := ⟨am_okWB_ok owX6_talk, am_okC ocX6_talk⟩
theorem oqX6_talkOfAll : am_okQ qX6_talkOfAll := ⟨am_okWB_ok owX6_talkOfAll, am_okC ocX6_talkOfAll⟩
theorem oqX6_bedsOfAll : am_okQ qX6_bedsOfAll := ⟨am_okWB_ok owX6_bedsOfAll, am_okC ocX6_bedsOfAll⟩
theorem oqX6_faded : am_okQ qX6_faded := ⟨am_okWB_ok owX6_faded, am_okC ocX6_faded⟩
theorem oqX7_init : am_okQ qX7_init := ⟨am_okWB_ok owX7_init, am_okC ocX7_init⟩
theorem oqX7_add : am_okQ qX7_add := ⟨am_okWB_ok owX7_add, am_okC ocX7_add⟩
theorem oqX7_begin : am_okQ qX7_begin := ⟨am_okWB_ok owX7_begin, am_okC ocX7_begin⟩
theorem oqX7_atEnd : am_okQ qX7_atEnd := ⟨am_okWB_ok owX7_atEnd, am_okC ocX7_atEnd⟩
theorem oqX7_step : am_okQ qX7_step := ⟨am_okWB_ok owX7_step, am_okC ocX7_step⟩
theorem oqX7_scanWord : am_okQ qX7_scanWord := ⟨am_okWB_ok owX7_scanWord, am_okC ocX7_scanWord⟩
theorem oqX7_scanNumber : am_okQ qX7_scanNumber := ⟨am_okWB_ok owX7_scanNumber, am_okC ocX7_scanNumber⟩
theorem oqX7_isSign : am_okQ qX7_isSign := ⟨am_okWB_ok owX7_isSign, am_okC ocX7_isSign⟩
theorem oqX7_isWord : am_okQ qX7_isWord := ⟨am_okWB_ok owX7_isWord, am_okC ocX7_isWord⟩
theorem oqX7_isSignOf : am_okQ qX7_isSignOf := ⟨am_okWB_ok owX7_isSignOf, am_okC ocX7_isSignOf⟩
theorem oqX7_isNumber : am_okQ qX7_isNumber := ⟨am_okWB_ok owX7_isNumber, am_okC ocX7_isNumber⟩
theorem oqX7_isName : am_okQ qX7_isName := ⟨am_okWB_ok owX7_isName, am_okC ocX7_isName⟩
theorem oqX7_refuse : am_okQ qX7_refuse := ⟨am_okWB_ok owX7_refuse, am_okC ocX7_refuse⟩
theorem oqX7_passWord : am_okQ qX7_passWord := ⟨am_okWB_ok owX7_passWord, am_okC ocX7_passWord⟩
theorem oqX7_passSign : am_okQ qX7_passSign := ⟨am_okWB_ok owX7_passSign, am_okC ocX7_passSign⟩
theorem oqX7_passNumber : am_okQ qX7_passNumber := ⟨am_okWB_ok owX7_passNumber, am_okC ocX7_passNumber⟩
theorem oqX8_init : am_okQ qX8_init := ⟨am_okWB_ok owX8_init, am_okC ocX8_init⟩
theorem oqX8_clear : am_okQ qX8_clear := ⟨am_okWB_ok owX8_clear, am_okC ocX8_clear⟩
theorem oqX8_addHouse : am_okQ qX8_addHouse := ⟨am_okWB_ok owX8_addHouse, am_okC ocX8_addHouse⟩
theorem oqX8_addDay : am_okQ qX8_addDay := ⟨am_okWB_ok owX8_addDay, am_okC ocX8_addDay⟩
theorem oqX8_houseNamed : am_okQ qX8_houseNamed := ⟨am_okWB_ok owX8_houseNamed, am_okC ocX8_houseNamed⟩
theorem oqX8_dayNamed : am_okQ qX8_dayNamed := ⟨am_okWB_ok owX8_dayNamed, am_okC ocX8_dayNamed⟩
theorem oqX9_init : am_okQ qX9_init := ⟨am_okWB_ok owX9_init, am_okC ocX9_init⟩
theorem oqX9_feed : am_okQ qX9_feed := ⟨am_okWB_ok owX9_feed, am_okC ocX9_feed⟩
theorem oqX9_feedBytes : am_okQ qX9_feedBytes := ⟨am_okWB_ok owX9_feedBytes, am_okC ocX9_feedBytes⟩
theorem oqX9_vale : am_okQ qX9_vale := ⟨am_okWB_ok owX9_vale, am_okC ocX9_vale⟩
theorem oqX9_startAnew : am_okQ qX9_startAnew := ⟨am_okWB_ok owX9_startAnew, am_okC ocX9_startAnew⟩
theorem oqX9_year : am_okQ qX9_year := ⟨am_okWB_ok owX9_year, am_okC ocX9_year⟩
theorem oqX9_house : am_okQ qX9_house := ⟨am_okWB_ok owX9_house, am_okC ocX9_house⟩
theorem oqX9_day : am_okQ qX9_day := ⟨am_okWB_ok owX9_day, am_okC ocX9_day⟩
theorem oqX9_date : am_okQ qX9_date := ⟨am_okWB_ok owX9_date, am_okC ocX9_date⟩
theorem oqX9_move : am_okQ qX9_move := ⟨am_okWB_ok owX9_move, am_okC ocX9_move⟩
theorem oqX9_send : am_okQ qX9_send := ⟨am_okWB_ok owX9_send, am_okC ocX9_send⟩
theorem oqX9_build : am_okQ qX9_build := ⟨am_okWB_ok owX9_build, am_okC ocX9_build⟩
theorem oqX9_undo : am_okQ qX9_undo := ⟨am_okWB_ok owX9_undo, am_okC ocX9_undo⟩
theorem oqX9_judged : am_okQ qX9_judged := ⟨am_okWB_ok owX9_judged, am_okC ocX9_judged⟩
theorem oqX9_where : am_okQ qX9_where := ⟨am_okWB_ok owX9_where, am_okC ocX9_where⟩
theorem oqX9_next : am_okQ qX9_next := ⟨am_okWB_ok owX9_next, am_okC ocX9_next⟩
theorem oqX9_gone : am_okQ qX9_gone := ⟨am_okWB_ok owX9_gone, am_okC ocX9_gone⟩
theorem oqX9_crowd : am_okQ qX9_crowd := ⟨am_okWB_ok owX9_crowd, am_okC ocX9_crowd⟩
theorem oqX9_refused : am_okQ qX9_refused := ⟨am_okWB_ok owX9_refused, am_okC ocX9_refused⟩
theorem oqX9_meets : am_okQ qX9_meets := ⟨am_okWB_ok owX9_meets, am_okC ocX9_meets⟩
theorem oqX9_beds : am_okQ qX9_beds := ⟨am_okWB_ok owX9_beds, am_okC ocX9_beds⟩
theorem oqX9_fewestBeds : am_okQ qX9_fewestBeds := ⟨am_okWB_ok owX9_fewestBeds, am_okC ocX9_fewestBeds⟩
theorem oqX9_layRow : am_okQ qX9_layRow := ⟨am_okWB_ok owX9_layRow, am_okC ocX9_layRow⟩
theorem oqX9_buildRow : am_okQ qX9_buildRow := ⟨am_okWB_ok owX9_buildRow, am_okC ocX9_buildRow⟩
theorem oqX9_noneTurnedOff : am_okQ qX9_noneTurnedOff := ⟨am_okWB_ok owX9_noneTurnedOff, am_okC ocX9_noneTurnedOff⟩
theorem oqX9_laying : am_okQ qX9_laying := ⟨am_okWB_ok owX9_laying, am_okC ocX9_laying⟩
theorem oqX9_waysFrom : am_okQ qX9_waysFrom := ⟨am_okWB_ok owX9_waysFrom, am_okC ocX9_waysFrom⟩
theorem oqX9_apart : am_okQ qX9_apart := ⟨am_okWB_ok owX9_apart, am_okC ocX9_apart⟩
theorem oqX9_fewestHouses : am_okQ qX9_fewestHouses := ⟨am_okWB_ok owX9_fewestHouses, am_okC ocX9_fewestHouses⟩
theorem oqX9_isPeaceful : am_okQ qX9_isPeaceful := ⟨am_okWB_ok owX9_isPeaceful, am_okC ocX9_isPeaceful⟩
theorem oqX9_defer : am_okQ qX9_defer := ⟨am_okWB_ok owX9_defer, am_okC ocX9_defer⟩
theorem oqX9_mostAtOnce : am_okQ qX9_mostAtOnce := ⟨am_okWB_ok owX9_mostAtOnce, am_okC ocX9_mostAtOnce⟩
theorem oqX9_see : am_okQ qX9_see := ⟨am_okWB_ok owX9_see, am_okC ocX9_see⟩
theorem oqX9_who : am_okQ qX9_who := ⟨am_okWB_ok owX9_who, am_okC ocX9_who⟩
theorem oqX9_look : am_okQ qX9_look := ⟨am_okWB_ok owX9_look, am_okC ocX9_look⟩
theorem oqX9_mostTogether : am_okQ qX9_mostTogether := ⟨am_okWB_ok owX9_mostTogether, am_okC ocX9_mostTogether⟩
theorem oqX9_through : am_okQ qX9_through := ⟨am_okWB_ok owX9_through, am_okC ocX9_through⟩
theorem oqX9_lendersOf : am_okQ qX9_lendersOf := ⟨am_okWB_ok owX9_lendersOf, am_okC ocX9_lendersOf⟩
theorem oqX9_quiet : am_okQ qX9_quiet := ⟨am_okWB_ok owX9_quiet, am_okC ocX9_quiet⟩
theorem oqX9_peace : am_okQ qX9_peace := ⟨am_okWB_ok owX9_peace, am_okC ocX9_peace⟩
theorem oqX9_loudest : am_okQ qX9_loudest := ⟨am_okWB_ok owX9_loudest, am_okC ocX9_loudest⟩
theorem oqX9_eldest : am_okQ qX9_eldest := ⟨am_okWB_ok owX9_eldest, am_okC ocX9_eldest⟩
theorem oqX9_spare : am_okQ qX9_spare := ⟨am_okWB_ok owX9_spare, am_okC ocX9_spare⟩
theorem oqX9_chance : am_okQ qX9_chance := ⟨am_okWB_ok owX9_chance, am_okC ocX9_chance⟩
theorem oqX9_weightOf : am_okQ qX9_weightOf := ⟨am_okWB_ok owX9_weightOf, am_okC ocX9_weightOf⟩
theorem oqX9_isTurnedOffBy : am_okQ qX9_isTurnedOffBy := ⟨am_okWB_ok owX9_isTurnedOffBy, am_okC ocX9_isTurnedOffBy⟩
theorem oqX9_gain : am_okQ qX9_gain := ⟨am_okWB_ok owX9_gain, am_okC ocX9_gain⟩
theorem oqX9_ages : am_okQ qX9_ages := ⟨am_okWB_ok owX9_ages, am_okC ocX9_ages⟩
theorem oqX9_actByDraw : am_okQ qX9_actByDraw := ⟨am_okWB_ok owX9_actByDraw, am_okC ocX9_actByDraw⟩
theorem oqX9_drawBelow : am_okQ qX9_drawBelow := ⟨am_okWB_ok owX9_drawBelow, am_okC ocX9_drawBelow⟩
theorem oqX9_mark : am_okQ qX9_mark := ⟨am_okWB_ok owX9_mark, am_okC ocX9_mark⟩
theorem oqX9_count : am_okQ qX9_count := ⟨am_okWB_ok owX9_count, am_okC ocX9_count⟩
theorem oqX9_isHouse : am_okQ qX9_isHouse := ⟨am_okWB_ok owX9_isHouse, am_okC ocX9_isHouse⟩
theorem oqX9_isDay : am_okQ qX9_isDay := ⟨am_okWB_ok owX9_isDay, am_okC ocX9_isDay⟩
theorem oqX9_within : am_okQ qX9_within := ⟨am_okWB_ok owX9_within, am_okC ocX9_within⟩
theorem oqX9_has : am_okQ qX9_has := ⟨am_okWB_ok owX9_has, am_okC ocX9_has⟩
theorem oqX9_clamp : am_okQ qX9_clamp := ⟨am_okWB_ok owX9_clamp, am_okC ocX9_clamp⟩
theorem oqX10_thrown : am_okQ qX10_thrown := ⟨am_okWB_ok owX10_thrown, am_okC ocX10_thrown⟩
theorem oqX10_feed : am_okQ qX10_feed := ⟨am_okWB_ok owX10_feed, am_okC ocX10_feed⟩
theorem oqX10_lay : am_okQ qX10_lay := ⟨am_okWB_ok owX10_lay, am_okC ocX10_lay⟩
theorem oqX10_init : am_okQ qX10_init := ⟨am_okWB_ok owX10_init, am_okC ocX10_init⟩
theorem oqX10_isLetter : am_okQ qX10_isLetter := ⟨am_okWB_ok owX10_isLetter, am_okC ocX10_isLetter⟩
theorem oqX10_isDigit : am_okQ qX10_isDigit := ⟨am_okWB_ok owX10_isDigit, am_okC ocX10_isDigit⟩
theorem oqX10_rank : am_okQ qX10_rank := ⟨am_okWB_ok owX10_rank, am_okC ocX10_rank⟩
theorem oqX10_isSignOf : am_okQ qX10_isSignOf := ⟨am_okWB_ok owX10_isSignOf, am_okC ocX10_isSignOf⟩
theorem oqX10_cutAll : am_okQ qX10_cutAll := ⟨am_okWB_ok owX10_cutAll, am_okC ocX10_cutAll⟩
theorem oqX10_wrong : am_okQ qX10_wrong := ⟨am_okWB_ok owX10_wrong, am_okC ocX10_wrong⟩
theorem oqX10_isSign : am_okQ qX10_isSign := ⟨am_okWB_ok owX10_isSign, am_okC ocX10_isSign⟩
theorem oqX10_isWord : am_okQ qX10_isWord := ⟨am_okWB_ok owX10_isWord, am_okC ocX10_isWord⟩
theorem oqX10_takeSign : am_okQ qX10_takeSign := ⟨am_okWB_ok owX10_takeSign, am_okC ocX10_takeSign⟩
theorem oqX10_hasSign : am_okQ qX10_hasSign := ⟨am_okWB_ok owX10_hasSign, am_okC ocX10_hasSign⟩
theorem oqX10_hasWord : am_okQ qX10_hasWord := ⟨am_okWB_ok owX10_hasWord, am_okC ocX10_hasWord⟩
theorem oqX10_takeWord : am_okQ qX10_takeWord := ⟨am_okWB_ok owX10_takeWord, am_okC ocX10_takeWord⟩
theorem oqX10_within : am_okQ qX10_within := ⟨am_okWB_ok owX10_within, am_okC ocX10_within⟩
theorem oqX10_standsAsAlways : am_okQ qX10_standsAsAlways := ⟨am_okWB_ok owX10_standsAsAlways, am_okC ocX10_standsAsAlways⟩
theorem oqX10_takeNumber : am_okQ qX10_takeNumber := ⟨am_okWB_ok owX10_takeNumber, am_okC ocX10_takeNumber⟩
theorem oqX10_takeAfter : am_okQ qX10_takeAfter := ⟨am_okWB_ok owX10_takeAfter, am_okC ocX10_takeAfter⟩
theorem oqX10_wordHere : am_okQ qX10_wordHere := ⟨am_okWB_ok owX10_wordHere, am_okC ocX10_wordHere⟩
theorem oqX10_takeOne : am_okQ qX10_takeOne := ⟨am_okWB_ok owX10_takeOne, am_okC ocX10_takeOne⟩
theorem oqX10_isName : am_okQ qX10_isName := ⟨am_okWB_ok owX10_isName, am_okC ocX10_isName⟩
theorem oqX10_nameAt : am_okQ qX10_nameAt := ⟨am_okWB_ok owX10_nameAt, am_okC ocX10_nameAt⟩
theorem oqX10_takeTold : am_okQ qX10_takeTold := ⟨am_okWB_ok owX10_takeTold, am_okC ocX10_takeTold⟩
theorem oqX10_vale : am_okQ qX10_vale := ⟨am_okWB_ok owX10_vale, am_okC ocX10_vale⟩
theorem oqX10_readLine : am_okQ qX10_readLine := ⟨am_okWB_ok owX10_readLine, am_okC ocX10_readLine⟩
theorem oqX10_readPair : am_okQ qX10_readPair := ⟨am_okWB_ok owX10_readPair, am_okC ocX10_readPair⟩
theorem oqX10_readName : am_okQ qX10_readName := ⟨am_okWB_ok owX10_readName, am_okC ocX10_readName⟩
theorem oqX10_readDay : am_okQ qX10_readDay := ⟨am_okWB_ok owX10_readDay, am_okC ocX10_readDay⟩
theorem oqX10_readOnce : am_okQ qX10_readOnce := ⟨am_okWB_ok owX10_readOnce, am_okC ocX10_readOnce⟩
theorem oqX10_year : am_okQ qX10_year := ⟨am_okWB_ok owX10_year, am_okC ocX10_year⟩
theorem oqX10_emit : am_okQ qX10_emit := ⟨am_okWB_ok owX10_emit, am_okC ocX10_emit⟩
theorem oqX10_whole : am_okQ qX10_whole := ⟨am_okWB_ok owX10_whole, am_okC ocX10_whole⟩
theorem oqX10_test : am_okQ qX10_test := ⟨am_okWB_ok owX10_test, am_okC ocX10_test⟩
theorem oqX10_sums : am_okQ qX10_sums := ⟨am_okWB_ok owX10_sums, am_okC ocX10_sums⟩
theorem oqX10_products : am_okQ qX10_products := ⟨am_okWB_ok owX10_products, am_okC ocX10_products⟩
theorem oqX10_takePart : am_okQ qX10_takePart := ⟨am_okWB_ok owX10_takePart, am_okC ocX10_takePart⟩
theorem oqX10_worthAt : am_okQ qX10_worthAt := ⟨am_okWB_ok owX10_worthAt, am_okC ocX10_worthAt⟩
theorem oqX10_both : am_okQ qX10_both := ⟨am_okWB_ok owX10_both, am_okC ocX10_both⟩
theorem oqX10_copies : am_okQ qX10_copies := ⟨am_okWB_ok owX10_copies, am_okC ocX10_copies⟩
theorem oqX10_starts : am_okQ qX10_starts := ⟨am_okWB_ok owX10_starts, am_okC ocX10_starts⟩
theorem oqX10_datesAsTold : am_okQ qX10_datesAsTold := ⟨am_okWB_ok owX10_datesAsTold, am_okC ocX10_datesAsTold⟩
theorem oqX10_begins : am_okQ qX10_begins := ⟨am_okWB_ok owX10_begins, am_okC ocX10_begins⟩
theorem oqX10_keeps : am_okQ qX10_keeps := ⟨am_okWB_ok owX10_keeps, am_okC ocX10_keeps⟩
theorem oqX10_houses : am_okQ qX10_houses := ⟨am_okWB_ok owX10_houses, am_okC ocX10_houses⟩
theorem oqX10_days : am_okQ qX10_days := ⟨am_okWB_ok owX10_days, am_okC ocX10_days⟩
theorem oqX10_houseOf : am_okQ qX10_houseOf := ⟨am_okWB_ok owX10_houseOf, am_okC ocX10_houseOf⟩
theorem oqX10_dayOf : am_okQ qX10_dayOf := ⟨am_okWB_ok owX10_dayOf, am_okC ocX10_dayOf⟩
theorem oqX10_isHouse : am_okQ qX10_isHouse := ⟨am_okWB_ok owX10_isHouse, am_okC ocX10_isHouse⟩
theorem oqX10_isDay : am_okQ qX10_isDay := ⟨am_okWB_ok owX10_isDay, am_okC ocX10_isDay⟩
theorem oqX10_widthOf : am_okQ qX10_widthOf := ⟨am_okWB_ok owX10_widthOf, am_okC ocX10_widthOf⟩
theorem oqX10_inHouse : am_okQ qX10_inHouse := ⟨am_okWB_ok owX10_inHouse, am_okC ocX10_inHouse⟩
theorem oqX10_freeOf : am_okQ qX10_freeOf := ⟨am_okWB_ok owX10_freeOf, am_okC ocX10_freeOf⟩
theorem oqX10_doesHold : am_okQ qX10_doesHold := ⟨am_okWB_ok owX10_doesHold, am_okC ocX10_doesHold⟩
theorem oqX10_bits : am_okQ qX10_bits := ⟨am_okWB_ok owX10_bits, am_okC ocX10_bits⟩
theorem oqX10_somewhere : am_okQ qX10_somewhere := ⟨am_okWB_ok owX10_somewhere, am_okC ocX10_somewhere⟩
theorem oqX10_leaves : am_okQ qX10_leaves := ⟨am_okWB_ok owX10_leaves, am_okC ocX10_leaves⟩
theorem oqX10_isDate : am_okQ qX10_isDate := ⟨am_okWB_ok owX10_isDate, am_okC ocX10_isDate⟩
theorem oqX10_bedFor : am_okQ qX10_bedFor := ⟨am_okWB_ok owX10_bedFor, am_okC ocX10_bedFor⟩
theorem oqX10_comes : am_okQ qX10_comes := ⟨am_okWB_ok owX10_comes, am_okC ocX10_comes⟩
theorem oqX10_passes : am_okQ qX10_passes := ⟨am_okWB_ok owX10_passes, am_okC ocX10_passes⟩
theorem oqX10_talkIn : am_okQ qX10_talkIn := ⟨am_okWB_ok owX10_talkIn, am_okC ocX10_talkIn⟩
theorem oqX10_house : am_okQ qX10_house := ⟨am_okWB_ok owX10_house, am_okC ocX10_house⟩
theorem oqX10_day : am_okQ qX10_day := ⟨am_okWB_ok owX10_day, am_okC ocX10_day⟩
theorem oqX10_date : am_okQ qX10_date := ⟨am_okWB_ok owX10_date, am_okC ocX10_date⟩
theorem oqX10_mayMove : am_okQ qX10_mayMove := ⟨am_okWB_ok owX10_mayMove, am_okC ocX10_mayMove⟩
theorem oqX10_move : am_okQ qX10_move := ⟨am_okWB_ok owX10_move, am_okC ocX10_move⟩
theorem oqX10_send : am_okQ qX10_send := ⟨am_okWB_ok owX10_send, am_okC ocX10_send⟩
theorem oqX10_build : am_okQ qX10_build := ⟨am_okWB_ok owX10_build, am_okC ocX10_build⟩
theorem oqX10_undo : am_okQ qX10_undo := ⟨am_okWB_ok owX10_undo, am_okC ocX10_undo⟩
theorem oqX10_judged : am_okQ qX10_judged := ⟨am_okWB_ok owX10_judged, am_okC ocX10_judged⟩
theorem oqX10_triesNow : am_okQ qX10_triesNow := ⟨am_okWB_ok owX10_triesNow, am_okC ocX10_triesNow⟩
theorem oqX10_where : am_okQ qX10_where := ⟨am_okWB_ok owX10_where, am_okC ocX10_where⟩
theorem oqX10_next : am_okQ qX10_next := ⟨am_okWB_ok owX10_next, am_okC ocX10_next⟩
theorem oqX10_gone : am_okQ qX10_gone := ⟨am_okWB_ok owX10_gone, am_okC ocX10_gone⟩
theorem oqX10_crowd : am_okQ qX10_crowd := ⟨am_okWB_ok owX10_crowd, am_okC ocX10_crowd⟩
theorem oqX10_refused : am_okQ qX10_refused := ⟨am_okWB_ok owX10_refused, am_okC ocX10_refused⟩
theorem oqX10_meets : am_okQ qX10_meets := ⟨am_okWB_ok owX10_meets, am_okC ocX10_meets⟩
theorem oqX10_isCalm : am_okQ qX10_isCalm := ⟨am_okWB_ok owX10_isCalm, am_okC ocX10_isCalm⟩
theorem oqX10_builtIn : am_okQ qX10_builtIn := ⟨am_okWB_ok owX10_builtIn, am_okC ocX10_builtIn⟩
theorem oqX10_beds : am_okQ qX10_beds := ⟨am_okWB_ok owX10_beds, am_okC ocX10_beds⟩
theorem oqX10_laysFrom : am_okQ qX10_laysFrom := ⟨am_okWB_ok owX10_laysFrom, am_okC ocX10_laysFrom⟩
theorem oqX10_laying : am_okQ qX10_laying := ⟨am_okWB_ok owX10_laying, am_okC ocX10_laying⟩
theorem oqX10_isApart : am_okQ qX10_isApart := ⟨am_okWB_ok owX10_isApart, am_okC ocX10_isApart⟩
theorem oqX10_apart : am_okQ qX10_apart := ⟨am_okWB_ok owX10_apart, am_okC ocX10_apart⟩
theorem oqX10_defer : am_okQ qX10_defer := ⟨am_okWB_ok owX10_defer, am_okC ocX10_defer⟩
theorem oqX10_spare : am_okQ qX10_spare := ⟨am_okWB_ok owX10_spare, am_okC ocX10_spare⟩
theorem oqX10_see : am_okQ qX10_see := ⟨am_okWB_ok owX10_see, am_okC ocX10_see⟩
theorem oqX10_whoNow : am_okQ qX10_whoNow := ⟨am_okWB_ok owX10_whoNow, am_okC ocX10_whoNow⟩
theorem oqX10_who : am_okQ qX10_who := ⟨am_okWB_ok owX10_who, am_okC ocX10_who⟩
theorem oqX10_look : am_okQ qX10_look := ⟨am_okWB_ok owX10_look, am_okC ocX10_look⟩
theorem oqX10_through : am_okQ qX10_through := ⟨am_okWB_ok owX10_through, am_okC ocX10_through⟩
theorem oqX10_quiet : am_okQ qX10_quiet := ⟨am_okWB_ok owX10_quiet, am_okC ocX10_quiet⟩
theorem oqX10_peace : am_okQ qX10_peace := ⟨am_okWB_ok owX10_peace, am_okC ocX10_peace⟩
theorem oqX10_eldest : am_okQ qX10_eldest := ⟨am_okWB_ok owX10_eldest, am_okC ocX10_eldest⟩
theorem oqX10_loudest : am_okQ qX10_loudest := ⟨am_okWB_ok owX10_loudest, am_okC ocX10_loudest⟩
theorem oqX10_chance : am_okQ qX10_chance := ⟨am_okWB_ok owX10_chance, am_okC ocX10_chance⟩
theorem oqX10_getsBy : am_okQ qX10_getsBy := ⟨am_okWB_ok owX10_getsBy, am_okC ocX10_getsBy⟩
theorem oqX10_rests : am_okQ qX10_rests := ⟨am_okWB_ok owX10_rests, am_okC ocX10_rests⟩
theorem oqX10_draw : am_okQ qX10_draw := ⟨am_okWB_ok owX10_draw, am_okC ocX10_draw⟩
theorem oqX10_drawsDeed : am_okQ qX10_drawsDeed := ⟨am_okWB_ok owX10_drawsDeed, am_okC ocX10_drawsDeed⟩
theorem oqX10_ages : am_okQ qX10_ages := ⟨am_okWB_ok owX10_ages, am_okC ocX10_ages⟩
theorem oqX10_mark : am_okQ qX10_mark := ⟨am_okWB_ok owX10_mark, am_okC ocX10_mark⟩
theorem oqX10_fadedNow : am_okQ qX10_fadedNow := ⟨am_okWB_ok owX10_fadedNow, am_okC ocX10_fadedNow⟩
theorem oqX10_bedsOfAll : am_okQ qX10_bedsOfAll := ⟨am_okWB_ok owX10_bedsOfAll, am_okC ocX10_bedsOfAll⟩
theorem oqX10_count : am_okQ qX10_count := ⟨am_okWB_ok owX10_count, am_okC ocX10_count⟩
theorem oqJ6_numberOfTrailingZeros_0f7a4 : am_okQ qJ6_numberOfTrailingZeros_0f7a4 := ⟨am_okWB_ok owJ6_numberOfTrailingZeros_0f7a4, am_okC ocJ6_numberOfTrailingZeros_0f7a4⟩
theorem oqJ6_bitCount_0f7a4 : am_okQ qJ6_bitCount_0f7a4 := ⟨am_okWB_ok owJ6_bitCount_0f7a4, am_okC ocJ6_bitCount_0f7a4⟩
theorem oqJ9_max_7cf53 : am_okQ qJ9_max_7cf53 := ⟨am_okWB_ok owJ9_max_7cf53, am_okC ocJ9_max_7cf53⟩
theorem oqJ9_min_7cf53 : am_okQ qJ9_min_7cf53 := ⟨am_okWB_ok owJ9_min_7cf53, am_okC ocJ9_min_7cf53⟩
theorem oqJ7_fill_53178 : am_okQ qJ7_fill_53178 := ⟨am_okWB_ok owJ7_fill_53178, am_okC ocJ7_fill_53178⟩
theorem oa_0 : ∀ q ∈ am_tl0, am_okQ q := List.forall_mem_cons.mpr ⟨oqX0_init, List.forall_mem_cons.mpr ⟨oqX0_keep, List.forall_mem_cons.mpr ⟨oqX0_bringBack, List.forall_mem_cons.mpr ⟨oqX1_init, List.forall_mem_cons.mpr ⟨oqX1_add, List.forall_mem_cons.mpr ⟨oqX1_readLevel, List.forall_mem_cons.mpr ⟨oqX1_operatorOf, List.forall_mem_cons.mpr ⟨oqX1_readPart, List.forall_mem_cons.mpr ⟨oqX1_factOf, List.forall_mem_cons.mpr ⟨oqX1_value, List.forall_mem_cons.mpr ⟨oqX1_joined, List.forall_mem_cons.mpr ⟨oqX2_init, List.forall_mem_cons.mpr ⟨oqX2_lay, List.forall_mem_cons.mpr ⟨oqX3_init, List.forall_mem_cons.mpr ⟨oqX3_add, List.forall_mem_cons.mpr ⟨oqX3_carryOut, List.forall_mem_cons.mpr ⟨oqX4_readVale, List.forall_mem_cons.mpr ⟨oqX4_readValeLine, List.forall_mem_cons.mpr ⟨oqX4_readHouse, List.forall_mem_cons.mpr ⟨oqX4_readLends, List.forall_mem_cons.mpr ⟨oqX4_readDay, List.forall_mem_cons.mpr ⟨oqX4_readClash, List.forall_mem_cons.mpr ⟨oqX4_readStays, List.forall_mem_cons.mpr ⟨oqX4_readFades, List.forall_mem_cons.mpr ⟨oqX4_readPlan, List.forall_mem_cons.mpr ⟨oqX4_readPlanLine, List.forall_mem_cons.mpr ⟨oqX4_lineAct, List.forall_mem_cons.mpr ⟨oqX4_passNewName, List.forall_mem_cons.mpr ⟨oqX4_passKind, List.forall_mem_cons.mpr ⟨oqX4_passHouse, List.forall_mem_cons.mpr ⟨oqX4_passDay, List.forall_mem_cons.mpr ⟨oqX4_passTold, List.forall_mem_cons.mpr ⟨oqX5_init, List.forall_mem_cons.mpr ⟨oqX5_add, List.forall_mem_cons.mpr ⟨oqX5_copyFrom, List.forall_mem_cons.mpr ⟨oqX6_init, List.forall_mem_cons.mpr ⟨oqX6_begin, List.forall_mem_cons.mpr ⟨oqX6_copyFrom, List.forall_mem_cons.mpr ⟨oqX6_passDate, List.forall_mem_cons.mpr ⟨oqX6_stayLonger, (fun _ h => absurd h List.not_mem_nil)⟩⟩⟩⟩⟩⟩⟩⟩⟩⟩⟩⟩⟩⟩⟩⟩⟩⟩⟩⟩⟩⟩⟩⟩⟩⟩⟩⟩⟩⟩⟩⟩⟩⟩⟩⟩⟩⟩⟩⟩
theorem oa_1 : ∀ q ∈ am_tl1, am_okQ q := List.forall_mem_cons.mpr ⟨oqX6_leave, List.forall_mem_cons.mpr ⟨oqX6_flood, List.forall_mem_cons.mpr ⟨oqX6_isDue, List.forall_mem_cons.mpr ⟨oqX6_receive, List.forall_mem_cons.mpr ⟨oqX6_hostOf, List.forall_mem_cons.mpr ⟨oqX6_holds, List.forall_mem_cons.mpr ⟨oqX6_canShift, List.forall_mem_cons.mpr ⟨oqX6_shift, List.forall_mem_cons.mpr ⟨oqX6_freeBeds, List.forall_mem_cons.mpr ⟨oqX6_guests, List.forall_mem_cons.mpr ⟨oqX6_somewhere, List.forall_mem_cons.mpr ⟨oqX6_talk, List.forall_mem_cons.mpr ⟨oqX6_talkOfAll, List.forall_mem_cons.mpr ⟨oqX6_bedsOfAll, List.forall_mem_cons.mpr ⟨oqX6_faded, List.forall_mem_cons.mpr ⟨oqX7_init, List.forall_mem_cons.mpr ⟨oqX7_add, List.forall_mem_cons.mpr ⟨oqX7_begin, List.forall_mem_cons.mpr ⟨oqX7_atEnd, List.forall_mem_cons.mpr ⟨oqX7_step, List.forall_mem_cons.mpr ⟨oqX7_scanWord, List.forall_mem_cons.mpr ⟨oqX7_scanNumber, List.forall_mem_cons.mpr ⟨oqX7_isSign, List.forall_mem_cons.mpr ⟨oqX7_isWord, List.forall_mem_cons.mpr ⟨oqX7_isSignOf, List.forall_mem_cons.mpr ⟨oqX7_isNumber, List.forall_mem_cons.mpr ⟨oqX7_isName, List.forall_mem_cons.mpr ⟨oqX7_refuse, List.forall_mem_cons.mpr ⟨oqX7_passWord, List.forall_mem_cons.mpr ⟨oqX7_passSign, List.forall_mem_cons.mpr ⟨oqX7_passNumber, List.forall_mem_cons.mpr ⟨oqX8_init, List.forall_mem_cons.mpr ⟨oqX8_clear, List.forall_mem_cons.mpr ⟨oqX8_addHouse, List.forall_mem_cons.mpr ⟨oqX8_addDay, List.forall_mem_cons.mpr ⟨oqX8_houseNamed, List.forall_mem_cons.mpr ⟨oqX8_dayNamed, List.forall_mem_cons.mpr ⟨oqX9_init, List.forall_mem_cons.mpr ⟨oqX9_feed, List.forall_mem_cons.mpr ⟨oqX9_feedBytes, (fun _ h => absurd h List.not_mem_nil)⟩⟩⟩⟩⟩⟩⟩⟩⟩⟩⟩⟩⟩⟩⟩⟩⟩⟩⟩⟩⟩⟩⟩⟩⟩⟩⟩⟩⟩⟩⟩⟩⟩⟩⟩⟩⟩⟩⟩⟩
theorem oa_2 : ∀ q ∈ am_tl2, am_okQ q := List.forall_mem_cons.mpr ⟨oqX9_vale, List.forall_mem_cons.mpr ⟨oqX9_startAnew, List.forall_mem_cons.mpr ⟨oqX9_year, List.forall_mem_cons.mpr ⟨oqX9_house, List.forall_mem_cons.mpr ⟨oqX9_day, List.forall_mem_cons.mpr ⟨oqX9_date, List.forall_mem_cons.mpr ⟨oqX9_move, List.forall_mem_cons.mpr ⟨oqX9_send, List.forall_mem_cons.mpr ⟨oqX9_build, List.forall_mem_cons.mpr ⟨oqX9_undo, List.forall_mem_cons.mpr ⟨oqX9_judged, List.forall_mem_cons.mpr ⟨oqX9_where, List.forall_mem_cons.mpr ⟨oqX9_next, List.forall_mem_cons.mpr ⟨oqX9_gone, List.forall_mem_cons.mpr ⟨oqX9_crowd, List.forall_mem_cons.mpr ⟨oqX9_refused, List.forall_mem_cons.mpr ⟨oqX9_meets, List.forall_mem_cons.mpr ⟨oqX9_beds, List.forall_mem_cons.mpr ⟨oqX9_fewestBeds, List.forall_mem_cons.mpr ⟨oqX9_layRow, List.forall_mem_cons.mpr ⟨oqX9_buildRow, List.forall_mem_cons.mpr ⟨oqX9_noneTurnedOff, List.forall_mem_cons.mpr ⟨oqX9_laying, List.forall_mem_cons.mpr ⟨oqX9_waysFrom, List.forall_mem_cons.mpr ⟨oqX9_apart, List.forall_mem_cons.mpr ⟨oqX9_fewestHouses, List.forall_mem_cons.mpr ⟨oqX9_isPeaceful, List.forall_mem_cons.mpr ⟨oqX9_defer, List.forall_mem_cons.mpr ⟨oqX9_mostAtOnce, List.forall_mem_cons.mpr ⟨oqX9_see, List.forall_mem_cons.mpr ⟨oqX9_who, List.forall_mem_cons.mpr ⟨oqX9_look, List.forall_mem_cons.mpr ⟨oqX9_mostTogether, List.forall_mem_cons.mpr ⟨oqX9_through, List.forall_mem_cons.mpr ⟨oqX9_lendersOf, List.forall_mem_cons.mpr ⟨oqX9_quiet, List.forall_mem_cons.mpr ⟨oqX9_peace, List.forall_mem_cons.mpr ⟨oqX9_loudest, List.forall_mem_cons.mpr ⟨oqX9_eldest, List.forall_mem_cons.mpr ⟨oqX9_spare, (fun _ h => absurd h List.not_mem_nil)⟩⟩⟩⟩⟩⟩⟩⟩⟩⟩⟩⟩⟩⟩⟩⟩⟩⟩⟩⟩⟩⟩⟩⟩⟩⟩⟩⟩⟩⟩⟩⟩⟩⟩⟩⟩⟩⟩⟩⟩
theorem oa_3 : ∀ q ∈ am_tl3, am_okQ q := List.forall_mem_cons.mpr ⟨oqX9_chance, List.forall_mem_cons.mpr ⟨oqX9_weightOf, List.forall_mem_cons.mpr ⟨oqX9_isTurnedOffBy, List.forall_mem_cons.mpr ⟨oqX9_gain, List.forall_mem_cons.mpr ⟨oqX9_ages, List.forall_mem_cons.mpr ⟨oqX9_actByDraw, List.forall_mem_cons.mpr ⟨oqX9_drawBelow, List.forall_mem_cons.mpr ⟨oqX9_mark, List.forall_mem_cons.mpr ⟨oqX9_count, List.forall_mem_cons.mpr ⟨oqX9_isHouse, List.forall_mem_cons.mpr ⟨oqX9_isDay, List.forall_mem_cons.mpr ⟨oqX9_within, List.forall_mem_cons.mpr ⟨oqX9_has, List.forall_mem_cons.mpr ⟨oqX9_clamp, List.forall_mem_cons.mpr ⟨oqX10_thrown, List.forall_mem_cons.mpr ⟨oqX10_feed, List.forall_mem_cons.mpr ⟨oqX10_lay, List.forall_mem_cons.mpr ⟨oqX10_init, List.forall_mem_cons.mpr ⟨oqX10_isLetter, List.forall_mem_cons.mpr ⟨oqX10_isDigit, List.forall_mem_cons.mpr ⟨oqX10_rank, List.forall_mem_cons.mpr ⟨oqX10_isSignOf, List.forall_mem_cons.mpr ⟨oqX10_cutAll, List.forall_mem_cons.mpr ⟨oqX10_wrong, List.forall_mem_cons.mpr ⟨oqX10_isSign, List.forall_mem_cons.mpr ⟨oqX10_isWord, List.forall_mem_cons.mpr ⟨oqX10_takeSign, List.forall_mem_cons.mpr ⟨oqX10_hasSign, List.forall_mem_cons.mpr ⟨oqX10_hasWord, List.forall_mem_cons.mpr ⟨oqX10_takeWord, List.forall_mem_cons.mpr ⟨oqX10_within, List.forall_mem_cons.mpr ⟨oqX10_standsAsAlways, List.forall_mem_cons.mpr ⟨oqX10_takeNumber, List.forall_mem_cons.mpr ⟨oqX10_takeAfter, List.forall_mem_cons.mpr ⟨oqX10_wordHere, List.forall_mem_cons.mpr ⟨oqX10_takeOne, List.forall_mem_cons.mpr ⟨oqX10_isName, List.forall_mem_cons.mpr ⟨oqX10_nameAt, List.forall_mem_cons.mpr ⟨oqX10_takeTold, List.forall_mem_cons.mpr ⟨oqX10_vale, (fun _ h => absurd h List.not_mem_nil)⟩⟩⟩⟩⟩⟩⟩⟩⟩⟩⟩⟩⟩⟩⟩⟩⟩⟩⟩⟩⟩⟩⟩⟩⟩⟩⟩⟩⟩⟩⟩⟩⟩⟩⟩⟩⟩⟩⟩⟩
theorem oa_4 : ∀ q ∈ am_tl4, am_okQ q := List.forall_mem_cons.mpr ⟨oqX10_readLine, List.forall_mem_cons.mpr ⟨oqX10_readPair, List.forall_mem_cons.mpr ⟨oqX10_readName, List.forall_mem_cons.mpr ⟨oqX10_readDay, List.forall_mem_cons.mpr ⟨oqX10_readOnce, List.forall_mem_cons.mpr ⟨oqX10_year, List.forall_mem_cons.mpr ⟨oqX10_emit, List.forall_mem_cons.mpr ⟨oqX10_whole, List.forall_mem_cons.mpr ⟨oqX10_test, List.forall_mem_cons.mpr ⟨oqX10_sums, List.forall_mem_cons.mpr ⟨oqX10_products, List.forall_mem_cons.mpr ⟨oqX10_takePart, List.forall_mem_cons.mpr ⟨oqX10_worthAt, List.forall_mem_cons.mpr ⟨oqX10_both, List.forall_mem_cons.mpr ⟨oqX10_copies, List.forall_mem_cons.mpr ⟨oqX10_starts, List.forall_mem_cons.mpr ⟨oqX10_datesAsTold, List.forall_mem_cons.mpr ⟨oqX10_begins, List.forall_mem_cons.mpr ⟨oqX10_keeps, List.forall_mem_cons.mpr ⟨oqX10_houses, List.forall_mem_cons.mpr ⟨oqX10_days, List.forall_mem_cons.mpr ⟨oqX10_houseOf, List.forall_mem_cons.mpr ⟨oqX10_dayOf, List.forall_mem_cons.mpr ⟨oqX10_isHouse, List.forall_mem_cons.mpr ⟨oqX10_isDay, List.forall_mem_cons.mpr ⟨oqX10_widthOf, List.forall_mem_cons.mpr ⟨oqX10_inHouse, List.forall_mem_cons.mpr ⟨oqX10_freeOf, List.forall_mem_cons.mpr ⟨oqX10_doesHold, List.forall_mem_cons.mpr ⟨oqX10_bits, List.forall_mem_cons.mpr ⟨oqX10_somewhere, List.forall_mem_cons.mpr ⟨oqX10_leaves, List.forall_mem_cons.mpr ⟨oqX10_isDate, List.forall_mem_cons.mpr ⟨oqX10_bedFor, List.forall_mem_cons.mpr ⟨oqX10_comes, List.forall_mem_cons.mpr ⟨oqX10_passes, List.forall_mem_cons.mpr ⟨oqX10_talkIn, List.forall_mem_cons.mpr ⟨oqX10_house, List.forall_mem_cons.mpr ⟨oqX10_day, List.forall_mem_cons.mpr ⟨oqX10_date, (fun _ h => absurd h List.not_mem_nil)⟩⟩⟩⟩⟩⟩⟩⟩⟩⟩⟩⟩⟩⟩⟩⟩⟩⟩⟩⟩⟩⟩⟩⟩⟩⟩⟩⟩⟩⟩⟩⟩⟩⟩⟩⟩⟩⟩⟩⟩
theorem oa_5 : ∀ q ∈ am_tl5, am_okQ q := List.forall_mem_cons.mpr ⟨oqX10_mayMove, List.forall_mem_cons.mpr ⟨oqX10_move, List.forall_mem_cons.mpr ⟨oqX10_send, List.forall_mem_cons.mpr ⟨oqX10_build, List.forall_mem_cons.mpr ⟨oqX10_undo, List.forall_mem_cons.mpr ⟨oqX10_judged, List.forall_mem_cons.mpr ⟨oqX10_triesNow, List.forall_mem_cons.mpr ⟨oqX10_where, List.forall_mem_cons.mpr ⟨oqX10_next, List.forall_mem_cons.mpr ⟨oqX10_gone, List.forall_mem_cons.mpr ⟨oqX10_crowd, List.forall_mem_cons.mpr ⟨oqX10_refused, List.forall_mem_cons.mpr ⟨oqX10_meets, List.forall_mem_cons.mpr ⟨oqX10_isCalm, List.forall_mem_cons.mpr ⟨oqX10_builtIn, List.forall_mem_cons.mpr ⟨oqX10_beds, List.forall_mem_cons.mpr ⟨oqX10_laysFrom, List.forall_mem_cons.mpr ⟨oqX10_laying, List.forall_mem_cons.mpr ⟨oqX10_isApart, List.forall_mem_cons.mpr ⟨oqX10_apart, List.forall_mem_cons.mpr ⟨oqX10_defer, List.forall_mem_cons.mpr ⟨oqX10_spare, List.forall_mem_cons.mpr ⟨oqX10_see, List.forall_mem_cons.mpr ⟨oqX10_whoNow, List.forall_mem_cons.mpr ⟨oqX10_who, List.forall_mem_cons.mpr ⟨oqX10_look, List.forall_mem_cons.mpr ⟨oqX10_through, List.forall_mem_cons.mpr ⟨oqX10_quiet, List.forall_mem_cons.mpr ⟨oqX10_peace, List.forall_mem_cons.mpr ⟨oqX10_eldest, List.forall_mem_cons.mpr ⟨oqX10_loudest, List.forall_mem_cons.mpr ⟨oqX10_chance, List.forall_mem_cons.mpr ⟨oqX10_getsBy, List.forall_mem_cons.mpr ⟨oqX10_rests, List.forall_mem_cons.mpr ⟨oqX10_draw, List.forall_mem_cons.mpr ⟨oqX10_drawsDeed, List.forall_mem_cons.mpr ⟨oqX10_ages, List.forall_mem_cons.mpr ⟨oqX10_mark, List.forall_mem_cons.mpr ⟨oqX10_fadedNow, List.forall_mem_cons.mpr ⟨oqX10_bedsOfAll, (fun _ h => absurd h List.not_mem_nil)⟩⟩⟩⟩⟩⟩⟩⟩⟩⟩⟩⟩⟩⟩⟩⟩⟩⟩⟩⟩⟩⟩⟩⟩⟩⟩⟩⟩⟩⟩⟩⟩⟩⟩⟩⟩⟩⟩⟩⟩
theorem oa_6 : ∀ q ∈ am_tl6, am_okQ q := List.forall_mem_cons.mpr ⟨oqX10_count, List.forall_mem_cons.mpr ⟨oqJ6_numberOfTrailingZeros_0f7a4, List.forall_mem_cons.mpr ⟨oqJ6_bitCount_0f7a4, List.forall_mem_cons.mpr ⟨oqJ9_max_7cf53, List.forall_mem_cons.mpr ⟨oqJ9_min_7cf53, List.forall_mem_cons.mpr ⟨oqJ7_fill_53178, (fun _ h => absurd h List.not_mem_nil)⟩⟩⟩⟩⟩⟩
theorem am_okT_all : am_okT am_T := by
  intro m q hq
  have hm : q ∈ am_tl := List.mem_of_getElem? hq
  simp only [am_tl, List.mem_append] at hm
  rcases hm with h | h | h | h | h | h | h
  · exact oa_0 q h
  · exact oa_1 q h
  · exact oa_2 q h
  · exact oa_3 q h
  · exact oa_4 q h
  · exact oa_5 q h
  · exact oa_6 q h
