/-! ===== the methods: name, code, locals, what is answered, kind of the object ===== -/
def mTb : List (MethodName × Nat × Nat × Option FieldType × Nat) := [
  (yX0_init, 536, 4, none, 0),
  (yX0_allChances, 1283, 4, some .long, 0),
  (yX0_chanceWithin, 1267, 8, some .long, 0),
  (yX0_cavesByChance, 1292, 6, some .long, 0),
  (yX0_nextDried, 1279, 2, some .int, 0),
  (yX0_chanceOf, 1274, 5, some .long, 0),
  (yX0_spanByDraws, 1308, 5, some .int, 0),
  (yX1_init, 461, 4, none, 1),
  (yX1_yearStep, 981, 4, some .int, 1),
  (yX1_roverStep, 997, 6, some .int, 1),
  (yX1_folkStep, 985, 7, some .int, 1),
  (yX1_nearestFolk, 989, 4, some .int, 1),
  (yX1_callStep, 1039, 5, some .int, 1),
  (yX1_follow, 977, 8, none, 1),
  (yX1_roundLength, 1021, 3, some .int, 1),
  (yX1_comesAgain, 1026, 3, some .boolean, 1),
  (yX1_roundStart, 1017, 4, some .int, 1),
  (yX1_callsNeeded, 1048, 6, some .int, 1),
  (yX1_lessensCalls, 1052, 6, some .boolean, 1),
  (yX1_isMouth, 1056, 2, some .boolean, 1),
  (yX1_callAt, 1065, 5, some .int, 1),
  (yX1_firstCall, 1069, 4, some .int, 1),
  (yX1_broughtTo, 1077, 7, some .int, 1),
  (yX1_oneCallFrom, 1081, 5, some .int, 1),
  (yX2_init, 488, 3, none, 2),
  (yX2_weightOf, 1097, 5, some .long, 2),
  (yX2_isRight, 1101, 3, some .boolean, 2),
  (yX2_allWeights, 1111, 4, some .long, 2),
  (yX2_fitting, 1093, 3, some .int, 2),
  (yX2_heaviest, 1123, 7, some .int, 2),
  (yX2_bestStone, 1131, 6, some .int, 2),
  (yX2_leftBy, 1136, 5, some .int, 2),
  (yX2_alikeFrom, 1141, 6, some .int, 2),
  (yX2_firstWrongEcho, 1155, 2, some .int, 2),
  (yX3_init, 514, 3, none, 3),
  (yX3_goingsNeeded, 1208, 5, some .int, 3),
  (yX3_goOnceMore, 1213, 5, some .boolean, 3),
  (yX3_aroundOf, 1221, 2, some .int, 3),
  (yX3_hasItFrom, 1217, 5, some .boolean, 3),
  (yX3_firstGoing, 1231, 5, some .int, 3),
  (yX3_goingsBehind, 1236, 5, some .int, 3),
  (yX4_init, 556, 2, none, 4),
  (yX4_empty, 846, 1, none, 4),
  (yX4_keep, 1321, 2, none, 4),
  (yX4_giveBack, 1367, 2, none, 4),
  (yX4_addImage, 1375, 2, some .int, 4),
  (yX4_goBack, 1383, 3, none, 4),
  (yX5_init, 439, 2, none, 5),
  (yX5_lay, 826, 3, none, 5),
  (yX5_layFrom, 1176, 3, none, 5),
  (yX5_joinNeighbours, 830, 2, none, 5),
  (yX5_measure, 837, 6, none, 5),
  (yX5_shortens, 842, 4, some .boolean, 5),
  (yX5_span, 906, 3, some .int, 5),
  (yX5_reachedFrom, 1296, 4, some .int, 5),
  (yX5_firstStep, 918, 5, some .int, 5),
  (yX5_lastFrom, 956, 4, some .int, 5),
  (yX5_joinedTo, 948, 8, some .int, 5),
  (yX5_countParts, 944, 4, some .int, 5),
  (yX5_worstLoss, 964, 5, some .int, 5),
  (yX5_lossWithout, 968, 5, some .int, 5),
  (yX6_init, 501, 3, none, 6),
  (yX6_fittingSets, 1163, 3, some .int, 6),
  (yX6_setAt, 1186, 5, some .int, 6),
  (yX6_setsWithDry, 1195, 6, some .int, 6),
  (yX6_firstUntrueTalk, 1167, 5, some .int, 6),
  (yX6_wetBy, 1171, 4, some .int, 6),
  (yX7_init, 284, 3, none, 7),
  (yX7_read, 644, 5, some .boolean, 7),
  (yX7_beginsLine, 681, 2, some .boolean, 7),
  (yX7_endsLine, 810, 2, some .boolean, 7),
  (yX7_readRest, 692, 2, some .boolean, 7),
  (yX7_readWell, 696, 1, some .boolean, 7),
  (yX7_readCave, 723, 1, some .boolean, 7),
  (yX7_readWay, 737, 5, some .boolean, 7),
  (yX7_readVoice, 770, 2, some .boolean, 7),
  (yX7_readFolk, 783, 2, some .boolean, 7),
  (yX7_readEcho, 787, 3, some .boolean, 7),
  (yX7_readUnsure, 796, 4, some .boolean, 7),
  (yX7_readTalk, 804, 4, some .boolean, 7),
  (yX7_lineHere, 669, 2, some .int, 7),
  (yX7_lineWord, 315, 1, some (.object "java/lang/String"), 7),
  (yX7_kindHere, 774, 1, some .int, 7),
  (yX7_readWord, 705, 2, some .boolean, 7),
  (yX7_readNumber, 701, 5, some .int, 7),
  (yX7_readFirstCave, 741, 2, some .int, 7),
  (yX7_caveHere, 745, 2, some .int, 7),
  (yX7_readNewName, 727, 3, some .boolean, 7),
  (yX7_isName, 731, 2, some .boolean, 7),
  (yX7_nameHere, 673, 4, some .int, 7),
  (yX7_fails, 685, 2, some .boolean, 7),
  (yX7_failsWhole, 713, 2, some .int, 7),
  (yX8_init, 408, 1, none, 8),
  (yX8_begin, 821, 3, none, 8),
  (yX8_take, 1325, 2, none, 8),
  (yX8_moveVoice, 1331, 3, some .boolean, 8),
  (yX9_init, 292, 2, none, 9),
  (yX9_begin, 652, 2, none, 9),
  (yX9_advance, 659, 1, none, 9),
  (yX9_isWord, 709, 3, some .boolean, 9),
  (yX9_wordNumber, 677, 4, some .long, 9),
  (yX9_numberOf, 326, 4, some .long, 9),
  (yX9_wholeNumber, 717, 3, some .int, 9),
  (yX9_isLetter, 662, 1, some .boolean, 9),
  (yX9_isDigit, 665, 1, some .boolean, 9),
  (yX10_init, 167, 1, none, 10),
  (yX10_empty, 648, 2, none, 10),
  (yX10_take, 814, 2, none, 10),
  (yX10_addWay, 761, 6, none, 10),
  (yX10_wayBetween, 749, 3, some .int, 10),
  (yX10_waysAt, 874, 4, some .int, 10),
  (yX10_isUnsure, 800, 3, some .boolean, 10),
  (yX10_hasEcho, 791, 3, some .boolean, 10),
  (yX11_init, 159, 1, none, 11),
  (yX11_feed, 628, 6, some .int, 11),
  (yX11_well, 636, 2, some .int, 11),
  (yX11_fault, 854, 1, some .int, 11),
  (yX11_where, 858, 1, some .int, 11),
  (yX11_cave, 862, 3, some .int, 11),
  (yX11_way, 878, 3, some .int, 11),
  (yX11_voice, 886, 3, some .int, 11),
  (yX11_folk, 894, 2, some .int, 11),
  (yX11_far, 902, 3, some .int, 11),
  (yX11_next, 914, 3, some .int, 11),
  (yX11_hearers, 924, 2, some .int, 11),
  (yX11_heardFrom, 932, 4, some .int, 11),
  (yX11_parts, 936, 1, some .int, 11),
  (yX11_farthest, 952, 2, some .int, 11),
  (yX11_neck, 960, 1, some .int, 11),
  (yX11_after, 973, 3, some .int, 11),
  (yX11_comes, 1001, 4, some .int, 11),
  (yX11_meets, 1005, 4, some .int, 11),
  (yX11_silentIn, 1009, 3, some .int, 11),
  (yX11_settles, 1013, 2, some .int, 11),
  (yX11_round, 1030, 2, some .int, 11),
  (yX11_called, 1035, 3, some .int, 11),
  (yX11_bring, 1044, 3, some .int, 11),
  (yX11_bringAt, 1061, 5, some .int, 11),
  (yX11_reach, 1073, 2, some .int, 11),
  (yX11_echo, 1085, 3, some .int, 11),
  (yX11_fits, 1089, 1, some .int, 11),
  (yX11_odds, 1106, 3, some .long, 11),
  (yX11_likeliest, 1119, 1, some .int, 11),
  (yX11_stone, 1127, 1, some .int, 11),
  (yX11_stoneLeaves, 1146, 2, some .int, 11),
  (yX11_judge, 1151, 1, some .int, 11),
  (yX11_nets, 1159, 1, some .int, 11),
  (yX11_netAt, 1182, 3, some .int, 11),
  (yX11_dryBy, 1191, 2, some .int, 11),
  (yX11_liar, 1199, 1, some .int, 11),
  (yX11_chase, 1204, 3, some .int, 11),
  (yX11_chaseBy, 1227, 3, some .int, 11),
  (yX11_answers, 1241, 5, some .int, 11),
  (yX11_rests, 1252, 4, some .int, 11),
  (yX11_rest, 1259, 3, some .int, 11),
  (yX11_within, 1263, 5, some .long, 11),
  (yX11_mean, 1288, 3, some .long, 11),
  (yX11_farBy, 1300, 4, some .int, 11),
  (yX11_open, 1313, 7, some .int, 11),
  (yX11_year, 1317, 3, some .int, 11),
  (yX11_call, 1335, 4, some .int, 11),
  (yX11_walk, 1339, 3, some .boolean, 11),
  (yX11_dig, 1351, 2, some .boolean, 11),
  (yX11_flood, 1359, 2, some .boolean, 11),
  (yX11_undo, 1363, 1, some .boolean, 11),
  (yX11_image, 1371, 1, some .int, 11),
  (yX11_back, 1379, 2, some .boolean, 11),
  (yX11_led, 1399, 4, some .int, 11),
  (yX11_size, 1387, 2, some .int, 11),
  (yX11_trouble, 1391, 1, some .int, 11),
  (yX11_refuse, 640, 2, some .int, 11),
  (yX11_allow, 850, 2, some .int, 11),
  (yX11_refuseAct, 1343, 2, some .boolean, 11),
  (yX11_allowAct, 1347, 1, some .boolean, 11),
  (yX11_refusesFear, 1245, 2, some .boolean, 11),
  (yX11_hasWell, 940, 1, some .boolean, 11),
  (yX11_isCave, 866, 2, some .boolean, 11),
  (yX11_isWay, 882, 2, some .boolean, 11),
  (yX11_isVoice, 890, 2, some .boolean, 11),
  (yX11_isFolk, 898, 2, some .boolean, 11),
  (yX11_isSeed, 1303, 1, some .boolean, 11),
  (yX11_hasBit, 833, 2, some .boolean, 11),
  (yX11_orNo, 909, 1, some .int, 11),
  (yX11_putBytes, 632, 3, none, 11),
  (yX11_bitsIn, 870, 5, some .int, 11),
  (yX11_hearersOf, 928, 4, some .int, 11),
  (yX11_changeWays, 1355, 2, none, 11),
  (yX11_gain, 1248, 3, some .int, 11),
  (yX11_isRest, 1255, 3, some .boolean, 11),
  (yX11_inLowestTerms, 1114, 12, some .long, 11),
  (yX12_init, 1602, 1, none, 12),
  (yX12_find, 1789, 4, some .int, 12),
  (yX12_way, 1815, 4, some .int, 12),
  (yX12_isEcho, 1842, 3, some .boolean, 12),
  (yX12_isUnsure, 1851, 3, some .boolean, 12),
  (yX13_init, 1465, 1, none, 13),
  (yX13_thrown, 1585, 1, some .int, 13),
  (yX13_refused, 1597, 2, some .int, 13),
  (yX13_lost, 2171, 2, some .int, 13),
  (yX13_denied, 2238, 2, some .boolean, 13),
  (yX13_good, 1865, 2, some .int, 13),
  (yX13_granted, 2242, 1, some .boolean, 13),
  (yX13_in, 1760, 3, some .boolean, 13),
  (yX13_bit, 1892, 2, some .boolean, 13),
  (yX13_bits, 1821, 3, some .int, 13),
  (yX13_common, 2091, 10, some .long, 13),
  (yX13_fraction, 2088, 6, some .long, 13),
  (yX13_byteAt, 1715, 2, some .int, 13),
  (yX13_isLetter, 1718, 1, some .boolean, 13),
  (yX13_isDigit, 1722, 1, some .boolean, 13),
  (yX13_packed, 1738, 4, some .long, 13),
  (yX13_goesOn, 1711, 3, none, 13),
  (yX13_flaw, 1748, 2, none, 13),
  (yX13_isWord, 1735, 2, some .boolean, 13),
  (yX13_eatsSemicolon, 1861, 2, some .boolean, 13),
  (yX13_needs, 1757, 2, none, 13),
  (yX13_readPart, 1753, 5, some .int, 13),
  (yX13_isName, 1779, 1, some .boolean, 13),
  (yX13_lineBegins, 1771, 3, none, 13),
  (yX13_readFresh, 1775, 3, some .long, 13),
  (yX13_names, 1795, 5, none, 13),
  (yX13_caveAtHand, 1811, 2, some .int, 13),
  (yX13_readCave, 1807, 2, some .int, 13),
  (yX13_readTwo, 1803, 2, some .int, 13),
  (yX13_readAll, 1726, 2, none, 13),
  (yX13_readLine, 1730, 1, none, 13),
  (yX13_readWell, 1744, 4, none, 13),
  (yX13_readACave, 1767, 4, none, 13),
  (yX13_readWay, 1799, 5, none, 13),
  (yX13_readVoice, 1825, 5, none, 13),
  (yX13_readFolk, 1834, 4, none, 13),
  (yX13_readEcho, 1838, 3, none, 13),
  (yX13_readUnsure, 1847, 3, none, 13),
  (yX13_readTalk, 1855, 3, none, 13),
  (yX13_feed, 1589, 8, some .int, 13),
  (yX13_well, 1593, 3, some .int, 13),
  (yX13_fault, 1869, 1, some .int, 13),
  (yX13_where, 1873, 1, some .int, 13),
  (yX13_isCave, 1881, 2, some .boolean, 13),
  (yX13_isWay, 1904, 2, some .boolean, 13),
  (yX13_isVoice, 1912, 2, some .boolean, 13),
  (yX13_isFolk, 1920, 2, some .boolean, 13),
  (yX13_apart, 1896, 3, some .int, 13),
  (yX13_lays, 1889, 7, none, 13),
  (yX13_lengthOf, 1940, 3, some .int, 13),
  (yX13_works, 1885, 2, none, 13),
  (yX13_towards, 1936, 4, some .int, 13),
  (yX13_nearest, 1996, 4, some .int, 13),
  (yX13_flees, 1992, 5, some .int, 13),
  (yX13_roves, 1988, 4, some .int, 13),
  (yX13_goesTo, 1984, 3, some .int, 13),
  (yX13_comesTo, 2000, 4, some .boolean, 13),
  (yX13_aYear, 1980, 3, some .int, 13),
  (yX13_calledTo, 2040, 4, some .int, 13),
  (yX13_isSilent, 2016, 2, some .boolean, 13),
  (yX13_cave, 1877, 5, some .int, 13),
  (yX13_way, 1900, 3, some .int, 13),
  (yX13_voice, 1908, 3, some .int, 13),
  (yX13_folk, 1916, 2, some .int, 13),
  (yX13_told, 1928, 2, some .int, 13),
  (yX13_far, 1924, 3, some .int, 13),
  (yX13_next, 1932, 3, some .int, 13),
  (yX13_hearers, 1944, 4, some .int, 13),
  (yX13_reached, 1952, 5, some .int, 13),
  (yX13_heardFrom, 1948, 2, some .int, 13),
  (yX13_parts, 1956, 4, some .int, 13),
  (yX13_farthest, 1960, 5, some .int, 13),
  (yX13_pairsWithout, 1968, 5, some .int, 13),
  (yX13_neck, 1964, 6, some .int, 13),
  (yX13_refusesYears, 1976, 3, some .int, 13),
  (yX13_after, 1972, 5, some .int, 13),
  (yX13_comes, 2004, 4, some .int, 13),
  (yX13_meets, 2008, 4, some .int, 13),
  (yX13_silentIn, 2012, 3, some .int, 13),
  (yX13_comesAgain, 2028, 4, some .boolean, 13),
  (yX13_lines, 2024, 3, none, 13),
  (yX13_settles, 2020, 2, some .int, 13),
  (yX13_round, 2032, 2, some .int, 13),
  (yX13_called, 2036, 3, some .int, 13),
  (yX13_finds, 2052, 4, none, 13),
  (yX13_brings, 2048, 5, none, 13),
  (yX13_bring, 2044, 3, some .int, 13),
  (yX13_bringAt, 2056, 5, some .int, 13),
  (yX13_reach, 2060, 4, some .int, 13),
  (yX13_echo, 2064, 4, some .int, 13),
  (yX13_isRight, 2080, 4, some .boolean, 13),
  (yX13_weightOf, 2076, 5, some .long, 13),
  (yX13_fitting, 2072, 3, some .int, 13),
  (yX13_fits, 2068, 1, some .int, 13),
  (yX13_odds, 2084, 6, some .long, 13),
  (yX13_likeliest, 2095, 5, some .int, 13),
  (yX13_throwsAt, 2103, 8, some .int, 13),
  (yX13_stone, 2099, 1, some .int, 13),
  (yX13_stoneLeaves, 2107, 1, some .int, 13),
  (yX13_judge, 2111, 2, some .int, 13),
  (yX13_wetBy, 2123, 4, some .int, 13),
  (yX13_wrongTalk, 2127, 2, some .int, 13),
  (yX13_netting, 2119, 5, some .int, 13),
  (yX13_nets, 2115, 1, some .int, 13),
  (yX13_netAt, 2131, 3, some .int, 13),
  (yX13_dryBy, 2135, 2, some .int, 13),
  (yX13_liar, 2139, 1, some .int, 13),
  (yX13_mayGo, 2151, 3, some .boolean, 13),
  (yX13_worst, 2155, 5, some .int, 13),
  (yX13_chases, 2147, 5, none, 13),
  (yX13_chase, 2143, 3, some .int, 13),
  (yX13_chaseBy, 2159, 5, some .int, 13),
  (yX13_answered, 2174, 3, some .int, 13),
  (yX13_refusesFear, 2167, 2, some .int, 13),
  (yX13_answers, 2163, 6, some .int, 13),
  (yX13_isRest, 2181, 4, some .boolean, 13),
  (yX13_rests, 2178, 5, some .int, 13),
  (yX13_rest, 2185, 4, some .int, 13),
  (yX13_partOf, 2193, 5, some .long, 13),
  (yX13_within, 2189, 10, some .long, 13),
  (yX13_mean, 2198, 8, some .long, 13),
  (yX13_dries, 2207, 3, none, 13),
  (yX13_farBy, 2202, 4, some .int, 13),
  (yX13_open, 2214, 7, some .int, 13),
  (yX13_remembers, 2222, 2, none, 13),
  (yX13_remains, 2226, 2, none, 13),
  (yX13_year, 2218, 2, some .int, 13),
  (yX13_call, 2230, 4, some .int, 13),
  (yX13_walk, 2234, 3, some .boolean, 13),
  (yX13_turnsOver, 2250, 2, none, 13),
  (yX13_dig, 2246, 2, some .boolean, 13),
  (yX13_flood, 2254, 2, some .boolean, 13),
  (yX13_undo, 2258, 2, some .boolean, 13),
  (yX13_image, 2262, 2, some .int, 13),
  (yX13_back, 2266, 3, some .boolean, 13),
  (yX13_led, 2270, 4, some .int, 13),
  (yX13_size, 2274, 2, some .int, 13),
  (yX13_trouble, 2278, 1, some .int, 13),
  (yJ6_bitCount_0f7a4, 754, 1, some .int, 15),
  (yL_law, 99999, 7, some .boolean, 14)]
def mDf : MethodName × Nat × Nat × Option FieldType × Nat := (yL_law, 99999, 0, none, 99)
/-- the code of a method stands in the words of the tables, at a place of its own; the law's is its entry's -/
def cAt (w : Option Cond) : ByteArray := match w with
  | some (.code _ c _ _) => c
  | _ => ⟨#[]⟩
def mY (j : Nat) : MethodName := (mTb.getD j mDf).1
def mQ (j : Nat) : Nat := (mTb.getD j mDf).2.1
def mC (j : Nat) : ByteArray := if j = 334 then code else cAt lw_tbl[mQ j]?
def mL (j : Nat) : Nat := (mTb.getD j mDf).2.2.1
def mR (j : Nat) : Option FieldType := (mTb.getD j mDf).2.2.2.1
def mK (j : Nat) : Nat := (mTb.getD j mDf).2.2.2.2
/-- how long an instruction is -/
def aln : Instr → Nat
  | .aload _ | .iload _ | .lload _ | .astore _ | .istore _ | .lstore _ | .bipush _ | .ldc _ | .newarray _ => 2
  | .iinc _ _ | .sipush _ | .ldc_w _ | .ldc2_w _ | .getstatic _ | .getfield _ | .putfield _ | .new _ | .anewarray _ | .invokestatic _ | .invokevirtual _ | .invokespecial _ | .goto _ | .if_icmp _ _ | .ifCond _ _ | .ifnull _ | .ifnonnull _ => 3
  | _ => 1
/-- a field's entry of the pool -/
def okFd (own : String) (i ci k : Nat) : Prop := ci < 14 ∧ k < afn ci ∧ ∀ (C : String) (T : u_T) (N : Nat), vwCl[ci]? = some (C, T, N) → (Cond.fieldLink own i (T k).1 (T k).2.1 (T k).2.2.1 ∈ gt ∨ ∃ h, Cond.fieldLinkNest own i (T k).1 (T k).2.1 (T k).2.2.1 h ∈ gN)
def okPf (j i ci k : Nat) : Prop := ci < 14 ∧ k < afn ci ∧ ∀ (C : String) (T : u_T) (N : Nat), vwCl[ci]? = some (C, T, N) → ((Cond.fieldLink (mY j).cls i (T k).1 (T k).2.1 (T k).2.2.1 ∈ gt ∧ ((T k).2.2.2 = false ∨ ((T k).2.2.2 = true ∧ (mY j).name = "<init>" ∧ (T k).1 = (mY j).cls))) ∨ ∃ h, Cond.fieldLinkNest (mY j).cls i (T k).1 (T k).2.1 (T k).2.2.1 h ∈ gN ∧ (T k).2.2.2 = false)
/-- a method that may be called -/
def okMt (j : Nat) : Prop := Cond.code (mY j) (mC j) (mL j) (mR j) ∈ gt ∧ Cond.initialized (mY j).cls ∈ gt ∧ plainName (mY j).cls = true ∧ ((mY j).cls ≠ "java/lang/invoke/MethodHandle" ∧ (mY j).cls ≠ "java/lang/invoke/VarHandle") ∧ mL j ≤ 17
def okLk (own : String) (i f n z : Nat) : Prop := okMt f ∧ (parseMethodDescriptor (mY f).desc).map (fun d => d.parameters.length) = some n ∧ ((z = 0 ∧ Cond.methodLink own i (mY f) ∈ gt) ∨ (z = 1 ∧ ∃ h, Cond.methodLinkNest own i (mY f) h ∈ gN))
def okO (j : Nat) (o : aO) : Prop := (match o with
  | (.tableswitch _ _ _ _, _) => True
  | (.lookupswitch _ ps, _) => (ps.toList.zip (ps.toList.drop 1)).all (fun (a, next) => a.1 < next.1) = true
  | (i, ln, _) => ln = aln i) ∧ match o with
  | (.getfield i, _, ci, k, _) => okFd (mY j).cls i ci k
  | (.putfield i, _, ci, k, _) => okPf j i ci k
  | (.getstatic i, _) => Cond.fieldLink (mY j).cls i RX11 "ROOM" "[I" ∈ gt ∨ ∃ h, Cond.fieldLinkNest (mY j).cls i RX11 "ROOM" "[I" h ∈ gN
  | (.ldc i, _, k, x, _) => if k = 0 then Cond.constant (mY j).cls i (Int32.ofInt (x : Int)) ∈ gt else ∃ tx, asO[x]? = some ((mY j).cls, i, tx)
  | (.ldc_w i, _, k, x, _) => if k = 0 then Cond.constant (mY j).cls i (Int32.ofInt (x : Int)) ∈ gt else ∃ tx, asO[x]? = some ((mY j).cls, i, tx)
  | (.ldc2_w i, _, x, z, _) => Cond.constantLong (mY j).cls i (Int64.ofInt (if z = 1 then -(x : Int) else (x : Int))) ∈ gt
  | (.new i, _, ci, _) => ∀ (C : String) (T : u_T) (N : Nat), vwCl[ci]? = some (C, T, N) → Cond.classLink (mY j).cls i C ∈ gt ∧ Cond.instantiable C N ∈ gt ∧ Cond.initialized C ∈ gt
  | (.newarray t, _, kind, _) => ((kind = 100 ∧ newarray.typeOf t = .int) ∨ (kind = 101 ∧ newarray.typeOf t = .byte) ∨ (kind = 102 ∧ newarray.typeOf t = .long)) ∧ Cond.arrayClass (newarray.typeOf t) ∈ gt
  | (.anewarray i, _) => Cond.classLink (mY j).cls i RX8 ∈ gt
  | (.invokestatic i, _, f, n, z) => if f = 1000 then Cond.methodLink (mY j).cls i Lib.Math.min.name ∈ gt else if f = 1001 then Cond.methodLink (mY j).cls i Lib.Math.max.name ∈ gt else if f = 1002 then Cond.methodLink (mY j).cls i arraycopyName ∈ gt else if f = 1030 then True else okLk (mY j).cls i f n z ∧ Cond.static (mY f) ∈ gt
  | (.invokevirtual i, _, f, n, z) => if f = 1010 then Cond.methodLink (mY j).cls i yJ0_length_8abf5 ∈ gt else if f = 1011 then Cond.methodLink (mY j).cls i yJ0_charAt_5068e ∈ gt else okLk (mY j).cls i f n z ∧ Cond.instanceMethod (mY f) ∈ gt ∧ Cond.selects (mY f).cls (mY f) (mY f) ∈ gt ∧ mK f < 14 ∧ ∀ (C : String) (T : u_T) (N : Nat), vwCl[mK f]? = some (C, T, N) → C = (mY f).cls
  | (.invokespecial i, _, f, n, z) => if f = 1020 then Cond.methodLink (mY j).cls i Lib.objectInit ∈ gt else okLk (mY j).cls i f n z ∧ Cond.instanceMethod (mY f) ∈ gt ∧ (mY f).name = "<init>" ∧ mR f = none
  | (.ireturn, _, z, _) => (z = 0 ∧ mR j = some .int) ∨ (z = 1 ∧ mR j = some .boolean)
  | (.lreturn, _) => mR j = some .long
  | (.areturn, _) => ∃ q, mR j = some (.object q)
  | (.return_, _) => mR j = none
  | _ => True
def okJ (pc : Nat) (o : aO) : Prop := ∀ x : Int, (∃ off, o.1 = .goto off ∧ x = pc + off) ∨ (∃ cd off, o.1 = .if_icmp cd off ∧ x = pc + off) ∨ (∃ cd off, o.1 = .ifCond cd off ∧ x = pc + off) ∨ (∃ off, o.1 = .ifnull off ∧ x = pc + off) ∨ (∃ off, o.1 = .ifnonnull off ∧ x = pc + off) ∨ (∃ df lo hi offs, o.1 = .tableswitch df lo hi offs ∧ (x = pc + df ∨ ∃ off ∈ offs.toList, x = pc + off)) ∨ (∃ df ps a, o.1 = .lookupswitch df ps ∧ x = pc + Op.lookupswitch.offset ps.toList df a) → 0 ≤ x
def okOps (j : Nat) : Nat → List aO → Prop
  | _, [] => True
  | pc, o :: ops => decode (mC j) pc = .ok (o.1, o.2.1) ∧ okO j o ∧ okJ pc o ∧ okOps j (pc + o.2.1) ops
/-- what holds of the sorts of objects -/
def okCl (ci : Nat) : Prop := ∃ (C : String) (T : u_T) (N : Nat) (ty0 : Nat → FieldType), vwCl[ci]? = some (C, T, N) ∧ N = afn ci ∧ (∀ w ∈ u_ws C T N, w ∈ gt) ∧ (∀ k, k < N → parseFieldDescriptor (T k).2.2.1 = some (ty0 k)) ∧ (∀ a, a < N → ∀ b, b < N → a ≠ b → (T a).2.1 ≠ (T b).2.1) ∧ ∀ k, k < N → tyOk (aft ci k) (ty0 k)

theorem u_gt0 : ∀ w ∈ u_ws RX0 TX0 4, w ∈ gt := by
  intro w hw
  have h : (u_ws RX0 TX0 4).all (fun w => decide (w ∈ lw_tbl) && goodWord w) = true := by decide +kernel
  have h1 := List.all_eq_true.mp h w hw
  simp only [Bool.and_eq_true, decide_eq_true_eq] at h1
  exact List.mem_filter.mpr h1
theorem okCl_0 : okCl 0 := by
  refine ⟨RX0, TX0, 4, tyX0, rfl, by decide +kernel, u_gt0, tyX0_ok, nmX0, fun k hk => ?_⟩
  match k, hk with
  | 0, _ => exact Or.inr (Or.inr ⟨by decide +kernel, Or.inl ⟨_, rfl⟩⟩)
  | 1, _ => exact Or.inr (Or.inr ⟨by decide +kernel, Or.inl ⟨_, rfl⟩⟩)
  | 2, _ => exact Or.inr (Or.inr ⟨by decide +kernel, Or.inl ⟨_, rfl⟩⟩)
  | 3, _ => exact Or.inl ⟨by decide +kernel, rfl⟩
  | k + 4, hk => exact absurd hk (by omega)
theorem u_gt1 : ∀ w ∈ u_ws RX1 TX1 6, w ∈ gt := by
  intro w hw
  have h : (u_ws RX1 TX1 6).all (fun w => decide (w ∈ lw_tbl) && goodWord w) = true := by decide +kernel
  have h1 := List.all_eq_true.mp h w hw
  simp only [Bool.and_eq_true, decide_eq_true_eq] at h1
  exact List.mem_filter.mpr h1
theorem okCl_1 : okCl 1 := by
  refine ⟨RX1, TX1, 6, tyX1, rfl, by decide +kernel, u_gt1, tyX1_ok, nmX1, fun k hk => ?_⟩
  match k, hk with
  | 0, _ => exact Or.inr (Or.inr ⟨by decide +kernel, Or.inl ⟨_, rfl⟩⟩)
  | 1, _ => exact Or.inr (Or.inr ⟨by decide +kernel, Or.inl ⟨_, rfl⟩⟩)
  | 2, _ => exact Or.inr (Or.inr ⟨by decide +kernel, Or.inl ⟨_, rfl⟩⟩)
  | 3, _ => exact Or.inr (Or.inr ⟨by decide +kernel, Or.inr ⟨_, rfl⟩⟩)
  | 4, _ => exact Or.inr (Or.inr ⟨by decide +kernel, Or.inr ⟨_, rfl⟩⟩)
  | 5, _ => exact Or.inr (Or.inr ⟨by decide +kernel, Or.inr ⟨_, rfl⟩⟩)
  | k + 6, hk => exact absurd hk (by omega)
theorem u_gt2 : ∀ w ∈ u_ws RX2 TX2 2, w ∈ gt := by
  intro w hw
  have h : (u_ws RX2 TX2 2).all (fun w => decide (w ∈ lw_tbl) && goodWord w) = true := by decide +kernel
  have h1 := List.all_eq_true.mp h w hw
  simp only [Bool.and_eq_true, decide_eq_true_eq] at h1
  exact List.mem_filter.mpr h1
theorem okCl_2 : okCl 2 := by
  refine ⟨RX2, TX2, 2, tyX2, rfl, by decide +kernel, u_gt2, tyX2_ok, nmX2, fun k hk => ?_⟩
  match k, hk with
  | 0, _ => exact Or.inr (Or.inr ⟨by decide +kernel, Or.inl ⟨_, rfl⟩⟩)
  | 1, _ => exact Or.inr (Or.inr ⟨by decide +kernel, Or.inl ⟨_, rfl⟩⟩)
  | k + 2, hk => exact absurd hk (by omega)
theorem u_gt3 : ∀ w ∈ u_ws RX3 TX3 5, w ∈ gt := by
  intro w hw
  have h : (u_ws RX3 TX3 5).all (fun w => decide (w ∈ lw_tbl) && goodWord w) = true := by decide +kernel
  have h1 := List.all_eq_true.mp h w hw
  simp only [Bool.and_eq_true, decide_eq_true_eq] at h1
  exact List.mem_filter.mpr h1
theorem okCl_3 : okCl 3 := by
  refine ⟨RX3, TX3, 5, tyX3, rfl, by decide +kernel, u_gt3, tyX3_ok, nmX3, fun k hk => ?_⟩
  match k, hk with
  | 0, _ => exact Or.inr (Or.inr ⟨by decide +kernel, Or.inl ⟨_, rfl⟩⟩)
  | 1, _ => exact Or.inr (Or.inr ⟨by decide +kernel, Or.inl ⟨_, rfl⟩⟩)
  | 2, _ => exact Or.inr (Or.inr ⟨by decide +kernel, Or.inr ⟨_, rfl⟩⟩)
  | 3, _ => exact Or.inr (Or.inr ⟨by decide +kernel, Or.inr ⟨_, rfl⟩⟩)
  | 4, _ => exact Or.inr (Or.inr ⟨by decide +kernel, Or.inr ⟨_, rfl⟩⟩)
  | k + 5, hk => exact absurd hk (by omega)
theorem u_gt4 : ∀ w ∈ u_ws RX4 TX4 5, w ∈ gt := by
  intro w hw
  have h : (u_ws RX4 TX4 5).all (fun w => decide (w ∈ lw_tbl) && goodWord w) = true := by decide +kernel
  have h1 := List.all_eq_true.mp h w hw
  simp only [Bool.and_eq_true, decide_eq_true_eq] at h1
  exact List.mem_filter.mpr h1
theorem okCl_4 : okCl 4 := by
  refine ⟨RX4, TX4, 5, tyX4, rfl, by decide +kernel, u_gt4, tyX4_ok, nmX4, fun k hk => ?_⟩
  match k, hk with
  | 0, _ => exact Or.inr (Or.inr ⟨by decide +kernel, Or.inr ⟨_, rfl⟩⟩)
  | 1, _ => exact Or.inr (Or.inr ⟨by decide +kernel, Or.inr ⟨_, rfl⟩⟩)
  | 2, _ => exact Or.inl ⟨by decide +kernel, rfl⟩
  | 3, _ => exact Or.inl ⟨by decide +kernel, rfl⟩
  | 4, _ => exact Or.inl ⟨by decide +kernel, rfl⟩
  | k + 5, hk => exact absurd hk (by omega)
theorem u_gt5 : ∀ w ∈ u_ws RX5 TX5 4, w ∈ gt := by
  intro w hw
  have h : (u_ws RX5 TX5 4).all (fun w => decide (w ∈ lw_tbl) && goodWord w) = true := by decide +kernel
  have h1 := List.all_eq_true.mp h w hw
  simp only [Bool.and_eq_true, decide_eq_true_eq] at h1
  exact List.mem_filter.mpr h1
theorem okCl_5 : okCl 5 := by
  refine ⟨RX5, TX5, 4, tyX5, rfl, by decide +kernel, u_gt5, tyX5_ok, nmX5, fun k hk => ?_⟩
  match k, hk with
  | 0, _ => exact Or.inr (Or.inr ⟨by decide +kernel, Or.inl ⟨_, rfl⟩⟩)
  | 1, _ => exact Or.inr (Or.inr ⟨by decide +kernel, Or.inr ⟨_, rfl⟩⟩)
  | 2, _ => exact Or.inr (Or.inr ⟨by decide +kernel, Or.inr ⟨_, rfl⟩⟩)
  | 3, _ => exact Or.inl ⟨by decide +kernel, rfl⟩
  | k + 4, hk => exact absurd hk (by omega)
theorem u_gt6 : ∀ w ∈ u_ws RX6 TX6 2, w ∈ gt := by
  intro w hw
  have h : (u_ws RX6 TX6 2).all (fun w => decide (w ∈ lw_tbl) && goodWord w) = true := by decide +kernel
  have h1 := List.all_eq_true.mp h w hw
  simp only [Bool.and_eq_true, decide_eq_true_eq] at h1
  exact List.mem_filter.mpr h1
theorem okCl_6 : okCl 6 := by
  refine ⟨RX6, TX6, 2, tyX6, rfl, by decide +kernel, u_gt6, tyX6_ok, nmX6, fun k hk => ?_⟩
  match k, hk with
  | 0, _ => exact Or.inr (Or.inr ⟨by decide +kernel, Or.inl ⟨_, rfl⟩⟩)
  | 1, _ => exact Or.inr (Or.inr ⟨by decide +kernel, Or.inl ⟨_, rfl⟩⟩)
  | k + 2, hk => exact absurd hk (by omega)
theorem u_gt7 : ∀ w ∈ u_ws RX7 TX7 8, w ∈ gt := by
  intro w hw
  have h : (u_ws RX7 TX7 8).all (fun w => decide (w ∈ lw_tbl) && goodWord w) = true := by decide +kernel
  have h1 := List.all_eq_true.mp h w hw
  simp only [Bool.and_eq_true, decide_eq_true_eq] at h1
  exact List.mem_filter.mpr h1
theorem okCl_7 : okCl 7 := by
  refine ⟨RX7, TX7, 8, tyX7, rfl, by decide +kernel, u_gt7, tyX7_ok, nmX7, fun k hk => ?_⟩
  match k, hk with
  | 0, _ => exact Or.inr (Or.inr ⟨by decide +kernel, Or.inl ⟨_, rfl⟩⟩)
  | 1, _ => exact Or.inl ⟨by decide +kernel, rfl⟩
  | 2, _ => exact Or.inl ⟨by decide +kernel, rfl⟩
  | 3, _ => exact Or.inr (Or.inr ⟨by decide +kernel, Or.inl ⟨_, rfl⟩⟩)
  | 4, _ => exact Or.inr (Or.inr ⟨by decide +kernel, Or.inr ⟨_, rfl⟩⟩)
  | 5, _ => exact Or.inr (Or.inr ⟨by decide +kernel, Or.inr ⟨_, rfl⟩⟩)
  | 6, _ => exact Or.inr (Or.inr ⟨by decide +kernel, Or.inr ⟨_, rfl⟩⟩)
  | 7, _ => exact Or.inl ⟨by decide +kernel, rfl⟩
  | k + 8, hk => exact absurd hk (by omega)
theorem u_gt8 : ∀ w ∈ u_ws RX8 TX8 5, w ∈ gt := by
  intro w hw
  have h : (u_ws RX8 TX8 5).all (fun w => decide (w ∈ lw_tbl) && goodWord w) = true := by decide +kernel
  have h1 := List.all_eq_true.mp h w hw
  simp only [Bool.and_eq_true, decide_eq_true_eq] at h1
  exact List.mem_filter.mpr h1
theorem okCl_8 : okCl 8 := by
  refine ⟨RX8, TX8, 5, tyX8, rfl, by decide +kernel, u_gt8, tyX8_ok, nmX8, fun k hk => ?_⟩
  match k, hk with
  | 0, _ => exact Or.inr (Or.inr ⟨by decide +kernel, Or.inr ⟨_, rfl⟩⟩)
  | 1, _ => exact Or.inr (Or.inr ⟨by decide +kernel, Or.inr ⟨_, rfl⟩⟩)
  | 2, _ => exact Or.inr (Or.inr ⟨by decide +kernel, Or.inr ⟨_, rfl⟩⟩)
  | 3, _ => exact Or.inl ⟨by decide +kernel, rfl⟩
  | 4, _ => exact Or.inl ⟨by decide +kernel, rfl⟩
  | k + 5, hk => exact absurd hk (by omega)
theorem u_gt9 : ∀ w ∈ u_ws RX9 TX9 5, w ∈ gt := by
  intro w hw
  have h : (u_ws RX9 TX9 5).all (fun w => decide (w ∈ lw_tbl) && goodWord w) = true := by decide +kernel
  have h1 := List.all_eq_true.mp h w hw
  simp only [Bool.and_eq_true, decide_eq_true_eq] at h1
  exact List.mem_filter.mpr h1
theorem okCl_9 : okCl 9 := by
  refine ⟨RX9, TX9, 5, tyX9, rfl, by decide +kernel, u_gt9, tyX9_ok, nmX9, fun k hk => ?_⟩
  match k, hk with
  | 0, _ => exact Or.inr (Or.inr ⟨by decide +kernel, Or.inr ⟨_, rfl⟩⟩)
  | 1, _ => exact Or.inl ⟨by decide +kernel, rfl⟩
  | 2, _ => exact Or.inl ⟨by decide +kernel, rfl⟩
  | 3, _ => exact Or.inl ⟨by decide +kernel, rfl⟩
  | 4, _ => exact Or.inl ⟨by decide +kernel, rfl⟩
  | k + 5, hk => exact absurd hk (by omega)
theorem u_gt10 : ∀ w ∈ u_ws RX10 TX10 19, w ∈ gt := by
  intro w hw
  have h : (u_ws RX10 TX10 19).all (fun w => decide (w ∈ lw_tbl) && goodWord w) = true := by decide +kernel
  have h1 := List.all_eq_true.mp h w hw
  simp only [Bool.and_eq_true, decide_eq_true_eq] at h1
  exact List.mem_filter.mpr h1
theorem okCl_10 : okCl 10 := by
  refine ⟨RX10, TX10, 19, tyX10, rfl, by decide +kernel, u_gt10, tyX10_ok, nmX10, fun k hk => ?_⟩
  match k, hk with
  | 0, _ => exact Or.inl ⟨by decide +kernel, rfl⟩
  | 1, _ => exact Or.inl ⟨by decide +kernel, rfl⟩
  | 2, _ => exact Or.inl ⟨by decide +kernel, rfl⟩
  | 3, _ => exact Or.inr (Or.inr ⟨by decide +kernel, Or.inr ⟨_, rfl⟩⟩)
  | 4, _ => exact Or.inl ⟨by decide +kernel, rfl⟩
  | 5, _ => exact Or.inr (Or.inr ⟨by decide +kernel, Or.inr ⟨_, rfl⟩⟩)
  | 6, _ => exact Or.inr (Or.inr ⟨by decide +kernel, Or.inr ⟨_, rfl⟩⟩)
  | 7, _ => exact Or.inr (Or.inr ⟨by decide +kernel, Or.inr ⟨_, rfl⟩⟩)
  | 8, _ => exact Or.inr (Or.inr ⟨by decide +kernel, Or.inr ⟨_, rfl⟩⟩)
  | 9, _ => exact Or.inl ⟨by decide +kernel, rfl⟩
  | 10, _ => exact Or.inr (Or.inr ⟨by decide +kernel, Or.inr ⟨_, rfl⟩⟩)
  | 11, _ => exact Or.inr (Or.inr ⟨by decide +kernel, Or.inr ⟨_, rfl⟩⟩)
  | 12, _ => exact Or.inr (Or.inr ⟨by decide +kernel, Or.inr ⟨_, rfl⟩⟩)
  | 13, _ => exact Or.inr (Or.inr ⟨by decide +kernel, Or.inr ⟨_, rfl⟩⟩)
  | 14, _ => exact Or.inr (Or.inr ⟨by decide +kernel, Or.inr ⟨_, rfl⟩⟩)
  | 15, _ => exact Or.inr (Or.inr ⟨by decide +kernel, Or.inr ⟨_, rfl⟩⟩)
  | 16, _ => exact Or.inr (Or.inr ⟨by decide +kernel, Or.inr ⟨_, rfl⟩⟩)
  | 17, _ => exact Or.inr (Or.inr ⟨by decide +kernel, Or.inr ⟨_, rfl⟩⟩)
  | 18, _ => exact Or.inl ⟨by decide +kernel, rfl⟩
  | k + 19, hk => exact absurd hk (by omega)
theorem u_gt11 : ∀ w ∈ u_ws RX11 TX11 15, w ∈ gt := by
  intro w hw
  have h : (u_ws RX11 TX11 15).all (fun w => decide (w ∈ lw_tbl) && goodWord w) = true := by decide +kernel
  have h1 := List.all_eq_true.mp h w hw
  simp only [Bool.and_eq_true, decide_eq_true_eq] at h1
  exact List.mem_filter.mpr h1
theorem okCl_11 : okCl 11 := by
  refine ⟨RX11, TX11, 15, tyX11, rfl, by decide +kernel, u_gt11, tyX11_ok, nmX11, fun k hk => ?_⟩
  match k, hk with
  | 0, _ => exact Or.inr (Or.inr ⟨by decide +kernel, Or.inr ⟨_, rfl⟩⟩)
  | 1, _ => exact Or.inl ⟨by decide +kernel, rfl⟩
  | 2, _ => exact Or.inr (Or.inr ⟨by decide +kernel, Or.inl ⟨_, rfl⟩⟩)
  | 3, _ => exact Or.inr (Or.inr ⟨by decide +kernel, Or.inl ⟨_, rfl⟩⟩)
  | 4, _ => exact Or.inr (Or.inr ⟨by decide +kernel, Or.inl ⟨_, rfl⟩⟩)
  | 5, _ => exact Or.inr (Or.inr ⟨by decide +kernel, Or.inl ⟨_, rfl⟩⟩)
  | 6, _ => exact Or.inr (Or.inr ⟨by decide +kernel, Or.inl ⟨_, rfl⟩⟩)
  | 7, _ => exact Or.inr (Or.inr ⟨by decide +kernel, Or.inl ⟨_, rfl⟩⟩)
  | 8, _ => exact Or.inr (Or.inr ⟨by decide +kernel, Or.inl ⟨_, rfl⟩⟩)
  | 9, _ => exact Or.inr (Or.inr ⟨by decide +kernel, Or.inl ⟨_, rfl⟩⟩)
  | 10, _ => exact Or.inr (Or.inr ⟨by decide +kernel, Or.inl ⟨_, rfl⟩⟩)
  | 11, _ => exact Or.inr (Or.inr ⟨by decide +kernel, Or.inl ⟨_, rfl⟩⟩)
  | 12, _ => exact Or.inr (Or.inr ⟨by decide +kernel, Or.inl ⟨_, rfl⟩⟩)
  | 13, _ => exact Or.inr (Or.inr ⟨by decide +kernel, Or.inl ⟨_, rfl⟩⟩)
  | 14, _ => exact Or.inl ⟨by decide +kernel, rfl⟩
  | k + 15, hk => exact absurd hk (by omega)
theorem u_gt12 : ∀ w ∈ u_ws RX12 TX12 28, w ∈ gt := by
  intro w hw
  have h : (u_ws RX12 TX12 28).all (fun w => decide (w ∈ lw_tbl) && goodWord w) = true := by decide +kernel
  have h1 := List.all_eq_true.mp h w hw
  simp only [Bool.and_eq_true, decide_eq_true_eq] at h1
  exact List.mem_filter.mpr h1
theorem okCl_12 : okCl 12 := by
  refine ⟨RX12, TX12, 28, tyX12, rfl, by decide +kernel, u_gt12, tyX12_ok, nmX12, fun k hk => ?_⟩
  match k, hk with
  | 0, _ => exact Or.inl ⟨by decide +kernel, rfl⟩
  | 1, _ => exact Or.inl ⟨by decide +kernel, rfl⟩
  | 2, _ => exact Or.inl ⟨by decide +kernel, rfl⟩
  | 3, _ => exact Or.inl ⟨by decide +kernel, rfl⟩
  | 4, _ => exact Or.inl ⟨by decide +kernel, rfl⟩
  | 5, _ => exact Or.inl ⟨by decide +kernel, rfl⟩
  | 6, _ => exact Or.inl ⟨by decide +kernel, rfl⟩
  | 7, _ => exact Or.inl ⟨by decide +kernel, rfl⟩
  | 8, _ => exact Or.inl ⟨by decide +kernel, rfl⟩
  | 9, _ => exact Or.inl ⟨by decide +kernel, rfl⟩
  | 10, _ => exact Or.inl ⟨by decide +kernel, rfl⟩
  | 11, _ => exact Or.inl ⟨by decide +kernel, rfl⟩
  | 12, _ => exact Or.inl ⟨by decide +kernel, rfl⟩
  | 13, _ => exact Or.inl ⟨by decide +kernel, rfl⟩
  | 14, _ => exact Or.inr (Or.inr ⟨by decide +kernel, Or.inr ⟨_, rfl⟩⟩)
  | 15, _ => exact Or.inr (Or.inr ⟨by decide +kernel, Or.inr ⟨_, rfl⟩⟩)
  | 16, _ => exact Or.inr (Or.inr ⟨by decide +kernel, Or.inr ⟨_, rfl⟩⟩)
  | 17, _ => exact Or.inr (Or.inr ⟨by decide +kernel, Or.inr ⟨_, rfl⟩⟩)
  | 18, _ => exact Or.inr (Or.inr ⟨by decide +kernel, Or.inr ⟨_, rfl⟩⟩)
  | 19, _ => exact Or.inr (Or.inr ⟨by decide +kernel, Or.inr ⟨_, rfl⟩⟩)
  | 20, _ => exact Or.inr (Or.inr ⟨by decide +kernel, Or.inr ⟨_, rfl⟩⟩)
  | 21, _ => exact Or.inr (Or.inr ⟨by decide +kernel, Or.inr ⟨_, rfl⟩⟩)
  | 22, _ => exact Or.inr (Or.inr ⟨by decide +kernel, Or.inr ⟨_, rfl⟩⟩)
  | 23, _ => exact Or.inr (Or.inr ⟨by decide +kernel, Or.inr ⟨_, rfl⟩⟩)
  | 24, _ => exact Or.inr (Or.inr ⟨by decide +kernel, Or.inr ⟨_, rfl⟩⟩)
  | 25, _ => exact Or.inr (Or.inr ⟨by decide +kernel, Or.inr ⟨_, rfl⟩⟩)
  | 26, _ => exact Or.inr (Or.inr ⟨by decide +kernel, Or.inr ⟨_, rfl⟩⟩)
  | 27, _ => exact Or.inr (Or.inr ⟨by decide +kernel, Or.inr ⟨_, rfl⟩⟩)
  | k + 28, hk => exact absurd hk (by omega)
theorem u_gt13 : ∀ w ∈ u_ws RX13 TX13 38, w ∈ gt := by
  intro w hw
  have h : (u_ws RX13 TX13 38).all (fun w => decide (w ∈ lw_tbl) && goodWord w) = true := by decide +kernel
  have h1 := List.all_eq_true.mp h w hw
  simp only [Bool.and_eq_true, decide_eq_true_eq] at h1
  exact List.mem_filter.mpr h1
theorem okCl_13 : okCl 13 := by
  refine ⟨RX13, TX13, 38, tyX13, rfl, by decide +kernel, u_gt13, tyX13_ok, nmX13, fun k hk => ?_⟩
  match k, hk with
  | 0, _ => exact Or.inl ⟨by decide +kernel, rfl⟩
  | 1, _ => exact Or.inl ⟨by decide +kernel, rfl⟩
  | 2, _ => exact Or.inl ⟨by decide +kernel, rfl⟩
  | 3, _ => exact Or.inr (Or.inr ⟨by decide +kernel, Or.inl ⟨_, rfl⟩⟩)
  | 4, _ => exact Or.inr (Or.inr ⟨by decide +kernel, Or.inl ⟨_, rfl⟩⟩)
  | 5, _ => exact Or.inr (Or.inr ⟨by decide +kernel, Or.inr ⟨_, rfl⟩⟩)
  | 6, _ => exact Or.inl ⟨by decide +kernel, rfl⟩
  | 7, _ => exact Or.inl ⟨by decide +kernel, rfl⟩
  | 8, _ => exact Or.inl ⟨by decide +kernel, rfl⟩
  | 9, _ => exact Or.inl ⟨by decide +kernel, rfl⟩
  | 10, _ => exact Or.inl ⟨by decide +kernel, rfl⟩
  | 11, _ => exact Or.inl ⟨by decide +kernel, rfl⟩
  | 12, _ => exact Or.inl ⟨by decide +kernel, rfl⟩
  | 13, _ => exact Or.inl ⟨by decide +kernel, rfl⟩
  | 14, _ => exact Or.inr (Or.inl ⟨by decide +kernel, rfl⟩)
  | 15, _ => exact Or.inl ⟨by decide +kernel, rfl⟩
  | 16, _ => exact Or.inr (Or.inr ⟨by decide +kernel, Or.inr ⟨_, rfl⟩⟩)
  | 17, _ => exact Or.inr (Or.inr ⟨by decide +kernel, Or.inr ⟨_, rfl⟩⟩)
  | 18, _ => exact Or.inr (Or.inr ⟨by decide +kernel, Or.inr ⟨_, rfl⟩⟩)
  | 19, _ => exact Or.inr (Or.inr ⟨by decide +kernel, Or.inr ⟨_, rfl⟩⟩)
  | 20, _ => exact Or.inl ⟨by decide +kernel, rfl⟩
  | 21, _ => exact Or.inl ⟨by decide +kernel, rfl⟩
  | 22, _ => exact Or.inr (Or.inr ⟨by decide +kernel, Or.inr ⟨_, rfl⟩⟩)
  | 23, _ => exact Or.inr (Or.inr ⟨by decide +kernel, Or.inr ⟨_, rfl⟩⟩)
  | 24, _ => exact Or.inr (Or.inr ⟨by decide +kernel, Or.inr ⟨_, rfl⟩⟩)
  | 25, _ => exact Or.inl ⟨by decide +kernel, rfl⟩
  | 26, _ => exact Or.inl ⟨by decide +kernel, rfl⟩
  | 27, _ => exact Or.inr (Or.inr ⟨by decide +kernel, Or.inr ⟨_, rfl⟩⟩)
  | 28, _ => exact Or.inr (Or.inr ⟨by decide +kernel, Or.inr ⟨_, rfl⟩⟩)
  | 29, _ => exact Or.inr (Or.inr ⟨by decide +kernel, Or.inr ⟨_, rfl⟩⟩)
  | 30, _ => exact Or.inr (Or.inr ⟨by decide +kernel, Or.inr ⟨_, rfl⟩⟩)
  | 31, _ => exact Or.inl ⟨by decide +kernel, rfl⟩
  | 32, _ => exact Or.inl ⟨by decide +kernel, rfl⟩
  | 33, _ => exact Or.inl ⟨by decide +kernel, rfl⟩
  | 34, _ => exact Or.inr (Or.inr ⟨by decide +kernel, Or.inr ⟨_, rfl⟩⟩)
  | 35, _ => exact Or.inr (Or.inr ⟨by decide +kernel, Or.inr ⟨_, rfl⟩⟩)
  | 36, _ => exact Or.inr (Or.inl ⟨by decide +kernel, rfl⟩)
  | 37, _ => exact Or.inl ⟨by decide +kernel, rfl⟩
  | k + 38, hk => exact absurd hk (by omega)
theorem okCl_all : ∀ ci, ci < 14 → okCl ci := by
  intro ci hci
  match ci, hci with
  | 0, _ => exact okCl_0
  | 1, _ => exact okCl_1
  | 2, _ => exact okCl_2
  | 3, _ => exact okCl_3
  | 4, _ => exact okCl_4
  | 5, _ => exact okCl_5
  | 6, _ => exact okCl_6
  | 7, _ => exact okCl_7
  | 8, _ => exact okCl_8
  | 9, _ => exact okCl_9
  | 10, _ => exact okCl_10
  | 11, _ => exact okCl_11
  | 12, _ => exact okCl_12
  | 13, _ => exact okCl_13
  | k + 14, h => exact absurd h (by omega)
theorem gm_min_s : Cond.static Lib.Math.min.name ∈ gt := gt_at 654 (by decide +kernel) (by decide +kernel)
theorem gm_max_s : Cond.static Lib.Math.max.name ∈ gt := gt_at 764 (by decide +kernel) (by decide +kernel)
theorem gm_ini : Cond.initialized "java/lang/Math" ∈ gt := gt_at 147 (by decide +kernel) (by decide +kernel)
theorem gm_sys : Cond.initialized "java/lang/System" ∈ gt := gt_at 149 (by decide +kernel) (by decide +kernel)
theorem gm_nat : Cond.native arraycopyName ∈ gt := gt_at 817 (by decide +kernel) (by decide +kernel)
theorem gm_cs : Cond.static arraycopyName ∈ gt := gt_at 816 (by decide +kernel) (by decide +kernel)
theorem gm_oi : Cond.instanceMethod Lib.objectInit ∈ gt := gt_at 161 (by decide +kernel) (by decide +kernel)
theorem gm_min_c : Cond.code Lib.Math.min.name Lib.Math.min.code 2 (some .int) ∈ gt := gt_at 655 (by decide +kernel) (by decide +kernel)
theorem gm_max_c : Cond.code Lib.Math.max.name Lib.Math.max.code 2 (some .int) ∈ gt := gt_at 765 (by decide +kernel) (by decide +kernel)
theorem gm_oi_c : Cond.code Lib.objectInit ⟨#[0xb1]⟩ 1 none ∈ gt := gt_at 162 (by decide +kernel) (by decide +kernel)
