/-! ===== the methods: name, code, locals, what is answered, kind of the object ===== -/
def mTb : List (MethodName × ByteArray × Nat × Option FieldType × Nat) := [
  (yX0_init, cX0_init, 4, none, 0),
  (yX0_allChances, cX0_allChances, 4, some .long, 0),
  (yX0_chanceWithin, cX0_chanceWithin, 8, some .long, 0),
  (yX0_cavesByChance, cX0_cavesByChance, 6, some .long, 0),
  (yX0_nextDried, cX0_nextDried, 2, some .int, 0),
  (yX0_chanceOf, cX0_chanceOf, 5, some .long, 0),
  (yX0_spanByDraws, cX0_spanByDraws, 5, some .int, 0),
  (yX1_init, cX1_init, 4, none, 1),
  (yX1_yearStep, cX1_yearStep, 4, some .int, 1),
  (yX1_roverStep, cX1_roverStep, 6, some .int, 1),
  (yX1_folkStep, cX1_folkStep, 7, some .int, 1),
  (yX1_nearestFolk, cX1_nearestFolk, 4, some .int, 1),
  (yX1_callStep, cX1_callStep, 5, some .int, 1),
  (yX1_follow, cX1_follow, 8, none, 1),
  (yX1_roundLength, cX1_roundLength, 3, some .int, 1),
  (yX1_comesAgain, cX1_comesAgain, 3, some .boolean, 1),
  (yX1_roundStart, cX1_roundStart, 4, some .int, 1),
  (yX1_callsNeeded, cX1_callsNeeded, 6, some .int, 1),
  (yX1_lessensCalls, cX1_lessensCalls, 6, some .boolean, 1),
  (yX1_isMouth, cX1_isMouth, 2, some .boolean, 1),
  (yX1_callAt, cX1_callAt, 5, some .int, 1),
  (yX1_firstCall, cX1_firstCall, 4, some .int, 1),
  (yX1_broughtTo, cX1_broughtTo, 7, some .int, 1),
  (yX1_oneCallFrom, cX1_oneCallFrom, 5, some .int, 1),
  (yX2_init, cX2_init, 3, none, 2),
  (yX2_weightOf, cX2_weightOf, 5, some .long, 2),
  (yX2_isRight, cX2_isRight, 3, some .boolean, 2),
  (yX2_allWeights, cX2_allWeights, 4, some .long, 2),
  (yX2_fitting, cX2_fitting, 3, some .int, 2),
  (yX2_heaviest, cX2_heaviest, 7, some .int, 2),
  (yX2_bestStone, cX2_bestStone, 6, some .int, 2),
  (yX2_leftBy, cX2_leftBy, 5, some .int, 2),
  (yX2_alikeFrom, cX2_alikeFrom, 6, some .int, 2),
  (yX2_firstWrongEcho, cX2_firstWrongEcho, 2, some .int, 2),
  (yX3_init, cX3_init, 3, none, 3),
  (yX3_goingsNeeded, cX3_goingsNeeded, 5, some .int, 3),
  (yX3_goOnceMore, cX3_goOnceMore, 5, some .boolean, 3),
  (yX3_aroundOf, cX3_aroundOf, 2, some .int, 3),
  (yX3_hasItFrom, cX3_hasItFrom, 5, some .boolean, 3),
  (yX3_firstGoing, cX3_firstGoing, 5, some .int, 3),
  (yX3_goingsBehind, cX3_goingsBehind, 5, some .int, 3),
  (yX4_init, cX4_init, 2, none, 4),
  (yX4_empty, cX4_empty, 1, none, 4),
  (yX4_keep, cX4_keep, 2, none, 4),
  (yX4_giveBack, cX4_giveBack, 2, none, 4),
  (yX4_addImage, cX4_addImage, 2, some .int, 4),
  (yX4_goBack, cX4_goBack, 3, none, 4),
  (yX5_init, cX5_init, 2, none, 5),
  (yX5_lay, cX5_lay, 3, none, 5),
  (yX5_layFrom, cX5_layFrom, 3, none, 5),
  (yX5_joinNeighbours, cX5_joinNeighbours, 2, none, 5),
  (yX5_measure, cX5_measure, 6, none, 5),
  (yX5_shortens, cX5_shortens, 4, some .boolean, 5),
  (yX5_span, cX5_span, 3, some .int, 5),
  (yX5_reachedFrom, cX5_reachedFrom, 4, some .int, 5),
  (yX5_firstStep, cX5_firstStep, 5, some .int, 5),
  (yX5_lastFrom, cX5_lastFrom, 4, some .int, 5),
  (yX5_joinedTo, cX5_joinedTo, 8, some .int, 5),
  (yX5_countParts, cX5_countParts, 4, some .int, 5),
  (yX5_worstLoss, cX5_worstLoss, 5, some .int, 5),
  (yX5_lossWithout, cX5_lossWithout, 5, some .int, 5),
  (yX6_init, cX6_init, 3, none, 6),
  (yX6_fittingSets, cX6_fittingSets, 3, some .int, 6),
  (yX6_setAt, cX6_setAt, 5, some .int, 6),
  (yX6_setsWithDry, cX6_setsWithDry, 6, some .int, 6),
  (yX6_firstUntrueTalk, cX6_firstUntrueTalk, 5, some .int, 6),
  (yX6_wetBy, cX6_wetBy, 4, some .int, 6),
  (yX7_init, cX7_init, 3, none, 7),
  (yX7_read, cX7_read, 5, some .boolean, 7),
  (yX7_beginsLine, cX7_beginsLine, 2, some .boolean, 7),
  (yX7_endsLine, cX7_endsLine, 2, some .boolean, 7),
  (yX7_readRest, cX7_readRest, 2, some .boolean, 7),
  (yX7_readWell, cX7_readWell, 1, some .boolean, 7),
  (yX7_readCave, cX7_readCave, 1, some .boolean, 7),
  (yX7_readWay, cX7_readWay, 5, some .boolean, 7),
  (yX7_readVoice, cX7_readVoice, 2, some .boolean, 7),
  (yX7_readFolk, cX7_readFolk, 2, some .boolean, 7),
  (yX7_readEcho, cX7_readEcho, 3, some .boolean, 7),
  (yX7_readUnsure, cX7_readUnsure, 4, some .boolean, 7),
  (yX7_readTalk, cX7_readTalk, 4, some .boolean, 7),
  (yX7_lineHere, cX7_lineHere, 2, some .int, 7),
  (yX7_lineWord, cX7_lineWord, 1, some (.object "java/lang/String"), 7),
  (yX7_kindHere, cX7_kindHere, 1, some .int, 7),
  (yX7_readWord, cX7_readWord, 2, some .boolean, 7),
  (yX7_readNumber, cX7_readNumber, 5, some .int, 7),
  (yX7_readFirstCave, cX7_readFirstCave, 2, some .int, 7),
  (yX7_caveHere, cX7_caveHere, 2, some .int, 7),
  (yX7_readNewName, cX7_readNewName, 3, some .boolean, 7),
  (yX7_isName, cX7_isName, 2, some .boolean, 7),
  (yX7_nameHere, cX7_nameHere, 4, some .int, 7),
  (yX7_fails, cX7_fails, 2, some .boolean, 7),
  (yX7_failsWhole, cX7_failsWhole, 2, some .int, 7),
  (yX8_init, cX8_init, 1, none, 8),
  (yX8_begin, cX8_begin, 3, none, 8),
  (yX8_take, cX8_take, 2, none, 8),
  (yX8_moveVoice, cX8_moveVoice, 3, some .boolean, 8),
  (yX9_init, cX9_init, 2, none, 9),
  (yX9_begin, cX9_begin, 2, none, 9),
  (yX9_advance, cX9_advance, 1, none, 9),
  (yX9_isWord, cX9_isWord, 3, some .boolean, 9),
  (yX9_wordNumber, cX9_wordNumber, 4, some .long, 9),
  (yX9_numberOf, cX9_numberOf, 4, some .long, 9),
  (yX9_wholeNumber, cX9_wholeNumber, 3, some .int, 9),
  (yX9_isLetter, cX9_isLetter, 1, some .boolean, 9),
  (yX9_isDigit, cX9_isDigit, 1, some .boolean, 9),
  (yX10_init, cX10_init, 1, none, 10),
  (yX10_empty, cX10_empty, 2, none, 10),
  (yX10_take, cX10_take, 2, none, 10),
  (yX10_addWay, cX10_addWay, 6, none, 10),
  (yX10_wayBetween, cX10_wayBetween, 3, some .int, 10),
  (yX10_waysAt, cX10_waysAt, 4, some .int, 10),
  (yX10_isUnsure, cX10_isUnsure, 3, some .boolean, 10),
  (yX10_hasEcho, cX10_hasEcho, 3, some .boolean, 10),
  (yX11_init, cX11_init, 1, none, 11),
  (yX11_feed, cX11_feed, 6, some .int, 11),
  (yX11_well, cX11_well, 2, some .int, 11),
  (yX11_fault, cX11_fault, 1, some .int, 11),
  (yX11_where, cX11_where, 1, some .int, 11),
  (yX11_cave, cX11_cave, 3, some .int, 11),
  (yX11_way, cX11_way, 3, some .int, 11),
  (yX11_voice, cX11_voice, 3, some .int, 11),
  (yX11_folk, cX11_folk, 2, some .int, 11),
  (yX11_far, cX11_far, 3, some .int, 11),
  (yX11_next, cX11_next, 3, some .int, 11),
  (yX11_hearers, cX11_hearers, 2, some .int, 11),
  (yX11_heardFrom, cX11_heardFrom, 4, some .int, 11),
  (yX11_parts, cX11_parts, 1, some .int, 11),
  (yX11_farthest, cX11_farthest, 2, some .int, 11),
  (yX11_neck, cX11_neck, 1, some .int, 11),
  (yX11_after, cX11_after, 3, some .int, 11),
  (yX11_comes, cX11_comes, 4, some .int, 11),
  (yX11_meets, cX11_meets, 4, some .int, 11),
  (yX11_silentIn, cX11_silentIn, 3, some .int, 11),
  (yX11_settles, cX11_settles, 2, some .int, 11),
  (yX11_round, cX11_round, 2, some .int, 11),
  (yX11_called, cX11_called, 3, some .int, 11),
  (yX11_bring, cX11_bring, 3, some .int, 11),
  (yX11_bringAt, cX11_bringAt, 5, some .int, 11),
  (yX11_reach, cX11_reach, 2, some .int, 11),
  (yX11_echo, cX11_echo, 3, some .int, 11),
  (yX11_fits, cX11_fits, 1, some .int, 11),
  (yX11_odds, cX11_odds, 3, some .long, 11),
  (yX11_likeliest, cX11_likeliest, 1, some .int, 11),
  (yX11_stone, cX11_stone, 1, some .int, 11),
  (yX11_stoneLeaves, cX11_stoneLeaves, 2, some .int, 11),
  (yX11_judge, cX11_judge, 1, some .int, 11),
  (yX11_nets, cX11_nets, 1, some .int, 11),
  (yX11_netAt, cX11_netAt, 3, some .int, 11),
  (yX11_dryBy, cX11_dryBy, 2, some .int, 11),
  (yX11_liar, cX11_liar, 1, some .int, 11),
  (yX11_chase, cX11_chase, 3, some .int, 11),
  (yX11_chaseBy, cX11_chaseBy, 3, some .int, 11),
  (yX11_answers, cX11_answers, 5, some .int, 11),
  (yX11_rests, cX11_rests, 4, some .int, 11),
  (yX11_rest, cX11_rest, 3, some .int, 11),
  (yX11_within, cX11_within, 5, some .long, 11),
  (yX11_mean, cX11_mean, 3, some .long, 11),
  (yX11_farBy, cX11_farBy, 4, some .int, 11),
  (yX11_open, cX11_open, 7, some .int, 11),
  (yX11_year, cX11_year, 3, some .int, 11),
  (yX11_call, cX11_call, 4, some .int, 11),
  (yX11_walk, cX11_walk, 3, some .boolean, 11),
  (yX11_dig, cX11_dig, 2, some .boolean, 11),
  (yX11_flood, cX11_flood, 2, some .boolean, 11),
  (yX11_undo, cX11_undo, 1, some .boolean, 11),
  (yX11_image, cX11_image, 1, some .int, 11),
  (yX11_back, cX11_back, 2, some .boolean, 11),
  (yX11_led, cX11_led, 4, some .int, 11),
  (yX11_size, cX11_size, 2, some .int, 11),
  (yX11_trouble, cX11_trouble, 1, some .int, 11),
  (yX11_refuse, cX11_refuse, 2, some .int, 11),
  (yX11_allow, cX11_allow, 2, some .int, 11),
  (yX11_refuseAct, cX11_refuseAct, 2, some .boolean, 11),
  (yX11_allowAct, cX11_allowAct, 1, some .boolean, 11),
  (yX11_refusesFear, cX11_refusesFear, 2, some .boolean, 11),
  (yX11_hasWell, cX11_hasWell, 1, some .boolean, 11),
  (yX11_isCave, cX11_isCave, 2, some .boolean, 11),
  (yX11_isWay, cX11_isWay, 2, some .boolean, 11),
  (yX11_isVoice, cX11_isVoice, 2, some .boolean, 11),
  (yX11_isFolk, cX11_isFolk, 2, some .boolean, 11),
  (yX11_isSeed, cX11_isSeed, 1, some .boolean, 11),
  (yX11_hasBit, cX11_hasBit, 2, some .boolean, 11),
  (yX11_orNo, cX11_orNo, 1, some .int, 11),
  (yX11_putBytes, cX11_putBytes, 3, none, 11),
  (yX11_bitsIn, cX11_bitsIn, 5, some .int, 11),
  (yX11_hearersOf, cX11_hearersOf, 4, some .int, 11),
  (yX11_changeWays, cX11_changeWays, 2, none, 11),
  (yX11_gain, cX11_gain, 3, some .int, 11),
  (yX11_isRest, cX11_isRest, 3, some .boolean, 11),
  (yX11_inLowestTerms, cX11_inLowestTerms, 12, some .long, 11),
  (yX12_init, cX12_init, 1, none, 12),
  (yX12_find, cX12_find, 4, some .int, 12),
  (yX12_way, cX12_way, 4, some .int, 12),
  (yX12_isEcho, cX12_isEcho, 3, some .boolean, 12),
  (yX12_isUnsure, cX12_isUnsure, 3, some .boolean, 12),
  (yX13_init, cX13_init, 1, none, 13),
  (yX13_thrown, cX13_thrown, 1, some .int, 13),
  (yX13_refused, cX13_refused, 2, some .int, 13),
  (yX13_lost, cX13_lost, 2, some .int, 13),
  (yX13_denied, cX13_denied, 2, some .boolean, 13),
  (yX13_good, cX13_good, 2, some .int, 13),
  (yX13_granted, cX13_granted, 1, some .boolean, 13),
  (yX13_in, cX13_in, 3, some .boolean, 13),
  (yX13_bit, cX13_bit, 2, some .boolean, 13),
  (yX13_bits, cX13_bits, 3, some .int, 13),
  (yX13_common, cX13_common, 10, some .long, 13),
  (yX13_fraction, cX13_fraction, 6, some .long, 13),
  (yX13_byteAt, cX13_byteAt, 2, some .int, 13),
  (yX13_isLetter, cX13_isLetter, 1, some .boolean, 13),
  (yX13_isDigit, cX13_isDigit, 1, some .boolean, 13),
  (yX13_packed, cX13_packed, 4, some .long, 13),
  (yX13_goesOn, cX13_goesOn, 3, none, 13),
  (yX13_flaw, cX13_flaw, 2, none, 13),
  (yX13_isWord, cX13_isWord, 2, some .boolean, 13),
  (yX13_eatsSemicolon, cX13_eatsSemicolon, 2, some .boolean, 13),
  (yX13_needs, cX13_needs, 2, none, 13),
  (yX13_readPart, cX13_readPart, 5, some .int, 13),
  (yX13_isName, cX13_isName, 1, some .boolean, 13),
  (yX13_lineBegins, cX13_lineBegins, 3, none, 13),
  (yX13_readFresh, cX13_readFresh, 3, some .long, 13),
  (yX13_names, cX13_names, 5, none, 13),
  (yX13_caveAtHand, cX13_caveAtHand, 2, some .int, 13),
  (yX13_readCave, cX13_readCave, 2, some .int, 13),
  (yX13_readTwo, cX13_readTwo, 2, some .int, 13),
  (yX13_readAll, cX13_readAll, 2, none, 13),
  (yX13_readLine, cX13_readLine, 1, none, 13),
  (yX13_readWell, cX13_readWell, 4, none, 13),
  (yX13_readACave, cX13_readACave, 4, none, 13),
  (yX13_readWay, cX13_readWay, 5, none, 13),
  (yX13_readVoice, cX13_readVoice, 5, none, 13),
  (yX13_readFolk, cX13_readFolk, 4, none, 13),
  (yX13_readEcho, cX13_readEcho, 3, none, 13),
  (yX13_readUnsure, cX13_readUnsure, 3, none, 13),
  (yX13_readTalk, cX13_readTalk, 3, none, 13),
  (yX13_feed, cX13_feed, 8, some .int, 13),
  (yX13_well, cX13_well, 3, some .int, 13),
  (yX13_fault, cX13_fault, 1, some .int, 13),
  (yX13_where, cX13_where, 1, some .int, 13),
  (yX13_isCave, cX13_isCave, 2, some .boolean, 13),
  (yX13_isWay, cX13_isWay, 2, some .boolean, 13),
  (yX13_isVoice, cX13_isVoice, 2, some .boolean, 13),
  (yX13_isFolk, cX13_isFolk, 2, some .boolean, 13),
  (yX13_apart, cX13_apart, 3, some .int, 13),
  (yX13_lays, cX13_lays, 7, none, 13),
  (yX13_lengthOf, cX13_lengthOf, 3, some .int, 13),
  (yX13_works, cX13_works, 2, none, 13),
  (yX13_towards, cX13_towards, 4, some .int, 13),
  (yX13_nearest, cX13_nearest, 4, some .int, 13),
  (yX13_flees, cX13_flees, 5, some .int, 13),
  (yX13_roves, cX13_roves, 4, some .int, 13),
  (yX13_goesTo, cX13_goesTo, 3, some .int, 13),
  (yX13_comesTo, cX13_comesTo, 4, some .boolean, 13),
  (yX13_aYear, cX13_aYear, 3, some .int, 13),
  (yX13_calledTo, cX13_calledTo, 4, some .int, 13),
  (yX13_isSilent, cX13_isSilent, 2, some .boolean, 13),
  (yX13_cave, cX13_cave, 5, some .int, 13),
  (yX13_way, cX13_way, 3, some .int, 13),
  (yX13_voice, cX13_voice, 3, some .int, 13),
  (yX13_folk, cX13_folk, 2, some .int, 13),
  (yX13_told, cX13_told, 2, some .int, 13),
  (yX13_far, cX13_far, 3, some .int, 13),
  (yX13_next, cX13_next, 3, some .int, 13),
  (yX13_hearers, cX13_hearers, 4, some .int, 13),
  (yX13_reached, cX13_reached, 5, some .int, 13),
  (yX13_heardFrom, cX13_heardFrom, 2, some .int, 13),
  (yX13_parts, cX13_parts, 4, some .int, 13),
  (yX13_farthest, cX13_farthest, 5, some .int, 13),
  (yX13_pairsWithout, cX13_pairsWithout, 5, some .int, 13),
  (yX13_neck, cX13_neck, 6, some .int, 13),
  (yX13_refusesYears, cX13_refusesYears, 3, some .int, 13),
  (yX13_after, cX13_after, 5, some .int, 13),
  (yX13_comes, cX13_comes, 4, some .int, 13),
  (yX13_meets, cX13_meets, 4, some .int, 13),
  (yX13_silentIn, cX13_silentIn, 3, some .int, 13),
  (yX13_comesAgain, cX13_comesAgain, 4, some .boolean, 13),
  (yX13_lines, cX13_lines, 3, none, 13),
  (yX13_settles, cX13_settles, 2, some .int, 13),
  (yX13_round, cX13_round, 2, some .int, 13),
  (yX13_called, cX13_called, 3, some .int, 13),
  (yX13_finds, cX13_finds, 4, none, 13),
  (yX13_brings, cX13_brings, 5, none, 13),
  (yX13_bring, cX13_bring, 3, some .int, 13),
  (yX13_bringAt, cX13_bringAt, 5, some .int, 13),
  (yX13_reach, cX13_reach, 4, some .int, 13),
  (yX13_echo, cX13_echo, 4, some .int, 13),
  (yX13_isRight, cX13_isRight, 4, some .boolean, 13),
  (yX13_weightOf, cX13_weightOf, 5, some .long, 13),
  (yX13_fitting, cX13_fitting, 3, some .int, 13),
  (yX13_fits, cX13_fits, 1, some .int, 13),
  (yX13_odds, cX13_odds, 6, some .long, 13),
  (yX13_likeliest, cX13_likeliest, 5, some .int, 13),
  (yX13_throwsAt, cX13_throwsAt, 8, some .int, 13),
  (yX13_stone, cX13_stone, 1, some .int, 13),
  (yX13_stoneLeaves, cX13_stoneLeaves, 1, some .int, 13),
  (yX13_judge, cX13_judge, 2, some .int, 13),
  (yX13_wetBy, cX13_wetBy, 4, some .int, 13),
  (yX13_wrongTalk, cX13_wrongTalk, 2, some .int, 13),
  (yX13_netting, cX13_netting, 5, some .int, 13),
  (yX13_nets, cX13_nets, 1, some .int, 13),
  (yX13_netAt, cX13_netAt, 3, some .int, 13),
  (yX13_dryBy, cX13_dryBy, 2, some .int, 13),
  (yX13_liar, cX13_liar, 1, some .int, 13),
  (yX13_mayGo, cX13_mayGo, 3, some .boolean, 13),
  (yX13_worst, cX13_worst, 5, some .int, 13),
  (yX13_chases, cX13_chases, 5, none, 13),
  (yX13_chase, cX13_chase, 3, some .int, 13),
  (yX13_chaseBy, cX13_chaseBy, 5, some .int, 13),
  (yX13_answered, cX13_answered, 3, some .int, 13),
  (yX13_refusesFear, cX13_refusesFear, 2, some .int, 13),
  (yX13_answers, cX13_answers, 6, some .int, 13),
  (yX13_isRest, cX13_isRest, 4, some .boolean, 13),
  (yX13_rests, cX13_rests, 5, some .int, 13),
  (yX13_rest, cX13_rest, 4, some .int, 13),
  (yX13_partOf, cX13_partOf, 5, some .long, 13),
  (yX13_within, cX13_within, 10, some .long, 13),
  (yX13_mean, cX13_mean, 8, some .long, 13),
  (yX13_dries, cX13_dries, 3, none, 13),
  (yX13_farBy, cX13_farBy, 4, some .int, 13),
  (yX13_open, cX13_open, 7, some .int, 13),
  (yX13_remembers, cX13_remembers, 2, none, 13),
  (yX13_remains, cX13_remains, 2, none, 13),
  (yX13_year, cX13_year, 2, some .int, 13),
  (yX13_call, cX13_call, 4, some .int, 13),
  (yX13_walk, cX13_walk, 3, some .boolean, 13),
  (yX13_turnsOver, cX13_turnsOver, 2, none, 13),
  (yX13_dig, cX13_dig, 2, some .boolean, 13),
  (yX13_flood, cX13_flood, 2, some .boolean, 13),
  (yX13_undo, cX13_undo, 2, some .boolean, 13),
  (yX13_image, cX13_image, 2, some .int, 13),
  (yX13_back, cX13_back, 3, some .boolean, 13),
  (yX13_led, cX13_led, 4, some .int, 13),
  (yX13_size, cX13_size, 2, some .int, 13),
  (yX13_trouble, cX13_trouble, 1, some .int, 13),
  (yJ6_bitCount_0f7a4, cJ6_bitCount_0f7a4, 1, some .int, 99),
  (yL_law, cL_law, 7, some .boolean, 99)]
def mDf : MethodName × ByteArray × Nat × Option FieldType × Nat := (yL_law, ⟨#[]⟩, 0, none, 99)
def mY (j : Nat) : MethodName := (mTb.getD j mDf).1
def mC (j : Nat) : ByteArray := (mTb.getD j mDf).2.1
def mL (j : Nat) : Nat := (mTb.getD j mDf).2.2.1
def mR (j : Nat) : Option FieldType := (mTb.getD j mDf).2.2.2.1
def mK (j : Nat) : Nat := (mTb.getD j mDf).2.2.2.2
/-- how long an instruction is -/
def aln : Instr → Nat
  | .aload _ | .iload _ | .lload _ | .astore _ | .istore _ | .lstore _ | .bipush _ | .ldc _ | .newarray _ => 2
  | .iinc _ _ | .sipush _ | .ldc_w _ | .ldc2_w _ | .getstatic _ | .getfield _ | .putfield _ | .new _ | .anewarray _ | .invokestatic _ | .invokevirtual _ | .invokespecial _ | .goto _ | .if_icmp _ _ | .ifCond _ _ | .ifnull _ | .ifnonnull _ => 3
  | _ => 1
/-- a field's entry of the pool -/
def okFd (own : String) (i ci k : Nat) : Prop := ci < 14 ∧ k < afn ci ∧ ∀ (C : String) (T : u_T) (N : Nat), vwCl[ci]? = some (C, T, N) → (Cond.fieldLink own i (T k).1 (T k).2.1 (T k).2.2.1 ∈ gt ∨ ∃ h, Cond.fieldLinkNest own i (T k).1 (T k).2.1 (T k).2.2.1 h ∈ gN)
def okPf (j i ci k : Nat) : Prop := ci < 14 ∧ k < afn ci ∧ ∀ (C : String) (T : u_T) (N : Nat), vwCl[ci]? = some (C, T, N) → ((Cond.fieldLink (mY j).cls i (T k).1 (T k).2.1 (T k).2.2.1 ∈ gt ∧ ((T k).2.2.2 = false ∨ ((T k).2.2.2 = true ∧ (mY j).name = "<init>" ∧ (T k).1 = (mY j).cls))) ∨ ∃ h, Cond.fieldLinkNest (mY j).cls i (T k).1 (T k).2.1 (T k).2.2.1 h ∈ gN ∧ (T k).2.2.2 = false)
/-- a method that may be called -/
def okMt (j : Nat) : Prop := Cond.code (mY j) (mC j) (mL j) (mR j) ∈ gt ∧ Cond.initialized (mY j).cls ∈ gt ∧ plainName (mY j).cls = true ∧ ((mY j).cls ≠ "java/lang/invoke/MethodHandle" ∧ (mY j).cls ≠ "java/lang/invoke/VarHandle") ∧ mL j ≤ 17
def okLk (own : String) (i f n z : Nat) : Prop := okMt f ∧ (parseMethodDescriptor (mY f).desc).map (fun d => d.parameters.length) = some n ∧ ((z = 0 ∧ Cond.methodLink own i (mY f) ∈ gt) ∨ (z = 1 ∧ ∃ h, Cond.methodLinkNest own i (mY f) h ∈ gN))
def okO (j : Nat) (o : aO) : Prop := (match o with
  | (.tableswitch _ _ _ _, _) => True
  | (i, ln, _) => ln = aln i) ∧ match o with
  | (.getfield i, _, ci, k, _) => okFd (mY j).cls i ci k
  | (.putfield i, _, ci, k, _) => okPf j i ci k
  | (.getstatic i, _) => Cond.fieldLink (mY j).cls i RX11 "ROOM" "[I" ∈ gt ∨ ∃ h, Cond.fieldLinkNest (mY j).cls i RX11 "ROOM" "[I" h ∈ gN
  | (.ldc i, _, k, x, _) => if k = 0 then Cond.constant (mY j).cls i (Int32.ofInt (x : Int)) ∈ gt else ∃ tx, asO[x]? = some ((mY j).cls, i, tx)
  | (.ldc_w i, _, k, x, _) => if k = 0 then Cond.constant (mY j).cls i (Int32.ofInt (x : Int)) ∈ gt else ∃ tx, asO[x]? = some ((mY j).cls, i, tx)
  | (.ldc2_w i, _, x, _) => Cond.constantLong (mY j).cls i (Int64.ofInt (x : Int)) ∈ gt
  | (.new i, _, ci, _) => ∀ (C : String) (T : u_T) (N : Nat), vwCl[ci]? = some (C, T, N) → Cond.classLink (mY j).cls i C ∈ gt ∧ Cond.instantiable C N ∈ gt ∧ Cond.initialized C ∈ gt
  | (.newarray t, _, kind, _) => ((kind = 100 ∧ newarray.typeOf t = .int) ∨ (kind = 101 ∧ newarray.typeOf t = .byte) ∨ (kind = 102 ∧ newarray.typeOf t = .long)) ∧ Cond.arrayClass (newarray.typeOf t) ∈ gt
  | (.anewarray i, _) => Cond.classLink (mY j).cls i RX8 ∈ gt
  | (.invokestatic i, _, f, n, z) => if f = 1000 then Cond.methodLink (mY j).cls i Lib.Math.min.name ∈ gt else if f = 1001 then Cond.methodLink (mY j).cls i Lib.Math.max.name ∈ gt else if f = 1002 then Cond.methodLink (mY j).cls i arraycopyName ∈ gt else if f = 1030 then True else okLk (mY j).cls i f n z ∧ Cond.static (mY f) ∈ gt
  | (.invokevirtual i, _, f, n, z) => if f = 1010 then Cond.methodLink (mY j).cls i yJ0_length_8abf5 ∈ gt else if f = 1011 then Cond.methodLink (mY j).cls i yJ0_charAt_5068e ∈ gt else okLk (mY j).cls i f n z ∧ Cond.instanceMethod (mY f) ∈ gt ∧ Cond.selects (mY f).cls (mY f) (mY f) ∈ gt ∧ mK f < 14 ∧ ∀ (C : String) (T : u_T) (N : Nat), vwCl[mK f]? = some (C, T, N) → C = (mY f).cls
  | (.invokespecial i, _, f, n, z) => if f = 1020 then Cond.methodLink (mY j).cls i Lib.objectInit ∈ gt else okLk (mY j).cls i f n z ∧ Cond.instanceMethod (mY f) ∈ gt ∧ (mY f).name = "<init>" ∧ mR f = none
  | (.ireturn, _, z, _) => (z = 0 ∧ mR j = some .int) ∨ (z = 1 ∧ mR j = some .boolean)
  | (.lreturn, _) => mR j = some .long
  | (.areturn, _) => ∃ q, mR j = some (.object q)
  | (.return_, _) => mR j = none
  | _ => True
def okJ (pc : Nat) (o : aO) : Prop := ∀ x : Int, (∃ off, o.1 = .goto off ∧ x = pc + off) ∨ (∃ cd off, o.1 = .if_icmp cd off ∧ x = pc + off) ∨ (∃ cd off, o.1 = .ifCond cd off ∧ x = pc + off) ∨ (∃ off, o.1 = .ifnull off ∧ x = pc + off) ∨ (∃ off, o.1 = .ifnonnull off ∧ x = pc + off) ∨ (∃ df lo hi offs, o.1 = .tableswitch df lo hi offs ∧ (x = pc + df ∨ ∃ off ∈ offs.toList, x = pc + off)) → 0 ≤ x
def okOps (j : Nat) : Nat → List aO → Prop
  | _, [] => True
  | pc, o :: ops => decode (mC j) pc = .ok (o.1, o.2.1) ∧ okO j o ∧ okJ pc o ∧ okOps j (pc + o.2.1) ops
/-- what holds of the sorts of objects -/
def okCl (ci : Nat) : Prop := ∃ (C : String) (T : u_T) (N : Nat) (ty0 : Nat → FieldType), vwCl[ci]? = some (C, T, N) ∧ N = afn ci ∧ (∀ w ∈ u_ws C T N, w ∈ gt) ∧ (∀ k, k < N → parseFieldDescriptor (T k).2.2.1 = some (ty0 k)) ∧ (∀ a, a < N → ∀ b, b < N → a ≠ b → (T a).2.1 ≠ (T b).2.1) ∧ ∀ k, k < N → tyOk (aft ci k) (ty0 k)

theorem u_gt0 : ∀ w ∈ u_ws RX0 TX0 4, w ∈ gt := by
  intro w hw
  have h : (u_ws RX0 TX0 4).all (fun w => decide (w ∈ lw_tbl) && goodWord w) = true := by decide +kernel
  have h1 := List.all_eq_true.mp h w hw
  simp only [Bool.and_eq_true, decide_eq_true_eq] at h1
  exact List.mem_filter.mpr h1
theorem okCl_0 : okCl 0 := by
  refine ⟨RX0, TX0, 4, tyX0, rfl, by decide +kernel, u_gt0, tyX0_ok, nmX0, fun k hk => ?_⟩
  match k, hk with
  | 0, _ => exact Or.inr (Or.inr ⟨by decide +kernel, Or.inl ⟨_, rfl⟩⟩)
  | 1, _ => exact Or.inr (Or.inr ⟨by decide +kernel, Or.inl ⟨_, rfl⟩⟩)
  | 2, _ => exact Or.inr (Or.inr ⟨by decide +kernel, Or.inl ⟨_, rfl⟩⟩)
  | 3, _ => exact Or.inl ⟨by decide +kernel, rfl⟩
  | k + 4, hk => exact absurd hk (by omega)
theorem u_gt1 : ∀ w ∈ u_ws RX1 TX1 6, w ∈ gt := by
  intro w hw
  have h : (u_ws RX1 TX1 6).all (fun w => decide (w ∈ lw_tbl) && goodWord w) = true := by decide +kernel
  have h1 := List.all_eq_true.mp h w hw
  simp only [Bool.and_eq_true, decide_eq_true_eq] at h1
  exact List.mem_filter.mpr h1
theorem okCl_1 : okCl 1 := by
  refine ⟨RX1, TX1, 6, tyX1, rfl, by decide +kernel, u_gt1, tyX1_ok, nmX1, fun k hk => ?_⟩
  match k, hk with
  | 0, _ => exact Or.inr (Or.inr ⟨by decide +kernel, Or.inl ⟨_, rfl⟩⟩)
  | 1, _ => exact Or.inr (Or.inr ⟨by decide +kernel, Or.inl ⟨_, rfl⟩⟩)
  | 2, _ => exact Or.inr (Or.inr ⟨by decide +kernel, Or.inl ⟨_, rfl⟩⟩)
  | 3, _ => exact Or.inr (Or.inr ⟨by decide +kernel, Or.inr ⟨_, rfl⟩⟩)
  | 4, _ => exact Or.inr (Or.inr ⟨by decide +kernel, Or.inr ⟨_, rfl⟩⟩)
  | 5, _ => exact Or.inr (Or.inr ⟨by decide +kernel, Or.inr ⟨_, rfl⟩⟩)
  | k + 6, hk => exact absurd hk (by omega)
theorem u_gt2 : ∀ w ∈ u_ws RX2 TX2 2, w ∈ gt := by
  intro w hw
  have h : (u_ws RX2 TX2 2).all (fun w => decide (w ∈ lw_tbl) && goodWord w) = true := by decide +kernel
  have h1 := List.all_eq_true.mp h w hw
  simp only [Bool.and_eq_true, decide_eq_true_eq] at h1
  exact List.mem_filter.mpr h1
theorem okCl_2 : okCl 2 := by
  refine ⟨RX2, TX2, 2, tyX2, rfl, by decide +kernel, u_gt2, tyX2_ok, nmX2, fun k hk => ?_⟩
  match k, hk with
  | 0, _ => exact Or.inr (Or.inr ⟨by decide +kernel, Or.inl ⟨_, rfl⟩⟩)
  | 1, _ => exact Or.inr (Or.inr ⟨by decide +kernel, Or.inl ⟨_, rfl⟩⟩)
  | k + 2, hk => exact absurd hk (by omega)
theorem u_gt3 : ∀ w ∈ u_ws RX3 TX3 5, w ∈ gt := by
  intro w hw
  have h : (u_ws RX3 TX3 5).all (fun w => decide (w ∈ lw_tbl) && goodWord w) = true := by decide +kernel
  have h1 := List.all_eq_true.mp h w hw
  simp only [Bool.and_eq_true, decide_eq_true_eq] at h1
  exact List.mem_filter.mpr h1
theorem okCl_3 : okCl 3 := by
  refine ⟨RX3, TX3, 5, tyX3, rfl, by decide +kernel, u_gt3, tyX3_ok, nmX3, fun k hk => ?_⟩
  match k, hk with
  | 0, _ => exact Or.inr (Or.inr ⟨by decide +kernel, Or.inl ⟨_, rfl⟩⟩)
  | 1, _ => exact Or.inr (Or.inr ⟨by decide +kernel, Or.inl ⟨_, rfl⟩⟩)
  | 2, _ => exact Or.inr (Or.inr ⟨by decide +kernel, Or.inr ⟨_, rfl⟩⟩)
  | 3, _ => exact Or.inr (Or.inr ⟨by decide +kernel, Or.inr ⟨_, rfl⟩⟩)
  | 4, _ => exact Or.inr (Or.inr ⟨by decide +kernel, Or.inr ⟨_, rfl⟩⟩)
  | k + 5, hk => exact absurd hk (by omega)
theorem u_gt4 : ∀ w ∈ u_ws RX4 TX4 5, w ∈ gt := by
  intro w hw
  have h : (u_ws RX4 TX4 5).all (fun w => decide (w ∈ lw_tbl) && goodWord w) = true := by decide +kernel
  have h1 := List.all_eq_true.mp h w hw
  simp only [Bool.and_eq_true, decide_eq_true_eq] at h1
  exact List.mem_filter.mpr h1
theorem okCl_4 : okCl 4 := by
  refine ⟨RX4, TX4, 5, tyX4, rfl, by decide +kernel, u_gt4, tyX4_ok, nmX4, fun k hk => ?_⟩
  match k, hk with
  | 0, _ => exact Or.inr (Or.inr ⟨by decide +kernel, Or.inr ⟨_, rfl⟩⟩)
  | 1, _ => exact Or.inr (Or.inr ⟨by decide +kernel, Or.inr ⟨_, rfl⟩⟩)
  | 2, _ => exact Or.inl ⟨by decide +kernel, rfl⟩
  | 3, _ => exact Or.inl ⟨by decide +kernel, rfl⟩
  | 4, _ => exact Or.inl ⟨by decide +kernel, rfl⟩
  | k + 5, hk => exact absurd hk (by omega)
theorem u_gt5 : ∀ w ∈ u_ws RX5 TX5 4, w ∈ gt := by
  intro w hw
  have h : (u_ws RX5 TX5 4).all (fun w => decide (w ∈ lw_tbl) && goodWord w) = true := by decide +kernel
  have h1 := List.all_eq_true.mp h w hw
  simp only [Bool.and_eq_true, decide_eq_true_eq] at h1
  exact List.mem_filter.mpr h1
theorem okCl_5 : okCl 5 := by
  refine ⟨RX5, TX5, 4, tyX5, rfl, by decide +kernel, u_gt5, tyX5_ok, nmX5, fun k hk => ?_⟩
  match k, hk with
  | 0, _ => exact Or.inr (Or.inr ⟨by decide +kernel, Or.inl ⟨_, rfl⟩⟩)
  | 1, _ => exact Or.inr (Or.inr ⟨by decide +kernel, Or.inr ⟨_, rfl⟩⟩)
  | 2, _ => exact Or.inr (Or.inr ⟨by decide +kernel, Or.inr ⟨_, rfl⟩⟩)
  | 3, _ => exact Or.inl ⟨by decide +kernel, rfl⟩
  | k + 4, hk => exact absurd hk (by omega)
theorem u_gt6 : ∀ w ∈ u_ws RX6 TX6 2, w ∈ gt := by
  intro w hw
  have h : (u_ws RX6 TX6 2).all (fun w => decide (w ∈ lw_tbl) && goodWord w) = true := by decide +kernel
  have h1 := List.all_eq_true.mp h w hw
  simp only [Bool.and_eq_true, decide_eq_true_eq] at h1
  exact List.mem_filter.mpr h1
theorem okCl_6 : okCl 6 := by
  refine ⟨RX6, TX6, 2, tyX6, rfl, by decide +kernel, u_gt6, tyX6_ok, nmX6, fun k hk => ?_⟩
  match k, hk with
  | 0, _ => exact Or.inr (Or.inr ⟨by decide +kernel, Or.inl ⟨_, rfl⟩⟩)
  | 1, _ => exact Or.inr (Or.inr ⟨by decide +kernel, Or.inl ⟨_, rfl⟩⟩)
  | k + 2, hk => exact absurd hk (by omega)
theorem u_gt7 : ∀ w ∈ u_ws RX7 TX7 8, w ∈ gt := by
  intro w hw
  have h : (u_ws RX7 TX7 8).all (fun w => decide (w ∈ lw_tbl) && goodWord w) = true := by decide +kernel
  have h1 := List.all_eq_true.mp h w hw
  simp only [Bool.and_eq_true, decide_eq_true_eq] at h1
  exact List.mem_filter.mpr h1
theorem okCl_7 : okCl 7 := by
  refine ⟨RX7, TX7, 8, tyX7, rfl, by decide +kernel, u_gt7, tyX7_ok, nmX7, fun k hk => ?_⟩
  match k, hk with
  | 0, _ => exact Or.inr (Or.inr ⟨by decide +kernel, Or.inl ⟨_, rfl⟩⟩)
  | 1, _ => exact Or.inl ⟨by decide +kernel, rfl⟩
  | 2, _ => exact Or.inl ⟨by decide +kernel, rfl⟩
  | 3, _ => exact Or.inr (Or.inr ⟨by decide +kernel, Or.inl ⟨_, rfl⟩⟩)
  | 4, _ => exact Or.inr (Or.inr ⟨by decide +kernel, Or.inr ⟨_, rfl⟩⟩)
  | 5, _ => exact Or.inr (Or.inr ⟨by decide +kernel, Or.inr ⟨_, rfl⟩⟩)
  | 6, _ => exact Or.inr (Or.inr ⟨by decide +kernel, Or.inr ⟨_, rfl⟩⟩)
  | 7, _ => exact Or.inl ⟨by decide +kernel, rfl⟩
  | k + 8, hk => exact absurd hk (by omega)
theorem u_gt8 : ∀ w ∈ u_ws RX8 TX8 5, w ∈ gt := by
  intro w hw
  have h : (u_ws RX8 TX8 5).all (fun w => decide (w ∈ lw_tbl) && goodWord w) = true := by decide +kernel
  have h1 := List.all_eq_true.mp h w hw
  simp only [Bool.and_eq_true, decide_eq_true_eq] at h1
  exact List.mem_filter.mpr h1
theorem okCl_8 : okCl 8 := by
  refine ⟨RX8, TX8, 5, tyX8, rfl, by decide +kernel, u_gt8, tyX8_ok, nmX8, fun k hk => ?_⟩
  match k, hk with
  | 0, _ => exact Or.inr (Or.inr ⟨by decide +kernel, Or.inr ⟨_, rfl⟩⟩)
  | 1, _ => exact Or.inr (Or.inr ⟨by decide +kernel, Or.inr ⟨_, rfl⟩⟩)
  | 2, _ => exact Or.inr (Or.inr ⟨by decide +kernel, Or.inr ⟨_, rfl⟩⟩)
  | 3, _ => exact Or.inl ⟨by decide +kernel, rfl⟩
  | 4, _ => exact Or.inl ⟨by decide +kernel, rfl⟩
  | k + 5, hk => exact absurd hk (by omega)
theorem u_gt9 : ∀ w ∈ u_ws RX9 TX9 5, w ∈ gt := by
  intro w hw
  have h : (u_ws RX9 TX9 5).all (fun w => decide (w ∈ lw_tbl) && goodWord w) = true := by decide +kernel
  have h1 := List.all_eq_true.mp h w hw
  simp only [Bool.and_eq_true, decide_eq_true_eq] at h1
  exact List.mem_filter.mpr h1
theorem okCl_9 : okCl 9 := by
  refine ⟨RX9, TX9, 5, tyX9, rfl, by decide +kernel, u_gt9, tyX9_ok, nmX9, fun k hk => ?_⟩
  match k, hk with
  | 0, _ => exact Or.inr (Or.inr ⟨by decide +kernel, Or.inr ⟨_, rfl⟩⟩)
  | 1, _ => exact Or.inl ⟨by decide +kernel, rfl⟩
  | 2, _ => exact Or.inl ⟨by decide +kernel, rfl⟩
  | 3, _ => exact Or.inl ⟨by decide +kernel, rfl⟩
  | 4, _ => exact Or.inl ⟨by decide +kernel, rfl⟩
  | k + 5, hk => exact absurd hk (by omega)
theorem u_gt10 : ∀ w ∈ u_ws RX10 TX10 19, w ∈ gt := by
  intro w hw
  have h : (u_ws RX10 TX10 19).all (fun w => decide (w ∈ lw_tbl) && goodWord w) = true := by decide +kernel
  have h1 := List.all_eq_true.mp h w hw
  simp only [Bool.and_eq_true, decide_eq_true_eq] at h1
  exact List.mem_filter.mpr h1
theorem okCl_10 : okCl 10 := by
  refine ⟨RX10, TX10, 19, tyX10, rfl, by decide +kernel, u_gt10, tyX10_ok, nmX10, fun k hk => ?_⟩
  match k, hk with
  | 0, _ => exact Or.inl ⟨by decide +kernel, rfl⟩
  | 1, _ => exact Or.inl ⟨by decide +kernel, rfl⟩
  | 2, _ => exact Or.inl ⟨by decide +kernel, rfl⟩
  | 3, _ => exact Or.inr (Or.inr ⟨by decide +kernel, Or.inr ⟨_, rfl⟩⟩)
  | 4, _ => exact Or.inl ⟨by decide +kernel, rfl⟩
  | 5, _ => exact Or.inr (Or.inr ⟨by decide +kernel, Or.inr ⟨_, rfl⟩⟩)
  | 6, _ => exact Or.inr (Or.inr ⟨by decide +kernel, Or.inr ⟨_, rfl⟩⟩)
  | 7, _ => exact Or.inr (Or.inr ⟨by decide +kernel, Or.inr ⟨_, rfl⟩⟩)
  | 8, _ => exact Or.inr (Or.inr ⟨by decide +kernel, Or.inr ⟨_, rfl⟩⟩)
  | 9, _ => exact Or.inl ⟨by decide +kernel, rfl⟩
  | 10, _ => exact Or.inr (Or.inr ⟨by decide +kernel, Or.inr ⟨_, rfl⟩⟩)
  | 11, _ => exact Or.inr (Or.inr ⟨by decide +kernel, Or.inr ⟨_, rfl⟩⟩)
  | 12, _ => exact Or.inr (Or.inr ⟨by decide +kernel, Or.inr ⟨_, rfl⟩⟩)
  | 13, _ => exact Or.inr (Or.inr ⟨by decide +kernel, Or.inr ⟨_, rfl⟩⟩)
  | 14, _ => exact Or.inr (Or.inr ⟨by decide +kernel, Or.inr ⟨_, rfl⟩⟩)
  | 15, _ => exact Or.inr (Or.inr ⟨by decide +kernel, Or.inr ⟨_, rfl⟩⟩)
  | 16, _ => exact Or.inr (Or.inr ⟨by decide +kernel, Or.inr ⟨_, rfl⟩⟩)
  | 17, _ => exact Or.inr (Or.inr ⟨by decide +kernel, Or.inr ⟨_, rfl⟩⟩)
  | 18, _ => exact Or.inl ⟨by decide +kernel, rfl⟩
  | k + 19, hk => exact absurd hk (by omega)
theorem u_gt11 : ∀ w ∈ u_ws RX11 TX11 15, w ∈ gt := by
  intro w hw
  have h : (u_ws RX11 TX11 15).all (fun w => decide (w ∈ lw_tbl) && goodWord w) = true := by decide +kernel
  have h1 := List.all_eq_true.mp h w hw
  simp only [Bool.and_eq_true, decide_eq_true_eq] at h1
  exact List.mem_filter.mpr h1
theorem okCl_11 : okCl 11 := by
  refine ⟨RX11, TX11, 15, tyX11, rfl, by decide +kernel, u_gt11, tyX11_ok, nmX11, fun k hk => ?_⟩
  match k, hk with
  | 0, _ => exact Or.inr (Or.inr ⟨by decide +kernel, Or.inr ⟨_, rfl⟩⟩)
  | 1, _ => exact Or.inl ⟨by decide +kernel, rfl⟩
  | 2, _ => exact Or.inr (Or.inr ⟨by decide +kernel, Or.inl ⟨_, rfl⟩⟩)
  | 3, _ => exact Or.inr (Or.inr ⟨by decide +kernel, Or.inl ⟨_, rfl⟩⟩)
  | 4, _ => exact Or.inr (Or.inr ⟨by decide +kernel, Or.inl ⟨_, rfl⟩⟩)
  | 5, _ => exact Or.inr (Or.inr ⟨by decide +kernel, Or.inl ⟨_, rfl⟩⟩)
  | 6, _ => exact Or.inr (Or.inr ⟨by decide +kernel, Or.inl ⟨_, rfl⟩⟩)
  | 7, _ => exact Or.inr (Or.inr ⟨by decide +kernel, Or.inl ⟨_, rfl⟩⟩)
  | 8, _ => exact Or.inr (Or.inr ⟨by decide +kernel, Or.inl ⟨_, rfl⟩⟩)
  | 9, _ => exact Or.inr (Or.inr ⟨by decide +kernel, Or.inl ⟨_, rfl⟩⟩)
  | 10, _ => exact Or.inr (Or.inr ⟨by decide +kernel, Or.inl ⟨_, rfl⟩⟩)
  | 11, _ => exact Or.inr (Or.inr ⟨by decide +kernel, Or.inl ⟨_, rfl⟩⟩)
  | 12, _ => exact Or.inr (Or.inr ⟨by decide +kernel, Or.inl ⟨_, rfl⟩⟩)
  | 13, _ => exact Or.inr (Or.inr ⟨by decide +kernel, Or.inl ⟨_, rfl⟩⟩)
  | 14, _ => exact Or.inl ⟨by decide +kernel, rfl⟩
  | k + 15, hk => exact absurd hk (by omega)
theorem u_gt12 : ∀ w ∈ u_ws RX12 TX12 28, w ∈ gt := by
  intro w hw
  have h : (u_ws RX12 TX12 28).all (fun w => decide (w ∈ lw_tbl) && goodWord w) = true := by decide +kernel
  have h1 := List.all_eq_true.mp h w hw
  simp only [Bool.and_eq_true, decide_eq_true_eq] at h1
  exact List.mem_filter.mpr h1
theorem okCl_12 : okCl 12 := by
  refine ⟨RX12, TX12, 28, tyX12, rfl, by decide +kernel, u_gt12, tyX12_ok, nmX12, fun k hk => ?_⟩
  match k, hk with
  | 0, _ => exact Or.inl ⟨by decide +kernel, rfl⟩
  | 1, _ => exact Or.inl ⟨by decide +kernel, rfl⟩
  | 2, _ => exact Or.inl ⟨by decide +kernel, rfl⟩
  | 3, _ => exact Or.inl ⟨by decide +kernel, rfl⟩
  | 4, _ => exact Or.inl ⟨by decide +kernel, rfl⟩
  | 5, _ => exact Or.inl ⟨by decide +kernel, rfl⟩
  | 6, _ => exact Or.inl ⟨by decide +kernel, rfl⟩
  | 7, _ => exact Or.inl ⟨by decide +kernel, rfl⟩
  | 8, _ => exact Or.inl ⟨by decide +kernel, rfl⟩
  | 9, _ => exact Or.inl ⟨by decide +kernel, rfl⟩
  | 10, _ => exact Or.inl ⟨by decide +kernel, rfl⟩
  | 11, _ => exact Or.inl ⟨by decide +kernel, rfl⟩
  | 12, _ => exact Or.inl ⟨by decide +kernel, rfl⟩
  | 13, _ => exact Or.inl ⟨by decide +kernel, rfl⟩
  | 14, _ => exact Or.inr (Or.inr ⟨by decide +kernel, Or.inr ⟨_, rfl⟩⟩)
  | 15, _ => exact Or.inr (Or.inr ⟨by decide +kernel, Or.inr ⟨_, rfl⟩⟩)
  | 16, _ => exact Or.inr (Or.inr ⟨by decide +kernel, Or.inr ⟨_, rfl⟩⟩)
  | 17, _ => exact Or.inr (Or.inr ⟨by decide +kernel, Or.inr ⟨_, rfl⟩⟩)
  | 18, _ => exact Or.inr (Or.inr ⟨by decide +kernel, Or.inr ⟨_, rfl⟩⟩)
  | 19, _ => exact Or.inr (Or.inr ⟨by decide +kernel, Or.inr ⟨_, rfl⟩⟩)
  | 20, _ => exact Or.inr (Or.inr ⟨by decide +kernel, Or.inr ⟨_, rfl⟩⟩)
  | 21, _ => exact Or.inr (Or.inr ⟨by decide +kernel, Or.inr ⟨_, rfl⟩⟩)
  | 22, _ => exact Or.inr (Or.inr ⟨by decide +kernel, Or.inr ⟨_, rfl⟩⟩)
  | 23, _ => exact Or.inr (Or.inr ⟨by decide +kernel, Or.inr ⟨_, rfl⟩⟩)
  | 24, _ => exact Or.inr (Or.inr ⟨by decide +kernel, Or.inr ⟨_, rfl⟩⟩)
  | 25, _ => exact Or.inr (Or.inr ⟨by decide +kernel, Or.inr ⟨_, rfl⟩⟩)
  | 26, _ => exact Or.inr (Or.inr ⟨by decide +kernel, Or.inr ⟨_, rfl⟩⟩)
  | 27, _ => exact Or.inr (Or.inr ⟨by decide +kernel, Or.inr ⟨_, rfl⟩⟩)
  | k + 28, hk => exact absurd hk (by omega)
theorem u_gt13 : ∀ w ∈ u_ws RX13 TX13 38, w ∈ gt := by
  intro w hw
  have h : (u_ws RX13 TX13 38).all (fun w => decide (w ∈ lw_tbl) && goodWord w) = true := by decide +kernel
  have h1 := List.all_eq_true.mp h w hw
  simp only [Bool.and_eq_true, decide_eq_true_eq] at h1
  exact List.mem_filter.mpr h1
theorem okCl_13 : okCl 13 := by
  refine ⟨RX13, TX13, 38, tyX13, rfl, by decide +kernel, u_gt13, tyX13_ok, nmX13, fun k hk => ?_⟩
  match k, hk with
  | 0, _ => exact Or.inl ⟨by decide +kernel, rfl⟩
  | 1, _ => exact Or.inl ⟨by decide +kernel, rfl⟩
  | 2, _ => exact Or.inl ⟨by decide +kernel, rfl⟩
  | 3, _ => exact Or.inr (Or.inr ⟨by decide +kernel, Or.inl ⟨_, rfl⟩⟩)
  | 4, _ => exact Or.inr (Or.inr ⟨by decide +kernel, Or.inl ⟨_, rfl⟩⟩)
  | 5, _ => exact Or.inr (Or.inr ⟨by decide +kernel, Or.inr ⟨_, rfl⟩⟩)
  | 6, _ => exact Or.inl ⟨by decide +kernel, rfl⟩
  | 7, _ => exact Or.inl ⟨by decide +kernel, rfl⟩
  | 8, _ => exact Or.inl ⟨by decide +kernel, rfl⟩
  | 9, _ => exact Or.inl ⟨by decide +kernel, rfl⟩
  | 10, _ => exact Or.inl ⟨by decide +kernel, rfl⟩
  | 11, _ => exact Or.inl ⟨by decide +kernel, rfl⟩
  | 12, _ => exact Or.inl ⟨by decide +kernel, rfl⟩
  | 13, _ => exact Or.inl ⟨by decide +kernel, rfl⟩
  | 14, _ => exact Or.inr (Or.inl ⟨by decide +kernel, rfl⟩)
  | 15, _ => exact Or.inl ⟨by decide +kernel, rfl⟩
  | 16, _ => exact Or.inr (Or.inr ⟨by decide +kernel, Or.inr ⟨_, rfl⟩⟩)
  | 17, _ => exact Or.inr (Or.inr ⟨by decide +kernel, Or.inr ⟨_, rfl⟩⟩)
  | 18, _ => exact Or.inr (Or.inr ⟨by decide +kernel, Or.inr ⟨_, rfl⟩⟩)
  | 19, _ => exact Or.inr (Or.inr ⟨by decide +kernel, Or.inr ⟨_, rfl⟩⟩)
  | 20, _ => exact Or.inl ⟨by decide +kernel, rfl⟩
  | 21, _ => exact Or.inl ⟨by decide +kernel, rfl⟩
  | 22, _ => exact Or.inr (Or.inr ⟨by decide +kernel, Or.inr ⟨_, rfl⟩⟩)
  | 23, _ => exact Or.inr (Or.inr ⟨by decide +kernel, Or.inr ⟨_, rfl⟩⟩)
  | 24, _ => exact Or.inr (Or.inr ⟨by decide +kernel, Or.inr ⟨_, rfl⟩⟩)
  | 25, _ => exact Or.inl ⟨by decide +kernel, rfl⟩
  | 26, _ => exact Or.inl ⟨by decide +kernel, rfl⟩
  | 27, _ => exact Or.inr (Or.inr ⟨by decide +kernel, Or.inr ⟨_, rfl⟩⟩)
  | 28, _ => exact Or.inr (Or.inr ⟨by decide +kernel, Or.inr ⟨_, rfl⟩⟩)
  | 29, _ => exact Or.inr (Or.inr ⟨by decide +kernel, Or.inr ⟨_, rfl⟩⟩)
  | 30, _ => exact Or.inr (Or.inr ⟨by decide +kernel, Or.inr ⟨_, rfl⟩⟩)
  | 31, _ => exact Or.inl ⟨by decide +kernel, rfl⟩
  | 32, _ => exact Or.inl ⟨by decide +kernel, rfl⟩
  | 33, _ => exact Or.inl ⟨by decide +kernel, rfl⟩
  | 34, _ => exact Or.inr (Or.inr ⟨by decide +kernel, Or.inr ⟨_, rfl⟩⟩)
  | 35, _ => exact Or.inr (Or.inr ⟨by decide +kernel, Or.inr ⟨_, rfl⟩⟩)
  | 36, _ => exact Or.inr (Or.inl ⟨by decide +kernel, rfl⟩)
  | 37, _ => exact Or.inl ⟨by decide +kernel, rfl⟩
  | k + 38, hk => exact absurd hk (by omega)
theorem okCl_all : ∀ ci, ci < 14 → okCl ci := by
  intro ci hci
  match ci, hci with
  | 0, _ => exact okCl_0
  | 1, _ => exact okCl_1
  | 2, _ => exact okCl_2
  | 3, _ => exact okCl_3
  | 4, _ => exact okCl_4
  | 5, _ => exact okCl_5
  | 6, _ => exact okCl_6
  | 7, _ => exact okCl_7
  | 8, _ => exact okCl_8
  | 9, _ => exact okCl_9
  | 10, _ => exact okCl_10
  | 11, _ => exact okCl_11
  | 12, _ => exact okCl_12
  | 13, _ => exact okCl_13
  | k + 14, h => exact absurd h (by omega)
theorem gm_min_s : Cond.static Lib.Math.min.name ∈ gt := gt_at 654 (by decide +kernel) (by decide +kernel)
theorem gm_max_s : Cond.static Lib.Math.max.name ∈ gt := gt_at 764 (by decide +kernel) (by decide +kernel)
theorem gm_ini : Cond.initialized "java/lang/Math" ∈ gt := gt_at 147 (by decide +kernel) (by decide +kernel)
theorem gm_sys : Cond.initialized "java/lang/System" ∈ gt := gt_at 149 (by decide +kernel) (by decide +kernel)
theorem gm_nat : Cond.native arraycopyName ∈ gt := gt_at 817 (by decide +kernel) (by decide +kernel)
theorem gm_cs : Cond.static arraycopyName ∈ gt := gt_at 816 (by decide +kernel) (by decide +kernel)
theorem gm_oi : Cond.instanceMethod Lib.objectInit ∈ gt := gt_at 161 (by decide +kernel) (by decide +kernel)
theorem gm_min_c : Cond.code Lib.Math.min.name Lib.Math.min.code 2 (some .int) ∈ gt := gt_at 655 (by decide +kernel) (by decide +kernel)
theorem gm_max_c : Cond.code Lib.Math.max.name Lib.Math.max.code 2 (some .int) ∈ gt := gt_at 765 (by decide +kernel) (by decide +kernel)
theorem gm_oi_c : Cond.code Lib.objectInit ⟨#[0xb1]⟩ 1 none ∈ gt := gt_at 162 (by decide +kernel) (by decide +kernel)
