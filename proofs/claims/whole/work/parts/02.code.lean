/-! part 02: method table, links, blocks (by program: wip/whole/gen.py) -/
def tm_cn : Nat → String := fun k => match k with
  | 0 => RX0
  | 1 => RX1
  | 2 => RX2
  | 3 => RX3
  | 4 => RX4
  | 5 => RX5
  | 6 => RX6
  | 7 => RX7
  | 8 => RX8
  | 9 => RX9
  | 10 => RX10
  | 11 => RX11
  | 12 => RX12
  | 13 => RL
  | 14 => RJ6
  | 15 => RJ9
  | 16 => RJ10
  | _ => RJ7
/-- name, code, locals, answer, class, parameters, static, words of the locals that no argument fills -/
abbrev tm_R : Type := MethodName × ByteArray × Nat × Option FieldType × Nat × Nat × Bool × Nat
def tm_mt0 : List tm_R := [(yX0_init, cX0_init, 1, none, 0, 0, false, 0),
  (yX0_begin, cX0_begin, 2, none, 0, 1, false, 0),
  (yX0_ranAt, cX0_ranAt, 2, none, 0, 1, false, 0),
  (yX1_init, cX1_init, 1, none, 1, 0, false, 0),
  (yX1_add, cX1_add, 5, (some .int), 1, 4, false, 0),
  (yX1_latestStep, cX1_latestStep, 4, (some .int), 1, 2, false, 1),
  (yX1_isMissed, cX1_isMissed, 4, (some .boolean), 1, 2, false, 1),
  (yX1_carrierOf, cX1_carrierOf, 6, (some .int), 1, 2, false, 3),
  (yX1_takeAll, cX1_takeAll, 2, none, 1, 1, false, 0),
  (yX2_init, cX2_init, 2, none, 2, 1, false, 0),
  (yX2_nextHeard, cX2_nextHeard, 4, (some .int), 2, 2, false, 1),
  (yX2_findGap, cX2_findGap, 4, (some .boolean), 2, 2, false, 1),
  (yX2_gapOnFoot, cX2_gapOnFoot, 1, (some .boolean), 2, 0, false, 0),
  (yX2_gapByWays, cX2_gapByWays, 2, (some .boolean), 2, 1, false, 0),
  (yX2_together, cX2_together, 8, (some .boolean), 2, 3, false, 4),
  (yX2_passed, cX2_passed, 3, (some .boolean), 2, 2, false, 0),
  (yX2_oddness, cX2_oddness, 6, (some .int), 2, 1, false, 4),
  (yX2_minutesBetween, cX2_minutesBetween, 6, (some .int), 2, 3, false, 2),
  (yX2_deafMats, cX2_deafMats, 4, (some .int), 2, 1, false, 2),
  (yX2_companions, cX2_companions, 4, (some .int), 2, 1, false, 2),
  (yX2_hasPlace, cX2_hasPlace, 3, (some .boolean), 2, 2, false, 0),
  (yX2_placeOf, cX2_placeOf, 5, (some .int), 2, 2, false, 2),
  (yX2_minutesInAll, cX2_minutesInAll, 2, (some .int), 2, 1, false, 0),
  (yX3_init, cX3_init, 2, none, 3, 1, false, 0),
  (yX3_minuteOf, cX3_minuteOf, 3, (some .int), 3, 2, false, 0),
  (yX3_paceOf, cX3_paceOf, 9, (some .int), 3, 5, false, 3),
  (yX3_follow, cX3_follow, 4, none, 3, 1, false, 2),
  (yX3_goAsTold, cX3_goAsTold, 4, none, 3, 3, false, 0),
  (yX3_runUpTo, cX3_runUpTo, 7, none, 3, 4, false, 2),
  (yX3_listen, cX3_listen, 5, none, 3, 1, false, 3),
  (yX3_matHears, cX3_matHears, 2, (some .boolean), 3, 1, false, 0),
  (yX3_countRows, cX3_countRows, 5, (some .int), 3, 4, false, 0),
  (yX3_rowsFrom, cX3_rowsFrom, 10, (some .int), 3, 4, false, 5),
  (yX3_knownPace, cX3_knownPace, 5, (some .int), 3, 3, false, 1),
  (yX4_init, cX4_init, 2, none, 4, 1, false, 0),
  (yX4_read, cX4_read, 2, none, 4, 1, false, 0),
  (yX4_sign, cX4_sign, 1, (some .int), 4, 0, false, 0),
  (yX4_failHere, cX4_failHere, 1, none, 4, 0, false, 0),
  (yX4_emit, cX4_emit, 2, none, 4, 1, false, 0),
  (yX4_levelOf, cX4_levelOf, 1, (some .int), 4, 1, true, 0),
  (yX4_readJoined, cX4_readJoined, 7, none, 4, 2, false, 4),
  (yX4_readSingle, cX4_readSingle, 3, none, 4, 1, false, 1),
  (yX4_close, cX4_close, 1, none, 4, 0, false, 0),
  (yX4_readNumber, cX4_readNumber, 3, none, 4, 0, false, 2),
  (yX5_init, cX5_init, 1, none, 5, 0, false, 0),
  (yX5_lay, cX5_lay, 2, none, 5, 1, false, 0),
  (yX5_hasMat, cX5_hasMat, 2, (some .boolean), 5, 1, false, 0),
  (yX5_addWay, cX5_addWay, 5, (some .int), 5, 4, false, 0),
  (yX5_leads, cX5_leads, 4, (some .boolean), 5, 3, false, 0),
  (yX5_arrival, cX5_arrival, 3, (some .int), 5, 2, false, 0)]
def tm_mt1 : List tm_R := [(yX5_leaving, cX5_leaving, 5, (some .int), 5, 2, false, 2),
  (yX5_reach, cX5_reach, 7, none, 5, 3, false, 3),
  (yX5_goOnByWays, cX5_goOnByWays, 5, none, 5, 3, false, 1),
  (yX5_arrive, cX5_arrive, 5, none, 5, 3, false, 1),
  (yX5_soonest, cX5_soonest, 5, (some .int), 5, 2, false, 2),
  (yX5_waysFor, cX5_waysFor, 4, (some .int), 5, 2, false, 1),
  (yX5_fewestMats, cX5_fewestMats, 4, (some .int), 5, 0, false, 3),
  (yX5_openEnd, cX5_openEnd, 4, (some .int), 5, 1, false, 2),
  (yX5_bestNext, cX5_bestNext, 5, (some .int), 5, 2, false, 2),
  (yX5_takeAll, cX5_takeAll, 2, none, 5, 1, false, 0),
  (yX6_init, cX6_init, 1, none, 6, 0, false, 0),
  (yX6_add, cX6_add, 3, (some .int), 6, 2, false, 0),
  (yX6_enter, cX6_enter, 6, (some .int), 6, 4, false, 1),
  (yX6_allEntries, cX6_allEntries, 3, (some .int), 6, 0, false, 2),
  (yX6_clashesOf, cX6_clashesOf, 4, (some .int), 6, 1, false, 2),
  (yX6_mostWithoutClash, cX6_mostWithoutClash, 4, (some .int), 6, 1, false, 2),
  (yX6_isClashFree, cX6_isClashFree, 4, (some .boolean), 6, 2, false, 1),
  (yX6_findRivals, cX6_findRivals, 4, none, 6, 1, false, 2),
  (yX6_clash, cX6_clash, 4, (some .boolean), 6, 2, false, 1),
  (yX6_takeAll, cX6_takeAll, 2, none, 6, 1, false, 0),
  (yX7_init, cX7_init, 1, none, 7, 0, false, 0),
  (yX7_begin, cX7_begin, 3, none, 7, 2, false, 0),
  (yX7_set, cX7_set, 3, none, 7, 2, false, 0),
  (yX7_holds, cX7_holds, 3, (some .boolean), 7, 2, false, 0),
  (yX7_breakPlace, cX7_breakPlace, 3, (some .int), 7, 0, false, 2),
  (yX7_brokenSum, cX7_brokenSum, 2, (some .long), 7, 1, false, 0),
  (yX7_spread, cX7_spread, 7, (some .long), 7, 2, false, 4),
  (yX7_sortPart, cX7_sortPart, 6, none, 7, 2, false, 3),
  (yX8_init, cX8_init, 1, none, 8, 0, false, 0),
  (yX8_takeCode, cX8_takeCode, 3, none, 8, 2, false, 0),
  (yX8_value, cX8_value, 5, (some .int), 8, 1, false, 3),
  (yX8_join, cX8_join, 3, (some .int), 8, 3, true, 0),
  (yX9_init, cX9_init, 1, none, 9, 0, false, 0),
  (yX9_speak, cX9_speak, 5, (some .int), 9, 4, false, 0),
  (yX9_call, cX9_call, 7, (some .int), 9, 4, false, 2),
  (yX9_sayGoing, cX9_sayGoing, 4, (some .int), 9, 3, false, 0),
  (yX9_sayUnder, cX9_sayUnder, 5, (some .int), 9, 4, false, 0),
  (yX10_init, cX10_init, 1, none, 10, 0, false, 0),
  (yX10_layRoad, cX10_layRoad, 2, none, 10, 1, false, 0),
  (yX10_forgetRace, cX10_forgetRace, 1, none, 10, 0, false, 0),
  (yX10_minuteAt, cX10_minuteAt, 3, (some .int), 10, 2, false, 0),
  (yX10_isOff, cX10_isOff, 2, (some .boolean), 10, 1, false, 0),
  (yX10_drawNext, cX10_drawNext, 1, (some .int), 10, 0, false, 0),
  (yX10_addBytes, cX10_addBytes, 5, none, 10, 2, false, 1),
  (yX10_takeAll, cX10_takeAll, 3, none, 10, 1, false, 1),
  (yX11_init, cX11_init, 1, none, 11, 0, false, 0),
  (yX11_road, cX11_road, 2, (some .int), 11, 1, false, 0),
  (yX11_climb, cX11_climb, 4, (some .int), 11, 2, false, 1),
  (yX11_heat, cX11_heat, 3, (some .int), 11, 1, false, 1),
  (yX11_mat, cX11_mat, 3, (some .int), 11, 2, false, 0)]
def tm_mt2 : List tm_R := [(yX11_deaf, cX11_deaf, 4, (some .int), 11, 2, false, 1),
  (yX11_way, cX11_way, 6, (some .int), 11, 4, false, 1),
  (yX11_earliest, cX11_earliest, 7, (some .int), 11, 5, false, 1),
  (yX11_fewest, cX11_fewest, 3, (some .int), 11, 1, false, 1),
  (yX11_runner, cX11_runner, 3, (some .int), 11, 2, false, 0),
  (yX11_going, cX11_going, 5, (some .int), 11, 4, false, 0),
  (yX11_forget, cX11_forget, 3, (some .int), 11, 1, false, 1),
  (yX11_as, cX11_as, 3, (some .int), 11, 2, false, 0),
  (yX11_goingIs, cX11_goingIs, 3, (some .int), 11, 2, false, 0),
  (yX11_draw, cX11_draw, 3, (some .int), 11, 1, false, 1),
  (yX11_race, cX11_race, 3, (some .int), 11, 0, false, 2),
  (yX11_would, cX11_would, 3, (some .int), 11, 2, false, 0),
  (yX11_heard, cX11_heard, 3, (some .int), 11, 2, false, 0),
  (yX11_off, cX11_off, 2, (some .int), 11, 1, false, 0),
  (yX11_pace, cX11_pace, 7, (some .int), 11, 5, false, 1),
  (yX11_odds, cX11_odds, 6, (some .int), 11, 4, false, 1),
  (yX11_feed, cX11_feed, 4, (some .int), 11, 2, false, 0),
  (yX11_text, cX11_text, 2, (some .int), 11, 1, false, 0),
  (yX11_least, cX11_least, 3, (some .int), 11, 1, false, 1),
  (yX11_gap, cX11_gap, 4, (some .int), 11, 3, false, 0),
  (yX11_company, cX11_company, 7, (some .int), 11, 2, false, 4),
  (yX11_misses, cX11_misses, 6, (some .int), 11, 2, false, 3),
  (yX11_parts, cX11_parts, 5, (some .long), 11, 2, false, 2),
  (yX11_odd, cX11_odd, 2, (some .int), 11, 1, false, 0),
  (yX11_judge, cX11_judge, 6, (some .int), 11, 1, false, 4),
  (yX11_place, cX11_place, 3, (some .int), 11, 2, false, 0),
  (yX11_up, cX11_up, 4, (some .int), 11, 1, false, 2),
  (yX11_entry, cX11_entry, 6, (some .int), 11, 4, false, 1),
  (yX11_same, cX11_same, 3, (some .int), 11, 2, false, 0),
  (yX11_voice, cX11_voice, 4, (some .int), 11, 3, false, 0),
  (yX11_trace, cX11_trace, 2, (some .int), 11, 1, false, 0),
  (yX11_sheet, cX11_sheet, 4, (some .int), 11, 3, false, 0),
  (yX11_put, cX11_put, 4, (some .int), 11, 3, false, 0),
  (yX11_move, cX11_move, 6, (some .int), 11, 5, false, 0),
  (yX11_write, cX11_write, 6, (some .int), 11, 2, false, 3),
  (yX11_image, cX11_image, 1, (some .int), 11, 0, false, 0),
  (yX11_restore, cX11_restore, 1, (some .int), 11, 0, false, 0),
  (yX11_told, cX11_told, 2, (some .int), 11, 1, false, 0),
  (yX11_found, cX11_found, 2, (some .int), 11, 1, false, 0),
  (yX11_finding, cX11_finding, 2, (some .int), 11, 1, false, 0),
  (yX11_within, cX11_within, 3, (some .boolean), 11, 3, true, 0),
  (yX11_isPiece, cX11_isPiece, 2, (some .boolean), 11, 1, false, 0),
  (yX11_isMark, cX11_isMark, 2, (some .boolean), 11, 1, false, 0),
  (yX11_isBetween, cX11_isBetween, 2, (some .boolean), 11, 1, false, 0),
  (yX11_areMarks, cX11_areMarks, 3, (some .boolean), 11, 2, false, 0),
  (yX11_isRunner, cX11_isRunner, 2, (some .boolean), 11, 1, false, 0),
  (yX11_isGoing, cX11_isGoing, 2, (some .boolean), 11, 1, false, 0),
  (yX11_isSheet, cX11_isSheet, 2, (some .boolean), 11, 1, false, 0),
  (yX11_isSet, cX11_isSet, 2, (some .boolean), 11, 1, false, 0),
  (yX11_endsFit, cX11_endsFit, 4, (some .boolean), 11, 2, false, 1)]
def tm_mt3 : List tm_R := [(yX11_numberFits, cX11_numberFits, 3, (some .boolean), 11, 2, false, 0),
  (yX11_isUnder, cX11_isUnder, 4, (some .boolean), 11, 2, true, 2),
  (yX11_copy, cX11_copy, 2, none, 11, 2, true, 0),
  (yX12_init, cX12_init, 1, none, 12, 0, false, 0),
  (yX12_finding, cX12_finding, 2, (some .int), 12, 1, false, 0),
  (yX12_in, cX12_in, 3, (some .boolean), 12, 3, true, 0),
  (yX12_begins, cX12_begins, 3, none, 12, 1, false, 1),
  (yX12_isMark, cX12_isMark, 2, (some .boolean), 12, 1, false, 0),
  (yX12_isRunner, cX12_isRunner, 2, (some .boolean), 12, 1, false, 0),
  (yX12_isWay, cX12_isWay, 2, (some .boolean), 12, 1, false, 0),
  (yX12_isGoing, cX12_isGoing, 2, (some .boolean), 12, 1, false, 0),
  (yX12_wa, cX12_wa, 3, (some .int), 12, 2, false, 0),
  (yX12_go, cX12_go, 3, (some .int), 12, 2, false, 0),
  (yX12_strength, cX12_strength, 2, (some .int), 12, 1, false, 0),
  (yX12_heardAt, cX12_heardAt, 3, (some .int), 12, 2, false, 0),
  (yX12_becomes, cX12_becomes, 4, (some .int), 12, 2, false, 1),
  (yX12_byteAt, cX12_byteAt, 1, (some .int), 12, 0, false, 0),
  (yX12_eats, cX12_eats, 3, (some .boolean), 12, 1, false, 1),
  (yX12_either, cX12_either, 3, (some .int), 12, 0, false, 2),
  (yX12_both, cX12_both, 3, (some .int), 12, 0, false, 2),
  (yX12_relation, cX12_relation, 4, (some .int), 12, 0, false, 3),
  (yX12_added, cX12_added, 4, (some .int), 12, 0, false, 3),
  (yX12_term, cX12_term, 4, (some .int), 12, 0, false, 3),
  (yX12_single, cX12_single, 4, (some .int), 12, 0, false, 3),
  (yX12_reads, cX12_reads, 4, (some .int), 12, 2, false, 1),
  (yX12_tells, cX12_tells, 2, (some .int), 12, 1, false, 0),
  (yX12_paceOf, cX12_paceOf, 8, (some .int), 12, 5, false, 2),
  (yX12_road, cX12_road, 2, (some .int), 12, 1, false, 0),
  (yX12_climb, cX12_climb, 3, (some .int), 12, 2, false, 0),
  (yX12_heat, cX12_heat, 2, (some .int), 12, 1, false, 0),
  (yX12_mat, cX12_mat, 3, (some .int), 12, 2, false, 0),
  (yX12_deaf, cX12_deaf, 3, (some .int), 12, 2, false, 0),
  (yX12_way, cX12_way, 7, (some .int), 12, 4, false, 2),
  (yX12_leaves, cX12_leaves, 4, (some .int), 12, 2, false, 1),
  (yX12_findThere, cX12_findThere, 12, none, 12, 4, false, 7),
  (yX12_earliest, cX12_earliest, 8, (some .int), 12, 5, false, 2),
  (yX12_needed, cX12_needed, 11, (some .int), 12, 2, false, 8),
  (yX12_fewest, cX12_fewest, 7, (some .int), 12, 1, false, 5),
  (yX12_runner, cX12_runner, 4, (some .int), 12, 2, false, 1),
  (yX12_isNumber, cX12_isNumber, 3, (some .boolean), 12, 2, false, 0),
  (yX12_looksAtEnd, cX12_looksAtEnd, 1, (some .boolean), 12, 1, true, 0),
  (yX12_going, cX12_going, 9, (some .int), 12, 4, false, 4),
  (yX12_forget, cX12_forget, 3, (some .int), 12, 1, false, 1),
  (yX12_above, cX12_above, 1, (some .int), 12, 1, true, 0),
  (yX12_as, cX12_as, 4, (some .int), 12, 2, false, 1),
  (yX12_goingIs, cX12_goingIs, 3, (some .int), 12, 2, false, 0),
  (yX12_draw, cX12_draw, 2, (some .int), 12, 1, false, 0),
  (yX12_piece, cX12_piece, 3, (some .int), 12, 1, false, 1),
  (yX12_goingAt, cX12_goingAt, 6, (some .int), 12, 2, false, 3),
  (yX12_runs, cX12_runs, 12, none, 12, 1, false, 10)]
def tm_mt4 : List tm_R := [(yX12_carrier, cX12_carrier, 6, (some .int), 12, 2, false, 3),
  (yX12_isMissed, cX12_isMissed, 5, (some .boolean), 12, 2, false, 2),
  (yX12_hears, cX12_hears, 6, none, 12, 1, false, 4),
  (yX12_race, cX12_race, 3, (some .int), 12, 0, false, 2),
  (yX12_would, cX12_would, 3, (some .int), 12, 2, false, 0),
  (yX12_heard, cX12_heard, 3, (some .int), 12, 2, false, 0),
  (yX12_off, cX12_off, 2, (some .int), 12, 1, false, 0),
  (yX12_pace, cX12_pace, 6, (some .int), 12, 5, false, 0),
  (yX12_rowsFrom, cX12_rowsFrom, 15, (some .long), 12, 7, false, 7),
  (yX12_odds, cX12_odds, 5, (some .int), 12, 4, false, 0),
  (yX12_feed, cX12_feed, 5, (some .int), 12, 2, false, 1),
  (yX12_text, cX12_text, 5, (some .int), 12, 1, false, 3),
  (yX12_least, cX12_least, 2, (some .int), 12, 1, false, 0),
  (yX12_findGap, cX12_findGap, 5, (some .boolean), 12, 2, false, 2),
  (yX12_mayRide, cX12_mayRide, 7, (some .boolean), 12, 4, false, 2),
  (yX12_gap, cX12_gap, 5, (some .int), 12, 3, false, 1),
  (yX12_areTogether, cX12_areTogether, 8, (some .boolean), 12, 3, false, 4),
  (yX12_company, cX12_company, 7, (some .int), 12, 2, false, 4),
  (yX12_isHeardIn, cX12_isHeardIn, 6, (some .boolean), 12, 3, false, 2),
  (yX12_misses, cX12_misses, 6, (some .int), 12, 2, false, 3),
  (yX12_offMiddle, cX12_offMiddle, 10, (some .long), 12, 3, false, 6),
  (yX12_parts, cX12_parts, 10, (some .long), 12, 2, false, 7),
  (yX12_between, cX12_between, 4, (some .int), 12, 3, false, 0),
  (yX12_oddOf, cX12_oddOf, 8, (some .int), 12, 1, false, 6),
  (yX12_odd, cX12_odd, 2, (some .int), 12, 1, false, 0),
  (yX12_judge, cX12_judge, 7, (some .int), 12, 1, false, 5),
  (yX12_isSet, cX12_isSet, 2, (some .boolean), 12, 1, false, 0),
  (yX12_took, cX12_took, 2, (some .int), 12, 1, false, 0),
  (yX12_placeOf, cX12_placeOf, 5, (some .int), 12, 2, false, 2),
  (yX12_place, cX12_place, 4, (some .int), 12, 2, false, 1),
  (yX12_up, cX12_up, 4, (some .int), 12, 1, false, 2),
  (yX12_entry, cX12_entry, 7, (some .int), 12, 4, false, 2),
  (yX12_clash, cX12_clash, 7, (some .boolean), 12, 3, false, 3),
  (yX12_same, cX12_same, 11, (some .int), 12, 2, false, 8),
  (yX12_ran, cX12_ran, 2, none, 12, 1, false, 0),
  (yX12_goingGo, cX12_goingGo, 2, (some .int), 12, 1, false, 0),
  (yX12_goIt, cX12_goIt, 2, (some .int), 12, 1, false, 0),
  (yX12_goingWeigh, cX12_goingWeigh, 2, (some .int), 12, 1, false, 0),
  (yX12_runWeigh, cX12_runWeigh, 2, (some .int), 12, 1, false, 0),
  (yX12_weighIt, cX12_weighIt, 3, (some .int), 12, 1, false, 1),
  (yX12_goingShow, cX12_goingShow, 2, (some .int), 12, 1, false, 0),
  (yX12_showIt, cX12_showIt, 3, (some .int), 12, 1, false, 1),
  (yX12_goingTell, cX12_goingTell, 3, (some .int), 12, 1, false, 1),
  (yX12_tellIt, cX12_tellIt, 3, (some .int), 12, 1, false, 1),
  (yX12_voice, cX12_voice, 4, (some .int), 12, 3, false, 0),
  (yX12_trace, cX12_trace, 2, (some .int), 12, 1, false, 0),
  (yX12_sheet, cX12_sheet, 5, (some .int), 12, 3, false, 1),
  (yX12_put, cX12_put, 4, (some .int), 12, 3, false, 0),
  (yX12_has, cX12_has, 4, (some .boolean), 12, 3, false, 0),
  (yX12_move, cX12_move, 7, (some .int), 12, 5, false, 1)]
def tm_mt5 : List tm_R := [(yX12_narrowed, cX12_narrowed, 3, (some .int), 12, 2, false, 0),
  (yX12_write, cX12_write, 5, (some .int), 12, 2, false, 2),
  (yX12_image, cX12_image, 2, (some .int), 12, 0, false, 1),
  (yX12_restore, cX12_restore, 2, (some .int), 12, 0, false, 1),
  (yX12_told, cX12_told, 4, (some .int), 12, 1, false, 2),
  (yX12_found, cX12_found, 2, (some .int), 12, 1, false, 0),
  (yJ6_bitCount_0f7a4, cJ6_bitCount_0f7a4, 1, (some .int), 14, 1, true, 0),
  (yJ7_fill_53178, cJ7_fill_53178, 4, none, 17, 2, true, 2),
  (yX2_gapPace, cX2_gapPace, 2, (some .int), 2, 0, false, 1),
  (yL_law, cL_law, 4, (some .boolean), 13, 1, true, 3)]
def tm_mt : List tm_R := tm_mt0 ++ (tm_mt1 ++ (tm_mt2 ++ (tm_mt3 ++ (tm_mt4 ++ (tm_mt5)))))
def tm_FL : Nat → List (Nat × Nat × Nat) := fun k => match k with
  | 0 => [(7, 0, 359), (13, 1, 361), (16, 2, 363), (19, 3, 365)]
  | 1 => [(27, 100, 238), (9, 101, 241), (15, 102, 245), (18, 103, 248), (21, 104, 251), (24, 105, 254)]
  | 2 => [(25, 500, 142), (99, 600, 202), (86, 601, 205), (71, 801, 282), (19, 1000, 293), (82, 1001, 298), (63, 1003, 305), (47, 1010, 321), (38, 200, 423), (41, 201, 425), (44, 202, 427), (15, 203, 429), (9, 204, 430)]
  | 3 => [(101, 500, 143), (56, 501, 145), (45, 504, 153), (180, 505, 157), (133, 507, 160), (79, 601, 204), (95, 602, 208), (117, 101, 243), (120, 104, 252), (123, 105, 255), (50, 801, 280), (41, 1000, 294), (75, 1001, 297), (104, 1002, 301), (35, 1003, 304), (175, 1006, 312), (158, 1007, 314), (136, 0, 360), (139, 1, 362), (142, 2, 364), (145, 3, 366), (88, 300, 376), (31, 301, 378), (9, 302, 379), (18, 303, 380), (22, 304, 381), (25, 305, 382), (72, 306, 383), (92, 307, 384), (98, 308, 385), (28, 309, 386), (183, 310, 387), (186, 311, 388), (189, 312, 389)]
  | 4 => [(9, 400, 448), (32, 401, 450), (35, 402, 452), (15, 403, 454), (25, 404, 455), (29, 405, 456)]
  | 5 => [(43, 500, 141), (86, 501, 147), (47, 502, 148), (50, 503, 150), (9, 504, 152), (15, 505, 155), (18, 506, 158), (21, 507, 159), (24, 508, 161), (27, 509, 162), (30, 510, 163), (33, 511, 164), (36, 512, 165)]
  | 6 => [(33, 600, 200), (9, 601, 203), (15, 602, 207), (18, 603, 209), (21, 604, 211), (24, 605, 212), (27, 606, 213), (30, 607, 214)]
  | 7 => [(18, 700, 501), (22, 701, 503), (9, 702, 505), (15, 703, 507)]
  | 8 => [(9, 800, 277), (22, 801, 279), (15, 802, 283)]
  | 9 => [(19, 101, 242), (27, 102, 246), (33, 103, 249), (9, 900, 476), (15, 901, 478), (24, 902, 480), (30, 903, 481), (36, 904, 482)]
  | 10 => [(64, 100, 239), (87, 800, 278), (90, 801, 281), (12, 1000, 292), (21, 1001, 296), (28, 1002, 300), (35, 1003, 303), (39, 1004, 308), (74, 1005, 309), (43, 1006, 311), (70, 1007, 313), (106, 1008, 316), (47, 1009, 318), (51, 1010, 320)]
  | 11 => [(216, 500, 144), (91, 501, 146), (101, 502, 149), (114, 503, 151), (86, 504, 154), (107, 505, 156), (146, 600, 201), (231, 601, 206), (336, 603, 210), (171, 100, 240), (179, 101, 244), (188, 102, 247), (190, 103, 250), (193, 104, 253), (185, 105, 256), (82, 1000, 295), (142, 1001, 299), (167, 1002, 302), (260, 1003, 306), (37, 1004, 307), (247, 1005, 310), (210, 1007, 315), (222, 1008, 317), (197, 1009, 319), (276, 1010, 322), (206, 300, 377), (282, 200, 424), (285, 201, 426), (288, 202, 428), (264, 400, 449), (267, 401, 451), (257, 402, 453), (353, 900, 477), (352, 901, 479), (307, 700, 502), (310, 701, 504), (366, 702, 506), (12, 1100, 517), (16, 1101, 518), (24, 1102, 519), (31, 1103, 520), (44, 1104, 521), (51, 1105, 522), (58, 1106, 523), (62, 1107, 524), (379, 1108, 525)]
  | 12 => [(7, 1200, 1176), (13, 1201, 1177), (298, 1202, 1178), (301, 1203, 1179), (16, 1204, 1180), (73, 1205, 1181), (70, 1206, 1182), (66, 1207, 1183), (99, 1208, 1184), (62, 1209, 1185), (19, 1210, 1186), (22, 1211, 1187), (25, 1212, 1188), (28, 1213, 1189), (31, 1214, 1190), (159, 1215, 1191), (162, 1216, 1192), (165, 1217, 1193), (168, 1218, 1194), (211, 1219, 1195), (208, 1220, 1196), (35, 1221, 1197), (38, 1222, 1198), (250, 1223, 1199), (259, 1224, 1200), (265, 1225, 1201), (256, 1226, 1202), (41, 1227, 1203), (44, 1228, 1204), (47, 1229, 1205), (50, 1230, 1206)]
  | _ => []
def tm_ML : Nat → List (Nat × Nat × Nat × Nat) := fun k => match k with
  | 0 => [(1, 999, 358, 0)]
  | 1 => [(3, 999, 237, 0), (31, 140, 780, 1), (35, 152, 1146, 1)]
  | 2 => [(3, 999, 422, 0), (35, 10, 914, 0), (31, 90, 918, 0), (50, 51, 927, 0), (54, 54, 928, 0), (57, 996, 937, 0), (67, 17, 985, 0), (76, 18, 989, 0), (95, 46, 993, 0), (79, 19, 994, 0), (102, 14, 998, 0), (91, 80, 999, 0), (106, 20, 1020, 0), (110, 22, 1021, 0), (113, 994, 1025, 0)]
  | 3 => [(3, 999, 352, 0), (17, 0, 355, 1), (84, 1, 736, 0), (108, 5, 740, 0), (113, 28, 744, 0), (148, 25, 748, 0), (59, 80, 752, 0), (63, 995, 759, 0), (69, 994, 760, 0), (152, 2, 763, 0), (126, 27, 767, 0), (130, 49, 771, 0), (155, 7, 776, 0), (161, 24, 781, 0), (164, 46, 785, 0), (168, 30, 786, 0), (176, 92, 790, 0), (171, 6, 795, 0), (192, 32, 834, 0), (196, 33, 838, 0), (200, 257, 842, 0)]
  | 4 => [(3, 999, 447, 0), (19, 995, 859, 0), (38, 40, 860, 0), (45, 41, 864, 0), (49, 36, 868, 0), (57, 140, 872, 1), (64, 43, 873, 0), (61, 38, 877, 0), (67, 42, 881, 0), (42, 37, 885, 0), (53, 39, 889, 0)]
  | 5 => [(3, 999, 133, 0), (39, 45, 134, 0), (53, 257, 138, 0), (64, 53, 619, 0), (74, 995, 623, 0), (68, 52, 626, 0), (71, 49, 630, 0), (59, 50, 634, 0), (79, 57, 655, 0), (83, 58, 659, 0), (89, 152, 1136, 1)]
  | 6 => [(3, 999, 199, 0), (37, 67, 1046, 0), (51, 68, 1050, 0), (54, 996, 1054, 0), (41, 256, 1055, 0), (47, 66, 1060, 0), (59, 152, 1141, 1)]
  | 7 => [(3, 999, 500, 0), (39, 77, 960, 0), (43, 997, 964, 0), (31, 75, 971, 0), (35, 76, 975, 0), (25, 257, 1099, 0)]
  | 8 => [(3, 999, 276, 0), (26, 81, 756, 0), (18, 152, 896, 1)]
  | 9 => [(3, 999, 475, 0), (39, 84, 1072, 0), (49, 85, 1079, 0), (53, 86, 1083, 0)]
  | 10 => [(3, 999, 127, 0), (11, 44, 130, 0), (20, 60, 196, 1), (27, 3, 234, 1), (34, 78, 273, 1), (54, 257, 291, 0), (60, 45, 561, 0), (67, 89, 562, 0), (77, 59, 1132, 0), (81, 69, 1137, 0), (84, 8, 1142, 0), (93, 79, 1147, 0), (96, 152, 1148, 1), (100, 998, 1149, 0)]
  | 11 => [(3, 999, 119, 0), (11, 87, 124, 0), (21, 23, 349, 0), (30, 9, 419, 0), (41, 34, 444, 0), (50, 82, 472, 1), (57, 70, 497, 1), (66, 140, 549, 0), (70, 139, 552, 0), (74, 88, 557, 0), (78, 141, 570, 0), (95, 143, 582, 0), (98, 46, 586, 0), (104, 142, 594, 0), (110, 144, 602, 0), (117, 47, 606, 0), (121, 51, 614, 0), (125, 54, 638, 0), (130, 55, 643, 0), (133, 56, 651, 0), (137, 256, 663, 0), (151, 61, 673, 0), (154, 145, 681, 0), (157, 149, 685, 0), (160, 150, 689, 0), (163, 48, 693, 0), (174, 4, 697, 0), (176, 146, 709, 0), (182, 151, 713, 0), (200, 89, 731, 0), (203, 26, 732, 0), (213, 29, 772, 0), (219, 90, 799, 0), (225, 24, 807, 0), (228, 91, 816, 0), (234, 25, 824, 0), (238, 995, 829, 0), (243, 31, 830, 0), (250, 93, 847, 0), (254, 35, 855, 0), (270, 79, 892, 0), (367, 998, 899, 0), (279, 11, 910, 0), (291, 12, 919, 0), (295, 13, 923, 0), (298, 14, 933, 0), (301, 15, 944, 0), (304, 147, 952, 0), (313, 76, 956, 0), (317, 74, 967, 0), (320, 75, 976, 0), (324, 16, 981, 0), (327, 148, 1008, 0), (330, 20, 1012, 0), (333, 21, 1016, 0), (339, 62, 1034, 0), (342, 64, 1042, 0), (345, 65, 1056, 0), (348, 83, 1068, 0), (356, 71, 1095, 0), (360, 72, 1104, 0), (363, 73, 1112, 0), (373, 258, 1120, 0), (376, 94, 1128, 0), (382, 63, 1158, 0)]
  | 12 => [(1, 999, 1171, 0), (53, 156, 1172, 0), (58, 155, 1275, 0), (113, 154, 1278, 0), (116, 165, 1287, 0), (119, 157, 1303, 0), (129, 184, 1315, 0), (122, 161, 1320, 0), (126, 183, 1324, 0), (133, 186, 1332, 0), (139, 158, 1344, 0), (142, 190, 1348, 0), (145, 189, 1351, 0), (136, 159, 1355, 0), (149, 160, 1367, 0), (152, 162, 1371, 0), (155, 193, 1375, 0), (191, 199, 1391, 0), (175, 198, 1395, 0), (178, 163, 1399, 0), (181, 197, 1403, 0), (171, 176, 1407, 0), (109, 175, 1411, 0), (105, 174, 1415, 0), (102, 168, 1419, 0), (80, 169, 1423, 0), (87, 170, 1427, 0), (90, 171, 1431, 0), (93, 172, 1435, 0), (96, 173, 1439, 0), (76, 166, 1443, 0), (83, 167, 1447, 0), (194, 202, 1451, 0), (184, 200, 1455, 0), (188, 201, 1460, 0), (197, 164, 1464, 0), (200, 208, 1488, 0), (214, 213, 1510, 0), (217, 214, 1514, 0), (221, 216, 1522, 0), (224, 218, 1530, 0), (227, 220, 1538, 0), (235, 223, 1546, 0), (231, 222, 1550, 0), (241, 226, 1562, 0), (244, 228, 1566, 0), (238, 227, 1570, 0), (247, 232, 1586, 0), (274, 236, 1594, 0), (253, 234, 1598, 0), (262, 235, 1602, 0), (283, 241, 1606, 0), (277, 240, 1610, 0), (280, 239, 1614, 0), (271, 238, 1618, 0), (268, 237, 1622, 0), (289, 243, 1626, 0), (286, 242, 1630, 0), (292, 248, 1650, 0), (295, 250, 1658, 0)]
  | 13 => [(9, 95, 116, 0), (13, 96, 545, 0), (18, 97, 566, 0), (23, 98, 574, 0), (27, 99, 578, 0), (32, 100, 590, 0), (36, 101, 598, 0), (41, 102, 610, 0), (46, 103, 647, 0), (50, 104, 669, 0), (54, 105, 677, 0), (58, 106, 701, 0), (62, 107, 705, 0), (66, 108, 718, 0), (70, 109, 722, 0), (74, 110, 727, 0), (79, 111, 803, 0), (83, 112, 808, 0), (87, 113, 812, 0), (91, 114, 820, 0), (95, 115, 825, 0), (101, 116, 843, 0), (106, 117, 851, 0), (110, 118, 902, 0), (114, 119, 906, 0), (119, 120, 929, 0), (123, 121, 940, 0), (127, 122, 948, 0), (132, 123, 977, 0), (136, 124, 1000, 0), (140, 125, 1004, 0), (144, 126, 1026, 0), (148, 127, 1030, 0), (152, 128, 1038, 0), (156, 129, 1064, 0), (160, 130, 1087, 0), (164, 131, 1091, 0), (168, 132, 1100, 0), (172, 133, 1108, 0), (176, 134, 1116, 0), (180, 135, 1124, 0), (184, 136, 1150, 0), (188, 137, 1154, 0), (192, 138, 1162, 0), (12, 153, 1168, 0), (17, 177, 1271, 0), (22, 178, 1283, 0), (26, 179, 1291, 0), (31, 180, 1295, 0), (35, 181, 1299, 0), (40, 182, 1307, 0), (45, 185, 1311, 0), (49, 187, 1328, 0), (53, 188, 1336, 0), (57, 191, 1340, 0), (61, 192, 1359, 0), (65, 194, 1363, 0), (69, 195, 1378, 0), (73, 196, 1382, 0), (78, 203, 1387, 0), (82, 204, 1468, 0), (86, 205, 1472, 0), (90, 206, 1476, 0), (94, 207, 1480, 0), (98, 209, 1484, 0), (105, 210, 1493, 0), (109, 211, 1498, 0), (113, 212, 1502, 0), (118, 215, 1506, 0), (122, 217, 1518, 0), (126, 219, 1526, 0), (131, 221, 1534, 0), (135, 224, 1542, 0), (139, 225, 1554, 0), (143, 229, 1558, 0), (147, 230, 1574, 0), (151, 231, 1578, 0), (155, 233, 1582, 0), (159, 244, 1590, 0), (163, 245, 1634, 0), (167, 246, 1638, 0), (171, 247, 1642, 0), (175, 249, 1646, 0), (179, 251, 1654, 0), (183, 252, 1662, 0), (187, 253, 1666, 0), (191, 254, 1670, 0), (195, 255, 1674, 0)]
  | _ => []
def tm_KL : Nat → List (Nat × Int × Nat) := fun k => match k with
  | 5 => [(63, 1000000000, 618)]
  | 10 => [(73, 65535, 794)]
  | 11 => [(385, -1000000, 556), (129, 1000000000, 642), (196, 65535, 726)]
  | 12 => [(57, -1000000, 1282), (125, 1000000000, 1319), (158, 65535, 1386), (187, 65536, 1459)]
  | 14 => [(265, 1431655765, 666), (266, 858993459, 667), (267, 252645135, 668)]
  | _ => []
def tm_LL : Nat → List (Nat × Nat × Nat) := fun k => match k with
  | 12 => [(204, 2, 1492), (206, 255, 1497)]
  | 13 => [(99, 4294967295, 1678)]
  | _ => []
def tm_SL : Nat → List (Nat × Nat × Nat × Nat) := fun k => match k with
  | 9 => [(43, 1, 1076, 0), (46, 0, 1078, 1)]
  | 11 => [(386, 0, 716, 0)]
  | _ => []
def tm_NL : Nat → List (Nat × Nat × Nat) := fun k => match k with
  | 3 => [(15, 0, 353)]
  | 10 => [(9, 5, 128), (18, 6, 194), (25, 1, 232), (32, 8, 270)]
  | 11 => [(9, 10, 122), (19, 3, 347), (28, 2, 417), (35, 4, 442), (48, 9, 470), (55, 7, 494)]
  | 13 => [(7, 11, 114), (10, 12, 1166)]
  | _ => []
/-- by method: the places of its code, of instance/static, of selects (0: none) -/
def tm_WP : List (Nat × Nat × Nat) := [(357, 356, 0), (739, 737, 738), (766, 764, 765), (236, 235, 0), (700, 698, 699), (743, 741, 742), (798, 796, 797), (779, 777, 778), (1145, 1143, 1144), (421, 420, 0), (917, 916, 26), (913, 911, 912), (922, 920, 921), (926, 924, 925), (936, 934, 935), (947, 945, 946), (984, 982, 983), (988, 987, 29), (992, 991, 30), (997, 996, 31), (1015, 1013, 1014), (1019, 1017, 1018), (1024, 1023, 33), (351, 350, 0), (784, 782, 783), (751, 749, 750), (735, 733, 734), (770, 769, 15), (747, 746, 14), (775, 773, 774), (789, 788, 16), (833, 831, 832), (837, 836, 17), (841, 840, 18), (446, 445, 0), (858, 856, 857), (871, 870, 21), (888, 887, 25), (880, 879, 23), (891, 890, 0), (863, 862, 19), (867, 866, 20), (884, 883, 24), (876, 875, 22), (132, 131, 0), (137, 135, 136), (589, 587, 588), (609, 607, 608), (696, 694, 695), (633, 631, 632), (637, 636, 7), (617, 615, 616), (629, 628, 6), (622, 621, 5), (641, 639, 640), (646, 644, 645), (654, 652, 653), (658, 657, 8), (662, 661, 9), (1135, 1133, 1134), (198, 197, 0), (676, 674, 675), (1037, 1035, 1036), (1161, 1159, 1160), (1045, 1043, 1044), (1059, 1057, 1058), (1063, 1062, 36), (1049, 1048, 34), (1053, 1052, 35), (1140, 1138, 1139), (499, 498, 0), (1098, 1096, 1097), (1107, 1105, 1106), (1115, 1113, 1114), (970, 968, 969), (974, 972, 973), (959, 957, 958), (963, 962, 28), (275, 274, 0), (895, 893, 894), (755, 753, 754), (758, 757, 0), (474, 473, 0), (1071, 1069, 1070), (1075, 1074, 37), (1082, 1081, 38), (1086, 1085, 39), (126, 125, 0), (560, 558, 559), (565, 563, 564), (802, 800, 801), (819, 817, 818), (793, 791, 792), (850, 848, 849), (1131, 1129, 1130), (118, 117, 0), (548, 546, 547), (569, 567, 568), (577, 575, 576), (581, 579, 580), (593, 591, 592), (601, 599, 600), (613, 611, 612), (650, 648, 649), (672, 670, 671), (680, 678, 679), (704, 702, 703), (708, 706, 707), (721, 719, 720), (725, 723, 724), (730, 728, 729), (806, 804, 805), (811, 809, 810), (815, 813, 814), (823, 821, 822), (828, 826, 827), (846, 844, 845), (854, 852, 853), (905, 903, 904), (909, 907, 908), (932, 930, 931), (943, 941, 942), (951, 949, 950), (980, 978, 979), (1003, 1001, 1002), (1007, 1005, 1006), (1029, 1027, 1028), (1033, 1031, 1032), (1041, 1039, 1040), (1067, 1065, 1066), (1090, 1088, 1089), (1094, 1092, 1093), (1103, 1101, 1102), (1111, 1109, 1110), (1119, 1117, 1118), (1127, 1125, 1126), (1153, 1151, 1152), (1157, 1155, 1156), (1165, 1163, 1164), (555, 554, 0), (551, 550, 0), (573, 572, 1), (597, 596, 3), (585, 584, 2), (605, 604, 4), (684, 683, 10), (712, 711, 13), (955, 954, 27), (1011, 1010, 32), (688, 687, 11), (692, 691, 12), (715, 714, 0), (898, 897, 0), (1170, 1169, 0), (1281, 1280, 41), (1277, 1276, 0), (1175, 1174, 40), (1306, 1305, 43), (1347, 1346, 48), (1358, 1357, 50), (1370, 1369, 51), (1323, 1322, 45), (1374, 1373, 52), (1402, 1401, 55), (1467, 1466, 71), (1290, 1289, 42), (1446, 1445, 66), (1450, 1449, 67), (1422, 1421, 60), (1426, 1425, 61), (1430, 1429, 62), (1434, 1433, 63), (1438, 1437, 64), (1442, 1441, 65), (1418, 1417, 59), (1414, 1413, 58), (1410, 1409, 57), (1274, 1272, 1273), (1286, 1284, 1285), (1294, 1292, 1293), (1298, 1296, 1297), (1302, 1300, 1301), (1310, 1308, 1309), (1327, 1326, 46), (1318, 1317, 44), (1314, 1312, 1313), (1335, 1334, 47), (1331, 1329, 1330), (1339, 1337, 1338), (1354, 1353, 49), (1350, 1349, 0), (1343, 1341, 1342), (1362, 1360, 1361), (1377, 1376, 0), (1366, 1364, 1365), (1381, 1379, 1380), (1385, 1383, 1384), (1406, 1405, 56), (1398, 1397, 54), (1394, 1393, 53), (1458, 1457, 69), (1463, 1462, 70), (1454, 1453, 68), (1390, 1388, 1389), (1471, 1469, 1470), (1475, 1473, 1474), (1479, 1477, 1478), (1483, 1481, 1482), (1491, 1490, 72), (1487, 1485, 1486), (1496, 1494, 1495), (1501, 1499, 1500), (1505, 1503, 1504), (1513, 1512, 73), (1517, 1516, 74), (1509, 1507, 1508), (1525, 1524, 75), (1521, 1519, 1520), (1533, 1532, 76), (1529, 1527, 1528), (1541, 1540, 77), (1537, 1535, 1536), (1553, 1552, 79), (1549, 1548, 78), (1545, 1543, 1544), (1557, 1555, 1556), (1565, 1564, 80), (1573, 1572, 82), (1569, 1568, 81), (1561, 1559, 1560), (1577, 1575, 1576), (1581, 1579, 1580), (1589, 1588, 83), (1585, 1583, 1584), (1601, 1600, 85), (1605, 1604, 86), (1597, 1596, 84), (1625, 1624, 91), (1621, 1620, 90), (1617, 1616, 89), (1613, 1612, 88), (1609, 1608, 87), (1633, 1632, 93), (1629, 1628, 92), (1593, 1591, 1592), (1637, 1635, 1636), (1641, 1639, 1640), (1645, 1643, 1644), (1653, 1652, 94), (1649, 1647, 1648), (1661, 1660, 95), (1657, 1655, 1656), (1665, 1663, 1664), (1669, 1667, 1668), (1673, 1671, 1672), (1677, 1675, 1676), (665, 664, 0), (140, 139, 0), (1123, 1121, 1122), (0, 0, 0)]
/-- by class: the places of initialized, of instantiable (0: none), its fields -/
def tm_CP : List (Nat × Nat × Nat) := [(105, 354, 4), (102, 233, 6), (106, 418, 5), (104, 348, 13), (107, 443, 6), (99, 129, 13), (101, 195, 8), (109, 496, 4), (103, 272, 3), (108, 471, 5), (98, 123, 11), (97, 115, 9), (110, 1167, 31), (96, 0, 0), (112, 0, 0), (111, 0, 0), (113, 0, 0), (100, 0, 0)]
def tm_B_X0_init : List (Nat × List Instr) := [(0, [.aload 0, .invokespecial 999, .return_])]
def tm_B_X0_begin : List (Nat × List Instr) := [(0, [.aload 0, .iload 1, .putfield 0, .aload 0, .iconst 0, .putfield 1, .aload 0, .iconst 0, .putfield 2, .aload 0, .iconst 0, .putfield 3, .return_])]
def tm_B_X0_ranAt : List (Nat × List Instr) := [(0, [.aload 0, .getfield 1, .ifCond .ne 20012, .aload 0, .iload 1, .putfield 2, .goto_w 20012]),
  (12, [.aload 0, .iload 1, .putfield 3, .aload 0, .dup, .getfield 1, .iconst 1, .iadd, .putfield 1, .return_])]
def tm_B_X1_init : List (Nat × List Instr) := [(0, [.aload 0, .invokespecial 999, .aload 0, .iconst 40, .newarray .int, .putstatic 101, .aload 0, .iconst 40, .newarray .int, .putstatic 102, .aload 0, .iconst 40, .newarray .int, .putstatic 103, .aload 0, .iconst 40, .newarray .int, .putstatic 104, .aload 0, .iconst 40, .newarray .int, .putstatic 105, .return_])]
def tm_B_X1_add : List (Nat × List Instr) := [(0, [.aload 0, .getfield 101, .aload 0, .getfield 100, .iload 1, .iastore, .aload 0, .getfield 102, .aload 0, .getfield 100, .iload 2, .iastore, .aload 0, .getfield 103, .aload 0, .getfield 100, .iload 3, .iconst 100, .idiv, .iastore, .aload 0, .getfield 104, .aload 0, .getfield 100, .iload 3, .iconst 100, .irem, .iastore, .aload 0, .getfield 105, .aload 0, .getfield 100, .iload 4, .iastore, .aload 0, .dup, .getfield 100, .iconst 1, .iadd, .putfield 100, .aload 0, .getfield 100, .iconst 1, .isub, .ireturn])]
def tm_B_X1_latestStep : List (Nat × List Instr) := [(0, [.aload 0, .getfield 100, .iconst 1, .isub, .istore 3, .goto_w 50007]),
  (7, [.iload 3, .ifCond .lt 50060, .aload 0, .getfield 102, .iload 3, .iaload, .iload 1, .if_icmp .ne 50054, .aload 0, .getfield 103, .iload 3, .iaload, .iload 2, .if_icmp .ne 50054, .aload 0, .getfield 101, .iload 3, .iaload, .iconst 5, .if_icmp .eq 50054, .aload 0, .getfield 101, .iload 3, .iaload, .iconst 7, .if_icmp .eq 50054, .iload 3, .ireturn]),
  (54, [.iinc 3 (-1), .goto 50007]),
  (60, [.iconst (-1), .ireturn])]
def tm_B_X1_isMissed : List (Nat × List Instr) := [(0, [.iconst 0, .istore 3, .goto_w 60002]),
  (2, [.iload 3, .aload 0, .getfield 100, .if_icmp .ge 60049, .aload 0, .getfield 101, .iload 3, .iaload, .iconst 7, .if_icmp .ne 60043, .aload 0, .getfield 102, .iload 3, .iaload, .iload 1, .if_icmp .ne 60043, .aload 0, .getfield 103, .iload 3, .iaload, .iload 2, .if_icmp .ne 60043, .iconst 1, .freturn]),
  (43, [.iinc 3 1, .goto 60002]),
  (49, [.iconst 0, .freturn])]
def tm_B_X1_carrierOf : List (Nat × List Instr) := [(0, [.iload 1, .istore 3, .iconst 0, .istore 4, .iconst 0, .istore 5, .goto_w 70008]),
  (8, [.iload 5, .aload 0, .getfield 100, .if_icmp .ge 70078, .aload 0, .getfield 101, .iload 5, .iaload, .iconst 5, .if_icmp .ne 70072, .aload 0, .getfield 102, .iload 5, .iaload, .iload 1, .if_icmp .ne 70072, .aload 0, .getfield 103, .iload 5, .iaload, .iload 4, .iload 2, .invokestatic 140, .ifCond .eq 70072, .aload 0, .getfield 103, .iload 5, .iaload, .istore 4, .aload 0, .getfield 105, .iload 5, .iaload, .istore 3, .goto_w 70072]),
  (72, [.iinc 5 1, .goto 70008]),
  (78, [.iload 3, .ireturn])]
def tm_B_X1_takeAll : List (Nat × List Instr) := [(0, [.aload 0, .aload 1, .getfield 100, .putfield 100, .aload 1, .getfield 101, .aload 0, .getfield 101, .invokestatic 152, .aload 1, .getfield 102, .aload 0, .getfield 102, .invokestatic 152, .aload 1, .getfield 103, .aload 0, .getfield 103, .invokestatic 152, .aload 1, .getfield 104, .aload 0, .getfield 104, .invokestatic 152, .aload 1, .getfield 105, .aload 0, .getfield 105, .invokestatic 152, .return_])]
def tm_B_X2_init : List (Nat × List Instr) := [(0, [.aload 0, .invokespecial 999, .aload 0, .iconst 6, .newarray .int, .putstatic 204, .aload 0, .aload 1, .putstatic 203, .return_])]
def tm_B_X2_nextHeard : List (Nat × List Instr) := [(0, [.iload 2, .istore 3, .goto_w 100002]),
  (2, [.iload 3, .aload 0, .getfield 203, .getfield 1000, .getfield 500, .if_icmp .gt 100036, .aload 0, .getfield 203, .iload 1, .iload 3, .invokevirtual 90, .ifCond .lt 100030, .iload 3, .ireturn]),
  (30, [.iinc 3 1, .goto 100002]),
  (36, [.iconst 25, .ireturn])]
def tm_B_X2_findGap : List (Nat × List Instr) := [(0, [.aload 0, .aload 0, .iload 1, .iconst 0, .invokevirtual 10, .putfield 200, .aload 0, .aload 0, .iload 1, .aload 0, .getfield 200, .iconst 1, .iadd, .invokevirtual 10, .putfield 201, .iconst 0, .istore 3, .goto_w 110027]),
  (27, [.iload 3, .iload 2, .if_icmp .ge 110070, .aload 0, .getfield 201, .iconst 25, .if_icmp .ge 110070, .aload 0, .aload 0, .getfield 201, .putfield 200, .aload 0, .aload 0, .iload 1, .aload 0, .getfield 200, .iconst 1, .iadd, .invokevirtual 10, .putfield 201, .iinc 3 1, .goto 110027]),
  (70, [.iload 2, .ifCond .lt 110083, .aload 0, .getfield 201, .iconst 25, .if_icmp .lt 110085, .goto_w 110083]),
  (83, [.iconst 0, .freturn]),
  (85, [.aload 0, .aload 0, .getfield 203, .iload 1, .aload 0, .getfield 201, .invokevirtual 90, .aload 0, .getfield 203, .iload 1, .aload 0, .getfield 200, .invokevirtual 90, .isub, .putfield 202, .iconst 1, .freturn])]
def tm_B_X2_gapOnFoot : List (Nat × List Instr) := [(0, [.aload 0, .getfield 202, .aload 0, .getfield 203, .getfield 1010, .aload 0, .getfield 201, .aload 0, .getfield 200, .isub, .imul, .if_icmp .lt 120028, .iconst 1, .goto 120029]),
  (28, [.iconst 0, .goto_w 120029]),
  (29, [.freturn])]
def tm_B_X2_gapByWays : List (Nat × List Instr) := [(0, [.aload 0, .getfield 203, .getfield 1000, .aload 0, .getfield 200, .aload 0, .getfield 203, .iload 1, .aload 0, .getfield 200, .invokevirtual 90, .aload 0, .getfield 203, .getfield 1010, .invokevirtual 51, .aload 0, .getfield 203, .getfield 1000, .aload 0, .getfield 201, .iconst 1, .invokevirtual 54, .aload 0, .getfield 203, .iload 1, .aload 0, .getfield 201, .invokevirtual 90, .if_icmp .gt 130067, .iconst 1, .goto 130068]),
  (67, [.iconst 0, .goto_w 130068]),
  (68, [.freturn])]
def tm_B_X2_together : List (Nat × List Instr) := [(0, [.iconst 0, .istore 4, .iconst 0, .istore 5, .goto_w 140006]),
  (6, [.iload 5, .aload 0, .getfield 203, .getfield 1000, .getfield 500, .if_icmp .gt 140078, .aload 0, .getfield 203, .iload 1, .iload 5, .invokevirtual 90, .istore 6, .aload 0, .getfield 203, .iload 2, .iload 5, .invokevirtual 90, .istore 7, .iload 6, .ifCond .lt 140072, .iload 7, .ifCond .lt 140072, .iinc 4 1, .iload 6, .iload 7, .isub, .invokestatic 996, .iload 3, .if_icmp .le 140072, .iconst 0, .freturn]),
  (72, [.iinc 5 1, .goto 140006]),
  (78, [.iload 4, .iconst 2, .if_icmp .lt 140088, .iconst 1, .goto 140089]),
  (88, [.iconst 0, .goto_w 140089]),
  (89, [.freturn])]
def tm_B_X2_passed : List (Nat × List Instr) := [(0, [.aload 0, .iload 1, .iconst 0, .invokevirtual 10, .iload 2, .if_icmp .ge 150027, .aload 0, .iload 1, .iload 2, .iconst 1, .iadd, .invokevirtual 10, .iconst 25, .if_icmp .ge 150027, .iconst 1, .goto 150028]),
  (27, [.iconst 0, .goto_w 150028]),
  (28, [.freturn])]
def tm_B_X2_oddness : List (Nat × List Instr) := [(0, [.aload 0, .getfield 203, .getfield 1003, .iconst 1, .aaload, .astore 2, .aload 0, .getfield 203, .getfield 1000, .getfield 500, .istore 3, .aload 0, .iload 1, .iconst 0, .iload 3, .iconst 2, .idiv, .invokevirtual 17, .istore 4, .aload 0, .iload 1, .iload 3, .iconst 2, .idiv, .iload 3, .invokevirtual 17, .istore 5, .aload 2, .getfield 801, .ifCond .ne 160069, .iload 5, .iconst (-1), .if_icmp .eq 160067, .iload 4, .iload 5, .if_icmp .le 160067, .iconst 1, .goto 160068]),
  (67, [.iconst 0, .goto_w 160068]),
  (68, [.ireturn]),
  (69, [.aload 0, .getfield 204, .iconst 0, .iload 4, .iastore, .aload 0, .getfield 204, .iconst 1, .iload 5, .iastore, .aload 0, .getfield 204, .iconst 2, .aload 0, .iload 1, .invokevirtual 18, .iastore, .aload 0, .getfield 204, .iconst 3, .aload 0, .iload 1, .iconst 0, .iload 3, .invokevirtual 17, .iastore, .aload 0, .getfield 204, .iconst 4, .aload 0, .iload 1, .invokevirtual 19, .iastore, .aload 0, .getfield 204, .iconst 5, .aload 0, .getfield 203, .getfield 1001, .getfield 601, .iload 1, .iaload, .iastore, .aload 2, .aload 0, .getfield 204, .invokevirtual 80, .ireturn])]
def tm_B_X2_minutesBetween : List (Nat × List Instr) := [(0, [.aload 0, .getfield 203, .iload 1, .iload 2, .invokevirtual 90, .istore 4, .aload 0, .getfield 203, .iload 1, .iload 3, .invokevirtual 90, .istore 5, .iload 4, .ifCond .lt 170032, .iload 5, .ifCond .ge 170036, .goto_w 170032]),
  (32, [.iconst (-1), .goto 170041]),
  (36, [.iload 5, .iload 4, .isub, .goto_w 170041]),
  (41, [.ireturn])]
def tm_B_X2_deafMats : List (Nat × List Instr) := [(0, [.iconst 0, .istore 2, .iconst 0, .istore 3, .goto_w 180004]),
  (4, [.iload 3, .aload 0, .getfield 203, .getfield 1000, .getfield 500, .if_icmp .gt 180053, .aload 0, .getfield 203, .getfield 1000, .iload 3, .invokevirtual 46, .ifCond .eq 180047, .aload 0, .getfield 203, .iload 1, .iload 3, .invokevirtual 90, .ifCond .ge 180047, .iinc 2 1, .goto_w 180047]),
  (47, [.iinc 3 1, .goto 180004]),
  (53, [.iload 2, .ireturn])]
def tm_B_X2_companions : List (Nat × List Instr) := [(0, [.iconst 0, .istore 2, .iconst 0, .istore 3, .goto_w 190004]),
  (4, [.iload 3, .aload 0, .getfield 203, .getfield 1001, .getfield 600, .if_icmp .ge 190042, .iload 3, .iload 1, .if_icmp .eq 190036, .aload 0, .iload 1, .iload 3, .iconst 1, .invokevirtual 14, .ifCond .eq 190036, .iinc 2 1, .goto_w 190036]),
  (36, [.iinc 3 1, .goto 190004]),
  (42, [.iload 2, .ireturn])]
def tm_B_X2_hasPlace : List (Nat × List Instr) := [(0, [.iload 2, .iload 1, .ishr, .iconst 1, .iand, .ifCond .ne 200033, .aload 0, .getfield 203, .iload 1, .aload 0, .getfield 203, .getfield 1000, .getfield 500, .invokevirtual 90, .ifCond .lt 200033, .iconst 1, .goto 200034]),
  (33, [.iconst 0, .goto_w 200034]),
  (34, [.freturn])]
def tm_B_X2_placeOf : List (Nat × List Instr) := [(0, [.iconst 0, .istore 3, .iconst 0, .istore 4, .goto_w 210005]),
  (5, [.iload 4, .aload 0, .getfield 203, .getfield 1001, .getfield 600, .if_icmp .ge 210053, .aload 0, .iload 4, .iload 2, .invokevirtual 20, .ifCond .eq 210047, .aload 0, .iload 4, .invokevirtual 22, .aload 0, .iload 1, .invokevirtual 22, .if_icmp .ge 210047, .iinc 3 1, .goto_w 210047]),
  (47, [.iinc 4 1, .goto 210005]),
  (53, [.iconst 1, .iload 3, .iadd, .ireturn])]
def tm_B_X2_minutesInAll : List (Nat × List Instr) := [(0, [.aload 0, .getfield 203, .iload 1, .aload 0, .getfield 203, .getfield 1000, .getfield 500, .invokevirtual 90, .iconst 0, .aload 0, .getfield 203, .iload 1, .iconst 0, .invokevirtual 90, .invokestatic 994, .isub, .ireturn])]
def tm_B_X3_init : List (Nat × List Instr) := [(0, [.aload 0, .invokespecial 999, .aload 0, .iconst 300, .newarray .int, .putstatic 302, .aload 0, .new 0, .dup, .invokespecial 0, .putstatic 303, .aload 0, .new 0, .dup, .invokespecial 0, .putstatic 304, .aload 0, .iconst 6, .newarray .int, .putstatic 305, .aload 0, .iconst 808, .newarray .int, .putstatic 309, .aload 0, .aload 1, .putstatic 301, .return_])]
def tm_B_X3_minuteOf : List (Nat × List Instr) := [(0, [.aload 0, .getfield 302, .iload 1, .iconst 25, .imul, .iload 2, .iadd, .iaload, .ireturn])]
def tm_B_X3_paceOf : List (Nat × List Instr) := [(0, [.aload 0, .getfield 301, .getfield 1003, .iconst 0, .aaload, .astore 6, .aload 0, .getfield 301, .getfield 1000, .getfield 504, .iload 3, .iaload, .istore 7, .iload 1, .iload 7, .iconst 2, .idiv, .iadd, .iload 2, .iconst 6, .idiv, .iadd, .istore 8, .aload 6, .getfield 801, .ifCond .le 250111, .aload 0, .getfield 305, .iconst 0, .iload 1, .iastore, .aload 0, .getfield 305, .iconst 1, .iload 2, .iastore, .aload 0, .getfield 305, .iconst 2, .iload 7, .iastore, .aload 0, .getfield 305, .iconst 3, .aload 0, .getfield 301, .getfield 1000, .getfield 501, .iastore, .aload 0, .getfield 305, .iconst 4, .iload 4, .iastore, .aload 0, .getfield 305, .iconst 5, .iload 5, .iastore, .aload 6, .aload 0, .getfield 305, .invokevirtual 80, .istore 8, .goto_w 250111]),
  (111, [.iconst 1, .iconst 99, .iload 8, .invokestatic 995, .invokestatic 994, .ireturn])]
def tm_B_X3_follow : List (Nat × List Instr) := [(0, [.aload 0, .iload 1, .iconst 25, .imul, .putfield 306, .iconst 0, .istore 2, .goto_w 260010]),
  (10, [.iload 2, .iconst 25, .if_icmp .ge 260034, .aload 0, .getfield 302, .aload 0, .getfield 306, .iload 2, .iadd, .iconst (-1), .iastore, .iinc 2 1, .goto 260010]),
  (34, [.aload 0, .getfield 303, .aload 0, .getfield 301, .getfield 1001, .getfield 601, .iload 1, .iaload, .invokevirtual 1, .aload 0, .iconst 0, .putfield 300, .aload 0, .iconst 0, .putfield 307, .aload 0, .aload 0, .getfield 301, .getfield 1001, .getfield 602, .iload 1, .iaload, .putfield 308, .aload 0, .getfield 302, .aload 0, .getfield 306, .aload 0, .getfield 308, .iastore, .iconst 0, .istore 2, .goto_w 260094]),
  (94, [.iload 2, .iconst 25, .if_icmp .ge 260202, .aload 0, .getfield 307, .aload 0, .getfield 301, .getfield 1000, .getfield 500, .if_icmp .ge 260202, .aload 0, .getfield 301, .getfield 1002, .iload 1, .aload 0, .getfield 307, .invokevirtual 5, .istore 3, .iload 3, .ifCond .ge 260156, .aload 0, .aload 0, .getfield 307, .iconst 1, .iadd, .aload 0, .getfield 303, .iconst 0, .iconst 1, .invokevirtual 28, .goto 260196]),
  (156, [.aload 0, .aload 0, .getfield 301, .getfield 1002, .getfield 101, .iload 3, .iaload, .aload 0, .getfield 301, .getfield 1002, .getfield 104, .iload 3, .iaload, .aload 0, .getfield 301, .getfield 1002, .getfield 105, .iload 3, .iaload, .invokevirtual 27, .goto_w 260196]),
  (196, [.iinc 2 1, .goto 260094]),
  (202, [.return_])]
def tm_B_X3_goAsTold : List (Nat × List Instr) := [(0, [.iload 1, .tableswitch 270139 0 6 #[270044, 270073, 270087, 270139, 270139, 270139, 270101]]),
  (44, [.aload 0, .dup, .getfield 308, .iload 3, .iadd, .putfield 308, .aload 0, .aload 0, .getfield 307, .iconst 1, .iadd, .aload 0, .getfield 303, .iconst 0, .iconst 1, .invokevirtual 28, .goto 270197]),
  (73, [.aload 0, .iload 2, .aload 0, .getfield 303, .iload 3, .iconst 1, .invokevirtual 28, .goto 270197]),
  (87, [.aload 0, .iload 2, .aload 0, .getfield 303, .iload 3, .iconst 2, .invokevirtual 28, .goto 270197]),
  (101, [.aload 0, .iconst 1, .putfield 300, .aload 0, .getfield 304, .aload 0, .getfield 301, .getfield 1001, .getfield 601, .iload 3, .iaload, .invokevirtual 1, .aload 0, .iload 2, .aload 0, .getfield 304, .iconst 0, .iconst 1, .invokevirtual 28, .goto 270197]),
  (139, [.aload 0, .iconst 1, .putfield 300, .aload 0, .aload 0, .getfield 301, .getfield 1000, .iload 3, .aload 0, .getfield 308, .invokevirtual 49, .putfield 308, .aload 0, .aload 0, .getfield 301, .getfield 1000, .getfield 507, .iload 3, .iaload, .putfield 307, .aload 0, .getfield 302, .aload 0, .getfield 306, .aload 0, .getfield 307, .iadd, .aload 0, .getfield 308, .iastore, .goto_w 270197]),
  (197, [.return_])]
def tm_B_X3_runUpTo : List (Nat × List Instr) := [(0, [.aload 0, .getfield 307, .istore 5, .goto_w 280006]),
  (6, [.iload 5, .iload 1, .if_icmp .ge 280082, .aload 0, .aload 2, .getfield 0, .aload 2, .getfield 1, .iload 5, .aload 2, .getfield 2, .aload 2, .getfield 3, .invokevirtual 25, .istore 6, .aload 2, .iload 6, .invokevirtual 2, .aload 0, .dup, .getfield 308, .iload 6, .iload 3, .iadd, .iload 4, .imul, .iadd, .putfield 308, .aload 0, .getfield 302, .aload 0, .getfield 306, .iload 5, .iadd, .iconst 1, .iadd, .aload 0, .getfield 308, .iastore, .iinc 5 1, .goto 280006]),
  (82, [.aload 0, .iload 1, .putfield 307, .return_])]
def tm_B_X3_listen : List (Nat × List Instr) := [(0, [.iconst 0, .istore 2, .goto_w 290002]),
  (2, [.iload 2, .aload 0, .getfield 301, .getfield 1000, .getfield 500, .if_icmp .gt 290121, .aload 0, .getfield 301, .getfield 1002, .iload 1, .iload 2, .invokevirtual 7, .istore 3, .iload 3, .iload 1, .if_icmp .eq 290049, .aload 0, .getfield 301, .dup, .getfield 1007, .iconst 1, .iload 1, .ishl, .ior, .putfield 1007, .goto_w 290049]),
  (49, [.aload 0, .iload 3, .iload 2, .invokevirtual 24, .istore 4, .aload 0, .getfield 301, .getfield 1000, .iload 2, .invokevirtual 46, .ifCond .eq 290115, .iload 4, .ifCond .lt 290115, .aload 0, .iload 2, .invokevirtual 30, .ifCond .eq 290115, .aload 0, .getfield 301, .getfield 1002, .iload 3, .iload 2, .invokevirtual 6, .ifCond .ne 290115, .aload 0, .getfield 301, .getfield 1006, .iload 1, .iconst 25, .imul, .iload 2, .iadd, .iload 4, .iastore, .goto_w 290115]),
  (115, [.iinc 2 1, .goto 290002]),
  (121, [.return_])]
def tm_B_X3_matHears : List (Nat × List Instr) := [(0, [.iload 1, .ifCond .eq 300029, .aload 0, .getfield 301, .invokevirtual 92, .iconst 10, .irem, .aload 0, .getfield 301, .getfield 1000, .getfield 505, .iload 1, .iaload, .if_icmp .lt 300033, .goto_w 300029]),
  (29, [.iconst 1, .goto 300034]),
  (33, [.iconst 0, .goto_w 300034]),
  (34, [.freturn])]
def tm_B_X3_countRows : List (Nat × List Instr) := [(0, [.aload 0, .iload 1, .putfield 310, .aload 0, .iload 2, .putfield 311, .aload 0, .iload 4, .putfield 312, .aload 0, .iconst 0, .iconst 0, .iconst 0, .iload 3, .invokevirtual 32, .ireturn])]
def tm_B_X3_rowsFrom : List (Nat × List Instr) := [(0, [.iload 4, .aload 0, .getfield 311, .iload 1, .isub, .if_icmp .ge 320013, .iconst 0, .ireturn]),
  (13, [.iload 1, .aload 0, .getfield 311, .if_icmp .lt 320039, .aload 0, .getfield 312, .ifCond .eq 320037, .iload 4, .ifCond .le 320037, .iconst 0, .goto 320038]),
  (37, [.iconst 1, .goto_w 320038]),
  (38, [.ireturn]),
  (39, [.aload 0, .iload 1, .iload 2, .iload 3, .invokevirtual 33, .istore 5, .iconst 0, .istore 6, .iconst (-1), .istore 7, .goto_w 320054]),
  (54, [.iload 7, .iconst 1, .if_icmp .gt 320134, .iconst 1, .iload 5, .iload 7, .iadd, .invokestatic 994, .istore 8, .iload 1, .ifCond .ne 320083, .aload 0, .getfield 309, .iconst 0, .invokestatic 257, .goto_w 320083]),
  (83, [.aload 0, .iload 1, .iconst 1, .iadd, .iload 1, .ifCond .ne 320096, .iload 8, .goto 320097]),
  (96, [.iload 2, .goto_w 320097]),
  (97, [.iload 8, .iload 4, .iload 8, .isub, .invokevirtual 32, .istore 9, .iload 6, .iload 7, .ifCond .ne 320123, .iconst 2, .iload 9, .imul, .goto 320125]),
  (123, [.iload 9, .goto_w 320125]),
  (125, [.iadd, .istore 6, .iinc 7 1, .goto 320054]),
  (134, [.iload 6, .ireturn])]
def tm_B_X3_knownPace : List (Nat × List Instr) := [(0, [.iload 1, .iconst 101, .imul, .iload 3, .iadd, .istore 4, .iload 1, .ifCond .eq 330022, .aload 0, .getfield 309, .iload 4, .iaload, .ifCond .ne 330041, .goto_w 330022]),
  (22, [.aload 0, .getfield 309, .iload 4, .aload 0, .aload 0, .getfield 310, .iload 1, .iload 1, .iload 2, .iload 3, .invokevirtual 25, .iastore, .goto_w 330041]),
  (41, [.aload 0, .getfield 309, .iload 4, .iaload, .ireturn])]
def tm_B_X4_init : List (Nat × List Instr) := [(0, [.aload 0, .invokespecial 999, .aload 0, .iconst 60, .newarray .int, .putstatic 400, .aload 0, .aload 1, .putstatic 403, .return_])]
def tm_B_X4_read : List (Nat × List Instr) := [(0, [.aload 0, .iload 1, .aload 0, .getfield 403, .arraylength, .invokestatic 995, .putfield 404, .aload 0, .iconst 0, .putfield 405, .aload 0, .iconst 0, .putfield 401, .aload 0, .iconst (-1), .putfield 402, .aload 0, .iconst 0, .iconst 0, .invokevirtual 40, .aload 0, .getfield 405, .aload 0, .getfield 404, .if_icmp .ge 350049, .aload 0, .invokevirtual 37, .goto_w 350049]),
  (49, [.return_])]
def tm_B_X4_sign : List (Nat × List Instr) := [(0, [.aload 0, .getfield 402, .ifCond .ge 360034, .aload 0, .getfield 405, .aload 0, .getfield 404, .if_icmp .ge 360034, .aload 0, .getfield 403, .aload 0, .getfield 405, .baload, .iconst 255, .iand, .goto 360035]),
  (34, [.iconst (-1), .goto_w 360035]),
  (35, [.ireturn])]
def tm_B_X4_failHere : List (Nat × List Instr) := [(0, [.aload 0, .getfield 402, .ifCond .ge 370015, .aload 0, .aload 0, .getfield 405, .putfield 402, .goto_w 370015]),
  (15, [.return_])]
def tm_B_X4_emit : List (Nat × List Instr) := [(0, [.aload 0, .getfield 401, .iconst 60, .if_icmp .ge 380029, .aload 0, .getfield 400, .aload 0, .getfield 401, .iload 1, .iastore, .aload 0, .dup, .getfield 401, .iconst 1, .iadd, .putfield 401, .goto_w 380029]),
  (29, [.return_])]
def tm_B_X4_levelOf : List (Nat × List Instr) := [(0, [.iload 0, .lookupswitch 390094 #[(38, 390086), (42, 390092), (43, 390090), (45, 390090), (47, 390092), (60, 390088), (61, 390088), (62, 390088), (124, 390084)]]),
  (84, [.iconst 0, .ireturn]),
  (86, [.iconst 1, .ireturn]),
  (88, [.iconst 2, .ireturn]),
  (90, [.iconst 3, .ireturn]),
  (92, [.iconst 4, .ireturn]),
  (94, [.iconst (-1), .ireturn])]
def tm_B_X4_readJoined : List (Nat × List Instr) := [(0, [.aload 0, .iload 2, .invokevirtual 41, .iconst 4, .istore 3, .iconst 0, .istore 4, .goto_w 400010]),
  (10, [.iload 4, .iconst 60, .if_icmp .ge 400090, .aload 0, .invokevirtual 36, .invokestatic 39, .iload 1, .iload 3, .invokestatic 140, .ifCond .eq 400090, .aload 0, .invokevirtual 36, .istore 5, .iload 5, .invokestatic 39, .istore 6, .aload 0, .dup, .getfield 405, .iconst 1, .iadd, .putfield 405, .aload 0, .iload 6, .iconst 1, .iadd, .iload 2, .invokevirtual 40, .aload 0, .iload 5, .ineg, .invokevirtual 38, .iload 6, .iconst 2, .if_icmp .ne 400081, .iconst 1, .goto 400083]),
  (81, [.iload 6, .goto_w 400083]),
  (83, [.istore 3, .iinc 4 1, .goto 400010]),
  (90, [.return_])]
def tm_B_X4_readSingle : List (Nat × List Instr) := [(0, [.aload 0, .invokevirtual 36, .istore 2, .iload 2, .iconst 48, .iconst 57, .invokestatic 140, .ifCond .eq 410023, .aload 0, .invokevirtual 43, .goto 410132]),
  (23, [.iload 2, .iconst 97, .iconst 102, .invokestatic 140, .ifCond .eq 410055, .aload 0, .dup, .getfield 405, .iconst 1, .iadd, .putfield 405, .aload 0, .iconst 96, .iload 2, .isub, .invokevirtual 38, .goto 410132]),
  (55, [.iload 2, .iconst 33, .if_icmp .ne 410092, .iload 1, .iconst 5, .if_icmp .ge 410092, .aload 0, .dup, .getfield 405, .iconst 1, .iadd, .putfield 405, .aload 0, .iload 1, .iconst 1, .iadd, .invokevirtual 41, .aload 0, .iconst (-33), .invokevirtual 38, .goto 410132]),
  (92, [.iload 2, .iconst 40, .if_icmp .ne 410128, .iload 1, .iconst 5, .if_icmp .ge 410128, .aload 0, .dup, .getfield 405, .iconst 1, .iadd, .putfield 405, .aload 0, .iconst 0, .iload 1, .iconst 1, .iadd, .invokevirtual 40, .aload 0, .invokevirtual 42, .goto 410132]),
  (128, [.aload 0, .invokevirtual 37, .goto_w 410132]),
  (132, [.return_])]
def tm_B_X4_close : List (Nat × List Instr) := [(0, [.aload 0, .invokevirtual 36, .iconst 41, .if_icmp .ne 420022, .aload 0, .dup, .getfield 405, .iconst 1, .iadd, .putfield 405, .goto 420026]),
  (22, [.aload 0, .invokevirtual 37, .goto_w 420026]),
  (26, [.return_])]
def tm_B_X4_readNumber : List (Nat × List Instr) := [(0, [.iconst 0, .istore 1, .iconst 0, .istore 2, .goto_w 430004]),
  (4, [.iload 2, .iconst 4, .if_icmp .ge 430052, .aload 0, .invokevirtual 36, .iconst 48, .iconst 57, .invokestatic 140, .ifCond .eq 430052, .iload 1, .iconst 10, .imul, .aload 0, .invokevirtual 36, .iadd, .iconst 48, .isub, .istore 1, .aload 0, .dup, .getfield 405, .iconst 1, .iadd, .putfield 405, .iinc 2 1, .goto 430004]),
  (52, [.aload 0, .iload 1, .invokevirtual 38, .return_])]
def tm_B_X5_init : List (Nat × List Instr) := [(0, [.aload 0, .invokespecial 999, .aload 0, .iconst 24, .newarray .int, .putstatic 504, .aload 0, .iconst 25, .newarray .int, .putstatic 505, .aload 0, .iconst 12, .newarray .int, .putstatic 506, .aload 0, .iconst 12, .newarray .int, .putstatic 507, .aload 0, .iconst 12, .newarray .int, .putstatic 508, .aload 0, .iconst 12, .newarray .int, .putstatic 509, .aload 0, .iconst 12, .newarray .int, .putstatic 510, .aload 0, .iconst 325, .newarray .int, .putstatic 511, .aload 0, .iconst 25, .newarray .int, .putstatic 512, .aload 0, .iconst 4, .invokevirtual 45, .return_])]
def tm_B_X5_lay : List (Nat × List Instr) := [(0, [.aload 0, .iload 1, .putfield 500, .aload 0, .iconst 1, .iconst 1, .iload 1, .ishl, .ior, .putfield 502, .aload 0, .iconst 0, .putfield 503, .aload 0, .getfield 504, .iconst 0, .invokestatic 257, .return_])]
def tm_B_X5_hasMat : List (Nat × List Instr) := [(0, [.aload 0, .getfield 502, .iload 1, .ishr, .iconst 1, .iand, .iconst 1, .if_icmp .ne 460016, .iconst 1, .goto 460017]),
  (16, [.iconst 0, .goto_w 460017]),
  (17, [.freturn])]
def tm_B_X5_addWay : List (Nat × List Instr) := [(0, [.aload 0, .getfield 506, .aload 0, .getfield 503, .iload 1, .iconst 100, .idiv, .iastore, .aload 0, .getfield 507, .aload 0, .getfield 503, .iload 1, .iconst 100, .irem, .iastore, .aload 0, .getfield 508, .aload 0, .getfield 503, .iload 2, .iastore, .aload 0, .getfield 509, .aload 0, .getfield 503, .iload 3, .iastore, .aload 0, .getfield 510, .aload 0, .getfield 503, .iload 4, .iastore, .aload 0, .dup, .getfield 503, .iconst 1, .iadd, .putfield 503, .aload 0, .getfield 503, .iconst 1, .isub, .ireturn])]
def tm_B_X5_leads : List (Nat × List Instr) := [(0, [.aload 0, .getfield 506, .iload 1, .iaload, .iload 2, .if_icmp .ne 480032, .aload 0, .getfield 510, .iload 1, .iaload, .ifCond .eq 480023, .iconst 1, .goto 480024]),
  (23, [.iconst 0, .goto_w 480024]),
  (24, [.iload 3, .if_icmp .ne 480032, .iconst 1, .goto 480033]),
  (32, [.iconst 0, .goto_w 480033]),
  (33, [.freturn])]
def tm_B_X5_arrival : List (Nat × List Instr) := [(0, [.aload 0, .iload 1, .iload 2, .invokevirtual 50, .aload 0, .getfield 508, .iload 1, .iaload, .iadd, .ireturn])]
def tm_B_X5_leaving : List (Nat × List Instr) := [(0, [.aload 0, .getfield 509, .iload 1, .iaload, .istore 3, .aload 0, .getfield 510, .iload 1, .iaload, .istore 4, .iload 4, .ifCond .ne 500022, .iload 2, .ireturn]),
  (22, [.iload 2, .iload 3, .if_icmp .gt 500029, .iload 3, .ireturn]),
  (29, [.iload 3, .iload 2, .iload 3, .isub, .iload 4, .iadd, .iconst 1, .isub, .iload 4, .idiv, .iload 4, .imul, .iadd, .ireturn])]
def tm_B_X5_reach : List (Nat × List Instr) := [(0, [.aload 0, .getfield 511, .iconst 1000000000, .invokestatic 257, .aload 0, .getfield 511, .iload 1, .iload 2, .iastore, .iload 1, .istore 4, .goto_w 510019]),
  (19, [.iload 4, .aload 0, .getfield 500, .if_icmp .ge 510105, .iconst 0, .istore 5, .goto_w 510031]),
  (31, [.iload 5, .aload 0, .getfield 503, .if_icmp .gt 510099, .aload 0, .getfield 511, .iload 5, .iconst 25, .imul, .iload 4, .iadd, .iaload, .istore 6, .iload 6, .iconst 1000000000, .if_icmp .ne 510065, .goto 510093]),
  (65, [.iload 3, .ifCond .le 510083, .aload 0, .iload 5, .iload 4, .iconst 1, .iadd, .iload 6, .iload 3, .iadd, .invokevirtual 53, .goto_w 510083]),
  (83, [.aload 0, .iload 5, .iload 4, .iload 6, .invokevirtual 52, .goto_w 510093]),
  (93, [.iinc 5 1, .goto 510031]),
  (99, [.iinc 4 1, .goto 510019]),
  (105, [.return_])]
def tm_B_X5_goOnByWays : List (Nat × List Instr) := [(0, [.iconst 0, .istore 4, .goto_w 520003]),
  (3, [.iload 4, .aload 0, .getfield 503, .if_icmp .ge 520058, .iload 1, .aload 0, .getfield 503, .if_icmp .ge 520058, .aload 0, .getfield 506, .iload 4, .iaload, .iload 2, .if_icmp .ne 520052, .aload 0, .iload 1, .iconst 1, .iadd, .aload 0, .getfield 507, .iload 4, .iaload, .aload 0, .iload 4, .iload 3, .invokevirtual 49, .invokevirtual 53, .goto_w 520052]),
  (52, [.iinc 4 1, .goto 520003]),
  (58, [.return_])]
def tm_B_X5_arrive : List (Nat × List Instr) := [(0, [.iload 1, .iconst 25, .imul, .iload 2, .iadd, .istore 4, .aload 0, .getfield 511, .iload 4, .aload 0, .getfield 511, .iload 4, .iaload, .iload 3, .invokestatic 995, .iastore, .return_])]
def tm_B_X5_soonest : List (Nat × List Instr) := [(0, [.iconst 1000000000, .istore 3, .iload 2, .istore 4, .goto_w 540006]),
  (6, [.iload 4, .aload 0, .getfield 503, .if_icmp .gt 540038, .iload 3, .aload 0, .getfield 511, .iload 4, .iconst 25, .imul, .iload 1, .iadd, .iaload, .invokestatic 995, .istore 3, .iinc 4 1, .goto 540006]),
  (38, [.iload 3, .ireturn])]
def tm_B_X5_waysFor : List (Nat × List Instr) := [(0, [.iconst 0, .istore 3, .goto_w 550002]),
  (2, [.iload 3, .aload 0, .getfield 503, .if_icmp .ge 550031, .aload 0, .getfield 511, .iload 3, .iconst 25, .imul, .iload 1, .iadd, .iaload, .iload 2, .if_icmp .eq 550031, .iinc 3 1, .goto 550002]),
  (31, [.iload 3, .ireturn])]
def tm_B_X5_fewestMats : List (Nat × List Instr) := [(0, [.aload 0, .getfield 500, .istore 1, .goto_w 560005]),
  (5, [.iload 1, .ifCond .lt 560055, .aload 0, .iload 1, .invokevirtual 57, .istore 2, .aload 0, .getfield 512, .iload 1, .iconst 0, .iastore, .iload 2, .aload 0, .getfield 500, .if_icmp .gt 560049, .aload 0, .getfield 512, .iload 1, .iconst 1, .aload 0, .getfield 512, .aload 0, .iload 1, .iload 2, .invokevirtual 58, .iaload, .iadd, .iastore, .goto_w 560049]),
  (49, [.iinc 1 (-1), .goto 560005]),
  (55, [.iconst 0, .istore 1, .iconst 0, .istore 2, .iconst 0, .istore 3, .goto_w 560061]),
  (61, [.iload 3, .iconst 25, .if_icmp .ge 560099, .aload 0, .getfield 512, .iload 2, .iaload, .ifCond .le 560099, .aload 0, .iload 2, .aload 0, .iload 2, .invokevirtual 57, .invokevirtual 58, .istore 2, .iload 1, .iconst 1, .iload 2, .ishl, .ior, .istore 1, .iinc 3 1, .goto 560061]),
  (99, [.iload 1, .ireturn])]
def tm_B_X5_openEnd : List (Nat × List Instr) := [(0, [.aload 0, .getfield 500, .iconst 1, .iadd, .istore 2, .iconst 0, .istore 3, .goto_w 570009]),
  (9, [.iload 3, .aload 0, .getfield 503, .if_icmp .ge 570061, .aload 0, .getfield 506, .iload 3, .iaload, .iload 1, .if_icmp .lt 570055, .aload 0, .getfield 507, .iload 3, .iaload, .aload 0, .getfield 506, .iload 3, .iaload, .isub, .iconst 2, .if_icmp .lt 570055, .iload 2, .aload 0, .getfield 507, .iload 3, .iaload, .invokestatic 995, .istore 2, .goto_w 570055]),
  (55, [.iinc 3 1, .goto 570009]),
  (61, [.iload 2, .ireturn])]
def tm_B_X5_bestNext : List (Nat × List Instr) := [(0, [.iload 1, .iconst 1, .iadd, .istore 3, .iload 1, .iconst 2, .iadd, .istore 4, .goto_w 580009]),
  (9, [.iload 4, .iload 2, .if_icmp .ge 580040, .aload 0, .getfield 512, .iload 4, .iaload, .aload 0, .getfield 512, .iload 3, .iaload, .if_icmp .ge 580034, .iload 4, .istore 3, .goto_w 580034]),
  (34, [.iinc 4 1, .goto 580009]),
  (40, [.iload 3, .ireturn])]
def tm_B_X5_takeAll : List (Nat × List Instr) := [(0, [.aload 0, .aload 1, .getfield 500, .putfield 500, .aload 0, .aload 1, .getfield 501, .putfield 501, .aload 0, .aload 1, .getfield 502, .putfield 502, .aload 0, .aload 1, .getfield 503, .putfield 503, .aload 1, .getfield 504, .aload 0, .getfield 504, .invokestatic 152, .aload 1, .getfield 505, .aload 0, .getfield 505, .invokestatic 152, .aload 1, .getfield 506, .aload 0, .getfield 506, .invokestatic 152, .aload 1, .getfield 507, .aload 0, .getfield 507, .invokestatic 152, .aload 1, .getfield 508, .aload 0, .getfield 508, .invokestatic 152, .aload 1, .getfield 509, .aload 0, .getfield 509, .invokestatic 152, .aload 1, .getfield 510, .aload 0, .getfield 510, .invokestatic 152, .return_])]
def tm_B_X6_init : List (Nat × List Instr) := [(0, [.aload 0, .invokespecial 999, .aload 0, .iconst 12, .newarray .int, .putstatic 601, .aload 0, .iconst 12, .newarray .int, .putstatic 602, .aload 0, .iconst 12, .newarray .int, .putstatic 603, .aload 0, .iconst 96, .newarray .int, .putstatic 604, .aload 0, .iconst 96, .newarray .int, .putstatic 605, .aload 0, .iconst 96, .newarray .int, .putstatic 606, .aload 0, .iconst 8, .newarray .int, .putstatic 607, .return_])]
def tm_B_X6_add : List (Nat × List Instr) := [(0, [.aload 0, .getfield 601, .aload 0, .getfield 600, .iload 1, .iastore, .aload 0, .getfield 602, .aload 0, .getfield 600, .iload 2, .iastore, .aload 0, .getfield 603, .aload 0, .getfield 600, .iconst 0, .iastore, .aload 0, .dup, .getfield 600, .iconst 1, .iadd, .putfield 600, .aload 0, .getfield 600, .iconst 1, .isub, .ireturn])]
def tm_B_X6_enter : List (Nat × List Instr) := [(0, [.iload 1, .iconst 8, .imul, .aload 0, .getfield 603, .iload 1, .iaload, .iadd, .istore 5, .aload 0, .getfield 604, .iload 5, .iload 2, .iastore, .aload 0, .getfield 605, .iload 5, .iload 3, .iastore, .aload 0, .getfield 606, .iload 5, .iload 4, .iastore, .aload 0, .getfield 603, .iload 1, .dup2, .iaload, .iconst 1, .iadd, .iastore, .aload 0, .getfield 603, .iload 1, .iaload, .ireturn])]
def tm_B_X6_allEntries : List (Nat × List Instr) := [(0, [.iconst 0, .istore 1, .iconst 0, .istore 2, .goto_w 630004]),
  (4, [.iload 2, .aload 0, .getfield 600, .if_icmp .ge 630027, .iload 1, .aload 0, .getfield 603, .iload 2, .iaload, .iadd, .istore 1, .iinc 2 1, .goto 630004]),
  (27, [.iload 1, .ireturn])]
def tm_B_X6_clashesOf : List (Nat × List Instr) := [(0, [.aload 0, .iload 1, .invokevirtual 67, .iconst 0, .istore 2, .iconst 0, .istore 3, .goto_w 640009]),
  (9, [.iload 3, .aload 0, .getfield 603, .iload 1, .iaload, .if_icmp .ge 640039, .iload 2, .aload 0, .getfield 607, .iload 3, .iaload, .iload 3, .ishr, .invokestatic 256, .iadd, .istore 2, .iinc 3 1, .goto 640009]),
  (39, [.iload 2, .ireturn])]
def tm_B_X6_mostWithoutClash : List (Nat × List Instr) := [(0, [.aload 0, .iload 1, .invokevirtual 67, .iconst 0, .istore 2, .iconst 0, .istore 3, .goto_w 650009]),
  (9, [.iload 3, .iconst 1, .aload 0, .getfield 603, .iload 1, .iaload, .ishl, .if_icmp .ge 650054, .iload 3, .invokestatic 256, .iload 2, .if_icmp .le 650048, .aload 0, .iload 3, .aload 0, .getfield 603, .iload 1, .iaload, .invokevirtual 66, .ifCond .eq 650048, .iload 3, .invokestatic 256, .istore 2, .goto_w 650048]),
  (48, [.iinc 3 1, .goto 650009]),
  (54, [.iload 2, .ireturn])]
def tm_B_X6_isClashFree : List (Nat × List Instr) := [(0, [.iconst 0, .istore 3, .goto_w 660002]),
  (2, [.iload 3, .iload 2, .if_icmp .ge 660035, .iload 1, .iload 3, .ishr, .iconst 1, .iand, .iconst 1, .if_icmp .ne 660029, .aload 0, .getfield 607, .iload 3, .iaload, .iload 1, .iand, .ifCond .eq 660029, .iconst 0, .freturn]),
  (29, [.iinc 3 1, .goto 660002]),
  (35, [.iconst 1, .freturn])]
def tm_B_X6_findRivals : List (Nat × List Instr) := [(0, [.iconst 0, .istore 2, .goto_w 670002]),
  (2, [.iload 2, .aload 0, .getfield 603, .iload 1, .iaload, .if_icmp .ge 670079, .aload 0, .getfield 607, .iload 2, .iconst 0, .iastore, .iconst 0, .istore 3, .goto_w 670021]),
  (21, [.iload 3, .aload 0, .getfield 603, .iload 1, .iaload, .if_icmp .ge 670073, .iload 3, .iload 2, .if_icmp .eq 670067, .aload 0, .iload 1, .iconst 8, .imul, .iload 2, .iadd, .iload 1, .iconst 8, .imul, .iload 3, .iadd, .invokevirtual 68, .ifCond .eq 670067, .aload 0, .getfield 607, .iload 2, .dup2, .iaload, .iconst 1, .iload 3, .ishl, .ior, .iastore, .goto_w 670067]),
  (67, [.iinc 3 1, .goto 670021]),
  (73, [.iinc 2 1, .goto 670002]),
  (79, [.return_])]
def tm_B_X6_clash : List (Nat × List Instr) := [(0, [.aload 0, .getfield 605, .iload 1, .iaload, .aload 0, .getfield 605, .iload 2, .iaload, .isub, .invokestatic 996, .iconst 3, .idiv, .istore 3, .aload 0, .getfield 604, .iload 1, .iaload, .aload 0, .getfield 604, .iload 2, .iaload, .if_icmp .ne 680084, .aload 0, .getfield 606, .iload 1, .iaload, .iconst 100, .irem, .iload 3, .iadd, .aload 0, .getfield 606, .iload 2, .iaload, .iconst 100, .idiv, .if_icmp .le 680084, .aload 0, .getfield 606, .iload 2, .iaload, .iconst 100, .irem, .iload 3, .iadd, .aload 0, .getfield 606, .iload 1, .iaload, .iconst 100, .idiv, .if_icmp .le 680084, .iconst 1, .goto 680085]),
  (84, [.iconst 0, .goto_w 680085]),
  (85, [.freturn])]
def tm_B_X6_takeAll : List (Nat × List Instr) := [(0, [.aload 0, .aload 1, .getfield 600, .putfield 600, .aload 1, .getfield 601, .aload 0, .getfield 601, .invokestatic 152, .aload 1, .getfield 602, .aload 0, .getfield 602, .invokestatic 152, .aload 1, .getfield 603, .aload 0, .getfield 603, .invokestatic 152, .aload 1, .getfield 604, .aload 0, .getfield 604, .invokestatic 152, .aload 1, .getfield 605, .aload 0, .getfield 605, .invokestatic 152, .aload 1, .getfield 606, .aload 0, .getfield 606, .invokestatic 152, .return_])]
def tm_B_X7_init : List (Nat × List Instr) := [(0, [.aload 0, .invokespecial 999, .aload 0, .iconst 24, .newarray .int, .putstatic 702, .aload 0, .iconst 24, .newarray .int, .putstatic 703, .return_])]
def tm_B_X7_begin : List (Nat × List Instr) := [(0, [.aload 0, .iload 1, .putfield 700, .aload 0, .iload 1, .ifCond .ne 710014, .iconst 0, .goto 710015]),
  (14, [.iload 2, .goto_w 710015]),
  (15, [.putfield 701, .aload 0, .getfield 702, .iconst 0, .invokestatic 257, .return_])]
def tm_B_X7_set : List (Nat × List Instr) := [(0, [.aload 0, .getfield 702, .iload 1, .aload 0, .getfield 700, .iconst 8, .if_icmp .ne 720019, .iload 2, .i2b, .goto 720034]),
  (19, [.aload 0, .getfield 700, .iconst 16, .if_icmp .ne 720033, .iload 2, .i2s, .goto 720034]),
  (33, [.iload 2, .goto_w 720034]),
  (34, [.iastore, .return_])]
def tm_B_X7_holds : List (Nat × List Instr) := [(0, [.iload 1, .ifCond .lt 730026, .iload 2, .ifCond .lt 730026, .iload 1, .i2l, .iload 2, .i2l, .ladd, .aload 0, .getfield 701, .i2l, .lcmp, .ifCond .gt 730026, .iconst 1, .goto 730027]),
  (26, [.iconst 0, .goto_w 730027]),
  (27, [.freturn])]
def tm_B_X7_breakPlace : List (Nat × List Instr) := [(0, [.iconst 1, .istore 1, .iconst 2, .istore 2, .goto_w 740004]),
  (4, [.iload 2, .aload 0, .getfield 701, .if_icmp .ge 740034, .aload 0, .iload 2, .invokevirtual 75, .aload 0, .iload 1, .invokevirtual 75, .lcmp, .ifCond .ge 740028, .iload 2, .istore 1, .goto_w 740028]),
  (28, [.iinc 2 1, .goto 740004]),
  (34, [.iload 1, .ireturn])]
def tm_B_X7_brokenSum : List (Nat × List Instr) := [(0, [.aload 0, .iconst 0, .iload 1, .invokevirtual 76, .aload 0, .iload 1, .aload 0, .getfield 701, .invokevirtual 76, .ladd, .lreturn])]
def tm_B_X7_spread : List (Nat × List Instr) := [(0, [.iload 2, .iload 1, .isub, .istore 3, .aload 0, .iload 1, .iload 3, .invokevirtual 77, .ldc2_w 0, .lstore 4, .iconst 0, .istore 6, .goto_w 760016]),
  (16, [.iload 6, .iload 3, .if_icmp .ge 760056, .lload 4, .aload 0, .getfield 703, .iload 6, .iaload, .i2l, .aload 0, .getfield 703, .iload 3, .iconst 1, .isub, .iconst 2, .idiv, .iaload, .i2l, .lsub, .invokestatic 997, .ladd, .lstore 4, .iinc 6 1, .goto 760016]),
  (56, [.lload 4, .lreturn])]
def tm_B_X7_sortPart : List (Nat × List Instr) := [(0, [.iconst 0, .istore 3, .goto_w 770002]),
  (2, [.iload 3, .iload 2, .if_icmp .ge 770076, .aload 0, .getfield 702, .iload 1, .iload 3, .iadd, .iaload, .istore 4, .iload 3, .istore 5, .goto_w 770020]),
  (20, [.iload 5, .ifCond .le 770061, .aload 0, .getfield 703, .iload 5, .iconst 1, .isub, .iaload, .iload 4, .if_icmp .le 770061, .aload 0, .getfield 703, .iload 5, .aload 0, .getfield 703, .iload 5, .iconst 1, .isub, .iaload, .iastore, .iinc 5 (-1), .goto 770020]),
  (61, [.aload 0, .getfield 703, .iload 5, .iload 4, .iastore, .iinc 3 1, .goto 770002]),
  (76, [.return_])]
def tm_B_X8_init : List (Nat × List Instr) := [(0, [.aload 0, .invokespecial 999, .aload 0, .iconst 60, .newarray .int, .putstatic 800, .aload 0, .iconst 60, .newarray .int, .putstatic 802, .return_])]
def tm_B_X8_takeCode : List (Nat × List Instr) := [(0, [.aload 1, .aload 0, .getfield 800, .invokestatic 152, .aload 0, .iload 2, .putfield 801, .return_])]
def tm_B_X8_value : List (Nat × List Instr) := [(0, [.iconst 0, .istore 2, .iconst 0, .istore 3, .goto_w 800004]),
  (4, [.iload 3, .aload 0, .getfield 801, .if_icmp .ge 800145, .aload 0, .getfield 800, .iload 3, .iaload, .istore 4, .iload 4, .ifCond .lt 800039, .aload 0, .getfield 802, .iload 2, .iload 4, .iastore, .iinc 2 1, .goto 800139]),
  (39, [.iload 4, .iconst (-6), .if_icmp .lt 800064, .aload 0, .getfield 802, .iload 2, .aload 1, .iconst (-1), .iload 4, .isub, .iaload, .iastore, .iinc 2 1, .goto 800139]),
  (64, [.iload 4, .iconst (-33), .if_icmp .ne 800103, .iload 2, .iconst 1, .if_icmp .lt 800103, .aload 0, .getfield 802, .iload 2, .iconst 1, .isub, .aload 0, .getfield 802, .iload 2, .iconst 1, .isub, .iaload, .ifCond .ne 800098, .iconst 1, .goto 800099]),
  (98, [.iconst 0, .goto_w 800099]),
  (99, [.iastore, .goto 800139]),
  (103, [.iload 2, .iconst 2, .if_icmp .lt 800139, .iinc 2 (-1), .aload 0, .getfield 802, .iload 2, .iconst 1, .isub, .iload 4, .ineg, .aload 0, .getfield 802, .iload 2, .iconst 1, .isub, .iaload, .aload 0, .getfield 802, .iload 2, .iaload, .invokestatic 81, .iastore, .goto_w 800139]),
  (139, [.iinc 3 1, .goto 800004]),
  (145, [.aload 0, .getfield 802, .iconst 0, .iaload, .ireturn])]
def tm_B_X8_join : List (Nat × List Instr) := [(0, [.iload 0, .lookupswitch 810149 #[(38, 810090), (42, 810145), (43, 810137), (45, 810141), (60, 810104), (61, 810115), (62, 810126), (124, 810076)]]),
  (76, [.iload 1, .ifCond .ne 810084, .iload 2, .ifCond .eq 810088, .goto_w 810084]),
  (84, [.iconst 1, .goto 810089]),
  (88, [.iconst 0, .goto_w 810089]),
  (89, [.ireturn]),
  (90, [.iload 1, .ifCond .eq 810102, .iload 2, .ifCond .eq 810102, .iconst 1, .goto 810103]),
  (102, [.iconst 0, .goto_w 810103]),
  (103, [.ireturn]),
  (104, [.iload 1, .iload 2, .if_icmp .ge 810113, .iconst 1, .goto 810114]),
  (113, [.iconst 0, .goto_w 810114]),
  (114, [.ireturn]),
  (115, [.iload 1, .iload 2, .if_icmp .ne 810124, .iconst 1, .goto 810125]),
  (124, [.iconst 0, .goto_w 810125]),
  (125, [.ireturn]),
  (126, [.iload 1, .iload 2, .if_icmp .le 810135, .iconst 1, .goto 810136]),
  (135, [.iconst 0, .goto_w 810136]),
  (136, [.ireturn]),
  (137, [.iload 1, .iload 2, .iadd, .ireturn]),
  (141, [.iload 1, .iload 2, .isub, .ireturn]),
  (145, [.iload 1, .iload 2, .imul, .ireturn]),
  (149, [.iload 2, .ifCond .ne 810157, .iconst 0, .goto 810160]),
  (157, [.iload 1, .iload 2, .idiv, .goto_w 810160]),
  (160, [.ireturn])]
def tm_B_X9_init : List (Nat × List Instr) := [(0, [.aload 0, .invokespecial 999, .aload 0, .iconst 40, .newarray .int, .putstatic 900, .return_])]
def tm_B_X9_speak : List (Nat × List Instr) := [(0, [.aload 0, .iconst 0, .putfield 901, .aload 0, .aload 1, .getfield 101, .iload 2, .iaload, .putfield 902, .aload 0, .aload 1, .getfield 102, .iload 2, .iaload, .putfield 903, .aload 0, .aload 1, .getfield 103, .iload 2, .iaload, .putfield 904, .aload 0, .aload 0, .getfield 902, .iload 3, .iload 4, .iconst 0, .invokevirtual 84, .ireturn])]
def tm_B_X9_call : List (Nat × List Instr) := [(0, [.iload 1, .istore 5, .iconst 0, .istore 6, .goto_w 840006]),
  (6, [.iload 6, .iconst 7, .if_icmp .ge 840045, .iload 5, .ifCond .le 840045, .getstatic 1, .iload 5, .iconst 4, .imul, .iload 2, .iadd, .iaload, .ifCond .ne 840045, .getstatic 0, .iload 5, .iaload, .istore 5, .iinc 6 1, .goto 840006]),
  (45, [.iload 5, .ifCond .lt 840057, .iload 4, .iconst 40, .if_icmp .lt 840059, .goto_w 840057]),
  (57, [.iconst 0, .ireturn]),
  (59, [.getstatic 1, .iload 5, .iconst 4, .imul, .iload 2, .iadd, .iaload, .istore 6, .aload 0, .getfield 901, .iconst 40, .if_icmp .ge 840101, .aload 0, .getfield 900, .aload 0, .getfield 901, .iload 6, .iastore, .aload 0, .dup, .getfield 901, .iconst 1, .iadd, .putfield 901, .goto_w 840101]),
  (101, [.iload 5, .ifCond .ne 840120, .aload 0, .iload 6, .iload 3, .iload 4, .iconst 1, .iadd, .invokevirtual 85, .goto 840137]),
  (120, [.aload 0, .iload 6, .getstatic 0, .iload 5, .iaload, .iload 3, .iload 4, .iconst 1, .iadd, .invokevirtual 86, .goto_w 840137]),
  (137, [.ireturn])]
def tm_B_X9_sayGoing : List (Nat × List Instr) := [(0, [.iload 1, .tableswitch 850056 10 12 #[850028, 850035, 850049]]),
  (28, [.iload 2, .aload 0, .getfield 904, .iadd, .ireturn]),
  (35, [.aload 0, .aload 0, .getfield 902, .iconst 0, .iload 2, .iload 3, .invokevirtual 84, .iconst 2, .imul, .ireturn]),
  (49, [.iload 2, .aload 0, .getfield 903, .isub, .ireturn]),
  (56, [.aload 0, .aload 0, .getfield 902, .iconst 1, .iload 2, .iload 3, .invokevirtual 84, .aload 0, .aload 0, .getfield 902, .iconst 2, .iload 2, .iload 3, .invokevirtual 84, .ixor, .ireturn])]
def tm_B_X9_sayUnder : List (Nat × List Instr) := [(0, [.iload 1, .lookupswitch 860234 #[(20, 860084), (30, 860099), (31, 860111), (40, 860123), (50, 860146), (51, 860158), (60, 860173), (70, 860196), (80, 860219)]]),
  (84, [.aload 0, .iload 2, .iconst 2, .iload 3, .iload 4, .invokevirtual 84, .aload 0, .getfield 904, .iadd, .ireturn]),
  (99, [.aload 0, .iload 2, .iconst 0, .iload 3, .iconst 1, .iadd, .iload 4, .invokevirtual 84, .ireturn]),
  (111, [.aload 0, .iload 2, .iconst 2, .iload 3, .iload 4, .invokevirtual 84, .iconst 2, .imul, .ireturn]),
  (123, [.aload 0, .iload 2, .iconst 1, .iload 3, .iload 4, .invokevirtual 84, .aload 0, .aload 0, .getfield 902, .iconst 2, .iload 3, .iload 4, .invokevirtual 84, .isub, .ireturn]),
  (146, [.aload 0, .iload 2, .iconst 3, .iload 3, .iload 4, .invokevirtual 84, .iconst 1, .iadd, .ireturn]),
  (158, [.aload 0, .iload 2, .iconst 0, .iload 3, .aload 0, .getfield 903, .isub, .iload 4, .invokevirtual 84, .ireturn]),
  (173, [.aload 0, .iload 2, .iconst 2, .iload 3, .iload 4, .invokevirtual 84, .aload 0, .aload 0, .getfield 902, .iconst 0, .iload 3, .iload 4, .invokevirtual 84, .ixor, .ireturn]),
  (196, [.aload 0, .aload 0, .getfield 902, .iconst 2, .iload 3, .iload 4, .invokevirtual 84, .aload 0, .iload 2, .iconst 3, .iload 3, .iload 4, .invokevirtual 84, .isub, .ireturn]),
  (219, [.aload 0, .iload 2, .iconst 1, .iload 3, .aload 0, .getfield 904, .iadd, .iload 4, .invokevirtual 84, .ireturn]),
  (234, [.aload 0, .iload 2, .iconst 2, .iload 3, .iconst 1, .isub, .iload 4, .invokevirtual 84, .ireturn])]
def tm_B_X10_init : List (Nat × List Instr) := [(0, [.aload 0, .invokespecial 999, .aload 0, .new 5, .dup, .invokespecial 44, .putstatic 1000, .aload 0, .new 6, .dup, .invokespecial 60, .putstatic 1001, .aload 0, .new 1, .dup, .invokespecial 3, .putstatic 1002, .aload 0, .iconst 2, .anewarray 3, .dup, .iconst 0, .new 8, .dup, .invokespecial 78, .aastore, .dup, .iconst 1, .new 8, .dup, .invokespecial 78, .aastore, .putstatic 1003, .aload 0, .iconst 60, .newarray .byte, .putstatic 1004, .aload 0, .iconst 300, .newarray .int, .putstatic 1006, .aload 0, .iconst 1, .putfield 1009, .aload 0, .iconst 3, .putfield 1010, .aload 0, .getfield 1006, .iconst (-1), .invokestatic 257, .return_])]
def tm_B_X10_layRoad : List (Nat × List Instr) := [(0, [.aload 0, .getfield 1000, .iload 1, .invokevirtual 45, .aload 0, .getfield 1002, .iconst 0, .putfield 100, .aload 0, .invokevirtual 89, .return_])]
def tm_B_X10_forgetRace : List (Nat × List Instr) := [(0, [.aload 0, .getfield 1006, .iconst (-1), .invokestatic 257, .aload 0, .iconst 0, .putfield 1007, .return_])]
def tm_B_X10_minuteAt : List (Nat × List Instr) := [(0, [.aload 0, .getfield 1006, .iload 1, .iconst 25, .imul, .iload 2, .iadd, .iaload, .ireturn])]
def tm_B_X10_isOff : List (Nat × List Instr) := [(0, [.aload 0, .getfield 1007, .iload 1, .ishr, .iconst 1, .iand, .iconst 1, .if_icmp .ne 910016, .iconst 1, .goto 910017]),
  (16, [.iconst 0, .goto_w 910017]),
  (17, [.freturn])]
def tm_B_X10_drawNext : List (Nat × List Instr) := [(0, [.aload 0, .aload 0, .getfield 1009, .iconst 25173, .imul, .iconst 13849, .iadd, .iconst 65535, .iand, .putfield 1009, .aload 0, .getfield 1009, .ireturn])]
def tm_B_X10_addBytes : List (Nat × List Instr) := [(0, [.iconst 0, .istore 4, .goto_w 930003]),
  (3, [.iload 4, .iload 3, .if_icmp .ge 930036, .aload 0, .getfield 1004, .aload 0, .getfield 1005, .iload 4, .iadd, .lload 1, .iconst 8, .iload 4, .imul, .lshr, .l2i, .i2b, .bastore, .iinc 4 1, .goto 930003]),
  (36, [.aload 0, .dup, .getfield 1005, .iload 3, .iadd, .putfield 1005, .return_])]
def tm_B_X10_takeAll : List (Nat × List Instr) := [(0, [.aload 0, .getfield 1000, .aload 1, .getfield 1000, .invokevirtual 59, .aload 0, .getfield 1001, .aload 1, .getfield 1001, .invokevirtual 69, .aload 0, .getfield 1002, .aload 1, .getfield 1002, .invokevirtual 8, .iconst 0, .istore 2, .goto_w 940035]),
  (35, [.iload 2, .aload 0, .getfield 1003, .arraylength, .if_icmp .ge 940077, .aload 0, .getfield 1003, .iload 2, .aaload, .aload 1, .getfield 1003, .iload 2, .aaload, .getfield 800, .aload 1, .getfield 1003, .iload 2, .aaload, .getfield 801, .invokevirtual 79, .iinc 2 1, .goto 940035]),
  (77, [.aload 1, .getfield 1006, .aload 0, .getfield 1006, .invokestatic 152, .aload 1, .getfield 1004, .iconst 0, .aload 0, .getfield 1004, .iconst 0, .iconst 60, .invokestatic 998, .aload 0, .aload 1, .getfield 1005, .putfield 1005, .aload 0, .aload 1, .getfield 1007, .putfield 1007, .aload 0, .aload 1, .getfield 1008, .putfield 1008, .aload 0, .aload 1, .getfield 1009, .putfield 1009, .aload 0, .aload 1, .getfield 1010, .putfield 1010, .return_])]
def tm_B_X11_init : List (Nat × List Instr) := [(0, [.aload 0, .invokespecial 999, .aload 0, .new 10, .dup, .invokespecial 87, .putstatic 1100, .aload 0, .new 10, .dup, .invokespecial 87, .putstatic 1101, .aload 0, .new 3, .dup, .aload 0, .getfield 1100, .invokespecial 23, .putstatic 1102, .aload 0, .new 2, .dup, .aload 0, .getfield 1100, .invokespecial 9, .putstatic 1103, .aload 0, .new 4, .dup, .aload 0, .getfield 1100, .getfield 1004, .invokespecial 34, .putstatic 1104, .aload 0, .new 9, .dup, .invokespecial 82, .putstatic 1105, .aload 0, .iconst 4, .anewarray 4, .dup, .iconst 0, .new 7, .dup, .invokespecial 70, .aastore, .dup, .iconst 1, .new 7, .dup, .invokespecial 70, .aastore, .dup, .iconst 2, .new 7, .dup, .invokespecial 70, .aastore, .dup, .iconst 3, .new 7, .dup, .invokespecial 70, .aastore, .putstatic 1106, .aload 0, .iconst 6, .newarray .int, .putstatic 1107, .return_])]
def tm_B_X11_road : List (Nat × List Instr) := [(0, [.iload 1, .iconst 4, .iconst 24, .invokestatic 140, .ifCond .ne 960016, .aload 0, .iconst 1, .invokevirtual 139, .ireturn]),
  (16, [.aload 0, .getfield 1100, .iload 1, .invokevirtual 88, .iload 1, .ireturn])]
def tm_B_X11_climb : List (Nat × List Instr) := [(0, [.aload 0, .iload 1, .invokevirtual 141, .ifCond .eq 970019, .iload 2, .iconst (-4), .iconst 9, .invokestatic 140, .ifCond .ne 970025, .goto_w 970019]),
  (19, [.aload 0, .iconst 1, .invokevirtual 139, .ireturn]),
  (25, [.aload 0, .getfield 1100, .getfield 1000, .getfield 504, .iload 1, .iaload, .istore 3, .aload 0, .getfield 1100, .getfield 1000, .getfield 504, .iload 1, .iload 2, .iastore, .iload 3, .ireturn])]
def tm_B_X11_heat : List (Nat × List Instr) := [(0, [.iload 1, .iconst 0, .iconst 9, .invokestatic 140, .ifCond .ne 980016, .aload 0, .iconst 1, .invokevirtual 139, .ireturn]),
  (16, [.aload 0, .getfield 1100, .getfield 1000, .getfield 501, .istore 2, .aload 0, .getfield 1100, .getfield 1000, .iload 1, .putfield 501, .iload 2, .ireturn])]
def tm_B_X11_mat : List (Nat × List Instr) := [(0, [.aload 0, .iload 1, .invokevirtual 143, .ifCond .ne 990014, .aload 0, .iconst 1, .invokevirtual 139, .ireturn]),
  (14, [.aload 0, .getfield 1100, .getfield 1000, .iload 1, .invokevirtual 46, .iload 2, .if_icmp .ne 990031, .iconst 0, .ireturn]),
  (31, [.aload 0, .getfield 1100, .getfield 1000, .dup, .getfield 502, .iconst 1, .iload 1, .ishl, .ixor, .putfield 502, .iconst 1, .ireturn])]
def tm_B_X11_deaf : List (Nat × List Instr) := [(0, [.aload 0, .iload 1, .invokevirtual 142, .ifCond .eq 1000018, .iload 2, .iconst 0, .iconst 9, .invokestatic 140, .ifCond .ne 1000024, .goto_w 1000018]),
  (18, [.aload 0, .iconst 1, .invokevirtual 139, .ireturn]),
  (24, [.aload 0, .getfield 1100, .getfield 1000, .getfield 505, .iload 1, .iaload, .istore 3, .aload 0, .getfield 1100, .getfield 1000, .getfield 505, .iload 1, .iload 2, .iastore, .iload 3, .ireturn])]
def tm_B_X11_way : List (Nat × List Instr) := [(0, [.iload 1, .ifCond .lt 1010061, .aload 0, .iload 1, .iconst 100, .idiv, .iload 1, .iconst 100, .irem, .invokevirtual 144, .ifCond .eq 1010061, .iload 2, .iconst 1, .iconst 300, .invokestatic 140, .ifCond .eq 1010061, .iload 4, .iconst 0, .iconst 99, .invokestatic 140, .ifCond .eq 1010061, .iload 4, .ifCond .eq 1010057, .iload 3, .iconst 0, .iconst 999, .invokestatic 140, .ifCond .eq 1010061, .goto_w 1010057]),
  (57, [.iconst 1, .goto 1010062]),
  (61, [.iconst 0, .goto_w 1010062]),
  (62, [.istore 5, .iload 5, .ifCond .ne 1010075, .aload 0, .iconst 1, .invokevirtual 139, .ireturn]),
  (75, [.aload 0, .getfield 1100, .getfield 1000, .getfield 503, .iconst 12, .if_icmp .lt 1010096, .aload 0, .iconst 4, .invokevirtual 139, .ireturn]),
  (96, [.aload 0, .getfield 1100, .getfield 1000, .iload 1, .iload 2, .iload 3, .iload 4, .invokevirtual 47, .ireturn])]
def tm_B_X11_earliest : List (Nat × List Instr) := [(0, [.aload 0, .iload 1, .iload 3, .invokevirtual 144, .ifCond .eq 1020041, .iload 2, .iconst 0, .iconst 2000, .invokestatic 140, .ifCond .eq 1020041, .iload 4, .iconst 0, .iconst 60, .invokestatic 140, .ifCond .eq 1020041, .iload 5, .iconst 0, .iconst 1, .invokestatic 140, .ifCond .ne 1020047, .goto_w 1020041]),
  (41, [.aload 0, .iconst 1, .invokevirtual 139, .ireturn]),
  (47, [.aload 0, .getfield 1100, .getfield 1000, .iload 1, .iload 2, .iload 4, .invokevirtual 51, .aload 0, .getfield 1100, .getfield 1000, .iload 3, .iconst 0, .invokevirtual 54, .istore 6, .iload 6, .iconst 1000000000, .if_icmp .ne 1020088, .aload 0, .iconst 2, .invokevirtual 139, .ireturn]),
  (88, [.iload 5, .ifCond .ne 1020098, .iload 6, .goto 1020111]),
  (98, [.aload 0, .getfield 1100, .getfield 1000, .iload 3, .iload 6, .invokevirtual 55, .goto_w 1020111]),
  (111, [.ireturn])]
def tm_B_X11_fewest : List (Nat × List Instr) := [(0, [.iload 1, .iconst 0, .iconst 1, .invokestatic 140, .ifCond .ne 1030015, .aload 0, .iconst 1, .invokevirtual 139, .ireturn]),
  (15, [.aload 0, .getfield 1100, .getfield 1000, .invokevirtual 56, .istore 2, .iload 1, .ifCond .ne 1030037, .iload 2, .invokestatic 256, .goto 1030038]),
  (37, [.iload 2, .goto_w 1030038]),
  (38, [.ireturn])]
def tm_B_X11_runner : List (Nat × List Instr) := [(0, [.iload 1, .iconst 1, .iconst 30, .invokestatic 140, .ifCond .eq 1040020, .iload 2, .iconst 0, .iconst 99, .invokestatic 140, .ifCond .ne 1040026, .goto_w 1040020]),
  (20, [.aload 0, .iconst 1, .invokevirtual 139, .ireturn]),
  (26, [.aload 0, .getfield 1100, .getfield 1001, .getfield 600, .iconst 12, .if_icmp .lt 1040047, .aload 0, .iconst 4, .invokevirtual 139, .ireturn]),
  (47, [.aload 0, .getfield 1100, .getfield 1001, .iload 1, .iload 2, .invokevirtual 61, .ireturn])]
def tm_B_X11_going : List (Nat × List Instr) := [(0, [.iload 1, .iconst 0, .iconst 7, .invokestatic 140, .ifCond .eq 1050037, .aload 0, .iload 2, .invokevirtual 145, .ifCond .eq 1050037, .aload 0, .iload 1, .iload 3, .invokevirtual 149, .ifCond .eq 1050037, .aload 0, .iload 1, .iload 4, .invokevirtual 150, .ifCond .ne 1050043, .goto_w 1050037]),
  (37, [.aload 0, .iconst 1, .invokevirtual 139, .ireturn]),
  (43, [.iload 1, .iconst 3, .if_icmp .eq 1050053, .iload 1, .iconst 4, .if_icmp .ne 1050088, .goto_w 1050053]),
  (53, [.aload 0, .getfield 1100, .getfield 1000, .iload 4, .iload 3, .iconst 100, .idiv, .iload 1, .iconst 4, .if_icmp .ne 1050075, .iconst 1, .goto 1050076]),
  (75, [.iconst 0, .goto_w 1050076]),
  (76, [.invokevirtual 48, .ifCond .ne 1050088, .aload 0, .iconst 5, .invokevirtual 139, .ireturn]),
  (88, [.aload 0, .getfield 1100, .getfield 1002, .getfield 100, .iconst 40, .if_icmp .lt 1050109, .aload 0, .iconst 4, .invokevirtual 139, .ireturn]),
  (109, [.aload 0, .getfield 1100, .getfield 1002, .iload 1, .iload 2, .iload 3, .iload 4, .invokevirtual 4, .ireturn])]
def tm_B_X11_forget : List (Nat × List Instr) := [(0, [.iload 1, .iconst 0, .aload 0, .getfield 1100, .getfield 1002, .getfield 100, .invokestatic 140, .ifCond .ne 1060024, .aload 0, .iconst 1, .invokevirtual 139, .ireturn]),
  (24, [.aload 0, .getfield 1100, .getfield 1002, .getfield 100, .iload 1, .isub, .istore 2, .aload 0, .getfield 1100, .getfield 1002, .iload 1, .putfield 100, .iload 2, .ireturn])]
def tm_B_X11_as : List (Nat × List Instr) := [(0, [.aload 0, .iload 1, .invokevirtual 146, .ifCond .eq 1070018, .iload 2, .iconst 0, .iconst 7, .invokestatic 140, .ifCond .ne 1070024, .goto_w 1070018]),
  (18, [.aload 0, .iconst 1, .invokevirtual 139, .ireturn]),
  (24, [.aload 0, .getfield 1100, .getfield 1002, .getfield 101, .iload 1, .iaload, .iload 2, .invokestatic 151, .ifCond .ne 1070049, .aload 0, .iconst 5, .invokevirtual 139, .ireturn]),
  (49, [.aload 0, .getfield 1100, .getfield 1002, .getfield 105, .iload 1, .iaload, .ireturn])]
def tm_B_X11_goingIs : List (Nat × List Instr) := [(0, [.aload 0, .iload 1, .invokevirtual 146, .ifCond .eq 1080017, .iload 2, .iconst 0, .iconst 4, .invokestatic 140, .ifCond .ne 1080023, .goto_w 1080017]),
  (17, [.aload 0, .iconst 1, .invokevirtual 139, .ireturn]),
  (23, [.iload 2, .tableswitch 1080108 0 3 #[1080056, 1080069, 1080082, 1080095]]),
  (56, [.aload 0, .getfield 1100, .getfield 1002, .getfield 101, .iload 1, .iaload, .ireturn]),
  (69, [.aload 0, .getfield 1100, .getfield 1002, .getfield 102, .iload 1, .iaload, .ireturn]),
  (82, [.aload 0, .getfield 1100, .getfield 1002, .getfield 103, .iload 1, .iaload, .ireturn]),
  (95, [.aload 0, .getfield 1100, .getfield 1002, .getfield 104, .iload 1, .iaload, .ireturn]),
  (108, [.aload 0, .getfield 1100, .getfield 1002, .getfield 105, .iload 1, .iaload, .ireturn])]
def tm_B_X11_draw : List (Nat × List Instr) := [(0, [.iload 1, .iconst 0, .iconst 65535, .invokestatic 140, .ifCond .ne 1090016, .aload 0, .iconst 1, .invokevirtual 139, .ireturn]),
  (16, [.aload 0, .getfield 1100, .getfield 1009, .istore 2, .aload 0, .getfield 1100, .iload 1, .putfield 1009, .iload 2, .ireturn])]
def tm_B_X11_race : List (Nat × List Instr) := [(0, [.aload 0, .getfield 1100, .invokevirtual 89, .iconst 0, .istore 1, .goto_w 1100009]),
  (9, [.iload 1, .aload 0, .getfield 1100, .getfield 1001, .getfield 600, .if_icmp .ge 1100062, .aload 0, .getfield 1102, .iload 1, .invokevirtual 26, .aload 0, .getfield 1102, .getfield 300, .ifCond .eq 1100056, .aload 0, .getfield 1100, .dup, .getfield 1007, .iconst 1, .iload 1, .ishl, .ior, .putfield 1007, .goto_w 1100056]),
  (56, [.iinc 1 1, .goto 1100009]),
  (62, [.iconst 0, .istore 1, .iconst 0, .istore 2, .goto_w 1100066]),
  (66, [.iload 2, .aload 0, .getfield 1100, .getfield 1001, .getfield 600, .if_icmp .ge 1100118, .aload 0, .getfield 1102, .iload 2, .invokevirtual 29, .aload 0, .getfield 1100, .iload 2, .aload 0, .getfield 1100, .getfield 1000, .getfield 500, .invokevirtual 90, .ifCond .lt 1100112, .iinc 1 1, .goto_w 1100112]),
  (112, [.iinc 2 1, .goto 1100066]),
  (118, [.aload 0, .getfield 1100, .dup, .getfield 1008, .iconst 1, .iadd, .putfield 1008, .iload 1, .ireturn])]
def tm_B_X11_would : List (Nat × List Instr) := [(0, [.aload 0, .iload 1, .invokevirtual 145, .ifCond .eq 1110016, .aload 0, .iload 2, .invokevirtual 142, .ifCond .ne 1110022, .goto_w 1110016]),
  (16, [.aload 0, .iconst 1, .invokevirtual 139, .ireturn]),
  (22, [.aload 0, .getfield 1102, .iload 1, .invokevirtual 26, .aload 0, .getfield 1102, .iload 1, .iload 2, .invokevirtual 24, .ireturn])]
def tm_B_X11_heard : List (Nat × List Instr) := [(0, [.aload 0, .iload 1, .invokevirtual 145, .ifCond .eq 1120016, .aload 0, .iload 2, .invokevirtual 142, .ifCond .ne 1120022, .goto_w 1120016]),
  (16, [.aload 0, .iconst 1, .invokevirtual 139, .ireturn]),
  (22, [.aload 0, .getfield 1100, .iload 1, .iload 2, .invokevirtual 90, .ireturn])]
def tm_B_X11_off : List (Nat × List Instr) := [(0, [.aload 0, .iload 1, .invokevirtual 145, .ifCond .ne 1130014, .aload 0, .iconst 1, .invokevirtual 139, .ireturn]),
  (14, [.aload 0, .getfield 1100, .iload 1, .invokevirtual 91, .ifCond .eq 1130029, .iconst 1, .goto 1130030]),
  (29, [.iconst 0, .goto_w 1130030]),
  (30, [.ireturn])]
def tm_B_X11_pace : List (Nat × List Instr) := [(0, [.aload 0, .iload 1, .invokevirtual 145, .ifCond .eq 1140052, .iload 2, .iconst 0, .iconst 24, .invokestatic 140, .ifCond .eq 1140052, .aload 0, .iload 3, .invokevirtual 141, .ifCond .eq 1140052, .iload 4, .iconst 0, .iconst 99, .invokestatic 140, .ifCond .eq 1140052, .iload 5, .iconst 0, .iconst 99, .invokestatic 140, .ifCond .eq 1140052, .iconst 1, .goto 1140053]),
  (52, [.iconst 0, .goto_w 1140053]),
  (53, [.istore 6, .iload 6, .ifCond .ne 1140066, .aload 0, .iconst 1, .invokevirtual 139, .ireturn]),
  (66, [.aload 0, .getfield 1102, .aload 0, .getfield 1100, .getfield 1001, .getfield 601, .iload 1, .iaload, .iload 2, .iload 3, .iload 4, .iload 5, .invokevirtual 25, .ireturn])]
def tm_B_X11_odds : List (Nat × List Instr) := [(0, [.aload 0, .iload 1, .invokevirtual 145, .ifCond .eq 1150049, .iload 2, .iconst 1, .iconst 8, .aload 0, .getfield 1100, .getfield 1000, .getfield 500, .invokestatic 995, .invokestatic 140, .ifCond .eq 1150049, .iload 3, .ifCond .lt 1150049, .iload 4, .iconst 0, .iconst 1, .invokestatic 140, .ifCond .eq 1150049, .iconst 1, .goto 1150050]),
  (49, [.iconst 0, .goto_w 1150050]),
  (50, [.istore 5, .iload 5, .ifCond .ne 1150063, .aload 0, .iconst 1, .invokevirtual 139, .ireturn]),
  (63, [.aload 0, .getfield 1102, .aload 0, .getfield 1100, .getfield 1001, .getfield 601, .iload 1, .iaload, .iload 2, .iload 3, .iload 4, .iconst 1, .if_icmp .ne 1150091, .iconst 1, .goto 1150092]),
  (91, [.iconst 0, .goto_w 1150092]),
  (92, [.invokevirtual 31, .ireturn])]
def tm_B_X11_feed : List (Nat × List Instr) := [(0, [.iload 3, .iconst 1, .iconst 8, .invokestatic 140, .ifCond .ne 1160016, .aload 0, .iconst 1, .invokevirtual 139, .ireturn]),
  (16, [.aload 0, .getfield 1100, .getfield 1005, .iload 3, .iadd, .iconst 60, .if_icmp .le 1160036, .aload 0, .iconst 4, .invokevirtual 139, .ireturn]),
  (36, [.aload 0, .getfield 1100, .lload 1, .iload 3, .invokevirtual 93, .aload 0, .getfield 1100, .getfield 1005, .ireturn])]
def tm_B_X11_text : List (Nat × List Instr) := [(0, [.iload 1, .iconst 0, .iconst 1, .invokestatic 140, .ifCond .ne 1170015, .aload 0, .iconst 1, .invokevirtual 139, .ireturn]),
  (15, [.aload 0, .getfield 1104, .aload 0, .getfield 1100, .getfield 1005, .invokevirtual 35, .aload 0, .getfield 1100, .iconst 0, .putfield 1005, .aload 0, .getfield 1104, .getfield 402, .ifCond .lt 1170058, .iconst (-10), .aload 0, .getfield 1104, .getfield 402, .isub, .ireturn]),
  (58, [.aload 0, .getfield 1100, .getfield 1003, .iload 1, .aaload, .aload 0, .getfield 1104, .getfield 400, .aload 0, .getfield 1104, .getfield 401, .invokevirtual 79, .iconst 1, .ireturn])]
def tm_B_X11_least : List (Nat × List Instr) := [(0, [.iload 1, .iconst 1, .iconst 30, .invokestatic 140, .ifCond .ne 1180016, .aload 0, .iconst 1, .invokevirtual 139, .ireturn]),
  (16, [.aload 0, .getfield 1100, .getfield 1010, .istore 2, .aload 0, .getfield 1100, .iload 1, .putfield 1010, .iload 2, .ireturn])]
def tm_B_X11_gap : List (Nat × List Instr) := [(0, [.aload 0, .iload 1, .invokevirtual 145, .ifCond .eq 1190017, .iload 3, .iconst 0, .iconst 4, .invokestatic 140, .ifCond .ne 1190023, .goto_w 1190017]),
  (17, [.aload 0, .iconst 1, .invokevirtual 139, .ireturn]),
  (23, [.aload 0, .getfield 1103, .iload 1, .iload 2, .invokevirtual 11, .ifCond .ne 1190041, .aload 0, .iconst 2, .invokevirtual 139, .ireturn]),
  (41, [.iload 3, .tableswitch 1190112 0 3 #[1190072, 1190080, 1190088, 1190096]]),
  (72, [.aload 0, .getfield 1103, .getfield 200, .ireturn]),
  (80, [.aload 0, .getfield 1103, .getfield 201, .ireturn]),
  (88, [.aload 0, .getfield 1103, .getfield 202, .ireturn]),
  (96, [.aload 0, .getfield 1103, .invokevirtual 12, .ifCond .eq 1190110, .iconst 1, .goto 1190111]),
  (110, [.iconst 0, .goto_w 1190111]),
  (111, [.ireturn]),
  (112, [.aload 0, .getfield 1103, .iload 1, .invokevirtual 13, .ifCond .eq 1190127, .iconst 1, .goto 1190128]),
  (127, [.iconst 0, .goto_w 1190128]),
  (128, [.ireturn])]
def tm_B_X11_company : List (Nat × List Instr) := [(0, [.iload 1, .iconst 0, .iconst 30, .invokestatic 140, .ifCond .eq 1200019, .iload 2, .iconst 0, .iconst 1, .invokestatic 140, .ifCond .ne 1200025, .goto_w 1200019]),
  (19, [.aload 0, .iconst 1, .invokevirtual 139, .ireturn]),
  (25, [.iconst 0, .istore 3, .iconst 0, .istore 4, .iconst 0, .istore 5, .goto_w 1200033]),
  (33, [.iload 5, .aload 0, .getfield 1100, .getfield 1001, .getfield 600, .if_icmp .ge 1200113, .iload 5, .iconst 1, .iadd, .istore 6, .goto_w 1200054]),
  (54, [.iload 6, .aload 0, .getfield 1100, .getfield 1001, .getfield 600, .if_icmp .ge 1200107, .aload 0, .getfield 1103, .iload 5, .iload 6, .iload 1, .invokevirtual 14, .ifCond .eq 1200101, .iinc 3 1, .iload 4, .iconst 1, .iload 5, .ishl, .iconst 1, .iload 6, .ishl, .ior, .ior, .istore 4, .goto_w 1200101]),
  (101, [.iinc 6 1, .goto 1200054]),
  (107, [.iinc 5 1, .goto 1200033]),
  (113, [.iload 2, .ifCond .ne 1200121, .iload 3, .goto 1200123]),
  (121, [.iload 4, .goto_w 1200123]),
  (123, [.ireturn])]
def tm_B_X11_misses : List (Nat × List Instr) := [(0, [.aload 0, .iload 1, .invokevirtual 143, .ifCond .eq 1210017, .iload 2, .iconst 0, .iconst 1, .invokestatic 140, .ifCond .ne 1210023, .goto_w 1210017]),
  (17, [.aload 0, .iconst 1, .invokevirtual 139, .ireturn]),
  (23, [.iconst 0, .istore 3, .iconst 0, .istore 4, .iconst 0, .istore 5, .goto_w 1210031]),
  (31, [.iload 5, .aload 0, .getfield 1100, .getfield 1001, .getfield 600, .if_icmp .ge 1210084, .aload 0, .getfield 1103, .iload 5, .iload 1, .invokevirtual 15, .ifCond .eq 1210078, .iinc 3 1, .aload 0, .getfield 1100, .iload 5, .iload 1, .invokevirtual 90, .ifCond .ge 1210078, .iinc 4 1, .goto_w 1210078]),
  (78, [.iinc 5 1, .goto 1210031]),
  (84, [.iload 2, .ifCond .ne 1210093, .iload 4, .goto 1210094]),
  (93, [.iload 3, .goto_w 1210094]),
  (94, [.ireturn])]
def tm_B_X11_parts : List (Nat × List Instr) := [(0, [.aload 0, .iload 1, .invokevirtual 147, .ifCond .eq 1220017, .iload 2, .iconst 0, .iconst 2, .invokestatic 140, .ifCond .ne 1220024, .goto_w 1220017]),
  (17, [.aload 0, .iconst 1, .invokevirtual 139, .i2l, .lreturn]),
  (24, [.aload 0, .getfield 1106, .iload 1, .aaload, .astore 3, .aload 3, .getfield 700, .ifCond .ne 1220045, .aload 0, .iconst 2, .invokevirtual 139, .i2l, .lreturn]),
  (45, [.aload 3, .getfield 701, .iconst 2, .if_icmp .ge 1220060, .aload 0, .iconst 3, .invokevirtual 139, .i2l, .lreturn]),
  (60, [.iload 2, .iconst 2, .if_icmp .ne 1220075, .aload 3, .iconst 0, .aload 3, .getfield 701, .invokevirtual 76, .lreturn]),
  (75, [.aload 3, .invokevirtual 74, .istore 4, .iload 2, .ifCond .ne 1220091, .iload 4, .i2l, .goto 1220097]),
  (91, [.aload 3, .iload 4, .invokevirtual 75, .goto_w 1220097]),
  (97, [.lreturn])]
def tm_B_X11_odd : List (Nat × List Instr) := [(0, [.aload 0, .iload 1, .invokevirtual 145, .ifCond .ne 1230014, .aload 0, .iconst 1, .invokevirtual 139, .ireturn]),
  (14, [.aload 0, .getfield 1103, .iload 1, .invokevirtual 16, .ireturn])]
def tm_B_X11_judge : List (Nat × List Instr) := [(0, [.iload 1, .iconst 0, .iconst 3, .invokestatic 140, .ifCond .ne 1240015, .aload 0, .iconst 1, .invokevirtual 139, .ireturn]),
  (15, [.iload 1, .ifCond .eq 1240024, .iload 1, .iconst 1, .if_icmp .ne 1240028, .goto_w 1240024]),
  (24, [.iconst 1, .goto 1240029]),
  (28, [.iconst 0, .goto_w 1240029]),
  (29, [.istore 2, .iload 1, .ifCond .eq 1240039, .iload 1, .iconst 2, .if_icmp .ne 1240043, .goto_w 1240039]),
  (39, [.iconst 1, .goto 1240044]),
  (43, [.iconst 0, .goto_w 1240044]),
  (44, [.istore 3, .iconst 0, .istore 4, .iconst 0, .istore 5, .goto_w 1240051]),
  (51, [.iload 5, .aload 0, .getfield 1100, .getfield 1001, .getfield 600, .if_icmp .ge 1240109, .aload 0, .getfield 1103, .iload 5, .invokevirtual 16, .ifCond .eq 1240082, .iconst 1, .goto 1240083]),
  (82, [.iconst 0, .goto_w 1240083]),
  (83, [.iload 2, .if_icmp .ne 1240103, .aload 0, .getfield 1100, .iload 5, .invokevirtual 91, .iload 3, .if_icmp .ne 1240103, .iinc 4 1, .goto_w 1240103]),
  (103, [.iinc 5 1, .goto 1240051]),
  (109, [.iload 4, .ireturn])]
def tm_B_X11_place : List (Nat × List Instr) := [(0, [.aload 0, .iload 1, .invokevirtual 145, .ifCond .eq 1250016, .aload 0, .iload 2, .invokevirtual 148, .ifCond .ne 1250022, .goto_w 1250016]),
  (16, [.aload 0, .iconst 1, .invokevirtual 139, .ireturn]),
  (22, [.aload 0, .getfield 1103, .iload 1, .iload 2, .invokevirtual 20, .ifCond .ne 1250040, .aload 0, .iconst 3, .invokevirtual 139, .ireturn]),
  (40, [.aload 0, .getfield 1103, .iload 1, .iload 2, .invokevirtual 21, .ireturn])]
def tm_B_X11_up : List (Nat × List Instr) := [(0, [.aload 0, .iload 1, .invokevirtual 148, .ifCond .ne 1260014, .aload 0, .iconst 1, .invokevirtual 139, .ireturn]),
  (14, [.iconst 0, .istore 2, .iconst 0, .istore 3, .goto_w 1260018]),
  (18, [.iload 3, .aload 0, .getfield 1100, .getfield 1001, .getfield 600, .if_icmp .ge 1260074, .aload 0, .getfield 1103, .iload 3, .iload 1, .invokevirtual 20, .ifCond .eq 1260068, .aload 0, .getfield 1103, .iload 3, .iload 1, .invokevirtual 21, .aload 0, .getfield 1103, .iload 3, .iconst 0, .invokevirtual 21, .if_icmp .ge 1260068, .iinc 2 1, .goto_w 1260068]),
  (68, [.iinc 3 1, .goto 1260018]),
  (74, [.iload 2, .ireturn])]
def tm_B_X11_entry : List (Nat × List Instr) := [(0, [.aload 0, .iload 1, .invokevirtual 145, .ifCond .eq 1270061, .iload 2, .iconst 0, .iconst 365, .invokestatic 140, .ifCond .eq 1270061, .iload 3, .iconst 0, .iconst 30, .invokestatic 140, .ifCond .eq 1270061, .iload 4, .ifCond .lt 1270061, .iload 4, .iconst 100, .irem, .iconst 24, .if_icmp .gt 1270061, .iload 4, .iconst 100, .idiv, .iload 4, .iconst 100, .irem, .if_icmp .ge 1270061, .iconst 1, .goto 1270062]),
  (61, [.iconst 0, .goto_w 1270062]),
  (62, [.istore 5, .iload 5, .ifCond .ne 1270075, .aload 0, .iconst 1, .invokevirtual 139, .ireturn]),
  (75, [.aload 0, .getfield 1100, .getfield 1001, .getfield 603, .iload 1, .iaload, .iconst 8, .if_icmp .lt 1270098, .aload 0, .iconst 4, .invokevirtual 139, .ireturn]),
  (98, [.aload 0, .getfield 1100, .getfield 1001, .iload 1, .iload 2, .iload 3, .iload 4, .invokevirtual 62, .ireturn])]
def tm_B_X11_same : List (Nat × List Instr) := [(0, [.aload 0, .iload 1, .invokevirtual 145, .ifCond .eq 1280017, .iload 2, .iconst 0, .iconst 1, .invokestatic 140, .ifCond .ne 1280023, .goto_w 1280017]),
  (17, [.aload 0, .iconst 1, .invokevirtual 139, .ireturn]),
  (23, [.iload 2, .ifCond .ne 1280041, .aload 0, .getfield 1100, .getfield 1001, .iload 1, .invokevirtual 64, .goto 1280052]),
  (41, [.aload 0, .getfield 1100, .getfield 1001, .iload 1, .invokevirtual 65, .goto_w 1280052]),
  (52, [.ireturn])]
def tm_B_X11_voice : List (Nat × List Instr) := [(0, [.aload 0, .iload 1, .invokevirtual 146, .ifCond .eq 1290017, .iload 2, .iconst 0, .iconst 3, .invokestatic 140, .ifCond .ne 1290023, .goto_w 1290017]),
  (17, [.aload 0, .iconst 1, .invokevirtual 139, .ireturn]),
  (23, [.aload 0, .getfield 1105, .aload 0, .getfield 1100, .getfield 1002, .iload 1, .iload 2, .iload 3, .invokevirtual 83, .ireturn])]
def tm_B_X11_trace : List (Nat × List Instr) := [(0, [.iload 1, .ifCond .lt 1300015, .iload 1, .aload 0, .getfield 1105, .getfield 901, .if_icmp .lt 1300021, .goto_w 1300015]),
  (15, [.aload 0, .iconst 2, .invokevirtual 139, .ireturn]),
  (21, [.aload 0, .getfield 1105, .getfield 900, .iload 1, .iaload, .ireturn])]
def tm_B_X11_sheet : List (Nat × List Instr) := [(0, [.aload 0, .iload 1, .invokevirtual 147, .ifCond .eq 1310030, .iload 2, .ifCond .eq 1310036, .iload 2, .iconst 8, .if_icmp .eq 1310036, .iload 2, .iconst 16, .if_icmp .eq 1310036, .iload 2, .iconst 32, .if_icmp .eq 1310036, .goto_w 1310030]),
  (30, [.aload 0, .iconst 1, .invokevirtual 139, .ireturn]),
  (36, [.iload 2, .ifCond .eq 1310050, .iload 3, .ifCond .ge 1310050, .aload 0, .iconst 3, .invokevirtual 139, .ireturn]),
  (50, [.iload 2, .ifCond .eq 1310066, .iload 3, .iconst 24, .if_icmp .le 1310066, .aload 0, .iconst 1, .invokevirtual 139, .ireturn]),
  (66, [.aload 0, .getfield 1106, .iload 1, .aaload, .iload 2, .iload 3, .invokevirtual 71, .iconst 1, .ireturn])]
def tm_B_X11_put : List (Nat × List Instr) := [(0, [.aload 0, .iload 1, .invokevirtual 147, .ifCond .ne 1320014, .aload 0, .iconst 1, .invokevirtual 139, .ireturn]),
  (14, [.aload 0, .getfield 1106, .iload 1, .aaload, .getfield 700, .ifCond .ne 1320032, .aload 0, .iconst 2, .invokevirtual 139, .ireturn]),
  (32, [.iload 2, .ifCond .lt 1320049, .iload 2, .aload 0, .getfield 1106, .iload 1, .aaload, .getfield 701, .if_icmp .lt 1320055, .goto_w 1320049]),
  (49, [.aload 0, .iconst 1, .invokevirtual 139, .ireturn]),
  (55, [.aload 0, .getfield 1106, .iload 1, .aaload, .iload 2, .iload 3, .invokevirtual 72, .iconst 1, .ireturn])]
def tm_B_X11_move : List (Nat × List Instr) := [(0, [.aload 0, .iload 1, .invokevirtual 147, .ifCond .eq 1330016, .aload 0, .iload 3, .invokevirtual 147, .ifCond .ne 1330022, .goto_w 1330016]),
  (16, [.aload 0, .iconst 1, .invokevirtual 139, .ireturn]),
  (22, [.aload 0, .getfield 1106, .iload 1, .aaload, .getfield 700, .ifCond .eq 1330046, .aload 0, .getfield 1106, .iload 3, .aaload, .getfield 700, .ifCond .ne 1330052, .goto_w 1330046]),
  (46, [.aload 0, .iconst 2, .invokevirtual 139, .ireturn]),
  (52, [.aload 0, .getfield 1106, .iload 1, .aaload, .getfield 700, .aload 0, .getfield 1106, .iload 3, .aaload, .getfield 700, .if_icmp .eq 1330079, .aload 0, .iconst 5, .invokevirtual 139, .ireturn]),
  (79, [.aload 0, .getfield 1106, .iload 1, .aaload, .iload 2, .iload 5, .invokevirtual 73, .ifCond .eq 1330110, .aload 0, .getfield 1106, .iload 3, .aaload, .iload 4, .iload 5, .invokevirtual 73, .ifCond .ne 1330116, .goto_w 1330110]),
  (110, [.aload 0, .iconst 1, .invokevirtual 139, .ireturn]),
  (116, [.aload 0, .getfield 1106, .iload 1, .aaload, .getfield 702, .iload 2, .aload 0, .getfield 1106, .iload 3, .aaload, .getfield 702, .iload 4, .iload 5, .invokestatic 998, .iload 5, .ireturn])]
def tm_B_X11_write : List (Nat × List Instr) := [(0, [.aload 0, .iload 1, .invokevirtual 145, .ifCond .eq 1340016, .aload 0, .iload 2, .invokevirtual 147, .ifCond .ne 1340022, .goto_w 1340016]),
  (16, [.aload 0, .iconst 1, .invokevirtual 139, .ireturn]),
  (22, [.aload 0, .getfield 1106, .iload 2, .aaload, .astore 3, .aload 3, .getfield 700, .ifCond .ne 1340042, .aload 0, .iconst 2, .invokevirtual 139, .ireturn]),
  (42, [.iconst 0, .istore 4, .iconst 0, .istore 5, .goto_w 1340048]),
  (48, [.iload 5, .aload 3, .getfield 701, .if_icmp .ge 1340092, .aload 0, .getfield 1103, .iload 1, .iload 5, .invokevirtual 11, .ifCond .eq 1340092, .aload 3, .iload 5, .aload 0, .getfield 1103, .invokevirtual 258, .invokevirtual 72, .iinc 4 1, .iinc 5 1, .goto 1340048]),
  (92, [.iload 4, .ireturn])]
def tm_B_X11_image : List (Nat × List Instr) := [(0, [.aload 0, .getfield 1101, .aload 0, .getfield 1100, .invokevirtual 94, .aload 0, .dup, .getfield 1108, .iconst 1, .iadd, .putfield 1108, .aload 0, .getfield 1108, .ireturn])]
def tm_B_X11_restore : List (Nat × List Instr) := [(0, [.aload 0, .getfield 1108, .ifCond .ne 1360013, .aload 0, .iconst 2, .invokevirtual 139, .ireturn]),
  (13, [.aload 0, .getfield 1100, .aload 0, .getfield 1101, .invokevirtual 94, .aload 0, .getfield 1100, .getfield 1000, .getfield 500, .ireturn])]
def tm_B_X11_told : List (Nat × List Instr) := [(0, [.iload 1, .tableswitch 1370169 0 10 #[1370060, 1370071, 1370082, 1370093, 1370104, 1370112, 1370120, 1370134, 1370142, 1370150, 1370161]]),
  (60, [.aload 0, .getfield 1100, .getfield 1000, .getfield 500, .ireturn]),
  (71, [.aload 0, .getfield 1100, .getfield 1000, .getfield 503, .ireturn]),
  (82, [.aload 0, .getfield 1100, .getfield 1001, .getfield 600, .ireturn]),
  (93, [.aload 0, .getfield 1100, .getfield 1002, .getfield 100, .ireturn]),
  (104, [.aload 0, .getfield 1100, .getfield 1009, .ireturn]),
  (112, [.aload 0, .getfield 1100, .getfield 1005, .ireturn]),
  (120, [.aload 0, .getfield 1100, .getfield 1000, .getfield 502, .invokestatic 256, .ireturn]),
  (134, [.aload 0, .getfield 1100, .getfield 1008, .ireturn]),
  (142, [.aload 0, .getfield 1100, .getfield 1010, .ireturn]),
  (150, [.aload 0, .getfield 1100, .getfield 1001, .invokevirtual 63, .ireturn]),
  (161, [.aload 0, .getfield 1105, .getfield 901, .ireturn]),
  (169, [.aload 0, .iconst 1, .invokevirtual 139, .ireturn])]
def tm_B_X11_found : List (Nat × List Instr) := [(0, [.iload 1, .iconst 1, .iconst 5, .invokestatic 140, .ifCond .ne 1380015, .aload 0, .iconst 1, .invokevirtual 139, .ireturn]),
  (15, [.aload 0, .getfield 1107, .iload 1, .iaload, .ireturn])]
def tm_B_X11_finding : List (Nat × List Instr) := [(0, [.aload 0, .getfield 1107, .iload 1, .dup2, .iaload, .iconst 1, .iadd, .iastore, .iconst (-1000000), .iload 1, .isub, .ireturn])]
def tm_B_X11_within : List (Nat × List Instr) := [(0, [.iload 0, .iload 1, .if_icmp .lt 1400014, .iload 0, .iload 2, .if_icmp .gt 1400014, .iconst 1, .goto 1400015]),
  (14, [.iconst 0, .goto_w 1400015]),
  (15, [.freturn])]
def tm_B_X11_isPiece : List (Nat × List Instr) := [(0, [.iload 1, .iconst 0, .aload 0, .getfield 1100, .getfield 1000, .getfield 500, .iconst 1, .isub, .invokestatic 140, .freturn])]
def tm_B_X11_isMark : List (Nat × List Instr) := [(0, [.iload 1, .iconst 0, .aload 0, .getfield 1100, .getfield 1000, .getfield 500, .invokestatic 140, .freturn])]
def tm_B_X11_isBetween : List (Nat × List Instr) := [(0, [.iload 1, .iconst 1, .aload 0, .getfield 1100, .getfield 1000, .getfield 500, .iconst 1, .isub, .invokestatic 140, .freturn])]
def tm_B_X11_areMarks : List (Nat × List Instr) := [(0, [.aload 0, .iload 1, .invokevirtual 142, .ifCond .eq 1440025, .aload 0, .iload 2, .invokevirtual 142, .ifCond .eq 1440025, .iload 2, .iload 1, .if_icmp .le 1440025, .iconst 1, .goto 1440026]),
  (25, [.iconst 0, .goto_w 1440026]),
  (26, [.freturn])]
def tm_B_X11_isRunner : List (Nat × List Instr) := [(0, [.iload 1, .iconst 0, .aload 0, .getfield 1100, .getfield 1001, .getfield 600, .iconst 1, .isub, .invokestatic 140, .freturn])]
def tm_B_X11_isGoing : List (Nat × List Instr) := [(0, [.iload 1, .iconst 0, .aload 0, .getfield 1100, .getfield 1002, .getfield 100, .iconst 1, .isub, .invokestatic 140, .freturn])]
def tm_B_X11_isSheet : List (Nat × List Instr) := [(0, [.iload 1, .iconst 0, .aload 0, .getfield 1106, .arraylength, .iconst 1, .isub, .invokestatic 140, .freturn])]
def tm_B_X11_isSet : List (Nat × List Instr) := [(0, [.iload 1, .iconst 0, .iconst 1, .aload 0, .getfield 1100, .getfield 1001, .getfield 600, .ishl, .iconst 1, .isub, .invokestatic 140, .freturn])]
def tm_B_X11_endsFit : List (Nat × List Instr) := [(0, [.iload 2, .ifCond .ge 1490006, .iconst 0, .freturn]),
  (6, [.iload 2, .iconst 100, .idiv, .istore 3, .iload 1, .iconst 1, .if_icmp .eq 1490027, .iload 1, .iconst 2, .if_icmp .eq 1490027, .iload 1, .iconst 6, .if_icmp .ne 1490037, .goto_w 1490027]),
  (27, [.aload 0, .iload 3, .iload 2, .iconst 100, .irem, .invokevirtual 144, .freturn]),
  (37, [.iload 1, .iconst 5, .if_icmp .eq 1490048, .iload 1, .iconst 7, .if_icmp .ne 1490056, .goto_w 1490048]),
  (48, [.aload 0, .iload 3, .invokevirtual 142, .goto 1490061]),
  (56, [.aload 0, .iload 3, .invokevirtual 141, .goto_w 1490061]),
  (61, [.freturn])]
def tm_B_X11_numberFits : List (Nat × List Instr) := [(0, [.iload 1, .tableswitch 1500084 0 6 #[1500044, 1500052, 1500052, 1500060, 1500060, 1500078, 1500078]]),
  (44, [.iload 2, .iconst 0, .iconst 99, .invokestatic 140, .freturn]),
  (52, [.iload 2, .iconst 0, .iconst 20, .invokestatic 140, .freturn]),
  (60, [.iload 2, .iconst 0, .aload 0, .getfield 1100, .getfield 1000, .getfield 503, .iconst 1, .isub, .invokestatic 140, .freturn]),
  (78, [.aload 0, .iload 2, .invokevirtual 145, .freturn]),
  (84, [.iconst 1, .freturn])]
def tm_B_X11_isUnder : List (Nat × List Instr) := [(0, [.iload 0, .istore 2, .iconst 0, .istore 3, .goto_w 1510004]),
  (4, [.iload 3, .getstatic 0, .arraylength, .if_icmp .ge 1510035, .iload 2, .ifCond .lt 1510035, .iload 2, .iload 1, .if_icmp .ne 1510023, .iconst 1, .freturn]),
  (23, [.getstatic 0, .iload 2, .iaload, .istore 2, .iinc 3 1, .goto 1510004]),
  (35, [.iconst 0, .freturn])]
def tm_B_X11_copy : List (Nat × List Instr) := [(0, [.aload 0, .iconst 0, .aload 1, .iconst 0, .aload 0, .arraylength, .aload 1, .arraylength, .invokestatic 995, .invokestatic 998, .return_])]
def tm_B_X12_init : List (Nat × List Instr) := [(0, [.aload 0, .invokespecial 999, .aload 0, .iconst 1258, .newarray .int, .putstatic 1200, .aload 0, .iconst 1258, .newarray .int, .putstatic 1201, .aload 0, .iconst 6, .newarray .int, .putstatic 1204, .aload 0, .iconst 6, .newarray .int, .putstatic 1210, .aload 0, .iconst 6, .newarray .int, .dup, .iconst 0, .iconst 97, .iastore, .dup, .iconst 1, .iconst 98, .iastore, .dup, .iconst 2, .iconst 99, .iastore, .dup, .iconst 3, .iconst 100, .iastore, .dup, .iconst 4, .iconst 101, .iastore, .dup, .iconst 5, .iconst 102, .iastore, .putstatic 1211, .aload 0, .iconst 325, .newarray .int, .putstatic 1212, .aload 0, .iconst 300, .newarray .int, .putstatic 1213, .aload 0, .iconst 12, .newarray .boolean, .putstatic 1214, .aload 0, .iconst 24, .newarray .int, .putstatic 1221, .aload 0, .iconst 40, .newarray .int, .putstatic 1222, .aload 0, .iconst 4, .newarray .int, .putstatic 1227, .aload 0, .iconst 4, .newarray .int, .putstatic 1228, .aload 0, .iconst 96, .newarray .int, .putstatic 1229, .aload 0, .iconst 24, .newarray .int, .putstatic 1230, .aload 0, .getfield 1200, .iconst 2, .iconst 1, .iastore, .aload 0, .getfield 1200, .iconst 8, .iconst 3, .iastore, .aload 0, .iconst 4, .invokevirtual 156, .return_])]
def tm_B_X12_finding : List (Nat × List Instr) := [(0, [.aload 0, .getfield 1204, .iload 1, .dup2, .iaload, .iconst 1, .iadd, .iastore, .iconst (-1000000), .iload 1, .isub, .ireturn])]
def tm_B_X12_in : List (Nat × List Instr) := [(0, [.iload 0, .iload 1, .if_icmp .lt 1550014, .iload 0, .iload 2, .if_icmp .gt 1550014, .iconst 1, .goto 1550015]),
  (14, [.iconst 0, .goto_w 1550015]),
  (15, [.freturn])]
def tm_B_X12_begins : List (Nat × List Instr) := [(0, [.aload 0, .getfield 1200, .iconst 0, .iload 1, .iastore, .aload 0, .getfield 1200, .iconst 3, .iconst 0, .iastore, .aload 0, .getfield 1200, .iconst 5, .iconst 0, .iastore, .iconst 0, .istore 2, .goto_w 1560023]),
  (23, [.iload 2, .iconst 24, .if_icmp .ge 1560045, .aload 0, .getfield 1200, .iconst 10, .iload 2, .iadd, .iconst 0, .iastore, .iinc 2 1, .goto 1560023]),
  (45, [.iconst 0, .istore 2, .goto_w 1560047]),
  (47, [.iload 2, .iconst 24, .if_icmp .gt 1560082, .aload 0, .getfield 1200, .iconst 34, .iload 2, .iadd, .iload 2, .ifCond .eq 1560070, .iload 2, .iload 1, .if_icmp .ne 1560074, .goto_w 1560070]),
  (70, [.iconst 1, .goto 1560075]),
  (74, [.iconst 0, .goto_w 1560075]),
  (75, [.iastore, .iinc 2 1, .goto 1560047]),
  (82, [.iconst 0, .istore 2, .goto_w 1560084]),
  (84, [.iload 2, .iconst 300, .if_icmp .ge 1560108, .aload 0, .getfield 1200, .iconst 368, .iload 2, .iadd, .iconst (-1), .iastore, .iinc 2 1, .goto 1560084]),
  (108, [.iconst 0, .istore 2, .goto_w 1560110]),
  (110, [.iload 2, .iconst 12, .if_icmp .ge 1560133, .aload 0, .getfield 1200, .iconst 668, .iload 2, .iadd, .iconst 0, .iastore, .iinc 2 1, .goto 1560110]),
  (133, [.return_])]
def tm_B_X12_isMark : List (Nat × List Instr) := [(0, [.iload 1, .iconst 0, .aload 0, .getfield 1200, .iconst 0, .iaload, .invokestatic 155, .freturn])]
def tm_B_X12_isRunner : List (Nat × List Instr) := [(0, [.iload 1, .iconst 0, .aload 0, .getfield 1200, .iconst 4, .iaload, .iconst 1, .isub, .invokestatic 155, .freturn])]
def tm_B_X12_isWay : List (Nat × List Instr) := [(0, [.iload 1, .iconst 0, .aload 0, .getfield 1200, .iconst 3, .iaload, .iconst 1, .isub, .invokestatic 155, .freturn])]
def tm_B_X12_isGoing : List (Nat × List Instr) := [(0, [.iload 1, .iconst 0, .aload 0, .getfield 1200, .iconst 5, .iaload, .iconst 1, .isub, .invokestatic 155, .freturn])]
def tm_B_X12_wa : List (Nat × List Instr) := [(0, [.aload 0, .getfield 1200, .iconst 84, .iconst 5, .iload 1, .imul, .iadd, .iload 2, .iadd, .iaload, .ireturn])]
def tm_B_X12_go : List (Nat × List Instr) := [(0, [.aload 0, .getfield 1200, .iconst 168, .iconst 5, .iload 1, .imul, .iadd, .iload 2, .iadd, .iaload, .ireturn])]
def tm_B_X12_strength : List (Nat × List Instr) := [(0, [.aload 0, .getfield 1200, .iconst 144, .iconst 2, .iload 1, .imul, .iadd, .iaload, .ireturn])]
def tm_B_X12_heardAt : List (Nat × List Instr) := [(0, [.aload 0, .getfield 1200, .iconst 368, .iconst 25, .iload 1, .imul, .iadd, .iload 2, .iadd, .iaload, .ireturn])]
def tm_B_X12_becomes : List (Nat × List Instr) := [(0, [.aload 0, .getfield 1200, .iload 1, .iaload, .istore 3, .aload 0, .getfield 1200, .iload 1, .iload 2, .iastore, .iload 3, .ireturn])]
def tm_B_X12_byteAt : List (Nat × List Instr) := [(0, [.aload 0, .getfield 1209, .ifCond .ne 1660018, .aload 0, .getfield 1207, .aload 0, .getfield 1206, .if_icmp .lt 1660022, .goto_w 1660018]),
  (18, [.iconst (-1), .goto 1660036]),
  (22, [.aload 0, .getfield 1200, .aload 0, .getfield 1205, .aload 0, .getfield 1207, .iadd, .iaload, .goto_w 1660036]),
  (36, [.ireturn])]
def tm_B_X12_eats : List (Nat × List Instr) := [(0, [.aload 0, .invokevirtual 166, .iload 1, .if_icmp .ne 1670012, .iconst 1, .goto 1670013]),
  (12, [.iconst 0, .goto_w 1670013]),
  (13, [.istore 2, .aload 0, .dup, .getfield 1207, .iload 2, .ifCond .eq 1670027, .iconst 1, .goto 1670028]),
  (27, [.iconst 0, .goto_w 1670028]),
  (28, [.iadd, .putfield 1207, .iload 2, .freturn])]
def tm_B_X12_either : List (Nat × List Instr) := [(0, [.aload 0, .invokevirtual 169, .istore 1, .goto_w 1680005]),
  (5, [.aload 0, .iconst 124, .invokevirtual 167, .ifCond .eq 1680036, .aload 0, .invokevirtual 169, .istore 2, .iload 1, .ifCond .ne 1680027, .iload 2, .ifCond .eq 1680031, .goto_w 1680027]),
  (27, [.iconst 1, .goto 1680032]),
  (31, [.iconst 0, .goto_w 1680032]),
  (32, [.istore 1, .goto 1680005]),
  (36, [.iload 1, .ireturn])]
def tm_B_X12_both : List (Nat × List Instr) := [(0, [.aload 0, .invokevirtual 170, .istore 1, .goto_w 1690005]),
  (5, [.aload 0, .iconst 38, .invokevirtual 167, .ifCond .eq 1690036, .aload 0, .invokevirtual 170, .istore 2, .iload 1, .ifCond .eq 1690031, .iload 2, .ifCond .eq 1690031, .iconst 1, .goto 1690032]),
  (31, [.iconst 0, .goto_w 1690032]),
  (32, [.istore 1, .goto 1690005]),
  (36, [.iload 1, .ireturn])]
def tm_B_X12_relation : List (Nat × List Instr) := [(0, [.aload 0, .invokevirtual 171, .istore 1, .aload 0, .invokevirtual 166, .istore 2, .iload 2, .iconst 60, .if_icmp .eq 1700030, .iload 2, .iconst 61, .if_icmp .eq 1700030, .iload 2, .iconst 62, .if_icmp .eq 1700030, .iload 1, .ireturn]),
  (30, [.aload 0, .dup, .getfield 1207, .iconst 1, .iadd, .putfield 1207, .aload 0, .invokevirtual 171, .istore 3, .iload 2, .iconst 60, .if_icmp .ne 1700059, .iload 1, .iload 3, .if_icmp .ge 1700082, .goto 1700078]),
  (59, [.iload 2, .iconst 61, .if_icmp .ne 1700073, .iload 1, .iload 3, .if_icmp .ne 1700082, .goto 1700078]),
  (73, [.iload 1, .iload 3, .if_icmp .le 1700082, .goto_w 1700078]),
  (78, [.iconst 1, .goto 1700083]),
  (82, [.iconst 0, .goto_w 1700083]),
  (83, [.ireturn])]
def tm_B_X12_added : List (Nat × List Instr) := [(0, [.aload 0, .invokevirtual 172, .istore 1, .aload 0, .invokevirtual 166, .istore 2, .goto_w 1710010]),
  (10, [.iload 2, .iconst 43, .if_icmp .eq 1710022, .iload 2, .iconst 45, .if_icmp .ne 1710061, .goto_w 1710022]),
  (22, [.aload 0, .dup, .getfield 1207, .iconst 1, .iadd, .putfield 1207, .aload 0, .invokevirtual 172, .istore 3, .iload 2, .iconst 43, .if_icmp .ne 1710049, .iload 1, .iload 3, .iadd, .goto 1710052]),
  (49, [.iload 1, .iload 3, .isub, .goto_w 1710052]),
  (52, [.istore 1, .aload 0, .invokevirtual 166, .istore 2, .goto 1710010]),
  (61, [.iload 1, .ireturn])]
def tm_B_X12_term : List (Nat × List Instr) := [(0, [.aload 0, .invokevirtual 173, .istore 1, .aload 0, .invokevirtual 166, .istore 2, .goto_w 1720010]),
  (10, [.iload 2, .iconst 42, .if_icmp .eq 1720022, .iload 2, .iconst 47, .if_icmp .ne 1720079, .goto_w 1720022]),
  (22, [.aload 0, .dup, .getfield 1207, .iconst 1, .iadd, .putfield 1207, .aload 0, .invokevirtual 173, .istore 3, .iload 2, .iconst 42, .if_icmp .ne 1720049, .iload 1, .iload 3, .imul, .goto 1720070]),
  (49, [.iload 3, .ifCond .ne 1720057, .iconst 0, .goto 1720070]),
  (57, [.iload 3, .iconst (-1), .if_icmp .ne 1720067, .iload 1, .ineg, .goto 1720070]),
  (67, [.iload 1, .iload 3, .idiv, .goto_w 1720070]),
  (70, [.istore 1, .aload 0, .invokevirtual 166, .istore 2, .goto 1720010]),
  (79, [.iload 1, .ireturn])]
def tm_B_X12_single : List (Nat × List Instr) := [(0, [.aload 0, .invokevirtual 166, .istore 1, .iload 1, .iconst 48, .iconst 57, .invokestatic 155, .ifCond .eq 1730100, .iconst 0, .istore 2, .iconst 0, .istore 3, .goto_w 1730020]),
  (20, [.iload 3, .iconst 4, .if_icmp .ge 1730068, .aload 0, .invokevirtual 166, .iconst 48, .iconst 57, .invokestatic 155, .ifCond .eq 1730068, .iconst 10, .iload 2, .imul, .aload 0, .invokevirtual 166, .iadd, .iconst 48, .isub, .istore 2, .aload 0, .dup, .getfield 1207, .iconst 1, .iadd, .putfield 1207, .iinc 3 1, .goto 1730020]),
  (68, [.aload 0, .aload 0, .getfield 1209, .ifCond .ne 1730090, .aload 0, .invokevirtual 166, .iconst 48, .iconst 57, .invokestatic 155, .ifCond .eq 1730094, .goto_w 1730090]),
  (90, [.iconst 1, .goto 1730095]),
  (94, [.iconst 0, .goto_w 1730095]),
  (95, [.putfield 1209, .iload 2, .ireturn]),
  (100, [.iconst 0, .istore 2, .goto_w 1730102]),
  (102, [.iload 2, .iconst 6, .if_icmp .ge 1730141, .iload 1, .aload 0, .getfield 1211, .iload 2, .iaload, .if_icmp .ne 1730135, .aload 0, .dup, .getfield 1207, .iconst 1, .iadd, .putfield 1207, .aload 0, .getfield 1210, .iload 2, .iaload, .ireturn]),
  (135, [.iinc 2 1, .goto 1730102]),
  (141, [.iload 1, .iconst 33, .if_icmp .eq 1730153, .iload 1, .iconst 40, .if_icmp .ne 1730161, .goto_w 1730153]),
  (153, [.aload 0, .getfield 1208, .iconst 5, .if_icmp .ne 1730168, .goto_w 1730161]),
  (161, [.aload 0, .iconst 1, .putfield 1209, .iconst 0, .ireturn]),
  (168, [.aload 0, .dup, .getfield 1207, .iconst 1, .iadd, .putfield 1207, .aload 0, .dup, .getfield 1208, .iconst 1, .iadd, .putfield 1208, .iload 1, .iconst 40, .if_icmp .ne 1730201, .aload 0, .invokevirtual 168, .goto 1730213]),
  (201, [.aload 0, .invokevirtual 173, .ifCond .ne 1730212, .iconst 1, .goto 1730213]),
  (212, [.iconst 0, .goto_w 1730213]),
  (213, [.istore 2, .iload 1, .iconst 40, .if_icmp .ne 1730234, .aload 0, .iconst 41, .invokevirtual 167, .ifCond .ne 1730234, .aload 0, .iconst 1, .putfield 1209, .goto_w 1730234]),
  (234, [.aload 0, .dup, .getfield 1208, .iconst 1, .isub, .putfield 1208, .iload 2, .ireturn])]
def tm_B_X12_reads : List (Nat × List Instr) := [(0, [.aload 0, .iload 1, .putfield 1205, .aload 0, .iload 2, .putfield 1206, .aload 0, .iconst 0, .putfield 1207, .aload 0, .iconst 0, .putfield 1208, .aload 0, .iconst 0, .putfield 1209, .aload 0, .invokevirtual 168, .istore 3, .aload 0, .aload 0, .getfield 1209, .ifCond .ne 1740049, .aload 0, .getfield 1207, .aload 0, .getfield 1206, .if_icmp .ge 1740053, .goto_w 1740049]),
  (49, [.iconst 1, .goto 1740054]),
  (53, [.iconst 0, .goto_w 1740054]),
  (54, [.putfield 1209, .iload 3, .ireturn])]
def tm_B_X12_tells : List (Nat × List Instr) := [(0, [.aload 0, .iconst 1078, .iconst 60, .iload 1, .imul, .iadd, .aload 0, .getfield 1200, .iconst 1076, .iload 1, .iadd, .iaload, .invokevirtual 174, .ireturn])]
def tm_B_X12_paceOf : List (Nat × List Instr) := [(0, [.aload 0, .getfield 1200, .iconst 10, .iload 3, .iadd, .iaload, .istore 6, .iload 1, .iload 6, .iconst 2, .idiv, .iadd, .iload 2, .iconst 6, .idiv, .iadd, .istore 7, .aload 0, .getfield 1200, .iconst 1076, .iaload, .ifCond .le 1760092, .aload 0, .getfield 1210, .iconst 0, .iload 1, .iastore, .aload 0, .getfield 1210, .iconst 1, .iload 2, .iastore, .aload 0, .getfield 1210, .iconst 2, .iload 6, .iastore, .aload 0, .getfield 1210, .iconst 3, .aload 0, .getfield 1200, .iconst 1, .iaload, .iastore, .aload 0, .getfield 1210, .iconst 4, .iload 4, .iastore, .aload 0, .getfield 1210, .iconst 5, .iload 5, .iastore, .aload 0, .iconst 0, .invokevirtual 175, .istore 7, .goto_w 1760092]),
  (92, [.iload 7, .iconst 1, .if_icmp .ge 1760102, .iconst 1, .goto 1760116]),
  (102, [.iload 7, .iconst 99, .if_icmp .le 1760114, .iconst 99, .goto 1760116]),
  (114, [.iload 7, .goto_w 1760116]),
  (116, [.ireturn])]
def tm_B_X12_road : List (Nat × List Instr) := [(0, [.iload 1, .iconst 4, .iconst 24, .invokestatic 155, .ifCond .ne 1770016, .aload 0, .iconst 1, .invokevirtual 154, .ireturn]),
  (16, [.aload 0, .iload 1, .invokevirtual 156, .iload 1, .ireturn])]
def tm_B_X12_climb : List (Nat × List Instr) := [(0, [.iload 1, .iconst 0, .aload 0, .getfield 1200, .iconst 0, .iaload, .iconst 1, .isub, .invokestatic 155, .ifCond .eq 1780039, .iload 2, .iconst (-4), .iconst 9, .invokestatic 155, .ifCond .eq 1780039, .aload 0, .iconst 10, .iload 1, .iadd, .iload 2, .invokevirtual 165, .goto 1780044]),
  (39, [.aload 0, .iconst 1, .invokevirtual 154, .goto_w 1780044]),
  (44, [.ireturn])]
def tm_B_X12_heat : List (Nat × List Instr) := [(0, [.iload 1, .iconst 0, .iconst 9, .invokestatic 155, .ifCond .eq 1790019, .aload 0, .iconst 1, .iload 1, .invokevirtual 165, .goto 1790024]),
  (19, [.aload 0, .iconst 1, .invokevirtual 154, .goto_w 1790024]),
  (24, [.ireturn])]
def tm_B_X12_mat : List (Nat × List Instr) := [(0, [.iload 1, .iconst 1, .aload 0, .getfield 1200, .iconst 0, .iaload, .iconst 1, .isub, .invokestatic 155, .ifCond .ne 1800022, .aload 0, .iconst 1, .invokevirtual 154, .ireturn]),
  (22, [.aload 0, .iconst 34, .iload 1, .iadd, .iload 2, .ifCond .eq 1800035, .iconst 1, .goto 1800036]),
  (35, [.iconst 0, .goto_w 1800036]),
  (36, [.invokevirtual 165, .iload 2, .ifCond .eq 1800047, .iconst 1, .goto 1800048]),
  (47, [.iconst 0, .goto_w 1800048]),
  (48, [.if_icmp .ne 1800055, .iconst 0, .goto 1800056]),
  (55, [.iconst 1, .goto_w 1800056]),
  (56, [.ireturn])]
def tm_B_X12_deaf : List (Nat × List Instr) := [(0, [.aload 0, .iload 1, .invokevirtual 157, .ifCond .eq 1810030, .iload 2, .iconst 0, .iconst 9, .invokestatic 155, .ifCond .eq 1810030, .aload 0, .iconst 59, .iload 1, .iadd, .iload 2, .invokevirtual 165, .goto 1810035]),
  (30, [.aload 0, .iconst 1, .invokevirtual 154, .goto_w 1810035]),
  (35, [.ireturn])]
def tm_B_X12_way : List (Nat × List Instr) := [(0, [.iload 1, .ifCond .lt 1820063, .aload 0, .iload 1, .iconst 100, .idiv, .invokevirtual 157, .ifCond .eq 1820063, .aload 0, .iload 1, .iconst 100, .irem, .invokevirtual 157, .ifCond .eq 1820063, .iload 1, .iconst 100, .idiv, .iload 1, .iconst 100, .irem, .if_icmp .ge 1820063, .iload 2, .iconst 1, .iconst 300, .invokestatic 155, .ifCond .eq 1820063, .iload 4, .iconst 0, .iconst 99, .invokestatic 155, .ifCond .eq 1820063, .iconst 1, .goto 1820064]),
  (63, [.iconst 0, .goto_w 1820064]),
  (64, [.istore 5, .iload 5, .ifCond .eq 1820087, .iload 4, .ifCond .le 1820093, .iload 3, .iconst 0, .iconst 999, .invokestatic 155, .ifCond .ne 1820093, .goto_w 1820087]),
  (87, [.aload 0, .iconst 1, .invokevirtual 154, .ireturn]),
  (93, [.aload 0, .getfield 1200, .iconst 3, .iaload, .iconst 12, .if_icmp .ne 1820110, .aload 0, .iconst 4, .invokevirtual 154, .ireturn]),
  (110, [.iconst 84, .iconst 5, .aload 0, .getfield 1200, .iconst 3, .iaload, .imul, .iadd, .istore 6, .aload 0, .getfield 1200, .iload 6, .iconst 0, .iadd, .iload 1, .iconst 100, .idiv, .iastore, .aload 0, .getfield 1200, .iload 6, .iconst 1, .iadd, .iload 1, .iconst 100, .irem, .iastore, .aload 0, .getfield 1200, .iload 6, .iconst 2, .iadd, .iload 2, .iastore, .aload 0, .getfield 1200, .iload 6, .iconst 3, .iadd, .iload 3, .iastore, .aload 0, .getfield 1200, .iload 6, .iconst 4, .iadd, .iload 4, .iastore, .aload 0, .getfield 1200, .iconst 3, .dup2, .iaload, .iconst 1, .iadd, .iastore, .aload 0, .getfield 1200, .iconst 3, .iaload, .iconst 1, .isub, .ireturn])]
def tm_B_X12_leaves : List (Nat × List Instr) := [(0, [.aload 0, .iload 1, .iconst 4, .invokevirtual 161, .ifCond .ne 1830011, .iload 2, .ireturn]),
  (11, [.iload 2, .aload 0, .iload 1, .iconst 3, .invokevirtual 161, .isub, .istore 3, .iload 3, .ifCond .gt 1830033, .aload 0, .iload 1, .iconst 3, .invokevirtual 161, .goto 1830064]),
  (33, [.aload 0, .iload 1, .iconst 3, .invokevirtual 161, .iload 3, .aload 0, .iload 1, .iconst 4, .invokevirtual 161, .iadd, .iconst 1, .isub, .aload 0, .iload 1, .iconst 4, .invokevirtual 161, .idiv, .aload 0, .iload 1, .iconst 4, .invokevirtual 161, .imul, .iadd, .goto_w 1830064]),
  (64, [.ireturn])]
def tm_B_X12_findThere : List (Nat × List Instr) := [(0, [.iconst 0, .istore 5, .goto_w 1840003]),
  (3, [.iload 5, .iconst 325, .if_icmp .ge 1840026, .aload 0, .getfield 1212, .iload 5, .iconst 1000000000, .iastore, .iinc 5 1, .goto 1840003]),
  (26, [.aload 0, .getfield 1212, .iconst 13, .iload 1, .imul, .iload 2, .iastore, .iload 1, .istore 5, .goto_w 1840039]),
  (39, [.iload 5, .iload 3, .if_icmp .ge 1840259, .iconst 0, .istore 6, .goto_w 1840048]),
  (48, [.iload 6, .iconst 12, .if_icmp .gt 1840253, .aload 0, .getfield 1212, .iconst 13, .iload 5, .imul, .iload 6, .iadd, .iaload, .istore 7, .iload 7, .iconst 1000000000, .if_icmp .ge 1840247, .iconst 13, .iload 5, .iconst 1, .iadd, .imul, .iload 6, .iadd, .istore 8, .aload 0, .getfield 1212, .iload 8, .iload 4, .ifCond .le 1840123, .iload 7, .iload 4, .iadd, .aload 0, .getfield 1212, .iload 8, .iaload, .if_icmp .ge 1840123, .iload 7, .iload 4, .iadd, .goto 1840130]),
  (123, [.aload 0, .getfield 1212, .iload 8, .iaload, .goto_w 1840130]),
  (130, [.iastore, .iconst 0, .istore 9, .goto_w 1840134]),
  (134, [.iload 9, .aload 0, .getfield 1200, .iconst 3, .iaload, .if_icmp .ge 1840247, .aload 0, .iload 9, .iconst 0, .invokevirtual 161, .iload 5, .if_icmp .ne 1840241, .aload 0, .iload 9, .iconst 1, .invokevirtual 161, .iload 3, .if_icmp .gt 1840241, .iload 6, .iconst 12, .if_icmp .ge 1840241, .iconst 13, .aload 0, .iload 9, .iconst 1, .invokevirtual 161, .imul, .iload 6, .iadd, .iconst 1, .iadd, .istore 10, .aload 0, .iload 9, .iload 7, .invokevirtual 183, .aload 0, .iload 9, .iconst 2, .invokevirtual 161, .iadd, .istore 11, .aload 0, .getfield 1212, .iload 10, .iload 11, .aload 0, .getfield 1212, .iload 10, .iaload, .if_icmp .ge 1840233, .iload 11, .goto 1840240]),
  (233, [.aload 0, .getfield 1212, .iload 10, .iaload, .goto_w 1840240]),
  (240, [.iastore, .goto_w 1840241]),
  (241, [.iinc 9 1, .goto 1840134]),
  (247, [.iinc 6 1, .goto 1840048]),
  (253, [.iinc 5 1, .goto 1840039]),
  (259, [.return_])]
def tm_B_X12_earliest : List (Nat × List Instr) := [(0, [.aload 0, .iload 1, .invokevirtual 157, .ifCond .eq 1850053, .aload 0, .iload 3, .invokevirtual 157, .ifCond .eq 1850053, .iload 1, .iload 3, .if_icmp .ge 1850053, .iload 2, .iconst 0, .iconst 2000, .invokestatic 155, .ifCond .eq 1850053, .iload 4, .iconst 0, .iconst 60, .invokestatic 155, .ifCond .eq 1850053, .iload 5, .iconst 0, .iconst 1, .invokestatic 155, .ifCond .ne 1850059, .goto_w 1850053]),
  (53, [.aload 0, .iconst 1, .invokevirtual 154, .ireturn]),
  (59, [.aload 0, .iload 1, .iload 2, .iload 3, .iload 4, .invokevirtual 184, .iconst 0, .istore 6, .iconst 1, .istore 7, .goto_w 1850074]),
  (74, [.iload 7, .iconst 12, .if_icmp .gt 1850123, .aload 0, .getfield 1212, .iconst 13, .iload 3, .imul, .iload 7, .iadd, .iaload, .aload 0, .getfield 1212, .iconst 13, .iload 3, .imul, .iload 6, .iadd, .iaload, .if_icmp .ge 1850113, .iload 7, .goto 1850115]),
  (113, [.iload 6, .goto_w 1850115]),
  (115, [.istore 6, .iinc 7 1, .goto 1850074]),
  (123, [.aload 0, .getfield 1212, .iconst 13, .iload 3, .imul, .iload 6, .iadd, .iaload, .iconst 1000000000, .if_icmp .ne 1850146, .aload 0, .iconst 2, .invokevirtual 154, .ireturn]),
  (146, [.iload 5, .ifCond .ne 1850166, .aload 0, .getfield 1212, .iconst 13, .iload 3, .imul, .iload 6, .iadd, .iaload, .goto 1850168]),
  (166, [.iload 6, .goto_w 1850168]),
  (168, [.ireturn])]
def tm_B_X12_needed : List (Nat × List Instr) := [(0, [.iload 1, .istore 3, .iconst 0, .istore 4, .iload 2, .istore 5, .iconst 1, .istore 6, .goto_w 1860011]),
  (11, [.iload 6, .ifCond .eq 1860206, .iconst 99, .istore 7, .iconst 0, .istore 8, .goto_w 1860023]),
  (23, [.iload 8, .aload 0, .getfield 1200, .iconst 3, .iaload, .if_icmp .ge 1860160, .iconst 0, .istore 9, .aload 0, .iload 8, .iconst 0, .invokevirtual 161, .iconst 1, .iadd, .istore 10, .goto_w 1860048]),
  (48, [.iload 10, .aload 0, .iload 8, .iconst 1, .invokevirtual 161, .if_icmp .ge 1860088, .iload 9, .ifCond .ne 1860075, .iload 3, .iload 10, .ishr, .iconst 1, .iand, .iconst 1, .if_icmp .ne 1860079, .goto_w 1860075]),
  (75, [.iconst 1, .goto 1860080]),
  (79, [.iconst 0, .goto_w 1860080]),
  (80, [.istore 9, .iinc 10 1, .goto 1860048]),
  (88, [.aload 0, .iload 8, .iconst 1, .invokevirtual 161, .aload 0, .iload 8, .iconst 0, .invokevirtual 161, .isub, .iconst 1, .if_icmp .le 1860116, .iload 9, .ifCond .ne 1860116, .iconst 1, .goto 1860117]),
  (116, [.iconst 0, .goto_w 1860117]),
  (117, [.istore 10, .iload 10, .ifCond .eq 1860150, .aload 0, .iload 8, .iconst 1, .invokevirtual 161, .iconst 1, .isub, .iload 7, .if_icmp .ge 1860150, .aload 0, .iload 8, .iconst 1, .invokevirtual 161, .iconst 1, .isub, .goto 1860152]),
  (150, [.iload 7, .goto_w 1860152]),
  (152, [.istore 7, .iinc 8 1, .goto 1860023]),
  (160, [.iload 7, .iconst 99, .if_icmp .ge 1860171, .iconst 1, .goto 1860172]),
  (171, [.iconst 0, .goto_w 1860172]),
  (172, [.istore 6, .iload 6, .ifCond .eq 1860203, .iload 7, .iload 5, .if_icmp .gt 1860189, .iconst 99, .ireturn]),
  (189, [.iload 3, .iconst 1, .iload 7, .ishl, .ior, .istore 3, .iload 7, .istore 5, .iinc 4 1, .goto_w 1860203]),
  (203, [.goto 1860011]),
  (206, [.iload 4, .ireturn])]
def tm_B_X12_fewest : List (Nat × List Instr) := [(0, [.iload 1, .iconst 0, .iconst 1, .invokestatic 155, .ifCond .ne 1870015, .aload 0, .iconst 1, .invokevirtual 154, .ireturn]),
  (15, [.aload 0, .iconst 0, .iconst 0, .invokevirtual 186, .istore 2, .iconst 0, .istore 3, .iconst 0, .istore 4, .iconst 0, .istore 5, .goto_w 1870030]),
  (30, [.iload 5, .iload 2, .if_icmp .ge 1870086, .iload 4, .iconst 1, .iadd, .istore 6, .goto_w 1870042]),
  (42, [.aload 0, .iload 3, .iconst 1, .iload 6, .ishl, .ior, .iload 6, .invokevirtual 186, .iload 2, .iload 5, .isub, .iconst 1, .isub, .if_icmp .le 1870069, .iinc 6 1, .goto 1870042]),
  (69, [.iload 3, .iconst 1, .iload 6, .ishl, .ior, .istore 3, .iload 6, .istore 4, .iinc 5 1, .goto 1870030]),
  (86, [.iload 1, .ifCond .ne 1870094, .iload 2, .goto 1870095]),
  (94, [.iload 3, .goto_w 1870095]),
  (95, [.ireturn])]
def tm_B_X12_runner : List (Nat × List Instr) := [(0, [.iload 1, .iconst 1, .iconst 30, .invokestatic 155, .ifCond .eq 1880020, .iload 2, .iconst 0, .iconst 99, .invokestatic 155, .ifCond .ne 1880026, .goto_w 1880020]),
  (20, [.aload 0, .iconst 1, .invokevirtual 154, .ireturn]),
  (26, [.aload 0, .getfield 1200, .iconst 4, .iaload, .iconst 12, .if_icmp .ne 1880043, .aload 0, .iconst 4, .invokevirtual 154, .ireturn]),
  (43, [.iconst 144, .iconst 2, .aload 0, .getfield 1200, .iconst 4, .iaload, .imul, .iadd, .istore 3, .aload 0, .getfield 1200, .iload 3, .iload 1, .iastore, .aload 0, .getfield 1200, .iload 3, .iconst 1, .iadd, .iload 2, .iastore, .aload 0, .getfield 1200, .iconst 4, .dup2, .iaload, .iconst 1, .iadd, .iastore, .aload 0, .getfield 1200, .iconst 4, .iaload, .iconst 1, .isub, .ireturn])]
def tm_B_X12_isNumber : List (Nat × List Instr) := [(0, [.iload 1, .tableswitch 1890072 0 7 #[1890048, 1890056, 1890056, 1890064, 1890064, 1890072, 1890072, 1890070]]),
  (48, [.iload 2, .iconst 0, .iconst 99, .invokestatic 155, .freturn]),
  (56, [.iload 2, .iconst 0, .iconst 20, .invokestatic 155, .freturn]),
  (64, [.aload 0, .iload 2, .invokevirtual 159, .freturn]),
  (70, [.iconst 1, .freturn]),
  (72, [.aload 0, .iload 2, .invokevirtual 158, .freturn])]
def tm_B_X12_looksAtEnd : List (Nat × List Instr) := [(0, [.iload 0, .iconst 1, .if_icmp .eq 1900016, .iload 0, .iconst 2, .if_icmp .eq 1900016, .iload 0, .iconst 6, .if_icmp .ne 1900020, .goto_w 1900016]),
  (16, [.iconst 1, .goto 1900021]),
  (20, [.iconst 0, .goto_w 1900021]),
  (21, [.freturn])]
def tm_B_X12_going : List (Nat × List Instr) := [(0, [.iload 3, .iconst 100, .idiv, .istore 5, .iload 3, .iconst 100, .irem, .istore 6, .iload 1, .iconst 0, .iconst 7, .invokestatic 155, .ifCond .eq 1910075, .aload 0, .iload 2, .invokevirtual 158, .ifCond .eq 1910075, .iload 3, .ifCond .lt 1910075, .iload 5, .iconst 0, .iload 1, .iconst 5, .if_icmp .eq 1910048, .iload 1, .iconst 7, .if_icmp .ne 1910057, .goto_w 1910048]),
  (48, [.aload 0, .getfield 1200, .iconst 0, .iaload, .goto 1910065]),
  (57, [.aload 0, .getfield 1200, .iconst 0, .iaload, .iconst 1, .isub, .goto_w 1910065]),
  (65, [.invokestatic 155, .ifCond .eq 1910075, .iconst 1, .goto 1910076]),
  (75, [.iconst 0, .goto_w 1910076]),
  (76, [.istore 7, .iload 7, .ifCond .eq 1910118, .iload 1, .invokestatic 190, .ifCond .eq 1910108, .iload 6, .iload 5, .iconst 1, .iadd, .aload 0, .getfield 1200, .iconst 0, .iaload, .invokestatic 155, .ifCond .eq 1910118, .goto_w 1910108]),
  (108, [.aload 0, .iload 1, .iload 4, .invokevirtual 189, .ifCond .ne 1910124, .goto_w 1910118]),
  (118, [.aload 0, .iconst 1, .invokevirtual 154, .ireturn]),
  (124, [.iload 1, .iconst 3, .if_icmp .eq 1910134, .iload 1, .iconst 4, .if_icmp .ne 1910184, .goto_w 1910134]),
  (134, [.aload 0, .iload 4, .iconst 4, .invokevirtual 161, .ifCond .ne 1910148, .iconst 1, .goto 1910149]),
  (148, [.iconst 0, .goto_w 1910149]),
  (149, [.istore 8, .iload 8, .iload 1, .iconst 3, .if_icmp .ne 1910162, .iconst 1, .goto 1910163]),
  (162, [.iconst 0, .goto_w 1910163]),
  (163, [.if_icmp .ne 1910178, .aload 0, .iload 4, .iconst 0, .invokevirtual 161, .iload 5, .if_icmp .eq 1910184, .goto_w 1910178]),
  (178, [.aload 0, .iconst 5, .invokevirtual 154, .ireturn]),
  (184, [.aload 0, .getfield 1200, .iconst 5, .iaload, .iconst 40, .if_icmp .ne 1910201, .aload 0, .iconst 4, .invokevirtual 154, .ireturn]),
  (201, [.iconst 168, .iconst 5, .aload 0, .getfield 1200, .iconst 5, .iaload, .imul, .iadd, .istore 8, .aload 0, .getfield 1200, .iload 8, .iconst 0, .iadd, .iload 1, .iastore, .aload 0, .getfield 1200, .iload 8, .iconst 1, .iadd, .iload 2, .iastore, .aload 0, .getfield 1200, .iload 8, .iconst 2, .iadd, .iload 5, .iastore, .aload 0, .getfield 1200, .iload 8, .iconst 3, .iadd, .iload 6, .iastore, .aload 0, .getfield 1200, .iload 8, .iconst 4, .iadd, .iload 4, .iastore, .aload 0, .getfield 1200, .iconst 5, .dup2, .iaload, .iconst 1, .iadd, .iastore, .aload 0, .getfield 1200, .iconst 5, .iaload, .iconst 1, .isub, .ireturn])]
def tm_B_X12_forget : List (Nat × List Instr) := [(0, [.iload 1, .iconst 0, .aload 0, .getfield 1200, .iconst 5, .iaload, .invokestatic 155, .ifCond .ne 1920020, .aload 0, .iconst 1, .invokevirtual 154, .ireturn]),
  (20, [.aload 0, .getfield 1200, .iconst 5, .iaload, .iload 1, .isub, .istore 2, .aload 0, .getfield 1200, .iconst 5, .iload 1, .iastore, .iload 2, .ireturn])]
def tm_B_X12_above : List (Nat × List Instr) := [(0, [.iload 0, .iconst 2, .if_icmp .eq 1930011, .iload 0, .iconst 7, .if_icmp .ne 1930015, .goto_w 1930011]),
  (11, [.iconst 1, .goto 1930033]),
  (15, [.iload 0, .iconst 4, .if_icmp .ne 1930024, .iconst 3, .goto 1930033]),
  (24, [.iload 0, .ifCond .ne 1930032, .iconst (-1), .goto 1930033]),
  (32, [.iconst 0, .goto_w 1930033]),
  (33, [.ireturn])]
def tm_B_X12_as : List (Nat × List Instr) := [(0, [.aload 0, .iload 1, .invokevirtual 160, .ifCond .eq 1940018, .iload 2, .iconst 0, .iconst 7, .invokestatic 155, .ifCond .ne 1940024, .goto_w 1940018]),
  (18, [.aload 0, .iconst 1, .invokevirtual 154, .ireturn]),
  (24, [.aload 0, .iload 1, .iconst 0, .invokevirtual 162, .istore 3, .goto_w 1940031]),
  (31, [.iload 3, .ifCond .lt 1940048, .iload 3, .iload 2, .if_icmp .eq 1940048, .iload 3, .invokestatic 193, .istore 3, .goto 1940031]),
  (48, [.iload 3, .ifCond .ge 1940060, .aload 0, .iconst 5, .invokevirtual 154, .goto 1940066]),
  (60, [.aload 0, .iload 1, .iconst 4, .invokevirtual 162, .goto_w 1940066]),
  (66, [.ireturn])]
def tm_B_X12_goingIs : List (Nat × List Instr) := [(0, [.aload 0, .iload 1, .invokevirtual 160, .ifCond .eq 1950026, .iload 2, .iconst 0, .iconst 4, .invokestatic 155, .ifCond .eq 1950026, .aload 0, .iload 1, .iload 2, .invokevirtual 162, .goto 1950031]),
  (26, [.aload 0, .iconst 1, .invokevirtual 154, .goto_w 1950031]),
  (31, [.ireturn])]
def tm_B_X12_draw : List (Nat × List Instr) := [(0, [.iload 1, .iconst 0, .iconst 65535, .invokestatic 155, .ifCond .eq 1960019, .aload 0, .iconst 2, .iload 1, .invokevirtual 165, .goto 1960024]),
  (19, [.aload 0, .iconst 1, .invokevirtual 154, .goto_w 1960024]),
  (24, [.ireturn])]
def tm_B_X12_piece : List (Nat × List Instr) := [(0, [.aload 0, .aload 0, .getfield 1215, .aload 0, .getfield 1216, .iload 1, .aload 0, .getfield 1217, .aload 0, .getfield 1218, .invokevirtual 176, .istore 2, .aload 0, .aload 0, .getfield 1216, .ifCond .ne 1970034, .iload 2, .goto 1970038]),
  (34, [.aload 0, .getfield 1217, .goto_w 1970038]),
  (38, [.putfield 1217, .aload 0, .iload 2, .putfield 1218, .aload 0, .dup, .getfield 1216, .iconst 1, .iadd, .putfield 1216, .iload 2, .ireturn])]
def tm_B_X12_goingAt : List (Nat × List Instr) := [(0, [.iconst (-1), .istore 3, .iconst 0, .istore 4, .goto_w 1980005]),
  (5, [.iload 4, .aload 0, .getfield 1200, .iconst 5, .iaload, .if_icmp .ge 1980086, .aload 0, .iload 4, .iconst 1, .invokevirtual 162, .iload 1, .if_icmp .ne 1980065, .aload 0, .iload 4, .iconst 2, .invokevirtual 162, .iload 2, .if_icmp .ne 1980065, .aload 0, .iload 4, .iconst 0, .invokevirtual 162, .iconst 5, .if_icmp .eq 1980065, .aload 0, .iload 4, .iconst 0, .invokevirtual 162, .iconst 7, .if_icmp .eq 1980065, .iconst 1, .goto 1980066]),
  (65, [.iconst 0, .goto_w 1980066]),
  (66, [.istore 5, .iload 5, .ifCond .eq 1980078, .iload 4, .goto 1980079]),
  (78, [.iload 3, .goto_w 1980079]),
  (79, [.istore 3, .iinc 4 1, .goto 1980005]),
  (86, [.iload 3, .ireturn])]
def tm_B_X12_runs : List (Nat × List Instr) := [(0, [.iconst 0, .istore 2, .goto_w 1990002]),
  (2, [.iload 2, .iconst 25, .if_icmp .ge 1990026, .aload 0, .getfield 1213, .iconst 25, .iload 1, .imul, .iload 2, .iadd, .iconst (-1), .iastore, .iinc 2 1, .goto 1990002]),
  (26, [.aload 0, .getfield 1214, .iload 1, .iconst 0, .bastore, .iconst 0, .istore 2, .aload 0, .getfield 1200, .iconst 144, .iconst 2, .iload 1, .imul, .iadd, .iconst 1, .iadd, .iaload, .istore 3, .aload 0, .getfield 1213, .iconst 25, .iload 1, .imul, .iload 3, .iastore, .iconst 0, .istore 4, .iconst 0, .istore 5, .iconst 0, .istore 6, .goto_w 1990069]),
  (69, [.iload 2, .aload 0, .getfield 1200, .iconst 0, .iaload, .if_icmp .ge 1990455, .aload 0, .iload 1, .iload 2, .invokevirtual 198, .istore 7, .iload 7, .ifCond .ge 1990096, .iconst (-1), .goto 1990103]),
  (96, [.aload 0, .iload 7, .iconst 0, .invokevirtual 162, .goto_w 1990103]),
  (103, [.istore 8, .iload 8, .iconst 3, .if_icmp .eq 1990117, .iload 8, .iconst 4, .if_icmp .ne 1990172, .goto_w 1990117]),
  (117, [.aload 0, .iload 7, .iconst 4, .invokevirtual 162, .istore 9, .aload 0, .iload 9, .iload 3, .invokevirtual 183, .aload 0, .iload 9, .iconst 2, .invokevirtual 161, .iadd, .istore 3, .aload 0, .iload 9, .iconst 1, .invokevirtual 161, .istore 2, .aload 0, .getfield 1213, .iconst 25, .iload 1, .imul, .iload 2, .iadd, .iload 3, .iastore, .aload 0, .getfield 1214, .iload 1, .iconst 1, .bastore, .goto 1990069]),
  (172, [.iload 8, .iconst 6, .if_icmp .ne 1990183, .iconst 1, .goto 1990184]),
  (183, [.iconst 0, .goto_w 1990184]),
  (184, [.istore 9, .aload 0, .getfield 1214, .iload 1, .aload 0, .getfield 1214, .iload 1, .baload, .ifCond .ne 1990205, .iload 9, .ifCond .eq 1990209, .goto_w 1990205]),
  (205, [.iconst 1, .goto 1990210]),
  (209, [.iconst 0, .goto_w 1990210]),
  (210, [.bastore, .aload 0, .aload 0, .iload 9, .ifCond .eq 1990228, .aload 0, .iload 7, .iconst 4, .invokevirtual 162, .goto 1990229]),
  (228, [.iload 1, .goto_w 1990229]),
  (229, [.invokevirtual 163, .putfield 1215, .aload 0, .iload 9, .ifCond .eq 1990245, .iconst 0, .goto 1990247]),
  (245, [.iload 4, .goto_w 1990247]),
  (247, [.putfield 1216, .aload 0, .iload 9, .ifCond .eq 1990260, .iconst 0, .goto 1990262]),
  (260, [.iload 5, .goto_w 1990262]),
  (262, [.putfield 1217, .aload 0, .iload 9, .ifCond .eq 1990275, .iconst 0, .goto 1990277]),
  (275, [.iload 6, .goto_w 1990277]),
  (277, [.putfield 1218, .iload 3, .iload 8, .ifCond .ne 1990296, .aload 0, .iload 7, .iconst 4, .invokevirtual 162, .goto 1990297]),
  (296, [.iconst 0, .goto_w 1990297]),
  (297, [.iadd, .istore 3, .iload 8, .iconst 1, .if_icmp .eq 1990316, .iload 8, .iconst 2, .if_icmp .eq 1990316, .iload 9, .ifCond .eq 1990326, .goto_w 1990316]),
  (316, [.aload 0, .iload 7, .iconst 3, .invokevirtual 162, .goto 1990329]),
  (326, [.iload 2, .iconst 1, .iadd, .goto_w 1990329]),
  (329, [.istore 10, .goto_w 1990331]),
  (331, [.iload 2, .iload 10, .if_icmp .ge 1990404, .aload 0, .iload 2, .invokevirtual 197, .iload 8, .iconst 1, .if_icmp .eq 1990354, .iload 8, .iconst 2, .if_icmp .ne 1990364, .goto_w 1990354]),
  (354, [.aload 0, .iload 7, .iconst 4, .invokevirtual 162, .goto 1990365]),
  (364, [.iconst 0, .goto_w 1990365]),
  (365, [.iadd, .istore 11, .iload 3, .iload 8, .iconst 2, .if_icmp .ne 1990382, .iconst 2, .iload 11, .imul, .goto 1990384]),
  (382, [.iload 11, .goto_w 1990384]),
  (384, [.iadd, .istore 3, .iinc 2 1, .aload 0, .getfield 1213, .iconst 25, .iload 1, .imul, .iload 2, .iadd, .iload 3, .iastore, .goto 1990331]),
  (404, [.iload 9, .ifCond .eq 1990414, .iload 4, .goto 1990418]),
  (414, [.aload 0, .getfield 1216, .goto_w 1990418]),
  (418, [.istore 4, .iload 9, .ifCond .eq 1990430, .iload 5, .goto 1990434]),
  (430, [.aload 0, .getfield 1217, .goto_w 1990434]),
  (434, [.istore 5, .iload 9, .ifCond .eq 1990446, .iload 6, .goto 1990450]),
  (446, [.aload 0, .getfield 1218, .goto_w 1990450]),
  (450, [.istore 6, .goto 1990069]),
  (455, [.return_])]
def tm_B_X12_carrier : List (Nat × List Instr) := [(0, [.iconst (-1), .istore 3, .iconst 0, .istore 4, .goto_w 2000005]),
  (5, [.iload 4, .aload 0, .getfield 1200, .iconst 5, .iaload, .if_icmp .ge 2000094, .aload 0, .iload 4, .iconst 0, .invokevirtual 162, .iconst 5, .if_icmp .ne 2000053, .aload 0, .iload 4, .iconst 1, .invokevirtual 162, .iload 1, .if_icmp .ne 2000053, .aload 0, .iload 4, .iconst 2, .invokevirtual 162, .iload 2, .if_icmp .gt 2000053, .iconst 1, .goto 2000054]),
  (53, [.iconst 0, .goto_w 2000054]),
  (54, [.istore 5, .iload 5, .ifCond .eq 2000086, .iload 3, .ifCond .lt 2000081, .aload 0, .iload 4, .iconst 2, .invokevirtual 162, .aload 0, .iload 3, .iconst 2, .invokevirtual 162, .if_icmp .lt 2000086, .goto_w 2000081]),
  (81, [.iload 4, .goto 2000087]),
  (86, [.iload 3, .goto_w 2000087]),
  (87, [.istore 3, .iinc 4 1, .goto 2000005]),
  (94, [.iload 3, .ifCond .ge 2000102, .iload 1, .goto 2000108]),
  (102, [.aload 0, .iload 3, .iconst 4, .invokevirtual 162, .goto_w 2000108]),
  (108, [.ireturn])]
def tm_B_X12_isMissed : List (Nat × List Instr) := [(0, [.iconst 0, .istore 3, .iconst 0, .istore 4, .goto_w 2010005]),
  (5, [.iload 4, .aload 0, .getfield 1200, .iconst 5, .iaload, .if_icmp .ge 2010066, .iload 3, .ifCond .ne 2010054, .aload 0, .iload 4, .iconst 0, .invokevirtual 162, .iconst 7, .if_icmp .ne 2010058, .aload 0, .iload 4, .iconst 1, .invokevirtual 162, .iload 1, .if_icmp .ne 2010058, .aload 0, .iload 4, .iconst 2, .invokevirtual 162, .iload 2, .if_icmp .ne 2010058, .goto_w 2010054]),
  (54, [.iconst 1, .goto 2010059]),
  (58, [.iconst 0, .goto_w 2010059]),
  (59, [.istore 3, .iinc 4 1, .goto 2010005]),
  (66, [.iload 3, .freturn])]
def tm_B_X12_hears : List (Nat × List Instr) := [(0, [.iconst 0, .istore 2, .goto_w 2020002]),
  (2, [.iload 2, .aload 0, .getfield 1200, .iconst 0, .iaload, .if_icmp .gt 2020183, .aload 0, .iload 1, .iload 2, .invokevirtual 200, .istore 3, .aload 0, .getfield 1214, .iload 1, .aload 0, .getfield 1214, .iload 1, .baload, .ifCond .ne 2020038, .iload 3, .iload 1, .if_icmp .eq 2020042, .goto_w 2020038]),
  (38, [.iconst 1, .goto 2020043]),
  (42, [.iconst 0, .goto_w 2020043]),
  (43, [.bastore, .aload 0, .getfield 1213, .iconst 25, .iload 3, .imul, .iload 2, .iadd, .iaload, .istore 4, .aload 0, .getfield 1200, .iconst 34, .iload 2, .iadd, .iaload, .iconst 1, .if_icmp .ne 2020079, .iload 4, .ifCond .lt 2020079, .iconst 1, .goto 2020080]),
  (79, [.iconst 0, .goto_w 2020080]),
  (80, [.istore 5, .iload 5, .ifCond .eq 2020142, .iload 2, .ifCond .le 2020142, .aload 0, .getfield 1200, .iconst 2, .aload 0, .getfield 1200, .iconst 2, .iaload, .iconst 25173, .imul, .iconst 13849, .iadd, .iconst 65536, .irem, .iastore, .aload 0, .getfield 1200, .iconst 2, .iaload, .iconst 10, .irem, .aload 0, .getfield 1200, .iconst 59, .iload 2, .iadd, .iaload, .if_icmp .lt 2020139, .iconst 1, .goto 2020140]),
  (139, [.iconst 0, .goto_w 2020140]),
  (140, [.istore 5, .goto_w 2020142]),
  (142, [.aload 0, .getfield 1200, .iconst 368, .iconst 25, .iload 1, .imul, .iadd, .iload 2, .iadd, .iload 5, .ifCond .eq 2020175, .aload 0, .iload 3, .iload 2, .invokevirtual 201, .ifCond .ne 2020175, .iload 4, .goto 2020176]),
  (175, [.iconst (-1), .goto_w 2020176]),
  (176, [.iastore, .iinc 2 1, .goto 2020002]),
  (183, [.return_])]
def tm_B_X12_race : List (Nat × List Instr) := [(0, [.iconst 0, .istore 1, .goto_w 2030002]),
  (2, [.iload 1, .aload 0, .getfield 1200, .iconst 4, .iaload, .if_icmp .ge 2030023, .aload 0, .iload 1, .invokevirtual 199, .iinc 1 1, .goto 2030002]),
  (23, [.iconst 0, .istore 1, .iconst 0, .istore 2, .goto_w 2030027]),
  (27, [.iload 2, .aload 0, .getfield 1200, .iconst 4, .iaload, .if_icmp .ge 2030094, .aload 0, .iload 2, .invokevirtual 202, .aload 0, .getfield 1200, .iconst 668, .iload 2, .iadd, .aload 0, .getfield 1214, .iload 2, .baload, .ifCond .eq 2030064, .iconst 1, .goto 2030065]),
  (64, [.iconst 0, .goto_w 2030065]),
  (65, [.iastore, .iload 1, .aload 0, .iload 2, .aload 0, .getfield 1200, .iconst 0, .iaload, .invokevirtual 164, .ifCond .lt 2030085, .iconst 1, .goto 2030086]),
  (85, [.iconst 0, .goto_w 2030086]),
  (86, [.iadd, .istore 1, .iinc 2 1, .goto 2030027]),
  (94, [.aload 0, .getfield 1200, .iconst 7, .dup2, .iaload, .iconst 1, .iadd, .iastore, .iload 1, .ireturn])]
def tm_B_X12_would : List (Nat × List Instr) := [(0, [.aload 0, .iload 1, .invokevirtual 158, .ifCond .eq 2040016, .aload 0, .iload 2, .invokevirtual 157, .ifCond .ne 2040022, .goto_w 2040016]),
  (16, [.aload 0, .iconst 1, .invokevirtual 154, .ireturn]),
  (22, [.aload 0, .iload 1, .invokevirtual 199, .aload 0, .getfield 1213, .iconst 25, .iload 1, .imul, .iload 2, .iadd, .iaload, .ireturn])]
def tm_B_X12_heard : List (Nat × List Instr) := [(0, [.aload 0, .iload 1, .invokevirtual 158, .ifCond .eq 2050025, .aload 0, .iload 2, .invokevirtual 157, .ifCond .eq 2050025, .aload 0, .iload 1, .iload 2, .invokevirtual 164, .goto 2050030]),
  (25, [.aload 0, .iconst 1, .invokevirtual 154, .goto_w 2050030]),
  (30, [.ireturn])]
def tm_B_X12_off : List (Nat × List Instr) := [(0, [.aload 0, .iload 1, .invokevirtual 158, .ifCond .eq 2060021, .aload 0, .getfield 1200, .iconst 668, .iload 1, .iadd, .iaload, .goto 2060026]),
  (21, [.aload 0, .iconst 1, .invokevirtual 154, .goto_w 2060026]),
  (26, [.ireturn])]
def tm_B_X12_pace : List (Nat × List Instr) := [(0, [.aload 0, .iload 1, .invokevirtual 158, .ifCond .eq 2070056, .iload 2, .iconst 0, .iconst 24, .invokestatic 155, .ifCond .eq 2070056, .iload 3, .iconst 0, .aload 0, .getfield 1200, .iconst 0, .iaload, .iconst 1, .isub, .invokestatic 155, .ifCond .eq 2070056, .iload 4, .iconst 0, .iconst 99, .invokestatic 155, .ifCond .eq 2070056, .iload 5, .iconst 0, .iconst 99, .invokestatic 155, .ifCond .ne 2070062, .goto_w 2070056]),
  (56, [.aload 0, .iconst 1, .invokevirtual 154, .ireturn]),
  (62, [.aload 0, .aload 0, .iload 1, .invokevirtual 163, .iload 2, .iload 3, .iload 4, .iload 5, .invokevirtual 176, .ireturn])]
def tm_B_X12_rowsFrom : List (Nat × List Instr) := [(0, [.iload 6, .ifCond .ge 2080007, .ldc2_w 0, .lreturn]),
  (7, [.iload 2, .iload 3, .if_icmp .ne 2080028, .iload 7, .ifCond .eq 2080022, .iload 6, .ifCond .ne 2080026, .goto_w 2080022]),
  (22, [.ldc2_w 1, .goto 2080027]),
  (26, [.ldc2_w 0, .goto_w 2080027]),
  (27, [.lreturn]),
  (28, [.aload 0, .iload 1, .iload 2, .iload 2, .iload 4, .iload 5, .invokevirtual 176, .istore 8, .ldc2_w 0, .lstore 9, .iconst (-1), .istore 11, .goto_w 2080047]),
  (47, [.iload 11, .iconst 1, .if_icmp .gt 2080131, .iload 8, .iload 11, .iadd, .iconst 1, .if_icmp .ge 2080066, .iconst 1, .goto 2080071]),
  (66, [.iload 8, .iload 11, .iadd, .goto_w 2080071]),
  (71, [.istore 12, .aload 0, .iload 1, .iload 2, .iconst 1, .iadd, .iload 3, .iload 2, .ifCond .ne 2080088, .iload 12, .goto 2080090]),
  (88, [.iload 4, .goto_w 2080090]),
  (90, [.iload 12, .iload 6, .iload 12, .isub, .iload 7, .invokevirtual 208, .lstore 13, .lload 9, .iload 11, .ifCond .ne 2080120, .ldc2_w 2, .lload 13, .lmul, .goto 2080122]),
  (120, [.lload 13, .goto_w 2080122]),
  (122, [.ladd, .lstore 9, .iinc 11 1, .goto 2080047]),
  (131, [.lload 9, .lreturn])]
def tm_B_X12_odds : List (Nat × List Instr) := [(0, [.aload 0, .iload 1, .invokevirtual 158, .ifCond .eq 2090052, .iload 2, .iconst 1, .aload 0, .getfield 1200, .iconst 0, .iaload, .iconst 8, .if_icmp .ge 2090030, .aload 0, .getfield 1200, .iconst 0, .iaload, .goto 2090032]),
  (30, [.iconst 8, .goto_w 2090032]),
  (32, [.invokestatic 155, .ifCond .eq 2090052, .iload 3, .ifCond .lt 2090052, .iload 4, .iconst 0, .iconst 1, .invokestatic 155, .ifCond .ne 2090058, .goto_w 2090052]),
  (52, [.aload 0, .iconst 1, .invokevirtual 154, .ireturn]),
  (58, [.aload 0, .aload 0, .iload 1, .invokevirtual 163, .iconst 0, .iload 2, .iconst 0, .iconst 0, .iload 3, .iload 4, .iconst 1, .if_icmp .ne 2090079, .iconst 1, .goto 2090080]),
  (79, [.iconst 0, .goto_w 2090080]),
  (80, [.invokevirtual 208, .l2i, .ireturn])]
def tm_B_X12_feed : List (Nat × List Instr) := [(0, [.iload 3, .iconst 1, .iconst 8, .invokestatic 155, .ifCond .ne 2100016, .aload 0, .iconst 1, .invokevirtual 154, .ireturn]),
  (16, [.aload 0, .getfield 1200, .iconst 6, .iaload, .iload 3, .iadd, .iconst 60, .if_icmp .le 2100036, .aload 0, .iconst 4, .invokevirtual 154, .ireturn]),
  (36, [.iconst 0, .istore 4, .goto_w 2100039]),
  (39, [.iload 4, .iload 3, .if_icmp .ge 2100090, .aload 0, .getfield 1200, .iconst 1198, .aload 0, .getfield 1200, .iconst 6, .iaload, .iadd, .lload 1, .iconst 8, .iload 4, .imul, .lshr, .ldc2_w 255, .land, .l2i, .iastore, .aload 0, .getfield 1200, .iconst 6, .dup2, .iaload, .iconst 1, .iadd, .iastore, .iinc 4 1, .goto 2100039]),
  (90, [.aload 0, .getfield 1200, .iconst 6, .iaload, .ireturn])]
def tm_B_X12_text : List (Nat × List Instr) := [(0, [.iload 1, .iconst 0, .iconst 1, .invokestatic 155, .ifCond .ne 2110015, .aload 0, .iconst 1, .invokevirtual 154, .ireturn]),
  (15, [.aload 0, .getfield 1200, .iconst 6, .iaload, .istore 2, .aload 0, .getfield 1200, .iconst 6, .iconst 0, .iastore, .aload 0, .iconst 1198, .iload 2, .invokevirtual 174, .istore 3, .aload 0, .getfield 1209, .ifCond .eq 2110055, .iconst (-10), .aload 0, .getfield 1207, .isub, .ireturn]),
  (55, [.aload 0, .getfield 1200, .iconst 1076, .iload 1, .iadd, .iload 2, .iastore, .iconst 0, .istore 4, .goto_w 2110069]),
  (69, [.iload 4, .iload 2, .if_icmp .ge 2110108, .aload 0, .getfield 1200, .iconst 1078, .iconst 60, .iload 1, .imul, .iadd, .iload 4, .iadd, .aload 0, .getfield 1200, .iconst 1198, .iload 4, .iadd, .iaload, .iastore, .iinc 4 1, .goto 2110069]),
  (108, [.iconst 1, .ireturn])]
def tm_B_X12_least : List (Nat × List Instr) := [(0, [.iload 1, .iconst 1, .iconst 30, .invokestatic 155, .ifCond .eq 2120020, .aload 0, .iconst 8, .iload 1, .invokevirtual 165, .goto 2120025]),
  (20, [.aload 0, .iconst 1, .invokevirtual 154, .goto_w 2120025]),
  (25, [.ireturn])]
def tm_B_X12_findGap : List (Nat × List Instr) := [(0, [.iconst (-1), .istore 3, .aload 0, .iconst (-1), .putfield 1220, .iconst 0, .istore 4, .goto_w 2130010]),
  (10, [.iload 4, .aload 0, .getfield 1200, .iconst 0, .iaload, .if_icmp .gt 2130071, .iload 3, .iload 2, .if_icmp .ge 2130071, .aload 0, .iload 1, .iload 4, .invokevirtual 164, .ifCond .lt 2130065, .aload 0, .aload 0, .getfield 1220, .putfield 1219, .aload 0, .iload 4, .putfield 1220, .iload 3, .aload 0, .getfield 1219, .ifCond .lt 2130062, .iconst 1, .goto 2130063]),
  (62, [.iconst 0, .goto_w 2130063]),
  (63, [.iadd, .istore 3, .goto_w 2130065]),
  (65, [.iinc 4 1, .goto 2130010]),
  (71, [.iload 3, .iload 2, .if_icmp .ne 2130080, .iconst 1, .goto 2130081]),
  (80, [.iconst 0, .goto_w 2130081]),
  (81, [.freturn])]
def tm_B_X12_mayRide : List (Nat × List Instr) := [(0, [.aload 0, .iload 1, .iload 2, .iload 3, .aload 0, .getfield 1200, .iconst 8, .iaload, .invokevirtual 184, .iconst 0, .istore 5, .iconst 1, .istore 6, .goto_w 2140020]),
  (20, [.iload 6, .iconst 12, .if_icmp .gt 2140062, .iload 5, .ifCond .ne 2140049, .aload 0, .getfield 1212, .iconst 13, .iload 3, .imul, .iload 6, .iadd, .iaload, .iload 4, .if_icmp .gt 2140053, .goto_w 2140049]),
  (49, [.iconst 1, .goto 2140054]),
  (53, [.iconst 0, .goto_w 2140054]),
  (54, [.istore 5, .iinc 6 1, .goto 2140020]),
  (62, [.iload 5, .freturn])]
def tm_B_X12_gap : List (Nat × List Instr) := [(0, [.aload 0, .iload 1, .invokevirtual 158, .ifCond .eq 2150017, .iload 3, .iconst 0, .iconst 4, .invokestatic 155, .ifCond .ne 2150023, .goto_w 2150017]),
  (17, [.aload 0, .iconst 1, .invokevirtual 154, .ireturn]),
  (23, [.iload 2, .ifCond .lt 2150036, .aload 0, .iload 1, .iload 2, .invokevirtual 213, .ifCond .ne 2150042, .goto_w 2150036]),
  (36, [.aload 0, .iconst 2, .invokevirtual 154, .ireturn]),
  (42, [.aload 0, .iload 1, .aload 0, .getfield 1220, .invokevirtual 164, .aload 0, .iload 1, .aload 0, .getfield 1219, .invokevirtual 164, .isub, .istore 4, .iload 3, .tableswitch 2150137 0 3 #[2150096, 2150101, 2150106, 2150109]]),
  (96, [.aload 0, .getfield 1219, .ireturn]),
  (101, [.aload 0, .getfield 1220, .ireturn]),
  (106, [.iload 4, .ireturn]),
  (109, [.iload 4, .aload 0, .getfield 1200, .iconst 8, .iaload, .aload 0, .getfield 1220, .aload 0, .getfield 1219, .isub, .imul, .if_icmp .lt 2150135, .iconst 1, .goto 2150136]),
  (135, [.iconst 0, .goto_w 2150136]),
  (136, [.ireturn]),
  (137, [.aload 0, .aload 0, .getfield 1219, .aload 0, .iload 1, .aload 0, .getfield 1219, .invokevirtual 164, .aload 0, .getfield 1220, .aload 0, .iload 1, .aload 0, .getfield 1220, .invokevirtual 164, .invokevirtual 214, .ifCond .eq 2150174, .iconst 1, .goto 2150175]),
  (174, [.iconst 0, .goto_w 2150175]),
  (175, [.ireturn])]
def tm_B_X12_areTogether : List (Nat × List Instr) := [(0, [.iconst 0, .istore 4, .iconst 1, .istore 5, .iconst 0, .istore 6, .goto_w 2160009]),
  (9, [.iload 6, .aload 0, .getfield 1200, .iconst 0, .iaload, .if_icmp .gt 2160091, .aload 0, .iload 1, .iload 6, .invokevirtual 164, .ifCond .lt 2160085, .aload 0, .iload 2, .iload 6, .invokevirtual 164, .ifCond .lt 2160085, .aload 0, .iload 1, .iload 6, .invokevirtual 164, .aload 0, .iload 2, .iload 6, .invokevirtual 164, .isub, .istore 7, .iload 5, .ifCond .eq 2160079, .iload 7, .iload 3, .if_icmp .gt 2160079, .iload 7, .ineg, .iload 3, .if_icmp .gt 2160079, .iconst 1, .goto 2160080]),
  (79, [.iconst 0, .goto_w 2160080]),
  (80, [.istore 5, .iinc 4 1, .goto_w 2160085]),
  (85, [.iinc 6 1, .goto 2160009]),
  (91, [.iload 5, .ifCond .eq 2160106, .iload 4, .iconst 1, .if_icmp .le 2160106, .iconst 1, .goto 2160107]),
  (106, [.iconst 0, .goto_w 2160107]),
  (107, [.freturn])]
def tm_B_X12_company : List (Nat × List Instr) := [(0, [.iload 1, .iconst 0, .iconst 30, .invokestatic 155, .ifCond .eq 2170019, .iload 2, .iconst 0, .iconst 1, .invokestatic 155, .ifCond .ne 2170025, .goto_w 2170019]),
  (19, [.aload 0, .iconst 1, .invokevirtual 154, .ireturn]),
  (25, [.iconst 0, .istore 3, .iconst 0, .istore 4, .iconst 0, .istore 5, .goto_w 2170033]),
  (33, [.iload 5, .aload 0, .getfield 1200, .iconst 4, .iaload, .if_icmp .ge 2170095, .iconst 0, .istore 6, .goto_w 2170047]),
  (47, [.iload 6, .iload 5, .if_icmp .ge 2170089, .aload 0, .iload 5, .iload 6, .iload 1, .invokevirtual 216, .ifCond .eq 2170083, .iinc 3 1, .iload 4, .iconst 1, .iload 5, .ishl, .iconst 1, .iload 6, .ishl, .ior, .ior, .istore 4, .goto_w 2170083]),
  (83, [.iinc 6 1, .goto 2170047]),
  (89, [.iinc 5 1, .goto 2170033]),
  (95, [.iload 2, .ifCond .ne 2170103, .iload 3, .goto 2170105]),
  (103, [.iload 4, .goto_w 2170105]),
  (105, [.ireturn])]
def tm_B_X12_isHeardIn : List (Nat × List Instr) := [(0, [.iconst 0, .istore 4, .iload 2, .istore 5, .goto_w 2180006]),
  (6, [.iload 5, .iload 3, .if_icmp .gt 2180040, .iload 4, .ifCond .ne 2180027, .aload 0, .iload 1, .iload 5, .invokevirtual 164, .ifCond .lt 2180031, .goto_w 2180027]),
  (27, [.iconst 1, .goto 2180032]),
  (31, [.iconst 0, .goto_w 2180032]),
  (32, [.istore 4, .iinc 5 1, .goto 2180006]),
  (40, [.iload 4, .freturn])]
def tm_B_X12_misses : List (Nat × List Instr) := [(0, [.iload 1, .iconst 1, .aload 0, .getfield 1200, .iconst 0, .iaload, .iconst 1, .isub, .invokestatic 155, .ifCond .eq 2190025, .iload 2, .iconst 0, .iconst 1, .invokestatic 155, .ifCond .ne 2190031, .goto_w 2190025]),
  (25, [.aload 0, .iconst 1, .invokevirtual 154, .ireturn]),
  (31, [.iconst 0, .istore 3, .iconst 0, .istore 4, .iconst 0, .istore 5, .goto_w 2190039]),
  (39, [.iload 5, .aload 0, .getfield 1200, .iconst 4, .iaload, .if_icmp .ge 2190110, .aload 0, .iload 5, .iconst 0, .iload 1, .iconst 1, .isub, .invokevirtual 218, .ifCond .eq 2190104, .aload 0, .iload 5, .iload 1, .iconst 1, .iadd, .aload 0, .getfield 1200, .iconst 0, .iaload, .invokevirtual 218, .ifCond .eq 2190104, .iinc 3 1, .iload 4, .aload 0, .iload 5, .iload 1, .invokevirtual 164, .ifCond .ge 2190100, .iconst 1, .goto 2190101]),
  (100, [.iconst 0, .goto_w 2190101]),
  (101, [.iadd, .istore 4, .goto_w 2190104]),
  (104, [.iinc 5 1, .goto 2190039]),
  (110, [.iload 2, .ifCond .ne 2190119, .iload 4, .goto 2190120]),
  (119, [.iload 3, .goto_w 2190120]),
  (120, [.ireturn])]
def tm_B_X12_offMiddle : List (Nat × List Instr) := [(0, [.iconst 0, .istore 4, .iload 2, .istore 5, .goto_w 2200006]),
  (6, [.iload 5, .iload 3, .if_icmp .ge 2200089, .aload 0, .getfield 1229, .iconst 24, .iload 1, .imul, .iload 5, .iadd, .iaload, .istore 6, .iload 4, .istore 7, .goto_w 2200030]),
  (30, [.iload 7, .ifCond .le 2200071, .aload 0, .getfield 1221, .iload 7, .iconst 1, .isub, .iaload, .iload 6, .if_icmp .le 2200071, .aload 0, .getfield 1221, .iload 7, .aload 0, .getfield 1221, .iload 7, .iconst 1, .isub, .iaload, .iastore, .iinc 7 (-1), .goto 2200030]),
  (71, [.aload 0, .getfield 1221, .iload 7, .iload 6, .iastore, .iinc 4 1, .iinc 5 1, .goto 2200006]),
  (89, [.aload 0, .getfield 1221, .iload 4, .iconst 1, .isub, .iconst 2, .idiv, .iaload, .i2l, .lstore 5, .ldc2_w 0, .lstore 7, .iconst 0, .istore 9, .goto_w 2200109]),
  (109, [.iload 9, .iload 4, .if_icmp .ge 2200166, .lload 7, .aload 0, .getfield 1221, .iload 9, .iaload, .i2l, .lload 5, .lcmp, .ifCond .le 2200146, .aload 0, .getfield 1221, .iload 9, .iaload, .i2l, .lload 5, .lsub, .goto 2200157]),
  (146, [.lload 5, .aload 0, .getfield 1221, .iload 9, .iaload, .i2l, .lsub, .goto_w 2200157]),
  (157, [.ladd, .lstore 7, .iinc 9 1, .goto 2200109]),
  (166, [.lload 7, .lreturn])]
def tm_B_X12_parts : List (Nat × List Instr) := [(0, [.iload 1, .iconst 0, .iconst 3, .invokestatic 155, .ifCond .eq 2210018, .iload 2, .iconst 0, .iconst 2, .invokestatic 155, .ifCond .ne 2210025, .goto_w 2210018]),
  (18, [.aload 0, .iconst 1, .invokevirtual 154, .i2l, .lreturn]),
  (25, [.aload 0, .getfield 1227, .iload 1, .iaload, .ifCond .ne 2210041, .aload 0, .iconst 2, .invokevirtual 154, .i2l, .lreturn]),
  (41, [.aload 0, .getfield 1228, .iload 1, .iaload, .istore 3, .iload 3, .iconst 2, .if_icmp .ge 2210060, .aload 0, .iconst 3, .invokevirtual 154, .i2l, .lreturn]),
  (60, [.iconst 0, .istore 4, .ldc2_w 0, .lstore 5, .iconst 1, .istore 7, .goto_w 2210069]),
  (69, [.iload 7, .iload 3, .if_icmp .ge 2210121, .aload 0, .iload 1, .iconst 0, .iload 7, .invokevirtual 220, .aload 0, .iload 1, .iload 7, .iload 3, .invokevirtual 220, .ladd, .lstore 8, .iload 4, .ifCond .eq 2210107, .lload 8, .lload 5, .lcmp, .ifCond .ge 2210115, .goto_w 2210107]),
  (107, [.iload 7, .istore 4, .lload 8, .lstore 5, .goto_w 2210115]),
  (115, [.iinc 7 1, .goto 2210069]),
  (121, [.iload 2, .ifCond .ne 2210131, .iload 4, .i2l, .goto 2210148]),
  (131, [.iload 2, .iconst 1, .if_icmp .ne 2210141, .lload 5, .goto 2210148]),
  (141, [.aload 0, .iload 1, .iconst 0, .iload 3, .invokevirtual 220, .goto_w 2210148]),
  (148, [.lreturn])]
def tm_B_X12_between : List (Nat × List Instr) := [(0, [.aload 0, .iload 1, .iload 2, .invokevirtual 164, .ifCond .lt 2220018, .aload 0, .iload 1, .iload 3, .invokevirtual 164, .ifCond .ge 2220022, .goto_w 2220018]),
  (18, [.iconst (-1), .goto 2220035]),
  (22, [.aload 0, .iload 1, .iload 3, .invokevirtual 164, .aload 0, .iload 1, .iload 2, .invokevirtual 164, .isub, .goto_w 2220035]),
  (35, [.ireturn])]
def tm_B_X12_oddOf : List (Nat × List Instr) := [(0, [.aload 0, .getfield 1200, .iconst 0, .iaload, .iconst 2, .idiv, .istore 2, .aload 0, .iload 1, .iconst 0, .iload 2, .invokevirtual 222, .istore 3, .aload 0, .iload 1, .iload 2, .aload 0, .getfield 1200, .iconst 0, .iaload, .invokevirtual 222, .istore 4, .aload 0, .getfield 1200, .iconst 1077, .iaload, .ifCond .ne 2230060, .iload 4, .iconst (-1), .if_icmp .eq 2230058, .iload 3, .iload 4, .if_icmp .le 2230058, .iconst 1, .goto 2230059]),
  (58, [.iconst 0, .goto_w 2230059]),
  (59, [.ireturn]),
  (60, [.iconst 0, .istore 5, .iconst 0, .istore 6, .goto_w 2230066]),
  (66, [.iload 6, .aload 0, .getfield 1200, .iconst 0, .iaload, .if_icmp .gt 2230117, .iload 5, .aload 0, .getfield 1200, .iconst 34, .iload 6, .iadd, .iaload, .iconst 1, .if_icmp .ne 2230107, .aload 0, .iload 1, .iload 6, .invokevirtual 164, .ifCond .ge 2230107, .iconst 1, .goto 2230108]),
  (107, [.iconst 0, .goto_w 2230108]),
  (108, [.iadd, .istore 5, .iinc 6 1, .goto 2230066]),
  (117, [.iconst 0, .istore 6, .iconst 0, .istore 7, .goto_w 2230123]),
  (123, [.iload 7, .aload 0, .getfield 1200, .iconst 4, .iaload, .if_icmp .ge 2230167, .iload 6, .iload 7, .iload 1, .if_icmp .eq 2230157, .aload 0, .iload 1, .iload 7, .iconst 1, .invokevirtual 216, .ifCond .eq 2230157, .iconst 1, .goto 2230158]),
  (157, [.iconst 0, .goto_w 2230158]),
  (158, [.iadd, .istore 6, .iinc 7 1, .goto 2230123]),
  (167, [.aload 0, .getfield 1210, .iconst 0, .iload 3, .iastore, .aload 0, .getfield 1210, .iconst 1, .iload 4, .iastore, .aload 0, .getfield 1210, .iconst 2, .iload 5, .iastore, .aload 0, .getfield 1210, .iconst 3, .aload 0, .iload 1, .iconst 0, .aload 0, .getfield 1200, .iconst 0, .iaload, .invokevirtual 222, .iastore, .aload 0, .getfield 1210, .iconst 4, .iload 6, .iastore, .aload 0, .getfield 1210, .iconst 5, .aload 0, .iload 1, .invokevirtual 163, .iastore, .aload 0, .iconst 1, .invokevirtual 175, .ireturn])]
def tm_B_X12_odd : List (Nat × List Instr) := [(0, [.aload 0, .iload 1, .invokevirtual 158, .ifCond .eq 2240016, .aload 0, .iload 1, .invokevirtual 223, .goto 2240021]),
  (16, [.aload 0, .iconst 1, .invokevirtual 154, .goto_w 2240021]),
  (21, [.ireturn])]
def tm_B_X12_judge : List (Nat × List Instr) := [(0, [.iload 1, .iconst 0, .iconst 3, .invokestatic 155, .ifCond .ne 2250015, .aload 0, .iconst 1, .invokevirtual 154, .ireturn]),
  (15, [.iconst 0, .istore 2, .iconst 0, .istore 3, .goto_w 2250019]),
  (19, [.iload 3, .aload 0, .getfield 1200, .iconst 4, .iaload, .if_icmp .ge 2250115, .aload 0, .iload 3, .invokevirtual 223, .ifCond .eq 2250041, .iconst 1, .goto 2250042]),
  (41, [.iconst 0, .goto_w 2250042]),
  (42, [.istore 4, .aload 0, .getfield 1200, .iconst 668, .iload 3, .iadd, .iaload, .iconst 1, .if_icmp .ne 2250062, .iconst 1, .goto 2250063]),
  (62, [.iconst 0, .goto_w 2250063]),
  (63, [.istore 5, .iload 4, .ifCond .eq 2250083, .iload 5, .ifCond .eq 2250079, .iconst 0, .goto 2250093]),
  (79, [.iconst 1, .goto 2250093]),
  (83, [.iload 5, .ifCond .eq 2250092, .iconst 2, .goto 2250093]),
  (92, [.iconst 3, .goto_w 2250093]),
  (93, [.istore 6, .iload 2, .iload 6, .iload 1, .if_icmp .ne 2250106, .iconst 1, .goto 2250107]),
  (106, [.iconst 0, .goto_w 2250107]),
  (107, [.iadd, .istore 2, .iinc 3 1, .goto 2250019]),
  (115, [.iload 2, .ireturn])]
def tm_B_X12_isSet : List (Nat × List Instr) := [(0, [.iload 1, .ifCond .lt 2260019, .iload 1, .aload 0, .getfield 1200, .iconst 4, .iaload, .ishr, .ifCond .ne 2260019, .iconst 1, .goto 2260020]),
  (19, [.iconst 0, .goto_w 2260020]),
  (20, [.freturn])]
def tm_B_X12_took : List (Nat × List Instr) := [(0, [.aload 0, .iload 1, .aload 0, .getfield 1200, .iconst 0, .iaload, .invokevirtual 164, .aload 0, .iload 1, .iconst 0, .invokevirtual 164, .ifCond .ge 2270024, .iconst 0, .goto 2270030]),
  (24, [.aload 0, .iload 1, .iconst 0, .invokevirtual 164, .goto_w 2270030]),
  (30, [.isub, .ireturn])]
def tm_B_X12_placeOf : List (Nat × List Instr) := [(0, [.iload 2, .iload 1, .ishr, .iconst 1, .iand, .iconst 1, .if_icmp .eq 2280023, .aload 0, .iload 1, .aload 0, .getfield 1200, .iconst 0, .iaload, .invokevirtual 164, .ifCond .ge 2280025, .goto_w 2280023]),
  (23, [.iconst 0, .ireturn]),
  (25, [.iconst 1, .istore 3, .iconst 0, .istore 4, .goto_w 2280030]),
  (30, [.iload 4, .aload 0, .getfield 1200, .iconst 4, .iaload, .if_icmp .ge 2280093, .iload 3, .iload 2, .iload 4, .ishr, .iconst 1, .iand, .ifCond .ne 2280084, .aload 0, .iload 4, .aload 0, .getfield 1200, .iconst 0, .iaload, .invokevirtual 164, .ifCond .lt 2280084, .aload 0, .iload 4, .invokevirtual 227, .aload 0, .iload 1, .invokevirtual 227, .if_icmp .ge 2280084, .iconst 1, .goto 2280085]),
  (84, [.iconst 0, .goto_w 2280085]),
  (85, [.iadd, .istore 3, .iinc 4 1, .goto 2280030]),
  (93, [.iload 3, .ireturn])]
def tm_B_X12_place : List (Nat × List Instr) := [(0, [.aload 0, .iload 1, .invokevirtual 158, .ifCond .eq 2290016, .aload 0, .iload 2, .invokevirtual 226, .ifCond .ne 2290022, .goto_w 2290016]),
  (16, [.aload 0, .iconst 1, .invokevirtual 154, .ireturn]),
  (22, [.aload 0, .iload 1, .iload 2, .invokevirtual 228, .istore 3, .iload 3, .ifCond .ne 2290041, .aload 0, .iconst 3, .invokevirtual 154, .goto 2290042]),
  (41, [.iload 3, .goto_w 2290042]),
  (42, [.ireturn])]
def tm_B_X12_up : List (Nat × List Instr) := [(0, [.aload 0, .iload 1, .invokevirtual 226, .ifCond .ne 2300014, .aload 0, .iconst 1, .invokevirtual 154, .ireturn]),
  (14, [.iconst 0, .istore 2, .iconst 0, .istore 3, .goto_w 2300018]),
  (18, [.iload 3, .aload 0, .getfield 1200, .iconst 4, .iaload, .if_icmp .ge 2300066, .iload 2, .aload 0, .iload 3, .iload 1, .invokevirtual 228, .ifCond .le 2300057, .aload 0, .iload 3, .iload 1, .invokevirtual 228, .aload 0, .iload 3, .iconst 0, .invokevirtual 228, .if_icmp .ge 2300057, .iconst 1, .goto 2300058]),
  (57, [.iconst 0, .goto_w 2300058]),
  (58, [.iadd, .istore 2, .iinc 3 1, .goto 2300018]),
  (66, [.iload 2, .ireturn])]
def tm_B_X12_entry : List (Nat × List Instr) := [(0, [.aload 0, .iload 1, .invokevirtual 158, .ifCond .eq 2310065, .iload 2, .iconst 0, .iconst 365, .invokestatic 155, .ifCond .eq 2310065, .iload 3, .iconst 0, .iconst 30, .invokestatic 155, .ifCond .eq 2310065, .iload 4, .iconst 0, .iconst 2324, .invokestatic 155, .ifCond .eq 2310065, .iload 4, .iconst 100, .irem, .iload 4, .iconst 100, .idiv, .iconst 1, .iadd, .iconst 24, .invokestatic 155, .ifCond .eq 2310065, .iconst 1, .goto 2310066]),
  (65, [.iconst 0, .goto_w 2310066]),
  (66, [.istore 5, .iload 5, .ifCond .ne 2310079, .aload 0, .iconst 1, .invokevirtual 154, .ireturn]),
  (79, [.aload 0, .getfield 1200, .iconst 680, .iload 1, .iadd, .iaload, .iconst 8, .if_icmp .ne 2310100, .aload 0, .iconst 4, .invokevirtual 154, .ireturn]),
  (100, [.iconst 692, .iconst 32, .iload 1, .imul, .iadd, .iconst 4, .aload 0, .getfield 1200, .iconst 680, .iload 1, .iadd, .iaload, .imul, .iadd, .istore 6, .aload 0, .getfield 1200, .iload 6, .iload 2, .iastore, .aload 0, .getfield 1200, .iload 6, .iconst 1, .iadd, .iload 3, .iastore, .aload 0, .getfield 1200, .iload 6, .iconst 2, .iadd, .iload 4, .iconst 100, .idiv, .iastore, .aload 0, .getfield 1200, .iload 6, .iconst 3, .iadd, .iload 4, .iconst 100, .irem, .iastore, .aload 0, .getfield 1200, .iconst 680, .iload 1, .iadd, .dup2, .iaload, .iconst 1, .iadd, .iastore, .aload 0, .getfield 1200, .iconst 680, .iload 1, .iadd, .iaload, .ireturn])]
def tm_B_X12_clash : List (Nat × List Instr) := [(0, [.iconst 692, .iconst 32, .iload 1, .imul, .iadd, .iconst 4, .iload 2, .imul, .iadd, .istore 4, .iconst 692, .iconst 32, .iload 1, .imul, .iadd, .iconst 4, .iload 3, .imul, .iadd, .istore 5, .aload 0, .getfield 1200, .iload 4, .iconst 1, .iadd, .iaload, .aload 0, .getfield 1200, .iload 5, .iconst 1, .iadd, .iaload, .if_icmp .le 2320071, .aload 0, .getfield 1200, .iload 4, .iconst 1, .iadd, .iaload, .aload 0, .getfield 1200, .iload 5, .iconst 1, .iadd, .iaload, .isub, .goto 2320090]),
  (71, [.aload 0, .getfield 1200, .iload 5, .iconst 1, .iadd, .iaload, .aload 0, .getfield 1200, .iload 4, .iconst 1, .iadd, .iaload, .isub, .goto_w 2320090]),
  (90, [.iconst 3, .idiv, .istore 6, .aload 0, .getfield 1200, .iload 4, .iaload, .aload 0, .getfield 1200, .iload 5, .iaload, .if_icmp .ne 2320163, .aload 0, .getfield 1200, .iload 4, .iconst 3, .iadd, .iaload, .iload 6, .iadd, .aload 0, .getfield 1200, .iload 5, .iconst 2, .iadd, .iaload, .if_icmp .le 2320163, .aload 0, .getfield 1200, .iload 5, .iconst 3, .iadd, .iaload, .iload 6, .iadd, .aload 0, .getfield 1200, .iload 4, .iconst 2, .iadd, .iaload, .if_icmp .le 2320163, .iconst 1, .goto 2320164]),
  (163, [.iconst 0, .goto_w 2320164]),
  (164, [.freturn])]
def tm_B_X12_same : List (Nat × List Instr) := [(0, [.aload 0, .iload 1, .invokevirtual 158, .ifCond .eq 2330017, .iload 2, .iconst 0, .iconst 1, .invokestatic 155, .ifCond .ne 2330023, .goto_w 2330017]),
  (17, [.aload 0, .iconst 1, .invokevirtual 154, .ireturn]),
  (23, [.aload 0, .getfield 1200, .iconst 680, .iload 1, .iadd, .iaload, .istore 3, .iconst 0, .istore 4, .iconst 0, .istore 5, .iconst 0, .istore 6, .goto_w 2330043]),
  (43, [.iload 6, .iconst 1, .iload 3, .ishl, .if_icmp .ge 2330190, .iconst 0, .istore 7, .iconst 0, .istore 8, .iconst 0, .istore 9, .goto_w 2330060]),
  (60, [.iload 9, .iload 3, .if_icmp .ge 2330144, .iload 7, .iload 6, .iload 9, .ishr, .iconst 1, .iand, .iadd, .istore 7, .iconst 0, .istore 10, .goto_w 2330081]),
  (81, [.iload 10, .iload 9, .if_icmp .ge 2330138, .iload 8, .iload 6, .iload 9, .ishr, .iconst 1, .iand, .iconst 1, .if_icmp .ne 2330128, .iload 6, .iload 10, .ishr, .iconst 1, .iand, .iconst 1, .if_icmp .ne 2330128, .aload 0, .iload 1, .iload 9, .iload 10, .invokevirtual 232, .ifCond .eq 2330128, .iconst 1, .goto 2330129]),
  (128, [.iconst 0, .goto_w 2330129]),
  (129, [.iadd, .istore 8, .iinc 10 1, .goto 2330081]),
  (138, [.iinc 9 1, .goto 2330060]),
  (144, [.iload 8, .ifCond .ne 2330161, .iload 7, .iload 5, .if_icmp .le 2330161, .iload 7, .goto 2330163]),
  (161, [.iload 5, .goto_w 2330163]),
  (163, [.istore 5, .iload 6, .iconst 1, .iload 3, .ishl, .iconst 1, .isub, .if_icmp .ne 2330180, .iload 8, .goto 2330182]),
  (180, [.iload 4, .goto_w 2330182]),
  (182, [.istore 4, .iinc 6 1, .goto 2330043]),
  (190, [.iload 2, .ifCond .ne 2330199, .iload 4, .goto 2330201]),
  (199, [.iload 5, .goto_w 2330201]),
  (201, [.ireturn])]
def tm_B_X12_ran : List (Nat × List Instr) := [(0, [.aload 0, .getfield 1223, .iconst 40, .if_icmp .ge 2340029, .aload 0, .getfield 1222, .aload 0, .getfield 1223, .iload 1, .iastore, .aload 0, .dup, .getfield 1223, .iconst 1, .iadd, .putfield 1223, .goto_w 2340029]),
  (29, [.return_])]
def tm_B_X12_goingGo : List (Nat × List Instr) := [(0, [.aload 0, .iconst 10, .invokevirtual 234, .iload 1, .aload 0, .getfield 1226, .iadd, .ireturn])]
def tm_B_X12_goIt : List (Nat × List Instr) := [(0, [.aload 0, .getfield 1224, .iconst 2, .if_icmp .ne 2360022, .aload 0, .iconst 30, .invokevirtual 234, .aload 0, .iload 1, .iconst 1, .iadd, .invokevirtual 235, .ireturn]),
  (22, [.aload 0, .getfield 1224, .iconst 4, .if_icmp .ne 2360047, .aload 0, .iconst 51, .invokevirtual 234, .aload 0, .iload 1, .aload 0, .getfield 1225, .isub, .invokevirtual 235, .ireturn]),
  (47, [.aload 0, .iload 1, .invokevirtual 235, .ireturn])]
def tm_B_X12_goingWeigh : List (Nat × List Instr) := [(0, [.aload 0, .iconst 12, .invokevirtual 234, .iload 1, .aload 0, .getfield 1225, .isub, .ireturn])]
def tm_B_X12_runWeigh : List (Nat × List Instr) := [(0, [.aload 0, .iconst 20, .invokevirtual 234, .aload 0, .iload 1, .invokevirtual 237, .aload 0, .getfield 1226, .iadd, .ireturn])]
def tm_B_X12_weighIt : List (Nat × List Instr) := [(0, [.iconst 0, .istore 2, .aload 0, .getfield 1224, .tableswitch 2390102 1 7 #[2390048, 2390054, 2390102, 2390102, 2390082, 2390102, 2390068]]),
  (48, [.aload 0, .iload 1, .invokevirtual 238, .ireturn]),
  (54, [.aload 0, .iconst 31, .invokevirtual 234, .aload 0, .iload 1, .invokevirtual 238, .iconst 2, .imul, .ireturn]),
  (68, [.aload 0, .iconst 81, .invokevirtual 234, .aload 0, .iload 1, .iconst 1, .isub, .invokevirtual 238, .ireturn]),
  (82, [.aload 0, .iconst 60, .invokevirtual 234, .aload 0, .iload 1, .invokevirtual 237, .istore 2, .iload 2, .aload 0, .iload 1, .invokevirtual 236, .ixor, .ireturn]),
  (102, [.aload 0, .iload 1, .invokevirtual 237, .ireturn])]
def tm_B_X12_goingShow : List (Nat × List Instr) := [(0, [.aload 0, .iconst 11, .invokevirtual 234, .aload 0, .iload 1, .invokevirtual 236, .iconst 2, .imul, .ireturn])]
def tm_B_X12_showIt : List (Nat × List Instr) := [(0, [.aload 0, .getfield 1224, .iconst 3, .if_icmp .eq 2410016, .aload 0, .getfield 1224, .iconst 4, .if_icmp .ne 2410036, .goto_w 2410016]),
  (16, [.aload 0, .iconst 40, .invokevirtual 234, .aload 0, .iload 1, .invokevirtual 240, .istore 2, .iload 2, .aload 0, .iload 1, .invokevirtual 239, .isub, .ireturn]),
  (36, [.aload 0, .getfield 1224, .iconst 7, .if_icmp .ne 2410062, .aload 0, .iconst 80, .invokevirtual 234, .aload 0, .iload 1, .aload 0, .getfield 1226, .iadd, .invokevirtual 240, .ireturn]),
  (62, [.aload 0, .iload 1, .invokevirtual 240, .ireturn])]
def tm_B_X12_goingTell : List (Nat × List Instr) := [(0, [.aload 0, .iconst 13, .invokevirtual 234, .aload 0, .iload 1, .invokevirtual 241, .istore 2, .iload 2, .aload 0, .iload 1, .invokevirtual 239, .ixor, .ireturn])]
def tm_B_X12_tellIt : List (Nat × List Instr) := [(0, [.aload 0, .getfield 1224, .iconst 4, .if_icmp .ne 2430022, .aload 0, .iconst 50, .invokevirtual 234, .aload 0, .iload 1, .invokevirtual 242, .iconst 1, .iadd, .ireturn]),
  (22, [.aload 0, .getfield 1224, .iconst 6, .if_icmp .ne 2430051, .aload 0, .iconst 70, .invokevirtual 234, .aload 0, .iload 1, .invokevirtual 239, .istore 2, .iload 2, .aload 0, .iload 1, .invokevirtual 242, .isub, .ireturn]),
  (51, [.aload 0, .iload 1, .invokevirtual 242, .ireturn])]
def tm_B_X12_voice : List (Nat × List Instr) := [(0, [.aload 0, .iload 1, .invokevirtual 160, .ifCond .eq 2440017, .iload 2, .iconst 0, .iconst 3, .invokestatic 155, .ifCond .ne 2440023, .goto_w 2440017]),
  (17, [.aload 0, .iconst 1, .invokevirtual 154, .ireturn]),
  (23, [.aload 0, .iconst 0, .putfield 1223, .aload 0, .aload 0, .iload 1, .iconst 0, .invokevirtual 162, .putfield 1224, .aload 0, .aload 0, .iload 1, .iconst 1, .invokevirtual 162, .putfield 1225, .aload 0, .aload 0, .iload 1, .iconst 2, .invokevirtual 162, .putfield 1226, .iload 2, .ifCond .ne 2440070, .aload 0, .iload 3, .invokevirtual 236, .goto 2440101]),
  (70, [.iload 2, .iconst 1, .if_icmp .ne 2440083, .aload 0, .iload 3, .invokevirtual 241, .goto 2440101]),
  (83, [.iload 2, .iconst 2, .if_icmp .ne 2440096, .aload 0, .iload 3, .invokevirtual 239, .goto 2440101]),
  (96, [.aload 0, .iload 3, .invokevirtual 243, .goto_w 2440101]),
  (101, [.ireturn])]
def tm_B_X12_trace : List (Nat × List Instr) := [(0, [.iload 1, .iconst 0, .aload 0, .getfield 1223, .iconst 1, .isub, .invokestatic 155, .ifCond .eq 2450023, .aload 0, .getfield 1222, .iload 1, .iaload, .goto 2450028]),
  (23, [.aload 0, .iconst 2, .invokevirtual 154, .goto_w 2450028]),
  (28, [.ireturn])]
def tm_B_X12_sheet : List (Nat × List Instr) := [(0, [.iload 1, .iconst 0, .iconst 3, .invokestatic 155, .ifCond .eq 2460031, .iload 2, .ifCond .eq 2460037, .iload 2, .iconst 8, .if_icmp .eq 2460037, .iload 2, .iconst 16, .if_icmp .eq 2460037, .iload 2, .iconst 32, .if_icmp .eq 2460037, .goto_w 2460031]),
  (31, [.aload 0, .iconst 1, .invokevirtual 154, .ireturn]),
  (37, [.iload 2, .ifCond .ne 2460050, .aload 0, .getfield 1227, .iload 1, .iconst 0, .iastore, .iconst 1, .ireturn]),
  (50, [.iload 3, .ifCond .ge 2460060, .aload 0, .iconst 3, .invokevirtual 154, .ireturn]),
  (60, [.iload 3, .iconst 24, .if_icmp .le 2460072, .aload 0, .iconst 1, .invokevirtual 154, .ireturn]),
  (72, [.aload 0, .getfield 1227, .iload 1, .iload 2, .iastore, .aload 0, .getfield 1228, .iload 1, .iload 3, .iastore, .iconst 0, .istore 4, .goto_w 2460089]),
  (89, [.iload 4, .iconst 24, .if_icmp .ge 2460115, .aload 0, .getfield 1229, .iconst 24, .iload 1, .imul, .iload 4, .iadd, .iconst 0, .iastore, .iinc 4 1, .goto 2460089]),
  (115, [.iconst 1, .ireturn])]
def tm_B_X12_put : List (Nat × List Instr) := [(0, [.iload 1, .iconst 0, .iconst 3, .invokestatic 155, .ifCond .ne 2470015, .aload 0, .iconst 1, .invokevirtual 154, .ireturn]),
  (15, [.aload 0, .getfield 1227, .iload 1, .iaload, .ifCond .ne 2470030, .aload 0, .iconst 2, .invokevirtual 154, .ireturn]),
  (30, [.iload 2, .iconst 0, .aload 0, .getfield 1228, .iload 1, .iaload, .iconst 1, .isub, .invokestatic 155, .ifCond .ne 2470052, .aload 0, .iconst 1, .invokevirtual 154, .ireturn]),
  (52, [.aload 0, .getfield 1229, .iconst 24, .iload 1, .imul, .iload 2, .iadd, .aload 0, .getfield 1227, .iload 1, .iaload, .iconst 8, .if_icmp .ne 2470078, .iload 3, .i2b, .goto 2470095]),
  (78, [.aload 0, .getfield 1227, .iload 1, .iaload, .iconst 16, .if_icmp .ne 2470094, .iload 3, .i2s, .goto 2470095]),
  (94, [.iload 3, .goto_w 2470095]),
  (95, [.iastore, .iconst 1, .ireturn])]
def tm_B_X12_has : List (Nat × List Instr) := [(0, [.iload 2, .ifCond .lt 2480034, .iload 3, .ifCond .lt 2480034, .iload 3, .aload 0, .getfield 1228, .iload 1, .iaload, .if_icmp .gt 2480034, .iload 2, .aload 0, .getfield 1228, .iload 1, .iaload, .iload 3, .isub, .if_icmp .gt 2480034, .iconst 1, .goto 2480035]),
  (34, [.iconst 0, .goto_w 2480035]),
  (35, [.freturn])]
def tm_B_X12_move : List (Nat × List Instr) := [(0, [.iload 1, .iconst 0, .iconst 3, .invokestatic 155, .ifCond .eq 2490018, .iload 3, .iconst 0, .iconst 3, .invokestatic 155, .ifCond .ne 2490024, .goto_w 2490018]),
  (18, [.aload 0, .iconst 1, .invokevirtual 154, .ireturn]),
  (24, [.aload 0, .getfield 1227, .iload 1, .iaload, .ifCond .eq 2490042, .aload 0, .getfield 1227, .iload 3, .iaload, .ifCond .ne 2490048, .goto_w 2490042]),
  (42, [.aload 0, .iconst 2, .invokevirtual 154, .ireturn]),
  (48, [.aload 0, .getfield 1227, .iload 1, .iaload, .aload 0, .getfield 1227, .iload 3, .iaload, .if_icmp .eq 2490069, .aload 0, .iconst 5, .invokevirtual 154, .ireturn]),
  (69, [.aload 0, .iload 1, .iload 2, .iload 5, .invokevirtual 248, .ifCond .eq 2490092, .aload 0, .iload 3, .iload 4, .iload 5, .invokevirtual 248, .ifCond .ne 2490098, .goto_w 2490092]),
  (92, [.aload 0, .iconst 1, .invokevirtual 154, .ireturn]),
  (98, [.iconst 0, .istore 6, .goto_w 2490101]),
  (101, [.iload 6, .iload 5, .if_icmp .ge 2490135, .aload 0, .getfield 1230, .iload 6, .aload 0, .getfield 1229, .iconst 24, .iload 1, .imul, .iload 2, .iadd, .iload 6, .iadd, .iaload, .iastore, .iinc 6 1, .goto 2490101]),
  (135, [.iconst 0, .istore 6, .goto_w 2490138]),
  (138, [.iload 6, .iload 5, .if_icmp .ge 2490173, .aload 0, .getfield 1229, .iconst 24, .iload 3, .imul, .iload 4, .iadd, .iload 6, .iadd, .aload 0, .getfield 1230, .iload 6, .iaload, .iastore, .iinc 6 1, .goto 2490138]),
  (173, [.iload 5, .ireturn])]
def tm_B_X12_narrowed : List (Nat × List Instr) := [(0, [.aload 0, .getfield 1227, .iload 1, .iaload, .iconst 8, .if_icmp .ne 2500016, .iload 2, .i2b, .goto 2500033]),
  (16, [.aload 0, .getfield 1227, .iload 1, .iaload, .iconst 16, .if_icmp .ne 2500032, .iload 2, .i2s, .goto 2500033]),
  (32, [.iload 2, .goto_w 2500033]),
  (33, [.ireturn])]
def tm_B_X12_write : List (Nat × List Instr) := [(0, [.aload 0, .iload 1, .invokevirtual 158, .ifCond .eq 2510017, .iload 2, .iconst 0, .iconst 3, .invokestatic 155, .ifCond .ne 2510023, .goto_w 2510017]),
  (17, [.aload 0, .iconst 1, .invokevirtual 154, .ireturn]),
  (23, [.aload 0, .getfield 1227, .iload 2, .iaload, .ifCond .ne 2510038, .aload 0, .iconst 2, .invokevirtual 154, .ireturn]),
  (38, [.iconst 0, .istore 3, .goto_w 2510040]),
  (40, [.iload 3, .aload 0, .getfield 1228, .iload 2, .iaload, .if_icmp .ge 2510114, .aload 0, .iload 1, .iload 3, .invokevirtual 213, .ifCond .eq 2510114, .aload 0, .iload 1, .aload 0, .getfield 1220, .invokevirtual 164, .aload 0, .iload 1, .aload 0, .getfield 1219, .invokevirtual 164, .isub, .aload 0, .getfield 1220, .aload 0, .getfield 1219, .isub, .idiv, .istore 4, .aload 0, .getfield 1229, .iconst 24, .iload 2, .imul, .iload 3, .iadd, .aload 0, .iload 2, .iload 4, .invokevirtual 250, .iastore, .iinc 3 1, .goto 2510040]),
  (114, [.iload 3, .ireturn])]
def tm_B_X12_image : List (Nat × List Instr) := [(0, [.iconst 0, .istore 1, .goto_w 2520002]),
  (2, [.iload 1, .iconst 1258, .if_icmp .ge 2520027, .aload 0, .getfield 1201, .iload 1, .aload 0, .getfield 1200, .iload 1, .iaload, .iastore, .iinc 1 1, .goto 2520002]),
  (27, [.aload 0, .iconst 1, .putfield 1202, .aload 0, .dup, .getfield 1203, .iconst 1, .iadd, .putfield 1203, .aload 0, .getfield 1203, .ireturn])]
def tm_B_X12_restore : List (Nat × List Instr) := [(0, [.aload 0, .getfield 1202, .ifCond .ne 2530013, .aload 0, .iconst 2, .invokevirtual 154, .ireturn]),
  (13, [.iconst 0, .istore 1, .goto_w 2530015]),
  (15, [.iload 1, .iconst 1258, .if_icmp .ge 2530040, .aload 0, .getfield 1200, .iload 1, .aload 0, .getfield 1201, .iload 1, .iaload, .iastore, .iinc 1 1, .goto 2530015]),
  (40, [.aload 0, .getfield 1200, .iconst 0, .iaload, .ireturn])]
def tm_B_X12_told : List (Nat × List Instr) := [(0, [.iconst 0, .istore 2, .iload 1, .tableswitch 2540189 0 10 #[2540060, 2540067, 2540074, 2540081, 2540088, 2540095, 2540103, 2540135, 2540143, 2540151, 2540184]]),
  (60, [.aload 0, .getfield 1200, .iconst 0, .iaload, .ireturn]),
  (67, [.aload 0, .getfield 1200, .iconst 3, .iaload, .ireturn]),
  (74, [.aload 0, .getfield 1200, .iconst 4, .iaload, .ireturn]),
  (81, [.aload 0, .getfield 1200, .iconst 5, .iaload, .ireturn]),
  (88, [.aload 0, .getfield 1200, .iconst 2, .iaload, .ireturn]),
  (95, [.aload 0, .getfield 1200, .iconst 6, .iaload, .ireturn]),
  (103, [.iconst 0, .istore 3, .goto_w 2540105]),
  (105, [.iload 3, .aload 0, .getfield 1200, .iconst 0, .iaload, .if_icmp .gt 2540133, .iload 2, .aload 0, .getfield 1200, .iconst 34, .iload 3, .iadd, .iaload, .iadd, .istore 2, .iinc 3 1, .goto 2540105]),
  (133, [.iload 2, .ireturn]),
  (135, [.aload 0, .getfield 1200, .iconst 7, .iaload, .ireturn]),
  (143, [.aload 0, .getfield 1200, .iconst 8, .iaload, .ireturn]),
  (151, [.iconst 0, .istore 3, .goto_w 2540153]),
  (153, [.iload 3, .aload 0, .getfield 1200, .iconst 4, .iaload, .if_icmp .ge 2540182, .iload 2, .aload 0, .getfield 1200, .iconst 680, .iload 3, .iadd, .iaload, .iadd, .istore 2, .iinc 3 1, .goto 2540153]),
  (182, [.iload 2, .ireturn]),
  (184, [.aload 0, .getfield 1223, .ireturn]),
  (189, [.aload 0, .iconst 1, .invokevirtual 154, .ireturn])]
def tm_B_X12_found : List (Nat × List Instr) := [(0, [.iload 1, .iconst 1, .iconst 5, .invokestatic 155, .ifCond .eq 2550018, .aload 0, .getfield 1204, .iload 1, .iaload, .goto 2550023]),
  (18, [.aload 0, .iconst 1, .invokevirtual 154, .goto_w 2550023]),
  (23, [.ireturn])]
def tm_B_J6_bitCount_0f7a4 : List (Nat × List Instr) := [(0, [.iload 0, .iload 0, .iconst 1, .iushr, .iconst 1431655765, .iand, .isub, .istore 0, .iload 0, .iconst 858993459, .iand, .iload 0, .iconst 2, .iushr, .iconst 858993459, .iand, .iadd, .istore 0, .iload 0, .iload 0, .iconst 4, .iushr, .iadd, .iconst 252645135, .iand, .istore 0, .iload 0, .iload 0, .iconst 8, .iushr, .iadd, .istore 0, .iload 0, .iload 0, .iconst 16, .iushr, .iadd, .istore 0, .iload 0, .iconst 63, .iand, .ireturn])]
def tm_B_J7_fill_53178 : List (Nat × List Instr) := [(0, [.iconst 0, .istore 2, .aload 0, .arraylength, .istore 3, .goto_w 2570005]),
  (5, [.iload 2, .iload 3, .if_icmp .ge 2570020, .aload 0, .iload 2, .iload 1, .iastore, .iinc 2 1, .goto 2570005]),
  (20, [.return_])]
def tm_B_X2_gapPace : List (Nat × List Instr) := [(0, [.aload 0, .getfield 201, .aload 0, .getfield 200, .isub, .istore 1, .iload 1, .iconst 1, .if_icmp .ge 2580019, .iconst 0, .goto 2580025]),
  (19, [.aload 0, .getfield 202, .iload 1, .idiv, .goto_w 2580025]),
  (25, [.ireturn])]
def tm_B_L_law : List (Nat × List Instr) := [(0, [.new 11, .dup, .invokespecial 95, .astore 1, .new 12, .dup, .invokespecial 153, .astore 2, .iconst 0, .istore 3, .goto_w 2590018]),
  (18, [.iload 3, .aload 0, .arraylength, .iconst 6, .isub, .if_icmp .gt 2591702, .aload 0, .iload 3, .iaload, .iconst 63, .iand, .tableswitch 2591696 0 42 #[2590220, 2590243, 2590276, 2590299, 2590348, 2590381, 2590434, 2590497, 2590520, 2590553, 2590606, 2590629, 2590662, 2590695, 2590718, 2590731, 2590764, 2590797, 2590820, 2590883, 2590936, 2590999, 2591022, 2591045, 2591088, 2591121, 2591154, 2591188, 2591211, 2591234, 2591267, 2591290, 2591343, 2591376, 2591419, 2591442, 2591485, 2591528, 2591591, 2591624, 2591637, 2591650, 2591673]]),
  (220, [.aload 1, .aload 0, .iload 3, .iconst 1, .iadd, .iaload, .invokevirtual 96, .aload 2, .aload 0, .iload 3, .iconst 1, .iadd, .iaload, .invokevirtual 177, .if_icmp .eq 2591696, .iconst 0, .freturn]),
  (243, [.aload 1, .aload 0, .iload 3, .iconst 1, .iadd, .iaload, .aload 0, .iload 3, .iconst 2, .iadd, .iaload, .invokevirtual 97, .aload 2, .aload 0, .iload 3, .iconst 1, .iadd, .iaload, .aload 0, .iload 3, .iconst 2, .iadd, .iaload, .invokevirtual 178, .if_icmp .eq 2591696, .iconst 0, .freturn]),
  (276, [.aload 1, .aload 0, .iload 3, .iconst 1, .iadd, .iaload, .invokevirtual 98, .aload 2, .aload 0, .iload 3, .iconst 1, .iadd, .iaload, .invokevirtual 179, .if_icmp .eq 2591696, .iconst 0, .freturn]),
  (299, [.aload 1, .aload 0, .iload 3, .iconst 1, .iadd, .iaload, .aload 0, .iload 3, .iconst 2, .iadd, .iaload, .ifCond .eq 2590317, .iconst 1, .goto 2590318]),
  (317, [.iconst 0, .goto_w 2590318]),
  (318, [.invokevirtual 99, .aload 2, .aload 0, .iload 3, .iconst 1, .iadd, .iaload, .aload 0, .iload 3, .iconst 2, .iadd, .iaload, .ifCond .eq 2590339, .iconst 1, .goto 2590340]),
  (339, [.iconst 0, .goto_w 2590340]),
  (340, [.invokevirtual 180, .if_icmp .eq 2591696, .iconst 0, .freturn]),
  (348, [.aload 1, .aload 0, .iload 3, .iconst 1, .iadd, .iaload, .aload 0, .iload 3, .iconst 2, .iadd, .iaload, .invokevirtual 100, .aload 2, .aload 0, .iload 3, .iconst 1, .iadd, .iaload, .aload 0, .iload 3, .iconst 2, .iadd, .iaload, .invokevirtual 181, .if_icmp .eq 2591696, .iconst 0, .freturn]),
  (381, [.aload 1, .aload 0, .iload 3, .iconst 1, .iadd, .iaload, .aload 0, .iload 3, .iconst 2, .iadd, .iaload, .aload 0, .iload 3, .iconst 3, .iadd, .iaload, .aload 0, .iload 3, .iconst 4, .iadd, .iaload, .invokevirtual 101, .aload 2, .aload 0, .iload 3, .iconst 1, .iadd, .iaload, .aload 0, .iload 3, .iconst 2, .iadd, .iaload, .aload 0, .iload 3, .iconst 3, .iadd, .iaload, .aload 0, .iload 3, .iconst 4, .iadd, .iaload, .invokevirtual 182, .if_icmp .eq 2591696, .iconst 0, .freturn]),
  (434, [.aload 1, .aload 0, .iload 3, .iconst 1, .iadd, .iaload, .aload 0, .iload 3, .iconst 2, .iadd, .iaload, .aload 0, .iload 3, .iconst 3, .iadd, .iaload, .aload 0, .iload 3, .iconst 4, .iadd, .iaload, .aload 0, .iload 3, .iconst 5, .iadd, .iaload, .invokevirtual 102, .aload 2, .aload 0, .iload 3, .iconst 1, .iadd, .iaload, .aload 0, .iload 3, .iconst 2, .iadd, .iaload, .aload 0, .iload 3, .iconst 3, .iadd, .iaload, .aload 0, .iload 3, .iconst 4, .iadd, .iaload, .aload 0, .iload 3, .iconst 5, .iadd, .iaload, .invokevirtual 185, .if_icmp .eq 2591696, .iconst 0, .freturn]),
  (497, [.aload 1, .aload 0, .iload 3, .iconst 1, .iadd, .iaload, .invokevirtual 103, .aload 2, .aload 0, .iload 3, .iconst 1, .iadd, .iaload, .invokevirtual 187, .if_icmp .eq 2591696, .iconst 0, .freturn]),
  (520, [.aload 1, .aload 0, .iload 3, .iconst 1, .iadd, .iaload, .aload 0, .iload 3, .iconst 2, .iadd, .iaload, .invokevirtual 104, .aload 2, .aload 0, .iload 3, .iconst 1, .iadd, .iaload, .aload 0, .iload 3, .iconst 2, .iadd, .iaload, .invokevirtual 188, .if_icmp .eq 2591696, .iconst 0, .freturn]),
  (553, [.aload 1, .aload 0, .iload 3, .iconst 1, .iadd, .iaload, .aload 0, .iload 3, .iconst 2, .iadd, .iaload, .aload 0, .iload 3, .iconst 3, .iadd, .iaload, .aload 0, .iload 3, .iconst 4, .iadd, .iaload, .invokevirtual 105, .aload 2, .aload 0, .iload 3, .iconst 1, .iadd, .iaload, .aload 0, .iload 3, .iconst 2, .iadd, .iaload, .aload 0, .iload 3, .iconst 3, .iadd, .iaload, .aload 0, .iload 3, .iconst 4, .iadd, .iaload, .invokevirtual 191, .if_icmp .eq 2591696, .iconst 0, .freturn]),
  (606, [.aload 1, .aload 0, .iload 3, .iconst 1, .iadd, .iaload, .invokevirtual 106, .aload 2, .aload 0, .iload 3, .iconst 1, .iadd, .iaload, .invokevirtual 192, .if_icmp .eq 2591696, .iconst 0, .freturn]),
  (629, [.aload 1, .aload 0, .iload 3, .iconst 1, .iadd, .iaload, .aload 0, .iload 3, .iconst 2, .iadd, .iaload, .invokevirtual 107, .aload 2, .aload 0, .iload 3, .iconst 1, .iadd, .iaload, .aload 0, .iload 3, .iconst 2, .iadd, .iaload, .invokevirtual 194, .if_icmp .eq 2591696, .iconst 0, .freturn]),
  (662, [.aload 1, .aload 0, .iload 3, .iconst 1, .iadd, .iaload, .aload 0, .iload 3, .iconst 2, .iadd, .iaload, .invokevirtual 108, .aload 2, .aload 0, .iload 3, .iconst 1, .iadd, .iaload, .aload 0, .iload 3, .iconst 2, .iadd, .iaload, .invokevirtual 195, .if_icmp .eq 2591696, .iconst 0, .freturn]),
  (695, [.aload 1, .aload 0, .iload 3, .iconst 1, .iadd, .iaload, .invokevirtual 109, .aload 2, .aload 0, .iload 3, .iconst 1, .iadd, .iaload, .invokevirtual 196, .if_icmp .eq 2591696, .iconst 0, .freturn]),
  (718, [.aload 1, .invokevirtual 110, .aload 2, .invokevirtual 203, .if_icmp .eq 2591696, .iconst 0, .freturn]),
  (731, [.aload 1, .aload 0, .iload 3, .iconst 1, .iadd, .iaload, .aload 0, .iload 3, .iconst 2, .iadd, .iaload, .invokevirtual 111, .aload 2, .aload 0, .iload 3, .iconst 1, .iadd, .iaload, .aload 0, .iload 3, .iconst 2, .iadd, .iaload, .invokevirtual 204, .if_icmp .eq 2591696, .iconst 0, .freturn]),
  (764, [.aload 1, .aload 0, .iload 3, .iconst 1, .iadd, .iaload, .aload 0, .iload 3, .iconst 2, .iadd, .iaload, .invokevirtual 112, .aload 2, .aload 0, .iload 3, .iconst 1, .iadd, .iaload, .aload 0, .iload 3, .iconst 2, .iadd, .iaload, .invokevirtual 205, .if_icmp .eq 2591696, .iconst 0, .freturn]),
  (797, [.aload 1, .aload 0, .iload 3, .iconst 1, .iadd, .iaload, .invokevirtual 113, .aload 2, .aload 0, .iload 3, .iconst 1, .iadd, .iaload, .invokevirtual 206, .if_icmp .eq 2591696, .iconst 0, .freturn]),
  (820, [.aload 1, .aload 0, .iload 3, .iconst 1, .iadd, .iaload, .aload 0, .iload 3, .iconst 2, .iadd, .iaload, .aload 0, .iload 3, .iconst 3, .iadd, .iaload, .aload 0, .iload 3, .iconst 4, .iadd, .iaload, .aload 0, .iload 3, .iconst 5, .iadd, .iaload, .invokevirtual 114, .aload 2, .aload 0, .iload 3, .iconst 1, .iadd, .iaload, .aload 0, .iload 3, .iconst 2, .iadd, .iaload, .aload 0, .iload 3, .iconst 3, .iadd, .iaload, .aload 0, .iload 3, .iconst 4, .iadd, .iaload, .aload 0, .iload 3, .iconst 5, .iadd, .iaload, .invokevirtual 207, .if_icmp .eq 2591696, .iconst 0, .freturn]),
  (883, [.aload 1, .aload 0, .iload 3, .iconst 1, .iadd, .iaload, .aload 0, .iload 3, .iconst 2, .iadd, .iaload, .aload 0, .iload 3, .iconst 3, .iadd, .iaload, .aload 0, .iload 3, .iconst 4, .iadd, .iaload, .invokevirtual 115, .aload 2, .aload 0, .iload 3, .iconst 1, .iadd, .iaload, .aload 0, .iload 3, .iconst 2, .iadd, .iaload, .aload 0, .iload 3, .iconst 3, .iadd, .iaload, .aload 0, .iload 3, .iconst 4, .iadd, .iaload, .invokevirtual 209, .if_icmp .eq 2591696, .iconst 0, .freturn]),
  (936, [.aload 1, .aload 0, .iload 3, .iconst 1, .iadd, .iaload, .i2l, .iconst 32, .lshl, .aload 0, .iload 3, .iconst 2, .iadd, .iaload, .i2l, .ldc2_w 4294967295, .land, .lor, .aload 0, .iload 3, .iconst 3, .iadd, .iaload, .invokevirtual 116, .aload 2, .aload 0, .iload 3, .iconst 1, .iadd, .iaload, .i2l, .iconst 32, .lshl, .aload 0, .iload 3, .iconst 2, .iadd, .iaload, .i2l, .ldc2_w 4294967295, .land, .lor, .aload 0, .iload 3, .iconst 3, .iadd, .iaload, .invokevirtual 210, .if_icmp .eq 2591696, .iconst 0, .freturn]),
  (999, [.aload 1, .aload 0, .iload 3, .iconst 1, .iadd, .iaload, .invokevirtual 117, .aload 2, .aload 0, .iload 3, .iconst 1, .iadd, .iaload, .invokevirtual 211, .if_icmp .eq 2591696, .iconst 0, .freturn]),
  (1022, [.aload 1, .aload 0, .iload 3, .iconst 1, .iadd, .iaload, .invokevirtual 118, .aload 2, .aload 0, .iload 3, .iconst 1, .iadd, .iaload, .invokevirtual 212, .if_icmp .eq 2591696, .iconst 0, .freturn]),
  (1045, [.aload 1, .aload 0, .iload 3, .iconst 1, .iadd, .iaload, .aload 0, .iload 3, .iconst 2, .iadd, .iaload, .aload 0, .iload 3, .iconst 3, .iadd, .iaload, .invokevirtual 119, .aload 2, .aload 0, .iload 3, .iconst 1, .iadd, .iaload, .aload 0, .iload 3, .iconst 2, .iadd, .iaload, .aload 0, .iload 3, .iconst 3, .iadd, .iaload, .invokevirtual 215, .if_icmp .eq 2591696, .iconst 0, .freturn]),
  (1088, [.aload 1, .aload 0, .iload 3, .iconst 1, .iadd, .iaload, .aload 0, .iload 3, .iconst 2, .iadd, .iaload, .invokevirtual 120, .aload 2, .aload 0, .iload 3, .iconst 1, .iadd, .iaload, .aload 0, .iload 3, .iconst 2, .iadd, .iaload, .invokevirtual 217, .if_icmp .eq 2591696, .iconst 0, .freturn]),
  (1121, [.aload 1, .aload 0, .iload 3, .iconst 1, .iadd, .iaload, .aload 0, .iload 3, .iconst 2, .iadd, .iaload, .invokevirtual 121, .aload 2, .aload 0, .iload 3, .iconst 1, .iadd, .iaload, .aload 0, .iload 3, .iconst 2, .iadd, .iaload, .invokevirtual 219, .if_icmp .eq 2591696, .iconst 0, .freturn]),
  (1154, [.aload 1, .aload 0, .iload 3, .iconst 1, .iadd, .iaload, .aload 0, .iload 3, .iconst 2, .iadd, .iaload, .invokevirtual 122, .aload 2, .aload 0, .iload 3, .iconst 1, .iadd, .iaload, .aload 0, .iload 3, .iconst 2, .iadd, .iaload, .invokevirtual 221, .lcmp, .ifCond .eq 2591696, .iconst 0, .freturn]),
  (1188, [.aload 1, .aload 0, .iload 3, .iconst 1, .iadd, .iaload, .invokevirtual 123, .aload 2, .aload 0, .iload 3, .iconst 1, .iadd, .iaload, .invokevirtual 224, .if_icmp .eq 2591696, .iconst 0, .freturn]),
  (1211, [.aload 1, .aload 0, .iload 3, .iconst 1, .iadd, .iaload, .invokevirtual 124, .aload 2, .aload 0, .iload 3, .iconst 1, .iadd, .iaload, .invokevirtual 225, .if_icmp .eq 2591696, .iconst 0, .freturn]),
  (1234, [.aload 1, .aload 0, .iload 3, .iconst 1, .iadd, .iaload, .aload 0, .iload 3, .iconst 2, .iadd, .iaload, .invokevirtual 125, .aload 2, .aload 0, .iload 3, .iconst 1, .iadd, .iaload, .aload 0, .iload 3, .iconst 2, .iadd, .iaload, .invokevirtual 229, .if_icmp .eq 2591696, .iconst 0, .freturn]),
  (1267, [.aload 1, .aload 0, .iload 3, .iconst 1, .iadd, .iaload, .invokevirtual 126, .aload 2, .aload 0, .iload 3, .iconst 1, .iadd, .iaload, .invokevirtual 230, .if_icmp .eq 2591696, .iconst 0, .freturn]),
  (1290, [.aload 1, .aload 0, .iload 3, .iconst 1, .iadd, .iaload, .aload 0, .iload 3, .iconst 2, .iadd, .iaload, .aload 0, .iload 3, .iconst 3, .iadd, .iaload, .aload 0, .iload 3, .iconst 4, .iadd, .iaload, .invokevirtual 127, .aload 2, .aload 0, .iload 3, .iconst 1, .iadd, .iaload, .aload 0, .iload 3, .iconst 2, .iadd, .iaload, .aload 0, .iload 3, .iconst 3, .iadd, .iaload, .aload 0, .iload 3, .iconst 4, .iadd, .iaload, .invokevirtual 231, .if_icmp .eq 2591696, .iconst 0, .freturn]),
  (1343, [.aload 1, .aload 0, .iload 3, .iconst 1, .iadd, .iaload, .aload 0, .iload 3, .iconst 2, .iadd, .iaload, .invokevirtual 128, .aload 2, .aload 0, .iload 3, .iconst 1, .iadd, .iaload, .aload 0, .iload 3, .iconst 2, .iadd, .iaload, .invokevirtual 233, .if_icmp .eq 2591696, .iconst 0, .freturn]),
  (1376, [.aload 1, .aload 0, .iload 3, .iconst 1, .iadd, .iaload, .aload 0, .iload 3, .iconst 2, .iadd, .iaload, .aload 0, .iload 3, .iconst 3, .iadd, .iaload, .invokevirtual 129, .aload 2, .aload 0, .iload 3, .iconst 1, .iadd, .iaload, .aload 0, .iload 3, .iconst 2, .iadd, .iaload, .aload 0, .iload 3, .iconst 3, .iadd, .iaload, .invokevirtual 244, .if_icmp .eq 2591696, .iconst 0, .freturn]),
  (1419, [.aload 1, .aload 0, .iload 3, .iconst 1, .iadd, .iaload, .invokevirtual 130, .aload 2, .aload 0, .iload 3, .iconst 1, .iadd, .iaload, .invokevirtual 245, .if_icmp .eq 2591696, .iconst 0, .freturn]),
  (1442, [.aload 1, .aload 0, .iload 3, .iconst 1, .iadd, .iaload, .aload 0, .iload 3, .iconst 2, .iadd, .iaload, .aload 0, .iload 3, .iconst 3, .iadd, .iaload, .invokevirtual 131, .aload 2, .aload 0, .iload 3, .iconst 1, .iadd, .iaload, .aload 0, .iload 3, .iconst 2, .iadd, .iaload, .aload 0, .iload 3, .iconst 3, .iadd, .iaload, .invokevirtual 246, .if_icmp .eq 2591696, .iconst 0, .freturn]),
  (1485, [.aload 1, .aload 0, .iload 3, .iconst 1, .iadd, .iaload, .aload 0, .iload 3, .iconst 2, .iadd, .iaload, .aload 0, .iload 3, .iconst 3, .iadd, .iaload, .invokevirtual 132, .aload 2, .aload 0, .iload 3, .iconst 1, .iadd, .iaload, .aload 0, .iload 3, .iconst 2, .iadd, .iaload, .aload 0, .iload 3, .iconst 3, .iadd, .iaload, .invokevirtual 247, .if_icmp .eq 2591696, .iconst 0, .freturn]),
  (1528, [.aload 1, .aload 0, .iload 3, .iconst 1, .iadd, .iaload, .aload 0, .iload 3, .iconst 2, .iadd, .iaload, .aload 0, .iload 3, .iconst 3, .iadd, .iaload, .aload 0, .iload 3, .iconst 4, .iadd, .iaload, .aload 0, .iload 3, .iconst 5, .iadd, .iaload, .invokevirtual 133, .aload 2, .aload 0, .iload 3, .iconst 1, .iadd, .iaload, .aload 0, .iload 3, .iconst 2, .iadd, .iaload, .aload 0, .iload 3, .iconst 3, .iadd, .iaload, .aload 0, .iload 3, .iconst 4, .iadd, .iaload, .aload 0, .iload 3, .iconst 5, .iadd, .iaload, .invokevirtual 249, .if_icmp .eq 2591696, .iconst 0, .freturn]),
  (1591, [.aload 1, .aload 0, .iload 3, .iconst 1, .iadd, .iaload, .aload 0, .iload 3, .iconst 2, .iadd, .iaload, .invokevirtual 134, .aload 2, .aload 0, .iload 3, .iconst 1, .iadd, .iaload, .aload 0, .iload 3, .iconst 2, .iadd, .iaload, .invokevirtual 251, .if_icmp .eq 2591696, .iconst 0, .freturn]),
  (1624, [.aload 1, .invokevirtual 135, .aload 2, .invokevirtual 252, .if_icmp .eq 2591696, .iconst 0, .freturn]),
  (1637, [.aload 1, .invokevirtual 136, .aload 2, .invokevirtual 253, .if_icmp .eq 2591696, .iconst 0, .freturn]),
  (1650, [.aload 1, .aload 0, .iload 3, .iconst 1, .iadd, .iaload, .invokevirtual 137, .aload 2, .aload 0, .iload 3, .iconst 1, .iadd, .iaload, .invokevirtual 254, .if_icmp .eq 2591696, .iconst 0, .freturn]),
  (1673, [.aload 1, .aload 0, .iload 3, .iconst 1, .iadd, .iaload, .invokevirtual 138, .aload 2, .aload 0, .iload 3, .iconst 1, .iadd, .iaload, .invokevirtual 255, .if_icmp .eq 2591696, .iconst 0, .freturn]),
  (1696, [.iinc 3 6, .goto 2590018]),
  (1702, [.iconst 1, .freturn])]
def tm_bt0 : List (List (Nat × List Instr)) := [tm_B_X0_init, tm_B_X0_begin, tm_B_X0_ranAt, tm_B_X1_init, tm_B_X1_add, tm_B_X1_latestStep, tm_B_X1_isMissed, tm_B_X1_carrierOf, tm_B_X1_takeAll, tm_B_X2_init, tm_B_X2_nextHeard, tm_B_X2_findGap, tm_B_X2_gapOnFoot, tm_B_X2_gapByWays, tm_B_X2_together, tm_B_X2_passed, tm_B_X2_oddness, tm_B_X2_minutesBetween, tm_B_X2_deafMats, tm_B_X2_companions, tm_B_X2_hasPlace, tm_B_X2_placeOf, tm_B_X2_minutesInAll, tm_B_X3_init, tm_B_X3_minuteOf, tm_B_X3_paceOf, tm_B_X3_follow, tm_B_X3_goAsTold, tm_B_X3_runUpTo, tm_B_X3_listen, tm_B_X3_matHears, tm_B_X3_countRows, tm_B_X3_rowsFrom, tm_B_X3_knownPace, tm_B_X4_init, tm_B_X4_read, tm_B_X4_sign, tm_B_X4_failHere, tm_B_X4_emit, tm_B_X4_levelOf, tm_B_X4_readJoined, tm_B_X4_readSingle, tm_B_X4_close, tm_B_X4_readNumber, tm_B_X5_init, tm_B_X5_lay, tm_B_X5_hasMat, tm_B_X5_addWay, tm_B_X5_leads, tm_B_X5_arrival]
def tm_bt1 : List (List (Nat × List Instr)) := [tm_B_X5_leaving, tm_B_X5_reach, tm_B_X5_goOnByWays, tm_B_X5_arrive, tm_B_X5_soonest, tm_B_X5_waysFor, tm_B_X5_fewestMats, tm_B_X5_openEnd, tm_B_X5_bestNext, tm_B_X5_takeAll, tm_B_X6_init, tm_B_X6_add, tm_B_X6_enter, tm_B_X6_allEntries, tm_B_X6_clashesOf, tm_B_X6_mostWithoutClash, tm_B_X6_isClashFree, tm_B_X6_findRivals, tm_B_X6_clash, tm_B_X6_takeAll, tm_B_X7_init, tm_B_X7_begin, tm_B_X7_set, tm_B_X7_holds, tm_B_X7_breakPlace, tm_B_X7_brokenSum, tm_B_X7_spread, tm_B_X7_sortPart, tm_B_X8_init, tm_B_X8_takeCode, tm_B_X8_value, tm_B_X8_join, tm_B_X9_init, tm_B_X9_speak, tm_B_X9_call, tm_B_X9_sayGoing, tm_B_X9_sayUnder, tm_B_X10_init, tm_B_X10_layRoad, tm_B_X10_forgetRace, tm_B_X10_minuteAt, tm_B_X10_isOff, tm_B_X10_drawNext, tm_B_X10_addBytes, tm_B_X10_takeAll, tm_B_X11_init, tm_B_X11_road, tm_B_X11_climb, tm_B_X11_heat, tm_B_X11_mat]
def tm_bt2 : List (List (Nat × List Instr)) := [tm_B_X11_deaf, tm_B_X11_way, tm_B_X11_earliest, tm_B_X11_fewest, tm_B_X11_runner, tm_B_X11_going, tm_B_X11_forget, tm_B_X11_as, tm_B_X11_goingIs, tm_B_X11_draw, tm_B_X11_race, tm_B_X11_would, tm_B_X11_heard, tm_B_X11_off, tm_B_X11_pace, tm_B_X11_odds, tm_B_X11_feed, tm_B_X11_text, tm_B_X11_least, tm_B_X11_gap, tm_B_X11_company, tm_B_X11_misses, tm_B_X11_parts, tm_B_X11_odd, tm_B_X11_judge, tm_B_X11_place, tm_B_X11_up, tm_B_X11_entry, tm_B_X11_same, tm_B_X11_voice, tm_B_X11_trace, tm_B_X11_sheet, tm_B_X11_put, tm_B_X11_move, tm_B_X11_write, tm_B_X11_image, tm_B_X11_restore, tm_B_X11_told, tm_B_X11_found, tm_B_X11_finding, tm_B_X11_within, tm_B_X11_isPiece, tm_B_X11_isMark, tm_B_X11_isBetween, tm_B_X11_areMarks, tm_B_X11_isRunner, tm_B_X11_isGoing, tm_B_X11_isSheet, tm_B_X11_isSet, tm_B_X11_endsFit]
def tm_bt3 : List (List (Nat × List Instr)) := [tm_B_X11_numberFits, tm_B_X11_isUnder, tm_B_X11_copy, tm_B_X12_init, tm_B_X12_finding, tm_B_X12_in, tm_B_X12_begins, tm_B_X12_isMark, tm_B_X12_isRunner, tm_B_X12_isWay, tm_B_X12_isGoing, tm_B_X12_wa, tm_B_X12_go, tm_B_X12_strength, tm_B_X12_heardAt, tm_B_X12_becomes, tm_B_X12_byteAt, tm_B_X12_eats, tm_B_X12_either, tm_B_X12_both, tm_B_X12_relation, tm_B_X12_added, tm_B_X12_term, tm_B_X12_single, tm_B_X12_reads, tm_B_X12_tells, tm_B_X12_paceOf, tm_B_X12_road, tm_B_X12_climb, tm_B_X12_heat, tm_B_X12_mat, tm_B_X12_deaf, tm_B_X12_way, tm_B_X12_leaves, tm_B_X12_findThere, tm_B_X12_earliest, tm_B_X12_needed, tm_B_X12_fewest, tm_B_X12_runner, tm_B_X12_isNumber, tm_B_X12_looksAtEnd, tm_B_X12_going, tm_B_X12_forget, tm_B_X12_above, tm_B_X12_as, tm_B_X12_goingIs, tm_B_X12_draw, tm_B_X12_piece, tm_B_X12_goingAt, tm_B_X12_runs]
def tm_bt4 : List (List (Nat × List Instr)) := [tm_B_X12_carrier, tm_B_X12_isMissed, tm_B_X12_hears, tm_B_X12_race, tm_B_X12_would, tm_B_X12_heard, tm_B_X12_off, tm_B_X12_pace, tm_B_X12_rowsFrom, tm_B_X12_odds, tm_B_X12_feed, tm_B_X12_text, tm_B_X12_least, tm_B_X12_findGap, tm_B_X12_mayRide, tm_B_X12_gap, tm_B_X12_areTogether, tm_B_X12_company, tm_B_X12_isHeardIn, tm_B_X12_misses, tm_B_X12_offMiddle, tm_B_X12_parts, tm_B_X12_between, tm_B_X12_oddOf, tm_B_X12_odd, tm_B_X12_judge, tm_B_X12_isSet, tm_B_X12_took, tm_B_X12_placeOf, tm_B_X12_place, tm_B_X12_up, tm_B_X12_entry, tm_B_X12_clash, tm_B_X12_same, tm_B_X12_ran, tm_B_X12_goingGo, tm_B_X12_goIt, tm_B_X12_goingWeigh, tm_B_X12_runWeigh, tm_B_X12_weighIt, tm_B_X12_goingShow, tm_B_X12_showIt, tm_B_X12_goingTell, tm_B_X12_tellIt, tm_B_X12_voice, tm_B_X12_trace, tm_B_X12_sheet, tm_B_X12_put, tm_B_X12_has, tm_B_X12_move]
def tm_bt5 : List (List (Nat × List Instr)) := [tm_B_X12_narrowed, tm_B_X12_write, tm_B_X12_image, tm_B_X12_restore, tm_B_X12_told, tm_B_X12_found, tm_B_J6_bitCount_0f7a4, tm_B_J7_fill_53178, tm_B_X2_gapPace, tm_B_L_law]
def tm_bt : List (List (Nat × List Instr)) := tm_bt0 ++ (tm_bt1 ++ (tm_bt2 ++ (tm_bt3 ++ (tm_bt4 ++ (tm_bt5)))))
