/-! the tables of methods, fields, calls; that they are the claim's is decided -/
def zown : List String := [RX0, RX1, RX2, RX3, RX4, RX5, RX6, RJ6, RJ9, RJ7, RL]
def ztO : List Nat := [0, 0, 0, 0, 0, 0, 0, 0, 0, 0, 0, 0, 1, 1, 1, 1, 1, 1, 1, 2, 2, 2, 2, 2, 2, 2, 2, 2, 2, 2, 2, 2, 2, 2, 2, 2, 2, 2, 3, 3, 3, 3, 3, 3, 3, 3, 3, 3, 3, 3, 3, 3, 3, 3, 3, 4, 4, 4, 4, 4, 4, 4, 4, 4, 4, 4, 4, 4, 4, 4, 4, 4, 4, 4, 4, 4, 4, 5, 5, 5, 5, 5, 5, 5, 5, 5, 5, 5, 5, 5, 5, 5, 5, 5, 5, 5, 5, 5, 5, 5, 5, 5, 5, 5, 5, 5, 5, 5, 5, 5, 5, 5, 5, 5, 5, 6, 6, 6, 6, 6, 6, 6, 6, 6, 6, 6, 6, 6, 6, 6, 6, 6, 6, 6, 6, 6, 6, 6, 6, 6, 6, 6, 6, 6, 6, 6, 6, 6, 6, 6, 6, 6, 6, 6, 6, 6, 6, 6, 6, 6, 6, 6, 6, 6, 6, 6, 6, 7, 8, 8, 8, 9, 10]
def ztY : List MethodName := [yX0_init, yX0_forgetAll, yX0_length, yX0_push, yX0_pop, yX0_latest, yX0_latestOf, yX0_firstTable, yX0_secondTable, yX0_liveTable, yX0_meltedRule, yX0_meltedMask, yX1_init, yX1_forgetAll, yX1_setLength, yX1_length, yX1_set, yX1_ruleOf, yX1_placeOf, yX2_init, yX2_forgetAll, yX2_forget, yX2_isNumber, yX2_isInUse, yX2_unused, yX2_leastUnused, yX2_set, yX2_setMask, yX2_setAct, yX2_kindOf, yX2_valueOf, yX2_maskOf, yX2_rankOf, yX2_actOf, yX2_doesFit, yX2_doOverlap, yX2_isHigher, yX2_bitApart, yX3_init, yX3_find, yX3_gather, yX3_relate, yX3_code, yX3_arrange, yX3_reach, yX3_widen, yX3_placesTaken, yX3_startOfRoom, yX3_endOfRoom, yX3_isIn, yX3_leastPlaceFor, yX3_trace, yX3_cameFromOf, yX3_codeOf, yX3_tellMove, yX4_init, yX4_empty, yX4_size, yX4_isPlace, yX4_ruleAt, yX4_placeOf, yX4_hasRule, yX4_standing, yX4_isFull, yX4_makeFree, yX4_lay, yX4_carryOut, yX4_actFor, yX4_dueActFor, yX4_noteActs, yX4_hasActs, yX4_isSafe, yX4_firstKeyShown, yX4_hasHigherFor, yX4_highestBelow, yX4_packed, yX4_unpack, yX5_init, yX5_places, yX5_rule, yX5_last, yX5_span, yX5_told, yX5_drop, yX5_act, yX5_overlap, yX5_higher, yX5_put, yX5_writes, yX5_write, yX5_strike, yX5_at, yX5_judged, yX5_right, yX5_covered, yX5_shown, yX5_spare, yX5_melt, yX5_over, yX5_differ, yX5_build, yX5_undo, yX5_count, yX5_isKey, yX5_isRank, yX5_isAct, yX5_tableNumbered, yX5_ruleMade, yX5_keysOfRow, yX5_rowsOfSpan, yX5_refusedPut, yX5_remember, yX5_isMeltable, yX5_standsOnlyIn, yX5_meltHolds, yX6_in, yX6_init, yX6_clearTables, yX6_isRule, yX6_isTable, yX6_fits, yX6_doOverlap, yX6_isHigher, yX6_keep, yX6_undo, yX6_places, yX6_freeRules, yX6_add, yX6_rule, yX6_last, yX6_sizeOf, yX6_span, yX6_placeOf, yX6_told, yX6_drop, yX6_act, yX6_overlap, yX6_higher, yX6_codeOf, yX6_setRow, yX6_isSafeAt, yX6_meet, yX6_findStates, yX6_hasFree, yX6_stateFor, yX6_refusal, yX6_writes, yX6_layIn, yX6_put, yX6_write, yX6_strike, yX6_at, yX6_judge, yX6_judged, yX6_due, yX6_right, yX6_firstShown, yX6_covered, yX6_shown, yX6_spare, yX6_ones, yX6_isSafe, yX6_melt, yX6_over, yX6_differ, yX6_build, yX6_count, yJ6_bitCount_0f7a4, yJ9_floorMod_7cf53, yJ9_max_7cf53, yJ9_min_7cf53, yJ7_fill_53178, yL_law]
def ztC : List ByteArray := [cX0_init, cX0_forgetAll, cX0_length, cX0_push, cX0_pop, cX0_latest, cX0_latestOf, cX0_firstTable, cX0_secondTable, cX0_liveTable, cX0_meltedRule, cX0_meltedMask, cX1_init, cX1_forgetAll, cX1_setLength, cX1_length, cX1_set, cX1_ruleOf, cX1_placeOf, cX2_init, cX2_forgetAll, cX2_forget, cX2_isNumber, cX2_isInUse, cX2_unused, cX2_leastUnused, cX2_set, cX2_setMask, cX2_setAct, cX2_kindOf, cX2_valueOf, cX2_maskOf, cX2_rankOf, cX2_actOf, cX2_doesFit, cX2_doOverlap, cX2_isHigher, cX2_bitApart, cX3_init, cX3_find, cX3_gather, cX3_relate, cX3_code, cX3_arrange, cX3_reach, cX3_widen, cX3_placesTaken, cX3_startOfRoom, cX3_endOfRoom, cX3_isIn, cX3_leastPlaceFor, cX3_trace, cX3_cameFromOf, cX3_codeOf, cX3_tellMove, cX4_init, cX4_empty, cX4_size, cX4_isPlace, cX4_ruleAt, cX4_placeOf, cX4_hasRule, cX4_standing, cX4_isFull, cX4_makeFree, cX4_lay, cX4_carryOut, cX4_actFor, cX4_dueActFor, cX4_noteActs, cX4_hasActs, cX4_isSafe, cX4_firstKeyShown, cX4_hasHigherFor, cX4_highestBelow, cX4_packed, cX4_unpack, cX5_init, cX5_places, cX5_rule, cX5_last, cX5_span, cX5_told, cX5_drop, cX5_act, cX5_overlap, cX5_higher, cX5_put, cX5_writes, cX5_write, cX5_strike, cX5_at, cX5_judged, cX5_right, cX5_covered, cX5_shown, cX5_spare, cX5_melt, cX5_over, cX5_differ, cX5_build, cX5_undo, cX5_count, cX5_isKey, cX5_isRank, cX5_isAct, cX5_tableNumbered, cX5_ruleMade, cX5_keysOfRow, cX5_rowsOfSpan, cX5_refusedPut, cX5_remember, cX5_isMeltable, cX5_standsOnlyIn, cX5_meltHolds, cX6_in, cX6_init, cX6_clearTables, cX6_isRule, cX6_isTable, cX6_fits, cX6_doOverlap, cX6_isHigher, cX6_keep, cX6_undo, cX6_places, cX6_freeRules, cX6_add, cX6_rule, cX6_last, cX6_sizeOf, cX6_span, cX6_placeOf, cX6_told, cX6_drop, cX6_act, cX6_overlap, cX6_higher, cX6_codeOf, cX6_setRow, cX6_isSafeAt, cX6_meet, cX6_findStates, cX6_hasFree, cX6_stateFor, cX6_refusal, cX6_writes, cX6_layIn, cX6_put, cX6_write, cX6_strike, cX6_at, cX6_judge, cX6_judged, cX6_due, cX6_right, cX6_firstShown, cX6_covered, cX6_shown, cX6_spare, cX6_ones, cX6_isSafe, cX6_melt, cX6_over, cX6_differ, cX6_build, cX6_count, cJ6_bitCount_0f7a4, cJ9_floorMod_7cf53, cJ9_max_7cf53, cJ9_min_7cf53, cJ7_fill_53178, cL_law]
def ztR : List (Option FieldType) := [none, none, (some .int), none, none, (some .int), (some .int), (some .int), (some .int), (some .int), (some .int), (some .int), none, none, none, (some .int), none, (some .int), (some .int), none, none, none, (some .boolean), (some .boolean), (some .int), (some .int), none, none, none, (some .int), (some .int), (some .int), (some .int), (some .int), (some .boolean), (some .boolean), (some .boolean), (some .int), none, none, none, none, (some .int), none, none, none, (some .int), (some .int), (some .int), (some .boolean), (some .int), none, (some .int), (some .int), none, none, none, (some .int), (some .boolean), (some .int), (some .int), (some .boolean), (some .int), (some .boolean), none, none, none, (some .int), (some .int), none, (some .boolean), (some .boolean), (some .int), (some .boolean), (some .int), (some .int), none, none, (some .int), (some .int), (some .int), (some .int), (some .int), (some .int), (some .int), (some .int), (some .int), (some .int), (some .int), (some .int), (some .int), (some .int), (some .int), (some .int), (some .int), (some .int), (some .int), (some .int), (some .int), (some .int), (some .int), (some .int), (some .int), (some .boolean), (some .boolean), (some .boolean), (some (.object "MatchRows$Table")), (some .int), (some .int), (some .int), (some .int), none, (some .boolean), (some .boolean), (some .boolean), (some .boolean), none, none, (some .boolean), (some .boolean), (some .boolean), (some .boolean), (some .boolean), none, (some .int), (some .int), (some .int), (some .int), (some .int), (some .int), (some .int), (some .int), (some .int), (some .int), (some .int), (some .int), (some .int), (some .int), (some .int), none, (some .boolean), none, none, (some .boolean), (some .int), (some .int), (some .int), (some .int), (some .int), (some .int), (some .int), (some .int), (some .int), (some .int), (some .int), (some .int), (some .int), (some .int), (some .int), (some .int), (some .int), (some .boolean), (some .int), (some .int), (some .int), (some .int), (some .int), (some .int), (some .int), (some .int), (some .int), none, (some .boolean)]
def ztK : List Nat := [1, 0, 0, 0, 0, 0, 0, 0, 0, 0, 0, 0, 1, 0, 0, 0, 0, 0, 0, 1, 0, 0, 0, 0, 0, 0, 0, 0, 0, 0, 0, 0, 0, 0, 0, 0, 0, 0, 1, 0, 0, 0, 0, 0, 0, 0, 0, 0, 0, 2, 0, 0, 0, 0, 0, 1, 0, 0, 0, 0, 0, 0, 0, 0, 0, 0, 0, 0, 0, 0, 0, 0, 0, 0, 0, 0, 0, 1, 0, 0, 0, 0, 0, 0, 0, 0, 0, 0, 0, 0, 0, 0, 0, 0, 0, 0, 0, 0, 0, 0, 0, 0, 0, 2, 2, 2, 0, 0, 2, 2, 0, 0, 0, 0, 0, 2, 1, 0, 0, 2, 0, 0, 0, 0, 0, 0, 0, 0, 0, 0, 2, 0, 0, 0, 0, 0, 0, 0, 0, 0, 0, 0, 0, 0, 0, 0, 0, 0, 0, 0, 0, 0, 0, 0, 0, 0, 0, 0, 0, 0, 2, 0, 0, 0, 0, 0, 0, 2, 2, 2, 2, 2, 3]
def ztP : List Nat := [1, 1, 1, 6, 1, 1, 2, 1, 1, 1, 1, 1, 1, 1, 2, 1, 4, 2, 2, 1, 1, 2, 2, 2, 1, 1, 7, 3, 3, 2, 2, 2, 2, 2, 3, 3, 3, 3, 2, 4, 3, 2, 1, 2, 3, 2, 1, 2, 2, 3, 2, 3, 2, 2, 5, 2, 2, 1, 2, 2, 2, 2, 1, 1, 2, 3, 2, 2, 2, 2, 2, 1, 2, 3, 2, 1, 2, 1, 2, 5, 2, 5, 3, 2, 3, 3, 3, 3, 3, 3, 3, 3, 3, 2, 3, 3, 3, 4, 1, 1, 2, 1, 2, 1, 1, 1, 2, 6, 2, 2, 3, 1, 2, 3, 5, 3, 1, 1, 2, 1, 3, 3, 3, 2, 1, 2, 1, 6, 5, 2, 2, 5, 3, 3, 2, 3, 3, 3, 1, 2, 3, 5, 2, 2, 2, 3, 3, 3, 3, 3, 3, 3, 3, 3, 3, 2, 3, 3, 3, 3, 1, 2, 4, 1, 1, 2, 2, 1, 2, 2, 2, 2, 1]
def ztF : List Nat := [1, 0, 0, 1, 2, 1, 2, 3, 3, 3, 3, 3, 1, 0, 1, 0, 0, 0, 0, 1, 1, 1, 0, 0, 0, 0, 1, 1, 1, 1, 1, 1, 1, 1, 1, 1, 1, 2, 1, 4, 3, 2, 1, 0, 0, 2, 0, 1, 1, 0, 2, 2, 0, 0, 1, 1, 1, 0, 0, 1, 0, 1, 0, 1, 1, 2, 3, 2, 2, 3, 3, 2, 3, 2, 2, 0, 0, 2, 2, 3, 3, 3, 2, 2, 2, 2, 2, 5, 5, 1, 3, 2, 3, 3, 4, 4, 5, 5, 3, 3, 5, 4, 1, 0, 0, 0, 0, 2, 0, 1, 2, 2, 2, 2, 4, 0, 1, 0, 1, 1, 0, 0, 0, 0, 0, 1, 0, 0, 1, 1, 0, 1, 0, 2, 2, 2, 2, 2, 0, 0, 1, 0, 2, 0, 2, 2, 3, 3, 4, 1, 2, 2, 1, 2, 1, 2, 1, 2, 2, 3, 0, 1, 2, 1, 2, 4, 1, 0, 0, 0, 0, 0, 6]
def ztL : List Nat := [20, 0, 0, 21, 42, 22, 42, 64, 64, 64, 64, 64, 20, 0, 21, 0, 0, 0, 0, 23, 23, 21, 0, 0, 0, 0, 21, 21, 21, 21, 21, 21, 21, 21, 21, 21, 21, 42, 20, 89, 65, 43, 21, 0, 0, 45, 0, 22, 22, 0, 45, 50, 0, 0, 23, 23, 23, 0, 0, 21, 0, 22, 0, 22, 21, 42, 64, 43, 43, 65, 65, 43, 66, 43, 43, 0, 0, 44, 44, 73, 73, 73, 42, 43, 43, 43, 43, 114, 114, 21, 66, 42, 65, 67, 88, 88, 114, 114, 66, 65, 114, 84, 22, 0, 0, 0, 0, 47, 0, 24, 43, 46, 42, 43, 87, 0, 21, 0, 22, 22, 0, 0, 0, 0, 0, 22, 0, 0, 26, 26, 0, 26, 0, 43, 43, 43, 43, 43, 0, 0, 22, 0, 47, 0, 47, 43, 72, 72, 97, 22, 43, 42, 22, 46, 23, 47, 22, 48, 48, 72, 0, 22, 48, 23, 46, 97, 22, 0, 0, 0, 0, 0, 141]
def flk : List (Nat × Nat × Nat × Nat) := [(0, 9, 0, 0), (0, 15, 0, 1), (0, 18, 0, 2), (0, 21, 0, 3), (0, 24, 0, 4), (0, 27, 0, 5), (0, 31, 0, 6), (1, 9, 1, 0), (1, 15, 1, 1), (1, 18, 1, 2), (2, 9, 2, 0), (2, 15, 2, 1), (2, 18, 2, 2), (2, 21, 2, 3), (2, 24, 2, 4), (3, 9, 3, 1), (3, 15, 3, 2), (3, 18, 3, 3), (3, 21, 3, 4), (3, 24, 3, 5), (3, 27, 3, 6), (3, 30, 3, 7), (3, 33, 3, 8), (3, 37, 3, 9), (3, 40, 3, 10), (3, 43, 3, 0), (4, 9, 4, 1), (4, 15, 4, 2), (4, 19, 4, 0), (5, 12, 5, 0), (5, 21, 5, 1), (5, 25, 5, 2), (5, 31, 5, 3), (5, 38, 5, 4), (5, 45, 5, 5), (5, 49, 5, 6), (5, 52, 5, 7), (5, 56, 5, 8), (6, 7, 6, 0), (6, 13, 6, 1), (6, 17, 6, 2), (6, 20, 6, 3), (6, 23, 6, 4), (6, 26, 6, 5), (6, 29, 6, 6), (6, 33, 6, 8), (6, 36, 6, 10), (6, 40, 6, 11), (6, 43, 6, 12), (6, 46, 6, 13), (6, 49, 6, 14), (6, 52, 6, 15), (6, 55, 6, 17), (6, 58, 6, 19), (6, 61, 6, 22), (6, 64, 6, 23), (6, 67, 6, 24), (6, 77, 6, 9), (6, 80, 6, 7), (6, 83, 6, 21), (6, 112, 6, 16), (6, 115, 6, 18), (6, 132, 6, 20)]
def mlk : List (Nat × Nat × Nat) := [(10, 9, 77), (10, 12, 116), (10, 13, 78), (10, 17, 125), (10, 18, 79), (10, 22, 128), (10, 23, 80), (10, 26, 129), (10, 27, 81), (10, 30, 131), (10, 31, 82), (10, 35, 133), (10, 36, 83), (10, 39, 134), (10, 40, 84), (10, 43, 135), (10, 44, 85), (10, 47, 136), (10, 48, 86), (10, 51, 137), (10, 52, 87), (10, 55, 148), (10, 56, 88), (10, 59, 146), (10, 60, 89), (10, 63, 149), (10, 64, 90), (10, 67, 150), (10, 68, 91), (10, 71, 151), (10, 72, 92), (10, 75, 153), (10, 76, 93), (10, 79, 155), (10, 80, 94), (10, 83, 157), (10, 84, 95), (10, 87, 158), (10, 88, 96), (10, 91, 159), (10, 92, 97), (10, 96, 162), (10, 97, 98), (10, 101, 163), (10, 102, 99), (10, 105, 164), (10, 106, 100), (10, 109, 165), (10, 110, 101), (10, 113, 124), (10, 114, 102), (10, 117, 166), (0, 34, 170), (0, 40, 5), (0, 44, 169), (0, 47, 168), (0, 50, 6), (1, 22, 170), (1, 28, 169), (2, 27, 171), (2, 33, 22), (2, 37, 31), (2, 41, 33), (2, 44, 30), (2, 47, 167), (3, 47, 13), (3, 52, 40), (3, 56, 171), (3, 62, 42), (3, 66, 44), (3, 70, 43), (3, 74, 50), (3, 78, 51), (3, 82, 15), (3, 85, 16), (3, 89, 45), (3, 92, 57), (3, 96, 170), (3, 102, 60), (3, 105, 41), (3, 108, 35), (3, 114, 36), (3, 117, 46), (3, 120, 48), (3, 123, 47), (3, 126, 49), (3, 130, 169), (3, 133, 52), (3, 136, 14), (3, 139, 53), (3, 142, 54), (4, 23, 171), (4, 29, 58), (4, 33, 60), (4, 37, 62), (4, 41, 64), (4, 45, 15), (4, 50, 17), (4, 53, 18), (4, 54, 65), (4, 58, 34), (4, 64, 33), (4, 67, 36), (4, 70, 67), (4, 73, 35), (4, 76, 73), (5, 11, 19), (5, 18, 55), (5, 30, 38), (5, 60, 57), (5, 64, 20), (5, 67, 56), (5, 71, 1), (5, 72, 13), (5, 73, 103), (5, 77, 104), (5, 80, 105), (5, 83, 107), (5, 87, 109), (5, 91, 24), (5, 94, 108), (5, 97, 23), (5, 100, 29), (5, 104, 30), (5, 107, 31), (5, 110, 32), (5, 113, 33), (5, 116, 60), (5, 119, 61), (5, 122, 21), (5, 125, 28), (5, 129, 35), (5, 133, 36), (5, 136, 106), (5, 140, 110), (5, 144, 39), (5, 148, 111), (5, 151, 66), (5, 155, 15), (5, 158, 17), (5, 161, 18), (5, 162, 64), (5, 165, 59), (5, 168, 67), (5, 171, 68), (5, 174, 72), (5, 177, 63), (5, 181, 26), (5, 185, 112), (5, 188, 37), (5, 191, 113), (5, 195, 114), (5, 199, 75), (5, 202, 3), (5, 206, 27), (5, 209, 62), (5, 212, 74), (5, 215, 2), (5, 216, 7), (5, 219, 76), (5, 222, 8), (5, 225, 9), (5, 228, 10), (5, 231, 11), (5, 234, 4), (5, 237, 25), (5, 240, 69), (5, 244, 71), (5, 247, 70), (5, 251, 65), (6, 70, 117), (6, 73, 115), (6, 86, 126), (6, 90, 127), (6, 94, 130), (6, 98, 118), (6, 102, 132), (6, 105, 121), (6, 109, 122), (6, 118, 138), (6, 121, 141), (6, 125, 139), (6, 129, 140), (6, 135, 119), (6, 138, 143), (6, 141, 145), (6, 144, 142), (6, 147, 144), (6, 151, 146), (6, 154, 123), (6, 157, 147), (6, 160, 120), (6, 163, 152), (6, 166, 154), (6, 169, 156), (6, 172, 160), (6, 175, 161)]
def clk : List (Nat × Nat × Nat) := [(10, 7, 5), (10, 10, 6), (5, 9, 2), (5, 16, 4), (5, 28, 3), (5, 35, 0), (5, 42, 1)]
def klk : List (Nat × Nat × Int) := [(7, 265, 1431655765), (7, 266, 858993459), (7, 267, 252645135), (6, 39, 117649)]
def olk : List (Nat × Nat) := [(0, 3), (1, 3), (2, 3), (3, 3), (4, 3), (5, 3), (6, 1)]
def frefs : List (List Bool) := [[true, true, true, true, true, false, false], [true, true, false], [true, true, true, true, true], [true, true, true, true, true, true, true, true, false, false, false], [true, true, false], [true, true, true, true, true, true, true, true, false], [true, true, true, true, true, true, false, false, true, false, true, true, true, true, true, true, false, true, false, true, false, false, true, true, true]]
def flkP : List Nat := [156, 157, 158, 159, 160, 161, 162, 184, 185, 186, 76, 77, 78, 79, 80, 117, 118, 119, 120, 121, 122, 123, 124, 125, 126, 116, 101, 102, 100, 194, 195, 196, 197, 198, 199, 200, 201, 202, 703, 704, 705, 706, 707, 708, 709, 711, 713, 714, 715, 716, 717, 718, 720, 722, 725, 726, 727, 712, 710, 724, 719, 721, 723]
def mlkP : List Nat := [61, 694, 222, 784, 246, 791, 275, 803, 279, 807, 293, 814, 325, 826, 338, 830, 346, 834, 354, 842, 362, 889, 510, 850, 514, 902, 520, 906, 525, 910, 533, 914, 546, 926, 555, 934, 567, 942, 571, 946, 575, 950, 623, 961, 627, 965, 631, 969, 640, 780, 688, 973, 483, 656, 687, 660, 652, 449, 450, 73, 271, 587, 588, 589, 590, 386, 387, 402, 403, 407, 411, 415, 437, 463, 459, 467, 391, 392, 395, 396, 400, 401, 419, 423, 430, 427, 434, 441, 445, 451, 455, 99, 501, 333, 378, 505, 488, 489, 493, 497, 541, 545, 554, 608, 617, 563, 69, 95, 112, 226, 230, 234, 238, 242, 250, 253, 256, 259, 283, 289, 286, 297, 301, 305, 309, 313, 317, 321, 329, 334, 342, 350, 358, 366, 370, 382, 471, 484, 509, 518, 519, 524, 529, 537, 550, 559, 374, 267, 579, 583, 596, 600, 475, 479, 609, 635, 636, 644, 648, 663, 667, 671, 675, 679, 683, 263, 604, 613, 618, 622, 699, 788, 795, 799, 811, 818, 822, 838, 846, 869, 873, 877, 881, 858, 861, 854, 865, 885, 893, 894, 898, 922, 918, 930, 938, 954, 957]
def clkP : List (Nat × Nat × Nat) := [(59, 60, 49), (692, 693, 56), (67, 68, 50), (93, 94, 52), (110, 111, 53), (150, 151, 54), (178, 179, 55)]
def klkP : List Nat := [593, 594, 595, 698]
def olkP : List Nat := [155, 183, 72, 115, 98, 64, 697]
def zmPP : List (Nat × Nat × Nat) := [(54, 153, 0), (54, 239, 240), (54, 645, 646), (54, 480, 481), (54, 684, 685), (54, 658, 25), (54, 654, 24), (54, 649, 650), (54, 668, 669), (54, 672, 673), (54, 676, 677), (54, 680, 681), (55, 181, 0), (55, 243, 244), (55, 446, 447), (55, 464, 465), (55, 460, 461), (55, 490, 491), (55, 494, 495), (50, 70, 0), (50, 231, 232), (50, 335, 336), (50, 273, 1), (50, 298, 299), (50, 290, 291), (50, 264, 265), (50, 268, 269), (50, 610, 611), (50, 343, 344), (50, 302, 303), (50, 306, 307), (50, 310, 311), (50, 314, 315), (50, 318, 319), (50, 542, 543), (50, 351, 352), (50, 359, 360), (50, 584, 585), (53, 113, 0), (53, 383, 384), (53, 389, 4), (53, 398, 5), (53, 405, 6), (53, 413, 8), (53, 409, 7), (53, 469, 17), (53, 421, 10), (53, 432, 12), (53, 425, 11), (53, 428, 0), (53, 417, 9), (53, 439, 13), (53, 443, 14), (53, 453, 15), (53, 457, 16), (52, 96, 0), (52, 235, 236), (52, 227, 228), (52, 503, 19), (52, 530, 531), (52, 322, 323), (52, 330, 331), (52, 379, 380), (52, 375, 376), (52, 506, 507), (52, 498, 499), (52, 485, 486), (52, 538, 539), (52, 551, 552), (52, 605, 606), (52, 619, 620), (52, 614, 615), (52, 560, 561), (52, 565, 20), (52, 637, 638), (52, 476, 477), (52, 664, 665), (49, 62, 0), (49, 223, 224), (49, 247, 248), (49, 276, 277), (49, 280, 281), (49, 294, 295), (49, 326, 327), (49, 339, 340), (49, 347, 348), (49, 355, 356), (49, 363, 364), (49, 511, 512), (49, 515, 516), (49, 521, 522), (49, 526, 527), (49, 534, 535), (49, 547, 548), (49, 556, 557), (49, 568, 569), (49, 572, 573), (49, 576, 577), (49, 624, 625), (49, 628, 629), (49, 632, 633), (49, 641, 642), (49, 689, 690), (49, 251, 0), (49, 254, 0), (49, 257, 0), (49, 368, 2), (49, 261, 0), (49, 287, 0), (49, 284, 0), (49, 372, 3), (49, 473, 18), (49, 581, 21), (49, 598, 22), (49, 602, 23), (56, 789, 0), (56, 695, 0), (56, 701, 26), (56, 820, 29), (56, 859, 0), (56, 924, 44), (56, 840, 31), (56, 848, 32), (56, 896, 41), (56, 781, 782), (56, 785, 786), (56, 797, 27), (56, 801, 28), (56, 792, 793), (56, 804, 805), (56, 812, 0), (56, 808, 809), (56, 824, 30), (56, 815, 816), (56, 827, 828), (56, 831, 832), (56, 835, 836), (56, 843, 844), (56, 871, 36), (56, 879, 38), (56, 883, 39), (56, 875, 37), (56, 867, 35), (56, 863, 34), (56, 887, 40), (56, 856, 33), (56, 851, 852), (56, 900, 42), (56, 890, 891), (56, 903, 904), (56, 907, 908), (56, 911, 912), (56, 920, 43), (56, 915, 916), (56, 932, 45), (56, 927, 928), (56, 940, 46), (56, 935, 936), (56, 943, 944), (56, 947, 948), (56, 955, 0), (56, 959, 47), (56, 951, 952), (56, 962, 963), (56, 966, 967), (56, 970, 971), (56, 974, 975), (58, 591, 0), (57, 661, 0), (57, 435, 0), (57, 393, 0), (51, 74, 0), (0, 0, 0)]
def WS : List Jvm.Cond := lw_tbl.filter goodWord
def zIn (w : Jvm.Cond) : Bool := decide (w ∈ lw_tbl) && goodWord w
theorem zIn_mem {w : Jvm.Cond} (h : zIn w = true) : w ∈ WS := by
  simp only [zIn, Bool.and_eq_true, decide_eq_true_eq] at h
  exact List.mem_filter.mpr h
def zAt (i : Nat) (w : Jvm.Cond) : Bool := decide (lw_tbl[i]? = some w) && goodWord w
theorem zAt_mem {i : Nat} {w : Jvm.Cond} (h : zAt i w = true) : w ∈ WS := by
  simp only [zAt, Bool.and_eq_true, decide_eq_true_eq] at h
  exact List.mem_filter.mpr ⟨List.mem_of_getElem? h.1, h.2⟩
theorem zip_in {α β : Type} {a : List α} {b : List β} (h : a.length = b.length) {x : α} (hx : x ∈ a) : ∃ y, (x, y) ∈ a.zip b := by
  obtain ⟨i, hi, rfl⟩ := List.mem_iff_getElem.mp hx
  exact ⟨b[i]'(by omega), List.mem_iff_getElem.mpr ⟨i, by simp; omega, by simp⟩⟩
def zwn (i : Nat) : String := zown.getD i ""
def zmO (m : Nat) : Nat := ztO.getD m 99
def zmY (m : Nat) : MethodName := ztY.getD m yL_law
def zmC (m : Nat) : ByteArray := ztC.getD m cL_law
def zmR (m : Nat) : Option FieldType := ztR.getD m none
def zmK (m : Nat) : Nat := ztK.getD m 9
def zmP (m : Nat) : Nat := ztP.getD m 0
def zmF (m : Nat) : Nat := ztF.getD m 0
def zmL (m : Nat) : Nat := ztL.getD m 0
def zmN (m : Nat) : Nat := pnl.getD m 0
def zcn (a : Nat) : String := match vwCl[a]? with
  | some q => q.1
  | none => ""
def zfr (a b : Nat) : Bool := (frefs.getD a []).getD b false
def zcond (a : Nat) : Jvm.ClassFile.Cond := match a with
  | 0 => .eq
  | 1 => .ne
  | 2 => .lt
  | 3 => .ge
  | 4 => .gt
  | _ => .le
abbrev PU : Type := Nat → Nat → Nat → Nat → Int → List Nat → Instr
def zn_0 : PU := fun _ _ _ _ _ _ => .nop
def zn_1 : PU := fun len a _ _ _ _ => if len = 1 then .iload_n (Fin.ofNat 4 a) else .iload a
def zn_2 : PU := fun len a _ _ _ _ => if len = 1 then .aload_n (Fin.ofNat 4 a) else .aload a
def zn_3 : PU := fun len a _ _ _ _ => if len = 1 then .istore_n (Fin.ofNat 4 a) else .istore a
def zn_4 : PU := fun len a _ _ _ _ => if len = 1 then .astore_n (Fin.ofNat 4 a) else .astore a
def zn_5 : PU := fun len _ d _ z _ => if d = 0 then (if len = 1 then .iconst z else if len = 2 then .bipush z else .sipush z) else (if len = 2 then .ldc d else .ldc_w d)
def zn_6 : PU := fun _ _ _ _ _ _ => .aconst_null
def zn_7 : PU := fun _ _ d _ _ _ => .getfield d
def zn_8 : PU := fun _ _ d _ _ _ => .getfield d
def zn_9 : PU := fun _ _ d _ _ _ => .putfield d
def zn_10 : PU := fun _ _ d _ _ _ => .putfield d
def zn_11 : PU := fun _ _ _ _ _ _ => .iaload
def zn_12 : PU := fun _ _ _ _ _ _ => .iastore
def zn_13 : PU := fun _ _ _ _ _ _ => .baload
def zn_14 : PU := fun _ _ _ _ _ _ => .bastore
def zn_15 : PU := fun _ _ _ _ _ _ => .arraylength
def zn_16 : PU := fun _ _ _ _ _ _ => .iadd
def zn_17 : PU := fun _ _ _ _ _ _ => .isub
def zn_18 : PU := fun _ _ _ _ _ _ => .imul
def zn_19 : PU := fun _ _ _ _ _ _ => .idiv
def zn_20 : PU := fun _ _ _ _ _ _ => .irem
def zn_21 : PU := fun _ _ _ _ _ _ => .iand
def zn_22 : PU := fun _ _ _ _ _ _ => .ior
def zn_23 : PU := fun _ _ _ _ _ _ => .ixor
def zn_24 : PU := fun _ _ _ _ _ _ => .ishl
def zn_25 : PU := fun _ _ _ _ _ _ => .ishr
def zn_26 : PU := fun _ _ _ _ _ _ => .iushr
def zn_27 : PU := fun _ a _ _ z _ => .iinc a z
def zn_28 : PU := fun _ _ d pc _ _ => .goto ((d : Int) - pc)
def zn_29 : PU := fun _ a d pc _ _ => .ifCond (zcond a) ((d : Int) - pc)
def zn_30 : PU := fun _ a d pc _ _ => .if_icmp (zcond a) ((d : Int) - pc)
def zn_31 : PU := fun _ _ d pc _ _ => .ifnull ((d : Int) - pc)
def zn_32 : PU := fun _ _ d pc _ _ => .ifnonnull ((d : Int) - pc)
def zn_33 : PU := fun _ _ d pc _ _ => .if_acmp .ne ((d : Int) - pc)
def zn_34 : PU := fun _ _ d pc z ts => .tableswitch ((d : Int) - pc) 0 z (ts.map (fun (t : Nat) => (t : Int) - pc)).toArray
def zn_35 : PU := fun _ a _ _ _ _ => .newarray (if a = 7 then .int else .boolean)
def zn_36 : PU := fun _ _ d _ _ _ => .new d
def zn_37 : PU := fun _ _ _ _ _ _ => .dup
def zn_38 : PU := fun _ _ _ _ _ _ => .dup2
def zn_39 : PU := fun _ _ _ _ _ _ => .pop
def zn_40 : PU := fun _ _ d _ _ _ => .invokevirtual d
def zn_41 : PU := fun _ _ _ _ _ _ => .ireturn
def zn_42 : PU := fun _ _ _ _ _ _ => .ireturn
def zn_43 : PU := fun _ _ _ _ _ _ => .areturn
def zn_44 : PU := fun _ _ _ _ _ _ => .return_
def zn_45 : PU := fun _ _ d _ _ _ => .invokespecial d
def zn_46 : PU := fun _ _ _ _ _ _ => .arraylength
def zn_47 : PU := fun _ _ _ _ _ _ => .iaload
def zn_48 : PU := fun _ _ d _ _ _ => .invokespecial d
def zn_49 : PU := fun _ _ d _ _ _ => .invokestatic d
def zn_50 : PU := fun _ _ d _ _ _ => .invokespecial d
def zunt : List PU := [zn_0, zn_1, zn_2, zn_3, zn_4, zn_5, zn_6, zn_7, zn_8, zn_9, zn_10, zn_11, zn_12, zn_13, zn_14, zn_15, zn_16, zn_17, zn_18, zn_19, zn_20, zn_21, zn_22, zn_23, zn_24, zn_25, zn_26, zn_27, zn_28, zn_29, zn_30, zn_31, zn_32, zn_33, zn_34, zn_35, zn_36, zn_37, zn_38, zn_39, zn_40, zn_41, zn_42, zn_43, zn_44, zn_45, zn_46, zn_47, zn_48, zn_49, zn_50]
def zun (pc : Nat) (q : PI) : Instr := match zunt[q.1]? with
  | some f => f q.2.1 q.2.2.1 q.2.2.2.2.1 pc q.2.2.2.2.2.1 q.2.2.2.2.2.2
  | none => .nop
/-- what a field link says -/
def flkB (q : Nat × Nat × Nat × Nat) (i : Nat) : Bool := match vwCl[q.2.2.1]? with
  | some (C, T, N) => zAt i (.fieldLink (zwn q.1) q.2.1 C (T q.2.2.2).2.1 (T q.2.2.2).2.2.1) && decide (q.2.2.2 < N) && decide ((T q.2.2.2).1 = C) &&
    (match parseFieldDescriptor (T q.2.2.2).2.2.1 with
      | some .int => !zfr q.2.2.1 q.2.2.2
      | some (.array _) => zfr q.2.2.1 q.2.2.2
      | some (.object _) => zfr q.2.2.1 q.2.2.2
      | _ => false)
  | none => false
def mlkB (q : Nat × Nat × Nat) (i : Nat) : Bool := zAt i (.methodLink (zwn q.1) q.2.1 (zmY q.2.2))
def clkB (q : Nat × Nat × Nat) (i : Nat × Nat × Nat) : Bool := match vwCl[q.2.2]? with
  | some (C, _, N) => zAt i.1 (.classLink (zwn q.1) q.2.1 C) && zAt i.2.1 (.instantiable C N) && zAt i.2.2 (.initialized C)
  | none => false
def klkB (q : Nat × Nat × Int) (i : Nat) : Bool := zAt i (.constant (zwn q.1) q.2.1 (Int32.ofInt q.2.2))
def olkB (q : Nat × Nat) (i : Nat) : Bool := zAt i (.methodLink (zwn q.1) q.2 Lib.objectInit)
def znb (z : Int) : Bool := decide (-2147483648 ≤ z) && decide (z < 2147483648)
def zmB (m : Nat) (i : Nat × Nat × Nat) : Bool := zAt i.1 (.initialized (zmY m).cls) && plainFor (zmY m) &&
  decide ((zmY m).cls ≠ "java/lang/invoke/MethodHandle" ∧ (zmY m).cls ≠ "java/lang/invoke/VarHandle") &&
  decide ((parseMethodDescriptor (zmY m).desc).map (fun d => d.parameters.length) = some (zmP m - (if zmK m < 2 then 1 else 0))) &&
  decide (zmP m ≤ zmN m) && decide (zmK m < 2 → 1 ≤ zmP m) && decide ((zmY m).cls = zwn (zmO m)) && decide (zmK m < 3) &&
  (if zmK m = 0 then zAt i.2.1 (.instanceMethod (zmY m)) && zAt i.2.2 (.selects (zmY m).cls (zmY m) (zmY m)) else
   if zmK m = 1 then zAt i.2.1 (.instanceMethod (zmY m)) && decide ((zmY m).name = "<init>") && decide (zmR m = none) else zAt i.2.1 (.static (zmY m)))
abbrev PK : Type := Nat → Nat → Nat → Nat → Nat → Nat → Int → List Nat → Bool
def zcall (k m a b d : Nat) : Bool := mlk.contains (zmO m, d, a) && decide (zmK a = k) && decide (b = zmP a) && decide (a < 172) && decide (zmF a + 1 ≤ zmF m) && decide (8 + (zmN a + 11) + zmL a ≤ zmL m)
def zk_0 : PK := fun _ _ _ _ _ _ _ _ => false
def zk_1 : PK := fun _ _ len a _ _ _ _ => (decide (len = 1) && decide (a < 4)) || decide (len = 2)
def zk_2 : PK := fun _ _ len a _ _ _ _ => (decide (len = 1) && decide (a < 4)) || decide (len = 2)
def zk_3 : PK := fun _ _ len a _ _ _ _ => (decide (len = 1) && decide (a < 4)) || decide (len = 2)
def zk_4 : PK := fun _ _ len a _ _ _ _ => (decide (len = 1) && decide (a < 4)) || decide (len = 2)
def zk_5 : PK := fun m _ len _ _ d z _ => znb z && (if d = 0 then (decide (len = 1) || (decide (len = 2) && decide ((Int8.ofInt z).toInt32 = Int32.ofInt z)) || (decide (len = 3) && decide ((Int16.ofInt z).toInt32 = Int32.ofInt z))) else (decide (len = 2) || decide (len = 3)) && klk.contains (zmO m, d, z))
def zk_6 : PK := fun _ _ len _ _ _ _ _ => decide (len = 1)
def zk_7 : PK := fun m _ len a b d _ _ => decide (len = 3) && flk.contains (zmO m, d, a, b) && !zfr a b
def zk_8 : PK := fun m _ len a b d _ _ => decide (len = 3) && flk.contains (zmO m, d, a, b) && zfr a b
def zk_9 : PK := fun m _ len a b d _ _ => decide (len = 3) && flk.contains (zmO m, d, a, b) && !zfr a b && (match vwCl[a]? with | some q => !(q.2.1 b).2.2.2 | none => false)
def zk_10 : PK := fun m _ len a b d _ _ => decide (len = 3) && flk.contains (zmO m, d, a, b) && zfr a b && (match vwCl[a]? with | some q => (q.2.1 b).2.2.2 && decide ((q.2.1 b).1 = zwn (zmO m)) | none => false) && decide (zmK m = 1)
def zk_11 : PK := fun _ _ len _ _ _ _ _ => decide (len = 1)
def zk_12 : PK := fun _ _ len _ _ _ _ _ => decide (len = 1)
def zk_13 : PK := fun _ _ len _ _ _ _ _ => decide (len = 1)
def zk_14 : PK := fun _ _ len _ _ _ _ _ => decide (len = 1)
def zk_15 : PK := fun _ _ len _ _ _ _ _ => decide (len = 1)
def zk_16 : PK := fun _ _ len _ _ _ _ _ => decide (len = 1)
def zk_17 : PK := fun _ _ len _ _ _ _ _ => decide (len = 1)
def zk_18 : PK := fun _ _ len _ _ _ _ _ => decide (len = 1)
def zk_19 : PK := fun _ _ len _ _ _ _ _ => decide (len = 1)
def zk_20 : PK := fun _ _ len _ _ _ _ _ => decide (len = 1)
def zk_21 : PK := fun _ _ len _ _ _ _ _ => decide (len = 1)
def zk_22 : PK := fun _ _ len _ _ _ _ _ => decide (len = 1)
def zk_23 : PK := fun _ _ len _ _ _ _ _ => decide (len = 1)
def zk_24 : PK := fun _ _ len _ _ _ _ _ => decide (len = 1)
def zk_25 : PK := fun _ _ len _ _ _ _ _ => decide (len = 1)
def zk_26 : PK := fun _ _ len _ _ _ _ _ => decide (len = 1)
def zk_27 : PK := fun m _ len a _ _ z _ => decide (len = 3) && znb z && decide (a < zmN m)
def zk_28 : PK := fun _ _ len _ _ _ _ _ => decide (len = 3)
def zk_29 : PK := fun _ _ len a _ _ _ _ => decide (len = 3) && decide (a < 6)
def zk_30 : PK := fun _ _ len a _ _ _ _ => decide (len = 3) && decide (a < 6)
def zk_31 : PK := fun _ _ len _ _ _ _ _ => decide (len = 3)
def zk_32 : PK := fun _ _ len _ _ _ _ _ => decide (len = 3)
def zk_33 : PK := fun _ _ len _ _ _ _ _ => decide (len = 3)
def zk_34 : PK := fun _ _ _ _ _ _ z ts => decide ((ts.length : Int) = z + 1)
def zk_35 : PK := fun _ _ len a _ _ _ _ => decide (len = 2) && (decide (a = 7) || decide (a = 8))
def zk_36 : PK := fun m _ len a b d _ _ => decide (len = 3) && clk.contains (zmO m, d, a) && (match vwCl[a]? with | some q => decide (q.2.2 = b) | none => false)
def zk_37 : PK := fun _ _ len _ _ _ _ _ => decide (len = 1)
def zk_38 : PK := fun _ _ len _ _ _ _ _ => decide (len = 1)
def zk_39 : PK := fun _ _ len _ _ _ _ _ => decide (len = 1)
def zk_40 : PK := fun m _ len a b d z _ => decide (len = 3) && zcall 0 m a b d && decide (zcn z.toNat = (zmY a).cls) && decide (z.toNat < 7)
def zk_41 : PK := fun m _ len _ _ _ _ _ => decide (len = 1) && decide (zmR m = some .int)
def zk_42 : PK := fun m _ len _ _ _ _ _ => decide (len = 1) && decide (zmR m = some .boolean)
def zk_43 : PK := fun m _ len _ _ _ _ _ => decide (len = 1) && (match zmR m with | some (.object _) => true | some (.array _) => true | _ => false)
def zk_44 : PK := fun m _ len _ _ _ _ _ => decide (len = 1) && decide (zmR m = none)
def zk_45 : PK := fun m _ len _ _ d _ _ => decide (len = 3) && olk.contains (zmO m, d) && decide (1 ≤ zmF m) && decide (20 ≤ zmL m)
def zk_46 : PK := fun m _ len _ _ _ _ _ => decide (len = 1) && decide (m = 172)
def zk_47 : PK := fun m _ len _ _ _ _ _ => decide (len = 1) && decide (m = 172)
def zk_48 : PK := fun m _ len a b d z _ => decide (len = 3) && zcall 1 m a b d && decide (zcn z.toNat = (zmY a).cls) && decide (z.toNat < 7)
def zk_49 : PK := fun m _ len a b d _ _ => decide (len = 3) && zcall 2 m a b d
def zk_50 : PK := fun m _ len a b d z _ => decide (len = 3) && (decide (d = 37 ∧ zmY a = yX0_init) || decide (d = 44 ∧ zmY a = yX1_init)) && decide (zmO m = 5) && decide (zmK a = 1) && decide (b = zmP a) && decide (a < 172) && decide (zmF a + 1 ≤ zmF m) && decide (8 + (zmN a + 11) + zmL a ≤ zmL m) && decide (zcn z.toNat = (zmY a).cls) && decide (z.toNat < 7)
def zckt : List PK := [zk_0, zk_1, zk_2, zk_3, zk_4, zk_5, zk_6, zk_7, zk_8, zk_9, zk_10, zk_11, zk_12, zk_13, zk_14, zk_15, zk_16, zk_17, zk_18, zk_19, zk_20, zk_21, zk_22, zk_23, zk_24, zk_25, zk_26, zk_27, zk_28, zk_29, zk_30, zk_31, zk_32, zk_33, zk_34, zk_35, zk_36, zk_37, zk_38, zk_39, zk_40, zk_41, zk_42, zk_43, zk_44, zk_45, zk_46, zk_47, zk_48, zk_49, zk_50]
def zck (m pc : Nat) (q : PI) : Bool := decide (decode (zmC m) pc = .ok (zun pc q, q.2.1)) && (match zckt[q.1]? with
  | some f => f m pc q.2.1 q.2.2.1 q.2.2.2.1 q.2.2.2.2.1 q.2.2.2.2.2.1 q.2.2.2.2.2.2
  | none => false)
def zcM (m : Nat) : Bool := match pcodes[m]? with
  | some L => L.zipIdx.all (fun e => match e.1 with | none => true | some q => zck m e.2 q)
  | none => true
