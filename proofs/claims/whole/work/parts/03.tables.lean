/-! AM: methods, sites, constants; what the tables say of them -/
def oNames : List String := [RX0, RX1, RX2, RX3, RX4, RX5, RX6, RX7, RX8, RX9, RX10, RX11, RX12, RJ6, RJ13, RJ9, RJ0, RJ7, RL]
def oName (o : Nat) : String := oNames.getD o ""
def amCl : List vw_C := [(RX0, TX0, 6), (RX1, TX1, 10), (RX2, TX2, 4), (RX3, TX3, 10), (RX4, TX4, 11), (RX5, TX5, 6), (RX6, TX6, 3), (RX7, TX7, 1), (RX8, TX8, 4), (RX9, TX9, 10), (RX10, TX10, 11), (RX11, TX11, 14), (RX12, TX12, 69)]
def mTab_0 : List (MethodName × ByteArray × Nat × Option FieldType × Nat × Nat × Nat) := [(yX11_init, cX11_init, 1, none, 3, 11, 0),
  (yX11_days, cX11_days, 2, (some .int), 1, 11, 1),
  (yX11_feed, cX11_feed, 4, (some .int), 1, 11, 2),
  (yX11_rule, cX11_rule, 9, (some .int), 10, 11, 5),
  (yX11_strike, cX11_strike, 3, (some .int), 1, 11, 2),
  (yX11_fall, cX11_fall, 3, (some .int), 1, 11, 1),
  (yX11_ruleOf, cX11_ruleOf, 4, (some .int), 1, 11, 2),
  (yX11_fits, cX11_fits, 3, (some .int), 2, 11, 2),
  (yX11_answer, cX11_answer, 5, (some .int), 4, 11, 4),
  (yX11_why, cX11_why, 6, (some .int), 5, 11, 5),
  (yX11_district, cX11_district, 3, (some .int), 1, 11, 2),
  (yX11_carried, cX11_carried, 3, (some .int), 1, 11, 2),
  (yX11_law, cX11_law, 6, (some .int), 5, 11, 5),
  (yX11_deed, cX11_deed, 3, (some .int), 2, 11, 2),
  (yX11_deedEnd, cX11_deedEnd, 5, (some .int), 5, 11, 3),
  (yX11_lost, cX11_lost, 7, (some .int), 6, 11, 2),
  (yX11_courts, cX11_courts, 3, (some .int), 1, 11, 1),
  (yX11_court, cX11_court, 7, (some .int), 5, 11, 4),
  (yX11_unlike, cX11_unlike, 4, (some .int), 5, 11, 3),
  (yX11_wrong, cX11_wrong, 4, (some .int), 5, 11, 3),
  (yX11_heard, cX11_heard, 4, (some .int), 2, 11, 3),
  (yX11_read, cX11_read, 6, (some .int), 3, 11, 4),
  (yX11_left, cX11_left, 2, (some .int), 3, 11, 1),
  (yX11_form, cX11_form, 3, (some .int), 3, 11, 2),
  (yX11_parts, cX11_parts, 4, (some .int), 4, 11, 2),
  (yX11_quarrel, cX11_quarrel, 4, (some .int), 2, 11, 2),
  (yX11_moves, cX11_moves, 5, (some .int), 10, 11, 2),
  (yX11_person, cX11_person, 7, (some .int), 1, 11, 6),
  (yX11_goes, cX11_goes, 4, (some .int), 1, 11, 2),
  (yX11_die, cX11_die, 2, (some .int), 6, 11, 1),
  (yX11_settle, cX11_settle, 2, (some .int), 6, 11, 1),
  (yX11_personOf, cX11_personOf, 3, (some .int), 2, 11, 2),
  (yX11_chest, cX11_chest, 2, (some .int), 1, 11, 1),
  (yX11_way, cX11_way, 5, (some .int), 10, 11, 2),
  (yX11_keeps, cX11_keeps, 2, (some .int), 6, 11, 1),
  (yX11_near, cX11_near, 3, (some .int), 6, 11, 1),
  (yX11_line, cX11_line, 2, (some .int), 1, 11, 1),
  (yX11_section, cX11_section, 1, (some .int), 1, 11, 0),
  (yX11_like, cX11_like, 5, (some .int), 1, 11, 3),
  (yX11_yes, cX11_yes, 2, (some .int), 2, 11, 1),
  (yX11_least, cX11_least, 3, (some .int), 3, 11, 1),
  (yX11_teach, cX11_teach, 5, (some .int), 1, 11, 3),
  (yX11_waits, cX11_waits, 1, (some .int), 2, 11, 0),
  (yX11_taught, cX11_taught, 2, (some .int), 3, 11, 1),
  (yX11_act, cX11_act, 4, (some .int), 4, 11, 3),
  (yX11_trace, cX11_trace, 2, (some .int), 1, 11, 1),
  (yX11_taken, cX11_taken, 4, (some .int), 1, 11, 2),
  (yX11_count, cX11_count, 2, (some .int), 1, 11, 1),
  (yX11_sheet, cX11_sheet, 4, (some .int), 2, 11, 3),
  (yX11_cell, cX11_cell, 4, (some .int), 1, 11, 3),
  (yX11_copy, cX11_copy, 6, (some .int), 1, 11, 5),
  (yX11_casesMoved, cX11_casesMoved, 4, (some .int), 2, 11, 1),
  (yX11_tellOf, cX11_tellOf, 2, (some .int), 3, 11, 2),
  (yX11_swap, cX11_swap, 4, (some .int), 0, 11, 3),
  (yX11_within, cX11_within, 3, (some .boolean), 0, 11, 3),
  (yX11_isSort, cX11_isSort, 1, (some .boolean), 1, 11, 1),
  (yX11_isEnd, cX11_isEnd, 1, (some .boolean), 1, 11, 1),
  (yX11_isUnder, cX11_isUnder, 2, (some .boolean), 0, 11, 2),
  (yX11_sizeOf, cX11_sizeOf, 1, (some .int), 0, 11, 1),
  (yX11_fieldOf, cX11_fieldOf, 2, (some .int), 0, 11, 2)]
def mTab_1 : List (MethodName × ByteArray × Nat × Option FieldType × Nat × Nat × Nat) := [(yX11_nameOf, cX11_nameOf, 1, (some (.object "java/lang/String")), 0, 11, 1),
  (yX11_isSo, cX11_isSo, 3, (some .boolean), 0, 11, 3),
  (yX11_rankOf, cX11_rankOf, 1, (some .int), 0, 11, 1),
  (yX11_endOf, cX11_endOf, 1, (some .int), 0, 11, 1),
  (yX11_joined, cX11_joined, 6, (some .int), 0, 11, 3),
  (yX12_init, cX12_init, 1, none, 1, 12, 0),
  (yX12_in, cX12_in, 3, (some .boolean), 0, 12, 3),
  (yX12_isSort, cX12_isSort, 1, (some .boolean), 1, 12, 1),
  (yX12_isRule, cX12_isRule, 2, (some .boolean), 1, 12, 1),
  (yX12_isDistrict, cX12_isDistrict, 2, (some .boolean), 1, 12, 1),
  (yX12_isEnd, cX12_isEnd, 1, (some .boolean), 1, 12, 1),
  (yX12_unit, cX12_unit, 1, (some .int), 0, 12, 1),
  (yX12_sizeOf, cX12_sizeOf, 1, (some .int), 0, 12, 1),
  (yX12_field, cX12_field, 2, (some .int), 1, 12, 2),
  (yX12_days, cX12_days, 2, (some .int), 1, 12, 1),
  (yX12_feed, cX12_feed, 4, (some .int), 1, 12, 2),
  (yX12_here, cX12_here, 1, (some .int), 0, 12, 0),
  (yX12_eats, cX12_eats, 2, none, 1, 12, 1),
  (yX12_eats4, cX12_eats4, 5, none, 2, 12, 4),
  (yX12_digit, cX12_digit, 4, (some .int), 1, 12, 2),
  (yX12_endRead, cX12_endRead, 2, (some .int), 3, 12, 0),
  (yX12_fieldRead, cX12_fieldRead, 1, (some .int), 3, 12, 0),
  (yX12_testRead, cX12_testRead, 4, (some .int), 4, 12, 1),
  (yX12_read, cX12_read, 7, (some .int), 5, 12, 1),
  (yX12_holds, cX12_holds, 6, (some .boolean), 2, 12, 2),
  (yX12_fitsText, cX12_fitsText, 7, (some .boolean), 3, 12, 2),
  (yX12_rule, cX12_rule, 8, (some .int), 6, 12, 5),
  (yX12_strike, cX12_strike, 3, (some .int), 2, 12, 2),
  (yX12_fall, cX12_fall, 2, (some .int), 2, 12, 1),
  (yX12_ruleOf, cX12_ruleOf, 3, (some .int), 2, 12, 2),
  (yX12_fits, cX12_fits, 3, (some .int), 4, 12, 2),
  (yX12_isInForce, cX12_isInForce, 6, (some .boolean), 0, 12, 3),
  (yX12_answerBy, cX12_answerBy, 10, (some .int), 4, 12, 6),
  (yX12_answerOf, cX12_answerOf, 5, (some .int), 5, 12, 4),
  (yX12_isAsked, cX12_isAsked, 4, (some .boolean), 2, 12, 4),
  (yX12_answer, cX12_answer, 5, (some .int), 6, 12, 4),
  (yX12_why, cX12_why, 10, (some .int), 6, 12, 5),
  (yX12_district, cX12_district, 3, (some .int), 1, 12, 2),
  (yX12_carried, cX12_carried, 3, (some .int), 2, 12, 2),
  (yX12_isCode, cX12_isCode, 3, (some .boolean), 0, 12, 2),
  (yX12_lawOf, cX12_lawOf, 7, (some .int), 6, 12, 5),
  (yX12_law, cX12_law, 6, (some .int), 7, 12, 5),
  (yX12_deed, cX12_deed, 3, (some .int), 2, 12, 2),
  (yX12_endOf, cX12_endOf, 4, (some .int), 7, 12, 3),
  (yX12_deedEnd, cX12_deedEnd, 4, (some .int), 8, 12, 3),
  (yX12_lost, cX12_lost, 7, (some .int), 8, 12, 2),
  (yX12_goes, cX12_goes, 4, (some .int), 2, 12, 2),
  (yX12_courts, cX12_courts, 3, (some .int), 1, 12, 1),
  (yX12_court, cX12_court, 7, (some .int), 7, 12, 4),
  (yX12_shows, cX12_shows, 6, (some .boolean), 2, 12, 2),
  (yX12_many, cX12_many, 3, (some .int), 0, 12, 1),
  (yX12_toldOf, cX12_toldOf, 6, (some .int), 3, 12, 1),
  (yX12_unlike, cX12_unlike, 5, (some .int), 6, 12, 3),
  (yX12_wrong, cX12_wrong, 5, (some .int), 6, 12, 3),
  (yX12_hears, cX12_hears, 4, (some .int), 0, 12, 3),
  (yX12_heard, cX12_heard, 4, (some .int), 2, 12, 3),
  (yX12_read_, cX12_read_, 8, (some .int), 2, 12, 4),
  (yX12_formHolds, cX12_formHolds, 2, (some .boolean), 3, 12, 2),
  (yX12_isLeft, cX12_isLeft, 7, (some .boolean), 4, 12, 2),
  (yX12_findLeft, cX12_findLeft, 4, (some .int), 5, 12, 1)]
def mTab_2 : List (MethodName × ByteArray × Nat × Option FieldType × Nat × Nat × Nat) := [(yX12_left, cX12_left, 2, (some .int), 6, 12, 1),
  (yX12_form, cX12_form, 6, (some .int), 6, 12, 2),
  (yX12_parts, cX12_parts, 9, (some .int), 6, 12, 2),
  (yX12_quarrel, cX12_quarrel, 5, (some .int), 2, 12, 2),
  (yX12_isUnder, cX12_isUnder, 3, (some .boolean), 1, 12, 2),
  (yX12_moves, cX12_moves, 11, (some .int), 6, 12, 2),
  (yX12_person, cX12_person, 7, (some .int), 2, 12, 6),
  (yX12_isChild, cX12_isChild, 3, (some .boolean), 0, 12, 2),
  (yX12_childrenOf, cX12_childrenOf, 4, (some .int), 1, 12, 1),
  (yX12_eldestOf, cX12_eldestOf, 3, (some .int), 1, 12, 1),
  (yX12_evenly, cX12_evenly, 7, none, 2, 12, 3),
  (yX12_goesBy, cX12_goesBy, 6, none, 3, 12, 3),
  (yX12_partsGoods, cX12_partsGoods, 5, none, 4, 12, 2),
  (yX12_die, cX12_die, 6, (some .int), 7, 12, 1),
  (yX12_settle, cX12_settle, 3, (some .int), 7, 12, 1),
  (yX12_personOf, cX12_personOf, 3, (some .int), 2, 12, 2),
  (yX12_chest, cX12_chest, 4, (some .int), 2, 12, 1),
  (yX12_way, cX12_way, 5, (some .int), 6, 12, 2),
  (yX12_findAnswers, cX12_findAnswers, 3, none, 6, 12, 0),
  (yX12_keptBy, cX12_keptBy, 7, (some .int), 4, 12, 0),
  (yX12_keeps, cX12_keeps, 4, (some .int), 7, 12, 1),
  (yX12_near, cX12_near, 7, (some .int), 7, 12, 1),
  (yX12_line, cX12_line, 2, (some .int), 1, 12, 1),
  (yX12_section, cX12_section, 1, (some .int), 0, 12, 0),
  (yX12_like, cX12_like, 5, (some .int), 1, 12, 3),
  (yX12_yesTo, cX12_yesTo, 6, (some .int), 0, 12, 1),
  (yX12_yes, cX12_yes, 2, (some .int), 1, 12, 1),
  (yX12_least, cX12_least, 7, (some .int), 1, 12, 1),
  (yX12_goesRound, cX12_goesRound, 5, (some .boolean), 0, 12, 2),
  (yX12_teach, cX12_teach, 6, (some .int), 2, 12, 3),
  (yX12_mayNext, cX12_mayNext, 3, (some .boolean), 0, 12, 2),
  (yX12_timeOf, cX12_timeOf, 4, (some .int), 0, 12, 1),
  (yX12_findRow, cX12_findRow, 5, none, 1, 12, 0),
  (yX12_waits, cX12_waits, 1, (some .int), 2, 12, 0),
  (yX12_taught, cX12_taught, 2, (some .int), 2, 12, 1),
  (yX12_runs, cX12_runs, 2, none, 0, 12, 1),
  (yX12_holds10, cX12_holds10, 2, (some .int), 1, 12, 1),
  (yX12_actHolds, cX12_actHolds, 3, (some .int), 2, 12, 1),
  (yX12_hangs11, cX12_hangs11, 2, (some .int), 3, 12, 1),
  (yX12_hangs20, cX12_hangs20, 2, (some .int), 4, 12, 1),
  (yX12_actHangs, cX12_actHangs, 3, (some .int), 5, 12, 1),
  (yX12_saves12, cX12_saves12, 3, (some .int), 6, 12, 1),
  (yX12_actSaves, cX12_actSaves, 3, (some .int), 7, 12, 1),
  (yX12_act, cX12_act, 4, (some .int), 8, 12, 3),
  (yX12_trace, cX12_trace, 2, (some .int), 1, 12, 1),
  (yX12_above, cX12_above, 1, (some .int), 0, 12, 1),
  (yX12_taken, cX12_taken, 4, (some .int), 2, 12, 2),
  (yX12_count, cX12_count, 4, (some .int), 0, 12, 1),
  (yX12_sheet, cX12_sheet, 5, (some .int), 1, 12, 3),
  (yX12_cell, cX12_cell, 4, (some .int), 1, 12, 3),
  (yX12_copy, cX12_copy, 10, (some .int), 1, 12, 5),
  (yX0_init, cX0_init, 1, none, 1, 0, 0),
  (yX0_isFull, cX0_isFull, 1, (some .boolean), 0, 0, 0),
  (yX0_add, cX0_add, 4, (some .int), 0, 0, 3),
  (yX0_formsLeft, cX0_formsLeft, 4, (some .int), 2, 0, 1),
  (yX0_formLeft, cX0_formLeft, 5, (some .int), 2, 0, 2),
  (yX0_bestParting, cX0_bestParting, 6, (some .int), 3, 0, 1),
  (yX0_lesserPart, cX0_lesserPart, 4, (some .int), 1, 0, 1),
  (yX0_firstInQuarrel, cX0_firstInQuarrel, 3, (some .int), 1, 0, 1),
  (yX0_rival, cX0_rival, 4, (some .int), 0, 0, 1)]
def mTab_3 : List (MethodName × ByteArray × Nat × Option FieldType × Nat × Nat × Nat) := [(yX0_countHolding, cX0_countHolding, 3, none, 2, 0, 1),
  (yX0_countHoldingOf, cX0_countHoldingOf, 4, none, 1, 0, 1),
  (yX0_isLeft, cX0_isLeft, 8, (some .boolean), 1, 0, 2),
  (yX1_init, cX1_init, 2, none, 1, 1, 1),
  (yX1_has, cX1_has, 2, (some .boolean), 0, 1, 1),
  (yX1_isFull, cX1_isFull, 1, (some .boolean), 0, 1, 0),
  (yX1_add, cX1_add, 3, (some .int), 0, 1, 2),
  (yX1_hasCode, cX1_hasCode, 3, (some .boolean), 0, 1, 2),
  (yX1_isUnder, cX1_isUnder, 5, (some .boolean), 1, 1, 3),
  (yX1_peopleUnder, cX1_peopleUnder, 5, (some .int), 2, 1, 2),
  (yX1_peopleOf, cX1_peopleOf, 4, (some .int), 0, 1, 1),
  (yX1_lawOf, cX1_lawOf, 7, (some .int), 4, 1, 5),
  (yX1_allChests, cX1_allChests, 3, (some .int), 0, 1, 0),
  (yX1_hasDeed, cX1_hasDeed, 2, (some .boolean), 0, 1, 1),
  (yX1_isFullOfDeeds, cX1_isFullOfDeeds, 1, (some .boolean), 0, 1, 0),
  (yX1_addDeed, cX1_addDeed, 4, (some .int), 0, 1, 3),
  (yX1_isLost, cX1_isLost, 6, (some .boolean), 5, 1, 2),
  (yX2_init, cX2_init, 1, none, 1, 2, 0),
  (yX2_goesRound, cX2_goesRound, 5, (some .boolean), 0, 2, 2),
  (yX2_leastWaiting, cX2_leastWaiting, 6, (some .int), 1, 2, 1),
  (yX2_taughtAt, cX2_taughtAt, 5, (some .int), 2, 2, 2),
  (yX2_nextTaught, cX2_nextTaught, 4, (some .int), 1, 2, 2),
  (yX2_mayFollow, cX2_mayFollow, 4, (some .boolean), 0, 2, 2),
  (yX2_waitsIfNext, cX2_waitsIfNext, 5, (some .int), 0, 2, 2),
  (yX3_init, cX3_init, 2, none, 1, 3, 1),
  (yX3_has, cX3_has, 2, (some .boolean), 0, 3, 1),
  (yX3_isFull, cX3_isFull, 1, (some .boolean), 0, 3, 0),
  (yX3_add, cX3_add, 7, (some .int), 0, 3, 6),
  (yX3_lives, cX3_lives, 2, (some .boolean), 0, 3, 1),
  (yX3_isQuarrelled, cX3_isQuarrelled, 2, (some .boolean), 0, 3, 1),
  (yX3_inState, cX3_inState, 4, (some .int), 0, 3, 1),
  (yX3_allCoins, cX3_allCoins, 3, (some .int), 0, 3, 0),
  (yX3_livingChildren, cX3_livingChildren, 5, (some .int), 1, 3, 2),
  (yX3_bury, cX3_bury, 2, none, 3, 3, 1),
  (yX3_endQuarrel, cX3_endQuarrel, 4, (some .int), 5, 3, 2),
  (yX3_sortOf, cX3_sortOf, 5, (some .int), 2, 3, 1),
  (yX3_partCoins, cX3_partCoins, 5, none, 4, 3, 2),
  (yX3_goByWay, cX3_goByWay, 6, none, 3, 3, 3),
  (yX3_eldestLiving, cX3_eldestLiving, 3, (some .int), 1, 3, 1),
  (yX3_isHeir, cX3_isHeir, 4, (some .boolean), 0, 3, 3),
  (yX3_toOne, cX3_toOne, 4, none, 1, 3, 3),
  (yX3_toChildren, cX3_toChildren, 7, none, 2, 3, 3),
  (yX3_toChest, cX3_toChest, 3, none, 0, 3, 2),
  (yX4_init, cX4_init, 8, none, 1, 4, 7),
  (yX4_group, cX4_group, 1, (some .int), 0, 4, 0),
  (yX4_struckOnce, cX4_struckOnce, 3, (some .boolean), 0, 4, 2),
  (yX4_standing, cX4_standing, 1, (some .int), 0, 4, 0),
  (yX4_loseWitness, cX4_loseWitness, 2, none, 0, 4, 1),
  (yX4_isInForce, cX4_isInForce, 4, (some .boolean), 1, 4, 2),
  (yX4_standingAsKnown, cX4_standingAsKnown, 4, (some .int), 0, 4, 1),
  (yX5_init, cX5_init, 1, none, 1, 5, 0),
  (yX5_has, cX5_has, 2, (some .boolean), 0, 5, 1),
  (yX5_isFull, cX5_isFull, 1, (some .boolean), 0, 5, 0),
  (yX5_at, cX5_at, 2, (some (.object "OneCode$Rule")), 0, 5, 1),
  (yX5_add, cX5_add, 2, (some .int), 0, 5, 1),
  (yX5_gather, cX5_gather, 5, none, 2, 5, 2),
  (yX5_topWithout, cX5_topWithout, 8, (some .int), 2, 5, 3),
  (yX5_top, cX5_top, 3, (some .int), 3, 5, 2),
  (yX5_answerOf, cX5_answerOf, 5, (some .int), 3, 5, 4),
  (yX5_giver, cX5_giver, 10, (some .int), 4, 5, 5)]
def mTab_4 : List (MethodName × ByteArray × Nat × Option FieldType × Nat × Nat × Nat) := [(yX5_findUnlike, cX5_findUnlike, 6, none, 4, 5, 4),
  (yX5_findAnswered, cX5_findAnswered, 6, none, 4, 5, 4),
  (yX5_findMoved, cX5_findMoved, 10, none, 3, 5, 4),
  (yX5_clearTrace, cX5_clearTrace, 1, none, 0, 5, 0),
  (yX5_bodyRun, cX5_bodyRun, 2, (some .int), 0, 5, 1),
  (yX5_begin, cX5_begin, 2, none, 0, 5, 1),
  (yX5_runHolds, cX5_runHolds, 6, (some .int), 1, 5, 3),
  (yX5_runHangs, cX5_runHangs, 7, (some .int), 2, 5, 3),
  (yX5_runSaves, cX5_runSaves, 9, (some .int), 3, 5, 3),
  (yX6_init, cX6_init, 1, none, 1, 6, 0),
  (yX6_has, cX6_has, 2, (some .boolean), 0, 6, 1),
  (yX6_isSort, cX6_isSort, 2, (some .boolean), 0, 6, 1),
  (yX6_isMissing, cX6_isMissing, 2, (some .boolean), 0, 6, 1),
  (yX6_remove, cX6_remove, 2, none, 0, 6, 1),
  (yX6_lay, cX6_lay, 4, none, 1, 6, 3),
  (yX6_spans, cX6_spans, 4, (some .boolean), 0, 6, 3),
  (yX6_item, cX6_item, 3, (some .int), 0, 6, 2),
  (yX6_put, cX6_put, 4, none, 0, 6, 3),
  (yX6_factsFrom, cX6_factsFrom, 6, (some .int), 1, 6, 2),
  (yX7_init, cX7_init, 1, none, 1, 7, 0),
  (yX7_clear, cX7_clear, 1, none, 1, 7, 0),
  (yX7_put, cX7_put, 2, none, 0, 7, 1),
  (yX7_has, cX7_has, 2, (some .boolean), 0, 7, 1),
  (yX7_size, cX7_size, 3, (some .int), 1, 7, 0),
  (yX7_lowest, cX7_lowest, 2, (some .int), 1, 7, 0),
  (yX7_fieldsThatShow, cX7_fieldsThatShow, 7, (some .int), 2, 7, 0),
  (yX7_unlikeFields, cX7_unlikeFields, 4, (some .int), 1, 7, 2),
  (yX7_meetsAll, cX7_meetsAll, 4, (some .boolean), 0, 7, 2),
  (yX8_init, cX8_init, 1, none, 1, 8, 0),
  (yX8_isFullOfLines, cX8_isFullOfLines, 1, (some .boolean), 0, 8, 0),
  (yX8_addLine, cX8_addLine, 2, (some .int), 0, 8, 1),
  (yX8_isFullOfSections, cX8_isFullOfSections, 1, (some .boolean), 0, 8, 0),
  (yX8_addSection, cX8_addSection, 1, (some .int), 0, 8, 0),
  (yX8_isSet, cX8_isSet, 2, (some .boolean), 0, 8, 1),
  (yX8_sectionsFor, cX8_sectionsFor, 4, (some .int), 1, 8, 1),
  (yX8_leastYielding, cX8_leastYielding, 4, (some .int), 2, 8, 0),
  (yX8_costOf, cX8_costOf, 4, (some .int), 0, 8, 1),
  (yX8_yieldsLess, cX8_yieldsLess, 5, (some .boolean), 1, 8, 2),
  (yX8_likingOf, cX8_likingOf, 5, (some .int), 0, 8, 2),
  (yX9_init, cX9_init, 2, none, 2, 9, 1),
  (yX9_readTape, cX9_readTape, 2, (some .int), 9, 9, 1),
  (yX9_addTo, cX9_addTo, 4, (some .int), 1, 9, 3),
  (yX9_readEnd, cX9_readEnd, 1, (some .boolean), 6, 9, 0),
  (yX9_readOwed, cX9_readOwed, 3, (some .boolean), 2, 9, 0),
  (yX9_readGoes, cX9_readGoes, 2, (some .boolean), 2, 9, 0),
  (yX9_readCondition, cX9_readCondition, 3, (some .boolean), 8, 9, 0),
  (yX9_readLink, cX9_readLink, 2, (some .boolean), 7, 9, 0),
  (yX9_readTest, cX9_readTest, 6, (some .boolean), 6, 9, 1),
  (yX9_valuesFor, cX9_valuesFor, 5, (some .int), 1, 9, 3),
  (yX9_fieldBegunBy, cX9_fieldBegunBy, 2, (some .int), 5, 9, 1),
  (yX9_signOf, cX9_signOf, 1, (some .int), 0, 9, 1),
  (yX9_next, cX9_next, 1, (some .int), 0, 9, 0),
  (yX9_readWord, cX9_readWord, 3, (some .boolean), 5, 9, 1),
  (yX9_readDigit, cX9_readDigit, 3, (some .int), 1, 9, 1),
  (yX9_findFitting, cX9_findFitting, 2, none, 2, 9, 0),
  (yX9_testsHold, cX9_testsHold, 5, (some .boolean), 1, 9, 1),
  (yX10_init, cX10_init, 3, none, 1, 10, 2),
  (yX10_hasSlot, cX10_hasSlot, 2, (some .boolean), 0, 10, 1),
  (yX10_isFull, cX10_isFull, 2, (some .boolean), 0, 10, 1),
  (yX10_add, cX10_add, 5, (some .int), 0, 10, 3)]
def mTab_5 : List (MethodName × ByteArray × Nat × Option FieldType × Nat × Nat × Nat) := [(yX10_allWays, cX10_allWays, 3, (some .int), 0, 10, 0),
  (yX10_isWriting, cX10_isWriting, 3, (some .boolean), 1, 10, 1),
  (yX10_keptBy, cX10_keptBy, 5, (some .int), 5, 10, 2),
  (yX10_placeOfBest, cX10_placeOfBest, 5, (some .int), 5, 10, 1),
  (yX10_keptAt, cX10_keptAt, 2, (some .int), 0, 10, 1),
  (yX10_writingAt, cX10_writingAt, 6, (some .int), 1, 10, 1),
  (yX10_topOfWriting, cX10_topOfWriting, 6, (some .int), 4, 10, 2),
  (yX10_keepBy, cX10_keepBy, 3, none, 1, 10, 1),
  (yX10_spreadTops, cX10_spreadTops, 4, none, 4, 10, 1),
  (yX10_spreadOver, cX10_spreadOver, 10, none, 1, 10, 3),
  (yX10_waysFitting, cX10_waysFitting, 5, (some .int), 1, 10, 2),
  (yX10_digitOf, cX10_digitOf, 2, (some .int), 0, 10, 2),
  (yX10_prepare, cX10_prepare, 3, none, 3, 10, 1),
  (yX10_askCustoms, cX10_askCustoms, 4, none, 4, 10, 1),
  (yX10_peopleWith, cX10_peopleWith, 4, (some .int), 0, 10, 1),
  (yJ6_bitCount_0f7a4, cJ6_bitCount_0f7a4, 1, (some .int), 0, 13, 1),
  (yJ13_bitCount_95d88, cJ13_bitCount_95d88, 2, (some .int), 0, 14, 1),
  (yJ9_max_7cf53, cJ9_max_7cf53, 2, (some .int), 0, 15, 2),
  (yJ9_min_7cf53, cJ9_min_7cf53, 2, (some .int), 0, 15, 2),
  (yJ7_fill_53178, cJ7_fill_53178, 4, none, 0, 17, 2),
  (yJ7_fill_d0a16, cJ7_fill_d0a16, 5, none, 0, 17, 2),
  (yJ0_charAt_5068e, cJ0_charAt_5068e, 2, (some .char), 4, 16, 1),
  (yJ0_length_8abf5, cJ0_length_8abf5, 1, (some .int), 1, 16, 0),
  (yL_law, code, 4, (some .boolean), 11, 18, 1)]
def mTab : List (MethodName × ByteArray × Nat × Option FieldType × Nat × Nat × Nat) := mTab_0 ++ (mTab_1 ++ (mTab_2 ++ (mTab_3 ++ (mTab_4 ++ (mTab_5)))))
def mDef : MethodName × ByteArray × Nat × Option FieldType × Nat × Nat × Nat := (yL_law, code, 0, none, 0, 0, 0)
def mAt (mi : Nat) : MethodName × ByteArray × Nat × Option FieldType × Nat × Nat × Nat := mTab.getD mi mDef
def mName (mi : Nat) : MethodName := (mAt mi).1
def mBytes (mi : Nat) : ByteArray := (mAt mi).2.1
def mMaxL (mi : Nat) : Nat := (mAt mi).2.2.1
def mRet (mi : Nat) : Option FieldType := (mAt mi).2.2.2.1
def mLvl (mi : Nat) : Nat := (mAt mi).2.2.2.2.1
def mOwn (mi : Nat) : Nat := (mAt mi).2.2.2.2.2.1
def mArgs (mi : Nat) : Nat := (mAt mi).2.2.2.2.2.2
/-- AM's values: ints (as Int), references (to AM's own cells, by their numbers), longs, fixed objects (0 the script, j + 1 the j-th String constant) -/
abbrev AV : Type := Int ⊕ (Option Nat ⊕ (Int64 ⊕ Nat))
abbrev aI (x : Int) : AV := .inl x
abbrev aR (r : Option Nat) : AV := .inr (.inl r)
abbrev aL (y : Int64) : AV := .inr (.inr (.inl y))
abbrev aF (k : Nat) : AV := .inr (.inr (.inr k))
/-- a table's entry at a key -/
def al {α : Type} : List (Nat × α) → Nat → Option α
  | [], _ => none
  | (k, v) :: r, x => if x = k then some v else al r x
theorem al_mem {α : Type} {l : List (Nat × α)} {x : Nat} {v : α} (h : al l x = some v) : (x, v) ∈ l := by
  induction l with
  | nil => simp [al] at h
  | cons q r ih =>
    obtain ⟨k, w⟩ := q
    by_cases e : x = k
    · rw [al, if_pos e] at h
      cases h
      rw [e]
      exact List.mem_cons_self
    · rw [al, if_neg e] at h
      exact List.mem_cons_of_mem _ (ih h)
def fTab_0 : List (Nat × Nat × Nat × Bool) := [(45065, 11, 0, false),
  (45072, 11, 1, false),
  (45081, 11, 2, false),
  (45088, 11, 3, false),
  (45097, 11, 4, false),
  (45106, 11, 5, false),
  (45113, 11, 6, false),
  (45120, 11, 7, false),
  (45127, 11, 8, false),
  (45134, 11, 9, false),
  (45143, 11, 10, false),
  (45147, 11, 13, false),
  (45155, 11, 12, false),
  (45158, 11, 11, false),
  (45198, 4, 1, true),
  (45201, 4, 2, true),
  (45204, 4, 3, true),
  (45207, 4, 4, true),
  (45210, 4, 0, true),
  (45213, 9, 8, true),
  (45216, 9, 9, true),
  (45219, 4, 9, true),
  (45225, 9, 4, true),
  (45242, 1, 3, true),
  (45258, 1, 7, true),
  (45261, 1, 5, true),
  (45264, 1, 6, true),
  (45267, 1, 9, true),
  (45295, 6, 1, true),
  (45349, 3, 1, true),
  (45361, 3, 2, true),
  (45364, 3, 6, true),
  (45367, 3, 7, true),
  (45370, 3, 8, true),
  (45382, 1, 4, true),
  (45420, 8, 3, true),
  (45423, 8, 2, true),
  (45426, 8, 1, true),
  (45442, 2, 0, true),
  (45449, 2, 1, true),
  (45455, 2, 2, true),
  (45458, 1, 8, true),
  (45485, 5, 4, true),
  (45486, 0, 5, true),
  (45487, 3, 9, true),
  (45494, 5, 5, true),
  (45507, 6, 0, true),
  (45516, 0, 1, true),
  (45517, 0, 0, true),
  (49159, 12, 1, false),
  (49165, 12, 3, false),
  (49168, 12, 4, false),
  (49172, 12, 5, false),
  (49175, 12, 6, false),
  (49178, 12, 8, false),
  (49181, 12, 9, false),
  (49184, 12, 10, false),
  (49187, 12, 11, false),
  (49190, 12, 12, false),
  (49193, 12, 13, false)]
def fTab_1 : List (Nat × Nat × Nat × Bool) := [(49196, 12, 14, false),
  (49199, 12, 15, false),
  (49202, 12, 16, false),
  (49205, 12, 17, false),
  (49208, 12, 19, false),
  (49211, 12, 20, false),
  (49214, 12, 21, false),
  (49217, 12, 22, false),
  (49221, 12, 24, false),
  (49224, 12, 25, false),
  (49227, 12, 26, false),
  (49230, 12, 28, false),
  (49233, 12, 29, false),
  (49236, 12, 30, false),
  (49239, 12, 32, false),
  (49242, 12, 33, false),
  (49245, 12, 34, false),
  (49248, 12, 35, false),
  (49251, 12, 36, false),
  (49254, 12, 37, false),
  (49257, 12, 38, false),
  (49260, 12, 39, false),
  (49263, 12, 40, false),
  (49266, 12, 41, false),
  (49269, 12, 42, false),
  (49272, 12, 44, false),
  (49275, 12, 46, false),
  (49278, 12, 47, false),
  (49281, 12, 48, false),
  (49284, 12, 49, false),
  (49287, 12, 50, false),
  (49290, 12, 52, false),
  (49293, 12, 53, false),
  (49296, 12, 54, false),
  (49299, 12, 57, false),
  (49302, 12, 59, false),
  (49305, 12, 60, false),
  (49308, 12, 61, false),
  (49311, 12, 62, false),
  (49314, 12, 63, false),
  (49317, 12, 64, false),
  (49320, 12, 65, false),
  (49323, 12, 66, false),
  (49326, 12, 67, false),
  (49333, 12, 7, false),
  (49336, 12, 18, false),
  (49346, 12, 0, false),
  (49349, 12, 2, false),
  (49352, 12, 55, false),
  (49355, 12, 56, false),
  (49404, 12, 58, false),
  (49432, 12, 27, false),
  (49439, 12, 31, false),
  (49451, 12, 23, false),
  (49498, 12, 43, false),
  (49501, 12, 45, false),
  (49520, 12, 51, false),
  (49526, 12, 68, false),
  (11, 0, 0, false),
  (15, 0, 1, false)]
def fTab_2 : List (Nat × Nat × Nat × Bool) := [(18, 0, 2, false),
  (21, 0, 3, false),
  (24, 0, 5, false),
  (44, 0, 4, false),
  (4107, 1, 1, false),
  (4111, 1, 2, false),
  (4114, 1, 3, false),
  (4117, 1, 4, false),
  (4120, 1, 5, false),
  (4123, 1, 6, false),
  (4126, 1, 7, false),
  (4129, 1, 0, false),
  (4133, 1, 8, false),
  (4151, 1, 9, false),
  (8201, 2, 0, false),
  (8207, 2, 1, false),
  (8210, 2, 2, false),
  (8213, 2, 3, false),
  (12299, 3, 1, false),
  (12303, 3, 2, false),
  (12306, 3, 3, false),
  (12309, 3, 4, false),
  (12312, 3, 5, false),
  (12315, 3, 6, false),
  (12318, 3, 7, false),
  (12321, 3, 8, false),
  (12324, 3, 0, false),
  (12328, 3, 9, false),
  (12382, 1, 4, true),
  (16395, 4, 7, false),
  (16399, 4, 9, false),
  (16403, 4, 0, false),
  (16407, 4, 1, false),
  (16410, 4, 2, false),
  (16413, 4, 3, false),
  (16416, 4, 4, false),
  (16419, 4, 5, false),
  (16422, 4, 6, false),
  (16425, 4, 10, false),
  (16428, 4, 8, false),
  (20493, 5, 0, false),
  (20499, 5, 1, false),
  (20502, 5, 2, false),
  (20506, 5, 3, false),
  (20509, 5, 4, false),
  (20527, 4, 0, true),
  (20531, 4, 3, true),
  (20558, 9, 4, true),
  (20575, 5, 5, false),
  (20578, 4, 1, true),
  (24589, 6, 0, false),
  (24592, 6, 1, false),
  (24596, 6, 2, false),
  (28681, 7, 0, false),
  (32777, 8, 0, false),
  (32783, 8, 1, false),
  (32786, 8, 2, false),
  (32790, 8, 3, false),
  (36875, 9, 1, false),
  (36879, 9, 2, false)]
def fTab_3 : List (Nat × Nat × Nat × Bool) := [(36882, 9, 3, false),
  (36889, 9, 4, false),
  (36893, 9, 0, false),
  (36902, 9, 6, false),
  (36906, 9, 7, false),
  (36909, 9, 9, false),
  (36912, 9, 5, false),
  (36930, 9, 8, false),
  (40973, 10, 2, false),
  (40977, 10, 3, false),
  (40981, 10, 4, false),
  (40984, 10, 5, false),
  (40987, 10, 6, false),
  (40990, 10, 7, false),
  (40993, 10, 9, false),
  (40996, 10, 10, false),
  (40999, 10, 0, false),
  (41003, 10, 1, false),
  (41039, 10, 8, false),
  (41065, 9, 8, true),
  (41071, 9, 4, true)]
def fTab : List (Nat × Nat × Nat × Bool) := fTab_0 ++ (fTab_1 ++ (fTab_2 ++ (fTab_3)))
def cTab_0 : List (Nat × Nat × Nat × Bool) := [(45071, 230, 2, true),
  (45078, 183, 2, false),
  (45087, 171, 2, true),
  (45094, 204, 2, false),
  (45103, 296, 2, false),
  (45112, 268, 2, true),
  (45119, 197, 2, false),
  (45126, 249, 2, false),
  (45133, 259, 2, true),
  (45140, 279, 2, false),
  (45151, 54, 0, false),
  (45163, 232, 1, false),
  (45167, 280, 1, false),
  (45171, 223, 2, false),
  (45174, 234, 1, false),
  (45178, 231, 1, false),
  (45182, 233, 1, false),
  (45186, 225, 1, false),
  (45190, 226, 1, false),
  (45194, 227, 1, false),
  (45222, 55, 0, false),
  (45228, 262, 1, false),
  (45229, 238, 1, false),
  (45233, 239, 1, false),
  (45237, 185, 1, false),
  (45238, 186, 1, false),
  (45241, 184, 1, false),
  (45245, 191, 1, false),
  (45248, 194, 1, false),
  (45251, 195, 1, false),
  (45255, 193, 1, false),
  (45270, 196, 1, false),
  (45273, 240, 1, false),
  (45277, 52, 0, false),
  (45281, 241, 1, false),
  (45284, 56, 0, false),
  (45287, 172, 1, false),
  (45288, 173, 1, false),
  (45290, 250, 1, false),
  (45291, 251, 1, false),
  (45292, 252, 1, false),
  (45298, 255, 1, false),
  (45301, 258, 1, false),
  (45304, 256, 1, false),
  (45307, 20, 1, false),
  (45310, 174, 1, false),
  (45313, 175, 1, false),
  (45316, 176, 1, false),
  (45319, 177, 1, false),
  (45322, 178, 1, false),
  (45325, 179, 1, false),
  (45328, 242, 1, false),
  (45332, 263, 1, false),
  (45335, 189, 1, false),
  (45338, 51, 1, false),
  (45341, 205, 1, false),
  (45342, 206, 1, false),
  (45343, 207, 1, false),
  (45346, 208, 1, false),
  (45352, 213, 1, false)]
def cTab_1 : List (Nat × Nat × Nat × Bool) := [(45355, 214, 1, false),
  (45358, 209, 1, false),
  (45373, 212, 1, false),
  (45376, 211, 1, false),
  (45379, 192, 1, false),
  (45385, 297, 1, false),
  (45388, 298, 1, false),
  (45390, 299, 1, false),
  (45393, 301, 1, false),
  (45396, 302, 1, false),
  (45399, 303, 1, false),
  (45402, 305, 1, false),
  (45405, 304, 1, false),
  (45408, 269, 1, false),
  (45411, 270, 1, false),
  (45414, 271, 1, false),
  (45417, 272, 1, false),
  (45430, 273, 1, false),
  (45433, 274, 1, false),
  (45436, 275, 1, false),
  (45439, 276, 1, false),
  (45445, 53, 0, false),
  (45452, 198, 1, false),
  (45460, 199, 1, false),
  (45463, 200, 1, false),
  (45466, 243, 1, false),
  (45469, 246, 1, false),
  (45473, 247, 1, false),
  (45476, 248, 1, false),
  (45479, 244, 1, false),
  (45482, 57, 0, false),
  (45488, 210, 1, false),
  (45491, 300, 1, false),
  (45497, 253, 1, false),
  (45500, 254, 1, false),
  (45504, 257, 1, false),
  (45519, 188, 1, false),
  (45521, 264, 1, false),
  (45524, 265, 1, false),
  (49329, 66, 0, false),
  (49339, 71, 0, false),
  (49343, 72, 0, false),
  (49359, 76, 1, false),
  (49363, 77, 1, false),
  (49367, 78, 1, false),
  (49371, 79, 1, false),
  (49375, 81, 1, false),
  (49378, 80, 1, false),
  (49381, 82, 1, false),
  (49384, 73, 0, false),
  (49387, 84, 0, false),
  (49391, 83, 1, false),
  (49394, 68, 1, false),
  (49398, 67, 0, false),
  (49401, 85, 1, false),
  (49407, 91, 1, false),
  (49410, 92, 1, false),
  (49414, 94, 0, false),
  (49418, 93, 1, false),
  (49422, 69, 1, false)]
def cTab_2 : List (Nat × Nat × Nat × Bool) := [(49425, 99, 1, false),
  (49428, 100, 1, false),
  (49435, 103, 1, false),
  (49442, 110, 0, false),
  (49445, 109, 1, false),
  (49448, 111, 1, false),
  (49454, 70, 0, false),
  (49457, 114, 1, false),
  (49460, 117, 0, false),
  (49463, 118, 1, false),
  (49466, 119, 1, false),
  (49469, 124, 1, false),
  (49472, 127, 1, false),
  (49475, 128, 1, false),
  (49478, 129, 1, false),
  (49481, 130, 1, false),
  (49485, 131, 1, false),
  (49488, 132, 1, false),
  (49492, 138, 1, false),
  (49495, 139, 1, false),
  (49504, 145, 1, false),
  (49507, 148, 1, false),
  (49511, 150, 1, false),
  (49514, 151, 1, false),
  (49517, 152, 1, false),
  (49523, 155, 1, false),
  (49529, 156, 1, false),
  (49532, 157, 1, false),
  (49535, 158, 1, false),
  (49538, 159, 1, false),
  (49541, 160, 1, false),
  (49544, 161, 1, false),
  (49547, 162, 1, false),
  (49550, 165, 0, false),
  (28, 182, 1, false),
  (32, 180, 1, false),
  (36, 177, 1, false),
  (40, 59, 0, true),
  (47, 318, 0, false),
  (52, 179, 1, false),
  (55, 319, 0, false),
  (61, 181, 1, false),
  (64, 58, 0, true),
  (67, 61, 0, true),
  (4137, 187, 1, false),
  (4141, 188, 1, false),
  (4145, 238, 1, false),
  (4154, 191, 1, false),
  (8216, 319, 0, false),
  (8223, 202, 1, false),
  (8227, 203, 1, false),
  (8231, 318, 0, false),
  (8236, 199, 1, false),
  (8240, 201, 1, false),
  (12332, 219, 1, false),
  (12336, 215, 1, false),
  (12340, 191, 1, false),
  (12346, 216, 1, false),
  (12350, 212, 1, false),
  (12354, 318, 0, false)]
def cTab_3 : List (Nat × Nat × Nat × Bool) := [(12359, 222, 1, false),
  (12362, 217, 1, false),
  (12366, 221, 1, false),
  (12369, 218, 1, false),
  (12372, 220, 1, false),
  (12375, 205, 1, false),
  (12379, 208, 1, false),
  (16431, 229, 1, false),
  (20513, 319, 0, false),
  (20519, 228, 1, false),
  (20523, 224, 1, false),
  (20534, 281, 1, false),
  (20540, 236, 1, false),
  (20543, 235, 1, false),
  (20547, 63, 0, true),
  (20551, 237, 1, false),
  (20555, 62, 0, true),
  (20562, 262, 1, false),
  (20568, 260, 1, false),
  (20571, 261, 1, false),
  (20581, 57, 0, true),
  (20584, 245, 1, false),
  (20587, 246, 1, false),
  (20591, 247, 1, false),
  (24599, 319, 0, false),
  (24605, 58, 0, true),
  (28687, 320, 0, false),
  (28693, 316, 0, false),
  (28699, 262, 1, false),
  (28703, 264, 1, false),
  (28707, 266, 0, false),
  (28711, 315, 0, false),
  (28716, 267, 0, false),
  (28720, 59, 0, true),
  (32793, 278, 1, false),
  (32797, 274, 1, false),
  (32801, 277, 1, false),
  (32805, 276, 1, false),
  (32808, 315, 0, false),
  (36888, 259, 2, true),
  (36896, 318, 0, false),
  (36916, 282, 1, false),
  (36920, 285, 1, false),
  (36923, 294, 1, false),
  (36926, 262, 1, false),
  (36933, 64, 0, true),
  (36937, 291, 1, false),
  (36943, 292, 1, false),
  (36951, 283, 1, false),
  (36956, 284, 1, false),
  (36959, 293, 1, false),
  (36969, 287, 1, false),
  (36973, 286, 1, false),
  (36982, 289, 0, false),
  (36986, 60, 0, true),
  (36990, 290, 0, false),
  (36993, 288, 0, false),
  (36997, 61, 0, true),
  (37001, 321, 1, false),
  (37007, 322, 1, false)]
def cTab_4 : List (Nat × Nat × Nat × Bool) := [(37009, 260, 1, false),
  (37012, 295, 1, false),
  (37015, 261, 1, false),
  (37019, 59, 0, true),
  (41007, 311, 0, false),
  (41011, 317, 0, false),
  (41016, 312, 1, false),
  (41020, 313, 1, false),
  (41023, 306, 1, false),
  (41026, 63, 0, true),
  (41030, 314, 1, false),
  (41033, 319, 0, false),
  (41043, 308, 1, false),
  (41046, 307, 1, false),
  (41049, 237, 1, false),
  (41054, 281, 1, false),
  (41058, 310, 1, false),
  (41061, 309, 1, false),
  (41068, 64, 0, true),
  (41075, 262, 1, false),
  (41081, 235, 1, false),
  (41085, 190, 1, false),
  (73737, 0, 2, false),
  (73740, 65, 2, false),
  (73741, 1, 1, false),
  (73745, 74, 1, false),
  (73746, 2, 1, false),
  (73750, 75, 1, false),
  (73751, 3, 1, false),
  (73755, 86, 1, false),
  (73756, 4, 1, false),
  (73759, 87, 1, false),
  (73760, 5, 1, false),
  (73763, 88, 1, false),
  (73764, 6, 1, false),
  (73767, 89, 1, false),
  (73768, 7, 1, false),
  (73771, 90, 1, false),
  (73772, 8, 1, false),
  (73776, 95, 1, false),
  (73777, 9, 1, false),
  (73780, 96, 1, false),
  (73781, 10, 1, false),
  (73784, 97, 1, false),
  (73785, 11, 1, false),
  (73788, 98, 1, false),
  (73789, 12, 1, false),
  (73792, 101, 1, false),
  (73793, 13, 1, false),
  (73796, 102, 1, false),
  (73797, 14, 1, false),
  (73801, 104, 1, false),
  (73802, 15, 1, false),
  (73805, 105, 1, false),
  (73806, 16, 1, false),
  (73809, 107, 1, false),
  (73810, 17, 1, false),
  (73813, 108, 1, false),
  (73814, 18, 1, false),
  (73817, 112, 1, false)]
def cTab_5 : List (Nat × Nat × Nat × Bool) := [(73818, 19, 1, false),
  (73821, 113, 1, false),
  (73822, 20, 1, false),
  (73825, 115, 1, false),
  (73826, 21, 1, false),
  (73829, 116, 1, false),
  (73830, 22, 1, false),
  (73833, 120, 1, false),
  (73834, 23, 1, false),
  (73837, 121, 1, false),
  (73838, 24, 1, false),
  (73841, 122, 1, false),
  (73842, 25, 1, false),
  (73845, 123, 1, false),
  (73846, 26, 1, false),
  (73849, 125, 1, false),
  (73850, 27, 1, false),
  (73854, 126, 1, false),
  (73855, 28, 1, false),
  (73858, 106, 1, false),
  (73859, 29, 1, false),
  (73862, 133, 1, false),
  (73863, 30, 1, false),
  (73866, 134, 1, false),
  (73867, 31, 1, false),
  (73870, 135, 1, false),
  (73871, 32, 1, false),
  (73874, 136, 1, false),
  (73875, 33, 1, false),
  (73878, 137, 1, false),
  (73879, 34, 1, false),
  (73882, 140, 1, false),
  (73883, 35, 1, false),
  (73886, 141, 1, false),
  (73887, 36, 1, false),
  (73890, 142, 1, false),
  (73891, 37, 1, false),
  (73895, 143, 1, false),
  (73896, 38, 1, false),
  (73899, 144, 1, false),
  (73900, 39, 1, false),
  (73903, 146, 1, false),
  (73904, 40, 1, false),
  (73907, 147, 1, false),
  (73908, 41, 1, false),
  (73911, 149, 1, false),
  (73912, 42, 1, false),
  (73915, 153, 1, false),
  (73916, 43, 1, false),
  (73919, 154, 1, false),
  (73920, 44, 1, false),
  (73923, 163, 1, false),
  (73924, 45, 1, false),
  (73927, 164, 1, false),
  (73928, 46, 1, false),
  (73931, 166, 1, false),
  (73932, 47, 1, false),
  (73935, 167, 1, false),
  (73936, 48, 1, false),
  (73939, 168, 1, false)]
def cTab_6 : List (Nat × Nat × Nat × Bool) := [(73940, 49, 1, false),
  (73943, 169, 1, false),
  (73944, 50, 1, false),
  (73947, 170, 1, false)]
def cTab : List (Nat × Nat × Nat × Bool) := cTab_0 ++ (cTab_1 ++ (cTab_2 ++ (cTab_3 ++ (cTab_4 ++ (cTab_5 ++ (cTab_6))))))
def nTab_0 : List (Nat × Nat) := [(45069, 5),
  (45076, 1),
  (45085, 0),
  (45092, 3),
  (45101, 10),
  (45110, 8),
  (45117, 2),
  (45124, 6),
  (45131, 7),
  (45138, 9),
  (45161, 4),
  (36886, 7),
  (73735, 11),
  (73738, 12)]
def nTab : List (Nat × Nat) := nTab_0
def aTab_0 : List (Nat × Nat) := [(20491, 103),
  (40971, 104)]
def aTab : List (Nat × Nat) := aTab_0
def uTab_0 : List (Nat × Nat) := [(20497, 105),
  (24587, 105),
  (32781, 105)]
def uTab : List (Nat × Nat) := uTab_0
def lTab_0 : List (Nat × AV) := [(45527, aF 1),
  (45529, aF 2),
  (45531, aF 3),
  (45533, aF 4),
  (45535, aF 5),
  (45537, aF 6),
  (49510, aI (1000000)),
  (8222, aI (1000000)),
  (36941, aF 7),
  (36947, aF 8),
  (36949, aF 9),
  (36954, aF 10),
  (36963, aF 11),
  (36965, aF 12),
  (36967, aF 13),
  (36976, aF 14),
  (36978, aF 15),
  (36980, aF 16),
  (53513, aI (1431655765)),
  (53514, aI (858993459)),
  (53515, aI (252645135)),
  (57658, aL (6148914691236517205)),
  (57660, aL (3689348814741910323)),
  (57662, aL (1085102592571150095))]
def lTab : List (Nat × AV) := lTab_0
def sTab : List (String × Nat × String) := [("OneCode", 471, "what"), ("OneCode", 473, "age"), ("OneCode", 475, "house"), ("OneCode", 477, "kids"), ("OneCode", 479, "oath"), ("OneCode", 481, "goods"), ("OneCode$Text", 77, "void"), ("OneCode$Text", 83, "holds"), ("OneCode$Text", 85, "owed "), ("OneCode$Text", 90, "to "), ("OneCode$Text", 99, " "), ("OneCode$Text", 101, "unless "), ("OneCode$Text", 103, "if "), ("OneCode$Text", 112, "or "), ("OneCode$Text", 114, "and "), ("OneCode$Text", 116, "not ")]
def sBytes : List (List Int) := [[119, 104, 97, 116], [97, 103, 101], [104, 111, 117, 115, 101], [107, 105, 100, 115], [111, 97, 116, 104], [103, 111, 111, 100, 115], [118, 111, 105, 100], [104, 111, 108, 100, 115], [111, 119, 101, 100, 32], [116, 111, 32], [32], [117, 110, 108, 101, 115, 115, 32], [105, 102, 32], [111, 114, 32], [97, 110, 100, 32], [110, 111, 116, 32]]
def mMax : Nat := 317
def mMin : Nat := 318
def mCharAt : Nat := 321
def mLength : Nat := 322
def mLaw : Nat := 323
def oTab : List Nat := [3, 4099, 8193, 12291, 16387, 20483, 24579, 28675, 32769, 36867, 40963, 45057, 49153]
def copyKey : Nat := 45510
def mOK (mi : Nat) : Prop := (plainName (mName mi).cls = true ∨ mi = mMax ∨ mi = mMin) ∧ Cond.code (mName mi) (mBytes mi) (mMaxL mi) (mRet mi) ∈ lw_tbl ∧ Cond.initialized (mName mi).cls ∈ lw_tbl ∧ ((mName mi).cls ≠ "java/lang/invoke/MethodHandle" ∧ (mName mi).cls ≠ "java/lang/invoke/VarHandle") ∧ (parseMethodDescriptor (mName mi).desc).map (fun d => d.parameters.length) = some (mArgs mi) ∧ (mName mi).cls = oName (mOwn mi) ∧ mMaxL mi ≤ 19
def fOK (e : Nat × Nat × Nat × Bool) : Prop := ∃ (o idx : Nat) (C : String) (T : u_T) (N : Nat), e.1 = o * 4096 + idx ∧ idx < 4096 ∧ amCl[e.2.1]? = some (C, T, N) ∧ e.2.2.1 < N ∧ (T e.2.2.1).1 = C ∧ (match e.2.2.2 with
  | false => Cond.fieldLink (oName o) idx C (T e.2.2.1).2.1 (T e.2.2.1).2.2.1 ∈ lw_tbl
  | true => Cond.fieldLinkNest (oName o) idx C (T e.2.2.1).2.1 (T e.2.2.1).2.2.1 RX11 ∈ lw_tbl)
def cOK (e : Nat × Nat × Nat × Bool) : Prop := ∃ (o idx : Nat), e.1 = o * 4096 + idx ∧ idx < 4096 ∧ mOK e.2.1 ∧ (match e.2.2.2 with
  | false => Cond.methodLink (oName o) idx (mName e.2.1) ∈ lw_tbl
  | true => Cond.methodLinkNest (oName o) idx (mName e.2.1) RX11 ∈ lw_tbl) ∧ (match e.2.2.1 with
  | 0 => Cond.static (mName e.2.1) ∈ lw_tbl
  | 1 => Cond.instanceMethod (mName e.2.1) ∈ lw_tbl ∧ Cond.selects (mName e.2.1).cls (mName e.2.1) (mName e.2.1) ∈ lw_tbl
  | _ => Cond.instanceMethod (mName e.2.1) ∈ lw_tbl ∧ (mName e.2.1).name = "<init>" ∧ mRet e.2.1 = none)
def nOK (e : Nat × Nat) : Prop := ∃ (o idx : Nat) (C : String) (T : u_T) (N : Nat), e.1 = o * 4096 + idx ∧ idx < 4096 ∧ amCl[e.2]? = some (C, T, N) ∧ Cond.classLink (oName o) idx C ∈ lw_tbl ∧ Cond.instantiable C N ∈ lw_tbl ∧ Cond.initialized C ∈ lw_tbl
def aOK (e : Nat × Nat) : Prop := ∃ (o idx : Nat), e.1 = o * 4096 + idx ∧ idx < 4096 ∧ ((e.2 = 103 ∧ Cond.classLink (oName o) idx RX4 ∈ lw_tbl) ∨ (e.2 = 104 ∧ Cond.classLink (oName o) idx RX9 ∈ lw_tbl))
def uOK (e : Nat × Nat) : Prop := ∃ (o idx : Nat), e.1 = o * 4096 + idx ∧ idx < 4096 ∧ e.2 = 105 ∧ Cond.classLink (oName o) idx "[[I" ∈ lw_tbl
def lOK (e : Nat × AV) : Prop := ∃ (o idx : Nat), e.1 = o * 4096 + idx ∧ idx < 4096 ∧ ((∃ x : Int, e.2 = aI x ∧ (Int32.ofInt x).toInt = x ∧ Cond.constant (oName o) idx (Int32.ofInt x) ∈ lw_tbl) ∨ (∃ y : Int64, e.2 = aL y ∧ Cond.constantLong (oName o) idx y ∈ lw_tbl) ∨ (∃ (j : Nat) (tx : String), e.2 = aF (j + 1) ∧ sTab[j]? = some (oName o, idx, tx)))
theorem mok_0 : mOK 0 := ⟨Or.inl (by decide +kernel), wd_0, wd_1, ⟨by decide +kernel, by decide +kernel⟩, by decide +kernel, rfl, by decide⟩
theorem mok_1 : mOK 1 := ⟨Or.inl (by decide +kernel), wd_2, wd_1, ⟨by decide +kernel, by decide +kernel⟩, by decide +kernel, rfl, by decide⟩
theorem mok_2 : mOK 2 := ⟨Or.inl (by decide +kernel), wd_3, wd_1, ⟨by decide +kernel, by decide +kernel⟩, by decide +kernel, rfl, by decide⟩
theorem mok_3 : mOK 3 := ⟨Or.inl (by decide +kernel), wd_4, wd_1, ⟨by decide +kernel, by decide +kernel⟩, by decide +kernel, rfl, by decide⟩
theorem mok_4 : mOK 4 := ⟨Or.inl (by decide +kernel), wd_5, wd_1, ⟨by decide +kernel, by decide +kernel⟩, by decide +kernel, rfl, by decide⟩
theorem mok_5 : mOK 5 := ⟨Or.inl (by decide +kernel), wd_6, wd_1, ⟨by decide +kernel, by decide +kernel⟩, by decide +kernel, rfl, by decide⟩
theorem mok_6 : mOK 6 := ⟨Or.inl (by decide +kernel), wd_7, wd_1, ⟨by decide +kernel, by decide +kernel⟩, by decide +kernel, rfl, by decide⟩
theorem mok_7 : mOK 7 := ⟨Or.inl (by decide +kernel), wd_8, wd_1, ⟨by decide +kernel, by decide +kernel⟩, by decide +kernel, rfl, by decide⟩
theorem mok_8 : mOK 8 := ⟨Or.inl (by decide +kernel), wd_9, wd_1, ⟨by decide +kernel, by decide +kernel⟩, by decide +kernel, rfl, by decide⟩
theorem mok_9 : mOK 9 := ⟨Or.inl (by decide +kernel), wd_10, wd_1, ⟨by decide +kernel, by decide +kernel⟩, by decide +kernel, rfl, by decide⟩
theorem mok_10 : mOK 10 := ⟨Or.inl (by decide +kernel), wd_11, wd_1, ⟨by decide +kernel, by decide +kernel⟩, by decide +kernel, rfl, by decide⟩
theorem mok_11 : mOK 11 := ⟨Or.inl (by decide +kernel), wd_12, wd_1, ⟨by decide +kernel, by decide +kernel⟩, by decide +kernel, rfl, by decide⟩
theorem mok_12 : mOK 12 := ⟨Or.inl (by decide +kernel), wd_13, wd_1, ⟨by decide +kernel, by decide +kernel⟩, by decide +kernel, rfl, by decide⟩
theorem mok_13 : mOK 13 := ⟨Or.inl (by decide +kernel), wd_14, wd_1, ⟨by decide +kernel, by decide +kernel⟩, by decide +kernel, rfl, by decide⟩
theorem mok_14 : mOK 14 := ⟨Or.inl (by decide +kernel), wd_15, wd_1, ⟨by decide +kernel, by decide +kernel⟩, by decide +kernel, rfl, by decide⟩
theorem mok_15 : mOK 15 := ⟨Or.inl (by decide +kernel), wd_16, wd_1, ⟨by decide +kernel, by decide +kernel⟩, by decide +kernel, rfl, by decide⟩
theorem mok_16 : mOK 16 := ⟨Or.inl (by decide +kernel), wd_17, wd_1, ⟨by decide +kernel, by decide +kernel⟩, by decide +kernel, rfl, by decide⟩
theorem mok_17 : mOK 17 := ⟨Or.inl (by decide +kernel), wd_18, wd_1, ⟨by decide +kernel, by decide +kernel⟩, by decide +kernel, rfl, by decide⟩
theorem mok_18 : mOK 18 := ⟨Or.inl (by decide +kernel), wd_19, wd_1, ⟨by decide +kernel, by decide +kernel⟩, by decide +kernel, rfl, by decide⟩
theorem mok_19 : mOK 19 := ⟨Or.inl (by decide +kernel), wd_20, wd_1, ⟨by decide +kernel, by decide +kernel⟩, by decide +kernel, rfl, by decide⟩
theorem mok_20 : mOK 20 := ⟨Or.inl (by decide +kernel), wd_21, wd_1, ⟨by decide +kernel, by decide +kernel⟩, by decide +kernel, rfl, by decide⟩
theorem mok_21 : mOK 21 := ⟨Or.inl (by decide +kernel), wd_22, wd_1, ⟨by decide +kernel, by decide +kernel⟩, by decide +kernel, rfl, by decide⟩
theorem mok_22 : mOK 22 := ⟨Or.inl (by decide +kernel), wd_23, wd_1, ⟨by decide +kernel, by decide +kernel⟩, by decide +kernel, rfl, by decide⟩
theorem mok_23 : mOK 23 := ⟨Or.inl (by decide +kernel), wd_24, wd_1, ⟨by decide +kernel, by decide +kernel⟩, by decide +kernel, rfl, by decide⟩
theorem mok_24 : mOK 24 := ⟨Or.inl (by decide +kernel), wd_25, wd_1, ⟨by decide +kernel, by decide +kernel⟩, by decide +kernel, rfl, by decide⟩
theorem mok_25 : mOK 25 := ⟨Or.inl (by decide +kernel), wd_26, wd_1, ⟨by decide +kernel, by decide +kernel⟩, by decide +kernel, rfl, by decide⟩
theorem mok_26 : mOK 26 := ⟨Or.inl (by decide +kernel), wd_27, wd_1, ⟨by decide +kernel, by decide +kernel⟩, by decide +kernel, rfl, by decide⟩
theorem mok_27 : mOK 27 := ⟨Or.inl (by decide +kernel), wd_28, wd_1, ⟨by decide +kernel, by decide +kernel⟩, by decide +kernel, rfl, by decide⟩
theorem mok_28 : mOK 28 := ⟨Or.inl (by decide +kernel), wd_29, wd_1, ⟨by decide +kernel, by decide +kernel⟩, by decide +kernel, rfl, by decide⟩
theorem mok_29 : mOK 29 := ⟨Or.inl (by decide +kernel), wd_30, wd_1, ⟨by decide +kernel, by decide +kernel⟩, by decide +kernel, rfl, by decide⟩
theorem mok_30 : mOK 30 := ⟨Or.inl (by decide +kernel), wd_31, wd_1, ⟨by decide +kernel, by decide +kernel⟩, by decide +kernel, rfl, by decide⟩
theorem mok_31 : mOK 31 := ⟨Or.inl (by decide +kernel), wd_32, wd_1, ⟨by decide +kernel, by decide +kernel⟩, by decide +kernel, rfl, by decide⟩
theorem mok_32 : mOK 32 := ⟨Or.inl (by decide +kernel), wd_33, wd_1, ⟨by decide +kernel, by decide +kernel⟩, by decide +kernel, rfl, by decide⟩
theorem mok_33 : mOK 33 := ⟨Or.inl (by decide +kernel), wd_34, wd_1, ⟨by decide +kernel, by decide +kernel⟩, by decide +kernel, rfl, by decide⟩
theorem mok_34 : mOK 34 := ⟨Or.inl (by decide +kernel), wd_35, wd_1, ⟨by decide +kernel, by decide +kernel⟩, by decide +kernel, rfl, by decide⟩
theorem mok_35 : mOK 35 := ⟨Or.inl (by decide +kernel), wd_36, wd_1, ⟨by decide +kernel, by decide +kernel⟩, by decide +kernel, rfl, by decide⟩
theorem mok_36 : mOK 36 := ⟨Or.inl (by decide +kernel), wd_37, wd_1, ⟨by decide +kernel, by decide +kernel⟩, by decide +kernel, rfl, by decide⟩
theorem mok_37 : mOK 37 := ⟨Or.inl (by decide +kernel), wd_38, wd_1, ⟨by decide +kernel, by decide +kernel⟩, by decide +kernel, rfl, by decide⟩
theorem mok_38 : mOK 38 := ⟨Or.inl (by decide +kernel), wd_39, wd_1, ⟨by decide +kernel, by decide +kernel⟩, by decide +kernel, rfl, by decide⟩
theorem mok_39 : mOK 39 := ⟨Or.inl (by decide +kernel), wd_40, wd_1, ⟨by decide +kernel, by decide +kernel⟩, by decide +kernel, rfl, by decide⟩
theorem mok_40 : mOK 40 := ⟨Or.inl (by decide +kernel), wd_41, wd_1, ⟨by decide +kernel, by decide +kernel⟩, by decide +kernel, rfl, by decide⟩
theorem mok_41 : mOK 41 := ⟨Or.inl (by decide +kernel), wd_42, wd_1, ⟨by decide +kernel, by decide +kernel⟩, by decide +kernel, rfl, by decide⟩
theorem mok_42 : mOK 42 := ⟨Or.inl (by decide +kernel), wd_43, wd_1, ⟨by decide +kernel, by decide +kernel⟩, by decide +kernel, rfl, by decide⟩
theorem mok_43 : mOK 43 := ⟨Or.inl (by decide +kernel), wd_44, wd_1, ⟨by decide +kernel, by decide +kernel⟩, by decide +kernel, rfl, by decide⟩
theorem mok_44 : mOK 44 := ⟨Or.inl (by decide +kernel), wd_45, wd_1, ⟨by decide +kernel, by decide +kernel⟩, by decide +kernel, rfl, by decide⟩
theorem mok_45 : mOK 45 := ⟨Or.inl (by decide +kernel), wd_46, wd_1, ⟨by decide +kernel, by decide +kernel⟩, by decide +kernel, rfl, by decide⟩
theorem mok_46 : mOK 46 := ⟨Or.inl (by decide +kernel), wd_47, wd_1, ⟨by decide +kernel, by decide +kernel⟩, by decide +kernel, rfl, by decide⟩
theorem mok_47 : mOK 47 := ⟨Or.inl (by decide +kernel), wd_48, wd_1, ⟨by decide +kernel, by decide +kernel⟩, by decide +kernel, rfl, by decide⟩
theorem mok_48 : mOK 48 := ⟨Or.inl (by decide +kernel), wd_49, wd_1, ⟨by decide +kernel, by decide +kernel⟩, by decide +kernel, rfl, by decide⟩
theorem mok_49 : mOK 49 := ⟨Or.inl (by decide +kernel), wd_50, wd_1, ⟨by decide +kernel, by decide +kernel⟩, by decide +kernel, rfl, by decide⟩
theorem mok_50 : mOK 50 := ⟨Or.inl (by decide +kernel), wd_51, wd_1, ⟨by decide +kernel, by decide +kernel⟩, by decide +kernel, rfl, by decide⟩
theorem mok_51 : mOK 51 := ⟨Or.inl (by decide +kernel), wd_52, wd_1, ⟨by decide +kernel, by decide +kernel⟩, by decide +kernel, rfl, by decide⟩
theorem mok_52 : mOK 52 := ⟨Or.inl (by decide +kernel), wd_53, wd_1, ⟨by decide +kernel, by decide +kernel⟩, by decide +kernel, rfl, by decide⟩
theorem mok_53 : mOK 53 := ⟨Or.inl (by decide +kernel), wd_54, wd_1, ⟨by decide +kernel, by decide +kernel⟩, by decide +kernel, rfl, by decide⟩
theorem mok_54 : mOK 54 := ⟨Or.inl (by decide +kernel), wd_55, wd_1, ⟨by decide +kernel, by decide +kernel⟩, by decide +kernel, rfl, by decide⟩
theorem mok_55 : mOK 55 := ⟨Or.inl (by decide +kernel), wd_56, wd_1, ⟨by decide +kernel, by decide +kernel⟩, by decide +kernel, rfl, by decide⟩
theorem mok_56 : mOK 56 := ⟨Or.inl (by decide +kernel), wd_57, wd_1, ⟨by decide +kernel, by decide +kernel⟩, by decide +kernel, rfl, by decide⟩
theorem mok_57 : mOK 57 := ⟨Or.inl (by decide +kernel), wd_58, wd_1, ⟨by decide +kernel, by decide +kernel⟩, by decide +kernel, rfl, by decide⟩
theorem mok_58 : mOK 58 := ⟨Or.inl (by decide +kernel), wd_59, wd_1, ⟨by decide +kernel, by decide +kernel⟩, by decide +kernel, rfl, by decide⟩
theorem mok_59 : mOK 59 := ⟨Or.inl (by decide +kernel), wd_60, wd_1, ⟨by decide +kernel, by decide +kernel⟩, by decide +kernel, rfl, by decide⟩
theorem mok_60 : mOK 60 := ⟨Or.inl (by decide +kernel), wd_61, wd_1, ⟨by decide +kernel, by decide +kernel⟩, by decide +kernel, rfl, by decide⟩
theorem mok_61 : mOK 61 := ⟨Or.inl (by decide +kernel), wd_62, wd_1, ⟨by decide +kernel, by decide +kernel⟩, by decide +kernel, rfl, by decide⟩
theorem mok_62 : mOK 62 := ⟨Or.inl (by decide +kernel), wd_63, wd_1, ⟨by decide +kernel, by decide +kernel⟩, by decide +kernel, rfl, by decide⟩
theorem mok_63 : mOK 63 := ⟨Or.inl (by decide +kernel), wd_64, wd_1, ⟨by decide +kernel, by decide +kernel⟩, by decide +kernel, rfl, by decide⟩
theorem mok_64 : mOK 64 := ⟨Or.inl (by decide +kernel), wd_65, wd_1, ⟨by decide +kernel, by decide +kernel⟩, by decide +kernel, rfl, by decide⟩
theorem mok_65 : mOK 65 := ⟨Or.inl (by decide +kernel), wd_66, wd_67, ⟨by decide +kernel, by decide +kernel⟩, by decide +kernel, rfl, by decide⟩
theorem mok_66 : mOK 66 := ⟨Or.inl (by decide +kernel), wd_68, wd_67, ⟨by decide +kernel, by decide +kernel⟩, by decide +kernel, rfl, by decide⟩
theorem mok_67 : mOK 67 := ⟨Or.inl (by decide +kernel), wd_69, wd_67, ⟨by decide +kernel, by decide +kernel⟩, by decide +kernel, rfl, by decide⟩
theorem mok_68 : mOK 68 := ⟨Or.inl (by decide +kernel), wd_70, wd_67, ⟨by decide +kernel, by decide +kernel⟩, by decide +kernel, rfl, by decide⟩
theorem mok_69 : mOK 69 := ⟨Or.inl (by decide +kernel), wd_71, wd_67, ⟨by decide +kernel, by decide +kernel⟩, by decide +kernel, rfl, by decide⟩
theorem mok_70 : mOK 70 := ⟨Or.inl (by decide +kernel), wd_72, wd_67, ⟨by decide +kernel, by decide +kernel⟩, by decide +kernel, rfl, by decide⟩
theorem mok_71 : mOK 71 := ⟨Or.inl (by decide +kernel), wd_73, wd_67, ⟨by decide +kernel, by decide +kernel⟩, by decide +kernel, rfl, by decide⟩
theorem mok_72 : mOK 72 := ⟨Or.inl (by decide +kernel), wd_74, wd_67, ⟨by decide +kernel, by decide +kernel⟩, by decide +kernel, rfl, by decide⟩
theorem mok_73 : mOK 73 := ⟨Or.inl (by decide +kernel), wd_75, wd_67, ⟨by decide +kernel, by decide +kernel⟩, by decide +kernel, rfl, by decide⟩
theorem mok_74 : mOK 74 := ⟨Or.inl (by decide +kernel), wd_76, wd_67, ⟨by decide +kernel, by decide +kernel⟩, by decide +kernel, rfl, by decide⟩
theorem mok_75 : mOK 75 := ⟨Or.inl (by decide +kernel), wd_77, wd_67, ⟨by decide +kernel, by decide +kernel⟩, by decide +kernel, rfl, by decide⟩
theorem mok_76 : mOK 76 := ⟨Or.inl (by decide +kernel), wd_78, wd_67, ⟨by decide +kernel, by decide +kernel⟩, by decide +kernel, rfl, by decide⟩
theorem mok_77 : mOK 77 := ⟨Or.inl (by decide +kernel), wd_79, wd_67, ⟨by decide +kernel, by decide +kernel⟩, by decide +kernel, rfl, by decide⟩
theorem mok_78 : mOK 78 := ⟨Or.inl (by decide +kernel), wd_80, wd_67, ⟨by decide +kernel, by decide +kernel⟩, by decide +kernel, rfl, by decide⟩
theorem mok_79 : mOK 79 := ⟨Or.inl (by decide +kernel), wd_81, wd_67, ⟨by decide +kernel, by decide +kernel⟩, by decide +kernel, rfl, by decide⟩
theorem mok_80 : mOK 80 := ⟨Or.inl (by decide +kernel), wd_82, wd_67, ⟨by decide +kernel, by decide +kernel⟩, by decide +kernel, rfl, by decide⟩
theorem mok_81 : mOK 81 := ⟨Or.inl (by decide +kernel), wd_83, wd_67, ⟨by decide +kernel, by decide +kernel⟩, by decide +kernel, rfl, by decide⟩
theorem mok_82 : mOK 82 := ⟨Or.inl (by decide +kernel), wd_84, wd_67, ⟨by decide +kernel, by decide +kernel⟩, by decide +kernel, rfl, by decide⟩
theorem mok_83 : mOK 83 := ⟨Or.inl (by decide +kernel), wd_85, wd_67, ⟨by decide +kernel, by decide +kernel⟩, by decide +kernel, rfl, by decide⟩
theorem mok_84 : mOK 84 := ⟨Or.inl (by decide +kernel), wd_86, wd_67, ⟨by decide +kernel, by decide +kernel⟩, by decide +kernel, rfl, by decide⟩
theorem mok_85 : mOK 85 := ⟨Or.inl (by decide +kernel), wd_87, wd_67, ⟨by decide +kernel, by decide +kernel⟩, by decide +kernel, rfl, by decide⟩
theorem mok_86 : mOK 86 := ⟨Or.inl (by decide +kernel), wd_88, wd_67, ⟨by decide +kernel, by decide +kernel⟩, by decide +kernel, rfl, by decide⟩
theorem mok_87 : mOK 87 := ⟨Or.inl (by decide +kernel), wd_89, wd_67, ⟨by decide +kernel, by decide +kernel⟩, by decide +kernel, rfl, by decide⟩
theorem mok_88 : mOK 88 := ⟨Or.inl (by decide +kernel), wd_90, wd_67, ⟨by decide +kernel, by decide +kernel⟩, by decide +kernel, rfl, by decide⟩
theorem mok_89 : mOK 89 := ⟨Or.inl (by decide +kernel), wd_91, wd_67, ⟨by decide +kernel, by decide +kernel⟩, by decide +kernel, rfl, by decide⟩
theorem mok_90 : mOK 90 := ⟨Or.inl (by decide +kernel), wd_92, wd_67, ⟨by decide +kernel, by decide +kernel⟩, by decide +kernel, rfl, by decide⟩
theorem mok_91 : mOK 91 := ⟨Or.inl (by decide +kernel), wd_93, wd_67, ⟨by decide +kernel, by decide +kernel⟩, by decide +kernel, rfl, by decide⟩
theorem mok_92 : mOK 92 := ⟨Or.inl (by decide +kernel), wd_94, wd_67, ⟨by decide +kernel, by decide +kernel⟩, by decide +kernel, rfl, by decide⟩
theorem mok_93 : mOK 93 := ⟨Or.inl (by decide +kernel), wd_95, wd_67, ⟨by decide +kernel, by decide +kernel⟩, by decide +kernel, rfl, by decide⟩
theorem mok_94 : mOK 94 := ⟨Or.inl (by decide +kernel), wd_96, wd_67, ⟨by decide +kernel, by decide +kernel⟩, by decide +kernel, rfl, by decide⟩
theorem mok_95 : mOK 95 := ⟨Or.inl (by decide +kernel), wd_97, wd_67, ⟨by decide +kernel, by decide +kernel⟩, by decide +kernel, rfl, by decide⟩
theorem mok_96 : mOK 96 := ⟨Or.inl (by decide +kernel), wd_98, wd_67, ⟨by decide +kernel, by decide +kernel⟩, by decide +kernel, rfl, by decide⟩
theorem mok_97 : mOK 97 := ⟨Or.inl (by decide +kernel), wd_99, wd_67, ⟨by decide +kernel, by decide +kernel⟩, by decide +kernel, rfl, by decide⟩
theorem mok_98 : mOK 98 := ⟨Or.inl (by decide +kernel), wd_100, wd_67, ⟨by decide +kernel, by decide +kernel⟩, by decide +kernel, rfl, by decide⟩
theorem mok_99 : mOK 99 := ⟨Or.inl (by decide +kernel), wd_101, wd_67, ⟨by decide +kernel, by decide +kernel⟩, by decide +kernel, rfl, by decide⟩
theorem mok_100 : mOK 100 := ⟨Or.inl (by decide +kernel), wd_102, wd_67, ⟨by decide +kernel, by decide +kernel⟩, by decide +kernel, rfl, by decide⟩
theorem mok_101 : mOK 101 := ⟨Or.inl (by decide +kernel), wd_103, wd_67, ⟨by decide +kernel, by decide +kernel⟩, by decide +kernel, rfl, by decide⟩
theorem mok_102 : mOK 102 := ⟨Or.inl (by decide +kernel), wd_104, wd_67, ⟨by decide +kernel, by decide +kernel⟩, by decide +kernel, rfl, by decide⟩
theorem mok_103 : mOK 103 := ⟨Or.inl (by decide +kernel), wd_105, wd_67, ⟨by decide +kernel, by decide +kernel⟩, by decide +kernel, rfl, by decide⟩
theorem mok_104 : mOK 104 := ⟨Or.inl (by decide +kernel), wd_106, wd_67, ⟨by decide +kernel, by decide +kernel⟩, by decide +kernel, rfl, by decide⟩
theorem mok_105 : mOK 105 := ⟨Or.inl (by decide +kernel), wd_107, wd_67, ⟨by decide +kernel, by decide +kernel⟩, by decide +kernel, rfl, by decide⟩
theorem mok_106 : mOK 106 := ⟨Or.inl (by decide +kernel), wd_108, wd_67, ⟨by decide +kernel, by decide +kernel⟩, by decide +kernel, rfl, by decide⟩
theorem mok_107 : mOK 107 := ⟨Or.inl (by decide +kernel), wd_109, wd_67, ⟨by decide +kernel, by decide +kernel⟩, by decide +kernel, rfl, by decide⟩
theorem mok_108 : mOK 108 := ⟨Or.inl (by decide +kernel), wd_110, wd_67, ⟨by decide +kernel, by decide +kernel⟩, by decide +kernel, rfl, by decide⟩
theorem mok_109 : mOK 109 := ⟨Or.inl (by decide +kernel), wd_111, wd_67, ⟨by decide +kernel, by decide +kernel⟩, by decide +kernel, rfl, by decide⟩
theorem mok_110 : mOK 110 := ⟨Or.inl (by decide +kernel), wd_112, wd_67, ⟨by decide +kernel, by decide +kernel⟩, by decide +kernel, rfl, by decide⟩
theorem mok_111 : mOK 111 := ⟨Or.inl (by decide +kernel), wd_113, wd_67, ⟨by decide +kernel, by decide +kernel⟩, by decide +kernel, rfl, by decide⟩
theorem mok_112 : mOK 112 := ⟨Or.inl (by decide +kernel), wd_114, wd_67, ⟨by decide +kernel, by decide +kernel⟩, by decide +kernel, rfl, by decide⟩
theorem mok_113 : mOK 113 := ⟨Or.inl (by decide +kernel), wd_115, wd_67, ⟨by decide +kernel, by decide +kernel⟩, by decide +kernel, rfl, by decide⟩
theorem mok_114 : mOK 114 := ⟨Or.inl (by decide +kernel), wd_116, wd_67, ⟨by decide +kernel, by decide +kernel⟩, by decide +kernel, rfl, by decide⟩
theorem mok_115 : mOK 115 := ⟨Or.inl (by decide +kernel), wd_117, wd_67, ⟨by decide +kernel, by decide +kernel⟩, by decide +kernel, rfl, by decide⟩
theorem mok_116 : mOK 116 := ⟨Or.inl (by decide +kernel), wd_118, wd_67, ⟨by decide +kernel, by decide +kernel⟩, by decide +kernel, rfl, by decide⟩
theorem mok_117 : mOK 117 := ⟨Or.inl (by decide +kernel), wd_119, wd_67, ⟨by decide +kernel, by decide +kernel⟩, by decide +kernel, rfl, by decide⟩
theorem mok_118 : mOK 118 := ⟨Or.inl (by decide +kernel), wd_120, wd_67, ⟨by decide +kernel, by decide +kernel⟩, by decide +kernel, rfl, by decide⟩
theorem mok_119 : mOK 119 := ⟨Or.inl (by decide +kernel), wd_121, wd_67, ⟨by decide +kernel, by decide +kernel⟩, by decide +kernel, rfl, by decide⟩
theorem mok_120 : mOK 120 := ⟨Or.inl (by decide +kernel), wd_122, wd_67, ⟨by decide +kernel, by decide +kernel⟩, by decide +kernel, rfl, by decide⟩
theorem mok_121 : mOK 121 := ⟨Or.inl (by decide +kernel), wd_123, wd_67, ⟨by decide +kernel, by decide +kernel⟩, by decide +kernel, rfl, by decide⟩
theorem mok_122 : mOK 122 := ⟨Or.inl (by decide +kernel), wd_124, wd_67, ⟨by decide +kernel, by decide +kernel⟩, by decide +kernel, rfl, by decide⟩
theorem mok_123 : mOK 123 := ⟨Or.inl (by decide +kernel), wd_125, wd_67, ⟨by decide +kernel, by decide +kernel⟩, by decide +kernel, rfl, by decide⟩
theorem mok_124 : mOK 124 := ⟨Or.inl (by decide +kernel), wd_126, wd_67, ⟨by decide +kernel, by decide +kernel⟩, by decide +kernel, rfl, by decide⟩
theorem mok_125 : mOK 125 := ⟨Or.inl (by decide +kernel), wd_127, wd_67, ⟨by decide +kernel, by decide +kernel⟩, by decide +kernel, rfl, by decide⟩
theorem mok_126 : mOK 126 := ⟨Or.inl (by decide +kernel), wd_128, wd_67, ⟨by decide +kernel, by decide +kernel⟩, by decide +kernel, rfl, by decide⟩
theorem mok_127 : mOK 127 := ⟨Or.inl (by decide +kernel), wd_129, wd_67, ⟨by decide +kernel, by decide +kernel⟩, by decide +kernel, rfl, by decide⟩
theorem mok_128 : mOK 128 := ⟨Or.inl (by decide +kernel), wd_130, wd_67, ⟨by decide +kernel, by decide +kernel⟩, by decide +kernel, rfl, by decide⟩
theorem mok_129 : mOK 129 := ⟨Or.inl (by decide +kernel), wd_131, wd_67, ⟨by decide +kernel, by decide +kernel⟩, by decide +kernel, rfl, by decide⟩
theorem mok_130 : mOK 130 := ⟨Or.inl (by decide +kernel), wd_132, wd_67, ⟨by decide +kernel, by decide +kernel⟩, by decide +kernel, rfl, by decide⟩
theorem mok_131 : mOK 131 := ⟨Or.inl (by decide +kernel), wd_133, wd_67, ⟨by decide +kernel, by decide +kernel⟩, by decide +kernel, rfl, by decide⟩
theorem mok_132 : mOK 132 := ⟨Or.inl (by decide +kernel), wd_134, wd_67, ⟨by decide +kernel, by decide +kernel⟩, by decide +kernel, rfl, by decide⟩
theorem mok_133 : mOK 133 := ⟨Or.inl (by decide +kernel), wd_135, wd_67, ⟨by decide +kernel, by decide +kernel⟩, by decide +kernel, rfl, by decide⟩
theorem mok_134 : mOK 134 := ⟨Or.inl (by decide +kernel), wd_136, wd_67, ⟨by decide +kernel, by decide +kernel⟩, by decide +kernel, rfl, by decide⟩
theorem mok_135 : mOK 135 := ⟨Or.inl (by decide +kernel), wd_137, wd_67, ⟨by decide +kernel, by decide +kernel⟩, by decide +kernel, rfl, by decide⟩
theorem mok_136 : mOK 136 := ⟨Or.inl (by decide +kernel), wd_138, wd_67, ⟨by decide +kernel, by decide +kernel⟩, by decide +kernel, rfl, by decide⟩
theorem mok_137 : mOK 137 := ⟨Or.inl (by decide +kernel), wd_139, wd_67, ⟨by decide +kernel, by decide +kernel⟩, by decide +kernel, rfl, by decide⟩
theorem mok_138 : mOK 138 := ⟨Or.inl (by decide +kernel), wd_140, wd_67, ⟨by decide +kernel, by decide +kernel⟩, by decide +kernel, rfl, by decide⟩
theorem mok_139 : mOK 139 := ⟨Or.inl (by decide +kernel), wd_141, wd_67, ⟨by decide +kernel, by decide +kernel⟩, by decide +kernel, rfl, by decide⟩
theorem mok_140 : mOK 140 := ⟨Or.inl (by decide +kernel), wd_142, wd_67, ⟨by decide +kernel, by decide +kernel⟩, by decide +kernel, rfl, by decide⟩
theorem mok_141 : mOK 141 := ⟨Or.inl (by decide +kernel), wd_143, wd_67, ⟨by decide +kernel, by decide +kernel⟩, by decide +kernel, rfl, by decide⟩
theorem mok_142 : mOK 142 := ⟨Or.inl (by decide +kernel), wd_144, wd_67, ⟨by decide +kernel, by decide +kernel⟩, by decide +kernel, rfl, by decide⟩
theorem mok_143 : mOK 143 := ⟨Or.inl (by decide +kernel), wd_145, wd_67, ⟨by decide +kernel, by decide +kernel⟩, by decide +kernel, rfl, by decide⟩
theorem mok_144 : mOK 144 := ⟨Or.inl (by decide +kernel), wd_146, wd_67, ⟨by decide +kernel, by decide +kernel⟩, by decide +kernel, rfl, by decide⟩
theorem mok_145 : mOK 145 := ⟨Or.inl (by decide +kernel), wd_147, wd_67, ⟨by decide +kernel, by decide +kernel⟩, by decide +kernel, rfl, by decide⟩
theorem mok_146 : mOK 146 := ⟨Or.inl (by decide +kernel), wd_148, wd_67, ⟨by decide +kernel, by decide +kernel⟩, by decide +kernel, rfl, by decide⟩
theorem mok_147 : mOK 147 := ⟨Or.inl (by decide +kernel), wd_149, wd_67, ⟨by decide +kernel, by decide +kernel⟩, by decide +kernel, rfl, by decide⟩
theorem mok_148 : mOK 148 := ⟨Or.inl (by decide +kernel), wd_150, wd_67, ⟨by decide +kernel, by decide +kernel⟩, by decide +kernel, rfl, by decide⟩
theorem mok_149 : mOK 149 := ⟨Or.inl (by decide +kernel), wd_151, wd_67, ⟨by decide +kernel, by decide +kernel⟩, by decide +kernel, rfl, by decide⟩
theorem mok_150 : mOK 150 := ⟨Or.inl (by decide +kernel), wd_152, wd_67, ⟨by decide +kernel, by decide +kernel⟩, by decide +kernel, rfl, by decide⟩
theorem mok_151 : mOK 151 := ⟨Or.inl (by decide +kernel), wd_153, wd_67, ⟨by decide +kernel, by decide +kernel⟩, by decide +kernel, rfl, by decide⟩
theorem mok_152 : mOK 152 := ⟨Or.inl (by decide +kernel), wd_154, wd_67, ⟨by decide +kernel, by decide +kernel⟩, by decide +kernel, rfl, by decide⟩
theorem mok_153 : mOK 153 := ⟨Or.inl (by decide +kernel), wd_155, wd_67, ⟨by decide +kernel, by decide +kernel⟩, by decide +kernel, rfl, by decide⟩
theorem mok_154 : mOK 154 := ⟨Or.inl (by decide +kernel), wd_156, wd_67, ⟨by decide +kernel, by decide +kernel⟩, by decide +kernel, rfl, by decide⟩
theorem mok_155 : mOK 155 := ⟨Or.inl (by decide +kernel), wd_157, wd_67, ⟨by decide +kernel, by decide +kernel⟩, by decide +kernel, rfl, by decide⟩
theorem mok_156 : mOK 156 := ⟨Or.inl (by decide +kernel), wd_158, wd_67, ⟨by decide +kernel, by decide +kernel⟩, by decide +kernel, rfl, by decide⟩
theorem mok_157 : mOK 157 := ⟨Or.inl (by decide +kernel), wd_159, wd_67, ⟨by decide +kernel, by decide +kernel⟩, by decide +kernel, rfl, by decide⟩
theorem mok_158 : mOK 158 := ⟨Or.inl (by decide +kernel), wd_160, wd_67, ⟨by decide +kernel, by decide +kernel⟩, by decide +kernel, rfl, by decide⟩
theorem mok_159 : mOK 159 := ⟨Or.inl (by decide +kernel), wd_161, wd_67, ⟨by decide +kernel, by decide +kernel⟩, by decide +kernel, rfl, by decide⟩
theorem mok_160 : mOK 160 := ⟨Or.inl (by decide +kernel), wd_162, wd_67, ⟨by decide +kernel, by decide +kernel⟩, by decide +kernel, rfl, by decide⟩
theorem mok_161 : mOK 161 := ⟨Or.inl (by decide +kernel), wd_163, wd_67, ⟨by decide +kernel, by decide +kernel⟩, by decide +kernel, rfl, by decide⟩
theorem mok_162 : mOK 162 := ⟨Or.inl (by decide +kernel), wd_164, wd_67, ⟨by decide +kernel, by decide +kernel⟩, by decide +kernel, rfl, by decide⟩
theorem mok_163 : mOK 163 := ⟨Or.inl (by decide +kernel), wd_165, wd_67, ⟨by decide +kernel, by decide +kernel⟩, by decide +kernel, rfl, by decide⟩
theorem mok_164 : mOK 164 := ⟨Or.inl (by decide +kernel), wd_166, wd_67, ⟨by decide +kernel, by decide +kernel⟩, by decide +kernel, rfl, by decide⟩
theorem mok_165 : mOK 165 := ⟨Or.inl (by decide +kernel), wd_167, wd_67, ⟨by decide +kernel, by decide +kernel⟩, by decide +kernel, rfl, by decide⟩
theorem mok_166 : mOK 166 := ⟨Or.inl (by decide +kernel), wd_168, wd_67, ⟨by decide +kernel, by decide +kernel⟩, by decide +kernel, rfl, by decide⟩
theorem mok_167 : mOK 167 := ⟨Or.inl (by decide +kernel), wd_169, wd_67, ⟨by decide +kernel, by decide +kernel⟩, by decide +kernel, rfl, by decide⟩
theorem mok_168 : mOK 168 := ⟨Or.inl (by decide +kernel), wd_170, wd_67, ⟨by decide +kernel, by decide +kernel⟩, by decide +kernel, rfl, by decide⟩
theorem mok_169 : mOK 169 := ⟨Or.inl (by decide +kernel), wd_171, wd_67, ⟨by decide +kernel, by decide +kernel⟩, by decide +kernel, rfl, by decide⟩
theorem mok_170 : mOK 170 := ⟨Or.inl (by decide +kernel), wd_172, wd_67, ⟨by decide +kernel, by decide +kernel⟩, by decide +kernel, rfl, by decide⟩
theorem mok_171 : mOK 171 := ⟨Or.inl (by decide +kernel), wd_173, wd_174, ⟨by decide +kernel, by decide +kernel⟩, by decide +kernel, rfl, by decide⟩
theorem mok_172 : mOK 172 := ⟨Or.inl (by decide +kernel), wd_175, wd_174, ⟨by decide +kernel, by decide +kernel⟩, by decide +kernel, rfl, by decide⟩
theorem mok_173 : mOK 173 := ⟨Or.inl (by decide +kernel), wd_176, wd_174, ⟨by decide +kernel, by decide +kernel⟩, by decide +kernel, rfl, by decide⟩
theorem mok_174 : mOK 174 := ⟨Or.inl (by decide +kernel), wd_177, wd_174, ⟨by decide +kernel, by decide +kernel⟩, by decide +kernel, rfl, by decide⟩
theorem mok_175 : mOK 175 := ⟨Or.inl (by decide +kernel), wd_178, wd_174, ⟨by decide +kernel, by decide +kernel⟩, by decide +kernel, rfl, by decide⟩
theorem mok_176 : mOK 176 := ⟨Or.inl (by decide +kernel), wd_179, wd_174, ⟨by decide +kernel, by decide +kernel⟩, by decide +kernel, rfl, by decide⟩
theorem mok_177 : mOK 177 := ⟨Or.inl (by decide +kernel), wd_180, wd_174, ⟨by decide +kernel, by decide +kernel⟩, by decide +kernel, rfl, by decide⟩
theorem mok_178 : mOK 178 := ⟨Or.inl (by decide +kernel), wd_181, wd_174, ⟨by decide +kernel, by decide +kernel⟩, by decide +kernel, rfl, by decide⟩
theorem mok_179 : mOK 179 := ⟨Or.inl (by decide +kernel), wd_182, wd_174, ⟨by decide +kernel, by decide +kernel⟩, by decide +kernel, rfl, by decide⟩
theorem mok_180 : mOK 180 := ⟨Or.inl (by decide +kernel), wd_183, wd_174, ⟨by decide +kernel, by decide +kernel⟩, by decide +kernel, rfl, by decide⟩
theorem mok_181 : mOK 181 := ⟨Or.inl (by decide +kernel), wd_184, wd_174, ⟨by decide +kernel, by decide +kernel⟩, by decide +kernel, rfl, by decide⟩
theorem mok_182 : mOK 182 := ⟨Or.inl (by decide +kernel), wd_185, wd_174, ⟨by decide +kernel, by decide +kernel⟩, by decide +kernel, rfl, by decide⟩
theorem mok_183 : mOK 183 := ⟨Or.inl (by decide +kernel), wd_186, wd_187, ⟨by decide +kernel, by decide +kernel⟩, by decide +kernel, rfl, by decide⟩
theorem mok_184 : mOK 184 := ⟨Or.inl (by decide +kernel), wd_188, wd_187, ⟨by decide +kernel, by decide +kernel⟩, by decide +kernel, rfl, by decide⟩
theorem mok_185 : mOK 185 := ⟨Or.inl (by decide +kernel), wd_189, wd_187, ⟨by decide +kernel, by decide +kernel⟩, by decide +kernel, rfl, by decide⟩
theorem mok_186 : mOK 186 := ⟨Or.inl (by decide +kernel), wd_190, wd_187, ⟨by decide +kernel, by decide +kernel⟩, by decide +kernel, rfl, by decide⟩
theorem mok_187 : mOK 187 := ⟨Or.inl (by decide +kernel), wd_191, wd_187, ⟨by decide +kernel, by decide +kernel⟩, by decide +kernel, rfl, by decide⟩
theorem mok_188 : mOK 188 := ⟨Or.inl (by decide +kernel), wd_192, wd_187, ⟨by decide +kernel, by decide +kernel⟩, by decide +kernel, rfl, by decide⟩
theorem mok_189 : mOK 189 := ⟨Or.inl (by decide +kernel), wd_193, wd_187, ⟨by decide +kernel, by decide +kernel⟩, by decide +kernel, rfl, by decide⟩
theorem mok_190 : mOK 190 := ⟨Or.inl (by decide +kernel), wd_194, wd_187, ⟨by decide +kernel, by decide +kernel⟩, by decide +kernel, rfl, by decide⟩
theorem mok_191 : mOK 191 := ⟨Or.inl (by decide +kernel), wd_195, wd_187, ⟨by decide +kernel, by decide +kernel⟩, by decide +kernel, rfl, by decide⟩
theorem mok_192 : mOK 192 := ⟨Or.inl (by decide +kernel), wd_196, wd_187, ⟨by decide +kernel, by decide +kernel⟩, by decide +kernel, rfl, by decide⟩
theorem mok_193 : mOK 193 := ⟨Or.inl (by decide +kernel), wd_197, wd_187, ⟨by decide +kernel, by decide +kernel⟩, by decide +kernel, rfl, by decide⟩
theorem mok_194 : mOK 194 := ⟨Or.inl (by decide +kernel), wd_198, wd_187, ⟨by decide +kernel, by decide +kernel⟩, by decide +kernel, rfl, by decide⟩
theorem mok_195 : mOK 195 := ⟨Or.inl (by decide +kernel), wd_199, wd_187, ⟨by decide +kernel, by decide +kernel⟩, by decide +kernel, rfl, by decide⟩
theorem mok_196 : mOK 196 := ⟨Or.inl (by decide +kernel), wd_200, wd_187, ⟨by decide +kernel, by decide +kernel⟩, by decide +kernel, rfl, by decide⟩
theorem mok_197 : mOK 197 := ⟨Or.inl (by decide +kernel), wd_201, wd_202, ⟨by decide +kernel, by decide +kernel⟩, by decide +kernel, rfl, by decide⟩
theorem mok_198 : mOK 198 := ⟨Or.inl (by decide +kernel), wd_203, wd_202, ⟨by decide +kernel, by decide +kernel⟩, by decide +kernel, rfl, by decide⟩
theorem mok_199 : mOK 199 := ⟨Or.inl (by decide +kernel), wd_204, wd_202, ⟨by decide +kernel, by decide +kernel⟩, by decide +kernel, rfl, by decide⟩
theorem mok_200 : mOK 200 := ⟨Or.inl (by decide +kernel), wd_205, wd_202, ⟨by decide +kernel, by decide +kernel⟩, by decide +kernel, rfl, by decide⟩
theorem mok_201 : mOK 201 := ⟨Or.inl (by decide +kernel), wd_206, wd_202, ⟨by decide +kernel, by decide +kernel⟩, by decide +kernel, rfl, by decide⟩
theorem mok_202 : mOK 202 := ⟨Or.inl (by decide +kernel), wd_207, wd_202, ⟨by decide +kernel, by decide +kernel⟩, by decide +kernel, rfl, by decide⟩
theorem mok_203 : mOK 203 := ⟨Or.inl (by decide +kernel), wd_208, wd_202, ⟨by decide +kernel, by decide +kernel⟩, by decide +kernel, rfl, by decide⟩
theorem mok_204 : mOK 204 := ⟨Or.inl (by decide +kernel), wd_209, wd_210, ⟨by decide +kernel, by decide +kernel⟩, by decide +kernel, rfl, by decide⟩
theorem mok_205 : mOK 205 := ⟨Or.inl (by decide +kernel), wd_211, wd_210, ⟨by decide +kernel, by decide +kernel⟩, by decide +kernel, rfl, by decide⟩
theorem mok_206 : mOK 206 := ⟨Or.inl (by decide +kernel), wd_212, wd_210, ⟨by decide +kernel, by decide +kernel⟩, by decide +kernel, rfl, by decide⟩
theorem mok_207 : mOK 207 := ⟨Or.inl (by decide +kernel), wd_213, wd_210, ⟨by decide +kernel, by decide +kernel⟩, by decide +kernel, rfl, by decide⟩
theorem mok_208 : mOK 208 := ⟨Or.inl (by decide +kernel), wd_214, wd_210, ⟨by decide +kernel, by decide +kernel⟩, by decide +kernel, rfl, by decide⟩
theorem mok_209 : mOK 209 := ⟨Or.inl (by decide +kernel), wd_215, wd_210, ⟨by decide +kernel, by decide +kernel⟩, by decide +kernel, rfl, by decide⟩
theorem mok_210 : mOK 210 := ⟨Or.inl (by decide +kernel), wd_216, wd_210, ⟨by decide +kernel, by decide +kernel⟩, by decide +kernel, rfl, by decide⟩
theorem mok_211 : mOK 211 := ⟨Or.inl (by decide +kernel), wd_217, wd_210, ⟨by decide +kernel, by decide +kernel⟩, by decide +kernel, rfl, by decide⟩
theorem mok_212 : mOK 212 := ⟨Or.inl (by decide +kernel), wd_218, wd_210, ⟨by decide +kernel, by decide +kernel⟩, by decide +kernel, rfl, by decide⟩
theorem mok_213 : mOK 213 := ⟨Or.inl (by decide +kernel), wd_219, wd_210, ⟨by decide +kernel, by decide +kernel⟩, by decide +kernel, rfl, by decide⟩
theorem mok_214 : mOK 214 := ⟨Or.inl (by decide +kernel), wd_220, wd_210, ⟨by decide +kernel, by decide +kernel⟩, by decide +kernel, rfl, by decide⟩
theorem mok_215 : mOK 215 := ⟨Or.inl (by decide +kernel), wd_221, wd_210, ⟨by decide +kernel, by decide +kernel⟩, by decide +kernel, rfl, by decide⟩
theorem mok_216 : mOK 216 := ⟨Or.inl (by decide +kernel), wd_222, wd_210, ⟨by decide +kernel, by decide +kernel⟩, by decide +kernel, rfl, by decide⟩
theorem mok_217 : mOK 217 := ⟨Or.inl (by decide +kernel), wd_223, wd_210, ⟨by decide +kernel, by decide +kernel⟩, by decide +kernel, rfl, by decide⟩
theorem mok_218 : mOK 218 := ⟨Or.inl (by decide +kernel), wd_224, wd_210, ⟨by decide +kernel, by decide +kernel⟩, by decide +kernel, rfl, by decide⟩
theorem mok_219 : mOK 219 := ⟨Or.inl (by decide +kernel), wd_225, wd_210, ⟨by decide +kernel, by decide +kernel⟩, by decide +kernel, rfl, by decide⟩
theorem mok_220 : mOK 220 := ⟨Or.inl (by decide +kernel), wd_226, wd_210, ⟨by decide +kernel, by decide +kernel⟩, by decide +kernel, rfl, by decide⟩
theorem mok_221 : mOK 221 := ⟨Or.inl (by decide +kernel), wd_227, wd_210, ⟨by decide +kernel, by decide +kernel⟩, by decide +kernel, rfl, by decide⟩
theorem mok_222 : mOK 222 := ⟨Or.inl (by decide +kernel), wd_228, wd_210, ⟨by decide +kernel, by decide +kernel⟩, by decide +kernel, rfl, by decide⟩
theorem mok_223 : mOK 223 := ⟨Or.inl (by decide +kernel), wd_229, wd_230, ⟨by decide +kernel, by decide +kernel⟩, by decide +kernel, rfl, by decide⟩
theorem mok_224 : mOK 224 := ⟨Or.inl (by decide +kernel), wd_231, wd_230, ⟨by decide +kernel, by decide +kernel⟩, by decide +kernel, rfl, by decide⟩
theorem mok_225 : mOK 225 := ⟨Or.inl (by decide +kernel), wd_232, wd_230, ⟨by decide +kernel, by decide +kernel⟩, by decide +kernel, rfl, by decide⟩
theorem mok_226 : mOK 226 := ⟨Or.inl (by decide +kernel), wd_233, wd_230, ⟨by decide +kernel, by decide +kernel⟩, by decide +kernel, rfl, by decide⟩
theorem mok_227 : mOK 227 := ⟨Or.inl (by decide +kernel), wd_234, wd_230, ⟨by decide +kernel, by decide +kernel⟩, by decide +kernel, rfl, by decide⟩
theorem mok_228 : mOK 228 := ⟨Or.inl (by decide +kernel), wd_235, wd_230, ⟨by decide +kernel, by decide +kernel⟩, by decide +kernel, rfl, by decide⟩
theorem mok_229 : mOK 229 := ⟨Or.inl (by decide +kernel), wd_236, wd_230, ⟨by decide +kernel, by decide +kernel⟩, by decide +kernel, rfl, by decide⟩
theorem mok_230 : mOK 230 := ⟨Or.inl (by decide +kernel), wd_237, wd_238, ⟨by decide +kernel, by decide +kernel⟩, by decide +kernel, rfl, by decide⟩
theorem mok_231 : mOK 231 := ⟨Or.inl (by decide +kernel), wd_239, wd_238, ⟨by decide +kernel, by decide +kernel⟩, by decide +kernel, rfl, by decide⟩
theorem mok_232 : mOK 232 := ⟨Or.inl (by decide +kernel), wd_240, wd_238, ⟨by decide +kernel, by decide +kernel⟩, by decide +kernel, rfl, by decide⟩
theorem mok_233 : mOK 233 := ⟨Or.inl (by decide +kernel), wd_241, wd_238, ⟨by decide +kernel, by decide +kernel⟩, by decide +kernel, rfl, by decide⟩
theorem mok_234 : mOK 234 := ⟨Or.inl (by decide +kernel), wd_242, wd_238, ⟨by decide +kernel, by decide +kernel⟩, by decide +kernel, rfl, by decide⟩
theorem mok_235 : mOK 235 := ⟨Or.inl (by decide +kernel), wd_243, wd_238, ⟨by decide +kernel, by decide +kernel⟩, by decide +kernel, rfl, by decide⟩
theorem mok_236 : mOK 236 := ⟨Or.inl (by decide +kernel), wd_244, wd_238, ⟨by decide +kernel, by decide +kernel⟩, by decide +kernel, rfl, by decide⟩
theorem mok_237 : mOK 237 := ⟨Or.inl (by decide +kernel), wd_245, wd_238, ⟨by decide +kernel, by decide +kernel⟩, by decide +kernel, rfl, by decide⟩
theorem mok_238 : mOK 238 := ⟨Or.inl (by decide +kernel), wd_246, wd_238, ⟨by decide +kernel, by decide +kernel⟩, by decide +kernel, rfl, by decide⟩
theorem mok_239 : mOK 239 := ⟨Or.inl (by decide +kernel), wd_247, wd_238, ⟨by decide +kernel, by decide +kernel⟩, by decide +kernel, rfl, by decide⟩
theorem mok_240 : mOK 240 := ⟨Or.inl (by decide +kernel), wd_248, wd_238, ⟨by decide +kernel, by decide +kernel⟩, by decide +kernel, rfl, by decide⟩
theorem mok_241 : mOK 241 := ⟨Or.inl (by decide +kernel), wd_249, wd_238, ⟨by decide +kernel, by decide +kernel⟩, by decide +kernel, rfl, by decide⟩
theorem mok_242 : mOK 242 := ⟨Or.inl (by decide +kernel), wd_250, wd_238, ⟨by decide +kernel, by decide +kernel⟩, by decide +kernel, rfl, by decide⟩
theorem mok_243 : mOK 243 := ⟨Or.inl (by decide +kernel), wd_251, wd_238, ⟨by decide +kernel, by decide +kernel⟩, by decide +kernel, rfl, by decide⟩
theorem mok_244 : mOK 244 := ⟨Or.inl (by decide +kernel), wd_252, wd_238, ⟨by decide +kernel, by decide +kernel⟩, by decide +kernel, rfl, by decide⟩
theorem mok_245 : mOK 245 := ⟨Or.inl (by decide +kernel), wd_253, wd_238, ⟨by decide +kernel, by decide +kernel⟩, by decide +kernel, rfl, by decide⟩
theorem mok_246 : mOK 246 := ⟨Or.inl (by decide +kernel), wd_254, wd_238, ⟨by decide +kernel, by decide +kernel⟩, by decide +kernel, rfl, by decide⟩
theorem mok_247 : mOK 247 := ⟨Or.inl (by decide +kernel), wd_255, wd_238, ⟨by decide +kernel, by decide +kernel⟩, by decide +kernel, rfl, by decide⟩
theorem mok_248 : mOK 248 := ⟨Or.inl (by decide +kernel), wd_256, wd_238, ⟨by decide +kernel, by decide +kernel⟩, by decide +kernel, rfl, by decide⟩
theorem mok_249 : mOK 249 := ⟨Or.inl (by decide +kernel), wd_257, wd_258, ⟨by decide +kernel, by decide +kernel⟩, by decide +kernel, rfl, by decide⟩
theorem mok_250 : mOK 250 := ⟨Or.inl (by decide +kernel), wd_259, wd_258, ⟨by decide +kernel, by decide +kernel⟩, by decide +kernel, rfl, by decide⟩
theorem mok_251 : mOK 251 := ⟨Or.inl (by decide +kernel), wd_260, wd_258, ⟨by decide +kernel, by decide +kernel⟩, by decide +kernel, rfl, by decide⟩
theorem mok_252 : mOK 252 := ⟨Or.inl (by decide +kernel), wd_261, wd_258, ⟨by decide +kernel, by decide +kernel⟩, by decide +kernel, rfl, by decide⟩
theorem mok_253 : mOK 253 := ⟨Or.inl (by decide +kernel), wd_262, wd_258, ⟨by decide +kernel, by decide +kernel⟩, by decide +kernel, rfl, by decide⟩
theorem mok_254 : mOK 254 := ⟨Or.inl (by decide +kernel), wd_263, wd_258, ⟨by decide +kernel, by decide +kernel⟩, by decide +kernel, rfl, by decide⟩
theorem mok_255 : mOK 255 := ⟨Or.inl (by decide +kernel), wd_264, wd_258, ⟨by decide +kernel, by decide +kernel⟩, by decide +kernel, rfl, by decide⟩
theorem mok_256 : mOK 256 := ⟨Or.inl (by decide +kernel), wd_265, wd_258, ⟨by decide +kernel, by decide +kernel⟩, by decide +kernel, rfl, by decide⟩
theorem mok_257 : mOK 257 := ⟨Or.inl (by decide +kernel), wd_266, wd_258, ⟨by decide +kernel, by decide +kernel⟩, by decide +kernel, rfl, by decide⟩
theorem mok_258 : mOK 258 := ⟨Or.inl (by decide +kernel), wd_267, wd_258, ⟨by decide +kernel, by decide +kernel⟩, by decide +kernel, rfl, by decide⟩
theorem mok_259 : mOK 259 := ⟨Or.inl (by decide +kernel), wd_268, wd_269, ⟨by decide +kernel, by decide +kernel⟩, by decide +kernel, rfl, by decide⟩
theorem mok_260 : mOK 260 := ⟨Or.inl (by decide +kernel), wd_270, wd_269, ⟨by decide +kernel, by decide +kernel⟩, by decide +kernel, rfl, by decide⟩
theorem mok_261 : mOK 261 := ⟨Or.inl (by decide +kernel), wd_271, wd_269, ⟨by decide +kernel, by decide +kernel⟩, by decide +kernel, rfl, by decide⟩
theorem mok_262 : mOK 262 := ⟨Or.inl (by decide +kernel), wd_272, wd_269, ⟨by decide +kernel, by decide +kernel⟩, by decide +kernel, rfl, by decide⟩
theorem mok_263 : mOK 263 := ⟨Or.inl (by decide +kernel), wd_273, wd_269, ⟨by decide +kernel, by decide +kernel⟩, by decide +kernel, rfl, by decide⟩
theorem mok_264 : mOK 264 := ⟨Or.inl (by decide +kernel), wd_274, wd_269, ⟨by decide +kernel, by decide +kernel⟩, by decide +kernel, rfl, by decide⟩
theorem mok_265 : mOK 265 := ⟨Or.inl (by decide +kernel), wd_275, wd_269, ⟨by decide +kernel, by decide +kernel⟩, by decide +kernel, rfl, by decide⟩
theorem mok_266 : mOK 266 := ⟨Or.inl (by decide +kernel), wd_276, wd_269, ⟨by decide +kernel, by decide +kernel⟩, by decide +kernel, rfl, by decide⟩
theorem mok_267 : mOK 267 := ⟨Or.inl (by decide +kernel), wd_277, wd_269, ⟨by decide +kernel, by decide +kernel⟩, by decide +kernel, rfl, by decide⟩
theorem mok_268 : mOK 268 := ⟨Or.inl (by decide +kernel), wd_278, wd_279, ⟨by decide +kernel, by decide +kernel⟩, by decide +kernel, rfl, by decide⟩
theorem mok_269 : mOK 269 := ⟨Or.inl (by decide +kernel), wd_280, wd_279, ⟨by decide +kernel, by decide +kernel⟩, by decide +kernel, rfl, by decide⟩
theorem mok_270 : mOK 270 := ⟨Or.inl (by decide +kernel), wd_281, wd_279, ⟨by decide +kernel, by decide +kernel⟩, by decide +kernel, rfl, by decide⟩
theorem mok_271 : mOK 271 := ⟨Or.inl (by decide +kernel), wd_282, wd_279, ⟨by decide +kernel, by decide +kernel⟩, by decide +kernel, rfl, by decide⟩
theorem mok_272 : mOK 272 := ⟨Or.inl (by decide +kernel), wd_283, wd_279, ⟨by decide +kernel, by decide +kernel⟩, by decide +kernel, rfl, by decide⟩
theorem mok_273 : mOK 273 := ⟨Or.inl (by decide +kernel), wd_284, wd_279, ⟨by decide +kernel, by decide +kernel⟩, by decide +kernel, rfl, by decide⟩
theorem mok_274 : mOK 274 := ⟨Or.inl (by decide +kernel), wd_285, wd_279, ⟨by decide +kernel, by decide +kernel⟩, by decide +kernel, rfl, by decide⟩
theorem mok_275 : mOK 275 := ⟨Or.inl (by decide +kernel), wd_286, wd_279, ⟨by decide +kernel, by decide +kernel⟩, by decide +kernel, rfl, by decide⟩
theorem mok_276 : mOK 276 := ⟨Or.inl (by decide +kernel), wd_287, wd_279, ⟨by decide +kernel, by decide +kernel⟩, by decide +kernel, rfl, by decide⟩
theorem mok_277 : mOK 277 := ⟨Or.inl (by decide +kernel), wd_288, wd_279, ⟨by decide +kernel, by decide +kernel⟩, by decide +kernel, rfl, by decide⟩
theorem mok_278 : mOK 278 := ⟨Or.inl (by decide +kernel), wd_289, wd_279, ⟨by decide +kernel, by decide +kernel⟩, by decide +kernel, rfl, by decide⟩
theorem mok_279 : mOK 279 := ⟨Or.inl (by decide +kernel), wd_290, wd_291, ⟨by decide +kernel, by decide +kernel⟩, by decide +kernel, rfl, by decide⟩
theorem mok_280 : mOK 280 := ⟨Or.inl (by decide +kernel), wd_292, wd_291, ⟨by decide +kernel, by decide +kernel⟩, by decide +kernel, rfl, by decide⟩
theorem mok_281 : mOK 281 := ⟨Or.inl (by decide +kernel), wd_293, wd_291, ⟨by decide +kernel, by decide +kernel⟩, by decide +kernel, rfl, by decide⟩
theorem mok_282 : mOK 282 := ⟨Or.inl (by decide +kernel), wd_294, wd_291, ⟨by decide +kernel, by decide +kernel⟩, by decide +kernel, rfl, by decide⟩
theorem mok_283 : mOK 283 := ⟨Or.inl (by decide +kernel), wd_295, wd_291, ⟨by decide +kernel, by decide +kernel⟩, by decide +kernel, rfl, by decide⟩
theorem mok_284 : mOK 284 := ⟨Or.inl (by decide +kernel), wd_296, wd_291, ⟨by decide +kernel, by decide +kernel⟩, by decide +kernel, rfl, by decide⟩
theorem mok_285 : mOK 285 := ⟨Or.inl (by decide +kernel), wd_297, wd_291, ⟨by decide +kernel, by decide +kernel⟩, by decide +kernel, rfl, by decide⟩
theorem mok_286 : mOK 286 := ⟨Or.inl (by decide +kernel), wd_298, wd_291, ⟨by decide +kernel, by decide +kernel⟩, by decide +kernel, rfl, by decide⟩
theorem mok_287 : mOK 287 := ⟨Or.inl (by decide +kernel), wd_299, wd_291, ⟨by decide +kernel, by decide +kernel⟩, by decide +kernel, rfl, by decide⟩
theorem mok_288 : mOK 288 := ⟨Or.inl (by decide +kernel), wd_300, wd_291, ⟨by decide +kernel, by decide +kernel⟩, by decide +kernel, rfl, by decide⟩
theorem mok_289 : mOK 289 := ⟨Or.inl (by decide +kernel), wd_301, wd_291, ⟨by decide +kernel, by decide +kernel⟩, by decide +kernel, rfl, by decide⟩
theorem mok_290 : mOK 290 := ⟨Or.inl (by decide +kernel), wd_302, wd_291, ⟨by decide +kernel, by decide +kernel⟩, by decide +kernel, rfl, by decide⟩
theorem mok_291 : mOK 291 := ⟨Or.inl (by decide +kernel), wd_303, wd_291, ⟨by decide +kernel, by decide +kernel⟩, by decide +kernel, rfl, by decide⟩
theorem mok_292 : mOK 292 := ⟨Or.inl (by decide +kernel), wd_304, wd_291, ⟨by decide +kernel, by decide +kernel⟩, by decide +kernel, rfl, by decide⟩
theorem mok_293 : mOK 293 := ⟨Or.inl (by decide +kernel), wd_305, wd_291, ⟨by decide +kernel, by decide +kernel⟩, by decide +kernel, rfl, by decide⟩
theorem mok_294 : mOK 294 := ⟨Or.inl (by decide +kernel), wd_306, wd_291, ⟨by decide +kernel, by decide +kernel⟩, by decide +kernel, rfl, by decide⟩
theorem mok_295 : mOK 295 := ⟨Or.inl (by decide +kernel), wd_307, wd_291, ⟨by decide +kernel, by decide +kernel⟩, by decide +kernel, rfl, by decide⟩
theorem mok_296 : mOK 296 := ⟨Or.inl (by decide +kernel), wd_308, wd_309, ⟨by decide +kernel, by decide +kernel⟩, by decide +kernel, rfl, by decide⟩
theorem mok_297 : mOK 297 := ⟨Or.inl (by decide +kernel), wd_310, wd_309, ⟨by decide +kernel, by decide +kernel⟩, by decide +kernel, rfl, by decide⟩
theorem mok_298 : mOK 298 := ⟨Or.inl (by decide +kernel), wd_311, wd_309, ⟨by decide +kernel, by decide +kernel⟩, by decide +kernel, rfl, by decide⟩
theorem mok_299 : mOK 299 := ⟨Or.inl (by decide +kernel), wd_312, wd_309, ⟨by decide +kernel, by decide +kernel⟩, by decide +kernel, rfl, by decide⟩
theorem mok_300 : mOK 300 := ⟨Or.inl (by decide +kernel), wd_313, wd_309, ⟨by decide +kernel, by decide +kernel⟩, by decide +kernel, rfl, by decide⟩
theorem mok_301 : mOK 301 := ⟨Or.inl (by decide +kernel), wd_314, wd_309, ⟨by decide +kernel, by decide +kernel⟩, by decide +kernel, rfl, by decide⟩
theorem mok_302 : mOK 302 := ⟨Or.inl (by decide +kernel), wd_315, wd_309, ⟨by decide +kernel, by decide +kernel⟩, by decide +kernel, rfl, by decide⟩
theorem mok_303 : mOK 303 := ⟨Or.inl (by decide +kernel), wd_316, wd_309, ⟨by decide +kernel, by decide +kernel⟩, by decide +kernel, rfl, by decide⟩
theorem mok_304 : mOK 304 := ⟨Or.inl (by decide +kernel), wd_317, wd_309, ⟨by decide +kernel, by decide +kernel⟩, by decide +kernel, rfl, by decide⟩
theorem mok_305 : mOK 305 := ⟨Or.inl (by decide +kernel), wd_318, wd_309, ⟨by decide +kernel, by decide +kernel⟩, by decide +kernel, rfl, by decide⟩
theorem mok_306 : mOK 306 := ⟨Or.inl (by decide +kernel), wd_319, wd_309, ⟨by decide +kernel, by decide +kernel⟩, by decide +kernel, rfl, by decide⟩
theorem mok_307 : mOK 307 := ⟨Or.inl (by decide +kernel), wd_320, wd_309, ⟨by decide +kernel, by decide +kernel⟩, by decide +kernel, rfl, by decide⟩
theorem mok_308 : mOK 308 := ⟨Or.inl (by decide +kernel), wd_321, wd_309, ⟨by decide +kernel, by decide +kernel⟩, by decide +kernel, rfl, by decide⟩
theorem mok_309 : mOK 309 := ⟨Or.inl (by decide +kernel), wd_322, wd_309, ⟨by decide +kernel, by decide +kernel⟩, by decide +kernel, rfl, by decide⟩
theorem mok_310 : mOK 310 := ⟨Or.inl (by decide +kernel), wd_323, wd_309, ⟨by decide +kernel, by decide +kernel⟩, by decide +kernel, rfl, by decide⟩
theorem mok_311 : mOK 311 := ⟨Or.inl (by decide +kernel), wd_324, wd_309, ⟨by decide +kernel, by decide +kernel⟩, by decide +kernel, rfl, by decide⟩
theorem mok_312 : mOK 312 := ⟨Or.inl (by decide +kernel), wd_325, wd_309, ⟨by decide +kernel, by decide +kernel⟩, by decide +kernel, rfl, by decide⟩
theorem mok_313 : mOK 313 := ⟨Or.inl (by decide +kernel), wd_326, wd_309, ⟨by decide +kernel, by decide +kernel⟩, by decide +kernel, rfl, by decide⟩
theorem mok_314 : mOK 314 := ⟨Or.inl (by decide +kernel), wd_327, wd_309, ⟨by decide +kernel, by decide +kernel⟩, by decide +kernel, rfl, by decide⟩
theorem mok_315 : mOK 315 := ⟨Or.inl (by decide +kernel), wd_328, wd_329, ⟨by decide +kernel, by decide +kernel⟩, by decide +kernel, rfl, by decide⟩
theorem mok_316 : mOK 316 := ⟨Or.inl (by decide +kernel), wd_330, wd_331, ⟨by decide +kernel, by decide +kernel⟩, by decide +kernel, rfl, by decide⟩
theorem mok_317 : mOK 317 := ⟨Or.inr (by decide), wd_332, wd_333, ⟨by decide +kernel, by decide +kernel⟩, by decide +kernel, rfl, by decide⟩
theorem mok_318 : mOK 318 := ⟨Or.inr (by decide), wd_334, wd_333, ⟨by decide +kernel, by decide +kernel⟩, by decide +kernel, rfl, by decide⟩
theorem mok_319 : mOK 319 := ⟨Or.inl (by decide +kernel), wd_335, wd_336, ⟨by decide +kernel, by decide +kernel⟩, by decide +kernel, rfl, by decide⟩
theorem mok_320 : mOK 320 := ⟨Or.inl (by decide +kernel), wd_337, wd_336, ⟨by decide +kernel, by decide +kernel⟩, by decide +kernel, rfl, by decide⟩
theorem mok_321 : mOK 321 := ⟨Or.inl (by decide +kernel), wd_338, wd_339, ⟨by decide +kernel, by decide +kernel⟩, by decide +kernel, rfl, by decide⟩
theorem mok_322 : mOK 322 := ⟨Or.inl (by decide +kernel), wd_340, wd_339, ⟨by decide +kernel, by decide +kernel⟩, by decide +kernel, rfl, by decide⟩
theorem ftab_ok_0_0 : fOK (45065, 11, 0, false) := ⟨11, 9, RX11, TX11, 14, rfl, by decide, rfl, by decide, rfl, wd_341⟩
theorem ftab_ok_0_1 : fOK (45072, 11, 1, false) := ⟨11, 16, RX11, TX11, 14, rfl, by decide, rfl, by decide, rfl, wd_346⟩
theorem ftab_ok_0_2 : fOK (45081, 11, 2, false) := ⟨11, 25, RX11, TX11, 14, rfl, by decide, rfl, by decide, rfl, wd_351⟩
theorem ftab_ok_0_3 : fOK (45088, 11, 3, false) := ⟨11, 32, RX11, TX11, 14, rfl, by decide, rfl, by decide, rfl, wd_356⟩
theorem ftab_ok_0_4 : fOK (45097, 11, 4, false) := ⟨11, 41, RX11, TX11, 14, rfl, by decide, rfl, by decide, rfl, wd_361⟩
theorem ftab_ok_0_5 : fOK (45106, 11, 5, false) := ⟨11, 50, RX11, TX11, 14, rfl, by decide, rfl, by decide, rfl, wd_366⟩
theorem ftab_ok_0_6 : fOK (45113, 11, 6, false) := ⟨11, 57, RX11, TX11, 14, rfl, by decide, rfl, by decide, rfl, wd_371⟩
theorem ftab_ok_0_7 : fOK (45120, 11, 7, false) := ⟨11, 64, RX11, TX11, 14, rfl, by decide, rfl, by decide, rfl, wd_376⟩
theorem ftab_ok_0_8 : fOK (45127, 11, 8, false) := ⟨11, 71, RX11, TX11, 14, rfl, by decide, rfl, by decide, rfl, wd_381⟩
theorem ftab_ok_0_9 : fOK (45134, 11, 9, false) := ⟨11, 78, RX11, TX11, 14, rfl, by decide, rfl, by decide, rfl, wd_386⟩
theorem ftab_ok_0_10 : fOK (45143, 11, 10, false) := ⟨11, 87, RX11, TX11, 14, rfl, by decide, rfl, by decide, rfl, wd_391⟩
theorem ftab_ok_0_11 : fOK (45147, 11, 13, false) := ⟨11, 91, RX11, TX11, 14, rfl, by decide, rfl, by decide, rfl, wd_392⟩
theorem ftab_ok_0_12 : fOK (45155, 11, 12, false) := ⟨11, 99, RX11, TX11, 14, rfl, by decide, rfl, by decide, rfl, wd_395⟩
theorem ftab_ok_0_13 : fOK (45158, 11, 11, false) := ⟨11, 102, RX11, TX11, 14, rfl, by decide, rfl, by decide, rfl, wd_396⟩
theorem ftab_ok_0_14 : fOK (45198, 4, 1, true) := ⟨11, 142, RX4, TX4, 11, rfl, by decide, rfl, by decide, rfl, wd_425⟩
theorem ftab_ok_0_15 : fOK (45201, 4, 2, true) := ⟨11, 145, RX4, TX4, 11, rfl, by decide, rfl, by decide, rfl, wd_426⟩
theorem ftab_ok_0_16 : fOK (45204, 4, 3, true) := ⟨11, 148, RX4, TX4, 11, rfl, by decide, rfl, by decide, rfl, wd_427⟩
theorem ftab_ok_0_17 : fOK (45207, 4, 4, true) := ⟨11, 151, RX4, TX4, 11, rfl, by decide, rfl, by decide, rfl, wd_428⟩
theorem ftab_ok_0_18 : fOK (45210, 4, 0, true) := ⟨11, 154, RX4, TX4, 11, rfl, by decide, rfl, by decide, rfl, wd_429⟩
theorem ftab_ok_0_19 : fOK (45213, 9, 8, true) := ⟨11, 157, RX9, TX9, 10, rfl, by decide, rfl, by decide, rfl, wd_430⟩
theorem ftab_ok_0_20 : fOK (45216, 9, 9, true) := ⟨11, 160, RX9, TX9, 10, rfl, by decide, rfl, by decide, rfl, wd_431⟩
theorem ftab_ok_0_21 : fOK (45219, 4, 9, true) := ⟨11, 163, RX4, TX4, 11, rfl, by decide, rfl, by decide, rfl, wd_432⟩
theorem ftab_ok_0_22 : fOK (45225, 9, 4, true) := ⟨11, 169, RX9, TX9, 10, rfl, by decide, rfl, by decide, rfl, wd_435⟩
theorem ftab_ok_0_23 : fOK (45242, 1, 3, true) := ⟨11, 186, RX1, TX1, 10, rfl, by decide, rfl, by decide, rfl, wd_454⟩
theorem ftab_ok_0_24 : fOK (45258, 1, 7, true) := ⟨11, 202, RX1, TX1, 10, rfl, by decide, rfl, by decide, rfl, wd_467⟩
theorem ftab_ok_0_25 : fOK (45261, 1, 5, true) := ⟨11, 205, RX1, TX1, 10, rfl, by decide, rfl, by decide, rfl, wd_468⟩
theorem ftab_ok_0_26 : fOK (45264, 1, 6, true) := ⟨11, 208, RX1, TX1, 10, rfl, by decide, rfl, by decide, rfl, wd_469⟩
theorem ftab_ok_0_27 : fOK (45267, 1, 9, true) := ⟨11, 211, RX1, TX1, 10, rfl, by decide, rfl, by decide, rfl, wd_470⟩
theorem ftab_ok_0_28 : fOK (45295, 6, 1, true) := ⟨11, 239, RX6, TX6, 3, rfl, by decide, rfl, by decide, rfl, wd_499⟩
theorem ftab_ok_0_29 : fOK (45349, 3, 1, true) := ⟨11, 293, RX3, TX3, 10, rfl, by decide, rfl, by decide, rfl, wd_554⟩
theorem ftab_ok_0_30 : fOK (45361, 3, 2, true) := ⟨11, 305, RX3, TX3, 10, rfl, by decide, rfl, by decide, rfl, wd_564⟩
theorem ftab_ok_0_31 : fOK (45364, 3, 6, true) := ⟨11, 308, RX3, TX3, 10, rfl, by decide, rfl, by decide, rfl, wd_565⟩
theorem ftab_ok_0_32 : fOK (45367, 3, 7, true) := ⟨11, 311, RX3, TX3, 10, rfl, by decide, rfl, by decide, rfl, wd_566⟩
theorem ftab_ok_0_33 : fOK (45370, 3, 8, true) := ⟨11, 314, RX3, TX3, 10, rfl, by decide, rfl, by decide, rfl, wd_567⟩
theorem ftab_ok_0_34 : fOK (45382, 1, 4, true) := ⟨11, 326, RX1, TX1, 10, rfl, by decide, rfl, by decide, rfl, wd_577⟩
theorem ftab_ok_0_35 : fOK (45420, 8, 3, true) := ⟨11, 364, RX8, TX8, 4, rfl, by decide, rfl, by decide, rfl, wd_614⟩
theorem ftab_ok_0_36 : fOK (45423, 8, 2, true) := ⟨11, 367, RX8, TX8, 4, rfl, by decide, rfl, by decide, rfl, wd_615⟩
theorem ftab_ok_0_37 : fOK (45426, 8, 1, true) := ⟨11, 370, RX8, TX8, 4, rfl, by decide, rfl, by decide, rfl, wd_616⟩
theorem ftab_ok_0_38 : fOK (45442, 2, 0, true) := ⟨11, 386, RX2, TX2, 4, rfl, by decide, rfl, by decide, rfl, wd_629⟩
theorem ftab_ok_0_39 : fOK (45449, 2, 1, true) := ⟨11, 393, RX2, TX2, 4, rfl, by decide, rfl, by decide, rfl, wd_632⟩
theorem ftab_ok_0_40 : fOK (45455, 2, 2, true) := ⟨11, 399, RX2, TX2, 4, rfl, by decide, rfl, by decide, rfl, wd_636⟩
theorem ftab_ok_0_41 : fOK (45458, 1, 8, true) := ⟨11, 402, RX1, TX1, 10, rfl, by decide, rfl, by decide, rfl, wd_637⟩
theorem ftab_ok_0_42 : fOK (45485, 5, 4, true) := ⟨11, 429, RX5, TX5, 6, rfl, by decide, rfl, by decide, rfl, wd_661⟩
theorem ftab_ok_0_43 : fOK (45486, 0, 5, true) := ⟨11, 430, RX0, TX0, 6, rfl, by decide, rfl, by decide, rfl, wd_662⟩
theorem ftab_ok_0_44 : fOK (45487, 3, 9, true) := ⟨11, 431, RX3, TX3, 10, rfl, by decide, rfl, by decide, rfl, wd_663⟩
theorem ftab_ok_0_45 : fOK (45494, 5, 5, true) := ⟨11, 438, RX5, TX5, 6, rfl, by decide, rfl, by decide, rfl, wd_670⟩
theorem ftab_ok_0_46 : fOK (45507, 6, 0, true) := ⟨11, 451, RX6, TX6, 3, rfl, by decide, rfl, by decide, rfl, wd_680⟩
theorem ftab_ok_0_47 : fOK (45516, 0, 1, true) := ⟨11, 460, RX0, TX0, 6, rfl, by decide, rfl, by decide, rfl, wd_681⟩
theorem ftab_ok_0_48 : fOK (45517, 0, 0, true) := ⟨11, 461, RX0, TX0, 6, rfl, by decide, rfl, by decide, rfl, wd_682⟩
theorem ftab_ok_0_49 : fOK (49159, 12, 1, false) := ⟨12, 7, RX12, TX12, 69, rfl, by decide, rfl, by decide, rfl, wd_692⟩
theorem ftab_ok_0_50 : fOK (49165, 12, 3, false) := ⟨12, 13, RX12, TX12, 69, rfl, by decide, rfl, by decide, rfl, wd_693⟩
theorem ftab_ok_0_51 : fOK (49168, 12, 4, false) := ⟨12, 16, RX12, TX12, 69, rfl, by decide, rfl, by decide, rfl, wd_694⟩
theorem ftab_ok_0_52 : fOK (49172, 12, 5, false) := ⟨12, 20, RX12, TX12, 69, rfl, by decide, rfl, by decide, rfl, wd_695⟩
theorem ftab_ok_0_53 : fOK (49175, 12, 6, false) := ⟨12, 23, RX12, TX12, 69, rfl, by decide, rfl, by decide, rfl, wd_696⟩
theorem ftab_ok_0_54 : fOK (49178, 12, 8, false) := ⟨12, 26, RX12, TX12, 69, rfl, by decide, rfl, by decide, rfl, wd_697⟩
theorem ftab_ok_0_55 : fOK (49181, 12, 9, false) := ⟨12, 29, RX12, TX12, 69, rfl, by decide, rfl, by decide, rfl, wd_698⟩
theorem ftab_ok_0_56 : fOK (49184, 12, 10, false) := ⟨12, 32, RX12, TX12, 69, rfl, by decide, rfl, by decide, rfl, wd_699⟩
theorem ftab_ok_0_57 : fOK (49187, 12, 11, false) := ⟨12, 35, RX12, TX12, 69, rfl, by decide, rfl, by decide, rfl, wd_700⟩
theorem ftab_ok_0_58 : fOK (49190, 12, 12, false) := ⟨12, 38, RX12, TX12, 69, rfl, by decide, rfl, by decide, rfl, wd_701⟩
theorem ftab_ok_0_59 : fOK (49193, 12, 13, false) := ⟨12, 41, RX12, TX12, 69, rfl, by decide, rfl, by decide, rfl, wd_702⟩
theorem ftab_ok_0 : ∀ e ∈ fTab_0, fOK e := List.forall_mem_cons.mpr ⟨ftab_ok_0_0, List.forall_mem_cons.mpr ⟨ftab_ok_0_1, List.forall_mem_cons.mpr ⟨ftab_ok_0_2, List.forall_mem_cons.mpr ⟨ftab_ok_0_3, List.forall_mem_cons.mpr ⟨ftab_ok_0_4, List.forall_mem_cons.mpr ⟨ftab_ok_0_5, List.forall_mem_cons.mpr ⟨ftab_ok_0_6, List.forall_mem_cons.mpr ⟨ftab_ok_0_7, List.forall_mem_cons.mpr ⟨ftab_ok_0_8, List.forall_mem_cons.mpr ⟨ftab_ok_0_9, List.forall_mem_cons.mpr ⟨ftab_ok_0_10, List.forall_mem_cons.mpr ⟨ftab_ok_0_11, List.forall_mem_cons.mpr ⟨ftab_ok_0_12, List.forall_mem_cons.mpr ⟨ftab_ok_0_13, List.forall_mem_cons.mpr ⟨ftab_ok_0_14, List.forall_mem_cons.mpr ⟨ftab_ok_0_15, List.forall_mem_cons.mpr ⟨ftab_ok_0_16, List.forall_mem_cons.mpr ⟨ftab_ok_0_17, List.forall_mem_cons.mpr ⟨ftab_ok_0_18, List.forall_mem_cons.mpr ⟨ftab_ok_0_19, List.forall_mem_cons.mpr ⟨ftab_ok_0_20, List.forall_mem_cons.mpr ⟨ftab_ok_0_21, List.forall_mem_cons.mpr ⟨ftab_ok_0_22, List.forall_mem_cons.mpr ⟨ftab_ok_0_23, List.forall_mem_cons.mpr ⟨ftab_ok_0_24, List.forall_mem_cons.mpr ⟨ftab_ok_0_25, List.forall_mem_cons.mpr ⟨ftab_ok_0_26, List.forall_mem_cons.mpr ⟨ftab_ok_0_27, List.forall_mem_cons.mpr ⟨ftab_ok_0_28, List.forall_mem_cons.mpr ⟨ftab_ok_0_29, List.forall_mem_cons.mpr ⟨ftab_ok_0_30, List.forall_mem_cons.mpr ⟨ftab_ok_0_31, List.forall_mem_cons.mpr ⟨ftab_ok_0_32, List.forall_mem_cons.mpr ⟨ftab_ok_0_33, List.forall_mem_cons.mpr ⟨ftab_ok_0_34, List.forall_mem_cons.mpr ⟨ftab_ok_0_35, List.forall_mem_cons.mpr ⟨ftab_ok_0_36, List.forall_mem_cons.mpr ⟨ftab_ok_0_37, List.forall_mem_cons.mpr ⟨ftab_ok_0_38, List.forall_mem_cons.mpr ⟨ftab_ok_0_39, List.forall_mem_cons.mpr ⟨ftab_ok_0_40, List.forall_mem_cons.mpr ⟨ftab_ok_0_41, List.forall_mem_cons.mpr ⟨ftab_ok_0_42, List.forall_mem_cons.mpr ⟨ftab_ok_0_43, List.forall_mem_cons.mpr ⟨ftab_ok_0_44, List.forall_mem_cons.mpr ⟨ftab_ok_0_45, List.forall_mem_cons.mpr ⟨ftab_ok_0_46, List.forall_mem_cons.mpr ⟨ftab_ok_0_47, List.forall_mem_cons.mpr ⟨ftab_ok_0_48, List.forall_mem_cons.mpr ⟨ftab_ok_0_49, List.forall_mem_cons.mpr ⟨ftab_ok_0_50, List.forall_mem_cons.mpr ⟨ftab_ok_0_51, List.forall_mem_cons.mpr ⟨ftab_ok_0_52, List.forall_mem_cons.mpr ⟨ftab_ok_0_53, List.forall_mem_cons.mpr ⟨ftab_ok_0_54, List.forall_mem_cons.mpr ⟨ftab_ok_0_55, List.forall_mem_cons.mpr ⟨ftab_ok_0_56, List.forall_mem_cons.mpr ⟨ftab_ok_0_57, List.forall_mem_cons.mpr ⟨ftab_ok_0_58, List.forall_mem_cons.mpr ⟨ftab_ok_0_59,  fun _ h => absurd h List.not_mem_nil⟩⟩⟩⟩⟩⟩⟩⟩⟩⟩⟩⟩⟩⟩⟩⟩⟩⟩⟩⟩⟩⟩⟩⟩⟩⟩⟩⟩⟩⟩⟩⟩⟩⟩⟩⟩⟩⟩⟩⟩⟩⟩⟩⟩⟩⟩⟩⟩⟩⟩⟩⟩⟩⟩⟩⟩⟩⟩⟩⟩
theorem ftab_ok_1_0 : fOK (49196, 12, 14, false) := ⟨12, 44, RX12, TX12, 69, rfl, by decide, rfl, by decide, rfl, wd_703⟩
theorem ftab_ok_1_1 : fOK (49199, 12, 15, false) := ⟨12, 47, RX12, TX12, 69, rfl, by decide, rfl, by decide, rfl, wd_704⟩
theorem ftab_ok_1_2 : fOK (49202, 12, 16, false) := ⟨12, 50, RX12, TX12, 69, rfl, by decide, rfl, by decide, rfl, wd_705⟩
theorem ftab_ok_1_3 : fOK (49205, 12, 17, false) := ⟨12, 53, RX12, TX12, 69, rfl, by decide, rfl, by decide, rfl, wd_706⟩
theorem ftab_ok_1_4 : fOK (49208, 12, 19, false) := ⟨12, 56, RX12, TX12, 69, rfl, by decide, rfl, by decide, rfl, wd_707⟩
theorem ftab_ok_1_5 : fOK (49211, 12, 20, false) := ⟨12, 59, RX12, TX12, 69, rfl, by decide, rfl, by decide, rfl, wd_708⟩
theorem ftab_ok_1_6 : fOK (49214, 12, 21, false) := ⟨12, 62, RX12, TX12, 69, rfl, by decide, rfl, by decide, rfl, wd_709⟩
theorem ftab_ok_1_7 : fOK (49217, 12, 22, false) := ⟨12, 65, RX12, TX12, 69, rfl, by decide, rfl, by decide, rfl, wd_710⟩
theorem ftab_ok_1_8 : fOK (49221, 12, 24, false) := ⟨12, 69, RX12, TX12, 69, rfl, by decide, rfl, by decide, rfl, wd_711⟩
theorem ftab_ok_1_9 : fOK (49224, 12, 25, false) := ⟨12, 72, RX12, TX12, 69, rfl, by decide, rfl, by decide, rfl, wd_712⟩
theorem ftab_ok_1_10 : fOK (49227, 12, 26, false) := ⟨12, 75, RX12, TX12, 69, rfl, by decide, rfl, by decide, rfl, wd_713⟩
theorem ftab_ok_1_11 : fOK (49230, 12, 28, false) := ⟨12, 78, RX12, TX12, 69, rfl, by decide, rfl, by decide, rfl, wd_714⟩
theorem ftab_ok_1_12 : fOK (49233, 12, 29, false) := ⟨12, 81, RX12, TX12, 69, rfl, by decide, rfl, by decide, rfl, wd_715⟩
theorem ftab_ok_1_13 : fOK (49236, 12, 30, false) := ⟨12, 84, RX12, TX12, 69, rfl, by decide, rfl, by decide, rfl, wd_716⟩
theorem ftab_ok_1_14 : fOK (49239, 12, 32, false) := ⟨12, 87, RX12, TX12, 69, rfl, by decide, rfl, by decide, rfl, wd_717⟩
theorem ftab_ok_1_15 : fOK (49242, 12, 33, false) := ⟨12, 90, RX12, TX12, 69, rfl, by decide, rfl, by decide, rfl, wd_718⟩
theorem ftab_ok_1_16 : fOK (49245, 12, 34, false) := ⟨12, 93, RX12, TX12, 69, rfl, by decide, rfl, by decide, rfl, wd_719⟩
theorem ftab_ok_1_17 : fOK (49248, 12, 35, false) := ⟨12, 96, RX12, TX12, 69, rfl, by decide, rfl, by decide, rfl, wd_720⟩
theorem ftab_ok_1_18 : fOK (49251, 12, 36, false) := ⟨12, 99, RX12, TX12, 69, rfl, by decide, rfl, by decide, rfl, wd_721⟩
theorem ftab_ok_1_19 : fOK (49254, 12, 37, false) := ⟨12, 102, RX12, TX12, 69, rfl, by decide, rfl, by decide, rfl, wd_722⟩
theorem ftab_ok_1_20 : fOK (49257, 12, 38, false) := ⟨12, 105, RX12, TX12, 69, rfl, by decide, rfl, by decide, rfl, wd_723⟩
theorem ftab_ok_1_21 : fOK (49260, 12, 39, false) := ⟨12, 108, RX12, TX12, 69, rfl, by decide, rfl, by decide, rfl, wd_724⟩
theorem ftab_ok_1_22 : fOK (49263, 12, 40, false) := ⟨12, 111, RX12, TX12, 69, rfl, by decide, rfl, by decide, rfl, wd_725⟩
theorem ftab_ok_1_23 : fOK (49266, 12, 41, false) := ⟨12, 114, RX12, TX12, 69, rfl, by decide, rfl, by decide, rfl, wd_726⟩
theorem ftab_ok_1_24 : fOK (49269, 12, 42, false) := ⟨12, 117, RX12, TX12, 69, rfl, by decide, rfl, by decide, rfl, wd_727⟩
theorem ftab_ok_1_25 : fOK (49272, 12, 44, false) := ⟨12, 120, RX12, TX12, 69, rfl, by decide, rfl, by decide, rfl, wd_728⟩
theorem ftab_ok_1_26 : fOK (49275, 12, 46, false) := ⟨12, 123, RX12, TX12, 69, rfl, by decide, rfl, by decide, rfl, wd_729⟩
theorem ftab_ok_1_27 : fOK (49278, 12, 47, false) := ⟨12, 126, RX12, TX12, 69, rfl, by decide, rfl, by decide, rfl, wd_730⟩
theorem ftab_ok_1_28 : fOK (49281, 12, 48, false) := ⟨12, 129, RX12, TX12, 69, rfl, by decide, rfl, by decide, rfl, wd_731⟩
theorem ftab_ok_1_29 : fOK (49284, 12, 49, false) := ⟨12, 132, RX12, TX12, 69, rfl, by decide, rfl, by decide, rfl, wd_732⟩
theorem ftab_ok_1_30 : fOK (49287, 12, 50, false) := ⟨12, 135, RX12, TX12, 69, rfl, by decide, rfl, by decide, rfl, wd_733⟩
theorem ftab_ok_1_31 : fOK (49290, 12, 52, false) := ⟨12, 138, RX12, TX12, 69, rfl, by decide, rfl, by decide, rfl, wd_734⟩
theorem ftab_ok_1_32 : fOK (49293, 12, 53, false) := ⟨12, 141, RX12, TX12, 69, rfl, by decide, rfl, by decide, rfl, wd_735⟩
theorem ftab_ok_1_33 : fOK (49296, 12, 54, false) := ⟨12, 144, RX12, TX12, 69, rfl, by decide, rfl, by decide, rfl, wd_736⟩
theorem ftab_ok_1_34 : fOK (49299, 12, 57, false) := ⟨12, 147, RX12, TX12, 69, rfl, by decide, rfl, by decide, rfl, wd_737⟩
theorem ftab_ok_1_35 : fOK (49302, 12, 59, false) := ⟨12, 150, RX12, TX12, 69, rfl, by decide, rfl, by decide, rfl, wd_738⟩
theorem ftab_ok_1_36 : fOK (49305, 12, 60, false) := ⟨12, 153, RX12, TX12, 69, rfl, by decide, rfl, by decide, rfl, wd_739⟩
theorem ftab_ok_1_37 : fOK (49308, 12, 61, false) := ⟨12, 156, RX12, TX12, 69, rfl, by decide, rfl, by decide, rfl, wd_740⟩
theorem ftab_ok_1_38 : fOK (49311, 12, 62, false) := ⟨12, 159, RX12, TX12, 69, rfl, by decide, rfl, by decide, rfl, wd_741⟩
theorem ftab_ok_1_39 : fOK (49314, 12, 63, false) := ⟨12, 162, RX12, TX12, 69, rfl, by decide, rfl, by decide, rfl, wd_742⟩
theorem ftab_ok_1_40 : fOK (49317, 12, 64, false) := ⟨12, 165, RX12, TX12, 69, rfl, by decide, rfl, by decide, rfl, wd_743⟩
theorem ftab_ok_1_41 : fOK (49320, 12, 65, false) := ⟨12, 168, RX12, TX12, 69, rfl, by decide, rfl, by decide, rfl, wd_744⟩
theorem ftab_ok_1_42 : fOK (49323, 12, 66, false) := ⟨12, 171, RX12, TX12, 69, rfl, by decide, rfl, by decide, rfl, wd_745⟩
theorem ftab_ok_1_43 : fOK (49326, 12, 67, false) := ⟨12, 174, RX12, TX12, 69, rfl, by decide, rfl, by decide, rfl, wd_746⟩
theorem ftab_ok_1_44 : fOK (49333, 12, 7, false) := ⟨12, 181, RX12, TX12, 69, rfl, by decide, rfl, by decide, rfl, wd_749⟩
theorem ftab_ok_1_45 : fOK (49336, 12, 18, false) := ⟨12, 184, RX12, TX12, 69, rfl, by decide, rfl, by decide, rfl, wd_750⟩
theorem ftab_ok_1_46 : fOK (49346, 12, 0, false) := ⟨12, 194, RX12, TX12, 69, rfl, by decide, rfl, by decide, rfl, wd_755⟩
theorem ftab_ok_1_47 : fOK (49349, 12, 2, false) := ⟨12, 197, RX12, TX12, 69, rfl, by decide, rfl, by decide, rfl, wd_756⟩
theorem ftab_ok_1_48 : fOK (49352, 12, 55, false) := ⟨12, 200, RX12, TX12, 69, rfl, by decide, rfl, by decide, rfl, wd_757⟩
theorem ftab_ok_1_49 : fOK (49355, 12, 56, false) := ⟨12, 203, RX12, TX12, 69, rfl, by decide, rfl, by decide, rfl, wd_758⟩
theorem ftab_ok_1_50 : fOK (49404, 12, 58, false) := ⟨12, 252, RX12, TX12, 69, rfl, by decide, rfl, by decide, rfl, wd_795⟩
theorem ftab_ok_1_51 : fOK (49432, 12, 27, false) := ⟨12, 280, RX12, TX12, 69, rfl, by decide, rfl, by decide, rfl, wd_816⟩
theorem ftab_ok_1_52 : fOK (49439, 12, 31, false) := ⟨12, 287, RX12, TX12, 69, rfl, by decide, rfl, by decide, rfl, wd_820⟩
theorem ftab_ok_1_53 : fOK (49451, 12, 23, false) := ⟨12, 299, RX12, TX12, 69, rfl, by decide, rfl, by decide, rfl, wd_829⟩
theorem ftab_ok_1_54 : fOK (49498, 12, 43, false) := ⟨12, 346, RX12, TX12, 69, rfl, by decide, rfl, by decide, rfl, wd_870⟩
theorem ftab_ok_1_55 : fOK (49501, 12, 45, false) := ⟨12, 349, RX12, TX12, 69, rfl, by decide, rfl, by decide, rfl, wd_871⟩
theorem ftab_ok_1_56 : fOK (49520, 12, 51, false) := ⟨12, 368, RX12, TX12, 69, rfl, by decide, rfl, by decide, rfl, wd_888⟩
theorem ftab_ok_1_57 : fOK (49526, 12, 68, false) := ⟨12, 374, RX12, TX12, 69, rfl, by decide, rfl, by decide, rfl, wd_892⟩
theorem ftab_ok_1_58 : fOK (11, 0, 0, false) := ⟨0, 11, RX0, TX0, 6, rfl, by decide, rfl, by decide, rfl, wd_916⟩
theorem ftab_ok_1_59 : fOK (15, 0, 1, false) := ⟨0, 15, RX0, TX0, 6, rfl, by decide, rfl, by decide, rfl, wd_917⟩
theorem ftab_ok_1 : ∀ e ∈ fTab_1, fOK e := List.forall_mem_cons.mpr ⟨ftab_ok_1_0, List.forall_mem_cons.mpr ⟨ftab_ok_1_1, List.forall_mem_cons.mpr ⟨ftab_ok_1_2, List.forall_mem_cons.mpr ⟨ftab_ok_1_3, List.forall_mem_cons.mpr ⟨ftab_ok_1_4, List.forall_mem_cons.mpr ⟨ftab_ok_1_5, List.forall_mem_cons.mpr ⟨ftab_ok_1_6, List.forall_mem_cons.mpr ⟨ftab_ok_1_7, List.forall_mem_cons.mpr ⟨ftab_ok_1_8, List.forall_mem_cons.mpr ⟨ftab_ok_1_9, List.forall_mem_cons.mpr ⟨ftab_ok_1_10, List.forall_mem_cons.mpr ⟨ftab_ok_1_11, List.forall_mem_cons.mpr ⟨ftab_ok_1_12, List.forall_mem_cons.mpr ⟨ftab_ok_1_13, List.forall_mem_cons.mpr ⟨ftab_ok_1_14, List.forall_mem_cons.mpr ⟨ftab_ok_1_15, List.forall_mem_cons.mpr ⟨ftab_ok_1_16, List.forall_mem_cons.mpr ⟨ftab_ok_1_17, List.forall_mem_cons.mpr ⟨ftab_ok_1_18, List.forall_mem_cons.mpr ⟨ftab_ok_1_19, List.forall_mem_cons.mpr ⟨ftab_ok_1_20, List.forall_mem_cons.mpr ⟨ftab_ok_1_21, List.forall_mem_cons.mpr ⟨ftab_ok_1_22, List.forall_mem_cons.mpr ⟨ftab_ok_1_23, List.forall_mem_cons.mpr ⟨ftab_ok_1_24, List.forall_mem_cons.mpr ⟨ftab_ok_1_25, List.forall_mem_cons.mpr ⟨ftab_ok_1_26, List.forall_mem_cons.mpr ⟨ftab_ok_1_27, List.forall_mem_cons.mpr ⟨ftab_ok_1_28, List.forall_mem_cons.mpr ⟨ftab_ok_1_29, List.forall_mem_cons.mpr ⟨ftab_ok_1_30, List.forall_mem_cons.mpr ⟨ftab_ok_1_31, List.forall_mem_cons.mpr ⟨ftab_ok_1_32, List.forall_mem_cons.mpr ⟨ftab_ok_1_33, List.forall_mem_cons.mpr ⟨ftab_ok_1_34, List.forall_mem_cons.mpr ⟨ftab_ok_1_35, List.forall_mem_cons.mpr ⟨ftab_ok_1_36, List.forall_mem_cons.mpr ⟨ftab_ok_1_37, List.forall_mem_cons.mpr ⟨ftab_ok_1_38, List.forall_mem_cons.mpr ⟨ftab_ok_1_39, List.forall_mem_cons.mpr ⟨ftab_ok_1_40, List.forall_mem_cons.mpr ⟨ftab_ok_1_41, List.forall_mem_cons.mpr ⟨ftab_ok_1_42, List.forall_mem_cons.mpr ⟨ftab_ok_1_43, List.forall_mem_cons.mpr ⟨ftab_ok_1_44, List.forall_mem_cons.mpr ⟨ftab_ok_1_45, List.forall_mem_cons.mpr ⟨ftab_ok_1_46, List.forall_mem_cons.mpr ⟨ftab_ok_1_47, List.forall_mem_cons.mpr ⟨ftab_ok_1_48, List.forall_mem_cons.mpr ⟨ftab_ok_1_49, List.forall_mem_cons.mpr ⟨ftab_ok_1_50, List.forall_mem_cons.mpr ⟨ftab_ok_1_51, List.forall_mem_cons.mpr ⟨ftab_ok_1_52, List.forall_mem_cons.mpr ⟨ftab_ok_1_53, List.forall_mem_cons.mpr ⟨ftab_ok_1_54, List.forall_mem_cons.mpr ⟨ftab_ok_1_55, List.forall_mem_cons.mpr ⟨ftab_ok_1_56, List.forall_mem_cons.mpr ⟨ftab_ok_1_57, List.forall_mem_cons.mpr ⟨ftab_ok_1_58, List.forall_mem_cons.mpr ⟨ftab_ok_1_59,  fun _ h => absurd h List.not_mem_nil⟩⟩⟩⟩⟩⟩⟩⟩⟩⟩⟩⟩⟩⟩⟩⟩⟩⟩⟩⟩⟩⟩⟩⟩⟩⟩⟩⟩⟩⟩⟩⟩⟩⟩⟩⟩⟩⟩⟩⟩⟩⟩⟩⟩⟩⟩⟩⟩⟩⟩⟩⟩⟩⟩⟩⟩⟩⟩⟩⟩
theorem ftab_ok_2_0 : fOK (18, 0, 2, false) := ⟨0, 18, RX0, TX0, 6, rfl, by decide, rfl, by decide, rfl, wd_918⟩
theorem ftab_ok_2_1 : fOK (21, 0, 3, false) := ⟨0, 21, RX0, TX0, 6, rfl, by decide, rfl, by decide, rfl, wd_919⟩
theorem ftab_ok_2_2 : fOK (24, 0, 5, false) := ⟨0, 24, RX0, TX0, 6, rfl, by decide, rfl, by decide, rfl, wd_920⟩
theorem ftab_ok_2_3 : fOK (44, 0, 4, false) := ⟨0, 44, RX0, TX0, 6, rfl, by decide, rfl, by decide, rfl, wd_930⟩
theorem ftab_ok_2_4 : fOK (4107, 1, 1, false) := ⟨1, 11, RX1, TX1, 10, rfl, by decide, rfl, by decide, rfl, wd_943⟩
theorem ftab_ok_2_5 : fOK (4111, 1, 2, false) := ⟨1, 15, RX1, TX1, 10, rfl, by decide, rfl, by decide, rfl, wd_944⟩
theorem ftab_ok_2_6 : fOK (4114, 1, 3, false) := ⟨1, 18, RX1, TX1, 10, rfl, by decide, rfl, by decide, rfl, wd_945⟩
theorem ftab_ok_2_7 : fOK (4117, 1, 4, false) := ⟨1, 21, RX1, TX1, 10, rfl, by decide, rfl, by decide, rfl, wd_946⟩
theorem ftab_ok_2_8 : fOK (4120, 1, 5, false) := ⟨1, 24, RX1, TX1, 10, rfl, by decide, rfl, by decide, rfl, wd_947⟩
theorem ftab_ok_2_9 : fOK (4123, 1, 6, false) := ⟨1, 27, RX1, TX1, 10, rfl, by decide, rfl, by decide, rfl, wd_948⟩
theorem ftab_ok_2_10 : fOK (4126, 1, 7, false) := ⟨1, 30, RX1, TX1, 10, rfl, by decide, rfl, by decide, rfl, wd_949⟩
theorem ftab_ok_2_11 : fOK (4129, 1, 0, false) := ⟨1, 33, RX1, TX1, 10, rfl, by decide, rfl, by decide, rfl, wd_950⟩
theorem ftab_ok_2_12 : fOK (4133, 1, 8, false) := ⟨1, 37, RX1, TX1, 10, rfl, by decide, rfl, by decide, rfl, wd_951⟩
theorem ftab_ok_2_13 : fOK (4151, 1, 9, false) := ⟨1, 55, RX1, TX1, 10, rfl, by decide, rfl, by decide, rfl, wd_957⟩
theorem ftab_ok_2_14 : fOK (8201, 2, 0, false) := ⟨2, 9, RX2, TX2, 4, rfl, by decide, rfl, by decide, rfl, wd_959⟩
theorem ftab_ok_2_15 : fOK (8207, 2, 1, false) := ⟨2, 15, RX2, TX2, 4, rfl, by decide, rfl, by decide, rfl, wd_960⟩
theorem ftab_ok_2_16 : fOK (8210, 2, 2, false) := ⟨2, 18, RX2, TX2, 4, rfl, by decide, rfl, by decide, rfl, wd_961⟩
theorem ftab_ok_2_17 : fOK (8213, 2, 3, false) := ⟨2, 21, RX2, TX2, 4, rfl, by decide, rfl, by decide, rfl, wd_962⟩
theorem ftab_ok_2_18 : fOK (12299, 3, 1, false) := ⟨3, 11, RX3, TX3, 10, rfl, by decide, rfl, by decide, rfl, wd_976⟩
theorem ftab_ok_2_19 : fOK (12303, 3, 2, false) := ⟨3, 15, RX3, TX3, 10, rfl, by decide, rfl, by decide, rfl, wd_977⟩
theorem ftab_ok_2_20 : fOK (12306, 3, 3, false) := ⟨3, 18, RX3, TX3, 10, rfl, by decide, rfl, by decide, rfl, wd_978⟩
theorem ftab_ok_2_21 : fOK (12309, 3, 4, false) := ⟨3, 21, RX3, TX3, 10, rfl, by decide, rfl, by decide, rfl, wd_979⟩
theorem ftab_ok_2_22 : fOK (12312, 3, 5, false) := ⟨3, 24, RX3, TX3, 10, rfl, by decide, rfl, by decide, rfl, wd_980⟩
theorem ftab_ok_2_23 : fOK (12315, 3, 6, false) := ⟨3, 27, RX3, TX3, 10, rfl, by decide, rfl, by decide, rfl, wd_981⟩
theorem ftab_ok_2_24 : fOK (12318, 3, 7, false) := ⟨3, 30, RX3, TX3, 10, rfl, by decide, rfl, by decide, rfl, wd_982⟩
theorem ftab_ok_2_25 : fOK (12321, 3, 8, false) := ⟨3, 33, RX3, TX3, 10, rfl, by decide, rfl, by decide, rfl, wd_983⟩
theorem ftab_ok_2_26 : fOK (12324, 3, 0, false) := ⟨3, 36, RX3, TX3, 10, rfl, by decide, rfl, by decide, rfl, wd_984⟩
theorem ftab_ok_2_27 : fOK (12328, 3, 9, false) := ⟨3, 40, RX3, TX3, 10, rfl, by decide, rfl, by decide, rfl, wd_985⟩
theorem ftab_ok_2_28 : fOK (12382, 1, 4, true) := ⟨3, 94, RX1, TX1, 10, rfl, by decide, rfl, by decide, rfl, wd_1015⟩
theorem ftab_ok_2_29 : fOK (16395, 4, 7, false) := ⟨4, 11, RX4, TX4, 11, rfl, by decide, rfl, by decide, rfl, wd_1016⟩
theorem ftab_ok_2_30 : fOK (16399, 4, 9, false) := ⟨4, 15, RX4, TX4, 11, rfl, by decide, rfl, by decide, rfl, wd_1017⟩
theorem ftab_ok_2_31 : fOK (16403, 4, 0, false) := ⟨4, 19, RX4, TX4, 11, rfl, by decide, rfl, by decide, rfl, wd_1018⟩
theorem ftab_ok_2_32 : fOK (16407, 4, 1, false) := ⟨4, 23, RX4, TX4, 11, rfl, by decide, rfl, by decide, rfl, wd_1019⟩
theorem ftab_ok_2_33 : fOK (16410, 4, 2, false) := ⟨4, 26, RX4, TX4, 11, rfl, by decide, rfl, by decide, rfl, wd_1020⟩
theorem ftab_ok_2_34 : fOK (16413, 4, 3, false) := ⟨4, 29, RX4, TX4, 11, rfl, by decide, rfl, by decide, rfl, wd_1021⟩
theorem ftab_ok_2_35 : fOK (16416, 4, 4, false) := ⟨4, 32, RX4, TX4, 11, rfl, by decide, rfl, by decide, rfl, wd_1022⟩
theorem ftab_ok_2_36 : fOK (16419, 4, 5, false) := ⟨4, 35, RX4, TX4, 11, rfl, by decide, rfl, by decide, rfl, wd_1023⟩
theorem ftab_ok_2_37 : fOK (16422, 4, 6, false) := ⟨4, 38, RX4, TX4, 11, rfl, by decide, rfl, by decide, rfl, wd_1024⟩
theorem ftab_ok_2_38 : fOK (16425, 4, 10, false) := ⟨4, 41, RX4, TX4, 11, rfl, by decide, rfl, by decide, rfl, wd_1025⟩
theorem ftab_ok_2_39 : fOK (16428, 4, 8, false) := ⟨4, 44, RX4, TX4, 11, rfl, by decide, rfl, by decide, rfl, wd_1026⟩
theorem ftab_ok_2_40 : fOK (20493, 5, 0, false) := ⟨5, 13, RX5, TX5, 6, rfl, by decide, rfl, by decide, rfl, wd_1031⟩
theorem ftab_ok_2_41 : fOK (20499, 5, 1, false) := ⟨5, 19, RX5, TX5, 6, rfl, by decide, rfl, by decide, rfl, wd_1033⟩
theorem ftab_ok_2_42 : fOK (20502, 5, 2, false) := ⟨5, 22, RX5, TX5, 6, rfl, by decide, rfl, by decide, rfl, wd_1034⟩
theorem ftab_ok_2_43 : fOK (20506, 5, 3, false) := ⟨5, 26, RX5, TX5, 6, rfl, by decide, rfl, by decide, rfl, wd_1035⟩
theorem ftab_ok_2_44 : fOK (20509, 5, 4, false) := ⟨5, 29, RX5, TX5, 6, rfl, by decide, rfl, by decide, rfl, wd_1036⟩
theorem ftab_ok_2_45 : fOK (20527, 4, 0, true) := ⟨5, 47, RX4, TX4, 11, rfl, by decide, rfl, by decide, rfl, wd_1044⟩
theorem ftab_ok_2_46 : fOK (20531, 4, 3, true) := ⟨5, 51, RX4, TX4, 11, rfl, by decide, rfl, by decide, rfl, wd_1045⟩
theorem ftab_ok_2_47 : fOK (20558, 9, 4, true) := ⟨5, 78, RX9, TX9, 10, rfl, by decide, rfl, by decide, rfl, wd_1062⟩
theorem ftab_ok_2_48 : fOK (20575, 5, 5, false) := ⟨5, 95, RX5, TX5, 6, rfl, by decide, rfl, by decide, rfl, wd_1070⟩
theorem ftab_ok_2_49 : fOK (20578, 4, 1, true) := ⟨5, 98, RX4, TX4, 11, rfl, by decide, rfl, by decide, rfl, wd_1071⟩
theorem ftab_ok_2_50 : fOK (24589, 6, 0, false) := ⟨6, 13, RX6, TX6, 3, rfl, by decide, rfl, by decide, rfl, wd_1079⟩
theorem ftab_ok_2_51 : fOK (24592, 6, 1, false) := ⟨6, 16, RX6, TX6, 3, rfl, by decide, rfl, by decide, rfl, wd_1080⟩
theorem ftab_ok_2_52 : fOK (24596, 6, 2, false) := ⟨6, 20, RX6, TX6, 3, rfl, by decide, rfl, by decide, rfl, wd_1081⟩
theorem ftab_ok_2_53 : fOK (28681, 7, 0, false) := ⟨7, 9, RX7, TX7, 1, rfl, by decide, rfl, by decide, rfl, wd_1084⟩
theorem ftab_ok_2_54 : fOK (32777, 8, 0, false) := ⟨8, 9, RX8, TX8, 4, rfl, by decide, rfl, by decide, rfl, wd_1098⟩
theorem ftab_ok_2_55 : fOK (32783, 8, 1, false) := ⟨8, 15, RX8, TX8, 4, rfl, by decide, rfl, by decide, rfl, wd_1100⟩
theorem ftab_ok_2_56 : fOK (32786, 8, 2, false) := ⟨8, 18, RX8, TX8, 4, rfl, by decide, rfl, by decide, rfl, wd_1101⟩
theorem ftab_ok_2_57 : fOK (32790, 8, 3, false) := ⟨8, 22, RX8, TX8, 4, rfl, by decide, rfl, by decide, rfl, wd_1102⟩
theorem ftab_ok_2_58 : fOK (36875, 9, 1, false) := ⟨9, 11, RX9, TX9, 10, rfl, by decide, rfl, by decide, rfl, wd_1112⟩
theorem ftab_ok_2_59 : fOK (36879, 9, 2, false) := ⟨9, 15, RX9, TX9, 10, rfl, by decide, rfl, by decide, rfl, wd_1113⟩
theorem ftab_ok_2 : ∀ e ∈ fTab_2, fOK e := List.forall_mem_cons.mpr ⟨ftab_ok_2_0, List.forall_mem_cons.mpr ⟨ftab_ok_2_1, List.forall_mem_cons.mpr ⟨ftab_ok_2_2, List.forall_mem_cons.mpr ⟨ftab_ok_2_3, List.forall_mem_cons.mpr ⟨ftab_ok_2_4, List.forall_mem_cons.mpr ⟨ftab_ok_2_5, List.forall_mem_cons.mpr ⟨ftab_ok_2_6, List.forall_mem_cons.mpr ⟨ftab_ok_2_7, List.forall_mem_cons.mpr ⟨ftab_ok_2_8, List.forall_mem_cons.mpr ⟨ftab_ok_2_9, List.forall_mem_cons.mpr ⟨ftab_ok_2_10, List.forall_mem_cons.mpr ⟨ftab_ok_2_11, List.forall_mem_cons.mpr ⟨ftab_ok_2_12, List.forall_mem_cons.mpr ⟨ftab_ok_2_13, List.forall_mem_cons.mpr ⟨ftab_ok_2_14, List.forall_mem_cons.mpr ⟨ftab_ok_2_15, List.forall_mem_cons.mpr ⟨ftab_ok_2_16, List.forall_mem_cons.mpr ⟨ftab_ok_2_17, List.forall_mem_cons.mpr ⟨ftab_ok_2_18, List.forall_mem_cons.mpr ⟨ftab_ok_2_19, List.forall_mem_cons.mpr ⟨ftab_ok_2_20, List.forall_mem_cons.mpr ⟨ftab_ok_2_21, List.forall_mem_cons.mpr ⟨ftab_ok_2_22, List.forall_mem_cons.mpr ⟨ftab_ok_2_23, List.forall_mem_cons.mpr ⟨ftab_ok_2_24, List.forall_mem_cons.mpr ⟨ftab_ok_2_25, List.forall_mem_cons.mpr ⟨ftab_ok_2_26, List.forall_mem_cons.mpr ⟨ftab_ok_2_27, List.forall_mem_cons.mpr ⟨ftab_ok_2_28, List.forall_mem_cons.mpr ⟨ftab_ok_2_29, List.forall_mem_cons.mpr ⟨ftab_ok_2_30, List.forall_mem_cons.mpr ⟨ftab_ok_2_31, List.forall_mem_cons.mpr ⟨ftab_ok_2_32, List.forall_mem_cons.mpr ⟨ftab_ok_2_33, List.forall_mem_cons.mpr ⟨ftab_ok_2_34, List.forall_mem_cons.mpr ⟨ftab_ok_2_35, List.forall_mem_cons.mpr ⟨ftab_ok_2_36, List.forall_mem_cons.mpr ⟨ftab_ok_2_37, List.forall_mem_cons.mpr ⟨ftab_ok_2_38, List.forall_mem_cons.mpr ⟨ftab_ok_2_39, List.forall_mem_cons.mpr ⟨ftab_ok_2_40, List.forall_mem_cons.mpr ⟨ftab_ok_2_41, List.forall_mem_cons.mpr ⟨ftab_ok_2_42, List.forall_mem_cons.mpr ⟨ftab_ok_2_43, List.forall_mem_cons.mpr ⟨ftab_ok_2_44, List.forall_mem_cons.mpr ⟨ftab_ok_2_45, List.forall_mem_cons.mpr ⟨ftab_ok_2_46, List.forall_mem_cons.mpr ⟨ftab_ok_2_47, List.forall_mem_cons.mpr ⟨ftab_ok_2_48, List.forall_mem_cons.mpr ⟨ftab_ok_2_49, List.forall_mem_cons.mpr ⟨ftab_ok_2_50, List.forall_mem_cons.mpr ⟨ftab_ok_2_51, List.forall_mem_cons.mpr ⟨ftab_ok_2_52, List.forall_mem_cons.mpr ⟨ftab_ok_2_53, List.forall_mem_cons.mpr ⟨ftab_ok_2_54, List.forall_mem_cons.mpr ⟨ftab_ok_2_55, List.forall_mem_cons.mpr ⟨ftab_ok_2_56, List.forall_mem_cons.mpr ⟨ftab_ok_2_57, List.forall_mem_cons.mpr ⟨ftab_ok_2_58, List.forall_mem_cons.mpr ⟨ftab_ok_2_59,  fun _ h => absurd h List.not_mem_nil⟩⟩⟩⟩⟩⟩⟩⟩⟩⟩⟩⟩⟩⟩⟩⟩⟩⟩⟩⟩⟩⟩⟩⟩⟩⟩⟩⟩⟩⟩⟩⟩⟩⟩⟩⟩⟩⟩⟩⟩⟩⟩⟩⟩⟩⟩⟩⟩⟩⟩⟩⟩⟩⟩⟩⟩⟩⟩⟩⟩
theorem ftab_ok_3_0 : fOK (36882, 9, 3, false) := ⟨9, 18, RX9, TX9, 10, rfl, by decide, rfl, by decide, rfl, wd_1114⟩
theorem ftab_ok_3_1 : fOK (36889, 9, 4, false) := ⟨9, 25, RX9, TX9, 10, rfl, by decide, rfl, by decide, rfl, wd_1117⟩
theorem ftab_ok_3_2 : fOK (36893, 9, 0, false) := ⟨9, 29, RX9, TX9, 10, rfl, by decide, rfl, by decide, rfl, wd_1118⟩
theorem ftab_ok_3_3 : fOK (36902, 9, 6, false) := ⟨9, 38, RX9, TX9, 10, rfl, by decide, rfl, by decide, rfl, wd_1120⟩
theorem ftab_ok_3_4 : fOK (36906, 9, 7, false) := ⟨9, 42, RX9, TX9, 10, rfl, by decide, rfl, by decide, rfl, wd_1121⟩
theorem ftab_ok_3_5 : fOK (36909, 9, 9, false) := ⟨9, 45, RX9, TX9, 10, rfl, by decide, rfl, by decide, rfl, wd_1122⟩
theorem ftab_ok_3_6 : fOK (36912, 9, 5, false) := ⟨9, 48, RX9, TX9, 10, rfl, by decide, rfl, by decide, rfl, wd_1123⟩
theorem ftab_ok_3_7 : fOK (36930, 9, 8, false) := ⟨9, 66, RX9, TX9, 10, rfl, by decide, rfl, by decide, rfl, wd_1134⟩
theorem ftab_ok_3_8 : fOK (40973, 10, 2, false) := ⟨10, 13, RX10, TX10, 11, rfl, by decide, rfl, by decide, rfl, wd_1180⟩
theorem ftab_ok_3_9 : fOK (40977, 10, 3, false) := ⟨10, 17, RX10, TX10, 11, rfl, by decide, rfl, by decide, rfl, wd_1181⟩
theorem ftab_ok_3_10 : fOK (40981, 10, 4, false) := ⟨10, 21, RX10, TX10, 11, rfl, by decide, rfl, by decide, rfl, wd_1182⟩
theorem ftab_ok_3_11 : fOK (40984, 10, 5, false) := ⟨10, 24, RX10, TX10, 11, rfl, by decide, rfl, by decide, rfl, wd_1183⟩
theorem ftab_ok_3_12 : fOK (40987, 10, 6, false) := ⟨10, 27, RX10, TX10, 11, rfl, by decide, rfl, by decide, rfl, wd_1184⟩
theorem ftab_ok_3_13 : fOK (40990, 10, 7, false) := ⟨10, 30, RX10, TX10, 11, rfl, by decide, rfl, by decide, rfl, wd_1185⟩
theorem ftab_ok_3_14 : fOK (40993, 10, 9, false) := ⟨10, 33, RX10, TX10, 11, rfl, by decide, rfl, by decide, rfl, wd_1186⟩
theorem ftab_ok_3_15 : fOK (40996, 10, 10, false) := ⟨10, 36, RX10, TX10, 11, rfl, by decide, rfl, by decide, rfl, wd_1187⟩
theorem ftab_ok_3_16 : fOK (40999, 10, 0, false) := ⟨10, 39, RX10, TX10, 11, rfl, by decide, rfl, by decide, rfl, wd_1188⟩
theorem ftab_ok_3_17 : fOK (41003, 10, 1, false) := ⟨10, 43, RX10, TX10, 11, rfl, by decide, rfl, by decide, rfl, wd_1189⟩
theorem ftab_ok_3_18 : fOK (41039, 10, 8, false) := ⟨10, 79, RX10, TX10, 11, rfl, by decide, rfl, by decide, rfl, wd_1208⟩
theorem ftab_ok_3_19 : fOK (41065, 9, 8, true) := ⟨10, 105, RX9, TX9, 10, rfl, by decide, rfl, by decide, rfl, wd_1223⟩
theorem ftab_ok_3_20 : fOK (41071, 9, 4, true) := ⟨10, 111, RX9, TX9, 10, rfl, by decide, rfl, by decide, rfl, wd_1225⟩
theorem ftab_ok_3 : ∀ e ∈ fTab_3, fOK e := List.forall_mem_cons.mpr ⟨ftab_ok_3_0, List.forall_mem_cons.mpr ⟨ftab_ok_3_1, List.forall_mem_cons.mpr ⟨ftab_ok_3_2, List.forall_mem_cons.mpr ⟨ftab_ok_3_3, List.forall_mem_cons.mpr ⟨ftab_ok_3_4, List.forall_mem_cons.mpr ⟨ftab_ok_3_5, List.forall_mem_cons.mpr ⟨ftab_ok_3_6, List.forall_mem_cons.mpr ⟨ftab_ok_3_7, List.forall_mem_cons.mpr ⟨ftab_ok_3_8, List.forall_mem_cons.mpr ⟨ftab_ok_3_9, List.forall_mem_cons.mpr ⟨ftab_ok_3_10, List.forall_mem_cons.mpr ⟨ftab_ok_3_11, List.forall_mem_cons.mpr ⟨ftab_ok_3_12, List.forall_mem_cons.mpr ⟨ftab_ok_3_13, List.forall_mem_cons.mpr ⟨ftab_ok_3_14, List.forall_mem_cons.mpr ⟨ftab_ok_3_15, List.forall_mem_cons.mpr ⟨ftab_ok_3_16, List.forall_mem_cons.mpr ⟨ftab_ok_3_17, List.forall_mem_cons.mpr ⟨ftab_ok_3_18, List.forall_mem_cons.mpr ⟨ftab_ok_3_19, List.forall_mem_cons.mpr ⟨ftab_ok_3_20,  fun _ h => absurd h List.not_mem_nil⟩⟩⟩⟩⟩⟩⟩⟩⟩⟩⟩⟩⟩⟩⟩⟩⟩⟩⟩⟩⟩
theorem ftab_ok : ∀ e ∈ fTab, fOK e := by
  intro e h
  unfold fTab at h
  simp only [List.mem_append] at h
  rcases h with h | h | h | h
  · exact ftab_ok_0 e h
  · exact ftab_ok_1 e h
  · exact ftab_ok_2 e h
  · exact ftab_ok_3 e h
theorem ctab_ok_0_0 : cOK (45071, 230, 2, true) := ⟨11, 15, rfl, by decide, mok_230, wd_344, ⟨wd_345, rfl, rfl⟩⟩
theorem ctab_ok_0_1 : cOK (45078, 183, 2, false) := ⟨11, 22, rfl, by decide, mok_183, wd_349, ⟨wd_350, rfl, rfl⟩⟩
theorem ctab_ok_0_2 : cOK (45087, 171, 2, true) := ⟨11, 31, rfl, by decide, mok_171, wd_354, ⟨wd_355, rfl, rfl⟩⟩
theorem ctab_ok_0_3 : cOK (45094, 204, 2, false) := ⟨11, 38, rfl, by decide, mok_204, wd_359, ⟨wd_360, rfl, rfl⟩⟩
theorem ctab_ok_0_4 : cOK (45103, 296, 2, false) := ⟨11, 47, rfl, by decide, mok_296, wd_364, ⟨wd_365, rfl, rfl⟩⟩
theorem ctab_ok_0_5 : cOK (45112, 268, 2, true) := ⟨11, 56, rfl, by decide, mok_268, wd_369, ⟨wd_370, rfl, rfl⟩⟩
theorem ctab_ok_0_6 : cOK (45119, 197, 2, false) := ⟨11, 63, rfl, by decide, mok_197, wd_374, ⟨wd_375, rfl, rfl⟩⟩
theorem ctab_ok_0_7 : cOK (45126, 249, 2, false) := ⟨11, 70, rfl, by decide, mok_249, wd_379, ⟨wd_380, rfl, rfl⟩⟩
theorem ctab_ok_0_8 : cOK (45133, 259, 2, true) := ⟨11, 77, rfl, by decide, mok_259, wd_384, ⟨wd_385, rfl, rfl⟩⟩
theorem ctab_ok_0_9 : cOK (45140, 279, 2, false) := ⟨11, 84, rfl, by decide, mok_279, wd_389, ⟨wd_390, rfl, rfl⟩⟩
theorem ctab_ok_0_10 : cOK (45151, 54, 0, false) := ⟨11, 95, rfl, by decide, mok_54, wd_393, wd_394⟩
theorem ctab_ok_0_11 : cOK (45163, 232, 1, false) := ⟨11, 107, rfl, by decide, mok_232, wd_397, ⟨wd_398, wd_399⟩⟩
theorem ctab_ok_0_12 : cOK (45167, 280, 1, false) := ⟨11, 111, rfl, by decide, mok_280, wd_400, ⟨wd_401, wd_402⟩⟩
theorem ctab_ok_0_13 : cOK (45171, 223, 2, false) := ⟨11, 115, rfl, by decide, mok_223, wd_405, ⟨wd_406, rfl, rfl⟩⟩
theorem ctab_ok_0_14 : cOK (45174, 234, 1, false) := ⟨11, 118, rfl, by decide, mok_234, wd_407, ⟨wd_408, wd_409⟩⟩
theorem ctab_ok_0_15 : cOK (45178, 231, 1, false) := ⟨11, 122, rfl, by decide, mok_231, wd_410, ⟨wd_411, wd_412⟩⟩
theorem ctab_ok_0_16 : cOK (45182, 233, 1, false) := ⟨11, 126, rfl, by decide, mok_233, wd_413, ⟨wd_414, wd_415⟩⟩
theorem ctab_ok_0_17 : cOK (45186, 225, 1, false) := ⟨11, 130, rfl, by decide, mok_225, wd_416, ⟨wd_417, wd_418⟩⟩
theorem ctab_ok_0_18 : cOK (45190, 226, 1, false) := ⟨11, 134, rfl, by decide, mok_226, wd_419, ⟨wd_420, wd_421⟩⟩
theorem ctab_ok_0_19 : cOK (45194, 227, 1, false) := ⟨11, 138, rfl, by decide, mok_227, wd_422, ⟨wd_423, wd_424⟩⟩
theorem ctab_ok_0_20 : cOK (45222, 55, 0, false) := ⟨11, 166, rfl, by decide, mok_55, wd_433, wd_434⟩
theorem ctab_ok_0_21 : cOK (45228, 262, 1, false) := ⟨11, 172, rfl, by decide, mok_262, wd_436, ⟨wd_437, wd_438⟩⟩
theorem ctab_ok_0_22 : cOK (45229, 238, 1, false) := ⟨11, 173, rfl, by decide, mok_238, wd_439, ⟨wd_440, wd_441⟩⟩
theorem ctab_ok_0_23 : cOK (45233, 239, 1, false) := ⟨11, 177, rfl, by decide, mok_239, wd_442, ⟨wd_443, wd_444⟩⟩
theorem ctab_ok_0_24 : cOK (45237, 185, 1, false) := ⟨11, 181, rfl, by decide, mok_185, wd_445, ⟨wd_446, wd_447⟩⟩
theorem ctab_ok_0_25 : cOK (45238, 186, 1, false) := ⟨11, 182, rfl, by decide, mok_186, wd_448, ⟨wd_449, wd_450⟩⟩
theorem ctab_ok_0_26 : cOK (45241, 184, 1, false) := ⟨11, 185, rfl, by decide, mok_184, wd_451, ⟨wd_452, wd_453⟩⟩
theorem ctab_ok_0_27 : cOK (45245, 191, 1, false) := ⟨11, 189, rfl, by decide, mok_191, wd_455, ⟨wd_456, wd_457⟩⟩
theorem ctab_ok_0_28 : cOK (45248, 194, 1, false) := ⟨11, 192, rfl, by decide, mok_194, wd_458, ⟨wd_459, wd_460⟩⟩
theorem ctab_ok_0_29 : cOK (45251, 195, 1, false) := ⟨11, 195, rfl, by decide, mok_195, wd_461, ⟨wd_462, wd_463⟩⟩
theorem ctab_ok_0_30 : cOK (45255, 193, 1, false) := ⟨11, 199, rfl, by decide, mok_193, wd_464, ⟨wd_465, wd_466⟩⟩
theorem ctab_ok_0_31 : cOK (45270, 196, 1, false) := ⟨11, 214, rfl, by decide, mok_196, wd_471, ⟨wd_472, wd_473⟩⟩
theorem ctab_ok_0_32 : cOK (45273, 240, 1, false) := ⟨11, 217, rfl, by decide, mok_240, wd_474, ⟨wd_475, wd_476⟩⟩
theorem ctab_ok_0_33 : cOK (45277, 52, 0, false) := ⟨11, 221, rfl, by decide, mok_52, wd_477, wd_478⟩
theorem ctab_ok_0_34 : cOK (45281, 241, 1, false) := ⟨11, 225, rfl, by decide, mok_241, wd_479, ⟨wd_480, wd_481⟩⟩
theorem ctab_ok_0_35 : cOK (45284, 56, 0, false) := ⟨11, 228, rfl, by decide, mok_56, wd_482, wd_483⟩
theorem ctab_ok_0_36 : cOK (45287, 172, 1, false) := ⟨11, 231, rfl, by decide, mok_172, wd_484, ⟨wd_485, wd_486⟩⟩
theorem ctab_ok_0_37 : cOK (45288, 173, 1, false) := ⟨11, 232, rfl, by decide, mok_173, wd_487, ⟨wd_488, wd_489⟩⟩
theorem ctab_ok_0_38 : cOK (45290, 250, 1, false) := ⟨11, 234, rfl, by decide, mok_250, wd_490, ⟨wd_491, wd_492⟩⟩
theorem ctab_ok_0_39 : cOK (45291, 251, 1, false) := ⟨11, 235, rfl, by decide, mok_251, wd_493, ⟨wd_494, wd_495⟩⟩
theorem ctab_ok_0_40 : cOK (45292, 252, 1, false) := ⟨11, 236, rfl, by decide, mok_252, wd_496, ⟨wd_497, wd_498⟩⟩
theorem ctab_ok_0_41 : cOK (45298, 255, 1, false) := ⟨11, 242, rfl, by decide, mok_255, wd_500, ⟨wd_501, wd_502⟩⟩
theorem ctab_ok_0_42 : cOK (45301, 258, 1, false) := ⟨11, 245, rfl, by decide, mok_258, wd_503, ⟨wd_504, wd_505⟩⟩
theorem ctab_ok_0_43 : cOK (45304, 256, 1, false) := ⟨11, 248, rfl, by decide, mok_256, wd_506, ⟨wd_507, wd_508⟩⟩
theorem ctab_ok_0_44 : cOK (45307, 20, 1, false) := ⟨11, 251, rfl, by decide, mok_20, wd_509, ⟨wd_510, wd_511⟩⟩
theorem ctab_ok_0_45 : cOK (45310, 174, 1, false) := ⟨11, 254, rfl, by decide, mok_174, wd_512, ⟨wd_513, wd_514⟩⟩
theorem ctab_ok_0_46 : cOK (45313, 175, 1, false) := ⟨11, 257, rfl, by decide, mok_175, wd_515, ⟨wd_516, wd_517⟩⟩
theorem ctab_ok_0_47 : cOK (45316, 176, 1, false) := ⟨11, 260, rfl, by decide, mok_176, wd_518, ⟨wd_519, wd_520⟩⟩
theorem ctab_ok_0_48 : cOK (45319, 177, 1, false) := ⟨11, 263, rfl, by decide, mok_177, wd_521, ⟨wd_522, wd_523⟩⟩
theorem ctab_ok_0_49 : cOK (45322, 178, 1, false) := ⟨11, 266, rfl, by decide, mok_178, wd_524, ⟨wd_525, wd_526⟩⟩
theorem ctab_ok_0_50 : cOK (45325, 179, 1, false) := ⟨11, 269, rfl, by decide, mok_179, wd_527, ⟨wd_528, wd_529⟩⟩
theorem ctab_ok_0_51 : cOK (45328, 242, 1, false) := ⟨11, 272, rfl, by decide, mok_242, wd_530, ⟨wd_531, wd_532⟩⟩
theorem ctab_ok_0_52 : cOK (45332, 263, 1, false) := ⟨11, 276, rfl, by decide, mok_263, wd_533, ⟨wd_534, wd_535⟩⟩
theorem ctab_ok_0_53 : cOK (45335, 189, 1, false) := ⟨11, 279, rfl, by decide, mok_189, wd_536, ⟨wd_537, wd_538⟩⟩
theorem ctab_ok_0_54 : cOK (45338, 51, 1, false) := ⟨11, 282, rfl, by decide, mok_51, wd_539, ⟨wd_540, wd_541⟩⟩
theorem ctab_ok_0_55 : cOK (45341, 205, 1, false) := ⟨11, 285, rfl, by decide, mok_205, wd_542, ⟨wd_543, wd_544⟩⟩
theorem ctab_ok_0_56 : cOK (45342, 206, 1, false) := ⟨11, 286, rfl, by decide, mok_206, wd_545, ⟨wd_546, wd_547⟩⟩
theorem ctab_ok_0_57 : cOK (45343, 207, 1, false) := ⟨11, 287, rfl, by decide, mok_207, wd_548, ⟨wd_549, wd_550⟩⟩
theorem ctab_ok_0_58 : cOK (45346, 208, 1, false) := ⟨11, 290, rfl, by decide, mok_208, wd_551, ⟨wd_552, wd_553⟩⟩
theorem ctab_ok_0_59 : cOK (45352, 213, 1, false) := ⟨11, 296, rfl, by decide, mok_213, wd_555, ⟨wd_556, wd_557⟩⟩
theorem ctab_ok_0 : ∀ e ∈ cTab_0, cOK e := List.forall_mem_cons.mpr ⟨ctab_ok_0_0, List.forall_mem_cons.mpr ⟨ctab_ok_0_1, List.forall_mem_cons.mpr ⟨ctab_ok_0_2, List.forall_mem_cons.mpr ⟨ctab_ok_0_3, List.forall_mem_cons.mpr ⟨ctab_ok_0_4, List.forall_mem_cons.mpr ⟨ctab_ok_0_5, List.forall_mem_cons.mpr ⟨ctab_ok_0_6, List.forall_mem_cons.mpr ⟨ctab_ok_0_7, List.forall_mem_cons.mpr ⟨ctab_ok_0_8, List.forall_mem_cons.mpr ⟨ctab_ok_0_9, List.forall_mem_cons.mpr ⟨ctab_ok_0_10, List.forall_mem_cons.mpr ⟨ctab_ok_0_11, List.forall_mem_cons.mpr ⟨ctab_ok_0_12, List.forall_mem_cons.mpr ⟨ctab_ok_0_13, List.forall_mem_cons.mpr ⟨ctab_ok_0_14, List.forall_mem_cons.mpr ⟨ctab_ok_0_15, List.forall_mem_cons.mpr ⟨ctab_ok_0_16, List.forall_mem_cons.mpr ⟨ctab_ok_0_17, List.forall_mem_cons.mpr ⟨ctab_ok_0_18, List.forall_mem_cons.mpr ⟨ctab_ok_0_19, List.forall_mem_cons.mpr ⟨ctab_ok_0_20, List.forall_mem_cons.mpr ⟨ctab_ok_0_21, List.forall_mem_cons.mpr ⟨ctab_ok_0_22, List.forall_mem_cons.mpr ⟨ctab_ok_0_23, List.forall_mem_cons.mpr ⟨ctab_ok_0_24, List.forall_mem_cons.mpr ⟨ctab_ok_0_25, List.forall_mem_cons.mpr ⟨ctab_ok_0_26, List.forall_mem_cons.mpr ⟨ctab_ok_0_27, List.forall_mem_cons.mpr ⟨ctab_ok_0_28, List.forall_mem_cons.mpr ⟨ctab_ok_0_29, List.forall_mem_cons.mpr ⟨ctab_ok_0_30, List.forall_mem_cons.mpr ⟨ctab_ok_0_31, List.forall_mem_cons.mpr ⟨ctab_ok_0_32, List.forall_mem_cons.mpr ⟨ctab_ok_0_33, List.forall_mem_cons.mpr ⟨ctab_ok_0_34, List.forall_mem_cons.mpr ⟨ctab_ok_0_35, List.forall_mem_cons.mpr ⟨ctab_ok_0_36, List.forall_mem_cons.mpr ⟨ctab_ok_0_37, List.forall_mem_cons.mpr ⟨ctab_ok_0_38, List.forall_mem_cons.mpr ⟨ctab_ok_0_39, List.forall_mem_cons.mpr ⟨ctab_ok_0_40, List.forall_mem_cons.mpr ⟨ctab_ok_0_41, List.forall_mem_cons.mpr ⟨ctab_ok_0_42, List.forall_mem_cons.mpr ⟨ctab_ok_0_43, List.forall_mem_cons.mpr ⟨ctab_ok_0_44, List.forall_mem_cons.mpr ⟨ctab_ok_0_45, List.forall_mem_cons.mpr ⟨ctab_ok_0_46, List.forall_mem_cons.mpr ⟨ctab_ok_0_47, List.forall_mem_cons.mpr ⟨ctab_ok_0_48, List.forall_mem_cons.mpr ⟨ctab_ok_0_49, List.forall_mem_cons.mpr ⟨ctab_ok_0_50, List.forall_mem_cons.mpr ⟨ctab_ok_0_51, List.forall_mem_cons.mpr ⟨ctab_ok_0_52, List.forall_mem_cons.mpr ⟨ctab_ok_0_53, List.forall_mem_cons.mpr ⟨ctab_ok_0_54, List.forall_mem_cons.mpr ⟨ctab_ok_0_55, List.forall_mem_cons.mpr ⟨ctab_ok_0_56, List.forall_mem_cons.mpr ⟨ctab_ok_0_57, List.forall_mem_cons.mpr ⟨ctab_ok_0_58, List.forall_mem_cons.mpr ⟨ctab_ok_0_59,  fun _ h => absurd h List.not_mem_nil⟩⟩⟩⟩⟩⟩⟩⟩⟩⟩⟩⟩⟩⟩⟩⟩⟩⟩⟩⟩⟩⟩⟩⟩⟩⟩⟩⟩⟩⟩⟩⟩⟩⟩⟩⟩⟩⟩⟩⟩⟩⟩⟩⟩⟩⟩⟩⟩⟩⟩⟩⟩⟩⟩⟩⟩⟩⟩⟩⟩
theorem ctab_ok_1_0 : cOK (45355, 214, 1, false) := ⟨11, 299, rfl, by decide, mok_214, wd_558, ⟨wd_559, wd_560⟩⟩
theorem ctab_ok_1_1 : cOK (45358, 209, 1, false) := ⟨11, 302, rfl, by decide, mok_209, wd_561, ⟨wd_562, wd_563⟩⟩
theorem ctab_ok_1_2 : cOK (45373, 212, 1, false) := ⟨11, 317, rfl, by decide, mok_212, wd_568, ⟨wd_569, wd_570⟩⟩
theorem ctab_ok_1_3 : cOK (45376, 211, 1, false) := ⟨11, 320, rfl, by decide, mok_211, wd_571, ⟨wd_572, wd_573⟩⟩
theorem ctab_ok_1_4 : cOK (45379, 192, 1, false) := ⟨11, 323, rfl, by decide, mok_192, wd_574, ⟨wd_575, wd_576⟩⟩
theorem ctab_ok_1_5 : cOK (45385, 297, 1, false) := ⟨11, 329, rfl, by decide, mok_297, wd_578, ⟨wd_579, wd_580⟩⟩
theorem ctab_ok_1_6 : cOK (45388, 298, 1, false) := ⟨11, 332, rfl, by decide, mok_298, wd_581, ⟨wd_582, wd_583⟩⟩
theorem ctab_ok_1_7 : cOK (45390, 299, 1, false) := ⟨11, 334, rfl, by decide, mok_299, wd_584, ⟨wd_585, wd_586⟩⟩
theorem ctab_ok_1_8 : cOK (45393, 301, 1, false) := ⟨11, 337, rfl, by decide, mok_301, wd_587, ⟨wd_588, wd_589⟩⟩
theorem ctab_ok_1_9 : cOK (45396, 302, 1, false) := ⟨11, 340, rfl, by decide, mok_302, wd_590, ⟨wd_591, wd_592⟩⟩
theorem ctab_ok_1_10 : cOK (45399, 303, 1, false) := ⟨11, 343, rfl, by decide, mok_303, wd_593, ⟨wd_594, wd_595⟩⟩
theorem ctab_ok_1_11 : cOK (45402, 305, 1, false) := ⟨11, 346, rfl, by decide, mok_305, wd_596, ⟨wd_597, wd_598⟩⟩
theorem ctab_ok_1_12 : cOK (45405, 304, 1, false) := ⟨11, 349, rfl, by decide, mok_304, wd_599, ⟨wd_600, wd_601⟩⟩
theorem ctab_ok_1_13 : cOK (45408, 269, 1, false) := ⟨11, 352, rfl, by decide, mok_269, wd_602, ⟨wd_603, wd_604⟩⟩
theorem ctab_ok_1_14 : cOK (45411, 270, 1, false) := ⟨11, 355, rfl, by decide, mok_270, wd_605, ⟨wd_606, wd_607⟩⟩
theorem ctab_ok_1_15 : cOK (45414, 271, 1, false) := ⟨11, 358, rfl, by decide, mok_271, wd_608, ⟨wd_609, wd_610⟩⟩
theorem ctab_ok_1_16 : cOK (45417, 272, 1, false) := ⟨11, 361, rfl, by decide, mok_272, wd_611, ⟨wd_612, wd_613⟩⟩
theorem ctab_ok_1_17 : cOK (45430, 273, 1, false) := ⟨11, 374, rfl, by decide, mok_273, wd_617, ⟨wd_618, wd_619⟩⟩
theorem ctab_ok_1_18 : cOK (45433, 274, 1, false) := ⟨11, 377, rfl, by decide, mok_274, wd_620, ⟨wd_621, wd_622⟩⟩
theorem ctab_ok_1_19 : cOK (45436, 275, 1, false) := ⟨11, 380, rfl, by decide, mok_275, wd_623, ⟨wd_624, wd_625⟩⟩
theorem ctab_ok_1_20 : cOK (45439, 276, 1, false) := ⟨11, 383, rfl, by decide, mok_276, wd_626, ⟨wd_627, wd_628⟩⟩
theorem ctab_ok_1_21 : cOK (45445, 53, 0, false) := ⟨11, 389, rfl, by decide, mok_53, wd_630, wd_631⟩
theorem ctab_ok_1_22 : cOK (45452, 198, 1, false) := ⟨11, 396, rfl, by decide, mok_198, wd_633, ⟨wd_634, wd_635⟩⟩
theorem ctab_ok_1_23 : cOK (45460, 199, 1, false) := ⟨11, 404, rfl, by decide, mok_199, wd_638, ⟨wd_639, wd_640⟩⟩
theorem ctab_ok_1_24 : cOK (45463, 200, 1, false) := ⟨11, 407, rfl, by decide, mok_200, wd_641, ⟨wd_642, wd_643⟩⟩
theorem ctab_ok_1_25 : cOK (45466, 243, 1, false) := ⟨11, 410, rfl, by decide, mok_243, wd_644, ⟨wd_645, wd_646⟩⟩
theorem ctab_ok_1_26 : cOK (45469, 246, 1, false) := ⟨11, 413, rfl, by decide, mok_246, wd_647, ⟨wd_648, wd_649⟩⟩
theorem ctab_ok_1_27 : cOK (45473, 247, 1, false) := ⟨11, 417, rfl, by decide, mok_247, wd_650, ⟨wd_651, wd_652⟩⟩
theorem ctab_ok_1_28 : cOK (45476, 248, 1, false) := ⟨11, 420, rfl, by decide, mok_248, wd_653, ⟨wd_654, wd_655⟩⟩
theorem ctab_ok_1_29 : cOK (45479, 244, 1, false) := ⟨11, 423, rfl, by decide, mok_244, wd_656, ⟨wd_657, wd_658⟩⟩
theorem ctab_ok_1_30 : cOK (45482, 57, 0, false) := ⟨11, 426, rfl, by decide, mok_57, wd_659, wd_660⟩
theorem ctab_ok_1_31 : cOK (45488, 210, 1, false) := ⟨11, 432, rfl, by decide, mok_210, wd_664, ⟨wd_665, wd_666⟩⟩
theorem ctab_ok_1_32 : cOK (45491, 300, 1, false) := ⟨11, 435, rfl, by decide, mok_300, wd_667, ⟨wd_668, wd_669⟩⟩
theorem ctab_ok_1_33 : cOK (45497, 253, 1, false) := ⟨11, 441, rfl, by decide, mok_253, wd_671, ⟨wd_672, wd_673⟩⟩
theorem ctab_ok_1_34 : cOK (45500, 254, 1, false) := ⟨11, 444, rfl, by decide, mok_254, wd_674, ⟨wd_675, wd_676⟩⟩
theorem ctab_ok_1_35 : cOK (45504, 257, 1, false) := ⟨11, 448, rfl, by decide, mok_257, wd_677, ⟨wd_678, wd_679⟩⟩
theorem ctab_ok_1_36 : cOK (45519, 188, 1, false) := ⟨11, 463, rfl, by decide, mok_188, wd_683, ⟨wd_684, wd_685⟩⟩
theorem ctab_ok_1_37 : cOK (45521, 264, 1, false) := ⟨11, 465, rfl, by decide, mok_264, wd_686, ⟨wd_687, wd_688⟩⟩
theorem ctab_ok_1_38 : cOK (45524, 265, 1, false) := ⟨11, 468, rfl, by decide, mok_265, wd_689, ⟨wd_690, wd_691⟩⟩
theorem ctab_ok_1_39 : cOK (49329, 66, 0, false) := ⟨12, 177, rfl, by decide, mok_66, wd_747, wd_748⟩
theorem ctab_ok_1_40 : cOK (49339, 71, 0, false) := ⟨12, 187, rfl, by decide, mok_71, wd_751, wd_752⟩
theorem ctab_ok_1_41 : cOK (49343, 72, 0, false) := ⟨12, 191, rfl, by decide, mok_72, wd_753, wd_754⟩
theorem ctab_ok_1_42 : cOK (49359, 76, 1, false) := ⟨12, 207, rfl, by decide, mok_76, wd_759, ⟨wd_760, wd_761⟩⟩
theorem ctab_ok_1_43 : cOK (49363, 77, 1, false) := ⟨12, 211, rfl, by decide, mok_77, wd_762, ⟨wd_763, wd_764⟩⟩
theorem ctab_ok_1_44 : cOK (49367, 78, 1, false) := ⟨12, 215, rfl, by decide, mok_78, wd_765, ⟨wd_766, wd_767⟩⟩
theorem ctab_ok_1_45 : cOK (49371, 79, 1, false) := ⟨12, 219, rfl, by decide, mok_79, wd_768, ⟨wd_769, wd_770⟩⟩
theorem ctab_ok_1_46 : cOK (49375, 81, 1, false) := ⟨12, 223, rfl, by decide, mok_81, wd_771, ⟨wd_772, wd_773⟩⟩
theorem ctab_ok_1_47 : cOK (49378, 80, 1, false) := ⟨12, 226, rfl, by decide, mok_80, wd_774, ⟨wd_775, wd_776⟩⟩
theorem ctab_ok_1_48 : cOK (49381, 82, 1, false) := ⟨12, 229, rfl, by decide, mok_82, wd_777, ⟨wd_778, wd_779⟩⟩
theorem ctab_ok_1_49 : cOK (49384, 73, 0, false) := ⟨12, 232, rfl, by decide, mok_73, wd_780, wd_781⟩
theorem ctab_ok_1_50 : cOK (49387, 84, 0, false) := ⟨12, 235, rfl, by decide, mok_84, wd_782, wd_783⟩
theorem ctab_ok_1_51 : cOK (49391, 83, 1, false) := ⟨12, 239, rfl, by decide, mok_83, wd_784, ⟨wd_785, wd_786⟩⟩
theorem ctab_ok_1_52 : cOK (49394, 68, 1, false) := ⟨12, 242, rfl, by decide, mok_68, wd_787, ⟨wd_788, wd_789⟩⟩
theorem ctab_ok_1_53 : cOK (49398, 67, 0, false) := ⟨12, 246, rfl, by decide, mok_67, wd_790, wd_791⟩
theorem ctab_ok_1_54 : cOK (49401, 85, 1, false) := ⟨12, 249, rfl, by decide, mok_85, wd_792, ⟨wd_793, wd_794⟩⟩
theorem ctab_ok_1_55 : cOK (49407, 91, 1, false) := ⟨12, 255, rfl, by decide, mok_91, wd_796, ⟨wd_797, wd_798⟩⟩
theorem ctab_ok_1_56 : cOK (49410, 92, 1, false) := ⟨12, 258, rfl, by decide, mok_92, wd_799, ⟨wd_800, wd_801⟩⟩
theorem ctab_ok_1_57 : cOK (49414, 94, 0, false) := ⟨12, 262, rfl, by decide, mok_94, wd_802, wd_803⟩
theorem ctab_ok_1_58 : cOK (49418, 93, 1, false) := ⟨12, 266, rfl, by decide, mok_93, wd_804, ⟨wd_805, wd_806⟩⟩
theorem ctab_ok_1_59 : cOK (49422, 69, 1, false) := ⟨12, 270, rfl, by decide, mok_69, wd_807, ⟨wd_808, wd_809⟩⟩
theorem ctab_ok_1 : ∀ e ∈ cTab_1, cOK e := List.forall_mem_cons.mpr ⟨ctab_ok_1_0, List.forall_mem_cons.mpr ⟨ctab_ok_1_1, List.forall_mem_cons.mpr ⟨ctab_ok_1_2, List.forall_mem_cons.mpr ⟨ctab_ok_1_3, List.forall_mem_cons.mpr ⟨ctab_ok_1_4, List.forall_mem_cons.mpr ⟨ctab_ok_1_5, List.forall_mem_cons.mpr ⟨ctab_ok_1_6, List.forall_mem_cons.mpr ⟨ctab_ok_1_7, List.forall_mem_cons.mpr ⟨ctab_ok_1_8, List.forall_mem_cons.mpr ⟨ctab_ok_1_9, List.forall_mem_cons.mpr ⟨ctab_ok_1_10, List.forall_mem_cons.mpr ⟨ctab_ok_1_11, List.forall_mem_cons.mpr ⟨ctab_ok_1_12, List.forall_mem_cons.mpr ⟨ctab_ok_1_13, List.forall_mem_cons.mpr ⟨ctab_ok_1_14, List.forall_mem_cons.mpr ⟨ctab_ok_1_15, List.forall_mem_cons.mpr ⟨ctab_ok_1_16, List.forall_mem_cons.mpr ⟨ctab_ok_1_17, List.forall_mem_cons.mpr ⟨ctab_ok_1_18, List.forall_mem_cons.mpr ⟨ctab_ok_1_19, List.forall_mem_cons.mpr ⟨ctab_ok_1_20, List.forall_mem_cons.mpr ⟨ctab_ok_1_21, List.forall_mem_cons.mpr ⟨ctab_ok_1_22, List.forall_mem_cons.mpr ⟨ctab_ok_1_23, List.forall_mem_cons.mpr ⟨ctab_ok_1_24, List.forall_mem_cons.mpr ⟨ctab_ok_1_25, List.forall_mem_cons.mpr ⟨ctab_ok_1_26, List.forall_mem_cons.mpr ⟨ctab_ok_1_27, List.forall_mem_cons.mpr ⟨ctab_ok_1_28, List.forall_mem_cons.mpr ⟨ctab_ok_1_29, List.forall_mem_cons.mpr ⟨ctab_ok_1_30, List.forall_mem_cons.mpr ⟨ctab_ok_1_31, List.forall_mem_cons.mpr ⟨ctab_ok_1_32, List.forall_mem_cons.mpr ⟨ctab_ok_1_33, List.forall_mem_cons.mpr ⟨ctab_ok_1_34, List.forall_mem_cons.mpr ⟨ctab_ok_1_35, List.forall_mem_cons.mpr ⟨ctab_ok_1_36, List.forall_mem_cons.mpr ⟨ctab_ok_1_37, List.forall_mem_cons.mpr ⟨ctab_ok_1_38, List.forall_mem_cons.mpr ⟨ctab_ok_1_39, List.forall_mem_cons.mpr ⟨ctab_ok_1_40, List.forall_mem_cons.mpr ⟨ctab_ok_1_41, List.forall_mem_cons.mpr ⟨ctab_ok_1_42, List.forall_mem_cons.mpr ⟨ctab_ok_1_43, List.forall_mem_cons.mpr ⟨ctab_ok_1_44, List.forall_mem_cons.mpr ⟨ctab_ok_1_45, List.forall_mem_cons.mpr ⟨ctab_ok_1_46, List.forall_mem_cons.mpr ⟨ctab_ok_1_47, List.forall_mem_cons.mpr ⟨ctab_ok_1_48, List.forall_mem_cons.mpr ⟨ctab_ok_1_49, List.forall_mem_cons.mpr ⟨ctab_ok_1_50, List.forall_mem_cons.mpr ⟨ctab_ok_1_51, List.forall_mem_cons.mpr ⟨ctab_ok_1_52, List.forall_mem_cons.mpr ⟨ctab_ok_1_53, List.forall_mem_cons.mpr ⟨ctab_ok_1_54, List.forall_mem_cons.mpr ⟨ctab_ok_1_55, List.forall_mem_cons.mpr ⟨ctab_ok_1_56, List.forall_mem_cons.mpr ⟨ctab_ok_1_57, List.forall_mem_cons.mpr ⟨ctab_ok_1_58, List.forall_mem_cons.mpr ⟨ctab_ok_1_59,  fun _ h => absurd h List.not_mem_nil⟩⟩⟩⟩⟩⟩⟩⟩⟩⟩⟩⟩⟩⟩⟩⟩⟩⟩⟩⟩⟩⟩⟩⟩⟩⟩⟩⟩⟩⟩⟩⟩⟩⟩⟩⟩⟩⟩⟩⟩⟩⟩⟩⟩⟩⟩⟩⟩⟩⟩⟩⟩⟩⟩⟩⟩⟩⟩⟩⟩
theorem ctab_ok_2_0 : cOK (49425, 99, 1, false) := ⟨12, 273, rfl, by decide, mok_99, wd_810, ⟨wd_811, wd_812⟩⟩
theorem ctab_ok_2_1 : cOK (49428, 100, 1, false) := ⟨12, 276, rfl, by decide, mok_100, wd_813, ⟨wd_814, wd_815⟩⟩
theorem ctab_ok_2_2 : cOK (49435, 103, 1, false) := ⟨12, 283, rfl, by decide, mok_103, wd_817, ⟨wd_818, wd_819⟩⟩
theorem ctab_ok_2_3 : cOK (49442, 110, 0, false) := ⟨12, 290, rfl, by decide, mok_110, wd_821, wd_822⟩
theorem ctab_ok_2_4 : cOK (49445, 109, 1, false) := ⟨12, 293, rfl, by decide, mok_109, wd_823, ⟨wd_824, wd_825⟩⟩
theorem ctab_ok_2_5 : cOK (49448, 111, 1, false) := ⟨12, 296, rfl, by decide, mok_111, wd_826, ⟨wd_827, wd_828⟩⟩
theorem ctab_ok_2_6 : cOK (49454, 70, 0, false) := ⟨12, 302, rfl, by decide, mok_70, wd_830, wd_831⟩
theorem ctab_ok_2_7 : cOK (49457, 114, 1, false) := ⟨12, 305, rfl, by decide, mok_114, wd_832, ⟨wd_833, wd_834⟩⟩
theorem ctab_ok_2_8 : cOK (49460, 117, 0, false) := ⟨12, 308, rfl, by decide, mok_117, wd_835, wd_836⟩
theorem ctab_ok_2_9 : cOK (49463, 118, 1, false) := ⟨12, 311, rfl, by decide, mok_118, wd_837, ⟨wd_838, wd_839⟩⟩
theorem ctab_ok_2_10 : cOK (49466, 119, 1, false) := ⟨12, 314, rfl, by decide, mok_119, wd_840, ⟨wd_841, wd_842⟩⟩
theorem ctab_ok_2_11 : cOK (49469, 124, 1, false) := ⟨12, 317, rfl, by decide, mok_124, wd_843, ⟨wd_844, wd_845⟩⟩
theorem ctab_ok_2_12 : cOK (49472, 127, 1, false) := ⟨12, 320, rfl, by decide, mok_127, wd_846, ⟨wd_847, wd_848⟩⟩
theorem ctab_ok_2_13 : cOK (49475, 128, 1, false) := ⟨12, 323, rfl, by decide, mok_128, wd_849, ⟨wd_850, wd_851⟩⟩
theorem ctab_ok_2_14 : cOK (49478, 129, 1, false) := ⟨12, 326, rfl, by decide, mok_129, wd_852, ⟨wd_853, wd_854⟩⟩
theorem ctab_ok_2_15 : cOK (49481, 130, 1, false) := ⟨12, 329, rfl, by decide, mok_130, wd_855, ⟨wd_856, wd_857⟩⟩
theorem ctab_ok_2_16 : cOK (49485, 131, 1, false) := ⟨12, 333, rfl, by decide, mok_131, wd_858, ⟨wd_859, wd_860⟩⟩
theorem ctab_ok_2_17 : cOK (49488, 132, 1, false) := ⟨12, 336, rfl, by decide, mok_132, wd_861, ⟨wd_862, wd_863⟩⟩
theorem ctab_ok_2_18 : cOK (49492, 138, 1, false) := ⟨12, 340, rfl, by decide, mok_138, wd_864, ⟨wd_865, wd_866⟩⟩
theorem ctab_ok_2_19 : cOK (49495, 139, 1, false) := ⟨12, 343, rfl, by decide, mok_139, wd_867, ⟨wd_868, wd_869⟩⟩
theorem ctab_ok_2_20 : cOK (49504, 145, 1, false) := ⟨12, 352, rfl, by decide, mok_145, wd_872, ⟨wd_873, wd_874⟩⟩
theorem ctab_ok_2_21 : cOK (49507, 148, 1, false) := ⟨12, 355, rfl, by decide, mok_148, wd_875, ⟨wd_876, wd_877⟩⟩
theorem ctab_ok_2_22 : cOK (49511, 150, 1, false) := ⟨12, 359, rfl, by decide, mok_150, wd_879, ⟨wd_880, wd_881⟩⟩
theorem ctab_ok_2_23 : cOK (49514, 151, 1, false) := ⟨12, 362, rfl, by decide, mok_151, wd_882, ⟨wd_883, wd_884⟩⟩
theorem ctab_ok_2_24 : cOK (49517, 152, 1, false) := ⟨12, 365, rfl, by decide, mok_152, wd_885, ⟨wd_886, wd_887⟩⟩
theorem ctab_ok_2_25 : cOK (49523, 155, 1, false) := ⟨12, 371, rfl, by decide, mok_155, wd_889, ⟨wd_890, wd_891⟩⟩
theorem ctab_ok_2_26 : cOK (49529, 156, 1, false) := ⟨12, 377, rfl, by decide, mok_156, wd_893, ⟨wd_894, wd_895⟩⟩
theorem ctab_ok_2_27 : cOK (49532, 157, 1, false) := ⟨12, 380, rfl, by decide, mok_157, wd_896, ⟨wd_897, wd_898⟩⟩
theorem ctab_ok_2_28 : cOK (49535, 158, 1, false) := ⟨12, 383, rfl, by decide, mok_158, wd_899, ⟨wd_900, wd_901⟩⟩
theorem ctab_ok_2_29 : cOK (49538, 159, 1, false) := ⟨12, 386, rfl, by decide, mok_159, wd_902, ⟨wd_903, wd_904⟩⟩
theorem ctab_ok_2_30 : cOK (49541, 160, 1, false) := ⟨12, 389, rfl, by decide, mok_160, wd_905, ⟨wd_906, wd_907⟩⟩
theorem ctab_ok_2_31 : cOK (49544, 161, 1, false) := ⟨12, 392, rfl, by decide, mok_161, wd_908, ⟨wd_909, wd_910⟩⟩
theorem ctab_ok_2_32 : cOK (49547, 162, 1, false) := ⟨12, 395, rfl, by decide, mok_162, wd_911, ⟨wd_912, wd_913⟩⟩
theorem ctab_ok_2_33 : cOK (49550, 165, 0, false) := ⟨12, 398, rfl, by decide, mok_165, wd_914, wd_915⟩
theorem ctab_ok_2_34 : cOK (28, 182, 1, false) := ⟨0, 28, rfl, by decide, mok_182, wd_921, ⟨wd_922, wd_923⟩⟩
theorem ctab_ok_2_35 : cOK (32, 180, 1, false) := ⟨0, 32, rfl, by decide, mok_180, wd_924, ⟨wd_925, wd_926⟩⟩
theorem ctab_ok_2_36 : cOK (36, 177, 1, false) := ⟨0, 36, rfl, by decide, mok_177, wd_927, ⟨wd_522, wd_523⟩⟩
theorem ctab_ok_2_37 : cOK (40, 59, 0, true) := ⟨0, 40, rfl, by decide, mok_59, wd_928, wd_929⟩
theorem ctab_ok_2_38 : cOK (47, 318, 0, false) := ⟨0, 47, rfl, by decide, mok_318, wd_931, wd_932⟩
theorem ctab_ok_2_39 : cOK (52, 179, 1, false) := ⟨0, 52, rfl, by decide, mok_179, wd_933, ⟨wd_528, wd_529⟩⟩
theorem ctab_ok_2_40 : cOK (55, 319, 0, false) := ⟨0, 55, rfl, by decide, mok_319, wd_934, wd_935⟩
theorem ctab_ok_2_41 : cOK (61, 181, 1, false) := ⟨0, 61, rfl, by decide, mok_181, wd_936, ⟨wd_937, wd_938⟩⟩
theorem ctab_ok_2_42 : cOK (64, 58, 0, true) := ⟨0, 64, rfl, by decide, mok_58, wd_939, wd_940⟩
theorem ctab_ok_2_43 : cOK (67, 61, 0, true) := ⟨0, 67, rfl, by decide, mok_61, wd_941, wd_942⟩
theorem ctab_ok_2_44 : cOK (4137, 187, 1, false) := ⟨1, 41, rfl, by decide, mok_187, wd_952, ⟨wd_953, wd_954⟩⟩
theorem ctab_ok_2_45 : cOK (4141, 188, 1, false) := ⟨1, 45, rfl, by decide, mok_188, wd_955, ⟨wd_684, wd_685⟩⟩
theorem ctab_ok_2_46 : cOK (4145, 238, 1, false) := ⟨1, 49, rfl, by decide, mok_238, wd_956, ⟨wd_440, wd_441⟩⟩
theorem ctab_ok_2_47 : cOK (4154, 191, 1, false) := ⟨1, 58, rfl, by decide, mok_191, wd_958, ⟨wd_456, wd_457⟩⟩
theorem ctab_ok_2_48 : cOK (8216, 319, 0, false) := ⟨2, 24, rfl, by decide, mok_319, wd_963, wd_935⟩
theorem ctab_ok_2_49 : cOK (8223, 202, 1, false) := ⟨2, 31, rfl, by decide, mok_202, wd_965, ⟨wd_966, wd_967⟩⟩
theorem ctab_ok_2_50 : cOK (8227, 203, 1, false) := ⟨2, 35, rfl, by decide, mok_203, wd_968, ⟨wd_969, wd_970⟩⟩
theorem ctab_ok_2_51 : cOK (8231, 318, 0, false) := ⟨2, 39, rfl, by decide, mok_318, wd_971, wd_932⟩
theorem ctab_ok_2_52 : cOK (8236, 199, 1, false) := ⟨2, 44, rfl, by decide, mok_199, wd_972, ⟨wd_639, wd_640⟩⟩
theorem ctab_ok_2_53 : cOK (8240, 201, 1, false) := ⟨2, 48, rfl, by decide, mok_201, wd_973, ⟨wd_974, wd_975⟩⟩
theorem ctab_ok_2_54 : cOK (12332, 219, 1, false) := ⟨3, 44, rfl, by decide, mok_219, wd_986, ⟨wd_987, wd_988⟩⟩
theorem ctab_ok_2_55 : cOK (12336, 215, 1, false) := ⟨3, 48, rfl, by decide, mok_215, wd_989, ⟨wd_990, wd_991⟩⟩
theorem ctab_ok_2_56 : cOK (12340, 191, 1, false) := ⟨3, 52, rfl, by decide, mok_191, wd_992, ⟨wd_456, wd_457⟩⟩
theorem ctab_ok_2_57 : cOK (12346, 216, 1, false) := ⟨3, 58, rfl, by decide, mok_216, wd_993, ⟨wd_994, wd_995⟩⟩
theorem ctab_ok_2_58 : cOK (12350, 212, 1, false) := ⟨3, 62, rfl, by decide, mok_212, wd_996, ⟨wd_569, wd_570⟩⟩
theorem ctab_ok_2_59 : cOK (12354, 318, 0, false) := ⟨3, 66, rfl, by decide, mok_318, wd_997, wd_932⟩
theorem ctab_ok_2 : ∀ e ∈ cTab_2, cOK e := List.forall_mem_cons.mpr ⟨ctab_ok_2_0, List.forall_mem_cons.mpr ⟨ctab_ok_2_1, List.forall_mem_cons.mpr ⟨ctab_ok_2_2, List.forall_mem_cons.mpr ⟨ctab_ok_2_3, List.forall_mem_cons.mpr ⟨ctab_ok_2_4, List.forall_mem_cons.mpr ⟨ctab_ok_2_5, List.forall_mem_cons.mpr ⟨ctab_ok_2_6, List.forall_mem_cons.mpr ⟨ctab_ok_2_7, List.forall_mem_cons.mpr ⟨ctab_ok_2_8, List.forall_mem_cons.mpr ⟨ctab_ok_2_9, List.forall_mem_cons.mpr ⟨ctab_ok_2_10, List.forall_mem_cons.mpr ⟨ctab_ok_2_11, List.forall_mem_cons.mpr ⟨ctab_ok_2_12, List.forall_mem_cons.mpr ⟨ctab_ok_2_13, List.forall_mem_cons.mpr ⟨ctab_ok_2_14, List.forall_mem_cons.mpr ⟨ctab_ok_2_15, List.forall_mem_cons.mpr ⟨ctab_ok_2_16, List.forall_mem_cons.mpr ⟨ctab_ok_2_17, List.forall_mem_cons.mpr ⟨ctab_ok_2_18, List.forall_mem_cons.mpr ⟨ctab_ok_2_19, List.forall_mem_cons.mpr ⟨ctab_ok_2_20, List.forall_mem_cons.mpr ⟨ctab_ok_2_21, List.forall_mem_cons.mpr ⟨ctab_ok_2_22, List.forall_mem_cons.mpr ⟨ctab_ok_2_23, List.forall_mem_cons.mpr ⟨ctab_ok_2_24, List.forall_mem_cons.mpr ⟨ctab_ok_2_25, List.forall_mem_cons.mpr ⟨ctab_ok_2_26, List.forall_mem_cons.mpr ⟨ctab_ok_2_27, List.forall_mem_cons.mpr ⟨ctab_ok_2_28, List.forall_mem_cons.mpr ⟨ctab_ok_2_29, List.forall_mem_cons.mpr ⟨ctab_ok_2_30, List.forall_mem_cons.mpr ⟨ctab_ok_2_31, List.forall_mem_cons.mpr ⟨ctab_ok_2_32, List.forall_mem_cons.mpr ⟨ctab_ok_2_33, List.forall_mem_cons.mpr ⟨ctab_ok_2_34, List.forall_mem_cons.mpr ⟨ctab_ok_2_35, List.forall_mem_cons.mpr ⟨ctab_ok_2_36, List.forall_mem_cons.mpr ⟨ctab_ok_2_37, List.forall_mem_cons.mpr ⟨ctab_ok_2_38, List.forall_mem_cons.mpr ⟨ctab_ok_2_39, List.forall_mem_cons.mpr ⟨ctab_ok_2_40, List.forall_mem_cons.mpr ⟨ctab_ok_2_41, List.forall_mem_cons.mpr ⟨ctab_ok_2_42, List.forall_mem_cons.mpr ⟨ctab_ok_2_43, List.forall_mem_cons.mpr ⟨ctab_ok_2_44, List.forall_mem_cons.mpr ⟨ctab_ok_2_45, List.forall_mem_cons.mpr ⟨ctab_ok_2_46, List.forall_mem_cons.mpr ⟨ctab_ok_2_47, List.forall_mem_cons.mpr ⟨ctab_ok_2_48, List.forall_mem_cons.mpr ⟨ctab_ok_2_49, List.forall_mem_cons.mpr ⟨ctab_ok_2_50, List.forall_mem_cons.mpr ⟨ctab_ok_2_51, List.forall_mem_cons.mpr ⟨ctab_ok_2_52, List.forall_mem_cons.mpr ⟨ctab_ok_2_53, List.forall_mem_cons.mpr ⟨ctab_ok_2_54, List.forall_mem_cons.mpr ⟨ctab_ok_2_55, List.forall_mem_cons.mpr ⟨ctab_ok_2_56, List.forall_mem_cons.mpr ⟨ctab_ok_2_57, List.forall_mem_cons.mpr ⟨ctab_ok_2_58, List.forall_mem_cons.mpr ⟨ctab_ok_2_59,  fun _ h => absurd h List.not_mem_nil⟩⟩⟩⟩⟩⟩⟩⟩⟩⟩⟩⟩⟩⟩⟩⟩⟩⟩⟩⟩⟩⟩⟩⟩⟩⟩⟩⟩⟩⟩⟩⟩⟩⟩⟩⟩⟩⟩⟩⟩⟩⟩⟩⟩⟩⟩⟩⟩⟩⟩⟩⟩⟩⟩⟩⟩⟩⟩⟩⟩
theorem ctab_ok_3_0 : cOK (12359, 222, 1, false) := ⟨3, 71, rfl, by decide, mok_222, wd_998, ⟨wd_999, wd_1000⟩⟩
theorem ctab_ok_3_1 : cOK (12362, 217, 1, false) := ⟨3, 74, rfl, by decide, mok_217, wd_1001, ⟨wd_1002, wd_1003⟩⟩
theorem ctab_ok_3_2 : cOK (12366, 221, 1, false) := ⟨3, 78, rfl, by decide, mok_221, wd_1004, ⟨wd_1005, wd_1006⟩⟩
theorem ctab_ok_3_3 : cOK (12369, 218, 1, false) := ⟨3, 81, rfl, by decide, mok_218, wd_1007, ⟨wd_1008, wd_1009⟩⟩
theorem ctab_ok_3_4 : cOK (12372, 220, 1, false) := ⟨3, 84, rfl, by decide, mok_220, wd_1010, ⟨wd_1011, wd_1012⟩⟩
theorem ctab_ok_3_5 : cOK (12375, 205, 1, false) := ⟨3, 87, rfl, by decide, mok_205, wd_1013, ⟨wd_543, wd_544⟩⟩
theorem ctab_ok_3_6 : cOK (12379, 208, 1, false) := ⟨3, 91, rfl, by decide, mok_208, wd_1014, ⟨wd_552, wd_553⟩⟩
theorem ctab_ok_3_7 : cOK (16431, 229, 1, false) := ⟨4, 47, rfl, by decide, mok_229, wd_1027, ⟨wd_1028, wd_1029⟩⟩
theorem ctab_ok_3_8 : cOK (20513, 319, 0, false) := ⟨5, 33, rfl, by decide, mok_319, wd_1037, wd_935⟩
theorem ctab_ok_3_9 : cOK (20519, 228, 1, false) := ⟨5, 39, rfl, by decide, mok_228, wd_1038, ⟨wd_1039, wd_1040⟩⟩
theorem ctab_ok_3_10 : cOK (20523, 224, 1, false) := ⟨5, 43, rfl, by decide, mok_224, wd_1041, ⟨wd_1042, wd_1043⟩⟩
theorem ctab_ok_3_11 : cOK (20534, 281, 1, false) := ⟨5, 54, rfl, by decide, mok_281, wd_1046, ⟨wd_1047, wd_1048⟩⟩
theorem ctab_ok_3_12 : cOK (20540, 236, 1, false) := ⟨5, 60, rfl, by decide, mok_236, wd_1049, ⟨wd_1050, wd_1051⟩⟩
theorem ctab_ok_3_13 : cOK (20543, 235, 1, false) := ⟨5, 63, rfl, by decide, mok_235, wd_1052, ⟨wd_1053, wd_1054⟩⟩
theorem ctab_ok_3_14 : cOK (20547, 63, 0, true) := ⟨5, 67, rfl, by decide, mok_63, wd_1055, wd_1056⟩
theorem ctab_ok_3_15 : cOK (20551, 237, 1, false) := ⟨5, 71, rfl, by decide, mok_237, wd_1057, ⟨wd_1058, wd_1059⟩⟩
theorem ctab_ok_3_16 : cOK (20555, 62, 0, true) := ⟨5, 75, rfl, by decide, mok_62, wd_1060, wd_1061⟩
theorem ctab_ok_3_17 : cOK (20562, 262, 1, false) := ⟨5, 82, rfl, by decide, mok_262, wd_1063, ⟨wd_437, wd_438⟩⟩
theorem ctab_ok_3_18 : cOK (20568, 260, 1, false) := ⟨5, 88, rfl, by decide, mok_260, wd_1064, ⟨wd_1065, wd_1066⟩⟩
theorem ctab_ok_3_19 : cOK (20571, 261, 1, false) := ⟨5, 91, rfl, by decide, mok_261, wd_1067, ⟨wd_1068, wd_1069⟩⟩
theorem ctab_ok_3_20 : cOK (20581, 57, 0, true) := ⟨5, 101, rfl, by decide, mok_57, wd_1072, wd_660⟩
theorem ctab_ok_3_21 : cOK (20584, 245, 1, false) := ⟨5, 104, rfl, by decide, mok_245, wd_1073, ⟨wd_1074, wd_1075⟩⟩
theorem ctab_ok_3_22 : cOK (20587, 246, 1, false) := ⟨5, 107, rfl, by decide, mok_246, wd_1076, ⟨wd_648, wd_649⟩⟩
theorem ctab_ok_3_23 : cOK (20591, 247, 1, false) := ⟨5, 111, rfl, by decide, mok_247, wd_1077, ⟨wd_651, wd_652⟩⟩
theorem ctab_ok_3_24 : cOK (24599, 319, 0, false) := ⟨6, 23, rfl, by decide, mok_319, wd_1082, wd_935⟩
theorem ctab_ok_3_25 : cOK (24605, 58, 0, true) := ⟨6, 29, rfl, by decide, mok_58, wd_1083, wd_940⟩
theorem ctab_ok_3_26 : cOK (28687, 320, 0, false) := ⟨7, 15, rfl, by decide, mok_320, wd_1085, wd_1086⟩
theorem ctab_ok_3_27 : cOK (28693, 316, 0, false) := ⟨7, 21, rfl, by decide, mok_316, wd_1087, wd_1088⟩
theorem ctab_ok_3_28 : cOK (28699, 262, 1, false) := ⟨7, 27, rfl, by decide, mok_262, wd_1089, ⟨wd_437, wd_438⟩⟩
theorem ctab_ok_3_29 : cOK (28703, 264, 1, false) := ⟨7, 31, rfl, by decide, mok_264, wd_1090, ⟨wd_687, wd_688⟩⟩
theorem ctab_ok_3_30 : cOK (28707, 266, 0, false) := ⟨7, 35, rfl, by decide, mok_266, wd_1091, wd_1092⟩
theorem ctab_ok_3_31 : cOK (28711, 315, 0, false) := ⟨7, 39, rfl, by decide, mok_315, wd_1093, wd_1094⟩
theorem ctab_ok_3_32 : cOK (28716, 267, 0, false) := ⟨7, 44, rfl, by decide, mok_267, wd_1095, wd_1096⟩
theorem ctab_ok_3_33 : cOK (28720, 59, 0, true) := ⟨7, 48, rfl, by decide, mok_59, wd_1097, wd_929⟩
theorem ctab_ok_3_34 : cOK (32793, 278, 1, false) := ⟨8, 25, rfl, by decide, mok_278, wd_1103, ⟨wd_1104, wd_1105⟩⟩
theorem ctab_ok_3_35 : cOK (32797, 274, 1, false) := ⟨8, 29, rfl, by decide, mok_274, wd_1106, ⟨wd_621, wd_622⟩⟩
theorem ctab_ok_3_36 : cOK (32801, 277, 1, false) := ⟨8, 33, rfl, by decide, mok_277, wd_1107, ⟨wd_1108, wd_1109⟩⟩
theorem ctab_ok_3_37 : cOK (32805, 276, 1, false) := ⟨8, 37, rfl, by decide, mok_276, wd_1110, ⟨wd_627, wd_628⟩⟩
theorem ctab_ok_3_38 : cOK (32808, 315, 0, false) := ⟨8, 40, rfl, by decide, mok_315, wd_1111, wd_1094⟩
theorem ctab_ok_3_39 : cOK (36888, 259, 2, true) := ⟨9, 24, rfl, by decide, mok_259, wd_1116, ⟨wd_385, rfl, rfl⟩⟩
theorem ctab_ok_3_40 : cOK (36896, 318, 0, false) := ⟨9, 32, rfl, by decide, mok_318, wd_1119, wd_932⟩
theorem ctab_ok_3_41 : cOK (36916, 282, 1, false) := ⟨9, 52, rfl, by decide, mok_282, wd_1124, ⟨wd_1125, wd_1126⟩⟩
theorem ctab_ok_3_42 : cOK (36920, 285, 1, false) := ⟨9, 56, rfl, by decide, mok_285, wd_1127, ⟨wd_1128, wd_1129⟩⟩
theorem ctab_ok_3_43 : cOK (36923, 294, 1, false) := ⟨9, 59, rfl, by decide, mok_294, wd_1130, ⟨wd_1131, wd_1132⟩⟩
theorem ctab_ok_3_44 : cOK (36926, 262, 1, false) := ⟨9, 62, rfl, by decide, mok_262, wd_1133, ⟨wd_437, wd_438⟩⟩
theorem ctab_ok_3_45 : cOK (36933, 64, 0, true) := ⟨9, 69, rfl, by decide, mok_64, wd_1135, wd_1136⟩
theorem ctab_ok_3_46 : cOK (36937, 291, 1, false) := ⟨9, 73, rfl, by decide, mok_291, wd_1137, ⟨wd_1138, wd_1139⟩⟩
theorem ctab_ok_3_47 : cOK (36943, 292, 1, false) := ⟨9, 79, rfl, by decide, mok_292, wd_1140, ⟨wd_1141, wd_1142⟩⟩
theorem ctab_ok_3_48 : cOK (36951, 283, 1, false) := ⟨9, 87, rfl, by decide, mok_283, wd_1143, ⟨wd_1144, wd_1145⟩⟩
theorem ctab_ok_3_49 : cOK (36956, 284, 1, false) := ⟨9, 92, rfl, by decide, mok_284, wd_1146, ⟨wd_1147, wd_1148⟩⟩
theorem ctab_ok_3_50 : cOK (36959, 293, 1, false) := ⟨9, 95, rfl, by decide, mok_293, wd_1149, ⟨wd_1150, wd_1151⟩⟩
theorem ctab_ok_3_51 : cOK (36969, 287, 1, false) := ⟨9, 105, rfl, by decide, mok_287, wd_1152, ⟨wd_1153, wd_1154⟩⟩
theorem ctab_ok_3_52 : cOK (36973, 286, 1, false) := ⟨9, 109, rfl, by decide, mok_286, wd_1155, ⟨wd_1156, wd_1157⟩⟩
theorem ctab_ok_3_53 : cOK (36982, 289, 0, false) := ⟨9, 118, rfl, by decide, mok_289, wd_1158, wd_1159⟩
theorem ctab_ok_3_54 : cOK (36986, 60, 0, true) := ⟨9, 122, rfl, by decide, mok_60, wd_1160, wd_1161⟩
theorem ctab_ok_3_55 : cOK (36990, 290, 0, false) := ⟨9, 126, rfl, by decide, mok_290, wd_1162, wd_1163⟩
theorem ctab_ok_3_56 : cOK (36993, 288, 0, false) := ⟨9, 129, rfl, by decide, mok_288, wd_1164, wd_1165⟩
theorem ctab_ok_3_57 : cOK (36997, 61, 0, true) := ⟨9, 133, rfl, by decide, mok_61, wd_1166, wd_942⟩
theorem ctab_ok_3_58 : cOK (37001, 321, 1, false) := ⟨9, 137, rfl, by decide, mok_321, wd_1167, ⟨wd_1168, wd_1169⟩⟩
theorem ctab_ok_3_59 : cOK (37007, 322, 1, false) := ⟨9, 143, rfl, by decide, mok_322, wd_1170, ⟨wd_1171, wd_1172⟩⟩
theorem ctab_ok_3 : ∀ e ∈ cTab_3, cOK e := List.forall_mem_cons.mpr ⟨ctab_ok_3_0, List.forall_mem_cons.mpr ⟨ctab_ok_3_1, List.forall_mem_cons.mpr ⟨ctab_ok_3_2, List.forall_mem_cons.mpr ⟨ctab_ok_3_3, List.forall_mem_cons.mpr ⟨ctab_ok_3_4, List.forall_mem_cons.mpr ⟨ctab_ok_3_5, List.forall_mem_cons.mpr ⟨ctab_ok_3_6, List.forall_mem_cons.mpr ⟨ctab_ok_3_7, List.forall_mem_cons.mpr ⟨ctab_ok_3_8, List.forall_mem_cons.mpr ⟨ctab_ok_3_9, List.forall_mem_cons.mpr ⟨ctab_ok_3_10, List.forall_mem_cons.mpr ⟨ctab_ok_3_11, List.forall_mem_cons.mpr ⟨ctab_ok_3_12, List.forall_mem_cons.mpr ⟨ctab_ok_3_13, List.forall_mem_cons.mpr ⟨ctab_ok_3_14, List.forall_mem_cons.mpr ⟨ctab_ok_3_15, List.forall_mem_cons.mpr ⟨ctab_ok_3_16, List.forall_mem_cons.mpr ⟨ctab_ok_3_17, List.forall_mem_cons.mpr ⟨ctab_ok_3_18, List.forall_mem_cons.mpr ⟨ctab_ok_3_19, List.forall_mem_cons.mpr ⟨ctab_ok_3_20, List.forall_mem_cons.mpr ⟨ctab_ok_3_21, List.forall_mem_cons.mpr ⟨ctab_ok_3_22, List.forall_mem_cons.mpr ⟨ctab_ok_3_23, List.forall_mem_cons.mpr ⟨ctab_ok_3_24, List.forall_mem_cons.mpr ⟨ctab_ok_3_25, List.forall_mem_cons.mpr ⟨ctab_ok_3_26, List.forall_mem_cons.mpr ⟨ctab_ok_3_27, List.forall_mem_cons.mpr ⟨ctab_ok_3_28, List.forall_mem_cons.mpr ⟨ctab_ok_3_29, List.forall_mem_cons.mpr ⟨ctab_ok_3_30, List.forall_mem_cons.mpr ⟨ctab_ok_3_31, List.forall_mem_cons.mpr ⟨ctab_ok_3_32, List.forall_mem_cons.mpr ⟨ctab_ok_3_33, List.forall_mem_cons.mpr ⟨ctab_ok_3_34, List.forall_mem_cons.mpr ⟨ctab_ok_3_35, List.forall_mem_cons.mpr ⟨ctab_ok_3_36, List.forall_mem_cons.mpr ⟨ctab_ok_3_37, List.forall_mem_cons.mpr ⟨ctab_ok_3_38, List.forall_mem_cons.mpr ⟨ctab_ok_3_39, List.forall_mem_cons.mpr ⟨ctab_ok_3_40, List.forall_mem_cons.mpr ⟨ctab_ok_3_41, List.forall_mem_cons.mpr ⟨ctab_ok_3_42, List.forall_mem_cons.mpr ⟨ctab_ok_3_43, List.forall_mem_cons.mpr ⟨ctab_ok_3_44, List.forall_mem_cons.mpr ⟨ctab_ok_3_45, List.forall_mem_cons.mpr ⟨ctab_ok_3_46, List.forall_mem_cons.mpr ⟨ctab_ok_3_47, List.forall_mem_cons.mpr ⟨ctab_ok_3_48, List.forall_mem_cons.mpr ⟨ctab_ok_3_49, List.forall_mem_cons.mpr ⟨ctab_ok_3_50, List.forall_mem_cons.mpr ⟨ctab_ok_3_51, List.forall_mem_cons.mpr ⟨ctab_ok_3_52, List.forall_mem_cons.mpr ⟨ctab_ok_3_53, List.forall_mem_cons.mpr ⟨ctab_ok_3_54, List.forall_mem_cons.mpr ⟨ctab_ok_3_55, List.forall_mem_cons.mpr ⟨ctab_ok_3_56, List.forall_mem_cons.mpr ⟨ctab_ok_3_57, List.forall_mem_cons.mpr ⟨ctab_ok_3_58, List.forall_mem_cons.mpr ⟨ctab_ok_3_59,  fun _ h => absurd h List.not_mem_nil⟩⟩⟩⟩⟩⟩⟩⟩⟩⟩⟩⟩⟩⟩⟩⟩⟩⟩⟩⟩⟩⟩⟩⟩⟩⟩⟩⟩⟩⟩⟩⟩⟩⟩⟩⟩⟩⟩⟩⟩⟩⟩⟩⟩⟩⟩⟩⟩⟩⟩⟩⟩⟩⟩⟩⟩⟩⟩⟩⟩
theorem ctab_ok_4_0 : cOK (37009, 260, 1, false) := ⟨9, 145, rfl, by decide, mok_260, wd_1173, ⟨wd_1065, wd_1066⟩⟩
theorem ctab_ok_4_1 : cOK (37012, 295, 1, false) := ⟨9, 148, rfl, by decide, mok_295, wd_1174, ⟨wd_1175, wd_1176⟩⟩
theorem ctab_ok_4_2 : cOK (37015, 261, 1, false) := ⟨9, 151, rfl, by decide, mok_261, wd_1177, ⟨wd_1068, wd_1069⟩⟩
theorem ctab_ok_4_3 : cOK (37019, 59, 0, true) := ⟨9, 155, rfl, by decide, mok_59, wd_1178, wd_929⟩
theorem ctab_ok_4_4 : cOK (41007, 311, 0, false) := ⟨10, 47, rfl, by decide, mok_311, wd_1190, wd_1191⟩
theorem ctab_ok_4_5 : cOK (41011, 317, 0, false) := ⟨10, 51, rfl, by decide, mok_317, wd_1192, wd_1193⟩
theorem ctab_ok_4_6 : cOK (41016, 312, 1, false) := ⟨10, 56, rfl, by decide, mok_312, wd_1194, ⟨wd_1195, wd_1196⟩⟩
theorem ctab_ok_4_7 : cOK (41020, 313, 1, false) := ⟨10, 60, rfl, by decide, mok_313, wd_1197, ⟨wd_1198, wd_1199⟩⟩
theorem ctab_ok_4_8 : cOK (41023, 306, 1, false) := ⟨10, 63, rfl, by decide, mok_306, wd_1200, ⟨wd_1201, wd_1202⟩⟩
theorem ctab_ok_4_9 : cOK (41026, 63, 0, true) := ⟨10, 66, rfl, by decide, mok_63, wd_1203, wd_1056⟩
theorem ctab_ok_4_10 : cOK (41030, 314, 1, false) := ⟨10, 70, rfl, by decide, mok_314, wd_1204, ⟨wd_1205, wd_1206⟩⟩
theorem ctab_ok_4_11 : cOK (41033, 319, 0, false) := ⟨10, 73, rfl, by decide, mok_319, wd_1207, wd_935⟩
theorem ctab_ok_4_12 : cOK (41043, 308, 1, false) := ⟨10, 83, rfl, by decide, mok_308, wd_1209, ⟨wd_1210, wd_1211⟩⟩
theorem ctab_ok_4_13 : cOK (41046, 307, 1, false) := ⟨10, 86, rfl, by decide, mok_307, wd_1212, ⟨wd_1213, wd_1214⟩⟩
theorem ctab_ok_4_14 : cOK (41049, 237, 1, false) := ⟨10, 89, rfl, by decide, mok_237, wd_1215, ⟨wd_1058, wd_1059⟩⟩
theorem ctab_ok_4_15 : cOK (41054, 281, 1, false) := ⟨10, 94, rfl, by decide, mok_281, wd_1216, ⟨wd_1047, wd_1048⟩⟩
theorem ctab_ok_4_16 : cOK (41058, 310, 1, false) := ⟨10, 98, rfl, by decide, mok_310, wd_1217, ⟨wd_1218, wd_1219⟩⟩
theorem ctab_ok_4_17 : cOK (41061, 309, 1, false) := ⟨10, 101, rfl, by decide, mok_309, wd_1220, ⟨wd_1221, wd_1222⟩⟩
theorem ctab_ok_4_18 : cOK (41068, 64, 0, true) := ⟨10, 108, rfl, by decide, mok_64, wd_1224, wd_1136⟩
theorem ctab_ok_4_19 : cOK (41075, 262, 1, false) := ⟨10, 115, rfl, by decide, mok_262, wd_1226, ⟨wd_437, wd_438⟩⟩
theorem ctab_ok_4_20 : cOK (41081, 235, 1, false) := ⟨10, 121, rfl, by decide, mok_235, wd_1227, ⟨wd_1053, wd_1054⟩⟩
theorem ctab_ok_4_21 : cOK (41085, 190, 1, false) := ⟨10, 125, rfl, by decide, mok_190, wd_1228, ⟨wd_1229, wd_1230⟩⟩
theorem ctab_ok_4_22 : cOK (73737, 0, 2, false) := ⟨18, 9, rfl, by decide, mok_0, wd_1233, ⟨wd_1234, rfl, rfl⟩⟩
theorem ctab_ok_4_23 : cOK (73740, 65, 2, false) := ⟨18, 12, rfl, by decide, mok_65, wd_1237, ⟨wd_1238, rfl, rfl⟩⟩
theorem ctab_ok_4_24 : cOK (73741, 1, 1, false) := ⟨18, 13, rfl, by decide, mok_1, wd_1239, ⟨wd_1240, wd_1241⟩⟩
theorem ctab_ok_4_25 : cOK (73745, 74, 1, false) := ⟨18, 17, rfl, by decide, mok_74, wd_1242, ⟨wd_1243, wd_1244⟩⟩
theorem ctab_ok_4_26 : cOK (73746, 2, 1, false) := ⟨18, 18, rfl, by decide, mok_2, wd_1245, ⟨wd_1246, wd_1247⟩⟩
theorem ctab_ok_4_27 : cOK (73750, 75, 1, false) := ⟨18, 22, rfl, by decide, mok_75, wd_1248, ⟨wd_1249, wd_1250⟩⟩
theorem ctab_ok_4_28 : cOK (73751, 3, 1, false) := ⟨18, 23, rfl, by decide, mok_3, wd_1251, ⟨wd_1252, wd_1253⟩⟩
theorem ctab_ok_4_29 : cOK (73755, 86, 1, false) := ⟨18, 27, rfl, by decide, mok_86, wd_1254, ⟨wd_1255, wd_1256⟩⟩
theorem ctab_ok_4_30 : cOK (73756, 4, 1, false) := ⟨18, 28, rfl, by decide, mok_4, wd_1257, ⟨wd_1258, wd_1259⟩⟩
theorem ctab_ok_4_31 : cOK (73759, 87, 1, false) := ⟨18, 31, rfl, by decide, mok_87, wd_1260, ⟨wd_1261, wd_1262⟩⟩
theorem ctab_ok_4_32 : cOK (73760, 5, 1, false) := ⟨18, 32, rfl, by decide, mok_5, wd_1263, ⟨wd_1264, wd_1265⟩⟩
theorem ctab_ok_4_33 : cOK (73763, 88, 1, false) := ⟨18, 35, rfl, by decide, mok_88, wd_1266, ⟨wd_1267, wd_1268⟩⟩
theorem ctab_ok_4_34 : cOK (73764, 6, 1, false) := ⟨18, 36, rfl, by decide, mok_6, wd_1269, ⟨wd_1270, wd_1271⟩⟩
theorem ctab_ok_4_35 : cOK (73767, 89, 1, false) := ⟨18, 39, rfl, by decide, mok_89, wd_1272, ⟨wd_1273, wd_1274⟩⟩
theorem ctab_ok_4_36 : cOK (73768, 7, 1, false) := ⟨18, 40, rfl, by decide, mok_7, wd_1275, ⟨wd_1276, wd_1277⟩⟩
theorem ctab_ok_4_37 : cOK (73771, 90, 1, false) := ⟨18, 43, rfl, by decide, mok_90, wd_1278, ⟨wd_1279, wd_1280⟩⟩
theorem ctab_ok_4_38 : cOK (73772, 8, 1, false) := ⟨18, 44, rfl, by decide, mok_8, wd_1281, ⟨wd_1282, wd_1283⟩⟩
theorem ctab_ok_4_39 : cOK (73776, 95, 1, false) := ⟨18, 48, rfl, by decide, mok_95, wd_1284, ⟨wd_1285, wd_1286⟩⟩
theorem ctab_ok_4_40 : cOK (73777, 9, 1, false) := ⟨18, 49, rfl, by decide, mok_9, wd_1287, ⟨wd_1288, wd_1289⟩⟩
theorem ctab_ok_4_41 : cOK (73780, 96, 1, false) := ⟨18, 52, rfl, by decide, mok_96, wd_1290, ⟨wd_1291, wd_1292⟩⟩
theorem ctab_ok_4_42 : cOK (73781, 10, 1, false) := ⟨18, 53, rfl, by decide, mok_10, wd_1293, ⟨wd_1294, wd_1295⟩⟩
theorem ctab_ok_4_43 : cOK (73784, 97, 1, false) := ⟨18, 56, rfl, by decide, mok_97, wd_1296, ⟨wd_1297, wd_1298⟩⟩
theorem ctab_ok_4_44 : cOK (73785, 11, 1, false) := ⟨18, 57, rfl, by decide, mok_11, wd_1299, ⟨wd_1300, wd_1301⟩⟩
theorem ctab_ok_4_45 : cOK (73788, 98, 1, false) := ⟨18, 60, rfl, by decide, mok_98, wd_1302, ⟨wd_1303, wd_1304⟩⟩
theorem ctab_ok_4_46 : cOK (73789, 12, 1, false) := ⟨18, 61, rfl, by decide, mok_12, wd_1305, ⟨wd_1306, wd_1307⟩⟩
theorem ctab_ok_4_47 : cOK (73792, 101, 1, false) := ⟨18, 64, rfl, by decide, mok_101, wd_1308, ⟨wd_1309, wd_1310⟩⟩
theorem ctab_ok_4_48 : cOK (73793, 13, 1, false) := ⟨18, 65, rfl, by decide, mok_13, wd_1311, ⟨wd_1312, wd_1313⟩⟩
theorem ctab_ok_4_49 : cOK (73796, 102, 1, false) := ⟨18, 68, rfl, by decide, mok_102, wd_1314, ⟨wd_1315, wd_1316⟩⟩
theorem ctab_ok_4_50 : cOK (73797, 14, 1, false) := ⟨18, 69, rfl, by decide, mok_14, wd_1317, ⟨wd_1318, wd_1319⟩⟩
theorem ctab_ok_4_51 : cOK (73801, 104, 1, false) := ⟨18, 73, rfl, by decide, mok_104, wd_1320, ⟨wd_1321, wd_1322⟩⟩
theorem ctab_ok_4_52 : cOK (73802, 15, 1, false) := ⟨18, 74, rfl, by decide, mok_15, wd_1323, ⟨wd_1324, wd_1325⟩⟩
theorem ctab_ok_4_53 : cOK (73805, 105, 1, false) := ⟨18, 77, rfl, by decide, mok_105, wd_1326, ⟨wd_1327, wd_1328⟩⟩
theorem ctab_ok_4_54 : cOK (73806, 16, 1, false) := ⟨18, 78, rfl, by decide, mok_16, wd_1329, ⟨wd_1330, wd_1331⟩⟩
theorem ctab_ok_4_55 : cOK (73809, 107, 1, false) := ⟨18, 81, rfl, by decide, mok_107, wd_1332, ⟨wd_1333, wd_1334⟩⟩
theorem ctab_ok_4_56 : cOK (73810, 17, 1, false) := ⟨18, 82, rfl, by decide, mok_17, wd_1335, ⟨wd_1336, wd_1337⟩⟩
theorem ctab_ok_4_57 : cOK (73813, 108, 1, false) := ⟨18, 85, rfl, by decide, mok_108, wd_1338, ⟨wd_1339, wd_1340⟩⟩
theorem ctab_ok_4_58 : cOK (73814, 18, 1, false) := ⟨18, 86, rfl, by decide, mok_18, wd_1341, ⟨wd_1342, wd_1343⟩⟩
theorem ctab_ok_4_59 : cOK (73817, 112, 1, false) := ⟨18, 89, rfl, by decide, mok_112, wd_1344, ⟨wd_1345, wd_1346⟩⟩
theorem ctab_ok_4 : ∀ e ∈ cTab_4, cOK e := List.forall_mem_cons.mpr ⟨ctab_ok_4_0, List.forall_mem_cons.mpr ⟨ctab_ok_4_1, List.forall_mem_cons.mpr ⟨ctab_ok_4_2, List.forall_mem_cons.mpr ⟨ctab_ok_4_3, List.forall_mem_cons.mpr ⟨ctab_ok_4_4, List.forall_mem_cons.mpr ⟨ctab_ok_4_5, List.forall_mem_cons.mpr ⟨ctab_ok_4_6, List.forall_mem_cons.mpr ⟨ctab_ok_4_7, List.forall_mem_cons.mpr ⟨ctab_ok_4_8, List.forall_mem_cons.mpr ⟨ctab_ok_4_9, List.forall_mem_cons.mpr ⟨ctab_ok_4_10, List.forall_mem_cons.mpr ⟨ctab_ok_4_11, List.forall_mem_cons.mpr ⟨ctab_ok_4_12, List.forall_mem_cons.mpr ⟨ctab_ok_4_13, List.forall_mem_cons.mpr ⟨ctab_ok_4_14, List.forall_mem_cons.mpr ⟨ctab_ok_4_15, List.forall_mem_cons.mpr ⟨ctab_ok_4_16, List.forall_mem_cons.mpr ⟨ctab_ok_4_17, List.forall_mem_cons.mpr ⟨ctab_ok_4_18, List.forall_mem_cons.mpr ⟨ctab_ok_4_19, List.forall_mem_cons.mpr ⟨ctab_ok_4_20, List.forall_mem_cons.mpr ⟨ctab_ok_4_21, List.forall_mem_cons.mpr ⟨ctab_ok_4_22, List.forall_mem_cons.mpr ⟨ctab_ok_4_23, List.forall_mem_cons.mpr ⟨ctab_ok_4_24, List.forall_mem_cons.mpr ⟨ctab_ok_4_25, List.forall_mem_cons.mpr ⟨ctab_ok_4_26, List.forall_mem_cons.mpr ⟨ctab_ok_4_27, List.forall_mem_cons.mpr ⟨ctab_ok_4_28, List.forall_mem_cons.mpr ⟨ctab_ok_4_29, List.forall_mem_cons.mpr ⟨ctab_ok_4_30, List.forall_mem_cons.mpr ⟨ctab_ok_4_31, List.forall_mem_cons.mpr ⟨ctab_ok_4_32, List.forall_mem_cons.mpr ⟨ctab_ok_4_33, List.forall_mem_cons.mpr ⟨ctab_ok_4_34, List.forall_mem_cons.mpr ⟨ctab_ok_4_35, List.forall_mem_cons.mpr ⟨ctab_ok_4_36, List.forall_mem_cons.mpr ⟨ctab_ok_4_37, List.forall_mem_cons.mpr ⟨ctab_ok_4_38, List.forall_mem_cons.mpr ⟨ctab_ok_4_39, List.forall_mem_cons.mpr ⟨ctab_ok_4_40, List.forall_mem_cons.mpr ⟨ctab_ok_4_41, List.forall_mem_cons.mpr ⟨ctab_ok_4_42, List.forall_mem_cons.mpr ⟨ctab_ok_4_43, List.forall_mem_cons.mpr ⟨ctab_ok_4_44, List.forall_mem_cons.mpr ⟨ctab_ok_4_45, List.forall_mem_cons.mpr ⟨ctab_ok_4_46, List.forall_mem_cons.mpr ⟨ctab_ok_4_47, List.forall_mem_cons.mpr ⟨ctab_ok_4_48, List.forall_mem_cons.mpr ⟨ctab_ok_4_49, List.forall_mem_cons.mpr ⟨ctab_ok_4_50, List.forall_mem_cons.mpr ⟨ctab_ok_4_51, List.forall_mem_cons.mpr ⟨ctab_ok_4_52, List.forall_mem_cons.mpr ⟨ctab_ok_4_53, List.forall_mem_cons.mpr ⟨ctab_ok_4_54, List.forall_mem_cons.mpr ⟨ctab_ok_4_55, List.forall_mem_cons.mpr ⟨ctab_ok_4_56, List.forall_mem_cons.mpr ⟨ctab_ok_4_57, List.forall_mem_cons.mpr ⟨ctab_ok_4_58, List.forall_mem_cons.mpr ⟨ctab_ok_4_59,  fun _ h => absurd h List.not_mem_nil⟩⟩⟩⟩⟩⟩⟩⟩⟩⟩⟩⟩⟩⟩⟩⟩⟩⟩⟩⟩⟩⟩⟩⟩⟩⟩⟩⟩⟩⟩⟩⟩⟩⟩⟩⟩⟩⟩⟩⟩⟩⟩⟩⟩⟩⟩⟩⟩⟩⟩⟩⟩⟩⟩⟩⟩⟩⟩⟩⟩
theorem ctab_ok_5_0 : cOK (73818, 19, 1, false) := ⟨18, 90, rfl, by decide, mok_19, wd_1347, ⟨wd_1348, wd_1349⟩⟩
theorem ctab_ok_5_1 : cOK (73821, 113, 1, false) := ⟨18, 93, rfl, by decide, mok_113, wd_1350, ⟨wd_1351, wd_1352⟩⟩
theorem ctab_ok_5_2 : cOK (73822, 20, 1, false) := ⟨18, 94, rfl, by decide, mok_20, wd_1353, ⟨wd_510, wd_511⟩⟩
theorem ctab_ok_5_3 : cOK (73825, 115, 1, false) := ⟨18, 97, rfl, by decide, mok_115, wd_1354, ⟨wd_1355, wd_1356⟩⟩
theorem ctab_ok_5_4 : cOK (73826, 21, 1, false) := ⟨18, 98, rfl, by decide, mok_21, wd_1357, ⟨wd_1358, wd_1359⟩⟩
theorem ctab_ok_5_5 : cOK (73829, 116, 1, false) := ⟨18, 101, rfl, by decide, mok_116, wd_1360, ⟨wd_1361, wd_1362⟩⟩
theorem ctab_ok_5_6 : cOK (73830, 22, 1, false) := ⟨18, 102, rfl, by decide, mok_22, wd_1363, ⟨wd_1364, wd_1365⟩⟩
theorem ctab_ok_5_7 : cOK (73833, 120, 1, false) := ⟨18, 105, rfl, by decide, mok_120, wd_1366, ⟨wd_1367, wd_1368⟩⟩
theorem ctab_ok_5_8 : cOK (73834, 23, 1, false) := ⟨18, 106, rfl, by decide, mok_23, wd_1369, ⟨wd_1370, wd_1371⟩⟩
theorem ctab_ok_5_9 : cOK (73837, 121, 1, false) := ⟨18, 109, rfl, by decide, mok_121, wd_1372, ⟨wd_1373, wd_1374⟩⟩
theorem ctab_ok_5_10 : cOK (73838, 24, 1, false) := ⟨18, 110, rfl, by decide, mok_24, wd_1375, ⟨wd_1376, wd_1377⟩⟩
theorem ctab_ok_5_11 : cOK (73841, 122, 1, false) := ⟨18, 113, rfl, by decide, mok_122, wd_1378, ⟨wd_1379, wd_1380⟩⟩
theorem ctab_ok_5_12 : cOK (73842, 25, 1, false) := ⟨18, 114, rfl, by decide, mok_25, wd_1381, ⟨wd_1382, wd_1383⟩⟩
theorem ctab_ok_5_13 : cOK (73845, 123, 1, false) := ⟨18, 117, rfl, by decide, mok_123, wd_1384, ⟨wd_1385, wd_1386⟩⟩
theorem ctab_ok_5_14 : cOK (73846, 26, 1, false) := ⟨18, 118, rfl, by decide, mok_26, wd_1387, ⟨wd_1388, wd_1389⟩⟩
theorem ctab_ok_5_15 : cOK (73849, 125, 1, false) := ⟨18, 121, rfl, by decide, mok_125, wd_1390, ⟨wd_1391, wd_1392⟩⟩
theorem ctab_ok_5_16 : cOK (73850, 27, 1, false) := ⟨18, 122, rfl, by decide, mok_27, wd_1393, ⟨wd_1394, wd_1395⟩⟩
theorem ctab_ok_5_17 : cOK (73854, 126, 1, false) := ⟨18, 126, rfl, by decide, mok_126, wd_1396, ⟨wd_1397, wd_1398⟩⟩
theorem ctab_ok_5_18 : cOK (73855, 28, 1, false) := ⟨18, 127, rfl, by decide, mok_28, wd_1399, ⟨wd_1400, wd_1401⟩⟩
theorem ctab_ok_5_19 : cOK (73858, 106, 1, false) := ⟨18, 130, rfl, by decide, mok_106, wd_1402, ⟨wd_1403, wd_1404⟩⟩
theorem ctab_ok_5_20 : cOK (73859, 29, 1, false) := ⟨18, 131, rfl, by decide, mok_29, wd_1405, ⟨wd_1406, wd_1407⟩⟩
theorem ctab_ok_5_21 : cOK (73862, 133, 1, false) := ⟨18, 134, rfl, by decide, mok_133, wd_1408, ⟨wd_1409, wd_1410⟩⟩
theorem ctab_ok_5_22 : cOK (73863, 30, 1, false) := ⟨18, 135, rfl, by decide, mok_30, wd_1411, ⟨wd_1412, wd_1413⟩⟩
theorem ctab_ok_5_23 : cOK (73866, 134, 1, false) := ⟨18, 138, rfl, by decide, mok_134, wd_1414, ⟨wd_1415, wd_1416⟩⟩
theorem ctab_ok_5_24 : cOK (73867, 31, 1, false) := ⟨18, 139, rfl, by decide, mok_31, wd_1417, ⟨wd_1418, wd_1419⟩⟩
theorem ctab_ok_5_25 : cOK (73870, 135, 1, false) := ⟨18, 142, rfl, by decide, mok_135, wd_1420, ⟨wd_1421, wd_1422⟩⟩
theorem ctab_ok_5_26 : cOK (73871, 32, 1, false) := ⟨18, 143, rfl, by decide, mok_32, wd_1423, ⟨wd_1424, wd_1425⟩⟩
theorem ctab_ok_5_27 : cOK (73874, 136, 1, false) := ⟨18, 146, rfl, by decide, mok_136, wd_1426, ⟨wd_1427, wd_1428⟩⟩
theorem ctab_ok_5_28 : cOK (73875, 33, 1, false) := ⟨18, 147, rfl, by decide, mok_33, wd_1429, ⟨wd_1430, wd_1431⟩⟩
theorem ctab_ok_5_29 : cOK (73878, 137, 1, false) := ⟨18, 150, rfl, by decide, mok_137, wd_1432, ⟨wd_1433, wd_1434⟩⟩
theorem ctab_ok_5_30 : cOK (73879, 34, 1, false) := ⟨18, 151, rfl, by decide, mok_34, wd_1435, ⟨wd_1436, wd_1437⟩⟩
theorem ctab_ok_5_31 : cOK (73882, 140, 1, false) := ⟨18, 154, rfl, by decide, mok_140, wd_1438, ⟨wd_1439, wd_1440⟩⟩
theorem ctab_ok_5_32 : cOK (73883, 35, 1, false) := ⟨18, 155, rfl, by decide, mok_35, wd_1441, ⟨wd_1442, wd_1443⟩⟩
theorem ctab_ok_5_33 : cOK (73886, 141, 1, false) := ⟨18, 158, rfl, by decide, mok_141, wd_1444, ⟨wd_1445, wd_1446⟩⟩
theorem ctab_ok_5_34 : cOK (73887, 36, 1, false) := ⟨18, 159, rfl, by decide, mok_36, wd_1447, ⟨wd_1448, wd_1449⟩⟩
theorem ctab_ok_5_35 : cOK (73890, 142, 1, false) := ⟨18, 162, rfl, by decide, mok_142, wd_1450, ⟨wd_1451, wd_1452⟩⟩
theorem ctab_ok_5_36 : cOK (73891, 37, 1, false) := ⟨18, 163, rfl, by decide, mok_37, wd_1453, ⟨wd_1454, wd_1455⟩⟩
theorem ctab_ok_5_37 : cOK (73895, 143, 1, false) := ⟨18, 167, rfl, by decide, mok_143, wd_1456, ⟨wd_1457, wd_1458⟩⟩
theorem ctab_ok_5_38 : cOK (73896, 38, 1, false) := ⟨18, 168, rfl, by decide, mok_38, wd_1459, ⟨wd_1460, wd_1461⟩⟩
theorem ctab_ok_5_39 : cOK (73899, 144, 1, false) := ⟨18, 171, rfl, by decide, mok_144, wd_1462, ⟨wd_1463, wd_1464⟩⟩
theorem ctab_ok_5_40 : cOK (73900, 39, 1, false) := ⟨18, 172, rfl, by decide, mok_39, wd_1465, ⟨wd_1466, wd_1467⟩⟩
theorem ctab_ok_5_41 : cOK (73903, 146, 1, false) := ⟨18, 175, rfl, by decide, mok_146, wd_1468, ⟨wd_1469, wd_1470⟩⟩
theorem ctab_ok_5_42 : cOK (73904, 40, 1, false) := ⟨18, 176, rfl, by decide, mok_40, wd_1471, ⟨wd_1472, wd_1473⟩⟩
theorem ctab_ok_5_43 : cOK (73907, 147, 1, false) := ⟨18, 179, rfl, by decide, mok_147, wd_1474, ⟨wd_1475, wd_1476⟩⟩
theorem ctab_ok_5_44 : cOK (73908, 41, 1, false) := ⟨18, 180, rfl, by decide, mok_41, wd_1477, ⟨wd_1478, wd_1479⟩⟩
theorem ctab_ok_5_45 : cOK (73911, 149, 1, false) := ⟨18, 183, rfl, by decide, mok_149, wd_1480, ⟨wd_1481, wd_1482⟩⟩
theorem ctab_ok_5_46 : cOK (73912, 42, 1, false) := ⟨18, 184, rfl, by decide, mok_42, wd_1483, ⟨wd_1484, wd_1485⟩⟩
theorem ctab_ok_5_47 : cOK (73915, 153, 1, false) := ⟨18, 187, rfl, by decide, mok_153, wd_1486, ⟨wd_1487, wd_1488⟩⟩
theorem ctab_ok_5_48 : cOK (73916, 43, 1, false) := ⟨18, 188, rfl, by decide, mok_43, wd_1489, ⟨wd_1490, wd_1491⟩⟩
theorem ctab_ok_5_49 : cOK (73919, 154, 1, false) := ⟨18, 191, rfl, by decide, mok_154, wd_1492, ⟨wd_1493, wd_1494⟩⟩
theorem ctab_ok_5_50 : cOK (73920, 44, 1, false) := ⟨18, 192, rfl, by decide, mok_44, wd_1495, ⟨wd_1496, wd_1497⟩⟩
theorem ctab_ok_5_51 : cOK (73923, 163, 1, false) := ⟨18, 195, rfl, by decide, mok_163, wd_1498, ⟨wd_1499, wd_1500⟩⟩
theorem ctab_ok_5_52 : cOK (73924, 45, 1, false) := ⟨18, 196, rfl, by decide, mok_45, wd_1501, ⟨wd_1502, wd_1503⟩⟩
theorem ctab_ok_5_53 : cOK (73927, 164, 1, false) := ⟨18, 199, rfl, by decide, mok_164, wd_1504, ⟨wd_1505, wd_1506⟩⟩
theorem ctab_ok_5_54 : cOK (73928, 46, 1, false) := ⟨18, 200, rfl, by decide, mok_46, wd_1507, ⟨wd_1508, wd_1509⟩⟩
theorem ctab_ok_5_55 : cOK (73931, 166, 1, false) := ⟨18, 203, rfl, by decide, mok_166, wd_1510, ⟨wd_1511, wd_1512⟩⟩
theorem ctab_ok_5_56 : cOK (73932, 47, 1, false) := ⟨18, 204, rfl, by decide, mok_47, wd_1513, ⟨wd_1514, wd_1515⟩⟩
theorem ctab_ok_5_57 : cOK (73935, 167, 1, false) := ⟨18, 207, rfl, by decide, mok_167, wd_1516, ⟨wd_1517, wd_1518⟩⟩
theorem ctab_ok_5_58 : cOK (73936, 48, 1, false) := ⟨18, 208, rfl, by decide, mok_48, wd_1519, ⟨wd_1520, wd_1521⟩⟩
theorem ctab_ok_5_59 : cOK (73939, 168, 1, false) := ⟨18, 211, rfl, by decide, mok_168, wd_1522, ⟨wd_1523, wd_1524⟩⟩
theorem ctab_ok_5 : ∀ e ∈ cTab_5, cOK e := List.forall_mem_cons.mpr ⟨ctab_ok_5_0, List.forall_mem_cons.mpr ⟨ctab_ok_5_1, List.forall_mem_cons.mpr ⟨ctab_ok_5_2, List.forall_mem_cons.mpr ⟨ctab_ok_5_3, List.forall_mem_cons.mpr ⟨ctab_ok_5_4, List.forall_mem_cons.mpr ⟨ctab_ok_5_5, List.forall_mem_cons.mpr ⟨ctab_ok_5_6, List.forall_mem_cons.mpr ⟨ctab_ok_5_7, List.forall_mem_cons.mpr ⟨ctab_ok_5_8, List.forall_mem_cons.mpr ⟨ctab_ok_5_9, List.forall_mem_cons.mpr ⟨ctab_ok_5_10, List.forall_mem_cons.mpr ⟨ctab_ok_5_11, List.forall_mem_cons.mpr ⟨ctab_ok_5_12, List.forall_mem_cons.mpr ⟨ctab_ok_5_13, List.forall_mem_cons.mpr ⟨ctab_ok_5_14, List.forall_mem_cons.mpr ⟨ctab_ok_5_15, List.forall_mem_cons.mpr ⟨ctab_ok_5_16, List.forall_mem_cons.mpr ⟨ctab_ok_5_17, List.forall_mem_cons.mpr ⟨ctab_ok_5_18, List.forall_mem_cons.mpr ⟨ctab_ok_5_19, List.forall_mem_cons.mpr ⟨ctab_ok_5_20, List.forall_mem_cons.mpr ⟨ctab_ok_5_21, List.forall_mem_cons.mpr ⟨ctab_ok_5_22, List.forall_mem_cons.mpr ⟨ctab_ok_5_23, List.forall_mem_cons.mpr ⟨ctab_ok_5_24, List.forall_mem_cons.mpr ⟨ctab_ok_5_25, List.forall_mem_cons.mpr ⟨ctab_ok_5_26, List.forall_mem_cons.mpr ⟨ctab_ok_5_27, List.forall_mem_cons.mpr ⟨ctab_ok_5_28, List.forall_mem_cons.mpr ⟨ctab_ok_5_29, List.forall_mem_cons.mpr ⟨ctab_ok_5_30, List.forall_mem_cons.mpr ⟨ctab_ok_5_31, List.forall_mem_cons.mpr ⟨ctab_ok_5_32, List.forall_mem_cons.mpr ⟨ctab_ok_5_33, List.forall_mem_cons.mpr ⟨ctab_ok_5_34, List.forall_mem_cons.mpr ⟨ctab_ok_5_35, List.forall_mem_cons.mpr ⟨ctab_ok_5_36, List.forall_mem_cons.mpr ⟨ctab_ok_5_37, List.forall_mem_cons.mpr ⟨ctab_ok_5_38, List.forall_mem_cons.mpr ⟨ctab_ok_5_39, List.forall_mem_cons.mpr ⟨ctab_ok_5_40, List.forall_mem_cons.mpr ⟨ctab_ok_5_41, List.forall_mem_cons.mpr ⟨ctab_ok_5_42, List.forall_mem_cons.mpr ⟨ctab_ok_5_43, List.forall_mem_cons.mpr ⟨ctab_ok_5_44, List.forall_mem_cons.mpr ⟨ctab_ok_5_45, List.forall_mem_cons.mpr ⟨ctab_ok_5_46, List.forall_mem_cons.mpr ⟨ctab_ok_5_47, List.forall_mem_cons.mpr ⟨ctab_ok_5_48, List.forall_mem_cons.mpr ⟨ctab_ok_5_49, List.forall_mem_cons.mpr ⟨ctab_ok_5_50, List.forall_mem_cons.mpr ⟨ctab_ok_5_51, List.forall_mem_cons.mpr ⟨ctab_ok_5_52, List.forall_mem_cons.mpr ⟨ctab_ok_5_53, List.forall_mem_cons.mpr ⟨ctab_ok_5_54, List.forall_mem_cons.mpr ⟨ctab_ok_5_55, List.forall_mem_cons.mpr ⟨ctab_ok_5_56, List.forall_mem_cons.mpr ⟨ctab_ok_5_57, List.forall_mem_cons.mpr ⟨ctab_ok_5_58, List.forall_mem_cons.mpr ⟨ctab_ok_5_59,  fun _ h => absurd h List.not_mem_nil⟩⟩⟩⟩⟩⟩⟩⟩⟩⟩⟩⟩⟩⟩⟩⟩⟩⟩⟩⟩⟩⟩⟩⟩⟩⟩⟩⟩⟩⟩⟩⟩⟩⟩⟩⟩⟩⟩⟩⟩⟩⟩⟩⟩⟩⟩⟩⟩⟩⟩⟩⟩⟩⟩⟩⟩⟩⟩⟩⟩
theorem ctab_ok_6_0 : cOK (73940, 49, 1, false) := ⟨18, 212, rfl, by decide, mok_49, wd_1525, ⟨wd_1526, wd_1527⟩⟩
theorem ctab_ok_6_1 : cOK (73943, 169, 1, false) := ⟨18, 215, rfl, by decide, mok_169, wd_1528, ⟨wd_1529, wd_1530⟩⟩
theorem ctab_ok_6_2 : cOK (73944, 50, 1, false) := ⟨18, 216, rfl, by decide, mok_50, wd_1531, ⟨wd_1532, wd_1533⟩⟩
theorem ctab_ok_6_3 : cOK (73947, 170, 1, false) := ⟨18, 219, rfl, by decide, mok_170, wd_1534, ⟨wd_1535, wd_1536⟩⟩
theorem ctab_ok_6 : ∀ e ∈ cTab_6, cOK e := List.forall_mem_cons.mpr ⟨ctab_ok_6_0, List.forall_mem_cons.mpr ⟨ctab_ok_6_1, List.forall_mem_cons.mpr ⟨ctab_ok_6_2, List.forall_mem_cons.mpr ⟨ctab_ok_6_3,  fun _ h => absurd h List.not_mem_nil⟩⟩⟩⟩
theorem ctab_ok : ∀ e ∈ cTab, cOK e := by
  intro e h
  unfold cTab at h
  simp only [List.mem_append] at h
  rcases h with h | h | h | h | h | h | h
  · exact ctab_ok_0 e h
  · exact ctab_ok_1 e h
  · exact ctab_ok_2 e h
  · exact ctab_ok_3 e h
  · exact ctab_ok_4 e h
  · exact ctab_ok_5 e h
  · exact ctab_ok_6 e h
theorem ntab_ok_0_0 : nOK (45069, 5) := ⟨11, 13, RX5, TX5, 6, rfl, by decide, rfl, wd_342, wd_343, wd_238⟩
theorem ntab_ok_0_1 : nOK (45076, 1) := ⟨11, 20, RX1, TX1, 10, rfl, by decide, rfl, wd_347, wd_348, wd_187⟩
theorem ntab_ok_0_2 : nOK (45085, 0) := ⟨11, 29, RX0, TX0, 6, rfl, by decide, rfl, wd_352, wd_353, wd_174⟩
theorem ntab_ok_0_3 : nOK (45092, 3) := ⟨11, 36, RX3, TX3, 10, rfl, by decide, rfl, wd_357, wd_358, wd_210⟩
theorem ntab_ok_0_4 : nOK (45101, 10) := ⟨11, 45, RX10, TX10, 11, rfl, by decide, rfl, wd_362, wd_363, wd_309⟩
theorem ntab_ok_0_5 : nOK (45110, 8) := ⟨11, 54, RX8, TX8, 4, rfl, by decide, rfl, wd_367, wd_368, wd_279⟩
theorem ntab_ok_0_6 : nOK (45117, 2) := ⟨11, 61, RX2, TX2, 4, rfl, by decide, rfl, wd_372, wd_373, wd_202⟩
theorem ntab_ok_0_7 : nOK (45124, 6) := ⟨11, 68, RX6, TX6, 3, rfl, by decide, rfl, wd_377, wd_378, wd_258⟩
theorem ntab_ok_0_8 : nOK (45131, 7) := ⟨11, 75, RX7, TX7, 1, rfl, by decide, rfl, wd_382, wd_383, wd_269⟩
theorem ntab_ok_0_9 : nOK (45138, 9) := ⟨11, 82, RX9, TX9, 10, rfl, by decide, rfl, wd_387, wd_388, wd_291⟩
theorem ntab_ok_0_10 : nOK (45161, 4) := ⟨11, 105, RX4, TX4, 11, rfl, by decide, rfl, wd_403, wd_404, wd_230⟩
theorem ntab_ok_0_11 : nOK (36886, 7) := ⟨9, 22, RX7, TX7, 1, rfl, by decide, rfl, wd_1115, wd_383, wd_269⟩
theorem ntab_ok_0_12 : nOK (73735, 11) := ⟨18, 7, RX11, TX11, 14, rfl, by decide, rfl, wd_1231, wd_1232, wd_1⟩
theorem ntab_ok_0_13 : nOK (73738, 12) := ⟨18, 10, RX12, TX12, 69, rfl, by decide, rfl, wd_1235, wd_1236, wd_67⟩
theorem ntab_ok_0 : ∀ e ∈ nTab_0, nOK e := List.forall_mem_cons.mpr ⟨ntab_ok_0_0, List.forall_mem_cons.mpr ⟨ntab_ok_0_1, List.forall_mem_cons.mpr ⟨ntab_ok_0_2, List.forall_mem_cons.mpr ⟨ntab_ok_0_3, List.forall_mem_cons.mpr ⟨ntab_ok_0_4, List.forall_mem_cons.mpr ⟨ntab_ok_0_5, List.forall_mem_cons.mpr ⟨ntab_ok_0_6, List.forall_mem_cons.mpr ⟨ntab_ok_0_7, List.forall_mem_cons.mpr ⟨ntab_ok_0_8, List.forall_mem_cons.mpr ⟨ntab_ok_0_9, List.forall_mem_cons.mpr ⟨ntab_ok_0_10, List.forall_mem_cons.mpr ⟨ntab_ok_0_11, List.forall_mem_cons.mpr ⟨ntab_ok_0_12, List.forall_mem_cons.mpr ⟨ntab_ok_0_13,  fun _ h => absurd h List.not_mem_nil⟩⟩⟩⟩⟩⟩⟩⟩⟩⟩⟩⟩⟩⟩
theorem ntab_ok : ∀ e ∈ nTab, nOK e := ntab_ok_0
theorem atab_ok_0_0 : aOK (20491, 103) := ⟨5, 11, rfl, by decide, Or.inl ⟨rfl, wd_1030⟩⟩
theorem atab_ok_0_1 : aOK (40971, 104) := ⟨10, 11, rfl, by decide, Or.inr ⟨rfl, wd_1179⟩⟩
theorem atab_ok_0 : ∀ e ∈ aTab_0, aOK e := List.forall_mem_cons.mpr ⟨atab_ok_0_0, List.forall_mem_cons.mpr ⟨atab_ok_0_1,  fun _ h => absurd h List.not_mem_nil⟩⟩
theorem atab_ok : ∀ e ∈ aTab, aOK e := atab_ok_0
theorem utab_ok_0_0 : uOK (20497, 105) := ⟨5, 17, rfl, by decide, rfl, wd_1032⟩
theorem utab_ok_0_1 : uOK (24587, 105) := ⟨6, 11, rfl, by decide, rfl, wd_1078⟩
theorem utab_ok_0_2 : uOK (32781, 105) := ⟨8, 13, rfl, by decide, rfl, wd_1099⟩
theorem utab_ok_0 : ∀ e ∈ uTab_0, uOK e := List.forall_mem_cons.mpr ⟨utab_ok_0_0, List.forall_mem_cons.mpr ⟨utab_ok_0_1, List.forall_mem_cons.mpr ⟨utab_ok_0_2,  fun _ h => absurd h List.not_mem_nil⟩⟩⟩
theorem utab_ok : ∀ e ∈ uTab, uOK e := utab_ok_0
theorem ltab_ok_0_0 : lOK (45527, aF 1) := ⟨11, 471, rfl, by decide, Or.inr (Or.inr ⟨0, "what", rfl, rfl⟩)⟩
theorem ltab_ok_0_1 : lOK (45529, aF 2) := ⟨11, 473, rfl, by decide, Or.inr (Or.inr ⟨1, "age", rfl, rfl⟩)⟩
theorem ltab_ok_0_2 : lOK (45531, aF 3) := ⟨11, 475, rfl, by decide, Or.inr (Or.inr ⟨2, "house", rfl, rfl⟩)⟩
theorem ltab_ok_0_3 : lOK (45533, aF 4) := ⟨11, 477, rfl, by decide, Or.inr (Or.inr ⟨3, "kids", rfl, rfl⟩)⟩
theorem ltab_ok_0_4 : lOK (45535, aF 5) := ⟨11, 479, rfl, by decide, Or.inr (Or.inr ⟨4, "oath", rfl, rfl⟩)⟩
theorem ltab_ok_0_5 : lOK (45537, aF 6) := ⟨11, 481, rfl, by decide, Or.inr (Or.inr ⟨5, "goods", rfl, rfl⟩)⟩
theorem ltab_ok_0_6 : lOK (49510, aI (1000000)) := ⟨12, 358, rfl, by decide, Or.inl ⟨_, rfl, by decide +kernel, wd_878⟩⟩
theorem ltab_ok_0_7 : lOK (8222, aI (1000000)) := ⟨2, 30, rfl, by decide, Or.inl ⟨_, rfl, by decide +kernel, wd_964⟩⟩
theorem ltab_ok_0_8 : lOK (36941, aF 7) := ⟨9, 77, rfl, by decide, Or.inr (Or.inr ⟨6, "void", rfl, rfl⟩)⟩
theorem ltab_ok_0_9 : lOK (36947, aF 8) := ⟨9, 83, rfl, by decide, Or.inr (Or.inr ⟨7, "holds", rfl, rfl⟩)⟩
theorem ltab_ok_0_10 : lOK (36949, aF 9) := ⟨9, 85, rfl, by decide, Or.inr (Or.inr ⟨8, "owed ", rfl, rfl⟩)⟩
theorem ltab_ok_0_11 : lOK (36954, aF 10) := ⟨9, 90, rfl, by decide, Or.inr (Or.inr ⟨9, "to ", rfl, rfl⟩)⟩
theorem ltab_ok_0_12 : lOK (36963, aF 11) := ⟨9, 99, rfl, by decide, Or.inr (Or.inr ⟨10, " ", rfl, rfl⟩)⟩
theorem ltab_ok_0_13 : lOK (36965, aF 12) := ⟨9, 101, rfl, by decide, Or.inr (Or.inr ⟨11, "unless ", rfl, rfl⟩)⟩
theorem ltab_ok_0_14 : lOK (36967, aF 13) := ⟨9, 103, rfl, by decide, Or.inr (Or.inr ⟨12, "if ", rfl, rfl⟩)⟩
theorem ltab_ok_0_15 : lOK (36976, aF 14) := ⟨9, 112, rfl, by decide, Or.inr (Or.inr ⟨13, "or ", rfl, rfl⟩)⟩
theorem ltab_ok_0_16 : lOK (36978, aF 15) := ⟨9, 114, rfl, by decide, Or.inr (Or.inr ⟨14, "and ", rfl, rfl⟩)⟩
theorem ltab_ok_0_17 : lOK (36980, aF 16) := ⟨9, 116, rfl, by decide, Or.inr (Or.inr ⟨15, "not ", rfl, rfl⟩)⟩
theorem ltab_ok_0_18 : lOK (53513, aI (1431655765)) := ⟨13, 265, rfl, by decide, Or.inl ⟨_, rfl, by decide +kernel, wd_1537⟩⟩
theorem ltab_ok_0_19 : lOK (53514, aI (858993459)) := ⟨13, 266, rfl, by decide, Or.inl ⟨_, rfl, by decide +kernel, wd_1538⟩⟩
theorem ltab_ok_0_20 : lOK (53515, aI (252645135)) := ⟨13, 267, rfl, by decide, Or.inl ⟨_, rfl, by decide +kernel, wd_1539⟩⟩
theorem ltab_ok_0_21 : lOK (57658, aL (6148914691236517205)) := ⟨14, 314, rfl, by decide, Or.inr (Or.inl ⟨_, rfl, wd_1540⟩)⟩
theorem ltab_ok_0_22 : lOK (57660, aL (3689348814741910323)) := ⟨14, 316, rfl, by decide, Or.inr (Or.inl ⟨_, rfl, wd_1541⟩)⟩
theorem ltab_ok_0_23 : lOK (57662, aL (1085102592571150095)) := ⟨14, 318, rfl, by decide, Or.inr (Or.inl ⟨_, rfl, wd_1542⟩)⟩
theorem ltab_ok_0 : ∀ e ∈ lTab_0, lOK e := List.forall_mem_cons.mpr ⟨ltab_ok_0_0, List.forall_mem_cons.mpr ⟨ltab_ok_0_1, List.forall_mem_cons.mpr ⟨ltab_ok_0_2, List.forall_mem_cons.mpr ⟨ltab_ok_0_3, List.forall_mem_cons.mpr ⟨ltab_ok_0_4, List.forall_mem_cons.mpr ⟨ltab_ok_0_5, List.forall_mem_cons.mpr ⟨ltab_ok_0_6, List.forall_mem_cons.mpr ⟨ltab_ok_0_7, List.forall_mem_cons.mpr ⟨ltab_ok_0_8, List.forall_mem_cons.mpr ⟨ltab_ok_0_9, List.forall_mem_cons.mpr ⟨ltab_ok_0_10, List.forall_mem_cons.mpr ⟨ltab_ok_0_11, List.forall_mem_cons.mpr ⟨ltab_ok_0_12, List.forall_mem_cons.mpr ⟨ltab_ok_0_13, List.forall_mem_cons.mpr ⟨ltab_ok_0_14, List.forall_mem_cons.mpr ⟨ltab_ok_0_15, List.forall_mem_cons.mpr ⟨ltab_ok_0_16, List.forall_mem_cons.mpr ⟨ltab_ok_0_17, List.forall_mem_cons.mpr ⟨ltab_ok_0_18, List.forall_mem_cons.mpr ⟨ltab_ok_0_19, List.forall_mem_cons.mpr ⟨ltab_ok_0_20, List.forall_mem_cons.mpr ⟨ltab_ok_0_21, List.forall_mem_cons.mpr ⟨ltab_ok_0_22, List.forall_mem_cons.mpr ⟨ltab_ok_0_23,  fun _ h => absurd h List.not_mem_nil⟩⟩⟩⟩⟩⟩⟩⟩⟩⟩⟩⟩⟩⟩⟩⟩⟩⟩⟩⟩⟩⟩⟩⟩
theorem ltab_ok : ∀ e ∈ lTab, lOK e := ltab_ok_0
theorem layX0 : ∀ w ∈ u_ws RX0 TX0 6, w ∈ lw_tbl := by
  intro w h
  unfold u_ws at h
  obtain ⟨k, hk, rfl⟩ := List.mem_map.mp h
  have hk := List.mem_range.mp hk
  match k, hk with
  | 0, _ => exact wd_1543
  | 1, _ => exact wd_1544
  | 2, _ => exact wd_1545
  | 3, _ => exact wd_1546
  | 4, _ => exact wd_1547
  | 5, _ => exact wd_1548
  | k + 6, hk => exact absurd hk (by omega)
theorem layX1 : ∀ w ∈ u_ws RX1 TX1 10, w ∈ lw_tbl := by
  intro w h
  unfold u_ws at h
  obtain ⟨k, hk, rfl⟩ := List.mem_map.mp h
  have hk := List.mem_range.mp hk
  match k, hk with
  | 0, _ => exact wd_1549
  | 1, _ => exact wd_1550
  | 2, _ => exact wd_1551
  | 3, _ => exact wd_1552
  | 4, _ => exact wd_1553
  | 5, _ => exact wd_1554
  | 6, _ => exact wd_1555
  | 7, _ => exact wd_1556
  | 8, _ => exact wd_1557
  | 9, _ => exact wd_1558
  | k + 10, hk => exact absurd hk (by omega)
theorem layX2 : ∀ w ∈ u_ws RX2 TX2 4, w ∈ lw_tbl := by
  intro w h
  unfold u_ws at h
  obtain ⟨k, hk, rfl⟩ := List.mem_map.mp h
  have hk := List.mem_range.mp hk
  match k, hk with
  | 0, _ => exact wd_1559
  | 1, _ => exact wd_1560
  | 2, _ => exact wd_1561
  | 3, _ => exact wd_1562
  | k + 4, hk => exact absurd hk (by omega)
theorem layX3 : ∀ w ∈ u_ws RX3 TX3 10, w ∈ lw_tbl := by
  intro w h
  unfold u_ws at h
  obtain ⟨k, hk, rfl⟩ := List.mem_map.mp h
  have hk := List.mem_range.mp hk
  match k, hk with
  | 0, _ => exact wd_1563
  | 1, _ => exact wd_1564
  | 2, _ => exact wd_1565
  | 3, _ => exact wd_1566
  | 4, _ => exact wd_1567
  | 5, _ => exact wd_1568
  | 6, _ => exact wd_1569
  | 7, _ => exact wd_1570
  | 8, _ => exact wd_1571
  | 9, _ => exact wd_1572
  | k + 10, hk => exact absurd hk (by omega)
theorem layX4 : ∀ w ∈ u_ws RX4 TX4 11, w ∈ lw_tbl := by
  intro w h
  unfold u_ws at h
  obtain ⟨k, hk, rfl⟩ := List.mem_map.mp h
  have hk := List.mem_range.mp hk
  match k, hk with
  | 0, _ => exact wd_1573
  | 1, _ => exact wd_1574
  | 2, _ => exact wd_1575
  | 3, _ => exact wd_1576
  | 4, _ => exact wd_1577
  | 5, _ => exact wd_1578
  | 6, _ => exact wd_1579
  | 7, _ => exact wd_1580
  | 8, _ => exact wd_1581
  | 9, _ => exact wd_1582
  | 10, _ => exact wd_1583
  | k + 11, hk => exact absurd hk (by omega)
theorem layX5 : ∀ w ∈ u_ws RX5 TX5 6, w ∈ lw_tbl := by
  intro w h
  unfold u_ws at h
  obtain ⟨k, hk, rfl⟩ := List.mem_map.mp h
  have hk := List.mem_range.mp hk
  match k, hk with
  | 0, _ => exact wd_1584
  | 1, _ => exact wd_1585
  | 2, _ => exact wd_1586
  | 3, _ => exact wd_1587
  | 4, _ => exact wd_1588
  | 5, _ => exact wd_1589
  | k + 6, hk => exact absurd hk (by omega)
theorem layX6 : ∀ w ∈ u_ws RX6 TX6 3, w ∈ lw_tbl := by
  intro w h
  unfold u_ws at h
  obtain ⟨k, hk, rfl⟩ := List.mem_map.mp h
  have hk := List.mem_range.mp hk
  match k, hk with
  | 0, _ => exact wd_1590
  | 1, _ => exact wd_1591
  | 2, _ => exact wd_1592
  | k + 3, hk => exact absurd hk (by omega)
theorem layX7 : ∀ w ∈ u_ws RX7 TX7 1, w ∈ lw_tbl := by
  intro w h
  unfold u_ws at h
  obtain ⟨k, hk, rfl⟩ := List.mem_map.mp h
  have hk := List.mem_range.mp hk
  match k, hk with
  | 0, _ => exact wd_1593
  | k + 1, hk => exact absurd hk (by omega)
theorem layX8 : ∀ w ∈ u_ws RX8 TX8 4, w ∈ lw_tbl := by
  intro w h
  unfold u_ws at h
  obtain ⟨k, hk, rfl⟩ := List.mem_map.mp h
  have hk := List.mem_range.mp hk
  match k, hk with
  | 0, _ => exact wd_1594
  | 1, _ => exact wd_1595
  | 2, _ => exact wd_1596
  | 3, _ => exact wd_1597
  | k + 4, hk => exact absurd hk (by omega)
theorem layX9 : ∀ w ∈ u_ws RX9 TX9 10, w ∈ lw_tbl := by
  intro w h
  unfold u_ws at h
  obtain ⟨k, hk, rfl⟩ := List.mem_map.mp h
  have hk := List.mem_range.mp hk
  match k, hk with
  | 0, _ => exact wd_1598
  | 1, _ => exact wd_1599
  | 2, _ => exact wd_1600
  | 3, _ => exact wd_1601
  | 4, _ => exact wd_1602
  | 5, _ => exact wd_1603
  | 6, _ => exact wd_1604
  | 7, _ => exact wd_1605
  | 8, _ => exact wd_1606
  | 9, _ => exact wd_1607
  | k + 10, hk => exact absurd hk (by omega)
theorem layX10 : ∀ w ∈ u_ws RX10 TX10 11, w ∈ lw_tbl := by
  intro w h
  unfold u_ws at h
  obtain ⟨k, hk, rfl⟩ := List.mem_map.mp h
  have hk := List.mem_range.mp hk
  match k, hk with
  | 0, _ => exact wd_1608
  | 1, _ => exact wd_1609
  | 2, _ => exact wd_1610
  | 3, _ => exact wd_1611
  | 4, _ => exact wd_1612
  | 5, _ => exact wd_1613
  | 6, _ => exact wd_1614
  | 7, _ => exact wd_1615
  | 8, _ => exact wd_1616
  | 9, _ => exact wd_1617
  | 10, _ => exact wd_1618
  | k + 11, hk => exact absurd hk (by omega)
theorem layX11 : ∀ w ∈ u_ws RX11 TX11 14, w ∈ lw_tbl := by
  intro w h
  unfold u_ws at h
  obtain ⟨k, hk, rfl⟩ := List.mem_map.mp h
  have hk := List.mem_range.mp hk
  match k, hk with
  | 0, _ => exact wd_1619
  | 1, _ => exact wd_1620
  | 2, _ => exact wd_1621
  | 3, _ => exact wd_1622
  | 4, _ => exact wd_1623
  | 5, _ => exact wd_1624
  | 6, _ => exact wd_1625
  | 7, _ => exact wd_1626
  | 8, _ => exact wd_1627
  | 9, _ => exact wd_1628
  | 10, _ => exact wd_1629
  | 11, _ => exact wd_1630
  | 12, _ => exact wd_1631
  | 13, _ => exact wd_1632
  | k + 14, hk => exact absurd hk (by omega)
theorem layX12 : ∀ w ∈ u_ws RX12 TX12 69, w ∈ lw_tbl := by
  intro w h
  unfold u_ws at h
  obtain ⟨k, hk, rfl⟩ := List.mem_map.mp h
  have hk := List.mem_range.mp hk
  match k, hk with
  | 0, _ => exact wd_1633
  | 1, _ => exact wd_1634
  | 2, _ => exact wd_1635
  | 3, _ => exact wd_1636
  | 4, _ => exact wd_1637
  | 5, _ => exact wd_1638
  | 6, _ => exact wd_1639
  | 7, _ => exact wd_1640
  | 8, _ => exact wd_1641
  | 9, _ => exact wd_1642
  | 10, _ => exact wd_1643
  | 11, _ => exact wd_1644
  | 12, _ => exact wd_1645
  | 13, _ => exact wd_1646
  | 14, _ => exact wd_1647
  | 15, _ => exact wd_1648
  | 16, _ => exact wd_1649
  | 17, _ => exact wd_1650
  | 18, _ => exact wd_1651
  | 19, _ => exact wd_1652
  | 20, _ => exact wd_1653
  | 21, _ => exact wd_1654
  | 22, _ => exact wd_1655
  | 23, _ => exact wd_1656
  | 24, _ => exact wd_1657
  | 25, _ => exact wd_1658
  | 26, _ => exact wd_1659
  | 27, _ => exact wd_1660
  | 28, _ => exact wd_1661
  | 29, _ => exact wd_1662
  | 30, _ => exact wd_1663
  | 31, _ => exact wd_1664
  | 32, _ => exact wd_1665
  | 33, _ => exact wd_1666
  | 34, _ => exact wd_1667
  | 35, _ => exact wd_1668
  | 36, _ => exact wd_1669
  | 37, _ => exact wd_1670
  | 38, _ => exact wd_1671
  | 39, _ => exact wd_1672
  | 40, _ => exact wd_1673
  | 41, _ => exact wd_1674
  | 42, _ => exact wd_1675
  | 43, _ => exact wd_1676
  | 44, _ => exact wd_1677
  | 45, _ => exact wd_1678
  | 46, _ => exact wd_1679
  | 47, _ => exact wd_1680
  | 48, _ => exact wd_1681
  | 49, _ => exact wd_1682
  | 50, _ => exact wd_1683
  | 51, _ => exact wd_1684
  | 52, _ => exact wd_1685
  | 53, _ => exact wd_1686
  | 54, _ => exact wd_1687
  | 55, _ => exact wd_1688
  | 56, _ => exact wd_1689
  | 57, _ => exact wd_1690
  | 58, _ => exact wd_1691
  | 59, _ => exact wd_1692
  | 60, _ => exact wd_1693
  | 61, _ => exact wd_1694
  | 62, _ => exact wd_1695
  | 63, _ => exact wd_1696
  | 64, _ => exact wd_1697
  | 65, _ => exact wd_1698
  | 66, _ => exact wd_1699
  | 67, _ => exact wd_1700
  | 68, _ => exact wd_1701
  | k + 69, hk => exact absurd hk (by omega)
def oOK (e : Nat) : Prop := ∃ (o idx : Nat), e = o * 4096 + idx ∧ idx < 4096 ∧ Cond.methodLink (oName o) idx objectInit ∈ lw_tbl
theorem objw_1 : Cond.instanceMethod objectInit ∈ lw_tbl := wd_1702
theorem objw_2 : Cond.code objectInit ⟨#[0xb1]⟩ 1 none ∈ lw_tbl := wd_1703
theorem otab_ok : ∀ e ∈ oTab, oOK e := List.forall_mem_cons.mpr ⟨⟨0, 3, rfl, by decide, wd_1704⟩, List.forall_mem_cons.mpr ⟨⟨1, 3, rfl, by decide, wd_1705⟩, List.forall_mem_cons.mpr ⟨⟨2, 1, rfl, by decide, wd_1706⟩, List.forall_mem_cons.mpr ⟨⟨3, 3, rfl, by decide, wd_1707⟩, List.forall_mem_cons.mpr ⟨⟨4, 3, rfl, by decide, wd_1708⟩, List.forall_mem_cons.mpr ⟨⟨5, 3, rfl, by decide, wd_1709⟩, List.forall_mem_cons.mpr ⟨⟨6, 3, rfl, by decide, wd_1710⟩, List.forall_mem_cons.mpr ⟨⟨7, 3, rfl, by decide, wd_1711⟩, List.forall_mem_cons.mpr ⟨⟨8, 1, rfl, by decide, wd_1712⟩, List.forall_mem_cons.mpr ⟨⟨9, 3, rfl, by decide, wd_1713⟩, List.forall_mem_cons.mpr ⟨⟨10, 3, rfl, by decide, wd_1714⟩, List.forall_mem_cons.mpr ⟨⟨11, 1, rfl, by decide, wd_1715⟩, List.forall_mem_cons.mpr ⟨⟨12, 1, rfl, by decide, wd_1716⟩,  fun _ h => absurd h List.not_mem_nil⟩⟩⟩⟩⟩⟩⟩⟩⟩⟩⟩⟩⟩
theorem copy_ok : copyKey = 11 * 4096 + 454 ∧ Cond.methodLink (oName 11) 454 arraycopyName ∈ lw_tbl ∧ Cond.native arraycopyName ∈ lw_tbl ∧ Cond.static arraycopyName ∈ lw_tbl ∧ Cond.initialized "java/lang/System" ∈ lw_tbl := ⟨rfl, wd_1717, wd_1718, wd_1719, wd_1720⟩
def clsOK (q : vw_C) : Prop := (∀ w ∈ u_ws q.1 q.2.1 q.2.2, w ∈ lw_tbl) ∧ (∀ k, k < q.2.2 → (match parseFieldDescriptor (q.2.1 k).2.2.1 with | some .int => true | some .boolean => true | some (.object _) => true | some (.array _) => true | _ => false) = true) ∧ (∀ a, a < q.2.2 → ∀ b, b < q.2.2 → a ≠ b → (q.2.1 a).2.1 ≠ (q.2.1 b).2.1)
theorem clsX0 : clsOK (RX0, TX0, 6) := ⟨layX0, by decide +kernel, nmX0⟩
theorem clsX1 : clsOK (RX1, TX1, 10) := ⟨layX1, by decide +kernel, nmX1⟩
theorem clsX2 : clsOK (RX2, TX2, 4) := ⟨layX2, by decide +kernel, nmX2⟩
theorem clsX3 : clsOK (RX3, TX3, 10) := ⟨layX3, by decide +kernel, nmX3⟩
theorem clsX4 : clsOK (RX4, TX4, 11) := ⟨layX4, by decide +kernel, nmX4⟩
theorem clsX5 : clsOK (RX5, TX5, 6) := ⟨layX5, by decide +kernel, nmX5⟩
theorem clsX6 : clsOK (RX6, TX6, 3) := ⟨layX6, by decide +kernel, nmX6⟩
theorem clsX7 : clsOK (RX7, TX7, 1) := ⟨layX7, by decide +kernel, nmX7⟩
theorem clsX8 : clsOK (RX8, TX8, 4) := ⟨layX8, by decide +kernel, nmX8⟩
theorem clsX9 : clsOK (RX9, TX9, 10) := ⟨layX9, by decide +kernel, nmX9⟩
theorem clsX10 : clsOK (RX10, TX10, 11) := ⟨layX10, by decide +kernel, nmX10⟩
theorem clsX11 : clsOK (RX11, TX11, 14) := ⟨layX11, by decide +kernel, nmX11⟩
theorem clsX12 : clsOK (RX12, TX12, 69) := ⟨layX12, by decide +kernel, nmX12⟩
theorem cls_ok : ∀ q ∈ amCl, clsOK q := List.forall_mem_cons.mpr ⟨clsX0, List.forall_mem_cons.mpr ⟨clsX1, List.forall_mem_cons.mpr ⟨clsX2, List.forall_mem_cons.mpr ⟨clsX3, List.forall_mem_cons.mpr ⟨clsX4, List.forall_mem_cons.mpr ⟨clsX5, List.forall_mem_cons.mpr ⟨clsX6, List.forall_mem_cons.mpr ⟨clsX7, List.forall_mem_cons.mpr ⟨clsX8, List.forall_mem_cons.mpr ⟨clsX9, List.forall_mem_cons.mpr ⟨clsX10, List.forall_mem_cons.mpr ⟨clsX11, List.forall_mem_cons.mpr ⟨clsX12,  fun _ h => absurd h List.not_mem_nil⟩⟩⟩⟩⟩⟩⟩⟩⟩⟩⟩⟩⟩
theorem arr_ok : Cond.arrayClass .int ∈ lw_tbl ∧ Cond.arrayClass .boolean ∈ lw_tbl ∧ Cond.arrayClass .long ∈ lw_tbl ∧ Cond.arrayOver (.object RX4) ∈ lw_tbl ∧ Cond.arrayOver (.object RX9) ∈ lw_tbl ∧ Cond.arrayOver (.array .int) ∈ lw_tbl := ⟨wd_1721, wd_1722, wd_1723, wd_1724, wd_1725, wd_1726⟩
theorem str_ok : ∀ e ∈ sTab, Cond.stringRef e.1 e.2.1 e.2.2 ∈ lw_tbl := List.forall_mem_cons.mpr ⟨wd_1727, List.forall_mem_cons.mpr ⟨wd_1728, List.forall_mem_cons.mpr ⟨wd_1729, List.forall_mem_cons.mpr ⟨wd_1730, List.forall_mem_cons.mpr ⟨wd_1731, List.forall_mem_cons.mpr ⟨wd_1732, List.forall_mem_cons.mpr ⟨wd_1733, List.forall_mem_cons.mpr ⟨wd_1734, List.forall_mem_cons.mpr ⟨wd_1735, List.forall_mem_cons.mpr ⟨wd_1736, List.forall_mem_cons.mpr ⟨wd_1737, List.forall_mem_cons.mpr ⟨wd_1738, List.forall_mem_cons.mpr ⟨wd_1739, List.forall_mem_cons.mpr ⟨wd_1740, List.forall_mem_cons.mpr ⟨wd_1741, List.forall_mem_cons.mpr ⟨wd_1742,  fun _ h => absurd h List.not_mem_nil⟩⟩⟩⟩⟩⟩⟩⟩⟩⟩⟩⟩⟩⟩⟩⟩
