/-! every row of every method, checked -/
set_option maxRecDepth 100000 in
theorem ok_X0_init : ba_ok mo_X0_init := ⟨by decide +kernel, by decide +kernel⟩
set_option maxRecDepth 100000 in
theorem ok_X0_leaves : ba_ok mo_X0_leaves := ⟨by decide +kernel, by decide +kernel⟩
set_option maxRecDepth 100000 in
theorem ok_X0_telling : ba_ok mo_X0_telling := ⟨by decide +kernel, by decide +kernel⟩
set_option maxRecDepth 100000 in
theorem ok_X0_plainTelling : ba_ok mo_X0_plainTelling := ⟨by decide +kernel, by decide +kernel⟩
set_option maxRecDepth 100000 in
theorem ok_X0_clerkTelling : ba_ok mo_X0_clerkTelling := ⟨by decide +kernel, by decide +kernel⟩
set_option maxRecDepth 100000 in
theorem ok_X0_generalTelling : ba_ok mo_X0_generalTelling := ⟨by decide +kernel, by decide +kernel⟩
set_option maxRecDepth 100000 in
theorem ok_X0_salutes : ba_ok mo_X0_salutes := ⟨by decide +kernel, by decide +kernel⟩
set_option maxRecDepth 100000 in
theorem ok_X1_init : ba_ok mo_X1_init := ⟨by decide +kernel, by decide +kernel⟩
set_option maxRecDepth 100000 in
theorem ok_X1_passes : ba_ok mo_X1_passes := ⟨by decide +kernel, by decide +kernel⟩
set_option maxRecDepth 100000 in
theorem ok_X1_acts : ba_ok mo_X1_acts := ⟨by decide +kernel, by decide +kernel⟩
set_option maxRecDepth 100000 in
theorem ok_X1_isLed : ba_ok mo_X1_isLed := ⟨by decide +kernel, by decide +kernel⟩
set_option maxRecDepth 100000 in
theorem ok_X1_answer : ba_ok mo_X1_answer := ⟨by decide +kernel, by decide +kernel⟩
set_option maxRecDepth 100000 in
theorem ok_X1_markOf : ba_ok mo_X1_markOf := ⟨by decide +kernel, by decide +kernel⟩
set_option maxRecDepth 100000 in
theorem ok_X2_init : ba_ok mo_X2_init := ⟨by decide +kernel, by decide +kernel⟩
set_option maxRecDepth 100000 in
theorem ok_X2_becomes : ba_ok mo_X2_becomes := ⟨by decide +kernel, by decide +kernel⟩
set_option maxRecDepth 100000 in
theorem ok_X2_takes : ba_ok mo_X2_takes := ⟨by decide +kernel, by decide +kernel⟩
set_option maxRecDepth 100000 in
theorem ok_X2_isAtWork : ba_ok mo_X2_isAtWork := ⟨by decide +kernel, by decide +kernel⟩
set_option maxRecDepth 100000 in
theorem ok_X3_init : ba_ok mo_X3_init := ⟨by decide +kernel, by decide +kernel⟩
set_option maxRecDepth 100000 in
theorem ok_X3_clear : ba_ok mo_X3_clear := ⟨by decide +kernel, by decide +kernel⟩
set_option maxRecDepth 100000 in
theorem ok_X3_add : ba_ok mo_X3_add := ⟨by decide +kernel, by decide +kernel⟩
set_option maxRecDepth 100000 in
theorem ok_X3_necksOf : ba_ok mo_X3_necksOf := ⟨by decide +kernel, by decide +kernel⟩
set_option maxRecDepth 100000 in
theorem ok_X3_kindsOf : ba_ok mo_X3_kindsOf := ⟨by decide +kernel, by decide +kernel⟩
set_option maxRecDepth 100000 in
theorem ok_X3_areSoWithout : ba_ok mo_X3_areSoWithout := ⟨by decide +kernel, by decide +kernel⟩
set_option maxRecDepth 100000 in
theorem ok_X4_init : ba_ok mo_X4_init := ⟨by decide +kernel, by decide +kernel⟩
set_option maxRecDepth 100000 in
theorem ok_X4_becomes : ba_ok mo_X4_becomes := ⟨by decide +kernel, by decide +kernel⟩
set_option maxRecDepth 100000 in
theorem ok_X4_after : ba_ok mo_X4_after := ⟨by decide +kernel, by decide +kernel⟩
set_option maxRecDepth 100000 in
theorem ok_X4_become : ba_ok mo_X4_become := ⟨by decide +kernel, by decide +kernel⟩
set_option maxRecDepth 100000 in
theorem ok_X4_fewest : ba_ok mo_X4_fewest := ⟨by decide +kernel, by decide +kernel⟩
set_option maxRecDepth 100000 in
theorem ok_X4_allAfter : ba_ok mo_X4_allAfter := ⟨by decide +kernel, by decide +kernel⟩
set_option maxRecDepth 100000 in
theorem ok_X4_stampOnWay : ba_ok mo_X4_stampOnWay := ⟨by decide +kernel, by decide +kernel⟩
set_option maxRecDepth 100000 in
theorem ok_X4_nearestStamp : ba_ok mo_X4_nearestStamp := ⟨by decide +kernel, by decide +kernel⟩
set_option maxRecDepth 100000 in
theorem ok_X4_rowsTo : ba_ok mo_X4_rowsTo := ⟨by decide +kernel, by decide +kernel⟩
set_option maxRecDepth 100000 in
theorem ok_X4_lengthenRows : ba_ok mo_X4_lengthenRows := ⟨by decide +kernel, by decide +kernel⟩
set_option maxRecDepth 100000 in
theorem ok_X4_struck : ba_ok mo_X4_struck := ⟨by decide +kernel, by decide +kernel⟩
set_option maxRecDepth 100000 in
theorem ok_X4_comesBackBy : ba_ok mo_X4_comesBackBy := ⟨by decide +kernel, by decide +kernel⟩
set_option maxRecDepth 100000 in
theorem ok_X4_strikesAhead : ba_ok mo_X4_strikesAhead := ⟨by decide +kernel, by decide +kernel⟩
set_option maxRecDepth 100000 in
theorem ok_X5_init : ba_ok mo_X5_init := ⟨by decide +kernel, by decide +kernel⟩
set_option maxRecDepth 100000 in
theorem ok_X5_hasRow : ba_ok mo_X5_hasRow := ⟨by decide +kernel, by decide +kernel⟩
set_option maxRecDepth 100000 in
theorem ok_X5_begins : ba_ok mo_X5_begins := ⟨by decide +kernel, by decide +kernel⟩
set_option maxRecDepth 100000 in
theorem ok_X5_loses : ba_ok mo_X5_loses := ⟨by decide +kernel, by decide +kernel⟩
set_option maxRecDepth 100000 in
theorem ok_X5_spans : ba_ok mo_X5_spans := ⟨by decide +kernel, by decide +kernel⟩
set_option maxRecDepth 100000 in
theorem ok_X5_faultOf : ba_ok mo_X5_faultOf := ⟨by decide +kernel, by decide +kernel⟩
set_option maxRecDepth 100000 in
theorem ok_X5_at : ba_ok mo_X5_at := ⟨by decide +kernel, by decide +kernel⟩
set_option maxRecDepth 100000 in
theorem ok_X5_become : ba_ok mo_X5_become := ⟨by decide +kernel, by decide +kernel⟩
set_option maxRecDepth 100000 in
theorem ok_X6_firstFault : ba_ok mo_X6_firstFault := ⟨by decide +kernel, by decide +kernel⟩
set_option maxRecDepth 100000 in
theorem ok_X6_peopleIn : ba_ok mo_X6_peopleIn := ⟨by decide +kernel, by decide +kernel⟩
set_option maxRecDepth 100000 in
theorem ok_X6_goesOn : ba_ok mo_X6_goesOn := ⟨by decide +kernel, by decide +kernel⟩
set_option maxRecDepth 100000 in
theorem ok_X6_goesOnPerson : ba_ok mo_X6_goesOnPerson := ⟨by decide +kernel, by decide +kernel⟩
set_option maxRecDepth 100000 in
theorem ok_X6_isDigit : ba_ok mo_X6_isDigit := ⟨by decide +kernel, by decide +kernel⟩
set_option maxRecDepth 100000 in
theorem ok_X6_kindOf : ba_ok mo_X6_kindOf := ⟨by decide +kernel, by decide +kernel⟩
set_option maxRecDepth 100000 in
theorem ok_X6_digit : ba_ok mo_X6_digit := ⟨by decide +kernel, by decide +kernel⟩
set_option maxRecDepth 100000 in
theorem ok_X6_inkOf : ba_ok mo_X6_inkOf := ⟨by decide +kernel, by decide +kernel⟩
set_option maxRecDepth 100000 in
theorem ok_X6_ruleOf : ba_ok mo_X6_ruleOf := ⟨by decide +kernel, by decide +kernel⟩
set_option maxRecDepth 100000 in
theorem ok_X6_readPerson : ba_ok mo_X6_readPerson := ⟨by decide +kernel, by decide +kernel⟩
set_option maxRecDepth 100000 in
theorem ok_X7_init : ba_ok mo_X7_init := ⟨by decide +kernel, by decide +kernel⟩
set_option maxRecDepth 100000 in
theorem ok_X7_isOn : ba_ok mo_X7_isOn := ⟨by decide +kernel, by decide +kernel⟩
set_option maxRecDepth 100000 in
theorem ok_X7_personOf : ba_ok mo_X7_personOf := ⟨by decide +kernel, by decide +kernel⟩
set_option maxRecDepth 100000 in
theorem ok_X7_begins : ba_ok mo_X7_begins := ⟨by decide +kernel, by decide +kernel⟩
set_option maxRecDepth 100000 in
theorem ok_X7_becomes : ba_ok mo_X7_becomes := ⟨by decide +kernel, by decide +kernel⟩
set_option maxRecDepth 100000 in
theorem ok_X7_peopleOf : ba_ok mo_X7_peopleOf := ⟨by decide +kernel, by decide +kernel⟩
set_option maxRecDepth 100000 in
theorem ok_X7_workersOf : ba_ok mo_X7_workersOf := ⟨by decide +kernel, by decide +kernel⟩
set_option maxRecDepth 100000 in
theorem ok_X7_strikes : ba_ok mo_X7_strikes := ⟨by decide +kernel, by decide +kernel⟩
set_option maxRecDepth 100000 in
theorem ok_X7_washes : ba_ok mo_X7_washes := ⟨by decide +kernel, by decide +kernel⟩
set_option maxRecDepth 100000 in
theorem ok_X7_cheapestRaid : ba_ok mo_X7_cheapestRaid := ⟨by decide +kernel, by decide +kernel⟩
set_option maxRecDepth 100000 in
theorem ok_X7_removable : ba_ok mo_X7_removable := ⟨by decide +kernel, by decide +kernel⟩
set_option maxRecDepth 100000 in
theorem ok_X7_raidInk : ba_ok mo_X7_raidInk := ⟨by decide +kernel, by decide +kernel⟩
set_option maxRecDepth 100000 in
theorem ok_X7_mostTakes : ba_ok mo_X7_mostTakes := ⟨by decide +kernel, by decide +kernel⟩
set_option maxRecDepth 100000 in
theorem ok_X7_takesOf : ba_ok mo_X7_takesOf := ⟨by decide +kernel, by decide +kernel⟩
set_option maxRecDepth 100000 in
theorem ok_X8_init : ba_ok mo_X8_init := ⟨by decide +kernel, by decide +kernel⟩
set_option maxRecDepth 100000 in
theorem ok_X8_war : ba_ok mo_X8_war := ⟨by decide +kernel, by decide +kernel⟩
set_option maxRecDepth 100000 in
theorem ok_X8_ofPerson : ba_ok mo_X8_ofPerson := ⟨by decide +kernel, by decide +kernel⟩
set_option maxRecDepth 100000 in
theorem ok_X8_rule : ba_ok mo_X8_rule := ⟨by decide +kernel, by decide +kernel⟩
set_option maxRecDepth 100000 in
theorem ok_X8_decree : ba_ok mo_X8_decree := ⟨by decide +kernel, by decide +kernel⟩
set_option maxRecDepth 100000 in
theorem ok_X8_starch : ba_ok mo_X8_starch := ⟨by decide +kernel, by decide +kernel⟩
set_option maxRecDepth 100000 in
theorem ok_X8_ofOffice : ba_ok mo_X8_ofOffice := ⟨by decide +kernel, by decide +kernel⟩
set_option maxRecDepth 100000 in
theorem ok_X8_strike : ba_ok mo_X8_strike := ⟨by decide +kernel, by decide +kernel⟩
set_option maxRecDepth 100000 in
theorem ok_X8_wash : ba_ok mo_X8_wash := ⟨by decide +kernel, by decide +kernel⟩
set_option maxRecDepth 100000 in
theorem ok_X8_fetches : ba_ok mo_X8_fetches := ⟨by decide +kernel, by decide +kernel⟩
set_option maxRecDepth 100000 in
theorem ok_X8_night : ba_ok mo_X8_night := ⟨by decide +kernel, by decide +kernel⟩
set_option maxRecDepth 100000 in
theorem ok_X8_isAskedOfNights : ba_ok mo_X8_isAskedOfNights := ⟨by decide +kernel, by decide +kernel⟩
set_option maxRecDepth 100000 in
theorem ok_X8_refusalOfPairs : ba_ok mo_X8_refusalOfPairs := ⟨by decide +kernel, by decide +kernel⟩
set_option maxRecDepth 100000 in
theorem ok_X8_undoing : ba_ok mo_X8_undoing := ⟨by decide +kernel, by decide +kernel⟩
set_option maxRecDepth 100000 in
theorem ok_X8_ways : ba_ok mo_X8_ways := ⟨by decide +kernel, by decide +kernel⟩
set_option maxRecDepth 100000 in
theorem ok_X8_worn : ba_ok mo_X8_worn := ⟨by decide +kernel, by decide +kernel⟩
set_option maxRecDepth 100000 in
theorem ok_X8_raid : ba_ok mo_X8_raid := ⟨by decide +kernel, by decide +kernel⟩
set_option maxRecDepth 100000 in
theorem ok_X8_peace : ba_ok mo_X8_peace := ⟨by decide +kernel, by decide +kernel⟩
set_option maxRecDepth 100000 in
theorem ok_X8_reading : ba_ok mo_X8_reading := ⟨by decide +kernel, by decide +kernel⟩
set_option maxRecDepth 100000 in
theorem ok_X8_back : ba_ok mo_X8_back := ⟨by decide +kernel, by decide +kernel⟩
set_option maxRecDepth 100000 in
theorem ok_X8_necks : ba_ok mo_X8_necks := ⟨by decide +kernel, by decide +kernel⟩
set_option maxRecDepth 100000 in
theorem ok_X8_kinds : ba_ok mo_X8_kinds := ⟨by decide +kernel, by decide +kernel⟩
set_option maxRecDepth 100000 in
theorem ok_X8_fits : ba_ok mo_X8_fits := ⟨by decide +kernel, by decide +kernel⟩
set_option maxRecDepth 100000 in
theorem ok_X8_fittingStamps : ba_ok mo_X8_fittingStamps := ⟨by decide +kernel, by decide +kernel⟩
set_option maxRecDepth 100000 in
theorem ok_X8_odds : ba_ok mo_X8_odds := ⟨by decide +kernel, by decide +kernel⟩
set_option maxRecDepth 100000 in
theorem ok_X8_sheet : ba_ok mo_X8_sheet := ⟨by decide +kernel, by decide +kernel⟩
set_option maxRecDepth 100000 in
theorem ok_X8_lose : ba_ok mo_X8_lose := ⟨by decide +kernel, by decide +kernel⟩
set_option maxRecDepth 100000 in
theorem ok_X8_put : ba_ok mo_X8_put := ⟨by decide +kernel, by decide +kernel⟩
set_option maxRecDepth 100000 in
theorem ok_X8_cell : ba_ok mo_X8_cell := ⟨by decide +kernel, by decide +kernel⟩
set_option maxRecDepth 100000 in
theorem ok_X8_copy : ba_ok mo_X8_copy := ⟨by decide +kernel, by decide +kernel⟩
set_option maxRecDepth 100000 in
theorem ok_X8_tell : ba_ok mo_X8_tell := ⟨by decide +kernel, by decide +kernel⟩
set_option maxRecDepth 100000 in
theorem ok_X8_salute : ba_ok mo_X8_salute := ⟨by decide +kernel, by decide +kernel⟩
set_option maxRecDepth 100000 in
theorem ok_X8_as : ba_ok mo_X8_as := ⟨by decide +kernel, by decide +kernel⟩
set_option maxRecDepth 100000 in
theorem ok_X8_trace : ba_ok mo_X8_trace := ⟨by decide +kernel, by decide +kernel⟩
set_option maxRecDepth 100000 in
theorem ok_X8_fault : ba_ok mo_X8_fault := ⟨by decide +kernel, by decide +kernel⟩
set_option maxRecDepth 100000 in
theorem ok_X8_many : ba_ok mo_X8_many := ⟨by decide +kernel, by decide +kernel⟩
set_option maxRecDepth 100000 in
theorem ok_X8_within : ba_ok mo_X8_within := ⟨by decide +kernel, by decide +kernel⟩
set_option maxRecDepth 100000 in
theorem ok_X8_below : ba_ok mo_X8_below := ⟨by decide +kernel, by decide +kernel⟩
set_option maxRecDepth 100000 in
theorem ok_X8_sheetOf : ba_ok mo_X8_sheetOf := ⟨by decide +kernel, by decide +kernel⟩
set_option maxRecDepth 100000 in
theorem ok_X8_stopped : ba_ok mo_X8_stopped := ⟨by decide +kernel, by decide +kernel⟩
set_option maxRecDepth 100000 in
theorem ok_X9_init : ba_ok mo_X9_init := ⟨by decide +kernel, by decide +kernel⟩
set_option maxRecDepth 100000 in
theorem ok_X9_in : ba_ok mo_X9_in := ⟨by decide +kernel, by decide +kernel⟩
set_option maxRecDepth 100000 in
theorem ok_X9_lost : ba_ok mo_X9_lost := ⟨by decide +kernel, by decide +kernel⟩
set_option maxRecDepth 100000 in
theorem ok_X9_isIn : ba_ok mo_X9_isIn := ⟨by decide +kernel, by decide +kernel⟩
set_option maxRecDepth 100000 in
theorem ok_X9_bits : ba_ok mo_X9_bits := ⟨by decide +kernel, by decide +kernel⟩
set_option maxRecDepth 100000 in
theorem ok_X9_share : ba_ok mo_X9_share := ⟨by decide +kernel, by decide +kernel⟩
set_option maxRecDepth 100000 in
theorem ok_X9_refused : ba_ok mo_X9_refused := ⟨by decide +kernel, by decide +kernel⟩
set_option maxRecDepth 100000 in
theorem ok_X9_failed : ba_ok mo_X9_failed := ⟨by decide +kernel, by decide +kernel⟩
set_option maxRecDepth 100000 in
theorem ok_X9_failedLong : ba_ok mo_X9_failedLong := ⟨by decide +kernel, by decide +kernel⟩
set_option maxRecDepth 100000 in
theorem ok_X9_noPerson : ba_ok mo_X9_noPerson := ⟨by decide +kernel, by decide +kernel⟩
set_option maxRecDepth 100000 in
theorem ok_X9_isMark : ba_ok mo_X9_isMark := ⟨by decide +kernel, by decide +kernel⟩
set_option maxRecDepth 100000 in
theorem ok_X9_isStamp : ba_ok mo_X9_isStamp := ⟨by decide +kernel, by decide +kernel⟩
set_option maxRecDepth 100000 in
theorem ok_X9_isOffice : ba_ok mo_X9_isOffice := ⟨by decide +kernel, by decide +kernel⟩
set_option maxRecDepth 100000 in
theorem ok_X9_codeAt : ba_ok mo_X9_codeAt := ⟨by decide +kernel, by decide +kernel⟩
set_option maxRecDepth 100000 in
theorem ok_X9_figure : ba_ok mo_X9_figure := ⟨by decide +kernel, by decide +kernel⟩
set_option maxRecDepth 100000 in
theorem ok_X9_readsInk : ba_ok mo_X9_readsInk := ⟨by decide +kernel, by decide +kernel⟩
set_option maxRecDepth 100000 in
theorem ok_X9_readsRules : ba_ok mo_X9_readsRules := ⟨by decide +kernel, by decide +kernel⟩
set_option maxRecDepth 100000 in
theorem ok_X9_readsPerson : ba_ok mo_X9_readsPerson := ⟨by decide +kernel, by decide +kernel⟩
set_option maxRecDepth 100000 in
theorem ok_X9_readsWar : ba_ok mo_X9_readsWar := ⟨by decide +kernel, by decide +kernel⟩
set_option maxRecDepth 100000 in
theorem ok_X9_cellsBarred : ba_ok mo_X9_cellsBarred := ⟨by decide +kernel, by decide +kernel⟩
set_option maxRecDepth 100000 in
theorem ok_X9_war : ba_ok mo_X9_war := ⟨by decide +kernel, by decide +kernel⟩
set_option maxRecDepth 100000 in
theorem ok_X9_takes : ba_ok mo_X9_takes := ⟨by decide +kernel, by decide +kernel⟩
set_option maxRecDepth 100000 in
theorem ok_X9_works : ba_ok mo_X9_works := ⟨by decide +kernel, by decide +kernel⟩
set_option maxRecDepth 100000 in
theorem ok_X9_becomes : ba_ok mo_X9_becomes := ⟨by decide +kernel, by decide +kernel⟩
set_option maxRecDepth 100000 in
theorem ok_X9_ofPerson : ba_ok mo_X9_ofPerson := ⟨by decide +kernel, by decide +kernel⟩
set_option maxRecDepth 100000 in
theorem ok_X9_rule : ba_ok mo_X9_rule := ⟨by decide +kernel, by decide +kernel⟩
set_option maxRecDepth 100000 in
theorem ok_X9_decree : ba_ok mo_X9_decree := ⟨by decide +kernel, by decide +kernel⟩
set_option maxRecDepth 100000 in
theorem ok_X9_starch : ba_ok mo_X9_starch := ⟨by decide +kernel, by decide +kernel⟩
set_option maxRecDepth 100000 in
theorem ok_X9_peopleOf : ba_ok mo_X9_peopleOf := ⟨by decide +kernel, by decide +kernel⟩
set_option maxRecDepth 100000 in
theorem ok_X9_ofOffice : ba_ok mo_X9_ofOffice := ⟨by decide +kernel, by decide +kernel⟩
set_option maxRecDepth 100000 in
theorem ok_X9_struck : ba_ok mo_X9_struck := ⟨by decide +kernel, by decide +kernel⟩
set_option maxRecDepth 100000 in
theorem ok_X9_washed : ba_ok mo_X9_washed := ⟨by decide +kernel, by decide +kernel⟩
set_option maxRecDepth 100000 in
theorem ok_X9_strike : ba_ok mo_X9_strike := ⟨by decide +kernel, by decide +kernel⟩
set_option maxRecDepth 100000 in
theorem ok_X9_wash : ba_ok mo_X9_wash := ⟨by decide +kernel, by decide +kernel⟩
set_option maxRecDepth 100000 in
theorem ok_X9_fetches : ba_ok mo_X9_fetches := ⟨by decide +kernel, by decide +kernel⟩
set_option maxRecDepth 100000 in
theorem ok_X9_keepAll : ba_ok mo_X9_keepAll := ⟨by decide +kernel, by decide +kernel⟩
set_option maxRecDepth 100000 in
theorem ok_X9_bringBack : ba_ok mo_X9_bringBack := ⟨by decide +kernel, by decide +kernel⟩
set_option maxRecDepth 100000 in
theorem ok_X9_pairsBarred : ba_ok mo_X9_pairsBarred := ⟨by decide +kernel, by decide +kernel⟩
set_option maxRecDepth 100000 in
theorem ok_X9_nightBy : ba_ok mo_X9_nightBy := ⟨by decide +kernel, by decide +kernel⟩
set_option maxRecDepth 100000 in
theorem ok_X9_night : ba_ok mo_X9_night := ⟨by decide +kernel, by decide +kernel⟩
set_option maxRecDepth 100000 in
theorem ok_X9_measures : ba_ok mo_X9_measures := ⟨by decide +kernel, by decide +kernel⟩
set_option maxRecDepth 100000 in
theorem ok_X9_undoingStamp : ba_ok mo_X9_undoingStamp := ⟨by decide +kernel, by decide +kernel⟩
set_option maxRecDepth 100000 in
theorem ok_X9_undoing : ba_ok mo_X9_undoing := ⟨by decide +kernel, by decide +kernel⟩
set_option maxRecDepth 100000 in
theorem ok_X9_countWays : ba_ok mo_X9_countWays := ⟨by decide +kernel, by decide +kernel⟩
set_option maxRecDepth 100000 in
theorem ok_X9_ways : ba_ok mo_X9_ways := ⟨by decide +kernel, by decide +kernel⟩
set_option maxRecDepth 100000 in
theorem ok_X9_struckOften : ba_ok mo_X9_struckOften := ⟨by decide +kernel, by decide +kernel⟩
set_option maxRecDepth 100000 in
theorem ok_X9_comesBack : ba_ok mo_X9_comesBack := ⟨by decide +kernel, by decide +kernel⟩
set_option maxRecDepth 100000 in
theorem ok_X9_worn : ba_ok mo_X9_worn := ⟨by decide +kernel, by decide +kernel⟩
set_option maxRecDepth 100000 in
theorem ok_X9_fewestOff : ba_ok mo_X9_fewestOff := ⟨by decide +kernel, by decide +kernel⟩
set_option maxRecDepth 100000 in
theorem ok_X9_inkFor : ba_ok mo_X9_inkFor := ⟨by decide +kernel, by decide +kernel⟩
set_option maxRecDepth 100000 in
theorem ok_X9_raid : ba_ok mo_X9_raid := ⟨by decide +kernel, by decide +kernel⟩
set_option maxRecDepth 100000 in
theorem ok_X9_dearest : ba_ok mo_X9_dearest := ⟨by decide +kernel, by decide +kernel⟩
set_option maxRecDepth 100000 in
theorem ok_X9_peace : ba_ok mo_X9_peace := ⟨by decide +kernel, by decide +kernel⟩
set_option maxRecDepth 100000 in
theorem ok_X9_reading : ba_ok mo_X9_reading := ⟨by decide +kernel, by decide +kernel⟩
set_option maxRecDepth 100000 in
theorem ok_X9_back : ba_ok mo_X9_back := ⟨by decide +kernel, by decide +kernel⟩
set_option maxRecDepth 100000 in
theorem ok_X9_areSo : ba_ok mo_X9_areSo := ⟨by decide +kernel, by decide +kernel⟩
set_option maxRecDepth 100000 in
theorem ok_X9_necks : ba_ok mo_X9_necks := ⟨by decide +kernel, by decide +kernel⟩
set_option maxRecDepth 100000 in
theorem ok_X9_kinds : ba_ok mo_X9_kinds := ⟨by decide +kernel, by decide +kernel⟩
set_option maxRecDepth 100000 in
theorem ok_X9_fits : ba_ok mo_X9_fits := ⟨by decide +kernel, by decide +kernel⟩
set_option maxRecDepth 100000 in
theorem ok_X9_odds : ba_ok mo_X9_odds := ⟨by decide +kernel, by decide +kernel⟩
set_option maxRecDepth 100000 in
theorem ok_X9_noSheet : ba_ok mo_X9_noSheet := ⟨by decide +kernel, by decide +kernel⟩
set_option maxRecDepth 100000 in
theorem ok_X9_sheet : ba_ok mo_X9_sheet := ⟨by decide +kernel, by decide +kernel⟩
set_option maxRecDepth 100000 in
theorem ok_X9_lose : ba_ok mo_X9_lose := ⟨by decide +kernel, by decide +kernel⟩
set_option maxRecDepth 100000 in
theorem ok_X9_noCell : ba_ok mo_X9_noCell := ⟨by decide +kernel, by decide +kernel⟩
set_option maxRecDepth 100000 in
theorem ok_X9_put : ba_ok mo_X9_put := ⟨by decide +kernel, by decide +kernel⟩
set_option maxRecDepth 100000 in
theorem ok_X9_cell : ba_ok mo_X9_cell := ⟨by decide +kernel, by decide +kernel⟩
set_option maxRecDepth 100000 in
theorem ok_X9_isBeyond : ba_ok mo_X9_isBeyond := ⟨by decide +kernel, by decide +kernel⟩
set_option maxRecDepth 100000 in
theorem ok_X9_copy : ba_ok mo_X9_copy := ⟨by decide +kernel, by decide +kernel⟩
set_option maxRecDepth 100000 in
theorem ok_X9_traced : ba_ok mo_X9_traced := ⟨by decide +kernel, by decide +kernel⟩
set_option maxRecDepth 100000 in
theorem ok_X9_tell : ba_ok mo_X9_tell := ⟨by decide +kernel, by decide +kernel⟩
set_option maxRecDepth 100000 in
theorem ok_X9_salute : ba_ok mo_X9_salute := ⟨by decide +kernel, by decide +kernel⟩
set_option maxRecDepth 100000 in
theorem ok_X9_as : ba_ok mo_X9_as := ⟨by decide +kernel, by decide +kernel⟩
set_option maxRecDepth 100000 in
theorem ok_X9_trace : ba_ok mo_X9_trace := ⟨by decide +kernel, by decide +kernel⟩
set_option maxRecDepth 100000 in
theorem ok_X9_fault : ba_ok mo_X9_fault := ⟨by decide +kernel, by decide +kernel⟩
set_option maxRecDepth 100000 in
theorem ok_X9_many : ba_ok mo_X9_many := ⟨by decide +kernel, by decide +kernel⟩
set_option maxRecDepth 100000 in
theorem ok_J6_bitCount_0f7a4 : ba_ok mo_J6_bitCount_0f7a4 := ⟨by decide +kernel, by decide +kernel⟩
set_option maxRecDepth 100000 in
theorem ok_J7_fill_53178 : ba_ok mo_J7_fill_53178 := ⟨by decide +kernel, by decide +kernel⟩
