/-! every row of every method, checked -/
set_option maxRecDepth 100000 in
theorem ok_X0_init : ba_ok mo_X0_init := ⟨by decide +kernel, by decide +kernel⟩
set_option maxRecDepth 100000 in
theorem ok_X1_init : ba_ok mo_X1_init := ⟨by decide +kernel, by decide +kernel⟩
set_option maxRecDepth 100000 in
theorem ok_X2_init : ba_ok mo_X2_init := ⟨by decide +kernel, by decide +kernel⟩
set_option maxRecDepth 100000 in
theorem ok_X2_becomes : ba_ok mo_X2_becomes := ⟨by decide +kernel, by decide +kernel⟩
set_option maxRecDepth 100000 in
theorem ok_X2_takes : ba_ok mo_X2_takes := ⟨by decide +kernel, by decide +kernel⟩
set_option maxRecDepth 100000 in
theorem ok_X2_isAtWork : ba_ok mo_X2_isAtWork := ⟨by decide +kernel, by decide +kernel⟩
set_option maxRecDepth 100000 in
theorem ok_X3_init : ba_ok mo_X3_init := ⟨by decide +kernel, by decide +kernel⟩
set_option maxRecDepth 100000 in
theorem ok_X3_clear : ba_ok mo_X3_clear := ⟨by decide +kernel, by decide +kernel⟩
set_option maxRecDepth 100000 in
theorem ok_X3_add : ba_ok mo_X3_add := ⟨by decide +kernel, by decide +kernel⟩
set_option maxRecDepth 100000 in
theorem ok_X3_necksOf : ba_ok mo_X3_necksOf := ⟨by decide +kernel, by decide +kernel⟩
set_option maxRecDepth 100000 in
theorem ok_X3_kindsOf : ba_ok mo_X3_kindsOf := ⟨by decide +kernel, by decide +kernel⟩
set_option maxRecDepth 100000 in
theorem ok_X3_areSoWithout : ba_ok mo_X3_areSoWithout := ⟨by decide +kernel, by decide +kernel⟩
set_option maxRecDepth 100000 in
theorem ok_X4_init : ba_ok mo_X4_init := ⟨by decide +kernel, by decide +kernel⟩
set_option maxRecDepth 100000 in
theorem ok_X4_after : ba_ok mo_X4_after := ⟨by decide +kernel, by decide +kernel⟩
set_option maxRecDepth 100000 in
theorem ok_X4_become : ba_ok mo_X4_become := ⟨by decide +kernel, by decide +kernel⟩
set_option maxRecDepth 100000 in
theorem ok_X4_fewest : ba_ok mo_X4_fewest := ⟨by decide +kernel, by decide +kernel⟩
set_option maxRecDepth 100000 in
theorem ok_X4_allAfter : ba_ok mo_X4_allAfter := ⟨by decide +kernel, by decide +kernel⟩
set_option maxRecDepth 100000 in
theorem ok_X4_stampOnWay : ba_ok mo_X4_stampOnWay := ⟨by decide +kernel, by decide +kernel⟩
set_option maxRecDepth 100000 in
theorem ok_X4_nearestStamp : ba_ok mo_X4_nearestStamp := ⟨by decide +kernel, by decide +kernel⟩
set_option maxRecDepth 100000 in
theorem ok_X4_rowsTo : ba_ok mo_X4_rowsTo := ⟨by decide +kernel, by decide +kernel⟩
set_option maxRecDepth 100000 in
theorem ok_X4_lengthenRows : ba_ok mo_X4_lengthenRows := ⟨by decide +kernel, by decide +kernel⟩
set_option maxRecDepth 100000 in
theorem ok_X4_struck : ba_ok mo_X4_struck := ⟨by decide +kernel, by decide +kernel⟩
set_option maxRecDepth 100000 in
theorem ok_X4_comesBackBy : ba_ok mo_X4_comesBackBy := ⟨by decide +kernel, by decide +kernel⟩
set_option maxRecDepth 100000 in
theorem ok_X4_strikesAhead : ba_ok mo_X4_strikesAhead := ⟨by decide +kernel, by decide +kernel⟩
set_option maxRecDepth 100000 in
theorem ok_X5_init : ba_ok mo_X5_init := ⟨by decide +kernel, by decide +kernel⟩
set_option maxRecDepth 100000 in
theorem ok_X5_hasRow : ba_ok mo_X5_hasRow := ⟨by decide +kernel, by decide +kernel⟩
set_option maxRecDepth 100000 in
theorem ok_X5_begins : ba_ok mo_X5_begins := ⟨by decide +kernel, by decide +kernel⟩
set_option maxRecDepth 100000 in
theorem ok_X5_spans : ba_ok mo_X5_spans := ⟨by decide +kernel, by decide +kernel⟩
set_option maxRecDepth 100000 in
theorem ok_X5_faultOf : ba_ok mo_X5_faultOf := ⟨by decide +kernel, by decide +kernel⟩
set_option maxRecDepth 100000 in
theorem ok_X5_at : ba_ok mo_X5_at := ⟨by decide +kernel, by decide +kernel⟩
set_option maxRecDepth 100000 in
theorem ok_X5_become : ba_ok mo_X5_become := ⟨by decide +kernel, by decide +kernel⟩
set_option maxRecDepth 100000 in
theorem ok_X6_firstFault : ba_ok mo_X6_firstFault := ⟨by decide +kernel, by decide +kernel⟩
set_option maxRecDepth 100000 in
theorem ok_X6_peopleIn : ba_ok mo_X6_peopleIn := ⟨by decide +kernel, by decide +kernel⟩
set_option maxRecDepth 100000 in
theorem ok_X6_goesOn : ba_ok mo_X6_goesOn := ⟨by decide +kernel, by decide +kernel⟩
set_option maxRecDepth 100000 in
theorem ok_X6_goesOnPerson : ba_ok mo_X6_goesOnPerson := ⟨by decide +kernel, by decide +kernel⟩
set_option maxRecDepth 100000 in
theorem ok_X6_isDigit : ba_ok mo_X6_isDigit := ⟨by decide +kernel, by decide +kernel⟩
set_option maxRecDepth 100000 in
theorem ok_X6_kindOf : ba_ok mo_X6_kindOf := ⟨by decide +kernel, by decide +kernel⟩
set_option maxRecDepth 100000 in
theorem ok_X6_digit : ba_ok mo_X6_digit := ⟨by decide +kernel, by decide +kernel⟩
set_option maxRecDepth 100000 in
theorem ok_X6_inkOf : ba_ok mo_X6_inkOf := ⟨by decide +kernel, by decide +kernel⟩
set_option maxRecDepth 100000 in
theorem ok_X6_ruleOf : ba_ok mo_X6_ruleOf := ⟨by decide +kernel, by decide +kernel⟩
set_option maxRecDepth 100000 in
theorem ok_X6_readPerson : ba_ok mo_X6_readPerson := ⟨by decide +kernel, by decide +kernel⟩
set_option maxRecDepth 100000 in
theorem ok_X7_init : ba_ok mo_X7_init := ⟨by decide +kernel, by decide +kernel⟩
set_option maxRecDepth 100000 in
theorem ok_X7_isOn : ba_ok mo_X7_isOn := ⟨by decide +kernel, by decide +kernel⟩
set_option maxRecDepth 100000 in
theorem ok_X7_personOf : ba_ok mo_X7_personOf := ⟨by decide +kernel, by decide +kernel⟩
set_option maxRecDepth 100000 in
theorem ok_X7_begins : ba_ok mo_X7_begins := ⟨by decide +kernel, by decide +kernel⟩
set_option maxRecDepth 100000 in
theorem ok_X7_peopleOf : ba_ok mo_X7_peopleOf := ⟨by decide +kernel, by decide +kernel⟩
set_option maxRecDepth 100000 in
theorem ok_X7_workersOf : ba_ok mo_X7_workersOf := ⟨by decide +kernel, by decide +kernel⟩
set_option maxRecDepth 100000 in
theorem ok_X7_strikes : ba_ok mo_X7_strikes := ⟨by decide +kernel, by decide +kernel⟩
set_option maxRecDepth 100000 in
theorem ok_X7_washes : ba_ok mo_X7_washes := ⟨by decide +kernel, by decide +kernel⟩
set_option maxRecDepth 100000 in
theorem ok_X7_cheapestRaid : ba_ok mo_X7_cheapestRaid := ⟨by decide +kernel, by decide +kernel⟩
set_option maxRecDepth 100000 in
theorem ok_X7_removable : ba_ok mo_X7_removable := ⟨by decide +kernel, by decide +kernel⟩
set_option maxRecDepth 100000 in
theorem ok_X7_raidInk : ba_ok mo_X7_raidInk := ⟨by decide +kernel, by decide +kernel⟩
set_option maxRecDepth 100000 in
theorem ok_X7_mostTakes : ba_ok mo_X7_mostTakes := ⟨by decide +kernel, by decide +kernel⟩
set_option maxRecDepth 100000 in
theorem ok_X7_takesOf : ba_ok mo_X7_takesOf := ⟨by decide +kernel, by decide +kernel⟩
set_option maxRecDepth 100000 in
theorem ok_X8_init : ba_ok mo_X8_init := ⟨by decide +kernel, by decide +kernel⟩
set_option maxRecDepth 100000 in
theorem ok_X8_war : ba_ok mo_X8_war := ⟨by decide +kernel, by decide +kernel⟩
set_option maxRecDepth 100000 in
theorem ok_X8_ofPerson : ba_ok mo_X8_ofPerson := ⟨by decide +kernel, by decide +kernel⟩
set_option maxRecDepth 100000 in
theorem ok_X8_decree : ba_ok mo_X8_decree := ⟨by decide +kernel, by decide +kernel⟩
set_option maxRecDepth 100000 in
theorem ok_X8_starch : ba_ok mo_X8_starch := ⟨by decide +kernel, by decide +kernel⟩
set_option maxRecDepth 100000 in
theorem ok_X8_strike : ba_ok mo_X8_strike := ⟨by decide +kernel, by decide +kernel⟩
set_option maxRecDepth 100000 in
theorem ok_X8_wash : ba_ok mo_X8_wash := ⟨by decide +kernel, by decide +kernel⟩
set_option maxRecDepth 100000 in
theorem ok_X8_fetches : ba_ok mo_X8_fetches := ⟨by decide +kernel, by decide +kernel⟩
set_option maxRecDepth 100000 in
theorem ok_X8_undoing : ba_ok mo_X8_undoing := ⟨by decide +kernel, by decide +kernel⟩
set_option maxRecDepth 100000 in
theorem ok_X8_ways : ba_ok mo_X8_ways := ⟨by decide +kernel, by decide +kernel⟩
set_option maxRecDepth 100000 in
theorem ok_X8_worn : ba_ok mo_X8_worn := ⟨by decide +kernel, by decide +kernel⟩
set_option maxRecDepth 100000 in
theorem ok_X8_raid : ba_ok mo_X8_raid := ⟨by decide +kernel, by decide +kernel⟩
set_option maxRecDepth 100000 in
theorem ok_X8_peace : ba_ok mo_X8_peace := ⟨by decide +kernel, by decide +kernel⟩
set_option maxRecDepth 100000 in
theorem ok_X8_reading : ba_ok mo_X8_reading := ⟨by decide +kernel, by decide +kernel⟩
set_option maxRecDepth 100000 in
theorem ok_X8_back : ba_ok mo_X8_back := ⟨by decide +kernel, by decide +kernel⟩
set_option maxRecDepth 100000 in
theorem ok_X8_necks : ba_ok mo_X8_necks := ⟨by decide +kernel, by decide +kernel⟩
set_option maxRecDepth 100000 in
theorem ok_X8_kinds : ba_ok mo_X8_kinds := ⟨by decide +kernel, by decide +kernel⟩
set_option maxRecDepth 100000 in
theorem ok_X8_odds : ba_ok mo_X8_odds := ⟨by decide +kernel, by decide +kernel⟩
set_option maxRecDepth 100000 in
theorem ok_X8_sheet : ba_ok mo_X8_sheet := ⟨by decide +kernel, by decide +kernel⟩
set_option maxRecDepth 100000 in
theorem ok_X8_put : ba_ok mo_X8_put := ⟨by decide +kernel, by decide +kernel⟩
set_option maxRecDepth 100000 in
theorem ok_X8_many : ba_ok mo_X8_many := ⟨by decide +kernel, by decide +kernel⟩
set_option maxRecDepth 100000 in
theorem ok_X8_within : ba_ok mo_X8_within := ⟨by decide +kernel, by decide +kernel⟩
set_option maxRecDepth 100000 in
theorem ok_X8_below : ba_ok mo_X8_below := ⟨by decide +kernel, by decide +kernel⟩
set_option maxRecDepth 100000 in
theorem ok_X8_sheetOf : ba_ok mo_X8_sheetOf := ⟨by decide +kernel, by decide +kernel⟩
set_option maxRecDepth 100000 in
theorem ok_X8_stopped : ba_ok mo_X8_stopped := ⟨by decide +kernel, by decide +kernel⟩
set_option maxRecDepth 100000 in
theorem ok_J6_bitCount_0f7a4 : ba_ok mo_J6_bitCount_0f7a4 := ⟨by decide +kernel, by decide +kernel⟩
set_option maxRecDepth 100000 in
theorem ok_J7_fill_53178 : ba_ok mo_J7_fill_53178 := ⟨by decide +kernel, by decide +kernel⟩
set_option maxRecDepth 100000 in
theorem ok_L_cell : ba_ok mo_L_cell := ⟨by decide +kernel, by decide +kernel⟩
set_option maxRecDepth 100000 in
theorem ok_L_low : ba_ok mo_L_low := ⟨by decide +kernel, by decide +kernel⟩
set_option maxRecDepth 100000 in
theorem ok_L_lay : ba_ok mo_L_lay := ⟨by decide +kernel, by decide +kernel⟩
set_option maxRecDepth 100000 in
theorem ok_L_office : ba_ok mo_L_office := ⟨by decide +kernel, by decide +kernel⟩
set_option maxRecDepth 100000 in
theorem ok_L_mark : ba_ok mo_L_mark := ⟨by decide +kernel, by decide +kernel⟩
set_option maxRecDepth 100000 in
theorem ok_L_neck : ba_ok mo_L_neck := ⟨by decide +kernel, by decide +kernel⟩
set_option maxRecDepth 100000 in
theorem ok_L_takes : ba_ok mo_L_takes := ⟨by decide +kernel, by decide +kernel⟩
set_option maxRecDepth 100000 in
theorem ok_L_rule : ba_ok mo_L_rule := ⟨by decide +kernel, by decide +kernel⟩
set_option maxRecDepth 100000 in
theorem ok_L_marks : ba_ok mo_L_marks := ⟨by decide +kernel, by decide +kernel⟩
set_option maxRecDepth 100000 in
theorem ok_L_work : ba_ok mo_L_work := ⟨by decide +kernel, by decide +kernel⟩
set_option maxRecDepth 100000 in
theorem ok_L_bits : ba_ok mo_L_bits := ⟨by decide +kernel, by decide +kernel⟩
set_option maxRecDepth 100000 in
theorem ok_L_does : ba_ok mo_L_does := ⟨by decide +kernel, by decide +kernel⟩
set_option maxRecDepth 100000 in
theorem ok_L_goOn : ba_ok mo_L_goOn := ⟨by decide +kernel, by decide +kernel⟩
set_option maxRecDepth 100000 in
theorem ok_L_areSo : ba_ok mo_L_areSo := ⟨by decide +kernel, by decide +kernel⟩
set_option maxRecDepth 100000 in
theorem ok_L_becomes : ba_ok mo_L_becomes := ⟨by decide +kernel, by decide +kernel⟩
set_option maxRecDepth 100000 in
theorem ok_L_power : ba_ok mo_L_power := ⟨by decide +kernel, by decide +kernel⟩
set_option maxRecDepth 100000 in
theorem ok_L_fewest : ba_ok mo_L_fewest := ⟨by decide +kernel, by decide +kernel⟩
