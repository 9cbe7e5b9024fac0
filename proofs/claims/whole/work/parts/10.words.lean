abbrev zyX0_init : zY := (yX0_init, cX0_init, 2, none)
abbrev zyX0_kindOf : zY := (yX0_kindOf, cX0_kindOf, 2, some .int)
abbrev zyX0_isOfKind : zY := (yX0_isOfKind, cX0_isOfKind, 4, some .boolean)
abbrev zyX0_sizeOf : zY := (yX0_sizeOf, cX0_sizeOf, 2, some .int)
abbrev zyX0_markOf : zY := (yX0_markOf, cX0_markOf, 2, some .int)
abbrev zyX0_sizeLent : zY := (yX0_sizeLent, cX0_sizeLent, 2, some .int)
abbrev zyX0_sizeOfLate : zY := (yX0_sizeOfLate, cX0_sizeOfLate, 2, some .int)
abbrev zyX0_sizeOfRound : zY := (yX0_sizeOfRound, cX0_sizeOfRound, 2, some .int)
abbrev zyX0_sizeOfCalm : zY := (yX0_sizeOfCalm, cX0_sizeOfCalm, 2, some .int)
abbrev zyX0_markLent : zY := (yX0_markLent, cX0_markLent, 2, some .int)
abbrev zyX0_markOfLate : zY := (yX0_markOfLate, cX0_markOfLate, 2, some .int)
abbrev zyX0_markOfCalm : zY := (yX0_markOfCalm, cX0_markOfCalm, 2, some .int)
abbrev zyX0_leaveInTrace : zY := (yX0_leaveInTrace, cX0_leaveInTrace, 2, none)
abbrev zyX1_init : zY := (yX1_init, cX1_init, 2, none)
abbrev zyX1_flightOrNull : zY := (yX1_flightOrNull, cX1_flightOrNull, 2, some (.object "RoomsOfAir$Flight"))
abbrev zyX1_everyFlight : zY := (yX1_everyFlight, cX1_everyFlight, 1, some .int)
abbrev zyX1_loadKnownAt : zY := (yX1_loadKnownAt, cX1_loadKnownAt, 6, some .int)
abbrev zyX1_costTogether : zY := (yX1_costTogether, cX1_costTogether, 3, some .int)
abbrev zyX1_delaysTogether : zY := (yX1_delaysTogether, cX1_delaysTogether, 3, some .int)
abbrev zyX1_flightsOf : zY := (yX1_flightsOf, cX1_flightsOf, 4, some .int)
abbrev zyX1_delaysOf : zY := (yX1_delaysOf, cX1_delaysOf, 4, some .int)
abbrev zyX1_costOf : zY := (yX1_costOf, cX1_costOf, 4, some .int)
abbrev zyX2_init : zY := (yX2_init, cX2_init, 1, none)
abbrev zyX2_begin : zY := (yX2_begin, cX2_begin, 1, none)
abbrev zyX2_addWay : zY := (yX2_addWay, cX2_addWay, 1, none)
abbrev zyX2_addLegToLastWay : zY := (yX2_addLegToLastWay, cX2_addLegToLastWay, 5, none)
abbrev zyX2_hasWay : zY := (yX2_hasWay, cX2_hasWay, 2, some .boolean)
abbrev zyX2_costOf : zY := (yX2_costOf, cX2_costOf, 3, some .int)
abbrev zyX2_cost : zY := (yX2_cost, cX2_cost, 1, some .int)
abbrev zyX2_slotsOfWay : zY := (yX2_slotsOfWay, cX2_slotsOfWay, 3, some .int)
abbrev zyX2_roomIn : zY := (yX2_roomIn, cX2_roomIn, 7, some .int)
abbrev zyX2_walk : zY := (yX2_walk, cX2_walk, 9, some .int)
abbrev zyX3_init : zY := (yX3_init, cX3_init, 1, none)
abbrev zyX3_stormsIn : zY := (yX3_stormsIn, cX3_stormsIn, 3, some .boolean)
abbrev zyX3_borneInWorlds : zY := (yX3_borneInWorlds, cX3_borneInWorlds, 7, some .int)
abbrev zyX3_fillSafe : zY := (yX3_fillSafe, cX3_fillSafe, 3, none)
abbrev zyX3_lowerByStorm : zY := (yX3_lowerByStorm, cX3_lowerByStorm, 5, none)
abbrev zyX3_bearInAllSlots : zY := (yX3_bearInAllSlots, cX3_bearInAllSlots, 4, none)
abbrev zyX4_init : zY := (yX4_init, cX4_init, 3, none)
abbrev zyX4_shareOf : zY := (yX4_shareOf, cX4_shareOf, 2, some .int)
abbrev zyX4_unfairness : zY := (yX4_unfairness, cX4_unfairness, 3, some .int)
abbrev zyX4_blameOf : zY := (yX4_blameOf, cX4_blameOf, 5, some .int)
abbrev zyX4_divideDelays : zY := (yX4_divideDelays, cX4_divideDelays, 2, none)
abbrev zyX4_divideTooMuch : zY := (yX4_divideTooMuch, cX4_divideTooMuch, 5, none)
abbrev zyX4_divide : zY := (yX4_divide, cX4_divide, 6, none)
abbrev zyX4_ownerOfGreatestRest : zY := (yX4_ownerOfGreatestRest, cX4_ownerOfGreatestRest, 3, some .int)
abbrev zyX5_init : zY := (yX5_init, cX5_init, 4, none)
abbrev zyX5_readTape : zY := (yX5_readTape, cX5_readTape, 2, some .boolean)
abbrev zyX5_carryOut : zY := (yX5_carryOut, cX5_carryOut, 2, none)
abbrev zyX5_readFlight : zY := (yX5_readFlight, cX5_readFlight, 2, none)
abbrev zyX5_readWays : zY := (yX5_readWays, cX5_readWays, 4, none)
abbrev zyX5_readLegs : zY := (yX5_readLegs, cX5_readLegs, 6, none)
abbrev zyX5_readBear : zY := (yX5_readBear, cX5_readBear, 3, none)
abbrev zyX5_readStorm : zY := (yX5_readStorm, cX5_readStorm, 2, none)
abbrev zyX5_readNumber : zY := (yX5_readNumber, cX5_readNumber, 4, some .int)
abbrev zyX5_readSemicolon : zY := (yX5_readSemicolon, cX5_readSemicolon, 1, none)
abbrev zyX5_stopAt : zY := (yX5_stopAt, cX5_stopAt, 2, none)
abbrev zyX6_init : zY := (yX6_init, cX6_init, 3, none)
abbrev zyX6_findChoices : zY := (yX6_findChoices, cX6_findChoices, 4, some .boolean)
abbrev zyX6_takeChoices : zY := (yX6_takeChoices, cX6_takeChoices, 3, some .int)
abbrev zyX6_search : zY := (yX6_search, cX6_search, 8, none)
abbrev zyX6_leastCostFrom : zY := (yX6_leastCostFrom, cX6_leastCostFrom, 4, some .int)
abbrev zyX6_leastCostAlone : zY := (yX6_leastCostAlone, cX6_leastCostAlone, 6, some .int)
abbrev zyX6_fits : zY := (yX6_fits, cX6_fits, 6, some .boolean)
abbrev zyX6_changeFreeRoom : zY := (yX6_changeFreeRoom, cX6_changeFreeRoom, 7, none)
abbrev zyX7_init : zY := (yX7_init, cX7_init, 1, none)
abbrev zyX7_isMissing : zY := (yX7_isMissing, cX7_isMissing, 1, some .boolean)
abbrev zyX7_begin : zY := (yX7_begin, cX7_begin, 3, none)
abbrev zyX7_end : zY := (yX7_end, cX7_end, 1, some .int)
abbrev zyX7_hasPlaces : zY := (yX7_hasPlaces, cX7_hasPlaces, 3, some .boolean)
abbrev zyX7_findingFor : zY := (yX7_findingFor, cX7_findingFor, 3, some .int)
abbrev zyX7_hasOnlyUpTo : zY := (yX7_hasOnlyUpTo, cX7_hasOnlyUpTo, 5, some .boolean)
abbrev zyX7_put : zY := (yX7_put, cX7_put, 3, some .int)
abbrev zyX8_init : zY := (yX8_init, cX8_init, 3, none)
abbrev zyX8_refresh : zY := (yX8_refresh, cX8_refresh, 5, none)
abbrev zyX8_tooMuchIn : zY := (yX8_tooMuchIn, cX8_tooMuchIn, 2, some .int)
abbrev zyX8_tooMuchTogether : zY := (yX8_tooMuchTogether, cX8_tooMuchTogether, 3, some .int)
abbrev zyX8_crowdedCells : zY := (yX8_crowdedCells, cX8_crowdedCells, 3, some .int)
abbrev zyX8_greatestLoad : zY := (yX8_greatestLoad, cX8_greatestLoad, 3, some .int)
abbrev zyX8_isCrowdedAround : zY := (yX8_isCrowdedAround, cX8_isCrowdedAround, 4, some .boolean)
abbrev zyX9_init : zY := (yX9_init, cX9_init, 3, none)
abbrev zyX9_makePlan : zY := (yX9_makePlan, cX9_makePlan, 3, none)
abbrev zyX9_weighSlot : zY := (yX9_weighSlot, cX9_weighSlot, 6, none)
abbrev zyX9_fillRelieved : zY := (yX9_fillRelieved, cX9_fillRelieved, 6, none)
abbrev zyX9_reliefBySplit : zY := (yX9_reliefBySplit, cX9_reliefBySplit, 3, some .int)
abbrev zyX9_addChangesAhead : zY := (yX9_addChangesAhead, cX9_addChangesAhead, 6, none)
abbrev zyX9_bestSetBehind : zY := (yX9_bestSetBehind, cX9_bestSetBehind, 7, some .int)
abbrev zyX10_init : zY := (yX10_init, cX10_init, 1, none)
abbrev zyX10_takeBytes : zY := (yX10_takeBytes, cX10_takeBytes, 5, some .boolean)
abbrev zyX10_rewind : zY := (yX10_rewind, cX10_rewind, 1, none)
abbrev zyX10_advance : zY := (yX10_advance, cX10_advance, 2, none)
abbrev zyX10_isName : zY := (yX10_isName, cX10_isName, 3, some .boolean)
abbrev zyX10_typeOf : zY := (yX10_typeOf, cX10_typeOf, 1, some .int)
abbrev zyX11_init : zY := (yX11_init, cX11_init, 2, none)
abbrev zyX11_sheet : zY := (yX11_sheet, cX11_sheet, 5, some .int)
abbrev zyX11_set : zY := (yX11_set, cX11_set, 6, some .int)
abbrev zyX11_copy : zY := (yX11_copy, cX11_copy, 8, some .int)
abbrev zyX11_drop : zY := (yX11_drop, cX11_drop, 3, some .int)
abbrev zyX11_bears : zY := (yX11_bears, cX11_bears, 6, some .int)
abbrev zyX11_staff : zY := (yX11_staff, cX11_staff, 5, some .int)
abbrev zyX11_look : zY := (yX11_look, cX11_look, 3, some .int)
abbrev zyX11_safe : zY := (yX11_safe, cX11_safe, 5, some .int)
abbrev zyX11_feed : zY := (yX11_feed, cX11_feed, 4, some .int)
abbrev zyX11_read : zY := (yX11_read, cX11_read, 2, some .int)
abbrev zyX11_fault : zY := (yX11_fault, cX11_fault, 1, some .int)
abbrev zyX11_told : zY := (yX11_told, cX11_told, 4, some .int)
abbrev zyX11_leg : zY := (yX11_leg, cX11_leg, 7, some .int)
abbrev zyX11_choose : zY := (yX11_choose, cX11_choose, 5, some .int)
abbrev zyX11_at : zY := (yX11_at, cX11_at, 4, some .int)
abbrev zyX11_load : zY := (yX11_load, cX11_load, 5, some .int)
abbrev zyX11_all : zY := (yX11_all, cX11_all, 2, some .int)
abbrev zyX11_known : zY := (yX11_known, cX11_known, 4, some .int)
abbrev zyX11_split : zY := (yX11_split, cX11_split, 2, some .int)
abbrev zyX11_settle : zY := (yX11_settle, cX11_settle, 3, some .int)
abbrev zyX11_harmless : zY := (yX11_harmless, cX11_harmless, 5, some .int)
abbrev zyX11_swap : zY := (yX11_swap, cX11_swap, 5, some .int)
abbrev zyX11_airline : zY := (yX11_airline, cX11_airline, 3, some .int)
abbrev zyX11_kind : zY := (yX11_kind, cX11_kind, 3, some .int)
abbrev zyX11_as : zY := (yX11_as, cX11_as, 4, some .int)
abbrev zyX11_ask : zY := (yX11_ask, cX11_ask, 4, some .int)
abbrev zyX11_trace : zY := (yX11_trace, cX11_trace, 2, some .int)
abbrev zyX11_count : zY := (yX11_count, cX11_count, 2, some .int)
abbrev zyX11_status : zY := (yX11_status, cX11_status, 1, some .int)
abbrev zyX11_isRoom : zY := (yX11_isRoom, cX11_isRoom, 1, some .boolean)
abbrev zyX11_isSlot : zY := (yX11_isSlot, cX11_isSlot, 1, some .boolean)
abbrev zyX11_areSlots : zY := (yX11_areSlots, cX11_areSlots, 2, some .boolean)
abbrev zyX11_cellOf : zY := (yX11_cellOf, cX11_cellOf, 2, some .int)
abbrev zyX11_sheetOrNull : zY := (yX11_sheetOrNull, cX11_sheetOrNull, 2, some (.object "RoomsOfAir$Sheet"))
abbrev zyX11_found : zY := (yX11_found, cX11_found, 2, some .int)
abbrev zyX11_withoutFinding : zY := (yX11_withoutFinding, cX11_withoutFinding, 2, some .int)
abbrev zyX11_fillFromSheet : zY := (yX11_fillFromSheet, cX11_fillFromSheet, 9, some .int)
abbrev zyX11_sheetsThere : zY := (yX11_sheetsThere, cX11_sheetsThere, 3, some .int)
abbrev zyX11_flightsTold : zY := (yX11_flightsTold, cX11_flightsTold, 4, some .int)
abbrev zyX11_harmsNone : zY := (yX11_harmsNone, cX11_harmsNone, 9, some .boolean)
abbrev zyX11_exchangeDelays : zY := (yX11_exchangeDelays, cX11_exchangeDelays, 3, none)
abbrev zyX12_in : zY := (yX12_in, cX12_in, 6, some .boolean)
abbrev zyX12_found : zY := (yX12_found, cX12_found, 2, some .int)
abbrev zyX12_isSheet : zY := (yX12_isSheet, cX12_isSheet, 1, some .boolean)
abbrev zyX12_sheet : zY := (yX12_sheet, cX12_sheet, 5, some .int)
abbrev zyX12_set : zY := (yX12_set, cX12_set, 4, some .int)
abbrev zyX12_copy : zY := (yX12_copy, cX12_copy, 9, some .int)
abbrev zyX12_drop : zY := (yX12_drop, cX12_drop, 2, some .int)
abbrev zyX12_init : zY := (yX12_init, cX12_init, 2, none)
abbrev zyX12_isRoom : zY := (yX12_isRoom, cX12_isRoom, 1, some .boolean)
abbrev zyX12_isSlot : zY := (yX12_isSlot, cX12_isSlot, 1, some .boolean)
abbrev zyX12_lookItems : zY := (yX12_lookItems, cX12_lookItems, 6, some .int)
abbrev zyX12_bears : zY := (yX12_bears, cX12_bears, 8, some .int)
abbrev zyX12_staff : zY := (yX12_staff, cX12_staff, 7, some .int)
abbrev zyX12_look : zY := (yX12_look, cX12_look, 3, some .int)
abbrev zyX12_bearsIn : zY := (yX12_bearsIn, cX12_bearsIn, 8, some .int)
abbrev zyX12_safeOf : zY := (yX12_safeOf, cX12_safeOf, 6, some .int)
abbrev zyX12_safe : zY := (yX12_safe, cX12_safe, 4, some .int)
abbrev zyX12_isFlight : zY := (yX12_isFlight, cX12_isFlight, 2, some .boolean)
abbrev zyX12_costBy : zY := (yX12_costBy, cX12_costBy, 4, some .int)
abbrev zyX12_costOf : zY := (yX12_costOf, cX12_costOf, 2, some .int)
abbrev zyX12_roomBy : zY := (yX12_roomBy, cX12_roomBy, 8, some .int)
abbrev zyX12_slotsOf : zY := (yX12_slotsOf, cX12_slotsOf, 5, some .int)
abbrev zyX12_feed : zY := (yX12_feed, cX12_feed, 5, some .int)
abbrev zyX12_byteAt : zY := (yX12_byteAt, cX12_byteAt, 2, some .int)
abbrev zyX12_isLetter : zY := (yX12_isLetter, cX12_isLetter, 1, some .boolean)
abbrev zyX12_isFigure : zY := (yX12_isFigure, cX12_isFigure, 1, some .boolean)
abbrev zyX12_step : zY := (yX12_step, cX12_step, 2, none)
abbrev zyX12_bad : zY := (yX12_bad, cX12_bad, 2, none)
abbrev zyX12_need : zY := (yX12_need, cX12_need, 2, none)
abbrev zyX12_is : zY := (yX12_is, cX12_is, 2, some .boolean)
abbrev zyX12_word : zY := (yX12_word, cX12_word, 4, some .long)
abbrev zyX12_numberIn : zY := (yX12_numberIn, cX12_numberIn, 5, some .int)
abbrev zyX12_readWay : zY := (yX12_readWay, cX12_readWay, 5, none)
abbrev zyX12_readFlight : zY := (yX12_readFlight, cX12_readFlight, 3, none)
abbrev zyX12_readStorm : zY := (yX12_readStorm, cX12_readStorm, 2, none)
abbrev zyX12_read : zY := (yX12_read, cX12_read, 3, some .int)
abbrev zyX12_fault : zY := (yX12_fault, cX12_fault, 1, some .int)
abbrev zyX12_told : zY := (yX12_told, cX12_told, 3, some .int)
abbrev zyX12_leg : zY := (yX12_leg, cX12_leg, 5, some .int)
abbrev zyX12_choose : zY := (yX12_choose, cX12_choose, 4, some .int)
abbrev zyX12_at : zY := (yX12_at, cX12_at, 3, some .int)
abbrev zyX12_loadOf : zY := (yX12_loadOf, cX12_loadOf, 5, some .int)
abbrev zyX12_overOf : zY := (yX12_overOf, cX12_overOf, 4, some .int)
abbrev zyX12_overAll : zY := (yX12_overAll, cX12_overAll, 3, some .int)
abbrev zyX12_load : zY := (yX12_load, cX12_load, 4, some .int)
abbrev zyX12_distance : zY := (yX12_distance, cX12_distance, 1, some .int)
abbrev zyX12_give : zY := (yX12_give, cX12_give, 7, none)
abbrev zyX12_delaysOf : zY := (yX12_delaysOf, cX12_delaysOf, 4, some .int)
abbrev zyX12_flightsOf : zY := (yX12_flightsOf, cX12_flightsOf, 4, some .int)
abbrev zyX12_shares : zY := (yX12_shares, cX12_shares, 2, none)
abbrev zyX12_all : zY := (yX12_all, cX12_all, 5, some .int)
abbrev zyX12_known : zY := (yX12_known, cX12_known, 6, some .int)
abbrev zyX12_bits : zY := (yX12_bits, cX12_bits, 3, some .int)
abbrev zyX12_findSplits : zY := (yX12_findSplits, cX12_findSplits, 7, none)
abbrev zyX12_split : zY := (yX12_split, cX12_split, 2, some .int)
abbrev zyX12_lay : zY := (yX12_lay, cX12_lay, 6, none)
abbrev zyX12_fits : zY := (yX12_fits, cX12_fits, 6, some .boolean)
abbrev zyX12_settle : zY := (yX12_settle, cX12_settle, 8, some .int)
abbrev zyX12_exchange : zY := (yX12_exchange, cX12_exchange, 4, none)
abbrev zyX12_isHarmless : zY := (yX12_isHarmless, cX12_isHarmless, 7, some .boolean)
abbrev zyX12_harmless : zY := (yX12_harmless, cX12_harmless, 3, some .int)
abbrev zyX12_swap : zY := (yX12_swap, cX12_swap, 3, some .int)
abbrev zyX12_blameOf : zY := (yX12_blameOf, cX12_blameOf, 6, some .int)
abbrev zyX12_airline : zY := (yX12_airline, cX12_airline, 5, some .int)
abbrev zyX12_kindOf : zY := (yX12_kindOf, cX12_kindOf, 5, some .int)
abbrev zyX12_isOf : zY := (yX12_isOf, cX12_isOf, 2, some .boolean)
abbrev zyX12_kind : zY := (yX12_kind, cX12_kind, 2, some .int)
abbrev zyX12_as : zY := (yX12_as, cX12_as, 3, some .int)
abbrev zyX12_began : zY := (yX12_began, cX12_began, 2, none)
abbrev zyX12_markOf : zY := (yX12_markOf, cX12_markOf, 3, some .int)
abbrev zyX12_sizeOf : zY := (yX12_sizeOf, cX12_sizeOf, 4, some .int)
abbrev zyX12_ask : zY := (yX12_ask, cX12_ask, 4, some .int)
abbrev zyX12_trace : zY := (yX12_trace, cX12_trace, 2, some .int)
abbrev zyX12_count : zY := (yX12_count, cX12_count, 4, some .int)
abbrev zyX12_status : zY := (yX12_status, cX12_status, 1, some .int)
abbrev zyJ6_bitCount_0f7a4 : zY := (yJ6_bitCount_0f7a4, cJ6_bitCount_0f7a4, 1, some .int)
abbrev zyJ9_abs_0f7a4 : zY := (yJ9_abs_0f7a4, cJ9_abs_0f7a4, 1, some .int)
abbrev zyJ9_max_7cf53 : zY := (yJ9_max_7cf53, cJ9_max_7cf53, 2, some .int)
abbrev zyJ9_min_7cf53 : zY := (yJ9_min_7cf53, cJ9_min_7cf53, 2, some .int)
abbrev zyJ7_fill_53178 : zY := (yJ7_fill_53178, cJ7_fill_53178, 4, none)
abbrev zyL_law : zY := (yL_law, cL_law, 4, some .boolean)
theorem oX11_3 : Cond.methodLink RX11 3 objectInit ∈ zT := wd1 23 rfl rfl
theorem hX11_9 : Cond.classLink RX11 9 RX7 ∈ zT := wd1 26 rfl rfl
theorem fX11_11 : zFld RX11 11 11 0 := ⟨RX11, TX11, 12, rfl, by decide, wd2 141 rfl rfl⟩
theorem gX11_11 : zFldW true RX11 11 11 0 := ⟨RX11, TX11, 12, rfl, by decide, wd2 141 rfl rfl, rfl, fun _ => rfl⟩
theorem hX11_15 : Cond.classLink RX11 15 RX3 ∈ zT := wd1 28 rfl rfl
theorem kX11_17 : zLkI RX11 17 zyX3_init 0 := ⟨⟨wd1 30 rfl rfl, wd1 2 rfl rfl, wd1 32 rfl rfl, ⟨by decide, by decide, by decide +kernel⟩, by decide⟩, wd1 31 rfl rfl, rfl, rfl⟩
theorem fX11_18 : zFld RX11 18 11 1 := ⟨RX11, TX11, 12, rfl, by decide, wd2 142 rfl rfl⟩
theorem gX11_18 : zFldW true RX11 18 11 1 := ⟨RX11, TX11, 12, rfl, by decide, wd2 142 rfl rfl, rfl, fun _ => rfl⟩
theorem hX11_22 : Cond.classLink RX11 22 RX1 ∈ zT := wd1 77 rfl rfl
theorem kX11_24 : zLkI RX11 24 zyX1_init 0 := ⟨⟨wd1 79 rfl rfl, wd1 4 rfl rfl, wd1 81 rfl rfl, ⟨by decide, by decide, by decide +kernel⟩, by decide⟩, wd1 80 rfl rfl, rfl, rfl⟩
theorem fX11_25 : zFld RX11 25 11 2 := ⟨RX11, TX11, 12, rfl, by decide, wd2 143 rfl rfl⟩
theorem gX11_25 : zFldW true RX11 25 11 2 := ⟨RX11, TX11, 12, rfl, by decide, wd2 143 rfl rfl, rfl, fun _ => rfl⟩
theorem hX11_29 : Cond.classLink RX11 29 RX10 ∈ zT := wd1 170 rfl rfl
theorem kX11_31 : zLkN RX11 31 zyX10_init 0 := ⟨List.mem_of_getElem? (i := 1) rfl, wd1 6 rfl rfl, wd1 174 rfl rfl, ⟨by decide, by decide, by decide +kernel⟩, by decide⟩
theorem ksX11_31 : Cond.instanceMethod zyX10_init.1 ∈ zT := wd1 173 rfl rfl
theorem fX11_32 : zFld RX11 32 11 3 := ⟨RX11, TX11, 12, rfl, by decide, wd2 144 rfl rfl⟩
theorem gX11_32 : zFldW true RX11 32 11 3 := ⟨RX11, TX11, 12, rfl, by decide, wd2 144 rfl rfl, rfl, fun _ => rfl⟩
theorem hX11_36 : Cond.classLink RX11 36 RX5 ∈ zT := wd1 199 rfl rfl
theorem kX11_38 : zLkI RX11 38 zyX5_init 3 := ⟨⟨wd1 201 rfl rfl, wd1 7 rfl rfl, wd1 203 rfl rfl, ⟨by decide, by decide, by decide +kernel⟩, by decide⟩, wd1 202 rfl rfl, rfl, rfl⟩
theorem fX11_41 : zFld RX11 41 11 4 := ⟨RX11, TX11, 12, rfl, by decide, wd2 145 rfl rfl⟩
theorem gX11_41 : zFldW true RX11 41 11 4 := ⟨RX11, TX11, 12, rfl, by decide, wd2 145 rfl rfl, rfl, fun _ => rfl⟩
theorem hX11_45 : Cond.classLink RX11 45 RX8 ∈ zT := wd1 232 rfl rfl
theorem kX11_47 : zLkI RX11 47 zyX8_init 2 := ⟨⟨wd1 234 rfl rfl, wd1 8 rfl rfl, wd1 236 rfl rfl, ⟨by decide, by decide, by decide +kernel⟩, by decide⟩, wd1 235 rfl rfl, rfl, rfl⟩
theorem fX11_50 : zFld RX11 50 11 5 := ⟨RX11, TX11, 12, rfl, by decide, wd2 146 rfl rfl⟩
theorem gX11_50 : zFldW true RX11 50 11 5 := ⟨RX11, TX11, 12, rfl, by decide, wd2 146 rfl rfl, rfl, fun _ => rfl⟩
theorem hX11_54 : Cond.classLink RX11 54 RX9 ∈ zT := wd2 19 rfl rfl
theorem kX11_56 : zLkI RX11 56 zyX9_init 2 := ⟨⟨wd2 21 rfl rfl, wd1 9 rfl rfl, wd2 23 rfl rfl, ⟨by decide, by decide, by decide +kernel⟩, by decide⟩, wd2 22 rfl rfl, rfl, rfl⟩
theorem fX11_59 : zFld RX11 59 11 6 := ⟨RX11, TX11, 12, rfl, by decide, wd2 147 rfl rfl⟩
theorem gX11_59 : zFldW true RX11 59 11 6 := ⟨RX11, TX11, 12, rfl, by decide, wd2 147 rfl rfl, rfl, fun _ => rfl⟩
theorem hX11_63 : Cond.classLink RX11 63 RX6 ∈ zT := wd2 49 rfl rfl
theorem kX11_65 : zLkI RX11 65 zyX6_init 2 := ⟨⟨wd2 51 rfl rfl, wd1 10 rfl rfl, wd2 53 rfl rfl, ⟨by decide, by decide, by decide +kernel⟩, by decide⟩, wd2 52 rfl rfl, rfl, rfl⟩
theorem fX11_68 : zFld RX11 68 11 7 := ⟨RX11, TX11, 12, rfl, by decide, wd2 148 rfl rfl⟩
theorem gX11_68 : zFldW true RX11 68 11 7 := ⟨RX11, TX11, 12, rfl, by decide, wd2 148 rfl rfl, rfl, fun _ => rfl⟩
theorem hX11_72 : Cond.classLink RX11 72 RX4 ∈ zT := wd2 84 rfl rfl
theorem kX11_74 : zLkI RX11 74 zyX4_init 2 := ⟨⟨wd2 86 rfl rfl, wd1 11 rfl rfl, wd2 88 rfl rfl, ⟨by decide, by decide, by decide +kernel⟩, by decide⟩, wd2 87 rfl rfl, rfl, rfl⟩
theorem fX11_75 : zFld RX11 75 11 8 := ⟨RX11, TX11, 12, rfl, by decide, wd2 149 rfl rfl⟩
theorem gX11_75 : zFldW true RX11 75 11 8 := ⟨RX11, TX11, 12, rfl, by decide, wd2 149 rfl rfl, rfl, fun _ => rfl⟩
theorem hX11_79 : Cond.classLink RX11 79 RX0 ∈ zT := wd2 106 rfl rfl
theorem kX11_81 : zLkI RX11 81 zyX0_init 1 := ⟨⟨wd2 108 rfl rfl, wd1 12 rfl rfl, wd2 110 rfl rfl, ⟨by decide, by decide, by decide +kernel⟩, by decide⟩, wd2 109 rfl rfl, rfl, rfl⟩
theorem fX11_84 : zFld RX11 84 11 9 := ⟨RX11, TX11, 12, rfl, by decide, wd2 150 rfl rfl⟩
theorem gX11_84 : zFldW true RX11 84 11 9 := ⟨RX11, TX11, 12, rfl, by decide, wd2 150 rfl rfl, rfl, fun _ => rfl⟩
theorem fX11_88 : zFld RX11 88 11 10 := ⟨RX11, TX11, 12, rfl, by decide, wd2 151 rfl rfl⟩
theorem gX11_88 : zFldW false RX11 88 11 10 := ⟨RX11, TX11, 12, rfl, by decide, wd2 151 rfl rfl, rfl, fun h => by cases h⟩
theorem fX11_92 : zFld RX11 92 11 11 := ⟨RX11, TX11, 12, rfl, by decide, wd2 152 rfl rfl⟩
theorem gX11_92 : zFldW false RX11 92 11 11 := ⟨RX11, TX11, 12, rfl, by decide, wd2 152 rfl rfl, rfl, fun h => by cases h⟩
theorem kX11_95 : zLkN RX11 95 zyX7_init 0 := ⟨List.mem_of_getElem? (i := 2) rfl, wd1 13 rfl rfl, wd2 127 rfl rfl, ⟨by decide, by decide, by decide +kernel⟩, by decide⟩
theorem ksX11_95 : Cond.instanceMethod zyX7_init.1 ∈ zT := wd2 126 rfl rfl
theorem kX11_96 : zLkV RX11 96 zyX11_sheetOrNull 1 := ⟨⟨wd2 182 rfl rfl, wd1 1 rfl rfl, wd2 185 rfl rfl, ⟨by decide, by decide, by decide +kernel⟩, by decide⟩, wd2 184 rfl rfl, wd0 0 rfl rfl⟩
theorem nX11_100 : Cond.constant RX11 100 (-1000001) ∈ zT := wd2 186 rfl rfl
theorem kX11_101 : zLkV RX11 101 zyX11_found 1 := ⟨⟨wd2 187 rfl rfl, wd1 1 rfl rfl, wd2 190 rfl rfl, ⟨by decide, by decide, by decide +kernel⟩, by decide⟩, wd2 189 rfl rfl, wd0 1 rfl rfl⟩
theorem kX11_105 : zLkV RX11 105 zyX7_begin 2 := ⟨⟨wd2 192 rfl rfl, wd1 13 rfl rfl, wd2 195 rfl rfl, ⟨by decide, by decide, by decide +kernel⟩, by decide⟩, wd2 193 rfl rfl, wd2 194 rfl rfl⟩
theorem kX11_109 : zLkV RX11 109 zyX11_withoutFinding 1 := ⟨⟨wd2 197 rfl rfl, wd1 1 rfl rfl, wd2 200 rfl rfl, ⟨by decide, by decide, by decide +kernel⟩, by decide⟩, wd2 199 rfl rfl, wd0 2 rfl rfl⟩
theorem kX11_112 : zLkV RX11 112 zyX7_findingFor 2 := ⟨⟨wd2 205 rfl rfl, wd1 13 rfl rfl, wd2 208 rfl rfl, ⟨by decide, by decide, by decide +kernel⟩, by decide⟩, wd2 206 rfl rfl, wd2 207 rfl rfl⟩
theorem kX11_116 : zLkV RX11 116 zyX7_put 2 := ⟨⟨wd2 217 rfl rfl, wd1 13 rfl rfl, wd2 220 rfl rfl, ⟨by decide, by decide, by decide +kernel⟩, by decide⟩, wd2 218 rfl rfl, wd2 219 rfl rfl⟩
theorem kX11_119 : zLkV RX11 119 zyX7_isMissing 0 := ⟨⟨wd2 225 rfl rfl, wd1 13 rfl rfl, wd2 212 rfl rfl, ⟨by decide, by decide, by decide +kernel⟩, by decide⟩, wd2 210 rfl rfl, wd2 211 rfl rfl⟩
theorem fX11_123 : zFld RX11 123 7 0 := ⟨RX7, TX7, 3, rfl, by decide, wd2 130 rfl rfl⟩
theorem kX11_126 : zLkV RX11 126 zyX7_hasPlaces 2 := ⟨⟨wd2 226 rfl rfl, wd1 13 rfl rfl, wd2 216 rfl rfl, ⟨by decide, by decide, by decide +kernel⟩, by decide⟩, wd2 214 rfl rfl, wd2 215 rfl rfl⟩
theorem fX11_130 : zFld RX11 130 7 2 := ⟨RX7, TX7, 3, rfl, by decide, wd2 133 rfl rfl⟩
theorem qX11_134 : Cond.methodLink RX11 134 arraycopyName ∈ zT := wd2 227 rfl rfl
theorem kX11_140 : zLkV RX11 140 zyX7_end 0 := ⟨⟨wd2 234 rfl rfl, wd1 13 rfl rfl, wd2 237 rfl rfl, ⟨by decide, by decide, by decide +kernel⟩, by decide⟩, wd2 235 rfl rfl, wd2 236 rfl rfl⟩
theorem kX11_144 : zLkS RX11 144 zyX11_isRoom 1 := ⟨⟨wd3 2 rfl rfl, wd1 1 rfl rfl, wd3 4 rfl rfl, ⟨by decide, by decide, by decide +kernel⟩, by decide⟩, wd3 3 rfl rfl⟩
theorem kX11_148 : zLkS RX11 148 zyX11_areSlots 2 := ⟨⟨wd3 5 rfl rfl, wd1 1 rfl rfl, wd3 7 rfl rfl, ⟨by decide, by decide, by decide +kernel⟩, by decide⟩, wd3 6 rfl rfl⟩
theorem fX11_151 : zFld RX11 151 3 0 := ⟨RX3, TX3, 9, rfl, by decide, wd1 38 rfl rfl⟩
theorem kX11_154 : zLkS RX11 154 zyX11_cellOf 2 := ⟨⟨wd3 11 rfl rfl, wd1 1 rfl rfl, wd3 13 rfl rfl, ⟨by decide, by decide, by decide +kernel⟩, by decide⟩, wd3 12 rfl rfl⟩
theorem kX11_157 : zLkV RX11 157 zyX11_fillFromSheet 6 := ⟨⟨wd3 14 rfl rfl, wd1 1 rfl rfl, wd3 17 rfl rfl, ⟨by decide, by decide, by decide +kernel⟩, by decide⟩, wd3 16 rfl rfl, wd0 3 rfl rfl⟩
theorem fX11_161 : zFld RX11 161 3 1 := ⟨RX3, TX3, 9, rfl, by decide, wd1 41 rfl rfl⟩
theorem fX11_164 : zFld RX11 164 3 8 := ⟨RX3, TX3, 9, rfl, by decide, wd1 56 rfl rfl⟩
theorem gX11_164 : zFldW false RX11 164 3 8 := ⟨RX3, TX3, 9, rfl, by decide, wd1 56 rfl rfl, rfl, fun h => by cases h⟩
theorem kX11_167 : zLkS RX11 167 zyX11_isSlot 1 := ⟨⟨wd3 8 rfl rfl, wd1 1 rfl rfl, wd3 10 rfl rfl, ⟨by decide, by decide, by decide +kernel⟩, by decide⟩, wd3 9 rfl rfl⟩
theorem nX11_170 : Cond.constant RX11 170 (-1000000) ∈ zT := wd3 34 rfl rfl
theorem kX11_171 : zLkV RX11 171 zyX3_borneInWorlds 3 := ⟨⟨wd3 35 rfl rfl, wd1 2 rfl rfl, wd3 38 rfl rfl, ⟨by decide, by decide, by decide +kernel⟩, by decide⟩, wd3 36 rfl rfl, wd3 37 rfl rfl⟩
theorem kX11_175 : zLkV RX11 175 zyX10_takeBytes 2 := ⟨⟨wd3 51 rfl rfl, wd1 6 rfl rfl, wd3 54 rfl rfl, ⟨by decide, by decide, by decide +kernel⟩, by decide⟩, wd3 52 rfl rfl, wd3 53 rfl rfl⟩
theorem fX11_179 : zFld RX11 179 10 1 := ⟨RX10, TX10, 6, rfl, by decide, wd1 178 rfl rfl⟩
theorem gX11_179 : zFldW false RX11 179 10 1 := ⟨RX10, TX10, 6, rfl, by decide, wd1 178 rfl rfl, rfl, fun h => by cases h⟩
theorem nX11_182 : Cond.constant RX11 182 (-1000003) ∈ zT := wd3 56 rfl rfl
theorem kX11_183 : zLkV RX11 183 zyX5_readTape 0 := ⟨⟨wd3 61 rfl rfl, wd1 7 rfl rfl, wd3 64 rfl rfl, ⟨by decide, by decide, by decide +kernel⟩, by decide⟩, wd3 62 rfl rfl, wd3 63 rfl rfl⟩
theorem fX11_186 : zFld RX11 186 5 6 := ⟨RX5, TX5, 8, rfl, by decide, wd1 212 rfl rfl⟩
theorem nX11_189 : Cond.constant RX11 189 (-1000100) ∈ zT := wd3 132 rfl rfl
theorem fX11_190 : zFld RX11 190 5 7 := ⟨RX5, TX5, 8, rfl, by decide, wd1 214 rfl rfl⟩
theorem kX11_193 : zLkV RX11 193 zyX5_carryOut 0 := ⟨⟨wd3 133 rfl rfl, wd1 7 rfl rfl, wd3 136 rfl rfl, ⟨by decide, by decide, by decide +kernel⟩, by decide⟩, wd3 134 rfl rfl, wd3 135 rfl rfl⟩
theorem fX11_196 : zFld RX11 196 1 1 := ⟨RX1, TX1, 2, rfl, by decide, wd1 164 rfl rfl⟩
theorem kX11_199 : zLkV RX11 199 zyX1_flightOrNull 1 := ⟨⟨wd3 149 rfl rfl, wd1 4 rfl rfl, wd3 152 rfl rfl, ⟨by decide, by decide, by decide +kernel⟩, by decide⟩, wd3 150 rfl rfl, wd3 151 rfl rfl⟩
theorem fX11_203 : zFld RX11 203 2 0 := ⟨RX2, TX2, 10, rfl, by decide, wd1 95 rfl rfl⟩
theorem fX11_208 : zFld RX11 208 2 1 := ⟨RX2, TX2, 10, rfl, by decide, wd1 103 rfl rfl⟩
theorem fX11_211 : zFld RX11 211 2 2 := ⟨RX2, TX2, 10, rfl, by decide, wd1 106 rfl rfl⟩
theorem fX11_214 : zFld RX11 214 2 3 := ⟨RX2, TX2, 10, rfl, by decide, wd1 109 rfl rfl⟩
theorem fX11_217 : zFld RX11 217 2 4 := ⟨RX2, TX2, 10, rfl, by decide, wd1 112 rfl rfl⟩
theorem fX11_220 : zFld RX11 220 2 8 := ⟨RX2, TX2, 10, rfl, by decide, wd1 124 rfl rfl⟩
theorem gX11_220 : zFldW false RX11 220 2 8 := ⟨RX2, TX2, 10, rfl, by decide, wd1 124 rfl rfl, rfl, fun h => by cases h⟩
theorem fX11_223 : zFld RX11 223 2 9 := ⟨RX2, TX2, 10, rfl, by decide, wd1 131 rfl rfl⟩
theorem gX11_223 : zFldW false RX11 223 2 9 := ⟨RX2, TX2, 10, rfl, by decide, wd1 131 rfl rfl, rfl, fun h => by cases h⟩
theorem kX11_226 : zLkV RX11 226 zyX2_cost 0 := ⟨⟨wd3 153 rfl rfl, wd1 5 rfl rfl, wd3 156 rfl rfl, ⟨by decide, by decide, by decide +kernel⟩, by decide⟩, wd3 154 rfl rfl, wd3 155 rfl rfl⟩
theorem kX11_229 : zLkV RX11 229 zyX2_hasWay 1 := ⟨⟨wd3 165 rfl rfl, wd1 5 rfl rfl, wd3 168 rfl rfl, ⟨by decide, by decide, by decide +kernel⟩, by decide⟩, wd3 166 rfl rfl, wd3 167 rfl rfl⟩
theorem fX11_232 : zFld RX11 232 2 5 := ⟨RX2, TX2, 10, rfl, by decide, wd1 114 rfl rfl⟩
theorem fX11_235 : zFld RX11 235 2 6 := ⟨RX2, TX2, 10, rfl, by decide, wd1 116 rfl rfl⟩
theorem fX11_238 : zFld RX11 238 2 7 := ⟨RX2, TX2, 10, rfl, by decide, wd1 118 rfl rfl⟩
theorem kX11_241 : zLkV RX11 241 zyX2_roomIn 3 := ⟨⟨wd3 177 rfl rfl, wd1 5 rfl rfl, wd3 180 rfl rfl, ⟨by decide, by decide, by decide +kernel⟩, by decide⟩, wd3 178 rfl rfl, wd3 179 rfl rfl⟩
theorem kX11_244 : zLkV RX11 244 zyX8_refresh 0 := ⟨⟨wd3 186 rfl rfl, wd1 8 rfl rfl, wd3 189 rfl rfl, ⟨by decide, by decide, by decide +kernel⟩, by decide⟩, wd3 187 rfl rfl, wd3 188 rfl rfl⟩
theorem fX11_247 : zFld RX11 247 8 2 := ⟨RX8, TX8, 5, rfl, by decide, wd2 3 rfl rfl⟩
theorem kX11_250 : zLkV RX11 250 zyX8_tooMuchIn 1 := ⟨⟨wd3 204 rfl rfl, wd1 8 rfl rfl, wd3 207 rfl rfl, ⟨by decide, by decide, by decide +kernel⟩, by decide⟩, wd3 205 rfl rfl, wd3 206 rfl rfl⟩
theorem kX11_253 : zLkV RX11 253 zyX8_tooMuchTogether 0 := ⟨⟨wd3 215 rfl rfl, wd1 8 rfl rfl, wd3 218 rfl rfl, ⟨by decide, by decide, by decide +kernel⟩, by decide⟩, wd3 216 rfl rfl, wd3 217 rfl rfl⟩
theorem kX11_256 : zLkV RX11 256 zyX1_costTogether 0 := ⟨⟨wd3 220 rfl rfl, wd1 4 rfl rfl, wd3 223 rfl rfl, ⟨by decide, by decide, by decide +kernel⟩, by decide⟩, wd3 221 rfl rfl, wd3 222 rfl rfl⟩
theorem kX11_259 : zLkV RX11 259 zyX1_delaysTogether 0 := ⟨⟨wd3 225 rfl rfl, wd1 4 rfl rfl, wd3 228 rfl rfl, ⟨by decide, by decide, by decide +kernel⟩, by decide⟩, wd3 226 rfl rfl, wd3 227 rfl rfl⟩
theorem kX11_262 : zLkV RX11 262 zyX4_unfairness 0 := ⟨⟨wd3 229 rfl rfl, wd1 11 rfl rfl, wd3 232 rfl rfl, ⟨by decide, by decide, by decide +kernel⟩, by decide⟩, wd3 230 rfl rfl, wd3 231 rfl rfl⟩
theorem kX11_265 : zLkV RX11 265 zyX8_crowdedCells 0 := ⟨⟨wd4 18 rfl rfl, wd1 8 rfl rfl, wd4 21 rfl rfl, ⟨by decide, by decide, by decide +kernel⟩, by decide⟩, wd4 19 rfl rfl, wd4 20 rfl rfl⟩
theorem kX11_268 : zLkV RX11 268 zyX8_greatestLoad 0 := ⟨⟨wd4 22 rfl rfl, wd1 8 rfl rfl, wd4 25 rfl rfl, ⟨by decide, by decide, by decide +kernel⟩, by decide⟩, wd4 23 rfl rfl, wd4 24 rfl rfl⟩
theorem kX11_271 : zLkV RX11 271 zyX1_loadKnownAt 3 := ⟨⟨wd4 30 rfl rfl, wd1 4 rfl rfl, wd4 33 rfl rfl, ⟨by decide, by decide, by decide +kernel⟩, by decide⟩, wd4 31 rfl rfl, wd4 32 rfl rfl⟩
theorem kX11_274 : zLkV RX11 274 zyX9_makePlan 0 := ⟨⟨wd4 39 rfl rfl, wd1 9 rfl rfl, wd4 42 rfl rfl, ⟨by decide, by decide, by decide +kernel⟩, by decide⟩, wd4 40 rfl rfl, wd4 41 rfl rfl⟩
theorem fX11_277 : zFld RX11 277 9 6 := ⟨RX9, TX9, 7, rfl, by decide, wd2 33 rfl rfl⟩
theorem fX11_280 : zFld RX11 280 9 5 := ⟨RX9, TX9, 7, rfl, by decide, wd2 31 rfl rfl⟩
theorem kX11_283 : zLkV RX11 283 zyX1_everyFlight 0 := ⟨⟨wd4 79 rfl rfl, wd1 4 rfl rfl, wd4 82 rfl rfl, ⟨by decide, by decide, by decide +kernel⟩, by decide⟩, wd4 80 rfl rfl, wd4 81 rfl rfl⟩
theorem kX11_286 : zLkS RX11 286 zyJ6_bitCount_0f7a4 1 := ⟨⟨wd4 83 rfl rfl, wd1 17 rfl rfl, wd4 61 rfl rfl, ⟨by decide, by decide, by decide +kernel⟩, by decide⟩, wd4 60 rfl rfl⟩
theorem kX11_291 : zLkV RX11 291 zyX6_findChoices 1 := ⟨⟨wd4 84 rfl rfl, wd1 10 rfl rfl, wd4 87 rfl rfl, ⟨by decide, by decide, by decide +kernel⟩, by decide⟩, wd4 85 rfl rfl, wd4 86 rfl rfl⟩
theorem kX11_294 : zLkV RX11 294 zyX6_takeChoices 0 := ⟨⟨wd4 111 rfl rfl, wd1 10 rfl rfl, wd4 114 rfl rfl, ⟨by decide, by decide, by decide +kernel⟩, by decide⟩, wd4 112 rfl rfl, wd4 113 rfl rfl⟩
theorem kX11_297 : zLkV RX11 297 zyX11_harmsNone 2 := ⟨⟨wd4 119 rfl rfl, wd1 1 rfl rfl, wd4 122 rfl rfl, ⟨by decide, by decide, by decide +kernel⟩, by decide⟩, wd4 121 rfl rfl, wd0 26 rfl rfl⟩
theorem fX11_301 : zFld RX11 301 1 0 := ⟨RX1, TX1, 2, rfl, by decide, wd1 158 rfl rfl⟩
theorem kX11_305 : zLkS RX11 305 zyX11_exchangeDelays 2 := ⟨⟨wd4 124 rfl rfl, wd1 1 rfl rfl, wd4 126 rfl rfl, ⟨by decide, by decide, by decide +kernel⟩, by decide⟩, wd4 125 rfl rfl⟩
theorem kX11_309 : zLkV RX11 309 zyX1_flightsOf 1 := ⟨⟨wd4 135 rfl rfl, wd1 4 rfl rfl, wd4 0 rfl rfl, ⟨by decide, by decide, by decide +kernel⟩, by decide⟩, wd3 238 rfl rfl, wd3 239 rfl rfl⟩
theorem kX11_312 : zLkV RX11 312 zyX1_delaysOf 1 := ⟨⟨wd4 136 rfl rfl, wd1 4 rfl rfl, wd4 14 rfl rfl, ⟨by decide, by decide, by decide +kernel⟩, by decide⟩, wd4 12 rfl rfl, wd4 13 rfl rfl⟩
theorem kX11_315 : zLkV RX11 315 zyX4_shareOf 1 := ⟨⟨wd4 137 rfl rfl, wd1 11 rfl rfl, wd4 140 rfl rfl, ⟨by decide, by decide, by decide +kernel⟩, by decide⟩, wd4 138 rfl rfl, wd4 139 rfl rfl⟩
theorem kX11_318 : zLkV RX11 318 zyX4_blameOf 1 := ⟨⟨wd4 141 rfl rfl, wd1 11 rfl rfl, wd4 144 rfl rfl, ⟨by decide, by decide, by decide +kernel⟩, by decide⟩, wd4 142 rfl rfl, wd4 143 rfl rfl⟩
theorem kX11_321 : zLkV RX11 321 zyX1_costOf 1 := ⟨⟨wd4 152 rfl rfl, wd1 4 rfl rfl, wd4 155 rfl rfl, ⟨by decide, by decide, by decide +kernel⟩, by decide⟩, wd4 153 rfl rfl, wd4 154 rfl rfl⟩
theorem kX11_324 : zLkV RX11 324 zyX0_kindOf 1 := ⟨⟨wd4 160 rfl rfl, wd1 12 rfl rfl, wd4 163 rfl rfl, ⟨by decide, by decide, by decide +kernel⟩, by decide⟩, wd4 161 rfl rfl, wd4 162 rfl rfl⟩
theorem kX11_328 : zLkV RX11 328 zyX0_isOfKind 2 := ⟨⟨wd4 172 rfl rfl, wd1 12 rfl rfl, wd4 175 rfl rfl, ⟨by decide, by decide, by decide +kernel⟩, by decide⟩, wd4 173 rfl rfl, wd4 174 rfl rfl⟩
theorem fX11_332 : zFld RX11 332 0 2 := ⟨RX0, TX0, 3, rfl, by decide, wd2 116 rfl rfl⟩
theorem gX11_332 : zFldW false RX11 332 0 2 := ⟨RX0, TX0, 3, rfl, by decide, wd2 116 rfl rfl, rfl, fun h => by cases h⟩
theorem kX11_335 : zLkV RX11 335 zyX0_sizeOf 1 := ⟨⟨wd4 181 rfl rfl, wd1 12 rfl rfl, wd4 184 rfl rfl, ⟨by decide, by decide, by decide +kernel⟩, by decide⟩, wd4 182 rfl rfl, wd4 183 rfl rfl⟩
theorem kX11_338 : zLkV RX11 338 zyX0_markOf 1 := ⟨⟨wd4 226 rfl rfl, wd1 12 rfl rfl, wd4 213 rfl rfl, ⟨by decide, by decide, by decide +kernel⟩, by decide⟩, wd4 211 rfl rfl, wd4 212 rfl rfl⟩
theorem fX11_341 : zFld RX11 341 0 1 := ⟨RX0, TX0, 3, rfl, by decide, wd2 114 rfl rfl⟩
theorem kX11_344 : zLkV RX11 344 zyX11_sheetsThere 0 := ⟨⟨wd4 235 rfl rfl, wd1 1 rfl rfl, wd4 238 rfl rfl, ⟨by decide, by decide, by decide +kernel⟩, by decide⟩, wd4 237 rfl rfl, wd0 36 rfl rfl⟩
theorem fX11_347 : zFld RX11 347 3 7 := ⟨RX3, TX3, 9, rfl, by decide, wd1 54 rfl rfl⟩
theorem kX11_350 : zLkV RX11 350 zyX11_flightsTold 1 := ⟨⟨wd4 239 rfl rfl, wd1 1 rfl rfl, wd5 2 rfl rfl, ⟨by decide, by decide, by decide +kernel⟩, by decide⟩, wd5 1 rfl rfl, wd0 37 rfl rfl⟩
theorem nX11_353 : Cond.constant RX11 353 (-1000010) ∈ zT := wd2 191 rfl rfl
theorem kX11_354 : zLkV RX11 354 zyX7_hasOnlyUpTo 3 := ⟨⟨wd3 18 rfl rfl, wd1 13 rfl rfl, wd3 21 rfl rfl, ⟨by decide, by decide, by decide +kernel⟩, by decide⟩, wd3 19 rfl rfl, wd3 20 rfl rfl⟩
theorem kX11_358 : zLkV RX11 358 zyX2_costOf 2 := ⟨⟨wd4 123 rfl rfl, wd1 5 rfl rfl, wd3 160 rfl rfl, ⟨by decide, by decide, by decide +kernel⟩, by decide⟩, wd3 158 rfl rfl, wd3 159 rfl rfl⟩
theorem oX0_3 : Cond.methodLink RX0 3 objectInit ∈ zT := wd2 111 rfl rfl
theorem fX0_9 : zFld RX0 9 0 1 := ⟨RX0, TX0, 3, rfl, by decide, wd2 113 rfl rfl⟩
theorem gX0_9 : zFldW true RX0 9 0 1 := ⟨RX0, TX0, 3, rfl, by decide, wd2 113 rfl rfl, rfl, fun _ => rfl⟩
theorem fX0_15 : zFld RX0 15 0 2 := ⟨RX0, TX0, 3, rfl, by decide, wd2 115 rfl rfl⟩
theorem gX0_15 : zFldW false RX0 15 0 2 := ⟨RX0, TX0, 3, rfl, by decide, wd2 115 rfl rfl, rfl, fun h => by cases h⟩
theorem fX0_19 : zFld RX0 19 0 0 := ⟨RX0, TX0, 3, rfl, by decide, wd2 112 rfl rfl⟩
theorem gX0_19 : zFldW true RX0 19 0 0 := ⟨RX0, TX0, 3, rfl, by decide, wd2 112 rfl rfl, rfl, fun _ => rfl⟩
theorem fX0_23 : zFld RX0 23 2 9 := ⟨RX2, TX2, 10, rfl, by decide, wd1 126 rfl rfl⟩
theorem fX0_28 : zFld RX0 28 2 8 := ⟨RX2, TX2, 10, rfl, by decide, wd1 120 rfl rfl⟩
theorem kX0_31 : zLkV RX0 31 zyX8_isCrowdedAround 1 := ⟨⟨wd4 164 rfl rfl, wd1 8 rfl rfl, wd4 167 rfl rfl, ⟨by decide, by decide, by decide +kernel⟩, by decide⟩, wd4 165 rfl rfl, wd4 166 rfl rfl⟩
theorem kX0_37 : zLkV RX0 37 zyX0_kindOf 1 := ⟨⟨wd4 176 rfl rfl, wd1 12 rfl rfl, wd4 163 rfl rfl, ⟨by decide, by decide, by decide +kernel⟩, by decide⟩, wd4 161 rfl rfl, wd4 162 rfl rfl⟩
theorem kX0_41 : zLkV RX0 41 zyX0_sizeOfLate 1 := ⟨⟨wd4 185 rfl rfl, wd1 12 rfl rfl, wd4 188 rfl rfl, ⟨by decide, by decide, by decide +kernel⟩, by decide⟩, wd4 187 rfl rfl, wd0 28 rfl rfl⟩
theorem kX0_44 : zLkV RX0 44 zyX0_sizeOfRound 1 := ⟨⟨wd4 202 rfl rfl, wd1 12 rfl rfl, wd4 205 rfl rfl, ⟨by decide, by decide, by decide +kernel⟩, by decide⟩, wd4 204 rfl rfl, wd0 31 rfl rfl⟩
theorem kX0_47 : zLkV RX0 47 zyX0_sizeOfCalm 1 := ⟨⟨wd4 206 rfl rfl, wd1 12 rfl rfl, wd4 209 rfl rfl, ⟨by decide, by decide, by decide +kernel⟩, by decide⟩, wd4 208 rfl rfl, wd0 32 rfl rfl⟩
theorem kX0_50 : zLkV RX0 50 zyX0_sizeLent 1 := ⟨⟨wd4 193 rfl rfl, wd1 12 rfl rfl, wd4 196 rfl rfl, ⟨by decide, by decide, by decide +kernel⟩, by decide⟩, wd4 195 rfl rfl, wd0 30 rfl rfl⟩
theorem kX0_53 : zLkV RX0 53 zyX0_markOfLate 1 := ⟨⟨wd4 214 rfl rfl, wd1 12 rfl rfl, wd4 217 rfl rfl, ⟨by decide, by decide, by decide +kernel⟩, by decide⟩, wd4 216 rfl rfl, wd0 33 rfl rfl⟩
theorem kX0_56 : zLkV RX0 56 zyX0_markOfCalm 1 := ⟨⟨wd4 222 rfl rfl, wd1 12 rfl rfl, wd4 225 rfl rfl, ⟨by decide, by decide, by decide +kernel⟩, by decide⟩, wd4 224 rfl rfl, wd0 35 rfl rfl⟩
theorem kX0_59 : zLkV RX0 59 zyX0_markLent 1 := ⟨⟨wd4 218 rfl rfl, wd1 12 rfl rfl, wd4 221 rfl rfl, ⟨by decide, by decide, by decide +kernel⟩, by decide⟩, wd4 220 rfl rfl, wd0 34 rfl rfl⟩
theorem kX0_62 : zLkV RX0 62 zyX0_leaveInTrace 1 := ⟨⟨wd4 189 rfl rfl, wd1 12 rfl rfl, wd4 192 rfl rfl, ⟨by decide, by decide, by decide +kernel⟩, by decide⟩, wd4 191 rfl rfl, wd0 29 rfl rfl⟩
theorem kX0_66 : zLkV RX0 66 zyX2_slotsOfWay 0 := ⟨⟨wd4 197 rfl rfl, wd1 5 rfl rfl, wd4 200 rfl rfl, ⟨by decide, by decide, by decide +kernel⟩, by decide⟩, wd4 198 rfl rfl, wd4 199 rfl rfl⟩
theorem kX0_70 : zLkV RX0 70 zyX2_cost 0 := ⟨⟨wd4 201 rfl rfl, wd1 5 rfl rfl, wd3 156 rfl rfl, ⟨by decide, by decide, by decide +kernel⟩, by decide⟩, wd3 154 rfl rfl, wd3 155 rfl rfl⟩
theorem kX0_73 : zLkV RX0 73 zyX0_markOf 1 := ⟨⟨wd4 210 rfl rfl, wd1 12 rfl rfl, wd4 213 rfl rfl, ⟨by decide, by decide, by decide +kernel⟩, by decide⟩, wd4 211 rfl rfl, wd4 212 rfl rfl⟩
theorem fX0_76 : zFld RX0 76 2 1 := ⟨RX2, TX2, 10, rfl, by decide, wd1 102 rfl rfl⟩
theorem fX0_79 : zFld RX0 79 2 0 := ⟨RX2, TX2, 10, rfl, by decide, wd1 94 rfl rfl⟩
theorem oX1_3 : Cond.methodLink RX1 3 objectInit ∈ zT := wd1 82 rfl rfl
theorem hX1_9 : Cond.classLink RX1 9 RX2 ∈ zT := wd1 83 rfl rfl
theorem fX1_11 : zFld RX1 11 1 0 := ⟨RX1, TX1, 2, rfl, by decide, wd1 153 rfl rfl⟩
theorem gX1_11 : zFldW true RX1 11 1 0 := ⟨RX1, TX1, 2, rfl, by decide, wd1 153 rfl rfl, rfl, fun _ => rfl⟩
theorem fX1_17 : zFld RX1 17 1 1 := ⟨RX1, TX1, 2, rfl, by decide, wd1 159 rfl rfl⟩
theorem gX1_17 : zFldW false RX1 17 1 1 := ⟨RX1, TX1, 2, rfl, by decide, wd1 159 rfl rfl, rfl, fun h => by cases h⟩
theorem kX1_21 : zLkN RX1 21 zyX2_init 0 := ⟨List.mem_of_getElem? (i := 0) rfl, wd1 5 rfl rfl, wd1 88 rfl rfl, ⟨by decide, by decide, by decide +kernel⟩, by decide⟩
theorem ksX1_21 : Cond.instanceMethod zyX2_init.1 ∈ zT := wd1 87 rfl rfl
theorem kX1_22 : zLkV RX1 22 zyX2_roomIn 3 := ⟨⟨wd4 34 rfl rfl, wd1 5 rfl rfl, wd3 180 rfl rfl, ⟨by decide, by decide, by decide +kernel⟩, by decide⟩, wd3 178 rfl rfl, wd3 179 rfl rfl⟩
theorem fX1_26 : zFld RX1 26 2 1 := ⟨RX2, TX2, 10, rfl, by decide, wd1 99 rfl rfl⟩
theorem kX1_29 : zLkV RX1 29 zyX2_cost 0 := ⟨⟨wd3 224 rfl rfl, wd1 5 rfl rfl, wd3 156 rfl rfl, ⟨by decide, by decide, by decide +kernel⟩, by decide⟩, wd3 154 rfl rfl, wd3 155 rfl rfl⟩
theorem fX1_33 : zFld RX1 33 2 9 := ⟨RX2, TX2, 10, rfl, by decide, wd1 129 rfl rfl⟩
theorem fX1_36 : zFld RX1 36 2 0 := ⟨RX2, TX2, 10, rfl, by decide, wd1 93 rfl rfl⟩
theorem oX2_3 : Cond.methodLink RX2 3 objectInit ∈ zT := wd1 89 rfl rfl
theorem gX2_9 : zFldW false RX2 9 2 0 := ⟨RX2, TX2, 10, rfl, by decide, wd1 90 rfl rfl, rfl, fun h => by cases h⟩
theorem gX2_15 : zFldW false RX2 15 2 1 := ⟨RX2, TX2, 10, rfl, by decide, wd1 96 rfl rfl, rfl, fun h => by cases h⟩
theorem fX2_18 : zFld RX2 18 2 2 := ⟨RX2, TX2, 10, rfl, by decide, wd1 104 rfl rfl⟩
theorem gX2_18 : zFldW false RX2 18 2 2 := ⟨RX2, TX2, 10, rfl, by decide, wd1 104 rfl rfl, rfl, fun h => by cases h⟩
theorem fX2_21 : zFld RX2 21 2 3 := ⟨RX2, TX2, 10, rfl, by decide, wd1 107 rfl rfl⟩
theorem gX2_21 : zFldW false RX2 21 2 3 := ⟨RX2, TX2, 10, rfl, by decide, wd1 107 rfl rfl, rfl, fun h => by cases h⟩
theorem fX2_24 : zFld RX2 24 2 4 := ⟨RX2, TX2, 10, rfl, by decide, wd1 110 rfl rfl⟩
theorem gX2_24 : zFldW false RX2 24 2 4 := ⟨RX2, TX2, 10, rfl, by decide, wd1 110 rfl rfl, rfl, fun h => by cases h⟩
theorem fX2_27 : zFld RX2 27 2 5 := ⟨RX2, TX2, 10, rfl, by decide, wd1 113 rfl rfl⟩
theorem gX2_27 : zFldW true RX2 27 2 5 := ⟨RX2, TX2, 10, rfl, by decide, wd1 113 rfl rfl, rfl, fun _ => rfl⟩
theorem fX2_31 : zFld RX2 31 2 6 := ⟨RX2, TX2, 10, rfl, by decide, wd1 115 rfl rfl⟩
theorem gX2_31 : zFldW true RX2 31 2 6 := ⟨RX2, TX2, 10, rfl, by decide, wd1 115 rfl rfl, rfl, fun _ => rfl⟩
theorem fX2_34 : zFld RX2 34 2 7 := ⟨RX2, TX2, 10, rfl, by decide, wd1 117 rfl rfl⟩
theorem gX2_34 : zFldW true RX2 34 2 7 := ⟨RX2, TX2, 10, rfl, by decide, wd1 117 rfl rfl, rfl, fun _ => rfl⟩
theorem fX2_37 : zFld RX2 37 2 8 := ⟨RX2, TX2, 10, rfl, by decide, wd1 119 rfl rfl⟩
theorem gX2_37 : zFldW false RX2 37 2 8 := ⟨RX2, TX2, 10, rfl, by decide, wd1 119 rfl rfl, rfl, fun h => by cases h⟩
theorem fX2_40 : zFld RX2 40 2 9 := ⟨RX2, TX2, 10, rfl, by decide, wd1 125 rfl rfl⟩
theorem gX2_40 : zFldW false RX2 40 2 9 := ⟨RX2, TX2, 10, rfl, by decide, wd1 125 rfl rfl, rfl, fun h => by cases h⟩
theorem kX2_43 : zLkV RX2 43 zyX2_costOf 2 := ⟨⟨wd3 157 rfl rfl, wd1 5 rfl rfl, wd3 160 rfl rfl, ⟨by decide, by decide, by decide +kernel⟩, by decide⟩, wd3 158 rfl rfl, wd3 159 rfl rfl⟩
theorem nX2_47 : Cond.constant RX2 47 (-1000000) ∈ zT := wd3 181 rfl rfl
theorem oX3_3 : Cond.methodLink RX3 3 objectInit ∈ zT := wd1 33 rfl rfl
theorem fX3_9 : zFld RX3 9 3 0 := ⟨RX3, TX3, 9, rfl, by decide, wd1 37 rfl rfl⟩
theorem gX3_9 : zFldW true RX3 9 3 0 := ⟨RX3, TX3, 9, rfl, by decide, wd1 37 rfl rfl, rfl, fun _ => rfl⟩
theorem gX3_15 : zFldW true RX3 15 3 1 := ⟨RX3, TX3, 9, rfl, by decide, wd1 39 rfl rfl, rfl, fun _ => rfl⟩
theorem fX3_18 : zFld RX3 18 3 2 := ⟨RX3, TX3, 9, rfl, by decide, wd1 42 rfl rfl⟩
theorem gX3_18 : zFldW true RX3 18 3 2 := ⟨RX3, TX3, 9, rfl, by decide, wd1 42 rfl rfl, rfl, fun _ => rfl⟩
theorem fX3_21 : zFld RX3 21 3 3 := ⟨RX3, TX3, 9, rfl, by decide, wd1 44 rfl rfl⟩
theorem gX3_21 : zFldW true RX3 21 3 3 := ⟨RX3, TX3, 9, rfl, by decide, wd1 44 rfl rfl, rfl, fun _ => rfl⟩
theorem fX3_24 : zFld RX3 24 3 4 := ⟨RX3, TX3, 9, rfl, by decide, wd1 46 rfl rfl⟩
theorem gX3_24 : zFldW true RX3 24 3 4 := ⟨RX3, TX3, 9, rfl, by decide, wd1 46 rfl rfl, rfl, fun _ => rfl⟩
theorem fX3_27 : zFld RX3 27 3 5 := ⟨RX3, TX3, 9, rfl, by decide, wd1 48 rfl rfl⟩
theorem gX3_27 : zFldW true RX3 27 3 5 := ⟨RX3, TX3, 9, rfl, by decide, wd1 48 rfl rfl, rfl, fun _ => rfl⟩
theorem fX3_30 : zFld RX3 30 3 6 := ⟨RX3, TX3, 9, rfl, by decide, wd1 50 rfl rfl⟩
theorem gX3_30 : zFldW true RX3 30 3 6 := ⟨RX3, TX3, 9, rfl, by decide, wd1 50 rfl rfl, rfl, fun _ => rfl⟩
theorem fX3_33 : zFld RX3 33 3 7 := ⟨RX3, TX3, 9, rfl, by decide, wd1 52 rfl rfl⟩
theorem gX3_33 : zFldW false RX3 33 3 7 := ⟨RX3, TX3, 9, rfl, by decide, wd1 52 rfl rfl, rfl, fun h => by cases h⟩
theorem fX3_37 : zFld RX3 37 3 8 := ⟨RX3, TX3, 9, rfl, by decide, wd1 55 rfl rfl⟩
theorem gX3_37 : zFldW false RX3 37 3 8 := ⟨RX3, TX3, 9, rfl, by decide, wd1 55 rfl rfl, rfl, fun h => by cases h⟩
theorem kX3_40 : zLkS RX3 40 zyJ7_fill_53178 2 := ⟨⟨wd1 34 rfl rfl, wd1 3 rfl rfl, wd1 36 rfl rfl, ⟨by decide, by decide, by decide +kernel⟩, by decide⟩, wd1 35 rfl rfl⟩
theorem kX3_46 : zLkN RX3 46 zyX11_cellOf 2 := ⟨List.mem_of_getElem? (i := 3) rfl, wd1 1 rfl rfl, wd3 13 rfl rfl, ⟨by decide, by decide, by decide +kernel⟩, by decide⟩
theorem ksX3_46 : Cond.static zyX11_cellOf.1 ∈ zT := wd3 12 rfl rfl
theorem kX3_50 : zLkV RX3 50 zyX3_stormsIn 2 := ⟨⟨wd3 40 rfl rfl, wd1 2 rfl rfl, wd3 43 rfl rfl, ⟨by decide, by decide, by decide +kernel⟩, by decide⟩, wd3 41 rfl rfl, wd3 42 rfl rfl⟩
theorem qX3_54 : Cond.methodLink RX3 54 Lib.Math.min.name ∈ zT := wd3 44 rfl rfl
theorem qX3_59 : Cond.methodLink RX3 59 arraycopyName ∈ zT := wd3 194 rfl rfl
theorem kX3_65 : zLkV RX3 65 zyX3_lowerByStorm 2 := ⟨⟨wd3 195 rfl rfl, wd1 2 rfl rfl, wd3 198 rfl rfl, ⟨by decide, by decide, by decide +kernel⟩, by decide⟩, wd3 197 rfl rfl, wd0 12 rfl rfl⟩
theorem oX4_3 : Cond.methodLink RX4 3 objectInit ∈ zT := wd2 89 rfl rfl
theorem fX4_9 : zFld RX4 9 4 2 := ⟨RX4, TX4, 5, rfl, by decide, wd2 92 rfl rfl⟩
theorem gX4_9 : zFldW true RX4 9 4 2 := ⟨RX4, TX4, 5, rfl, by decide, wd2 92 rfl rfl, rfl, fun _ => rfl⟩
theorem fX4_15 : zFld RX4 15 4 3 := ⟨RX4, TX4, 5, rfl, by decide, wd2 93 rfl rfl⟩
theorem gX4_15 : zFldW true RX4 15 4 3 := ⟨RX4, TX4, 5, rfl, by decide, wd2 93 rfl rfl, rfl, fun _ => rfl⟩
theorem fX4_18 : zFld RX4 18 4 4 := ⟨RX4, TX4, 5, rfl, by decide, wd2 94 rfl rfl⟩
theorem gX4_18 : zFldW true RX4 18 4 4 := ⟨RX4, TX4, 5, rfl, by decide, wd2 94 rfl rfl, rfl, fun _ => rfl⟩
theorem fX4_21 : zFld RX4 21 4 0 := ⟨RX4, TX4, 5, rfl, by decide, wd2 90 rfl rfl⟩
theorem gX4_21 : zFldW true RX4 21 4 0 := ⟨RX4, TX4, 5, rfl, by decide, wd2 90 rfl rfl, rfl, fun _ => rfl⟩
theorem fX4_25 : zFld RX4 25 4 1 := ⟨RX4, TX4, 5, rfl, by decide, wd2 91 rfl rfl⟩
theorem gX4_25 : zFldW true RX4 25 4 1 := ⟨RX4, TX4, 5, rfl, by decide, wd2 91 rfl rfl, rfl, fun _ => rfl⟩
theorem kX4_29 : zLkV RX4 29 zyX4_divideDelays 0 := ⟨⟨wd3 233 rfl rfl, wd1 11 rfl rfl, wd3 236 rfl rfl, ⟨by decide, by decide, by decide +kernel⟩, by decide⟩, wd3 235 rfl rfl, wd0 13 rfl rfl⟩
theorem kX4_32 : zLkV RX4 32 zyX1_delaysOf 1 := ⟨⟨wd4 11 rfl rfl, wd1 4 rfl rfl, wd4 14 rfl rfl, ⟨by decide, by decide, by decide +kernel⟩, by decide⟩, wd4 12 rfl rfl, wd4 13 rfl rfl⟩
theorem qX4_38 : Cond.methodLink RX4 38 Lib.Math.abs.name ∈ zT := wd4 15 rfl rfl
theorem kX4_43 : zLkN RX4 43 zyX11_cellOf 2 := ⟨List.mem_of_getElem? (i := 5) rfl, wd1 1 rfl rfl, wd3 13 rfl rfl, ⟨by decide, by decide, by decide +kernel⟩, by decide⟩
theorem ksX4_43 : Cond.static zyX11_cellOf.1 ∈ zT := wd3 12 rfl rfl
theorem kX4_47 : zLkV RX4 47 zyX8_tooMuchIn 1 := ⟨⟨wd4 146 rfl rfl, wd1 8 rfl rfl, wd3 207 rfl rfl, ⟨by decide, by decide, by decide +kernel⟩, by decide⟩, wd3 205 rfl rfl, wd3 206 rfl rfl⟩
theorem kX4_52 : zLkV RX4 52 zyX4_divideTooMuch 2 := ⟨⟨wd4 147 rfl rfl, wd1 11 rfl rfl, wd4 150 rfl rfl, ⟨by decide, by decide, by decide +kernel⟩, by decide⟩, wd4 149 rfl rfl, wd0 27 rfl rfl⟩
theorem kX4_56 : zLkV RX4 56 zyX1_flightsOf 1 := ⟨⟨wd3 237 rfl rfl, wd1 4 rfl rfl, wd4 0 rfl rfl, ⟨by decide, by decide, by decide +kernel⟩, by decide⟩, wd3 238 rfl rfl, wd3 239 rfl rfl⟩
theorem kX4_59 : zLkV RX4 59 zyX1_delaysTogether 0 := ⟨⟨wd4 1 rfl rfl, wd1 4 rfl rfl, wd3 228 rfl rfl, ⟨by decide, by decide, by decide +kernel⟩, by decide⟩, wd3 226 rfl rfl, wd3 227 rfl rfl⟩
theorem fX4_63 : zFld RX4 63 1 1 := ⟨RX1, TX1, 2, rfl, by decide, wd1 163 rfl rfl⟩
theorem kX4_67 : zLkV RX4 67 zyX4_divide 2 := ⟨⟨wd4 2 rfl rfl, wd1 11 rfl rfl, wd4 5 rfl rfl, ⟨by decide, by decide, by decide +kernel⟩, by decide⟩, wd4 4 rfl rfl, wd0 14 rfl rfl⟩
theorem kX4_70 : zLkS RX4 70 zyJ7_fill_53178 2 := ⟨⟨wd4 6 rfl rfl, wd1 3 rfl rfl, wd1 36 rfl rfl, ⟨by decide, by decide, by decide +kernel⟩, by decide⟩, wd1 35 rfl rfl⟩
theorem fX4_76 : zFld RX4 76 1 0 := ⟨RX1, TX1, 2, rfl, by decide, wd1 157 rfl rfl⟩
theorem fX4_80 : zFld RX4 80 2 8 := ⟨RX2, TX2, 10, rfl, by decide, wd1 123 rfl rfl⟩
theorem fX4_85 : zFld RX4 85 2 9 := ⟨RX2, TX2, 10, rfl, by decide, wd1 130 rfl rfl⟩
theorem kX4_88 : zLkV RX4 88 zyX2_roomIn 3 := ⟨⟨wd4 151 rfl rfl, wd1 5 rfl rfl, wd3 180 rfl rfl, ⟨by decide, by decide, by decide +kernel⟩, by decide⟩, wd3 178 rfl rfl, wd3 179 rfl rfl⟩
theorem fX4_92 : zFld RX4 92 2 0 := ⟨RX2, TX2, 10, rfl, by decide, wd1 92 rfl rfl⟩
theorem fX4_95 : zFld RX4 95 2 1 := ⟨RX2, TX2, 10, rfl, by decide, wd1 101 rfl rfl⟩
theorem fX4_98 : zFld RX4 98 8 2 := ⟨RX8, TX8, 5, rfl, by decide, wd2 2 rfl rfl⟩
theorem kX4_101 : zLkV RX4 101 zyX4_ownerOfGreatestRest 0 := ⟨⟨wd4 7 rfl rfl, wd1 11 rfl rfl, wd4 10 rfl rfl, ⟨by decide, by decide, by decide +kernel⟩, by decide⟩, wd4 9 rfl rfl, wd0 15 rfl rfl⟩
theorem oX5_3 : Cond.methodLink RX5 3 objectInit ∈ zT := wd1 204 rfl rfl
theorem fX5_9 : zFld RX5 9 5 3 := ⟨RX5, TX5, 8, rfl, by decide, wd1 208 rfl rfl⟩
theorem gX5_9 : zFldW true RX5 9 5 3 := ⟨RX5, TX5, 8, rfl, by decide, wd1 208 rfl rfl, rfl, fun _ => rfl⟩
theorem fX5_15 : zFld RX5 15 5 4 := ⟨RX5, TX5, 8, rfl, by decide, wd1 209 rfl rfl⟩
theorem gX5_15 : zFldW false RX5 15 5 4 := ⟨RX5, TX5, 8, rfl, by decide, wd1 209 rfl rfl, rfl, fun h => by cases h⟩
theorem fX5_19 : zFld RX5 19 5 5 := ⟨RX5, TX5, 8, rfl, by decide, wd1 210 rfl rfl⟩
theorem gX5_19 : zFldW false RX5 19 5 5 := ⟨RX5, TX5, 8, rfl, by decide, wd1 210 rfl rfl, rfl, fun h => by cases h⟩
theorem fX5_22 : zFld RX5 22 5 6 := ⟨RX5, TX5, 8, rfl, by decide, wd1 211 rfl rfl⟩
theorem gX5_22 : zFldW false RX5 22 5 6 := ⟨RX5, TX5, 8, rfl, by decide, wd1 211 rfl rfl, rfl, fun h => by cases h⟩
theorem gX5_25 : zFldW false RX5 25 5 7 := ⟨RX5, TX5, 8, rfl, by decide, wd1 213 rfl rfl, rfl, fun h => by cases h⟩
theorem fX5_28 : zFld RX5 28 5 0 := ⟨RX5, TX5, 8, rfl, by decide, wd1 205 rfl rfl⟩
theorem gX5_28 : zFldW true RX5 28 5 0 := ⟨RX5, TX5, 8, rfl, by decide, wd1 205 rfl rfl, rfl, fun _ => rfl⟩
theorem fX5_32 : zFld RX5 32 5 1 := ⟨RX5, TX5, 8, rfl, by decide, wd1 206 rfl rfl⟩
theorem gX5_32 : zFldW true RX5 32 5 1 := ⟨RX5, TX5, 8, rfl, by decide, wd1 206 rfl rfl, rfl, fun _ => rfl⟩
theorem fX5_36 : zFld RX5 36 5 2 := ⟨RX5, TX5, 8, rfl, by decide, wd1 207 rfl rfl⟩
theorem gX5_36 : zFldW true RX5 36 5 2 := ⟨RX5, TX5, 8, rfl, by decide, wd1 207 rfl rfl, rfl, fun _ => rfl⟩
theorem fX5_40 : zFld RX5 40 1 1 := ⟨RX1, TX1, 2, rfl, by decide, wd1 160 rfl rfl⟩
theorem gX5_40 : zFldW false RX5 40 1 1 := ⟨RX1, TX1, 2, rfl, by decide, wd1 160 rfl rfl, rfl, fun h => by cases h⟩
theorem fX5_45 : zFld RX5 45 3 7 := ⟨RX3, TX3, 9, rfl, by decide, wd1 53 rfl rfl⟩
theorem gX5_45 : zFldW false RX5 45 3 7 := ⟨RX3, TX3, 9, rfl, by decide, wd1 53 rfl rfl, rfl, fun h => by cases h⟩
theorem kX5_50 : zLkS RX5 50 zyJ7_fill_53178 2 := ⟨⟨wd3 65 rfl rfl, wd1 3 rfl rfl, wd1 36 rfl rfl, ⟨by decide, by decide, by decide +kernel⟩, by decide⟩, wd1 35 rfl rfl⟩
theorem kX5_56 : zLkV RX5 56 zyX10_rewind 0 := ⟨⟨wd3 66 rfl rfl, wd1 6 rfl rfl, wd3 69 rfl rfl, ⟨by decide, by decide, by decide +kernel⟩, by decide⟩, wd3 67 rfl rfl, wd3 68 rfl rfl⟩
theorem fX5_61 : zFld RX5 61 10 3 := ⟨RX10, TX10, 6, rfl, by decide, wd1 181 rfl rfl⟩
theorem nX5_64 : Cond.constantLong RX5 64 (112615810885748) ∈ zT := wd3 79 rfl rfl
theorem kX5_66 : zLkV RX5 66 zyX10_isName 1 := ⟨⟨wd3 80 rfl rfl, wd1 6 rfl rfl, wd3 83 rfl rfl, ⟨by decide, by decide, by decide +kernel⟩, by decide⟩, wd3 81 rfl rfl, wd3 82 rfl rfl⟩
theorem kX5_70 : zLkV RX5 70 zyX5_readFlight 0 := ⟨⟨wd3 84 rfl rfl, wd1 7 rfl rfl, wd3 87 rfl rfl, ⟨by decide, by decide, by decide +kernel⟩, by decide⟩, wd3 86 rfl rfl, wd0 4 rfl rfl⟩
theorem nX5_73 : Cond.constantLong RX5 73 (1650811250) ∈ zT := wd3 122 rfl rfl
theorem kX5_75 : zLkV RX5 75 zyX5_readBear 0 := ⟨⟨wd3 123 rfl rfl, wd1 7 rfl rfl, wd3 126 rfl rfl, ⟨by decide, by decide, by decide +kernel⟩, by decide⟩, wd3 125 rfl rfl, wd0 10 rfl rfl⟩
theorem nX5_78 : Cond.constantLong RX5 78 (495874699885) ∈ zT := wd3 127 rfl rfl
theorem kX5_80 : zLkV RX5 80 zyX5_readStorm 0 := ⟨⟨wd3 128 rfl rfl, wd1 7 rfl rfl, wd3 131 rfl rfl, ⟨by decide, by decide, by decide +kernel⟩, by decide⟩, wd3 130 rfl rfl, wd0 11 rfl rfl⟩
theorem kX5_83 : zLkV RX5 83 zyX5_stopAt 1 := ⟨⟨wd3 88 rfl rfl, wd1 7 rfl rfl, wd3 91 rfl rfl, ⟨by decide, by decide, by decide +kernel⟩, by decide⟩, wd3 90 rfl rfl, wd0 5 rfl rfl⟩
theorem kX5_87 : zLkV RX5 87 zyX3_bearInAllSlots 2 := ⟨⟨wd3 137 rfl rfl, wd1 2 rfl rfl, wd3 140 rfl rfl, ⟨by decide, by decide, by decide +kernel⟩, by decide⟩, wd3 138 rfl rfl, wd3 139 rfl rfl⟩
theorem fX5_91 : zFld RX5 91 1 0 := ⟨RX1, TX1, 2, rfl, by decide, wd1 156 rfl rfl⟩
theorem kX5_95 : zLkV RX5 95 zyX2_begin 0 := ⟨⟨wd3 92 rfl rfl, wd1 5 rfl rfl, wd3 95 rfl rfl, ⟨by decide, by decide, by decide +kernel⟩, by decide⟩, wd3 93 rfl rfl, wd3 94 rfl rfl⟩
theorem kX5_100 : zLkV RX5 100 zyX10_advance 0 := ⟨⟨wd3 96 rfl rfl, wd1 6 rfl rfl, wd3 73 rfl rfl, ⟨by decide, by decide, by decide +kernel⟩, by decide⟩, wd3 71 rfl rfl, wd3 72 rfl rfl⟩
theorem kX5_103 : zLkV RX5 103 zyX5_readNumber 2 := ⟨⟨wd3 97 rfl rfl, wd1 7 rfl rfl, wd3 100 rfl rfl, ⟨by decide, by decide, by decide +kernel⟩, by decide⟩, wd3 99 rfl rfl, wd0 6 rfl rfl⟩
theorem gX5_107 : zFldW false RX5 107 2 0 := ⟨RX2, TX2, 10, rfl, by decide, wd1 91 rfl rfl, rfl, fun h => by cases h⟩
theorem gX5_110 : zFldW false RX5 110 2 1 := ⟨RX2, TX2, 10, rfl, by decide, wd1 100 rfl rfl, rfl, fun h => by cases h⟩
theorem gX5_113 : zFldW false RX5 113 2 2 := ⟨RX2, TX2, 10, rfl, by decide, wd1 105 rfl rfl, rfl, fun h => by cases h⟩
theorem gX5_116 : zFldW false RX5 116 2 3 := ⟨RX2, TX2, 10, rfl, by decide, wd1 108 rfl rfl, rfl, fun h => by cases h⟩
theorem kX5_119 : zLkV RX5 119 zyX5_readWays 1 := ⟨⟨wd3 101 rfl rfl, wd1 7 rfl rfl, wd3 104 rfl rfl, ⟨by decide, by decide, by decide +kernel⟩, by decide⟩, wd3 103 rfl rfl, wd0 7 rfl rfl⟩
theorem kX5_123 : zLkV RX5 123 zyX5_readSemicolon 0 := ⟨⟨wd3 118 rfl rfl, wd1 7 rfl rfl, wd3 121 rfl rfl, ⟨by decide, by decide, by decide +kernel⟩, by decide⟩, wd3 120 rfl rfl, wd0 9 rfl rfl⟩
theorem nX5_126 : Cond.constantLong RX5 126 (7823737) ∈ zT := wd3 105 rfl rfl
theorem kX5_128 : zLkV RX5 128 zyX2_addWay 0 := ⟨⟨wd3 106 rfl rfl, wd1 5 rfl rfl, wd3 109 rfl rfl, ⟨by decide, by decide, by decide +kernel⟩, by decide⟩, wd3 107 rfl rfl, wd3 108 rfl rfl⟩
theorem kX5_131 : zLkV RX5 131 zyX5_readLegs 1 := ⟨⟨wd3 110 rfl rfl, wd1 7 rfl rfl, wd3 113 rfl rfl, ⟨by decide, by decide, by decide +kernel⟩, by decide⟩, wd3 112 rfl rfl, wd0 8 rfl rfl⟩
theorem kX5_134 : zLkV RX5 134 zyX2_addLegToLastWay 2 := ⟨⟨wd3 114 rfl rfl, wd1 5 rfl rfl, wd3 117 rfl rfl, ⟨by decide, by decide, by decide +kernel⟩, by decide⟩, wd3 115 rfl rfl, wd3 116 rfl rfl⟩
theorem fX5_137 : zFld RX5 137 3 2 := ⟨RX3, TX3, 9, rfl, by decide, wd1 43 rfl rfl⟩
theorem fX5_140 : zFld RX5 140 3 3 := ⟨RX3, TX3, 9, rfl, by decide, wd1 45 rfl rfl⟩
theorem fX5_143 : zFld RX5 143 3 4 := ⟨RX3, TX3, 9, rfl, by decide, wd1 47 rfl rfl⟩
theorem fX5_146 : zFld RX5 146 3 5 := ⟨RX3, TX3, 9, rfl, by decide, wd1 49 rfl rfl⟩
theorem fX5_149 : zFld RX5 149 3 6 := ⟨RX3, TX3, 9, rfl, by decide, wd1 51 rfl rfl⟩
theorem fX5_152 : zFld RX5 152 10 5 := ⟨RX10, TX10, 6, rfl, by decide, wd1 185 rfl rfl⟩
theorem fX5_156 : zFld RX5 156 10 4 := ⟨RX10, TX10, 6, rfl, by decide, wd1 183 rfl rfl⟩
theorem oX6_3 : Cond.methodLink RX6 3 objectInit ∈ zT := wd2 54 rfl rfl
theorem fX6_9 : zFld RX6 9 6 2 := ⟨RX6, TX6, 9, rfl, by decide, wd2 58 rfl rfl⟩
theorem gX6_9 : zFldW true RX6 9 6 2 := ⟨RX6, TX6, 9, rfl, by decide, wd2 58 rfl rfl, rfl, fun _ => rfl⟩
theorem fX6_15 : zFld RX6 15 6 3 := ⟨RX6, TX6, 9, rfl, by decide, wd2 59 rfl rfl⟩
theorem gX6_15 : zFldW true RX6 15 6 3 := ⟨RX6, TX6, 9, rfl, by decide, wd2 59 rfl rfl, rfl, fun _ => rfl⟩
theorem fX6_18 : zFld RX6 18 6 4 := ⟨RX6, TX6, 9, rfl, by decide, wd2 60 rfl rfl⟩
theorem gX6_18 : zFldW true RX6 18 6 4 := ⟨RX6, TX6, 9, rfl, by decide, wd2 60 rfl rfl, rfl, fun _ => rfl⟩
theorem fX6_21 : zFld RX6 21 6 5 := ⟨RX6, TX6, 9, rfl, by decide, wd2 61 rfl rfl⟩
theorem gX6_21 : zFldW true RX6 21 6 5 := ⟨RX6, TX6, 9, rfl, by decide, wd2 61 rfl rfl, rfl, fun _ => rfl⟩
theorem fX6_24 : zFld RX6 24 6 6 := ⟨RX6, TX6, 9, rfl, by decide, wd2 62 rfl rfl⟩
theorem gX6_24 : zFldW true RX6 24 6 6 := ⟨RX6, TX6, 9, rfl, by decide, wd2 62 rfl rfl, rfl, fun _ => rfl⟩
theorem fX6_27 : zFld RX6 27 6 7 := ⟨RX6, TX6, 9, rfl, by decide, wd2 63 rfl rfl⟩
theorem gX6_27 : zFldW false RX6 27 6 7 := ⟨RX6, TX6, 9, rfl, by decide, wd2 63 rfl rfl, rfl, fun h => by cases h⟩
theorem nX6_31 : Cond.constant RX6 31 (100000000) ∈ zT := wd2 55 rfl rfl
theorem fX6_32 : zFld RX6 32 6 8 := ⟨RX6, TX6, 9, rfl, by decide, wd2 64 rfl rfl⟩
theorem gX6_32 : zFldW false RX6 32 6 8 := ⟨RX6, TX6, 9, rfl, by decide, wd2 64 rfl rfl, rfl, fun h => by cases h⟩
theorem fX6_35 : zFld RX6 35 6 0 := ⟨RX6, TX6, 9, rfl, by decide, wd2 56 rfl rfl⟩
theorem gX6_35 : zFldW true RX6 35 6 0 := ⟨RX6, TX6, 9, rfl, by decide, wd2 56 rfl rfl, rfl, fun _ => rfl⟩
theorem fX6_39 : zFld RX6 39 6 1 := ⟨RX6, TX6, 9, rfl, by decide, wd2 57 rfl rfl⟩
theorem gX6_39 : zFldW true RX6 39 6 1 := ⟨RX6, TX6, 9, rfl, by decide, wd2 57 rfl rfl, rfl, fun _ => rfl⟩
theorem fX6_43 : zFld RX6 43 8 3 := ⟨RX8, TX8, 5, rfl, by decide, wd2 5 rfl rfl⟩
theorem fX6_48 : zFld RX6 48 8 2 := ⟨RX8, TX8, 5, rfl, by decide, wd2 1 rfl rfl⟩
theorem fX6_51 : zFld RX6 51 1 1 := ⟨RX1, TX1, 2, rfl, by decide, wd1 162 rfl rfl⟩
theorem fX6_56 : zFld RX6 56 1 0 := ⟨RX1, TX1, 2, rfl, by decide, wd1 155 rfl rfl⟩
theorem fX6_60 : zFld RX6 60 2 8 := ⟨RX2, TX2, 10, rfl, by decide, wd1 122 rfl rfl⟩
theorem gX6_60 : zFldW false RX6 60 2 8 := ⟨RX2, TX2, 10, rfl, by decide, wd1 122 rfl rfl, rfl, fun h => by cases h⟩
theorem fX6_65 : zFld RX6 65 2 9 := ⟨RX2, TX2, 10, rfl, by decide, wd1 128 rfl rfl⟩
theorem gX6_65 : zFldW false RX6 65 2 9 := ⟨RX2, TX2, 10, rfl, by decide, wd1 128 rfl rfl, rfl, fun h => by cases h⟩
theorem fX6_68 : zFld RX6 68 2 1 := ⟨RX2, TX2, 10, rfl, by decide, wd1 98 rfl rfl⟩
theorem kX6_71 : zLkV RX6 71 zyX6_changeFreeRoom 4 := ⟨⟨wd4 88 rfl rfl, wd1 10 rfl rfl, wd4 91 rfl rfl, ⟨by decide, by decide, by decide +kernel⟩, by decide⟩, wd4 90 rfl rfl, wd0 21 rfl rfl⟩
theorem kX6_75 : zLkV RX6 75 zyX6_search 2 := ⟨⟨wd4 93 rfl rfl, wd1 10 rfl rfl, wd4 96 rfl rfl, ⟨by decide, by decide, by decide +kernel⟩, by decide⟩, wd4 95 rfl rfl, wd0 22 rfl rfl⟩
theorem qX6_79 : Cond.methodLink RX6 79 arraycopyName ∈ zT := wd4 97 rfl rfl
theorem kX6_85 : zLkV RX6 85 zyX6_leastCostFrom 1 := ⟨⟨wd4 98 rfl rfl, wd1 10 rfl rfl, wd4 101 rfl rfl, ⟨by decide, by decide, by decide +kernel⟩, by decide⟩, wd4 100 rfl rfl, wd0 23 rfl rfl⟩
theorem fX6_89 : zFld RX6 89 2 4 := ⟨RX2, TX2, 10, rfl, by decide, wd1 111 rfl rfl⟩
theorem kX6_92 : zLkV RX6 92 zyX2_costOf 2 := ⟨⟨wd4 106 rfl rfl, wd1 5 rfl rfl, wd3 160 rfl rfl, ⟨by decide, by decide, by decide +kernel⟩, by decide⟩, wd3 158 rfl rfl, wd3 159 rfl rfl⟩
theorem kX6_96 : zLkV RX6 96 zyX6_fits 3 := ⟨⟨wd4 107 rfl rfl, wd1 10 rfl rfl, wd4 110 rfl rfl, ⟨by decide, by decide, by decide +kernel⟩, by decide⟩, wd4 109 rfl rfl, wd0 25 rfl rfl⟩
theorem kX6_100 : zLkV RX6 100 zyX6_leastCostAlone 1 := ⟨⟨wd4 102 rfl rfl, wd1 10 rfl rfl, wd4 105 rfl rfl, ⟨by decide, by decide, by decide +kernel⟩, by decide⟩, wd4 104 rfl rfl, wd0 24 rfl rfl⟩
theorem kX6_104 : zLkV RX6 104 zyX2_walk 3 := ⟨⟨wd4 92 rfl rfl, wd1 5 rfl rfl, wd3 203 rfl rfl, ⟨by decide, by decide, by decide +kernel⟩, by decide⟩, wd3 201 rfl rfl, wd3 202 rfl rfl⟩
theorem oX7_3 : Cond.methodLink RX7 3 objectInit ∈ zT := wd2 128 rfl rfl
theorem fX7_11 : zFld RX7 11 7 0 := ⟨RX7, TX7, 3, rfl, by decide, wd2 129 rfl rfl⟩
theorem gX7_11 : zFldW false RX7 11 7 0 := ⟨RX7, TX7, 3, rfl, by decide, wd2 129 rfl rfl, rfl, fun h => by cases h⟩
theorem fX7_15 : zFld RX7 15 7 1 := ⟨RX7, TX7, 3, rfl, by decide, wd2 131 rfl rfl⟩
theorem gX7_15 : zFldW false RX7 15 7 1 := ⟨RX7, TX7, 3, rfl, by decide, wd2 131 rfl rfl, rfl, fun h => by cases h⟩
theorem fX7_18 : zFld RX7 18 7 2 := ⟨RX7, TX7, 3, rfl, by decide, wd2 132 rfl rfl⟩
theorem gX7_18 : zFldW true RX7 18 7 2 := ⟨RX7, TX7, 3, rfl, by decide, wd2 132 rfl rfl, rfl, fun _ => rfl⟩
theorem kX7_22 : zLkS RX7 22 zyJ7_fill_53178 2 := ⟨⟨wd2 196 rfl rfl, wd1 3 rfl rfl, wd1 36 rfl rfl, ⟨by decide, by decide, by decide +kernel⟩, by decide⟩, wd1 35 rfl rfl⟩
theorem kX7_28 : zLkV RX7 28 zyX7_isMissing 0 := ⟨⟨wd2 209 rfl rfl, wd1 13 rfl rfl, wd2 212 rfl rfl, ⟨by decide, by decide, by decide +kernel⟩, by decide⟩, wd2 210 rfl rfl, wd2 211 rfl rfl⟩
theorem kX7_32 : zLkV RX7 32 zyX7_hasPlaces 2 := ⟨⟨wd2 213 rfl rfl, wd1 13 rfl rfl, wd2 216 rfl rfl, ⟨by decide, by decide, by decide +kernel⟩, by decide⟩, wd2 214 rfl rfl, wd2 215 rfl rfl⟩
theorem oX8_3 : Cond.methodLink RX8 3 objectInit ∈ zT := wd1 237 rfl rfl
theorem fX8_9 : zFld RX8 9 8 2 := ⟨RX8, TX8, 5, rfl, by decide, wd2 0 rfl rfl⟩
theorem gX8_9 : zFldW true RX8 9 8 2 := ⟨RX8, TX8, 5, rfl, by decide, wd2 0 rfl rfl, rfl, fun _ => rfl⟩
theorem fX8_15 : zFld RX8 15 8 3 := ⟨RX8, TX8, 5, rfl, by decide, wd2 4 rfl rfl⟩
theorem gX8_15 : zFldW true RX8 15 8 3 := ⟨RX8, TX8, 5, rfl, by decide, wd2 4 rfl rfl, rfl, fun _ => rfl⟩
theorem fX8_18 : zFld RX8 18 8 4 := ⟨RX8, TX8, 5, rfl, by decide, wd2 7 rfl rfl⟩
theorem gX8_18 : zFldW true RX8 18 8 4 := ⟨RX8, TX8, 5, rfl, by decide, wd2 7 rfl rfl, rfl, fun _ => rfl⟩
theorem fX8_21 : zFld RX8 21 8 0 := ⟨RX8, TX8, 5, rfl, by decide, wd1 238 rfl rfl⟩
theorem gX8_21 : zFldW true RX8 21 8 0 := ⟨RX8, TX8, 5, rfl, by decide, wd1 238 rfl rfl, rfl, fun _ => rfl⟩
theorem fX8_25 : zFld RX8 25 8 1 := ⟨RX8, TX8, 5, rfl, by decide, wd1 239 rfl rfl⟩
theorem gX8_25 : zFldW true RX8 25 8 1 := ⟨RX8, TX8, 5, rfl, by decide, wd1 239 rfl rfl, rfl, fun _ => rfl⟩
theorem kX8_29 : zLkV RX8 29 zyX3_fillSafe 1 := ⟨⟨wd3 190 rfl rfl, wd1 2 rfl rfl, wd3 193 rfl rfl, ⟨by decide, by decide, by decide +kernel⟩, by decide⟩, wd3 191 rfl rfl, wd3 192 rfl rfl⟩
theorem kX8_35 : zLkS RX8 35 zyJ7_fill_53178 2 := ⟨⟨wd3 199 rfl rfl, wd1 3 rfl rfl, wd1 36 rfl rfl, ⟨by decide, by decide, by decide +kernel⟩, by decide⟩, wd1 35 rfl rfl⟩
theorem fX8_41 : zFld RX8 41 1 1 := ⟨RX1, TX1, 2, rfl, by decide, wd1 161 rfl rfl⟩
theorem fX8_47 : zFld RX8 47 1 0 := ⟨RX1, TX1, 2, rfl, by decide, wd1 154 rfl rfl⟩
theorem fX8_51 : zFld RX8 51 2 8 := ⟨RX2, TX2, 10, rfl, by decide, wd1 121 rfl rfl⟩
theorem fX8_56 : zFld RX8 56 2 9 := ⟨RX2, TX2, 10, rfl, by decide, wd1 127 rfl rfl⟩
theorem kX8_59 : zLkV RX8 59 zyX2_walk 3 := ⟨⟨wd3 200 rfl rfl, wd1 5 rfl rfl, wd3 203 rfl rfl, ⟨by decide, by decide, by decide +kernel⟩, by decide⟩, wd3 201 rfl rfl, wd3 202 rfl rfl⟩
theorem fX8_63 : zFld RX8 63 2 1 := ⟨RX2, TX2, 10, rfl, by decide, wd1 97 rfl rfl⟩
theorem qX8_66 : Cond.methodLink RX8 66 Lib.Math.max.name ∈ zT := wd3 208 rfl rfl
theorem kX8_72 : zLkV RX8 72 zyX8_tooMuchIn 1 := ⟨⟨wd3 219 rfl rfl, wd1 8 rfl rfl, wd3 207 rfl rfl, ⟨by decide, by decide, by decide +kernel⟩, by decide⟩, wd3 205 rfl rfl, wd3 206 rfl rfl⟩
theorem oX9_5 : Cond.methodLink RX9 5 objectInit ∈ zT := wd2 24 rfl rfl
theorem fX9_11 : zFld RX9 11 9 2 := ⟨RX9, TX9, 7, rfl, by decide, wd2 27 rfl rfl⟩
theorem gX9_11 : zFldW true RX9 11 9 2 := ⟨RX9, TX9, 7, rfl, by decide, wd2 27 rfl rfl, rfl, fun _ => rfl⟩
theorem fX9_15 : zFld RX9 15 9 3 := ⟨RX9, TX9, 7, rfl, by decide, wd2 28 rfl rfl⟩
theorem gX9_15 : zFldW true RX9 15 9 3 := ⟨RX9, TX9, 7, rfl, by decide, wd2 28 rfl rfl, rfl, fun _ => rfl⟩
theorem fX9_18 : zFld RX9 18 9 4 := ⟨RX9, TX9, 7, rfl, by decide, wd2 29 rfl rfl⟩
theorem gX9_18 : zFldW true RX9 18 9 4 := ⟨RX9, TX9, 7, rfl, by decide, wd2 29 rfl rfl, rfl, fun _ => rfl⟩
theorem fX9_21 : zFld RX9 21 9 5 := ⟨RX9, TX9, 7, rfl, by decide, wd2 30 rfl rfl⟩
theorem gX9_21 : zFldW true RX9 21 9 5 := ⟨RX9, TX9, 7, rfl, by decide, wd2 30 rfl rfl, rfl, fun _ => rfl⟩
theorem gX9_24 : zFldW false RX9 24 9 6 := ⟨RX9, TX9, 7, rfl, by decide, wd2 32 rfl rfl, rfl, fun h => by cases h⟩
theorem fX9_28 : zFld RX9 28 9 0 := ⟨RX9, TX9, 7, rfl, by decide, wd2 25 rfl rfl⟩
theorem gX9_28 : zFldW true RX9 28 9 0 := ⟨RX9, TX9, 7, rfl, by decide, wd2 25 rfl rfl, rfl, fun _ => rfl⟩
theorem fX9_32 : zFld RX9 32 9 1 := ⟨RX9, TX9, 7, rfl, by decide, wd2 26 rfl rfl⟩
theorem gX9_32 : zFldW true RX9 32 9 1 := ⟨RX9, TX9, 7, rfl, by decide, wd2 26 rfl rfl, rfl, fun _ => rfl⟩
theorem kX9_36 : zLkS RX9 36 zyJ7_fill_53178 2 := ⟨⟨wd4 43 rfl rfl, wd1 3 rfl rfl, wd1 36 rfl rfl, ⟨by decide, by decide, by decide +kernel⟩, by decide⟩, wd1 35 rfl rfl⟩
theorem kX9_42 : zLkV RX9 42 zyX9_weighSlot 1 := ⟨⟨wd4 44 rfl rfl, wd1 9 rfl rfl, wd4 47 rfl rfl, ⟨by decide, by decide, by decide +kernel⟩, by decide⟩, wd4 46 rfl rfl, wd0 16 rfl rfl⟩
theorem qX9_46 : Cond.methodLink RX9 46 arraycopyName ∈ zT := wd4 66 rfl rfl
theorem kX9_52 : zLkV RX9 52 zyX9_addChangesAhead 0 := ⟨⟨wd4 67 rfl rfl, wd1 9 rfl rfl, wd4 70 rfl rfl, ⟨by decide, by decide, by decide +kernel⟩, by decide⟩, wd4 69 rfl rfl, wd0 19 rfl rfl⟩
theorem kX9_55 : zLkV RX9 55 zyX9_bestSetBehind 2 := ⟨⟨wd4 71 rfl rfl, wd1 9 rfl rfl, wd4 74 rfl rfl, ⟨by decide, by decide, by decide +kernel⟩, by decide⟩, wd4 73 rfl rfl, wd0 20 rfl rfl⟩
theorem kX9_59 : zLkN RX9 59 zyX11_cellOf 2 := ⟨List.mem_of_getElem? (i := 4) rfl, wd1 1 rfl rfl, wd3 13 rfl rfl, ⟨by decide, by decide, by decide +kernel⟩, by decide⟩
theorem ksX9_59 : Cond.static zyX11_cellOf.1 ∈ zT := wd3 12 rfl rfl
theorem kX9_62 : zLkV RX9 62 zyX8_tooMuchIn 1 := ⟨⟨wd4 49 rfl rfl, wd1 8 rfl rfl, wd3 207 rfl rfl, ⟨by decide, by decide, by decide +kernel⟩, by decide⟩, wd3 205 rfl rfl, wd3 206 rfl rfl⟩
theorem kX9_68 : zLkV RX9 68 zyX9_fillRelieved 1 := ⟨⟨wd4 50 rfl rfl, wd1 9 rfl rfl, wd4 53 rfl rfl, ⟨by decide, by decide, by decide +kernel⟩, by decide⟩, wd4 52 rfl rfl, wd0 17 rfl rfl⟩
theorem kX9_71 : zLkS RX9 71 zyJ6_bitCount_0f7a4 1 := ⟨⟨wd4 59 rfl rfl, wd1 17 rfl rfl, wd4 61 rfl rfl, ⟨by decide, by decide, by decide +kernel⟩, by decide⟩, wd4 60 rfl rfl⟩
theorem fX9_76 : zFld RX9 76 3 1 := ⟨RX3, TX3, 9, rfl, by decide, wd1 40 rfl rfl⟩
theorem nX9_81 : Cond.constant RX9 81 (100000000) ∈ zT := wd4 65 rfl rfl
theorem kX9_82 : zLkV RX9 82 zyX9_reliefBySplit 1 := ⟨⟨wd4 54 rfl rfl, wd1 9 rfl rfl, wd4 57 rfl rfl, ⟨by decide, by decide, by decide +kernel⟩, by decide⟩, wd4 56 rfl rfl, wd0 18 rfl rfl⟩
theorem fX9_85 : zFld RX9 85 8 3 := ⟨RX8, TX8, 5, rfl, by decide, wd2 6 rfl rfl⟩
theorem qX9_88 : Cond.methodLink RX9 88 Lib.Math.min.name ∈ zT := wd4 58 rfl rfl
theorem oX10_3 : Cond.methodLink RX10 3 objectInit ∈ zT := wd1 175 rfl rfl
theorem fX10_9 : zFld RX10 9 10 0 := ⟨RX10, TX10, 6, rfl, by decide, wd1 176 rfl rfl⟩
theorem gX10_9 : zFldW true RX10 9 10 0 := ⟨RX10, TX10, 6, rfl, by decide, wd1 176 rfl rfl, rfl, fun _ => rfl⟩
theorem fX10_15 : zFld RX10 15 10 1 := ⟨RX10, TX10, 6, rfl, by decide, wd1 177 rfl rfl⟩
theorem gX10_15 : zFldW false RX10 15 10 1 := ⟨RX10, TX10, 6, rfl, by decide, wd1 177 rfl rfl, rfl, fun h => by cases h⟩
theorem fX10_19 : zFld RX10 19 10 2 := ⟨RX10, TX10, 6, rfl, by decide, wd1 179 rfl rfl⟩
theorem gX10_19 : zFldW false RX10 19 10 2 := ⟨RX10, TX10, 6, rfl, by decide, wd1 179 rfl rfl, rfl, fun h => by cases h⟩
theorem fX10_22 : zFld RX10 22 10 3 := ⟨RX10, TX10, 6, rfl, by decide, wd1 180 rfl rfl⟩
theorem gX10_22 : zFldW false RX10 22 10 3 := ⟨RX10, TX10, 6, rfl, by decide, wd1 180 rfl rfl, rfl, fun h => by cases h⟩
theorem fX10_25 : zFld RX10 25 10 4 := ⟨RX10, TX10, 6, rfl, by decide, wd1 182 rfl rfl⟩
theorem gX10_25 : zFldW false RX10 25 10 4 := ⟨RX10, TX10, 6, rfl, by decide, wd1 182 rfl rfl, rfl, fun h => by cases h⟩
theorem fX10_28 : zFld RX10 28 10 5 := ⟨RX10, TX10, 6, rfl, by decide, wd1 184 rfl rfl⟩
theorem gX10_28 : zFldW false RX10 28 10 5 := ⟨RX10, TX10, 6, rfl, by decide, wd1 184 rfl rfl, rfl, fun h => by cases h⟩
theorem nX10_32 : Cond.constantLong RX10 32 (255) ∈ zT := wd3 55 rfl rfl
theorem kX10_34 : zLkV RX10 34 zyX10_advance 0 := ⟨⟨wd3 70 rfl rfl, wd1 6 rfl rfl, wd3 73 rfl rfl, ⟨by decide, by decide, by decide +kernel⟩, by decide⟩, wd3 71 rfl rfl, wd3 72 rfl rfl⟩
theorem kX10_37 : zLkS RX10 37 zyX10_typeOf 1 := ⟨⟨wd3 74 rfl rfl, wd1 6 rfl rfl, wd3 76 rfl rfl, ⟨by decide, by decide, by decide +kernel⟩, by decide⟩, wd3 75 rfl rfl⟩
theorem nX10_41 : Cond.constantLong RX10 41 (10) ∈ zT := wd3 77 rfl rfl
theorem nX10_43 : Cond.constantLong RX10 43 (48) ∈ zT := wd3 78 rfl rfl
theorem hL_7 : Cond.classLink RL 7 RX11 ∈ zT := wd1 18 rfl rfl
theorem kL_9 : zLkI RL 9 zyX11_init 0 := ⟨⟨wd1 20 rfl rfl, wd1 1 rfl rfl, wd1 22 rfl rfl, ⟨by decide, by decide, by decide +kernel⟩, by decide⟩, wd1 21 rfl rfl, rfl, rfl⟩
theorem hL_10 : Cond.classLink RL 10 RX12 ∈ zT := wd5 38 rfl rfl
theorem kL_12 : zLkI RL 12 zyX12_init 0 := ⟨⟨wd5 39 rfl rfl, wd1 14 rfl rfl, wd5 41 rfl rfl, ⟨by decide, by decide, by decide +kernel⟩, by decide⟩, wd5 40 rfl rfl, rfl, rfl⟩
theorem kL_13 : zLkV RL 13 zyX11_sheet 3 := ⟨⟨wd2 178 rfl rfl, wd1 1 rfl rfl, wd2 181 rfl rfl, ⟨by decide, by decide, by decide +kernel⟩, by decide⟩, wd2 179 rfl rfl, wd2 180 rfl rfl⟩
theorem kL_17 : zLkV RL 17 zyX12_sheet 3 := ⟨⟨wd5 7 rfl rfl, wd1 14 rfl rfl, wd5 10 rfl rfl, ⟨by decide, by decide, by decide +kernel⟩, by decide⟩, wd5 8 rfl rfl, wd5 9 rfl rfl⟩
theorem kL_18 : zLkV RL 18 zyX11_set 3 := ⟨⟨wd2 201 rfl rfl, wd1 1 rfl rfl, wd2 204 rfl rfl, ⟨by decide, by decide, by decide +kernel⟩, by decide⟩, wd2 202 rfl rfl, wd2 203 rfl rfl⟩
theorem kL_21 : zLkV RL 21 zyX12_set 3 := ⟨⟨wd5 26 rfl rfl, wd1 14 rfl rfl, wd5 29 rfl rfl, ⟨by decide, by decide, by decide +kernel⟩, by decide⟩, wd5 27 rfl rfl, wd5 28 rfl rfl⟩
theorem kL_22 : zLkV RL 22 zyX11_copy 5 := ⟨⟨wd2 221 rfl rfl, wd1 1 rfl rfl, wd2 224 rfl rfl, ⟨by decide, by decide, by decide +kernel⟩, by decide⟩, wd2 222 rfl rfl, wd2 223 rfl rfl⟩
theorem kL_26 : zLkV RL 26 zyX12_copy 5 := ⟨⟨wd5 30 rfl rfl, wd1 14 rfl rfl, wd5 33 rfl rfl, ⟨by decide, by decide, by decide +kernel⟩, by decide⟩, wd5 31 rfl rfl, wd5 32 rfl rfl⟩
theorem kL_27 : zLkV RL 27 zyX11_drop 1 := ⟨⟨wd2 230 rfl rfl, wd1 1 rfl rfl, wd2 233 rfl rfl, ⟨by decide, by decide, by decide +kernel⟩, by decide⟩, wd2 231 rfl rfl, wd2 232 rfl rfl⟩
theorem kL_31 : zLkV RL 31 zyX12_drop 1 := ⟨⟨wd5 34 rfl rfl, wd1 14 rfl rfl, wd5 37 rfl rfl, ⟨by decide, by decide, by decide +kernel⟩, by decide⟩, wd5 35 rfl rfl, wd5 36 rfl rfl⟩
theorem kL_32 : zLkV RL 32 zyX11_bears 5 := ⟨⟨wd2 238 rfl rfl, wd1 1 rfl rfl, wd3 1 rfl rfl, ⟨by decide, by decide, by decide +kernel⟩, by decide⟩, wd2 239 rfl rfl, wd3 0 rfl rfl⟩
theorem kL_35 : zLkV RL 35 zyX12_bears 5 := ⟨⟨wd5 170 rfl rfl, wd1 14 rfl rfl, wd5 173 rfl rfl, ⟨by decide, by decide, by decide +kernel⟩, by decide⟩, wd5 171 rfl rfl, wd5 172 rfl rfl⟩
theorem kL_36 : zLkV RL 36 zyX11_staff 4 := ⟨⟨wd3 22 rfl rfl, wd1 1 rfl rfl, wd3 25 rfl rfl, ⟨by decide, by decide, by decide +kernel⟩, by decide⟩, wd3 23 rfl rfl, wd3 24 rfl rfl⟩
theorem kL_40 : zLkV RL 40 zyX12_staff 4 := ⟨⟨wd5 185 rfl rfl, wd1 14 rfl rfl, wd5 188 rfl rfl, ⟨by decide, by decide, by decide +kernel⟩, by decide⟩, wd5 186 rfl rfl, wd5 187 rfl rfl⟩
theorem kL_41 : zLkV RL 41 zyX11_look 1 := ⟨⟨wd3 26 rfl rfl, wd1 1 rfl rfl, wd3 29 rfl rfl, ⟨by decide, by decide, by decide +kernel⟩, by decide⟩, wd3 27 rfl rfl, wd3 28 rfl rfl⟩
theorem kL_44 : zLkV RL 44 zyX12_look 1 := ⟨⟨wd5 189 rfl rfl, wd1 14 rfl rfl, wd5 192 rfl rfl, ⟨by decide, by decide, by decide +kernel⟩, by decide⟩, wd5 190 rfl rfl, wd5 191 rfl rfl⟩
theorem kL_45 : zLkV RL 45 zyX11_safe 3 := ⟨⟨wd3 30 rfl rfl, wd1 1 rfl rfl, wd3 33 rfl rfl, ⟨by decide, by decide, by decide +kernel⟩, by decide⟩, wd3 31 rfl rfl, wd3 32 rfl rfl⟩
theorem kL_48 : zLkV RL 48 zyX12_safe 3 := ⟨⟨wd5 194 rfl rfl, wd1 14 rfl rfl, wd5 197 rfl rfl, ⟨by decide, by decide, by decide +kernel⟩, by decide⟩, wd5 195 rfl rfl, wd5 196 rfl rfl⟩
theorem nL_49 : Cond.constantLong RL 49 (4294967295) ∈ zT := wd6 205 rfl rfl
theorem kL_51 : zLkV RL 51 zyX11_feed 2 := ⟨⟨wd3 47 rfl rfl, wd1 1 rfl rfl, wd3 50 rfl rfl, ⟨by decide, by decide, by decide +kernel⟩, by decide⟩, wd3 48 rfl rfl, wd3 49 rfl rfl⟩
theorem kL_55 : zLkV RL 55 zyX12_feed 2 := ⟨⟨wd5 208 rfl rfl, wd1 14 rfl rfl, wd5 211 rfl rfl, ⟨by decide, by decide, by decide +kernel⟩, by decide⟩, wd5 209 rfl rfl, wd5 210 rfl rfl⟩
theorem kL_56 : zLkV RL 56 zyX11_read 0 := ⟨⟨wd3 57 rfl rfl, wd1 1 rfl rfl, wd3 60 rfl rfl, ⟨by decide, by decide, by decide +kernel⟩, by decide⟩, wd3 58 rfl rfl, wd3 59 rfl rfl⟩
theorem kL_60 : zLkV RL 60 zyX12_read 0 := ⟨⟨wd5 215 rfl rfl, wd1 14 rfl rfl, wd5 218 rfl rfl, ⟨by decide, by decide, by decide +kernel⟩, by decide⟩, wd5 216 rfl rfl, wd5 217 rfl rfl⟩
theorem kL_61 : zLkV RL 61 zyX11_fault 0 := ⟨⟨wd3 141 rfl rfl, wd1 1 rfl rfl, wd3 144 rfl rfl, ⟨by decide, by decide, by decide +kernel⟩, by decide⟩, wd3 142 rfl rfl, wd3 143 rfl rfl⟩
theorem kL_64 : zLkV RL 64 zyX12_fault 0 := ⟨⟨wd6 30 rfl rfl, wd1 14 rfl rfl, wd6 33 rfl rfl, ⟨by decide, by decide, by decide +kernel⟩, by decide⟩, wd6 31 rfl rfl, wd6 32 rfl rfl⟩
theorem kL_65 : zLkV RL 65 zyX11_told 2 := ⟨⟨wd3 145 rfl rfl, wd1 1 rfl rfl, wd3 148 rfl rfl, ⟨by decide, by decide, by decide +kernel⟩, by decide⟩, wd3 146 rfl rfl, wd3 147 rfl rfl⟩
theorem kL_69 : zLkV RL 69 zyX12_told 2 := ⟨⟨wd6 34 rfl rfl, wd1 14 rfl rfl, wd6 37 rfl rfl, ⟨by decide, by decide, by decide +kernel⟩, by decide⟩, wd6 35 rfl rfl, wd6 36 rfl rfl⟩
theorem kL_70 : zLkV RL 70 zyX11_leg 4 := ⟨⟨wd3 161 rfl rfl, wd1 1 rfl rfl, wd3 164 rfl rfl, ⟨by decide, by decide, by decide +kernel⟩, by decide⟩, wd3 162 rfl rfl, wd3 163 rfl rfl⟩
theorem kL_73 : zLkV RL 73 zyX12_leg 4 := ⟨⟨wd6 50 rfl rfl, wd1 14 rfl rfl, wd6 53 rfl rfl, ⟨by decide, by decide, by decide +kernel⟩, by decide⟩, wd6 51 rfl rfl, wd6 52 rfl rfl⟩
theorem kL_74 : zLkV RL 74 zyX11_choose 3 := ⟨⟨wd3 169 rfl rfl, wd1 1 rfl rfl, wd3 172 rfl rfl, ⟨by decide, by decide, by decide +kernel⟩, by decide⟩, wd3 170 rfl rfl, wd3 171 rfl rfl⟩
theorem kL_77 : zLkV RL 77 zyX12_choose 3 := ⟨⟨wd6 55 rfl rfl, wd1 14 rfl rfl, wd6 58 rfl rfl, ⟨by decide, by decide, by decide +kernel⟩, by decide⟩, wd6 56 rfl rfl, wd6 57 rfl rfl⟩
theorem kL_78 : zLkV RL 78 zyX11_at 2 := ⟨⟨wd3 173 rfl rfl, wd1 1 rfl rfl, wd3 176 rfl rfl, ⟨by decide, by decide, by decide +kernel⟩, by decide⟩, wd3 174 rfl rfl, wd3 175 rfl rfl⟩
theorem kL_81 : zLkV RL 81 zyX12_at 2 := ⟨⟨wd6 59 rfl rfl, wd1 14 rfl rfl, wd6 62 rfl rfl, ⟨by decide, by decide, by decide +kernel⟩, by decide⟩, wd6 60 rfl rfl, wd6 61 rfl rfl⟩
theorem kL_82 : zLkV RL 82 zyX11_load 3 := ⟨⟨wd3 182 rfl rfl, wd1 1 rfl rfl, wd3 185 rfl rfl, ⟨by decide, by decide, by decide +kernel⟩, by decide⟩, wd3 183 rfl rfl, wd3 184 rfl rfl⟩
theorem kL_85 : zLkV RL 85 zyX12_load 3 := ⟨⟨wd6 67 rfl rfl, wd1 14 rfl rfl, wd6 70 rfl rfl, ⟨by decide, by decide, by decide +kernel⟩, by decide⟩, wd6 68 rfl rfl, wd6 69 rfl rfl⟩
theorem kL_86 : zLkV RL 86 zyX11_all 1 := ⟨⟨wd3 211 rfl rfl, wd1 1 rfl rfl, wd3 214 rfl rfl, ⟨by decide, by decide, by decide +kernel⟩, by decide⟩, wd3 212 rfl rfl, wd3 213 rfl rfl⟩
theorem kL_89 : zLkV RL 89 zyX12_all 1 := ⟨⟨wd6 79 rfl rfl, wd1 14 rfl rfl, wd6 82 rfl rfl, ⟨by decide, by decide, by decide +kernel⟩, by decide⟩, wd6 80 rfl rfl, wd6 81 rfl rfl⟩
theorem kL_90 : zLkV RL 90 zyX11_known 3 := ⟨⟨wd4 26 rfl rfl, wd1 1 rfl rfl, wd4 29 rfl rfl, ⟨by decide, by decide, by decide +kernel⟩, by decide⟩, wd4 27 rfl rfl, wd4 28 rfl rfl⟩
theorem kL_93 : zLkV RL 93 zyX12_known 3 := ⟨⟨wd6 107 rfl rfl, wd1 14 rfl rfl, wd6 110 rfl rfl, ⟨by decide, by decide, by decide +kernel⟩, by decide⟩, wd6 108 rfl rfl, wd6 109 rfl rfl⟩
theorem kL_94 : zLkV RL 94 zyX11_split 1 := ⟨⟨wd4 35 rfl rfl, wd1 1 rfl rfl, wd4 38 rfl rfl, ⟨by decide, by decide, by decide +kernel⟩, by decide⟩, wd4 36 rfl rfl, wd4 37 rfl rfl⟩
theorem kL_97 : zLkV RL 97 zyX12_split 1 := ⟨⟨wd6 111 rfl rfl, wd1 14 rfl rfl, wd6 114 rfl rfl, ⟨by decide, by decide, by decide +kernel⟩, by decide⟩, wd6 112 rfl rfl, wd6 113 rfl rfl⟩
theorem kL_98 : zLkV RL 98 zyX11_settle 1 := ⟨⟨wd4 75 rfl rfl, wd1 1 rfl rfl, wd4 78 rfl rfl, ⟨by decide, by decide, by decide +kernel⟩, by decide⟩, wd4 76 rfl rfl, wd4 77 rfl rfl⟩
theorem kL_101 : zLkV RL 101 zyX12_settle 1 := ⟨⟨wd6 122 rfl rfl, wd1 14 rfl rfl, wd6 125 rfl rfl, ⟨by decide, by decide, by decide +kernel⟩, by decide⟩, wd6 123 rfl rfl, wd6 124 rfl rfl⟩
theorem kL_102 : zLkV RL 102 zyX11_harmless 2 := ⟨⟨wd4 115 rfl rfl, wd1 1 rfl rfl, wd4 118 rfl rfl, ⟨by decide, by decide, by decide +kernel⟩, by decide⟩, wd4 116 rfl rfl, wd4 117 rfl rfl⟩
theorem kL_105 : zLkV RL 105 zyX12_harmless 2 := ⟨⟨wd6 134 rfl rfl, wd1 14 rfl rfl, wd6 137 rfl rfl, ⟨by decide, by decide, by decide +kernel⟩, by decide⟩, wd6 135 rfl rfl, wd6 136 rfl rfl⟩
theorem kL_106 : zLkV RL 106 zyX11_swap 0 := ⟨⟨wd4 127 rfl rfl, wd1 1 rfl rfl, wd4 130 rfl rfl, ⟨by decide, by decide, by decide +kernel⟩, by decide⟩, wd4 128 rfl rfl, wd4 129 rfl rfl⟩
theorem kL_109 : zLkV RL 109 zyX12_swap 0 := ⟨⟨wd6 146 rfl rfl, wd1 14 rfl rfl, wd6 149 rfl rfl, ⟨by decide, by decide, by decide +kernel⟩, by decide⟩, wd6 147 rfl rfl, wd6 148 rfl rfl⟩
theorem kL_110 : zLkV RL 110 zyX11_airline 2 := ⟨⟨wd4 131 rfl rfl, wd1 1 rfl rfl, wd4 134 rfl rfl, ⟨by decide, by decide, by decide +kernel⟩, by decide⟩, wd4 132 rfl rfl, wd4 133 rfl rfl⟩
theorem kL_113 : zLkV RL 113 zyX12_airline 2 := ⟨⟨wd6 150 rfl rfl, wd1 14 rfl rfl, wd6 153 rfl rfl, ⟨by decide, by decide, by decide +kernel⟩, by decide⟩, wd6 151 rfl rfl, wd6 152 rfl rfl⟩
theorem kL_114 : zLkV RL 114 zyX11_kind 1 := ⟨⟨wd4 156 rfl rfl, wd1 1 rfl rfl, wd4 159 rfl rfl, ⟨by decide, by decide, by decide +kernel⟩, by decide⟩, wd4 157 rfl rfl, wd4 158 rfl rfl⟩
theorem kL_117 : zLkV RL 117 zyX12_kind 1 := ⟨⟨wd6 158 rfl rfl, wd1 14 rfl rfl, wd6 161 rfl rfl, ⟨by decide, by decide, by decide +kernel⟩, by decide⟩, wd6 159 rfl rfl, wd6 160 rfl rfl⟩
theorem kL_118 : zLkV RL 118 zyX11_as 2 := ⟨⟨wd4 168 rfl rfl, wd1 1 rfl rfl, wd4 171 rfl rfl, ⟨by decide, by decide, by decide +kernel⟩, by decide⟩, wd4 169 rfl rfl, wd4 170 rfl rfl⟩
theorem kL_121 : zLkV RL 121 zyX12_as 2 := ⟨⟨wd6 166 rfl rfl, wd1 14 rfl rfl, wd6 169 rfl rfl, ⟨by decide, by decide, by decide +kernel⟩, by decide⟩, wd6 167 rfl rfl, wd6 168 rfl rfl⟩
theorem kL_122 : zLkV RL 122 zyX11_ask 2 := ⟨⟨wd4 177 rfl rfl, wd1 1 rfl rfl, wd4 180 rfl rfl, ⟨by decide, by decide, by decide +kernel⟩, by decide⟩, wd4 178 rfl rfl, wd4 179 rfl rfl⟩
theorem kL_125 : zLkV RL 125 zyX12_ask 2 := ⟨⟨wd6 173 rfl rfl, wd1 14 rfl rfl, wd6 176 rfl rfl, ⟨by decide, by decide, by decide +kernel⟩, by decide⟩, wd6 174 rfl rfl, wd6 175 rfl rfl⟩
theorem kL_126 : zLkV RL 126 zyX11_trace 1 := ⟨⟨wd4 227 rfl rfl, wd1 1 rfl rfl, wd4 230 rfl rfl, ⟨by decide, by decide, by decide +kernel⟩, by decide⟩, wd4 228 rfl rfl, wd4 229 rfl rfl⟩
theorem kL_129 : zLkV RL 129 zyX12_trace 1 := ⟨⟨wd6 193 rfl rfl, wd1 14 rfl rfl, wd6 196 rfl rfl, ⟨by decide, by decide, by decide +kernel⟩, by decide⟩, wd6 194 rfl rfl, wd6 195 rfl rfl⟩
theorem kL_130 : zLkV RL 130 zyX11_count 1 := ⟨⟨wd4 231 rfl rfl, wd1 1 rfl rfl, wd4 234 rfl rfl, ⟨by decide, by decide, by decide +kernel⟩, by decide⟩, wd4 232 rfl rfl, wd4 233 rfl rfl⟩
theorem kL_133 : zLkV RL 133 zyX12_count 1 := ⟨⟨wd6 197 rfl rfl, wd1 14 rfl rfl, wd6 200 rfl rfl, ⟨by decide, by decide, by decide +kernel⟩, by decide⟩, wd6 198 rfl rfl, wd6 199 rfl rfl⟩
theorem kL_134 : zLkV RL 134 zyX11_status 0 := ⟨⟨wd5 3 rfl rfl, wd1 1 rfl rfl, wd5 6 rfl rfl, ⟨by decide, by decide, by decide +kernel⟩, by decide⟩, wd5 4 rfl rfl, wd5 5 rfl rfl⟩
theorem kL_137 : zLkV RL 137 zyX12_status 0 := ⟨⟨wd6 201 rfl rfl, wd1 14 rfl rfl, wd6 204 rfl rfl, ⟨by decide, by decide, by decide +kernel⟩, by decide⟩, wd6 202 rfl rfl, wd6 203 rfl rfl⟩
theorem gX12_1 : zFldW false RX12 1 12 0 := ⟨RX12, TX12, 42, rfl, by decide, wd5 43 rfl rfl, rfl, fun h => by cases h⟩
theorem fX12_7 : zFld RX12 7 12 1 := ⟨RX12, TX12, 42, rfl, by decide, wd5 44 rfl rfl⟩
theorem gX12_7 : zFldW false RX12 7 12 1 := ⟨RX12, TX12, 42, rfl, by decide, wd5 44 rfl rfl, rfl, fun h => by cases h⟩
theorem nX12_10 : Cond.constant RX12 10 (-1000010) ∈ zT := wd5 25 rfl rfl
theorem nX12_11 : Cond.constantLong RX12 11 (7) ∈ zT := wd5 14 rfl rfl
theorem kX12_13 : zLkS RX12 13 zyX12_in 3 := ⟨⟨wd5 15 rfl rfl, wd1 14 rfl rfl, wd5 17 rfl rfl, ⟨by decide, by decide, by decide +kernel⟩, by decide⟩, wd5 16 rfl rfl⟩
theorem kX12_17 : zLkS RX12 17 zyX12_isSheet 1 := ⟨⟨wd5 11 rfl rfl, wd1 14 rfl rfl, wd5 13 rfl rfl, ⟨by decide, by decide, by decide +kernel⟩, by decide⟩, wd5 12 rfl rfl⟩
theorem nX12_21 : Cond.constantLong RX12 21 (2) ∈ zT := wd5 18 rfl rfl
theorem nX12_23 : Cond.constant RX12 23 (-1000001) ∈ zT := wd5 19 rfl rfl
theorem kX12_24 : zLkV RX12 24 zyX12_found 1 := ⟨⟨wd5 20 rfl rfl, wd1 14 rfl rfl, wd5 24 rfl rfl, ⟨by decide, by decide, by decide +kernel⟩, by decide⟩, wd5 22 rfl rfl, wd0 38 rfl rfl⟩
theorem fX12_28 : zFld RX12 28 12 2 := ⟨RX12, TX12, 42, rfl, by decide, wd5 45 rfl rfl⟩
theorem gX12_28 : zFldW true RX12 28 12 2 := ⟨RX12, TX12, 42, rfl, by decide, wd5 45 rfl rfl, rfl, fun _ => rfl⟩
theorem fX12_32 : zFld RX12 32 12 3 := ⟨RX12, TX12, 42, rfl, by decide, wd5 46 rfl rfl⟩
theorem gX12_32 : zFldW true RX12 32 12 3 := ⟨RX12, TX12, 42, rfl, by decide, wd5 46 rfl rfl, rfl, fun _ => rfl⟩
theorem fX12_35 : zFld RX12 35 12 4 := ⟨RX12, TX12, 42, rfl, by decide, wd5 47 rfl rfl⟩
theorem gX12_35 : zFldW true RX12 35 12 4 := ⟨RX12, TX12, 42, rfl, by decide, wd5 47 rfl rfl, rfl, fun _ => rfl⟩
theorem oX12_38 : Cond.methodLink RX12 38 objectInit ∈ zT := wd5 42 rfl rfl
theorem fX12_44 : zFld RX12 44 12 5 := ⟨RX12, TX12, 42, rfl, by decide, wd5 48 rfl rfl⟩
theorem gX12_44 : zFldW true RX12 44 12 5 := ⟨RX12, TX12, 42, rfl, by decide, wd5 48 rfl rfl, rfl, fun _ => rfl⟩
theorem fX12_47 : zFld RX12 47 12 6 := ⟨RX12, TX12, 42, rfl, by decide, wd5 49 rfl rfl⟩
theorem gX12_47 : zFldW true RX12 47 12 6 := ⟨RX12, TX12, 42, rfl, by decide, wd5 49 rfl rfl, rfl, fun _ => rfl⟩
theorem fX12_50 : zFld RX12 50 12 7 := ⟨RX12, TX12, 42, rfl, by decide, wd5 50 rfl rfl⟩
theorem gX12_50 : zFldW false RX12 50 12 7 := ⟨RX12, TX12, 42, rfl, by decide, wd5 50 rfl rfl, rfl, fun h => by cases h⟩
theorem fX12_53 : zFld RX12 53 12 9 := ⟨RX12, TX12, 42, rfl, by decide, wd5 52 rfl rfl⟩
theorem gX12_53 : zFldW true RX12 53 12 9 := ⟨RX12, TX12, 42, rfl, by decide, wd5 52 rfl rfl, rfl, fun _ => rfl⟩
theorem fX12_56 : zFld RX12 56 12 11 := ⟨RX12, TX12, 42, rfl, by decide, wd5 54 rfl rfl⟩
theorem gX12_56 : zFldW true RX12 56 12 11 := ⟨RX12, TX12, 42, rfl, by decide, wd5 54 rfl rfl, rfl, fun _ => rfl⟩
theorem fX12_59 : zFld RX12 59 12 12 := ⟨RX12, TX12, 42, rfl, by decide, wd5 55 rfl rfl⟩
theorem gX12_59 : zFldW true RX12 59 12 12 := ⟨RX12, TX12, 42, rfl, by decide, wd5 55 rfl rfl, rfl, fun _ => rfl⟩
theorem fX12_62 : zFld RX12 62 12 13 := ⟨RX12, TX12, 42, rfl, by decide, wd5 56 rfl rfl⟩
theorem gX12_62 : zFldW true RX12 62 12 13 := ⟨RX12, TX12, 42, rfl, by decide, wd5 56 rfl rfl, rfl, fun _ => rfl⟩
theorem fX12_65 : zFld RX12 65 12 14 := ⟨RX12, TX12, 42, rfl, by decide, wd5 57 rfl rfl⟩
theorem gX12_65 : zFldW true RX12 65 12 14 := ⟨RX12, TX12, 42, rfl, by decide, wd5 57 rfl rfl, rfl, fun _ => rfl⟩
theorem fX12_68 : zFld RX12 68 12 15 := ⟨RX12, TX12, 42, rfl, by decide, wd5 58 rfl rfl⟩
theorem gX12_68 : zFldW true RX12 68 12 15 := ⟨RX12, TX12, 42, rfl, by decide, wd5 58 rfl rfl, rfl, fun _ => rfl⟩
theorem fX12_71 : zFld RX12 71 12 16 := ⟨RX12, TX12, 42, rfl, by decide, wd5 59 rfl rfl⟩
theorem gX12_71 : zFldW true RX12 71 12 16 := ⟨RX12, TX12, 42, rfl, by decide, wd5 59 rfl rfl, rfl, fun _ => rfl⟩
theorem fX12_74 : zFld RX12 74 12 29 := ⟨RX12, TX12, 42, rfl, by decide, wd5 72 rfl rfl⟩
theorem gX12_74 : zFldW true RX12 74 12 29 := ⟨RX12, TX12, 42, rfl, by decide, wd5 72 rfl rfl, rfl, fun _ => rfl⟩
theorem fX12_77 : zFld RX12 77 12 30 := ⟨RX12, TX12, 42, rfl, by decide, wd5 73 rfl rfl⟩
theorem gX12_77 : zFldW true RX12 77 12 30 := ⟨RX12, TX12, 42, rfl, by decide, wd5 73 rfl rfl, rfl, fun _ => rfl⟩
theorem fX12_80 : zFld RX12 80 12 31 := ⟨RX12, TX12, 42, rfl, by decide, wd5 74 rfl rfl⟩
theorem gX12_80 : zFldW true RX12 80 12 31 := ⟨RX12, TX12, 42, rfl, by decide, wd5 74 rfl rfl, rfl, fun _ => rfl⟩
theorem fX12_83 : zFld RX12 83 12 32 := ⟨RX12, TX12, 42, rfl, by decide, wd5 75 rfl rfl⟩
theorem gX12_83 : zFldW true RX12 83 12 32 := ⟨RX12, TX12, 42, rfl, by decide, wd5 75 rfl rfl, rfl, fun _ => rfl⟩
theorem fX12_86 : zFld RX12 86 12 33 := ⟨RX12, TX12, 42, rfl, by decide, wd5 76 rfl rfl⟩
theorem gX12_86 : zFldW true RX12 86 12 33 := ⟨RX12, TX12, 42, rfl, by decide, wd5 76 rfl rfl, rfl, fun _ => rfl⟩
theorem fX12_89 : zFld RX12 89 12 34 := ⟨RX12, TX12, 42, rfl, by decide, wd5 77 rfl rfl⟩
theorem gX12_89 : zFldW true RX12 89 12 34 := ⟨RX12, TX12, 42, rfl, by decide, wd5 77 rfl rfl, rfl, fun _ => rfl⟩
theorem fX12_92 : zFld RX12 92 12 35 := ⟨RX12, TX12, 42, rfl, by decide, wd5 78 rfl rfl⟩
theorem gX12_92 : zFldW true RX12 92 12 35 := ⟨RX12, TX12, 42, rfl, by decide, wd5 78 rfl rfl, rfl, fun _ => rfl⟩
theorem fX12_95 : zFld RX12 95 12 36 := ⟨RX12, TX12, 42, rfl, by decide, wd5 79 rfl rfl⟩
theorem gX12_95 : zFldW true RX12 95 12 36 := ⟨RX12, TX12, 42, rfl, by decide, wd5 79 rfl rfl, rfl, fun _ => rfl⟩
theorem fX12_98 : zFld RX12 98 12 37 := ⟨RX12, TX12, 42, rfl, by decide, wd5 80 rfl rfl⟩
theorem gX12_98 : zFldW true RX12 98 12 37 := ⟨RX12, TX12, 42, rfl, by decide, wd5 80 rfl rfl, rfl, fun _ => rfl⟩
theorem fX12_101 : zFld RX12 101 12 38 := ⟨RX12, TX12, 42, rfl, by decide, wd5 81 rfl rfl⟩
theorem gX12_101 : zFldW true RX12 101 12 38 := ⟨RX12, TX12, 42, rfl, by decide, wd5 81 rfl rfl, rfl, fun _ => rfl⟩
theorem fX12_104 : zFld RX12 104 12 39 := ⟨RX12, TX12, 42, rfl, by decide, wd5 82 rfl rfl⟩
theorem gX12_104 : zFldW true RX12 104 12 39 := ⟨RX12, TX12, 42, rfl, by decide, wd5 82 rfl rfl, rfl, fun _ => rfl⟩
theorem fX12_107 : zFld RX12 107 12 40 := ⟨RX12, TX12, 42, rfl, by decide, wd5 83 rfl rfl⟩
theorem gX12_107 : zFldW true RX12 107 12 40 := ⟨RX12, TX12, 42, rfl, by decide, wd5 83 rfl rfl, rfl, fun _ => rfl⟩
theorem nX12_110 : Cond.constantLong RX12 110 (47) ∈ zT := wd5 180 rfl rfl
theorem kX12_112 : zLkS RX12 112 zyX12_isRoom 1 := ⟨⟨wd5 174 rfl rfl, wd1 14 rfl rfl, wd5 176 rfl rfl, ⟨by decide, by decide, by decide +kernel⟩, by decide⟩, wd5 175 rfl rfl⟩
theorem kX12_115 : zLkS RX12 115 zyX12_isSlot 1 := ⟨⟨wd5 177 rfl rfl, wd1 14 rfl rfl, wd5 179 rfl rfl, ⟨by decide, by decide, by decide +kernel⟩, by decide⟩, wd5 178 rfl rfl⟩
theorem kX12_118 : zLkV RX12 118 zyX12_lookItems 4 := ⟨⟨wd5 181 rfl rfl, wd1 14 rfl rfl, wd5 184 rfl rfl, ⟨by decide, by decide, by decide +kernel⟩, by decide⟩, wd5 183 rfl rfl, wd0 39 rfl rfl⟩
theorem nX12_122 : Cond.constantLong RX12 122 (15) ∈ zT := wd5 193 rfl rfl
theorem fX12_124 : zFld RX12 124 12 8 := ⟨RX12, TX12, 42, rfl, by decide, wd5 51 rfl rfl⟩
theorem gX12_124 : zFldW false RX12 124 12 8 := ⟨RX12, TX12, 42, rfl, by decide, wd5 51 rfl rfl, rfl, fun h => by cases h⟩
theorem kX12_127 : zLkV RX12 127 zyX12_bearsIn 3 := ⟨⟨wd5 204 rfl rfl, wd1 14 rfl rfl, wd5 207 rfl rfl, ⟨by decide, by decide, by decide +kernel⟩, by decide⟩, wd5 206 rfl rfl, wd0 41 rfl rfl⟩
theorem nX12_131 : Cond.constant RX12 131 (-1000000) ∈ zT := wd5 198 rfl rfl
theorem nX12_132 : Cond.constantLong RX12 132 (3) ∈ zT := wd5 199 rfl rfl
theorem kX12_134 : zLkV RX12 134 zyX12_safeOf 2 := ⟨⟨wd5 200 rfl rfl, wd1 14 rfl rfl, wd5 203 rfl rfl, ⟨by decide, by decide, by decide +kernel⟩, by decide⟩, wd5 202 rfl rfl, wd0 40 rfl rfl⟩
theorem fX12_138 : zFld RX12 138 12 10 := ⟨RX12, TX12, 42, rfl, by decide, wd5 53 rfl rfl⟩
theorem gX12_138 : zFldW false RX12 138 12 10 := ⟨RX12, TX12, 42, rfl, by decide, wd5 53 rfl rfl, rfl, fun h => by cases h⟩
theorem kX12_141 : zLkV RX12 141 zyX12_costBy 3 := ⟨⟨wd6 46 rfl rfl, wd1 14 rfl rfl, wd6 49 rfl rfl, ⟨by decide, by decide, by decide +kernel⟩, by decide⟩, wd6 48 rfl rfl, wd0 54 rfl rfl⟩
theorem nX12_144 : Cond.constantLong RX12 144 (8) ∈ zT := wd5 212 rfl rfl
theorem fX12_146 : zFld RX12 146 12 17 := ⟨RX12, TX12, 42, rfl, by decide, wd5 60 rfl rfl⟩
theorem gX12_146 : zFldW false RX12 146 12 17 := ⟨RX12, TX12, 42, rfl, by decide, wd5 60 rfl rfl, rfl, fun h => by cases h⟩
theorem nX12_149 : Cond.constant RX12 149 (-1000003) ∈ zT := wd5 213 rfl rfl
theorem nX12_150 : Cond.constantLong RX12 150 (255) ∈ zT := wd5 214 rfl rfl
theorem fX12_152 : zFld RX12 152 12 19 := ⟨RX12, TX12, 42, rfl, by decide, wd5 62 rfl rfl⟩
theorem gX12_152 : zFldW false RX12 152 12 19 := ⟨RX12, TX12, 42, rfl, by decide, wd5 62 rfl rfl, rfl, fun h => by cases h⟩
theorem fX12_155 : zFld RX12 155 12 20 := ⟨RX12, TX12, 42, rfl, by decide, wd5 63 rfl rfl⟩
theorem gX12_155 : zFldW false RX12 155 12 20 := ⟨RX12, TX12, 42, rfl, by decide, wd5 63 rfl rfl, rfl, fun h => by cases h⟩
theorem kX12_158 : zLkV RX12 158 zyX12_byteAt 1 := ⟨⟨wd5 223 rfl rfl, wd1 14 rfl rfl, wd5 226 rfl rfl, ⟨by decide, by decide, by decide +kernel⟩, by decide⟩, wd5 225 rfl rfl, wd0 43 rfl rfl⟩
theorem fX12_161 : zFld RX12 161 12 22 := ⟨RX12, TX12, 42, rfl, by decide, wd5 65 rfl rfl⟩
theorem gX12_161 : zFldW false RX12 161 12 22 := ⟨RX12, TX12, 42, rfl, by decide, wd5 65 rfl rfl, rfl, fun h => by cases h⟩
theorem fX12_164 : zFld RX12 164 12 21 := ⟨RX12, TX12, 42, rfl, by decide, wd5 64 rfl rfl⟩
theorem gX12_164 : zFldW false RX12 164 12 21 := ⟨RX12, TX12, 42, rfl, by decide, wd5 64 rfl rfl, rfl, fun h => by cases h⟩
theorem kX12_167 : zLkS RX12 167 zyX12_isLetter 1 := ⟨⟨wd5 227 rfl rfl, wd1 14 rfl rfl, wd5 229 rfl rfl, ⟨by decide, by decide, by decide +kernel⟩, by decide⟩, wd5 228 rfl rfl⟩
theorem kX12_170 : zLkS RX12 170 zyX12_isFigure 1 := ⟨⟨wd5 230 rfl rfl, wd1 14 rfl rfl, wd5 232 rfl rfl, ⟨by decide, by decide, by decide +kernel⟩, by decide⟩, wd5 231 rfl rfl⟩
theorem fX12_173 : zFld RX12 173 12 23 := ⟨RX12, TX12, 42, rfl, by decide, wd5 66 rfl rfl⟩
theorem gX12_173 : zFldW false RX12 173 12 23 := ⟨RX12, TX12, 42, rfl, by decide, wd5 66 rfl rfl, rfl, fun h => by cases h⟩
theorem fX12_176 : zFld RX12 176 12 24 := ⟨RX12, TX12, 42, rfl, by decide, wd5 67 rfl rfl⟩
theorem gX12_176 : zFldW false RX12 176 12 24 := ⟨RX12, TX12, 42, rfl, by decide, wd5 67 rfl rfl, rfl, fun h => by cases h⟩
theorem fX12_179 : zFld RX12 179 12 25 := ⟨RX12, TX12, 42, rfl, by decide, wd5 68 rfl rfl⟩
theorem gX12_179 : zFldW false RX12 179 12 25 := ⟨RX12, TX12, 42, rfl, by decide, wd5 68 rfl rfl, rfl, fun h => by cases h⟩
theorem kX12_182 : zLkV RX12 182 zyX12_bad 1 := ⟨⟨wd5 239 rfl rfl, wd1 14 rfl rfl, wd6 2 rfl rfl, ⟨by decide, by decide, by decide +kernel⟩, by decide⟩, wd6 1 rfl rfl, wd0 45 rfl rfl⟩
theorem kX12_186 : zLkV RX12 186 zyX12_step 0 := ⟨⟨wd5 219 rfl rfl, wd1 14 rfl rfl, wd5 222 rfl rfl, ⟨by decide, by decide, by decide +kernel⟩, by decide⟩, wd5 221 rfl rfl, wd0 42 rfl rfl⟩
theorem kX12_189 : zLkV RX12 189 zyX12_need 1 := ⟨⟨wd6 4 rfl rfl, wd1 14 rfl rfl, wd6 7 rfl rfl, ⟨by decide, by decide, by decide +kernel⟩, by decide⟩, wd6 6 rfl rfl, wd0 46 rfl rfl⟩
theorem fX12_193 : zFld RX12 193 12 26 := ⟨RX12, TX12, 42, rfl, by decide, wd5 69 rfl rfl⟩
theorem gX12_193 : zFldW false RX12 193 12 26 := ⟨RX12, TX12, 42, rfl, by decide, wd5 69 rfl rfl, rfl, fun h => by cases h⟩
theorem kX12_196 : zLkV RX12 196 zyX12_numberIn 2 := ⟨⟨wd6 12 rfl rfl, wd1 14 rfl rfl, wd6 15 rfl rfl, ⟨by decide, by decide, by decide +kernel⟩, by decide⟩, wd6 14 rfl rfl, wd0 48 rfl rfl⟩
theorem kX12_199 : zLkV RX12 199 zyX12_is 1 := ⟨⟨wd6 21 rfl rfl, wd1 14 rfl rfl, wd6 24 rfl rfl, ⟨by decide, by decide, by decide +kernel⟩, by decide⟩, wd6 23 rfl rfl, wd0 50 rfl rfl⟩
theorem kX12_202 : zLkV RX12 202 zyX12_word 0 := ⟨⟨wd5 233 rfl rfl, wd1 14 rfl rfl, wd5 236 rfl rfl, ⟨by decide, by decide, by decide +kernel⟩, by decide⟩, wd5 235 rfl rfl, wd0 44 rfl rfl⟩
theorem nX12_206 : Cond.constantLong RX12 206 (7823737) ∈ zT := wd6 16 rfl rfl
theorem kX12_208 : zLkV RX12 208 zyX12_readWay 1 := ⟨⟨wd6 17 rfl rfl, wd1 14 rfl rfl, wd6 20 rfl rfl, ⟨by decide, by decide, by decide +kernel⟩, by decide⟩, wd6 19 rfl rfl, wd0 49 rfl rfl⟩
theorem fX12_211 : zFld RX12 211 12 27 := ⟨RX12, TX12, 42, rfl, by decide, wd5 70 rfl rfl⟩
theorem gX12_211 : zFldW false RX12 211 12 27 := ⟨RX12, TX12, 42, rfl, by decide, wd5 70 rfl rfl, rfl, fun h => by cases h⟩
theorem fX12_214 : zFld RX12 214 12 28 := ⟨RX12, TX12, 42, rfl, by decide, wd5 71 rfl rfl⟩
theorem gX12_214 : zFldW false RX12 214 12 28 := ⟨RX12, TX12, 42, rfl, by decide, wd5 71 rfl rfl, rfl, fun h => by cases h⟩
theorem nX12_217 : Cond.constantLong RX12 217 (112615810885748) ∈ zT := wd5 237 rfl rfl
theorem nX12_219 : Cond.constantLong RX12 219 (495874699885) ∈ zT := wd5 238 rfl rfl
theorem nX12_221 : Cond.constantLong RX12 221 (1650811250) ∈ zT := wd6 3 rfl rfl
theorem kX12_223 : zLkV RX12 223 zyX12_readFlight 0 := ⟨⟨wd6 8 rfl rfl, wd1 14 rfl rfl, wd6 11 rfl rfl, ⟨by decide, by decide, by decide +kernel⟩, by decide⟩, wd6 10 rfl rfl, wd0 47 rfl rfl⟩
theorem kX12_226 : zLkV RX12 226 zyX12_readStorm 0 := ⟨⟨wd6 25 rfl rfl, wd1 14 rfl rfl, wd6 28 rfl rfl, ⟨by decide, by decide, by decide +kernel⟩, by decide⟩, wd6 27 rfl rfl, wd0 51 rfl rfl⟩
theorem fX12_229 : zFld RX12 229 12 18 := ⟨RX12, TX12, 42, rfl, by decide, wd5 61 rfl rfl⟩
theorem gX12_229 : zFldW false RX12 229 12 18 := ⟨RX12, TX12, 42, rfl, by decide, wd5 61 rfl rfl, rfl, fun h => by cases h⟩
theorem nX12_232 : Cond.constant RX12 232 (-1000100) ∈ zT := wd6 29 rfl rfl
theorem kX12_233 : zLkV RX12 233 zyX12_isFlight 1 := ⟨⟨wd6 38 rfl rfl, wd1 14 rfl rfl, wd6 41 rfl rfl, ⟨by decide, by decide, by decide +kernel⟩, by decide⟩, wd6 40 rfl rfl, wd0 52 rfl rfl⟩
theorem kX12_236 : zLkV RX12 236 zyX12_costOf 1 := ⟨⟨wd6 42 rfl rfl, wd1 14 rfl rfl, wd6 45 rfl rfl, ⟨by decide, by decide, by decide +kernel⟩, by decide⟩, wd6 44 rfl rfl, wd0 53 rfl rfl⟩
theorem nX12_239 : Cond.constantLong RX12 239 (4) ∈ zT := wd6 54 rfl rfl
theorem kX12_241 : zLkV RX12 241 zyX12_roomBy 4 := ⟨⟨wd6 63 rfl rfl, wd1 14 rfl rfl, wd6 66 rfl rfl, ⟨by decide, by decide, by decide +kernel⟩, by decide⟩, wd6 65 rfl rfl, wd0 55 rfl rfl⟩
theorem kX12_244 : zLkV RX12 244 zyX12_loadOf 2 := ⟨⟨wd6 71 rfl rfl, wd1 14 rfl rfl, wd6 74 rfl rfl, ⟨by decide, by decide, by decide +kernel⟩, by decide⟩, wd6 73 rfl rfl, wd0 56 rfl rfl⟩
theorem kX12_247 : zLkV RX12 247 zyX12_overOf 2 := ⟨⟨wd6 75 rfl rfl, wd1 14 rfl rfl, wd6 78 rfl rfl, ⟨by decide, by decide, by decide +kernel⟩, by decide⟩, wd6 77 rfl rfl, wd0 57 rfl rfl⟩
theorem kX12_250 : zLkV RX12 250 zyX12_flightsOf 1 := ⟨⟨wd6 96 rfl rfl, wd1 14 rfl rfl, wd6 99 rfl rfl, ⟨by decide, by decide, by decide +kernel⟩, by decide⟩, wd6 98 rfl rfl, wd0 61 rfl rfl⟩
theorem kX12_253 : zLkV RX12 253 zyX12_delaysOf 1 := ⟨⟨wd6 88 rfl rfl, wd1 14 rfl rfl, wd6 91 rfl rfl, ⟨by decide, by decide, by decide +kernel⟩, by decide⟩, wd6 90 rfl rfl, wd0 59 rfl rfl⟩
theorem kX12_256 : zLkV RX12 256 zyX12_give 2 := ⟨⟨wd6 100 rfl rfl, wd1 14 rfl rfl, wd6 103 rfl rfl, ⟨by decide, by decide, by decide +kernel⟩, by decide⟩, wd6 102 rfl rfl, wd0 62 rfl rfl⟩
theorem nX12_260 : Cond.constantLong RX12 260 (5) ∈ zT := wd6 83 rfl rfl
theorem kX12_262 : zLkV RX12 262 zyX12_overAll 0 := ⟨⟨wd6 84 rfl rfl, wd1 14 rfl rfl, wd6 87 rfl rfl, ⟨by decide, by decide, by decide +kernel⟩, by decide⟩, wd6 86 rfl rfl, wd0 58 rfl rfl⟩
theorem kX12_266 : zLkV RX12 266 zyX12_shares 0 := ⟨⟨wd6 92 rfl rfl, wd1 14 rfl rfl, wd6 95 rfl rfl, ⟨by decide, by decide, by decide +kernel⟩, by decide⟩, wd6 94 rfl rfl, wd0 60 rfl rfl⟩
theorem kX12_269 : zLkS RX12 269 zyX12_distance 1 := ⟨⟨wd6 104 rfl rfl, wd1 14 rfl rfl, wd6 106 rfl rfl, ⟨by decide, by decide, by decide +kernel⟩, by decide⟩, wd6 105 rfl rfl⟩
theorem kX12_272 : zLkS RX12 272 zyX12_bits 1 := ⟨⟨wd6 119 rfl rfl, wd1 14 rfl rfl, wd6 121 rfl rfl, ⟨by decide, by decide, by decide +kernel⟩, by decide⟩, wd6 120 rfl rfl⟩
theorem kX12_275 : zLkV RX12 275 zyX12_findSplits 0 := ⟨⟨wd6 115 rfl rfl, wd1 14 rfl rfl, wd6 118 rfl rfl, ⟨by decide, by decide, by decide +kernel⟩, by decide⟩, wd6 117 rfl rfl, wd0 63 rfl rfl⟩
theorem kX12_278 : zLkV RX12 278 zyX12_lay 3 := ⟨⟨wd6 126 rfl rfl, wd1 14 rfl rfl, wd6 129 rfl rfl, ⟨by decide, by decide, by decide +kernel⟩, by decide⟩, wd6 128 rfl rfl, wd0 64 rfl rfl⟩
theorem kX12_282 : zLkV RX12 282 zyX12_fits 2 := ⟨⟨wd6 130 rfl rfl, wd1 14 rfl rfl, wd6 133 rfl rfl, ⟨by decide, by decide, by decide +kernel⟩, by decide⟩, wd6 132 rfl rfl, wd0 65 rfl rfl⟩
theorem kX12_286 : zLkV RX12 286 zyX12_exchange 2 := ⟨⟨wd6 142 rfl rfl, wd1 14 rfl rfl, wd6 145 rfl rfl, ⟨by decide, by decide, by decide +kernel⟩, by decide⟩, wd6 144 rfl rfl, wd0 67 rfl rfl⟩
theorem kX12_289 : zLkV RX12 289 zyX12_isHarmless 2 := ⟨⟨wd6 138 rfl rfl, wd1 14 rfl rfl, wd6 141 rfl rfl, ⟨by decide, by decide, by decide +kernel⟩, by decide⟩, wd6 140 rfl rfl, wd0 66 rfl rfl⟩
theorem kX12_292 : zLkV RX12 292 zyX12_blameOf 1 := ⟨⟨wd6 154 rfl rfl, wd1 14 rfl rfl, wd6 157 rfl rfl, ⟨by decide, by decide, by decide +kernel⟩, by decide⟩, wd6 156 rfl rfl, wd0 68 rfl rfl⟩
theorem kX12_295 : zLkV RX12 295 zyX12_kindOf 1 := ⟨⟨wd6 162 rfl rfl, wd1 14 rfl rfl, wd6 165 rfl rfl, ⟨by decide, by decide, by decide +kernel⟩, by decide⟩, wd6 164 rfl rfl, wd0 69 rfl rfl⟩
theorem kX12_298 : zLkS RX12 298 zyX12_isOf 2 := ⟨⟨wd6 170 rfl rfl, wd1 14 rfl rfl, wd6 172 rfl rfl, ⟨by decide, by decide, by decide +kernel⟩, by decide⟩, wd6 171 rfl rfl⟩
theorem fX12_301 : zFld RX12 301 12 41 := ⟨RX12, TX12, 42, rfl, by decide, wd5 84 rfl rfl⟩
theorem gX12_301 : zFldW false RX12 301 12 41 := ⟨RX12, TX12, 42, rfl, by decide, wd5 84 rfl rfl, rfl, fun h => by cases h⟩
theorem kX12_304 : zLkV RX12 304 zyX12_began 1 := ⟨⟨wd6 181 rfl rfl, wd1 14 rfl rfl, wd6 184 rfl rfl, ⟨by decide, by decide, by decide +kernel⟩, by decide⟩, wd6 183 rfl rfl, wd0 71 rfl rfl⟩
theorem kX12_307 : zLkV RX12 307 zyX12_slotsOf 2 := ⟨⟨wd6 185 rfl rfl, wd1 14 rfl rfl, wd6 188 rfl rfl, ⟨by decide, by decide, by decide +kernel⟩, by decide⟩, wd6 187 rfl rfl, wd0 72 rfl rfl⟩
theorem kX12_310 : zLkV RX12 310 zyX12_markOf 2 := ⟨⟨wd6 189 rfl rfl, wd1 14 rfl rfl, wd6 192 rfl rfl, ⟨by decide, by decide, by decide +kernel⟩, by decide⟩, wd6 191 rfl rfl, wd0 73 rfl rfl⟩
theorem kX12_313 : zLkV RX12 313 zyX12_sizeOf 2 := ⟨⟨wd6 177 rfl rfl, wd1 14 rfl rfl, wd6 180 rfl rfl, ⟨by decide, by decide, by decide +kernel⟩, by decide⟩, wd6 179 rfl rfl, wd0 70 rfl rfl⟩
theorem nJ6_265 : Cond.constant RJ6 265 (1431655765) ∈ zT := wd4 62 rfl rfl
theorem nJ6_266 : Cond.constant RJ6 266 (858993459) ∈ zT := wd4 63 rfl rfl
theorem nJ6_267 : Cond.constant RJ6 267 (252645135) ∈ zT := wd4 64 rfl rfl
theorem q_max_s : Cond.static Lib.Math.max.name ∈ zT := wd3 209 rfl rfl
theorem q_max_c : Cond.code Lib.Math.max.name Lib.Math.max.code 2 (some .int) ∈ zT := wd3 210 rfl rfl
theorem q_min_s : Cond.static Lib.Math.min.name ∈ zT := wd3 45 rfl rfl
theorem q_min_c : Cond.code Lib.Math.min.name Lib.Math.min.code 2 (some .int) ∈ zT := wd3 46 rfl rfl
theorem q_abs_s : Cond.static Lib.Math.abs.name ∈ zT := wd4 16 rfl rfl
theorem q_abs_c : Cond.code Lib.Math.abs.name Lib.Math.abs.code 1 (some .int) ∈ zT := wd4 17 rfl rfl
theorem q_math_i : Cond.initialized "java/lang/Math" ∈ zT := wd1 16 rfl rfl
theorem q_sys_i : Cond.initialized "java/lang/System" ∈ zT := wd1 15 rfl rfl
theorem q_copy_n : Cond.native arraycopyName ∈ zT := wd2 229 rfl rfl
theorem q_copy_s : Cond.static arraycopyName ∈ zT := wd2 228 rfl rfl
theorem o_i : Cond.instanceMethod objectInit ∈ zT := wd1 24 rfl rfl
theorem o_c : Cond.code objectInit ⟨#[0xb1]⟩ 1 none ∈ zT := wd1 25 rfl rfl
theorem q_ai : Cond.arrayClass .int ∈ zT := wd1 76 rfl rfl
