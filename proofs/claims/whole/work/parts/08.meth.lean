def mX0_init : zM := (yX0_init, cX0_init, 2, none, { frames := 1, cells := 2, slots := 16, locals := 20 })
def mX0_unsettle : zM := (yX0_unsettle, cX0_unsettle, 1, none, { frames := 0, cells := 0, slots := 0, locals := 0 })
def mX0_above : zM := (yX0_above, cX0_above, 2, (some .long), { frames := 0, cells := 0, slots := 0, locals := 0 })
def mX0_below : zM := (yX0_below, cX0_below, 2, (some .long), { frames := 0, cells := 0, slots := 0, locals := 0 })
def mX0_findLiving : zM := (yX0_findLiving, cX0_findLiving, 10, none, { frames := 4, cells := 0, slots := 0, locals := 89 })
def mX0_supposeFrosts : zM := (yX0_supposeFrosts, cX0_supposeFrosts, 4, none, { frames := 1, cells := 0, slots := 0, locals := 23 })
def mX0_addToLiving : zM := (yX0_addToLiving, cX0_addToLiving, 4, none, { frames := 1, cells := 0, slots := 0, locals := 21 })
def mX0_reduce : zM := (yX0_reduce, cX0_reduce, 3, none, { frames := 0, cells := 0, slots := 0, locals := 0 })
def mX0_power : zM := (yX0_power, cX0_power, 5, (some .long), { frames := 0, cells := 0, slots := 0, locals := 0 })
def mX0_runYears : zM := (yX0_runYears, cX0_runYears, 8, none, { frames := 4, cells := 0, slots := 0, locals := 89 })
def mX0_lot : zM := (yX0_lot, cX0_lot, 2, (some .int), { frames := 0, cells := 0, slots := 0, locals := 0 })
def mX1_init : zM := (yX1_init, cX1_init, 1, none, { frames := 1, cells := 0, slots := 0, locals := 20 })
def mX1_begin : zM := (yX1_begin, cX1_begin, 1, none, { frames := 0, cells := 0, slots := 0, locals := 0 })
def mX1_goOn : zM := (yX1_goOn, cX1_goOn, 2, (some .boolean), { frames := 0, cells := 0, slots := 0, locals := 0 })
def mX1_takeOutOf : zM := (yX1_takeOutOf, cX1_takeOutOf, 2, none, { frames := 2, cells := 0, slots := 0, locals := 48 })
def mX1_tell : zM := (yX1_tell, cX1_tell, 2, (some .int), { frames := 0, cells := 0, slots := 0, locals := 0 })
def mX2_init : zM := (yX2_init, cX2_init, 2, none, { frames := 1, cells := 3, slots := 1033, locals := 20 })
def mX2_run : zM := (yX2_run, cX2_run, 9, none, { frames := 2, cells := 0, slots := 0, locals := 52 })
def mX2_begin : zM := (yX2_begin, cX2_begin, 3, none, { frames := 1, cells := 0, slots := 0, locals := 23 })
def mX2_monthsOf : zM := (yX2_monthsOf, cX2_monthsOf, 3, (some .int), { frames := 0, cells := 0, slots := 0, locals := 0 })
def mX2_doDeeds : zM := (yX2_doDeeds, cX2_doDeeds, 6, (some .int), { frames := 1, cells := 0, slots := 0, locals := 22 })
def mX2_growth : zM := (yX2_growth, cX2_growth, 3, (some .int), { frames := 0, cells := 0, slots := 0, locals := 0 })
def mX2_moult : zM := (yX2_moult, cX2_moult, 4, none, { frames := 0, cells := 0, slots := 0, locals := 0 })
def mX2_travel : zM := (yX2_travel, cX2_travel, 6, none, { frames := 1, cells := 0, slots := 0, locals := 21 })
def mX2_makeRounds : zM := (yX2_makeRounds, cX2_makeRounds, 7, none, { frames := 1, cells := 0, slots := 0, locals := 26 })
def mX2_woolliestIn : zM := (yX2_woolliestIn, cX2_woolliestIn, 5, (some .int), { frames := 0, cells := 0, slots := 0, locals := 0 })
def mX2_shear : zM := (yX2_shear, cX2_shear, 7, none, { frames := 0, cells := 0, slots := 0, locals := 0 })
def mX2_lives : zM := (yX2_lives, cX2_lives, 2, (some .boolean), { frames := 0, cells := 0, slots := 0, locals := 0 })
def mX2_livesBehind : zM := (yX2_livesBehind, cX2_livesBehind, 3, (some .boolean), { frames := 0, cells := 0, slots := 0, locals := 0 })
def mX2_behind : zM := (yX2_behind, cX2_behind, 3, (some .int), { frames := 0, cells := 0, slots := 0, locals := 0 })
def mX2_deathOf : zM := (yX2_deathOf, cX2_deathOf, 2, (some .int), { frames := 0, cells := 0, slots := 0, locals := 0 })
def mX2_living : zM := (yX2_living, cX2_living, 3, (some .int), { frames := 0, cells := 0, slots := 0, locals := 0 })
def mX2_taxBehind : zM := (yX2_taxBehind, cX2_taxBehind, 4, (some .int), { frames := 1, cells := 0, slots := 0, locals := 22 })
def mX2_heaviestBehind : zM := (yX2_heaviestBehind, cX2_heaviestBehind, 5, (some .int), { frames := 1, cells := 0, slots := 0, locals := 22 })
def mX2_worthInAll : zM := (yX2_worthInAll, cX2_worthInAll, 3, (some .int), { frames := 1, cells := 0, slots := 0, locals := 22 })
def mX3_init : zM := (yX3_init, cX3_init, 2, none, { frames := 3, cells := 25, slots := 1195, locals := 63 })
def mX3_afresh : zM := (yX3_afresh, cX3_afresh, 1, none, { frames := 3, cells := 0, slots := 0, locals := 69 })
def mX4_init : zM := (yX4_init, cX4_init, 2, none, { frames := 2, cells := 2, slots := 450, locals := 40 })
def mX4_unsettle : zM := (yX4_unsettle, cX4_unsettle, 1, none, { frames := 0, cells := 0, slots := 0, locals := 0 })
def mX4_findRound : zM := (yX4_findRound, cX4_findRound, 5, none, { frames := 4, cells := 0, slots := 0, locals := 89 })
def mX4_fewestDeeds : zM := (yX4_fewestDeeds, cX4_fewestDeeds, 5, (some .int), { frames := 4, cells := 0, slots := 0, locals := 89 })
def mX4_measure : zM := (yX4_measure, cX4_measure, 5, none, { frames := 1, cells := 0, slots := 0, locals := 22 })
def mX4_fewestRounds : zM := (yX4_fewestRounds, cX4_fewestRounds, 3, (some .int), { frames := 4, cells := 0, slots := 0, locals := 89 })
def mX4_findHome : zM := (yX4_findHome, cX4_findHome, 4, none, { frames := 4, cells := 0, slots := 0, locals := 89 })
def mX5_init (n : Nat) : zM := (yX5_init, cX5_init, 3, none, { frames := 1, cells := 3, slots := 3 * n, locals := 21 })
def mX5_append : zM := (yX5_append, cX5_append, 4, (some .int), { frames := 0, cells := 0, slots := 0, locals := 0 })
def mX5_cell : zM := (yX5_cell, cX5_cell, 3, (some .int), { frames := 0, cells := 0, slots := 0, locals := 0 })
def mX5_setCell : zM := (yX5_setCell, cX5_setCell, 4, none, { frames := 0, cells := 0, slots := 0, locals := 0 })
def mX5_takeOut : zM := (yX5_takeOut, cX5_takeOut, 3, none, { frames := 1, cells := 0, slots := 0, locals := 26 })
def mX5_become : zM := (yX5_become, cX5_become, 3, none, { frames := 1, cells := 0, slots := 0, locals := 26 })
def mX6_init : zM := (yX6_init, cX6_init, 1, none, { frames := 1, cells := 3, slots := 248, locals := 23 })
def mX6_finding : zM := (yX6_finding, cX6_finding, 2, (some .int), { frames := 0, cells := 0, slots := 0, locals := 0 })
def mX6_isLost : zM := (yX6_isLost, cX6_isLost, 2, (some .boolean), { frames := 0, cells := 0, slots := 0, locals := 0 })
def mX6_length : zM := (yX6_length, cX6_length, 2, (some .int), { frames := 1, cells := 0, slots := 0, locals := 21 })
def mX6_renew : zM := (yX6_renew, cX6_renew, 5, (some .int), { frames := 0, cells := 0, slots := 0, locals := 0 })
def mX6_drop : zM := (yX6_drop, cX6_drop, 2, (some .int), { frames := 1, cells := 0, slots := 0, locals := 21 })
def mX6_holds : zM := (yX6_holds, cX6_holds, 4, (some .boolean), { frames := 2, cells := 0, slots := 0, locals := 42 })
def mX6_alike : zM := (yX6_alike, cX6_alike, 3, (some .boolean), { frames := 1, cells := 0, slots := 0, locals := 21 })
def mX6_faultAt : zM := (yX6_faultAt, cX6_faultAt, 4, (some .int), { frames := 3, cells := 0, slots := 0, locals := 65 })
def mX6_item : zM := (yX6_item, cX6_item, 3, (some .int), { frames := 3, cells := 0, slots := 0, locals := 65 })
def mX6_store : zM := (yX6_store, cX6_store, 4, none, { frames := 3, cells := 0, slots := 0, locals := 65 })
def mX6_move : zM := (yX6_move, cX6_move, 6, none, { frames := 3, cells := 0, slots := 0, locals := 65 })
def mX7_init (n : Nat) : zM := (yX7_init, cX7_init, 5, none, { frames := 1, cells := 1, slots := n, locals := 21 })
def mX7_append : zM := (yX7_append, cX7_append, 2, (some .int), { frames := 0, cells := 0, slots := 0, locals := 0 })
def mX7_faultPlace : zM := (yX7_faultPlace, cX7_faultPlace, 2, (some .int), { frames := 5, cells := 0, slots := 0, locals := 112 })
def mX7_readInto : zM := (yX7_readInto, cX7_readInto, 3, none, { frames := 6, cells := 0, slots := 0, locals := 133 })
def mX7_meaningAt : zM := (yX7_meaningAt, cX7_meaningAt, 2, (some .int), { frames := 4, cells := 0, slots := 0, locals := 91 })
def mX7_signsAt : zM := (yX7_signsAt, cX7_signsAt, 2, (some (.object "java/lang/String")), { frames := 0, cells := 0, slots := 0, locals := 0 })
def mX8_init : zM := (yX8_init, cX8_init, 1, none, { frames := 2, cells := 20, slots := 149, locals := 43 })
def mX8_become : zM := (yX8_become, cX8_become, 2, none, { frames := 2, cells := 0, slots := 0, locals := 48 })
def mX9_init : zM := (yX9_init, cX9_init, 2, none, { frames := 2, cells := 5, slots := 1948, locals := 43 })
def mX9_unsettle : zM := (yX9_unsettle, cX9_unsettle, 1, none, { frames := 0, cells := 0, slots := 0, locals := 0 })
def mX9_survey : zM := (yX9_survey, cX9_survey, 2, none, { frames := 4, cells := 0, slots := 0, locals := 89 })
def mX9_keepWools : zM := (yX9_keepWools, cX9_keepWools, 4, none, { frames := 1, cells := 0, slots := 0, locals := 22 })
def mX9_placeOf : zM := (yX9_placeOf, cX9_placeOf, 3, (some .int), { frames := 0, cells := 0, slots := 0, locals := 0 })
def mX9_fitting : zM := (yX9_fitting, cX9_fitting, 7, (some .int), { frames := 4, cells := 0, slots := 0, locals := 89 })
def mX9_lastSeen : zM := (yX9_lastSeen, cX9_lastSeen, 3, (some .int), { frames := 1, cells := 0, slots := 0, locals := 21 })
def mX9_comesOut : zM := (yX9_comesOut, cX9_comesOut, 3, (some .boolean), { frames := 1, cells := 0, slots := 0, locals := 22 })
def mX9_monthToAsk : zM := (yX9_monthToAsk, cX9_monthToAsk, 6, (some .int), { frames := 3, cells := 0, slots := 0, locals := 72 })
def mX9_mostAlike : zM := (yX9_mostAlike, cX9_mostAlike, 5, (some .int), { frames := 2, cells := 0, slots := 0, locals := 48 })
def mX9_manyLike : zM := (yX9_manyLike, cX9_manyLike, 7, (some .int), { frames := 1, cells := 0, slots := 0, locals := 22 })
def mX10_init : zM := (yX10_init, cX10_init, 1, none, { frames := 4, cells := 71, slots := 5161, locals := 84 })
def mX10_type : zM := (yX10_type, cX10_type, 4, (some .int), { frames := 8, cells := 0, slots := 0, locals := 175 })
def mX10_wipe : zM := (yX10_wipe, cX10_wipe, 3, (some .int), { frames := 8, cells := 0, slots := 0, locals := 175 })
def mX10_undo : zM := (yX10_undo, cX10_undo, 2, (some .int), { frames := 8, cells := 0, slots := 0, locals := 175 })
def mX10_fault : zM := (yX10_fault, cX10_fault, 2, (some .int), { frames := 6, cells := 0, slots := 0, locals := 133 })
def mX10_person : zM := (yX10_person, cX10_person, 3, (some .int), { frames := 2, cells := 0, slots := 0, locals := 43 })
def mX10_deed : zM := (yX10_deed, cX10_deed, 3, (some .int), { frames := 2, cells := 0, slots := 0, locals := 43 })
def mX10_set : zM := (yX10_set, cX10_set, 4, (some .int), { frames := 2, cells := 0, slots := 0, locals := 40 })
def mX10_round : zM := (yX10_round, cX10_round, 4, (some .int), { frames := 2, cells := 0, slots := 0, locals := 42 })
def mX10_journey : zM := (yX10_journey, cX10_journey, 4, (some .int), { frames := 2, cells := 0, slots := 0, locals := 42 })
def mX10_frost : zM := (yX10_frost, cX10_frost, 2, (some .int), { frames := 2, cells := 0, slots := 0, locals := 42 })
def mX10_back : zM := (yX10_back, cX10_back, 3, (some .int), { frames := 2, cells := 0, slots := 0, locals := 40 })
def mX10_read : zM := (yX10_read, cX10_read, 4, (some .int), { frames := 4, cells := 0, slots := 0, locals := 87 })
def mX10_wool : zM := (yX10_wool, cX10_wool, 4, (some .int), { frames := 4, cells := 0, slots := 0, locals := 100 })
def mX10_dies : zM := (yX10_dies, cX10_dies, 2, (some .int), { frames := 4, cells := 0, slots := 0, locals := 100 })
def mX10_cloth : zM := (yX10_cloth, cX10_cloth, 4, (some .int), { frames := 4, cells := 0, slots := 0, locals := 100 })
def mX10_thorn : zM := (yX10_thorn, cX10_thorn, 2, (some .int), { frames := 4, cells := 0, slots := 0, locals := 100 })
def mX10_tax : zM := (yX10_tax, cX10_tax, 2, (some .int), { frames := 4, cells := 0, slots := 0, locals := 100 })
def mX10_heaviest : zM := (yX10_heaviest, cX10_heaviest, 2, (some .int), { frames := 4, cells := 0, slots := 0, locals := 100 })
def mX10_first : zM := (yX10_first, cX10_first, 2, (some .int), { frames := 4, cells := 0, slots := 0, locals := 100 })
def mX10_plan : zM := (yX10_plan, cX10_plan, 3, (some .int), { frames := 5, cells := 0, slots := 0, locals := 113 })
def mX10_light : zM := (yX10_light, cX10_light, 4, (some .int), { frames := 5, cells := 0, slots := 0, locals := 113 })
def mX10_spare : zM := (yX10_spare, cX10_spare, 2, (some .int), { frames := 5, cells := 0, slots := 0, locals := 111 })
def mX10_home : zM := (yX10_home, cX10_home, 3, (some .int), { frames := 5, cells := 0, slots := 0, locals := 112 })
def mX10_seen : zM := (yX10_seen, cX10_seen, 4, (some .int), { frames := 2, cells := 0, slots := 0, locals := 42 })
def mX10_forget : zM := (yX10_forget, cX10_forget, 2, (some .int), { frames := 1, cells := 0, slots := 0, locals := 20 })
def mX10_never : zM := (yX10_never, cX10_never, 1, (some .int), { frames := 5, cells := 0, slots := 0, locals := 110 })
def mX10_was : zM := (yX10_was, cX10_was, 3, (some .int), { frames := 5, cells := 0, slots := 0, locals := 115 })
def mX10_ask : zM := (yX10_ask, cX10_ask, 2, (some .int), { frames := 5, cells := 0, slots := 0, locals := 110 })
def mX10_virtue : zM := (yX10_virtue, cX10_virtue, 5, (some .long), { frames := 5, cells := 0, slots := 0, locals := 118 })
def mX10_years : zM := (yX10_years, cX10_years, 5, (some .int), { frames := 5, cells := 0, slots := 0, locals := 116 })
def mX10_sheet : zM := (yX10_sheet, cX10_sheet, 4, (some .int), { frames := 2, cells := 0, slots := 0, locals := 42 })
def mX10_lose : zM := (yX10_lose, cX10_lose, 2, (some .int), { frames := 2, cells := 0, slots := 0, locals := 42 })
def mX10_put : zM := (yX10_put, cX10_put, 6, (some .int), { frames := 4, cells := 0, slots := 0, locals := 88 })
def mX10_get : zM := (yX10_get, cX10_get, 5, (some .int), { frames := 4, cells := 0, slots := 0, locals := 88 })
def mX10_copy : zM := (yX10_copy, cX10_copy, 6, (some .int), { frames := 4, cells := 0, slots := 0, locals := 90 })
def mX10_write : zM := (yX10_write, cX10_write, 5, (some .int), { frames := 4, cells := 0, slots := 0, locals := 100 })
def mX10_count : zM := (yX10_count, cX10_count, 2, (some .int), { frames := 4, cells := 0, slots := 0, locals := 100 })
def mX10_digest : zM := (yX10_digest, cX10_digest, 5, (some .long), { frames := 7, cells := 0, slots := 0, locals := 170 })
def mX10_digestPerson : zM := (yX10_digestPerson, cX10_digestPerson, 9, (some .long), { frames := 6, cells := 0, slots := 0, locals := 142 })
def mX10_within : zM := (yX10_within, cX10_within, 3, (some .boolean), { frames := 0, cells := 0, slots := 0, locals := 0 })
def mX10_isMonth : zM := (yX10_isMonth, cX10_isMonth, 1, (some .boolean), { frames := 1, cells := 0, slots := 0, locals := 22 })
def mX10_isCounty : zM := (yX10_isCounty, cX10_isCounty, 1, (some .boolean), { frames := 1, cells := 0, slots := 0, locals := 22 })
def mX10_isSheet : zM := (yX10_isSheet, cX10_isSheet, 1, (some .boolean), { frames := 1, cells := 0, slots := 0, locals := 22 })
def mX10_isPerson : zM := (yX10_isPerson, cX10_isPerson, 2, (some .boolean), { frames := 1, cells := 0, slots := 0, locals := 22 })
def mX10_isDeed : zM := (yX10_isDeed, cX10_isDeed, 2, (some .boolean), { frames := 1, cells := 0, slots := 0, locals := 22 })
def mX10_textOf : zM := (yX10_textOf, cX10_textOf, 2, (some (.object "ShornSins$Text")), { frames := 0, cells := 0, slots := 0, locals := 0 })
def mX10_readTexts : zM := (yX10_readTexts, cX10_readTexts, 1, none, { frames := 7, cells := 0, slots := 0, locals := 155 })
def mX10_unsettle : zM := (yX10_unsettle, cX10_unsettle, 1, none, { frames := 1, cells := 0, slots := 0, locals := 20 })
def mX10_settle : zM := (yX10_settle, cX10_settle, 1, none, { frames := 3, cells := 0, slots := 0, locals := 80 })
def mX11_init : zM := (yX11_init, cX11_init, 1, none, { frames := 1, cells := 40, slots := 1641, locals := 20 })
def mX11_in : zM := (yX11_in, cX11_in, 3, (some .boolean), { frames := 0, cells := 0, slots := 0, locals := 0 })
def mX11_isIn : zM := (yX11_isIn, cX11_isIn, 2, (some .boolean), { frames := 0, cells := 0, slots := 0, locals := 0 })
def mX11_no : zM := (yX11_no, cX11_no, 1, (some .long), { frames := 0, cells := 0, slots := 0, locals := 0 })
def mX11_lowest : zM := (yX11_lowest, cX11_lowest, 11, (some .long), { frames := 0, cells := 0, slots := 0, locals := 0 })
def mX11_isText : zM := (yX11_isText, cX11_isText, 1, (some .boolean), { frames := 1, cells := 0, slots := 0, locals := 22 })
def mX11_isMonth : zM := (yX11_isMonth, cX11_isMonth, 1, (some .boolean), { frames := 1, cells := 0, slots := 0, locals := 22 })
def mX11_isCounty : zM := (yX11_isCounty, cX11_isCounty, 1, (some .boolean), { frames := 1, cells := 0, slots := 0, locals := 22 })
def mX11_type : zM := (yX11_type, cX11_type, 3, (some .int), { frames := 2, cells := 0, slots := 0, locals := 42 })
def mX11_wipe : zM := (yX11_wipe, cX11_wipe, 3, (some .int), { frames := 2, cells := 0, slots := 0, locals := 42 })
def mX11_undo : zM := (yX11_undo, cX11_undo, 2, (some .int), { frames := 2, cells := 0, slots := 0, locals := 42 })
def mX11_byteAt : zM := (yX11_byteAt, cX11_byteAt, 3, (some .int), { frames := 0, cells := 0, slots := 0, locals := 0 })
def mX11_readsPerson : zM := (yX11_readsPerson, cX11_readsPerson, 7, (some .int), { frames := 1, cells := 0, slots := 0, locals := 22 })
def mX11_readsDeed : zM := (yX11_readsDeed, cX11_readsDeed, 7, (some .int), { frames := 1, cells := 0, slots := 0, locals := 22 })
def mX11_readsParts : zM := (yX11_readsParts, cX11_readsParts, 6, (some .int), { frames := 2, cells := 0, slots := 0, locals := 48 })
def mX11_faultOf : zM := (yX11_faultOf, cX11_faultOf, 4, (some .int), { frames := 3, cells := 0, slots := 0, locals := 73 })
def mX11_reads : zM := (yX11_reads, cX11_reads, 2, none, { frames := 4, cells := 0, slots := 0, locals := 96 })
def mX11_fault : zM := (yX11_fault, cX11_fault, 2, (some .int), { frames := 4, cells := 0, slots := 0, locals := 96 })
def mX11_isPerson : zM := (yX11_isPerson, cX11_isPerson, 2, (some .boolean), { frames := 5, cells := 0, slots := 0, locals := 117 })
def mX11_isDeed : zM := (yX11_isDeed, cX11_isDeed, 2, (some .boolean), { frames := 5, cells := 0, slots := 0, locals := 117 })
def mX11_personOf : zM := (yX11_personOf, cX11_personOf, 3, (some .int), { frames := 0, cells := 0, slots := 0, locals := 0 })
def mX11_person : zM := (yX11_person, cX11_person, 3, (some .int), { frames := 6, cells := 0, slots := 0, locals := 138 })
def mX11_deedOf : zM := (yX11_deedOf, cX11_deedOf, 3, (some .int), { frames := 0, cells := 0, slots := 0, locals := 0 })
def mX11_deed : zM := (yX11_deed, cX11_deed, 3, (some .int), { frames := 6, cells := 0, slots := 0, locals := 138 })
def mX11_set : zM := (yX11_set, cX11_set, 4, (some .int), { frames := 1, cells := 0, slots := 0, locals := 22 })
def mX11_round : zM := (yX11_round, cX11_round, 4, (some .int), { frames := 2, cells := 0, slots := 0, locals := 42 })
def mX11_journey : zM := (yX11_journey, cX11_journey, 4, (some .int), { frames := 2, cells := 0, slots := 0, locals := 42 })
def mX11_frost : zM := (yX11_frost, cX11_frost, 2, (some .int), { frames := 2, cells := 0, slots := 0, locals := 42 })
def mX11_back : zM := (yX11_back, cX11_back, 3, (some .int), { frames := 1, cells := 0, slots := 0, locals := 22 })
def mX11_read : zM := (yX11_read, cX11_read, 3, (some .int), { frames := 3, cells := 0, slots := 0, locals := 65 })
def mX11_asTold : zM := (yX11_asTold, cX11_asTold, 2, none, { frames := 5, cells := 0, slots := 0, locals := 117 })
def mX11_lives : zM := (yX11_lives, cX11_lives, 2, (some .boolean), { frames := 1, cells := 0, slots := 0, locals := 22 })
def mX11_weightOf : zM := (yX11_weightOf, cX11_weightOf, 1, (some .int), { frames := 0, cells := 0, slots := 0, locals := 0 })
def mX11_grows : zM := (yX11_grows, cX11_grows, 5, none, { frames := 2, cells := 0, slots := 0, locals := 43 })
def mX11_goes : zM := (yX11_goes, cX11_goes, 5, none, { frames := 2, cells := 0, slots := 0, locals := 43 })
def mX11_nextIn : zM := (yX11_nextIn, cX11_nextIn, 5, (some .int), { frames := 2, cells := 0, slots := 0, locals := 43 })
def mX11_shears : zM := (yX11_shears, cX11_shears, 4, none, { frames := 1, cells := 0, slots := 0, locals := 21 })
def mX11_shearsAll : zM := (yX11_shearsAll, cX11_shearsAll, 5, none, { frames := 3, cells := 0, slots := 0, locals := 67 })
def mX11_heaviestNow : zM := (yX11_heaviestNow, cX11_heaviestNow, 3, (some .int), { frames := 2, cells := 0, slots := 0, locals := 43 })
def mX11_keeps : zM := (yX11_keeps, cX11_keeps, 4, none, { frames := 3, cells := 0, slots := 0, locals := 65 })
def mX11_runs : zM := (yX11_runs, cX11_runs, 2, none, { frames := 4, cells := 0, slots := 0, locals := 91 })
def mX11_runsTold : zM := (yX11_runsTold, cX11_runsTold, 1, none, { frames := 6, cells := 0, slots := 0, locals := 138 })
def mX11_woolOf : zM := (yX11_woolOf, cX11_woolOf, 4, (some .int), { frames := 7, cells := 0, slots := 0, locals := 158 })
def mX11_wool : zM := (yX11_wool, cX11_wool, 4, (some .int), { frames := 8, cells := 0, slots := 0, locals := 181 })
def mX11_diesOf : zM := (yX11_diesOf, cX11_diesOf, 2, (some .int), { frames := 7, cells := 0, slots := 0, locals := 158 })
def mX11_dies : zM := (yX11_dies, cX11_dies, 2, (some .int), { frames := 8, cells := 0, slots := 0, locals := 179 })
def mX11_clothOf : zM := (yX11_clothOf, cX11_clothOf, 4, (some .int), { frames := 7, cells := 0, slots := 0, locals := 158 })
def mX11_cloth : zM := (yX11_cloth, cX11_cloth, 4, (some .int), { frames := 8, cells := 0, slots := 0, locals := 181 })
def mX11_thornOf : zM := (yX11_thornOf, cX11_thornOf, 2, (some .int), { frames := 7, cells := 0, slots := 0, locals := 158 })
def mX11_thorn : zM := (yX11_thorn, cX11_thorn, 2, (some .int), { frames := 8, cells := 0, slots := 0, locals := 179 })
def mX11_taxOf : zM := (yX11_taxOf, cX11_taxOf, 2, (some .int), { frames := 7, cells := 0, slots := 0, locals := 158 })
def mX11_tax : zM := (yX11_tax, cX11_tax, 2, (some .int), { frames := 8, cells := 0, slots := 0, locals := 179 })
def mX11_heaviestOf : zM := (yX11_heaviestOf, cX11_heaviestOf, 2, (some .int), { frames := 7, cells := 0, slots := 0, locals := 158 })
def mX11_heaviest : zM := (yX11_heaviest, cX11_heaviest, 2, (some .int), { frames := 8, cells := 0, slots := 0, locals := 179 })
def mX11_firstOf : zM := (yX11_firstOf, cX11_firstOf, 2, (some .int), { frames := 7, cells := 0, slots := 0, locals := 158 })
def mX11_first : zM := (yX11_first, cX11_first, 2, (some .int), { frames := 8, cells := 0, slots := 0, locals := 179 })
def mX11_worthAll : zM := (yX11_worthAll, cX11_worthAll, 3, (some .int), { frames := 0, cells := 0, slots := 0, locals := 0 })
def mX11_planOf : zM := (yX11_planOf, cX11_planOf, 8, (some .int), { frames := 6, cells := 0, slots := 0, locals := 138 })
def mX11_plan : zM := (yX11_plan, cX11_plan, 3, (some .int), { frames := 7, cells := 0, slots := 0, locals := 165 })
def mX11_ofRow : zM := (yX11_ofRow, cX11_ofRow, 3, (some .int), { frames := 0, cells := 0, slots := 0, locals := 0 })
def mX11_isLight : zM := (yX11_isLight, cX11_isLight, 6, (some .boolean), { frames := 5, cells := 0, slots := 0, locals := 112 })
def mX11_lightBy : zM := (yX11_lightBy, cX11_lightBy, 5, (some .int), { frames := 6, cells := 0, slots := 0, locals := 138 })
def mX11_light : zM := (yX11_light, cX11_light, 4, (some .int), { frames := 7, cells := 0, slots := 0, locals := 162 })
def mX11_livesMany : zM := (yX11_livesMany, cX11_livesMany, 3, (some .int), { frames := 2, cells := 0, slots := 0, locals := 43 })
def mX11_isSpared : zM := (yX11_isSpared, cX11_isSpared, 2, (some .boolean), { frames := 5, cells := 0, slots := 0, locals := 112 })
def mX11_spareBy : zM := (yX11_spareBy, cX11_spareBy, 3, (some .int), { frames := 6, cells := 0, slots := 0, locals := 138 })
def mX11_spare : zM := (yX11_spare, cX11_spare, 2, (some .int), { frames := 7, cells := 0, slots := 0, locals := 160 })
def mX11_homeOf : zM := (yX11_homeOf, cX11_homeOf, 7, (some .int), { frames := 6, cells := 0, slots := 0, locals := 138 })
def mX11_home : zM := (yX11_home, cX11_home, 3, (some .int), { frames := 7, cells := 0, slots := 0, locals := 164 })
def mX11_seen : zM := (yX11_seen, cX11_seen, 4, (some .int), { frames := 2, cells := 0, slots := 0, locals := 42 })
def mX11_forget : zM := (yX11_forget, cX11_forget, 2, (some .int), { frames := 0, cells := 0, slots := 0, locals := 0 })
def mX11_isSeen : zM := (yX11_isSeen, cX11_isSeen, 3, (some .boolean), { frames := 5, cells := 0, slots := 0, locals := 112 })
def mX11_neverNow : zM := (yX11_neverNow, cX11_neverNow, 3, (some .int), { frames := 6, cells := 0, slots := 0, locals := 138 })
def mX11_never : zM := (yX11_never, cX11_never, 1, (some .int), { frames := 7, cells := 0, slots := 0, locals := 160 })
def mX11_wasOf : zM := (yX11_wasOf, cX11_wasOf, 7, (some .int), { frames := 6, cells := 0, slots := 0, locals := 138 })
def mX11_was : zM := (yX11_was, cX11_was, 3, (some .int), { frames := 7, cells := 0, slots := 0, locals := 164 })
def mX11_askOf : zM := (yX11_askOf, cX11_askOf, 10, (some .int), { frames := 7, cells := 0, slots := 0, locals := 160 })
def mX11_ask : zM := (yX11_ask, cX11_ask, 2, (some .int), { frames := 8, cells := 0, slots := 0, locals := 189 })
def mX11_virtueOf : zM := (yX11_virtueOf, cX11_virtueOf, 11, (some .long), { frames := 6, cells := 0, slots := 0, locals := 138 })
def mX11_virtue : zM := (yX11_virtue, cX11_virtue, 5, (some .long), { frames := 7, cells := 0, slots := 0, locals := 168 })
def mX11_yearsOf : zM := (yX11_yearsOf, cX11_yearsOf, 6, (some .int), { frames := 6, cells := 0, slots := 0, locals := 138 })
def mX11_years : zM := (yX11_years, cX11_years, 4, (some .int), { frames := 7, cells := 0, slots := 0, locals := 163 })
def mX11_meets : zM := (yX11_meets, cX11_meets, 2, (some .int), { frames := 0, cells := 0, slots := 0, locals := 0 })
def mX11_isSheet : zM := (yX11_isSheet, cX11_isSheet, 1, (some .boolean), { frames := 1, cells := 0, slots := 0, locals := 22 })
def mX11_sheet : zM := (yX11_sheet, cX11_sheet, 5, (some .int), { frames := 2, cells := 0, slots := 0, locals := 42 })
def mX11_lose : zM := (yX11_lose, cX11_lose, 2, (some .int), { frames := 2, cells := 0, slots := 0, locals := 42 })
def mX11_lacks : zM := (yX11_lacks, cX11_lacks, 4, (some .int), { frames := 1, cells := 0, slots := 0, locals := 22 })
def mX11_keep : zM := (yX11_keep, cX11_keep, 4, none, { frames := 0, cells := 0, slots := 0, locals := 0 })
def mX11_put : zM := (yX11_put, cX11_put, 6, (some .int), { frames := 2, cells := 0, slots := 0, locals := 45 })
def mX11_get : zM := (yX11_get, cX11_get, 5, (some .int), { frames := 2, cells := 0, slots := 0, locals := 45 })
def mX11_copy : zM := (yX11_copy, cX11_copy, 7, (some .int), { frames := 2, cells := 0, slots := 0, locals := 42 })
def mX11_write : zM := (yX11_write, cX11_write, 4, (some .int), { frames := 7, cells := 0, slots := 0, locals := 158 })
def mX11_sumOf : zM := (yX11_sumOf, cX11_sumOf, 2, (some .int), { frames := 7, cells := 0, slots := 0, locals := 158 })
def mX11_count : zM := (yX11_count, cX11_count, 2, (some .int), { frames := 8, cells := 0, slots := 0, locals := 179 })
def mX11_monthDigest : zM := (yX11_monthDigest, cX11_monthDigest, 8, (some .long), { frames := 8, cells := 0, slots := 0, locals := 181 })
def mX11_personDigest : zM := (yX11_personDigest, cX11_personDigest, 7, (some .long), { frames := 9, cells := 0, slots := 0, locals := 208 })
def mX11_deedDigest : zM := (yX11_deedDigest, cX11_deedDigest, 7, (some .long), { frames := 7, cells := 0, slots := 0, locals := 164 })
def mX11_countyDigest : zM := (yX11_countyDigest, cX11_countyDigest, 6, (some .long), { frames := 8, cells := 0, slots := 0, locals := 181 })
def mX11_thornDigest : zM := (yX11_thornDigest, cX11_thornDigest, 6, (some .long), { frames := 8, cells := 0, slots := 0, locals := 179 })
def mX11_digest : zM := (yX11_digest, cX11_digest, 4, (some .long), { frames := 10, cells := 0, slots := 0, locals := 234 })
def mJ6_bitCount_0f7a4 : zM := (yJ6_bitCount_0f7a4, cJ6_bitCount_0f7a4, 1, (some .int), { frames := 0, cells := 0, slots := 0, locals := 0 })
def mJ0_length_8abf5 : zM := (yJ0_length_8abf5, cJ0_length_8abf5, 1, (some .int), { frames := 1, cells := 0, slots := 0, locals := 20 })
def mJ0_indexOf_0f7a4 : zM := (yJ0_indexOf_0f7a4, cJ0_indexOf_0f7a4, 2, (some .int), { frames := 3, cells := 0, slots := 0, locals := 70 })
def mJ0_indexOf_7cf53 : zM := (yJ0_indexOf_7cf53, cJ0_indexOf_7cf53, 3, (some .int), { frames := 2, cells := 0, slots := 0, locals := 48 })
def mJ0_coder_7d493 : zM := (yJ0_coder_7d493, cJ0_coder_7d493, 1, (some .byte), { frames := 0, cells := 0, slots := 0, locals := 0 })
def mJ0_isLatin1_aae02 : zM := (yJ0_isLatin1_aae02, cJ0_isLatin1_aae02, 1, (some .boolean), { frames := 0, cells := 0, slots := 0, locals := 0 })
def mJ1_canEncode_9a6ad : zM := (yJ1_canEncode_9a6ad, cJ1_canEncode_9a6ad, 1, (some .boolean), { frames := 0, cells := 0, slots := 0, locals := 0 })
def mJ1_indexOf_4cfef : zM := (yJ1_indexOf_4cfef, cJ1_indexOf_4cfef, 4, (some .int), { frames := 1, cells := 0, slots := 0, locals := 25 })
def mJ1_indexOfChar_4cfef : zM := (yJ1_indexOfChar_4cfef, cJ1_indexOfChar_4cfef, 6, (some .int), { frames := 0, cells := 0, slots := 0, locals := 0 })
def mJ7_fill_d0a16 : zM := (yJ7_fill_d0a16, cJ7_fill_d0a16, 5, none, { frames := 0, cells := 0, slots := 0, locals := 0 })
def mJ7_fill_53178 : zM := (yJ7_fill_53178, cJ7_fill_53178, 4, none, { frames := 0, cells := 0, slots := 0, locals := 0 })
abbrev mL_law : zM := (x, code, 4, ret, room_1)
theorem pn_X0_unsettle : zpn mX0_unsettle := ⟨by decide, by decide⟩
theorem pn_X0_above : zpn mX0_above := ⟨by decide, by decide⟩
theorem pn_X0_below : zpn mX0_below := ⟨by decide, by decide⟩
theorem pn_X0_findLiving : zpn mX0_findLiving := ⟨by decide, by decide⟩
theorem pn_X0_supposeFrosts : zpn mX0_supposeFrosts := ⟨by decide, by decide⟩
theorem pn_X0_addToLiving : zpn mX0_addToLiving := ⟨by decide, by decide⟩
theorem pn_X0_reduce : zpn mX0_reduce := ⟨by decide, by decide⟩
theorem pn_X0_power : zpn mX0_power := ⟨by decide, by decide⟩
theorem pn_X0_runYears : zpn mX0_runYears := ⟨by decide, by decide⟩
theorem pn_X0_lot : zpn mX0_lot := ⟨by decide, by decide⟩
theorem pn_X1_begin : zpn mX1_begin := ⟨by decide, by decide⟩
theorem pn_X1_goOn : zpn mX1_goOn := ⟨by decide, by decide⟩
theorem pn_X1_takeOutOf : zpn mX1_takeOutOf := ⟨by decide, by decide⟩
theorem pn_X1_tell : zpn mX1_tell := ⟨by decide, by decide⟩
theorem pn_X2_run : zpn mX2_run := ⟨by decide, by decide⟩
theorem pn_X2_begin : zpn mX2_begin := ⟨by decide, by decide⟩
theorem pn_X2_monthsOf : zpn mX2_monthsOf := ⟨by decide, by decide⟩
theorem pn_X2_doDeeds : zpn mX2_doDeeds := ⟨by decide, by decide⟩
theorem pn_X2_growth : zpn mX2_growth := ⟨by decide, by decide⟩
theorem pn_X2_moult : zpn mX2_moult := ⟨by decide, by decide⟩
theorem pn_X2_travel : zpn mX2_travel := ⟨by decide, by decide⟩
theorem pn_X2_makeRounds : zpn mX2_makeRounds := ⟨by decide, by decide⟩
theorem pn_X2_woolliestIn : zpn mX2_woolliestIn := ⟨by decide, by decide⟩
theorem pn_X2_shear : zpn mX2_shear := ⟨by decide, by decide⟩
theorem pn_X2_lives : zpn mX2_lives := ⟨by decide, by decide⟩
theorem pn_X2_livesBehind : zpn mX2_livesBehind := ⟨by decide, by decide⟩
theorem pn_X2_behind : zpn mX2_behind := ⟨by decide, by decide⟩
theorem pn_X2_deathOf : zpn mX2_deathOf := ⟨by decide, by decide⟩
theorem pn_X2_living : zpn mX2_living := ⟨by decide, by decide⟩
theorem pn_X2_taxBehind : zpn mX2_taxBehind := ⟨by decide, by decide⟩
theorem pn_X2_heaviestBehind : zpn mX2_heaviestBehind := ⟨by decide, by decide⟩
theorem pn_X2_worthInAll : zpn mX2_worthInAll := ⟨by decide, by decide⟩
theorem pn_X3_afresh : zpn mX3_afresh := ⟨by decide, by decide⟩
theorem pn_X4_unsettle : zpn mX4_unsettle := ⟨by decide, by decide⟩
theorem pn_X4_findRound : zpn mX4_findRound := ⟨by decide, by decide⟩
theorem pn_X4_fewestDeeds : zpn mX4_fewestDeeds := ⟨by decide, by decide⟩
theorem pn_X4_measure : zpn mX4_measure := ⟨by decide, by decide⟩
theorem pn_X4_fewestRounds : zpn mX4_fewestRounds := ⟨by decide, by decide⟩
theorem pn_X4_findHome : zpn mX4_findHome := ⟨by decide, by decide⟩
theorem pn_X5_append : zpn mX5_append := ⟨by decide, by decide⟩
theorem pn_X5_cell : zpn mX5_cell := ⟨by decide, by decide⟩
theorem pn_X5_setCell : zpn mX5_setCell := ⟨by decide, by decide⟩
theorem pn_X5_takeOut : zpn mX5_takeOut := ⟨by decide, by decide⟩
theorem pn_X5_become : zpn mX5_become := ⟨by decide, by decide⟩
theorem pn_X6_finding : zpn mX6_finding := ⟨by decide, by decide⟩
theorem pn_X6_isLost : zpn mX6_isLost := ⟨by decide, by decide⟩
theorem pn_X6_length : zpn mX6_length := ⟨by decide, by decide⟩
theorem pn_X6_renew : zpn mX6_renew := ⟨by decide, by decide⟩
theorem pn_X6_drop : zpn mX6_drop := ⟨by decide, by decide⟩
theorem pn_X6_holds : zpn mX6_holds := ⟨by decide, by decide⟩
theorem pn_X6_alike : zpn mX6_alike := ⟨by decide, by decide⟩
theorem pn_X6_faultAt : zpn mX6_faultAt := ⟨by decide, by decide⟩
theorem pn_X6_item : zpn mX6_item := ⟨by decide, by decide⟩
theorem pn_X6_store : zpn mX6_store := ⟨by decide, by decide⟩
theorem pn_X6_move : zpn mX6_move := ⟨by decide, by decide⟩
theorem pn_X7_append : zpn mX7_append := ⟨by decide, by decide⟩
theorem pn_X7_faultPlace : zpn mX7_faultPlace := ⟨by decide, by decide⟩
theorem pn_X7_readInto : zpn mX7_readInto := ⟨by decide, by decide⟩
theorem pn_X7_meaningAt : zpn mX7_meaningAt := ⟨by decide, by decide⟩
theorem pn_X7_signsAt : zpn mX7_signsAt := ⟨by decide, by decide⟩
theorem pn_X8_become : zpn mX8_become := ⟨by decide, by decide⟩
theorem pn_X9_unsettle : zpn mX9_unsettle := ⟨by decide, by decide⟩
theorem pn_X9_survey : zpn mX9_survey := ⟨by decide, by decide⟩
theorem pn_X9_keepWools : zpn mX9_keepWools := ⟨by decide, by decide⟩
theorem pn_X9_placeOf : zpn mX9_placeOf := ⟨by decide, by decide⟩
theorem pn_X9_fitting : zpn mX9_fitting := ⟨by decide, by decide⟩
theorem pn_X9_lastSeen : zpn mX9_lastSeen := ⟨by decide, by decide⟩
theorem pn_X9_comesOut : zpn mX9_comesOut := ⟨by decide, by decide⟩
theorem pn_X9_monthToAsk : zpn mX9_monthToAsk := ⟨by decide, by decide⟩
theorem pn_X9_mostAlike : zpn mX9_mostAlike := ⟨by decide, by decide⟩
theorem pn_X9_manyLike : zpn mX9_manyLike := ⟨by decide, by decide⟩
theorem pn_X10_type : zpn mX10_type := ⟨by decide, by decide⟩
theorem pn_X10_wipe : zpn mX10_wipe := ⟨by decide, by decide⟩
theorem pn_X10_undo : zpn mX10_undo := ⟨by decide, by decide⟩
theorem pn_X10_fault : zpn mX10_fault := ⟨by decide, by decide⟩
theorem pn_X10_person : zpn mX10_person := ⟨by decide, by decide⟩
theorem pn_X10_deed : zpn mX10_deed := ⟨by decide, by decide⟩
theorem pn_X10_set : zpn mX10_set := ⟨by decide, by decide⟩
theorem pn_X10_round : zpn mX10_round := ⟨by decide, by decide⟩
theorem pn_X10_journey : zpn mX10_journey := ⟨by decide, by decide⟩
theorem pn_X10_frost : zpn mX10_frost := ⟨by decide, by decide⟩
theorem pn_X10_back : zpn mX10_back := ⟨by decide, by decide⟩
theorem pn_X10_read : zpn mX10_read := ⟨by decide, by decide⟩
theorem pn_X10_wool : zpn mX10_wool := ⟨by decide, by decide⟩
theorem pn_X10_dies : zpn mX10_dies := ⟨by decide, by decide⟩
theorem pn_X10_cloth : zpn mX10_cloth := ⟨by decide, by decide⟩
theorem pn_X10_thorn : zpn mX10_thorn := ⟨by decide, by decide⟩
theorem pn_X10_tax : zpn mX10_tax := ⟨by decide, by decide⟩
theorem pn_X10_heaviest : zpn mX10_heaviest := ⟨by decide, by decide⟩
theorem pn_X10_first : zpn mX10_first := ⟨by decide, by decide⟩
theorem pn_X10_plan : zpn mX10_plan := ⟨by decide, by decide⟩
theorem pn_X10_light : zpn mX10_light := ⟨by decide, by decide⟩
theorem pn_X10_spare : zpn mX10_spare := ⟨by decide, by decide⟩
theorem pn_X10_home : zpn mX10_home := ⟨by decide, by decide⟩
theorem pn_X10_seen : zpn mX10_seen := ⟨by decide, by decide⟩
theorem pn_X10_forget : zpn mX10_forget := ⟨by decide, by decide⟩
theorem pn_X10_never : zpn mX10_never := ⟨by decide, by decide⟩
theorem pn_X10_was : zpn mX10_was := ⟨by decide, by decide⟩
theorem pn_X10_ask : zpn mX10_ask := ⟨by decide, by decide⟩
theorem pn_X10_virtue : zpn mX10_virtue := ⟨by decide, by decide⟩
theorem pn_X10_years : zpn mX10_years := ⟨by decide, by decide⟩
theorem pn_X10_sheet : zpn mX10_sheet := ⟨by decide, by decide⟩
theorem pn_X10_lose : zpn mX10_lose := ⟨by decide, by decide⟩
theorem pn_X10_put : zpn mX10_put := ⟨by decide, by decide⟩
theorem pn_X10_get : zpn mX10_get := ⟨by decide, by decide⟩
theorem pn_X10_copy : zpn mX10_copy := ⟨by decide, by decide⟩
theorem pn_X10_write : zpn mX10_write := ⟨by decide, by decide⟩
theorem pn_X10_count : zpn mX10_count := ⟨by decide, by decide⟩
theorem pn_X10_digest : zpn mX10_digest := ⟨by decide, by decide⟩
theorem pn_X10_digestPerson : zpn mX10_digestPerson := ⟨by decide, by decide⟩
theorem pn_X10_within : zpn mX10_within := ⟨by decide, by decide⟩
theorem pn_X10_isMonth : zpn mX10_isMonth := ⟨by decide, by decide⟩
theorem pn_X10_isCounty : zpn mX10_isCounty := ⟨by decide, by decide⟩
theorem pn_X10_isSheet : zpn mX10_isSheet := ⟨by decide, by decide⟩
theorem pn_X10_isPerson : zpn mX10_isPerson := ⟨by decide, by decide⟩
theorem pn_X10_isDeed : zpn mX10_isDeed := ⟨by decide, by decide⟩
theorem pn_X10_textOf : zpn mX10_textOf := ⟨by decide, by decide⟩
theorem pn_X10_readTexts : zpn mX10_readTexts := ⟨by decide, by decide⟩
theorem pn_X10_unsettle : zpn mX10_unsettle := ⟨by decide, by decide⟩
theorem pn_X10_settle : zpn mX10_settle := ⟨by decide, by decide⟩
theorem pn_X11_in : zpn mX11_in := ⟨by decide, by decide⟩
theorem pn_X11_isIn : zpn mX11_isIn := ⟨by decide, by decide⟩
theorem pn_X11_no : zpn mX11_no := ⟨by decide, by decide⟩
theorem pn_X11_lowest : zpn mX11_lowest := ⟨by decide, by decide⟩
theorem pn_X11_isText : zpn mX11_isText := ⟨by decide, by decide⟩
theorem pn_X11_isMonth : zpn mX11_isMonth := ⟨by decide, by decide⟩
theorem pn_X11_isCounty : zpn mX11_isCounty := ⟨by decide, by decide⟩
theorem pn_X11_type : zpn mX11_type := ⟨by decide, by decide⟩
theorem pn_X11_wipe : zpn mX11_wipe := ⟨by decide, by decide⟩
theorem pn_X11_undo : zpn mX11_undo := ⟨by decide, by decide⟩
theorem pn_X11_byteAt : zpn mX11_byteAt := ⟨by decide, by decide⟩
theorem pn_X11_readsPerson : zpn mX11_readsPerson := ⟨by decide, by decide⟩
theorem pn_X11_readsDeed : zpn mX11_readsDeed := ⟨by decide, by decide⟩
theorem pn_X11_readsParts : zpn mX11_readsParts := ⟨by decide, by decide⟩
theorem pn_X11_faultOf : zpn mX11_faultOf := ⟨by decide, by decide⟩
theorem pn_X11_reads : zpn mX11_reads := ⟨by decide, by decide⟩
theorem pn_X11_fault : zpn mX11_fault := ⟨by decide, by decide⟩
theorem pn_X11_isPerson : zpn mX11_isPerson := ⟨by decide, by decide⟩
theorem pn_X11_isDeed : zpn mX11_isDeed := ⟨by decide, by decide⟩
theorem pn_X11_personOf : zpn mX11_personOf := ⟨by decide, by decide⟩
theorem pn_X11_person : zpn mX11_person := ⟨by decide, by decide⟩
theorem pn_X11_deedOf : zpn mX11_deedOf := ⟨by decide, by decide⟩
theorem pn_X11_deed : zpn mX11_deed := ⟨by decide, by decide⟩
theorem pn_X11_set : zpn mX11_set := ⟨by decide, by decide⟩
theorem pn_X11_round : zpn mX11_round := ⟨by decide, by decide⟩
theorem pn_X11_journey : zpn mX11_journey := ⟨by decide, by decide⟩
theorem pn_X11_frost : zpn mX11_frost := ⟨by decide, by decide⟩
theorem pn_X11_back : zpn mX11_back := ⟨by decide, by decide⟩
theorem pn_X11_read : zpn mX11_read := ⟨by decide, by decide⟩
theorem pn_X11_asTold : zpn mX11_asTold := ⟨by decide, by decide⟩
theorem pn_X11_lives : zpn mX11_lives := ⟨by decide, by decide⟩
theorem pn_X11_weightOf : zpn mX11_weightOf := ⟨by decide, by decide⟩
theorem pn_X11_grows : zpn mX11_grows := ⟨by decide, by decide⟩
theorem pn_X11_goes : zpn mX11_goes := ⟨by decide, by decide⟩
theorem pn_X11_nextIn : zpn mX11_nextIn := ⟨by decide, by decide⟩
theorem pn_X11_shears : zpn mX11_shears := ⟨by decide, by decide⟩
theorem pn_X11_shearsAll : zpn mX11_shearsAll := ⟨by decide, by decide⟩
theorem pn_X11_heaviestNow : zpn mX11_heaviestNow := ⟨by decide, by decide⟩
theorem pn_X11_keeps : zpn mX11_keeps := ⟨by decide, by decide⟩
theorem pn_X11_runs : zpn mX11_runs := ⟨by decide, by decide⟩
theorem pn_X11_runsTold : zpn mX11_runsTold := ⟨by decide, by decide⟩
theorem pn_X11_woolOf : zpn mX11_woolOf := ⟨by decide, by decide⟩
theorem pn_X11_wool : zpn mX11_wool := ⟨by decide, by decide⟩
theorem pn_X11_diesOf : zpn mX11_diesOf := ⟨by decide, by decide⟩
theorem pn_X11_dies : zpn mX11_dies := ⟨by decide, by decide⟩
theorem pn_X11_clothOf : zpn mX11_clothOf := ⟨by decide, by decide⟩
theorem pn_X11_cloth : zpn mX11_cloth := ⟨by decide, by decide⟩
theorem pn_X11_thornOf : zpn mX11_thornOf := ⟨by decide, by decide⟩
theorem pn_X11_thorn : zpn mX11_thorn := ⟨by decide, by decide⟩
theorem pn_X11_taxOf : zpn mX11_taxOf := ⟨by decide, by decide⟩
theorem pn_X11_tax : zpn mX11_tax := ⟨by decide, by decide⟩
theorem pn_X11_heaviestOf : zpn mX11_heaviestOf := ⟨by decide, by decide⟩
theorem pn_X11_heaviest : zpn mX11_heaviest := ⟨by decide, by decide⟩
theorem pn_X11_firstOf : zpn mX11_firstOf := ⟨by decide, by decide⟩
theorem pn_X11_first : zpn mX11_first := ⟨by decide, by decide⟩
theorem pn_X11_worthAll : zpn mX11_worthAll := ⟨by decide, by decide⟩
theorem pn_X11_planOf : zpn mX11_planOf := ⟨by decide, by decide⟩
theorem pn_X11_plan : zpn mX11_plan := ⟨by decide, by decide⟩
theorem pn_X11_ofRow : zpn mX11_ofRow := ⟨by decide, by decide⟩
theorem pn_X11_isLight : zpn mX11_isLight := ⟨by decide, by decide⟩
theorem pn_X11_lightBy : zpn mX11_lightBy := ⟨by decide, by decide⟩
theorem pn_X11_light : zpn mX11_light := ⟨by decide, by decide⟩
theorem pn_X11_livesMany : zpn mX11_livesMany := ⟨by decide, by decide⟩
theorem pn_X11_isSpared : zpn mX11_isSpared := ⟨by decide, by decide⟩
theorem pn_X11_spareBy : zpn mX11_spareBy := ⟨by decide, by decide⟩
theorem pn_X11_spare : zpn mX11_spare := ⟨by decide, by decide⟩
theorem pn_X11_homeOf : zpn mX11_homeOf := ⟨by decide, by decide⟩
theorem pn_X11_home : zpn mX11_home := ⟨by decide, by decide⟩
theorem pn_X11_seen : zpn mX11_seen := ⟨by decide, by decide⟩
theorem pn_X11_forget : zpn mX11_forget := ⟨by decide, by decide⟩
theorem pn_X11_isSeen : zpn mX11_isSeen := ⟨by decide, by decide⟩
theorem pn_X11_neverNow : zpn mX11_neverNow := ⟨by decide, by decide⟩
theorem pn_X11_never : zpn mX11_never := ⟨by decide, by decide⟩
theorem pn_X11_wasOf : zpn mX11_wasOf := ⟨by decide, by decide⟩
theorem pn_X11_was : zpn mX11_was := ⟨by decide, by decide⟩
theorem pn_X11_askOf : zpn mX11_askOf := ⟨by decide, by decide⟩
theorem pn_X11_ask : zpn mX11_ask := ⟨by decide, by decide⟩
theorem pn_X11_virtueOf : zpn mX11_virtueOf := ⟨by decide, by decide⟩
theorem pn_X11_virtue : zpn mX11_virtue := ⟨by decide, by decide⟩
theorem pn_X11_yearsOf : zpn mX11_yearsOf := ⟨by decide, by decide⟩
theorem pn_X11_years : zpn mX11_years := ⟨by decide, by decide⟩
theorem pn_X11_meets : zpn mX11_meets := ⟨by decide, by decide⟩
theorem pn_X11_isSheet : zpn mX11_isSheet := ⟨by decide, by decide⟩
theorem pn_X11_sheet : zpn mX11_sheet := ⟨by decide, by decide⟩
theorem pn_X11_lose : zpn mX11_lose := ⟨by decide, by decide⟩
theorem pn_X11_lacks : zpn mX11_lacks := ⟨by decide, by decide⟩
theorem pn_X11_keep : zpn mX11_keep := ⟨by decide, by decide⟩
theorem pn_X11_put : zpn mX11_put := ⟨by decide, by decide⟩
theorem pn_X11_get : zpn mX11_get := ⟨by decide, by decide⟩
theorem pn_X11_copy : zpn mX11_copy := ⟨by decide, by decide⟩
theorem pn_X11_write : zpn mX11_write := ⟨by decide, by decide⟩
theorem pn_X11_sumOf : zpn mX11_sumOf := ⟨by decide, by decide⟩
theorem pn_X11_count : zpn mX11_count := ⟨by decide, by decide⟩
theorem pn_X11_monthDigest : zpn mX11_monthDigest := ⟨by decide, by decide⟩
theorem pn_X11_personDigest : zpn mX11_personDigest := ⟨by decide, by decide⟩
theorem pn_X11_deedDigest : zpn mX11_deedDigest := ⟨by decide, by decide⟩
theorem pn_X11_countyDigest : zpn mX11_countyDigest := ⟨by decide, by decide⟩
theorem pn_X11_thornDigest : zpn mX11_thornDigest := ⟨by decide, by decide⟩
theorem pn_X11_digest : zpn mX11_digest := ⟨by decide, by decide⟩
theorem pn_J6_bitCount_0f7a4 : zpn mJ6_bitCount_0f7a4 := ⟨by decide, by decide⟩
theorem pn_J0_length_8abf5 : zpn mJ0_length_8abf5 := ⟨by decide, by decide⟩
theorem pn_J0_indexOf_0f7a4 : zpn mJ0_indexOf_0f7a4 := ⟨by decide, by decide⟩
theorem pn_J0_indexOf_7cf53 : zpn mJ0_indexOf_7cf53 := ⟨by decide, by decide⟩
theorem pn_J0_coder_7d493 : zpn mJ0_coder_7d493 := ⟨by decide, by decide⟩
theorem pn_J0_isLatin1_aae02 : zpn mJ0_isLatin1_aae02 := ⟨by decide, by decide⟩
theorem pn_J1_canEncode_9a6ad : zpn mJ1_canEncode_9a6ad := ⟨by decide, by decide⟩
theorem pn_J1_indexOf_4cfef : zpn mJ1_indexOf_4cfef := ⟨by decide, by decide⟩
theorem pn_J1_indexOfChar_4cfef : zpn mJ1_indexOfChar_4cfef := ⟨by decide, by decide⟩
theorem pn_J7_fill_d0a16 : zpn mJ7_fill_d0a16 := ⟨by decide, by decide⟩
theorem pn_J7_fill_53178 : zpn mJ7_fill_53178 := ⟨by decide, by decide⟩
theorem fl_X0_9 : zfl RX0 9 0 1 := ⟨RX0, TX0, 6, tyX0, zcls0, by decide, zme 2 55 (by decide +kernel) rfl⟩
theorem fl_X0_15 : zfl RX0 15 0 2 := ⟨RX0, TX0, 6, tyX0, zcls0, by decide, zme 2 56 (by decide +kernel) rfl⟩
theorem fl_X0_18 : zfl RX0 18 0 3 := ⟨RX0, TX0, 6, tyX0, zcls0, by decide, zme 2 57 (by decide +kernel) rfl⟩
theorem fl_X0_22 : zfl RX0 22 0 4 := ⟨RX0, TX0, 6, tyX0, zcls0, by decide, zme 2 58 (by decide +kernel) rfl⟩
theorem fl_X0_25 : zfl RX0 25 0 5 := ⟨RX0, TX0, 6, tyX0, zcls0, by decide, zme 2 59 (by decide +kernel) rfl⟩
theorem fl_X0_28 : zfl RX0 28 0 0 := ⟨RX0, TX0, 6, tyX0, zcls0, by decide, zme 2 54 (by decide +kernel) rfl⟩
theorem fl_X0_32 : zfl RX0 32 3 0 := ⟨RX3, TX3, 3, tyX3, zcls3, by decide, zme 1 187 (by decide +kernel) rfl⟩
theorem fl_X0_38 : zfl RX0 38 8 2 := ⟨RX8, TX8, 7, tyX8, zcls8, by decide, zme 1 117 (by decide +kernel) rfl⟩
theorem fl_X0_73 : zfl RX0 73 3 2 := ⟨RX3, TX3, 3, tyX3, zcls3, by decide, zme 1 195 (by decide +kernel) rfl⟩
theorem fl_X0_88 : zfl RX0 88 3 1 := ⟨RX3, TX3, 3, tyX3, zcls3, by decide, zme 1 191 (by decide +kernel) rfl⟩
theorem fl_X0_91 : zfl RX0 91 8 4 := ⟨RX8, TX8, 7, tyX8, zcls8, by decide, zme 1 124 (by decide +kernel) rfl⟩
theorem fl_X0_94 : zfl RX0 94 5 3 := ⟨RX5, TX5, 4, tyX5, zcls5, by decide, zme 1 91 (by decide +kernel) rfl⟩
theorem fl_X0_106 : zfl RX0 106 8 1 := ⟨RX8, TX8, 7, tyX8, zcls8, by decide, zme 1 113 (by decide +kernel) rfl⟩
theorem fl_X0_109 : zfl RX0 109 8 0 := ⟨RX8, TX8, 7, tyX8, zcls8, by decide, zme 1 107 (by decide +kernel) rfl⟩
theorem fl_X1_9 : zfl RX1 9 1 0 := ⟨RX1, TX1, 2, tyX1, zcls1, by decide, zme 1 216 (by decide +kernel) rfl⟩
theorem fl_X1_15 : zfl RX1 15 1 1 := ⟨RX1, TX1, 2, tyX1, zcls1, by decide, zme 1 217 (by decide +kernel) rfl⟩
theorem fl_X10_20 : zfl RX10 20 10 0 := ⟨RX10, TX10, 10, tyX10, zcls10, by decide, zme 2 97 (by decide +kernel) rfl⟩
theorem fl_X10_30 : zfl RX10 30 10 1 := ⟨RX10, TX10, 10, tyX10, zcls10, by decide, zme 2 98 (by decide +kernel) rfl⟩
theorem fl_X10_36 : zfl RX10 36 10 2 := ⟨RX10, TX10, 10, tyX10, zcls10, by decide, zme 2 99 (by decide +kernel) rfl⟩
theorem fl_X10_45 : zfl RX10 45 10 3 := ⟨RX10, TX10, 10, tyX10, zcls10, by decide, zme 2 100 (by decide +kernel) rfl⟩
theorem fl_X10_52 : zfl RX10 52 10 4 := ⟨RX10, TX10, 10, tyX10, zcls10, by decide, zme 2 101 (by decide +kernel) rfl⟩
theorem fl_X10_61 : zfl RX10 61 10 5 := ⟨RX10, TX10, 10, tyX10, zcls10, by decide, zme 2 102 (by decide +kernel) rfl⟩
theorem fl_X10_68 : zfl RX10 68 10 6 := ⟨RX10, TX10, 10, tyX10, zcls10, by decide, zme 2 103 (by decide +kernel) rfl⟩
theorem fl_X10_75 : zfl RX10 75 10 7 := ⟨RX10, TX10, 10, tyX10, zcls10, by decide, zme 2 104 (by decide +kernel) rfl⟩
theorem fl_X10_82 : zfl RX10 82 10 8 := ⟨RX10, TX10, 10, tyX10, zcls10, by decide, zme 2 105 (by decide +kernel) rfl⟩
theorem fl_X10_86 : zfl RX10 86 10 9 := ⟨RX10, TX10, 10, tyX10, zcls10, by decide, zme 2 106 (by decide +kernel) rfl⟩
theorem fl_X10_105 : zfl RX10 105 7 4 := ⟨RX7, TX7, 5, tyX7, zcls7, by decide, zme 1 47 (by decide +kernel) rfl⟩
theorem fl_X10_117 : zfl RX10 117 8 0 := ⟨RX8, TX8, 7, tyX8, zcls8, by decide, zme 1 106 (by decide +kernel) rfl⟩
theorem fl_X10_130 : zfl RX10 130 8 1 := ⟨RX8, TX8, 7, tyX8, zcls8, by decide, zme 1 112 (by decide +kernel) rfl⟩
theorem fl_X10_133 : zfl RX10 133 8 5 := ⟨RX8, TX8, 7, tyX8, zcls8, by decide, zme 1 128 (by decide +kernel) rfl⟩
theorem fl_X10_136 : zfl RX10 136 8 6 := ⟨RX8, TX8, 7, tyX8, zcls8, by decide, zme 1 130 (by decide +kernel) rfl⟩
theorem fl_X10_148 : zfl RX10 148 8 2 := ⟨RX8, TX8, 7, tyX8, zcls8, by decide, zme 1 118 (by decide +kernel) rfl⟩
theorem fl_X10_151 : zfl RX10 151 5 3 := ⟨RX5, TX5, 4, tyX5, zcls5, by decide, zme 1 92 (by decide +kernel) rfl⟩
theorem fl_X10_157 : zfl RX10 157 8 3 := ⟨RX8, TX8, 7, tyX8, zcls8, by decide, zme 1 121 (by decide +kernel) rfl⟩
theorem fl_X10_160 : zfl RX10 160 8 4 := ⟨RX8, TX8, 7, tyX8, zcls8, by decide, zme 1 125 (by decide +kernel) rfl⟩
theorem fl_X10_195 : zfl RX10 195 2 4 := ⟨RX2, TX2, 6, tyX2, zcls2, by decide, zme 1 158 (by decide +kernel) rfl⟩
theorem fl_X10_198 : zfl RX10 198 2 5 := ⟨RX2, TX2, 6, tyX2, zcls2, by decide, zme 1 160 (by decide +kernel) rfl⟩
theorem fl_X10_205 : zfl RX10 205 4 5 := ⟨RX4, TX4, 11, tyX4, zcls4, by decide, zme 1 229 (by decide +kernel) rfl⟩
theorem fl_X10_208 : zfl RX10 208 4 6 := ⟨RX4, TX4, 11, tyX4, zcls4, by decide, zme 1 231 (by decide +kernel) rfl⟩
theorem fl_X10_211 : zfl RX10 211 4 7 := ⟨RX4, TX4, 11, tyX4, zcls4, by decide, zme 1 233 (by decide +kernel) rfl⟩
theorem fl_X10_223 : zfl RX10 223 4 9 := ⟨RX4, TX4, 11, tyX4, zcls4, by decide, zme 1 236 (by decide +kernel) rfl⟩
theorem fl_X10_226 : zfl RX10 226 4 10 := ⟨RX4, TX4, 11, tyX4, zcls4, by decide, zme 1 238 (by decide +kernel) rfl⟩
theorem fl_X10_229 : zfl RX10 229 9 0 := ⟨RX9, TX9, 5, tyX9, zcls9, by decide, zme 2 31 (by decide +kernel) rfl⟩
theorem fl_X10_236 : zfl RX10 236 9 1 := ⟨RX9, TX9, 5, tyX9, zcls9, by decide, zme 2 33 (by decide +kernel) rfl⟩
theorem fl_X10_263 : zfl RX10 263 3 2 := ⟨RX3, TX3, 3, tyX3, zcls3, by decide, zme 1 196 (by decide +kernel) rfl⟩
theorem fl_X10_302 : zfl RX10 302 6 3 := ⟨RX6, TX6, 4, tyX6, zcls6, by decide, zme 2 87 (by decide +kernel) rfl⟩
theorem fl_X11_7 : zfl RX11 7 11 0 := ⟨RX11, TX11, 56, tyX11, zcls11, by decide, zme 5 38 (by decide +kernel) rfl⟩
theorem fl_X11_13 : zfl RX11 13 11 1 := ⟨RX11, TX11, 56, tyX11, zcls11, by decide, zme 5 39 (by decide +kernel) rfl⟩
theorem fl_X11_16 : zfl RX11 16 11 3 := ⟨RX11, TX11, 56, tyX11, zcls11, by decide, zme 5 41 (by decide +kernel) rfl⟩
theorem fl_X11_19 : zfl RX11 19 11 4 := ⟨RX11, TX11, 56, tyX11, zcls11, by decide, zme 5 42 (by decide +kernel) rfl⟩
theorem fl_X11_22 : zfl RX11 22 11 5 := ⟨RX11, TX11, 56, tyX11, zcls11, by decide, zme 5 43 (by decide +kernel) rfl⟩
theorem fl_X11_25 : zfl RX11 25 11 7 := ⟨RX11, TX11, 56, tyX11, zcls11, by decide, zme 5 45 (by decide +kernel) rfl⟩
theorem fl_X11_28 : zfl RX11 28 11 8 := ⟨RX11, TX11, 56, tyX11, zcls11, by decide, zme 5 46 (by decide +kernel) rfl⟩
theorem fl_X11_31 : zfl RX11 31 11 9 := ⟨RX11, TX11, 56, tyX11, zcls11, by decide, zme 5 47 (by decide +kernel) rfl⟩
theorem fl_X11_34 : zfl RX11 34 11 13 := ⟨RX11, TX11, 56, tyX11, zcls11, by decide, zme 5 51 (by decide +kernel) rfl⟩
theorem fl_X11_37 : zfl RX11 37 11 14 := ⟨RX11, TX11, 56, tyX11, zcls11, by decide, zme 5 52 (by decide +kernel) rfl⟩
theorem fl_X11_40 : zfl RX11 40 11 15 := ⟨RX11, TX11, 56, tyX11, zcls11, by decide, zme 5 53 (by decide +kernel) rfl⟩
theorem fl_X11_43 : zfl RX11 43 11 17 := ⟨RX11, TX11, 56, tyX11, zcls11, by decide, zme 5 55 (by decide +kernel) rfl⟩
theorem fl_X11_46 : zfl RX11 46 11 18 := ⟨RX11, TX11, 56, tyX11, zcls11, by decide, zme 5 56 (by decide +kernel) rfl⟩
theorem fl_X11_49 : zfl RX11 49 11 19 := ⟨RX11, TX11, 56, tyX11, zcls11, by decide, zme 5 57 (by decide +kernel) rfl⟩
theorem fl_X11_52 : zfl RX11 52 11 21 := ⟨RX11, TX11, 56, tyX11, zcls11, by decide, zme 5 59 (by decide +kernel) rfl⟩
theorem fl_X11_55 : zfl RX11 55 11 25 := ⟨RX11, TX11, 56, tyX11, zcls11, by decide, zme 5 63 (by decide +kernel) rfl⟩
theorem fl_X11_58 : zfl RX11 58 11 26 := ⟨RX11, TX11, 56, tyX11, zcls11, by decide, zme 5 64 (by decide +kernel) rfl⟩
theorem fl_X11_61 : zfl RX11 61 11 27 := ⟨RX11, TX11, 56, tyX11, zcls11, by decide, zme 5 65 (by decide +kernel) rfl⟩
theorem fl_X11_64 : zfl RX11 64 11 28 := ⟨RX11, TX11, 56, tyX11, zcls11, by decide, zme 5 66 (by decide +kernel) rfl⟩
theorem fl_X11_67 : zfl RX11 67 11 29 := ⟨RX11, TX11, 56, tyX11, zcls11, by decide, zme 5 67 (by decide +kernel) rfl⟩
theorem fl_X11_70 : zfl RX11 70 11 34 := ⟨RX11, TX11, 56, tyX11, zcls11, by decide, zme 5 72 (by decide +kernel) rfl⟩
theorem fl_X11_73 : zfl RX11 73 11 35 := ⟨RX11, TX11, 56, tyX11, zcls11, by decide, zme 5 73 (by decide +kernel) rfl⟩
theorem fl_X11_76 : zfl RX11 76 11 36 := ⟨RX11, TX11, 56, tyX11, zcls11, by decide, zme 5 74 (by decide +kernel) rfl⟩
theorem fl_X11_79 : zfl RX11 79 11 37 := ⟨RX11, TX11, 56, tyX11, zcls11, by decide, zme 5 75 (by decide +kernel) rfl⟩
theorem fl_X11_82 : zfl RX11 82 11 38 := ⟨RX11, TX11, 56, tyX11, zcls11, by decide, zme 5 76 (by decide +kernel) rfl⟩
theorem fl_X11_85 : zfl RX11 85 11 39 := ⟨RX11, TX11, 56, tyX11, zcls11, by decide, zme 5 77 (by decide +kernel) rfl⟩
theorem fl_X11_88 : zfl RX11 88 11 40 := ⟨RX11, TX11, 56, tyX11, zcls11, by decide, zme 5 78 (by decide +kernel) rfl⟩
theorem fl_X11_91 : zfl RX11 91 11 41 := ⟨RX11, TX11, 56, tyX11, zcls11, by decide, zme 5 79 (by decide +kernel) rfl⟩
theorem fl_X11_94 : zfl RX11 94 11 42 := ⟨RX11, TX11, 56, tyX11, zcls11, by decide, zme 5 80 (by decide +kernel) rfl⟩
theorem fl_X11_97 : zfl RX11 97 11 43 := ⟨RX11, TX11, 56, tyX11, zcls11, by decide, zme 5 81 (by decide +kernel) rfl⟩
theorem fl_X11_100 : zfl RX11 100 11 44 := ⟨RX11, TX11, 56, tyX11, zcls11, by decide, zme 5 82 (by decide +kernel) rfl⟩
theorem fl_X11_103 : zfl RX11 103 11 46 := ⟨RX11, TX11, 56, tyX11, zcls11, by decide, zme 5 84 (by decide +kernel) rfl⟩
theorem fl_X11_106 : zfl RX11 106 11 47 := ⟨RX11, TX11, 56, tyX11, zcls11, by decide, zme 5 85 (by decide +kernel) rfl⟩
theorem fl_X11_109 : zfl RX11 109 11 48 := ⟨RX11, TX11, 56, tyX11, zcls11, by decide, zme 5 86 (by decide +kernel) rfl⟩
theorem fl_X11_112 : zfl RX11 112 11 49 := ⟨RX11, TX11, 56, tyX11, zcls11, by decide, zme 5 87 (by decide +kernel) rfl⟩
theorem fl_X11_115 : zfl RX11 115 11 50 := ⟨RX11, TX11, 56, tyX11, zcls11, by decide, zme 5 88 (by decide +kernel) rfl⟩
theorem fl_X11_119 : zfl RX11 119 11 51 := ⟨RX11, TX11, 56, tyX11, zcls11, by decide, zme 5 89 (by decide +kernel) rfl⟩
theorem fl_X11_122 : zfl RX11 122 11 52 := ⟨RX11, TX11, 56, tyX11, zcls11, by decide, zme 5 90 (by decide +kernel) rfl⟩
theorem fl_X11_125 : zfl RX11 125 11 53 := ⟨RX11, TX11, 56, tyX11, zcls11, by decide, zme 5 91 (by decide +kernel) rfl⟩
theorem fl_X11_128 : zfl RX11 128 11 54 := ⟨RX11, TX11, 56, tyX11, zcls11, by decide, zme 5 92 (by decide +kernel) rfl⟩
theorem fl_X11_131 : zfl RX11 131 11 10 := ⟨RX11, TX11, 56, tyX11, zcls11, by decide, zme 5 48 (by decide +kernel) rfl⟩
theorem fl_X11_135 : zfl RX11 135 11 11 := ⟨RX11, TX11, 56, tyX11, zcls11, by decide, zme 5 49 (by decide +kernel) rfl⟩
theorem fl_X11_152 : zfl RX11 152 11 2 := ⟨RX11, TX11, 56, tyX11, zcls11, by decide, zme 5 40 (by decide +kernel) rfl⟩
theorem fl_X11_155 : zfl RX11 155 11 6 := ⟨RX11, TX11, 56, tyX11, zcls11, by decide, zme 5 44 (by decide +kernel) rfl⟩
theorem fl_X11_192 : zfl RX11 192 11 12 := ⟨RX11, TX11, 56, tyX11, zcls11, by decide, zme 5 50 (by decide +kernel) rfl⟩
theorem fl_X11_195 : zfl RX11 195 11 16 := ⟨RX11, TX11, 56, tyX11, zcls11, by decide, zme 5 54 (by decide +kernel) rfl⟩
theorem fl_X11_198 : zfl RX11 198 11 20 := ⟨RX11, TX11, 56, tyX11, zcls11, by decide, zme 5 58 (by decide +kernel) rfl⟩
theorem fl_X11_211 : zfl RX11 211 11 22 := ⟨RX11, TX11, 56, tyX11, zcls11, by decide, zme 5 60 (by decide +kernel) rfl⟩
theorem fl_X11_214 : zfl RX11 214 11 23 := ⟨RX11, TX11, 56, tyX11, zcls11, by decide, zme 5 61 (by decide +kernel) rfl⟩
theorem fl_X11_217 : zfl RX11 217 11 24 := ⟨RX11, TX11, 56, tyX11, zcls11, by decide, zme 5 62 (by decide +kernel) rfl⟩
theorem fl_X11_220 : zfl RX11 220 11 30 := ⟨RX11, TX11, 56, tyX11, zcls11, by decide, zme 5 68 (by decide +kernel) rfl⟩
theorem fl_X11_233 : zfl RX11 233 11 31 := ⟨RX11, TX11, 56, tyX11, zcls11, by decide, zme 5 69 (by decide +kernel) rfl⟩
theorem fl_X11_236 : zfl RX11 236 11 32 := ⟨RX11, TX11, 56, tyX11, zcls11, by decide, zme 5 70 (by decide +kernel) rfl⟩
theorem fl_X11_239 : zfl RX11 239 11 33 := ⟨RX11, TX11, 56, tyX11, zcls11, by decide, zme 5 71 (by decide +kernel) rfl⟩
theorem fl_X11_323 : zfl RX11 323 11 45 := ⟨RX11, TX11, 56, tyX11, zcls11, by decide, zme 5 83 (by decide +kernel) rfl⟩
theorem fl_X11_355 : zfl RX11 355 11 55 := ⟨RX11, TX11, 56, tyX11, zcls11, by decide, zme 5 93 (by decide +kernel) rfl⟩
theorem fl_X2_9 : zfl RX2 9 2 1 := ⟨RX2, TX2, 6, tyX2, zcls2, by decide, zme 1 154 (by decide +kernel) rfl⟩
theorem fl_X2_15 : zfl RX2 15 2 2 := ⟨RX2, TX2, 6, tyX2, zcls2, by decide, zme 1 155 (by decide +kernel) rfl⟩
theorem fl_X2_18 : zfl RX2 18 2 3 := ⟨RX2, TX2, 6, tyX2, zcls2, by decide, zme 1 156 (by decide +kernel) rfl⟩
theorem fl_X2_21 : zfl RX2 21 2 4 := ⟨RX2, TX2, 6, tyX2, zcls2, by decide, zme 1 157 (by decide +kernel) rfl⟩
theorem fl_X2_28 : zfl RX2 28 2 0 := ⟨RX2, TX2, 6, tyX2, zcls2, by decide, zme 1 153 (by decide +kernel) rfl⟩
theorem fl_X2_35 : zfl RX2 35 8 1 := ⟨RX8, TX8, 7, tyX8, zcls8, by decide, zme 1 109 (by decide +kernel) rfl⟩
theorem fl_X2_45 : zfl RX2 45 8 3 := ⟨RX8, TX8, 7, tyX8, zcls8, by decide, zme 1 120 (by decide +kernel) rfl⟩
theorem fl_X2_48 : zfl RX2 48 8 2 := ⟨RX8, TX8, 7, tyX8, zcls8, by decide, zme 1 115 (by decide +kernel) rfl⟩
theorem fl_X2_51 : zfl RX2 51 8 4 := ⟨RX8, TX8, 7, tyX8, zcls8, by decide, zme 1 123 (by decide +kernel) rfl⟩
theorem fl_X2_81 : zfl RX2 81 8 0 := ⟨RX8, TX8, 7, tyX8, zcls8, by decide, zme 1 103 (by decide +kernel) rfl⟩
theorem fl_X2_84 : zfl RX2 84 5 3 := ⟨RX5, TX5, 4, tyX5, zcls5, by decide, zme 1 88 (by decide +kernel) rfl⟩
theorem fl_X2_89 : zfl RX2 89 5 1 := ⟨RX5, TX5, 4, tyX5, zcls5, by decide, zme 1 81 (by decide +kernel) rfl⟩
theorem fl_X2_92 : zfl RX2 92 5 2 := ⟨RX5, TX5, 4, tyX5, zcls5, by decide, zme 1 84 (by decide +kernel) rfl⟩
theorem fl_X2_95 : zfl RX2 95 5 0 := ⟨RX5, TX5, 4, tyX5, zcls5, by decide, zme 1 78 (by decide +kernel) rfl⟩
theorem fl_X2_106 : zfl RX2 106 8 5 := ⟨RX8, TX8, 7, tyX8, zcls8, by decide, zme 1 127 (by decide +kernel) rfl⟩
theorem fl_X2_121 : zfl RX2 121 8 6 := ⟨RX8, TX8, 7, tyX8, zcls8, by decide, zme 1 131 (by decide +kernel) rfl⟩
theorem fl_X3_10 : zfl RX3 10 3 1 := ⟨RX3, TX3, 3, tyX3, zcls3, by decide, zme 1 188 (by decide +kernel) rfl⟩
theorem fl_X3_25 : zfl RX3 25 3 0 := ⟨RX3, TX3, 3, tyX3, zcls3, by decide, zme 1 184 (by decide +kernel) rfl⟩
theorem fl_X4_12 : zfl RX4 12 4 1 := ⟨RX4, TX4, 11, tyX4, zcls4, by decide, zme 1 224 (by decide +kernel) rfl⟩
theorem fl_X4_18 : zfl RX4 18 4 2 := ⟨RX4, TX4, 11, tyX4, zcls4, by decide, zme 1 225 (by decide +kernel) rfl⟩
theorem fl_X4_22 : zfl RX4 22 4 3 := ⟨RX4, TX4, 11, tyX4, zcls4, by decide, zme 1 226 (by decide +kernel) rfl⟩
theorem fl_X4_26 : zfl RX4 26 4 4 := ⟨RX4, TX4, 11, tyX4, zcls4, by decide, zme 1 227 (by decide +kernel) rfl⟩
theorem fl_X4_35 : zfl RX4 35 4 7 := ⟨RX4, TX4, 11, tyX4, zcls4, by decide, zme 1 232 (by decide +kernel) rfl⟩
theorem fl_X4_38 : zfl RX4 38 4 8 := ⟨RX4, TX4, 11, tyX4, zcls4, by decide, zme 1 234 (by decide +kernel) rfl⟩
theorem fl_X4_44 : zfl RX4 44 4 10 := ⟨RX4, TX4, 11, tyX4, zcls4, by decide, zme 1 237 (by decide +kernel) rfl⟩
theorem fl_X4_47 : zfl RX4 47 4 0 := ⟨RX4, TX4, 11, tyX4, zcls4, by decide, zme 1 223 (by decide +kernel) rfl⟩
theorem fl_X4_56 : zfl RX4 56 3 1 := ⟨RX3, TX3, 3, tyX3, zcls3, by decide, zme 1 189 (by decide +kernel) rfl⟩
theorem fl_X4_60 : zfl RX4 60 8 2 := ⟨RX8, TX8, 7, tyX8, zcls8, by decide, zme 1 116 (by decide +kernel) rfl⟩
theorem fl_X4_72 : zfl RX4 72 3 2 := ⟨RX3, TX3, 3, tyX3, zcls3, by decide, zme 1 193 (by decide +kernel) rfl⟩
theorem fl_X4_89 : zfl RX4 89 8 1 := ⟨RX8, TX8, 7, tyX8, zcls8, by decide, zme 1 111 (by decide +kernel) rfl⟩
theorem fl_X4_103 : zfl RX4 103 3 0 := ⟨RX3, TX3, 3, tyX3, zcls3, by decide, zme 1 186 (by decide +kernel) rfl⟩
theorem fl_X4_106 : zfl RX4 106 5 3 := ⟨RX5, TX5, 4, tyX5, zcls5, by decide, zme 1 90 (by decide +kernel) rfl⟩
theorem fl_X4_113 : zfl RX4 113 8 0 := ⟨RX8, TX8, 7, tyX8, zcls8, by decide, zme 1 105 (by decide +kernel) rfl⟩
theorem fl_X5_9 : zfl RX5 9 5 3 := ⟨RX5, TX5, 4, tyX5, zcls5, by decide, zme 1 86 (by decide +kernel) rfl⟩
theorem fl_X5_21 : zfl RX5 21 5 0 := ⟨RX5, TX5, 4, tyX5, zcls5, by decide, zme 1 77 (by decide +kernel) rfl⟩
theorem fl_X5_25 : zfl RX5 25 5 1 := ⟨RX5, TX5, 4, tyX5, zcls5, by decide, zme 1 80 (by decide +kernel) rfl⟩
theorem fl_X5_28 : zfl RX5 28 5 2 := ⟨RX5, TX5, 4, tyX5, zcls5, by decide, zme 1 83 (by decide +kernel) rfl⟩
theorem fl_X6_9 : zfl RX6 9 6 0 := ⟨RX6, TX6, 4, tyX6, zcls6, by decide, zme 2 83 (by decide +kernel) rfl⟩
theorem fl_X6_15 : zfl RX6 15 6 1 := ⟨RX6, TX6, 4, tyX6, zcls6, by decide, zme 2 84 (by decide +kernel) rfl⟩
theorem fl_X6_18 : zfl RX6 18 6 2 := ⟨RX6, TX6, 4, tyX6, zcls6, by decide, zme 2 85 (by decide +kernel) rfl⟩
theorem fl_X7_9 : zfl RX7 9 7 4 := ⟨RX7, TX7, 5, tyX7, zcls7, by decide, zme 1 46 (by decide +kernel) rfl⟩
theorem fl_X7_21 : zfl RX7 21 7 0 := ⟨RX7, TX7, 5, tyX7, zcls7, by decide, zme 1 42 (by decide +kernel) rfl⟩
theorem fl_X7_25 : zfl RX7 25 7 1 := ⟨RX7, TX7, 5, tyX7, zcls7, by decide, zme 1 43 (by decide +kernel) rfl⟩
theorem fl_X7_29 : zfl RX7 29 7 2 := ⟨RX7, TX7, 5, tyX7, zcls7, by decide, zme 1 44 (by decide +kernel) rfl⟩
theorem fl_X7_32 : zfl RX7 32 7 3 := ⟨RX7, TX7, 5, tyX7, zcls7, by decide, zme 1 45 (by decide +kernel) rfl⟩
theorem fl_X8_14 : zfl RX8 14 8 0 := ⟨RX8, TX8, 7, tyX8, zcls8, by decide, zme 1 102 (by decide +kernel) rfl⟩
theorem fl_X8_20 : zfl RX8 20 8 1 := ⟨RX8, TX8, 7, tyX8, zcls8, by decide, zme 1 108 (by decide +kernel) rfl⟩
theorem fl_X8_23 : zfl RX8 23 8 2 := ⟨RX8, TX8, 7, tyX8, zcls8, by decide, zme 1 114 (by decide +kernel) rfl⟩
theorem fl_X8_26 : zfl RX8 26 8 3 := ⟨RX8, TX8, 7, tyX8, zcls8, by decide, zme 1 119 (by decide +kernel) rfl⟩
theorem fl_X8_29 : zfl RX8 29 8 4 := ⟨RX8, TX8, 7, tyX8, zcls8, by decide, zme 1 122 (by decide +kernel) rfl⟩
theorem fl_X8_32 : zfl RX8 32 8 5 := ⟨RX8, TX8, 7, tyX8, zcls8, by decide, zme 1 126 (by decide +kernel) rfl⟩
theorem fl_X8_36 : zfl RX8 36 8 6 := ⟨RX8, TX8, 7, tyX8, zcls8, by decide, zme 1 129 (by decide +kernel) rfl⟩
theorem fl_X9_14 : zfl RX9 14 9 0 := ⟨RX9, TX9, 5, tyX9, zcls9, by decide, zme 2 30 (by decide +kernel) rfl⟩
theorem fl_X9_20 : zfl RX9 20 9 1 := ⟨RX9, TX9, 5, tyX9, zcls9, by decide, zme 2 32 (by decide +kernel) rfl⟩
theorem fl_X9_24 : zfl RX9 24 9 3 := ⟨RX9, TX9, 5, tyX9, zcls9, by decide, zme 2 35 (by decide +kernel) rfl⟩
theorem fl_X9_28 : zfl RX9 28 9 4 := ⟨RX9, TX9, 5, tyX9, zcls9, by decide, zme 2 36 (by decide +kernel) rfl⟩
theorem fl_X9_32 : zfl RX9 32 9 2 := ⟨RX9, TX9, 5, tyX9, zcls9, by decide, zme 2 34 (by decide +kernel) rfl⟩
theorem fl_X9_36 : zfl RX9 36 3 0 := ⟨RX3, TX3, 3, tyX3, zcls3, by decide, zme 1 185 (by decide +kernel) rfl⟩
theorem fl_X9_42 : zfl RX9 42 8 1 := ⟨RX8, TX8, 7, tyX8, zcls8, by decide, zme 1 110 (by decide +kernel) rfl⟩
theorem fl_X9_47 : zfl RX9 47 5 3 := ⟨RX5, TX5, 4, tyX5, zcls5, by decide, zme 1 87 (by decide +kernel) rfl⟩
theorem fl_X9_53 : zfl RX9 53 3 1 := ⟨RX3, TX3, 3, tyX3, zcls3, by decide, zme 1 190 (by decide +kernel) rfl⟩
theorem fl_X9_59 : zfl RX9 59 3 2 := ⟨RX3, TX3, 3, tyX3, zcls3, by decide, zme 1 194 (by decide +kernel) rfl⟩
theorem fl_X9_75 : zfl RX9 75 8 0 := ⟨RX8, TX8, 7, tyX8, zcls8, by decide, zme 1 104 (by decide +kernel) rfl⟩
theorem fl_X9_94 : zfl RX9 94 5 0 := ⟨RX5, TX5, 4, tyX5, zcls5, by decide, zme 1 79 (by decide +kernel) rfl⟩
theorem fl_X9_102 : zfl RX9 102 5 1 := ⟨RX5, TX5, 4, tyX5, zcls5, by decide, zme 1 82 (by decide +kernel) rfl⟩
theorem fl_X9_105 : zfl RX9 105 5 2 := ⟨RX5, TX5, 4, tyX5, zcls5, by decide, zme 1 85 (by decide +kernel) rfl⟩
theorem fp_X0_9 : zfp RX0 9 0 1 true (.array .long) := ⟨RX0, TX0, 6, tyX0, zcls0, by decide, zme 2 55 (by decide +kernel) rfl, rfl, by decide, fun _ => rfl⟩
theorem fp_X0_15 : zfp RX0 15 0 2 true (.array .long) := ⟨RX0, TX0, 6, tyX0, zcls0, by decide, zme 2 56 (by decide +kernel) rfl, rfl, by decide, fun _ => rfl⟩
theorem fp_X0_18 : zfp RX0 18 0 3 false .int := ⟨RX0, TX0, 6, tyX0, zcls0, by decide, zme 2 57 (by decide +kernel) rfl, rfl, by decide, fun h => absurd h (by decide)⟩
theorem fp_X0_22 : zfp RX0 22 0 4 false .int := ⟨RX0, TX0, 6, tyX0, zcls0, by decide, zme 2 58 (by decide +kernel) rfl, rfl, by decide, fun h => absurd h (by decide)⟩
theorem fp_X0_25 : zfp RX0 25 0 5 false .int := ⟨RX0, TX0, 6, tyX0, zcls0, by decide, zme 2 59 (by decide +kernel) rfl, rfl, by decide, fun h => absurd h (by decide)⟩
theorem fp_X0_28 : zfp RX0 28 0 0 true (.object "ShornSins$Other") := ⟨RX0, TX0, 6, tyX0, zcls0, by decide, zme 2 54 (by decide +kernel) rfl, rfl, by decide, fun _ => rfl⟩
theorem fp_X0_94 : zfp RX0 94 5 3 false .int := ⟨RX5, TX5, 4, tyX5, zcls5, by decide, zme 1 91 (by decide +kernel) rfl, rfl, by decide, fun h => absurd h (by decide)⟩
theorem fp_X1_9 : zfp RX1 9 1 0 false .int := ⟨RX1, TX1, 2, tyX1, zcls1, by decide, zme 1 216 (by decide +kernel) rfl, rfl, by decide, fun h => absurd h (by decide)⟩
theorem fp_X1_15 : zfp RX1 15 1 1 false .int := ⟨RX1, TX1, 2, tyX1, zcls1, by decide, zme 1 217 (by decide +kernel) rfl, rfl, by decide, fun h => absurd h (by decide)⟩
theorem fp_X10_20 : zfp RX10 20 10 0 true (.object "ShornSins$Text") := ⟨RX10, TX10, 10, tyX10, zcls10, by decide, zme 2 97 (by decide +kernel) rfl, rfl, by decide, fun _ => rfl⟩
theorem fp_X10_30 : zfp RX10 30 10 1 true (.object "ShornSins$Text") := ⟨RX10, TX10, 10, tyX10, zcls10, by decide, zme 2 98 (by decide +kernel) rfl, rfl, by decide, fun _ => rfl⟩
theorem fp_X10_36 : zfp RX10 36 10 2 true (.object "ShornSins$Told") := ⟨RX10, TX10, 10, tyX10, zcls10, by decide, zme 2 99 (by decide +kernel) rfl, rfl, by decide, fun _ => rfl⟩
theorem fp_X10_45 : zfp RX10 45 10 3 true (.object "ShornSins$Course") := ⟨RX10, TX10, 10, tyX10, zcls10, by decide, zme 2 100 (by decide +kernel) rfl, rfl, by decide, fun _ => rfl⟩
theorem fp_X10_52 : zfp RX10 52 10 4 true (.object "ShornSins$Other") := ⟨RX10, TX10, 10, tyX10, zcls10, by decide, zme 2 101 (by decide +kernel) rfl, rfl, by decide, fun _ => rfl⟩
theorem fp_X10_61 : zfp RX10 61 10 5 true (.object "ShornSins$Plans") := ⟨RX10, TX10, 10, tyX10, zcls10, by decide, zme 2 102 (by decide +kernel) rfl, rfl, by decide, fun _ => rfl⟩
theorem fp_X10_68 : zfp RX10 68 10 6 true (.object "ShornSins$Witness") := ⟨RX10, TX10, 10, tyX10, zcls10, by decide, zme 2 103 (by decide +kernel) rfl, rfl, by decide, fun _ => rfl⟩
theorem fp_X10_75 : zfp RX10 75 10 7 true (.object "ShornSins$Chances") := ⟨RX10, TX10, 10, tyX10, zcls10, by decide, zme 2 104 (by decide +kernel) rfl, rfl, by decide, fun _ => rfl⟩
theorem fp_X10_82 : zfp RX10 82 10 8 true (.object "ShornSins$Sheets") := ⟨RX10, TX10, 10, tyX10, zcls10, by decide, zme 2 105 (by decide +kernel) rfl, rfl, by decide, fun _ => rfl⟩
theorem fp_X10_86 : zfp RX10 86 10 9 false .boolean := ⟨RX10, TX10, 10, tyX10, zcls10, by decide, zme 2 106 (by decide +kernel) rfl, rfl, by decide, fun h => absurd h (by decide)⟩
theorem fp_X10_105 : zfp RX10 105 7 4 false .int := ⟨RX7, TX7, 5, tyX7, zcls7, by decide, zme 1 47 (by decide +kernel) rfl, rfl, by decide, fun h => absurd h (by decide)⟩
theorem fp_X10_133 : zfp RX10 133 8 5 false .int := ⟨RX8, TX8, 7, tyX8, zcls8, by decide, zme 1 128 (by decide +kernel) rfl, rfl, by decide, fun h => absurd h (by decide)⟩
theorem fp_X10_136 : zfp RX10 136 8 6 false .int := ⟨RX8, TX8, 7, tyX8, zcls8, by decide, zme 1 130 (by decide +kernel) rfl, rfl, by decide, fun h => absurd h (by decide)⟩
theorem fp_X10_151 : zfp RX10 151 5 3 false .int := ⟨RX5, TX5, 4, tyX5, zcls5, by decide, zme 1 92 (by decide +kernel) rfl, rfl, by decide, fun h => absurd h (by decide)⟩
theorem fp_X11_7 : zfp RX11 7 11 0 true (.array .int) := ⟨RX11, TX11, 56, tyX11, zcls11, by decide, zme 5 38 (by decide +kernel) rfl, rfl, by decide, fun _ => rfl⟩
theorem fp_X11_13 : zfp RX11 13 11 1 true (.array .int) := ⟨RX11, TX11, 56, tyX11, zcls11, by decide, zme 5 39 (by decide +kernel) rfl, rfl, by decide, fun _ => rfl⟩
theorem fp_X11_16 : zfp RX11 16 11 3 true (.array .int) := ⟨RX11, TX11, 56, tyX11, zcls11, by decide, zme 5 41 (by decide +kernel) rfl, rfl, by decide, fun _ => rfl⟩
theorem fp_X11_19 : zfp RX11 19 11 4 true (.array .int) := ⟨RX11, TX11, 56, tyX11, zcls11, by decide, zme 5 42 (by decide +kernel) rfl, rfl, by decide, fun _ => rfl⟩
theorem fp_X11_22 : zfp RX11 22 11 5 true (.array .int) := ⟨RX11, TX11, 56, tyX11, zcls11, by decide, zme 5 43 (by decide +kernel) rfl, rfl, by decide, fun _ => rfl⟩
theorem fp_X11_25 : zfp RX11 25 11 7 true (.array .int) := ⟨RX11, TX11, 56, tyX11, zcls11, by decide, zme 5 45 (by decide +kernel) rfl, rfl, by decide, fun _ => rfl⟩
theorem fp_X11_28 : zfp RX11 28 11 8 true (.array .int) := ⟨RX11, TX11, 56, tyX11, zcls11, by decide, zme 5 46 (by decide +kernel) rfl, rfl, by decide, fun _ => rfl⟩
theorem fp_X11_31 : zfp RX11 31 11 9 true (.array .int) := ⟨RX11, TX11, 56, tyX11, zcls11, by decide, zme 5 47 (by decide +kernel) rfl, rfl, by decide, fun _ => rfl⟩
theorem fp_X11_34 : zfp RX11 34 11 13 true (.array .int) := ⟨RX11, TX11, 56, tyX11, zcls11, by decide, zme 5 51 (by decide +kernel) rfl, rfl, by decide, fun _ => rfl⟩
theorem fp_X11_37 : zfp RX11 37 11 14 true (.array .int) := ⟨RX11, TX11, 56, tyX11, zcls11, by decide, zme 5 52 (by decide +kernel) rfl, rfl, by decide, fun _ => rfl⟩
theorem fp_X11_40 : zfp RX11 40 11 15 true (.array .int) := ⟨RX11, TX11, 56, tyX11, zcls11, by decide, zme 5 53 (by decide +kernel) rfl, rfl, by decide, fun _ => rfl⟩
theorem fp_X11_43 : zfp RX11 43 11 17 true (.array .int) := ⟨RX11, TX11, 56, tyX11, zcls11, by decide, zme 5 55 (by decide +kernel) rfl, rfl, by decide, fun _ => rfl⟩
theorem fp_X11_46 : zfp RX11 46 11 18 true (.array .int) := ⟨RX11, TX11, 56, tyX11, zcls11, by decide, zme 5 56 (by decide +kernel) rfl, rfl, by decide, fun _ => rfl⟩
theorem fp_X11_49 : zfp RX11 49 11 19 true (.array .int) := ⟨RX11, TX11, 56, tyX11, zcls11, by decide, zme 5 57 (by decide +kernel) rfl, rfl, by decide, fun _ => rfl⟩
theorem fp_X11_52 : zfp RX11 52 11 21 true (.array .int) := ⟨RX11, TX11, 56, tyX11, zcls11, by decide, zme 5 59 (by decide +kernel) rfl, rfl, by decide, fun _ => rfl⟩
theorem fp_X11_55 : zfp RX11 55 11 25 true (.array .int) := ⟨RX11, TX11, 56, tyX11, zcls11, by decide, zme 5 63 (by decide +kernel) rfl, rfl, by decide, fun _ => rfl⟩
theorem fp_X11_58 : zfp RX11 58 11 26 true (.array .int) := ⟨RX11, TX11, 56, tyX11, zcls11, by decide, zme 5 64 (by decide +kernel) rfl, rfl, by decide, fun _ => rfl⟩
theorem fp_X11_61 : zfp RX11 61 11 27 true (.array .int) := ⟨RX11, TX11, 56, tyX11, zcls11, by decide, zme 5 65 (by decide +kernel) rfl, rfl, by decide, fun _ => rfl⟩
theorem fp_X11_64 : zfp RX11 64 11 28 true (.array .int) := ⟨RX11, TX11, 56, tyX11, zcls11, by decide, zme 5 66 (by decide +kernel) rfl, rfl, by decide, fun _ => rfl⟩
theorem fp_X11_67 : zfp RX11 67 11 29 true (.array .int) := ⟨RX11, TX11, 56, tyX11, zcls11, by decide, zme 5 67 (by decide +kernel) rfl, rfl, by decide, fun _ => rfl⟩
theorem fp_X11_70 : zfp RX11 70 11 34 true (.array .int) := ⟨RX11, TX11, 56, tyX11, zcls11, by decide, zme 5 72 (by decide +kernel) rfl, rfl, by decide, fun _ => rfl⟩
theorem fp_X11_73 : zfp RX11 73 11 35 true (.array .int) := ⟨RX11, TX11, 56, tyX11, zcls11, by decide, zme 5 73 (by decide +kernel) rfl, rfl, by decide, fun _ => rfl⟩
theorem fp_X11_76 : zfp RX11 76 11 36 true (.array .int) := ⟨RX11, TX11, 56, tyX11, zcls11, by decide, zme 5 74 (by decide +kernel) rfl, rfl, by decide, fun _ => rfl⟩
theorem fp_X11_79 : zfp RX11 79 11 37 true (.array .int) := ⟨RX11, TX11, 56, tyX11, zcls11, by decide, zme 5 75 (by decide +kernel) rfl, rfl, by decide, fun _ => rfl⟩
theorem fp_X11_82 : zfp RX11 82 11 38 true (.array .int) := ⟨RX11, TX11, 56, tyX11, zcls11, by decide, zme 5 76 (by decide +kernel) rfl, rfl, by decide, fun _ => rfl⟩
theorem fp_X11_85 : zfp RX11 85 11 39 true (.array .int) := ⟨RX11, TX11, 56, tyX11, zcls11, by decide, zme 5 77 (by decide +kernel) rfl, rfl, by decide, fun _ => rfl⟩
theorem fp_X11_88 : zfp RX11 88 11 40 true (.array .int) := ⟨RX11, TX11, 56, tyX11, zcls11, by decide, zme 5 78 (by decide +kernel) rfl, rfl, by decide, fun _ => rfl⟩
theorem fp_X11_91 : zfp RX11 91 11 41 true (.array .int) := ⟨RX11, TX11, 56, tyX11, zcls11, by decide, zme 5 79 (by decide +kernel) rfl, rfl, by decide, fun _ => rfl⟩
theorem fp_X11_94 : zfp RX11 94 11 42 true (.array .int) := ⟨RX11, TX11, 56, tyX11, zcls11, by decide, zme 5 80 (by decide +kernel) rfl, rfl, by decide, fun _ => rfl⟩
theorem fp_X11_97 : zfp RX11 97 11 43 true (.array .int) := ⟨RX11, TX11, 56, tyX11, zcls11, by decide, zme 5 81 (by decide +kernel) rfl, rfl, by decide, fun _ => rfl⟩
theorem fp_X11_100 : zfp RX11 100 11 44 true (.array .int) := ⟨RX11, TX11, 56, tyX11, zcls11, by decide, zme 5 82 (by decide +kernel) rfl, rfl, by decide, fun _ => rfl⟩
theorem fp_X11_103 : zfp RX11 103 11 46 true (.array .int) := ⟨RX11, TX11, 56, tyX11, zcls11, by decide, zme 5 84 (by decide +kernel) rfl, rfl, by decide, fun _ => rfl⟩
theorem fp_X11_106 : zfp RX11 106 11 47 true (.array .int) := ⟨RX11, TX11, 56, tyX11, zcls11, by decide, zme 5 85 (by decide +kernel) rfl, rfl, by decide, fun _ => rfl⟩
theorem fp_X11_109 : zfp RX11 109 11 48 true (.array .int) := ⟨RX11, TX11, 56, tyX11, zcls11, by decide, zme 5 86 (by decide +kernel) rfl, rfl, by decide, fun _ => rfl⟩
theorem fp_X11_112 : zfp RX11 112 11 49 true (.array .int) := ⟨RX11, TX11, 56, tyX11, zcls11, by decide, zme 5 87 (by decide +kernel) rfl, rfl, by decide, fun _ => rfl⟩
theorem fp_X11_115 : zfp RX11 115 11 50 true (.array .boolean) := ⟨RX11, TX11, 56, tyX11, zcls11, by decide, zme 5 88 (by decide +kernel) rfl, rfl, by decide, fun _ => rfl⟩
theorem fp_X11_119 : zfp RX11 119 11 51 true (.array .int) := ⟨RX11, TX11, 56, tyX11, zcls11, by decide, zme 5 89 (by decide +kernel) rfl, rfl, by decide, fun _ => rfl⟩
theorem fp_X11_122 : zfp RX11 122 11 52 true (.array .int) := ⟨RX11, TX11, 56, tyX11, zcls11, by decide, zme 5 90 (by decide +kernel) rfl, rfl, by decide, fun _ => rfl⟩
theorem fp_X11_125 : zfp RX11 125 11 53 true (.array .int) := ⟨RX11, TX11, 56, tyX11, zcls11, by decide, zme 5 91 (by decide +kernel) rfl, rfl, by decide, fun _ => rfl⟩
theorem fp_X11_128 : zfp RX11 128 11 54 true (.array .int) := ⟨RX11, TX11, 56, tyX11, zcls11, by decide, zme 5 92 (by decide +kernel) rfl, rfl, by decide, fun _ => rfl⟩
theorem fp_X11_131 : zfp RX11 131 11 10 false .int := ⟨RX11, TX11, 56, tyX11, zcls11, by decide, zme 5 48 (by decide +kernel) rfl, rfl, by decide, fun h => absurd h (by decide)⟩
theorem fp_X11_135 : zfp RX11 135 11 11 false .int := ⟨RX11, TX11, 56, tyX11, zcls11, by decide, zme 5 49 (by decide +kernel) rfl, rfl, by decide, fun h => absurd h (by decide)⟩
theorem fp_X11_152 : zfp RX11 152 11 2 false .int := ⟨RX11, TX11, 56, tyX11, zcls11, by decide, zme 5 40 (by decide +kernel) rfl, rfl, by decide, fun h => absurd h (by decide)⟩
theorem fp_X11_155 : zfp RX11 155 11 6 false .int := ⟨RX11, TX11, 56, tyX11, zcls11, by decide, zme 5 44 (by decide +kernel) rfl, rfl, by decide, fun h => absurd h (by decide)⟩
theorem fp_X11_192 : zfp RX11 192 11 12 false .int := ⟨RX11, TX11, 56, tyX11, zcls11, by decide, zme 5 50 (by decide +kernel) rfl, rfl, by decide, fun h => absurd h (by decide)⟩
theorem fp_X11_195 : zfp RX11 195 11 16 false .int := ⟨RX11, TX11, 56, tyX11, zcls11, by decide, zme 5 54 (by decide +kernel) rfl, rfl, by decide, fun h => absurd h (by decide)⟩
theorem fp_X11_198 : zfp RX11 198 11 20 false .int := ⟨RX11, TX11, 56, tyX11, zcls11, by decide, zme 5 58 (by decide +kernel) rfl, rfl, by decide, fun h => absurd h (by decide)⟩
theorem fp_X11_211 : zfp RX11 211 11 22 false .int := ⟨RX11, TX11, 56, tyX11, zcls11, by decide, zme 5 60 (by decide +kernel) rfl, rfl, by decide, fun h => absurd h (by decide)⟩
theorem fp_X11_214 : zfp RX11 214 11 23 false .int := ⟨RX11, TX11, 56, tyX11, zcls11, by decide, zme 5 61 (by decide +kernel) rfl, rfl, by decide, fun h => absurd h (by decide)⟩
theorem fp_X11_217 : zfp RX11 217 11 24 false .int := ⟨RX11, TX11, 56, tyX11, zcls11, by decide, zme 5 62 (by decide +kernel) rfl, rfl, by decide, fun h => absurd h (by decide)⟩
theorem fp_X11_220 : zfp RX11 220 11 30 false .int := ⟨RX11, TX11, 56, tyX11, zcls11, by decide, zme 5 68 (by decide +kernel) rfl, rfl, by decide, fun h => absurd h (by decide)⟩
theorem fp_X11_233 : zfp RX11 233 11 31 false .int := ⟨RX11, TX11, 56, tyX11, zcls11, by decide, zme 5 69 (by decide +kernel) rfl, rfl, by decide, fun h => absurd h (by decide)⟩
theorem fp_X11_236 : zfp RX11 236 11 32 false .int := ⟨RX11, TX11, 56, tyX11, zcls11, by decide, zme 5 70 (by decide +kernel) rfl, rfl, by decide, fun h => absurd h (by decide)⟩
theorem fp_X11_239 : zfp RX11 239 11 33 false .int := ⟨RX11, TX11, 56, tyX11, zcls11, by decide, zme 5 71 (by decide +kernel) rfl, rfl, by decide, fun h => absurd h (by decide)⟩
theorem fp_X11_323 : zfp RX11 323 11 45 false .int := ⟨RX11, TX11, 56, tyX11, zcls11, by decide, zme 5 83 (by decide +kernel) rfl, rfl, by decide, fun h => absurd h (by decide)⟩
theorem fp_X11_355 : zfp RX11 355 11 55 false .int := ⟨RX11, TX11, 56, tyX11, zcls11, by decide, zme 5 93 (by decide +kernel) rfl, rfl, by decide, fun h => absurd h (by decide)⟩
theorem fp_X2_9 : zfp RX2 9 2 1 true (.array .int) := ⟨RX2, TX2, 6, tyX2, zcls2, by decide, zme 1 154 (by decide +kernel) rfl, rfl, by decide, fun _ => rfl⟩
theorem fp_X2_15 : zfp RX2 15 2 2 true (.array .int) := ⟨RX2, TX2, 6, tyX2, zcls2, by decide, zme 1 155 (by decide +kernel) rfl, rfl, by decide, fun _ => rfl⟩
theorem fp_X2_18 : zfp RX2 18 2 3 true (.array .int) := ⟨RX2, TX2, 6, tyX2, zcls2, by decide, zme 1 156 (by decide +kernel) rfl, rfl, by decide, fun _ => rfl⟩
theorem fp_X2_21 : zfp RX2 21 2 4 false .int := ⟨RX2, TX2, 6, tyX2, zcls2, by decide, zme 1 157 (by decide +kernel) rfl, rfl, by decide, fun h => absurd h (by decide)⟩
theorem fp_X2_25 : zfp RX2 25 2 5 false .int := ⟨RX2, TX2, 6, tyX2, zcls2, by decide, zme 1 159 (by decide +kernel) rfl, rfl, by decide, fun h => absurd h (by decide)⟩
theorem fp_X2_28 : zfp RX2 28 2 0 true (.object "ShornSins$Told") := ⟨RX2, TX2, 6, tyX2, zcls2, by decide, zme 1 153 (by decide +kernel) rfl, rfl, by decide, fun _ => rfl⟩
theorem fp_X3_10 : zfp RX3 10 3 1 true (.object "ShornSins$Told") := ⟨RX3, TX3, 3, tyX3, zcls3, by decide, zme 1 188 (by decide +kernel) rfl, rfl, by decide, fun _ => rfl⟩
theorem fp_X3_21 : zfp RX3 21 3 2 true (.object "ShornSins$Course") := ⟨RX3, TX3, 3, tyX3, zcls3, by decide, zme 1 192 (by decide +kernel) rfl, rfl, by decide, fun _ => rfl⟩
theorem fp_X3_25 : zfp RX3 25 3 0 true (.object "ShornSins$Told") := ⟨RX3, TX3, 3, tyX3, zcls3, by decide, zme 1 184 (by decide +kernel) rfl, rfl, by decide, fun _ => rfl⟩
theorem fp_X4_12 : zfp RX4 12 4 1 true (.object "ShornSins$Choice") := ⟨RX4, TX4, 11, tyX4, zcls4, by decide, zme 1 224 (by decide +kernel) rfl, rfl, by decide, fun _ => rfl⟩
theorem fp_X4_18 : zfp RX4 18 4 2 true (.array .int) := ⟨RX4, TX4, 11, tyX4, zcls4, by decide, zme 1 225 (by decide +kernel) rfl, rfl, by decide, fun _ => rfl⟩
theorem fp_X4_22 : zfp RX4 22 4 3 false .int := ⟨RX4, TX4, 11, tyX4, zcls4, by decide, zme 1 226 (by decide +kernel) rfl, rfl, by decide, fun h => absurd h (by decide)⟩
theorem fp_X4_26 : zfp RX4 26 4 4 false .int := ⟨RX4, TX4, 11, tyX4, zcls4, by decide, zme 1 227 (by decide +kernel) rfl, rfl, by decide, fun h => absurd h (by decide)⟩
theorem fp_X4_29 : zfp RX4 29 4 5 false .int := ⟨RX4, TX4, 11, tyX4, zcls4, by decide, zme 1 228 (by decide +kernel) rfl, rfl, by decide, fun h => absurd h (by decide)⟩
theorem fp_X4_32 : zfp RX4 32 4 6 false .int := ⟨RX4, TX4, 11, tyX4, zcls4, by decide, zme 1 230 (by decide +kernel) rfl, rfl, by decide, fun h => absurd h (by decide)⟩
theorem fp_X4_35 : zfp RX4 35 4 7 false .int := ⟨RX4, TX4, 11, tyX4, zcls4, by decide, zme 1 232 (by decide +kernel) rfl, rfl, by decide, fun h => absurd h (by decide)⟩
theorem fp_X4_38 : zfp RX4 38 4 8 false .int := ⟨RX4, TX4, 11, tyX4, zcls4, by decide, zme 1 234 (by decide +kernel) rfl, rfl, by decide, fun h => absurd h (by decide)⟩
theorem fp_X4_41 : zfp RX4 41 4 9 false .int := ⟨RX4, TX4, 11, tyX4, zcls4, by decide, zme 1 235 (by decide +kernel) rfl, rfl, by decide, fun h => absurd h (by decide)⟩
theorem fp_X4_44 : zfp RX4 44 4 10 false .int := ⟨RX4, TX4, 11, tyX4, zcls4, by decide, zme 1 237 (by decide +kernel) rfl, rfl, by decide, fun h => absurd h (by decide)⟩
theorem fp_X4_47 : zfp RX4 47 4 0 true (.object "ShornSins$Other") := ⟨RX4, TX4, 11, tyX4, zcls4, by decide, zme 1 223 (by decide +kernel) rfl, rfl, by decide, fun _ => rfl⟩
theorem fp_X5_9 : zfp RX5 9 5 3 false .int := ⟨RX5, TX5, 4, tyX5, zcls5, by decide, zme 1 86 (by decide +kernel) rfl, rfl, by decide, fun h => absurd h (by decide)⟩
theorem fp_X5_21 : zfp RX5 21 5 0 true (.array .int) := ⟨RX5, TX5, 4, tyX5, zcls5, by decide, zme 1 77 (by decide +kernel) rfl, rfl, by decide, fun _ => rfl⟩
theorem fp_X5_25 : zfp RX5 25 5 1 true (.array .int) := ⟨RX5, TX5, 4, tyX5, zcls5, by decide, zme 1 80 (by decide +kernel) rfl, rfl, by decide, fun _ => rfl⟩
theorem fp_X5_28 : zfp RX5 28 5 2 true (.array .int) := ⟨RX5, TX5, 4, tyX5, zcls5, by decide, zme 1 83 (by decide +kernel) rfl, rfl, by decide, fun _ => rfl⟩
theorem fp_X6_9 : zfp RX6 9 6 0 true (.array .int) := ⟨RX6, TX6, 4, tyX6, zcls6, by decide, zme 2 83 (by decide +kernel) rfl, rfl, by decide, fun _ => rfl⟩
theorem fp_X6_15 : zfp RX6 15 6 1 true (.array .int) := ⟨RX6, TX6, 4, tyX6, zcls6, by decide, zme 2 84 (by decide +kernel) rfl, rfl, by decide, fun _ => rfl⟩
theorem fp_X6_18 : zfp RX6 18 6 2 true (.array .int) := ⟨RX6, TX6, 4, tyX6, zcls6, by decide, zme 2 85 (by decide +kernel) rfl, rfl, by decide, fun _ => rfl⟩
theorem fp_X6_21 : zfp RX6 21 6 3 false .int := ⟨RX6, TX6, 4, tyX6, zcls6, by decide, zme 2 86 (by decide +kernel) rfl, rfl, by decide, fun h => absurd h (by decide)⟩
theorem fp_X7_9 : zfp RX7 9 7 4 false .int := ⟨RX7, TX7, 5, tyX7, zcls7, by decide, zme 1 46 (by decide +kernel) rfl, rfl, by decide, fun h => absurd h (by decide)⟩
theorem fp_X7_21 : zfp RX7 21 7 0 true (.array .int) := ⟨RX7, TX7, 5, tyX7, zcls7, by decide, zme 1 42 (by decide +kernel) rfl, rfl, by decide, fun _ => rfl⟩
theorem fp_X7_25 : zfp RX7 25 7 1 true (.object "java/lang/String") := ⟨RX7, TX7, 5, tyX7, zcls7, by decide, zme 1 43 (by decide +kernel) rfl, rfl, by decide, fun _ => rfl⟩
theorem fp_X7_29 : zfp RX7 29 7 2 true (.object "java/lang/String") := ⟨RX7, TX7, 5, tyX7, zcls7, by decide, zme 1 44 (by decide +kernel) rfl, rfl, by decide, fun _ => rfl⟩
theorem fp_X7_32 : zfp RX7 32 7 3 true (.object "java/lang/String") := ⟨RX7, TX7, 5, tyX7, zcls7, by decide, zme 1 45 (by decide +kernel) rfl, rfl, by decide, fun _ => rfl⟩
theorem fp_X7_39 : zfp RX7 39 5 3 false .int := ⟨RX5, TX5, 4, tyX5, zcls5, by decide, zme 1 89 (by decide +kernel) rfl, rfl, by decide, fun h => absurd h (by decide)⟩
theorem fp_X8_14 : zfp RX8 14 8 0 true (.object "ShornSins$Rows") := ⟨RX8, TX8, 7, tyX8, zcls8, by decide, zme 1 102 (by decide +kernel) rfl, rfl, by decide, fun _ => rfl⟩
theorem fp_X8_20 : zfp RX8 20 8 1 true (.object "ShornSins$Rows") := ⟨RX8, TX8, 7, tyX8, zcls8, by decide, zme 1 108 (by decide +kernel) rfl, rfl, by decide, fun _ => rfl⟩
theorem fp_X8_23 : zfp RX8 23 8 2 true (.object "ShornSins$Rows") := ⟨RX8, TX8, 7, tyX8, zcls8, by decide, zme 1 114 (by decide +kernel) rfl, rfl, by decide, fun _ => rfl⟩
theorem fp_X8_26 : zfp RX8 26 8 3 true (.object "ShornSins$Rows") := ⟨RX8, TX8, 7, tyX8, zcls8, by decide, zme 1 119 (by decide +kernel) rfl, rfl, by decide, fun _ => rfl⟩
theorem fp_X8_29 : zfp RX8 29 8 4 true (.object "ShornSins$Rows") := ⟨RX8, TX8, 7, tyX8, zcls8, by decide, zme 1 122 (by decide +kernel) rfl, rfl, by decide, fun _ => rfl⟩
theorem fp_X8_32 : zfp RX8 32 8 5 false .int := ⟨RX8, TX8, 7, tyX8, zcls8, by decide, zme 1 126 (by decide +kernel) rfl, rfl, by decide, fun h => absurd h (by decide)⟩
theorem fp_X8_36 : zfp RX8 36 8 6 false .int := ⟨RX8, TX8, 7, tyX8, zcls8, by decide, zme 1 129 (by decide +kernel) rfl, rfl, by decide, fun h => absurd h (by decide)⟩
theorem fp_X9_14 : zfp RX9 14 9 0 true (.object "ShornSins$Rows") := ⟨RX9, TX9, 5, tyX9, zcls9, by decide, zme 2 30 (by decide +kernel) rfl, rfl, by decide, fun _ => rfl⟩
theorem fp_X9_20 : zfp RX9 20 9 1 false .int := ⟨RX9, TX9, 5, tyX9, zcls9, by decide, zme 2 32 (by decide +kernel) rfl, rfl, by decide, fun h => absurd h (by decide)⟩
theorem fp_X9_24 : zfp RX9 24 9 3 true (.array .int) := ⟨RX9, TX9, 5, tyX9, zcls9, by decide, zme 2 35 (by decide +kernel) rfl, rfl, by decide, fun _ => rfl⟩
theorem fp_X9_28 : zfp RX9 28 9 4 false .boolean := ⟨RX9, TX9, 5, tyX9, zcls9, by decide, zme 2 36 (by decide +kernel) rfl, rfl, by decide, fun h => absurd h (by decide)⟩
theorem fp_X9_32 : zfp RX9 32 9 2 true (.object "ShornSins$Other") := ⟨RX9, TX9, 5, tyX9, zcls9, by decide, zme 2 34 (by decide +kernel) rfl, rfl, by decide, fun _ => rfl⟩
theorem lk_J0_335 : zlV RJ0 335 mJ0_coder_7d493 0 := ⟨⟨zme 2 182 (by decide +kernel) rfl, zme 2 185 (by decide +kernel) rfl, zme 1 15 (by decide +kernel) rfl, by decide, by decide, by decide +kernel⟩, zme 2 183 (by decide +kernel) rfl, zme 2 184 (by decide +kernel) rfl⟩
theorem lk_J0_492 : zlV RJ0 492 mJ0_isLatin1_aae02 0 := ⟨⟨zme 2 172 (by decide +kernel) rfl, zme 2 175 (by decide +kernel) rfl, zme 1 15 (by decide +kernel) rfl, by decide, by decide, by decide +kernel⟩, zme 2 173 (by decide +kernel) rfl, zme 2 174 (by decide +kernel) rfl⟩
theorem lk_J0_505 : zlV RJ0 505 mJ0_length_8abf5 0 := ⟨⟨zme 2 178 (by decide +kernel) rfl, zme 2 181 (by decide +kernel) rfl, zme 1 15 (by decide +kernel) rfl, by decide, by decide, by decide +kernel⟩, zme 2 179 (by decide +kernel) rfl, zme 2 180 (by decide +kernel) rfl⟩
theorem lk_J0_633 : zlV RJ0 633 mJ0_indexOf_7cf53 2 := ⟨⟨zme 2 168 (by decide +kernel) rfl, zme 2 171 (by decide +kernel) rfl, zme 1 15 (by decide +kernel) rfl, by decide, by decide, by decide +kernel⟩, zme 2 169 (by decide +kernel) rfl, zme 2 170 (by decide +kernel) rfl⟩
theorem lk_J0_637 : zlS RJ0 637 mJ1_indexOf_4cfef 4 := ⟨⟨zme 2 186 (by decide +kernel) rfl, zme 2 188 (by decide +kernel) rfl, zme 1 16 (by decide +kernel) rfl, by decide, by decide, by decide +kernel⟩, zme 2 187 (by decide +kernel) rfl⟩
theorem lm_J1_38 : Cond.methodLink RJ1 38 Lib.Math.min.name ∈ zTB ∧ Cond.static Lib.Math.min.name ∈ zTB ∧ Cond.initialized "java/lang/Math" ∈ zTB ∧ Cond.code Lib.Math.min.name Lib.Math.min.code 2 (some .int) ∈ zTB := ⟨zme 2 193 (by decide +kernel) rfl, zme 2 194 (by decide +kernel) rfl, zme 1 3 (by decide +kernel) rfl, zme 2 195 (by decide +kernel) rfl⟩
theorem lk_J1_88 : zlS RJ1 88 mJ1_canEncode_9a6ad 1 := ⟨⟨zme 2 189 (by decide +kernel) rfl, zme 2 191 (by decide +kernel) rfl, zme 1 16 (by decide +kernel) rfl, by decide, by decide, by decide +kernel⟩, zme 2 190 (by decide +kernel) rfl⟩
theorem lm_J1_92 : Cond.methodLink RJ1 92 Lib.Math.max.name ∈ zTB ∧ Cond.static Lib.Math.max.name ∈ zTB ∧ Cond.initialized "java/lang/Math" ∈ zTB ∧ Cond.code Lib.Math.max.name Lib.Math.max.code 2 (some .int) ∈ zTB := ⟨zme 2 192 (by decide +kernel) rfl, zme 1 40 (by decide +kernel) rfl, zme 1 3 (by decide +kernel) rfl, zme 1 41 (by decide +kernel) rfl⟩
theorem lk_J1_95 : zlS RJ1 95 mJ1_indexOfChar_4cfef 4 := ⟨⟨zme 2 196 (by decide +kernel) rfl, zme 2 198 (by decide +kernel) rfl, zme 1 16 (by decide +kernel) rfl, by decide, by decide, by decide +kernel⟩, zme 2 197 (by decide +kernel) rfl⟩
theorem lk_L_9 : zlI x.cls 9 mX10_init 0 := ⟨⟨zme 1 24 (by decide +kernel) rfl, zme 1 26 (by decide +kernel) rfl, zme 1 1 (by decide +kernel) rfl, by decide, by decide, by decide +kernel⟩, rfl, rfl, zme 1 25 (by decide +kernel) rfl⟩
theorem lk_L_12 : zlI x.cls 12 mX11_init 0 := ⟨⟨zme 5 34 (by decide +kernel) rfl, zme 5 36 (by decide +kernel) rfl, zme 1 14 (by decide +kernel) rfl, by decide, by decide, by decide +kernel⟩, rfl, rfl, zme 5 35 (by decide +kernel) rfl⟩
theorem lk_L_13 : zlV x.cls 13 mX10_type 2 := ⟨⟨zme 2 128 (by decide +kernel) rfl, zme 2 131 (by decide +kernel) rfl, zme 1 1 (by decide +kernel) rfl, by decide, by decide, by decide +kernel⟩, zme 2 129 (by decide +kernel) rfl, zme 2 130 (by decide +kernel) rfl⟩
theorem lk_L_17 : zlV x.cls 17 mX11_type 2 := ⟨⟨zme 5 208 (by decide +kernel) rfl, zme 5 211 (by decide +kernel) rfl, zme 1 14 (by decide +kernel) rfl, by decide, by decide, by decide +kernel⟩, zme 5 209 (by decide +kernel) rfl, zme 5 210 (by decide +kernel) rfl⟩
theorem lk_L_18 : zlV x.cls 18 mX10_wipe 1 := ⟨⟨zme 3 28 (by decide +kernel) rfl, zme 3 31 (by decide +kernel) rfl, zme 1 1 (by decide +kernel) rfl, by decide, by decide, by decide +kernel⟩, zme 3 29 (by decide +kernel) rfl, zme 3 30 (by decide +kernel) rfl⟩
theorem lk_L_22 : zlV x.cls 22 mX11_wipe 1 := ⟨⟨zme 5 218 (by decide +kernel) rfl, zme 5 221 (by decide +kernel) rfl, zme 1 14 (by decide +kernel) rfl, by decide, by decide, by decide +kernel⟩, zme 5 219 (by decide +kernel) rfl, zme 5 220 (by decide +kernel) rfl⟩
theorem lk_L_23 : zlV x.cls 23 mX10_undo 1 := ⟨⟨zme 3 32 (by decide +kernel) rfl, zme 3 35 (by decide +kernel) rfl, zme 1 1 (by decide +kernel) rfl, by decide, by decide, by decide +kernel⟩, zme 3 33 (by decide +kernel) rfl, zme 3 34 (by decide +kernel) rfl⟩
theorem lk_L_26 : zlV x.cls 26 mX11_undo 1 := ⟨⟨zme 5 222 (by decide +kernel) rfl, zme 5 225 (by decide +kernel) rfl, zme 1 14 (by decide +kernel) rfl, by decide, by decide, by decide +kernel⟩, zme 5 223 (by decide +kernel) rfl, zme 5 224 (by decide +kernel) rfl⟩
theorem lk_L_27 : zlV x.cls 27 mX10_fault 1 := ⟨⟨zme 3 36 (by decide +kernel) rfl, zme 3 39 (by decide +kernel) rfl, zme 1 1 (by decide +kernel) rfl, by decide, by decide, by decide +kernel⟩, zme 3 37 (by decide +kernel) rfl, zme 3 38 (by decide +kernel) rfl⟩
theorem lk_L_30 : zlV x.cls 30 mX11_fault 1 := ⟨⟨zme 5 226 (by decide +kernel) rfl, zme 5 229 (by decide +kernel) rfl, zme 1 14 (by decide +kernel) rfl, by decide, by decide, by decide +kernel⟩, zme 5 227 (by decide +kernel) rfl, zme 5 228 (by decide +kernel) rfl⟩
theorem lk_L_31 : zlV x.cls 31 mX10_person 2 := ⟨⟨zme 3 41 (by decide +kernel) rfl, zme 3 44 (by decide +kernel) rfl, zme 1 1 (by decide +kernel) rfl, by decide, by decide, by decide +kernel⟩, zme 3 42 (by decide +kernel) rfl, zme 3 43 (by decide +kernel) rfl⟩
theorem lk_L_34 : zlV x.cls 34 mX11_person 2 := ⟨⟨zme 6 10 (by decide +kernel) rfl, zme 6 13 (by decide +kernel) rfl, zme 1 14 (by decide +kernel) rfl, by decide, by decide, by decide +kernel⟩, zme 6 11 (by decide +kernel) rfl, zme 6 12 (by decide +kernel) rfl⟩
theorem lk_L_35 : zlV x.cls 35 mX10_deed 2 := ⟨⟨zme 3 53 (by decide +kernel) rfl, zme 3 56 (by decide +kernel) rfl, zme 1 1 (by decide +kernel) rfl, by decide, by decide, by decide +kernel⟩, zme 3 54 (by decide +kernel) rfl, zme 3 55 (by decide +kernel) rfl⟩
theorem lk_L_38 : zlV x.cls 38 mX11_deed 2 := ⟨⟨zme 6 26 (by decide +kernel) rfl, zme 6 29 (by decide +kernel) rfl, zme 1 14 (by decide +kernel) rfl, by decide, by decide, by decide +kernel⟩, zme 6 27 (by decide +kernel) rfl, zme 6 28 (by decide +kernel) rfl⟩
theorem lk_L_39 : zlV x.cls 39 mX10_set 2 := ⟨⟨zme 3 61 (by decide +kernel) rfl, zme 3 64 (by decide +kernel) rfl, zme 1 1 (by decide +kernel) rfl, by decide, by decide, by decide +kernel⟩, zme 3 62 (by decide +kernel) rfl, zme 3 63 (by decide +kernel) rfl⟩
theorem lk_L_42 : zlV x.cls 42 mX11_set 2 := ⟨⟨zme 6 38 (by decide +kernel) rfl, zme 6 41 (by decide +kernel) rfl, zme 1 14 (by decide +kernel) rfl, by decide, by decide, by decide +kernel⟩, zme 6 39 (by decide +kernel) rfl, zme 6 40 (by decide +kernel) rfl⟩
theorem lk_L_43 : zlV x.cls 43 mX10_round 3 := ⟨⟨zme 3 65 (by decide +kernel) rfl, zme 3 68 (by decide +kernel) rfl, zme 1 1 (by decide +kernel) rfl, by decide, by decide, by decide +kernel⟩, zme 3 66 (by decide +kernel) rfl, zme 3 67 (by decide +kernel) rfl⟩
theorem lk_L_47 : zlV x.cls 47 mX11_round 3 := ⟨⟨zme 6 42 (by decide +kernel) rfl, zme 6 45 (by decide +kernel) rfl, zme 1 14 (by decide +kernel) rfl, by decide, by decide, by decide +kernel⟩, zme 6 43 (by decide +kernel) rfl, zme 6 44 (by decide +kernel) rfl⟩
theorem lk_L_48 : zlV x.cls 48 mX10_journey 3 := ⟨⟨zme 3 76 (by decide +kernel) rfl, zme 3 79 (by decide +kernel) rfl, zme 1 1 (by decide +kernel) rfl, by decide, by decide, by decide +kernel⟩, zme 3 77 (by decide +kernel) rfl, zme 3 78 (by decide +kernel) rfl⟩
theorem lk_L_51 : zlV x.cls 51 mX11_journey 3 := ⟨⟨zme 6 52 (by decide +kernel) rfl, zme 6 55 (by decide +kernel) rfl, zme 1 14 (by decide +kernel) rfl, by decide, by decide, by decide +kernel⟩, zme 6 53 (by decide +kernel) rfl, zme 6 54 (by decide +kernel) rfl⟩
theorem lk_L_52 : zlV x.cls 52 mX10_frost 1 := ⟨⟨zme 3 80 (by decide +kernel) rfl, zme 3 83 (by decide +kernel) rfl, zme 1 1 (by decide +kernel) rfl, by decide, by decide, by decide +kernel⟩, zme 3 81 (by decide +kernel) rfl, zme 3 82 (by decide +kernel) rfl⟩
theorem lk_L_55 : zlV x.cls 55 mX11_frost 1 := ⟨⟨zme 6 56 (by decide +kernel) rfl, zme 6 59 (by decide +kernel) rfl, zme 1 14 (by decide +kernel) rfl, by decide, by decide, by decide +kernel⟩, zme 6 57 (by decide +kernel) rfl, zme 6 58 (by decide +kernel) rfl⟩
theorem lk_L_56 : zlV x.cls 56 mX10_back 1 := ⟨⟨zme 3 84 (by decide +kernel) rfl, zme 3 87 (by decide +kernel) rfl, zme 1 1 (by decide +kernel) rfl, by decide, by decide, by decide +kernel⟩, zme 3 85 (by decide +kernel) rfl, zme 3 86 (by decide +kernel) rfl⟩
theorem lk_L_59 : zlV x.cls 59 mX11_back 1 := ⟨⟨zme 6 60 (by decide +kernel) rfl, zme 6 63 (by decide +kernel) rfl, zme 1 14 (by decide +kernel) rfl, by decide, by decide, by decide +kernel⟩, zme 6 61 (by decide +kernel) rfl, zme 6 62 (by decide +kernel) rfl⟩
theorem lk_L_60 : zlV x.cls 60 mX10_read 1 := ⟨⟨zme 3 88 (by decide +kernel) rfl, zme 3 91 (by decide +kernel) rfl, zme 1 1 (by decide +kernel) rfl, by decide, by decide, by decide +kernel⟩, zme 3 89 (by decide +kernel) rfl, zme 3 90 (by decide +kernel) rfl⟩
theorem lk_L_63 : zlV x.cls 63 mX11_read 1 := ⟨⟨zme 6 64 (by decide +kernel) rfl, zme 6 67 (by decide +kernel) rfl, zme 1 14 (by decide +kernel) rfl, by decide, by decide, by decide +kernel⟩, zme 6 65 (by decide +kernel) rfl, zme 6 66 (by decide +kernel) rfl⟩
theorem lk_L_64 : zlV x.cls 64 mX10_wool 3 := ⟨⟨zme 3 118 (by decide +kernel) rfl, zme 3 121 (by decide +kernel) rfl, zme 1 1 (by decide +kernel) rfl, by decide, by decide, by decide +kernel⟩, zme 3 119 (by decide +kernel) rfl, zme 3 120 (by decide +kernel) rfl⟩
theorem lk_L_67 : zlV x.cls 67 mX11_wool 3 := ⟨⟨zme 6 76 (by decide +kernel) rfl, zme 6 79 (by decide +kernel) rfl, zme 1 14 (by decide +kernel) rfl, by decide, by decide, by decide +kernel⟩, zme 6 77 (by decide +kernel) rfl, zme 6 78 (by decide +kernel) rfl⟩
theorem lk_L_68 : zlV x.cls 68 mX10_dies 1 := ⟨⟨zme 3 177 (by decide +kernel) rfl, zme 3 180 (by decide +kernel) rfl, zme 1 1 (by decide +kernel) rfl, by decide, by decide, by decide +kernel⟩, zme 3 178 (by decide +kernel) rfl, zme 3 179 (by decide +kernel) rfl⟩
theorem lk_L_71 : zlV x.cls 71 mX11_dies 1 := ⟨⟨zme 6 134 (by decide +kernel) rfl, zme 6 137 (by decide +kernel) rfl, zme 1 14 (by decide +kernel) rfl, by decide, by decide, by decide +kernel⟩, zme 6 135 (by decide +kernel) rfl, zme 6 136 (by decide +kernel) rfl⟩
theorem lk_L_72 : zlV x.cls 72 mX10_cloth 3 := ⟨⟨zme 3 185 (by decide +kernel) rfl, zme 3 188 (by decide +kernel) rfl, zme 1 1 (by decide +kernel) rfl, by decide, by decide, by decide +kernel⟩, zme 3 186 (by decide +kernel) rfl, zme 3 187 (by decide +kernel) rfl⟩
theorem lk_L_75 : zlV x.cls 75 mX11_cloth 3 := ⟨⟨zme 6 142 (by decide +kernel) rfl, zme 6 145 (by decide +kernel) rfl, zme 1 14 (by decide +kernel) rfl, by decide, by decide, by decide +kernel⟩, zme 6 143 (by decide +kernel) rfl, zme 6 144 (by decide +kernel) rfl⟩
theorem lk_L_76 : zlV x.cls 76 mX10_thorn 1 := ⟨⟨zme 3 189 (by decide +kernel) rfl, zme 3 192 (by decide +kernel) rfl, zme 1 1 (by decide +kernel) rfl, by decide, by decide, by decide +kernel⟩, zme 3 190 (by decide +kernel) rfl, zme 3 191 (by decide +kernel) rfl⟩
theorem lk_L_79 : zlV x.cls 79 mX11_thorn 1 := ⟨⟨zme 6 150 (by decide +kernel) rfl, zme 6 153 (by decide +kernel) rfl, zme 1 14 (by decide +kernel) rfl, by decide, by decide, by decide +kernel⟩, zme 6 151 (by decide +kernel) rfl, zme 6 152 (by decide +kernel) rfl⟩
theorem lk_L_80 : zlV x.cls 80 mX10_tax 1 := ⟨⟨zme 3 193 (by decide +kernel) rfl, zme 3 196 (by decide +kernel) rfl, zme 1 1 (by decide +kernel) rfl, by decide, by decide, by decide +kernel⟩, zme 3 194 (by decide +kernel) rfl, zme 3 195 (by decide +kernel) rfl⟩
theorem lk_L_83 : zlV x.cls 83 mX11_tax 1 := ⟨⟨zme 6 158 (by decide +kernel) rfl, zme 6 161 (by decide +kernel) rfl, zme 1 14 (by decide +kernel) rfl, by decide, by decide, by decide +kernel⟩, zme 6 159 (by decide +kernel) rfl, zme 6 160 (by decide +kernel) rfl⟩
theorem lk_L_84 : zlV x.cls 84 mX10_heaviest 1 := ⟨⟨zme 3 206 (by decide +kernel) rfl, zme 3 209 (by decide +kernel) rfl, zme 1 1 (by decide +kernel) rfl, by decide, by decide, by decide +kernel⟩, zme 3 207 (by decide +kernel) rfl, zme 3 208 (by decide +kernel) rfl⟩
theorem lk_L_87 : zlV x.cls 87 mX11_heaviest 1 := ⟨⟨zme 6 166 (by decide +kernel) rfl, zme 6 169 (by decide +kernel) rfl, zme 1 14 (by decide +kernel) rfl, by decide, by decide, by decide +kernel⟩, zme 6 167 (by decide +kernel) rfl, zme 6 168 (by decide +kernel) rfl⟩
theorem lk_L_88 : zlV x.cls 88 mX10_first 1 := ⟨⟨zme 3 214 (by decide +kernel) rfl, zme 3 217 (by decide +kernel) rfl, zme 1 1 (by decide +kernel) rfl, by decide, by decide, by decide +kernel⟩, zme 3 215 (by decide +kernel) rfl, zme 3 216 (by decide +kernel) rfl⟩
theorem lk_L_91 : zlV x.cls 91 mX11_first 1 := ⟨⟨zme 6 174 (by decide +kernel) rfl, zme 6 177 (by decide +kernel) rfl, zme 1 14 (by decide +kernel) rfl, by decide, by decide, by decide +kernel⟩, zme 6 175 (by decide +kernel) rfl, zme 6 176 (by decide +kernel) rfl⟩
theorem lk_L_92 : zlV x.cls 92 mX10_plan 2 := ⟨⟨zme 3 218 (by decide +kernel) rfl, zme 3 221 (by decide +kernel) rfl, zme 1 1 (by decide +kernel) rfl, by decide, by decide, by decide +kernel⟩, zme 3 219 (by decide +kernel) rfl, zme 3 220 (by decide +kernel) rfl⟩
theorem lk_L_95 : zlV x.cls 95 mX11_plan 2 := ⟨⟨zme 6 182 (by decide +kernel) rfl, zme 6 185 (by decide +kernel) rfl, zme 1 14 (by decide +kernel) rfl, by decide, by decide, by decide +kernel⟩, zme 6 183 (by decide +kernel) rfl, zme 6 184 (by decide +kernel) rfl⟩
theorem lk_L_96 : zlV x.cls 96 mX10_light 3 := ⟨⟨zme 4 6 (by decide +kernel) rfl, zme 4 9 (by decide +kernel) rfl, zme 1 1 (by decide +kernel) rfl, by decide, by decide, by decide +kernel⟩, zme 4 7 (by decide +kernel) rfl, zme 4 8 (by decide +kernel) rfl⟩
theorem lk_L_99 : zlV x.cls 99 mX11_light 3 := ⟨⟨zme 6 194 (by decide +kernel) rfl, zme 6 197 (by decide +kernel) rfl, zme 1 14 (by decide +kernel) rfl, by decide, by decide, by decide +kernel⟩, zme 6 195 (by decide +kernel) rfl, zme 6 196 (by decide +kernel) rfl⟩
theorem lk_L_100 : zlV x.cls 100 mX10_spare 1 := ⟨⟨zme 4 40 (by decide +kernel) rfl, zme 4 43 (by decide +kernel) rfl, zme 1 1 (by decide +kernel) rfl, by decide, by decide, by decide +kernel⟩, zme 4 41 (by decide +kernel) rfl, zme 4 42 (by decide +kernel) rfl⟩
theorem lk_L_103 : zlV x.cls 103 mX11_spare 1 := ⟨⟨zme 6 210 (by decide +kernel) rfl, zme 6 213 (by decide +kernel) rfl, zme 1 14 (by decide +kernel) rfl, by decide, by decide, by decide +kernel⟩, zme 6 211 (by decide +kernel) rfl, zme 6 212 (by decide +kernel) rfl⟩
theorem lk_L_104 : zlV x.cls 104 mX10_home 2 := ⟨⟨zme 4 52 (by decide +kernel) rfl, zme 4 55 (by decide +kernel) rfl, zme 1 1 (by decide +kernel) rfl, by decide, by decide, by decide +kernel⟩, zme 4 53 (by decide +kernel) rfl, zme 4 54 (by decide +kernel) rfl⟩
theorem lk_L_107 : zlV x.cls 107 mX11_home 2 := ⟨⟨zme 6 226 (by decide +kernel) rfl, zme 6 229 (by decide +kernel) rfl, zme 1 14 (by decide +kernel) rfl, by decide, by decide, by decide +kernel⟩, zme 6 227 (by decide +kernel) rfl, zme 6 228 (by decide +kernel) rfl⟩
theorem lk_L_108 : zlV x.cls 108 mX10_seen 3 := ⟨⟨zme 4 64 (by decide +kernel) rfl, zme 4 67 (by decide +kernel) rfl, zme 1 1 (by decide +kernel) rfl, by decide, by decide, by decide +kernel⟩, zme 4 65 (by decide +kernel) rfl, zme 4 66 (by decide +kernel) rfl⟩
theorem lk_L_111 : zlV x.cls 111 mX11_seen 3 := ⟨⟨zme 6 234 (by decide +kernel) rfl, zme 6 237 (by decide +kernel) rfl, zme 1 14 (by decide +kernel) rfl, by decide, by decide, by decide +kernel⟩, zme 6 235 (by decide +kernel) rfl, zme 6 236 (by decide +kernel) rfl⟩
theorem lk_L_112 : zlV x.cls 112 mX10_forget 0 := ⟨⟨zme 4 68 (by decide +kernel) rfl, zme 4 71 (by decide +kernel) rfl, zme 1 1 (by decide +kernel) rfl, by decide, by decide, by decide +kernel⟩, zme 4 69 (by decide +kernel) rfl, zme 4 70 (by decide +kernel) rfl⟩
theorem lk_L_116 : zlV x.cls 116 mX11_forget 0 := ⟨⟨zme 6 238 (by decide +kernel) rfl, zme 7 1 (by decide +kernel) rfl, zme 1 14 (by decide +kernel) rfl, by decide, by decide, by decide +kernel⟩, zme 6 239 (by decide +kernel) rfl, zme 7 0 (by decide +kernel) rfl⟩
theorem lk_L_117 : zlV x.cls 117 mX10_never 0 := ⟨⟨zme 4 72 (by decide +kernel) rfl, zme 4 75 (by decide +kernel) rfl, zme 1 1 (by decide +kernel) rfl, by decide, by decide, by decide +kernel⟩, zme 4 73 (by decide +kernel) rfl, zme 4 74 (by decide +kernel) rfl⟩
theorem lk_L_120 : zlV x.cls 120 mX11_never 0 := ⟨⟨zme 7 2 (by decide +kernel) rfl, zme 7 5 (by decide +kernel) rfl, zme 1 14 (by decide +kernel) rfl, by decide, by decide, by decide +kernel⟩, zme 7 3 (by decide +kernel) rfl, zme 7 4 (by decide +kernel) rfl⟩
theorem lk_L_121 : zlV x.cls 121 mX10_was 2 := ⟨⟨zme 4 95 (by decide +kernel) rfl, zme 4 98 (by decide +kernel) rfl, zme 1 1 (by decide +kernel) rfl, by decide, by decide, by decide +kernel⟩, zme 4 96 (by decide +kernel) rfl, zme 4 97 (by decide +kernel) rfl⟩
theorem lk_L_124 : zlV x.cls 124 mX11_was 2 := ⟨⟨zme 7 14 (by decide +kernel) rfl, zme 7 17 (by decide +kernel) rfl, zme 1 14 (by decide +kernel) rfl, by decide, by decide, by decide +kernel⟩, zme 7 15 (by decide +kernel) rfl, zme 7 16 (by decide +kernel) rfl⟩
theorem lk_L_125 : zlV x.cls 125 mX10_ask 1 := ⟨⟨zme 4 109 (by decide +kernel) rfl, zme 4 112 (by decide +kernel) rfl, zme 1 1 (by decide +kernel) rfl, by decide, by decide, by decide +kernel⟩, zme 4 110 (by decide +kernel) rfl, zme 4 111 (by decide +kernel) rfl⟩
theorem lk_L_128 : zlV x.cls 128 mX11_ask 1 := ⟨⟨zme 7 22 (by decide +kernel) rfl, zme 7 25 (by decide +kernel) rfl, zme 1 14 (by decide +kernel) rfl, by decide, by decide, by decide +kernel⟩, zme 7 23 (by decide +kernel) rfl, zme 7 24 (by decide +kernel) rfl⟩
theorem lk_L_129 : zlV x.cls 129 mX10_virtue 4 := ⟨⟨zme 4 125 (by decide +kernel) rfl, zme 4 128 (by decide +kernel) rfl, zme 1 1 (by decide +kernel) rfl, by decide, by decide, by decide +kernel⟩, zme 4 126 (by decide +kernel) rfl, zme 4 127 (by decide +kernel) rfl⟩
theorem lk_L_133 : zlV x.cls 133 mX11_virtue 4 := ⟨⟨zme 7 30 (by decide +kernel) rfl, zme 7 33 (by decide +kernel) rfl, zme 1 14 (by decide +kernel) rfl, by decide, by decide, by decide +kernel⟩, zme 7 31 (by decide +kernel) rfl, zme 7 32 (by decide +kernel) rfl⟩
theorem lk_L_134 : zlV x.cls 134 mX10_years 3 := ⟨⟨zme 4 171 (by decide +kernel) rfl, zme 4 174 (by decide +kernel) rfl, zme 1 1 (by decide +kernel) rfl, by decide, by decide, by decide +kernel⟩, zme 4 172 (by decide +kernel) rfl, zme 4 173 (by decide +kernel) rfl⟩
theorem lk_L_137 : zlV x.cls 137 mX11_years 3 := ⟨⟨zme 7 45 (by decide +kernel) rfl, zme 7 48 (by decide +kernel) rfl, zme 1 14 (by decide +kernel) rfl, by decide, by decide, by decide +kernel⟩, zme 7 46 (by decide +kernel) rfl, zme 7 47 (by decide +kernel) rfl⟩
theorem lk_L_138 : zlV x.cls 138 mX10_sheet 3 := ⟨⟨zme 4 185 (by decide +kernel) rfl, zme 4 188 (by decide +kernel) rfl, zme 1 1 (by decide +kernel) rfl, by decide, by decide, by decide +kernel⟩, zme 4 186 (by decide +kernel) rfl, zme 4 187 (by decide +kernel) rfl⟩
theorem lk_L_141 : zlV x.cls 141 mX11_sheet 3 := ⟨⟨zme 7 54 (by decide +kernel) rfl, zme 7 57 (by decide +kernel) rfl, zme 1 14 (by decide +kernel) rfl, by decide, by decide, by decide +kernel⟩, zme 7 55 (by decide +kernel) rfl, zme 7 56 (by decide +kernel) rfl⟩
theorem lk_L_142 : zlV x.cls 142 mX10_lose 1 := ⟨⟨zme 4 193 (by decide +kernel) rfl, zme 4 196 (by decide +kernel) rfl, zme 1 1 (by decide +kernel) rfl, by decide, by decide, by decide +kernel⟩, zme 4 194 (by decide +kernel) rfl, zme 4 195 (by decide +kernel) rfl⟩
theorem lk_L_145 : zlV x.cls 145 mX11_lose 1 := ⟨⟨zme 7 58 (by decide +kernel) rfl, zme 7 61 (by decide +kernel) rfl, zme 1 14 (by decide +kernel) rfl, by decide, by decide, by decide +kernel⟩, zme 7 59 (by decide +kernel) rfl, zme 7 60 (by decide +kernel) rfl⟩
theorem lk_L_146 : zlV x.cls 146 mX10_put 4 := ⟨⟨zme 4 201 (by decide +kernel) rfl, zme 4 204 (by decide +kernel) rfl, zme 1 1 (by decide +kernel) rfl, by decide, by decide, by decide +kernel⟩, zme 4 202 (by decide +kernel) rfl, zme 4 203 (by decide +kernel) rfl⟩
theorem lk_L_150 : zlV x.cls 150 mX11_put 4 := ⟨⟨zme 7 62 (by decide +kernel) rfl, zme 7 65 (by decide +kernel) rfl, zme 1 14 (by decide +kernel) rfl, by decide, by decide, by decide +kernel⟩, zme 7 63 (by decide +kernel) rfl, zme 7 64 (by decide +kernel) rfl⟩
theorem lk_L_151 : zlV x.cls 151 mX10_get 3 := ⟨⟨zme 4 213 (by decide +kernel) rfl, zme 4 216 (by decide +kernel) rfl, zme 1 1 (by decide +kernel) rfl, by decide, by decide, by decide +kernel⟩, zme 4 214 (by decide +kernel) rfl, zme 4 215 (by decide +kernel) rfl⟩
theorem lk_L_154 : zlV x.cls 154 mX11_get 3 := ⟨⟨zme 7 74 (by decide +kernel) rfl, zme 7 77 (by decide +kernel) rfl, zme 1 14 (by decide +kernel) rfl, by decide, by decide, by decide +kernel⟩, zme 7 75 (by decide +kernel) rfl, zme 7 76 (by decide +kernel) rfl⟩
theorem lk_L_155 : zlV x.cls 155 mX10_copy 5 := ⟨⟨zme 4 218 (by decide +kernel) rfl, zme 4 221 (by decide +kernel) rfl, zme 1 1 (by decide +kernel) rfl, by decide, by decide, by decide +kernel⟩, zme 4 219 (by decide +kernel) rfl, zme 4 220 (by decide +kernel) rfl⟩
theorem lk_L_159 : zlV x.cls 159 mX11_copy 5 := ⟨⟨zme 7 79 (by decide +kernel) rfl, zme 7 82 (by decide +kernel) rfl, zme 1 14 (by decide +kernel) rfl, by decide, by decide, by decide +kernel⟩, zme 7 80 (by decide +kernel) rfl, zme 7 81 (by decide +kernel) rfl⟩
theorem lk_L_160 : zlV x.cls 160 mX10_write 2 := ⟨⟨zme 4 232 (by decide +kernel) rfl, zme 4 235 (by decide +kernel) rfl, zme 1 1 (by decide +kernel) rfl, by decide, by decide, by decide +kernel⟩, zme 4 233 (by decide +kernel) rfl, zme 4 234 (by decide +kernel) rfl⟩
theorem lk_L_163 : zlV x.cls 163 mX11_write 2 := ⟨⟨zme 7 83 (by decide +kernel) rfl, zme 7 86 (by decide +kernel) rfl, zme 1 14 (by decide +kernel) rfl, by decide, by decide, by decide +kernel⟩, zme 7 84 (by decide +kernel) rfl, zme 7 85 (by decide +kernel) rfl⟩
theorem lk_L_164 : zlV x.cls 164 mX10_count 1 := ⟨⟨zme 4 237 (by decide +kernel) rfl, zme 5 0 (by decide +kernel) rfl, zme 1 1 (by decide +kernel) rfl, by decide, by decide, by decide +kernel⟩, zme 4 238 (by decide +kernel) rfl, zme 4 239 (by decide +kernel) rfl⟩
theorem lk_L_167 : zlV x.cls 167 mX11_count 1 := ⟨⟨zme 7 87 (by decide +kernel) rfl, zme 7 90 (by decide +kernel) rfl, zme 1 14 (by decide +kernel) rfl, by decide, by decide, by decide +kernel⟩, zme 7 88 (by decide +kernel) rfl, zme 7 89 (by decide +kernel) rfl⟩
theorem lk_L_168 : zlV x.cls 168 mX10_digest 0 := ⟨⟨zme 5 2 (by decide +kernel) rfl, zme 5 5 (by decide +kernel) rfl, zme 1 1 (by decide +kernel) rfl, by decide, by decide, by decide +kernel⟩, zme 5 3 (by decide +kernel) rfl, zme 5 4 (by decide +kernel) rfl⟩
theorem lk_L_172 : zlV x.cls 172 mX11_digest 0 := ⟨⟨zme 7 95 (by decide +kernel) rfl, zme 7 98 (by decide +kernel) rfl, zme 1 14 (by decide +kernel) rfl, by decide, by decide, by decide +kernel⟩, zme 7 96 (by decide +kernel) rfl, zme 7 97 (by decide +kernel) rfl⟩
theorem lo_X0_3 : Cond.methodLink RX0 3 Lib.objectInit ∈ zTB ∧ Cond.instanceMethod Lib.objectInit ∈ zTB ∧ Cond.code Lib.objectInit ⟨#[0xb1]⟩ 1 none ∈ zTB := ⟨zme 2 53 (by decide +kernel) rfl, zme 1 28 (by decide +kernel) rfl, zme 1 29 (by decide +kernel) rfl⟩
theorem lk_X0_44 : zlS RX0 44 mX2_monthsOf 1 := ⟨⟨zme 4 134 (by decide +kernel) rfl, zme 3 137 (by decide +kernel) rfl, zme 1 6 (by decide +kernel) rfl, by decide, by decide, by decide +kernel⟩, zme 3 136 (by decide +kernel) rfl⟩
theorem lk_X0_50 : zlS RX0 50 mJ6_bitCount_0f7a4 1 := ⟨⟨zme 4 135 (by decide +kernel) rfl, zme 4 137 (by decide +kernel) rfl, zme 1 21 (by decide +kernel) rfl, by decide, by decide, by decide +kernel⟩, zme 4 136 (by decide +kernel) rfl⟩
theorem lk_X0_56 : zlS RX0 56 mJ7_fill_d0a16 2 := ⟨⟨zme 4 141 (by decide +kernel) rfl, zme 4 143 (by decide +kernel) rfl, zme 1 13 (by decide +kernel) rfl, by decide, by decide, by decide +kernel⟩, zme 4 142 (by decide +kernel) rfl⟩
theorem lk_X0_62 : zlS RX0 62 mX0_power 2 := ⟨⟨zme 4 144 (by decide +kernel) rfl, zme 4 146 (by decide +kernel) rfl, zme 1 11 (by decide +kernel) rfl, by decide, by decide, by decide +kernel⟩, zme 4 145 (by decide +kernel) rfl⟩
theorem lk_X0_66 : zlV RX0 66 mX3_afresh 0 := ⟨⟨zme 4 147 (by decide +kernel) rfl, zme 3 229 (by decide +kernel) rfl, zme 1 7 (by decide +kernel) rfl, by decide, by decide, by decide +kernel⟩, zme 3 227 (by decide +kernel) rfl, zme 3 228 (by decide +kernel) rfl⟩
theorem lk_X0_69 : zlV RX0 69 mX0_supposeFrosts 2 := ⟨⟨zme 4 148 (by decide +kernel) rfl, zme 4 151 (by decide +kernel) rfl, zme 1 11 (by decide +kernel) rfl, by decide, by decide, by decide +kernel⟩, zme 4 150 (by decide +kernel) rfl, zme 0 23 (by decide +kernel) rfl⟩
theorem lk_X0_77 : zlV RX0 77 mX2_run 1 := ⟨⟨zme 4 153 (by decide +kernel) rfl, zme 3 129 (by decide +kernel) rfl, zme 1 6 (by decide +kernel) rfl, by decide, by decide, by decide +kernel⟩, zme 3 127 (by decide +kernel) rfl, zme 3 128 (by decide +kernel) rfl⟩
theorem lk_X0_81 : zlV RX0 81 mX0_addToLiving 1 := ⟨⟨zme 4 154 (by decide +kernel) rfl, zme 4 157 (by decide +kernel) rfl, zme 1 11 (by decide +kernel) rfl, by decide, by decide, by decide +kernel⟩, zme 4 156 (by decide +kernel) rfl, zme 0 24 (by decide +kernel) rfl⟩
theorem lk_X0_85 : zlV RX0 85 mX0_reduce 1 := ⟨⟨zme 4 159 (by decide +kernel) rfl, zme 4 162 (by decide +kernel) rfl, zme 1 11 (by decide +kernel) rfl, by decide, by decide, by decide +kernel⟩, zme 4 161 (by decide +kernel) rfl, zme 0 25 (by decide +kernel) rfl⟩
theorem lk_X0_99 : zlV RX0 99 mX5_append 3 := ⟨⟨zme 4 152 (by decide +kernel) rfl, zme 3 11 (by decide +kernel) rfl, zme 1 5 (by decide +kernel) rfl, by decide, by decide, by decide +kernel⟩, zme 3 9 (by decide +kernel) rfl, zme 3 10 (by decide +kernel) rfl⟩
theorem lk_X0_103 : zlV RX0 103 mX2_deathOf 1 := ⟨⟨zme 4 158 (by decide +kernel) rfl, zme 3 184 (by decide +kernel) rfl, zme 1 6 (by decide +kernel) rfl, by decide, by decide, by decide +kernel⟩, zme 3 182 (by decide +kernel) rfl, zme 3 183 (by decide +kernel) rfl⟩
theorem lk_X0_112 : zlV RX0 112 mX0_lot 1 := ⟨⟨zme 4 179 (by decide +kernel) rfl, zme 4 182 (by decide +kernel) rfl, zme 1 11 (by decide +kernel) rfl, by decide, by decide, by decide +kernel⟩, zme 4 181 (by decide +kernel) rfl, zme 0 26 (by decide +kernel) rfl⟩
theorem lo_X1_3 : Cond.methodLink RX1 3 Lib.objectInit ∈ zTB ∧ Cond.instanceMethod Lib.objectInit ∈ zTB ∧ Cond.code Lib.objectInit ⟨#[0xb1]⟩ 1 none ∈ zTB := ⟨zme 1 215 (by decide +kernel) rfl, zme 1 28 (by decide +kernel) rfl, zme 1 29 (by decide +kernel) rfl⟩
theorem lk_X1_18 : zlV RX1 18 mX5_takeOut 1 := ⟨⟨zme 4 22 (by decide +kernel) rfl, zme 4 25 (by decide +kernel) rfl, zme 1 5 (by decide +kernel) rfl, by decide, by decide, by decide +kernel⟩, zme 4 23 (by decide +kernel) rfl, zme 4 24 (by decide +kernel) rfl⟩
theorem lo_X10_1 : Cond.methodLink RX10 1 Lib.objectInit ∈ zTB ∧ Cond.instanceMethod Lib.objectInit ∈ zTB ∧ Cond.code Lib.objectInit ⟨#[0xb1]⟩ 1 none ∈ zTB := ⟨zme 1 27 (by decide +kernel) rfl, zme 1 28 (by decide +kernel) rfl, zme 1 29 (by decide +kernel) rfl⟩
theorem lk_X10_17 : zlI RX10 17 (mX7_init 0) 4 := ⟨⟨zme 1 35 (by decide +kernel) rfl, zme 1 37 (by decide +kernel) rfl, zme 1 2 (by decide +kernel) rfl, by decide, by decide, by decide +kernel⟩, rfl, rfl, zme 1 36 (by decide +kernel) rfl⟩
theorem lk_X10_35 : zlN RX10 35 mX8_init 0 := ⟨⟨_, List.mem_of_getElem? (i := 0) rfl, rfl, rfl, rfl⟩, rfl, rfl, zme 1 67 (by decide +kernel) rfl, zme 1 68 (by decide +kernel) rfl, zme 1 4 (by decide +kernel) rfl, by decide, by decide, by decide +kernel⟩
theorem lk_X10_42 : zlI RX10 42 mX2_init 1 := ⟨⟨zme 1 149 (by decide +kernel) rfl, zme 1 151 (by decide +kernel) rfl, zme 1 6 (by decide +kernel) rfl, by decide, by decide, by decide +kernel⟩, rfl, rfl, zme 1 150 (by decide +kernel) rfl⟩
theorem lk_X10_51 : zlI RX10 51 mX3_init 1 := ⟨⟨zme 1 176 (by decide +kernel) rfl, zme 1 178 (by decide +kernel) rfl, zme 1 7 (by decide +kernel) rfl, by decide, by decide, by decide +kernel⟩, rfl, rfl, zme 1 177 (by decide +kernel) rfl⟩
theorem lk_X10_58 : zlI RX10 58 mX4_init 1 := ⟨⟨zme 1 206 (by decide +kernel) rfl, zme 1 208 (by decide +kernel) rfl, zme 1 8 (by decide +kernel) rfl, by decide, by decide, by decide +kernel⟩, rfl, rfl, zme 1 207 (by decide +kernel) rfl⟩
theorem lk_X10_67 : zlI RX10 67 mX9_init 1 := ⟨⟨zme 2 24 (by decide +kernel) rfl, zme 2 26 (by decide +kernel) rfl, zme 1 10 (by decide +kernel) rfl, by decide, by decide, by decide +kernel⟩, rfl, rfl, zme 2 25 (by decide +kernel) rfl⟩
theorem lk_X10_74 : zlI RX10 74 mX0_init 1 := ⟨⟨zme 2 50 (by decide +kernel) rfl, zme 2 52 (by decide +kernel) rfl, zme 1 11 (by decide +kernel) rfl, by decide, by decide, by decide +kernel⟩, rfl, rfl, zme 2 51 (by decide +kernel) rfl⟩
theorem lk_X10_81 : zlI RX10 81 mX6_init 0 := ⟨⟨zme 2 76 (by decide +kernel) rfl, zme 2 78 (by decide +kernel) rfl, zme 1 12 (by decide +kernel) rfl, by decide, by decide, by decide +kernel⟩, rfl, rfl, zme 2 77 (by decide +kernel) rfl⟩
theorem lk_X10_90 : zlS RX10 90 mX10_within 3 := ⟨⟨zme 2 132 (by decide +kernel) rfl, zme 2 134 (by decide +kernel) rfl, zme 1 1 (by decide +kernel) rfl, by decide, by decide, by decide +kernel⟩, zme 2 133 (by decide +kernel) rfl⟩
theorem lk_X10_94 : zlV RX10 94 mX10_textOf 1 := ⟨⟨zme 2 135 (by decide +kernel) rfl, zme 2 138 (by decide +kernel) rfl, zme 1 1 (by decide +kernel) rfl, by decide, by decide, by decide +kernel⟩, zme 2 137 (by decide +kernel) rfl, zme 0 0 (by decide +kernel) rfl⟩
theorem lk_X10_98 : zlV RX10 98 mX7_append 1 := ⟨⟨zme 2 139 (by decide +kernel) rfl, zme 2 142 (by decide +kernel) rfl, zme 1 2 (by decide +kernel) rfl, by decide, by decide, by decide +kernel⟩, zme 2 140 (by decide +kernel) rfl, zme 2 141 (by decide +kernel) rfl⟩
theorem lk_X10_102 : zlV RX10 102 mX10_readTexts 0 := ⟨⟨zme 2 143 (by decide +kernel) rfl, zme 2 146 (by decide +kernel) rfl, zme 1 1 (by decide +kernel) rfl, by decide, by decide, by decide +kernel⟩, zme 2 145 (by decide +kernel) rfl, zme 0 1 (by decide +kernel) rfl⟩
theorem lk_X10_109 : zlV RX10 109 mX7_faultPlace 0 := ⟨⟨zme 3 40 (by decide +kernel) rfl, zme 2 154 (by decide +kernel) rfl, zme 1 2 (by decide +kernel) rfl, by decide, by decide, by decide +kernel⟩, zme 2 152 (by decide +kernel) rfl, zme 2 153 (by decide +kernel) rfl⟩
theorem lk_X10_113 : zlV RX10 113 mX10_isPerson 1 := ⟨⟨zme 3 45 (by decide +kernel) rfl, zme 3 48 (by decide +kernel) rfl, zme 1 1 (by decide +kernel) rfl, by decide, by decide, by decide +kernel⟩, zme 3 47 (by decide +kernel) rfl, zme 0 5 (by decide +kernel) rfl⟩
theorem lk_X10_121 : zlV RX10 121 mX5_cell 2 := ⟨⟨zme 3 49 (by decide +kernel) rfl, zme 3 52 (by decide +kernel) rfl, zme 1 5 (by decide +kernel) rfl, by decide, by decide, by decide +kernel⟩, zme 3 50 (by decide +kernel) rfl, zme 3 51 (by decide +kernel) rfl⟩
theorem lk_X10_127 : zlV RX10 127 mX10_isDeed 1 := ⟨⟨zme 3 57 (by decide +kernel) rfl, zme 3 60 (by decide +kernel) rfl, zme 1 1 (by decide +kernel) rfl, by decide, by decide, by decide +kernel⟩, zme 3 59 (by decide +kernel) rfl, zme 0 6 (by decide +kernel) rfl⟩
theorem lk_X10_139 : zlV RX10 139 mX10_unsettle 0 := ⟨⟨zme 3 12 (by decide +kernel) rfl, zme 3 15 (by decide +kernel) rfl, zme 1 1 (by decide +kernel) rfl, by decide, by decide, by decide +kernel⟩, zme 3 14 (by decide +kernel) rfl, zme 0 4 (by decide +kernel) rfl⟩
theorem lk_X10_142 : zlS RX10 142 mX10_isMonth 1 := ⟨⟨zme 3 69 (by decide +kernel) rfl, zme 3 71 (by decide +kernel) rfl, zme 1 1 (by decide +kernel) rfl, by decide, by decide, by decide +kernel⟩, zme 3 70 (by decide +kernel) rfl⟩
theorem lk_X10_145 : zlS RX10 145 mX10_isCounty 1 := ⟨⟨zme 3 72 (by decide +kernel) rfl, zme 3 74 (by decide +kernel) rfl, zme 1 1 (by decide +kernel) rfl, by decide, by decide, by decide +kernel⟩, zme 3 73 (by decide +kernel) rfl⟩
theorem lk_X10_154 : zlV RX10 154 mX5_append 3 := ⟨⟨zme 3 75 (by decide +kernel) rfl, zme 3 11 (by decide +kernel) rfl, zme 1 5 (by decide +kernel) rfl, by decide, by decide, by decide +kernel⟩, zme 3 9 (by decide +kernel) rfl, zme 3 10 (by decide +kernel) rfl⟩
theorem lk_X10_163 : zlS RX10 163 mX10_isSheet 1 := ⟨⟨zme 3 92 (by decide +kernel) rfl, zme 3 94 (by decide +kernel) rfl, zme 1 1 (by decide +kernel) rfl, by decide, by decide, by decide +kernel⟩, zme 3 93 (by decide +kernel) rfl⟩
theorem lk_X10_166 : zlV RX10 166 mX6_isLost 1 := ⟨⟨zme 3 95 (by decide +kernel) rfl, zme 3 98 (by decide +kernel) rfl, zme 1 12 (by decide +kernel) rfl, by decide, by decide, by decide +kernel⟩, zme 3 96 (by decide +kernel) rfl, zme 3 97 (by decide +kernel) rfl⟩
theorem lk_X10_169 : zlV RX10 169 mX6_finding 1 := ⟨⟨zme 3 99 (by decide +kernel) rfl, zme 3 102 (by decide +kernel) rfl, zme 1 12 (by decide +kernel) rfl, by decide, by decide, by decide +kernel⟩, zme 3 100 (by decide +kernel) rfl, zme 3 101 (by decide +kernel) rfl⟩
theorem lk_X10_172 : zlV RX10 172 mX6_length 1 := ⟨⟨zme 3 103 (by decide +kernel) rfl, zme 3 106 (by decide +kernel) rfl, zme 1 12 (by decide +kernel) rfl, by decide, by decide, by decide +kernel⟩, zme 3 104 (by decide +kernel) rfl, zme 3 105 (by decide +kernel) rfl⟩
theorem lk_X10_174 : zlV RX10 174 mX6_item 2 := ⟨⟨zme 3 108 (by decide +kernel) rfl, zme 3 111 (by decide +kernel) rfl, zme 1 12 (by decide +kernel) rfl, by decide, by decide, by decide +kernel⟩, zme 3 109 (by decide +kernel) rfl, zme 3 110 (by decide +kernel) rfl⟩
theorem lk_X10_177 : zlV RX10 177 mX10_round 3 := ⟨⟨zme 3 117 (by decide +kernel) rfl, zme 3 68 (by decide +kernel) rfl, zme 1 1 (by decide +kernel) rfl, by decide, by decide, by decide +kernel⟩, zme 3 66 (by decide +kernel) rfl, zme 3 67 (by decide +kernel) rfl⟩
theorem lk_X10_180 : zlV RX10 180 mX10_settle 0 := ⟨⟨zme 3 122 (by decide +kernel) rfl, zme 3 125 (by decide +kernel) rfl, zme 1 1 (by decide +kernel) rfl, by decide, by decide, by decide +kernel⟩, zme 3 124 (by decide +kernel) rfl, zme 0 7 (by decide +kernel) rfl⟩
theorem lk_X10_183 : zlV RX10 183 mX2_behind 2 := ⟨⟨zme 3 173 (by decide +kernel) rfl, zme 3 176 (by decide +kernel) rfl, zme 1 6 (by decide +kernel) rfl, by decide, by decide, by decide +kernel⟩, zme 3 174 (by decide +kernel) rfl, zme 3 175 (by decide +kernel) rfl⟩
theorem lk_X10_186 : zlV RX10 186 mX2_deathOf 1 := ⟨⟨zme 3 181 (by decide +kernel) rfl, zme 3 184 (by decide +kernel) rfl, zme 1 6 (by decide +kernel) rfl, by decide, by decide, by decide +kernel⟩, zme 3 182 (by decide +kernel) rfl, zme 3 183 (by decide +kernel) rfl⟩
theorem lk_X10_189 : zlV RX10 189 mX2_taxBehind 1 := ⟨⟨zme 3 197 (by decide +kernel) rfl, zme 3 200 (by decide +kernel) rfl, zme 1 6 (by decide +kernel) rfl, by decide, by decide, by decide +kernel⟩, zme 3 198 (by decide +kernel) rfl, zme 3 199 (by decide +kernel) rfl⟩
theorem lk_X10_192 : zlV RX10 192 mX2_heaviestBehind 1 := ⟨⟨zme 3 210 (by decide +kernel) rfl, zme 3 213 (by decide +kernel) rfl, zme 1 6 (by decide +kernel) rfl, by decide, by decide, by decide +kernel⟩, zme 3 211 (by decide +kernel) rfl, zme 3 212 (by decide +kernel) rfl⟩
theorem lk_X10_201 : zlV RX10 201 mX4_findRound 1 := ⟨⟨zme 3 222 (by decide +kernel) rfl, zme 3 225 (by decide +kernel) rfl, zme 1 8 (by decide +kernel) rfl, by decide, by decide, by decide +kernel⟩, zme 3 223 (by decide +kernel) rfl, zme 3 224 (by decide +kernel) rfl⟩
theorem lk_X10_214 : zlV RX10 214 mX4_fewestDeeds 3 := ⟨⟨zme 4 10 (by decide +kernel) rfl, zme 4 13 (by decide +kernel) rfl, zme 1 8 (by decide +kernel) rfl, by decide, by decide, by decide +kernel⟩, zme 4 11 (by decide +kernel) rfl, zme 4 12 (by decide +kernel) rfl⟩
theorem lk_X10_217 : zlV RX10 217 mX4_fewestRounds 1 := ⟨⟨zme 4 44 (by decide +kernel) rfl, zme 4 47 (by decide +kernel) rfl, zme 1 8 (by decide +kernel) rfl, by decide, by decide, by decide +kernel⟩, zme 4 45 (by decide +kernel) rfl, zme 4 46 (by decide +kernel) rfl⟩
theorem lk_X10_220 : zlV RX10 220 mX4_findHome 1 := ⟨⟨zme 4 56 (by decide +kernel) rfl, zme 4 59 (by decide +kernel) rfl, zme 1 8 (by decide +kernel) rfl, by decide, by decide, by decide +kernel⟩, zme 4 57 (by decide +kernel) rfl, zme 4 58 (by decide +kernel) rfl⟩
theorem lk_X10_232 : zlV RX10 232 mX9_unsettle 0 := ⟨⟨zme 3 20 (by decide +kernel) rfl, zme 3 23 (by decide +kernel) rfl, zme 1 10 (by decide +kernel) rfl, by decide, by decide, by decide +kernel⟩, zme 3 21 (by decide +kernel) rfl, zme 3 22 (by decide +kernel) rfl⟩
theorem lk_X10_233 : zlV RX10 233 mX9_survey 0 := ⟨⟨zme 4 76 (by decide +kernel) rfl, zme 4 79 (by decide +kernel) rfl, zme 1 10 (by decide +kernel) rfl, by decide, by decide, by decide +kernel⟩, zme 4 77 (by decide +kernel) rfl, zme 4 78 (by decide +kernel) rfl⟩
theorem lk_X10_239 : zlV RX10 239 mX9_fitting 3 := ⟨⟨zme 4 99 (by decide +kernel) rfl, zme 4 102 (by decide +kernel) rfl, zme 1 10 (by decide +kernel) rfl, by decide, by decide, by decide +kernel⟩, zme 4 100 (by decide +kernel) rfl, zme 4 101 (by decide +kernel) rfl⟩
theorem lk_X10_242 : zlV RX10 242 mX9_monthToAsk 1 := ⟨⟨zme 4 113 (by decide +kernel) rfl, zme 4 116 (by decide +kernel) rfl, zme 1 10 (by decide +kernel) rfl, by decide, by decide, by decide +kernel⟩, zme 4 114 (by decide +kernel) rfl, zme 4 115 (by decide +kernel) rfl⟩
theorem lk_X10_249 : zlV RX10 249 mX0_findLiving 2 := ⟨⟨zme 4 130 (by decide +kernel) rfl, zme 4 133 (by decide +kernel) rfl, zme 1 11 (by decide +kernel) rfl, by decide, by decide, by decide +kernel⟩, zme 4 131 (by decide +kernel) rfl, zme 4 132 (by decide +kernel) rfl⟩
theorem lk_X10_253 : zlV RX10 253 mX0_above 1 := ⟨⟨zme 4 163 (by decide +kernel) rfl, zme 4 166 (by decide +kernel) rfl, zme 1 11 (by decide +kernel) rfl, by decide, by decide, by decide +kernel⟩, zme 4 164 (by decide +kernel) rfl, zme 4 165 (by decide +kernel) rfl⟩
theorem lk_X10_257 : zlV RX10 257 mX0_below 1 := ⟨⟨zme 4 167 (by decide +kernel) rfl, zme 4 170 (by decide +kernel) rfl, zme 1 11 (by decide +kernel) rfl, by decide, by decide, by decide +kernel⟩, zme 4 168 (by decide +kernel) rfl, zme 4 169 (by decide +kernel) rfl⟩
theorem lk_X10_260 : zlV RX10 260 mX0_runYears 2 := ⟨⟨zme 4 175 (by decide +kernel) rfl, zme 4 178 (by decide +kernel) rfl, zme 1 11 (by decide +kernel) rfl, by decide, by decide, by decide +kernel⟩, zme 4 176 (by decide +kernel) rfl, zme 4 177 (by decide +kernel) rfl⟩
theorem lk_X10_264 : zlV RX10 264 mX2_worthInAll 0 := ⟨⟨zme 4 184 (by decide +kernel) rfl, zme 4 5 (by decide +kernel) rfl, zme 1 6 (by decide +kernel) rfl, by decide, by decide, by decide +kernel⟩, zme 4 3 (by decide +kernel) rfl, zme 4 4 (by decide +kernel) rfl⟩
theorem lk_X10_267 : zlV RX10 267 mX6_renew 3 := ⟨⟨zme 4 189 (by decide +kernel) rfl, zme 4 192 (by decide +kernel) rfl, zme 1 12 (by decide +kernel) rfl, by decide, by decide, by decide +kernel⟩, zme 4 190 (by decide +kernel) rfl, zme 4 191 (by decide +kernel) rfl⟩
theorem lk_X10_270 : zlV RX10 270 mX6_drop 1 := ⟨⟨zme 4 197 (by decide +kernel) rfl, zme 4 200 (by decide +kernel) rfl, zme 1 12 (by decide +kernel) rfl, by decide, by decide, by decide +kernel⟩, zme 4 198 (by decide +kernel) rfl, zme 4 199 (by decide +kernel) rfl⟩
theorem lk_X10_273 : zlV RX10 273 mX6_faultAt 3 := ⟨⟨zme 4 205 (by decide +kernel) rfl, zme 4 208 (by decide +kernel) rfl, zme 1 12 (by decide +kernel) rfl, by decide, by decide, by decide +kernel⟩, zme 4 206 (by decide +kernel) rfl, zme 4 207 (by decide +kernel) rfl⟩
theorem lk_X10_276 : zlV RX10 276 mX6_store 3 := ⟨⟨zme 4 209 (by decide +kernel) rfl, zme 4 212 (by decide +kernel) rfl, zme 1 12 (by decide +kernel) rfl, by decide, by decide, by decide +kernel⟩, zme 4 210 (by decide +kernel) rfl, zme 4 211 (by decide +kernel) rfl⟩
theorem lk_X10_283 : zlV RX10 283 mX6_alike 2 := ⟨⟨zme 4 222 (by decide +kernel) rfl, zme 4 225 (by decide +kernel) rfl, zme 1 12 (by decide +kernel) rfl, by decide, by decide, by decide +kernel⟩, zme 4 223 (by decide +kernel) rfl, zme 4 224 (by decide +kernel) rfl⟩
theorem lk_X10_287 : zlV RX10 287 mX6_holds 3 := ⟨⟨zme 4 226 (by decide +kernel) rfl, zme 3 115 (by decide +kernel) rfl, zme 1 12 (by decide +kernel) rfl, by decide, by decide, by decide +kernel⟩, zme 3 113 (by decide +kernel) rfl, zme 3 114 (by decide +kernel) rfl⟩
theorem lk_X10_290 : zlV RX10 290 mX6_move 5 := ⟨⟨zme 4 227 (by decide +kernel) rfl, zme 4 230 (by decide +kernel) rfl, zme 1 12 (by decide +kernel) rfl, by decide, by decide, by decide +kernel⟩, zme 4 228 (by decide +kernel) rfl, zme 4 229 (by decide +kernel) rfl⟩
theorem lm_X10_294 : Cond.methodLink RX10 294 Lib.Math.min.name ∈ zTB ∧ Cond.static Lib.Math.min.name ∈ zTB ∧ Cond.initialized "java/lang/Math" ∈ zTB ∧ Cond.code Lib.Math.min.name Lib.Math.min.code 2 (some .int) ∈ zTB := ⟨zme 4 236 (by decide +kernel) rfl, zme 2 194 (by decide +kernel) rfl, zme 1 3 (by decide +kernel) rfl, zme 2 195 (by decide +kernel) rfl⟩
theorem lk_X10_299 : zlV RX10 299 mX2_living 0 := ⟨⟨zme 5 1 (by decide +kernel) rfl, zme 4 51 (by decide +kernel) rfl, zme 1 6 (by decide +kernel) rfl, by decide, by decide, by decide +kernel⟩, zme 4 49 (by decide +kernel) rfl, zme 4 50 (by decide +kernel) rfl⟩
theorem lk_X10_309 : zlV RX10 309 mX10_count 1 := ⟨⟨zme 5 8 (by decide +kernel) rfl, zme 5 0 (by decide +kernel) rfl, zme 1 1 (by decide +kernel) rfl, by decide, by decide, by decide +kernel⟩, zme 4 238 (by decide +kernel) rfl, zme 4 239 (by decide +kernel) rfl⟩
theorem lk_X10_311 : zlV RX10 311 mX10_fault 1 := ⟨⟨zme 5 9 (by decide +kernel) rfl, zme 3 39 (by decide +kernel) rfl, zme 1 1 (by decide +kernel) rfl, by decide, by decide, by decide +kernel⟩, zme 3 37 (by decide +kernel) rfl, zme 3 38 (by decide +kernel) rfl⟩
theorem lk_X10_314 : zlV RX10 314 mX10_digestPerson 2 := ⟨⟨zme 5 10 (by decide +kernel) rfl, zme 5 13 (by decide +kernel) rfl, zme 1 1 (by decide +kernel) rfl, by decide, by decide, by decide +kernel⟩, zme 5 12 (by decide +kernel) rfl, zme 0 27 (by decide +kernel) rfl⟩
theorem lk_X10_318 : zlV RX10 318 mX10_deed 2 := ⟨⟨zme 5 21 (by decide +kernel) rfl, zme 3 56 (by decide +kernel) rfl, zme 1 1 (by decide +kernel) rfl, by decide, by decide, by decide +kernel⟩, zme 3 54 (by decide +kernel) rfl, zme 3 55 (by decide +kernel) rfl⟩
theorem lk_X10_321 : zlV RX10 321 mX10_was 2 := ⟨⟨zme 5 22 (by decide +kernel) rfl, zme 4 98 (by decide +kernel) rfl, zme 1 1 (by decide +kernel) rfl, by decide, by decide, by decide +kernel⟩, zme 4 96 (by decide +kernel) rfl, zme 4 97 (by decide +kernel) rfl⟩
theorem lk_X10_324 : zlV RX10 324 mX10_cloth 3 := ⟨⟨zme 5 23 (by decide +kernel) rfl, zme 3 188 (by decide +kernel) rfl, zme 1 1 (by decide +kernel) rfl, by decide, by decide, by decide +kernel⟩, zme 3 186 (by decide +kernel) rfl, zme 3 187 (by decide +kernel) rfl⟩
theorem lk_X10_327 : zlV RX10 327 mX10_thorn 1 := ⟨⟨zme 5 24 (by decide +kernel) rfl, zme 3 192 (by decide +kernel) rfl, zme 1 1 (by decide +kernel) rfl, by decide, by decide, by decide +kernel⟩, zme 3 190 (by decide +kernel) rfl, zme 3 191 (by decide +kernel) rfl⟩
theorem lk_X10_330 : zlV RX10 330 mX10_heaviest 1 := ⟨⟨zme 5 25 (by decide +kernel) rfl, zme 3 209 (by decide +kernel) rfl, zme 1 1 (by decide +kernel) rfl, by decide, by decide, by decide +kernel⟩, zme 3 207 (by decide +kernel) rfl, zme 3 208 (by decide +kernel) rfl⟩
theorem lk_X10_333 : zlV RX10 333 mX10_tax 1 := ⟨⟨zme 5 26 (by decide +kernel) rfl, zme 3 196 (by decide +kernel) rfl, zme 1 1 (by decide +kernel) rfl, by decide, by decide, by decide +kernel⟩, zme 3 194 (by decide +kernel) rfl, zme 3 195 (by decide +kernel) rfl⟩
theorem lk_X10_336 : zlV RX10 336 mX10_first 1 := ⟨⟨zme 5 27 (by decide +kernel) rfl, zme 3 217 (by decide +kernel) rfl, zme 1 1 (by decide +kernel) rfl, by decide, by decide, by decide +kernel⟩, zme 3 215 (by decide +kernel) rfl, zme 3 216 (by decide +kernel) rfl⟩
theorem lk_X10_339 : zlV RX10 339 mX10_plan 2 := ⟨⟨zme 5 28 (by decide +kernel) rfl, zme 3 221 (by decide +kernel) rfl, zme 1 1 (by decide +kernel) rfl, by decide, by decide, by decide +kernel⟩, zme 3 219 (by decide +kernel) rfl, zme 3 220 (by decide +kernel) rfl⟩
theorem lk_X10_342 : zlV RX10 342 mX10_spare 1 := ⟨⟨zme 5 29 (by decide +kernel) rfl, zme 4 43 (by decide +kernel) rfl, zme 1 1 (by decide +kernel) rfl, by decide, by decide, by decide +kernel⟩, zme 4 41 (by decide +kernel) rfl, zme 4 42 (by decide +kernel) rfl⟩
theorem lk_X10_345 : zlV RX10 345 mX10_never 0 := ⟨⟨zme 5 30 (by decide +kernel) rfl, zme 4 75 (by decide +kernel) rfl, zme 1 1 (by decide +kernel) rfl, by decide, by decide, by decide +kernel⟩, zme 4 73 (by decide +kernel) rfl, zme 4 74 (by decide +kernel) rfl⟩
theorem lk_X10_347 : zlV RX10 347 mX10_years 3 := ⟨⟨zme 5 31 (by decide +kernel) rfl, zme 4 174 (by decide +kernel) rfl, zme 1 1 (by decide +kernel) rfl, by decide, by decide, by decide +kernel⟩, zme 4 172 (by decide +kernel) rfl, zme 4 173 (by decide +kernel) rfl⟩
theorem lk_X10_350 : zlV RX10 350 mX10_person 2 := ⟨⟨zme 5 14 (by decide +kernel) rfl, zme 3 44 (by decide +kernel) rfl, zme 1 1 (by decide +kernel) rfl, by decide, by decide, by decide +kernel⟩, zme 3 42 (by decide +kernel) rfl, zme 3 43 (by decide +kernel) rfl⟩
theorem lk_X10_353 : zlV RX10 353 mX10_wool 3 := ⟨⟨zme 5 15 (by decide +kernel) rfl, zme 3 121 (by decide +kernel) rfl, zme 1 1 (by decide +kernel) rfl, by decide, by decide, by decide +kernel⟩, zme 3 119 (by decide +kernel) rfl, zme 3 120 (by decide +kernel) rfl⟩
theorem lk_X10_356 : zlV RX10 356 mX10_dies 1 := ⟨⟨zme 5 16 (by decide +kernel) rfl, zme 3 180 (by decide +kernel) rfl, zme 1 1 (by decide +kernel) rfl, by decide, by decide, by decide +kernel⟩, zme 3 178 (by decide +kernel) rfl, zme 3 179 (by decide +kernel) rfl⟩
theorem lk_X10_359 : zlV RX10 359 mX10_light 3 := ⟨⟨zme 5 17 (by decide +kernel) rfl, zme 4 9 (by decide +kernel) rfl, zme 1 1 (by decide +kernel) rfl, by decide, by decide, by decide +kernel⟩, zme 4 7 (by decide +kernel) rfl, zme 4 8 (by decide +kernel) rfl⟩
theorem lk_X10_362 : zlV RX10 362 mX10_home 2 := ⟨⟨zme 5 18 (by decide +kernel) rfl, zme 4 55 (by decide +kernel) rfl, zme 1 1 (by decide +kernel) rfl, by decide, by decide, by decide +kernel⟩, zme 4 53 (by decide +kernel) rfl, zme 4 54 (by decide +kernel) rfl⟩
theorem lk_X10_365 : zlV RX10 365 mX10_ask 1 := ⟨⟨zme 5 19 (by decide +kernel) rfl, zme 4 112 (by decide +kernel) rfl, zme 1 1 (by decide +kernel) rfl, by decide, by decide, by decide +kernel⟩, zme 4 110 (by decide +kernel) rfl, zme 4 111 (by decide +kernel) rfl⟩
theorem lk_X10_368 : zlV RX10 368 mX10_virtue 4 := ⟨⟨zme 5 20 (by decide +kernel) rfl, zme 4 128 (by decide +kernel) rfl, zme 1 1 (by decide +kernel) rfl, by decide, by decide, by decide +kernel⟩, zme 4 126 (by decide +kernel) rfl, zme 4 127 (by decide +kernel) rfl⟩
theorem lk_X10_372 : zlV RX10 372 mX7_readInto 1 := ⟨⟨zme 2 147 (by decide +kernel) rfl, zme 2 150 (by decide +kernel) rfl, zme 1 2 (by decide +kernel) rfl, by decide, by decide, by decide +kernel⟩, zme 2 148 (by decide +kernel) rfl, zme 2 149 (by decide +kernel) rfl⟩
theorem lk_X10_376 : zlV RX10 376 mX4_unsettle 0 := ⟨⟨zme 3 16 (by decide +kernel) rfl, zme 3 19 (by decide +kernel) rfl, zme 1 8 (by decide +kernel) rfl, by decide, by decide, by decide +kernel⟩, zme 3 17 (by decide +kernel) rfl, zme 3 18 (by decide +kernel) rfl⟩
theorem lk_X10_377 : zlV RX10 377 mX0_unsettle 0 := ⟨⟨zme 3 24 (by decide +kernel) rfl, zme 3 27 (by decide +kernel) rfl, zme 1 11 (by decide +kernel) rfl, by decide, by decide, by decide +kernel⟩, zme 3 25 (by decide +kernel) rfl, zme 3 26 (by decide +kernel) rfl⟩
theorem lk_X10_378 : zlV RX10 378 mX2_run 1 := ⟨⟨zme 3 126 (by decide +kernel) rfl, zme 3 129 (by decide +kernel) rfl, zme 1 6 (by decide +kernel) rfl, by decide, by decide, by decide +kernel⟩, zme 3 127 (by decide +kernel) rfl, zme 3 128 (by decide +kernel) rfl⟩
theorem lo_X11_1 : Cond.methodLink RX11 1 Lib.objectInit ∈ zTB ∧ Cond.instanceMethod Lib.objectInit ∈ zTB ∧ Cond.code Lib.objectInit ⟨#[0xb1]⟩ 1 none ∈ zTB := ⟨zme 5 37 (by decide +kernel) rfl, zme 1 28 (by decide +kernel) rfl, zme 1 29 (by decide +kernel) rfl⟩
theorem lk_X11_140 : zlS RX11 140 mX11_in 3 := ⟨⟨zme 5 215 (by decide +kernel) rfl, zme 5 217 (by decide +kernel) rfl, zme 1 14 (by decide +kernel) rfl, by decide, by decide, by decide +kernel⟩, zme 5 216 (by decide +kernel) rfl⟩
theorem lk_X11_144 : zlS RX11 144 mX11_isText 1 := ⟨⟨zme 5 212 (by decide +kernel) rfl, zme 5 214 (by decide +kernel) rfl, zme 1 14 (by decide +kernel) rfl, by decide, by decide, by decide +kernel⟩, zme 5 213 (by decide +kernel) rfl⟩
theorem lk_X11_148 : zlV RX11 148 mX11_byteAt 2 := ⟨⟨zme 6 2 (by decide +kernel) rfl, zme 6 5 (by decide +kernel) rfl, zme 1 14 (by decide +kernel) rfl, by decide, by decide, by decide +kernel⟩, zme 6 4 (by decide +kernel) rfl, zme 0 31 (by decide +kernel) rfl⟩
theorem lk_X11_158 : zlV RX11 158 mX11_readsPerson 2 := ⟨⟨zme 5 238 (by decide +kernel) rfl, zme 6 1 (by decide +kernel) rfl, zme 1 14 (by decide +kernel) rfl, by decide, by decide, by decide +kernel⟩, zme 6 0 (by decide +kernel) rfl, zme 0 30 (by decide +kernel) rfl⟩
theorem lk_X11_161 : zlV RX11 161 mX11_readsDeed 2 := ⟨⟨zme 6 6 (by decide +kernel) rfl, zme 6 9 (by decide +kernel) rfl, zme 1 14 (by decide +kernel) rfl, by decide, by decide, by decide +kernel⟩, zme 6 8 (by decide +kernel) rfl, zme 0 32 (by decide +kernel) rfl⟩
theorem lk_X11_164 : zlV RX11 164 mX11_readsParts 1 := ⟨⟨zme 5 234 (by decide +kernel) rfl, zme 5 237 (by decide +kernel) rfl, zme 1 14 (by decide +kernel) rfl, by decide, by decide, by decide +kernel⟩, zme 5 236 (by decide +kernel) rfl, zme 0 29 (by decide +kernel) rfl⟩
theorem lk_X11_168 : zlV RX11 168 mX11_faultOf 1 := ⟨⟨zme 5 230 (by decide +kernel) rfl, zme 5 233 (by decide +kernel) rfl, zme 1 14 (by decide +kernel) rfl, by decide, by decide, by decide +kernel⟩, zme 5 232 (by decide +kernel) rfl, zme 0 28 (by decide +kernel) rfl⟩
theorem lk_X11_171 : zlV RX11 171 mX11_reads 0 := ⟨⟨zme 6 18 (by decide +kernel) rfl, zme 6 21 (by decide +kernel) rfl, zme 1 14 (by decide +kernel) rfl, by decide, by decide, by decide +kernel⟩, zme 6 20 (by decide +kernel) rfl, zme 0 34 (by decide +kernel) rfl⟩
theorem lk_X11_174 : zlV RX11 174 mX11_isPerson 1 := ⟨⟨zme 6 14 (by decide +kernel) rfl, zme 6 17 (by decide +kernel) rfl, zme 1 14 (by decide +kernel) rfl, by decide, by decide, by decide +kernel⟩, zme 6 16 (by decide +kernel) rfl, zme 0 33 (by decide +kernel) rfl⟩
theorem lk_X11_177 : zlV RX11 177 mX11_personOf 2 := ⟨⟨zme 6 22 (by decide +kernel) rfl, zme 6 25 (by decide +kernel) rfl, zme 1 14 (by decide +kernel) rfl, by decide, by decide, by decide +kernel⟩, zme 6 24 (by decide +kernel) rfl, zme 0 35 (by decide +kernel) rfl⟩
theorem lk_X11_180 : zlV RX11 180 mX11_isDeed 1 := ⟨⟨zme 6 30 (by decide +kernel) rfl, zme 6 33 (by decide +kernel) rfl, zme 1 14 (by decide +kernel) rfl, by decide, by decide, by decide +kernel⟩, zme 6 32 (by decide +kernel) rfl, zme 0 36 (by decide +kernel) rfl⟩
theorem lk_X11_183 : zlV RX11 183 mX11_deedOf 2 := ⟨⟨zme 6 34 (by decide +kernel) rfl, zme 6 37 (by decide +kernel) rfl, zme 1 14 (by decide +kernel) rfl, by decide, by decide, by decide +kernel⟩, zme 6 36 (by decide +kernel) rfl, zme 0 37 (by decide +kernel) rfl⟩
theorem lk_X11_186 : zlS RX11 186 mX11_isMonth 1 := ⟨⟨zme 6 46 (by decide +kernel) rfl, zme 6 48 (by decide +kernel) rfl, zme 1 14 (by decide +kernel) rfl, by decide, by decide, by decide +kernel⟩, zme 6 47 (by decide +kernel) rfl⟩
theorem lk_X11_189 : zlS RX11 189 mX11_isCounty 1 := ⟨⟨zme 6 49 (by decide +kernel) rfl, zme 6 51 (by decide +kernel) rfl, zme 1 14 (by decide +kernel) rfl, by decide, by decide, by decide +kernel⟩, zme 6 50 (by decide +kernel) rfl⟩
theorem lk_X11_201 : zlS RX11 201 mX11_isSheet 1 := ⟨⟨zme 6 68 (by decide +kernel) rfl, zme 6 70 (by decide +kernel) rfl, zme 1 14 (by decide +kernel) rfl, by decide, by decide, by decide +kernel⟩, zme 6 69 (by decide +kernel) rfl⟩
theorem lk_X11_204 : zlV RX11 204 mX11_meets 1 := ⟨⟨zme 6 71 (by decide +kernel) rfl, zme 6 74 (by decide +kernel) rfl, zme 1 14 (by decide +kernel) rfl, by decide, by decide, by decide +kernel⟩, zme 6 73 (by decide +kernel) rfl, zme 0 38 (by decide +kernel) rfl⟩
theorem lk_X11_207 : zlV RX11 207 mX11_round 3 := ⟨⟨zme 6 75 (by decide +kernel) rfl, zme 6 45 (by decide +kernel) rfl, zme 1 14 (by decide +kernel) rfl, by decide, by decide, by decide +kernel⟩, zme 6 43 (by decide +kernel) rfl, zme 6 44 (by decide +kernel) rfl⟩
theorem lk_X11_223 : zlS RX11 223 mX11_isIn 2 := ⟨⟨zme 6 100 (by decide +kernel) rfl, zme 6 102 (by decide +kernel) rfl, zme 1 14 (by decide +kernel) rfl, by decide, by decide, by decide +kernel⟩, zme 6 101 (by decide +kernel) rfl⟩
theorem lk_X11_227 : zlV RX11 227 mX11_lives 1 := ⟨⟨zme 6 103 (by decide +kernel) rfl, zme 6 106 (by decide +kernel) rfl, zme 1 14 (by decide +kernel) rfl, by decide, by decide, by decide +kernel⟩, zme 6 105 (by decide +kernel) rfl, zme 0 44 (by decide +kernel) rfl⟩
theorem lk_X11_230 : zlS RX11 230 mX11_weightOf 1 := ⟨⟨zme 6 107 (by decide +kernel) rfl, zme 6 109 (by decide +kernel) rfl, zme 1 14 (by decide +kernel) rfl, by decide, by decide, by decide +kernel⟩, zme 6 108 (by decide +kernel) rfl⟩
theorem lk_X11_242 : zlV RX11 242 mX11_nextIn 1 := ⟨⟨zme 6 118 (by decide +kernel) rfl, zme 6 121 (by decide +kernel) rfl, zme 1 14 (by decide +kernel) rfl, by decide, by decide, by decide +kernel⟩, zme 6 120 (by decide +kernel) rfl, zme 0 47 (by decide +kernel) rfl⟩
theorem lk_X11_245 : zlV RX11 245 mX11_shears 2 := ⟨⟨zme 6 122 (by decide +kernel) rfl, zme 6 125 (by decide +kernel) rfl, zme 1 14 (by decide +kernel) rfl, by decide, by decide, by decide +kernel⟩, zme 6 124 (by decide +kernel) rfl, zme 0 48 (by decide +kernel) rfl⟩
theorem lk_X11_249 : zlV RX11 249 mX11_heaviestNow 0 := ⟨⟨zme 6 130 (by decide +kernel) rfl, zme 6 133 (by decide +kernel) rfl, zme 1 14 (by decide +kernel) rfl, by decide, by decide, by decide +kernel⟩, zme 6 132 (by decide +kernel) rfl, zme 0 50 (by decide +kernel) rfl⟩
theorem lk_X11_253 : zlV RX11 253 mX11_grows 1 := ⟨⟨zme 6 96 (by decide +kernel) rfl, zme 6 99 (by decide +kernel) rfl, zme 1 14 (by decide +kernel) rfl, by decide, by decide, by decide +kernel⟩, zme 6 98 (by decide +kernel) rfl, zme 0 43 (by decide +kernel) rfl⟩
theorem lk_X11_257 : zlV RX11 257 mX11_goes 1 := ⟨⟨zme 6 110 (by decide +kernel) rfl, zme 6 113 (by decide +kernel) rfl, zme 1 14 (by decide +kernel) rfl, by decide, by decide, by decide +kernel⟩, zme 6 112 (by decide +kernel) rfl, zme 0 45 (by decide +kernel) rfl⟩
theorem lk_X11_260 : zlV RX11 260 mX11_shearsAll 1 := ⟨⟨zme 6 114 (by decide +kernel) rfl, zme 6 117 (by decide +kernel) rfl, zme 1 14 (by decide +kernel) rfl, by decide, by decide, by decide +kernel⟩, zme 6 116 (by decide +kernel) rfl, zme 0 46 (by decide +kernel) rfl⟩
theorem lk_X11_263 : zlV RX11 263 mX11_keeps 1 := ⟨⟨zme 6 126 (by decide +kernel) rfl, zme 6 129 (by decide +kernel) rfl, zme 1 14 (by decide +kernel) rfl, by decide, by decide, by decide +kernel⟩, zme 6 128 (by decide +kernel) rfl, zme 0 49 (by decide +kernel) rfl⟩
theorem lk_X11_266 : zlV RX11 266 mX11_asTold 0 := ⟨⟨zme 6 88 (by decide +kernel) rfl, zme 6 91 (by decide +kernel) rfl, zme 1 14 (by decide +kernel) rfl, by decide, by decide, by decide +kernel⟩, zme 6 90 (by decide +kernel) rfl, zme 0 41 (by decide +kernel) rfl⟩
theorem lk_X11_269 : zlV RX11 269 mX11_runs 0 := ⟨⟨zme 6 92 (by decide +kernel) rfl, zme 6 95 (by decide +kernel) rfl, zme 1 14 (by decide +kernel) rfl, by decide, by decide, by decide +kernel⟩, zme 6 94 (by decide +kernel) rfl, zme 0 42 (by decide +kernel) rfl⟩
theorem lk_X11_272 : zlV RX11 272 mX11_runsTold 0 := ⟨⟨zme 6 84 (by decide +kernel) rfl, zme 6 87 (by decide +kernel) rfl, zme 1 14 (by decide +kernel) rfl, by decide, by decide, by decide +kernel⟩, zme 6 86 (by decide +kernel) rfl, zme 0 40 (by decide +kernel) rfl⟩
theorem lk_X11_275 : zlV RX11 275 mX11_woolOf 3 := ⟨⟨zme 6 80 (by decide +kernel) rfl, zme 6 83 (by decide +kernel) rfl, zme 1 14 (by decide +kernel) rfl, by decide, by decide, by decide +kernel⟩, zme 6 82 (by decide +kernel) rfl, zme 0 39 (by decide +kernel) rfl⟩
theorem lk_X11_278 : zlV RX11 278 mX11_diesOf 1 := ⟨⟨zme 6 138 (by decide +kernel) rfl, zme 6 141 (by decide +kernel) rfl, zme 1 14 (by decide +kernel) rfl, by decide, by decide, by decide +kernel⟩, zme 6 140 (by decide +kernel) rfl, zme 0 51 (by decide +kernel) rfl⟩
theorem lk_X11_281 : zlV RX11 281 mX11_clothOf 3 := ⟨⟨zme 6 146 (by decide +kernel) rfl, zme 6 149 (by decide +kernel) rfl, zme 1 14 (by decide +kernel) rfl, by decide, by decide, by decide +kernel⟩, zme 6 148 (by decide +kernel) rfl, zme 0 52 (by decide +kernel) rfl⟩
theorem lk_X11_284 : zlV RX11 284 mX11_thornOf 1 := ⟨⟨zme 6 154 (by decide +kernel) rfl, zme 6 157 (by decide +kernel) rfl, zme 1 14 (by decide +kernel) rfl, by decide, by decide, by decide +kernel⟩, zme 6 156 (by decide +kernel) rfl, zme 0 53 (by decide +kernel) rfl⟩
theorem lk_X11_287 : zlV RX11 287 mX11_taxOf 1 := ⟨⟨zme 6 162 (by decide +kernel) rfl, zme 6 165 (by decide +kernel) rfl, zme 1 14 (by decide +kernel) rfl, by decide, by decide, by decide +kernel⟩, zme 6 164 (by decide +kernel) rfl, zme 0 54 (by decide +kernel) rfl⟩
theorem lk_X11_290 : zlV RX11 290 mX11_heaviestOf 1 := ⟨⟨zme 6 170 (by decide +kernel) rfl, zme 6 173 (by decide +kernel) rfl, zme 1 14 (by decide +kernel) rfl, by decide, by decide, by decide +kernel⟩, zme 6 172 (by decide +kernel) rfl, zme 0 55 (by decide +kernel) rfl⟩
theorem lk_X11_293 : zlV RX11 293 mX11_firstOf 1 := ⟨⟨zme 6 178 (by decide +kernel) rfl, zme 6 181 (by decide +kernel) rfl, zme 1 14 (by decide +kernel) rfl, by decide, by decide, by decide +kernel⟩, zme 6 180 (by decide +kernel) rfl, zme 0 56 (by decide +kernel) rfl⟩
theorem lk_X11_296 : zlV RX11 296 mX11_worthAll 0 := ⟨⟨zme 6 190 (by decide +kernel) rfl, zme 6 193 (by decide +kernel) rfl, zme 1 14 (by decide +kernel) rfl, by decide, by decide, by decide +kernel⟩, zme 6 192 (by decide +kernel) rfl, zme 0 58 (by decide +kernel) rfl⟩
theorem lk_X11_299 : zlV RX11 299 mX11_planOf 2 := ⟨⟨zme 6 186 (by decide +kernel) rfl, zme 6 189 (by decide +kernel) rfl, zme 1 14 (by decide +kernel) rfl, by decide, by decide, by decide +kernel⟩, zme 6 188 (by decide +kernel) rfl, zme 0 57 (by decide +kernel) rfl⟩
theorem lk_X11_302 : zlV RX11 302 mX11_isLight 3 := ⟨⟨zme 6 202 (by decide +kernel) rfl, zme 6 205 (by decide +kernel) rfl, zme 1 14 (by decide +kernel) rfl, by decide, by decide, by decide +kernel⟩, zme 6 204 (by decide +kernel) rfl, zme 0 60 (by decide +kernel) rfl⟩
theorem lk_X11_305 : zlV RX11 305 mX11_lightBy 2 := ⟨⟨zme 6 198 (by decide +kernel) rfl, zme 6 201 (by decide +kernel) rfl, zme 1 14 (by decide +kernel) rfl, by decide, by decide, by decide +kernel⟩, zme 6 200 (by decide +kernel) rfl, zme 0 59 (by decide +kernel) rfl⟩
theorem lk_X11_308 : zlV RX11 308 mX11_ofRow 2 := ⟨⟨zme 6 206 (by decide +kernel) rfl, zme 6 209 (by decide +kernel) rfl, zme 1 14 (by decide +kernel) rfl, by decide, by decide, by decide +kernel⟩, zme 6 208 (by decide +kernel) rfl, zme 0 61 (by decide +kernel) rfl⟩
theorem lk_X11_311 : zlV RX11 311 mX11_livesMany 0 := ⟨⟨zme 6 222 (by decide +kernel) rfl, zme 6 225 (by decide +kernel) rfl, zme 1 14 (by decide +kernel) rfl, by decide, by decide, by decide +kernel⟩, zme 6 224 (by decide +kernel) rfl, zme 0 64 (by decide +kernel) rfl⟩
theorem lk_X11_314 : zlV RX11 314 mX11_isSpared 1 := ⟨⟨zme 6 218 (by decide +kernel) rfl, zme 6 221 (by decide +kernel) rfl, zme 1 14 (by decide +kernel) rfl, by decide, by decide, by decide +kernel⟩, zme 6 220 (by decide +kernel) rfl, zme 0 63 (by decide +kernel) rfl⟩
theorem lk_X11_317 : zlV RX11 317 mX11_spareBy 0 := ⟨⟨zme 6 214 (by decide +kernel) rfl, zme 6 217 (by decide +kernel) rfl, zme 1 14 (by decide +kernel) rfl, by decide, by decide, by decide +kernel⟩, zme 6 216 (by decide +kernel) rfl, zme 0 62 (by decide +kernel) rfl⟩
theorem lk_X11_320 : zlV RX11 320 mX11_homeOf 2 := ⟨⟨zme 6 230 (by decide +kernel) rfl, zme 6 233 (by decide +kernel) rfl, zme 1 14 (by decide +kernel) rfl, by decide, by decide, by decide +kernel⟩, zme 6 232 (by decide +kernel) rfl, zme 0 65 (by decide +kernel) rfl⟩
theorem lk_X11_326 : zlV RX11 326 mX11_isSeen 0 := ⟨⟨zme 7 10 (by decide +kernel) rfl, zme 7 13 (by decide +kernel) rfl, zme 1 14 (by decide +kernel) rfl, by decide, by decide, by decide +kernel⟩, zme 7 12 (by decide +kernel) rfl, zme 0 67 (by decide +kernel) rfl⟩
theorem lk_X11_330 : zlV RX11 330 mX11_neverNow 0 := ⟨⟨zme 7 6 (by decide +kernel) rfl, zme 7 9 (by decide +kernel) rfl, zme 1 14 (by decide +kernel) rfl, by decide, by decide, by decide +kernel⟩, zme 7 8 (by decide +kernel) rfl, zme 0 66 (by decide +kernel) rfl⟩
theorem lk_X11_333 : zlV RX11 333 mX11_wasOf 2 := ⟨⟨zme 7 18 (by decide +kernel) rfl, zme 7 21 (by decide +kernel) rfl, zme 1 14 (by decide +kernel) rfl, by decide, by decide, by decide +kernel⟩, zme 7 20 (by decide +kernel) rfl, zme 0 68 (by decide +kernel) rfl⟩
theorem lk_X11_336 : zlV RX11 336 mX11_askOf 1 := ⟨⟨zme 7 26 (by decide +kernel) rfl, zme 7 29 (by decide +kernel) rfl, zme 1 14 (by decide +kernel) rfl, by decide, by decide, by decide +kernel⟩, zme 7 28 (by decide +kernel) rfl, zme 0 69 (by decide +kernel) rfl⟩
theorem lk_X11_339 : zlS RX11 339 mX11_lowest 3 := ⟨⟨zme 7 38 (by decide +kernel) rfl, zme 7 40 (by decide +kernel) rfl, zme 1 14 (by decide +kernel) rfl, by decide, by decide, by decide +kernel⟩, zme 7 39 (by decide +kernel) rfl⟩
theorem lk_X11_343 : zlV RX11 343 mX11_virtueOf 4 := ⟨⟨zme 7 34 (by decide +kernel) rfl, zme 7 37 (by decide +kernel) rfl, zme 1 14 (by decide +kernel) rfl, by decide, by decide, by decide +kernel⟩, zme 7 36 (by decide +kernel) rfl, zme 0 70 (by decide +kernel) rfl⟩
theorem lk_X11_347 : zlS RX11 347 mX11_no 1 := ⟨⟨zme 7 41 (by decide +kernel) rfl, zme 7 43 (by decide +kernel) rfl, zme 1 14 (by decide +kernel) rfl, by decide, by decide, by decide +kernel⟩, zme 7 42 (by decide +kernel) rfl⟩
theorem lk_X11_352 : zlV RX11 352 mX11_yearsOf 3 := ⟨⟨zme 7 49 (by decide +kernel) rfl, zme 7 52 (by decide +kernel) rfl, zme 1 14 (by decide +kernel) rfl, by decide, by decide, by decide +kernel⟩, zme 7 51 (by decide +kernel) rfl, zme 0 71 (by decide +kernel) rfl⟩
theorem lk_X11_358 : zlV RX11 358 mX11_lacks 3 := ⟨⟨zme 7 66 (by decide +kernel) rfl, zme 7 69 (by decide +kernel) rfl, zme 1 14 (by decide +kernel) rfl, by decide, by decide, by decide +kernel⟩, zme 7 68 (by decide +kernel) rfl, zme 0 72 (by decide +kernel) rfl⟩
theorem lk_X11_361 : zlV RX11 361 mX11_keep 3 := ⟨⟨zme 7 70 (by decide +kernel) rfl, zme 7 73 (by decide +kernel) rfl, zme 1 14 (by decide +kernel) rfl, by decide, by decide, by decide +kernel⟩, zme 7 72 (by decide +kernel) rfl, zme 0 73 (by decide +kernel) rfl⟩
theorem lk_X11_366 : zlV RX11 366 mX11_sumOf 1 := ⟨⟨zme 7 91 (by decide +kernel) rfl, zme 7 94 (by decide +kernel) rfl, zme 1 14 (by decide +kernel) rfl, by decide, by decide, by decide +kernel⟩, zme 7 93 (by decide +kernel) rfl, zme 0 74 (by decide +kernel) rfl⟩
theorem lk_X11_371 : zlV RX11 371 mX11_monthDigest 3 := ⟨⟨zme 7 106 (by decide +kernel) rfl, zme 7 109 (by decide +kernel) rfl, zme 1 14 (by decide +kernel) rfl, by decide, by decide, by decide +kernel⟩, zme 7 108 (by decide +kernel) rfl, zme 0 76 (by decide +kernel) rfl⟩
theorem lk_X11_377 : zlV RX11 377 mX11_count 1 := ⟨⟨zme 7 101 (by decide +kernel) rfl, zme 7 90 (by decide +kernel) rfl, zme 1 14 (by decide +kernel) rfl, by decide, by decide, by decide +kernel⟩, zme 7 88 (by decide +kernel) rfl, zme 7 89 (by decide +kernel) rfl⟩
theorem lk_X11_380 : zlV RX11 380 mX11_personDigest 2 := ⟨⟨zme 7 102 (by decide +kernel) rfl, zme 7 105 (by decide +kernel) rfl, zme 1 14 (by decide +kernel) rfl, by decide, by decide, by decide +kernel⟩, zme 7 104 (by decide +kernel) rfl, zme 0 75 (by decide +kernel) rfl⟩
theorem lk_X11_384 : zlV RX11 384 mX11_deedDigest 2 := ⟨⟨zme 7 110 (by decide +kernel) rfl, zme 7 113 (by decide +kernel) rfl, zme 1 14 (by decide +kernel) rfl, by decide, by decide, by decide +kernel⟩, zme 7 112 (by decide +kernel) rfl, zme 0 77 (by decide +kernel) rfl⟩
theorem lk_X11_387 : zlV RX11 387 mX11_countyDigest 2 := ⟨⟨zme 7 114 (by decide +kernel) rfl, zme 7 117 (by decide +kernel) rfl, zme 1 14 (by decide +kernel) rfl, by decide, by decide, by decide +kernel⟩, zme 7 116 (by decide +kernel) rfl, zme 0 78 (by decide +kernel) rfl⟩
theorem lk_X11_390 : zlV RX11 390 mX11_thornDigest 2 := ⟨⟨zme 7 118 (by decide +kernel) rfl, zme 7 121 (by decide +kernel) rfl, zme 1 14 (by decide +kernel) rfl, by decide, by decide, by decide +kernel⟩, zme 7 120 (by decide +kernel) rfl, zme 0 79 (by decide +kernel) rfl⟩
theorem lo_X2_3 : Cond.methodLink RX2 3 Lib.objectInit ∈ zTB ∧ Cond.instanceMethod Lib.objectInit ∈ zTB ∧ Cond.code Lib.objectInit ⟨#[0xb1]⟩ 1 none ∈ zTB := ⟨zme 1 152 (by decide +kernel) rfl, zme 1 28 (by decide +kernel) rfl, zme 1 29 (by decide +kernel) rfl⟩
theorem lk_X2_32 : zlV RX2 32 mX2_begin 0 := ⟨⟨zme 3 130 (by decide +kernel) rfl, zme 3 133 (by decide +kernel) rfl, zme 1 6 (by decide +kernel) rfl, by decide, by decide, by decide +kernel⟩, zme 3 132 (by decide +kernel) rfl, zme 0 8 (by decide +kernel) rfl⟩
theorem lk_X2_41 : zlS RX2 41 mX2_monthsOf 1 := ⟨⟨zme 3 135 (by decide +kernel) rfl, zme 3 137 (by decide +kernel) rfl, zme 1 6 (by decide +kernel) rfl, by decide, by decide, by decide +kernel⟩, zme 3 136 (by decide +kernel) rfl⟩
theorem lk_X2_54 : zlV RX2 54 mX2_doDeeds 1 := ⟨⟨zme 3 138 (by decide +kernel) rfl, zme 3 141 (by decide +kernel) rfl, zme 1 6 (by decide +kernel) rfl, by decide, by decide, by decide +kernel⟩, zme 3 140 (by decide +kernel) rfl, zme 0 9 (by decide +kernel) rfl⟩
theorem lk_X2_58 : zlV RX2 58 mX2_moult 1 := ⟨⟨zme 3 149 (by decide +kernel) rfl, zme 3 152 (by decide +kernel) rfl, zme 1 6 (by decide +kernel) rfl, by decide, by decide, by decide +kernel⟩, zme 3 151 (by decide +kernel) rfl, zme 0 11 (by decide +kernel) rfl⟩
theorem lk_X2_62 : zlV RX2 62 mX2_travel 1 := ⟨⟨zme 3 153 (by decide +kernel) rfl, zme 3 156 (by decide +kernel) rfl, zme 1 6 (by decide +kernel) rfl, by decide, by decide, by decide +kernel⟩, zme 3 155 (by decide +kernel) rfl, zme 0 12 (by decide +kernel) rfl⟩
theorem lk_X2_65 : zlV RX2 65 mX2_makeRounds 2 := ⟨⟨zme 3 158 (by decide +kernel) rfl, zme 3 161 (by decide +kernel) rfl, zme 1 6 (by decide +kernel) rfl, by decide, by decide, by decide +kernel⟩, zme 3 160 (by decide +kernel) rfl, zme 0 13 (by decide +kernel) rfl⟩
theorem ly_X2_69 : Cond.methodLink RX2 69 arraycopyName ∈ zTB ∧ Cond.native arraycopyName ∈ zTB ∧ Cond.static arraycopyName ∈ zTB ∧ Cond.initialized "java/lang/System" ∈ zTB := ⟨zme 3 170 (by decide +kernel) rfl, zme 3 172 (by decide +kernel) rfl, zme 3 171 (by decide +kernel) rfl, zme 1 20 (by decide +kernel) rfl⟩
theorem lk_X2_75 : zlS RX2 75 mJ7_fill_53178 2 := ⟨⟨zme 3 134 (by decide +kernel) rfl, zme 2 82 (by decide +kernel) rfl, zme 1 13 (by decide +kernel) rfl, by decide, by decide, by decide +kernel⟩, zme 2 81 (by decide +kernel) rfl⟩
theorem lk_X2_98 : zlV RX2 98 mX2_lives 1 := ⟨⟨zme 3 142 (by decide +kernel) rfl, zme 3 145 (by decide +kernel) rfl, zme 1 6 (by decide +kernel) rfl, by decide, by decide, by decide +kernel⟩, zme 3 144 (by decide +kernel) rfl, zme 0 10 (by decide +kernel) rfl⟩
theorem lk_X2_102 : zlS RX2 102 mX2_growth 2 := ⟨⟨zme 3 146 (by decide +kernel) rfl, zme 3 148 (by decide +kernel) rfl, zme 1 6 (by decide +kernel) rfl, by decide, by decide, by decide +kernel⟩, zme 3 147 (by decide +kernel) rfl⟩
theorem lm_X2_109 : Cond.methodLink RX2 109 Lib.Math.min.name ∈ zTB ∧ Cond.static Lib.Math.min.name ∈ zTB ∧ Cond.initialized "java/lang/Math" ∈ zTB ∧ Cond.code Lib.Math.min.name Lib.Math.min.code 2 (some .int) ∈ zTB := ⟨zme 3 157 (by decide +kernel) rfl, zme 2 194 (by decide +kernel) rfl, zme 1 3 (by decide +kernel) rfl, zme 2 195 (by decide +kernel) rfl⟩
theorem lk_X2_114 : zlV RX2 114 mX2_woolliestIn 1 := ⟨⟨zme 3 162 (by decide +kernel) rfl, zme 3 165 (by decide +kernel) rfl, zme 1 6 (by decide +kernel) rfl, by decide, by decide, by decide +kernel⟩, zme 3 164 (by decide +kernel) rfl, zme 0 14 (by decide +kernel) rfl⟩
theorem lk_X2_117 : zlV RX2 117 mX2_shear 3 := ⟨⟨zme 3 166 (by decide +kernel) rfl, zme 3 169 (by decide +kernel) rfl, zme 1 6 (by decide +kernel) rfl, by decide, by decide, by decide +kernel⟩, zme 3 168 (by decide +kernel) rfl, zme 0 15 (by decide +kernel) rfl⟩
theorem lk_X2_124 : zlV RX2 124 mX2_livesBehind 2 := ⟨⟨zme 3 201 (by decide +kernel) rfl, zme 3 204 (by decide +kernel) rfl, zme 1 6 (by decide +kernel) rfl, by decide, by decide, by decide +kernel⟩, zme 3 203 (by decide +kernel) rfl, zme 0 16 (by decide +kernel) rfl⟩
theorem lk_X2_128 : zlV RX2 128 mX2_behind 2 := ⟨⟨zme 3 205 (by decide +kernel) rfl, zme 3 176 (by decide +kernel) rfl, zme 1 6 (by decide +kernel) rfl, by decide, by decide, by decide +kernel⟩, zme 3 174 (by decide +kernel) rfl, zme 3 175 (by decide +kernel) rfl⟩
theorem lo_X3_1 : Cond.methodLink RX3 1 Lib.objectInit ∈ zTB ∧ Cond.instanceMethod Lib.objectInit ∈ zTB ∧ Cond.code Lib.objectInit ⟨#[0xb1]⟩ 1 none ∈ zTB := ⟨zme 1 179 (by decide +kernel) rfl, zme 1 28 (by decide +kernel) rfl, zme 1 29 (by decide +kernel) rfl⟩
theorem lk_X3_9 : zlN RX3 9 mX8_init 0 := ⟨⟨_, List.mem_of_getElem? (i := 1) rfl, rfl, rfl, rfl⟩, rfl, rfl, zme 1 67 (by decide +kernel) rfl, zme 1 68 (by decide +kernel) rfl, zme 1 4 (by decide +kernel) rfl, by decide, by decide, by decide +kernel⟩
theorem lk_X3_18 : zlI RX3 18 mX2_init 1 := ⟨⟨zme 1 183 (by decide +kernel) rfl, zme 1 151 (by decide +kernel) rfl, zme 1 6 (by decide +kernel) rfl, by decide, by decide, by decide +kernel⟩, rfl, rfl, zme 1 150 (by decide +kernel) rfl⟩
theorem lk_X3_28 : zlV RX3 28 mX8_become 1 := ⟨⟨zme 3 230 (by decide +kernel) rfl, zme 3 233 (by decide +kernel) rfl, zme 1 4 (by decide +kernel) rfl, by decide, by decide, by decide +kernel⟩, zme 3 231 (by decide +kernel) rfl, zme 3 232 (by decide +kernel) rfl⟩
theorem lo_X4_3 : Cond.methodLink RX4 3 Lib.objectInit ∈ zTB ∧ Cond.instanceMethod Lib.objectInit ∈ zTB ∧ Cond.code Lib.objectInit ⟨#[0xb1]⟩ 1 none ∈ zTB := ⟨zme 1 209 (by decide +kernel) rfl, zme 1 28 (by decide +kernel) rfl, zme 1 29 (by decide +kernel) rfl⟩
theorem lk_X4_11 : zlN RX4 11 mX1_init 0 := ⟨⟨_, List.mem_of_getElem? (i := 2) rfl, rfl, rfl, rfl⟩, rfl, rfl, zme 1 213 (by decide +kernel) rfl, zme 1 214 (by decide +kernel) rfl, zme 1 9 (by decide +kernel) rfl, by decide, by decide, by decide +kernel⟩
theorem lk_X4_51 : zlV RX4 51 mX3_afresh 0 := ⟨⟨zme 3 226 (by decide +kernel) rfl, zme 3 229 (by decide +kernel) rfl, zme 1 7 (by decide +kernel) rfl, by decide, by decide, by decide +kernel⟩, zme 3 227 (by decide +kernel) rfl, zme 3 228 (by decide +kernel) rfl⟩
theorem lk_X4_66 : zlV RX4 66 mX5_append 3 := ⟨⟨zme 4 0 (by decide +kernel) rfl, zme 3 11 (by decide +kernel) rfl, zme 1 5 (by decide +kernel) rfl, by decide, by decide, by decide +kernel⟩, zme 3 9 (by decide +kernel) rfl, zme 3 10 (by decide +kernel) rfl⟩
theorem lk_X4_76 : zlV RX4 76 mX2_run 1 := ⟨⟨zme 4 1 (by decide +kernel) rfl, zme 3 129 (by decide +kernel) rfl, zme 1 6 (by decide +kernel) rfl, by decide, by decide, by decide +kernel⟩, zme 3 127 (by decide +kernel) rfl, zme 3 128 (by decide +kernel) rfl⟩
theorem lk_X4_82 : zlV RX4 82 mX2_worthInAll 0 := ⟨⟨zme 4 2 (by decide +kernel) rfl, zme 4 5 (by decide +kernel) rfl, zme 1 6 (by decide +kernel) rfl, by decide, by decide, by decide +kernel⟩, zme 4 3 (by decide +kernel) rfl, zme 4 4 (by decide +kernel) rfl⟩
theorem lk_X4_86 : zlV RX4 86 mX1_begin 0 := ⟨⟨zme 4 14 (by decide +kernel) rfl, zme 4 17 (by decide +kernel) rfl, zme 1 9 (by decide +kernel) rfl, by decide, by decide, by decide +kernel⟩, zme 4 15 (by decide +kernel) rfl, zme 4 16 (by decide +kernel) rfl⟩
theorem lk_X4_92 : zlV RX4 92 mX1_takeOutOf 1 := ⟨⟨zme 4 18 (by decide +kernel) rfl, zme 4 21 (by decide +kernel) rfl, zme 1 9 (by decide +kernel) rfl, by decide, by decide, by decide +kernel⟩, zme 4 19 (by decide +kernel) rfl, zme 4 20 (by decide +kernel) rfl⟩
theorem lk_X4_96 : zlV RX4 96 mX4_measure 1 := ⟨⟨zme 4 26 (by decide +kernel) rfl, zme 4 29 (by decide +kernel) rfl, zme 1 8 (by decide +kernel) rfl, by decide, by decide, by decide +kernel⟩, zme 4 28 (by decide +kernel) rfl, zme 0 17 (by decide +kernel) rfl⟩
theorem lk_X4_99 : zlV RX4 99 mX1_tell 1 := ⟨⟨zme 4 32 (by decide +kernel) rfl, zme 4 35 (by decide +kernel) rfl, zme 1 9 (by decide +kernel) rfl, by decide, by decide, by decide +kernel⟩, zme 4 33 (by decide +kernel) rfl, zme 4 34 (by decide +kernel) rfl⟩
theorem lk_X4_109 : zlV RX4 109 mX1_goOn 1 := ⟨⟨zme 4 36 (by decide +kernel) rfl, zme 4 39 (by decide +kernel) rfl, zme 1 9 (by decide +kernel) rfl, by decide, by decide, by decide +kernel⟩, zme 4 37 (by decide +kernel) rfl, zme 4 38 (by decide +kernel) rfl⟩
theorem lk_X4_116 : zlV RX4 116 mX2_behind 2 := ⟨⟨zme 4 30 (by decide +kernel) rfl, zme 3 176 (by decide +kernel) rfl, zme 1 6 (by decide +kernel) rfl, by decide, by decide, by decide +kernel⟩, zme 3 174 (by decide +kernel) rfl, zme 3 175 (by decide +kernel) rfl⟩
theorem lm_X4_120 : Cond.methodLink RX4 120 Lib.Math.max.name ∈ zTB ∧ Cond.static Lib.Math.max.name ∈ zTB ∧ Cond.initialized "java/lang/Math" ∈ zTB ∧ Cond.code Lib.Math.max.name Lib.Math.max.code 2 (some .int) ∈ zTB := ⟨zme 4 31 (by decide +kernel) rfl, zme 1 40 (by decide +kernel) rfl, zme 1 3 (by decide +kernel) rfl, zme 1 41 (by decide +kernel) rfl⟩
theorem lk_X4_125 : zlV RX4 125 mX2_living 0 := ⟨⟨zme 4 48 (by decide +kernel) rfl, zme 4 51 (by decide +kernel) rfl, zme 1 6 (by decide +kernel) rfl, by decide, by decide, by decide +kernel⟩, zme 4 49 (by decide +kernel) rfl, zme 4 50 (by decide +kernel) rfl⟩
theorem lk_X4_128 : zlV RX4 128 mX5_setCell 3 := ⟨⟨zme 4 60 (by decide +kernel) rfl, zme 4 63 (by decide +kernel) rfl, zme 1 5 (by decide +kernel) rfl, by decide, by decide, by decide +kernel⟩, zme 4 61 (by decide +kernel) rfl, zme 4 62 (by decide +kernel) rfl⟩
theorem lo_X5_3 : Cond.methodLink RX5 3 Lib.objectInit ∈ zTB ∧ Cond.instanceMethod Lib.objectInit ∈ zTB ∧ Cond.code Lib.objectInit ⟨#[0xb1]⟩ 1 none ∈ zTB := ⟨zme 1 75 (by decide +kernel) rfl, zme 1 28 (by decide +kernel) rfl, zme 1 29 (by decide +kernel) rfl⟩
theorem lm_X5_15 : Cond.methodLink RX5 15 Lib.Math.max.name ∈ zTB ∧ Cond.static Lib.Math.max.name ∈ zTB ∧ Cond.initialized "java/lang/Math" ∈ zTB ∧ Cond.code Lib.Math.max.name Lib.Math.max.code 2 (some .int) ∈ zTB := ⟨zme 1 76 (by decide +kernel) rfl, zme 1 40 (by decide +kernel) rfl, zme 1 3 (by decide +kernel) rfl, zme 1 41 (by decide +kernel) rfl⟩
theorem ly_X5_31 : Cond.methodLink RX5 31 arraycopyName ∈ zTB ∧ Cond.native arraycopyName ∈ zTB ∧ Cond.static arraycopyName ∈ zTB ∧ Cond.initialized "java/lang/System" ∈ zTB := ⟨zme 3 239 (by decide +kernel) rfl, zme 3 172 (by decide +kernel) rfl, zme 3 171 (by decide +kernel) rfl, zme 1 20 (by decide +kernel) rfl⟩
theorem lm_X5_37 : Cond.methodLink RX5 37 Lib.Math.min.name ∈ zTB ∧ Cond.static Lib.Math.min.name ∈ zTB ∧ Cond.initialized "java/lang/Math" ∈ zTB ∧ Cond.code Lib.Math.min.name Lib.Math.min.code 2 (some .int) ∈ zTB := ⟨zme 3 238 (by decide +kernel) rfl, zme 2 194 (by decide +kernel) rfl, zme 1 3 (by decide +kernel) rfl, zme 2 195 (by decide +kernel) rfl⟩
theorem lo_X6_3 : Cond.methodLink RX6 3 Lib.objectInit ∈ zTB ∧ Cond.instanceMethod Lib.objectInit ∈ zTB ∧ Cond.code Lib.objectInit ⟨#[0xb1]⟩ 1 none ∈ zTB := ⟨zme 2 79 (by decide +kernel) rfl, zme 1 28 (by decide +kernel) rfl, zme 1 29 (by decide +kernel) rfl⟩
theorem lk_X6_25 : zlS RX6 25 mJ7_fill_53178 2 := ⟨⟨zme 2 80 (by decide +kernel) rfl, zme 2 82 (by decide +kernel) rfl, zme 1 13 (by decide +kernel) rfl, by decide, by decide, by decide +kernel⟩, zme 2 81 (by decide +kernel) rfl⟩
theorem lk_X6_31 : zlV RX6 31 mX6_isLost 1 := ⟨⟨zme 3 107 (by decide +kernel) rfl, zme 3 98 (by decide +kernel) rfl, zme 1 12 (by decide +kernel) rfl, by decide, by decide, by decide +kernel⟩, zme 3 96 (by decide +kernel) rfl, zme 3 97 (by decide +kernel) rfl⟩
theorem lk_X6_35 : zlV RX6 35 mX6_length 1 := ⟨⟨zme 3 116 (by decide +kernel) rfl, zme 3 106 (by decide +kernel) rfl, zme 1 12 (by decide +kernel) rfl, by decide, by decide, by decide +kernel⟩, zme 3 104 (by decide +kernel) rfl, zme 3 105 (by decide +kernel) rfl⟩
theorem lk_X6_39 : zlV RX6 39 mX6_holds 3 := ⟨⟨zme 3 112 (by decide +kernel) rfl, zme 3 115 (by decide +kernel) rfl, zme 1 12 (by decide +kernel) rfl, by decide, by decide, by decide +kernel⟩, zme 3 113 (by decide +kernel) rfl, zme 3 114 (by decide +kernel) rfl⟩
theorem ly_X6_43 : Cond.methodLink RX6 43 arraycopyName ∈ zTB ∧ Cond.native arraycopyName ∈ zTB ∧ Cond.static arraycopyName ∈ zTB ∧ Cond.initialized "java/lang/System" ∈ zTB := ⟨zme 4 231 (by decide +kernel) rfl, zme 3 172 (by decide +kernel) rfl, zme 3 171 (by decide +kernel) rfl, zme 1 20 (by decide +kernel) rfl⟩
theorem lo_X7_3 : Cond.methodLink RX7 3 Lib.objectInit ∈ zTB ∧ Cond.instanceMethod Lib.objectInit ∈ zTB ∧ Cond.code Lib.objectInit ⟨#[0xb1]⟩ 1 none ∈ zTB := ⟨zme 1 38 (by decide +kernel) rfl, zme 1 28 (by decide +kernel) rfl, zme 1 29 (by decide +kernel) rfl⟩
theorem lm_X7_15 : Cond.methodLink RX7 15 Lib.Math.max.name ∈ zTB ∧ Cond.static Lib.Math.max.name ∈ zTB ∧ Cond.initialized "java/lang/Math" ∈ zTB ∧ Cond.code Lib.Math.max.name Lib.Math.max.code 2 (some .int) ∈ zTB := ⟨zme 1 39 (by decide +kernel) rfl, zme 1 40 (by decide +kernel) rfl, zme 1 3 (by decide +kernel) rfl, zme 1 41 (by decide +kernel) rfl⟩
theorem lk_X7_35 : zlV RX7 35 mX7_meaningAt 1 := ⟨⟨zme 2 155 (by decide +kernel) rfl, zme 2 158 (by decide +kernel) rfl, zme 1 2 (by decide +kernel) rfl, by decide, by decide, by decide +kernel⟩, zme 2 157 (by decide +kernel) rfl, zme 0 2 (by decide +kernel) rfl⟩
theorem lk_X7_44 : zlV RX7 44 mX7_faultPlace 0 := ⟨⟨zme 2 151 (by decide +kernel) rfl, zme 2 154 (by decide +kernel) rfl, zme 1 2 (by decide +kernel) rfl, by decide, by decide, by decide +kernel⟩, zme 2 152 (by decide +kernel) rfl, zme 2 153 (by decide +kernel) rfl⟩
theorem lk_X7_48 : zlV RX7 48 mX5_append 3 := ⟨⟨zme 3 8 (by decide +kernel) rfl, zme 3 11 (by decide +kernel) rfl, zme 1 5 (by decide +kernel) rfl, by decide, by decide, by decide +kernel⟩, zme 3 9 (by decide +kernel) rfl, zme 3 10 (by decide +kernel) rfl⟩
theorem lk_X7_52 : zlV RX7 52 mX7_signsAt 1 := ⟨⟨zme 2 159 (by decide +kernel) rfl, zme 2 162 (by decide +kernel) rfl, zme 1 2 (by decide +kernel) rfl, by decide, by decide, by decide +kernel⟩, zme 2 161 (by decide +kernel) rfl, zme 0 3 (by decide +kernel) rfl⟩
theorem lk_X7_56 : zlV RX7 56 mJ0_indexOf_0f7a4 1 := ⟨⟨zme 2 164 (by decide +kernel) rfl, zme 2 167 (by decide +kernel) rfl, zme 1 15 (by decide +kernel) rfl, by decide, by decide, by decide +kernel⟩, zme 2 165 (by decide +kernel) rfl, zme 2 166 (by decide +kernel) rfl⟩
theorem lo_X8_3 : Cond.methodLink RX8 3 Lib.objectInit ∈ zTB ∧ Cond.instanceMethod Lib.objectInit ∈ zTB ∧ Cond.code Lib.objectInit ⟨#[0xb1]⟩ 1 none ∈ zTB := ⟨zme 1 69 (by decide +kernel) rfl, zme 1 28 (by decide +kernel) rfl, zme 1 29 (by decide +kernel) rfl⟩
theorem lk_X8_11 : zlI RX8 11 (mX5_init 0) 1 := ⟨⟨zme 1 72 (by decide +kernel) rfl, zme 1 74 (by decide +kernel) rfl, zme 1 5 (by decide +kernel) rfl, by decide, by decide, by decide +kernel⟩, rfl, rfl, zme 1 73 (by decide +kernel) rfl⟩
theorem lk_X8_39 : zlV RX8 39 mX5_become 1 := ⟨⟨zme 3 234 (by decide +kernel) rfl, zme 3 237 (by decide +kernel) rfl, zme 1 5 (by decide +kernel) rfl, by decide, by decide, by decide +kernel⟩, zme 3 235 (by decide +kernel) rfl, zme 3 236 (by decide +kernel) rfl⟩
theorem lo_X9_3 : Cond.methodLink RX9 3 Lib.objectInit ∈ zTB ∧ Cond.instanceMethod Lib.objectInit ∈ zTB ∧ Cond.code Lib.objectInit ⟨#[0xb1]⟩ 1 none ∈ zTB := ⟨zme 2 27 (by decide +kernel) rfl, zme 1 28 (by decide +kernel) rfl, zme 1 29 (by decide +kernel) rfl⟩
theorem lk_X9_11 : zlI RX9 11 (mX5_init 0) 1 := ⟨⟨zme 2 29 (by decide +kernel) rfl, zme 1 74 (by decide +kernel) rfl, zme 1 5 (by decide +kernel) rfl, by decide, by decide, by decide +kernel⟩, rfl, rfl, zme 1 73 (by decide +kernel) rfl⟩
theorem lk_X9_50 : zlV RX9 50 mX3_afresh 0 := ⟨⟨zme 4 80 (by decide +kernel) rfl, zme 3 229 (by decide +kernel) rfl, zme 1 7 (by decide +kernel) rfl, by decide, by decide, by decide +kernel⟩, zme 3 227 (by decide +kernel) rfl, zme 3 228 (by decide +kernel) rfl⟩
theorem lk_X9_56 : zlV RX9 56 mX5_takeOut 1 := ⟨⟨zme 4 81 (by decide +kernel) rfl, zme 4 25 (by decide +kernel) rfl, zme 1 5 (by decide +kernel) rfl, by decide, by decide, by decide +kernel⟩, zme 4 23 (by decide +kernel) rfl, zme 4 24 (by decide +kernel) rfl⟩
theorem lk_X9_63 : zlV RX9 63 mX2_run 1 := ⟨⟨zme 4 82 (by decide +kernel) rfl, zme 3 129 (by decide +kernel) rfl, zme 1 6 (by decide +kernel) rfl, by decide, by decide, by decide +kernel⟩, zme 3 127 (by decide +kernel) rfl, zme 3 128 (by decide +kernel) rfl⟩
theorem lk_X9_68 : zlV RX9 68 mX9_keepWools 1 := ⟨⟨zme 4 83 (by decide +kernel) rfl, zme 4 86 (by decide +kernel) rfl, zme 1 10 (by decide +kernel) rfl, by decide, by decide, by decide +kernel⟩, zme 4 85 (by decide +kernel) rfl, zme 0 18 (by decide +kernel) rfl⟩
theorem lk_X9_71 : zlV RX9 71 mX9_comesOut 0 := ⟨⟨zme 4 91 (by decide +kernel) rfl, zme 4 94 (by decide +kernel) rfl, zme 1 10 (by decide +kernel) rfl, by decide, by decide, by decide +kernel⟩, zme 4 93 (by decide +kernel) rfl, zme 0 19 (by decide +kernel) rfl⟩
theorem lk_X9_78 : zlS RX9 78 mX9_placeOf 3 := ⟨⟨zme 4 87 (by decide +kernel) rfl, zme 4 89 (by decide +kernel) rfl, zme 1 10 (by decide +kernel) rfl, by decide, by decide, by decide +kernel⟩, zme 4 88 (by decide +kernel) rfl⟩
theorem lk_X9_82 : zlV RX9 82 mX2_behind 2 := ⟨⟨zme 4 90 (by decide +kernel) rfl, zme 3 176 (by decide +kernel) rfl, zme 1 6 (by decide +kernel) rfl, by decide, by decide, by decide +kernel⟩, zme 3 174 (by decide +kernel) rfl, zme 3 175 (by decide +kernel) rfl⟩
theorem lk_X9_86 : zlV RX9 86 mX9_lastSeen 0 := ⟨⟨zme 4 103 (by decide +kernel) rfl, zme 4 106 (by decide +kernel) rfl, zme 1 10 (by decide +kernel) rfl, by decide, by decide, by decide +kernel⟩, zme 4 105 (by decide +kernel) rfl, zme 0 20 (by decide +kernel) rfl⟩
theorem lk_X9_90 : zlV RX9 90 mX5_setCell 3 := ⟨⟨zme 4 108 (by decide +kernel) rfl, zme 4 63 (by decide +kernel) rfl, zme 1 5 (by decide +kernel) rfl, by decide, by decide, by decide +kernel⟩, zme 4 61 (by decide +kernel) rfl, zme 4 62 (by decide +kernel) rfl⟩
theorem lm_X9_97 : Cond.methodLink RX9 97 Lib.Math.max.name ∈ zTB ∧ Cond.static Lib.Math.max.name ∈ zTB ∧ Cond.initialized "java/lang/Math" ∈ zTB ∧ Cond.code Lib.Math.max.name Lib.Math.max.code 2 (some .int) ∈ zTB := ⟨zme 4 107 (by decide +kernel) rfl, zme 1 40 (by decide +kernel) rfl, zme 1 3 (by decide +kernel) rfl, zme 1 41 (by decide +kernel) rfl⟩
theorem lk_X9_108 : zlV RX9 108 mX9_mostAlike 2 := ⟨⟨zme 4 117 (by decide +kernel) rfl, zme 4 120 (by decide +kernel) rfl, zme 1 10 (by decide +kernel) rfl, by decide, by decide, by decide +kernel⟩, zme 4 119 (by decide +kernel) rfl, zme 0 21 (by decide +kernel) rfl⟩
theorem lk_X9_111 : zlV RX9 111 mX9_manyLike 3 := ⟨⟨zme 4 121 (by decide +kernel) rfl, zme 4 124 (by decide +kernel) rfl, zme 1 10 (by decide +kernel) rfl, by decide, by decide, by decide +kernel⟩, zme 4 123 (by decide +kernel) rfl, zme 0 22 (by decide +kernel) rfl⟩
theorem ln_X10_17 (n : Nat) : zlI RX10 17 (mX7_init n) 4 := lk_X10_17
theorem ln_X8_11 (n : Nat) : zlI RX8 11 (mX5_init n) 1 := lk_X8_11
theorem ln_X9_11 (n : Nat) : zlI RX9 11 (mX5_init n) 1 := lk_X9_11
