def mX0_init : MI := (yX0_init, cX0_init, 2, none)
def mX0_forget : MI := (yX0_forget, cX0_forget, 1, none)
def mX0_keep : MI := (yX0_keep, cX0_keep, 2, none)
def mX0_restore : MI := (yX0_restore, cX0_restore, 2, none)
def mX1_init : MI := (yX1_init, cX1_init, 1, none)
def mX1_faultOf : MI := (yX1_faultOf, cX1_faultOf, 5, (some .int))
def mX1_readClause : MI := (yX1_readClause, cX1_readClause, 3, none)
def mX1_readCondition : MI := (yX1_readCondition, cX1_readCondition, 3, none)
def mX1_readTruth : MI := (yX1_readTruth, cX1_readTruth, 3, none)
def mX1_readUnit : MI := (yX1_readUnit, cX1_readUnit, 4, none)
def mX1_isRelation : MI := (yX1_isRelation, cX1_isRelation, 1, (some .boolean))
def mX1_readSum : MI := (yX1_readSum, cX1_readSum, 4, none)
def mX1_readTerm : MI := (yX1_readTerm, cX1_readTerm, 4, none)
def mX1_readAtom : MI := (yX1_readAtom, cX1_readAtom, 4, none)
def mX1_opens : MI := (yX1_opens, cX1_opens, 2, (some .boolean))
def mX1_emit : MI := (yX1_emit, cX1_emit, 2, none)
def mX2_init : MI := (yX2_init, cX2_init, 1, none)
def mX2_keep : MI := (yX2_keep, cX2_keep, 3, (some .int))
def mX2_setLetters : MI := (yX2_setLetters, cX2_setLetters, 7, none)
def mX2_worth : MI := (yX2_worth, cX2_worth, 7, (some .int))
def mX2_push : MI := (yX2_push, cX2_push, 2, none)
def mX2_pop : MI := (yX2_pop, cX2_pop, 1, (some .int))
def mX2_joined : MI := (yX2_joined, cX2_joined, 3, (some .int))
def mX3_init : MI := (yX3_init, cX3_init, 1, none)
def mX3_write : MI := (yX3_write, cX3_write, 6, none)
def mX3_read : MI := (yX3_read, cX3_read, 4, (some .int))
def mX3_copyFrom : MI := (yX3_copyFrom, cX3_copyFrom, 2, none)
def mX4_init : MI := (yX4_init, cX4_init, 1, none)
def mX4_forget : MI := (yX4_forget, cX4_forget, 1, none)
def mX4_keep : MI := (yX4_keep, cX4_keep, 4, (some .int))
def mX4_allSo : MI := (yX4_allSo, cX4_allSo, 2, (some .boolean))
def mX4_clearTally : MI := (yX4_clearTally, cX4_clearTally, 2, none)
def mX4_tallyBehind : MI := (yX4_tallyBehind, cX4_tallyBehind, 3, none)
def mX4_evenest : MI := (yX4_evenest, cX4_evenest, 5, (some .int))
def mX5_init : MI := (yX5_init, cX5_init, 1, none)
def mX5_start : MI := (yX5_start, cX5_start, 3, none)
def mX5_next : MI := (yX5_next, cX5_next, 1, (some .int))
def mX5_take : MI := (yX5_take, cX5_take, 1, none)
def mX5_takes : MI := (yX5_takes, cX5_takes, 2, (some .boolean))
def mX5_wants : MI := (yX5_wants, cX5_wants, 2, none)
def mX5_wrong : MI := (yX5_wrong, cX5_wrong, 1, none)
def mX5_wrongAtLast : MI := (yX5_wrongAtLast, cX5_wrongAtLast, 1, none)
def mX5_number : MI := (yX5_number, cX5_number, 5, (some .int))
def mX6_init : MI := (yX6_init, cX6_init, 1, none)
def mX6_clear : MI := (yX6_clear, cX6_clear, 2, none)
def mX6_copyFrom : MI := (yX6_copyFrom, cX6_copyFrom, 2, none)
def mX6_isIn : MI := (yX6_isIn, cX6_isIn, 2, (some .boolean))
def mX6_isHeld : MI := (yX6_isHeld, cX6_isHeld, 2, (some .boolean))
def mX6_lowestFree : MI := (yX6_lowestFree, cX6_lowestFree, 2, (some .int))
def mX6_heavy : MI := (yX6_heavy, cX6_heavy, 1, (some .int))
def mX6_heavyBehindFading : MI := (yX6_heavyBehindFading, cX6_heavyBehindFading, 4, (some .int))
def mX6_heldBehindFading : MI := (yX6_heldBehindFading, cX6_heldBehindFading, 4, (some .int))
def mX6_weightBehindFading : MI := (yX6_weightBehindFading, cX6_weightBehindFading, 3, (some .int))
def mX6_heavyAgainst : MI := (yX6_heavyAgainst, cX6_heavyAgainst, 2, (some .int))
def mX6_heavyOf : MI := (yX6_heavyOf, cX6_heavyOf, 2, (some .int))
def mX6_heavyWith : MI := (yX6_heavyWith, cX6_heavyWith, 5, (some .int))
def mX6_weightOfAll : MI := (yX6_weightOfAll, cX6_weightOfAll, 4, (some .int))
def mX6_burdenOf : MI := (yX6_burdenOf, cX6_burdenOf, 2, (some .int))
def mX6_heaviest : MI := (yX6_heaviest, cX6_heaviest, 4, (some .int))
def mX6_hasTreaty : MI := (yX6_hasTreaty, cX6_hasTreaty, 3, (some .boolean))
def mX6_forgiveAll : MI := (yX6_forgiveAll, cX6_forgiveAll, 4, none)
def mX6_leaving : MI := (yX6_leaving, cX6_leaving, 4, (some .int))
def mX6_sunset : MI := (yX6_sunset, cX6_sunset, 7, (some .boolean))
def mX6_passOnWilled : MI := (yX6_passOnWilled, cX6_passOnWilled, 4, none)
def mX7_init : MI := (yX7_init, cX7_init, 1, none)
def mX7_bytesIn : MI := (yX7_bytesIn, cX7_bytesIn, 3, (some .int))
def mX7_append : MI := (yX7_append, cX7_append, 4, none)
def mX8_init : MI := (yX8_init, cX8_init, 1, none)
def mX8_copyFrom : MI := (yX8_copyFrom, cX8_copyFrom, 2, none)
def mX8_isWhole : MI := (yX8_isWhole, cX8_isWhole, 4, (some .boolean))
def mX9_init : MI := (yX9_init, cX9_init, 1, none)
def mX9_faultOf : MI := (yX9_faultOf, cX9_faultOf, 5, (some .int))
def mX9_clearDraft : MI := (yX9_clearDraft, cX9_clearDraft, 1, none)
def mX9_readClause : MI := (yX9_readClause, cX9_readClause, 2, none)
def mX9_readRules : MI := (yX9_readRules, cX9_readRules, 1, none)
def mX9_readPerson : MI := (yX9_readPerson, cX9_readPerson, 1, none)
def mX9_readGrudge : MI := (yX9_readGrudge, cX9_readGrudge, 1, none)
def mX9_setItems : MI := (yX9_setItems, cX9_setItems, 5, none)
def mX9_readItems : MI := (yX9_readItems, cX9_readItems, 8, none)
def mX10_init : MI := (yX10_init, cX10_init, 2, none)
def mX10_feed : MI := (yX10_feed, cX10_feed, 7, (some .int))
def mX10_end : MI := (yX10_end, cX10_end, 2, (some .boolean))
def mX10_fault : MI := (yX10_fault, cX10_fault, 2, (some .int))
def mX10_text : MI := (yX10_text, cX10_text, 2, (some .int))
def mX10_tellTown : MI := (yX10_tellTown, cX10_tellTown, 1, (some .int))
def mX10_tellLaw : MI := (yX10_tellLaw, cX10_tellLaw, 2, (some .int))
def mX10_rule : MI := (yX10_rule, cX10_rule, 2, (some .int))
def mX10_person : MI := (yX10_person, cX10_person, 3, (some .int))
def mX10_grudge : MI := (yX10_grudge, cX10_grudge, 3, (some .int))
def mX10_law : MI := (yX10_law, cX10_law, 2, (some .boolean))
def mX10_status : MI := (yX10_status, cX10_status, 2, (some .int))
def mX10_log : MI := (yX10_log, cX10_log, 3, (some .int))
def mX10_count : MI := (yX10_count, cX10_count, 2, (some .int))
def mX10_hasTown : MI := (yX10_hasTown, cX10_hasTown, 1, (some .boolean))
def mX10_isPerson : MI := (yX10_isPerson, cX10_isPerson, 2, (some .boolean))
def mX10_areTwo : MI := (yX10_areTwo, cX10_areTwo, 3, (some .boolean))
def mX10_areTwoInTown : MI := (yX10_areTwoInTown, cX10_areTwoInTown, 3, (some .boolean))
def mX10_isGrudge : MI := (yX10_isGrudge, cX10_isGrudge, 2, (some .boolean))
def mX10_isToldGrudge : MI := (yX10_isToldGrudge, cX10_isToldGrudge, 2, (some .boolean))
def mX10_logLength : MI := (yX10_logLength, cX10_logLength, 1, (some .int))
def mX10_days : MI := (yX10_days, cX10_days, 3, (some .int))
def mX10_offends : MI := (yX10_offends, cX10_offends, 3, (some .int))
def mX10_forgives : MI := (yX10_forgives, cX10_forgives, 2, (some .int))
def mX10_becomes : MI := (yX10_becomes, cX10_becomes, 4, (some .int))
def mX10_give : MI := (yX10_give, cX10_give, 2, (some .int))
def mX10_mercy : MI := (yX10_mercy, cX10_mercy, 2, (some .boolean))
def mX10_years : MI := (yX10_years, cX10_years, 7, (some .int))
def mX10_undo : MI := (yX10_undo, cX10_undo, 1, (some .int))
def mX10_image : MI := (yX10_image, cX10_image, 1, (some .int))
def mX10_back : MI := (yX10_back, cX10_back, 1, (some .int))
def mX10_refuse : MI := (yX10_refuse, cX10_refuse, 2, (some .int))
def mX10_passDay : MI := (yX10_passDay, cX10_passDay, 2, none)
def mX10_drawTroubles : MI := (yX10_drawTroubles, cX10_drawTroubles, 8, (some .long))
def mX10_nextX : MI := (yX10_nextX, cX10_nextX, 2, (some .long))
def mX10_drawOf : MI := (yX10_drawOf, cX10_drawOf, 3, (some .int))
def mX10_offend : MI := (yX10_offend, cX10_offend, 5, (some .int))
def mX10_weightOf : MI := (yX10_weightOf, cX10_weightOf, 7, (some .int))
def mX10_weighs : MI := (yX10_weighs, cX10_weighs, 3, (some .int))
def mX10_stays : MI := (yX10_stays, cX10_stays, 2, (some .int))
def mX10_empty : MI := (yX10_empty, cX10_empty, 3, (some .int))
def mX10_fewest : MI := (yX10_fewest, cX10_fewest, 6, (some .int))
def mX10_rid : MI := (yX10_rid, cX10_rid, 2, (some .int))
def mX10_treaty : MI := (yX10_treaty, cX10_treaty, 3, (some .int))
def mX10_shares : MI := (yX10_shares, cX10_shares, 4, (some .int))
def mX10_odds : MI := (yX10_odds, cX10_odds, 4, (some .int))
def mX10_sunsetsOf : MI := (yX10_sunsetsOf, cX10_sunsetsOf, 5, (some .int))
def mX10_leastRow : MI := (yX10_leastRow, cX10_leastRow, 8, (some .int))
def mX10_allStay : MI := (yX10_allStay, cX10_allStay, 6, (some .boolean))
def mX10_partsInTown : MI := (yX10_partsInTown, cX10_partsInTown, 12, (some .long))
def mX10_seen : MI := (yX10_seen, cX10_seen, 4, (some .int))
def mX10_weights : MI := (yX10_weights, cX10_weights, 5, (some .int))
def mX10_whom : MI := (yX10_whom, cX10_whom, 5, (some .int))
def mX10_fits : MI := (yX10_fits, cX10_fits, 5, (some .boolean))
def mX10_game : MI := (yX10_game, cX10_game, 6, (some .int))
def mX10_rests : MI := (yX10_rests, cX10_rests, 7, (some .int))
def mX10_isChoice : MI := (yX10_isChoice, cX10_isChoice, 1, (some .boolean))
def mX10_priceOf : MI := (yX10_priceOf, cX10_priceOf, 1, (some .int))
def mX10_gameOf : MI := (yX10_gameOf, cX10_gameOf, 7, (some .int))
def mX10_choose : MI := (yX10_choose, cX10_choose, 5, none)
def mX10_isRest : MI := (yX10_isRest, cX10_isRest, 5, (some .boolean))
def mX10_most : MI := (yX10_most, cX10_most, 2, (some .int))
def mX10_mostBurdened : MI := (yX10_mostBurdened, cX10_mostBurdened, 6, (some .int))
def mX10_sourest : MI := (yX10_sourest, cX10_sourest, 3, (some .int))
def mX10_mostLiked : MI := (yX10_mostLiked, cX10_mostLiked, 3, (some .int))
def mX10_treaties : MI := (yX10_treaties, cX10_treaties, 4, (some .int))
def mX11_in : MI := (yX11_in, cX11_in, 3, (some .boolean))
def mX11_has : MI := (yX11_has, cX11_has, 2, (some .boolean))
def mX11_init : MI := (yX11_init, cX11_init, 1, none)
def mX11_thrown : MI := (yX11_thrown, cX11_thrown, 1, (some .int))
def mX11_byteOf : MI := (yX11_byteOf, cX11_byteOf, 7, (some .int))
def mX11_feed : MI := (yX11_feed, cX11_feed, 9, (some .int))
def mX11_end : MI := (yX11_end, cX11_end, 2, (some .boolean))
def mX11_here : MI := (yX11_here, cX11_here, 1, (some .int))
def mX11_look : MI := (yX11_look, cX11_look, 1, (some .int))
def mX11_bad : MI := (yX11_bad, cX11_bad, 1, none)
def mX11_isDigit : MI := (yX11_isDigit, cX11_isDigit, 1, (some .boolean))
def mX11_put : MI := (yX11_put, cX11_put, 3, none)
def mX11_letterOf : MI := (yX11_letterOf, cX11_letterOf, 1, (some .int))
def mX11_opens : MI := (yX11_opens, cX11_opens, 1, none)
def mX11_closes : MI := (yX11_closes, cX11_closes, 2, none)
def mX11_plainNumber : MI := (yX11_plainNumber, cX11_plainNumber, 3, (some .int))
def mX11_atom : MI := (yX11_atom, cX11_atom, 2, none)
def mX11_term : MI := (yX11_term, cX11_term, 2, none)
def mX11_sum : MI := (yX11_sum, cX11_sum, 2, none)
def mX11_isSign : MI := (yX11_isSign, cX11_isSign, 1, (some .boolean))
def mX11_compare : MI := (yX11_compare, cX11_compare, 2, none)
def mX11_unit : MI := (yX11_unit, cX11_unit, 2, none)
def mX11_goOnAnd : MI := (yX11_goOnAnd, cX11_goOnAnd, 1, none)
def mX11_goOnOr : MI := (yX11_goOnOr, cX11_goOnOr, 1, none)
def mX11_condition : MI := (yX11_condition, cX11_condition, 1, none)
def mX11_clause : MI := (yX11_clause, cX11_clause, 3, none)
def mX11_open : MI := (yX11_open, cX11_open, 2, none)
def mX11_atEnd : MI := (yX11_atEnd, cX11_atEnd, 1, (some .int))
def mX11_readLaw : MI := (yX11_readLaw, cX11_readLaw, 2, (some .int))
def mX11_bounded : MI := (yX11_bounded, cX11_bounded, 2, (some .int))
def mX11_worked : MI := (yX11_worked, cX11_worked, 5, (some .int))
def mX11_workOut : MI := (yX11_workOut, cX11_workOut, 6, (some .int))
def mX11_worthOf : MI := (yX11_worthOf, cX11_worthOf, 3, (some .int))
def mX11_number : MI := (yX11_number, cX11_number, 4, (some .int))
def mX11_itemOf : MI := (yX11_itemOf, cX11_itemOf, 2, (some .int))
def mX11_highest : MI := (yX11_highest, cX11_highest, 2, (some .int))
def mX11_usual : MI := (yX11_usual, cX11_usual, 2, (some .int))
def mX11_items : MI := (yX11_items, cX11_items, 7, none)
def mX11_isWhole : MI := (yX11_isWhole, cX11_isWhole, 5, (some .boolean))
def mX11_readTown : MI := (yX11_readTown, cX11_readTown, 4, (some .int))
def mX11_fault : MI := (yX11_fault, cX11_fault, 2, (some .int))
def mX11_layTold : MI := (yX11_layTold, cX11_layTold, 2, none)
def mX11_takeTown : MI := (yX11_takeTown, cX11_takeTown, 2, (some .int))
def mX11_text : MI := (yX11_text, cX11_text, 2, (some .int))
def mX11_isPerson : MI := (yX11_isPerson, cX11_isPerson, 2, (some .boolean))
def mX11_everybody : MI := (yX11_everybody, cX11_everybody, 1, (some .int))
def mX11_ofPerson : MI := (yX11_ofPerson, cX11_ofPerson, 3, (some .int))
def mX11_of : MI := (yX11_of, cX11_of, 3, (some .int))
def mX11_isHeavy : MI := (yX11_isHeavy, cX11_isHeavy, 2, (some .boolean))
def mX11_isPlace : MI := (yX11_isPlace, cX11_isPlace, 2, (some .boolean))
def mX11_isThere : MI := (yX11_isThere, cX11_isThere, 2, (some .boolean))
def mX11_holds : MI := (yX11_holds, cX11_holds, 2, (some .boolean))
def mX11_heavyMany : MI := (yX11_heavyMany, cX11_heavyMany, 3, (some .int))
def mX11_heavyOf : MI := (yX11_heavyOf, cX11_heavyOf, 5, (some .int))
def mX11_fadeAll : MI := (yX11_fadeAll, cX11_fadeAll, 3, none)
def mX11_leavers : MI := (yX11_leavers, cX11_leavers, 3, (some .int))
def mX11_heirBut : MI := (yX11_heirBut, cX11_heirBut, 3, (some .int))
def mX11_live : MI := (yX11_live, cX11_live, 5, (some .int))
def mX11_liveOne : MI := (yX11_liveOne, cX11_liveOne, 1, (some .int))
def mX11_passDay : MI := (yX11_passDay, cX11_passDay, 3, none)
def mX11_weighsNow : MI := (yX11_weighsNow, cX11_weighsNow, 4, (some .int))
def mX11_freePlace : MI := (yX11_freePlace, cX11_freePlace, 2, (some .int))
def mX11_mayOffend : MI := (yX11_mayOffend, cX11_mayOffend, 3, (some .boolean))
def mX11_offendNow : MI := (yX11_offendNow, cX11_offendNow, 5, (some .int))
def mX11_burdenOf : MI := (yX11_burdenOf, cX11_burdenOf, 4, (some .int))
def mX11_rule : MI := (yX11_rule, cX11_rule, 2, (some .int))
def mX11_person : MI := (yX11_person, cX11_person, 3, (some .int))
def mX11_grudge : MI := (yX11_grudge, cX11_grudge, 3, (some .int))
def mX11_law : MI := (yX11_law, cX11_law, 2, (some .boolean))
def mX11_keep : MI := (yX11_keep, cX11_keep, 2, none)
def mX11_isRefused : MI := (yX11_isRefused, cX11_isRefused, 2, (some .boolean))
def mX11_areDays : MI := (yX11_areDays, cX11_areDays, 2, (some .boolean))
def mX11_days : MI := (yX11_days, cX11_days, 3, (some .int))
def mX11_offends : MI := (yX11_offends, cX11_offends, 3, (some .int))
def mX11_forgives : MI := (yX11_forgives, cX11_forgives, 2, (some .int))
def mX11_becomes : MI := (yX11_becomes, cX11_becomes, 4, (some .int))
def mX11_give : MI := (yX11_give, cX11_give, 2, (some .int))
def mX11_mercy : MI := (yX11_mercy, cX11_mercy, 2, (some .boolean))
def mX11_draw : MI := (yX11_draw, cX11_draw, 2, (some .int))
def mX11_drawDay : MI := (yX11_drawDay, cX11_drawDay, 4, none)
def mX11_years : MI := (yX11_years, cX11_years, 5, (some .int))
def mX11_status : MI := (yX11_status, cX11_status, 2, (some .int))
def mX11_undo : MI := (yX11_undo, cX11_undo, 2, (some .int))
def mX11_log : MI := (yX11_log, cX11_log, 3, (some .int))
def mX11_putAside : MI := (yX11_putAside, cX11_putAside, 3, none)
def mX11_takeBack : MI := (yX11_takeBack, cX11_takeBack, 3, none)
def mX11_weighs : MI := (yX11_weighs, cX11_weighs, 3, (some .int))
def mX11_staysOf : MI := (yX11_staysOf, cX11_staysOf, 5, (some .int))
def mX11_stays : MI := (yX11_stays, cX11_stays, 2, (some .int))
def mX11_empty : MI := (yX11_empty, cX11_empty, 3, (some .int))
def mX11_doStay : MI := (yX11_doStay, cX11_doStay, 5, (some .boolean))
def mX11_tryOffend : MI := (yX11_tryOffend, cX11_tryOffend, 7, none)
def mX11_fewest : MI := (yX11_fewest, cX11_fewest, 4, (some .int))
def mX11_rid : MI := (yX11_rid, cX11_rid, 4, (some .int))
def mX11_isTreaty : MI := (yX11_isTreaty, cX11_isTreaty, 3, (some .boolean))
def mX11_treaty : MI := (yX11_treaty, cX11_treaty, 3, (some .int))
def mX11_seen : MI := (yX11_seen, cX11_seen, 4, (some .int))
def mX11_layTown : MI := (yX11_layTown, cX11_layTown, 4, none)
def mX11_isWeight : MI := (yX11_isWeight, cX11_isWeight, 4, (some .boolean))
def mX11_isToldOne : MI := (yX11_isToldOne, cX11_isToldOne, 2, (some .boolean))
def mX11_weights : MI := (yX11_weights, cX11_weights, 5, (some .int))
def mX11_whom : MI := (yX11_whom, cX11_whom, 6, (some .int))
def mX11_choose : MI := (yX11_choose, cX11_choose, 6, none)
def mX11_gameOf : MI := (yX11_gameOf, cX11_gameOf, 7, (some .int))
def mX11_areTwo : MI := (yX11_areTwo, cX11_areTwo, 3, (some .boolean))
def mX11_game : MI := (yX11_game, cX11_game, 6, (some .int))
def mX11_isRest : MI := (yX11_isRest, cX11_isRest, 6, (some .boolean))
def mX11_rests : MI := (yX11_rests, cX11_rests, 6, (some .int))
def mX11_oddsFrom : MI := (yX11_oddsFrom, cX11_oddsFrom, 9, (some .int))
def mX11_odds : MI := (yX11_odds, cX11_odds, 4, (some .int))
def mX11_allHeavy : MI := (yX11_allHeavy, cX11_allHeavy, 3, (some .int))
def mX11_shares : MI := (yX11_shares, cX11_shares, 5, (some .int))
def mX11_topBurden : MI := (yX11_topBurden, cX11_topBurden, 4, (some .int))
def mX11_sour : MI := (yX11_sour, cX11_sour, 3, (some .int))
def mX11_mostLiked : MI := (yX11_mostLiked, cX11_mostLiked, 3, (some .int))
def mX11_heaviest : MI := (yX11_heaviest, cX11_heaviest, 3, (some .int))
def mX11_heldOnes : MI := (yX11_heldOnes, cX11_heldOnes, 3, (some .int))
def mX11_fadingOnes : MI := (yX11_fadingOnes, cX11_fadingOnes, 3, (some .int))
def mX11_treaties : MI := (yX11_treaties, cX11_treaties, 4, (some .int))
def mX11_leaving : MI := (yX11_leaving, cX11_leaving, 2, (some .int))
def mX11_most : MI := (yX11_most, cX11_most, 2, (some .int))
def mX11_image : MI := (yX11_image, cX11_image, 2, (some .int))
def mX11_back : MI := (yX11_back, cX11_back, 2, (some .int))
def mX11_count : MI := (yX11_count, cX11_count, 2, (some .int))
def mJ11_isValidCodePoint_9a6ad : MI := (yJ11_isValidCodePoint_9a6ad, cJ11_isValidCodePoint_9a6ad, 2, (some .boolean))
def mJ11_highSurrogate_5068e : MI := (yJ11_highSurrogate_5068e, cJ11_highSurrogate_5068e, 1, (some .char))
def mJ11_lowSurrogate_5068e : MI := (yJ11_lowSurrogate_5068e, cJ11_lowSurrogate_5068e, 1, (some .char))
def mJ6_numberOfTrailingZeros_0f7a4 : MI := (yJ6_numberOfTrailingZeros_0f7a4, cJ6_numberOfTrailingZeros_0f7a4, 2, (some .int))
def mJ6_bitCount_0f7a4 : MI := (yJ6_bitCount_0f7a4, cJ6_bitCount_0f7a4, 1, (some .int))
def mJ9_floorMod_7cf53 : MI := (yJ9_floorMod_7cf53, cJ9_floorMod_7cf53, 3, (some .int))
def mJ9_abs_0f7a4 : MI := (yJ9_abs_0f7a4, cJ9_abs_0f7a4, 1, (some .int))
def mJ9_max_7cf53 : MI := (yJ9_max_7cf53, cJ9_max_7cf53, 2, (some .int))
def mJ9_max_f86c9 : MI := (yJ9_max_f86c9, cJ9_max_f86c9, 4, (some .long))
def mJ9_min_7cf53 : MI := (yJ9_min_7cf53, cJ9_min_7cf53, 2, (some .int))
def mJ9_min_f86c9 : MI := (yJ9_min_f86c9, cJ9_min_f86c9, 4, (some .long))
def mJ0_length_8abf5 : MI := (yJ0_length_8abf5, cJ0_length_8abf5, 1, (some .int))
def mJ0_indexOf_0f7a4 : MI := (yJ0_indexOf_0f7a4, cJ0_indexOf_0f7a4, 2, (some .int))
def mJ0_indexOf_7cf53 : MI := (yJ0_indexOf_7cf53, cJ0_indexOf_7cf53, 3, (some .int))
def mJ0_coder_7d493 : MI := (yJ0_coder_7d493, cJ0_coder_7d493, 1, (some .byte))
def mJ0_isLatin1_aae02 : MI := (yJ0_isLatin1_aae02, cJ0_isLatin1_aae02, 1, (some .boolean))
def mJ0_checkBoundsBeginEnd_23922 : MI := (yJ0_checkBoundsBeginEnd_23922, cJ0_checkBoundsBeginEnd_23922, 3, none)
def mJ1_canEncode_9a6ad : MI := (yJ1_canEncode_9a6ad, cJ1_canEncode_9a6ad, 1, (some .boolean))
def mJ1_indexOf_4cfef : MI := (yJ1_indexOf_4cfef, cJ1_indexOf_4cfef, 4, (some .int))
def mJ1_indexOfChar_4cfef : MI := (yJ1_indexOfChar_4cfef, cJ1_indexOfChar_4cfef, 6, (some .int))
def mJ2_getChar_3b067 : MI := (yJ2_getChar_3b067, cJ2_getChar_3b067, 2, (some .char))
def mJ2_length_9d52b : MI := (yJ2_length_9d52b, cJ2_length_9d52b, 1, (some .int))
def mJ2_indexOf_4cfef : MI := (yJ2_indexOf_4cfef, cJ2_indexOf_4cfef, 4, (some .int))
def mJ2_indexOfChar_4cfef : MI := (yJ2_indexOfChar_4cfef, cJ2_indexOfChar_4cfef, 4, (some .int))
def mJ2_indexOfCharUnsafe_4cfef : MI := (yJ2_indexOfCharUnsafe_4cfef, cJ2_indexOfCharUnsafe_4cfef, 5, (some .int))
def mJ2_indexOfSupplementary_4cfef : MI := (yJ2_indexOfSupplementary_4cfef, cJ2_indexOfSupplementary_4cfef, 7, (some .int))
def mJ2_checkBoundsBeginEnd_d044e : MI := (yJ2_checkBoundsBeginEnd_d044e, cJ2_checkBoundsBeginEnd_d044e, 3, none)
def mJ3_checkFromToIndex_8c36e : MI := (yJ3_checkFromToIndex_8c36e, cJ3_checkFromToIndex_8c36e, 4, (some .int))
theorem okX0_init : MOK mX0_init 0 := ⟨(mT2 (List.mem_of_getElem? (i := 23) rfl)), (mT1 (List.mem_of_getElem? (i := 11) rfl)), (by decide +kernel), (by decide), (by decide +kernel)⟩
theorem okX0_forget : MOK mX0_forget 0 := ⟨(mT3 (List.mem_of_getElem? (i := 139) rfl)), (mT1 (List.mem_of_getElem? (i := 11) rfl)), (by decide +kernel), (by decide), (by decide +kernel)⟩
theorem okX0_keep : MOK mX0_keep 1 := ⟨(mT3 (List.mem_of_getElem? (i := 228) rfl)), (mT1 (List.mem_of_getElem? (i := 11) rfl)), (by decide +kernel), (by decide), (by decide +kernel)⟩
theorem okX0_restore : MOK mX0_restore 1 := ⟨(mT4 (List.mem_of_getElem? (i := 123) rfl)), (mT1 (List.mem_of_getElem? (i := 11) rfl)), (by decide +kernel), (by decide), (by decide +kernel)⟩
theorem okX1_init : MOK mX1_init 0 := ⟨(mT1 (List.mem_of_getElem? (i := 188) rfl)), (mT1 (List.mem_of_getElem? (i := 8) rfl)), (by decide +kernel), (by decide), (by decide +kernel)⟩
theorem okX1_faultOf : MOK mX1_faultOf 2 := ⟨(mT3 (List.mem_of_getElem? (i := 63) rfl)), (mT1 (List.mem_of_getElem? (i := 8) rfl)), (by decide +kernel), (by decide), (by decide +kernel)⟩
theorem okX1_readClause : MOK mX1_readClause 0 := ⟨(mT3 (List.mem_of_getElem? (i := 68) rfl)), (mT1 (List.mem_of_getElem? (i := 8) rfl)), (by decide +kernel), (by decide), (by decide +kernel)⟩
theorem selX1_readClause : Cond.selects RX1 (mY mX1_readClause) (mY mX1_readClause) ∈ lw_tbl := mP (q := (yX1_readClause, 4)) (List.mem_append_left _ (List.mem_of_getElem? (i := 7) rfl))
theorem okX1_readCondition : MOK mX1_readCondition 1 := ⟨(mT3 (List.mem_of_getElem? (i := 105) rfl)), (mT1 (List.mem_of_getElem? (i := 8) rfl)), (by decide +kernel), (by decide), (by decide +kernel)⟩
theorem selX1_readCondition : Cond.selects RX1 (mY mX1_readCondition) (mY mX1_readCondition) ∈ lw_tbl := mP (q := (yX1_readCondition, 4)) (List.mem_append_left _ (List.mem_of_getElem? (i := 13) rfl))
theorem okX1_readTruth : MOK mX1_readTruth 1 := ⟨(mT3 (List.mem_of_getElem? (i := 109) rfl)), (mT1 (List.mem_of_getElem? (i := 8) rfl)), (by decide +kernel), (by decide), (by decide +kernel)⟩
theorem selX1_readTruth : Cond.selects RX1 (mY mX1_readTruth) (mY mX1_readTruth) ∈ lw_tbl := mP (q := (yX1_readTruth, 4)) (List.mem_append_left _ (List.mem_of_getElem? (i := 14) rfl))
theorem okX1_readUnit : MOK mX1_readUnit 1 := ⟨(mT3 (List.mem_of_getElem? (i := 113) rfl)), (mT1 (List.mem_of_getElem? (i := 8) rfl)), (by decide +kernel), (by decide), (by decide +kernel)⟩
theorem selX1_readUnit : Cond.selects RX1 (mY mX1_readUnit) (mY mX1_readUnit) ∈ lw_tbl := mP (q := (yX1_readUnit, 4)) (List.mem_append_left _ (List.mem_of_getElem? (i := 15) rfl))
theorem okX1_isRelation : MOK mX1_isRelation 1 := ⟨(mT3 (List.mem_of_getElem? (i := 101) rfl)), (mT1 (List.mem_of_getElem? (i := 8) rfl)), (by decide +kernel), (by decide), (by decide +kernel)⟩
theorem okX1_readSum : MOK mX1_readSum 1 := ⟨(mT3 (List.mem_of_getElem? (i := 77) rfl)), (mT1 (List.mem_of_getElem? (i := 8) rfl)), (by decide +kernel), (by decide), (by decide +kernel)⟩
theorem selX1_readSum : Cond.selects RX1 (mY mX1_readSum) (mY mX1_readSum) ∈ lw_tbl := mP (q := (yX1_readSum, 4)) (List.mem_append_left _ (List.mem_of_getElem? (i := 8) rfl))
theorem okX1_readTerm : MOK mX1_readTerm 1 := ⟨(mT3 (List.mem_of_getElem? (i := 81) rfl)), (mT1 (List.mem_of_getElem? (i := 8) rfl)), (by decide +kernel), (by decide), (by decide +kernel)⟩
theorem selX1_readTerm : Cond.selects RX1 (mY mX1_readTerm) (mY mX1_readTerm) ∈ lw_tbl := mP (q := (yX1_readTerm, 4)) (List.mem_append_left _ (List.mem_of_getElem? (i := 9) rfl))
theorem okX1_readAtom : MOK mX1_readAtom 1 := ⟨(mT3 (List.mem_of_getElem? (i := 85) rfl)), (mT1 (List.mem_of_getElem? (i := 8) rfl)), (by decide +kernel), (by decide), (by decide +kernel)⟩
theorem selX1_readAtom : Cond.selects RX1 (mY mX1_readAtom) (mY mX1_readAtom) ∈ lw_tbl := mP (q := (yX1_readAtom, 4)) (List.mem_append_left _ (List.mem_of_getElem? (i := 10) rfl))
theorem okX1_opens : MOK mX1_opens 1 := ⟨(mT3 (List.mem_of_getElem? (i := 96) rfl)), (mT1 (List.mem_of_getElem? (i := 8) rfl)), (by decide +kernel), (by decide), (by decide +kernel)⟩
theorem selX1_opens : Cond.selects RX1 (mY mX1_opens) (mY mX1_opens) ∈ lw_tbl := mP (q := (yX1_opens, 4)) (List.mem_append_left _ (List.mem_of_getElem? (i := 12) rfl))
theorem okX1_emit : MOK mX1_emit 1 := ⟨(mT3 (List.mem_of_getElem? (i := 92) rfl)), (mT1 (List.mem_of_getElem? (i := 8) rfl)), (by decide +kernel), (by decide), (by decide +kernel)⟩
theorem selX1_emit : Cond.selects RX1 (mY mX1_emit) (mY mX1_emit) ∈ lw_tbl := mP (q := (yX1_emit, 4)) (List.mem_append_left _ (List.mem_of_getElem? (i := 11) rfl))
theorem okX2_init : MOK mX2_init 0 := ⟨(mT1 (List.mem_of_getElem? (i := 211) rfl)), (mT1 (List.mem_of_getElem? (i := 9) rfl)), (by decide +kernel), (by decide), (by decide +kernel)⟩
theorem okX2_keep : MOK mX2_keep 2 := ⟨(mT3 (List.mem_of_getElem? (i := 151) rfl)), (mT1 (List.mem_of_getElem? (i := 9) rfl)), (by decide +kernel), (by decide), (by decide +kernel)⟩
theorem okX2_setLetters : MOK mX2_setLetters 6 := ⟨(mT4 (List.mem_of_getElem? (i := 51) rfl)), (mT1 (List.mem_of_getElem? (i := 9) rfl)), (by decide +kernel), (by decide), (by decide +kernel)⟩
theorem okX2_worth : MOK mX2_worth 0 := ⟨(mT4 (List.mem_of_getElem? (i := 55) rfl)), (mT1 (List.mem_of_getElem? (i := 9) rfl)), (by decide +kernel), (by decide), (by decide +kernel)⟩
theorem okX2_push : MOK mX2_push 1 := ⟨(mT4 (List.mem_of_getElem? (i := 59) rfl)), (mT1 (List.mem_of_getElem? (i := 9) rfl)), (by decide +kernel), (by decide), (by decide +kernel)⟩
theorem selX2_push : Cond.selects RX2 (mY mX2_push) (mY mX2_push) ∈ lw_tbl := mP (q := (yX2_push, 7)) (List.mem_append_right _ (List.mem_append_left _ (List.mem_of_getElem? (i := 13) rfl)))
theorem okX2_pop : MOK mX2_pop 0 := ⟨(mT4 (List.mem_of_getElem? (i := 63) rfl)), (mT1 (List.mem_of_getElem? (i := 9) rfl)), (by decide +kernel), (by decide), (by decide +kernel)⟩
theorem selX2_pop : Cond.selects RX2 (mY mX2_pop) (mY mX2_pop) ∈ lw_tbl := mP (q := (yX2_pop, 7)) (List.mem_append_right _ (List.mem_append_left _ (List.mem_of_getElem? (i := 14) rfl)))
theorem okX2_joined : MOK mX2_joined 3 := ⟨(mT4 (List.mem_of_getElem? (i := 66) rfl)), (mT1 (List.mem_of_getElem? (i := 9) rfl)), (by decide +kernel), (by decide), (by decide +kernel)⟩
theorem okX3_init : MOK mX3_init 0 := ⟨(mT2 (List.mem_of_getElem? (i := 7) rfl)), (mT1 (List.mem_of_getElem? (i := 10) rfl)), (by decide +kernel), (by decide), (by decide +kernel)⟩
theorem okX3_write : MOK mX3_write 4 := ⟨(mT4 (List.mem_of_getElem? (i := 14) rfl)), (mT1 (List.mem_of_getElem? (i := 10) rfl)), (by decide +kernel), (by decide), (by decide +kernel)⟩
theorem okX3_read : MOK mX3_read 2 := ⟨(mT3 (List.mem_of_getElem? (i := 189) rfl)), (mT1 (List.mem_of_getElem? (i := 10) rfl)), (by decide +kernel), (by decide), (by decide +kernel)⟩
theorem okX3_copyFrom : MOK mX3_copyFrom 1 := ⟨(mT4 (List.mem_of_getElem? (i := 131) rfl)), (mT1 (List.mem_of_getElem? (i := 10) rfl)), (by decide +kernel), (by decide), (by decide +kernel)⟩
theorem okX4_init : MOK mX4_init 0 := ⟨(mT2 (List.mem_of_getElem? (i := 43) rfl)), (mT1 (List.mem_of_getElem? (i := 12) rfl)), (by decide +kernel), (by decide), (by decide +kernel)⟩
theorem okX4_forget : MOK mX4_forget 0 := ⟨(mT3 (List.mem_of_getElem? (i := 143) rfl)), (mT1 (List.mem_of_getElem? (i := 12) rfl)), (by decide +kernel), (by decide), (by decide +kernel)⟩
theorem okX4_keep : MOK mX4_keep 3 := ⟨(mT4 (List.mem_of_getElem? (i := 212) rfl)), (mT1 (List.mem_of_getElem? (i := 12) rfl)), (by decide +kernel), (by decide), (by decide +kernel)⟩
theorem okX4_allSo : MOK mX4_allSo 0 := ⟨(mT4 (List.mem_of_getElem? (i := 228) rfl)), (mT1 (List.mem_of_getElem? (i := 12) rfl)), (by decide +kernel), (by decide), (by decide +kernel)⟩
theorem okX4_clearTally : MOK mX4_clearTally 0 := ⟨(mT4 (List.mem_of_getElem? (i := 236) rfl)), (mT1 (List.mem_of_getElem? (i := 12) rfl)), (by decide +kernel), (by decide), (by decide +kernel)⟩
theorem okX4_tallyBehind : MOK mX4_tallyBehind 1 := ⟨(mT5 (List.mem_of_getElem? (i := 0) rfl)), (mT1 (List.mem_of_getElem? (i := 12) rfl)), (by decide +kernel), (by decide), (by decide +kernel)⟩
theorem okX4_evenest : MOK mX4_evenest 2 := ⟨(mT5 (List.mem_of_getElem? (i := 4) rfl)), (mT1 (List.mem_of_getElem? (i := 12) rfl)), (by decide +kernel), (by decide), (by decide +kernel)⟩
theorem okX5_init : MOK mX5_init 0 := ⟨(mT1 (List.mem_of_getElem? (i := 139) rfl)), (mT1 (List.mem_of_getElem? (i := 6) rfl)), (by decide +kernel), (by decide), (by decide +kernel)⟩
theorem okX5_start : MOK mX5_start 2 := ⟨(mT2 (List.mem_of_getElem? (i := 144) rfl)), (mT1 (List.mem_of_getElem? (i := 6) rfl)), (by decide +kernel), (by decide), (by decide +kernel)⟩
theorem okX5_next : MOK mX5_next 0 := ⟨(mT2 (List.mem_of_getElem? (i := 163) rfl)), (mT1 (List.mem_of_getElem? (i := 6) rfl)), (by decide +kernel), (by decide), (by decide +kernel)⟩
theorem okX5_take : MOK mX5_take 0 := ⟨(mT2 (List.mem_of_getElem? (i := 184) rfl)), (mT1 (List.mem_of_getElem? (i := 6) rfl)), (by decide +kernel), (by decide), (by decide +kernel)⟩
theorem okX5_takes : MOK mX5_takes 1 := ⟨(mT3 (List.mem_of_getElem? (i := 54) rfl)), (mT1 (List.mem_of_getElem? (i := 6) rfl)), (by decide +kernel), (by decide), (by decide +kernel)⟩
theorem okX5_wants : MOK mX5_wants 1 := ⟨(mT3 (List.mem_of_getElem? (i := 72) rfl)), (mT1 (List.mem_of_getElem? (i := 6) rfl)), (by decide +kernel), (by decide), (by decide +kernel)⟩
theorem okX5_wrong : MOK mX5_wrong 0 := ⟨(mT3 (List.mem_of_getElem? (i := 28) rfl)), (mT1 (List.mem_of_getElem? (i := 6) rfl)), (by decide +kernel), (by decide), (by decide +kernel)⟩
theorem okX5_wrongAtLast : MOK mX5_wrongAtLast 0 := ⟨(mT3 (List.mem_of_getElem? (i := 32) rfl)), (mT1 (List.mem_of_getElem? (i := 6) rfl)), (by decide +kernel), (by decide), (by decide +kernel)⟩
theorem okX5_number : MOK mX5_number 1 := ⟨(mT3 (List.mem_of_getElem? (i := 23) rfl)), (mT1 (List.mem_of_getElem? (i := 6) rfl)), (by decide +kernel), (by decide), (by decide +kernel)⟩
theorem okX6_init : MOK mX6_init 0 := ⟨(mT1 (List.mem_of_getElem? (i := 65) rfl)), (mT1 (List.mem_of_getElem? (i := 5) rfl)), (by decide +kernel), (by decide), (by decide +kernel)⟩
theorem okX6_clear : MOK mX6_clear 0 := ⟨(mT2 (List.mem_of_getElem? (i := 155) rfl)), (mT1 (List.mem_of_getElem? (i := 5) rfl)), (by decide +kernel), (by decide), (by decide +kernel)⟩
theorem okX6_copyFrom : MOK mX6_copyFrom 1 := ⟨(mT3 (List.mem_of_getElem? (i := 133) rfl)), (mT1 (List.mem_of_getElem? (i := 5) rfl)), (by decide +kernel), (by decide), (by decide +kernel)⟩
theorem okX6_isIn : MOK mX6_isIn 1 := ⟨(mT4 (List.mem_of_getElem? (i := 2) rfl)), (mT1 (List.mem_of_getElem? (i := 5) rfl)), (by decide +kernel), (by decide), (by decide +kernel)⟩
theorem okX6_isHeld : MOK mX6_isHeld 1 := ⟨(mT4 (List.mem_of_getElem? (i := 115) rfl)), (mT1 (List.mem_of_getElem? (i := 5) rfl)), (by decide +kernel), (by decide), (by decide +kernel)⟩
theorem okX6_lowestFree : MOK mX6_lowestFree 0 := ⟨(mT4 (List.mem_of_getElem? (i := 27) rfl)), (mT1 (List.mem_of_getElem? (i := 5) rfl)), (by decide +kernel), (by decide), (by decide +kernel)⟩
theorem okX6_heavy : MOK mX6_heavy 0 := ⟨(mT3 (List.mem_of_getElem? (i := 200) rfl)), (mT1 (List.mem_of_getElem? (i := 5) rfl)), (by decide +kernel), (by decide), (by decide +kernel)⟩
theorem okX6_heavyBehindFading : MOK mX6_heavyBehindFading 1 := ⟨(mT3 (List.mem_of_getElem? (i := 204) rfl)), (mT1 (List.mem_of_getElem? (i := 5) rfl)), (by decide +kernel), (by decide), (by decide +kernel)⟩
theorem okX6_heldBehindFading : MOK mX6_heldBehindFading 1 := ⟨(mT4 (List.mem_of_getElem? (i := 176) rfl)), (mT1 (List.mem_of_getElem? (i := 5) rfl)), (by decide +kernel), (by decide), (by decide +kernel)⟩
theorem okX6_weightBehindFading : MOK mX6_weightBehindFading 2 := ⟨(mT3 (List.mem_of_getElem? (i := 208) rfl)), (mT1 (List.mem_of_getElem? (i := 5) rfl)), (by decide +kernel), (by decide), (by decide +kernel)⟩
theorem selX6_weightBehindFading : Cond.selects RX6 (mY mX6_weightBehindFading) (mY mX6_weightBehindFading) ∈ lw_tbl := mP (q := (yX6_weightBehindFading, 7)) (List.mem_append_right _ (List.mem_append_left _ (List.mem_of_getElem? (i := 5) rfl)))
theorem okX6_heavyAgainst : MOK mX6_heavyAgainst 1 := ⟨(mT4 (List.mem_of_getElem? (i := 39) rfl)), (mT1 (List.mem_of_getElem? (i := 5) rfl)), (by decide +kernel), (by decide), (by decide +kernel)⟩
theorem okX6_heavyOf : MOK mX6_heavyOf 1 := ⟨(mT4 (List.mem_of_getElem? (i := 47) rfl)), (mT1 (List.mem_of_getElem? (i := 5) rfl)), (by decide +kernel), (by decide), (by decide +kernel)⟩
theorem okX6_heavyWith : MOK mX6_heavyWith 2 := ⟨(mT4 (List.mem_of_getElem? (i := 43) rfl)), (mT1 (List.mem_of_getElem? (i := 5) rfl)), (by decide +kernel), (by decide), (by decide +kernel)⟩
theorem selX6_heavyWith : Cond.selects RX6 (mY mX6_heavyWith) (mY mX6_heavyWith) ∈ lw_tbl := mP (q := (yX6_heavyWith, 7)) (List.mem_append_right _ (List.mem_append_left _ (List.mem_of_getElem? (i := 12) rfl)))
theorem okX6_weightOfAll : MOK mX6_weightOfAll 1 := ⟨(mT4 (List.mem_of_getElem? (i := 194) rfl)), (mT1 (List.mem_of_getElem? (i := 5) rfl)), (by decide +kernel), (by decide), (by decide +kernel)⟩
theorem okX6_burdenOf : MOK mX6_burdenOf 1 := ⟨(mT5 (List.mem_of_getElem? (i := 53) rfl)), (mT1 (List.mem_of_getElem? (i := 5) rfl)), (by decide +kernel), (by decide), (by decide +kernel)⟩
theorem okX6_heaviest : MOK mX6_heaviest 0 := ⟨(mT5 (List.mem_of_getElem? (i := 67) rfl)), (mT1 (List.mem_of_getElem? (i := 5) rfl)), (by decide +kernel), (by decide), (by decide +kernel)⟩
theorem okX6_hasTreaty : MOK mX6_hasTreaty 2 := ⟨(mT4 (List.mem_of_getElem? (i := 184) rfl)), (mT1 (List.mem_of_getElem? (i := 5) rfl)), (by decide +kernel), (by decide), (by decide +kernel)⟩
theorem okX6_forgiveAll : MOK mX6_forgiveAll 2 := ⟨(mT5 (List.mem_of_getElem? (i := 30) rfl)), (mT1 (List.mem_of_getElem? (i := 5) rfl)), (by decide +kernel), (by decide), (by decide +kernel)⟩
theorem okX6_leaving : MOK mX6_leaving 1 := ⟨(mT5 (List.mem_of_getElem? (i := 76) rfl)), (mT1 (List.mem_of_getElem? (i := 5) rfl)), (by decide +kernel), (by decide), (by decide +kernel)⟩
theorem okX6_sunset : MOK mX6_sunset 1 := ⟨(mT3 (List.mem_of_getElem? (i := 238) rfl)), (mT1 (List.mem_of_getElem? (i := 5) rfl)), (by decide +kernel), (by decide), (by decide +kernel)⟩
theorem okX6_passOnWilled : MOK mX6_passOnWilled 1 := ⟨(mT4 (List.mem_of_getElem? (i := 6) rfl)), (mT1 (List.mem_of_getElem? (i := 5) rfl)), (by decide +kernel), (by decide), (by decide +kernel)⟩
theorem selX6_passOnWilled : Cond.selects RX6 (mY mX6_passOnWilled) (mY mX6_passOnWilled) ∈ lw_tbl := mP (q := (yX6_passOnWilled, 7)) (List.mem_append_right _ (List.mem_append_left _ (List.mem_of_getElem? (i := 8) rfl)))
theorem okX7_init : MOK mX7_init 0 := ⟨(mT1 (List.mem_of_getElem? (i := 37) rfl)), (mT1 (List.mem_of_getElem? (i := 2) rfl)), (by decide +kernel), (by decide), (by decide +kernel)⟩
theorem okX7_bytesIn : MOK mX7_bytesIn 1 := ⟨(mT2 (List.mem_of_getElem? (i := 124) rfl)), (mT1 (List.mem_of_getElem? (i := 2) rfl)), (by decide +kernel), (by decide), (by decide +kernel)⟩
theorem okX7_append : MOK mX7_append 1 := ⟨(mT2 (List.mem_of_getElem? (i := 128) rfl)), (mT1 (List.mem_of_getElem? (i := 2) rfl)), (by decide +kernel), (by decide), (by decide +kernel)⟩
theorem okX8_init : MOK mX8_init 0 := ⟨(mT1 (List.mem_of_getElem? (i := 59) rfl)), (mT1 (List.mem_of_getElem? (i := 4) rfl)), (by decide +kernel), (by decide), (by decide +kernel)⟩
theorem okX8_copyFrom : MOK mX8_copyFrom 1 := ⟨(mT3 (List.mem_of_getElem? (i := 126) rfl)), (mT1 (List.mem_of_getElem? (i := 4) rfl)), (by decide +kernel), (by decide), (by decide +kernel)⟩
theorem okX8_isWhole : MOK mX8_isWhole 0 := ⟨(mT3 (List.mem_of_getElem? (i := 59) rfl)), (mT1 (List.mem_of_getElem? (i := 4) rfl)), (by decide +kernel), (by decide), (by decide +kernel)⟩
theorem okX9_init : MOK mX9_init 0 := ⟨(mT1 (List.mem_of_getElem? (i := 53) rfl)), (mT1 (List.mem_of_getElem? (i := 3) rfl)), (by decide +kernel), (by decide), (by decide +kernel)⟩
theorem okX9_faultOf : MOK mX9_faultOf 2 := ⟨(mT2 (List.mem_of_getElem? (i := 140) rfl)), (mT1 (List.mem_of_getElem? (i := 3) rfl)), (by decide +kernel), (by decide), (by decide +kernel)⟩
theorem okX9_clearDraft : MOK mX9_clearDraft 0 := ⟨(mT2 (List.mem_of_getElem? (i := 151) rfl)), (mT1 (List.mem_of_getElem? (i := 3) rfl)), (by decide +kernel), (by decide), (by decide +kernel)⟩
theorem selX9_clearDraft : Cond.selects RX9 (mY mX9_clearDraft) (mY mX9_clearDraft) ∈ lw_tbl := mP (q := (yX9_clearDraft, 4)) (List.mem_append_left _ (List.mem_of_getElem? (i := 0) rfl))
theorem okX9_readClause : MOK mX9_readClause 0 := ⟨(mT2 (List.mem_of_getElem? (i := 159) rfl)), (mT1 (List.mem_of_getElem? (i := 3) rfl)), (by decide +kernel), (by decide), (by decide +kernel)⟩
theorem selX9_readClause : Cond.selects RX9 (mY mX9_readClause) (mY mX9_readClause) ∈ lw_tbl := mP (q := (yX9_readClause, 4)) (List.mem_append_left _ (List.mem_of_getElem? (i := 1) rfl))
theorem okX9_readRules : MOK mX9_readRules 0 := ⟨(mT2 (List.mem_of_getElem? (i := 167) rfl)), (mT1 (List.mem_of_getElem? (i := 3) rfl)), (by decide +kernel), (by decide), (by decide +kernel)⟩
theorem selX9_readRules : Cond.selects RX9 (mY mX9_readRules) (mY mX9_readRules) ∈ lw_tbl := mP (q := (yX9_readRules, 4)) (List.mem_append_left _ (List.mem_of_getElem? (i := 2) rfl))
theorem okX9_readPerson : MOK mX9_readPerson 0 := ⟨(mT3 (List.mem_of_getElem? (i := 36) rfl)), (mT1 (List.mem_of_getElem? (i := 3) rfl)), (by decide +kernel), (by decide), (by decide +kernel)⟩
theorem selX9_readPerson : Cond.selects RX9 (mY mX9_readPerson) (mY mX9_readPerson) ∈ lw_tbl := mP (q := (yX9_readPerson, 4)) (List.mem_append_left _ (List.mem_of_getElem? (i := 5) rfl))
theorem okX9_readGrudge : MOK mX9_readGrudge 0 := ⟨(mT3 (List.mem_of_getElem? (i := 45) rfl)), (mT1 (List.mem_of_getElem? (i := 3) rfl)), (by decide +kernel), (by decide), (by decide +kernel)⟩
theorem selX9_readGrudge : Cond.selects RX9 (mY mX9_readGrudge) (mY mX9_readGrudge) ∈ lw_tbl := mP (q := (yX9_readGrudge, 4)) (List.mem_append_left _ (List.mem_of_getElem? (i := 6) rfl))
theorem okX9_setItems : MOK mX9_setItems 4 := ⟨(mT2 (List.mem_of_getElem? (i := 171) rfl)), (mT1 (List.mem_of_getElem? (i := 3) rfl)), (by decide +kernel), (by decide), (by decide +kernel)⟩
theorem selX9_setItems : Cond.selects RX9 (mY mX9_setItems) (mY mX9_setItems) ∈ lw_tbl := mP (q := (yX9_setItems, 4)) (List.mem_append_left _ (List.mem_of_getElem? (i := 3) rfl))
theorem okX9_readItems : MOK mX9_readItems 3 := ⟨(mT2 (List.mem_of_getElem? (i := 180) rfl)), (mT1 (List.mem_of_getElem? (i := 3) rfl)), (by decide +kernel), (by decide), (by decide +kernel)⟩
theorem selX9_readItems : Cond.selects RX9 (mY mX9_readItems) (mY mX9_readItems) ∈ lw_tbl := mP (q := (yX9_readItems, 4)) (List.mem_append_left _ (List.mem_of_getElem? (i := 4) rfl))
theorem okX10_init : MOK mX10_init 0 := ⟨(mT1 (List.mem_of_getElem? (i := 29) rfl)), (mT1 (List.mem_of_getElem? (i := 1) rfl)), (by decide +kernel), (by decide), (by decide +kernel)⟩
theorem okX10_feed : MOK mX10_feed 5 := ⟨(mT2 (List.mem_of_getElem? (i := 121) rfl)), (mT1 (List.mem_of_getElem? (i := 1) rfl)), (by decide +kernel), (by decide), (by decide +kernel)⟩
theorem okX10_end : MOK mX10_end 1 := ⟨(mT2 (List.mem_of_getElem? (i := 132) rfl)), (mT1 (List.mem_of_getElem? (i := 1) rfl)), (by decide +kernel), (by decide), (by decide +kernel)⟩
theorem okX10_fault : MOK mX10_fault 1 := ⟨(mT2 (List.mem_of_getElem? (i := 136) rfl)), (mT1 (List.mem_of_getElem? (i := 1) rfl)), (by decide +kernel), (by decide), (by decide +kernel)⟩
theorem okX10_text : MOK mX10_text 1 := ⟨(mT3 (List.mem_of_getElem? (i := 118) rfl)), (mT1 (List.mem_of_getElem? (i := 1) rfl)), (by decide +kernel), (by decide), (by decide +kernel)⟩
theorem okX10_tellTown : MOK mX10_tellTown 0 := ⟨(mT3 (List.mem_of_getElem? (i := 122) rfl)), (mT1 (List.mem_of_getElem? (i := 1) rfl)), (by decide +kernel), (by decide), (by decide +kernel)⟩
theorem selX10_tellTown : Cond.selects RX10 (mY mX10_tellTown) (mY mX10_tellTown) ∈ lw_tbl := mP (q := (yX10_tellTown, 17)) (List.mem_append_right _ (List.mem_append_left _ (List.mem_of_getElem? (i := 0) rfl)))
theorem okX10_tellLaw : MOK mX10_tellLaw 0 := ⟨(mT3 (List.mem_of_getElem? (i := 147) rfl)), (mT1 (List.mem_of_getElem? (i := 1) rfl)), (by decide +kernel), (by decide), (by decide +kernel)⟩
theorem selX10_tellLaw : Cond.selects RX10 (mY mX10_tellLaw) (mY mX10_tellLaw) ∈ lw_tbl := mP (q := (yX10_tellLaw, 17)) (List.mem_append_right _ (List.mem_append_left _ (List.mem_of_getElem? (i := 1) rfl)))
theorem okX10_rule : MOK mX10_rule 1 := ⟨(mT3 (List.mem_of_getElem? (i := 156) rfl)), (mT1 (List.mem_of_getElem? (i := 1) rfl)), (by decide +kernel), (by decide), (by decide +kernel)⟩
theorem okX10_person : MOK mX10_person 2 := ⟨(mT5 (List.mem_of_getElem? (i := 84) rfl)), (mT1 (List.mem_of_getElem? (i := 1) rfl)), (by decide +kernel), (by decide), (by decide +kernel)⟩
theorem okX10_grudge : MOK mX10_grudge 2 := ⟨(mT3 (List.mem_of_getElem? (i := 164) rfl)), (mT1 (List.mem_of_getElem? (i := 1) rfl)), (by decide +kernel), (by decide), (by decide +kernel)⟩
theorem okX10_law : MOK mX10_law 1 := ⟨(mT3 (List.mem_of_getElem? (i := 172) rfl)), (mT1 (List.mem_of_getElem? (i := 1) rfl)), (by decide +kernel), (by decide), (by decide +kernel)⟩
theorem okX10_status : MOK mX10_status 1 := ⟨(mT3 (List.mem_of_getElem? (i := 176) rfl)), (mT1 (List.mem_of_getElem? (i := 1) rfl)), (by decide +kernel), (by decide), (by decide +kernel)⟩
theorem okX10_log : MOK mX10_log 2 := ⟨(mT3 (List.mem_of_getElem? (i := 180) rfl)), (mT1 (List.mem_of_getElem? (i := 1) rfl)), (by decide +kernel), (by decide), (by decide +kernel)⟩
theorem okX10_count : MOK mX10_count 1 := ⟨(mT3 (List.mem_of_getElem? (i := 196) rfl)), (mT1 (List.mem_of_getElem? (i := 1) rfl)), (by decide +kernel), (by decide), (by decide +kernel)⟩
theorem okX10_hasTown : MOK mX10_hasTown 0 := ⟨(mT3 (List.mem_of_getElem? (i := 160) rfl)), (mT1 (List.mem_of_getElem? (i := 1) rfl)), (by decide +kernel), (by decide), (by decide +kernel)⟩
theorem selX10_hasTown : Cond.selects RX10 (mY mX10_hasTown) (mY mX10_hasTown) ∈ lw_tbl := mP (q := (yX10_hasTown, 17)) (List.mem_append_right _ (List.mem_append_left _ (List.mem_of_getElem? (i := 2) rfl)))
theorem okX10_isPerson : MOK mX10_isPerson 1 := ⟨(mT4 (List.mem_of_getElem? (i := 22) rfl)), (mT1 (List.mem_of_getElem? (i := 1) rfl)), (by decide +kernel), (by decide), (by decide +kernel)⟩
theorem selX10_isPerson : Cond.selects RX10 (mY mX10_isPerson) (mY mX10_isPerson) ∈ lw_tbl := mP (q := (yX10_isPerson, 17)) (List.mem_append_right _ (List.mem_append_left _ (List.mem_of_getElem? (i := 9) rfl)))
theorem okX10_areTwo : MOK mX10_areTwo 2 := ⟨(mT4 (List.mem_of_getElem? (i := 144) rfl)), (mT1 (List.mem_of_getElem? (i := 1) rfl)), (by decide +kernel), (by decide), (by decide +kernel)⟩
theorem selX10_areTwo : Cond.selects RX10 (mY mX10_areTwo) (mY mX10_areTwo) ∈ lw_tbl := mP (q := (yX10_areTwo, 17)) (List.mem_append_right _ (List.mem_append_right _ (List.mem_append_left _ (List.mem_of_getElem? (i := 0) rfl))))
theorem okX10_areTwoInTown : MOK mX10_areTwoInTown 2 := ⟨(mT5 (List.mem_of_getElem? (i := 15) rfl)), (mT1 (List.mem_of_getElem? (i := 1) rfl)), (by decide +kernel), (by decide), (by decide +kernel)⟩
theorem selX10_areTwoInTown : Cond.selects RX10 (mY mX10_areTwoInTown) (mY mX10_areTwoInTown) ∈ lw_tbl := mP (q := (yX10_areTwoInTown, 17)) (List.mem_append_right _ (List.mem_append_right _ (List.mem_append_left _ (List.mem_of_getElem? (i := 7) rfl))))
theorem okX10_isGrudge : MOK mX10_isGrudge 1 := ⟨(mT3 (List.mem_of_getElem? (i := 168) rfl)), (mT1 (List.mem_of_getElem? (i := 1) rfl)), (by decide +kernel), (by decide), (by decide +kernel)⟩
theorem selX10_isGrudge : Cond.selects RX10 (mY mX10_isGrudge) (mY mX10_isGrudge) ∈ lw_tbl := mP (q := (yX10_isGrudge, 17)) (List.mem_append_right _ (List.mem_append_left _ (List.mem_of_getElem? (i := 3) rfl)))
theorem okX10_isToldGrudge : MOK mX10_isToldGrudge 1 := ⟨(mT4 (List.mem_of_getElem? (i := 220) rfl)), (mT1 (List.mem_of_getElem? (i := 1) rfl)), (by decide +kernel), (by decide), (by decide +kernel)⟩
theorem selX10_isToldGrudge : Cond.selects RX10 (mY mX10_isToldGrudge) (mY mX10_isToldGrudge) ∈ lw_tbl := mP (q := (yX10_isToldGrudge, 17)) (List.mem_append_right _ (List.mem_append_right _ (List.mem_append_left _ (List.mem_of_getElem? (i := 5) rfl))))
theorem okX10_logLength : MOK mX10_logLength 0 := ⟨(mT3 (List.mem_of_getElem? (i := 184) rfl)), (mT1 (List.mem_of_getElem? (i := 1) rfl)), (by decide +kernel), (by decide), (by decide +kernel)⟩
theorem selX10_logLength : Cond.selects RX10 (mY mX10_logLength) (mY mX10_logLength) ∈ lw_tbl := mP (q := (yX10_logLength, 17)) (List.mem_append_right _ (List.mem_append_left _ (List.mem_of_getElem? (i := 4) rfl)))
theorem okX10_days : MOK mX10_days 1 := ⟨(mT3 (List.mem_of_getElem? (i := 220) rfl)), (mT1 (List.mem_of_getElem? (i := 1) rfl)), (by decide +kernel), (by decide), (by decide +kernel)⟩
theorem okX10_offends : MOK mX10_offends 2 := ⟨(mT4 (List.mem_of_getElem? (i := 18) rfl)), (mT1 (List.mem_of_getElem? (i := 1) rfl)), (by decide +kernel), (by decide), (by decide +kernel)⟩
theorem okX10_forgives : MOK mX10_forgives 1 := ⟨(mT4 (List.mem_of_getElem? (i := 83) rfl)), (mT1 (List.mem_of_getElem? (i := 1) rfl)), (by decide +kernel), (by decide), (by decide +kernel)⟩
theorem okX10_becomes : MOK mX10_becomes 2 := ⟨(mT4 (List.mem_of_getElem? (i := 87) rfl)), (mT1 (List.mem_of_getElem? (i := 1) rfl)), (by decide +kernel), (by decide), (by decide +kernel)⟩
theorem okX10_give : MOK mX10_give 1 := ⟨(mT4 (List.mem_of_getElem? (i := 91) rfl)), (mT1 (List.mem_of_getElem? (i := 1) rfl)), (by decide +kernel), (by decide), (by decide +kernel)⟩
theorem okX10_mercy : MOK mX10_mercy 1 := ⟨(mT4 (List.mem_of_getElem? (i := 95) rfl)), (mT1 (List.mem_of_getElem? (i := 1) rfl)), (by decide +kernel), (by decide), (by decide +kernel)⟩
theorem okX10_years : MOK mX10_years 2 := ⟨(mT4 (List.mem_of_getElem? (i := 99) rfl)), (mT1 (List.mem_of_getElem? (i := 1) rfl)), (by decide +kernel), (by decide), (by decide +kernel)⟩
theorem okX10_undo : MOK mX10_undo 0 := ⟨(mT4 (List.mem_of_getElem? (i := 119) rfl)), (mT1 (List.mem_of_getElem? (i := 1) rfl)), (by decide +kernel), (by decide), (by decide +kernel)⟩
theorem okX10_image : MOK mX10_image 0 := ⟨(mT4 (List.mem_of_getElem? (i := 127) rfl)), (mT1 (List.mem_of_getElem? (i := 1) rfl)), (by decide +kernel), (by decide), (by decide +kernel)⟩
theorem okX10_back : MOK mX10_back 0 := ⟨(mT4 (List.mem_of_getElem? (i := 136) rfl)), (mT1 (List.mem_of_getElem? (i := 1) rfl)), (by decide +kernel), (by decide), (by decide +kernel)⟩
theorem okX10_refuse : MOK mX10_refuse 1 := ⟨(mT3 (List.mem_of_getElem? (i := 224) rfl)), (mT1 (List.mem_of_getElem? (i := 1) rfl)), (by decide +kernel), (by decide), (by decide +kernel)⟩
theorem selX10_refuse : Cond.selects RX10 (mY mX10_refuse) (mY mX10_refuse) ∈ lw_tbl := mP (q := (yX10_refuse, 17)) (List.mem_append_right _ (List.mem_append_left _ (List.mem_of_getElem? (i := 6) rfl)))
theorem okX10_passDay : MOK mX10_passDay 0 := ⟨(mT3 (List.mem_of_getElem? (i := 234) rfl)), (mT1 (List.mem_of_getElem? (i := 1) rfl)), (by decide +kernel), (by decide), (by decide +kernel)⟩
theorem selX10_passDay : Cond.selects RX10 (mY mX10_passDay) (mY mX10_passDay) ∈ lw_tbl := mP (q := (yX10_passDay, 17)) (List.mem_append_right _ (List.mem_append_left _ (List.mem_of_getElem? (i := 7) rfl)))
theorem okX10_drawTroubles : MOK mX10_drawTroubles 1 := ⟨(mT4 (List.mem_of_getElem? (i := 103) rfl)), (mT1 (List.mem_of_getElem? (i := 1) rfl)), (by decide +kernel), (by decide), (by decide +kernel)⟩
theorem selX10_drawTroubles : Cond.selects RX10 (mY mX10_drawTroubles) (mY mX10_drawTroubles) ∈ lw_tbl := mP (q := (yX10_drawTroubles, 17)) (List.mem_append_right _ (List.mem_append_left _ (List.mem_of_getElem? (i := 15) rfl)))
theorem okX10_nextX : MOK mX10_nextX 1 := ⟨(mT4 (List.mem_of_getElem? (i := 106) rfl)), (mT1 (List.mem_of_getElem? (i := 1) rfl)), (by decide +kernel), (by decide), (by decide +kernel)⟩
theorem okX10_drawOf : MOK mX10_drawOf 2 := ⟨(mT4 (List.mem_of_getElem? (i := 111) rfl)), (mT1 (List.mem_of_getElem? (i := 1) rfl)), (by decide +kernel), (by decide), (by decide +kernel)⟩
theorem okX10_offend : MOK mX10_offend 3 := ⟨(mT4 (List.mem_of_getElem? (i := 31) rfl)), (mT1 (List.mem_of_getElem? (i := 1) rfl)), (by decide +kernel), (by decide), (by decide +kernel)⟩
theorem selX10_offend : Cond.selects RX10 (mY mX10_offend) (mY mX10_offend) ∈ lw_tbl := mP (q := (yX10_offend, 17)) (List.mem_append_right _ (List.mem_append_left _ (List.mem_of_getElem? (i := 10) rfl)))
theorem okX10_weightOf : MOK mX10_weightOf 3 := ⟨(mT4 (List.mem_of_getElem? (i := 35) rfl)), (mT1 (List.mem_of_getElem? (i := 1) rfl)), (by decide +kernel), (by decide), (by decide +kernel)⟩
theorem selX10_weightOf : Cond.selects RX10 (mY mX10_weightOf) (mY mX10_weightOf) ∈ lw_tbl := mP (q := (yX10_weightOf, 17)) (List.mem_append_right _ (List.mem_append_left _ (List.mem_of_getElem? (i := 11) rfl)))
theorem okX10_weighs : MOK mX10_weighs 2 := ⟨(mT4 (List.mem_of_getElem? (i := 140) rfl)), (mT1 (List.mem_of_getElem? (i := 1) rfl)), (by decide +kernel), (by decide), (by decide +kernel)⟩
theorem okX10_stays : MOK mX10_stays 1 := ⟨(mT4 (List.mem_of_getElem? (i := 148) rfl)), (mT1 (List.mem_of_getElem? (i := 1) rfl)), (by decide +kernel), (by decide), (by decide +kernel)⟩
theorem okX10_empty : MOK mX10_empty 0 := ⟨(mT4 (List.mem_of_getElem? (i := 156) rfl)), (mT1 (List.mem_of_getElem? (i := 1) rfl)), (by decide +kernel), (by decide), (by decide +kernel)⟩
theorem okX10_fewest : MOK mX10_fewest 3 := ⟨(mT4 (List.mem_of_getElem? (i := 160) rfl)), (mT1 (List.mem_of_getElem? (i := 1) rfl)), (by decide +kernel), (by decide), (by decide +kernel)⟩
theorem okX10_rid : MOK mX10_rid 1 := ⟨(mT4 (List.mem_of_getElem? (i := 172) rfl)), (mT1 (List.mem_of_getElem? (i := 1) rfl)), (by decide +kernel), (by decide), (by decide +kernel)⟩
theorem okX10_treaty : MOK mX10_treaty 2 := ⟨(mT4 (List.mem_of_getElem? (i := 180) rfl)), (mT1 (List.mem_of_getElem? (i := 1) rfl)), (by decide +kernel), (by decide), (by decide +kernel)⟩
theorem okX10_shares : MOK mX10_shares 2 := ⟨(mT4 (List.mem_of_getElem? (i := 190) rfl)), (mT1 (List.mem_of_getElem? (i := 1) rfl)), (by decide +kernel), (by decide), (by decide +kernel)⟩
theorem okX10_odds : MOK mX10_odds 3 := ⟨(mT4 (List.mem_of_getElem? (i := 198) rfl)), (mT1 (List.mem_of_getElem? (i := 1) rfl)), (by decide +kernel), (by decide), (by decide +kernel)⟩
theorem okX10_sunsetsOf : MOK mX10_sunsetsOf 3 := ⟨(mT4 (List.mem_of_getElem? (i := 152) rfl)), (mT1 (List.mem_of_getElem? (i := 1) rfl)), (by decide +kernel), (by decide), (by decide +kernel)⟩
theorem selX10_sunsetsOf : Cond.selects RX10 (mY mX10_sunsetsOf) (mY mX10_sunsetsOf) ∈ lw_tbl := mP (q := (yX10_sunsetsOf, 17)) (List.mem_append_right _ (List.mem_append_right _ (List.mem_append_left _ (List.mem_of_getElem? (i := 1) rfl))))
theorem okX10_leastRow : MOK mX10_leastRow 5 := ⟨(mT4 (List.mem_of_getElem? (i := 164) rfl)), (mT1 (List.mem_of_getElem? (i := 1) rfl)), (by decide +kernel), (by decide), (by decide +kernel)⟩
theorem selX10_leastRow : Cond.selects RX10 (mY mX10_leastRow) (mY mX10_leastRow) ∈ lw_tbl := mP (q := (yX10_leastRow, 17)) (List.mem_append_right _ (List.mem_append_right _ (List.mem_append_left _ (List.mem_of_getElem? (i := 2) rfl))))
theorem okX10_allStay : MOK mX10_allStay 3 := ⟨(mT4 (List.mem_of_getElem? (i := 168) rfl)), (mT1 (List.mem_of_getElem? (i := 1) rfl)), (by decide +kernel), (by decide), (by decide +kernel)⟩
theorem selX10_allStay : Cond.selects RX10 (mY mX10_allStay) (mY mX10_allStay) ∈ lw_tbl := mP (q := (yX10_allStay, 17)) (List.mem_append_right _ (List.mem_append_right _ (List.mem_append_left _ (List.mem_of_getElem? (i := 3) rfl))))
theorem okX10_partsInTown : MOK mX10_partsInTown 4 := ⟨(mT4 (List.mem_of_getElem? (i := 203) rfl)), (mT1 (List.mem_of_getElem? (i := 1) rfl)), (by decide +kernel), (by decide), (by decide +kernel)⟩
theorem selX10_partsInTown : Cond.selects RX10 (mY mX10_partsInTown) (mY mX10_partsInTown) ∈ lw_tbl := mP (q := (yX10_partsInTown, 17)) (List.mem_append_right _ (List.mem_append_right _ (List.mem_append_left _ (List.mem_of_getElem? (i := 4) rfl))))
theorem okX10_seen : MOK mX10_seen 3 := ⟨(mT4 (List.mem_of_getElem? (i := 208) rfl)), (mT1 (List.mem_of_getElem? (i := 1) rfl)), (by decide +kernel), (by decide), (by decide +kernel)⟩
theorem okX10_weights : MOK mX10_weights 2 := ⟨(mT4 (List.mem_of_getElem? (i := 216) rfl)), (mT1 (List.mem_of_getElem? (i := 1) rfl)), (by decide +kernel), (by decide), (by decide +kernel)⟩
theorem okX10_whom : MOK mX10_whom 2 := ⟨(mT4 (List.mem_of_getElem? (i := 232) rfl)), (mT1 (List.mem_of_getElem? (i := 1) rfl)), (by decide +kernel), (by decide), (by decide +kernel)⟩
theorem okX10_fits : MOK mX10_fits 2 := ⟨(mT4 (List.mem_of_getElem? (i := 224) rfl)), (mT1 (List.mem_of_getElem? (i := 1) rfl)), (by decide +kernel), (by decide), (by decide +kernel)⟩
theorem selX10_fits : Cond.selects RX10 (mY mX10_fits) (mY mX10_fits) ∈ lw_tbl := mP (q := (yX10_fits, 17)) (List.mem_append_right _ (List.mem_append_right _ (List.mem_append_left _ (List.mem_of_getElem? (i := 6) rfl))))
theorem okX10_game : MOK mX10_game 5 := ⟨(mT5 (List.mem_of_getElem? (i := 11) rfl)), (mT1 (List.mem_of_getElem? (i := 1) rfl)), (by decide +kernel), (by decide), (by decide +kernel)⟩
theorem okX10_rests : MOK mX10_rests 3 := ⟨(mT5 (List.mem_of_getElem? (i := 37) rfl)), (mT1 (List.mem_of_getElem? (i := 1) rfl)), (by decide +kernel), (by decide), (by decide +kernel)⟩
theorem okX10_isChoice : MOK mX10_isChoice 1 := ⟨(mT5 (List.mem_of_getElem? (i := 18) rfl)), (mT1 (List.mem_of_getElem? (i := 1) rfl)), (by decide +kernel), (by decide), (by decide +kernel)⟩
theorem okX10_priceOf : MOK mX10_priceOf 1 := ⟨(mT5 (List.mem_of_getElem? (i := 33) rfl)), (mT1 (List.mem_of_getElem? (i := 1) rfl)), (by decide +kernel), (by decide), (by decide +kernel)⟩
theorem okX10_gameOf : MOK mX10_gameOf 5 := ⟨(mT5 (List.mem_of_getElem? (i := 22) rfl)), (mT1 (List.mem_of_getElem? (i := 1) rfl)), (by decide +kernel), (by decide), (by decide +kernel)⟩
theorem selX10_gameOf : Cond.selects RX10 (mY mX10_gameOf) (mY mX10_gameOf) ∈ lw_tbl := mP (q := (yX10_gameOf, 17)) (List.mem_append_right _ (List.mem_append_right _ (List.mem_append_left _ (List.mem_of_getElem? (i := 8) rfl))))
theorem okX10_choose : MOK mX10_choose 4 := ⟨(mT5 (List.mem_of_getElem? (i := 26) rfl)), (mT1 (List.mem_of_getElem? (i := 1) rfl)), (by decide +kernel), (by decide), (by decide +kernel)⟩
theorem selX10_choose : Cond.selects RX10 (mY mX10_choose) (mY mX10_choose) ∈ lw_tbl := mP (q := (yX10_choose, 17)) (List.mem_append_right _ (List.mem_append_right _ (List.mem_append_left _ (List.mem_of_getElem? (i := 9) rfl))))
theorem okX10_isRest : MOK mX10_isRest 2 := ⟨(mT5 (List.mem_of_getElem? (i := 41) rfl)), (mT1 (List.mem_of_getElem? (i := 1) rfl)), (by decide +kernel), (by decide), (by decide +kernel)⟩
theorem selX10_isRest : Cond.selects RX10 (mY mX10_isRest) (mY mX10_isRest) ∈ lw_tbl := mP (q := (yX10_isRest, 17)) (List.mem_append_right _ (List.mem_append_right _ (List.mem_append_left _ (List.mem_of_getElem? (i := 10) rfl))))
theorem okX10_most : MOK mX10_most 1 := ⟨(mT5 (List.mem_of_getElem? (i := 45) rfl)), (mT1 (List.mem_of_getElem? (i := 1) rfl)), (by decide +kernel), (by decide), (by decide +kernel)⟩
theorem okX10_mostBurdened : MOK mX10_mostBurdened 1 := ⟨(mT5 (List.mem_of_getElem? (i := 49) rfl)), (mT1 (List.mem_of_getElem? (i := 1) rfl)), (by decide +kernel), (by decide), (by decide +kernel)⟩
theorem selX10_mostBurdened : Cond.selects RX10 (mY mX10_mostBurdened) (mY mX10_mostBurdened) ∈ lw_tbl := mP (q := (yX10_mostBurdened, 17)) (List.mem_append_right _ (List.mem_append_right _ (List.mem_append_left _ (List.mem_of_getElem? (i := 11) rfl))))
theorem okX10_sourest : MOK mX10_sourest 0 := ⟨(mT5 (List.mem_of_getElem? (i := 59) rfl)), (mT1 (List.mem_of_getElem? (i := 1) rfl)), (by decide +kernel), (by decide), (by decide +kernel)⟩
theorem selX10_sourest : Cond.selects RX10 (mY mX10_sourest) (mY mX10_sourest) ∈ lw_tbl := mP (q := (yX10_sourest, 17)) (List.mem_append_right _ (List.mem_append_right _ (List.mem_append_left _ (List.mem_of_getElem? (i := 12) rfl))))
theorem okX10_mostLiked : MOK mX10_mostLiked 0 := ⟨(mT5 (List.mem_of_getElem? (i := 63) rfl)), (mT1 (List.mem_of_getElem? (i := 1) rfl)), (by decide +kernel), (by decide), (by decide +kernel)⟩
theorem selX10_mostLiked : Cond.selects RX10 (mY mX10_mostLiked) (mY mX10_mostLiked) ∈ lw_tbl := mP (q := (yX10_mostLiked, 17)) (List.mem_append_right _ (List.mem_append_right _ (List.mem_append_left _ (List.mem_of_getElem? (i := 13) rfl))))
theorem okX10_treaties : MOK mX10_treaties 0 := ⟨(mT5 (List.mem_of_getElem? (i := 72) rfl)), (mT1 (List.mem_of_getElem? (i := 1) rfl)), (by decide +kernel), (by decide), (by decide +kernel)⟩
theorem selX10_treaties : Cond.selects RX10 (mY mX10_treaties) (mY mX10_treaties) ∈ lw_tbl := mP (q := (yX10_treaties, 17)) (List.mem_append_right _ (List.mem_append_right _ (List.mem_append_left _ (List.mem_of_getElem? (i := 14) rfl))))
theorem okX11_in : MOK mX11_in 3 := ⟨(mT6 (List.mem_of_getElem? (i := 114) rfl)), (mT1 (List.mem_of_getElem? (i := 13) rfl)), (by decide +kernel), (by decide), (by decide +kernel)⟩
theorem okX11_has : MOK mX11_has 2 := ⟨(mT6 (List.mem_of_getElem? (i := 97) rfl)), (mT1 (List.mem_of_getElem? (i := 13) rfl)), (by decide +kernel), (by decide), (by decide +kernel)⟩
theorem okX11_init : MOK mX11_init 0 := ⟨(mT5 (List.mem_of_getElem? (i := 155) rfl)), (mT1 (List.mem_of_getElem? (i := 13) rfl)), (by decide +kernel), (by decide), (by decide +kernel)⟩
theorem okX11_thrown : MOK mX11_thrown 0 := ⟨(mT6 (List.mem_of_getElem? (i := 57) rfl)), (mT1 (List.mem_of_getElem? (i := 13) rfl)), (by decide +kernel), (by decide), (by decide +kernel)⟩
theorem okX11_byteOf : MOK mX11_byteOf 6 := ⟨(mT6 (List.mem_of_getElem? (i := 64) rfl)), (mT1 (List.mem_of_getElem? (i := 13) rfl)), (by decide +kernel), (by decide), (by decide +kernel)⟩
theorem okX11_feed : MOK mX11_feed 5 := ⟨(mT6 (List.mem_of_getElem? (i := 61) rfl)), (mT1 (List.mem_of_getElem? (i := 13) rfl)), (by decide +kernel), (by decide), (by decide +kernel)⟩
theorem okX11_end : MOK mX11_end 1 := ⟨(mT6 (List.mem_of_getElem? (i := 68) rfl)), (mT1 (List.mem_of_getElem? (i := 13) rfl)), (by decide +kernel), (by decide), (by decide +kernel)⟩
theorem okX11_here : MOK mX11_here 0 := ⟨(mT6 (List.mem_of_getElem? (i := 87) rfl)), (mT1 (List.mem_of_getElem? (i := 13) rfl)), (by decide +kernel), (by decide), (by decide +kernel)⟩
theorem selX11_here : Cond.selects RX11 (mY mX11_here) (mY mX11_here) ∈ lw_tbl := mP (q := (yX11_here, 45)) (List.mem_append_right _ (List.mem_append_right _ (List.mem_append_right _ (List.mem_append_left _ (List.mem_of_getElem? (i := 2) rfl)))))
theorem okX11_look : MOK mX11_look 0 := ⟨(mT6 (List.mem_of_getElem? (i := 83) rfl)), (mT1 (List.mem_of_getElem? (i := 13) rfl)), (by decide +kernel), (by decide), (by decide +kernel)⟩
theorem selX11_look : Cond.selects RX11 (mY mX11_look) (mY mX11_look) ∈ lw_tbl := mP (q := (yX11_look, 45)) (List.mem_append_right _ (List.mem_append_right _ (List.mem_append_right _ (List.mem_append_left _ (List.mem_of_getElem? (i := 1) rfl)))))
theorem okX11_bad : MOK mX11_bad 0 := ⟨(mT6 (List.mem_of_getElem? (i := 111) rfl)), (mT1 (List.mem_of_getElem? (i := 13) rfl)), (by decide +kernel), (by decide), (by decide +kernel)⟩
theorem selX11_bad : Cond.selects RX11 (mY mX11_bad) (mY mX11_bad) ∈ lw_tbl := mP (q := (yX11_bad, 45)) (List.mem_append_right _ (List.mem_append_right _ (List.mem_append_right _ (List.mem_append_left _ (List.mem_of_getElem? (i := 5) rfl)))))
theorem okX11_isDigit : MOK mX11_isDigit 1 := ⟨(mT6 (List.mem_of_getElem? (i := 107) rfl)), (mT1 (List.mem_of_getElem? (i := 13) rfl)), (by decide +kernel), (by decide), (by decide +kernel)⟩
theorem okX11_put : MOK mX11_put 2 := ⟨(mT6 (List.mem_of_getElem? (i := 146) rfl)), (mT1 (List.mem_of_getElem? (i := 13) rfl)), (by decide +kernel), (by decide), (by decide +kernel)⟩
theorem selX11_put : Cond.selects RX11 (mY mX11_put) (mY mX11_put) ∈ lw_tbl := mP (q := (yX11_put, 45)) (List.mem_append_right _ (List.mem_append_right _ (List.mem_append_right _ (List.mem_append_left _ (List.mem_of_getElem? (i := 13) rfl)))))
theorem okX11_letterOf : MOK mX11_letterOf 1 := ⟨(mT6 (List.mem_of_getElem? (i := 169) rfl)), (mT1 (List.mem_of_getElem? (i := 13) rfl)), (by decide +kernel), (by decide), (by decide +kernel)⟩
theorem okX11_opens : MOK mX11_opens 0 := ⟨(mT6 (List.mem_of_getElem? (i := 142) rfl)), (mT1 (List.mem_of_getElem? (i := 13) rfl)), (by decide +kernel), (by decide), (by decide +kernel)⟩
theorem selX11_opens : Cond.selects RX11 (mY mX11_opens) (mY mX11_opens) ∈ lw_tbl := mP (q := (yX11_opens, 45)) (List.mem_append_right _ (List.mem_append_right _ (List.mem_append_right _ (List.mem_append_left _ (List.mem_of_getElem? (i := 12) rfl)))))
theorem okX11_closes : MOK mX11_closes 1 := ⟨(mT6 (List.mem_of_getElem? (i := 150) rfl)), (mT1 (List.mem_of_getElem? (i := 13) rfl)), (by decide +kernel), (by decide), (by decide +kernel)⟩
theorem selX11_closes : Cond.selects RX11 (mY mX11_closes) (mY mX11_closes) ∈ lw_tbl := mP (q := (yX11_closes, 45)) (List.mem_append_right _ (List.mem_append_right _ (List.mem_append_right _ (List.mem_append_left _ (List.mem_of_getElem? (i := 14) rfl)))))
theorem okX11_plainNumber : MOK mX11_plainNumber 0 := ⟨(mT6 (List.mem_of_getElem? (i := 166) rfl)), (mT1 (List.mem_of_getElem? (i := 13) rfl)), (by decide +kernel), (by decide), (by decide +kernel)⟩
theorem selX11_plainNumber : Cond.selects RX11 (mY mX11_plainNumber) (mY mX11_plainNumber) ∈ lw_tbl := mP (q := (yX11_plainNumber, 45)) (List.mem_append_right _ (List.mem_append_right _ (List.mem_append_right _ (List.mem_append_right _ (List.mem_append_left _ (List.mem_of_getElem? (i := 2) rfl))))))
theorem okX11_atom : MOK mX11_atom 0 := ⟨(mT6 (List.mem_of_getElem? (i := 162) rfl)), (mT1 (List.mem_of_getElem? (i := 13) rfl)), (by decide +kernel), (by decide), (by decide +kernel)⟩
theorem selX11_atom : Cond.selects RX11 (mY mX11_atom) (mY mX11_atom) ∈ lw_tbl := mP (q := (yX11_atom, 45)) (List.mem_append_right _ (List.mem_append_right _ (List.mem_append_right _ (List.mem_append_right _ (List.mem_append_left _ (List.mem_of_getElem? (i := 1) rfl))))))
theorem okX11_term : MOK mX11_term 0 := ⟨(mT6 (List.mem_of_getElem? (i := 158) rfl)), (mT1 (List.mem_of_getElem? (i := 13) rfl)), (by decide +kernel), (by decide), (by decide +kernel)⟩
theorem selX11_term : Cond.selects RX11 (mY mX11_term) (mY mX11_term) ∈ lw_tbl := mP (q := (yX11_term, 45)) (List.mem_append_right _ (List.mem_append_right _ (List.mem_append_right _ (List.mem_append_right _ (List.mem_append_left _ (List.mem_of_getElem? (i := 0) rfl))))))
theorem okX11_sum : MOK mX11_sum 0 := ⟨(mT6 (List.mem_of_getElem? (i := 154) rfl)), (mT1 (List.mem_of_getElem? (i := 13) rfl)), (by decide +kernel), (by decide), (by decide +kernel)⟩
theorem selX11_sum : Cond.selects RX11 (mY mX11_sum) (mY mX11_sum) ∈ lw_tbl := mP (q := (yX11_sum, 45)) (List.mem_append_right _ (List.mem_append_right _ (List.mem_append_right _ (List.mem_append_left _ (List.mem_of_getElem? (i := 15) rfl)))))
theorem okX11_isSign : MOK mX11_isSign 1 := ⟨(mT6 (List.mem_of_getElem? (i := 176) rfl)), (mT1 (List.mem_of_getElem? (i := 13) rfl)), (by decide +kernel), (by decide), (by decide +kernel)⟩
theorem okX11_compare : MOK mX11_compare 0 := ⟨(mT6 (List.mem_of_getElem? (i := 173) rfl)), (mT1 (List.mem_of_getElem? (i := 13) rfl)), (by decide +kernel), (by decide), (by decide +kernel)⟩
theorem selX11_compare : Cond.selects RX11 (mY mX11_compare) (mY mX11_compare) ∈ lw_tbl := mP (q := (yX11_compare, 45)) (List.mem_append_right _ (List.mem_append_right _ (List.mem_append_right _ (List.mem_append_right _ (List.mem_append_left _ (List.mem_of_getElem? (i := 3) rfl))))))
theorem okX11_unit : MOK mX11_unit 0 := ⟨(mT6 (List.mem_of_getElem? (i := 138) rfl)), (mT1 (List.mem_of_getElem? (i := 13) rfl)), (by decide +kernel), (by decide), (by decide +kernel)⟩
theorem selX11_unit : Cond.selects RX11 (mY mX11_unit) (mY mX11_unit) ∈ lw_tbl := mP (q := (yX11_unit, 45)) (List.mem_append_right _ (List.mem_append_right _ (List.mem_append_right _ (List.mem_append_left _ (List.mem_of_getElem? (i := 11) rfl)))))
theorem okX11_goOnAnd : MOK mX11_goOnAnd 0 := ⟨(mT6 (List.mem_of_getElem? (i := 180) rfl)), (mT1 (List.mem_of_getElem? (i := 13) rfl)), (by decide +kernel), (by decide), (by decide +kernel)⟩
theorem selX11_goOnAnd : Cond.selects RX11 (mY mX11_goOnAnd) (mY mX11_goOnAnd) ∈ lw_tbl := mP (q := (yX11_goOnAnd, 45)) (List.mem_append_right _ (List.mem_append_right _ (List.mem_append_right _ (List.mem_append_right _ (List.mem_append_left _ (List.mem_of_getElem? (i := 4) rfl))))))
theorem okX11_goOnOr : MOK mX11_goOnOr 0 := ⟨(mT6 (List.mem_of_getElem? (i := 184) rfl)), (mT1 (List.mem_of_getElem? (i := 13) rfl)), (by decide +kernel), (by decide), (by decide +kernel)⟩
theorem selX11_goOnOr : Cond.selects RX11 (mY mX11_goOnOr) (mY mX11_goOnOr) ∈ lw_tbl := mP (q := (yX11_goOnOr, 45)) (List.mem_append_right _ (List.mem_append_right _ (List.mem_append_right _ (List.mem_append_right _ (List.mem_append_left _ (List.mem_of_getElem? (i := 5) rfl))))))
theorem okX11_condition : MOK mX11_condition 0 := ⟨(mT6 (List.mem_of_getElem? (i := 134) rfl)), (mT1 (List.mem_of_getElem? (i := 13) rfl)), (by decide +kernel), (by decide), (by decide +kernel)⟩
theorem selX11_condition : Cond.selects RX11 (mY mX11_condition) (mY mX11_condition) ∈ lw_tbl := mP (q := (yX11_condition, 45)) (List.mem_append_right _ (List.mem_append_right _ (List.mem_append_right _ (List.mem_append_left _ (List.mem_of_getElem? (i := 10) rfl)))))
theorem okX11_clause : MOK mX11_clause 0 := ⟨(mT6 (List.mem_of_getElem? (i := 130) rfl)), (mT1 (List.mem_of_getElem? (i := 13) rfl)), (by decide +kernel), (by decide), (by decide +kernel)⟩
theorem selX11_clause : Cond.selects RX11 (mY mX11_clause) (mY mX11_clause) ∈ lw_tbl := mP (q := (yX11_clause, 45)) (List.mem_append_right _ (List.mem_append_right _ (List.mem_append_right _ (List.mem_append_left _ (List.mem_of_getElem? (i := 9) rfl)))))
theorem okX11_open : MOK mX11_open 1 := ⟨(mT6 (List.mem_of_getElem? (i := 126) rfl)), (mT1 (List.mem_of_getElem? (i := 13) rfl)), (by decide +kernel), (by decide), (by decide +kernel)⟩
theorem selX11_open : Cond.selects RX11 (mY mX11_open) (mY mX11_open) ∈ lw_tbl := mP (q := (yX11_open, 45)) (List.mem_append_right _ (List.mem_append_right _ (List.mem_append_right _ (List.mem_append_left _ (List.mem_of_getElem? (i := 8) rfl)))))
theorem okX11_atEnd : MOK mX11_atEnd 0 := ⟨(mT6 (List.mem_of_getElem? (i := 188) rfl)), (mT1 (List.mem_of_getElem? (i := 13) rfl)), (by decide +kernel), (by decide), (by decide +kernel)⟩
theorem selX11_atEnd : Cond.selects RX11 (mY mX11_atEnd) (mY mX11_atEnd) ∈ lw_tbl := mP (q := (yX11_atEnd, 45)) (List.mem_append_right _ (List.mem_append_right _ (List.mem_append_right _ (List.mem_append_right _ (List.mem_append_left _ (List.mem_of_getElem? (i := 6) rfl))))))
theorem okX11_readLaw : MOK mX11_readLaw 1 := ⟨(mT6 (List.mem_of_getElem? (i := 122) rfl)), (mT1 (List.mem_of_getElem? (i := 13) rfl)), (by decide +kernel), (by decide), (by decide +kernel)⟩
theorem selX11_readLaw : Cond.selects RX11 (mY mX11_readLaw) (mY mX11_readLaw) ∈ lw_tbl := mP (q := (yX11_readLaw, 45)) (List.mem_append_right _ (List.mem_append_right _ (List.mem_append_right _ (List.mem_append_left _ (List.mem_of_getElem? (i := 7) rfl)))))
theorem okX11_bounded : MOK mX11_bounded 1 := ⟨(mT7 (List.mem_of_getElem? (i := 93) rfl)), (mT1 (List.mem_of_getElem? (i := 13) rfl)), (by decide +kernel), (by decide), (by decide +kernel)⟩
theorem okX11_worked : MOK mX11_worked 3 := ⟨(mT7 (List.mem_of_getElem? (i := 90) rfl)), (mT1 (List.mem_of_getElem? (i := 13) rfl)), (by decide +kernel), (by decide), (by decide +kernel)⟩
theorem okX11_workOut : MOK mX11_workOut 3 := ⟨(mT7 (List.mem_of_getElem? (i := 87) rfl)), (mT1 (List.mem_of_getElem? (i := 13) rfl)), (by decide +kernel), (by decide), (by decide +kernel)⟩
theorem selX11_workOut : Cond.selects RX11 (mY mX11_workOut) (mY mX11_workOut) ∈ lw_tbl := mP (q := (yX11_workOut, 45)) (List.mem_append_right _ (List.mem_append_right _ (List.mem_append_right _ (List.mem_append_right _ (List.mem_append_right _ (List.mem_append_right _ (List.mem_append_left _ (List.mem_of_getElem? (i := 1) rfl))))))))
theorem okX11_worthOf : MOK mX11_worthOf 1 := ⟨(mT7 (List.mem_of_getElem? (i := 83) rfl)), (mT1 (List.mem_of_getElem? (i := 13) rfl)), (by decide +kernel), (by decide), (by decide +kernel)⟩
theorem selX11_worthOf : Cond.selects RX11 (mY mX11_worthOf) (mY mX11_worthOf) ∈ lw_tbl := mP (q := (yX11_worthOf, 45)) (List.mem_append_right _ (List.mem_append_right _ (List.mem_append_right _ (List.mem_append_right _ (List.mem_append_right _ (List.mem_append_right _ (List.mem_append_left _ (List.mem_of_getElem? (i := 0) rfl))))))))
theorem okX11_number : MOK mX11_number 2 := ⟨(mT6 (List.mem_of_getElem? (i := 104) rfl)), (mT1 (List.mem_of_getElem? (i := 13) rfl)), (by decide +kernel), (by decide), (by decide +kernel)⟩
theorem selX11_number : Cond.selects RX11 (mY mX11_number) (mY mX11_number) ∈ lw_tbl := mP (q := (yX11_number, 45)) (List.mem_append_right _ (List.mem_append_right _ (List.mem_append_right _ (List.mem_append_left _ (List.mem_of_getElem? (i := 4) rfl)))))
theorem okX11_itemOf : MOK mX11_itemOf 2 := ⟨(mT6 (List.mem_of_getElem? (i := 94) rfl)), (mT1 (List.mem_of_getElem? (i := 13) rfl)), (by decide +kernel), (by decide), (by decide +kernel)⟩
theorem okX11_highest : MOK mX11_highest 2 := ⟨(mT6 (List.mem_of_getElem? (i := 100) rfl)), (mT1 (List.mem_of_getElem? (i := 13) rfl)), (by decide +kernel), (by decide), (by decide +kernel)⟩
theorem okX11_usual : MOK mX11_usual 2 := ⟨(mT6 (List.mem_of_getElem? (i := 79) rfl)), (mT1 (List.mem_of_getElem? (i := 13) rfl)), (by decide +kernel), (by decide), (by decide +kernel)⟩
theorem okX11_items : MOK mX11_items 4 := ⟨(mT6 (List.mem_of_getElem? (i := 91) rfl)), (mT1 (List.mem_of_getElem? (i := 13) rfl)), (by decide +kernel), (by decide), (by decide +kernel)⟩
theorem selX11_items : Cond.selects RX11 (mY mX11_items) (mY mX11_items) ∈ lw_tbl := mP (q := (yX11_items, 45)) (List.mem_append_right _ (List.mem_append_right _ (List.mem_append_right _ (List.mem_append_left _ (List.mem_of_getElem? (i := 3) rfl)))))
theorem okX11_isWhole : MOK mX11_isWhole 0 := ⟨(mT6 (List.mem_of_getElem? (i := 118) rfl)), (mT1 (List.mem_of_getElem? (i := 13) rfl)), (by decide +kernel), (by decide), (by decide +kernel)⟩
theorem selX11_isWhole : Cond.selects RX11 (mY mX11_isWhole) (mY mX11_isWhole) ∈ lw_tbl := mP (q := (yX11_isWhole, 45)) (List.mem_append_right _ (List.mem_append_right _ (List.mem_append_right _ (List.mem_append_left _ (List.mem_of_getElem? (i := 6) rfl)))))
theorem okX11_readTown : MOK mX11_readTown 0 := ⟨(mT6 (List.mem_of_getElem? (i := 76) rfl)), (mT1 (List.mem_of_getElem? (i := 13) rfl)), (by decide +kernel), (by decide), (by decide +kernel)⟩
theorem selX11_readTown : Cond.selects RX11 (mY mX11_readTown) (mY mX11_readTown) ∈ lw_tbl := mP (q := (yX11_readTown, 45)) (List.mem_append_right _ (List.mem_append_right _ (List.mem_append_right _ (List.mem_append_left _ (List.mem_of_getElem? (i := 0) rfl)))))
theorem okX11_fault : MOK mX11_fault 1 := ⟨(mT6 (List.mem_of_getElem? (i := 72) rfl)), (mT1 (List.mem_of_getElem? (i := 13) rfl)), (by decide +kernel), (by decide), (by decide +kernel)⟩
theorem okX11_layTold : MOK mX11_layTold 0 := ⟨(mT6 (List.mem_of_getElem? (i := 200) rfl)), (mT1 (List.mem_of_getElem? (i := 13) rfl)), (by decide +kernel), (by decide), (by decide +kernel)⟩
theorem selX11_layTold : Cond.selects RX11 (mY mX11_layTold) (mY mX11_layTold) ∈ lw_tbl := mP (q := (yX11_layTold, 45)) (List.mem_append_right _ (List.mem_append_right _ (List.mem_append_right _ (List.mem_append_right _ (List.mem_append_left _ (List.mem_of_getElem? (i := 8) rfl))))))
theorem okX11_takeTown : MOK mX11_takeTown 0 := ⟨(mT6 (List.mem_of_getElem? (i := 196) rfl)), (mT1 (List.mem_of_getElem? (i := 13) rfl)), (by decide +kernel), (by decide), (by decide +kernel)⟩
theorem selX11_takeTown : Cond.selects RX11 (mY mX11_takeTown) (mY mX11_takeTown) ∈ lw_tbl := mP (q := (yX11_takeTown, 45)) (List.mem_append_right _ (List.mem_append_right _ (List.mem_append_right _ (List.mem_append_right _ (List.mem_append_left _ (List.mem_of_getElem? (i := 7) rfl))))))
theorem okX11_text : MOK mX11_text 1 := ⟨(mT6 (List.mem_of_getElem? (i := 192) rfl)), (mT1 (List.mem_of_getElem? (i := 13) rfl)), (by decide +kernel), (by decide), (by decide +kernel)⟩
theorem okX11_isPerson : MOK mX11_isPerson 1 := ⟨(mT6 (List.mem_of_getElem? (i := 216) rfl)), (mT1 (List.mem_of_getElem? (i := 13) rfl)), (by decide +kernel), (by decide), (by decide +kernel)⟩
theorem selX11_isPerson : Cond.selects RX11 (mY mX11_isPerson) (mY mX11_isPerson) ∈ lw_tbl := mP (q := (yX11_isPerson, 45)) (List.mem_append_right _ (List.mem_append_right _ (List.mem_append_right _ (List.mem_append_right _ (List.mem_append_left _ (List.mem_of_getElem? (i := 10) rfl))))))
theorem okX11_everybody : MOK mX11_everybody 0 := ⟨(mT6 (List.mem_of_getElem? (i := 204) rfl)), (mT1 (List.mem_of_getElem? (i := 13) rfl)), (by decide +kernel), (by decide), (by decide +kernel)⟩
theorem selX11_everybody : Cond.selects RX11 (mY mX11_everybody) (mY mX11_everybody) ∈ lw_tbl := mP (q := (yX11_everybody, 45)) (List.mem_append_right _ (List.mem_append_right _ (List.mem_append_right _ (List.mem_append_right _ (List.mem_append_left _ (List.mem_of_getElem? (i := 9) rfl))))))
theorem okX11_ofPerson : MOK mX11_ofPerson 2 := ⟨(mT7 (List.mem_of_getElem? (i := 4) rfl)), (mT1 (List.mem_of_getElem? (i := 13) rfl)), (by decide +kernel), (by decide), (by decide +kernel)⟩
theorem selX11_ofPerson : Cond.selects RX11 (mY mX11_ofPerson) (mY mX11_ofPerson) ∈ lw_tbl := mP (q := (yX11_ofPerson, 45)) (List.mem_append_right _ (List.mem_append_right _ (List.mem_append_right _ (List.mem_append_right _ (List.mem_append_right _ (List.mem_append_left _ (List.mem_of_getElem? (i := 1) rfl)))))))
theorem okX11_of : MOK mX11_of 2 := ⟨(mT6 (List.mem_of_getElem? (i := 232) rfl)), (mT1 (List.mem_of_getElem? (i := 13) rfl)), (by decide +kernel), (by decide), (by decide +kernel)⟩
theorem selX11_of : Cond.selects RX11 (mY mX11_of) (mY mX11_of) ∈ lw_tbl := mP (q := (yX11_of, 45)) (List.mem_append_right _ (List.mem_append_right _ (List.mem_append_right _ (List.mem_append_right _ (List.mem_append_left _ (List.mem_of_getElem? (i := 14) rfl))))))
theorem okX11_isHeavy : MOK mX11_isHeavy 1 := ⟨(mT6 (List.mem_of_getElem? (i := 228) rfl)), (mT1 (List.mem_of_getElem? (i := 13) rfl)), (by decide +kernel), (by decide), (by decide +kernel)⟩
theorem selX11_isHeavy : Cond.selects RX11 (mY mX11_isHeavy) (mY mX11_isHeavy) ∈ lw_tbl := mP (q := (yX11_isHeavy, 45)) (List.mem_append_right _ (List.mem_append_right _ (List.mem_append_right _ (List.mem_append_right _ (List.mem_append_left _ (List.mem_of_getElem? (i := 13) rfl))))))
theorem okX11_isPlace : MOK mX11_isPlace 1 := ⟨(mT7 (List.mem_of_getElem? (i := 12) rfl)), (mT1 (List.mem_of_getElem? (i := 13) rfl)), (by decide +kernel), (by decide), (by decide +kernel)⟩
theorem selX11_isPlace : Cond.selects RX11 (mY mX11_isPlace) (mY mX11_isPlace) ∈ lw_tbl := mP (q := (yX11_isPlace, 45)) (List.mem_append_right _ (List.mem_append_right _ (List.mem_append_right _ (List.mem_append_right _ (List.mem_append_right _ (List.mem_append_left _ (List.mem_of_getElem? (i := 2) rfl)))))))
theorem okX11_isThere : MOK mX11_isThere 1 := ⟨(mT6 (List.mem_of_getElem? (i := 220) rfl)), (mT1 (List.mem_of_getElem? (i := 13) rfl)), (by decide +kernel), (by decide), (by decide +kernel)⟩
theorem selX11_isThere : Cond.selects RX11 (mY mX11_isThere) (mY mX11_isThere) ∈ lw_tbl := mP (q := (yX11_isThere, 45)) (List.mem_append_right _ (List.mem_append_right _ (List.mem_append_right _ (List.mem_append_right _ (List.mem_append_left _ (List.mem_of_getElem? (i := 11) rfl))))))
theorem okX11_holds : MOK mX11_holds 1 := ⟨(mT7 (List.mem_of_getElem? (i := 0) rfl)), (mT1 (List.mem_of_getElem? (i := 13) rfl)), (by decide +kernel), (by decide), (by decide +kernel)⟩
theorem selX11_holds : Cond.selects RX11 (mY mX11_holds) (mY mX11_holds) ∈ lw_tbl := mP (q := (yX11_holds, 45)) (List.mem_append_right _ (List.mem_append_right _ (List.mem_append_right _ (List.mem_append_right _ (List.mem_append_right _ (List.mem_append_left _ (List.mem_of_getElem? (i := 0) rfl)))))))
theorem okX11_heavyMany : MOK mX11_heavyMany 0 := ⟨(mT7 (List.mem_of_getElem? (i := 62) rfl)), (mT1 (List.mem_of_getElem? (i := 13) rfl)), (by decide +kernel), (by decide), (by decide +kernel)⟩
theorem selX11_heavyMany : Cond.selects RX11 (mY mX11_heavyMany) (mY mX11_heavyMany) ∈ lw_tbl := mP (q := (yX11_heavyMany, 45)) (List.mem_append_right _ (List.mem_append_right _ (List.mem_append_right _ (List.mem_append_right _ (List.mem_append_right _ (List.mem_append_left _ (List.mem_of_getElem? (i := 12) rfl)))))))
theorem okX11_heavyOf : MOK mX11_heavyOf 2 := ⟨(mT6 (List.mem_of_getElem? (i := 224) rfl)), (mT1 (List.mem_of_getElem? (i := 13) rfl)), (by decide +kernel), (by decide), (by decide +kernel)⟩
theorem selX11_heavyOf : Cond.selects RX11 (mY mX11_heavyOf) (mY mX11_heavyOf) ∈ lw_tbl := mP (q := (yX11_heavyOf, 45)) (List.mem_append_right _ (List.mem_append_right _ (List.mem_append_right _ (List.mem_append_right _ (List.mem_append_left _ (List.mem_of_getElem? (i := 12) rfl))))))
theorem okX11_fadeAll : MOK mX11_fadeAll 1 := ⟨(mT7 (List.mem_of_getElem? (i := 48) rfl)), (mT1 (List.mem_of_getElem? (i := 13) rfl)), (by decide +kernel), (by decide), (by decide +kernel)⟩
theorem selX11_fadeAll : Cond.selects RX11 (mY mX11_fadeAll) (mY mX11_fadeAll) ∈ lw_tbl := mP (q := (yX11_fadeAll, 45)) (List.mem_append_right _ (List.mem_append_right _ (List.mem_append_right _ (List.mem_append_right _ (List.mem_append_right _ (List.mem_append_left _ (List.mem_of_getElem? (i := 9) rfl)))))))
theorem okX11_leavers : MOK mX11_leavers 0 := ⟨(mT7 (List.mem_of_getElem? (i := 53) rfl)), (mT1 (List.mem_of_getElem? (i := 13) rfl)), (by decide +kernel), (by decide), (by decide +kernel)⟩
theorem selX11_leavers : Cond.selects RX11 (mY mX11_leavers) (mY mX11_leavers) ∈ lw_tbl := mP (q := (yX11_leavers, 45)) (List.mem_append_right _ (List.mem_append_right _ (List.mem_append_right _ (List.mem_append_right _ (List.mem_append_right _ (List.mem_append_left _ (List.mem_of_getElem? (i := 10) rfl)))))))
theorem okX11_heirBut : MOK mX11_heirBut 1 := ⟨(mT7 (List.mem_of_getElem? (i := 57) rfl)), (mT1 (List.mem_of_getElem? (i := 13) rfl)), (by decide +kernel), (by decide), (by decide +kernel)⟩
theorem selX11_heirBut : Cond.selects RX11 (mY mX11_heirBut) (mY mX11_heirBut) ∈ lw_tbl := mP (q := (yX11_heirBut, 45)) (List.mem_append_right _ (List.mem_append_right _ (List.mem_append_right _ (List.mem_append_right _ (List.mem_append_right _ (List.mem_append_left _ (List.mem_of_getElem? (i := 11) rfl)))))))
theorem okX11_live : MOK mX11_live 1 := ⟨(mT7 (List.mem_of_getElem? (i := 44) rfl)), (mT1 (List.mem_of_getElem? (i := 13) rfl)), (by decide +kernel), (by decide), (by decide +kernel)⟩
theorem selX11_live : Cond.selects RX11 (mY mX11_live) (mY mX11_live) ∈ lw_tbl := mP (q := (yX11_live, 45)) (List.mem_append_right _ (List.mem_append_right _ (List.mem_append_right _ (List.mem_append_right _ (List.mem_append_right _ (List.mem_append_left _ (List.mem_of_getElem? (i := 8) rfl)))))))
theorem okX11_liveOne : MOK mX11_liveOne 0 := ⟨(mT7 (List.mem_of_getElem? (i := 40) rfl)), (mT1 (List.mem_of_getElem? (i := 13) rfl)), (by decide +kernel), (by decide), (by decide +kernel)⟩
theorem selX11_liveOne : Cond.selects RX11 (mY mX11_liveOne) (mY mX11_liveOne) ∈ lw_tbl := mP (q := (yX11_liveOne, 45)) (List.mem_append_right _ (List.mem_append_right _ (List.mem_append_right _ (List.mem_append_right _ (List.mem_append_right _ (List.mem_append_left _ (List.mem_of_getElem? (i := 7) rfl)))))))
theorem okX11_passDay : MOK mX11_passDay 0 := ⟨(mT7 (List.mem_of_getElem? (i := 36) rfl)), (mT1 (List.mem_of_getElem? (i := 13) rfl)), (by decide +kernel), (by decide), (by decide +kernel)⟩
theorem selX11_passDay : Cond.selects RX11 (mY mX11_passDay) (mY mX11_passDay) ∈ lw_tbl := mP (q := (yX11_passDay, 45)) (List.mem_append_right _ (List.mem_append_right _ (List.mem_append_right _ (List.mem_append_right _ (List.mem_append_right _ (List.mem_append_left _ (List.mem_of_getElem? (i := 6) rfl)))))))
theorem okX11_weighsNow : MOK mX11_weighsNow 2 := ⟨(mT7 (List.mem_of_getElem? (i := 78) rfl)), (mT1 (List.mem_of_getElem? (i := 13) rfl)), (by decide +kernel), (by decide), (by decide +kernel)⟩
theorem selX11_weighsNow : Cond.selects RX11 (mY mX11_weighsNow) (mY mX11_weighsNow) ∈ lw_tbl := mP (q := (yX11_weighsNow, 45)) (List.mem_append_right _ (List.mem_append_right _ (List.mem_append_right _ (List.mem_append_right _ (List.mem_append_right _ (List.mem_append_left _ (List.mem_of_getElem? (i := 15) rfl)))))))
theorem okX11_freePlace : MOK mX11_freePlace 0 := ⟨(mT7 (List.mem_of_getElem? (i := 70) rfl)), (mT1 (List.mem_of_getElem? (i := 13) rfl)), (by decide +kernel), (by decide), (by decide +kernel)⟩
theorem selX11_freePlace : Cond.selects RX11 (mY mX11_freePlace) (mY mX11_freePlace) ∈ lw_tbl := mP (q := (yX11_freePlace, 45)) (List.mem_append_right _ (List.mem_append_right _ (List.mem_append_right _ (List.mem_append_right _ (List.mem_append_right _ (List.mem_append_left _ (List.mem_of_getElem? (i := 13) rfl)))))))
theorem okX11_mayOffend : MOK mX11_mayOffend 2 := ⟨(mT7 (List.mem_of_getElem? (i := 131) rfl)), (mT1 (List.mem_of_getElem? (i := 13) rfl)), (by decide +kernel), (by decide), (by decide +kernel)⟩
theorem selX11_mayOffend : Cond.selects RX11 (mY mX11_mayOffend) (mY mX11_mayOffend) ∈ lw_tbl := mP (q := (yX11_mayOffend, 45)) (List.mem_append_right _ (List.mem_append_right _ (List.mem_append_right _ (List.mem_append_right _ (List.mem_append_right _ (List.mem_append_right _ (List.mem_append_left _ (List.mem_of_getElem? (i := 4) rfl))))))))
theorem okX11_offendNow : MOK mX11_offendNow 2 := ⟨(mT7 (List.mem_of_getElem? (i := 74) rfl)), (mT1 (List.mem_of_getElem? (i := 13) rfl)), (by decide +kernel), (by decide), (by decide +kernel)⟩
theorem selX11_offendNow : Cond.selects RX11 (mY mX11_offendNow) (mY mX11_offendNow) ∈ lw_tbl := mP (q := (yX11_offendNow, 45)) (List.mem_append_right _ (List.mem_append_right _ (List.mem_append_right _ (List.mem_append_right _ (List.mem_append_right _ (List.mem_append_left _ (List.mem_of_getElem? (i := 14) rfl)))))))
theorem okX11_burdenOf : MOK mX11_burdenOf 1 := ⟨(mT6 (List.mem_of_getElem? (i := 236) rfl)), (mT1 (List.mem_of_getElem? (i := 13) rfl)), (by decide +kernel), (by decide), (by decide +kernel)⟩
theorem selX11_burdenOf : Cond.selects RX11 (mY mX11_burdenOf) (mY mX11_burdenOf) ∈ lw_tbl := mP (q := (yX11_burdenOf, 45)) (List.mem_append_right _ (List.mem_append_right _ (List.mem_append_right _ (List.mem_append_right _ (List.mem_append_left _ (List.mem_of_getElem? (i := 15) rfl))))))
theorem okX11_rule : MOK mX11_rule 1 := ⟨(mT6 (List.mem_of_getElem? (i := 208) rfl)), (mT1 (List.mem_of_getElem? (i := 13) rfl)), (by decide +kernel), (by decide), (by decide +kernel)⟩
theorem okX11_person : MOK mX11_person 2 := ⟨(mT6 (List.mem_of_getElem? (i := 212) rfl)), (mT1 (List.mem_of_getElem? (i := 13) rfl)), (by decide +kernel), (by decide), (by decide +kernel)⟩
theorem okX11_grudge : MOK mX11_grudge 2 := ⟨(mT7 (List.mem_of_getElem? (i := 8) rfl)), (mT1 (List.mem_of_getElem? (i := 13) rfl)), (by decide +kernel), (by decide), (by decide +kernel)⟩
theorem okX11_law : MOK mX11_law 1 := ⟨(mT7 (List.mem_of_getElem? (i := 16) rfl)), (mT1 (List.mem_of_getElem? (i := 13) rfl)), (by decide +kernel), (by decide), (by decide +kernel)⟩
theorem okX11_keep : MOK mX11_keep 0 := ⟨(mT7 (List.mem_of_getElem? (i := 32) rfl)), (mT1 (List.mem_of_getElem? (i := 13) rfl)), (by decide +kernel), (by decide), (by decide +kernel)⟩
theorem selX11_keep : Cond.selects RX11 (mY mX11_keep) (mY mX11_keep) ∈ lw_tbl := mP (q := (yX11_keep, 45)) (List.mem_append_right _ (List.mem_append_right _ (List.mem_append_right _ (List.mem_append_right _ (List.mem_append_right _ (List.mem_append_left _ (List.mem_of_getElem? (i := 5) rfl)))))))
theorem okX11_isRefused : MOK mX11_isRefused 1 := ⟨(mT7 (List.mem_of_getElem? (i := 28) rfl)), (mT1 (List.mem_of_getElem? (i := 13) rfl)), (by decide +kernel), (by decide), (by decide +kernel)⟩
theorem selX11_isRefused : Cond.selects RX11 (mY mX11_isRefused) (mY mX11_isRefused) ∈ lw_tbl := mP (q := (yX11_isRefused, 45)) (List.mem_append_right _ (List.mem_append_right _ (List.mem_append_right _ (List.mem_append_right _ (List.mem_append_right _ (List.mem_append_left _ (List.mem_of_getElem? (i := 4) rfl)))))))
theorem okX11_areDays : MOK mX11_areDays 1 := ⟨(mT7 (List.mem_of_getElem? (i := 24) rfl)), (mT1 (List.mem_of_getElem? (i := 13) rfl)), (by decide +kernel), (by decide), (by decide +kernel)⟩
theorem selX11_areDays : Cond.selects RX11 (mY mX11_areDays) (mY mX11_areDays) ∈ lw_tbl := mP (q := (yX11_areDays, 45)) (List.mem_append_right _ (List.mem_append_right _ (List.mem_append_right _ (List.mem_append_right _ (List.mem_append_right _ (List.mem_append_left _ (List.mem_of_getElem? (i := 3) rfl)))))))
theorem okX11_days : MOK mX11_days 1 := ⟨(mT7 (List.mem_of_getElem? (i := 20) rfl)), (mT1 (List.mem_of_getElem? (i := 13) rfl)), (by decide +kernel), (by decide), (by decide +kernel)⟩
theorem okX11_offends : MOK mX11_offends 2 := ⟨(mT7 (List.mem_of_getElem? (i := 66) rfl)), (mT1 (List.mem_of_getElem? (i := 13) rfl)), (by decide +kernel), (by decide), (by decide +kernel)⟩
theorem okX11_forgives : MOK mX11_forgives 1 := ⟨(mT7 (List.mem_of_getElem? (i := 101) rfl)), (mT1 (List.mem_of_getElem? (i := 13) rfl)), (by decide +kernel), (by decide), (by decide +kernel)⟩
theorem okX11_becomes : MOK mX11_becomes 2 := ⟨(mT7 (List.mem_of_getElem? (i := 105) rfl)), (mT1 (List.mem_of_getElem? (i := 13) rfl)), (by decide +kernel), (by decide), (by decide +kernel)⟩
theorem okX11_give : MOK mX11_give 1 := ⟨(mT7 (List.mem_of_getElem? (i := 109) rfl)), (mT1 (List.mem_of_getElem? (i := 13) rfl)), (by decide +kernel), (by decide), (by decide +kernel)⟩
theorem okX11_mercy : MOK mX11_mercy 1 := ⟨(mT7 (List.mem_of_getElem? (i := 113) rfl)), (mT1 (List.mem_of_getElem? (i := 13) rfl)), (by decide +kernel), (by decide), (by decide +kernel)⟩
theorem okX11_draw : MOK mX11_draw 1 := ⟨(mT7 (List.mem_of_getElem? (i := 125) rfl)), (mT1 (List.mem_of_getElem? (i := 13) rfl)), (by decide +kernel), (by decide), (by decide +kernel)⟩
theorem selX11_draw : Cond.selects RX11 (mY mX11_draw) (mY mX11_draw) ∈ lw_tbl := mP (q := (yX11_draw, 45)) (List.mem_append_right _ (List.mem_append_right _ (List.mem_append_right _ (List.mem_append_right _ (List.mem_append_right _ (List.mem_append_right _ (List.mem_append_left _ (List.mem_of_getElem? (i := 3) rfl))))))))
theorem okX11_drawDay : MOK mX11_drawDay 0 := ⟨(mT7 (List.mem_of_getElem? (i := 121) rfl)), (mT1 (List.mem_of_getElem? (i := 13) rfl)), (by decide +kernel), (by decide), (by decide +kernel)⟩
theorem selX11_drawDay : Cond.selects RX11 (mY mX11_drawDay) (mY mX11_drawDay) ∈ lw_tbl := mP (q := (yX11_drawDay, 45)) (List.mem_append_right _ (List.mem_append_right _ (List.mem_append_right _ (List.mem_append_right _ (List.mem_append_right _ (List.mem_append_right _ (List.mem_append_left _ (List.mem_of_getElem? (i := 2) rfl))))))))
theorem okX11_years : MOK mX11_years 2 := ⟨(mT7 (List.mem_of_getElem? (i := 117) rfl)), (mT1 (List.mem_of_getElem? (i := 13) rfl)), (by decide +kernel), (by decide), (by decide +kernel)⟩
theorem okX11_status : MOK mX11_status 1 := ⟨(mT7 (List.mem_of_getElem? (i := 135) rfl)), (mT1 (List.mem_of_getElem? (i := 13) rfl)), (by decide +kernel), (by decide), (by decide +kernel)⟩
theorem okX11_undo : MOK mX11_undo 0 := ⟨(mT7 (List.mem_of_getElem? (i := 139) rfl)), (mT1 (List.mem_of_getElem? (i := 13) rfl)), (by decide +kernel), (by decide), (by decide +kernel)⟩
theorem okX11_log : MOK mX11_log 2 := ⟨(mT7 (List.mem_of_getElem? (i := 143) rfl)), (mT1 (List.mem_of_getElem? (i := 13) rfl)), (by decide +kernel), (by decide), (by decide +kernel)⟩
theorem okX11_putAside : MOK mX11_putAside 1 := ⟨(mT7 (List.mem_of_getElem? (i := 159) rfl)), (mT1 (List.mem_of_getElem? (i := 13) rfl)), (by decide +kernel), (by decide), (by decide +kernel)⟩
theorem selX11_putAside : Cond.selects RX11 (mY mX11_putAside) (mY mX11_putAside) ∈ lw_tbl := mP (q := (yX11_putAside, 45)) (List.mem_append_right _ (List.mem_append_right _ (List.mem_append_right _ (List.mem_append_right _ (List.mem_append_right _ (List.mem_append_right _ (List.mem_append_left _ (List.mem_of_getElem? (i := 6) rfl))))))))
theorem okX11_takeBack : MOK mX11_takeBack 1 := ⟨(mT7 (List.mem_of_getElem? (i := 163) rfl)), (mT1 (List.mem_of_getElem? (i := 13) rfl)), (by decide +kernel), (by decide), (by decide +kernel)⟩
theorem selX11_takeBack : Cond.selects RX11 (mY mX11_takeBack) (mY mX11_takeBack) ∈ lw_tbl := mP (q := (yX11_takeBack, 45)) (List.mem_append_right _ (List.mem_append_right _ (List.mem_append_right _ (List.mem_append_right _ (List.mem_append_right _ (List.mem_append_right _ (List.mem_append_left _ (List.mem_of_getElem? (i := 7) rfl))))))))
theorem okX11_weighs : MOK mX11_weighs 2 := ⟨(mT7 (List.mem_of_getElem? (i := 147) rfl)), (mT1 (List.mem_of_getElem? (i := 13) rfl)), (by decide +kernel), (by decide), (by decide +kernel)⟩
theorem okX11_staysOf : MOK mX11_staysOf 2 := ⟨(mT7 (List.mem_of_getElem? (i := 155) rfl)), (mT1 (List.mem_of_getElem? (i := 13) rfl)), (by decide +kernel), (by decide), (by decide +kernel)⟩
theorem selX11_staysOf : Cond.selects RX11 (mY mX11_staysOf) (mY mX11_staysOf) ∈ lw_tbl := mP (q := (yX11_staysOf, 45)) (List.mem_append_right _ (List.mem_append_right _ (List.mem_append_right _ (List.mem_append_right _ (List.mem_append_right _ (List.mem_append_right _ (List.mem_append_left _ (List.mem_of_getElem? (i := 5) rfl))))))))
theorem okX11_stays : MOK mX11_stays 1 := ⟨(mT7 (List.mem_of_getElem? (i := 151) rfl)), (mT1 (List.mem_of_getElem? (i := 13) rfl)), (by decide +kernel), (by decide), (by decide +kernel)⟩
theorem okX11_empty : MOK mX11_empty 0 := ⟨(mT7 (List.mem_of_getElem? (i := 167) rfl)), (mT1 (List.mem_of_getElem? (i := 13) rfl)), (by decide +kernel), (by decide), (by decide +kernel)⟩
theorem okX11_doStay : MOK mX11_doStay 2 := ⟨(mT7 (List.mem_of_getElem? (i := 179) rfl)), (mT1 (List.mem_of_getElem? (i := 13) rfl)), (by decide +kernel), (by decide), (by decide +kernel)⟩
theorem selX11_doStay : Cond.selects RX11 (mY mX11_doStay) (mY mX11_doStay) ∈ lw_tbl := mP (q := (yX11_doStay, 45)) (List.mem_append_right _ (List.mem_append_right _ (List.mem_append_right _ (List.mem_append_right _ (List.mem_append_right _ (List.mem_append_right _ (List.mem_append_left _ (List.mem_of_getElem? (i := 9) rfl))))))))
theorem okX11_tryOffend : MOK mX11_tryOffend 5 := ⟨(mT7 (List.mem_of_getElem? (i := 175) rfl)), (mT1 (List.mem_of_getElem? (i := 13) rfl)), (by decide +kernel), (by decide), (by decide +kernel)⟩
theorem selX11_tryOffend : Cond.selects RX11 (mY mX11_tryOffend) (mY mX11_tryOffend) ∈ lw_tbl := mP (q := (yX11_tryOffend, 45)) (List.mem_append_right _ (List.mem_append_right _ (List.mem_append_right _ (List.mem_append_right _ (List.mem_append_right _ (List.mem_append_right _ (List.mem_append_left _ (List.mem_of_getElem? (i := 8) rfl))))))))
theorem okX11_fewest : MOK mX11_fewest 3 := ⟨(mT7 (List.mem_of_getElem? (i := 171) rfl)), (mT1 (List.mem_of_getElem? (i := 13) rfl)), (by decide +kernel), (by decide), (by decide +kernel)⟩
theorem okX11_rid : MOK mX11_rid 1 := ⟨(mT7 (List.mem_of_getElem? (i := 183) rfl)), (mT1 (List.mem_of_getElem? (i := 13) rfl)), (by decide +kernel), (by decide), (by decide +kernel)⟩
theorem okX11_isTreaty : MOK mX11_isTreaty 2 := ⟨(mT7 (List.mem_of_getElem? (i := 191) rfl)), (mT1 (List.mem_of_getElem? (i := 13) rfl)), (by decide +kernel), (by decide), (by decide +kernel)⟩
theorem selX11_isTreaty : Cond.selects RX11 (mY mX11_isTreaty) (mY mX11_isTreaty) ∈ lw_tbl := mP (q := (yX11_isTreaty, 45)) (List.mem_append_right _ (List.mem_append_right _ (List.mem_append_right _ (List.mem_append_right _ (List.mem_append_right _ (List.mem_append_right _ (List.mem_append_left _ (List.mem_of_getElem? (i := 10) rfl))))))))
theorem okX11_treaty : MOK mX11_treaty 2 := ⟨(mT7 (List.mem_of_getElem? (i := 187) rfl)), (mT1 (List.mem_of_getElem? (i := 13) rfl)), (by decide +kernel), (by decide), (by decide +kernel)⟩
theorem okX11_seen : MOK mX11_seen 3 := ⟨(mT7 (List.mem_of_getElem? (i := 195) rfl)), (mT1 (List.mem_of_getElem? (i := 13) rfl)), (by decide +kernel), (by decide), (by decide +kernel)⟩
theorem okX11_layTown : MOK mX11_layTown 2 := ⟨(mT7 (List.mem_of_getElem? (i := 211) rfl)), (mT1 (List.mem_of_getElem? (i := 13) rfl)), (by decide +kernel), (by decide), (by decide +kernel)⟩
theorem selX11_layTown : Cond.selects RX11 (mY mX11_layTown) (mY mX11_layTown) ∈ lw_tbl := mP (q := (yX11_layTown, 45)) (List.mem_append_right _ (List.mem_append_right _ (List.mem_append_right _ (List.mem_append_right _ (List.mem_append_right _ (List.mem_append_right _ (List.mem_append_left _ (List.mem_of_getElem? (i := 13) rfl))))))))
theorem okX11_isWeight : MOK mX11_isWeight 2 := ⟨(mT7 (List.mem_of_getElem? (i := 207) rfl)), (mT1 (List.mem_of_getElem? (i := 13) rfl)), (by decide +kernel), (by decide), (by decide +kernel)⟩
theorem selX11_isWeight : Cond.selects RX11 (mY mX11_isWeight) (mY mX11_isWeight) ∈ lw_tbl := mP (q := (yX11_isWeight, 45)) (List.mem_append_right _ (List.mem_append_right _ (List.mem_append_right _ (List.mem_append_right _ (List.mem_append_right _ (List.mem_append_right _ (List.mem_append_left _ (List.mem_of_getElem? (i := 12) rfl))))))))
theorem okX11_isToldOne : MOK mX11_isToldOne 1 := ⟨(mT7 (List.mem_of_getElem? (i := 203) rfl)), (mT1 (List.mem_of_getElem? (i := 13) rfl)), (by decide +kernel), (by decide), (by decide +kernel)⟩
theorem selX11_isToldOne : Cond.selects RX11 (mY mX11_isToldOne) (mY mX11_isToldOne) ∈ lw_tbl := mP (q := (yX11_isToldOne, 45)) (List.mem_append_right _ (List.mem_append_right _ (List.mem_append_right _ (List.mem_append_right _ (List.mem_append_right _ (List.mem_append_right _ (List.mem_append_left _ (List.mem_of_getElem? (i := 11) rfl))))))))
theorem okX11_weights : MOK mX11_weights 2 := ⟨(mT7 (List.mem_of_getElem? (i := 199) rfl)), (mT1 (List.mem_of_getElem? (i := 13) rfl)), (by decide +kernel), (by decide), (by decide +kernel)⟩
theorem okX11_whom : MOK mX11_whom 2 := ⟨(mT7 (List.mem_of_getElem? (i := 215) rfl)), (mT1 (List.mem_of_getElem? (i := 13) rfl)), (by decide +kernel), (by decide), (by decide +kernel)⟩
theorem okX11_choose : MOK mX11_choose 3 := ⟨(mT7 (List.mem_of_getElem? (i := 233) rfl)), (mT1 (List.mem_of_getElem? (i := 13) rfl)), (by decide +kernel), (by decide), (by decide +kernel)⟩
theorem selX11_choose : Cond.selects RX11 (mY mX11_choose) (mY mX11_choose) ∈ lw_tbl := mP (q := (yX11_choose, 45)) (List.mem_append_right _ (List.mem_append_right _ (List.mem_append_right _ (List.mem_append_right _ (List.mem_append_right _ (List.mem_append_right _ (List.mem_append_right _ ((List.mem_of_getElem? (i := 0) rfl)))))))))
theorem okX11_gameOf : MOK mX11_gameOf 5 := ⟨(mT7 (List.mem_of_getElem? (i := 229) rfl)), (mT1 (List.mem_of_getElem? (i := 13) rfl)), (by decide +kernel), (by decide), (by decide +kernel)⟩
theorem selX11_gameOf : Cond.selects RX11 (mY mX11_gameOf) (mY mX11_gameOf) ∈ lw_tbl := mP (q := (yX11_gameOf, 45)) (List.mem_append_right _ (List.mem_append_right _ (List.mem_append_right _ (List.mem_append_right _ (List.mem_append_right _ (List.mem_append_right _ (List.mem_append_left _ (List.mem_of_getElem? (i := 15) rfl))))))))
theorem okX11_areTwo : MOK mX11_areTwo 2 := ⟨(mT7 (List.mem_of_getElem? (i := 224) rfl)), (mT1 (List.mem_of_getElem? (i := 13) rfl)), (by decide +kernel), (by decide), (by decide +kernel)⟩
theorem selX11_areTwo : Cond.selects RX11 (mY mX11_areTwo) (mY mX11_areTwo) ∈ lw_tbl := mP (q := (yX11_areTwo, 45)) (List.mem_append_right _ (List.mem_append_right _ (List.mem_append_right _ (List.mem_append_right _ (List.mem_append_right _ (List.mem_append_right _ (List.mem_append_left _ (List.mem_of_getElem? (i := 14) rfl))))))))
theorem okX11_game : MOK mX11_game 5 := ⟨(mT7 (List.mem_of_getElem? (i := 220) rfl)), (mT1 (List.mem_of_getElem? (i := 13) rfl)), (by decide +kernel), (by decide), (by decide +kernel)⟩
theorem okX11_isRest : MOK mX11_isRest 4 := ⟨(mT8 (List.mem_of_getElem? (i := 1) rfl)), (mT1 (List.mem_of_getElem? (i := 13) rfl)), (by decide +kernel), (by decide), (by decide +kernel)⟩
theorem selX11_isRest : Cond.selects RX11 (mY mX11_isRest) (mY mX11_isRest) ∈ lw_tbl := mP (q := (yX11_isRest, 45)) (List.mem_append_right _ (List.mem_append_right _ (List.mem_append_right _ (List.mem_append_right _ (List.mem_append_right _ (List.mem_append_right _ (List.mem_append_right _ ((List.mem_of_getElem? (i := 1) rfl)))))))))
theorem okX11_rests : MOK mX11_rests 3 := ⟨(mT7 (List.mem_of_getElem? (i := 237) rfl)), (mT1 (List.mem_of_getElem? (i := 13) rfl)), (by decide +kernel), (by decide), (by decide +kernel)⟩
theorem okX11_oddsFrom : MOK mX11_oddsFrom 5 := ⟨(mT8 (List.mem_of_getElem? (i := 10) rfl)), (mT1 (List.mem_of_getElem? (i := 13) rfl)), (by decide +kernel), (by decide), (by decide +kernel)⟩
theorem selX11_oddsFrom : Cond.selects RX11 (mY mX11_oddsFrom) (mY mX11_oddsFrom) ∈ lw_tbl := mP (q := (yX11_oddsFrom, 45)) (List.mem_append_right _ (List.mem_append_right _ (List.mem_append_right _ (List.mem_append_right _ (List.mem_append_right _ (List.mem_append_right _ (List.mem_append_right _ ((List.mem_of_getElem? (i := 2) rfl)))))))))
theorem okX11_odds : MOK mX11_odds 3 := ⟨(mT8 (List.mem_of_getElem? (i := 5) rfl)), (mT1 (List.mem_of_getElem? (i := 13) rfl)), (by decide +kernel), (by decide), (by decide +kernel)⟩
theorem okX11_allHeavy : MOK mX11_allHeavy 0 := ⟨(mT8 (List.mem_of_getElem? (i := 19) rfl)), (mT1 (List.mem_of_getElem? (i := 13) rfl)), (by decide +kernel), (by decide), (by decide +kernel)⟩
theorem selX11_allHeavy : Cond.selects RX11 (mY mX11_allHeavy) (mY mX11_allHeavy) ∈ lw_tbl := mP (q := (yX11_allHeavy, 45)) (List.mem_append_right _ (List.mem_append_right _ (List.mem_append_right _ (List.mem_append_right _ (List.mem_append_right _ (List.mem_append_right _ (List.mem_append_right _ ((List.mem_of_getElem? (i := 3) rfl)))))))))
theorem okX11_shares : MOK mX11_shares 2 := ⟨(mT8 (List.mem_of_getElem? (i := 15) rfl)), (mT1 (List.mem_of_getElem? (i := 13) rfl)), (by decide +kernel), (by decide), (by decide +kernel)⟩
theorem okX11_topBurden : MOK mX11_topBurden 1 := ⟨(mT8 (List.mem_of_getElem? (i := 27) rfl)), (mT1 (List.mem_of_getElem? (i := 13) rfl)), (by decide +kernel), (by decide), (by decide +kernel)⟩
theorem selX11_topBurden : Cond.selects RX11 (mY mX11_topBurden) (mY mX11_topBurden) ∈ lw_tbl := mP (q := (yX11_topBurden, 45)) (List.mem_append_right _ (List.mem_append_right _ (List.mem_append_right _ (List.mem_append_right _ (List.mem_append_right _ (List.mem_append_right _ (List.mem_append_right _ ((List.mem_of_getElem? (i := 4) rfl)))))))))
theorem okX11_sour : MOK mX11_sour 0 := ⟨(mT8 (List.mem_of_getElem? (i := 31) rfl)), (mT1 (List.mem_of_getElem? (i := 13) rfl)), (by decide +kernel), (by decide), (by decide +kernel)⟩
theorem selX11_sour : Cond.selects RX11 (mY mX11_sour) (mY mX11_sour) ∈ lw_tbl := mP (q := (yX11_sour, 45)) (List.mem_append_right _ (List.mem_append_right _ (List.mem_append_right _ (List.mem_append_right _ (List.mem_append_right _ (List.mem_append_right _ (List.mem_append_right _ ((List.mem_of_getElem? (i := 5) rfl)))))))))
theorem okX11_mostLiked : MOK mX11_mostLiked 0 := ⟨(mT8 (List.mem_of_getElem? (i := 35) rfl)), (mT1 (List.mem_of_getElem? (i := 13) rfl)), (by decide +kernel), (by decide), (by decide +kernel)⟩
theorem selX11_mostLiked : Cond.selects RX11 (mY mX11_mostLiked) (mY mX11_mostLiked) ∈ lw_tbl := mP (q := (yX11_mostLiked, 45)) (List.mem_append_right _ (List.mem_append_right _ (List.mem_append_right _ (List.mem_append_right _ (List.mem_append_right _ (List.mem_append_right _ (List.mem_append_right _ ((List.mem_of_getElem? (i := 6) rfl)))))))))
theorem okX11_heaviest : MOK mX11_heaviest 0 := ⟨(mT8 (List.mem_of_getElem? (i := 39) rfl)), (mT1 (List.mem_of_getElem? (i := 13) rfl)), (by decide +kernel), (by decide), (by decide +kernel)⟩
theorem selX11_heaviest : Cond.selects RX11 (mY mX11_heaviest) (mY mX11_heaviest) ∈ lw_tbl := mP (q := (yX11_heaviest, 45)) (List.mem_append_right _ (List.mem_append_right _ (List.mem_append_right _ (List.mem_append_right _ (List.mem_append_right _ (List.mem_append_right _ (List.mem_append_right _ ((List.mem_of_getElem? (i := 7) rfl)))))))))
theorem okX11_heldOnes : MOK mX11_heldOnes 0 := ⟨(mT8 (List.mem_of_getElem? (i := 43) rfl)), (mT1 (List.mem_of_getElem? (i := 13) rfl)), (by decide +kernel), (by decide), (by decide +kernel)⟩
theorem selX11_heldOnes : Cond.selects RX11 (mY mX11_heldOnes) (mY mX11_heldOnes) ∈ lw_tbl := mP (q := (yX11_heldOnes, 45)) (List.mem_append_right _ (List.mem_append_right _ (List.mem_append_right _ (List.mem_append_right _ (List.mem_append_right _ (List.mem_append_right _ (List.mem_append_right _ ((List.mem_of_getElem? (i := 8) rfl)))))))))
theorem okX11_fadingOnes : MOK mX11_fadingOnes 0 := ⟨(mT8 (List.mem_of_getElem? (i := 47) rfl)), (mT1 (List.mem_of_getElem? (i := 13) rfl)), (by decide +kernel), (by decide), (by decide +kernel)⟩
theorem selX11_fadingOnes : Cond.selects RX11 (mY mX11_fadingOnes) (mY mX11_fadingOnes) ∈ lw_tbl := mP (q := (yX11_fadingOnes, 45)) (List.mem_append_right _ (List.mem_append_right _ (List.mem_append_right _ (List.mem_append_right _ (List.mem_append_right _ (List.mem_append_right _ (List.mem_append_right _ ((List.mem_of_getElem? (i := 9) rfl)))))))))
theorem okX11_treaties : MOK mX11_treaties 0 := ⟨(mT8 (List.mem_of_getElem? (i := 51) rfl)), (mT1 (List.mem_of_getElem? (i := 13) rfl)), (by decide +kernel), (by decide), (by decide +kernel)⟩
theorem selX11_treaties : Cond.selects RX11 (mY mX11_treaties) (mY mX11_treaties) ∈ lw_tbl := mP (q := (yX11_treaties, 45)) (List.mem_append_right _ (List.mem_append_right _ (List.mem_append_right _ (List.mem_append_right _ (List.mem_append_right _ (List.mem_append_right _ (List.mem_append_right _ ((List.mem_of_getElem? (i := 10) rfl)))))))))
theorem okX11_leaving : MOK mX11_leaving 0 := ⟨(mT8 (List.mem_of_getElem? (i := 55) rfl)), (mT1 (List.mem_of_getElem? (i := 13) rfl)), (by decide +kernel), (by decide), (by decide +kernel)⟩
theorem selX11_leaving : Cond.selects RX11 (mY mX11_leaving) (mY mX11_leaving) ∈ lw_tbl := mP (q := (yX11_leaving, 45)) (List.mem_append_right _ (List.mem_append_right _ (List.mem_append_right _ (List.mem_append_right _ (List.mem_append_right _ (List.mem_append_right _ (List.mem_append_right _ ((List.mem_of_getElem? (i := 11) rfl)))))))))
theorem okX11_most : MOK mX11_most 1 := ⟨(mT8 (List.mem_of_getElem? (i := 23) rfl)), (mT1 (List.mem_of_getElem? (i := 13) rfl)), (by decide +kernel), (by decide), (by decide +kernel)⟩
theorem okX11_image : MOK mX11_image 0 := ⟨(mT8 (List.mem_of_getElem? (i := 59) rfl)), (mT1 (List.mem_of_getElem? (i := 13) rfl)), (by decide +kernel), (by decide), (by decide +kernel)⟩
theorem okX11_back : MOK mX11_back 0 := ⟨(mT8 (List.mem_of_getElem? (i := 63) rfl)), (mT1 (List.mem_of_getElem? (i := 13) rfl)), (by decide +kernel), (by decide), (by decide +kernel)⟩
theorem okX11_count : MOK mX11_count 1 := ⟨(mT8 (List.mem_of_getElem? (i := 67) rfl)), (mT1 (List.mem_of_getElem? (i := 13) rfl)), (by decide +kernel), (by decide), (by decide +kernel)⟩
theorem okJ11_isValidCodePoint_9a6ad : MOK mJ11_isValidCodePoint_9a6ad 1 := ⟨(mT3 (List.mem_of_getElem? (i := 11) rfl)), (mT1 (List.mem_of_getElem? (i := 18) rfl)), (by decide +kernel), (by decide), (by decide +kernel)⟩
theorem okJ11_highSurrogate_5068e : MOK mJ11_highSurrogate_5068e 1 := ⟨(mT3 (List.mem_of_getElem? (i := 14) rfl)), (mT1 (List.mem_of_getElem? (i := 18) rfl)), (by decide +kernel), (by decide), (by decide +kernel)⟩
theorem okJ11_lowSurrogate_5068e : MOK mJ11_lowSurrogate_5068e 1 := ⟨(mT3 (List.mem_of_getElem? (i := 18) rfl)), (mT1 (List.mem_of_getElem? (i := 18) rfl)), (by decide +kernel), (by decide), (by decide +kernel)⟩
theorem okJ6_numberOfTrailingZeros_0f7a4 : MOK mJ6_numberOfTrailingZeros_0f7a4 1 := ⟨(mT4 (List.mem_of_getElem? (i := 9) rfl)), (mT1 (List.mem_of_getElem? (i := 24) rfl)), (by decide +kernel), (by decide), (by decide +kernel)⟩
theorem okJ6_bitCount_0f7a4 : MOK mJ6_bitCount_0f7a4 1 := ⟨(mT3 (List.mem_of_getElem? (i := 212) rfl)), (mT1 (List.mem_of_getElem? (i := 24) rfl)), (by decide +kernel), (by decide), (by decide +kernel)⟩
theorem okJ9_floorMod_7cf53 : MOK mJ9_floorMod_7cf53 2 := ⟨(mT3 (List.mem_of_getElem? (i := 192) rfl)), (mT1 (List.mem_of_getElem? (i := 14) rfl)), (by decide +kernel), (by decide), (by decide +kernel)⟩
theorem okJ9_abs_0f7a4 : MOK mJ9_abs_0f7a4 1 := ⟨(mT5 (List.mem_of_getElem? (i := 7) rfl)), (mT1 (List.mem_of_getElem? (i := 14) rfl)), (by decide +kernel), (by decide), (by decide +kernel)⟩
theorem okJ9_max_7cf53 : MOK mJ9_max_7cf53 2 := ⟨(mT2 (List.mem_of_getElem? (i := 206) rfl)), (mT1 (List.mem_of_getElem? (i := 14) rfl)), (by decide +kernel), (by decide), (by decide +kernel)⟩
theorem okJ9_max_f86c9 : MOK mJ9_max_f86c9 2 := ⟨(mT4 (List.mem_of_getElem? (i := 78) rfl)), (mT1 (List.mem_of_getElem? (i := 14) rfl)), (by decide +kernel), (by decide), (by decide +kernel)⟩
theorem okJ9_min_7cf53 : MOK mJ9_min_7cf53 2 := ⟨(mT2 (List.mem_of_getElem? (i := 147) rfl)), (mT1 (List.mem_of_getElem? (i := 14) rfl)), (by decide +kernel), (by decide), (by decide +kernel)⟩
theorem okJ9_min_f86c9 : MOK mJ9_min_f86c9 2 := ⟨(mT4 (List.mem_of_getElem? (i := 75) rfl)), (mT1 (List.mem_of_getElem? (i := 14) rfl)), (by decide +kernel), (by decide), (by decide +kernel)⟩
theorem okJ0_length_8abf5 : MOK mJ0_length_8abf5 0 := ⟨(mT1 (List.mem_of_getElem? (i := 160) rfl)), (mT1 (List.mem_of_getElem? (i := 7) rfl)), (by decide +kernel), (by decide), (by decide +kernel)⟩
theorem okJ0_indexOf_0f7a4 : MOK mJ0_indexOf_0f7a4 1 := ⟨(mT2 (List.mem_of_getElem? (i := 188) rfl)), (mT1 (List.mem_of_getElem? (i := 7) rfl)), (by decide +kernel), (by decide), (by decide +kernel)⟩
theorem okJ0_indexOf_7cf53 : MOK mJ0_indexOf_7cf53 2 := ⟨(mT2 (List.mem_of_getElem? (i := 192) rfl)), (mT1 (List.mem_of_getElem? (i := 7) rfl)), (by decide +kernel), (by decide), (by decide +kernel)⟩
theorem okJ0_coder_7d493 : MOK mJ0_coder_7d493 0 := ⟨(mT1 (List.mem_of_getElem? (i := 164) rfl)), (mT1 (List.mem_of_getElem? (i := 7) rfl)), (by decide +kernel), (by decide), (by decide +kernel)⟩
theorem okJ0_isLatin1_aae02 : MOK mJ0_isLatin1_aae02 0 := ⟨(mT2 (List.mem_of_getElem? (i := 196) rfl)), (mT1 (List.mem_of_getElem? (i := 7) rfl)), (by decide +kernel), (by decide), (by decide +kernel)⟩
theorem okJ0_checkBoundsBeginEnd_23922 : MOK mJ0_checkBoundsBeginEnd_23922 3 := ⟨(mT2 (List.mem_of_getElem? (i := 228) rfl)), (mT1 (List.mem_of_getElem? (i := 7) rfl)), (by decide +kernel), (by decide), (by decide +kernel)⟩
theorem okJ1_canEncode_9a6ad : MOK mJ1_canEncode_9a6ad 1 := ⟨(mT2 (List.mem_of_getElem? (i := 203) rfl)), (mT1 (List.mem_of_getElem? (i := 15) rfl)), (by decide +kernel), (by decide), (by decide +kernel)⟩
theorem okJ1_indexOf_4cfef : MOK mJ1_indexOf_4cfef 4 := ⟨(mT2 (List.mem_of_getElem? (i := 200) rfl)), (mT1 (List.mem_of_getElem? (i := 15) rfl)), (by decide +kernel), (by decide), (by decide +kernel)⟩
theorem okJ1_indexOfChar_4cfef : MOK mJ1_indexOfChar_4cfef 4 := ⟨(mT2 (List.mem_of_getElem? (i := 210) rfl)), (mT1 (List.mem_of_getElem? (i := 15) rfl)), (by decide +kernel), (by decide), (by decide +kernel)⟩
theorem okJ2_getChar_3b067 : MOK mJ2_getChar_3b067 2 := ⟨(mT2 (List.mem_of_getElem? (i := 239) rfl)), (mT1 (List.mem_of_getElem? (i := 16) rfl)), (by decide +kernel), (by decide), (by decide +kernel)⟩
theorem okJ2_length_9d52b : MOK mJ2_length_9d52b 1 := ⟨(mT2 (List.mem_of_getElem? (i := 225) rfl)), (mT1 (List.mem_of_getElem? (i := 16) rfl)), (by decide +kernel), (by decide), (by decide +kernel)⟩
theorem okJ2_indexOf_4cfef : MOK mJ2_indexOf_4cfef 4 := ⟨(mT2 (List.mem_of_getElem? (i := 213) rfl)), (mT1 (List.mem_of_getElem? (i := 16) rfl)), (by decide +kernel), (by decide), (by decide +kernel)⟩
theorem okJ2_indexOfChar_4cfef : MOK mJ2_indexOfChar_4cfef 4 := ⟨(mT2 (List.mem_of_getElem? (i := 219) rfl)), (mT1 (List.mem_of_getElem? (i := 16) rfl)), (by decide +kernel), (by decide), (by decide +kernel)⟩
theorem okJ2_indexOfCharUnsafe_4cfef : MOK mJ2_indexOfCharUnsafe_4cfef 4 := ⟨(mT2 (List.mem_of_getElem? (i := 236) rfl)), (mT1 (List.mem_of_getElem? (i := 16) rfl)), (by decide +kernel), (by decide), (by decide +kernel)⟩
theorem okJ2_indexOfSupplementary_4cfef : MOK mJ2_indexOfSupplementary_4cfef 4 := ⟨(mT3 (List.mem_of_getElem? (i := 8) rfl)), (mT1 (List.mem_of_getElem? (i := 16) rfl)), (by decide +kernel), (by decide), (by decide +kernel)⟩
theorem okJ2_checkBoundsBeginEnd_d044e : MOK mJ2_checkBoundsBeginEnd_d044e 3 := ⟨(mT2 (List.mem_of_getElem? (i := 222) rfl)), (mT1 (List.mem_of_getElem? (i := 16) rfl)), (by decide +kernel), (by decide), (by decide +kernel)⟩
theorem okJ3_checkFromToIndex_8c36e : MOK mJ3_checkFromToIndex_8c36e 4 := ⟨(mT2 (List.mem_of_getElem? (i := 233) rfl)), (mT1 (List.mem_of_getElem? (i := 17) rfl)), (by decide +kernel), (by decide), (by decide +kernel)⟩
def mL_law : MI := (yL_law, cL_law, 7, (some .boolean))
