abbrev mJ9_floorDiv_7cf53 : z_Y := (yJ9_floorDiv_7cf53, cJ9_floorDiv_7cf53, 3, (Option.some FieldType.int))
abbrev mJ9_max_7cf53 : z_Y := (yJ9_max_7cf53, cJ9_max_7cf53, 2, (Option.some FieldType.int))
abbrev mJ9_max_f86c9 : z_Y := (yJ9_max_f86c9, cJ9_max_f86c9, 4, (Option.some FieldType.long))
abbrev mJ9_min_7cf53 : z_Y := (yJ9_min_7cf53, cJ9_min_7cf53, 2, (Option.some FieldType.int))
abbrev mJ9_min_f86c9 : z_Y := (yJ9_min_f86c9, cJ9_min_f86c9, 4, (Option.some FieldType.long))
abbrev mJ7_fill_53178 : z_Y := (yJ7_fill_53178, cJ7_fill_53178, 4, none)
abbrev mJ7_rangeCheck_23922 : z_Y := (yJ7_rangeCheck_23922, cJ7_rangeCheck_23922, 3, none)
abbrev mJ7_fill_fda19 : z_Y := (yJ7_fill_fda19, cJ7_fill_fda19, 5, none)
abbrev mJ7_fill_bad5a : z_Y := (yJ7_fill_bad5a, cJ7_fill_bad5a, 6, none)
abbrev mX0_add : z_Y := (yX0_add, cX0_add, 2, none)
abbrev mX0_addAll : z_Y := (yX0_addAll, cX0_addAll, 3, none)
abbrev mX10_append : z_Y := (yX10_append, cX10_append, 3, none)
abbrev mX10_pairAt : z_Y := (yX10_pairAt, cX10_pairAt, 2, (Option.some FieldType.int))
abbrev mX10_readWord : z_Y := (yX10_readWord, cX10_readWord, 3, none)
abbrev mX10_readDigits : z_Y := (yX10_readDigits, cX10_readDigits, 1, none)
abbrev mX10_next : z_Y := (yX10_next, cX10_next, 4, none)
abbrev mX10_open : z_Y := (yX10_open, cX10_open, 1, none)
abbrev mX10_failAt : z_Y := (yX10_failAt, cX10_failAt, 3, (Option.some FieldType.boolean))
abbrev mX10_fail : z_Y := (yX10_fail, cX10_fail, 2, (Option.some FieldType.boolean))
abbrev mX10_takeSign : z_Y := (yX10_takeSign, cX10_takeSign, 2, (Option.some FieldType.boolean))
abbrev mX10_nameHere : z_Y := (yX10_nameHere, cX10_nameHere, 2, (Option.some FieldType.int))
abbrev mX10_takeNumber : z_Y := (yX10_takeNumber, cX10_takeNumber, 4, (Option.some FieldType.int))
abbrev mX2_clear : z_Y := (yX2_clear, cX2_clear, 2, none)
abbrev mX2_keep : z_Y := (yX2_keep, cX2_keep, 3, none)
abbrev mX2_find : z_Y := (yX2_find, cX2_find, 4, (Option.some FieldType.int))
abbrev mX2_isNear : z_Y := (yX2_isNear, cX2_isNear, 3, (Option.some FieldType.boolean))
abbrev mX2_allWishes : z_Y := (yX2_allWishes, cX2_allWishes, 4, (Option.some FieldType.int))
abbrev mX2_lossFrom : z_Y := (yX2_lossFrom, cX2_lossFrom, 4, (Option.some FieldType.int))
abbrev mX8_rest : z_Y := (yX8_rest, cX8_rest, 2, none)
abbrev mX8_begin : z_Y := (yX8_begin, cX8_begin, 2, none)
abbrev mX8_copyFrom : z_Y := (yX8_copyFrom, cX8_copyFrom, 2, none)
abbrev mX8_countOf : z_Y := (yX8_countOf, cX8_countOf, 7, (Option.some FieldType.int))
abbrev mX8_countDone : z_Y := (yX8_countDone, cX8_countDone, 1, (Option.some FieldType.int))
abbrev mX8_countSheets : z_Y := (yX8_countSheets, cX8_countSheets, 1, (Option.some FieldType.int))
abbrev mX8_countGiven : z_Y := (yX8_countGiven, cX8_countGiven, 1, (Option.some FieldType.int))
abbrev mX8_countLeft : z_Y := (yX8_countLeft, cX8_countLeft, 6, (Option.some FieldType.int))
abbrev mX8_doneByHelper : z_Y := (yX8_doneByHelper, cX8_doneByHelper, 4, (Option.some FieldType.int))
abbrev mX8_hasSheetNear : z_Y := (yX8_hasSheetNear, cX8_hasSheetNear, 5, (Option.some FieldType.boolean))
abbrev mX8_letterCanBe : z_Y := (yX8_letterCanBe, cX8_letterCanBe, 3, (Option.some FieldType.boolean))
abbrev mX8_canBe : z_Y := (yX8_canBe, cX8_canBe, 4, (Option.some FieldType.boolean))
abbrev mX4_lookAt : z_Y := (yX4_lookAt, cX4_lookAt, 4, none)
abbrev mX4_push : z_Y := (yX4_push, cX4_push, 2, none)
abbrev mX4_pop : z_Y := (yX4_pop, cX4_pop, 1, (Option.some FieldType.int))
abbrev mX4_kept : z_Y := (yX4_kept, cX4_kept, 2, (Option.some FieldType.int))
abbrev mX4_pair : z_Y := (yX4_pair, cX4_pair, 3, (Option.some FieldType.int))
abbrev mX4_wishOf : z_Y := (yX4_wishOf, cX4_wishOf, 2, (Option.some FieldType.int))
abbrev mX4_run : z_Y := (yX4_run, cX4_run, 7, (Option.some FieldType.int))
abbrev mX4_timeOf : z_Y := (yX4_timeOf, cX4_timeOf, 6, (Option.some FieldType.int))
abbrev mX4_warmthOf : z_Y := (yX4_warmthOf, cX4_warmthOf, 5, (Option.some FieldType.int))
abbrev mX4_timeIfAble : z_Y := (yX4_timeIfAble, cX4_timeIfAble, 6, (Option.some FieldType.int))
abbrev mX4_valueFor : z_Y := (yX4_valueFor, cX4_valueFor, 5, (Option.some FieldType.int))
abbrev mX9_opens : z_Y := (yX9_opens, cX9_opens, 2, (Option.some FieldType.boolean))
abbrev mX9_commonValue : z_Y := (yX9_commonValue, cX9_commonValue, 1, (Option.some FieldType.int))
abbrev mX9_questionValue : z_Y := (yX9_questionValue, cX9_questionValue, 1, (Option.some FieldType.int))
abbrev mX9_heapValue : z_Y := (yX9_heapValue, cX9_heapValue, 1, (Option.some FieldType.int))
abbrev mX9_test : z_Y := (yX9_test, cX9_test, 4, (Option.some FieldType.boolean))
abbrev mX9_both : z_Y := (yX9_both, cX9_both, 4, (Option.some FieldType.boolean))
abbrev mX9_fact : z_Y := (yX9_fact, cX9_fact, 4, (Option.some FieldType.boolean))
abbrev mX9_sum : z_Y := (yX9_sum, cX9_sum, 5, (Option.some FieldType.boolean))
abbrev mX9_product : z_Y := (yX9_product, cX9_product, 5, (Option.some FieldType.boolean))
abbrev mX9_part : z_Y := (yX9_part, cX9_part, 3, (Option.some FieldType.boolean))
abbrev mX9_choice : z_Y := (yX9_choice, cX9_choice, 4, (Option.some FieldType.boolean))
abbrev mX9_readHeapSum : z_Y := (yX9_readHeapSum, cX9_readHeapSum, 4, (Option.some FieldType.boolean))
abbrev mX9_readQuestionSum : z_Y := (yX9_readQuestionSum, cX9_readQuestionSum, 1, (Option.some FieldType.boolean))
abbrev mX9_readTest : z_Y := (yX9_readTest, cX9_readTest, 1, (Option.some FieldType.boolean))
abbrev mX3_kindOf : z_Y := (yX3_kindOf, cX3_kindOf, 1, (Option.some FieldType.int))
abbrev mX3_newName : z_Y := (yX3_newName, cX3_newName, 4, (Option.some FieldType.boolean))
abbrev mX3_measure : z_Y := (yX3_measure, cX3_measure, 6, (Option.some FieldType.boolean))
abbrev mX3_letterContent : z_Y := (yX3_letterContent, cX3_letterContent, 2, (Option.some FieldType.boolean))
abbrev mX3_giftContent : z_Y := (yX3_giftContent, cX3_giftContent, 1, (Option.some FieldType.boolean))
abbrev mX3_helperContent : z_Y := (yX3_helperContent, cX3_helperContent, 2, (Option.some FieldType.boolean))
abbrev mX3_knownHere : z_Y := (yX3_knownHere, cX3_knownHere, 4, (Option.some FieldType.int))
abbrev mX3_takeName : z_Y := (yX3_takeName, cX3_takeName, 3, (Option.some FieldType.int))
abbrev mX3_nearContent : z_Y := (yX3_nearContent, cX3_nearContent, 3, (Option.some FieldType.boolean))
abbrev mX3_likeContent : z_Y := (yX3_likeContent, cX3_likeContent, 4, (Option.some FieldType.boolean))
abbrev mX3_wishContent : z_Y := (yX3_wishContent, cX3_wishContent, 4, (Option.some FieldType.boolean))
abbrev mX3_statement : z_Y := (yX3_statement, cX3_statement, 3, (Option.some FieldType.boolean))
abbrev mX3_read : z_Y := (yX3_read, cX3_read, 1, (Option.some FieldType.boolean))
abbrev mX5_read : z_Y := (yX5_read, cX5_read, 2, (Option.some FieldType.boolean))
abbrev mX5_with : z_Y := (yX5_with, cX5_with, 5, (Option.some FieldType.long))
abbrev mX5_over : z_Y := (yX5_over, cX5_over, 8, (Option.some FieldType.long))
abbrev mX1_rowShift : z_Y := (yX1_rowShift, cX1_rowShift, 1, (Option.some FieldType.int))
abbrev mX1_weigh : z_Y := (yX1_weigh, cX1_weigh, 12, (Option.some FieldType.boolean))
abbrev mX1_price : z_Y := (yX1_price, cX1_price, 9, none)
abbrev mX1_spread : z_Y := (yX1_spread, cX1_spread, 5, none)
abbrev mX1_readOff : z_Y := (yX1_readOff, cX1_readOff, 5, none)
abbrev mX1_plan : z_Y := (yX1_plan, cX1_plan, 8, none)
abbrev mX1_close : z_Y := (yX1_close, cX1_close, 4, none)
abbrev mX6_isWithin : z_Y := (yX6_isWithin, cX6_isWithin, 3, (Option.some FieldType.boolean))
abbrev mX6_mostBy : z_Y := (yX6_mostBy, cX6_mostBy, 6, (Option.some FieldType.int))
abbrev mX6_mostFrom : z_Y := (yX6_mostFrom, cX6_mostFrom, 6, (Option.some FieldType.int))
abbrev mX6_choose : z_Y := (yX6_choose, cX6_choose, 7, none)
abbrev mX6_plan : z_Y := (yX6_plan, cX6_plan, 7, none)
abbrev mX7_isFree : z_Y := (yX7_isFree, cX7_isFree, 5, (Option.some FieldType.boolean))
abbrev mX7_paint : z_Y := (yX7_paint, cX7_paint, 6, (Option.some FieldType.boolean))
abbrev mX7_chooseSheets : z_Y := (yX7_chooseSheets, cX7_chooseSheets, 3, none)
abbrev mX7_bestOdds : z_Y := (yX7_bestOdds, cX7_bestOdds, 7, (Option.some FieldType.long))
abbrev mX7_oddsOf : z_Y := (yX7_oddsOf, cX7_oddsOf, 7, (Option.some FieldType.long))
abbrev mX7_place : z_Y := (yX7_place, cX7_place, 7, none)
abbrev mX7_chooseGroups : z_Y := (yX7_chooseGroups, cX7_chooseGroups, 4, none)
abbrev mX11_refuseNumber : z_Y := (yX11_refuseNumber, cX11_refuseNumber, 2, (Option.some FieldType.int))
abbrev mX11_feed : z_Y := (yX11_feed, cX11_feed, 6, (Option.some FieldType.int))
abbrev mX11_refuse : z_Y := (yX11_refuse, cX11_refuse, 2, (Option.some FieldType.boolean))
abbrev mX11_end : z_Y := (yX11_end, cX11_end, 2, (Option.some FieldType.boolean))
abbrev mX11_heap : z_Y := (yX11_heap, cX11_heap, 3, (Option.some FieldType.int))
abbrev mX11_fault : z_Y := (yX11_fault, cX11_fault, 2, (Option.some FieldType.int))
abbrev mX11_has : z_Y := (yX11_has, cX11_has, 2, (Option.some FieldType.int))
abbrev mX11_letter : z_Y := (yX11_letter, cX11_letter, 4, (Option.some FieldType.int))
abbrev mX11_isLetter : z_Y := (yX11_isLetter, cX11_isLetter, 2, (Option.some FieldType.boolean))
abbrev mX11_mail : z_Y := (yX11_mail, cX11_mail, 3, (Option.some FieldType.int))
abbrev mX11_isGift : z_Y := (yX11_isGift, cX11_isGift, 2, (Option.some FieldType.boolean))
abbrev mX11_gift : z_Y := (yX11_gift, cX11_gift, 3, (Option.some FieldType.int))
abbrev mX11_isHelper : z_Y := (yX11_isHelper, cX11_isHelper, 2, (Option.some FieldType.boolean))
abbrev mX11_helper : z_Y := (yX11_helper, cX11_helper, 3, (Option.some FieldType.int))
abbrev mX11_takes : z_Y := (yX11_takes, cX11_takes, 3, (Option.some FieldType.int))
abbrev mX11_warmth : z_Y := (yX11_warmth, cX11_warmth, 3, (Option.some FieldType.long))
abbrev mX11_can : z_Y := (yX11_can, cX11_can, 3, (Option.some FieldType.int))
abbrev mX11_warmest : z_Y := (yX11_warmest, cX11_warmest, 2, (Option.some FieldType.int))
abbrev mX11_warms : z_Y := (yX11_warms, cX11_warms, 1, (Option.some FieldType.long))
abbrev mX11_later : z_Y := (yX11_later, cX11_later, 3, (Option.some FieldType.int))
abbrev mX11_finished : z_Y := (yX11_finished, cX11_finished, 3, (Option.some FieldType.int))
abbrev mX11_sheets : z_Y := (yX11_sheets, cX11_sheets, 2, (Option.some FieldType.int))
abbrev mX11_shared : z_Y := (yX11_shared, cX11_shared, 2, (Option.some FieldType.int))
abbrev mX11_tell : z_Y := (yX11_tell, cX11_tell, 4, (Option.some FieldType.int))
abbrev mX11_children : z_Y := (yX11_children, cX11_children, 2, (Option.some FieldType.int))
abbrev mX11_tellsLetters : z_Y := (yX11_tellsLetters, cX11_tellsLetters, 3, (Option.some FieldType.boolean))
abbrev mX11_see : z_Y := (yX11_see, cX11_see, 4, (Option.some FieldType.int))
abbrev mX11_fitsSeen : z_Y := (yX11_fitsSeen, cX11_fitsSeen, 3, (Option.some FieldType.boolean))
abbrev mX11_whose : z_Y := (yX11_whose, cX11_whose, 3, (Option.some FieldType.int))
abbrev mX11_alike : z_Y := (yX11_alike, cX11_alike, 7, (Option.some FieldType.int))
abbrev mX11_mostAlike : z_Y := (yX11_mostAlike, cX11_mostAlike, 5, (Option.some FieldType.int))
abbrev mX11_watched : z_Y := (yX11_watched, cX11_watched, 8, (Option.some FieldType.int))
abbrev mX11_remember : z_Y := (yX11_remember, cX11_remember, 1, none)
abbrev mX11_answer : z_Y := (yX11_answer, cX11_answer, 4, (Option.some FieldType.int))
abbrev mX11_sheet : z_Y := (yX11_sheet, cX11_sheet, 3, (Option.some FieldType.boolean))
abbrev mX11_give : z_Y := (yX11_give, cX11_give, 3, (Option.some FieldType.int))
abbrev mX11_canGoBy : z_Y := (yX11_canGoBy, cX11_canGoBy, 2, (Option.some FieldType.boolean))
abbrev mX11_evenings : z_Y := (yX11_evenings, cX11_evenings, 4, (Option.some FieldType.int))
abbrev mX11_drawOfHundred : z_Y := (yX11_drawOfHundred, cX11_drawOfHundred, 1, (Option.some FieldType.int))
abbrev mX11_catchColds : z_Y := (yX11_catchColds, cX11_catchColds, 3, (Option.some FieldType.int))
abbrev mX11_chance : z_Y := (yX11_chance, cX11_chance, 4, (Option.some FieldType.int))
abbrev mX11_undo : z_Y := (yX11_undo, cX11_undo, 1, (Option.some FieldType.boolean))
abbrev mX11_seed : z_Y := (yX11_seed, cX11_seed, 2, (Option.some FieldType.boolean))
abbrev mX11_ask : z_Y := (yX11_ask, cX11_ask, 2, (Option.some FieldType.long))
abbrev mX11_checkByte : z_Y := (yX11_checkByte, cX11_checkByte, 4, (Option.some FieldType.int))
abbrev mX11_image : z_Y := (yX11_image, cX11_image, 3, (Option.some FieldType.int))
abbrev mX11_octet : z_Y := (yX11_octet, cX11_octet, 2, (Option.some FieldType.int))
abbrev mX11_loadScratch : z_Y := (yX11_loadScratch, cX11_loadScratch, 3, none)
abbrev mX11_on : z_Y := (yX11_on, cX11_on, 3, (Option.some FieldType.boolean))
abbrev mX11_status : z_Y := (yX11_status, cX11_status, 2, (Option.some FieldType.int))
abbrev mX12_isIn : z_Y := (yX12_isIn, cX12_isIn, 6, (Option.some FieldType.boolean))
abbrev mX12_feed : z_Y := (yX12_feed, cX12_feed, 8, (Option.some FieldType.int))
abbrev mX12_end : z_Y := (yX12_end, cX12_end, 2, (Option.some FieldType.boolean))
abbrev mX12_fail : z_Y := (yX12_fail, cX12_fail, 3, none)
abbrev mX12_isLetter : z_Y := (yX12_isLetter, cX12_isLetter, 1, (Option.some FieldType.boolean))
abbrev mX12_isDigit : z_Y := (yX12_isDigit, cX12_isDigit, 1, (Option.some FieldType.boolean))
abbrev mX12_look : z_Y := (yX12_look, cX12_look, 1, (Option.some FieldType.int))
abbrev mX12_isHere : z_Y := (yX12_isHere, cX12_isHere, 4, (Option.some FieldType.boolean))
abbrev mX12_eats : z_Y := (yX12_eats, cX12_eats, 2, (Option.some FieldType.boolean))
abbrev mX12_asks : z_Y := (yX12_asks, cX12_asks, 2, none)
abbrev mX12_takesSign : z_Y := (yX12_takesSign, cX12_takesSign, 2, (Option.some FieldType.boolean))
abbrev mX12_asksSign : z_Y := (yX12_asksSign, cX12_asksSign, 2, none)
abbrev mX12_number : z_Y := (yX12_number, cX12_number, 5, (Option.some FieldType.int))
abbrev mX12_isOwnHere : z_Y := (yX12_isOwnHere, cX12_isOwnHere, 2, (Option.some FieldType.boolean))
abbrev mX12_name : z_Y := (yX12_name, cX12_name, 3, (Option.some FieldType.long))
abbrev mX12_isAllowed : z_Y := (yX12_isAllowed, cX12_isAllowed, 2, (Option.some FieldType.boolean))
abbrev mX12_isFull : z_Y := (yX12_isFull, cX12_isFull, 4, (Option.some FieldType.boolean))
abbrev mX12_nameOf : z_Y := (yX12_nameOf, cX12_nameOf, 5, (Option.some FieldType.int))
abbrev mX12_newName : z_Y := (yX12_newName, cX12_newName, 4, (Option.some FieldType.long))
abbrev mX12_oneOf : z_Y := (yX12_oneOf, cX12_oneOf, 5, (Option.some FieldType.int))
abbrev mX12_adds : z_Y := (yX12_adds, cX12_adds, 4, (Option.some FieldType.int))
abbrev mX12_letterTold : z_Y := (yX12_letterTold, cX12_letterTold, 8, none)
abbrev mX12_giftTold : z_Y := (yX12_giftTold, cX12_giftTold, 5, none)
abbrev mX12_wishTold : z_Y := (yX12_wishTold, cX12_wishTold, 4, none)
abbrev mX12_nearTold : z_Y := (yX12_nearTold, cX12_nearTold, 4, none)
abbrev mX12_likeTold : z_Y := (yX12_likeTold, cX12_likeTold, 5, none)
abbrev mX12_helperTold : z_Y := (yX12_helperTold, cX12_helperTold, 8, none)
abbrev mX12_qWordHere : z_Y := (yX12_qWordHere, cX12_qWordHere, 1, (Option.some FieldType.int))
abbrev mX12_qWordOf : z_Y := (yX12_qWordOf, cX12_qWordOf, 4, (Option.some FieldType.int))
abbrev mX12_qOpens : z_Y := (yX12_qOpens, cX12_qOpens, 3, none)
abbrev mX12_qAsksWord : z_Y := (yX12_qAsksWord, cX12_qAsksWord, 2, none)
abbrev mX12_qCode : z_Y := (yX12_qCode, cX12_qCode, 2, none)
abbrev mX12_qDrops : z_Y := (yX12_qDrops, cX12_qDrops, 1, none)
abbrev mX12_qEndsPart : z_Y := (yX12_qEndsPart, cX12_qEndsPart, 1, none)
abbrev mX12_qPartTold : z_Y := (yX12_qPartTold, cX12_qPartTold, 6, none)
abbrev mX12_qIsBracket : z_Y := (yX12_qIsBracket, cX12_qIsBracket, 1, (Option.some FieldType.boolean))
abbrev mX12_qBracket : z_Y := (yX12_qBracket, cX12_qBracket, 2, (Option.some FieldType.int))
abbrev mX12_qDropsToBracket : z_Y := (yX12_qDropsToBracket, cX12_qDropsToBracket, 1, none)
abbrev mX12_qIsOn : z_Y := (yX12_qIsOn, cX12_qIsOn, 2, (Option.some FieldType.boolean))
abbrev mX12_qGoesOn : z_Y := (yX12_qGoesOn, cX12_qGoesOn, 2, (Option.some FieldType.boolean))
abbrev mX12_qSums : z_Y := (yX12_qSums, cX12_qSums, 3, none)
abbrev mX12_codesTold : z_Y := (yX12_codesTold, cX12_codesTold, 4, none)
abbrev mX12_statementTold : z_Y := (yX12_statementTold, cX12_statementTold, 2, none)
abbrev mX12_helperMany : z_Y := (yX12_helperMany, cX12_helperMany, 1, (Option.some FieldType.int))
abbrev mX12_leftAnew : z_Y := (yX12_leftAnew, cX12_leftAnew, 2, none)
abbrev mX12_giftMany : z_Y := (yX12_giftMany, cX12_giftMany, 1, (Option.some FieldType.int))
abbrev mX12_stands : z_Y := (yX12_stands, cX12_stands, 2, none)
abbrev mX12_heap : z_Y := (yX12_heap, cX12_heap, 2, (Option.some FieldType.int))
abbrev mX12_fault : z_Y := (yX12_fault, cX12_fault, 2, (Option.some FieldType.int))
abbrev mX12_letterMany : z_Y := (yX12_letterMany, cX12_letterMany, 1, (Option.some FieldType.int))
abbrev mX12_isMail : z_Y := (yX12_isMail, cX12_isMail, 2, (Option.some FieldType.boolean))
abbrev mX12_isGift : z_Y := (yX12_isGift, cX12_isGift, 2, (Option.some FieldType.boolean))
abbrev mX12_isHelper : z_Y := (yX12_isHelper, cX12_isHelper, 2, (Option.some FieldType.boolean))
abbrev mX12_doneOf : z_Y := (yX12_doneOf, cX12_doneOf, 2, (Option.some FieldType.int))
abbrev mX12_sheetOf : z_Y := (yX12_sheetOf, cX12_sheetOf, 2, (Option.some FieldType.int))
abbrev mX12_giftOf : z_Y := (yX12_giftOf, cX12_giftOf, 2, (Option.some FieldType.int))
abbrev mX12_leftOf : z_Y := (yX12_leftOf, cX12_leftOf, 2, (Option.some FieldType.int))
abbrev mX12_wishOf : z_Y := (yX12_wishOf, cX12_wishOf, 3, (Option.some FieldType.int))
abbrev mX12_wishesOf : z_Y := (yX12_wishesOf, cX12_wishesOf, 4, (Option.some FieldType.int))
abbrev mX12_qPuts : z_Y := (yX12_qPuts, cX12_qPuts, 3, none)
abbrev mX12_qPartOf : z_Y := (yX12_qPartOf, cX12_qPartOf, 3, (Option.some FieldType.long))
abbrev mX12_qClip : z_Y := (yX12_qClip, cX12_qClip, 2, (Option.some FieldType.long))
abbrev mX12_qFloor : z_Y := (yX12_qFloor, cX12_qFloor, 6, (Option.some FieldType.long))
abbrev mX12_qJoins : z_Y := (yX12_qJoins, cX12_qJoins, 6, none)
abbrev mX12_codesTell : z_Y := (yX12_codesTell, cX12_codesTell, 6, (Option.some FieldType.long))
abbrev mX12_timeOf : z_Y := (yX12_timeOf, cX12_timeOf, 5, (Option.some FieldType.int))
abbrev mX12_warmOf : z_Y := (yX12_warmOf, cX12_warmOf, 3, (Option.some FieldType.long))
abbrev mX12_doesBear : z_Y := (yX12_doesBear, cX12_doesBear, 3, (Option.some FieldType.boolean))
abbrev mX12_canAnswer : z_Y := (yX12_canAnswer, cX12_canAnswer, 3, (Option.some FieldType.boolean))
abbrev mX12_isAnswered : z_Y := (yX12_isAnswered, cX12_isAnswered, 3, none)
abbrev mX12_isNextRow : z_Y := (yX12_isNextRow, cX12_isNextRow, 2, (Option.some FieldType.boolean))
abbrev mX12_answeredIn : z_Y := (yX12_answeredIn, cX12_answeredIn, 3, (Option.some FieldType.int))
abbrev mX12_canRow : z_Y := (yX12_canRow, cX12_canRow, 3, (Option.some FieldType.boolean))
abbrev mX12_laysTimes : z_Y := (yX12_laysTimes, cX12_laysTimes, 3, none)
abbrev mX12_warmIn : z_Y := (yX12_warmIn, cX12_warmIn, 4, (Option.some FieldType.long))
abbrev mX12_laysWarmest : z_Y := (yX12_laysWarmest, cX12_laysWarmest, 6, (Option.some FieldType.int))
abbrev mX12_eveningGoes : z_Y := (yX12_eveningGoes, cX12_eveningGoes, 3, (Option.some FieldType.int))
abbrev mX12_putsAside : z_Y := (yX12_putsAside, cX12_putsAside, 2, none)
abbrev mX12_takesBack : z_Y := (yX12_takesBack, cX12_takesBack, 2, none)
abbrev mX12_isAhead : z_Y := (yX12_isAhead, cX12_isAhead, 4, (Option.some FieldType.boolean))
abbrev mX12_answeredMany : z_Y := (yX12_answeredMany, cX12_answeredMany, 3, (Option.some FieldType.int))
abbrev mX12_manyWith : z_Y := (yX12_manyWith, cX12_manyWith, 4, (Option.some FieldType.int))
abbrev mX12_leftAll : z_Y := (yX12_leftAll, cX12_leftAll, 3, (Option.some FieldType.int))
abbrev mX12_has : z_Y := (yX12_has, cX12_has, 2, (Option.some FieldType.int))
abbrev mX12_letter : z_Y := (yX12_letter, cX12_letter, 9, (Option.some FieldType.int))
abbrev mX12_mail : z_Y := (yX12_mail, cX12_mail, 3, (Option.some FieldType.int))
abbrev mX12_gift : z_Y := (yX12_gift, cX12_gift, 3, (Option.some FieldType.int))
abbrev mX12_helper : z_Y := (yX12_helper, cX12_helper, 5, (Option.some FieldType.int))
abbrev mX12_takes : z_Y := (yX12_takes, cX12_takes, 3, (Option.some FieldType.int))
abbrev mX12_warmth : z_Y := (yX12_warmth, cX12_warmth, 3, (Option.some FieldType.long))
abbrev mX12_can : z_Y := (yX12_can, cX12_can, 3, (Option.some FieldType.int))
abbrev mX12_warmest : z_Y := (yX12_warmest, cX12_warmest, 3, (Option.some FieldType.int))
abbrev mX12_warms : z_Y := (yX12_warms, cX12_warms, 1, (Option.some FieldType.long))
abbrev mX12_later : z_Y := (yX12_later, cX12_later, 3, (Option.some FieldType.int))
abbrev mX12_finished : z_Y := (yX12_finished, cX12_finished, 3, (Option.some FieldType.int))
abbrev mX12_isApart : z_Y := (yX12_isApart, cX12_isApart, 3, (Option.some FieldType.boolean))
abbrev mX12_laysSheets : z_Y := (yX12_laysSheets, cX12_laysSheets, 3, (Option.some FieldType.boolean))
abbrev mX12_sheets : z_Y := (yX12_sheets, cX12_sheets, 3, (Option.some FieldType.int))
abbrev mX12_canGive : z_Y := (yX12_canGive, cX12_canGive, 2, (Option.some FieldType.boolean))
abbrev mX12_sharedIn : z_Y := (yX12_sharedIn, cX12_sharedIn, 3, (Option.some FieldType.int))
abbrev mX12_shared : z_Y := (yX12_shared, cX12_shared, 5, (Option.some FieldType.int))
abbrev mX12_lostBy : z_Y := (yX12_lostBy, cX12_lostBy, 5, (Option.some FieldType.int))
abbrev mX12_tell : z_Y := (yX12_tell, cX12_tell, 4, (Option.some FieldType.int))
abbrev mX12_isNextGroups : z_Y := (yX12_isNextGroups, cX12_isNextGroups, 4, (Option.some FieldType.boolean))
abbrev mX12_oddsIn : z_Y := (yX12_oddsIn, cX12_oddsIn, 6, (Option.some FieldType.long))
abbrev mX12_children : z_Y := (yX12_children, cX12_children, 7, (Option.some FieldType.int))
abbrev mX12_refuses : z_Y := (yX12_refuses, cX12_refuses, 2, (Option.some FieldType.int))
abbrev mX12_see : z_Y := (yX12_see, cX12_see, 4, (Option.some FieldType.int))
abbrev mX12_isAsTold : z_Y := (yX12_isAsTold, cX12_isAsTold, 3, (Option.some FieldType.boolean))
abbrev mX12_whose : z_Y := (yX12_whose, cX12_whose, 3, (Option.some FieldType.int))
abbrev mX12_mostAlike : z_Y := (yX12_mostAlike, cX12_mostAlike, 7, (Option.some FieldType.int))
abbrev mX12_watched : z_Y := (yX12_watched, cX12_watched, 7, (Option.some FieldType.int))
abbrev mX12_keeps : z_Y := (yX12_keeps, cX12_keeps, 2, none)
abbrev mX12_undo : z_Y := (yX12_undo, cX12_undo, 2, (Option.some FieldType.boolean))
abbrev mX12_answer : z_Y := (yX12_answer, cX12_answer, 4, (Option.some FieldType.int))
abbrev mX12_isSheetNear : z_Y := (yX12_isSheetNear, cX12_isSheetNear, 4, (Option.some FieldType.boolean))
abbrev mX12_sheet : z_Y := (yX12_sheet, cX12_sheet, 3, (Option.some FieldType.boolean))
abbrev mX12_give : z_Y := (yX12_give, cX12_give, 3, (Option.some FieldType.int))
abbrev mX12_evenings : z_Y := (yX12_evenings, cX12_evenings, 4, (Option.some FieldType.int))
abbrev mX12_seed : z_Y := (yX12_seed, cX12_seed, 2, (Option.some FieldType.boolean))
abbrev mX12_drawOf : z_Y := (yX12_drawOf, cX12_drawOf, 2, (Option.some FieldType.int))
abbrev mX12_chance : z_Y := (yX12_chance, cX12_chance, 5, (Option.some FieldType.int))
abbrev mX12_qFact : z_Y := (yX12_qFact, cX12_qFact, 2, none)
abbrev mX12_qHasSquare : z_Y := (yX12_qHasSquare, cX12_qHasSquare, 2, (Option.some FieldType.boolean))
abbrev mX12_qDropsNots : z_Y := (yX12_qDropsNots, cX12_qDropsNots, 1, none)
abbrev mX12_qGoesOnTest : z_Y := (yX12_qGoesOnTest, cX12_qGoesOnTest, 1, (Option.some FieldType.boolean))
abbrev mX12_qTest : z_Y := (yX12_qTest, cX12_qTest, 3, none)
abbrev mX12_qOf : z_Y := (yX12_qOf, cX12_qOf, 5, (Option.some FieldType.long))
abbrev mX12_qTold : z_Y := (yX12_qTold, cX12_qTold, 4, (Option.some FieldType.long))
abbrev mX12_qKind : z_Y := (yX12_qKind, cX12_qKind, 2, (Option.some FieldType.int))
abbrev mX12_qTakes : z_Y := (yX12_qTakes, cX12_qTakes, 6, none)
abbrev mX12_ask : z_Y := (yX12_ask, cX12_ask, 3, (Option.some FieldType.long))
abbrev mX12_checked : z_Y := (yX12_checked, cX12_checked, 4, (Option.some FieldType.int))
abbrev mX12_writes : z_Y := (yX12_writes, cX12_writes, 2, none)
abbrev mX12_image : z_Y := (yX12_image, cX12_image, 2, (Option.some FieldType.int))
abbrev mX12_octet : z_Y := (yX12_octet, cX12_octet, 2, (Option.some FieldType.int))
abbrev mX12_areLettersTold : z_Y := (yX12_areLettersTold, cX12_areLettersTold, 5, (Option.some FieldType.boolean))
abbrev mX12_isImage : z_Y := (yX12_isImage, cX12_isImage, 5, (Option.some FieldType.boolean))
abbrev mX12_on : z_Y := (yX12_on, cX12_on, 4, (Option.some FieldType.boolean))
abbrev mX12_status : z_Y := (yX12_status, cX12_status, 2, (Option.some FieldType.int))
theorem lk_java_util_Arrays_13 : z_LS "java/util/Arrays" 13 mJ7_rangeCheck_23922 3 := ⟨⟨w_1031, w_165, w_1033, ⟨by decide, by decide, by decide +kernel⟩, by decide⟩, w_1032⟩
theorem fl_0_15 : z_FL "DearLetters$Code" 15 0 1 := ⟨by decide, by decide, w_465⟩
theorem fl_0_9 : z_FL "DearLetters$Code" 9 0 0 := ⟨by decide, by decide, w_463⟩
theorem grp_0 {h : Nat} (hk : z_kw true h = (0, 0)) : h ∈ ([88, 93, 128] : List Nat) := by
  have h1 : ∀ h, h < 334 → z_kw true h = (0, 0) → h ∈ ([88, 93, 128] : List Nat) := by decide +kernel
  exact h1 h (z_ltk hk (by decide)) hk
theorem gk_0_1 {h : Nat} (hk : z_kw true h = (0, 0)) : z_kw true (h + 1) = (20, 1600) := by
  have h1 : ∀ h ∈ ([88, 93, 128] : List Nat), z_kw true (h + 1) = (20, 1600) := by decide +kernel
  exact h1 h (grp_0 hk)
theorem gr_0_0_0 {h : Nat} (hk : z_kw true h = (0, 0)) (c r : Bool) : z_Rs c r (h) 0 = some (h + 1) := by
  have h1 : ∀ h ∈ ([88, 93, 128] : List Nat), ¬ (h = 0 ∧ 0 = 14) ∧ ¬ (h = 95 ∧ 0 = 2) ∧ z_R0 (h) 0 = some (h + 1) := by decide +kernel
  obtain ⟨a1, a2, a3⟩ := h1 h (grp_0 hk)
  unfold z_Rs
  rw [if_neg a1, if_neg a2]
  exact a3
theorem lk_0_19 : z_LV "DearLetters$Code" 19 0 mX0_add 1 := ⟨⟨w_862, w_167, w_482, ⟨by decide, by decide, by decide +kernel⟩, by decide⟩, by decide, w_480, w_481⟩
theorem kd_1 : z_kw true 1 = (10, 0) := by decide +kernel
theorem fl_10_38 : z_FL "DearLetters$Text" 38 10 1 := ⟨by decide, by decide, w_243⟩
theorem fl_10_9 : z_FL "DearLetters$Text" 9 10 0 := ⟨by decide, by decide, w_240⟩
theorem rs_1_0 (c r : Bool) : z_Rs c r 1 0 = some 2 := by
  unfold z_Rs
  rw [if_neg (by decide), if_neg (by decide)]
  decide +kernel
theorem kd_2 : z_kw true 2 = (20, 1600) := by decide +kernel
theorem fl_10_47 : z_FL "DearLetters$Text" 47 10 9 := ⟨by decide, by decide, w_261⟩
theorem fl_10_53 : z_FL "DearLetters$Text" 53 10 5 := ⟨by decide, by decide, w_253⟩
theorem fl_10_68 : z_FL "DearLetters$Text" 68 10 8 := ⟨by decide, by decide, w_260⟩
theorem fl_10_19 : z_FL "DearLetters$Text" 19 10 10 := ⟨by decide, by decide, w_262⟩
theorem rs_1_10 (c r : Bool) : z_Rs c r 1 10 = some 3 := by
  unfold z_Rs
  rw [if_neg (by decide), if_neg (by decide)]
  decide +kernel
theorem kd_3 : z_kw true 3 = (20, 34) := by decide +kernel
theorem fl_10_59 : z_FL "DearLetters$Text" 59 10 7 := ⟨by decide, by decide, w_259⟩
theorem fl_10_44 : z_FL "DearLetters$Text" 44 10 4 := ⟨by decide, by decide, w_251⟩
theorem fl_10_56 : z_FL "DearLetters$Text" 56 10 6 := ⟨by decide, by decide, w_254⟩
theorem lk_10_65 : z_LV "DearLetters$Text" 65 10 mX10_readDigits 0 := ⟨⟨w_739, w_155, w_742, ⟨by decide, by decide, by decide +kernel⟩, by decide⟩, by decide, w_741, w_3⟩
theorem lk_10_62 : z_LV "DearLetters$Text" 62 10 mX10_readWord 0 := ⟨⟨w_735, w_155, w_738, ⟨by decide, by decide, by decide +kernel⟩, by decide⟩, by decide, w_737, w_2⟩
theorem fl_10_41 : z_FL "DearLetters$Text" 41 10 2 := ⟨by decide, by decide, w_244⟩
theorem fl_10_15 : z_FL "DearLetters$Text" 15 10 3 := ⟨by decide, by decide, w_247⟩
theorem lk_10_50 : z_LV "DearLetters$Text" 50 10 mX10_next 0 := ⟨⟨w_731, w_155, w_734, ⟨by decide, by decide, by decide +kernel⟩, by decide⟩, by decide, w_732, w_733⟩
theorem lk_10_71 : z_LV "DearLetters$Text" 71 10 mX10_failAt 2 := ⟨⟨w_754, w_155, w_757, ⟨by decide, by decide, by decide +kernel⟩, by decide⟩, by decide, w_756, w_5⟩
theorem lk_10_75 : z_LV "DearLetters$Text" 75 10 mX10_fail 1 := ⟨⟨w_784, w_155, w_753, ⟨by decide, by decide, by decide +kernel⟩, by decide⟩, by decide, w_751, w_752⟩
theorem fl_2_13 : z_FL "DearLetters$Heap" 13 2 0 := ⟨by decide, by decide, w_483⟩
theorem grp_2 {h : Nat} (hk : z_kw true h = (2, 0)) : h ∈ ([56, 96] : List Nat) := by
  have h1 : ∀ h, h < 334 → z_kw true h = (2, 0) → h ∈ ([56, 96] : List Nat) := by decide +kernel
  exact h1 h (z_ltk hk (by decide)) hk
theorem gk_2_1 {h : Nat} (hk : z_kw true h = (2, 0)) : z_kw true (h + 1) = (20, 10) := by
  have h1 : ∀ h ∈ ([56, 96] : List Nat), z_kw true (h + 1) = (20, 10) := by decide +kernel
  exact h1 h (grp_2 hk)
theorem gr_2_0_0 {h : Nat} (hk : z_kw true h = (2, 0)) (c r : Bool) : z_Rs c r (h) 0 = some (h + 1) := by
  have h1 : ∀ h ∈ ([56, 96] : List Nat), ¬ (h = 0 ∧ 0 = 14) ∧ ¬ (h = 95 ∧ 0 = 2) ∧ z_R0 (h) 0 = some (h + 1) := by decide +kernel
  obtain ⟨a1, a2, a3⟩ := h1 h (grp_2 hk)
  unfold z_Rs
  rw [if_neg a1, if_neg a2]
  exact a3
theorem lk_2_69 : z_LS "DearLetters$Heap" 69 mJ7_fill_53178 2 := ⟨⟨w_478, w_165, w_411, ⟨by decide, by decide, by decide +kernel⟩, by decide⟩, w_410⟩
theorem fl_2_32 : z_FL "DearLetters$Heap" 32 2 5 := ⟨by decide, by decide, w_507⟩
theorem gk_2_9 {h : Nat} (hk : z_kw true h = (2, 0)) : z_kw true (h + 9) = (20, 8) := by
  have h1 : ∀ h ∈ ([56, 96] : List Nat), z_kw true (h + 9) = (20, 8) := by decide +kernel
  exact h1 h (grp_2 hk)
theorem gr_2_0_5 {h : Nat} (hk : z_kw true h = (2, 0)) (c r : Bool) : z_Rs c r (h) 5 = some (h + 9) := by
  have h1 : ∀ h ∈ ([56, 96] : List Nat), ¬ (h = 0 ∧ 5 = 14) ∧ ¬ (h = 95 ∧ 5 = 2) ∧ z_R0 (h) 5 = some (h + 9) := by decide +kernel
  obtain ⟨a1, a2, a3⟩ := h1 h (grp_2 hk)
  unfold z_Rs
  rw [if_neg a1, if_neg a2]
  exact a3
theorem fl_2_35 : z_FL "DearLetters$Heap" 35 2 6 := ⟨by decide, by decide, w_510⟩
theorem gk_2_10 {h : Nat} (hk : z_kw true h = (2, 0)) : z_kw true (h + 10) = (23, 8) := by
  have h1 : ∀ h ∈ ([56, 96] : List Nat), z_kw true (h + 10) = (23, 8) := by decide +kernel
  exact h1 h (grp_2 hk)
theorem gr_2_0_6 {h : Nat} (hk : z_kw true h = (2, 0)) (c r : Bool) : z_Rs c r (h) 6 = some (h + 10) := by
  have h1 : ∀ h ∈ ([56, 96] : List Nat), ¬ (h = 0 ∧ 6 = 14) ∧ ¬ (h = 95 ∧ 6 = 2) ∧ z_R0 (h) 6 = some (h + 10) := by decide +kernel
  obtain ⟨a1, a2, a3⟩ := h1 h (grp_2 hk)
  unfold z_Rs
  rw [if_neg a1, if_neg a2]
  exact a3
theorem ga_2_10 {h : Nat} {i : Int32} (hk : z_kw true h = (2, 0)) (hi : vp_in i 8) (c r : Bool) : z_Rs c r (h + 10) i.toNatClampNeg = some (h + 11 + i.toNatClampNeg) := by
  have h1 : ∀ h ∈ ([56, 96] : List Nat), ∀ j, j < 8 → ¬ (h + 10 = 0) ∧ ¬ (h + 10 = 95) ∧ z_R0 (h + 10) j = some (h + 11 + j) := by decide +kernel
  obtain ⟨a1, a2, a3⟩ := h1 h (grp_2 hk) _ (Nat.not_le.mp fun q => hi (Or.inr q))
  unfold z_Rs
  rw [if_neg (fun q => a1 q.1), if_neg (fun q => a2 q.1)]
  exact a3
theorem gb_2_10 {h : Nat} {i : Int32} (hk : z_kw true h = (2, 0)) (hi : vp_in i 8) : z_kw true (h + 11 + i.toNatClampNeg) = (20, 4) := by
  have h1 : ∀ h ∈ ([56, 96] : List Nat), ∀ j, j < 8 → z_kw true (h + 11 + j) = (20, 4) := by decide +kernel
  exact h1 h (grp_2 hk) _ (Nat.not_le.mp fun q => hi (Or.inr q))
theorem fl_2_38 : z_FL "DearLetters$Heap" 38 2 7 := ⟨by decide, by decide, w_515⟩
theorem gk_2_19 {h : Nat} (hk : z_kw true h = (2, 0)) : z_kw true (h + 19) = (23, 8) := by
  have h1 : ∀ h ∈ ([56, 96] : List Nat), z_kw true (h + 19) = (23, 8) := by decide +kernel
  exact h1 h (grp_2 hk)
theorem gr_2_0_7 {h : Nat} (hk : z_kw true h = (2, 0)) (c r : Bool) : z_Rs c r (h) 7 = some (h + 19) := by
  have h1 : ∀ h ∈ ([56, 96] : List Nat), ¬ (h = 0 ∧ 7 = 14) ∧ ¬ (h = 95 ∧ 7 = 2) ∧ z_R0 (h) 7 = some (h + 19) := by decide +kernel
  obtain ⟨a1, a2, a3⟩ := h1 h (grp_2 hk)
  unfold z_Rs
  rw [if_neg a1, if_neg a2]
  exact a3
theorem ga_2_19 {h : Nat} {i : Int32} (hk : z_kw true h = (2, 0)) (hi : vp_in i 8) (c r : Bool) : z_Rs c r (h + 19) i.toNatClampNeg = some (h + 20 + i.toNatClampNeg) := by
  have h1 : ∀ h ∈ ([56, 96] : List Nat), ∀ j, j < 8 → ¬ (h + 19 = 0) ∧ ¬ (h + 19 = 95) ∧ z_R0 (h + 19) j = some (h + 20 + j) := by decide +kernel
  obtain ⟨a1, a2, a3⟩ := h1 h (grp_2 hk) _ (Nat.not_le.mp fun q => hi (Or.inr q))
  unfold z_Rs
  rw [if_neg (fun q => a1 q.1), if_neg (fun q => a2 q.1)]
  exact a3
theorem gb_2_19 {h : Nat} {i : Int32} (hk : z_kw true h = (2, 0)) (hi : vp_in i 8) : z_kw true (h + 20 + i.toNatClampNeg) = (20, 8) := by
  have h1 : ∀ h ∈ ([56, 96] : List Nat), ∀ j, j < 8 → z_kw true (h + 20 + j) = (20, 8) := by decide +kernel
  exact h1 h (grp_2 hk) _ (Nat.not_le.mp fun q => hi (Or.inr q))
theorem fl_2_75 : z_FL "DearLetters$Heap" 75 2 15 := ⟨by decide, by decide, w_539⟩
theorem fl_2_79 : z_FL "DearLetters$Heap" 79 2 16 := ⟨by decide, by decide, w_541⟩
theorem fl_2_56 : z_FL "DearLetters$Heap" 56 2 12 := ⟨by decide, by decide, w_533⟩
theorem gk_2_32 {h : Nat} (hk : z_kw true h = (2, 0)) : z_kw true (h + 32) = (0, 0) := by
  have h1 : ∀ h ∈ ([56, 96] : List Nat), z_kw true (h + 32) = (0, 0) := by decide +kernel
  exact h1 h (grp_2 hk)
theorem gr_2_0_12 {h : Nat} (hk : z_kw true h = (2, 0)) (c r : Bool) : z_Rs c r (h) 12 = some (h + 32) := by
  have h1 : ∀ h ∈ ([56, 96] : List Nat), ¬ (h = 0 ∧ 12 = 14) ∧ ¬ (h = 95 ∧ 12 = 2) ∧ z_R0 (h) 12 = some (h + 32) := by decide +kernel
  obtain ⟨a1, a2, a3⟩ := h1 h (grp_2 hk)
  unfold z_Rs
  rw [if_neg a1, if_neg a2]
  exact a3
theorem fl_2_82 : z_FL "DearLetters$Heap" 82 0 1 := ⟨by decide, by decide, w_467⟩
theorem lk_2_85 : z_LV "DearLetters$Heap" 85 0 mX0_add 1 := ⟨⟨w_479, w_167, w_482, ⟨by decide, by decide, by decide +kernel⟩, by decide⟩, by decide, w_480, w_481⟩
theorem fl_2_60 : z_FL "DearLetters$Heap" 60 2 13 := ⟨by decide, by decide, w_535⟩
theorem gk_2_34 {h : Nat} (hk : z_kw true h = (2, 0)) : z_kw true (h + 34) = (20, 2) := by
  have h1 : ∀ h ∈ ([56, 96] : List Nat), z_kw true (h + 34) = (20, 2) := by decide +kernel
  exact h1 h (grp_2 hk)
theorem gr_2_0_13 {h : Nat} (hk : z_kw true h = (2, 0)) (c r : Bool) : z_Rs c r (h) 13 = some (h + 34) := by
  have h1 : ∀ h ∈ ([56, 96] : List Nat), ¬ (h = 0 ∧ 13 = 14) ∧ ¬ (h = 95 ∧ 13 = 2) ∧ z_R0 (h) 13 = some (h + 34) := by decide +kernel
  obtain ⟨a1, a2, a3⟩ := h1 h (grp_2 hk)
  unfold z_Rs
  rw [if_neg a1, if_neg a2]
  exact a3
theorem fl_2_63 : z_FL "DearLetters$Heap" 63 2 14 := ⟨by decide, by decide, w_537⟩
theorem gk_2_35 {h : Nat} (hk : z_kw true h = (2, 0)) : z_kw true (h + 35) = (20, 2) := by
  have h1 : ∀ h ∈ ([56, 96] : List Nat), z_kw true (h + 35) = (20, 2) := by decide +kernel
  exact h1 h (grp_2 hk)
theorem gr_2_0_14 {h : Nat} (hk : z_kw true h = (2, 0)) (c r : Bool) : z_Rs c r (h) 14 = some (h + 35) := by
  have h1 : ∀ h ∈ ([56, 96] : List Nat), ¬ (h = 0 ∧ 14 = 14) ∧ ¬ (h = 95 ∧ 14 = 2) ∧ z_R0 (h) 14 = some (h + 35) := by decide +kernel
  obtain ⟨a1, a2, a3⟩ := h1 h (grp_2 hk)
  unfold z_Rs
  rw [if_neg a1, if_neg a2]
  exact a3
theorem lk_2_89 : z_LV "DearLetters$Heap" 89 0 mX0_addAll 1 := ⟨⟨w_858, w_167, w_861, ⟨by decide, by decide, by decide +kernel⟩, by decide⟩, by decide, w_859, w_860⟩
theorem fl_2_20 : z_FL "DearLetters$Heap" 20 2 1 := ⟨by decide, by decide, w_491⟩
theorem gk_2_2 {h : Nat} (hk : z_kw true h = (2, 0)) : z_kw true (h + 2) = (23, 3) := by
  have h1 : ∀ h ∈ ([56, 96] : List Nat), z_kw true (h + 2) = (23, 3) := by decide +kernel
  exact h1 h (grp_2 hk)
theorem gr_2_0_1 {h : Nat} (hk : z_kw true h = (2, 0)) (c r : Bool) : z_Rs c r (h) 1 = some (h + 2) := by
  have h1 : ∀ h ∈ ([56, 96] : List Nat), ¬ (h = 0 ∧ 1 = 14) ∧ ¬ (h = 95 ∧ 1 = 2) ∧ z_R0 (h) 1 = some (h + 2) := by decide +kernel
  obtain ⟨a1, a2, a3⟩ := h1 h (grp_2 hk)
  unfold z_Rs
  rw [if_neg a1, if_neg a2]
  exact a3
theorem ga_2_2 {h : Nat} {i : Int32} (hk : z_kw true h = (2, 0)) (hi : vp_in i 3) (c r : Bool) : z_Rs c r (h + 2) i.toNatClampNeg = some (h + 3 + i.toNatClampNeg) := by
  have h1 : ∀ h ∈ ([56, 96] : List Nat), ∀ j, j < 3 → ¬ (h + 2 = 0) ∧ ¬ (h + 2 = 95) ∧ z_R0 (h + 2) j = some (h + 3 + j) := by decide +kernel
  obtain ⟨a1, a2, a3⟩ := h1 h (grp_2 hk) _ (Nat.not_le.mp fun q => hi (Or.inr q))
  unfold z_Rs
  rw [if_neg (fun q => a1 q.1), if_neg (fun q => a2 q.1)]
  exact a3
theorem gb_2_2 {h : Nat} {i : Int32} (hk : z_kw true h = (2, 0)) (hi : vp_in i 3) : z_kw true (h + 3 + i.toNatClampNeg) = (20, 8) := by
  have h1 : ∀ h ∈ ([56, 96] : List Nat), ∀ j, j < 3 → z_kw true (h + 3 + j) = (20, 8) := by decide +kernel
  exact h1 h (grp_2 hk) _ (Nat.not_le.mp fun q => hi (Or.inr q))
theorem fl_2_29 : z_FL "DearLetters$Heap" 29 2 4 := ⟨by decide, by decide, w_503⟩
theorem gk_2_8 {h : Nat} (hk : z_kw true h = (2, 0)) : z_kw true (h + 8) = (20, 8) := by
  have h1 : ∀ h ∈ ([56, 96] : List Nat), z_kw true (h + 8) = (20, 8) := by decide +kernel
  exact h1 h (grp_2 hk)
theorem gr_2_0_4 {h : Nat} (hk : z_kw true h = (2, 0)) (c r : Bool) : z_Rs c r (h) 4 = some (h + 8) := by
  have h1 : ∀ h ∈ ([56, 96] : List Nat), ¬ (h = 0 ∧ 4 = 14) ∧ ¬ (h = 95 ∧ 4 = 2) ∧ z_R0 (h) 4 = some (h + 8) := by decide +kernel
  obtain ⟨a1, a2, a3⟩ := h1 h (grp_2 hk)
  unfold z_Rs
  rw [if_neg a1, if_neg a2]
  exact a3
theorem fl_8_9 : z_FL "DearLetters$State" 9 8 1 := ⟨by decide, by decide, w_416⟩
theorem grp_8 {h : Nat} (hk : z_kw true h = (8, 0)) : h ∈ ([39, 45, 133, 139, 145, 151, 157, 163, 169, 175, 181, 187, 193, 199, 205, 211, 217, 223, 229, 235, 241, 247] : List Nat) := by
  have h1 : ∀ h, h < 334 → z_kw true h = (8, 0) → h ∈ ([39, 45, 133, 139, 145, 151, 157, 163, 169, 175, 181, 187, 193, 199, 205, 211, 217, 223, 229, 235, 241, 247] : List Nat) := by decide +kernel
  exact h1 h (z_ltk hk (by decide)) hk
theorem gk_8_1 {h : Nat} (hk : z_kw true h = (8, 0)) : z_kw true (h + 1) = (20, 3) := by
  have h1 : ∀ h ∈ ([39, 45, 133, 139, 145, 151, 157, 163, 169, 175, 181, 187, 193, 199, 205, 211, 217, 223, 229, 235, 241, 247] : List Nat), z_kw true (h + 1) = (20, 3) := by decide +kernel
  exact h1 h (grp_8 hk)
theorem gr_8_0_1 {h : Nat} (hk : z_kw true h = (8, 0)) (c r : Bool) : z_Rs c r (h) 1 = some (h + 1) := by
  have h1 : ∀ h ∈ ([39, 45, 133, 139, 145, 151, 157, 163, 169, 175, 181, 187, 193, 199, 205, 211, 217, 223, 229, 235, 241, 247] : List Nat), ¬ (h = 0 ∧ 1 = 14) ∧ ¬ (h = 95 ∧ 1 = 2) ∧ z_R0 (h) 1 = some (h + 1) := by decide +kernel
  obtain ⟨a1, a2, a3⟩ := h1 h (grp_8 hk)
  unfold z_Rs
  rw [if_neg a1, if_neg a2]
  exact a3
theorem lk_8_27 : z_LS "DearLetters$State" 27 mJ7_fill_53178 2 := ⟨⟨w_409, w_165, w_411, ⟨by decide, by decide, by decide +kernel⟩, by decide⟩, w_410⟩
theorem fl_8_53 : z_FL "DearLetters$State" 53 2 9 := ⟨by decide, by decide, w_522⟩
theorem gk_2_29 {h : Nat} (hk : z_kw true h = (2, 0)) : z_kw true (h + 29) = (20, 3) := by
  have h1 : ∀ h ∈ ([56, 96] : List Nat), z_kw true (h + 29) = (20, 3) := by decide +kernel
  exact h1 h (grp_2 hk)
theorem gr_2_0_9 {h : Nat} (hk : z_kw true h = (2, 0)) (c r : Bool) : z_Rs c r (h) 9 = some (h + 29) := by
  have h1 : ∀ h ∈ ([56, 96] : List Nat), ¬ (h = 0 ∧ 9 = 14) ∧ ¬ (h = 95 ∧ 9 = 2) ∧ z_R0 (h) 9 = some (h + 29) := by decide +kernel
  obtain ⟨a1, a2, a3⟩ := h1 h (grp_2 hk)
  unfold z_Rs
  rw [if_neg a1, if_neg a2]
  exact a3
theorem fl_8_40 : z_FL "DearLetters$State" 40 2 0 := ⟨by decide, by decide, w_486⟩
theorem lc_8_43 : z_LC "DearLetters$State" 43 := ⟨w_872, w_874, w_873, w_172⟩
theorem fl_8_33 : z_FL "DearLetters$State" 33 8 0 := ⟨by decide, by decide, w_412⟩
theorem fl_8_15 : z_FL "DearLetters$State" 15 8 2 := ⟨by decide, by decide, w_420⟩
theorem gk_8_2 {h : Nat} (hk : z_kw true h = (8, 0)) : z_kw true (h + 2) = (20, 4) := by
  have h1 : ∀ h ∈ ([39, 45, 133, 139, 145, 151, 157, 163, 169, 175, 181, 187, 193, 199, 205, 211, 217, 223, 229, 235, 241, 247] : List Nat), z_kw true (h + 2) = (20, 4) := by decide +kernel
  exact h1 h (grp_8 hk)
theorem gr_8_0_2 {h : Nat} (hk : z_kw true h = (8, 0)) (c r : Bool) : z_Rs c r (h) 2 = some (h + 2) := by
  have h1 : ∀ h ∈ ([39, 45, 133, 139, 145, 151, 157, 163, 169, 175, 181, 187, 193, 199, 205, 211, 217, 223, 229, 235, 241, 247] : List Nat), ¬ (h = 0 ∧ 2 = 14) ∧ ¬ (h = 95 ∧ 2 = 2) ∧ z_R0 (h) 2 = some (h + 2) := by decide +kernel
  obtain ⟨a1, a2, a3⟩ := h1 h (grp_8 hk)
  unfold z_Rs
  rw [if_neg a1, if_neg a2]
  exact a3
theorem fl_8_18 : z_FL "DearLetters$State" 18 8 3 := ⟨by decide, by decide, w_423⟩
theorem gk_8_3 {h : Nat} (hk : z_kw true h = (8, 0)) : z_kw true (h + 3) = (20, 8) := by
  have h1 : ∀ h ∈ ([39, 45, 133, 139, 145, 151, 157, 163, 169, 175, 181, 187, 193, 199, 205, 211, 217, 223, 229, 235, 241, 247] : List Nat), z_kw true (h + 3) = (20, 8) := by decide +kernel
  exact h1 h (grp_8 hk)
theorem gr_8_0_3 {h : Nat} (hk : z_kw true h = (8, 0)) (c r : Bool) : z_Rs c r (h) 3 = some (h + 3) := by
  have h1 : ∀ h ∈ ([39, 45, 133, 139, 145, 151, 157, 163, 169, 175, 181, 187, 193, 199, 205, 211, 217, 223, 229, 235, 241, 247] : List Nat), ¬ (h = 0 ∧ 3 = 14) ∧ ¬ (h = 95 ∧ 3 = 2) ∧ z_R0 (h) 3 = some (h + 3) := by decide +kernel
  obtain ⟨a1, a2, a3⟩ := h1 h (grp_8 hk)
  unfold z_Rs
  rw [if_neg a1, if_neg a2]
  exact a3
theorem fl_8_21 : z_FL "DearLetters$State" 21 8 4 := ⟨by decide, by decide, w_427⟩
theorem gk_8_4 {h : Nat} (hk : z_kw true h = (8, 0)) : z_kw true (h + 4) = (20, 8) := by
  have h1 : ∀ h ∈ ([39, 45, 133, 139, 145, 151, 157, 163, 169, 175, 181, 187, 193, 199, 205, 211, 217, 223, 229, 235, 241, 247] : List Nat), z_kw true (h + 4) = (20, 8) := by decide +kernel
  exact h1 h (grp_8 hk)
theorem gr_8_0_4 {h : Nat} (hk : z_kw true h = (8, 0)) (c r : Bool) : z_Rs c r (h) 4 = some (h + 4) := by
  have h1 : ∀ h ∈ ([39, 45, 133, 139, 145, 151, 157, 163, 169, 175, 181, 187, 193, 199, 205, 211, 217, 223, 229, 235, 241, 247] : List Nat), ¬ (h = 0 ∧ 4 = 14) ∧ ¬ (h = 95 ∧ 4 = 2) ∧ z_R0 (h) 4 = some (h + 4) := by decide +kernel
  obtain ⟨a1, a2, a3⟩ := h1 h (grp_8 hk)
  unfold z_Rs
  rw [if_neg a1, if_neg a2]
  exact a3
theorem fl_8_24 : z_FL "DearLetters$State" 24 8 5 := ⟨by decide, by decide, w_430⟩
theorem gk_8_5 {h : Nat} (hk : z_kw true h = (8, 0)) : z_kw true (h + 5) = (20, 8) := by
  have h1 : ∀ h ∈ ([39, 45, 133, 139, 145, 151, 157, 163, 169, 175, 181, 187, 193, 199, 205, 211, 217, 223, 229, 235, 241, 247] : List Nat), z_kw true (h + 5) = (20, 8) := by decide +kernel
  exact h1 h (grp_8 hk)
theorem gr_8_0_5 {h : Nat} (hk : z_kw true h = (8, 0)) (c r : Bool) : z_Rs c r (h) 5 = some (h + 5) := by
  have h1 : ∀ h ∈ ([39, 45, 133, 139, 145, 151, 157, 163, 169, 175, 181, 187, 193, 199, 205, 211, 217, 223, 229, 235, 241, 247] : List Nat), ¬ (h = 0 ∧ 5 = 14) ∧ ¬ (h = 95 ∧ 5 = 2) ∧ z_R0 (h) 5 = some (h + 5) := by decide +kernel
  obtain ⟨a1, a2, a3⟩ := h1 h (grp_8 hk)
  unfold z_Rs
  rw [if_neg a1, if_neg a2]
  exact a3
theorem fl_8_37 : z_FL "DearLetters$State" 37 2 8 := ⟨by decide, by decide, w_519⟩
theorem gk_2_28 {h : Nat} (hk : z_kw true h = (2, 0)) : z_kw true (h + 28) = (20, 4) := by
  have h1 : ∀ h ∈ ([56, 96] : List Nat), z_kw true (h + 28) = (20, 4) := by decide +kernel
  exact h1 h (grp_2 hk)
theorem gr_2_0_8 {h : Nat} (hk : z_kw true h = (2, 0)) (c r : Bool) : z_Rs c r (h) 8 = some (h + 28) := by
  have h1 : ∀ h ∈ ([56, 96] : List Nat), ¬ (h = 0 ∧ 8 = 14) ∧ ¬ (h = 95 ∧ 8 = 2) ∧ z_R0 (h) 8 = some (h + 28) := by decide +kernel
  obtain ⟨a1, a2, a3⟩ := h1 h (grp_2 hk)
  unfold z_Rs
  rw [if_neg a1, if_neg a2]
  exact a3
theorem lk_8_49 : z_LV "DearLetters$State" 49 8 mX8_rest 1 := ⟨⟨w_875, w_164, w_878, ⟨by decide, by decide, by decide +kernel⟩, by decide⟩, by decide, w_876, w_877⟩
theorem lk_8_56 : z_LS "DearLetters$State" 56 mX8_countOf 2 := ⟨⟨w_891, w_164, w_893, ⟨by decide, by decide, by decide +kernel⟩, by decide⟩, w_892⟩
theorem lk_8_60 : z_LV "DearLetters$State" 60 2 mX2_isNear 2 := ⟨⟨w_1198, w_166, w_808, ⟨by decide, by decide, by decide +kernel⟩, by decide⟩, by decide, w_806, w_807⟩
theorem lk_8_68 : z_LV "DearLetters$State" 68 8 mX8_hasSheetNear 3 := ⟨⟨w_1309, w_164, w_1197, ⟨by decide, by decide, by decide +kernel⟩, by decide⟩, by decide, w_1195, w_1196⟩
theorem lk_8_64 : z_LV "DearLetters$State" 64 8 mX8_letterCanBe 2 := ⟨⟨w_1305, w_164, w_1308, ⟨by decide, by decide, by decide +kernel⟩, by decide⟩, by decide, w_1307, w_54⟩
theorem kd_4 : z_kw true 4 = (4, 0) := by decide +kernel
theorem fl_4_77 : z_FL "DearLetters$Machine" 77 2 6 := ⟨by decide, by decide, w_512⟩
theorem fl_4_15 : z_FL "DearLetters$Machine" 15 4 1 := ⟨by decide, by decide, w_295⟩
theorem rs_4_1 (c r : Bool) : z_Rs c r 4 1 = some 6 := by
  unfold z_Rs
  rw [if_neg (by decide), if_neg (by decide)]
  decide +kernel
theorem kd_6 : z_kw true 6 = (20, 4) := by decide +kernel
theorem lc_4_81 : z_LC "DearLetters$Machine" 81 := ⟨w_954, w_874, w_873, w_172⟩
theorem fl_4_9 : z_FL "DearLetters$Machine" 9 4 0 := ⟨by decide, by decide, w_294⟩
theorem rs_4_0 (c r : Bool) : z_Rs c r 4 0 = some 5 := by
  unfold z_Rs
  rw [if_neg (by decide), if_neg (by decide)]
  decide +kernel
theorem kd_5 : z_kw true 5 = (20, 10) := by decide +kernel
theorem fl_4_87 : z_FL "DearLetters$Machine" 87 2 2 := ⟨by decide, by decide, w_496⟩
theorem gk_2_6 {h : Nat} (hk : z_kw true h = (2, 0)) : z_kw true (h + 6) = (20, 8) := by
  have h1 : ∀ h ∈ ([56, 96] : List Nat), z_kw true (h + 6) = (20, 8) := by decide +kernel
  exact h1 h (grp_2 hk)
theorem gr_2_0_2 {h : Nat} (hk : z_kw true h = (2, 0)) (c r : Bool) : z_Rs c r (h) 2 = some (h + 6) := by
  have h1 : ∀ h ∈ ([56, 96] : List Nat), ¬ (h = 0 ∧ 2 = 14) ∧ ¬ (h = 95 ∧ 2 = 2) ∧ z_R0 (h) 2 = some (h + 6) := by decide +kernel
  obtain ⟨a1, a2, a3⟩ := h1 h (grp_2 hk)
  unfold z_Rs
  rw [if_neg a1, if_neg a2]
  exact a3
theorem fl_4_90 : z_FL "DearLetters$Machine" 90 2 3 := ⟨by decide, by decide, w_501⟩
theorem gk_2_7 {h : Nat} (hk : z_kw true h = (2, 0)) : z_kw true (h + 7) = (20, 8) := by
  have h1 : ∀ h ∈ ([56, 96] : List Nat), z_kw true (h + 7) = (20, 8) := by decide +kernel
  exact h1 h (grp_2 hk)
theorem gr_2_0_3 {h : Nat} (hk : z_kw true h = (2, 0)) (c r : Bool) : z_Rs c r (h) 3 = some (h + 7) := by
  have h1 : ∀ h ∈ ([56, 96] : List Nat), ¬ (h = 0 ∧ 3 = 14) ∧ ¬ (h = 95 ∧ 3 = 2) ∧ z_R0 (h) 3 = some (h + 7) := by decide +kernel
  obtain ⟨a1, a2, a3⟩ := h1 h (grp_2 hk)
  unfold z_Rs
  rw [if_neg a1, if_neg a2]
  exact a3
theorem fl_4_61 : z_FL "DearLetters$Machine" 61 2 4 := ⟨by decide, by decide, w_504⟩
theorem lk_4_93 : z_LV "DearLetters$Machine" 93 2 mX2_allWishes 1 := ⟨⟨w_955, w_166, w_921, ⟨by decide, by decide, by decide +kernel⟩, by decide⟩, by decide, w_919, w_920⟩
theorem fl_4_97 : z_FL "DearLetters$Machine" 97 8 0 := ⟨by decide, by decide, w_414⟩
theorem fl_4_100 : z_FL "DearLetters$Machine" 100 8 4 := ⟨by decide, by decide, w_428⟩
theorem fl_4_53 : z_FL "DearLetters$Machine" 53 8 3 := ⟨by decide, by decide, w_425⟩
theorem fl_4_103 : z_FL "DearLetters$Machine" 103 8 5 := ⟨by decide, by decide, w_432⟩
theorem fl_4_106 : z_FL "DearLetters$Machine" 106 4 3 := ⟨by decide, by decide, w_297⟩
theorem fl_4_18 : z_FL "DearLetters$Machine" 18 4 2 := ⟨by decide, by decide, w_296⟩
theorem rs_4_2 (c r : Bool) : z_Rs c r 4 2 = some 7 := by
  unfold z_Rs
  rw [if_neg (by decide), if_neg (by decide)]
  decide +kernel
theorem kd_7 : z_kw true 7 = (20, 64) := by decide +kernel
theorem lk_4_131 : z_LS "DearLetters$Machine" 131 mJ9_floorDiv_7cf53 2 := ⟨⟨w_978, w_173, w_980, ⟨by decide, by decide, by decide +kernel⟩, by decide⟩, w_979⟩
theorem lk_4_127 : z_LS "DearLetters$Machine" 127 mX4_kept 1 := ⟨⟨w_971, w_160, w_973, ⟨by decide, by decide, by decide +kernel⟩, by decide⟩, w_972⟩
theorem fl_4_109 : z_FL "DearLetters$Machine" 109 0 0 := ⟨by decide, by decide, w_464⟩
theorem lk_4_116 : z_LV "DearLetters$Machine" 116 4 mX4_pop 0 := ⟨⟨w_964, w_160, w_967, ⟨by decide, by decide, by decide +kernel⟩, by decide⟩, by decide, w_966, w_27⟩
theorem lk_4_120 : z_LS "DearLetters$Machine" 120 mX4_pair 3 := ⟨⟨w_968, w_160, w_970, ⟨by decide, by decide, by decide +kernel⟩, by decide⟩, w_969⟩
theorem lk_4_112 : z_LV "DearLetters$Machine" 112 4 mX4_push 1 := ⟨⟨w_960, w_160, w_963, ⟨by decide, by decide, by decide +kernel⟩, by decide⟩, by decide, w_962, w_26⟩
theorem lk_4_124 : z_LV "DearLetters$Machine" 124 4 mX4_wishOf 1 := ⟨⟨w_981, w_160, w_984, ⟨by decide, by decide, by decide +kernel⟩, by decide⟩, by decide, w_983, w_28⟩
theorem lk_4_21 : z_LV "DearLetters$Machine" 21 4 mX4_lookAt 3 := ⟨⟨w_950, w_160, w_953, ⟨by decide, by decide, by decide +kernel⟩, by decide⟩, by decide, w_952, w_24⟩
theorem fl_4_25 : z_FL "DearLetters$Machine" 25 2 10 := ⟨by decide, by decide, w_526⟩
theorem gk_2_30 {h : Nat} (hk : z_kw true h = (2, 0)) : z_kw true (h + 30) = (20, 3) := by
  have h1 : ∀ h ∈ ([56, 96] : List Nat), z_kw true (h + 30) = (20, 3) := by decide +kernel
  exact h1 h (grp_2 hk)
theorem gr_2_0_10 {h : Nat} (hk : z_kw true h = (2, 0)) (c r : Bool) : z_Rs c r (h) 10 = some (h + 30) := by
  have h1 : ∀ h ∈ ([56, 96] : List Nat), ¬ (h = 0 ∧ 10 = 14) ∧ ¬ (h = 95 ∧ 10 = 2) ∧ z_R0 (h) 10 = some (h + 30) := by decide +kernel
  obtain ⟨a1, a2, a3⟩ := h1 h (grp_2 hk)
  unfold z_Rs
  rw [if_neg a1, if_neg a2]
  exact a3
theorem fl_4_30 : z_FL "DearLetters$Machine" 30 2 12 := ⟨by decide, by decide, w_534⟩
theorem fl_4_34 : z_FL "DearLetters$Machine" 34 2 13 := ⟨by decide, by decide, w_536⟩
theorem fl_4_37 : z_FL "DearLetters$Machine" 37 2 14 := ⟨by decide, by decide, w_538⟩
theorem lk_4_40 : z_LV "DearLetters$Machine" 40 4 mX4_run 3 := ⟨⟨w_956, w_160, w_959, ⟨by decide, by decide, by decide +kernel⟩, by decide⟩, by decide, w_958, w_25⟩
theorem lk_4_44 : z_LS "DearLetters$Machine" 44 mJ9_min_7cf53 2 := ⟨⟨w_985, w_173, w_987, ⟨by decide, by decide, by decide +kernel⟩, by decide⟩, w_986⟩
theorem lk_4_50 : z_LS "DearLetters$Machine" 50 mJ9_max_7cf53 2 := ⟨⟨w_988, w_173, w_990, ⟨by decide, by decide, by decide +kernel⟩, by decide⟩, w_989⟩
theorem fl_4_58 : z_FL "DearLetters$Machine" 58 2 11 := ⟨by decide, by decide, w_530⟩
theorem gk_2_31 {h : Nat} (hk : z_kw true h = (2, 0)) : z_kw true (h + 31) = (20, 3) := by
  have h1 : ∀ h ∈ ([56, 96] : List Nat), z_kw true (h + 31) = (20, 3) := by decide +kernel
  exact h1 h (grp_2 hk)
theorem gr_2_0_11 {h : Nat} (hk : z_kw true h = (2, 0)) (c r : Bool) : z_Rs c r (h) 11 = some (h + 31) := by
  have h1 : ∀ h ∈ ([56, 96] : List Nat), ¬ (h = 0 ∧ 11 = 14) ∧ ¬ (h = 95 ∧ 11 = 2) ∧ z_R0 (h) 11 = some (h + 31) := by decide +kernel
  obtain ⟨a1, a2, a3⟩ := h1 h (grp_2 hk)
  unfold z_Rs
  rw [if_neg a1, if_neg a2]
  exact a3
theorem fl_4_64 : z_FL "DearLetters$Machine" 64 8 1 := ⟨by decide, by decide, w_418⟩
theorem lk_4_67 : z_LV "DearLetters$Machine" 67 4 mX4_timeOf 4 := ⟨⟨w_1008, w_160, w_949, ⟨by decide, by decide, by decide +kernel⟩, by decide⟩, by decide, w_947, w_948⟩
theorem fl_4_71 : z_FL "DearLetters$Machine" 71 0 1 := ⟨by decide, by decide, w_468⟩
theorem kd_92 : z_kw true 92 = (9, 0) := by decide +kernel
theorem fl_9_18 : z_FL "DearLetters$Sums" 18 9 1 := ⟨by decide, by decide, w_589⟩
theorem rs_92_1 (c r : Bool) : z_Rs c r 92 1 = some 1 := by
  unfold z_Rs
  rw [if_neg (by decide), if_neg (by decide)]
  decide +kernel
theorem lk_9_51 : z_LV "DearLetters$Sums" 51 10 mX10_next 0 := ⟨⟨w_836, w_155, w_734, ⟨by decide, by decide, by decide +kernel⟩, by decide⟩, by decide, w_732, w_733⟩
theorem lk_9_70 : z_LV "DearLetters$Sums" 70 10 mX10_fail 1 := ⟨⟨w_835, w_155, w_753, ⟨by decide, by decide, by decide +kernel⟩, by decide⟩, by decide, w_751, w_752⟩
theorem lk_9_99 : z_LS "DearLetters$Sums" 99 mX9_commonValue 1 := ⟨⟨w_848, w_168, w_850, ⟨by decide, by decide, by decide +kernel⟩, by decide⟩, w_849⟩
theorem lk_9_43 : z_LV "DearLetters$Sums" 43 9 mX9_both 1 := ⟨⟨w_1253, w_168, w_1256, ⟨by decide, by decide, by decide +kernel⟩, by decide⟩, by decide, w_1255, w_50⟩
theorem fl_9_46 : z_FL "DearLetters$Sums" 46 10 7 := ⟨by decide, by decide, w_258⟩
theorem fl_9_12 : z_FL "DearLetters$Sums" 12 9 0 := ⟨by decide, by decide, w_587⟩
theorem rs_92_0 (c r : Bool) : z_Rs c r 92 0 = some 93 := by
  unfold z_Rs
  rw [if_neg (by decide), if_neg (by decide)]
  decide +kernel
theorem kd_93 : z_kw true 93 = (0, 0) := by decide +kernel
theorem lk_9_54 : z_LV "DearLetters$Sums" 54 0 mX0_add 1 := ⟨⟨w_830, w_167, w_482, ⟨by decide, by decide, by decide +kernel⟩, by decide⟩, by decide, w_480, w_481⟩
theorem lk_9_58 : z_LV "DearLetters$Sums" 58 9 mX9_fact 1 := ⟨⟨w_1257, w_168, w_1260, ⟨by decide, by decide, by decide +kernel⟩, by decide⟩, by decide, w_1259, w_51⟩
theorem fl_9_61 : z_FL "DearLetters$Sums" 61 10 6 := ⟨by decide, by decide, w_255⟩
theorem lk_9_64 : z_LV "DearLetters$Sums" 64 9 mX9_opens 1 := ⟨⟨w_831, w_168, w_834, ⟨by decide, by decide, by decide +kernel⟩, by decide⟩, by decide, w_833, w_18⟩
theorem lk_9_40 : z_LV "DearLetters$Sums" 40 9 mX9_test 1 := ⟨⟨w_1249, w_168, w_1252, ⟨by decide, by decide, by decide +kernel⟩, by decide⟩, by decide, w_1251, w_49⟩
theorem lk_9_67 : z_LV "DearLetters$Sums" 67 10 mX10_takeSign 1 := ⟨⟨w_837, w_155, w_840, ⟨by decide, by decide, by decide +kernel⟩, by decide⟩, by decide, w_838, w_839⟩
theorem lk_9_30 : z_LV "DearLetters$Sums" 30 9 mX9_sum 1 := ⟨⟨w_817, w_168, w_820, ⟨by decide, by decide, by decide +kernel⟩, by decide⟩, by decide, w_819, w_15⟩
theorem lk_9_73 : z_LV "DearLetters$Sums" 73 9 mX9_product 1 := ⟨⟨w_821, w_168, w_824, ⟨by decide, by decide, by decide +kernel⟩, by decide⟩, by decide, w_823, w_16⟩
theorem lk_9_76 : z_LV "DearLetters$Sums" 76 9 mX9_part 1 := ⟨⟨w_825, w_168, w_828, ⟨by decide, by decide, by decide +kernel⟩, by decide⟩, by decide, w_827, w_17⟩
theorem fl_9_79 : z_FL "DearLetters$Sums" 79 10 4 := ⟨by decide, by decide, w_252⟩
theorem lk_9_82 : z_LV "DearLetters$Sums" 82 10 mX10_takeNumber 2 := ⟨⟨w_829, w_155, w_783, ⟨by decide, by decide, by decide +kernel⟩, by decide⟩, by decide, w_781, w_782⟩
theorem fl_9_86 : z_FL "DearLetters$Sums" 86 10 2 := ⟨by decide, by decide, w_246⟩
theorem lk_9_89 : z_LV "DearLetters$Sums" 89 9 mX9_choice 1 := ⟨⟨w_841, w_168, w_844, ⟨by decide, by decide, by decide +kernel⟩, by decide⟩, by decide, w_843, w_19⟩
theorem fl_9_26 : z_FL "DearLetters$Sums" 26 9 2 := ⟨by decide, by decide, w_590⟩
theorem lk_9_96 : z_LS "DearLetters$Sums" 96 mX9_heapValue 1 := ⟨⟨w_851, w_168, w_853, ⟨by decide, by decide, by decide +kernel⟩, by decide⟩, w_852⟩
theorem lk_9_92 : z_LS "DearLetters$Sums" 92 mX9_questionValue 1 := ⟨⟨w_845, w_168, w_847, ⟨by decide, by decide, by decide +kernel⟩, by decide⟩, w_846⟩
theorem fl_9_22 : z_FL "DearLetters$Sums" 22 0 1 := ⟨by decide, by decide, w_466⟩
theorem lk_9_34 : z_LV "DearLetters$Sums" 34 2 mX2_keep 2 := ⟨⟨w_854, w_166, w_857, ⟨by decide, by decide, by decide +kernel⟩, by decide⟩, by decide, w_855, w_856⟩
theorem kd_95 : z_kw true 95 = (3, 0) := by decide +kernel
theorem fl_3_18 : z_FL "DearLetters$HeapReader" 18 3 0 := ⟨by decide, by decide, w_606⟩
theorem rs_95_0 (c r : Bool) : z_Rs c r 95 0 = some 1 := by
  unfold z_Rs
  rw [if_neg (by decide), if_neg (by decide)]
  decide +kernel
theorem lk_3_151 : z_LV "DearLetters$HeapReader" 151 10 mX10_nameHere 0 := ⟨⟨w_768, w_155, w_771, ⟨by decide, by decide, by decide +kernel⟩, by decide⟩, by decide, w_769, w_770⟩
theorem fl_3_12 : z_FL "DearLetters$HeapReader" 12 3 2 := ⟨by decide, by decide, w_608⟩
theorem lk_3_155 : z_LV "DearLetters$HeapReader" 155 2 mX2_find 2 := ⟨⟨w_772, w_166, w_775, ⟨by decide, by decide, by decide +kernel⟩, by decide⟩, by decide, w_773, w_774⟩
theorem fl_3_158 : z_FL "DearLetters$HeapReader" 158 2 1 := ⟨by decide, by decide, w_493⟩
theorem fl_3_59 : z_FL "DearLetters$HeapReader" 59 2 0 := ⟨by decide, by decide, w_488⟩
theorem lk_3_66 : z_LV "DearLetters$HeapReader" 66 10 mX10_next 0 := ⟨⟨w_759, w_155, w_734, ⟨by decide, by decide, by decide +kernel⟩, by decide⟩, by decide, w_732, w_733⟩
theorem lk_3_49 : z_LV "DearLetters$HeapReader" 49 10 mX10_fail 1 := ⟨⟨w_750, w_155, w_753, ⟨by decide, by decide, by decide +kernel⟩, by decide⟩, by decide, w_751, w_752⟩
theorem fl_3_52 : z_FL "DearLetters$HeapReader" 52 10 7 := ⟨by decide, by decide, w_257⟩
theorem lk_3_93 : z_LV "DearLetters$HeapReader" 93 10 mX10_takeNumber 2 := ⟨⟨w_780, w_155, w_783, ⟨by decide, by decide, by decide +kernel⟩, by decide⟩, by decide, w_781, w_782⟩
theorem lk_3_103 : z_LV "DearLetters$HeapReader" 103 3 mX3_newName 1 := ⟨⟨w_764, w_169, w_767, ⟨by decide, by decide, by decide +kernel⟩, by decide⟩, by decide, w_766, w_7⟩
theorem fl_3_106 : z_FL "DearLetters$HeapReader" 106 2 2 := ⟨by decide, by decide, w_495⟩
theorem lk_3_109 : z_LV "DearLetters$HeapReader" 109 3 mX3_measure 5 := ⟨⟨w_776, w_169, w_779, ⟨by decide, by decide, by decide +kernel⟩, by decide⟩, by decide, w_778, w_8⟩
theorem fl_3_113 : z_FL "DearLetters$HeapReader" 113 2 3 := ⟨by decide, by decide, w_500⟩
theorem fl_3_116 : z_FL "DearLetters$HeapReader" 116 2 4 := ⟨by decide, by decide, w_505⟩
theorem fl_3_119 : z_FL "DearLetters$HeapReader" 119 2 8 := ⟨by decide, by decide, w_520⟩
theorem fl_3_122 : z_FL "DearLetters$HeapReader" 122 2 9 := ⟨by decide, by decide, w_523⟩
theorem fl_3_125 : z_FL "DearLetters$HeapReader" 125 2 10 := ⟨by decide, by decide, w_527⟩
theorem fl_3_128 : z_FL "DearLetters$HeapReader" 128 2 11 := ⟨by decide, by decide, w_531⟩
theorem lk_3_134 : z_LV "DearLetters$HeapReader" 134 3 mX3_knownHere 1 := ⟨⟨w_801, w_169, w_804, ⟨by decide, by decide, by decide +kernel⟩, by decide⟩, by decide, w_803, w_13⟩
theorem lk_3_131 : z_LV "DearLetters$HeapReader" 131 3 mX3_takeName 1 := ⟨⟨w_797, w_169, w_800, ⟨by decide, by decide, by decide +kernel⟩, by decide⟩, by decide, w_799, w_12⟩
theorem lk_3_137 : z_LV "DearLetters$HeapReader" 137 2 mX2_isNear 2 := ⟨⟨w_805, w_166, w_808, ⟨by decide, by decide, by decide +kernel⟩, by decide⟩, by decide, w_806, w_807⟩
theorem fl_3_141 : z_FL "DearLetters$HeapReader" 141 2 5 := ⟨by decide, by decide, w_508⟩
theorem fl_3_144 : z_FL "DearLetters$HeapReader" 144 2 7 := ⟨by decide, by decide, w_517⟩
theorem fl_3_148 : z_FL "DearLetters$HeapReader" 148 2 6 := ⟨by decide, by decide, w_514⟩
theorem lk_3_55 : z_LS "DearLetters$HeapReader" 55 mX3_kindOf 1 := ⟨⟨w_747, w_169, w_749, ⟨by decide, by decide, by decide +kernel⟩, by decide⟩, w_748⟩
theorem lk_3_69 : z_LV "DearLetters$HeapReader" 69 3 mX3_letterContent 0 := ⟨⟨w_760, w_169, w_763, ⟨by decide, by decide, by decide +kernel⟩, by decide⟩, by decide, w_762, w_6⟩
theorem lk_3_72 : z_LV "DearLetters$HeapReader" 72 3 mX3_giftContent 0 := ⟨⟨w_785, w_169, w_788, ⟨by decide, by decide, by decide +kernel⟩, by decide⟩, by decide, w_787, w_9⟩
theorem lk_3_75 : z_LV "DearLetters$HeapReader" 75 3 mX3_helperContent 0 := ⟨⟨w_789, w_169, w_792, ⟨by decide, by decide, by decide +kernel⟩, by decide⟩, by decide, w_791, w_10⟩
theorem lk_3_78 : z_LV "DearLetters$HeapReader" 78 3 mX3_nearContent 0 := ⟨⟨w_793, w_169, w_796, ⟨by decide, by decide, by decide +kernel⟩, by decide⟩, by decide, w_795, w_11⟩
theorem lk_3_81 : z_LV "DearLetters$HeapReader" 81 3 mX3_likeContent 0 := ⟨⟨w_809, w_169, w_812, ⟨by decide, by decide, by decide +kernel⟩, by decide⟩, by decide, w_811, w_14⟩
theorem fl_3_22 : z_FL "DearLetters$HeapReader" 22 3 1 := ⟨by decide, by decide, w_607⟩
theorem rs_95_1 (c r : Bool) : z_Rs c r 95 1 = some 92 := by
  unfold z_Rs
  rw [if_neg (by decide), if_neg (by decide)]
  decide +kernel
theorem lk_3_84 : z_LV "DearLetters$HeapReader" 84 9 mX9_readHeapSum 2 := ⟨⟨w_813, w_168, w_816, ⟨by decide, by decide, by decide +kernel⟩, by decide⟩, by decide, w_814, w_815⟩
theorem lk_3_90 : z_LV "DearLetters$HeapReader" 90 3 mX3_wishContent 0 := ⟨⟨w_863, w_169, w_866, ⟨by decide, by decide, by decide +kernel⟩, by decide⟩, by decide, w_865, w_20⟩
theorem fl_3_97 : z_FL "DearLetters$HeapReader" 97 2 15 := ⟨by decide, by decide, w_540⟩
theorem fl_3_100 : z_FL "DearLetters$HeapReader" 100 2 16 := ⟨by decide, by decide, w_542⟩
theorem lk_3_26 : z_LV "DearLetters$HeapReader" 26 2 mX2_clear 0 := ⟨⟨w_726, w_166, w_477, ⟨by decide, by decide, by decide +kernel⟩, by decide⟩, by decide, w_475, w_476⟩
theorem lk_3_29 : z_LV "DearLetters$HeapReader" 29 10 mX10_open 0 := ⟨⟨w_727, w_155, w_730, ⟨by decide, by decide, by decide +kernel⟩, by decide⟩, by decide, w_728, w_729⟩
theorem fl_3_34 : z_FL "DearLetters$HeapReader" 34 3 3 := ⟨by decide, by decide, w_610⟩
theorem fl_3_38 : z_FL "DearLetters$HeapReader" 38 10 4 := ⟨by decide, by decide, w_249⟩
theorem lk_3_41 : z_LV "DearLetters$HeapReader" 41 3 mX3_statement 0 := ⟨⟨w_743, w_169, w_746, ⟨by decide, by decide, by decide +kernel⟩, by decide⟩, by decide, w_745, w_4⟩
theorem lk_3_45 : z_LV "DearLetters$HeapReader" 45 10 mX10_takeSign 1 := ⟨⟨w_867, w_155, w_840, ⟨by decide, by decide, by decide +kernel⟩, by decide⟩, by decide, w_838, w_839⟩
theorem kd_132 : z_kw true 132 = (5, 0) := by decide +kernel
theorem fl_5_9 : z_FL "DearLetters$Question" 9 5 0 := ⟨by decide, by decide, w_627⟩
theorem rs_132_0 (c r : Bool) : z_Rs c r 132 0 = some 1 := by
  unfold z_Rs
  rw [if_neg (by decide), if_neg (by decide)]
  decide +kernel
theorem lk_5_19 : z_LV "DearLetters$Question" 19 10 mX10_open 0 := ⟨⟨w_1242, w_155, w_730, ⟨by decide, by decide, by decide +kernel⟩, by decide⟩, by decide, w_728, w_729⟩
theorem fl_5_24 : z_FL "DearLetters$Question" 24 10 7 := ⟨by decide, by decide, w_256⟩
theorem fl_5_28 : z_FL "DearLetters$Question" 28 5 2 := ⟨by decide, by decide, w_629⟩
theorem lk_5_31 : z_LV "DearLetters$Question" 31 10 mX10_fail 1 := ⟨⟨w_1243, w_155, w_753, ⟨by decide, by decide, by decide +kernel⟩, by decide⟩, by decide, w_751, w_752⟩
theorem lk_5_35 : z_LV "DearLetters$Question" 35 10 mX10_next 0 := ⟨⟨w_1244, w_155, w_734, ⟨by decide, by decide, by decide +kernel⟩, by decide⟩, by decide, w_732, w_733⟩
theorem fl_5_15 : z_FL "DearLetters$Question" 15 5 1 := ⟨by decide, by decide, w_628⟩
theorem rs_132_1 (c r : Bool) : z_Rs c r 132 1 = some 92 := by
  unfold z_Rs
  rw [if_neg (by decide), if_neg (by decide)]
  decide +kernel
theorem lk_5_38 : z_LV "DearLetters$Question" 38 9 mX9_readTest 0 := ⟨⟨w_1245, w_168, w_1248, ⟨by decide, by decide, by decide +kernel⟩, by decide⟩, by decide, w_1246, w_1247⟩
theorem fl_5_47 : z_FL "DearLetters$Question" 47 10 4 := ⟨by decide, by decide, w_250⟩
theorem lk_5_44 : z_LV "DearLetters$Question" 44 9 mX9_readQuestionSum 0 := ⟨⟨w_1261, w_168, w_1264, ⟨by decide, by decide, by decide +kernel⟩, by decide⟩, by decide, w_1262, w_1263⟩
theorem lk_5_72 : z_LS "DearLetters$Question" 72 mJ9_max_f86c9 2 := ⟨⟨w_1278, w_173, w_1044, ⟨by decide, by decide, by decide +kernel⟩, by decide⟩, w_1043⟩
theorem lk_5_78 : z_LS "DearLetters$Question" 78 mJ9_min_f86c9 2 := ⟨⟨w_1279, w_173, w_1281, ⟨by decide, by decide, by decide +kernel⟩, by decide⟩, w_1280⟩
theorem fl_5_52 : z_FL "DearLetters$Question" 52 2 0 := ⟨by decide, by decide, w_489⟩
theorem fl_5_58 : z_FL "DearLetters$Question" 58 9 0 := ⟨by decide, by decide, w_588⟩
theorem lk_5_62 : z_LV "DearLetters$Question" 62 4 mX4_valueFor 4 := ⟨⟨w_1270, w_160, w_1273, ⟨by decide, by decide, by decide +kernel⟩, by decide⟩, by decide, w_1271, w_1272⟩
theorem lk_5_68 : z_LV "DearLetters$Question" 68 5 mX5_with 3 := ⟨⟨w_1274, w_170, w_1277, ⟨by decide, by decide, by decide +kernel⟩, by decide⟩, by decide, w_1276, w_52⟩
theorem kd_8 : z_kw true 8 = (1, 0) := by decide +kernel
theorem fl_1_39 : z_FL "DearLetters$Evening" 39 2 0 := ⟨by decide, by decide, w_484⟩
theorem fl_1_35 : z_FL "DearLetters$Evening" 35 1 0 := ⟨by decide, by decide, w_317⟩
theorem rs_8_0 (c r : Bool) : z_Rs c r 8 0 = some 4 := by
  unfold z_Rs
  rw [if_neg (by decide), if_neg (by decide)]
  decide +kernel
theorem lk_1_90 : z_LV "DearLetters$Evening" 90 4 mX4_timeIfAble 4 := ⟨⟨w_1021, w_160, w_1007, ⟨by decide, by decide, by decide +kernel⟩, by decide⟩, by decide, w_1005, w_1006⟩
theorem fl_1_17 : z_FL "DearLetters$Evening" 17 1 4 := ⟨by decide, by decide, w_324⟩
theorem rs_8_4 (c r : Bool) : z_Rs c r 8 4 = some 10 := by
  unfold z_Rs
  rw [if_neg (by decide), if_neg (by decide)]
  decide +kernel
theorem kd_10 : z_kw true 10 = (23, 3) := by decide +kernel
theorem ar_10 {i : Int32} (hi : vp_in i 3) (c r : Bool) : z_Rs c r 10 i.toNatClampNeg = some (11 + i.toNatClampNeg) := by
  have h1 : ∀ j, j < 3 → z_R0 10 j = some (11 + j) := by decide +kernel
  have h2 := h1 _ (Nat.not_le.mp fun q => hi (Or.inr q))
  unfold z_Rs
  rw [if_neg (by omega), if_neg (by omega)]
  exact h2
theorem ak_10 {i : Int32} (hi : vp_in i 3) : z_kw true (11 + i.toNatClampNeg) = (20, 8) := by
  have h1 : ∀ j, j < 3 → z_kw true (11 + j) = (20, 8) := by decide +kernel
  exact h1 _ (Nat.not_le.mp fun q => hi (Or.inr q))
theorem lk_1_96 : z_LV "DearLetters$Evening" 96 4 mX4_warmthOf 4 := ⟨⟨w_1022, w_160, w_999, ⟨by decide, by decide, by decide +kernel⟩, by decide⟩, by decide, w_997, w_998⟩
theorem lk_1_99 : z_LS "DearLetters$Evening" 99 mX1_rowShift 1 := ⟨⟨w_1023, w_161, w_1025, ⟨by decide, by decide, by decide +kernel⟩, by decide⟩, w_1024⟩
theorem fl_1_22 : z_FL "DearLetters$Evening" 22 1 5 := ⟨by decide, by decide, w_325⟩
theorem rs_8_5 (c r : Bool) : z_Rs c r 8 5 = some 14 := by
  unfold z_Rs
  rw [if_neg (by decide), if_neg (by decide)]
  decide +kernel
theorem kd_14 : z_kw true 14 = (24, 3) := by decide +kernel
theorem ar_14 {i : Int32} (hi : vp_in i 3) (c r : Bool) : z_Rs c r 14 i.toNatClampNeg = some (15 + i.toNatClampNeg) := by
  have h1 : ∀ j, j < 3 → z_R0 14 j = some (15 + j) := by decide +kernel
  have h2 := h1 _ (Nat.not_le.mp fun q => hi (Or.inr q))
  unfold z_Rs
  rw [if_neg (by omega), if_neg (by omega)]
  exact h2
theorem ak_14 {i : Int32} (hi : vp_in i 3) : z_kw true (15 + i.toNatClampNeg) = (21, 8) := by
  have h1 : ∀ j, j < 3 → z_kw true (15 + j) = (21, 8) := by decide +kernel
  exact h1 _ (Nat.not_le.mp fun q => hi (Or.inr q))
theorem fl_1_28 : z_FL "DearLetters$Evening" 28 1 7 := ⟨by decide, by decide, w_327⟩
theorem rs_8_7 (c r : Bool) : z_Rs c r 8 7 = some 19 := by
  unfold z_Rs
  rw [if_neg (by decide), if_neg (by decide)]
  decide +kernel
theorem kd_19 : z_kw true 19 = (21, 256) := by decide +kernel
theorem fl_1_25 : z_FL "DearLetters$Evening" 25 1 6 := ⟨by decide, by decide, w_326⟩
theorem rs_8_6 (c r : Bool) : z_Rs c r 8 6 = some 18 := by
  unfold z_Rs
  rw [if_neg (by decide), if_neg (by decide)]
  decide +kernel
theorem kd_18 : z_kw true 18 = (20, 256) := by decide +kernel
theorem fl_1_32 : z_FL "DearLetters$Evening" 32 1 8 := ⟨by decide, by decide, w_328⟩
theorem rs_8_8 (c r : Bool) : z_Rs c r 8 8 = some 20 := by
  unfold z_Rs
  rw [if_neg (by decide), if_neg (by decide)]
  decide +kernel
theorem kd_20 : z_kw true 20 = (21, 256) := by decide +kernel
theorem lk_1_69 : z_LS "DearLetters$Evening" 69 mJ9_max_f86c9 2 := ⟨⟨w_1042, w_173, w_1044, ⟨by decide, by decide, by decide +kernel⟩, by decide⟩, w_1043⟩
theorem fl_1_107 : z_FL "DearLetters$Evening" 107 1 2 := ⟨by decide, by decide, w_320⟩
theorem fl_1_9 : z_FL "DearLetters$Evening" 9 1 1 := ⟨by decide, by decide, w_318⟩
theorem rs_8_1 (c r : Bool) : z_Rs c r 8 1 = some 9 := by
  unfold z_Rs
  rw [if_neg (by decide), if_neg (by decide)]
  decide +kernel
theorem kd_9 : z_kw true 9 = (20, 8) := by decide +kernel
theorem fl_1_110 : z_FL "DearLetters$Evening" 110 1 3 := ⟨by decide, by decide, w_322⟩
theorem lk_1_44 : z_LV "DearLetters$Evening" 44 1 mX1_weigh 4 := ⟨⟨w_1017, w_161, w_1020, ⟨by decide, by decide, by decide +kernel⟩, by decide⟩, by decide, w_1019, w_29⟩
theorem lk_1_50 : z_LS "DearLetters$Evening" 50 mJ7_fill_bad5a 4 := ⟨⟨w_1028, w_165, w_1030, ⟨by decide, by decide, by decide +kernel⟩, by decide⟩, w_1029⟩
theorem fl_1_56 : z_FL "DearLetters$Evening" 56 8 1 := ⟨by decide, by decide, w_417⟩
theorem lk_1_61 : z_LV "DearLetters$Evening" 61 1 mX1_price 3 := ⟨⟨w_1034, w_161, w_1037, ⟨by decide, by decide, by decide +kernel⟩, by decide⟩, by decide, w_1036, w_30⟩
theorem lk_1_65 : z_LV "DearLetters$Evening" 65 1 mX1_spread 1 := ⟨⟨w_1038, w_161, w_1041, ⟨by decide, by decide, by decide +kernel⟩, by decide⟩, by decide, w_1040, w_31⟩
theorem lk_1_75 : z_LV "DearLetters$Evening" 75 1 mX1_readOff 1 := ⟨⟨w_1045, w_161, w_1048, ⟨by decide, by decide, by decide +kernel⟩, by decide⟩, by decide, w_1047, w_32⟩
theorem fl_1_79 : z_FL "DearLetters$Evening" 79 8 3 := ⟨by decide, by decide, w_424⟩
theorem fl_1_82 : z_FL "DearLetters$Evening" 82 8 0 := ⟨by decide, by decide, w_413⟩
theorem lk_1_86 : z_LV "DearLetters$Evening" 86 8 mX8_rest 1 := ⟨⟨w_1066, w_164, w_878, ⟨by decide, by decide, by decide +kernel⟩, by decide⟩, by decide, w_876, w_877⟩
theorem kd_21 : z_kw true 21 = (6, 0) := by decide +kernel
theorem fl_6_15 : z_FL "DearLetters$Sharing" 15 6 2 := ⟨by decide, by decide, w_360⟩
theorem rs_21_2 (c r : Bool) : z_Rs c r 21 2 = some 23 := by
  unfold z_Rs
  rw [if_neg (by decide), if_neg (by decide)]
  decide +kernel
theorem kd_23 : z_kw true 23 = (20, 8) := by decide +kernel
theorem fl_6_33 : z_FL "DearLetters$Sharing" 33 2 3 := ⟨by decide, by decide, w_499⟩
theorem fl_6_75 : z_FL "DearLetters$Sharing" 75 2 6 := ⟨by decide, by decide, w_511⟩
theorem fl_6_20 : z_FL "DearLetters$Sharing" 20 6 3 := ⟨by decide, by decide, w_361⟩
theorem rs_21_3 (c r : Bool) : z_Rs c r 21 3 = some 24 := by
  unfold z_Rs
  rw [if_neg (by decide), if_neg (by decide)]
  decide +kernel
theorem kd_24 : z_kw true 24 = (23, 9) := by decide +kernel
theorem ar_24 {i : Int32} (hi : vp_in i 9) (c r : Bool) : z_Rs c r 24 i.toNatClampNeg = some (25 + i.toNatClampNeg) := by
  have h1 : ∀ j, j < 9 → z_R0 24 j = some (25 + j) := by decide +kernel
  have h2 := h1 _ (Nat.not_le.mp fun q => hi (Or.inr q))
  unfold z_Rs
  rw [if_neg (by omega), if_neg (by omega)]
  exact h2
theorem ak_24 {i : Int32} (hi : vp_in i 9) : z_kw true (25 + i.toNatClampNeg) = (20, 256) := by
  have h1 : ∀ j, j < 9 → z_kw true (25 + j) = (20, 256) := by decide +kernel
  exact h1 _ (Nat.not_le.mp fun q => hi (Or.inr q))
theorem fl_6_23 : z_FL "DearLetters$Sharing" 23 2 0 := ⟨by decide, by decide, w_485⟩
theorem lk_6_65 : z_LV "DearLetters$Sharing" 65 6 mX6_mostBy 4 := ⟨⟨w_1109, w_162, w_1112, ⟨by decide, by decide, by decide +kernel⟩, by decide⟩, by decide, w_1111, w_36⟩
theorem lk_6_69 : z_LS "DearLetters$Sharing" 69 mJ9_max_7cf53 2 := ⟨⟨w_1113, w_173, w_990, ⟨by decide, by decide, by decide +kernel⟩, by decide⟩, w_989⟩
theorem fl_6_9 : z_FL "DearLetters$Sharing" 9 6 0 := ⟨by decide, by decide, w_356⟩
theorem rs_21_0 (c r : Bool) : z_Rs c r 21 0 = some 22 := by
  unfold z_Rs
  rw [if_neg (by decide), if_neg (by decide)]
  decide +kernel
theorem kd_22 : z_kw true 22 = (20, 8) := by decide +kernel
theorem fl_6_28 : z_FL "DearLetters$Sharing" 28 8 5 := ⟨by decide, by decide, w_431⟩
theorem lk_6_36 : z_LV "DearLetters$Sharing" 36 2 mX2_allWishes 1 := ⟨⟨w_1098, w_166, w_921, ⟨by decide, by decide, by decide +kernel⟩, by decide⟩, by decide, w_919, w_920⟩
theorem fl_6_40 : z_FL "DearLetters$Sharing" 40 8 2 := ⟨by decide, by decide, w_421⟩
theorem lk_6_43 : z_LS "DearLetters$Sharing" 43 mJ7_fill_fda19 4 := ⟨⟨w_1099, w_165, w_1101, ⟨by decide, by decide, by decide +kernel⟩, by decide⟩, w_1100⟩
theorem lk_6_49 : z_LS "DearLetters$Sharing" 49 mX6_isWithin 2 := ⟨⟨w_1102, w_162, w_1104, ⟨by decide, by decide, by decide +kernel⟩, by decide⟩, w_1103⟩
theorem lk_6_53 : z_LV "DearLetters$Sharing" 53 6 mX6_mostFrom 3 := ⟨⟨w_1105, w_162, w_1108, ⟨by decide, by decide, by decide +kernel⟩, by decide⟩, by decide, w_1107, w_35⟩
theorem fl_6_57 : z_FL "DearLetters$Sharing" 57 6 1 := ⟨by decide, by decide, w_358⟩
theorem lk_6_61 : z_LV "DearLetters$Sharing" 61 6 mX6_choose 3 := ⟨⟨w_1114, w_162, w_1117, ⟨by decide, by decide, by decide +kernel⟩, by decide⟩, by decide, w_1116, w_37⟩
theorem kd_34 : z_kw true 34 = (7, 0) := by decide +kernel
theorem lk_7_48 : z_LV "DearLetters$Sorting" 48 2 mX2_isNear 2 := ⟨⟨w_1088, w_166, w_808, ⟨by decide, by decide, by decide +kernel⟩, by decide⟩, by decide, w_806, w_807⟩
theorem fl_7_9 : z_FL "DearLetters$Sorting" 9 7 0 := ⟨by decide, by decide, w_377⟩
theorem rs_34_0 (c r : Bool) : z_Rs c r 34 0 = some 35 := by
  unfold z_Rs
  rw [if_neg (by decide), if_neg (by decide)]
  decide +kernel
theorem kd_35 : z_kw true 35 = (20, 8) := by decide +kernel
theorem fl_7_33 : z_FL "DearLetters$Sorting" 33 2 0 := ⟨by decide, by decide, w_487⟩
theorem lk_7_38 : z_LV "DearLetters$Sorting" 38 7 mX7_isFree 3 := ⟨⟨w_1084, w_163, w_1087, ⟨by decide, by decide, by decide +kernel⟩, by decide⟩, by decide, w_1086, w_34⟩
theorem lk_7_42 : z_LS "DearLetters$Sorting" 42 mJ9_max_7cf53 2 := ⟨⟨w_1089, w_173, w_990, ⟨by decide, by decide, by decide +kernel⟩, by decide⟩, w_989⟩
theorem lk_7_29 : z_LV "DearLetters$Sorting" 29 7 mX7_paint 4 := ⟨⟨w_1080, w_163, w_1083, ⟨by decide, by decide, by decide +kernel⟩, by decide⟩, by decide, w_1082, w_33⟩
theorem fl_7_25 : z_FL "DearLetters$Sorting" 25 7 2 := ⟨by decide, by decide, w_381⟩
theorem fl_7_69 : z_FL "DearLetters$Sorting" 69 2 7 := ⟨by decide, by decide, w_516⟩
theorem fl_7_18 : z_FL "DearLetters$Sorting" 18 7 4 := ⟨by decide, by decide, w_385⟩
theorem rs_34_4 (c r : Bool) : z_Rs c r 34 4 = some 37 := by
  unfold z_Rs
  rw [if_neg (by decide), if_neg (by decide)]
  decide +kernel
theorem kd_37 : z_kw true 37 = (20, 8) := by decide +kernel
theorem fl_7_21 : z_FL "DearLetters$Sorting" 21 7 5 := ⟨by decide, by decide, w_386⟩
theorem rs_34_5 (c r : Bool) : z_Rs c r 34 5 = some 38 := by
  unfold z_Rs
  rw [if_neg (by decide), if_neg (by decide)]
  decide +kernel
theorem kd_38 : z_kw true 38 = (21, 9) := by decide +kernel
theorem fl_7_58 : z_FL "DearLetters$Sorting" 58 7 6 := ⟨by decide, by decide, w_387⟩
theorem lk_7_79 : z_LV "DearLetters$Sorting" 79 7 mX7_oddsOf 2 := ⟨⟨w_1144, w_163, w_1147, ⟨by decide, by decide, by decide +kernel⟩, by decide⟩, by decide, w_1146, w_40⟩
theorem lk_7_65 : z_LV "DearLetters$Sorting" 65 7 mX7_place 4 := ⟨⟨w_1139, w_163, w_1142, ⟨by decide, by decide, by decide +kernel⟩, by decide⟩, by decide, w_1141, w_39⟩
theorem fl_7_62 : z_FL "DearLetters$Sorting" 62 7 3 := ⟨by decide, by decide, w_383⟩
theorem fl_7_15 : z_FL "DearLetters$Sorting" 15 7 1 := ⟨by decide, by decide, w_379⟩
theorem rs_34_1 (c r : Bool) : z_Rs c r 34 1 = some 36 := by
  unfold z_Rs
  rw [if_neg (by decide), if_neg (by decide)]
  decide +kernel
theorem kd_36 : z_kw true 36 = (20, 8) := by decide +kernel
theorem lc_7_73 : z_LC "DearLetters$Sorting" 73 := ⟨w_1143, w_874, w_873, w_172⟩
theorem lk_7_52 : z_LV "DearLetters$Sorting" 52 7 mX7_bestOdds 2 := ⟨⟨w_1134, w_163, w_1137, ⟨by decide, by decide, by decide +kernel⟩, by decide⟩, by decide, w_1136, w_38⟩
theorem kd_0 : z_kw true 0 = (11, 0) := by decide +kernel
theorem fl_11_70 : z_FL "DearLetters" 70 11 13 := ⟨by decide, by decide, w_650⟩
theorem rs_0_13 (c r : Bool) : z_Rs c r 0 13 = some 55 := by
  unfold z_Rs
  rw [if_neg (by decide), if_neg (by decide)]
  decide +kernel
theorem kd_55 : z_kw true 55 = (20, 6) := by decide +kernel
theorem fl_11_12 : z_FL "DearLetters" 12 11 0 := ⟨by decide, by decide, w_637⟩
theorem rs_0_0 (c r : Bool) : z_Rs c r 0 0 = some 1 := by
  unfold z_Rs
  rw [if_neg (by decide), if_neg (by decide)]
  decide +kernel
theorem fl_11_105 : z_FL "DearLetters" 105 10 1 := ⟨by decide, by decide, w_242⟩
theorem lk_11_108 : z_LV "DearLetters" 108 11 mX11_refuseNumber 1 := ⟨⟨w_702, w_154, w_705, ⟨by decide, by decide, by decide +kernel⟩, by decide⟩, by decide, w_704, w_0⟩
theorem lk_11_112 : z_LV "DearLetters" 112 10 mX10_append 1 := ⟨⟨w_706, w_155, w_709, ⟨by decide, by decide, by decide +kernel⟩, by decide⟩, by decide, w_707, w_708⟩
theorem lk_11_116 : z_LV "DearLetters" 116 11 mX11_refuse 1 := ⟨⟨w_714, w_154, w_717, ⟨by decide, by decide, by decide +kernel⟩, by decide⟩, by decide, w_716, w_1⟩
theorem fl_11_94 : z_FL "DearLetters" 94 11 1 := ⟨by decide, by decide, w_638⟩
theorem rs_0_1 (c r : Bool) : z_Rs c r 0 1 = some 95 := by
  unfold z_Rs
  rw [if_neg (by decide), if_neg (by decide)]
  decide +kernel
theorem lk_11_120 : z_LV "DearLetters" 120 3 mX3_read 0 := ⟨⟨w_722, w_169, w_725, ⟨by decide, by decide, by decide +kernel⟩, by decide⟩, by decide, w_723, w_724⟩
theorem fl_11_76 : z_FL "DearLetters" 76 11 14 := ⟨by decide, by decide, w_651⟩
theorem fl_11_124 : z_FL "DearLetters" 124 3 2 := ⟨by decide, by decide, w_609⟩
theorem fl_11_49 : z_FL "DearLetters" 49 11 7 := ⟨by decide, by decide, w_644⟩
theorem rs_0_7 (c r : Bool) : z_Rs c r 0 7 = some 39 := by
  unfold z_Rs
  rw [if_neg (by decide), if_neg (by decide)]
  decide +kernel
theorem kd_39 : z_kw true 39 = (8, 0) := by decide +kernel
theorem lk_11_127 : z_LV "DearLetters" 127 8 mX8_begin 1 := ⟨⟨w_868, w_164, w_871, ⟨by decide, by decide, by decide +kernel⟩, by decide⟩, by decide, w_869, w_870⟩
theorem fl_11_131 : z_FL "DearLetters" 131 11 17 := ⟨by decide, by decide, w_654⟩
theorem fl_11_134 : z_FL "DearLetters" 134 11 15 := ⟨by decide, by decide, w_652⟩
theorem fl_11_137 : z_FL "DearLetters" 137 3 3 := ⟨by decide, by decide, w_611⟩
theorem fl_11_140 : z_FL "DearLetters" 140 10 2 := ⟨by decide, by decide, w_245⟩
theorem fl_11_143 : z_FL "DearLetters" 143 10 3 := ⟨by decide, by decide, w_248⟩
theorem fl_11_146 : z_FL "DearLetters" 146 2 0 := ⟨by decide, by decide, w_490⟩
theorem fl_11_149 : z_FL "DearLetters" 149 8 0 := ⟨by decide, by decide, w_415⟩
theorem lk_11_152 : z_LV "DearLetters" 152 8 mX8_countDone 0 := ⟨⟨w_887, w_164, w_890, ⟨by decide, by decide, by decide +kernel⟩, by decide⟩, by decide, w_888, w_889⟩
theorem lk_11_156 : z_LV "DearLetters" 156 8 mX8_countSheets 0 := ⟨⟨w_894, w_164, w_897, ⟨by decide, by decide, by decide +kernel⟩, by decide⟩, by decide, w_895, w_896⟩
theorem lk_11_159 : z_LV "DearLetters" 159 8 mX8_countGiven 0 := ⟨⟨w_898, w_164, w_901, ⟨by decide, by decide, by decide +kernel⟩, by decide⟩, by decide, w_899, w_900⟩
theorem lk_11_162 : z_LV "DearLetters" 162 8 mX8_countLeft 0 := ⟨⟨w_902, w_164, w_905, ⟨by decide, by decide, by decide +kernel⟩, by decide⟩, by decide, w_903, w_904⟩
theorem fl_11_165 : z_FL "DearLetters" 165 2 1 := ⟨by decide, by decide, w_492⟩
theorem lk_11_169 : z_LV "DearLetters" 169 11 mX11_isLetter 1 := ⟨⟨w_914, w_154, w_917, ⟨by decide, by decide, by decide +kernel⟩, by decide⟩, by decide, w_916, w_21⟩
theorem fl_11_172 : z_FL "DearLetters" 172 2 2 := ⟨by decide, by decide, w_497⟩
theorem fl_11_175 : z_FL "DearLetters" 175 2 3 := ⟨by decide, by decide, w_502⟩
theorem fl_11_178 : z_FL "DearLetters" 178 2 4 := ⟨by decide, by decide, w_506⟩
theorem fl_11_181 : z_FL "DearLetters" 181 8 3 := ⟨by decide, by decide, w_426⟩
theorem rs_39_3 (c r : Bool) : z_Rs c r 39 3 = some 42 := by
  unfold z_Rs
  rw [if_neg (by decide), if_neg (by decide)]
  decide +kernel
theorem kd_42 : z_kw true 42 = (20, 8) := by decide +kernel
theorem fl_11_184 : z_FL "DearLetters" 184 8 4 := ⟨by decide, by decide, w_429⟩
theorem rs_39_4 (c r : Bool) : z_Rs c r 39 4 = some 43 := by
  unfold z_Rs
  rw [if_neg (by decide), if_neg (by decide)]
  decide +kernel
theorem kd_43 : z_kw true 43 = (20, 8) := by decide +kernel
theorem fl_11_187 : z_FL "DearLetters" 187 8 5 := ⟨by decide, by decide, w_433⟩
theorem rs_39_5 (c r : Bool) : z_Rs c r 39 5 = some 44 := by
  unfold z_Rs
  rw [if_neg (by decide), if_neg (by decide)]
  decide +kernel
theorem kd_44 : z_kw true 44 = (20, 8) := by decide +kernel
theorem lk_11_190 : z_LV "DearLetters" 190 2 mX2_allWishes 1 := ⟨⟨w_918, w_166, w_921, ⟨by decide, by decide, by decide +kernel⟩, by decide⟩, by decide, w_919, w_920⟩
theorem fl_11_193 : z_FL "DearLetters" 193 2 5 := ⟨by decide, by decide, w_509⟩
theorem lk_11_196 : z_LV "DearLetters" 196 11 mX11_isGift 1 := ⟨⟨w_926, w_154, w_929, ⟨by decide, by decide, by decide +kernel⟩, by decide⟩, by decide, w_928, w_22⟩
theorem fl_11_199 : z_FL "DearLetters" 199 8 2 := ⟨by decide, by decide, w_422⟩
theorem rs_39_2 (c r : Bool) : z_Rs c r 39 2 = some 41 := by
  unfold z_Rs
  rw [if_neg (by decide), if_neg (by decide)]
  decide +kernel
theorem kd_41 : z_kw true 41 = (20, 4) := by decide +kernel
theorem fl_11_202 : z_FL "DearLetters" 202 2 6 := ⟨by decide, by decide, w_513⟩
theorem lk_11_205 : z_LV "DearLetters" 205 11 mX11_isHelper 1 := ⟨⟨w_934, w_154, w_937, ⟨by decide, by decide, by decide +kernel⟩, by decide⟩, by decide, w_936, w_23⟩
theorem fl_11_208 : z_FL "DearLetters" 208 2 9 := ⟨by decide, by decide, w_524⟩
theorem fl_11_211 : z_FL "DearLetters" 211 2 10 := ⟨by decide, by decide, w_528⟩
theorem fl_11_214 : z_FL "DearLetters" 214 2 11 := ⟨by decide, by decide, w_532⟩
theorem fl_11_217 : z_FL "DearLetters" 217 8 1 := ⟨by decide, by decide, w_419⟩
theorem rs_39_1 (c r : Bool) : z_Rs c r 39 1 = some 40 := by
  unfold z_Rs
  rw [if_neg (by decide), if_neg (by decide)]
  decide +kernel
theorem kd_40 : z_kw true 40 = (20, 3) := by decide +kernel
theorem lk_11_220 : z_LV "DearLetters" 220 8 mX8_doneByHelper 1 := ⟨⟨w_938, w_164, w_941, ⟨by decide, by decide, by decide +kernel⟩, by decide⟩, by decide, w_939, w_940⟩
theorem fl_11_19 : z_FL "DearLetters" 19 11 3 := ⟨by decide, by decide, w_640⟩
theorem rs_0_3 (c r : Bool) : z_Rs c r 0 3 = some 4 := by
  unfold z_Rs
  rw [if_neg (by decide), if_neg (by decide)]
  decide +kernel
theorem lk_11_223 : z_LV "DearLetters" 223 4 mX4_timeOf 4 := ⟨⟨w_946, w_160, w_949, ⟨by decide, by decide, by decide +kernel⟩, by decide⟩, by decide, w_947, w_948⟩
theorem lk_11_229 : z_LV "DearLetters" 229 4 mX4_warmthOf 4 := ⟨⟨w_996, w_160, w_999, ⟨by decide, by decide, by decide +kernel⟩, by decide⟩, by decide, w_997, w_998⟩
theorem lk_11_232 : z_LV "DearLetters" 232 4 mX4_timeIfAble 4 := ⟨⟨w_1004, w_160, w_1007, ⟨by decide, by decide, by decide +kernel⟩, by decide⟩, by decide, w_1005, w_1006⟩
theorem fl_11_28 : z_FL "DearLetters" 28 11 4 := ⟨by decide, by decide, w_641⟩
theorem rs_0_4 (c r : Bool) : z_Rs c r 0 4 = some 8 := by
  unfold z_Rs
  rw [if_neg (by decide), if_neg (by decide)]
  decide +kernel
theorem lk_11_235 : z_LV "DearLetters" 235 1 mX1_plan 2 := ⟨⟨w_1013, w_161, w_1016, ⟨by decide, by decide, by decide +kernel⟩, by decide⟩, by decide, w_1014, w_1015⟩
theorem fl_11_239 : z_FL "DearLetters" 239 1 2 := ⟨by decide, by decide, w_321⟩
theorem fl_11_242 : z_FL "DearLetters" 242 1 1 := ⟨by decide, by decide, w_319⟩
theorem fl_11_245 : z_FL "DearLetters" 245 1 3 := ⟨by decide, by decide, w_323⟩
theorem fl_11_53 : z_FL "DearLetters" 53 11 8 := ⟨by decide, by decide, w_645⟩
theorem rs_0_8 (c r : Bool) : z_Rs c r 0 8 = some 45 := by
  unfold z_Rs
  rw [if_neg (by decide), if_neg (by decide)]
  decide +kernel
theorem kd_45 : z_kw true 45 = (8, 0) := by decide +kernel
theorem lk_11_249 : z_LV "DearLetters" 249 8 mX8_copyFrom 1 := ⟨⟨w_1058, w_164, w_1061, ⟨by decide, by decide, by decide +kernel⟩, by decide⟩, by decide, w_1059, w_1060⟩
theorem lk_11_253 : z_LV "DearLetters" 253 1 mX1_close 2 := ⟨⟨w_1062, w_161, w_1065, ⟨by decide, by decide, by decide +kernel⟩, by decide⟩, by decide, w_1063, w_1064⟩
theorem lk_11_256 : z_LS "DearLetters" 256 mJ9_min_7cf53 2 := ⟨⟨w_1071, w_173, w_987, ⟨by decide, by decide, by decide +kernel⟩, by decide⟩, w_986⟩
theorem fl_11_42 : z_FL "DearLetters" 42 11 6 := ⟨by decide, by decide, w_643⟩
theorem rs_0_6 (c r : Bool) : z_Rs c r 0 6 = some 34 := by
  unfold z_Rs
  rw [if_neg (by decide), if_neg (by decide)]
  decide +kernel
theorem lk_11_262 : z_LV "DearLetters" 262 7 mX7_chooseSheets 1 := ⟨⟨w_1076, w_163, w_1079, ⟨by decide, by decide, by decide +kernel⟩, by decide⟩, by decide, w_1077, w_1078⟩
theorem fl_11_265 : z_FL "DearLetters" 265 7 2 := ⟨by decide, by decide, w_382⟩
theorem fl_11_268 : z_FL "DearLetters" 268 7 0 := ⟨by decide, by decide, w_378⟩
theorem fl_11_35 : z_FL "DearLetters" 35 11 5 := ⟨by decide, by decide, w_642⟩
theorem rs_0_5 (c r : Bool) : z_Rs c r 0 5 = some 21 := by
  unfold z_Rs
  rw [if_neg (by decide), if_neg (by decide)]
  decide +kernel
theorem lk_11_271 : z_LV "DearLetters" 271 6 mX6_plan 2 := ⟨⟨w_1094, w_162, w_1097, ⟨by decide, by decide, by decide +kernel⟩, by decide⟩, by decide, w_1095, w_1096⟩
theorem fl_11_272 : z_FL "DearLetters" 272 6 1 := ⟨by decide, by decide, w_359⟩
theorem fl_11_274 : z_FL "DearLetters" 274 6 0 := ⟨by decide, by decide, w_357⟩
theorem lk_11_277 : z_LV "DearLetters" 277 2 mX2_lossFrom 1 := ⟨⟨w_1122, w_166, w_1125, ⟨by decide, by decide, by decide +kernel⟩, by decide⟩, by decide, w_1123, w_1124⟩
theorem lk_11_280 : z_LV "DearLetters" 280 7 mX7_chooseGroups 1 := ⟨⟨w_1130, w_163, w_1133, ⟨by decide, by decide, by decide +kernel⟩, by decide⟩, by decide, w_1131, w_1132⟩
theorem fl_11_283 : z_FL "DearLetters" 283 7 3 := ⟨by decide, by decide, w_384⟩
theorem fl_11_286 : z_FL "DearLetters" 286 7 1 := ⟨by decide, by decide, w_380⟩
theorem fl_11_292 : z_FL "DearLetters" 292 10 0 := ⟨by decide, by decide, w_241⟩
theorem fl_11_60 : z_FL "DearLetters" 60 11 10 := ⟨by decide, by decide, w_647⟩
theorem rs_0_10 (c r : Bool) : z_Rs c r 0 10 = some 52 := by
  unfold z_Rs
  rw [if_neg (by decide), if_neg (by decide)]
  decide +kernel
theorem kd_52 : z_kw true 52 = (20, 16) := by decide +kernel
theorem fl_11_64 : z_FL "DearLetters" 64 11 11 := ⟨by decide, by decide, w_648⟩
theorem rs_0_11 (c r : Bool) : z_Rs c r 0 11 = some 53 := by
  unfold z_Rs
  rw [if_neg (by decide), if_neg (by decide)]
  decide +kernel
theorem kd_53 : z_kw true 53 = (20, 16) := by decide +kernel
theorem lk_11_295 : z_LV "DearLetters" 295 10 mX10_pairAt 1 := ⟨⟨w_1156, w_155, w_1159, ⟨by decide, by decide, by decide +kernel⟩, by decide⟩, by decide, w_1157, w_1158⟩
theorem lk_11_289 : z_LV "DearLetters" 289 11 mX11_tellsLetters 1 := ⟨⟨w_1152, w_154, w_1155, ⟨by decide, by decide, by decide +kernel⟩, by decide⟩, by decide, w_1154, w_41⟩
theorem lk_11_298 : z_LV "DearLetters" 298 11 mX11_fitsSeen 1 := ⟨⟨w_1164, w_154, w_1167, ⟨by decide, by decide, by decide +kernel⟩, by decide⟩, by decide, w_1166, w_42⟩
theorem lk_11_342 : z_LV "DearLetters" 342 11 mX11_alike 3 := ⟨⟨w_1177, w_154, w_1180, ⟨by decide, by decide, by decide +kernel⟩, by decide⟩, by decide, w_1179, w_44⟩
theorem lk_11_346 : z_LS "DearLetters" 346 mJ9_max_7cf53 2 := ⟨⟨w_1181, w_173, w_990, ⟨by decide, by decide, by decide +kernel⟩, by decide⟩, w_989⟩
theorem lk_11_301 : z_LV "DearLetters" 301 11 mX11_whose 0 := ⟨⟨w_1172, w_154, w_1163, ⟨by decide, by decide, by decide +kernel⟩, by decide⟩, by decide, w_1161, w_1162⟩
theorem lk_11_304 : z_LV "DearLetters" 304 11 mX11_mostAlike 2 := ⟨⟨w_1173, w_154, w_1176, ⟨by decide, by decide, by decide +kernel⟩, by decide⟩, by decide, w_1175, w_43⟩
theorem fl_11_320 : z_FL "DearLetters" 320 11 18 := ⟨by decide, by decide, w_655⟩
theorem fl_11_56 : z_FL "DearLetters" 56 11 9 := ⟨by decide, by decide, w_646⟩
theorem rs_0_9 (c r : Bool) : z_Rs c r 0 9 = some 51 := by
  unfold z_Rs
  rw [if_neg (by decide), if_neg (by decide)]
  decide +kernel
theorem kd_51 : z_kw true 51 = (25, 20) := by decide +kernel
theorem ar_51 {i : Int32} (hi : vp_in i 20) (c r : Bool) : z_Rs c r 51 i.toNatClampNeg = some (133 + 6 * i.toNatClampNeg) := by
  have h1 : ∀ j, j < 20 → z_R0 51 j = some (133 + 6 * j) := by decide +kernel
  have h2 := h1 _ (Nat.not_le.mp fun q => hi (Or.inr q))
  unfold z_Rs
  rw [if_neg (by omega), if_neg (by omega)]
  exact h2
theorem ak_51 {i : Int32} (hi : vp_in i 20) : z_kw true (133 + 6 * i.toNatClampNeg) = (8, 0) := by
  have h1 : ∀ j, j < 20 → z_kw true (133 + 6 * j) = (8, 0) := by decide +kernel
  exact h1 _ (Nat.not_le.mp fun q => hi (Or.inr q))
theorem lk_11_307 : z_LV "DearLetters" 307 11 mX11_remember 0 := ⟨⟨w_1186, w_154, w_1189, ⟨by decide, by decide, by decide +kernel⟩, by decide⟩, by decide, w_1188, w_45⟩
theorem lk_11_310 : z_LV "DearLetters" 310 8 mX8_hasSheetNear 3 := ⟨⟨w_1194, w_164, w_1197, ⟨by decide, by decide, by decide +kernel⟩, by decide⟩, by decide, w_1195, w_1196⟩
theorem lk_11_314 : z_LV "DearLetters" 314 11 mX11_canGoBy 1 := ⟨⟨w_1207, w_154, w_1210, ⟨by decide, by decide, by decide +kernel⟩, by decide⟩, by decide, w_1209, w_46⟩
theorem fl_11_80 : z_FL "DearLetters" 80 11 19 := ⟨by decide, by decide, w_656⟩
theorem lk_11_349 : z_LV "DearLetters" 349 11 mX11_drawOfHundred 0 := ⟨⟨w_1219, w_154, w_1222, ⟨by decide, by decide, by decide +kernel⟩, by decide⟩, by decide, w_1221, w_48⟩
theorem fl_11_352 : z_FL "DearLetters" 352 2 16 := ⟨by decide, by decide, w_543⟩
theorem lk_11_317 : z_LV "DearLetters" 317 11 mX11_catchColds 0 := ⟨⟨w_1215, w_154, w_1218, ⟨by decide, by decide, by decide +kernel⟩, by decide⟩, by decide, w_1217, w_47⟩
theorem fl_11_101 : z_FL "DearLetters" 101 11 2 := ⟨by decide, by decide, w_639⟩
theorem rs_0_2 (c r : Bool) : z_Rs c r 0 2 = some 132 := by
  unfold z_Rs
  rw [if_neg (by decide), if_neg (by decide)]
  decide +kernel
theorem lk_11_323 : z_LV "DearLetters" 323 5 mX5_read 0 := ⟨⟨w_1238, w_170, w_1241, ⟨by decide, by decide, by decide +kernel⟩, by decide⟩, by decide, w_1239, w_1240⟩
theorem lk_11_324 : z_LV "DearLetters" 324 5 mX5_over 3 := ⟨⟨w_1265, w_170, w_1268, ⟨by decide, by decide, by decide +kernel⟩, by decide⟩, by decide, w_1266, w_1267⟩
theorem fl_11_67 : z_FL "DearLetters" 67 11 12 := ⟨by decide, by decide, w_649⟩
theorem rs_0_12 (c r : Bool) : z_Rs c r 0 12 = some 54 := by
  unfold z_Rs
  rw [if_neg (by decide), if_neg (by decide)]
  decide +kernel
theorem kd_54 : z_kw true 54 = (20, 34) := by decide +kernel
theorem lk_11_328 : z_LS "DearLetters" 328 mX11_checkByte 2 := ⟨⟨w_1286, w_154, w_1288, ⟨by decide, by decide, by decide +kernel⟩, by decide⟩, w_1287⟩
theorem fl_11_332 : z_FL "DearLetters" 332 11 16 := ⟨by decide, by decide, w_653⟩
theorem rs_45_1 (c r : Bool) : z_Rs c r 45 1 = some 46 := by
  unfold z_Rs
  rw [if_neg (by decide), if_neg (by decide)]
  decide +kernel
theorem kd_46 : z_kw true 46 = (20, 3) := by decide +kernel
theorem rs_45_2 (c r : Bool) : z_Rs c r 45 2 = some 47 := by
  unfold z_Rs
  rw [if_neg (by decide), if_neg (by decide)]
  decide +kernel
theorem kd_47 : z_kw true 47 = (20, 4) := by decide +kernel
theorem rs_45_3 (c r : Bool) : z_Rs c r 45 3 = some 48 := by
  unfold z_Rs
  rw [if_neg (by decide), if_neg (by decide)]
  decide +kernel
theorem kd_48 : z_kw true 48 = (20, 8) := by decide +kernel
theorem rs_45_4 (c r : Bool) : z_Rs c r 45 4 = some 49 := by
  unfold z_Rs
  rw [if_neg (by decide), if_neg (by decide)]
  decide +kernel
theorem kd_49 : z_kw true 49 = (20, 8) := by decide +kernel
theorem rs_45_5 (c r : Bool) : z_Rs c r 45 5 = some 50 := by
  unfold z_Rs
  rw [if_neg (by decide), if_neg (by decide)]
  decide +kernel
theorem kd_50 : z_kw true 50 = (20, 8) := by decide +kernel
theorem lk_11_335 : z_LV "DearLetters" 335 11 mX11_loadScratch 0 := ⟨⟨w_1297, w_154, w_1300, ⟨by decide, by decide, by decide +kernel⟩, by decide⟩, by decide, w_1299, w_53⟩
theorem lk_11_338 : z_LV "DearLetters" 338 8 mX8_canBe 1 := ⟨⟨w_1301, w_164, w_1304, ⟨by decide, by decide, by decide +kernel⟩, by decide⟩, by decide, w_1302, w_1303⟩
theorem kd_253 : z_kw false 253 = (12, 0) := by decide +kernel
theorem fl_12_260 : z_FL "DearLettersModel" 260 12 1 := ⟨by decide, by decide, w_1321⟩
theorem fl_12_17 : z_FL "DearLettersModel" 17 12 9 := ⟨by decide, by decide, w_1329⟩
theorem rs_253_9 (c r : Bool) : z_Rs c r 253 9 = some 255 := by
  unfold z_Rs
  rw [if_neg (by decide), if_neg (by decide)]
  decide +kernel
theorem kd_255 : z_kw false 255 = (20, 6) := by decide +kernel
theorem fl_12_7 : z_FL "DearLettersModel" 7 12 0 := ⟨by decide, by decide, w_1320⟩
theorem rs_253_0 (c r : Bool) : z_Rs c r 253 0 = some 254 := by
  unfold z_Rs
  rw [if_neg (by decide), if_neg (by decide)]
  decide +kernel
theorem kd_254 : z_kw false 254 = (20, 1600) := by decide +kernel
theorem fl_12_263 : z_FL "DearLettersModel" 263 12 5 := ⟨by decide, by decide, w_1325⟩
theorem fl_12_266 : z_FL "DearLettersModel" 266 12 6 := ⟨by decide, by decide, w_1326⟩
theorem fl_12_269 : z_FL "DearLettersModel" 269 12 2 := ⟨by decide, by decide, w_1322⟩
theorem fl_12_272 : z_FL "DearLettersModel" 272 12 3 := ⟨by decide, by decide, w_1323⟩
theorem lk_12_275 : z_LV "DearLettersModel" 275 12 mX12_look 0 := ⟨⟨w_1652, w_171, w_1655, ⟨by decide, by decide, by decide +kernel⟩, by decide⟩, by decide, w_1654, w_55⟩
theorem lk_12_279 : z_LS "DearLettersModel" 279 mX12_isLetter 1 := ⟨⟨w_1672, w_171, w_1674, ⟨by decide, by decide, by decide +kernel⟩, by decide⟩, w_1673⟩
theorem fl_12_283 : z_FL "DearLettersModel" 283 12 4 := ⟨by decide, by decide, w_1324⟩
theorem lk_12_286 : z_LV "DearLettersModel" 286 12 mX12_isHere 1 := ⟨⟨w_1668, w_171, w_1671, ⟨by decide, by decide, by decide +kernel⟩, by decide⟩, by decide, w_1670, w_59⟩
theorem lk_12_290 : z_LV "DearLettersModel" 290 12 mX12_eats 1 := ⟨⟨w_1664, w_171, w_1667, ⟨by decide, by decide, by decide +kernel⟩, by decide⟩, by decide, w_1666, w_58⟩
theorem lk_12_293 : z_LV "DearLettersModel" 293 12 mX12_fail 2 := ⟨⟨w_1660, w_171, w_1663, ⟨by decide, by decide, by decide +kernel⟩, by decide⟩, by decide, w_1662, w_57⟩
theorem lk_12_297 : z_LV "DearLettersModel" 297 12 mX12_takesSign 1 := ⟨⟨w_1775, w_171, w_1778, ⟨by decide, by decide, by decide +kernel⟩, by decide⟩, by decide, w_1777, w_83⟩
theorem lk_12_300 : z_LS "DearLettersModel" 300 mX12_isDigit 1 := ⟨⟨w_1709, w_171, w_1711, ⟨by decide, by decide, by decide +kernel⟩, by decide⟩, w_1710⟩
theorem lk_12_303 : z_LS "DearLettersModel" 303 mX12_isIn 3 := ⟨⟨w_1712, w_171, w_1714, ⟨by decide, by decide, by decide +kernel⟩, by decide⟩, w_1713⟩
theorem fl_12_20 : z_FL "DearLettersModel" 20 12 10 := ⟨by decide, by decide, w_1330⟩
theorem rs_253_10 (c r : Bool) : z_Rs c r 253 10 = some 256 := by
  unfold z_Rs
  rw [if_neg (by decide), if_neg (by decide)]
  decide +kernel
theorem kd_256 : z_kw false 256 = (22, 6) := by decide +kernel
theorem fl_12_24 : z_FL "DearLettersModel" 24 12 11 := ⟨by decide, by decide, w_1331⟩
theorem rs_253_11 (c r : Bool) : z_Rs c r 253 11 = some 257 := by
  unfold z_Rs
  rw [if_neg (by decide), if_neg (by decide)]
  decide +kernel
theorem kd_257 : z_kw false 257 = (22, 3) := by decide +kernel
theorem fl_12_27 : z_FL "DearLettersModel" 27 12 12 := ⟨by decide, by decide, w_1332⟩
theorem rs_253_12 (c r : Bool) : z_Rs c r 253 12 = some 258 := by
  unfold z_Rs
  rw [if_neg (by decide), if_neg (by decide)]
  decide +kernel
theorem kd_258 : z_kw false 258 = (22, 4) := by decide +kernel
theorem fl_12_30 : z_FL "DearLettersModel" 30 12 13 := ⟨by decide, by decide, w_1333⟩
theorem rs_253_13 (c r : Bool) : z_Rs c r 253 13 = some 259 := by
  unfold z_Rs
  rw [if_neg (by decide), if_neg (by decide)]
  decide +kernel
theorem kd_259 : z_kw false 259 = (22, 5) := by decide +kernel
theorem fl_12_33 : z_FL "DearLettersModel" 33 12 14 := ⟨by decide, by decide, w_1334⟩
theorem rs_253_14 (c r : Bool) : z_Rs c r 253 14 = some 260 := by
  unfold z_Rs
  rw [if_neg (by decide), if_neg (by decide)]
  decide +kernel
theorem kd_260 : z_kw false 260 = (22, 4) := by decide +kernel
theorem fl_12_36 : z_FL "DearLettersModel" 36 12 15 := ⟨by decide, by decide, w_1335⟩
theorem rs_253_15 (c r : Bool) : z_Rs c r 253 15 = some 261 := by
  unfold z_Rs
  rw [if_neg (by decide), if_neg (by decide)]
  decide +kernel
theorem kd_261 : z_kw false 261 = (22, 5) := by decide +kernel
theorem fl_12_39 : z_FL "DearLettersModel" 39 12 16 := ⟨by decide, by decide, w_1336⟩
theorem rs_253_16 (c r : Bool) : z_Rs c r 253 16 = some 262 := by
  unfold z_Rs
  rw [if_neg (by decide), if_neg (by decide)]
  decide +kernel
theorem kd_262 : z_kw false 262 = (22, 4) := by decide +kernel
theorem fl_12_42 : z_FL "DearLettersModel" 42 12 17 := ⟨by decide, by decide, w_1337⟩
theorem rs_253_17 (c r : Bool) : z_Rs c r 253 17 = some 263 := by
  unfold z_Rs
  rw [if_neg (by decide), if_neg (by decide)]
  decide +kernel
theorem kd_263 : z_kw false 263 = (22, 4) := by decide +kernel
theorem fl_12_45 : z_FL "DearLettersModel" 45 12 18 := ⟨by decide, by decide, w_1338⟩
theorem rs_253_18 (c r : Bool) : z_Rs c r 253 18 = some 264 := by
  unfold z_Rs
  rw [if_neg (by decide), if_neg (by decide)]
  decide +kernel
theorem kd_264 : z_kw false 264 = (22, 4) := by decide +kernel
theorem fl_12_48 : z_FL "DearLettersModel" 48 12 19 := ⟨by decide, by decide, w_1339⟩
theorem rs_253_19 (c r : Bool) : z_Rs c r 253 19 = some 265 := by
  unfold z_Rs
  rw [if_neg (by decide), if_neg (by decide)]
  decide +kernel
theorem kd_265 : z_kw false 265 = (22, 6) := by decide +kernel
theorem fl_12_51 : z_FL "DearLettersModel" 51 12 20 := ⟨by decide, by decide, w_1340⟩
theorem rs_253_20 (c r : Bool) : z_Rs c r 253 20 = some 266 := by
  unfold z_Rs
  rw [if_neg (by decide), if_neg (by decide)]
  decide +kernel
theorem kd_266 : z_kw false 266 = (22, 4) := by decide +kernel
theorem fl_12_54 : z_FL "DearLettersModel" 54 12 21 := ⟨by decide, by decide, w_1341⟩
theorem rs_253_21 (c r : Bool) : z_Rs c r 253 21 = some 267 := by
  unfold z_Rs
  rw [if_neg (by decide), if_neg (by decide)]
  decide +kernel
theorem kd_267 : z_kw false 267 = (22, 4) := by decide +kernel
theorem fl_12_57 : z_FL "DearLettersModel" 57 12 22 := ⟨by decide, by decide, w_1342⟩
theorem rs_253_22 (c r : Bool) : z_Rs c r 253 22 = some 268 := by
  unfold z_Rs
  rw [if_neg (by decide), if_neg (by decide)]
  decide +kernel
theorem kd_268 : z_kw false 268 = (22, 5) := by decide +kernel
theorem fl_12_60 : z_FL "DearLettersModel" 60 12 23 := ⟨by decide, by decide, w_1343⟩
theorem rs_253_23 (c r : Bool) : z_Rs c r 253 23 = some 269 := by
  unfold z_Rs
  rw [if_neg (by decide), if_neg (by decide)]
  decide +kernel
theorem kd_269 : z_kw false 269 = (22, 5) := by decide +kernel
theorem fl_12_63 : z_FL "DearLettersModel" 63 12 24 := ⟨by decide, by decide, w_1344⟩
theorem rs_253_24 (c r : Bool) : z_Rs c r 253 24 = some 270 := by
  unfold z_Rs
  rw [if_neg (by decide), if_neg (by decide)]
  decide +kernel
theorem kd_270 : z_kw false 270 = (22, 4) := by decide +kernel
theorem fl_12_66 : z_FL "DearLettersModel" 66 12 25 := ⟨by decide, by decide, w_1345⟩
theorem rs_253_25 (c r : Bool) : z_Rs c r 253 25 = some 271 := by
  unfold z_Rs
  rw [if_neg (by decide), if_neg (by decide)]
  decide +kernel
theorem kd_271 : z_kw false 271 = (22, 6) := by decide +kernel
theorem fl_12_69 : z_FL "DearLettersModel" 69 12 26 := ⟨by decide, by decide, w_1346⟩
theorem rs_253_26 (c r : Bool) : z_Rs c r 253 26 = some 272 := by
  unfold z_Rs
  rw [if_neg (by decide), if_neg (by decide)]
  decide +kernel
theorem kd_272 : z_kw false 272 = (22, 4) := by decide +kernel
theorem fl_12_72 : z_FL "DearLettersModel" 72 12 27 := ⟨by decide, by decide, w_1347⟩
theorem rs_253_27 (c r : Bool) : z_Rs c r 253 27 = some 273 := by
  unfold z_Rs
  rw [if_neg (by decide), if_neg (by decide)]
  decide +kernel
theorem kd_273 : z_kw false 273 = (22, 6) := by decide +kernel
theorem fl_12_75 : z_FL "DearLettersModel" 75 12 28 := ⟨by decide, by decide, w_1348⟩
theorem rs_253_28 (c r : Bool) : z_Rs c r 253 28 = some 274 := by
  unfold z_Rs
  rw [if_neg (by decide), if_neg (by decide)]
  decide +kernel
theorem kd_274 : z_kw false 274 = (22, 3) := by decide +kernel
theorem fl_12_78 : z_FL "DearLettersModel" 78 12 29 := ⟨by decide, by decide, w_1349⟩
theorem rs_253_29 (c r : Bool) : z_Rs c r 253 29 = some 275 := by
  unfold z_Rs
  rw [if_neg (by decide), if_neg (by decide)]
  decide +kernel
theorem kd_275 : z_kw false 275 = (22, 6) := by decide +kernel
theorem fl_12_81 : z_FL "DearLettersModel" 81 12 30 := ⟨by decide, by decide, w_1350⟩
theorem rs_253_30 (c r : Bool) : z_Rs c r 253 30 = some 276 := by
  unfold z_Rs
  rw [if_neg (by decide), if_neg (by decide)]
  decide +kernel
theorem kd_276 : z_kw false 276 = (22, 5) := by decide +kernel
theorem fl_12_84 : z_FL "DearLettersModel" 84 12 31 := ⟨by decide, by decide, w_1351⟩
theorem rs_253_31 (c r : Bool) : z_Rs c r 253 31 = some 277 := by
  unfold z_Rs
  rw [if_neg (by decide), if_neg (by decide)]
  decide +kernel
theorem kd_277 : z_kw false 277 = (22, 4) := by decide +kernel
theorem fl_12_87 : z_FL "DearLettersModel" 87 12 32 := ⟨by decide, by decide, w_1352⟩
theorem rs_253_32 (c r : Bool) : z_Rs c r 253 32 = some 278 := by
  unfold z_Rs
  rw [if_neg (by decide), if_neg (by decide)]
  decide +kernel
theorem kd_278 : z_kw false 278 = (22, 2) := by decide +kernel
theorem fl_12_90 : z_FL "DearLettersModel" 90 12 33 := ⟨by decide, by decide, w_1353⟩
theorem rs_253_33 (c r : Bool) : z_Rs c r 253 33 = some 279 := by
  unfold z_Rs
  rw [if_neg (by decide), if_neg (by decide)]
  decide +kernel
theorem kd_279 : z_kw false 279 = (22, 3) := by decide +kernel
theorem fl_12_93 : z_FL "DearLettersModel" 93 12 34 := ⟨by decide, by decide, w_1354⟩
theorem rs_253_34 (c r : Bool) : z_Rs c r 253 34 = some 280 := by
  unfold z_Rs
  rw [if_neg (by decide), if_neg (by decide)]
  decide +kernel
theorem kd_280 : z_kw false 280 = (22, 3) := by decide +kernel
theorem fl_12_96 : z_FL "DearLettersModel" 96 12 35 := ⟨by decide, by decide, w_1355⟩
theorem rs_253_35 (c r : Bool) : z_Rs c r 253 35 = some 281 := by
  unfold z_Rs
  rw [if_neg (by decide), if_neg (by decide)]
  decide +kernel
theorem kd_281 : z_kw false 281 = (22, 3) := by decide +kernel
theorem fl_12_99 : z_FL "DearLettersModel" 99 12 36 := ⟨by decide, by decide, w_1356⟩
theorem rs_253_36 (c r : Bool) : z_Rs c r 253 36 = some 282 := by
  unfold z_Rs
  rw [if_neg (by decide), if_neg (by decide)]
  decide +kernel
theorem kd_282 : z_kw false 282 = (22, 3) := by decide +kernel
theorem fl_12_102 : z_FL "DearLettersModel" 102 12 37 := ⟨by decide, by decide, w_1357⟩
theorem rs_253_37 (c r : Bool) : z_Rs c r 253 37 = some 283 := by
  unfold z_Rs
  rw [if_neg (by decide), if_neg (by decide)]
  decide +kernel
theorem kd_283 : z_kw false 283 = (22, 3) := by decide +kernel
theorem lk_12_307 : z_LV "DearLettersModel" 307 12 mX12_isOwnHere 0 := ⟨⟨w_1691, w_171, w_1694, ⟨by decide, by decide, by decide +kernel⟩, by decide⟩, by decide, w_1693, w_64⟩
theorem fl_12_311 : z_FL "DearLettersModel" 311 12 38 := ⟨by decide, by decide, w_1358⟩
theorem fl_12_318 : z_FL "DearLettersModel" 318 12 53 := ⟨by decide, by decide, w_1373⟩
theorem fl_12_105 : z_FL "DearLettersModel" 105 12 39 := ⟨by decide, by decide, w_1359⟩
theorem rs_253_39 (c r : Bool) : z_Rs c r 253 39 = some 284 := by
  unfold z_Rs
  rw [if_neg (by decide), if_neg (by decide)]
  decide +kernel
theorem kd_284 : z_kw false 284 = (20, 10) := by decide +kernel
theorem fl_12_108 : z_FL "DearLettersModel" 108 12 40 := ⟨by decide, by decide, w_1360⟩
theorem rs_253_40 (c r : Bool) : z_Rs c r 253 40 = some 285 := by
  unfold z_Rs
  rw [if_neg (by decide), if_neg (by decide)]
  decide +kernel
theorem kd_285 : z_kw false 285 = (21, 48) := by decide +kernel
theorem lk_12_322 : z_LV "DearLettersModel" 322 12 mX12_name 0 := ⟨⟨w_1687, w_171, w_1690, ⟨by decide, by decide, by decide +kernel⟩, by decide⟩, by decide, w_1689, w_63⟩
theorem lk_12_326 : z_LV "DearLettersModel" 326 12 mX12_nameOf 2 := ⟨⟨w_1697, w_171, w_1700, ⟨by decide, by decide, by decide +kernel⟩, by decide⟩, by decide, w_1699, w_65⟩
theorem lk_12_330 : z_LV "DearLettersModel" 330 12 mX12_isFull 3 := ⟨⟨w_1679, w_171, w_1682, ⟨by decide, by decide, by decide +kernel⟩, by decide⟩, by decide, w_1681, w_61⟩
theorem lk_12_334 : z_LV "DearLettersModel" 334 12 mX12_newName 0 := ⟨⟨w_1683, w_171, w_1686, ⟨by decide, by decide, by decide +kernel⟩, by decide⟩, by decide, w_1685, w_62⟩
theorem lk_12_337 : z_LV "DearLettersModel" 337 12 mX12_asks 1 := ⟨⟨w_1701, w_171, w_1704, ⟨by decide, by decide, by decide +kernel⟩, by decide⟩, by decide, w_1703, w_66⟩
theorem lk_12_341 : z_LV "DearLettersModel" 341 12 mX12_number 2 := ⟨⟨w_1705, w_171, w_1708, ⟨by decide, by decide, by decide +kernel⟩, by decide⟩, by decide, w_1707, w_67⟩
theorem lk_12_345 : z_LV "DearLettersModel" 345 12 mX12_adds 2 := ⟨⟨w_1715, w_171, w_1718, ⟨by decide, by decide, by decide +kernel⟩, by decide⟩, by decide, w_1717, w_68⟩
theorem fl_12_112 : z_FL "DearLettersModel" 112 12 41 := ⟨by decide, by decide, w_1361⟩
theorem rs_253_41 (c r : Bool) : z_Rs c r 253 41 = some 286 := by
  unfold z_Rs
  rw [if_neg (by decide), if_neg (by decide)]
  decide +kernel
theorem kd_286 : z_kw false 286 = (20, 48) := by decide +kernel
theorem fl_12_115 : z_FL "DearLettersModel" 115 12 42 := ⟨by decide, by decide, w_1362⟩
theorem rs_253_42 (c r : Bool) : z_Rs c r 253 42 = some 287 := by
  unfold z_Rs
  rw [if_neg (by decide), if_neg (by decide)]
  decide +kernel
theorem kd_287 : z_kw false 287 = (20, 8) := by decide +kernel
theorem lk_12_348 : z_LV "DearLettersModel" 348 12 mX12_oneOf 1 := ⟨⟨w_1727, w_171, w_1730, ⟨by decide, by decide, by decide +kernel⟩, by decide⟩, by decide, w_1729, w_71⟩
theorem fl_12_118 : z_FL "DearLettersModel" 118 12 43 := ⟨by decide, by decide, w_1363⟩
theorem rs_253_43 (c r : Bool) : z_Rs c r 253 43 = some 288 := by
  unfold z_Rs
  rw [if_neg (by decide), if_neg (by decide)]
  decide +kernel
theorem kd_288 : z_kw false 288 = (20, 64) := by decide +kernel
theorem fl_12_121 : z_FL "DearLettersModel" 121 12 44 := ⟨by decide, by decide, w_1364⟩
theorem rs_253_44 (c r : Bool) : z_Rs c r 253 44 = some 289 := by
  unfold z_Rs
  rw [if_neg (by decide), if_neg (by decide)]
  decide +kernel
theorem kd_289 : z_kw false 289 = (20, 16) := by decide +kernel
theorem fl_12_124 : z_FL "DearLettersModel" 124 12 45 := ⟨by decide, by decide, w_1365⟩
theorem rs_253_45 (c r : Bool) : z_Rs c r 253 45 = some 290 := by
  unfold z_Rs
  rw [if_neg (by decide), if_neg (by decide)]
  decide +kernel
theorem kd_290 : z_kw false 290 = (20, 128) := by decide +kernel
theorem fl_12_127 : z_FL "DearLettersModel" 127 12 46 := ⟨by decide, by decide, w_1366⟩
theorem rs_253_46 (c r : Bool) : z_Rs c r 253 46 = some 291 := by
  unfold z_Rs
  rw [if_neg (by decide), if_neg (by decide)]
  decide +kernel
theorem kd_291 : z_kw false 291 = (20, 18) := by decide +kernel
theorem fl_12_215 : z_FL "DearLettersModel" 215 12 83 := ⟨by decide, by decide, w_1403⟩
theorem rs_253_83 (c r : Bool) : z_Rs c r 253 83 = some 319 := by
  unfold z_Rs
  rw [if_neg (by decide), if_neg (by decide)]
  decide +kernel
theorem kd_319 : z_kw false 319 = (22, 3) := by decide +kernel
theorem fl_12_218 : z_FL "DearLettersModel" 218 12 84 := ⟨by decide, by decide, w_1404⟩
theorem rs_253_84 (c r : Bool) : z_Rs c r 253 84 = some 320 := by
  unfold z_Rs
  rw [if_neg (by decide), if_neg (by decide)]
  decide +kernel
theorem kd_320 : z_kw false 320 = (22, 4) := by decide +kernel
theorem fl_12_221 : z_FL "DearLettersModel" 221 12 85 := ⟨by decide, by decide, w_1405⟩
theorem rs_253_85 (c r : Bool) : z_Rs c r 253 85 = some 321 := by
  unfold z_Rs
  rw [if_neg (by decide), if_neg (by decide)]
  decide +kernel
theorem kd_321 : z_kw false 321 = (22, 5) := by decide +kernel
theorem fl_12_224 : z_FL "DearLettersModel" 224 12 86 := ⟨by decide, by decide, w_1406⟩
theorem rs_253_86 (c r : Bool) : z_Rs c r 253 86 = some 322 := by
  unfold z_Rs
  rw [if_neg (by decide), if_neg (by decide)]
  decide +kernel
theorem kd_322 : z_kw false 322 = (22, 4) := by decide +kernel
theorem fl_12_227 : z_FL "DearLettersModel" 227 12 87 := ⟨by decide, by decide, w_1407⟩
theorem rs_253_87 (c r : Bool) : z_Rs c r 253 87 = some 323 := by
  unfold z_Rs
  rw [if_neg (by decide), if_neg (by decide)]
  decide +kernel
theorem kd_323 : z_kw false 323 = (22, 6) := by decide +kernel
theorem fl_12_230 : z_FL "DearLettersModel" 230 12 88 := ⟨by decide, by decide, w_1408⟩
theorem rs_253_88 (c r : Bool) : z_Rs c r 253 88 = some 324 := by
  unfold z_Rs
  rw [if_neg (by decide), if_neg (by decide)]
  decide +kernel
theorem kd_324 : z_kw false 324 = (22, 3) := by decide +kernel
theorem fl_12_233 : z_FL "DearLettersModel" 233 12 89 := ⟨by decide, by decide, w_1409⟩
theorem rs_253_89 (c r : Bool) : z_Rs c r 253 89 = some 325 := by
  unfold z_Rs
  rw [if_neg (by decide), if_neg (by decide)]
  decide +kernel
theorem kd_325 : z_kw false 325 = (22, 6) := by decide +kernel
theorem fl_12_236 : z_FL "DearLettersModel" 236 12 90 := ⟨by decide, by decide, w_1410⟩
theorem rs_253_90 (c r : Bool) : z_Rs c r 253 90 = some 326 := by
  unfold z_Rs
  rw [if_neg (by decide), if_neg (by decide)]
  decide +kernel
theorem kd_326 : z_kw false 326 = (22, 5) := by decide +kernel
theorem fl_12_239 : z_FL "DearLettersModel" 239 12 91 := ⟨by decide, by decide, w_1411⟩
theorem rs_253_91 (c r : Bool) : z_Rs c r 253 91 = some 327 := by
  unfold z_Rs
  rw [if_neg (by decide), if_neg (by decide)]
  decide +kernel
theorem kd_327 : z_kw false 327 = (22, 4) := by decide +kernel
theorem fl_12_242 : z_FL "DearLettersModel" 242 12 92 := ⟨by decide, by decide, w_1412⟩
theorem rs_253_92 (c r : Bool) : z_Rs c r 253 92 = some 328 := by
  unfold z_Rs
  rw [if_neg (by decide), if_neg (by decide)]
  decide +kernel
theorem kd_328 : z_kw false 328 = (22, 4) := by decide +kernel
theorem fl_12_245 : z_FL "DearLettersModel" 245 12 93 := ⟨by decide, by decide, w_1413⟩
theorem rs_253_93 (c r : Bool) : z_Rs c r 253 93 = some 329 := by
  unfold z_Rs
  rw [if_neg (by decide), if_neg (by decide)]
  decide +kernel
theorem kd_329 : z_kw false 329 = (22, 4) := by decide +kernel
theorem lk_12_603 : z_LV "DearLettersModel" 603 12 mX12_qWordHere 0 := ⟨⟨w_1759, w_171, w_1762, ⟨by decide, by decide, by decide +kernel⟩, by decide⟩, by decide, w_1761, w_79⟩
theorem lk_12_606 : z_LV "DearLettersModel" 606 12 mX12_isAllowed 1 := ⟨⟨w_1763, w_171, w_1766, ⟨by decide, by decide, by decide +kernel⟩, by decide⟩, by decide, w_1765, w_80⟩
theorem fl_12_358 : z_FL "DearLettersModel" 358 12 98 := ⟨by decide, by decide, w_1418⟩
theorem fl_12_251 : z_FL "DearLettersModel" 251 12 96 := ⟨by decide, by decide, w_1416⟩
theorem rs_253_96 (c r : Bool) : z_Rs c r 253 96 = some 331 := by
  unfold z_Rs
  rw [if_neg (by decide), if_neg (by decide)]
  decide +kernel
theorem kd_331 : z_kw false 331 = (20, 1700) := by decide +kernel
theorem fl_12_355 : z_FL "DearLettersModel" 355 12 97 := ⟨by decide, by decide, w_1417⟩
theorem fl_12_248 : z_FL "DearLettersModel" 248 12 94 := ⟨by decide, by decide, w_1414⟩
theorem rs_253_94 (c r : Bool) : z_Rs c r 253 94 = some 330 := by
  unfold z_Rs
  rw [if_neg (by decide), if_neg (by decide)]
  decide +kernel
theorem kd_330 : z_kw false 330 = (20, 1700) := by decide +kernel
theorem fl_12_352 : z_FL "DearLettersModel" 352 12 95 := ⟨by decide, by decide, w_1415⟩
theorem lk_12_594 : z_LV "DearLettersModel" 594 12 mX12_qCode 1 := ⟨⟨w_1783, w_171, w_1786, ⟨by decide, by decide, by decide +kernel⟩, by decide⟩, by decide, w_1785, w_85⟩
theorem fl_12_361 : z_FL "DearLettersModel" 361 12 99 := ⟨by decide, by decide, w_1419⟩
theorem lk_12_600 : z_LV "DearLettersModel" 600 12 mX12_qDrops 0 := ⟨⟨w_1791, w_171, w_1794, ⟨by decide, by decide, by decide +kernel⟩, by decide⟩, by decide, w_1793, w_87⟩
theorem lk_12_609 : z_LV "DearLettersModel" 609 12 mX12_qWordOf 2 := ⟨⟨w_1755, w_171, w_1758, ⟨by decide, by decide, by decide +kernel⟩, by decide⟩, by decide, w_1757, w_78⟩
theorem lk_12_612 : z_LV "DearLettersModel" 612 12 mX12_qOpens 2 := ⟨⟨w_1767, w_171, w_1770, ⟨by decide, by decide, by decide +kernel⟩, by decide⟩, by decide, w_1769, w_81⟩
theorem fl_12_209 : z_FL "DearLettersModel" 209 12 81 := ⟨by decide, by decide, w_1401⟩
theorem rs_253_81 (c r : Bool) : z_Rs c r 253 81 = some 317 := by
  unfold z_Rs
  rw [if_neg (by decide), if_neg (by decide)]
  decide +kernel
theorem kd_317 : z_kw false 317 = (22, 3) := by decide +kernel
theorem fl_12_212 : z_FL "DearLettersModel" 212 12 82 := ⟨by decide, by decide, w_1402⟩
theorem rs_253_82 (c r : Bool) : z_Rs c r 253 82 = some 318 := by
  unfold z_Rs
  rw [if_neg (by decide), if_neg (by decide)]
  decide +kernel
theorem kd_318 : z_kw false 318 = (22, 3) := by decide +kernel
theorem lk_12_615 : z_LV "DearLettersModel" 615 12 mX12_qAsksWord 1 := ⟨⟨w_1779, w_171, w_1782, ⟨by decide, by decide, by decide +kernel⟩, by decide⟩, by decide, w_1781, w_84⟩
theorem lk_12_395 : z_LV "DearLettersModel" 395 12 mX12_asksSign 1 := ⟨⟨w_1771, w_171, w_1774, ⟨by decide, by decide, by decide +kernel⟩, by decide⟩, by decide, w_1773, w_82⟩
theorem lk_12_618 : z_LV "DearLettersModel" 618 12 mX12_qEndsPart 0 := ⟨⟨w_1787, w_171, w_1790, ⟨by decide, by decide, by decide +kernel⟩, by decide⟩, by decide, w_1789, w_86⟩
theorem lk_12_597 : z_LS "DearLettersModel" 597 mX12_qIsBracket 1 := ⟨⟨w_1803, w_171, w_1805, ⟨by decide, by decide, by decide +kernel⟩, by decide⟩, w_1804⟩
theorem lk_12_621 : z_LV "DearLettersModel" 621 12 mX12_qBracket 0 := ⟨⟨w_1799, w_171, w_1802, ⟨by decide, by decide, by decide +kernel⟩, by decide⟩, by decide, w_1801, w_89⟩
theorem lk_12_624 : z_LV "DearLettersModel" 624 12 mX12_qDropsToBracket 0 := ⟨⟨w_1806, w_171, w_1809, ⟨by decide, by decide, by decide +kernel⟩, by decide⟩, by decide, w_1808, w_90⟩
theorem lk_12_627 : z_LV "DearLettersModel" 627 12 mX12_qIsOn 1 := ⟨⟨w_1810, w_171, w_1813, ⟨by decide, by decide, by decide +kernel⟩, by decide⟩, by decide, w_1812, w_91⟩
theorem lk_12_630 : z_LV "DearLettersModel" 630 12 mX12_qPartTold 0 := ⟨⟨w_1751, w_171, w_1754, ⟨by decide, by decide, by decide +kernel⟩, by decide⟩, by decide, w_1753, w_77⟩
theorem lk_12_633 : z_LV "DearLettersModel" 633 12 mX12_qGoesOn 0 := ⟨⟨w_1795, w_171, w_1798, ⟨by decide, by decide, by decide +kernel⟩, by decide⟩, by decide, w_1797, w_88⟩
theorem fl_12_133 : z_FL "DearLettersModel" 133 12 48 := ⟨by decide, by decide, w_1368⟩
theorem rs_253_48 (c r : Bool) : z_Rs c r 253 48 = some 293 := by
  unfold z_Rs
  rw [if_neg (by decide), if_neg (by decide)]
  decide +kernel
theorem kd_293 : z_kw false 293 = (20, 4) := by decide +kernel
theorem lk_12_364 : z_LV "DearLettersModel" 364 12 mX12_qSums 0 := ⟨⟨w_1747, w_171, w_1750, ⟨by decide, by decide, by decide +kernel⟩, by decide⟩, by decide, w_1749, w_76⟩
theorem fl_12_367 : z_FL "DearLettersModel" 367 12 51 := ⟨by decide, by decide, w_1371⟩
theorem fl_12_139 : z_FL "DearLettersModel" 139 12 50 := ⟨by decide, by decide, w_1370⟩
theorem rs_253_50 (c r : Bool) : z_Rs c r 253 50 = some 295 := by
  unfold z_Rs
  rw [if_neg (by decide), if_neg (by decide)]
  decide +kernel
theorem kd_295 : z_kw false 295 = (20, 3200) := by decide +kernel
theorem fl_12_136 : z_FL "DearLettersModel" 136 12 49 := ⟨by decide, by decide, w_1369⟩
theorem rs_253_49 (c r : Bool) : z_Rs c r 253 49 = some 294 := by
  unfold z_Rs
  rw [if_neg (by decide), if_neg (by decide)]
  decide +kernel
theorem kd_294 : z_kw false 294 = (20, 4) := by decide +kernel
theorem fl_12_370 : z_FL "DearLettersModel" 370 12 52 := ⟨by decide, by decide, w_1372⟩
theorem fl_12_130 : z_FL "DearLettersModel" 130 12 47 := ⟨by decide, by decide, w_1367⟩
theorem rs_253_47 (c r : Bool) : z_Rs c r 253 47 = some 292 := by
  unfold z_Rs
  rw [if_neg (by decide), if_neg (by decide)]
  decide +kernel
theorem kd_292 : z_kw false 292 = (20, 4) := by decide +kernel
theorem lk_12_392 : z_LV "DearLettersModel" 392 12 mX12_codesTold 2 := ⟨⟨w_1743, w_171, w_1746, ⟨by decide, by decide, by decide +kernel⟩, by decide⟩, by decide, w_1745, w_75⟩
theorem lk_12_389 : z_LV "DearLettersModel" 389 12 mX12_helperTold 1 := ⟨⟨w_1739, w_171, w_1742, ⟨by decide, by decide, by decide +kernel⟩, by decide⟩, by decide, w_1741, w_74⟩
theorem lk_12_386 : z_LV "DearLettersModel" 386 12 mX12_likeTold 1 := ⟨⟨w_1735, w_171, w_1738, ⟨by decide, by decide, by decide +kernel⟩, by decide⟩, by decide, w_1737, w_73⟩
theorem lk_12_383 : z_LV "DearLettersModel" 383 12 mX12_nearTold 1 := ⟨⟨w_1731, w_171, w_1734, ⟨by decide, by decide, by decide +kernel⟩, by decide⟩, by decide, w_1733, w_72⟩
theorem lk_12_380 : z_LV "DearLettersModel" 380 12 mX12_wishTold 0 := ⟨⟨w_1723, w_171, w_1726, ⟨by decide, by decide, by decide +kernel⟩, by decide⟩, by decide, w_1725, w_70⟩
theorem lk_12_377 : z_LV "DearLettersModel" 377 12 mX12_giftTold 1 := ⟨⟨w_1719, w_171, w_1722, ⟨by decide, by decide, by decide +kernel⟩, by decide⟩, by decide, w_1721, w_69⟩
theorem lk_12_373 : z_LV "DearLettersModel" 373 12 mX12_letterTold 1 := ⟨⟨w_1675, w_171, w_1678, ⟨by decide, by decide, by decide +kernel⟩, by decide⟩, by decide, w_1677, w_60⟩
theorem lk_12_422 : z_LV "DearLettersModel" 422 12 mX12_helperMany 0 := ⟨⟨w_1822, w_171, w_1825, ⟨by decide, by decide, by decide +kernel⟩, by decide⟩, by decide, w_1824, w_94⟩
theorem fl_12_142 : z_FL "DearLettersModel" 142 12 54 := ⟨by decide, by decide, w_1374⟩
theorem rs_253_54 (c r : Bool) : z_Rs c r 253 54 = some 296 := by
  unfold z_Rs
  rw [if_neg (by decide), if_neg (by decide)]
  decide +kernel
theorem kd_296 : z_kw false 296 = (20, 32) := by decide +kernel
theorem lk_12_407 : z_LV "DearLettersModel" 407 12 mX12_leftAnew 0 := ⟨⟨w_1818, w_171, w_1821, ⟨by decide, by decide, by decide +kernel⟩, by decide⟩, by decide, w_1820, w_93⟩
theorem lk_12_410 : z_LV "DearLettersModel" 410 12 mX12_giftMany 0 := ⟨⟨w_1826, w_171, w_1829, ⟨by decide, by decide, by decide +kernel⟩, by decide⟩, by decide, w_1828, w_95⟩
theorem fl_12_413 : z_FL "DearLettersModel" 413 12 68 := ⟨by decide, by decide, w_1388⟩
theorem fl_12_416 : z_FL "DearLettersModel" 416 12 65 := ⟨by decide, by decide, w_1385⟩
theorem lk_12_398 : z_LV "DearLettersModel" 398 12 mX12_statementTold 0 := ⟨⟨w_1656, w_171, w_1659, ⟨by decide, by decide, by decide +kernel⟩, by decide⟩, by decide, w_1658, w_56⟩
theorem fl_12_401 : z_FL "DearLettersModel" 401 12 7 := ⟨by decide, by decide, w_1327⟩
theorem fl_12_13 : z_FL "DearLettersModel" 13 12 8 := ⟨by decide, by decide, w_1328⟩
theorem lk_12_404 : z_LV "DearLettersModel" 404 12 mX12_stands 0 := ⟨⟨w_1814, w_171, w_1817, ⟨by decide, by decide, by decide +kernel⟩, by decide⟩, by decide, w_1816, w_92⟩
theorem lk_12_419 : z_LV "DearLettersModel" 419 12 mX12_letterMany 0 := ⟨⟨w_1842, w_171, w_1845, ⟨by decide, by decide, by decide +kernel⟩, by decide⟩, by decide, w_1844, w_97⟩
theorem lk_12_425 : z_LV "DearLettersModel" 425 12 mX12_wishOf 2 := ⟨⟨w_1884, w_171, w_1887, ⟨by decide, by decide, by decide +kernel⟩, by decide⟩, by decide, w_1886, w_105⟩
theorem fl_12_254 : z_FL "DearLettersModel" 254 12 100 := ⟨by decide, by decide, w_1420⟩
theorem rs_253_100 (c r : Bool) : z_Rs c r 253 100 = some 332 := by
  unfold z_Rs
  rw [if_neg (by decide), if_neg (by decide)]
  decide +kernel
theorem kd_332 : z_kw false 332 = (21, 1700) := by decide +kernel
theorem fl_12_431 : z_FL "DearLettersModel" 431 12 101 := ⟨by decide, by decide, w_1421⟩
theorem fl_12_428 : z_FL "DearLettersModel" 428 12 56 := ⟨by decide, by decide, w_1376⟩
theorem lk_12_510 : z_LV "DearLettersModel" 510 12 mX12_wishesOf 1 := ⟨⟨w_1880, w_171, w_1883, ⟨by decide, by decide, by decide +kernel⟩, by decide⟩, by decide, w_1882, w_104⟩
theorem lk_12_504 : z_LV "DearLettersModel" 504 12 mX12_sheetOf 1 := ⟨⟨w_1872, w_171, w_1875, ⟨by decide, by decide, by decide +kernel⟩, by decide⟩, by decide, w_1874, w_102⟩
theorem lk_12_451 : z_LV "DearLettersModel" 451 12 mX12_doneOf 1 := ⟨⟨w_1868, w_171, w_1871, ⟨by decide, by decide, by decide +kernel⟩, by decide⟩, by decide, w_1870, w_101⟩
theorem lk_12_507 : z_LV "DearLettersModel" 507 12 mX12_giftOf 1 := ⟨⟨w_1876, w_171, w_1879, ⟨by decide, by decide, by decide +kernel⟩, by decide⟩, by decide, w_1878, w_103⟩
theorem lk_12_652 : z_LS "DearLettersModel" 652 mX12_qClip 1 := ⟨⟨w_1928, w_171, w_1930, ⟨by decide, by decide, by decide +kernel⟩, by decide⟩, w_1929⟩
theorem lk_12_434 : z_LV "DearLettersModel" 434 12 mX12_qPuts 1 := ⟨⟨w_1916, w_171, w_1919, ⟨by decide, by decide, by decide +kernel⟩, by decide⟩, by decide, w_1918, w_110⟩
theorem lk_12_656 : z_LS "DearLettersModel" 656 mX12_qFloor 2 := ⟨⟨w_1933, w_171, w_1935, ⟨by decide, by decide, by decide +kernel⟩, by decide⟩, w_1934⟩
theorem lk_12_442 : z_LV "DearLettersModel" 442 12 mX12_qJoins 1 := ⟨⟨w_1924, w_171, w_1927, ⟨by decide, by decide, by decide +kernel⟩, by decide⟩, by decide, w_1926, w_112⟩
theorem lk_12_438 : z_LV "DearLettersModel" 438 12 mX12_qPartOf 2 := ⟨⟨w_1920, w_171, w_1923, ⟨by decide, by decide, by decide +kernel⟩, by decide⟩, by decide, w_1922, w_111⟩
theorem lk_12_445 : z_LV "DearLettersModel" 445 12 mX12_codesTell 3 := ⟨⟨w_1912, w_171, w_1915, ⟨by decide, by decide, by decide +kernel⟩, by decide⟩, by decide, w_1914, w_109⟩
theorem lk_12_454 : z_LV "DearLettersModel" 454 12 mX12_doesBear 2 := ⟨⟨w_1954, w_171, w_1957, ⟨by decide, by decide, by decide +kernel⟩, by decide⟩, by decide, w_1956, w_115⟩
theorem lk_12_458 : z_LV "DearLettersModel" 458 12 mX12_leftOf 1 := ⟨⟨w_1850, w_171, w_1853, ⟨by decide, by decide, by decide +kernel⟩, by decide⟩, by decide, w_1852, w_99⟩
theorem lk_12_461 : z_LV "DearLettersModel" 461 12 mX12_timeOf 2 := ⟨⟨w_1908, w_171, w_1911, ⟨by decide, by decide, by decide +kernel⟩, by decide⟩, by decide, w_1910, w_108⟩
theorem fl_12_148 : z_FL "DearLettersModel" 148 12 57 := ⟨by decide, by decide, w_1377⟩
theorem rs_253_57 (c r : Bool) : z_Rs c r 253 57 = some 298 := by
  unfold z_Rs
  rw [if_neg (by decide), if_neg (by decide)]
  decide +kernel
theorem kd_298 : z_kw false 298 = (20, 8) := by decide +kernel
theorem fl_12_151 : z_FL "DearLettersModel" 151 12 58 := ⟨by decide, by decide, w_1378⟩
theorem rs_253_58 (c r : Bool) : z_Rs c r 253 58 = some 299 := by
  unfold z_Rs
  rw [if_neg (by decide), if_neg (by decide)]
  decide +kernel
theorem kd_299 : z_kw false 299 = (20, 8) := by decide +kernel
theorem fl_12_163 : z_FL "DearLettersModel" 163 12 62 := ⟨by decide, by decide, w_1382⟩
theorem rs_253_62 (c r : Bool) : z_Rs c r 253 62 = some 303 := by
  unfold z_Rs
  rw [if_neg (by decide), if_neg (by decide)]
  decide +kernel
theorem kd_303 : z_kw false 303 = (20, 3) := by decide +kernel
theorem fl_12_157 : z_FL "DearLettersModel" 157 12 60 := ⟨by decide, by decide, w_1380⟩
theorem rs_253_60 (c r : Bool) : z_Rs c r 253 60 = some 301 := by
  unfold z_Rs
  rw [if_neg (by decide), if_neg (by decide)]
  decide +kernel
theorem kd_301 : z_kw false 301 = (20, 24) := by decide +kernel
theorem fl_12_160 : z_FL "DearLettersModel" 160 12 61 := ⟨by decide, by decide, w_1381⟩
theorem rs_253_61 (c r : Bool) : z_Rs c r 253 61 = some 302 := by
  unfold z_Rs
  rw [if_neg (by decide), if_neg (by decide)]
  decide +kernel
theorem kd_302 : z_kw false 302 = (21, 24) := by decide +kernel
theorem lk_12_464 : z_LV "DearLettersModel" 464 12 mX12_warmOf 2 := ⟨⟨w_1941, w_171, w_1944, ⟨by decide, by decide, by decide +kernel⟩, by decide⟩, by decide, w_1943, w_113⟩
theorem lk_12_467 : z_LV "DearLettersModel" 467 12 mX12_laysTimes 0 := ⟨⟨w_1966, w_171, w_1969, ⟨by decide, by decide, by decide +kernel⟩, by decide⟩, by decide, w_1968, w_117⟩
theorem fl_12_154 : z_FL "DearLettersModel" 154 12 59 := ⟨by decide, by decide, w_1379⟩
theorem rs_253_59 (c r : Bool) : z_Rs c r 253 59 = some 300 := by
  unfold z_Rs
  rw [if_neg (by decide), if_neg (by decide)]
  decide +kernel
theorem kd_300 : z_kw false 300 = (20, 8) := by decide +kernel
theorem fl_12_470 : z_FL "DearLettersModel" 470 12 63 := ⟨by decide, by decide, w_1383⟩
theorem lk_12_473 : z_LV "DearLettersModel" 473 12 mX12_isNextRow 0 := ⟨⟨w_1970, w_171, w_1973, ⟨by decide, by decide, by decide +kernel⟩, by decide⟩, by decide, w_1972, w_118⟩
theorem lk_12_476 : z_LV "DearLettersModel" 476 12 mX12_answeredIn 0 := ⟨⟨w_1974, w_171, w_1977, ⟨by decide, by decide, by decide +kernel⟩, by decide⟩, by decide, w_1976, w_119⟩
theorem lk_12_479 : z_LV "DearLettersModel" 479 12 mX12_canRow 0 := ⟨⟨w_1978, w_171, w_1981, ⟨by decide, by decide, by decide +kernel⟩, by decide⟩, by decide, w_1980, w_120⟩
theorem lk_12_482 : z_LV "DearLettersModel" 482 12 mX12_warmIn 0 := ⟨⟨w_1982, w_171, w_1985, ⟨by decide, by decide, by decide +kernel⟩, by decide⟩, by decide, w_1984, w_121⟩
theorem lk_12_485 : z_LV "DearLettersModel" 485 12 mX12_laysWarmest 0 := ⟨⟨w_1962, w_171, w_1965, ⟨by decide, by decide, by decide +kernel⟩, by decide⟩, by decide, w_1964, w_116⟩
theorem lk_12_488 : z_LV "DearLettersModel" 488 12 mX12_isAnswered 2 := ⟨⟨w_2006, w_171, w_2009, ⟨by decide, by decide, by decide +kernel⟩, by decide⟩, by decide, w_2008, w_125⟩
theorem fl_12_145 : z_FL "DearLettersModel" 145 12 55 := ⟨by decide, by decide, w_1375⟩
theorem rs_253_55 (c r : Bool) : z_Rs c r 253 55 = some 297 := by
  unfold z_Rs
  rw [if_neg (by decide), if_neg (by decide)]
  decide +kernel
theorem kd_297 : z_kw false 297 = (20, 32) := by decide +kernel
theorem lk_12_491 : z_LV "DearLettersModel" 491 12 mX12_manyWith 1 := ⟨⟨w_1838, w_171, w_1841, ⟨by decide, by decide, by decide +kernel⟩, by decide⟩, by decide, w_1840, w_96⟩
theorem lk_12_494 : z_LV "DearLettersModel" 494 12 mX12_leftAll 0 := ⟨⟨w_1846, w_171, w_1849, ⟨by decide, by decide, by decide +kernel⟩, by decide⟩, by decide, w_1848, w_98⟩
theorem lk_12_501 : z_LV "DearLettersModel" 501 12 mX12_isMail 1 := ⟨⟨w_1864, w_171, w_1867, ⟨by decide, by decide, by decide +kernel⟩, by decide⟩, by decide, w_1866, w_100⟩
theorem lk_12_513 : z_LV "DearLettersModel" 513 12 mX12_isGift 1 := ⟨⟨w_1892, w_171, w_1895, ⟨by decide, by decide, by decide +kernel⟩, by decide⟩, by decide, w_1894, w_106⟩
theorem lk_12_516 : z_LV "DearLettersModel" 516 12 mX12_isHelper 1 := ⟨⟨w_1900, w_171, w_1903, ⟨by decide, by decide, by decide +kernel⟩, by decide⟩, by decide, w_1902, w_107⟩
theorem lk_12_521 : z_LV "DearLettersModel" 521 12 mX12_canAnswer 2 := ⟨⟨w_1950, w_171, w_1953, ⟨by decide, by decide, by decide +kernel⟩, by decide⟩, by decide, w_1952, w_114⟩
theorem lk_12_524 : z_LV "DearLettersModel" 524 12 mX12_isAhead 3 := ⟨⟨w_1994, w_171, w_1997, ⟨by decide, by decide, by decide +kernel⟩, by decide⟩, by decide, w_1996, w_122⟩
theorem lk_12_527 : z_LV "DearLettersModel" 527 12 mX12_putsAside 0 := ⟨⟨w_1998, w_171, w_2001, ⟨by decide, by decide, by decide +kernel⟩, by decide⟩, by decide, w_2000, w_123⟩
theorem lk_12_530 : z_LV "DearLettersModel" 530 12 mX12_eveningGoes 0 := ⟨⟨w_2002, w_171, w_2005, ⟨by decide, by decide, by decide +kernel⟩, by decide⟩, by decide, w_2004, w_124⟩
theorem lk_12_533 : z_LV "DearLettersModel" 533 12 mX12_answeredMany 0 := ⟨⟨w_2010, w_171, w_2013, ⟨by decide, by decide, by decide +kernel⟩, by decide⟩, by decide, w_2012, w_126⟩
theorem lk_12_536 : z_LV "DearLettersModel" 536 12 mX12_takesBack 0 := ⟨⟨w_2014, w_171, w_2017, ⟨by decide, by decide, by decide +kernel⟩, by decide⟩, by decide, w_2016, w_127⟩
theorem lk_12_539 : z_LV "DearLettersModel" 539 12 mX12_isApart 1 := ⟨⟨w_2030, w_171, w_2033, ⟨by decide, by decide, by decide +kernel⟩, by decide⟩, by decide, w_2032, w_129⟩
theorem lk_12_542 : z_LV "DearLettersModel" 542 12 mX12_laysSheets 1 := ⟨⟨w_2026, w_171, w_2029, ⟨by decide, by decide, by decide +kernel⟩, by decide⟩, by decide, w_2028, w_128⟩
theorem fl_12_166 : z_FL "DearLettersModel" 166 12 64 := ⟨by decide, by decide, w_1384⟩
theorem rs_253_64 (c r : Bool) : z_Rs c r 253 64 = some 304 := by
  unfold z_Rs
  rw [if_neg (by decide), if_neg (by decide)]
  decide +kernel
theorem kd_304 : z_kw false 304 = (20, 4) := by decide +kernel
theorem lk_12_545 : z_LV "DearLettersModel" 545 12 mX12_sharedIn 0 := ⟨⟨w_2038, w_171, w_2041, ⟨by decide, by decide, by decide +kernel⟩, by decide⟩, by decide, w_2040, w_130⟩
theorem lk_12_548 : z_LV "DearLettersModel" 548 12 mX12_canGive 0 := ⟨⟨w_2042, w_171, w_2045, ⟨by decide, by decide, by decide +kernel⟩, by decide⟩, by decide, w_2044, w_131⟩
theorem lk_12_551 : z_LV "DearLettersModel" 551 12 mX12_lostBy 1 := ⟨⟨w_2050, w_171, w_2053, ⟨by decide, by decide, by decide +kernel⟩, by decide⟩, by decide, w_2052, w_132⟩
theorem lk_12_554 : z_LV "DearLettersModel" 554 12 mX12_oddsIn 0 := ⟨⟨w_2058, w_171, w_2061, ⟨by decide, by decide, by decide +kernel⟩, by decide⟩, by decide, w_2060, w_133⟩
theorem lk_12_557 : z_LV "DearLettersModel" 557 12 mX12_isNextGroups 0 := ⟨⟨w_2062, w_171, w_2065, ⟨by decide, by decide, by decide +kernel⟩, by decide⟩, by decide, w_2064, w_134⟩
theorem lk_12_560 : z_LV "DearLettersModel" 560 12 mX12_refuses 1 := ⟨⟨w_2070, w_171, w_2073, ⟨by decide, by decide, by decide +kernel⟩, by decide⟩, by decide, w_2072, w_135⟩
theorem fl_12_169 : z_FL "DearLettersModel" 169 12 66 := ⟨by decide, by decide, w_1386⟩
theorem rs_253_66 (c r : Bool) : z_Rs c r 253 66 = some 305 := by
  unfold z_Rs
  rw [if_neg (by decide), if_neg (by decide)]
  decide +kernel
theorem kd_305 : z_kw false 305 = (20, 48) := by decide +kernel
theorem lk_12_563 : z_LV "DearLettersModel" 563 12 mX12_isAsTold 1 := ⟨⟨w_2078, w_171, w_2081, ⟨by decide, by decide, by decide +kernel⟩, by decide⟩, by decide, w_2080, w_136⟩
theorem lk_12_566 : z_LV "DearLettersModel" 566 12 mX12_whose 0 := ⟨⟨w_2086, w_171, w_2077, ⟨by decide, by decide, by decide +kernel⟩, by decide⟩, by decide, w_2075, w_2076⟩
theorem lk_12_569 : z_LV "DearLettersModel" 569 12 mX12_mostAlike 2 := ⟨⟨w_2087, w_171, w_2090, ⟨by decide, by decide, by decide +kernel⟩, by decide⟩, by decide, w_2089, w_137⟩
theorem fl_12_572 : z_FL "DearLettersModel" 572 12 69 := ⟨by decide, by decide, w_1389⟩
theorem fl_12_172 : z_FL "DearLettersModel" 172 12 67 := ⟨by decide, by decide, w_1387⟩
theorem rs_253_67 (c r : Bool) : z_Rs c r 253 67 = some 306 := by
  unfold z_Rs
  rw [if_neg (by decide), if_neg (by decide)]
  decide +kernel
theorem kd_306 : z_kw false 306 = (20, 640) := by decide +kernel
theorem lk_12_575 : z_LV "DearLettersModel" 575 12 mX12_keeps 0 := ⟨⟨w_2099, w_171, w_2102, ⟨by decide, by decide, by decide +kernel⟩, by decide⟩, by decide, w_2101, w_138⟩
theorem lk_12_580 : z_LV "DearLettersModel" 580 12 mX12_isSheetNear 2 := ⟨⟨w_2108, w_171, w_2111, ⟨by decide, by decide, by decide +kernel⟩, by decide⟩, by decide, w_2110, w_139⟩
theorem fl_12_175 : z_FL "DearLettersModel" 175 12 70 := ⟨by decide, by decide, w_1390⟩
theorem lk_12_591 : z_LV "DearLettersModel" 591 12 mX12_drawOf 1 := ⟨⟨w_2128, w_171, w_2131, ⟨by decide, by decide, by decide +kernel⟩, by decide⟩, by decide, w_2130, w_140⟩
theorem fl_12_206 : z_FL "DearLettersModel" 206 12 80 := ⟨by decide, by decide, w_1400⟩
theorem rs_253_80 (c r : Bool) : z_Rs c r 253 80 = some 316 := by
  unfold z_Rs
  rw [if_neg (by decide), if_neg (by decide)]
  decide +kernel
theorem kd_316 : z_kw false 316 = (22, 3) := by decide +kernel
theorem lk_12_645 : z_LV "DearLettersModel" 645 12 mX12_qHasSquare 0 := ⟨⟨w_2160, w_171, w_2163, ⟨by decide, by decide, by decide +kernel⟩, by decide⟩, by decide, w_2162, w_146⟩
theorem lk_12_639 : z_LV "DearLettersModel" 639 12 mX12_qDropsNots 0 := ⟨⟨w_2152, w_171, w_2155, ⟨by decide, by decide, by decide +kernel⟩, by decide⟩, by decide, w_2154, w_144⟩
theorem fl_12_200 : z_FL "DearLettersModel" 200 12 78 := ⟨by decide, by decide, w_1398⟩
theorem rs_253_78 (c r : Bool) : z_Rs c r 253 78 = some 314 := by
  unfold z_Rs
  rw [if_neg (by decide), if_neg (by decide)]
  decide +kernel
theorem kd_314 : z_kw false 314 = (22, 3) := by decide +kernel
theorem fl_12_203 : z_FL "DearLettersModel" 203 12 79 := ⟨by decide, by decide, w_1399⟩
theorem rs_253_79 (c r : Bool) : z_Rs c r 253 79 = some 315 := by
  unfold z_Rs
  rw [if_neg (by decide), if_neg (by decide)]
  decide +kernel
theorem kd_315 : z_kw false 315 = (22, 2) := by decide +kernel
theorem fl_12_197 : z_FL "DearLettersModel" 197 12 77 := ⟨by decide, by decide, w_1397⟩
theorem rs_253_77 (c r : Bool) : z_Rs c r 253 77 = some 313 := by
  unfold z_Rs
  rw [if_neg (by decide), if_neg (by decide)]
  decide +kernel
theorem kd_313 : z_kw false 313 = (22, 3) := by decide +kernel
theorem lk_12_636 : z_LV "DearLettersModel" 636 12 mX12_qFact 0 := ⟨⟨w_2148, w_171, w_2151, ⟨by decide, by decide, by decide +kernel⟩, by decide⟩, by decide, w_2150, w_143⟩
theorem lk_12_642 : z_LV "DearLettersModel" 642 12 mX12_qGoesOnTest 0 := ⟨⟨w_2156, w_171, w_2159, ⟨by decide, by decide, by decide +kernel⟩, by decide⟩, by decide, w_2158, w_145⟩
theorem lk_12_660 : z_LV "DearLettersModel" 660 12 mX12_qOf 3 := ⟨⟨w_2169, w_171, w_2172, ⟨by decide, by decide, by decide +kernel⟩, by decide⟩, by decide, w_2171, w_148⟩
theorem fl_12_179 : z_FL "DearLettersModel" 179 12 71 := ⟨by decide, by decide, w_1391⟩
theorem rs_253_71 (c r : Bool) : z_Rs c r 253 71 = some 307 := by
  unfold z_Rs
  rw [if_neg (by decide), if_neg (by decide)]
  decide +kernel
theorem kd_307 : z_kw false 307 = (22, 5) := by decide +kernel
theorem fl_12_182 : z_FL "DearLettersModel" 182 12 72 := ⟨by decide, by decide, w_1392⟩
theorem rs_253_72 (c r : Bool) : z_Rs c r 253 72 = some 308 := by
  unfold z_Rs
  rw [if_neg (by decide), if_neg (by decide)]
  decide +kernel
theorem kd_308 : z_kw false 308 = (22, 4) := by decide +kernel
theorem fl_12_185 : z_FL "DearLettersModel" 185 12 73 := ⟨by decide, by decide, w_1393⟩
theorem rs_253_73 (c r : Bool) : z_Rs c r 253 73 = some 309 := by
  unfold z_Rs
  rw [if_neg (by decide), if_neg (by decide)]
  decide +kernel
theorem kd_309 : z_kw false 309 = (22, 5) := by decide +kernel
theorem fl_12_188 : z_FL "DearLettersModel" 188 12 74 := ⟨by decide, by decide, w_1394⟩
theorem rs_253_74 (c r : Bool) : z_Rs c r 253 74 = some 310 := by
  unfold z_Rs
  rw [if_neg (by decide), if_neg (by decide)]
  decide +kernel
theorem kd_310 : z_kw false 310 = (22, 5) := by decide +kernel
theorem fl_12_191 : z_FL "DearLettersModel" 191 12 75 := ⟨by decide, by decide, w_1395⟩
theorem rs_253_75 (c r : Bool) : z_Rs c r 253 75 = some 311 := by
  unfold z_Rs
  rw [if_neg (by decide), if_neg (by decide)]
  decide +kernel
theorem kd_311 : z_kw false 311 = (22, 4) := by decide +kernel
theorem fl_12_194 : z_FL "DearLettersModel" 194 12 76 := ⟨by decide, by decide, w_1396⟩
theorem rs_253_76 (c r : Bool) : z_Rs c r 253 76 = some 312 := by
  unfold z_Rs
  rw [if_neg (by decide), if_neg (by decide)]
  decide +kernel
theorem kd_312 : z_kw false 312 = (22, 5) := by decide +kernel
theorem fl_12_664 : z_FL "DearLettersModel" 664 12 102 := ⟨by decide, by decide, w_1422⟩
theorem fl_12_669 : z_FL "DearLettersModel" 669 12 103 := ⟨by decide, by decide, w_1423⟩
theorem lk_12_672 : z_LV "DearLettersModel" 672 12 mX12_qKind 0 := ⟨⟨w_2140, w_171, w_2143, ⟨by decide, by decide, by decide +kernel⟩, by decide⟩, by decide, w_2142, w_141⟩
theorem lk_12_675 : z_LV "DearLettersModel" 675 12 mX12_qTest 0 := ⟨⟨w_2144, w_171, w_2147, ⟨by decide, by decide, by decide +kernel⟩, by decide⟩, by decide, w_2146, w_142⟩
theorem lk_12_678 : z_LV "DearLettersModel" 678 12 mX12_qTold 1 := ⟨⟨w_2165, w_171, w_2168, ⟨by decide, by decide, by decide +kernel⟩, by decide⟩, by decide, w_2167, w_147⟩
theorem lk_12_682 : z_LV "DearLettersModel" 682 12 mX12_qTakes 3 := ⟨⟨w_2173, w_171, w_2176, ⟨by decide, by decide, by decide +kernel⟩, by decide⟩, by decide, w_2175, w_149⟩
theorem fl_12_257 : z_FL "DearLettersModel" 257 12 104 := ⟨by decide, by decide, w_1424⟩
theorem rs_253_104 (c r : Bool) : z_Rs c r 253 104 = some 333 := by
  unfold z_Rs
  rw [if_neg (by decide), if_neg (by decide)]
  decide +kernel
theorem kd_333 : z_kw false 333 = (20, 34) := by decide +kernel
theorem fl_12_686 : z_FL "DearLettersModel" 686 12 105 := ⟨by decide, by decide, w_1425⟩
theorem lk_12_689 : z_LV "DearLettersModel" 689 12 mX12_writes 1 := ⟨⟨w_2181, w_171, w_2184, ⟨by decide, by decide, by decide +kernel⟩, by decide⟩, by decide, w_2183, w_150⟩
theorem lk_12_692 : z_LS "DearLettersModel" 692 mX12_checked 2 := ⟨⟨w_2185, w_171, w_2187, ⟨by decide, by decide, by decide +kernel⟩, by decide⟩, w_2186⟩
theorem lk_12_696 : z_LV "DearLettersModel" 696 12 mX12_areLettersTold 1 := ⟨⟨w_2200, w_171, w_2203, ⟨by decide, by decide, by decide +kernel⟩, by decide⟩, by decide, w_2202, w_152⟩
theorem lk_12_699 : z_LV "DearLettersModel" 699 12 mX12_isImage 1 := ⟨⟨w_2196, w_171, w_2199, ⟨by decide, by decide, by decide +kernel⟩, by decide⟩, by decide, w_2198, w_151⟩
