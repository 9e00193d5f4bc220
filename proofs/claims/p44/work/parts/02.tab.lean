/-- a method: its name, its bytes, its locals, what it returns, the number of its class -/
abbrev mMd : Type := MethodName × ByteArray × Nat × Option FieldType × Nat
def mjCls : List String := [RX0, RX1, RX2, RX3, RX4, RX5, RX6, RX7, RX8, RX9, RX10, RX11, RX12, RL, RJ6, RJ9, RJ0, RJ1, RJ3]
def mjM_1 : List mMd := [(yX0_init, cX0_init, 1, none, 0), (yX0_open, cX0_open, 5, (some .int), 0), (yX0_isOffice, cX0_isOffice, 2, (some .boolean), 0), (yX0_hasYear, cX0_hasYear, 3, (some .boolean), 0), (yX0_refusalOfYear, cX0_refusalOfYear, 3, (some .int), 0), (yX0_write, cX0_write, 5, (some .int), 0), (yX0_yearRead, cX0_yearRead, 4, (some .int), 0), (yX0_readAt, cX0_readAt, 5, (some .int), 0), (yX0_reaches, cX0_reaches, 4, (some .boolean), 0), (yX0_carryOver, cX0_carryOver, 7, (some .int), 0), (yX0_spanOf, cX0_spanOf, 9, (some .int), 0), (yX1_init, cX1_init, 1, none, 1), (yX1_become, cX1_become, 2, none, 1), (yX1_hourNow, cX1_hourNow, 1, (some .int), 1), (yX1_setStopped, cX1_setStopped, 3, (some .int), 1), (yX1_goOn, cX1_goOn, 3, (some .int), 1), (yX1_hasRead, cX1_hasRead, 3, (some .boolean), 1), (yX1_voiceOf, cX1_voiceOf, 4, (some .int), 1), (yX1_poll, cX1_poll, 4, none, 1), (yX1_countVoters, cX1_countVoters, 3, none, 1), (yX1_polledPasses, cX1_polledPasses, 3, (some .boolean), 1), (yX1_mayBePut, cX1_mayBePut, 3, (some .boolean), 1), (yX1_voteFact, cX1_voteFact, 4, (some .int), 1), (yX1_putToVote, cX1_putToVote, 4, (some .int), 1), (yX1_letRulingWork, cX1_letRulingWork, 2, (some .int), 1), (yX1_worthInOrder, cX1_worthInOrder, 4, (some .int), 1), (yX1_layRow, cX1_layRow, 4, (some .int), 1), (yX1_placeInRow, cX1_placeInRow, 5, none, 1), (yX1_inRow, cX1_inRow, 2, (some .int), 1), (yX1_bindWorth, cX1_bindWorth, 4, (some .int), 1), (yX1_bindingSum, cX1_bindingSum, 8, (some .int), 1), (yX1_lineFact, cX1_lineFact, 3, (some .int), 1), (yX1_addIncome, cX1_addIncome, 3, (some .int), 1), (yX1_incomeAt, cX1_incomeAt, 4, (some .int), 1), (yX1_balanceFact, cX1_balanceFact, 2, (some .int), 1), (yX1_breakInRow, cX1_breakInRow, 7, (some .int), 1), (yX1_tellNight, cX1_tellNight, 6, (some .int), 1), (yX1_countOf, cX1_countOf, 2, (some .int), 1), (yX2_init, cX2_init, 1, none, 2), (yX2_become, cX2_become, 2, none, 2), (yX2_has, cX2_has, 2, (some .boolean), 2), (yX2_add, cX2_add, 3, (some .int), 2), (yX2_factOf, cX2_factOf, 4, (some .int), 2), (yX2_partyOf, cX2_partyOf, 2, (some .int), 2), (yX2_tonguesOf, cX2_tonguesOf, 2, (some .int), 2), (yX2_isIn, cX2_isIn, 2, (some .boolean), 2), (yX2_isPresent, cX2_isPresent, 3, (some .boolean), 2), (yX2_countVote, cX2_countVote, 2, none, 2), (yX2_setTrain, cX2_setTrain, 5, (some .int), 2), (yX2_setIn, cX2_setIn, 4, (some .int), 2), (yX2_leaves, cX2_leaves, 4, (some .boolean), 2), (yX2_leaveBetween, cX2_leaveBetween, 4, none, 2), (yX2_stillIn, cX2_stillIn, 5, (some .int), 2), (yX2_inOfParty, cX2_inOfParty, 4, (some .int), 2), (yX2_holds, cX2_holds, 3, (some .boolean), 2), (yX2_pairOf, cX2_pairOf, 4, (some .int), 2), (yX2_addPair, cX2_addPair, 5, (some .int), 2), (yX2_breakPair, cX2_breakPair, 3, (some .int), 2), (yX2_pairsThatHold, cX2_pairsThatHold, 4, (some .int), 2), (yX3_init, cX3_init, 1, none, 3)]
def mjM_2 : List mMd := [(yX3_become, cX3_become, 2, none, 3), (yX3_add, cX3_add, 5, (some .int), 3), (yX3_sumOf, cX3_sumOf, 5, (some .int), 3), (yX3_agrees, cX3_agrees, 3, (some .boolean), 3), (yX3_searchNight, cX3_searchNight, 5, (some .int), 3), (yX3_takeIfLess, cX3_takeIfLess, 5, none, 3), (yX3_nightFact, cX3_nightFact, 5, (some .int), 3), (yX3_nightRows, cX3_nightRows, 8, (some .int), 3), (yX4_init, cX4_init, 1, none, 4), (yX4_become, cX4_become, 2, none, 4), (yX4_has, cX4_has, 2, (some .boolean), 4), (yX4_kindOf, cX4_kindOf, 2, (some .int), 4), (yX4_aOf, cX4_aOf, 2, (some .int), 4), (yX4_bOf, cX4_bOf, 2, (some .int), 4), (yX4_stateOf, cX4_stateOf, 2, (some .int), 4), (yX4_cameOf, cX4_cameOf, 2, (some .int), 4), (yX4_stanceOf, cX4_stanceOf, 3, (some .int), 4), (yX4_isLine, cX4_isLine, 2, (some .boolean), 4), (yX4_isChange, cX4_isChange, 2, (some .boolean), 4), (yX4_isOpenOn, cX4_isOpenOn, 4, (some .boolean), 4), (yX4_isOpenChangeTo, cX4_isOpenChangeTo, 3, (some .boolean), 4), (yX4_isRiderOn, cX4_isRiderOn, 3, (some .boolean), 4), (yX4_costs, cX4_costs, 2, (some .boolean), 4), (yX4_suits, cX4_suits, 4, (some .boolean), 4), (yX4_add, cX4_add, 4, (some .int), 4), (yX4_addHung, cX4_addHung, 5, (some .int), 4), (yX4_addAny, cX4_addAny, 8, (some .int), 4), (yX4_factOf, cX4_factOf, 3, (some .int), 4), (yX4_seenAs, cX4_seenAs, 3, (some .int), 4), (yX4_isUnder, cX4_isUnder, 3, (some .boolean), 4), (yX4_setStance, cX4_setStance, 6, (some .int), 4), (yX4_comeIn, cX4_comeIn, 3, none, 4), (yX4_isBound, cX4_isBound, 4, (some .boolean), 4), (yX4_isReady, cX4_isReady, 2, (some .boolean), 4), (yX4_comesWith, cX4_comesWith, 2, (some .boolean), 4), (yX4_setVote, cX4_setVote, 5, none, 4), (yX4_decide, cX4_decide, 3, none, 4), (yX4_decideWith, cX4_decideWith, 4, none, 4), (yX4_addMore, cX4_addMore, 3, none, 4), (yX4_letFall, cX4_letFall, 4, (some .int), 4), (yX4_fallsNow, cX4_fallsNow, 4, (some .boolean), 4), (yX4_settleDeals, cX4_settleDeals, 2, none, 4), (yX4_letRulingWork, cX4_letRulingWork, 4, (some .int), 4), (yX4_voidAllOn, cX4_voidAllOn, 5, (some .int), 4), (yX4_mendLine, cX4_mendLine, 2, (some .int), 4), (yX4_refusalOfChange, cX4_refusalOfChange, 2, (some .int), 4), (yX4_fallingWith, cX4_fallingWith, 3, (some .int), 4), (yX4_neverOf, cX4_neverOf, 3, (some .int), 4), (yX4_isNever, cX4_isNever, 4, (some .boolean), 4), (yX4_unlikeTongues, cX4_unlikeTongues, 4, (some .int), 4), (yX4_openChanges, cX4_openChanges, 4, (some .int), 4), (yX4_ridersOn, cX4_ridersOn, 4, (some .int), 4), (yX4_sumOf, cX4_sumOf, 6, (some .int), 4), (yX4_inState, cX4_inState, 4, (some .int), 4), (yX5_init, cX5_init, 1, none, 5), (yX5_faultOf, cX5_faultOf, 7, (some .int), 5), (yX5_startAnew, cX5_startAnew, 1, none, 5), (yX5_keyOf, cX5_keyOf, 4, (some .int), 5), (yX5_namesOf, cX5_namesOf, 2, (some (.object "java/lang/String")), 5), (yX5_takePart, cX5_takePart, 6, (some .int), 5)]
def mjM_3 : List mMd := [(yX5_numberAt, cX5_numberAt, 6, (some .int), 5), (yX5_nameAt, cX5_nameAt, 6, (some .int), 5), (yX5_takeSign, cX5_takeSign, 5, (some .int), 5), (yX5_rankOf, cX5_rankOf, 2, (some .int), 5), (yX5_closeBracket, cX5_closeBracket, 1, (some .boolean), 5), (yX5_endPart, cX5_endPart, 1, none, 5), (yX5_layDownFrom, cX5_layDownFrom, 2, none, 5), (yX5_layDown, cX5_layDown, 2, none, 5), (yX5_waitWith, cX5_waitWith, 2, none, 5), (yX5_lastWaiting, cX5_lastWaiting, 1, (some .int), 5), (yX6_init, cX6_init, 1, none, 6), (yX6_become, cX6_become, 2, none, 6), (yX6_add, cX6_add, 6, (some .int), 6), (yX6_comeTill, cX6_comeTill, 5, none, 6), (yX6_onWayBehind, cX6_onWayBehind, 4, (some .int), 6), (yX7_init, cX7_init, 1, none, 7), (yX7_become, cX7_become, 2, none, 7), (yX7_add, cX7_add, 1, (some .int), 7), (yX7_isTongue, cX7_isTongue, 2, (some .boolean), 7), (yX7_bitOf, cX7_bitOf, 4, (some .int), 7), (yX7_addTwo, cX7_addTwo, 4, (some .int), 7), (yX7_setSpeech, cX7_setSpeech, 4, (some .int), 7), (yX7_mostHeard, cX7_mostHeard, 2, (some .int), 7), (yX7_interpreterIn, cX7_interpreterIn, 7, (some .int), 7), (yX7_weigh, cX7_weigh, 4, none, 7), (yX7_place, cX7_place, 5, (some .int), 7), (yX7_mostFrom, cX7_mostFrom, 4, (some .int), 7), (yX7_bestFrom, cX7_bestFrom, 6, (some .int), 7), (yX7_firstBest, cX7_firstBest, 5, (some .int), 7), (yX7_canTake, cX7_canTake, 4, (some .boolean), 7), (yX7_heardWith, cX7_heardWith, 5, (some .int), 7), (yX7_heardIn, cX7_heardIn, 3, (some .int), 7), (yX8_init, cX8_init, 1, none, 8), (yX8_take, cX8_take, 4, (some .int), 8), (yX8_takeFour, cX8_takeFour, 3, none, 8), (yX8_cutTo, cX8_cutTo, 2, (some .int), 8), (yX8_useUp, cX8_useUp, 1, none, 8), (yX8_byteAt, cX8_byteAt, 2, (some .int), 8), (yX8_isDigit, cX8_isDigit, 2, (some .boolean), 8), (yX8_isLetter, cX8_isLetter, 2, (some .boolean), 8), (yX8_behindBlanks, cX8_behindBlanks, 3, (some .int), 8), (yX8_behindWord, cX8_behindWord, 3, (some .int), 8), (yX8_isWord, cX8_isWord, 5, (some .boolean), 8), (yX9_init, cX9_init, 1, none, 9), (yX9_become, cX9_become, 2, none, 9), (yX9_add, cX9_add, 4, (some .int), 9), (yX9_factOf, cX9_factOf, 3, (some .int), 9), (yX9_counting, cX9_counting, 6, (some .int), 9), (yX9_worthOf, cX9_worthOf, 7, (some .int), 9), (yX9_workOut, cX9_workOut, 3, none, 9), (yX9_push, cX9_push, 2, none, 9), (yX9_popped, cX9_popped, 1, (some .int), 9), (yX9_worthOfSign, cX9_worthOfSign, 4, (some .int), 9), (yX10_init, cX10_init, 1, none, 10), (yX10_become, cX10_become, 2, none, 10), (yX10_setWish, cX10_setWish, 4, (some .int), 10), (yX10_leastThatCarries, cX10_leastThatCarries, 6, (some .int), 10), (yX10_takeLines, cX10_takeLines, 3, none, 10), (yX10_searchSets, cX10_searchSets, 5, none, 10), (yX10_isLess, cX10_isLess, 3, (some .boolean), 10)]
def mjM_4 : List mMd := [(yX10_sumOf, cX10_sumOf, 4, (some .int), 10), (yX10_voicesFor, cX10_voicesFor, 6, (some .int), 10), (yX11_init, cX11_init, 1, none, 11), (yX11_member, cX11_member, 3, (some .int), 11), (yX11_is, cX11_is, 3, (some .int), 11), (yX11_train, cX11_train, 3, (some .int), 11), (yX11_go, cX11_go, 3, (some .int), 11), (yX11_pair, cX11_pair, 4, (some .int), 11), (yX11_breaks, cX11_breaks, 2, (some .int), 11), (yX11_clock, cX11_clock, 2, (some .int), 11), (yX11_run, cX11_run, 2, (some .int), 11), (yX11_paper, cX11_paper, 4, (some .int), 11), (yX11_hung, cX11_hung, 5, (some .int), 11), (yX11_told, cX11_told, 3, (some .int), 11), (yX11_as, cX11_as, 3, (some .int), 11), (yX11_stance, cX11_stance, 4, (some .int), 11), (yX11_print, cX11_print, 4, (some .int), 11), (yX11_read, cX11_read, 3, (some .int), 11), (yX11_would, cX11_would, 3, (some .int), 11), (yX11_put, cX11_put, 2, (some .int), 11), (yX11_rule, cX11_rule, 2, (some .int), 11), (yX11_mend, cX11_mend, 2, (some .int), 11), (yX11_falls, cX11_falls, 2, (some .int), 11), (yX11_never, cX11_never, 2, (some .int), 11), (yX11_row, cX11_row, 2, (some .int), 11), (yX11_line, cX11_line, 3, (some .int), 11), (yX11_feed, cX11_feed, 4, (some .int), 11), (yX11_trim, cX11_trim, 2, (some .int), 11), (yX11_text, cX11_text, 3, (some .int), 11), (yX11_of, cX11_of, 3, (some .int), 11), (yX11_why, cX11_why, 2, (some .int), 11), (yX11_income, cX11_income, 3, (some .int), 11), (yX11_balance, cX11_balance, 2, (some .int), 11), (yX11_first, cX11_first, 1, (some .int), 11), (yX11_book, cX11_book, 4, (some .int), 11), (yX11_note, cX11_note, 4, (some .int), 11), (yX11_looks, cX11_looks, 3, (some .int), 11), (yX11_copy, cX11_copy, 6, (some .int), 11), (yX11_span, cX11_span, 3, (some .int), 11), (yX11_wish, cX11_wish, 3, (some .int), 11), (yX11_carry, cX11_carry, 3, (some .int), 11), (yX11_interpreter, cX11_interpreter, 1, (some .int), 11), (yX11_speaks, cX11_speaks, 4, (some .int), 11), (yX11_speech, cX11_speech, 4, (some .int), 11), (yX11_heard, cX11_heard, 2, (some .int), 11), (yX11_shift, cX11_shift, 3, (some .int), 11), (yX11_offer, cX11_offer, 5, (some .int), 11), (yX11_night, cX11_night, 4, (some .int), 11), (yX11_tell, cX11_tell, 2, (some .int), 11), (yX11_check, cX11_check, 6, (some .int), 11), (yX11_keep, cX11_keep, 1, (some .int), 11), (yX11_back, cX11_back, 1, (some .int), 11), (yX11_count, cX11_count, 2, (some .int), 11), (yX11_firstUnlike, cX11_firstUnlike, 5, (some .int), 11), (yX11_within, cX11_within, 3, (some .boolean), 11), (yX11_isTwo, cX11_isTwo, 3, (some .boolean), 11), (yX11_heldSum, cX11_heldSum, 1, (some .int), 11), (yX11_copyRow, cX11_copyRow, 4, none, 11), (yX12_init, cX12_init, 2, none, 12), (yX12_isIn, cX12_isIn, 6, (some .boolean), 12)]
def mjM_5 : List mMd := [(yX12_orNone, cX12_orNone, 1, (some .int), 12), (yX12_held, cX12_held, 1, (some .int), 12), (yX12_ones, cX12_ones, 3, (some .int), 12), (yX12_becomes, cX12_becomes, 4, (some .int), 12), (yX12_memberAt, cX12_memberAt, 2, (some .int), 12), (yX12_pairAt, cX12_pairAt, 2, (some .int), 12), (yX12_paperAt, cX12_paperAt, 2, (some .int), 12), (yX12_textAt, cX12_textAt, 2, (some .int), 12), (yX12_isMember, cX12_isMember, 2, (some .boolean), 12), (yX12_isPaper, cX12_isPaper, 2, (some .boolean), 12), (yX12_isText, cX12_isText, 2, (some .boolean), 12), (yX12_isParty, cX12_isParty, 1, (some .boolean), 12), (yX12_isTongue, cX12_isTongue, 1, (some .boolean), 12), (yX12_kindOf, cX12_kindOf, 2, (some .int), 12), (yX12_state, cX12_state, 2, (some .int), 12), (yX12_isLine, cX12_isLine, 2, (some .boolean), 12), (yX12_isChange, cX12_isChange, 2, (some .boolean), 12), (yX12_member, cX12_member, 4, (some .int), 12), (yX12_holds, cX12_holds, 3, (some .boolean), 12), (yX12_pairOf, cX12_pairOf, 5, (some .int), 12), (yX12_is, cX12_is, 4, (some .int), 12), (yX12_train, cX12_train, 3, (some .int), 12), (yX12_go, cX12_go, 3, (some .int), 12), (yX12_pair, cX12_pair, 5, (some .int), 12), (yX12_breaks, cX12_breaks, 2, (some .int), 12), (yX12_clock, cX12_clock, 2, (some .int), 12), (yX12_arrive, cX12_arrive, 5, none, 12), (yX12_minute, cX12_minute, 3, none, 12), (yX12_run, cX12_run, 3, (some .int), 12), (yX12_fits, cX12_fits, 4, (some .boolean), 12), (yX12_newPaper, cX12_newPaper, 8, (some .int), 12), (yX12_paper, cX12_paper, 4, (some .int), 12), (yX12_hung, cX12_hung, 5, (some .int), 12), (yX12_told, cX12_told, 4, (some .int), 12), (yX12_as, cX12_as, 5, (some .int), 12), (yX12_stance, cX12_stance, 4, (some .int), 12), (yX12_print, cX12_print, 5, (some .int), 12), (yX12_hasRead, cX12_hasRead, 3, (some .boolean), 12), (yX12_read, cX12_read, 3, (some .int), 12), (yX12_isBound, cX12_isBound, 6, (some .boolean), 12), (yX12_says, cX12_says, 5, (some .int), 12), (yX12_votes, cX12_votes, 5, (some .boolean), 12), (yX12_would, cX12_would, 4, (some .int), 12), (yX12_doesFall, cX12_doesFall, 4, (some .boolean), 12), (yX12_letFall, cX12_letFall, 3, (some .int), 12), (yX12_settleDeals, cX12_settleDeals, 3, none, 12), (yX12_mayPut, cX12_mayPut, 4, (some .boolean), 12), (yX12_withLine, cX12_withLine, 5, none, 12), (yX12_put, cX12_put, 5, (some .int), 12), (yX12_rule, cX12_rule, 7, (some .int), 12), (yX12_mend, cX12_mend, 2, (some .int), 12), (yX12_noChange, cX12_noChange, 2, (some .int), 12), (yX12_falls, cX12_falls, 5, (some .int), 12), (yX12_isNever, cX12_isNever, 4, (some .boolean), 12), (yX12_never, cX12_never, 3, (some .int), 12), (yX12_worthOf, cX12_worthOf, 5, (some .int), 12), (yX12_findRow, cX12_findRow, 6, (some .int), 12), (yX12_row, cX12_row, 2, (some .int), 12), (yX12_bind, cX12_bind, 4, (some .int), 12), (yX12_bindingSum, cX12_bindingSum, 7, (some .int), 12)]
def mjM_6 : List mMd := [(yX12_line, cX12_line, 8, (some .int), 12), (yX12_feed, cX12_feed, 6, (some .int), 12), (yX12_trim, cX12_trim, 2, (some .int), 12), (yX12_isLetter, cX12_isLetter, 2, (some .boolean), 12), (yX12_isDigit, cX12_isDigit, 2, (some .boolean), 12), (yX12_next, cX12_next, 3, none, 12), (yX12_isSign, cX12_isSign, 2, (some .boolean), 12), (yX12_isWordAt, cX12_isWordAt, 6, (some .boolean), 12), (yX12_isFive, cX12_isFive, 6, (some .boolean), 12), (yX12_key, cX12_key, 2, (some .int), 12), (yX12_isName, cX12_isName, 2, (some .boolean), 12), (yX12_step, cX12_step, 3, none, 12), (yX12_either, cX12_either, 2, (some .boolean), 12), (yX12_both, cX12_both, 2, (some .boolean), 12), (yX12_test, cX12_test, 3, (some .boolean), 12), (yX12_sum, cX12_sum, 3, (some .boolean), 12), (yX12_term, cX12_term, 3, (some .boolean), 12), (yX12_part0, cX12_part0, 2, (some .boolean), 12), (yX12_parse, cX12_parse, 3, (some .int), 12), (yX12_text, cX12_text, 5, (some .int), 12), (yX12_of, cX12_of, 3, (some .int), 12), (yX12_counts, cX12_counts, 5, (some .int), 12), (yX12_why, cX12_why, 2, (some .int), 12), (yX12_joined, cX12_joined, 3, (some .int), 12), (yX12_worked, cX12_worked, 6, (some .int), 12), (yX12_income, cX12_income, 3, (some .int), 12), (yX12_isGiven, cX12_isGiven, 2, (some .boolean), 12), (yX12_incomes, cX12_incomes, 4, (some .int), 12), (yX12_balance, cX12_balance, 6, (some .int), 12), (yX12_first, cX12_first, 6, (some .int), 12), (yX12_isOffice, cX12_isOffice, 1, (some .boolean), 12), (yX12_book, cX12_book, 5, (some .int), 12), (yX12_note, cX12_note, 4, (some .int), 12), (yX12_readBy, cX12_readBy, 4, (some .int), 12), (yX12_looks, cX12_looks, 4, (some .int), 12), (yX12_copy, cX12_copy, 7, (some .int), 12), (yX12_span, cX12_span, 10, (some .int), 12), (yX12_wish, cX12_wish, 3, (some .int), 12), (yX12_findLines, cX12_findLines, 3, (some .int), 12), (yX12_membersFor, cX12_membersFor, 6, (some .int), 12), (yX12_carry, cX12_carry, 9, (some .int), 12), (yX12_interpreter, cX12_interpreter, 2, (some .int), 12), (yX12_speaks, cX12_speaks, 7, (some .int), 12), (yX12_speech, cX12_speech, 5, (some .int), 12), (yX12_hears, cX12_hears, 4, (some .int), 12), (yX12_heardBy, cX12_heardBy, 6, (some .int), 12), (yX12_findShift, cX12_findShift, 7, (some .int), 12), (yX12_heard, cX12_heard, 2, (some .int), 12), (yX12_shift, cX12_shift, 8, (some .int), 12), (yX12_offer, cX12_offer, 6, (some .int), 12), (yX12_sumOf, cX12_sumOf, 5, (some .int), 12), (yX12_goesTogether, cX12_goesTogether, 4, (some .boolean), 12), (yX12_findNight, cX12_findNight, 6, (some .int), 12), (yX12_isNight, cX12_isNight, 2, (some .boolean), 12), (yX12_night, cX12_night, 5, (some .int), 12), (yX12_tell, cX12_tell, 2, (some .int), 12), (yX12_setAside, cX12_setAside, 4, none, 12), (yX12_dueIs, cX12_dueIs, 3, none, 12), (yX12_rowsOfNight, cX12_rowsOfNight, 6, (some .int), 12), (yX12_present, cX12_present, 3, (some .int), 12)]
def mjM_7 : List mMd := [(yX12_rowsTold, cX12_rowsTold, 4, (some .int), 12), (yX12_check, cX12_check, 7, (some .int), 12), (yX12_keep, cX12_keep, 1, (some .int), 12), (yX12_back, cX12_back, 1, (some .int), 12), (yX12_count, cX12_count, 4, (some .int), 12), (yL_law, cL_law, 4, (some .boolean), 13), (yJ6_compare_7cf53, cJ6_compare_7cf53, 2, (some .int), 14), (yJ6_bitCount_0f7a4, cJ6_bitCount_0f7a4, 1, (some .int), 14)]
def mjMs : List (List mMd) := [mjM_1, mjM_2, mjM_3, mjM_4, mjM_5, mjM_6, mjM_7]
def mjM (y : Nat) : Option mMd := match mjMs[y / 60]? with
  | none => none
  | some l => l[y % 60]?
abbrev mRe : Type := Nat × Nat × Nat × Nat × Int
def mjR_0 : List mRe := [(0, 3, 6, 0, 0), (0, 11, 0, 0, 0), (0, 15, 0, 0, 1), (0, 18, 0, 0, 2), (0, 21, 0, 0, 3), (0, 24, 1, 2, 0), (0, 28, 3, 234, 0), (0, 32, 7, 0, -1000000001), (0, 33, 7, 0, -1000000014), (0, 34, 7, 0, -1000000011), (0, 35, 1, 3, 0), (0, 39, 7, 0, -1000000013), (0, 40, 1, 4, 0), (0, 44, 7, 0, -1000000005), (0, 45, 7, 0, -1000000012), (0, 46, 7, 0, -100000), (0, 47, 7, 0, 100000), (0, 48, 1, 6, 0), (0, 51, 1, 8, 0), (0, 54, 14, 0, 0), (0, 59, 13, 0, 0)]
def mjR_1 : List mRe := [(1, 3, 6, 0, 0), (1, 9, 10, 2, 0), (1, 11, 5, 38, 0), (1, 12, 0, 1, 3), (1, 18, 10, 4, 0), (1, 20, 5, 68, 0), (1, 21, 0, 1, 4), (1, 25, 10, 6, 0), (1, 27, 5, 130, 0), (1, 28, 0, 1, 5), (1, 32, 10, 9, 0), (1, 34, 5, 163, 0), (1, 35, 0, 1, 6), (1, 39, 10, 10, 0), (1, 41, 5, 173, 0), (1, 42, 0, 1, 7), (1, 46, 10, 7, 0), (1, 48, 5, 135, 0), (1, 49, 0, 1, 8), (1, 53, 10, 3, 0), (1, 55, 5, 59, 0), (1, 56, 0, 1, 9), (1, 60, 0, 1, 11), (1, 64, 0, 1, 12), (1, 67, 0, 1, 16), (1, 70, 0, 1, 17), (1, 73, 0, 1, 18), (1, 76, 0, 1, 0), (1, 80, 0, 1, 1), (1, 83, 0, 1, 2), (1, 87, 1, 39, 0), (1, 91, 1, 69, 0), (1, 94, 1, 131, 0), (1, 97, 1, 164, 0), (1, 100, 1, 174, 0), (1, 103, 1, 136, 0), (1, 106, 1, 60, 0), (1, 109, 0, 1, 10), (1, 112, 3, 237, 0), (1, 116, 3, 234, 0), (1, 120, 7, 0, -1000000001), (1, 121, 7, 0, -1000000003), (1, 122, 1, 133, 0), (1, 126, 1, 51, 0), (1, 130, 1, 44, 0), (1, 134, 1, 75, 0), (1, 137, 1, 43, 0), (1, 140, 1, 92, 0), (1, 144, 1, 16, 0), (1, 147, 1, 76, 0), (1, 151, 2, 366, 0), (1, 156, 0, 1, 13), (1, 159, 0, 1, 14), (1, 162, 0, 1, 15), (1, 165, 0, 2, 0), (1, 168, 1, 46, 0), (1, 171, 1, 17, 0), (1, 174, 1, 47, 0), (1, 178, 1, 13, 0), (1, 182, 1, 167, 0), (1, 185, 7, 0, -1000000005), (1, 186, 1, 168, 0), (1, 190, 1, 70, 0), (1, 194, 1, 71, 0), (1, 197, 7, 0, -1000000012), (1, 198, 1, 18, 0), (1, 201, 1, 20, 0), (1, 204, 1, 93, 0), (1, 207, 1, 21, 0), (1, 210, 7, 0, -1000000002), (1, 211, 1, 19, 0), (1, 214, 1, 95, 0), (1, 218, 1, 96, 0), (1, 222, 1, 102, 0), (1, 225, 1, 72, 0), (1, 228, 1, 73, 0), (1, 231, 0, 4, 0), (1, 232, 1, 78, 0), (1, 235, 1, 74, 0), (1, 238, 1, 25, 0), (1, 241, 1, 27, 0), (1, 245, 1, 26, 0), (1, 248, 1, 29, 0), (1, 252, 1, 79, 0), (1, 255, 1, 77, 0), (1, 258, 1, 30, 0), (1, 261, 1, 109, 0), (1, 264, 1, 110, 0), (1, 267, 1, 111, 0), (1, 270, 1, 33, 0), (1, 274, 1, 112, 0), (1, 277, 0, 4, 3), (1, 280, 3, 236, 0), (1, 283, 1, 82, 0), (1, 286, 1, 52, 0), (1, 289, 1, 134, 0), (1, 292, 1, 58, 0), (1, 295, 1, 113, 0), (1, 298, 0, 9, 0), (1, 299, 0, 6, 0), (1, 300, 0, 7, 0), (1, 301, 0, 3, 0)]
def mjR_2 : List mRe := [(2, 3, 6, 0, 0), (2, 9, 0, 2, 1), (2, 15, 0, 2, 2), (2, 18, 0, 2, 3), (2, 21, 0, 2, 4), (2, 24, 0, 2, 5), (2, 27, 0, 2, 7), (2, 30, 0, 2, 8), (2, 33, 0, 2, 9), (2, 36, 0, 2, 0), (2, 40, 3, 237, 0), (2, 44, 0, 2, 6), (2, 47, 3, 234, 0), (2, 51, 7, 0, -1000000001), (2, 52, 7, 0, -1000000003), (2, 53, 7, 0, -1000000005), (2, 54, 1, 40, 0), (2, 58, 1, 55, 0), (2, 62, 1, 45, 0), (2, 65, 1, 50, 0), (2, 68, 1, 43, 0), (2, 72, 1, 54, 0), (2, 76, 7, 0, -1000000002)]
def mjR_3 : List mRe := [(3, 3, 6, 0, 0), (3, 9, 0, 3, 1), (3, 15, 0, 3, 2), (3, 18, 0, 3, 3), (3, 21, 0, 3, 4), (3, 24, 0, 3, 0), (3, 28, 3, 237, 0), (3, 32, 3, 234, 0), (3, 36, 7, 0, -1000000001), (3, 37, 7, 0, -1000000003), (3, 38, 7, 0, -1000000005), (3, 39, 0, 3, 5), (3, 42, 1, 62, 0), (3, 46, 1, 63, 0), (3, 50, 1, 65, 0), (3, 54, 0, 3, 6), (3, 57, 0, 3, 7), (3, 60, 1, 64, 0)]
def mjR_4 : List mRe := [(4, 3, 6, 0, 0), (4, 9, 0, 4, 1), (4, 15, 0, 4, 2), (4, 18, 0, 4, 3), (4, 21, 0, 4, 4), (4, 24, 0, 4, 5), (4, 27, 0, 4, 6), (4, 30, 0, 4, 7), (4, 33, 0, 4, 8), (4, 36, 0, 4, 9), (4, 39, 0, 4, 10), (4, 42, 0, 4, 11), (4, 45, 0, 4, 12), (4, 48, 0, 4, 0), (4, 52, 3, 237, 0), (4, 56, 1, 70, 0), (4, 60, 7, 0, -1000000005), (4, 61, 3, 234, 0), (4, 65, 1, 71, 0), (4, 69, 1, 74, 0), (4, 72, 1, 72, 0), (4, 75, 1, 78, 0), (4, 78, 1, 77, 0), (4, 81, 3, 235, 0), (4, 84, 7, 0, 69999), (4, 85, 1, 83, 0), (4, 88, 7, 0, -1000000001), (4, 89, 1, 86, 0), (4, 93, 7, 0, -1000000003), (4, 94, 1, 89, 0), (4, 98, 7, 0, -1000000012), (4, 99, 1, 73, 0), (4, 102, 1, 94, 0), (4, 105, 1, 97, 0), (4, 109, 1, 98, 0), (4, 113, 1, 99, 0), (4, 117, 1, 101, 0), (4, 120, 1, 79, 0), (4, 123, 1, 80, 0), (4, 126, 3, 236, 0), (4, 129, 1, 100, 0), (4, 133, 7, 0, -1000000002), (4, 134, 1, 103, 0), (4, 137, 1, 81, 0), (4, 140, 1, 105, 0), (4, 143, 1, 108, 0), (4, 146, 1, 82, 0)]
def mjR_5 : List mRe := [(5, 3, 6, 0, 0), (5, 9, 0, 5, 3), (5, 15, 0, 5, 4), (5, 18, 1, 116, 0), (5, 21, 1, 160, 0), (5, 27, 1, 161, 0), (5, 30, 1, 117, 0), (5, 34, 0, 5, 0), (5, 38, 7, 0, -1000000005), (5, 39, 1, 158, 0), (5, 43, 0, 8, 0), (5, 46, 0, 5, 8), (5, 50, 1, 119, 0), (5, 54, 1, 122, 0), (5, 57, 0, 5, 6), (5, 60, 1, 126, 0), (5, 64, 0, 5, 1), (5, 67, 0, 5, 2), (5, 68, 0, 5, 5), (5, 71, 0, 5, 7), (5, 74, 9, 0, 0), (5, 76, 1, 162, 0), (5, 80, 9, 1, 0), (5, 82, 9, 2, 0), (5, 84, 9, 3, 0), (5, 86, 9, 4, 0), (5, 88, 9, 5, 0), (5, 90, 9, 6, 0), (5, 92, 9, 7, 0), (5, 94, 1, 157, 0), (5, 97, 1, 128, 0), (5, 100, 1, 120, 0), (5, 103, 1, 121, 0), (5, 106, 1, 127, 0), (5, 109, 1, 125, 0), (5, 112, 1, 118, 0), (5, 116, 11, 0, 0), (5, 122, 12, 0, 0), (5, 126, 1, 124, 0), (5, 130, 1, 123, 0), (5, 133, 1, 129, 0)]
def mjR_6 : List mRe := [(6, 3, 6, 0, 0), (6, 9, 0, 6, 1), (6, 15, 0, 6, 2), (6, 18, 0, 6, 3), (6, 21, 0, 6, 0), (6, 25, 3, 237, 0), (6, 29, 1, 70, 0), (6, 35, 3, 234, 0), (6, 39, 7, 0, -1000000001), (6, 40, 7, 0, -1000000003), (6, 41, 1, 91, 0)]
def mjR_7 : List mRe := [(7, 3, 6, 0, 0), (7, 9, 0, 7, 1), (7, 15, 0, 7, 2), (7, 18, 0, 7, 3), (7, 21, 0, 7, 0), (7, 25, 3, 237, 0), (7, 29, 7, 0, -1000000003), (7, 30, 3, 234, 0), (7, 34, 13, 0, 0), (7, 40, 14, 0, 0), (7, 43, 1, 138, 0), (7, 47, 7, 0, -1000000001), (7, 48, 1, 139, 0), (7, 51, 2, 367, 0), (7, 57, 7, 0, -1000000005), (7, 58, 1, 144, 0), (7, 62, 1, 146, 0), (7, 66, 1, 148, 0), (7, 69, 1, 145, 0), (7, 72, 1, 147, 0), (7, 75, 1, 149, 0), (7, 79, 1, 150, 0), (7, 83, 1, 151, 0)]
def mjR_8 : List mRe := [(8, 3, 6, 0, 0), (8, 9, 0, 8, 1), (8, 15, 0, 8, 0), (8, 19, 7, 0, -1000000003), (8, 20, 1, 154, 0), (8, 24, 3, 234, 0), (8, 28, 7, 0, -1000000001), (8, 29, 7, 0, -1000000005), (8, 30, 1, 157, 0), (8, 34, 1, 158, 0), (8, 38, 1, 159, 0), (8, 41, 11, 0, 0), (8, 47, 12, 0, 0)]
def mjR_9 : List mRe := [(9, 3, 6, 0, 0), (9, 9, 0, 9, 1), (9, 15, 0, 9, 2), (9, 18, 0, 9, 3), (9, 21, 0, 9, 4), (9, 24, 0, 9, 5), (9, 27, 0, 9, 6), (9, 30, 0, 9, 7), (9, 33, 0, 9, 0), (9, 37, 3, 237, 0), (9, 41, 7, 0, -1000000003), (9, 42, 0, 5, 0), (9, 47, 0, 5, 1), (9, 49, 0, 5, 2), (9, 50, 0, 5, 3), (9, 53, 7, 0, -1000000001), (9, 54, 7, 0, -1000000005), (9, 55, 0, 9, 8), (9, 58, 1, 169, 0), (9, 62, 1, 171, 0), (9, 66, 1, 170, 0), (9, 69, 1, 172, 0)]
def mjR_10 : List mRe := [(10, 3, 6, 0, 0), (10, 9, 0, 10, 0), (10, 15, 0, 10, 1), (10, 18, 0, 10, 2), (10, 21, 3, 237, 0), (10, 25, 3, 234, 0), (10, 29, 7, 0, -1000000001), (10, 30, 1, 177, 0), (10, 34, 1, 53, 0), (10, 40, 1, 178, 0), (10, 44, 0, 10, 4), (10, 48, 7, 0, -1000000005), (10, 49, 0, 10, 5), (10, 52, 0, 10, 6), (10, 55, 0, 10, 3), (10, 58, 0, 4, 0), (10, 63, 1, 77, 0), (10, 67, 1, 73, 0), (10, 70, 1, 180, 0), (10, 73, 1, 181, 0), (10, 76, 1, 179, 0), (10, 80, 2, 367, 0)]
def mjR_11 : List mRe := [(11, 3, 6, 0, 0), (11, 9, 10, 1, 0), (11, 11, 5, 11, 0), (11, 12, 0, 11, 0), (11, 16, 0, 11, 1), (11, 19, 10, 8, 0), (11, 21, 5, 152, 0), (11, 22, 0, 11, 3), (11, 26, 10, 5, 0), (11, 28, 5, 114, 0), (11, 29, 0, 11, 4), (11, 33, 10, 0, 0), (11, 35, 5, 0, 0), (11, 36, 0, 11, 5), (11, 40, 0, 11, 7), (11, 44, 0, 11, 8), (11, 47, 0, 1, 3), (11, 51, 1, 41, 0), (11, 57, 0, 1, 0), (11, 61, 1, 42, 0), (11, 65, 1, 48, 0), (11, 68, 1, 49, 0), (11, 71, 1, 56, 0), (11, 75, 1, 57, 0), (11, 78, 1, 14, 0), (11, 82, 1, 15, 0), (11, 85, 0, 1, 4), (11, 89, 1, 84, 0), (11, 93, 1, 85, 0), (11, 96, 1, 87, 0), (11, 98, 1, 88, 0), (11, 101, 1, 90, 0), (11, 104, 0, 1, 5), (11, 108, 1, 132, 0), (11, 113, 1, 40, 0), (11, 117, 1, 70, 0), (11, 118, 7, 0, -1000000001), (11, 119, 1, 16, 0), (11, 123, 1, 22, 0), (11, 126, 1, 23, 0), (11, 129, 1, 24, 0), (11, 132, 1, 104, 0), (11, 135, 1, 106, 0), (11, 138, 1, 107, 0), (11, 141, 1, 28, 0), (11, 144, 1, 31, 0), (11, 147, 1, 153, 0), (11, 150, 1, 155, 0), (11, 153, 2, 234, 0), (11, 157, 1, 156, 0), (11, 160, 1, 115, 0), (11, 164, 7, 0, -1000000005), (11, 165, 0, 1, 6), (11, 169, 1, 165, 0), (11, 174, 1, 166, 0), (11, 175, 1, 13, 0), (11, 179, 1, 167, 0), (11, 182, 1, 32, 0), (11, 185, 1, 34, 0), (11, 188, 1, 35, 0), (11, 191, 1, 1, 0), (11, 194, 1, 5, 0), (11, 197, 1, 7, 0), (11, 200, 1, 9, 0), (11, 204, 1, 10, 0), (11, 207, 0, 1, 7), (11, 211, 1, 175, 0), (11, 216, 1, 176, 0), (11, 220, 0, 1, 8), (11, 224, 1, 137, 0), (11, 228, 1, 140, 0), (11, 231, 1, 141, 0), (11, 234, 1, 142, 0), (11, 237, 1, 143, 0), (11, 240, 0, 1, 9), (11, 244, 1, 61, 0), (11, 248, 1, 66, 0), (11, 251, 0, 11, 6), (11, 254, 7, 0, -1000000003), (11, 255, 1, 67, 0), (11, 259, 1, 233, 0), (11, 262, 0, 11, 2), (11, 266, 1, 36, 0), (11, 270, 7, 0, -1000000002), (11, 271, 1, 12, 0), (11, 275, 0, 8, 0), (11, 278, 1, 37, 0), (11, 281, 14, 0, 0), (11, 286, 13, 0, 0)]
def mjR_12 : List mRe := [(12, 1, 6, 0, 0), (12, 7, 0, 12, 0), (12, 13, 0, 12, 1), (12, 16, 0, 12, 2), (12, 19, 0, 12, 4), (12, 22, 0, 12, 5), (12, 25, 0, 12, 6), (12, 28, 0, 12, 10), (12, 31, 0, 12, 11), (12, 34, 0, 12, 12), (12, 37, 0, 12, 13), (12, 40, 0, 12, 25), (12, 43, 0, 12, 26), (12, 46, 0, 12, 27), (12, 49, 0, 12, 28), (12, 52, 0, 12, 29), (12, 55, 0, 12, 30), (12, 58, 0, 12, 31), (12, 61, 0, 12, 33), (12, 64, 7, 0, -1000000005), (12, 65, 2, 239, 0), (12, 69, 8, 0, 8), (12, 71, 8, 0, 6), (12, 73, 1, 246, 0), (12, 77, 1, 249, 0), (12, 81, 1, 253, 0), (12, 84, 2, 251, 0), (12, 87, 8, 0, 127), (12, 89, 7, 0, -1000000001), (12, 90, 7, 0, -1000000003), (12, 91, 1, 244, 0), (12, 94, 1, 245, 0), (12, 97, 1, 258, 0), (12, 100, 1, 248, 0), (12, 103, 8, 0, 5), (12, 105, 2, 240, 0), (12, 108, 1, 259, 0), (12, 111, 8, 0, 9999), (12, 113, 1, 243, 0), (12, 117, 7, 0, -1000000002), (12, 118, 1, 266, 0), (12, 121, 8, 0, 240), (12, 123, 1, 267, 0), (12, 126, 8, 0, 73), (12, 128, 1, 255, 0), (12, 131, 8, 0, -9999), (12, 133, 8, 0, 69999), (12, 135, 8, 0, 88), (12, 137, 8, 0, 4), (12, 139, 1, 269, 0), (12, 143, 1, 270, 0), (12, 147, 1, 256, 0), (12, 150, 8, 0, 9), (12, 152, 8, 0, 7), (12, 154, 7, 0, -1000000012), (12, 155, 8, 0, -9), (12, 157, 2, 252, 0), (12, 160, 8, 0, 99), (12, 162, 1, 277, 0), (12, 166, 1, 279, 0), (12, 169, 0, 12, 7), (12, 173, 0, 12, 8), (12, 176, 0, 12, 9), (12, 179, 1, 280, 0), (12, 182, 1, 321, 0), (12, 185, 1, 324, 0), (12, 188, 8, 0, 3), (12, 190, 1, 281, 0), (12, 194, 1, 254, 0), (12, 197, 1, 283, 0), (12, 200, 1, 286, 0), (12, 203, 1, 287, 0), (12, 207, 2, 241, 0), (12, 210, 1, 284, 0), (12, 214, 1, 285, 0), (12, 217, 1, 291, 0), (12, 220, 1, 293, 0), (12, 223, 1, 295, 0), (12, 226, 1, 296, 0), (12, 229, 1, 298, 0), (12, 233, 1, 299, 0), (12, 236, 0, 12, 14), (12, 239, 8, 0, 97), (12, 241, 8, 0, 122), (12, 243, 8, 0, 48), (12, 245, 8, 0, 57), (12, 247, 0, 12, 16), (12, 250, 0, 12, 17), (12, 253, 0, 12, 15), (12, 256, 1, 303, 0), (12, 259, 0, 12, 19), (12, 262, 1, 304, 0), (12, 265, 0, 12, 18), (12, 268, 1, 307, 0), (12, 272, 1, 308, 0), (12, 276, 0, 12, 23), (12, 279, 0, 12, 22), (12, 282, 1, 313, 0), (12, 285, 1, 306, 0), (12, 288, 1, 305, 0), (12, 291, 1, 311, 0), (12, 295, 1, 314, 0), (12, 298, 1, 315, 0), (12, 301, 1, 316, 0), (12, 304, 1, 317, 0), (12, 307, 0, 12, 24), (12, 310, 2, 310, 0), (12, 313, 0, 12, 21), (12, 316, 0, 12, 20), (12, 319, 1, 312, 0), (12, 322, 1, 247, 0), (12, 325, 1, 309, 0), (12, 328, 8, 0, 166), (12, 330, 1, 318, 0), (12, 333, 1, 250, 0), (12, 336, 8, 0, 2), (12, 338, 2, 323, 0), (12, 341, 8, 0, 13), (12, 343, 1, 326, 0), (12, 346, 1, 327, 0), (12, 349, 1, 328, 0), (12, 352, 2, 330, 0), (12, 355, 8, 0, -1), (12, 357, 7, 0, -1000000014), (12, 358, 7, 0, -1000000011), (12, 359, 7, 0, -1000000013), (12, 360, 8, 0, -100000), (12, 362, 8, 0, 100000), (12, 364, 1, 333, 0), (12, 367, 8, 0, 255), (12, 369, 8, 0, 20), (12, 371, 1, 338, 0), (12, 374, 2, 242, 0), (12, 377, 1, 339, 0), (12, 380, 1, 344, 0), (12, 383, 1, 345, 0), (12, 387, 1, 346, 0), (12, 390, 8, 0, 999), (12, 392, 1, 350, 0), (12, 395, 1, 351, 0), (12, 398, 2, 353, 0), (12, 401, 1, 352, 0), (12, 404, 0, 12, 32), (12, 407, 0, 12, 34), (12, 410, 1, 357, 0), (12, 413, 8, 0, 30), (12, 415, 0, 12, 3), (12, 419, 1, 356, 0), (12, 423, 1, 359, 0), (12, 425, 1, 358, 0), (12, 428, 1, 360, 0)]
def mjR_13 : List mRe := [(13, 7, 10, 11, 0), (13, 9, 4, 182, 0), (13, 10, 10, 12, 0), (13, 12, 4, 238, 0), (13, 13, 1, 183, 0), (13, 17, 1, 257, 0), (13, 18, 1, 184, 0), (13, 21, 1, 260, 0), (13, 22, 1, 185, 0), (13, 25, 1, 261, 0), (13, 26, 1, 186, 0), (13, 29, 1, 262, 0), (13, 30, 1, 187, 0), (13, 34, 1, 263, 0), (13, 35, 1, 188, 0), (13, 39, 1, 264, 0), (13, 40, 1, 189, 0), (13, 43, 1, 265, 0), (13, 44, 1, 190, 0), (13, 47, 1, 268, 0), (13, 48, 1, 191, 0), (13, 51, 1, 271, 0), (13, 52, 1, 192, 0), (13, 56, 1, 272, 0), (13, 57, 1, 193, 0), (13, 60, 1, 273, 0), (13, 61, 1, 194, 0), (13, 64, 1, 274, 0), (13, 65, 1, 195, 0), (13, 68, 1, 275, 0), (13, 69, 1, 196, 0), (13, 72, 1, 276, 0), (13, 73, 1, 197, 0), (13, 76, 1, 278, 0), (13, 77, 1, 198, 0), (13, 80, 1, 282, 0), (13, 81, 1, 199, 0), (13, 84, 1, 288, 0), (13, 85, 1, 200, 0), (13, 88, 1, 289, 0), (13, 89, 1, 201, 0), (13, 92, 1, 290, 0), (13, 93, 1, 202, 0), (13, 96, 1, 292, 0), (13, 97, 1, 203, 0), (13, 100, 1, 294, 0), (13, 101, 1, 204, 0), (13, 104, 1, 297, 0), (13, 105, 1, 205, 0), (13, 108, 1, 300, 0), (13, 109, 1, 206, 0), (13, 112, 1, 301, 0), (13, 113, 1, 207, 0), (13, 116, 1, 302, 0), (13, 117, 1, 208, 0), (13, 120, 1, 319, 0), (13, 121, 1, 209, 0), (13, 124, 1, 320, 0), (13, 125, 1, 210, 0), (13, 128, 1, 322, 0), (13, 129, 1, 211, 0), (13, 132, 1, 325, 0), (13, 133, 1, 212, 0), (13, 136, 1, 328, 0), (13, 137, 1, 213, 0), (13, 141, 1, 329, 0), (13, 142, 1, 214, 0), (13, 145, 1, 331, 0), (13, 146, 1, 215, 0), (13, 149, 1, 332, 0), (13, 150, 1, 216, 0), (13, 153, 1, 334, 0), (13, 154, 1, 217, 0), (13, 158, 1, 335, 0), (13, 159, 1, 218, 0), (13, 162, 1, 336, 0), (13, 163, 1, 219, 0), (13, 166, 1, 337, 0), (13, 167, 1, 220, 0), (13, 170, 1, 340, 0), (13, 171, 1, 221, 0), (13, 174, 1, 341, 0), (13, 175, 1, 222, 0), (13, 178, 1, 342, 0), (13, 179, 1, 223, 0), (13, 182, 1, 343, 0), (13, 183, 1, 224, 0), (13, 186, 1, 347, 0), (13, 187, 1, 225, 0), (13, 190, 1, 348, 0), (13, 191, 1, 226, 0), (13, 194, 1, 349, 0), (13, 195, 1, 227, 0), (13, 198, 1, 354, 0), (13, 199, 1, 228, 0), (13, 202, 1, 355, 0), (13, 203, 1, 229, 0), (13, 206, 1, 361, 0), (13, 207, 1, 230, 0), (13, 210, 1, 362, 0), (13, 211, 1, 231, 0), (13, 214, 1, 363, 0), (13, 215, 1, 232, 0), (13, 218, 1, 364, 0)]
def mjR_14 : List mRe := [(14, 265, 7, 0, 1431655765), (14, 266, 7, 0, 858993459), (14, 267, 7, 0, 252645135)]
def mjR_15 : List mRe := []
def mjRs : List (List mRe) := [mjR_0, mjR_1, mjR_2, mjR_3, mjR_4, mjR_5, mjR_6, mjR_7, mjR_8, mjR_9, mjR_10, mjR_11, mjR_12, mjR_13, mjR_14, mjR_15]
/-- what an entry of a class's constant pool is: its kind, and two numbers -/
def mjR (own idx : Nat) : Option mRe := match mjRs[own]? with
  | none => none
  | some l => l.find? (fun e => e.2.1 == idx)
def mjC (c : Nat) : String := (mjCls[c]?).getD ""
def mjY (y : Nat) : MethodName := match mjM y with
  | some q => q.1
  | none => objectInit
def mjCl (c : Nat) : vw_C := (vwCl[c]?).getD ("", TX0, 0)
def mjYlen : MethodName := yJ0_length_8abf5
def mjYchr : MethodName := yJ0_charAt_5068e
/-- the words of the tables that an entry stands on -/
def mjWords (e : mRe) : List Cond := match e with
  | (own, idx, 0, ci, k) => [.fieldLink (mjC own) idx (mjCl ci).1 ((mjCl ci).2.1 k.toNat).2.1 ((mjCl ci).2.1 k.toNat).2.2.1]
  | (own, idx, 1, y, _) => [.methodLink (mjC own) idx (mjY y), .instanceMethod (mjY y), .selects (mjY y).cls (mjY y) (mjY y), .initialized (mjY y).cls]
  | (own, idx, 2, y, _) => [.methodLink (mjC own) idx (mjY y), .static (mjY y), .initialized (mjY y).cls]
  | (_, _, 3, y, _) => [.static (mjY y), .initialized (mjY y).cls]
  | (own, idx, 4, y, _) => [.methodLink (mjC own) idx (mjY y), .instanceMethod (mjY y), .initialized (mjY y).cls]
  | (_, _, 5, y, _) => [.instanceMethod (mjY y), .initialized (mjY y).cls]
  | (own, idx, 6, _, _) => [.methodLink (mjC own) idx objectInit, .instanceMethod objectInit, .code objectInit ⟨#[0xb1]⟩ 1 none]
  | (own, idx, 7, _, v) => [.constant (mjC own) idx (Int32.ofInt v)]
  | (own, idx, 8, _, v) => [.constantLong (mjC own) idx (Int64.ofInt v)]
  | (own, idx, 10, ci, _) => [.classLink (mjC own) idx (mjCl ci).1, .instantiable (mjCl ci).1 (mjCl ci).2.2, .initialized (mjCl ci).1]
  | (own, idx, 11, _, _) => [.methodLink (mjC own) idx mjYlen, .instanceMethod mjYlen, .selects mjYlen.cls mjYlen mjYlen, .initialized mjYlen.cls]
  | (own, idx, 13, _, _) => [.methodLink (mjC own) idx Lib.Math.max.name, .static Lib.Math.max.name, .initialized Lib.Math.max.name.cls, .code Lib.Math.max.name Lib.Math.max.code 2 (some .int)]
  | (own, idx, 14, _, _) => [.methodLink (mjC own) idx Lib.Math.min.name, .static Lib.Math.min.name, .initialized Lib.Math.min.name.cls, .code Lib.Math.min.name Lib.Math.min.code 2 (some .int)]
  | (own, idx, 12, _, _) => [.methodLink (mjC own) idx mjYchr, .instanceMethod mjYchr, .selects mjYchr.cls mjYchr mjYchr, .initialized mjYchr.cls]
  | _ => []
/-- the tables' good words: what every method's words are -/
def mjT : List Cond := lw_tbl.filter goodWord
def mjTabs : List (List Cond) := [k2_sels lw_privs, tables_1_1, tables_1_2, tables_1_3, tables_1_4, tables_1_5, tables_1_6, tables_1_7, tables_1_8, tables_1_9]
def mjIn (w : Cond) (p : Nat × Nat) : Bool := goodWord w && (match mjTabs[p.1]? with
  | none => false
  | some l => decide (l[p.2]? = some w))
theorem mjTabs_in : ∀ l ∈ mjTabs, ∀ w ∈ l, w ∈ lw_tbl := by
  intro l hl w hw
  unfold lw_tbl tables_1
  simp only [mjTabs, List.mem_cons, List.not_mem_nil, or_false] at hl
  simp only [List.mem_append]
  rcases hl with rfl | rfl | rfl | rfl | rfl | rfl | rfl | rfl | rfl | rfl <;> simp only [hw, true_or, or_true]
theorem mjIn_mem {w : Cond} {p : Nat × Nat} (h : mjIn w p = true) : w ∈ mjT := by
  unfold mjIn at h
  simp only [Bool.and_eq_true] at h
  obtain ⟨h1, h2⟩ := h
  split at h2
  · cases h2
  · next l hl =>
    exact List.mem_filter.mpr ⟨mjTabs_in l (List.mem_of_getElem? hl) w (List.mem_of_getElem? (of_decide_eq_true h2)), h1⟩
def mjOk2 : List Cond → List (Nat × Nat) → Bool
  | [], [] => true
  | w :: ws, p :: ps => mjIn w p && mjOk2 ws ps
  | _, _ => false
theorem mjOk2_mem : ∀ (ws : List Cond) (ps : List (Nat × Nat)), mjOk2 ws ps = true → ∀ w ∈ ws, w ∈ mjT := by
  intro ws
  induction ws with
  | nil => intro ps _ w hw; cases hw
  | cons a ws ih =>
    intro ps h w hw
    cases ps with
    | nil => simp [mjOk2] at h
    | cons p ps =>
      simp only [mjOk2, Bool.and_eq_true] at h
      rcases List.mem_cons.mp hw with rfl | hw
      · exact mjIn_mem h.1
      · exact ih ps h.2 w hw
def mjOk3 : List mRe → List (List (Nat × Nat)) → Bool
  | [], [] => true
  | e :: es, p :: ps => mjOk2 (mjWords e) p && mjOk3 es ps
  | _, _ => false
theorem mjOk3_mem : ∀ (es : List mRe) (ps : List (List (Nat × Nat))), mjOk3 es ps = true → ∀ e ∈ es, ∀ w ∈ mjWords e, w ∈ mjT := by
  intro es
  induction es with
  | nil => intro ps _ e he; cases he
  | cons a es ih =>
    intro ps h e he
    cases ps with
    | nil => simp [mjOk3] at h
    | cons p ps =>
      simp only [mjOk3, Bool.and_eq_true] at h
      rcases List.mem_cons.mp he with rfl | he
      · exact mjOk2_mem _ p h.1
      · exact ih ps h.2 e he
def mjP_0 : List (List (Nat × Nat)) := [[(2, 141), (1, 26), (1, 27)], [(2, 142)], [(2, 143)], [(2, 144)], [(2, 145)], [(5, 193), (5, 194), (5, 195), (1, 12)], [(2, 192), (1, 1)], [(5, 198)], [(5, 199)], [(5, 212)], [(5, 213), (5, 214), (5, 215), (1, 12)], [(5, 217)], [(5, 208), (5, 209), (5, 210), (1, 12)], [(5, 218)], [(5, 219)], [(5, 220)], [(5, 221)], [(5, 230), (5, 231), (5, 232), (1, 12)], [(6, 2), (6, 3), (6, 4), (1, 12)], [(6, 14), (4, 59), (1, 15), (4, 60)], [(6, 15), (4, 62), (1, 15), (4, 63)]]
theorem mjRok_0 : ∀ e ∈ mjR_0, ∀ w ∈ mjWords e, w ∈ mjT := mjOk3_mem _ mjP_0 (by decide +kernel)
def mjP_1 : List (List (Nat × Nat)) := [[(1, 33), (1, 26), (1, 27)], [(1, 34), (1, 35), (1, 3)], [(1, 37), (1, 3)], [(2, 21)], [(1, 73), (1, 74), (1, 4)], [(1, 76), (1, 4)], [(2, 23)], [(1, 122), (1, 123), (1, 5)], [(1, 125), (1, 5)], [(2, 25)], [(1, 142), (1, 143), (1, 6)], [(1, 145), (1, 6)], [(2, 27)], [(1, 177), (1, 178), (1, 7)], [(1, 180), (1, 7)], [(2, 29)], [(1, 205), (1, 206), (1, 8)], [(1, 208), (1, 8)], [(2, 31)], [(1, 225), (1, 226), (1, 9)], [(1, 228), (1, 9)], [(2, 33)], [(2, 36)], [(2, 37)], [(2, 41)], [(2, 42)], [(2, 43)], [(2, 17)], [(2, 19)], [(2, 20)], [(6, 229), (6, 230), (6, 231), (1, 3)], [(6, 234), (6, 235), (6, 236), (1, 4)], [(6, 238), (6, 239), (7, 0), (1, 5)], [(7, 3), (7, 4), (7, 5), (1, 6)], [(7, 8), (7, 9), (7, 10), (1, 7)], [(7, 13), (7, 14), (7, 15), (1, 8)], [(7, 18), (7, 19), (7, 20), (1, 9)], [(2, 35)], [(4, 118), (1, 1)], [(2, 192), (1, 1)], [(3, 19)], [(3, 28)], [(3, 29), (3, 30), (3, 31), (1, 5)], [(3, 42), (3, 43), (3, 44), (1, 3)], [(3, 145), (3, 146), (3, 147), (1, 3)], [(3, 149), (3, 150), (3, 151), (1, 4)], [(3, 180), (3, 181), (3, 182), (1, 3)], [(3, 184), (3, 185), (3, 186), (1, 4)], [(3, 200), (3, 142), (3, 143), (1, 2)], [(3, 201), (3, 202), (3, 203), (1, 4)], [(3, 205), (3, 206), (1, 14)], [(2, 38)], [(2, 39)], [(2, 40)], [(1, 41)], [(3, 168), (3, 169), (3, 170), (1, 3)], [(3, 176), (3, 177), (3, 178), (1, 2)], [(4, 27), (4, 28), (4, 29), (1, 3)], [(3, 212), (3, 213), (3, 214), (1, 2)], [(3, 216), (3, 217), (3, 218), (1, 6)], [(3, 221)], [(3, 222), (3, 223), (3, 224), (1, 6)], [(3, 161), (3, 38), (3, 39), (1, 4)], [(3, 162), (3, 70), (3, 71), (1, 4)], [(3, 163)], [(3, 164), (3, 165), (3, 166), (1, 2)], [(3, 208), (3, 209), (3, 210), (1, 2)], [(4, 10), (4, 11), (4, 12), (1, 4)], [(4, 18), (4, 19), (4, 20), (1, 2)], [(4, 22)], [(4, 23), (4, 24), (4, 25), (1, 2)], [(4, 31), (4, 32), (4, 33), (1, 4)], [(4, 35), (4, 36), (4, 37), (1, 4)], [(4, 84), (4, 85), (4, 86), (1, 4)], [(4, 150), (3, 193), (3, 194), (1, 4)], [(4, 151), (3, 197), (3, 198), (1, 4)], [(1, 81)], [(4, 144), (3, 90), (3, 91), (1, 4)], [(4, 145), (3, 189), (3, 190), (1, 4)], [(4, 146), (4, 147), (4, 148), (1, 2)], [(4, 152), (4, 153), (4, 154), (1, 2)], [(4, 140), (4, 141), (4, 142), (1, 2)], [(4, 169), (4, 170), (4, 171), (1, 2)], [(4, 173), (4, 44), (4, 45), (1, 4)], [(4, 164), (3, 66), (3, 67), (1, 4)], [(4, 165), (4, 166), (4, 167), (1, 2)], [(4, 174), (4, 175), (4, 176), (1, 4)], [(4, 178), (4, 179), (4, 180), (1, 4)], [(4, 182), (4, 183), (4, 184), (1, 4)], [(5, 162), (5, 163), (5, 164), (1, 2)], [(5, 166), (5, 167), (5, 168), (1, 4)], [(1, 85)], [(4, 56), (1, 1)], [(5, 184), (5, 171), (5, 172), (1, 4)], [(6, 212), (6, 213), (6, 214), (1, 3)], [(6, 216), (6, 217), (6, 218), (1, 5)], [(7, 35), (7, 36), (7, 37), (1, 3)], [(7, 39), (7, 40), (7, 41), (1, 4)], [(1, 149)], [(1, 129)], [(1, 212)], [(1, 232)]]
theorem mjRok_1 : ∀ e ∈ mjR_1, ∀ w ∈ mjWords e, w ∈ mjT := mjOk3_mem _ mjP_1 (by decide +kernel)
def mjP_2 : List (List (Nat × Nat)) := [[(1, 39), (1, 26), (1, 27)], [(1, 42)], [(1, 43)], [(1, 44)], [(1, 45)], [(1, 46)], [(1, 48)], [(1, 49)], [(1, 50)], [(1, 40)], [(4, 118), (1, 1)], [(1, 47)], [(2, 192), (1, 1)], [(2, 194)], [(2, 195)], [(2, 196)], [(2, 205), (2, 206), (2, 207), (1, 3)], [(2, 209), (2, 210), (2, 211), (1, 3)], [(3, 172), (3, 173), (3, 174), (1, 3)], [(3, 46), (3, 47), (3, 48), (1, 3)], [(6, 44), (3, 181), (3, 182), (1, 3)], [(2, 213), (2, 214), (2, 215), (1, 3)], [(3, 1)]]
theorem mjRok_2 : ∀ e ∈ mjR_2, ∀ w ∈ mjWords e, w ∈ mjT := mjOk3_mem _ mjP_2 (by decide +kernel)
def mjP_3 : List (List (Nat × Nat)) := [[(1, 230), (1, 26), (1, 27)], [(1, 233)], [(1, 234)], [(1, 235)], [(1, 236)], [(1, 231)], [(4, 118), (1, 1)], [(2, 192), (1, 1)], [(6, 164)], [(6, 165)], [(6, 178)], [(1, 237)], [(6, 179), (6, 180), (6, 181), (1, 9)], [(6, 183), (6, 184), (6, 185), (1, 9)], [(6, 187), (6, 188), (6, 189), (1, 9)], [(1, 238)], [(1, 239)], [(6, 174), (6, 175), (6, 176), (1, 9)]]
theorem mjRok_3 : ∀ e ∈ mjR_3, ∀ w ∈ mjWords e, w ∈ mjT := mjOk3_mem _ mjP_3 (by decide +kernel)
def mjP_4 : List (List (Nat × Nat)) := [[(1, 78), (1, 26), (1, 27)], [(1, 82)], [(1, 83)], [(1, 84)], [(1, 86)], [(1, 87)], [(1, 88)], [(1, 89)], [(1, 90)], [(1, 91)], [(1, 92)], [(1, 93)], [(1, 94)], [(1, 79)], [(4, 118), (1, 1)], [(3, 37), (3, 38), (3, 39), (1, 4)], [(3, 73)], [(2, 192), (1, 1)], [(3, 69), (3, 70), (3, 71), (1, 4)], [(3, 188), (3, 189), (3, 190), (1, 4)], [(3, 192), (3, 193), (3, 194), (1, 4)], [(3, 89), (3, 90), (3, 91), (1, 4)], [(3, 65), (3, 66), (3, 67), (1, 4)], [(3, 63), (1, 1)], [(3, 74)], [(3, 58), (3, 59), (3, 60), (1, 4)], [(3, 75)], [(3, 76), (3, 77), (3, 78), (1, 4)], [(3, 80)], [(3, 109), (3, 110), (3, 111), (1, 4)], [(3, 113)], [(3, 196), (3, 197), (3, 198), (1, 4)], [(4, 14), (4, 15), (4, 16), (1, 4)], [(4, 39), (4, 40), (4, 41), (1, 4)], [(4, 51), (4, 52), (4, 53), (1, 4)], [(4, 64), (4, 65), (4, 66), (1, 4)], [(4, 72), (4, 73), (4, 74), (1, 4)], [(4, 43), (4, 44), (4, 45), (1, 4)], [(4, 47), (4, 48), (4, 49), (1, 4)], [(4, 56), (1, 1)], [(4, 68), (4, 69), (4, 70), (1, 4)], [(4, 88)], [(4, 89), (4, 90), (4, 91), (1, 4)], [(4, 93), (4, 94), (4, 95), (1, 4)], [(4, 113), (4, 114), (4, 115), (1, 4)], [(4, 128), (4, 129), (4, 130), (1, 4)], [(5, 170), (5, 171), (5, 172), (1, 4)]]
theorem mjRok_4 : ∀ e ∈ mjR_4, ∀ w ∈ mjWords e, w ∈ mjT := mjOk3_mem _ mjP_4 (by decide +kernel)
def mjP_5 : List (List (Nat × Nat)) := [[(2, 103), (1, 26), (1, 27)], [(2, 110)], [(2, 112)], [(4, 222), (4, 223), (4, 224), (1, 11)], [(4, 226), (4, 227), (4, 228), (1, 10)], [(4, 235), (4, 236), (4, 237), (1, 10)], [(5, 7), (5, 8), (5, 9), (1, 11)], [(2, 104)], [(5, 67)], [(5, 68), (5, 0), (5, 1), (1, 10)], [(2, 90)], [(2, 116)], [(5, 69), (5, 70), (5, 71), (1, 11)], [(5, 108), (5, 109), (5, 110), (1, 11)], [(2, 114)], [(5, 116), (5, 117), (5, 118), (1, 11)], [(2, 106)], [(2, 108)], [(2, 113)], [(2, 115)], [], [(5, 12), (5, 13), (5, 14), (1, 10)], [], [], [], [], [], [], [], [(5, 73), (4, 231), (4, 232), (1, 10)], [(5, 74), (5, 75), (5, 76), (1, 11)], [(5, 78), (5, 79), (5, 80), (1, 11)], [(5, 82), (5, 83), (5, 84), (1, 11)], [(5, 96), (5, 97), (5, 98), (1, 11)], [(5, 100), (5, 101), (5, 102), (1, 11)], [(5, 86), (5, 87), (5, 88), (1, 11)], [(5, 94), (5, 17), (5, 18), (1, 16)], [(5, 95), (5, 27), (5, 28), (1, 16)], [(5, 112), (5, 113), (5, 114), (1, 11)], [(5, 120), (5, 121), (5, 122), (1, 11)], [(5, 104), (5, 105), (5, 106), (1, 11)]]
theorem mjRok_5 : ∀ e ∈ mjR_5, ∀ w ∈ mjWords e, w ∈ mjT := mjOk3_mem _ mjP_5 (by decide +kernel)
def mjP_6 : List (List (Nat × Nat)) := [[(1, 127), (1, 26), (1, 27)], [(1, 130)], [(1, 131)], [(1, 132)], [(1, 128)], [(4, 118), (1, 1)], [(3, 130), (3, 38), (3, 39), (1, 4)], [(2, 192), (1, 1)], [(3, 132)], [(3, 133)], [(3, 33), (3, 34), (3, 35), (1, 4)]]
theorem mjRok_6 : ∀ e ∈ mjR_6, ∀ w ∈ mjWords e, w ∈ mjT := mjOk3_mem _ mjP_6 (by decide +kernel)
def mjP_7 : List (List (Nat × Nat)) := [[(1, 210), (1, 26), (1, 27)], [(1, 213)], [(1, 214)], [(1, 215)], [(1, 211)], [(4, 118), (1, 1)], [(6, 76)], [(2, 192), (1, 1)], [(6, 95), (4, 62), (1, 15), (4, 63)], [(6, 96), (4, 59), (1, 15), (4, 60)], [(6, 86), (6, 87), (6, 88), (1, 8)], [(6, 90)], [(6, 91), (6, 92), (6, 93), (1, 8)], [(6, 97), (6, 63), (1, 14)], [(6, 106)], [(6, 115), (6, 116), (6, 117), (1, 8)], [(6, 139), (6, 140), (6, 141), (1, 8)], [(6, 151), (6, 152), (6, 153), (1, 8)], [(6, 119), (6, 120), (6, 121), (1, 8)], [(6, 123), (6, 124), (6, 125), (1, 8)], [(6, 127), (6, 128), (6, 129), (1, 8)], [(6, 131), (6, 132), (6, 133), (1, 8)], [(6, 135), (6, 136), (6, 137), (1, 8)]]
theorem mjRok_7 : ∀ e ∈ mjR_7, ∀ w ∈ mjWords e, w ∈ mjT := mjOk3_mem _ mjP_7 (by decide +kernel)
def mjP_8 : List (List (Nat × Nat)) := [[(2, 88), (1, 26), (1, 27)], [(2, 92)], [(2, 89)], [(4, 194)], [(4, 195), (4, 196), (4, 197), (1, 10)], [(2, 192), (1, 1)], [(4, 208)], [(4, 234)], [(4, 230), (4, 231), (4, 232), (1, 10)], [(4, 239), (5, 0), (5, 1), (1, 10)], [(5, 3), (5, 4), (5, 5), (1, 10)], [(5, 16), (5, 17), (5, 18), (1, 16)], [(5, 26), (5, 27), (5, 28), (1, 16)]]
theorem mjRok_8 : ∀ e ∈ mjR_8, ∀ w ∈ mjWords e, w ∈ mjT := mjOk3_mem _ mjP_8 (by decide +kernel)
def mjP_9 : List (List (Nat × Nat)) := [[(1, 147), (1, 26), (1, 27)], [(1, 150)], [(1, 151)], [(1, 152)], [(1, 153)], [(1, 154)], [(1, 155)], [(1, 156)], [(1, 148)], [(4, 118), (1, 1)], [(5, 129)], [(2, 105)], [(2, 107)], [(2, 109)], [(2, 111)], [(5, 139)], [(3, 220)], [(1, 157)], [(3, 226), (3, 227), (3, 228), (1, 6)], [(3, 234), (3, 235), (3, 236), (1, 6)], [(3, 230), (3, 231), (3, 232), (1, 6)], [(3, 238), (3, 239), (4, 0), (1, 6)]]
theorem mjRok_9 : ∀ e ∈ mjR_9, ∀ w ∈ mjWords e, w ∈ mjT := mjOk3_mem _ mjP_9 (by decide +kernel)
def mjP_10 : List (List (Nat × Nat)) := [[(1, 182), (1, 26), (1, 27)], [(1, 183)], [(1, 184)], [(1, 185)], [(4, 118), (1, 1)], [(2, 192), (1, 1)], [(6, 25)], [(6, 34), (6, 35), (6, 36), (1, 7)], [(6, 40), (6, 41), (6, 42), (1, 3)], [(6, 45), (6, 46), (6, 47), (1, 7)], [(1, 187)], [(6, 49)], [(1, 188)], [(1, 189)], [(1, 186)], [(1, 80)], [(6, 38), (3, 66), (3, 67), (1, 4)], [(6, 39), (3, 197), (3, 198), (1, 4)], [(6, 50), (6, 51), (6, 52), (1, 7)], [(6, 54), (6, 55), (6, 56), (1, 7)], [(6, 58), (6, 59), (6, 60), (1, 7)], [(6, 62), (6, 63), (1, 14)]]
theorem mjRok_10 : ∀ e ∈ mjR_10, ∀ w ∈ mjWords e, w ∈ mjT := mjOk3_mem _ mjP_10 (by decide +kernel)
def mjP_11 : List (List (Nat × Nat)) := [[(1, 25), (1, 26), (1, 27)], [(1, 28), (1, 29), (1, 2)], [(1, 31), (1, 2)], [(2, 155)], [(2, 156)], [(2, 83), (2, 84), (1, 10)], [(2, 86), (1, 10)], [(2, 158)], [(2, 98), (2, 99), (1, 11)], [(2, 101), (1, 11)], [(2, 159)], [(2, 136), (2, 137), (1, 12)], [(2, 139), (1, 12)], [(2, 160)], [(2, 162)], [(2, 163)], [(2, 22)], [(2, 187), (2, 188), (2, 189), (1, 3)], [(2, 18)], [(2, 201), (2, 202), (2, 203), (1, 3)], [(2, 221), (2, 222), (2, 223), (1, 3)], [(2, 229), (2, 230), (2, 231), (1, 3)], [(2, 237), (2, 238), (2, 239), (1, 3)], [(3, 6), (3, 7), (3, 8), (1, 3)], [(3, 14), (3, 15), (3, 16), (1, 2)], [(3, 24), (3, 25), (3, 26), (1, 2)], [(2, 24)], [(3, 54), (3, 55), (3, 56), (1, 4)], [(3, 85), (3, 86), (3, 87), (1, 4)], [(3, 97), (3, 98), (3, 99), (1, 4)], [(3, 105), (3, 106), (3, 107), (1, 4)], [(3, 118), (3, 119), (3, 120), (1, 4)], [(2, 26)], [(3, 126), (3, 127), (3, 128), (1, 5)], [(3, 138), (2, 206), (2, 207), (1, 3)], [(3, 139), (3, 38), (3, 39), (1, 4)], [(3, 140)], [(3, 141), (3, 142), (3, 143), (1, 2)], [(3, 157), (3, 158), (3, 159), (1, 2)], [(4, 6), (4, 7), (4, 8), (1, 2)], [(4, 80), (4, 81), (4, 82), (1, 2)], [(4, 101), (4, 102), (4, 103), (1, 4)], [(4, 109), (4, 110), (4, 111), (1, 4)], [(4, 124), (4, 125), (4, 126), (1, 4)], [(4, 136), (4, 137), (4, 138), (1, 2)], [(4, 160), (4, 161), (4, 162), (1, 2)], [(4, 190), (4, 191), (4, 192), (1, 10)], [(4, 203), (4, 204), (4, 205), (1, 10)], [(4, 213), (2, 192), (1, 1)], [(4, 214), (4, 215), (4, 216), (1, 10)], [(4, 218), (4, 219), (4, 220), (1, 11)], [(5, 124)], [(2, 28)], [(5, 125), (5, 126), (5, 127), (1, 6)], [(5, 135), (5, 136), (5, 137), (1, 6)], [(5, 144), (3, 213), (3, 214), (1, 2)], [(5, 145), (3, 217), (3, 218), (1, 6)], [(5, 150), (5, 151), (5, 152), (1, 2)], [(5, 158), (5, 159), (5, 160), (1, 2)], [(5, 178), (5, 179), (5, 180), (1, 2)], [(5, 189), (5, 190), (5, 191), (1, 12)], [(5, 204), (5, 205), (5, 206), (1, 12)], [(5, 226), (5, 227), (5, 228), (1, 12)], [(5, 238), (5, 239), (6, 0), (1, 12)], [(6, 10), (6, 11), (6, 12), (1, 12)], [(2, 30)], [(6, 20), (6, 21), (6, 22), (1, 7)], [(6, 30), (6, 31), (6, 32), (1, 7)], [(2, 32)], [(6, 72), (6, 73), (6, 74), (1, 8)], [(6, 81), (6, 82), (6, 83), (1, 8)], [(6, 102), (6, 103), (6, 104), (1, 8)], [(6, 111), (6, 112), (6, 113), (1, 8)], [(6, 147), (6, 148), (6, 149), (1, 8)], [(2, 34)], [(6, 159), (6, 160), (6, 161), (1, 9)], [(6, 170), (6, 171), (6, 172), (1, 9)], [(2, 161)], [(6, 195)], [(6, 200), (6, 201), (6, 202), (1, 9)], [(6, 204), (6, 206), (0, 0), (1, 1)], [(2, 157)], [(6, 208), (6, 209), (6, 210), (1, 2)], [(6, 220)], [(6, 225), (6, 226), (6, 227), (1, 2)], [(2, 91)], [(7, 31), (7, 32), (7, 33), (1, 2)], [(4, 58), (4, 59), (1, 15), (4, 60)], [(4, 61), (4, 62), (1, 15), (4, 63)]]
theorem mjRok_11 : ∀ e ∈ mjR_11, ∀ w ∈ mjWords e, w ∈ mjT := mjOk3_mem _ mjP_11 (by decide +kernel)
def mjP_12 : List (List (Nat × Nat)) := [[(7, 48), (1, 26), (1, 27)], [(7, 49)], [(7, 50)], [(7, 51)], [(7, 53)], [(7, 54)], [(7, 55)], [(7, 59)], [(7, 60)], [(7, 61)], [(7, 62)], [(7, 74)], [(7, 75)], [(7, 76)], [(7, 77)], [(7, 78)], [(7, 79)], [(7, 80)], [(7, 82)], [(7, 185)], [(7, 163), (7, 164), (1, 13)], [(7, 162)], [(8, 61)], [(7, 237), (7, 239), (0, 9), (1, 13)], [(8, 14), (8, 16), (0, 12), (1, 13)], [(8, 18), (8, 20), (0, 13), (1, 13)], [(7, 159), (7, 160), (1, 13)], [(7, 166)], [(7, 167)], [(7, 168)], [(7, 169), (7, 171), (0, 1), (1, 13)], [(7, 194), (7, 196), (0, 5), (1, 13)], [(7, 190), (7, 192), (0, 4), (1, 13)], [(7, 177), (7, 179), (0, 2), (1, 13)], [(7, 181)], [(7, 182), (7, 183), (1, 13)], [(7, 186), (7, 188), (0, 3), (1, 13)], [(7, 202)], [(7, 203), (7, 205), (0, 6), (1, 13)], [(7, 215)], [(7, 233), (7, 235), (0, 8), (1, 13)], [(7, 228)], [(7, 229), (7, 231), (0, 7), (1, 13)], [(8, 9)], [(8, 10), (8, 12), (0, 11), (1, 13)], [(8, 22)], [(8, 23)], [(8, 24)], [(8, 25)], [(8, 5), (8, 7), (0, 10), (1, 13)], [(8, 26), (8, 28), (0, 14), (1, 13)], [(8, 34), (8, 36), (0, 15), (1, 13)], [(8, 42)], [(8, 47)], [(8, 48)], [(8, 53)], [(8, 58), (8, 59), (1, 13)], [(8, 62)], [(8, 67), (8, 69), (0, 16), (1, 13)], [(8, 84), (8, 86), (0, 19), (1, 13)], [(7, 56)], [(7, 57)], [(7, 58)], [(8, 80), (8, 82), (0, 18), (1, 13)], [(8, 88), (8, 90), (0, 20), (1, 13)], [(8, 96), (8, 98), (0, 22), (1, 13)], [(8, 75)], [(8, 76), (8, 78), (0, 17), (1, 13)], [(8, 111), (8, 113), (0, 24), (1, 13)], [(8, 126), (8, 128), (0, 27), (1, 13)], [(8, 107), (8, 109), (0, 23), (1, 13)], [(8, 115), (8, 117), (0, 25), (1, 13)], [(8, 119), (8, 120), (1, 13)], [(8, 122), (8, 124), (0, 26), (1, 13)], [(8, 130), (8, 132), (0, 28), (1, 13)], [(8, 146), (8, 148), (0, 29), (1, 13)], [(8, 154), (8, 156), (0, 30), (1, 13)], [(8, 166), (8, 168), (0, 32), (1, 13)], [(8, 162), (8, 164), (0, 31), (1, 13)], [(8, 178), (8, 180), (0, 34), (1, 13)], [(8, 174), (8, 176), (0, 33), (1, 13)], [(7, 63)], [(8, 207)], [(8, 208)], [(8, 213)], [(8, 214)], [(7, 65)], [(7, 66)], [(7, 64)], [(8, 203), (8, 205), (0, 37), (1, 13)], [(7, 68)], [(8, 209), (8, 211), (0, 38), (1, 13)], [(7, 67)], [(8, 219), (8, 221), (0, 40), (1, 13)], [(8, 223), (8, 225), (0, 41), (1, 13)], [(7, 72)], [(7, 71)], [(8, 231), (8, 233), (0, 43), (1, 13)], [(9, 18), (9, 20), (0, 49), (1, 13)], [(8, 199), (8, 201), (0, 36), (1, 13)], [(9, 11), (9, 13), (0, 48), (1, 13)], [(8, 235), (8, 237), (0, 44), (1, 13)], [(8, 239), (9, 1), (0, 45), (1, 13)], [(9, 3), (9, 5), (0, 46), (1, 13)], [(9, 7), (9, 9), (0, 47), (1, 13)], [(7, 73)], [(9, 15), (9, 16), (1, 13)], [(7, 70)], [(7, 69)], [(8, 227), (8, 229), (0, 42), (1, 13)], [(8, 92), (8, 94), (0, 21), (1, 13)], [(8, 215), (8, 217), (0, 39), (1, 13)], [(8, 194)], [(8, 195), (8, 197), (0, 35), (1, 13)], [(9, 26), (9, 28), (0, 50), (1, 13)], [(9, 30)], [(8, 100), (8, 101), (1, 13)], [(9, 43)], [(9, 44), (9, 46), (0, 51), (1, 13)], [(9, 48), (9, 50), (0, 52), (1, 13)], [(9, 56), (9, 40), (9, 41), (1, 13)], [(9, 61), (9, 62), (1, 13)], [(9, 64)], [(9, 65)], [(9, 70)], [(9, 71)], [(9, 72)], [(9, 73)], [(9, 78), (9, 80), (0, 53), (1, 13)], [(9, 94)], [(9, 99)], [(9, 100), (9, 102), (0, 54), (1, 13)], [(9, 104), (9, 105), (1, 13)], [(9, 107), (9, 109), (0, 55), (1, 13)], [(9, 135), (9, 137), (0, 58), (1, 13)], [(9, 131), (9, 133), (0, 57), (1, 13)], [(9, 127), (9, 129), (0, 56), (1, 13)], [(9, 147)], [(9, 159), (9, 161), (0, 60), (1, 13)], [(9, 163), (9, 165), (0, 61), (1, 13)], [(9, 152), (9, 153), (1, 13)], [(9, 155), (9, 157), (0, 59), (1, 13)], [(7, 81)], [(7, 83)], [(9, 179), (9, 181), (0, 63), (1, 13)], [(9, 187)], [(7, 52)], [(9, 188), (9, 190), (0, 65), (1, 13)], [(9, 192), (9, 194), (0, 66), (1, 13)], [(9, 175), (9, 177), (0, 62), (1, 13)], [(9, 183), (9, 185), (0, 64), (1, 13)]]
theorem mjRok_12 : ∀ e ∈ mjR_12, ∀ w ∈ mjWords e, w ∈ mjT := mjOk3_mem _ mjP_12 (by decide +kernel)
def mjP_13 : List (List (Nat × Nat)) := [[(1, 20), (1, 21), (1, 1)], [(1, 22), (1, 23), (1, 1)], [(7, 43), (7, 44), (1, 13)], [(7, 45), (7, 46), (1, 13)], [(2, 183), (2, 184), (2, 185), (1, 1)], [(7, 155), (7, 156), (7, 157), (1, 13)], [(2, 197), (2, 198), (2, 199), (1, 1)], [(7, 173), (7, 174), (7, 175), (1, 13)], [(2, 217), (2, 218), (2, 219), (1, 1)], [(7, 198), (7, 199), (7, 200), (1, 13)], [(2, 225), (2, 226), (2, 227), (1, 1)], [(7, 207), (7, 208), (7, 209), (1, 13)], [(2, 233), (2, 234), (2, 235), (1, 1)], [(7, 211), (7, 212), (7, 213), (1, 13)], [(3, 2), (3, 3), (3, 4), (1, 1)], [(7, 216), (7, 217), (7, 218), (1, 13)], [(3, 10), (3, 11), (3, 12), (1, 1)], [(7, 220), (7, 221), (7, 222), (1, 13)], [(3, 20), (3, 21), (3, 22), (1, 1)], [(7, 224), (7, 225), (7, 226), (1, 13)], [(3, 50), (3, 51), (3, 52), (1, 1)], [(8, 1), (8, 2), (8, 3), (1, 13)], [(3, 81), (3, 82), (3, 83), (1, 1)], [(8, 30), (8, 31), (8, 32), (1, 13)], [(3, 93), (3, 94), (3, 95), (1, 1)], [(8, 38), (8, 39), (8, 40), (1, 13)], [(3, 101), (3, 102), (3, 103), (1, 1)], [(8, 43), (8, 44), (8, 45), (1, 13)], [(3, 114), (3, 115), (3, 116), (1, 1)], [(8, 49), (8, 50), (8, 51), (1, 13)], [(3, 122), (3, 123), (3, 124), (1, 1)], [(8, 54), (8, 55), (8, 56), (1, 13)], [(3, 134), (3, 135), (3, 136), (1, 1)], [(8, 63), (8, 64), (8, 65), (1, 13)], [(3, 153), (3, 154), (3, 155), (1, 1)], [(8, 71), (8, 72), (8, 73), (1, 13)], [(4, 2), (4, 3), (4, 4), (1, 1)], [(8, 103), (8, 104), (8, 105), (1, 13)], [(4, 76), (4, 77), (4, 78), (1, 1)], [(8, 134), (8, 135), (8, 136), (1, 13)], [(4, 97), (4, 98), (4, 99), (1, 1)], [(8, 138), (8, 139), (8, 140), (1, 13)], [(4, 105), (4, 106), (4, 107), (1, 1)], [(8, 142), (8, 143), (8, 144), (1, 13)], [(4, 120), (4, 121), (4, 122), (1, 1)], [(8, 150), (8, 151), (8, 152), (1, 13)], [(4, 132), (4, 133), (4, 134), (1, 1)], [(8, 158), (8, 159), (8, 160), (1, 13)], [(4, 156), (4, 157), (4, 158), (1, 1)], [(8, 170), (8, 171), (8, 172), (1, 13)], [(4, 186), (4, 187), (4, 188), (1, 1)], [(8, 182), (8, 183), (8, 184), (1, 13)], [(4, 199), (4, 200), (4, 201), (1, 1)], [(8, 186), (8, 187), (8, 188), (1, 13)], [(4, 209), (4, 210), (4, 211), (1, 1)], [(8, 190), (8, 191), (8, 192), (1, 13)], [(5, 131), (5, 132), (5, 133), (1, 1)], [(9, 22), (9, 23), (9, 24), (1, 13)], [(5, 140), (5, 141), (5, 142), (1, 1)], [(9, 31), (9, 32), (9, 33), (1, 13)], [(5, 146), (5, 147), (5, 148), (1, 1)], [(9, 35), (9, 36), (9, 37), (1, 13)], [(5, 154), (5, 155), (5, 156), (1, 1)], [(9, 39), (9, 40), (9, 41), (1, 13)], [(5, 174), (5, 175), (5, 176), (1, 1)], [(9, 52), (9, 53), (9, 54), (1, 13)], [(5, 185), (5, 186), (5, 187), (1, 1)], [(9, 57), (9, 58), (9, 59), (1, 13)], [(5, 200), (5, 201), (5, 202), (1, 1)], [(9, 66), (9, 67), (9, 68), (1, 13)], [(5, 222), (5, 223), (5, 224), (1, 1)], [(9, 74), (9, 75), (9, 76), (1, 13)], [(5, 234), (5, 235), (5, 236), (1, 1)], [(9, 82), (9, 83), (9, 84), (1, 13)], [(6, 6), (6, 7), (6, 8), (1, 1)], [(9, 86), (9, 87), (9, 88), (1, 13)], [(6, 16), (6, 17), (6, 18), (1, 1)], [(9, 90), (9, 91), (9, 92), (1, 13)], [(6, 26), (6, 27), (6, 28), (1, 1)], [(9, 95), (9, 96), (9, 97), (1, 13)], [(6, 68), (6, 69), (6, 70), (1, 1)], [(9, 111), (9, 112), (9, 113), (1, 13)], [(6, 77), (6, 78), (6, 79), (1, 1)], [(9, 115), (9, 116), (9, 117), (1, 13)], [(6, 98), (6, 99), (6, 100), (1, 1)], [(9, 119), (9, 120), (9, 121), (1, 13)], [(6, 107), (6, 108), (6, 109), (1, 1)], [(9, 123), (9, 124), (9, 125), (1, 13)], [(6, 143), (6, 144), (6, 145), (1, 1)], [(9, 139), (9, 140), (9, 141), (1, 13)], [(6, 155), (6, 156), (6, 157), (1, 1)], [(9, 143), (9, 144), (9, 145), (1, 13)], [(6, 166), (6, 167), (6, 168), (1, 1)], [(9, 148), (9, 149), (9, 150), (1, 13)], [(6, 191), (6, 192), (6, 193), (1, 1)], [(9, 167), (9, 168), (9, 169), (1, 13)], [(6, 196), (6, 197), (6, 198), (1, 1)], [(9, 171), (9, 172), (9, 173), (1, 13)], [(6, 221), (6, 222), (6, 223), (1, 1)], [(9, 196), (9, 197), (9, 198), (1, 13)], [(7, 23), (7, 24), (7, 25), (1, 1)], [(9, 200), (9, 201), (9, 202), (1, 13)], [(7, 27), (7, 28), (7, 29), (1, 1)], [(9, 204), (9, 205), (9, 206), (1, 13)]]
theorem mjRok_13 : ∀ e ∈ mjR_13, ∀ w ∈ mjWords e, w ∈ mjT := mjOk3_mem _ mjP_13 (by decide +kernel)
def mjP_14 : List (List (Nat × Nat)) := [[(6, 65)], [(6, 66)], [(6, 67)]]
theorem mjRok_14 : ∀ e ∈ mjR_14, ∀ w ∈ mjWords e, w ∈ mjT := mjOk3_mem _ mjP_14 (by decide +kernel)
def mjP_15 : List (List (Nat × Nat)) := []
theorem mjRok_15 : ∀ e ∈ mjR_15, ∀ w ∈ mjWords e, w ∈ mjT := mjOk3_mem _ mjP_15 (by decide +kernel)
theorem mjR_words {own idx : Nat} {e : mRe} (h : mjR own idx = some e) : e.2.1 = idx ∧ ∀ w ∈ mjWords e, w ∈ mjT := by
  unfold mjR at h
  split at h
  · cases h
  · next l hl =>
    have h1 := List.mem_of_find?_eq_some h
    have h2 := List.find?_some h
    refine ⟨by simpa using h2, ?_⟩
    have hl' := List.mem_of_getElem? hl
    simp only [mjRs, List.mem_cons, List.not_mem_nil, or_false] at hl'
    rcases hl' with rfl | rfl | rfl | rfl | rfl | rfl | rfl | rfl | rfl | rfl | rfl | rfl | rfl | rfl | rfl | rfl
    · exact mjRok_0 e h1
    · exact mjRok_1 e h1
    · exact mjRok_2 e h1
    · exact mjRok_3 e h1
    · exact mjRok_4 e h1
    · exact mjRok_5 e h1
    · exact mjRok_6 e h1
    · exact mjRok_7 e h1
    · exact mjRok_8 e h1
    · exact mjRok_9 e h1
    · exact mjRok_10 e h1
    · exact mjRok_11 e h1
    · exact mjRok_12 e h1
    · exact mjRok_13 e h1
    · exact mjRok_14 e h1
    · exact mjRok_15 e h1
def mjOwnOk : List (List mRe) → Nat → Bool
  | [], _ => true
  | l :: ls, k => l.all (fun e => e.1 == k) && mjOwnOk ls (k + 1)
theorem mjOwnOk_at : ∀ (ls : List (List mRe)) (k : Nat), mjOwnOk ls k = true → ∀ (j : Nat) (l : List mRe), ls[j]? = some l → ∀ e ∈ l, e.1 = k + j := by
  intro ls
  induction ls with
  | nil => intro k _ j l hl; simp at hl
  | cons a ls ih =>
    intro k h j l hl e he
    simp only [mjOwnOk, Bool.and_eq_true] at h
    cases j with
    | zero =>
      simp only [List.getElem?_cons_zero, Option.some.injEq] at hl
      subst hl
      have h3 := List.all_eq_true.mp h.1 e he
      simpa using h3
    | succ j =>
      simp only [List.getElem?_cons_succ] at hl
      have := ih (k + 1) h.2 j l hl e he
      omega
theorem mjRs_own : mjOwnOk mjRs 0 = true := by decide +kernel
theorem mjR_own {own idx : Nat} {e : mRe} (h : mjR own idx = some e) : e.1 = own := by
  unfold mjR at h
  split at h
  · cases h
  · next l hl =>
    have := mjOwnOk_at mjRs 0 mjRs_own own l hl e (List.mem_of_find?_eq_some h)
    omega
def mjMw (q : mMd) : Cond := .code q.1 q.2.1 q.2.2.1 q.2.2.2.1
theorem mjTab_1 : ∀ w ∈ tables_1_1, w ∈ lw_tbl := mjTabs_in _ (List.mem_of_getElem? (i := 1) rfl)
theorem mjTab_2 : ∀ w ∈ tables_1_2, w ∈ lw_tbl := mjTabs_in _ (List.mem_of_getElem? (i := 2) rfl)
theorem mjTab_3 : ∀ w ∈ tables_1_3, w ∈ lw_tbl := mjTabs_in _ (List.mem_of_getElem? (i := 3) rfl)
theorem mjTab_4 : ∀ w ∈ tables_1_4, w ∈ lw_tbl := mjTabs_in _ (List.mem_of_getElem? (i := 4) rfl)
theorem mjTab_5 : ∀ w ∈ tables_1_5, w ∈ lw_tbl := mjTabs_in _ (List.mem_of_getElem? (i := 5) rfl)
theorem mjTab_6 : ∀ w ∈ tables_1_6, w ∈ lw_tbl := mjTabs_in _ (List.mem_of_getElem? (i := 6) rfl)
theorem mjTab_7 : ∀ w ∈ tables_1_7, w ∈ lw_tbl := mjTabs_in _ (List.mem_of_getElem? (i := 7) rfl)
theorem mjTab_8 : ∀ w ∈ tables_1_8, w ∈ lw_tbl := mjTabs_in _ (List.mem_of_getElem? (i := 8) rfl)
theorem mjTab_9 : ∀ w ∈ tables_1_9, w ∈ lw_tbl := mjTabs_in _ (List.mem_of_getElem? (i := 9) rfl)
theorem mjInc {l : List Cond} {q : mMd} (hl : ∀ w ∈ l, w ∈ lw_tbl) (i : Nat) (h : l[i]? = some (mjMw q)) (hg : goodWord (mjMw q) = true) : q.2.2.2.2 ≠ 13 → mjMw q ∈ mjT := fun _ => List.mem_filter.mpr ⟨hl _ (List.mem_of_getElem? h), hg⟩
theorem mjMc_0 : (0 : Nat) ≠ 13 → mjMw (yX0_init, cX0_init, 1, none, 0) ∈ mjT := mjInc (q := (yX0_init, cX0_init, 1, none, 0)) mjTab_2 140 rfl rfl
theorem mjMc_1 : (0 : Nat) ≠ 13 → mjMw (yX0_open, cX0_open, 5, (some .int), 0) ∈ mjT := mjInc (q := (yX0_open, cX0_open, 5, (some .int), 0)) mjTab_5 192 rfl rfl
theorem mjMc_2 : (0 : Nat) ≠ 13 → mjMw (yX0_isOffice, cX0_isOffice, 2, (some .boolean), 0) ∈ mjT := mjInc (q := (yX0_isOffice, cX0_isOffice, 2, (some .boolean), 0)) mjTab_5 196 rfl rfl
theorem mjMc_3 : (0 : Nat) ≠ 13 → mjMw (yX0_hasYear, cX0_hasYear, 3, (some .boolean), 0) ∈ mjT := mjInc (q := (yX0_hasYear, cX0_hasYear, 3, (some .boolean), 0)) mjTab_5 216 rfl rfl
theorem mjMc_4 : (0 : Nat) ≠ 13 → mjMw (yX0_refusalOfYear, cX0_refusalOfYear, 3, (some .int), 0) ∈ mjT := mjInc (q := (yX0_refusalOfYear, cX0_refusalOfYear, 3, (some .int), 0)) mjTab_5 211 rfl rfl
theorem mjMc_5 : (0 : Nat) ≠ 13 → mjMw (yX0_write, cX0_write, 5, (some .int), 0) ∈ mjT := mjInc (q := (yX0_write, cX0_write, 5, (some .int), 0)) mjTab_5 207 rfl rfl
theorem mjMc_6 : (0 : Nat) ≠ 13 → mjMw (yX0_yearRead, cX0_yearRead, 4, (some .int), 0) ∈ mjT := mjInc (q := (yX0_yearRead, cX0_yearRead, 4, (some .int), 0)) mjTab_5 233 rfl rfl
theorem mjMc_7 : (0 : Nat) ≠ 13 → mjMw (yX0_readAt, cX0_readAt, 5, (some .int), 0) ∈ mjT := mjInc (q := (yX0_readAt, cX0_readAt, 5, (some .int), 0)) mjTab_5 229 rfl rfl
theorem mjMc_8 : (0 : Nat) ≠ 13 → mjMw (yX0_reaches, cX0_reaches, 4, (some .boolean), 0) ∈ mjT := mjInc (q := (yX0_reaches, cX0_reaches, 4, (some .boolean), 0)) mjTab_6 5 rfl rfl
theorem mjMc_9 : (0 : Nat) ≠ 13 → mjMw (yX0_carryOver, cX0_carryOver, 7, (some .int), 0) ∈ mjT := mjInc (q := (yX0_carryOver, cX0_carryOver, 7, (some .int), 0)) mjTab_6 1 rfl rfl
theorem mjMc_10 : (0 : Nat) ≠ 13 → mjMw (yX0_spanOf, cX0_spanOf, 9, (some .int), 0) ∈ mjT := mjInc (q := (yX0_spanOf, cX0_spanOf, 9, (some .int), 0)) mjTab_6 13 rfl rfl
theorem mjMc_11 : (1 : Nat) ≠ 13 → mjMw (yX1_init, cX1_init, 1, none, 1) ∈ mjT := mjInc (q := (yX1_init, cX1_init, 1, none, 1)) mjTab_1 32 rfl rfl
theorem mjMc_12 : (1 : Nat) ≠ 13 → mjMw (yX1_become, cX1_become, 2, none, 1) ∈ mjT := mjInc (q := (yX1_become, cX1_become, 2, none, 1)) mjTab_6 228 rfl rfl
theorem mjMc_13 : (1 : Nat) ≠ 13 → mjMw (yX1_hourNow, cX1_hourNow, 1, (some .int), 1) ∈ mjT := mjInc (q := (yX1_hourNow, cX1_hourNow, 1, (some .int), 1)) mjTab_3 215 rfl rfl
theorem mjMc_14 : (1 : Nat) ≠ 13 → mjMw (yX1_setStopped, cX1_setStopped, 3, (some .int), 1) ∈ mjT := mjInc (q := (yX1_setStopped, cX1_setStopped, 3, (some .int), 1)) mjTab_3 17 rfl rfl
theorem mjMc_15 : (1 : Nat) ≠ 13 → mjMw (yX1_goOn, cX1_goOn, 3, (some .int), 1) ∈ mjT := mjInc (q := (yX1_goOn, cX1_goOn, 3, (some .int), 1)) mjTab_3 27 rfl rfl
theorem mjMc_16 : (1 : Nat) ≠ 13 → mjMw (yX1_hasRead, cX1_hasRead, 3, (some .boolean), 1) ∈ mjT := mjInc (q := (yX1_hasRead, cX1_hasRead, 3, (some .boolean), 1)) mjTab_3 144 rfl rfl
theorem mjMc_17 : (1 : Nat) ≠ 13 → mjMw (yX1_voiceOf, cX1_voiceOf, 4, (some .int), 1) ∈ mjT := mjInc (q := (yX1_voiceOf, cX1_voiceOf, 4, (some .int), 1)) mjTab_3 179 rfl rfl
theorem mjMc_18 : (1 : Nat) ≠ 13 → mjMw (yX1_poll, cX1_poll, 4, none, 1) ∈ mjT := mjInc (q := (yX1_poll, cX1_poll, 4, none, 1)) mjTab_3 167 rfl rfl
theorem mjMc_19 : (1 : Nat) ≠ 13 → mjMw (yX1_countVoters, cX1_countVoters, 3, none, 1) ∈ mjT := mjInc (q := (yX1_countVoters, cX1_countVoters, 3, none, 1)) mjTab_4 26 rfl rfl
theorem mjMc_20 : (1 : Nat) ≠ 13 → mjMw (yX1_polledPasses, cX1_polledPasses, 3, (some .boolean), 1) ∈ mjT := mjInc (q := (yX1_polledPasses, cX1_polledPasses, 3, (some .boolean), 1)) mjTab_3 211 rfl rfl
theorem mjMc_21 : (1 : Nat) ≠ 13 → mjMw (yX1_mayBePut, cX1_mayBePut, 3, (some .boolean), 1) ∈ mjT := mjInc (q := (yX1_mayBePut, cX1_mayBePut, 3, (some .boolean), 1)) mjTab_4 21 rfl rfl
theorem mjMc_22 : (1 : Nat) ≠ 13 → mjMw (yX1_voteFact, cX1_voteFact, 4, (some .int), 1) ∈ mjT := mjInc (q := (yX1_voteFact, cX1_voteFact, 4, (some .int), 1)) mjTab_3 160 rfl rfl
theorem mjMc_23 : (1 : Nat) ≠ 13 → mjMw (yX1_putToVote, cX1_putToVote, 4, (some .int), 1) ∈ mjT := mjInc (q := (yX1_putToVote, cX1_putToVote, 4, (some .int), 1)) mjTab_4 9 rfl rfl
theorem mjMc_24 : (1 : Nat) ≠ 13 → mjMw (yX1_letRulingWork, cX1_letRulingWork, 2, (some .int), 1) ∈ mjT := mjInc (q := (yX1_letRulingWork, cX1_letRulingWork, 2, (some .int), 1)) mjTab_4 83 rfl rfl
theorem mjMc_25 : (1 : Nat) ≠ 13 → mjMw (yX1_worthInOrder, cX1_worthInOrder, 4, (some .int), 1) ∈ mjT := mjInc (q := (yX1_worthInOrder, cX1_worthInOrder, 4, (some .int), 1)) mjTab_4 149 rfl rfl
theorem mjMc_26 : (1 : Nat) ≠ 13 → mjMw (yX1_layRow, cX1_layRow, 4, (some .int), 1) ∈ mjT := mjInc (q := (yX1_layRow, cX1_layRow, 4, (some .int), 1)) mjTab_4 143 rfl rfl
theorem mjMc_27 : (1 : Nat) ≠ 13 → mjMw (yX1_placeInRow, cX1_placeInRow, 5, none, 1) ∈ mjT := mjInc (q := (yX1_placeInRow, cX1_placeInRow, 5, none, 1)) mjTab_4 155 rfl rfl
theorem mjMc_28 : (1 : Nat) ≠ 13 → mjMw (yX1_inRow, cX1_inRow, 2, (some .int), 1) ∈ mjT := mjInc (q := (yX1_inRow, cX1_inRow, 2, (some .int), 1)) mjTab_4 139 rfl rfl
theorem mjMc_29 : (1 : Nat) ≠ 13 → mjMw (yX1_bindWorth, cX1_bindWorth, 4, (some .int), 1) ∈ mjT := mjInc (q := (yX1_bindWorth, cX1_bindWorth, 4, (some .int), 1)) mjTab_4 172 rfl rfl
theorem mjMc_30 : (1 : Nat) ≠ 13 → mjMw (yX1_bindingSum, cX1_bindingSum, 8, (some .int), 1) ∈ mjT := mjInc (q := (yX1_bindingSum, cX1_bindingSum, 8, (some .int), 1)) mjTab_4 168 rfl rfl
theorem mjMc_31 : (1 : Nat) ≠ 13 → mjMw (yX1_lineFact, cX1_lineFact, 3, (some .int), 1) ∈ mjT := mjInc (q := (yX1_lineFact, cX1_lineFact, 3, (some .int), 1)) mjTab_4 163 rfl rfl
theorem mjMc_32 : (1 : Nat) ≠ 13 → mjMw (yX1_addIncome, cX1_addIncome, 3, (some .int), 1) ∈ mjT := mjInc (q := (yX1_addIncome, cX1_addIncome, 3, (some .int), 1)) mjTab_5 153 rfl rfl
theorem mjMc_33 : (1 : Nat) ≠ 13 → mjMw (yX1_incomeAt, cX1_incomeAt, 4, (some .int), 1) ∈ mjT := mjInc (q := (yX1_incomeAt, cX1_incomeAt, 4, (some .int), 1)) mjTab_5 165 rfl rfl
theorem mjMc_34 : (1 : Nat) ≠ 13 → mjMw (yX1_balanceFact, cX1_balanceFact, 2, (some .int), 1) ∈ mjT := mjInc (q := (yX1_balanceFact, cX1_balanceFact, 2, (some .int), 1)) mjTab_5 161 rfl rfl
theorem mjMc_35 : (1 : Nat) ≠ 13 → mjMw (yX1_breakInRow, cX1_breakInRow, 7, (some .int), 1) ∈ mjT := mjInc (q := (yX1_breakInRow, cX1_breakInRow, 7, (some .int), 1)) mjTab_5 181 rfl rfl
theorem mjMc_36 : (1 : Nat) ≠ 13 → mjMw (yX1_tellNight, cX1_tellNight, 6, (some .int), 1) ∈ mjT := mjInc (q := (yX1_tellNight, cX1_tellNight, 6, (some .int), 1)) mjTab_6 211 rfl rfl
theorem mjMc_37 : (1 : Nat) ≠ 13 → mjMw (yX1_countOf, cX1_countOf, 2, (some .int), 1) ∈ mjT := mjInc (q := (yX1_countOf, cX1_countOf, 2, (some .int), 1)) mjTab_7 34 rfl rfl
theorem mjMc_38 : (2 : Nat) ≠ 13 → mjMw (yX2_init, cX2_init, 1, none, 2) ∈ mjT := mjInc (q := (yX2_init, cX2_init, 1, none, 2)) mjTab_1 38 rfl rfl
theorem mjMc_39 : (2 : Nat) ≠ 13 → mjMw (yX2_become, cX2_become, 2, none, 2) ∈ mjT := mjInc (q := (yX2_become, cX2_become, 2, none, 2)) mjTab_6 232 rfl rfl
theorem mjMc_40 : (2 : Nat) ≠ 13 → mjMw (yX2_has, cX2_has, 2, (some .boolean), 2) ∈ mjT := mjInc (q := (yX2_has, cX2_has, 2, (some .boolean), 2)) mjTab_2 208 rfl rfl
theorem mjMc_41 : (2 : Nat) ≠ 13 → mjMw (yX2_add, cX2_add, 3, (some .int), 2) ∈ mjT := mjInc (q := (yX2_add, cX2_add, 3, (some .int), 2)) mjTab_2 190 rfl rfl
theorem mjMc_42 : (2 : Nat) ≠ 13 → mjMw (yX2_factOf, cX2_factOf, 4, (some .int), 2) ∈ mjT := mjInc (q := (yX2_factOf, cX2_factOf, 4, (some .int), 2)) mjTab_2 204 rfl rfl
theorem mjMc_43 : (2 : Nat) ≠ 13 → mjMw (yX2_partyOf, cX2_partyOf, 2, (some .int), 2) ∈ mjT := mjInc (q := (yX2_partyOf, cX2_partyOf, 2, (some .int), 2)) mjTab_3 183 rfl rfl
theorem mjMc_44 : (2 : Nat) ≠ 13 → mjMw (yX2_tonguesOf, cX2_tonguesOf, 2, (some .int), 2) ∈ mjT := mjInc (q := (yX2_tonguesOf, cX2_tonguesOf, 2, (some .int), 2)) mjTab_3 148 rfl rfl
theorem mjMc_45 : (2 : Nat) ≠ 13 → mjMw (yX2_isIn, cX2_isIn, 2, (some .boolean), 2) ∈ mjT := mjInc (q := (yX2_isIn, cX2_isIn, 2, (some .boolean), 2)) mjTab_3 175 rfl rfl
theorem mjMc_46 : (2 : Nat) ≠ 13 → mjMw (yX2_isPresent, cX2_isPresent, 3, (some .boolean), 2) ∈ mjT := mjInc (q := (yX2_isPresent, cX2_isPresent, 3, (some .boolean), 2)) mjTab_3 171 rfl rfl
theorem mjMc_47 : (2 : Nat) ≠ 13 → mjMw (yX2_countVote, cX2_countVote, 2, none, 2) ∈ mjT := mjInc (q := (yX2_countVote, cX2_countVote, 2, none, 2)) mjTab_4 30 rfl rfl
theorem mjMc_48 : (2 : Nat) ≠ 13 → mjMw (yX2_setTrain, cX2_setTrain, 5, (some .int), 2) ∈ mjT := mjInc (q := (yX2_setTrain, cX2_setTrain, 5, (some .int), 2)) mjTab_2 224 rfl rfl
theorem mjMc_49 : (2 : Nat) ≠ 13 → mjMw (yX2_setIn, cX2_setIn, 4, (some .int), 2) ∈ mjT := mjInc (q := (yX2_setIn, cX2_setIn, 4, (some .int), 2)) mjTab_2 232 rfl rfl
theorem mjMc_50 : (2 : Nat) ≠ 13 → mjMw (yX2_leaves, cX2_leaves, 4, (some .boolean), 2) ∈ mjT := mjInc (q := (yX2_leaves, cX2_leaves, 4, (some .boolean), 2)) mjTab_3 49 rfl rfl
theorem mjMc_51 : (2 : Nat) ≠ 13 → mjMw (yX2_leaveBetween, cX2_leaveBetween, 4, none, 2) ∈ mjT := mjInc (q := (yX2_leaveBetween, cX2_leaveBetween, 4, none, 2)) mjTab_3 45 rfl rfl
theorem mjMc_52 : (2 : Nat) ≠ 13 → mjMw (yX2_stillIn, cX2_stillIn, 5, (some .int), 2) ∈ mjT := mjInc (q := (yX2_stillIn, cX2_stillIn, 5, (some .int), 2)) mjTab_6 215 rfl rfl
theorem mjMc_53 : (2 : Nat) ≠ 13 → mjMw (yX2_inOfParty, cX2_inOfParty, 4, (some .int), 2) ∈ mjT := mjInc (q := (yX2_inOfParty, cX2_inOfParty, 4, (some .int), 2)) mjTab_6 43 rfl rfl
theorem mjMc_54 : (2 : Nat) ≠ 13 → mjMw (yX2_holds, cX2_holds, 3, (some .boolean), 2) ∈ mjT := mjInc (q := (yX2_holds, cX2_holds, 3, (some .boolean), 2)) mjTab_2 216 rfl rfl
theorem mjMc_55 : (2 : Nat) ≠ 13 → mjMw (yX2_pairOf, cX2_pairOf, 4, (some .int), 2) ∈ mjT := mjInc (q := (yX2_pairOf, cX2_pairOf, 4, (some .int), 2)) mjTab_2 212 rfl rfl
theorem mjMc_56 : (2 : Nat) ≠ 13 → mjMw (yX2_addPair, cX2_addPair, 5, (some .int), 2) ∈ mjT := mjInc (q := (yX2_addPair, cX2_addPair, 5, (some .int), 2)) mjTab_3 0 rfl rfl
theorem mjMc_57 : (2 : Nat) ≠ 13 → mjMw (yX2_breakPair, cX2_breakPair, 3, (some .int), 2) ∈ mjT := mjInc (q := (yX2_breakPair, cX2_breakPair, 3, (some .int), 2)) mjTab_3 9 rfl rfl
theorem mjMc_58 : (2 : Nat) ≠ 13 → mjMw (yX2_pairsThatHold, cX2_pairsThatHold, 4, (some .int), 2) ∈ mjT := mjInc (q := (yX2_pairsThatHold, cX2_pairsThatHold, 4, (some .int), 2)) mjTab_7 38 rfl rfl
theorem mjMc_59 : (3 : Nat) ≠ 13 → mjMw (yX3_init, cX3_init, 1, none, 3) ∈ mjT := mjInc (q := (yX3_init, cX3_init, 1, none, 3)) mjTab_1 229 rfl rfl
theorem mjMc_60 : (3 : Nat) ≠ 13 → mjMw (yX3_become, cX3_become, 2, none, 3) ∈ mjT := mjInc (q := (yX3_become, cX3_become, 2, none, 3)) mjTab_7 21 rfl rfl
theorem mjMc_61 : (3 : Nat) ≠ 13 → mjMw (yX3_add, cX3_add, 5, (some .int), 3) ∈ mjT := mjInc (q := (yX3_add, cX3_add, 5, (some .int), 3)) mjTab_6 162 rfl rfl
theorem mjMc_62 : (3 : Nat) ≠ 13 → mjMw (yX3_sumOf, cX3_sumOf, 5, (some .int), 3) ∈ mjT := mjInc (q := (yX3_sumOf, cX3_sumOf, 5, (some .int), 3)) mjTab_6 182 rfl rfl
theorem mjMc_63 : (3 : Nat) ≠ 13 → mjMw (yX3_agrees, cX3_agrees, 3, (some .boolean), 3) ∈ mjT := mjInc (q := (yX3_agrees, cX3_agrees, 3, (some .boolean), 3)) mjTab_6 186 rfl rfl
theorem mjMc_64 : (3 : Nat) ≠ 13 → mjMw (yX3_searchNight, cX3_searchNight, 5, (some .int), 3) ∈ mjT := mjInc (q := (yX3_searchNight, cX3_searchNight, 5, (some .int), 3)) mjTab_6 177 rfl rfl
theorem mjMc_65 : (3 : Nat) ≠ 13 → mjMw (yX3_takeIfLess, cX3_takeIfLess, 5, none, 3) ∈ mjT := mjInc (q := (yX3_takeIfLess, cX3_takeIfLess, 5, none, 3)) mjTab_6 190 rfl rfl
theorem mjMc_66 : (3 : Nat) ≠ 13 → mjMw (yX3_nightFact, cX3_nightFact, 5, (some .int), 3) ∈ mjT := mjInc (q := (yX3_nightFact, cX3_nightFact, 5, (some .int), 3)) mjTab_6 173 rfl rfl
theorem mjMc_67 : (3 : Nat) ≠ 13 → mjMw (yX3_nightRows, cX3_nightRows, 8, (some .int), 3) ∈ mjT := mjInc (q := (yX3_nightRows, cX3_nightRows, 8, (some .int), 3)) mjTab_6 203 rfl rfl
theorem mjMc_68 : (4 : Nat) ≠ 13 → mjMw (yX4_init, cX4_init, 1, none, 4) ∈ mjT := mjInc (q := (yX4_init, cX4_init, 1, none, 4)) mjTab_1 77 rfl rfl
theorem mjMc_69 : (4 : Nat) ≠ 13 → mjMw (yX4_become, cX4_become, 2, none, 4) ∈ mjT := mjInc (q := (yX4_become, cX4_become, 2, none, 4)) mjTab_6 237 rfl rfl
theorem mjMc_70 : (4 : Nat) ≠ 13 → mjMw (yX4_has, cX4_has, 2, (some .boolean), 4) ∈ mjT := mjInc (q := (yX4_has, cX4_has, 2, (some .boolean), 4)) mjTab_3 40 rfl rfl
theorem mjMc_71 : (4 : Nat) ≠ 13 → mjMw (yX4_kindOf, cX4_kindOf, 2, (some .int), 4) ∈ mjT := mjInc (q := (yX4_kindOf, cX4_kindOf, 2, (some .int), 4)) mjTab_3 72 rfl rfl
theorem mjMc_72 : (4 : Nat) ≠ 13 → mjMw (yX4_aOf, cX4_aOf, 2, (some .int), 4) ∈ mjT := mjInc (q := (yX4_aOf, cX4_aOf, 2, (some .int), 4)) mjTab_3 195 rfl rfl
theorem mjMc_73 : (4 : Nat) ≠ 13 → mjMw (yX4_bOf, cX4_bOf, 2, (some .int), 4) ∈ mjT := mjInc (q := (yX4_bOf, cX4_bOf, 2, (some .int), 4)) mjTab_3 199 rfl rfl
theorem mjMc_74 : (4 : Nat) ≠ 13 → mjMw (yX4_stateOf, cX4_stateOf, 2, (some .int), 4) ∈ mjT := mjInc (q := (yX4_stateOf, cX4_stateOf, 2, (some .int), 4)) mjTab_3 191 rfl rfl
theorem mjMc_75 : (4 : Nat) ≠ 13 → mjMw (yX4_cameOf, cX4_cameOf, 2, (some .int), 4) ∈ mjT := mjInc (q := (yX4_cameOf, cX4_cameOf, 2, (some .int), 4)) mjTab_3 152 rfl rfl
theorem mjMc_76 : (4 : Nat) ≠ 13 → mjMw (yX4_stanceOf, cX4_stanceOf, 3, (some .int), 4) ∈ mjT := mjInc (q := (yX4_stanceOf, cX4_stanceOf, 3, (some .int), 4)) mjTab_3 204 rfl rfl
theorem mjMc_77 : (4 : Nat) ≠ 13 → mjMw (yX4_isLine, cX4_isLine, 2, (some .boolean), 4) ∈ mjT := mjInc (q := (yX4_isLine, cX4_isLine, 2, (some .boolean), 4)) mjTab_3 68 rfl rfl
theorem mjMc_78 : (4 : Nat) ≠ 13 → mjMw (yX4_isChange, cX4_isChange, 2, (some .boolean), 4) ∈ mjT := mjInc (q := (yX4_isChange, cX4_isChange, 2, (some .boolean), 4)) mjTab_3 92 rfl rfl
theorem mjMc_79 : (4 : Nat) ≠ 13 → mjMw (yX4_isOpenOn, cX4_isOpenOn, 4, (some .boolean), 4) ∈ mjT := mjInc (q := (yX4_isOpenOn, cX4_isOpenOn, 4, (some .boolean), 4)) mjTab_4 46 rfl rfl
theorem mjMc_80 : (4 : Nat) ≠ 13 → mjMw (yX4_isOpenChangeTo, cX4_isOpenChangeTo, 3, (some .boolean), 4) ∈ mjT := mjInc (q := (yX4_isOpenChangeTo, cX4_isOpenChangeTo, 3, (some .boolean), 4)) mjTab_4 50 rfl rfl
theorem mjMc_81 : (4 : Nat) ≠ 13 → mjMw (yX4_isRiderOn, cX4_isRiderOn, 3, (some .boolean), 4) ∈ mjT := mjInc (q := (yX4_isRiderOn, cX4_isRiderOn, 3, (some .boolean), 4)) mjTab_4 96 rfl rfl
theorem mjMc_82 : (4 : Nat) ≠ 13 → mjMw (yX4_costs, cX4_costs, 2, (some .boolean), 4) ∈ mjT := mjInc (q := (yX4_costs, cX4_costs, 2, (some .boolean), 4)) mjTab_5 173 rfl rfl
theorem mjMc_83 : (4 : Nat) ≠ 13 → mjMw (yX4_suits, cX4_suits, 4, (some .boolean), 4) ∈ mjT := mjInc (q := (yX4_suits, cX4_suits, 4, (some .boolean), 4)) mjTab_3 61 rfl rfl
theorem mjMc_84 : (4 : Nat) ≠ 13 → mjMw (yX4_add, cX4_add, 4, (some .int), 4) ∈ mjT := mjInc (q := (yX4_add, cX4_add, 4, (some .int), 4)) mjTab_3 57 rfl rfl
theorem mjMc_85 : (4 : Nat) ≠ 13 → mjMw (yX4_addHung, cX4_addHung, 5, (some .int), 4) ∈ mjT := mjInc (q := (yX4_addHung, cX4_addHung, 5, (some .int), 4)) mjTab_3 88 rfl rfl
theorem mjMc_86 : (4 : Nat) ≠ 13 → mjMw (yX4_addAny, cX4_addAny, 8, (some .int), 4) ∈ mjT := mjInc (q := (yX4_addAny, cX4_addAny, 8, (some .int), 4)) mjTab_3 79 rfl rfl
theorem mjMc_87 : (4 : Nat) ≠ 13 → mjMw (yX4_factOf, cX4_factOf, 3, (some .int), 4) ∈ mjT := mjInc (q := (yX4_factOf, cX4_factOf, 3, (some .int), 4)) mjTab_3 100 rfl rfl
theorem mjMc_88 : (4 : Nat) ≠ 13 → mjMw (yX4_seenAs, cX4_seenAs, 3, (some .int), 4) ∈ mjT := mjInc (q := (yX4_seenAs, cX4_seenAs, 3, (some .int), 4)) mjTab_3 108 rfl rfl
theorem mjMc_89 : (4 : Nat) ≠ 13 → mjMw (yX4_isUnder, cX4_isUnder, 3, (some .boolean), 4) ∈ mjT := mjInc (q := (yX4_isUnder, cX4_isUnder, 3, (some .boolean), 4)) mjTab_3 112 rfl rfl
theorem mjMc_90 : (4 : Nat) ≠ 13 → mjMw (yX4_setStance, cX4_setStance, 6, (some .int), 4) ∈ mjT := mjInc (q := (yX4_setStance, cX4_setStance, 6, (some .int), 4)) mjTab_3 121 rfl rfl
theorem mjMc_91 : (4 : Nat) ≠ 13 → mjMw (yX4_comeIn, cX4_comeIn, 3, none, 4) ∈ mjT := mjInc (q := (yX4_comeIn, cX4_comeIn, 3, none, 4)) mjTab_3 36 rfl rfl
theorem mjMc_92 : (4 : Nat) ≠ 13 → mjMw (yX4_isBound, cX4_isBound, 4, (some .boolean), 4) ∈ mjT := mjInc (q := (yX4_isBound, cX4_isBound, 4, (some .boolean), 4)) mjTab_3 187 rfl rfl
theorem mjMc_93 : (4 : Nat) ≠ 13 → mjMw (yX4_isReady, cX4_isReady, 2, (some .boolean), 4) ∈ mjT := mjInc (q := (yX4_isReady, cX4_isReady, 2, (some .boolean), 4)) mjTab_4 13 rfl rfl
theorem mjMc_94 : (4 : Nat) ≠ 13 → mjMw (yX4_comesWith, cX4_comesWith, 2, (some .boolean), 4) ∈ mjT := mjInc (q := (yX4_comesWith, cX4_comesWith, 2, (some .boolean), 4)) mjTab_4 17 rfl rfl
theorem mjMc_95 : (4 : Nat) ≠ 13 → mjMw (yX4_setVote, cX4_setVote, 5, none, 4) ∈ mjT := mjInc (q := (yX4_setVote, cX4_setVote, 5, none, 4)) mjTab_4 34 rfl rfl
theorem mjMc_96 : (4 : Nat) ≠ 13 → mjMw (yX4_decide, cX4_decide, 3, none, 4) ∈ mjT := mjInc (q := (yX4_decide, cX4_decide, 3, none, 4)) mjTab_4 38 rfl rfl
theorem mjMc_97 : (4 : Nat) ≠ 13 → mjMw (yX4_decideWith, cX4_decideWith, 4, none, 4) ∈ mjT := mjInc (q := (yX4_decideWith, cX4_decideWith, 4, none, 4)) mjTab_4 42 rfl rfl
theorem mjMc_98 : (4 : Nat) ≠ 13 → mjMw (yX4_addMore, cX4_addMore, 3, none, 4) ∈ mjT := mjInc (q := (yX4_addMore, cX4_addMore, 3, none, 4)) mjTab_4 54 rfl rfl
theorem mjMc_99 : (4 : Nat) ≠ 13 → mjMw (yX4_letFall, cX4_letFall, 4, (some .int), 4) ∈ mjT := mjInc (q := (yX4_letFall, cX4_letFall, 4, (some .int), 4)) mjTab_4 67 rfl rfl
theorem mjMc_100 : (4 : Nat) ≠ 13 → mjMw (yX4_fallsNow, cX4_fallsNow, 4, (some .boolean), 4) ∈ mjT := mjInc (q := (yX4_fallsNow, cX4_fallsNow, 4, (some .boolean), 4)) mjTab_4 71 rfl rfl
theorem mjMc_101 : (4 : Nat) ≠ 13 → mjMw (yX4_settleDeals, cX4_settleDeals, 2, none, 4) ∈ mjT := mjInc (q := (yX4_settleDeals, cX4_settleDeals, 2, none, 4)) mjTab_4 75 rfl rfl
theorem mjMc_102 : (4 : Nat) ≠ 13 → mjMw (yX4_letRulingWork, cX4_letRulingWork, 4, (some .int), 4) ∈ mjT := mjInc (q := (yX4_letRulingWork, cX4_letRulingWork, 4, (some .int), 4)) mjTab_4 87 rfl rfl
theorem mjMc_103 : (4 : Nat) ≠ 13 → mjMw (yX4_voidAllOn, cX4_voidAllOn, 5, (some .int), 4) ∈ mjT := mjInc (q := (yX4_voidAllOn, cX4_voidAllOn, 5, (some .int), 4)) mjTab_4 92 rfl rfl
theorem mjMc_104 : (4 : Nat) ≠ 13 → mjMw (yX4_mendLine, cX4_mendLine, 2, (some .int), 4) ∈ mjT := mjInc (q := (yX4_mendLine, cX4_mendLine, 2, (some .int), 4)) mjTab_4 104 rfl rfl
theorem mjMc_105 : (4 : Nat) ≠ 13 → mjMw (yX4_refusalOfChange, cX4_refusalOfChange, 2, (some .int), 4) ∈ mjT := mjInc (q := (yX4_refusalOfChange, cX4_refusalOfChange, 2, (some .int), 4)) mjTab_4 116 rfl rfl
theorem mjMc_106 : (4 : Nat) ≠ 13 → mjMw (yX4_fallingWith, cX4_fallingWith, 3, (some .int), 4) ∈ mjT := mjInc (q := (yX4_fallingWith, cX4_fallingWith, 3, (some .int), 4)) mjTab_4 112 rfl rfl
theorem mjMc_107 : (4 : Nat) ≠ 13 → mjMw (yX4_neverOf, cX4_neverOf, 3, (some .int), 4) ∈ mjT := mjInc (q := (yX4_neverOf, cX4_neverOf, 3, (some .int), 4)) mjTab_4 127 rfl rfl
theorem mjMc_108 : (4 : Nat) ≠ 13 → mjMw (yX4_isNever, cX4_isNever, 4, (some .boolean), 4) ∈ mjT := mjInc (q := (yX4_isNever, cX4_isNever, 4, (some .boolean), 4)) mjTab_4 131 rfl rfl
theorem mjMc_109 : (4 : Nat) ≠ 13 → mjMw (yX4_unlikeTongues, cX4_unlikeTongues, 4, (some .int), 4) ∈ mjT := mjInc (q := (yX4_unlikeTongues, cX4_unlikeTongues, 4, (some .int), 4)) mjTab_4 177 rfl rfl
theorem mjMc_110 : (4 : Nat) ≠ 13 → mjMw (yX4_openChanges, cX4_openChanges, 4, (some .int), 4) ∈ mjT := mjInc (q := (yX4_openChanges, cX4_openChanges, 4, (some .int), 4)) mjTab_4 181 rfl rfl
theorem mjMc_111 : (4 : Nat) ≠ 13 → mjMw (yX4_ridersOn, cX4_ridersOn, 4, (some .int), 4) ∈ mjT := mjInc (q := (yX4_ridersOn, cX4_ridersOn, 4, (some .int), 4)) mjTab_4 185 rfl rfl
theorem mjMc_112 : (4 : Nat) ≠ 13 → mjMw (yX4_sumOf, cX4_sumOf, 6, (some .int), 4) ∈ mjT := mjInc (q := (yX4_sumOf, cX4_sumOf, 6, (some .int), 4)) mjTab_5 169 rfl rfl
theorem mjMc_113 : (4 : Nat) ≠ 13 → mjMw (yX4_inState, cX4_inState, 4, (some .int), 4) ∈ mjT := mjInc (q := (yX4_inState, cX4_inState, 4, (some .int), 4)) mjTab_7 42 rfl rfl
theorem mjMc_114 : (5 : Nat) ≠ 13 → mjMw (yX5_init, cX5_init, 1, none, 5) ∈ mjT := mjInc (q := (yX5_init, cX5_init, 1, none, 5)) mjTab_2 102 rfl rfl
theorem mjMc_115 : (5 : Nat) ≠ 13 → mjMw (yX5_faultOf, cX5_faultOf, 7, (some .int), 5) ∈ mjT := mjInc (q := (yX5_faultOf, cX5_faultOf, 7, (some .int), 5)) mjTab_4 221 rfl rfl
theorem mjMc_116 : (5 : Nat) ≠ 13 → mjMw (yX5_startAnew, cX5_startAnew, 1, none, 5) ∈ mjT := mjInc (q := (yX5_startAnew, cX5_startAnew, 1, none, 5)) mjTab_4 225 rfl rfl
theorem mjMc_117 : (5 : Nat) ≠ 13 → mjMw (yX5_keyOf, cX5_keyOf, 4, (some .int), 5) ∈ mjT := mjInc (q := (yX5_keyOf, cX5_keyOf, 4, (some .int), 5)) mjTab_5 10 rfl rfl
theorem mjMc_118 : (5 : Nat) ≠ 13 → mjMw (yX5_namesOf, cX5_namesOf, 2, (some (.object "java/lang/String")), 5) ∈ mjT := mjInc (q := (yX5_namesOf, cX5_namesOf, 2, (some (.object "java/lang/String")), 5)) mjTab_5 89 rfl rfl
theorem mjMc_119 : (5 : Nat) ≠ 13 → mjMw (yX5_takePart, cX5_takePart, 6, (some .int), 5) ∈ mjT := mjInc (q := (yX5_takePart, cX5_takePart, 6, (some .int), 5)) mjTab_5 72 rfl rfl
theorem mjMc_120 : (5 : Nat) ≠ 13 → mjMw (yX5_numberAt, cX5_numberAt, 6, (some .int), 5) ∈ mjT := mjInc (q := (yX5_numberAt, cX5_numberAt, 6, (some .int), 5)) mjTab_5 81 rfl rfl
theorem mjMc_121 : (5 : Nat) ≠ 13 → mjMw (yX5_nameAt, cX5_nameAt, 6, (some .int), 5) ∈ mjT := mjInc (q := (yX5_nameAt, cX5_nameAt, 6, (some .int), 5)) mjTab_5 85 rfl rfl
theorem mjMc_122 : (5 : Nat) ≠ 13 → mjMw (yX5_takeSign, cX5_takeSign, 5, (some .int), 5) ∈ mjT := mjInc (q := (yX5_takeSign, cX5_takeSign, 5, (some .int), 5)) mjTab_5 111 rfl rfl
theorem mjMc_123 : (5 : Nat) ≠ 13 → mjMw (yX5_rankOf, cX5_rankOf, 2, (some .int), 5) ∈ mjT := mjInc (q := (yX5_rankOf, cX5_rankOf, 2, (some .int), 5)) mjTab_5 123 rfl rfl
theorem mjMc_124 : (5 : Nat) ≠ 13 → mjMw (yX5_closeBracket, cX5_closeBracket, 1, (some .boolean), 5) ∈ mjT := mjInc (q := (yX5_closeBracket, cX5_closeBracket, 1, (some .boolean), 5)) mjTab_5 115 rfl rfl
theorem mjMc_125 : (5 : Nat) ≠ 13 → mjMw (yX5_endPart, cX5_endPart, 1, none, 5) ∈ mjT := mjInc (q := (yX5_endPart, cX5_endPart, 1, none, 5)) mjTab_5 103 rfl rfl
theorem mjMc_126 : (5 : Nat) ≠ 13 → mjMw (yX5_layDownFrom, cX5_layDownFrom, 2, none, 5) ∈ mjT := mjInc (q := (yX5_layDownFrom, cX5_layDownFrom, 2, none, 5)) mjTab_5 119 rfl rfl
theorem mjMc_127 : (5 : Nat) ≠ 13 → mjMw (yX5_layDown, cX5_layDown, 2, none, 5) ∈ mjT := mjInc (q := (yX5_layDown, cX5_layDown, 2, none, 5)) mjTab_5 99 rfl rfl
theorem mjMc_128 : (5 : Nat) ≠ 13 → mjMw (yX5_waitWith, cX5_waitWith, 2, none, 5) ∈ mjT := mjInc (q := (yX5_waitWith, cX5_waitWith, 2, none, 5)) mjTab_5 77 rfl rfl
theorem mjMc_129 : (5 : Nat) ≠ 13 → mjMw (yX5_lastWaiting, cX5_lastWaiting, 1, (some .int), 5) ∈ mjT := mjInc (q := (yX5_lastWaiting, cX5_lastWaiting, 1, (some .int), 5)) mjTab_5 107 rfl rfl
theorem mjMc_130 : (6 : Nat) ≠ 13 → mjMw (yX6_init, cX6_init, 1, none, 6) ∈ mjT := mjInc (q := (yX6_init, cX6_init, 1, none, 6)) mjTab_1 126 rfl rfl
theorem mjMc_131 : (6 : Nat) ≠ 13 → mjMw (yX6_become, cX6_become, 2, none, 6) ∈ mjT := mjInc (q := (yX6_become, cX6_become, 2, none, 6)) mjTab_7 1 rfl rfl
theorem mjMc_132 : (6 : Nat) ≠ 13 → mjMw (yX6_add, cX6_add, 6, (some .int), 6) ∈ mjT := mjInc (q := (yX6_add, cX6_add, 6, (some .int), 6)) mjTab_3 129 rfl rfl
theorem mjMc_133 : (6 : Nat) ≠ 13 → mjMw (yX6_comeTill, cX6_comeTill, 5, none, 6) ∈ mjT := mjInc (q := (yX6_comeTill, cX6_comeTill, 5, none, 6)) mjTab_3 32 rfl rfl
theorem mjMc_134 : (6 : Nat) ≠ 13 → mjMw (yX6_onWayBehind, cX6_onWayBehind, 4, (some .int), 6) ∈ mjT := mjInc (q := (yX6_onWayBehind, cX6_onWayBehind, 4, (some .int), 6)) mjTab_6 219 rfl rfl
theorem mjMc_135 : (7 : Nat) ≠ 13 → mjMw (yX7_init, cX7_init, 1, none, 7) ∈ mjT := mjInc (q := (yX7_init, cX7_init, 1, none, 7)) mjTab_1 209 rfl rfl
theorem mjMc_136 : (7 : Nat) ≠ 13 → mjMw (yX7_become, cX7_become, 2, none, 7) ∈ mjT := mjInc (q := (yX7_become, cX7_become, 2, none, 7)) mjTab_7 16 rfl rfl
theorem mjMc_137 : (7 : Nat) ≠ 13 → mjMw (yX7_add, cX7_add, 1, (some .int), 7) ∈ mjT := mjInc (q := (yX7_add, cX7_add, 1, (some .int), 7)) mjTab_6 75 rfl rfl
theorem mjMc_138 : (7 : Nat) ≠ 13 → mjMw (yX7_isTongue, cX7_isTongue, 2, (some .boolean), 7) ∈ mjT := mjInc (q := (yX7_isTongue, cX7_isTongue, 2, (some .boolean), 7)) mjTab_6 89 rfl rfl
theorem mjMc_139 : (7 : Nat) ≠ 13 → mjMw (yX7_bitOf, cX7_bitOf, 4, (some .int), 7) ∈ mjT := mjInc (q := (yX7_bitOf, cX7_bitOf, 4, (some .int), 7)) mjTab_6 94 rfl rfl
theorem mjMc_140 : (7 : Nat) ≠ 13 → mjMw (yX7_addTwo, cX7_addTwo, 4, (some .int), 7) ∈ mjT := mjInc (q := (yX7_addTwo, cX7_addTwo, 4, (some .int), 7)) mjTab_6 84 rfl rfl
theorem mjMc_141 : (7 : Nat) ≠ 13 → mjMw (yX7_setSpeech, cX7_setSpeech, 4, (some .int), 7) ∈ mjT := mjInc (q := (yX7_setSpeech, cX7_setSpeech, 4, (some .int), 7)) mjTab_6 105 rfl rfl
theorem mjMc_142 : (7 : Nat) ≠ 13 → mjMw (yX7_mostHeard, cX7_mostHeard, 2, (some .int), 7) ∈ mjT := mjInc (q := (yX7_mostHeard, cX7_mostHeard, 2, (some .int), 7)) mjTab_6 114 rfl rfl
theorem mjMc_143 : (7 : Nat) ≠ 13 → mjMw (yX7_interpreterIn, cX7_interpreterIn, 7, (some .int), 7) ∈ mjT := mjInc (q := (yX7_interpreterIn, cX7_interpreterIn, 7, (some .int), 7)) mjTab_6 150 rfl rfl
theorem mjMc_144 : (7 : Nat) ≠ 13 → mjMw (yX7_weigh, cX7_weigh, 4, none, 7) ∈ mjT := mjInc (q := (yX7_weigh, cX7_weigh, 4, none, 7)) mjTab_6 118 rfl rfl
theorem mjMc_145 : (7 : Nat) ≠ 13 → mjMw (yX7_place, cX7_place, 5, (some .int), 7) ∈ mjT := mjInc (q := (yX7_place, cX7_place, 5, (some .int), 7)) mjTab_6 122 rfl rfl
theorem mjMc_146 : (7 : Nat) ≠ 13 → mjMw (yX7_mostFrom, cX7_mostFrom, 4, (some .int), 7) ∈ mjT := mjInc (q := (yX7_mostFrom, cX7_mostFrom, 4, (some .int), 7)) mjTab_6 142 rfl rfl
theorem mjMc_147 : (7 : Nat) ≠ 13 → mjMw (yX7_bestFrom, cX7_bestFrom, 6, (some .int), 7) ∈ mjT := mjInc (q := (yX7_bestFrom, cX7_bestFrom, 6, (some .int), 7)) mjTab_6 126 rfl rfl
theorem mjMc_148 : (7 : Nat) ≠ 13 → mjMw (yX7_firstBest, cX7_firstBest, 5, (some .int), 7) ∈ mjT := mjInc (q := (yX7_firstBest, cX7_firstBest, 5, (some .int), 7)) mjTab_6 154 rfl rfl
theorem mjMc_149 : (7 : Nat) ≠ 13 → mjMw (yX7_canTake, cX7_canTake, 4, (some .boolean), 7) ∈ mjT := mjInc (q := (yX7_canTake, cX7_canTake, 4, (some .boolean), 7)) mjTab_6 130 rfl rfl
theorem mjMc_150 : (7 : Nat) ≠ 13 → mjMw (yX7_heardWith, cX7_heardWith, 5, (some .int), 7) ∈ mjT := mjInc (q := (yX7_heardWith, cX7_heardWith, 5, (some .int), 7)) mjTab_6 134 rfl rfl
theorem mjMc_151 : (7 : Nat) ≠ 13 → mjMw (yX7_heardIn, cX7_heardIn, 3, (some .int), 7) ∈ mjT := mjInc (q := (yX7_heardIn, cX7_heardIn, 3, (some .int), 7)) mjTab_6 138 rfl rfl
theorem mjMc_152 : (8 : Nat) ≠ 13 → mjMw (yX8_init, cX8_init, 1, none, 8) ∈ mjT := mjInc (q := (yX8_init, cX8_init, 1, none, 8)) mjTab_2 87 rfl rfl
theorem mjMc_153 : (8 : Nat) ≠ 13 → mjMw (yX8_take, cX8_take, 4, (some .int), 8) ∈ mjT := mjInc (q := (yX8_take, cX8_take, 4, (some .int), 8)) mjTab_4 193 rfl rfl
theorem mjMc_154 : (8 : Nat) ≠ 13 → mjMw (yX8_takeFour, cX8_takeFour, 3, none, 8) ∈ mjT := mjInc (q := (yX8_takeFour, cX8_takeFour, 3, none, 8)) mjTab_4 198 rfl rfl
theorem mjMc_155 : (8 : Nat) ≠ 13 → mjMw (yX8_cutTo, cX8_cutTo, 2, (some .int), 8) ∈ mjT := mjInc (q := (yX8_cutTo, cX8_cutTo, 2, (some .int), 8)) mjTab_4 206 rfl rfl
theorem mjMc_156 : (8 : Nat) ≠ 13 → mjMw (yX8_useUp, cX8_useUp, 1, none, 8) ∈ mjT := mjInc (q := (yX8_useUp, cX8_useUp, 1, none, 8)) mjTab_4 217 rfl rfl
theorem mjMc_157 : (8 : Nat) ≠ 13 → mjMw (yX8_byteAt, cX8_byteAt, 2, (some .int), 8) ∈ mjT := mjInc (q := (yX8_byteAt, cX8_byteAt, 2, (some .int), 8)) mjTab_4 233 rfl rfl
theorem mjMc_158 : (8 : Nat) ≠ 13 → mjMw (yX8_isDigit, cX8_isDigit, 2, (some .boolean), 8) ∈ mjT := mjInc (q := (yX8_isDigit, cX8_isDigit, 2, (some .boolean), 8)) mjTab_5 2 rfl rfl
theorem mjMc_159 : (8 : Nat) ≠ 13 → mjMw (yX8_isLetter, cX8_isLetter, 2, (some .boolean), 8) ∈ mjT := mjInc (q := (yX8_isLetter, cX8_isLetter, 2, (some .boolean), 8)) mjTab_5 6 rfl rfl
theorem mjMc_160 : (8 : Nat) ≠ 13 → mjMw (yX8_behindBlanks, cX8_behindBlanks, 3, (some .int), 8) ∈ mjT := mjInc (q := (yX8_behindBlanks, cX8_behindBlanks, 3, (some .int), 8)) mjTab_4 229 rfl rfl
theorem mjMc_161 : (8 : Nat) ≠ 13 → mjMw (yX8_behindWord, cX8_behindWord, 3, (some .int), 8) ∈ mjT := mjInc (q := (yX8_behindWord, cX8_behindWord, 3, (some .int), 8)) mjTab_4 238 rfl rfl
theorem mjMc_162 : (8 : Nat) ≠ 13 → mjMw (yX8_isWord, cX8_isWord, 5, (some .boolean), 8) ∈ mjT := mjInc (q := (yX8_isWord, cX8_isWord, 5, (some .boolean), 8)) mjTab_5 15 rfl rfl
theorem mjMc_163 : (9 : Nat) ≠ 13 → mjMw (yX9_init, cX9_init, 1, none, 9) ∈ mjT := mjInc (q := (yX9_init, cX9_init, 1, none, 9)) mjTab_1 146 rfl rfl
theorem mjMc_164 : (9 : Nat) ≠ 13 → mjMw (yX9_become, cX9_become, 2, none, 9) ∈ mjT := mjInc (q := (yX9_become, cX9_become, 2, none, 9)) mjTab_7 6 rfl rfl
theorem mjMc_165 : (9 : Nat) ≠ 13 → mjMw (yX9_add, cX9_add, 4, (some .int), 9) ∈ mjT := mjInc (q := (yX9_add, cX9_add, 4, (some .int), 9)) mjTab_5 128 rfl rfl
theorem mjMc_166 : (9 : Nat) ≠ 13 → mjMw (yX9_factOf, cX9_factOf, 3, (some .int), 9) ∈ mjT := mjInc (q := (yX9_factOf, cX9_factOf, 3, (some .int), 9)) mjTab_5 138 rfl rfl
theorem mjMc_167 : (9 : Nat) ≠ 13 → mjMw (yX9_counting, cX9_counting, 6, (some .int), 9) ∈ mjT := mjInc (q := (yX9_counting, cX9_counting, 6, (some .int), 9)) mjTab_3 219 rfl rfl
theorem mjMc_168 : (9 : Nat) ≠ 13 → mjMw (yX9_worthOf, cX9_worthOf, 7, (some .int), 9) ∈ mjT := mjInc (q := (yX9_worthOf, cX9_worthOf, 7, (some .int), 9)) mjTab_3 225 rfl rfl
theorem mjMc_169 : (9 : Nat) ≠ 13 → mjMw (yX9_workOut, cX9_workOut, 3, none, 9) ∈ mjT := mjInc (q := (yX9_workOut, cX9_workOut, 3, none, 9)) mjTab_3 229 rfl rfl
theorem mjMc_170 : (9 : Nat) ≠ 13 → mjMw (yX9_push, cX9_push, 2, none, 9) ∈ mjT := mjInc (q := (yX9_push, cX9_push, 2, none, 9)) mjTab_3 233 rfl rfl
theorem mjMc_171 : (9 : Nat) ≠ 13 → mjMw (yX9_popped, cX9_popped, 1, (some .int), 9) ∈ mjT := mjInc (q := (yX9_popped, cX9_popped, 1, (some .int), 9)) mjTab_3 237 rfl rfl
theorem mjMc_172 : (9 : Nat) ≠ 13 → mjMw (yX9_worthOfSign, cX9_worthOfSign, 4, (some .int), 9) ∈ mjT := mjInc (q := (yX9_worthOfSign, cX9_worthOfSign, 4, (some .int), 9)) mjTab_4 1 rfl rfl
theorem mjMc_173 : (10 : Nat) ≠ 13 → mjMw (yX10_init, cX10_init, 1, none, 10) ∈ mjT := mjInc (q := (yX10_init, cX10_init, 1, none, 10)) mjTab_1 181 rfl rfl
theorem mjMc_174 : (10 : Nat) ≠ 13 → mjMw (yX10_become, cX10_become, 2, none, 10) ∈ mjT := mjInc (q := (yX10_become, cX10_become, 2, none, 10)) mjTab_7 11 rfl rfl
theorem mjMc_175 : (10 : Nat) ≠ 13 → mjMw (yX10_setWish, cX10_setWish, 4, (some .int), 10) ∈ mjT := mjInc (q := (yX10_setWish, cX10_setWish, 4, (some .int), 10)) mjTab_6 23 rfl rfl
theorem mjMc_176 : (10 : Nat) ≠ 13 → mjMw (yX10_leastThatCarries, cX10_leastThatCarries, 6, (some .int), 10) ∈ mjT := mjInc (q := (yX10_leastThatCarries, cX10_leastThatCarries, 6, (some .int), 10)) mjTab_6 33 rfl rfl
theorem mjMc_177 : (10 : Nat) ≠ 13 → mjMw (yX10_takeLines, cX10_takeLines, 3, none, 10) ∈ mjT := mjInc (q := (yX10_takeLines, cX10_takeLines, 3, none, 10)) mjTab_6 37 rfl rfl
theorem mjMc_178 : (10 : Nat) ≠ 13 → mjMw (yX10_searchSets, cX10_searchSets, 5, none, 10) ∈ mjT := mjInc (q := (yX10_searchSets, cX10_searchSets, 5, none, 10)) mjTab_6 48 rfl rfl
theorem mjMc_179 : (10 : Nat) ≠ 13 → mjMw (yX10_isLess, cX10_isLess, 3, (some .boolean), 10) ∈ mjT := mjInc (q := (yX10_isLess, cX10_isLess, 3, (some .boolean), 10)) mjTab_6 61 rfl rfl
theorem mjMc_180 : (10 : Nat) ≠ 13 → mjMw (yX10_sumOf, cX10_sumOf, 4, (some .int), 10) ∈ mjT := mjInc (q := (yX10_sumOf, cX10_sumOf, 4, (some .int), 10)) mjTab_6 53 rfl rfl
theorem mjMc_181 : (10 : Nat) ≠ 13 → mjMw (yX10_voicesFor, cX10_voicesFor, 6, (some .int), 10) ∈ mjT := mjInc (q := (yX10_voicesFor, cX10_voicesFor, 6, (some .int), 10)) mjTab_6 57 rfl rfl
theorem mjMc_182 : (11 : Nat) ≠ 13 → mjMw (yX11_init, cX11_init, 1, none, 11) ∈ mjT := mjInc (q := (yX11_init, cX11_init, 1, none, 11)) mjTab_1 24 rfl rfl
theorem mjMc_183 : (11 : Nat) ≠ 13 → mjMw (yX11_member, cX11_member, 3, (some .int), 11) ∈ mjT := mjInc (q := (yX11_member, cX11_member, 3, (some .int), 11)) mjTab_2 186 rfl rfl
theorem mjMc_184 : (11 : Nat) ≠ 13 → mjMw (yX11_is, cX11_is, 3, (some .int), 11) ∈ mjT := mjInc (q := (yX11_is, cX11_is, 3, (some .int), 11)) mjTab_2 200 rfl rfl
theorem mjMc_185 : (11 : Nat) ≠ 13 → mjMw (yX11_train, cX11_train, 3, (some .int), 11) ∈ mjT := mjInc (q := (yX11_train, cX11_train, 3, (some .int), 11)) mjTab_2 220 rfl rfl
theorem mjMc_186 : (11 : Nat) ≠ 13 → mjMw (yX11_go, cX11_go, 3, (some .int), 11) ∈ mjT := mjInc (q := (yX11_go, cX11_go, 3, (some .int), 11)) mjTab_2 228 rfl rfl
theorem mjMc_187 : (11 : Nat) ≠ 13 → mjMw (yX11_pair, cX11_pair, 4, (some .int), 11) ∈ mjT := mjInc (q := (yX11_pair, cX11_pair, 4, (some .int), 11)) mjTab_2 236 rfl rfl
theorem mjMc_188 : (11 : Nat) ≠ 13 → mjMw (yX11_breaks, cX11_breaks, 2, (some .int), 11) ∈ mjT := mjInc (q := (yX11_breaks, cX11_breaks, 2, (some .int), 11)) mjTab_3 5 rfl rfl
theorem mjMc_189 : (11 : Nat) ≠ 13 → mjMw (yX11_clock, cX11_clock, 2, (some .int), 11) ∈ mjT := mjInc (q := (yX11_clock, cX11_clock, 2, (some .int), 11)) mjTab_3 13 rfl rfl
theorem mjMc_190 : (11 : Nat) ≠ 13 → mjMw (yX11_run, cX11_run, 2, (some .int), 11) ∈ mjT := mjInc (q := (yX11_run, cX11_run, 2, (some .int), 11)) mjTab_3 23 rfl rfl
theorem mjMc_191 : (11 : Nat) ≠ 13 → mjMw (yX11_paper, cX11_paper, 4, (some .int), 11) ∈ mjT := mjInc (q := (yX11_paper, cX11_paper, 4, (some .int), 11)) mjTab_3 53 rfl rfl
theorem mjMc_192 : (11 : Nat) ≠ 13 → mjMw (yX11_hung, cX11_hung, 5, (some .int), 11) ∈ mjT := mjInc (q := (yX11_hung, cX11_hung, 5, (some .int), 11)) mjTab_3 84 rfl rfl
theorem mjMc_193 : (11 : Nat) ≠ 13 → mjMw (yX11_told, cX11_told, 3, (some .int), 11) ∈ mjT := mjInc (q := (yX11_told, cX11_told, 3, (some .int), 11)) mjTab_3 96 rfl rfl
theorem mjMc_194 : (11 : Nat) ≠ 13 → mjMw (yX11_as, cX11_as, 3, (some .int), 11) ∈ mjT := mjInc (q := (yX11_as, cX11_as, 3, (some .int), 11)) mjTab_3 104 rfl rfl
theorem mjMc_195 : (11 : Nat) ≠ 13 → mjMw (yX11_stance, cX11_stance, 4, (some .int), 11) ∈ mjT := mjInc (q := (yX11_stance, cX11_stance, 4, (some .int), 11)) mjTab_3 117 rfl rfl
theorem mjMc_196 : (11 : Nat) ≠ 13 → mjMw (yX11_print, cX11_print, 4, (some .int), 11) ∈ mjT := mjInc (q := (yX11_print, cX11_print, 4, (some .int), 11)) mjTab_3 125 rfl rfl
theorem mjMc_197 : (11 : Nat) ≠ 13 → mjMw (yX11_read, cX11_read, 3, (some .int), 11) ∈ mjT := mjInc (q := (yX11_read, cX11_read, 3, (some .int), 11)) mjTab_3 137 rfl rfl
theorem mjMc_198 : (11 : Nat) ≠ 13 → mjMw (yX11_would, cX11_would, 3, (some .int), 11) ∈ mjT := mjInc (q := (yX11_would, cX11_would, 3, (some .int), 11)) mjTab_3 156 rfl rfl
theorem mjMc_199 : (11 : Nat) ≠ 13 → mjMw (yX11_put, cX11_put, 2, (some .int), 11) ∈ mjT := mjInc (q := (yX11_put, cX11_put, 2, (some .int), 11)) mjTab_4 5 rfl rfl
theorem mjMc_200 : (11 : Nat) ≠ 13 → mjMw (yX11_rule, cX11_rule, 2, (some .int), 11) ∈ mjT := mjInc (q := (yX11_rule, cX11_rule, 2, (some .int), 11)) mjTab_4 79 rfl rfl
theorem mjMc_201 : (11 : Nat) ≠ 13 → mjMw (yX11_mend, cX11_mend, 2, (some .int), 11) ∈ mjT := mjInc (q := (yX11_mend, cX11_mend, 2, (some .int), 11)) mjTab_4 100 rfl rfl
theorem mjMc_202 : (11 : Nat) ≠ 13 → mjMw (yX11_falls, cX11_falls, 2, (some .int), 11) ∈ mjT := mjInc (q := (yX11_falls, cX11_falls, 2, (some .int), 11)) mjTab_4 108 rfl rfl
theorem mjMc_203 : (11 : Nat) ≠ 13 → mjMw (yX11_never, cX11_never, 2, (some .int), 11) ∈ mjT := mjInc (q := (yX11_never, cX11_never, 2, (some .int), 11)) mjTab_4 123 rfl rfl
theorem mjMc_204 : (11 : Nat) ≠ 13 → mjMw (yX11_row, cX11_row, 2, (some .int), 11) ∈ mjT := mjInc (q := (yX11_row, cX11_row, 2, (some .int), 11)) mjTab_4 135 rfl rfl
theorem mjMc_205 : (11 : Nat) ≠ 13 → mjMw (yX11_line, cX11_line, 3, (some .int), 11) ∈ mjT := mjInc (q := (yX11_line, cX11_line, 3, (some .int), 11)) mjTab_4 159 rfl rfl
theorem mjMc_206 : (11 : Nat) ≠ 13 → mjMw (yX11_feed, cX11_feed, 4, (some .int), 11) ∈ mjT := mjInc (q := (yX11_feed, cX11_feed, 4, (some .int), 11)) mjTab_4 189 rfl rfl
theorem mjMc_207 : (11 : Nat) ≠ 13 → mjMw (yX11_trim, cX11_trim, 2, (some .int), 11) ∈ mjT := mjInc (q := (yX11_trim, cX11_trim, 2, (some .int), 11)) mjTab_4 202 rfl rfl
theorem mjMc_208 : (11 : Nat) ≠ 13 → mjMw (yX11_text, cX11_text, 3, (some .int), 11) ∈ mjT := mjInc (q := (yX11_text, cX11_text, 3, (some .int), 11)) mjTab_4 212 rfl rfl
theorem mjMc_209 : (11 : Nat) ≠ 13 → mjMw (yX11_of, cX11_of, 3, (some .int), 11) ∈ mjT := mjInc (q := (yX11_of, cX11_of, 3, (some .int), 11)) mjTab_5 134 rfl rfl
theorem mjMc_210 : (11 : Nat) ≠ 13 → mjMw (yX11_why, cX11_why, 2, (some .int), 11) ∈ mjT := mjInc (q := (yX11_why, cX11_why, 2, (some .int), 11)) mjTab_5 143 rfl rfl
theorem mjMc_211 : (11 : Nat) ≠ 13 → mjMw (yX11_income, cX11_income, 3, (some .int), 11) ∈ mjT := mjInc (q := (yX11_income, cX11_income, 3, (some .int), 11)) mjTab_5 149 rfl rfl
theorem mjMc_212 : (11 : Nat) ≠ 13 → mjMw (yX11_balance, cX11_balance, 2, (some .int), 11) ∈ mjT := mjInc (q := (yX11_balance, cX11_balance, 2, (some .int), 11)) mjTab_5 157 rfl rfl
theorem mjMc_213 : (11 : Nat) ≠ 13 → mjMw (yX11_first, cX11_first, 1, (some .int), 11) ∈ mjT := mjInc (q := (yX11_first, cX11_first, 1, (some .int), 11)) mjTab_5 177 rfl rfl
theorem mjMc_214 : (11 : Nat) ≠ 13 → mjMw (yX11_book, cX11_book, 4, (some .int), 11) ∈ mjT := mjInc (q := (yX11_book, cX11_book, 4, (some .int), 11)) mjTab_5 188 rfl rfl
theorem mjMc_215 : (11 : Nat) ≠ 13 → mjMw (yX11_note, cX11_note, 4, (some .int), 11) ∈ mjT := mjInc (q := (yX11_note, cX11_note, 4, (some .int), 11)) mjTab_5 203 rfl rfl
theorem mjMc_216 : (11 : Nat) ≠ 13 → mjMw (yX11_looks, cX11_looks, 3, (some .int), 11) ∈ mjT := mjInc (q := (yX11_looks, cX11_looks, 3, (some .int), 11)) mjTab_5 225 rfl rfl
theorem mjMc_217 : (11 : Nat) ≠ 13 → mjMw (yX11_copy, cX11_copy, 6, (some .int), 11) ∈ mjT := mjInc (q := (yX11_copy, cX11_copy, 6, (some .int), 11)) mjTab_5 237 rfl rfl
theorem mjMc_218 : (11 : Nat) ≠ 13 → mjMw (yX11_span, cX11_span, 3, (some .int), 11) ∈ mjT := mjInc (q := (yX11_span, cX11_span, 3, (some .int), 11)) mjTab_6 9 rfl rfl
theorem mjMc_219 : (11 : Nat) ≠ 13 → mjMw (yX11_wish, cX11_wish, 3, (some .int), 11) ∈ mjT := mjInc (q := (yX11_wish, cX11_wish, 3, (some .int), 11)) mjTab_6 19 rfl rfl
theorem mjMc_220 : (11 : Nat) ≠ 13 → mjMw (yX11_carry, cX11_carry, 3, (some .int), 11) ∈ mjT := mjInc (q := (yX11_carry, cX11_carry, 3, (some .int), 11)) mjTab_6 29 rfl rfl
theorem mjMc_221 : (11 : Nat) ≠ 13 → mjMw (yX11_interpreter, cX11_interpreter, 1, (some .int), 11) ∈ mjT := mjInc (q := (yX11_interpreter, cX11_interpreter, 1, (some .int), 11)) mjTab_6 71 rfl rfl
theorem mjMc_222 : (11 : Nat) ≠ 13 → mjMw (yX11_speaks, cX11_speaks, 4, (some .int), 11) ∈ mjT := mjInc (q := (yX11_speaks, cX11_speaks, 4, (some .int), 11)) mjTab_6 80 rfl rfl
theorem mjMc_223 : (11 : Nat) ≠ 13 → mjMw (yX11_speech, cX11_speech, 4, (some .int), 11) ∈ mjT := mjInc (q := (yX11_speech, cX11_speech, 4, (some .int), 11)) mjTab_6 101 rfl rfl
theorem mjMc_224 : (11 : Nat) ≠ 13 → mjMw (yX11_heard, cX11_heard, 2, (some .int), 11) ∈ mjT := mjInc (q := (yX11_heard, cX11_heard, 2, (some .int), 11)) mjTab_6 110 rfl rfl
theorem mjMc_225 : (11 : Nat) ≠ 13 → mjMw (yX11_shift, cX11_shift, 3, (some .int), 11) ∈ mjT := mjInc (q := (yX11_shift, cX11_shift, 3, (some .int), 11)) mjTab_6 146 rfl rfl
theorem mjMc_226 : (11 : Nat) ≠ 13 → mjMw (yX11_offer, cX11_offer, 5, (some .int), 11) ∈ mjT := mjInc (q := (yX11_offer, cX11_offer, 5, (some .int), 11)) mjTab_6 158 rfl rfl
theorem mjMc_227 : (11 : Nat) ≠ 13 → mjMw (yX11_night, cX11_night, 4, (some .int), 11) ∈ mjT := mjInc (q := (yX11_night, cX11_night, 4, (some .int), 11)) mjTab_6 169 rfl rfl
theorem mjMc_228 : (11 : Nat) ≠ 13 → mjMw (yX11_tell, cX11_tell, 2, (some .int), 11) ∈ mjT := mjInc (q := (yX11_tell, cX11_tell, 2, (some .int), 11)) mjTab_6 194 rfl rfl
theorem mjMc_229 : (11 : Nat) ≠ 13 → mjMw (yX11_check, cX11_check, 6, (some .int), 11) ∈ mjT := mjInc (q := (yX11_check, cX11_check, 6, (some .int), 11)) mjTab_6 199 rfl rfl
theorem mjMc_230 : (11 : Nat) ≠ 13 → mjMw (yX11_keep, cX11_keep, 1, (some .int), 11) ∈ mjT := mjInc (q := (yX11_keep, cX11_keep, 1, (some .int), 11)) mjTab_6 224 rfl rfl
theorem mjMc_231 : (11 : Nat) ≠ 13 → mjMw (yX11_back, cX11_back, 1, (some .int), 11) ∈ mjT := mjInc (q := (yX11_back, cX11_back, 1, (some .int), 11)) mjTab_7 26 rfl rfl
theorem mjMc_232 : (11 : Nat) ≠ 13 → mjMw (yX11_count, cX11_count, 2, (some .int), 11) ∈ mjT := mjInc (q := (yX11_count, cX11_count, 2, (some .int), 11)) mjTab_7 30 rfl rfl
theorem mjMc_233 : (11 : Nat) ≠ 13 → mjMw (yX11_firstUnlike, cX11_firstUnlike, 5, (some .int), 11) ∈ mjT := mjInc (q := (yX11_firstUnlike, cX11_firstUnlike, 5, (some .int), 11)) mjTab_6 207 rfl rfl
theorem mjMc_234 : (11 : Nat) ≠ 13 → mjMw (yX11_within, cX11_within, 3, (some .boolean), 11) ∈ mjT := mjInc (q := (yX11_within, cX11_within, 3, (some .boolean), 11)) mjTab_2 193 rfl rfl
theorem mjMc_235 : (11 : Nat) ≠ 13 → mjMw (yX11_isTwo, cX11_isTwo, 3, (some .boolean), 11) ∈ mjT := mjInc (q := (yX11_isTwo, cX11_isTwo, 3, (some .boolean), 11)) mjTab_3 64 rfl rfl
theorem mjMc_236 : (11 : Nat) ≠ 13 → mjMw (yX11_heldSum, cX11_heldSum, 1, (some .int), 11) ∈ mjT := mjInc (q := (yX11_heldSum, cX11_heldSum, 1, (some .int), 11)) mjTab_4 57 rfl rfl
theorem mjMc_237 : (11 : Nat) ≠ 13 → mjMw (yX11_copyRow, cX11_copyRow, 4, none, 11) ∈ mjT := mjInc (q := (yX11_copyRow, cX11_copyRow, 4, none, 11)) mjTab_4 119 rfl rfl
theorem mjMc_238 : (12 : Nat) ≠ 13 → mjMw (yX12_init, cX12_init, 2, none, 12) ∈ mjT := mjInc (q := (yX12_init, cX12_init, 2, none, 12)) mjTab_7 47 rfl rfl
theorem mjMc_239 : (12 : Nat) ≠ 13 → mjMw (yX12_isIn, cX12_isIn, 6, (some .boolean), 12) ∈ mjT := mjInc (q := (yX12_isIn, cX12_isIn, 6, (some .boolean), 12)) mjTab_7 165 rfl rfl
theorem mjMc_240 : (12 : Nat) ≠ 13 → mjMw (yX12_orNone, cX12_orNone, 1, (some .int), 12) ∈ mjT := mjInc (q := (yX12_orNone, cX12_orNone, 1, (some .int), 12)) mjTab_7 184 rfl rfl
theorem mjMc_241 : (12 : Nat) ≠ 13 → mjMw (yX12_held, cX12_held, 1, (some .int), 12) ∈ mjT := mjInc (q := (yX12_held, cX12_held, 1, (some .int), 12)) mjTab_8 121 rfl rfl
theorem mjMc_242 : (12 : Nat) ≠ 13 → mjMw (yX12_ones, cX12_ones, 3, (some .int), 12) ∈ mjT := mjInc (q := (yX12_ones, cX12_ones, 3, (some .int), 12)) mjTab_9 106 rfl rfl
theorem mjMc_243 : (12 : Nat) ≠ 13 → mjMw (yX12_becomes, cX12_becomes, 4, (some .int), 12) ∈ mjT := mjInc (q := (yX12_becomes, cX12_becomes, 4, (some .int), 12)) mjTab_7 206 rfl rfl
theorem mjMc_244 : (12 : Nat) ≠ 13 → mjMw (yX12_memberAt, cX12_memberAt, 2, (some .int), 12) ∈ mjT := mjInc (q := (yX12_memberAt, cX12_memberAt, 2, (some .int), 12)) mjTab_7 172 rfl rfl
theorem mjMc_245 : (12 : Nat) ≠ 13 → mjMw (yX12_pairAt, cX12_pairAt, 2, (some .int), 12) ∈ mjT := mjInc (q := (yX12_pairAt, cX12_pairAt, 2, (some .int), 12)) mjTab_7 197 rfl rfl
theorem mjMc_246 : (12 : Nat) ≠ 13 → mjMw (yX12_paperAt, cX12_paperAt, 2, (some .int), 12) ∈ mjT := mjInc (q := (yX12_paperAt, cX12_paperAt, 2, (some .int), 12)) mjTab_8 0 rfl rfl
theorem mjMc_247 : (12 : Nat) ≠ 13 → mjMw (yX12_textAt, cX12_textAt, 2, (some .int), 12) ∈ mjT := mjInc (q := (yX12_textAt, cX12_textAt, 2, (some .int), 12)) mjTab_8 95 rfl rfl
theorem mjMc_248 : (12 : Nat) ≠ 13 → mjMw (yX12_isMember, cX12_isMember, 2, (some .boolean), 12) ∈ mjT := mjInc (q := (yX12_isMember, cX12_isMember, 2, (some .boolean), 12)) mjTab_7 180 rfl rfl
theorem mjMc_249 : (12 : Nat) ≠ 13 → mjMw (yX12_isPaper, cX12_isPaper, 2, (some .boolean), 12) ∈ mjT := mjInc (q := (yX12_isPaper, cX12_isPaper, 2, (some .boolean), 12)) mjTab_8 17 rfl rfl
theorem mjMc_250 : (12 : Nat) ≠ 13 → mjMw (yX12_isText, cX12_isText, 2, (some .boolean), 12) ∈ mjT := mjInc (q := (yX12_isText, cX12_isText, 2, (some .boolean), 12)) mjTab_9 29 rfl rfl
theorem mjMc_251 : (12 : Nat) ≠ 13 → mjMw (yX12_isParty, cX12_isParty, 1, (some .boolean), 12) ∈ mjT := mjInc (q := (yX12_isParty, cX12_isParty, 1, (some .boolean), 12)) mjTab_7 161 rfl rfl
theorem mjMc_252 : (12 : Nat) ≠ 13 → mjMw (yX12_isTongue, cX12_isTongue, 1, (some .boolean), 12) ∈ mjT := mjInc (q := (yX12_isTongue, cX12_isTongue, 1, (some .boolean), 12)) mjTab_8 60 rfl rfl
theorem mjMc_253 : (12 : Nat) ≠ 13 → mjMw (yX12_kindOf, cX12_kindOf, 2, (some .int), 12) ∈ mjT := mjInc (q := (yX12_kindOf, cX12_kindOf, 2, (some .int), 12)) mjTab_8 21 rfl rfl
theorem mjMc_254 : (12 : Nat) ≠ 13 → mjMw (yX12_state, cX12_state, 2, (some .int), 12) ∈ mjT := mjInc (q := (yX12_state, cX12_state, 2, (some .int), 12)) mjTab_8 114 rfl rfl
theorem mjMc_255 : (12 : Nat) ≠ 13 → mjMw (yX12_isLine, cX12_isLine, 2, (some .boolean), 12) ∈ mjT := mjInc (q := (yX12_isLine, cX12_isLine, 2, (some .boolean), 12)) mjTab_8 13 rfl rfl
theorem mjMc_256 : (12 : Nat) ≠ 13 → mjMw (yX12_isChange, cX12_isChange, 2, (some .boolean), 12) ∈ mjT := mjInc (q := (yX12_isChange, cX12_isChange, 2, (some .boolean), 12)) mjTab_8 37 rfl rfl
theorem mjMc_257 : (12 : Nat) ≠ 13 → mjMw (yX12_member, cX12_member, 4, (some .int), 12) ∈ mjT := mjInc (q := (yX12_member, cX12_member, 4, (some .int), 12)) mjTab_7 158 rfl rfl
theorem mjMc_258 : (12 : Nat) ≠ 13 → mjMw (yX12_holds, cX12_holds, 3, (some .boolean), 12) ∈ mjT := mjInc (q := (yX12_holds, cX12_holds, 3, (some .boolean), 12)) mjTab_7 193 rfl rfl
theorem mjMc_259 : (12 : Nat) ≠ 13 → mjMw (yX12_pairOf, cX12_pairOf, 5, (some .int), 12) ∈ mjT := mjInc (q := (yX12_pairOf, cX12_pairOf, 5, (some .int), 12)) mjTab_7 189 rfl rfl
theorem mjMc_260 : (12 : Nat) ≠ 13 → mjMw (yX12_is, cX12_is, 4, (some .int), 12) ∈ mjT := mjInc (q := (yX12_is, cX12_is, 4, (some .int), 12)) mjTab_7 176 rfl rfl
theorem mjMc_261 : (12 : Nat) ≠ 13 → mjMw (yX12_train, cX12_train, 3, (some .int), 12) ∈ mjT := mjInc (q := (yX12_train, cX12_train, 3, (some .int), 12)) mjTab_7 201 rfl rfl
theorem mjMc_262 : (12 : Nat) ≠ 13 → mjMw (yX12_go, cX12_go, 3, (some .int), 12) ∈ mjT := mjInc (q := (yX12_go, cX12_go, 3, (some .int), 12)) mjTab_7 210 rfl rfl
theorem mjMc_263 : (12 : Nat) ≠ 13 → mjMw (yX12_pair, cX12_pair, 5, (some .int), 12) ∈ mjT := mjInc (q := (yX12_pair, cX12_pair, 5, (some .int), 12)) mjTab_7 214 rfl rfl
theorem mjMc_264 : (12 : Nat) ≠ 13 → mjMw (yX12_breaks, cX12_breaks, 2, (some .int), 12) ∈ mjT := mjInc (q := (yX12_breaks, cX12_breaks, 2, (some .int), 12)) mjTab_7 219 rfl rfl
theorem mjMc_265 : (12 : Nat) ≠ 13 → mjMw (yX12_clock, cX12_clock, 2, (some .int), 12) ∈ mjT := mjInc (q := (yX12_clock, cX12_clock, 2, (some .int), 12)) mjTab_7 223 rfl rfl
theorem mjMc_266 : (12 : Nat) ≠ 13 → mjMw (yX12_arrive, cX12_arrive, 5, none, 12) ∈ mjT := mjInc (q := (yX12_arrive, cX12_arrive, 5, none, 12)) mjTab_7 236 rfl rfl
theorem mjMc_267 : (12 : Nat) ≠ 13 → mjMw (yX12_minute, cX12_minute, 3, none, 12) ∈ mjT := mjInc (q := (yX12_minute, cX12_minute, 3, none, 12)) mjTab_7 232 rfl rfl
theorem mjMc_268 : (12 : Nat) ≠ 13 → mjMw (yX12_run, cX12_run, 3, (some .int), 12) ∈ mjT := mjInc (q := (yX12_run, cX12_run, 3, (some .int), 12)) mjTab_7 227 rfl rfl
theorem mjMc_269 : (12 : Nat) ≠ 13 → mjMw (yX12_fits, cX12_fits, 4, (some .boolean), 12) ∈ mjT := mjInc (q := (yX12_fits, cX12_fits, 4, (some .boolean), 12)) mjTab_8 8 rfl rfl
theorem mjMc_270 : (12 : Nat) ≠ 13 → mjMw (yX12_newPaper, cX12_newPaper, 8, (some .int), 12) ∈ mjT := mjInc (q := (yX12_newPaper, cX12_newPaper, 8, (some .int), 12)) mjTab_8 29 rfl rfl
theorem mjMc_271 : (12 : Nat) ≠ 13 → mjMw (yX12_paper, cX12_paper, 4, (some .int), 12) ∈ mjT := mjInc (q := (yX12_paper, cX12_paper, 4, (some .int), 12)) mjTab_8 4 rfl rfl
theorem mjMc_272 : (12 : Nat) ≠ 13 → mjMw (yX12_hung, cX12_hung, 5, (some .int), 12) ∈ mjT := mjInc (q := (yX12_hung, cX12_hung, 5, (some .int), 12)) mjTab_8 33 rfl rfl
theorem mjMc_273 : (12 : Nat) ≠ 13 → mjMw (yX12_told, cX12_told, 4, (some .int), 12) ∈ mjT := mjInc (q := (yX12_told, cX12_told, 4, (some .int), 12)) mjTab_8 41 rfl rfl
theorem mjMc_274 : (12 : Nat) ≠ 13 → mjMw (yX12_as, cX12_as, 5, (some .int), 12) ∈ mjT := mjInc (q := (yX12_as, cX12_as, 5, (some .int), 12)) mjTab_8 46 rfl rfl
theorem mjMc_275 : (12 : Nat) ≠ 13 → mjMw (yX12_stance, cX12_stance, 4, (some .int), 12) ∈ mjT := mjInc (q := (yX12_stance, cX12_stance, 4, (some .int), 12)) mjTab_8 52 rfl rfl
theorem mjMc_276 : (12 : Nat) ≠ 13 → mjMw (yX12_print, cX12_print, 5, (some .int), 12) ∈ mjT := mjInc (q := (yX12_print, cX12_print, 5, (some .int), 12)) mjTab_8 57 rfl rfl
theorem mjMc_277 : (12 : Nat) ≠ 13 → mjMw (yX12_hasRead, cX12_hasRead, 3, (some .boolean), 12) ∈ mjT := mjInc (q := (yX12_hasRead, cX12_hasRead, 3, (some .boolean), 12)) mjTab_8 70 rfl rfl
theorem mjMc_278 : (12 : Nat) ≠ 13 → mjMw (yX12_read, cX12_read, 3, (some .int), 12) ∈ mjT := mjInc (q := (yX12_read, cX12_read, 3, (some .int), 12)) mjTab_8 66 rfl rfl
theorem mjMc_279 : (12 : Nat) ≠ 13 → mjMw (yX12_isBound, cX12_isBound, 6, (some .boolean), 12) ∈ mjT := mjInc (q := (yX12_isBound, cX12_isBound, 6, (some .boolean), 12)) mjTab_8 87 rfl rfl
theorem mjMc_280 : (12 : Nat) ≠ 13 → mjMw (yX12_says, cX12_says, 5, (some .int), 12) ∈ mjT := mjInc (q := (yX12_says, cX12_says, 5, (some .int), 12)) mjTab_8 83 rfl rfl
theorem mjMc_281 : (12 : Nat) ≠ 13 → mjMw (yX12_votes, cX12_votes, 5, (some .boolean), 12) ∈ mjT := mjInc (q := (yX12_votes, cX12_votes, 5, (some .boolean), 12)) mjTab_8 79 rfl rfl
theorem mjMc_282 : (12 : Nat) ≠ 13 → mjMw (yX12_would, cX12_would, 4, (some .int), 12) ∈ mjT := mjInc (q := (yX12_would, cX12_would, 4, (some .int), 12)) mjTab_8 74 rfl rfl
theorem mjMc_283 : (12 : Nat) ≠ 13 → mjMw (yX12_doesFall, cX12_doesFall, 4, (some .boolean), 12) ∈ mjT := mjInc (q := (yX12_doesFall, cX12_doesFall, 4, (some .boolean), 12)) mjTab_8 129 rfl rfl
theorem mjMc_284 : (12 : Nat) ≠ 13 → mjMw (yX12_letFall, cX12_letFall, 3, (some .int), 12) ∈ mjT := mjInc (q := (yX12_letFall, cX12_letFall, 3, (some .int), 12)) mjTab_8 125 rfl rfl
theorem mjMc_285 : (12 : Nat) ≠ 13 → mjMw (yX12_settleDeals, cX12_settleDeals, 3, none, 12) ∈ mjT := mjInc (q := (yX12_settleDeals, cX12_settleDeals, 3, none, 12)) mjTab_8 133 rfl rfl
theorem mjMc_286 : (12 : Nat) ≠ 13 → mjMw (yX12_mayPut, cX12_mayPut, 4, (some .boolean), 12) ∈ mjT := mjInc (q := (yX12_mayPut, cX12_mayPut, 4, (some .boolean), 12)) mjTab_8 110 rfl rfl
theorem mjMc_287 : (12 : Nat) ≠ 13 → mjMw (yX12_withLine, cX12_withLine, 5, none, 12) ∈ mjT := mjInc (q := (yX12_withLine, cX12_withLine, 5, none, 12)) mjTab_8 118 rfl rfl
theorem mjMc_288 : (12 : Nat) ≠ 13 → mjMw (yX12_put, cX12_put, 5, (some .int), 12) ∈ mjT := mjInc (q := (yX12_put, cX12_put, 5, (some .int), 12)) mjTab_8 106 rfl rfl
theorem mjMc_289 : (12 : Nat) ≠ 13 → mjMw (yX12_rule, cX12_rule, 7, (some .int), 12) ∈ mjT := mjInc (q := (yX12_rule, cX12_rule, 7, (some .int), 12)) mjTab_8 137 rfl rfl
theorem mjMc_290 : (12 : Nat) ≠ 13 → mjMw (yX12_mend, cX12_mend, 2, (some .int), 12) ∈ mjT := mjInc (q := (yX12_mend, cX12_mend, 2, (some .int), 12)) mjTab_8 141 rfl rfl
theorem mjMc_291 : (12 : Nat) ≠ 13 → mjMw (yX12_noChange, cX12_noChange, 2, (some .int), 12) ∈ mjT := mjInc (q := (yX12_noChange, cX12_noChange, 2, (some .int), 12)) mjTab_8 149 rfl rfl
theorem mjMc_292 : (12 : Nat) ≠ 13 → mjMw (yX12_falls, cX12_falls, 5, (some .int), 12) ∈ mjT := mjInc (q := (yX12_falls, cX12_falls, 5, (some .int), 12)) mjTab_8 145 rfl rfl
theorem mjMc_293 : (12 : Nat) ≠ 13 → mjMw (yX12_isNever, cX12_isNever, 4, (some .boolean), 12) ∈ mjT := mjInc (q := (yX12_isNever, cX12_isNever, 4, (some .boolean), 12)) mjTab_8 157 rfl rfl
theorem mjMc_294 : (12 : Nat) ≠ 13 → mjMw (yX12_never, cX12_never, 3, (some .int), 12) ∈ mjT := mjInc (q := (yX12_never, cX12_never, 3, (some .int), 12)) mjTab_8 153 rfl rfl
theorem mjMc_295 : (12 : Nat) ≠ 13 → mjMw (yX12_worthOf, cX12_worthOf, 5, (some .int), 12) ∈ mjT := mjInc (q := (yX12_worthOf, cX12_worthOf, 5, (some .int), 12)) mjTab_8 169 rfl rfl
theorem mjMc_296 : (12 : Nat) ≠ 13 → mjMw (yX12_findRow, cX12_findRow, 6, (some .int), 12) ∈ mjT := mjInc (q := (yX12_findRow, cX12_findRow, 6, (some .int), 12)) mjTab_8 165 rfl rfl
theorem mjMc_297 : (12 : Nat) ≠ 13 → mjMw (yX12_row, cX12_row, 2, (some .int), 12) ∈ mjT := mjInc (q := (yX12_row, cX12_row, 2, (some .int), 12)) mjTab_8 161 rfl rfl
theorem mjMc_298 : (12 : Nat) ≠ 13 → mjMw (yX12_bind, cX12_bind, 4, (some .int), 12) ∈ mjT := mjInc (q := (yX12_bind, cX12_bind, 4, (some .int), 12)) mjTab_8 181 rfl rfl
theorem mjMc_299 : (12 : Nat) ≠ 13 → mjMw (yX12_bindingSum, cX12_bindingSum, 7, (some .int), 12) ∈ mjT := mjInc (q := (yX12_bindingSum, cX12_bindingSum, 7, (some .int), 12)) mjTab_8 177 rfl rfl
theorem mjMc_300 : (12 : Nat) ≠ 13 → mjMw (yX12_line, cX12_line, 8, (some .int), 12) ∈ mjT := mjInc (q := (yX12_line, cX12_line, 8, (some .int), 12)) mjTab_8 173 rfl rfl
theorem mjMc_301 : (12 : Nat) ≠ 13 → mjMw (yX12_feed, cX12_feed, 6, (some .int), 12) ∈ mjT := mjInc (q := (yX12_feed, cX12_feed, 6, (some .int), 12)) mjTab_8 185 rfl rfl
theorem mjMc_302 : (12 : Nat) ≠ 13 → mjMw (yX12_trim, cX12_trim, 2, (some .int), 12) ∈ mjT := mjInc (q := (yX12_trim, cX12_trim, 2, (some .int), 12)) mjTab_8 189 rfl rfl
theorem mjMc_303 : (12 : Nat) ≠ 13 → mjMw (yX12_isLetter, cX12_isLetter, 2, (some .boolean), 12) ∈ mjT := mjInc (q := (yX12_isLetter, cX12_isLetter, 2, (some .boolean), 12)) mjTab_8 206 rfl rfl
theorem mjMc_304 : (12 : Nat) ≠ 13 → mjMw (yX12_isDigit, cX12_isDigit, 2, (some .boolean), 12) ∈ mjT := mjInc (q := (yX12_isDigit, cX12_isDigit, 2, (some .boolean), 12)) mjTab_8 212 rfl rfl
theorem mjMc_305 : (12 : Nat) ≠ 13 → mjMw (yX12_next, cX12_next, 3, none, 12) ∈ mjT := mjInc (q := (yX12_next, cX12_next, 3, none, 12)) mjTab_8 202 rfl rfl
theorem mjMc_306 : (12 : Nat) ≠ 13 → mjMw (yX12_isSign, cX12_isSign, 2, (some .boolean), 12) ∈ mjT := mjInc (q := (yX12_isSign, cX12_isSign, 2, (some .boolean), 12)) mjTab_9 21 rfl rfl
theorem mjMc_307 : (12 : Nat) ≠ 13 → mjMw (yX12_isWordAt, cX12_isWordAt, 6, (some .boolean), 12) ∈ mjT := mjInc (q := (yX12_isWordAt, cX12_isWordAt, 6, (some .boolean), 12)) mjTab_8 222 rfl rfl
theorem mjMc_308 : (12 : Nat) ≠ 13 → mjMw (yX12_isFive, cX12_isFive, 6, (some .boolean), 12) ∈ mjT := mjInc (q := (yX12_isFive, cX12_isFive, 6, (some .boolean), 12)) mjTab_8 226 rfl rfl
theorem mjMc_309 : (12 : Nat) ≠ 13 → mjMw (yX12_key, cX12_key, 2, (some .int), 12) ∈ mjT := mjInc (q := (yX12_key, cX12_key, 2, (some .int), 12)) mjTab_8 218 rfl rfl
theorem mjMc_310 : (12 : Nat) ≠ 13 → mjMw (yX12_isName, cX12_isName, 2, (some .boolean), 12) ∈ mjT := mjInc (q := (yX12_isName, cX12_isName, 2, (some .boolean), 12)) mjTab_9 17 rfl rfl
theorem mjMc_311 : (12 : Nat) ≠ 13 → mjMw (yX12_step, cX12_step, 3, none, 12) ∈ mjT := mjInc (q := (yX12_step, cX12_step, 3, none, 12)) mjTab_9 14 rfl rfl
theorem mjMc_312 : (12 : Nat) ≠ 13 → mjMw (yX12_either, cX12_either, 2, (some .boolean), 12) ∈ mjT := mjInc (q := (yX12_either, cX12_either, 2, (some .boolean), 12)) mjTab_8 230 rfl rfl
theorem mjMc_313 : (12 : Nat) ≠ 13 → mjMw (yX12_both, cX12_both, 2, (some .boolean), 12) ∈ mjT := mjInc (q := (yX12_both, cX12_both, 2, (some .boolean), 12)) mjTab_8 234 rfl rfl
theorem mjMc_314 : (12 : Nat) ≠ 13 → mjMw (yX12_test, cX12_test, 3, (some .boolean), 12) ∈ mjT := mjInc (q := (yX12_test, cX12_test, 3, (some .boolean), 12)) mjTab_8 238 rfl rfl
theorem mjMc_315 : (12 : Nat) ≠ 13 → mjMw (yX12_sum, cX12_sum, 3, (some .boolean), 12) ∈ mjT := mjInc (q := (yX12_sum, cX12_sum, 3, (some .boolean), 12)) mjTab_9 2 rfl rfl
theorem mjMc_316 : (12 : Nat) ≠ 13 → mjMw (yX12_term, cX12_term, 3, (some .boolean), 12) ∈ mjT := mjInc (q := (yX12_term, cX12_term, 3, (some .boolean), 12)) mjTab_9 6 rfl rfl
theorem mjMc_317 : (12 : Nat) ≠ 13 → mjMw (yX12_part0, cX12_part0, 2, (some .boolean), 12) ∈ mjT := mjInc (q := (yX12_part0, cX12_part0, 2, (some .boolean), 12)) mjTab_9 10 rfl rfl
theorem mjMc_318 : (12 : Nat) ≠ 13 → mjMw (yX12_parse, cX12_parse, 3, (some .int), 12) ∈ mjT := mjInc (q := (yX12_parse, cX12_parse, 3, (some .int), 12)) mjTab_8 198 rfl rfl
theorem mjMc_319 : (12 : Nat) ≠ 13 → mjMw (yX12_text, cX12_text, 5, (some .int), 12) ∈ mjT := mjInc (q := (yX12_text, cX12_text, 5, (some .int), 12)) mjTab_8 193 rfl rfl
theorem mjMc_320 : (12 : Nat) ≠ 13 → mjMw (yX12_of, cX12_of, 3, (some .int), 12) ∈ mjT := mjInc (q := (yX12_of, cX12_of, 3, (some .int), 12)) mjTab_9 25 rfl rfl
theorem mjMc_321 : (12 : Nat) ≠ 13 → mjMw (yX12_counts, cX12_counts, 5, (some .int), 12) ∈ mjT := mjInc (q := (yX12_counts, cX12_counts, 5, (some .int), 12)) mjTab_8 91 rfl rfl
theorem mjMc_322 : (12 : Nat) ≠ 13 → mjMw (yX12_why, cX12_why, 2, (some .int), 12) ∈ mjT := mjInc (q := (yX12_why, cX12_why, 2, (some .int), 12)) mjTab_9 34 rfl rfl
theorem mjMc_323 : (12 : Nat) ≠ 13 → mjMw (yX12_joined, cX12_joined, 3, (some .int), 12) ∈ mjT := mjInc (q := (yX12_joined, cX12_joined, 3, (some .int), 12)) mjTab_8 102 rfl rfl
theorem mjMc_324 : (12 : Nat) ≠ 13 → mjMw (yX12_worked, cX12_worked, 6, (some .int), 12) ∈ mjT := mjInc (q := (yX12_worked, cX12_worked, 6, (some .int), 12)) mjTab_8 99 rfl rfl
theorem mjMc_325 : (12 : Nat) ≠ 13 → mjMw (yX12_income, cX12_income, 3, (some .int), 12) ∈ mjT := mjInc (q := (yX12_income, cX12_income, 3, (some .int), 12)) mjTab_9 38 rfl rfl
theorem mjMc_326 : (12 : Nat) ≠ 13 → mjMw (yX12_isGiven, cX12_isGiven, 2, (some .boolean), 12) ∈ mjT := mjInc (q := (yX12_isGiven, cX12_isGiven, 2, (some .boolean), 12)) mjTab_9 47 rfl rfl
theorem mjMc_327 : (12 : Nat) ≠ 13 → mjMw (yX12_incomes, cX12_incomes, 4, (some .int), 12) ∈ mjT := mjInc (q := (yX12_incomes, cX12_incomes, 4, (some .int), 12)) mjTab_9 51 rfl rfl
theorem mjMc_328 : (12 : Nat) ≠ 13 → mjMw (yX12_balance, cX12_balance, 6, (some .int), 12) ∈ mjT := mjInc (q := (yX12_balance, cX12_balance, 6, (some .int), 12)) mjTab_9 42 rfl rfl
theorem mjMc_329 : (12 : Nat) ≠ 13 → mjMw (yX12_first, cX12_first, 6, (some .int), 12) ∈ mjT := mjInc (q := (yX12_first, cX12_first, 6, (some .int), 12)) mjTab_9 55 rfl rfl
theorem mjMc_330 : (12 : Nat) ≠ 13 → mjMw (yX12_isOffice, cX12_isOffice, 1, (some .boolean), 12) ∈ mjT := mjInc (q := (yX12_isOffice, cX12_isOffice, 1, (some .boolean), 12)) mjTab_9 63 rfl rfl
theorem mjMc_331 : (12 : Nat) ≠ 13 → mjMw (yX12_book, cX12_book, 5, (some .int), 12) ∈ mjT := mjInc (q := (yX12_book, cX12_book, 5, (some .int), 12)) mjTab_9 60 rfl rfl
theorem mjMc_332 : (12 : Nat) ≠ 13 → mjMw (yX12_note, cX12_note, 4, (some .int), 12) ∈ mjT := mjInc (q := (yX12_note, cX12_note, 4, (some .int), 12)) mjTab_9 69 rfl rfl
theorem mjMc_333 : (12 : Nat) ≠ 13 → mjMw (yX12_readBy, cX12_readBy, 4, (some .int), 12) ∈ mjT := mjInc (q := (yX12_readBy, cX12_readBy, 4, (some .int), 12)) mjTab_9 81 rfl rfl
theorem mjMc_334 : (12 : Nat) ≠ 13 → mjMw (yX12_looks, cX12_looks, 4, (some .int), 12) ∈ mjT := mjInc (q := (yX12_looks, cX12_looks, 4, (some .int), 12)) mjTab_9 77 rfl rfl
theorem mjMc_335 : (12 : Nat) ≠ 13 → mjMw (yX12_copy, cX12_copy, 7, (some .int), 12) ∈ mjT := mjInc (q := (yX12_copy, cX12_copy, 7, (some .int), 12)) mjTab_9 85 rfl rfl
theorem mjMc_336 : (12 : Nat) ≠ 13 → mjMw (yX12_span, cX12_span, 10, (some .int), 12) ∈ mjT := mjInc (q := (yX12_span, cX12_span, 10, (some .int), 12)) mjTab_9 89 rfl rfl
theorem mjMc_337 : (12 : Nat) ≠ 13 → mjMw (yX12_wish, cX12_wish, 3, (some .int), 12) ∈ mjT := mjInc (q := (yX12_wish, cX12_wish, 3, (some .int), 12)) mjTab_9 93 rfl rfl
theorem mjMc_338 : (12 : Nat) ≠ 13 → mjMw (yX12_findLines, cX12_findLines, 3, (some .int), 12) ∈ mjT := mjInc (q := (yX12_findLines, cX12_findLines, 3, (some .int), 12)) mjTab_9 103 rfl rfl
theorem mjMc_339 : (12 : Nat) ≠ 13 → mjMw (yX12_membersFor, cX12_membersFor, 6, (some .int), 12) ∈ mjT := mjInc (q := (yX12_membersFor, cX12_membersFor, 6, (some .int), 12)) mjTab_9 110 rfl rfl
theorem mjMc_340 : (12 : Nat) ≠ 13 → mjMw (yX12_carry, cX12_carry, 9, (some .int), 12) ∈ mjT := mjInc (q := (yX12_carry, cX12_carry, 9, (some .int), 12)) mjTab_9 98 rfl rfl
theorem mjMc_341 : (12 : Nat) ≠ 13 → mjMw (yX12_interpreter, cX12_interpreter, 2, (some .int), 12) ∈ mjT := mjInc (q := (yX12_interpreter, cX12_interpreter, 2, (some .int), 12)) mjTab_9 114 rfl rfl
theorem mjMc_342 : (12 : Nat) ≠ 13 → mjMw (yX12_speaks, cX12_speaks, 7, (some .int), 12) ∈ mjT := mjInc (q := (yX12_speaks, cX12_speaks, 7, (some .int), 12)) mjTab_9 118 rfl rfl
theorem mjMc_343 : (12 : Nat) ≠ 13 → mjMw (yX12_speech, cX12_speech, 5, (some .int), 12) ∈ mjT := mjInc (q := (yX12_speech, cX12_speech, 5, (some .int), 12)) mjTab_9 122 rfl rfl
theorem mjMc_344 : (12 : Nat) ≠ 13 → mjMw (yX12_hears, cX12_hears, 4, (some .int), 12) ∈ mjT := mjInc (q := (yX12_hears, cX12_hears, 4, (some .int), 12)) mjTab_9 138 rfl rfl
theorem mjMc_345 : (12 : Nat) ≠ 13 → mjMw (yX12_heardBy, cX12_heardBy, 6, (some .int), 12) ∈ mjT := mjInc (q := (yX12_heardBy, cX12_heardBy, 6, (some .int), 12)) mjTab_9 134 rfl rfl
theorem mjMc_346 : (12 : Nat) ≠ 13 → mjMw (yX12_findShift, cX12_findShift, 7, (some .int), 12) ∈ mjT := mjInc (q := (yX12_findShift, cX12_findShift, 7, (some .int), 12)) mjTab_9 130 rfl rfl
theorem mjMc_347 : (12 : Nat) ≠ 13 → mjMw (yX12_heard, cX12_heard, 2, (some .int), 12) ∈ mjT := mjInc (q := (yX12_heard, cX12_heard, 2, (some .int), 12)) mjTab_9 126 rfl rfl
theorem mjMc_348 : (12 : Nat) ≠ 13 → mjMw (yX12_shift, cX12_shift, 8, (some .int), 12) ∈ mjT := mjInc (q := (yX12_shift, cX12_shift, 8, (some .int), 12)) mjTab_9 142 rfl rfl
theorem mjMc_349 : (12 : Nat) ≠ 13 → mjMw (yX12_offer, cX12_offer, 6, (some .int), 12) ∈ mjT := mjInc (q := (yX12_offer, cX12_offer, 6, (some .int), 12)) mjTab_9 146 rfl rfl
theorem mjMc_350 : (12 : Nat) ≠ 13 → mjMw (yX12_sumOf, cX12_sumOf, 5, (some .int), 12) ∈ mjT := mjInc (q := (yX12_sumOf, cX12_sumOf, 5, (some .int), 12)) mjTab_9 162 rfl rfl
theorem mjMc_351 : (12 : Nat) ≠ 13 → mjMw (yX12_goesTogether, cX12_goesTogether, 4, (some .boolean), 12) ∈ mjT := mjInc (q := (yX12_goesTogether, cX12_goesTogether, 4, (some .boolean), 12)) mjTab_9 166 rfl rfl
theorem mjMc_352 : (12 : Nat) ≠ 13 → mjMw (yX12_findNight, cX12_findNight, 6, (some .int), 12) ∈ mjT := mjInc (q := (yX12_findNight, cX12_findNight, 6, (some .int), 12)) mjTab_9 158 rfl rfl
theorem mjMc_353 : (12 : Nat) ≠ 13 → mjMw (yX12_isNight, cX12_isNight, 2, (some .boolean), 12) ∈ mjT := mjInc (q := (yX12_isNight, cX12_isNight, 2, (some .boolean), 12)) mjTab_9 154 rfl rfl
theorem mjMc_354 : (12 : Nat) ≠ 13 → mjMw (yX12_night, cX12_night, 5, (some .int), 12) ∈ mjT := mjInc (q := (yX12_night, cX12_night, 5, (some .int), 12)) mjTab_9 151 rfl rfl
theorem mjMc_355 : (12 : Nat) ≠ 13 → mjMw (yX12_tell, cX12_tell, 2, (some .int), 12) ∈ mjT := mjInc (q := (yX12_tell, cX12_tell, 2, (some .int), 12)) mjTab_9 170 rfl rfl
theorem mjMc_356 : (12 : Nat) ≠ 13 → mjMw (yX12_setAside, cX12_setAside, 4, none, 12) ∈ mjT := mjInc (q := (yX12_setAside, cX12_setAside, 4, none, 12)) mjTab_9 191 rfl rfl
theorem mjMc_357 : (12 : Nat) ≠ 13 → mjMw (yX12_dueIs, cX12_dueIs, 3, none, 12) ∈ mjT := mjInc (q := (yX12_dueIs, cX12_dueIs, 3, none, 12)) mjTab_9 182 rfl rfl
theorem mjMc_358 : (12 : Nat) ≠ 13 → mjMw (yX12_rowsOfNight, cX12_rowsOfNight, 6, (some .int), 12) ∈ mjT := mjInc (q := (yX12_rowsOfNight, cX12_rowsOfNight, 6, (some .int), 12)) mjTab_9 178 rfl rfl
theorem mjMc_359 : (12 : Nat) ≠ 13 → mjMw (yX12_present, cX12_present, 3, (some .int), 12) ∈ mjT := mjInc (q := (yX12_present, cX12_present, 3, (some .int), 12)) mjTab_9 195 rfl rfl
theorem mjMc_360 : (12 : Nat) ≠ 13 → mjMw (yX12_rowsTold, cX12_rowsTold, 4, (some .int), 12) ∈ mjT := mjInc (q := (yX12_rowsTold, cX12_rowsTold, 4, (some .int), 12)) mjTab_9 186 rfl rfl
theorem mjMc_361 : (12 : Nat) ≠ 13 → mjMw (yX12_check, cX12_check, 7, (some .int), 12) ∈ mjT := mjInc (q := (yX12_check, cX12_check, 7, (some .int), 12)) mjTab_9 174 rfl rfl
theorem mjMc_362 : (12 : Nat) ≠ 13 → mjMw (yX12_keep, cX12_keep, 1, (some .int), 12) ∈ mjT := mjInc (q := (yX12_keep, cX12_keep, 1, (some .int), 12)) mjTab_9 199 rfl rfl
theorem mjMc_363 : (12 : Nat) ≠ 13 → mjMw (yX12_back, cX12_back, 1, (some .int), 12) ∈ mjT := mjInc (q := (yX12_back, cX12_back, 1, (some .int), 12)) mjTab_9 203 rfl rfl
theorem mjMc_364 : (12 : Nat) ≠ 13 → mjMw (yX12_count, cX12_count, 4, (some .int), 12) ∈ mjT := mjInc (q := (yX12_count, cX12_count, 4, (some .int), 12)) mjTab_9 207 rfl rfl
theorem mjMc_365 : (13 : Nat) ≠ 13 → mjMw (yL_law, cL_law, 4, (some .boolean), 13) ∈ mjT := fun h => absurd rfl h
theorem mjMc_366 : (14 : Nat) ≠ 13 → mjMw (yJ6_compare_7cf53, cJ6_compare_7cf53, 2, (some .int), 14) ∈ mjT := mjInc (q := (yJ6_compare_7cf53, cJ6_compare_7cf53, 2, (some .int), 14)) mjTab_3 207 rfl rfl
theorem mjMc_367 : (14 : Nat) ≠ 13 → mjMw (yJ6_bitCount_0f7a4, cJ6_bitCount_0f7a4, 1, (some .int), 14) ∈ mjT := mjInc (q := (yJ6_bitCount_0f7a4, cJ6_bitCount_0f7a4, 1, (some .int), 14)) mjTab_6 64 rfl rfl
theorem mjMok_1 : ∀ q ∈ mjM_1, (q.2.2.2.2 ≠ 13 → mjMw q ∈ mjT) := List.forall_mem_cons.mpr ⟨mjMc_0, List.forall_mem_cons.mpr ⟨mjMc_1, List.forall_mem_cons.mpr ⟨mjMc_2, List.forall_mem_cons.mpr ⟨mjMc_3, List.forall_mem_cons.mpr ⟨mjMc_4, List.forall_mem_cons.mpr ⟨mjMc_5, List.forall_mem_cons.mpr ⟨mjMc_6, List.forall_mem_cons.mpr ⟨mjMc_7, List.forall_mem_cons.mpr ⟨mjMc_8, List.forall_mem_cons.mpr ⟨mjMc_9, List.forall_mem_cons.mpr ⟨mjMc_10, List.forall_mem_cons.mpr ⟨mjMc_11, List.forall_mem_cons.mpr ⟨mjMc_12, List.forall_mem_cons.mpr ⟨mjMc_13, List.forall_mem_cons.mpr ⟨mjMc_14, List.forall_mem_cons.mpr ⟨mjMc_15, List.forall_mem_cons.mpr ⟨mjMc_16, List.forall_mem_cons.mpr ⟨mjMc_17, List.forall_mem_cons.mpr ⟨mjMc_18, List.forall_mem_cons.mpr ⟨mjMc_19, List.forall_mem_cons.mpr ⟨mjMc_20, List.forall_mem_cons.mpr ⟨mjMc_21, List.forall_mem_cons.mpr ⟨mjMc_22, List.forall_mem_cons.mpr ⟨mjMc_23, List.forall_mem_cons.mpr ⟨mjMc_24, List.forall_mem_cons.mpr ⟨mjMc_25, List.forall_mem_cons.mpr ⟨mjMc_26, List.forall_mem_cons.mpr ⟨mjMc_27, List.forall_mem_cons.mpr ⟨mjMc_28, List.forall_mem_cons.mpr ⟨mjMc_29, List.forall_mem_cons.mpr ⟨mjMc_30, List.forall_mem_cons.mpr ⟨mjMc_31, List.forall_mem_cons.mpr ⟨mjMc_32, List.forall_mem_cons.mpr ⟨mjMc_33, List.forall_mem_cons.mpr ⟨mjMc_34, List.forall_mem_cons.mpr ⟨mjMc_35, List.forall_mem_cons.mpr ⟨mjMc_36, List.forall_mem_cons.mpr ⟨mjMc_37, List.forall_mem_cons.mpr ⟨mjMc_38, List.forall_mem_cons.mpr ⟨mjMc_39, List.forall_mem_cons.mpr ⟨mjMc_40, List.forall_mem_cons.mpr ⟨mjMc_41, List.forall_mem_cons.mpr ⟨mjMc_42, List.forall_mem_cons.mpr ⟨mjMc_43, List.forall_mem_cons.mpr ⟨mjMc_44, List.forall_mem_cons.mpr ⟨mjMc_45, List.forall_mem_cons.mpr ⟨mjMc_46, List.forall_mem_cons.mpr ⟨mjMc_47, List.forall_mem_cons.mpr ⟨mjMc_48, List.forall_mem_cons.mpr ⟨mjMc_49, List.forall_mem_cons.mpr ⟨mjMc_50, List.forall_mem_cons.mpr ⟨mjMc_51, List.forall_mem_cons.mpr ⟨mjMc_52, List.forall_mem_cons.mpr ⟨mjMc_53, List.forall_mem_cons.mpr ⟨mjMc_54, List.forall_mem_cons.mpr ⟨mjMc_55, List.forall_mem_cons.mpr ⟨mjMc_56, List.forall_mem_cons.mpr ⟨mjMc_57, List.forall_mem_cons.mpr ⟨mjMc_58, List.forall_mem_cons.mpr ⟨mjMc_59, fun _ h => absurd h List.not_mem_nil⟩⟩⟩⟩⟩⟩⟩⟩⟩⟩⟩⟩⟩⟩⟩⟩⟩⟩⟩⟩⟩⟩⟩⟩⟩⟩⟩⟩⟩⟩⟩⟩⟩⟩⟩⟩⟩⟩⟩⟩⟩⟩⟩⟩⟩⟩⟩⟩⟩⟩⟩⟩⟩⟩⟩⟩⟩⟩⟩⟩
theorem mjMok_2 : ∀ q ∈ mjM_2, (q.2.2.2.2 ≠ 13 → mjMw q ∈ mjT) := List.forall_mem_cons.mpr ⟨mjMc_60, List.forall_mem_cons.mpr ⟨mjMc_61, List.forall_mem_cons.mpr ⟨mjMc_62, List.forall_mem_cons.mpr ⟨mjMc_63, List.forall_mem_cons.mpr ⟨mjMc_64, List.forall_mem_cons.mpr ⟨mjMc_65, List.forall_mem_cons.mpr ⟨mjMc_66, List.forall_mem_cons.mpr ⟨mjMc_67, List.forall_mem_cons.mpr ⟨mjMc_68, List.forall_mem_cons.mpr ⟨mjMc_69, List.forall_mem_cons.mpr ⟨mjMc_70, List.forall_mem_cons.mpr ⟨mjMc_71, List.forall_mem_cons.mpr ⟨mjMc_72, List.forall_mem_cons.mpr ⟨mjMc_73, List.forall_mem_cons.mpr ⟨mjMc_74, List.forall_mem_cons.mpr ⟨mjMc_75, List.forall_mem_cons.mpr ⟨mjMc_76, List.forall_mem_cons.mpr ⟨mjMc_77, List.forall_mem_cons.mpr ⟨mjMc_78, List.forall_mem_cons.mpr ⟨mjMc_79, List.forall_mem_cons.mpr ⟨mjMc_80, List.forall_mem_cons.mpr ⟨mjMc_81, List.forall_mem_cons.mpr ⟨mjMc_82, List.forall_mem_cons.mpr ⟨mjMc_83, List.forall_mem_cons.mpr ⟨mjMc_84, List.forall_mem_cons.mpr ⟨mjMc_85, List.forall_mem_cons.mpr ⟨mjMc_86, List.forall_mem_cons.mpr ⟨mjMc_87, List.forall_mem_cons.mpr ⟨mjMc_88, List.forall_mem_cons.mpr ⟨mjMc_89, List.forall_mem_cons.mpr ⟨mjMc_90, List.forall_mem_cons.mpr ⟨mjMc_91, List.forall_mem_cons.mpr ⟨mjMc_92, List.forall_mem_cons.mpr ⟨mjMc_93, List.forall_mem_cons.mpr ⟨mjMc_94, List.forall_mem_cons.mpr ⟨mjMc_95, List.forall_mem_cons.mpr ⟨mjMc_96, List.forall_mem_cons.mpr ⟨mjMc_97, List.forall_mem_cons.mpr ⟨mjMc_98, List.forall_mem_cons.mpr ⟨mjMc_99, List.forall_mem_cons.mpr ⟨mjMc_100, List.forall_mem_cons.mpr ⟨mjMc_101, List.forall_mem_cons.mpr ⟨mjMc_102, List.forall_mem_cons.mpr ⟨mjMc_103, List.forall_mem_cons.mpr ⟨mjMc_104, List.forall_mem_cons.mpr ⟨mjMc_105, List.forall_mem_cons.mpr ⟨mjMc_106, List.forall_mem_cons.mpr ⟨mjMc_107, List.forall_mem_cons.mpr ⟨mjMc_108, List.forall_mem_cons.mpr ⟨mjMc_109, List.forall_mem_cons.mpr ⟨mjMc_110, List.forall_mem_cons.mpr ⟨mjMc_111, List.forall_mem_cons.mpr ⟨mjMc_112, List.forall_mem_cons.mpr ⟨mjMc_113, List.forall_mem_cons.mpr ⟨mjMc_114, List.forall_mem_cons.mpr ⟨mjMc_115, List.forall_mem_cons.mpr ⟨mjMc_116, List.forall_mem_cons.mpr ⟨mjMc_117, List.forall_mem_cons.mpr ⟨mjMc_118, List.forall_mem_cons.mpr ⟨mjMc_119, fun _ h => absurd h List.not_mem_nil⟩⟩⟩⟩⟩⟩⟩⟩⟩⟩⟩⟩⟩⟩⟩⟩⟩⟩⟩⟩⟩⟩⟩⟩⟩⟩⟩⟩⟩⟩⟩⟩⟩⟩⟩⟩⟩⟩⟩⟩⟩⟩⟩⟩⟩⟩⟩⟩⟩⟩⟩⟩⟩⟩⟩⟩⟩⟩⟩⟩
theorem mjMok_3 : ∀ q ∈ mjM_3, (q.2.2.2.2 ≠ 13 → mjMw q ∈ mjT) := List.forall_mem_cons.mpr ⟨mjMc_120, List.forall_mem_cons.mpr ⟨mjMc_121, List.forall_mem_cons.mpr ⟨mjMc_122, List.forall_mem_cons.mpr ⟨mjMc_123, List.forall_mem_cons.mpr ⟨mjMc_124, List.forall_mem_cons.mpr ⟨mjMc_125, List.forall_mem_cons.mpr ⟨mjMc_126, List.forall_mem_cons.mpr ⟨mjMc_127, List.forall_mem_cons.mpr ⟨mjMc_128, List.forall_mem_cons.mpr ⟨mjMc_129, List.forall_mem_cons.mpr ⟨mjMc_130, List.forall_mem_cons.mpr ⟨mjMc_131, List.forall_mem_cons.mpr ⟨mjMc_132, List.forall_mem_cons.mpr ⟨mjMc_133, List.forall_mem_cons.mpr ⟨mjMc_134, List.forall_mem_cons.mpr ⟨mjMc_135, List.forall_mem_cons.mpr ⟨mjMc_136, List.forall_mem_cons.mpr ⟨mjMc_137, List.forall_mem_cons.mpr ⟨mjMc_138, List.forall_mem_cons.mpr ⟨mjMc_139, List.forall_mem_cons.mpr ⟨mjMc_140, List.forall_mem_cons.mpr ⟨mjMc_141, List.forall_mem_cons.mpr ⟨mjMc_142, List.forall_mem_cons.mpr ⟨mjMc_143, List.forall_mem_cons.mpr ⟨mjMc_144, List.forall_mem_cons.mpr ⟨mjMc_145, List.forall_mem_cons.mpr ⟨mjMc_146, List.forall_mem_cons.mpr ⟨mjMc_147, List.forall_mem_cons.mpr ⟨mjMc_148, List.forall_mem_cons.mpr ⟨mjMc_149, List.forall_mem_cons.mpr ⟨mjMc_150, List.forall_mem_cons.mpr ⟨mjMc_151, List.forall_mem_cons.mpr ⟨mjMc_152, List.forall_mem_cons.mpr ⟨mjMc_153, List.forall_mem_cons.mpr ⟨mjMc_154, List.forall_mem_cons.mpr ⟨mjMc_155, List.forall_mem_cons.mpr ⟨mjMc_156, List.forall_mem_cons.mpr ⟨mjMc_157, List.forall_mem_cons.mpr ⟨mjMc_158, List.forall_mem_cons.mpr ⟨mjMc_159, List.forall_mem_cons.mpr ⟨mjMc_160, List.forall_mem_cons.mpr ⟨mjMc_161, List.forall_mem_cons.mpr ⟨mjMc_162, List.forall_mem_cons.mpr ⟨mjMc_163, List.forall_mem_cons.mpr ⟨mjMc_164, List.forall_mem_cons.mpr ⟨mjMc_165, List.forall_mem_cons.mpr ⟨mjMc_166, List.forall_mem_cons.mpr ⟨mjMc_167, List.forall_mem_cons.mpr ⟨mjMc_168, List.forall_mem_cons.mpr ⟨mjMc_169, List.forall_mem_cons.mpr ⟨mjMc_170, List.forall_mem_cons.mpr ⟨mjMc_171, List.forall_mem_cons.mpr ⟨mjMc_172, List.forall_mem_cons.mpr ⟨mjMc_173, List.forall_mem_cons.mpr ⟨mjMc_174, List.forall_mem_cons.mpr ⟨mjMc_175, List.forall_mem_cons.mpr ⟨mjMc_176, List.forall_mem_cons.mpr ⟨mjMc_177, List.forall_mem_cons.mpr ⟨mjMc_178, List.forall_mem_cons.mpr ⟨mjMc_179, fun _ h => absurd h List.not_mem_nil⟩⟩⟩⟩⟩⟩⟩⟩⟩⟩⟩⟩⟩⟩⟩⟩⟩⟩⟩⟩⟩⟩⟩⟩⟩⟩⟩⟩⟩⟩⟩⟩⟩⟩⟩⟩⟩⟩⟩⟩⟩⟩⟩⟩⟩⟩⟩⟩⟩⟩⟩⟩⟩⟩⟩⟩⟩⟩⟩⟩
theorem mjMok_4 : ∀ q ∈ mjM_4, (q.2.2.2.2 ≠ 13 → mjMw q ∈ mjT) := List.forall_mem_cons.mpr ⟨mjMc_180, List.forall_mem_cons.mpr ⟨mjMc_181, List.forall_mem_cons.mpr ⟨mjMc_182, List.forall_mem_cons.mpr ⟨mjMc_183, List.forall_mem_cons.mpr ⟨mjMc_184, List.forall_mem_cons.mpr ⟨mjMc_185, List.forall_mem_cons.mpr ⟨mjMc_186, List.forall_mem_cons.mpr ⟨mjMc_187, List.forall_mem_cons.mpr ⟨mjMc_188, List.forall_mem_cons.mpr ⟨mjMc_189, List.forall_mem_cons.mpr ⟨mjMc_190, List.forall_mem_cons.mpr ⟨mjMc_191, List.forall_mem_cons.mpr ⟨mjMc_192, List.forall_mem_cons.mpr ⟨mjMc_193, List.forall_mem_cons.mpr ⟨mjMc_194, List.forall_mem_cons.mpr ⟨mjMc_195, List.forall_mem_cons.mpr ⟨mjMc_196, List.forall_mem_cons.mpr ⟨mjMc_197, List.forall_mem_cons.mpr ⟨mjMc_198, List.forall_mem_cons.mpr ⟨mjMc_199, List.forall_mem_cons.mpr ⟨mjMc_200, List.forall_mem_cons.mpr ⟨mjMc_201, List.forall_mem_cons.mpr ⟨mjMc_202, List.forall_mem_cons.mpr ⟨mjMc_203, List.forall_mem_cons.mpr ⟨mjMc_204, List.forall_mem_cons.mpr ⟨mjMc_205, List.forall_mem_cons.mpr ⟨mjMc_206, List.forall_mem_cons.mpr ⟨mjMc_207, List.forall_mem_cons.mpr ⟨mjMc_208, List.forall_mem_cons.mpr ⟨mjMc_209, List.forall_mem_cons.mpr ⟨mjMc_210, List.forall_mem_cons.mpr ⟨mjMc_211, List.forall_mem_cons.mpr ⟨mjMc_212, List.forall_mem_cons.mpr ⟨mjMc_213, List.forall_mem_cons.mpr ⟨mjMc_214, List.forall_mem_cons.mpr ⟨mjMc_215, List.forall_mem_cons.mpr ⟨mjMc_216, List.forall_mem_cons.mpr ⟨mjMc_217, List.forall_mem_cons.mpr ⟨mjMc_218, List.forall_mem_cons.mpr ⟨mjMc_219, List.forall_mem_cons.mpr ⟨mjMc_220, List.forall_mem_cons.mpr ⟨mjMc_221, List.forall_mem_cons.mpr ⟨mjMc_222, List.forall_mem_cons.mpr ⟨mjMc_223, List.forall_mem_cons.mpr ⟨mjMc_224, List.forall_mem_cons.mpr ⟨mjMc_225, List.forall_mem_cons.mpr ⟨mjMc_226, List.forall_mem_cons.mpr ⟨mjMc_227, List.forall_mem_cons.mpr ⟨mjMc_228, List.forall_mem_cons.mpr ⟨mjMc_229, List.forall_mem_cons.mpr ⟨mjMc_230, List.forall_mem_cons.mpr ⟨mjMc_231, List.forall_mem_cons.mpr ⟨mjMc_232, List.forall_mem_cons.mpr ⟨mjMc_233, List.forall_mem_cons.mpr ⟨mjMc_234, List.forall_mem_cons.mpr ⟨mjMc_235, List.forall_mem_cons.mpr ⟨mjMc_236, List.forall_mem_cons.mpr ⟨mjMc_237, List.forall_mem_cons.mpr ⟨mjMc_238, List.forall_mem_cons.mpr ⟨mjMc_239, fun _ h => absurd h List.not_mem_nil⟩⟩⟩⟩⟩⟩⟩⟩⟩⟩⟩⟩⟩⟩⟩⟩⟩⟩⟩⟩⟩⟩⟩⟩⟩⟩⟩⟩⟩⟩⟩⟩⟩⟩⟩⟩⟩⟩⟩⟩⟩⟩⟩⟩⟩⟩⟩⟩⟩⟩⟩⟩⟩⟩⟩⟩⟩⟩⟩⟩
theorem mjMok_5 : ∀ q ∈ mjM_5, (q.2.2.2.2 ≠ 13 → mjMw q ∈ mjT) := List.forall_mem_cons.mpr ⟨mjMc_240, List.forall_mem_cons.mpr ⟨mjMc_241, List.forall_mem_cons.mpr ⟨mjMc_242, List.forall_mem_cons.mpr ⟨mjMc_243, List.forall_mem_cons.mpr ⟨mjMc_244, List.forall_mem_cons.mpr ⟨mjMc_245, List.forall_mem_cons.mpr ⟨mjMc_246, List.forall_mem_cons.mpr ⟨mjMc_247, List.forall_mem_cons.mpr ⟨mjMc_248, List.forall_mem_cons.mpr ⟨mjMc_249, List.forall_mem_cons.mpr ⟨mjMc_250, List.forall_mem_cons.mpr ⟨mjMc_251, List.forall_mem_cons.mpr ⟨mjMc_252, List.forall_mem_cons.mpr ⟨mjMc_253, List.forall_mem_cons.mpr ⟨mjMc_254, List.forall_mem_cons.mpr ⟨mjMc_255, List.forall_mem_cons.mpr ⟨mjMc_256, List.forall_mem_cons.mpr ⟨mjMc_257, List.forall_mem_cons.mpr ⟨mjMc_258, List.forall_mem_cons.mpr ⟨mjMc_259, List.forall_mem_cons.mpr ⟨mjMc_260, List.forall_mem_cons.mpr ⟨mjMc_261, List.forall_mem_cons.mpr ⟨mjMc_262, List.forall_mem_cons.mpr ⟨mjMc_263, List.forall_mem_cons.mpr ⟨mjMc_264, List.forall_mem_cons.mpr ⟨mjMc_265, List.forall_mem_cons.mpr ⟨mjMc_266, List.forall_mem_cons.mpr ⟨mjMc_267, List.forall_mem_cons.mpr ⟨mjMc_268, List.forall_mem_cons.mpr ⟨mjMc_269, List.forall_mem_cons.mpr ⟨mjMc_270, List.forall_mem_cons.mpr ⟨mjMc_271, List.forall_mem_cons.mpr ⟨mjMc_272, List.forall_mem_cons.mpr ⟨mjMc_273, List.forall_mem_cons.mpr ⟨mjMc_274, List.forall_mem_cons.mpr ⟨mjMc_275, List.forall_mem_cons.mpr ⟨mjMc_276, List.forall_mem_cons.mpr ⟨mjMc_277, List.forall_mem_cons.mpr ⟨mjMc_278, List.forall_mem_cons.mpr ⟨mjMc_279, List.forall_mem_cons.mpr ⟨mjMc_280, List.forall_mem_cons.mpr ⟨mjMc_281, List.forall_mem_cons.mpr ⟨mjMc_282, List.forall_mem_cons.mpr ⟨mjMc_283, List.forall_mem_cons.mpr ⟨mjMc_284, List.forall_mem_cons.mpr ⟨mjMc_285, List.forall_mem_cons.mpr ⟨mjMc_286, List.forall_mem_cons.mpr ⟨mjMc_287, List.forall_mem_cons.mpr ⟨mjMc_288, List.forall_mem_cons.mpr ⟨mjMc_289, List.forall_mem_cons.mpr ⟨mjMc_290, List.forall_mem_cons.mpr ⟨mjMc_291, List.forall_mem_cons.mpr ⟨mjMc_292, List.forall_mem_cons.mpr ⟨mjMc_293, List.forall_mem_cons.mpr ⟨mjMc_294, List.forall_mem_cons.mpr ⟨mjMc_295, List.forall_mem_cons.mpr ⟨mjMc_296, List.forall_mem_cons.mpr ⟨mjMc_297, List.forall_mem_cons.mpr ⟨mjMc_298, List.forall_mem_cons.mpr ⟨mjMc_299, fun _ h => absurd h List.not_mem_nil⟩⟩⟩⟩⟩⟩⟩⟩⟩⟩⟩⟩⟩⟩⟩⟩⟩⟩⟩⟩⟩⟩⟩⟩⟩⟩⟩⟩⟩⟩⟩⟩⟩⟩⟩⟩⟩⟩⟩⟩⟩⟩⟩⟩⟩⟩⟩⟩⟩⟩⟩⟩⟩⟩⟩⟩⟩⟩⟩⟩
theorem mjMok_6 : ∀ q ∈ mjM_6, (q.2.2.2.2 ≠ 13 → mjMw q ∈ mjT) := List.forall_mem_cons.mpr ⟨mjMc_300, List.forall_mem_cons.mpr ⟨mjMc_301, List.forall_mem_cons.mpr ⟨mjMc_302, List.forall_mem_cons.mpr ⟨mjMc_303, List.forall_mem_cons.mpr ⟨mjMc_304, List.forall_mem_cons.mpr ⟨mjMc_305, List.forall_mem_cons.mpr ⟨mjMc_306, List.forall_mem_cons.mpr ⟨mjMc_307, List.forall_mem_cons.mpr ⟨mjMc_308, List.forall_mem_cons.mpr ⟨mjMc_309, List.forall_mem_cons.mpr ⟨mjMc_310, List.forall_mem_cons.mpr ⟨mjMc_311, List.forall_mem_cons.mpr ⟨mjMc_312, List.forall_mem_cons.mpr ⟨mjMc_313, List.forall_mem_cons.mpr ⟨mjMc_314, List.forall_mem_cons.mpr ⟨mjMc_315, List.forall_mem_cons.mpr ⟨mjMc_316, List.forall_mem_cons.mpr ⟨mjMc_317, List.forall_mem_cons.mpr ⟨mjMc_318, List.forall_mem_cons.mpr ⟨mjMc_319, List.forall_mem_cons.mpr ⟨mjMc_320, List.forall_mem_cons.mpr ⟨mjMc_321, List.forall_mem_cons.mpr ⟨mjMc_322, List.forall_mem_cons.mpr ⟨mjMc_323, List.forall_mem_cons.mpr ⟨mjMc_324, List.forall_mem_cons.mpr ⟨mjMc_325, List.forall_mem_cons.mpr ⟨mjMc_326, List.forall_mem_cons.mpr ⟨mjMc_327, List.forall_mem_cons.mpr ⟨mjMc_328, List.forall_mem_cons.mpr ⟨mjMc_329, List.forall_mem_cons.mpr ⟨mjMc_330, List.forall_mem_cons.mpr ⟨mjMc_331, List.forall_mem_cons.mpr ⟨mjMc_332, List.forall_mem_cons.mpr ⟨mjMc_333, List.forall_mem_cons.mpr ⟨mjMc_334, List.forall_mem_cons.mpr ⟨mjMc_335, List.forall_mem_cons.mpr ⟨mjMc_336, List.forall_mem_cons.mpr ⟨mjMc_337, List.forall_mem_cons.mpr ⟨mjMc_338, List.forall_mem_cons.mpr ⟨mjMc_339, List.forall_mem_cons.mpr ⟨mjMc_340, List.forall_mem_cons.mpr ⟨mjMc_341, List.forall_mem_cons.mpr ⟨mjMc_342, List.forall_mem_cons.mpr ⟨mjMc_343, List.forall_mem_cons.mpr ⟨mjMc_344, List.forall_mem_cons.mpr ⟨mjMc_345, List.forall_mem_cons.mpr ⟨mjMc_346, List.forall_mem_cons.mpr ⟨mjMc_347, List.forall_mem_cons.mpr ⟨mjMc_348, List.forall_mem_cons.mpr ⟨mjMc_349, List.forall_mem_cons.mpr ⟨mjMc_350, List.forall_mem_cons.mpr ⟨mjMc_351, List.forall_mem_cons.mpr ⟨mjMc_352, List.forall_mem_cons.mpr ⟨mjMc_353, List.forall_mem_cons.mpr ⟨mjMc_354, List.forall_mem_cons.mpr ⟨mjMc_355, List.forall_mem_cons.mpr ⟨mjMc_356, List.forall_mem_cons.mpr ⟨mjMc_357, List.forall_mem_cons.mpr ⟨mjMc_358, List.forall_mem_cons.mpr ⟨mjMc_359, fun _ h => absurd h List.not_mem_nil⟩⟩⟩⟩⟩⟩⟩⟩⟩⟩⟩⟩⟩⟩⟩⟩⟩⟩⟩⟩⟩⟩⟩⟩⟩⟩⟩⟩⟩⟩⟩⟩⟩⟩⟩⟩⟩⟩⟩⟩⟩⟩⟩⟩⟩⟩⟩⟩⟩⟩⟩⟩⟩⟩⟩⟩⟩⟩⟩⟩
theorem mjMok_7 : ∀ q ∈ mjM_7, (q.2.2.2.2 ≠ 13 → mjMw q ∈ mjT) := List.forall_mem_cons.mpr ⟨mjMc_360, List.forall_mem_cons.mpr ⟨mjMc_361, List.forall_mem_cons.mpr ⟨mjMc_362, List.forall_mem_cons.mpr ⟨mjMc_363, List.forall_mem_cons.mpr ⟨mjMc_364, List.forall_mem_cons.mpr ⟨mjMc_365, List.forall_mem_cons.mpr ⟨mjMc_366, List.forall_mem_cons.mpr ⟨mjMc_367, fun _ h => absurd h List.not_mem_nil⟩⟩⟩⟩⟩⟩⟩⟩
theorem mjMp : (mjMs.all (fun l => l.all (fun q => Jvm.plainName q.1.cls))) = true := by decide +kernel
theorem mjM_word {y : Nat} {q : mMd} (h : mjM y = some q) : (q.2.2.2.2 ≠ 13 → mjMw q ∈ mjT) ∧ Jvm.plainName q.1.cls = true := by
  unfold mjM at h
  split at h
  · cases h
  · next l hl =>
    have hq := List.mem_of_getElem? h
    have hl' := List.mem_of_getElem? hl
    refine ⟨?_, List.all_eq_true.mp (List.all_eq_true.mp mjMp l hl') q hq⟩
    simp only [mjMs, List.mem_cons, List.not_mem_nil, or_false] at hl'
    rcases hl' with rfl | rfl | rfl | rfl | rfl | rfl | rfl
    · exact mjMok_1 q hq
    · exact mjMok_2 q hq
    · exact mjMok_3 q hq
    · exact mjMok_4 q hq
    · exact mjMok_5 q hq
    · exact mjMok_6 q hq
    · exact mjMok_7 q hq
theorem mjLay_0 : ∀ w ∈ u_ws RX0 TX0 4, w ∈ mjT := mjOk2_mem _ [(2, 146), (2, 148), (2, 150), (2, 152)] (by decide +kernel)
theorem mjLay_1 : ∀ w ∈ u_ws RX1 TX1 19, w ∈ mjT := mjOk2_mem _ [(2, 44), (2, 46), (2, 48), (2, 50), (2, 52), (2, 54), (2, 56), (2, 58), (2, 60), (2, 62), (2, 64), (2, 66), (2, 68), (2, 70), (2, 72), (2, 74), (2, 76), (2, 78), (2, 80)] (by decide +kernel)
theorem mjLay_2 : ∀ w ∈ u_ws RX2 TX2 10, w ∈ mjT := mjOk2_mem _ [(1, 51), (1, 53), (1, 55), (1, 57), (1, 59), (1, 61), (1, 63), (1, 65), (1, 67), (1, 69)] (by decide +kernel)
theorem mjLay_3 : ∀ w ∈ u_ws RX3 TX3 8, w ∈ mjT := mjOk2_mem _ [(2, 0), (2, 2), (2, 4), (2, 6), (2, 8), (2, 10), (2, 12), (2, 14)] (by decide +kernel)
theorem mjLay_4 : ∀ w ∈ u_ws RX4 TX4 13, w ∈ mjT := mjOk2_mem _ [(1, 95), (1, 97), (1, 99), (1, 101), (1, 103), (1, 105), (1, 107), (1, 109), (1, 111), (1, 113), (1, 115), (1, 117), (1, 119)] (by decide +kernel)
theorem mjLay_5 : ∀ w ∈ u_ws RX5 TX5 9, w ∈ mjT := mjOk2_mem _ [(2, 117), (2, 119), (2, 121), (2, 123), (2, 125), (2, 127), (2, 129), (2, 131), (2, 133)] (by decide +kernel)
theorem mjLay_6 : ∀ w ∈ u_ws RX6 TX6 4, w ∈ mjT := mjOk2_mem _ [(1, 133), (1, 135), (1, 137), (1, 139)] (by decide +kernel)
theorem mjLay_7 : ∀ w ∈ u_ws RX7 TX7 4, w ∈ mjT := mjOk2_mem _ [(1, 216), (1, 218), (1, 220), (1, 222)] (by decide +kernel)
theorem mjLay_8 : ∀ w ∈ u_ws RX8 TX8 2, w ∈ mjT := mjOk2_mem _ [(2, 93), (2, 95)] (by decide +kernel)
theorem mjLay_9 : ∀ w ∈ u_ws RX9 TX9 9, w ∈ mjT := mjOk2_mem _ [(1, 158), (1, 160), (1, 162), (1, 164), (1, 166), (1, 168), (1, 170), (1, 172), (1, 174)] (by decide +kernel)
theorem mjLay_10 : ∀ w ∈ u_ws RX10 TX10 7, w ∈ mjT := mjOk2_mem _ [(1, 190), (1, 192), (1, 194), (1, 196), (1, 198), (1, 200), (1, 202)] (by decide +kernel)
theorem mjLay_11 : ∀ w ∈ u_ws RX11 TX11 9, w ∈ mjT := mjOk2_mem _ [(2, 164), (2, 166), (2, 168), (2, 170), (2, 172), (2, 174), (2, 176), (2, 178), (2, 180)] (by decide +kernel)
theorem mjLay_12 : ∀ w ∈ u_ws RX12 TX12 35, w ∈ mjT := mjOk2_mem _ [(7, 84), (7, 86), (7, 88), (7, 90), (7, 92), (7, 94), (7, 96), (7, 98), (7, 100), (7, 102), (7, 104), (7, 106), (7, 108), (7, 110), (7, 112), (7, 114), (7, 116), (7, 118), (7, 120), (7, 122), (7, 124), (7, 126), (7, 128), (7, 130), (7, 132), (7, 134), (7, 136), (7, 138), (7, 140), (7, 142), (7, 144), (7, 146), (7, 148), (7, 150), (7, 152)] (by decide +kernel)
theorem mjCl_words {ci : Nat} {q : vw_C} (h : vwCl[ci]? = some q) : ∀ w ∈ u_ws q.1 q.2.1 q.2.2, w ∈ mjT := by
  have hq := List.mem_of_getElem? h
  simp only [vwCl, List.mem_cons, List.not_mem_nil, or_false] at hq
  rcases hq with rfl | rfl | rfl | rfl | rfl | rfl | rfl | rfl | rfl | rfl | rfl | rfl | rfl
  · exact mjLay_0
  · exact mjLay_1
  · exact mjLay_2
  · exact mjLay_3
  · exact mjLay_4
  · exact mjLay_5
  · exact mjLay_6
  · exact mjLay_7
  · exact mjLay_8
  · exact mjLay_9
  · exact mjLay_10
  · exact mjLay_11
  · exact mjLay_12
def mjTys : List (Nat → FieldType) := [tyX0, tyX1, tyX2, tyX3, tyX4, tyX5, tyX6, tyX7, tyX8, tyX9, tyX10, tyX11, tyX12]
theorem mjCl_tys {ci : Nat} {q : vw_C} {ty : Nat → FieldType} (h : vwCl[ci]? = some q) (ht : mjTys[ci]? = some ty) : (∀ k, k < q.2.2 → parseFieldDescriptor (q.2.1 k).2.2.1 = some (ty k)) ∧ (∀ a, a < q.2.2 → ∀ b, b < q.2.2 → a ≠ b → (q.2.1 a).2.1 ≠ (q.2.1 b).2.1) := by
  match ci, h, ht with
  | 0, h, ht => cases h; cases ht; exact ⟨tyX0_ok, nmX0⟩
  | 1, h, ht => cases h; cases ht; exact ⟨tyX1_ok, nmX1⟩
  | 2, h, ht => cases h; cases ht; exact ⟨tyX2_ok, nmX2⟩
  | 3, h, ht => cases h; cases ht; exact ⟨tyX3_ok, nmX3⟩
  | 4, h, ht => cases h; cases ht; exact ⟨tyX4_ok, nmX4⟩
  | 5, h, ht => cases h; cases ht; exact ⟨tyX5_ok, nmX5⟩
  | 6, h, ht => cases h; cases ht; exact ⟨tyX6_ok, nmX6⟩
  | 7, h, ht => cases h; cases ht; exact ⟨tyX7_ok, nmX7⟩
  | 8, h, ht => cases h; cases ht; exact ⟨tyX8_ok, nmX8⟩
  | 9, h, ht => cases h; cases ht; exact ⟨tyX9_ok, nmX9⟩
  | 10, h, ht => cases h; cases ht; exact ⟨tyX10_ok, nmX10⟩
  | 11, h, ht => cases h; cases ht; exact ⟨tyX11_ok, nmX11⟩
  | 12, h, ht => cases h; cases ht; exact ⟨tyX12_ok, nmX12⟩
  | k + 13, h, ht => simp [vwCl] at h
theorem mjCl_decl {ci : Nat} {q : vw_C} (h : vwCl[ci]? = some q) : ∀ k, k < q.2.2 → (q.2.1 k).1 = q.1 := by
  have hq := List.mem_of_getElem? h
  simp only [vwCl, List.mem_cons, List.not_mem_nil, or_false] at hq
  rcases hq with rfl | rfl | rfl | rfl | rfl | rfl | rfl | rfl | rfl | rfl | rfl | rfl | rfl <;> decide +kernel
theorem mjC_cl {ci : Nat} {q : vw_C} (h : vwCl[ci]? = some q) : mjC ci = q.1 := by
  match ci, h with
  | 0, h => cases h; rfl
  | 1, h => cases h; rfl
  | 2, h => cases h; rfl
  | 3, h => cases h; rfl
  | 4, h => cases h; rfl
  | 5, h => cases h; rfl
  | 6, h => cases h; rfl
  | 7, h => cases h; rfl
  | 8, h => cases h; rfl
  | 9, h => cases h; rfl
  | 10, h => cases h; rfl
  | 11, h => cases h; rfl
  | 12, h => cases h; rfl
  | k + 13, h => simp [vwCl] at h
def mjJw : List Cond := [.fieldLink RJ0 38 "java/lang/String" "COMPACT_STRINGS" "Z", .fieldLink RJ0 15 "java/lang/String" "coder" "B", .fieldLink RJ0 9 "java/lang/String" "value" "[B", .methodLink RJ0 335 yJ0_coder_7d493, .instanceMethod yJ0_coder_7d493, .selects RJ0 yJ0_coder_7d493 yJ0_coder_7d493, .initialized RJ0]
theorem mjJw_in : ∀ w ∈ mjJw, w ∈ mjT := mjOk2_mem _ [(5, 24), (9, 209), (9, 208), (5, 20), (5, 21), (5, 22), (1, 16)] (by decide +kernel)
def mjKw : List Cond := [.methodLink RJ0 492 yJ0_isLatin1_aae02, .instanceMethod yJ0_isLatin1_aae02, .selects RJ0 yJ0_isLatin1_aae02 yJ0_isLatin1_aae02, .initialized RJ0, .methodLink RJ0 495 yJ1_charAt_3b067, .static yJ1_charAt_3b067, .initialized RJ1, .methodLink RJ1 9 yJ0_checkIndex_df160, .static yJ0_checkIndex_df160, .initialized RJ0, .fieldLink RJ0 1053 "jdk/internal/util/Preconditions" "SIOOBE_FORMATTER" "Ljava/util/function/BiFunction;", .methodLink RJ0 1059 yJ3_checkIndex_8e157, .static yJ3_checkIndex_8e157, .initialized RJ3]
theorem mjKw_in : ∀ w ∈ mjKw, w ∈ mjT := mjOk2_mem _ [(5, 30), (5, 31), (5, 32), (1, 16), (5, 34), (5, 35), (1, 17), (5, 37), (5, 38), (1, 16), (5, 40), (5, 42), (5, 43), (1, 18)] (by decide +kernel)
def mjQ_coder : mMd := (yJ0_coder_7d493, cJ0_coder_7d493, 1, (some .byte), 16)
theorem mjQ_coder_in : mjMw mjQ_coder ∈ mjT := mjInc (q := mjQ_coder) mjTab_5 23 rfl rfl (by decide)
def mjQ_length : mMd := (yJ0_length_8abf5, cJ0_length_8abf5, 1, (some .int), 16)
theorem mjQ_length_in : mjMw mjQ_length ∈ mjT := mjInc (q := mjQ_length) mjTab_5 19 rfl rfl (by decide)
def mjQ_charAt : mMd := (yJ0_charAt_5068e, cJ0_charAt_5068e, 2, (some .char), 16)
theorem mjQ_charAt_in : mjMw mjQ_charAt ∈ mjT := mjInc (q := mjQ_charAt) mjTab_5 29 rfl rfl (by decide)
def mjQ_isLatin1 : mMd := (yJ0_isLatin1_aae02, cJ0_isLatin1_aae02, 1, (some .boolean), 16)
theorem mjQ_isLatin1_in : mjMw mjQ_isLatin1 ∈ mjT := mjInc (q := mjQ_isLatin1) mjTab_5 33 rfl rfl (by decide)
def mjQ_checkIndex : mMd := (yJ0_checkIndex_df160, cJ0_checkIndex_df160, 2, none, 16)
theorem mjQ_checkIndex_in : mjMw mjQ_checkIndex ∈ mjT := mjInc (q := mjQ_checkIndex) mjTab_5 39 rfl rfl (by decide)
def mjQ_l1charAt : mMd := (yJ1_charAt_3b067, cJ1_charAt_3b067, 2, (some .char), 17)
theorem mjQ_l1charAt_in : mjMw mjQ_l1charAt ∈ mjT := mjInc (q := mjQ_l1charAt) mjTab_5 36 rfl rfl (by decide)
def mjQ_preIndex : mMd := (yJ3_checkIndex_8e157, cJ3_checkIndex_8e157, 3, (some .int), 18)
theorem mjQ_preIndex_in : mjMw mjQ_preIndex ∈ mjT := mjInc (q := mjQ_preIndex) mjTab_5 44 rfl rfl (by decide)
theorem mjArr : Cond.arrayClass .int ∈ mjT := mjOk2_mem [Cond.arrayClass .int] [(1, 72)] (by decide +kernel) _ List.mem_cons_self
def mjNestT : List (Nat × Nat × Nat) := [(11, 11, 11), (1, 11, 38), (1, 20, 68), (1, 27, 130), (1, 34, 163), (1, 41, 173), (1, 48, 135), (1, 55, 59), (11, 21, 152), (11, 28, 114), (11, 35, 0), (2, 47, 234), (1, 116, 234), (4, 61, 234), (4, 81, 235), (6, 35, 234), (4, 126, 236), (4, 52, 237), (8, 24, 234), (1, 112, 237), (1, 280, 236), (0, 28, 234), (10, 25, 234), (7, 30, 234), (3, 32, 234), (2, 40, 237), (6, 25, 237), (9, 37, 237), (10, 21, 237), (7, 25, 237), (3, 28, 237)]
def mjNest : List (String × Nat × MethodName × String) := mjNestT.map (fun t => (mjC t.1, t.2.1, mjY t.2.2, "BudgetHouse"))
def mjNestOk (es : List mRe) : Bool := es.all (fun e => (e.2.2.1 != 3 && e.2.2.1 != 5) || mjNestT.any (fun t => t.1 == e.1 && t.2.1 == e.2.1 && t.2.2 == e.2.2.2.1))
theorem mjRs_nest : (mjRs.all mjNestOk) = true := by decide +kernel
theorem mjR_nest {own idx : Nat} {e : mRe} (h : mjR own idx = some e) (hk : e.2.2.1 = 3 ∨ e.2.2.1 = 5) : (mjC e.1, e.2.1, mjY e.2.2.2.1, "BudgetHouse") ∈ mjNest := by
  unfold mjR at h
  split at h
  · cases h
  · next l hl =>
    have h1 := List.mem_of_find?_eq_some h
    have h2 := List.all_eq_true.mp (List.all_eq_true.mp mjRs_nest l (List.mem_of_getElem? hl)) _ h1
    simp only [Bool.or_eq_true, Bool.and_eq_true, bne_iff_ne] at h2
    rcases h2 with h2 | h2
    · rcases hk with hk | hk
      · exact absurd hk h2.1
      · exact absurd hk h2.2
    · obtain ⟨t, ht, h3⟩ := List.any_eq_true.mp h2
      simp only [Bool.and_eq_true, beq_iff_eq] at h3
      exact List.mem_map.mpr ⟨t, ht, by rw [h3.1.1, h3.1.2, h3.2]⟩
theorem mjMcl : (mjMs.all (fun l => l.all (fun q => decide (mjC q.2.2.2.2 = q.1.cls) && decide (q.1.cls ≠ "java/lang/invoke/MethodHandle") && decide (q.1.cls ≠ "java/lang/invoke/VarHandle")))) = true := by decide +kernel
theorem mjM_cls {y : Nat} {q : mMd} (h : mjM y = some q) : mjC q.2.2.2.2 = q.1.cls ∧ q.1.cls ≠ "java/lang/invoke/MethodHandle" ∧ q.1.cls ≠ "java/lang/invoke/VarHandle" := by
  unfold mjM at h
  split at h
  · cases h
  · next l hl =>
    have h2 := List.all_eq_true.mp (List.all_eq_true.mp mjMcl l (List.mem_of_getElem? hl)) q (List.mem_of_getElem? h)
    simp only [Bool.and_eq_true, decide_eq_true_eq] at h2
    exact ⟨h2.1.1, h2.1.2, h2.2⟩
theorem mjY_eq {y : Nat} {q : mMd} (h : mjM y = some q) : mjY y = q.1 := by rw [mjY, h]
def mjIni : Bool := mjRs.all (fun l => l.all (fun e => (e.2.2.1 != 4 && e.2.2.1 != 5) || (match mjM e.2.2.2.1 with
  | none => false
  | some q => decide (q.1.name = "<init>") && decide (q.2.2.2.1 = none))))
theorem mjIni_ok : mjIni = true := by decide +kernel
theorem mjR_ini {own idx : Nat} {e : mRe} {q : mMd} (h : mjR own idx = some e) (hk : e.2.2.1 = 4 ∨ e.2.2.1 = 5) (hq : mjM e.2.2.2.1 = some q) : q.1.name = "<init>" ∧ q.2.2.2.1 = none := by
  unfold mjR at h
  split at h
  · cases h
  · next l hl =>
    have h1 := List.mem_of_find?_eq_some h
    have h2 := List.all_eq_true.mp (List.all_eq_true.mp mjIni_ok l (List.mem_of_getElem? hl)) _ h1
    rw [hq] at h2
    simp only [Bool.or_eq_true, Bool.and_eq_true, bne_iff_ne, decide_eq_true_eq] at h2
    rcases h2 with h2 | h2
    · rcases hk with hk | hk
      · exact absurd hk h2.1
      · exact absurd hk h2.2
    · exact h2
def mjNestP : List (Nat × Nat) := [(1, 30), (1, 36), (1, 75), (1, 124), (1, 144), (1, 179), (1, 207), (1, 227), (2, 85), (2, 100), (2, 138), (2, 191), (3, 18), (3, 41), (3, 62), (3, 131), (4, 55), (4, 117), (4, 207), (5, 182), (5, 183), (5, 197), (6, 24), (6, 85), (6, 163), (6, 233), (7, 2), (7, 7), (7, 12), (7, 17), (7, 22)]
def mjStr : List (String × Nat × String × Nat) := [(RX5, 74, "pass", 0), (RX5, 80, "may", 1), (RX5, 82, "order", 2), (RX5, 84, "bind", 3), (RX5, 86, "ynpk", 4), (RX5, 88, "khc", 5), (RX5, 90, "kvol", 6), (RX5, 92, "ts", 7)]
def mjStrOk : List mRe → Bool
  | [] => true
  | e :: es => (e.2.2.1 != 9 || mjStr.any (fun w => e.1 == 5 && w.2.1 == e.2.1 && w.2.2.2 == e.2.2.2.1)) && mjStrOk es
theorem mjStrOk_at : ∀ (es : List mRe), mjStrOk es = true → ∀ e ∈ es, e.2.2.1 = 9 → ∃ w ∈ mjStr, e.1 = 5 ∧ w.2.1 = e.2.1 ∧ w.2.2.2 = e.2.2.2.1 := by
  intro es
  induction es with
  | nil => intro _ e he; cases he
  | cons a es ih =>
    intro h e he h9
    simp only [mjStrOk, Bool.and_eq_true, Bool.or_eq_true, bne_iff_ne] at h
    rcases List.mem_cons.mp he with rfl | he
    · rcases h.1 with h1 | h1
      · exact absurd h9 h1
      · obtain ⟨w, hw, h2⟩ := List.any_eq_true.mp h1
        simp only [Bool.and_eq_true, beq_iff_eq] at h2
        exact ⟨w, hw, h2.1.1, h2.1.2, h2.2⟩
    · exact ih h.2 e he h9
theorem mjRs_str : (mjRs.all mjStrOk) = true := by decide +kernel
theorem mjStr_own : ∀ w ∈ mjStr, w.1 = RX5 := by
  intro w hw
  simp only [mjStr, List.mem_cons, List.not_mem_nil, or_false] at hw
  rcases hw with rfl | rfl | rfl | rfl | rfl | rfl | rfl | rfl <;> rfl
theorem mjR_str {own idx o1 o2 a : Nat} {v : Int} (h : mjR own idx = some (o1, o2, 9, a, v)) : ∃ w ∈ mjStr, mjC o1 = w.1 ∧ w.2.1 = o2 ∧ w.2.2.2 = a := by
  unfold mjR at h
  split at h
  · cases h
  · next l hl =>
    have h1 := List.mem_of_find?_eq_some h
    obtain ⟨w, hw, h3, h4, h5⟩ := mjStrOk_at l (List.all_eq_true.mp mjRs_str l (List.mem_of_getElem? hl)) _ h1 rfl
    dsimp only at h3 h4 h5
    refine ⟨w, hw, ?_, h4, h5⟩
    rw [mjStr_own w hw, h3]
    rfl
def mjStrP : List (Nat × Nat) := [(5, 11), (5, 64), (5, 65), (5, 66), (5, 90), (5, 91), (5, 92), (5, 93)]
