/-! methods, and their words by their places (by program) -/
abbrev mX0_init : am_Me := (RX0, yX0_init, cX0_init, 1, none, [])
abbrev mX0_clear : am_Me := (RX0, yX0_clear, cX0_clear, 1, none, [])
abbrev mX0_settle : am_Me := (RX0, yX0_settle, cX0_settle, 1, none, [])
abbrev mX0_copyFrom : am_Me := (RX0, yX0_copyFrom, cX0_copyFrom, 2, none, [])
abbrev mX0_marry : am_Me := (RX0, yX0_marry, cX0_marry, 4, none, [])
abbrev mX0_rentOf : am_Me := (RX0, yX0_rentOf, cX0_rentOf, 3, (some .int), [])
abbrev mX0_handsNear : am_Me := (RX0, yX0_handsNear, cX0_handsNear, 6, (some .int), [])
abbrev mX0_canBe : am_Me := (RX0, yX0_canBe, cX0_canBe, 2, (some .boolean), [])
abbrev mX0_reachedBy : am_Me := (RX0, yX0_reachedBy, cX0_reachedBy, 2, (some .int), [])
abbrev mX0_fedBy : am_Me := (RX0, yX0_fedBy, cX0_fedBy, 2, (some .int), [])
abbrev mX0_judge : am_Me := (RX0, yX0_judge, cX0_judge, 3, (some .int), [])
abbrev mX0_isSound : am_Me := (RX0, yX0_isSound, cX0_isSound, 3, (some .boolean), [])
abbrev mX0_climb : am_Me := (RX0, yX0_climb, cX0_climb, 5, (some .int), [])
abbrev mX0_leastBroken : am_Me := (RX0, yX0_leastBroken, cX0_leastBroken, 5, (some .int), [])
abbrev mX0_lookAt : am_Me := (RX0, yX0_lookAt, cX0_lookAt, 3, none, [])
abbrev mX1_init : am_Me := (RX1, yX1_init, cX1_init, 3, none, [])
abbrev mX1_readCity : am_Me := (RX1, yX1_readCity, cX1_readCity, 2, (some .boolean), [])
abbrev mX1_readLine : am_Me := (RX1, yX1_readLine, cX1_readLine, 3, (some .boolean), [])
abbrev mX1_kindTold : am_Me := (RX1, yX1_kindTold, cX1_kindTold, 1, (some .int), [])
abbrev mX1_readSign : am_Me := (RX1, yX1_readSign, cX1_readSign, 2, (some .boolean), [])
abbrev mX1_seeNumber : am_Me := (RX1, yX1_seeNumber, cX1_seeNumber, 3, (some .boolean), [])
abbrev mX1_readNumber : am_Me := (RX1, yX1_readNumber, cX1_readNumber, 3, (some .boolean), [])
abbrev mX1_readWall : am_Me := (RX1, yX1_readWall, cX1_readWall, 1, (some .boolean), [])
abbrev mX1_readReach : am_Me := (RX1, yX1_readReach, cX1_readReach, 1, (some .boolean), [])
abbrev mX1_readRent : am_Me := (RX1, yX1_readRent, cX1_readRent, 1, (some .boolean), [])
abbrev mX1_readWind : am_Me := (RX1, yX1_readWind, cX1_readWind, 1, (some .boolean), [])
abbrev mX1_readDrawer : am_Me := (RX1, yX1_readDrawer, cX1_readDrawer, 6, (some .boolean), [])
abbrev mX1_readWide : am_Me := (RX1, yX1_readWide, cX1_readWide, 3, (some .boolean), [])
abbrev mX1_readDrawerOf : am_Me := (RX1, yX1_readDrawerOf, cX1_readDrawerOf, 2, (some .boolean), [])
abbrev mX1_readPerson : am_Me := (RX1, yX1_readPerson, cX1_readPerson, 2, (some .boolean), [])
abbrev mX2_init : am_Me := (RX2, yX2_init, cX2_init, 1, none, [])
abbrev mX2_all : am_Me := (RX2, yX2_all, cX2_all, 1, (some .int), [])
abbrev mX2_isWide : am_Me := (RX2, yX2_isWide, cX2_isWide, 2, (some .boolean), [])
abbrev mX2_isTaken : am_Me := (RX2, yX2_isTaken, cX2_isTaken, 4, (some .boolean), [])
abbrev mX2_add : am_Me := (RX2, yX2_add, cX2_add, 5, none, [])
abbrev mX2_copyFrom : am_Me := (RX2, yX2_copyFrom, cX2_copyFrom, 2, none, [])
abbrev mX2_columnsApart : am_Me := (RX2, yX2_columnsApart, cX2_columnsApart, 3, (some .int), [])
abbrev mX2_canMarry : am_Me := (RX2, yX2_canMarry, cX2_canMarry, 3, (some .boolean), [])
abbrev mX2_compare : am_Me := (RX2, yX2_compare, cX2_compare, 4, none, [])
abbrev mX2_compareTwo : am_Me := (RX2, yX2_compareTwo, cX2_compareTwo, 4, none, [])
abbrev mX4_init : am_Me := (RX4, yX4_init, cX4_init, 1, none, [])
abbrev mX4_add : am_Me := (RX4, yX4_add, cX4_add, 2, none, [])
abbrev mX4_copyFrom : am_Me := (RX4, yX4_copyFrom, cX4_copyFrom, 2, none, [])
abbrev mX4_hungry : am_Me := (RX4, yX4_hungry, cX4_hungry, 3, (some .int), [])
abbrev mX4_withBoth : am_Me := (RX4, yX4_withBoth, cX4_withBoth, 4, (some .int), [])
abbrev mX4_weightOf : am_Me := (RX4, yX4_weightOf, cX4_weightOf, 4, (some .int), [])
abbrev mX3_init : am_Me := (RX3, yX3_init, cX3_init, 3, none, [])
abbrev mX3_readRule : am_Me := (RX3, yX3_readRule, cX3_readRule, 1, (some .boolean), [])
abbrev mX3_readLevel : am_Me := (RX3, yX3_readLevel, cX3_readLevel, 6, (some .boolean), [])
abbrev mX3_signTold : am_Me := (RX3, yX3_signTold, cX3_signTold, 2, (some .int), [])
abbrev mX3_readNot : am_Me := (RX3, yX3_readNot, cX3_readNot, 4, (some .boolean), [])
abbrev mX3_readPart : am_Me := (RX3, yX3_readPart, cX3_readPart, 3, (some .boolean), [])
abbrev mX3_readParenthesis : am_Me := (RX3, yX3_readParenthesis, cX3_readParenthesis, 3, (some .boolean), [])
abbrev mX3_valueTold : am_Me := (RX3, yX3_valueTold, cX3_valueTold, 1, (some .int), [])
abbrev mX5_init : am_Me := (RX5, yX5_init, cX5_init, 1, none, [])
abbrev mX5_codeOfValue : am_Me := (RX5, yX5_codeOfValue, cX5_codeOfValue, 1, (some .int), [])
abbrev mX5_clear : am_Me := (RX5, yX5_clear, cX5_clear, 1, none, [])
abbrev mX5_add : am_Me := (RX5, yX5_add, cX5_add, 2, none, [])
abbrev mX5_endRule : am_Me := (RX5, yX5_endRule, cX5_endRule, 1, none, [])
abbrev mX5_copyFrom : am_Me := (RX5, yX5_copyFrom, cX5_copyFrom, 2, none, [])
abbrev mX5_holds : am_Me := (RX5, yX5_holds, cX5_holds, 6, (some .boolean), [])
abbrev mX5_join : am_Me := (RX5, yX5_join, cX5_join, 3, (some .int), [])
abbrev mX6_init : am_Me := (RX6, yX6_init, cX6_init, 1, none, [])
abbrev mX6_seek : am_Me := (RX6, yX6_seek, cX6_seek, 15, (some .int), [])
abbrev mX6_everOut : am_Me := (RX6, yX6_everOut, cX6_everOut, 6, (some .int), [])
abbrev mX6_begin : am_Me := (RX6, yX6_begin, cX6_begin, 5, none, [])
abbrev mX6_note : am_Me := (RX6, yX6_note, cX6_note, 4, (some .boolean), [])
abbrev mX6_stepsTo : am_Me := (RX6, yX6_stepsTo, cX6_stepsTo, 4, (some .int), [])
abbrev mX6_writeSteps : am_Me := (RX6, yX6_writeSteps, cX6_writeSteps, 8, none, [])
abbrev mX7_init : am_Me := (RX7, yX7_init, cX7_init, 1, none, [])
abbrev mX7_startAnew : am_Me := (RX7, yX7_startAnew, cX7_startAnew, 1, none, [])
abbrev mX7_copyFrom : am_Me := (RX7, yX7_copyFrom, cX7_copyFrom, 2, none, [])
abbrev mX7_doMove : am_Me := (RX7, yX7_doMove, cX7_doMove, 3, none, [])
abbrev mX7_undoMove : am_Me := (RX7, yX7_undoMove, cX7_undoMove, 1, (some .int), [])
abbrev mX8_init : am_Me := (RX8, yX8_init, cX8_init, 3, none, [])
abbrev mX8_advance : am_Me := (RX8, yX8_advance, cX8_advance, 2, none, [])
abbrev mX8_typeOf : am_Me := (RX8, yX8_typeOf, cX8_typeOf, 1, (some .int), [])
abbrev mX8_isEnd : am_Me := (RX8, yX8_isEnd, cX8_isEnd, 1, (some .boolean), [])
abbrev mX8_isAnyWord : am_Me := (RX8, yX8_isAnyWord, cX8_isAnyWord, 1, (some .boolean), [])
abbrev mX8_isNumber : am_Me := (RX8, yX8_isNumber, cX8_isNumber, 1, (some .boolean), [])
abbrev mX8_isSign : am_Me := (RX8, yX8_isSign, cX8_isSign, 2, (some .boolean), [])
abbrev mX8_isWord : am_Me := (RX8, yX8_isWord, cX8_isWord, 3, (some .boolean), [])
abbrev mX8_isTooLong : am_Me := (RX8, yX8_isTooLong, cX8_isTooLong, 1, (some .boolean), [])
abbrev mX8_number : am_Me := (RX8, yX8_number, cX8_number, 3, (some .int), [])
abbrev mX8_refuse : am_Me := (RX8, yX8_refuse, cX8_refuse, 2, (some .boolean), [])
abbrev mX8_refusal : am_Me := (RX8, yX8_refusal, cX8_refusal, 1, (some .int), [])
abbrev mX8_place : am_Me := (RX8, yX8_place, cX8_place, 1, (some .int), [])
abbrev mX9_init : am_Me := (RX9, yX9_init, cX9_init, 1, none, [])
abbrev mX9_feed : am_Me := (RX9, yX9_feed, cX9_feed, 6, (some .int), [])
abbrev mX9_append : am_Me := (RX9, yX9_append, cX9_append, 3, none, [])
abbrev mX9_city : am_Me := (RX9, yX9_city, cX9_city, 5, (some .int), [])
abbrev mX9_fault : am_Me := (RX9, yX9_fault, cX9_fault, 1, (some .int), [])
abbrev mX9_count : am_Me := (RX9, yX9_count, cX9_count, 2, (some .int), [])
abbrev mX9_drawer : am_Me := (RX9, yX9_drawer, cX9_drawer, 3, (some .int), [])
abbrev mX9_isDrawer : am_Me := (RX9, yX9_isDrawer, cX9_isDrawer, 2, (some .boolean), [])
abbrev mX9_demandDrawer : am_Me := (RX9, yX9_demandDrawer, cX9_demandDrawer, 2, none, [])
abbrev mX9_person : am_Me := (RX9, yX9_person, cX9_person, 3, (some .int), [])
abbrev mX9_demandPerson : am_Me := (RX9, yX9_demandPerson, cX9_demandPerson, 2, none, [])
abbrev mX9_may : am_Me := (RX9, yX9_may, cX9_may, 2, (some .boolean), [])
abbrev mX9_broken : am_Me := (RX9, yX9_broken, cX9_broken, 2, (some .int), [])
abbrev mX9_demandSet : am_Me := (RX9, yX9_demandSet, cX9_demandSet, 2, none, [])
abbrev mX9_move : am_Me := (RX9, yX9_move, cX9_move, 4, (some .int), [])
abbrev mX9_troubleOf : am_Me := (RX9, yX9_troubleOf, cX9_troubleOf, 3, (some .int), [])
abbrev mX9_undo : am_Me := (RX9, yX9_undo, cX9_undo, 1, (some .int), [])
abbrev mX9_sleeps : am_Me := (RX9, yX9_sleeps, cX9_sleeps, 4, none, [])
abbrev mX9_opens : am_Me := (RX9, yX9_opens, cX9_opens, 2, (some .int), [])
abbrev mX9_shuts : am_Me := (RX9, yX9_shuts, cX9_shuts, 2, (some .int), [])
abbrev mX9_bread : am_Me := (RX9, yX9_bread, cX9_bread, 1, (some .int), [])
abbrev mX9_seekBread : am_Me := (RX9, yX9_seekBread, cX9_seekBread, 5, (some .int), [])
abbrev mX9_keepSteps : am_Me := (RX9, yX9_keepSteps, cX9_keepSteps, 3, (some .int), [])
abbrev mX9_row : am_Me := (RX9, yX9_row, cX9_row, 2, (some .int), [])
abbrev mX9_harm : am_Me := (RX9, yX9_harm, cX9_harm, 5, (some .int), [])
abbrev mX9_married : am_Me := (RX9, yX9_married, cX9_married, 7, (some .int), [])
abbrev mX9_rent : am_Me := (RX9, yX9_rent, cX9_rent, 3, (some .int), [])
abbrev mX9_wind : am_Me := (RX9, yX9_wind, cX9_wind, 7, (some .int), [])
abbrev mX9_slam : am_Me := (RX9, yX9_slam, cX9_slam, 3, none, [])
abbrev mX9_who : am_Me := (RX9, yX9_who, cX9_who, 2, (some .int), [])
abbrev mX9_odds : am_Me := (RX9, yX9_odds, cX9_odds, 8, (some .int), [])
abbrev mX9_commonDivisor : am_Me := (RX9, yX9_commonDivisor, cX9_commonDivisor, 6, (some .int), [])
abbrev mX9_image : am_Me := (RX9, yX9_image, cX9_image, 1, none, [])
abbrev mX9_restore : am_Me := (RX9, yX9_restore, cX9_restore, 1, (some .boolean), [])
abbrev mX10_init : am_Me := (RX10, yX10_init, cX10_init, 1, none, [])
abbrev mX10_thrown : am_Me := (RX10, yX10_thrown, cX10_thrown, 1, (some .int), [])
abbrev mX10_fail : am_Me := (RX10, yX10_fail, cX10_fail, 2, (some .int), [])
abbrev mX10_isIn : am_Me := (RX10, yX10_isIn, cX10_isIn, 3, (some .boolean), [])
abbrev mX10_isDrawer : am_Me := (RX10, yX10_isDrawer, cX10_isDrawer, 2, (some .boolean), [])
abbrev mX10_isPerson : am_Me := (RX10, yX10_isPerson, cX10_isPerson, 2, (some .boolean), [])
abbrev mX10_feed : am_Me := (RX10, yX10_feed, cX10_feed, 8, (some .int), [])
abbrev mX10_byteAt : am_Me := (RX10, yX10_byteAt, cX10_byteAt, 2, (some .int), [])
abbrev mX10_isLetter : am_Me := (RX10, yX10_isLetter, cX10_isLetter, 1, (some .boolean), [])
abbrev mX10_isDigit : am_Me := (RX10, yX10_isDigit, cX10_isDigit, 1, (some .boolean), [])
abbrev mX10_isMark : am_Me := (RX10, yX10_isMark, cX10_isMark, 1, (some .boolean), [])
abbrev mX10_stepOn : am_Me := (RX10, yX10_stepOn, cX10_stepOn, 2, none, [])
abbrev mX10_wrong : am_Me := (RX10, yX10_wrong, cX10_wrong, 2, none, [])
abbrev mX10_is : am_Me := (RX10, yX10_is, cX10_is, 4, (some .boolean), [])
abbrev mX10_isMarked : am_Me := (RX10, yX10_isMarked, cX10_isMarked, 2, (some .boolean), [])
abbrev mX10_which : am_Me := (RX10, yX10_which, cX10_which, 3, (some .int), [])
abbrev mX10_passes : am_Me := (RX10, yX10_passes, cX10_passes, 3, (some .boolean), [])
abbrev mX10_mark : am_Me := (RX10, yX10_mark, cX10_mark, 2, none, [])
abbrev mX10_numberNow : am_Me := (RX10, yX10_numberNow, cX10_numberNow, 3, (some .int), [])
abbrev mX10_readNumber : am_Me := (RX10, yX10_readNumber, cX10_readNumber, 4, (some .int), [])
abbrev mX10_lay : am_Me := (RX10, yX10_lay, cX10_lay, 2, none, [])
abbrev mX10_readPart : am_Me := (RX10, yX10_readPart, cX10_readPart, 3, none, [])
abbrev mX10_readProduct : am_Me := (RX10, yX10_readProduct, cX10_readProduct, 3, none, [])
abbrev mX10_readSum : am_Me := (RX10, yX10_readSum, cX10_readSum, 3, none, [])
abbrev mX10_readNot : am_Me := (RX10, yX10_readNot, cX10_readNot, 4, none, [])
abbrev mX10_readAnd : am_Me := (RX10, yX10_readAnd, cX10_readAnd, 2, none, [])
abbrev mX10_readExpression : am_Me := (RX10, yX10_readExpression, cX10_readExpression, 3, none, [])
abbrev mX10_isTaken : am_Me := (RX10, yX10_isTaken, cX10_isTaken, 5, (some .boolean), [])
abbrev mX10_readDrawer : am_Me := (RX10, yX10_readDrawer, cX10_readDrawer, 3, none, [])
abbrev mX10_readOne : am_Me := (RX10, yX10_readOne, cX10_readOne, 3, (some .int), [])
abbrev mX10_readPerson : am_Me := (RX10, yX10_readPerson, cX10_readPerson, 2, none, [])
abbrev mX10_readRule : am_Me := (RX10, yX10_readRule, cX10_readRule, 2, none, [])
abbrev mX10_readOnce : am_Me := (RX10, yX10_readOnce, cX10_readOnce, 3, none, [])
abbrev mX10_readLine : am_Me := (RX10, yX10_readLine, cX10_readLine, 5, (some .int), [])
abbrev mX10_city : am_Me := (RX10, yX10_city, cX10_city, 3, (some .int), [])
abbrev mX10_takeHalf : am_Me := (RX10, yX10_takeHalf, cX10_takeHalf, 2, none, [])
abbrev mX10_take : am_Me := (RX10, yX10_take, cX10_take, 2, none, [])
abbrev mX10_fault : am_Me := (RX10, yX10_fault, cX10_fault, 1, (some .int), [])
abbrev mX10_has : am_Me := (RX10, yX10_has, cX10_has, 2, (some .boolean), [])
abbrev mX10_shares : am_Me := (RX10, yX10_shares, cX10_shares, 3, (some .boolean), [])
abbrev mX10_bitsOf : am_Me := (RX10, yX10_bitsOf, cX10_bitsOf, 3, (some .int), [])
abbrev mX10_reckon : am_Me := (RX10, yX10_reckon, cX10_reckon, 3, (some .int), [])
abbrev mX10_holds : am_Me := (RX10, yX10_holds, cX10_holds, 5, (some .boolean), [])
abbrev mX10_ask : am_Me := (RX10, yX10_ask, cX10_ask, 4, none, [])
abbrev mX10_brokenBy : am_Me := (RX10, yX10_brokenBy, cX10_brokenBy, 5, (some .int), [])
abbrev mX10_canBe : am_Me := (RX10, yX10_canBe, cX10_canBe, 4, (some .boolean), [])
abbrev mX10_reachedBy : am_Me := (RX10, yX10_reachedBy, cX10_reachedBy, 5, (some .int), [])
abbrev mX10_isReachedBy : am_Me := (RX10, yX10_isReachedBy, cX10_isReachedBy, 4, (some .boolean), [])
abbrev mX10_isSet : am_Me := (RX10, yX10_isSet, cX10_isSet, 2, (some .boolean), [])
abbrev mX10_may : am_Me := (RX10, yX10_may, cX10_may, 2, (some .boolean), [])
abbrev mX10_broken : am_Me := (RX10, yX10_broken, cX10_broken, 2, (some .int), [])
abbrev mX10_rentOf : am_Me := (RX10, yX10_rentOf, cX10_rentOf, 3, (some .int), [])
abbrev mX10_count : am_Me := (RX10, yX10_count, cX10_count, 2, (some .int), [])
abbrev mX10_drawer : am_Me := (RX10, yX10_drawer, cX10_drawer, 3, (some .int), [])
abbrev mX10_person : am_Me := (RX10, yX10_person, cX10_person, 3, (some .int), [])
abbrev mX10_feedBy : am_Me := (RX10, yX10_feedBy, cX10_feedBy, 5, (some .int), [])
abbrev mX10_troubleOf : am_Me := (RX10, yX10_troubleOf, cX10_troubleOf, 2, (some .int), [])
abbrev mX10_move : am_Me := (RX10, yX10_move, cX10_move, 3, (some .int), [])
abbrev mX10_undo : am_Me := (RX10, yX10_undo, cX10_undo, 1, (some .int), [])
abbrev mX10_sleeps : am_Me := (RX10, yX10_sleeps, cX10_sleeps, 3, none, [])
abbrev mX10_seek : am_Me := (RX10, yX10_seek, cX10_seek, 4, none, [])
abbrev mX10_goOn : am_Me := (RX10, yX10_goOn, cX10_goOn, 8, none, [])
abbrev mX10_wanting : am_Me := (RX10, yX10_wanting, cX10_wanting, 3, (some .int), [])
abbrev mX10_isWanted : am_Me := (RX10, yX10_isWanted, cX10_isWanted, 4, (some .boolean), [])
abbrev mX10_soonest : am_Me := (RX10, yX10_soonest, cX10_soonest, 4, (some .int), [])
abbrev mX10_howSoon : am_Me := (RX10, yX10_howSoon, cX10_howSoon, 6, (some .int), [])
abbrev mX10_opens : am_Me := (RX10, yX10_opens, cX10_opens, 2, (some .int), [])
abbrev mX10_shuts : am_Me := (RX10, yX10_shuts, cX10_shuts, 2, (some .int), [])
abbrev mX10_bread : am_Me := (RX10, yX10_bread, cX10_bread, 1, (some .int), [])
abbrev mX10_row : am_Me := (RX10, yX10_row, cX10_row, 2, (some .int), [])
abbrev mX10_everOut : am_Me := (RX10, yX10_everOut, cX10_everOut, 5, (some .int), [])
abbrev mX10_harm : am_Me := (RX10, yX10_harm, cX10_harm, 2, (some .int), [])
abbrev mX10_canMarry : am_Me := (RX10, yX10_canMarry, cX10_canMarry, 4, (some .boolean), [])
abbrev mX10_soonBread : am_Me := (RX10, yX10_soonBread, cX10_soonBread, 3, (some .int), [])
abbrev mX10_married : am_Me := (RX10, yX10_married, cX10_married, 8, (some .int), [])
abbrev mX10_rent : am_Me := (RX10, yX10_rent, cX10_rent, 3, (some .int), [])
abbrev mX10_slam : am_Me := (RX10, yX10_slam, cX10_slam, 3, none, [])
abbrev mX10_wind : am_Me := (RX10, yX10_wind, cX10_wind, 6, (some .int), [])
abbrev mX10_columnsApart : am_Me := (RX10, yX10_columnsApart, cX10_columnsApart, 3, (some .int), [])
abbrev mX10_whoCould : am_Me := (RX10, yX10_whoCould, cX10_whoCould, 6, (some .int), [])
abbrev mX10_who : am_Me := (RX10, yX10_who, cX10_who, 2, (some .int), [])
abbrev mX10_common : am_Me := (RX10, yX10_common, cX10_common, 5, (some .int), [])
abbrev mX10_odds : am_Me := (RX10, yX10_odds, cX10_odds, 8, (some .int), [])
abbrev mX10_be : am_Me := (RX10, yX10_be, cX10_be, 3, none, [])
abbrev mX10_image : am_Me := (RX10, yX10_image, cX10_image, 1, none, [])
abbrev mX10_restore : am_Me := (RX10, yX10_restore, cX10_restore, 1, (some .boolean), [])
abbrev mJ6_bitCount_0f7a4 : am_Me := (RJ6, yJ6_bitCount_0f7a4, cJ6_bitCount_0f7a4, 1, (some .int), [])
abbrev mJ9_abs_0f7a4 : am_Me := (RJ9, yJ9_abs_0f7a4, cJ9_abs_0f7a4, 1, (some .int), [])
abbrev mJ9_max_7cf53 : am_Me := (RJ9, yJ9_max_7cf53, cJ9_max_7cf53, 2, (some .int), [])
abbrev mJ9_min_7cf53 : am_Me := (RJ9, yJ9_min_7cf53, cJ9_min_7cf53, 2, (some .int), [])
abbrev mJ0_length_8abf5 : am_Me := (RJ0, yJ0_length_8abf5, cJ0_length_8abf5, 1, (some .int), [])
abbrev mJ0_charAt_5068e : am_Me := (RJ0, yJ0_charAt_5068e, cJ0_charAt_5068e, 2, (some .char), [])
abbrev mJ0_indexOf_0f7a4 : am_Me := (RJ0, yJ0_indexOf_0f7a4, cJ0_indexOf_0f7a4, 2, (some .int), [])
abbrev mJ0_indexOf_7cf53 : am_Me := (RJ0, yJ0_indexOf_7cf53, cJ0_indexOf_7cf53, 3, (some .int), [])
abbrev mJ0_coder_7d493 : am_Me := (RJ0, yJ0_coder_7d493, cJ0_coder_7d493, 1, (some .byte), [])
abbrev mJ0_isLatin1_aae02 : am_Me := (RJ0, yJ0_isLatin1_aae02, cJ0_isLatin1_aae02, 1, (some .boolean), [])
abbrev mJ0_checkIndex_df160 : am_Me := (RJ0, yJ0_checkIndex_df160, cJ0_checkIndex_df160, 2, none, [])
abbrev mJ1_charAt_3b067 : am_Me := (RJ1, yJ1_charAt_3b067, cJ1_charAt_3b067, 2, (some .char), [])
abbrev mJ1_canEncode_9a6ad : am_Me := (RJ1, yJ1_canEncode_9a6ad, cJ1_canEncode_9a6ad, 1, (some .boolean), [])
abbrev mJ1_indexOf_4cfef : am_Me := (RJ1, yJ1_indexOf_4cfef, cJ1_indexOf_4cfef, 4, (some .int), [])
abbrev mJ1_indexOfChar_4cfef : am_Me := (RJ1, yJ1_indexOfChar_4cfef, cJ1_indexOfChar_4cfef, 6, (some .int), [])
abbrev mJ7_fill_53178 : am_Me := (RJ7, yJ7_fill_53178, cJ7_fill_53178, 4, none, [])
abbrev mJ3_checkIndex_8e157 : am_Me := (RJ3, yJ3_checkIndex_8e157, cJ3_checkIndex_8e157, 3, (some .int), [])
abbrev mL_city : am_Me := (RL, yL_city, cL_city, 4, (some .int), [(0, 9, 12, 13)])
abbrev mL_count : am_Me := (RL, yL_count, cL_count, 4, (some .int), [(0, 9, 12, 18)])
abbrev mL_drawer : am_Me := (RL, yL_drawer, cL_drawer, 5, (some .int), [(0, 10, 13, 18)])
abbrev mL_person : am_Me := (RL, yL_person, cL_person, 5, (some .int), [(0, 10, 13, 18)])
abbrev mL_may : am_Me := (RL, yL_may, cL_may, 4, (some .int), [(0, 16, 19, 13)])
abbrev mL_broken : am_Me := (RL, yL_broken, cL_broken, 4, (some .int), [(0, 9, 12, 13)])
abbrev mL_sleeps : am_Me := (RL, yL_sleeps, cL_sleeps, 4, (some .int), [(0, 6, 9, 18)])
abbrev mL_opens : am_Me := (RL, yL_opens, cL_opens, 4, (some .int), [(0, 9, 12, 18)])
abbrev mL_shuts : am_Me := (RL, yL_shuts, cL_shuts, 4, (some .int), [(0, 9, 12, 18)])
abbrev mL_row : am_Me := (RL, yL_row, cL_row, 4, (some .int), [(0, 9, 12, 18)])
abbrev mL_harm : am_Me := (RL, yL_harm, cL_harm, 4, (some .int), [(0, 9, 12, 18)])
abbrev mL_married : am_Me := (RL, yL_married, cL_married, 5, (some .int), [(0, 10, 13, 18)])
abbrev mL_wind : am_Me := (RL, yL_wind, cL_wind, 5, (some .int), [(0, 10, 13, 13)])
abbrev mL_who : am_Me := (RL, yL_who, cL_who, 4, (some .int), [(0, 9, 12, 18)])
abbrev mL_odds : am_Me := (RL, yL_odds, cL_odds, 6, (some .int), [(0, 12, 15, 18)])
abbrev mL_law : am_Me := (RL, yL_law, cL_law, 7, some .boolean, [])
theorem wq_0 : Cond.constant RJ6 265 1431655765 ∈ am_gw := am_i2 115 rfl rfl
theorem wq_1 : Cond.constant RJ6 266 858993459 ∈ am_gw := am_i2 116 rfl rfl
theorem wq_2 : Cond.constant RJ6 267 252645135 ∈ am_gw := am_i2 117 rfl rfl
theorem wq_3 : Cond.fieldLink RJ0 9 "java/lang/String" "value" "[B" ∈ am_gw := am_i8 8 rfl rfl
theorem wq_4 : am_code mJ0_coder_7d493 ∈ am_gw := am_i3 172 rfl rfl
theorem wq_5 : Cond.initialized RJ0 ∈ am_gw := am_i1 17 rfl rfl
theorem hy_J0_coder_7d493 : yJ0_coder_7d493.cls ≠ "java/lang/invoke/MethodHandle" ∧ yJ0_coder_7d493.cls ≠ "java/lang/invoke/VarHandle" ∧ (parseMethodDescriptor yJ0_coder_7d493.desc).map (fun d => d.parameters.length) = some 0 := ⟨by decide +kernel, by decide +kernel, by decide +kernel⟩
theorem wq_7 : Cond.methodLink RJ0 335 yJ0_coder_7d493 ∈ am_gw := am_i3 169 rfl rfl
theorem wq_8 : Cond.instanceMethod yJ0_coder_7d493 ∈ am_gw := am_i3 170 rfl rfl
theorem wq_9 : Cond.selects RJ0 yJ0_coder_7d493 yJ0_coder_7d493 ∈ am_gw := am_i3 171 rfl rfl
theorem wq_10 : am_code mJ0_isLatin1_aae02 ∈ am_gw := am_i3 162 rfl rfl
theorem hy_J0_isLatin1_aae02 : yJ0_isLatin1_aae02.cls ≠ "java/lang/invoke/MethodHandle" ∧ yJ0_isLatin1_aae02.cls ≠ "java/lang/invoke/VarHandle" ∧ (parseMethodDescriptor yJ0_isLatin1_aae02.desc).map (fun d => d.parameters.length) = some 0 := ⟨by decide +kernel, by decide +kernel, by decide +kernel⟩
theorem wq_12 : Cond.methodLink RJ0 492 yJ0_isLatin1_aae02 ∈ am_gw := am_i3 159 rfl rfl
theorem wq_13 : Cond.instanceMethod yJ0_isLatin1_aae02 ∈ am_gw := am_i3 160 rfl rfl
theorem wq_14 : Cond.selects RJ0 yJ0_isLatin1_aae02 yJ0_isLatin1_aae02 ∈ am_gw := am_i3 161 rfl rfl
theorem wq_15 : am_code mJ1_charAt_3b067 ∈ am_gw := am_i4 17 rfl rfl
theorem wq_16 : Cond.initialized RJ1 ∈ am_gw := am_i1 18 rfl rfl
theorem hy_J1_charAt_3b067 : yJ1_charAt_3b067.cls ≠ "java/lang/invoke/MethodHandle" ∧ yJ1_charAt_3b067.cls ≠ "java/lang/invoke/VarHandle" ∧ (parseMethodDescriptor yJ1_charAt_3b067.desc).map (fun d => d.parameters.length) = some 2 := ⟨by decide +kernel, by decide +kernel, by decide +kernel⟩
theorem wq_18 : Cond.methodLink RJ0 495 yJ1_charAt_3b067 ∈ am_gw := am_i4 15 rfl rfl
theorem wq_19 : Cond.static yJ1_charAt_3b067 ∈ am_gw := am_i4 16 rfl rfl
theorem wq_20 : am_code mJ0_indexOf_7cf53 ∈ am_gw := am_i3 158 rfl rfl
theorem hy_J0_indexOf_7cf53 : yJ0_indexOf_7cf53.cls ≠ "java/lang/invoke/MethodHandle" ∧ yJ0_indexOf_7cf53.cls ≠ "java/lang/invoke/VarHandle" ∧ (parseMethodDescriptor yJ0_indexOf_7cf53.desc).map (fun d => d.parameters.length) = some 2 := ⟨by decide +kernel, by decide +kernel, by decide +kernel⟩
theorem wq_22 : Cond.methodLink RJ0 633 yJ0_indexOf_7cf53 ∈ am_gw := am_i3 155 rfl rfl
theorem wq_23 : Cond.instanceMethod yJ0_indexOf_7cf53 ∈ am_gw := am_i3 156 rfl rfl
theorem wq_24 : Cond.selects RJ0 yJ0_indexOf_7cf53 yJ0_indexOf_7cf53 ∈ am_gw := am_i3 157 rfl rfl
theorem wq_25 : am_code mJ0_length_8abf5 ∈ am_gw := am_i3 168 rfl rfl
theorem hy_J0_length_8abf5 : yJ0_length_8abf5.cls ≠ "java/lang/invoke/MethodHandle" ∧ yJ0_length_8abf5.cls ≠ "java/lang/invoke/VarHandle" ∧ (parseMethodDescriptor yJ0_length_8abf5.desc).map (fun d => d.parameters.length) = some 0 := ⟨by decide +kernel, by decide +kernel, by decide +kernel⟩
theorem wq_27 : Cond.methodLink RJ0 505 yJ0_length_8abf5 ∈ am_gw := am_i3 165 rfl rfl
theorem wq_28 : Cond.instanceMethod yJ0_length_8abf5 ∈ am_gw := am_i3 166 rfl rfl
theorem wq_29 : Cond.selects RJ0 yJ0_length_8abf5 yJ0_length_8abf5 ∈ am_gw := am_i3 167 rfl rfl
theorem wq_30 : am_code mJ1_indexOf_4cfef ∈ am_gw := am_i3 175 rfl rfl
theorem hy_J1_indexOf_4cfef : yJ1_indexOf_4cfef.cls ≠ "java/lang/invoke/MethodHandle" ∧ yJ1_indexOf_4cfef.cls ≠ "java/lang/invoke/VarHandle" ∧ (parseMethodDescriptor yJ1_indexOf_4cfef.desc).map (fun d => d.parameters.length) = some 4 := ⟨by decide +kernel, by decide +kernel, by decide +kernel⟩
theorem wq_32 : Cond.methodLink RJ0 637 yJ1_indexOf_4cfef ∈ am_gw := am_i3 173 rfl rfl
theorem wq_33 : Cond.static yJ1_indexOf_4cfef ∈ am_gw := am_i3 174 rfl rfl
theorem wq_34 : Cond.fieldLink RJ0 38 "java/lang/String" "COMPACT_STRINGS" "Z" ∈ am_gw := am_i3 163 rfl rfl
theorem wq_35 : Cond.fieldLink RJ0 15 "java/lang/String" "coder" "B" ∈ am_gw := am_i8 7 rfl rfl
theorem wq_36 : am_code mJ3_checkIndex_8e157 ∈ am_gw := am_i4 23 rfl rfl
theorem wq_37 : Cond.initialized RJ3 ∈ am_gw := am_i1 20 rfl rfl
theorem hy_J3_checkIndex_8e157 : yJ3_checkIndex_8e157.cls ≠ "java/lang/invoke/MethodHandle" ∧ yJ3_checkIndex_8e157.cls ≠ "java/lang/invoke/VarHandle" ∧ (parseMethodDescriptor yJ3_checkIndex_8e157.desc).map (fun d => d.parameters.length) = some 3 := ⟨by decide +kernel, by decide +kernel, by decide +kernel⟩
theorem wq_39 : Cond.methodLink RJ0 1059 yJ3_checkIndex_8e157 ∈ am_gw := am_i4 21 rfl rfl
theorem wq_40 : Cond.static yJ3_checkIndex_8e157 ∈ am_gw := am_i4 22 rfl rfl
theorem wq_41 : am_code mJ0_checkIndex_df160 ∈ am_gw := am_i4 20 rfl rfl
theorem hy_J0_checkIndex_df160 : yJ0_checkIndex_df160.cls ≠ "java/lang/invoke/MethodHandle" ∧ yJ0_checkIndex_df160.cls ≠ "java/lang/invoke/VarHandle" ∧ (parseMethodDescriptor yJ0_checkIndex_df160.desc).map (fun d => d.parameters.length) = some 2 := ⟨by decide +kernel, by decide +kernel, by decide +kernel⟩
theorem wq_43 : Cond.methodLink RJ1 9 yJ0_checkIndex_df160 ∈ am_gw := am_i4 18 rfl rfl
theorem wq_44 : Cond.static yJ0_checkIndex_df160 ∈ am_gw := am_i4 19 rfl rfl
theorem wq_45 : am_code mJ1_canEncode_9a6ad ∈ am_gw := am_i3 178 rfl rfl
theorem hy_J1_canEncode_9a6ad : yJ1_canEncode_9a6ad.cls ≠ "java/lang/invoke/MethodHandle" ∧ yJ1_canEncode_9a6ad.cls ≠ "java/lang/invoke/VarHandle" ∧ (parseMethodDescriptor yJ1_canEncode_9a6ad.desc).map (fun d => d.parameters.length) = some 1 := ⟨by decide +kernel, by decide +kernel, by decide +kernel⟩
theorem wq_47 : Cond.methodLink RJ1 88 yJ1_canEncode_9a6ad ∈ am_gw := am_i3 176 rfl rfl
theorem wq_48 : Cond.static yJ1_canEncode_9a6ad ∈ am_gw := am_i3 177 rfl rfl
theorem wq_49 : am_code mJ9_max_7cf53 ∈ am_gw := am_i2 179 rfl rfl
theorem wq_50 : Cond.initialized RJ9 ∈ am_gw := am_i1 14 rfl rfl
theorem hy_J9_max_7cf53 : yJ9_max_7cf53.cls ≠ "java/lang/invoke/MethodHandle" ∧ yJ9_max_7cf53.cls ≠ "java/lang/invoke/VarHandle" ∧ (parseMethodDescriptor yJ9_max_7cf53.desc).map (fun d => d.parameters.length) = some 2 := ⟨by decide +kernel, by decide +kernel, by decide +kernel⟩
theorem wq_52 : Cond.methodLink RJ1 92 yJ9_max_7cf53 ∈ am_gw := am_i3 179 rfl rfl
theorem wq_53 : Cond.static yJ9_max_7cf53 ∈ am_gw := am_i2 178 rfl rfl
theorem wq_54 : am_code mJ9_min_7cf53 ∈ am_gw := am_i2 182 rfl rfl
theorem hy_J9_min_7cf53 : yJ9_min_7cf53.cls ≠ "java/lang/invoke/MethodHandle" ∧ yJ9_min_7cf53.cls ≠ "java/lang/invoke/VarHandle" ∧ (parseMethodDescriptor yJ9_min_7cf53.desc).map (fun d => d.parameters.length) = some 2 := ⟨by decide +kernel, by decide +kernel, by decide +kernel⟩
theorem wq_56 : Cond.methodLink RJ1 38 yJ9_min_7cf53 ∈ am_gw := am_i3 180 rfl rfl
theorem wq_57 : Cond.static yJ9_min_7cf53 ∈ am_gw := am_i2 181 rfl rfl
theorem wq_58 : am_code mJ1_indexOfChar_4cfef ∈ am_gw := am_i3 183 rfl rfl
theorem hy_J1_indexOfChar_4cfef : yJ1_indexOfChar_4cfef.cls ≠ "java/lang/invoke/MethodHandle" ∧ yJ1_indexOfChar_4cfef.cls ≠ "java/lang/invoke/VarHandle" ∧ (parseMethodDescriptor yJ1_indexOfChar_4cfef.desc).map (fun d => d.parameters.length) = some 4 := ⟨by decide +kernel, by decide +kernel, by decide +kernel⟩
theorem wq_60 : Cond.methodLink RJ1 95 yJ1_indexOfChar_4cfef ∈ am_gw := am_i3 181 rfl rfl
theorem wq_61 : Cond.static yJ1_indexOfChar_4cfef ∈ am_gw := am_i3 182 rfl rfl
theorem wq_62 : Cond.methodLink RX2 3 Lib.objectInit ∈ am_gw := am_i1 45 rfl rfl
theorem wq_63 : Cond.instanceMethod Lib.objectInit ∈ am_gw := am_i1 32 rfl rfl
theorem wq_64 : Cond.code Lib.objectInit ⟨#[0xb1]⟩ 1 none ∈ am_gw := am_i1 33 rfl rfl
theorem wq_65 : Cond.arrayClass .int ∈ am_gw := am_i1 103 rfl rfl
theorem wq_66 : Cond.fieldLink RX2 9 (TX2 1).1 (TX2 1).2.1 (TX2 1).2.2.1 ∈ am_gw := am_i1 51 rfl rfl
set_option maxRecDepth 10000 in
theorem uq_2 : ∀ w ∈ u_ws RX2 TX2 11, w ∈ am_gw := List.forall_mem_cons.mpr ⟨am_i1 79 rfl rfl, List.forall_mem_cons.mpr ⟨am_i1 81 rfl rfl, List.forall_mem_cons.mpr ⟨am_i1 83 rfl rfl, List.forall_mem_cons.mpr ⟨am_i1 85 rfl rfl, List.forall_mem_cons.mpr ⟨am_i1 87 rfl rfl, List.forall_mem_cons.mpr ⟨am_i1 89 rfl rfl, List.forall_mem_cons.mpr ⟨am_i1 91 rfl rfl, List.forall_mem_cons.mpr ⟨am_i1 93 rfl rfl, List.forall_mem_cons.mpr ⟨am_i1 95 rfl rfl, List.forall_mem_cons.mpr ⟨am_i1 97 rfl rfl, List.forall_mem_cons.mpr ⟨am_i1 99 rfl rfl, fun _ h => absurd h List.not_mem_nil⟩⟩⟩⟩⟩⟩⟩⟩⟩⟩⟩
theorem dq_2 : ∀ k, k < 11 → defaultValue (am_ty 2 k) = if (am_ty 2 k).isReference then .null else .int 0 := by decide +kernel
theorem wq_67 : Cond.fieldLink RX2 15 (TX2 2).1 (TX2 2).2.1 (TX2 2).2.2.1 ∈ am_gw := am_i1 55 rfl rfl
theorem wq_68 : Cond.fieldLink RX2 18 (TX2 3).1 (TX2 3).2.1 (TX2 3).2.2.1 ∈ am_gw := am_i1 59 rfl rfl
theorem wq_69 : Cond.fieldLink RX2 21 (TX2 4).1 (TX2 4).2.1 (TX2 4).2.2.1 ∈ am_gw := am_i1 62 rfl rfl
theorem wq_70 : Cond.fieldLink RX2 24 (TX2 5).1 (TX2 5).2.1 (TX2 5).2.2.1 ∈ am_gw := am_i1 66 rfl rfl
theorem wq_71 : Cond.fieldLink RX2 27 (TX2 6).1 (TX2 6).2.1 (TX2 6).2.2.1 ∈ am_gw := am_i1 69 rfl rfl
theorem wq_72 : Cond.fieldLink RX2 30 (TX2 7).1 (TX2 7).2.1 (TX2 7).2.2.1 ∈ am_gw := am_i1 71 rfl rfl
theorem wq_73 : Cond.fieldLink RX2 33 (TX2 8).1 (TX2 8).2.1 (TX2 8).2.2.1 ∈ am_gw := am_i1 73 rfl rfl
theorem wq_74 : Cond.fieldLink RX2 36 (TX2 0).1 (TX2 0).2.1 (TX2 0).2.2.1 ∈ am_gw := am_i1 46 rfl rfl
theorem wq_75 : Cond.methodLink RX2 40 arraycopyName ∈ am_gw := am_i5 107 rfl rfl
theorem wq_76 : Cond.native arraycopyName ∈ am_gw := am_i2 225 rfl rfl
theorem wq_77 : Cond.static arraycopyName ∈ am_gw := am_i2 224 rfl rfl
theorem wq_78 : Cond.initialized "java/lang/System" ∈ am_gw := am_i1 25 rfl rfl
theorem wq_79 : Cond.methodLink RX2 46 yJ9_max_7cf53 ∈ am_gw := am_i4 195 rfl rfl
theorem wq_80 : am_code mX2_isWide ∈ am_gw := am_i2 214 rfl rfl
theorem wq_81 : Cond.initialized RX2 ∈ am_gw := am_i1 3 rfl rfl
theorem hy_X2_isWide : yX2_isWide.cls ≠ "java/lang/invoke/MethodHandle" ∧ yX2_isWide.cls ≠ "java/lang/invoke/VarHandle" ∧ (parseMethodDescriptor yX2_isWide.desc).map (fun d => d.parameters.length) = some 1 := ⟨by decide +kernel, by decide +kernel, by decide +kernel⟩
theorem wq_83 : Cond.methodLink RX2 52 yX2_isWide ∈ am_gw := am_i5 98 rfl rfl
theorem wq_84 : Cond.instanceMethod yX2_isWide ∈ am_gw := am_i2 212 rfl rfl
theorem wq_85 : Cond.selects RX2 yX2_isWide yX2_isWide ∈ am_gw := am_i2 213 rfl rfl
theorem wq_86 : am_code mX2_columnsApart ∈ am_gw := am_i4 194 rfl rfl
theorem hy_X2_columnsApart : yX2_columnsApart.cls ≠ "java/lang/invoke/MethodHandle" ∧ yX2_columnsApart.cls ≠ "java/lang/invoke/VarHandle" ∧ (parseMethodDescriptor yX2_columnsApart.desc).map (fun d => d.parameters.length) = some 2 := ⟨by decide +kernel, by decide +kernel, by decide +kernel⟩
theorem wq_88 : Cond.methodLink RX2 56 yX2_columnsApart ∈ am_gw := am_i4 191 rfl rfl
theorem wq_89 : Cond.instanceMethod yX2_columnsApart ∈ am_gw := am_i4 192 rfl rfl
theorem wq_90 : Cond.selects RX2 yX2_columnsApart yX2_columnsApart ∈ am_gw := am_i4 193 rfl rfl
theorem wq_91 : Cond.fieldLink RX2 59 (TX2 9).1 (TX2 9).2.1 (TX2 9).2.2.1 ∈ am_gw := am_i1 75 rfl rfl
theorem wq_92 : Cond.fieldLink RX2 62 (TX2 10).1 (TX2 10).2.1 (TX2 10).2.2.1 ∈ am_gw := am_i1 77 rfl rfl
theorem wq_93 : am_code mX2_compareTwo ∈ am_gw := am_i4 190 rfl rfl
theorem hy_X2_compareTwo : yX2_compareTwo.cls ≠ "java/lang/invoke/MethodHandle" ∧ yX2_compareTwo.cls ≠ "java/lang/invoke/VarHandle" ∧ (parseMethodDescriptor yX2_compareTwo.desc).map (fun d => d.parameters.length) = some 3 := ⟨by decide +kernel, by decide +kernel, by decide +kernel⟩
theorem wq_95 : Cond.methodLink RX2 65 yX2_compareTwo ∈ am_gw := am_i4 187 rfl rfl
theorem wq_96 : Cond.instanceMethod yX2_compareTwo ∈ am_gw := am_i4 189 rfl rfl
theorem wq_97 : Cond.selects RX2 yX2_compareTwo yX2_compareTwo ∈ am_gw := am_inS 31 rfl rfl
theorem wq_98 : Cond.methodLink RX4 3 Lib.objectInit ∈ am_gw := am_i1 109 rfl rfl
theorem wq_99 : Cond.fieldLink RX4 9 (TX4 1).1 (TX4 1).2.1 (TX4 1).2.2.1 ∈ am_gw := am_i1 115 rfl rfl
set_option maxRecDepth 10000 in
theorem uq_4 : ∀ w ∈ u_ws RX4 TX4 4, w ∈ am_gw := List.forall_mem_cons.mpr ⟨am_i1 124 rfl rfl, List.forall_mem_cons.mpr ⟨am_i1 126 rfl rfl, List.forall_mem_cons.mpr ⟨am_i1 128 rfl rfl, List.forall_mem_cons.mpr ⟨am_i1 130 rfl rfl, fun _ h => absurd h List.not_mem_nil⟩⟩⟩⟩
theorem dq_4 : ∀ k, k < 4 → defaultValue (am_ty 4 k) = if (am_ty 4 k).isReference then .null else .int 0 := by decide +kernel
theorem wq_100 : Cond.fieldLink RX4 15 (TX4 2).1 (TX4 2).2.1 (TX4 2).2.2.1 ∈ am_gw := am_i1 118 rfl rfl
theorem wq_101 : Cond.fieldLink RX4 18 (TX4 3).1 (TX4 3).2.1 (TX4 3).2.2.1 ∈ am_gw := am_i1 121 rfl rfl
theorem wq_102 : Cond.fieldLink RX4 21 (TX4 0).1 (TX4 0).2.1 (TX4 0).2.2.1 ∈ am_gw := am_i1 110 rfl rfl
theorem wq_103 : Cond.methodLink RX4 25 arraycopyName ∈ am_gw := am_i5 112 rfl rfl
theorem wq_104 : Cond.methodLink RX5 3 Lib.objectInit ∈ am_gw := am_i1 138 rfl rfl
theorem wq_105 : Cond.fieldLink RX5 9 (TX5 2).1 (TX5 2).2.1 (TX5 2).2.2.1 ∈ am_gw := am_i1 144 rfl rfl
set_option maxRecDepth 10000 in
theorem uq_5 : ∀ w ∈ u_ws RX5 TX5 5, w ∈ am_gw := List.forall_mem_cons.mpr ⟨am_i1 147 rfl rfl, List.forall_mem_cons.mpr ⟨am_i1 149 rfl rfl, List.forall_mem_cons.mpr ⟨am_i1 151 rfl rfl, List.forall_mem_cons.mpr ⟨am_i1 153 rfl rfl, List.forall_mem_cons.mpr ⟨am_i1 155 rfl rfl, fun _ h => absurd h List.not_mem_nil⟩⟩⟩⟩⟩
theorem dq_5 : ∀ k, k < 5 → defaultValue (am_ty 5 k) = if (am_ty 5 k).isReference then .null else .int 0 := by decide +kernel
theorem wq_106 : Cond.fieldLink RX5 15 (TX5 3).1 (TX5 3).2.1 (TX5 3).2.2.1 ∈ am_gw := am_i1 145 rfl rfl
theorem wq_107 : Cond.fieldLink RX5 18 (TX5 4).1 (TX5 4).2.1 (TX5 4).2.2.1 ∈ am_gw := am_i1 146 rfl rfl
theorem wq_108 : Cond.fieldLink RX5 21 (TX5 0).1 (TX5 0).2.1 (TX5 0).2.2.1 ∈ am_gw := am_i1 140 rfl rfl
theorem wq_109 : Cond.fieldLink RX5 25 (TX5 1).1 (TX5 1).2.1 (TX5 1).2.2.1 ∈ am_gw := am_i1 143 rfl rfl
theorem wq_110 : Cond.methodLink RX5 28 arraycopyName ∈ am_gw := am_i5 117 rfl rfl
theorem wq_111 : am_code mX5_join ∈ am_gw := am_i2 124 rfl rfl
theorem wq_112 : Cond.initialized RX5 ∈ am_gw := am_i1 5 rfl rfl
theorem hy_X5_join : yX5_join.cls ≠ "java/lang/invoke/MethodHandle" ∧ yX5_join.cls ≠ "java/lang/invoke/VarHandle" ∧ (parseMethodDescriptor yX5_join.desc).map (fun d => d.parameters.length) = some 3 := ⟨by decide +kernel, by decide +kernel, by decide +kernel⟩
theorem wq_114 : Cond.methodLink RX5 34 yX5_join ∈ am_gw := am_i2 122 rfl rfl
theorem wq_115 : Cond.static yX5_join ∈ am_gw := am_i2 123 rfl rfl
theorem wq_116 : Cond.methodLink RX7 3 Lib.objectInit ∈ am_gw := am_i1 219 rfl rfl
theorem wq_117 : Cond.fieldLink RX7 9 (TX7 6).1 (TX7 6).2.1 (TX7 6).2.2.1 ∈ am_gw := am_i1 232 rfl rfl
set_option maxRecDepth 10000 in
theorem uq_7 : ∀ w ∈ u_ws RX7 TX7 9, w ∈ am_gw := List.forall_mem_cons.mpr ⟨am_i1 236 rfl rfl, List.forall_mem_cons.mpr ⟨am_i1 238 rfl rfl, List.forall_mem_cons.mpr ⟨am_i2 0 rfl rfl, List.forall_mem_cons.mpr ⟨am_i2 2 rfl rfl, List.forall_mem_cons.mpr ⟨am_i2 4 rfl rfl, List.forall_mem_cons.mpr ⟨am_i2 6 rfl rfl, List.forall_mem_cons.mpr ⟨am_i2 8 rfl rfl, List.forall_mem_cons.mpr ⟨am_i2 10 rfl rfl, List.forall_mem_cons.mpr ⟨am_i2 12 rfl rfl, fun _ h => absurd h List.not_mem_nil⟩⟩⟩⟩⟩⟩⟩⟩⟩
theorem dq_7 : ∀ k, k < 9 → defaultValue (am_ty 7 k) = if (am_ty 7 k).isReference then .null else .int 0 := by decide +kernel
theorem wq_118 : Cond.fieldLink RX7 15 (TX7 7).1 (TX7 7).2.1 (TX7 7).2.2.1 ∈ am_gw := am_i1 234 rfl rfl
theorem wq_119 : Cond.fieldLink RX7 18 (TX7 8).1 (TX7 8).2.1 (TX7 8).2.2.1 ∈ am_gw := am_i1 235 rfl rfl
theorem wq_120 : Cond.fieldLink RX7 21 (TX7 0).1 (TX7 0).2.1 (TX7 0).2.2.1 ∈ am_gw := am_i1 220 rfl rfl
theorem wq_121 : Cond.fieldLink RX7 25 (TX7 1).1 (TX7 1).2.1 (TX7 1).2.2.1 ∈ am_gw := am_i1 222 rfl rfl
theorem wq_122 : Cond.fieldLink RX7 28 (TX7 2).1 (TX7 2).2.1 (TX7 2).2.2.1 ∈ am_gw := am_i1 224 rfl rfl
theorem wq_123 : Cond.fieldLink RX7 31 (TX7 3).1 (TX7 3).2.1 (TX7 3).2.2.1 ∈ am_gw := am_i1 226 rfl rfl
theorem wq_124 : am_code mJ7_fill_53178 ∈ am_gw := am_i4 198 rfl rfl
theorem wq_125 : Cond.initialized RJ7 ∈ am_gw := am_i1 22 rfl rfl
theorem hy_J7_fill_53178 : yJ7_fill_53178.cls ≠ "java/lang/invoke/MethodHandle" ∧ yJ7_fill_53178.cls ≠ "java/lang/invoke/VarHandle" ∧ (parseMethodDescriptor yJ7_fill_53178.desc).map (fun d => d.parameters.length) = some 2 := ⟨by decide +kernel, by decide +kernel, by decide +kernel⟩
theorem wq_127 : Cond.methodLink RX7 34 yJ7_fill_53178 ∈ am_gw := am_i4 211 rfl rfl
theorem wq_128 : Cond.static yJ7_fill_53178 ∈ am_gw := am_i4 197 rfl rfl
theorem wq_129 : Cond.fieldLink RX7 40 (TX7 4).1 (TX7 4).2.1 (TX7 4).2.2.1 ∈ am_gw := am_i1 228 rfl rfl
theorem wq_130 : Cond.fieldLink RX7 43 (TX7 5).1 (TX7 5).2.1 (TX7 5).2.2.1 ∈ am_gw := am_i1 230 rfl rfl
theorem wq_131 : Cond.methodLink RX7 46 arraycopyName ∈ am_gw := am_i2 223 rfl rfl
theorem wq_132 : Cond.methodLink RX8 1 Lib.objectInit ∈ am_gw := am_i3 69 rfl rfl
theorem wq_133 : Cond.fieldLink RX8 7 (TX8 0).1 (TX8 0).2.1 (TX8 0).2.2.1 ∈ am_gw := am_i3 71 rfl rfl
set_option maxRecDepth 10000 in
theorem uq_8 : ∀ w ∈ u_ws RX8 TX8 6, w ∈ am_gw := List.forall_mem_cons.mpr ⟨am_i3 77 rfl rfl, List.forall_mem_cons.mpr ⟨am_i3 79 rfl rfl, List.forall_mem_cons.mpr ⟨am_i3 81 rfl rfl, List.forall_mem_cons.mpr ⟨am_i3 83 rfl rfl, List.forall_mem_cons.mpr ⟨am_i3 85 rfl rfl, List.forall_mem_cons.mpr ⟨am_i3 87 rfl rfl, fun _ h => absurd h List.not_mem_nil⟩⟩⟩⟩⟩⟩
theorem dq_8 : ∀ k, k < 6 → defaultValue (am_ty 8 k) = if (am_ty 8 k).isReference then .null else .int 0 := by decide +kernel
theorem wq_134 : Cond.methodLink RX8 13 yJ9_min_7cf53 ∈ am_gw := am_i3 70 rfl rfl
theorem wq_135 : Cond.fieldLink RX8 19 (TX8 1).1 (TX8 1).2.1 (TX8 1).2.2.1 ∈ am_gw := am_i3 72 rfl rfl
theorem wq_136 : Cond.fieldLink RX8 23 (TX8 4).1 (TX8 4).2.1 (TX8 4).2.2.1 ∈ am_gw := am_i3 75 rfl rfl
theorem wq_137 : Cond.fieldLink RX8 26 (TX8 3).1 (TX8 3).2.1 (TX8 3).2.2.1 ∈ am_gw := am_i3 74 rfl rfl
theorem wq_138 : am_code mX8_typeOf ∈ am_gw := am_i3 149 rfl rfl
theorem wq_139 : Cond.initialized RX8 ∈ am_gw := am_i1 13 rfl rfl
theorem hy_X8_typeOf : yX8_typeOf.cls ≠ "java/lang/invoke/MethodHandle" ∧ yX8_typeOf.cls ≠ "java/lang/invoke/VarHandle" ∧ (parseMethodDescriptor yX8_typeOf.desc).map (fun d => d.parameters.length) = some 1 := ⟨by decide +kernel, by decide +kernel, by decide +kernel⟩
theorem wq_141 : Cond.methodLink RX8 29 yX8_typeOf ∈ am_gw := am_i3 147 rfl rfl
theorem wq_142 : Cond.static yX8_typeOf ∈ am_gw := am_i3 148 rfl rfl
theorem wq_143 : Cond.fieldLink RX8 33 (TX8 2).1 (TX8 2).2.1 (TX8 2).2.2.1 ∈ am_gw := am_i3 73 rfl rfl
theorem wq_144 : am_code mJ0_indexOf_0f7a4 ∈ am_gw := am_i3 154 rfl rfl
theorem hy_J0_indexOf_0f7a4 : yJ0_indexOf_0f7a4.cls ≠ "java/lang/invoke/MethodHandle" ∧ yJ0_indexOf_0f7a4.cls ≠ "java/lang/invoke/VarHandle" ∧ (parseMethodDescriptor yJ0_indexOf_0f7a4.desc).map (fun d => d.parameters.length) = some 1 := ⟨by decide +kernel, by decide +kernel, by decide +kernel⟩
theorem wq_146 : Cond.methodLink RX8 38 yJ0_indexOf_0f7a4 ∈ am_gw := am_i3 151 rfl rfl
theorem wq_147 : Cond.instanceMethod yJ0_indexOf_0f7a4 ∈ am_gw := am_i3 152 rfl rfl
theorem wq_148 : Cond.selects RJ0 yJ0_indexOf_0f7a4 yJ0_indexOf_0f7a4 ∈ am_gw := am_i3 153 rfl rfl
theorem wq_149 : Cond.methodLink RX8 44 yJ0_length_8abf5 ∈ am_gw := am_i4 10 rfl rfl
theorem wq_150 : am_code mJ0_charAt_5068e ∈ am_gw := am_i4 14 rfl rfl
theorem hy_J0_charAt_5068e : yJ0_charAt_5068e.cls ≠ "java/lang/invoke/MethodHandle" ∧ yJ0_charAt_5068e.cls ≠ "java/lang/invoke/VarHandle" ∧ (parseMethodDescriptor yJ0_charAt_5068e.desc).map (fun d => d.parameters.length) = some 1 := ⟨by decide +kernel, by decide +kernel, by decide +kernel⟩
theorem wq_152 : Cond.methodLink RX8 48 yJ0_charAt_5068e ∈ am_gw := am_i4 11 rfl rfl
theorem wq_153 : Cond.instanceMethod yJ0_charAt_5068e ∈ am_gw := am_i4 12 rfl rfl
theorem wq_154 : Cond.selects RJ0 yJ0_charAt_5068e yJ0_charAt_5068e ∈ am_gw := am_i4 13 rfl rfl
theorem wq_155 : Cond.fieldLink RX8 52 (TX8 5).1 (TX8 5).2.1 (TX8 5).2.2.1 ∈ am_gw := am_i3 76 rfl rfl
theorem wq_156 : Cond.methodLink RX0 5 Lib.objectInit ∈ am_gw := am_i1 39 rfl rfl
theorem wq_157 : Cond.fieldLink RX0 11 (TX0 0).1 (TX0 0).2.1 (TX0 0).2.2.1 ∈ am_gw := am_i1 158 rfl rfl
set_option maxRecDepth 10000 in
theorem uq_0 : ∀ w ∈ u_ws RX0 TX0 12, w ∈ am_gw := List.forall_mem_cons.mpr ⟨am_i1 189 rfl rfl, List.forall_mem_cons.mpr ⟨am_i1 191 rfl rfl, List.forall_mem_cons.mpr ⟨am_i1 193 rfl rfl, List.forall_mem_cons.mpr ⟨am_i1 195 rfl rfl, List.forall_mem_cons.mpr ⟨am_i1 197 rfl rfl, List.forall_mem_cons.mpr ⟨am_i1 199 rfl rfl, List.forall_mem_cons.mpr ⟨am_i1 201 rfl rfl, List.forall_mem_cons.mpr ⟨am_i1 203 rfl rfl, List.forall_mem_cons.mpr ⟨am_i1 205 rfl rfl, List.forall_mem_cons.mpr ⟨am_i1 207 rfl rfl, List.forall_mem_cons.mpr ⟨am_i1 209 rfl rfl, List.forall_mem_cons.mpr ⟨am_i1 211 rfl rfl, fun _ h => absurd h List.not_mem_nil⟩⟩⟩⟩⟩⟩⟩⟩⟩⟩⟩⟩
theorem dq_0 : ∀ k, k < 12 → defaultValue (am_ty 0 k) = if (am_ty 0 k).isReference then .null else .int 0 := by decide +kernel
theorem wq_158 : Cond.fieldLink RX0 15 (TX0 1).1 (TX0 1).2.1 (TX0 1).2.2.1 ∈ am_gw := am_i1 161 rfl rfl
theorem wq_159 : Cond.fieldLink RX0 18 (TX0 2).1 (TX0 2).2.1 (TX0 2).2.2.1 ∈ am_gw := am_i1 164 rfl rfl
theorem wq_160 : Cond.classLink RX0 21 "DrawerWall$Drawers" ∈ am_gw := am_i1 40 rfl rfl
theorem wq_161 : Cond.instantiable RX2 11 ∈ am_gw := am_i1 41 rfl rfl
theorem wq_162 : am_code mX2_init ∈ am_gw := am_i1 44 rfl rfl
theorem hy_X2_init : yX2_init.cls ≠ "java/lang/invoke/MethodHandle" ∧ yX2_init.cls ≠ "java/lang/invoke/VarHandle" ∧ (parseMethodDescriptor yX2_init.desc).map (fun d => d.parameters.length) = some 0 := ⟨by decide +kernel, by decide +kernel, by decide +kernel⟩
theorem wq_164 : Cond.instanceMethod yX2_init ∈ am_gw := am_i1 43 rfl rfl
theorem wq_165 : Cond.fieldLink RX0 24 (TX0 7).1 (TX0 7).2.1 (TX0 7).2.2.1 ∈ am_gw := am_i1 176 rfl rfl
theorem wq_166 : Cond.classLink RX0 28 "DrawerWall$People" ∈ am_gw := am_i1 104 rfl rfl
theorem wq_167 : Cond.instantiable RX4 4 ∈ am_gw := am_i1 105 rfl rfl
theorem wq_168 : Cond.initialized RX4 ∈ am_gw := am_i1 4 rfl rfl
theorem wq_169 : am_code mX4_init ∈ am_gw := am_i1 108 rfl rfl
theorem hy_X4_init : yX4_init.cls ≠ "java/lang/invoke/MethodHandle" ∧ yX4_init.cls ≠ "java/lang/invoke/VarHandle" ∧ (parseMethodDescriptor yX4_init.desc).map (fun d => d.parameters.length) = some 0 := ⟨by decide +kernel, by decide +kernel, by decide +kernel⟩
theorem wq_171 : Cond.instanceMethod yX4_init ∈ am_gw := am_i1 107 rfl rfl
theorem wq_172 : Cond.fieldLink RX0 31 (TX0 8).1 (TX0 8).2.1 (TX0 8).2.2.1 ∈ am_gw := am_i1 180 rfl rfl
theorem wq_173 : Cond.classLink RX0 35 "DrawerWall$Rules" ∈ am_gw := am_i1 133 rfl rfl
theorem wq_174 : Cond.instantiable RX5 5 ∈ am_gw := am_i1 134 rfl rfl
theorem wq_175 : am_code mX5_init ∈ am_gw := am_i1 137 rfl rfl
theorem hy_X5_init : yX5_init.cls ≠ "java/lang/invoke/MethodHandle" ∧ yX5_init.cls ≠ "java/lang/invoke/VarHandle" ∧ (parseMethodDescriptor yX5_init.desc).map (fun d => d.parameters.length) = some 0 := ⟨by decide +kernel, by decide +kernel, by decide +kernel⟩
theorem wq_177 : Cond.instanceMethod yX5_init ∈ am_gw := am_i1 136 rfl rfl
theorem wq_178 : Cond.fieldLink RX0 38 (TX0 9).1 (TX0 9).2.1 (TX0 9).2.2.1 ∈ am_gw := am_i1 185 rfl rfl
theorem wq_179 : Cond.fieldLink RX0 42 (TX0 10).1 (TX0 10).2.1 (TX0 10).2.2.1 ∈ am_gw := am_i1 187 rfl rfl
theorem wq_180 : Cond.fieldLink RX0 46 (TX0 11).1 (TX0 11).2.1 (TX0 11).2.2.1 ∈ am_gw := am_i1 188 rfl rfl
theorem wq_181 : Cond.fieldLink RX0 49 (TX0 3).1 (TX0 3).2.1 (TX0 3).2.2.1 ∈ am_gw := am_i1 167 rfl rfl
theorem wq_182 : Cond.fieldLink RX0 52 (TX0 4).1 (TX0 4).2.1 (TX0 4).2.2.1 ∈ am_gw := am_i1 169 rfl rfl
theorem wq_183 : Cond.fieldLink RX0 55 (TX0 5).1 (TX0 5).2.1 (TX0 5).2.2.1 ∈ am_gw := am_i1 171 rfl rfl
theorem wq_184 : Cond.fieldLink RX0 58 (TX0 6).1 (TX0 6).2.1 (TX0 6).2.2.1 ∈ am_gw := am_i1 173 rfl rfl
theorem wq_185 : Cond.fieldLink RX0 61 (TX2 0).1 (TX2 0).2.1 (TX2 0).2.2.1 ∈ am_gw := am_i1 48 rfl rfl
theorem wq_186 : Cond.fieldLink RX0 64 (TX4 0).1 (TX4 0).2.1 (TX4 0).2.2.1 ∈ am_gw := am_i1 111 rfl rfl
theorem wq_187 : am_code mX5_clear ∈ am_gw := am_i3 142 rfl rfl
theorem hy_X5_clear : yX5_clear.cls ≠ "java/lang/invoke/MethodHandle" ∧ yX5_clear.cls ≠ "java/lang/invoke/VarHandle" ∧ (parseMethodDescriptor yX5_clear.desc).map (fun d => d.parameters.length) = some 0 := ⟨by decide +kernel, by decide +kernel, by decide +kernel⟩
theorem wq_189 : Cond.methodLink RX0 65 yX5_clear ∈ am_gw := am_i3 139 rfl rfl
theorem wq_190 : Cond.instanceMethod yX5_clear ∈ am_gw := am_i3 140 rfl rfl
theorem wq_191 : Cond.selects RX5 yX5_clear yX5_clear ∈ am_gw := am_i3 141 rfl rfl
theorem wq_192 : am_code mX2_compare ∈ am_gw := am_i4 186 rfl rfl
theorem hy_X2_compare : yX2_compare.cls ≠ "java/lang/invoke/MethodHandle" ∧ yX2_compare.cls ≠ "java/lang/invoke/VarHandle" ∧ (parseMethodDescriptor yX2_compare.desc).map (fun d => d.parameters.length) = some 1 := ⟨by decide +kernel, by decide +kernel, by decide +kernel⟩
theorem wq_194 : Cond.methodLink RX0 68 yX2_compare ∈ am_gw := am_i4 183 rfl rfl
theorem wq_195 : Cond.instanceMethod yX2_compare ∈ am_gw := am_i4 184 rfl rfl
theorem wq_196 : Cond.selects RX2 yX2_compare yX2_compare ∈ am_gw := am_i4 185 rfl rfl
theorem wq_197 : Cond.methodLink RX0 72 yJ7_fill_53178 ∈ am_gw := am_i4 196 rfl rfl
theorem wq_198 : am_code mX2_copyFrom ∈ am_gw := am_i5 106 rfl rfl
theorem hy_X2_copyFrom : yX2_copyFrom.cls ≠ "java/lang/invoke/MethodHandle" ∧ yX2_copyFrom.cls ≠ "java/lang/invoke/VarHandle" ∧ (parseMethodDescriptor yX2_copyFrom.desc).map (fun d => d.parameters.length) = some 1 := ⟨by decide +kernel, by decide +kernel, by decide +kernel⟩
theorem wq_200 : Cond.methodLink RX0 78 yX2_copyFrom ∈ am_gw := am_i5 103 rfl rfl
theorem wq_201 : Cond.instanceMethod yX2_copyFrom ∈ am_gw := am_i5 104 rfl rfl
theorem wq_202 : Cond.selects RX2 yX2_copyFrom yX2_copyFrom ∈ am_gw := am_i5 105 rfl rfl
theorem wq_203 : am_code mX4_copyFrom ∈ am_gw := am_i5 111 rfl rfl
theorem hy_X4_copyFrom : yX4_copyFrom.cls ≠ "java/lang/invoke/MethodHandle" ∧ yX4_copyFrom.cls ≠ "java/lang/invoke/VarHandle" ∧ (parseMethodDescriptor yX4_copyFrom.desc).map (fun d => d.parameters.length) = some 1 := ⟨by decide +kernel, by decide +kernel, by decide +kernel⟩
theorem wq_205 : Cond.methodLink RX0 82 yX4_copyFrom ∈ am_gw := am_i5 108 rfl rfl
theorem wq_206 : Cond.instanceMethod yX4_copyFrom ∈ am_gw := am_i5 109 rfl rfl
theorem wq_207 : Cond.selects RX4 yX4_copyFrom yX4_copyFrom ∈ am_gw := am_i5 110 rfl rfl
theorem wq_208 : am_code mX5_copyFrom ∈ am_gw := am_i5 116 rfl rfl
theorem hy_X5_copyFrom : yX5_copyFrom.cls ≠ "java/lang/invoke/MethodHandle" ∧ yX5_copyFrom.cls ≠ "java/lang/invoke/VarHandle" ∧ (parseMethodDescriptor yX5_copyFrom.desc).map (fun d => d.parameters.length) = some 1 := ⟨by decide +kernel, by decide +kernel, by decide +kernel⟩
theorem wq_210 : Cond.methodLink RX0 85 yX5_copyFrom ∈ am_gw := am_i5 113 rfl rfl
theorem wq_211 : Cond.instanceMethod yX5_copyFrom ∈ am_gw := am_i5 114 rfl rfl
theorem wq_212 : Cond.selects RX5 yX5_copyFrom yX5_copyFrom ∈ am_gw := am_i5 115 rfl rfl
theorem wq_213 : Cond.fieldLink RX0 88 (TX2 2).1 (TX2 2).2.1 (TX2 2).2.2.1 ∈ am_gw := am_i1 56 rfl rfl
theorem wq_214 : Cond.methodLink RX0 91 yJ9_min_7cf53 ∈ am_gw := am_i5 122 rfl rfl
theorem wq_215 : Cond.fieldLink RX0 97 (TX2 3).1 (TX2 3).2.1 (TX2 3).2.2.1 ∈ am_gw := am_i1 60 rfl rfl
theorem wq_216 : Cond.fieldLink RX0 100 (TX2 5).1 (TX2 5).2.1 (TX2 5).2.2.1 ∈ am_gw := am_i1 67 rfl rfl
theorem wq_217 : Cond.methodLink RX0 103 yJ9_max_7cf53 ∈ am_gw := am_i5 123 rfl rfl
theorem wq_218 : Cond.fieldLink RX0 106 (TX4 1).1 (TX4 1).2.1 (TX4 1).2.2.1 ∈ am_gw := am_i1 116 rfl rfl
theorem wq_219 : am_code mX0_settle ∈ am_gw := am_i4 182 rfl rfl
theorem wq_220 : Cond.initialized RX0 ∈ am_gw := am_i1 2 rfl rfl
theorem hy_X0_settle : yX0_settle.cls ≠ "java/lang/invoke/MethodHandle" ∧ yX0_settle.cls ≠ "java/lang/invoke/VarHandle" ∧ (parseMethodDescriptor yX0_settle.desc).map (fun d => d.parameters.length) = some 0 := ⟨by decide +kernel, by decide +kernel, by decide +kernel⟩
theorem wq_222 : Cond.methodLink RX0 109 yX0_settle ∈ am_gw := am_i5 124 rfl rfl
theorem wq_223 : Cond.instanceMethod yX0_settle ∈ am_gw := am_i4 180 rfl rfl
theorem wq_224 : Cond.selects RX0 yX0_settle yX0_settle ∈ am_gw := am_i4 181 rfl rfl
theorem wq_225 : Cond.fieldLink RX0 112 (TX2 1).1 (TX2 1).2.1 (TX2 1).2.2.1 ∈ am_gw := am_i1 52 rfl rfl
theorem wq_226 : Cond.fieldLink RX0 115 (TX2 4).1 (TX2 4).2.1 (TX2 4).2.2.1 ∈ am_gw := am_i1 63 rfl rfl
theorem wq_227 : Cond.methodLink RX0 118 yX2_isWide ∈ am_gw := am_i2 211 rfl rfl
theorem wq_228 : am_code mJ9_abs_0f7a4 ∈ am_gw := am_i5 151 rfl rfl
theorem hy_J9_abs_0f7a4 : yJ9_abs_0f7a4.cls ≠ "java/lang/invoke/MethodHandle" ∧ yJ9_abs_0f7a4.cls ≠ "java/lang/invoke/VarHandle" ∧ (parseMethodDescriptor yJ9_abs_0f7a4.desc).map (fun d => d.parameters.length) = some 1 := ⟨by decide +kernel, by decide +kernel, by decide +kernel⟩
theorem wq_230 : Cond.methodLink RX0 122 yJ9_abs_0f7a4 ∈ am_gw := am_i5 149 rfl rfl
theorem wq_231 : Cond.static yJ9_abs_0f7a4 ∈ am_gw := am_i5 150 rfl rfl
theorem wq_232 : Cond.methodLink RX0 126 yX2_columnsApart ∈ am_gw := am_i5 152 rfl rfl
theorem wq_233 : am_code mX0_judge ∈ am_gw := am_i2 99 rfl rfl
theorem hy_X0_judge : yX0_judge.cls ≠ "java/lang/invoke/MethodHandle" ∧ yX0_judge.cls ≠ "java/lang/invoke/VarHandle" ∧ (parseMethodDescriptor yX0_judge.desc).map (fun d => d.parameters.length) = some 1 := ⟨by decide +kernel, by decide +kernel, by decide +kernel⟩
theorem wq_235 : Cond.methodLink RX0 129 yX0_judge ∈ am_gw := am_i2 96 rfl rfl
theorem wq_236 : Cond.instanceMethod yX0_judge ∈ am_gw := am_i2 98 rfl rfl
theorem wq_237 : Cond.selects RX0 yX0_judge yX0_judge ∈ am_gw := am_inS 3 rfl rfl
theorem wq_238 : am_code mX0_isSound ∈ am_gw := am_i2 103 rfl rfl
theorem hy_X0_isSound : yX0_isSound.cls ≠ "java/lang/invoke/MethodHandle" ∧ yX0_isSound.cls ≠ "java/lang/invoke/VarHandle" ∧ (parseMethodDescriptor yX0_isSound.desc).map (fun d => d.parameters.length) = some 1 := ⟨by decide +kernel, by decide +kernel, by decide +kernel⟩
theorem wq_240 : Cond.methodLink RX0 132 yX0_isSound ∈ am_gw := am_i2 100 rfl rfl
theorem wq_241 : Cond.instanceMethod yX0_isSound ∈ am_gw := am_i2 102 rfl rfl
theorem wq_242 : Cond.selects RX0 yX0_isSound yX0_isSound ∈ am_gw := am_inS 4 rfl rfl
theorem wq_243 : am_code mX0_leastBroken ∈ am_gw := am_i2 107 rfl rfl
theorem hy_X0_leastBroken : yX0_leastBroken.cls ≠ "java/lang/invoke/MethodHandle" ∧ yX0_leastBroken.cls ≠ "java/lang/invoke/VarHandle" ∧ (parseMethodDescriptor yX0_leastBroken.desc).map (fun d => d.parameters.length) = some 1 := ⟨by decide +kernel, by decide +kernel, by decide +kernel⟩
theorem wq_245 : Cond.methodLink RX0 135 yX0_leastBroken ∈ am_gw := am_i2 104 rfl rfl
theorem wq_246 : Cond.instanceMethod yX0_leastBroken ∈ am_gw := am_i2 105 rfl rfl
theorem wq_247 : Cond.selects RX0 yX0_leastBroken yX0_leastBroken ∈ am_gw := am_i2 106 rfl rfl
theorem wq_248 : am_code mX0_climb ∈ am_gw := am_i2 128 rfl rfl
theorem hy_X0_climb : yX0_climb.cls ≠ "java/lang/invoke/MethodHandle" ∧ yX0_climb.cls ≠ "java/lang/invoke/VarHandle" ∧ (parseMethodDescriptor yX0_climb.desc).map (fun d => d.parameters.length) = some 1 := ⟨by decide +kernel, by decide +kernel, by decide +kernel⟩
theorem wq_250 : Cond.methodLink RX0 138 yX0_climb ∈ am_gw := am_i2 125 rfl rfl
theorem wq_251 : Cond.instanceMethod yX0_climb ∈ am_gw := am_i2 127 rfl rfl
theorem wq_252 : Cond.selects RX0 yX0_climb yX0_climb ∈ am_gw := am_inS 6 rfl rfl
theorem wq_253 : am_code mX4_withBoth ∈ am_gw := am_i2 132 rfl rfl
theorem hy_X4_withBoth : yX4_withBoth.cls ≠ "java/lang/invoke/MethodHandle" ∧ yX4_withBoth.cls ≠ "java/lang/invoke/VarHandle" ∧ (parseMethodDescriptor yX4_withBoth.desc).map (fun d => d.parameters.length) = some 1 := ⟨by decide +kernel, by decide +kernel, by decide +kernel⟩
theorem wq_255 : Cond.methodLink RX0 141 yX4_withBoth ∈ am_gw := am_i2 129 rfl rfl
theorem wq_256 : Cond.instanceMethod yX4_withBoth ∈ am_gw := am_i2 130 rfl rfl
theorem wq_257 : Cond.selects RX4 yX4_withBoth yX4_withBoth ∈ am_gw := am_i2 131 rfl rfl
theorem wq_258 : Cond.fieldLink RX0 144 (TX2 10).1 (TX2 10).2.1 (TX2 10).2.2.1 ∈ am_gw := am_i1 78 rfl rfl
theorem wq_259 : Cond.fieldLink RX0 147 (TX2 7).1 (TX2 7).2.1 (TX2 7).2.2.1 ∈ am_gw := am_i1 72 rfl rfl
theorem wq_260 : Cond.fieldLink RX0 150 (TX2 8).1 (TX2 8).2.1 (TX2 8).2.2.1 ∈ am_gw := am_i1 74 rfl rfl
theorem wq_261 : Cond.fieldLink RX0 153 (TX5 0).1 (TX5 0).2.1 (TX5 0).2.2.1 ∈ am_gw := am_i1 142 rfl rfl
theorem wq_262 : am_code mX0_lookAt ∈ am_gw := am_i2 111 rfl rfl
theorem hy_X0_lookAt : yX0_lookAt.cls ≠ "java/lang/invoke/MethodHandle" ∧ yX0_lookAt.cls ≠ "java/lang/invoke/VarHandle" ∧ (parseMethodDescriptor yX0_lookAt.desc).map (fun d => d.parameters.length) = some 2 := ⟨by decide +kernel, by decide +kernel, by decide +kernel⟩
theorem wq_264 : Cond.methodLink RX0 154 yX0_lookAt ∈ am_gw := am_i2 108 rfl rfl
theorem wq_265 : Cond.instanceMethod yX0_lookAt ∈ am_gw := am_i2 110 rfl rfl
theorem wq_266 : Cond.selects RX0 yX0_lookAt yX0_lookAt ∈ am_gw := am_inS 5 rfl rfl
theorem wq_267 : am_code mX5_holds ∈ am_gw := am_i2 121 rfl rfl
theorem hy_X5_holds : yX5_holds.cls ≠ "java/lang/invoke/MethodHandle" ∧ yX5_holds.cls ≠ "java/lang/invoke/VarHandle" ∧ (parseMethodDescriptor yX5_holds.desc).map (fun d => d.parameters.length) = some 2 := ⟨by decide +kernel, by decide +kernel, by decide +kernel⟩
theorem wq_269 : Cond.methodLink RX0 158 yX5_holds ∈ am_gw := am_i2 118 rfl rfl
theorem wq_270 : Cond.instanceMethod yX5_holds ∈ am_gw := am_i2 119 rfl rfl
theorem wq_271 : Cond.selects RX5 yX5_holds yX5_holds ∈ am_gw := am_i2 120 rfl rfl
theorem wq_272 : am_code mJ6_bitCount_0f7a4 ∈ am_gw := am_i2 114 rfl rfl
theorem wq_273 : Cond.initialized RJ6 ∈ am_gw := am_i1 24 rfl rfl
theorem hy_J6_bitCount_0f7a4 : yJ6_bitCount_0f7a4.cls ≠ "java/lang/invoke/MethodHandle" ∧ yJ6_bitCount_0f7a4.cls ≠ "java/lang/invoke/VarHandle" ∧ (parseMethodDescriptor yJ6_bitCount_0f7a4.desc).map (fun d => d.parameters.length) = some 1 := ⟨by decide +kernel, by decide +kernel, by decide +kernel⟩
theorem wq_275 : Cond.methodLink RX0 162 yJ6_bitCount_0f7a4 ∈ am_gw := am_i2 112 rfl rfl
theorem wq_276 : Cond.static yJ6_bitCount_0f7a4 ∈ am_gw := am_i2 113 rfl rfl
theorem wq_277 : Cond.fieldLink RX0 167 (TX2 9).1 (TX2 9).2.1 (TX2 9).2.2.1 ∈ am_gw := am_i1 76 rfl rfl
theorem wq_278 : Cond.fieldLink RX0 170 (TX2 6).1 (TX2 6).2.1 (TX2 6).2.2.1 ∈ am_gw := am_i1 70 rfl rfl
theorem wq_279 : Cond.methodLink RX3 3 Lib.objectInit ∈ am_gw := am_i3 101 rfl rfl
theorem wq_280 : Cond.fieldLink RX3 9 (TX3 0).1 (TX3 0).2.1 (TX3 0).2.2.1 ∈ am_gw := am_i3 102 rfl rfl
set_option maxRecDepth 10000 in
theorem uq_3 : ∀ w ∈ u_ws RX3 TX3 2, w ∈ am_gw := List.forall_mem_cons.mpr ⟨am_i3 104 rfl rfl, List.forall_mem_cons.mpr ⟨am_i3 106 rfl rfl, fun _ h => absurd h List.not_mem_nil⟩⟩
theorem dq_3 : ∀ k, k < 2 → defaultValue (am_ty 3 k) = if (am_ty 3 k).isReference then .null else .int 0 := by decide +kernel
theorem wq_281 : Cond.fieldLink RX3 15 (TX3 1).1 (TX3 1).2.1 (TX3 1).2.2.1 ∈ am_gw := am_i3 103 rfl rfl
theorem wq_282 : Cond.fieldLink RX3 19 (TX5 0).1 (TX5 0).2.1 (TX5 0).2.2.1 ∈ am_gw := am_i1 139 rfl rfl
theorem wq_283 : am_code mX8_refuse ∈ am_gw := am_i4 41 rfl rfl
theorem hy_X8_refuse : yX8_refuse.cls ≠ "java/lang/invoke/MethodHandle" ∧ yX8_refuse.cls ≠ "java/lang/invoke/VarHandle" ∧ (parseMethodDescriptor yX8_refuse.desc).map (fun d => d.parameters.length) = some 1 := ⟨by decide +kernel, by decide +kernel, by decide +kernel⟩
theorem wq_285 : Cond.methodLink RX3 27 yX8_refuse ∈ am_gw := am_i4 95 rfl rfl
theorem wq_286 : Cond.instanceMethod yX8_refuse ∈ am_gw := am_i4 39 rfl rfl
theorem wq_287 : Cond.selects RX8 yX8_refuse yX8_refuse ∈ am_gw := am_i4 40 rfl rfl
theorem wq_288 : am_code mX8_advance ∈ am_gw := am_i3 146 rfl rfl
theorem hy_X8_advance : yX8_advance.cls ≠ "java/lang/invoke/MethodHandle" ∧ yX8_advance.cls ≠ "java/lang/invoke/VarHandle" ∧ (parseMethodDescriptor yX8_advance.desc).map (fun d => d.parameters.length) = some 0 := ⟨by decide +kernel, by decide +kernel, by decide +kernel⟩
theorem wq_290 : Cond.methodLink RX3 33 yX8_advance ∈ am_gw := am_i4 96 rfl rfl
theorem wq_291 : Cond.instanceMethod yX8_advance ∈ am_gw := am_i3 144 rfl rfl
theorem wq_292 : Cond.selects RX8 yX8_advance yX8_advance ∈ am_gw := am_i3 145 rfl rfl
theorem wq_293 : am_code mX3_readLevel ∈ am_gw := am_i4 100 rfl rfl
theorem wq_294 : Cond.initialized RX3 ∈ am_gw := am_i1 16 rfl rfl
theorem hy_X3_readLevel : yX3_readLevel.cls ≠ "java/lang/invoke/MethodHandle" ∧ yX3_readLevel.cls ≠ "java/lang/invoke/VarHandle" ∧ (parseMethodDescriptor yX3_readLevel.desc).map (fun d => d.parameters.length) = some 2 := ⟨by decide +kernel, by decide +kernel, by decide +kernel⟩
theorem wq_296 : Cond.methodLink RX3 36 yX3_readLevel ∈ am_gw := am_i4 97 rfl rfl
theorem wq_297 : Cond.instanceMethod yX3_readLevel ∈ am_gw := am_i4 99 rfl rfl
theorem wq_298 : Cond.selects RX3 yX3_readLevel yX3_readLevel ∈ am_gw := am_inS 20 rfl rfl
theorem wq_299 : am_code mX5_endRule ∈ am_gw := am_i4 153 rfl rfl
theorem hy_X5_endRule : yX5_endRule.cls ≠ "java/lang/invoke/MethodHandle" ∧ yX5_endRule.cls ≠ "java/lang/invoke/VarHandle" ∧ (parseMethodDescriptor yX5_endRule.desc).map (fun d => d.parameters.length) = some 0 := ⟨by decide +kernel, by decide +kernel, by decide +kernel⟩
theorem wq_301 : Cond.methodLink RX3 40 yX5_endRule ∈ am_gw := am_i4 150 rfl rfl
theorem wq_302 : Cond.instanceMethod yX5_endRule ∈ am_gw := am_i4 151 rfl rfl
theorem wq_303 : Cond.selects RX5 yX5_endRule yX5_endRule ∈ am_gw := am_i4 152 rfl rfl
theorem wq_304 : am_code mX3_readNot ∈ am_gw := am_i4 104 rfl rfl
theorem hy_X3_readNot : yX3_readNot.cls ≠ "java/lang/invoke/MethodHandle" ∧ yX3_readNot.cls ≠ "java/lang/invoke/VarHandle" ∧ (parseMethodDescriptor yX3_readNot.desc).map (fun d => d.parameters.length) = some 1 := ⟨by decide +kernel, by decide +kernel, by decide +kernel⟩
theorem wq_306 : Cond.methodLink RX3 43 yX3_readNot ∈ am_gw := am_i4 101 rfl rfl
theorem wq_307 : Cond.instanceMethod yX3_readNot ∈ am_gw := am_i4 103 rfl rfl
theorem wq_308 : Cond.selects RX3 yX3_readNot yX3_readNot ∈ am_gw := am_inS 21 rfl rfl
theorem wq_309 : am_code mX3_readPart ∈ am_gw := am_i4 114 rfl rfl
theorem hy_X3_readPart : yX3_readPart.cls ≠ "java/lang/invoke/MethodHandle" ∧ yX3_readPart.cls ≠ "java/lang/invoke/VarHandle" ∧ (parseMethodDescriptor yX3_readPart.desc).map (fun d => d.parameters.length) = some 1 := ⟨by decide +kernel, by decide +kernel, by decide +kernel⟩
theorem wq_311 : Cond.methodLink RX3 46 yX3_readPart ∈ am_gw := am_i4 111 rfl rfl
theorem wq_312 : Cond.instanceMethod yX3_readPart ∈ am_gw := am_i4 113 rfl rfl
theorem wq_313 : Cond.selects RX3 yX3_readPart yX3_readPart ∈ am_gw := am_inS 22 rfl rfl
theorem wq_314 : am_code mX3_signTold ∈ am_gw := am_i4 147 rfl rfl
theorem hy_X3_signTold : yX3_signTold.cls ≠ "java/lang/invoke/MethodHandle" ∧ yX3_signTold.cls ≠ "java/lang/invoke/VarHandle" ∧ (parseMethodDescriptor yX3_signTold.desc).map (fun d => d.parameters.length) = some 1 := ⟨by decide +kernel, by decide +kernel, by decide +kernel⟩
theorem wq_316 : Cond.methodLink RX3 49 yX3_signTold ∈ am_gw := am_i4 144 rfl rfl
theorem wq_317 : Cond.instanceMethod yX3_signTold ∈ am_gw := am_i4 146 rfl rfl
theorem wq_318 : Cond.selects RX3 yX3_signTold yX3_signTold ∈ am_gw := am_inS 25 rfl rfl
theorem wq_319 : am_code mX5_add ∈ am_gw := am_i4 110 rfl rfl
theorem hy_X5_add : yX5_add.cls ≠ "java/lang/invoke/MethodHandle" ∧ yX5_add.cls ≠ "java/lang/invoke/VarHandle" ∧ (parseMethodDescriptor yX5_add.desc).map (fun d => d.parameters.length) = some 1 := ⟨by decide +kernel, by decide +kernel, by decide +kernel⟩
theorem wq_321 : Cond.methodLink RX3 53 yX5_add ∈ am_gw := am_i4 107 rfl rfl
theorem wq_322 : Cond.instanceMethod yX5_add ∈ am_gw := am_i4 108 rfl rfl
theorem wq_323 : Cond.selects RX5 yX5_add yX5_add ∈ am_gw := am_i4 109 rfl rfl
theorem wq_324 : am_code mX8_isWord ∈ am_gw := am_i4 9 rfl rfl
theorem hy_X8_isWord : yX8_isWord.cls ≠ "java/lang/invoke/MethodHandle" ∧ yX8_isWord.cls ≠ "java/lang/invoke/VarHandle" ∧ (parseMethodDescriptor yX8_isWord.desc).map (fun d => d.parameters.length) = some 1 := ⟨by decide +kernel, by decide +kernel, by decide +kernel⟩
theorem wq_326 : Cond.methodLink RX3 59 yX8_isWord ∈ am_gw := am_i4 106 rfl rfl
theorem wq_327 : Cond.instanceMethod yX8_isWord ∈ am_gw := am_i4 7 rfl rfl
theorem wq_328 : Cond.selects RX8 yX8_isWord yX8_isWord ∈ am_gw := am_i4 8 rfl rfl
theorem wq_329 : am_code mX8_isSign ∈ am_gw := am_i4 118 rfl rfl
theorem hy_X8_isSign : yX8_isSign.cls ≠ "java/lang/invoke/MethodHandle" ∧ yX8_isSign.cls ≠ "java/lang/invoke/VarHandle" ∧ (parseMethodDescriptor yX8_isSign.desc).map (fun d => d.parameters.length) = some 1 := ⟨by decide +kernel, by decide +kernel, by decide +kernel⟩
theorem wq_331 : Cond.methodLink RX3 65 yX8_isSign ∈ am_gw := am_i4 115 rfl rfl
theorem wq_332 : Cond.instanceMethod yX8_isSign ∈ am_gw := am_i4 116 rfl rfl
theorem wq_333 : Cond.selects RX8 yX8_isSign yX8_isSign ∈ am_gw := am_i4 117 rfl rfl
theorem wq_334 : am_code mX3_readParenthesis ∈ am_gw := am_i4 122 rfl rfl
theorem hy_X3_readParenthesis : yX3_readParenthesis.cls ≠ "java/lang/invoke/MethodHandle" ∧ yX3_readParenthesis.cls ≠ "java/lang/invoke/VarHandle" ∧ (parseMethodDescriptor yX3_readParenthesis.desc).map (fun d => d.parameters.length) = some 1 := ⟨by decide +kernel, by decide +kernel, by decide +kernel⟩
theorem wq_336 : Cond.methodLink RX3 71 yX3_readParenthesis ∈ am_gw := am_i4 119 rfl rfl
theorem wq_337 : Cond.instanceMethod yX3_readParenthesis ∈ am_gw := am_i4 121 rfl rfl
theorem wq_338 : Cond.selects RX3 yX3_readParenthesis yX3_readParenthesis ∈ am_gw := am_inS 23 rfl rfl
theorem wq_339 : am_code mX8_isNumber ∈ am_gw := am_i4 53 rfl rfl
theorem hy_X8_isNumber : yX8_isNumber.cls ≠ "java/lang/invoke/MethodHandle" ∧ yX8_isNumber.cls ≠ "java/lang/invoke/VarHandle" ∧ (parseMethodDescriptor yX8_isNumber.desc).map (fun d => d.parameters.length) = some 0 := ⟨by decide +kernel, by decide +kernel, by decide +kernel⟩
theorem wq_341 : Cond.methodLink RX3 74 yX8_isNumber ∈ am_gw := am_i4 123 rfl rfl
theorem wq_342 : Cond.instanceMethod yX8_isNumber ∈ am_gw := am_i4 51 rfl rfl
theorem wq_343 : Cond.selects RX8 yX8_isNumber yX8_isNumber ∈ am_gw := am_i4 52 rfl rfl
theorem wq_344 : am_code mX8_isTooLong ∈ am_gw := am_i4 57 rfl rfl
theorem hy_X8_isTooLong : yX8_isTooLong.cls ≠ "java/lang/invoke/MethodHandle" ∧ yX8_isTooLong.cls ≠ "java/lang/invoke/VarHandle" ∧ (parseMethodDescriptor yX8_isTooLong.desc).map (fun d => d.parameters.length) = some 0 := ⟨by decide +kernel, by decide +kernel, by decide +kernel⟩
theorem wq_346 : Cond.methodLink RX3 78 yX8_isTooLong ∈ am_gw := am_i4 128 rfl rfl
theorem wq_347 : Cond.instanceMethod yX8_isTooLong ∈ am_gw := am_i4 55 rfl rfl
theorem wq_348 : Cond.selects RX8 yX8_isTooLong yX8_isTooLong ∈ am_gw := am_i4 56 rfl rfl
theorem wq_349 : am_code mX8_number ∈ am_gw := am_i4 61 rfl rfl
theorem hy_X8_number : yX8_number.cls ≠ "java/lang/invoke/MethodHandle" ∧ yX8_number.cls ≠ "java/lang/invoke/VarHandle" ∧ (parseMethodDescriptor yX8_number.desc).map (fun d => d.parameters.length) = some 0 := ⟨by decide +kernel, by decide +kernel, by decide +kernel⟩
theorem wq_351 : Cond.methodLink RX3 81 yX8_number ∈ am_gw := am_i4 129 rfl rfl
theorem wq_352 : Cond.instanceMethod yX8_number ∈ am_gw := am_i4 59 rfl rfl
theorem wq_353 : Cond.selects RX8 yX8_number yX8_number ∈ am_gw := am_i4 60 rfl rfl
theorem wq_354 : am_code mX8_isAnyWord ∈ am_gw := am_i4 127 rfl rfl
theorem hy_X8_isAnyWord : yX8_isAnyWord.cls ≠ "java/lang/invoke/MethodHandle" ∧ yX8_isAnyWord.cls ≠ "java/lang/invoke/VarHandle" ∧ (parseMethodDescriptor yX8_isAnyWord.desc).map (fun d => d.parameters.length) = some 0 := ⟨by decide +kernel, by decide +kernel, by decide +kernel⟩
theorem wq_356 : Cond.methodLink RX3 85 yX8_isAnyWord ∈ am_gw := am_i4 124 rfl rfl
theorem wq_357 : Cond.instanceMethod yX8_isAnyWord ∈ am_gw := am_i4 125 rfl rfl
theorem wq_358 : Cond.selects RX8 yX8_isAnyWord yX8_isAnyWord ∈ am_gw := am_i4 126 rfl rfl
theorem wq_359 : am_code mX3_valueTold ∈ am_gw := am_i4 133 rfl rfl
theorem hy_X3_valueTold : yX3_valueTold.cls ≠ "java/lang/invoke/MethodHandle" ∧ yX3_valueTold.cls ≠ "java/lang/invoke/VarHandle" ∧ (parseMethodDescriptor yX3_valueTold.desc).map (fun d => d.parameters.length) = some 0 := ⟨by decide +kernel, by decide +kernel, by decide +kernel⟩
theorem wq_361 : Cond.methodLink RX3 88 yX3_valueTold ∈ am_gw := am_i4 130 rfl rfl
theorem wq_362 : Cond.instanceMethod yX3_valueTold ∈ am_gw := am_i4 132 rfl rfl
theorem wq_363 : Cond.selects RX3 yX3_valueTold yX3_valueTold ∈ am_gw := am_inS 24 rfl rfl
theorem wq_364 : am_code mX5_codeOfValue ∈ am_gw := am_i4 143 rfl rfl
theorem hy_X5_codeOfValue : yX5_codeOfValue.cls ≠ "java/lang/invoke/MethodHandle" ∧ yX5_codeOfValue.cls ≠ "java/lang/invoke/VarHandle" ∧ (parseMethodDescriptor yX5_codeOfValue.desc).map (fun d => d.parameters.length) = some 1 := ⟨by decide +kernel, by decide +kernel, by decide +kernel⟩
theorem wq_366 : Cond.methodLink RX3 91 yX5_codeOfValue ∈ am_gw := am_i4 141 rfl rfl
theorem wq_367 : Cond.static yX5_codeOfValue ∈ am_gw := am_i4 142 rfl rfl
theorem wq_368 : Cond.methodLink RX1 3 Lib.objectInit ∈ am_gw := am_i3 95 rfl rfl
theorem wq_369 : Cond.fieldLink RX1 9 (TX1 0).1 (TX1 0).2.1 (TX1 0).2.2.1 ∈ am_gw := am_i3 109 rfl rfl
set_option maxRecDepth 10000 in
theorem uq_1 : ∀ w ∈ u_ws RX1 TX1 7, w ∈ am_gw := List.forall_mem_cons.mpr ⟨am_i3 116 rfl rfl, List.forall_mem_cons.mpr ⟨am_i3 118 rfl rfl, List.forall_mem_cons.mpr ⟨am_i3 120 rfl rfl, List.forall_mem_cons.mpr ⟨am_i3 122 rfl rfl, List.forall_mem_cons.mpr ⟨am_i3 124 rfl rfl, List.forall_mem_cons.mpr ⟨am_i3 126 rfl rfl, List.forall_mem_cons.mpr ⟨am_i3 128 rfl rfl, fun _ h => absurd h List.not_mem_nil⟩⟩⟩⟩⟩⟩⟩
theorem dq_1 : ∀ k, k < 7 → defaultValue (am_ty 1 k) = if (am_ty 1 k).isReference then .null else .int 0 := by decide +kernel
theorem wq_370 : Cond.fieldLink RX1 15 (TX1 1).1 (TX1 1).2.1 (TX1 1).2.2.1 ∈ am_gw := am_i3 110 rfl rfl
theorem wq_371 : Cond.classLink RX1 19 "DrawerWall$RuleReader" ∈ am_gw := am_i3 96 rfl rfl
theorem wq_372 : Cond.instantiable RX3 2 ∈ am_gw := am_i3 97 rfl rfl
theorem wq_373 : Cond.fieldLink RX1 21 (TX0 9).1 (TX0 9).2.1 (TX0 9).2.2.1 ∈ am_gw := am_i1 184 rfl rfl
theorem wq_374 : am_code mX3_init ∈ am_gw := am_i3 100 rfl rfl
theorem hy_X3_init : yX3_init.cls ≠ "java/lang/invoke/MethodHandle" ∧ yX3_init.cls ≠ "java/lang/invoke/VarHandle" ∧ (parseMethodDescriptor yX3_init.desc).map (fun d => d.parameters.length) = some 2 := ⟨by decide +kernel, by decide +kernel, by decide +kernel⟩
theorem wq_376 : Cond.instanceMethod yX3_init ∈ am_gw := am_i3 99 rfl rfl
theorem wq_377 : Cond.methodLink RX1 27 yX3_init ∈ am_gw := am_i3 98 rfl rfl
theorem wq_378 : Cond.fieldLink RX1 30 (TX1 2).1 (TX1 2).2.1 (TX1 2).2.2.1 ∈ am_gw := am_i3 111 rfl rfl
theorem wq_379 : am_code mX0_clear ∈ am_gw := am_i3 138 rfl rfl
theorem hy_X0_clear : yX0_clear.cls ≠ "java/lang/invoke/MethodHandle" ∧ yX0_clear.cls ≠ "java/lang/invoke/VarHandle" ∧ (parseMethodDescriptor yX0_clear.desc).map (fun d => d.parameters.length) = some 0 := ⟨by decide +kernel, by decide +kernel, by decide +kernel⟩
theorem wq_381 : Cond.methodLink RX1 33 yX0_clear ∈ am_gw := am_i3 135 rfl rfl
theorem wq_382 : Cond.instanceMethod yX0_clear ∈ am_gw := am_i3 136 rfl rfl
theorem wq_383 : Cond.selects RX0 yX0_clear yX0_clear ∈ am_gw := am_i3 137 rfl rfl
theorem wq_384 : Cond.methodLink RX1 36 yX8_advance ∈ am_gw := am_i3 143 rfl rfl
theorem wq_385 : am_code mX8_isEnd ∈ am_gw := am_i3 236 rfl rfl
theorem hy_X8_isEnd : yX8_isEnd.cls ≠ "java/lang/invoke/MethodHandle" ∧ yX8_isEnd.cls ≠ "java/lang/invoke/VarHandle" ∧ (parseMethodDescriptor yX8_isEnd.desc).map (fun d => d.parameters.length) = some 0 := ⟨by decide +kernel, by decide +kernel, by decide +kernel⟩
theorem wq_387 : Cond.methodLink RX1 41 yX8_isEnd ∈ am_gw := am_i3 233 rfl rfl
theorem wq_388 : Cond.instanceMethod yX8_isEnd ∈ am_gw := am_i3 234 rfl rfl
theorem wq_389 : Cond.selects RX8 yX8_isEnd yX8_isEnd ∈ am_gw := am_i3 235 rfl rfl
theorem wq_390 : am_code mX1_readLine ∈ am_gw := am_i4 0 rfl rfl
theorem wq_391 : Cond.initialized RX1 ∈ am_gw := am_i1 15 rfl rfl
theorem hy_X1_readLine : yX1_readLine.cls ≠ "java/lang/invoke/MethodHandle" ∧ yX1_readLine.cls ≠ "java/lang/invoke/VarHandle" ∧ (parseMethodDescriptor yX1_readLine.desc).map (fun d => d.parameters.length) = some 1 := ⟨by decide +kernel, by decide +kernel, by decide +kernel⟩
theorem wq_393 : Cond.methodLink RX1 45 yX1_readLine ∈ am_gw := am_i3 237 rfl rfl
theorem wq_394 : Cond.instanceMethod yX1_readLine ∈ am_gw := am_i3 239 rfl rfl
theorem wq_395 : Cond.selects RX1 yX1_readLine yX1_readLine ∈ am_gw := am_inS 12 rfl rfl
theorem wq_396 : am_code mX1_readSign ∈ am_gw := am_i4 177 rfl rfl
theorem hy_X1_readSign : yX1_readSign.cls ≠ "java/lang/invoke/MethodHandle" ∧ yX1_readSign.cls ≠ "java/lang/invoke/VarHandle" ∧ (parseMethodDescriptor yX1_readSign.desc).map (fun d => d.parameters.length) = some 1 := ⟨by decide +kernel, by decide +kernel, by decide +kernel⟩
theorem wq_398 : Cond.methodLink RX1 49 yX1_readSign ∈ am_gw := am_i4 174 rfl rfl
theorem wq_399 : Cond.instanceMethod yX1_readSign ∈ am_gw := am_i4 176 rfl rfl
theorem wq_400 : Cond.selects RX1 yX1_readSign yX1_readSign ∈ am_gw := am_inS 30 rfl rfl
theorem wq_401 : Cond.methodLink RX1 53 yX0_settle ∈ am_gw := am_i4 179 rfl rfl
theorem wq_402 : am_code mX1_kindTold ∈ am_gw := am_i4 4 rfl rfl
theorem hy_X1_kindTold : yX1_kindTold.cls ≠ "java/lang/invoke/MethodHandle" ∧ yX1_kindTold.cls ≠ "java/lang/invoke/VarHandle" ∧ (parseMethodDescriptor yX1_kindTold.desc).map (fun d => d.parameters.length) = some 0 := ⟨by decide +kernel, by decide +kernel, by decide +kernel⟩
theorem wq_404 : Cond.methodLink RX1 56 yX1_kindTold ∈ am_gw := am_i4 1 rfl rfl
theorem wq_405 : Cond.instanceMethod yX1_kindTold ∈ am_gw := am_i4 3 rfl rfl
theorem wq_406 : Cond.selects RX1 yX1_kindTold yX1_kindTold ∈ am_gw := am_inS 13 rfl rfl
theorem wq_407 : am_code mX1_readDrawer ∈ am_gw := am_i4 37 rfl rfl
theorem hy_X1_readDrawer : yX1_readDrawer.cls ≠ "java/lang/invoke/MethodHandle" ∧ yX1_readDrawer.cls ≠ "java/lang/invoke/VarHandle" ∧ (parseMethodDescriptor yX1_readDrawer.desc).map (fun d => d.parameters.length) = some 1 := ⟨by decide +kernel, by decide +kernel, by decide +kernel⟩
theorem wq_409 : Cond.methodLink RX1 60 yX1_readDrawer ∈ am_gw := am_i4 34 rfl rfl
theorem wq_410 : Cond.instanceMethod yX1_readDrawer ∈ am_gw := am_i4 36 rfl rfl
theorem wq_411 : Cond.selects RX1 yX1_readDrawer yX1_readDrawer ∈ am_gw := am_inS 14 rfl rfl
theorem wq_412 : Cond.methodLink RX1 66 yX8_isWord ∈ am_gw := am_i4 6 rfl rfl
theorem wq_413 : am_code mX1_readPerson ∈ am_gw := am_i4 79 rfl rfl
theorem hy_X1_readPerson : yX1_readPerson.cls ≠ "java/lang/invoke/MethodHandle" ∧ yX1_readPerson.cls ≠ "java/lang/invoke/VarHandle" ∧ (parseMethodDescriptor yX1_readPerson.desc).map (fun d => d.parameters.length) = some 0 := ⟨by decide +kernel, by decide +kernel, by decide +kernel⟩
theorem wq_415 : Cond.methodLink RX1 70 yX1_readPerson ∈ am_gw := am_i4 76 rfl rfl
theorem wq_416 : Cond.instanceMethod yX1_readPerson ∈ am_gw := am_i4 78 rfl rfl
theorem wq_417 : Cond.selects RX1 yX1_readPerson yX1_readPerson ∈ am_gw := am_inS 18 rfl rfl
theorem wq_418 : am_code mX3_readRule ∈ am_gw := am_i4 94 rfl rfl
theorem hy_X3_readRule : yX3_readRule.cls ≠ "java/lang/invoke/MethodHandle" ∧ yX3_readRule.cls ≠ "java/lang/invoke/VarHandle" ∧ (parseMethodDescriptor yX3_readRule.desc).map (fun d => d.parameters.length) = some 0 := ⟨by decide +kernel, by decide +kernel, by decide +kernel⟩
theorem wq_420 : Cond.methodLink RX1 75 yX3_readRule ∈ am_gw := am_i4 91 rfl rfl
theorem wq_421 : Cond.instanceMethod yX3_readRule ∈ am_gw := am_i4 92 rfl rfl
theorem wq_422 : Cond.selects RX3 yX3_readRule yX3_readRule ∈ am_gw := am_i4 93 rfl rfl
theorem wq_423 : am_code mX1_readWall ∈ am_gw := am_i4 158 rfl rfl
theorem hy_X1_readWall : yX1_readWall.cls ≠ "java/lang/invoke/MethodHandle" ∧ yX1_readWall.cls ≠ "java/lang/invoke/VarHandle" ∧ (parseMethodDescriptor yX1_readWall.desc).map (fun d => d.parameters.length) = some 0 := ⟨by decide +kernel, by decide +kernel, by decide +kernel⟩
theorem wq_425 : Cond.methodLink RX1 80 yX1_readWall ∈ am_gw := am_i4 155 rfl rfl
theorem wq_426 : Cond.instanceMethod yX1_readWall ∈ am_gw := am_i4 157 rfl rfl
theorem wq_427 : Cond.selects RX1 yX1_readWall yX1_readWall ∈ am_gw := am_inS 26 rfl rfl
theorem wq_428 : Cond.methodLink RX1 83 yX8_refuse ∈ am_gw := am_i4 38 rfl rfl
theorem wq_429 : Cond.fieldLink RX1 88 (TX1 3).1 (TX1 3).2.1 (TX1 3).2.2.1 ∈ am_gw := am_i3 112 rfl rfl
theorem wq_430 : am_code mX1_readReach ∈ am_gw := am_i4 163 rfl rfl
theorem hy_X1_readReach : yX1_readReach.cls ≠ "java/lang/invoke/MethodHandle" ∧ yX1_readReach.cls ≠ "java/lang/invoke/VarHandle" ∧ (parseMethodDescriptor yX1_readReach.desc).map (fun d => d.parameters.length) = some 0 := ⟨by decide +kernel, by decide +kernel, by decide +kernel⟩
theorem wq_432 : Cond.methodLink RX1 92 yX1_readReach ∈ am_gw := am_i4 160 rfl rfl
theorem wq_433 : Cond.instanceMethod yX1_readReach ∈ am_gw := am_i4 162 rfl rfl
theorem wq_434 : Cond.selects RX1 yX1_readReach yX1_readReach ∈ am_gw := am_inS 27 rfl rfl
theorem wq_435 : Cond.fieldLink RX1 97 (TX1 4).1 (TX1 4).2.1 (TX1 4).2.2.1 ∈ am_gw := am_i3 113 rfl rfl
theorem wq_436 : am_code mX1_readRent ∈ am_gw := am_i4 168 rfl rfl
theorem hy_X1_readRent : yX1_readRent.cls ≠ "java/lang/invoke/MethodHandle" ∧ yX1_readRent.cls ≠ "java/lang/invoke/VarHandle" ∧ (parseMethodDescriptor yX1_readRent.desc).map (fun d => d.parameters.length) = some 0 := ⟨by decide +kernel, by decide +kernel, by decide +kernel⟩
theorem wq_438 : Cond.methodLink RX1 100 yX1_readRent ∈ am_gw := am_i4 165 rfl rfl
theorem wq_439 : Cond.instanceMethod yX1_readRent ∈ am_gw := am_i4 167 rfl rfl
theorem wq_440 : Cond.selects RX1 yX1_readRent yX1_readRent ∈ am_gw := am_inS 28 rfl rfl
theorem wq_441 : Cond.fieldLink RX1 105 (TX1 5).1 (TX1 5).2.1 (TX1 5).2.2.1 ∈ am_gw := am_i3 114 rfl rfl
theorem wq_442 : am_code mX1_readWind ∈ am_gw := am_i4 173 rfl rfl
theorem hy_X1_readWind : yX1_readWind.cls ≠ "java/lang/invoke/MethodHandle" ∧ yX1_readWind.cls ≠ "java/lang/invoke/VarHandle" ∧ (parseMethodDescriptor yX1_readWind.desc).map (fun d => d.parameters.length) = some 0 := ⟨by decide +kernel, by decide +kernel, by decide +kernel⟩
theorem wq_444 : Cond.methodLink RX1 108 yX1_readWind ∈ am_gw := am_i4 170 rfl rfl
theorem wq_445 : Cond.instanceMethod yX1_readWind ∈ am_gw := am_i4 172 rfl rfl
theorem wq_446 : Cond.selects RX1 yX1_readWind yX1_readWind ∈ am_gw := am_inS 29 rfl rfl
theorem wq_447 : Cond.methodLink RX1 119 yX8_isSign ∈ am_gw := am_i4 178 rfl rfl
theorem wq_448 : Cond.methodLink RX1 122 yX8_isNumber ∈ am_gw := am_i4 50 rfl rfl
theorem wq_449 : Cond.methodLink RX1 125 yX8_isTooLong ∈ am_gw := am_i4 54 rfl rfl
theorem wq_450 : Cond.methodLink RX1 128 yX8_number ∈ am_gw := am_i4 58 rfl rfl
theorem wq_451 : Cond.fieldLink RX1 131 (TX1 6).1 (TX1 6).2.1 (TX1 6).2.2.1 ∈ am_gw := am_i3 115 rfl rfl
theorem wq_452 : am_code mX1_seeNumber ∈ am_gw := am_i4 49 rfl rfl
theorem hy_X1_seeNumber : yX1_seeNumber.cls ≠ "java/lang/invoke/MethodHandle" ∧ yX1_seeNumber.cls ≠ "java/lang/invoke/VarHandle" ∧ (parseMethodDescriptor yX1_seeNumber.desc).map (fun d => d.parameters.length) = some 2 := ⟨by decide +kernel, by decide +kernel, by decide +kernel⟩
theorem wq_454 : Cond.methodLink RX1 134 yX1_seeNumber ∈ am_gw := am_i4 46 rfl rfl
theorem wq_455 : Cond.instanceMethod yX1_seeNumber ∈ am_gw := am_i4 48 rfl rfl
theorem wq_456 : Cond.selects RX1 yX1_seeNumber yX1_seeNumber ∈ am_gw := am_inS 16 rfl rfl
theorem wq_457 : am_code mX1_readNumber ∈ am_gw := am_i4 45 rfl rfl
theorem hy_X1_readNumber : yX1_readNumber.cls ≠ "java/lang/invoke/MethodHandle" ∧ yX1_readNumber.cls ≠ "java/lang/invoke/VarHandle" ∧ (parseMethodDescriptor yX1_readNumber.desc).map (fun d => d.parameters.length) = some 2 := ⟨by decide +kernel, by decide +kernel, by decide +kernel⟩
theorem wq_459 : Cond.methodLink RX1 138 yX1_readNumber ∈ am_gw := am_i4 42 rfl rfl
theorem wq_460 : Cond.instanceMethod yX1_readNumber ∈ am_gw := am_i4 44 rfl rfl
theorem wq_461 : Cond.selects RX1 yX1_readNumber yX1_readNumber ∈ am_gw := am_inS 15 rfl rfl
theorem wq_462 : Cond.fieldLink RX1 141 (TX0 0).1 (TX0 0).2.1 (TX0 0).2.2.1 ∈ am_gw := am_i1 160 rfl rfl
theorem wq_463 : Cond.fieldLink RX1 144 (TX0 1).1 (TX0 1).2.1 (TX0 1).2.2.1 ∈ am_gw := am_i1 163 rfl rfl
theorem wq_464 : Cond.fieldLink RX1 147 (TX0 2).1 (TX0 2).2.1 (TX0 2).2.2.1 ∈ am_gw := am_i1 166 rfl rfl
theorem wq_465 : Cond.fieldLink RX1 149 (TX0 3).1 (TX0 3).2.1 (TX0 3).2.2.1 ∈ am_gw := am_i1 168 rfl rfl
theorem wq_466 : Cond.fieldLink RX1 152 (TX0 4).1 (TX0 4).2.1 (TX0 4).2.2.1 ∈ am_gw := am_i1 170 rfl rfl
theorem wq_467 : Cond.fieldLink RX1 155 (TX0 5).1 (TX0 5).2.1 (TX0 5).2.2.1 ∈ am_gw := am_i1 172 rfl rfl
theorem wq_468 : Cond.fieldLink RX1 158 (TX0 6).1 (TX0 6).2.1 (TX0 6).2.2.1 ∈ am_gw := am_i1 174 rfl rfl
theorem wq_469 : Cond.fieldLink RX1 161 (TX0 7).1 (TX0 7).2.1 (TX0 7).2.2.1 ∈ am_gw := am_i1 179 rfl rfl
theorem wq_470 : Cond.fieldLink RX1 165 (TX2 0).1 (TX2 0).2.1 (TX2 0).2.2.1 ∈ am_gw := am_i1 50 rfl rfl
theorem wq_471 : am_code mX2_isTaken ∈ am_gw := am_i4 65 rfl rfl
theorem hy_X2_isTaken : yX2_isTaken.cls ≠ "java/lang/invoke/MethodHandle" ∧ yX2_isTaken.cls ≠ "java/lang/invoke/VarHandle" ∧ (parseMethodDescriptor yX2_isTaken.desc).map (fun d => d.parameters.length) = some 2 := ⟨by decide +kernel, by decide +kernel, by decide +kernel⟩
theorem wq_473 : Cond.methodLink RX1 170 yX2_isTaken ∈ am_gw := am_i4 62 rfl rfl
theorem wq_474 : Cond.instanceMethod yX2_isTaken ∈ am_gw := am_i4 63 rfl rfl
theorem wq_475 : Cond.selects RX2 yX2_isTaken yX2_isTaken ∈ am_gw := am_i4 64 rfl rfl
theorem wq_476 : am_code mX2_add ∈ am_gw := am_i4 69 rfl rfl
theorem hy_X2_add : yX2_add.cls ≠ "java/lang/invoke/MethodHandle" ∧ yX2_add.cls ≠ "java/lang/invoke/VarHandle" ∧ (parseMethodDescriptor yX2_add.desc).map (fun d => d.parameters.length) = some 4 := ⟨by decide +kernel, by decide +kernel, by decide +kernel⟩
theorem wq_478 : Cond.methodLink RX1 173 yX2_add ∈ am_gw := am_i4 66 rfl rfl
theorem wq_479 : Cond.instanceMethod yX2_add ∈ am_gw := am_i4 67 rfl rfl
theorem wq_480 : Cond.selects RX2 yX2_add yX2_add ∈ am_gw := am_i4 68 rfl rfl
theorem wq_481 : am_code mX1_readWide ∈ am_gw := am_i4 74 rfl rfl
theorem hy_X1_readWide : yX1_readWide.cls ≠ "java/lang/invoke/MethodHandle" ∧ yX1_readWide.cls ≠ "java/lang/invoke/VarHandle" ∧ (parseMethodDescriptor yX1_readWide.desc).map (fun d => d.parameters.length) = some 1 := ⟨by decide +kernel, by decide +kernel, by decide +kernel⟩
theorem wq_483 : Cond.methodLink RX1 179 yX1_readWide ∈ am_gw := am_i4 71 rfl rfl
theorem wq_484 : Cond.instanceMethod yX1_readWide ∈ am_gw := am_i4 73 rfl rfl
theorem wq_485 : Cond.selects RX1 yX1_readWide yX1_readWide ∈ am_gw := am_inS 17 rfl rfl
theorem wq_486 : Cond.fieldLink RX1 182 (TX2 2).1 (TX2 2).2.1 (TX2 2).2.2.1 ∈ am_gw := am_i1 58 rfl rfl
theorem wq_487 : Cond.fieldLink RX1 186 (TX2 4).1 (TX2 4).2.1 (TX2 4).2.2.1 ∈ am_gw := am_i1 65 rfl rfl
theorem wq_488 : Cond.fieldLink RX1 189 (TX2 3).1 (TX2 3).2.1 (TX2 3).2.2.1 ∈ am_gw := am_i1 61 rfl rfl
theorem wq_489 : Cond.fieldLink RX1 192 (TX2 1).1 (TX2 1).2.1 (TX2 1).2.2.1 ∈ am_gw := am_i1 54 rfl rfl
theorem wq_490 : Cond.fieldLink RX1 195 (TX0 8).1 (TX0 8).2.1 (TX0 8).2.2.1 ∈ am_gw := am_i1 183 rfl rfl
theorem wq_491 : Cond.fieldLink RX1 199 (TX4 0).1 (TX4 0).2.1 (TX4 0).2.2.1 ∈ am_gw := am_i1 114 rfl rfl
theorem wq_492 : am_code mX1_readDrawerOf ∈ am_gw := am_i4 83 rfl rfl
theorem hy_X1_readDrawerOf : yX1_readDrawerOf.cls ≠ "java/lang/invoke/MethodHandle" ∧ yX1_readDrawerOf.cls ≠ "java/lang/invoke/VarHandle" ∧ (parseMethodDescriptor yX1_readDrawerOf.desc).map (fun d => d.parameters.length) = some 1 := ⟨by decide +kernel, by decide +kernel, by decide +kernel⟩
theorem wq_494 : Cond.methodLink RX1 202 yX1_readDrawerOf ∈ am_gw := am_i4 80 rfl rfl
theorem wq_495 : Cond.instanceMethod yX1_readDrawerOf ∈ am_gw := am_i4 82 rfl rfl
theorem wq_496 : Cond.selects RX1 yX1_readDrawerOf yX1_readDrawerOf ∈ am_gw := am_inS 19 rfl rfl
theorem wq_497 : am_code mX4_add ∈ am_gw := am_i4 87 rfl rfl
theorem hy_X4_add : yX4_add.cls ≠ "java/lang/invoke/MethodHandle" ∧ yX4_add.cls ≠ "java/lang/invoke/VarHandle" ∧ (parseMethodDescriptor yX4_add.desc).map (fun d => d.parameters.length) = some 1 := ⟨by decide +kernel, by decide +kernel, by decide +kernel⟩
theorem wq_499 : Cond.methodLink RX1 205 yX4_add ∈ am_gw := am_i4 84 rfl rfl
theorem wq_500 : Cond.instanceMethod yX4_add ∈ am_gw := am_i4 85 rfl rfl
theorem wq_501 : Cond.selects RX4 yX4_add yX4_add ∈ am_gw := am_i4 86 rfl rfl
theorem wq_502 : Cond.fieldLink RX1 210 (TX4 2).1 (TX4 2).2.1 (TX4 2).2.2.1 ∈ am_gw := am_i1 120 rfl rfl
theorem wq_503 : Cond.fieldLink RX1 214 (TX4 3).1 (TX4 3).2.1 (TX4 3).2.2.1 ∈ am_gw := am_i1 123 rfl rfl
theorem wq_504 : Cond.methodLink RX6 5 Lib.objectInit ∈ am_gw := am_i2 20 rfl rfl
theorem wq_505 : Cond.fieldLink RX6 11 (TX6 0).1 (TX6 0).2.1 (TX6 0).2.2.1 ∈ am_gw := am_i2 21 rfl rfl
set_option maxRecDepth 10000 in
theorem uq_6 : ∀ w ∈ u_ws RX6 TX6 4, w ∈ am_gw := List.forall_mem_cons.mpr ⟨am_i2 25 rfl rfl, List.forall_mem_cons.mpr ⟨am_i2 27 rfl rfl, List.forall_mem_cons.mpr ⟨am_i2 29 rfl rfl, List.forall_mem_cons.mpr ⟨am_i2 31 rfl rfl, fun _ h => absurd h List.not_mem_nil⟩⟩⟩⟩
theorem dq_6 : ∀ k, k < 4 → defaultValue (am_ty 6 k) = if (am_ty 6 k).isReference then .null else .int 0 := by decide +kernel
theorem wq_506 : Cond.fieldLink RX6 15 (TX6 1).1 (TX6 1).2.1 (TX6 1).2.2.1 ∈ am_gw := am_i2 22 rfl rfl
theorem wq_507 : Cond.fieldLink RX6 18 (TX0 7).1 (TX0 7).2.1 (TX0 7).2.2.1 ∈ am_gw := am_i1 177 rfl rfl
theorem wq_508 : Cond.fieldLink RX6 24 (TX2 0).1 (TX2 0).2.1 (TX2 0).2.2.1 ∈ am_gw := am_i1 47 rfl rfl
theorem wq_509 : am_code mX2_all ∈ am_gw := am_i2 172 rfl rfl
theorem hy_X2_all : yX2_all.cls ≠ "java/lang/invoke/MethodHandle" ∧ yX2_all.cls ≠ "java/lang/invoke/VarHandle" ∧ (parseMethodDescriptor yX2_all.desc).map (fun d => d.parameters.length) = some 0 := ⟨by decide +kernel, by decide +kernel, by decide +kernel⟩
theorem wq_511 : Cond.methodLink RX6 30 yX2_all ∈ am_gw := am_i2 169 rfl rfl
theorem wq_512 : Cond.instanceMethod yX2_all ∈ am_gw := am_i2 170 rfl rfl
theorem wq_513 : Cond.selects RX2 yX2_all yX2_all ∈ am_gw := am_i2 171 rfl rfl
theorem wq_514 : Cond.fieldLink RX6 34 (TX6 3).1 (TX6 3).2.1 (TX6 3).2.2.1 ∈ am_gw := am_i2 24 rfl rfl
theorem wq_515 : Cond.fieldLink RX6 37 (TX0 8).1 (TX0 8).2.1 (TX0 8).2.2.1 ∈ am_gw := am_i1 181 rfl rfl
theorem wq_516 : Cond.fieldLink RX6 41 (TX4 0).1 (TX4 0).2.1 (TX4 0).2.2.1 ∈ am_gw := am_i1 112 rfl rfl
theorem wq_517 : am_code mX6_begin ∈ am_gw := am_i2 176 rfl rfl
theorem wq_518 : Cond.initialized RX6 ∈ am_gw := am_i1 7 rfl rfl
theorem hy_X6_begin : yX6_begin.cls ≠ "java/lang/invoke/MethodHandle" ∧ yX6_begin.cls ≠ "java/lang/invoke/VarHandle" ∧ (parseMethodDescriptor yX6_begin.desc).map (fun d => d.parameters.length) = some 1 := ⟨by decide +kernel, by decide +kernel, by decide +kernel⟩
theorem wq_520 : Cond.methodLink RX6 44 yX6_begin ∈ am_gw := am_i2 173 rfl rfl
theorem wq_521 : Cond.instanceMethod yX6_begin ∈ am_gw := am_i2 175 rfl rfl
theorem wq_522 : Cond.selects RX6 yX6_begin yX6_begin ∈ am_gw := am_inS 8 rfl rfl
theorem wq_523 : am_code mX6_note ∈ am_gw := am_i2 186 rfl rfl
theorem hy_X6_note : yX6_note.cls ≠ "java/lang/invoke/MethodHandle" ∧ yX6_note.cls ≠ "java/lang/invoke/VarHandle" ∧ (parseMethodDescriptor yX6_note.desc).map (fun d => d.parameters.length) = some 2 := ⟨by decide +kernel, by decide +kernel, by decide +kernel⟩
theorem wq_525 : Cond.methodLink RX6 48 yX6_note ∈ am_gw := am_i2 183 rfl rfl
theorem wq_526 : Cond.instanceMethod yX6_note ∈ am_gw := am_i2 185 rfl rfl
theorem wq_527 : Cond.selects RX6 yX6_note yX6_note ∈ am_gw := am_inS 9 rfl rfl
theorem wq_528 : Cond.fieldLink RX6 52 (TX6 2).1 (TX6 2).2.1 (TX6 2).2.2.1 ∈ am_gw := am_i2 23 rfl rfl
theorem wq_529 : am_code mX0_reachedBy ∈ am_gw := am_i2 95 rfl rfl
theorem hy_X0_reachedBy : yX0_reachedBy.cls ≠ "java/lang/invoke/MethodHandle" ∧ yX0_reachedBy.cls ≠ "java/lang/invoke/VarHandle" ∧ (parseMethodDescriptor yX0_reachedBy.desc).map (fun d => d.parameters.length) = some 1 := ⟨by decide +kernel, by decide +kernel, by decide +kernel⟩
theorem wq_531 : Cond.methodLink RX6 53 yX0_reachedBy ∈ am_gw := am_i2 187 rfl rfl
theorem wq_532 : Cond.instanceMethod yX0_reachedBy ∈ am_gw := am_i2 93 rfl rfl
theorem wq_533 : Cond.selects RX0 yX0_reachedBy yX0_reachedBy ∈ am_gw := am_i2 94 rfl rfl
theorem wq_534 : am_code mX0_canBe ∈ am_gw := am_i2 136 rfl rfl
theorem hy_X0_canBe : yX0_canBe.cls ≠ "java/lang/invoke/MethodHandle" ∧ yX0_canBe.cls ≠ "java/lang/invoke/VarHandle" ∧ (parseMethodDescriptor yX0_canBe.desc).map (fun d => d.parameters.length) = some 1 := ⟨by decide +kernel, by decide +kernel, by decide +kernel⟩
theorem wq_536 : Cond.methodLink RX6 57 yX0_canBe ∈ am_gw := am_i2 188 rfl rfl
theorem wq_537 : Cond.instanceMethod yX0_canBe ∈ am_gw := am_i2 134 rfl rfl
theorem wq_538 : Cond.selects RX0 yX0_canBe yX0_canBe ∈ am_gw := am_i2 135 rfl rfl
theorem wq_539 : am_code mX0_fedBy ∈ am_gw := am_i2 140 rfl rfl
theorem hy_X0_fedBy : yX0_fedBy.cls ≠ "java/lang/invoke/MethodHandle" ∧ yX0_fedBy.cls ≠ "java/lang/invoke/VarHandle" ∧ (parseMethodDescriptor yX0_fedBy.desc).map (fun d => d.parameters.length) = some 1 := ⟨by decide +kernel, by decide +kernel, by decide +kernel⟩
theorem wq_541 : Cond.methodLink RX6 61 yX0_fedBy ∈ am_gw := am_i2 189 rfl rfl
theorem wq_542 : Cond.instanceMethod yX0_fedBy ∈ am_gw := am_i2 138 rfl rfl
theorem wq_543 : Cond.selects RX0 yX0_fedBy yX0_fedBy ∈ am_gw := am_i2 139 rfl rfl
theorem wq_544 : am_code mX6_seek ∈ am_gw := am_i2 168 rfl rfl
theorem hy_X6_seek : yX6_seek.cls ≠ "java/lang/invoke/MethodHandle" ∧ yX6_seek.cls ≠ "java/lang/invoke/VarHandle" ∧ (parseMethodDescriptor yX6_seek.desc).map (fun d => d.parameters.length) = some 5 := ⟨by decide +kernel, by decide +kernel, by decide +kernel⟩
theorem wq_546 : Cond.methodLink RX6 64 yX6_seek ∈ am_gw := am_i5 85 rfl rfl
theorem wq_547 : Cond.instanceMethod yX6_seek ∈ am_gw := am_i2 166 rfl rfl
theorem wq_548 : Cond.selects RX6 yX6_seek yX6_seek ∈ am_gw := am_i2 167 rfl rfl
theorem wq_549 : Cond.methodLink RX6 68 yJ9_max_7cf53 ∈ am_gw := am_i2 177 rfl rfl
theorem wq_550 : Cond.methodLink RX6 74 yJ9_min_7cf53 ∈ am_gw := am_i2 180 rfl rfl
theorem wq_551 : Cond.methodLink RX6 77 yJ6_bitCount_0f7a4 ∈ am_gw := am_i2 202 rfl rfl
theorem wq_552 : Cond.methodLink RX9 3 Lib.objectInit ∈ am_gw := am_i1 31 rfl rfl
theorem wq_553 : Cond.arrayClass .byte ∈ am_gw := am_i1 102 rfl rfl
theorem wq_554 : Cond.fieldLink RX9 9 (TX9 0).1 (TX9 0).2.1 (TX9 0).2.2.1 ∈ am_gw := am_i2 34 rfl rfl
set_option maxRecDepth 10000 in
theorem uq_9 : ∀ w ∈ u_ws RX9 TX9 11, w ∈ am_gw := List.forall_mem_cons.mpr ⟨am_i2 45 rfl rfl, List.forall_mem_cons.mpr ⟨am_i2 47 rfl rfl, List.forall_mem_cons.mpr ⟨am_i2 49 rfl rfl, List.forall_mem_cons.mpr ⟨am_i2 51 rfl rfl, List.forall_mem_cons.mpr ⟨am_i2 53 rfl rfl, List.forall_mem_cons.mpr ⟨am_i2 55 rfl rfl, List.forall_mem_cons.mpr ⟨am_i2 57 rfl rfl, List.forall_mem_cons.mpr ⟨am_i2 59 rfl rfl, List.forall_mem_cons.mpr ⟨am_i2 61 rfl rfl, List.forall_mem_cons.mpr ⟨am_i2 63 rfl rfl, List.forall_mem_cons.mpr ⟨am_i2 65 rfl rfl, fun _ h => absurd h List.not_mem_nil⟩⟩⟩⟩⟩⟩⟩⟩⟩⟩⟩
theorem dq_9 : ∀ k, k < 11 → defaultValue (am_ty 9 k) = if (am_ty 9 k).isReference then .null else .int 0 := by decide +kernel
theorem wq_555 : Cond.fieldLink RX9 13 (TX9 2).1 (TX9 2).2.1 (TX9 2).2.2.1 ∈ am_gw := am_i2 36 rfl rfl
theorem wq_556 : Cond.classLink RX9 17 "DrawerWall$City" ∈ am_gw := am_i1 34 rfl rfl
theorem wq_557 : Cond.instantiable RX0 12 ∈ am_gw := am_i1 35 rfl rfl
theorem wq_558 : am_code mX0_init ∈ am_gw := am_i1 38 rfl rfl
theorem hy_X0_init : yX0_init.cls ≠ "java/lang/invoke/MethodHandle" ∧ yX0_init.cls ≠ "java/lang/invoke/VarHandle" ∧ (parseMethodDescriptor yX0_init.desc).map (fun d => d.parameters.length) = some 0 := ⟨by decide +kernel, by decide +kernel, by decide +kernel⟩
theorem wq_560 : Cond.instanceMethod yX0_init ∈ am_gw := am_i1 37 rfl rfl
theorem wq_561 : Cond.fieldLink RX9 20 (TX9 3).1 (TX9 3).2.1 (TX9 3).2.2.1 ∈ am_gw := am_i2 37 rfl rfl
theorem wq_562 : Cond.fieldLink RX9 24 (TX9 4).1 (TX9 4).2.1 (TX9 4).2.2.1 ∈ am_gw := am_i2 38 rfl rfl
theorem wq_563 : Cond.classLink RX9 27 "DrawerWall$State" ∈ am_gw := am_i1 214 rfl rfl
theorem wq_564 : Cond.instantiable RX7 9 ∈ am_gw := am_i1 215 rfl rfl
theorem wq_565 : Cond.initialized RX7 ∈ am_gw := am_i1 6 rfl rfl
theorem wq_566 : am_code mX7_init ∈ am_gw := am_i1 218 rfl rfl
theorem hy_X7_init : yX7_init.cls ≠ "java/lang/invoke/MethodHandle" ∧ yX7_init.cls ≠ "java/lang/invoke/VarHandle" ∧ (parseMethodDescriptor yX7_init.desc).map (fun d => d.parameters.length) = some 0 := ⟨by decide +kernel, by decide +kernel, by decide +kernel⟩
theorem wq_568 : Cond.instanceMethod yX7_init ∈ am_gw := am_i1 217 rfl rfl
theorem wq_569 : Cond.fieldLink RX9 30 (TX9 5).1 (TX9 5).2.1 (TX9 5).2.2.1 ∈ am_gw := am_i2 39 rfl rfl
theorem wq_570 : Cond.fieldLink RX9 34 (TX9 6).1 (TX9 6).2.1 (TX9 6).2.2.1 ∈ am_gw := am_i2 40 rfl rfl
theorem wq_571 : Cond.classLink RX9 37 "DrawerWall$Search" ∈ am_gw := am_i2 15 rfl rfl
theorem wq_572 : Cond.instantiable RX6 4 ∈ am_gw := am_i2 16 rfl rfl
theorem wq_573 : am_code mX6_init ∈ am_gw := am_i2 19 rfl rfl
theorem hy_X6_init : yX6_init.cls ≠ "java/lang/invoke/MethodHandle" ∧ yX6_init.cls ≠ "java/lang/invoke/VarHandle" ∧ (parseMethodDescriptor yX6_init.desc).map (fun d => d.parameters.length) = some 0 := ⟨by decide +kernel, by decide +kernel, by decide +kernel⟩
theorem wq_575 : Cond.instanceMethod yX6_init ∈ am_gw := am_i2 18 rfl rfl
theorem wq_576 : Cond.fieldLink RX9 40 (TX9 8).1 (TX9 8).2.1 (TX9 8).2.2.1 ∈ am_gw := am_i2 42 rfl rfl
theorem wq_577 : Cond.fieldLink RX9 44 (TX9 9).1 (TX9 9).2.1 (TX9 9).2.2.1 ∈ am_gw := am_i2 43 rfl rfl
theorem wq_578 : Cond.fieldLink RX9 48 (TX9 10).1 (TX9 10).2.1 (TX9 10).2.2.1 ∈ am_gw := am_i2 44 rfl rfl
theorem wq_579 : Cond.fieldLink RX9 51 (TX9 1).1 (TX9 1).2.1 (TX9 1).2.2.1 ∈ am_gw := am_i2 35 rfl rfl
theorem wq_580 : am_code mX9_append ∈ am_gw := am_i2 75 rfl rfl
theorem wq_581 : Cond.initialized RX9 ∈ am_gw := am_i1 1 rfl rfl
theorem hy_X9_append : yX9_append.cls ≠ "java/lang/invoke/MethodHandle" ∧ yX9_append.cls ≠ "java/lang/invoke/VarHandle" ∧ (parseMethodDescriptor yX9_append.desc).map (fun d => d.parameters.length) = some 1 := ⟨by decide +kernel, by decide +kernel, by decide +kernel⟩
theorem wq_583 : Cond.methodLink RX9 54 yX9_append ∈ am_gw := am_i2 72 rfl rfl
theorem wq_584 : Cond.instanceMethod yX9_append ∈ am_gw := am_i2 74 rfl rfl
theorem wq_585 : Cond.selects RX9 yX9_append yX9_append ∈ am_gw := am_inS 0 rfl rfl
theorem wq_586 : Cond.classLink RX9 58 "java/lang/IllegalArgumentException" ∈ am_gw := am_i2 238 rfl rfl
theorem wq_587 : Cond.initialized "java/lang/IllegalArgumentException" ∈ am_gw := am_i1 12 rfl rfl
theorem wq_588 : ∀ w ∈ vx_atS RX9 62 "java/lang/IllegalArgumentException" ["java/lang/RuntimeException", "java/lang/Exception"], w ∈ am_gw := fun w hw => am_inT (of_decide_eq_true (List.all_eq_true.mp (show (vx_atS RX9 62 "java/lang/IllegalArgumentException" ["java/lang/RuntimeException", "java/lang/Exception"]).all (fun w => decide (w ∈ tables_1)) = true by decide +kernel) w hw)) (List.all_eq_true.mp (show (vx_atS RX9 62 "java/lang/IllegalArgumentException" ["java/lang/RuntimeException", "java/lang/Exception"]).all am_good = true by decide +kernel) w hw)
theorem wq_588_g : ∀ w ∈ Cond.classLink RX9 58 "java/lang/IllegalArgumentException" :: Cond.initialized "java/lang/IllegalArgumentException" :: vx_atS RX9 62 "java/lang/IllegalArgumentException" ["java/lang/RuntimeException", "java/lang/Exception"], vx_ot w = true := List.all_eq_true.mp (by decide +kernel)
theorem wq_589 : Cond.classLink RX9 65 "DrawerWall$Tokens" ∈ am_gw := am_i3 64 rfl rfl
theorem wq_590 : Cond.instantiable RX8 6 ∈ am_gw := am_i3 65 rfl rfl
theorem wq_591 : am_code mX8_init ∈ am_gw := am_i3 68 rfl rfl
theorem hy_X8_init : yX8_init.cls ≠ "java/lang/invoke/MethodHandle" ∧ yX8_init.cls ≠ "java/lang/invoke/VarHandle" ∧ (parseMethodDescriptor yX8_init.desc).map (fun d => d.parameters.length) = some 2 := ⟨by decide +kernel, by decide +kernel, by decide +kernel⟩
theorem wq_593 : Cond.instanceMethod yX8_init ∈ am_gw := am_i3 67 rfl rfl
theorem wq_594 : Cond.methodLink RX9 67 yX8_init ∈ am_gw := am_i3 66 rfl rfl
theorem wq_595 : Cond.classLink RX9 70 "DrawerWall$CityReader" ∈ am_gw := am_i3 90 rfl rfl
theorem wq_596 : Cond.instantiable RX1 7 ∈ am_gw := am_i3 91 rfl rfl
theorem wq_597 : am_code mX1_init ∈ am_gw := am_i3 94 rfl rfl
theorem hy_X1_init : yX1_init.cls ≠ "java/lang/invoke/MethodHandle" ∧ yX1_init.cls ≠ "java/lang/invoke/VarHandle" ∧ (parseMethodDescriptor yX1_init.desc).map (fun d => d.parameters.length) = some 2 := ⟨by decide +kernel, by decide +kernel, by decide +kernel⟩
theorem wq_599 : Cond.instanceMethod yX1_init ∈ am_gw := am_i3 93 rfl rfl
theorem wq_600 : Cond.methodLink RX9 72 yX1_init ∈ am_gw := am_i3 92 rfl rfl
theorem wq_601 : am_code mX1_readCity ∈ am_gw := am_i3 134 rfl rfl
theorem hy_X1_readCity : yX1_readCity.cls ≠ "java/lang/invoke/MethodHandle" ∧ yX1_readCity.cls ≠ "java/lang/invoke/VarHandle" ∧ (parseMethodDescriptor yX1_readCity.desc).map (fun d => d.parameters.length) = some 0 := ⟨by decide +kernel, by decide +kernel, by decide +kernel⟩
theorem wq_603 : Cond.methodLink RX9 75 yX1_readCity ∈ am_gw := am_i3 131 rfl rfl
theorem wq_604 : Cond.instanceMethod yX1_readCity ∈ am_gw := am_i3 132 rfl rfl
theorem wq_605 : Cond.selects RX1 yX1_readCity yX1_readCity ∈ am_gw := am_i3 133 rfl rfl
theorem wq_606 : am_code mX8_place ∈ am_gw := am_i4 202 rfl rfl
theorem hy_X8_place : yX8_place.cls ≠ "java/lang/invoke/MethodHandle" ∧ yX8_place.cls ≠ "java/lang/invoke/VarHandle" ∧ (parseMethodDescriptor yX8_place.desc).map (fun d => d.parameters.length) = some 0 := ⟨by decide +kernel, by decide +kernel, by decide +kernel⟩
theorem wq_608 : Cond.methodLink RX9 79 yX8_place ∈ am_gw := am_i4 199 rfl rfl
theorem wq_609 : Cond.instanceMethod yX8_place ∈ am_gw := am_i4 200 rfl rfl
theorem wq_610 : Cond.selects RX8 yX8_place yX8_place ∈ am_gw := am_i4 201 rfl rfl
theorem wq_611 : Cond.fieldLink RX9 83 (TX7 4).1 (TX7 4).2.1 (TX7 4).2.2.1 ∈ am_gw := am_i1 229 rfl rfl
theorem wq_612 : am_code mX8_refusal ∈ am_gw := am_i4 206 rfl rfl
theorem hy_X8_refusal : yX8_refusal.cls ≠ "java/lang/invoke/MethodHandle" ∧ yX8_refusal.cls ≠ "java/lang/invoke/VarHandle" ∧ (parseMethodDescriptor yX8_refusal.desc).map (fun d => d.parameters.length) = some 0 := ⟨by decide +kernel, by decide +kernel, by decide +kernel⟩
theorem wq_614 : Cond.methodLink RX9 86 yX8_refusal ∈ am_gw := am_i4 203 rfl rfl
theorem wq_615 : Cond.instanceMethod yX8_refusal ∈ am_gw := am_i4 204 rfl rfl
theorem wq_616 : Cond.selects RX8 yX8_refusal yX8_refusal ∈ am_gw := am_i4 205 rfl rfl
theorem wq_617 : am_code mX7_startAnew ∈ am_gw := am_i4 210 rfl rfl
theorem hy_X7_startAnew : yX7_startAnew.cls ≠ "java/lang/invoke/MethodHandle" ∧ yX7_startAnew.cls ≠ "java/lang/invoke/VarHandle" ∧ (parseMethodDescriptor yX7_startAnew.desc).map (fun d => d.parameters.length) = some 0 := ⟨by decide +kernel, by decide +kernel, by decide +kernel⟩
theorem wq_619 : Cond.methodLink RX9 89 yX7_startAnew ∈ am_gw := am_i4 207 rfl rfl
theorem wq_620 : Cond.instanceMethod yX7_startAnew ∈ am_gw := am_i4 208 rfl rfl
theorem wq_621 : Cond.selects RX7 yX7_startAnew yX7_startAnew ∈ am_gw := am_i4 209 rfl rfl
theorem wq_622 : Cond.fieldLink RX9 92 (TX9 7).1 (TX9 7).2.1 (TX9 7).2.2.1 ∈ am_gw := am_i2 41 rfl rfl
theorem wq_623 : Cond.fieldLink RX9 96 (TX0 0).1 (TX0 0).2.1 (TX0 0).2.2.1 ∈ am_gw := am_i1 159 rfl rfl
theorem wq_624 : Cond.fieldLink RX9 99 (TX0 1).1 (TX0 1).2.1 (TX0 1).2.2.1 ∈ am_gw := am_i1 162 rfl rfl
theorem wq_625 : Cond.fieldLink RX9 102 (TX0 7).1 (TX0 7).2.1 (TX0 7).2.2.1 ∈ am_gw := am_i1 178 rfl rfl
theorem wq_626 : Cond.fieldLink RX9 106 (TX2 0).1 (TX2 0).2.1 (TX2 0).2.2.1 ∈ am_gw := am_i1 49 rfl rfl
theorem wq_627 : Cond.fieldLink RX9 111 (TX0 8).1 (TX0 8).2.1 (TX0 8).2.2.1 ∈ am_gw := am_i1 182 rfl rfl
theorem wq_628 : Cond.fieldLink RX9 115 (TX4 0).1 (TX4 0).2.1 (TX4 0).2.2.1 ∈ am_gw := am_i1 113 rfl rfl
theorem wq_629 : Cond.fieldLink RX9 118 (TX0 2).1 (TX0 2).2.1 (TX0 2).2.2.1 ∈ am_gw := am_i1 165 rfl rfl
theorem wq_630 : Cond.fieldLink RX9 121 (TX0 9).1 (TX0 9).2.1 (TX0 9).2.2.1 ∈ am_gw := am_i1 186 rfl rfl
theorem wq_631 : Cond.fieldLink RX9 125 (TX5 0).1 (TX5 0).2.1 (TX5 0).2.2.1 ∈ am_gw := am_i1 141 rfl rfl
theorem wq_632 : Cond.fieldLink RX9 128 (TX7 0).1 (TX7 0).2.1 (TX7 0).2.2.1 ∈ am_gw := am_i1 221 rfl rfl
theorem wq_633 : Cond.fieldLink RX9 131 (TX7 3).1 (TX7 3).2.1 (TX7 3).2.2.1 ∈ am_gw := am_i1 227 rfl rfl
theorem wq_634 : Cond.fieldLink RX9 134 (TX7 2).1 (TX7 2).2.1 (TX7 2).2.2.1 ∈ am_gw := am_i1 225 rfl rfl
theorem wq_635 : Cond.fieldLink RX9 137 (TX7 1).1 (TX7 1).2.1 (TX7 1).2.2.1 ∈ am_gw := am_i1 223 rfl rfl
theorem wq_636 : Cond.fieldLink RX9 140 (TX7 5).1 (TX7 5).2.1 (TX7 5).2.2.1 ∈ am_gw := am_i1 231 rfl rfl
theorem wq_637 : Cond.classLink RX9 143 "java/util/NoSuchElementException" ∈ am_gw := am_i4 220 rfl rfl
theorem wq_638 : Cond.initialized "java/util/NoSuchElementException" ∈ am_gw := am_i1 23 rfl rfl
theorem wq_639_b0 : decode prog_30_method_4_code 0 = .ok (.aload_n 0, 1) := by decide +kernel
theorem wq_639_b1 : decode prog_30_method_4_code 1 = .ok (.aload_n 1, 1) := by decide +kernel
theorem wq_639_b2 : decode prog_30_method_4_code 2 = .ok (.invokespecial 13, 3) := by decide +kernel
theorem wq_639_b5 : decode prog_30_method_4_code 5 = .ok (.return_, 1) := by decide +kernel
theorem wq_639 : ∀ w ∈ (am_own RX9 147 "java/util/NoSuchElementException" "java/lang/RuntimeException" ["java/lang/Exception"] 13 prog_30_method_4_code).filter vx_no, w ∈ am_gw := fun w hw => am_inT (of_decide_eq_true (List.all_eq_true.mp (show ((am_own RX9 147 "java/util/NoSuchElementException" "java/lang/RuntimeException" ["java/lang/Exception"] 13 prog_30_method_4_code).filter vx_no).all (fun w => decide (w ∈ tables_1)) = true by decide +kernel) w hw)) (List.all_eq_true.mp (show ((am_own RX9 147 "java/util/NoSuchElementException" "java/lang/RuntimeException" ["java/lang/Exception"] 13 prog_30_method_4_code).filter vx_no).all am_good = true by decide +kernel) w hw)
theorem wq_639_g : ∀ w ∈ Cond.classLink RX9 143 "java/util/NoSuchElementException" :: Cond.initialized "java/util/NoSuchElementException" :: (am_own RX9 147 "java/util/NoSuchElementException" "java/lang/RuntimeException" ["java/lang/Exception"] 13 prog_30_method_4_code).filter vx_no, vx_ot w = true := List.all_eq_true.mp (by decide +kernel)
theorem wq_640 : am_code mX9_demandDrawer ∈ am_gw := am_i5 6 rfl rfl
theorem hy_X9_demandDrawer : yX9_demandDrawer.cls ≠ "java/lang/invoke/MethodHandle" ∧ yX9_demandDrawer.cls ≠ "java/lang/invoke/VarHandle" ∧ (parseMethodDescriptor yX9_demandDrawer.desc).map (fun d => d.parameters.length) = some 1 := ⟨by decide +kernel, by decide +kernel, by decide +kernel⟩
theorem wq_642 : Cond.methodLink RX9 148 yX9_demandDrawer ∈ am_gw := am_i5 3 rfl rfl
theorem wq_643 : Cond.instanceMethod yX9_demandDrawer ∈ am_gw := am_i5 5 rfl rfl
theorem wq_644 : Cond.selects RX9 yX9_demandDrawer yX9_demandDrawer ∈ am_gw := am_inS 32 rfl rfl
theorem wq_645 : Cond.fieldLink RX9 151 (TX2 1).1 (TX2 1).2.1 (TX2 1).2.2.1 ∈ am_gw := am_i1 53 rfl rfl
theorem wq_646 : Cond.fieldLink RX9 154 (TX2 2).1 (TX2 2).2.1 (TX2 2).2.2.1 ∈ am_gw := am_i1 57 rfl rfl
theorem wq_647 : Cond.fieldLink RX9 157 (TX2 4).1 (TX2 4).2.1 (TX2 4).2.2.1 ∈ am_gw := am_i1 64 rfl rfl
theorem wq_648 : Cond.fieldLink RX9 160 (TX2 5).1 (TX2 5).2.1 (TX2 5).2.2.1 ∈ am_gw := am_i1 68 rfl rfl
theorem wq_649 : Cond.methodLink RX9 163 yX2_isWide ∈ am_gw := am_i5 8 rfl rfl
theorem wq_650 : Cond.methodLink RX9 167 yX0_reachedBy ∈ am_gw := am_i2 92 rfl rfl
theorem wq_651 : am_code mX0_rentOf ∈ am_gw := am_i2 210 rfl rfl
theorem hy_X0_rentOf : yX0_rentOf.cls ≠ "java/lang/invoke/MethodHandle" ∧ yX0_rentOf.cls ≠ "java/lang/invoke/VarHandle" ∧ (parseMethodDescriptor yX0_rentOf.desc).map (fun d => d.parameters.length) = some 1 := ⟨by decide +kernel, by decide +kernel, by decide +kernel⟩
theorem wq_653 : Cond.methodLink RX9 171 yX0_rentOf ∈ am_gw := am_i2 207 rfl rfl
theorem wq_654 : Cond.instanceMethod yX0_rentOf ∈ am_gw := am_i2 208 rfl rfl
theorem wq_655 : Cond.selects RX0 yX0_rentOf yX0_rentOf ∈ am_gw := am_i2 209 rfl rfl
theorem wq_656 : am_code mX9_isDrawer ∈ am_gw := am_i2 91 rfl rfl
theorem hy_X9_isDrawer : yX9_isDrawer.cls ≠ "java/lang/invoke/MethodHandle" ∧ yX9_isDrawer.cls ≠ "java/lang/invoke/VarHandle" ∧ (parseMethodDescriptor yX9_isDrawer.desc).map (fun d => d.parameters.length) = some 1 := ⟨by decide +kernel, by decide +kernel, by decide +kernel⟩
theorem wq_658 : Cond.methodLink RX9 176 yX9_isDrawer ∈ am_gw := am_i2 88 rfl rfl
theorem wq_659 : Cond.instanceMethod yX9_isDrawer ∈ am_gw := am_i2 90 rfl rfl
theorem wq_660 : Cond.selects RX9 yX9_isDrawer yX9_isDrawer ∈ am_gw := am_inS 2 rfl rfl
theorem wq_661 : am_code mX9_demandPerson ∈ am_gw := am_i5 20 rfl rfl
theorem hy_X9_demandPerson : yX9_demandPerson.cls ≠ "java/lang/invoke/MethodHandle" ∧ yX9_demandPerson.cls ≠ "java/lang/invoke/VarHandle" ∧ (parseMethodDescriptor yX9_demandPerson.desc).map (fun d => d.parameters.length) = some 1 := ⟨by decide +kernel, by decide +kernel, by decide +kernel⟩
theorem wq_663 : Cond.methodLink RX9 181 yX9_demandPerson ∈ am_gw := am_i5 17 rfl rfl
theorem wq_664 : Cond.instanceMethod yX9_demandPerson ∈ am_gw := am_i5 19 rfl rfl
theorem wq_665 : Cond.selects RX9 yX9_demandPerson yX9_demandPerson ∈ am_gw := am_inS 33 rfl rfl
theorem wq_666 : Cond.fieldLink RX9 184 (TX4 1).1 (TX4 1).2.1 (TX4 1).2.2.1 ∈ am_gw := am_i1 117 rfl rfl
theorem wq_667 : Cond.fieldLink RX9 187 (TX4 2).1 (TX4 2).2.1 (TX4 2).2.2.1 ∈ am_gw := am_i1 119 rfl rfl
theorem wq_668 : Cond.fieldLink RX9 190 (TX4 3).1 (TX4 3).2.1 (TX4 3).2.2.1 ∈ am_gw := am_i1 122 rfl rfl
theorem wq_669 : Cond.fieldLink RX9 193 (TX7 6).1 (TX7 6).2.1 (TX7 6).2.2.1 ∈ am_gw := am_i1 233 rfl rfl
theorem wq_670 : am_code mX9_demandSet ∈ am_gw := am_i5 33 rfl rfl
theorem hy_X9_demandSet : yX9_demandSet.cls ≠ "java/lang/invoke/MethodHandle" ∧ yX9_demandSet.cls ≠ "java/lang/invoke/VarHandle" ∧ (parseMethodDescriptor yX9_demandSet.desc).map (fun d => d.parameters.length) = some 1 := ⟨by decide +kernel, by decide +kernel, by decide +kernel⟩
theorem wq_672 : Cond.methodLink RX9 200 yX9_demandSet ∈ am_gw := am_i5 30 rfl rfl
theorem wq_673 : Cond.instanceMethod yX9_demandSet ∈ am_gw := am_i5 32 rfl rfl
theorem wq_674 : Cond.selects RX9 yX9_demandSet yX9_demandSet ∈ am_gw := am_inS 34 rfl rfl
theorem wq_675 : Cond.methodLink RX9 203 yX0_canBe ∈ am_gw := am_i2 133 rfl rfl
theorem wq_676 : Cond.methodLink RX9 206 yX0_leastBroken ∈ am_gw := am_i5 43 rfl rfl
theorem wq_677 : Cond.methodLink RX9 209 yX2_all ∈ am_gw := am_i5 34 rfl rfl
theorem wq_678 : am_code mX9_troubleOf ∈ am_gw := am_i2 87 rfl rfl
theorem hy_X9_troubleOf : yX9_troubleOf.cls ≠ "java/lang/invoke/MethodHandle" ∧ yX9_troubleOf.cls ≠ "java/lang/invoke/VarHandle" ∧ (parseMethodDescriptor yX9_troubleOf.desc).map (fun d => d.parameters.length) = some 1 := ⟨by decide +kernel, by decide +kernel, by decide +kernel⟩
theorem wq_680 : Cond.methodLink RX9 214 yX9_troubleOf ∈ am_gw := am_i2 84 rfl rfl
theorem wq_681 : Cond.instanceMethod yX9_troubleOf ∈ am_gw := am_i2 86 rfl rfl
theorem wq_682 : Cond.selects RX9 yX9_troubleOf yX9_troubleOf ∈ am_gw := am_inS 1 rfl rfl
theorem wq_683 : Cond.methodLink RX9 217 yX0_fedBy ∈ am_gw := am_i2 137 rfl rfl
theorem wq_684 : am_code mX7_doMove ∈ am_gw := am_i2 144 rfl rfl
theorem hy_X7_doMove : yX7_doMove.cls ≠ "java/lang/invoke/MethodHandle" ∧ yX7_doMove.cls ≠ "java/lang/invoke/VarHandle" ∧ (parseMethodDescriptor yX7_doMove.desc).map (fun d => d.parameters.length) = some 2 := ⟨by decide +kernel, by decide +kernel, by decide +kernel⟩
theorem wq_686 : Cond.methodLink RX9 220 yX7_doMove ∈ am_gw := am_i2 141 rfl rfl
theorem wq_687 : Cond.instanceMethod yX7_doMove ∈ am_gw := am_i2 142 rfl rfl
theorem wq_688 : Cond.selects RX7 yX7_doMove yX7_doMove ∈ am_gw := am_i2 143 rfl rfl
theorem wq_689 : am_code mX7_undoMove ∈ am_gw := am_i2 152 rfl rfl
theorem hy_X7_undoMove : yX7_undoMove.cls ≠ "java/lang/invoke/MethodHandle" ∧ yX7_undoMove.cls ≠ "java/lang/invoke/VarHandle" ∧ (parseMethodDescriptor yX7_undoMove.desc).map (fun d => d.parameters.length) = some 0 := ⟨by decide +kernel, by decide +kernel, by decide +kernel⟩
theorem wq_691 : Cond.methodLink RX9 224 yX7_undoMove ∈ am_gw := am_i2 149 rfl rfl
theorem wq_692 : Cond.instanceMethod yX7_undoMove ∈ am_gw := am_i2 150 rfl rfl
theorem wq_693 : Cond.selects RX7 yX7_undoMove yX7_undoMove ∈ am_gw := am_i2 151 rfl rfl
theorem wq_694 : Cond.methodLink RX9 227 yX6_seek ∈ am_gw := am_i2 165 rfl rfl
theorem wq_695 : am_code mX9_keepSteps ∈ am_gw := am_i2 193 rfl rfl
theorem hy_X9_keepSteps : yX9_keepSteps.cls ≠ "java/lang/invoke/MethodHandle" ∧ yX9_keepSteps.cls ≠ "java/lang/invoke/VarHandle" ∧ (parseMethodDescriptor yX9_keepSteps.desc).map (fun d => d.parameters.length) = some 1 := ⟨by decide +kernel, by decide +kernel, by decide +kernel⟩
theorem wq_697 : Cond.methodLink RX9 231 yX9_keepSteps ∈ am_gw := am_i2 190 rfl rfl
theorem wq_698 : Cond.instanceMethod yX9_keepSteps ∈ am_gw := am_i2 192 rfl rfl
theorem wq_699 : Cond.selects RX9 yX9_keepSteps yX9_keepSteps ∈ am_gw := am_inS 10 rfl rfl
theorem wq_700 : am_code mX9_seekBread ∈ am_gw := am_i2 160 rfl rfl
theorem hy_X9_seekBread : yX9_seekBread.cls ≠ "java/lang/invoke/MethodHandle" ∧ yX9_seekBread.cls ≠ "java/lang/invoke/VarHandle" ∧ (parseMethodDescriptor yX9_seekBread.desc).map (fun d => d.parameters.length) = some 2 := ⟨by decide +kernel, by decide +kernel, by decide +kernel⟩
theorem wq_702 : Cond.methodLink RX9 234 yX9_seekBread ∈ am_gw := am_i2 157 rfl rfl
theorem wq_703 : Cond.instanceMethod yX9_seekBread ∈ am_gw := am_i2 159 rfl rfl
theorem wq_704 : Cond.selects RX9 yX9_seekBread yX9_seekBread ∈ am_gw := am_inS 7 rfl rfl
theorem wq_705 : am_code mX4_hungry ∈ am_gw := am_i2 164 rfl rfl
theorem hy_X4_hungry : yX4_hungry.cls ≠ "java/lang/invoke/MethodHandle" ∧ yX4_hungry.cls ≠ "java/lang/invoke/VarHandle" ∧ (parseMethodDescriptor yX4_hungry.desc).map (fun d => d.parameters.length) = some 0 := ⟨by decide +kernel, by decide +kernel, by decide +kernel⟩
theorem wq_707 : Cond.methodLink RX9 238 yX4_hungry ∈ am_gw := am_i2 161 rfl rfl
theorem wq_708 : Cond.instanceMethod yX4_hungry ∈ am_gw := am_i2 162 rfl rfl
theorem wq_709 : Cond.selects RX4 yX4_hungry yX4_hungry ∈ am_gw := am_i2 163 rfl rfl
theorem wq_710 : am_code mX6_stepsTo ∈ am_gw := am_i2 197 rfl rfl
theorem hy_X6_stepsTo : yX6_stepsTo.cls ≠ "java/lang/invoke/MethodHandle" ∧ yX6_stepsTo.cls ≠ "java/lang/invoke/VarHandle" ∧ (parseMethodDescriptor yX6_stepsTo.desc).map (fun d => d.parameters.length) = some 1 := ⟨by decide +kernel, by decide +kernel, by decide +kernel⟩
theorem wq_712 : Cond.methodLink RX9 241 yX6_stepsTo ∈ am_gw := am_i2 194 rfl rfl
theorem wq_713 : Cond.instanceMethod yX6_stepsTo ∈ am_gw := am_i2 195 rfl rfl
theorem wq_714 : Cond.selects RX6 yX6_stepsTo yX6_stepsTo ∈ am_gw := am_i2 196 rfl rfl
theorem wq_715 : am_code mX6_writeSteps ∈ am_gw := am_i2 201 rfl rfl
theorem hy_X6_writeSteps : yX6_writeSteps.cls ≠ "java/lang/invoke/MethodHandle" ∧ yX6_writeSteps.cls ≠ "java/lang/invoke/VarHandle" ∧ (parseMethodDescriptor yX6_writeSteps.desc).map (fun d => d.parameters.length) = some 3 := ⟨by decide +kernel, by decide +kernel, by decide +kernel⟩
theorem wq_717 : Cond.methodLink RX9 244 yX6_writeSteps ∈ am_gw := am_i2 198 rfl rfl
theorem wq_718 : Cond.instanceMethod yX6_writeSteps ∈ am_gw := am_i2 199 rfl rfl
theorem wq_719 : Cond.selects RX6 yX6_writeSteps yX6_writeSteps ∈ am_gw := am_i2 200 rfl rfl
theorem wq_720 : am_code mX6_everOut ∈ am_gw := am_i5 84 rfl rfl
theorem hy_X6_everOut : yX6_everOut.cls ≠ "java/lang/invoke/MethodHandle" ∧ yX6_everOut.cls ≠ "java/lang/invoke/VarHandle" ∧ (parseMethodDescriptor yX6_everOut.desc).map (fun d => d.parameters.length) = some 3 := ⟨by decide +kernel, by decide +kernel, by decide +kernel⟩
theorem wq_722 : Cond.methodLink RX9 252 yX6_everOut ∈ am_gw := am_i5 81 rfl rfl
theorem wq_723 : Cond.instanceMethod yX6_everOut ∈ am_gw := am_i5 82 rfl rfl
theorem wq_724 : Cond.selects RX6 yX6_everOut yX6_everOut ∈ am_gw := am_i5 83 rfl rfl
theorem wq_725 : Cond.methodLink RX9 256 yJ6_bitCount_0f7a4 ∈ am_gw := am_i5 86 rfl rfl
theorem wq_726 : am_code mX2_canMarry ∈ am_gw := am_i5 97 rfl rfl
theorem hy_X2_canMarry : yX2_canMarry.cls ≠ "java/lang/invoke/MethodHandle" ∧ yX2_canMarry.cls ≠ "java/lang/invoke/VarHandle" ∧ (parseMethodDescriptor yX2_canMarry.desc).map (fun d => d.parameters.length) = some 2 := ⟨by decide +kernel, by decide +kernel, by decide +kernel⟩
theorem wq_728 : Cond.methodLink RX9 261 yX2_canMarry ∈ am_gw := am_i5 94 rfl rfl
theorem wq_729 : Cond.instanceMethod yX2_canMarry ∈ am_gw := am_i5 95 rfl rfl
theorem wq_730 : Cond.selects RX2 yX2_canMarry yX2_canMarry ∈ am_gw := am_i5 96 rfl rfl
theorem wq_731 : am_code mX0_copyFrom ∈ am_gw := am_i5 102 rfl rfl
theorem hy_X0_copyFrom : yX0_copyFrom.cls ≠ "java/lang/invoke/MethodHandle" ∧ yX0_copyFrom.cls ≠ "java/lang/invoke/VarHandle" ∧ (parseMethodDescriptor yX0_copyFrom.desc).map (fun d => d.parameters.length) = some 1 := ⟨by decide +kernel, by decide +kernel, by decide +kernel⟩
theorem wq_733 : Cond.methodLink RX9 265 yX0_copyFrom ∈ am_gw := am_i5 99 rfl rfl
theorem wq_734 : Cond.instanceMethod yX0_copyFrom ∈ am_gw := am_i5 100 rfl rfl
theorem wq_735 : Cond.selects RX0 yX0_copyFrom yX0_copyFrom ∈ am_gw := am_i5 101 rfl rfl
theorem wq_736 : am_code mX0_marry ∈ am_gw := am_i5 121 rfl rfl
theorem hy_X0_marry : yX0_marry.cls ≠ "java/lang/invoke/MethodHandle" ∧ yX0_marry.cls ≠ "java/lang/invoke/VarHandle" ∧ (parseMethodDescriptor yX0_marry.desc).map (fun d => d.parameters.length) = some 2 := ⟨by decide +kernel, by decide +kernel, by decide +kernel⟩
theorem wq_738 : Cond.methodLink RX9 269 yX0_marry ∈ am_gw := am_i5 118 rfl rfl
theorem wq_739 : Cond.instanceMethod yX0_marry ∈ am_gw := am_i5 119 rfl rfl
theorem wq_740 : Cond.selects RX0 yX0_marry yX0_marry ∈ am_gw := am_i5 120 rfl rfl
theorem wq_741 : Cond.constant RX9 274 1103515245 ∈ am_gw := am_i5 133 rfl rfl
theorem wq_742 : Cond.fieldLink RX9 275 (TX0 6).1 (TX0 6).2.1 (TX0 6).2.2.1 ∈ am_gw := am_i1 175 rfl rfl
theorem wq_743 : am_code mX9_slam ∈ am_gw := am_i5 137 rfl rfl
theorem hy_X9_slam : yX9_slam.cls ≠ "java/lang/invoke/MethodHandle" ∧ yX9_slam.cls ≠ "java/lang/invoke/VarHandle" ∧ (parseMethodDescriptor yX9_slam.desc).map (fun d => d.parameters.length) = some 1 := ⟨by decide +kernel, by decide +kernel, by decide +kernel⟩
theorem wq_745 : Cond.methodLink RX9 278 yX9_slam ∈ am_gw := am_i5 134 rfl rfl
theorem wq_746 : Cond.instanceMethod yX9_slam ∈ am_gw := am_i5 136 rfl rfl
theorem wq_747 : Cond.selects RX9 yX9_slam yX9_slam ∈ am_gw := am_inS 35 rfl rfl
theorem wq_748 : am_code mX0_handsNear ∈ am_gw := am_i5 148 rfl rfl
theorem hy_X0_handsNear : yX0_handsNear.cls ≠ "java/lang/invoke/MethodHandle" ∧ yX0_handsNear.cls ≠ "java/lang/invoke/VarHandle" ∧ (parseMethodDescriptor yX0_handsNear.desc).map (fun d => d.parameters.length) = some 2 := ⟨by decide +kernel, by decide +kernel, by decide +kernel⟩
theorem wq_750 : Cond.methodLink RX9 281 yX0_handsNear ∈ am_gw := am_i5 145 rfl rfl
theorem wq_751 : Cond.instanceMethod yX0_handsNear ∈ am_gw := am_i5 146 rfl rfl
theorem wq_752 : Cond.selects RX0 yX0_handsNear yX0_handsNear ∈ am_gw := am_i5 147 rfl rfl
theorem wq_753 : am_code mX4_weightOf ∈ am_gw := am_i5 164 rfl rfl
theorem hy_X4_weightOf : yX4_weightOf.cls ≠ "java/lang/invoke/MethodHandle" ∧ yX4_weightOf.cls ≠ "java/lang/invoke/VarHandle" ∧ (parseMethodDescriptor yX4_weightOf.desc).map (fun d => d.parameters.length) = some 1 := ⟨by decide +kernel, by decide +kernel, by decide +kernel⟩
theorem wq_755 : Cond.methodLink RX9 287 yX4_weightOf ∈ am_gw := am_i5 161 rfl rfl
theorem wq_756 : Cond.instanceMethod yX4_weightOf ∈ am_gw := am_i5 162 rfl rfl
theorem wq_757 : Cond.selects RX4 yX4_weightOf yX4_weightOf ∈ am_gw := am_i5 163 rfl rfl
theorem wq_758 : am_code mX9_commonDivisor ∈ am_gw := am_i5 167 rfl rfl
theorem hy_X9_commonDivisor : yX9_commonDivisor.cls ≠ "java/lang/invoke/MethodHandle" ∧ yX9_commonDivisor.cls ≠ "java/lang/invoke/VarHandle" ∧ (parseMethodDescriptor yX9_commonDivisor.desc).map (fun d => d.parameters.length) = some 2 := ⟨by decide +kernel, by decide +kernel, by decide +kernel⟩
theorem wq_760 : Cond.methodLink RX9 290 yX9_commonDivisor ∈ am_gw := am_i5 165 rfl rfl
theorem wq_761 : Cond.static yX9_commonDivisor ∈ am_gw := am_i5 166 rfl rfl
theorem wq_762 : am_code mX7_copyFrom ∈ am_gw := am_i2 222 rfl rfl
theorem hy_X7_copyFrom : yX7_copyFrom.cls ≠ "java/lang/invoke/MethodHandle" ∧ yX7_copyFrom.cls ≠ "java/lang/invoke/VarHandle" ∧ (parseMethodDescriptor yX7_copyFrom.desc).map (fun d => d.parameters.length) = some 1 := ⟨by decide +kernel, by decide +kernel, by decide +kernel⟩
theorem wq_764 : Cond.methodLink RX9 293 yX7_copyFrom ∈ am_gw := am_i2 219 rfl rfl
theorem wq_765 : Cond.instanceMethod yX7_copyFrom ∈ am_gw := am_i2 220 rfl rfl
theorem wq_766 : Cond.selects RX7 yX7_copyFrom yX7_copyFrom ∈ am_gw := am_i2 221 rfl rfl
theorem wq_767 : Cond.methodLink RX10 1 Lib.objectInit ∈ am_gw := am_i5 173 rfl rfl
theorem wq_768 : Cond.classLink RX10 7 "java/lang/String" ∈ am_gw := am_i5 174 rfl rfl
theorem wq_769 : Cond.fieldLink RX10 17 (TX10 0).1 (TX10 0).2.1 (TX10 0).2.2.1 ∈ am_gw := am_i5 191 rfl rfl
set_option maxRecDepth 10000 in
theorem uq_10 : ∀ w ∈ u_ws RX10 TX10 57, w ∈ am_gw := List.forall_mem_cons.mpr ⟨am_i6 8 rfl rfl, List.forall_mem_cons.mpr ⟨am_i6 10 rfl rfl, List.forall_mem_cons.mpr ⟨am_i6 12 rfl rfl, List.forall_mem_cons.mpr ⟨am_i6 14 rfl rfl, List.forall_mem_cons.mpr ⟨am_i6 16 rfl rfl, List.forall_mem_cons.mpr ⟨am_i6 18 rfl rfl, List.forall_mem_cons.mpr ⟨am_i6 20 rfl rfl, List.forall_mem_cons.mpr ⟨am_i6 22 rfl rfl, List.forall_mem_cons.mpr ⟨am_i6 24 rfl rfl, List.forall_mem_cons.mpr ⟨am_i6 26 rfl rfl, List.forall_mem_cons.mpr ⟨am_i6 28 rfl rfl, List.forall_mem_cons.mpr ⟨am_i6 30 rfl rfl, List.forall_mem_cons.mpr ⟨am_i6 32 rfl rfl, List.forall_mem_cons.mpr ⟨am_i6 34 rfl rfl, List.forall_mem_cons.mpr ⟨am_i6 36 rfl rfl, List.forall_mem_cons.mpr ⟨am_i6 38 rfl rfl, List.forall_mem_cons.mpr ⟨am_i6 40 rfl rfl, List.forall_mem_cons.mpr ⟨am_i6 42 rfl rfl, List.forall_mem_cons.mpr ⟨am_i6 44 rfl rfl, List.forall_mem_cons.mpr ⟨am_i6 46 rfl rfl, List.forall_mem_cons.mpr ⟨am_i6 48 rfl rfl, List.forall_mem_cons.mpr ⟨am_i6 50 rfl rfl, List.forall_mem_cons.mpr ⟨am_i6 52 rfl rfl, List.forall_mem_cons.mpr ⟨am_i6 54 rfl rfl, List.forall_mem_cons.mpr ⟨am_i6 56 rfl rfl, List.forall_mem_cons.mpr ⟨am_i6 58 rfl rfl, List.forall_mem_cons.mpr ⟨am_i6 60 rfl rfl, List.forall_mem_cons.mpr ⟨am_i6 62 rfl rfl, List.forall_mem_cons.mpr ⟨am_i6 64 rfl rfl, List.forall_mem_cons.mpr ⟨am_i6 66 rfl rfl, List.forall_mem_cons.mpr ⟨am_i6 68 rfl rfl, List.forall_mem_cons.mpr ⟨am_i6 70 rfl rfl, List.forall_mem_cons.mpr ⟨am_i6 72 rfl rfl, List.forall_mem_cons.mpr ⟨am_i6 74 rfl rfl, List.forall_mem_cons.mpr ⟨am_i6 76 rfl rfl, List.forall_mem_cons.mpr ⟨am_i6 78 rfl rfl, List.forall_mem_cons.mpr ⟨am_i6 80 rfl rfl, List.forall_mem_cons.mpr ⟨am_i6 82 rfl rfl, List.forall_mem_cons.mpr ⟨am_i6 84 rfl rfl, List.forall_mem_cons.mpr ⟨am_i6 86 rfl rfl, List.forall_mem_cons.mpr ⟨am_i6 88 rfl rfl, List.forall_mem_cons.mpr ⟨am_i6 90 rfl rfl, List.forall_mem_cons.mpr ⟨am_i6 92 rfl rfl, List.forall_mem_cons.mpr ⟨am_i6 94 rfl rfl, List.forall_mem_cons.mpr ⟨am_i6 96 rfl rfl, List.forall_mem_cons.mpr ⟨am_i6 98 rfl rfl, List.forall_mem_cons.mpr ⟨am_i6 100 rfl rfl, List.forall_mem_cons.mpr ⟨am_i6 102 rfl rfl, List.forall_mem_cons.mpr ⟨am_i6 104 rfl rfl, List.forall_mem_cons.mpr ⟨am_i6 106 rfl rfl, List.forall_mem_cons.mpr ⟨am_i6 108 rfl rfl, List.forall_mem_cons.mpr ⟨am_i6 110 rfl rfl, List.forall_mem_cons.mpr ⟨am_i6 112 rfl rfl, List.forall_mem_cons.mpr ⟨am_i6 114 rfl rfl, List.forall_mem_cons.mpr ⟨am_i6 116 rfl rfl, List.forall_mem_cons.mpr ⟨am_i6 118 rfl rfl, List.forall_mem_cons.mpr ⟨am_i6 120 rfl rfl, fun _ h => absurd h List.not_mem_nil⟩⟩⟩⟩⟩⟩⟩⟩⟩⟩⟩⟩⟩⟩⟩⟩⟩⟩⟩⟩⟩⟩⟩⟩⟩⟩⟩⟩⟩⟩⟩⟩⟩⟩⟩⟩⟩⟩⟩⟩⟩⟩⟩⟩⟩⟩⟩⟩⟩⟩⟩⟩⟩⟩⟩⟩⟩
theorem dq_10 : ∀ k, k < 57 → defaultValue (am_ty 10 k) = if (am_ty 10 k).isReference then .null else .int 0 := by decide +kernel
theorem wq_770 : Cond.fieldLink RX10 29 (TX10 1).1 (TX10 1).2.1 (TX10 1).2.2.1 ∈ am_gw := am_i5 192 rfl rfl
theorem wq_771 : Cond.fieldLink RX10 46 (TX10 2).1 (TX10 2).2.1 (TX10 2).2.2.1 ∈ am_gw := am_i5 193 rfl rfl
theorem wq_772 : Cond.fieldLink RX10 49 (TX10 4).1 (TX10 4).2.1 (TX10 4).2.2.1 ∈ am_gw := am_i5 195 rfl rfl
theorem wq_773 : Cond.fieldLink RX10 53 (TX10 5).1 (TX10 5).2.1 (TX10 5).2.2.1 ∈ am_gw := am_i5 196 rfl rfl
theorem wq_774 : Cond.fieldLink RX10 55 (TX10 6).1 (TX10 6).2.1 (TX10 6).2.2.1 ∈ am_gw := am_i5 197 rfl rfl
theorem wq_775 : Cond.fieldLink RX10 57 (TX10 7).1 (TX10 7).2.1 (TX10 7).2.2.1 ∈ am_gw := am_i5 198 rfl rfl
theorem wq_776 : Cond.fieldLink RX10 59 (TX10 8).1 (TX10 8).2.1 (TX10 8).2.2.1 ∈ am_gw := am_i5 199 rfl rfl
theorem wq_777 : Cond.fieldLink RX10 61 (TX10 9).1 (TX10 9).2.1 (TX10 9).2.2.1 ∈ am_gw := am_i5 200 rfl rfl
theorem wq_778 : Cond.fieldLink RX10 64 (TX10 10).1 (TX10 10).2.1 (TX10 10).2.2.1 ∈ am_gw := am_i5 201 rfl rfl
theorem wq_779 : Cond.fieldLink RX10 66 (TX10 11).1 (TX10 11).2.1 (TX10 11).2.2.1 ∈ am_gw := am_i5 202 rfl rfl
theorem wq_780 : Cond.fieldLink RX10 68 (TX10 12).1 (TX10 12).2.1 (TX10 12).2.2.1 ∈ am_gw := am_i5 203 rfl rfl
theorem wq_781 : Cond.fieldLink RX10 71 (TX10 13).1 (TX10 13).2.1 (TX10 13).2.2.1 ∈ am_gw := am_i5 204 rfl rfl
theorem wq_782 : Cond.fieldLink RX10 74 (TX10 14).1 (TX10 14).2.1 (TX10 14).2.2.1 ∈ am_gw := am_i5 205 rfl rfl
theorem wq_783 : Cond.fieldLink RX10 77 (TX10 15).1 (TX10 15).2.1 (TX10 15).2.2.1 ∈ am_gw := am_i5 206 rfl rfl
theorem wq_784 : Cond.fieldLink RX10 80 (TX10 16).1 (TX10 16).2.1 (TX10 16).2.2.1 ∈ am_gw := am_i5 207 rfl rfl
theorem wq_785 : Cond.fieldLink RX10 83 (TX10 17).1 (TX10 17).2.1 (TX10 17).2.2.1 ∈ am_gw := am_i5 208 rfl rfl
theorem wq_786 : Cond.fieldLink RX10 86 (TX10 27).1 (TX10 27).2.1 (TX10 27).2.2.1 ∈ am_gw := am_i5 218 rfl rfl
theorem wq_787 : Cond.fieldLink RX10 90 (TX10 33).1 (TX10 33).2.1 (TX10 33).2.2.1 ∈ am_gw := am_i5 224 rfl rfl
theorem wq_788 : Cond.fieldLink RX10 93 (TX10 34).1 (TX10 34).2.1 (TX10 34).2.2.1 ∈ am_gw := am_i5 225 rfl rfl
theorem wq_789 : Cond.fieldLink RX10 96 (TX10 35).1 (TX10 35).2.1 (TX10 35).2.2.1 ∈ am_gw := am_i5 226 rfl rfl
theorem wq_790 : Cond.fieldLink RX10 99 (TX10 36).1 (TX10 36).2.1 (TX10 36).2.2.1 ∈ am_gw := am_i5 227 rfl rfl
theorem wq_791 : Cond.fieldLink RX10 102 (TX10 37).1 (TX10 37).2.1 (TX10 37).2.2.1 ∈ am_gw := am_i5 228 rfl rfl
theorem wq_792 : Cond.constant RX10 105 32768 ∈ am_gw := am_i5 190 rfl rfl
theorem wq_793 : Cond.fieldLink RX10 106 (TX10 38).1 (TX10 38).2.1 (TX10 38).2.2.1 ∈ am_gw := am_i5 229 rfl rfl
theorem wq_794 : Cond.fieldLink RX10 109 (TX10 39).1 (TX10 39).2.1 (TX10 39).2.2.1 ∈ am_gw := am_i5 230 rfl rfl
theorem wq_795 : Cond.fieldLink RX10 112 (TX10 40).1 (TX10 40).2.1 (TX10 40).2.2.1 ∈ am_gw := am_i5 231 rfl rfl
theorem wq_796 : Cond.fieldLink RX10 115 (TX10 41).1 (TX10 41).2.1 (TX10 41).2.2.1 ∈ am_gw := am_i5 232 rfl rfl
theorem wq_797 : Cond.fieldLink RX10 118 (TX10 42).1 (TX10 42).2.1 (TX10 42).2.2.1 ∈ am_gw := am_i5 233 rfl rfl
theorem wq_798 : Cond.arrayClass .boolean ∈ am_gw := am_i6 123 rfl rfl
theorem wq_799 : Cond.fieldLink RX10 121 (TX10 43).1 (TX10 43).2.1 (TX10 43).2.2.1 ∈ am_gw := am_i5 234 rfl rfl
theorem wq_800 : Cond.fieldLink RX10 125 (TX10 45).1 (TX10 45).2.1 (TX10 45).2.2.1 ∈ am_gw := am_i5 236 rfl rfl
theorem wq_801 : Cond.fieldLink RX10 128 (TX10 46).1 (TX10 46).2.1 (TX10 46).2.2.1 ∈ am_gw := am_i5 237 rfl rfl
theorem wq_802 : Cond.fieldLink RX10 131 (TX10 53).1 (TX10 53).2.1 (TX10 53).2.2.1 ∈ am_gw := am_i6 4 rfl rfl
theorem wq_803 : Cond.fieldLink RX10 134 (TX10 54).1 (TX10 54).2.1 (TX10 54).2.2.1 ∈ am_gw := am_i6 5 rfl rfl
theorem wq_804 : Cond.fieldLink RX10 137 (TX10 55).1 (TX10 55).2.1 (TX10 55).2.2.1 ∈ am_gw := am_i6 6 rfl rfl
theorem wq_805 : Cond.fieldLink RX10 140 (TX10 56).1 (TX10 56).2.1 (TX10 56).2.2.1 ∈ am_gw := am_i6 7 rfl rfl
theorem wq_806 : Cond.fieldLink RX10 143 (TX10 3).1 (TX10 3).2.1 (TX10 3).2.2.1 ∈ am_gw := am_i5 194 rfl rfl
theorem wq_807 : am_code mX10_isIn ∈ am_gw := am_i7 39 rfl rfl
theorem wq_808 : Cond.initialized RX10 ∈ am_gw := am_i1 8 rfl rfl
theorem hy_X10_isIn : yX10_isIn.cls ≠ "java/lang/invoke/MethodHandle" ∧ yX10_isIn.cls ≠ "java/lang/invoke/VarHandle" ∧ (parseMethodDescriptor yX10_isIn.desc).map (fun d => d.parameters.length) = some 3 := ⟨by decide +kernel, by decide +kernel, by decide +kernel⟩
theorem wq_810 : Cond.methodLink RX10 146 yX10_isIn ∈ am_gw := am_i7 37 rfl rfl
theorem wq_811 : Cond.static yX10_isIn ∈ am_gw := am_i7 38 rfl rfl
theorem wq_812 : Cond.fieldLink RX10 150 (TX10 18).1 (TX10 18).2.1 (TX10 18).2.2.1 ∈ am_gw := am_i5 209 rfl rfl
theorem wq_813 : Cond.fieldLink RX10 153 (TX10 20).1 (TX10 20).2.1 (TX10 20).2.2.1 ∈ am_gw := am_i5 211 rfl rfl
theorem wq_814 : Cond.fieldLink RX10 156 (TX10 19).1 (TX10 19).2.1 (TX10 19).2.2.1 ∈ am_gw := am_i5 210 rfl rfl
theorem wq_815 : am_code mX10_byteAt ∈ am_gw := am_i6 147 rfl rfl
theorem hy_X10_byteAt : yX10_byteAt.cls ≠ "java/lang/invoke/MethodHandle" ∧ yX10_byteAt.cls ≠ "java/lang/invoke/VarHandle" ∧ (parseMethodDescriptor yX10_byteAt.desc).map (fun d => d.parameters.length) = some 1 := ⟨by decide +kernel, by decide +kernel, by decide +kernel⟩
theorem wq_817 : Cond.methodLink RX10 159 yX10_byteAt ∈ am_gw := am_i6 144 rfl rfl
theorem wq_818 : Cond.instanceMethod yX10_byteAt ∈ am_gw := am_i6 146 rfl rfl
theorem wq_819 : Cond.selects RX10 yX10_byteAt yX10_byteAt ∈ am_gw := am_inS 38 rfl rfl
theorem wq_820 : Cond.fieldLink RX10 163 (TX10 23).1 (TX10 23).2.1 (TX10 23).2.2.1 ∈ am_gw := am_i5 214 rfl rfl
theorem wq_821 : Cond.fieldLink RX10 166 (TX10 21).1 (TX10 21).2.1 (TX10 21).2.2.1 ∈ am_gw := am_i5 212 rfl rfl
theorem wq_822 : am_code mX10_isLetter ∈ am_gw := am_i6 150 rfl rfl
theorem hy_X10_isLetter : yX10_isLetter.cls ≠ "java/lang/invoke/MethodHandle" ∧ yX10_isLetter.cls ≠ "java/lang/invoke/VarHandle" ∧ (parseMethodDescriptor yX10_isLetter.desc).map (fun d => d.parameters.length) = some 1 := ⟨by decide +kernel, by decide +kernel, by decide +kernel⟩
theorem wq_824 : Cond.methodLink RX10 169 yX10_isLetter ∈ am_gw := am_i6 148 rfl rfl
theorem wq_825 : Cond.static yX10_isLetter ∈ am_gw := am_i6 149 rfl rfl
theorem wq_826 : am_code mX10_isDigit ∈ am_gw := am_i6 153 rfl rfl
theorem hy_X10_isDigit : yX10_isDigit.cls ≠ "java/lang/invoke/MethodHandle" ∧ yX10_isDigit.cls ≠ "java/lang/invoke/VarHandle" ∧ (parseMethodDescriptor yX10_isDigit.desc).map (fun d => d.parameters.length) = some 1 := ⟨by decide +kernel, by decide +kernel, by decide +kernel⟩
theorem wq_828 : Cond.methodLink RX10 173 yX10_isDigit ∈ am_gw := am_i6 151 rfl rfl
theorem wq_829 : Cond.static yX10_isDigit ∈ am_gw := am_i6 152 rfl rfl
theorem wq_830 : Cond.fieldLink RX10 176 (TX10 22).1 (TX10 22).2.1 (TX10 22).2.2.1 ∈ am_gw := am_i5 213 rfl rfl
theorem wq_831 : Cond.constant RX10 179 100000 ∈ am_gw := am_i6 154 rfl rfl
theorem wq_832 : Cond.methodLink RX10 180 yJ9_min_7cf53 ∈ am_gw := am_i6 155 rfl rfl
theorem wq_833 : am_code mX10_isMark ∈ am_gw := am_i6 158 rfl rfl
theorem hy_X10_isMark : yX10_isMark.cls ≠ "java/lang/invoke/MethodHandle" ∧ yX10_isMark.cls ≠ "java/lang/invoke/VarHandle" ∧ (parseMethodDescriptor yX10_isMark.desc).map (fun d => d.parameters.length) = some 1 := ⟨by decide +kernel, by decide +kernel, by decide +kernel⟩
theorem wq_835 : Cond.methodLink RX10 186 yX10_isMark ∈ am_gw := am_i6 156 rfl rfl
theorem wq_836 : Cond.static yX10_isMark ∈ am_gw := am_i6 157 rfl rfl
theorem wq_837 : Cond.fieldLink RX10 189 (TX10 24).1 (TX10 24).2.1 (TX10 24).2.2.1 ∈ am_gw := am_i5 215 rfl rfl
theorem wq_838 : Cond.fieldLink RX10 192 (TX10 25).1 (TX10 25).2.1 (TX10 25).2.2.1 ∈ am_gw := am_i5 216 rfl rfl
theorem wq_839 : Cond.fieldLink RX10 195 (TX10 26).1 (TX10 26).2.1 (TX10 26).2.2.1 ∈ am_gw := am_i5 217 rfl rfl
theorem wq_840 : Cond.methodLink RX10 198 yJ0_length_8abf5 ∈ am_gw := am_i6 171 rfl rfl
theorem wq_841 : Cond.methodLink RX10 201 yJ0_charAt_5068e ∈ am_gw := am_i6 172 rfl rfl
theorem wq_842 : am_code mX10_is ∈ am_gw := am_i6 170 rfl rfl
theorem hy_X10_is : yX10_is.cls ≠ "java/lang/invoke/MethodHandle" ∧ yX10_is.cls ≠ "java/lang/invoke/VarHandle" ∧ (parseMethodDescriptor yX10_is.desc).map (fun d => d.parameters.length) = some 1 := ⟨by decide +kernel, by decide +kernel, by decide +kernel⟩
theorem wq_844 : Cond.methodLink RX10 205 yX10_is ∈ am_gw := am_i6 167 rfl rfl
theorem wq_845 : Cond.instanceMethod yX10_is ∈ am_gw := am_i6 169 rfl rfl
theorem wq_846 : Cond.selects RX10 yX10_is yX10_is ∈ am_gw := am_inS 41 rfl rfl
theorem wq_847 : am_code mX10_stepOn ∈ am_gw := am_i6 143 rfl rfl
theorem hy_X10_stepOn : yX10_stepOn.cls ≠ "java/lang/invoke/MethodHandle" ∧ yX10_stepOn.cls ≠ "java/lang/invoke/VarHandle" ∧ (parseMethodDescriptor yX10_stepOn.desc).map (fun d => d.parameters.length) = some 0 := ⟨by decide +kernel, by decide +kernel, by decide +kernel⟩
theorem wq_849 : Cond.methodLink RX10 209 yX10_stepOn ∈ am_gw := am_i6 140 rfl rfl
theorem wq_850 : Cond.instanceMethod yX10_stepOn ∈ am_gw := am_i6 142 rfl rfl
theorem wq_851 : Cond.selects RX10 yX10_stepOn yX10_stepOn ∈ am_gw := am_inS 37 rfl rfl
theorem wq_852 : am_code mX10_isMarked ∈ am_gw := am_i6 222 rfl rfl
theorem hy_X10_isMarked : yX10_isMarked.cls ≠ "java/lang/invoke/MethodHandle" ∧ yX10_isMarked.cls ≠ "java/lang/invoke/VarHandle" ∧ (parseMethodDescriptor yX10_isMarked.desc).map (fun d => d.parameters.length) = some 1 := ⟨by decide +kernel, by decide +kernel, by decide +kernel⟩
theorem wq_854 : Cond.methodLink RX10 212 yX10_isMarked ∈ am_gw := am_i6 219 rfl rfl
theorem wq_855 : Cond.instanceMethod yX10_isMarked ∈ am_gw := am_i6 221 rfl rfl
theorem wq_856 : Cond.selects RX10 yX10_isMarked yX10_isMarked ∈ am_gw := am_inS 52 rfl rfl
theorem wq_857 : am_code mX10_wrong ∈ am_gw := am_i6 177 rfl rfl
theorem hy_X10_wrong : yX10_wrong.cls ≠ "java/lang/invoke/MethodHandle" ∧ yX10_wrong.cls ≠ "java/lang/invoke/VarHandle" ∧ (parseMethodDescriptor yX10_wrong.desc).map (fun d => d.parameters.length) = some 1 := ⟨by decide +kernel, by decide +kernel, by decide +kernel⟩
theorem wq_859 : Cond.methodLink RX10 215 yX10_wrong ∈ am_gw := am_i6 174 rfl rfl
theorem wq_860 : Cond.instanceMethod yX10_wrong ∈ am_gw := am_i6 176 rfl rfl
theorem wq_861 : Cond.selects RX10 yX10_wrong yX10_wrong ∈ am_gw := am_inS 42 rfl rfl
theorem wq_862 : am_code mX10_numberNow ∈ am_gw := am_i6 189 rfl rfl
theorem hy_X10_numberNow : yX10_numberNow.cls ≠ "java/lang/invoke/MethodHandle" ∧ yX10_numberNow.cls ≠ "java/lang/invoke/VarHandle" ∧ (parseMethodDescriptor yX10_numberNow.desc).map (fun d => d.parameters.length) = some 2 := ⟨by decide +kernel, by decide +kernel, by decide +kernel⟩
theorem wq_864 : Cond.methodLink RX10 219 yX10_numberNow ∈ am_gw := am_i6 186 rfl rfl
theorem wq_865 : Cond.instanceMethod yX10_numberNow ∈ am_gw := am_i6 188 rfl rfl
theorem wq_866 : Cond.selects RX10 yX10_numberNow yX10_numberNow ∈ am_gw := am_inS 45 rfl rfl
theorem wq_867 : Cond.fieldLink RX10 222 (TX10 28).1 (TX10 28).2.1 (TX10 28).2.2.1 ∈ am_gw := am_i5 219 rfl rfl
theorem wq_868 : am_code mX10_readNumber ∈ am_gw := am_i6 185 rfl rfl
theorem hy_X10_readNumber : yX10_readNumber.cls ≠ "java/lang/invoke/MethodHandle" ∧ yX10_readNumber.cls ≠ "java/lang/invoke/VarHandle" ∧ (parseMethodDescriptor yX10_readNumber.desc).map (fun d => d.parameters.length) = some 2 := ⟨by decide +kernel, by decide +kernel, by decide +kernel⟩
theorem wq_870 : Cond.methodLink RX10 225 yX10_readNumber ∈ am_gw := am_i6 182 rfl rfl
theorem wq_871 : Cond.instanceMethod yX10_readNumber ∈ am_gw := am_i6 184 rfl rfl
theorem wq_872 : Cond.selects RX10 yX10_readNumber yX10_readNumber ∈ am_gw := am_inS 44 rfl rfl
theorem wq_873 : am_code mX10_lay ∈ am_gw := am_i7 7 rfl rfl
theorem hy_X10_lay : yX10_lay.cls ≠ "java/lang/invoke/MethodHandle" ∧ yX10_lay.cls ≠ "java/lang/invoke/VarHandle" ∧ (parseMethodDescriptor yX10_lay.desc).map (fun d => d.parameters.length) = some 1 := ⟨by decide +kernel, by decide +kernel, by decide +kernel⟩
theorem wq_875 : Cond.methodLink RX10 228 yX10_lay ∈ am_gw := am_i7 4 rfl rfl
theorem wq_876 : Cond.instanceMethod yX10_lay ∈ am_gw := am_i7 6 rfl rfl
theorem wq_877 : Cond.selects RX10 yX10_lay yX10_lay ∈ am_gw := am_inS 58 rfl rfl
theorem wq_878 : am_code mX10_which ∈ am_gw := am_i6 166 rfl rfl
theorem hy_X10_which : yX10_which.cls ≠ "java/lang/invoke/MethodHandle" ∧ yX10_which.cls ≠ "java/lang/invoke/VarHandle" ∧ (parseMethodDescriptor yX10_which.desc).map (fun d => d.parameters.length) = some 1 := ⟨by decide +kernel, by decide +kernel, by decide +kernel⟩
theorem wq_880 : Cond.methodLink RX10 231 yX10_which ∈ am_gw := am_i6 163 rfl rfl
theorem wq_881 : Cond.instanceMethod yX10_which ∈ am_gw := am_i6 165 rfl rfl
theorem wq_882 : Cond.selects RX10 yX10_which yX10_which ∈ am_gw := am_inS 40 rfl rfl
theorem wq_883 : am_code mX10_mark ∈ am_gw := am_i7 11 rfl rfl
theorem hy_X10_mark : yX10_mark.cls ≠ "java/lang/invoke/MethodHandle" ∧ yX10_mark.cls ≠ "java/lang/invoke/VarHandle" ∧ (parseMethodDescriptor yX10_mark.desc).map (fun d => d.parameters.length) = some 1 := ⟨by decide +kernel, by decide +kernel, by decide +kernel⟩
theorem wq_885 : Cond.methodLink RX10 235 yX10_mark ∈ am_gw := am_i7 8 rfl rfl
theorem wq_886 : Cond.instanceMethod yX10_mark ∈ am_gw := am_i7 10 rfl rfl
theorem wq_887 : Cond.selects RX10 yX10_mark yX10_mark ∈ am_gw := am_inS 59 rfl rfl
theorem wq_888 : am_code mX10_readExpression ∈ am_gw := am_i6 218 rfl rfl
theorem hy_X10_readExpression : yX10_readExpression.cls ≠ "java/lang/invoke/MethodHandle" ∧ yX10_readExpression.cls ≠ "java/lang/invoke/VarHandle" ∧ (parseMethodDescriptor yX10_readExpression.desc).map (fun d => d.parameters.length) = some 1 := ⟨by decide +kernel, by decide +kernel, by decide +kernel⟩
theorem wq_890 : Cond.methodLink RX10 238 yX10_readExpression ∈ am_gw := am_i6 215 rfl rfl
theorem wq_891 : Cond.instanceMethod yX10_readExpression ∈ am_gw := am_i6 217 rfl rfl
theorem wq_892 : Cond.selects RX10 yX10_readExpression yX10_readExpression ∈ am_gw := am_inS 51 rfl rfl
theorem wq_893 : am_code mX10_readPart ∈ am_gw := am_i7 3 rfl rfl
theorem hy_X10_readPart : yX10_readPart.cls ≠ "java/lang/invoke/MethodHandle" ∧ yX10_readPart.cls ≠ "java/lang/invoke/VarHandle" ∧ (parseMethodDescriptor yX10_readPart.desc).map (fun d => d.parameters.length) = some 1 := ⟨by decide +kernel, by decide +kernel, by decide +kernel⟩
theorem wq_895 : Cond.methodLink RX10 241 yX10_readPart ∈ am_gw := am_i7 0 rfl rfl
theorem wq_896 : Cond.instanceMethod yX10_readPart ∈ am_gw := am_i7 2 rfl rfl
theorem wq_897 : Cond.selects RX10 yX10_readPart yX10_readPart ∈ am_gw := am_inS 57 rfl rfl
theorem wq_898 : am_code mX10_readProduct ∈ am_gw := am_i6 239 rfl rfl
theorem hy_X10_readProduct : yX10_readProduct.cls ≠ "java/lang/invoke/MethodHandle" ∧ yX10_readProduct.cls ≠ "java/lang/invoke/VarHandle" ∧ (parseMethodDescriptor yX10_readProduct.desc).map (fun d => d.parameters.length) = some 1 := ⟨by decide +kernel, by decide +kernel, by decide +kernel⟩
theorem wq_900 : Cond.methodLink RX10 244 yX10_readProduct ∈ am_gw := am_i6 236 rfl rfl
theorem wq_901 : Cond.instanceMethod yX10_readProduct ∈ am_gw := am_i6 238 rfl rfl
theorem wq_902 : Cond.selects RX10 yX10_readProduct yX10_readProduct ∈ am_gw := am_inS 56 rfl rfl
theorem wq_903 : am_code mX10_readSum ∈ am_gw := am_i6 235 rfl rfl
theorem hy_X10_readSum : yX10_readSum.cls ≠ "java/lang/invoke/MethodHandle" ∧ yX10_readSum.cls ≠ "java/lang/invoke/VarHandle" ∧ (parseMethodDescriptor yX10_readSum.desc).map (fun d => d.parameters.length) = some 1 := ⟨by decide +kernel, by decide +kernel, by decide +kernel⟩
theorem wq_905 : Cond.methodLink RX10 249 yX10_readSum ∈ am_gw := am_i6 232 rfl rfl
theorem wq_906 : Cond.instanceMethod yX10_readSum ∈ am_gw := am_i6 234 rfl rfl
theorem wq_907 : Cond.selects RX10 yX10_readSum yX10_readSum ∈ am_gw := am_inS 55 rfl rfl
theorem wq_908 : am_code mX10_readNot ∈ am_gw := am_i6 230 rfl rfl
theorem hy_X10_readNot : yX10_readNot.cls ≠ "java/lang/invoke/MethodHandle" ∧ yX10_readNot.cls ≠ "java/lang/invoke/VarHandle" ∧ (parseMethodDescriptor yX10_readNot.desc).map (fun d => d.parameters.length) = some 1 := ⟨by decide +kernel, by decide +kernel, by decide +kernel⟩
theorem wq_910 : Cond.methodLink RX10 252 yX10_readNot ∈ am_gw := am_i6 227 rfl rfl
theorem wq_911 : Cond.instanceMethod yX10_readNot ∈ am_gw := am_i6 229 rfl rfl
theorem wq_912 : Cond.selects RX10 yX10_readNot yX10_readNot ∈ am_gw := am_inS 54 rfl rfl
theorem wq_913 : am_code mX10_readAnd ∈ am_gw := am_i6 226 rfl rfl
theorem hy_X10_readAnd : yX10_readAnd.cls ≠ "java/lang/invoke/MethodHandle" ∧ yX10_readAnd.cls ≠ "java/lang/invoke/VarHandle" ∧ (parseMethodDescriptor yX10_readAnd.desc).map (fun d => d.parameters.length) = some 1 := ⟨by decide +kernel, by decide +kernel, by decide +kernel⟩
theorem wq_915 : Cond.methodLink RX10 257 yX10_readAnd ∈ am_gw := am_i6 223 rfl rfl
theorem wq_916 : Cond.instanceMethod yX10_readAnd ∈ am_gw := am_i6 225 rfl rfl
theorem wq_917 : Cond.selects RX10 yX10_readAnd yX10_readAnd ∈ am_gw := am_inS 53 rfl rfl
theorem wq_918 : am_code mX10_isTaken ∈ am_gw := am_i6 193 rfl rfl
theorem hy_X10_isTaken : yX10_isTaken.cls ≠ "java/lang/invoke/MethodHandle" ∧ yX10_isTaken.cls ≠ "java/lang/invoke/VarHandle" ∧ (parseMethodDescriptor yX10_isTaken.desc).map (fun d => d.parameters.length) = some 3 := ⟨by decide +kernel, by decide +kernel, by decide +kernel⟩
theorem wq_920 : Cond.methodLink RX10 262 yX10_isTaken ∈ am_gw := am_i6 190 rfl rfl
theorem wq_921 : Cond.instanceMethod yX10_isTaken ∈ am_gw := am_i6 192 rfl rfl
theorem wq_922 : Cond.selects RX10 yX10_isTaken yX10_isTaken ∈ am_gw := am_inS 46 rfl rfl
theorem wq_923 : am_code mX10_readOne ∈ am_gw := am_i6 203 rfl rfl
theorem hy_X10_readOne : yX10_readOne.cls ≠ "java/lang/invoke/MethodHandle" ∧ yX10_readOne.cls ≠ "java/lang/invoke/VarHandle" ∧ (parseMethodDescriptor yX10_readOne.desc).map (fun d => d.parameters.length) = some 1 := ⟨by decide +kernel, by decide +kernel, by decide +kernel⟩
theorem wq_925 : Cond.methodLink RX10 266 yX10_readOne ∈ am_gw := am_i6 200 rfl rfl
theorem wq_926 : Cond.instanceMethod yX10_readOne ∈ am_gw := am_i6 202 rfl rfl
theorem wq_927 : Cond.selects RX10 yX10_readOne yX10_readOne ∈ am_gw := am_inS 48 rfl rfl
theorem wq_928 : am_code mX10_passes ∈ am_gw := am_i6 208 rfl rfl
theorem hy_X10_passes : yX10_passes.cls ≠ "java/lang/invoke/MethodHandle" ∧ yX10_passes.cls ≠ "java/lang/invoke/VarHandle" ∧ (parseMethodDescriptor yX10_passes.desc).map (fun d => d.parameters.length) = some 1 := ⟨by decide +kernel, by decide +kernel, by decide +kernel⟩
theorem wq_930 : Cond.methodLink RX10 271 yX10_passes ∈ am_gw := am_i6 205 rfl rfl
theorem wq_931 : Cond.instanceMethod yX10_passes ∈ am_gw := am_i6 207 rfl rfl
theorem wq_932 : Cond.selects RX10 yX10_passes yX10_passes ∈ am_gw := am_inS 49 rfl rfl
theorem wq_933 : am_code mX10_readDrawer ∈ am_gw := am_i6 181 rfl rfl
theorem hy_X10_readDrawer : yX10_readDrawer.cls ≠ "java/lang/invoke/MethodHandle" ∧ yX10_readDrawer.cls ≠ "java/lang/invoke/VarHandle" ∧ (parseMethodDescriptor yX10_readDrawer.desc).map (fun d => d.parameters.length) = some 1 := ⟨by decide +kernel, by decide +kernel, by decide +kernel⟩
theorem wq_935 : Cond.methodLink RX10 277 yX10_readDrawer ∈ am_gw := am_i6 178 rfl rfl
theorem wq_936 : Cond.instanceMethod yX10_readDrawer ∈ am_gw := am_i6 180 rfl rfl
theorem wq_937 : Cond.selects RX10 yX10_readDrawer yX10_readDrawer ∈ am_gw := am_inS 43 rfl rfl
theorem wq_938 : am_code mX10_readPerson ∈ am_gw := am_i6 199 rfl rfl
theorem hy_X10_readPerson : yX10_readPerson.cls ≠ "java/lang/invoke/MethodHandle" ∧ yX10_readPerson.cls ≠ "java/lang/invoke/VarHandle" ∧ (parseMethodDescriptor yX10_readPerson.desc).map (fun d => d.parameters.length) = some 0 := ⟨by decide +kernel, by decide +kernel, by decide +kernel⟩
theorem wq_940 : Cond.methodLink RX10 282 yX10_readPerson ∈ am_gw := am_i6 196 rfl rfl
theorem wq_941 : Cond.instanceMethod yX10_readPerson ∈ am_gw := am_i6 198 rfl rfl
theorem wq_942 : Cond.selects RX10 yX10_readPerson yX10_readPerson ∈ am_gw := am_inS 47 rfl rfl
theorem wq_943 : am_code mX10_readRule ∈ am_gw := am_i6 214 rfl rfl
theorem hy_X10_readRule : yX10_readRule.cls ≠ "java/lang/invoke/MethodHandle" ∧ yX10_readRule.cls ≠ "java/lang/invoke/VarHandle" ∧ (parseMethodDescriptor yX10_readRule.desc).map (fun d => d.parameters.length) = some 0 := ⟨by decide +kernel, by decide +kernel, by decide +kernel⟩
theorem wq_945 : Cond.methodLink RX10 287 yX10_readRule ∈ am_gw := am_i6 211 rfl rfl
theorem wq_946 : Cond.instanceMethod yX10_readRule ∈ am_gw := am_i6 213 rfl rfl
theorem wq_947 : Cond.selects RX10 yX10_readRule yX10_readRule ∈ am_gw := am_inS 50 rfl rfl
theorem wq_948 : am_code mX10_readOnce ∈ am_gw := am_i7 17 rfl rfl
theorem hy_X10_readOnce : yX10_readOnce.cls ≠ "java/lang/invoke/MethodHandle" ∧ yX10_readOnce.cls ≠ "java/lang/invoke/VarHandle" ∧ (parseMethodDescriptor yX10_readOnce.desc).map (fun d => d.parameters.length) = some 1 := ⟨by decide +kernel, by decide +kernel, by decide +kernel⟩
theorem wq_950 : Cond.methodLink RX10 290 yX10_readOnce ∈ am_gw := am_i7 14 rfl rfl
theorem wq_951 : Cond.instanceMethod yX10_readOnce ∈ am_gw := am_i7 16 rfl rfl
theorem wq_952 : Cond.selects RX10 yX10_readOnce yX10_readOnce ∈ am_gw := am_inS 60 rfl rfl
theorem wq_953 : am_code mX10_fail ∈ am_gw := am_i6 139 rfl rfl
theorem hy_X10_fail : yX10_fail.cls ≠ "java/lang/invoke/MethodHandle" ∧ yX10_fail.cls ≠ "java/lang/invoke/VarHandle" ∧ (parseMethodDescriptor yX10_fail.desc).map (fun d => d.parameters.length) = some 1 := ⟨by decide +kernel, by decide +kernel, by decide +kernel⟩
theorem wq_955 : Cond.methodLink RX10 293 yX10_fail ∈ am_gw := am_i6 136 rfl rfl
theorem wq_956 : Cond.instanceMethod yX10_fail ∈ am_gw := am_i6 138 rfl rfl
theorem wq_957 : Cond.selects RX10 yX10_fail yX10_fail ∈ am_gw := am_inS 36 rfl rfl
theorem wq_958 : am_code mX10_readLine ∈ am_gw := am_i6 162 rfl rfl
theorem hy_X10_readLine : yX10_readLine.cls ≠ "java/lang/invoke/MethodHandle" ∧ yX10_readLine.cls ≠ "java/lang/invoke/VarHandle" ∧ (parseMethodDescriptor yX10_readLine.desc).map (fun d => d.parameters.length) = some 1 := ⟨by decide +kernel, by decide +kernel, by decide +kernel⟩
theorem wq_960 : Cond.methodLink RX10 296 yX10_readLine ∈ am_gw := am_i6 159 rfl rfl
theorem wq_961 : Cond.instanceMethod yX10_readLine ∈ am_gw := am_i6 161 rfl rfl
theorem wq_962 : Cond.selects RX10 yX10_readLine yX10_readLine ∈ am_gw := am_inS 39 rfl rfl
theorem wq_963 : am_code mX10_take ∈ am_gw := am_i7 21 rfl rfl
theorem hy_X10_take : yX10_take.cls ≠ "java/lang/invoke/MethodHandle" ∧ yX10_take.cls ≠ "java/lang/invoke/VarHandle" ∧ (parseMethodDescriptor yX10_take.desc).map (fun d => d.parameters.length) = some 0 := ⟨by decide +kernel, by decide +kernel, by decide +kernel⟩
theorem wq_965 : Cond.methodLink RX10 299 yX10_take ∈ am_gw := am_i7 18 rfl rfl
theorem wq_966 : Cond.instanceMethod yX10_take ∈ am_gw := am_i7 20 rfl rfl
theorem wq_967 : Cond.selects RX10 yX10_take yX10_take ∈ am_gw := am_inS 61 rfl rfl
theorem wq_968 : am_code mX10_takeHalf ∈ am_gw := am_i7 24 rfl rfl
theorem hy_X10_takeHalf : yX10_takeHalf.cls ≠ "java/lang/invoke/MethodHandle" ∧ yX10_takeHalf.cls ≠ "java/lang/invoke/VarHandle" ∧ (parseMethodDescriptor yX10_takeHalf.desc).map (fun d => d.parameters.length) = some 1 := ⟨by decide +kernel, by decide +kernel, by decide +kernel⟩
theorem wq_970 : Cond.methodLink RX10 302 yX10_takeHalf ∈ am_gw := am_i7 22 rfl rfl
theorem wq_971 : Cond.static yX10_takeHalf ∈ am_gw := am_i7 23 rfl rfl
theorem wq_972 : Cond.fieldLink RX10 306 (TX10 29).1 (TX10 29).2.1 (TX10 29).2.2.1 ∈ am_gw := am_i5 220 rfl rfl
theorem wq_973 : Cond.fieldLink RX10 308 (TX10 30).1 (TX10 30).2.1 (TX10 30).2.2.1 ∈ am_gw := am_i5 221 rfl rfl
theorem wq_974 : Cond.fieldLink RX10 311 (TX10 31).1 (TX10 31).2.1 (TX10 31).2.2.1 ∈ am_gw := am_i5 222 rfl rfl
theorem wq_975 : Cond.fieldLink RX10 314 (TX10 32).1 (TX10 32).2.1 (TX10 32).2.2.1 ∈ am_gw := am_i5 223 rfl rfl
theorem wq_976 : Cond.fieldLink RX10 317 (TX10 48).1 (TX10 48).2.1 (TX10 48).2.2.1 ∈ am_gw := am_i5 239 rfl rfl
theorem wq_977 : am_code mX10_reckon ∈ am_gw := am_i7 68 rfl rfl
theorem hy_X10_reckon : yX10_reckon.cls ≠ "java/lang/invoke/MethodHandle" ∧ yX10_reckon.cls ≠ "java/lang/invoke/VarHandle" ∧ (parseMethodDescriptor yX10_reckon.desc).map (fun d => d.parameters.length) = some 3 := ⟨by decide +kernel, by decide +kernel, by decide +kernel⟩
theorem wq_979 : Cond.methodLink RX10 321 yX10_reckon ∈ am_gw := am_i7 66 rfl rfl
theorem wq_980 : Cond.static yX10_reckon ∈ am_gw := am_i7 67 rfl rfl
theorem wq_981 : am_code mX10_bitsOf ∈ am_gw := am_i7 61 rfl rfl
theorem hy_X10_bitsOf : yX10_bitsOf.cls ≠ "java/lang/invoke/MethodHandle" ∧ yX10_bitsOf.cls ≠ "java/lang/invoke/VarHandle" ∧ (parseMethodDescriptor yX10_bitsOf.desc).map (fun d => d.parameters.length) = some 1 := ⟨by decide +kernel, by decide +kernel, by decide +kernel⟩
theorem wq_983 : Cond.methodLink RX10 325 yX10_bitsOf ∈ am_gw := am_i7 59 rfl rfl
theorem wq_984 : Cond.static yX10_bitsOf ∈ am_gw := am_i7 60 rfl rfl
theorem wq_985 : am_code mX10_has ∈ am_gw := am_i7 46 rfl rfl
theorem hy_X10_has : yX10_has.cls ≠ "java/lang/invoke/MethodHandle" ∧ yX10_has.cls ≠ "java/lang/invoke/VarHandle" ∧ (parseMethodDescriptor yX10_has.desc).map (fun d => d.parameters.length) = some 2 := ⟨by decide +kernel, by decide +kernel, by decide +kernel⟩
theorem wq_987 : Cond.methodLink RX10 328 yX10_has ∈ am_gw := am_i7 44 rfl rfl
theorem wq_988 : Cond.static yX10_has ∈ am_gw := am_i7 45 rfl rfl
theorem wq_989 : am_code mX10_shares ∈ am_gw := am_i7 50 rfl rfl
theorem hy_X10_shares : yX10_shares.cls ≠ "java/lang/invoke/MethodHandle" ∧ yX10_shares.cls ≠ "java/lang/invoke/VarHandle" ∧ (parseMethodDescriptor yX10_shares.desc).map (fun d => d.parameters.length) = some 2 := ⟨by decide +kernel, by decide +kernel, by decide +kernel⟩
theorem wq_991 : Cond.methodLink RX10 332 yX10_shares ∈ am_gw := am_i7 47 rfl rfl
theorem wq_992 : Cond.instanceMethod yX10_shares ∈ am_gw := am_i7 49 rfl rfl
theorem wq_993 : Cond.selects RX10 yX10_shares yX10_shares ∈ am_gw := am_inS 64 rfl rfl
theorem wq_994 : am_code mX10_ask ∈ am_gw := am_i7 58 rfl rfl
theorem hy_X10_ask : yX10_ask.cls ≠ "java/lang/invoke/MethodHandle" ∧ yX10_ask.cls ≠ "java/lang/invoke/VarHandle" ∧ (parseMethodDescriptor yX10_ask.desc).map (fun d => d.parameters.length) = some 2 := ⟨by decide +kernel, by decide +kernel, by decide +kernel⟩
theorem wq_996 : Cond.methodLink RX10 335 yX10_ask ∈ am_gw := am_i7 55 rfl rfl
theorem wq_997 : Cond.instanceMethod yX10_ask ∈ am_gw := am_i7 57 rfl rfl
theorem wq_998 : Cond.selects RX10 yX10_ask yX10_ask ∈ am_gw := am_inS 66 rfl rfl
theorem wq_999 : am_code mX10_holds ∈ am_gw := am_i7 65 rfl rfl
theorem hy_X10_holds : yX10_holds.cls ≠ "java/lang/invoke/MethodHandle" ∧ yX10_holds.cls ≠ "java/lang/invoke/VarHandle" ∧ (parseMethodDescriptor yX10_holds.desc).map (fun d => d.parameters.length) = some 1 := ⟨by decide +kernel, by decide +kernel, by decide +kernel⟩
theorem wq_1001 : Cond.methodLink RX10 339 yX10_holds ∈ am_gw := am_i7 62 rfl rfl
theorem wq_1002 : Cond.instanceMethod yX10_holds ∈ am_gw := am_i7 64 rfl rfl
theorem wq_1003 : Cond.selects RX10 yX10_holds yX10_holds ∈ am_gw := am_inS 67 rfl rfl
theorem wq_1004 : am_code mX10_brokenBy ∈ am_gw := am_i7 54 rfl rfl
theorem hy_X10_brokenBy : yX10_brokenBy.cls ≠ "java/lang/invoke/MethodHandle" ∧ yX10_brokenBy.cls ≠ "java/lang/invoke/VarHandle" ∧ (parseMethodDescriptor yX10_brokenBy.desc).map (fun d => d.parameters.length) = some 1 := ⟨by decide +kernel, by decide +kernel, by decide +kernel⟩
theorem wq_1006 : Cond.methodLink RX10 342 yX10_brokenBy ∈ am_gw := am_i7 51 rfl rfl
theorem wq_1007 : Cond.instanceMethod yX10_brokenBy ∈ am_gw := am_i7 53 rfl rfl
theorem wq_1008 : Cond.selects RX10 yX10_brokenBy yX10_brokenBy ∈ am_gw := am_inS 65 rfl rfl
theorem wq_1009 : am_code mX10_isReachedBy ∈ am_gw := am_i7 92 rfl rfl
theorem hy_X10_isReachedBy : yX10_isReachedBy.cls ≠ "java/lang/invoke/MethodHandle" ∧ yX10_isReachedBy.cls ≠ "java/lang/invoke/VarHandle" ∧ (parseMethodDescriptor yX10_isReachedBy.desc).map (fun d => d.parameters.length) = some 2 := ⟨by decide +kernel, by decide +kernel, by decide +kernel⟩
theorem wq_1011 : Cond.methodLink RX10 345 yX10_isReachedBy ∈ am_gw := am_i7 89 rfl rfl
theorem wq_1012 : Cond.instanceMethod yX10_isReachedBy ∈ am_gw := am_i7 91 rfl rfl
theorem wq_1013 : Cond.selects RX10 yX10_isReachedBy yX10_isReachedBy ∈ am_gw := am_inS 70 rfl rfl
theorem wq_1014 : am_code mX10_isSet ∈ am_gw := am_i7 36 rfl rfl
theorem hy_X10_isSet : yX10_isSet.cls ≠ "java/lang/invoke/MethodHandle" ∧ yX10_isSet.cls ≠ "java/lang/invoke/VarHandle" ∧ (parseMethodDescriptor yX10_isSet.desc).map (fun d => d.parameters.length) = some 1 := ⟨by decide +kernel, by decide +kernel, by decide +kernel⟩
theorem wq_1016 : Cond.methodLink RX10 348 yX10_isSet ∈ am_gw := am_i7 33 rfl rfl
theorem wq_1017 : Cond.instanceMethod yX10_isSet ∈ am_gw := am_i7 35 rfl rfl
theorem wq_1018 : Cond.selects RX10 yX10_isSet yX10_isSet ∈ am_gw := am_inS 62 rfl rfl
theorem wq_1019 : am_code mX10_canBe ∈ am_gw := am_i7 43 rfl rfl
theorem hy_X10_canBe : yX10_canBe.cls ≠ "java/lang/invoke/MethodHandle" ∧ yX10_canBe.cls ≠ "java/lang/invoke/VarHandle" ∧ (parseMethodDescriptor yX10_canBe.desc).map (fun d => d.parameters.length) = some 1 := ⟨by decide +kernel, by decide +kernel, by decide +kernel⟩
theorem wq_1021 : Cond.methodLink RX10 351 yX10_canBe ∈ am_gw := am_i7 40 rfl rfl
theorem wq_1022 : Cond.instanceMethod yX10_canBe ∈ am_gw := am_i7 42 rfl rfl
theorem wq_1023 : Cond.selects RX10 yX10_canBe yX10_canBe ∈ am_gw := am_inS 63 rfl rfl
theorem wq_1024 : am_code mX10_isDrawer ∈ am_gw := am_i7 84 rfl rfl
theorem hy_X10_isDrawer : yX10_isDrawer.cls ≠ "java/lang/invoke/MethodHandle" ∧ yX10_isDrawer.cls ≠ "java/lang/invoke/VarHandle" ∧ (parseMethodDescriptor yX10_isDrawer.desc).map (fun d => d.parameters.length) = some 1 := ⟨by decide +kernel, by decide +kernel, by decide +kernel⟩
theorem wq_1026 : Cond.methodLink RX10 354 yX10_isDrawer ∈ am_gw := am_i7 81 rfl rfl
theorem wq_1027 : Cond.instanceMethod yX10_isDrawer ∈ am_gw := am_i7 83 rfl rfl
theorem wq_1028 : Cond.selects RX10 yX10_isDrawer yX10_isDrawer ∈ am_gw := am_inS 68 rfl rfl
theorem wq_1029 : am_code mX10_reachedBy ∈ am_gw := am_i7 88 rfl rfl
theorem hy_X10_reachedBy : yX10_reachedBy.cls ≠ "java/lang/invoke/MethodHandle" ∧ yX10_reachedBy.cls ≠ "java/lang/invoke/VarHandle" ∧ (parseMethodDescriptor yX10_reachedBy.desc).map (fun d => d.parameters.length) = some 1 := ⟨by decide +kernel, by decide +kernel, by decide +kernel⟩
theorem wq_1031 : Cond.methodLink RX10 357 yX10_reachedBy ∈ am_gw := am_i7 85 rfl rfl
theorem wq_1032 : Cond.instanceMethod yX10_reachedBy ∈ am_gw := am_i7 87 rfl rfl
theorem wq_1033 : Cond.selects RX10 yX10_reachedBy yX10_reachedBy ∈ am_gw := am_inS 69 rfl rfl
theorem wq_1034 : am_code mX10_rentOf ∈ am_gw := am_i7 96 rfl rfl
theorem hy_X10_rentOf : yX10_rentOf.cls ≠ "java/lang/invoke/MethodHandle" ∧ yX10_rentOf.cls ≠ "java/lang/invoke/VarHandle" ∧ (parseMethodDescriptor yX10_rentOf.desc).map (fun d => d.parameters.length) = some 1 := ⟨by decide +kernel, by decide +kernel, by decide +kernel⟩
theorem wq_1036 : Cond.methodLink RX10 360 yX10_rentOf ∈ am_gw := am_i7 93 rfl rfl
theorem wq_1037 : Cond.instanceMethod yX10_rentOf ∈ am_gw := am_i7 95 rfl rfl
theorem wq_1038 : Cond.selects RX10 yX10_rentOf yX10_rentOf ∈ am_gw := am_inS 71 rfl rfl
theorem wq_1039 : am_code mX10_isPerson ∈ am_gw := am_i7 104 rfl rfl
theorem hy_X10_isPerson : yX10_isPerson.cls ≠ "java/lang/invoke/MethodHandle" ∧ yX10_isPerson.cls ≠ "java/lang/invoke/VarHandle" ∧ (parseMethodDescriptor yX10_isPerson.desc).map (fun d => d.parameters.length) = some 1 := ⟨by decide +kernel, by decide +kernel, by decide +kernel⟩
theorem wq_1041 : Cond.methodLink RX10 363 yX10_isPerson ∈ am_gw := am_i7 101 rfl rfl
theorem wq_1042 : Cond.instanceMethod yX10_isPerson ∈ am_gw := am_i7 103 rfl rfl
theorem wq_1043 : Cond.selects RX10 yX10_isPerson yX10_isPerson ∈ am_gw := am_inS 72 rfl rfl
theorem wq_1044 : am_code mX10_troubleOf ∈ am_gw := am_i7 112 rfl rfl
theorem hy_X10_troubleOf : yX10_troubleOf.cls ≠ "java/lang/invoke/MethodHandle" ∧ yX10_troubleOf.cls ≠ "java/lang/invoke/VarHandle" ∧ (parseMethodDescriptor yX10_troubleOf.desc).map (fun d => d.parameters.length) = some 1 := ⟨by decide +kernel, by decide +kernel, by decide +kernel⟩
theorem wq_1046 : Cond.methodLink RX10 366 yX10_troubleOf ∈ am_gw := am_i7 109 rfl rfl
theorem wq_1047 : Cond.instanceMethod yX10_troubleOf ∈ am_gw := am_i7 111 rfl rfl
theorem wq_1048 : Cond.selects RX10 yX10_troubleOf yX10_troubleOf ∈ am_gw := am_inS 73 rfl rfl
theorem wq_1049 : am_code mX10_feedBy ∈ am_gw := am_i7 116 rfl rfl
theorem hy_X10_feedBy : yX10_feedBy.cls ≠ "java/lang/invoke/MethodHandle" ∧ yX10_feedBy.cls ≠ "java/lang/invoke/VarHandle" ∧ (parseMethodDescriptor yX10_feedBy.desc).map (fun d => d.parameters.length) = some 2 := ⟨by decide +kernel, by decide +kernel, by decide +kernel⟩
theorem wq_1051 : Cond.methodLink RX10 369 yX10_feedBy ∈ am_gw := am_i7 113 rfl rfl
theorem wq_1052 : Cond.instanceMethod yX10_feedBy ∈ am_gw := am_i7 115 rfl rfl
theorem wq_1053 : Cond.selects RX10 yX10_feedBy yX10_feedBy ∈ am_gw := am_inS 74 rfl rfl
theorem wq_1054 : Cond.fieldLink RX10 372 (TX10 44).1 (TX10 44).2.1 (TX10 44).2.2.1 ∈ am_gw := am_i5 235 rfl rfl
theorem wq_1055 : am_code mX10_goOn ∈ am_gw := am_i7 140 rfl rfl
theorem hy_X10_goOn : yX10_goOn.cls ≠ "java/lang/invoke/MethodHandle" ∧ yX10_goOn.cls ≠ "java/lang/invoke/VarHandle" ∧ (parseMethodDescriptor yX10_goOn.desc).map (fun d => d.parameters.length) = some 2 := ⟨by decide +kernel, by decide +kernel, by decide +kernel⟩
theorem wq_1057 : Cond.methodLink RX10 375 yX10_goOn ∈ am_gw := am_i7 137 rfl rfl
theorem wq_1058 : Cond.instanceMethod yX10_goOn ∈ am_gw := am_i7 139 rfl rfl
theorem wq_1059 : Cond.selects RX10 yX10_goOn yX10_goOn ∈ am_gw := am_inS 77 rfl rfl
theorem wq_1060 : am_code mX10_wanting ∈ am_gw := am_i7 152 rfl rfl
theorem hy_X10_wanting : yX10_wanting.cls ≠ "java/lang/invoke/MethodHandle" ∧ yX10_wanting.cls ≠ "java/lang/invoke/VarHandle" ∧ (parseMethodDescriptor yX10_wanting.desc).map (fun d => d.parameters.length) = some 0 := ⟨by decide +kernel, by decide +kernel, by decide +kernel⟩
theorem wq_1062 : Cond.methodLink RX10 378 yX10_wanting ∈ am_gw := am_i7 149 rfl rfl
theorem wq_1063 : Cond.instanceMethod yX10_wanting ∈ am_gw := am_i7 151 rfl rfl
theorem wq_1064 : Cond.selects RX10 yX10_wanting yX10_wanting ∈ am_gw := am_inS 80 rfl rfl
theorem wq_1065 : am_code mX10_isWanted ∈ am_gw := am_i7 148 rfl rfl
theorem hy_X10_isWanted : yX10_isWanted.cls ≠ "java/lang/invoke/MethodHandle" ∧ yX10_isWanted.cls ≠ "java/lang/invoke/VarHandle" ∧ (parseMethodDescriptor yX10_isWanted.desc).map (fun d => d.parameters.length) = some 3 := ⟨by decide +kernel, by decide +kernel, by decide +kernel⟩
theorem wq_1067 : Cond.methodLink RX10 381 yX10_isWanted ∈ am_gw := am_i7 145 rfl rfl
theorem wq_1068 : Cond.instanceMethod yX10_isWanted ∈ am_gw := am_i7 147 rfl rfl
theorem wq_1069 : Cond.selects RX10 yX10_isWanted yX10_isWanted ∈ am_gw := am_inS 79 rfl rfl
theorem wq_1070 : am_code mX10_seek ∈ am_gw := am_i7 136 rfl rfl
theorem hy_X10_seek : yX10_seek.cls ≠ "java/lang/invoke/MethodHandle" ∧ yX10_seek.cls ≠ "java/lang/invoke/VarHandle" ∧ (parseMethodDescriptor yX10_seek.desc).map (fun d => d.parameters.length) = some 1 := ⟨by decide +kernel, by decide +kernel, by decide +kernel⟩
theorem wq_1072 : Cond.methodLink RX10 384 yX10_seek ∈ am_gw := am_i7 133 rfl rfl
theorem wq_1073 : Cond.instanceMethod yX10_seek ∈ am_gw := am_i7 135 rfl rfl
theorem wq_1074 : Cond.selects RX10 yX10_seek yX10_seek ∈ am_gw := am_inS 76 rfl rfl
theorem wq_1075 : am_code mX10_soonest ∈ am_gw := am_i7 144 rfl rfl
theorem hy_X10_soonest : yX10_soonest.cls ≠ "java/lang/invoke/MethodHandle" ∧ yX10_soonest.cls ≠ "java/lang/invoke/VarHandle" ∧ (parseMethodDescriptor yX10_soonest.desc).map (fun d => d.parameters.length) = some 2 := ⟨by decide +kernel, by decide +kernel, by decide +kernel⟩
theorem wq_1077 : Cond.methodLink RX10 387 yX10_soonest ∈ am_gw := am_i7 141 rfl rfl
theorem wq_1078 : Cond.instanceMethod yX10_soonest ∈ am_gw := am_i7 143 rfl rfl
theorem wq_1079 : Cond.selects RX10 yX10_soonest yX10_soonest ∈ am_gw := am_inS 78 rfl rfl
theorem wq_1080 : am_code mX10_howSoon ∈ am_gw := am_i7 132 rfl rfl
theorem hy_X10_howSoon : yX10_howSoon.cls ≠ "java/lang/invoke/MethodHandle" ∧ yX10_howSoon.cls ≠ "java/lang/invoke/VarHandle" ∧ (parseMethodDescriptor yX10_howSoon.desc).map (fun d => d.parameters.length) = some 2 := ⟨by decide +kernel, by decide +kernel, by decide +kernel⟩
theorem wq_1082 : Cond.methodLink RX10 390 yX10_howSoon ∈ am_gw := am_i7 129 rfl rfl
theorem wq_1083 : Cond.instanceMethod yX10_howSoon ∈ am_gw := am_i7 131 rfl rfl
theorem wq_1084 : Cond.selects RX10 yX10_howSoon yX10_howSoon ∈ am_gw := am_inS 75 rfl rfl
theorem wq_1085 : am_code mX10_everOut ∈ am_gw := am_i7 172 rfl rfl
theorem hy_X10_everOut : yX10_everOut.cls ≠ "java/lang/invoke/MethodHandle" ∧ yX10_everOut.cls ≠ "java/lang/invoke/VarHandle" ∧ (parseMethodDescriptor yX10_everOut.desc).map (fun d => d.parameters.length) = some 2 := ⟨by decide +kernel, by decide +kernel, by decide +kernel⟩
theorem wq_1087 : Cond.methodLink RX10 393 yX10_everOut ∈ am_gw := am_i7 169 rfl rfl
theorem wq_1088 : Cond.instanceMethod yX10_everOut ∈ am_gw := am_i7 171 rfl rfl
theorem wq_1089 : Cond.selects RX10 yX10_everOut yX10_everOut ∈ am_gw := am_inS 81 rfl rfl
theorem wq_1090 : Cond.methodLink RX10 396 yJ9_abs_0f7a4 ∈ am_gw := am_i7 181 rfl rfl
theorem wq_1091 : am_code mX10_canMarry ∈ am_gw := am_i7 180 rfl rfl
theorem hy_X10_canMarry : yX10_canMarry.cls ≠ "java/lang/invoke/MethodHandle" ∧ yX10_canMarry.cls ≠ "java/lang/invoke/VarHandle" ∧ (parseMethodDescriptor yX10_canMarry.desc).map (fun d => d.parameters.length) = some 2 := ⟨by decide +kernel, by decide +kernel, by decide +kernel⟩
theorem wq_1093 : Cond.methodLink RX10 399 yX10_canMarry ∈ am_gw := am_i7 177 rfl rfl
theorem wq_1094 : Cond.instanceMethod yX10_canMarry ∈ am_gw := am_i7 179 rfl rfl
theorem wq_1095 : Cond.selects RX10 yX10_canMarry yX10_canMarry ∈ am_gw := am_inS 82 rfl rfl
theorem wq_1096 : am_code mX10_soonBread ∈ am_gw := am_i7 185 rfl rfl
theorem hy_X10_soonBread : yX10_soonBread.cls ≠ "java/lang/invoke/MethodHandle" ∧ yX10_soonBread.cls ≠ "java/lang/invoke/VarHandle" ∧ (parseMethodDescriptor yX10_soonBread.desc).map (fun d => d.parameters.length) = some 1 := ⟨by decide +kernel, by decide +kernel, by decide +kernel⟩
theorem wq_1098 : Cond.methodLink RX10 402 yX10_soonBread ∈ am_gw := am_i7 182 rfl rfl
theorem wq_1099 : Cond.instanceMethod yX10_soonBread ∈ am_gw := am_i7 184 rfl rfl
theorem wq_1100 : Cond.selects RX10 yX10_soonBread yX10_soonBread ∈ am_gw := am_inS 83 rfl rfl
theorem wq_1101 : Cond.methodLink RX10 405 yJ9_max_7cf53 ∈ am_gw := am_i7 186 rfl rfl
theorem wq_1102 : Cond.fieldLink RX10 408 (TX10 47).1 (TX10 47).2.1 (TX10 47).2.2.1 ∈ am_gw := am_i5 238 rfl rfl
theorem wq_1103 : Cond.constant RX10 411 1103515245 ∈ am_gw := am_i7 195 rfl rfl
theorem wq_1104 : am_code mX10_slam ∈ am_gw := am_i7 199 rfl rfl
theorem hy_X10_slam : yX10_slam.cls ≠ "java/lang/invoke/MethodHandle" ∧ yX10_slam.cls ≠ "java/lang/invoke/VarHandle" ∧ (parseMethodDescriptor yX10_slam.desc).map (fun d => d.parameters.length) = some 1 := ⟨by decide +kernel, by decide +kernel, by decide +kernel⟩
theorem wq_1106 : Cond.methodLink RX10 412 yX10_slam ∈ am_gw := am_i7 196 rfl rfl
theorem wq_1107 : Cond.instanceMethod yX10_slam ∈ am_gw := am_i7 198 rfl rfl
theorem wq_1108 : Cond.selects RX10 yX10_slam yX10_slam ∈ am_gw := am_inS 84 rfl rfl
theorem wq_1109 : am_code mX10_columnsApart ∈ am_gw := am_i7 211 rfl rfl
theorem hy_X10_columnsApart : yX10_columnsApart.cls ≠ "java/lang/invoke/MethodHandle" ∧ yX10_columnsApart.cls ≠ "java/lang/invoke/VarHandle" ∧ (parseMethodDescriptor yX10_columnsApart.desc).map (fun d => d.parameters.length) = some 2 := ⟨by decide +kernel, by decide +kernel, by decide +kernel⟩
theorem wq_1111 : Cond.methodLink RX10 415 yX10_columnsApart ∈ am_gw := am_i7 208 rfl rfl
theorem wq_1112 : Cond.instanceMethod yX10_columnsApart ∈ am_gw := am_i7 210 rfl rfl
theorem wq_1113 : Cond.selects RX10 yX10_columnsApart yX10_columnsApart ∈ am_gw := am_inS 86 rfl rfl
theorem wq_1114 : am_code mX10_whoCould ∈ am_gw := am_i7 207 rfl rfl
theorem hy_X10_whoCould : yX10_whoCould.cls ≠ "java/lang/invoke/MethodHandle" ∧ yX10_whoCould.cls ≠ "java/lang/invoke/VarHandle" ∧ (parseMethodDescriptor yX10_whoCould.desc).map (fun d => d.parameters.length) = some 1 := ⟨by decide +kernel, by decide +kernel, by decide +kernel⟩
theorem wq_1116 : Cond.methodLink RX10 418 yX10_whoCould ∈ am_gw := am_i7 204 rfl rfl
theorem wq_1117 : Cond.instanceMethod yX10_whoCould ∈ am_gw := am_i7 206 rfl rfl
theorem wq_1118 : Cond.selects RX10 yX10_whoCould yX10_whoCould ∈ am_gw := am_inS 85 rfl rfl
theorem wq_1119 : am_code mX10_common ∈ am_gw := am_i7 218 rfl rfl
theorem hy_X10_common : yX10_common.cls ≠ "java/lang/invoke/MethodHandle" ∧ yX10_common.cls ≠ "java/lang/invoke/VarHandle" ∧ (parseMethodDescriptor yX10_common.desc).map (fun d => d.parameters.length) = some 2 := ⟨by decide +kernel, by decide +kernel, by decide +kernel⟩
theorem wq_1121 : Cond.methodLink RX10 421 yX10_common ∈ am_gw := am_i7 216 rfl rfl
theorem wq_1122 : Cond.static yX10_common ∈ am_gw := am_i7 217 rfl rfl
theorem wq_1123 : Cond.fieldLink RX10 424 (TX10 49).1 (TX10 49).2.1 (TX10 49).2.2.1 ∈ am_gw := am_i6 0 rfl rfl
theorem wq_1124 : Cond.fieldLink RX10 427 (TX10 50).1 (TX10 50).2.1 (TX10 50).2.2.1 ∈ am_gw := am_i6 1 rfl rfl
theorem wq_1125 : Cond.fieldLink RX10 430 (TX10 51).1 (TX10 51).2.1 (TX10 51).2.2.1 ∈ am_gw := am_i6 2 rfl rfl
theorem wq_1126 : Cond.fieldLink RX10 433 (TX10 52).1 (TX10 52).2.1 (TX10 52).2.2.1 ∈ am_gw := am_i6 3 rfl rfl
theorem wq_1127 : am_code mX10_be ∈ am_gw := am_i7 225 rfl rfl
theorem hy_X10_be : yX10_be.cls ≠ "java/lang/invoke/MethodHandle" ∧ yX10_be.cls ≠ "java/lang/invoke/VarHandle" ∧ (parseMethodDescriptor yX10_be.desc).map (fun d => d.parameters.length) = some 2 := ⟨by decide +kernel, by decide +kernel, by decide +kernel⟩
theorem wq_1129 : Cond.methodLink RX10 436 yX10_be ∈ am_gw := am_i7 223 rfl rfl
theorem wq_1130 : Cond.static yX10_be ∈ am_gw := am_i7 224 rfl rfl
theorem wq_1131 : am_code mX9_city ∈ am_gw := am_i2 237 rfl rfl
theorem hy_X9_city : yX9_city.cls ≠ "java/lang/invoke/MethodHandle" ∧ yX9_city.cls ≠ "java/lang/invoke/VarHandle" ∧ (parseMethodDescriptor yX9_city.desc).map (fun d => d.parameters.length) = some 1 := ⟨by decide +kernel, by decide +kernel, by decide +kernel⟩
theorem wq_1133 : Cond.methodLink RL 7 yX9_city ∈ am_gw := am_i2 234 rfl rfl
theorem wq_1134 : Cond.instanceMethod yX9_city ∈ am_gw := am_i2 235 rfl rfl
theorem wq_1135 : Cond.selects RX9 yX9_city yX9_city ∈ am_gw := am_i2 236 rfl rfl
theorem wq_1136 : am_code mX9_count ∈ am_gw := am_i4 219 rfl rfl
theorem hy_X9_count : yX9_count.cls ≠ "java/lang/invoke/MethodHandle" ∧ yX9_count.cls ≠ "java/lang/invoke/VarHandle" ∧ (parseMethodDescriptor yX9_count.desc).map (fun d => d.parameters.length) = some 1 := ⟨by decide +kernel, by decide +kernel, by decide +kernel⟩
theorem wq_1138 : Cond.methodLink RL 15 yX9_count ∈ am_gw := am_i4 216 rfl rfl
theorem wq_1139 : Cond.instanceMethod yX9_count ∈ am_gw := am_i4 217 rfl rfl
theorem wq_1140 : Cond.selects RX9 yX9_count yX9_count ∈ am_gw := am_i4 218 rfl rfl
theorem wq_1141 : am_code mX9_drawer ∈ am_gw := am_i5 2 rfl rfl
theorem hy_X9_drawer : yX9_drawer.cls ≠ "java/lang/invoke/MethodHandle" ∧ yX9_drawer.cls ≠ "java/lang/invoke/VarHandle" ∧ (parseMethodDescriptor yX9_drawer.desc).map (fun d => d.parameters.length) = some 2 := ⟨by decide +kernel, by decide +kernel, by decide +kernel⟩
theorem wq_1143 : Cond.methodLink RL 20 yX9_drawer ∈ am_gw := am_i4 239 rfl rfl
theorem wq_1144 : Cond.instanceMethod yX9_drawer ∈ am_gw := am_i5 0 rfl rfl
theorem wq_1145 : Cond.selects RX9 yX9_drawer yX9_drawer ∈ am_gw := am_i5 1 rfl rfl
theorem wq_1146 : am_code mX9_person ∈ am_gw := am_i5 16 rfl rfl
theorem hy_X9_person : yX9_person.cls ≠ "java/lang/invoke/MethodHandle" ∧ yX9_person.cls ≠ "java/lang/invoke/VarHandle" ∧ (parseMethodDescriptor yX9_person.desc).map (fun d => d.parameters.length) = some 2 := ⟨by decide +kernel, by decide +kernel, by decide +kernel⟩
theorem wq_1148 : Cond.methodLink RL 24 yX9_person ∈ am_gw := am_i5 13 rfl rfl
theorem wq_1149 : Cond.instanceMethod yX9_person ∈ am_gw := am_i5 14 rfl rfl
theorem wq_1150 : Cond.selects RX9 yX9_person yX9_person ∈ am_gw := am_i5 15 rfl rfl
theorem wq_1151 : am_code mX9_may ∈ am_gw := am_i5 29 rfl rfl
theorem hy_X9_may : yX9_may.cls ≠ "java/lang/invoke/MethodHandle" ∧ yX9_may.cls ≠ "java/lang/invoke/VarHandle" ∧ (parseMethodDescriptor yX9_may.desc).map (fun d => d.parameters.length) = some 1 := ⟨by decide +kernel, by decide +kernel, by decide +kernel⟩
theorem wq_1153 : Cond.methodLink RL 27 yX9_may ∈ am_gw := am_i5 26 rfl rfl
theorem wq_1154 : Cond.instanceMethod yX9_may ∈ am_gw := am_i5 27 rfl rfl
theorem wq_1155 : Cond.selects RX9 yX9_may yX9_may ∈ am_gw := am_i5 28 rfl rfl
theorem wq_1156 : am_code mX9_broken ∈ am_gw := am_i5 42 rfl rfl
theorem hy_X9_broken : yX9_broken.cls ≠ "java/lang/invoke/MethodHandle" ∧ yX9_broken.cls ≠ "java/lang/invoke/VarHandle" ∧ (parseMethodDescriptor yX9_broken.desc).map (fun d => d.parameters.length) = some 1 := ⟨by decide +kernel, by decide +kernel, by decide +kernel⟩
theorem wq_1158 : Cond.methodLink RL 31 yX9_broken ∈ am_gw := am_i5 39 rfl rfl
theorem wq_1159 : Cond.instanceMethod yX9_broken ∈ am_gw := am_i5 40 rfl rfl
theorem wq_1160 : Cond.selects RX9 yX9_broken yX9_broken ∈ am_gw := am_i5 41 rfl rfl
theorem wq_1161 : am_code mX9_sleeps ∈ am_gw := am_i5 50 rfl rfl
theorem hy_X9_sleeps : yX9_sleeps.cls ≠ "java/lang/invoke/MethodHandle" ∧ yX9_sleeps.cls ≠ "java/lang/invoke/VarHandle" ∧ (parseMethodDescriptor yX9_sleeps.desc).map (fun d => d.parameters.length) = some 2 := ⟨by decide +kernel, by decide +kernel, by decide +kernel⟩
theorem wq_1163 : Cond.methodLink RL 34 yX9_sleeps ∈ am_gw := am_i5 47 rfl rfl
theorem wq_1164 : Cond.instanceMethod yX9_sleeps ∈ am_gw := am_i5 48 rfl rfl
theorem wq_1165 : Cond.selects RX9 yX9_sleeps yX9_sleeps ∈ am_gw := am_i5 49 rfl rfl
theorem wq_1166 : am_code mX9_opens ∈ am_gw := am_i5 57 rfl rfl
theorem hy_X9_opens : yX9_opens.cls ≠ "java/lang/invoke/MethodHandle" ∧ yX9_opens.cls ≠ "java/lang/invoke/VarHandle" ∧ (parseMethodDescriptor yX9_opens.desc).map (fun d => d.parameters.length) = some 1 := ⟨by decide +kernel, by decide +kernel, by decide +kernel⟩
theorem wq_1168 : Cond.methodLink RL 38 yX9_opens ∈ am_gw := am_i5 54 rfl rfl
theorem wq_1169 : Cond.instanceMethod yX9_opens ∈ am_gw := am_i5 55 rfl rfl
theorem wq_1170 : Cond.selects RX9 yX9_opens yX9_opens ∈ am_gw := am_i5 56 rfl rfl
theorem wq_1171 : am_code mX9_shuts ∈ am_gw := am_i5 64 rfl rfl
theorem hy_X9_shuts : yX9_shuts.cls ≠ "java/lang/invoke/MethodHandle" ∧ yX9_shuts.cls ≠ "java/lang/invoke/VarHandle" ∧ (parseMethodDescriptor yX9_shuts.desc).map (fun d => d.parameters.length) = some 1 := ⟨by decide +kernel, by decide +kernel, by decide +kernel⟩
theorem wq_1173 : Cond.methodLink RL 41 yX9_shuts ∈ am_gw := am_i5 61 rfl rfl
theorem wq_1174 : Cond.instanceMethod yX9_shuts ∈ am_gw := am_i5 62 rfl rfl
theorem wq_1175 : Cond.selects RX9 yX9_shuts yX9_shuts ∈ am_gw := am_i5 63 rfl rfl
theorem wq_1176 : am_code mX9_row ∈ am_gw := am_i5 71 rfl rfl
theorem hy_X9_row : yX9_row.cls ≠ "java/lang/invoke/MethodHandle" ∧ yX9_row.cls ≠ "java/lang/invoke/VarHandle" ∧ (parseMethodDescriptor yX9_row.desc).map (fun d => d.parameters.length) = some 1 := ⟨by decide +kernel, by decide +kernel, by decide +kernel⟩
theorem wq_1178 : Cond.methodLink RL 44 yX9_row ∈ am_gw := am_i5 68 rfl rfl
theorem wq_1179 : Cond.instanceMethod yX9_row ∈ am_gw := am_i5 69 rfl rfl
theorem wq_1180 : Cond.selects RX9 yX9_row yX9_row ∈ am_gw := am_i5 70 rfl rfl
theorem wq_1181 : am_code mX9_harm ∈ am_gw := am_i5 80 rfl rfl
theorem hy_X9_harm : yX9_harm.cls ≠ "java/lang/invoke/MethodHandle" ∧ yX9_harm.cls ≠ "java/lang/invoke/VarHandle" ∧ (parseMethodDescriptor yX9_harm.desc).map (fun d => d.parameters.length) = some 1 := ⟨by decide +kernel, by decide +kernel, by decide +kernel⟩
theorem wq_1183 : Cond.methodLink RL 47 yX9_harm ∈ am_gw := am_i5 77 rfl rfl
theorem wq_1184 : Cond.instanceMethod yX9_harm ∈ am_gw := am_i5 78 rfl rfl
theorem wq_1185 : Cond.selects RX9 yX9_harm yX9_harm ∈ am_gw := am_i5 79 rfl rfl
theorem wq_1186 : am_code mX9_married ∈ am_gw := am_i5 93 rfl rfl
theorem hy_X9_married : yX9_married.cls ≠ "java/lang/invoke/MethodHandle" ∧ yX9_married.cls ≠ "java/lang/invoke/VarHandle" ∧ (parseMethodDescriptor yX9_married.desc).map (fun d => d.parameters.length) = some 2 := ⟨by decide +kernel, by decide +kernel, by decide +kernel⟩
theorem wq_1188 : Cond.methodLink RL 50 yX9_married ∈ am_gw := am_i5 90 rfl rfl
theorem wq_1189 : Cond.instanceMethod yX9_married ∈ am_gw := am_i5 91 rfl rfl
theorem wq_1190 : Cond.selects RX9 yX9_married yX9_married ∈ am_gw := am_i5 92 rfl rfl
theorem wq_1191 : am_code mX9_wind ∈ am_gw := am_i5 131 rfl rfl
theorem hy_X9_wind : yX9_wind.cls ≠ "java/lang/invoke/MethodHandle" ∧ yX9_wind.cls ≠ "java/lang/invoke/VarHandle" ∧ (parseMethodDescriptor yX9_wind.desc).map (fun d => d.parameters.length) = some 2 := ⟨by decide +kernel, by decide +kernel, by decide +kernel⟩
theorem wq_1193 : Cond.methodLink RL 53 yX9_wind ∈ am_gw := am_i5 128 rfl rfl
theorem wq_1194 : Cond.instanceMethod yX9_wind ∈ am_gw := am_i5 129 rfl rfl
theorem wq_1195 : Cond.selects RX9 yX9_wind yX9_wind ∈ am_gw := am_i5 130 rfl rfl
theorem wq_1196 : am_code mX9_who ∈ am_gw := am_i5 144 rfl rfl
theorem hy_X9_who : yX9_who.cls ≠ "java/lang/invoke/MethodHandle" ∧ yX9_who.cls ≠ "java/lang/invoke/VarHandle" ∧ (parseMethodDescriptor yX9_who.desc).map (fun d => d.parameters.length) = some 1 := ⟨by decide +kernel, by decide +kernel, by decide +kernel⟩
theorem wq_1198 : Cond.methodLink RL 56 yX9_who ∈ am_gw := am_i5 141 rfl rfl
theorem wq_1199 : Cond.instanceMethod yX9_who ∈ am_gw := am_i5 142 rfl rfl
theorem wq_1200 : Cond.selects RX9 yX9_who yX9_who ∈ am_gw := am_i5 143 rfl rfl
theorem wq_1201 : am_code mX9_odds ∈ am_gw := am_i5 159 rfl rfl
theorem hy_X9_odds : yX9_odds.cls ≠ "java/lang/invoke/MethodHandle" ∧ yX9_odds.cls ≠ "java/lang/invoke/VarHandle" ∧ (parseMethodDescriptor yX9_odds.desc).map (fun d => d.parameters.length) = some 3 := ⟨by decide +kernel, by decide +kernel, by decide +kernel⟩
theorem wq_1203 : Cond.methodLink RL 59 yX9_odds ∈ am_gw := am_i5 156 rfl rfl
theorem wq_1204 : Cond.instanceMethod yX9_odds ∈ am_gw := am_i5 157 rfl rfl
theorem wq_1205 : Cond.selects RX9 yX9_odds yX9_odds ∈ am_gw := am_i5 158 rfl rfl
theorem wq_1206 : Cond.classLink RL 8 "DrawerWall" ∈ am_gw := am_i1 26 rfl rfl
theorem wq_1207 : Cond.instantiable RX9 11 ∈ am_gw := am_i1 27 rfl rfl
theorem wq_1208 : am_code mX9_init ∈ am_gw := am_i1 30 rfl rfl
theorem hy_X9_init : yX9_init.cls ≠ "java/lang/invoke/MethodHandle" ∧ yX9_init.cls ≠ "java/lang/invoke/VarHandle" ∧ (parseMethodDescriptor yX9_init.desc).map (fun d => d.parameters.length) = some 0 := ⟨by decide +kernel, by decide +kernel, by decide +kernel⟩
theorem wq_1210 : Cond.instanceMethod yX9_init ∈ am_gw := am_i1 29 rfl rfl
theorem wq_1211 : Cond.methodLink RL 63 yX9_init ∈ am_gw := am_i1 28 rfl rfl
theorem wq_1212 : Cond.classLink RL 64 "DrawerWallModel" ∈ am_gw := am_i5 168 rfl rfl
theorem wq_1213 : Cond.instantiable RX10 57 ∈ am_gw := am_i5 169 rfl rfl
theorem wq_1214 : am_code mX10_init ∈ am_gw := am_i5 172 rfl rfl
theorem hy_X10_init : yX10_init.cls ≠ "java/lang/invoke/MethodHandle" ∧ yX10_init.cls ≠ "java/lang/invoke/VarHandle" ∧ (parseMethodDescriptor yX10_init.desc).map (fun d => d.parameters.length) = some 0 := ⟨by decide +kernel, by decide +kernel, by decide +kernel⟩
theorem wq_1216 : Cond.instanceMethod yX10_init ∈ am_gw := am_i5 171 rfl rfl
theorem wq_1217 : Cond.methodLink RL 66 yX10_init ∈ am_gw := am_i5 170 rfl rfl
theorem wq_1218 : Cond.arrayClass .long ∈ am_gw := am_i7 230 rfl rfl
theorem wq_1219 : am_code mX9_feed ∈ am_gw := am_i2 71 rfl rfl
theorem hy_X9_feed : yX9_feed.cls ≠ "java/lang/invoke/MethodHandle" ∧ yX9_feed.cls ≠ "java/lang/invoke/VarHandle" ∧ (parseMethodDescriptor yX9_feed.desc).map (fun d => d.parameters.length) = some 5 := ⟨by decide +kernel, by decide +kernel, by decide +kernel⟩
theorem wq_1221 : Cond.methodLink RL 67 yX9_feed ∈ am_gw := am_i2 68 rfl rfl
theorem wq_1222 : Cond.instanceMethod yX9_feed ∈ am_gw := am_i2 69 rfl rfl
theorem wq_1223 : Cond.selects RX9 yX9_feed yX9_feed ∈ am_gw := am_i2 70 rfl rfl
theorem wq_1224 : am_code mX10_feed ∈ am_gw := am_i6 131 rfl rfl
theorem hy_X10_feed : yX10_feed.cls ≠ "java/lang/invoke/MethodHandle" ∧ yX10_feed.cls ≠ "java/lang/invoke/VarHandle" ∧ (parseMethodDescriptor yX10_feed.desc).map (fun d => d.parameters.length) = some 5 := ⟨by decide +kernel, by decide +kernel, by decide +kernel⟩
theorem wq_1226 : Cond.methodLink RL 71 yX10_feed ∈ am_gw := am_i6 128 rfl rfl
theorem wq_1227 : Cond.instanceMethod yX10_feed ∈ am_gw := am_i6 129 rfl rfl
theorem wq_1228 : Cond.selects RX10 yX10_feed yX10_feed ∈ am_gw := am_i6 130 rfl rfl
theorem wq_1229 : am_code mL_city ∈ am_gw := am_i2 232 rfl rfl
theorem wq_1230 : Cond.initialized RL ∈ am_gw := am_i1 0 rfl rfl
theorem hy_L_city : yL_city.cls ≠ "java/lang/invoke/MethodHandle" ∧ yL_city.cls ≠ "java/lang/invoke/VarHandle" ∧ (parseMethodDescriptor yL_city.desc).map (fun d => d.parameters.length) = some 3 := ⟨by decide +kernel, by decide +kernel, by decide +kernel⟩
theorem wq_1232 : Cond.methodLink RL 72 yL_city ∈ am_gw := am_i2 230 rfl rfl
theorem wq_1233 : Cond.static yL_city ∈ am_gw := am_i2 231 rfl rfl
theorem wq_1234 : am_code mX10_city ∈ am_gw := am_i6 135 rfl rfl
theorem hy_X10_city : yX10_city.cls ≠ "java/lang/invoke/MethodHandle" ∧ yX10_city.cls ≠ "java/lang/invoke/VarHandle" ∧ (parseMethodDescriptor yX10_city.desc).map (fun d => d.parameters.length) = some 1 := ⟨by decide +kernel, by decide +kernel, by decide +kernel⟩
theorem wq_1236 : Cond.methodLink RL 77 yX10_city ∈ am_gw := am_i6 132 rfl rfl
theorem wq_1237 : Cond.instanceMethod yX10_city ∈ am_gw := am_i6 133 rfl rfl
theorem wq_1238 : Cond.selects RX10 yX10_city yX10_city ∈ am_gw := am_i6 134 rfl rfl
theorem wq_1239 : am_code mX10_thrown ∈ am_gw := am_i6 127 rfl rfl
theorem hy_X10_thrown : yX10_thrown.cls ≠ "java/lang/invoke/MethodHandle" ∧ yX10_thrown.cls ≠ "java/lang/invoke/VarHandle" ∧ (parseMethodDescriptor yX10_thrown.desc).map (fun d => d.parameters.length) = some 0 := ⟨by decide +kernel, by decide +kernel, by decide +kernel⟩
theorem wq_1241 : Cond.methodLink RL 78 yX10_thrown ∈ am_gw := am_i6 124 rfl rfl
theorem wq_1242 : Cond.instanceMethod yX10_thrown ∈ am_gw := am_i6 125 rfl rfl
theorem wq_1243 : Cond.selects RX10 yX10_thrown yX10_thrown ∈ am_gw := am_i6 126 rfl rfl
theorem wq_1244 : am_code mX9_fault ∈ am_gw := am_i2 79 rfl rfl
theorem hy_X9_fault : yX9_fault.cls ≠ "java/lang/invoke/MethodHandle" ∧ yX9_fault.cls ≠ "java/lang/invoke/VarHandle" ∧ (parseMethodDescriptor yX9_fault.desc).map (fun d => d.parameters.length) = some 0 := ⟨by decide +kernel, by decide +kernel, by decide +kernel⟩
theorem wq_1246 : Cond.methodLink RL 82 yX9_fault ∈ am_gw := am_i2 76 rfl rfl
theorem wq_1247 : Cond.instanceMethod yX9_fault ∈ am_gw := am_i2 77 rfl rfl
theorem wq_1248 : Cond.selects RX9 yX9_fault yX9_fault ∈ am_gw := am_i2 78 rfl rfl
theorem wq_1249 : am_code mX10_fault ∈ am_gw := am_i7 28 rfl rfl
theorem hy_X10_fault : yX10_fault.cls ≠ "java/lang/invoke/MethodHandle" ∧ yX10_fault.cls ≠ "java/lang/invoke/VarHandle" ∧ (parseMethodDescriptor yX10_fault.desc).map (fun d => d.parameters.length) = some 0 := ⟨by decide +kernel, by decide +kernel, by decide +kernel⟩
theorem wq_1251 : Cond.methodLink RL 85 yX10_fault ∈ am_gw := am_i7 25 rfl rfl
theorem wq_1252 : Cond.instanceMethod yX10_fault ∈ am_gw := am_i7 26 rfl rfl
theorem wq_1253 : Cond.selects RX10 yX10_fault yX10_fault ∈ am_gw := am_i7 27 rfl rfl
theorem wq_1254 : am_code mL_count ∈ am_gw := am_i4 214 rfl rfl
theorem hy_L_count : yL_count.cls ≠ "java/lang/invoke/MethodHandle" ∧ yL_count.cls ≠ "java/lang/invoke/VarHandle" ∧ (parseMethodDescriptor yL_count.desc).map (fun d => d.parameters.length) = some 3 := ⟨by decide +kernel, by decide +kernel, by decide +kernel⟩
theorem wq_1256 : Cond.methodLink RL 86 yL_count ∈ am_gw := am_i4 212 rfl rfl
theorem wq_1257 : Cond.static yL_count ∈ am_gw := am_i4 213 rfl rfl
theorem wq_1258 : am_code mX10_count ∈ am_gw := am_i7 76 rfl rfl
theorem hy_X10_count : yX10_count.cls ≠ "java/lang/invoke/MethodHandle" ∧ yX10_count.cls ≠ "java/lang/invoke/VarHandle" ∧ (parseMethodDescriptor yX10_count.desc).map (fun d => d.parameters.length) = some 1 := ⟨by decide +kernel, by decide +kernel, by decide +kernel⟩
theorem wq_1260 : Cond.methodLink RL 88 yX10_count ∈ am_gw := am_i7 73 rfl rfl
theorem wq_1261 : Cond.instanceMethod yX10_count ∈ am_gw := am_i7 74 rfl rfl
theorem wq_1262 : Cond.selects RX10 yX10_count yX10_count ∈ am_gw := am_i7 75 rfl rfl
theorem wq_1263 : am_code mL_drawer ∈ am_gw := am_i4 238 rfl rfl
theorem hy_L_drawer : yL_drawer.cls ≠ "java/lang/invoke/MethodHandle" ∧ yL_drawer.cls ≠ "java/lang/invoke/VarHandle" ∧ (parseMethodDescriptor yL_drawer.desc).map (fun d => d.parameters.length) = some 4 := ⟨by decide +kernel, by decide +kernel, by decide +kernel⟩
theorem wq_1265 : Cond.methodLink RL 89 yL_drawer ∈ am_gw := am_i4 236 rfl rfl
theorem wq_1266 : Cond.static yL_drawer ∈ am_gw := am_i4 237 rfl rfl
theorem wq_1267 : am_code mX10_drawer ∈ am_gw := am_i7 80 rfl rfl
theorem hy_X10_drawer : yX10_drawer.cls ≠ "java/lang/invoke/MethodHandle" ∧ yX10_drawer.cls ≠ "java/lang/invoke/VarHandle" ∧ (parseMethodDescriptor yX10_drawer.desc).map (fun d => d.parameters.length) = some 2 := ⟨by decide +kernel, by decide +kernel, by decide +kernel⟩
theorem wq_1269 : Cond.methodLink RL 92 yX10_drawer ∈ am_gw := am_i7 77 rfl rfl
theorem wq_1270 : Cond.instanceMethod yX10_drawer ∈ am_gw := am_i7 78 rfl rfl
theorem wq_1271 : Cond.selects RX10 yX10_drawer yX10_drawer ∈ am_gw := am_i7 79 rfl rfl
theorem wq_1272 : am_code mL_person ∈ am_gw := am_i5 12 rfl rfl
theorem hy_L_person : yL_person.cls ≠ "java/lang/invoke/MethodHandle" ∧ yL_person.cls ≠ "java/lang/invoke/VarHandle" ∧ (parseMethodDescriptor yL_person.desc).map (fun d => d.parameters.length) = some 4 := ⟨by decide +kernel, by decide +kernel, by decide +kernel⟩
theorem wq_1274 : Cond.methodLink RL 93 yL_person ∈ am_gw := am_i5 10 rfl rfl
theorem wq_1275 : Cond.static yL_person ∈ am_gw := am_i5 11 rfl rfl
theorem wq_1276 : am_code mX10_person ∈ am_gw := am_i7 100 rfl rfl
theorem hy_X10_person : yX10_person.cls ≠ "java/lang/invoke/MethodHandle" ∧ yX10_person.cls ≠ "java/lang/invoke/VarHandle" ∧ (parseMethodDescriptor yX10_person.desc).map (fun d => d.parameters.length) = some 2 := ⟨by decide +kernel, by decide +kernel, by decide +kernel⟩
theorem wq_1278 : Cond.methodLink RL 95 yX10_person ∈ am_gw := am_i7 97 rfl rfl
theorem wq_1279 : Cond.instanceMethod yX10_person ∈ am_gw := am_i7 98 rfl rfl
theorem wq_1280 : Cond.selects RX10 yX10_person yX10_person ∈ am_gw := am_i7 99 rfl rfl
theorem wq_1281 : am_code mL_may ∈ am_gw := am_i5 25 rfl rfl
theorem hy_L_may : yL_may.cls ≠ "java/lang/invoke/MethodHandle" ∧ yL_may.cls ≠ "java/lang/invoke/VarHandle" ∧ (parseMethodDescriptor yL_may.desc).map (fun d => d.parameters.length) = some 3 := ⟨by decide +kernel, by decide +kernel, by decide +kernel⟩
theorem wq_1283 : Cond.methodLink RL 96 yL_may ∈ am_gw := am_i5 23 rfl rfl
theorem wq_1284 : Cond.static yL_may ∈ am_gw := am_i5 24 rfl rfl
theorem wq_1285 : am_code mX10_may ∈ am_gw := am_i7 32 rfl rfl
theorem hy_X10_may : yX10_may.cls ≠ "java/lang/invoke/MethodHandle" ∧ yX10_may.cls ≠ "java/lang/invoke/VarHandle" ∧ (parseMethodDescriptor yX10_may.desc).map (fun d => d.parameters.length) = some 1 := ⟨by decide +kernel, by decide +kernel, by decide +kernel⟩
theorem wq_1287 : Cond.methodLink RL 98 yX10_may ∈ am_gw := am_i7 29 rfl rfl
theorem wq_1288 : Cond.instanceMethod yX10_may ∈ am_gw := am_i7 30 rfl rfl
theorem wq_1289 : Cond.selects RX10 yX10_may yX10_may ∈ am_gw := am_i7 31 rfl rfl
theorem wq_1290 : am_code mL_broken ∈ am_gw := am_i5 38 rfl rfl
theorem hy_L_broken : yL_broken.cls ≠ "java/lang/invoke/MethodHandle" ∧ yL_broken.cls ≠ "java/lang/invoke/VarHandle" ∧ (parseMethodDescriptor yL_broken.desc).map (fun d => d.parameters.length) = some 3 := ⟨by decide +kernel, by decide +kernel, by decide +kernel⟩
theorem wq_1292 : Cond.methodLink RL 99 yL_broken ∈ am_gw := am_i5 36 rfl rfl
theorem wq_1293 : Cond.static yL_broken ∈ am_gw := am_i5 37 rfl rfl
theorem wq_1294 : am_code mX10_broken ∈ am_gw := am_i7 72 rfl rfl
theorem hy_X10_broken : yX10_broken.cls ≠ "java/lang/invoke/MethodHandle" ∧ yX10_broken.cls ≠ "java/lang/invoke/VarHandle" ∧ (parseMethodDescriptor yX10_broken.desc).map (fun d => d.parameters.length) = some 1 := ⟨by decide +kernel, by decide +kernel, by decide +kernel⟩
theorem wq_1296 : Cond.methodLink RL 101 yX10_broken ∈ am_gw := am_i7 69 rfl rfl
theorem wq_1297 : Cond.instanceMethod yX10_broken ∈ am_gw := am_i7 70 rfl rfl
theorem wq_1298 : Cond.selects RX10 yX10_broken yX10_broken ∈ am_gw := am_i7 71 rfl rfl
theorem wq_1299 : am_code mX9_move ∈ am_gw := am_i2 83 rfl rfl
theorem hy_X9_move : yX9_move.cls ≠ "java/lang/invoke/MethodHandle" ∧ yX9_move.cls ≠ "java/lang/invoke/VarHandle" ∧ (parseMethodDescriptor yX9_move.desc).map (fun d => d.parameters.length) = some 1 := ⟨by decide +kernel, by decide +kernel, by decide +kernel⟩
theorem wq_1301 : Cond.methodLink RL 102 yX9_move ∈ am_gw := am_i2 80 rfl rfl
theorem wq_1302 : Cond.instanceMethod yX9_move ∈ am_gw := am_i2 81 rfl rfl
theorem wq_1303 : Cond.selects RX9 yX9_move yX9_move ∈ am_gw := am_i2 82 rfl rfl
theorem wq_1304 : am_code mX10_move ∈ am_gw := am_i7 108 rfl rfl
theorem hy_X10_move : yX10_move.cls ≠ "java/lang/invoke/MethodHandle" ∧ yX10_move.cls ≠ "java/lang/invoke/VarHandle" ∧ (parseMethodDescriptor yX10_move.desc).map (fun d => d.parameters.length) = some 1 := ⟨by decide +kernel, by decide +kernel, by decide +kernel⟩
theorem wq_1306 : Cond.methodLink RL 105 yX10_move ∈ am_gw := am_i7 105 rfl rfl
theorem wq_1307 : Cond.instanceMethod yX10_move ∈ am_gw := am_i7 106 rfl rfl
theorem wq_1308 : Cond.selects RX10 yX10_move yX10_move ∈ am_gw := am_i7 107 rfl rfl
theorem wq_1309 : am_code mX9_undo ∈ am_gw := am_i2 148 rfl rfl
theorem hy_X9_undo : yX9_undo.cls ≠ "java/lang/invoke/MethodHandle" ∧ yX9_undo.cls ≠ "java/lang/invoke/VarHandle" ∧ (parseMethodDescriptor yX9_undo.desc).map (fun d => d.parameters.length) = some 0 := ⟨by decide +kernel, by decide +kernel, by decide +kernel⟩
theorem wq_1311 : Cond.methodLink RL 106 yX9_undo ∈ am_gw := am_i2 145 rfl rfl
theorem wq_1312 : Cond.instanceMethod yX9_undo ∈ am_gw := am_i2 146 rfl rfl
theorem wq_1313 : Cond.selects RX9 yX9_undo yX9_undo ∈ am_gw := am_i2 147 rfl rfl
theorem wq_1314 : am_code mX10_undo ∈ am_gw := am_i7 120 rfl rfl
theorem hy_X10_undo : yX10_undo.cls ≠ "java/lang/invoke/MethodHandle" ∧ yX10_undo.cls ≠ "java/lang/invoke/VarHandle" ∧ (parseMethodDescriptor yX10_undo.desc).map (fun d => d.parameters.length) = some 0 := ⟨by decide +kernel, by decide +kernel, by decide +kernel⟩
theorem wq_1316 : Cond.methodLink RL 109 yX10_undo ∈ am_gw := am_i7 117 rfl rfl
theorem wq_1317 : Cond.instanceMethod yX10_undo ∈ am_gw := am_i7 118 rfl rfl
theorem wq_1318 : Cond.selects RX10 yX10_undo yX10_undo ∈ am_gw := am_i7 119 rfl rfl
theorem wq_1319 : am_code mL_sleeps ∈ am_gw := am_i5 46 rfl rfl
theorem hy_L_sleeps : yL_sleeps.cls ≠ "java/lang/invoke/MethodHandle" ∧ yL_sleeps.cls ≠ "java/lang/invoke/VarHandle" ∧ (parseMethodDescriptor yL_sleeps.desc).map (fun d => d.parameters.length) = some 3 := ⟨by decide +kernel, by decide +kernel, by decide +kernel⟩
theorem wq_1321 : Cond.methodLink RL 110 yL_sleeps ∈ am_gw := am_i5 44 rfl rfl
theorem wq_1322 : Cond.static yL_sleeps ∈ am_gw := am_i5 45 rfl rfl
theorem wq_1323 : am_code mX10_sleeps ∈ am_gw := am_i7 124 rfl rfl
theorem hy_X10_sleeps : yX10_sleeps.cls ≠ "java/lang/invoke/MethodHandle" ∧ yX10_sleeps.cls ≠ "java/lang/invoke/VarHandle" ∧ (parseMethodDescriptor yX10_sleeps.desc).map (fun d => d.parameters.length) = some 2 := ⟨by decide +kernel, by decide +kernel, by decide +kernel⟩
theorem wq_1325 : Cond.methodLink RL 113 yX10_sleeps ∈ am_gw := am_i7 121 rfl rfl
theorem wq_1326 : Cond.instanceMethod yX10_sleeps ∈ am_gw := am_i7 122 rfl rfl
theorem wq_1327 : Cond.selects RX10 yX10_sleeps yX10_sleeps ∈ am_gw := am_i7 123 rfl rfl
theorem wq_1328 : am_code mL_opens ∈ am_gw := am_i5 53 rfl rfl
theorem hy_L_opens : yL_opens.cls ≠ "java/lang/invoke/MethodHandle" ∧ yL_opens.cls ≠ "java/lang/invoke/VarHandle" ∧ (parseMethodDescriptor yL_opens.desc).map (fun d => d.parameters.length) = some 3 := ⟨by decide +kernel, by decide +kernel, by decide +kernel⟩
theorem wq_1330 : Cond.methodLink RL 114 yL_opens ∈ am_gw := am_i5 51 rfl rfl
theorem wq_1331 : Cond.static yL_opens ∈ am_gw := am_i5 52 rfl rfl
theorem wq_1332 : am_code mX10_opens ∈ am_gw := am_i7 128 rfl rfl
theorem hy_X10_opens : yX10_opens.cls ≠ "java/lang/invoke/MethodHandle" ∧ yX10_opens.cls ≠ "java/lang/invoke/VarHandle" ∧ (parseMethodDescriptor yX10_opens.desc).map (fun d => d.parameters.length) = some 1 := ⟨by decide +kernel, by decide +kernel, by decide +kernel⟩
theorem wq_1334 : Cond.methodLink RL 116 yX10_opens ∈ am_gw := am_i7 125 rfl rfl
theorem wq_1335 : Cond.instanceMethod yX10_opens ∈ am_gw := am_i7 126 rfl rfl
theorem wq_1336 : Cond.selects RX10 yX10_opens yX10_opens ∈ am_gw := am_i7 127 rfl rfl
theorem wq_1337 : am_code mL_shuts ∈ am_gw := am_i5 60 rfl rfl
theorem hy_L_shuts : yL_shuts.cls ≠ "java/lang/invoke/MethodHandle" ∧ yL_shuts.cls ≠ "java/lang/invoke/VarHandle" ∧ (parseMethodDescriptor yL_shuts.desc).map (fun d => d.parameters.length) = some 3 := ⟨by decide +kernel, by decide +kernel, by decide +kernel⟩
theorem wq_1339 : Cond.methodLink RL 117 yL_shuts ∈ am_gw := am_i5 58 rfl rfl
theorem wq_1340 : Cond.static yL_shuts ∈ am_gw := am_i5 59 rfl rfl
theorem wq_1341 : am_code mX10_shuts ∈ am_gw := am_i7 156 rfl rfl
theorem hy_X10_shuts : yX10_shuts.cls ≠ "java/lang/invoke/MethodHandle" ∧ yX10_shuts.cls ≠ "java/lang/invoke/VarHandle" ∧ (parseMethodDescriptor yX10_shuts.desc).map (fun d => d.parameters.length) = some 1 := ⟨by decide +kernel, by decide +kernel, by decide +kernel⟩
theorem wq_1343 : Cond.methodLink RL 119 yX10_shuts ∈ am_gw := am_i7 153 rfl rfl
theorem wq_1344 : Cond.instanceMethod yX10_shuts ∈ am_gw := am_i7 154 rfl rfl
theorem wq_1345 : Cond.selects RX10 yX10_shuts yX10_shuts ∈ am_gw := am_i7 155 rfl rfl
theorem wq_1346 : am_code mX9_bread ∈ am_gw := am_i2 156 rfl rfl
theorem hy_X9_bread : yX9_bread.cls ≠ "java/lang/invoke/MethodHandle" ∧ yX9_bread.cls ≠ "java/lang/invoke/VarHandle" ∧ (parseMethodDescriptor yX9_bread.desc).map (fun d => d.parameters.length) = some 0 := ⟨by decide +kernel, by decide +kernel, by decide +kernel⟩
theorem wq_1348 : Cond.methodLink RL 120 yX9_bread ∈ am_gw := am_i2 153 rfl rfl
theorem wq_1349 : Cond.instanceMethod yX9_bread ∈ am_gw := am_i2 154 rfl rfl
theorem wq_1350 : Cond.selects RX9 yX9_bread yX9_bread ∈ am_gw := am_i2 155 rfl rfl
theorem wq_1351 : am_code mX10_bread ∈ am_gw := am_i7 160 rfl rfl
theorem hy_X10_bread : yX10_bread.cls ≠ "java/lang/invoke/MethodHandle" ∧ yX10_bread.cls ≠ "java/lang/invoke/VarHandle" ∧ (parseMethodDescriptor yX10_bread.desc).map (fun d => d.parameters.length) = some 0 := ⟨by decide +kernel, by decide +kernel, by decide +kernel⟩
theorem wq_1353 : Cond.methodLink RL 123 yX10_bread ∈ am_gw := am_i7 157 rfl rfl
theorem wq_1354 : Cond.instanceMethod yX10_bread ∈ am_gw := am_i7 158 rfl rfl
theorem wq_1355 : Cond.selects RX10 yX10_bread yX10_bread ∈ am_gw := am_i7 159 rfl rfl
theorem wq_1356 : am_code mL_row ∈ am_gw := am_i5 67 rfl rfl
theorem hy_L_row : yL_row.cls ≠ "java/lang/invoke/MethodHandle" ∧ yL_row.cls ≠ "java/lang/invoke/VarHandle" ∧ (parseMethodDescriptor yL_row.desc).map (fun d => d.parameters.length) = some 3 := ⟨by decide +kernel, by decide +kernel, by decide +kernel⟩
theorem wq_1358 : Cond.methodLink RL 124 yL_row ∈ am_gw := am_i5 65 rfl rfl
theorem wq_1359 : Cond.static yL_row ∈ am_gw := am_i5 66 rfl rfl
theorem wq_1360 : am_code mX10_row ∈ am_gw := am_i7 164 rfl rfl
theorem hy_X10_row : yX10_row.cls ≠ "java/lang/invoke/MethodHandle" ∧ yX10_row.cls ≠ "java/lang/invoke/VarHandle" ∧ (parseMethodDescriptor yX10_row.desc).map (fun d => d.parameters.length) = some 1 := ⟨by decide +kernel, by decide +kernel, by decide +kernel⟩
theorem wq_1362 : Cond.methodLink RL 126 yX10_row ∈ am_gw := am_i7 161 rfl rfl
theorem wq_1363 : Cond.instanceMethod yX10_row ∈ am_gw := am_i7 162 rfl rfl
theorem wq_1364 : Cond.selects RX10 yX10_row yX10_row ∈ am_gw := am_i7 163 rfl rfl
theorem wq_1365 : am_code mL_harm ∈ am_gw := am_i5 76 rfl rfl
theorem hy_L_harm : yL_harm.cls ≠ "java/lang/invoke/MethodHandle" ∧ yL_harm.cls ≠ "java/lang/invoke/VarHandle" ∧ (parseMethodDescriptor yL_harm.desc).map (fun d => d.parameters.length) = some 3 := ⟨by decide +kernel, by decide +kernel, by decide +kernel⟩
theorem wq_1367 : Cond.methodLink RL 127 yL_harm ∈ am_gw := am_i5 74 rfl rfl
theorem wq_1368 : Cond.static yL_harm ∈ am_gw := am_i5 75 rfl rfl
theorem wq_1369 : am_code mX10_harm ∈ am_gw := am_i7 168 rfl rfl
theorem hy_X10_harm : yX10_harm.cls ≠ "java/lang/invoke/MethodHandle" ∧ yX10_harm.cls ≠ "java/lang/invoke/VarHandle" ∧ (parseMethodDescriptor yX10_harm.desc).map (fun d => d.parameters.length) = some 1 := ⟨by decide +kernel, by decide +kernel, by decide +kernel⟩
theorem wq_1371 : Cond.methodLink RL 129 yX10_harm ∈ am_gw := am_i7 165 rfl rfl
theorem wq_1372 : Cond.instanceMethod yX10_harm ∈ am_gw := am_i7 166 rfl rfl
theorem wq_1373 : Cond.selects RX10 yX10_harm yX10_harm ∈ am_gw := am_i7 167 rfl rfl
theorem wq_1374 : am_code mL_married ∈ am_gw := am_i5 89 rfl rfl
theorem hy_L_married : yL_married.cls ≠ "java/lang/invoke/MethodHandle" ∧ yL_married.cls ≠ "java/lang/invoke/VarHandle" ∧ (parseMethodDescriptor yL_married.desc).map (fun d => d.parameters.length) = some 4 := ⟨by decide +kernel, by decide +kernel, by decide +kernel⟩
theorem wq_1376 : Cond.methodLink RL 130 yL_married ∈ am_gw := am_i5 87 rfl rfl
theorem wq_1377 : Cond.static yL_married ∈ am_gw := am_i5 88 rfl rfl
theorem wq_1378 : am_code mX10_married ∈ am_gw := am_i7 176 rfl rfl
theorem hy_X10_married : yX10_married.cls ≠ "java/lang/invoke/MethodHandle" ∧ yX10_married.cls ≠ "java/lang/invoke/VarHandle" ∧ (parseMethodDescriptor yX10_married.desc).map (fun d => d.parameters.length) = some 2 := ⟨by decide +kernel, by decide +kernel, by decide +kernel⟩
theorem wq_1380 : Cond.methodLink RL 132 yX10_married ∈ am_gw := am_i7 173 rfl rfl
theorem wq_1381 : Cond.instanceMethod yX10_married ∈ am_gw := am_i7 174 rfl rfl
theorem wq_1382 : Cond.selects RX10 yX10_married yX10_married ∈ am_gw := am_i7 175 rfl rfl
theorem wq_1383 : am_code mX9_rent ∈ am_gw := am_i2 206 rfl rfl
theorem hy_X9_rent : yX9_rent.cls ≠ "java/lang/invoke/MethodHandle" ∧ yX9_rent.cls ≠ "java/lang/invoke/VarHandle" ∧ (parseMethodDescriptor yX9_rent.desc).map (fun d => d.parameters.length) = some 0 := ⟨by decide +kernel, by decide +kernel, by decide +kernel⟩
theorem wq_1385 : Cond.methodLink RL 133 yX9_rent ∈ am_gw := am_i2 203 rfl rfl
theorem wq_1386 : Cond.instanceMethod yX9_rent ∈ am_gw := am_i2 204 rfl rfl
theorem wq_1387 : Cond.selects RX9 yX9_rent yX9_rent ∈ am_gw := am_i2 205 rfl rfl
theorem wq_1388 : am_code mX10_rent ∈ am_gw := am_i7 190 rfl rfl
theorem hy_X10_rent : yX10_rent.cls ≠ "java/lang/invoke/MethodHandle" ∧ yX10_rent.cls ≠ "java/lang/invoke/VarHandle" ∧ (parseMethodDescriptor yX10_rent.desc).map (fun d => d.parameters.length) = some 0 := ⟨by decide +kernel, by decide +kernel, by decide +kernel⟩
theorem wq_1390 : Cond.methodLink RL 136 yX10_rent ∈ am_gw := am_i7 187 rfl rfl
theorem wq_1391 : Cond.instanceMethod yX10_rent ∈ am_gw := am_i7 188 rfl rfl
theorem wq_1392 : Cond.selects RX10 yX10_rent yX10_rent ∈ am_gw := am_i7 189 rfl rfl
theorem wq_1393 : am_code mL_wind ∈ am_gw := am_i5 127 rfl rfl
theorem hy_L_wind : yL_wind.cls ≠ "java/lang/invoke/MethodHandle" ∧ yL_wind.cls ≠ "java/lang/invoke/VarHandle" ∧ (parseMethodDescriptor yL_wind.desc).map (fun d => d.parameters.length) = some 4 := ⟨by decide +kernel, by decide +kernel, by decide +kernel⟩
theorem wq_1395 : Cond.methodLink RL 137 yL_wind ∈ am_gw := am_i5 125 rfl rfl
theorem wq_1396 : Cond.static yL_wind ∈ am_gw := am_i5 126 rfl rfl
theorem wq_1397 : am_code mX10_wind ∈ am_gw := am_i7 194 rfl rfl
theorem hy_X10_wind : yX10_wind.cls ≠ "java/lang/invoke/MethodHandle" ∧ yX10_wind.cls ≠ "java/lang/invoke/VarHandle" ∧ (parseMethodDescriptor yX10_wind.desc).map (fun d => d.parameters.length) = some 2 := ⟨by decide +kernel, by decide +kernel, by decide +kernel⟩
theorem wq_1399 : Cond.methodLink RL 139 yX10_wind ∈ am_gw := am_i7 191 rfl rfl
theorem wq_1400 : Cond.instanceMethod yX10_wind ∈ am_gw := am_i7 192 rfl rfl
theorem wq_1401 : Cond.selects RX10 yX10_wind yX10_wind ∈ am_gw := am_i7 193 rfl rfl
theorem wq_1402 : am_code mL_who ∈ am_gw := am_i5 140 rfl rfl
theorem hy_L_who : yL_who.cls ≠ "java/lang/invoke/MethodHandle" ∧ yL_who.cls ≠ "java/lang/invoke/VarHandle" ∧ (parseMethodDescriptor yL_who.desc).map (fun d => d.parameters.length) = some 3 := ⟨by decide +kernel, by decide +kernel, by decide +kernel⟩
theorem wq_1404 : Cond.methodLink RL 140 yL_who ∈ am_gw := am_i5 138 rfl rfl
theorem wq_1405 : Cond.static yL_who ∈ am_gw := am_i5 139 rfl rfl
theorem wq_1406 : am_code mX10_who ∈ am_gw := am_i7 203 rfl rfl
theorem hy_X10_who : yX10_who.cls ≠ "java/lang/invoke/MethodHandle" ∧ yX10_who.cls ≠ "java/lang/invoke/VarHandle" ∧ (parseMethodDescriptor yX10_who.desc).map (fun d => d.parameters.length) = some 1 := ⟨by decide +kernel, by decide +kernel, by decide +kernel⟩
theorem wq_1408 : Cond.methodLink RL 142 yX10_who ∈ am_gw := am_i7 200 rfl rfl
theorem wq_1409 : Cond.instanceMethod yX10_who ∈ am_gw := am_i7 201 rfl rfl
theorem wq_1410 : Cond.selects RX10 yX10_who yX10_who ∈ am_gw := am_i7 202 rfl rfl
theorem wq_1411 : am_code mL_odds ∈ am_gw := am_i5 155 rfl rfl
theorem hy_L_odds : yL_odds.cls ≠ "java/lang/invoke/MethodHandle" ∧ yL_odds.cls ≠ "java/lang/invoke/VarHandle" ∧ (parseMethodDescriptor yL_odds.desc).map (fun d => d.parameters.length) = some 5 := ⟨by decide +kernel, by decide +kernel, by decide +kernel⟩
theorem wq_1413 : Cond.methodLink RL 143 yL_odds ∈ am_gw := am_i5 153 rfl rfl
theorem wq_1414 : Cond.static yL_odds ∈ am_gw := am_i5 154 rfl rfl
theorem wq_1415 : am_code mX10_odds ∈ am_gw := am_i7 215 rfl rfl
theorem hy_X10_odds : yX10_odds.cls ≠ "java/lang/invoke/MethodHandle" ∧ yX10_odds.cls ≠ "java/lang/invoke/VarHandle" ∧ (parseMethodDescriptor yX10_odds.desc).map (fun d => d.parameters.length) = some 3 := ⟨by decide +kernel, by decide +kernel, by decide +kernel⟩
theorem wq_1417 : Cond.methodLink RL 146 yX10_odds ∈ am_gw := am_i7 212 rfl rfl
theorem wq_1418 : Cond.instanceMethod yX10_odds ∈ am_gw := am_i7 213 rfl rfl
theorem wq_1419 : Cond.selects RX10 yX10_odds yX10_odds ∈ am_gw := am_i7 214 rfl rfl
theorem wq_1420 : am_code mX9_image ∈ am_gw := am_i2 218 rfl rfl
theorem hy_X9_image : yX9_image.cls ≠ "java/lang/invoke/MethodHandle" ∧ yX9_image.cls ≠ "java/lang/invoke/VarHandle" ∧ (parseMethodDescriptor yX9_image.desc).map (fun d => d.parameters.length) = some 0 := ⟨by decide +kernel, by decide +kernel, by decide +kernel⟩
theorem wq_1422 : Cond.methodLink RL 147 yX9_image ∈ am_gw := am_i2 215 rfl rfl
theorem wq_1423 : Cond.instanceMethod yX9_image ∈ am_gw := am_i2 216 rfl rfl
theorem wq_1424 : Cond.selects RX9 yX9_image yX9_image ∈ am_gw := am_i2 217 rfl rfl
theorem wq_1425 : am_code mX10_image ∈ am_gw := am_i7 222 rfl rfl
theorem hy_X10_image : yX10_image.cls ≠ "java/lang/invoke/MethodHandle" ∧ yX10_image.cls ≠ "java/lang/invoke/VarHandle" ∧ (parseMethodDescriptor yX10_image.desc).map (fun d => d.parameters.length) = some 0 := ⟨by decide +kernel, by decide +kernel, by decide +kernel⟩
theorem wq_1427 : Cond.methodLink RL 150 yX10_image ∈ am_gw := am_i7 219 rfl rfl
theorem wq_1428 : Cond.instanceMethod yX10_image ∈ am_gw := am_i7 220 rfl rfl
theorem wq_1429 : Cond.selects RX10 yX10_image yX10_image ∈ am_gw := am_i7 221 rfl rfl
theorem wq_1430 : am_code mX9_restore ∈ am_gw := am_i2 229 rfl rfl
theorem hy_X9_restore : yX9_restore.cls ≠ "java/lang/invoke/MethodHandle" ∧ yX9_restore.cls ≠ "java/lang/invoke/VarHandle" ∧ (parseMethodDescriptor yX9_restore.desc).map (fun d => d.parameters.length) = some 0 := ⟨by decide +kernel, by decide +kernel, by decide +kernel⟩
theorem wq_1432 : Cond.methodLink RL 151 yX9_restore ∈ am_gw := am_i2 226 rfl rfl
theorem wq_1433 : Cond.instanceMethod yX9_restore ∈ am_gw := am_i2 227 rfl rfl
theorem wq_1434 : Cond.selects RX9 yX9_restore yX9_restore ∈ am_gw := am_i2 228 rfl rfl
theorem wq_1435 : am_code mX10_restore ∈ am_gw := am_i7 229 rfl rfl
theorem hy_X10_restore : yX10_restore.cls ≠ "java/lang/invoke/MethodHandle" ∧ yX10_restore.cls ≠ "java/lang/invoke/VarHandle" ∧ (parseMethodDescriptor yX10_restore.desc).map (fun d => d.parameters.length) = some 0 := ⟨by decide +kernel, by decide +kernel, by decide +kernel⟩
theorem wq_1437 : Cond.methodLink RL 155 yX10_restore ∈ am_gw := am_i7 226 rfl rfl
theorem wq_1438 : Cond.instanceMethod yX10_restore ∈ am_gw := am_i7 227 rfl rfl
theorem wq_1439 : Cond.selects RX10 yX10_restore yX10_restore ∈ am_gw := am_i7 228 rfl rfl
