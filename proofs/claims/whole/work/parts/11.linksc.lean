abbrev Y_X0_rowShift : gx_Y := (yX0_rowShift, cX0_rowShift, 1, some .int)
abbrev Y_X0_costIn : gx_Y := (yX0_costIn, cX0_costIn, 2, some .int)
abbrev Y_X0_behind : gx_Y := (yX0_behind, cX0_behind, 4, some .int)
abbrev Y_X0_lower : gx_Y := (yX0_lower, cX0_lower, 4, none)
abbrev Y_X0_lastUsed : gx_Y := (yX0_lastUsed, cX0_lastUsed, 4, some .int)
abbrev Y_X0_firstNotHis : gx_Y := (yX0_firstNotHis, cX0_firstNotHis, 3, some .int)
abbrev Y_X0_dearestNotHis : gx_Y := (yX0_dearestNotHis, cX0_dearestNotHis, 7, some .int)
abbrev Y_X1_answer : gx_Y := (yX1_answer, cX1_answer, 2, some .int)
abbrev Y_X1_noteRun : gx_Y := (yX1_noteRun, cX1_noteRun, 3, none)
abbrev Y_X1_firstUncovered : gx_Y := (yX1_firstUncovered, cX1_firstUncovered, 3, some .int)
abbrev Y_X2_append : gx_Y := (yX2_append, cX2_append, 5, none)
abbrev Y_X2_number : gx_Y := (yX2_number, cX2_number, 3, some .int)
abbrev Y_X3_isFreeOf : gx_Y := (yX3_isFreeOf, cX3_isFreeOf, 3, some .boolean)
abbrev Y_X3_moveTo : gx_Y := (yX3_moveTo, cX3_moveTo, 3, none)
abbrev Y_X3_kindDrawn : gx_Y := (yX3_kindDrawn, cX3_kindDrawn, 1, some .int)
abbrev Y_X3_draw : gx_Y := (yX3_draw, cX3_draw, 2, some .int)
abbrev Y_X3_usedMinutes : gx_Y := (yX3_usedMinutes, cX3_usedMinutes, 3, some .int)
abbrev Y_X3_doneBusiness : gx_Y := (yX3_doneBusiness, cX3_doneBusiness, 3, some .int)
abbrev Y_X3_allCoins : gx_Y := (yX3_allCoins, cX3_allCoins, 3, some .int)
abbrev Y_X3_richest : gx_Y := (yX3_richest, cX3_richest, 3, some .int)
abbrev Y_X3_victim : gx_Y := (yX3_victim, cX3_victim, 4, some .int)
abbrev Y_X3_restless : gx_Y := (yX3_restless, cX3_restless, 4, some .int)
abbrev Y_X4_tellsOfMissing : gx_Y := (yX4_tellsOfMissing, cX4_tellsOfMissing, 2, some .boolean)
abbrev Y_X4_note : gx_Y := (yX4_note, cX4_note, 3, none)
abbrev Y_X4_stopReading : gx_Y := (yX4_stopReading, cX4_stopReading, 1, some .boolean)
abbrev Y_X4_wordOf : gx_Y := (yX4_wordOf, cX4_wordOf, 1, some (.object "java/lang/String"))
abbrev Y_X4_mostFurther : gx_Y := (yX4_mostFurther, cX4_mostFurther, 2, some .int)
abbrev Y_X4_shapeOf : gx_Y := (yX4_shapeOf, cX4_shapeOf, 1, some (.object "java/lang/String"))
abbrev Y_X4_leastOf : gx_Y := (yX4_leastOf, cX4_leastOf, 1, some .int)
abbrev Y_X4_mostOf : gx_Y := (yX4_mostOf, cX4_mostOf, 1, some .int)
abbrev Y_X5_hasPerson : gx_Y := (yX5_hasPerson, cX5_hasPerson, 2, some .boolean)
abbrev Y_X5_hasMinute : gx_Y := (yX5_hasMinute, cX5_hasMinute, 2, some .boolean)
abbrev Y_X5_hasBusiness : gx_Y := (yX5_hasBusiness, cX5_hasBusiness, 2, some .boolean)
abbrev Y_X5_subsets : gx_Y := (yX5_subsets, cX5_subsets, 1, some .int)
abbrev Y_X5_minutesMask : gx_Y := (yX5_minutesMask, cX5_minutesMask, 1, some .long)
abbrev Y_X5_held : gx_Y := (yX5_held, cX5_held, 5, some .long)
abbrev Y_X5_goesIn : gx_Y := (yX5_goesIn, cX5_goesIn, 7, some .boolean)
abbrev Y_X5_costOfRun : gx_Y := (yX5_costOfRun, cX5_costOfRun, 6, some .int)
abbrev Y_X5_worthOfSet : gx_Y := (yX5_worthOfSet, cX5_worthOfSet, 4, some .int)
abbrev Y_X6_worthTo : gx_Y := (yX6_worthTo, cX6_worthTo, 3, some .int)
abbrev Y_X7_agrees : gx_Y := (yX7_agrees, cX7_agrees, 5, some .boolean)
abbrev Y_X7_minutesIn : gx_Y := (yX7_minutesIn, cX7_minutesIn, 4, some .int)
abbrev Y_X8_isLetter : gx_Y := (yX8_isLetter, cX8_isLetter, 1, some .boolean)
abbrev Y_X8_isDigit : gx_Y := (yX8_isDigit, cX8_isDigit, 1, some .boolean)
abbrev Y_X9_putNumber : gx_Y := (yX9_putNumber, cX9_putNumber, 3, none)
abbrev Y_X10_isInRing : gx_Y := (yX10_isInRing, cX10_isInRing, 4, some .boolean)
abbrev Y_X11_end : gx_Y := (yX11_end, cX11_end, 2, some .int)
abbrev Y_X11_placeFor : gx_Y := (yX11_placeFor, cX11_placeFor, 4, some .int)
abbrev Y_X11_fault : gx_Y := (yX11_fault, cX11_fault, 2, some .int)
abbrev Y_X11_count : gx_Y := (yX11_count, cX11_count, 2, some .int)
abbrev Y_X11_hasStreet : gx_Y := (yX11_hasStreet, cX11_hasStreet, 2, some .boolean)
abbrev Y_X11_hasYear : gx_Y := (yX11_hasYear, cX11_hasYear, 2, some .boolean)
abbrev Y_X11_hasLog : gx_Y := (yX11_hasLog, cX11_hasLog, 2, some .boolean)
abbrev Y_X11_hasSwaps : gx_Y := (yX11_hasSwaps, cX11_hasSwaps, 2, some .boolean)
abbrev Y_X11_isAmong : gx_Y := (yX11_isAmong, cX11_isAmong, 3, some .boolean)
abbrev Y_X11_marginOf : gx_Y := (yX11_marginOf, cX11_marginOf, 6, some .int)
abbrev Y_X11_picks : gx_Y := (yX11_picks, cX11_picks, 5, some .long)
abbrev Y_X11_power : gx_Y := (yX11_power, cX11_power, 6, some .long)
abbrev Y_X11_commonDivisor : gx_Y := (yX11_commonDivisor, cX11_commonDivisor, 11, some .long)
abbrev Y_X11_leastTaken : gx_Y := (yX11_leastTaken, cX11_leastTaken, 5, some .int)
abbrev Y_J6_bitCount_0f7a4 : gx_Y := (yJ6_bitCount_0f7a4, cJ6_bitCount_0f7a4, 1, some .int)
abbrev Y_J13_bitCount_95d88 : gx_Y := (yJ13_bitCount_95d88, cJ13_bitCount_95d88, 2, some .int)
abbrev Y_J0_coder_7d493 : gx_Y := (yJ0_coder_7d493, cJ0_coder_7d493, 1, some .byte)
abbrev Y_J0_isLatin1_aae02 : gx_Y := (yJ0_isLatin1_aae02, cJ0_isLatin1_aae02, 1, some .boolean)
abbrev Y_J7_rangeCheck_23922 : gx_Y := (yJ7_rangeCheck_23922, cJ7_rangeCheck_23922, 3, none)
abbrev Y_J7_fill_d0a16 : gx_Y := (yJ7_fill_d0a16, cJ7_fill_d0a16, 5, none)
abbrev Y_J7_fill_53178 : gx_Y := (yJ7_fill_53178, cJ7_fill_53178, 4, none)
abbrev Y_J3_checkIndex_8e157 : gx_Y := (yJ3_checkIndex_8e157, cJ3_checkIndex_8e157, 3, some .int)
abbrev Y_X0_weighRuns : gx_Y := (yX0_weighRuns, cX0_weighRuns, 11, none)
abbrev Y_X0_firstIn : gx_Y := (yX0_firstIn, cX0_firstIn, 3, some .int)
abbrev Y_X0_bestWeight : gx_Y := (yX0_bestWeight, cX0_bestWeight, 6, some .long)
abbrev Y_X0_goOn : gx_Y := (yX0_goOn, cX0_goOn, 10, none)
abbrev Y_X0_costOfSet : gx_Y := (yX0_costOfSet, cX0_costOfSet, 3, some .int)
abbrev Y_X0_weighChoice : gx_Y := (yX0_weighChoice, cX0_weighChoice, 4, none)
abbrev Y_X0_giveIn : gx_Y := (yX0_giveIn, cX0_giveIn, 15, none)
abbrev Y_X1_findRuns : gx_Y := (yX1_findRuns, cX1_findRuns, 6, none)
abbrev Y_X2_copyFrom : gx_Y := (yX2_copyFrom, cX2_copyFrom, 2, none)
abbrev Y_X3_areThere : gx_Y := (yX3_areThere, cX3_areThere, 3, some .boolean)
abbrev Y_X3_freeMinutes : gx_Y := (yX3_freeMinutes, cX3_freeMinutes, 5, some .long)
abbrev Y_X3_changesPrice : gx_Y := (yX3_changesPrice, cX3_changesPrice, 4, some .boolean)
abbrev Y_X3_partOfState : gx_Y := (yX3_partOfState, cX3_partOfState, 2, some .int)
abbrev Y_X3_timesMoved : gx_Y := (yX3_timesMoved, cX3_timesMoved, 2, some .int)
abbrev Y_X4_countFurther : gx_Y := (yX4_countFurther, cX4_countFurther, 4, none)
abbrev Y_X4_takeNumber : gx_Y := (yX4_takeNumber, cX4_takeNumber, 5, none)
abbrev Y_X4_tellBusiness : gx_Y := (yX4_tellBusiness, cX4_tellBusiness, 2, none)
abbrev Y_X4_tellSwaps : gx_Y := (yX4_tellSwaps, cX4_tellSwaps, 2, none)
abbrev Y_X5_clear : gx_Y := (yX5_clear, cX5_clear, 1, none)
abbrev Y_X5_copyFrom : gx_Y := (yX5_copyFrom, cX5_copyFrom, 2, none)
abbrev Y_X5_hasSet : gx_Y := (yX5_hasSet, cX5_hasSet, 2, some .boolean)
abbrev Y_X5_possible : gx_Y := (yX5_possible, cX5_possible, 6, some .int)
abbrev Y_X5_runsOver : gx_Y := (yX5_runsOver, cX5_runsOver, 6, some .int)
abbrev Y_X6_clear : gx_Y := (yX6_clear, cX6_clear, 1, none)
abbrev Y_X6_copyFrom : gx_Y := (yX6_copyFrom, cX6_copyFrom, 2, none)
abbrev Y_X6_pairs : gx_Y := (yX6_pairs, cX6_pairs, 4, some .int)
abbrev Y_X7_takeFacts : gx_Y := (yX7_takeFacts, cX7_takeFacts, 5, none)
abbrev Y_X7_takeRow : gx_Y := (yX7_takeRow, cX7_takeRow, 4, none)
abbrev Y_X7_seek : gx_Y := (yX7_seek, cX7_seek, 5, some .int)
abbrev Y_X7_codeAt : gx_Y := (yX7_codeAt, cX7_codeAt, 5, some .int)
abbrev Y_X8_start : gx_Y := (yX8_start, cX8_start, 2, none)
abbrev Y_X8_takeWord : gx_Y := (yX8_takeWord, cX8_takeWord, 1, none)
abbrev Y_X8_takeNumber : gx_Y := (yX8_takeNumber, cX8_takeNumber, 1, none)
abbrev Y_X10_favourite : gx_Y := (yX10_favourite, cX10_favourite, 6, some .int)
abbrev Y_X10_letGo : gx_Y := (yX10_letGo, cX10_letGo, 5, some .int)
abbrev Y_X10_gain : gx_Y := (yX10_gain, cX10_gain, 4, some .int)
abbrev Y_X10_hasBest : gx_Y := (yX10_hasBest, cX10_hasBest, 4, some .boolean)
abbrev Y_X10_envy : gx_Y := (yX10_envy, cX10_envy, 5, some .int)
abbrev Y_X11_feed : gx_Y := (yX11_feed, cX11_feed, 6, some .int)
abbrev Y_X11_hasPerson : gx_Y := (yX11_hasPerson, cX11_hasPerson, 3, some .boolean)
abbrev Y_X11_partOfStreet : gx_Y := (yX11_partOfStreet, cX11_partOfStreet, 2, some .int)
abbrev Y_X11_deed : gx_Y := (yX11_deed, cX11_deed, 5, some .int)
abbrev Y_X11_bestTaking : gx_Y := (yX11_bestTaking, cX11_bestTaking, 5, some .int)
abbrev Y_X11_waysLeft : gx_Y := (yX11_waysLeft, cX11_waysLeft, 6, some .long)
abbrev Y_X11_lowest : gx_Y := (yX11_lowest, cX11_lowest, 7, some .long)
abbrev Y_X11_dayBefore : gx_Y := (yX11_dayBefore, cX11_dayBefore, 7, some .long)
abbrev Y_X11_fact : gx_Y := (yX11_fact, cX11_fact, 5, some .int)
abbrev Y_J0_length_8abf5 : gx_Y := (yJ0_length_8abf5, cJ0_length_8abf5, 1, some .int)
abbrev Y_J0_checkIndex_df160 : gx_Y := (yJ0_checkIndex_df160, cJ0_checkIndex_df160, 2, none)
abbrev Y_J7_fill_fda19 : gx_Y := (yJ7_fill_fda19, cJ7_fill_fda19, 5, none)
abbrev Y_X0_bestCost : gx_Y := (yX0_bestCost, cX0_bestCost, 3, some .int)
abbrev Y_X0_bestFirst : gx_Y := (yX0_bestFirst, cX0_bestFirst, 3, some .int)
abbrev Y_X0_arrange : gx_Y := (yX0_arrange, cX0_arrange, 7, none)
abbrev Y_X0_firstMinuteIn : gx_Y := (yX0_firstMinuteIn, cX0_firstMinuteIn, 4, some .int)
abbrev Y_X0_arrangeGiven : gx_Y := (yX0_arrangeGiven, cX0_arrangeGiven, 7, none)
abbrev Y_X3_begin : gx_Y := (yX3_begin, cX3_begin, 3, none)
abbrev Y_X3_buys : gx_Y := (yX3_buys, cX3_buys, 5, some .boolean)
abbrev Y_X3_sells : gx_Y := (yX3_sells, cX3_sells, 3, some .boolean)
abbrev Y_X3_thinks : gx_Y := (yX3_thinks, cX3_thinks, 3, some .boolean)
abbrev Y_X3_steals : gx_Y := (yX3_steals, cX3_steals, 4, some .boolean)
abbrev Y_X3_does : gx_Y := (yX3_does, cX3_does, 5, some .boolean)
abbrev Y_X3_answer : gx_Y := (yX3_answer, cX3_answer, 2, some .int)
abbrev Y_X4_clear : gx_Y := (yX4_clear, cX4_clear, 1, none)
abbrev Y_X4_numberOrNone : gx_Y := (yX4_numberOrNone, cX4_numberOrNone, 3, some .int)
abbrev Y_X4_tellStreet : gx_Y := (yX4_tellStreet, cX4_tellStreet, 2, none)
abbrev Y_X7_look : gx_Y := (yX7_look, cX7_look, 4, none)
abbrev Y_X8_advance : gx_Y := (yX8_advance, cX8_advance, 1, none)
abbrev Y_X9_copyFrom : gx_Y := (yX9_copyFrom, cX9_copyFrom, 3, none)
abbrev Y_X9_put : gx_Y := (yX9_put, cX9_put, 4, none)
abbrev Y_X10_pointAll : gx_Y := (yX10_pointAll, cX10_pointAll, 3, none)
abbrev Y_X10_contented : gx_Y := (yX10_contented, cX10_contented, 4, some .int)
abbrev Y_X11_hasPersonAndSet : gx_Y := (yX11_hasPersonAndSet, cX11_hasPersonAndSet, 4, some .boolean)
abbrev Y_X11_street : gx_Y := (yX11_street, cX11_street, 4, some .int)
abbrev Y_X11_shared : gx_Y := (yX11_shared, cX11_shared, 9, some .int)
abbrev Y_X11_wanted : gx_Y := (yX11_wanted, cX11_wanted, 8, some .int)
abbrev Y_X11_halves : gx_Y := (yX11_halves, cX11_halves, 6, some .int)
abbrev Y_X11_free : gx_Y := (yX11_free, cX11_free, 9, some .int)
abbrev Y_X11_tin : gx_Y := (yX11_tin, cX11_tin, 5, some .long)
abbrev Y_X11_enough : gx_Y := (yX11_enough, cX11_enough, 4, some .int)
abbrev Y_X11_waits : gx_Y := (yX11_waits, cX11_waits, 7, some .long)
abbrev Y_J1_charAt_3b067 : gx_Y := (yJ1_charAt_3b067, cJ1_charAt_3b067, 2, some .char)
abbrev Y_X0_rankOf : gx_Y := (yX0_rankOf, cX0_rankOf, 7, some .int)
abbrev Y_X0_choose : gx_Y := (yX0_choose, cX0_choose, 7, none)
abbrev Y_X0_give : gx_Y := (yX0_give, cX0_give, 6, none)
abbrev Y_X3_goes : gx_Y := (yX3_goes, cX3_goes, 5, some .boolean)
abbrev Y_X3_drawDo : gx_Y := (yX3_drawDo, cX3_drawDo, 3, none)
abbrev Y_X4_tellLine : gx_Y := (yX4_tellLine, cX4_tellLine, 3, none)
abbrev Y_X10_settle : gx_Y := (yX10_settle, cX10_settle, 4, none)
abbrev Y_X11_image : gx_Y := (yX11_image, cX11_image, 2, some .boolean)
abbrev Y_X11_again : gx_Y := (yX11_again, cX11_again, 2, some .boolean)
abbrev Y_X11_run : gx_Y := (yX11_run, cX11_run, 6, some .int)
abbrev Y_X11_errands : gx_Y := (yX11_errands, cX11_errands, 6, some .int)
abbrev Y_X11_early : gx_Y := (yX11_early, cX11_early, 5, some .int)
abbrev Y_X11_fits : gx_Y := (yX11_fits, cX11_fits, 3, some .int)
abbrev Y_X11_span : gx_Y := (yX11_span, cX11_span, 3, some .int)
abbrev Y_J0_charAt_5068e : gx_Y := (yJ0_charAt_5068e, cJ0_charAt_5068e, 2, some .char)
abbrev Y_X0_atRank : gx_Y := (yX0_atRank, cX0_atRank, 4, some .int)
abbrev Y_X3_live : gx_Y := (yX3_live, cX3_live, 5, some .int)
abbrev Y_X3_drawDeed : gx_Y := (yX3_drawDeed, cX3_drawDeed, 3, none)
abbrev Y_X8_isWord : gx_Y := (yX8_isWord, cX8_isWord, 3, some .boolean)
abbrev Y_X11_plan : gx_Y := (yX11_plan, cX11_plan, 4, some .int)
abbrev Y_X11_left : gx_Y := (yX11_left, cX11_left, 4, some .int)
abbrev Y_X11_missed : gx_Y := (yX11_missed, cX11_missed, 6, some .int)
abbrev Y_X11_gift : gx_Y := (yX11_gift, cX11_gift, 6, some .int)
abbrev Y_X11_swap : gx_Y := (yX11_swap, cX11_swap, 6, some .int)
abbrev Y_X11_happy : gx_Y := (yX11_happy, cX11_happy, 4, some .int)
abbrev Y_X3_drawDeeds : gx_Y := (yX3_drawDeeds, cX3_drawDeeds, 5, none)
abbrev Y_X4_kindOfLine : gx_Y := (yX4_kindOfLine, cX4_kindOfLine, 3, some .int)
abbrev Y_X11_till : gx_Y := (yX11_till, cX11_till, 4, some .int)
abbrev Y_X11_state : gx_Y := (yX11_state, cX11_state, 6, some .int)
abbrev Y_X11_ranked : gx_Y := (yX11_ranked, cX11_ranked, 5, some .int)
abbrev Y_X4_readLine : gx_Y := (yX4_readLine, cX4_readLine, 5, some .boolean)
abbrev Y_X11_after : gx_Y := (yX11_after, cX11_after, 4, some .int)
abbrev Y_X11_drawn : gx_Y := (yX11_drawn, cX11_drawn, 5, some .int)
abbrev Y_X1_pick : gx_Y := (yX1_pick, cX1_pick, 6, some .boolean)
abbrev Y_X4_read : gx_Y := (yX4_read, cX4_read, 5, none)
abbrev Y_X1_solve : gx_Y := (yX1_solve, cX1_solve, 5, none)
abbrev Y_X11_text : gx_Y := (yX11_text, cX11_text, 4, some .int)
abbrev Y_X11_corner : gx_Y := (yX11_corner, cX11_corner, 5, some .int)
abbrev Y_X11_robbed : gx_Y := (yX11_robbed, cX11_robbed, 5, some .int)
theorem gx_out_0_5 {x : Int32} (h0 : ¬ x = 0) (h1 : ¬ x = 1) (h2 : ¬ x = 2) (h3 : ¬ x = 3) (h4 : ¬ x = 4) : x.toInt < 0 ∨ 4 < x.toInt := by
  have g0 := lv_neT h0 (a := 0) (by decide)
  have g1 := lv_neT h1 (a := 1) (by decide)
  have g2 := lv_neT h2 (a := 2) (by decide)
  have g3 := lv_neT h3 (a := 3) (by decide)
  have g4 := lv_neT h4 (a := 4) (by decide)
  omega
theorem gx_out_0_16 {x : Int32} (h0 : ¬ x = 0) (h1 : ¬ x = 1) (h2 : ¬ x = 2) (h3 : ¬ x = 3) (h4 : ¬ x = 4) (h5 : ¬ x = 5) (h6 : ¬ x = 6) (h7 : ¬ x = 7) (h8 : ¬ x = 8) (h9 : ¬ x = 9) (h10 : ¬ x = 10) (h11 : ¬ x = 11) (h12 : ¬ x = 12) (h13 : ¬ x = 13) (h14 : ¬ x = 14) (h15 : ¬ x = 15) : x.toInt < 0 ∨ 15 < x.toInt := by
  have g0 := lv_neT h0 (a := 0) (by decide)
  have g1 := lv_neT h1 (a := 1) (by decide)
  have g2 := lv_neT h2 (a := 2) (by decide)
  have g3 := lv_neT h3 (a := 3) (by decide)
  have g4 := lv_neT h4 (a := 4) (by decide)
  have g5 := lv_neT h5 (a := 5) (by decide)
  have g6 := lv_neT h6 (a := 6) (by decide)
  have g7 := lv_neT h7 (a := 7) (by decide)
  have g8 := lv_neT h8 (a := 8) (by decide)
  have g9 := lv_neT h9 (a := 9) (by decide)
  have g10 := lv_neT h10 (a := 10) (by decide)
  have g11 := lv_neT h11 (a := 11) (by decide)
  have g12 := lv_neT h12 (a := 12) (by decide)
  have g13 := lv_neT h13 (a := 13) (by decide)
  have g14 := lv_neT h14 (a := 14) (by decide)
  have g15 := lv_neT h15 (a := 15) (by decide)
  omega
theorem gx_out_0_17 {x : Int32} (h0 : ¬ x = 0) (h1 : ¬ x = 1) (h2 : ¬ x = 2) (h3 : ¬ x = 3) (h4 : ¬ x = 4) (h5 : ¬ x = 5) (h6 : ¬ x = 6) (h7 : ¬ x = 7) (h8 : ¬ x = 8) (h9 : ¬ x = 9) (h10 : ¬ x = 10) (h11 : ¬ x = 11) (h12 : ¬ x = 12) (h13 : ¬ x = 13) (h14 : ¬ x = 14) (h15 : ¬ x = 15) (h16 : ¬ x = 16) : x.toInt < 0 ∨ 16 < x.toInt := by
  have g0 := lv_neT h0 (a := 0) (by decide)
  have g1 := lv_neT h1 (a := 1) (by decide)
  have g2 := lv_neT h2 (a := 2) (by decide)
  have g3 := lv_neT h3 (a := 3) (by decide)
  have g4 := lv_neT h4 (a := 4) (by decide)
  have g5 := lv_neT h5 (a := 5) (by decide)
  have g6 := lv_neT h6 (a := 6) (by decide)
  have g7 := lv_neT h7 (a := 7) (by decide)
  have g8 := lv_neT h8 (a := 8) (by decide)
  have g9 := lv_neT h9 (a := 9) (by decide)
  have g10 := lv_neT h10 (a := 10) (by decide)
  have g11 := lv_neT h11 (a := 11) (by decide)
  have g12 := lv_neT h12 (a := 12) (by decide)
  have g13 := lv_neT h13 (a := 13) (by decide)
  have g14 := lv_neT h14 (a := 14) (by decide)
  have g15 := lv_neT h15 (a := 15) (by decide)
  have g16 := lv_neT h16 (a := 16) (by decide)
  omega
theorem gx_out_3_5 {x : Int32} (h0 : ¬ x = 3) (h1 : ¬ x = 4) (h2 : ¬ x = 5) (h3 : ¬ x = 6) (h4 : ¬ x = 7) : x.toInt < 3 ∨ 7 < x.toInt := by
  have g0 := lv_neT h0 (a := 3) (by decide)
  have g1 := lv_neT h1 (a := 4) (by decide)
  have g2 := lv_neT h2 (a := 5) (by decide)
  have g3 := lv_neT h3 (a := 6) (by decide)
  have g4 := lv_neT h4 (a := 7) (by decide)
  omega
theorem gx_out_6_7 {x : Int32} (h0 : ¬ x = 6) (h1 : ¬ x = 7) (h2 : ¬ x = 8) (h3 : ¬ x = 9) (h4 : ¬ x = 10) (h5 : ¬ x = 11) (h6 : ¬ x = 12) : x.toInt < 6 ∨ 12 < x.toInt := by
  have g0 := lv_neT h0 (a := 6) (by decide)
  have g1 := lv_neT h1 (a := 7) (by decide)
  have g2 := lv_neT h2 (a := 8) (by decide)
  have g3 := lv_neT h3 (a := 9) (by decide)
  have g4 := lv_neT h4 (a := 10) (by decide)
  have g5 := lv_neT h5 (a := 11) (by decide)
  have g6 := lv_neT h6 (a := 12) (by decide)
  omega
theorem gx_out_72_9 {x : Int32} (h0 : ¬ x = 72) (h1 : ¬ x = 73) (h2 : ¬ x = 74) (h3 : ¬ x = 75) (h4 : ¬ x = 76) (h5 : ¬ x = 77) (h6 : ¬ x = 78) (h7 : ¬ x = 79) (h8 : ¬ x = 80) : x.toInt < 72 ∨ 80 < x.toInt := by
  have g0 := lv_neT h0 (a := 72) (by decide)
  have g1 := lv_neT h1 (a := 73) (by decide)
  have g2 := lv_neT h2 (a := 74) (by decide)
  have g3 := lv_neT h3 (a := 75) (by decide)
  have g4 := lv_neT h4 (a := 76) (by decide)
  have g5 := lv_neT h5 (a := 77) (by decide)
  have g6 := lv_neT h6 (a := 78) (by decide)
  have g7 := lv_neT h7 (a := 79) (by decide)
  have g8 := lv_neT h8 (a := 80) (by decide)
  omega
theorem kcb_11 : (Int8.ofInt 11).toInt32 = 11 := by decide
theorem kcb_15 : (Int8.ofInt 15).toInt32 = 15 := by decide
theorem kcb_30 : (Int8.ofInt 30).toInt32 = 30 := by decide
theorem kcb_50 : (Int8.ofInt 50).toInt32 = 50 := by decide
theorem kcb_63 : (Int8.ofInt 63).toInt32 = 63 := by decide
theorem kcb_116 : (Int8.ofInt 116).toInt32 = 116 := by decide
theorem kcb_127 : (Int8.ofInt 127).toInt32 = 127 := by decide
theorem kcs_580 : (Int16.ofInt 580).toInt32 = 580 := by decide
theorem kw_RJ13_314 : Jvm.Cond.constantLong RJ13 314 6148914691236517205 ∈ gx_T := gx_in4 132 rfl rfl
theorem kw_RJ13_316 : Jvm.Cond.constantLong RJ13 316 3689348814741910323 ∈ gx_T := gx_in4 133 rfl rfl
theorem kw_RJ13_318 : Jvm.Cond.constantLong RJ13 318 1085102592571150095 ∈ gx_T := gx_in4 134 rfl rfl
theorem kw_RJ6_265 : Jvm.Cond.constant RJ6 265 1431655765 ∈ gx_T := gx_in5 50 rfl rfl
theorem kw_RJ6_266 : Jvm.Cond.constant RJ6 266 858993459 ∈ gx_T := gx_in5 51 rfl rfl
theorem kw_RJ6_267 : Jvm.Cond.constant RJ6 267 252645135 ∈ gx_T := gx_in5 52 rfl rfl
theorem kw_RX0_30 : Jvm.Cond.constantLong RX0 30 1152921504606846976 ∈ gx_T := gx_in4 195 rfl rfl
theorem kw_RX11_212 : Jvm.Cond.constantLong RX11 212 1099511627775 ∈ gx_T := gx_in4 190 rfl rfl
theorem kw_RX11_250 : Jvm.Cond.constantLong RX11 250 (-1) ∈ gx_T := gx_in5 62 rfl rfl
theorem kw_RX11_297 : Jvm.Cond.constantLong RX11 297 10 ∈ gx_T := gx_in5 192 rfl rfl
theorem kw_RX11_307 : Jvm.Cond.constantLong RX11 307 9 ∈ gx_T := gx_in5 203 rfl rfl
theorem kw_RX3_153 : Jvm.Cond.constant RX3 153 1103515245 ∈ gx_T := gx_in4 172 rfl rfl
theorem kw_RX5_59 : Jvm.Cond.constantLong RX5 59 (-1) ∈ gx_T := gx_in4 95 rfl rfl
theorem kw_RX7_66 : Jvm.Cond.constantLong RX7 66 (-1) ∈ gx_T := gx_in6 3 rfl rfl
theorem FRX11_12 : gx_FI RX11 12 11 0 4 := ⟨by decide, by decide, gx_in2 178 rfl rfl, by decide⟩
theorem gf_RX11_12 {E : gx_E} {l : Launch} {y : gx_Y} {d pc : Nat} {ls : List (Option Value)} {st : List Value} {μ : gx_M} (hc : y.1.cls = RX11) (hd : decode y.2.1 pc = .ok (.getfield 12, 3)) : gS E l y d (pc, ls, .ref (E.2.2.1 + 0) :: st, gx_G1, μ) (pc + 3, ls, .ref (E.2.2.1 + 1) :: st, gx_G1, μ) := s_getR hd (by rw [hc]; exact FRX11_12) g_0 rfl
theorem FRX11_16 : gx_FI RX11 16 11 1 4 := ⟨by decide, by decide, gx_in2 179 rfl rfl, by decide⟩
theorem gf_RX11_16 {E : gx_E} {l : Launch} {y : gx_Y} {d pc : Nat} {ls : List (Option Value)} {st : List Value} {μ : gx_M} (hc : y.1.cls = RX11) (hd : decode y.2.1 pc = .ok (.getfield 16, 3)) : gS E l y d (pc, ls, .ref (E.2.2.1 + 0) :: st, gx_G1, μ) (pc + 3, ls, .ref (E.2.2.1 + 40) :: st, gx_G1, μ) := s_getR hd (by rw [hc]; exact FRX11_16) g_0 rfl
theorem FRX11_20 : gx_FI RX11 20 11 2 4 := ⟨by decide, by decide, gx_in2 180 rfl rfl, by decide⟩
theorem gf_RX11_20 {E : gx_E} {l : Launch} {y : gx_Y} {d pc : Nat} {ls : List (Option Value)} {st : List Value} {μ : gx_M} (hc : y.1.cls = RX11) (hd : decode y.2.1 pc = .ok (.getfield 20, 3)) : gS E l y d (pc, ls, .ref (E.2.2.1 + 0) :: st, gx_G1, μ) (pc + 3, ls, .ref (E.2.2.1 + 41) :: st, gx_G1, μ) := s_getR hd (by rw [hc]; exact FRX11_20) g_0 rfl
theorem FRX11_27 : gx_FI RX11 27 11 3 4 := ⟨by decide, by decide, gx_in2 181 rfl rfl, by decide⟩
theorem gf_RX11_27 {E : gx_E} {l : Launch} {y : gx_Y} {d pc : Nat} {ls : List (Option Value)} {st : List Value} {μ : gx_M} (hc : y.1.cls = RX11) (hd : decode y.2.1 pc = .ok (.getfield 27, 3)) : gS E l y d (pc, ls, .ref (E.2.2.1 + 0) :: st, gx_G1, μ) (pc + 3, ls, .ref (E.2.2.1 + 42) :: st, gx_G1, μ) := s_getR hd (by rw [hc]; exact FRX11_27) g_0 rfl
theorem FRX11_34 : gx_FI RX11 34 11 4 4 := ⟨by decide, by decide, gx_in2 182 rfl rfl, by decide⟩
theorem gf_RX11_34 {E : gx_E} {l : Launch} {y : gx_Y} {d pc : Nat} {ls : List (Option Value)} {st : List Value} {μ : gx_M} (hc : y.1.cls = RX11) (hd : decode y.2.1 pc = .ok (.getfield 34, 3)) : gS E l y d (pc, ls, .ref (E.2.2.1 + 0) :: st, gx_G1, μ) (pc + 3, ls, .ref (E.2.2.1 + 62) :: st, gx_G1, μ) := s_getR hd (by rw [hc]; exact FRX11_34) g_0 rfl
theorem FRX11_41 : gx_FI RX11 41 11 5 4 := ⟨by decide, by decide, gx_in2 183 rfl rfl, by decide⟩
theorem gf_RX11_41 {E : gx_E} {l : Launch} {y : gx_Y} {d pc : Nat} {ls : List (Option Value)} {st : List Value} {μ : gx_M} (hc : y.1.cls = RX11) (hd : decode y.2.1 pc = .ok (.getfield 41, 3)) : gS E l y d (pc, ls, .ref (E.2.2.1 + 0) :: st, gx_G1, μ) (pc + 3, ls, .ref (E.2.2.1 + 75) :: st, gx_G1, μ) := s_getR hd (by rw [hc]; exact FRX11_41) g_0 rfl
theorem FRX11_48 : gx_FI RX11 48 11 6 4 := ⟨by decide, by decide, gx_in2 184 rfl rfl, by decide⟩
theorem gf_RX11_48 {E : gx_E} {l : Launch} {y : gx_Y} {d pc : Nat} {ls : List (Option Value)} {st : List Value} {μ : gx_M} (hc : y.1.cls = RX11) (hd : decode y.2.1 pc = .ok (.getfield 48, 3)) : gS E l y d (pc, ls, .ref (E.2.2.1 + 0) :: st, gx_G1, μ) (pc + 3, ls, .ref (E.2.2.1 + 79) :: st, gx_G1, μ) := s_getR hd (by rw [hc]; exact FRX11_48) g_0 rfl
theorem FRX11_55 : gx_FI RX11 55 11 7 4 := ⟨by decide, by decide, gx_in2 185 rfl rfl, by decide⟩
theorem gf_RX11_55 {E : gx_E} {l : Launch} {y : gx_Y} {d pc : Nat} {ls : List (Option Value)} {st : List Value} {μ : gx_M} (hc : y.1.cls = RX11) (hd : decode y.2.1 pc = .ok (.getfield 55, 3)) : gS E l y d (pc, ls, .ref (E.2.2.1 + 0) :: st, gx_G1, μ) (pc + 3, ls, .ref (E.2.2.1 + 82) :: st, gx_G1, μ) := s_getR hd (by rw [hc]; exact FRX11_55) g_0 rfl
theorem FRX11_62 : gx_FI RX11 62 11 8 4 := ⟨by decide, by decide, gx_in2 186 rfl rfl, by decide⟩
theorem gf_RX11_62 {E : gx_E} {l : Launch} {y : gx_Y} {d pc : Nat} {ls : List (Option Value)} {st : List Value} {μ : gx_M} (hc : y.1.cls = RX11) (hd : decode y.2.1 pc = .ok (.getfield 62, 3)) : gS E l y d (pc, ls, .ref (E.2.2.1 + 0) :: st, gx_G1, μ) (pc + 3, ls, .ref (E.2.2.1 + 84) :: st, gx_G1, μ) := s_getR hd (by rw [hc]; exact FRX11_62) g_0 rfl
theorem FRX11_66 : gx_FI RX11 66 11 9 4 := ⟨by decide, by decide, gx_in2 187 rfl rfl, by decide⟩
theorem gf_RX11_66 {E : gx_E} {l : Launch} {y : gx_Y} {d pc : Nat} {ls : List (Option Value)} {st : List Value} {μ : gx_M} (hc : y.1.cls = RX11) (hd : decode y.2.1 pc = .ok (.getfield 66, 3)) : gS E l y d (pc, ls, .ref (E.2.2.1 + 0) :: st, gx_G1, μ) (pc + 3, ls, .ref (E.2.2.1 + 88) :: st, gx_G1, μ) := s_getR hd (by rw [hc]; exact FRX11_66) g_0 rfl
theorem FRX11_70 : gx_FI RX11 70 9 6 0 := ⟨by decide, by decide, gx_in1 171 rfl rfl, by decide⟩
theorem gf_RX11_70 {E : gx_E} {l : Launch} {y : gx_Y} {d pc : Nat} {ls : List (Option Value)} {st : List Value} {μ : gx_M} (hc : y.1.cls = RX11) (hd : decode y.2.1 pc = .ok (.getfield 70, 3)) : gS E l y d (pc, ls, .ref (E.2.2.1 + 1) :: st, gx_G1, μ) (pc + 3, ls, .int (μ.1 1 6) :: st, gx_G1, μ) := s_getI hd (by rw [hc]; exact FRX11_70) (by decide) g_1
theorem pf_RX11_70 {E : gx_E} {l : Launch} {y : gx_Y} {d pc : Nat} {ls : List (Option Value)} {st : List Value} {μ : gx_M} {x : Int32} (hc : y.1.cls = RX11) (hd : decode y.2.1 pc = .ok (.putfield 70, 3)) : gS E l y d (pc, ls, .int x :: .ref (E.2.2.1 + 1) :: st, gx_G1, μ) (pc + 3, ls, st, gx_G1, gx_uI μ 1 6 x) := s_putI hd (by rw [hc]; exact FRX11_70) (by decide) (by decide +kernel) (ty := .int) rfl rfl rfl g_1
theorem FRX11_82 : gx_FI RX11 82 9 7 0 := ⟨by decide, by decide, gx_in1 175 rfl rfl, by decide⟩
theorem gf_RX11_82 {E : gx_E} {l : Launch} {y : gx_Y} {d pc : Nat} {ls : List (Option Value)} {st : List Value} {μ : gx_M} (hc : y.1.cls = RX11) (hd : decode y.2.1 pc = .ok (.getfield 82, 3)) : gS E l y d (pc, ls, .ref (E.2.2.1 + 1) :: st, gx_G1, μ) (pc + 3, ls, .int (μ.1 1 7) :: st, gx_G1, μ) := s_getI hd (by rw [hc]; exact FRX11_82) (by decide) g_1
theorem pf_RX11_82 {E : gx_E} {l : Launch} {y : gx_Y} {d pc : Nat} {ls : List (Option Value)} {st : List Value} {μ : gx_M} {x : Int32} (hc : y.1.cls = RX11) (hd : decode y.2.1 pc = .ok (.putfield 82, 3)) : gS E l y d (pc, ls, .int x :: .ref (E.2.2.1 + 1) :: st, gx_G1, μ) (pc + 3, ls, st, gx_G1, gx_uI μ 1 7 x) := s_putI hd (by rw [hc]; exact FRX11_82) (by decide) (by decide +kernel) (ty := .int) rfl rfl rfl g_1
theorem FRX11_85 : gx_FI RX11 85 9 8 0 := ⟨by decide, by decide, gx_in1 177 rfl rfl, by decide⟩
theorem gf_RX11_85 {E : gx_E} {l : Launch} {y : gx_Y} {d pc : Nat} {ls : List (Option Value)} {st : List Value} {μ : gx_M} (hc : y.1.cls = RX11) (hd : decode y.2.1 pc = .ok (.getfield 85, 3)) : gS E l y d (pc, ls, .ref (E.2.2.1 + 1) :: st, gx_G1, μ) (pc + 3, ls, .int (μ.1 1 8) :: st, gx_G1, μ) := s_getI hd (by rw [hc]; exact FRX11_85) (by decide) g_1
theorem pf_RX11_85 {E : gx_E} {l : Launch} {y : gx_Y} {d pc : Nat} {ls : List (Option Value)} {st : List Value} {μ : gx_M} {x : Int32} (hc : y.1.cls = RX11) (hd : decode y.2.1 pc = .ok (.putfield 85, 3)) : gS E l y d (pc, ls, .int x :: .ref (E.2.2.1 + 1) :: st, gx_G1, μ) (pc + 3, ls, st, gx_G1, gx_uI μ 1 8 x) := s_putI hd (by rw [hc]; exact FRX11_85) (by decide) (by decide +kernel) (ty := .int) rfl rfl rfl g_1
theorem FRX11_92 : gx_FI RX11 92 4 6 0 := ⟨by decide, by decide, gx_in2 11 rfl rfl, by decide⟩
theorem gf_RX11_92 {E : gx_E} {l : Launch} {y : gx_Y} {d pc : Nat} {ls : List (Option Value)} {st : List Value} {μ : gx_M} (hc : y.1.cls = RX11) (hd : decode y.2.1 pc = .ok (.getfield 92, 3)) : gS E l y d (pc, ls, .ref (E.2.2.1 + 42) :: st, gx_G1, μ) (pc + 3, ls, .int (μ.1 42 6) :: st, gx_G1, μ) := s_getI hd (by rw [hc]; exact FRX11_92) (by decide) g_42
theorem FRX11_93 : gx_FI RX11 93 4 7 0 := ⟨by decide, by decide, gx_in2 13 rfl rfl, by decide⟩
theorem gf_RX11_93 {E : gx_E} {l : Launch} {y : gx_Y} {d pc : Nat} {ls : List (Option Value)} {st : List Value} {μ : gx_M} (hc : y.1.cls = RX11) (hd : decode y.2.1 pc = .ok (.getfield 93, 3)) : gS E l y d (pc, ls, .ref (E.2.2.1 + 42) :: st, gx_G1, μ) (pc + 3, ls, .int (μ.1 42 7) :: st, gx_G1, μ) := s_getI hd (by rw [hc]; exact FRX11_93) (by decide) g_42
theorem FRX11_98 : gx_FI RX11 98 9 0 4 := ⟨by decide, by decide, gx_in1 160 rfl rfl, by decide⟩
theorem gf_RX11_98 {E : gx_E} {l : Launch} {y : gx_Y} {d pc : Nat} {ls : List (Option Value)} {st : List Value} {μ : gx_M} (hc : y.1.cls = RX11) (hd : decode y.2.1 pc = .ok (.getfield 98, 3)) : gS E l y d (pc, ls, .ref (E.2.2.1 + 1) :: st, gx_G1, μ) (pc + 3, ls, .ref (E.2.2.1 + 2) :: st, gx_G1, μ) := s_getR hd (by rw [hc]; exact FRX11_98) g_1 rfl
theorem FRX11_109 : gx_FI RX11 109 9 1 4 := ⟨by decide, by decide, gx_in1 162 rfl rfl, by decide⟩
theorem gf_RX11_109 {E : gx_E} {l : Launch} {y : gx_Y} {d pc : Nat} {ls : List (Option Value)} {st : List Value} {μ : gx_M} (hc : y.1.cls = RX11) (hd : decode y.2.1 pc = .ok (.getfield 109, 3)) : gS E l y d (pc, ls, .ref (E.2.2.1 + 1) :: st, gx_G1, μ) (pc + 3, ls, .ref (E.2.2.1 + 3) :: st, gx_G1, μ) := s_getR hd (by rw [hc]; exact FRX11_109) g_1 rfl
theorem FRX11_124 : gx_FI RX11 124 5 0 0 := ⟨by decide, by decide, gx_in1 53 rfl rfl, by decide⟩
theorem gfm_RX11_124 {E : gx_E} {l : Launch} {y : gx_Y} {d pc : Nat} {ls : List (Option Value)} {st : List Value} {μ : gx_M} {a : Nat} (ha : gx_St a) (hc : y.1.cls = RX11) (hd : decode y.2.1 pc = .ok (.getfield 124, 3)) : gS E l y d (pc, ls, .ref (E.2.2.1 + a) :: st, gx_G1, μ) (pc + 3, ls, .int (μ.1 a 0) :: st, gx_G1, μ) := s_getI hd (by rw [hc]; exact FRX11_124) (by decide) (St_0 ha)
theorem FRX11_127 : gx_FI RX11 127 5 1 0 := ⟨by decide, by decide, gx_in1 57 rfl rfl, by decide⟩
theorem gfm_RX11_127 {E : gx_E} {l : Launch} {y : gx_Y} {d pc : Nat} {ls : List (Option Value)} {st : List Value} {μ : gx_M} {a : Nat} (ha : gx_St a) (hc : y.1.cls = RX11) (hd : decode y.2.1 pc = .ok (.getfield 127, 3)) : gS E l y d (pc, ls, .ref (E.2.2.1 + a) :: st, gx_G1, μ) (pc + 3, ls, .int (μ.1 a 1) :: st, gx_G1, μ) := s_getI hd (by rw [hc]; exact FRX11_127) (by decide) (St_0 ha)
theorem FRX11_130 : gx_FI RX11 130 5 2 0 := ⟨by decide, by decide, gx_in1 62 rfl rfl, by decide⟩
theorem gfm_RX11_130 {E : gx_E} {l : Launch} {y : gx_Y} {d pc : Nat} {ls : List (Option Value)} {st : List Value} {μ : gx_M} {a : Nat} (ha : gx_St a) (hc : y.1.cls = RX11) (hd : decode y.2.1 pc = .ok (.getfield 130, 3)) : gS E l y d (pc, ls, .ref (E.2.2.1 + a) :: st, gx_G1, μ) (pc + 3, ls, .int (μ.1 a 2) :: st, gx_G1, μ) := s_getI hd (by rw [hc]; exact FRX11_130) (by decide) (St_0 ha)
theorem FRX11_141 : gx_FI RX11 141 5 3 4 := ⟨by decide, by decide, gx_in1 66 rfl rfl, by decide⟩
theorem gfm_RX11_141 {E : gx_E} {l : Launch} {y : gx_Y} {d pc : Nat} {ls : List (Option Value)} {st : List Value} {μ : gx_M} {a : Nat} (ha : gx_St a) (hc : y.1.cls = RX11) (hd : decode y.2.1 pc = .ok (.getfield 141, 3)) : gS E l y d (pc, ls, .ref (E.2.2.1 + a) :: st, gx_G1, μ) (pc + 3, ls, .ref (E.2.2.1 + (a + 1)) :: st, gx_G1, μ) := s_getR hd (by rw [hc]; exact FRX11_141) (St_0 ha) rfl
theorem FRX11_144 : gx_FI RX11 144 5 6 4 := ⟨by decide, by decide, gx_in1 83 rfl rfl, by decide⟩
theorem gfm_RX11_144 {E : gx_E} {l : Launch} {y : gx_Y} {d pc : Nat} {ls : List (Option Value)} {st : List Value} {μ : gx_M} {a : Nat} (ha : gx_St a) (hc : y.1.cls = RX11) (hd : decode y.2.1 pc = .ok (.getfield 144, 3)) : gS E l y d (pc, ls, .ref (E.2.2.1 + a) :: st, gx_G1, μ) (pc + 3, ls, .ref (E.2.2.1 + (a + 4)) :: st, gx_G1, μ) := s_getR hd (by rw [hc]; exact FRX11_144) (St_0 ha) rfl
theorem FRX11_146 : gx_FI RX11 146 5 7 4 := ⟨by decide, by decide, gx_in1 86 rfl rfl, by decide⟩
theorem gfm_RX11_146 {E : gx_E} {l : Launch} {y : gx_Y} {d pc : Nat} {ls : List (Option Value)} {st : List Value} {μ : gx_M} {a : Nat} (ha : gx_St a) (hc : y.1.cls = RX11) (hd : decode y.2.1 pc = .ok (.getfield 146, 3)) : gS E l y d (pc, ls, .ref (E.2.2.1 + a) :: st, gx_G1, μ) (pc + 3, ls, .ref (E.2.2.1 + (a + 5)) :: st, gx_G1, μ) := s_getR hd (by rw [hc]; exact FRX11_146) (St_0 ha) rfl
theorem FRX11_149 : gx_FI RX11 149 5 8 4 := ⟨by decide, by decide, gx_in1 89 rfl rfl, by decide⟩
theorem gfm_RX11_149 {E : gx_E} {l : Launch} {y : gx_Y} {d pc : Nat} {ls : List (Option Value)} {st : List Value} {μ : gx_M} {a : Nat} (ha : gx_St a) (hc : y.1.cls = RX11) (hd : decode y.2.1 pc = .ok (.getfield 149, 3)) : gS E l y d (pc, ls, .ref (E.2.2.1 + a) :: st, gx_G1, μ) (pc + 3, ls, .ref (E.2.2.1 + (a + 6)) :: st, gx_G1, μ) := s_getR hd (by rw [hc]; exact FRX11_149) (St_0 ha) rfl
theorem FRX11_152 : gx_FI RX11 152 5 9 4 := ⟨by decide, by decide, gx_in1 93 rfl rfl, by decide⟩
theorem gfm_RX11_152 {E : gx_E} {l : Launch} {y : gx_Y} {d pc : Nat} {ls : List (Option Value)} {st : List Value} {μ : gx_M} {a : Nat} (ha : gx_St a) (hc : y.1.cls = RX11) (hd : decode y.2.1 pc = .ok (.getfield 152, 3)) : gS E l y d (pc, ls, .ref (E.2.2.1 + a) :: st, gx_G1, μ) (pc + 3, ls, .ref (E.2.2.1 + (a + 7)) :: st, gx_G1, μ) := s_getR hd (by rw [hc]; exact FRX11_152) (St_0 ha) rfl
theorem FRX11_155 : gx_FI RX11 155 5 4 4 := ⟨by decide, by decide, gx_in1 72 rfl rfl, by decide⟩
theorem gfm_RX11_155 {E : gx_E} {l : Launch} {y : gx_Y} {d pc : Nat} {ls : List (Option Value)} {st : List Value} {μ : gx_M} {a : Nat} (ha : gx_St a) (hc : y.1.cls = RX11) (hd : decode y.2.1 pc = .ok (.getfield 155, 3)) : gS E l y d (pc, ls, .ref (E.2.2.1 + a) :: st, gx_G1, μ) (pc + 3, ls, .ref (E.2.2.1 + (a + 2)) :: st, gx_G1, μ) := s_getR hd (by rw [hc]; exact FRX11_155) (St_0 ha) rfl
theorem FRX11_158 : gx_FI RX11 158 5 5 4 := ⟨by decide, by decide, gx_in1 76 rfl rfl, by decide⟩
theorem gfm_RX11_158 {E : gx_E} {l : Launch} {y : gx_Y} {d pc : Nat} {ls : List (Option Value)} {st : List Value} {μ : gx_M} {a : Nat} (ha : gx_St a) (hc : y.1.cls = RX11) (hd : decode y.2.1 pc = .ok (.getfield 158, 3)) : gS E l y d (pc, ls, .ref (E.2.2.1 + a) :: st, gx_G1, μ) (pc + 3, ls, .ref (E.2.2.1 + (a + 3)) :: st, gx_G1, μ) := s_getR hd (by rw [hc]; exact FRX11_158) (St_0 ha) rfl
theorem FRX11_164 : gx_FI RX11 164 9 2 4 := ⟨by decide, by decide, gx_in1 164 rfl rfl, by decide⟩
theorem gf_RX11_164 {E : gx_E} {l : Launch} {y : gx_Y} {d pc : Nat} {ls : List (Option Value)} {st : List Value} {μ : gx_M} (hc : y.1.cls = RX11) (hd : decode y.2.1 pc = .ok (.getfield 164, 3)) : gS E l y d (pc, ls, .ref (E.2.2.1 + 1) :: st, gx_G1, μ) (pc + 3, ls, .ref (E.2.2.1 + 4) :: st, gx_G1, μ) := s_getR hd (by rw [hc]; exact FRX11_164) g_1 rfl
theorem FRX11_168 : gx_FI RX11 168 2 3 0 := ⟨by decide, by decide, gx_in1 133 rfl rfl, by decide⟩
theorem gfm_RX11_168 {E : gx_E} {l : Launch} {y : gx_Y} {d pc : Nat} {ls : List (Option Value)} {st : List Value} {μ : gx_M} {a n : Nat} (ha : gx_Ln a n) (hc : y.1.cls = RX11) (hd : decode y.2.1 pc = .ok (.getfield 168, 3)) : gS E l y d (pc, ls, .ref (E.2.2.1 + a) :: st, gx_G1, μ) (pc + 3, ls, .int (μ.1 a 3) :: st, gx_G1, μ) := s_getI hd (by rw [hc]; exact FRX11_168) (by decide) (Ln_0 ha)
theorem FRX11_172 : gx_FI RX11 172 2 1 4 := ⟨by decide, by decide, gx_in1 127 rfl rfl, by decide⟩
theorem gfm_RX11_172 {E : gx_E} {l : Launch} {y : gx_Y} {d pc : Nat} {ls : List (Option Value)} {st : List Value} {μ : gx_M} {a n : Nat} (ha : gx_Ln a n) (hc : y.1.cls = RX11) (hd : decode y.2.1 pc = .ok (.getfield 172, 3)) : gS E l y d (pc, ls, .ref (E.2.2.1 + a) :: st, gx_G1, μ) (pc + 3, ls, .ref (E.2.2.1 + (a + 1)) :: st, gx_G1, μ) := s_getR hd (by rw [hc]; exact FRX11_172) (Ln_0 ha) rfl
theorem FRX11_189 : gx_FI RX11 189 3 5 0 := ⟨by decide, by decide, gx_in2 54 rfl rfl, by decide⟩
theorem gf_RX11_189 {E : gx_E} {l : Launch} {y : gx_Y} {d pc : Nat} {ls : List (Option Value)} {st : List Value} {μ : gx_M} (hc : y.1.cls = RX11) (hd : decode y.2.1 pc = .ok (.getfield 189, 3)) : gS E l y d (pc, ls, .ref (E.2.2.1 + 62) :: st, gx_G1, μ) (pc + 3, ls, .int (μ.1 62 5) :: st, gx_G1, μ) := s_getI hd (by rw [hc]; exact FRX11_189) (by decide) g_62
theorem FRX11_241 : gx_FI RX11 241 0 4 0 := ⟨by decide, by decide, gx_in2 83 rfl rfl, by decide⟩
theorem gf_RX11_241 {E : gx_E} {l : Launch} {y : gx_Y} {d pc : Nat} {ls : List (Option Value)} {st : List Value} {μ : gx_M} (hc : y.1.cls = RX11) (hd : decode y.2.1 pc = .ok (.getfield 241, 3)) : gS E l y d (pc, ls, .ref (E.2.2.1 + 75) :: st, gx_G1, μ) (pc + 3, ls, .int (μ.1 75 4) :: st, gx_G1, μ) := s_getI hd (by rw [hc]; exact FRX11_241) (by decide) g_75
theorem FRX11_244 : gx_FI RX11 244 0 3 0 := ⟨by decide, by decide, gx_in2 81 rfl rfl, by decide⟩
theorem gf_RX11_244 {E : gx_E} {l : Launch} {y : gx_Y} {d pc : Nat} {ls : List (Option Value)} {st : List Value} {μ : gx_M} (hc : y.1.cls = RX11) (hd : decode y.2.1 pc = .ok (.getfield 244, 3)) : gS E l y d (pc, ls, .ref (E.2.2.1 + 75) :: st, gx_G1, μ) (pc + 3, ls, .int (μ.1 75 3) :: st, gx_G1, μ) := s_getI hd (by rw [hc]; exact FRX11_244) (by decide) g_75
theorem FRX11_255 : gx_FI RX11 255 0 6 0 := ⟨by decide, by decide, gx_in2 87 rfl rfl, by decide⟩
theorem gf_RX11_255 {E : gx_E} {l : Launch} {y : gx_Y} {d pc : Nat} {ls : List (Option Value)} {st : List Value} {μ : gx_M} (hc : y.1.cls = RX11) (hd : decode y.2.1 pc = .ok (.getfield 255, 3)) : gS E l y d (pc, ls, .ref (E.2.2.1 + 75) :: st, gx_G1, μ) (pc + 3, ls, .int (μ.1 75 6) :: st, gx_G1, μ) := s_getI hd (by rw [hc]; exact FRX11_255) (by decide) g_75
theorem FRX11_258 : gx_FI RX11 258 0 5 0 := ⟨by decide, by decide, gx_in2 85 rfl rfl, by decide⟩
theorem gf_RX11_258 {E : gx_E} {l : Launch} {y : gx_Y} {d pc : Nat} {ls : List (Option Value)} {st : List Value} {μ : gx_M} (hc : y.1.cls = RX11) (hd : decode y.2.1 pc = .ok (.getfield 258, 3)) : gS E l y d (pc, ls, .ref (E.2.2.1 + 75) :: st, gx_G1, μ) (pc + 3, ls, .int (μ.1 75 5) :: st, gx_G1, μ) := s_getI hd (by rw [hc]; exact FRX11_258) (by decide) g_75
theorem FRX11_332 : gx_FI RX11 332 9 3 4 := ⟨by decide, by decide, gx_in1 166 rfl rfl, by decide⟩
theorem gf_RX11_332 {E : gx_E} {l : Launch} {y : gx_Y} {d pc : Nat} {ls : List (Option Value)} {st : List Value} {μ : gx_M} (hc : y.1.cls = RX11) (hd : decode y.2.1 pc = .ok (.getfield 332, 3)) : gS E l y d (pc, ls, .ref (E.2.2.1 + 1) :: st, gx_G1, μ) (pc + 3, ls, .ref (E.2.2.1 + 5) :: st, gx_G1, μ) := s_getR hd (by rw [hc]; exact FRX11_332) g_1 rfl
theorem FRX11_339 : gx_FI RX11 339 7 3 0 := ⟨by decide, by decide, gx_in2 130 rfl rfl, by decide⟩
theorem gf_RX11_339 {E : gx_E} {l : Launch} {y : gx_Y} {d pc : Nat} {ls : List (Option Value)} {st : List Value} {μ : gx_M} (hc : y.1.cls = RX11) (hd : decode y.2.1 pc = .ok (.getfield 339, 3)) : gS E l y d (pc, ls, .ref (E.2.2.1 + 82) :: st, gx_G1, μ) (pc + 3, ls, .int (μ.1 82 3) :: st, gx_G1, μ) := s_getI hd (by rw [hc]; exact FRX11_339) (by decide) g_82
theorem FRX11_340 : gx_FI RX11 340 7 4 0 := ⟨by decide, by decide, gx_in2 132 rfl rfl, by decide⟩
theorem gf_RX11_340 {E : gx_E} {l : Launch} {y : gx_Y} {d pc : Nat} {ls : List (Option Value)} {st : List Value} {μ : gx_M} (hc : y.1.cls = RX11) (hd : decode y.2.1 pc = .ok (.getfield 340, 3)) : gS E l y d (pc, ls, .ref (E.2.2.1 + 82) :: st, gx_G1, μ) (pc + 3, ls, .int (μ.1 82 4) :: st, gx_G1, μ) := s_getI hd (by rw [hc]; exact FRX11_340) (by decide) g_82
theorem FRX11_343 : gx_FI RX11 343 7 5 0 := ⟨by decide, by decide, gx_in2 134 rfl rfl, by decide⟩
theorem gf_RX11_343 {E : gx_E} {l : Launch} {y : gx_Y} {d pc : Nat} {ls : List (Option Value)} {st : List Value} {μ : gx_M} (hc : y.1.cls = RX11) (hd : decode y.2.1 pc = .ok (.getfield 343, 3)) : gS E l y d (pc, ls, .ref (E.2.2.1 + 82) :: st, gx_G1, μ) (pc + 3, ls, .int (μ.1 82 5) :: st, gx_G1, μ) := s_getI hd (by rw [hc]; exact FRX11_343) (by decide) g_82
theorem FRX11_352 : gx_FI RX11 352 7 6 0 := ⟨by decide, by decide, gx_in2 136 rfl rfl, by decide⟩
theorem gf_RX11_352 {E : gx_E} {l : Launch} {y : gx_Y} {d pc : Nat} {ls : List (Option Value)} {st : List Value} {μ : gx_M} (hc : y.1.cls = RX11) (hd : decode y.2.1 pc = .ok (.getfield 352, 3)) : gS E l y d (pc, ls, .ref (E.2.2.1 + 82) :: st, gx_G1, μ) (pc + 3, ls, .int (μ.1 82 6) :: st, gx_G1, μ) := s_getI hd (by rw [hc]; exact FRX11_352) (by decide) g_82
theorem FRX11_355 : gx_FI RX11 355 7 7 0 := ⟨by decide, by decide, gx_in2 138 rfl rfl, by decide⟩
theorem gf_RX11_355 {E : gx_E} {l : Launch} {y : gx_Y} {d pc : Nat} {ls : List (Option Value)} {st : List Value} {μ : gx_M} (hc : y.1.cls = RX11) (hd : decode y.2.1 pc = .ok (.getfield 355, 3)) : gS E l y d (pc, ls, .ref (E.2.2.1 + 82) :: st, gx_G1, μ) (pc + 3, ls, .int (μ.1 82 7) :: st, gx_G1, μ) := s_getI hd (by rw [hc]; exact FRX11_355) (by decide) g_82
theorem FRX11_364 : gx_FI RX11 364 9 4 4 := ⟨by decide, by decide, gx_in1 168 rfl rfl, by decide⟩
theorem gf_RX11_364 {E : gx_E} {l : Launch} {y : gx_Y} {d pc : Nat} {ls : List (Option Value)} {st : List Value} {μ : gx_M} (hc : y.1.cls = RX11) (hd : decode y.2.1 pc = .ok (.getfield 364, 3)) : gS E l y d (pc, ls, .ref (E.2.2.1 + 1) :: st, gx_G1, μ) (pc + 3, ls, .ref (E.2.2.1 + 6) :: st, gx_G1, μ) := s_getR hd (by rw [hc]; exact FRX11_364) g_1 rfl
theorem FRX11_368 : gx_FI RX11 368 6 0 0 := ⟨by decide, by decide, gx_in1 151 rfl rfl, by decide⟩
theorem gfm_RX11_368 {E : gx_E} {l : Launch} {y : gx_Y} {d pc : Nat} {ls : List (Option Value)} {st : List Value} {μ : gx_M} {a : Nat} (ha : gx_Sw a) (hc : y.1.cls = RX11) (hd : decode y.2.1 pc = .ok (.getfield 368, 3)) : gS E l y d (pc, ls, .ref (E.2.2.1 + a) :: st, gx_G1, μ) (pc + 3, ls, .int (μ.1 a 0) :: st, gx_G1, μ) := s_getI hd (by rw [hc]; exact FRX11_368) (by decide) (Sw_0 ha)
theorem FRX11_384 : gx_FI RX11 384 10 3 0 := ⟨by decide, by decide, gx_in2 168 rfl rfl, by decide⟩
theorem gf_RX11_384 {E : gx_E} {l : Launch} {y : gx_Y} {d pc : Nat} {ls : List (Option Value)} {st : List Value} {μ : gx_M} (hc : y.1.cls = RX11) (hd : decode y.2.1 pc = .ok (.getfield 384, 3)) : gS E l y d (pc, ls, .ref (E.2.2.1 + 84) :: st, gx_G1, μ) (pc + 3, ls, .int (μ.1 84 3) :: st, gx_G1, μ) := s_getI hd (by rw [hc]; exact FRX11_384) (by decide) g_84
theorem FRX11_387 : gx_FI RX11 387 10 0 4 := ⟨by decide, by decide, gx_in2 163 rfl rfl, by decide⟩
theorem gf_RX11_387 {E : gx_E} {l : Launch} {y : gx_Y} {d pc : Nat} {ls : List (Option Value)} {st : List Value} {μ : gx_M} (hc : y.1.cls = RX11) (hd : decode y.2.1 pc = .ok (.getfield 387, 3)) : gS E l y d (pc, ls, .ref (E.2.2.1 + 84) :: st, gx_G1, μ) (pc + 3, ls, .ref (E.2.2.1 + 85) :: st, gx_G1, μ) := s_getR hd (by rw [hc]; exact FRX11_387) g_84 rfl
theorem FRX11_390 : gx_FI RX11 390 10 1 4 := ⟨by decide, by decide, gx_in2 165 rfl rfl, by decide⟩
theorem gf_RX11_390 {E : gx_E} {l : Launch} {y : gx_Y} {d pc : Nat} {ls : List (Option Value)} {st : List Value} {μ : gx_M} (hc : y.1.cls = RX11) (hd : decode y.2.1 pc = .ok (.getfield 390, 3)) : gS E l y d (pc, ls, .ref (E.2.2.1 + 84) :: st, gx_G1, μ) (pc + 3, ls, .ref (E.2.2.1 + 86) :: st, gx_G1, μ) := s_getR hd (by rw [hc]; exact FRX11_390) g_84 rfl
theorem FRX0_9 : gx_FI RX0 9 0 0 4 := ⟨by decide, by decide, gx_in2 77 rfl rfl, by decide⟩
theorem gf_RX0_9 {E : gx_E} {l : Launch} {y : gx_Y} {d pc : Nat} {ls : List (Option Value)} {st : List Value} {μ : gx_M} (hc : y.1.cls = RX0) (hd : decode y.2.1 pc = .ok (.getfield 9, 3)) : gS E l y d (pc, ls, .ref (E.2.2.1 + 75) :: st, gx_G1, μ) (pc + 3, ls, .ref (E.2.2.1 + 76) :: st, gx_G1, μ) := s_getR hd (by rw [hc]; exact FRX0_9) g_75 rfl
theorem FRX0_15 : gx_FI RX0 15 0 1 4 := ⟨by decide, by decide, gx_in2 78 rfl rfl, by decide⟩
theorem gf_RX0_15 {E : gx_E} {l : Launch} {y : gx_Y} {d pc : Nat} {ls : List (Option Value)} {st : List Value} {μ : gx_M} (hc : y.1.cls = RX0) (hd : decode y.2.1 pc = .ok (.getfield 15, 3)) : gS E l y d (pc, ls, .ref (E.2.2.1 + 75) :: st, gx_G1, μ) (pc + 3, ls, .ref (E.2.2.1 + 77) :: st, gx_G1, μ) := s_getR hd (by rw [hc]; exact FRX0_15) g_75 rfl
theorem FRX0_18 : gx_FI RX0 18 0 2 4 := ⟨by decide, by decide, gx_in2 79 rfl rfl, by decide⟩
theorem gf_RX0_18 {E : gx_E} {l : Launch} {y : gx_Y} {d pc : Nat} {ls : List (Option Value)} {st : List Value} {μ : gx_M} (hc : y.1.cls = RX0) (hd : decode y.2.1 pc = .ok (.getfield 18, 3)) : gS E l y d (pc, ls, .ref (E.2.2.1 + 75) :: st, gx_G1, μ) (pc + 3, ls, .ref (E.2.2.1 + 78) :: st, gx_G1, μ) := s_getR hd (by rw [hc]; exact FRX0_18) g_75 rfl
theorem FRX0_21 : gx_FI RX0 21 5 2 0 := ⟨by decide, by decide, gx_in1 58 rfl rfl, by decide⟩
theorem gfm_RX0_21 {E : gx_E} {l : Launch} {y : gx_Y} {d pc : Nat} {ls : List (Option Value)} {st : List Value} {μ : gx_M} {a : Nat} (ha : gx_St a) (hc : y.1.cls = RX0) (hd : decode y.2.1 pc = .ok (.getfield 21, 3)) : gS E l y d (pc, ls, .ref (E.2.2.1 + a) :: st, gx_G1, μ) (pc + 3, ls, .int (μ.1 a 2) :: st, gx_G1, μ) := s_getI hd (by rw [hc]; exact FRX0_21) (by decide) (St_0 ha)
theorem FRX0_27 : gx_FI RX0 27 5 0 0 := ⟨by decide, by decide, gx_in1 49 rfl rfl, by decide⟩
theorem gfm_RX0_27 {E : gx_E} {l : Launch} {y : gx_Y} {d pc : Nat} {ls : List (Option Value)} {st : List Value} {μ : gx_M} {a : Nat} (ha : gx_St a) (hc : y.1.cls = RX0) (hd : decode y.2.1 pc = .ok (.getfield 27, 3)) : gS E l y d (pc, ls, .ref (E.2.2.1 + a) :: st, gx_G1, μ) (pc + 3, ls, .int (μ.1 a 0) :: st, gx_G1, μ) := s_getI hd (by rw [hc]; exact FRX0_27) (by decide) (St_0 ha)
theorem FRX0_91 : gx_FI RX0 91 5 6 4 := ⟨by decide, by decide, gx_in1 82 rfl rfl, by decide⟩
theorem gfm_RX0_91 {E : gx_E} {l : Launch} {y : gx_Y} {d pc : Nat} {ls : List (Option Value)} {st : List Value} {μ : gx_M} {a : Nat} (ha : gx_St a) (hc : y.1.cls = RX0) (hd : decode y.2.1 pc = .ok (.getfield 91, 3)) : gS E l y d (pc, ls, .ref (E.2.2.1 + a) :: st, gx_G1, μ) (pc + 3, ls, .ref (E.2.2.1 + (a + 4)) :: st, gx_G1, μ) := s_getR hd (by rw [hc]; exact FRX0_91) (St_0 ha) rfl
theorem FRX0_107 : gx_FI RX0 107 0 3 0 := ⟨by decide, by decide, gx_in2 80 rfl rfl, by decide⟩
theorem gf_RX0_107 {E : gx_E} {l : Launch} {y : gx_Y} {d pc : Nat} {ls : List (Option Value)} {st : List Value} {μ : gx_M} (hc : y.1.cls = RX0) (hd : decode y.2.1 pc = .ok (.getfield 107, 3)) : gS E l y d (pc, ls, .ref (E.2.2.1 + 75) :: st, gx_G1, μ) (pc + 3, ls, .int (μ.1 75 3) :: st, gx_G1, μ) := s_getI hd (by rw [hc]; exact FRX0_107) (by decide) g_75
theorem pf_RX0_107 {E : gx_E} {l : Launch} {y : gx_Y} {d pc : Nat} {ls : List (Option Value)} {st : List Value} {μ : gx_M} {x : Int32} (hc : y.1.cls = RX0) (hd : decode y.2.1 pc = .ok (.putfield 107, 3)) : gS E l y d (pc, ls, .int x :: .ref (E.2.2.1 + 75) :: st, gx_G1, μ) (pc + 3, ls, st, gx_G1, gx_uI μ 75 3 x) := s_putI hd (by rw [hc]; exact FRX0_107) (by decide) (by decide +kernel) (ty := .int) rfl rfl rfl g_75
theorem FRX0_110 : gx_FI RX0 110 0 4 0 := ⟨by decide, by decide, gx_in2 82 rfl rfl, by decide⟩
theorem gf_RX0_110 {E : gx_E} {l : Launch} {y : gx_Y} {d pc : Nat} {ls : List (Option Value)} {st : List Value} {μ : gx_M} (hc : y.1.cls = RX0) (hd : decode y.2.1 pc = .ok (.getfield 110, 3)) : gS E l y d (pc, ls, .ref (E.2.2.1 + 75) :: st, gx_G1, μ) (pc + 3, ls, .int (μ.1 75 4) :: st, gx_G1, μ) := s_getI hd (by rw [hc]; exact FRX0_110) (by decide) g_75
theorem pf_RX0_110 {E : gx_E} {l : Launch} {y : gx_Y} {d pc : Nat} {ls : List (Option Value)} {st : List Value} {μ : gx_M} {x : Int32} (hc : y.1.cls = RX0) (hd : decode y.2.1 pc = .ok (.putfield 110, 3)) : gS E l y d (pc, ls, .int x :: .ref (E.2.2.1 + 75) :: st, gx_G1, μ) (pc + 3, ls, st, gx_G1, gx_uI μ 75 4 x) := s_putI hd (by rw [hc]; exact FRX0_110) (by decide) (by decide +kernel) (ty := .int) rfl rfl rfl g_75
theorem FRX0_116 : gx_FI RX0 116 5 3 4 := ⟨by decide, by decide, gx_in1 67 rfl rfl, by decide⟩
theorem gfm_RX0_116 {E : gx_E} {l : Launch} {y : gx_Y} {d pc : Nat} {ls : List (Option Value)} {st : List Value} {μ : gx_M} {a : Nat} (ha : gx_St a) (hc : y.1.cls = RX0) (hd : decode y.2.1 pc = .ok (.getfield 116, 3)) : gS E l y d (pc, ls, .ref (E.2.2.1 + a) :: st, gx_G1, μ) (pc + 3, ls, .ref (E.2.2.1 + (a + 1)) :: st, gx_G1, μ) := s_getR hd (by rw [hc]; exact FRX0_116) (St_0 ha) rfl
theorem FRX0_134 : gx_FI RX0 134 0 5 0 := ⟨by decide, by decide, gx_in2 84 rfl rfl, by decide⟩
theorem gf_RX0_134 {E : gx_E} {l : Launch} {y : gx_Y} {d pc : Nat} {ls : List (Option Value)} {st : List Value} {μ : gx_M} (hc : y.1.cls = RX0) (hd : decode y.2.1 pc = .ok (.getfield 134, 3)) : gS E l y d (pc, ls, .ref (E.2.2.1 + 75) :: st, gx_G1, μ) (pc + 3, ls, .int (μ.1 75 5) :: st, gx_G1, μ) := s_getI hd (by rw [hc]; exact FRX0_134) (by decide) g_75
theorem pf_RX0_134 {E : gx_E} {l : Launch} {y : gx_Y} {d pc : Nat} {ls : List (Option Value)} {st : List Value} {μ : gx_M} {x : Int32} (hc : y.1.cls = RX0) (hd : decode y.2.1 pc = .ok (.putfield 134, 3)) : gS E l y d (pc, ls, .int x :: .ref (E.2.2.1 + 75) :: st, gx_G1, μ) (pc + 3, ls, st, gx_G1, gx_uI μ 75 5 x) := s_putI hd (by rw [hc]; exact FRX0_134) (by decide) (by decide +kernel) (ty := .int) rfl rfl rfl g_75
theorem FRX0_137 : gx_FI RX0 137 0 6 0 := ⟨by decide, by decide, gx_in2 86 rfl rfl, by decide⟩
theorem gf_RX0_137 {E : gx_E} {l : Launch} {y : gx_Y} {d pc : Nat} {ls : List (Option Value)} {st : List Value} {μ : gx_M} (hc : y.1.cls = RX0) (hd : decode y.2.1 pc = .ok (.getfield 137, 3)) : gS E l y d (pc, ls, .ref (E.2.2.1 + 75) :: st, gx_G1, μ) (pc + 3, ls, .int (μ.1 75 6) :: st, gx_G1, μ) := s_getI hd (by rw [hc]; exact FRX0_137) (by decide) g_75
theorem pf_RX0_137 {E : gx_E} {l : Launch} {y : gx_Y} {d pc : Nat} {ls : List (Option Value)} {st : List Value} {μ : gx_M} {x : Int32} (hc : y.1.cls = RX0) (hd : decode y.2.1 pc = .ok (.putfield 137, 3)) : gS E l y d (pc, ls, .int x :: .ref (E.2.2.1 + 75) :: st, gx_G1, μ) (pc + 3, ls, st, gx_G1, gx_uI μ 75 6 x) := s_putI hd (by rw [hc]; exact FRX0_137) (by decide) (by decide +kernel) (ty := .int) rfl rfl rfl g_75
theorem FRX0_144 : gx_FI RX0 144 5 5 4 := ⟨by decide, by decide, gx_in1 78 rfl rfl, by decide⟩
theorem gfm_RX0_144 {E : gx_E} {l : Launch} {y : gx_Y} {d pc : Nat} {ls : List (Option Value)} {st : List Value} {μ : gx_M} {a : Nat} (ha : gx_St a) (hc : y.1.cls = RX0) (hd : decode y.2.1 pc = .ok (.getfield 144, 3)) : gS E l y d (pc, ls, .ref (E.2.2.1 + a) :: st, gx_G1, μ) (pc + 3, ls, .ref (E.2.2.1 + (a + 3)) :: st, gx_G1, μ) := s_getR hd (by rw [hc]; exact FRX0_144) (St_0 ha) rfl
theorem FRX0_154 : gx_FI RX0 154 5 4 4 := ⟨by decide, by decide, gx_in1 73 rfl rfl, by decide⟩
theorem gfm_RX0_154 {E : gx_E} {l : Launch} {y : gx_Y} {d pc : Nat} {ls : List (Option Value)} {st : List Value} {μ : gx_M} {a : Nat} (ha : gx_St a) (hc : y.1.cls = RX0) (hd : decode y.2.1 pc = .ok (.getfield 154, 3)) : gS E l y d (pc, ls, .ref (E.2.2.1 + a) :: st, gx_G1, μ) (pc + 3, ls, .ref (E.2.2.1 + (a + 2)) :: st, gx_G1, μ) := s_getR hd (by rw [hc]; exact FRX0_154) (St_0 ha) rfl
theorem FRX1_9 : gx_FI RX1 9 1 0 4 := ⟨by decide, by decide, gx_in2 110 rfl rfl, by decide⟩
theorem gf_RX1_9 {E : gx_E} {l : Launch} {y : gx_Y} {d pc : Nat} {ls : List (Option Value)} {st : List Value} {μ : gx_M} (hc : y.1.cls = RX1) (hd : decode y.2.1 pc = .ok (.getfield 9, 3)) : gS E l y d (pc, ls, .ref (E.2.2.1 + 79) :: st, gx_G1, μ) (pc + 3, ls, .ref (E.2.2.1 + 80) :: st, gx_G1, μ) := s_getR hd (by rw [hc]; exact FRX1_9) g_79 rfl
theorem FRX1_15 : gx_FI RX1 15 1 1 4 := ⟨by decide, by decide, gx_in2 111 rfl rfl, by decide⟩
theorem gf_RX1_15 {E : gx_E} {l : Launch} {y : gx_Y} {d pc : Nat} {ls : List (Option Value)} {st : List Value} {μ : gx_M} (hc : y.1.cls = RX1) (hd : decode y.2.1 pc = .ok (.getfield 15, 3)) : gS E l y d (pc, ls, .ref (E.2.2.1 + 79) :: st, gx_G1, μ) (pc + 3, ls, .ref (E.2.2.1 + 81) :: st, gx_G1, μ) := s_getR hd (by rw [hc]; exact FRX1_15) g_79 rfl
theorem FRX1_22 : gx_FI RX1 22 1 2 0 := ⟨by decide, by decide, gx_in2 112 rfl rfl, by decide⟩
theorem gf_RX1_22 {E : gx_E} {l : Launch} {y : gx_Y} {d pc : Nat} {ls : List (Option Value)} {st : List Value} {μ : gx_M} (hc : y.1.cls = RX1) (hd : decode y.2.1 pc = .ok (.getfield 22, 3)) : gS E l y d (pc, ls, .ref (E.2.2.1 + 79) :: st, gx_G1, μ) (pc + 3, ls, .int (μ.1 79 2) :: st, gx_G1, μ) := s_getI hd (by rw [hc]; exact FRX1_22) (by decide) g_79
theorem pf_RX1_22 {E : gx_E} {l : Launch} {y : gx_Y} {d pc : Nat} {ls : List (Option Value)} {st : List Value} {μ : gx_M} {x : Int32} (hc : y.1.cls = RX1) (hd : decode y.2.1 pc = .ok (.putfield 22, 3)) : gS E l y d (pc, ls, .int x :: .ref (E.2.2.1 + 79) :: st, gx_G1, μ) (pc + 3, ls, st, gx_G1, gx_uI μ 79 2 x) := s_putI hd (by rw [hc]; exact FRX1_22) (by decide) (by decide +kernel) (ty := .int) rfl rfl rfl g_79
theorem FRX1_36 : gx_FI RX1 36 5 2 0 := ⟨by decide, by decide, gx_in1 60 rfl rfl, by decide⟩
theorem gfm_RX1_36 {E : gx_E} {l : Launch} {y : gx_Y} {d pc : Nat} {ls : List (Option Value)} {st : List Value} {μ : gx_M} {a : Nat} (ha : gx_St a) (hc : y.1.cls = RX1) (hd : decode y.2.1 pc = .ok (.getfield 36, 3)) : gS E l y d (pc, ls, .ref (E.2.2.1 + a) :: st, gx_G1, μ) (pc + 3, ls, .int (μ.1 a 2) :: st, gx_G1, μ) := s_getI hd (by rw [hc]; exact FRX1_36) (by decide) (St_0 ha)
theorem FRX1_41 : gx_FI RX1 41 5 0 0 := ⟨by decide, by decide, gx_in1 51 rfl rfl, by decide⟩
theorem gfm_RX1_41 {E : gx_E} {l : Launch} {y : gx_Y} {d pc : Nat} {ls : List (Option Value)} {st : List Value} {μ : gx_M} {a : Nat} (ha : gx_St a) (hc : y.1.cls = RX1) (hd : decode y.2.1 pc = .ok (.getfield 41, 3)) : gS E l y d (pc, ls, .ref (E.2.2.1 + a) :: st, gx_G1, μ) (pc + 3, ls, .int (μ.1 a 0) :: st, gx_G1, μ) := s_getI hd (by rw [hc]; exact FRX1_41) (by decide) (St_0 ha)
theorem FRX1_48 : gx_FI RX1 48 5 6 4 := ⟨by decide, by decide, gx_in1 80 rfl rfl, by decide⟩
theorem gfm_RX1_48 {E : gx_E} {l : Launch} {y : gx_Y} {d pc : Nat} {ls : List (Option Value)} {st : List Value} {μ : gx_M} {a : Nat} (ha : gx_St a) (hc : y.1.cls = RX1) (hd : decode y.2.1 pc = .ok (.getfield 48, 3)) : gS E l y d (pc, ls, .ref (E.2.2.1 + a) :: st, gx_G1, μ) (pc + 3, ls, .ref (E.2.2.1 + (a + 4)) :: st, gx_G1, μ) := s_getR hd (by rw [hc]; exact FRX1_48) (St_0 ha) rfl
theorem FRX2_7 : gx_FI RX2 7 2 0 0 := ⟨by decide, by decide, gx_in1 123 rfl rfl, by decide⟩
theorem gfm_RX2_7 {E : gx_E} {l : Launch} {y : gx_Y} {d pc : Nat} {ls : List (Option Value)} {st : List Value} {μ : gx_M} {a n : Nat} (ha : gx_Ln a n) (hc : y.1.cls = RX2) (hd : decode y.2.1 pc = .ok (.getfield 7, 3)) : gS E l y d (pc, ls, .ref (E.2.2.1 + a) :: st, gx_G1, μ) (pc + 3, ls, .int (μ.1 a 0) :: st, gx_G1, μ) := s_getI hd (by rw [hc]; exact FRX2_7) (by decide) (Ln_0 ha)
theorem FRX2_13 : gx_FI RX2 13 2 1 4 := ⟨by decide, by decide, gx_in1 124 rfl rfl, by decide⟩
theorem gfm_RX2_13 {E : gx_E} {l : Launch} {y : gx_Y} {d pc : Nat} {ls : List (Option Value)} {st : List Value} {μ : gx_M} {a n : Nat} (ha : gx_Ln a n) (hc : y.1.cls = RX2) (hd : decode y.2.1 pc = .ok (.getfield 13, 3)) : gS E l y d (pc, ls, .ref (E.2.2.1 + a) :: st, gx_G1, μ) (pc + 3, ls, .ref (E.2.2.1 + (a + 1)) :: st, gx_G1, μ) := s_getR hd (by rw [hc]; exact FRX2_13) (Ln_0 ha) rfl
theorem FRX2_17 : gx_FI RX2 17 2 2 4 := ⟨by decide, by decide, gx_in1 128 rfl rfl, by decide⟩
theorem gfm_RX2_17 {E : gx_E} {l : Launch} {y : gx_Y} {d pc : Nat} {ls : List (Option Value)} {st : List Value} {μ : gx_M} {a n : Nat} (ha : gx_Ln a n) (hc : y.1.cls = RX2) (hd : decode y.2.1 pc = .ok (.getfield 17, 3)) : gS E l y d (pc, ls, .ref (E.2.2.1 + a) :: st, gx_G1, μ) (pc + 3, ls, .ref (E.2.2.1 + (a + 2)) :: st, gx_G1, μ) := s_getR hd (by rw [hc]; exact FRX2_17) (Ln_0 ha) rfl
theorem FRX2_20 : gx_FI RX2 20 2 3 0 := ⟨by decide, by decide, gx_in1 129 rfl rfl, by decide⟩
theorem gfm_RX2_20 {E : gx_E} {l : Launch} {y : gx_Y} {d pc : Nat} {ls : List (Option Value)} {st : List Value} {μ : gx_M} {a n : Nat} (ha : gx_Ln a n) (hc : y.1.cls = RX2) (hd : decode y.2.1 pc = .ok (.getfield 20, 3)) : gS E l y d (pc, ls, .ref (E.2.2.1 + a) :: st, gx_G1, μ) (pc + 3, ls, .int (μ.1 a 3) :: st, gx_G1, μ) := s_getI hd (by rw [hc]; exact FRX2_20) (by decide) (Ln_0 ha)
theorem pfm_RX2_20 {E : gx_E} {l : Launch} {y : gx_Y} {d pc : Nat} {ls : List (Option Value)} {st : List Value} {μ : gx_M} {a n : Nat} (ha : gx_Ln a n) {x : Int32} (hc : y.1.cls = RX2) (hd : decode y.2.1 pc = .ok (.putfield 20, 3)) : gS E l y d (pc, ls, .int x :: .ref (E.2.2.1 + a) :: st, gx_G1, μ) (pc + 3, ls, st, gx_G1, gx_uI μ a 3 x) := s_putI hd (by rw [hc]; exact FRX2_20) (by decide) (by decide +kernel) (ty := .int) rfl rfl rfl (Ln_0 ha)
theorem FRX3_12 : gx_FI RX3 12 3 0 4 := ⟨by decide, by decide, gx_in2 48 rfl rfl, by decide⟩
theorem gf_RX3_12 {E : gx_E} {l : Launch} {y : gx_Y} {d pc : Nat} {ls : List (Option Value)} {st : List Value} {μ : gx_M} (hc : y.1.cls = RX3) (hd : decode y.2.1 pc = .ok (.getfield 12, 3)) : gS E l y d (pc, ls, .ref (E.2.2.1 + 62) :: st, gx_G1, μ) (pc + 3, ls, .ref (E.2.2.1 + 63) :: st, gx_G1, μ) := s_getR hd (by rw [hc]; exact FRX3_12) g_62 rfl
theorem FRX3_18 : gx_FI RX3 18 3 1 4 := ⟨by decide, by decide, gx_in2 49 rfl rfl, by decide⟩
theorem gf_RX3_18 {E : gx_E} {l : Launch} {y : gx_Y} {d pc : Nat} {ls : List (Option Value)} {st : List Value} {μ : gx_M} (hc : y.1.cls = RX3) (hd : decode y.2.1 pc = .ok (.getfield 18, 3)) : gS E l y d (pc, ls, .ref (E.2.2.1 + 62) :: st, gx_G1, μ) (pc + 3, ls, .ref (E.2.2.1 + 71) :: st, gx_G1, μ) := s_getR hd (by rw [hc]; exact FRX3_18) g_62 rfl
theorem FRX3_22 : gx_FI RX3 22 3 2 4 := ⟨by decide, by decide, gx_in2 50 rfl rfl, by decide⟩
theorem gf_RX3_22 {E : gx_E} {l : Launch} {y : gx_Y} {d pc : Nat} {ls : List (Option Value)} {st : List Value} {μ : gx_M} (hc : y.1.cls = RX3) (hd : decode y.2.1 pc = .ok (.getfield 22, 3)) : gS E l y d (pc, ls, .ref (E.2.2.1 + 62) :: st, gx_G1, μ) (pc + 3, ls, .ref (E.2.2.1 + 72) :: st, gx_G1, μ) := s_getR hd (by rw [hc]; exact FRX3_22) g_62 rfl
theorem FRX3_26 : gx_FI RX3 26 3 3 4 := ⟨by decide, by decide, gx_in2 51 rfl rfl, by decide⟩
theorem gf_RX3_26 {E : gx_E} {l : Launch} {y : gx_Y} {d pc : Nat} {ls : List (Option Value)} {st : List Value} {μ : gx_M} (hc : y.1.cls = RX3) (hd : decode y.2.1 pc = .ok (.getfield 26, 3)) : gS E l y d (pc, ls, .ref (E.2.2.1 + 62) :: st, gx_G1, μ) (pc + 3, ls, .ref (E.2.2.1 + 73) :: st, gx_G1, μ) := s_getR hd (by rw [hc]; exact FRX3_26) g_62 rfl
theorem FRX3_29 : gx_FI RX3 29 3 4 4 := ⟨by decide, by decide, gx_in2 52 rfl rfl, by decide⟩
theorem gf_RX3_29 {E : gx_E} {l : Launch} {y : gx_Y} {d pc : Nat} {ls : List (Option Value)} {st : List Value} {μ : gx_M} (hc : y.1.cls = RX3) (hd : decode y.2.1 pc = .ok (.getfield 29, 3)) : gS E l y d (pc, ls, .ref (E.2.2.1 + 62) :: st, gx_G1, μ) (pc + 3, ls, .ref (E.2.2.1 + 74) :: st, gx_G1, μ) := s_getR hd (by rw [hc]; exact FRX3_29) g_62 rfl
theorem FRX3_32 : gx_FI RX3 32 3 5 0 := ⟨by decide, by decide, gx_in2 53 rfl rfl, by decide⟩
theorem gf_RX3_32 {E : gx_E} {l : Launch} {y : gx_Y} {d pc : Nat} {ls : List (Option Value)} {st : List Value} {μ : gx_M} (hc : y.1.cls = RX3) (hd : decode y.2.1 pc = .ok (.getfield 32, 3)) : gS E l y d (pc, ls, .ref (E.2.2.1 + 62) :: st, gx_G1, μ) (pc + 3, ls, .int (μ.1 62 5) :: st, gx_G1, μ) := s_getI hd (by rw [hc]; exact FRX3_32) (by decide) g_62
theorem pf_RX3_32 {E : gx_E} {l : Launch} {y : gx_Y} {d pc : Nat} {ls : List (Option Value)} {st : List Value} {μ : gx_M} {x : Int32} (hc : y.1.cls = RX3) (hd : decode y.2.1 pc = .ok (.putfield 32, 3)) : gS E l y d (pc, ls, .int x :: .ref (E.2.2.1 + 62) :: st, gx_G1, μ) (pc + 3, ls, st, gx_G1, gx_uI μ 62 5 x) := s_putI hd (by rw [hc]; exact FRX3_32) (by decide) (by decide +kernel) (ty := .int) rfl rfl rfl g_62
theorem FRX3_49 : gx_FI RX3 49 2 3 0 := ⟨by decide, by decide, gx_in1 132 rfl rfl, by decide⟩
theorem gfm_RX3_49 {E : gx_E} {l : Launch} {y : gx_Y} {d pc : Nat} {ls : List (Option Value)} {st : List Value} {μ : gx_M} {a n : Nat} (ha : gx_Ln a n) (hc : y.1.cls = RX3) (hd : decode y.2.1 pc = .ok (.getfield 49, 3)) : gS E l y d (pc, ls, .ref (E.2.2.1 + a) :: st, gx_G1, μ) (pc + 3, ls, .int (μ.1 a 3) :: st, gx_G1, μ) := s_getI hd (by rw [hc]; exact FRX3_49) (by decide) (Ln_0 ha)
theorem FRX3_54 : gx_FI RX3 54 2 1 4 := ⟨by decide, by decide, gx_in1 125 rfl rfl, by decide⟩
theorem gfm_RX3_54 {E : gx_E} {l : Launch} {y : gx_Y} {d pc : Nat} {ls : List (Option Value)} {st : List Value} {μ : gx_M} {a n : Nat} (ha : gx_Ln a n) (hc : y.1.cls = RX3) (hd : decode y.2.1 pc = .ok (.getfield 54, 3)) : gS E l y d (pc, ls, .ref (E.2.2.1 + a) :: st, gx_G1, μ) (pc + 3, ls, .ref (E.2.2.1 + (a + 1)) :: st, gx_G1, μ) := s_getR hd (by rw [hc]; exact FRX3_54) (Ln_0 ha) rfl
theorem FRX3_92 : gx_FI RX3 92 5 5 4 := ⟨by decide, by decide, gx_in1 75 rfl rfl, by decide⟩
theorem gfm_RX3_92 {E : gx_E} {l : Launch} {y : gx_Y} {d pc : Nat} {ls : List (Option Value)} {st : List Value} {μ : gx_M} {a : Nat} (ha : gx_St a) (hc : y.1.cls = RX3) (hd : decode y.2.1 pc = .ok (.getfield 92, 3)) : gS E l y d (pc, ls, .ref (E.2.2.1 + a) :: st, gx_G1, μ) (pc + 3, ls, .ref (E.2.2.1 + (a + 3)) :: st, gx_G1, μ) := s_getR hd (by rw [hc]; exact FRX3_92) (St_0 ha) rfl
theorem FRX3_98 : gx_FI RX3 98 5 4 4 := ⟨by decide, by decide, gx_in1 70 rfl rfl, by decide⟩
theorem gfm_RX3_98 {E : gx_E} {l : Launch} {y : gx_Y} {d pc : Nat} {ls : List (Option Value)} {st : List Value} {μ : gx_M} {a : Nat} (ha : gx_St a) (hc : y.1.cls = RX3) (hd : decode y.2.1 pc = .ok (.getfield 98, 3)) : gS E l y d (pc, ls, .ref (E.2.2.1 + a) :: st, gx_G1, μ) (pc + 3, ls, .ref (E.2.2.1 + (a + 2)) :: st, gx_G1, μ) := s_getR hd (by rw [hc]; exact FRX3_98) (St_0 ha) rfl
theorem FRX3_101 : gx_FI RX3 101 5 3 4 := ⟨by decide, by decide, gx_in1 65 rfl rfl, by decide⟩
theorem gfm_RX3_101 {E : gx_E} {l : Launch} {y : gx_Y} {d pc : Nat} {ls : List (Option Value)} {st : List Value} {μ : gx_M} {a : Nat} (ha : gx_St a) (hc : y.1.cls = RX3) (hd : decode y.2.1 pc = .ok (.getfield 101, 3)) : gS E l y d (pc, ls, .ref (E.2.2.1 + a) :: st, gx_G1, μ) (pc + 3, ls, .ref (E.2.2.1 + (a + 1)) :: st, gx_G1, μ) := s_getR hd (by rw [hc]; exact FRX3_101) (St_0 ha) rfl
theorem FRX3_122 : gx_FI RX3 122 5 6 4 := ⟨by decide, by decide, gx_in1 81 rfl rfl, by decide⟩
theorem gfm_RX3_122 {E : gx_E} {l : Launch} {y : gx_Y} {d pc : Nat} {ls : List (Option Value)} {st : List Value} {μ : gx_M} {a : Nat} (ha : gx_St a) (hc : y.1.cls = RX3) (hd : decode y.2.1 pc = .ok (.getfield 122, 3)) : gS E l y d (pc, ls, .ref (E.2.2.1 + a) :: st, gx_G1, μ) (pc + 3, ls, .ref (E.2.2.1 + (a + 4)) :: st, gx_G1, μ) := s_getR hd (by rw [hc]; exact FRX3_122) (St_0 ha) rfl
theorem FRX3_125 : gx_FI RX3 125 5 9 4 := ⟨by decide, by decide, gx_in1 92 rfl rfl, by decide⟩
theorem gfm_RX3_125 {E : gx_E} {l : Launch} {y : gx_Y} {d pc : Nat} {ls : List (Option Value)} {st : List Value} {μ : gx_M} {a : Nat} (ha : gx_St a) (hc : y.1.cls = RX3) (hd : decode y.2.1 pc = .ok (.getfield 125, 3)) : gS E l y d (pc, ls, .ref (E.2.2.1 + a) :: st, gx_G1, μ) (pc + 3, ls, .ref (E.2.2.1 + (a + 7)) :: st, gx_G1, μ) := s_getR hd (by rw [hc]; exact FRX3_125) (St_0 ha) rfl
theorem FRX3_128 : gx_FI RX3 128 5 0 0 := ⟨by decide, by decide, gx_in1 52 rfl rfl, by decide⟩
theorem gfm_RX3_128 {E : gx_E} {l : Launch} {y : gx_Y} {d pc : Nat} {ls : List (Option Value)} {st : List Value} {μ : gx_M} {a : Nat} (ha : gx_St a) (hc : y.1.cls = RX3) (hd : decode y.2.1 pc = .ok (.getfield 128, 3)) : gS E l y d (pc, ls, .ref (E.2.2.1 + a) :: st, gx_G1, μ) (pc + 3, ls, .int (μ.1 a 0) :: st, gx_G1, μ) := s_getI hd (by rw [hc]; exact FRX3_128) (by decide) (St_0 ha)
theorem FRX3_131 : gx_FI RX3 131 3 6 0 := ⟨by decide, by decide, gx_in2 55 rfl rfl, by decide⟩
theorem gf_RX3_131 {E : gx_E} {l : Launch} {y : gx_Y} {d pc : Nat} {ls : List (Option Value)} {st : List Value} {μ : gx_M} (hc : y.1.cls = RX3) (hd : decode y.2.1 pc = .ok (.getfield 131, 3)) : gS E l y d (pc, ls, .ref (E.2.2.1 + 62) :: st, gx_G1, μ) (pc + 3, ls, .int (μ.1 62 6) :: st, gx_G1, μ) := s_getI hd (by rw [hc]; exact FRX3_131) (by decide) g_62
theorem pf_RX3_131 {E : gx_E} {l : Launch} {y : gx_Y} {d pc : Nat} {ls : List (Option Value)} {st : List Value} {μ : gx_M} {x : Int32} (hc : y.1.cls = RX3) (hd : decode y.2.1 pc = .ok (.putfield 131, 3)) : gS E l y d (pc, ls, .int x :: .ref (E.2.2.1 + 62) :: st, gx_G1, μ) (pc + 3, ls, st, gx_G1, gx_uI μ 62 6 x) := s_putI hd (by rw [hc]; exact FRX3_131) (by decide) (by decide +kernel) (ty := .int) rfl rfl rfl g_62
theorem FRX3_147 : gx_FI RX3 147 5 1 0 := ⟨by decide, by decide, gx_in1 56 rfl rfl, by decide⟩
theorem gfm_RX3_147 {E : gx_E} {l : Launch} {y : gx_Y} {d pc : Nat} {ls : List (Option Value)} {st : List Value} {μ : gx_M} {a : Nat} (ha : gx_St a) (hc : y.1.cls = RX3) (hd : decode y.2.1 pc = .ok (.getfield 147, 3)) : gS E l y d (pc, ls, .ref (E.2.2.1 + a) :: st, gx_G1, μ) (pc + 3, ls, .int (μ.1 a 1) :: st, gx_G1, μ) := s_getI hd (by rw [hc]; exact FRX3_147) (by decide) (St_0 ha)
theorem FRX3_150 : gx_FI RX3 150 5 2 0 := ⟨by decide, by decide, gx_in1 61 rfl rfl, by decide⟩
theorem gfm_RX3_150 {E : gx_E} {l : Launch} {y : gx_Y} {d pc : Nat} {ls : List (Option Value)} {st : List Value} {μ : gx_M} {a : Nat} (ha : gx_St a) (hc : y.1.cls = RX3) (hd : decode y.2.1 pc = .ok (.getfield 150, 3)) : gS E l y d (pc, ls, .ref (E.2.2.1 + a) :: st, gx_G1, μ) (pc + 3, ls, .int (μ.1 a 2) :: st, gx_G1, μ) := s_getI hd (by rw [hc]; exact FRX3_150) (by decide) (St_0 ha)
theorem FRX4_12 : gx_FI RX4 12 4 0 4 := ⟨by decide, by decide, gx_in2 0 rfl rfl, by decide⟩
theorem gf_RX4_12 {E : gx_E} {l : Launch} {y : gx_Y} {d pc : Nat} {ls : List (Option Value)} {st : List Value} {μ : gx_M} (hc : y.1.cls = RX4) (hd : decode y.2.1 pc = .ok (.getfield 12, 3)) : gS E l y d (pc, ls, .ref (E.2.2.1 + 42) :: st, gx_G1, μ) (pc + 3, ls, .ref (E.2.2.1 + 43) :: st, gx_G1, μ) := s_getR hd (by rw [hc]; exact FRX4_12) g_42 rfl
theorem FRX4_21 : gx_FI RX4 21 4 1 4 := ⟨by decide, by decide, gx_in2 1 rfl rfl, by decide⟩
theorem gf_RX4_21 {E : gx_E} {l : Launch} {y : gx_Y} {d pc : Nat} {ls : List (Option Value)} {st : List Value} {μ : gx_M} (hc : y.1.cls = RX4) (hd : decode y.2.1 pc = .ok (.getfield 21, 3)) : gS E l y d (pc, ls, .ref (E.2.2.1 + 42) :: st, gx_G1, μ) (pc + 3, ls, .ref (E.2.2.1 + 45) :: st, gx_G1, μ) := s_getR hd (by rw [hc]; exact FRX4_21) g_42 rfl
theorem FRX4_30 : gx_FI RX4 30 4 2 4 := ⟨by decide, by decide, gx_in2 3 rfl rfl, by decide⟩
theorem gf_RX4_30 {E : gx_E} {l : Launch} {y : gx_Y} {d pc : Nat} {ls : List (Option Value)} {st : List Value} {μ : gx_M} (hc : y.1.cls = RX4) (hd : decode y.2.1 pc = .ok (.getfield 30, 3)) : gS E l y d (pc, ls, .ref (E.2.2.1 + 42) :: st, gx_G1, μ) (pc + 3, ls, .ref (E.2.2.1 + 53) :: st, gx_G1, μ) := s_getR hd (by rw [hc]; exact FRX4_30) g_42 rfl
theorem FRX4_34 : gx_FI RX4 34 4 3 4 := ⟨by decide, by decide, gx_in2 5 rfl rfl, by decide⟩
theorem gf_RX4_34 {E : gx_E} {l : Launch} {y : gx_Y} {d pc : Nat} {ls : List (Option Value)} {st : List Value} {μ : gx_M} (hc : y.1.cls = RX4) (hd : decode y.2.1 pc = .ok (.getfield 34, 3)) : gS E l y d (pc, ls, .ref (E.2.2.1 + 42) :: st, gx_G1, μ) (pc + 3, ls, .ref (E.2.2.1 + 56) :: st, gx_G1, μ) := s_getR hd (by rw [hc]; exact FRX4_34) g_42 rfl
theorem FRX4_40 : gx_FI RX4 40 4 4 4 := ⟨by decide, by decide, gx_in2 7 rfl rfl, by decide⟩
theorem gf_RX4_40 {E : gx_E} {l : Launch} {y : gx_Y} {d pc : Nat} {ls : List (Option Value)} {st : List Value} {μ : gx_M} (hc : y.1.cls = RX4) (hd : decode y.2.1 pc = .ok (.getfield 40, 3)) : gS E l y d (pc, ls, .ref (E.2.2.1 + 42) :: st, gx_G1, μ) (pc + 3, ls, .ref (E.2.2.1 + 59) :: st, gx_G1, μ) := s_getR hd (by rw [hc]; exact FRX4_40) g_42 rfl
theorem FRX4_44 : gx_FI RX4 44 4 5 4 := ⟨by decide, by decide, gx_in2 9 rfl rfl, by decide⟩
theorem gf_RX4_44 {E : gx_E} {l : Launch} {y : gx_Y} {d pc : Nat} {ls : List (Option Value)} {st : List Value} {μ : gx_M} (hc : y.1.cls = RX4) (hd : decode y.2.1 pc = .ok (.getfield 44, 3)) : gS E l y d (pc, ls, .ref (E.2.2.1 + 42) :: st, gx_G1, μ) (pc + 3, ls, .ref (E.2.2.1 + 61) :: st, gx_G1, μ) := s_getR hd (by rw [hc]; exact FRX4_44) g_42 rfl
theorem FRX4_59 : gx_FI RX4 59 4 6 0 := ⟨by decide, by decide, gx_in2 10 rfl rfl, by decide⟩
theorem gf_RX4_59 {E : gx_E} {l : Launch} {y : gx_Y} {d pc : Nat} {ls : List (Option Value)} {st : List Value} {μ : gx_M} (hc : y.1.cls = RX4) (hd : decode y.2.1 pc = .ok (.getfield 59, 3)) : gS E l y d (pc, ls, .ref (E.2.2.1 + 42) :: st, gx_G1, μ) (pc + 3, ls, .int (μ.1 42 6) :: st, gx_G1, μ) := s_getI hd (by rw [hc]; exact FRX4_59) (by decide) g_42
theorem pf_RX4_59 {E : gx_E} {l : Launch} {y : gx_Y} {d pc : Nat} {ls : List (Option Value)} {st : List Value} {μ : gx_M} {x : Int32} (hc : y.1.cls = RX4) (hd : decode y.2.1 pc = .ok (.putfield 59, 3)) : gS E l y d (pc, ls, .int x :: .ref (E.2.2.1 + 42) :: st, gx_G1, μ) (pc + 3, ls, st, gx_G1, gx_uI μ 42 6 x) := s_putI hd (by rw [hc]; exact FRX4_59) (by decide) (by decide +kernel) (ty := .int) rfl rfl rfl g_42
theorem FRX4_66 : gx_FI RX4 66 8 1 0 := ⟨by decide, by decide, gx_in1 212 rfl rfl, by decide⟩
theorem gf_RX4_66 {E : gx_E} {l : Launch} {y : gx_Y} {d pc : Nat} {ls : List (Option Value)} {st : List Value} {μ : gx_M} (hc : y.1.cls = RX4) (hd : decode y.2.1 pc = .ok (.getfield 66, 3)) : gS E l y d (pc, ls, .ref (E.2.2.1 + 43) :: st, gx_G1, μ) (pc + 3, ls, .int (μ.1 43 1) :: st, gx_G1, μ) := s_getI hd (by rw [hc]; exact FRX4_66) (by decide) g_43
theorem FRX4_74 : gx_FI RX4 74 2 3 0 := ⟨by decide, by decide, gx_in1 130 rfl rfl, by decide⟩
theorem pfm_RX4_74 {E : gx_E} {l : Launch} {y : gx_Y} {d pc : Nat} {ls : List (Option Value)} {st : List Value} {μ : gx_M} {a n : Nat} (ha : gx_Ln a n) {x : Int32} (hc : y.1.cls = RX4) (hd : decode y.2.1 pc = .ok (.putfield 74, 3)) : gS E l y d (pc, ls, .int x :: .ref (E.2.2.1 + a) :: st, gx_G1, μ) (pc + 3, ls, st, gx_G1, gx_uI μ a 3 x) := s_putI hd (by rw [hc]; exact FRX4_74) (by decide) (by decide +kernel) (ty := .int) rfl rfl rfl (Ln_0 ha)
theorem FRX4_78 : gx_FI RX4 78 4 7 0 := ⟨by decide, by decide, gx_in2 12 rfl rfl, by decide⟩
theorem pf_RX4_78 {E : gx_E} {l : Launch} {y : gx_Y} {d pc : Nat} {ls : List (Option Value)} {st : List Value} {μ : gx_M} {x : Int32} (hc : y.1.cls = RX4) (hd : decode y.2.1 pc = .ok (.putfield 78, 3)) : gS E l y d (pc, ls, .int x :: .ref (E.2.2.1 + 42) :: st, gx_G1, μ) (pc + 3, ls, st, gx_G1, gx_uI μ 42 7 x) := s_putI hd (by rw [hc]; exact FRX4_78) (by decide) (by decide +kernel) (ty := .int) rfl rfl rfl g_42
theorem FRX4_81 : gx_FI RX4 81 4 8 0 := ⟨by decide, by decide, gx_in2 14 rfl rfl, by decide⟩
theorem gf_RX4_81 {E : gx_E} {l : Launch} {y : gx_Y} {d pc : Nat} {ls : List (Option Value)} {st : List Value} {μ : gx_M} (hc : y.1.cls = RX4) (hd : decode y.2.1 pc = .ok (.getfield 81, 3)) : gS E l y d (pc, ls, .ref (E.2.2.1 + 42) :: st, gx_G1, μ) (pc + 3, ls, .int (μ.1 42 8) :: st, gx_G1, μ) := s_getI hd (by rw [hc]; exact FRX4_81) (by decide) g_42
theorem pf_RX4_81 {E : gx_E} {l : Launch} {y : gx_Y} {d pc : Nat} {ls : List (Option Value)} {st : List Value} {μ : gx_M} {x : Int32} (hc : y.1.cls = RX4) (hd : decode y.2.1 pc = .ok (.putfield 81, 3)) : gS E l y d (pc, ls, .int x :: .ref (E.2.2.1 + 42) :: st, gx_G1, μ) (pc + 3, ls, st, gx_G1, gx_uI μ 42 8 x) := s_putI hd (by rw [hc]; exact FRX4_81) (by decide) (by decide +kernel) (ty := .int) rfl rfl rfl g_42
theorem FRX4_84 : gx_FI RX4 84 4 9 0 := ⟨by decide, by decide, gx_in2 15 rfl rfl, by decide⟩
theorem gf_RX4_84 {E : gx_E} {l : Launch} {y : gx_Y} {d pc : Nat} {ls : List (Option Value)} {st : List Value} {μ : gx_M} (hc : y.1.cls = RX4) (hd : decode y.2.1 pc = .ok (.getfield 84, 3)) : gS E l y d (pc, ls, .ref (E.2.2.1 + 42) :: st, gx_G1, μ) (pc + 3, ls, .int (μ.1 42 9) :: st, gx_G1, μ) := s_getI hd (by rw [hc]; exact FRX4_84) (by decide) g_42
theorem pf_RX4_84 {E : gx_E} {l : Launch} {y : gx_Y} {d pc : Nat} {ls : List (Option Value)} {st : List Value} {μ : gx_M} {x : Int32} (hc : y.1.cls = RX4) (hd : decode y.2.1 pc = .ok (.putfield 84, 3)) : gS E l y d (pc, ls, .int x :: .ref (E.2.2.1 + 42) :: st, gx_G1, μ) (pc + 3, ls, st, gx_G1, gx_uI μ 42 9 x) := s_putI hd (by rw [hc]; exact FRX4_84) (by decide) (by decide +kernel) (ty := .int) rfl rfl rfl g_42
theorem FRX4_87 : gx_FI RX4 87 4 10 0 := ⟨by decide, by decide, gx_in2 16 rfl rfl, by decide⟩
theorem gf_RX4_87 {E : gx_E} {l : Launch} {y : gx_Y} {d pc : Nat} {ls : List (Option Value)} {st : List Value} {μ : gx_M} (hc : y.1.cls = RX4) (hd : decode y.2.1 pc = .ok (.getfield 87, 3)) : gS E l y d (pc, ls, .ref (E.2.2.1 + 42) :: st, gx_G1, μ) (pc + 3, ls, .int (μ.1 42 10) :: st, gx_G1, μ) := s_getI hd (by rw [hc]; exact FRX4_87) (by decide) g_42
theorem pf_RX4_87 {E : gx_E} {l : Launch} {y : gx_Y} {d pc : Nat} {ls : List (Option Value)} {st : List Value} {μ : gx_M} {x : Int32} (hc : y.1.cls = RX4) (hd : decode y.2.1 pc = .ok (.putfield 87, 3)) : gS E l y d (pc, ls, .int x :: .ref (E.2.2.1 + 42) :: st, gx_G1, μ) (pc + 3, ls, st, gx_G1, gx_uI μ 42 10 x) := s_putI hd (by rw [hc]; exact FRX4_87) (by decide) (by decide +kernel) (ty := .int) rfl rfl rfl g_42
theorem FRX4_90 : gx_FI RX4 90 5 0 0 := ⟨by decide, by decide, gx_in1 50 rfl rfl, by decide⟩
theorem gfm_RX4_90 {E : gx_E} {l : Launch} {y : gx_Y} {d pc : Nat} {ls : List (Option Value)} {st : List Value} {μ : gx_M} {a : Nat} (ha : gx_St a) (hc : y.1.cls = RX4) (hd : decode y.2.1 pc = .ok (.getfield 90, 3)) : gS E l y d (pc, ls, .ref (E.2.2.1 + a) :: st, gx_G1, μ) (pc + 3, ls, .int (μ.1 a 0) :: st, gx_G1, μ) := s_getI hd (by rw [hc]; exact FRX4_90) (by decide) (St_0 ha)
theorem pfm_RX4_90 {E : gx_E} {l : Launch} {y : gx_Y} {d pc : Nat} {ls : List (Option Value)} {st : List Value} {μ : gx_M} {a : Nat} (ha : gx_St a) {x : Int32} (hc : y.1.cls = RX4) (hd : decode y.2.1 pc = .ok (.putfield 90, 3)) : gS E l y d (pc, ls, .int x :: .ref (E.2.2.1 + a) :: st, gx_G1, μ) (pc + 3, ls, st, gx_G1, gx_uI μ a 0 x) := s_putI hd (by rw [hc]; exact FRX4_90) (by decide) (by decide +kernel) (ty := .int) rfl rfl rfl (St_0 ha)
theorem FRX4_93 : gx_FI RX4 93 5 1 0 := ⟨by decide, by decide, gx_in1 55 rfl rfl, by decide⟩
theorem gfm_RX4_93 {E : gx_E} {l : Launch} {y : gx_Y} {d pc : Nat} {ls : List (Option Value)} {st : List Value} {μ : gx_M} {a : Nat} (ha : gx_St a) (hc : y.1.cls = RX4) (hd : decode y.2.1 pc = .ok (.getfield 93, 3)) : gS E l y d (pc, ls, .ref (E.2.2.1 + a) :: st, gx_G1, μ) (pc + 3, ls, .int (μ.1 a 1) :: st, gx_G1, μ) := s_getI hd (by rw [hc]; exact FRX4_93) (by decide) (St_0 ha)
theorem pfm_RX4_93 {E : gx_E} {l : Launch} {y : gx_Y} {d pc : Nat} {ls : List (Option Value)} {st : List Value} {μ : gx_M} {a : Nat} (ha : gx_St a) {x : Int32} (hc : y.1.cls = RX4) (hd : decode y.2.1 pc = .ok (.putfield 93, 3)) : gS E l y d (pc, ls, .int x :: .ref (E.2.2.1 + a) :: st, gx_G1, μ) (pc + 3, ls, st, gx_G1, gx_uI μ a 1 x) := s_putI hd (by rw [hc]; exact FRX4_93) (by decide) (by decide +kernel) (ty := .int) rfl rfl rfl (St_0 ha)
theorem FRX4_96 : gx_FI RX4 96 6 0 0 := ⟨by decide, by decide, gx_in1 150 rfl rfl, by decide⟩
theorem gfm_RX4_96 {E : gx_E} {l : Launch} {y : gx_Y} {d pc : Nat} {ls : List (Option Value)} {st : List Value} {μ : gx_M} {a : Nat} (ha : gx_Sw a) (hc : y.1.cls = RX4) (hd : decode y.2.1 pc = .ok (.getfield 96, 3)) : gS E l y d (pc, ls, .ref (E.2.2.1 + a) :: st, gx_G1, μ) (pc + 3, ls, .int (μ.1 a 0) :: st, gx_G1, μ) := s_getI hd (by rw [hc]; exact FRX4_96) (by decide) (Sw_0 ha)
theorem pfm_RX4_96 {E : gx_E} {l : Launch} {y : gx_Y} {d pc : Nat} {ls : List (Option Value)} {st : List Value} {μ : gx_M} {a : Nat} (ha : gx_Sw a) {x : Int32} (hc : y.1.cls = RX4) (hd : decode y.2.1 pc = .ok (.putfield 96, 3)) : gS E l y d (pc, ls, .int x :: .ref (E.2.2.1 + a) :: st, gx_G1, μ) (pc + 3, ls, st, gx_G1, gx_uI μ a 0 x) := s_putI hd (by rw [hc]; exact FRX4_96) (by decide) (by decide +kernel) (ty := .int) rfl rfl rfl (Sw_0 ha)
theorem FRX4_99 : gx_FI RX4 99 8 4 0 := ⟨by decide, by decide, gx_in1 217 rfl rfl, by decide⟩
theorem gf_RX4_99 {E : gx_E} {l : Launch} {y : gx_Y} {d pc : Nat} {ls : List (Option Value)} {st : List Value} {μ : gx_M} (hc : y.1.cls = RX4) (hd : decode y.2.1 pc = .ok (.getfield 99, 3)) : gS E l y d (pc, ls, .ref (E.2.2.1 + 43) :: st, gx_G1, μ) (pc + 3, ls, .int (μ.1 43 4) :: st, gx_G1, μ) := s_getI hd (by rw [hc]; exact FRX4_99) (by decide) g_43
theorem FRX4_105 : gx_FI RX4 105 8 3 0 := ⟨by decide, by decide, gx_in1 215 rfl rfl, by decide⟩
theorem gf_RX4_105 {E : gx_E} {l : Launch} {y : gx_Y} {d pc : Nat} {ls : List (Option Value)} {st : List Value} {μ : gx_M} (hc : y.1.cls = RX4) (hd : decode y.2.1 pc = .ok (.getfield 105, 3)) : gS E l y d (pc, ls, .ref (E.2.2.1 + 43) :: st, gx_G1, μ) (pc + 3, ls, .int (μ.1 43 3) :: st, gx_G1, μ) := s_getI hd (by rw [hc]; exact FRX4_105) (by decide) g_43
theorem FRX4_184 : gx_FI RX4 184 8 5 0 := ⟨by decide, by decide, gx_in1 219 rfl rfl, by decide⟩
theorem gf_RX4_184 {E : gx_E} {l : Launch} {y : gx_Y} {d pc : Nat} {ls : List (Option Value)} {st : List Value} {μ : gx_M} (hc : y.1.cls = RX4) (hd : decode y.2.1 pc = .ok (.getfield 184, 3)) : gS E l y d (pc, ls, .ref (E.2.2.1 + 43) :: st, gx_G1, μ) (pc + 3, ls, .int (μ.1 43 5) :: st, gx_G1, μ) := s_getI hd (by rw [hc]; exact FRX4_184) (by decide) g_43
theorem FRX4_229 : gx_FI RX4 229 5 3 4 := ⟨by decide, by decide, gx_in1 68 rfl rfl, by decide⟩
theorem gfm_RX4_229 {E : gx_E} {l : Launch} {y : gx_Y} {d pc : Nat} {ls : List (Option Value)} {st : List Value} {μ : gx_M} {a : Nat} (ha : gx_St a) (hc : y.1.cls = RX4) (hd : decode y.2.1 pc = .ok (.getfield 229, 3)) : gS E l y d (pc, ls, .ref (E.2.2.1 + a) :: st, gx_G1, μ) (pc + 3, ls, .ref (E.2.2.1 + (a + 1)) :: st, gx_G1, μ) := s_getR hd (by rw [hc]; exact FRX4_229) (St_0 ha) rfl
theorem FRX4_236 : gx_FI RX4 236 5 4 4 := ⟨by decide, by decide, gx_in1 71 rfl rfl, by decide⟩
theorem gfm_RX4_236 {E : gx_E} {l : Launch} {y : gx_Y} {d pc : Nat} {ls : List (Option Value)} {st : List Value} {μ : gx_M} {a : Nat} (ha : gx_St a) (hc : y.1.cls = RX4) (hd : decode y.2.1 pc = .ok (.getfield 236, 3)) : gS E l y d (pc, ls, .ref (E.2.2.1 + a) :: st, gx_G1, μ) (pc + 3, ls, .ref (E.2.2.1 + (a + 2)) :: st, gx_G1, μ) := s_getR hd (by rw [hc]; exact FRX4_236) (St_0 ha) rfl
theorem FRX4_244 : gx_FI RX4 244 5 5 4 := ⟨by decide, by decide, gx_in1 77 rfl rfl, by decide⟩
theorem gfm_RX4_244 {E : gx_E} {l : Launch} {y : gx_Y} {d pc : Nat} {ls : List (Option Value)} {st : List Value} {μ : gx_M} {a : Nat} (ha : gx_St a) (hc : y.1.cls = RX4) (hd : decode y.2.1 pc = .ok (.getfield 244, 3)) : gS E l y d (pc, ls, .ref (E.2.2.1 + a) :: st, gx_G1, μ) (pc + 3, ls, .ref (E.2.2.1 + (a + 3)) :: st, gx_G1, μ) := s_getR hd (by rw [hc]; exact FRX4_244) (St_0 ha) rfl
theorem FRX4_250 : gx_FI RX4 250 5 2 0 := ⟨by decide, by decide, gx_in1 63 rfl rfl, by decide⟩
theorem gfm_RX4_250 {E : gx_E} {l : Launch} {y : gx_Y} {d pc : Nat} {ls : List (Option Value)} {st : List Value} {μ : gx_M} {a : Nat} (ha : gx_St a) (hc : y.1.cls = RX4) (hd : decode y.2.1 pc = .ok (.getfield 250, 3)) : gS E l y d (pc, ls, .ref (E.2.2.1 + a) :: st, gx_G1, μ) (pc + 3, ls, .int (μ.1 a 2) :: st, gx_G1, μ) := s_getI hd (by rw [hc]; exact FRX4_250) (by decide) (St_0 ha)
theorem pfm_RX4_250 {E : gx_E} {l : Launch} {y : gx_Y} {d pc : Nat} {ls : List (Option Value)} {st : List Value} {μ : gx_M} {a : Nat} (ha : gx_St a) {x : Int32} (hc : y.1.cls = RX4) (hd : decode y.2.1 pc = .ok (.putfield 250, 3)) : gS E l y d (pc, ls, .int x :: .ref (E.2.2.1 + a) :: st, gx_G1, μ) (pc + 3, ls, st, gx_G1, gx_uI μ a 2 x) := s_putI hd (by rw [hc]; exact FRX4_250) (by decide) (by decide +kernel) (ty := .int) rfl rfl rfl (St_0 ha)
theorem FRX4_253 : gx_FI RX4 253 5 6 4 := ⟨by decide, by decide, gx_in1 84 rfl rfl, by decide⟩
theorem gfm_RX4_253 {E : gx_E} {l : Launch} {y : gx_Y} {d pc : Nat} {ls : List (Option Value)} {st : List Value} {μ : gx_M} {a : Nat} (ha : gx_St a) (hc : y.1.cls = RX4) (hd : decode y.2.1 pc = .ok (.getfield 253, 3)) : gS E l y d (pc, ls, .ref (E.2.2.1 + a) :: st, gx_G1, μ) (pc + 3, ls, .ref (E.2.2.1 + (a + 4)) :: st, gx_G1, μ) := s_getR hd (by rw [hc]; exact FRX4_253) (St_0 ha) rfl
theorem FRX4_255 : gx_FI RX4 255 5 7 4 := ⟨by decide, by decide, gx_in1 87 rfl rfl, by decide⟩
theorem gfm_RX4_255 {E : gx_E} {l : Launch} {y : gx_Y} {d pc : Nat} {ls : List (Option Value)} {st : List Value} {μ : gx_M} {a : Nat} (ha : gx_St a) (hc : y.1.cls = RX4) (hd : decode y.2.1 pc = .ok (.getfield 255, 3)) : gS E l y d (pc, ls, .ref (E.2.2.1 + a) :: st, gx_G1, μ) (pc + 3, ls, .ref (E.2.2.1 + (a + 5)) :: st, gx_G1, μ) := s_getR hd (by rw [hc]; exact FRX4_255) (St_0 ha) rfl
theorem FRX4_258 : gx_FI RX4 258 5 8 4 := ⟨by decide, by decide, gx_in1 90 rfl rfl, by decide⟩
theorem gfm_RX4_258 {E : gx_E} {l : Launch} {y : gx_Y} {d pc : Nat} {ls : List (Option Value)} {st : List Value} {μ : gx_M} {a : Nat} (ha : gx_St a) (hc : y.1.cls = RX4) (hd : decode y.2.1 pc = .ok (.getfield 258, 3)) : gS E l y d (pc, ls, .ref (E.2.2.1 + a) :: st, gx_G1, μ) (pc + 3, ls, .ref (E.2.2.1 + (a + 6)) :: st, gx_G1, μ) := s_getR hd (by rw [hc]; exact FRX4_258) (St_0 ha) rfl
theorem FRX4_261 : gx_FI RX4 261 5 9 4 := ⟨by decide, by decide, gx_in1 94 rfl rfl, by decide⟩
theorem gfm_RX4_261 {E : gx_E} {l : Launch} {y : gx_Y} {d pc : Nat} {ls : List (Option Value)} {st : List Value} {μ : gx_M} {a : Nat} (ha : gx_St a) (hc : y.1.cls = RX4) (hd : decode y.2.1 pc = .ok (.getfield 261, 3)) : gS E l y d (pc, ls, .ref (E.2.2.1 + a) :: st, gx_G1, μ) (pc + 3, ls, .ref (E.2.2.1 + (a + 7)) :: st, gx_G1, μ) := s_getR hd (by rw [hc]; exact FRX4_261) (St_0 ha) rfl
theorem FRX4_263 : gx_FI RX4 263 6 1 4 := ⟨by decide, by decide, gx_in1 153 rfl rfl, by decide⟩
theorem gfm_RX4_263 {E : gx_E} {l : Launch} {y : gx_Y} {d pc : Nat} {ls : List (Option Value)} {st : List Value} {μ : gx_M} {a : Nat} (ha : gx_Sw a) (hc : y.1.cls = RX4) (hd : decode y.2.1 pc = .ok (.getfield 263, 3)) : gS E l y d (pc, ls, .ref (E.2.2.1 + a) :: st, gx_G1, μ) (pc + 3, ls, .ref (E.2.2.1 + (a + 1)) :: st, gx_G1, μ) := s_getR hd (by rw [hc]; exact FRX4_263) (Sw_0 ha) rfl
theorem FRX5_9 : gx_FI RX5 9 5 3 4 := ⟨by decide, by decide, gx_in1 64 rfl rfl, by decide⟩
theorem gfm_RX5_9 {E : gx_E} {l : Launch} {y : gx_Y} {d pc : Nat} {ls : List (Option Value)} {st : List Value} {μ : gx_M} {a : Nat} (ha : gx_St a) (hc : y.1.cls = RX5) (hd : decode y.2.1 pc = .ok (.getfield 9, 3)) : gS E l y d (pc, ls, .ref (E.2.2.1 + a) :: st, gx_G1, μ) (pc + 3, ls, .ref (E.2.2.1 + (a + 1)) :: st, gx_G1, μ) := s_getR hd (by rw [hc]; exact FRX5_9) (St_0 ha) rfl
theorem FRX5_15 : gx_FI RX5 15 5 4 4 := ⟨by decide, by decide, gx_in1 69 rfl rfl, by decide⟩
theorem gfm_RX5_15 {E : gx_E} {l : Launch} {y : gx_Y} {d pc : Nat} {ls : List (Option Value)} {st : List Value} {μ : gx_M} {a : Nat} (ha : gx_St a) (hc : y.1.cls = RX5) (hd : decode y.2.1 pc = .ok (.getfield 15, 3)) : gS E l y d (pc, ls, .ref (E.2.2.1 + a) :: st, gx_G1, μ) (pc + 3, ls, .ref (E.2.2.1 + (a + 2)) :: st, gx_G1, μ) := s_getR hd (by rw [hc]; exact FRX5_15) (St_0 ha) rfl
theorem FRX5_18 : gx_FI RX5 18 5 5 4 := ⟨by decide, by decide, gx_in1 74 rfl rfl, by decide⟩
theorem gfm_RX5_18 {E : gx_E} {l : Launch} {y : gx_Y} {d pc : Nat} {ls : List (Option Value)} {st : List Value} {μ : gx_M} {a : Nat} (ha : gx_St a) (hc : y.1.cls = RX5) (hd : decode y.2.1 pc = .ok (.getfield 18, 3)) : gS E l y d (pc, ls, .ref (E.2.2.1 + a) :: st, gx_G1, μ) (pc + 3, ls, .ref (E.2.2.1 + (a + 3)) :: st, gx_G1, μ) := s_getR hd (by rw [hc]; exact FRX5_18) (St_0 ha) rfl
theorem FRX5_21 : gx_FI RX5 21 5 6 4 := ⟨by decide, by decide, gx_in1 79 rfl rfl, by decide⟩
theorem gfm_RX5_21 {E : gx_E} {l : Launch} {y : gx_Y} {d pc : Nat} {ls : List (Option Value)} {st : List Value} {μ : gx_M} {a : Nat} (ha : gx_St a) (hc : y.1.cls = RX5) (hd : decode y.2.1 pc = .ok (.getfield 21, 3)) : gS E l y d (pc, ls, .ref (E.2.2.1 + a) :: st, gx_G1, μ) (pc + 3, ls, .ref (E.2.2.1 + (a + 4)) :: st, gx_G1, μ) := s_getR hd (by rw [hc]; exact FRX5_21) (St_0 ha) rfl
theorem FRX5_24 : gx_FI RX5 24 5 7 4 := ⟨by decide, by decide, gx_in1 85 rfl rfl, by decide⟩
theorem gfm_RX5_24 {E : gx_E} {l : Launch} {y : gx_Y} {d pc : Nat} {ls : List (Option Value)} {st : List Value} {μ : gx_M} {a : Nat} (ha : gx_St a) (hc : y.1.cls = RX5) (hd : decode y.2.1 pc = .ok (.getfield 24, 3)) : gS E l y d (pc, ls, .ref (E.2.2.1 + a) :: st, gx_G1, μ) (pc + 3, ls, .ref (E.2.2.1 + (a + 5)) :: st, gx_G1, μ) := s_getR hd (by rw [hc]; exact FRX5_24) (St_0 ha) rfl
theorem FRX5_27 : gx_FI RX5 27 5 8 4 := ⟨by decide, by decide, gx_in1 88 rfl rfl, by decide⟩
theorem gfm_RX5_27 {E : gx_E} {l : Launch} {y : gx_Y} {d pc : Nat} {ls : List (Option Value)} {st : List Value} {μ : gx_M} {a : Nat} (ha : gx_St a) (hc : y.1.cls = RX5) (hd : decode y.2.1 pc = .ok (.getfield 27, 3)) : gS E l y d (pc, ls, .ref (E.2.2.1 + a) :: st, gx_G1, μ) (pc + 3, ls, .ref (E.2.2.1 + (a + 6)) :: st, gx_G1, μ) := s_getR hd (by rw [hc]; exact FRX5_27) (St_0 ha) rfl
theorem FRX5_30 : gx_FI RX5 30 5 9 4 := ⟨by decide, by decide, gx_in1 91 rfl rfl, by decide⟩
theorem gfm_RX5_30 {E : gx_E} {l : Launch} {y : gx_Y} {d pc : Nat} {ls : List (Option Value)} {st : List Value} {μ : gx_M} {a : Nat} (ha : gx_St a) (hc : y.1.cls = RX5) (hd : decode y.2.1 pc = .ok (.getfield 30, 3)) : gS E l y d (pc, ls, .ref (E.2.2.1 + a) :: st, gx_G1, μ) (pc + 3, ls, .ref (E.2.2.1 + (a + 7)) :: st, gx_G1, μ) := s_getR hd (by rw [hc]; exact FRX5_30) (St_0 ha) rfl
theorem FRX5_33 : gx_FI RX5 33 5 0 0 := ⟨by decide, by decide, gx_in1 48 rfl rfl, by decide⟩
theorem gfm_RX5_33 {E : gx_E} {l : Launch} {y : gx_Y} {d pc : Nat} {ls : List (Option Value)} {st : List Value} {μ : gx_M} {a : Nat} (ha : gx_St a) (hc : y.1.cls = RX5) (hd : decode y.2.1 pc = .ok (.getfield 33, 3)) : gS E l y d (pc, ls, .ref (E.2.2.1 + a) :: st, gx_G1, μ) (pc + 3, ls, .int (μ.1 a 0) :: st, gx_G1, μ) := s_getI hd (by rw [hc]; exact FRX5_33) (by decide) (St_0 ha)
theorem pfm_RX5_33 {E : gx_E} {l : Launch} {y : gx_Y} {d pc : Nat} {ls : List (Option Value)} {st : List Value} {μ : gx_M} {a : Nat} (ha : gx_St a) {x : Int32} (hc : y.1.cls = RX5) (hd : decode y.2.1 pc = .ok (.putfield 33, 3)) : gS E l y d (pc, ls, .int x :: .ref (E.2.2.1 + a) :: st, gx_G1, μ) (pc + 3, ls, st, gx_G1, gx_uI μ a 0 x) := s_putI hd (by rw [hc]; exact FRX5_33) (by decide) (by decide +kernel) (ty := .int) rfl rfl rfl (St_0 ha)
theorem FRX5_37 : gx_FI RX5 37 5 1 0 := ⟨by decide, by decide, gx_in1 54 rfl rfl, by decide⟩
theorem gfm_RX5_37 {E : gx_E} {l : Launch} {y : gx_Y} {d pc : Nat} {ls : List (Option Value)} {st : List Value} {μ : gx_M} {a : Nat} (ha : gx_St a) (hc : y.1.cls = RX5) (hd : decode y.2.1 pc = .ok (.getfield 37, 3)) : gS E l y d (pc, ls, .ref (E.2.2.1 + a) :: st, gx_G1, μ) (pc + 3, ls, .int (μ.1 a 1) :: st, gx_G1, μ) := s_getI hd (by rw [hc]; exact FRX5_37) (by decide) (St_0 ha)
theorem pfm_RX5_37 {E : gx_E} {l : Launch} {y : gx_Y} {d pc : Nat} {ls : List (Option Value)} {st : List Value} {μ : gx_M} {a : Nat} (ha : gx_St a) {x : Int32} (hc : y.1.cls = RX5) (hd : decode y.2.1 pc = .ok (.putfield 37, 3)) : gS E l y d (pc, ls, .int x :: .ref (E.2.2.1 + a) :: st, gx_G1, μ) (pc + 3, ls, st, gx_G1, gx_uI μ a 1 x) := s_putI hd (by rw [hc]; exact FRX5_37) (by decide) (by decide +kernel) (ty := .int) rfl rfl rfl (St_0 ha)
theorem FRX5_40 : gx_FI RX5 40 5 2 0 := ⟨by decide, by decide, gx_in1 59 rfl rfl, by decide⟩
theorem gfm_RX5_40 {E : gx_E} {l : Launch} {y : gx_Y} {d pc : Nat} {ls : List (Option Value)} {st : List Value} {μ : gx_M} {a : Nat} (ha : gx_St a) (hc : y.1.cls = RX5) (hd : decode y.2.1 pc = .ok (.getfield 40, 3)) : gS E l y d (pc, ls, .ref (E.2.2.1 + a) :: st, gx_G1, μ) (pc + 3, ls, .int (μ.1 a 2) :: st, gx_G1, μ) := s_getI hd (by rw [hc]; exact FRX5_40) (by decide) (St_0 ha)
theorem pfm_RX5_40 {E : gx_E} {l : Launch} {y : gx_Y} {d pc : Nat} {ls : List (Option Value)} {st : List Value} {μ : gx_M} {a : Nat} (ha : gx_St a) {x : Int32} (hc : y.1.cls = RX5) (hd : decode y.2.1 pc = .ok (.putfield 40, 3)) : gS E l y d (pc, ls, .int x :: .ref (E.2.2.1 + a) :: st, gx_G1, μ) (pc + 3, ls, st, gx_G1, gx_uI μ a 2 x) := s_putI hd (by rw [hc]; exact FRX5_40) (by decide) (by decide +kernel) (ty := .int) rfl rfl rfl (St_0 ha)
theorem FRX6_9 : gx_FI RX6 9 6 1 4 := ⟨by decide, by decide, gx_in1 152 rfl rfl, by decide⟩
theorem gfm_RX6_9 {E : gx_E} {l : Launch} {y : gx_Y} {d pc : Nat} {ls : List (Option Value)} {st : List Value} {μ : gx_M} {a : Nat} (ha : gx_Sw a) (hc : y.1.cls = RX6) (hd : decode y.2.1 pc = .ok (.getfield 9, 3)) : gS E l y d (pc, ls, .ref (E.2.2.1 + a) :: st, gx_G1, μ) (pc + 3, ls, .ref (E.2.2.1 + (a + 1)) :: st, gx_G1, μ) := s_getR hd (by rw [hc]; exact FRX6_9) (Sw_0 ha) rfl
theorem FRX6_15 : gx_FI RX6 15 6 0 0 := ⟨by decide, by decide, gx_in1 148 rfl rfl, by decide⟩
theorem gfm_RX6_15 {E : gx_E} {l : Launch} {y : gx_Y} {d pc : Nat} {ls : List (Option Value)} {st : List Value} {μ : gx_M} {a : Nat} (ha : gx_Sw a) (hc : y.1.cls = RX6) (hd : decode y.2.1 pc = .ok (.getfield 15, 3)) : gS E l y d (pc, ls, .ref (E.2.2.1 + a) :: st, gx_G1, μ) (pc + 3, ls, .int (μ.1 a 0) :: st, gx_G1, μ) := s_getI hd (by rw [hc]; exact FRX6_15) (by decide) (Sw_0 ha)
theorem pfm_RX6_15 {E : gx_E} {l : Launch} {y : gx_Y} {d pc : Nat} {ls : List (Option Value)} {st : List Value} {μ : gx_M} {a : Nat} (ha : gx_Sw a) {x : Int32} (hc : y.1.cls = RX6) (hd : decode y.2.1 pc = .ok (.putfield 15, 3)) : gS E l y d (pc, ls, .int x :: .ref (E.2.2.1 + a) :: st, gx_G1, μ) (pc + 3, ls, st, gx_G1, gx_uI μ a 0 x) := s_putI hd (by rw [hc]; exact FRX6_15) (by decide) (by decide +kernel) (ty := .int) rfl rfl rfl (Sw_0 ha)
theorem FRX7_9 : gx_FI RX7 9 7 2 4 := ⟨by decide, by decide, gx_in2 128 rfl rfl, by decide⟩
theorem gf_RX7_9 {E : gx_E} {l : Launch} {y : gx_Y} {d pc : Nat} {ls : List (Option Value)} {st : List Value} {μ : gx_M} (hc : y.1.cls = RX7) (hd : decode y.2.1 pc = .ok (.getfield 9, 3)) : gS E l y d (pc, ls, .ref (E.2.2.1 + 82) :: st, gx_G1, μ) (pc + 3, ls, .ref (E.2.2.1 + 83) :: st, gx_G1, μ) := s_getR hd (by rw [hc]; exact FRX7_9) g_82 rfl
theorem FRX7_19 : gx_FI RX7 19 7 3 0 := ⟨by decide, by decide, gx_in2 129 rfl rfl, by decide⟩
theorem gf_RX7_19 {E : gx_E} {l : Launch} {y : gx_Y} {d pc : Nat} {ls : List (Option Value)} {st : List Value} {μ : gx_M} (hc : y.1.cls = RX7) (hd : decode y.2.1 pc = .ok (.getfield 19, 3)) : gS E l y d (pc, ls, .ref (E.2.2.1 + 82) :: st, gx_G1, μ) (pc + 3, ls, .int (μ.1 82 3) :: st, gx_G1, μ) := s_getI hd (by rw [hc]; exact FRX7_19) (by decide) g_82
theorem pf_RX7_19 {E : gx_E} {l : Launch} {y : gx_Y} {d pc : Nat} {ls : List (Option Value)} {st : List Value} {μ : gx_M} {x : Int32} (hc : y.1.cls = RX7) (hd : decode y.2.1 pc = .ok (.putfield 19, 3)) : gS E l y d (pc, ls, .int x :: .ref (E.2.2.1 + 82) :: st, gx_G1, μ) (pc + 3, ls, st, gx_G1, gx_uI μ 82 3 x) := s_putI hd (by rw [hc]; exact FRX7_19) (by decide) (by decide +kernel) (ty := .int) rfl rfl rfl g_82
theorem FRX7_23 : gx_FI RX7 23 7 4 0 := ⟨by decide, by decide, gx_in2 131 rfl rfl, by decide⟩
theorem gf_RX7_23 {E : gx_E} {l : Launch} {y : gx_Y} {d pc : Nat} {ls : List (Option Value)} {st : List Value} {μ : gx_M} (hc : y.1.cls = RX7) (hd : decode y.2.1 pc = .ok (.getfield 23, 3)) : gS E l y d (pc, ls, .ref (E.2.2.1 + 82) :: st, gx_G1, μ) (pc + 3, ls, .int (μ.1 82 4) :: st, gx_G1, μ) := s_getI hd (by rw [hc]; exact FRX7_23) (by decide) g_82
theorem pf_RX7_23 {E : gx_E} {l : Launch} {y : gx_Y} {d pc : Nat} {ls : List (Option Value)} {st : List Value} {μ : gx_M} {x : Int32} (hc : y.1.cls = RX7) (hd : decode y.2.1 pc = .ok (.putfield 23, 3)) : gS E l y d (pc, ls, .int x :: .ref (E.2.2.1 + 82) :: st, gx_G1, μ) (pc + 3, ls, st, gx_G1, gx_uI μ 82 4 x) := s_putI hd (by rw [hc]; exact FRX7_23) (by decide) (by decide +kernel) (ty := .int) rfl rfl rfl g_82
theorem FRX7_26 : gx_FI RX7 26 7 5 0 := ⟨by decide, by decide, gx_in2 133 rfl rfl, by decide⟩
theorem gf_RX7_26 {E : gx_E} {l : Launch} {y : gx_Y} {d pc : Nat} {ls : List (Option Value)} {st : List Value} {μ : gx_M} (hc : y.1.cls = RX7) (hd : decode y.2.1 pc = .ok (.getfield 26, 3)) : gS E l y d (pc, ls, .ref (E.2.2.1 + 82) :: st, gx_G1, μ) (pc + 3, ls, .int (μ.1 82 5) :: st, gx_G1, μ) := s_getI hd (by rw [hc]; exact FRX7_26) (by decide) g_82
theorem pf_RX7_26 {E : gx_E} {l : Launch} {y : gx_Y} {d pc : Nat} {ls : List (Option Value)} {st : List Value} {μ : gx_M} {x : Int32} (hc : y.1.cls = RX7) (hd : decode y.2.1 pc = .ok (.putfield 26, 3)) : gS E l y d (pc, ls, .int x :: .ref (E.2.2.1 + 82) :: st, gx_G1, μ) (pc + 3, ls, st, gx_G1, gx_uI μ 82 5 x) := s_putI hd (by rw [hc]; exact FRX7_26) (by decide) (by decide +kernel) (ty := .int) rfl rfl rfl g_82
theorem FRX7_29 : gx_FI RX7 29 7 6 0 := ⟨by decide, by decide, gx_in2 135 rfl rfl, by decide⟩
theorem gf_RX7_29 {E : gx_E} {l : Launch} {y : gx_Y} {d pc : Nat} {ls : List (Option Value)} {st : List Value} {μ : gx_M} (hc : y.1.cls = RX7) (hd : decode y.2.1 pc = .ok (.getfield 29, 3)) : gS E l y d (pc, ls, .ref (E.2.2.1 + 82) :: st, gx_G1, μ) (pc + 3, ls, .int (μ.1 82 6) :: st, gx_G1, μ) := s_getI hd (by rw [hc]; exact FRX7_29) (by decide) g_82
theorem pf_RX7_29 {E : gx_E} {l : Launch} {y : gx_Y} {d pc : Nat} {ls : List (Option Value)} {st : List Value} {μ : gx_M} {x : Int32} (hc : y.1.cls = RX7) (hd : decode y.2.1 pc = .ok (.putfield 29, 3)) : gS E l y d (pc, ls, .int x :: .ref (E.2.2.1 + 82) :: st, gx_G1, μ) (pc + 3, ls, st, gx_G1, gx_uI μ 82 6 x) := s_putI hd (by rw [hc]; exact FRX7_29) (by decide) (by decide +kernel) (ty := .int) rfl rfl rfl g_82
theorem FRX7_32 : gx_FI RX7 32 7 7 0 := ⟨by decide, by decide, gx_in2 137 rfl rfl, by decide⟩
theorem gf_RX7_32 {E : gx_E} {l : Launch} {y : gx_Y} {d pc : Nat} {ls : List (Option Value)} {st : List Value} {μ : gx_M} (hc : y.1.cls = RX7) (hd : decode y.2.1 pc = .ok (.getfield 32, 3)) : gS E l y d (pc, ls, .ref (E.2.2.1 + 82) :: st, gx_G1, μ) (pc + 3, ls, .int (μ.1 82 7) :: st, gx_G1, μ) := s_getI hd (by rw [hc]; exact FRX7_32) (by decide) g_82
theorem pf_RX7_32 {E : gx_E} {l : Launch} {y : gx_Y} {d pc : Nat} {ls : List (Option Value)} {st : List Value} {μ : gx_M} {x : Int32} (hc : y.1.cls = RX7) (hd : decode y.2.1 pc = .ok (.putfield 32, 3)) : gS E l y d (pc, ls, .int x :: .ref (E.2.2.1 + 82) :: st, gx_G1, μ) (pc + 3, ls, st, gx_G1, gx_uI μ 82 7 x) := s_putI hd (by rw [hc]; exact FRX7_32) (by decide) (by decide +kernel) (ty := .int) rfl rfl rfl g_82
theorem FRX7_49 : gx_FI RX7 49 7 0 3 := ⟨by decide, by decide, gx_in2 126 rfl rfl, by decide⟩
theorem gf_RX7_49 {E : gx_E} {l : Launch} {y : gx_Y} {d pc : Nat} {ls : List (Option Value)} {st : List Value} {μ : gx_M} (hc : y.1.cls = RX7) (hd : decode y.2.1 pc = .ok (.getfield 49, 3)) : gS E l y d (pc, ls, .ref (E.2.2.1 + 82) :: st, gx_G1, μ) (pc + 3, ls, .long (μ.2 82 0) :: st, gx_G1, μ) := s_getL hd (by rw [hc]; exact FRX7_49) g_82
theorem pf_RX7_49 {E : gx_E} {l : Launch} {y : gx_Y} {d pc : Nat} {ls : List (Option Value)} {st : List Value} {μ : gx_M} {x : Int64} (hc : y.1.cls = RX7) (hd : decode y.2.1 pc = .ok (.putfield 49, 3)) : gS E l y d (pc, ls, .long x :: .ref (E.2.2.1 + 82) :: st, gx_G1, μ) (pc + 3, ls, st, gx_G1, gx_uL μ 82 0 x) := s_putL hd (by rw [hc]; exact FRX7_49) (by decide +kernel) rfl g_82
theorem FRX7_53 : gx_FI RX7 53 7 1 3 := ⟨by decide, by decide, gx_in2 127 rfl rfl, by decide⟩
theorem gf_RX7_53 {E : gx_E} {l : Launch} {y : gx_Y} {d pc : Nat} {ls : List (Option Value)} {st : List Value} {μ : gx_M} (hc : y.1.cls = RX7) (hd : decode y.2.1 pc = .ok (.getfield 53, 3)) : gS E l y d (pc, ls, .ref (E.2.2.1 + 82) :: st, gx_G1, μ) (pc + 3, ls, .long (μ.2 82 1) :: st, gx_G1, μ) := s_getL hd (by rw [hc]; exact FRX7_53) g_82
theorem pf_RX7_53 {E : gx_E} {l : Launch} {y : gx_Y} {d pc : Nat} {ls : List (Option Value)} {st : List Value} {μ : gx_M} {x : Int64} (hc : y.1.cls = RX7) (hd : decode y.2.1 pc = .ok (.putfield 53, 3)) : gS E l y d (pc, ls, .long x :: .ref (E.2.2.1 + 82) :: st, gx_G1, μ) (pc + 3, ls, st, gx_G1, gx_uL μ 82 1 x) := s_putL hd (by rw [hc]; exact FRX7_53) (by decide +kernel) rfl g_82
theorem FRX7_56 : gx_FI RX7 56 2 3 0 := ⟨by decide, by decide, gx_in1 131 rfl rfl, by decide⟩
theorem gfm_RX7_56 {E : gx_E} {l : Launch} {y : gx_Y} {d pc : Nat} {ls : List (Option Value)} {st : List Value} {μ : gx_M} {a n : Nat} (ha : gx_Ln a n) (hc : y.1.cls = RX7) (hd : decode y.2.1 pc = .ok (.getfield 56, 3)) : gS E l y d (pc, ls, .ref (E.2.2.1 + a) :: st, gx_G1, μ) (pc + 3, ls, .int (μ.1 a 3) :: st, gx_G1, μ) := s_getI hd (by rw [hc]; exact FRX7_56) (by decide) (Ln_0 ha)
theorem FRX7_63 : gx_FI RX7 63 2 1 4 := ⟨by decide, by decide, gx_in1 126 rfl rfl, by decide⟩
theorem gfm_RX7_63 {E : gx_E} {l : Launch} {y : gx_Y} {d pc : Nat} {ls : List (Option Value)} {st : List Value} {μ : gx_M} {a n : Nat} (ha : gx_Ln a n) (hc : y.1.cls = RX7) (hd : decode y.2.1 pc = .ok (.getfield 63, 3)) : gS E l y d (pc, ls, .ref (E.2.2.1 + a) :: st, gx_G1, μ) (pc + 3, ls, .ref (E.2.2.1 + (a + 1)) :: st, gx_G1, μ) := s_getR hd (by rw [hc]; exact FRX7_63) (Ln_0 ha) rfl
theorem FRX8_9 : gx_FI RX8 9 8 0 4 := ⟨by decide, by decide, gx_in1 210 rfl rfl, by decide⟩
theorem gf_RX8_9 {E : gx_E} {l : Launch} {y : gx_Y} {d pc : Nat} {ls : List (Option Value)} {st : List Value} {μ : gx_M} (hc : y.1.cls = RX8) (hd : decode y.2.1 pc = .ok (.getfield 9, 3)) : gS E l y d (pc, ls, .ref (E.2.2.1 + 43) :: st, gx_G1, μ) (pc + 3, ls, .ref (E.2.2.1 + 44) :: st, gx_G1, μ) := s_getR hd (by rw [hc]; exact FRX8_9) g_43 rfl
theorem FRX8_15 : gx_FI RX8 15 9 5 4 := ⟨by decide, by decide, gx_in1 170 rfl rfl, by decide⟩
theorem gf_RX8_15 {E : gx_E} {l : Launch} {y : gx_Y} {d pc : Nat} {ls : List (Option Value)} {st : List Value} {μ : gx_M} (hc : y.1.cls = RX8) (hd : decode y.2.1 pc = .ok (.getfield 15, 3)) : gS E l y d (pc, ls, .ref (E.2.2.1 + 1) :: st, gx_G1, μ) (pc + 3, ls, .ref (E.2.2.1 + 7) :: st, gx_G1, μ) := s_getR hd (by rw [hc]; exact FRX8_15) g_1 rfl
theorem FRX8_26 : gx_FI RX8 26 9 6 0 := ⟨by decide, by decide, gx_in1 172 rfl rfl, by decide⟩
theorem gf_RX8_26 {E : gx_E} {l : Launch} {y : gx_Y} {d pc : Nat} {ls : List (Option Value)} {st : List Value} {μ : gx_M} (hc : y.1.cls = RX8) (hd : decode y.2.1 pc = .ok (.getfield 26, 3)) : gS E l y d (pc, ls, .ref (E.2.2.1 + 1) :: st, gx_G1, μ) (pc + 3, ls, .int (μ.1 1 6) :: st, gx_G1, μ) := s_getI hd (by rw [hc]; exact FRX8_26) (by decide) g_1
theorem FRX8_30 : gx_FI RX8 30 8 1 0 := ⟨by decide, by decide, gx_in1 211 rfl rfl, by decide⟩
theorem gf_RX8_30 {E : gx_E} {l : Launch} {y : gx_Y} {d pc : Nat} {ls : List (Option Value)} {st : List Value} {μ : gx_M} (hc : y.1.cls = RX8) (hd : decode y.2.1 pc = .ok (.getfield 30, 3)) : gS E l y d (pc, ls, .ref (E.2.2.1 + 43) :: st, gx_G1, μ) (pc + 3, ls, .int (μ.1 43 1) :: st, gx_G1, μ) := s_getI hd (by rw [hc]; exact FRX8_30) (by decide) g_43
theorem pf_RX8_30 {E : gx_E} {l : Launch} {y : gx_Y} {d pc : Nat} {ls : List (Option Value)} {st : List Value} {μ : gx_M} {x : Int32} (hc : y.1.cls = RX8) (hd : decode y.2.1 pc = .ok (.putfield 30, 3)) : gS E l y d (pc, ls, .int x :: .ref (E.2.2.1 + 43) :: st, gx_G1, μ) (pc + 3, ls, st, gx_G1, gx_uI μ 43 1 x) := s_putI hd (by rw [hc]; exact FRX8_30) (by decide) (by decide +kernel) (ty := .int) rfl rfl rfl g_43
theorem FRX8_31 : gx_FI RX8 31 8 2 0 := ⟨by decide, by decide, gx_in1 213 rfl rfl, by decide⟩
theorem gf_RX8_31 {E : gx_E} {l : Launch} {y : gx_Y} {d pc : Nat} {ls : List (Option Value)} {st : List Value} {μ : gx_M} (hc : y.1.cls = RX8) (hd : decode y.2.1 pc = .ok (.getfield 31, 3)) : gS E l y d (pc, ls, .ref (E.2.2.1 + 43) :: st, gx_G1, μ) (pc + 3, ls, .int (μ.1 43 2) :: st, gx_G1, μ) := s_getI hd (by rw [hc]; exact FRX8_31) (by decide) g_43
theorem pf_RX8_31 {E : gx_E} {l : Launch} {y : gx_Y} {d pc : Nat} {ls : List (Option Value)} {st : List Value} {μ : gx_M} {x : Int32} (hc : y.1.cls = RX8) (hd : decode y.2.1 pc = .ok (.putfield 31, 3)) : gS E l y d (pc, ls, .int x :: .ref (E.2.2.1 + 43) :: st, gx_G1, μ) (pc + 3, ls, st, gx_G1, gx_uI μ 43 2 x) := s_putI hd (by rw [hc]; exact FRX8_31) (by decide) (by decide +kernel) (ty := .int) rfl rfl rfl g_43
theorem FRX8_34 : gx_FI RX8 34 8 4 0 := ⟨by decide, by decide, gx_in1 216 rfl rfl, by decide⟩
theorem gf_RX8_34 {E : gx_E} {l : Launch} {y : gx_Y} {d pc : Nat} {ls : List (Option Value)} {st : List Value} {μ : gx_M} (hc : y.1.cls = RX8) (hd : decode y.2.1 pc = .ok (.getfield 34, 3)) : gS E l y d (pc, ls, .ref (E.2.2.1 + 43) :: st, gx_G1, μ) (pc + 3, ls, .int (μ.1 43 4) :: st, gx_G1, μ) := s_getI hd (by rw [hc]; exact FRX8_34) (by decide) g_43
theorem pf_RX8_34 {E : gx_E} {l : Launch} {y : gx_Y} {d pc : Nat} {ls : List (Option Value)} {st : List Value} {μ : gx_M} {x : Int32} (hc : y.1.cls = RX8) (hd : decode y.2.1 pc = .ok (.putfield 34, 3)) : gS E l y d (pc, ls, .int x :: .ref (E.2.2.1 + 43) :: st, gx_G1, μ) (pc + 3, ls, st, gx_G1, gx_uI μ 43 4 x) := s_putI hd (by rw [hc]; exact FRX8_34) (by decide) (by decide +kernel) (ty := .int) rfl rfl rfl g_43
theorem FRX8_37 : gx_FI RX8 37 8 3 0 := ⟨by decide, by decide, gx_in1 214 rfl rfl, by decide⟩
theorem gf_RX8_37 {E : gx_E} {l : Launch} {y : gx_Y} {d pc : Nat} {ls : List (Option Value)} {st : List Value} {μ : gx_M} (hc : y.1.cls = RX8) (hd : decode y.2.1 pc = .ok (.getfield 37, 3)) : gS E l y d (pc, ls, .ref (E.2.2.1 + 43) :: st, gx_G1, μ) (pc + 3, ls, .int (μ.1 43 3) :: st, gx_G1, μ) := s_getI hd (by rw [hc]; exact FRX8_37) (by decide) g_43
theorem pf_RX8_37 {E : gx_E} {l : Launch} {y : gx_Y} {d pc : Nat} {ls : List (Option Value)} {st : List Value} {μ : gx_M} {x : Int32} (hc : y.1.cls = RX8) (hd : decode y.2.1 pc = .ok (.putfield 37, 3)) : gS E l y d (pc, ls, .int x :: .ref (E.2.2.1 + 43) :: st, gx_G1, μ) (pc + 3, ls, st, gx_G1, gx_uI μ 43 3 x) := s_putI hd (by rw [hc]; exact FRX8_37) (by decide) (by decide +kernel) (ty := .int) rfl rfl rfl g_43
theorem FRX8_53 : gx_FI RX8 53 8 5 0 := ⟨by decide, by decide, gx_in1 218 rfl rfl, by decide⟩
theorem gf_RX8_53 {E : gx_E} {l : Launch} {y : gx_Y} {d pc : Nat} {ls : List (Option Value)} {st : List Value} {μ : gx_M} (hc : y.1.cls = RX8) (hd : decode y.2.1 pc = .ok (.getfield 53, 3)) : gS E l y d (pc, ls, .ref (E.2.2.1 + 43) :: st, gx_G1, μ) (pc + 3, ls, .int (μ.1 43 5) :: st, gx_G1, μ) := s_getI hd (by rw [hc]; exact FRX8_53) (by decide) g_43
theorem pf_RX8_53 {E : gx_E} {l : Launch} {y : gx_Y} {d pc : Nat} {ls : List (Option Value)} {st : List Value} {μ : gx_M} {x : Int32} (hc : y.1.cls = RX8) (hd : decode y.2.1 pc = .ok (.putfield 53, 3)) : gS E l y d (pc, ls, .int x :: .ref (E.2.2.1 + 43) :: st, gx_G1, μ) (pc + 3, ls, st, gx_G1, gx_uI μ 43 5 x) := s_putI hd (by rw [hc]; exact FRX8_53) (by decide) (by decide +kernel) (ty := .int) rfl rfl rfl g_43
theorem FRX9_9 : gx_FI RX9 9 9 0 4 := ⟨by decide, by decide, gx_in1 159 rfl rfl, by decide⟩
theorem gf_RX9_9 {E : gx_E} {l : Launch} {y : gx_Y} {d pc : Nat} {ls : List (Option Value)} {st : List Value} {μ : gx_M} (hc : y.1.cls = RX9) (hd : decode y.2.1 pc = .ok (.getfield 9, 3)) : gS E l y d (pc, ls, .ref (E.2.2.1 + 1) :: st, gx_G1, μ) (pc + 3, ls, .ref (E.2.2.1 + 2) :: st, gx_G1, μ) := s_getR hd (by rw [hc]; exact FRX9_9) g_1 rfl
theorem gfm_RX9_9 {E : gx_E} {l : Launch} {y : gx_Y} {d pc : Nat} {ls : List (Option Value)} {st : List Value} {μ : gx_M} {a : Nat} (ha : gx_Td a) (hc : y.1.cls = RX9) (hd : decode y.2.1 pc = .ok (.getfield 9, 3)) : gS E l y d (pc, ls, .ref (E.2.2.1 + a) :: st, gx_G1, μ) (pc + 3, ls, .ref (E.2.2.1 + (a + 1)) :: st, gx_G1, μ) := s_getR hd (by rw [hc]; exact FRX9_9) (Td_0 ha) rfl
theorem FRX9_17 : gx_FI RX9 17 9 1 4 := ⟨by decide, by decide, gx_in1 161 rfl rfl, by decide⟩
theorem gf_RX9_17 {E : gx_E} {l : Launch} {y : gx_Y} {d pc : Nat} {ls : List (Option Value)} {st : List Value} {μ : gx_M} (hc : y.1.cls = RX9) (hd : decode y.2.1 pc = .ok (.getfield 17, 3)) : gS E l y d (pc, ls, .ref (E.2.2.1 + 1) :: st, gx_G1, μ) (pc + 3, ls, .ref (E.2.2.1 + 3) :: st, gx_G1, μ) := s_getR hd (by rw [hc]; exact FRX9_17) g_1 rfl
theorem gfm_RX9_17 {E : gx_E} {l : Launch} {y : gx_Y} {d pc : Nat} {ls : List (Option Value)} {st : List Value} {μ : gx_M} {a : Nat} (ha : gx_Td a) (hc : y.1.cls = RX9) (hd : decode y.2.1 pc = .ok (.getfield 17, 3)) : gS E l y d (pc, ls, .ref (E.2.2.1 + a) :: st, gx_G1, μ) (pc + 3, ls, .ref (E.2.2.1 + (a + 2)) :: st, gx_G1, μ) := s_getR hd (by rw [hc]; exact FRX9_17) (Td_0 ha) rfl
theorem FRX9_23 : gx_FI RX9 23 9 2 4 := ⟨by decide, by decide, gx_in1 163 rfl rfl, by decide⟩
theorem gf_RX9_23 {E : gx_E} {l : Launch} {y : gx_Y} {d pc : Nat} {ls : List (Option Value)} {st : List Value} {μ : gx_M} (hc : y.1.cls = RX9) (hd : decode y.2.1 pc = .ok (.getfield 23, 3)) : gS E l y d (pc, ls, .ref (E.2.2.1 + 1) :: st, gx_G1, μ) (pc + 3, ls, .ref (E.2.2.1 + 4) :: st, gx_G1, μ) := s_getR hd (by rw [hc]; exact FRX9_23) g_1 rfl
theorem gfm_RX9_23 {E : gx_E} {l : Launch} {y : gx_Y} {d pc : Nat} {ls : List (Option Value)} {st : List Value} {μ : gx_M} {a : Nat} (ha : gx_Td a) (hc : y.1.cls = RX9) (hd : decode y.2.1 pc = .ok (.getfield 23, 3)) : gS E l y d (pc, ls, .ref (E.2.2.1 + a) :: st, gx_G1, μ) (pc + 3, ls, .ref (E.2.2.1 + (a + 3)) :: st, gx_G1, μ) := s_getR hd (by rw [hc]; exact FRX9_23) (Td_0 ha) rfl
theorem FRX9_27 : gx_FI RX9 27 9 3 4 := ⟨by decide, by decide, gx_in1 165 rfl rfl, by decide⟩
theorem gf_RX9_27 {E : gx_E} {l : Launch} {y : gx_Y} {d pc : Nat} {ls : List (Option Value)} {st : List Value} {μ : gx_M} (hc : y.1.cls = RX9) (hd : decode y.2.1 pc = .ok (.getfield 27, 3)) : gS E l y d (pc, ls, .ref (E.2.2.1 + 1) :: st, gx_G1, μ) (pc + 3, ls, .ref (E.2.2.1 + 5) :: st, gx_G1, μ) := s_getR hd (by rw [hc]; exact FRX9_27) g_1 rfl
theorem gfm_RX9_27 {E : gx_E} {l : Launch} {y : gx_Y} {d pc : Nat} {ls : List (Option Value)} {st : List Value} {μ : gx_M} {a : Nat} (ha : gx_Td a) (hc : y.1.cls = RX9) (hd : decode y.2.1 pc = .ok (.getfield 27, 3)) : gS E l y d (pc, ls, .ref (E.2.2.1 + a) :: st, gx_G1, μ) (pc + 3, ls, .ref (E.2.2.1 + (a + 4)) :: st, gx_G1, μ) := s_getR hd (by rw [hc]; exact FRX9_27) (Td_0 ha) rfl
theorem FRX9_32 : gx_FI RX9 32 9 4 4 := ⟨by decide, by decide, gx_in1 167 rfl rfl, by decide⟩
theorem gf_RX9_32 {E : gx_E} {l : Launch} {y : gx_Y} {d pc : Nat} {ls : List (Option Value)} {st : List Value} {μ : gx_M} (hc : y.1.cls = RX9) (hd : decode y.2.1 pc = .ok (.getfield 32, 3)) : gS E l y d (pc, ls, .ref (E.2.2.1 + 1) :: st, gx_G1, μ) (pc + 3, ls, .ref (E.2.2.1 + 6) :: st, gx_G1, μ) := s_getR hd (by rw [hc]; exact FRX9_32) g_1 rfl
theorem gfm_RX9_32 {E : gx_E} {l : Launch} {y : gx_Y} {d pc : Nat} {ls : List (Option Value)} {st : List Value} {μ : gx_M} {a : Nat} (ha : gx_Td a) (hc : y.1.cls = RX9) (hd : decode y.2.1 pc = .ok (.getfield 32, 3)) : gS E l y d (pc, ls, .ref (E.2.2.1 + a) :: st, gx_G1, μ) (pc + 3, ls, .ref (E.2.2.1 + (a + 5)) :: st, gx_G1, μ) := s_getR hd (by rw [hc]; exact FRX9_32) (Td_0 ha) rfl
theorem FRX9_36 : gx_FI RX9 36 9 5 4 := ⟨by decide, by decide, gx_in1 169 rfl rfl, by decide⟩
theorem gf_RX9_36 {E : gx_E} {l : Launch} {y : gx_Y} {d pc : Nat} {ls : List (Option Value)} {st : List Value} {μ : gx_M} (hc : y.1.cls = RX9) (hd : decode y.2.1 pc = .ok (.getfield 36, 3)) : gS E l y d (pc, ls, .ref (E.2.2.1 + 1) :: st, gx_G1, μ) (pc + 3, ls, .ref (E.2.2.1 + 7) :: st, gx_G1, μ) := s_getR hd (by rw [hc]; exact FRX9_36) g_1 rfl
theorem gfm_RX9_36 {E : gx_E} {l : Launch} {y : gx_Y} {d pc : Nat} {ls : List (Option Value)} {st : List Value} {μ : gx_M} {a : Nat} (ha : gx_Td a) (hc : y.1.cls = RX9) (hd : decode y.2.1 pc = .ok (.getfield 36, 3)) : gS E l y d (pc, ls, .ref (E.2.2.1 + a) :: st, gx_G1, μ) (pc + 3, ls, .ref (E.2.2.1 + (a + 6)) :: st, gx_G1, μ) := s_getR hd (by rw [hc]; exact FRX9_36) (Td_0 ha) rfl
theorem FRX9_40 : gx_FI RX9 40 9 8 0 := ⟨by decide, by decide, gx_in1 176 rfl rfl, by decide⟩
theorem gfm_RX9_40 {E : gx_E} {l : Launch} {y : gx_Y} {d pc : Nat} {ls : List (Option Value)} {st : List Value} {μ : gx_M} {a : Nat} (ha : gx_Td a) (hc : y.1.cls = RX9) (hd : decode y.2.1 pc = .ok (.getfield 40, 3)) : gS E l y d (pc, ls, .ref (E.2.2.1 + a) :: st, gx_G1, μ) (pc + 3, ls, .int (μ.1 a 8) :: st, gx_G1, μ) := s_getI hd (by rw [hc]; exact FRX9_40) (by decide) (Td_0 ha)
theorem pfm_RX9_40 {E : gx_E} {l : Launch} {y : gx_Y} {d pc : Nat} {ls : List (Option Value)} {st : List Value} {μ : gx_M} {a : Nat} (ha : gx_Td a) {x : Int32} (hc : y.1.cls = RX9) (hd : decode y.2.1 pc = .ok (.putfield 40, 3)) : gS E l y d (pc, ls, .int x :: .ref (E.2.2.1 + a) :: st, gx_G1, μ) (pc + 3, ls, st, gx_G1, gx_uI μ a 8 x) := s_putI hd (by rw [hc]; exact FRX9_40) (by decide) (by decide +kernel) (ty := .int) rfl rfl rfl (Td_0 ha)
theorem FRX9_65 : gx_FI RX9 65 9 6 0 := ⟨by decide, by decide, gx_in1 173 rfl rfl, by decide⟩
theorem gf_RX9_65 {E : gx_E} {l : Launch} {y : gx_Y} {d pc : Nat} {ls : List (Option Value)} {st : List Value} {μ : gx_M} (hc : y.1.cls = RX9) (hd : decode y.2.1 pc = .ok (.getfield 65, 3)) : gS E l y d (pc, ls, .ref (E.2.2.1 + 1) :: st, gx_G1, μ) (pc + 3, ls, .int (μ.1 1 6) :: st, gx_G1, μ) := s_getI hd (by rw [hc]; exact FRX9_65) (by decide) g_1
theorem pf_RX9_65 {E : gx_E} {l : Launch} {y : gx_Y} {d pc : Nat} {ls : List (Option Value)} {st : List Value} {μ : gx_M} {x : Int32} (hc : y.1.cls = RX9) (hd : decode y.2.1 pc = .ok (.putfield 65, 3)) : gS E l y d (pc, ls, .int x :: .ref (E.2.2.1 + 1) :: st, gx_G1, μ) (pc + 3, ls, st, gx_G1, gx_uI μ 1 6 x) := s_putI hd (by rw [hc]; exact FRX9_65) (by decide) (by decide +kernel) (ty := .int) rfl rfl rfl g_1
theorem gfm_RX9_65 {E : gx_E} {l : Launch} {y : gx_Y} {d pc : Nat} {ls : List (Option Value)} {st : List Value} {μ : gx_M} {a : Nat} (ha : gx_Td a) (hc : y.1.cls = RX9) (hd : decode y.2.1 pc = .ok (.getfield 65, 3)) : gS E l y d (pc, ls, .ref (E.2.2.1 + a) :: st, gx_G1, μ) (pc + 3, ls, .int (μ.1 a 6) :: st, gx_G1, μ) := s_getI hd (by rw [hc]; exact FRX9_65) (by decide) (Td_0 ha)
theorem pfm_RX9_65 {E : gx_E} {l : Launch} {y : gx_Y} {d pc : Nat} {ls : List (Option Value)} {st : List Value} {μ : gx_M} {a : Nat} (ha : gx_Td a) {x : Int32} (hc : y.1.cls = RX9) (hd : decode y.2.1 pc = .ok (.putfield 65, 3)) : gS E l y d (pc, ls, .int x :: .ref (E.2.2.1 + a) :: st, gx_G1, μ) (pc + 3, ls, st, gx_G1, gx_uI μ a 6 x) := s_putI hd (by rw [hc]; exact FRX9_65) (by decide) (by decide +kernel) (ty := .int) rfl rfl rfl (Td_0 ha)
theorem FRX9_68 : gx_FI RX9 68 9 7 0 := ⟨by decide, by decide, gx_in1 174 rfl rfl, by decide⟩
theorem gfm_RX9_68 {E : gx_E} {l : Launch} {y : gx_Y} {d pc : Nat} {ls : List (Option Value)} {st : List Value} {μ : gx_M} {a : Nat} (ha : gx_Td a) (hc : y.1.cls = RX9) (hd : decode y.2.1 pc = .ok (.getfield 68, 3)) : gS E l y d (pc, ls, .ref (E.2.2.1 + a) :: st, gx_G1, μ) (pc + 3, ls, .int (μ.1 a 7) :: st, gx_G1, μ) := s_getI hd (by rw [hc]; exact FRX9_68) (by decide) (Td_0 ha)
theorem pfm_RX9_68 {E : gx_E} {l : Launch} {y : gx_Y} {d pc : Nat} {ls : List (Option Value)} {st : List Value} {μ : gx_M} {a : Nat} (ha : gx_Td a) {x : Int32} (hc : y.1.cls = RX9) (hd : decode y.2.1 pc = .ok (.putfield 68, 3)) : gS E l y d (pc, ls, .int x :: .ref (E.2.2.1 + a) :: st, gx_G1, μ) (pc + 3, ls, st, gx_G1, gx_uI μ a 7 x) := s_putI hd (by rw [hc]; exact FRX9_68) (by decide) (by decide +kernel) (ty := .int) rfl rfl rfl (Td_0 ha)
theorem FRX9_71 : gx_FI RX9 71 4 1 4 := ⟨by decide, by decide, gx_in2 2 rfl rfl, by decide⟩
theorem gf_RX9_71 {E : gx_E} {l : Launch} {y : gx_Y} {d pc : Nat} {ls : List (Option Value)} {st : List Value} {μ : gx_M} (hc : y.1.cls = RX9) (hd : decode y.2.1 pc = .ok (.getfield 71, 3)) : gS E l y d (pc, ls, .ref (E.2.2.1 + 42) :: st, gx_G1, μ) (pc + 3, ls, .ref (E.2.2.1 + 45) :: st, gx_G1, μ) := s_getR hd (by rw [hc]; exact FRX9_71) g_42 rfl
theorem FRX9_77 : gx_FI RX9 77 4 2 4 := ⟨by decide, by decide, gx_in2 4 rfl rfl, by decide⟩
theorem gf_RX9_77 {E : gx_E} {l : Launch} {y : gx_Y} {d pc : Nat} {ls : List (Option Value)} {st : List Value} {μ : gx_M} (hc : y.1.cls = RX9) (hd : decode y.2.1 pc = .ok (.getfield 77, 3)) : gS E l y d (pc, ls, .ref (E.2.2.1 + 42) :: st, gx_G1, μ) (pc + 3, ls, .ref (E.2.2.1 + 53) :: st, gx_G1, μ) := s_getR hd (by rw [hc]; exact FRX9_77) g_42 rfl
theorem FRX9_81 : gx_FI RX9 81 4 3 4 := ⟨by decide, by decide, gx_in2 6 rfl rfl, by decide⟩
theorem gf_RX9_81 {E : gx_E} {l : Launch} {y : gx_Y} {d pc : Nat} {ls : List (Option Value)} {st : List Value} {μ : gx_M} (hc : y.1.cls = RX9) (hd : decode y.2.1 pc = .ok (.getfield 81, 3)) : gS E l y d (pc, ls, .ref (E.2.2.1 + 42) :: st, gx_G1, μ) (pc + 3, ls, .ref (E.2.2.1 + 56) :: st, gx_G1, μ) := s_getR hd (by rw [hc]; exact FRX9_81) g_42 rfl
theorem FRX9_84 : gx_FI RX9 84 4 4 4 := ⟨by decide, by decide, gx_in2 8 rfl rfl, by decide⟩
theorem gf_RX9_84 {E : gx_E} {l : Launch} {y : gx_Y} {d pc : Nat} {ls : List (Option Value)} {st : List Value} {μ : gx_M} (hc : y.1.cls = RX9) (hd : decode y.2.1 pc = .ok (.getfield 84, 3)) : gS E l y d (pc, ls, .ref (E.2.2.1 + 42) :: st, gx_G1, μ) (pc + 3, ls, .ref (E.2.2.1 + 59) :: st, gx_G1, μ) := s_getR hd (by rw [hc]; exact FRX9_84) g_42 rfl
theorem FRX10_9 : gx_FI RX10 9 10 0 4 := ⟨by decide, by decide, gx_in2 162 rfl rfl, by decide⟩
theorem gf_RX10_9 {E : gx_E} {l : Launch} {y : gx_Y} {d pc : Nat} {ls : List (Option Value)} {st : List Value} {μ : gx_M} (hc : y.1.cls = RX10) (hd : decode y.2.1 pc = .ok (.getfield 9, 3)) : gS E l y d (pc, ls, .ref (E.2.2.1 + 84) :: st, gx_G1, μ) (pc + 3, ls, .ref (E.2.2.1 + 85) :: st, gx_G1, μ) := s_getR hd (by rw [hc]; exact FRX10_9) g_84 rfl
theorem FRX10_15 : gx_FI RX10 15 10 1 4 := ⟨by decide, by decide, gx_in2 164 rfl rfl, by decide⟩
theorem gf_RX10_15 {E : gx_E} {l : Launch} {y : gx_Y} {d pc : Nat} {ls : List (Option Value)} {st : List Value} {μ : gx_M} (hc : y.1.cls = RX10) (hd : decode y.2.1 pc = .ok (.getfield 15, 3)) : gS E l y d (pc, ls, .ref (E.2.2.1 + 84) :: st, gx_G1, μ) (pc + 3, ls, .ref (E.2.2.1 + 86) :: st, gx_G1, μ) := s_getR hd (by rw [hc]; exact FRX10_15) g_84 rfl
theorem FRX10_18 : gx_FI RX10 18 10 2 4 := ⟨by decide, by decide, gx_in2 166 rfl rfl, by decide⟩
theorem gf_RX10_18 {E : gx_E} {l : Launch} {y : gx_Y} {d pc : Nat} {ls : List (Option Value)} {st : List Value} {μ : gx_M} (hc : y.1.cls = RX10) (hd : decode y.2.1 pc = .ok (.getfield 18, 3)) : gS E l y d (pc, ls, .ref (E.2.2.1 + 84) :: st, gx_G1, μ) (pc + 3, ls, .ref (E.2.2.1 + 87) :: st, gx_G1, μ) := s_getR hd (by rw [hc]; exact FRX10_18) g_84 rfl
theorem FRX10_27 : gx_FI RX10 27 10 3 0 := ⟨by decide, by decide, gx_in2 167 rfl rfl, by decide⟩
theorem gf_RX10_27 {E : gx_E} {l : Launch} {y : gx_Y} {d pc : Nat} {ls : List (Option Value)} {st : List Value} {μ : gx_M} (hc : y.1.cls = RX10) (hd : decode y.2.1 pc = .ok (.getfield 27, 3)) : gS E l y d (pc, ls, .ref (E.2.2.1 + 84) :: st, gx_G1, μ) (pc + 3, ls, .int (μ.1 84 3) :: st, gx_G1, μ) := s_getI hd (by rw [hc]; exact FRX10_27) (by decide) g_84
theorem pf_RX10_27 {E : gx_E} {l : Launch} {y : gx_Y} {d pc : Nat} {ls : List (Option Value)} {st : List Value} {μ : gx_M} {x : Int32} (hc : y.1.cls = RX10) (hd : decode y.2.1 pc = .ok (.putfield 27, 3)) : gS E l y d (pc, ls, .int x :: .ref (E.2.2.1 + 84) :: st, gx_G1, μ) (pc + 3, ls, st, gx_G1, gx_uI μ 84 3 x) := s_putI hd (by rw [hc]; exact FRX10_27) (by decide) (by decide +kernel) (ty := .int) rfl rfl rfl g_84
theorem FRX10_31 : gx_FI RX10 31 6 0 0 := ⟨by decide, by decide, gx_in1 149 rfl rfl, by decide⟩
theorem gfm_RX10_31 {E : gx_E} {l : Launch} {y : gx_Y} {d pc : Nat} {ls : List (Option Value)} {st : List Value} {μ : gx_M} {a : Nat} (ha : gx_Sw a) (hc : y.1.cls = RX10) (hd : decode y.2.1 pc = .ok (.getfield 31, 3)) : gS E l y d (pc, ls, .ref (E.2.2.1 + a) :: st, gx_G1, μ) (pc + 3, ls, .int (μ.1 a 0) :: st, gx_G1, μ) := s_getI hd (by rw [hc]; exact FRX10_31) (by decide) (Sw_0 ha)
theorem gs_RX4_139 {E : gx_E} {l : Launch} {y : gx_Y} {d pc : Nat} {ls : List (Option Value)} {st : List Value} {G : gx_G} {μ : gx_M} {fk : Nat} {uq : Option Nat} {adK adV : Nat → Nat} (hE : gx_EX E fk uq adK adV) (hc : y.1.cls = RX4) (hd : decode y.2.1 pc = .ok (.getstatic 139, 3)) : gS E l y d (pc, ls, st, G, μ) (pc + 3, ls, .ref fk :: st, G, μ) := s_gets (fun U H h => (hE U H h).2.2.1) (by rw [hc]; exact gx_in3 42 rfl rfl) hd
theorem sk_0 {E : gx_E} {l : Launch} {y : gx_Y} {d pc : Nat} {ls : List (Option Value)} {st : List Value} {G : gx_G} {μ : gx_M} {fk : Nat} {uq : Option Nat} {adK adV : Nat → Nat} (hE : gx_EX E fk uq adK adV) (hc : y.1.cls = RX4) (hd : decode y.2.1 pc = .ok (.ldc 149, 2)) : gS E l y d (pc, ls, st, G, μ) (pc + 2, ls, .ref (adK 0) :: st, G, μ) := s_ldcS hE hd 0 (by decide) (by decide) hc
theorem sk_1 {E : gx_E} {l : Launch} {y : gx_Y} {d pc : Nat} {ls : List (Option Value)} {st : List Value} {G : gx_G} {μ : gx_M} {fk : Nat} {uq : Option Nat} {adK adV : Nat → Nat} (hE : gx_EX E fk uq adK adV) (hc : y.1.cls = RX4) (hd : decode y.2.1 pc = .ok (.ldc 150, 2)) : gS E l y d (pc, ls, st, G, μ) (pc + 2, ls, .ref (adK 1) :: st, G, μ) := s_ldcS hE hd 1 (by decide) (by decide) hc
theorem sk_2 {E : gx_E} {l : Launch} {y : gx_Y} {d pc : Nat} {ls : List (Option Value)} {st : List Value} {G : gx_G} {μ : gx_M} {fk : Nat} {uq : Option Nat} {adK adV : Nat → Nat} (hE : gx_EX E fk uq adK adV) (hc : y.1.cls = RX4) (hd : decode y.2.1 pc = .ok (.ldc 151, 2)) : gS E l y d (pc, ls, st, G, μ) (pc + 2, ls, .ref (adK 2) :: st, G, μ) := s_ldcS hE hd 2 (by decide) (by decide) hc
theorem sk_3 {E : gx_E} {l : Launch} {y : gx_Y} {d pc : Nat} {ls : List (Option Value)} {st : List Value} {G : gx_G} {μ : gx_M} {fk : Nat} {uq : Option Nat} {adK adV : Nat → Nat} (hE : gx_EX E fk uq adK adV) (hc : y.1.cls = RX4) (hd : decode y.2.1 pc = .ok (.ldc 153, 2)) : gS E l y d (pc, ls, st, G, μ) (pc + 2, ls, .ref (adK 3) :: st, G, μ) := s_ldcS hE hd 3 (by decide) (by decide) hc
theorem sk_4 {E : gx_E} {l : Launch} {y : gx_Y} {d pc : Nat} {ls : List (Option Value)} {st : List Value} {G : gx_G} {μ : gx_M} {fk : Nat} {uq : Option Nat} {adK adV : Nat → Nat} (hE : gx_EX E fk uq adK adV) (hc : y.1.cls = RX4) (hd : decode y.2.1 pc = .ok (.ldc 155, 2)) : gS E l y d (pc, ls, st, G, μ) (pc + 2, ls, .ref (adK 4) :: st, G, μ) := s_ldcS hE hd 4 (by decide) (by decide) hc
theorem sk_5 {E : gx_E} {l : Launch} {y : gx_Y} {d pc : Nat} {ls : List (Option Value)} {st : List Value} {G : gx_G} {μ : gx_M} {fk : Nat} {uq : Option Nat} {adK adV : Nat → Nat} (hE : gx_EX E fk uq adK adV) (hc : y.1.cls = RX4) (hd : decode y.2.1 pc = .ok (.ldc 157, 2)) : gS E l y d (pc, ls, st, G, μ) (pc + 2, ls, .ref (adK 5) :: st, G, μ) := s_ldcS hE hd 5 (by decide) (by decide) hc
theorem sk_6 {E : gx_E} {l : Launch} {y : gx_Y} {d pc : Nat} {ls : List (Option Value)} {st : List Value} {G : gx_G} {μ : gx_M} {fk : Nat} {uq : Option Nat} {adK adV : Nat → Nat} (hE : gx_EX E fk uq adK adV) (hc : y.1.cls = RX4) (hd : decode y.2.1 pc = .ok (.ldc 159, 2)) : gS E l y d (pc, ls, st, G, μ) (pc + 2, ls, .ref (adK 6) :: st, G, μ) := s_ldcS hE hd 6 (by decide) (by decide) hc
theorem sk_7 {E : gx_E} {l : Launch} {y : gx_Y} {d pc : Nat} {ls : List (Option Value)} {st : List Value} {G : gx_G} {μ : gx_M} {fk : Nat} {uq : Option Nat} {adK adV : Nat → Nat} (hE : gx_EX E fk uq adK adV) (hc : y.1.cls = RX4) (hd : decode y.2.1 pc = .ok (.ldc 161, 2)) : gS E l y d (pc, ls, st, G, μ) (pc + 2, ls, .ref (adK 7) :: st, G, μ) := s_ldcS hE hd 7 (by decide) (by decide) hc
theorem sk_8 {E : gx_E} {l : Launch} {y : gx_Y} {d pc : Nat} {ls : List (Option Value)} {st : List Value} {G : gx_G} {μ : gx_M} {fk : Nat} {uq : Option Nat} {adK adV : Nat → Nat} (hE : gx_EX E fk uq adK adV) (hc : y.1.cls = RX4) (hd : decode y.2.1 pc = .ok (.ldc 163, 2)) : gS E l y d (pc, ls, st, G, μ) (pc + 2, ls, .ref (adK 8) :: st, G, μ) := s_ldcS hE hd 8 (by decide) (by decide) hc
theorem sk_9 {E : gx_E} {l : Launch} {y : gx_Y} {d pc : Nat} {ls : List (Option Value)} {st : List Value} {G : gx_G} {μ : gx_M} {fk : Nat} {uq : Option Nat} {adK adV : Nat → Nat} (hE : gx_EX E fk uq adK adV) (hc : y.1.cls = RX4) (hd : decode y.2.1 pc = .ok (.ldc 165, 2)) : gS E l y d (pc, ls, st, G, μ) (pc + 2, ls, .ref (adK 9) :: st, G, μ) := s_ldcS hE hd 9 (by decide) (by decide) hc
theorem sk_10 {E : gx_E} {l : Launch} {y : gx_Y} {d pc : Nat} {ls : List (Option Value)} {st : List Value} {G : gx_G} {μ : gx_M} {fk : Nat} {uq : Option Nat} {adK adV : Nat → Nat} (hE : gx_EX E fk uq adK adV) (hc : y.1.cls = RX4) (hd : decode y.2.1 pc = .ok (.ldc 167, 2)) : gS E l y d (pc, ls, st, G, μ) (pc + 2, ls, .ref (adK 10) :: st, G, μ) := s_ldcS hE hd 10 (by decide) (by decide) hc
theorem sk_11 {E : gx_E} {l : Launch} {y : gx_Y} {d pc : Nat} {ls : List (Option Value)} {st : List Value} {G : gx_G} {μ : gx_M} {fk : Nat} {uq : Option Nat} {adK adV : Nat → Nat} (hE : gx_EX E fk uq adK adV) (hc : y.1.cls = RX4) (hd : decode y.2.1 pc = .ok (.ldc 169, 2)) : gS E l y d (pc, ls, st, G, μ) (pc + 2, ls, .ref (adK 11) :: st, G, μ) := s_ldcS hE hd 11 (by decide) (by decide) hc
theorem sk_12 {E : gx_E} {l : Launch} {y : gx_Y} {d pc : Nat} {ls : List (Option Value)} {st : List Value} {G : gx_G} {μ : gx_M} {fk : Nat} {uq : Option Nat} {adK adV : Nat → Nat} (hE : gx_EX E fk uq adK adV) (hc : y.1.cls = RX4) (hd : decode y.2.1 pc = .ok (.ldc 171, 2)) : gS E l y d (pc, ls, st, G, μ) (pc + 2, ls, .ref (adK 12) :: st, G, μ) := s_ldcS hE hd 12 (by decide) (by decide) hc
theorem sk_13 {E : gx_E} {l : Launch} {y : gx_Y} {d pc : Nat} {ls : List (Option Value)} {st : List Value} {G : gx_G} {μ : gx_M} {fk : Nat} {uq : Option Nat} {adK adV : Nat → Nat} (hE : gx_EX E fk uq adK adV) (hc : y.1.cls = RX4) (hd : decode y.2.1 pc = .ok (.ldc 173, 2)) : gS E l y d (pc, ls, st, G, μ) (pc + 2, ls, .ref (adK 13) :: st, G, μ) := s_ldcS hE hd 13 (by decide) (by decide) hc
theorem sk_14 {E : gx_E} {l : Launch} {y : gx_Y} {d pc : Nat} {ls : List (Option Value)} {st : List Value} {G : gx_G} {μ : gx_M} {fk : Nat} {uq : Option Nat} {adK adV : Nat → Nat} (hE : gx_EX E fk uq adK adV) (hc : y.1.cls = RX4) (hd : decode y.2.1 pc = .ok (.ldc 175, 2)) : gS E l y d (pc, ls, st, G, μ) (pc + 2, ls, .ref (adK 14) :: st, G, μ) := s_ldcS hE hd 14 (by decide) (by decide) hc
theorem sk_15 {E : gx_E} {l : Launch} {y : gx_Y} {d pc : Nat} {ls : List (Option Value)} {st : List Value} {G : gx_G} {μ : gx_M} {fk : Nat} {uq : Option Nat} {adK adV : Nat → Nat} (hE : gx_EX E fk uq adK adV) (hc : y.1.cls = RX4) (hd : decode y.2.1 pc = .ok (.ldc 177, 2)) : gS E l y d (pc, ls, st, G, μ) (pc + 2, ls, .ref (adK 15) :: st, G, μ) := s_ldcS hE hd 15 (by decide) (by decide) hc
theorem sk_16 {E : gx_E} {l : Launch} {y : gx_Y} {d pc : Nat} {ls : List (Option Value)} {st : List Value} {G : gx_G} {μ : gx_M} {fk : Nat} {uq : Option Nat} {adK adV : Nat → Nat} (hE : gx_EX E fk uq adK adV) (hc : y.1.cls = RX4) (hd : decode y.2.1 pc = .ok (.ldc 178, 2)) : gS E l y d (pc, ls, st, G, μ) (pc + 2, ls, .ref (adK 16) :: st, G, μ) := s_ldcS hE hd 16 (by decide) (by decide) hc
theorem sk_17 {E : gx_E} {l : Launch} {y : gx_Y} {d pc : Nat} {ls : List (Option Value)} {st : List Value} {G : gx_G} {μ : gx_M} {fk : Nat} {uq : Option Nat} {adK adV : Nat → Nat} (hE : gx_EX E fk uq adK adV) (hc : y.1.cls = RX4) (hd : decode y.2.1 pc = .ok (.ldc 194, 2)) : gS E l y d (pc, ls, st, G, μ) (pc + 2, ls, .ref (adK 17) :: st, G, μ) := s_ldcS hE hd 17 (by decide) (by decide) hc
theorem sk_18 {E : gx_E} {l : Launch} {y : gx_Y} {d pc : Nat} {ls : List (Option Value)} {st : List Value} {G : gx_G} {μ : gx_M} {fk : Nat} {uq : Option Nat} {adK adV : Nat → Nat} (hE : gx_EX E fk uq adK adV) (hc : y.1.cls = RX4) (hd : decode y.2.1 pc = .ok (.ldc 196, 2)) : gS E l y d (pc, ls, st, G, μ) (pc + 2, ls, .ref (adK 18) :: st, G, μ) := s_ldcS hE hd 18 (by decide) (by decide) hc
theorem sk_19 {E : gx_E} {l : Launch} {y : gx_Y} {d pc : Nat} {ls : List (Option Value)} {st : List Value} {G : gx_G} {μ : gx_M} {fk : Nat} {uq : Option Nat} {adK adV : Nat → Nat} (hE : gx_EX E fk uq adK adV) (hc : y.1.cls = RX4) (hd : decode y.2.1 pc = .ok (.ldc 198, 2)) : gS E l y d (pc, ls, st, G, μ) (pc + 2, ls, .ref (adK 19) :: st, G, μ) := s_ldcS hE hd 19 (by decide) (by decide) hc
theorem sk_20 {E : gx_E} {l : Launch} {y : gx_Y} {d pc : Nat} {ls : List (Option Value)} {st : List Value} {G : gx_G} {μ : gx_M} {fk : Nat} {uq : Option Nat} {adK adV : Nat → Nat} (hE : gx_EX E fk uq adK adV) (hc : y.1.cls = RX4) (hd : decode y.2.1 pc = .ok (.ldc 200, 2)) : gS E l y d (pc, ls, st, G, μ) (pc + 2, ls, .ref (adK 20) :: st, G, μ) := s_ldcS hE hd 20 (by decide) (by decide) hc
theorem sk_21 {E : gx_E} {l : Launch} {y : gx_Y} {d pc : Nat} {ls : List (Option Value)} {st : List Value} {G : gx_G} {μ : gx_M} {fk : Nat} {uq : Option Nat} {adK adV : Nat → Nat} (hE : gx_EX E fk uq adK adV) (hc : y.1.cls = RX4) (hd : decode y.2.1 pc = .ok (.ldc 202, 2)) : gS E l y d (pc, ls, st, G, μ) (pc + 2, ls, .ref (adK 21) :: st, G, μ) := s_ldcS hE hd 21 (by decide) (by decide) hc
theorem sk_22 {E : gx_E} {l : Launch} {y : gx_Y} {d pc : Nat} {ls : List (Option Value)} {st : List Value} {G : gx_G} {μ : gx_M} {fk : Nat} {uq : Option Nat} {adK adV : Nat → Nat} (hE : gx_EX E fk uq adK adV) (hc : y.1.cls = RX4) (hd : decode y.2.1 pc = .ok (.ldc 204, 2)) : gS E l y d (pc, ls, st, G, μ) (pc + 2, ls, .ref (adK 22) :: st, G, μ) := s_ldcS hE hd 22 (by decide) (by decide) hc
theorem sk_23 {E : gx_E} {l : Launch} {y : gx_Y} {d pc : Nat} {ls : List (Option Value)} {st : List Value} {G : gx_G} {μ : gx_M} {fk : Nat} {uq : Option Nat} {adK adV : Nat → Nat} (hE : gx_EX E fk uq adK adV) (hc : y.1.cls = RX4) (hd : decode y.2.1 pc = .ok (.ldc 206, 2)) : gS E l y d (pc, ls, st, G, μ) (pc + 2, ls, .ref (adK 23) :: st, G, μ) := s_ldcS hE hd 23 (by decide) (by decide) hc
theorem sk_24 {E : gx_E} {l : Launch} {y : gx_Y} {d pc : Nat} {ls : List (Option Value)} {st : List Value} {G : gx_G} {μ : gx_M} {fk : Nat} {uq : Option Nat} {adK adV : Nat → Nat} (hE : gx_EX E fk uq adK adV) (hc : y.1.cls = RX4) (hd : decode y.2.1 pc = .ok (.ldc 208, 2)) : gS E l y d (pc, ls, st, G, μ) (pc + 2, ls, .ref (adK 24) :: st, G, μ) := s_ldcS hE hd 24 (by decide) (by decide) hc
theorem sk_25 {E : gx_E} {l : Launch} {y : gx_Y} {d pc : Nat} {ls : List (Option Value)} {st : List Value} {G : gx_G} {μ : gx_M} {fk : Nat} {uq : Option Nat} {adK adV : Nat → Nat} (hE : gx_EX E fk uq adK adV) (hc : y.1.cls = RX4) (hd : decode y.2.1 pc = .ok (.ldc 210, 2)) : gS E l y d (pc, ls, st, G, μ) (pc + 2, ls, .ref (adK 25) :: st, G, μ) := s_ldcS hE hd 25 (by decide) (by decide) hc
theorem sk_26 {E : gx_E} {l : Launch} {y : gx_Y} {d pc : Nat} {ls : List (Option Value)} {st : List Value} {G : gx_G} {μ : gx_M} {fk : Nat} {uq : Option Nat} {adK adV : Nat → Nat} (hE : gx_EX E fk uq adK adV) (hc : y.1.cls = RX4) (hd : decode y.2.1 pc = .ok (.ldc 212, 2)) : gS E l y d (pc, ls, st, G, μ) (pc + 2, ls, .ref (adK 26) :: st, G, μ) := s_ldcS hE hd 26 (by decide) (by decide) hc
theorem sk_27 {E : gx_E} {l : Launch} {y : gx_Y} {d pc : Nat} {ls : List (Option Value)} {st : List Value} {G : gx_G} {μ : gx_M} {fk : Nat} {uq : Option Nat} {adK adV : Nat → Nat} (hE : gx_EX E fk uq adK adV) (hc : y.1.cls = RX4) (hd : decode y.2.1 pc = .ok (.ldc 214, 2)) : gS E l y d (pc, ls, st, G, μ) (pc + 2, ls, .ref (adK 27) :: st, G, μ) := s_ldcS hE hd 27 (by decide) (by decide) hc
theorem ss_RJ0_9 {E : gx_E} {l : Launch} {y : gx_Y} {d pc : Nat} {ls : List (Option Value)} {st : List Value} {G : gx_G} {μ : gx_M} {fk : Nat} {uq : Option Nat} {adK adV : Nat → Nat} (hE : gx_EX E fk uq adK adV) {i : Nat} (hi : i < 28) (hc : y.1.cls = RJ0) (hd : decode y.2.1 pc = .ok (.getfield 9, 3)) : gS E l y d (pc, ls, .ref (adK i) :: st, G, μ) (pc + 3, ls, .ref (adV i) :: st, G, μ) := s_sget (fun U H h => (((hE U H h).1 i hi).1 0 (by decide)).2.2.1) (by rw [hc]; exact gx_in9 81 rfl rfl) hd
theorem ss_RJ0_15 {E : gx_E} {l : Launch} {y : gx_Y} {d pc : Nat} {ls : List (Option Value)} {st : List Value} {G : gx_G} {μ : gx_M} {fk : Nat} {uq : Option Nat} {adK adV : Nat → Nat} (hE : gx_EX E fk uq adK adV) {i : Nat} (hi : i < 28) (hc : y.1.cls = RJ0) (hd : decode y.2.1 pc = .ok (.getfield 15, 3)) : gS E l y d (pc, ls, .ref (adK i) :: st, G, μ) (pc + 3, ls, .int 0 :: st, G, μ) := s_sget (fun U H h => (((hE U H h).1 i hi).1 0 (by decide)).2.1) (by rw [hc]; exact gx_in9 82 rfl rfl) hd
theorem gs_RJ0_38 {E : gx_E} {l : Launch} {y : gx_Y} {d pc : Nat} {ls : List (Option Value)} {st : List Value} {G : gx_G} {μ : gx_M} {fk : Nat} {uq : Option Nat} {adK adV : Nat → Nat} (hE : gx_EX E fk uq adK adV) (hc : y.1.cls = RJ0) (hd : decode y.2.1 pc = .ok (.getstatic 38, 3)) : gS E l y d (pc, ls, st, G, μ) (pc + 3, ls, .int 1 :: st, G, μ) := s_gets (fun U H h => (hE U H h).2.2.2.2.1) (by rw [hc]; exact gx_in3 76 rfl rfl) hd
theorem gs_RJ0_1053 {E : gx_E} {l : Launch} {y : gx_Y} {d pc : Nat} {ls : List (Option Value)} {st : List Value} {G : gx_G} {μ : gx_M} {fk : Nat} {uq : Option Nat} {adK adV : Nat → Nat} (hE : gx_EX E fk uq adK adV) (hc : y.1.cls = RJ0) (hd : decode y.2.1 pc = .ok (.getstatic 1053, 3)) : gS E l y d (pc, ls, st, G, μ) (pc + 3, ls, va_rf uq :: st, G, μ) := s_gets (fun U H h => (hE U H h).2.2.2.2.2.1) (by rw [hc]; exact gx_in3 92 rfl rfl) hd
theorem Lk_RX2_29 : gx_LC RX2 29 := ⟨gx_in3 210 rfl rfl, gx_in3 15 rfl rfl, gx_in3 14 rfl rfl, gx_in1 15 rfl rfl⟩
theorem Lk_RX5_49 : gx_LC RX5 49 := ⟨gx_in3 202 rfl rfl, gx_in3 15 rfl rfl, gx_in3 14 rfl rfl, gx_in1 15 rfl rfl⟩
theorem Lk_RX6_25 : gx_LC RX6 25 := ⟨gx_in3 215 rfl rfl, gx_in3 15 rfl rfl, gx_in3 14 rfl rfl, gx_in1 15 rfl rfl⟩
theorem Lk_RX8_20 : gx_LC RX8 20 := ⟨gx_in3 13 rfl rfl, gx_in3 15 rfl rfl, gx_in3 14 rfl rfl, gx_in1 15 rfl rfl⟩
theorem Lk_RX9_59 : gx_LC RX9 59 := ⟨gx_in3 233 rfl rfl, gx_in3 15 rfl rfl, gx_in3 14 rfl rfl, gx_in1 15 rfl rfl⟩
theorem Lk_RX11_324 : gx_LM RX11 324 Lib.MathLoose.max_long.x Lib.MathLoose.max_long.code 4 .long := ⟨gx_in5 211 rfl rfl, gx_in5 212 rfl rfl, gx_in1 20 rfl rfl, gx_in5 213 rfl rfl⟩
theorem Lk_RX0_44 : gx_LM RX0 44 Lib.MathLoose.min_long.x Lib.MathLoose.min_long.code 4 .long := ⟨gx_in4 212 rfl rfl, gx_in4 213 rfl rfl, gx_in1 20 rfl rfl, gx_in4 214 rfl rfl⟩
theorem Lk_RX2_23 : gx_LM RX2 23 Lib.Math.min.name Lib.Math.min.code 2 .int := ⟨gx_in3 207 rfl rfl, gx_in3 208 rfl rfl, gx_in1 20 rfl rfl, gx_in3 209 rfl rfl⟩
theorem Lk_RX4_231 : gx_LM RX4 231 Lib.Math.max.name Lib.Math.max.code 2 .int := ⟨gx_in3 165 rfl rfl, gx_in3 166 rfl rfl, gx_in1 20 rfl rfl, gx_in3 167 rfl rfl⟩
theorem Lk_RX5_65 : gx_LM RX5 65 Lib.Math.max.name Lib.Math.max.code 2 .int := ⟨gx_in5 124 rfl rfl, gx_in3 166 rfl rfl, gx_in1 20 rfl rfl, gx_in3 167 rfl rfl⟩
theorem Lk_RX5_71 : gx_LM RX5 71 Lib.Math.min.name Lib.Math.min.code 2 .int := ⟨gx_in5 125 rfl rfl, gx_in3 208 rfl rfl, gx_in1 20 rfl rfl, gx_in3 209 rfl rfl⟩
theorem Lk_RX7_68 : gx_LM RX7 68 Lib.Math.min.name Lib.Math.min.code 2 .int := ⟨gx_in6 8 rfl rfl, gx_in3 208 rfl rfl, gx_in1 20 rfl rfl, gx_in3 209 rfl rfl⟩
theorem Lk_RX7_73 : gx_LM RX7 73 Lib.Math.max.name Lib.Math.max.code 2 .int := ⟨gx_in6 9 rfl rfl, gx_in3 166 rfl rfl, gx_in1 20 rfl rfl, gx_in3 167 rfl rfl⟩
theorem Lk_RX9_87 : gx_LM RX9 87 Lib.Math.max.name Lib.Math.max.code 2 .int := ⟨gx_in3 216 rfl rfl, gx_in3 166 rfl rfl, gx_in1 20 rfl rfl, gx_in3 167 rfl rfl⟩
theorem LB_X11_partOfStreet (own : String) (idx : Nat) : gx_LB own idx Y_X11_partOfStreet 2 := ⟨gx_in1 1 rfl rfl, gx_in4 8 rfl rfl, ⟨by decide +kernel, by decide +kernel, by decide +kernel⟩, by decide⟩
theorem Lk_RX11_133 : gx_LS RX11 133 Y_X11_partOfStreet 2 := ⟨LB_X11_partOfStreet _ _, gx_in4 6 rfl rfl, gx_in4 7 rfl rfl⟩
theorem LB_X11_isAmong (own : String) (idx : Nat) : gx_LB own idx Y_X11_isAmong 3 := ⟨gx_in1 1 rfl rfl, gx_in4 11 rfl rfl, ⟨by decide +kernel, by decide +kernel, by decide +kernel⟩, by decide⟩
theorem Lk_RX11_137 : gx_LS RX11 137 Y_X11_isAmong 3 := ⟨LB_X11_isAmong _ _, gx_in4 9 rfl rfl, gx_in4 10 rfl rfl⟩
theorem LB_X11_waysLeft (own : String) (idx : Nat) : gx_LB own idx Y_X11_waysLeft 3 := ⟨gx_in1 1 rfl rfl, gx_in5 185 rfl rfl, ⟨by decide +kernel, by decide +kernel, by decide +kernel⟩, by decide⟩
theorem Lk_RX11_293 : gx_LS RX11 293 Y_X11_waysLeft 3 := ⟨LB_X11_waysLeft _ _, gx_in5 183 rfl rfl, gx_in5 184 rfl rfl⟩
theorem LB_X11_power (own : String) (idx : Nat) : gx_LB own idx Y_X11_power 2 := ⟨gx_in1 1 rfl rfl, gx_in5 191 rfl rfl, ⟨by decide +kernel, by decide +kernel, by decide +kernel⟩, by decide⟩
theorem Lk_RX11_299 : gx_LS RX11 299 Y_X11_power 2 := ⟨LB_X11_power _ _, gx_in5 189 rfl rfl, gx_in5 190 rfl rfl⟩
theorem LB_X11_lowest (own : String) (idx : Nat) : gx_LB own idx Y_X11_lowest 3 := ⟨gx_in1 1 rfl rfl, gx_in5 195 rfl rfl, ⟨by decide +kernel, by decide +kernel, by decide +kernel⟩, by decide⟩
theorem Lk_RX11_303 : gx_LS RX11 303 Y_X11_lowest 3 := ⟨LB_X11_lowest _ _, gx_in5 193 rfl rfl, gx_in5 194 rfl rfl⟩
theorem LB_X11_picks (own : String) (idx : Nat) : gx_LB own idx Y_X11_picks 2 := ⟨gx_in1 1 rfl rfl, gx_in5 188 rfl rfl, ⟨by decide +kernel, by decide +kernel, by decide +kernel⟩, by decide⟩
theorem Lk_RX11_309 : gx_LS RX11 309 Y_X11_picks 2 := ⟨LB_X11_picks _ _, gx_in5 186 rfl rfl, gx_in5 187 rfl rfl⟩
theorem LB_X11_commonDivisor (own : String) (idx : Nat) : gx_LB own idx Y_X11_commonDivisor 2 := ⟨gx_in1 1 rfl rfl, gx_in5 198 rfl rfl, ⟨by decide +kernel, by decide +kernel, by decide +kernel⟩, by decide⟩
theorem Lk_RX11_313 : gx_LS RX11 313 Y_X11_commonDivisor 2 := ⟨LB_X11_commonDivisor _ _, gx_in5 196 rfl rfl, gx_in5 197 rfl rfl⟩
theorem LB_X11_dayBefore (own : String) (idx : Nat) : gx_LB own idx Y_X11_dayBefore 2 := ⟨gx_in1 1 rfl rfl, gx_in5 210 rfl rfl, ⟨by decide +kernel, by decide +kernel, by decide +kernel⟩, by decide⟩
theorem Lk_RX11_317 : gx_LS RX11 317 Y_X11_dayBefore 2 := ⟨LB_X11_dayBefore _ _, gx_in5 208 rfl rfl, gx_in5 209 rfl rfl⟩
theorem LB_X11_leastTaken (own : String) (idx : Nat) : gx_LB own idx Y_X11_leastTaken 2 := ⟨gx_in1 1 rfl rfl, gx_in5 216 rfl rfl, ⟨by decide +kernel, by decide +kernel, by decide +kernel⟩, by decide⟩
theorem Lk_RX11_320 : gx_LS RX11 320 Y_X11_leastTaken 2 := ⟨LB_X11_leastTaken _ _, gx_in5 214 rfl rfl, gx_in5 215 rfl rfl⟩
theorem LB_X0_rowShift (own : String) (idx : Nat) : gx_LB own idx Y_X0_rowShift 1 := ⟨gx_in1 9 rfl rfl, gx_in4 203 rfl rfl, ⟨by decide +kernel, by decide +kernel, by decide +kernel⟩, by decide⟩
theorem Lk_RX0_40 : gx_LS RX0 40 Y_X0_rowShift 1 := ⟨LB_X0_rowShift _ _, gx_in4 201 rfl rfl, gx_in4 202 rfl rfl⟩
theorem LB_X0_costIn (own : String) (idx : Nat) : gx_LB own idx Y_X0_costIn 1 := ⟨gx_in1 9 rfl rfl, gx_in4 217 rfl rfl, ⟨by decide +kernel, by decide +kernel, by decide +kernel⟩, by decide⟩
theorem Lk_RX0_54 : gx_LS RX0 54 Y_X0_costIn 1 := ⟨LB_X0_costIn _ _, gx_in4 215 rfl rfl, gx_in4 216 rfl rfl⟩
theorem LB_X0_firstIn (own : String) (idx : Nat) : gx_LB own idx Y_X0_firstIn 2 := ⟨gx_in1 9 rfl rfl, gx_in4 224 rfl rfl, ⟨by decide +kernel, by decide +kernel, by decide +kernel⟩, by decide⟩
theorem Lk_RX0_58 : gx_LS RX0 58 Y_X0_firstIn 2 := ⟨LB_X0_firstIn _ _, gx_in4 222 rfl rfl, gx_in4 223 rfl rfl⟩
theorem LB_J7_fill_d0a16 (own : String) (idx : Nat) : gx_LB own idx Y_J7_fill_d0a16 2 := ⟨gx_in1 14 rfl rfl, gx_in5 7 rfl rfl, ⟨by decide +kernel, by decide +kernel, by decide +kernel⟩, by decide⟩
theorem Lk_RX0_69 : gx_LS RX0 69 Y_J7_fill_d0a16 2 := ⟨LB_J7_fill_d0a16 _ _, gx_in5 5 rfl rfl, gx_in5 6 rfl rfl⟩
theorem LB_X0_lower (own : String) (idx : Nat) : gx_LB own idx Y_X0_lower 3 := ⟨gx_in1 9 rfl rfl, gx_in5 15 rfl rfl, ⟨by decide +kernel, by decide +kernel, by decide +kernel⟩, by decide⟩
theorem Lk_RX0_83 : gx_LS RX0 83 Y_X0_lower 3 := ⟨LB_X0_lower _ _, gx_in5 13 rfl rfl, gx_in5 14 rfl rfl⟩
theorem LB_X0_behind (own : String) (idx : Nat) : gx_LB own idx Y_X0_behind 4 := ⟨gx_in1 9 rfl rfl, gx_in5 18 rfl rfl, ⟨by decide +kernel, by decide +kernel, by decide +kernel⟩, by decide⟩
theorem Lk_RX0_87 : gx_LS RX0 87 Y_X0_behind 4 := ⟨LB_X0_behind _ _, gx_in5 16 rfl rfl, gx_in5 17 rfl rfl⟩
theorem LB_J6_bitCount_0f7a4 (own : String) (idx : Nat) : gx_LB own idx Y_J6_bitCount_0f7a4 1 := ⟨gx_in1 22 rfl rfl, gx_in5 49 rfl rfl, ⟨by decide +kernel, by decide +kernel, by decide +kernel⟩, by decide⟩
theorem Lk_RX0_126 : gx_LS RX0 126 Y_J6_bitCount_0f7a4 1 := ⟨LB_J6_bitCount_0f7a4 _ _, gx_in5 47 rfl rfl, gx_in5 48 rfl rfl⟩
theorem LB_X0_firstNotHis (own : String) (idx : Nat) : gx_LB own idx Y_X0_firstNotHis 2 := ⟨gx_in1 9 rfl rfl, gx_in5 73 rfl rfl, ⟨by decide +kernel, by decide +kernel, by decide +kernel⟩, by decide⟩
theorem Lk_RX0_131 : gx_LS RX0 131 Y_X0_firstNotHis 2 := ⟨LB_X0_firstNotHis _ _, gx_in5 71 rfl rfl, gx_in5 72 rfl rfl⟩
theorem LB_X0_dearestNotHis (own : String) (idx : Nat) : gx_LB own idx Y_X0_dearestNotHis 4 := ⟨gx_in1 9 rfl rfl, gx_in5 84 rfl rfl, ⟨by decide +kernel, by decide +kernel, by decide +kernel⟩, by decide⟩
theorem Lk_RX0_151 : gx_LS RX0 151 Y_X0_dearestNotHis 4 := ⟨LB_X0_dearestNotHis _ _, gx_in5 82 rfl rfl, gx_in5 83 rfl rfl⟩
theorem LB_X1_pick (own : String) (idx : Nat) : gx_LB own idx Y_X1_pick 4 := ⟨gx_in1 10 rfl rfl, gx_in5 166 rfl rfl, ⟨by decide +kernel, by decide +kernel, by decide +kernel⟩, by decide⟩
theorem Lk_RX1_26 : gx_LS RX1 26 Y_X1_pick 4 := ⟨LB_X1_pick _ _, gx_in5 164 rfl rfl, gx_in5 165 rfl rfl⟩
theorem LB_J7_fill_53178 (own : String) (idx : Nat) : gx_LB own idx Y_J7_fill_53178 2 := ⟨gx_in1 14 rfl rfl, gx_in3 3 rfl rfl, ⟨by decide +kernel, by decide +kernel, by decide +kernel⟩, by decide⟩
theorem Lk_RX1_30 : gx_LS RX1 30 Y_J7_fill_53178 2 := ⟨LB_J7_fill_53178 _ _, gx_in5 158 rfl rfl, gx_in3 2 rfl rfl⟩
theorem Lk_RX3_40 : gx_LS RX3 40 Y_J7_fill_53178 2 := ⟨LB_J7_fill_53178 _ _, gx_in4 37 rfl rfl, gx_in3 2 rfl rfl⟩
theorem LB_X3_kindDrawn (own : String) (idx : Nat) : gx_LB own idx Y_X3_kindDrawn 1 := ⟨gx_in1 8 rfl rfl, gx_in4 175 rfl rfl, ⟨by decide +kernel, by decide +kernel, by decide +kernel⟩, by decide⟩
theorem Lk_RX3_141 : gx_LS RX3 141 Y_X3_kindDrawn 1 := ⟨LB_X3_kindDrawn _ _, gx_in4 173 rfl rfl, gx_in4 174 rfl rfl⟩
theorem LB_J13_bitCount_95d88 (own : String) (idx : Nat) : gx_LB own idx Y_J13_bitCount_95d88 1 := ⟨gx_in1 21 rfl rfl, gx_in4 131 rfl rfl, ⟨by decide +kernel, by decide +kernel, by decide +kernel⟩, by decide⟩
theorem Lk_RX3_173 : gx_LS RX3 173 Y_J13_bitCount_95d88 1 := ⟨LB_J13_bitCount_95d88 _ _, gx_in4 129 rfl rfl, gx_in4 130 rfl rfl⟩
theorem LB_X4_shapeOf (own : String) (idx : Nat) : gx_LB own idx Y_X4_shapeOf 1 := ⟨gx_in1 6 rfl rfl, gx_in3 133 rfl rfl, ⟨by decide +kernel, by decide +kernel, by decide +kernel⟩, by decide⟩
theorem Lk_RX4_119 : gx_LS RX4 119 Y_X4_shapeOf 1 := ⟨LB_X4_shapeOf _ _, gx_in3 131 rfl rfl, gx_in3 132 rfl rfl⟩
theorem LB_X4_wordOf (own : String) (idx : Nat) : gx_LB own idx Y_X4_wordOf 1 := ⟨gx_in1 6 rfl rfl, gx_in3 46 rfl rfl, ⟨by decide +kernel, by decide +kernel, by decide +kernel⟩, by decide⟩
theorem Lk_RX4_142 : gx_LS RX4 142 Y_X4_wordOf 1 := ⟨LB_X4_wordOf _ _, gx_in3 44 rfl rfl, gx_in3 45 rfl rfl⟩
theorem LB_X4_mostFurther (own : String) (idx : Nat) : gx_LB own idx Y_X4_mostFurther 2 := ⟨gx_in1 6 rfl rfl, gx_in3 126 rfl rfl, ⟨by decide +kernel, by decide +kernel, by decide +kernel⟩, by decide⟩
theorem Lk_RX4_180 : gx_LS RX4 180 Y_X4_mostFurther 2 := ⟨LB_X4_mostFurther _ _, gx_in3 124 rfl rfl, gx_in3 125 rfl rfl⟩
theorem LB_X4_leastOf (own : String) (idx : Nat) : gx_LB own idx Y_X4_leastOf 1 := ⟨gx_in1 6 rfl rfl, gx_in3 153 rfl rfl, ⟨by decide +kernel, by decide +kernel, by decide +kernel⟩, by decide⟩
theorem Lk_RX4_187 : gx_LS RX4 187 Y_X4_leastOf 1 := ⟨LB_X4_leastOf _ _, gx_in3 151 rfl rfl, gx_in3 152 rfl rfl⟩
theorem LB_X4_mostOf (own : String) (idx : Nat) : gx_LB own idx Y_X4_mostOf 1 := ⟨gx_in1 6 rfl rfl, gx_in3 156 rfl rfl, ⟨by decide +kernel, by decide +kernel, by decide +kernel⟩, by decide⟩
theorem Lk_RX4_191 : gx_LS RX4 191 Y_X4_mostOf 1 := ⟨LB_X4_mostOf _ _, gx_in3 154 rfl rfl, gx_in3 155 rfl rfl⟩
theorem LB_J7_fill_fda19 (own : String) (idx : Nat) : gx_LB own idx Y_J7_fill_fda19 4 := ⟨gx_in1 14 rfl rfl, gx_in3 170 rfl rfl, ⟨by decide +kernel, by decide +kernel, by decide +kernel⟩, by decide⟩
theorem Lk_RX4_238 : gx_LS RX4 238 Y_J7_fill_fda19 4 := ⟨LB_J7_fill_fda19 _ _, gx_in3 168 rfl rfl, gx_in3 169 rfl rfl⟩
theorem Lk_RX5_43 : gx_LS RX5 43 Y_J7_fill_53178 2 := ⟨LB_J7_fill_53178 _ _, gx_in3 1 rfl rfl, gx_in3 2 rfl rfl⟩
theorem Lk_RX6_19 : gx_LS RX6 19 Y_J7_fill_53178 2 := ⟨LB_J7_fill_53178 _ _, gx_in3 8 rfl rfl, gx_in3 2 rfl rfl⟩
theorem Lk_RX7_35 : gx_LS RX7 35 Y_J7_fill_53178 2 := ⟨LB_J7_fill_53178 _ _, gx_in5 238 rfl rfl, gx_in3 2 rfl rfl⟩
theorem LB_X8_isLetter (own : String) (idx : Nat) : gx_LB own idx Y_X8_isLetter 1 := ⟨gx_in1 7 rfl rfl, gx_in3 26 rfl rfl, ⟨by decide +kernel, by decide +kernel, by decide +kernel⟩, by decide⟩
theorem Lk_RX8_40 : gx_LS RX8 40 Y_X8_isLetter 1 := ⟨LB_X8_isLetter _ _, gx_in3 24 rfl rfl, gx_in3 25 rfl rfl⟩
theorem LB_X8_isDigit (own : String) (idx : Nat) : gx_LB own idx Y_X8_isDigit 1 := ⟨gx_in1 7 rfl rfl, gx_in3 33 rfl rfl, ⟨by decide +kernel, by decide +kernel, by decide +kernel⟩, by decide⟩
theorem Lk_RX8_47 : gx_LS RX8 47 Y_X8_isDigit 1 := ⟨LB_X8_isDigit _ _, gx_in3 31 rfl rfl, gx_in3 32 rfl rfl⟩
theorem Lk_RX10_21 : gx_LS RX10 21 Y_J7_fill_53178 2 := ⟨LB_J7_fill_53178 _ _, gx_in6 42 rfl rfl, gx_in3 2 rfl rfl⟩
theorem LB_J1_charAt_3b067 (own : String) (idx : Nat) : gx_LB own idx Y_J1_charAt_3b067 2 := ⟨gx_in1 17 rfl rfl, gx_in3 88 rfl rfl, ⟨by decide +kernel, by decide +kernel, by decide +kernel⟩, by decide⟩
theorem Lk_RJ0_495 : gx_LS RJ0 495 Y_J1_charAt_3b067 2 := ⟨LB_J1_charAt_3b067 _ _, gx_in3 86 rfl rfl, gx_in3 87 rfl rfl⟩
theorem LB_J3_checkIndex_8e157 (own : String) (idx : Nat) : gx_LB own idx Y_J3_checkIndex_8e157 3 := ⟨gx_in1 18 rfl rfl, gx_in3 96 rfl rfl, ⟨by decide +kernel, by decide +kernel, by decide +kernel⟩, by decide⟩
theorem Lk_RJ0_1059 : gx_LS RJ0 1059 Y_J3_checkIndex_8e157 3 := ⟨LB_J3_checkIndex_8e157 _ _, gx_in3 94 rfl rfl, gx_in3 95 rfl rfl⟩
theorem LB_J0_checkIndex_df160 (own : String) (idx : Nat) : gx_LB own idx Y_J0_checkIndex_df160 2 := ⟨gx_in1 16 rfl rfl, gx_in3 91 rfl rfl, ⟨by decide +kernel, by decide +kernel, by decide +kernel⟩, by decide⟩
theorem Lk_RJ1_9 : gx_LS RJ1 9 Y_J0_checkIndex_df160 2 := ⟨LB_J0_checkIndex_df160 _ _, gx_in3 89 rfl rfl, gx_in3 90 rfl rfl⟩
theorem LB_J7_rangeCheck_23922 (own : String) (idx : Nat) : gx_LB own idx Y_J7_rangeCheck_23922 3 := ⟨gx_in1 14 rfl rfl, gx_in3 173 rfl rfl, ⟨by decide +kernel, by decide +kernel, by decide +kernel⟩, by decide⟩
theorem Lk_RJ7_13 : gx_LS RJ7 13 Y_J7_rangeCheck_23922 3 := ⟨LB_J7_rangeCheck_23922 _ _, gx_in3 171 rfl rfl, gx_in3 172 rfl rfl⟩
theorem Lk_RX3_167 : gx_LSN RX3 167 Y_X11_isAmong 3 := ⟨LB_X11_isAmong _ _, ⟨"StolenHours", List.mem_of_getElem? (i := 12) rfl⟩, gx_in4 10 rfl rfl⟩
theorem LB_X9_putNumber (own : String) (idx : Nat) : gx_LB own idx Y_X9_putNumber 1 := ⟨gx_in1 2 rfl rfl, gx_in2 216 rfl rfl, ⟨by decide +kernel, by decide +kernel, by decide +kernel⟩, by decide⟩
theorem Lk_RX11_74 : gx_LV RX11 74 Y_X9_putNumber 1 := ⟨LB_X9_putNumber _ _, gx_in2 213 rfl rfl, gx_in2 214 rfl rfl, gx_in2 215 rfl rfl⟩
theorem LB_X11_placeFor (own : String) (idx : Nat) : gx_LB own idx Y_X11_placeFor 2 := ⟨gx_in1 1 rfl rfl, gx_in2 228 rfl rfl, ⟨by decide +kernel, by decide +kernel, by decide +kernel⟩, by decide⟩
theorem Lk_RX11_78 : gx_LV RX11 78 Y_X11_placeFor 2 := ⟨LB_X11_placeFor _ _, gx_in2 225 rfl rfl, gx_in2 227 rfl rfl, gx_in 0 (by decide +kernel) rfl⟩
theorem LB_X4_read (own : String) (idx : Nat) : gx_LB own idx Y_X4_read 2 := ⟨gx_in1 6 rfl rfl, gx_in2 232 rfl rfl, ⟨by decide +kernel, by decide +kernel, by decide +kernel⟩, by decide⟩
theorem Lk_RX11_88 : gx_LV RX11 88 Y_X4_read 2 := ⟨LB_X4_read _ _, gx_in2 229 rfl rfl, gx_in2 230 rfl rfl, gx_in2 231 rfl rfl⟩
theorem LB_X9_put (own : String) (idx : Nat) : gx_LB own idx Y_X9_put 3 := ⟨gx_in1 2 rfl rfl, gx_in3 197 rfl rfl, ⟨by decide +kernel, by decide +kernel, by decide +kernel⟩, by decide⟩
theorem Lk_RX11_94 : gx_LV RX11 94 Y_X9_put 3 := ⟨LB_X9_put _ _, gx_in3 194 rfl rfl, gx_in3 195 rfl rfl, gx_in3 196 rfl rfl⟩
theorem LB_X9_copyFrom (own : String) (idx : Nat) : gx_LB own idx Y_X9_copyFrom 1 := ⟨gx_in1 2 rfl rfl, gx_in3 232 rfl rfl, ⟨by decide +kernel, by decide +kernel, by decide +kernel⟩, by decide⟩
theorem Lk_RX11_101 : gx_LV RX11 101 Y_X9_copyFrom 1 := ⟨LB_X9_copyFrom _ _, gx_in3 229 rfl rfl, gx_in3 230 rfl rfl, gx_in3 231 rfl rfl⟩
theorem LB_X11_hasStreet (own : String) (idx : Nat) : gx_LB own idx Y_X11_hasStreet 1 := ⟨gx_in1 1 rfl rfl, gx_in4 5 rfl rfl, ⟨by decide +kernel, by decide +kernel, by decide +kernel⟩, by decide⟩
theorem Lk_RX11_105 : gx_LV RX11 105 Y_X11_hasStreet 1 := ⟨LB_X11_hasStreet _ _, gx_in4 2 rfl rfl, gx_in4 4 rfl rfl, gx_in 16 (by decide +kernel) rfl⟩
theorem LB_X5_hasPerson (own : String) (idx : Nat) : gx_LB own idx Y_X5_hasPerson 1 := ⟨gx_in1 3 rfl rfl, gx_in4 54 rfl rfl, ⟨by decide +kernel, by decide +kernel, by decide +kernel⟩, by decide⟩
theorem Lk_RX11_113 : gx_LV RX11 113 Y_X5_hasPerson 1 := ⟨LB_X5_hasPerson _ _, gx_in4 188 rfl rfl, gx_in4 52 rfl rfl, gx_in4 53 rfl rfl⟩
theorem LB_X11_hasPerson (own : String) (idx : Nat) : gx_LB own idx Y_X11_hasPerson 2 := ⟨gx_in1 1 rfl rfl, gx_in4 187 rfl rfl, ⟨by decide +kernel, by decide +kernel, by decide +kernel⟩, by decide⟩
theorem Lk_RX11_118 : gx_LV RX11 118 Y_X11_hasPerson 2 := ⟨LB_X11_hasPerson _ _, gx_in4 184 rfl rfl, gx_in4 186 rfl rfl, gx_in 37 (by decide +kernel) rfl⟩
theorem LB_X5_hasSet (own : String) (idx : Nat) : gx_LB own idx Y_X5_hasSet 1 := ⟨gx_in1 3 rfl rfl, gx_in4 236 rfl rfl, ⟨by decide +kernel, by decide +kernel, by decide +kernel⟩, by decide⟩
theorem Lk_RX11_121 : gx_LV RX11 121 Y_X5_hasSet 1 := ⟨LB_X5_hasSet _ _, gx_in4 233 rfl rfl, gx_in4 234 rfl rfl, gx_in4 235 rfl rfl⟩
theorem LB_X11_hasYear (own : String) (idx : Nat) : gx_LB own idx Y_X11_hasYear 1 := ⟨gx_in1 1 rfl rfl, gx_in4 19 rfl rfl, ⟨by decide +kernel, by decide +kernel, by decide +kernel⟩, by decide⟩
theorem Lk_RX11_161 : gx_LV RX11 161 Y_X11_hasYear 1 := ⟨LB_X11_hasYear _ _, gx_in4 16 rfl rfl, gx_in4 18 rfl rfl, gx_in 17 (by decide +kernel) rfl⟩
theorem LB_X2_number (own : String) (idx : Nat) : gx_LB own idx Y_X2_number 2 := ⟨gx_in1 4 rfl rfl, gx_in4 23 rfl rfl, ⟨by decide +kernel, by decide +kernel, by decide +kernel⟩, by decide⟩
theorem Lk_RX11_175 : gx_LV RX11 175 Y_X2_number 2 := ⟨LB_X2_number _ _, gx_in4 20 rfl rfl, gx_in4 21 rfl rfl, gx_in4 22 rfl rfl⟩
theorem LB_X3_live (own : String) (idx : Nat) : gx_LB own idx Y_X3_live 3 := ⟨gx_in1 8 rfl rfl, gx_in4 31 rfl rfl, ⟨by decide +kernel, by decide +kernel, by decide +kernel⟩, by decide⟩
theorem Lk_RX11_178 : gx_LV RX11 178 Y_X3_live 3 := ⟨LB_X3_live _ _, gx_in4 28 rfl rfl, gx_in4 29 rfl rfl, gx_in4 30 rfl rfl⟩
theorem LB_X3_answer (own : String) (idx : Nat) : gx_LB own idx Y_X3_answer 1 := ⟨gx_in1 8 rfl rfl, gx_in4 107 rfl rfl, ⟨by decide +kernel, by decide +kernel, by decide +kernel⟩, by decide⟩
theorem Lk_RX11_182 : gx_LV RX11 182 Y_X3_answer 1 := ⟨LB_X3_answer _ _, gx_in4 104 rfl rfl, gx_in4 105 rfl rfl, gx_in4 106 rfl rfl⟩
theorem LB_X11_till (own : String) (idx : Nat) : gx_LB own idx Y_X11_till 2 := ⟨gx_in1 1 rfl rfl, gx_in4 27 rfl rfl, ⟨by decide +kernel, by decide +kernel, by decide +kernel⟩, by decide⟩
theorem Lk_RX11_186 : gx_LV RX11 186 Y_X11_till 2 := ⟨LB_X11_till _ _, gx_in4 139 rfl rfl, gx_in4 25 rfl rfl, gx_in4 26 rfl rfl⟩
theorem LB_X3_richest (own : String) (idx : Nat) : gx_LB own idx Y_X3_richest 0 := ⟨gx_in1 8 rfl rfl, gx_in4 143 rfl rfl, ⟨by decide +kernel, by decide +kernel, by decide +kernel⟩, by decide⟩
theorem Lk_RX11_192 : gx_LV RX11 192 Y_X3_richest 0 := ⟨LB_X3_richest _ _, gx_in4 140 rfl rfl, gx_in4 141 rfl rfl, gx_in4 142 rfl rfl⟩
theorem LB_X3_victim (own : String) (idx : Nat) : gx_LB own idx Y_X3_victim 0 := ⟨gx_in1 8 rfl rfl, gx_in4 147 rfl rfl, ⟨by decide +kernel, by decide +kernel, by decide +kernel⟩, by decide⟩
theorem Lk_RX11_196 : gx_LV RX11 196 Y_X3_victim 0 := ⟨LB_X3_victim _ _, gx_in4 144 rfl rfl, gx_in4 145 rfl rfl, gx_in4 146 rfl rfl⟩
theorem LB_X3_restless (own : String) (idx : Nat) : gx_LB own idx Y_X3_restless 0 := ⟨gx_in1 8 rfl rfl, gx_in4 151 rfl rfl, ⟨by decide +kernel, by decide +kernel, by decide +kernel⟩, by decide⟩
theorem Lk_RX11_199 : gx_LV RX11 199 Y_X3_restless 0 := ⟨LB_X3_restless _ _, gx_in4 148 rfl rfl, gx_in4 149 rfl rfl, gx_in4 150 rfl rfl⟩
theorem LB_X3_timesMoved (own : String) (idx : Nat) : gx_LB own idx Y_X3_timesMoved 1 := ⟨gx_in1 8 rfl rfl, gx_in4 155 rfl rfl, ⟨by decide +kernel, by decide +kernel, by decide +kernel⟩, by decide⟩
theorem Lk_RX11_202 : gx_LV RX11 202 Y_X3_timesMoved 1 := ⟨LB_X3_timesMoved _ _, gx_in4 152 rfl rfl, gx_in4 153 rfl rfl, gx_in4 154 rfl rfl⟩
theorem LB_X3_drawDeeds (own : String) (idx : Nat) : gx_LB own idx Y_X3_drawDeeds 3 := ⟨gx_in1 8 rfl rfl, gx_in4 163 rfl rfl, ⟨by decide +kernel, by decide +kernel, by decide +kernel⟩, by decide⟩
theorem Lk_RX11_205 : gx_LV RX11 205 Y_X3_drawDeeds 3 := ⟨LB_X3_drawDeeds _ _, gx_in4 160 rfl rfl, gx_in4 161 rfl rfl, gx_in4 162 rfl rfl⟩
theorem LB_X5_hasBusiness (own : String) (idx : Nat) : gx_LB own idx Y_X5_hasBusiness 1 := ⟨gx_in1 3 rfl rfl, gx_in4 86 rfl rfl, ⟨by decide +kernel, by decide +kernel, by decide +kernel⟩, by decide⟩
theorem Lk_RX11_209 : gx_LV RX11 209 Y_X5_hasBusiness 1 := ⟨LB_X5_hasBusiness _ _, gx_in4 189 rfl rfl, gx_in4 84 rfl rfl, gx_in4 85 rfl rfl⟩
theorem LB_X0_weighRuns (own : String) (idx : Nat) : gx_LB own idx Y_X0_weighRuns 3 := ⟨gx_in1 9 rfl rfl, gx_in4 194 rfl rfl, ⟨by decide +kernel, by decide +kernel, by decide +kernel⟩, by decide⟩
theorem Lk_RX11_214 : gx_LV RX11 214 Y_X0_weighRuns 3 := ⟨LB_X0_weighRuns _ _, gx_in4 191 rfl rfl, gx_in4 192 rfl rfl, gx_in4 193 rfl rfl⟩
theorem LB_X0_bestCost (own : String) (idx : Nat) : gx_LB own idx Y_X0_bestCost 2 := ⟨gx_in1 9 rfl rfl, gx_in4 207 rfl rfl, ⟨by decide +kernel, by decide +kernel, by decide +kernel⟩, by decide⟩
theorem Lk_RX11_218 : gx_LV RX11 218 Y_X0_bestCost 2 := ⟨LB_X0_bestCost _ _, gx_in4 204 rfl rfl, gx_in4 205 rfl rfl, gx_in4 206 rfl rfl⟩
theorem LB_X0_bestFirst (own : String) (idx : Nat) : gx_LB own idx Y_X0_bestFirst 2 := ⟨gx_in1 9 rfl rfl, gx_in4 221 rfl rfl, ⟨by decide +kernel, by decide +kernel, by decide +kernel⟩, by decide⟩
theorem Lk_RX11_221 : gx_LV RX11 221 Y_X0_bestFirst 2 := ⟨LB_X0_bestFirst _ _, gx_in4 218 rfl rfl, gx_in4 219 rfl rfl, gx_in4 220 rfl rfl⟩
theorem LB_X11_hasPersonAndSet (own : String) (idx : Nat) : gx_LB own idx Y_X11_hasPersonAndSet 3 := ⟨gx_in1 1 rfl rfl, gx_in4 232 rfl rfl, ⟨by decide +kernel, by decide +kernel, by decide +kernel⟩, by decide⟩
theorem Lk_RX11_224 : gx_LV RX11 224 Y_X11_hasPersonAndSet 3 := ⟨LB_X11_hasPersonAndSet _ _, gx_in4 229 rfl rfl, gx_in4 231 rfl rfl, gx_in 39 (by decide +kernel) rfl⟩
theorem LB_X0_arrange (own : String) (idx : Nat) : gx_LB own idx Y_X0_arrange 2 := ⟨gx_in1 9 rfl rfl, gx_in5 4 rfl rfl, ⟨by decide +kernel, by decide +kernel, by decide +kernel⟩, by decide⟩
theorem Lk_RX11_227 : gx_LV RX11 227 Y_X0_arrange 2 := ⟨LB_X0_arrange _ _, gx_in5 1 rfl rfl, gx_in5 2 rfl rfl, gx_in5 3 rfl rfl⟩
theorem LB_X0_costOfSet (own : String) (idx : Nat) : gx_LB own idx Y_X0_costOfSet 2 := ⟨gx_in1 9 rfl rfl, gx_in5 22 rfl rfl, ⟨by decide +kernel, by decide +kernel, by decide +kernel⟩, by decide⟩
theorem Lk_RX11_231 : gx_LV RX11 231 Y_X0_costOfSet 2 := ⟨LB_X0_costOfSet _ _, gx_in5 19 rfl rfl, gx_in5 20 rfl rfl, gx_in5 21 rfl rfl⟩
theorem LB_X0_firstMinuteIn (own : String) (idx : Nat) : gx_LB own idx Y_X0_firstMinuteIn 3 := ⟨gx_in1 9 rfl rfl, gx_in5 26 rfl rfl, ⟨by decide +kernel, by decide +kernel, by decide +kernel⟩, by decide⟩
theorem Lk_RX11_234 : gx_LV RX11 234 Y_X0_firstMinuteIn 3 := ⟨LB_X0_firstMinuteIn _ _, gx_in5 23 rfl rfl, gx_in5 24 rfl rfl, gx_in5 25 rfl rfl⟩
theorem LB_X0_choose (own : String) (idx : Nat) : gx_LB own idx Y_X0_choose 3 := ⟨gx_in1 9 rfl rfl, gx_in5 35 rfl rfl, ⟨by decide +kernel, by decide +kernel, by decide +kernel⟩, by decide⟩
theorem Lk_RX11_238 : gx_LV RX11 238 Y_X0_choose 3 := ⟨LB_X0_choose _ _, gx_in5 32 rfl rfl, gx_in5 33 rfl rfl, gx_in5 34 rfl rfl⟩
theorem LB_X5_hasMinute (own : String) (idx : Nat) : gx_LB own idx Y_X5_hasMinute 1 := ⟨gx_in1 3 rfl rfl, gx_in4 58 rfl rfl, ⟨by decide +kernel, by decide +kernel, by decide +kernel⟩, by decide⟩
theorem Lk_RX11_247 : gx_LV RX11 247 Y_X5_hasMinute 1 := ⟨LB_X5_hasMinute _ _, gx_in5 61 rfl rfl, gx_in4 56 rfl rfl, gx_in4 57 rfl rfl⟩
theorem LB_X0_give (own : String) (idx : Nat) : gx_LB own idx Y_X0_give 3 := ⟨gx_in1 9 rfl rfl, gx_in5 70 rfl rfl, ⟨by decide +kernel, by decide +kernel, by decide +kernel⟩, by decide⟩
theorem Lk_RX11_252 : gx_LV RX11 252 Y_X0_give 3 := ⟨LB_X0_give _ _, gx_in5 67 rfl rfl, gx_in5 68 rfl rfl, gx_in5 69 rfl rfl⟩
theorem LB_X5_held (own : String) (idx : Nat) : gx_LB own idx Y_X5_held 1 := ⟨gx_in1 3 rfl rfl, gx_in4 128 rfl rfl, ⟨by decide +kernel, by decide +kernel, by decide +kernel⟩, by decide⟩
theorem Lk_RX11_261 : gx_LV RX11 261 Y_X5_held 1 := ⟨LB_X5_held _ _, gx_in5 89 rfl rfl, gx_in4 126 rfl rfl, gx_in4 127 rfl rfl⟩
theorem LB_X0_lastUsed (own : String) (idx : Nat) : gx_LB own idx Y_X0_lastUsed 2 := ⟨gx_in1 9 rfl rfl, gx_in5 93 rfl rfl, ⟨by decide +kernel, by decide +kernel, by decide +kernel⟩, by decide⟩
theorem Lk_RX11_265 : gx_LV RX11 265 Y_X0_lastUsed 2 := ⟨LB_X0_lastUsed _ _, gx_in5 90 rfl rfl, gx_in5 91 rfl rfl, gx_in5 92 rfl rfl⟩
theorem LB_X0_atRank (own : String) (idx : Nat) : gx_LB own idx Y_X0_atRank 2 := ⟨gx_in1 9 rfl rfl, gx_in5 101 rfl rfl, ⟨by decide +kernel, by decide +kernel, by decide +kernel⟩, by decide⟩
theorem Lk_RX11_268 : gx_LV RX11 268 Y_X0_atRank 2 := ⟨LB_X0_atRank _ _, gx_in5 98 rfl rfl, gx_in5 99 rfl rfl, gx_in5 100 rfl rfl⟩
theorem LB_X5_possible (own : String) (idx : Nat) : gx_LB own idx Y_X5_possible 1 := ⟨gx_in1 3 rfl rfl, gx_in5 114 rfl rfl, ⟨by decide +kernel, by decide +kernel, by decide +kernel⟩, by decide⟩
theorem Lk_RX11_271 : gx_LV RX11 271 Y_X5_possible 1 := ⟨LB_X5_possible _ _, gx_in5 111 rfl rfl, gx_in5 112 rfl rfl, gx_in5 113 rfl rfl⟩
theorem LB_X5_runsOver (own : String) (idx : Nat) : gx_LB own idx Y_X5_runsOver 1 := ⟨gx_in1 3 rfl rfl, gx_in5 123 rfl rfl, ⟨by decide +kernel, by decide +kernel, by decide +kernel⟩, by decide⟩
theorem Lk_RX11_275 : gx_LV RX11 275 Y_X5_runsOver 1 := ⟨LB_X5_runsOver _ _, gx_in5 120 rfl rfl, gx_in5 121 rfl rfl, gx_in5 122 rfl rfl⟩
theorem LB_X11_bestTaking (own : String) (idx : Nat) : gx_LB own idx Y_X11_bestTaking 2 := ⟨gx_in1 1 rfl rfl, gx_in5 133 rfl rfl, ⟨by decide +kernel, by decide +kernel, by decide +kernel⟩, by decide⟩
theorem Lk_RX11_278 : gx_LV RX11 278 Y_X11_bestTaking 2 := ⟨LB_X11_bestTaking _ _, gx_in5 130 rfl rfl, gx_in5 132 rfl rfl, gx_in 45 (by decide +kernel) rfl⟩
theorem LB_X11_marginOf (own : String) (idx : Nat) : gx_LB own idx Y_X11_marginOf 3 := ⟨gx_in1 1 rfl rfl, gx_in5 137 rfl rfl, ⟨by decide +kernel, by decide +kernel, by decide +kernel⟩, by decide⟩
theorem Lk_RX11_281 : gx_LV RX11 281 Y_X11_marginOf 3 := ⟨LB_X11_marginOf _ _, gx_in5 134 rfl rfl, gx_in5 136 rfl rfl, gx_in 46 (by decide +kernel) rfl⟩
theorem LB_X5_minutesMask (own : String) (idx : Nat) : gx_LB own idx Y_X5_minutesMask 0 := ⟨gx_in1 3 rfl rfl, gx_in5 149 rfl rfl, ⟨by decide +kernel, by decide +kernel, by decide +kernel⟩, by decide⟩
theorem Lk_RX11_284 : gx_LV RX11 284 Y_X5_minutesMask 0 := ⟨LB_X5_minutesMask _ _, gx_in5 146 rfl rfl, gx_in5 147 rfl rfl, gx_in5 148 rfl rfl⟩
theorem LB_X1_solve (own : String) (idx : Nat) : gx_LB own idx Y_X1_solve 2 := ⟨gx_in1 10 rfl rfl, gx_in5 153 rfl rfl, ⟨by decide +kernel, by decide +kernel, by decide +kernel⟩, by decide⟩
theorem Lk_RX11_288 : gx_LV RX11 288 Y_X1_solve 2 := ⟨LB_X1_solve _ _, gx_in5 150 rfl rfl, gx_in5 151 rfl rfl, gx_in5 152 rfl rfl⟩
theorem LB_X1_answer (own : String) (idx : Nat) : gx_LB own idx Y_X1_answer 1 := ⟨gx_in1 10 rfl rfl, gx_in5 174 rfl rfl, ⟨by decide +kernel, by decide +kernel, by decide +kernel⟩, by decide⟩
theorem Lk_RX11_292 : gx_LV RX11 292 Y_X1_answer 1 := ⟨LB_X1_answer _ _, gx_in5 171 rfl rfl, gx_in5 172 rfl rfl, gx_in5 173 rfl rfl⟩
theorem LB_X11_hasLog (own : String) (idx : Nat) : gx_LB own idx Y_X11_hasLog 1 := ⟨gx_in1 1 rfl rfl, gx_in5 224 rfl rfl, ⟨by decide +kernel, by decide +kernel, by decide +kernel⟩, by decide⟩
theorem Lk_RX11_329 : gx_LV RX11 329 Y_X11_hasLog 1 := ⟨LB_X11_hasLog _ _, gx_in5 221 rfl rfl, gx_in5 223 rfl rfl, gx_in 50 (by decide +kernel) rfl⟩
theorem LB_X7_look (own : String) (idx : Nat) : gx_LB own idx Y_X7_look 1 := ⟨gx_in1 11 rfl rfl, gx_in5 232 rfl rfl, ⟨by decide +kernel, by decide +kernel, by decide +kernel⟩, by decide⟩
theorem Lk_RX11_335 : gx_LV RX11 335 Y_X7_look 1 := ⟨LB_X7_look _ _, gx_in5 229 rfl rfl, gx_in5 230 rfl rfl, gx_in5 231 rfl rfl⟩
theorem LB_X7_seek (own : String) (idx : Nat) : gx_LB own idx Y_X7_seek 0 := ⟨gx_in1 11 rfl rfl, gx_in6 13 rfl rfl, ⟨by decide +kernel, by decide +kernel, by decide +kernel⟩, by decide⟩
theorem Lk_RX11_346 : gx_LV RX11 346 Y_X7_seek 0 := ⟨LB_X7_seek _ _, gx_in6 10 rfl rfl, gx_in6 11 rfl rfl, gx_in6 12 rfl rfl⟩
theorem LB_X7_codeAt (own : String) (idx : Nat) : gx_LB own idx Y_X7_codeAt 1 := ⟨gx_in1 11 rfl rfl, gx_in6 17 rfl rfl, ⟨by decide +kernel, by decide +kernel, by decide +kernel⟩, by decide⟩
theorem Lk_RX11_349 : gx_LV RX11 349 Y_X7_codeAt 1 := ⟨LB_X7_codeAt _ _, gx_in6 14 rfl rfl, gx_in6 15 rfl rfl, gx_in6 16 rfl rfl⟩
theorem LB_X7_minutesIn (own : String) (idx : Nat) : gx_LB own idx Y_X7_minutesIn 1 := ⟨gx_in1 11 rfl rfl, gx_in6 25 rfl rfl, ⟨by decide +kernel, by decide +kernel, by decide +kernel⟩, by decide⟩
theorem Lk_RX11_358 : gx_LV RX11 358 Y_X7_minutesIn 1 := ⟨LB_X7_minutesIn _ _, gx_in6 22 rfl rfl, gx_in6 23 rfl rfl, gx_in6 24 rfl rfl⟩
theorem LB_X11_hasSwaps (own : String) (idx : Nat) : gx_LB own idx Y_X11_hasSwaps 1 := ⟨gx_in1 1 rfl rfl, gx_in6 33 rfl rfl, ⟨by decide +kernel, by decide +kernel, by decide +kernel⟩, by decide⟩
theorem Lk_RX11_361 : gx_LV RX11 361 Y_X11_hasSwaps 1 := ⟨LB_X11_hasSwaps _ _, gx_in6 30 rfl rfl, gx_in6 32 rfl rfl, gx_in 54 (by decide +kernel) rfl⟩
theorem LB_X6_worthTo (own : String) (idx : Nat) : gx_LB own idx Y_X6_worthTo 2 := ⟨gx_in1 5 rfl rfl, gx_in6 37 rfl rfl, ⟨by decide +kernel, by decide +kernel, by decide +kernel⟩, by decide⟩
theorem Lk_RX11_373 : gx_LV RX11 373 Y_X6_worthTo 2 := ⟨LB_X6_worthTo _ _, gx_in6 34 rfl rfl, gx_in6 35 rfl rfl, gx_in6 36 rfl rfl⟩
theorem LB_X10_settle (own : String) (idx : Nat) : gx_LB own idx Y_X10_settle 1 := ⟨gx_in1 12 rfl rfl, gx_in6 41 rfl rfl, ⟨by decide +kernel, by decide +kernel, by decide +kernel⟩, by decide⟩
theorem Lk_RX11_376 : gx_LV RX11 376 Y_X10_settle 1 := ⟨LB_X10_settle _ _, gx_in6 38 rfl rfl, gx_in6 39 rfl rfl, gx_in6 40 rfl rfl⟩
theorem LB_X10_gain (own : String) (idx : Nat) : gx_LB own idx Y_X10_gain 1 := ⟨gx_in1 12 rfl rfl, gx_in6 63 rfl rfl, ⟨by decide +kernel, by decide +kernel, by decide +kernel⟩, by decide⟩
theorem Lk_RX11_380 : gx_LV RX11 380 Y_X10_gain 1 := ⟨LB_X10_gain _ _, gx_in6 60 rfl rfl, gx_in6 61 rfl rfl, gx_in6 62 rfl rfl⟩
theorem LB_X10_contented (own : String) (idx : Nat) : gx_LB own idx Y_X10_contented 1 := ⟨gx_in1 12 rfl rfl, gx_in6 71 rfl rfl, ⟨by decide +kernel, by decide +kernel, by decide +kernel⟩, by decide⟩
theorem Lk_RX11_393 : gx_LV RX11 393 Y_X10_contented 1 := ⟨LB_X10_contented _ _, gx_in6 68 rfl rfl, gx_in6 69 rfl rfl, gx_in6 70 rfl rfl⟩
theorem LB_X6_pairs (own : String) (idx : Nat) : gx_LB own idx Y_X6_pairs 0 := ⟨gx_in1 5 rfl rfl, gx_in6 79 rfl rfl, ⟨by decide +kernel, by decide +kernel, by decide +kernel⟩, by decide⟩
theorem Lk_RX11_396 : gx_LV RX11 396 Y_X6_pairs 0 := ⟨LB_X6_pairs _ _, gx_in6 76 rfl rfl, gx_in6 77 rfl rfl, gx_in6 78 rfl rfl⟩
theorem LB_X10_envy (own : String) (idx : Nat) : gx_LB own idx Y_X10_envy 1 := ⟨gx_in1 12 rfl rfl, gx_in6 84 rfl rfl, ⟨by decide +kernel, by decide +kernel, by decide +kernel⟩, by decide⟩
theorem Lk_RX11_399 : gx_LV RX11 399 Y_X10_envy 1 := ⟨LB_X10_envy _ _, gx_in6 81 rfl rfl, gx_in6 82 rfl rfl, gx_in6 83 rfl rfl⟩
theorem LB_X5_goesIn (own : String) (idx : Nat) : gx_LB own idx Y_X5_goesIn 3 := ⟨gx_in1 3 rfl rfl, gx_in4 94 rfl rfl, ⟨by decide +kernel, by decide +kernel, by decide +kernel⟩, by decide⟩
theorem Lk_RX0_32 : gx_LV RX0 32 Y_X5_goesIn 3 := ⟨LB_X5_goesIn _ _, gx_in4 196 rfl rfl, gx_in4 92 rfl rfl, gx_in4 93 rfl rfl⟩
theorem LB_X5_costOfRun (own : String) (idx : Nat) : gx_LB own idx Y_X5_costOfRun 3 := ⟨gx_in1 3 rfl rfl, gx_in4 200 rfl rfl, ⟨by decide +kernel, by decide +kernel, by decide +kernel⟩, by decide⟩
theorem Lk_RX0_36 : gx_LV RX0 36 Y_X5_costOfRun 3 := ⟨LB_X5_costOfRun _ _, gx_in4 197 rfl rfl, gx_in4 198 rfl rfl, gx_in4 199 rfl rfl⟩
theorem LB_X0_bestWeight (own : String) (idx : Nat) : gx_LB own idx Y_X0_bestWeight 2 := ⟨gx_in1 9 rfl rfl, gx_in4 211 rfl rfl, ⟨by decide +kernel, by decide +kernel, by decide +kernel⟩, by decide⟩
theorem Lk_RX0_50 : gx_LV RX0 50 Y_X0_bestWeight 2 := ⟨LB_X0_bestWeight _ _, gx_in4 208 rfl rfl, gx_in4 210 rfl rfl, gx_in 38 (by decide +kernel) rfl⟩
theorem Lk_RX0_62 : gx_LV RX0 62 Y_X0_bestCost 2 := ⟨LB_X0_bestCost _ _, gx_in5 102 rfl rfl, gx_in4 205 rfl rfl, gx_in4 206 rfl rfl⟩
theorem LB_X0_rankOf (own : String) (idx : Nat) : gx_LB own idx Y_X0_rankOf 2 := ⟨gx_in1 9 rfl rfl, gx_in5 106 rfl rfl, ⟨by decide +kernel, by decide +kernel, by decide +kernel⟩, by decide⟩
theorem Lk_RX0_66 : gx_LV RX0 66 Y_X0_rankOf 2 := ⟨LB_X0_rankOf _ _, gx_in5 103 rfl rfl, gx_in5 105 rfl rfl, gx_in 44 (by decide +kernel) rfl⟩
theorem LB_X5_subsets (own : String) (idx : Nat) : gx_LB own idx Y_X5_subsets 0 := ⟨gx_in1 3 rfl rfl, gx_in5 0 rfl rfl, ⟨by decide +kernel, by decide +kernel, by decide +kernel⟩, by decide⟩
theorem Lk_RX0_75 : gx_LV RX0 75 Y_X5_subsets 0 := ⟨LB_X5_subsets _ _, gx_in5 8 rfl rfl, gx_in4 238 rfl rfl, gx_in4 239 rfl rfl⟩
theorem LB_X0_goOn (own : String) (idx : Nat) : gx_LB own idx Y_X0_goOn 5 := ⟨gx_in1 9 rfl rfl, gx_in5 12 rfl rfl, ⟨by decide +kernel, by decide +kernel, by decide +kernel⟩, by decide⟩
theorem Lk_RX0_79 : gx_LV RX0 79 Y_X0_goOn 5 := ⟨LB_X0_goOn _ _, gx_in5 9 rfl rfl, gx_in5 11 rfl rfl, gx_in 40 (by decide +kernel) rfl⟩
theorem Lk_RX0_95 : gx_LV RX0 95 Y_X5_hasBusiness 1 := ⟨LB_X5_hasBusiness _ _, gx_in5 27 rfl rfl, gx_in4 84 rfl rfl, gx_in4 85 rfl rfl⟩
theorem Lk_RX0_99 : gx_LV RX0 99 Y_X0_weighRuns 3 := ⟨LB_X0_weighRuns _ _, gx_in5 36 rfl rfl, gx_in4 192 rfl rfl, gx_in4 193 rfl rfl⟩
theorem Lk_RX0_103 : gx_LV RX0 103 Y_X0_arrange 2 := ⟨LB_X0_arrange _ _, gx_in5 37 rfl rfl, gx_in5 2 rfl rfl, gx_in5 3 rfl rfl⟩
theorem Lk_RX0_113 : gx_LV RX0 113 Y_X0_costOfSet 2 := ⟨LB_X0_costOfSet _ _, gx_in5 38 rfl rfl, gx_in5 20 rfl rfl, gx_in5 21 rfl rfl⟩
theorem LB_X5_worthOfSet (own : String) (idx : Nat) : gx_LB own idx Y_X5_worthOfSet 1 := ⟨gx_in1 3 rfl rfl, gx_in5 42 rfl rfl, ⟨by decide +kernel, by decide +kernel, by decide +kernel⟩, by decide⟩
theorem Lk_RX0_119 : gx_LV RX0 119 Y_X5_worthOfSet 1 := ⟨LB_X5_worthOfSet _ _, gx_in5 39 rfl rfl, gx_in5 40 rfl rfl, gx_in5 41 rfl rfl⟩
theorem LB_X0_weighChoice (own : String) (idx : Nat) : gx_LB own idx Y_X0_weighChoice 2 := ⟨gx_in1 9 rfl rfl, gx_in5 46 rfl rfl, ⟨by decide +kernel, by decide +kernel, by decide +kernel⟩, by decide⟩
theorem Lk_RX0_122 : gx_LV RX0 122 Y_X0_weighChoice 2 := ⟨LB_X0_weighChoice _ _, gx_in5 43 rfl rfl, gx_in5 45 rfl rfl, gx_in 41 (by decide +kernel) rfl⟩
theorem LB_X0_arrangeGiven (own : String) (idx : Nat) : gx_LB own idx Y_X0_arrangeGiven 3 := ⟨gx_in1 9 rfl rfl, gx_in5 77 rfl rfl, ⟨by decide +kernel, by decide +kernel, by decide +kernel⟩, by decide⟩
theorem Lk_RX0_140 : gx_LV RX0 140 Y_X0_arrangeGiven 3 := ⟨LB_X0_arrangeGiven _ _, gx_in5 74 rfl rfl, gx_in5 76 rfl rfl, gx_in 42 (by decide +kernel) rfl⟩
theorem LB_X0_giveIn (own : String) (idx : Nat) : gx_LB own idx Y_X0_giveIn 5 := ⟨gx_in1 9 rfl rfl, gx_in5 81 rfl rfl, ⟨by decide +kernel, by decide +kernel, by decide +kernel⟩, by decide⟩
theorem Lk_RX0_147 : gx_LV RX0 147 Y_X0_giveIn 5 := ⟨LB_X0_giveIn _ _, gx_in5 78 rfl rfl, gx_in5 80 rfl rfl, gx_in 43 (by decide +kernel) rfl⟩
theorem LB_X1_findRuns (own : String) (idx : Nat) : gx_LB own idx Y_X1_findRuns 2 := ⟨gx_in1 10 rfl rfl, gx_in5 157 rfl rfl, ⟨by decide +kernel, by decide +kernel, by decide +kernel⟩, by decide⟩
theorem Lk_RX1_18 : gx_LV RX1 18 Y_X1_findRuns 2 := ⟨LB_X1_findRuns _ _, gx_in5 154 rfl rfl, gx_in5 156 rfl rfl, gx_in 47 (by decide +kernel) rfl⟩
theorem Lk_RX1_44 : gx_LV RX1 44 Y_X5_goesIn 3 := ⟨LB_X5_goesIn _ _, gx_in5 159 rfl rfl, gx_in4 92 rfl rfl, gx_in4 93 rfl rfl⟩
theorem LB_X1_noteRun (own : String) (idx : Nat) : gx_LB own idx Y_X1_noteRun 2 := ⟨gx_in1 10 rfl rfl, gx_in5 163 rfl rfl, ⟨by decide +kernel, by decide +kernel, by decide +kernel⟩, by decide⟩
theorem Lk_RX1_51 : gx_LV RX1 51 Y_X1_noteRun 2 := ⟨LB_X1_noteRun _ _, gx_in5 160 rfl rfl, gx_in5 162 rfl rfl, gx_in 48 (by decide +kernel) rfl⟩
theorem LB_X1_firstUncovered (own : String) (idx : Nat) : gx_LB own idx Y_X1_firstUncovered 1 := ⟨gx_in1 10 rfl rfl, gx_in5 170 rfl rfl, ⟨by decide +kernel, by decide +kernel, by decide +kernel⟩, by decide⟩
theorem Lk_RX1_55 : gx_LV RX1 55 Y_X1_firstUncovered 1 := ⟨LB_X1_firstUncovered _ _, gx_in5 167 rfl rfl, gx_in5 169 rfl rfl, gx_in 49 (by decide +kernel) rfl⟩
theorem LB_X5_copyFrom (own : String) (idx : Nat) : gx_LB own idx Y_X5_copyFrom 1 := ⟨gx_in1 3 rfl rfl, gx_in3 201 rfl rfl, ⟨by decide +kernel, by decide +kernel, by decide +kernel⟩, by decide⟩
theorem Lk_RX3_36 : gx_LV RX3 36 Y_X5_copyFrom 1 := ⟨LB_X5_copyFrom _ _, gx_in4 36 rfl rfl, gx_in3 199 rfl rfl, gx_in3 200 rfl rfl⟩
theorem LB_X3_begin (own : String) (idx : Nat) : gx_LB own idx Y_X3_begin 1 := ⟨gx_in1 8 rfl rfl, gx_in4 35 rfl rfl, ⟨by decide +kernel, by decide +kernel, by decide +kernel⟩, by decide⟩
theorem Lk_RX3_46 : gx_LV RX3 46 Y_X3_begin 1 := ⟨LB_X3_begin _ _, gx_in4 32 rfl rfl, gx_in4 34 rfl rfl, gx_in 18 (by decide +kernel) rfl⟩
theorem Lk_RX3_57 : gx_LV RX3 57 Y_X2_number 2 := ⟨LB_X2_number _ _, gx_in4 38 rfl rfl, gx_in4 21 rfl rfl, gx_in4 22 rfl rfl⟩
theorem LB_X3_goes (own : String) (idx : Nat) : gx_LB own idx Y_X3_goes 4 := ⟨gx_in1 8 rfl rfl, gx_in4 42 rfl rfl, ⟨by decide +kernel, by decide +kernel, by decide +kernel⟩, by decide⟩
theorem Lk_RX3_61 : gx_LV RX3 61 Y_X3_goes 4 := ⟨LB_X3_goes _ _, gx_in4 39 rfl rfl, gx_in4 41 rfl rfl, gx_in 19 (by decide +kernel) rfl⟩
theorem LB_X3_buys (own : String) (idx : Nat) : gx_LB own idx Y_X3_buys 2 := ⟨gx_in1 8 rfl rfl, gx_in4 46 rfl rfl, ⟨by decide +kernel, by decide +kernel, by decide +kernel⟩, by decide⟩
theorem Lk_RX3_65 : gx_LV RX3 65 Y_X3_buys 2 := ⟨LB_X3_buys _ _, gx_in4 43 rfl rfl, gx_in4 45 rfl rfl, gx_in 20 (by decide +kernel) rfl⟩
theorem LB_X3_sells (own : String) (idx : Nat) : gx_LB own idx Y_X3_sells 2 := ⟨gx_in1 8 rfl rfl, gx_in4 66 rfl rfl, ⟨by decide +kernel, by decide +kernel, by decide +kernel⟩, by decide⟩
theorem Lk_RX3_69 : gx_LV RX3 69 Y_X3_sells 2 := ⟨LB_X3_sells _ _, gx_in4 63 rfl rfl, gx_in4 65 rfl rfl, gx_in 23 (by decide +kernel) rfl⟩
theorem LB_X3_thinks (own : String) (idx : Nat) : gx_LB own idx Y_X3_thinks 2 := ⟨gx_in1 8 rfl rfl, gx_in4 74 rfl rfl, ⟨by decide +kernel, by decide +kernel, by decide +kernel⟩, by decide⟩
theorem Lk_RX3_72 : gx_LV RX3 72 Y_X3_thinks 2 := ⟨LB_X3_thinks _ _, gx_in4 71 rfl rfl, gx_in4 73 rfl rfl, gx_in 25 (by decide +kernel) rfl⟩
theorem LB_X3_steals (own : String) (idx : Nat) : gx_LB own idx Y_X3_steals 2 := ⟨gx_in1 8 rfl rfl, gx_in4 78 rfl rfl, ⟨by decide +kernel, by decide +kernel, by decide +kernel⟩, by decide⟩
theorem Lk_RX3_75 : gx_LV RX3 75 Y_X3_steals 2 := ⟨LB_X3_steals _ _, gx_in4 75 rfl rfl, gx_in4 77 rfl rfl, gx_in 26 (by decide +kernel) rfl⟩
theorem LB_X3_does (own : String) (idx : Nat) : gx_LB own idx Y_X3_does 3 := ⟨gx_in1 8 rfl rfl, gx_in4 82 rfl rfl, ⟨by decide +kernel, by decide +kernel, by decide +kernel⟩, by decide⟩
theorem Lk_RX3_78 : gx_LV RX3 78 Y_X3_does 3 := ⟨LB_X3_does _ _, gx_in4 79 rfl rfl, gx_in4 81 rfl rfl, gx_in 27 (by decide +kernel) rfl⟩
theorem LB_X3_changesPrice (own : String) (idx : Nat) : gx_LB own idx Y_X3_changesPrice 2 := ⟨gx_in1 8 rfl rfl, gx_in4 99 rfl rfl, ⟨by decide +kernel, by decide +kernel, by decide +kernel⟩, by decide⟩
theorem Lk_RX3_82 : gx_LV RX3 82 Y_X3_changesPrice 2 := ⟨LB_X3_changesPrice _ _, gx_in4 96 rfl rfl, gx_in4 98 rfl rfl, gx_in 29 (by decide +kernel) rfl⟩
theorem Lk_RX3_85 : gx_LV RX3 85 Y_X5_hasPerson 1 := ⟨LB_X5_hasPerson _ _, gx_in4 51 rfl rfl, gx_in4 52 rfl rfl, gx_in4 53 rfl rfl⟩
theorem Lk_RX3_89 : gx_LV RX3 89 Y_X5_hasMinute 1 := ⟨LB_X5_hasMinute _ _, gx_in4 55 rfl rfl, gx_in4 56 rfl rfl, gx_in4 57 rfl rfl⟩
theorem LB_X3_areThere (own : String) (idx : Nat) : gx_LB own idx Y_X3_areThere 2 := ⟨gx_in1 8 rfl rfl, gx_in4 50 rfl rfl, ⟨by decide +kernel, by decide +kernel, by decide +kernel⟩, by decide⟩
theorem Lk_RX3_95 : gx_LV RX3 95 Y_X3_areThere 2 := ⟨LB_X3_areThere _ _, gx_in4 47 rfl rfl, gx_in4 49 rfl rfl, gx_in 21 (by decide +kernel) rfl⟩
theorem LB_X3_moveTo (own : String) (idx : Nat) : gx_LB own idx Y_X3_moveTo 2 := ⟨gx_in1 8 rfl rfl, gx_in4 62 rfl rfl, ⟨by decide +kernel, by decide +kernel, by decide +kernel⟩, by decide⟩
theorem Lk_RX3_104 : gx_LV RX3 104 Y_X3_moveTo 2 := ⟨LB_X3_moveTo _ _, gx_in4 59 rfl rfl, gx_in4 61 rfl rfl, gx_in 22 (by decide +kernel) rfl⟩
theorem LB_X3_isFreeOf (own : String) (idx : Nat) : gx_LB own idx Y_X3_isFreeOf 2 := ⟨gx_in1 8 rfl rfl, gx_in4 70 rfl rfl, ⟨by decide +kernel, by decide +kernel, by decide +kernel⟩, by decide⟩
theorem Lk_RX3_108 : gx_LV RX3 108 Y_X3_isFreeOf 2 := ⟨LB_X3_isFreeOf _ _, gx_in4 67 rfl rfl, gx_in4 69 rfl rfl, gx_in 24 (by decide +kernel) rfl⟩
theorem Lk_RX3_111 : gx_LV RX3 111 Y_X5_hasBusiness 1 := ⟨LB_X5_hasBusiness _ _, gx_in4 83 rfl rfl, gx_in4 84 rfl rfl, gx_in4 85 rfl rfl⟩
theorem LB_X3_freeMinutes (own : String) (idx : Nat) : gx_LB own idx Y_X3_freeMinutes 1 := ⟨gx_in1 8 rfl rfl, gx_in4 90 rfl rfl, ⟨by decide +kernel, by decide +kernel, by decide +kernel⟩, by decide⟩
theorem Lk_RX3_114 : gx_LV RX3 114 Y_X3_freeMinutes 1 := ⟨LB_X3_freeMinutes _ _, gx_in4 87 rfl rfl, gx_in4 89 rfl rfl, gx_in 28 (by decide +kernel) rfl⟩
theorem Lk_RX3_118 : gx_LV RX3 118 Y_X5_goesIn 3 := ⟨LB_X5_goesIn _ _, gx_in4 91 rfl rfl, gx_in4 92 rfl rfl, gx_in4 93 rfl rfl⟩
theorem LB_X3_drawDeed (own : String) (idx : Nat) : gx_LB own idx Y_X3_drawDeed 0 := ⟨gx_in1 8 rfl rfl, gx_in4 167 rfl rfl, ⟨by decide +kernel, by decide +kernel, by decide +kernel⟩, by decide⟩
theorem Lk_RX3_134 : gx_LV RX3 134 Y_X3_drawDeed 0 := ⟨LB_X3_drawDeed _ _, gx_in4 164 rfl rfl, gx_in4 166 rfl rfl, gx_in 34 (by decide +kernel) rfl⟩
theorem LB_X3_draw (own : String) (idx : Nat) : gx_LB own idx Y_X3_draw 1 := ⟨gx_in1 8 rfl rfl, gx_in4 171 rfl rfl, ⟨by decide +kernel, by decide +kernel, by decide +kernel⟩, by decide⟩
theorem Lk_RX3_137 : gx_LV RX3 137 Y_X3_draw 1 := ⟨LB_X3_draw _ _, gx_in4 168 rfl rfl, gx_in4 170 rfl rfl, gx_in 35 (by decide +kernel) rfl⟩
theorem LB_X3_drawDo (own : String) (idx : Nat) : gx_LB own idx Y_X3_drawDo 0 := ⟨gx_in1 8 rfl rfl, gx_in4 179 rfl rfl, ⟨by decide +kernel, by decide +kernel, by decide +kernel⟩, by decide⟩
theorem Lk_RX3_144 : gx_LV RX3 144 Y_X3_drawDo 0 := ⟨LB_X3_drawDo _ _, gx_in4 176 rfl rfl, gx_in4 178 rfl rfl, gx_in 36 (by decide +kernel) rfl⟩
theorem LB_X3_usedMinutes (own : String) (idx : Nat) : gx_LB own idx Y_X3_usedMinutes 0 := ⟨gx_in1 8 rfl rfl, gx_in4 111 rfl rfl, ⟨by decide +kernel, by decide +kernel, by decide +kernel⟩, by decide⟩
theorem Lk_RX3_154 : gx_LV RX3 154 Y_X3_usedMinutes 0 := ⟨LB_X3_usedMinutes _ _, gx_in4 108 rfl rfl, gx_in4 110 rfl rfl, gx_in 30 (by decide +kernel) rfl⟩
theorem LB_X3_doneBusiness (own : String) (idx : Nat) : gx_LB own idx Y_X3_doneBusiness 0 := ⟨gx_in1 8 rfl rfl, gx_in4 115 rfl rfl, ⟨by decide +kernel, by decide +kernel, by decide +kernel⟩, by decide⟩
theorem Lk_RX3_158 : gx_LV RX3 158 Y_X3_doneBusiness 0 := ⟨LB_X3_doneBusiness _ _, gx_in4 112 rfl rfl, gx_in4 114 rfl rfl, gx_in 31 (by decide +kernel) rfl⟩
theorem LB_X3_allCoins (own : String) (idx : Nat) : gx_LB own idx Y_X3_allCoins 0 := ⟨gx_in1 8 rfl rfl, gx_in4 119 rfl rfl, ⟨by decide +kernel, by decide +kernel, by decide +kernel⟩, by decide⟩
theorem Lk_RX3_161 : gx_LV RX3 161 Y_X3_allCoins 0 := ⟨LB_X3_allCoins _ _, gx_in4 116 rfl rfl, gx_in4 118 rfl rfl, gx_in 32 (by decide +kernel) rfl⟩
theorem LB_X3_partOfState (own : String) (idx : Nat) : gx_LB own idx Y_X3_partOfState 1 := ⟨gx_in1 8 rfl rfl, gx_in4 123 rfl rfl, ⟨by decide +kernel, by decide +kernel, by decide +kernel⟩, by decide⟩
theorem Lk_RX3_164 : gx_LV RX3 164 Y_X3_partOfState 1 := ⟨LB_X3_partOfState _ _, gx_in4 120 rfl rfl, gx_in4 122 rfl rfl, gx_in 33 (by decide +kernel) rfl⟩
theorem Lk_RX3_170 : gx_LV RX3 170 Y_X5_held 1 := ⟨LB_X5_held _ _, gx_in4 125 rfl rfl, gx_in4 126 rfl rfl, gx_in4 127 rfl rfl⟩
theorem LB_X4_clear (own : String) (idx : Nat) : gx_LB own idx Y_X4_clear 0 := ⟨gx_in1 6 rfl rfl, gx_in2 236 rfl rfl, ⟨by decide +kernel, by decide +kernel, by decide +kernel⟩, by decide⟩
theorem Lk_RX4_48 : gx_LV RX4 48 Y_X4_clear 0 := ⟨LB_X4_clear _ _, gx_in2 233 rfl rfl, gx_in2 235 rfl rfl, gx_in 1 (by decide +kernel) rfl⟩
theorem LB_X8_start (own : String) (idx : Nat) : gx_LB own idx Y_X8_start 1 := ⟨gx_in1 7 rfl rfl, gx_in3 12 rfl rfl, ⟨by decide +kernel, by decide +kernel, by decide +kernel⟩, by decide⟩
theorem Lk_RX4_51 : gx_LV RX4 51 Y_X8_start 1 := ⟨LB_X8_start _ _, gx_in3 9 rfl rfl, gx_in3 10 rfl rfl, gx_in3 11 rfl rfl⟩
theorem LB_X4_readLine (own : String) (idx : Nat) : gx_LB own idx Y_X4_readLine 1 := ⟨gx_in1 6 rfl rfl, gx_in3 19 rfl rfl, ⟨by decide +kernel, by decide +kernel, by decide +kernel⟩, by decide⟩
theorem Lk_RX4_55 : gx_LV RX4 55 Y_X4_readLine 1 := ⟨LB_X4_readLine _ _, gx_in3 16 rfl rfl, gx_in3 18 rfl rfl, gx_in 2 (by decide +kernel) rfl⟩
theorem LB_X4_tellsOfMissing (own : String) (idx : Nat) : gx_LB own idx Y_X4_tellsOfMissing 1 := ⟨gx_in1 6 rfl rfl, gx_in3 193 rfl rfl, ⟨by decide +kernel, by decide +kernel, by decide +kernel⟩, by decide⟩
theorem Lk_RX4_63 : gx_LV RX4 63 Y_X4_tellsOfMissing 1 := ⟨LB_X4_tellsOfMissing _ _, gx_in3 190 rfl rfl, gx_in3 192 rfl rfl, gx_in 15 (by decide +kernel) rfl⟩
theorem LB_X4_note (own : String) (idx : Nat) : gx_LB own idx Y_X4_note 2 := ⟨gx_in1 6 rfl rfl, gx_in3 130 rfl rfl, ⟨by decide +kernel, by decide +kernel, by decide +kernel⟩, by decide⟩
theorem Lk_RX4_69 : gx_LV RX4 69 Y_X4_note 2 := ⟨LB_X4_note _ _, gx_in3 127 rfl rfl, gx_in3 129 rfl rfl, gx_in 8 (by decide +kernel) rfl⟩
theorem LB_X5_clear (own : String) (idx : Nat) : gx_LB own idx Y_X5_clear 0 := ⟨gx_in1 3 rfl rfl, gx_in3 0 rfl rfl, ⟨by decide +kernel, by decide +kernel, by decide +kernel⟩, by decide⟩
theorem Lk_RX4_73 : gx_LV RX4 73 Y_X5_clear 0 := ⟨LB_X5_clear _ _, gx_in2 237 rfl rfl, gx_in2 238 rfl rfl, gx_in2 239 rfl rfl⟩
theorem LB_X6_clear (own : String) (idx : Nat) : gx_LB own idx Y_X6_clear 0 := ⟨gx_in1 5 rfl rfl, gx_in3 7 rfl rfl, ⟨by decide +kernel, by decide +kernel, by decide +kernel⟩, by decide⟩
theorem Lk_RX4_77 : gx_LV RX4 77 Y_X6_clear 0 := ⟨LB_X6_clear _ _, gx_in3 4 rfl rfl, gx_in3 5 rfl rfl, gx_in3 6 rfl rfl⟩
theorem LB_X8_advance (own : String) (idx : Nat) : gx_LB own idx Y_X8_advance 0 := ⟨gx_in1 7 rfl rfl, gx_in3 23 rfl rfl, ⟨by decide +kernel, by decide +kernel, by decide +kernel⟩, by decide⟩
theorem Lk_RX4_102 : gx_LV RX4 102 Y_X8_advance 0 := ⟨LB_X8_advance _ _, gx_in3 20 rfl rfl, gx_in3 21 rfl rfl, gx_in3 22 rfl rfl⟩
theorem LB_X4_kindOfLine (own : String) (idx : Nat) : gx_LB own idx Y_X4_kindOfLine 1 := ⟨gx_in1 6 rfl rfl, gx_in3 41 rfl rfl, ⟨by decide +kernel, by decide +kernel, by decide +kernel⟩, by decide⟩
theorem Lk_RX4_108 : gx_LV RX4 108 Y_X4_kindOfLine 1 := ⟨LB_X4_kindOfLine _ _, gx_in3 38 rfl rfl, gx_in3 40 rfl rfl, gx_in 5 (by decide +kernel) rfl⟩
theorem LB_X4_stopReading (own : String) (idx : Nat) : gx_LB own idx Y_X4_stopReading 0 := ⟨gx_in1 6 rfl rfl, gx_in3 119 rfl rfl, ⟨by decide +kernel, by decide +kernel, by decide +kernel⟩, by decide⟩
theorem Lk_RX4_112 : gx_LV RX4 112 Y_X4_stopReading 0 := ⟨LB_X4_stopReading _ _, gx_in3 116 rfl rfl, gx_in3 118 rfl rfl, gx_in 6 (by decide +kernel) rfl⟩
theorem LB_X4_countFurther (own : String) (idx : Nat) : gx_LB own idx Y_X4_countFurther 2 := ⟨gx_in1 6 rfl rfl, gx_in3 123 rfl rfl, ⟨by decide +kernel, by decide +kernel, by decide +kernel⟩, by decide⟩
theorem Lk_RX4_116 : gx_LV RX4 116 Y_X4_countFurther 2 := ⟨LB_X4_countFurther _ _, gx_in3 120 rfl rfl, gx_in3 122 rfl rfl, gx_in 7 (by decide +kernel) rfl⟩
theorem LB_J0_length_8abf5 (own : String) (idx : Nat) : gx_LB own idx Y_J0_length_8abf5 0 := ⟨gx_in1 16 rfl rfl, gx_in3 71 rfl rfl, ⟨by decide +kernel, by decide +kernel, by decide +kernel⟩, by decide⟩
theorem Lk_RX4_123 : gx_LV RX4 123 Y_J0_length_8abf5 0 := ⟨LB_J0_length_8abf5 _ _, gx_in3 145 rfl rfl, gx_in3 69 rfl rfl, gx_in3 70 rfl rfl⟩
theorem LB_J0_charAt_5068e (own : String) (idx : Nat) : gx_LB own idx Y_J0_charAt_5068e 1 := ⟨gx_in1 16 rfl rfl, gx_in3 81 rfl rfl, ⟨by decide +kernel, by decide +kernel, by decide +kernel⟩, by decide⟩
theorem Lk_RX4_128 : gx_LV RX4 128 Y_J0_charAt_5068e 1 := ⟨LB_J0_charAt_5068e _ _, gx_in3 146 rfl rfl, gx_in3 79 rfl rfl, gx_in3 80 rfl rfl⟩
theorem LB_X4_takeNumber (own : String) (idx : Nat) : gx_LB own idx Y_X4_takeNumber 2 := ⟨gx_in1 6 rfl rfl, gx_in3 150 rfl rfl, ⟨by decide +kernel, by decide +kernel, by decide +kernel⟩, by decide⟩
theorem Lk_RX4_132 : gx_LV RX4 132 Y_X4_takeNumber 2 := ⟨LB_X4_takeNumber _ _, gx_in3 147 rfl rfl, gx_in3 149 rfl rfl, gx_in 9 (by decide +kernel) rfl⟩
theorem LB_X4_tellLine (own : String) (idx : Nat) : gx_LB own idx Y_X4_tellLine 2 := ⟨gx_in1 6 rfl rfl, gx_in3 160 rfl rfl, ⟨by decide +kernel, by decide +kernel, by decide +kernel⟩, by decide⟩
theorem Lk_RX4_136 : gx_LV RX4 136 Y_X4_tellLine 2 := ⟨LB_X4_tellLine _ _, gx_in3 157 rfl rfl, gx_in3 159 rfl rfl, gx_in 10 (by decide +kernel) rfl⟩
theorem LB_X8_isWord (own : String) (idx : Nat) : gx_LB own idx Y_X8_isWord 1 := ⟨gx_in1 7 rfl rfl, gx_in3 67 rfl rfl, ⟨by decide +kernel, by decide +kernel, by decide +kernel⟩, by decide⟩
theorem Lk_RX4_145 : gx_LV RX4 145 Y_X8_isWord 1 := ⟨LB_X8_isWord _ _, gx_in3 64 rfl rfl, gx_in3 65 rfl rfl, gx_in3 66 rfl rfl⟩
theorem LB_X4_tellStreet (own : String) (idx : Nat) : gx_LB own idx Y_X4_tellStreet 1 := ⟨gx_in1 6 rfl rfl, gx_in3 164 rfl rfl, ⟨by decide +kernel, by decide +kernel, by decide +kernel⟩, by decide⟩
theorem Lk_RX4_216 : gx_LV RX4 216 Y_X4_tellStreet 1 := ⟨LB_X4_tellStreet _ _, gx_in3 161 rfl rfl, gx_in3 163 rfl rfl, gx_in 11 (by decide +kernel) rfl⟩
theorem LB_X4_numberOrNone (own : String) (idx : Nat) : gx_LB own idx Y_X4_numberOrNone 2 := ⟨gx_in1 6 rfl rfl, gx_in3 181 rfl rfl, ⟨by decide +kernel, by decide +kernel, by decide +kernel⟩, by decide⟩
theorem Lk_RX4_219 : gx_LV RX4 219 Y_X4_numberOrNone 2 := ⟨LB_X4_numberOrNone _ _, gx_in3 178 rfl rfl, gx_in3 180 rfl rfl, gx_in 13 (by decide +kernel) rfl⟩
theorem LB_X2_append (own : String) (idx : Nat) : gx_LB own idx Y_X2_append 4 := ⟨gx_in1 4 rfl rfl, gx_in3 185 rfl rfl, ⟨by decide +kernel, by decide +kernel, by decide +kernel⟩, by decide⟩
theorem Lk_RX4_222 : gx_LV RX4 222 Y_X2_append 4 := ⟨LB_X2_append _ _, gx_in3 182 rfl rfl, gx_in3 183 rfl rfl, gx_in3 184 rfl rfl⟩
theorem LB_X4_tellSwaps (own : String) (idx : Nat) : gx_LB own idx Y_X4_tellSwaps 1 := ⟨gx_in1 6 rfl rfl, gx_in3 189 rfl rfl, ⟨by decide +kernel, by decide +kernel, by decide +kernel⟩, by decide⟩
theorem Lk_RX4_226 : gx_LV RX4 226 Y_X4_tellSwaps 1 := ⟨LB_X4_tellSwaps _ _, gx_in3 186 rfl rfl, gx_in3 188 rfl rfl, gx_in 14 (by decide +kernel) rfl⟩
theorem LB_X4_tellBusiness (own : String) (idx : Nat) : gx_LB own idx Y_X4_tellBusiness 0 := ⟨gx_in1 6 rfl rfl, gx_in3 177 rfl rfl, ⟨by decide +kernel, by decide +kernel, by decide +kernel⟩, by decide⟩
theorem Lk_RX4_247 : gx_LV RX4 247 Y_X4_tellBusiness 0 := ⟨LB_X4_tellBusiness _ _, gx_in3 174 rfl rfl, gx_in3 176 rfl rfl, gx_in 12 (by decide +kernel) rfl⟩
theorem Lk_RX5_55 : gx_LV RX5 55 Y_X5_subsets 0 := ⟨LB_X5_subsets _ _, gx_in4 237 rfl rfl, gx_in4 238 rfl rfl, gx_in4 239 rfl rfl⟩
theorem Lk_RX5_61 : gx_LV RX5 61 Y_X5_goesIn 3 := ⟨LB_X5_goesIn _ _, gx_in5 115 rfl rfl, gx_in4 92 rfl rfl, gx_in4 93 rfl rfl⟩
theorem Lk_RX6_31 : gx_LV RX6 31 Y_X6_worthTo 2 := ⟨LB_X6_worthTo _ _, gx_in6 80 rfl rfl, gx_in6 35 rfl rfl, gx_in6 36 rfl rfl⟩
theorem LB_X7_takeFacts (own : String) (idx : Nat) : gx_LB own idx Y_X7_takeFacts 1 := ⟨gx_in1 11 rfl rfl, gx_in5 236 rfl rfl, ⟨by decide +kernel, by decide +kernel, by decide +kernel⟩, by decide⟩
theorem Lk_RX7_15 : gx_LV RX7 15 Y_X7_takeFacts 1 := ⟨LB_X7_takeFacts _ _, gx_in5 233 rfl rfl, gx_in5 235 rfl rfl, gx_in 51 (by decide +kernel) rfl⟩
theorem LB_X7_agrees (own : String) (idx : Nat) : gx_LB own idx Y_X7_agrees 2 := ⟨gx_in1 11 rfl rfl, gx_in6 2 rfl rfl, ⟨by decide +kernel, by decide +kernel, by decide +kernel⟩, by decide⟩
theorem Lk_RX7_41 : gx_LV RX7 41 Y_X7_agrees 2 := ⟨LB_X7_agrees _ _, gx_in5 239 rfl rfl, gx_in6 1 rfl rfl, gx_in 52 (by decide +kernel) rfl⟩
theorem LB_X7_takeRow (own : String) (idx : Nat) : gx_LB own idx Y_X7_takeRow 2 := ⟨gx_in1 11 rfl rfl, gx_in6 7 rfl rfl, ⟨by decide +kernel, by decide +kernel, by decide +kernel⟩, by decide⟩
theorem Lk_RX7_45 : gx_LV RX7 45 Y_X7_takeRow 2 := ⟨LB_X7_takeRow _ _, gx_in6 4 rfl rfl, gx_in6 6 rfl rfl, gx_in 53 (by decide +kernel) rfl⟩
theorem Lk_RX7_59 : gx_LV RX7 59 Y_X2_number 2 := ⟨LB_X2_number _ _, gx_in5 237 rfl rfl, gx_in4 21 rfl rfl, gx_in4 22 rfl rfl⟩
theorem LB_X8_takeWord (own : String) (idx : Nat) : gx_LB own idx Y_X8_takeWord 0 := ⟨gx_in1 7 rfl rfl, gx_in3 30 rfl rfl, ⟨by decide +kernel, by decide +kernel, by decide +kernel⟩, by decide⟩
theorem Lk_RX8_44 : gx_LV RX8 44 Y_X8_takeWord 0 := ⟨LB_X8_takeWord _ _, gx_in3 27 rfl rfl, gx_in3 29 rfl rfl, gx_in 3 (by decide +kernel) rfl⟩
theorem LB_X8_takeNumber (own : String) (idx : Nat) : gx_LB own idx Y_X8_takeNumber 0 := ⟨gx_in1 7 rfl rfl, gx_in3 37 rfl rfl, ⟨by decide +kernel, by decide +kernel, by decide +kernel⟩, by decide⟩
theorem Lk_RX8_50 : gx_LV RX8 50 Y_X8_takeNumber 0 := ⟨LB_X8_takeNumber _ _, gx_in3 34 rfl rfl, gx_in3 36 rfl rfl, gx_in 4 (by decide +kernel) rfl⟩
theorem Lk_RX8_56 : gx_LV RX8 56 Y_J0_length_8abf5 0 := ⟨LB_J0_length_8abf5 _ _, gx_in3 68 rfl rfl, gx_in3 69 rfl rfl, gx_in3 70 rfl rfl⟩
theorem Lk_RX8_61 : gx_LV RX8 61 Y_J0_charAt_5068e 1 := ⟨LB_J0_charAt_5068e _ _, gx_in3 78 rfl rfl, gx_in3 79 rfl rfl, gx_in3 80 rfl rfl⟩
theorem Lk_RX9_49 : gx_LV RX9 49 Y_X5_copyFrom 1 := ⟨LB_X5_copyFrom _ _, gx_in3 198 rfl rfl, gx_in3 199 rfl rfl, gx_in3 200 rfl rfl⟩
theorem LB_X2_copyFrom (own : String) (idx : Nat) : gx_LB own idx Y_X2_copyFrom 1 := ⟨gx_in1 4 rfl rfl, gx_in3 206 rfl rfl, ⟨by decide +kernel, by decide +kernel, by decide +kernel⟩, by decide⟩
theorem Lk_RX9_53 : gx_LV RX9 53 Y_X2_copyFrom 1 := ⟨LB_X2_copyFrom _ _, gx_in3 203 rfl rfl, gx_in3 204 rfl rfl, gx_in3 205 rfl rfl⟩
theorem LB_X6_copyFrom (own : String) (idx : Nat) : gx_LB own idx Y_X6_copyFrom 1 := ⟨gx_in1 5 rfl rfl, gx_in3 214 rfl rfl, ⟨by decide +kernel, by decide +kernel, by decide +kernel⟩, by decide⟩
theorem Lk_RX9_56 : gx_LV RX9 56 Y_X6_copyFrom 1 := ⟨LB_X6_copyFrom _ _, gx_in3 211 rfl rfl, gx_in3 212 rfl rfl, gx_in3 213 rfl rfl⟩
theorem LB_X10_pointAll (own : String) (idx : Nat) : gx_LB own idx Y_X10_pointAll 1 := ⟨gx_in1 12 rfl rfl, gx_in6 46 rfl rfl, ⟨by decide +kernel, by decide +kernel, by decide +kernel⟩, by decide⟩
theorem Lk_RX10_36 : gx_LV RX10 36 Y_X10_pointAll 1 := ⟨LB_X10_pointAll _ _, gx_in6 43 rfl rfl, gx_in6 45 rfl rfl, gx_in 55 (by decide +kernel) rfl⟩
theorem LB_X10_letGo (own : String) (idx : Nat) : gx_LB own idx Y_X10_letGo 2 := ⟨gx_in1 12 rfl rfl, gx_in6 55 rfl rfl, ⟨by decide +kernel, by decide +kernel, by decide +kernel⟩, by decide⟩
theorem Lk_RX10_40 : gx_LV RX10 40 Y_X10_letGo 2 := ⟨LB_X10_letGo _ _, gx_in6 52 rfl rfl, gx_in6 54 rfl rfl, gx_in 57 (by decide +kernel) rfl⟩
theorem LB_X10_favourite (own : String) (idx : Nat) : gx_LB own idx Y_X10_favourite 2 := ⟨gx_in1 12 rfl rfl, gx_in6 50 rfl rfl, ⟨by decide +kernel, by decide +kernel, by decide +kernel⟩, by decide⟩
theorem Lk_RX10_44 : gx_LV RX10 44 Y_X10_favourite 2 := ⟨LB_X10_favourite _ _, gx_in6 47 rfl rfl, gx_in6 49 rfl rfl, gx_in 56 (by decide +kernel) rfl⟩
theorem Lk_RX10_47 : gx_LV RX10 47 Y_X6_worthTo 2 := ⟨LB_X6_worthTo _ _, gx_in6 51 rfl rfl, gx_in6 35 rfl rfl, gx_in6 36 rfl rfl⟩
theorem LB_X10_isInRing (own : String) (idx : Nat) : gx_LB own idx Y_X10_isInRing 1 := ⟨gx_in1 12 rfl rfl, gx_in6 59 rfl rfl, ⟨by decide +kernel, by decide +kernel, by decide +kernel⟩, by decide⟩
theorem Lk_RX10_51 : gx_LV RX10 51 Y_X10_isInRing 1 := ⟨LB_X10_isInRing _ _, gx_in6 56 rfl rfl, gx_in6 58 rfl rfl, gx_in 58 (by decide +kernel) rfl⟩
theorem LB_X10_hasBest (own : String) (idx : Nat) : gx_LB own idx Y_X10_hasBest 2 := ⟨gx_in1 12 rfl rfl, gx_in6 75 rfl rfl, ⟨by decide +kernel, by decide +kernel, by decide +kernel⟩, by decide⟩
theorem Lk_RX10_55 : gx_LV RX10 55 Y_X10_hasBest 2 := ⟨LB_X10_hasBest _ _, gx_in6 72 rfl rfl, gx_in6 74 rfl rfl, gx_in 59 (by decide +kernel) rfl⟩
theorem LB_J0_coder_7d493 (own : String) (idx : Nat) : gx_LB own idx Y_J0_coder_7d493 0 := ⟨gx_in1 16 rfl rfl, gx_in3 75 rfl rfl, ⟨by decide +kernel, by decide +kernel, by decide +kernel⟩, by decide⟩
theorem Lk_RJ0_335 : gx_LV RJ0 335 Y_J0_coder_7d493 0 := ⟨LB_J0_coder_7d493 _ _, gx_in3 72 rfl rfl, gx_in3 73 rfl rfl, gx_in3 74 rfl rfl⟩
theorem LB_J0_isLatin1_aae02 (own : String) (idx : Nat) : gx_LB own idx Y_J0_isLatin1_aae02 0 := ⟨gx_in1 16 rfl rfl, gx_in3 85 rfl rfl, ⟨by decide +kernel, by decide +kernel, by decide +kernel⟩, by decide⟩
theorem Lk_RJ0_492 : gx_LV RJ0 492 Y_J0_isLatin1_aae02 0 := ⟨LB_J0_isLatin1_aae02 _ _, gx_in3 82 rfl rfl, gx_in3 83 rfl rfl, gx_in3 84 rfl rfl⟩
