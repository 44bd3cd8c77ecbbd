abbrev Y_X12_in : gx_Y := (yX12_in, cX12_in, 3, some .boolean)
abbrev Y_X12_has : gx_Y := (yX12_has, cX12_has, 2, some .boolean)
abbrev Y_X12_greater : gx_Y := (yX12_greater, cX12_greater, 2, some .int)
abbrev Y_X12_lesser : gx_Y := (yX12_lesser, cX12_lesser, 2, some .int)
abbrev Y_X12_copyRow : gx_Y := (yX12_copyRow, cX12_copyRow, 5, none)
abbrev Y_X12_four : gx_Y := (yX12_four, cX12_four, 3, none)
abbrev Y_X12_see : gx_Y := (yX12_see, cX12_see, 1, some .int)
abbrev Y_X12_fails : gx_Y := (yX12_fails, cX12_fails, 1, some .boolean)
abbrev Y_X12_later : gx_Y := (yX12_later, cX12_later, 3, none)
abbrev Y_X12_fill : gx_Y := (yX12_fill, cX12_fill, 6, none)
abbrev Y_X12_keepRow : gx_Y := (yX12_keepRow, cX12_keepRow, 5, none)
abbrev Y_X12_deedBy : gx_Y := (yX12_deedBy, cX12_deedBy, 2, some .int)
abbrev Y_X12_blank : gx_Y := (yX12_blank, cX12_blank, 3, none)
abbrev Y_X12_store : gx_Y := (yX12_store, cX12_store, 5, none)
abbrev Y_X12_fault : gx_Y := (yX12_fault, cX12_fault, 2, some .int)
abbrev Y_X12_of : gx_Y := (yX12_of, cX12_of, 2, some .int)
abbrev Y_X12_deeds : gx_Y := (yX12_deeds, cX12_deeds, 1, some .int)
abbrev Y_X12_deedOf : gx_Y := (yX12_deedOf, cX12_deedOf, 3, some .int)
abbrev Y_X12_opens : gx_Y := (yX12_opens, cX12_opens, 2, none)
abbrev Y_X12_buys : gx_Y := (yX12_buys, cX12_buys, 3, some .boolean)
abbrev Y_X12_steals : gx_Y := (yX12_steals, cX12_steals, 3, some .boolean)
abbrev Y_X12_sells : gx_Y := (yX12_sells, cX12_sells, 3, some .boolean)
abbrev Y_X12_thinks : gx_Y := (yX12_thinks, cX12_thinks, 3, some .boolean)
abbrev Y_X12_minutesOf : gx_Y := (yX12_minutesOf, cX12_minutesOf, 4, some .int)
abbrev Y_X12_ofAll : gx_Y := (yX12_ofAll, cX12_ofAll, 4, some .int)
abbrev Y_X12_cost : gx_Y := (yX12_cost, cX12_cost, 3, some .int)
abbrev Y_X12_leadBy : gx_Y := (yX12_leadBy, cX12_leadBy, 5, some .int)
abbrev Y_X12_handsOf : gx_Y := (yX12_handsOf, cX12_handsOf, 5, some .long)
abbrev Y_X12_allHit : gx_Y := (yX12_allHit, cX12_allHit, 4, some .boolean)
abbrev Y_X12_hasBit : gx_Y := (yX12_hasBit, cX12_hasBit, 3, some .boolean)
abbrev Y_X12_allMinutes : gx_Y := (yX12_allMinutes, cX12_allMinutes, 1, some .long)
abbrev Y_X12_power : gx_Y := (yX12_power, cX12_power, 6, some .long)
abbrev Y_X12_common : gx_Y := (yX12_common, cX12_common, 10, some .long)
abbrev Y_X12_factOf : gx_Y := (yX12_factOf, cX12_factOf, 3, some .int)
abbrev Y_X12_facts : gx_Y := (yX12_facts, cX12_facts, 1, some .int)
abbrev Y_X12_sureOf : gx_Y := (yX12_sureOf, cX12_sureOf, 4, some .int)
abbrev Y_X12_worthTo : gx_Y := (yX12_worthTo, cX12_worthTo, 3, some .int)
abbrev Y_X12_isInRing : gx_Y := (yX12_isInRing, cX12_isInRing, 4, some .boolean)
abbrev Y_X12_draw : gx_Y := (yX12_draw, cX12_draw, 2, some .int)
abbrev Y_X12_richest : gx_Y := (yX12_richest, cX12_richest, 3, some .int)
abbrev Y_X12_victim : gx_Y := (yX12_victim, cX12_victim, 3, some .int)
abbrev Y_X12_restless : gx_Y := (yX12_restless, cX12_restless, 3, some .int)
abbrev Y_X12_ones : gx_Y := (yX12_ones, cX12_ones, 3, some .int)
abbrev Y_X12_copyAll : gx_Y := (yX12_copyAll, cX12_copyAll, 4, none)
abbrev Y_X12_is : gx_Y := (yX12_is, cX12_is, 3, some .boolean)
abbrev Y_X12_feed : gx_Y := (yX12_feed, cX12_feed, 6, some .int)
abbrev Y_X12_end : gx_Y := (yX12_end, cX12_end, 2, some .int)
abbrev Y_X12_token : gx_Y := (yX12_token, cX12_token, 3, none)
abbrev Y_X12_full : gx_Y := (yX12_full, cX12_full, 4, none)
abbrev Y_X12_storeAll : gx_Y := (yX12_storeAll, cX12_storeAll, 3, none)
abbrev Y_X12_isMinute : gx_Y := (yX12_isMinute, cX12_isMinute, 2, some .boolean)
abbrev Y_X12_isPerson : gx_Y := (yX12_isPerson, cX12_isPerson, 2, some .boolean)
abbrev Y_X12_isTask : gx_Y := (yX12_isTask, cX12_isTask, 2, some .boolean)
abbrev Y_X12_isSet : gx_Y := (yX12_isSet, cX12_isSet, 2, some .boolean)
abbrev Y_X12_lengthOf : gx_Y := (yX12_lengthOf, cX12_lengthOf, 2, some .int)
abbrev Y_X12_ofState : gx_Y := (yX12_ofState, cX12_ofState, 4, some .int)
abbrev Y_X12_worthOf : gx_Y := (yX12_worthOf, cX12_worthOf, 4, some .int)
abbrev Y_X12_fewestHits : gx_Y := (yX12_fewestHits, cX12_fewestHits, 7, some .int)
abbrev Y_X12_part : gx_Y := (yX12_part, cX12_part, 5, some .long)
abbrev Y_X12_leftBy : gx_Y := (yX12_leftBy, cX12_leftBy, 8, some .long)
abbrev Y_X12_among : gx_Y := (yX12_among, cX12_among, 4, some .int)
abbrev Y_X12_pointOf : gx_Y := (yX12_pointOf, cX12_pointOf, 4, some .int)
abbrev Y_X12_gain : gx_Y := (yX12_gain, cX12_gain, 3, some .int)
abbrev Y_X12_happyOnes : gx_Y := (yX12_happyOnes, cX12_happyOnes, 5, some .int)
abbrev Y_X12_count : gx_Y := (yX12_count, cX12_count, 2, some .int)
abbrev Y_X12_take : gx_Y := (yX12_take, cX12_take, 4, some .boolean)
abbrev Y_X12_hand : gx_Y := (yX12_hand, cX12_hand, 3, some .boolean)
abbrev Y_X12_mayBegin : gx_Y := (yX12_mayBegin, cX12_mayBegin, 3, some .boolean)
abbrev Y_X12_hasYear : gx_Y := (yX12_hasYear, cX12_hasYear, 2, some .boolean)
abbrev Y_X12_prices : gx_Y := (yX12_prices, cX12_prices, 3, some .boolean)
abbrev Y_X12_runBits : gx_Y := (yX12_runBits, cX12_runBits, 3, some .long)
abbrev Y_X12_hitOf : gx_Y := (yX12_hitOf, cX12_hitOf, 5, some .int)
abbrev Y_X12_tin : gx_Y := (yX12_tin, cX12_tin, 5, some .long)
abbrev Y_X12_waits : gx_Y := (yX12_waits, cX12_waits, 11, some .long)
abbrev Y_X12_layLog : gx_Y := (yX12_layLog, cX12_layLog, 5, some .boolean)
abbrev Y_X12_fact : gx_Y := (yX12_fact, cX12_fact, 4, some .int)
abbrev Y_X12_seek : gx_Y := (yX12_seek, cX12_seek, 6, some .int)
abbrev Y_X12_goRound : gx_Y := (yX12_goRound, cX12_goRound, 3, some .int)
abbrev Y_X12_enough : gx_Y := (yX12_enough, cX12_enough, 4, some .int)
abbrev Y_X12_image : gx_Y := (yX12_image, cX12_image, 2, some .boolean)
abbrev Y_X12_again : gx_Y := (yX12_again, cX12_again, 2, some .boolean)
abbrev Y_X12_takeMinute : gx_Y := (yX12_takeMinute, cX12_takeMinute, 3, some .boolean)
abbrev Y_X12_takeOne : gx_Y := (yX12_takeOne, cX12_takeOne, 3, some .boolean)
abbrev Y_X12_street : gx_Y := (yX12_street, cX12_street, 5, some .int)
abbrev Y_X12_deed : gx_Y := (yX12_deed, cX12_deed, 4, some .int)
abbrev Y_X12_doesTask : gx_Y := (yX12_doesTask, cX12_doesTask, 5, some .boolean)
abbrev Y_X12_layAll : gx_Y := (yX12_layAll, cX12_layAll, 3, some .boolean)
abbrev Y_X12_runCost : gx_Y := (yX12_runCost, cX12_runCost, 6, some .int)
abbrev Y_X12_halves : gx_Y := (yX12_halves, cX12_halves, 6, some .int)
abbrev Y_X12_free : gx_Y := (yX12_free, cX12_free, 8, some .int)
abbrev Y_X12_findRuns : gx_Y := (yX12_findRuns, cX12_findRuns, 9, none)
abbrev Y_X12_fits : gx_Y := (yX12_fits, cX12_fits, 3, some .int)
abbrev Y_X12_hasSwap : gx_Y := (yX12_hasSwap, cX12_hasSwap, 3, some .boolean)
abbrev Y_X12_anyRun : gx_Y := (yX12_anyRun, cX12_anyRun, 5, some .boolean)
abbrev Y_X12_early : gx_Y := (yX12_early, cX12_early, 11, some .int)
abbrev Y_X12_span : gx_Y := (yX12_span, cX12_span, 9, some .int)
abbrev Y_X12_taskLine : gx_Y := (yX12_taskLine, cX12_taskLine, 3, some .boolean)
abbrev Y_X12_yearLine : gx_Y := (yX12_yearLine, cX12_yearLine, 6, some .boolean)
abbrev Y_X12_logLine : gx_Y := (yX12_logLine, cX12_logLine, 4, some .boolean)
abbrev Y_X12_swapLine : gx_Y := (yX12_swapLine, cX12_swapLine, 3, some .boolean)
abbrev Y_X12_does : gx_Y := (yX12_does, cX12_does, 5, some .boolean)
abbrev Y_X12_firstRun : gx_Y := (yX12_firstRun, cX12_firstRun, 7, some .int)
abbrev Y_X12_findCosts : gx_Y := (yX12_findCosts, cX12_findCosts, 7, none)
abbrev Y_X12_corner : gx_Y := (yX12_corner, cX12_corner, 4, some .int)
abbrev Y_X12_swap : gx_Y := (yX12_swap, cX12_swap, 6, some .int)
abbrev Y_X12_robbed : gx_Y := (yX12_robbed, cX12_robbed, 4, some .int)
abbrev Y_X12_shared : gx_Y := (yX12_shared, cX12_shared, 7, some .int)
abbrev Y_X12_wanted : gx_Y := (yX12_wanted, cX12_wanted, 8, some .int)
abbrev Y_X12_happy : gx_Y := (yX12_happy, cX12_happy, 9, some .int)
abbrev Y_X12_streetLine : gx_Y := (yX12_streetLine, cX12_streetLine, 5, some .boolean)
abbrev Y_X12_doesDeed : gx_Y := (yX12_doesDeed, cX12_doesDeed, 2, some .boolean)
abbrev Y_X12_run : gx_Y := (yX12_run, cX12_run, 6, some .int)
abbrev Y_X12_costOf : gx_Y := (yX12_costOf, cX12_costOf, 3, some .int)
abbrev Y_X12_planOf : gx_Y := (yX12_planOf, cX12_planOf, 6, some .int)
abbrev Y_X12_drawDeed : gx_Y := (yX12_drawDeed, cX12_drawDeed, 4, none)
abbrev Y_X12_rankCost : gx_Y := (yX12_rankCost, cX12_rankCost, 4, some .int)
abbrev Y_X12_lineOf : gx_Y := (yX12_lineOf, cX12_lineOf, 5, some .boolean)
abbrev Y_X12_play : gx_Y := (yX12_play, cX12_play, 3, some .int)
abbrev Y_X12_beginOf : gx_Y := (yX12_beginOf, cX12_beginOf, 7, some .int)
abbrev Y_X12_plan : gx_Y := (yX12_plan, cX12_plan, 5, some .int)
abbrev Y_X12_drawn : gx_Y := (yX12_drawn, cX12_drawn, 6, some .int)
abbrev Y_X12_gift : gx_Y := (yX12_gift, cX12_gift, 10, some .int)
abbrev Y_X12_missed : gx_Y := (yX12_missed, cX12_missed, 5, some .int)
abbrev Y_X12_left : gx_Y := (yX12_left, cX12_left, 3, some .int)
abbrev Y_X12_ranked : gx_Y := (yX12_ranked, cX12_ranked, 9, some .int)
abbrev Y_X12_lines : gx_Y := (yX12_lines, cX12_lines, 4, some .boolean)
abbrev Y_X12_till : gx_Y := (yX12_till, cX12_till, 3, some .int)
abbrev Y_X12_state : gx_Y := (yX12_state, cX12_state, 5, some .int)
abbrev Y_X12_errands : gx_Y := (yX12_errands, cX12_errands, 6, some .int)
abbrev Y_X12_after : gx_Y := (yX12_after, cX12_after, 5, some .int)
abbrev Y_X12_readText : gx_Y := (yX12_readText, cX12_readText, 4, some .boolean)
abbrev Y_X12_text : gx_Y := (yX12_text, cX12_text, 4, some .int)
theorem gx_out_0_3 {x : Int32} (h0 : ¬ x = 0) (h1 : ¬ x = 1) (h2 : ¬ x = 2) : x.toInt < 0 ∨ 2 < x.toInt := by
  have g0 := lv_neT h0 (a := 0) (by decide)
  have g1 := lv_neT h1 (a := 1) (by decide)
  have g2 := lv_neT h2 (a := 2) (by decide)
  omega
theorem gx_out_0_4 {x : Int32} (h0 : ¬ x = 0) (h1 : ¬ x = 1) (h2 : ¬ x = 2) (h3 : ¬ x = 3) : x.toInt < 0 ∨ 3 < x.toInt := by
  have g0 := lv_neT h0 (a := 0) (by decide)
  have g1 := lv_neT h1 (a := 1) (by decide)
  have g2 := lv_neT h2 (a := 2) (by decide)
  have g3 := lv_neT h3 (a := 3) (by decide)
  omega
theorem gx_out_0_6 {x : Int32} (h0 : ¬ x = 0) (h1 : ¬ x = 1) (h2 : ¬ x = 2) (h3 : ¬ x = 3) (h4 : ¬ x = 4) (h5 : ¬ x = 5) : x.toInt < 0 ∨ 5 < x.toInt := by
  have g0 := lv_neT h0 (a := 0) (by decide)
  have g1 := lv_neT h1 (a := 1) (by decide)
  have g2 := lv_neT h2 (a := 2) (by decide)
  have g3 := lv_neT h3 (a := 3) (by decide)
  have g4 := lv_neT h4 (a := 4) (by decide)
  have g5 := lv_neT h5 (a := 5) (by decide)
  omega
theorem gx_out_4_3 {x : Int32} (h0 : ¬ x = 4) (h1 : ¬ x = 5) (h2 : ¬ x = 6) : x.toInt < 4 ∨ 6 < x.toInt := by
  have g0 := lv_neT h0 (a := 4) (by decide)
  have g1 := lv_neT h1 (a := 5) (by decide)
  have g2 := lv_neT h2 (a := 6) (by decide)
  omega
theorem kcb_m2 : (Int8.ofInt (-2)).toInt32 = (-2) := by decide
theorem kcb_6 : (Int8.ofInt 6).toInt32 = 6 := by decide
theorem kcb_7 : (Int8.ofInt 7).toInt32 = 7 := by decide
theorem kcb_8 : (Int8.ofInt 8).toInt32 = 8 := by decide
theorem kcb_9 : (Int8.ofInt 9).toInt32 = 9 := by decide
theorem kcb_10 : (Int8.ofInt 10).toInt32 = 10 := by decide
theorem kcb_12 : (Int8.ofInt 12).toInt32 = 12 := by decide
theorem kcb_13 : (Int8.ofInt 13).toInt32 = 13 := by decide
theorem kcb_16 : (Int8.ofInt 16).toInt32 = 16 := by decide
theorem kcb_17 : (Int8.ofInt 17).toInt32 = 17 := by decide
theorem kcb_19 : (Int8.ofInt 19).toInt32 = 19 := by decide
theorem kcb_20 : (Int8.ofInt 20).toInt32 = 20 := by decide
theorem kcb_24 : (Int8.ofInt 24).toInt32 = 24 := by decide
theorem kcb_25 : (Int8.ofInt 25).toInt32 = 25 := by decide
theorem kcb_29 : (Int8.ofInt 29).toInt32 = 29 := by decide
theorem kcb_31 : (Int8.ofInt 31).toInt32 = 31 := by decide
theorem kcb_32 : (Int8.ofInt 32).toInt32 = 32 := by decide
theorem kcb_34 : (Int8.ofInt 34).toInt32 = 34 := by decide
theorem kcb_36 : (Int8.ofInt 36).toInt32 = 36 := by decide
theorem kcb_37 : (Int8.ofInt 37).toInt32 = 37 := by decide
theorem kcb_39 : (Int8.ofInt 39).toInt32 = 39 := by decide
theorem kcb_40 : (Int8.ofInt 40).toInt32 = 40 := by decide
theorem kcb_48 : (Int8.ofInt 48).toInt32 = 48 := by decide
theorem kcb_57 : (Int8.ofInt 57).toInt32 = 57 := by decide
theorem kcb_59 : (Int8.ofInt 59).toInt32 = 59 := by decide
theorem kcb_60 : (Int8.ofInt 60).toInt32 = 60 := by decide
theorem kcb_64 : (Int8.ofInt 64).toInt32 = 64 := by decide
theorem kcb_71 : (Int8.ofInt 71).toInt32 = 71 := by decide
theorem kcb_74 : (Int8.ofInt 74).toInt32 = 74 := by decide
theorem kcb_97 : (Int8.ofInt 97).toInt32 = 97 := by decide
theorem kcb_99 : (Int8.ofInt 99).toInt32 = 99 := by decide
theorem kcb_100 : (Int8.ofInt 100).toInt32 = 100 := by decide
theorem kcb_111 : (Int8.ofInt 111).toInt32 = 111 := by decide
theorem kcb_122 : (Int8.ofInt 122).toInt32 = 122 := by decide
theorem kci_m8 : Int32.ofInt (-8) = (-8) := by decide
theorem kinc_m8 (x : Int32) : x + Int32.ofInt (-8) = x + (-8) := by rw [kci_m8]
theorem kci_m1 : Int32.ofInt (-1) = (-1) := by decide
theorem kinc_m1 (x : Int32) : x + Int32.ofInt (-1) = x + (-1) := by rw [kci_m1]
theorem kci_0 : Int32.ofInt 0 = 0 := by decide
theorem kinc_0 (x : Int32) : x + Int32.ofInt 0 = x + 0 := by rw [kci_0]
theorem kci_1 : Int32.ofInt 1 = 1 := by decide
theorem kinc_1 (x : Int32) : x + Int32.ofInt 1 = x + 1 := by rw [kci_1]
theorem kci_2 : Int32.ofInt 2 = 2 := by decide
theorem kinc_2 (x : Int32) : x + Int32.ofInt 2 = x + 2 := by rw [kci_2]
theorem kci_3 : Int32.ofInt 3 = 3 := by decide
theorem kinc_3 (x : Int32) : x + Int32.ofInt 3 = x + 3 := by rw [kci_3]
theorem kci_4 : Int32.ofInt 4 = 4 := by decide
theorem kinc_4 (x : Int32) : x + Int32.ofInt 4 = x + 4 := by rw [kci_4]
theorem kci_5 : Int32.ofInt 5 = 5 := by decide
theorem kinc_5 (x : Int32) : x + Int32.ofInt 5 = x + 5 := by rw [kci_5]
theorem kcs_m1000 : (Int16.ofInt (-1000)).toInt32 = (-1000) := by decide
theorem kcs_135 : (Int16.ofInt 135).toInt32 = 135 := by decide
theorem kcs_161 : (Int16.ofInt 161).toInt32 = 161 := by decide
theorem kcs_200 : (Int16.ofInt 200).toInt32 = 200 := by decide
theorem kcs_222 : (Int16.ofInt 222).toInt32 = 222 := by decide
theorem kcs_255 : (Int16.ofInt 255).toInt32 = 255 := by decide
theorem kcs_300 : (Int16.ofInt 300).toInt32 = 300 := by decide
theorem kcs_322 : (Int16.ofInt 322).toInt32 = 322 := by decide
theorem kcs_400 : (Int16.ofInt 400).toInt32 = 400 := by decide
theorem kcs_600 : (Int16.ofInt 600).toInt32 = 600 := by decide
theorem kcs_1600 : (Int16.ofInt 1600).toInt32 = 1600 := by decide
theorem kcs_12345 : (Int16.ofInt 12345).toInt32 = 12345 := by decide
theorem kw_RX12_183 : Jvm.Cond.constantLong RX12 183 30796695599342963 ∈ gx_T := gx_in7 74 rfl rfl
theorem kw_RX12_185 : Jvm.Cond.constantLong RX12 185 123580963646565 ∈ gx_T := gx_in7 75 rfl rfl
theorem kw_RX12_187 : Jvm.Cond.constantLong RX12 187 427070942835 ∈ gx_T := gx_in7 76 rfl rfl
theorem kw_RX12_189 : Jvm.Cond.constantLong RX12 189 482955846501 ∈ gx_T := gx_in7 77 rfl rfl
theorem kw_RX12_191 : Jvm.Cond.constantLong RX12 191 6840691 ∈ gx_T := gx_in7 78 rfl rfl
theorem kw_RX12_193 : Jvm.Cond.constantLong RX12 193 7094703684652987251 ∈ gx_T := gx_in7 79 rfl rfl
theorem kw_RX12_209 : Jvm.Cond.constantLong RX12 209 6452601 ∈ gx_T := gx_in7 122 rfl rfl
theorem kw_RX12_211 : Jvm.Cond.constantLong RX12 211 499967946347 ∈ gx_T := gx_in7 123 rfl rfl
theorem kw_RX12_213 : Jvm.Cond.constantLong RX12 213 495874040172 ∈ gx_T := gx_in7 124 rfl rfl
theorem kw_RX12_215 : Jvm.Cond.constantLong RX12 215 1936026732 ∈ gx_T := gx_in7 125 rfl rfl
theorem kw_RX12_217 : Jvm.Cond.constantLong RX12 217 25711 ∈ gx_T := gx_in7 126 rfl rfl
theorem kw_RX12_219 : Jvm.Cond.constantLong RX12 219 110386589361522 ∈ gx_T := gx_in7 127 rfl rfl
theorem kw_RX12_221 : Jvm.Cond.constantLong RX12 221 27980807330096498 ∈ gx_T := gx_in7 128 rfl rfl
theorem kw_RX12_230 : Jvm.Cond.constantLong RX12 230 1735356005 ∈ gx_T := gx_in7 137 rfl rfl
theorem kw_RX12_232 : Jvm.Cond.constantLong RX12 232 499967685221 ∈ gx_T := gx_in7 138 rfl rfl
theorem kw_RX12_234 : Jvm.Cond.constantLong RX12 234 448311223411 ∈ gx_T := gx_in7 143 rfl rfl
theorem kw_RX12_236 : Jvm.Cond.constantLong RX12 236 512970880104 ∈ gx_T := gx_in7 144 rfl rfl
theorem kw_RX12_371 : Jvm.Cond.constant RX12 371 1000000 ∈ gx_T := gx_in8 37 rfl rfl
theorem kw_RX12_419 : Jvm.Cond.constantLong RX12 419 (-1) ∈ gx_T := gx_in8 119 rfl rfl
theorem kw_RX12_450 : Jvm.Cond.constantLong RX12 450 10 ∈ gx_T := gx_in8 142 rfl rfl
theorem kw_RX12_519 : Jvm.Cond.constant RX12 519 1103515245 ∈ gx_T := gx_in8 228 rfl rfl
theorem kw_RX12_533 : Jvm.Cond.constantLong RX12 533 9 ∈ gx_T := gx_in9 33 rfl rfl
theorem FRX12_7 : gx_FI RX12 7 12 1 4 := ⟨by decide, by decide, gx_in6 92 rfl rfl, by decide⟩
theorem gf_RX12_7 {E : gx_E} {l : Launch} {y : gx_Y} {d pc : Nat} {ls : List (Option Value)} {st : List Value} {μ : gx_M} (hc : y.1.cls = RX12) (hd : decode y.2.1 pc = .ok (.getfield 7, 3)) : gS E l y d (pc, ls, .ref (E.2.2.1 + 206) :: st, gx_G1, μ) (pc + 3, ls, .ref (E.2.2.1 + 207) :: st, gx_G1, μ) := s_getR hd (by rw [hc]; exact FRX12_7) g_206 rfl
theorem FRX12_13 : gx_FI RX12 13 12 2 4 := ⟨by decide, by decide, gx_in6 93 rfl rfl, by decide⟩
theorem gf_RX12_13 {E : gx_E} {l : Launch} {y : gx_Y} {d pc : Nat} {ls : List (Option Value)} {st : List Value} {μ : gx_M} (hc : y.1.cls = RX12) (hd : decode y.2.1 pc = .ok (.getfield 13, 3)) : gS E l y d (pc, ls, .ref (E.2.2.1 + 206) :: st, gx_G1, μ) (pc + 3, ls, .ref (E.2.2.1 + 208) :: st, gx_G1, μ) := s_getR hd (by rw [hc]; exact FRX12_13) g_206 rfl
theorem FRX12_17 : gx_FI RX12 17 12 3 4 := ⟨by decide, by decide, gx_in6 94 rfl rfl, by decide⟩
theorem gf_RX12_17 {E : gx_E} {l : Launch} {y : gx_Y} {d pc : Nat} {ls : List (Option Value)} {st : List Value} {μ : gx_M} (hc : y.1.cls = RX12) (hd : decode y.2.1 pc = .ok (.getfield 17, 3)) : gS E l y d (pc, ls, .ref (E.2.2.1 + 206) :: st, gx_G1, μ) (pc + 3, ls, .ref (E.2.2.1 + 209) :: st, gx_G1, μ) := s_getR hd (by rw [hc]; exact FRX12_17) g_206 rfl
theorem FRX12_20 : gx_FI RX12 20 12 4 4 := ⟨by decide, by decide, gx_in6 95 rfl rfl, by decide⟩
theorem gf_RX12_20 {E : gx_E} {l : Launch} {y : gx_Y} {d pc : Nat} {ls : List (Option Value)} {st : List Value} {μ : gx_M} (hc : y.1.cls = RX12) (hd : decode y.2.1 pc = .ok (.getfield 20, 3)) : gS E l y d (pc, ls, .ref (E.2.2.1 + 206) :: st, gx_G1, μ) (pc + 3, ls, .ref (E.2.2.1 + 210) :: st, gx_G1, μ) := s_getR hd (by rw [hc]; exact FRX12_20) g_206 rfl
theorem FRX12_23 : gx_FI RX12 23 12 5 4 := ⟨by decide, by decide, gx_in6 96 rfl rfl, by decide⟩
theorem gf_RX12_23 {E : gx_E} {l : Launch} {y : gx_Y} {d pc : Nat} {ls : List (Option Value)} {st : List Value} {μ : gx_M} (hc : y.1.cls = RX12) (hd : decode y.2.1 pc = .ok (.getfield 23, 3)) : gS E l y d (pc, ls, .ref (E.2.2.1 + 206) :: st, gx_G1, μ) (pc + 3, ls, .ref (E.2.2.1 + 211) :: st, gx_G1, μ) := s_getR hd (by rw [hc]; exact FRX12_23) g_206 rfl
theorem FRX12_26 : gx_FI RX12 26 12 6 4 := ⟨by decide, by decide, gx_in6 97 rfl rfl, by decide⟩
theorem gf_RX12_26 {E : gx_E} {l : Launch} {y : gx_Y} {d pc : Nat} {ls : List (Option Value)} {st : List Value} {μ : gx_M} (hc : y.1.cls = RX12) (hd : decode y.2.1 pc = .ok (.getfield 26, 3)) : gS E l y d (pc, ls, .ref (E.2.2.1 + 206) :: st, gx_G1, μ) (pc + 3, ls, .ref (E.2.2.1 + 212) :: st, gx_G1, μ) := s_getR hd (by rw [hc]; exact FRX12_26) g_206 rfl
theorem FRX12_29 : gx_FI RX12 29 12 7 4 := ⟨by decide, by decide, gx_in6 98 rfl rfl, by decide⟩
theorem gf_RX12_29 {E : gx_E} {l : Launch} {y : gx_Y} {d pc : Nat} {ls : List (Option Value)} {st : List Value} {μ : gx_M} (hc : y.1.cls = RX12) (hd : decode y.2.1 pc = .ok (.getfield 29, 3)) : gS E l y d (pc, ls, .ref (E.2.2.1 + 206) :: st, gx_G1, μ) (pc + 3, ls, .ref (E.2.2.1 + 213) :: st, gx_G1, μ) := s_getR hd (by rw [hc]; exact FRX12_29) g_206 rfl
theorem FRX12_32 : gx_FI RX12 32 12 8 4 := ⟨by decide, by decide, gx_in6 99 rfl rfl, by decide⟩
theorem gf_RX12_32 {E : gx_E} {l : Launch} {y : gx_Y} {d pc : Nat} {ls : List (Option Value)} {st : List Value} {μ : gx_M} (hc : y.1.cls = RX12) (hd : decode y.2.1 pc = .ok (.getfield 32, 3)) : gS E l y d (pc, ls, .ref (E.2.2.1 + 206) :: st, gx_G1, μ) (pc + 3, ls, .ref (E.2.2.1 + 214) :: st, gx_G1, μ) := s_getR hd (by rw [hc]; exact FRX12_32) g_206 rfl
theorem FRX12_35 : gx_FI RX12 35 12 9 4 := ⟨by decide, by decide, gx_in6 100 rfl rfl, by decide⟩
theorem gf_RX12_35 {E : gx_E} {l : Launch} {y : gx_Y} {d pc : Nat} {ls : List (Option Value)} {st : List Value} {μ : gx_M} (hc : y.1.cls = RX12) (hd : decode y.2.1 pc = .ok (.getfield 35, 3)) : gS E l y d (pc, ls, .ref (E.2.2.1 + 206) :: st, gx_G1, μ) (pc + 3, ls, .ref (E.2.2.1 + 215) :: st, gx_G1, μ) := s_getR hd (by rw [hc]; exact FRX12_35) g_206 rfl
theorem FRX12_38 : gx_FI RX12 38 12 19 4 := ⟨by decide, by decide, gx_in6 110 rfl rfl, by decide⟩
theorem gf_RX12_38 {E : gx_E} {l : Launch} {y : gx_Y} {d pc : Nat} {ls : List (Option Value)} {st : List Value} {μ : gx_M} (hc : y.1.cls = RX12) (hd : decode y.2.1 pc = .ok (.getfield 38, 3)) : gS E l y d (pc, ls, .ref (E.2.2.1 + 206) :: st, gx_G1, μ) (pc + 3, ls, .ref (E.2.2.1 + 216) :: st, gx_G1, μ) := s_getR hd (by rw [hc]; exact FRX12_38) g_206 rfl
theorem FRX12_41 : gx_FI RX12 41 12 20 4 := ⟨by decide, by decide, gx_in6 111 rfl rfl, by decide⟩
theorem gf_RX12_41 {E : gx_E} {l : Launch} {y : gx_Y} {d pc : Nat} {ls : List (Option Value)} {st : List Value} {μ : gx_M} (hc : y.1.cls = RX12) (hd : decode y.2.1 pc = .ok (.getfield 41, 3)) : gS E l y d (pc, ls, .ref (E.2.2.1 + 206) :: st, gx_G1, μ) (pc + 3, ls, .ref (E.2.2.1 + 217) :: st, gx_G1, μ) := s_getR hd (by rw [hc]; exact FRX12_41) g_206 rfl
theorem FRX12_44 : gx_FI RX12 44 12 28 4 := ⟨by decide, by decide, gx_in6 119 rfl rfl, by decide⟩
theorem gf_RX12_44 {E : gx_E} {l : Launch} {y : gx_Y} {d pc : Nat} {ls : List (Option Value)} {st : List Value} {μ : gx_M} (hc : y.1.cls = RX12) (hd : decode y.2.1 pc = .ok (.getfield 44, 3)) : gS E l y d (pc, ls, .ref (E.2.2.1 + 206) :: st, gx_G1, μ) (pc + 3, ls, .ref (E.2.2.1 + 218) :: st, gx_G1, μ) := s_getR hd (by rw [hc]; exact FRX12_44) g_206 rfl
theorem FRX12_47 : gx_FI RX12 47 12 29 4 := ⟨by decide, by decide, gx_in6 120 rfl rfl, by decide⟩
theorem gf_RX12_47 {E : gx_E} {l : Launch} {y : gx_Y} {d pc : Nat} {ls : List (Option Value)} {st : List Value} {μ : gx_M} (hc : y.1.cls = RX12) (hd : decode y.2.1 pc = .ok (.getfield 47, 3)) : gS E l y d (pc, ls, .ref (E.2.2.1 + 206) :: st, gx_G1, μ) (pc + 3, ls, .ref (E.2.2.1 + 219) :: st, gx_G1, μ) := s_getR hd (by rw [hc]; exact FRX12_47) g_206 rfl
theorem FRX12_50 : gx_FI RX12 50 12 30 4 := ⟨by decide, by decide, gx_in6 121 rfl rfl, by decide⟩
theorem gf_RX12_50 {E : gx_E} {l : Launch} {y : gx_Y} {d pc : Nat} {ls : List (Option Value)} {st : List Value} {μ : gx_M} (hc : y.1.cls = RX12) (hd : decode y.2.1 pc = .ok (.getfield 50, 3)) : gS E l y d (pc, ls, .ref (E.2.2.1 + 206) :: st, gx_G1, μ) (pc + 3, ls, .ref (E.2.2.1 + 220) :: st, gx_G1, μ) := s_getR hd (by rw [hc]; exact FRX12_50) g_206 rfl
theorem FRX12_53 : gx_FI RX12 53 12 31 4 := ⟨by decide, by decide, gx_in6 122 rfl rfl, by decide⟩
theorem gf_RX12_53 {E : gx_E} {l : Launch} {y : gx_Y} {d pc : Nat} {ls : List (Option Value)} {st : List Value} {μ : gx_M} (hc : y.1.cls = RX12) (hd : decode y.2.1 pc = .ok (.getfield 53, 3)) : gS E l y d (pc, ls, .ref (E.2.2.1 + 206) :: st, gx_G1, μ) (pc + 3, ls, .ref (E.2.2.1 + 221) :: st, gx_G1, μ) := s_getR hd (by rw [hc]; exact FRX12_53) g_206 rfl
theorem FRX12_57 : gx_FI RX12 57 12 32 4 := ⟨by decide, by decide, gx_in6 123 rfl rfl, by decide⟩
theorem gf_RX12_57 {E : gx_E} {l : Launch} {y : gx_Y} {d pc : Nat} {ls : List (Option Value)} {st : List Value} {μ : gx_M} (hc : y.1.cls = RX12) (hd : decode y.2.1 pc = .ok (.getfield 57, 3)) : gS E l y d (pc, ls, .ref (E.2.2.1 + 206) :: st, gx_G1, μ) (pc + 3, ls, .ref (E.2.2.1 + 222) :: st, gx_G1, μ) := s_getR hd (by rw [hc]; exact FRX12_57) g_206 rfl
theorem FRX12_60 : gx_FI RX12 60 12 35 4 := ⟨by decide, by decide, gx_in6 126 rfl rfl, by decide⟩
theorem gf_RX12_60 {E : gx_E} {l : Launch} {y : gx_Y} {d pc : Nat} {ls : List (Option Value)} {st : List Value} {μ : gx_M} (hc : y.1.cls = RX12) (hd : decode y.2.1 pc = .ok (.getfield 60, 3)) : gS E l y d (pc, ls, .ref (E.2.2.1 + 206) :: st, gx_G1, μ) (pc + 3, ls, .ref (E.2.2.1 + 223) :: st, gx_G1, μ) := s_getR hd (by rw [hc]; exact FRX12_60) g_206 rfl
theorem FRX12_63 : gx_FI RX12 63 12 36 4 := ⟨by decide, by decide, gx_in6 127 rfl rfl, by decide⟩
theorem gf_RX12_63 {E : gx_E} {l : Launch} {y : gx_Y} {d pc : Nat} {ls : List (Option Value)} {st : List Value} {μ : gx_M} (hc : y.1.cls = RX12) (hd : decode y.2.1 pc = .ok (.getfield 63, 3)) : gS E l y d (pc, ls, .ref (E.2.2.1 + 206) :: st, gx_G1, μ) (pc + 3, ls, .ref (E.2.2.1 + 224) :: st, gx_G1, μ) := s_getR hd (by rw [hc]; exact FRX12_63) g_206 rfl
theorem FRX12_66 : gx_FI RX12 66 12 37 4 := ⟨by decide, by decide, gx_in6 128 rfl rfl, by decide⟩
theorem gf_RX12_66 {E : gx_E} {l : Launch} {y : gx_Y} {d pc : Nat} {ls : List (Option Value)} {st : List Value} {μ : gx_M} (hc : y.1.cls = RX12) (hd : decode y.2.1 pc = .ok (.getfield 66, 3)) : gS E l y d (pc, ls, .ref (E.2.2.1 + 206) :: st, gx_G1, μ) (pc + 3, ls, .ref (E.2.2.1 + 225) :: st, gx_G1, μ) := s_getR hd (by rw [hc]; exact FRX12_66) g_206 rfl
theorem FRX12_69 : gx_FI RX12 69 12 39 4 := ⟨by decide, by decide, gx_in6 130 rfl rfl, by decide⟩
theorem gf_RX12_69 {E : gx_E} {l : Launch} {y : gx_Y} {d pc : Nat} {ls : List (Option Value)} {st : List Value} {μ : gx_M} (hc : y.1.cls = RX12) (hd : decode y.2.1 pc = .ok (.getfield 69, 3)) : gS E l y d (pc, ls, .ref (E.2.2.1 + 206) :: st, gx_G1, μ) (pc + 3, ls, .ref (E.2.2.1 + 226) :: st, gx_G1, μ) := s_getR hd (by rw [hc]; exact FRX12_69) g_206 rfl
theorem FRX12_72 : gx_FI RX12 72 12 40 4 := ⟨by decide, by decide, gx_in6 131 rfl rfl, by decide⟩
theorem gf_RX12_72 {E : gx_E} {l : Launch} {y : gx_Y} {d pc : Nat} {ls : List (Option Value)} {st : List Value} {μ : gx_M} (hc : y.1.cls = RX12) (hd : decode y.2.1 pc = .ok (.getfield 72, 3)) : gS E l y d (pc, ls, .ref (E.2.2.1 + 206) :: st, gx_G1, μ) (pc + 3, ls, .ref (E.2.2.1 + 227) :: st, gx_G1, μ) := s_getR hd (by rw [hc]; exact FRX12_72) g_206 rfl
theorem FRX12_75 : gx_FI RX12 75 12 42 4 := ⟨by decide, by decide, gx_in6 133 rfl rfl, by decide⟩
theorem gf_RX12_75 {E : gx_E} {l : Launch} {y : gx_Y} {d pc : Nat} {ls : List (Option Value)} {st : List Value} {μ : gx_M} (hc : y.1.cls = RX12) (hd : decode y.2.1 pc = .ok (.getfield 75, 3)) : gS E l y d (pc, ls, .ref (E.2.2.1 + 206) :: st, gx_G1, μ) (pc + 3, ls, .ref (E.2.2.1 + 228) :: st, gx_G1, μ) := s_getR hd (by rw [hc]; exact FRX12_75) g_206 rfl
theorem FRX12_78 : gx_FI RX12 78 12 43 4 := ⟨by decide, by decide, gx_in6 134 rfl rfl, by decide⟩
theorem gf_RX12_78 {E : gx_E} {l : Launch} {y : gx_Y} {d pc : Nat} {ls : List (Option Value)} {st : List Value} {μ : gx_M} (hc : y.1.cls = RX12) (hd : decode y.2.1 pc = .ok (.getfield 78, 3)) : gS E l y d (pc, ls, .ref (E.2.2.1 + 206) :: st, gx_G1, μ) (pc + 3, ls, .ref (E.2.2.1 + 229) :: st, gx_G1, μ) := s_getR hd (by rw [hc]; exact FRX12_78) g_206 rfl
theorem FRX12_82 : gx_FI RX12 82 12 45 4 := ⟨by decide, by decide, gx_in6 136 rfl rfl, by decide⟩
theorem gf_RX12_82 {E : gx_E} {l : Launch} {y : gx_Y} {d pc : Nat} {ls : List (Option Value)} {st : List Value} {μ : gx_M} (hc : y.1.cls = RX12) (hd : decode y.2.1 pc = .ok (.getfield 82, 3)) : gS E l y d (pc, ls, .ref (E.2.2.1 + 206) :: st, gx_G1, μ) (pc + 3, ls, .ref (E.2.2.1 + 230) :: st, gx_G1, μ) := s_getR hd (by rw [hc]; exact FRX12_82) g_206 rfl
theorem FRX12_85 : gx_FI RX12 85 12 47 4 := ⟨by decide, by decide, gx_in6 138 rfl rfl, by decide⟩
theorem gf_RX12_85 {E : gx_E} {l : Launch} {y : gx_Y} {d pc : Nat} {ls : List (Option Value)} {st : List Value} {μ : gx_M} (hc : y.1.cls = RX12) (hd : decode y.2.1 pc = .ok (.getfield 85, 3)) : gS E l y d (pc, ls, .ref (E.2.2.1 + 206) :: st, gx_G1, μ) (pc + 3, ls, .ref (E.2.2.1 + 231) :: st, gx_G1, μ) := s_getR hd (by rw [hc]; exact FRX12_85) g_206 rfl
theorem FRX12_88 : gx_FI RX12 88 12 52 4 := ⟨by decide, by decide, gx_in6 143 rfl rfl, by decide⟩
theorem gf_RX12_88 {E : gx_E} {l : Launch} {y : gx_Y} {d pc : Nat} {ls : List (Option Value)} {st : List Value} {μ : gx_M} (hc : y.1.cls = RX12) (hd : decode y.2.1 pc = .ok (.getfield 88, 3)) : gS E l y d (pc, ls, .ref (E.2.2.1 + 206) :: st, gx_G1, μ) (pc + 3, ls, .ref (E.2.2.1 + 232) :: st, gx_G1, μ) := s_getR hd (by rw [hc]; exact FRX12_88) g_206 rfl
theorem FRX12_91 : gx_FI RX12 91 12 53 4 := ⟨by decide, by decide, gx_in6 144 rfl rfl, by decide⟩
theorem gf_RX12_91 {E : gx_E} {l : Launch} {y : gx_Y} {d pc : Nat} {ls : List (Option Value)} {st : List Value} {μ : gx_M} (hc : y.1.cls = RX12) (hd : decode y.2.1 pc = .ok (.getfield 91, 3)) : gS E l y d (pc, ls, .ref (E.2.2.1 + 206) :: st, gx_G1, μ) (pc + 3, ls, .ref (E.2.2.1 + 233) :: st, gx_G1, μ) := s_getR hd (by rw [hc]; exact FRX12_91) g_206 rfl
theorem FRX12_94 : gx_FI RX12 94 12 54 4 := ⟨by decide, by decide, gx_in6 145 rfl rfl, by decide⟩
theorem gf_RX12_94 {E : gx_E} {l : Launch} {y : gx_Y} {d pc : Nat} {ls : List (Option Value)} {st : List Value} {μ : gx_M} (hc : y.1.cls = RX12) (hd : decode y.2.1 pc = .ok (.getfield 94, 3)) : gS E l y d (pc, ls, .ref (E.2.2.1 + 206) :: st, gx_G1, μ) (pc + 3, ls, .ref (E.2.2.1 + 234) :: st, gx_G1, μ) := s_getR hd (by rw [hc]; exact FRX12_94) g_206 rfl
theorem FRX12_97 : gx_FI RX12 97 12 56 4 := ⟨by decide, by decide, gx_in6 147 rfl rfl, by decide⟩
theorem gf_RX12_97 {E : gx_E} {l : Launch} {y : gx_Y} {d pc : Nat} {ls : List (Option Value)} {st : List Value} {μ : gx_M} (hc : y.1.cls = RX12) (hd : decode y.2.1 pc = .ok (.getfield 97, 3)) : gS E l y d (pc, ls, .ref (E.2.2.1 + 206) :: st, gx_G1, μ) (pc + 3, ls, .ref (E.2.2.1 + 235) :: st, gx_G1, μ) := s_getR hd (by rw [hc]; exact FRX12_97) g_206 rfl
theorem FRX12_100 : gx_FI RX12 100 12 0 0 := ⟨by decide, by decide, gx_in6 91 rfl rfl, by decide⟩
theorem pf_RX12_100 {E : gx_E} {l : Launch} {y : gx_Y} {d pc : Nat} {ls : List (Option Value)} {st : List Value} {μ : gx_M} {x : Int32} (hc : y.1.cls = RX12) (hd : decode y.2.1 pc = .ok (.putfield 100, 3)) : gS E l y d (pc, ls, .int x :: .ref (E.2.2.1 + 206) :: st, gx_G1, μ) (pc + 3, ls, st, gx_G1, gx_uI μ 206 0 x) := s_putI hd (by rw [hc]; exact FRX12_100) (by decide) (by decide +kernel) (ty := .int) rfl rfl rfl g_206
theorem FRX12_120 : gx_FI RX12 120 12 10 0 := ⟨by decide, by decide, gx_in6 101 rfl rfl, by decide⟩
theorem gf_RX12_120 {E : gx_E} {l : Launch} {y : gx_Y} {d pc : Nat} {ls : List (Option Value)} {st : List Value} {μ : gx_M} (hc : y.1.cls = RX12) (hd : decode y.2.1 pc = .ok (.getfield 120, 3)) : gS E l y d (pc, ls, .ref (E.2.2.1 + 206) :: st, gx_G1, μ) (pc + 3, ls, .int (μ.1 206 10) :: st, gx_G1, μ) := s_getI hd (by rw [hc]; exact FRX12_120) (by decide) g_206
theorem pf_RX12_120 {E : gx_E} {l : Launch} {y : gx_Y} {d pc : Nat} {ls : List (Option Value)} {st : List Value} {μ : gx_M} {x : Int32} (hc : y.1.cls = RX12) (hd : decode y.2.1 pc = .ok (.putfield 120, 3)) : gS E l y d (pc, ls, .int x :: .ref (E.2.2.1 + 206) :: st, gx_G1, μ) (pc + 3, ls, st, gx_G1, gx_uI μ 206 10 x) := s_putI hd (by rw [hc]; exact FRX12_120) (by decide) (by decide +kernel) (ty := .int) rfl rfl rfl g_206
theorem FRX12_123 : gx_FI RX12 123 12 11 0 := ⟨by decide, by decide, gx_in6 102 rfl rfl, by decide⟩
theorem gf_RX12_123 {E : gx_E} {l : Launch} {y : gx_Y} {d pc : Nat} {ls : List (Option Value)} {st : List Value} {μ : gx_M} (hc : y.1.cls = RX12) (hd : decode y.2.1 pc = .ok (.getfield 123, 3)) : gS E l y d (pc, ls, .ref (E.2.2.1 + 206) :: st, gx_G1, μ) (pc + 3, ls, .int (μ.1 206 11) :: st, gx_G1, μ) := s_getI hd (by rw [hc]; exact FRX12_123) (by decide) g_206
theorem pf_RX12_123 {E : gx_E} {l : Launch} {y : gx_Y} {d pc : Nat} {ls : List (Option Value)} {st : List Value} {μ : gx_M} {x : Int32} (hc : y.1.cls = RX12) (hd : decode y.2.1 pc = .ok (.putfield 123, 3)) : gS E l y d (pc, ls, .int x :: .ref (E.2.2.1 + 206) :: st, gx_G1, μ) (pc + 3, ls, st, gx_G1, gx_uI μ 206 11 x) := s_putI hd (by rw [hc]; exact FRX12_123) (by decide) (by decide +kernel) (ty := .int) rfl rfl rfl g_206
theorem FRX12_130 : gx_FI RX12 130 12 12 0 := ⟨by decide, by decide, gx_in6 103 rfl rfl, by decide⟩
theorem gf_RX12_130 {E : gx_E} {l : Launch} {y : gx_Y} {d pc : Nat} {ls : List (Option Value)} {st : List Value} {μ : gx_M} (hc : y.1.cls = RX12) (hd : decode y.2.1 pc = .ok (.getfield 130, 3)) : gS E l y d (pc, ls, .ref (E.2.2.1 + 206) :: st, gx_G1, μ) (pc + 3, ls, .int (μ.1 206 12) :: st, gx_G1, μ) := s_getI hd (by rw [hc]; exact FRX12_130) (by decide) g_206
theorem pf_RX12_130 {E : gx_E} {l : Launch} {y : gx_Y} {d pc : Nat} {ls : List (Option Value)} {st : List Value} {μ : gx_M} {x : Int32} (hc : y.1.cls = RX12) (hd : decode y.2.1 pc = .ok (.putfield 130, 3)) : gS E l y d (pc, ls, .int x :: .ref (E.2.2.1 + 206) :: st, gx_G1, μ) (pc + 3, ls, st, gx_G1, gx_uI μ 206 12 x) := s_putI hd (by rw [hc]; exact FRX12_130) (by decide) (by decide +kernel) (ty := .int) rfl rfl rfl g_206
theorem FRX12_133 : gx_FI RX12 133 12 15 3 := ⟨by decide, by decide, gx_in6 106 rfl rfl, by decide⟩
theorem gf_RX12_133 {E : gx_E} {l : Launch} {y : gx_Y} {d pc : Nat} {ls : List (Option Value)} {st : List Value} {μ : gx_M} (hc : y.1.cls = RX12) (hd : decode y.2.1 pc = .ok (.getfield 133, 3)) : gS E l y d (pc, ls, .ref (E.2.2.1 + 206) :: st, gx_G1, μ) (pc + 3, ls, .long (μ.2 206 15) :: st, gx_G1, μ) := s_getL hd (by rw [hc]; exact FRX12_133) g_206
theorem pf_RX12_133 {E : gx_E} {l : Launch} {y : gx_Y} {d pc : Nat} {ls : List (Option Value)} {st : List Value} {μ : gx_M} {x : Int64} (hc : y.1.cls = RX12) (hd : decode y.2.1 pc = .ok (.putfield 133, 3)) : gS E l y d (pc, ls, .long x :: .ref (E.2.2.1 + 206) :: st, gx_G1, μ) (pc + 3, ls, st, gx_G1, gx_uL μ 206 15 x) := s_putL hd (by rw [hc]; exact FRX12_133) (by decide +kernel) rfl g_206
theorem FRX12_137 : gx_FI RX12 137 12 13 0 := ⟨by decide, by decide, gx_in6 104 rfl rfl, by decide⟩
theorem gf_RX12_137 {E : gx_E} {l : Launch} {y : gx_Y} {d pc : Nat} {ls : List (Option Value)} {st : List Value} {μ : gx_M} (hc : y.1.cls = RX12) (hd : decode y.2.1 pc = .ok (.getfield 137, 3)) : gS E l y d (pc, ls, .ref (E.2.2.1 + 206) :: st, gx_G1, μ) (pc + 3, ls, .int (μ.1 206 13) :: st, gx_G1, μ) := s_getI hd (by rw [hc]; exact FRX12_137) (by decide) g_206
theorem pf_RX12_137 {E : gx_E} {l : Launch} {y : gx_Y} {d pc : Nat} {ls : List (Option Value)} {st : List Value} {μ : gx_M} {x : Int32} (hc : y.1.cls = RX12) (hd : decode y.2.1 pc = .ok (.putfield 137, 3)) : gS E l y d (pc, ls, .int x :: .ref (E.2.2.1 + 206) :: st, gx_G1, μ) (pc + 3, ls, st, gx_G1, gx_uI μ 206 13 x) := s_putI hd (by rw [hc]; exact FRX12_137) (by decide) (by decide +kernel) (ty := .int) rfl rfl rfl g_206
theorem FRX12_140 : gx_FI RX12 140 12 14 0 := ⟨by decide, by decide, gx_in6 105 rfl rfl, by decide⟩
theorem gf_RX12_140 {E : gx_E} {l : Launch} {y : gx_Y} {d pc : Nat} {ls : List (Option Value)} {st : List Value} {μ : gx_M} (hc : y.1.cls = RX12) (hd : decode y.2.1 pc = .ok (.getfield 140, 3)) : gS E l y d (pc, ls, .ref (E.2.2.1 + 206) :: st, gx_G1, μ) (pc + 3, ls, .int (μ.1 206 14) :: st, gx_G1, μ) := s_getI hd (by rw [hc]; exact FRX12_140) (by decide) g_206
theorem pf_RX12_140 {E : gx_E} {l : Launch} {y : gx_Y} {d pc : Nat} {ls : List (Option Value)} {st : List Value} {μ : gx_M} {x : Int32} (hc : y.1.cls = RX12) (hd : decode y.2.1 pc = .ok (.putfield 140, 3)) : gS E l y d (pc, ls, .int x :: .ref (E.2.2.1 + 206) :: st, gx_G1, μ) (pc + 3, ls, st, gx_G1, gx_uI μ 206 14 x) := s_putI hd (by rw [hc]; exact FRX12_140) (by decide) (by decide +kernel) (ty := .int) rfl rfl rfl g_206
theorem FRX12_143 : gx_FI RX12 143 12 16 0 := ⟨by decide, by decide, gx_in6 107 rfl rfl, by decide⟩
theorem gf_RX12_143 {E : gx_E} {l : Launch} {y : gx_Y} {d pc : Nat} {ls : List (Option Value)} {st : List Value} {μ : gx_M} (hc : y.1.cls = RX12) (hd : decode y.2.1 pc = .ok (.getfield 143, 3)) : gS E l y d (pc, ls, .ref (E.2.2.1 + 206) :: st, gx_G1, μ) (pc + 3, ls, .int (μ.1 206 16) :: st, gx_G1, μ) := s_getI hd (by rw [hc]; exact FRX12_143) (by decide) g_206
theorem pf_RX12_143 {E : gx_E} {l : Launch} {y : gx_Y} {d pc : Nat} {ls : List (Option Value)} {st : List Value} {μ : gx_M} {x : Int32} (hc : y.1.cls = RX12) (hd : decode y.2.1 pc = .ok (.putfield 143, 3)) : gS E l y d (pc, ls, .int x :: .ref (E.2.2.1 + 206) :: st, gx_G1, μ) (pc + 3, ls, st, gx_G1, gx_uI μ 206 16 x) := s_putI hd (by rw [hc]; exact FRX12_143) (by decide) (by decide +kernel) (ty := .int) rfl rfl rfl g_206
theorem FRX12_146 : gx_FI RX12 146 12 17 0 := ⟨by decide, by decide, gx_in6 108 rfl rfl, by decide⟩
theorem gf_RX12_146 {E : gx_E} {l : Launch} {y : gx_Y} {d pc : Nat} {ls : List (Option Value)} {st : List Value} {μ : gx_M} (hc : y.1.cls = RX12) (hd : decode y.2.1 pc = .ok (.getfield 146, 3)) : gS E l y d (pc, ls, .ref (E.2.2.1 + 206) :: st, gx_G1, μ) (pc + 3, ls, .int (μ.1 206 17) :: st, gx_G1, μ) := s_getI hd (by rw [hc]; exact FRX12_146) (by decide) g_206
theorem pf_RX12_146 {E : gx_E} {l : Launch} {y : gx_Y} {d pc : Nat} {ls : List (Option Value)} {st : List Value} {μ : gx_M} {x : Int32} (hc : y.1.cls = RX12) (hd : decode y.2.1 pc = .ok (.putfield 146, 3)) : gS E l y d (pc, ls, .int x :: .ref (E.2.2.1 + 206) :: st, gx_G1, μ) (pc + 3, ls, st, gx_G1, gx_uI μ 206 17 x) := s_putI hd (by rw [hc]; exact FRX12_146) (by decide) (by decide +kernel) (ty := .int) rfl rfl rfl g_206
theorem FRX12_149 : gx_FI RX12 149 12 18 0 := ⟨by decide, by decide, gx_in6 109 rfl rfl, by decide⟩
theorem gf_RX12_149 {E : gx_E} {l : Launch} {y : gx_Y} {d pc : Nat} {ls : List (Option Value)} {st : List Value} {μ : gx_M} (hc : y.1.cls = RX12) (hd : decode y.2.1 pc = .ok (.getfield 149, 3)) : gS E l y d (pc, ls, .ref (E.2.2.1 + 206) :: st, gx_G1, μ) (pc + 3, ls, .int (μ.1 206 18) :: st, gx_G1, μ) := s_getI hd (by rw [hc]; exact FRX12_149) (by decide) g_206
theorem pf_RX12_149 {E : gx_E} {l : Launch} {y : gx_Y} {d pc : Nat} {ls : List (Option Value)} {st : List Value} {μ : gx_M} {x : Int32} (hc : y.1.cls = RX12) (hd : decode y.2.1 pc = .ok (.putfield 149, 3)) : gS E l y d (pc, ls, .int x :: .ref (E.2.2.1 + 206) :: st, gx_G1, μ) (pc + 3, ls, st, gx_G1, gx_uI μ 206 18 x) := s_putI hd (by rw [hc]; exact FRX12_149) (by decide) (by decide +kernel) (ty := .int) rfl rfl rfl g_206
theorem FRX12_160 : gx_FI RX12 160 12 23 1 := ⟨by decide, by decide, gx_in6 114 rfl rfl, by decide⟩
theorem gf_RX12_160 {E : gx_E} {l : Launch} {y : gx_Y} {d pc : Nat} {ls : List (Option Value)} {st : List Value} {μ : gx_M} (hc : y.1.cls = RX12) (hd : decode y.2.1 pc = .ok (.getfield 160, 3)) : gS E l y d (pc, ls, .ref (E.2.2.1 + 206) :: st, gx_G1, μ) (pc + 3, ls, .int (μ.1 206 23) :: st, gx_G1, μ) := s_getI hd (by rw [hc]; exact FRX12_160) (by decide) g_206
theorem pf_RX12_160 {E : gx_E} {l : Launch} {y : gx_Y} {d pc : Nat} {ls : List (Option Value)} {st : List Value} {μ : gx_M} {b : Bool} (hc : y.1.cls = RX12) (hd : decode y.2.1 pc = .ok (.putfield 160, 3)) : gS E l y d (pc, ls, .int (gx_bi b) :: .ref (E.2.2.1 + 206) :: st, gx_G1, μ) (pc + 3, ls, st, gx_G1, gx_uI μ 206 23 (gx_bi b)) := s_putI hd (by rw [hc]; exact FRX12_160) (by decide) (by decide +kernel) (ty := .boolean) rfl (gx_bn b) (by cases b <;> rfl) g_206
theorem FRX12_170 : gx_FI RX12 170 12 21 0 := ⟨by decide, by decide, gx_in6 112 rfl rfl, by decide⟩
theorem gf_RX12_170 {E : gx_E} {l : Launch} {y : gx_Y} {d pc : Nat} {ls : List (Option Value)} {st : List Value} {μ : gx_M} (hc : y.1.cls = RX12) (hd : decode y.2.1 pc = .ok (.getfield 170, 3)) : gS E l y d (pc, ls, .ref (E.2.2.1 + 206) :: st, gx_G1, μ) (pc + 3, ls, .int (μ.1 206 21) :: st, gx_G1, μ) := s_getI hd (by rw [hc]; exact FRX12_170) (by decide) g_206
theorem pf_RX12_170 {E : gx_E} {l : Launch} {y : gx_Y} {d pc : Nat} {ls : List (Option Value)} {st : List Value} {μ : gx_M} {x : Int32} (hc : y.1.cls = RX12) (hd : decode y.2.1 pc = .ok (.putfield 170, 3)) : gS E l y d (pc, ls, .int x :: .ref (E.2.2.1 + 206) :: st, gx_G1, μ) (pc + 3, ls, st, gx_G1, gx_uI μ 206 21 x) := s_putI hd (by rw [hc]; exact FRX12_170) (by decide) (by decide +kernel) (ty := .int) rfl rfl rfl g_206
theorem FRX12_177 : gx_FI RX12 177 12 22 0 := ⟨by decide, by decide, gx_in6 113 rfl rfl, by decide⟩
theorem gf_RX12_177 {E : gx_E} {l : Launch} {y : gx_Y} {d pc : Nat} {ls : List (Option Value)} {st : List Value} {μ : gx_M} (hc : y.1.cls = RX12) (hd : decode y.2.1 pc = .ok (.getfield 177, 3)) : gS E l y d (pc, ls, .ref (E.2.2.1 + 206) :: st, gx_G1, μ) (pc + 3, ls, .int (μ.1 206 22) :: st, gx_G1, μ) := s_getI hd (by rw [hc]; exact FRX12_177) (by decide) g_206
theorem pf_RX12_177 {E : gx_E} {l : Launch} {y : gx_Y} {d pc : Nat} {ls : List (Option Value)} {st : List Value} {μ : gx_M} {x : Int32} (hc : y.1.cls = RX12) (hd : decode y.2.1 pc = .ok (.putfield 177, 3)) : gS E l y d (pc, ls, .int x :: .ref (E.2.2.1 + 206) :: st, gx_G1, μ) (pc + 3, ls, st, gx_G1, gx_uI μ 206 22 x) := s_putI hd (by rw [hc]; exact FRX12_177) (by decide) (by decide +kernel) (ty := .int) rfl rfl rfl g_206
theorem FRX12_276 : gx_FI RX12 276 12 24 0 := ⟨by decide, by decide, gx_in6 115 rfl rfl, by decide⟩
theorem gf_RX12_276 {E : gx_E} {l : Launch} {y : gx_Y} {d pc : Nat} {ls : List (Option Value)} {st : List Value} {μ : gx_M} (hc : y.1.cls = RX12) (hd : decode y.2.1 pc = .ok (.getfield 276, 3)) : gS E l y d (pc, ls, .ref (E.2.2.1 + 206) :: st, gx_G1, μ) (pc + 3, ls, .int (μ.1 206 24) :: st, gx_G1, μ) := s_getI hd (by rw [hc]; exact FRX12_276) (by decide) g_206
theorem pf_RX12_276 {E : gx_E} {l : Launch} {y : gx_Y} {d pc : Nat} {ls : List (Option Value)} {st : List Value} {μ : gx_M} {x : Int32} (hc : y.1.cls = RX12) (hd : decode y.2.1 pc = .ok (.putfield 276, 3)) : gS E l y d (pc, ls, .int x :: .ref (E.2.2.1 + 206) :: st, gx_G1, μ) (pc + 3, ls, st, gx_G1, gx_uI μ 206 24 x) := s_putI hd (by rw [hc]; exact FRX12_276) (by decide) (by decide +kernel) (ty := .int) rfl rfl rfl g_206
theorem FRX12_283 : gx_FI RX12 283 12 25 0 := ⟨by decide, by decide, gx_in6 116 rfl rfl, by decide⟩
theorem gf_RX12_283 {E : gx_E} {l : Launch} {y : gx_Y} {d pc : Nat} {ls : List (Option Value)} {st : List Value} {μ : gx_M} (hc : y.1.cls = RX12) (hd : decode y.2.1 pc = .ok (.getfield 283, 3)) : gS E l y d (pc, ls, .ref (E.2.2.1 + 206) :: st, gx_G1, μ) (pc + 3, ls, .int (μ.1 206 25) :: st, gx_G1, μ) := s_getI hd (by rw [hc]; exact FRX12_283) (by decide) g_206
theorem pf_RX12_283 {E : gx_E} {l : Launch} {y : gx_Y} {d pc : Nat} {ls : List (Option Value)} {st : List Value} {μ : gx_M} {x : Int32} (hc : y.1.cls = RX12) (hd : decode y.2.1 pc = .ok (.putfield 283, 3)) : gS E l y d (pc, ls, .int x :: .ref (E.2.2.1 + 206) :: st, gx_G1, μ) (pc + 3, ls, st, gx_G1, gx_uI μ 206 25 x) := s_putI hd (by rw [hc]; exact FRX12_283) (by decide) (by decide +kernel) (ty := .int) rfl rfl rfl g_206
theorem FRX12_286 : gx_FI RX12 286 12 26 0 := ⟨by decide, by decide, gx_in6 117 rfl rfl, by decide⟩
theorem gf_RX12_286 {E : gx_E} {l : Launch} {y : gx_Y} {d pc : Nat} {ls : List (Option Value)} {st : List Value} {μ : gx_M} (hc : y.1.cls = RX12) (hd : decode y.2.1 pc = .ok (.getfield 286, 3)) : gS E l y d (pc, ls, .ref (E.2.2.1 + 206) :: st, gx_G1, μ) (pc + 3, ls, .int (μ.1 206 26) :: st, gx_G1, μ) := s_getI hd (by rw [hc]; exact FRX12_286) (by decide) g_206
theorem pf_RX12_286 {E : gx_E} {l : Launch} {y : gx_Y} {d pc : Nat} {ls : List (Option Value)} {st : List Value} {μ : gx_M} {x : Int32} (hc : y.1.cls = RX12) (hd : decode y.2.1 pc = .ok (.putfield 286, 3)) : gS E l y d (pc, ls, .int x :: .ref (E.2.2.1 + 206) :: st, gx_G1, μ) (pc + 3, ls, st, gx_G1, gx_uI μ 206 26 x) := s_putI hd (by rw [hc]; exact FRX12_286) (by decide) (by decide +kernel) (ty := .int) rfl rfl rfl g_206
theorem FRX12_289 : gx_FI RX12 289 12 27 0 := ⟨by decide, by decide, gx_in6 118 rfl rfl, by decide⟩
theorem gf_RX12_289 {E : gx_E} {l : Launch} {y : gx_Y} {d pc : Nat} {ls : List (Option Value)} {st : List Value} {μ : gx_M} (hc : y.1.cls = RX12) (hd : decode y.2.1 pc = .ok (.getfield 289, 3)) : gS E l y d (pc, ls, .ref (E.2.2.1 + 206) :: st, gx_G1, μ) (pc + 3, ls, .int (μ.1 206 27) :: st, gx_G1, μ) := s_getI hd (by rw [hc]; exact FRX12_289) (by decide) g_206
theorem pf_RX12_289 {E : gx_E} {l : Launch} {y : gx_Y} {d pc : Nat} {ls : List (Option Value)} {st : List Value} {μ : gx_M} {x : Int32} (hc : y.1.cls = RX12) (hd : decode y.2.1 pc = .ok (.putfield 289, 3)) : gS E l y d (pc, ls, .int x :: .ref (E.2.2.1 + 206) :: st, gx_G1, μ) (pc + 3, ls, st, gx_G1, gx_uI μ 206 27 x) := s_putI hd (by rw [hc]; exact FRX12_289) (by decide) (by decide +kernel) (ty := .int) rfl rfl rfl g_206
theorem FRX12_292 : gx_FI RX12 292 12 38 0 := ⟨by decide, by decide, gx_in6 129 rfl rfl, by decide⟩
theorem gf_RX12_292 {E : gx_E} {l : Launch} {y : gx_Y} {d pc : Nat} {ls : List (Option Value)} {st : List Value} {μ : gx_M} (hc : y.1.cls = RX12) (hd : decode y.2.1 pc = .ok (.getfield 292, 3)) : gS E l y d (pc, ls, .ref (E.2.2.1 + 206) :: st, gx_G1, μ) (pc + 3, ls, .int (μ.1 206 38) :: st, gx_G1, μ) := s_getI hd (by rw [hc]; exact FRX12_292) (by decide) g_206
theorem pf_RX12_292 {E : gx_E} {l : Launch} {y : gx_Y} {d pc : Nat} {ls : List (Option Value)} {st : List Value} {μ : gx_M} {x : Int32} (hc : y.1.cls = RX12) (hd : decode y.2.1 pc = .ok (.putfield 292, 3)) : gS E l y d (pc, ls, .int x :: .ref (E.2.2.1 + 206) :: st, gx_G1, μ) (pc + 3, ls, st, gx_G1, gx_uI μ 206 38 x) := s_putI hd (by rw [hc]; exact FRX12_292) (by decide) (by decide +kernel) (ty := .int) rfl rfl rfl g_206
theorem FRX12_301 : gx_FI RX12 301 12 33 0 := ⟨by decide, by decide, gx_in6 124 rfl rfl, by decide⟩
theorem gf_RX12_301 {E : gx_E} {l : Launch} {y : gx_Y} {d pc : Nat} {ls : List (Option Value)} {st : List Value} {μ : gx_M} (hc : y.1.cls = RX12) (hd : decode y.2.1 pc = .ok (.getfield 301, 3)) : gS E l y d (pc, ls, .ref (E.2.2.1 + 206) :: st, gx_G1, μ) (pc + 3, ls, .int (μ.1 206 33) :: st, gx_G1, μ) := s_getI hd (by rw [hc]; exact FRX12_301) (by decide) g_206
theorem pf_RX12_301 {E : gx_E} {l : Launch} {y : gx_Y} {d pc : Nat} {ls : List (Option Value)} {st : List Value} {μ : gx_M} {x : Int32} (hc : y.1.cls = RX12) (hd : decode y.2.1 pc = .ok (.putfield 301, 3)) : gS E l y d (pc, ls, .int x :: .ref (E.2.2.1 + 206) :: st, gx_G1, μ) (pc + 3, ls, st, gx_G1, gx_uI μ 206 33 x) := s_putI hd (by rw [hc]; exact FRX12_301) (by decide) (by decide +kernel) (ty := .int) rfl rfl rfl g_206
theorem FRX12_313 : gx_FI RX12 313 12 34 0 := ⟨by decide, by decide, gx_in6 125 rfl rfl, by decide⟩
theorem gf_RX12_313 {E : gx_E} {l : Launch} {y : gx_Y} {d pc : Nat} {ls : List (Option Value)} {st : List Value} {μ : gx_M} (hc : y.1.cls = RX12) (hd : decode y.2.1 pc = .ok (.getfield 313, 3)) : gS E l y d (pc, ls, .ref (E.2.2.1 + 206) :: st, gx_G1, μ) (pc + 3, ls, .int (μ.1 206 34) :: st, gx_G1, μ) := s_getI hd (by rw [hc]; exact FRX12_313) (by decide) g_206
theorem pf_RX12_313 {E : gx_E} {l : Launch} {y : gx_Y} {d pc : Nat} {ls : List (Option Value)} {st : List Value} {μ : gx_M} {x : Int32} (hc : y.1.cls = RX12) (hd : decode y.2.1 pc = .ok (.putfield 313, 3)) : gS E l y d (pc, ls, .int x :: .ref (E.2.2.1 + 206) :: st, gx_G1, μ) (pc + 3, ls, st, gx_G1, gx_uI μ 206 34 x) := s_putI hd (by rw [hc]; exact FRX12_313) (by decide) (by decide +kernel) (ty := .int) rfl rfl rfl g_206
theorem FRX12_397 : gx_FI RX12 397 12 41 0 := ⟨by decide, by decide, gx_in6 132 rfl rfl, by decide⟩
theorem gf_RX12_397 {E : gx_E} {l : Launch} {y : gx_Y} {d pc : Nat} {ls : List (Option Value)} {st : List Value} {μ : gx_M} (hc : y.1.cls = RX12) (hd : decode y.2.1 pc = .ok (.getfield 397, 3)) : gS E l y d (pc, ls, .ref (E.2.2.1 + 206) :: st, gx_G1, μ) (pc + 3, ls, .int (μ.1 206 41) :: st, gx_G1, μ) := s_getI hd (by rw [hc]; exact FRX12_397) (by decide) g_206
theorem pf_RX12_397 {E : gx_E} {l : Launch} {y : gx_Y} {d pc : Nat} {ls : List (Option Value)} {st : List Value} {μ : gx_M} {x : Int32} (hc : y.1.cls = RX12) (hd : decode y.2.1 pc = .ok (.putfield 397, 3)) : gS E l y d (pc, ls, .int x :: .ref (E.2.2.1 + 206) :: st, gx_G1, μ) (pc + 3, ls, st, gx_G1, gx_uI μ 206 41 x) := s_putI hd (by rw [hc]; exact FRX12_397) (by decide) (by decide +kernel) (ty := .int) rfl rfl rfl g_206
theorem FRX12_412 : gx_FI RX12 412 12 44 0 := ⟨by decide, by decide, gx_in6 135 rfl rfl, by decide⟩
theorem gf_RX12_412 {E : gx_E} {l : Launch} {y : gx_Y} {d pc : Nat} {ls : List (Option Value)} {st : List Value} {μ : gx_M} (hc : y.1.cls = RX12) (hd : decode y.2.1 pc = .ok (.getfield 412, 3)) : gS E l y d (pc, ls, .ref (E.2.2.1 + 206) :: st, gx_G1, μ) (pc + 3, ls, .int (μ.1 206 44) :: st, gx_G1, μ) := s_getI hd (by rw [hc]; exact FRX12_412) (by decide) g_206
theorem pf_RX12_412 {E : gx_E} {l : Launch} {y : gx_Y} {d pc : Nat} {ls : List (Option Value)} {st : List Value} {μ : gx_M} {x : Int32} (hc : y.1.cls = RX12) (hd : decode y.2.1 pc = .ok (.putfield 412, 3)) : gS E l y d (pc, ls, .int x :: .ref (E.2.2.1 + 206) :: st, gx_G1, μ) (pc + 3, ls, st, gx_G1, gx_uI μ 206 44 x) := s_putI hd (by rw [hc]; exact FRX12_412) (by decide) (by decide +kernel) (ty := .int) rfl rfl rfl g_206
theorem FRX12_464 : gx_FI RX12 464 12 46 0 := ⟨by decide, by decide, gx_in6 137 rfl rfl, by decide⟩
theorem gf_RX12_464 {E : gx_E} {l : Launch} {y : gx_Y} {d pc : Nat} {ls : List (Option Value)} {st : List Value} {μ : gx_M} (hc : y.1.cls = RX12) (hd : decode y.2.1 pc = .ok (.getfield 464, 3)) : gS E l y d (pc, ls, .ref (E.2.2.1 + 206) :: st, gx_G1, μ) (pc + 3, ls, .int (μ.1 206 46) :: st, gx_G1, μ) := s_getI hd (by rw [hc]; exact FRX12_464) (by decide) g_206
theorem pf_RX12_464 {E : gx_E} {l : Launch} {y : gx_Y} {d pc : Nat} {ls : List (Option Value)} {st : List Value} {μ : gx_M} {x : Int32} (hc : y.1.cls = RX12) (hd : decode y.2.1 pc = .ok (.putfield 464, 3)) : gS E l y d (pc, ls, .int x :: .ref (E.2.2.1 + 206) :: st, gx_G1, μ) (pc + 3, ls, st, gx_G1, gx_uI μ 206 46 x) := s_putI hd (by rw [hc]; exact FRX12_464) (by decide) (by decide +kernel) (ty := .int) rfl rfl rfl g_206
theorem FRX12_467 : gx_FI RX12 467 12 48 0 := ⟨by decide, by decide, gx_in6 139 rfl rfl, by decide⟩
theorem gf_RX12_467 {E : gx_E} {l : Launch} {y : gx_Y} {d pc : Nat} {ls : List (Option Value)} {st : List Value} {μ : gx_M} (hc : y.1.cls = RX12) (hd : decode y.2.1 pc = .ok (.getfield 467, 3)) : gS E l y d (pc, ls, .ref (E.2.2.1 + 206) :: st, gx_G1, μ) (pc + 3, ls, .int (μ.1 206 48) :: st, gx_G1, μ) := s_getI hd (by rw [hc]; exact FRX12_467) (by decide) g_206
theorem pf_RX12_467 {E : gx_E} {l : Launch} {y : gx_Y} {d pc : Nat} {ls : List (Option Value)} {st : List Value} {μ : gx_M} {x : Int32} (hc : y.1.cls = RX12) (hd : decode y.2.1 pc = .ok (.putfield 467, 3)) : gS E l y d (pc, ls, .int x :: .ref (E.2.2.1 + 206) :: st, gx_G1, μ) (pc + 3, ls, st, gx_G1, gx_uI μ 206 48 x) := s_putI hd (by rw [hc]; exact FRX12_467) (by decide) (by decide +kernel) (ty := .int) rfl rfl rfl g_206
theorem FRX12_489 : gx_FI RX12 489 12 49 0 := ⟨by decide, by decide, gx_in6 140 rfl rfl, by decide⟩
theorem gf_RX12_489 {E : gx_E} {l : Launch} {y : gx_Y} {d pc : Nat} {ls : List (Option Value)} {st : List Value} {μ : gx_M} (hc : y.1.cls = RX12) (hd : decode y.2.1 pc = .ok (.getfield 489, 3)) : gS E l y d (pc, ls, .ref (E.2.2.1 + 206) :: st, gx_G1, μ) (pc + 3, ls, .int (μ.1 206 49) :: st, gx_G1, μ) := s_getI hd (by rw [hc]; exact FRX12_489) (by decide) g_206
theorem pf_RX12_489 {E : gx_E} {l : Launch} {y : gx_Y} {d pc : Nat} {ls : List (Option Value)} {st : List Value} {μ : gx_M} {x : Int32} (hc : y.1.cls = RX12) (hd : decode y.2.1 pc = .ok (.putfield 489, 3)) : gS E l y d (pc, ls, .int x :: .ref (E.2.2.1 + 206) :: st, gx_G1, μ) (pc + 3, ls, st, gx_G1, gx_uI μ 206 49 x) := s_putI hd (by rw [hc]; exact FRX12_489) (by decide) (by decide +kernel) (ty := .int) rfl rfl rfl g_206
theorem FRX12_492 : gx_FI RX12 492 12 50 0 := ⟨by decide, by decide, gx_in6 141 rfl rfl, by decide⟩
theorem gf_RX12_492 {E : gx_E} {l : Launch} {y : gx_Y} {d pc : Nat} {ls : List (Option Value)} {st : List Value} {μ : gx_M} (hc : y.1.cls = RX12) (hd : decode y.2.1 pc = .ok (.getfield 492, 3)) : gS E l y d (pc, ls, .ref (E.2.2.1 + 206) :: st, gx_G1, μ) (pc + 3, ls, .int (μ.1 206 50) :: st, gx_G1, μ) := s_getI hd (by rw [hc]; exact FRX12_492) (by decide) g_206
theorem pf_RX12_492 {E : gx_E} {l : Launch} {y : gx_Y} {d pc : Nat} {ls : List (Option Value)} {st : List Value} {μ : gx_M} {x : Int32} (hc : y.1.cls = RX12) (hd : decode y.2.1 pc = .ok (.putfield 492, 3)) : gS E l y d (pc, ls, .int x :: .ref (E.2.2.1 + 206) :: st, gx_G1, μ) (pc + 3, ls, st, gx_G1, gx_uI μ 206 50 x) := s_putI hd (by rw [hc]; exact FRX12_492) (by decide) (by decide +kernel) (ty := .int) rfl rfl rfl g_206
theorem FRX12_495 : gx_FI RX12 495 12 51 0 := ⟨by decide, by decide, gx_in6 142 rfl rfl, by decide⟩
theorem gf_RX12_495 {E : gx_E} {l : Launch} {y : gx_Y} {d pc : Nat} {ls : List (Option Value)} {st : List Value} {μ : gx_M} (hc : y.1.cls = RX12) (hd : decode y.2.1 pc = .ok (.getfield 495, 3)) : gS E l y d (pc, ls, .ref (E.2.2.1 + 206) :: st, gx_G1, μ) (pc + 3, ls, .int (μ.1 206 51) :: st, gx_G1, μ) := s_getI hd (by rw [hc]; exact FRX12_495) (by decide) g_206
theorem pf_RX12_495 {E : gx_E} {l : Launch} {y : gx_Y} {d pc : Nat} {ls : List (Option Value)} {st : List Value} {μ : gx_M} {x : Int32} (hc : y.1.cls = RX12) (hd : decode y.2.1 pc = .ok (.putfield 495, 3)) : gS E l y d (pc, ls, .int x :: .ref (E.2.2.1 + 206) :: st, gx_G1, μ) (pc + 3, ls, st, gx_G1, gx_uI μ 206 51 x) := s_putI hd (by rw [hc]; exact FRX12_495) (by decide) (by decide +kernel) (ty := .int) rfl rfl rfl g_206
theorem FRX12_516 : gx_FI RX12 516 12 55 0 := ⟨by decide, by decide, gx_in6 146 rfl rfl, by decide⟩
theorem gf_RX12_516 {E : gx_E} {l : Launch} {y : gx_Y} {d pc : Nat} {ls : List (Option Value)} {st : List Value} {μ : gx_M} (hc : y.1.cls = RX12) (hd : decode y.2.1 pc = .ok (.getfield 516, 3)) : gS E l y d (pc, ls, .ref (E.2.2.1 + 206) :: st, gx_G1, μ) (pc + 3, ls, .int (μ.1 206 55) :: st, gx_G1, μ) := s_getI hd (by rw [hc]; exact FRX12_516) (by decide) g_206
theorem pf_RX12_516 {E : gx_E} {l : Launch} {y : gx_Y} {d pc : Nat} {ls : List (Option Value)} {st : List Value} {μ : gx_M} {x : Int32} (hc : y.1.cls = RX12) (hd : decode y.2.1 pc = .ok (.putfield 516, 3)) : gS E l y d (pc, ls, .int x :: .ref (E.2.2.1 + 206) :: st, gx_G1, μ) (pc + 3, ls, st, gx_G1, gx_uI μ 206 55 x) := s_putI hd (by rw [hc]; exact FRX12_516) (by decide) (by decide +kernel) (ty := .int) rfl rfl rfl g_206
theorem LB_X12_has (own : String) (idx : Nat) : gx_LB own idx Y_X12_has 2 := ⟨gx_in1 13 rfl rfl, gx_in8 67 rfl rfl, ⟨by decide +kernel, by decide +kernel, by decide +kernel⟩, by decide⟩
theorem Lk_RX12_104 : gx_LS RX12 104 Y_X12_has 2 := ⟨LB_X12_has _ _, gx_in8 65 rfl rfl, gx_in8 66 rfl rfl⟩
theorem LB_X12_copyRow (own : String) (idx : Nat) : gx_LB own idx Y_X12_copyRow 4 := ⟨gx_in1 13 rfl rfl, gx_in9 76 rfl rfl, ⟨by decide +kernel, by decide +kernel, by decide +kernel⟩, by decide⟩
theorem Lk_RX12_108 : gx_LS RX12 108 Y_X12_copyRow 4 := ⟨LB_X12_copyRow _ _, gx_in9 74 rfl rfl, gx_in9 75 rfl rfl⟩
theorem LB_X12_in (own : String) (idx : Nat) : gx_LB own idx Y_X12_in 3 := ⟨gx_in1 13 rfl rfl, gx_in7 37 rfl rfl, ⟨by decide +kernel, by decide +kernel, by decide +kernel⟩, by decide⟩
theorem Lk_RX12_112 : gx_LS RX12 112 Y_X12_in 3 := ⟨LB_X12_in _ _, gx_in7 35 rfl rfl, gx_in7 36 rfl rfl⟩
theorem LB_X12_greater (own : String) (idx : Nat) : gx_LB own idx Y_X12_greater 2 := ⟨gx_in1 13 rfl rfl, gx_in7 106 rfl rfl, ⟨by decide +kernel, by decide +kernel, by decide +kernel⟩, by decide⟩
theorem Lk_RX12_173 : gx_LS RX12 173 Y_X12_greater 2 := ⟨LB_X12_greater _ _, gx_in7 104 rfl rfl, gx_in7 105 rfl rfl⟩
theorem LB_X12_deedBy (own : String) (idx : Nat) : gx_LB own idx Y_X12_deedBy 1 := ⟨gx_in1 13 rfl rfl, gx_in7 121 rfl rfl, ⟨by decide +kernel, by decide +kernel, by decide +kernel⟩, by decide⟩
theorem Lk_RX12_223 : gx_LS RX12 223 Y_X12_deedBy 1 := ⟨LB_X12_deedBy _ _, gx_in7 119 rfl rfl, gx_in7 120 rfl rfl⟩
theorem LB_X12_lesser (own : String) (idx : Nat) : gx_LB own idx Y_X12_lesser 2 := ⟨gx_in1 13 rfl rfl, gx_in8 48 rfl rfl, ⟨by decide +kernel, by decide +kernel, by decide +kernel⟩, by decide⟩
theorem Lk_RX12_375 : gx_LS RX12 375 Y_X12_lesser 2 := ⟨LB_X12_lesser _ _, gx_in8 46 rfl rfl, gx_in8 47 rfl rfl⟩
theorem LB_X12_ones (own : String) (idx : Nat) : gx_LB own idx Y_X12_ones 1 := ⟨gx_in1 13 rfl rfl, gx_in8 86 rfl rfl, ⟨by decide +kernel, by decide +kernel, by decide +kernel⟩, by decide⟩
theorem Lk_RX12_403 : gx_LS RX12 403 Y_X12_ones 1 := ⟨LB_X12_ones _ _, gx_in8 84 rfl rfl, gx_in8 85 rfl rfl⟩
theorem LB_X12_hasBit (own : String) (idx : Nat) : gx_LB own idx Y_X12_hasBit 2 := ⟨gx_in1 13 rfl rfl, gx_in8 134 rfl rfl, ⟨by decide +kernel, by decide +kernel, by decide +kernel⟩, by decide⟩
theorem Lk_RX12_424 : gx_LS RX12 424 Y_X12_hasBit 2 := ⟨LB_X12_hasBit _ _, gx_in8 132 rfl rfl, gx_in8 133 rfl rfl⟩
theorem LB_X12_common (own : String) (idx : Nat) : gx_LB own idx Y_X12_common 2 := ⟨gx_in1 13 rfl rfl, gx_in8 151 rfl rfl, ⟨by decide +kernel, by decide +kernel, by decide +kernel⟩, by decide⟩
theorem Lk_RX12_446 : gx_LS RX12 446 Y_X12_common 2 := ⟨LB_X12_common _ _, gx_in8 149 rfl rfl, gx_in8 150 rfl rfl⟩
theorem LB_X12_power (own : String) (idx : Nat) : gx_LB own idx Y_X12_power 2 := ⟨gx_in1 13 rfl rfl, gx_in8 145 rfl rfl, ⟨by decide +kernel, by decide +kernel, by decide +kernel⟩, by decide⟩
theorem Lk_RX12_452 : gx_LS RX12 452 Y_X12_power 2 := ⟨LB_X12_power _ _, gx_in8 143 rfl rfl, gx_in8 144 rfl rfl⟩
theorem LB_X12_leftBy (own : String) (idx : Nat) : gx_LB own idx Y_X12_leftBy 3 := ⟨gx_in1 13 rfl rfl, gx_in8 141 rfl rfl, ⟨by decide +kernel, by decide +kernel, by decide +kernel⟩, by decide⟩
theorem Lk_RX12_456 : gx_LS RX12 456 Y_X12_leftBy 3 := ⟨LB_X12_leftBy _ _, gx_in8 139 rfl rfl, gx_in8 140 rfl rfl⟩
theorem LB_X12_part (own : String) (idx : Nat) : gx_LB own idx Y_X12_part 3 := ⟨gx_in1 13 rfl rfl, gx_in8 148 rfl rfl, ⟨by decide +kernel, by decide +kernel, by decide +kernel⟩, by decide⟩
theorem Lk_RX12_460 : gx_LS RX12 460 Y_X12_part 3 := ⟨LB_X12_part _ _, gx_in8 146 rfl rfl, gx_in8 147 rfl rfl⟩
theorem LB_X12_four (own : String) (idx : Nat) : gx_LB own idx Y_X12_four 1 := ⟨gx_in1 13 rfl rfl, gx_in7 30 rfl rfl, ⟨by decide +kernel, by decide +kernel, by decide +kernel⟩, by decide⟩
theorem Lk_RX12_116 : gx_LV RX12 116 Y_X12_four 1 := ⟨LB_X12_four _ _, gx_in7 27 rfl rfl, gx_in7 29 rfl rfl, gx_in 60 (by decide +kernel) rfl⟩
theorem LB_X12_see (own : String) (idx : Nat) : gx_LB own idx Y_X12_see 0 := ⟨gx_in1 13 rfl rfl, gx_in7 61 rfl rfl, ⟨by decide +kernel, by decide +kernel, by decide +kernel⟩, by decide⟩
theorem Lk_RX12_126 : gx_LV RX12 126 Y_X12_see 0 := ⟨LB_X12_see _ _, gx_in7 58 rfl rfl, gx_in7 60 rfl rfl, gx_in 65 (by decide +kernel) rfl⟩
theorem LB_X12_fails (own : String) (idx : Nat) : gx_LB own idx Y_X12_fails 0 := ⟨gx_in1 13 rfl rfl, gx_in7 83 rfl rfl, ⟨by decide +kernel, by decide +kernel, by decide +kernel⟩, by decide⟩
theorem Lk_RX12_152 : gx_LV RX12 152 Y_X12_fails 0 := ⟨LB_X12_fails _ _, gx_in7 80 rfl rfl, gx_in7 82 rfl rfl, gx_in 69 (by decide +kernel) rfl⟩
theorem LB_X12_later (own : String) (idx : Nat) : gx_LB own idx Y_X12_later 2 := ⟨gx_in1 13 rfl rfl, gx_in7 91 rfl rfl, ⟨by decide +kernel, by decide +kernel, by decide +kernel⟩, by decide⟩
theorem Lk_RX12_156 : gx_LV RX12 156 Y_X12_later 2 := ⟨LB_X12_later _ _, gx_in7 88 rfl rfl, gx_in7 90 rfl rfl, gx_in 71 (by decide +kernel) rfl⟩
theorem LB_X12_token (own : String) (idx : Nat) : gx_LB own idx Y_X12_token 0 := ⟨gx_in1 13 rfl rfl, gx_in7 57 rfl rfl, ⟨by decide +kernel, by decide +kernel, by decide +kernel⟩, by decide⟩
theorem Lk_RX12_164 : gx_LV RX12 164 Y_X12_token 0 := ⟨LB_X12_token _ _, gx_in7 54 rfl rfl, gx_in7 56 rfl rfl, gx_in 64 (by decide +kernel) rfl⟩
theorem LB_X12_take (own : String) (idx : Nat) : gx_LB own idx Y_X12_take 3 := ⟨gx_in1 13 rfl rfl, gx_in7 99 rfl rfl, ⟨by decide +kernel, by decide +kernel, by decide +kernel⟩, by decide⟩
theorem Lk_RX12_167 : gx_LV RX12 167 Y_X12_take 3 := ⟨LB_X12_take _ _, gx_in7 96 rfl rfl, gx_in7 98 rfl rfl, gx_in 73 (by decide +kernel) rfl⟩
theorem LB_X12_takeMinute (own : String) (idx : Nat) : gx_LB own idx Y_X12_takeMinute 2 := ⟨gx_in1 13 rfl rfl, gx_in7 103 rfl rfl, ⟨by decide +kernel, by decide +kernel, by decide +kernel⟩, by decide⟩
theorem Lk_RX12_180 : gx_LV RX12 180 Y_X12_takeMinute 2 := ⟨LB_X12_takeMinute _ _, gx_in7 100 rfl rfl, gx_in7 102 rfl rfl, gx_in 74 (by decide +kernel) rfl⟩
theorem LB_X12_full (own : String) (idx : Nat) : gx_LB own idx Y_X12_full 3 := ⟨gx_in1 13 rfl rfl, gx_in7 87 rfl rfl, ⟨by decide +kernel, by decide +kernel, by decide +kernel⟩, by decide⟩
theorem Lk_RX12_195 : gx_LV RX12 195 Y_X12_full 3 := ⟨LB_X12_full _ _, gx_in7 84 rfl rfl, gx_in7 86 rfl rfl, gx_in 70 (by decide +kernel) rfl⟩
theorem LB_X12_taskLine (own : String) (idx : Nat) : gx_LB own idx Y_X12_taskLine 0 := ⟨gx_in1 13 rfl rfl, gx_in7 95 rfl rfl, ⟨by decide +kernel, by decide +kernel, by decide +kernel⟩, by decide⟩
theorem Lk_RX12_199 : gx_LV RX12 199 Y_X12_taskLine 0 := ⟨LB_X12_taskLine _ _, gx_in7 92 rfl rfl, gx_in7 94 rfl rfl, gx_in 72 (by decide +kernel) rfl⟩
theorem LB_X12_takeOne (own : String) (idx : Nat) : gx_LB own idx Y_X12_takeOne 2 := ⟨gx_in1 13 rfl rfl, gx_in7 110 rfl rfl, ⟨by decide +kernel, by decide +kernel, by decide +kernel⟩, by decide⟩
theorem Lk_RX12_202 : gx_LV RX12 202 Y_X12_takeOne 2 := ⟨LB_X12_takeOne _ _, gx_in7 107 rfl rfl, gx_in7 109 rfl rfl, gx_in 75 (by decide +kernel) rfl⟩
theorem LB_X12_fill (own : String) (idx : Nat) : gx_LB own idx Y_X12_fill 4 := ⟨gx_in1 13 rfl rfl, gx_in7 114 rfl rfl, ⟨by decide +kernel, by decide +kernel, by decide +kernel⟩, by decide⟩
theorem Lk_RX12_205 : gx_LV RX12 205 Y_X12_fill 4 := ⟨LB_X12_fill _ _, gx_in7 111 rfl rfl, gx_in7 113 rfl rfl, gx_in 76 (by decide +kernel) rfl⟩
theorem LB_X12_keepRow (own : String) (idx : Nat) : gx_LB own idx Y_X12_keepRow 2 := ⟨gx_in1 13 rfl rfl, gx_in7 132 rfl rfl, ⟨by decide +kernel, by decide +kernel, by decide +kernel⟩, by decide⟩
theorem Lk_RX12_227 : gx_LV RX12 227 Y_X12_keepRow 2 := ⟨LB_X12_keepRow _ _, gx_in7 129 rfl rfl, gx_in7 131 rfl rfl, gx_in 78 (by decide +kernel) rfl⟩
theorem LB_X12_streetLine (own : String) (idx : Nat) : gx_LB own idx Y_X12_streetLine 2 := ⟨gx_in1 13 rfl rfl, gx_in7 73 rfl rfl, ⟨by decide +kernel, by decide +kernel, by decide +kernel⟩, by decide⟩
theorem Lk_RX12_238 : gx_LV RX12 238 Y_X12_streetLine 2 := ⟨LB_X12_streetLine _ _, gx_in7 70 rfl rfl, gx_in7 72 rfl rfl, gx_in 68 (by decide +kernel) rfl⟩
theorem LB_X12_yearLine (own : String) (idx : Nat) : gx_LB own idx Y_X12_yearLine 2 := ⟨gx_in1 13 rfl rfl, gx_in7 118 rfl rfl, ⟨by decide +kernel, by decide +kernel, by decide +kernel⟩, by decide⟩
theorem Lk_RX12_242 : gx_LV RX12 242 Y_X12_yearLine 2 := ⟨LB_X12_yearLine _ _, gx_in7 115 rfl rfl, gx_in7 117 rfl rfl, gx_in 77 (by decide +kernel) rfl⟩
theorem LB_X12_logLine (own : String) (idx : Nat) : gx_LB own idx Y_X12_logLine 2 := ⟨gx_in1 13 rfl rfl, gx_in7 136 rfl rfl, ⟨by decide +kernel, by decide +kernel, by decide +kernel⟩, by decide⟩
theorem Lk_RX12_245 : gx_LV RX12 245 Y_X12_logLine 2 := ⟨LB_X12_logLine _ _, gx_in7 133 rfl rfl, gx_in7 135 rfl rfl, gx_in 79 (by decide +kernel) rfl⟩
theorem LB_X12_swapLine (own : String) (idx : Nat) : gx_LB own idx Y_X12_swapLine 1 := ⟨gx_in1 13 rfl rfl, gx_in7 142 rfl rfl, ⟨by decide +kernel, by decide +kernel, by decide +kernel⟩, by decide⟩
theorem Lk_RX12_248 : gx_LV RX12 248 Y_X12_swapLine 1 := ⟨LB_X12_swapLine _ _, gx_in7 139 rfl rfl, gx_in7 141 rfl rfl, gx_in 80 (by decide +kernel) rfl⟩
theorem LB_X12_lineOf (own : String) (idx : Nat) : gx_LB own idx Y_X12_lineOf 3 := ⟨gx_in1 13 rfl rfl, gx_in7 69 rfl rfl, ⟨by decide +kernel, by decide +kernel, by decide +kernel⟩, by decide⟩
theorem Lk_RX12_252 : gx_LV RX12 252 Y_X12_lineOf 3 := ⟨LB_X12_lineOf _ _, gx_in7 66 rfl rfl, gx_in7 68 rfl rfl, gx_in 67 (by decide +kernel) rfl⟩
theorem LB_X12_blank (own : String) (idx : Nat) : gx_LB own idx Y_X12_blank 1 := ⟨gx_in1 13 rfl rfl, gx_in7 53 rfl rfl, ⟨by decide +kernel, by decide +kernel, by decide +kernel⟩, by decide⟩
theorem Lk_RX12_256 : gx_LV RX12 256 Y_X12_blank 1 := ⟨LB_X12_blank _ _, gx_in7 50 rfl rfl, gx_in7 52 rfl rfl, gx_in 63 (by decide +kernel) rfl⟩
theorem LB_X12_lines (own : String) (idx : Nat) : gx_LB own idx Y_X12_lines 1 := ⟨gx_in1 13 rfl rfl, gx_in7 65 rfl rfl, ⟨by decide +kernel, by decide +kernel, by decide +kernel⟩, by decide⟩
theorem Lk_RX12_259 : gx_LV RX12 259 Y_X12_lines 1 := ⟨LB_X12_lines _ _, gx_in7 62 rfl rfl, gx_in7 64 rfl rfl, gx_in 66 (by decide +kernel) rfl⟩
theorem LB_X12_store (own : String) (idx : Nat) : gx_LB own idx Y_X12_store 3 := ⟨gx_in1 13 rfl rfl, gx_in7 152 rfl rfl, ⟨by decide +kernel, by decide +kernel, by decide +kernel⟩, by decide⟩
theorem Lk_RX12_263 : gx_LV RX12 263 Y_X12_store 3 := ⟨LB_X12_store _ _, gx_in7 149 rfl rfl, gx_in7 151 rfl rfl, gx_in 82 (by decide +kernel) rfl⟩
theorem LB_X12_is (own : String) (idx : Nat) : gx_LB own idx Y_X12_is 2 := ⟨gx_in1 13 rfl rfl, gx_in7 45 rfl rfl, ⟨by decide +kernel, by decide +kernel, by decide +kernel⟩, by decide⟩
theorem Lk_RX12_267 : gx_LV RX12 267 Y_X12_is 2 := ⟨LB_X12_is _ _, gx_in7 42 rfl rfl, gx_in7 44 rfl rfl, gx_in 61 (by decide +kernel) rfl⟩
theorem LB_X12_readText (own : String) (idx : Nat) : gx_LB own idx Y_X12_readText 1 := ⟨gx_in1 13 rfl rfl, gx_in7 49 rfl rfl, ⟨by decide +kernel, by decide +kernel, by decide +kernel⟩, by decide⟩
theorem Lk_RX12_270 : gx_LV RX12 270 Y_X12_readText 1 := ⟨LB_X12_readText _ _, gx_in7 46 rfl rfl, gx_in7 48 rfl rfl, gx_in 62 (by decide +kernel) rfl⟩
theorem LB_X12_storeAll (own : String) (idx : Nat) : gx_LB own idx Y_X12_storeAll 2 := ⟨gx_in1 13 rfl rfl, gx_in7 148 rfl rfl, ⟨by decide +kernel, by decide +kernel, by decide +kernel⟩, by decide⟩
theorem Lk_RX12_273 : gx_LV RX12 273 Y_X12_storeAll 2 := ⟨LB_X12_storeAll _ _, gx_in7 145 rfl rfl, gx_in7 147 rfl rfl, gx_in 81 (by decide +kernel) rfl⟩
theorem LB_X12_of (own : String) (idx : Nat) : gx_LB own idx Y_X12_of 1 := ⟨gx_in1 13 rfl rfl, gx_in7 168 rfl rfl, ⟨by decide +kernel, by decide +kernel, by decide +kernel⟩, by decide⟩
theorem Lk_RX12_279 : gx_LV RX12 279 Y_X12_of 1 := ⟨LB_X12_of _ _, gx_in7 165 rfl rfl, gx_in7 167 rfl rfl, gx_in 84 (by decide +kernel) rfl⟩
theorem LB_X12_lengthOf (own : String) (idx : Nat) : gx_LB own idx Y_X12_lengthOf 1 := ⟨gx_in1 13 rfl rfl, gx_in7 232 rfl rfl, ⟨by decide +kernel, by decide +kernel, by decide +kernel⟩, by decide⟩
theorem Lk_RX12_295 : gx_LV RX12 295 Y_X12_lengthOf 1 := ⟨LB_X12_lengthOf _ _, gx_in7 229 rfl rfl, gx_in7 231 rfl rfl, gx_in 98 (by decide +kernel) rfl⟩
theorem LB_X12_hand (own : String) (idx : Nat) : gx_LB own idx Y_X12_hand 1 := ⟨gx_in1 13 rfl rfl, gx_in7 164 rfl rfl, ⟨by decide +kernel, by decide +kernel, by decide +kernel⟩, by decide⟩
theorem Lk_RX12_298 : gx_LV RX12 298 Y_X12_hand 1 := ⟨LB_X12_hand _ _, gx_in7 161 rfl rfl, gx_in7 163 rfl rfl, gx_in 83 (by decide +kernel) rfl⟩
theorem LB_X12_hasYear (own : String) (idx : Nat) : gx_LB own idx Y_X12_hasYear 1 := ⟨gx_in1 13 rfl rfl, gx_in7 176 rfl rfl, ⟨by decide +kernel, by decide +kernel, by decide +kernel⟩, by decide⟩
theorem Lk_RX12_304 : gx_LV RX12 304 Y_X12_hasYear 1 := ⟨LB_X12_hasYear _ _, gx_in7 173 rfl rfl, gx_in7 175 rfl rfl, gx_in 85 (by decide +kernel) rfl⟩
theorem LB_X12_deeds (own : String) (idx : Nat) : gx_LB own idx Y_X12_deeds 0 := ⟨gx_in1 13 rfl rfl, gx_in7 180 rfl rfl, ⟨by decide +kernel, by decide +kernel, by decide +kernel⟩, by decide⟩
theorem Lk_RX12_307 : gx_LV RX12 307 Y_X12_deeds 0 := ⟨LB_X12_deeds _ _, gx_in7 177 rfl rfl, gx_in7 179 rfl rfl, gx_in 86 (by decide +kernel) rfl⟩
theorem LB_X12_deedOf (own : String) (idx : Nat) : gx_LB own idx Y_X12_deedOf 2 := ⟨gx_in1 13 rfl rfl, gx_in7 184 rfl rfl, ⟨by decide +kernel, by decide +kernel, by decide +kernel⟩, by decide⟩
theorem Lk_RX12_310 : gx_LV RX12 310 Y_X12_deedOf 2 := ⟨LB_X12_deedOf _ _, gx_in7 181 rfl rfl, gx_in7 183 rfl rfl, gx_in 87 (by decide +kernel) rfl⟩
theorem LB_X12_isPerson (own : String) (idx : Nat) : gx_LB own idx Y_X12_isPerson 1 := ⟨gx_in1 13 rfl rfl, gx_in7 216 rfl rfl, ⟨by decide +kernel, by decide +kernel, by decide +kernel⟩, by decide⟩
theorem Lk_RX12_316 : gx_LV RX12 316 Y_X12_isPerson 1 := ⟨LB_X12_isPerson _ _, gx_in7 213 rfl rfl, gx_in7 215 rfl rfl, gx_in 94 (by decide +kernel) rfl⟩
theorem LB_X12_isTask (own : String) (idx : Nat) : gx_LB own idx Y_X12_isTask 1 := ⟨gx_in1 13 rfl rfl, gx_in7 220 rfl rfl, ⟨by decide +kernel, by decide +kernel, by decide +kernel⟩, by decide⟩
theorem Lk_RX12_319 : gx_LV RX12 319 Y_X12_isTask 1 := ⟨LB_X12_isTask _ _, gx_in7 217 rfl rfl, gx_in7 219 rfl rfl, gx_in 95 (by decide +kernel) rfl⟩
theorem LB_X12_isMinute (own : String) (idx : Nat) : gx_LB own idx Y_X12_isMinute 1 := ⟨gx_in1 13 rfl rfl, gx_in7 224 rfl rfl, ⟨by decide +kernel, by decide +kernel, by decide +kernel⟩, by decide⟩
theorem Lk_RX12_322 : gx_LV RX12 322 Y_X12_isMinute 1 := ⟨LB_X12_isMinute _ _, gx_in7 221 rfl rfl, gx_in7 223 rfl rfl, gx_in 96 (by decide +kernel) rfl⟩
theorem LB_X12_mayBegin (own : String) (idx : Nat) : gx_LB own idx Y_X12_mayBegin 2 := ⟨gx_in1 13 rfl rfl, gx_in7 228 rfl rfl, ⟨by decide +kernel, by decide +kernel, by decide +kernel⟩, by decide⟩
theorem Lk_RX12_325 : gx_LV RX12 325 Y_X12_mayBegin 2 := ⟨LB_X12_mayBegin _ _, gx_in7 225 rfl rfl, gx_in7 227 rfl rfl, gx_in 97 (by decide +kernel) rfl⟩
theorem LB_X12_doesTask (own : String) (idx : Nat) : gx_LB own idx Y_X12_doesTask 3 := ⟨gx_in1 13 rfl rfl, gx_in7 212 rfl rfl, ⟨by decide +kernel, by decide +kernel, by decide +kernel⟩, by decide⟩
theorem Lk_RX12_328 : gx_LV RX12 328 Y_X12_doesTask 3 := ⟨LB_X12_doesTask _ _, gx_in7 209 rfl rfl, gx_in7 211 rfl rfl, gx_in 93 (by decide +kernel) rfl⟩
theorem LB_X12_prices (own : String) (idx : Nat) : gx_LB own idx Y_X12_prices 2 := ⟨gx_in1 13 rfl rfl, gx_in7 236 rfl rfl, ⟨by decide +kernel, by decide +kernel, by decide +kernel⟩, by decide⟩
theorem Lk_RX12_331 : gx_LV RX12 331 Y_X12_prices 2 := ⟨LB_X12_prices _ _, gx_in7 233 rfl rfl, gx_in7 235 rfl rfl, gx_in 99 (by decide +kernel) rfl⟩
theorem LB_X12_buys (own : String) (idx : Nat) : gx_LB own idx Y_X12_buys 2 := ⟨gx_in1 13 rfl rfl, gx_in8 0 rfl rfl, ⟨by decide +kernel, by decide +kernel, by decide +kernel⟩, by decide⟩
theorem Lk_RX12_334 : gx_LV RX12 334 Y_X12_buys 2 := ⟨LB_X12_buys _ _, gx_in7 237 rfl rfl, gx_in7 239 rfl rfl, gx_in 100 (by decide +kernel) rfl⟩
theorem LB_X12_steals (own : String) (idx : Nat) : gx_LB own idx Y_X12_steals 2 := ⟨gx_in1 13 rfl rfl, gx_in8 4 rfl rfl, ⟨by decide +kernel, by decide +kernel, by decide +kernel⟩, by decide⟩
theorem Lk_RX12_337 : gx_LV RX12 337 Y_X12_steals 2 := ⟨LB_X12_steals _ _, gx_in8 1 rfl rfl, gx_in8 3 rfl rfl, gx_in 101 (by decide +kernel) rfl⟩
theorem LB_X12_sells (own : String) (idx : Nat) : gx_LB own idx Y_X12_sells 2 := ⟨gx_in1 13 rfl rfl, gx_in8 8 rfl rfl, ⟨by decide +kernel, by decide +kernel, by decide +kernel⟩, by decide⟩
theorem Lk_RX12_340 : gx_LV RX12 340 Y_X12_sells 2 := ⟨LB_X12_sells _ _, gx_in8 5 rfl rfl, gx_in8 7 rfl rfl, gx_in 102 (by decide +kernel) rfl⟩
theorem LB_X12_thinks (own : String) (idx : Nat) : gx_LB own idx Y_X12_thinks 2 := ⟨gx_in1 13 rfl rfl, gx_in8 12 rfl rfl, ⟨by decide +kernel, by decide +kernel, by decide +kernel⟩, by decide⟩
theorem Lk_RX12_343 : gx_LV RX12 343 Y_X12_thinks 2 := ⟨LB_X12_thinks _ _, gx_in8 9 rfl rfl, gx_in8 11 rfl rfl, gx_in 103 (by decide +kernel) rfl⟩
theorem LB_X12_does (own : String) (idx : Nat) : gx_LB own idx Y_X12_does 4 := ⟨gx_in1 13 rfl rfl, gx_in7 208 rfl rfl, ⟨by decide +kernel, by decide +kernel, by decide +kernel⟩, by decide⟩
theorem Lk_RX12_346 : gx_LV RX12 346 Y_X12_does 4 := ⟨LB_X12_does _ _, gx_in7 205 rfl rfl, gx_in7 207 rfl rfl, gx_in 92 (by decide +kernel) rfl⟩
theorem LB_X12_opens (own : String) (idx : Nat) : gx_LB own idx Y_X12_opens 0 := ⟨gx_in1 13 rfl rfl, gx_in7 200 rfl rfl, ⟨by decide +kernel, by decide +kernel, by decide +kernel⟩, by decide⟩
theorem Lk_RX12_350 : gx_LV RX12 350 Y_X12_opens 0 := ⟨LB_X12_opens _ _, gx_in7 197 rfl rfl, gx_in7 199 rfl rfl, gx_in 90 (by decide +kernel) rfl⟩
theorem LB_X12_doesDeed (own : String) (idx : Nat) : gx_LB own idx Y_X12_doesDeed 1 := ⟨gx_in1 13 rfl rfl, gx_in7 204 rfl rfl, ⟨by decide +kernel, by decide +kernel, by decide +kernel⟩, by decide⟩
theorem Lk_RX12_353 : gx_LV RX12 353 Y_X12_doesDeed 1 := ⟨LB_X12_doesDeed _ _, gx_in7 201 rfl rfl, gx_in7 203 rfl rfl, gx_in 91 (by decide +kernel) rfl⟩
theorem LB_X12_layAll (own : String) (idx : Nat) : gx_LB own idx Y_X12_layAll 2 := ⟨gx_in1 13 rfl rfl, gx_in7 192 rfl rfl, ⟨by decide +kernel, by decide +kernel, by decide +kernel⟩, by decide⟩
theorem Lk_RX12_356 : gx_LV RX12 356 Y_X12_layAll 2 := ⟨LB_X12_layAll _ _, gx_in7 189 rfl rfl, gx_in7 191 rfl rfl, gx_in 88 (by decide +kernel) rfl⟩
theorem LB_X12_play (own : String) (idx : Nat) : gx_LB own idx Y_X12_play 1 := ⟨gx_in1 13 rfl rfl, gx_in7 196 rfl rfl, ⟨by decide +kernel, by decide +kernel, by decide +kernel⟩, by decide⟩
theorem Lk_RX12_359 : gx_LV RX12 359 Y_X12_play 1 := ⟨LB_X12_play _ _, gx_in7 193 rfl rfl, gx_in7 195 rfl rfl, gx_in 89 (by decide +kernel) rfl⟩
theorem LB_X12_ofAll (own : String) (idx : Nat) : gx_LB own idx Y_X12_ofAll 1 := ⟨gx_in1 13 rfl rfl, gx_in8 24 rfl rfl, ⟨by decide +kernel, by decide +kernel, by decide +kernel⟩, by decide⟩
theorem Lk_RX12_362 : gx_LV RX12 362 Y_X12_ofAll 1 := ⟨LB_X12_ofAll _ _, gx_in8 21 rfl rfl, gx_in8 23 rfl rfl, gx_in 105 (by decide +kernel) rfl⟩
theorem LB_X12_minutesOf (own : String) (idx : Nat) : gx_LB own idx Y_X12_minutesOf 1 := ⟨gx_in1 13 rfl rfl, gx_in8 28 rfl rfl, ⟨by decide +kernel, by decide +kernel, by decide +kernel⟩, by decide⟩
theorem Lk_RX12_365 : gx_LV RX12 365 Y_X12_minutesOf 1 := ⟨LB_X12_minutesOf _ _, gx_in8 25 rfl rfl, gx_in8 27 rfl rfl, gx_in 106 (by decide +kernel) rfl⟩
theorem LB_X12_ofState (own : String) (idx : Nat) : gx_LB own idx Y_X12_ofState 1 := ⟨gx_in1 13 rfl rfl, gx_in8 20 rfl rfl, ⟨by decide +kernel, by decide +kernel, by decide +kernel⟩, by decide⟩
theorem Lk_RX12_368 : gx_LV RX12 368 Y_X12_ofState 1 := ⟨LB_X12_ofState _ _, gx_in8 17 rfl rfl, gx_in8 19 rfl rfl, gx_in 104 (by decide +kernel) rfl⟩
theorem LB_X12_cost (own : String) (idx : Nat) : gx_LB own idx Y_X12_cost 2 := ⟨gx_in1 13 rfl rfl, gx_in8 45 rfl rfl, ⟨by decide +kernel, by decide +kernel, by decide +kernel⟩, by decide⟩
theorem Lk_RX12_372 : gx_LV RX12 372 Y_X12_cost 2 := ⟨LB_X12_cost _ _, gx_in8 42 rfl rfl, gx_in8 44 rfl rfl, gx_in 109 (by decide +kernel) rfl⟩
theorem LB_X12_runCost (own : String) (idx : Nat) : gx_LB own idx Y_X12_runCost 3 := ⟨gx_in1 13 rfl rfl, gx_in8 41 rfl rfl, ⟨by decide +kernel, by decide +kernel, by decide +kernel⟩, by decide⟩
theorem Lk_RX12_378 : gx_LV RX12 378 Y_X12_runCost 3 := ⟨LB_X12_runCost _ _, gx_in8 38 rfl rfl, gx_in8 40 rfl rfl, gx_in 108 (by decide +kernel) rfl⟩
theorem LB_X12_firstRun (own : String) (idx : Nat) : gx_LB own idx Y_X12_firstRun 2 := ⟨gx_in1 13 rfl rfl, gx_in8 36 rfl rfl, ⟨by decide +kernel, by decide +kernel, by decide +kernel⟩, by decide⟩
theorem Lk_RX12_382 : gx_LV RX12 382 Y_X12_firstRun 2 := ⟨LB_X12_firstRun _ _, gx_in8 33 rfl rfl, gx_in8 35 rfl rfl, gx_in 107 (by decide +kernel) rfl⟩
theorem LB_X12_findCosts (own : String) (idx : Nat) : gx_LB own idx Y_X12_findCosts 1 := ⟨gx_in1 13 rfl rfl, gx_in8 64 rfl rfl, ⟨by decide +kernel, by decide +kernel, by decide +kernel⟩, by decide⟩
theorem Lk_RX12_385 : gx_LV RX12 385 Y_X12_findCosts 1 := ⟨LB_X12_findCosts _ _, gx_in8 61 rfl rfl, gx_in8 63 rfl rfl, gx_in 112 (by decide +kernel) rfl⟩
theorem LB_X12_costOf (own : String) (idx : Nat) : gx_LB own idx Y_X12_costOf 2 := ⟨gx_in1 13 rfl rfl, gx_in8 60 rfl rfl, ⟨by decide +kernel, by decide +kernel, by decide +kernel⟩, by decide⟩
theorem Lk_RX12_388 : gx_LV RX12 388 Y_X12_costOf 2 := ⟨LB_X12_costOf _ _, gx_in8 57 rfl rfl, gx_in8 59 rfl rfl, gx_in 111 (by decide +kernel) rfl⟩
theorem LB_X12_isSet (own : String) (idx : Nat) : gx_LB own idx Y_X12_isSet 1 := ⟨gx_in1 13 rfl rfl, gx_in8 56 rfl rfl, ⟨by decide +kernel, by decide +kernel, by decide +kernel⟩, by decide⟩
theorem Lk_RX12_391 : gx_LV RX12 391 Y_X12_isSet 1 := ⟨LB_X12_isSet _ _, gx_in8 53 rfl rfl, gx_in8 55 rfl rfl, gx_in 110 (by decide +kernel) rfl⟩
theorem LB_X12_beginOf (own : String) (idx : Nat) : gx_LB own idx Y_X12_beginOf 3 := ⟨gx_in1 13 rfl rfl, gx_in8 71 rfl rfl, ⟨by decide +kernel, by decide +kernel, by decide +kernel⟩, by decide⟩
theorem Lk_RX12_394 : gx_LV RX12 394 Y_X12_beginOf 3 := ⟨LB_X12_beginOf _ _, gx_in8 68 rfl rfl, gx_in8 70 rfl rfl, gx_in 113 (by decide +kernel) rfl⟩
theorem LB_X12_worthOf (own : String) (idx : Nat) : gx_LB own idx Y_X12_worthOf 1 := ⟨gx_in1 13 rfl rfl, gx_in8 83 rfl rfl, ⟨by decide +kernel, by decide +kernel, by decide +kernel⟩, by decide⟩
theorem Lk_RX12_400 : gx_LV RX12 400 Y_X12_worthOf 1 := ⟨LB_X12_worthOf _ _, gx_in8 80 rfl rfl, gx_in8 82 rfl rfl, gx_in 115 (by decide +kernel) rfl⟩
theorem LB_X12_planOf (own : String) (idx : Nat) : gx_LB own idx Y_X12_planOf 1 := ⟨gx_in1 13 rfl rfl, gx_in8 79 rfl rfl, ⟨by decide +kernel, by decide +kernel, by decide +kernel⟩, by decide⟩
theorem Lk_RX12_406 : gx_LV RX12 406 Y_X12_planOf 1 := ⟨LB_X12_planOf _ _, gx_in8 76 rfl rfl, gx_in8 78 rfl rfl, gx_in 114 (by decide +kernel) rfl⟩
theorem LB_X12_leadBy (own : String) (idx : Nat) : gx_LB own idx Y_X12_leadBy 2 := ⟨gx_in1 13 rfl rfl, gx_in8 94 rfl rfl, ⟨by decide +kernel, by decide +kernel, by decide +kernel⟩, by decide⟩
theorem Lk_RX12_409 : gx_LV RX12 409 Y_X12_leadBy 2 := ⟨LB_X12_leadBy _ _, gx_in8 91 rfl rfl, gx_in8 93 rfl rfl, gx_in 116 (by decide +kernel) rfl⟩
theorem LB_X12_runBits (own : String) (idx : Nat) : gx_LB own idx Y_X12_runBits 2 := ⟨gx_in1 13 rfl rfl, gx_in8 118 rfl rfl, ⟨by decide +kernel, by decide +kernel, by decide +kernel⟩, by decide⟩
theorem Lk_RX12_415 : gx_LV RX12 415 Y_X12_runBits 2 := ⟨LB_X12_runBits _ _, gx_in8 115 rfl rfl, gx_in8 117 rfl rfl, gx_in 120 (by decide +kernel) rfl⟩
theorem LB_X12_allHit (own : String) (idx : Nat) : gx_LB own idx Y_X12_allHit 1 := ⟨gx_in1 13 rfl rfl, gx_in8 131 rfl rfl, ⟨by decide +kernel, by decide +kernel, by decide +kernel⟩, by decide⟩
theorem Lk_RX12_421 : gx_LV RX12 421 Y_X12_allHit 1 := ⟨LB_X12_allHit _ _, gx_in8 128 rfl rfl, gx_in8 130 rfl rfl, gx_in 123 (by decide +kernel) rfl⟩
theorem LB_X12_fewestHits (own : String) (idx : Nat) : gx_LB own idx Y_X12_fewestHits 1 := ⟨gx_in1 13 rfl rfl, gx_in8 127 rfl rfl, ⟨by decide +kernel, by decide +kernel, by decide +kernel⟩, by decide⟩
theorem Lk_RX12_427 : gx_LV RX12 427 Y_X12_fewestHits 1 := ⟨LB_X12_fewestHits _ _, gx_in8 124 rfl rfl, gx_in8 126 rfl rfl, gx_in 122 (by decide +kernel) rfl⟩
theorem LB_X12_handsOf (own : String) (idx : Nat) : gx_LB own idx Y_X12_handsOf 1 := ⟨gx_in1 13 rfl rfl, gx_in8 106 rfl rfl, ⟨by decide +kernel, by decide +kernel, by decide +kernel⟩, by decide⟩
theorem Lk_RX12_430 : gx_LV RX12 430 Y_X12_handsOf 1 := ⟨LB_X12_handsOf _ _, gx_in8 103 rfl rfl, gx_in8 105 rfl rfl, gx_in 117 (by decide +kernel) rfl⟩
theorem LB_X12_allMinutes (own : String) (idx : Nat) : gx_LB own idx Y_X12_allMinutes 0 := ⟨gx_in1 13 rfl rfl, gx_in8 110 rfl rfl, ⟨by decide +kernel, by decide +kernel, by decide +kernel⟩, by decide⟩
theorem Lk_RX12_434 : gx_LV RX12 434 Y_X12_allMinutes 0 := ⟨LB_X12_allMinutes _ _, gx_in8 107 rfl rfl, gx_in8 109 rfl rfl, gx_in 118 (by decide +kernel) rfl⟩
theorem LB_X12_findRuns (own : String) (idx : Nat) : gx_LB own idx Y_X12_findRuns 2 := ⟨gx_in1 13 rfl rfl, gx_in8 114 rfl rfl, ⟨by decide +kernel, by decide +kernel, by decide +kernel⟩, by decide⟩
theorem Lk_RX12_438 : gx_LV RX12 438 Y_X12_findRuns 2 := ⟨LB_X12_findRuns _ _, gx_in8 111 rfl rfl, gx_in8 113 rfl rfl, gx_in 119 (by decide +kernel) rfl⟩
theorem LB_X12_hitOf (own : String) (idx : Nat) : gx_LB own idx Y_X12_hitOf 2 := ⟨gx_in1 13 rfl rfl, gx_in8 123 rfl rfl, ⟨by decide +kernel, by decide +kernel, by decide +kernel⟩, by decide⟩
theorem Lk_RX12_442 : gx_LV RX12 442 Y_X12_hitOf 2 := ⟨LB_X12_hitOf _ _, gx_in8 120 rfl rfl, gx_in8 122 rfl rfl, gx_in 121 (by decide +kernel) rfl⟩
theorem LB_X12_facts (own : String) (idx : Nat) : gx_LB own idx Y_X12_facts 0 := ⟨gx_in1 13 rfl rfl, gx_in8 163 rfl rfl, ⟨by decide +kernel, by decide +kernel, by decide +kernel⟩, by decide⟩
theorem Lk_RX12_470 : gx_LV RX12 470 Y_X12_facts 0 := ⟨LB_X12_facts _ _, gx_in8 160 rfl rfl, gx_in8 162 rfl rfl, gx_in 124 (by decide +kernel) rfl⟩
theorem LB_X12_factOf (own : String) (idx : Nat) : gx_LB own idx Y_X12_factOf 2 := ⟨gx_in1 13 rfl rfl, gx_in8 167 rfl rfl, ⟨by decide +kernel, by decide +kernel, by decide +kernel⟩, by decide⟩
theorem Lk_RX12_473 : gx_LV RX12 473 Y_X12_factOf 2 := ⟨LB_X12_factOf _ _, gx_in8 164 rfl rfl, gx_in8 166 rfl rfl, gx_in 125 (by decide +kernel) rfl⟩
theorem LB_X12_among (own : String) (idx : Nat) : gx_LB own idx Y_X12_among 1 := ⟨gx_in1 13 rfl rfl, gx_in8 187 rfl rfl, ⟨by decide +kernel, by decide +kernel, by decide +kernel⟩, by decide⟩
theorem Lk_RX12_476 : gx_LV RX12 476 Y_X12_among 1 := ⟨LB_X12_among _ _, gx_in8 184 rfl rfl, gx_in8 186 rfl rfl, gx_in 129 (by decide +kernel) rfl⟩
theorem LB_X12_layLog (own : String) (idx : Nat) : gx_LB own idx Y_X12_layLog 1 := ⟨gx_in1 13 rfl rfl, gx_in8 175 rfl rfl, ⟨by decide +kernel, by decide +kernel, by decide +kernel⟩, by decide⟩
theorem Lk_RX12_479 : gx_LV RX12 479 Y_X12_layLog 1 := ⟨LB_X12_layLog _ _, gx_in8 172 rfl rfl, gx_in8 174 rfl rfl, gx_in 126 (by decide +kernel) rfl⟩
theorem LB_X12_sureOf (own : String) (idx : Nat) : gx_LB own idx Y_X12_sureOf 1 := ⟨gx_in1 13 rfl rfl, gx_in8 179 rfl rfl, ⟨by decide +kernel, by decide +kernel, by decide +kernel⟩, by decide⟩
theorem Lk_RX12_482 : gx_LV RX12 482 Y_X12_sureOf 1 := ⟨LB_X12_sureOf _ _, gx_in8 176 rfl rfl, gx_in8 178 rfl rfl, gx_in 127 (by decide +kernel) rfl⟩
theorem LB_X12_seek (own : String) (idx : Nat) : gx_LB own idx Y_X12_seek 0 := ⟨gx_in1 13 rfl rfl, gx_in8 183 rfl rfl, ⟨by decide +kernel, by decide +kernel, by decide +kernel⟩, by decide⟩
theorem Lk_RX12_486 : gx_LV RX12 486 Y_X12_seek 0 := ⟨LB_X12_seek _ _, gx_in8 180 rfl rfl, gx_in8 182 rfl rfl, gx_in 128 (by decide +kernel) rfl⟩
theorem LB_X12_goRound (own : String) (idx : Nat) : gx_LB own idx Y_X12_goRound 0 := ⟨gx_in1 13 rfl rfl, gx_in8 199 rfl rfl, ⟨by decide +kernel, by decide +kernel, by decide +kernel⟩, by decide⟩
theorem Lk_RX12_498 : gx_LV RX12 498 Y_X12_goRound 0 := ⟨LB_X12_goRound _ _, gx_in8 196 rfl rfl, gx_in8 198 rfl rfl, gx_in 131 (by decide +kernel) rfl⟩
theorem LB_X12_worthTo (own : String) (idx : Nat) : gx_LB own idx Y_X12_worthTo 2 := ⟨gx_in1 13 rfl rfl, gx_in8 207 rfl rfl, ⟨by decide +kernel, by decide +kernel, by decide +kernel⟩, by decide⟩
theorem Lk_RX12_501 : gx_LV RX12 501 Y_X12_worthTo 2 := ⟨LB_X12_worthTo _ _, gx_in8 204 rfl rfl, gx_in8 206 rfl rfl, gx_in 133 (by decide +kernel) rfl⟩
theorem LB_X12_pointOf (own : String) (idx : Nat) : gx_LB own idx Y_X12_pointOf 1 := ⟨gx_in1 13 rfl rfl, gx_in8 203 rfl rfl, ⟨by decide +kernel, by decide +kernel, by decide +kernel⟩, by decide⟩
theorem Lk_RX12_504 : gx_LV RX12 504 Y_X12_pointOf 1 := ⟨LB_X12_pointOf _ _, gx_in8 200 rfl rfl, gx_in8 202 rfl rfl, gx_in 132 (by decide +kernel) rfl⟩
theorem LB_X12_isInRing (own : String) (idx : Nat) : gx_LB own idx Y_X12_isInRing 1 := ⟨gx_in1 13 rfl rfl, gx_in8 211 rfl rfl, ⟨by decide +kernel, by decide +kernel, by decide +kernel⟩, by decide⟩
theorem Lk_RX12_507 : gx_LV RX12 507 Y_X12_isInRing 1 := ⟨LB_X12_isInRing _ _, gx_in8 208 rfl rfl, gx_in8 210 rfl rfl, gx_in 134 (by decide +kernel) rfl⟩
theorem LB_X12_hasSwap (own : String) (idx : Nat) : gx_LB own idx Y_X12_hasSwap 1 := ⟨gx_in1 13 rfl rfl, gx_in8 195 rfl rfl, ⟨by decide +kernel, by decide +kernel, by decide +kernel⟩, by decide⟩
theorem Lk_RX12_510 : gx_LV RX12 510 Y_X12_hasSwap 1 := ⟨LB_X12_hasSwap _ _, gx_in8 192 rfl rfl, gx_in8 194 rfl rfl, gx_in 130 (by decide +kernel) rfl⟩
theorem LB_X12_gain (own : String) (idx : Nat) : gx_LB own idx Y_X12_gain 0 := ⟨gx_in1 13 rfl rfl, gx_in8 215 rfl rfl, ⟨by decide +kernel, by decide +kernel, by decide +kernel⟩, by decide⟩
theorem Lk_RX12_513 : gx_LV RX12 513 Y_X12_gain 0 := ⟨LB_X12_gain _ _, gx_in8 212 rfl rfl, gx_in8 214 rfl rfl, gx_in 135 (by decide +kernel) rfl⟩
theorem LB_X12_draw (own : String) (idx : Nat) : gx_LB own idx Y_X12_draw 1 := ⟨gx_in1 13 rfl rfl, gx_in8 227 rfl rfl, ⟨by decide +kernel, by decide +kernel, by decide +kernel⟩, by decide⟩
theorem Lk_RX12_520 : gx_LV RX12 520 Y_X12_draw 1 := ⟨LB_X12_draw _ _, gx_in8 224 rfl rfl, gx_in8 226 rfl rfl, gx_in 137 (by decide +kernel) rfl⟩
theorem LB_X12_drawDeed (own : String) (idx : Nat) : gx_LB own idx Y_X12_drawDeed 0 := ⟨gx_in1 13 rfl rfl, gx_in8 223 rfl rfl, ⟨by decide +kernel, by decide +kernel, by decide +kernel⟩, by decide⟩
theorem Lk_RX12_523 : gx_LV RX12 523 Y_X12_drawDeed 0 := ⟨LB_X12_drawDeed _ _, gx_in8 220 rfl rfl, gx_in8 222 rfl rfl, gx_in 136 (by decide +kernel) rfl⟩
theorem LB_X12_anyRun (own : String) (idx : Nat) : gx_LB own idx Y_X12_anyRun 2 := ⟨gx_in1 13 rfl rfl, gx_in9 0 rfl rfl, ⟨by decide +kernel, by decide +kernel, by decide +kernel⟩, by decide⟩
theorem Lk_RX12_526 : gx_LV RX12 526 Y_X12_anyRun 2 := ⟨LB_X12_anyRun _ _, gx_in8 237 rfl rfl, gx_in8 239 rfl rfl, gx_in 138 (by decide +kernel) rfl⟩
theorem LB_X12_rankCost (own : String) (idx : Nat) : gx_LB own idx Y_X12_rankCost 2 := ⟨gx_in1 13 rfl rfl, gx_in9 28 rfl rfl, ⟨by decide +kernel, by decide +kernel, by decide +kernel⟩, by decide⟩
theorem Lk_RX12_530 : gx_LV RX12 530 Y_X12_rankCost 2 := ⟨LB_X12_rankCost _ _, gx_in9 25 rfl rfl, gx_in9 27 rfl rfl, gx_in 139 (by decide +kernel) rfl⟩
theorem LB_X12_restless (own : String) (idx : Nat) : gx_LB own idx Y_X12_restless 0 := ⟨gx_in1 13 rfl rfl, gx_in9 41 rfl rfl, ⟨by decide +kernel, by decide +kernel, by decide +kernel⟩, by decide⟩
theorem Lk_RX12_535 : gx_LV RX12 535 Y_X12_restless 0 := ⟨LB_X12_restless _ _, gx_in9 38 rfl rfl, gx_in9 40 rfl rfl, gx_in 140 (by decide +kernel) rfl⟩
theorem LB_X12_richest (own : String) (idx : Nat) : gx_LB own idx Y_X12_richest 0 := ⟨gx_in1 13 rfl rfl, gx_in9 45 rfl rfl, ⟨by decide +kernel, by decide +kernel, by decide +kernel⟩, by decide⟩
theorem Lk_RX12_538 : gx_LV RX12 538 Y_X12_richest 0 := ⟨LB_X12_richest _ _, gx_in9 42 rfl rfl, gx_in9 44 rfl rfl, gx_in 141 (by decide +kernel) rfl⟩
theorem LB_X12_victim (own : String) (idx : Nat) : gx_LB own idx Y_X12_victim 0 := ⟨gx_in1 13 rfl rfl, gx_in9 49 rfl rfl, ⟨by decide +kernel, by decide +kernel, by decide +kernel⟩, by decide⟩
theorem Lk_RX12_541 : gx_LV RX12 541 Y_X12_victim 0 := ⟨LB_X12_victim _ _, gx_in9 46 rfl rfl, gx_in9 48 rfl rfl, gx_in 142 (by decide +kernel) rfl⟩
theorem LB_X12_happyOnes (own : String) (idx : Nat) : gx_LB own idx Y_X12_happyOnes 0 := ⟨gx_in1 13 rfl rfl, gx_in9 61 rfl rfl, ⟨by decide +kernel, by decide +kernel, by decide +kernel⟩, by decide⟩
theorem Lk_RX12_544 : gx_LV RX12 544 Y_X12_happyOnes 0 := ⟨LB_X12_happyOnes _ _, gx_in9 58 rfl rfl, gx_in9 60 rfl rfl, gx_in 143 (by decide +kernel) rfl⟩
theorem LB_X12_copyAll (own : String) (idx : Nat) : gx_LB own idx Y_X12_copyAll 2 := ⟨gx_in1 13 rfl rfl, gx_in9 73 rfl rfl, ⟨by decide +kernel, by decide +kernel, by decide +kernel⟩, by decide⟩
theorem Lk_RX12_547 : gx_LV RX12 547 Y_X12_copyAll 2 := ⟨LB_X12_copyAll _ _, gx_in9 70 rfl rfl, gx_in9 72 rfl rfl, gx_in 144 (by decide +kernel) rfl⟩
