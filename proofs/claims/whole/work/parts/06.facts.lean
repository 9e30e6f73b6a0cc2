/-! methods; what their instructions link -/
abbrev mX6_act : Mi := (RX6, cX6_act, 4, (some .int))
abbrev mX0_forget : Mi := (RX0, cX0_forget, 1, none)
abbrev mX4_has : Mi := (RX4, cX4_has, 2, (some .boolean))
abbrev mX0_perform : Mi := (RX0, cX0_perform, 5, (some .int))
abbrev mX0_run : Mi := (RX0, cX0_run, 7, (some .int))
abbrev mX0_runBody : Mi := (RX0, cX0_runBody, 5, (some .int))
abbrev mX0_note : Mi := (RX0, cX0_note, 2, none)
abbrev mX6_as : Mi := (RX6, cX6_as, 3, (some .int))
abbrev mX6_isUnder : Mi := (RX6, cX6_isUnder, 4, (some .boolean))
abbrev mX6_cost : Mi := (RX6, cX6_cost, 2, (some .int))
abbrev mX1_load : Mi := (RX1, cX1_load, 3, none)
abbrev mX4_openFrom : Mi := (RX4, cX4_openFrom, 4, (some .int))
abbrev mX4_isOpen : Mi := (RX4, cX4_isOpen, 3, (some .boolean))
abbrev mX4_isShut : Mi := (RX4, cX4_isShut, 3, (some .boolean))
abbrev mX4_allowed : Mi := (RX4, cX4_allowed, 3, (some .int))
abbrev mX5_sum : Mi := (RX5, cX5_sum, 6, (some .int))
abbrev mX4_uneven : Mi := (RX4, cX4_uneven, 2, (some .int))
abbrev mJ6_bitCount_0f7a4 : Mi := (RJ6, cJ6_bitCount_0f7a4, 1, (some .int))
abbrev mX5_holds : Mi := (RX5, cX5_holds, 6, (some .boolean))
abbrev mX5_passes : Mi := (RX5, cX5_passes, 4, (some .boolean))
abbrev mX4_fine : Mi := (RX4, cX4_fine, 3, (some .int))
abbrev mX4_step : Mi := (RX4, cX4_step, 3, (some .int))
abbrev mX1_solve : Mi := (RX1, cX1_solve, 5, (some .int))
abbrev mX1_build : Mi := (RX1, cX1_build, 4, none)
abbrev mJ7_fill_53178 : Mi := (RJ7, cJ7_fill_53178, 4, none)
abbrev mX1_join : Mi := (RX1, cX1_join, 5, none)
abbrev mX1_putEdge : Mi := (RX1, cX1_putEdge, 5, none)
abbrev mX1_isUnsettled : Mi := (RX1, cX1_isUnsettled, 2, (some .boolean))
abbrev mX1_search : Mi := (RX1, cX1_search, 5, none)
abbrev mX1_nearest : Mi := (RX1, cX1_nearest, 4, (some .int))
abbrev mX1_send : Mi := (RX1, cX1_send, 6, (some .int))
abbrev mX6_count : Mi := (RX6, cX6_count, 2, (some .int))
abbrev mX6_day : Mi := (RX6, cX6_day, 3, (some .int))
abbrev mX6_errands : Mi := (RX6, cX6_errands, 4, (some .int))
abbrev mX3_load : Mi := (RX3, cX3_load, 6, none)
abbrev mX3_price : Mi := (RX3, cX3_price, 3, (some .int))
abbrev mX3_plan : Mi := (RX3, cX3_plan, 5, none)
abbrev mX3_leastRest : Mi := (RX3, cX3_leastRest, 5, (some .int))
abbrev mX3_restBy : Mi := (RX3, cX3_restBy, 4, (some .int))
abbrev mX3_inOrder : Mi := (RX3, cX3_inOrder, 7, (some .int))
abbrev mX3_planned : Mi := (RX3, cX3_planned, 4, (some .int))
abbrev mX3_firstOf : Mi := (RX3, cX3_firstOf, 5, (some .int))
abbrev mX6_feed : Mi := (RX6, cX6_feed, 2, (some .int))
abbrev mX6_fresh : Mi := (RX6, cX6_fresh, 5, (some .int))
abbrev mX6_refusalOfTwo : Mi := (RX6, cX6_refusalOfTwo, 3, (some .int))
abbrev mX4_hasBoth : Mi := (RX4, cX4_hasBoth, 3, (some .boolean))
abbrev mX6_gate : Mi := (RX6, cX6_gate, 3, (some .int))
abbrev mX6_go : Mi := (RX6, cX6_go, 4, (some .int))
abbrev mX6_image : Mi := (RX6, cX6_image, 1, (some .int))
abbrev mX4_copyFrom : Mi := (RX4, cX4_copyFrom, 2, none)
abbrev mX5_copyFrom : Mi := (RX5, cX5_copyFrom, 2, none)
abbrev mX6_lead : Mi := (RX6, cX6_lead, 6, (some .int))
abbrev mX6_need : Mi := (RX6, cX6_need, 5, (some .int))
abbrev mX6_of : Mi := (RX6, cX6_of, 3, (some .int))
abbrev mX4_pays : Mi := (RX4, cX4_pays, 3, (some .int))
abbrev mX6_stand : Mi := (RX6, cX6_stand, 1, (some .int))
abbrev mX4_paying : Mi := (RX4, cX4_paying, 3, (some .int))
abbrev mX3_bestPlace : Mi := (RX3, cX3_bestPlace, 7, (some .int))
abbrev mX6_stray : Mi := (RX6, cX6_stray, 5, (some .long))
abbrev mX3_chance : Mi := (RX3, cX3_chance, 9, (some .long))
abbrev mX3_begin : Mi := (RX3, cX3_begin, 2, none)
abbrev mJ7_fill_d0a16 : Mi := (RJ7, cJ7_fill_d0a16, 5, none)
abbrev mX3_commonDivisor : Mi := (RX3, cX3_commonDivisor, 11, (some .long))
abbrev mX3_share : Mi := (RX3, cX3_share, 3, none)
abbrev mX3_give : Mi := (RX3, cX3_give, 5, none)
abbrev mX6_street : Mi := (RX6, cX6_street, 3, (some .int))
abbrev mX4_add : Mi := (RX4, cX4_add, 4, (some .int))
abbrev mX6_tally : Mi := (RX6, cX6_tally, 6, (some .int))
abbrev mX6_tell : Mi := (RX6, cX6_tell, 3, (some .int))
abbrev mX6_told : Mi := (RX6, cX6_told, 2, (some .int))
abbrev mX4_paysOfAll : Mi := (RX4, cX4_paysOfAll, 3, (some .int))
abbrev mX4_unevenOfAll : Mi := (RX4, cX4_unevenOfAll, 3, (some .int))
abbrev mX6_town : Mi := (RX6, cX6_town, 2, (some .int))
abbrev mX2_read : Mi := (RX2, cX2_read, 4, (some .int))
abbrev mX5_clear : Mi := (RX5, cX5_clear, 1, none)
abbrev mX2_readHead : Mi := (RX2, cX2_readHead, 1, (some .boolean))
abbrev mX2_take : Mi := (RX2, cX2_take, 2, (some .boolean))
abbrev mX2_readRest : Mi := (RX2, cX2_readRest, 4, (some .boolean))
abbrev mJ0_length_8abf5 : Mi := (RJ0, cJ0_length_8abf5, 1, (some .int))
abbrev mX2_readNumber : Mi := (RX2, cX2_readNumber, 3, (some .boolean))
abbrev mX2_digit : Mi := (RX2, cX2_digit, 1, (some .int))
abbrev mX5_begin : Mi := (RX5, cX5_begin, 3, none)
abbrev mX5_isFull : Mi := (RX5, cX5_isFull, 1, (some .boolean))
abbrev mJ0_charAt_5068e : Mi := (RJ0, cJ0_charAt_5068e, 2, (some .char))
abbrev mX2_readEither : Mi := (RX2, cX2_readEither, 3, (some .boolean))
abbrev mX2_readBoth : Mi := (RX2, cX2_readBoth, 3, (some .boolean))
abbrev mX2_readPart : Mi := (RX2, cX2_readPart, 5, (some .boolean))
abbrev mX2_readTest : Mi := (RX2, cX2_readTest, 3, (some .boolean))
abbrev mX2_takeOneOf : Mi := (RX2, cX2_takeOneOf, 3, (some .int))
abbrev mX5_putTest : Mi := (RX5, cX5_putTest, 4, none)
abbrev mX5_put : Mi := (RX5, cX5_put, 2, none)
abbrev mX6_trace : Mi := (RX6, cX6_trace, 2, (some .int))
abbrev mX6_undo : Mi := (RX6, cX6_undo, 1, (some .int))
abbrev mX6_way : Mi := (RX6, cX6_way, 3, (some .int))
abbrev mX3_cheapestWay : Mi := (RX3, cX3_cheapestWay, 3, (some .int))
abbrev mX6_ways : Mi := (RX6, cX6_ways, 4, (some .long))
abbrev mX3_walks : Mi := (RX3, cX3_walks, 6, (some .long))
abbrev mX6_wrong : Mi := (RX6, cX6_wrong, 2, (some .int))
abbrev mX4_off : Mi := (RX4, cX4_off, 3, (some .int))
abbrev mX4_wrongOnes : Mi := (RX4, cX4_wrongOnes, 6, (some .int))
abbrev mX7_act : Mi := (RX7, cX7_act, 4, (some .int))
abbrev mX7_isStreet : Mi := (RX7, cX7_isStreet, 2, (some .boolean))
abbrev mX7_in : Mi := (RX7, cX7_in, 3, (some .boolean))
abbrev mX7_tellsActs : Mi := (RX7, cX7_tellsActs, 3, (some .int))
abbrev mX7_isUnder : Mi := (RX7, cX7_isUnder, 2, (some .boolean))
abbrev mX7_plainTells : Mi := (RX7, cX7_plainTells, 2, (some .int))
abbrev mX7_ranBody : Mi := (RX7, cX7_ranBody, 2, none)
abbrev mX7_paysActs : Mi := (RX7, cX7_paysActs, 2, (some .int))
abbrev mX7_plainPays : Mi := (RX7, cX7_plainPays, 2, (some .int))
abbrev mX7_countsActs : Mi := (RX7, cX7_countsActs, 2, (some .int))
abbrev mX7_plainCounts : Mi := (RX7, cX7_plainCounts, 2, (some .int))
abbrev mX7_as : Mi := (RX7, cX7_as, 3, (some .int))
abbrev mX7_cost : Mi := (RX7, cX7_cost, 3, (some .int))
abbrev mX7_looksForAll : Mi := (RX7, cX7_looksForAll, 3, none)
abbrev mX7_allowedOf : Mi := (RX7, cX7_allowedOf, 3, (some .int))
abbrev mX7_looks : Mi := (RX7, cX7_looks, 10, none)
abbrev mX7_uneven : Mi := (RX7, cX7_uneven, 2, (some .int))
abbrev mX7_size : Mi := (RX7, cX7_size, 1, (some .int))
abbrev mX7_leadsFrom : Mi := (RX7, cX7_leadsFrom, 4, (some .int))
abbrev mX7_count1 : Mi := (RX7, cX7_count1, 3, (some .int))
abbrev mX7_fineOf : Mi := (RX7, cX7_fineOf, 3, (some .int))
abbrev mX7_stepOf : Mi := (RX7, cX7_stepOf, 2, (some .int))
abbrev mX7_isOpen : Mi := (RX7, cX7_isOpen, 5, (some .boolean))
abbrev mX7_costBy : Mi := (RX7, cX7_costBy, 5, (some .int))
abbrev mX7_looksForRoads : Mi := (RX7, cX7_looksForRoads, 4, none)
abbrev mX7_road : Mi := (RX7, cX7_road, 5, none)
abbrev mX7_isPlace : Mi := (RX7, cX7_isPlace, 2, (some .boolean))
abbrev mX7_sends : Mi := (RX7, cX7_sends, 4, (some .boolean))
abbrev mX7_looksForFar : Mi := (RX7, cX7_looksForFar, 5, none)
abbrev mX7_before : Mi := (RX7, cX7_before, 2, (some .int))
abbrev mX7_roomBehind : Mi := (RX7, cX7_roomBehind, 3, (some .int))
abbrev mX7_count : Mi := (RX7, cX7_count, 2, (some .int))
abbrev mX7_day : Mi := (RX7, cX7_day, 3, (some .int))
abbrev mX7_errands : Mi := (RX7, cX7_errands, 5, (some .int))
abbrev mX7_looksForWays : Mi := (RX7, cX7_looksForWays, 5, none)
abbrev mX7_ordersFrom : Mi := (RX7, cX7_ordersFrom, 8, none)
abbrev mX7_feed : Mi := (RX7, cX7_feed, 2, (some .int))
abbrev mX7_fresh : Mi := (RX7, cX7_fresh, 3, (some .int))
abbrev mX7_changes : Mi := (RX7, cX7_changes, 5, (some .int))
abbrev mX7_gate : Mi := (RX7, cX7_gate, 3, (some .int))
abbrev mX7_go : Mi := (RX7, cX7_go, 4, (some .int))
abbrev mX7_image : Mi := (RX7, cX7_image, 2, (some .int))
abbrev mX7_lead : Mi := (RX7, cX7_lead, 5, (some .int))
abbrev mX7_need : Mi := (RX7, cX7_need, 3, (some .int))
abbrev mX7_of : Mi := (RX7, cX7_of, 3, (some .int))
abbrev mX7_paysOf : Mi := (RX7, cX7_paysOf, 3, (some .int))
abbrev mX7_openFrom : Mi := (RX7, cX7_openFrom, 4, (some .int))
abbrev mX7_stand : Mi := (RX7, cX7_stand, 8, (some .int))
abbrev mX7_paying : Mi := (RX7, cX7_paying, 3, (some .int))
abbrev mX7_stray : Mi := (RX7, cX7_stray, 8, (some .long))
abbrev mX7_begins : Mi := (RX7, cX7_begins, 3, none)
abbrev mX7_lowest : Mi := (RX7, cX7_lowest, 11, (some .long))
abbrev mX7_goesOn : Mi := (RX7, cX7_goesOn, 6, none)
abbrev mX7_street : Mi := (RX7, cX7_street, 5, (some .int))
abbrev mX7_tally : Mi := (RX7, cX7_tally, 6, (some .int))
abbrev mX7_tell : Mi := (RX7, cX7_tell, 3, (some .int))
abbrev mX7_told : Mi := (RX7, cX7_told, 4, (some .int))
abbrev mX7_town : Mi := (RX7, cX7_town, 2, (some .int))
abbrev mX7_clauseHere : Mi := (RX7, cX7_clauseHere, 1, none)
abbrev mX7_here : Mi := (RX7, cX7_here, 1, (some .int))
abbrev mX7_much : Mi := (RX7, cX7_much, 4, none)
abbrev mX7_spells : Mi := (RX7, cX7_spells, 3, none)
abbrev mX7_must : Mi := (RX7, cX7_must, 2, none)
abbrev mX7_figures : Mi := (RX7, cX7_figures, 3, (some .int))
abbrev mX7_factor : Mi := (RX7, cX7_factor, 5, none)
abbrev mX7_some : Mi := (RX7, cX7_some, 1, none)
abbrev mX7_every : Mi := (RX7, cX7_every, 1, none)
abbrev mX7_emits : Mi := (RX7, cX7_emits, 2, none)
abbrev mX7_among : Mi := (RX7, cX7_among, 3, (some .int))
abbrev mX7_trace : Mi := (RX7, cX7_trace, 2, (some .int))
abbrev mX7_undo : Mi := (RX7, cX7_undo, 2, (some .int))
abbrev mX7_way : Mi := (RX7, cX7_way, 3, (some .int))
abbrev mX7_ways : Mi := (RX7, cX7_ways, 5, (some .long))
abbrev mX7_wrong : Mi := (RX7, cX7_wrong, 6, (some .int))
theorem fl_X6_49 : am_fl RX6 49 6 6 := ⟨_, _, _, tyX6, rfl, by decide, inlX6, wm_r2 _ (List.mem_of_getElem? (i := 9) rfl), tyX6_ok, nmX6, Or.inl rfl⟩
theorem fl_X0_15 : am_fl RX0 15 0 0 := ⟨_, _, _, tyX0, rfl, by decide, inlX0, wm_r36 _ (List.mem_of_getElem? (i := 16) rfl), tyX0_ok, nmX0, Or.inr ⟨rfl, Or.inl rfl⟩⟩
theorem fp_X0_15 : am_fp RX0 15 0 0 .int := ⟨_, _, _, tyX0, rfl, by decide, inlX0, wm_r36 _ (List.mem_of_getElem? (i := 16) rfl), tyX0_ok, nmX0, rfl, rfl⟩
theorem cw_X6_208 : am_cv RX6 208 yX0_forget mX0_forget 0 := ⟨⟨wm_r36 _ (List.mem_of_getElem? (i := 12) rfl), wm_r2 _ (List.mem_of_getElem? (i := 8) rfl), wm_r36 _ (List.mem_of_getElem? (i := 15) rfl), by decide, by decide +kernel, by decide +kernel, by decide +kernel⟩, wm_r36 _ (List.mem_of_getElem? (i := 13) rfl), wm_r36 _ (List.mem_of_getElem? (i := 14) rfl)⟩
theorem fl_X6_12 : am_fl RX6 12 6 0 := ⟨_, _, _, tyX6, rfl, by decide, inlX6, wm_r1 _ (List.mem_of_getElem? (i := 15) rfl), tyX6_ok, nmX6, Or.inl rfl⟩
theorem fl_X4_43 : am_fl RX4 43 4 0 := ⟨_, _, _, tyX4, rfl, by decide, inlX4, wm_r15 _ (List.mem_of_getElem? (i := 12) rfl), tyX4_ok, nmX4, Or.inr ⟨rfl, Or.inl rfl⟩⟩
theorem cw_X6_97 : am_cv RX6 97 yX4_has mX4_has 1 := ⟨⟨wm_r17 _ (List.mem_of_getElem? (i := 3) rfl), wm_r1 _ (List.mem_of_getElem? (i := 14) rfl), wm_r16 _ (List.mem_of_getElem? (i := 9) rfl), by decide, by decide +kernel, by decide +kernel, by decide +kernel⟩, wm_r16 _ (List.mem_of_getElem? (i := 7) rfl), wm_r16 _ (List.mem_of_getElem? (i := 8) rfl)⟩
theorem fl_X0_19 : am_fl RX0 19 0 2 := ⟨_, _, _, tyX0, rfl, by decide, inlX0, wm_r36 _ (List.mem_of_getElem? (i := 21) rfl), tyX0_ok, nmX0, Or.inr ⟨rfl, Or.inl rfl⟩⟩
theorem fp_X0_19 : am_fp RX0 19 0 2 .int := ⟨_, _, _, tyX0, rfl, by decide, inlX0, wm_r36 _ (List.mem_of_getElem? (i := 21) rfl), tyX0_ok, nmX0, rfl, rfl⟩
theorem fl_X0_22 : am_fl RX0 22 4 1 := ⟨_, _, _, tyX4, rfl, by decide, inlX4, wm_r36 _ (List.mem_of_getElem? (i := 22) rfl), tyX4_ok, nmX4, Or.inl rfl⟩
theorem fl_X0_27 : am_fl RX0 27 0 3 := ⟨_, _, _, tyX0, rfl, by decide, inlX0, wm_r36 _ (List.mem_of_getElem? (i := 23) rfl), tyX0_ok, nmX0, Or.inr ⟨rfl, Or.inl rfl⟩⟩
theorem fp_X0_27 : am_fp RX0 27 0 3 .int := ⟨_, _, _, tyX0, rfl, by decide, inlX0, wm_r36 _ (List.mem_of_getElem? (i := 23) rfl), tyX0_ok, nmX0, rfl, rfl⟩
theorem fl_X0_29 : am_fl RX0 29 4 2 := ⟨_, _, _, tyX4, rfl, by decide, inlX4, wm_r37 _ (List.mem_of_getElem? (i := 0) rfl), tyX4_ok, nmX4, Or.inl rfl⟩
theorem fl_X0_32 : am_fl RX0 32 0 4 := ⟨_, _, _, tyX0, rfl, by decide, inlX0, wm_r37 _ (List.mem_of_getElem? (i := 1) rfl), tyX0_ok, nmX0, Or.inr ⟨rfl, Or.inl rfl⟩⟩
theorem fp_X0_32 : am_fp RX0 32 0 4 .int := ⟨_, _, _, tyX0, rfl, by decide, inlX0, wm_r37 _ (List.mem_of_getElem? (i := 1) rfl), tyX0_ok, nmX0, rfl, rfl⟩
theorem fl_X0_11 : am_fl RX0 11 0 1 := ⟨_, _, _, tyX0, rfl, by decide, inlX0, wm_r5 _ (List.mem_of_getElem? (i := 2) rfl), tyX0_ok, nmX0, Or.inl rfl⟩
theorem cw_X0_47 : am_cv RX0 47 yX0_note mX0_note 1 := ⟨⟨wm_r37 _ (List.mem_of_getElem? (i := 11) rfl), wm_r2 _ (List.mem_of_getElem? (i := 8) rfl), wm_r37 _ (List.mem_of_getElem? (i := 14) rfl), by decide, by decide +kernel, by decide +kernel, by decide +kernel⟩, wm_r37 _ (List.mem_of_getElem? (i := 12) rfl), wm_r37 _ (List.mem_of_getElem? (i := 13) rfl)⟩
theorem cw_X0_34 : am_cv RX0 34 yX0_run mX0_run 4 := ⟨⟨wm_r37 _ (List.mem_of_getElem? (i := 2) rfl), wm_r2 _ (List.mem_of_getElem? (i := 8) rfl), wm_r37 _ (List.mem_of_getElem? (i := 5) rfl), by decide, by decide +kernel, by decide +kernel, by decide +kernel⟩, wm_r37 _ (List.mem_of_getElem? (i := 3) rfl), wm_r37 _ (List.mem_of_getElem? (i := 4) rfl)⟩
theorem cw_X0_44 : am_cv RX0 44 yX0_runBody mX0_runBody 4 := ⟨⟨wm_r37 _ (List.mem_of_getElem? (i := 7) rfl), wm_r2 _ (List.mem_of_getElem? (i := 8) rfl), wm_r37 _ (List.mem_of_getElem? (i := 10) rfl), by decide, by decide +kernel, by decide +kernel, by decide +kernel⟩, wm_r37 _ (List.mem_of_getElem? (i := 8) rfl), wm_r37 _ (List.mem_of_getElem? (i := 9) rfl)⟩
theorem cw_X6_211 : am_cv RX6 211 yX0_perform mX0_perform 4 := ⟨⟨wm_r36 _ (List.mem_of_getElem? (i := 17) rfl), wm_r2 _ (List.mem_of_getElem? (i := 8) rfl), wm_r36 _ (List.mem_of_getElem? (i := 20) rfl), by decide, by decide +kernel, by decide +kernel, by decide +kernel⟩, wm_r36 _ (List.mem_of_getElem? (i := 18) rfl), wm_r36 _ (List.mem_of_getElem? (i := 19) rfl)⟩
theorem fl_X6_102 : am_fl RX6 102 4 1 := ⟨_, _, _, tyX4, rfl, by decide, inlX4, wm_r16 _ (List.mem_of_getElem? (i := 23) rfl), tyX4_ok, nmX4, Or.inl rfl⟩
theorem cw_X6_221 : am_cs RX6 221 yX6_isUnder mX6_isUnder 2 := ⟨⟨wm_r39 _ (List.mem_of_getElem? (i := 20) rfl), wm_r1 _ (List.mem_of_getElem? (i := 2) rfl), wm_r18 _ (List.mem_of_getElem? (i := 21) rfl), by decide, by decide +kernel, by decide +kernel, by decide +kernel⟩, wm_r18 _ (List.mem_of_getElem? (i := 20) rfl)⟩
theorem fl_X6_105 : am_fl RX6 105 4 2 := ⟨_, _, _, tyX4, rfl, by decide, inlX4, wm_r17 _ (List.mem_of_getElem? (i := 0) rfl), tyX4_ok, nmX4, Or.inl rfl⟩
theorem fl_X6_35 : am_fl RX6 35 6 4 := ⟨_, _, _, tyX6, rfl, by decide, inlX6, wm_r2 _ (List.mem_of_getElem? (i := 1) rfl), tyX6_ok, nmX6, Or.inl rfl⟩
theorem fl_X1_48 : am_fl RX1 48 4 0 := ⟨_, _, _, tyX4, rfl, by decide, inlX4, wm_r24 _ (List.mem_of_getElem? (i := 7) rfl), tyX4_ok, nmX4, Or.inr ⟨rfl, Or.inl rfl⟩⟩
theorem fl_X1_54 : am_fl RX1 54 1 0 := ⟨_, _, _, tyX1, rfl, by decide, inlX1, wm_r24 _ (List.mem_of_getElem? (i := 8) rfl), tyX1_ok, nmX1, Or.inr ⟨rfl, Or.inl rfl⟩⟩
theorem fp_X1_54 : am_fp RX1 54 1 0 .int := ⟨_, _, _, tyX1, rfl, by decide, inlX1, wm_r24 _ (List.mem_of_getElem? (i := 8) rfl), tyX1_ok, nmX1, rfl, rfl⟩
theorem fl_X1_9 : am_fl RX1 9 1 1 := ⟨_, _, _, tyX1, rfl, by decide, inlX1, wm_r4 _ (List.mem_of_getElem? (i := 0) rfl), tyX1_ok, nmX1, Or.inl rfl⟩
theorem fl_X4_24 : am_fl RX4 24 4 5 := ⟨_, _, _, tyX4, rfl, by decide, inlX4, wm_r2 _ (List.mem_of_getElem? (i := 19) rfl), tyX4_ok, nmX4, Or.inl rfl⟩
theorem fl_X4_15 : am_fl RX4 15 4 2 := ⟨_, _, _, tyX4, rfl, by decide, inlX4, wm_r2 _ (List.mem_of_getElem? (i := 16) rfl), tyX4_ok, nmX4, Or.inl rfl⟩
theorem fl_X4_9 : am_fl RX4 9 4 1 := ⟨_, _, _, tyX4, rfl, by decide, inlX4, wm_r2 _ (List.mem_of_getElem? (i := 15) rfl), tyX4_ok, nmX4, Or.inl rfl⟩
theorem fl_X4_53 : am_fl RX4 53 4 6 := ⟨_, _, _, tyX4, rfl, by decide, inlX4, wm_r17 _ (List.mem_of_getElem? (i := 12) rfl), tyX4_ok, nmX4, Or.inr ⟨rfl, Or.inl rfl⟩⟩
theorem cw_X4_96 : am_cv RX4 96 yX4_isShut mX4_isShut 1 := ⟨⟨wm_r19 _ (List.mem_of_getElem? (i := 19) rfl), wm_r1 _ (List.mem_of_getElem? (i := 14) rfl), wm_r19 _ (List.mem_of_getElem? (i := 22) rfl), by decide, by decide +kernel, by decide +kernel, by decide +kernel⟩, wm_r19 _ (List.mem_of_getElem? (i := 20) rfl), wm_r19 _ (List.mem_of_getElem? (i := 21) rfl)⟩
theorem cw_X4_99 : am_cv RX4 99 yX4_isOpen mX4_isOpen 2 := ⟨⟨wm_r19 _ (List.mem_of_getElem? (i := 15) rfl), wm_r1 _ (List.mem_of_getElem? (i := 14) rfl), wm_r19 _ (List.mem_of_getElem? (i := 18) rfl), by decide, by decide +kernel, by decide +kernel, by decide +kernel⟩, wm_r19 _ (List.mem_of_getElem? (i := 16) rfl), wm_r19 _ (List.mem_of_getElem? (i := 17) rfl)⟩
theorem cw_X1_55 : am_cv RX1 55 yX4_openFrom mX4_openFrom 1 := ⟨⟨wm_r24 _ (List.mem_of_getElem? (i := 9) rfl), wm_r1 _ (List.mem_of_getElem? (i := 14) rfl), wm_r19 _ (List.mem_of_getElem? (i := 14) rfl), by decide, by decide +kernel, by decide +kernel, by decide +kernel⟩, wm_r19 _ (List.mem_of_getElem? (i := 12) rfl), wm_r19 _ (List.mem_of_getElem? (i := 13) rfl)⟩
theorem fl_X1_15 : am_fl RX1 15 1 2 := ⟨_, _, _, tyX1, rfl, by decide, inlX1, wm_r4 _ (List.mem_of_getElem? (i := 1) rfl), tyX1_ok, nmX1, Or.inl rfl⟩
theorem fl_X4_33 : am_fl RX4 33 4 10 := ⟨_, _, _, tyX4, rfl, by decide, inlX4, wm_r3 _ (List.mem_of_getElem? (i := 0) rfl), tyX4_ok, nmX4, Or.inl rfl⟩
theorem fl_X5_24 : am_fl RX5 24 5 6 := ⟨_, _, _, tyX5, rfl, by decide, inlX5, wm_r3 _ (List.mem_of_getElem? (i := 11) rfl), tyX5_ok, nmX5, Or.inl rfl⟩
theorem fl_X5_48 : am_fl RX5 48 4 1 := ⟨_, _, _, tyX4, rfl, by decide, inlX4, wm_r17 _ (List.mem_of_getElem? (i := 17) rfl), tyX4_ok, nmX4, Or.inl rfl⟩
theorem fl_X4_18 : am_fl RX4 18 4 3 := ⟨_, _, _, tyX4, rfl, by decide, inlX4, wm_r2 _ (List.mem_of_getElem? (i := 17) rfl), tyX4_ok, nmX4, Or.inl rfl⟩
theorem fl_X4_21 : am_fl RX4 21 4 4 := ⟨_, _, _, tyX4, rfl, by decide, inlX4, wm_r2 _ (List.mem_of_getElem? (i := 18) rfl), tyX4_ok, nmX4, Or.inl rfl⟩
theorem cw_X5_53 : am_cv RX5 53 yX4_uneven mX4_uneven 1 := ⟨⟨wm_r18 _ (List.mem_of_getElem? (i := 0) rfl), wm_r1 _ (List.mem_of_getElem? (i := 14) rfl), wm_r17 _ (List.mem_of_getElem? (i := 7) rfl), by decide, by decide +kernel, by decide +kernel, by decide +kernel⟩, wm_r17 _ (List.mem_of_getElem? (i := 5) rfl), wm_r17 _ (List.mem_of_getElem? (i := 6) rfl)⟩
theorem fl_X5_62 : am_fl RX5 62 4 6 := ⟨_, _, _, tyX4, rfl, by decide, inlX4, wm_r17 _ (List.mem_of_getElem? (i := 22) rfl), tyX4_ok, nmX4, Or.inr ⟨rfl, Or.inl rfl⟩⟩
theorem fl_X5_65 : am_fl RX5 65 4 5 := ⟨_, _, _, tyX4, rfl, by decide, inlX4, wm_r17 _ (List.mem_of_getElem? (i := 23) rfl), tyX4_ok, nmX4, Or.inl rfl⟩
theorem cw_X5_68 : am_cs RX5 68 yJ6_bitCount_0f7a4 mJ6_bitCount_0f7a4 1 := ⟨⟨wm_r18 _ (List.mem_of_getElem? (i := 1) rfl), wm_r18 _ (List.mem_of_getElem? (i := 3) rfl), wm_r18 _ (List.mem_of_getElem? (i := 4) rfl), by decide, by decide +kernel, by decide +kernel, by decide +kernel⟩, wm_r18 _ (List.mem_of_getElem? (i := 2) rfl)⟩
theorem fl_X5_27 : am_fl RX5 27 5 0 := ⟨_, _, _, tyX5, rfl, by decide, inlX5, wm_r7 _ (List.mem_of_getElem? (i := 16) rfl), tyX5_ok, nmX5, Or.inr ⟨rfl, Or.inl rfl⟩⟩
theorem fl_X5_9 : am_fl RX5 9 5 1 := ⟨_, _, _, tyX5, rfl, by decide, inlX5, wm_r3 _ (List.mem_of_getElem? (i := 7) rfl), tyX5_ok, nmX5, Or.inl rfl⟩
theorem fl_X5_18 : am_fl RX5 18 5 3 := ⟨_, _, _, tyX5, rfl, by decide, inlX5, wm_r3 _ (List.mem_of_getElem? (i := 9) rfl), tyX5_ok, nmX5, Or.inl rfl⟩
theorem fl_X5_21 : am_fl RX5 21 5 5 := ⟨_, _, _, tyX5, rfl, by decide, inlX5, wm_r3 _ (List.mem_of_getElem? (i := 10) rfl), tyX5_ok, nmX5, Or.inl rfl⟩
theorem cw_X5_77 : am_cv RX5 77 yX5_passes mX5_passes 1 := ⟨⟨wm_r18 _ (List.mem_of_getElem? (i := 12) rfl), wm_r2 _ (List.mem_of_getElem? (i := 23) rfl), wm_r18 _ (List.mem_of_getElem? (i := 15) rfl), by decide, by decide +kernel, by decide +kernel, by decide +kernel⟩, wm_r18 _ (List.mem_of_getElem? (i := 13) rfl), wm_r18 _ (List.mem_of_getElem? (i := 14) rfl)⟩
theorem cw_X5_73 : am_cv RX5 73 yX5_holds mX5_holds 2 := ⟨⟨wm_r18 _ (List.mem_of_getElem? (i := 8) rfl), wm_r2 _ (List.mem_of_getElem? (i := 23) rfl), wm_r18 _ (List.mem_of_getElem? (i := 11) rfl), by decide, by decide +kernel, by decide +kernel, by decide +kernel⟩, wm_r18 _ (List.mem_of_getElem? (i := 9) rfl), wm_r18 _ (List.mem_of_getElem? (i := 10) rfl)⟩
theorem fl_X5_15 : am_fl RX5 15 5 2 := ⟨_, _, _, tyX5, rfl, by decide, inlX5, wm_r3 _ (List.mem_of_getElem? (i := 8) rfl), tyX5_ok, nmX5, Or.inl rfl⟩
theorem cw_X4_73 : am_cv RX4 73 yX5_sum mX5_sum 3 := ⟨⟨wm_r17 _ (List.mem_of_getElem? (i := 13) rfl), wm_r2 _ (List.mem_of_getElem? (i := 23) rfl), wm_r17 _ (List.mem_of_getElem? (i := 16) rfl), by decide, by decide +kernel, by decide +kernel, by decide +kernel⟩, wm_r17 _ (List.mem_of_getElem? (i := 14) rfl), wm_r17 _ (List.mem_of_getElem? (i := 15) rfl)⟩
theorem cw_X1_59 : am_cv RX1 59 yX4_allowed mX4_allowed 1 := ⟨⟨wm_r24 _ (List.mem_of_getElem? (i := 10) rfl), wm_r1 _ (List.mem_of_getElem? (i := 14) rfl), wm_r17 _ (List.mem_of_getElem? (i := 11) rfl), by decide, by decide +kernel, by decide +kernel, by decide +kernel⟩, wm_r17 _ (List.mem_of_getElem? (i := 9) rfl), wm_r17 _ (List.mem_of_getElem? (i := 10) rfl)⟩
theorem fl_X1_18 : am_fl RX1 18 1 3 := ⟨_, _, _, tyX1, rfl, by decide, inlX1, wm_r4 _ (List.mem_of_getElem? (i := 2) rfl), tyX1_ok, nmX1, Or.inl rfl⟩
theorem cw_X1_61 : am_cv RX1 61 yX4_uneven mX4_uneven 1 := ⟨⟨wm_r24 _ (List.mem_of_getElem? (i := 11) rfl), wm_r1 _ (List.mem_of_getElem? (i := 14) rfl), wm_r17 _ (List.mem_of_getElem? (i := 7) rfl), by decide, by decide +kernel, by decide +kernel, by decide +kernel⟩, wm_r17 _ (List.mem_of_getElem? (i := 5) rfl), wm_r17 _ (List.mem_of_getElem? (i := 6) rfl)⟩
theorem fl_X1_21 : am_fl RX1 21 1 4 := ⟨_, _, _, tyX1, rfl, by decide, inlX1, wm_r4 _ (List.mem_of_getElem? (i := 3) rfl), tyX1_ok, nmX1, Or.inl rfl⟩
theorem cw_X1_63 : am_cv RX1 63 yX4_fine mX4_fine 1 := ⟨⟨wm_r24 _ (List.mem_of_getElem? (i := 12) rfl), wm_r1 _ (List.mem_of_getElem? (i := 14) rfl), wm_r18 _ (List.mem_of_getElem? (i := 19) rfl), by decide, by decide +kernel, by decide +kernel, by decide +kernel⟩, wm_r18 _ (List.mem_of_getElem? (i := 17) rfl), wm_r18 _ (List.mem_of_getElem? (i := 18) rfl)⟩
theorem fl_X1_24 : am_fl RX1 24 1 5 := ⟨_, _, _, tyX1, rfl, by decide, inlX1, wm_r4 _ (List.mem_of_getElem? (i := 4) rfl), tyX1_ok, nmX1, Or.inl rfl⟩
theorem cw_X1_65 : am_cv RX1 65 yX4_step mX4_step 1 := ⟨⟨wm_r24 _ (List.mem_of_getElem? (i := 13) rfl), wm_r1 _ (List.mem_of_getElem? (i := 14) rfl), wm_r19 _ (List.mem_of_getElem? (i := 2) rfl), by decide, by decide +kernel, by decide +kernel, by decide +kernel⟩, wm_r19 _ (List.mem_of_getElem? (i := 0) rfl), wm_r19 _ (List.mem_of_getElem? (i := 1) rfl)⟩
theorem cw_X6_152 : am_cv RX6 152 yX1_load mX1_load 1 := ⟨⟨wm_r24 _ (List.mem_of_getElem? (i := 3) rfl), wm_r2 _ (List.mem_of_getElem? (i := 0) rfl), wm_r24 _ (List.mem_of_getElem? (i := 6) rfl), by decide, by decide +kernel, by decide +kernel, by decide +kernel⟩, wm_r24 _ (List.mem_of_getElem? (i := 4) rfl), wm_r24 _ (List.mem_of_getElem? (i := 5) rfl)⟩
theorem fl_X1_86 : am_fl RX1 86 1 6 := ⟨_, _, _, tyX1, rfl, by decide, inlX1, wm_r24 _ (List.mem_of_getElem? (i := 23) rfl), tyX1_ok, nmX1, Or.inr ⟨rfl, Or.inl rfl⟩⟩
theorem fp_X1_86 : am_fp RX1 86 1 6 .int := ⟨_, _, _, tyX1, rfl, by decide, inlX1, wm_r24 _ (List.mem_of_getElem? (i := 23) rfl), tyX1_ok, nmX1, rfl, rfl⟩
theorem fl_X1_39 : am_fl RX1 39 1 11 := ⟨_, _, _, tyX1, rfl, by decide, inlX1, wm_r4 _ (List.mem_of_getElem? (i := 9) rfl), tyX1_ok, nmX1, Or.inl rfl⟩
theorem cw_X1_89 : am_cs RX1 89 yJ7_fill_53178 mJ7_fill_53178 2 := ⟨⟨wm_r25 _ (List.mem_of_getElem? (i := 0) rfl), wm_r25 _ (List.mem_of_getElem? (i := 2) rfl), wm_r25 _ (List.mem_of_getElem? (i := 3) rfl), by decide, by decide +kernel, by decide +kernel, by decide +kernel⟩, wm_r25 _ (List.mem_of_getElem? (i := 1) rfl)⟩
theorem fl_X1_27 : am_fl RX1 27 1 7 := ⟨_, _, _, tyX1, rfl, by decide, inlX1, wm_r4 _ (List.mem_of_getElem? (i := 5) rfl), tyX1_ok, nmX1, Or.inl rfl⟩
theorem fl_X1_30 : am_fl RX1 30 1 8 := ⟨_, _, _, tyX1, rfl, by decide, inlX1, wm_r4 _ (List.mem_of_getElem? (i := 6) rfl), tyX1_ok, nmX1, Or.inl rfl⟩
theorem fl_X1_33 : am_fl RX1 33 1 9 := ⟨_, _, _, tyX1, rfl, by decide, inlX1, wm_r4 _ (List.mem_of_getElem? (i := 7) rfl), tyX1_ok, nmX1, Or.inl rfl⟩
theorem fl_X1_36 : am_fl RX1 36 1 10 := ⟨_, _, _, tyX1, rfl, by decide, inlX1, wm_r4 _ (List.mem_of_getElem? (i := 8) rfl), tyX1_ok, nmX1, Or.inl rfl⟩
theorem cw_X1_99 : am_cv RX1 99 yX1_putEdge mX1_putEdge 4 := ⟨⟨wm_r25 _ (List.mem_of_getElem? (i := 8) rfl), wm_r2 _ (List.mem_of_getElem? (i := 0) rfl), wm_r25 _ (List.mem_of_getElem? (i := 11) rfl), by decide, by decide +kernel, by decide +kernel, by decide +kernel⟩, wm_r25 _ (List.mem_of_getElem? (i := 9) rfl), wm_r25 _ (List.mem_of_getElem? (i := 10) rfl)⟩
theorem cw_X1_95 : am_cv RX1 95 yX1_join mX1_join 4 := ⟨⟨wm_r25 _ (List.mem_of_getElem? (i := 4) rfl), wm_r2 _ (List.mem_of_getElem? (i := 0) rfl), wm_r25 _ (List.mem_of_getElem? (i := 7) rfl), by decide, by decide +kernel, by decide +kernel, by decide +kernel⟩, wm_r25 _ (List.mem_of_getElem? (i := 5) rfl), wm_r25 _ (List.mem_of_getElem? (i := 6) rfl)⟩
theorem cw_X1_67 : am_cv RX1 67 yX1_build mX1_build 1 := ⟨⟨wm_r24 _ (List.mem_of_getElem? (i := 19) rfl), wm_r2 _ (List.mem_of_getElem? (i := 0) rfl), wm_r24 _ (List.mem_of_getElem? (i := 22) rfl), by decide, by decide +kernel, by decide +kernel, by decide +kernel⟩, wm_r24 _ (List.mem_of_getElem? (i := 20) rfl), wm_r24 _ (List.mem_of_getElem? (i := 21) rfl)⟩
theorem cw_X1_72 : am_cv RX1 72 yX1_isUnsettled mX1_isUnsettled 0 := ⟨⟨wm_r25 _ (List.mem_of_getElem? (i := 12) rfl), wm_r2 _ (List.mem_of_getElem? (i := 0) rfl), wm_r25 _ (List.mem_of_getElem? (i := 15) rfl), by decide, by decide +kernel, by decide +kernel, by decide +kernel⟩, wm_r25 _ (List.mem_of_getElem? (i := 13) rfl), wm_r25 _ (List.mem_of_getElem? (i := 14) rfl)⟩
theorem fl_X1_42 : am_fl RX1 42 1 12 := ⟨_, _, _, tyX1, rfl, by decide, inlX1, wm_r4 _ (List.mem_of_getElem? (i := 10) rfl), tyX1_ok, nmX1, Or.inl rfl⟩
theorem fl_X1_45 : am_fl RX1 45 1 13 := ⟨_, _, _, tyX1, rfl, by decide, inlX1, wm_r4 _ (List.mem_of_getElem? (i := 11) rfl), tyX1_ok, nmX1, Or.inl rfl⟩
theorem cw_X1_76 : am_cv RX1 76 yX1_search mX1_search 0 := ⟨⟨wm_r25 _ (List.mem_of_getElem? (i := 16) rfl), wm_r2 _ (List.mem_of_getElem? (i := 0) rfl), wm_r25 _ (List.mem_of_getElem? (i := 19) rfl), by decide, by decide +kernel, by decide +kernel, by decide +kernel⟩, wm_r25 _ (List.mem_of_getElem? (i := 17) rfl), wm_r25 _ (List.mem_of_getElem? (i := 18) rfl)⟩
theorem cw_X1_79 : am_cv RX1 79 yX1_nearest mX1_nearest 0 := ⟨⟨wm_r25 _ (List.mem_of_getElem? (i := 21) rfl), wm_r2 _ (List.mem_of_getElem? (i := 0) rfl), wm_r26 _ (List.mem_of_getElem? (i := 0) rfl), by decide, by decide +kernel, by decide +kernel, by decide +kernel⟩, wm_r25 _ (List.mem_of_getElem? (i := 22) rfl), wm_r25 _ (List.mem_of_getElem? (i := 23) rfl)⟩
theorem cw_X1_83 : am_cv RX1 83 yX1_send mX1_send 1 := ⟨⟨wm_r26 _ (List.mem_of_getElem? (i := 1) rfl), wm_r2 _ (List.mem_of_getElem? (i := 0) rfl), wm_r26 _ (List.mem_of_getElem? (i := 4) rfl), by decide, by decide +kernel, by decide +kernel, by decide +kernel⟩, wm_r26 _ (List.mem_of_getElem? (i := 2) rfl), wm_r26 _ (List.mem_of_getElem? (i := 3) rfl)⟩
theorem cw_X6_156 : am_cv RX6 156 yX1_solve mX1_solve 1 := ⟨⟨wm_r24 _ (List.mem_of_getElem? (i := 14) rfl), wm_r2 _ (List.mem_of_getElem? (i := 0) rfl), wm_r24 _ (List.mem_of_getElem? (i := 17) rfl), by decide, by decide +kernel, by decide +kernel, by decide +kernel⟩, wm_r24 _ (List.mem_of_getElem? (i := 15) rfl), wm_r24 _ (List.mem_of_getElem? (i := 16) rfl)⟩
theorem fl_X6_84 : am_fl RX6 84 4 0 := ⟨_, _, _, tyX4, rfl, by decide, inlX4, wm_r15 _ (List.mem_of_getElem? (i := 7) rfl), tyX4_ok, nmX4, Or.inr ⟨rfl, Or.inl rfl⟩⟩
theorem fl_X6_61 : am_fl RX6 61 4 9 := ⟨_, _, _, tyX4, rfl, by decide, inlX4, wm_r6 _ (List.mem_of_getElem? (i := 23) rfl), tyX4_ok, nmX4, Or.inr ⟨rfl, Or.inl rfl⟩⟩
theorem fl_X6_193 : am_fl RX6 193 4 11 := ⟨_, _, _, tyX4, rfl, by decide, inlX4, wm_r35 _ (List.mem_of_getElem? (i := 8) rfl), tyX4_ok, nmX4, Or.inr ⟨rfl, Or.inl rfl⟩⟩
theorem fl_X6_53 : am_fl RX6 53 4 7 := ⟨_, _, _, tyX4, rfl, by decide, inlX4, wm_r6 _ (List.mem_of_getElem? (i := 10) rfl), tyX4_ok, nmX4, Or.inr ⟨rfl, Or.inl rfl⟩⟩
theorem fl_X6_215 : am_fl RX6 215 0 0 := ⟨_, _, _, tyX0, rfl, by decide, inlX0, wm_r39 _ (List.mem_of_getElem? (i := 10) rfl), tyX0_ok, nmX0, Or.inr ⟨rfl, Or.inl rfl⟩⟩
theorem fl_X6_81 : am_fl RX6 81 4 6 := ⟨_, _, _, tyX4, rfl, by decide, inlX4, wm_r14 _ (List.mem_of_getElem? (i := 22) rfl), tyX4_ok, nmX4, Or.inr ⟨rfl, Or.inl rfl⟩⟩
theorem fp_X6_81 : am_fp RX6 81 4 6 .int := ⟨_, _, _, tyX4, rfl, by decide, inlX4, wm_r14 _ (List.mem_of_getElem? (i := 22) rfl), tyX4_ok, nmX4, rfl, rfl⟩
theorem fl_X6_42 : am_fl RX6 42 6 5 := ⟨_, _, _, tyX6, rfl, by decide, inlX6, wm_r2 _ (List.mem_of_getElem? (i := 5) rfl), tyX6_ok, nmX6, Or.inl rfl⟩
theorem fl_X3_28 : am_fl RX3 28 4 0 := ⟨_, _, _, tyX4, rfl, by decide, inlX4, wm_r29 _ (List.mem_of_getElem? (i := 16) rfl), tyX4_ok, nmX4, Or.inr ⟨rfl, Or.inl rfl⟩⟩
theorem fl_X3_34 : am_fl RX3 34 3 0 := ⟨_, _, _, tyX3, rfl, by decide, inlX3, wm_r29 _ (List.mem_of_getElem? (i := 17) rfl), tyX3_ok, nmX3, Or.inr ⟨rfl, Or.inl rfl⟩⟩
theorem fp_X3_34 : am_fp RX3 34 3 0 .int := ⟨_, _, _, tyX3, rfl, by decide, inlX3, wm_r29 _ (List.mem_of_getElem? (i := 17) rfl), tyX3_ok, nmX3, rfl, rfl⟩
theorem fl_X3_15 : am_fl RX3 15 3 2 := ⟨_, _, _, tyX3, rfl, by decide, inlX3, wm_r4 _ (List.mem_of_getElem? (i := 17) rfl), tyX3_ok, nmX3, Or.inl rfl⟩
theorem cw_X3_43 : am_cv RX3 43 yX3_price mX3_price 2 := ⟨⟨wm_r29 _ (List.mem_of_getElem? (i := 22) rfl), wm_r2 _ (List.mem_of_getElem? (i := 4) rfl), wm_r30 _ (List.mem_of_getElem? (i := 1) rfl), by decide, by decide +kernel, by decide +kernel, by decide +kernel⟩, wm_r29 _ (List.mem_of_getElem? (i := 23) rfl), wm_r30 _ (List.mem_of_getElem? (i := 0) rfl)⟩
theorem fl_X3_9 : am_fl RX3 9 3 1 := ⟨_, _, _, tyX3, rfl, by decide, inlX3, wm_r4 _ (List.mem_of_getElem? (i := 16) rfl), tyX3_ok, nmX3, Or.inl rfl⟩
theorem cw_X3_35 : am_cv RX3 35 yX4_openFrom mX4_openFrom 1 := ⟨⟨wm_r29 _ (List.mem_of_getElem? (i := 20) rfl), wm_r1 _ (List.mem_of_getElem? (i := 14) rfl), wm_r19 _ (List.mem_of_getElem? (i := 14) rfl), by decide, by decide +kernel, by decide +kernel, by decide +kernel⟩, wm_r19 _ (List.mem_of_getElem? (i := 12) rfl), wm_r19 _ (List.mem_of_getElem? (i := 13) rfl)⟩
theorem cw_X3_39 : am_cv RX3 39 yX4_step mX4_step 1 := ⟨⟨wm_r29 _ (List.mem_of_getElem? (i := 21) rfl), wm_r1 _ (List.mem_of_getElem? (i := 14) rfl), wm_r19 _ (List.mem_of_getElem? (i := 2) rfl), by decide, by decide +kernel, by decide +kernel, by decide +kernel⟩, wm_r19 _ (List.mem_of_getElem? (i := 0) rfl), wm_r19 _ (List.mem_of_getElem? (i := 1) rfl)⟩
theorem cw_X6_165 : am_cv RX6 165 yX3_load mX3_load 1 := ⟨⟨wm_r29 _ (List.mem_of_getElem? (i := 12) rfl), wm_r2 _ (List.mem_of_getElem? (i := 4) rfl), wm_r29 _ (List.mem_of_getElem? (i := 15) rfl), by decide, by decide +kernel, by decide +kernel, by decide +kernel⟩, wm_r29 _ (List.mem_of_getElem? (i := 13) rfl), wm_r29 _ (List.mem_of_getElem? (i := 14) rfl)⟩
theorem fl_X3_18 : am_fl RX3 18 3 3 := ⟨_, _, _, tyX3, rfl, by decide, inlX3, wm_r4 _ (List.mem_of_getElem? (i := 18) rfl), tyX3_ok, nmX3, Or.inl rfl⟩
theorem cw_X3_55 : am_cv RX3 55 yX3_restBy mX3_restBy 3 := ⟨⟨wm_r31 _ (List.mem_of_getElem? (i := 2) rfl), wm_r2 _ (List.mem_of_getElem? (i := 4) rfl), wm_r31 _ (List.mem_of_getElem? (i := 5) rfl), by decide, by decide +kernel, by decide +kernel, by decide +kernel⟩, wm_r31 _ (List.mem_of_getElem? (i := 3) rfl), wm_r31 _ (List.mem_of_getElem? (i := 4) rfl)⟩
theorem cw_X3_52 : am_cv RX3 52 yX3_leastRest mX3_leastRest 2 := ⟨⟨wm_r30 _ (List.mem_of_getElem? (i := 22) rfl), wm_r2 _ (List.mem_of_getElem? (i := 4) rfl), wm_r31 _ (List.mem_of_getElem? (i := 1) rfl), by decide, by decide +kernel, by decide +kernel, by decide +kernel⟩, wm_r30 _ (List.mem_of_getElem? (i := 23) rfl), wm_r31 _ (List.mem_of_getElem? (i := 0) rfl)⟩
theorem cw_X6_169 : am_cv RX6 169 yX3_plan mX3_plan 2 := ⟨⟨wm_r30 _ (List.mem_of_getElem? (i := 18) rfl), wm_r2 _ (List.mem_of_getElem? (i := 4) rfl), wm_r30 _ (List.mem_of_getElem? (i := 21) rfl), by decide, by decide +kernel, by decide +kernel, by decide +kernel⟩, wm_r30 _ (List.mem_of_getElem? (i := 19) rfl), wm_r30 _ (List.mem_of_getElem? (i := 20) rfl)⟩
theorem cw_X3_59 : am_cv RX3 59 yX3_planned mX3_planned 2 := ⟨⟨wm_r31 _ (List.mem_of_getElem? (i := 14) rfl), wm_r2 _ (List.mem_of_getElem? (i := 4) rfl), wm_r31 _ (List.mem_of_getElem? (i := 9) rfl), by decide, by decide +kernel, by decide +kernel, by decide +kernel⟩, wm_r31 _ (List.mem_of_getElem? (i := 7) rfl), wm_r31 _ (List.mem_of_getElem? (i := 8) rfl)⟩
theorem cw_X3_62 : am_cv RX3 62 yX3_firstOf mX3_firstOf 2 := ⟨⟨wm_r31 _ (List.mem_of_getElem? (i := 15) rfl), wm_r2 _ (List.mem_of_getElem? (i := 4) rfl), wm_r31 _ (List.mem_of_getElem? (i := 18) rfl), by decide, by decide +kernel, by decide +kernel, by decide +kernel⟩, wm_r31 _ (List.mem_of_getElem? (i := 16) rfl), wm_r31 _ (List.mem_of_getElem? (i := 17) rfl)⟩
theorem cw_X6_176 : am_cv RX6 176 yX3_inOrder mX3_inOrder 3 := ⟨⟨wm_r31 _ (List.mem_of_getElem? (i := 10) rfl), wm_r2 _ (List.mem_of_getElem? (i := 4) rfl), wm_r31 _ (List.mem_of_getElem? (i := 13) rfl), by decide, by decide +kernel, by decide +kernel, by decide +kernel⟩, wm_r31 _ (List.mem_of_getElem? (i := 11) rfl), wm_r31 _ (List.mem_of_getElem? (i := 12) rfl)⟩
theorem cw_X6_173 : am_cv RX6 173 yX3_planned mX3_planned 2 := ⟨⟨wm_r31 _ (List.mem_of_getElem? (i := 6) rfl), wm_r2 _ (List.mem_of_getElem? (i := 4) rfl), wm_r31 _ (List.mem_of_getElem? (i := 9) rfl), by decide, by decide +kernel, by decide +kernel, by decide +kernel⟩, wm_r31 _ (List.mem_of_getElem? (i := 7) rfl), wm_r31 _ (List.mem_of_getElem? (i := 8) rfl)⟩
theorem fl_X6_57 : am_fl RX6 57 4 8 := ⟨_, _, _, tyX4, rfl, by decide, inlX4, wm_r6 _ (List.mem_of_getElem? (i := 11) rfl), tyX4_ok, nmX4, Or.inl rfl⟩
theorem fp_X6_53 : am_fp RX6 53 4 7 .int := ⟨_, _, _, tyX4, rfl, by decide, inlX4, wm_r6 _ (List.mem_of_getElem? (i := 10) rfl), tyX4_ok, nmX4, rfl, rfl⟩
theorem cw_X4_69 : am_cv RX4 69 yX4_has mX4_has 1 := ⟨⟨wm_r16 _ (List.mem_of_getElem? (i := 6) rfl), wm_r1 _ (List.mem_of_getElem? (i := 14) rfl), wm_r16 _ (List.mem_of_getElem? (i := 9) rfl), by decide, by decide +kernel, by decide +kernel, by decide +kernel⟩, wm_r16 _ (List.mem_of_getElem? (i := 7) rfl), wm_r16 _ (List.mem_of_getElem? (i := 8) rfl)⟩
theorem cw_X6_143 : am_cv RX6 143 yX4_hasBoth mX4_hasBoth 2 := ⟨⟨wm_r16 _ (List.mem_of_getElem? (i := 2) rfl), wm_r1 _ (List.mem_of_getElem? (i := 14) rfl), wm_r16 _ (List.mem_of_getElem? (i := 5) rfl), by decide, by decide +kernel, by decide +kernel, by decide +kernel⟩, wm_r16 _ (List.mem_of_getElem? (i := 3) rfl), wm_r16 _ (List.mem_of_getElem? (i := 4) rfl)⟩
theorem cw_X6_91 : am_cv RX6 91 yX6_refusalOfTwo mX6_refusalOfTwo 2 := ⟨⟨wm_r15 _ (List.mem_of_getElem? (i := 22) rfl), wm_r1 _ (List.mem_of_getElem? (i := 2) rfl), wm_r16 _ (List.mem_of_getElem? (i := 1) rfl), by decide, by decide +kernel, by decide +kernel, by decide +kernel⟩, wm_r15 _ (List.mem_of_getElem? (i := 23) rfl), wm_r16 _ (List.mem_of_getElem? (i := 0) rfl)⟩
theorem fl_X6_162 : am_fl RX6 162 1 1 := ⟨_, _, _, tyX1, rfl, by decide, inlX1, wm_r28 _ (List.mem_of_getElem? (i := 15) rfl), tyX1_ok, nmX1, Or.inl rfl⟩
theorem fl_X6_160 : am_fl RX6 160 1 2 := ⟨_, _, _, tyX1, rfl, by decide, inlX1, wm_r28 _ (List.mem_of_getElem? (i := 6) rfl), tyX1_ok, nmX1, Or.inl rfl⟩
theorem cw_X6_148 : am_cv RX6 148 yX4_isOpen mX4_isOpen 2 := ⟨⟨wm_r23 _ (List.mem_of_getElem? (i := 8) rfl), wm_r1 _ (List.mem_of_getElem? (i := 14) rfl), wm_r19 _ (List.mem_of_getElem? (i := 18) rfl), by decide, by decide +kernel, by decide +kernel, by decide +kernel⟩, wm_r19 _ (List.mem_of_getElem? (i := 16) rfl), wm_r19 _ (List.mem_of_getElem? (i := 17) rfl)⟩
theorem fl_X6_111 : am_fl RX6 111 4 4 := ⟨_, _, _, tyX4, rfl, by decide, inlX4, wm_r17 _ (List.mem_of_getElem? (i := 2) rfl), tyX4_ok, nmX4, Or.inl rfl⟩
theorem fl_X6_108 : am_fl RX6 108 4 3 := ⟨_, _, _, tyX4, rfl, by decide, inlX4, wm_r17 _ (List.mem_of_getElem? (i := 1) rfl), tyX4_ok, nmX4, Or.inl rfl⟩
theorem cw_X6_114 : am_cv RX6 114 yX4_uneven mX4_uneven 1 := ⟨⟨wm_r17 _ (List.mem_of_getElem? (i := 4) rfl), wm_r1 _ (List.mem_of_getElem? (i := 14) rfl), wm_r17 _ (List.mem_of_getElem? (i := 7) rfl), by decide, by decide +kernel, by decide +kernel, by decide +kernel⟩, wm_r17 _ (List.mem_of_getElem? (i := 5) rfl), wm_r17 _ (List.mem_of_getElem? (i := 6) rfl)⟩
theorem fl_X6_18 : am_fl RX6 18 6 1 := ⟨_, _, _, tyX6, rfl, by decide, inlX6, wm_r1 _ (List.mem_of_getElem? (i := 16) rfl), tyX6_ok, nmX6, Or.inl rfl⟩
theorem fp_X4_43 : am_fp RX4 43 4 0 .int := ⟨_, _, _, tyX4, rfl, by decide, inlX4, wm_r15 _ (List.mem_of_getElem? (i := 12) rfl), tyX4_ok, nmX4, rfl, rfl⟩
theorem fp_X4_53 : am_fp RX4 53 4 6 .int := ⟨_, _, _, tyX4, rfl, by decide, inlX4, wm_r17 _ (List.mem_of_getElem? (i := 12) rfl), tyX4_ok, nmX4, rfl, rfl⟩
theorem fl_X4_56 : am_fl RX4 56 4 7 := ⟨_, _, _, tyX4, rfl, by decide, inlX4, wm_r40 _ (List.mem_of_getElem? (i := 10) rfl), tyX4_ok, nmX4, Or.inr ⟨rfl, Or.inl rfl⟩⟩
theorem fp_X4_56 : am_fp RX4 56 4 7 .int := ⟨_, _, _, tyX4, rfl, by decide, inlX4, wm_r40 _ (List.mem_of_getElem? (i := 10) rfl), tyX4_ok, nmX4, rfl, rfl⟩
theorem fl_X4_27 : am_fl RX4 27 4 8 := ⟨_, _, _, tyX4, rfl, by decide, inlX4, wm_r2 _ (List.mem_of_getElem? (i := 20) rfl), tyX4_ok, nmX4, Or.inl rfl⟩
theorem fl_X4_59 : am_fl RX4 59 4 9 := ⟨_, _, _, tyX4, rfl, by decide, inlX4, wm_r40 _ (List.mem_of_getElem? (i := 11) rfl), tyX4_ok, nmX4, Or.inr ⟨rfl, Or.inl rfl⟩⟩
theorem fp_X4_59 : am_fp RX4 59 4 9 .int := ⟨_, _, _, tyX4, rfl, by decide, inlX4, wm_r40 _ (List.mem_of_getElem? (i := 11) rfl), tyX4_ok, nmX4, rfl, rfl⟩
theorem fp_X5_27 : am_fp RX5 27 5 0 .int := ⟨_, _, _, tyX5, rfl, by decide, inlX5, wm_r7 _ (List.mem_of_getElem? (i := 16) rfl), tyX5_ok, nmX5, rfl, rfl⟩
theorem fl_X5_31 : am_fl RX5 31 5 4 := ⟨_, _, _, tyX5, rfl, by decide, inlX5, wm_r7 _ (List.mem_of_getElem? (i := 17) rfl), tyX5_ok, nmX5, Or.inr ⟨rfl, Or.inl rfl⟩⟩
theorem fp_X5_31 : am_fp RX5 31 5 4 .int := ⟨_, _, _, tyX5, rfl, by decide, inlX5, wm_r7 _ (List.mem_of_getElem? (i := 17) rfl), tyX5_ok, nmX5, rfl, rfl⟩
theorem cw_X4_62 : am_cv RX4 62 yX5_copyFrom mX5_copyFrom 1 := ⟨⟨wm_r40 _ (List.mem_of_getElem? (i := 12) rfl), wm_r2 _ (List.mem_of_getElem? (i := 23) rfl), wm_r12 _ (List.mem_of_getElem? (i := 9) rfl), by decide, by decide +kernel, by decide +kernel, by decide +kernel⟩, wm_r12 _ (List.mem_of_getElem? (i := 7) rfl), wm_r12 _ (List.mem_of_getElem? (i := 8) rfl)⟩
theorem fl_X4_66 : am_fl RX4 66 4 11 := ⟨_, _, _, tyX4, rfl, by decide, inlX4, wm_r35 _ (List.mem_of_getElem? (i := 23) rfl), tyX4_ok, nmX4, Or.inr ⟨rfl, Or.inl rfl⟩⟩
theorem fp_X4_66 : am_fp RX4 66 4 11 .int := ⟨_, _, _, tyX4, rfl, by decide, inlX4, wm_r35 _ (List.mem_of_getElem? (i := 23) rfl), tyX4_ok, nmX4, rfl, rfl⟩
theorem fl_X4_37 : am_fl RX4 37 4 12 := ⟨_, _, _, tyX4, rfl, by decide, inlX4, wm_r3 _ (List.mem_of_getElem? (i := 1) rfl), tyX4_ok, nmX4, Or.inl rfl⟩
theorem fl_X4_40 : am_fl RX4 40 4 13 := ⟨_, _, _, tyX4, rfl, by decide, inlX4, wm_r3 _ (List.mem_of_getElem? (i := 2) rfl), tyX4_ok, nmX4, Or.inl rfl⟩
theorem cw_X6_224 : am_cv RX6 224 yX4_copyFrom mX4_copyFrom 1 := ⟨⟨wm_r40 _ (List.mem_of_getElem? (i := 5) rfl), wm_r1 _ (List.mem_of_getElem? (i := 14) rfl), wm_r40 _ (List.mem_of_getElem? (i := 8) rfl), by decide, by decide +kernel, by decide +kernel, by decide +kernel⟩, wm_r40 _ (List.mem_of_getElem? (i := 6) rfl), wm_r40 _ (List.mem_of_getElem? (i := 7) rfl)⟩
theorem fl_X6_21 : am_fl RX6 21 6 2 := ⟨_, _, _, tyX6, rfl, by decide, inlX6, wm_r1 _ (List.mem_of_getElem? (i := 17) rfl), tyX6_ok, nmX6, Or.inr ⟨rfl, Or.inr rfl⟩⟩
theorem fp_X6_21 : am_fp RX6 21 6 2 .boolean := ⟨_, _, _, tyX6, rfl, by decide, inlX6, wm_r1 _ (List.mem_of_getElem? (i := 17) rfl), tyX6_ok, nmX6, rfl, rfl⟩
theorem fl_X6_94 : am_fl RX6 94 4 5 := ⟨_, _, _, tyX4, rfl, by decide, inlX4, wm_r15 _ (List.mem_of_getElem? (i := 21) rfl), tyX4_ok, nmX4, Or.inl rfl⟩
theorem cw_X6_118 : am_cv RX6 118 yX4_allowed mX4_allowed 1 := ⟨⟨wm_r17 _ (List.mem_of_getElem? (i := 8) rfl), wm_r1 _ (List.mem_of_getElem? (i := 14) rfl), wm_r17 _ (List.mem_of_getElem? (i := 11) rfl), by decide, by decide +kernel, by decide +kernel, by decide +kernel⟩, wm_r17 _ (List.mem_of_getElem? (i := 9) rfl), wm_r17 _ (List.mem_of_getElem? (i := 10) rfl)⟩
theorem cw_X6_121 : am_cv RX6 121 yX4_fine mX4_fine 1 := ⟨⟨wm_r18 _ (List.mem_of_getElem? (i := 16) rfl), wm_r1 _ (List.mem_of_getElem? (i := 14) rfl), wm_r18 _ (List.mem_of_getElem? (i := 19) rfl), by decide, by decide +kernel, by decide +kernel, by decide +kernel⟩, wm_r18 _ (List.mem_of_getElem? (i := 17) rfl), wm_r18 _ (List.mem_of_getElem? (i := 18) rfl)⟩
theorem cw_X6_124 : am_cv RX6 124 yX4_step mX4_step 1 := ⟨⟨wm_r18 _ (List.mem_of_getElem? (i := 23) rfl), wm_r1 _ (List.mem_of_getElem? (i := 14) rfl), wm_r19 _ (List.mem_of_getElem? (i := 2) rfl), by decide, by decide +kernel, by decide +kernel, by decide +kernel⟩, wm_r19 _ (List.mem_of_getElem? (i := 0) rfl), wm_r19 _ (List.mem_of_getElem? (i := 1) rfl)⟩
theorem cw_X4_81 : am_cv RX4 81 yX4_uneven mX4_uneven 1 := ⟨⟨wm_r19 _ (List.mem_of_getElem? (i := 8) rfl), wm_r1 _ (List.mem_of_getElem? (i := 14) rfl), wm_r17 _ (List.mem_of_getElem? (i := 7) rfl), by decide, by decide +kernel, by decide +kernel, by decide +kernel⟩, wm_r17 _ (List.mem_of_getElem? (i := 5) rfl), wm_r17 _ (List.mem_of_getElem? (i := 6) rfl)⟩
theorem cw_X4_90 : am_cv RX4 90 yX4_allowed mX4_allowed 1 := ⟨⟨wm_r19 _ (List.mem_of_getElem? (i := 9) rfl), wm_r1 _ (List.mem_of_getElem? (i := 14) rfl), wm_r17 _ (List.mem_of_getElem? (i := 11) rfl), by decide, by decide +kernel, by decide +kernel, by decide +kernel⟩, wm_r17 _ (List.mem_of_getElem? (i := 9) rfl), wm_r17 _ (List.mem_of_getElem? (i := 10) rfl)⟩
theorem cw_X4_93 : am_cv RX4 93 yX4_fine mX4_fine 1 := ⟨⟨wm_r19 _ (List.mem_of_getElem? (i := 10) rfl), wm_r1 _ (List.mem_of_getElem? (i := 14) rfl), wm_r18 _ (List.mem_of_getElem? (i := 19) rfl), by decide, by decide +kernel, by decide +kernel, by decide +kernel⟩, wm_r18 _ (List.mem_of_getElem? (i := 17) rfl), wm_r18 _ (List.mem_of_getElem? (i := 18) rfl)⟩
theorem cw_X6_127 : am_cv RX6 127 yX4_pays mX4_pays 1 := ⟨⟨wm_r19 _ (List.mem_of_getElem? (i := 3) rfl), wm_r1 _ (List.mem_of_getElem? (i := 14) rfl), wm_r19 _ (List.mem_of_getElem? (i := 6) rfl), by decide, by decide +kernel, by decide +kernel, by decide +kernel⟩, wm_r19 _ (List.mem_of_getElem? (i := 4) rfl), wm_r19 _ (List.mem_of_getElem? (i := 5) rfl)⟩
theorem cw_X6_130 : am_cv RX6 130 yX4_openFrom mX4_openFrom 1 := ⟨⟨wm_r19 _ (List.mem_of_getElem? (i := 11) rfl), wm_r1 _ (List.mem_of_getElem? (i := 14) rfl), wm_r19 _ (List.mem_of_getElem? (i := 14) rfl), by decide, by decide +kernel, by decide +kernel, by decide +kernel⟩, wm_r19 _ (List.mem_of_getElem? (i := 12) rfl), wm_r19 _ (List.mem_of_getElem? (i := 13) rfl)⟩
theorem cw_X4_102 : am_cv RX4 102 yX4_pays mX4_pays 1 := ⟨⟨wm_r22 _ (List.mem_of_getElem? (i := 9) rfl), wm_r1 _ (List.mem_of_getElem? (i := 14) rfl), wm_r19 _ (List.mem_of_getElem? (i := 6) rfl), by decide, by decide +kernel, by decide +kernel, by decide +kernel⟩, wm_r19 _ (List.mem_of_getElem? (i := 4) rfl), wm_r19 _ (List.mem_of_getElem? (i := 5) rfl)⟩
theorem cw_X6_140 : am_cv RX6 140 yX4_paying mX4_paying 0 := ⟨⟨wm_r22 _ (List.mem_of_getElem? (i := 14) rfl), wm_r1 _ (List.mem_of_getElem? (i := 14) rfl), wm_r22 _ (List.mem_of_getElem? (i := 17) rfl), by decide, by decide +kernel, by decide +kernel, by decide +kernel⟩, wm_r22 _ (List.mem_of_getElem? (i := 15) rfl), wm_r22 _ (List.mem_of_getElem? (i := 16) rfl)⟩
theorem cw_X6_180 : am_cv RX6 180 yX3_bestPlace mX3_bestPlace 1 := ⟨⟨wm_r32 _ (List.mem_of_getElem? (i := 8) rfl), wm_r2 _ (List.mem_of_getElem? (i := 4) rfl), wm_r32 _ (List.mem_of_getElem? (i := 11) rfl), by decide, by decide +kernel, by decide +kernel, by decide +kernel⟩, wm_r32 _ (List.mem_of_getElem? (i := 9) rfl), wm_r32 _ (List.mem_of_getElem? (i := 10) rfl)⟩
theorem fl_X3_21 : am_fl RX3 21 3 4 := ⟨_, _, _, tyX3, rfl, by decide, inlX3, wm_r4 _ (List.mem_of_getElem? (i := 20) rfl), tyX3_ok, nmX3, Or.inl rfl⟩
theorem cw_X3_69 : am_cs RX3 69 yJ7_fill_d0a16 mJ7_fill_d0a16 2 := ⟨⟨wm_r33 _ (List.mem_of_getElem? (i := 6) rfl), wm_r25 _ (List.mem_of_getElem? (i := 2) rfl), wm_r33 _ (List.mem_of_getElem? (i := 8) rfl), by decide, by decide +kernel, by decide +kernel, by decide +kernel⟩, wm_r33 _ (List.mem_of_getElem? (i := 7) rfl)⟩
theorem cw_X3_65 : am_cv RX3 65 yX3_begin mX3_begin 1 := ⟨⟨wm_r33 _ (List.mem_of_getElem? (i := 2) rfl), wm_r2 _ (List.mem_of_getElem? (i := 4) rfl), wm_r33 _ (List.mem_of_getElem? (i := 5) rfl), by decide, by decide +kernel, by decide +kernel, by decide +kernel⟩, wm_r33 _ (List.mem_of_getElem? (i := 3) rfl), wm_r33 _ (List.mem_of_getElem? (i := 4) rfl)⟩
theorem cw_X3_90 : am_cs RX3 90 yX3_commonDivisor mX3_commonDivisor 2 := ⟨⟨wm_r34 _ (List.mem_of_getElem? (i := 18) rfl), wm_r2 _ (List.mem_of_getElem? (i := 4) rfl), wm_r34 _ (List.mem_of_getElem? (i := 20) rfl), by decide, by decide +kernel, by decide +kernel, by decide +kernel⟩, wm_r34 _ (List.mem_of_getElem? (i := 19) rfl)⟩
theorem fl_X3_25 : am_fl RX3 25 3 5 := ⟨_, _, _, tyX3, rfl, by decide, inlX3, wm_r4 _ (List.mem_of_getElem? (i := 21) rfl), tyX3_ok, nmX3, Or.inl rfl⟩
theorem cw_X3_96 : am_cs RX3 96 yJ6_bitCount_0f7a4 mJ6_bitCount_0f7a4 1 := ⟨⟨wm_r34 _ (List.mem_of_getElem? (i := 17) rfl), wm_r18 _ (List.mem_of_getElem? (i := 3) rfl), wm_r18 _ (List.mem_of_getElem? (i := 4) rfl), by decide, by decide +kernel, by decide +kernel, by decide +kernel⟩, wm_r18 _ (List.mem_of_getElem? (i := 2) rfl)⟩
theorem cw_X3_75 : am_cv RX3 75 yX3_give mX3_give 2 := ⟨⟨wm_r33 _ (List.mem_of_getElem? (i := 9) rfl), wm_r2 _ (List.mem_of_getElem? (i := 4) rfl), wm_r33 _ (List.mem_of_getElem? (i := 12) rfl), by decide, by decide +kernel, by decide +kernel, by decide +kernel⟩, wm_r33 _ (List.mem_of_getElem? (i := 10) rfl), wm_r33 _ (List.mem_of_getElem? (i := 11) rfl)⟩
theorem cw_X3_87 : am_cv RX3 87 yX3_share mX3_share 1 := ⟨⟨wm_r34 _ (List.mem_of_getElem? (i := 13) rfl), wm_r2 _ (List.mem_of_getElem? (i := 4) rfl), wm_r34 _ (List.mem_of_getElem? (i := 16) rfl), by decide, by decide +kernel, by decide +kernel, by decide +kernel⟩, wm_r34 _ (List.mem_of_getElem? (i := 14) rfl), wm_r34 _ (List.mem_of_getElem? (i := 15) rfl)⟩
theorem cw_X6_189 : am_cv RX6 189 yX3_chance mX3_chance 4 := ⟨⟨wm_r34 _ (List.mem_of_getElem? (i := 7) rfl), wm_r2 _ (List.mem_of_getElem? (i := 4) rfl), wm_r34 _ (List.mem_of_getElem? (i := 10) rfl), by decide, by decide +kernel, by decide +kernel, by decide +kernel⟩, wm_r34 _ (List.mem_of_getElem? (i := 8) rfl), wm_r34 _ (List.mem_of_getElem? (i := 9) rfl)⟩
theorem cw_X6_87 : am_cv RX6 87 yX4_add mX4_add 2 := ⟨⟨wm_r15 _ (List.mem_of_getElem? (i := 8) rfl), wm_r1 _ (List.mem_of_getElem? (i := 14) rfl), wm_r15 _ (List.mem_of_getElem? (i := 11) rfl), by decide, by decide +kernel, by decide +kernel, by decide +kernel⟩, wm_r15 _ (List.mem_of_getElem? (i := 9) rfl), wm_r15 _ (List.mem_of_getElem? (i := 10) rfl)⟩
theorem fl_X6_196 : am_fl RX6 196 4 12 := ⟨_, _, _, tyX4, rfl, by decide, inlX4, wm_r35 _ (List.mem_of_getElem? (i := 9) rfl), tyX4_ok, nmX4, Or.inl rfl⟩
theorem fl_X6_199 : am_fl RX6 199 4 13 := ⟨_, _, _, tyX4, rfl, by decide, inlX4, wm_r35 _ (List.mem_of_getElem? (i := 10) rfl), tyX4_ok, nmX4, Or.inl rfl⟩
theorem fp_X6_193 : am_fp RX6 193 4 11 .int := ⟨_, _, _, tyX4, rfl, by decide, inlX4, wm_r35 _ (List.mem_of_getElem? (i := 8) rfl), tyX4_ok, nmX4, rfl, rfl⟩
theorem cw_X6_133 : am_cv RX6 133 yX4_paysOfAll mX4_paysOfAll 0 := ⟨⟨wm_r22 _ (List.mem_of_getElem? (i := 5) rfl), wm_r1 _ (List.mem_of_getElem? (i := 14) rfl), wm_r22 _ (List.mem_of_getElem? (i := 8) rfl), by decide, by decide +kernel, by decide +kernel, by decide +kernel⟩, wm_r22 _ (List.mem_of_getElem? (i := 6) rfl), wm_r22 _ (List.mem_of_getElem? (i := 7) rfl)⟩
theorem cw_X6_137 : am_cv RX6 137 yX4_unevenOfAll mX4_unevenOfAll 0 := ⟨⟨wm_r22 _ (List.mem_of_getElem? (i := 10) rfl), wm_r1 _ (List.mem_of_getElem? (i := 14) rfl), wm_r22 _ (List.mem_of_getElem? (i := 13) rfl), by decide, by decide +kernel, by decide +kernel, by decide +kernel⟩, wm_r22 _ (List.mem_of_getElem? (i := 11) rfl), wm_r22 _ (List.mem_of_getElem? (i := 12) rfl)⟩
theorem fl_X6_28 : am_fl RX6 28 6 3 := ⟨_, _, _, tyX6, rfl, by decide, inlX6, wm_r1 _ (List.mem_of_getElem? (i := 21) rfl), tyX6_ok, nmX6, Or.inl rfl⟩
theorem fl_X2_9 : am_fl RX2 9 2 1 := ⟨_, _, _, tyX2, rfl, by decide, inlX2, wm_r3 _ (List.mem_of_getElem? (i := 16) rfl), tyX2_ok, nmX2, Or.inl rfl⟩
theorem fl_X2_28 : am_fl RX2 28 2 2 := ⟨_, _, _, tyX2, rfl, by decide, inlX2, wm_r7 _ (List.mem_of_getElem? (i := 10) rfl), tyX2_ok, nmX2, Or.inr ⟨rfl, Or.inl rfl⟩⟩
theorem fp_X2_28 : am_fp RX2 28 2 2 .int := ⟨_, _, _, tyX2, rfl, by decide, inlX2, wm_r7 _ (List.mem_of_getElem? (i := 10) rfl), tyX2_ok, nmX2, rfl, rfl⟩
theorem fl_X2_32 : am_fl RX2 32 2 3 := ⟨_, _, _, tyX2, rfl, by decide, inlX2, wm_r7 _ (List.mem_of_getElem? (i := 11) rfl), tyX2_ok, nmX2, Or.inr ⟨rfl, Or.inl rfl⟩⟩
theorem fp_X2_32 : am_fp RX2 32 2 3 .int := ⟨_, _, _, tyX2, rfl, by decide, inlX2, wm_r7 _ (List.mem_of_getElem? (i := 11) rfl), tyX2_ok, nmX2, rfl, rfl⟩
theorem fl_X2_18 : am_fl RX2 18 2 0 := ⟨_, _, _, tyX2, rfl, by decide, inlX2, wm_r3 _ (List.mem_of_getElem? (i := 18) rfl), tyX2_ok, nmX2, Or.inl rfl⟩
theorem cw_X2_35 : am_cv RX2 35 yX5_clear mX5_clear 0 := ⟨⟨wm_r7 _ (List.mem_of_getElem? (i := 12) rfl), wm_r2 _ (List.mem_of_getElem? (i := 23) rfl), wm_r7 _ (List.mem_of_getElem? (i := 15) rfl), by decide, by decide +kernel, by decide +kernel, by decide +kernel⟩, wm_r7 _ (List.mem_of_getElem? (i := 13) rfl), wm_r7 _ (List.mem_of_getElem? (i := 14) rfl)⟩
theorem cw_X2_49 : am_cv RX2 49 yX2_take mX2_take 1 := ⟨⟨wm_r7 _ (List.mem_of_getElem? (i := 22) rfl), wm_r1 _ (List.mem_of_getElem? (i := 20) rfl), wm_r8 _ (List.mem_of_getElem? (i := 1) rfl), by decide, by decide +kernel, by decide +kernel, by decide +kernel⟩, wm_r7 _ (List.mem_of_getElem? (i := 23) rfl), wm_r8 _ (List.mem_of_getElem? (i := 0) rfl)⟩
theorem cw_X2_62 : am_cv RX2 62 yJ0_length_8abf5 mJ0_length_8abf5 0 := ⟨⟨wm_r8 _ (List.mem_of_getElem? (i := 7) rfl), wm_r8 _ (List.mem_of_getElem? (i := 10) rfl), wm_r8 _ (List.mem_of_getElem? (i := 11) rfl), by decide, by decide +kernel, by decide +kernel, by decide +kernel⟩, wm_r8 _ (List.mem_of_getElem? (i := 8) rfl), wm_r8 _ (List.mem_of_getElem? (i := 9) rfl)⟩
theorem cw_X2_107 : am_cv RX2 107 yX2_digit mX2_digit 0 := ⟨⟨wm_r10 _ (List.mem_of_getElem? (i := 12) rfl), wm_r1 _ (List.mem_of_getElem? (i := 20) rfl), wm_r10 _ (List.mem_of_getElem? (i := 15) rfl), by decide, by decide +kernel, by decide +kernel, by decide +kernel⟩, wm_r10 _ (List.mem_of_getElem? (i := 13) rfl), wm_r10 _ (List.mem_of_getElem? (i := 14) rfl)⟩
theorem fl_X2_75 : am_fl RX2 75 2 4 := ⟨_, _, _, tyX2, rfl, by decide, inlX2, wm_r8 _ (List.mem_of_getElem? (i := 6) rfl), tyX2_ok, nmX2, Or.inr ⟨rfl, Or.inl rfl⟩⟩
theorem fp_X2_75 : am_fp RX2 75 2 4 .int := ⟨_, _, _, tyX2, rfl, by decide, inlX2, wm_r8 _ (List.mem_of_getElem? (i := 6) rfl), tyX2_ok, nmX2, rfl, rfl⟩
theorem cw_X2_72 : am_cv RX2 72 yX2_readNumber mX2_readNumber 0 := ⟨⟨wm_r10 _ (List.mem_of_getElem? (i := 8) rfl), wm_r1 _ (List.mem_of_getElem? (i := 20) rfl), wm_r10 _ (List.mem_of_getElem? (i := 11) rfl), by decide, by decide +kernel, by decide +kernel, by decide +kernel⟩, wm_r10 _ (List.mem_of_getElem? (i := 9) rfl), wm_r10 _ (List.mem_of_getElem? (i := 10) rfl)⟩
theorem cw_X5_40 : am_cv RX5 40 yX5_isFull mX5_isFull 0 := ⟨⟨wm_r10 _ (List.mem_of_getElem? (i := 20) rfl), wm_r2 _ (List.mem_of_getElem? (i := 23) rfl), wm_r10 _ (List.mem_of_getElem? (i := 23) rfl), by decide, by decide +kernel, by decide +kernel, by decide +kernel⟩, wm_r10 _ (List.mem_of_getElem? (i := 21) rfl), wm_r10 _ (List.mem_of_getElem? (i := 22) rfl)⟩
theorem cw_X2_78 : am_cv RX2 78 yX5_begin mX5_begin 2 := ⟨⟨wm_r10 _ (List.mem_of_getElem? (i := 16) rfl), wm_r2 _ (List.mem_of_getElem? (i := 23) rfl), wm_r10 _ (List.mem_of_getElem? (i := 19) rfl), by decide, by decide +kernel, by decide +kernel, by decide +kernel⟩, wm_r10 _ (List.mem_of_getElem? (i := 17) rfl), wm_r10 _ (List.mem_of_getElem? (i := 18) rfl)⟩
theorem cw_X2_68 : am_cv RX2 68 yJ0_charAt_5068e mJ0_charAt_5068e 1 := ⟨⟨wm_r8 _ (List.mem_of_getElem? (i := 19) rfl), wm_r8 _ (List.mem_of_getElem? (i := 10) rfl), wm_r8 _ (List.mem_of_getElem? (i := 22) rfl), by decide, by decide +kernel, by decide +kernel, by decide +kernel⟩, wm_r8 _ (List.mem_of_getElem? (i := 20) rfl), wm_r8 _ (List.mem_of_getElem? (i := 21) rfl)⟩
theorem cw_X2_54 : am_cv RX2 54 yX2_readRest mX2_readRest 2 := ⟨⟨wm_r8 _ (List.mem_of_getElem? (i := 2) rfl), wm_r1 _ (List.mem_of_getElem? (i := 20) rfl), wm_r8 _ (List.mem_of_getElem? (i := 5) rfl), by decide, by decide +kernel, by decide +kernel, by decide +kernel⟩, wm_r8 _ (List.mem_of_getElem? (i := 3) rfl), wm_r8 _ (List.mem_of_getElem? (i := 4) rfl)⟩
theorem cw_X2_38 : am_cv RX2 38 yX2_readHead mX2_readHead 0 := ⟨⟨wm_r7 _ (List.mem_of_getElem? (i := 18) rfl), wm_r1 _ (List.mem_of_getElem? (i := 20) rfl), wm_r7 _ (List.mem_of_getElem? (i := 21) rfl), by decide, by decide +kernel, by decide +kernel, by decide +kernel⟩, wm_r7 _ (List.mem_of_getElem? (i := 19) rfl), wm_r7 _ (List.mem_of_getElem? (i := 20) rfl)⟩
theorem cw_X2_97 : am_cv RX2 97 yX2_takeOneOf mX2_takeOneOf 1 := ⟨⟨wm_r11 _ (List.mem_of_getElem? (i := 20) rfl), wm_r1 _ (List.mem_of_getElem? (i := 20) rfl), wm_r11 _ (List.mem_of_getElem? (i := 23) rfl), by decide, by decide +kernel, by decide +kernel, by decide +kernel⟩, wm_r11 _ (List.mem_of_getElem? (i := 21) rfl), wm_r11 _ (List.mem_of_getElem? (i := 22) rfl)⟩
theorem cw_X5_44 : am_cv RX5 44 yX5_put mX5_put 1 := ⟨⟨wm_r12 _ (List.mem_of_getElem? (i := 4) rfl), wm_r2 _ (List.mem_of_getElem? (i := 23) rfl), wm_r11 _ (List.mem_of_getElem? (i := 10) rfl), by decide, by decide +kernel, by decide +kernel, by decide +kernel⟩, wm_r11 _ (List.mem_of_getElem? (i := 8) rfl), wm_r11 _ (List.mem_of_getElem? (i := 9) rfl)⟩
theorem cw_X2_103 : am_cv RX2 103 yX5_putTest mX5_putTest 3 := ⟨⟨wm_r12 _ (List.mem_of_getElem? (i := 0) rfl), wm_r2 _ (List.mem_of_getElem? (i := 23) rfl), wm_r12 _ (List.mem_of_getElem? (i := 3) rfl), by decide, by decide +kernel, by decide +kernel, by decide +kernel⟩, wm_r12 _ (List.mem_of_getElem? (i := 1) rfl), wm_r12 _ (List.mem_of_getElem? (i := 2) rfl)⟩
theorem cw_X2_92 : am_cv RX2 92 yX2_readTest mX2_readTest 0 := ⟨⟨wm_r11 _ (List.mem_of_getElem? (i := 16) rfl), wm_r1 _ (List.mem_of_getElem? (i := 20) rfl), wm_r11 _ (List.mem_of_getElem? (i := 19) rfl), by decide, by decide +kernel, by decide +kernel, by decide +kernel⟩, wm_r11 _ (List.mem_of_getElem? (i := 17) rfl), wm_r11 _ (List.mem_of_getElem? (i := 18) rfl)⟩
theorem cw_X2_85 : am_cv RX2 85 yX5_put mX5_put 1 := ⟨⟨wm_r11 _ (List.mem_of_getElem? (i := 7) rfl), wm_r2 _ (List.mem_of_getElem? (i := 23) rfl), wm_r11 _ (List.mem_of_getElem? (i := 10) rfl), by decide, by decide +kernel, by decide +kernel, by decide +kernel⟩, wm_r11 _ (List.mem_of_getElem? (i := 8) rfl), wm_r11 _ (List.mem_of_getElem? (i := 9) rfl)⟩
theorem cw_X2_42 : am_cv RX2 42 yX2_readEither mX2_readEither 1 := ⟨⟨wm_r11 _ (List.mem_of_getElem? (i := 0) rfl), wm_r1 _ (List.mem_of_getElem? (i := 20) rfl), wm_r11 _ (List.mem_of_getElem? (i := 3) rfl), by decide, by decide +kernel, by decide +kernel, by decide +kernel⟩, wm_r11 _ (List.mem_of_getElem? (i := 1) rfl), wm_r11 _ (List.mem_of_getElem? (i := 2) rfl)⟩
theorem cw_X2_89 : am_cv RX2 89 yX2_readPart mX2_readPart 1 := ⟨⟨wm_r11 _ (List.mem_of_getElem? (i := 12) rfl), wm_r1 _ (List.mem_of_getElem? (i := 20) rfl), wm_r11 _ (List.mem_of_getElem? (i := 15) rfl), by decide, by decide +kernel, by decide +kernel, by decide +kernel⟩, wm_r11 _ (List.mem_of_getElem? (i := 13) rfl), wm_r11 _ (List.mem_of_getElem? (i := 14) rfl)⟩
theorem cw_X2_82 : am_cv RX2 82 yX2_readBoth mX2_readBoth 1 := ⟨⟨wm_r11 _ (List.mem_of_getElem? (i := 4) rfl), wm_r1 _ (List.mem_of_getElem? (i := 20) rfl), wm_r11 _ (List.mem_of_getElem? (i := 11) rfl), by decide, by decide +kernel, by decide +kernel, by decide +kernel⟩, wm_r11 _ (List.mem_of_getElem? (i := 5) rfl), wm_r11 _ (List.mem_of_getElem? (i := 6) rfl)⟩
theorem cw_X2_46 : am_cv RX2 46 yX5_isFull mX5_isFull 0 := ⟨⟨wm_r12 _ (List.mem_of_getElem? (i := 5) rfl), wm_r2 _ (List.mem_of_getElem? (i := 23) rfl), wm_r10 _ (List.mem_of_getElem? (i := 23) rfl), by decide, by decide +kernel, by decide +kernel, by decide +kernel⟩, wm_r10 _ (List.mem_of_getElem? (i := 21) rfl), wm_r10 _ (List.mem_of_getElem? (i := 22) rfl)⟩
theorem cw_X6_64 : am_cv RX6 64 yX2_read mX2_read 2 := ⟨⟨wm_r7 _ (List.mem_of_getElem? (i := 2) rfl), wm_r1 _ (List.mem_of_getElem? (i := 20) rfl), wm_r7 _ (List.mem_of_getElem? (i := 5) rfl), by decide, by decide +kernel, by decide +kernel, by decide +kernel⟩, wm_r7 _ (List.mem_of_getElem? (i := 3) rfl), wm_r7 _ (List.mem_of_getElem? (i := 4) rfl)⟩
theorem fl_X6_68 : am_fl RX6 68 4 10 := ⟨_, _, _, tyX4, rfl, by decide, inlX4, wm_r7 _ (List.mem_of_getElem? (i := 0) rfl), tyX4_ok, nmX4, Or.inl rfl⟩
theorem fl_X6_72 : am_fl RX6 72 2 0 := ⟨_, _, _, tyX2, rfl, by decide, inlX2, wm_r7 _ (List.mem_of_getElem? (i := 1) rfl), tyX2_ok, nmX2, Or.inl rfl⟩
theorem cw_X6_75 : am_cv RX6 75 yX5_copyFrom mX5_copyFrom 1 := ⟨⟨wm_r12 _ (List.mem_of_getElem? (i := 6) rfl), wm_r2 _ (List.mem_of_getElem? (i := 23) rfl), wm_r12 _ (List.mem_of_getElem? (i := 9) rfl), by decide, by decide +kernel, by decide +kernel, by decide +kernel⟩, wm_r12 _ (List.mem_of_getElem? (i := 7) rfl), wm_r12 _ (List.mem_of_getElem? (i := 8) rfl)⟩
theorem fp_X6_61 : am_fp RX6 61 4 9 .int := ⟨_, _, _, tyX4, rfl, by decide, inlX4, wm_r6 _ (List.mem_of_getElem? (i := 23) rfl), tyX4_ok, nmX4, rfl, rfl⟩
theorem fl_X6_218 : am_fl RX6 218 0 1 := ⟨_, _, _, tyX0, rfl, by decide, inlX0, wm_r39 _ (List.mem_of_getElem? (i := 11) rfl), tyX0_ok, nmX0, Or.inl rfl⟩
theorem cw_X6_166 : am_cv RX6 166 yX3_cheapestWay mX3_cheapestWay 2 := ⟨⟨wm_r30 _ (List.mem_of_getElem? (i := 2) rfl), wm_r2 _ (List.mem_of_getElem? (i := 4) rfl), wm_r30 _ (List.mem_of_getElem? (i := 5) rfl), by decide, by decide +kernel, by decide +kernel, by decide +kernel⟩, wm_r30 _ (List.mem_of_getElem? (i := 3) rfl), wm_r30 _ (List.mem_of_getElem? (i := 4) rfl)⟩
theorem cw_X6_185 : am_cv RX6 185 yX3_walks mX3_walks 3 := ⟨⟨wm_r32 _ (List.mem_of_getElem? (i := 21) rfl), wm_r2 _ (List.mem_of_getElem? (i := 4) rfl), wm_r33 _ (List.mem_of_getElem? (i := 0) rfl), by decide, by decide +kernel, by decide +kernel, by decide +kernel⟩, wm_r32 _ (List.mem_of_getElem? (i := 22) rfl), wm_r32 _ (List.mem_of_getElem? (i := 23) rfl)⟩
theorem cw_X6_202 : am_cv RX6 202 yX4_off mX4_off 0 := ⟨⟨wm_r35 _ (List.mem_of_getElem? (i := 19) rfl), wm_r1 _ (List.mem_of_getElem? (i := 14) rfl), wm_r35 _ (List.mem_of_getElem? (i := 22) rfl), by decide, by decide +kernel, by decide +kernel, by decide +kernel⟩, wm_r35 _ (List.mem_of_getElem? (i := 20) rfl), wm_r35 _ (List.mem_of_getElem? (i := 21) rfl)⟩
theorem cw_X6_205 : am_cv RX6 205 yX4_wrongOnes mX4_wrongOnes 2 := ⟨⟨wm_r36 _ (List.mem_of_getElem? (i := 0) rfl), wm_r1 _ (List.mem_of_getElem? (i := 14) rfl), wm_r36 _ (List.mem_of_getElem? (i := 3) rfl), by decide, by decide +kernel, by decide +kernel, by decide +kernel⟩, wm_r36 _ (List.mem_of_getElem? (i := 1) rfl), wm_r36 _ (List.mem_of_getElem? (i := 2) rfl)⟩
theorem fl_X7_278 : am_fl RX7 278 7 34 := ⟨_, _, _, tyX7, rfl, by decide, inlX7, wm_r37 _ (List.mem_of_getElem? (i := 19) rfl), tyX7_ok, nmX7, Or.inr ⟨rfl, Or.inl rfl⟩⟩
theorem fp_X7_278 : am_fp RX7 278 7 34 .int := ⟨_, _, _, tyX7, rfl, by decide, inlX7, wm_r37 _ (List.mem_of_getElem? (i := 19) rfl), tyX7_ok, nmX7, rfl, rfl⟩
theorem fl_X7_9 : am_fl RX7 9 7 1 := ⟨_, _, _, tyX7, rfl, by decide, inlX7, wm_r5 _ (List.mem_of_getElem? (i := 7) rfl), tyX7_ok, nmX7, Or.inl rfl⟩
theorem cw_X7_84 : am_cs RX7 84 yX7_in mX7_in 3 := ⟨⟨wm_r6 _ (List.mem_of_getElem? (i := 16) rfl), wm_r1 _ (List.mem_of_getElem? (i := 5) rfl), wm_r6 _ (List.mem_of_getElem? (i := 18) rfl), by decide, by decide +kernel, by decide +kernel, by decide +kernel⟩, wm_r6 _ (List.mem_of_getElem? (i := 17) rfl)⟩
theorem cw_X7_161 : am_cv RX7 161 yX7_isStreet mX7_isStreet 1 := ⟨⟨wm_r16 _ (List.mem_of_getElem? (i := 14) rfl), wm_r1 _ (List.mem_of_getElem? (i := 5) rfl), wm_r16 _ (List.mem_of_getElem? (i := 17) rfl), by decide, by decide +kernel, by decide +kernel, by decide +kernel⟩, wm_r16 _ (List.mem_of_getElem? (i := 15) rfl), wm_r16 _ (List.mem_of_getElem? (i := 16) rfl)⟩
theorem fl_X7_287 : am_fl RX7 287 7 35 := ⟨_, _, _, tyX7, rfl, by decide, inlX7, wm_r37 _ (List.mem_of_getElem? (i := 20) rfl), tyX7_ok, nmX7, Or.inr ⟨rfl, Or.inl rfl⟩⟩
theorem fp_X7_287 : am_fp RX7 287 7 35 .int := ⟨_, _, _, tyX7, rfl, by decide, inlX7, wm_r37 _ (List.mem_of_getElem? (i := 20) rfl), tyX7_ok, nmX7, rfl, rfl⟩
theorem fl_X7_284 : am_fl RX7 284 7 36 := ⟨_, _, _, tyX7, rfl, by decide, inlX7, wm_r37 _ (List.mem_of_getElem? (i := 21) rfl), tyX7_ok, nmX7, Or.inr ⟨rfl, Or.inl rfl⟩⟩
theorem fp_X7_284 : am_fp RX7 284 7 36 .int := ⟨_, _, _, tyX7, rfl, by decide, inlX7, wm_r37 _ (List.mem_of_getElem? (i := 21) rfl), tyX7_ok, nmX7, rfl, rfl⟩
theorem fl_X7_299 : am_fl RX7 299 7 37 := ⟨_, _, _, tyX7, rfl, by decide, inlX7, wm_r37 _ (List.mem_of_getElem? (i := 22) rfl), tyX7_ok, nmX7, Or.inr ⟨rfl, Or.inl rfl⟩⟩
theorem fp_X7_299 : am_fp RX7 299 7 37 .int := ⟨_, _, _, tyX7, rfl, by decide, inlX7, wm_r37 _ (List.mem_of_getElem? (i := 22) rfl), tyX7_ok, nmX7, rfl, rfl⟩
theorem cw_X7_290 : am_cs RX7 290 yX7_isUnder mX7_isUnder 2 := ⟨⟨wm_r38 _ (List.mem_of_getElem? (i := 3) rfl), wm_r1 _ (List.mem_of_getElem? (i := 5) rfl), wm_r38 _ (List.mem_of_getElem? (i := 5) rfl), by decide, by decide +kernel, by decide +kernel, by decide +kernel⟩, wm_r38 _ (List.mem_of_getElem? (i := 4) rfl)⟩
theorem fl_X7_77 : am_fl RX7 77 7 33 := ⟨_, _, _, tyX7, rfl, by decide, inlX7, wm_r6 _ (List.mem_of_getElem? (i := 5) rfl), tyX7_ok, nmX7, Or.inl rfl⟩
theorem cw_X7_281 : am_cv RX7 281 yX7_ranBody mX7_ranBody 1 := ⟨⟨wm_r38 _ (List.mem_of_getElem? (i := 6) rfl), wm_r1 _ (List.mem_of_getElem? (i := 5) rfl), wm_r38 _ (List.mem_of_getElem? (i := 9) rfl), by decide, by decide +kernel, by decide +kernel, by decide +kernel⟩, wm_r38 _ (List.mem_of_getElem? (i := 7) rfl), wm_r38 _ (List.mem_of_getElem? (i := 8) rfl)⟩
theorem cw_X7_293 : am_cv RX7 293 yX7_plainCounts mX7_plainCounts 1 := ⟨⟨wm_r38 _ (List.mem_of_getElem? (i := 10) rfl), wm_r1 _ (List.mem_of_getElem? (i := 5) rfl), wm_r38 _ (List.mem_of_getElem? (i := 13) rfl), by decide, by decide +kernel, by decide +kernel, by decide +kernel⟩, wm_r38 _ (List.mem_of_getElem? (i := 11) rfl), wm_r38 _ (List.mem_of_getElem? (i := 12) rfl)⟩
theorem cw_X7_296 : am_cv RX7 296 yX7_countsActs mX7_countsActs 1 := ⟨⟨wm_r37 _ (List.mem_of_getElem? (i := 23) rfl), wm_r1 _ (List.mem_of_getElem? (i := 5) rfl), wm_r38 _ (List.mem_of_getElem? (i := 2) rfl), by decide, by decide +kernel, by decide +kernel, by decide +kernel⟩, wm_r38 _ (List.mem_of_getElem? (i := 0) rfl), wm_r38 _ (List.mem_of_getElem? (i := 1) rfl)⟩
theorem cw_X7_302 : am_cv RX7 302 yX7_plainPays mX7_plainPays 1 := ⟨⟨wm_r38 _ (List.mem_of_getElem? (i := 18) rfl), wm_r1 _ (List.mem_of_getElem? (i := 5) rfl), wm_r38 _ (List.mem_of_getElem? (i := 21) rfl), by decide, by decide +kernel, by decide +kernel, by decide +kernel⟩, wm_r38 _ (List.mem_of_getElem? (i := 19) rfl), wm_r38 _ (List.mem_of_getElem? (i := 20) rfl)⟩
theorem cw_X7_305 : am_cv RX7 305 yX7_paysActs mX7_paysActs 1 := ⟨⟨wm_r38 _ (List.mem_of_getElem? (i := 14) rfl), wm_r1 _ (List.mem_of_getElem? (i := 5) rfl), wm_r38 _ (List.mem_of_getElem? (i := 17) rfl), by decide, by decide +kernel, by decide +kernel, by decide +kernel⟩, wm_r38 _ (List.mem_of_getElem? (i := 15) rfl), wm_r38 _ (List.mem_of_getElem? (i := 16) rfl)⟩
theorem cw_X7_308 : am_cv RX7 308 yX7_plainTells mX7_plainTells 1 := ⟨⟨wm_r39 _ (List.mem_of_getElem? (i := 2) rfl), wm_r1 _ (List.mem_of_getElem? (i := 5) rfl), wm_r39 _ (List.mem_of_getElem? (i := 5) rfl), by decide, by decide +kernel, by decide +kernel, by decide +kernel⟩, wm_r39 _ (List.mem_of_getElem? (i := 3) rfl), wm_r39 _ (List.mem_of_getElem? (i := 4) rfl)⟩
theorem cw_X7_311 : am_cv RX7 311 yX7_tellsActs mX7_tellsActs 1 := ⟨⟨wm_r38 _ (List.mem_of_getElem? (i := 22) rfl), wm_r1 _ (List.mem_of_getElem? (i := 5) rfl), wm_r39 _ (List.mem_of_getElem? (i := 1) rfl), by decide, by decide +kernel, by decide +kernel, by decide +kernel⟩, wm_r38 _ (List.mem_of_getElem? (i := 23) rfl), wm_r39 _ (List.mem_of_getElem? (i := 0) rfl)⟩
theorem fl_X7_49 : am_fl RX7 49 7 23 := ⟨_, _, _, tyX7, rfl, by decide, inlX7, wm_r5 _ (List.mem_of_getElem? (i := 20) rfl), tyX7_ok, nmX7, Or.inl rfl⟩
theorem fl_X7_18 : am_fl RX7 18 7 9 := ⟨_, _, _, tyX7, rfl, by decide, inlX7, wm_r5 _ (List.mem_of_getElem? (i := 9) rfl), tyX7_ok, nmX7, Or.inl rfl⟩
theorem cw_X7_169 : am_cv RX7 169 yX7_uneven mX7_uneven 1 := ⟨⟨wm_r20 _ (List.mem_of_getElem? (i := 4) rfl), wm_r1 _ (List.mem_of_getElem? (i := 5) rfl), wm_r20 _ (List.mem_of_getElem? (i := 7) rfl), by decide, by decide +kernel, by decide +kernel, by decide +kernel⟩, wm_r20 _ (List.mem_of_getElem? (i := 5) rfl), wm_r20 _ (List.mem_of_getElem? (i := 6) rfl)⟩
theorem cw_X7_173 : am_cs RX7 173 yX7_size mX7_size 1 := ⟨⟨wm_r20 _ (List.mem_of_getElem? (i := 19) rfl), wm_r1 _ (List.mem_of_getElem? (i := 5) rfl), wm_r20 _ (List.mem_of_getElem? (i := 21) rfl), by decide, by decide +kernel, by decide +kernel, by decide +kernel⟩, wm_r20 _ (List.mem_of_getElem? (i := 20) rfl)⟩
theorem cw_X7_176 : am_cv RX7 176 yX7_leadsFrom mX7_leadsFrom 1 := ⟨⟨wm_r20 _ (List.mem_of_getElem? (i := 22) rfl), wm_r1 _ (List.mem_of_getElem? (i := 5) rfl), wm_r21 _ (List.mem_of_getElem? (i := 1) rfl), by decide, by decide +kernel, by decide +kernel, by decide +kernel⟩, wm_r20 _ (List.mem_of_getElem? (i := 23) rfl), wm_r21 _ (List.mem_of_getElem? (i := 0) rfl)⟩
theorem cw_X7_179 : am_cs RX7 179 yX7_count1 mX7_count1 1 := ⟨⟨wm_r21 _ (List.mem_of_getElem? (i := 2) rfl), wm_r1 _ (List.mem_of_getElem? (i := 5) rfl), wm_r21 _ (List.mem_of_getElem? (i := 4) rfl), by decide, by decide +kernel, by decide +kernel, by decide +kernel⟩, wm_r21 _ (List.mem_of_getElem? (i := 3) rfl)⟩
theorem fl_X7_182 : am_fl RX7 182 7 11 := ⟨_, _, _, tyX7, rfl, by decide, inlX7, wm_r20 _ (List.mem_of_getElem? (i := 17) rfl), tyX7_ok, nmX7, Or.inr ⟨rfl, Or.inl rfl⟩⟩
theorem fp_X7_182 : am_fp RX7 182 7 11 .int := ⟨_, _, _, tyX7, rfl, by decide, inlX7, wm_r20 _ (List.mem_of_getElem? (i := 17) rfl), tyX7_ok, nmX7, rfl, rfl⟩
theorem fl_X7_185 : am_fl RX7 185 7 12 := ⟨_, _, _, tyX7, rfl, by decide, inlX7, wm_r20 _ (List.mem_of_getElem? (i := 18) rfl), tyX7_ok, nmX7, Or.inr ⟨rfl, Or.inl rfl⟩⟩
theorem fp_X7_185 : am_fp RX7 185 7 12 .int := ⟨_, _, _, tyX7, rfl, by decide, inlX7, wm_r20 _ (List.mem_of_getElem? (i := 18) rfl), tyX7_ok, nmX7, rfl, rfl⟩
theorem fl_X7_188 : am_fl RX7 188 7 13 := ⟨_, _, _, tyX7, rfl, by decide, inlX7, wm_r20 _ (List.mem_of_getElem? (i := 12) rfl), tyX7_ok, nmX7, Or.inr ⟨rfl, Or.inl rfl⟩⟩
theorem fp_X7_188 : am_fp RX7 188 7 13 .int := ⟨_, _, _, tyX7, rfl, by decide, inlX7, wm_r20 _ (List.mem_of_getElem? (i := 12) rfl), tyX7_ok, nmX7, rfl, rfl⟩
theorem fl_X7_21 : am_fl RX7 21 7 10 := ⟨_, _, _, tyX7, rfl, by decide, inlX7, wm_r5 _ (List.mem_of_getElem? (i := 11) rfl), tyX7_ok, nmX7, Or.inl rfl⟩
theorem cw_X7_191 : am_cv RX7 191 yX7_looks mX7_looks 1 := ⟨⟨wm_r20 _ (List.mem_of_getElem? (i := 13) rfl), wm_r1 _ (List.mem_of_getElem? (i := 5) rfl), wm_r20 _ (List.mem_of_getElem? (i := 16) rfl), by decide, by decide +kernel, by decide +kernel, by decide +kernel⟩, wm_r20 _ (List.mem_of_getElem? (i := 14) rfl), wm_r20 _ (List.mem_of_getElem? (i := 15) rfl)⟩
theorem cw_X7_194 : am_cv RX7 194 yX7_allowedOf mX7_allowedOf 1 := ⟨⟨wm_r20 _ (List.mem_of_getElem? (i := 8) rfl), wm_r1 _ (List.mem_of_getElem? (i := 5) rfl), wm_r20 _ (List.mem_of_getElem? (i := 11) rfl), by decide, by decide +kernel, by decide +kernel, by decide +kernel⟩, wm_r20 _ (List.mem_of_getElem? (i := 9) rfl), wm_r20 _ (List.mem_of_getElem? (i := 10) rfl)⟩
theorem fl_X7_52 : am_fl RX7 52 7 24 := ⟨_, _, _, tyX7, rfl, by decide, inlX7, wm_r5 _ (List.mem_of_getElem? (i := 21) rfl), tyX7_ok, nmX7, Or.inl rfl⟩
theorem cw_X7_197 : am_cv RX7 197 yX7_fineOf mX7_fineOf 1 := ⟨⟨wm_r21 _ (List.mem_of_getElem? (i := 5) rfl), wm_r1 _ (List.mem_of_getElem? (i := 5) rfl), wm_r21 _ (List.mem_of_getElem? (i := 8) rfl), by decide, by decide +kernel, by decide +kernel, by decide +kernel⟩, wm_r21 _ (List.mem_of_getElem? (i := 6) rfl), wm_r21 _ (List.mem_of_getElem? (i := 7) rfl)⟩
theorem fl_X7_55 : am_fl RX7 55 7 25 := ⟨_, _, _, tyX7, rfl, by decide, inlX7, wm_r5 _ (List.mem_of_getElem? (i := 22) rfl), tyX7_ok, nmX7, Or.inl rfl⟩
theorem cw_X7_201 : am_cv RX7 201 yX7_stepOf mX7_stepOf 1 := ⟨⟨wm_r21 _ (List.mem_of_getElem? (i := 9) rfl), wm_r1 _ (List.mem_of_getElem? (i := 5) rfl), wm_r21 _ (List.mem_of_getElem? (i := 12) rfl), by decide, by decide +kernel, by decide +kernel, by decide +kernel⟩, wm_r21 _ (List.mem_of_getElem? (i := 10) rfl), wm_r21 _ (List.mem_of_getElem? (i := 11) rfl)⟩
theorem fl_X7_58 : am_fl RX7 58 7 26 := ⟨_, _, _, tyX7, rfl, by decide, inlX7, wm_r5 _ (List.mem_of_getElem? (i := 23) rfl), tyX7_ok, nmX7, Or.inl rfl⟩
theorem cw_X7_165 : am_cv RX7 165 yX7_isOpen mX7_isOpen 2 := ⟨⟨wm_r21 _ (List.mem_of_getElem? (i := 21) rfl), wm_r1 _ (List.mem_of_getElem? (i := 5) rfl), wm_r22 _ (List.mem_of_getElem? (i := 0) rfl), by decide, by decide +kernel, by decide +kernel, by decide +kernel⟩, wm_r21 _ (List.mem_of_getElem? (i := 22) rfl), wm_r21 _ (List.mem_of_getElem? (i := 23) rfl)⟩
theorem cw_X7_243 : am_cv RX7 243 yX7_looksForAll mX7_looksForAll 0 := ⟨⟨wm_r26 _ (List.mem_of_getElem? (i := 12) rfl), wm_r1 _ (List.mem_of_getElem? (i := 5) rfl), wm_r26 _ (List.mem_of_getElem? (i := 15) rfl), by decide, by decide +kernel, by decide +kernel, by decide +kernel⟩, wm_r26 _ (List.mem_of_getElem? (i := 13) rfl), wm_r26 _ (List.mem_of_getElem? (i := 14) rfl)⟩
theorem fl_X7_215 : am_fl RX7 215 7 19 := ⟨_, _, _, tyX7, rfl, by decide, inlX7, wm_r26 _ (List.mem_of_getElem? (i := 20) rfl), tyX7_ok, nmX7, Or.inr ⟨rfl, Or.inl rfl⟩⟩
theorem fp_X7_215 : am_fp RX7 215 7 19 .int := ⟨_, _, _, tyX7, rfl, by decide, inlX7, wm_r26 _ (List.mem_of_getElem? (i := 20) rfl), tyX7_ok, nmX7, rfl, rfl⟩
theorem fl_X7_40 : am_fl RX7 40 7 20 := ⟨_, _, _, tyX7, rfl, by decide, inlX7, wm_r5 _ (List.mem_of_getElem? (i := 17) rfl), tyX7_ok, nmX7, Or.inl rfl⟩
theorem fl_X7_25 : am_fl RX7 25 7 14 := ⟨_, _, _, tyX7, rfl, by decide, inlX7, wm_r5 _ (List.mem_of_getElem? (i := 12) rfl), tyX7_ok, nmX7, Or.inl rfl⟩
theorem fl_X7_28 : am_fl RX7 28 7 15 := ⟨_, _, _, tyX7, rfl, by decide, inlX7, wm_r5 _ (List.mem_of_getElem? (i := 13) rfl), tyX7_ok, nmX7, Or.inl rfl⟩
theorem fl_X7_31 : am_fl RX7 31 7 16 := ⟨_, _, _, tyX7, rfl, by decide, inlX7, wm_r5 _ (List.mem_of_getElem? (i := 14) rfl), tyX7_ok, nmX7, Or.inl rfl⟩
theorem fl_X7_34 : am_fl RX7 34 7 17 := ⟨_, _, _, tyX7, rfl, by decide, inlX7, wm_r5 _ (List.mem_of_getElem? (i := 15) rfl), tyX7_ok, nmX7, Or.inl rfl⟩
theorem fl_X7_37 : am_fl RX7 37 7 18 := ⟨_, _, _, tyX7, rfl, by decide, inlX7, wm_r5 _ (List.mem_of_getElem? (i := 16) rfl), tyX7_ok, nmX7, Or.inl rfl⟩
theorem cw_X7_219 : am_cv RX7 219 yX7_road mX7_road 4 := ⟨⟨wm_r27 _ (List.mem_of_getElem? (i := 2) rfl), wm_r1 _ (List.mem_of_getElem? (i := 5) rfl), wm_r27 _ (List.mem_of_getElem? (i := 5) rfl), by decide, by decide +kernel, by decide +kernel, by decide +kernel⟩, wm_r27 _ (List.mem_of_getElem? (i := 3) rfl), wm_r27 _ (List.mem_of_getElem? (i := 4) rfl)⟩
theorem cw_X7_235 : am_cv RX7 235 yX7_looksForRoads mX7_looksForRoads 1 := ⟨⟨wm_r26 _ (List.mem_of_getElem? (i := 21) rfl), wm_r1 _ (List.mem_of_getElem? (i := 5) rfl), wm_r27 _ (List.mem_of_getElem? (i := 0) rfl), by decide, by decide +kernel, by decide +kernel, by decide +kernel⟩, wm_r26 _ (List.mem_of_getElem? (i := 22) rfl), wm_r26 _ (List.mem_of_getElem? (i := 23) rfl)⟩
theorem cw_X7_223 : am_cv RX7 223 yX7_isPlace mX7_isPlace 1 := ⟨⟨wm_r27 _ (List.mem_of_getElem? (i := 14) rfl), wm_r1 _ (List.mem_of_getElem? (i := 5) rfl), wm_r27 _ (List.mem_of_getElem? (i := 17) rfl), by decide, by decide +kernel, by decide +kernel, by decide +kernel⟩, wm_r27 _ (List.mem_of_getElem? (i := 15) rfl), wm_r27 _ (List.mem_of_getElem? (i := 16) rfl)⟩
theorem fl_X7_43 : am_fl RX7 43 7 21 := ⟨_, _, _, tyX7, rfl, by decide, inlX7, wm_r5 _ (List.mem_of_getElem? (i := 18) rfl), tyX7_ok, nmX7, Or.inl rfl⟩
theorem fl_X7_46 : am_fl RX7 46 7 22 := ⟨_, _, _, tyX7, rfl, by decide, inlX7, wm_r5 _ (List.mem_of_getElem? (i := 19) rfl), tyX7_ok, nmX7, Or.inl rfl⟩
theorem cw_X7_226 : am_cv RX7 226 yX7_looksForFar mX7_looksForFar 0 := ⟨⟨wm_r27 _ (List.mem_of_getElem? (i := 10) rfl), wm_r1 _ (List.mem_of_getElem? (i := 5) rfl), wm_r27 _ (List.mem_of_getElem? (i := 13) rfl), by decide, by decide +kernel, by decide +kernel, by decide +kernel⟩, wm_r27 _ (List.mem_of_getElem? (i := 11) rfl), wm_r27 _ (List.mem_of_getElem? (i := 12) rfl)⟩
theorem cw_X7_232 : am_cv RX7 232 yX7_before mX7_before 1 := ⟨⟨wm_r27 _ (List.mem_of_getElem? (i := 22) rfl), wm_r1 _ (List.mem_of_getElem? (i := 5) rfl), wm_r28 _ (List.mem_of_getElem? (i := 1) rfl), by decide, by decide +kernel, by decide +kernel, by decide +kernel⟩, wm_r27 _ (List.mem_of_getElem? (i := 23) rfl), wm_r28 _ (List.mem_of_getElem? (i := 0) rfl)⟩
theorem cw_X7_229 : am_cv RX7 229 yX7_roomBehind mX7_roomBehind 1 := ⟨⟨wm_r27 _ (List.mem_of_getElem? (i := 18) rfl), wm_r1 _ (List.mem_of_getElem? (i := 5) rfl), wm_r27 _ (List.mem_of_getElem? (i := 21) rfl), by decide, by decide +kernel, by decide +kernel, by decide +kernel⟩, wm_r27 _ (List.mem_of_getElem? (i := 19) rfl), wm_r27 _ (List.mem_of_getElem? (i := 20) rfl)⟩
theorem cw_X7_239 : am_cv RX7 239 yX7_sends mX7_sends 0 := ⟨⟨wm_r27 _ (List.mem_of_getElem? (i := 6) rfl), wm_r1 _ (List.mem_of_getElem? (i := 5) rfl), wm_r27 _ (List.mem_of_getElem? (i := 9) rfl), by decide, by decide +kernel, by decide +kernel, by decide +kernel⟩, wm_r27 _ (List.mem_of_getElem? (i := 7) rfl), wm_r27 _ (List.mem_of_getElem? (i := 8) rfl)⟩
theorem cw_X7_246 : am_cv RX7 246 yX7_costBy mX7_costBy 1 := ⟨⟨wm_r26 _ (List.mem_of_getElem? (i := 16) rfl), wm_r1 _ (List.mem_of_getElem? (i := 5) rfl), wm_r26 _ (List.mem_of_getElem? (i := 19) rfl), by decide, by decide +kernel, by decide +kernel, by decide +kernel⟩, wm_r26 _ (List.mem_of_getElem? (i := 17) rfl), wm_r26 _ (List.mem_of_getElem? (i := 18) rfl)⟩
theorem fl_X7_61 : am_fl RX7 61 7 27 := ⟨_, _, _, tyX7, rfl, by decide, inlX7, wm_r6 _ (List.mem_of_getElem? (i := 0) rfl), tyX7_ok, nmX7, Or.inl rfl⟩
theorem cw_X7_254 : am_cv RX7 254 yX7_looksForWays mX7_looksForWays 0 := ⟨⟨wm_r30 _ (List.mem_of_getElem? (i := 10) rfl), wm_r1 _ (List.mem_of_getElem? (i := 5) rfl), wm_r30 _ (List.mem_of_getElem? (i := 13) rfl), by decide, by decide +kernel, by decide +kernel, by decide +kernel⟩, wm_r30 _ (List.mem_of_getElem? (i := 11) rfl), wm_r30 _ (List.mem_of_getElem? (i := 12) rfl)⟩
theorem fl_X7_257 : am_fl RX7 257 7 30 := ⟨_, _, _, tyX7, rfl, by decide, inlX7, wm_r31 _ (List.mem_of_getElem? (i := 23) rfl), tyX7_ok, nmX7, Or.inr ⟨rfl, Or.inl rfl⟩⟩
theorem fp_X7_257 : am_fp RX7 257 7 30 .int := ⟨_, _, _, tyX7, rfl, by decide, inlX7, wm_r31 _ (List.mem_of_getElem? (i := 23) rfl), tyX7_ok, nmX7, rfl, rfl⟩
theorem fl_X7_64 : am_fl RX7 64 7 28 := ⟨_, _, _, tyX7, rfl, by decide, inlX7, wm_r6 _ (List.mem_of_getElem? (i := 1) rfl), tyX7_ok, nmX7, Or.inl rfl⟩
theorem cw_X7_260 : am_cv RX7 260 yX7_ordersFrom mX7_ordersFrom 5 := ⟨⟨wm_r32 _ (List.mem_of_getElem? (i := 0) rfl), wm_r1 _ (List.mem_of_getElem? (i := 5) rfl), wm_r32 _ (List.mem_of_getElem? (i := 3) rfl), by decide, by decide +kernel, by decide +kernel, by decide +kernel⟩, wm_r32 _ (List.mem_of_getElem? (i := 1) rfl), wm_r32 _ (List.mem_of_getElem? (i := 2) rfl)⟩
theorem fl_X7_67 : am_fl RX7 67 7 29 := ⟨_, _, _, tyX7, rfl, by decide, inlX7, wm_r6 _ (List.mem_of_getElem? (i := 2) rfl), tyX7_ok, nmX7, Or.inl rfl⟩
theorem cw_X7_250 : am_cv RX7 250 yX7_changes mX7_changes 3 := ⟨⟨wm_r28 _ (List.mem_of_getElem? (i := 20) rfl), wm_r1 _ (List.mem_of_getElem? (i := 5) rfl), wm_r28 _ (List.mem_of_getElem? (i := 23) rfl), by decide, by decide +kernel, by decide +kernel, by decide +kernel⟩, wm_r28 _ (List.mem_of_getElem? (i := 21) rfl), wm_r28 _ (List.mem_of_getElem? (i := 22) rfl)⟩
theorem fl_X7_314 : am_fl RX7 314 7 3 := ⟨_, _, _, tyX7, rfl, by decide, inlX7, wm_r40 _ (List.mem_of_getElem? (i := 17) rfl), tyX7_ok, nmX7, Or.inr ⟨rfl, Or.inr rfl⟩⟩
theorem fp_X7_314 : am_fp RX7 314 7 3 .boolean := ⟨_, _, _, tyX7, rfl, by decide, inlX7, wm_r40 _ (List.mem_of_getElem? (i := 17) rfl), tyX7_ok, nmX7, rfl, rfl⟩
theorem fl_X7_15 : am_fl RX7 15 7 2 := ⟨_, _, _, tyX7, rfl, by decide, inlX7, wm_r5 _ (List.mem_of_getElem? (i := 8) rfl), tyX7_ok, nmX7, Or.inl rfl⟩
theorem cw_X7_204 : am_cv RX7 204 yX7_paysOf mX7_paysOf 1 := ⟨⟨wm_r21 _ (List.mem_of_getElem? (i := 13) rfl), wm_r1 _ (List.mem_of_getElem? (i := 5) rfl), wm_r21 _ (List.mem_of_getElem? (i := 16) rfl), by decide, by decide +kernel, by decide +kernel, by decide +kernel⟩, wm_r21 _ (List.mem_of_getElem? (i := 14) rfl), wm_r21 _ (List.mem_of_getElem? (i := 15) rfl)⟩
theorem cw_X7_207 : am_cv RX7 207 yX7_openFrom mX7_openFrom 1 := ⟨⟨wm_r21 _ (List.mem_of_getElem? (i := 17) rfl), wm_r1 _ (List.mem_of_getElem? (i := 5) rfl), wm_r21 _ (List.mem_of_getElem? (i := 20) rfl), by decide, by decide +kernel, by decide +kernel, by decide +kernel⟩, wm_r21 _ (List.mem_of_getElem? (i := 18) rfl), wm_r21 _ (List.mem_of_getElem? (i := 19) rfl)⟩
theorem cw_X7_210 : am_cv RX7 210 yX7_paying mX7_paying 0 := ⟨⟨wm_r22 _ (List.mem_of_getElem? (i := 22) rfl), wm_r1 _ (List.mem_of_getElem? (i := 5) rfl), wm_r23 _ (List.mem_of_getElem? (i := 1) rfl), by decide, by decide +kernel, by decide +kernel, by decide +kernel⟩, wm_r22 _ (List.mem_of_getElem? (i := 23) rfl), wm_r23 _ (List.mem_of_getElem? (i := 0) rfl)⟩
theorem fl_X7_70 : am_fl RX7 70 7 31 := ⟨_, _, _, tyX7, rfl, by decide, inlX7, wm_r6 _ (List.mem_of_getElem? (i := 3) rfl), tyX7_ok, nmX7, Or.inl rfl⟩
theorem cw_X7_268 : am_cv RX7 268 yX7_begins mX7_begins 1 := ⟨⟨wm_r33 _ (List.mem_of_getElem? (i := 18) rfl), wm_r1 _ (List.mem_of_getElem? (i := 5) rfl), wm_r33 _ (List.mem_of_getElem? (i := 21) rfl), by decide, by decide +kernel, by decide +kernel, by decide +kernel⟩, wm_r33 _ (List.mem_of_getElem? (i := 19) rfl), wm_r33 _ (List.mem_of_getElem? (i := 20) rfl)⟩
theorem cw_X7_274 : am_cs RX7 274 yX7_lowest mX7_lowest 3 := ⟨⟨wm_r35 _ (List.mem_of_getElem? (i := 1) rfl), wm_r1 _ (List.mem_of_getElem? (i := 5) rfl), wm_r35 _ (List.mem_of_getElem? (i := 3) rfl), by decide, by decide +kernel, by decide +kernel, by decide +kernel⟩, wm_r35 _ (List.mem_of_getElem? (i := 2) rfl)⟩
theorem fl_X7_74 : am_fl RX7 74 7 32 := ⟨_, _, _, tyX7, rfl, by decide, inlX7, wm_r6 _ (List.mem_of_getElem? (i := 4) rfl), tyX7_ok, nmX7, Or.inl rfl⟩
theorem cw_X7_271 : am_cv RX7 271 yX7_goesOn mX7_goesOn 1 := ⟨⟨wm_r33 _ (List.mem_of_getElem? (i := 22) rfl), wm_r1 _ (List.mem_of_getElem? (i := 5) rfl), wm_r34 _ (List.mem_of_getElem? (i := 1) rfl), by decide, by decide +kernel, by decide +kernel, by decide +kernel⟩, wm_r33 _ (List.mem_of_getElem? (i := 23) rfl), wm_r34 _ (List.mem_of_getElem? (i := 0) rfl)⟩
theorem fl_X7_115 : am_fl RX7 115 7 4 := ⟨_, _, _, tyX7, rfl, by decide, inlX7, wm_r12 _ (List.mem_of_getElem? (i := 15) rfl), tyX7_ok, nmX7, Or.inr ⟨rfl, Or.inl rfl⟩⟩
theorem fp_X7_115 : am_fp RX7 115 7 4 .int := ⟨_, _, _, tyX7, rfl, by decide, inlX7, wm_r12 _ (List.mem_of_getElem? (i := 15) rfl), tyX7_ok, nmX7, rfl, rfl⟩
theorem fl_X7_91 : am_fl RX7 91 7 6 := ⟨_, _, _, tyX7, rfl, by decide, inlX7, wm_r12 _ (List.mem_of_getElem? (i := 16) rfl), tyX7_ok, nmX7, Or.inr ⟨rfl, Or.inl rfl⟩⟩
theorem fp_X7_91 : am_fp RX7 91 7 6 .int := ⟨_, _, _, tyX7, rfl, by decide, inlX7, wm_r12 _ (List.mem_of_getElem? (i := 16) rfl), tyX7_ok, nmX7, rfl, rfl⟩
theorem fl_X7_88 : am_fl RX7 88 7 5 := ⟨_, _, _, tyX7, rfl, by decide, inlX7, wm_r12 _ (List.mem_of_getElem? (i := 17) rfl), tyX7_ok, nmX7, Or.inr ⟨rfl, Or.inl rfl⟩⟩
theorem fp_X7_88 : am_fp RX7 88 7 5 .int := ⟨_, _, _, tyX7, rfl, by decide, inlX7, wm_r12 _ (List.mem_of_getElem? (i := 17) rfl), tyX7_ok, nmX7, rfl, rfl⟩
theorem fl_X7_94 : am_fl RX7 94 7 7 := ⟨_, _, _, tyX7, rfl, by decide, inlX7, wm_r12 _ (List.mem_of_getElem? (i := 18) rfl), tyX7_ok, nmX7, Or.inr ⟨rfl, Or.inr rfl⟩⟩
theorem fp_X7_94 : am_fp RX7 94 7 7 .boolean := ⟨_, _, _, tyX7, rfl, by decide, inlX7, wm_r12 _ (List.mem_of_getElem? (i := 18) rfl), tyX7_ok, nmX7, rfl, rfl⟩
theorem fl_X7_118 : am_fl RX7 118 7 8 := ⟨_, _, _, tyX7, rfl, by decide, inlX7, wm_r12 _ (List.mem_of_getElem? (i := 19) rfl), tyX7_ok, nmX7, Or.inr ⟨rfl, Or.inl rfl⟩⟩
theorem fp_X7_118 : am_fp RX7 118 7 8 .int := ⟨_, _, _, tyX7, rfl, by decide, inlX7, wm_r12 _ (List.mem_of_getElem? (i := 19) rfl), tyX7_ok, nmX7, rfl, rfl⟩
theorem cw_X7_98 : am_cv RX7 98 yX7_here mX7_here 0 := ⟨⟨wm_r13 _ (List.mem_of_getElem? (i := 0) rfl), wm_r1 _ (List.mem_of_getElem? (i := 5) rfl), wm_r13 _ (List.mem_of_getElem? (i := 3) rfl), by decide, by decide +kernel, by decide +kernel, by decide +kernel⟩, wm_r13 _ (List.mem_of_getElem? (i := 1) rfl), wm_r13 _ (List.mem_of_getElem? (i := 2) rfl)⟩
theorem cw_X7_102 : am_cv RX7 102 yJ0_length_8abf5 mJ0_length_8abf5 0 := ⟨⟨wm_r13 _ (List.mem_of_getElem? (i := 12) rfl), wm_r8 _ (List.mem_of_getElem? (i := 10) rfl), wm_r8 _ (List.mem_of_getElem? (i := 11) rfl), by decide, by decide +kernel, by decide +kernel, by decide +kernel⟩, wm_r8 _ (List.mem_of_getElem? (i := 8) rfl), wm_r8 _ (List.mem_of_getElem? (i := 9) rfl)⟩
theorem cw_X7_107 : am_cv RX7 107 yJ0_charAt_5068e mJ0_charAt_5068e 1 := ⟨⟨wm_r13 _ (List.mem_of_getElem? (i := 13) rfl), wm_r8 _ (List.mem_of_getElem? (i := 10) rfl), wm_r8 _ (List.mem_of_getElem? (i := 22) rfl), by decide, by decide +kernel, by decide +kernel, by decide +kernel⟩, wm_r8 _ (List.mem_of_getElem? (i := 20) rfl), wm_r8 _ (List.mem_of_getElem? (i := 21) rfl)⟩
theorem cw_X7_111 : am_cv RX7 111 yX7_must mX7_must 1 := ⟨⟨wm_r13 _ (List.mem_of_getElem? (i := 14) rfl), wm_r1 _ (List.mem_of_getElem? (i := 5) rfl), wm_r13 _ (List.mem_of_getElem? (i := 17) rfl), by decide, by decide +kernel, by decide +kernel, by decide +kernel⟩, wm_r13 _ (List.mem_of_getElem? (i := 15) rfl), wm_r13 _ (List.mem_of_getElem? (i := 16) rfl)⟩
theorem cw_X7_144 : am_cv RX7 144 yX7_spells mX7_spells 1 := ⟨⟨wm_r13 _ (List.mem_of_getElem? (i := 8) rfl), wm_r1 _ (List.mem_of_getElem? (i := 5) rfl), wm_r13 _ (List.mem_of_getElem? (i := 11) rfl), by decide, by decide +kernel, by decide +kernel, by decide +kernel⟩, wm_r13 _ (List.mem_of_getElem? (i := 9) rfl), wm_r13 _ (List.mem_of_getElem? (i := 10) rfl)⟩
theorem cw_X7_138 : am_cv RX7 138 yX7_figures mX7_figures 0 := ⟨⟨wm_r13 _ (List.mem_of_getElem? (i := 18) rfl), wm_r1 _ (List.mem_of_getElem? (i := 5) rfl), wm_r13 _ (List.mem_of_getElem? (i := 21) rfl), by decide, by decide +kernel, by decide +kernel, by decide +kernel⟩, wm_r13 _ (List.mem_of_getElem? (i := 19) rfl), wm_r13 _ (List.mem_of_getElem? (i := 20) rfl)⟩
theorem cw_X7_121 : am_cv RX7 121 yX7_factor mX7_factor 0 := ⟨⟨wm_r14 _ (List.mem_of_getElem? (i := 10) rfl), wm_r1 _ (List.mem_of_getElem? (i := 5) rfl), wm_r14 _ (List.mem_of_getElem? (i := 13) rfl), by decide, by decide +kernel, by decide +kernel, by decide +kernel⟩, wm_r14 _ (List.mem_of_getElem? (i := 11) rfl), wm_r14 _ (List.mem_of_getElem? (i := 12) rfl)⟩
theorem cw_X7_124 : am_cv RX7 124 yX7_emits mX7_emits 1 := ⟨⟨wm_r14 _ (List.mem_of_getElem? (i := 5) rfl), wm_r1 _ (List.mem_of_getElem? (i := 5) rfl), wm_r14 _ (List.mem_of_getElem? (i := 8) rfl), by decide, by decide +kernel, by decide +kernel, by decide +kernel⟩, wm_r14 _ (List.mem_of_getElem? (i := 6) rfl), wm_r14 _ (List.mem_of_getElem? (i := 7) rfl)⟩
theorem cw_X7_141 : am_cv RX7 141 yX7_every mX7_every 0 := ⟨⟨wm_r14 _ (List.mem_of_getElem? (i := 2) rfl), wm_r1 _ (List.mem_of_getElem? (i := 5) rfl), wm_r14 _ (List.mem_of_getElem? (i := 9) rfl), by decide, by decide +kernel, by decide +kernel, by decide +kernel⟩, wm_r14 _ (List.mem_of_getElem? (i := 3) rfl), wm_r14 _ (List.mem_of_getElem? (i := 4) rfl)⟩
theorem cw_X7_127 : am_cv RX7 127 yX7_some mX7_some 0 := ⟨⟨wm_r13 _ (List.mem_of_getElem? (i := 22) rfl), wm_r1 _ (List.mem_of_getElem? (i := 5) rfl), wm_r14 _ (List.mem_of_getElem? (i := 1) rfl), by decide, by decide +kernel, by decide +kernel, by decide +kernel⟩, wm_r13 _ (List.mem_of_getElem? (i := 23) rfl), wm_r14 _ (List.mem_of_getElem? (i := 0) rfl)⟩
theorem cw_X7_132 : am_cv RX7 132 yX7_among mX7_among 1 := ⟨⟨wm_r14 _ (List.mem_of_getElem? (i := 14) rfl), wm_r1 _ (List.mem_of_getElem? (i := 5) rfl), wm_r14 _ (List.mem_of_getElem? (i := 17) rfl), by decide, by decide +kernel, by decide +kernel, by decide +kernel⟩, wm_r14 _ (List.mem_of_getElem? (i := 15) rfl), wm_r14 _ (List.mem_of_getElem? (i := 16) rfl)⟩
theorem cw_X7_150 : am_cv RX7 150 yX7_much mX7_much 2 := ⟨⟨wm_r13 _ (List.mem_of_getElem? (i := 4) rfl), wm_r1 _ (List.mem_of_getElem? (i := 5) rfl), wm_r13 _ (List.mem_of_getElem? (i := 7) rfl), by decide, by decide +kernel, by decide +kernel, by decide +kernel⟩, wm_r13 _ (List.mem_of_getElem? (i := 5) rfl), wm_r13 _ (List.mem_of_getElem? (i := 6) rfl)⟩
theorem cw_X7_158 : am_cv RX7 158 yX7_clauseHere mX7_clauseHere 0 := ⟨⟨wm_r12 _ (List.mem_of_getElem? (i := 20) rfl), wm_r1 _ (List.mem_of_getElem? (i := 5) rfl), wm_r12 _ (List.mem_of_getElem? (i := 23) rfl), by decide, by decide +kernel, by decide +kernel, by decide +kernel⟩, wm_r12 _ (List.mem_of_getElem? (i := 21) rfl), wm_r12 _ (List.mem_of_getElem? (i := 22) rfl)⟩
theorem cw_L_13 : am_cv RL 13 yX6_feed mX6_feed 1 := ⟨⟨wm_r6 _ (List.mem_of_getElem? (i := 6) rfl), wm_r1 _ (List.mem_of_getElem? (i := 2) rfl), wm_r6 _ (List.mem_of_getElem? (i := 9) rfl), by decide, by decide +kernel, by decide +kernel, by decide +kernel⟩, wm_r6 _ (List.mem_of_getElem? (i := 7) rfl), wm_r6 _ (List.mem_of_getElem? (i := 8) rfl)⟩
theorem cw_L_17 : am_cv RL 17 yX7_feed mX7_feed 1 := ⟨⟨wm_r6 _ (List.mem_of_getElem? (i := 12) rfl), wm_r1 _ (List.mem_of_getElem? (i := 5) rfl), wm_r6 _ (List.mem_of_getElem? (i := 15) rfl), by decide, by decide +kernel, by decide +kernel, by decide +kernel⟩, wm_r6 _ (List.mem_of_getElem? (i := 13) rfl), wm_r6 _ (List.mem_of_getElem? (i := 14) rfl)⟩
theorem cw_L_18 : am_cv RL 18 yX6_town mX6_town 0 := ⟨⟨wm_r6 _ (List.mem_of_getElem? (i := 19) rfl), wm_r1 _ (List.mem_of_getElem? (i := 2) rfl), wm_r6 _ (List.mem_of_getElem? (i := 22) rfl), by decide, by decide +kernel, by decide +kernel, by decide +kernel⟩, wm_r6 _ (List.mem_of_getElem? (i := 20) rfl), wm_r6 _ (List.mem_of_getElem? (i := 21) rfl)⟩
theorem cw_L_22 : am_cv RL 22 yX7_town mX7_town 0 := ⟨⟨wm_r12 _ (List.mem_of_getElem? (i := 11) rfl), wm_r1 _ (List.mem_of_getElem? (i := 5) rfl), wm_r12 _ (List.mem_of_getElem? (i := 14) rfl), by decide, by decide +kernel, by decide +kernel, by decide +kernel⟩, wm_r12 _ (List.mem_of_getElem? (i := 12) rfl), wm_r12 _ (List.mem_of_getElem? (i := 13) rfl)⟩
theorem cw_L_23 : am_cv RL 23 yX6_day mX6_day 1 := ⟨⟨wm_r14 _ (List.mem_of_getElem? (i := 18) rfl), wm_r1 _ (List.mem_of_getElem? (i := 2) rfl), wm_r14 _ (List.mem_of_getElem? (i := 21) rfl), by decide, by decide +kernel, by decide +kernel, by decide +kernel⟩, wm_r14 _ (List.mem_of_getElem? (i := 19) rfl), wm_r14 _ (List.mem_of_getElem? (i := 20) rfl)⟩
theorem cw_L_26 : am_cv RL 26 yX7_day mX7_day 1 := ⟨⟨wm_r14 _ (List.mem_of_getElem? (i := 23) rfl), wm_r1 _ (List.mem_of_getElem? (i := 5) rfl), wm_r15 _ (List.mem_of_getElem? (i := 2) rfl), by decide, by decide +kernel, by decide +kernel, by decide +kernel⟩, wm_r15 _ (List.mem_of_getElem? (i := 0) rfl), wm_r15 _ (List.mem_of_getElem? (i := 1) rfl)⟩
theorem cw_L_27 : am_cv RL 27 yX6_street mX6_street 2 := ⟨⟨wm_r15 _ (List.mem_of_getElem? (i := 3) rfl), wm_r1 _ (List.mem_of_getElem? (i := 2) rfl), wm_r15 _ (List.mem_of_getElem? (i := 6) rfl), by decide, by decide +kernel, by decide +kernel, by decide +kernel⟩, wm_r15 _ (List.mem_of_getElem? (i := 4) rfl), wm_r15 _ (List.mem_of_getElem? (i := 5) rfl)⟩
theorem cw_L_31 : am_cv RL 31 yX7_street mX7_street 2 := ⟨⟨wm_r15 _ (List.mem_of_getElem? (i := 13) rfl), wm_r1 _ (List.mem_of_getElem? (i := 5) rfl), wm_r15 _ (List.mem_of_getElem? (i := 16) rfl), by decide, by decide +kernel, by decide +kernel, by decide +kernel⟩, wm_r15 _ (List.mem_of_getElem? (i := 14) rfl), wm_r15 _ (List.mem_of_getElem? (i := 15) rfl)⟩
theorem cw_L_32 : am_cv RL 32 yX6_lead mX6_lead 3 := ⟨⟨wm_r15 _ (List.mem_of_getElem? (i := 17) rfl), wm_r1 _ (List.mem_of_getElem? (i := 2) rfl), wm_r15 _ (List.mem_of_getElem? (i := 20) rfl), by decide, by decide +kernel, by decide +kernel, by decide +kernel⟩, wm_r15 _ (List.mem_of_getElem? (i := 18) rfl), wm_r15 _ (List.mem_of_getElem? (i := 19) rfl)⟩
theorem cw_L_36 : am_cv RL 36 yX7_lead mX7_lead 3 := ⟨⟨wm_r16 _ (List.mem_of_getElem? (i := 10) rfl), wm_r1 _ (List.mem_of_getElem? (i := 5) rfl), wm_r16 _ (List.mem_of_getElem? (i := 13) rfl), by decide, by decide +kernel, by decide +kernel, by decide +kernel⟩, wm_r16 _ (List.mem_of_getElem? (i := 11) rfl), wm_r16 _ (List.mem_of_getElem? (i := 12) rfl)⟩
theorem cw_L_37 : am_cv RL 37 yX6_of mX6_of 2 := ⟨⟨wm_r16 _ (List.mem_of_getElem? (i := 18) rfl), wm_r1 _ (List.mem_of_getElem? (i := 2) rfl), wm_r16 _ (List.mem_of_getElem? (i := 21) rfl), by decide, by decide +kernel, by decide +kernel, by decide +kernel⟩, wm_r16 _ (List.mem_of_getElem? (i := 19) rfl), wm_r16 _ (List.mem_of_getElem? (i := 20) rfl)⟩
theorem cw_L_40 : am_cv RL 40 yX7_of mX7_of 2 := ⟨⟨wm_r19 _ (List.mem_of_getElem? (i := 23) rfl), wm_r1 _ (List.mem_of_getElem? (i := 5) rfl), wm_r20 _ (List.mem_of_getElem? (i := 2) rfl), by decide, by decide +kernel, by decide +kernel, by decide +kernel⟩, wm_r20 _ (List.mem_of_getElem? (i := 0) rfl), wm_r20 _ (List.mem_of_getElem? (i := 1) rfl)⟩
theorem cw_L_41 : am_cv RL 41 yX6_told mX6_told 1 := ⟨⟨wm_r22 _ (List.mem_of_getElem? (i := 1) rfl), wm_r1 _ (List.mem_of_getElem? (i := 2) rfl), wm_r22 _ (List.mem_of_getElem? (i := 4) rfl), by decide, by decide +kernel, by decide +kernel, by decide +kernel⟩, wm_r22 _ (List.mem_of_getElem? (i := 2) rfl), wm_r22 _ (List.mem_of_getElem? (i := 3) rfl)⟩
theorem cw_L_44 : am_cv RL 44 yX7_told mX7_told 1 := ⟨⟨wm_r22 _ (List.mem_of_getElem? (i := 18) rfl), wm_r1 _ (List.mem_of_getElem? (i := 5) rfl), wm_r22 _ (List.mem_of_getElem? (i := 21) rfl), by decide, by decide +kernel, by decide +kernel, by decide +kernel⟩, wm_r22 _ (List.mem_of_getElem? (i := 19) rfl), wm_r22 _ (List.mem_of_getElem? (i := 20) rfl)⟩
theorem cw_L_45 : am_cv RL 45 yX6_go mX6_go 3 := ⟨⟨wm_r23 _ (List.mem_of_getElem? (i := 2) rfl), wm_r1 _ (List.mem_of_getElem? (i := 2) rfl), wm_r23 _ (List.mem_of_getElem? (i := 5) rfl), by decide, by decide +kernel, by decide +kernel, by decide +kernel⟩, wm_r23 _ (List.mem_of_getElem? (i := 3) rfl), wm_r23 _ (List.mem_of_getElem? (i := 4) rfl)⟩
theorem cw_L_49 : am_cv RL 49 yX7_go mX7_go 3 := ⟨⟨wm_r23 _ (List.mem_of_getElem? (i := 9) rfl), wm_r1 _ (List.mem_of_getElem? (i := 5) rfl), wm_r23 _ (List.mem_of_getElem? (i := 12) rfl), by decide, by decide +kernel, by decide +kernel, by decide +kernel⟩, wm_r23 _ (List.mem_of_getElem? (i := 10) rfl), wm_r23 _ (List.mem_of_getElem? (i := 11) rfl)⟩
theorem cw_L_50 : am_cv RL 50 yX6_tally mX6_tally 3 := ⟨⟨wm_r23 _ (List.mem_of_getElem? (i := 15) rfl), wm_r1 _ (List.mem_of_getElem? (i := 2) rfl), wm_r23 _ (List.mem_of_getElem? (i := 18) rfl), by decide, by decide +kernel, by decide +kernel, by decide +kernel⟩, wm_r23 _ (List.mem_of_getElem? (i := 16) rfl), wm_r23 _ (List.mem_of_getElem? (i := 17) rfl)⟩
theorem cw_L_53 : am_cv RL 53 yX7_tally mX7_tally 3 := ⟨⟨wm_r23 _ (List.mem_of_getElem? (i := 19) rfl), wm_r1 _ (List.mem_of_getElem? (i := 5) rfl), wm_r23 _ (List.mem_of_getElem? (i := 22) rfl), by decide, by decide +kernel, by decide +kernel, by decide +kernel⟩, wm_r23 _ (List.mem_of_getElem? (i := 20) rfl), wm_r23 _ (List.mem_of_getElem? (i := 21) rfl)⟩
theorem cw_L_54 : am_cv RL 54 yX6_cost mX6_cost 1 := ⟨⟨wm_r23 _ (List.mem_of_getElem? (i := 23) rfl), wm_r1 _ (List.mem_of_getElem? (i := 2) rfl), wm_r24 _ (List.mem_of_getElem? (i := 2) rfl), by decide, by decide +kernel, by decide +kernel, by decide +kernel⟩, wm_r24 _ (List.mem_of_getElem? (i := 0) rfl), wm_r24 _ (List.mem_of_getElem? (i := 1) rfl)⟩
theorem cw_L_57 : am_cv RL 57 yX7_cost mX7_cost 1 := ⟨⟨wm_r26 _ (List.mem_of_getElem? (i := 8) rfl), wm_r1 _ (List.mem_of_getElem? (i := 5) rfl), wm_r26 _ (List.mem_of_getElem? (i := 11) rfl), by decide, by decide +kernel, by decide +kernel, by decide +kernel⟩, wm_r26 _ (List.mem_of_getElem? (i := 9) rfl), wm_r26 _ (List.mem_of_getElem? (i := 10) rfl)⟩
theorem cw_L_58 : am_cv RL 58 yX6_gate mX6_gate 1 := ⟨⟨wm_r28 _ (List.mem_of_getElem? (i := 2) rfl), wm_r1 _ (List.mem_of_getElem? (i := 2) rfl), wm_r28 _ (List.mem_of_getElem? (i := 5) rfl), by decide, by decide +kernel, by decide +kernel, by decide +kernel⟩, wm_r28 _ (List.mem_of_getElem? (i := 3) rfl), wm_r28 _ (List.mem_of_getElem? (i := 4) rfl)⟩
theorem cw_L_61 : am_cv RL 61 yX7_gate mX7_gate 1 := ⟨⟨wm_r28 _ (List.mem_of_getElem? (i := 7) rfl), wm_r1 _ (List.mem_of_getElem? (i := 5) rfl), wm_r28 _ (List.mem_of_getElem? (i := 10) rfl), by decide, by decide +kernel, by decide +kernel, by decide +kernel⟩, wm_r28 _ (List.mem_of_getElem? (i := 8) rfl), wm_r28 _ (List.mem_of_getElem? (i := 9) rfl)⟩
theorem cw_L_62 : am_cv RL 62 yX6_fresh mX6_fresh 2 := ⟨⟨wm_r28 _ (List.mem_of_getElem? (i := 11) rfl), wm_r1 _ (List.mem_of_getElem? (i := 2) rfl), wm_r28 _ (List.mem_of_getElem? (i := 14) rfl), by decide, by decide +kernel, by decide +kernel, by decide +kernel⟩, wm_r28 _ (List.mem_of_getElem? (i := 12) rfl), wm_r28 _ (List.mem_of_getElem? (i := 13) rfl)⟩
theorem cw_L_65 : am_cv RL 65 yX7_fresh mX7_fresh 2 := ⟨⟨wm_r28 _ (List.mem_of_getElem? (i := 16) rfl), wm_r1 _ (List.mem_of_getElem? (i := 5) rfl), wm_r28 _ (List.mem_of_getElem? (i := 19) rfl), by decide, by decide +kernel, by decide +kernel, by decide +kernel⟩, wm_r28 _ (List.mem_of_getElem? (i := 17) rfl), wm_r28 _ (List.mem_of_getElem? (i := 18) rfl)⟩
theorem cw_L_66 : am_cv RL 66 yX6_need mX6_need 2 := ⟨⟨wm_r29 _ (List.mem_of_getElem? (i := 0) rfl), wm_r1 _ (List.mem_of_getElem? (i := 2) rfl), wm_r29 _ (List.mem_of_getElem? (i := 3) rfl), by decide, by decide +kernel, by decide +kernel, by decide +kernel⟩, wm_r29 _ (List.mem_of_getElem? (i := 1) rfl), wm_r29 _ (List.mem_of_getElem? (i := 2) rfl)⟩
theorem cw_L_69 : am_cv RL 69 yX7_need mX7_need 2 := ⟨⟨wm_r29 _ (List.mem_of_getElem? (i := 4) rfl), wm_r1 _ (List.mem_of_getElem? (i := 5) rfl), wm_r29 _ (List.mem_of_getElem? (i := 7) rfl), by decide, by decide +kernel, by decide +kernel, by decide +kernel⟩, wm_r29 _ (List.mem_of_getElem? (i := 5) rfl), wm_r29 _ (List.mem_of_getElem? (i := 6) rfl)⟩
theorem cw_L_70 : am_cv RL 70 yX6_way mX6_way 2 := ⟨⟨wm_r29 _ (List.mem_of_getElem? (i := 8) rfl), wm_r1 _ (List.mem_of_getElem? (i := 2) rfl), wm_r29 _ (List.mem_of_getElem? (i := 11) rfl), by decide, by decide +kernel, by decide +kernel, by decide +kernel⟩, wm_r29 _ (List.mem_of_getElem? (i := 9) rfl), wm_r29 _ (List.mem_of_getElem? (i := 10) rfl)⟩
theorem cw_L_73 : am_cv RL 73 yX7_way mX7_way 2 := ⟨⟨wm_r30 _ (List.mem_of_getElem? (i := 6) rfl), wm_r1 _ (List.mem_of_getElem? (i := 5) rfl), wm_r30 _ (List.mem_of_getElem? (i := 9) rfl), by decide, by decide +kernel, by decide +kernel, by decide +kernel⟩, wm_r30 _ (List.mem_of_getElem? (i := 7) rfl), wm_r30 _ (List.mem_of_getElem? (i := 8) rfl)⟩
theorem cw_L_74 : am_cv RL 74 yX6_errands mX6_errands 3 := ⟨⟨wm_r30 _ (List.mem_of_getElem? (i := 14) rfl), wm_r1 _ (List.mem_of_getElem? (i := 2) rfl), wm_r30 _ (List.mem_of_getElem? (i := 17) rfl), by decide, by decide +kernel, by decide +kernel, by decide +kernel⟩, wm_r30 _ (List.mem_of_getElem? (i := 15) rfl), wm_r30 _ (List.mem_of_getElem? (i := 16) rfl)⟩
theorem cw_L_77 : am_cv RL 77 yX7_errands mX7_errands 3 := ⟨⟨wm_r31 _ (List.mem_of_getElem? (i := 19) rfl), wm_r1 _ (List.mem_of_getElem? (i := 5) rfl), wm_r31 _ (List.mem_of_getElem? (i := 22) rfl), by decide, by decide +kernel, by decide +kernel, by decide +kernel⟩, wm_r31 _ (List.mem_of_getElem? (i := 20) rfl), wm_r31 _ (List.mem_of_getElem? (i := 21) rfl)⟩
theorem cw_L_78 : am_cv RL 78 yX6_stand mX6_stand 0 := ⟨⟨wm_r32 _ (List.mem_of_getElem? (i := 4) rfl), wm_r1 _ (List.mem_of_getElem? (i := 2) rfl), wm_r32 _ (List.mem_of_getElem? (i := 7) rfl), by decide, by decide +kernel, by decide +kernel, by decide +kernel⟩, wm_r32 _ (List.mem_of_getElem? (i := 5) rfl), wm_r32 _ (List.mem_of_getElem? (i := 6) rfl)⟩
theorem cw_L_81 : am_cv RL 81 yX7_stand mX7_stand 0 := ⟨⟨wm_r32 _ (List.mem_of_getElem? (i := 12) rfl), wm_r1 _ (List.mem_of_getElem? (i := 5) rfl), wm_r32 _ (List.mem_of_getElem? (i := 15) rfl), by decide, by decide +kernel, by decide +kernel, by decide +kernel⟩, wm_r32 _ (List.mem_of_getElem? (i := 13) rfl), wm_r32 _ (List.mem_of_getElem? (i := 14) rfl)⟩
theorem cw_L_82 : am_cv RL 82 yX6_ways mX6_ways 3 := ⟨⟨wm_r32 _ (List.mem_of_getElem? (i := 16) rfl), wm_r1 _ (List.mem_of_getElem? (i := 2) rfl), wm_r32 _ (List.mem_of_getElem? (i := 19) rfl), by decide, by decide +kernel, by decide +kernel, by decide +kernel⟩, wm_r32 _ (List.mem_of_getElem? (i := 17) rfl), wm_r32 _ (List.mem_of_getElem? (i := 18) rfl)⟩
theorem cw_L_86 : am_cv RL 86 yX7_ways mX7_ways 3 := ⟨⟨wm_r33 _ (List.mem_of_getElem? (i := 13) rfl), wm_r1 _ (List.mem_of_getElem? (i := 5) rfl), wm_r33 _ (List.mem_of_getElem? (i := 16) rfl), by decide, by decide +kernel, by decide +kernel, by decide +kernel⟩, wm_r33 _ (List.mem_of_getElem? (i := 14) rfl), wm_r33 _ (List.mem_of_getElem? (i := 15) rfl)⟩
theorem cw_L_87 : am_cv RL 87 yX6_stray mX6_stray 4 := ⟨⟨wm_r34 _ (List.mem_of_getElem? (i := 3) rfl), wm_r1 _ (List.mem_of_getElem? (i := 2) rfl), wm_r34 _ (List.mem_of_getElem? (i := 6) rfl), by decide, by decide +kernel, by decide +kernel, by decide +kernel⟩, wm_r34 _ (List.mem_of_getElem? (i := 4) rfl), wm_r34 _ (List.mem_of_getElem? (i := 5) rfl)⟩
theorem cw_L_91 : am_cv RL 91 yX7_stray mX7_stray 4 := ⟨⟨wm_r34 _ (List.mem_of_getElem? (i := 21) rfl), wm_r1 _ (List.mem_of_getElem? (i := 5) rfl), wm_r35 _ (List.mem_of_getElem? (i := 0) rfl), by decide, by decide +kernel, by decide +kernel, by decide +kernel⟩, wm_r34 _ (List.mem_of_getElem? (i := 22) rfl), wm_r34 _ (List.mem_of_getElem? (i := 23) rfl)⟩
theorem cw_L_92 : am_cv RL 92 yX6_tell mX6_tell 2 := ⟨⟨wm_r35 _ (List.mem_of_getElem? (i := 4) rfl), wm_r1 _ (List.mem_of_getElem? (i := 2) rfl), wm_r35 _ (List.mem_of_getElem? (i := 7) rfl), by decide, by decide +kernel, by decide +kernel, by decide +kernel⟩, wm_r35 _ (List.mem_of_getElem? (i := 5) rfl), wm_r35 _ (List.mem_of_getElem? (i := 6) rfl)⟩
theorem cw_L_95 : am_cv RL 95 yX7_tell mX7_tell 2 := ⟨⟨wm_r35 _ (List.mem_of_getElem? (i := 11) rfl), wm_r1 _ (List.mem_of_getElem? (i := 5) rfl), wm_r35 _ (List.mem_of_getElem? (i := 14) rfl), by decide, by decide +kernel, by decide +kernel, by decide +kernel⟩, wm_r35 _ (List.mem_of_getElem? (i := 12) rfl), wm_r35 _ (List.mem_of_getElem? (i := 13) rfl)⟩
theorem cw_L_96 : am_cv RL 96 yX6_wrong mX6_wrong 1 := ⟨⟨wm_r35 _ (List.mem_of_getElem? (i := 15) rfl), wm_r1 _ (List.mem_of_getElem? (i := 2) rfl), wm_r35 _ (List.mem_of_getElem? (i := 18) rfl), by decide, by decide +kernel, by decide +kernel, by decide +kernel⟩, wm_r35 _ (List.mem_of_getElem? (i := 16) rfl), wm_r35 _ (List.mem_of_getElem? (i := 17) rfl)⟩
theorem cw_L_99 : am_cv RL 99 yX7_wrong mX7_wrong 1 := ⟨⟨wm_r36 _ (List.mem_of_getElem? (i := 4) rfl), wm_r1 _ (List.mem_of_getElem? (i := 5) rfl), wm_r36 _ (List.mem_of_getElem? (i := 7) rfl), by decide, by decide +kernel, by decide +kernel, by decide +kernel⟩, wm_r36 _ (List.mem_of_getElem? (i := 5) rfl), wm_r36 _ (List.mem_of_getElem? (i := 6) rfl)⟩
theorem cw_L_100 : am_cv RL 100 yX6_act mX6_act 3 := ⟨⟨wm_r36 _ (List.mem_of_getElem? (i := 8) rfl), wm_r1 _ (List.mem_of_getElem? (i := 2) rfl), wm_r36 _ (List.mem_of_getElem? (i := 11) rfl), by decide, by decide +kernel, by decide +kernel, by decide +kernel⟩, wm_r36 _ (List.mem_of_getElem? (i := 9) rfl), wm_r36 _ (List.mem_of_getElem? (i := 10) rfl)⟩
theorem cw_L_103 : am_cv RL 103 yX7_act mX7_act 3 := ⟨⟨wm_r37 _ (List.mem_of_getElem? (i := 15) rfl), wm_r1 _ (List.mem_of_getElem? (i := 5) rfl), wm_r37 _ (List.mem_of_getElem? (i := 18) rfl), by decide, by decide +kernel, by decide +kernel, by decide +kernel⟩, wm_r37 _ (List.mem_of_getElem? (i := 16) rfl), wm_r37 _ (List.mem_of_getElem? (i := 17) rfl)⟩
theorem cw_L_104 : am_cv RL 104 yX6_trace mX6_trace 1 := ⟨⟨wm_r39 _ (List.mem_of_getElem? (i := 6) rfl), wm_r1 _ (List.mem_of_getElem? (i := 2) rfl), wm_r39 _ (List.mem_of_getElem? (i := 9) rfl), by decide, by decide +kernel, by decide +kernel, by decide +kernel⟩, wm_r39 _ (List.mem_of_getElem? (i := 7) rfl), wm_r39 _ (List.mem_of_getElem? (i := 8) rfl)⟩
theorem cw_L_107 : am_cv RL 107 yX7_trace mX7_trace 1 := ⟨⟨wm_r39 _ (List.mem_of_getElem? (i := 12) rfl), wm_r1 _ (List.mem_of_getElem? (i := 5) rfl), wm_r39 _ (List.mem_of_getElem? (i := 15) rfl), by decide, by decide +kernel, by decide +kernel, by decide +kernel⟩, wm_r39 _ (List.mem_of_getElem? (i := 13) rfl), wm_r39 _ (List.mem_of_getElem? (i := 14) rfl)⟩
theorem cw_L_108 : am_cv RL 108 yX6_as mX6_as 2 := ⟨⟨wm_r39 _ (List.mem_of_getElem? (i := 16) rfl), wm_r1 _ (List.mem_of_getElem? (i := 2) rfl), wm_r39 _ (List.mem_of_getElem? (i := 19) rfl), by decide, by decide +kernel, by decide +kernel, by decide +kernel⟩, wm_r39 _ (List.mem_of_getElem? (i := 17) rfl), wm_r39 _ (List.mem_of_getElem? (i := 18) rfl)⟩
theorem cw_L_111 : am_cv RL 111 yX7_as mX7_as 2 := ⟨⟨wm_r39 _ (List.mem_of_getElem? (i := 21) rfl), wm_r1 _ (List.mem_of_getElem? (i := 5) rfl), wm_r40 _ (List.mem_of_getElem? (i := 0) rfl), by decide, by decide +kernel, by decide +kernel, by decide +kernel⟩, wm_r39 _ (List.mem_of_getElem? (i := 22) rfl), wm_r39 _ (List.mem_of_getElem? (i := 23) rfl)⟩
theorem cw_L_112 : am_cv RL 112 yX6_image mX6_image 0 := ⟨⟨wm_r40 _ (List.mem_of_getElem? (i := 1) rfl), wm_r1 _ (List.mem_of_getElem? (i := 2) rfl), wm_r40 _ (List.mem_of_getElem? (i := 4) rfl), by decide, by decide +kernel, by decide +kernel, by decide +kernel⟩, wm_r40 _ (List.mem_of_getElem? (i := 2) rfl), wm_r40 _ (List.mem_of_getElem? (i := 3) rfl)⟩
theorem cw_L_115 : am_cv RL 115 yX7_image mX7_image 0 := ⟨⟨wm_r40 _ (List.mem_of_getElem? (i := 13) rfl), wm_r1 _ (List.mem_of_getElem? (i := 5) rfl), wm_r40 _ (List.mem_of_getElem? (i := 16) rfl), by decide, by decide +kernel, by decide +kernel, by decide +kernel⟩, wm_r40 _ (List.mem_of_getElem? (i := 14) rfl), wm_r40 _ (List.mem_of_getElem? (i := 15) rfl)⟩
theorem cw_L_116 : am_cv RL 116 yX6_undo mX6_undo 0 := ⟨⟨wm_r40 _ (List.mem_of_getElem? (i := 18) rfl), wm_r1 _ (List.mem_of_getElem? (i := 2) rfl), wm_r40 _ (List.mem_of_getElem? (i := 21) rfl), by decide, by decide +kernel, by decide +kernel, by decide +kernel⟩, wm_r40 _ (List.mem_of_getElem? (i := 19) rfl), wm_r40 _ (List.mem_of_getElem? (i := 20) rfl)⟩
theorem cw_L_119 : am_cv RL 119 yX7_undo mX7_undo 0 := ⟨⟨wm_r40 _ (List.mem_of_getElem? (i := 22) rfl), wm_r1 _ (List.mem_of_getElem? (i := 5) rfl), wm_r41 _ (List.mem_of_getElem? (i := 1) rfl), by decide, by decide +kernel, by decide +kernel, by decide +kernel⟩, wm_r40 _ (List.mem_of_getElem? (i := 23) rfl), wm_r41 _ (List.mem_of_getElem? (i := 0) rfl)⟩
theorem cw_L_120 : am_cv RL 120 yX6_count mX6_count 1 := ⟨⟨wm_r41 _ (List.mem_of_getElem? (i := 2) rfl), wm_r1 _ (List.mem_of_getElem? (i := 2) rfl), wm_r41 _ (List.mem_of_getElem? (i := 5) rfl), by decide, by decide +kernel, by decide +kernel, by decide +kernel⟩, wm_r41 _ (List.mem_of_getElem? (i := 3) rfl), wm_r41 _ (List.mem_of_getElem? (i := 4) rfl)⟩
theorem cw_L_123 : am_cv RL 123 yX7_count mX7_count 1 := ⟨⟨wm_r41 _ (List.mem_of_getElem? (i := 6) rfl), wm_r1 _ (List.mem_of_getElem? (i := 5) rfl), wm_r41 _ (List.mem_of_getElem? (i := 9) rfl), by decide, by decide +kernel, by decide +kernel, by decide +kernel⟩, wm_r41 _ (List.mem_of_getElem? (i := 7) rfl), wm_r41 _ (List.mem_of_getElem? (i := 8) rfl)⟩
