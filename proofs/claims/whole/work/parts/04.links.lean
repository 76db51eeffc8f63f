def M_X0_init : MI := (yX0_init, cX0_init, 1, none, some 0)
def M_X0_least : MI := (yX0_least, cX0_least, 3, some .int, some 0)
def M_X0_keeping : MI := (yX0_keeping, cX0_keeping, 3, some .int, some 0)
def M_X0_numberAsItIs : MI := (yX0_numberAsItIs, cX0_numberAsItIs, 4, some .int, some 0)
def M_X0_lower : MI := (yX0_lower, cX0_lower, 7, none, some 0)
def M_X0_keep : MI := (yX0_keep, cX0_keep, 5, none, some 0)
def M_X0_bitsOf : MI := (yX0_bitsOf, cX0_bitsOf, 8, some .int, some 0)
def M_X1_init : MI := (yX1_init, cX1_init, 1, none, some 1)
def M_X1_start : MI := (yX1_start, cX1_start, 4, none, some 1)
def M_X1_hasItems : MI := (yX1_hasItems, cX1_hasItems, 3, some .boolean, some 1)
def M_X1_wrongWithItem : MI := (yX1_wrongWithItem, cX1_wrongWithItem, 3, some .int, some 1)
def M_X1_setItem : MI := (yX1_setItem, cX1_setItem, 3, none, some 1)
def M_X2_init : MI := (yX2_init, cX2_init, 1, none, some 2)
def M_X2_take : MI := (yX2_take, cX2_take, 4, none, some 2)
def M_X2_setUnit : MI := (yX2_setUnit, cX2_setUnit, 4, none, some 2)
def M_X2_multiply : MI := (yX2_multiply, cX2_multiply, 6, none, some 2)
def M_X2_rowTimesColumn : MI := (yX2_rowTimesColumn, cX2_rowTimesColumn, 11, some .long, some 2)
def M_X2_trace : MI := (yX2_trace, cX2_trace, 5, some .long, some 2)
def M_X2_takeFromUnits : MI := (yX2_takeFromUnits, cX2_takeFromUnits, 7, none, some 2)
def M_X2_noneBelowZero : MI := (yX2_noneBelowZero, cX2_noneBelowZero, 2, some .boolean, some 2)
def M_X2_dimensions : MI := (yX2_dimensions, cX2_dimensions, 2, some .int, some 2)
def M_X2_timesOwn : MI := (yX2_timesOwn, cX2_timesOwn, 5, some .int, some 2)
def M_X2_letsIn : MI := (yX2_letsIn, cX2_letsIn, 6, some .boolean, some 2)
def M_X2_sumWith : MI := (yX2_sumWith, cX2_sumWith, 3, some .long, some 2)
def M_X2_bothSides : MI := (yX2_bothSides, cX2_bothSides, 10, some .long, some 2)
def M_X3_init : MI := (yX3_init, cX3_init, 1, none, some 3)
def M_X3_start : MI := (yX3_start, cX3_start, 3, none, some 3)
def M_X3_startNamed : MI := (yX3_startNamed, cX3_startNamed, 5, none, some 3)
def M_X3_bitOfPair : MI := (yX3_bitOfPair, cX3_bitOfPair, 2, some .int, none)
def M_X3_hasLine : MI := (yX3_hasLine, cX3_hasLine, 2, some .boolean, some 3)
def M_X3_isRow : MI := (yX3_isRow, cX3_isRow, 2, some .boolean, some 3)
def M_X3_isMinus : MI := (yX3_isMinus, cX3_isMinus, 3, some .boolean, some 3)
def M_X3_entry : MI := (yX3_entry, cX3_entry, 3, some .int, some 3)
def M_X3_setMinus : MI := (yX3_setMinus, cX3_setMinus, 4, none, some 3)
def M_X3_turnLine : MI := (yX3_turnLine, cX3_turnLine, 3, none, some 3)
def M_X3_swapLines : MI := (yX3_swapLines, cX3_swapLines, 5, none, some 3)
def M_X3_addLine : MI := (yX3_addLine, cX3_addLine, 4, none, some 3)
def M_X3_minusSigns : MI := (yX3_minusSigns, cX3_minusSigns, 3, some .int, some 3)
def M_X3_oddTriplesWith : MI := (yX3_oddTriplesWith, cX3_oddTriplesWith, 6, some .int, some 3)
def M_X3_oddTriples : MI := (yX3_oddTriples, cX3_oddTriples, 4, some .int, some 3)
def M_X4_init : MI := (yX4_init, cX4_init, 2, none, some 4)
def M_X4_lines : MI := (yX4_lines, cX4_lines, 3, some .int, some 4)
def M_X4_sign : MI := (yX4_sign, cX4_sign, 5, some .int, some 4)
def M_X4_at : MI := (yX4_at, cX4_at, 3, some .int, some 4)
def M_X4_turn : MI := (yX4_turn, cX4_turn, 2, some .int, some 4)
def M_X4_change : MI := (yX4_change, cX4_change, 3, some .int, some 4)
def M_X4_odd : MI := (yX4_odd, cX4_odd, 1, some .int, some 4)
def M_X4_together : MI := (yX4_together, cX4_together, 3, some .int, some 4)
def M_X4_regular : MI := (yX4_regular, cX4_regular, 4, some .int, some 4)
def M_X4_areTwoLines : MI := (yX4_areTwoLines, cX4_areTwoLines, 3, some .boolean, some 4)
def M_X4_isLineCount : MI := (yX4_isLineCount, cX4_isLineCount, 1, some .boolean, none)
def M_X4_angle : MI := (yX4_angle, cX4_angle, 3, some .int, some 4)
def M_X4_sums : MI := (yX4_sums, cX4_sums, 3, some .long, some 4)
def M_X4_own : MI := (yX4_own, cX4_own, 2, some .int, some 4)
def M_X4_lies : MI := (yX4_lies, cX4_lies, 1, some .int, some 4)
def M_X4_rank : MI := (yX4_rank, cX4_rank, 1, some .int, some 4)
def M_X4_bound : MI := (yX4_bound, cX4_bound, 4, some .int, some 4)
def M_X4_isDimension : MI := (yX4_isDimension, cX4_isDimension, 1, some .boolean, none)
def M_X4_goes : MI := (yX4_goes, cX4_goes, 4, some .int, some 4)
def M_X4_ways : MI := (yX4_ways, cX4_ways, 5, some .int, some 4)
def M_X4_put : MI := (yX4_put, cX4_put, 2, some .int, some 4)
def M_X4_grow : MI := (yX4_grow, cX4_grow, 4, some .int, some 4)
def M_X4_refusalOfOneMore : MI := (yX4_refusalOfOneMore, cX4_refusalOfOneMore, 1, some .int, some 4)
def M_X4_leastGoing : MI := (yX4_leastGoing, cX4_leastGoing, 3, some .int, some 4)
def M_X4_name : MI := (yX4_name, cX4_name, 1, some .int, some 4)
def M_X4_plain : MI := (yX4_plain, cX4_plain, 3, some .int, some 4)
def M_X4_group : MI := (yX4_group, cX4_group, 1, some .int, some 4)
def M_X4_kinds : MI := (yX4_kinds, cX4_kinds, 5, some .int, some 4)
def M_X4_hits : MI := (yX4_hits, cX4_hits, 4, some .int, some 4)
def M_X4_even : MI := (yX4_even, cX4_even, 3, some .int, some 4)
def M_X4_welch : MI := (yX4_welch, cX4_welch, 3, some .int, some 4)
def M_X4_multipliers : MI := (yX4_multipliers, cX4_multipliers, 7, some .int, some 4)
def M_X4_find : MI := (yX4_find, cX4_find, 4, some .int, some 4)
def M_X4_isRound : MI := (yX4_isRound, cX4_isRound, 1, some .boolean, none)
def M_X4_isSet : MI := (yX4_isSet, cX4_isSet, 2, some .boolean, none)
def M_X4_allOfRound : MI := (yX4_allOfRound, cX4_allOfRound, 1, some .int, none)
def M_X4_movedRound : MI := (yX4_movedRound, cX4_movedRound, 3, some .int, none)
def M_X4_hitsOfStep : MI := (yX4_hitsOfStep, cX4_hitsOfStep, 3, some .int, none)
def M_X4_evenHits : MI := (yX4_evenHits, cX4_evenHits, 4, some .int, none)
def M_X4_multiplied : MI := (yX4_multiplied, cX4_multiplied, 5, some .int, none)
def M_X4_isMovedRound : MI := (yX4_isMovedRound, cX4_isMovedRound, 4, some .boolean, none)
def M_X4_sheet : MI := (yX4_sheet, cX4_sheet, 4, some .int, some 4)
def M_X4_lose : MI := (yX4_lose, cX4_lose, 3, some .int, some 4)
def M_X4_lay : MI := (yX4_lay, cX4_lay, 6, some .int, some 4)
def M_X4_get : MI := (yX4_get, cX4_get, 5, some .int, some 4)
def M_X4_copy : MI := (yX4_copy, cX4_copy, 8, some .int, some 4)
def M_X4_load : MI := (yX4_load, cX4_load, 6, some .int, some 4)
def M_X4_write : MI := (yX4_write, cX4_write, 6, some .int, some 4)
def M_X4_count : MI := (yX4_count, cX4_count, 2, some .int, some 4)
def M_X4_digest : MI := (yX4_digest, cX4_digest, 5, some .long, some 4)
def M_X4_isSheet : MI := (yX4_isSheet, cX4_isSheet, 1, some .boolean, none)
def M_X4_isForm : MI := (yX4_isForm, cX4_isForm, 1, some .boolean, none)
def M_X4_findingOf : MI := (yX4_findingOf, cX4_findingOf, 2, some .int, some 4)
def M_X5_init : MI := (yX5_init, cX5_init, 1, none, some 5)
def M_X5_in : MI := (yX5_in, cX5_in, 3, some .boolean, none)
def M_X5_isLine : MI := (yX5_isLine, cX5_isLine, 2, some .boolean, some 5)
def M_X5_set : MI := (yX5_set, cX5_set, 4, none, some 5)
def M_X5_lines : MI := (yX5_lines, cX5_lines, 5, some .int, some 5)
def M_X5_sign : MI := (yX5_sign, cX5_sign, 5, some .int, some 5)
def M_X5_at : MI := (yX5_at, cX5_at, 3, some .int, some 5)
def M_X5_turn : MI := (yX5_turn, cX5_turn, 4, some .int, some 5)
def M_X5_change : MI := (yX5_change, cX5_change, 5, some .int, some 5)
def M_X5_isOdd : MI := (yX5_isOdd, cX5_isOdd, 4, some .boolean, some 5)
def M_X5_togetherOf : MI := (yX5_togetherOf, cX5_togetherOf, 5, some .int, some 5)
def M_X5_odd : MI := (yX5_odd, cX5_odd, 4, some .int, some 5)
def M_X5_together : MI := (yX5_together, cX5_together, 3, some .int, some 5)
def M_X5_regular : MI := (yX5_regular, cX5_regular, 3, some .int, some 5)
def M_X5_angle : MI := (yX5_angle, cX5_angle, 3, some .int, some 5)
def M_X5_reckon : MI := (yX5_reckon, cX5_reckon, 9, none, some 5)
def M_X5_sums : MI := (yX5_sums, cX5_sums, 3, some .long, some 5)
def M_X5_own : MI := (yX5_own, cX5_own, 6, some .int, some 5)
def M_X5_liesAll : MI := (yX5_liesAll, cX5_liesAll, 3, some .boolean, some 5)
def M_X5_rankOf : MI := (yX5_rankOf, cX5_rankOf, 4, some .int, some 5)
def M_X5_lies : MI := (yX5_lies, cX5_lies, 1, some .int, some 5)
def M_X5_rank : MI := (yX5_rank, cX5_rank, 1, some .int, some 5)
def M_X5_bound : MI := (yX5_bound, cX5_bound, 5, some .int, some 5)
def M_X5_isRow : MI := (yX5_isRow, cX5_isRow, 2, some .boolean, some 5)
def M_X5_fits : MI := (yX5_fits, cX5_fits, 4, some .boolean, some 5)
def M_X5_goes : MI := (yX5_goes, cX5_goes, 3, some .int, some 5)
def M_X5_ways : MI := (yX5_ways, cX5_ways, 4, some .int, some 5)
def M_X5_put : MI := (yX5_put, cX5_put, 3, some .int, some 5)
def M_X5_grow : MI := (yX5_grow, cX5_grow, 4, some .int, some 5)
def M_X5_signBy : MI := (yX5_signBy, cX5_signBy, 6, some .int, some 5)
def M_X5_codeOf : MI := (yX5_codeOf, cX5_codeOf, 6, some .int, some 5)
def M_X5_begin : MI := (yX5_begin, cX5_begin, 3, none, some 5)
def M_X5_step : MI := (yX5_step, cX5_step, 8, some .boolean, some 5)
def M_X5_nameOf : MI := (yX5_nameOf, cX5_nameOf, 4, some .int, some 5)
def M_X5_name : MI := (yX5_name, cX5_name, 1, some .int, some 5)
def M_X5_spell : MI := (yX5_spell, cX5_spell, 6, none, some 5)
def M_X5_plain : MI := (yX5_plain, cX5_plain, 6, some .int, some 5)
def M_X5_group : MI := (yX5_group, cX5_group, 3, some .int, some 5)
def M_X5_kinds : MI := (yX5_kinds, cX5_kinds, 4, some .int, some 5)
def M_X5_isSet : MI := (yX5_isSet, cX5_isSet, 2, some .boolean, none)
def M_X5_hitsOf : MI := (yX5_hitsOf, cX5_hitsOf, 5, some .int, none)
def M_X5_hits : MI := (yX5_hits, cX5_hits, 4, some .int, some 5)
def M_X5_evenOf : MI := (yX5_evenOf, cX5_evenOf, 4, some .int, none)
def M_X5_even : MI := (yX5_even, cX5_even, 3, some .int, some 5)
def M_X5_welch : MI := (yX5_welch, cX5_welch, 3, some .int, some 5)
def M_X5_divisor : MI := (yX5_divisor, cX5_divisor, 5, some .int, none)
def M_X5_multipliers : MI := (yX5_multipliers, cX5_multipliers, 8, some .int, some 5)
def M_X5_find : MI := (yX5_find, cX5_find, 6, some .int, some 5)
def M_X5_meets : MI := (yX5_meets, cX5_meets, 2, some .int, some 5)
def M_X5_isSheet : MI := (yX5_isSheet, cX5_isSheet, 1, some .boolean, none)
def M_X5_sheet : MI := (yX5_sheet, cX5_sheet, 5, some .int, some 5)
def M_X5_lose : MI := (yX5_lose, cX5_lose, 2, some .int, some 5)
def M_X5_lacks : MI := (yX5_lacks, cX5_lacks, 4, some .int, some 5)
def M_X5_lay : MI := (yX5_lay, cX5_lay, 6, some .int, some 5)
def M_X5_get : MI := (yX5_get, cX5_get, 5, some .int, some 5)
def M_X5_copy : MI := (yX5_copy, cX5_copy, 7, some .int, some 5)
def M_X5_load : MI := (yX5_load, cX5_load, 6, some .int, some 5)
def M_X5_write : MI := (yX5_write, cX5_write, 4, some .int, some 5)
def M_X5_count : MI := (yX5_count, cX5_count, 5, some .int, some 5)
def M_X5_digest : MI := (yX5_digest, cX5_digest, 5, some .long, some 5)
def M_J6_bitCount : MI := (yJ6_bitCount_0f7a4, cJ6_bitCount_0f7a4, 1, some .int, none)
def M_J9_min : MI := (yJ9_min_7cf53, cJ9_min_7cf53, 2, some .int, none)
theorem inW_X0 : ∀ w ∈ u_ws RX0 TX0 4, w ∈ lw_g := by decide +kernel
theorem inW_X1 : ∀ w ∈ u_ws RX1 TX1 4, w ∈ lw_g := by decide +kernel
theorem inW_X2 : ∀ w ∈ u_ws RX2 TX2 5, w ∈ lw_g := by decide +kernel
theorem inW_X3 : ∀ w ∈ u_ws RX3 TX3 2, w ∈ lw_g := by decide +kernel
theorem inW_X4 : ∀ w ∈ u_ws RX4 TX4 7, w ∈ lw_g := by decide +kernel
theorem inW_X5 : ∀ w ∈ u_ws RX5 TX5 17, w ∈ lw_g := by decide +kernel
theorem fl_X4_10 : FL RX4 10 4 0 := ⟨RX4, TX4, 7, rfl, by decide, inW_X4, (lw_gm (i := 139) (by decide +kernel) rfl)⟩
theorem fl_X4_16 : FL RX4 16 4 1 := ⟨RX4, TX4, 7, rfl, by decide, inW_X4, (lw_gm (i := 140) (by decide +kernel) rfl)⟩
theorem fl_X4_22 : FL RX4 22 4 2 := ⟨RX4, TX4, 7, rfl, by decide, inW_X4, (lw_gm (i := 141) (by decide +kernel) rfl)⟩
theorem fl_X4_29 : FL RX4 29 4 3 := ⟨RX4, TX4, 7, rfl, by decide, inW_X4, (lw_gm (i := 142) (by decide +kernel) rfl)⟩
theorem fl_X4_35 : FL RX4 35 4 4 := ⟨RX4, TX4, 7, rfl, by decide, inW_X4, (lw_gm (i := 143) (by decide +kernel) rfl)⟩
theorem fl_X4_39 : FL RX4 39 4 5 := ⟨RX4, TX4, 7, rfl, by decide, inW_X4, (lw_gm (i := 144) (by decide +kernel) rfl)⟩
theorem fl_X4_43 : FL RX4 43 4 6 := ⟨RX4, TX4, 7, rfl, by decide, inW_X4, (lw_gm (i := 145) (by decide +kernel) rfl)⟩
theorem fl_X4_51 : FL RX4 51 3 1 := ⟨RX3, TX3, 2, rfl, by decide, inW_X3, (lw_gm (i := 63) (by decide +kernel) rfl)⟩
theorem fl_X4_76 : FL RX4 76 3 0 := ⟨RX3, TX3, 2, rfl, by decide, inW_X3, (lw_gm (i := 58) (by decide +kernel) rfl)⟩
theorem fl_X4_103 : FL RX4 103 2 0 := ⟨RX2, TX2, 5, rfl, by decide, inW_X2, (lw_gm (i := 79) (by decide +kernel) rfl)⟩
theorem fl_X4_188 : FL RX4 188 1 1 := ⟨RX1, TX1, 4, rfl, by decide, inW_X1, (lw_gm (i := 125) (by decide +kernel) rfl)⟩
theorem fl_X4_192 : FL RX4 192 1 3 := ⟨RX1, TX1, 4, rfl, by decide, inW_X1, (lw_gm (i := 129) (by decide +kernel) rfl)⟩
theorem fl_X4_200 : FL RX4 200 1 0 := ⟨RX1, TX1, 4, rfl, by decide, inW_X1, (lw_gm (i := 123) (by decide +kernel) rfl)⟩
theorem fl_X4_203 : FL RX4 203 1 2 := ⟨RX1, TX1, 4, rfl, by decide, inW_X1, (lw_gm (i := 127) (by decide +kernel) rfl)⟩
theorem fl_X0_9 : FL RX0 9 0 0 := ⟨RX0, TX0, 4, rfl, by decide, inW_X0, (lw_gm (i := 102) (by decide +kernel) rfl)⟩
theorem fl_X0_15 : FL RX0 15 0 1 := ⟨RX0, TX0, 4, rfl, by decide, inW_X0, (lw_gm (i := 103) (by decide +kernel) rfl)⟩
theorem fl_X0_18 : FL RX0 18 0 2 := ⟨RX0, TX0, 4, rfl, by decide, inW_X0, (lw_gm (i := 104) (by decide +kernel) rfl)⟩
theorem fl_X0_22 : FL RX0 22 0 3 := ⟨RX0, TX0, 4, rfl, by decide, inW_X0, (lw_gm (i := 105) (by decide +kernel) rfl)⟩
theorem fl_X0_29 : FL RX0 29 3 1 := ⟨RX3, TX3, 2, rfl, by decide, inW_X3, (lw_gm (i := 62) (by decide +kernel) rfl)⟩
theorem fl_X0_52 : FL RX0 52 3 0 := ⟨RX3, TX3, 2, rfl, by decide, inW_X3, (lw_gm (i := 59) (by decide +kernel) rfl)⟩
theorem fl_X1_9 : FL RX1 9 1 0 := ⟨RX1, TX1, 4, rfl, by decide, inW_X1, (lw_gm (i := 122) (by decide +kernel) rfl)⟩
theorem fl_X1_15 : FL RX1 15 1 1 := ⟨RX1, TX1, 4, rfl, by decide, inW_X1, (lw_gm (i := 124) (by decide +kernel) rfl)⟩
theorem fl_X1_19 : FL RX1 19 1 2 := ⟨RX1, TX1, 4, rfl, by decide, inW_X1, (lw_gm (i := 126) (by decide +kernel) rfl)⟩
theorem fl_X1_23 : FL RX1 23 1 3 := ⟨RX1, TX1, 4, rfl, by decide, inW_X1, (lw_gm (i := 128) (by decide +kernel) rfl)⟩
theorem fl_X2_9 : FL RX2 9 2 0 := ⟨RX2, TX2, 5, rfl, by decide, inW_X2, (lw_gm (i := 78) (by decide +kernel) rfl)⟩
theorem fl_X2_17 : FL RX2 17 2 1 := ⟨RX2, TX2, 5, rfl, by decide, inW_X2, (lw_gm (i := 80) (by decide +kernel) rfl)⟩
theorem fl_X2_20 : FL RX2 20 2 2 := ⟨RX2, TX2, 5, rfl, by decide, inW_X2, (lw_gm (i := 81) (by decide +kernel) rfl)⟩
theorem fl_X2_23 : FL RX2 23 2 3 := ⟨RX2, TX2, 5, rfl, by decide, inW_X2, (lw_gm (i := 82) (by decide +kernel) rfl)⟩
theorem fl_X2_27 : FL RX2 27 2 4 := ⟨RX2, TX2, 5, rfl, by decide, inW_X2, (lw_gm (i := 83) (by decide +kernel) rfl)⟩
theorem fl_X2_30 : FL RX2 30 3 1 := ⟨RX3, TX3, 2, rfl, by decide, inW_X3, (lw_gm (i := 61) (by decide +kernel) rfl)⟩
theorem fl_X2_53 : FL RX2 53 3 0 := ⟨RX3, TX3, 2, rfl, by decide, inW_X3, (lw_gm (i := 57) (by decide +kernel) rfl)⟩
theorem fl_X3_9 : FL RX3 9 3 0 := ⟨RX3, TX3, 2, rfl, by decide, inW_X3, (lw_gm (i := 56) (by decide +kernel) rfl)⟩
theorem fl_X3_15 : FL RX3 15 3 1 := ⟨RX3, TX3, 2, rfl, by decide, inW_X3, (lw_gm (i := 60) (by decide +kernel) rfl)⟩
theorem fl_X5_7 : FL RX5 7 5 1 := ⟨RX5, TX5, 17, rfl, by decide, inW_X5, (lw_gm (i := 533) (by decide +kernel) rfl)⟩
theorem fl_X5_13 : FL RX5 13 5 2 := ⟨RX5, TX5, 17, rfl, by decide, inW_X5, (lw_gm (i := 534) (by decide +kernel) rfl)⟩
theorem fl_X5_17 : FL RX5 17 5 3 := ⟨RX5, TX5, 17, rfl, by decide, inW_X5, (lw_gm (i := 535) (by decide +kernel) rfl)⟩
theorem fl_X5_21 : FL RX5 21 5 4 := ⟨RX5, TX5, 17, rfl, by decide, inW_X5, (lw_gm (i := 536) (by decide +kernel) rfl)⟩
theorem fl_X5_24 : FL RX5 24 5 5 := ⟨RX5, TX5, 17, rfl, by decide, inW_X5, (lw_gm (i := 537) (by decide +kernel) rfl)⟩
theorem fl_X5_27 : FL RX5 27 5 6 := ⟨RX5, TX5, 17, rfl, by decide, inW_X5, (lw_gm (i := 538) (by decide +kernel) rfl)⟩
theorem fl_X5_30 : FL RX5 30 5 7 := ⟨RX5, TX5, 17, rfl, by decide, inW_X5, (lw_gm (i := 539) (by decide +kernel) rfl)⟩
theorem fl_X5_33 : FL RX5 33 5 8 := ⟨RX5, TX5, 17, rfl, by decide, inW_X5, (lw_gm (i := 540) (by decide +kernel) rfl)⟩
theorem fl_X5_36 : FL RX5 36 5 9 := ⟨RX5, TX5, 17, rfl, by decide, inW_X5, (lw_gm (i := 541) (by decide +kernel) rfl)⟩
theorem fl_X5_39 : FL RX5 39 5 10 := ⟨RX5, TX5, 17, rfl, by decide, inW_X5, (lw_gm (i := 542) (by decide +kernel) rfl)⟩
theorem fl_X5_42 : FL RX5 42 5 11 := ⟨RX5, TX5, 17, rfl, by decide, inW_X5, (lw_gm (i := 543) (by decide +kernel) rfl)⟩
theorem fl_X5_46 : FL RX5 46 5 12 := ⟨RX5, TX5, 17, rfl, by decide, inW_X5, (lw_gm (i := 544) (by decide +kernel) rfl)⟩
theorem fl_X5_49 : FL RX5 49 5 13 := ⟨RX5, TX5, 17, rfl, by decide, inW_X5, (lw_gm (i := 545) (by decide +kernel) rfl)⟩
theorem fl_X5_52 : FL RX5 52 5 14 := ⟨RX5, TX5, 17, rfl, by decide, inW_X5, (lw_gm (i := 546) (by decide +kernel) rfl)⟩
theorem fl_X5_55 : FL RX5 55 5 15 := ⟨RX5, TX5, 17, rfl, by decide, inW_X5, (lw_gm (i := 547) (by decide +kernel) rfl)⟩
theorem fl_X5_58 : FL RX5 58 5 0 := ⟨RX5, TX5, 17, rfl, by decide, inW_X5, (lw_gm (i := 532) (by decide +kernel) rfl)⟩
theorem fl_X5_135 : FL RX5 135 5 16 := ⟨RX5, TX5, 17, rfl, by decide, inW_X5, (lw_gm (i := 548) (by decide +kernel) rfl)⟩
theorem fp_X4_39 : FP RX4 39 4 5 .int := ⟨RX4, TX4, 7, tyX4, rfl, by decide, inW_X4, (lw_gm (i := 144) (by decide +kernel) rfl), tyX4_ok, nmX4, rfl, by decide +kernel⟩
theorem fp_X4_43 : FP RX4 43 4 6 .int := ⟨RX4, TX4, 7, tyX4, rfl, by decide, inW_X4, (lw_gm (i := 145) (by decide +kernel) rfl), tyX4_ok, nmX4, rfl, by decide +kernel⟩
theorem fp_X4_188 : FP RX4 188 1 1 .boolean := ⟨RX1, TX1, 4, tyX1, rfl, by decide, inW_X1, (lw_gm (i := 125) (by decide +kernel) rfl), tyX1_ok, nmX1, rfl, by decide +kernel⟩
theorem fp_X0_18 : FP RX0 18 0 2 .int := ⟨RX0, TX0, 4, tyX0, rfl, by decide, inW_X0, (lw_gm (i := 104) (by decide +kernel) rfl), tyX0_ok, nmX0, rfl, by decide +kernel⟩
theorem fp_X0_22 : FP RX0 22 0 3 .int := ⟨RX0, TX0, 4, tyX0, rfl, by decide, inW_X0, (lw_gm (i := 105) (by decide +kernel) rfl), tyX0_ok, nmX0, rfl, by decide +kernel⟩
theorem fp_X1_15 : FP RX1 15 1 1 .boolean := ⟨RX1, TX1, 4, tyX1, rfl, by decide, inW_X1, (lw_gm (i := 124) (by decide +kernel) rfl), tyX1_ok, nmX1, rfl, by decide +kernel⟩
theorem fp_X1_19 : FP RX1 19 1 2 .int := ⟨RX1, TX1, 4, tyX1, rfl, by decide, inW_X1, (lw_gm (i := 126) (by decide +kernel) rfl), tyX1_ok, nmX1, rfl, by decide +kernel⟩
theorem fp_X1_23 : FP RX1 23 1 3 .int := ⟨RX1, TX1, 4, tyX1, rfl, by decide, inW_X1, (lw_gm (i := 128) (by decide +kernel) rfl), tyX1_ok, nmX1, rfl, by decide +kernel⟩
theorem fp_X2_23 : FP RX2 23 2 3 .int := ⟨RX2, TX2, 5, tyX2, rfl, by decide, inW_X2, (lw_gm (i := 82) (by decide +kernel) rfl), tyX2_ok, nmX2, rfl, by decide +kernel⟩
theorem fp_X2_27 : FP RX2 27 2 4 .int := ⟨RX2, TX2, 5, tyX2, rfl, by decide, inW_X2, (lw_gm (i := 83) (by decide +kernel) rfl), tyX2_ok, nmX2, rfl, by decide +kernel⟩
theorem fp_X3_15 : FP RX3 15 3 1 .int := ⟨RX3, TX3, 2, tyX3, rfl, by decide, inW_X3, (lw_gm (i := 60) (by decide +kernel) rfl), tyX3_ok, nmX3, rfl, by decide +kernel⟩
theorem fp_X5_13 : FP RX5 13 5 2 .int := ⟨RX5, TX5, 17, tyX5, rfl, by decide, inW_X5, (lw_gm (i := 534) (by decide +kernel) rfl), tyX5_ok, nmX5, rfl, by decide +kernel⟩
theorem fp_X5_58 : FP RX5 58 5 0 .int := ⟨RX5, TX5, 17, tyX5, rfl, by decide, inW_X5, (lw_gm (i := 532) (by decide +kernel) rfl), tyX5_ok, nmX5, rfl, by decide +kernel⟩
theorem fp_X5_135 : FP RX5 135 5 16 .int := ⟨RX5, TX5, 17, tyX5, rfl, by decide, inW_X5, (lw_gm (i := 548) (by decide +kernel) rfl), tyX5_ok, nmX5, rfl, by decide +kernel⟩
theorem sl_X4_47 : SL RX4 47 M_X4_isLineCount 1 := ⟨(lw_gm (i := 165) (by decide +kernel) rfl), (lw_gm (i := 166) (by decide +kernel) rfl), (lw_gm (i := 33) (by decide +kernel) rfl), (lw_gm (i := 167) (by decide +kernel) rfl), ⟨by decide +kernel, by decide +kernel, by decide +kernel⟩, by decide⟩
theorem sl_X4_80 : SL RX4 80 M_J6_bitCount 1 := ⟨(lw_gm (i := 209) (by decide +kernel) rfl), (lw_gm (i := 210) (by decide +kernel) rfl), (lw_gm (i := 39) (by decide +kernel) rfl), (lw_gm (i := 211) (by decide +kernel) rfl), ⟨by decide +kernel, by decide +kernel, by decide +kernel⟩, by decide⟩
theorem sl_X4_117 : SL RX4 117 M_X4_isDimension 1 := ⟨(lw_gm (i := 306) (by decide +kernel) rfl), (lw_gm (i := 307) (by decide +kernel) rfl), (lw_gm (i := 33) (by decide +kernel) rfl), (lw_gm (i := 308) (by decide +kernel) rfl), ⟨by decide +kernel, by decide +kernel, by decide +kernel⟩, by decide⟩
theorem sl_X4_150 : SL RX4 150 M_X4_isSet 2 := ⟨(lw_gm (i := 411) (by decide +kernel) rfl), (lw_gm (i := 412) (by decide +kernel) rfl), (lw_gm (i := 33) (by decide +kernel) rfl), (lw_gm (i := 413) (by decide +kernel) rfl), ⟨by decide +kernel, by decide +kernel, by decide +kernel⟩, by decide⟩
theorem sl_X4_153 : SL RX4 153 M_X4_hitsOfStep 3 := ⟨(lw_gm (i := 417) (by decide +kernel) rfl), (lw_gm (i := 418) (by decide +kernel) rfl), (lw_gm (i := 33) (by decide +kernel) rfl), (lw_gm (i := 419) (by decide +kernel) rfl), ⟨by decide +kernel, by decide +kernel, by decide +kernel⟩, by decide⟩
theorem sl_X4_157 : SL RX4 157 M_X4_evenHits 2 := ⟨(lw_gm (i := 430) (by decide +kernel) rfl), (lw_gm (i := 431) (by decide +kernel) rfl), (lw_gm (i := 33) (by decide +kernel) rfl), (lw_gm (i := 432) (by decide +kernel) rfl), ⟨by decide +kernel, by decide +kernel, by decide +kernel⟩, by decide⟩
theorem sl_X4_160 : SL RX4 160 M_X4_isRound 1 := ⟨(lw_gm (i := 414) (by decide +kernel) rfl), (lw_gm (i := 415) (by decide +kernel) rfl), (lw_gm (i := 33) (by decide +kernel) rfl), (lw_gm (i := 416) (by decide +kernel) rfl), ⟨by decide +kernel, by decide +kernel, by decide +kernel⟩, by decide⟩
theorem sl_X4_164 : SL RX4 164 M_X4_allOfRound 1 := ⟨(lw_gm (i := 423) (by decide +kernel) rfl), (lw_gm (i := 424) (by decide +kernel) rfl), (lw_gm (i := 33) (by decide +kernel) rfl), (lw_gm (i := 425) (by decide +kernel) rfl), ⟨by decide +kernel, by decide +kernel, by decide +kernel⟩, by decide⟩
theorem sl_X4_167 : SL RX4 167 M_X4_multiplied 3 := ⟨(lw_gm (i := 442) (by decide +kernel) rfl), (lw_gm (i := 443) (by decide +kernel) rfl), (lw_gm (i := 33) (by decide +kernel) rfl), (lw_gm (i := 444) (by decide +kernel) rfl), ⟨by decide +kernel, by decide +kernel, by decide +kernel⟩, by decide⟩
theorem sl_X4_170 : SL RX4 170 M_X4_isMovedRound 3 := ⟨(lw_gm (i := 445) (by decide +kernel) rfl), (lw_gm (i := 446) (by decide +kernel) rfl), (lw_gm (i := 33) (by decide +kernel) rfl), (lw_gm (i := 447) (by decide +kernel) rfl), ⟨by decide +kernel, by decide +kernel, by decide +kernel⟩, by decide⟩
theorem sl_X4_174 : SL RX4 174 M_X4_movedRound 3 := ⟨(lw_gm (i := 420) (by decide +kernel) rfl), (lw_gm (i := 421) (by decide +kernel) rfl), (lw_gm (i := 33) (by decide +kernel) rfl), (lw_gm (i := 422) (by decide +kernel) rfl), ⟨by decide +kernel, by decide +kernel, by decide +kernel⟩, by decide⟩
theorem sl_X4_177 : SL RX4 177 M_X4_isSheet 1 := ⟨(lw_gm (i := 456) (by decide +kernel) rfl), (lw_gm (i := 457) (by decide +kernel) rfl), (lw_gm (i := 33) (by decide +kernel) rfl), (lw_gm (i := 458) (by decide +kernel) rfl), ⟨by decide +kernel, by decide +kernel, by decide +kernel⟩, by decide⟩
theorem sl_X4_180 : SL RX4 180 M_X4_isForm 1 := ⟨(lw_gm (i := 459) (by decide +kernel) rfl), (lw_gm (i := 460) (by decide +kernel) rfl), (lw_gm (i := 33) (by decide +kernel) rfl), (lw_gm (i := 461) (by decide +kernel) rfl), ⟨by decide +kernel, by decide +kernel, by decide +kernel⟩, by decide⟩
theorem sl_X0_55 : SL RX0 55 M_X3_bitOfPair 2 := ⟨(lw_gm (i := 373) (by decide +kernel) rfl), (lw_gm (i := 374) (by decide +kernel) rfl), (lw_gm (i := 34) (by decide +kernel) rfl), (lw_gm (i := 375) (by decide +kernel) rfl), ⟨by decide +kernel, by decide +kernel, by decide +kernel⟩, by decide⟩
theorem sl_X3_23 : SL RX3 23 M_X3_bitOfPair 2 := ⟨(lw_gm (i := 390) (by decide +kernel) rfl), (lw_gm (i := 374) (by decide +kernel) rfl), (lw_gm (i := 34) (by decide +kernel) rfl), (lw_gm (i := 375) (by decide +kernel) rfl), ⟨by decide +kernel, by decide +kernel, by decide +kernel⟩, by decide⟩
theorem sl_X3_35 : SL RX3 35 M_J6_bitCount 1 := ⟨(lw_gm (i := 235) (by decide +kernel) rfl), (lw_gm (i := 210) (by decide +kernel) rfl), (lw_gm (i := 39) (by decide +kernel) rfl), (lw_gm (i := 211) (by decide +kernel) rfl), ⟨by decide +kernel, by decide +kernel, by decide +kernel⟩, by decide⟩
theorem sl_X5_61 : SL RX5 61 M_X5_in 3 := ⟨(lw_gm (i := 589) (by decide +kernel) rfl), (lw_gm (i := 590) (by decide +kernel) rfl), (lw_gm (i := 38) (by decide +kernel) rfl), (lw_gm (i := 591) (by decide +kernel) rfl), ⟨by decide +kernel, by decide +kernel, by decide +kernel⟩, by decide⟩
theorem sl_X5_121 : SL RX5 121 M_X5_isSet 2 := ⟨(lw_gm (i := 742) (by decide +kernel) rfl), (lw_gm (i := 743) (by decide +kernel) rfl), (lw_gm (i := 38) (by decide +kernel) rfl), (lw_gm (i := 744) (by decide +kernel) rfl), ⟨by decide +kernel, by decide +kernel, by decide +kernel⟩, by decide⟩
theorem sl_X5_124 : SL RX5 124 M_X5_hitsOf 3 := ⟨(lw_gm (i := 745) (by decide +kernel) rfl), (lw_gm (i := 746) (by decide +kernel) rfl), (lw_gm (i := 38) (by decide +kernel) rfl), (lw_gm (i := 747) (by decide +kernel) rfl), ⟨by decide +kernel, by decide +kernel, by decide +kernel⟩, by decide⟩
theorem sl_X5_128 : SL RX5 128 M_X5_evenOf 2 := ⟨(lw_gm (i := 752) (by decide +kernel) rfl), (lw_gm (i := 753) (by decide +kernel) rfl), (lw_gm (i := 38) (by decide +kernel) rfl), (lw_gm (i := 754) (by decide +kernel) rfl), ⟨by decide +kernel, by decide +kernel, by decide +kernel⟩, by decide⟩
theorem sl_X5_132 : SL RX5 132 M_X5_divisor 2 := ⟨(lw_gm (i := 764) (by decide +kernel) rfl), (lw_gm (i := 765) (by decide +kernel) rfl), (lw_gm (i := 38) (by decide +kernel) rfl), (lw_gm (i := 766) (by decide +kernel) rfl), ⟨by decide +kernel, by decide +kernel, by decide +kernel⟩, by decide⟩
theorem sl_X5_138 : SL RX5 138 M_X5_isSheet 1 := ⟨(lw_gm (i := 775) (by decide +kernel) rfl), (lw_gm (i := 776) (by decide +kernel) rfl), (lw_gm (i := 38) (by decide +kernel) rfl), (lw_gm (i := 777) (by decide +kernel) rfl), ⟨by decide +kernel, by decide +kernel, by decide +kernel⟩, by decide⟩
theorem vl_X4_54 : VL RX4 54 M_X3_start 1 := ⟨⟨3, TX3, 2, rfl, rfl⟩, (lw_gm (i := 168) (by decide +kernel) rfl), (lw_gm (i := 169) (by decide +kernel) rfl), lw_gm (i := 170) (by decide +kernel) rfl, (lw_gm (i := 34) (by decide +kernel) rfl), (lw_gm (i := 171) (by decide +kernel) rfl), ⟨by decide +kernel, by decide +kernel, by decide +kernel⟩, by decide⟩
theorem vl_X4_58 : VL RX4 58 M_X4_areTwoLines 2 := ⟨⟨4, TX4, 7, rfl, rfl⟩, (lw_gm (i := 176) (by decide +kernel) rfl), (lw_gm (i := 178) (by decide +kernel) rfl), lw_gm (i := 0) (by decide +kernel) rfl, (lw_gm (i := 33) (by decide +kernel) rfl), (lw_gm (i := 179) (by decide +kernel) rfl), ⟨by decide +kernel, by decide +kernel, by decide +kernel⟩, by decide⟩
theorem vl_X4_62 : VL RX4 62 M_X3_entry 2 := ⟨⟨3, TX3, 2, rfl, rfl⟩, (lw_gm (i := 184) (by decide +kernel) rfl), (lw_gm (i := 185) (by decide +kernel) rfl), lw_gm (i := 186) (by decide +kernel) rfl, (lw_gm (i := 34) (by decide +kernel) rfl), (lw_gm (i := 187) (by decide +kernel) rfl), ⟨by decide +kernel, by decide +kernel, by decide +kernel⟩, by decide⟩
theorem vl_X4_66 : VL RX4 66 M_X3_setMinus 3 := ⟨⟨3, TX3, 2, rfl, rfl⟩, (lw_gm (i := 192) (by decide +kernel) rfl), (lw_gm (i := 193) (by decide +kernel) rfl), lw_gm (i := 194) (by decide +kernel) rfl, (lw_gm (i := 34) (by decide +kernel) rfl), (lw_gm (i := 195) (by decide +kernel) rfl), ⟨by decide +kernel, by decide +kernel, by decide +kernel⟩, by decide⟩
theorem vl_X4_70 : VL RX4 70 M_X3_hasLine 1 := ⟨⟨3, TX3, 2, rfl, rfl⟩, (lw_gm (i := 180) (by decide +kernel) rfl), (lw_gm (i := 181) (by decide +kernel) rfl), lw_gm (i := 182) (by decide +kernel) rfl, (lw_gm (i := 34) (by decide +kernel) rfl), (lw_gm (i := 183) (by decide +kernel) rfl), ⟨by decide +kernel, by decide +kernel, by decide +kernel⟩, by decide⟩
theorem vl_X4_73 : VL RX4 73 M_X3_turnLine 1 := ⟨⟨3, TX3, 2, rfl, rfl⟩, (lw_gm (i := 204) (by decide +kernel) rfl), (lw_gm (i := 205) (by decide +kernel) rfl), lw_gm (i := 206) (by decide +kernel) rfl, (lw_gm (i := 34) (by decide +kernel) rfl), (lw_gm (i := 207) (by decide +kernel) rfl), ⟨by decide +kernel, by decide +kernel, by decide +kernel⟩, by decide⟩
theorem vl_X4_86 : VL RX4 86 M_X3_swapLines 2 := ⟨⟨3, TX3, 2, rfl, rfl⟩, (lw_gm (i := 219) (by decide +kernel) rfl), (lw_gm (i := 220) (by decide +kernel) rfl), lw_gm (i := 221) (by decide +kernel) rfl, (lw_gm (i := 34) (by decide +kernel) rfl), (lw_gm (i := 222) (by decide +kernel) rfl), ⟨by decide +kernel, by decide +kernel, by decide +kernel⟩, by decide⟩
theorem vl_X4_90 : VL RX4 90 M_X3_oddTriples 0 := ⟨⟨3, TX3, 2, rfl, rfl⟩, (lw_gm (i := 227) (by decide +kernel) rfl), (lw_gm (i := 228) (by decide +kernel) rfl), lw_gm (i := 229) (by decide +kernel) rfl, (lw_gm (i := 34) (by decide +kernel) rfl), (lw_gm (i := 230) (by decide +kernel) rfl), ⟨by decide +kernel, by decide +kernel, by decide +kernel⟩, by decide⟩
theorem vl_X4_94 : VL RX4 94 M_X3_oddTriplesWith 2 := ⟨⟨3, TX3, 2, rfl, rfl⟩, (lw_gm (i := 240) (by decide +kernel) rfl), (lw_gm (i := 232) (by decide +kernel) rfl), lw_gm (i := 233) (by decide +kernel) rfl, (lw_gm (i := 34) (by decide +kernel) rfl), (lw_gm (i := 234) (by decide +kernel) rfl), ⟨by decide +kernel, by decide +kernel, by decide +kernel⟩, by decide⟩
theorem vl_X4_99 : VL RX4 99 M_X2_take 2 := ⟨⟨2, TX2, 5, rfl, rfl⟩, (lw_gm (i := 254) (by decide +kernel) rfl), (lw_gm (i := 255) (by decide +kernel) rfl), lw_gm (i := 256) (by decide +kernel) rfl, (lw_gm (i := 35) (by decide +kernel) rfl), (lw_gm (i := 257) (by decide +kernel) rfl), ⟨by decide +kernel, by decide +kernel, by decide +kernel⟩, by decide⟩
theorem vl_X4_107 : VL RX4 107 M_X2_timesOwn 1 := ⟨⟨2, TX2, 5, rfl, rfl⟩, (lw_gm (i := 282) (by decide +kernel) rfl), (lw_gm (i := 283) (by decide +kernel) rfl), lw_gm (i := 284) (by decide +kernel) rfl, (lw_gm (i := 35) (by decide +kernel) rfl), (lw_gm (i := 285) (by decide +kernel) rfl), ⟨by decide +kernel, by decide +kernel, by decide +kernel⟩, by decide⟩
theorem vl_X4_110 : VL RX4 110 M_X2_noneBelowZero 0 := ⟨⟨2, TX2, 5, rfl, rfl⟩, (lw_gm (i := 290) (by decide +kernel) rfl), (lw_gm (i := 291) (by decide +kernel) rfl), lw_gm (i := 292) (by decide +kernel) rfl, (lw_gm (i := 35) (by decide +kernel) rfl), (lw_gm (i := 293) (by decide +kernel) rfl), ⟨by decide +kernel, by decide +kernel, by decide +kernel⟩, by decide⟩
theorem vl_X4_114 : VL RX4 114 M_X2_dimensions 0 := ⟨⟨2, TX2, 5, rfl, rfl⟩, (lw_gm (i := 298) (by decide +kernel) rfl), (lw_gm (i := 299) (by decide +kernel) rfl), lw_gm (i := 300) (by decide +kernel) rfl, (lw_gm (i := 35) (by decide +kernel) rfl), (lw_gm (i := 301) (by decide +kernel) rfl), ⟨by decide +kernel, by decide +kernel, by decide +kernel⟩, by decide⟩
theorem vl_X4_125 : VL RX4 125 M_X3_isRow 1 := ⟨⟨3, TX3, 2, rfl, rfl⟩, (lw_gm (i := 316) (by decide +kernel) rfl), (lw_gm (i := 317) (by decide +kernel) rfl), lw_gm (i := 318) (by decide +kernel) rfl, (lw_gm (i := 34) (by decide +kernel) rfl), (lw_gm (i := 319) (by decide +kernel) rfl), ⟨by decide +kernel, by decide +kernel, by decide +kernel⟩, by decide⟩
theorem vl_X4_128 : VL RX4 128 M_X4_refusalOfOneMore 0 := ⟨⟨4, TX4, 7, rfl, rfl⟩, (lw_gm (i := 320) (by decide +kernel) rfl), (lw_gm (i := 322) (by decide +kernel) rfl), lw_gm (i := 6) (by decide +kernel) rfl, (lw_gm (i := 33) (by decide +kernel) rfl), (lw_gm (i := 323) (by decide +kernel) rfl), ⟨by decide +kernel, by decide +kernel, by decide +kernel⟩, by decide⟩
theorem vl_X4_131 : VL RX4 131 M_X2_letsIn 2 := ⟨⟨2, TX2, 5, rfl, rfl⟩, (lw_gm (i := 324) (by decide +kernel) rfl), (lw_gm (i := 325) (by decide +kernel) rfl), lw_gm (i := 326) (by decide +kernel) rfl, (lw_gm (i := 35) (by decide +kernel) rfl), (lw_gm (i := 327) (by decide +kernel) rfl), ⟨by decide +kernel, by decide +kernel, by decide +kernel⟩, by decide⟩
theorem vl_X4_134 : VL RX4 134 M_X3_addLine 1 := ⟨⟨3, TX3, 2, rfl, rfl⟩, (lw_gm (i := 345) (by decide +kernel) rfl), (lw_gm (i := 346) (by decide +kernel) rfl), lw_gm (i := 347) (by decide +kernel) rfl, (lw_gm (i := 34) (by decide +kernel) rfl), (lw_gm (i := 348) (by decide +kernel) rfl), ⟨by decide +kernel, by decide +kernel, by decide +kernel⟩, by decide⟩
theorem vl_X4_137 : VL RX4 137 M_X4_leastGoing 1 := ⟨⟨4, TX4, 7, rfl, rfl⟩, (lw_gm (i := 353) (by decide +kernel) rfl), (lw_gm (i := 355) (by decide +kernel) rfl), lw_gm (i := 9) (by decide +kernel) rfl, (lw_gm (i := 33) (by decide +kernel) rfl), (lw_gm (i := 356) (by decide +kernel) rfl), ⟨by decide +kernel, by decide +kernel, by decide +kernel⟩, by decide⟩
theorem vl_X4_140 : VL RX4 140 M_X0_least 1 := ⟨⟨0, TX0, 4, rfl, rfl⟩, (lw_gm (i := 361) (by decide +kernel) rfl), (lw_gm (i := 362) (by decide +kernel) rfl), lw_gm (i := 363) (by decide +kernel) rfl, (lw_gm (i := 36) (by decide +kernel) rfl), (lw_gm (i := 364) (by decide +kernel) rfl), ⟨by decide +kernel, by decide +kernel, by decide +kernel⟩, by decide⟩
theorem vl_X4_144 : VL RX4 144 M_X3_startNamed 2 := ⟨⟨3, TX3, 2, rfl, rfl⟩, (lw_gm (i := 385) (by decide +kernel) rfl), (lw_gm (i := 386) (by decide +kernel) rfl), lw_gm (i := 387) (by decide +kernel) rfl, (lw_gm (i := 34) (by decide +kernel) rfl), (lw_gm (i := 388) (by decide +kernel) rfl), ⟨by decide +kernel, by decide +kernel, by decide +kernel⟩, by decide⟩
theorem vl_X4_147 : VL RX4 147 M_X0_keeping 1 := ⟨⟨0, TX0, 4, rfl, rfl⟩, (lw_gm (i := 395) (by decide +kernel) rfl), (lw_gm (i := 396) (by decide +kernel) rfl), lw_gm (i := 397) (by decide +kernel) rfl, (lw_gm (i := 36) (by decide +kernel) rfl), (lw_gm (i := 398) (by decide +kernel) rfl), ⟨by decide +kernel, by decide +kernel, by decide +kernel⟩, by decide⟩
theorem vl_X4_183 : VL RX4 183 M_X4_findingOf 1 := ⟨⟨4, TX4, 7, rfl, rfl⟩, (lw_gm (i := 462) (by decide +kernel) rfl), (lw_gm (i := 464) (by decide +kernel) rfl), lw_gm (i := 14) (by decide +kernel) rfl, (lw_gm (i := 33) (by decide +kernel) rfl), (lw_gm (i := 465) (by decide +kernel) rfl), ⟨by decide +kernel, by decide +kernel, by decide +kernel⟩, by decide⟩
theorem vl_X4_186 : VL RX4 186 M_X1_start 2 := ⟨⟨1, TX1, 4, rfl, rfl⟩, (lw_gm (i := 466) (by decide +kernel) rfl), (lw_gm (i := 467) (by decide +kernel) rfl), lw_gm (i := 468) (by decide +kernel) rfl, (lw_gm (i := 37) (by decide +kernel) rfl), (lw_gm (i := 469) (by decide +kernel) rfl), ⟨by decide +kernel, by decide +kernel, by decide +kernel⟩, by decide⟩
theorem vl_X4_193 : VL RX4 193 M_X1_wrongWithItem 2 := ⟨⟨1, TX1, 4, rfl, rfl⟩, (lw_gm (i := 478) (by decide +kernel) rfl), (lw_gm (i := 479) (by decide +kernel) rfl), lw_gm (i := 480) (by decide +kernel) rfl, (lw_gm (i := 37) (by decide +kernel) rfl), (lw_gm (i := 481) (by decide +kernel) rfl), ⟨by decide +kernel, by decide +kernel, by decide +kernel⟩, by decide⟩
theorem vl_X4_196 : VL RX4 196 M_X1_setItem 2 := ⟨⟨1, TX1, 4, rfl, rfl⟩, (lw_gm (i := 482) (by decide +kernel) rfl), (lw_gm (i := 483) (by decide +kernel) rfl), lw_gm (i := 484) (by decide +kernel) rfl, (lw_gm (i := 37) (by decide +kernel) rfl), (lw_gm (i := 485) (by decide +kernel) rfl), ⟨by decide +kernel, by decide +kernel, by decide +kernel⟩, by decide⟩
theorem vl_X4_206 : VL RX4 206 M_X1_hasItems 2 := ⟨⟨1, TX1, 4, rfl, rfl⟩, (lw_gm (i := 495) (by decide +kernel) rfl), (lw_gm (i := 496) (by decide +kernel) rfl), lw_gm (i := 497) (by decide +kernel) rfl, (lw_gm (i := 37) (by decide +kernel) rfl), (lw_gm (i := 498) (by decide +kernel) rfl), ⟨by decide +kernel, by decide +kernel, by decide +kernel⟩, by decide⟩
theorem vl_X4_215 : VL RX4 215 M_X3_minusSigns 0 := ⟨⟨3, TX3, 2, rfl, rfl⟩, (lw_gm (i := 514) (by decide +kernel) rfl), (lw_gm (i := 515) (by decide +kernel) rfl), lw_gm (i := 516) (by decide +kernel) rfl, (lw_gm (i := 34) (by decide +kernel) rfl), (lw_gm (i := 517) (by decide +kernel) rfl), ⟨by decide +kernel, by decide +kernel, by decide +kernel⟩, by decide⟩
theorem vl_X4_222 : VL RX4 222 M_X4_count 1 := ⟨⟨4, TX4, 7, rfl, rfl⟩, (lw_gm (i := 524) (by decide +kernel) rfl), (lw_gm (i := 511) (by decide +kernel) rfl), lw_gm (i := 512) (by decide +kernel) rfl, (lw_gm (i := 33) (by decide +kernel) rfl), (lw_gm (i := 513) (by decide +kernel) rfl), ⟨by decide +kernel, by decide +kernel, by decide +kernel⟩, by decide⟩
theorem vl_X4_225 : VL RX4 225 M_X4_odd 0 := ⟨⟨4, TX4, 7, rfl, rfl⟩, (lw_gm (i := 525) (by decide +kernel) rfl), (lw_gm (i := 224) (by decide +kernel) rfl), lw_gm (i := 225) (by decide +kernel) rfl, (lw_gm (i := 33) (by decide +kernel) rfl), (lw_gm (i := 226) (by decide +kernel) rfl), ⟨by decide +kernel, by decide +kernel, by decide +kernel⟩, by decide⟩
theorem vl_X0_25 : VL RX0 25 M_X0_numberAsItIs 1 := ⟨⟨0, TX0, 4, rfl, rfl⟩, (lw_gm (i := 365) (by decide +kernel) rfl), (lw_gm (i := 367) (by decide +kernel) rfl), lw_gm (i := 10) (by decide +kernel) rfl, (lw_gm (i := 36) (by decide +kernel) rfl), (lw_gm (i := 368) (by decide +kernel) rfl), ⟨by decide +kernel, by decide +kernel, by decide +kernel⟩, by decide⟩
theorem vl_X0_34 : VL RX0 34 M_X0_lower 4 := ⟨⟨0, TX0, 4, rfl, rfl⟩, (lw_gm (i := 376) (by decide +kernel) rfl), (lw_gm (i := 378) (by decide +kernel) rfl), lw_gm (i := 12) (by decide +kernel) rfl, (lw_gm (i := 36) (by decide +kernel) rfl), (lw_gm (i := 379) (by decide +kernel) rfl), ⟨by decide +kernel, by decide +kernel, by decide +kernel⟩, by decide⟩
theorem vl_X0_38 : VL RX0 38 M_X0_keep 3 := ⟨⟨0, TX0, 4, rfl, rfl⟩, (lw_gm (i := 399) (by decide +kernel) rfl), (lw_gm (i := 401) (by decide +kernel) rfl), lw_gm (i := 13) (by decide +kernel) rfl, (lw_gm (i := 36) (by decide +kernel) rfl), (lw_gm (i := 402) (by decide +kernel) rfl), ⟨by decide +kernel, by decide +kernel, by decide +kernel⟩, by decide⟩
theorem vl_X0_42 : VL RX0 42 M_X0_bitsOf 2 := ⟨⟨0, TX0, 4, rfl, rfl⟩, (lw_gm (i := 369) (by decide +kernel) rfl), (lw_gm (i := 371) (by decide +kernel) rfl), lw_gm (i := 11) (by decide +kernel) rfl, (lw_gm (i := 36) (by decide +kernel) rfl), (lw_gm (i := 372) (by decide +kernel) rfl), ⟨by decide +kernel, by decide +kernel, by decide +kernel⟩, by decide⟩
theorem vl_X2_33 : VL RX2 33 M_X2_setUnit 1 := ⟨⟨2, TX2, 5, rfl, rfl⟩, (lw_gm (i := 258) (by decide +kernel) rfl), (lw_gm (i := 260) (by decide +kernel) rfl), lw_gm (i := 1) (by decide +kernel) rfl, (lw_gm (i := 35) (by decide +kernel) rfl), (lw_gm (i := 261) (by decide +kernel) rfl), ⟨by decide +kernel, by decide +kernel, by decide +kernel⟩, by decide⟩
theorem vl_X2_37 : VL RX2 37 M_X2_multiply 3 := ⟨⟨2, TX2, 5, rfl, rfl⟩, (lw_gm (i := 262) (by decide +kernel) rfl), (lw_gm (i := 264) (by decide +kernel) rfl), lw_gm (i := 2) (by decide +kernel) rfl, (lw_gm (i := 35) (by decide +kernel) rfl), (lw_gm (i := 265) (by decide +kernel) rfl), ⟨by decide +kernel, by decide +kernel, by decide +kernel⟩, by decide⟩
theorem vl_X2_41 : VL RX2 41 M_X2_trace 1 := ⟨⟨2, TX2, 5, rfl, rfl⟩, (lw_gm (i := 270) (by decide +kernel) rfl), (lw_gm (i := 272) (by decide +kernel) rfl), lw_gm (i := 4) (by decide +kernel) rfl, (lw_gm (i := 35) (by decide +kernel) rfl), (lw_gm (i := 273) (by decide +kernel) rfl), ⟨by decide +kernel, by decide +kernel, by decide +kernel⟩, by decide⟩
theorem vl_X2_45 : VL RX2 45 M_X2_takeFromUnits 2 := ⟨⟨2, TX2, 5, rfl, rfl⟩, (lw_gm (i := 274) (by decide +kernel) rfl), (lw_gm (i := 276) (by decide +kernel) rfl), lw_gm (i := 5) (by decide +kernel) rfl, (lw_gm (i := 35) (by decide +kernel) rfl), (lw_gm (i := 277) (by decide +kernel) rfl), ⟨by decide +kernel, by decide +kernel, by decide +kernel⟩, by decide⟩
theorem vl_X2_49 : VL RX2 49 M_X2_rowTimesColumn 4 := ⟨⟨2, TX2, 5, rfl, rfl⟩, (lw_gm (i := 266) (by decide +kernel) rfl), (lw_gm (i := 268) (by decide +kernel) rfl), lw_gm (i := 3) (by decide +kernel) rfl, (lw_gm (i := 35) (by decide +kernel) rfl), (lw_gm (i := 269) (by decide +kernel) rfl), ⟨by decide +kernel, by decide +kernel, by decide +kernel⟩, by decide⟩
theorem vl_X2_57 : VL RX2 57 M_X2_sumWith 2 := ⟨⟨2, TX2, 5, rfl, rfl⟩, (lw_gm (i := 328) (by decide +kernel) rfl), (lw_gm (i := 330) (by decide +kernel) rfl), lw_gm (i := 7) (by decide +kernel) rfl, (lw_gm (i := 35) (by decide +kernel) rfl), (lw_gm (i := 331) (by decide +kernel) rfl), ⟨by decide +kernel, by decide +kernel, by decide +kernel⟩, by decide⟩
theorem vl_X2_61 : VL RX2 61 M_X2_bothSides 2 := ⟨⟨2, TX2, 5, rfl, rfl⟩, (lw_gm (i := 332) (by decide +kernel) rfl), (lw_gm (i := 334) (by decide +kernel) rfl), lw_gm (i := 8) (by decide +kernel) rfl, (lw_gm (i := 35) (by decide +kernel) rfl), (lw_gm (i := 335) (by decide +kernel) rfl), ⟨by decide +kernel, by decide +kernel, by decide +kernel⟩, by decide⟩
theorem vl_X3_19 : VL RX3 19 M_X3_start 1 := ⟨⟨3, TX3, 2, rfl, rfl⟩, (lw_gm (i := 389) (by decide +kernel) rfl), (lw_gm (i := 169) (by decide +kernel) rfl), lw_gm (i := 170) (by decide +kernel) rfl, (lw_gm (i := 34) (by decide +kernel) rfl), (lw_gm (i := 171) (by decide +kernel) rfl), ⟨by decide +kernel, by decide +kernel, by decide +kernel⟩, by decide⟩
theorem vl_X3_27 : VL RX3 27 M_X3_setMinus 3 := ⟨⟨3, TX3, 2, rfl, rfl⟩, (lw_gm (i := 208) (by decide +kernel) rfl), (lw_gm (i := 193) (by decide +kernel) rfl), lw_gm (i := 194) (by decide +kernel) rfl, (lw_gm (i := 34) (by decide +kernel) rfl), (lw_gm (i := 195) (by decide +kernel) rfl), ⟨by decide +kernel, by decide +kernel, by decide +kernel⟩, by decide⟩
theorem vl_X3_31 : VL RX3 31 M_X3_isMinus 2 := ⟨⟨3, TX3, 2, rfl, rfl⟩, (lw_gm (i := 188) (by decide +kernel) rfl), (lw_gm (i := 189) (by decide +kernel) rfl), lw_gm (i := 190) (by decide +kernel) rfl, (lw_gm (i := 34) (by decide +kernel) rfl), (lw_gm (i := 191) (by decide +kernel) rfl), ⟨by decide +kernel, by decide +kernel, by decide +kernel⟩, by decide⟩
theorem vl_X3_41 : VL RX3 41 M_X3_oddTriplesWith 2 := ⟨⟨3, TX3, 2, rfl, rfl⟩, (lw_gm (i := 231) (by decide +kernel) rfl), (lw_gm (i := 232) (by decide +kernel) rfl), lw_gm (i := 233) (by decide +kernel) rfl, (lw_gm (i := 34) (by decide +kernel) rfl), (lw_gm (i := 234) (by decide +kernel) rfl), ⟨by decide +kernel, by decide +kernel, by decide +kernel⟩, by decide⟩
theorem vl_X5_65 : VL RX5 65 M_X5_set 3 := ⟨⟨5, TX5, 17, rfl, rfl⟩, (lw_gm (i := 592) (by decide +kernel) rfl), (lw_gm (i := 594) (by decide +kernel) rfl), lw_gm (i := 15) (by decide +kernel) rfl, (lw_gm (i := 38) (by decide +kernel) rfl), (lw_gm (i := 595) (by decide +kernel) rfl), ⟨by decide +kernel, by decide +kernel, by decide +kernel⟩, by decide⟩
theorem vl_X5_69 : VL RX5 69 M_X5_isLine 1 := ⟨⟨5, TX5, 17, rfl, rfl⟩, (lw_gm (i := 600) (by decide +kernel) rfl), (lw_gm (i := 602) (by decide +kernel) rfl), lw_gm (i := 16) (by decide +kernel) rfl, (lw_gm (i := 38) (by decide +kernel) rfl), (lw_gm (i := 603) (by decide +kernel) rfl), ⟨by decide +kernel, by decide +kernel, by decide +kernel⟩, by decide⟩
theorem vl_X5_73 : VL RX5 73 M_X5_isOdd 3 := ⟨⟨5, TX5, 17, rfl, rfl⟩, (lw_gm (i := 624) (by decide +kernel) rfl), (lw_gm (i := 626) (by decide +kernel) rfl), lw_gm (i := 18) (by decide +kernel) rfl, (lw_gm (i := 38) (by decide +kernel) rfl), (lw_gm (i := 627) (by decide +kernel) rfl), ⟨by decide +kernel, by decide +kernel, by decide +kernel⟩, by decide⟩
theorem vl_X5_76 : VL RX5 76 M_X5_togetherOf 2 := ⟨⟨5, TX5, 17, rfl, rfl⟩, (lw_gm (i := 620) (by decide +kernel) rfl), (lw_gm (i := 622) (by decide +kernel) rfl), lw_gm (i := 17) (by decide +kernel) rfl, (lw_gm (i := 38) (by decide +kernel) rfl), (lw_gm (i := 623) (by decide +kernel) rfl), ⟨by decide +kernel, by decide +kernel, by decide +kernel⟩, by decide⟩
theorem vl_X5_84 : VL RX5 84 M_X5_reckon 2 := ⟨⟨5, TX5, 17, rfl, rfl⟩, (lw_gm (i := 645) (by decide +kernel) rfl), (lw_gm (i := 647) (by decide +kernel) rfl), lw_gm (i := 19) (by decide +kernel) rfl, (lw_gm (i := 38) (by decide +kernel) rfl), (lw_gm (i := 648) (by decide +kernel) rfl), ⟨by decide +kernel, by decide +kernel, by decide +kernel⟩, by decide⟩
theorem vl_X5_88 : VL RX5 88 M_X5_liesAll 1 := ⟨⟨5, TX5, 17, rfl, rfl⟩, (lw_gm (i := 658) (by decide +kernel) rfl), (lw_gm (i := 660) (by decide +kernel) rfl), lw_gm (i := 20) (by decide +kernel) rfl, (lw_gm (i := 38) (by decide +kernel) rfl), (lw_gm (i := 661) (by decide +kernel) rfl), ⟨by decide +kernel, by decide +kernel, by decide +kernel⟩, by decide⟩
theorem vl_X5_91 : VL RX5 91 M_X5_rankOf 1 := ⟨⟨5, TX5, 17, rfl, rfl⟩, (lw_gm (i := 666) (by decide +kernel) rfl), (lw_gm (i := 668) (by decide +kernel) rfl), lw_gm (i := 21) (by decide +kernel) rfl, (lw_gm (i := 38) (by decide +kernel) rfl), (lw_gm (i := 669) (by decide +kernel) rfl), ⟨by decide +kernel, by decide +kernel, by decide +kernel⟩, by decide⟩
theorem vl_X5_95 : VL RX5 95 M_X5_isRow 1 := ⟨⟨5, TX5, 17, rfl, rfl⟩, (lw_gm (i := 678) (by decide +kernel) rfl), (lw_gm (i := 680) (by decide +kernel) rfl), lw_gm (i := 22) (by decide +kernel) rfl, (lw_gm (i := 38) (by decide +kernel) rfl), (lw_gm (i := 681) (by decide +kernel) rfl), ⟨by decide +kernel, by decide +kernel, by decide +kernel⟩, by decide⟩
theorem vl_X5_98 : VL RX5 98 M_X5_fits 2 := ⟨⟨5, TX5, 17, rfl, rfl⟩, (lw_gm (i := 682) (by decide +kernel) rfl), (lw_gm (i := 684) (by decide +kernel) rfl), lw_gm (i := 23) (by decide +kernel) rfl, (lw_gm (i := 38) (by decide +kernel) rfl), (lw_gm (i := 685) (by decide +kernel) rfl), ⟨by decide +kernel, by decide +kernel, by decide +kernel⟩, by decide⟩
theorem vl_X5_102 : VL RX5 102 M_X5_signBy 2 := ⟨⟨5, TX5, 17, rfl, rfl⟩, (lw_gm (i := 714) (by decide +kernel) rfl), (lw_gm (i := 716) (by decide +kernel) rfl), lw_gm (i := 27) (by decide +kernel) rfl, (lw_gm (i := 38) (by decide +kernel) rfl), (lw_gm (i := 717) (by decide +kernel) rfl), ⟨by decide +kernel, by decide +kernel, by decide +kernel⟩, by decide⟩
theorem vl_X5_105 : VL RX5 105 M_X5_begin 1 := ⟨⟨5, TX5, 17, rfl, rfl⟩, (lw_gm (i := 706) (by decide +kernel) rfl), (lw_gm (i := 708) (by decide +kernel) rfl), lw_gm (i := 25) (by decide +kernel) rfl, (lw_gm (i := 38) (by decide +kernel) rfl), (lw_gm (i := 709) (by decide +kernel) rfl), ⟨by decide +kernel, by decide +kernel, by decide +kernel⟩, by decide⟩
theorem vl_X5_109 : VL RX5 109 M_X5_codeOf 1 := ⟨⟨5, TX5, 17, rfl, rfl⟩, (lw_gm (i := 710) (by decide +kernel) rfl), (lw_gm (i := 712) (by decide +kernel) rfl), lw_gm (i := 26) (by decide +kernel) rfl, (lw_gm (i := 38) (by decide +kernel) rfl), (lw_gm (i := 713) (by decide +kernel) rfl), ⟨by decide +kernel, by decide +kernel, by decide +kernel⟩, by decide⟩
theorem vl_X5_112 : VL RX5 112 M_X5_step 1 := ⟨⟨5, TX5, 17, rfl, rfl⟩, (lw_gm (i := 718) (by decide +kernel) rfl), (lw_gm (i := 720) (by decide +kernel) rfl), lw_gm (i := 28) (by decide +kernel) rfl, (lw_gm (i := 38) (by decide +kernel) rfl), (lw_gm (i := 721) (by decide +kernel) rfl), ⟨by decide +kernel, by decide +kernel, by decide +kernel⟩, by decide⟩
theorem vl_X5_115 : VL RX5 115 M_X5_nameOf 1 := ⟨⟨5, TX5, 17, rfl, rfl⟩, (lw_gm (i := 702) (by decide +kernel) rfl), (lw_gm (i := 704) (by decide +kernel) rfl), lw_gm (i := 24) (by decide +kernel) rfl, (lw_gm (i := 38) (by decide +kernel) rfl), (lw_gm (i := 705) (by decide +kernel) rfl), ⟨by decide +kernel, by decide +kernel, by decide +kernel⟩, by decide⟩
theorem vl_X5_118 : VL RX5 118 M_X5_spell 2 := ⟨⟨5, TX5, 17, rfl, rfl⟩, (lw_gm (i := 726) (by decide +kernel) rfl), (lw_gm (i := 728) (by decide +kernel) rfl), lw_gm (i := 29) (by decide +kernel) rfl, (lw_gm (i := 38) (by decide +kernel) rfl), (lw_gm (i := 729) (by decide +kernel) rfl), ⟨by decide +kernel, by decide +kernel, by decide +kernel⟩, by decide⟩
theorem vl_X5_141 : VL RX5 141 M_X5_meets 1 := ⟨⟨5, TX5, 17, rfl, rfl⟩, (lw_gm (i := 778) (by decide +kernel) rfl), (lw_gm (i := 780) (by decide +kernel) rfl), lw_gm (i := 30) (by decide +kernel) rfl, (lw_gm (i := 38) (by decide +kernel) rfl), (lw_gm (i := 781) (by decide +kernel) rfl), ⟨by decide +kernel, by decide +kernel, by decide +kernel⟩, by decide⟩
theorem vl_X5_144 : VL RX5 144 M_X5_lacks 3 := ⟨⟨5, TX5, 17, rfl, rfl⟩, (lw_gm (i := 790) (by decide +kernel) rfl), (lw_gm (i := 792) (by decide +kernel) rfl), lw_gm (i := 31) (by decide +kernel) rfl, (lw_gm (i := 38) (by decide +kernel) rfl), (lw_gm (i := 793) (by decide +kernel) rfl), ⟨by decide +kernel, by decide +kernel, by decide +kernel⟩, by decide⟩
theorem vl_X5_148 : VL RX5 148 M_X5_lines 1 := ⟨⟨5, TX5, 17, rfl, rfl⟩, (lw_gm (i := 807) (by decide +kernel) rfl), (lw_gm (i := 586) (by decide +kernel) rfl), lw_gm (i := 587) (by decide +kernel) rfl, (lw_gm (i := 38) (by decide +kernel) rfl), (lw_gm (i := 588) (by decide +kernel) rfl), ⟨by decide +kernel, by decide +kernel, by decide +kernel⟩, by decide⟩
theorem vl_X5_155 : VL RX5 155 M_X5_count 1 := ⟨⟨5, TX5, 17, rfl, rfl⟩, (lw_gm (i := 822) (by decide +kernel) rfl), (lw_gm (i := 813) (by decide +kernel) rfl), lw_gm (i := 814) (by decide +kernel) rfl, (lw_gm (i := 38) (by decide +kernel) rfl), (lw_gm (i := 815) (by decide +kernel) rfl), ⟨by decide +kernel, by decide +kernel, by decide +kernel⟩, by decide⟩
theorem vl_X5_158 : VL RX5 158 M_X5_odd 0 := ⟨⟨5, TX5, 17, rfl, rfl⟩, (lw_gm (i := 823) (by decide +kernel) rfl), (lw_gm (i := 617) (by decide +kernel) rfl), lw_gm (i := 618) (by decide +kernel) rfl, (lw_gm (i := 38) (by decide +kernel) rfl), (lw_gm (i := 619) (by decide +kernel) rfl), ⟨by decide +kernel, by decide +kernel, by decide +kernel⟩, by decide⟩
