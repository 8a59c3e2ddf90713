set_option maxRecDepth 20000 in
theorem ggX0_clear_J7_fill_53178 : GoodIn wsX0_clear wsJ7_fill_53178 := goodIn_r _ [7] (by decide +kernel) (by decide +kernel)
set_option maxRecDepth 20000 in
theorem gX0_clear_J7_fill_53178 : GoodIn wsX0_clear (va_wsS RX0 21 yJ7_fill_53178 wsJ7_fill_53178) := goodIn_app (goodIn_of _ (by decide +kernel)) ggX0_clear_J7_fill_53178
set_option maxRecDepth 20000 in
theorem ggX1_search_J7_fill_d0a16 : GoodIn wsX1_search wsJ7_fill_d0a16 := goodIn_r _ [9] (by decide +kernel) (by decide +kernel)
set_option maxRecDepth 20000 in
theorem gX1_search_J7_fill_d0a16 : GoodIn wsX1_search (va_wsS RX1 33 yJ7_fill_d0a16 wsJ7_fill_d0a16) := goodIn_app (goodIn_of _ (by decide +kernel)) ggX1_search_J7_fill_d0a16
set_option maxRecDepth 20000 in
theorem ggX1_search_X1_join : GoodIn wsX1_search wsX1_join := goodIn_r _ [14, 4, 15, 5, 16, 17, 18, 19, 13, 20, 58, 59, 60, 61, 62, 63] (by decide +kernel) (by decide +kernel)
set_option maxRecDepth 20000 in
theorem gX1_search_X1_join : GoodIn wsX1_search (wsV RX1 39 RX1 yX1_join wsX1_join) := goodIn_app (goodIn_of _ (by decide +kernel)) ggX1_search_X1_join
set_option maxRecDepth 20000 in
theorem ggX1_search_X1_tellOnFrom : GoodIn wsX1_search wsX1_tellOnFrom := goodIn_r _ [24, 15, 16, 2, 3, 25, 26, 27, 28, 29, 30, 31, 32, 33, 34, 35, 36, 37, 38, 39, 40, 41, 42, 43, 44, 45, 46, 47, 48, 49, 50, 51, 52, 53, 54, 55, 56, 13, 57, 17, 18, 19, 20, 5, 10, 11, 12, 14, 4, 58, 59, 60, 61, 62, 63, 64, 65, 66, 67, 68, 69, 70, 71, 72, 73] (by decide +kernel) (by decide +kernel)
set_option maxRecDepth 20000 in
theorem gX1_search_X1_tellOnFrom : GoodIn wsX1_search (wsV RX1 43 RX1 yX1_tellOnFrom wsX1_tellOnFrom) := goodIn_app (goodIn_of _ (by decide +kernel)) ggX1_search_X1_tellOnFrom
set_option maxRecDepth 20000 in
theorem ggX1_tellOnFrom_X3_kindOf : GoodIn wsX1_tellOnFrom wsX3_kindOf := goodIn_r _ [9, 10, 11, 12, 13, 8, 14, 15, 55, 56, 57, 58, 59] (by decide +kernel) (by decide +kernel)
set_option maxRecDepth 20000 in
theorem gX1_tellOnFrom_X3_kindOf : GoodIn wsX1_tellOnFrom (wsV RX1 47 RX3 yX3_kindOf wsX3_kindOf) := goodIn_app (goodIn_of _ (by decide +kernel)) ggX1_tellOnFrom_X3_kindOf
set_option maxRecDepth 20000 in
theorem ggX1_tellOnFrom_X4_toldBy : GoodIn wsX1_tellOnFrom wsX4_toldBy := goodIn_r _ [20, 21, 22, 23, 19, 24, 25, 60, 61, 62, 63, 64] (by decide +kernel) (by decide +kernel)
set_option maxRecDepth 20000 in
theorem gX1_tellOnFrom_X4_toldBy : GoodIn wsX1_tellOnFrom (wsV RX1 53 RX4 yX4_toldBy wsX4_toldBy) := goodIn_app (goodIn_of _ (by decide +kernel)) ggX1_tellOnFrom_X4_toldBy
set_option maxRecDepth 20000 in
theorem ggX1_tellOnFrom_X3_knownBy : GoodIn wsX1_tellOnFrom wsX3_knownBy := goodIn_r _ [29, 30, 11, 12, 13, 8, 14, 15, 55, 56, 57, 58, 59] (by decide +kernel) (by decide +kernel)
set_option maxRecDepth 20000 in
theorem gX1_tellOnFrom_X3_knownBy : GoodIn wsX1_tellOnFrom (wsV RX1 59 RX3 yX3_knownBy wsX3_knownBy) := goodIn_app (goodIn_of _ (by decide +kernel)) ggX1_tellOnFrom_X3_knownBy
set_option maxRecDepth 20000 in
theorem ggX1_tellOnFrom_X3_people : GoodIn wsX1_tellOnFrom wsX3_people := goodIn_r _ [34, 15, 55, 56, 57, 58, 59] (by decide +kernel) (by decide +kernel)
set_option maxRecDepth 20000 in
theorem gX1_tellOnFrom_X3_people : GoodIn wsX1_tellOnFrom (wsV RX1 62 RX3 yX3_people wsX3_people) := goodIn_app (goodIn_of _ (by decide +kernel)) ggX1_tellOnFrom_X3_people
set_option maxRecDepth 20000 in
theorem ggX1_tellOnFrom_X1_stateOf : GoodIn wsX1_tellOnFrom wsX1_stateOf := goodIn_r _ [38] (by decide +kernel) (by decide +kernel)
set_option maxRecDepth 20000 in
theorem gX1_tellOnFrom_X1_stateOf : GoodIn wsX1_tellOnFrom (va_wsS RX1 66 yX1_stateOf wsX1_stateOf) := goodIn_app (goodIn_of _ (by decide +kernel)) ggX1_tellOnFrom_X1_stateOf
set_option maxRecDepth 20000 in
theorem ggX1_tellOnFrom_X1_isMet : GoodIn wsX1_tellOnFrom wsX1_isMet := goodIn_r _ [42, 1, 43, 49, 50, 51, 52, 53, 54] (by decide +kernel) (by decide +kernel)
set_option maxRecDepth 20000 in
theorem gX1_tellOnFrom_X1_isMet : GoodIn wsX1_tellOnFrom (wsV RX1 69 RX1 yX1_isMet wsX1_isMet) := goodIn_app (goodIn_of _ (by decide +kernel)) ggX1_tellOnFrom_X1_isMet
set_option maxRecDepth 20000 in
theorem ggX1_tellOnFrom_X1_join : GoodIn wsX1_tellOnFrom wsX1_join := goodIn_r _ [47, 48, 1, 43, 2, 39, 40, 41, 37, 42, 49, 50, 51, 52, 53, 54] (by decide +kernel) (by decide +kernel)
set_option maxRecDepth 20000 in
theorem gX1_tellOnFrom_X1_join : GoodIn wsX1_tellOnFrom (wsV RX1 39 RX1 yX1_join wsX1_join) := goodIn_app (goodIn_of _ (by decide +kernel)) ggX1_tellOnFrom_X1_join
set_option maxRecDepth 20000 in
theorem ggX1_join_X1_isMet : GoodIn wsX1_join wsX1_isMet := goodIn_r _ [9, 2, 3, 10, 11, 12, 13, 14, 15] (by decide +kernel) (by decide +kernel)
set_option maxRecDepth 20000 in
theorem gX1_join_X1_isMet : GoodIn wsX1_join (wsV RX1 69 RX1 yX1_isMet wsX1_isMet) := goodIn_app (goodIn_of _ (by decide +kernel)) ggX1_join_X1_isMet
set_option maxRecDepth 20000 in
theorem ggX3_init_J7_fill_53178 : GoodIn wsX3_init wsJ7_fill_53178 := goodIn_r _ [12] (by decide +kernel) (by decide +kernel)
set_option maxRecDepth 20000 in
theorem gX3_init_J7_fill_53178 : GoodIn wsX3_init (va_wsS RX3 24 yJ7_fill_53178 wsJ7_fill_53178) := goodIn_app (goodIn_of _ (by decide +kernel)) ggX3_init_J7_fill_53178
set_option maxRecDepth 20000 in
theorem ggX3_hasBoth_X3_has : GoodIn wsX3_hasBoth wsX3_has := goodIn_r _ [5, 6, 7, 8, 9, 10, 11] (by decide +kernel) (by decide +kernel)
set_option maxRecDepth 20000 in
theorem gX3_hasBoth_X3_has : GoodIn wsX3_hasBoth (wsV RX3 40 RX3 yX3_has wsX3_has) := goodIn_app (goodIn_of _ (by decide +kernel)) ggX3_hasBoth_X3_has
set_option maxRecDepth 20000 in
theorem ggX3_add_X3_hasRoom : GoodIn wsX3_add wsX3_hasRoom := goodIn_r _ [7, 2, 8, 9, 10, 11, 12] (by decide +kernel) (by decide +kernel)
set_option maxRecDepth 20000 in
theorem gX3_add_X3_hasRoom : GoodIn wsX3_add (wsV RX3 44 RX3 yX3_hasRoom wsX3_hasRoom) := goodIn_app (goodIn_of _ (by decide +kernel)) ggX3_add_X3_hasRoom
set_option maxRecDepth 20000 in
theorem ggX3_kindOf_X3_has : GoodIn wsX3_kindOf wsX3_has := goodIn_r _ [6, 7, 8, 9, 10, 11, 12] (by decide +kernel) (by decide +kernel)
set_option maxRecDepth 20000 in
theorem gX3_kindOf_X3_has : GoodIn wsX3_kindOf (wsV RX3 40 RX3 yX3_has wsX3_has) := goodIn_app (goodIn_of _ (by decide +kernel)) ggX3_kindOf_X3_has
set_option maxRecDepth 20000 in
theorem ggX3_knownBy_X3_has : GoodIn wsX3_knownBy wsX3_has := goodIn_r _ [6, 7, 8, 9, 10, 11, 12] (by decide +kernel) (by decide +kernel)
set_option maxRecDepth 20000 in
theorem gX3_knownBy_X3_has : GoodIn wsX3_knownBy (wsV RX3 40 RX3 yX3_has wsX3_has) := goodIn_app (goodIn_of _ (by decide +kernel)) ggX3_knownBy_X3_has
set_option maxRecDepth 20000 in
theorem ggX3_isKnown_X3_hasBoth : GoodIn wsX3_isKnown wsX3_hasBoth := goodIn_r _ [6, 7, 8, 9, 5, 10, 11, 12, 13, 14, 15, 16] (by decide +kernel) (by decide +kernel)
set_option maxRecDepth 20000 in
theorem gX3_isKnown_X3_hasBoth : GoodIn wsX3_isKnown (wsV RX3 48 RX3 yX3_hasBoth wsX3_hasBoth) := goodIn_app (goodIn_of _ (by decide +kernel)) ggX3_isKnown_X3_hasBoth
set_option maxRecDepth 20000 in
theorem ggX3_setKnown_X3_hasBoth : GoodIn wsX3_setKnown wsX3_hasBoth := goodIn_r _ [6, 7, 8, 9, 5, 10, 11, 12, 13, 14, 15, 16] (by decide +kernel) (by decide +kernel)
set_option maxRecDepth 20000 in
theorem gX3_setKnown_X3_hasBoth : GoodIn wsX3_setKnown (wsV RX3 48 RX3 yX3_hasBoth wsX3_hasBoth) := goodIn_app (goodIn_of _ (by decide +kernel)) ggX3_setKnown_X3_hasBoth
set_option maxRecDepth 20000 in
theorem ggX3_witnessOf_X9_isTale : GoodIn wsX3_witnessOf wsX9_isTale := goodIn_r _ [4, 5, 6, 3, 7] (by decide +kernel) (by decide +kernel)
set_option maxRecDepth 20000 in
theorem gX3_witnessOf_X9_isTale_n52 : GoodIn wsX3_witnessOf (wsX9_isTale) := ggX3_witnessOf_X9_isTale
set_option maxRecDepth 20000 in
theorem ggX3_seenSizeOf_X9_isTale : GoodIn wsX3_seenSizeOf wsX9_isTale := goodIn_r _ [4, 5, 6, 3, 7] (by decide +kernel) (by decide +kernel)
set_option maxRecDepth 20000 in
theorem gX3_seenSizeOf_X9_isTale_n52 : GoodIn wsX3_seenSizeOf (wsX9_isTale) := ggX3_seenSizeOf_X9_isTale
set_option maxRecDepth 20000 in
theorem ggX3_setSeen_X3_witnessOf : GoodIn wsX3_setSeen wsX3_witnessOf := goodIn_r _ [7, 1, 8, 9, 10, 11, 12, 13, 14, 15, 16, 17, 18] (by decide +kernel) (by decide +kernel)
set_option maxRecDepth 20000 in
theorem gX3_setSeen_X3_witnessOf : GoodIn wsX3_setSeen (wsV RX3 55 RX3 yX3_witnessOf wsX3_witnessOf) := goodIn_app (goodIn_of _ (by decide +kernel)) ggX3_setSeen_X3_witnessOf
set_option maxRecDepth 20000 in
theorem ggX3_setSeen_X9_isTale : GoodIn wsX3_setSeen wsX9_isTale := goodIn_r _ [10, 11, 12, 9, 13] (by decide +kernel) (by decide +kernel)
set_option maxRecDepth 20000 in
theorem gX3_setSeen_X9_isTale_n52 : GoodIn wsX3_setSeen (wsX9_isTale) := ggX3_setSeen_X9_isTale
set_option maxRecDepth 20000 in
theorem ggX4_init_X4_addStep : GoodIn wsX4_init wsX4_addStep := goodIn_r _ [12, 13, 5, 6, 28, 29, 30, 31, 32] (by decide +kernel) (by decide +kernel)
set_option maxRecDepth 20000 in
theorem gX4_init_X4_addStep : GoodIn wsX4_init (wsV RX4 21 RX4 yX4_addStep wsX4_addStep) := goodIn_app (goodIn_of _ (by decide +kernel)) ggX4_init_X4_addStep
set_option maxRecDepth 20000 in
theorem ggX4_init_X4_makeAll : GoodIn wsX4_init wsX4_makeAll := goodIn_r _ [17, 13, 5, 6, 18, 19, 20, 21, 7, 22, 23, 11, 24, 25, 26, 27, 28, 29, 30, 31, 32] (by decide +kernel) (by decide +kernel)
set_option maxRecDepth 20000 in
theorem gX4_init_X4_makeAll : GoodIn wsX4_init (wsV RX4 25 RX4 yX4_makeAll wsX4_makeAll) := goodIn_app (goodIn_of _ (by decide +kernel)) ggX4_init_X4_makeAll
set_option maxRecDepth 20000 in
theorem ggX4_faultIn_X6_length : GoodIn wsX4_faultIn wsX6_length := goodIn_r _ [5, 6, 25, 26] (by decide +kernel) (by decide +kernel)
set_option maxRecDepth 20000 in
theorem gX4_faultIn_X6_length : GoodIn wsX4_faultIn (wsV RX4 28 RX6 yX6_length wsX6_length) := goodIn_app (goodIn_of _ (by decide +kernel)) ggX4_faultIn_X6_length
set_option maxRecDepth 20000 in
theorem ggX4_faultIn_X6_letterAt : GoodIn wsX4_faultIn wsX6_letterAt := goodIn_r _ [10, 6, 11, 25, 26] (by decide +kernel) (by decide +kernel)
set_option maxRecDepth 20000 in
theorem gX4_faultIn_X6_letterAt : GoodIn wsX4_faultIn (wsV RX4 34 RX6 yX6_letterAt wsX6_letterAt) := goodIn_app (goodIn_of _ (by decide +kernel)) ggX4_faultIn_X6_letterAt
set_option maxRecDepth 20000 in
theorem ggX4_faultIn_X4_wantsDigit : GoodIn wsX4_faultIn wsX4_wantsDigit := goodIn_r _ [15] (by decide +kernel) (by decide +kernel)
set_option maxRecDepth 20000 in
theorem gX4_faultIn_X4_wantsDigit : GoodIn wsX4_faultIn (va_wsS RX4 38 yX4_wantsDigit wsX4_wantsDigit) := goodIn_app (goodIn_of _ (by decide +kernel)) ggX4_faultIn_X4_wantsDigit
set_option maxRecDepth 20000 in
theorem ggX4_faultIn_X4_isDigitOf : GoodIn wsX4_faultIn wsX4_isDigitOf := goodIn_r _ [18, 19, 20, 21] (by decide +kernel) (by decide +kernel)
set_option maxRecDepth 20000 in
theorem gX4_faultIn_X4_isDigitOf : GoodIn wsX4_faultIn (va_wsS RX4 42 yX4_isDigitOf wsX4_isDigitOf) := goodIn_app (goodIn_of _ (by decide +kernel)) ggX4_faultIn_X4_isDigitOf
set_option maxRecDepth 20000 in
theorem ggX4_faultIn_X4_opensStep : GoodIn wsX4_faultIn wsX4_opensStep := goodIn_r _ [24, 12, 13, 14, 15] (by decide +kernel) (by decide +kernel)
set_option maxRecDepth 20000 in
theorem gX4_faultIn_X4_opensStep : GoodIn wsX4_faultIn (va_wsS RX4 46 yX4_opensStep wsX4_opensStep) := goodIn_app (goodIn_of _ (by decide +kernel)) ggX4_faultIn_X4_opensStep
set_option maxRecDepth 20000 in
theorem ggX4_isLaw_X6_length : GoodIn wsX4_isLaw wsX6_length := goodIn_r _ [5, 6, 28, 29] (by decide +kernel) (by decide +kernel)
set_option maxRecDepth 20000 in
theorem gX4_isLaw_X6_length : GoodIn wsX4_isLaw (wsV RX4 28 RX6 yX6_length wsX6_length) := goodIn_app (goodIn_of _ (by decide +kernel)) ggX4_isLaw_X6_length
set_option maxRecDepth 20000 in
theorem ggX4_isLaw_X4_faultIn : GoodIn wsX4_isLaw wsX4_faultIn := goodIn_r _ [10, 1, 2, 3, 4, 5, 6, 11, 12, 13, 14, 15, 16, 17, 9, 18, 19, 20, 21, 22, 23, 24, 25, 26, 27, 28, 29] (by decide +kernel) (by decide +kernel)
set_option maxRecDepth 20000 in
theorem gX4_isLaw_X4_faultIn : GoodIn wsX4_isLaw (va_wsS RX4 49 yX4_faultIn wsX4_faultIn) := goodIn_app (goodIn_of _ (by decide +kernel)) ggX4_isLaw_X4_faultIn
set_option maxRecDepth 20000 in
theorem ggX4_isLaw_X6_letterAt : GoodIn wsX4_isLaw wsX6_letterAt := goodIn_r _ [14, 6, 15, 28, 29] (by decide +kernel) (by decide +kernel)
set_option maxRecDepth 20000 in
theorem gX4_isLaw_X6_letterAt : GoodIn wsX4_isLaw (wsV RX4 34 RX6 yX6_letterAt wsX6_letterAt) := goodIn_app (goodIn_of _ (by decide +kernel)) ggX4_isLaw_X6_letterAt
set_option maxRecDepth 20000 in
theorem ggX4_isLaw_X4_wantsDigit : GoodIn wsX4_isLaw wsX4_wantsDigit := goodIn_r _ [18] (by decide +kernel) (by decide +kernel)
set_option maxRecDepth 20000 in
theorem gX4_isLaw_X4_wantsDigit : GoodIn wsX4_isLaw (va_wsS RX4 38 yX4_wantsDigit wsX4_wantsDigit) := goodIn_app (goodIn_of _ (by decide +kernel)) ggX4_isLaw_X4_wantsDigit
set_option maxRecDepth 20000 in
theorem ggX4_opensStep_X4_wantsDigit : GoodIn wsX4_opensStep wsX4_wantsDigit := goodIn_r _ [4] (by decide +kernel) (by decide +kernel)
set_option maxRecDepth 20000 in
theorem gX4_opensStep_X4_wantsDigit : GoodIn wsX4_opensStep (va_wsS RX4 38 yX4_wantsDigit wsX4_wantsDigit) := goodIn_app (goodIn_of _ (by decide +kernel)) ggX4_opensStep_X4_wantsDigit
set_option maxRecDepth 20000 in
theorem ggX4_isDigitOf_X9_isWithin : GoodIn wsX4_isDigitOf wsX9_isWithin := goodIn_r _ [3] (by decide +kernel) (by decide +kernel)
set_option maxRecDepth 20000 in
theorem gX4_isDigitOf_X9_isWithin_n53 : GoodIn wsX4_isDigitOf (wsX9_isWithin) := ggX4_isDigitOf_X9_isWithin
set_option maxRecDepth 20000 in
theorem ggX4_read_X6_length : GoodIn wsX4_read wsX6_length := goodIn_r _ [7, 8, 47, 48] (by decide +kernel) (by decide +kernel)
set_option maxRecDepth 20000 in
theorem gX4_read_X6_length : GoodIn wsX4_read (wsV RX4 28 RX6 yX6_length wsX6_length) := goodIn_app (goodIn_of _ (by decide +kernel)) ggX4_read_X6_length
set_option maxRecDepth 20000 in
theorem ggX4_read_X6_letterAt : GoodIn wsX4_read wsX6_letterAt := goodIn_r _ [12, 8, 13, 47, 48] (by decide +kernel) (by decide +kernel)
set_option maxRecDepth 20000 in
theorem gX4_read_X6_letterAt : GoodIn wsX4_read (wsV RX4 34 RX6 yX6_letterAt wsX6_letterAt) := goodIn_app (goodIn_of _ (by decide +kernel)) ggX4_read_X6_letterAt
set_option maxRecDepth 20000 in
theorem ggX4_read_X4_opensStep : GoodIn wsX4_read wsX4_opensStep := goodIn_r _ [17, 18, 19, 16, 20] (by decide +kernel) (by decide +kernel)
set_option maxRecDepth 20000 in
theorem gX4_read_X4_opensStep : GoodIn wsX4_read (va_wsS RX4 46 yX4_opensStep wsX4_opensStep) := goodIn_app (goodIn_of _ (by decide +kernel)) ggX4_read_X4_opensStep
set_option maxRecDepth 20000 in
theorem ggX4_read_X4_addStep : GoodIn wsX4_read wsX4_addStep := goodIn_r _ [24, 1, 25, 26, 42, 43, 44, 45, 46] (by decide +kernel) (by decide +kernel)
set_option maxRecDepth 20000 in
theorem gX4_read_X4_addStep : GoodIn wsX4_read (wsV RX4 21 RX4 yX4_addStep wsX4_addStep) := goodIn_app (goodIn_of _ (by decide +kernel)) ggX4_read_X4_addStep
set_option maxRecDepth 20000 in
theorem ggX4_read_X4_makeAll : GoodIn wsX4_read wsX4_makeAll := goodIn_r _ [30, 1, 25, 26, 31, 32, 33, 34, 35, 36, 37, 16, 38, 39, 40, 41, 42, 43, 44, 45, 46] (by decide +kernel) (by decide +kernel)
set_option maxRecDepth 20000 in
theorem gX4_read_X4_makeAll : GoodIn wsX4_read (wsV RX4 25 RX4 yX4_makeAll wsX4_makeAll) := goodIn_app (goodIn_of _ (by decide +kernel)) ggX4_read_X4_makeAll
set_option maxRecDepth 20000 in
theorem ggX4_makeAll_X4_stepped : GoodIn wsX4_makeAll wsX4_stepped := goodIn_r _ [12, 13, 14, 6, 15] (by decide +kernel) (by decide +kernel)
set_option maxRecDepth 20000 in
theorem gX4_makeAll_X4_stepped : GoodIn wsX4_makeAll (va_wsS RX4 64 yX4_stepped wsX4_stepped) := goodIn_app (goodIn_of _ (by decide +kernel)) ggX4_makeAll_X4_stepped
set_option maxRecDepth 20000 in
theorem ggX4_toldBy_X4_makes : GoodIn wsX4_toldBy wsX4_makes := goodIn_r _ [5, 6, 7, 8, 9, 10, 11] (by decide +kernel) (by decide +kernel)
set_option maxRecDepth 20000 in
theorem gX4_toldBy_X4_makes : GoodIn wsX4_toldBy (wsV RX4 77 RX4 yX4_makes wsX4_makes) := goodIn_app (goodIn_of _ (by decide +kernel)) ggX4_toldBy_X4_makes
set_option maxRecDepth 20000 in
theorem ggX5_weigh_J7_fill_d0a16 : GoodIn wsX5_weigh wsJ7_fill_d0a16 := goodIn_r _ [10] (by decide +kernel) (by decide +kernel)
set_option maxRecDepth 20000 in
theorem gX5_weigh_J7_fill_d0a16 : GoodIn wsX5_weigh (va_wsS RX5 25 yJ7_fill_d0a16 wsJ7_fill_d0a16) := goodIn_app (goodIn_of _ (by decide +kernel)) ggX5_weigh_J7_fill_d0a16
set_option maxRecDepth 20000 in
theorem ggX5_waysFrom_X4_makes : GoodIn wsX5_waysFrom wsX4_makes := goodIn_r _ [7, 8, 11, 12, 13, 14, 15] (by decide +kernel) (by decide +kernel)
set_option maxRecDepth 20000 in
theorem gX5_waysFrom_X4_makes : GoodIn wsX5_waysFrom (wsV RX5 33 RX4 yX4_makes wsX4_makes) := goodIn_app (goodIn_of _ (by decide +kernel)) ggX5_waysFrom_X4_makes
set_option maxRecDepth 20000 in
theorem ggX6_lettersIn_X6_codeIn : GoodIn wsX6_lettersIn wsX6_codeIn := goodIn_r _ [4, 5] (by decide +kernel) (by decide +kernel)
set_option maxRecDepth 20000 in
theorem gX6_lettersIn_X6_codeIn : GoodIn wsX6_lettersIn (va_wsS RX6 15 yX6_codeIn wsX6_codeIn) := goodIn_app (goodIn_of _ (by decide +kernel)) ggX6_lettersIn_X6_codeIn
set_option maxRecDepth 20000 in
theorem ggX6_append_X6_codeIn : GoodIn wsX6_append wsX6_codeIn := goodIn_r _ [6, 7] (by decide +kernel) (by decide +kernel)
set_option maxRecDepth 20000 in
theorem gX6_append_X6_codeIn : GoodIn wsX6_append (va_wsS RX6 15 yX6_codeIn wsX6_codeIn) := goodIn_app (goodIn_of _ (by decide +kernel)) ggX6_append_X6_codeIn
set_option maxRecDepth 20000 in
theorem ggX7_begin_J7_fill_53178 : GoodIn wsX7_begin wsJ7_fill_53178 := goodIn_r _ [6] (by decide +kernel) (by decide +kernel)
set_option maxRecDepth 20000 in
theorem gX7_begin_J7_fill_53178 : GoodIn wsX7_begin (va_wsS RX7 18 yJ7_fill_53178 wsJ7_fill_53178) := goodIn_app (goodIn_of _ (by decide +kernel)) ggX7_begin_J7_fill_53178
set_option maxRecDepth 20000 in
theorem ggX7_begin_X7_isPlace : GoodIn wsX7_begin wsX7_isPlace := goodIn_r _ [10] (by decide +kernel) (by decide +kernel)
set_option maxRecDepth 20000 in
theorem gX7_begin_X7_isPlace : GoodIn wsX7_begin (va_wsS RX7 24 yX7_isPlace wsX7_isPlace) := goodIn_app (goodIn_of _ (by decide +kernel)) ggX7_begin_X7_isPlace
set_option maxRecDepth 20000 in
theorem ggX7_take_X7_isPlace : GoodIn wsX7_take wsX7_isPlace := goodIn_r _ [6] (by decide +kernel) (by decide +kernel)
set_option maxRecDepth 20000 in
theorem gX7_take_X7_isPlace : GoodIn wsX7_take (va_wsS RX7 24 yX7_isPlace wsX7_isPlace) := goodIn_app (goodIn_of _ (by decide +kernel)) ggX7_take_X7_isPlace
set_option maxRecDepth 20000 in
theorem ggX7_sizeAt_X7_isPlace : GoodIn wsX7_sizeAt wsX7_isPlace := goodIn_r _ [5] (by decide +kernel) (by decide +kernel)
set_option maxRecDepth 20000 in
theorem gX7_sizeAt_X7_isPlace : GoodIn wsX7_sizeAt (va_wsS RX7 24 yX7_isPlace wsX7_isPlace) := goodIn_app (goodIn_of _ (by decide +kernel)) ggX7_sizeAt_X7_isPlace
set_option maxRecDepth 20000 in
theorem ggX7_fromAt_X7_isPlace : GoodIn wsX7_fromAt wsX7_isPlace := goodIn_r _ [5] (by decide +kernel) (by decide +kernel)
set_option maxRecDepth 20000 in
theorem gX7_fromAt_X7_isPlace : GoodIn wsX7_fromAt (va_wsS RX7 24 yX7_isPlace wsX7_isPlace) := goodIn_app (goodIn_of _ (by decide +kernel)) ggX7_fromAt_X7_isPlace
set_option maxRecDepth 20000 in
theorem ggX8_faultIn_X6_length : GoodIn wsX8_faultIn wsX6_length := goodIn_r _ [5, 6, 22, 23] (by decide +kernel) (by decide +kernel)
set_option maxRecDepth 20000 in
theorem gX8_faultIn_X6_length : GoodIn wsX8_faultIn (wsV RX8 18 RX6 yX6_length wsX6_length) := goodIn_app (goodIn_of _ (by decide +kernel)) ggX8_faultIn_X6_length
set_option maxRecDepth 20000 in
theorem ggX8_faultIn_X8_fits : GoodIn wsX8_faultIn wsX8_fits := goodIn_r _ [10, 11, 12, 13, 4, 14, 6, 15, 16, 17, 9, 18, 19, 20, 21, 22, 23] (by decide +kernel) (by decide +kernel)
set_option maxRecDepth 20000 in
theorem gX8_faultIn_X8_fits : GoodIn wsX8_faultIn (va_wsS RX8 24 yX8_fits wsX8_fits) := goodIn_app (goodIn_of _ (by decide +kernel)) ggX8_faultIn_X8_fits
set_option maxRecDepth 20000 in
theorem ggX8_isWeek_X6_length : GoodIn wsX8_isWeek wsX6_length := goodIn_r _ [5, 6, 25, 26] (by decide +kernel) (by decide +kernel)
set_option maxRecDepth 20000 in
theorem gX8_isWeek_X6_length : GoodIn wsX8_isWeek (wsV RX8 18 RX6 yX6_length wsX6_length) := goodIn_app (goodIn_of _ (by decide +kernel)) ggX8_isWeek_X6_length
set_option maxRecDepth 20000 in
theorem ggX8_isWeek_X8_faultIn : GoodIn wsX8_isWeek wsX8_faultIn := goodIn_r _ [10, 1, 2, 3, 4, 5, 6, 11, 12, 9, 13, 14, 15, 16, 17, 18, 19, 20, 21, 22, 23, 24, 25, 26] (by decide +kernel) (by decide +kernel)
set_option maxRecDepth 20000 in
theorem gX8_isWeek_X8_faultIn : GoodIn wsX8_isWeek (va_wsS RX8 28 yX8_faultIn wsX8_faultIn) := goodIn_app (goodIn_of _ (by decide +kernel)) ggX8_isWeek_X8_faultIn
set_option maxRecDepth 20000 in
theorem ggX8_fits_X6_letterAt : GoodIn wsX8_fits wsX6_letterAt := goodIn_r _ [5, 6, 7, 15, 16] (by decide +kernel) (by decide +kernel)
set_option maxRecDepth 20000 in
theorem gX8_fits_X6_letterAt : GoodIn wsX8_fits (wsV RX8 32 RX6 yX6_letterAt wsX6_letterAt) := goodIn_app (goodIn_of _ (by decide +kernel)) ggX8_fits_X6_letterAt
set_option maxRecDepth 20000 in
theorem ggX8_fits_X8_isPersonLetter : GoodIn wsX8_fits wsX8_isPersonLetter := goodIn_r _ [11, 12, 13, 14] (by decide +kernel) (by decide +kernel)
set_option maxRecDepth 20000 in
theorem gX8_fits_X8_isPersonLetter : GoodIn wsX8_fits (va_wsS RX8 36 yX8_isPersonLetter wsX8_isPersonLetter) := goodIn_app (goodIn_of _ (by decide +kernel)) ggX8_fits_X8_isPersonLetter
set_option maxRecDepth 20000 in
theorem ggX8_isPersonLetter_X9_isWithin : GoodIn wsX8_isPersonLetter wsX9_isWithin := goodIn_r _ [3] (by decide +kernel) (by decide +kernel)
set_option maxRecDepth 20000 in
theorem gX8_isPersonLetter_X9_isWithin_n40 : GoodIn wsX8_isPersonLetter (wsX9_isWithin) := ggX8_isPersonLetter_X9_isWithin
set_option maxRecDepth 20000 in
theorem ggX8_read_X6_length : GoodIn wsX8_read wsX6_length := goodIn_r _ [9, 10, 20, 21] (by decide +kernel) (by decide +kernel)
set_option maxRecDepth 20000 in
theorem gX8_read_X6_length : GoodIn wsX8_read (wsV RX8 18 RX6 yX6_length wsX6_length) := goodIn_app (goodIn_of _ (by decide +kernel)) ggX8_read_X6_length
set_option maxRecDepth 20000 in
theorem ggX8_read_X6_letterAt : GoodIn wsX8_read wsX6_letterAt := goodIn_r _ [14, 10, 15, 20, 21] (by decide +kernel) (by decide +kernel)
set_option maxRecDepth 20000 in
theorem gX8_read_X6_letterAt : GoodIn wsX8_read (wsV RX8 32 RX6 yX6_letterAt wsX6_letterAt) := goodIn_app (goodIn_of _ (by decide +kernel)) ggX8_read_X6_letterAt
set_option maxRecDepth 20000 in
theorem ggX8_who_X8_has : GoodIn wsX8_who wsX8_has := goodIn_r _ [6, 7, 8, 9, 10, 11] (by decide +kernel) (by decide +kernel)
set_option maxRecDepth 20000 in
theorem gX8_who_X8_has : GoodIn wsX8_who (wsV RX8 51 RX8 yX8_has wsX8_has) := goodIn_app (goodIn_of _ (by decide +kernel)) ggX8_who_X8_has
set_option maxRecDepth 20000 in
theorem ggX8_whom_X8_has : GoodIn wsX8_whom wsX8_has := goodIn_r _ [6, 7, 8, 9, 10, 11] (by decide +kernel) (by decide +kernel)
set_option maxRecDepth 20000 in
theorem gX8_whom_X8_has : GoodIn wsX8_whom (wsV RX8 51 RX8 yX8_has wsX8_has) := goodIn_app (goodIn_of _ (by decide +kernel)) ggX8_whom_X8_has
set_option maxRecDepth 20000 in
theorem ggX9_init_X6_init : GoodIn wsX9_init wsX6_init := goodIn_r _ [42, 43, 2, 3, 44, 45, 114, 115] (by decide +kernel) (by decide +kernel)
set_option maxRecDepth 20000 in
theorem gX9_init_X6_init_n9 : GoodIn wsX9_init (wsX6_init) := ggX9_init_X6_init
set_option maxRecDepth 20000 in
theorem ggX9_init_X4_init : GoodIn wsX9_init wsX4_init := goodIn_r _ [48, 49, 2, 3, 44, 50, 51, 52, 53, 54, 55, 10, 56, 57, 58, 59, 60, 61, 62, 63, 64, 65, 66, 67, 68, 69, 70, 71, 127, 128, 129, 130, 131] (by decide +kernel) (by decide +kernel)
set_option maxRecDepth 20000 in
theorem gX9_init_X4_init : GoodIn wsX9_init (wsX4_init) := ggX9_init_X4_init
set_option maxRecDepth 20000 in
theorem ggX9_init_X8_init : GoodIn wsX9_init wsX8_init := goodIn_r _ [73, 74, 2, 3, 44, 75, 76, 132, 133, 134, 135] (by decide +kernel) (by decide +kernel)
set_option maxRecDepth 20000 in
theorem gX9_init_X8_init_n25 : GoodIn wsX9_init (wsX8_init) := ggX9_init_X8_init
set_option maxRecDepth 20000 in
theorem ggX9_init_X3_init : GoodIn wsX9_init wsX3_init := goodIn_r _ [79, 80, 2, 3, 44, 81, 82, 83, 84, 85, 86, 87, 88, 136, 137, 138, 139, 140] (by decide +kernel) (by decide +kernel)
set_option maxRecDepth 20000 in
theorem gX9_init_X3_init : GoodIn wsX9_init (wsX3_init) := ggX9_init_X3_init
set_option maxRecDepth 20000 in
theorem ggX9_init_X7_init : GoodIn wsX9_init wsX7_init := goodIn_r _ [90, 91, 2, 3, 44, 92, 93, 141, 142] (by decide +kernel) (by decide +kernel)
set_option maxRecDepth 20000 in
theorem gX9_init_X7_init_n42 : GoodIn wsX9_init (wsX7_init) := ggX9_init_X7_init
set_option maxRecDepth 20000 in
theorem ggX9_init_X0_init : GoodIn wsX9_init wsX0_init := goodIn_r _ [95, 96, 2, 3, 44, 97, 98, 99, 143, 144, 145] (by decide +kernel) (by decide +kernel)
set_option maxRecDepth 20000 in
theorem gX9_init_X0_init_n49 : GoodIn wsX9_init (wsX0_init) := ggX9_init_X0_init
set_option maxRecDepth 20000 in
theorem ggX9_init_X1_init : GoodIn wsX9_init wsX1_init := goodIn_r _ [101, 102, 2, 3, 103, 104, 105, 44, 106, 146, 147, 148, 149, 150, 151] (by decide +kernel) (by decide +kernel)
set_option maxRecDepth 20000 in
theorem gX9_init_X1_init_n56 : GoodIn wsX9_init (wsX1_init) := ggX9_init_X1_init
set_option maxRecDepth 20000 in
theorem ggX9_init_X5_init : GoodIn wsX9_init wsX5_init := goodIn_r _ [108, 109, 2, 3, 103, 110, 152, 153] (by decide +kernel) (by decide +kernel)
set_option maxRecDepth 20000 in
theorem gX9_init_X5_init_n63 : GoodIn wsX9_init (wsX5_init) := ggX9_init_X5_init
set_option maxRecDepth 20000 in
theorem ggX9_init_X2_init : GoodIn wsX9_init wsX2_init := goodIn_r _ [112, 113, 2, 3] (by decide +kernel) (by decide +kernel)
set_option maxRecDepth 20000 in
theorem gX9_init_X2_init_n70 : GoodIn wsX9_init (wsX2_init) := ggX9_init_X2_init
set_option maxRecDepth 20000 in
theorem ggX9_letters_X6_lettersIn : GoodIn wsX9_letters wsX6_lettersIn := goodIn_r _ [5, 6, 7, 4, 8, 9] (by decide +kernel) (by decide +kernel)
set_option maxRecDepth 20000 in
theorem gX9_letters_X6_lettersIn : GoodIn wsX9_letters (va_wsS RX9 75 yX6_lettersIn wsX6_lettersIn) := goodIn_app (goodIn_of _ (by decide +kernel)) ggX9_letters_X6_lettersIn
set_option maxRecDepth 20000 in
theorem ggX9_letters_X6_hasRoomFor : GoodIn wsX9_letters wsX6_hasRoomFor := goodIn_r _ [13, 14, 35, 36] (by decide +kernel) (by decide +kernel)
set_option maxRecDepth 20000 in
theorem gX9_letters_X6_hasRoomFor : GoodIn wsX9_letters (wsV RX9 79 RX6 yX6_hasRoomFor wsX6_hasRoomFor) := goodIn_app (goodIn_of _ (by decide +kernel)) ggX9_letters_X6_hasRoomFor
set_option maxRecDepth 20000 in
theorem ggX9_letters_X6_append : GoodIn wsX9_letters wsX6_append := goodIn_r _ [18, 14, 19, 6, 7, 4, 8, 9, 35, 36] (by decide +kernel) (by decide +kernel)
set_option maxRecDepth 20000 in
theorem gX9_letters_X6_append : GoodIn wsX9_letters (wsV RX9 83 RX6 yX6_append wsX6_append) := goodIn_app (goodIn_of _ (by decide +kernel)) ggX9_letters_X6_append
set_option maxRecDepth 20000 in
theorem ggX9_letters_X6_length : GoodIn wsX9_letters wsX6_length := goodIn_r _ [23, 14, 35, 36] (by decide +kernel) (by decide +kernel)
set_option maxRecDepth 20000 in
theorem gX9_letters_X6_length : GoodIn wsX9_letters (wsV RX9 87 RX6 yX6_length wsX6_length) := goodIn_app (goodIn_of _ (by decide +kernel)) ggX9_letters_X6_length
set_option maxRecDepth 20000 in
theorem ggX9_blank_X6_length : GoodIn wsX9_blank wsX6_length := goodIn_r _ [6, 7, 23, 24] (by decide +kernel) (by decide +kernel)
set_option maxRecDepth 20000 in
theorem gX9_blank_X6_length : GoodIn wsX9_blank (wsV RX9 87 RX6 yX6_length wsX6_length) := goodIn_app (goodIn_of _ (by decide +kernel)) ggX9_blank_X6_length
set_option maxRecDepth 20000 in
theorem ggX9_blank_X6_clear : GoodIn wsX9_blank wsX6_clear := goodIn_r _ [11, 7, 23, 24] (by decide +kernel) (by decide +kernel)
set_option maxRecDepth 20000 in
theorem gX9_blank_X6_clear : GoodIn wsX9_blank (wsV RX9 91 RX6 yX6_clear wsX6_clear) := goodIn_app (goodIn_of _ (by decide +kernel)) ggX9_blank_X6_clear
set_option maxRecDepth 20000 in
theorem ggX9_fault_X4_faultIn : GoodIn wsX9_fault wsX4_faultIn := goodIn_r _ [5, 6, 7, 8, 9, 10, 11, 12, 13, 14, 15, 16, 17, 18, 4, 19, 20, 21, 22, 23, 24, 25, 26, 27, 28, 52, 53] (by decide +kernel) (by decide +kernel)
set_option maxRecDepth 20000 in
theorem gX9_fault_X4_faultIn : GoodIn wsX9_fault (va_wsS RX9 94 yX4_faultIn wsX4_faultIn) := goodIn_app (goodIn_of _ (by decide +kernel)) ggX9_fault_X4_faultIn
set_option maxRecDepth 20000 in
theorem ggX9_fault_X8_faultIn : GoodIn wsX9_fault wsX8_faultIn := goodIn_r _ [32, 33, 7, 8, 9, 10, 11, 34, 35, 31, 36, 37, 13, 14, 15, 16, 38, 39, 40, 23, 24, 25, 52, 53] (by decide +kernel) (by decide +kernel)
set_option maxRecDepth 20000 in
theorem gX9_fault_X8_faultIn : GoodIn wsX9_fault (va_wsS RX9 98 yX8_faultIn wsX8_faultIn) := goodIn_app (goodIn_of _ (by decide +kernel)) ggX9_fault_X8_faultIn
set_option maxRecDepth 20000 in
theorem ggX9_law_X4_isLaw : GoodIn wsX9_law wsX4_isLaw := goodIn_r _ [6, 7, 8, 9, 10, 11, 12, 13, 14, 5, 15, 16, 17, 18, 19, 20, 21, 22, 23, 24, 25, 26, 27, 28, 29, 30, 31, 32, 79, 80] (by decide +kernel) (by decide +kernel)
set_option maxRecDepth 20000 in
theorem gX9_law_X4_isLaw : GoodIn wsX9_law (va_wsS RX9 99 yX4_isLaw wsX4_isLaw) := goodIn_app (goodIn_of _ (by decide +kernel)) ggX9_law_X4_isLaw
set_option maxRecDepth 20000 in
theorem ggX9_law_X4_read : GoodIn wsX9_law wsX4_read := goodIn_r _ [36, 37, 38, 7, 8, 9, 10, 11, 12, 16, 17, 18, 19, 20, 30, 31, 5, 32, 21, 22, 23, 39, 40, 41, 42, 43, 44, 45, 46, 47, 48, 49, 50, 51, 52, 53, 54, 55, 56, 57, 58, 59, 81, 82, 83, 84, 85, 79, 80] (by decide +kernel) (by decide +kernel)
set_option maxRecDepth 20000 in
theorem gX9_law_X4_read : GoodIn wsX9_law (wsV RX9 103 RX4 yX4_read wsX4_read) := goodIn_app (goodIn_of _ (by decide +kernel)) ggX9_law_X4_read
set_option maxRecDepth 20000 in
theorem ggX9_law_X6_clear : GoodIn wsX9_law wsX6_clear := goodIn_r _ [63, 12, 79, 80] (by decide +kernel) (by decide +kernel)
set_option maxRecDepth 20000 in
theorem gX9_law_X6_clear : GoodIn wsX9_law (wsV RX9 91 RX6 yX6_clear wsX6_clear) := goodIn_app (goodIn_of _ (by decide +kernel)) ggX9_law_X6_clear
set_option maxRecDepth 20000 in
theorem ggX9_law_X4_steps : GoodIn wsX9_law wsX4_steps := goodIn_r _ [67, 37, 81, 82, 83, 84, 85] (by decide +kernel) (by decide +kernel)
set_option maxRecDepth 20000 in
theorem gX9_law_X4_steps : GoodIn wsX9_law (wsV RX9 107 RX4 yX4_steps wsX4_steps) := goodIn_app (goodIn_of _ (by decide +kernel)) ggX9_law_X4_steps
set_option maxRecDepth 20000 in
theorem ggX9_week_X8_isWeek : GoodIn wsX9_week wsX8_isWeek := goodIn_r _ [6, 7, 8, 9, 10, 11, 12, 13, 14, 5, 15, 16, 17, 18, 19, 20, 21, 22, 23, 24, 25, 26, 27, 28, 29, 57, 58] (by decide +kernel) (by decide +kernel)
set_option maxRecDepth 20000 in
theorem gX9_week_X8_isWeek : GoodIn wsX9_week (va_wsS RX9 110 yX8_isWeek wsX8_isWeek) := goodIn_app (goodIn_of _ (by decide +kernel)) ggX9_week_X8_isWeek
set_option maxRecDepth 20000 in
theorem ggX9_week_X8_read : GoodIn wsX9_week wsX8_read := goodIn_r _ [33, 34, 35, 36, 37, 7, 8, 9, 10, 11, 12, 19, 20, 21, 22, 23, 59, 60, 61, 62, 57, 58] (by decide +kernel) (by decide +kernel)
set_option maxRecDepth 20000 in
theorem gX9_week_X8_read : GoodIn wsX9_week (wsV RX9 113 RX8 yX8_read wsX8_read) := goodIn_app (goodIn_of _ (by decide +kernel)) ggX9_week_X8_read
set_option maxRecDepth 20000 in
theorem ggX9_week_X6_clear : GoodIn wsX9_week wsX6_clear := goodIn_r _ [41, 12, 57, 58] (by decide +kernel) (by decide +kernel)
set_option maxRecDepth 20000 in
theorem gX9_week_X6_clear : GoodIn wsX9_week (wsV RX9 91 RX6 yX6_clear wsX6_clear) := goodIn_app (goodIn_of _ (by decide +kernel)) ggX9_week_X6_clear
set_option maxRecDepth 20000 in
theorem ggX9_week_X8_tellings : GoodIn wsX9_week wsX8_tellings := goodIn_r _ [45, 34, 59, 60, 61, 62] (by decide +kernel) (by decide +kernel)
set_option maxRecDepth 20000 in
theorem gX9_week_X8_tellings : GoodIn wsX9_week (wsV RX9 114 RX8 yX8_tellings wsX8_tellings) := goodIn_app (goodIn_of _ (by decide +kernel)) ggX9_week_X8_tellings
set_option maxRecDepth 20000 in
theorem ggX9_grown_X9_isSize : GoodIn wsX9_grown wsX9_isSize := goodIn_r _ [5, 6, 7, 4, 8] (by decide +kernel) (by decide +kernel)
set_option maxRecDepth 20000 in
theorem gX9_grown_X9_isSize : GoodIn wsX9_grown (va_wsS RX9 117 yX9_isSize wsX9_isSize) := goodIn_app (goodIn_of _ (by decide +kernel)) ggX9_grown_X9_isSize
set_option maxRecDepth 20000 in
theorem ggX9_grown_X4_makes : GoodIn wsX9_grown wsX4_makes := goodIn_r _ [13, 14, 26, 27, 28, 29, 30] (by decide +kernel) (by decide +kernel)
set_option maxRecDepth 20000 in
theorem gX9_grown_X4_makes : GoodIn wsX9_grown (wsV RX9 120 RX4 yX4_makes wsX4_makes) := goodIn_app (goodIn_of _ (by decide +kernel)) ggX9_grown_X4_makes
set_option maxRecDepth 20000 in
theorem ggX9_telling_X8_has : GoodIn wsX9_telling wsX8_has := goodIn_r _ [6, 7, 34, 35, 36, 37] (by decide +kernel) (by decide +kernel)
set_option maxRecDepth 20000 in
theorem gX9_telling_X8_has : GoodIn wsX9_telling (wsV RX9 124 RX8 yX8_has wsX8_has) := goodIn_app (goodIn_of _ (by decide +kernel)) ggX9_telling_X8_has
set_option maxRecDepth 20000 in
theorem ggX9_telling_X9_isWithin : GoodIn wsX9_telling wsX9_isWithin := goodIn_r _ [11] (by decide +kernel) (by decide +kernel)
set_option maxRecDepth 20000 in
theorem gX9_telling_X9_isWithin : GoodIn wsX9_telling (va_wsS RX9 127 yX9_isWithin wsX9_isWithin) := goodIn_app (goodIn_of _ (by decide +kernel)) ggX9_telling_X9_isWithin
set_option maxRecDepth 20000 in
theorem ggX9_telling_X8_who : GoodIn wsX9_telling wsX8_who := goodIn_r _ [15, 16, 17, 3, 4, 5, 6, 7, 34, 35, 36, 37] (by decide +kernel) (by decide +kernel)
set_option maxRecDepth 20000 in
theorem gX9_telling_X8_who : GoodIn wsX9_telling (wsV RX9 131 RX8 yX8_who wsX8_who) := goodIn_app (goodIn_of _ (by decide +kernel)) ggX9_telling_X8_who
set_option maxRecDepth 20000 in
theorem ggX9_telling_X8_whom : GoodIn wsX9_telling wsX8_whom := goodIn_r _ [21, 22, 17, 3, 4, 5, 6, 7, 34, 35, 36, 37] (by decide +kernel) (by decide +kernel)
set_option maxRecDepth 20000 in
theorem gX9_telling_X8_whom : GoodIn wsX9_telling (wsV RX9 134 RX8 yX8_whom wsX8_whom) := goodIn_app (goodIn_of _ (by decide +kernel)) ggX9_telling_X8_whom
set_option maxRecDepth 20000 in
theorem ggX9_person_X9_isKind : GoodIn wsX9_person wsX9_isKind := goodIn_r _ [5, 6, 7, 4, 8] (by decide +kernel) (by decide +kernel)
set_option maxRecDepth 20000 in
theorem gX9_person_X9_isKind : GoodIn wsX9_person (va_wsS RX9 137 yX9_isKind wsX9_isKind) := goodIn_app (goodIn_of _ (by decide +kernel)) ggX9_person_X9_isKind
set_option maxRecDepth 20000 in
theorem ggX9_person_X3_hasRoom : GoodIn wsX9_person wsX3_hasRoom := goodIn_r _ [13, 14, 32, 33, 34, 35, 36] (by decide +kernel) (by decide +kernel)
set_option maxRecDepth 20000 in
theorem gX9_person_X3_hasRoom : GoodIn wsX9_person (wsV RX9 140 RX3 yX3_hasRoom wsX3_hasRoom) := goodIn_app (goodIn_of _ (by decide +kernel)) ggX9_person_X3_hasRoom
set_option maxRecDepth 20000 in
theorem ggX9_person_X3_add : GoodIn wsX9_person wsX3_add := goodIn_r _ [18, 19, 14, 20, 10, 11, 12, 13, 32, 33, 34, 35, 36] (by decide +kernel) (by decide +kernel)
set_option maxRecDepth 20000 in
theorem gX9_person_X3_add : GoodIn wsX9_person (wsV RX9 144 RX3 yX3_add wsX3_add) := goodIn_app (goodIn_of _ (by decide +kernel)) ggX9_person_X3_add
set_option maxRecDepth 20000 in
theorem ggX9_kind_X3_has : GoodIn wsX9_kind wsX3_has := goodIn_r _ [6, 7, 25, 26, 27, 28, 29] (by decide +kernel) (by decide +kernel)
set_option maxRecDepth 20000 in
theorem gX9_kind_X3_has : GoodIn wsX9_kind (wsV RX9 147 RX3 yX3_has wsX3_has) := goodIn_app (goodIn_of _ (by decide +kernel)) ggX9_kind_X3_has
set_option maxRecDepth 20000 in
theorem ggX9_kind_X3_kindOf : GoodIn wsX9_kind wsX3_kindOf := goodIn_r _ [11, 12, 13, 3, 4, 5, 6, 7, 25, 26, 27, 28, 29] (by decide +kernel) (by decide +kernel)
set_option maxRecDepth 20000 in
theorem gX9_kind_X3_kindOf : GoodIn wsX9_kind (wsV RX9 148 RX3 yX3_kindOf wsX3_kindOf) := goodIn_app (goodIn_of _ (by decide +kernel)) ggX9_kind_X3_kindOf
set_option maxRecDepth 20000 in
theorem ggX9_as_X3_has : GoodIn wsX9_as wsX3_has := goodIn_r _ [6, 7, 35, 36, 37, 38, 39] (by decide +kernel) (by decide +kernel)
set_option maxRecDepth 20000 in
theorem gX9_as_X3_has : GoodIn wsX9_as (wsV RX9 147 RX3 yX3_has wsX3_has) := goodIn_app (goodIn_of _ (by decide +kernel)) ggX9_as_X3_has
set_option maxRecDepth 20000 in
theorem ggX9_as_X9_isKind : GoodIn wsX9_as wsX9_isKind := goodIn_r _ [11, 12, 13, 10, 14] (by decide +kernel) (by decide +kernel)
set_option maxRecDepth 20000 in
theorem gX9_as_X9_isKind : GoodIn wsX9_as (va_wsS RX9 137 yX9_isKind wsX9_isKind) := goodIn_app (goodIn_of _ (by decide +kernel)) ggX9_as_X9_isKind
set_option maxRecDepth 20000 in
theorem ggX9_as_X3_kindOf : GoodIn wsX9_as wsX3_kindOf := goodIn_r _ [18, 19, 20, 3, 4, 5, 6, 7, 35, 36, 37, 38, 39] (by decide +kernel) (by decide +kernel)
set_option maxRecDepth 20000 in
theorem gX9_as_X3_kindOf : GoodIn wsX9_as (wsV RX9 148 RX3 yX3_kindOf wsX3_kindOf) := goodIn_app (goodIn_of _ (by decide +kernel)) ggX9_as_X3_kindOf
set_option maxRecDepth 20000 in
theorem ggX9_as_X9_isSuch : GoodIn wsX9_as wsX9_isSuch := goodIn_r _ [23] (by decide +kernel) (by decide +kernel)
set_option maxRecDepth 20000 in
theorem gX9_as_X9_isSuch : GoodIn wsX9_as (va_wsS RX9 151 yX9_isSuch wsX9_isSuch) := goodIn_app (goodIn_of _ (by decide +kernel)) ggX9_as_X9_isSuch
set_option maxRecDepth 20000 in
theorem ggX9_tells_X3_has : GoodIn wsX9_tells wsX3_has := goodIn_r _ [7, 8, 43, 44, 45, 46, 47] (by decide +kernel) (by decide +kernel)
set_option maxRecDepth 20000 in
theorem gX9_tells_X3_has : GoodIn wsX9_tells (wsV RX9 147 RX3 yX3_has wsX3_has) := goodIn_app (goodIn_of _ (by decide +kernel)) ggX9_tells_X3_has
set_option maxRecDepth 20000 in
theorem ggX9_tells_X9_isSize : GoodIn wsX9_tells wsX9_isSize := goodIn_r _ [12, 13, 14, 11, 15] (by decide +kernel) (by decide +kernel)
set_option maxRecDepth 20000 in
theorem gX9_tells_X9_isSize : GoodIn wsX9_tells (va_wsS RX9 117 yX9_isSize wsX9_isSize) := goodIn_app (goodIn_of _ (by decide +kernel)) ggX9_tells_X9_isSize
set_option maxRecDepth 20000 in
theorem ggX9_tells_X3_kindOf : GoodIn wsX9_tells wsX3_kindOf := goodIn_r _ [19, 20, 21, 4, 5, 6, 7, 8, 43, 44, 45, 46, 47] (by decide +kernel) (by decide +kernel)
set_option maxRecDepth 20000 in
theorem gX9_tells_X3_kindOf : GoodIn wsX9_tells (wsV RX9 148 RX3 yX3_kindOf wsX3_kindOf) := goodIn_app (goodIn_of _ (by decide +kernel)) ggX9_tells_X3_kindOf
set_option maxRecDepth 20000 in
theorem ggX9_tells_X4_toldBy : GoodIn wsX9_tells wsX4_toldBy := goodIn_r _ [26, 27, 28, 29, 25, 30, 31, 48, 49, 50, 51, 52] (by decide +kernel) (by decide +kernel)
set_option maxRecDepth 20000 in
theorem gX9_tells_X4_toldBy : GoodIn wsX9_tells (wsV RX9 155 RX4 yX4_toldBy wsX4_toldBy) := goodIn_app (goodIn_of _ (by decide +kernel)) ggX9_tells_X4_toldBy
set_option maxRecDepth 20000 in
theorem ggX9_knows_X3_hasBoth : GoodIn wsX9_knows wsX3_hasBoth := goodIn_r _ [6, 7, 8, 9, 5, 10, 11, 33, 34, 35, 36, 37] (by decide +kernel) (by decide +kernel)
set_option maxRecDepth 20000 in
theorem gX9_knows_X3_hasBoth : GoodIn wsX9_knows (wsV RX9 159 RX3 yX3_hasBoth wsX3_hasBoth) := goodIn_app (goodIn_of _ (by decide +kernel)) ggX9_knows_X3_hasBoth
set_option maxRecDepth 20000 in
theorem ggX9_knows_X3_isKnown : GoodIn wsX9_knows wsX3_isKnown := goodIn_r _ [15, 16, 17, 3, 4, 5, 6, 7, 8, 9, 10, 11, 33, 34, 35, 36, 37] (by decide +kernel) (by decide +kernel)
set_option maxRecDepth 20000 in
theorem gX9_knows_X3_isKnown : GoodIn wsX9_knows (wsV RX9 162 RX3 yX3_isKnown wsX3_isKnown) := goodIn_app (goodIn_of _ (by decide +kernel)) ggX9_knows_X3_isKnown
set_option maxRecDepth 20000 in
theorem ggX9_knows_X3_setKnown : GoodIn wsX9_knows wsX3_setKnown := goodIn_r _ [21, 16, 17, 3, 4, 5, 6, 7, 8, 9, 10, 11, 33, 34, 35, 36, 37] (by decide +kernel) (by decide +kernel)
set_option maxRecDepth 20000 in
theorem gX9_knows_X3_setKnown : GoodIn wsX9_knows (wsV RX9 165 RX3 yX3_setKnown wsX3_setKnown) := goodIn_app (goodIn_of _ (by decide +kernel)) ggX9_knows_X3_setKnown
set_option maxRecDepth 20000 in
theorem ggX9_see_X9_isTale : GoodIn wsX9_see wsX9_isTale := goodIn_r _ [5, 6, 7, 4, 8] (by decide +kernel) (by decide +kernel)
set_option maxRecDepth 20000 in
theorem gX9_see_X9_isTale : GoodIn wsX9_see (va_wsS RX9 169 yX9_isTale wsX9_isTale) := goodIn_app (goodIn_of _ (by decide +kernel)) ggX9_see_X9_isTale
set_option maxRecDepth 20000 in
theorem ggX9_see_X3_has : GoodIn wsX9_see wsX3_has := goodIn_r _ [13, 14, 39, 40, 41, 42, 43] (by decide +kernel) (by decide +kernel)
set_option maxRecDepth 20000 in
theorem gX9_see_X3_has : GoodIn wsX9_see (wsV RX9 147 RX3 yX3_has wsX3_has) := goodIn_app (goodIn_of _ (by decide +kernel)) ggX9_see_X3_has
set_option maxRecDepth 20000 in
theorem ggX9_see_X9_isSize : GoodIn wsX9_see wsX9_isSize := goodIn_r _ [17, 6, 7, 4, 8] (by decide +kernel) (by decide +kernel)
set_option maxRecDepth 20000 in
theorem gX9_see_X9_isSize : GoodIn wsX9_see (va_wsS RX9 117 yX9_isSize wsX9_isSize) := goodIn_app (goodIn_of _ (by decide +kernel)) ggX9_see_X9_isSize
set_option maxRecDepth 20000 in
theorem ggX9_see_X3_setSeen : GoodIn wsX9_see wsX3_setSeen := goodIn_r _ [21, 22, 23, 24, 25, 26, 12, 27, 3, 4, 5, 6, 7, 8, 39, 40, 41, 42, 43] (by decide +kernel) (by decide +kernel)
set_option maxRecDepth 20000 in
theorem gX9_see_X3_setSeen : GoodIn wsX9_see (wsV RX9 172 RX3 yX3_setSeen wsX3_setSeen) := goodIn_app (goodIn_of _ (by decide +kernel)) ggX9_see_X3_setSeen
set_option maxRecDepth 20000 in
theorem ggX9_drop_X9_isTale : GoodIn wsX9_drop wsX9_isTale := goodIn_r _ [5, 6, 7, 4, 8] (by decide +kernel) (by decide +kernel)
set_option maxRecDepth 20000 in
theorem gX9_drop_X9_isTale : GoodIn wsX9_drop (va_wsS RX9 169 yX9_isTale wsX9_isTale) := goodIn_app (goodIn_of _ (by decide +kernel)) ggX9_drop_X9_isTale
set_option maxRecDepth 20000 in
theorem ggX9_drop_X3_setSeen : GoodIn wsX9_drop wsX3_setSeen := goodIn_r _ [13, 14, 15, 16, 17, 18, 12, 19, 3, 4, 5, 6, 7, 8, 31, 32, 33, 34, 35] (by decide +kernel) (by decide +kernel)
set_option maxRecDepth 20000 in
theorem gX9_drop_X3_setSeen : GoodIn wsX9_drop (wsV RX9 172 RX3 yX3_setSeen wsX3_setSeen) := goodIn_app (goodIn_of _ (by decide +kernel)) ggX9_drop_X3_setSeen
set_option maxRecDepth 20000 in
theorem ggX9_size_X3_has : GoodIn wsX9_size wsX3_has := goodIn_r _ [7, 8, 109, 110, 111, 112, 113] (by decide +kernel) (by decide +kernel)
set_option maxRecDepth 20000 in
theorem gX9_size_X3_has : GoodIn wsX9_size (wsV RX9 147 RX3 yX3_has wsX3_has) := goodIn_app (goodIn_of _ (by decide +kernel)) ggX9_size_X3_has
set_option maxRecDepth 20000 in
theorem ggX9_size_X9_isTale : GoodIn wsX9_size wsX9_isTale := goodIn_r _ [12, 13, 14, 11, 15] (by decide +kernel) (by decide +kernel)
set_option maxRecDepth 20000 in
theorem gX9_size_X9_isTale : GoodIn wsX9_size (va_wsS RX9 169 yX9_isTale wsX9_isTale) := goodIn_app (goodIn_of _ (by decide +kernel)) ggX9_size_X9_isTale
set_option maxRecDepth 20000 in
theorem ggX9_size_X3_witnessOf : GoodIn wsX9_size wsX3_witnessOf := goodIn_r _ [19, 20, 10, 11, 12, 13, 14, 15, 109, 110, 111, 112, 113] (by decide +kernel) (by decide +kernel)
set_option maxRecDepth 20000 in
theorem gX9_size_X3_witnessOf : GoodIn wsX9_size (wsV RX9 176 RX3 yX3_witnessOf wsX3_witnessOf) := goodIn_app (goodIn_of _ (by decide +kernel)) ggX9_size_X3_witnessOf
set_option maxRecDepth 20000 in
theorem ggX9_size_X3_seenSizeOf : GoodIn wsX9_size wsX3_seenSizeOf := goodIn_r _ [24, 25, 10, 11, 12, 13, 14, 15, 109, 110, 111, 112, 113] (by decide +kernel) (by decide +kernel)
set_option maxRecDepth 20000 in
theorem gX9_size_X3_seenSizeOf : GoodIn wsX9_size (wsV RX9 179 RX3 yX3_seenSizeOf wsX3_seenSizeOf) := goodIn_app (goodIn_of _ (by decide +kernel)) ggX9_size_X3_seenSizeOf
set_option maxRecDepth 20000 in
theorem ggX9_size_X9_spread : GoodIn wsX9_size wsX9_spread := goodIn_r _ [29, 2, 30, 1, 31, 32, 33, 34, 35, 36, 37, 38, 39, 40, 41, 42, 43, 44, 45, 46, 47, 48, 49, 50, 51, 52, 53, 54, 55, 56, 57, 58, 59, 60, 61, 62, 63, 64, 65, 66, 67, 6, 68, 69, 4, 5, 7, 8, 70, 71, 72, 73, 74, 75, 76, 77, 11, 78, 79, 80, 81, 82, 83, 84, 85, 86, 87, 88, 89, 90, 91, 92, 93, 94, 95, 96, 97, 98, 99, 100, 101, 102, 103, 104, 105, 106, 107, 108, 114, 115, 116, 117, 118, 119, 109, 110, 111, 112, 113, 120, 121, 122, 123, 124] (by decide +kernel) (by decide +kernel)
set_option maxRecDepth 20000 in
theorem gX9_size_X9_spread : GoodIn wsX9_size (wsV RX9 182 RX9 yX9_spread wsX9_spread) := goodIn_app (goodIn_of _ (by decide +kernel)) ggX9_size_X9_spread
set_option maxRecDepth 20000 in
theorem ggX9_size_X7_sizeAt : GoodIn wsX9_size wsX7_sizeAt := goodIn_r _ [83, 36, 42, 43, 34, 44, 114, 115] (by decide +kernel) (by decide +kernel)
set_option maxRecDepth 20000 in
theorem gX9_size_X7_sizeAt : GoodIn wsX9_size (wsV RX9 186 RX7 yX7_sizeAt wsX7_sizeAt) := goodIn_app (goodIn_of _ (by decide +kernel)) ggX9_size_X7_sizeAt
set_option maxRecDepth 20000 in
theorem ggX9_from_X3_has : GoodIn wsX9_from wsX3_has := goodIn_r _ [7, 8, 113, 114, 115, 116, 117] (by decide +kernel) (by decide +kernel)
set_option maxRecDepth 20000 in
theorem gX9_from_X3_has : GoodIn wsX9_from (wsV RX9 147 RX3 yX3_has wsX3_has) := goodIn_app (goodIn_of _ (by decide +kernel)) ggX9_from_X3_has
set_option maxRecDepth 20000 in
theorem ggX9_from_X9_isTale : GoodIn wsX9_from wsX9_isTale := goodIn_r _ [12, 13, 14, 11, 15] (by decide +kernel) (by decide +kernel)
set_option maxRecDepth 20000 in
theorem gX9_from_X9_isTale : GoodIn wsX9_from (va_wsS RX9 169 yX9_isTale wsX9_isTale) := goodIn_app (goodIn_of _ (by decide +kernel)) ggX9_from_X9_isTale
set_option maxRecDepth 20000 in
theorem ggX9_from_X3_witnessOf : GoodIn wsX9_from wsX3_witnessOf := goodIn_r _ [19, 20, 10, 11, 12, 13, 14, 15, 113, 114, 115, 116, 117] (by decide +kernel) (by decide +kernel)
set_option maxRecDepth 20000 in
theorem gX9_from_X3_witnessOf : GoodIn wsX9_from (wsV RX9 176 RX3 yX3_witnessOf wsX3_witnessOf) := goodIn_app (goodIn_of _ (by decide +kernel)) ggX9_from_X3_witnessOf
set_option maxRecDepth 20000 in
theorem ggX9_from_X3_seenSizeOf : GoodIn wsX9_from wsX3_seenSizeOf := goodIn_r _ [24, 25, 10, 11, 12, 13, 14, 15, 113, 114, 115, 116, 117] (by decide +kernel) (by decide +kernel)
set_option maxRecDepth 20000 in
theorem gX9_from_X3_seenSizeOf : GoodIn wsX9_from (wsV RX9 179 RX3 yX3_seenSizeOf wsX3_seenSizeOf) := goodIn_app (goodIn_of _ (by decide +kernel)) ggX9_from_X3_seenSizeOf
set_option maxRecDepth 20000 in
theorem ggX9_from_X9_spread : GoodIn wsX9_from wsX9_spread := goodIn_r _ [29, 2, 30, 1, 31, 32, 33, 34, 35, 36, 37, 38, 39, 40, 41, 42, 43, 44, 45, 46, 47, 48, 49, 50, 51, 52, 53, 54, 55, 56, 57, 58, 59, 60, 61, 62, 63, 64, 65, 66, 67, 6, 68, 69, 4, 5, 7, 8, 70, 71, 72, 73, 74, 75, 76, 77, 11, 78, 79, 80, 81, 82, 83, 84, 85, 86, 87, 88, 89, 90, 91, 92, 93, 94, 95, 96, 97, 102, 103, 104, 105, 106, 107, 108, 109, 110, 111, 112, 118, 119, 120, 121, 122, 123, 113, 114, 115, 116, 117, 124, 125, 126, 127, 128] (by decide +kernel) (by decide +kernel)
set_option maxRecDepth 20000 in
theorem gX9_from_X9_spread : GoodIn wsX9_from (wsV RX9 182 RX9 yX9_spread wsX9_spread) := goodIn_app (goodIn_of _ (by decide +kernel)) ggX9_from_X9_spread
set_option maxRecDepth 20000 in
theorem ggX9_from_X7_fromAt : GoodIn wsX9_from wsX7_fromAt := goodIn_r _ [101, 37, 42, 43, 34, 44, 118, 119] (by decide +kernel) (by decide +kernel)
set_option maxRecDepth 20000 in
theorem gX9_from_X7_fromAt : GoodIn wsX9_from (wsV RX9 189 RX7 yX7_fromAt wsX7_fromAt) := goodIn_app (goodIn_of _ (by decide +kernel)) ggX9_from_X7_fromAt
set_option maxRecDepth 20000 in
theorem ggX9_firsts_X9_isTale : GoodIn wsX9_firsts wsX9_isTale := goodIn_r _ [5, 6, 7, 4, 8] (by decide +kernel) (by decide +kernel)
set_option maxRecDepth 20000 in
theorem gX9_firsts_X9_isTale : GoodIn wsX9_firsts (va_wsS RX9 169 yX9_isTale wsX9_isTale) := goodIn_app (goodIn_of _ (by decide +kernel)) ggX9_firsts_X9_isTale
set_option maxRecDepth 20000 in
theorem ggX9_firsts_X3_has : GoodIn wsX9_firsts wsX3_has := goodIn_r _ [13, 14, 111, 112, 113, 114, 115] (by decide +kernel) (by decide +kernel)
set_option maxRecDepth 20000 in
theorem gX9_firsts_X3_has : GoodIn wsX9_firsts (wsV RX9 147 RX3 yX3_has wsX3_has) := goodIn_app (goodIn_of _ (by decide +kernel)) ggX9_firsts_X3_has
set_option maxRecDepth 20000 in
theorem ggX9_firsts_X9_isSize : GoodIn wsX9_firsts wsX9_isSize := goodIn_r _ [17, 6, 7, 4, 8] (by decide +kernel) (by decide +kernel)
set_option maxRecDepth 20000 in
theorem gX9_firsts_X9_isSize : GoodIn wsX9_firsts (va_wsS RX9 117 yX9_isSize wsX9_isSize) := goodIn_app (goodIn_of _ (by decide +kernel)) ggX9_firsts_X9_isSize
set_option maxRecDepth 20000 in
theorem ggX9_firsts_X9_isWithin : GoodIn wsX9_firsts wsX9_isWithin := goodIn_r _ [8] (by decide +kernel) (by decide +kernel)
set_option maxRecDepth 20000 in
theorem gX9_firsts_X9_isWithin : GoodIn wsX9_firsts (va_wsS RX9 127 yX9_isWithin wsX9_isWithin) := goodIn_app (goodIn_of _ (by decide +kernel)) ggX9_firsts_X9_isWithin
set_option maxRecDepth 20000 in
theorem ggX9_firsts_X3_witnessOf : GoodIn wsX9_firsts wsX3_witnessOf := goodIn_r _ [21, 22, 3, 4, 5, 6, 7, 8, 111, 112, 113, 114, 115] (by decide +kernel) (by decide +kernel)
set_option maxRecDepth 20000 in
theorem gX9_firsts_X3_witnessOf : GoodIn wsX9_firsts (wsV RX9 176 RX3 yX3_witnessOf wsX3_witnessOf) := goodIn_app (goodIn_of _ (by decide +kernel)) ggX9_firsts_X3_witnessOf
set_option maxRecDepth 20000 in
theorem ggX9_firsts_X9_firstsBelow : GoodIn wsX9_firsts wsX9_firstsBelow := goodIn_r _ [26, 27, 28, 29, 30, 4, 31, 32, 1, 33, 34, 35, 36, 37, 38, 39, 40, 41, 42, 43, 44, 45, 46, 47, 48, 49, 50, 51, 52, 53, 54, 55, 56, 57, 58, 59, 60, 61, 62, 63, 64, 65, 66, 67, 68, 69, 12, 70, 71, 10, 11, 13, 14, 72, 73, 74, 75, 76, 77, 78, 79, 80, 81, 82, 83, 84, 85, 86, 87, 88, 89, 90, 91, 92, 93, 94, 95, 96, 97, 98, 99, 100, 101, 102, 103, 104, 105, 106, 107, 108, 109, 110, 116, 117, 118, 119, 120, 121, 111, 112, 113, 114, 115, 122, 123, 124, 125, 126] (by decide +kernel) (by decide +kernel)
set_option maxRecDepth 20000 in
theorem gX9_firsts_X9_firstsBelow : GoodIn wsX9_firsts (wsV RX9 192 RX9 yX9_firstsBelow wsX9_firstsBelow) := goodIn_app (goodIn_of _ (by decide +kernel)) ggX9_firsts_X9_firstsBelow
set_option maxRecDepth 20000 in
theorem ggX9_modest_X9_isTale : GoodIn wsX9_modest wsX9_isTale := goodIn_r _ [6, 7, 8, 5, 9] (by decide +kernel) (by decide +kernel)
set_option maxRecDepth 20000 in
theorem gX9_modest_X9_isTale : GoodIn wsX9_modest (va_wsS RX9 169 yX9_isTale wsX9_isTale) := goodIn_app (goodIn_of _ (by decide +kernel)) ggX9_modest_X9_isTale
set_option maxRecDepth 20000 in
theorem ggX9_modest_X3_has : GoodIn wsX9_modest wsX3_has := goodIn_r _ [14, 15, 119, 120, 121, 122, 123] (by decide +kernel) (by decide +kernel)
set_option maxRecDepth 20000 in
theorem gX9_modest_X3_has : GoodIn wsX9_modest (wsV RX9 147 RX3 yX3_has wsX3_has) := goodIn_app (goodIn_of _ (by decide +kernel)) ggX9_modest_X3_has
set_option maxRecDepth 20000 in
theorem ggX9_modest_X9_isSize : GoodIn wsX9_modest wsX9_isSize := goodIn_r _ [18, 7, 8, 5, 9] (by decide +kernel) (by decide +kernel)
set_option maxRecDepth 20000 in
theorem gX9_modest_X9_isSize : GoodIn wsX9_modest (va_wsS RX9 117 yX9_isSize wsX9_isSize) := goodIn_app (goodIn_of _ (by decide +kernel)) ggX9_modest_X9_isSize
set_option maxRecDepth 20000 in
theorem ggX9_modest_X3_witnessOf : GoodIn wsX9_modest wsX3_witnessOf := goodIn_r _ [22, 23, 4, 5, 6, 7, 8, 9, 119, 120, 121, 122, 123] (by decide +kernel) (by decide +kernel)
set_option maxRecDepth 20000 in
theorem gX9_modest_X3_witnessOf : GoodIn wsX9_modest (wsV RX9 176 RX3 yX3_witnessOf wsX3_witnessOf) := goodIn_app (goodIn_of _ (by decide +kernel)) ggX9_modest_X3_witnessOf
set_option maxRecDepth 20000 in
theorem ggX9_modest_X3_people : GoodIn wsX9_modest wsX3_people := goodIn_r _ [27, 15, 119, 120, 121, 122, 123] (by decide +kernel) (by decide +kernel)
set_option maxRecDepth 20000 in
theorem gX9_modest_X3_people : GoodIn wsX9_modest (wsV RX9 195 RX3 yX3_people wsX3_people) := goodIn_app (goodIn_of _ (by decide +kernel)) ggX9_modest_X3_people
set_option maxRecDepth 20000 in
theorem ggX9_modest_X3_kindOf : GoodIn wsX9_modest wsX3_kindOf := goodIn_r _ [31, 32, 33, 11, 12, 13, 14, 15, 119, 120, 121, 122, 123] (by decide +kernel) (by decide +kernel)
set_option maxRecDepth 20000 in
theorem gX9_modest_X3_kindOf : GoodIn wsX9_modest (wsV RX9 148 RX3 yX3_kindOf wsX3_kindOf) := goodIn_app (goodIn_of _ (by decide +kernel)) ggX9_modest_X3_kindOf
set_option maxRecDepth 20000 in
theorem ggX9_modest_X9_isSuch : GoodIn wsX9_modest wsX9_isSuch := goodIn_r _ [36] (by decide +kernel) (by decide +kernel)
set_option maxRecDepth 20000 in
theorem gX9_modest_X9_isSuch : GoodIn wsX9_modest (va_wsS RX9 151 yX9_isSuch wsX9_isSuch) := goodIn_app (goodIn_of _ (by decide +kernel)) ggX9_modest_X9_isSuch
set_option maxRecDepth 20000 in
theorem ggX9_modest_X3_seenSizeOf : GoodIn wsX9_modest wsX3_seenSizeOf := goodIn_r _ [40, 41, 4, 5, 6, 7, 8, 9, 119, 120, 121, 122, 123] (by decide +kernel) (by decide +kernel)
set_option maxRecDepth 20000 in
theorem gX9_modest_X3_seenSizeOf : GoodIn wsX9_modest (wsV RX9 179 RX3 yX3_seenSizeOf wsX3_seenSizeOf) := goodIn_app (goodIn_of _ (by decide +kernel)) ggX9_modest_X3_seenSizeOf
set_option maxRecDepth 20000 in
theorem ggX9_modest_X9_spread : GoodIn wsX9_modest wsX9_spread := goodIn_r _ [45, 2, 46, 1, 47, 48, 49, 50, 51, 52, 53, 54, 55, 56, 57, 58, 59, 60, 61, 62, 63, 64, 65, 66, 67, 68, 69, 70, 71, 72, 73, 74, 75, 76, 77, 78, 79, 80, 81, 82, 83, 13, 84, 33, 11, 12, 14, 15, 28, 29, 30, 31, 32, 85, 86, 87, 5, 88, 89, 90, 91, 92, 93, 94, 95, 96, 97, 98, 99, 100, 101, 102, 103, 104, 105, 106, 107, 108, 109, 110, 111, 112, 113, 114, 115, 116, 117, 118, 124, 125, 126, 127, 128, 129, 119, 120, 121, 122, 123, 130, 131, 132, 133, 134] (by decide +kernel) (by decide +kernel)
set_option maxRecDepth 20000 in
theorem gX9_modest_X9_spread : GoodIn wsX9_modest (wsV RX9 182 RX9 yX9_spread wsX9_spread) := goodIn_app (goodIn_of _ (by decide +kernel)) ggX9_modest_X9_spread
set_option maxRecDepth 20000 in
theorem ggX9_modest_X7_sizeAt : GoodIn wsX9_modest wsX7_sizeAt := goodIn_r _ [93, 52, 58, 59, 50, 60, 124, 125] (by decide +kernel) (by decide +kernel)
set_option maxRecDepth 20000 in
theorem gX9_modest_X7_sizeAt : GoodIn wsX9_modest (wsV RX9 186 RX7 yX7_sizeAt wsX7_sizeAt) := goodIn_app (goodIn_of _ (by decide +kernel)) ggX9_modest_X7_sizeAt
set_option maxRecDepth 20000 in
theorem ggX9_one_X3_hasBoth : GoodIn wsX9_one wsX3_hasBoth := goodIn_r _ [13, 14, 15, 16, 12, 17, 18, 113, 114, 115, 116, 117] (by decide +kernel) (by decide +kernel)
set_option maxRecDepth 20000 in
theorem gX9_one_X3_hasBoth : GoodIn wsX9_one (wsV RX9 159 RX3 yX3_hasBoth wsX3_hasBoth) := goodIn_app (goodIn_of _ (by decide +kernel)) ggX9_one_X3_hasBoth
set_option maxRecDepth 20000 in
theorem ggX9_one_X9_isSize : GoodIn wsX9_one wsX9_isSize := goodIn_r _ [22, 23, 24, 21, 25] (by decide +kernel) (by decide +kernel)
set_option maxRecDepth 20000 in
theorem gX9_one_X9_isSize : GoodIn wsX9_one (va_wsS RX9 117 yX9_isSize wsX9_isSize) := goodIn_app (goodIn_of _ (by decide +kernel)) ggX9_one_X9_isSize
set_option maxRecDepth 20000 in
theorem ggX9_one_X3_people : GoodIn wsX9_one wsX3_people := goodIn_r _ [29, 18, 113, 114, 115, 116, 117] (by decide +kernel) (by decide +kernel)
set_option maxRecDepth 20000 in
theorem gX9_one_X3_people : GoodIn wsX9_one (wsV RX9 195 RX3 yX3_people wsX3_people) := goodIn_app (goodIn_of _ (by decide +kernel)) ggX9_one_X3_people
set_option maxRecDepth 20000 in
theorem ggX9_one_X9_firstsBelow : GoodIn wsX9_one wsX9_firstsBelow := goodIn_r _ [33, 34, 35, 36, 37, 21, 38, 39, 1, 40, 41, 42, 43, 44, 45, 46, 47, 48, 49, 50, 51, 52, 53, 54, 55, 56, 57, 58, 59, 60, 61, 62, 63, 64, 65, 66, 67, 68, 69, 70, 71, 72, 73, 9, 10, 11, 12, 13, 14, 15, 16, 17, 18, 74, 75, 76, 77, 78, 79, 80, 81, 82, 83, 84, 85, 86, 87, 88, 89, 90, 91, 92, 93, 94, 95, 96, 97, 98, 99, 100, 101, 102, 103, 104, 105, 106, 107, 108, 109, 110, 111, 112, 118, 119, 120, 121, 122, 123, 113, 114, 115, 116, 117, 124, 125, 126, 127, 128] (by decide +kernel) (by decide +kernel)
set_option maxRecDepth 20000 in
theorem gX9_one_X9_firstsBelow : GoodIn wsX9_one (wsV RX9 192 RX9 yX9_firstsBelow wsX9_firstsBelow) := goodIn_app (goodIn_of _ (by decide +kernel)) ggX9_one_X9_firstsBelow
set_option maxRecDepth 20000 in
theorem ggX9_ask_X3_has : GoodIn wsX9_ask wsX3_has := goodIn_r _ [7, 8, 123, 124, 125, 126, 127] (by decide +kernel) (by decide +kernel)
set_option maxRecDepth 20000 in
theorem gX9_ask_X3_has : GoodIn wsX9_ask (wsV RX9 147 RX3 yX3_has wsX3_has) := goodIn_app (goodIn_of _ (by decide +kernel)) ggX9_ask_X3_has
set_option maxRecDepth 20000 in
theorem ggX9_ask_X9_countAlike : GoodIn wsX9_ask wsX9_countAlike := goodIn_r _ [13, 2, 1, 14, 15, 16, 17, 18, 19, 20, 21, 22, 23, 24, 25, 26, 27, 28, 29, 12, 30, 31, 32, 33, 34, 35, 36, 37, 38, 39, 40, 41, 42, 43, 44, 45, 46, 47, 48, 49, 50, 51, 52, 53, 54, 55, 56, 57, 58, 59, 60, 61, 62, 63, 64, 65, 6, 66, 67, 4, 5, 7, 8, 68, 69, 70, 71, 72, 73, 74, 75, 76, 77, 78, 79, 80, 81, 82, 83, 84, 85, 86, 87, 88, 89, 90, 91, 92, 93, 94, 95, 96, 97, 98, 99, 100, 101, 102, 103, 104, 105, 106, 107, 112, 113, 114, 115, 116, 117, 118, 119, 120, 121, 122, 128, 129, 130, 131, 132, 133, 134, 135, 136, 123, 124, 125, 126, 127, 137, 138, 139, 140, 141] (by decide +kernel) (by decide +kernel)
set_option maxRecDepth 20000 in
theorem gX9_ask_X9_countAlike : GoodIn wsX9_ask (wsV RX9 206 RX9 yX9_countAlike wsX9_countAlike) := goodIn_app (goodIn_of _ (by decide +kernel)) ggX9_ask_X9_countAlike
set_option maxRecDepth 20000 in
theorem ggX9_ask_X3_people : GoodIn wsX9_ask wsX3_people := goodIn_r _ [99, 8, 123, 124, 125, 126, 127] (by decide +kernel) (by decide +kernel)
set_option maxRecDepth 20000 in
theorem gX9_ask_X3_people : GoodIn wsX9_ask (wsV RX9 195 RX3 yX3_people wsX3_people) := goodIn_app (goodIn_of _ (by decide +kernel)) ggX9_ask_X3_people
set_option maxRecDepth 20000 in
theorem ggX9_ask_X0_mostOf : GoodIn wsX9_ask wsX0_mostOf := goodIn_r _ [111, 22, 128, 129, 130] (by decide +kernel) (by decide +kernel)
set_option maxRecDepth 20000 in
theorem gX9_ask_X0_mostOf : GoodIn wsX9_ask (wsV RX9 210 RX0 yX0_mostOf wsX0_mostOf) := goodIn_app (goodIn_of _ (by decide +kernel)) ggX9_ask_X0_mostOf
set_option maxRecDepth 20000 in
theorem ggX9_chain_X3_has : GoodIn wsX9_chain wsX3_has := goodIn_r _ [8, 9, 97, 98, 99, 100, 101] (by decide +kernel) (by decide +kernel)
set_option maxRecDepth 20000 in
theorem gX9_chain_X3_has : GoodIn wsX9_chain (wsV RX9 147 RX3 yX3_has wsX3_has) := goodIn_app (goodIn_of _ (by decide +kernel)) ggX9_chain_X3_has
set_option maxRecDepth 20000 in
theorem ggX9_chain_X9_isSize : GoodIn wsX9_chain wsX9_isSize := goodIn_r _ [13, 14, 15, 12, 16] (by decide +kernel) (by decide +kernel)
set_option maxRecDepth 20000 in
theorem gX9_chain_X9_isSize : GoodIn wsX9_chain (va_wsS RX9 117 yX9_isSize wsX9_isSize) := goodIn_app (goodIn_of _ (by decide +kernel)) ggX9_chain_X9_isSize
set_option maxRecDepth 20000 in
theorem ggX9_chain_X9_isWithin : GoodIn wsX9_chain wsX9_isWithin := goodIn_r _ [16] (by decide +kernel) (by decide +kernel)
set_option maxRecDepth 20000 in
theorem gX9_chain_X9_isWithin : GoodIn wsX9_chain (va_wsS RX9 127 yX9_isWithin wsX9_isWithin) := goodIn_app (goodIn_of _ (by decide +kernel)) ggX9_chain_X9_isWithin
set_option maxRecDepth 20000 in
theorem ggX9_chain_X1_done : GoodIn wsX9_chain wsX1_done := goodIn_r _ [21, 22, 102, 103, 104, 105, 106, 107] (by decide +kernel) (by decide +kernel)
set_option maxRecDepth 20000 in
theorem gX9_chain_X1_done : GoodIn wsX9_chain (wsV RX9 213 RX1 yX1_done wsX1_done) := goodIn_app (goodIn_of _ (by decide +kernel)) ggX9_chain_X1_done
set_option maxRecDepth 20000 in
theorem ggX9_chain_X1_stateOf : GoodIn wsX9_chain wsX1_stateOf := goodIn_r _ [25] (by decide +kernel) (by decide +kernel)
set_option maxRecDepth 20000 in
theorem gX9_chain_X1_stateOf : GoodIn wsX9_chain (va_wsS RX9 216 yX1_stateOf wsX1_stateOf) := goodIn_app (goodIn_of _ (by decide +kernel)) ggX9_chain_X1_stateOf
set_option maxRecDepth 20000 in
theorem ggX9_chain_X1_search : GoodIn wsX9_chain wsX1_search := goodIn_r _ [29, 22, 30, 31, 32, 33, 34, 35, 36, 37, 38, 39, 40, 20, 41, 42, 43, 44, 45, 46, 47, 48, 49, 50, 51, 52, 53, 54, 7, 55, 56, 57, 5, 6, 8, 9, 58, 59, 60, 61, 62, 63, 64, 65, 66, 67, 68, 69, 70, 71, 72, 73, 74, 75, 76, 77, 24, 25, 102, 103, 104, 105, 106, 107, 97, 98, 99, 100, 101, 108, 109, 110, 111, 112] (by decide +kernel) (by decide +kernel)
set_option maxRecDepth 20000 in
theorem gX9_chain_X1_search : GoodIn wsX9_chain (wsV RX9 219 RX1 yX1_search wsX1_search) := goodIn_app (goodIn_of _ (by decide +kernel)) ggX9_chain_X1_search
set_option maxRecDepth 20000 in
theorem ggX9_chain_X1_fewest : GoodIn wsX9_chain wsX1_fewest := goodIn_r _ [81, 30, 102, 103, 104, 105, 106, 107] (by decide +kernel) (by decide +kernel)
set_option maxRecDepth 20000 in
theorem gX9_chain_X1_fewest : GoodIn wsX9_chain (wsV RX9 223 RX1 yX1_fewest wsX1_fewest) := goodIn_app (goodIn_of _ (by decide +kernel)) ggX9_chain_X1_fewest
set_option maxRecDepth 20000 in
theorem ggX9_chain_X1_toFirst : GoodIn wsX9_chain wsX1_toFirst := goodIn_r _ [85, 31, 102, 103, 104, 105, 106, 107] (by decide +kernel) (by decide +kernel)
set_option maxRecDepth 20000 in
theorem gX9_chain_X1_toFirst : GoodIn wsX9_chain (wsV RX9 226 RX1 yX1_toFirst wsX1_toFirst) := goodIn_app (goodIn_of _ (by decide +kernel)) ggX9_chain_X1_toFirst
set_option maxRecDepth 20000 in
theorem ggX9_chance_X9_isWithin : GoodIn wsX9_chance wsX9_isWithin := goodIn_r _ [7] (by decide +kernel) (by decide +kernel)
set_option maxRecDepth 20000 in
theorem gX9_chance_X9_isWithin : GoodIn wsX9_chance (va_wsS RX9 127 yX9_isWithin wsX9_isWithin) := goodIn_app (goodIn_of _ (by decide +kernel)) ggX9_chance_X9_isWithin
set_option maxRecDepth 20000 in
theorem ggX9_chance_X9_isSize : GoodIn wsX9_chance wsX9_isSize := goodIn_r _ [10, 4, 5, 6, 7] (by decide +kernel) (by decide +kernel)
set_option maxRecDepth 20000 in
theorem gX9_chance_X9_isSize : GoodIn wsX9_chance (va_wsS RX9 117 yX9_isSize wsX9_isSize) := goodIn_app (goodIn_of _ (by decide +kernel)) ggX9_chance_X9_isSize
set_option maxRecDepth 20000 in
theorem ggX9_chance_X5_weigh : GoodIn wsX9_chance wsX5_weigh := goodIn_r _ [15, 16, 17, 18, 19, 20, 21, 22, 23, 24, 25, 55, 56] (by decide +kernel) (by decide +kernel)
set_option maxRecDepth 20000 in
theorem gX9_chance_X5_weigh : GoodIn wsX9_chance (wsV RX9 231 RX5 yX5_weigh wsX5_weigh) := goodIn_app (goodIn_of _ (by decide +kernel)) ggX9_chance_X5_weigh
set_option maxRecDepth 20000 in
theorem ggX9_chance_X5_waysFrom : GoodIn wsX9_chance wsX5_waysFrom := goodIn_r _ [29, 20, 21, 30, 31, 32, 33, 34, 35, 55, 56, 57, 58, 59, 60, 61] (by decide +kernel) (by decide +kernel)
set_option maxRecDepth 20000 in
theorem gX9_chance_X5_waysFrom : GoodIn wsX9_chance (wsV RX9 235 RX5 yX5_waysFrom wsX5_waysFrom) := goodIn_app (goodIn_of _ (by decide +kernel)) ggX9_chance_X5_waysFrom
set_option maxRecDepth 20000 in
theorem ggX9_chance_X5_allWays : GoodIn wsX9_chance wsX5_allWays := goodIn_r _ [39, 20, 40, 55, 56] (by decide +kernel) (by decide +kernel)
