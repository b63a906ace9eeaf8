set_option maxRecDepth 20000 in
theorem ggX0_thickOf_X3_thickness : GoodIn wsX0_thickOf wsX3_thickness := goodIn_r _ [5] (by decide +kernel) (by decide +kernel)
set_option maxRecDepth 20000 in
theorem gX0_thickOf_X3_thickness_n52 : GoodIn wsX0_thickOf (wsX3_thickness) := ggX0_thickOf_X3_thickness
set_option maxRecDepth 20000 in
theorem ggX0_letsBetween_X0_hedgeOf : GoodIn wsX0_letsBetween wsX0_hedgeOf := goodIn_r _ [6, 7, 8, 9, 10, 11, 12, 13, 14, 18, 19, 20, 21, 22, 23, 24, 25] (by decide +kernel) (by decide +kernel)
set_option maxRecDepth 20000 in
theorem gX0_letsBetween_X0_hedgeOf : GoodIn wsX0_letsBetween (wsV RX0 55 RX0 yX0_hedgeOf wsX0_hedgeOf) := goodIn_app (goodIn_of _ (by decide +kernel)) ggX0_letsBetween_X0_hedgeOf
set_option maxRecDepth 20000 in
theorem ggX0_letsBetween_X3_lets : GoodIn wsX0_letsBetween wsX3_lets := goodIn_r _ [17] (by decide +kernel) (by decide +kernel)
set_option maxRecDepth 20000 in
theorem gX0_letsBetween_X3_lets_n58 : GoodIn wsX0_letsBetween (wsX3_lets) := ggX0_letsBetween_X3_lets
set_option maxRecDepth 20000 in
theorem ggX0_reads_X3_digit : GoodIn wsX0_reads wsX3_digit := goodIn_r _ [5] (by decide +kernel) (by decide +kernel)
set_option maxRecDepth 20000 in
theorem gX0_reads_X3_digit_n62 : GoodIn wsX0_reads (wsX3_digit) := ggX0_reads_X3_digit
set_option maxRecDepth 20000 in
theorem ggX0_reads_X0_hedges : GoodIn wsX0_reads wsX0_hedges := goodIn_r _ [10, 1, 22, 23, 24, 25, 26, 27, 28, 29] (by decide +kernel) (by decide +kernel)
set_option maxRecDepth 20000 in
theorem gX0_reads_X0_hedges : GoodIn wsX0_reads (wsV RX0 66 RX0 yX0_hedges wsX0_hedges) := goodIn_app (goodIn_of _ (by decide +kernel)) ggX0_reads_X0_hedges
set_option maxRecDepth 20000 in
theorem ggX0_reads_X0_readsGoer : GoodIn wsX0_reads wsX0_readsGoer := goodIn_r _ [14, 15, 16, 17, 1, 18, 19, 20, 9, 21, 3, 4, 5, 22, 23, 24, 25, 26, 27, 28, 29] (by decide +kernel) (by decide +kernel)
set_option maxRecDepth 20000 in
theorem gX0_reads_X0_readsGoer : GoodIn wsX0_reads (wsV RX0 70 RX0 yX0_readsGoer wsX0_readsGoer) := goodIn_app (goodIn_of _ (by decide +kernel)) ggX0_reads_X0_readsGoer
set_option maxRecDepth 20000 in
theorem ggX0_readsGoer_X0_kindOf : GoodIn wsX0_readsGoer wsX0_kindOf := goodIn_r _ [9] (by decide +kernel) (by decide +kernel)
set_option maxRecDepth 20000 in
theorem gX0_readsGoer_X0_kindOf : GoodIn wsX0_readsGoer (va_wsS RX0 74 yX0_kindOf wsX0_kindOf) := goodIn_app (goodIn_of _ (by decide +kernel)) ggX0_readsGoer_X0_kindOf
set_option maxRecDepth 20000 in
theorem ggX0_readsGoer_X3_digit : GoodIn wsX0_readsGoer wsX3_digit := goodIn_r _ [12] (by decide +kernel) (by decide +kernel)
set_option maxRecDepth 20000 in
theorem gX0_readsGoer_X3_digit_n62 : GoodIn wsX0_readsGoer (wsX3_digit) := ggX0_readsGoer_X3_digit
set_option maxRecDepth 20000 in
theorem ggX0_mayEndAt_X0_hedges : GoodIn wsX0_mayEndAt wsX0_hedges := goodIn_r _ [6, 7, 8, 9, 10, 11, 12, 13, 14, 15] (by decide +kernel) (by decide +kernel)
set_option maxRecDepth 20000 in
theorem gX0_mayEndAt_X0_hedges : GoodIn wsX0_mayEndAt (wsV RX0 66 RX0 yX0_hedges wsX0_hedges) := goodIn_app (goodIn_of _ (by decide +kernel)) ggX0_mayEndAt_X0_hedges
set_option maxRecDepth 20000 in
theorem ggX0_canMove_X0_thickOf : GoodIn wsX0_canMove wsX0_thickOf := goodIn_r _ [6, 7, 8, 9, 10, 11, 31, 32, 33, 34, 35, 36, 37, 38] (by decide +kernel) (by decide +kernel)
set_option maxRecDepth 20000 in
theorem gX0_canMove_X0_thickOf : GoodIn wsX0_canMove (wsV RX0 78 RX0 yX0_thickOf wsX0_thickOf) := goodIn_app (goodIn_of _ (by decide +kernel)) ggX0_canMove_X0_thickOf
set_option maxRecDepth 20000 in
theorem ggX0_canMove_X0_letsBetween : GoodIn wsX0_canMove wsX0_letsBetween := goodIn_r _ [15, 16, 17, 18, 19, 5, 20, 21, 22, 23, 24, 25, 26, 27, 28, 29, 10, 30, 31, 32, 33, 34, 35, 36, 37, 38] (by decide +kernel) (by decide +kernel)
set_option maxRecDepth 20000 in
theorem gX0_canMove_X0_letsBetween : GoodIn wsX0_canMove (wsV RX0 81 RX0 yX0_letsBetween wsX0_letsBetween) := goodIn_app (goodIn_of _ (by decide +kernel)) ggX0_canMove_X0_letsBetween
set_option maxRecDepth 20000 in
theorem ggX0_move_X0_hedgeOf : GoodIn wsX0_move wsX0_hedgeOf := goodIn_r _ [7, 8, 9, 10, 11, 12, 13, 14, 15, 16, 17, 18, 19, 20, 21, 22, 23] (by decide +kernel) (by decide +kernel)
set_option maxRecDepth 20000 in
theorem gX0_move_X0_hedgeOf : GoodIn wsX0_move (wsV RX0 55 RX0 yX0_hedgeOf wsX0_hedgeOf) := goodIn_app (goodIn_of _ (by decide +kernel)) ggX0_move_X0_hedgeOf
set_option maxRecDepth 20000 in
theorem ggX0_age_X0_hedges : GoodIn wsX0_age wsX0_hedges := goodIn_r _ [14, 15, 19, 20, 21, 22, 23, 24, 25, 26] (by decide +kernel) (by decide +kernel)
set_option maxRecDepth 20000 in
theorem gX0_age_X0_hedges : GoodIn wsX0_age (wsV RX0 66 RX0 yX0_hedges wsX0_hedges) := goodIn_app (goodIn_of _ (by decide +kernel)) ggX0_age_X0_hedges
set_option maxRecDepth 20000 in
theorem ggX0_age_X3_isIn : GoodIn wsX0_age wsX3_isIn := goodIn_r _ [18] (by decide +kernel) (by decide +kernel)
set_option maxRecDepth 20000 in
theorem gX0_age_X3_isIn_n84 : GoodIn wsX0_age (wsX3_isIn) := ggX0_age_X3_isIn
set_option maxRecDepth 20000 in
theorem ggX0_stopUp_X0_hedges : GoodIn wsX0_stopUp wsX0_hedges := goodIn_r _ [6, 7, 8, 9, 10, 11, 12, 13, 14, 15] (by decide +kernel) (by decide +kernel)
set_option maxRecDepth 20000 in
theorem gX0_stopUp_X0_hedges : GoodIn wsX0_stopUp (wsV RX0 66 RX0 yX0_hedges wsX0_hedges) := goodIn_app (goodIn_of _ (by decide +kernel)) ggX0_stopUp_X0_hedges
set_option maxRecDepth 20000 in
theorem ggX0_acts_X0_age : GoodIn wsX0_acts wsX0_age := goodIn_r _ [6, 7, 8, 9, 10, 11, 12, 13, 14, 15, 16, 17, 18, 5, 19, 1, 20, 21, 22, 54, 55, 56, 57, 58, 59, 60, 61] (by decide +kernel) (by decide +kernel)
set_option maxRecDepth 20000 in
theorem gX0_acts_X0_age : GoodIn wsX0_acts (wsV RX0 87 RX0 yX0_age wsX0_age) := goodIn_app (goodIn_of _ (by decide +kernel)) ggX0_acts_X0_age
set_option maxRecDepth 20000 in
theorem ggX0_acts_X0_stopUp : GoodIn wsX0_acts wsX0_stopUp := goodIn_r _ [26, 7, 16, 17, 18, 5, 19, 1, 54, 55, 56, 57, 58, 59, 60, 61] (by decide +kernel) (by decide +kernel)
set_option maxRecDepth 20000 in
theorem gX0_acts_X0_stopUp : GoodIn wsX0_acts (wsV RX0 91 RX0 yX0_stopUp wsX0_stopUp) := goodIn_app (goodIn_of _ (by decide +kernel)) ggX0_acts_X0_stopUp
set_option maxRecDepth 20000 in
theorem ggX0_acts_X0_canMove : GoodIn wsX0_acts wsX0_canMove := goodIn_r _ [30, 31, 32, 33, 34, 5, 35, 36, 37, 38, 21, 39, 40, 41, 42, 43, 7, 44, 45, 46, 47, 9, 10, 11, 12, 13, 14, 15, 1, 48, 49, 54, 55, 56, 57, 58, 59, 60, 61] (by decide +kernel) (by decide +kernel)
set_option maxRecDepth 20000 in
theorem gX0_acts_X0_canMove : GoodIn wsX0_acts (wsV RX0 95 RX0 yX0_canMove wsX0_canMove) := goodIn_app (goodIn_of _ (by decide +kernel)) ggX0_acts_X0_canMove
set_option maxRecDepth 20000 in
theorem ggX0_acts_X0_move : GoodIn wsX0_acts wsX0_move := goodIn_r _ [53, 8, 31, 44, 45, 46, 5, 47, 9, 10, 11, 12, 13, 14, 15, 1, 54, 55, 56, 57, 58, 59, 60, 61] (by decide +kernel) (by decide +kernel)
set_option maxRecDepth 20000 in
theorem gX0_acts_X0_move : GoodIn wsX0_acts (wsV RX0 98 RX0 yX0_move wsX0_move) := goodIn_app (goodIn_of _ (by decide +kernel)) ggX0_acts_X0_move
set_option maxRecDepth 20000 in
theorem ggX0_openHoles_X0_hedges : GoodIn wsX0_openHoles wsX0_hedges := goodIn_r _ [6, 7, 8, 9, 10, 11, 12, 13, 14, 15] (by decide +kernel) (by decide +kernel)
set_option maxRecDepth 20000 in
theorem gX0_openHoles_X0_hedges : GoodIn wsX0_openHoles (wsV RX0 66 RX0 yX0_hedges wsX0_hedges) := goodIn_app (goodIn_of _ (by decide +kernel)) ggX0_openHoles_X0_hedges
set_option maxRecDepth 20000 in
theorem ggX0_reachOf_X3_isIn : GoodIn wsX0_reachOf wsX3_isIn := goodIn_r _ [4] (by decide +kernel) (by decide +kernel)
set_option maxRecDepth 20000 in
theorem gX0_reachOf_X3_isIn_n84 : GoodIn wsX0_reachOf (wsX3_isIn) := ggX0_reachOf_X3_isIn
set_option maxRecDepth 20000 in
theorem ggX0_reachOf_X0_letsBetween : GoodIn wsX0_reachOf wsX0_letsBetween := goodIn_r _ [9, 10, 11, 12, 13, 8, 14, 15, 16, 17, 18, 19, 20, 21, 1, 22, 3, 23, 24, 25, 26, 27, 28, 29, 30, 31] (by decide +kernel) (by decide +kernel)
set_option maxRecDepth 20000 in
theorem gX0_reachOf_X0_letsBetween : GoodIn wsX0_reachOf (wsV RX0 81 RX0 yX0_letsBetween wsX0_letsBetween) := goodIn_app (goodIn_of _ (by decide +kernel)) ggX0_reachOf_X0_letsBetween
set_option maxRecDepth 20000 in
theorem ggX0_comersTo_X0_thickOf : GoodIn wsX0_comersTo wsX0_thickOf := goodIn_r _ [7, 8, 9, 10, 11, 12, 38, 39, 40, 41, 42, 43, 44, 45] (by decide +kernel) (by decide +kernel)
set_option maxRecDepth 20000 in
theorem gX0_comersTo_X0_thickOf : GoodIn wsX0_comersTo (wsV RX0 78 RX0 yX0_thickOf wsX0_thickOf) := goodIn_app (goodIn_of _ (by decide +kernel)) ggX0_comersTo_X0_thickOf
set_option maxRecDepth 20000 in
theorem ggX0_comersTo_X0_reachOf : GoodIn wsX0_comersTo wsX0_reachOf := goodIn_r _ [16, 17, 18, 11, 19, 20, 21, 22, 6, 23, 24, 25, 26, 27, 28, 29, 30, 31, 32, 33, 34, 35, 36, 37, 38, 39, 40, 41, 42, 43, 44, 45] (by decide +kernel) (by decide +kernel)
set_option maxRecDepth 20000 in
theorem gX0_comersTo_X0_reachOf : GoodIn wsX0_comersTo (wsV RX0 102 RX0 yX0_reachOf wsX0_reachOf) := goodIn_app (goodIn_of _ (by decide +kernel)) ggX0_comersTo_X0_reachOf
set_option maxRecDepth 20000 in
theorem ggX0_comersTo_X3_isIn : GoodIn wsX0_comersTo wsX3_isIn := goodIn_r _ [19] (by decide +kernel) (by decide +kernel)
set_option maxRecDepth 20000 in
theorem gX0_comersTo_X3_isIn_n84 : GoodIn wsX0_comersTo (wsX3_isIn) := ggX0_comersTo_X3_isIn
set_option maxRecDepth 20000 in
theorem ggX0_measureTo_X0_hedgeOf : GoodIn wsX0_measureTo wsX0_hedgeOf := goodIn_r _ [12, 4, 5, 6, 7, 13, 14, 15, 1, 23, 24, 25, 26, 27, 28, 29, 30] (by decide +kernel) (by decide +kernel)
set_option maxRecDepth 20000 in
theorem gX0_measureTo_X0_hedgeOf : GoodIn wsX0_measureTo (wsV RX0 55 RX0 yX0_hedgeOf wsX0_hedgeOf) := goodIn_app (goodIn_of _ (by decide +kernel)) ggX0_measureTo_X0_hedgeOf
set_option maxRecDepth 20000 in
theorem ggX0_measureTo_X0_letsBetween : GoodIn wsX0_measureTo wsX0_letsBetween := goodIn_r _ [19, 3, 8, 9, 10, 11, 12, 4, 5, 6, 7, 13, 14, 15, 1, 20, 21, 22, 23, 24, 25, 26, 27, 28, 29, 30] (by decide +kernel) (by decide +kernel)
set_option maxRecDepth 20000 in
theorem gX0_measureTo_X0_letsBetween : GoodIn wsX0_measureTo (wsV RX0 81 RX0 yX0_letsBetween wsX0_letsBetween) := goodIn_app (goodIn_of _ (by decide +kernel)) ggX0_measureTo_X0_letsBetween
set_option maxRecDepth 20000 in
theorem ggX0_fieldOnWay_X0_thickOf : GoodIn wsX0_fieldOnWay wsX0_thickOf := goodIn_r _ [6, 7, 8, 9, 10, 11, 36, 37, 38, 39, 40, 41, 42, 43] (by decide +kernel) (by decide +kernel)
set_option maxRecDepth 20000 in
theorem gX0_fieldOnWay_X0_thickOf : GoodIn wsX0_fieldOnWay (wsV RX0 78 RX0 yX0_thickOf wsX0_thickOf) := goodIn_app (goodIn_of _ (by decide +kernel)) ggX0_fieldOnWay_X0_thickOf
set_option maxRecDepth 20000 in
theorem ggX0_fieldOnWay_X0_nearerThan : GoodIn wsX0_fieldOnWay wsX0_nearerThan := goodIn_r _ [15, 16, 17, 18, 19, 20, 5, 21, 22, 23, 24, 25, 26, 27, 28, 29, 30, 31, 32, 33, 34, 10, 35, 36, 37, 38, 39, 40, 41, 42, 43] (by decide +kernel) (by decide +kernel)
set_option maxRecDepth 20000 in
theorem gX0_fieldOnWay_X0_nearerThan : GoodIn wsX0_fieldOnWay (wsV RX0 105 RX0 yX0_nearerThan wsX0_nearerThan) := goodIn_app (goodIn_of _ (by decide +kernel)) ggX0_fieldOnWay_X0_nearerThan
set_option maxRecDepth 20000 in
theorem ggX0_nearerThan_X0_letsBetween : GoodIn wsX0_nearerThan wsX0_letsBetween := goodIn_r _ [7, 8, 9, 10, 11, 6, 12, 13, 14, 15, 16, 17, 18, 19, 1, 20, 21, 22, 23, 24, 25, 26, 27, 28, 29, 30] (by decide +kernel) (by decide +kernel)
set_option maxRecDepth 20000 in
theorem gX0_nearerThan_X0_letsBetween : GoodIn wsX0_nearerThan (wsV RX0 81 RX0 yX0_letsBetween wsX0_letsBetween) := goodIn_app (goodIn_of _ (by decide +kernel)) ggX0_nearerThan_X0_letsBetween
set_option maxRecDepth 20000 in
theorem ggX0_fewestToShut_X3_isIn : GoodIn wsX0_fewestToShut wsX3_isIn := goodIn_r _ [5] (by decide +kernel) (by decide +kernel)
set_option maxRecDepth 20000 in
theorem gX0_fewestToShut_X3_isIn_n84 : GoodIn wsX0_fewestToShut (wsX3_isIn) := ggX0_fewestToShut_X3_isIn
set_option maxRecDepth 20000 in
theorem ggX0_fewestToShut_X0_thickOf : GoodIn wsX0_fewestToShut wsX0_thickOf := goodIn_r _ [10, 11, 12, 13, 4, 14, 47, 48, 49, 50, 51, 52, 53, 54] (by decide +kernel) (by decide +kernel)
set_option maxRecDepth 20000 in
theorem gX0_fewestToShut_X0_thickOf : GoodIn wsX0_fewestToShut (wsV RX0 78 RX0 yX0_thickOf wsX0_thickOf) := goodIn_app (goodIn_of _ (by decide +kernel)) ggX0_fewestToShut_X0_thickOf
set_option maxRecDepth 20000 in
theorem ggX0_fewestToShut_X0_fittedAround : GoodIn wsX0_fewestToShut wsX0_fittedAround := goodIn_r _ [18, 1, 3, 4, 5, 19, 20, 21, 9, 22, 23, 24, 25, 26, 27, 28, 29, 30, 31, 32, 33, 34, 35, 36, 47, 48, 49, 50, 51, 52, 53, 54] (by decide +kernel) (by decide +kernel)
set_option maxRecDepth 20000 in
theorem gX0_fewestToShut_X0_fittedAround : GoodIn wsX0_fewestToShut (wsV RX0 108 RX0 yX0_fittedAround wsX0_fittedAround) := goodIn_app (goodIn_of _ (by decide +kernel)) ggX0_fewestToShut_X0_fittedAround
set_option maxRecDepth 20000 in
theorem ggX0_fewestToShut_X0_isFewer : GoodIn wsX0_fewestToShut wsX0_isFewer := goodIn_r _ [39, 40, 41, 42, 43, 44, 45, 46] (by decide +kernel) (by decide +kernel)
set_option maxRecDepth 20000 in
theorem gX0_fewestToShut_X0_isFewer : GoodIn wsX0_fewestToShut (va_wsS RX0 111 yX0_isFewer wsX0_isFewer) := goodIn_app (goodIn_of _ (by decide +kernel)) ggX0_fewestToShut_X0_isFewer
set_option maxRecDepth 20000 in
theorem ggX0_fittedAround_X3_isIn : GoodIn wsX0_fittedAround wsX3_isIn := goodIn_r _ [4] (by decide +kernel) (by decide +kernel)
set_option maxRecDepth 20000 in
theorem gX0_fittedAround_X3_isIn_n84 : GoodIn wsX0_fittedAround (wsX3_isIn) := ggX0_fittedAround_X3_isIn
set_option maxRecDepth 20000 in
theorem ggX0_fittedAround_X0_letsBetween : GoodIn wsX0_fittedAround wsX0_letsBetween := goodIn_r _ [9, 10, 11, 12, 13, 8, 14, 15, 16, 17, 18, 19, 20, 21, 1, 22, 3, 23, 24, 25, 26, 27, 28, 29, 30, 31] (by decide +kernel) (by decide +kernel)
set_option maxRecDepth 20000 in
theorem gX0_fittedAround_X0_letsBetween : GoodIn wsX0_fittedAround (wsV RX0 81 RX0 yX0_letsBetween wsX0_letsBetween) := goodIn_app (goodIn_of _ (by decide +kernel)) ggX0_fittedAround_X0_letsBetween
set_option maxRecDepth 20000 in
theorem ggX0_fittedAround_X0_hedgeOf : GoodIn wsX0_fittedAround wsX0_hedgeOf := goodIn_r _ [14, 15, 16, 17, 18, 19, 20, 21, 1, 24, 25, 26, 27, 28, 29, 30, 31] (by decide +kernel) (by decide +kernel)
set_option maxRecDepth 20000 in
theorem gX0_fittedAround_X0_hedgeOf : GoodIn wsX0_fittedAround (wsV RX0 55 RX0 yX0_hedgeOf wsX0_hedgeOf) := goodIn_app (goodIn_of _ (by decide +kernel)) ggX0_fittedAround_X0_hedgeOf
set_option maxRecDepth 20000 in
theorem ggX0_isFewer_J6_bitCount_0f7a4 : GoodIn wsX0_isFewer wsJ6_bitCount_0f7a4 := goodIn_r _ [4, 5, 6, 7] (by decide +kernel) (by decide +kernel)
set_option maxRecDepth 20000 in
theorem gX0_isFewer_J6_bitCount_0f7a4 : GoodIn wsX0_isFewer (va_wsS RX0 114 yJ6_bitCount_0f7a4 wsJ6_bitCount_0f7a4) := goodIn_app (goodIn_of _ (by decide +kernel)) ggX0_isFewer_J6_bitCount_0f7a4
set_option maxRecDepth 20000 in
theorem ggX1_agrees_X0_thickOf : GoodIn wsX1_agrees wsX0_thickOf := goodIn_r _ [10, 11, 12, 13, 14, 15, 22, 23, 24, 25, 26, 27, 28, 29] (by decide +kernel) (by decide +kernel)
set_option maxRecDepth 20000 in
theorem gX1_agrees_X0_thickOf : GoodIn wsX1_agrees (wsV RX1 31 RX0 yX0_thickOf wsX0_thickOf) := goodIn_app (goodIn_of _ (by decide +kernel)) ggX1_agrees_X0_thickOf
set_option maxRecDepth 20000 in
theorem ggX1_agrees_X3_lets : GoodIn wsX1_agrees wsX3_lets := goodIn_r _ [17] (by decide +kernel) (by decide +kernel)
set_option maxRecDepth 20000 in
theorem gX1_agrees_X3_lets_n35 : GoodIn wsX1_agrees (wsX3_lets) := ggX1_agrees_X3_lets
set_option maxRecDepth 20000 in
theorem ggX2_begin_J7_fill_53178 : GoodIn wsX2_begin wsJ7_fill_53178 := goodIn_r _ [8] (by decide +kernel) (by decide +kernel)
set_option maxRecDepth 20000 in
theorem gX2_begin_J7_fill_53178 : GoodIn wsX2_begin (va_wsS RX2 26 yJ7_fill_53178 wsJ7_fill_53178) := goodIn_app (goodIn_of _ (by decide +kernel)) ggX2_begin_J7_fill_53178
set_option maxRecDepth 20000 in
theorem ggX3_init_X0_init : GoodIn wsX3_init wsX0_init := goodIn_r _ [23, 24, 2, 3, 25, 26, 27, 28, 29, 30, 31, 32, 33, 59, 60, 61, 62, 63, 64, 65, 66] (by decide +kernel) (by decide +kernel)
set_option maxRecDepth 20000 in
theorem gX3_init_X0_init : GoodIn wsX3_init (wsX0_init) := ggX3_init_X0_init
set_option maxRecDepth 20000 in
theorem ggX3_init_X1_init : GoodIn wsX3_init wsX1_init := goodIn_r _ [36, 37, 2, 3, 28, 38, 39, 40, 41, 42, 67, 68, 69, 70] (by decide +kernel) (by decide +kernel)
set_option maxRecDepth 20000 in
theorem gX3_init_X1_init : GoodIn wsX3_init (wsX1_init) := ggX3_init_X1_init
set_option maxRecDepth 20000 in
theorem ggX3_init_X2_init : GoodIn wsX3_init wsX2_init := goodIn_r _ [45, 46, 2, 3, 28, 47, 48, 49, 50, 71, 72, 73, 74] (by decide +kernel) (by decide +kernel)
set_option maxRecDepth 20000 in
theorem gX3_init_X2_init : GoodIn wsX3_init (wsX2_init) := ggX3_init_X2_init
set_option maxRecDepth 20000 in
theorem ggX3_county_X3_isSheet : GoodIn wsX3_county wsX3_isSheet := goodIn_r _ [13] (by decide +kernel) (by decide +kernel)
set_option maxRecDepth 20000 in
theorem gX3_county_X3_isSheet : GoodIn wsX3_county (va_wsS RX3 48 yX3_isSheet wsX3_isSheet) := goodIn_app (goodIn_of _ (by decide +kernel)) ggX3_county_X3_isSheet
set_option maxRecDepth 20000 in
theorem ggX3_county_X3_isLane : GoodIn wsX3_county wsX3_isLane := goodIn_r _ [16] (by decide +kernel) (by decide +kernel)
set_option maxRecDepth 20000 in
theorem gX3_county_X3_isLane : GoodIn wsX3_county (va_wsS RX3 52 yX3_isLane wsX3_isLane) := goodIn_app (goodIn_of _ (by decide +kernel)) ggX3_county_X3_isLane
set_option maxRecDepth 20000 in
theorem ggX3_county_X2_faultAs : GoodIn wsX3_county wsX2_faultAs := goodIn_r _ [21, 22, 23, 99, 100, 101, 102] (by decide +kernel) (by decide +kernel)
set_option maxRecDepth 20000 in
theorem gX3_county_X2_faultAs : GoodIn wsX3_county (wsV RX3 55 RX2 yX2_faultAs wsX2_faultAs) := goodIn_app (goodIn_of _ (by decide +kernel)) ggX3_county_X2_faultAs
set_option maxRecDepth 20000 in
theorem ggX3_county_X2_spans : GoodIn wsX3_county wsX2_spans := goodIn_r _ [27, 28, 99, 100, 101, 102] (by decide +kernel) (by decide +kernel)
set_option maxRecDepth 20000 in
theorem gX3_county_X2_spans : GoodIn wsX3_county (wsV RX3 59 RX2 yX2_spans wsX2_spans) := goodIn_app (goodIn_of _ (by decide +kernel)) ggX3_county_X2_spans
set_option maxRecDepth 20000 in
theorem ggX3_county_X3_failed : GoodIn wsX3_county wsX3_failed := goodIn_r _ [32, 1, 79, 80, 81, 82, 83, 84, 85, 86] (by decide +kernel) (by decide +kernel)
set_option maxRecDepth 20000 in
theorem gX3_county_X3_failed : GoodIn wsX3_county (wsV RX3 63 RX3 yX3_failed wsX3_failed) := goodIn_app (goodIn_of _ (by decide +kernel)) ggX3_county_X3_failed
set_option maxRecDepth 20000 in
theorem ggX3_county_X3_firstFaultOfText : GoodIn wsX3_county wsX3_firstFaultOfText := goodIn_r _ [36, 4, 37, 38, 39, 40, 41, 42, 43, 44, 45, 46, 47, 48, 49, 50, 51, 12, 52, 53, 54, 55, 56, 57, 58, 59, 60, 61, 62, 63, 64, 65, 66, 67, 68, 69, 70, 79, 80, 81, 82, 83, 84, 85, 86, 99, 100, 101, 102, 91, 92, 93, 94, 95, 96, 97, 98] (by decide +kernel) (by decide +kernel)
set_option maxRecDepth 20000 in
theorem gX3_county_X3_firstFaultOfText : GoodIn wsX3_county (wsV RX3 66 RX3 yX3_firstFaultOfText wsX3_firstFaultOfText) := goodIn_app (goodIn_of _ (by decide +kernel)) ggX3_county_X3_firstFaultOfText
set_option maxRecDepth 20000 in
theorem ggX3_county_X0_become : GoodIn wsX3_county wsX0_become := goodIn_r _ [74, 43, 44, 45, 50, 75, 76, 77, 78, 61, 62, 63, 91, 92, 93, 94, 95, 96, 97, 98] (by decide +kernel) (by decide +kernel)
set_option maxRecDepth 20000 in
theorem gX3_county_X0_become : GoodIn wsX3_county (wsV RX3 70 RX0 yX0_become wsX0_become) := goodIn_app (goodIn_of _ (by decide +kernel)) ggX3_county_X0_become
set_option maxRecDepth 20000 in
theorem ggX3_ofGoer_X3_isGoer : GoodIn wsX3_ofGoer wsX3_isGoer := goodIn_r _ [9, 1, 10, 20, 21, 22, 23, 24, 25, 26, 27, 28, 29, 30, 31, 32, 33, 34, 35] (by decide +kernel) (by decide +kernel)
set_option maxRecDepth 20000 in
theorem gX3_ofGoer_X3_isGoer : GoodIn wsX3_ofGoer (wsV RX3 80 RX3 yX3_isGoer wsX3_isGoer) := goodIn_app (goodIn_of _ (by decide +kernel)) ggX3_ofGoer_X3_isGoer
set_option maxRecDepth 20000 in
theorem ggX3_ofGoer_X0_thickOf : GoodIn wsX3_ofGoer wsX0_thickOf := goodIn_r _ [15, 16, 17, 18, 8, 19, 28, 29, 30, 31, 32, 33, 34, 35] (by decide +kernel) (by decide +kernel)
set_option maxRecDepth 20000 in
theorem gX3_ofGoer_X0_thickOf : GoodIn wsX3_ofGoer (wsV RX3 90 RX0 yX0_thickOf wsX0_thickOf) := goodIn_app (goodIn_of _ (by decide +kernel)) ggX3_ofGoer_X0_thickOf
set_option maxRecDepth 20000 in
theorem ggX3_hole_X3_areTwoFields : GoodIn wsX3_hole wsX3_areTwoFields := goodIn_r _ [8, 9, 10, 11, 7, 12, 1, 13, 30, 31, 32, 33, 34, 35, 36, 37, 38, 39, 40, 41, 42, 43, 44, 45] (by decide +kernel) (by decide +kernel)
set_option maxRecDepth 20000 in
theorem gX3_hole_X3_areTwoFields : GoodIn wsX3_hole (wsV RX3 96 RX3 yX3_areTwoFields wsX3_areTwoFields) := goodIn_app (goodIn_of _ (by decide +kernel)) ggX3_hole_X3_areTwoFields
set_option maxRecDepth 20000 in
theorem ggX3_hole_X0_hedgeOf : GoodIn wsX3_hole wsX0_hedgeOf := goodIn_r _ [18, 19, 20, 21, 22, 23, 24, 25, 26, 38, 39, 40, 41, 42, 43, 44, 45] (by decide +kernel) (by decide +kernel)
set_option maxRecDepth 20000 in
theorem gX3_hole_X0_hedgeOf : GoodIn wsX3_hole (wsV RX3 99 RX0 yX0_hedgeOf wsX0_hedgeOf) := goodIn_app (goodIn_of _ (by decide +kernel)) ggX3_hole_X0_hedgeOf
set_option maxRecDepth 20000 in
theorem ggX3_hole_X3_isIn : GoodIn wsX3_hole wsX3_isIn := goodIn_r _ [29] (by decide +kernel) (by decide +kernel)
set_option maxRecDepth 20000 in
theorem gX3_hole_X3_isIn : GoodIn wsX3_hole (va_wsS RX3 109 yX3_isIn wsX3_isIn) := goodIn_app (goodIn_of _ (by decide +kernel)) ggX3_hole_X3_isIn
set_option maxRecDepth 20000 in
theorem ggX3_hoop_X3_areTwoFields : GoodIn wsX3_hoop wsX3_areTwoFields := goodIn_r _ [8, 9, 10, 11, 7, 12, 1, 13, 27, 28, 29, 30, 31, 32, 33, 34, 35, 36, 37, 38, 39, 40, 41, 42] (by decide +kernel) (by decide +kernel)
set_option maxRecDepth 20000 in
theorem gX3_hoop_X3_areTwoFields : GoodIn wsX3_hoop (wsV RX3 96 RX3 yX3_areTwoFields wsX3_areTwoFields) := goodIn_app (goodIn_of _ (by decide +kernel)) ggX3_hoop_X3_areTwoFields
set_option maxRecDepth 20000 in
theorem ggX3_hoop_X0_hedgeOf : GoodIn wsX3_hoop wsX0_hedgeOf := goodIn_r _ [18, 19, 20, 21, 22, 23, 24, 25, 26, 35, 36, 37, 38, 39, 40, 41, 42] (by decide +kernel) (by decide +kernel)
set_option maxRecDepth 20000 in
theorem gX3_hoop_X0_hedgeOf : GoodIn wsX3_hoop (wsV RX3 99 RX0 yX0_hedgeOf wsX0_hedgeOf) := goodIn_app (goodIn_of _ (by decide +kernel)) ggX3_hoop_X0_hedgeOf
set_option maxRecDepth 20000 in
theorem ggX3_fatten_X3_isGoer : GoodIn wsX3_fatten wsX3_isGoer := goodIn_r _ [7, 1, 8, 9, 10, 11, 12, 13, 14, 15, 16, 17, 18, 19, 20, 21, 22, 23, 24] (by decide +kernel) (by decide +kernel)
set_option maxRecDepth 20000 in
theorem gX3_fatten_X3_isGoer : GoodIn wsX3_fatten (wsV RX3 80 RX3 yX3_isGoer wsX3_isGoer) := goodIn_app (goodIn_of _ (by decide +kernel)) ggX3_fatten_X3_isGoer
set_option maxRecDepth 20000 in
theorem ggX3_go_X3_isGoer : GoodIn wsX3_go wsX3_isGoer := goodIn_r _ [9, 1, 10, 56, 57, 58, 59, 60, 61, 62, 63, 64, 65, 66, 67, 68, 69, 70, 71] (by decide +kernel) (by decide +kernel)
set_option maxRecDepth 20000 in
theorem gX3_go_X3_isGoer : GoodIn wsX3_go (wsV RX3 80 RX3 yX3_isGoer wsX3_isGoer) := goodIn_app (goodIn_of _ (by decide +kernel)) ggX3_go_X3_isGoer
set_option maxRecDepth 20000 in
theorem ggX3_go_X3_isField : GoodIn wsX3_go wsX3_isField := goodIn_r _ [14, 1, 15, 56, 57, 58, 59, 60, 61, 62, 63, 64, 65, 66, 67, 68, 69, 70, 71] (by decide +kernel) (by decide +kernel)
set_option maxRecDepth 20000 in
theorem gX3_go_X3_isField : GoodIn wsX3_go (wsV RX3 112 RX3 yX3_isField wsX3_isField) := goodIn_app (goodIn_of _ (by decide +kernel)) ggX3_go_X3_isField
set_option maxRecDepth 20000 in
theorem ggX3_go_X0_canMove : GoodIn wsX3_go wsX0_canMove := goodIn_r _ [20, 21, 22, 23, 24, 19, 25, 26, 27, 28, 8, 29, 30, 31, 32, 33, 34, 35, 36, 37, 38, 39, 40, 41, 42, 43, 44, 45, 46, 47, 48, 64, 65, 66, 67, 68, 69, 70, 71] (by decide +kernel) (by decide +kernel)
set_option maxRecDepth 20000 in
theorem gX3_go_X0_canMove : GoodIn wsX3_go (wsV RX3 115 RX0 yX0_canMove wsX0_canMove) := goodIn_app (goodIn_of _ (by decide +kernel)) ggX3_go_X0_canMove
set_option maxRecDepth 20000 in
theorem ggX3_go_X0_hedgeOf : GoodIn wsX3_go wsX0_hedgeOf := goodIn_r _ [38, 39, 40, 41, 42, 43, 44, 45, 46, 64, 65, 66, 67, 68, 69, 70, 71] (by decide +kernel) (by decide +kernel)
set_option maxRecDepth 20000 in
theorem gX3_go_X0_hedgeOf : GoodIn wsX3_go (wsV RX3 99 RX0 yX0_hedgeOf wsX0_hedgeOf) := goodIn_app (goodIn_of _ (by decide +kernel)) ggX3_go_X0_hedgeOf
set_option maxRecDepth 20000 in
theorem ggX3_go_X0_thickOf : GoodIn wsX3_go wsX0_thickOf := goodIn_r _ [25, 26, 27, 28, 8, 29, 64, 65, 66, 67, 68, 69, 70, 71] (by decide +kernel) (by decide +kernel)
set_option maxRecDepth 20000 in
theorem gX3_go_X0_thickOf : GoodIn wsX3_go (wsV RX3 90 RX0 yX0_thickOf wsX0_thickOf) := goodIn_app (goodIn_of _ (by decide +kernel)) ggX3_go_X0_thickOf
set_option maxRecDepth 20000 in
theorem ggX3_go_X0_move : GoodIn wsX3_go wsX0_move := goodIn_r _ [54, 55, 21, 35, 36, 37, 19, 38, 39, 40, 41, 42, 43, 44, 45, 46, 64, 65, 66, 67, 68, 69, 70, 71] (by decide +kernel) (by decide +kernel)
set_option maxRecDepth 20000 in
theorem gX3_go_X0_move : GoodIn wsX3_go (wsV RX3 118 RX0 yX0_move wsX0_move) := goodIn_app (goodIn_of _ (by decide +kernel)) ggX3_go_X0_move
set_option maxRecDepth 20000 in
theorem ggX3_years_X3_hasCounty : GoodIn wsX3_years wsX3_hasCounty := goodIn_r _ [7, 1, 8, 34, 35, 36, 37, 38, 39, 40, 41, 42, 43, 44, 45, 46, 47, 48, 49] (by decide +kernel) (by decide +kernel)
set_option maxRecDepth 20000 in
theorem gX3_years_X3_hasCounty : GoodIn wsX3_years (wsV RX3 122 RX3 yX3_hasCounty wsX3_hasCounty) := goodIn_app (goodIn_of _ (by decide +kernel)) ggX3_years_X3_hasCounty
set_option maxRecDepth 20000 in
theorem ggX3_years_X0_age : GoodIn wsX3_years wsX0_age := goodIn_r _ [13, 14, 15, 16, 17, 18, 19, 20, 21, 22, 23, 24, 25, 12, 26, 27, 28, 6, 29, 42, 43, 44, 45, 46, 47, 48, 49] (by decide +kernel) (by decide +kernel)
set_option maxRecDepth 20000 in
theorem gX3_years_X0_age : GoodIn wsX3_years (wsV RX3 126 RX0 yX0_age wsX0_age) := goodIn_app (goodIn_of _ (by decide +kernel)) ggX3_years_X0_age
set_option maxRecDepth 20000 in
theorem ggX3_years_X0_openHoles : GoodIn wsX3_years wsX0_openHoles := goodIn_r _ [33, 14, 23, 24, 25, 12, 26, 27, 42, 43, 44, 45, 46, 47, 48, 49] (by decide +kernel) (by decide +kernel)
set_option maxRecDepth 20000 in
theorem gX3_years_X0_openHoles : GoodIn wsX3_years (wsV RX3 130 RX0 yX0_openHoles wsX0_openHoles) := goodIn_app (goodIn_of _ (by decide +kernel)) ggX3_years_X0_openHoles
set_option maxRecDepth 20000 in
theorem ggX3_stop_X3_areTwoFields : GoodIn wsX3_stop wsX3_areTwoFields := goodIn_r _ [7, 8, 9, 10, 6, 11, 1, 12, 35, 36, 37, 38, 39, 40, 41, 42, 43, 44, 45, 46, 47, 48, 49, 50] (by decide +kernel) (by decide +kernel)
set_option maxRecDepth 20000 in
theorem gX3_stop_X3_areTwoFields : GoodIn wsX3_stop (wsV RX3 96 RX3 yX3_areTwoFields wsX3_areTwoFields) := goodIn_app (goodIn_of _ (by decide +kernel)) ggX3_stop_X3_areTwoFields
set_option maxRecDepth 20000 in
theorem ggX3_stop_X0_hedgeOf : GoodIn wsX3_stop wsX0_hedgeOf := goodIn_r _ [17, 18, 19, 20, 21, 22, 23, 24, 25, 43, 44, 45, 46, 47, 48, 49, 50] (by decide +kernel) (by decide +kernel)
set_option maxRecDepth 20000 in
theorem gX3_stop_X0_hedgeOf : GoodIn wsX3_stop (wsV RX3 99 RX0 yX0_hedgeOf wsX0_hedgeOf) := goodIn_app (goodIn_of _ (by decide +kernel)) ggX3_stop_X0_hedgeOf
set_option maxRecDepth 20000 in
theorem ggX3_stop_X0_stopUp : GoodIn wsX3_stop wsX0_stopUp := goodIn_r _ [29, 30, 31, 32, 33, 16, 34, 25, 43, 44, 45, 46, 47, 48, 49, 50] (by decide +kernel) (by decide +kernel)
set_option maxRecDepth 20000 in
theorem gX3_stop_X0_stopUp : GoodIn wsX3_stop (wsV RX3 134 RX0 yX0_stopUp wsX0_stopUp) := goodIn_app (goodIn_of _ (by decide +kernel)) ggX3_stop_X0_stopUp
set_option maxRecDepth 20000 in
theorem ggX3_season_X3_isSheet : GoodIn wsX3_season wsX3_isSheet := goodIn_r _ [6] (by decide +kernel) (by decide +kernel)
set_option maxRecDepth 20000 in
theorem gX3_season_X3_isSheet : GoodIn wsX3_season (va_wsS RX3 48 yX3_isSheet wsX3_isSheet) := goodIn_app (goodIn_of _ (by decide +kernel)) ggX3_season_X3_isSheet
set_option maxRecDepth 20000 in
theorem ggX3_season_X3_isLane : GoodIn wsX3_season wsX3_isLane := goodIn_r _ [9] (by decide +kernel) (by decide +kernel)
set_option maxRecDepth 20000 in
theorem gX3_season_X3_isLane : GoodIn wsX3_season (va_wsS RX3 52 yX3_isLane wsX3_isLane) := goodIn_app (goodIn_of _ (by decide +kernel)) ggX3_season_X3_isLane
set_option maxRecDepth 20000 in
theorem ggX3_season_X3_isAskedOfSeason : GoodIn wsX3_season wsX3_isAskedOfSeason := goodIn_r _ [12] (by decide +kernel) (by decide +kernel)
set_option maxRecDepth 20000 in
theorem gX3_season_X3_isAskedOfSeason : GoodIn wsX3_season (va_wsS RX3 137 yX3_isAskedOfSeason wsX3_isAskedOfSeason) := goodIn_app (goodIn_of _ (by decide +kernel)) ggX3_season_X3_isAskedOfSeason
set_option maxRecDepth 20000 in
theorem ggX3_season_X2_faultAs : GoodIn wsX3_season wsX2_faultAs := goodIn_r _ [17, 18, 19, 140, 141, 142, 143] (by decide +kernel) (by decide +kernel)
set_option maxRecDepth 20000 in
theorem gX3_season_X2_faultAs : GoodIn wsX3_season (wsV RX3 55 RX2 yX2_faultAs wsX2_faultAs) := goodIn_app (goodIn_of _ (by decide +kernel)) ggX3_season_X2_faultAs
set_option maxRecDepth 20000 in
theorem ggX3_season_X2_spans : GoodIn wsX3_season wsX2_spans := goodIn_r _ [23, 24, 140, 141, 142, 143] (by decide +kernel) (by decide +kernel)
set_option maxRecDepth 20000 in
theorem gX3_season_X2_spans : GoodIn wsX3_season (wsV RX3 59 RX2 yX2_spans wsX2_spans) := goodIn_app (goodIn_of _ (by decide +kernel)) ggX3_season_X2_spans
set_option maxRecDepth 20000 in
theorem ggX3_season_X3_failed : GoodIn wsX3_season wsX3_failed := goodIn_r _ [28, 1, 132, 133, 134, 135, 136, 137, 138, 139] (by decide +kernel) (by decide +kernel)
set_option maxRecDepth 20000 in
theorem gX3_season_X3_failed : GoodIn wsX3_season (wsV RX3 63 RX3 yX3_failed wsX3_failed) := goodIn_app (goodIn_of _ (by decide +kernel)) ggX3_season_X3_failed
set_option maxRecDepth 20000 in
theorem ggX3_season_X3_hasCounty : GoodIn wsX3_season wsX3_hasCounty := goodIn_r _ [32, 33, 34, 132, 133, 134, 135, 136, 137, 138, 139, 144, 145, 146, 147, 148, 149, 150, 151] (by decide +kernel) (by decide +kernel)
set_option maxRecDepth 20000 in
theorem gX3_season_X3_hasCounty : GoodIn wsX3_season (wsV RX3 122 RX3 yX3_hasCounty wsX3_hasCounty) := goodIn_app (goodIn_of _ (by decide +kernel)) ggX3_season_X3_hasCounty
set_option maxRecDepth 20000 in
theorem ggX3_season_X3_refusalOfPairs : GoodIn wsX3_season wsX3_refusalOfPairs := goodIn_r _ [38, 39, 40, 41, 42, 5, 43, 33, 44, 140, 141, 142, 143, 132, 133, 134, 135, 136, 137, 138, 139, 144, 145, 146, 147, 148, 149, 150, 151] (by decide +kernel) (by decide +kernel)
set_option maxRecDepth 20000 in
theorem gX3_season_X3_refusalOfPairs : GoodIn wsX3_season (wsV RX3 140 RX3 yX3_refusalOfPairs wsX3_refusalOfPairs) := goodIn_app (goodIn_of _ (by decide +kernel)) ggX3_season_X3_refusalOfPairs
set_option maxRecDepth 20000 in
theorem ggX3_season_X3_firstWrongOfSeason : GoodIn wsX3_season wsX3_firstWrongOfSeason := goodIn_r _ [48, 49, 33, 39, 50, 51, 52, 53, 54, 55, 56, 57, 58, 59, 60, 61, 62, 63, 64, 65, 66, 67, 68, 69, 70, 71, 72, 73, 74, 75, 76, 77, 78, 79, 80, 81, 82, 83, 84, 85, 5, 86, 87, 88, 89, 90, 91, 92, 93, 94, 95, 96, 97, 98, 99, 100, 101, 102, 103, 104, 105, 106, 107, 108, 109, 110, 111, 112, 113, 114, 132, 133, 134, 135, 136, 137, 138, 139, 140, 141, 142, 143, 144, 145, 146, 147, 148, 149, 150, 151] (by decide +kernel) (by decide +kernel)
set_option maxRecDepth 20000 in
theorem gX3_season_X3_firstWrongOfSeason : GoodIn wsX3_season (wsV RX3 143 RX3 yX3_firstWrongOfSeason wsX3_firstWrongOfSeason) := goodIn_app (goodIn_of _ (by decide +kernel)) ggX3_season_X3_firstWrongOfSeason
set_option maxRecDepth 20000 in
theorem ggX3_season_X3_goingsTold : GoodIn wsX3_season wsX3_goingsTold := goodIn_r _ [117, 39, 140, 141, 142, 143] (by decide +kernel) (by decide +kernel)
set_option maxRecDepth 20000 in
theorem gX3_season_X3_goingsTold : GoodIn wsX3_season (va_wsS RX3 146 yX3_goingsTold wsX3_goingsTold) := goodIn_app (goodIn_of _ (by decide +kernel)) ggX3_season_X3_goingsTold
set_option maxRecDepth 20000 in
theorem ggX3_season_X3_ofTrial : GoodIn wsX3_season wsX3_ofTrial := goodIn_r _ [121, 49, 122, 123, 124, 125, 126, 53, 127, 58, 81, 82, 83, 84, 55, 128, 129, 130, 131, 56, 65, 40, 41, 42, 5, 43, 33, 44, 132, 133, 134, 135, 136, 137, 138, 139, 144, 145, 146, 147, 148, 149, 150, 151] (by decide +kernel) (by decide +kernel)
set_option maxRecDepth 20000 in
theorem gX3_season_X3_ofTrial : GoodIn wsX3_season (wsV RX3 149 RX3 yX3_ofTrial wsX3_ofTrial) := goodIn_app (goodIn_of _ (by decide +kernel)) ggX3_season_X3_ofTrial
set_option maxRecDepth 20000 in
theorem ggX3_widest_X3_areTwoFields : GoodIn wsX3_widest wsX3_areTwoFields := goodIn_r _ [6, 7, 8, 9, 5, 10, 1, 11, 39, 40, 41, 42, 43, 44, 45, 46, 47, 48, 49, 50, 51, 52, 53, 54] (by decide +kernel) (by decide +kernel)
set_option maxRecDepth 20000 in
theorem gX3_widest_X3_areTwoFields : GoodIn wsX3_widest (wsV RX3 96 RX3 yX3_areTwoFields wsX3_areTwoFields) := goodIn_app (goodIn_of _ (by decide +kernel)) ggX3_widest_X3_areTwoFields
set_option maxRecDepth 20000 in
theorem ggX3_widest_X0_reachOf : GoodIn wsX3_widest wsX0_reachOf := goodIn_r _ [16, 17, 18, 5, 19, 20, 21, 22, 15, 23, 24, 25, 26, 27, 28, 29, 30, 31, 32, 33, 34, 35, 36, 37, 47, 48, 49, 50, 51, 52, 53, 54] (by decide +kernel) (by decide +kernel)
set_option maxRecDepth 20000 in
theorem gX3_widest_X0_reachOf : GoodIn wsX3_widest (wsV RX3 152 RX0 yX0_reachOf wsX0_reachOf) := goodIn_app (goodIn_of _ (by decide +kernel)) ggX3_widest_X0_reachOf
set_option maxRecDepth 20000 in
theorem ggX3_widest_X3_isIn : GoodIn wsX3_widest wsX3_isIn := goodIn_r _ [19] (by decide +kernel) (by decide +kernel)
set_option maxRecDepth 20000 in
theorem gX3_widest_X3_isIn : GoodIn wsX3_widest (va_wsS RX3 109 yX3_isIn wsX3_isIn) := goodIn_app (goodIn_of _ (by decide +kernel)) ggX3_widest_X3_isIn
set_option maxRecDepth 20000 in
theorem ggX3_way_X3_isGoer : GoodIn wsX3_way wsX3_isGoer := goodIn_r _ [8, 1, 9, 58, 59, 60, 61, 62, 63, 64, 65, 66, 67, 68, 69, 70, 71, 72, 73] (by decide +kernel) (by decide +kernel)
set_option maxRecDepth 20000 in
theorem gX3_way_X3_isGoer : GoodIn wsX3_way (wsV RX3 80 RX3 yX3_isGoer wsX3_isGoer) := goodIn_app (goodIn_of _ (by decide +kernel)) ggX3_way_X3_isGoer
set_option maxRecDepth 20000 in
theorem ggX3_way_X3_isField : GoodIn wsX3_way wsX3_isField := goodIn_r _ [13, 1, 14, 58, 59, 60, 61, 62, 63, 64, 65, 66, 67, 68, 69, 70, 71, 72, 73] (by decide +kernel) (by decide +kernel)
set_option maxRecDepth 20000 in
theorem gX3_way_X3_isField : GoodIn wsX3_way (wsV RX3 112 RX3 yX3_isField wsX3_isField) := goodIn_app (goodIn_of _ (by decide +kernel)) ggX3_way_X3_isField
set_option maxRecDepth 20000 in
theorem ggX3_way_X0_thickOf : GoodIn wsX3_way wsX0_thickOf := goodIn_r _ [19, 20, 21, 22, 7, 23, 66, 67, 68, 69, 70, 71, 72, 73] (by decide +kernel) (by decide +kernel)
set_option maxRecDepth 20000 in
theorem gX3_way_X0_thickOf : GoodIn wsX3_way (wsV RX3 90 RX0 yX0_thickOf wsX0_thickOf) := goodIn_app (goodIn_of _ (by decide +kernel)) ggX3_way_X0_thickOf
set_option maxRecDepth 20000 in
theorem ggX3_way_X0_measureTo : GoodIn wsX3_way wsX0_measureTo := goodIn_r _ [27, 28, 29, 30, 31, 32, 33, 34, 35, 36, 37, 18, 38, 39, 40, 41, 42, 43, 44, 45, 46, 7, 47, 66, 67, 68, 69, 70, 71, 72, 73] (by decide +kernel) (by decide +kernel)
set_option maxRecDepth 20000 in
theorem gX3_way_X0_measureTo : GoodIn wsX3_way (wsV RX3 155 RX0 yX0_measureTo wsX0_measureTo) := goodIn_app (goodIn_of _ (by decide +kernel)) ggX3_way_X0_measureTo
set_option maxRecDepth 20000 in
theorem ggX3_way_X0_fieldOnWay : GoodIn wsX3_way wsX0_fieldOnWay := goodIn_r _ [51, 52, 53, 16, 17, 18, 19, 20, 21, 22, 7, 23, 54, 55, 56, 57, 28, 29, 42, 43, 44, 45, 30, 35, 36, 37, 38, 31, 32, 33, 34, 39, 40, 41, 46, 47, 66, 67, 68, 69, 70, 71, 72, 73] (by decide +kernel) (by decide +kernel)
set_option maxRecDepth 20000 in
theorem gX3_way_X0_fieldOnWay : GoodIn wsX3_way (wsV RX3 162 RX0 yX0_fieldOnWay wsX0_fieldOnWay) := goodIn_app (goodIn_of _ (by decide +kernel)) ggX3_way_X0_fieldOnWay
set_option maxRecDepth 20000 in
theorem ggX3_market_X3_hasCounty : GoodIn wsX3_market wsX3_hasCounty := goodIn_r _ [7, 1, 2, 55, 56, 57, 58, 59, 60, 61, 62, 63, 64, 65, 66, 67, 68, 69, 70] (by decide +kernel) (by decide +kernel)
set_option maxRecDepth 20000 in
theorem gX3_market_X3_hasCounty : GoodIn wsX3_market (wsV RX3 122 RX3 yX3_hasCounty wsX3_hasCounty) := goodIn_app (goodIn_of _ (by decide +kernel)) ggX3_market_X3_hasCounty
set_option maxRecDepth 20000 in
theorem ggX3_market_X0_comersTo : GoodIn wsX3_market wsX0_comersTo := goodIn_r _ [12, 13, 14, 15, 16, 17, 11, 18, 19, 20, 21, 6, 22, 23, 24, 25, 26, 27, 28, 29, 30, 31, 32, 33, 34, 35, 36, 37, 38, 39, 40, 41, 42, 43, 44, 45, 46, 47, 63, 64, 65, 66, 67, 68, 69, 70] (by decide +kernel) (by decide +kernel)
set_option maxRecDepth 20000 in
theorem gX3_market_X0_comersTo : GoodIn wsX3_market (wsV RX3 165 RX0 yX0_comersTo wsX0_comersTo) := goodIn_app (goodIn_of _ (by decide +kernel)) ggX3_market_X0_comersTo
set_option maxRecDepth 20000 in
theorem ggX3_market_J6_bitCount_0f7a4 : GoodIn wsX3_market wsJ6_bitCount_0f7a4 := goodIn_r _ [51, 52, 53, 54] (by decide +kernel) (by decide +kernel)
set_option maxRecDepth 20000 in
theorem gX3_market_J6_bitCount_0f7a4 : GoodIn wsX3_market (va_wsS RX3 171 yJ6_bitCount_0f7a4 wsJ6_bitCount_0f7a4) := goodIn_app (goodIn_of _ (by decide +kernel)) ggX3_market_J6_bitCount_0f7a4
set_option maxRecDepth 20000 in
theorem ggX3_widen_X3_isGoer : GoodIn wsX3_widen wsX3_isGoer := goodIn_r _ [8, 1, 9, 48, 49, 50, 51, 52, 53, 54, 55, 56, 57, 58, 59, 60, 61, 62, 63] (by decide +kernel) (by decide +kernel)
set_option maxRecDepth 20000 in
theorem gX3_widen_X3_isGoer : GoodIn wsX3_widen (wsV RX3 80 RX3 yX3_isGoer wsX3_isGoer) := goodIn_app (goodIn_of _ (by decide +kernel)) ggX3_widen_X3_isGoer
set_option maxRecDepth 20000 in
theorem ggX3_widen_X3_isField : GoodIn wsX3_widen wsX3_isField := goodIn_r _ [13, 1, 14, 48, 49, 50, 51, 52, 53, 54, 55, 56, 57, 58, 59, 60, 61, 62, 63] (by decide +kernel) (by decide +kernel)
set_option maxRecDepth 20000 in
theorem gX3_widen_X3_isField : GoodIn wsX3_widen (wsV RX3 112 RX3 yX3_isField wsX3_isField) := goodIn_app (goodIn_of _ (by decide +kernel)) ggX3_widen_X3_isField
set_option maxRecDepth 20000 in
theorem ggX3_widen_X0_thickOf : GoodIn wsX3_widen wsX0_thickOf := goodIn_r _ [19, 20, 21, 22, 7, 23, 56, 57, 58, 59, 60, 61, 62, 63] (by decide +kernel) (by decide +kernel)
set_option maxRecDepth 20000 in
theorem gX3_widen_X0_thickOf : GoodIn wsX3_widen (wsV RX3 90 RX0 yX0_thickOf wsX0_thickOf) := goodIn_app (goodIn_of _ (by decide +kernel)) ggX3_widen_X0_thickOf
set_option maxRecDepth 20000 in
theorem ggX3_widen_X0_measureTo : GoodIn wsX3_widen wsX0_measureTo := goodIn_r _ [27, 28, 29, 30, 31, 32, 33, 34, 35, 36, 37, 18, 38, 39, 40, 41, 42, 43, 44, 45, 46, 7, 47, 56, 57, 58, 59, 60, 61, 62, 63] (by decide +kernel) (by decide +kernel)
set_option maxRecDepth 20000 in
theorem gX3_widen_X0_measureTo : GoodIn wsX3_widen (wsV RX3 155 RX0 yX0_measureTo wsX0_measureTo) := goodIn_app (goodIn_of _ (by decide +kernel)) ggX3_widen_X0_measureTo
set_option maxRecDepth 20000 in
theorem ggX3_keep_X3_isGoer : GoodIn wsX3_keep wsX3_isGoer := goodIn_r _ [7, 1, 8, 63, 64, 65, 66, 67, 68, 69, 70, 71, 72, 73, 74, 75, 76, 77, 78] (by decide +kernel) (by decide +kernel)
set_option maxRecDepth 20000 in
theorem gX3_keep_X3_isGoer : GoodIn wsX3_keep (wsV RX3 80 RX3 yX3_isGoer wsX3_isGoer) := goodIn_app (goodIn_of _ (by decide +kernel)) ggX3_keep_X3_isGoer
set_option maxRecDepth 20000 in
theorem ggX3_keep_X3_isField : GoodIn wsX3_keep wsX3_isField := goodIn_r _ [12, 1, 13, 63, 64, 65, 66, 67, 68, 69, 70, 71, 72, 73, 74, 75, 76, 77, 78] (by decide +kernel) (by decide +kernel)
set_option maxRecDepth 20000 in
theorem gX3_keep_X3_isField : GoodIn wsX3_keep (wsV RX3 112 RX3 yX3_isField wsX3_isField) := goodIn_app (goodIn_of _ (by decide +kernel)) ggX3_keep_X3_isField
set_option maxRecDepth 20000 in
theorem ggX3_keep_X0_fewestToShut : GoodIn wsX3_keep wsX0_fewestToShut := goodIn_r _ [18, 19, 20, 21, 6, 22, 23, 24, 25, 17, 26, 27, 28, 29, 30, 31, 32, 33, 34, 35, 36, 37, 38, 39, 40, 41, 42, 43, 44, 45, 46, 47, 48, 49, 50, 51, 52, 53, 54, 55, 56, 57, 58, 59, 60, 61, 62, 71, 72, 73, 74, 75, 76, 77, 78] (by decide +kernel) (by decide +kernel)
set_option maxRecDepth 20000 in
theorem gX3_keep_X0_fewestToShut : GoodIn wsX3_keep (wsV RX3 176 RX0 yX0_fewestToShut wsX0_fewestToShut) := goodIn_app (goodIn_of _ (by decide +kernel)) ggX3_keep_X0_fewestToShut
set_option maxRecDepth 20000 in
theorem ggX3_reading_X3_isGoer : GoodIn wsX3_reading wsX3_isGoer := goodIn_r _ [8, 3, 9, 41, 42, 43, 44, 45, 46, 47, 48, 53, 54, 55, 56, 57, 58, 59, 60] (by decide +kernel) (by decide +kernel)
set_option maxRecDepth 20000 in
theorem gX3_reading_X3_isGoer : GoodIn wsX3_reading (wsV RX3 80 RX3 yX3_isGoer wsX3_isGoer) := goodIn_app (goodIn_of _ (by decide +kernel)) ggX3_reading_X3_isGoer
set_option maxRecDepth 20000 in
theorem ggX3_reading_X3_areTwoFields : GoodIn wsX3_reading wsX3_areTwoFields := goodIn_r _ [13, 14, 15, 16, 7, 17, 3, 18, 41, 42, 43, 44, 45, 46, 47, 48, 53, 54, 55, 56, 57, 58, 59, 60] (by decide +kernel) (by decide +kernel)
set_option maxRecDepth 20000 in
theorem gX3_reading_X3_areTwoFields : GoodIn wsX3_reading (wsV RX3 96 RX3 yX3_areTwoFields wsX3_areTwoFields) := goodIn_app (goodIn_of _ (by decide +kernel)) ggX3_reading_X3_areTwoFields
set_option maxRecDepth 20000 in
theorem ggX3_reading_X0_hedgeOf : GoodIn wsX3_reading wsX0_hedgeOf := goodIn_r _ [23, 24, 25, 26, 27, 28, 29, 30, 31, 53, 54, 55, 56, 57, 58, 59, 60] (by decide +kernel) (by decide +kernel)
set_option maxRecDepth 20000 in
theorem gX3_reading_X0_hedgeOf : GoodIn wsX3_reading (wsV RX3 99 RX0 yX0_hedgeOf wsX0_hedgeOf) := goodIn_app (goodIn_of _ (by decide +kernel)) ggX3_reading_X0_hedgeOf
set_option maxRecDepth 20000 in
theorem ggX3_reading_X1_write : GoodIn wsX3_reading wsX1_write := goodIn_r _ [36, 37, 38, 39, 40, 49, 50, 51, 52] (by decide +kernel) (by decide +kernel)
set_option maxRecDepth 20000 in
theorem gX3_reading_X1_write : GoodIn wsX3_reading (wsV RX3 179 RX1 yX1_write wsX1_write) := goodIn_app (goodIn_of _ (by decide +kernel)) ggX3_reading_X1_write
set_option maxRecDepth 20000 in
theorem ggX3_girths_X3_isGoer : GoodIn wsX3_girths wsX3_isGoer := goodIn_r _ [9, 2, 10, 45, 46, 47, 48, 49, 50, 51, 52, 53, 54, 55, 56, 57, 58, 59, 60] (by decide +kernel) (by decide +kernel)
set_option maxRecDepth 20000 in
theorem gX3_girths_X3_isGoer : GoodIn wsX3_girths (wsV RX3 80 RX3 yX3_isGoer wsX3_isGoer) := goodIn_app (goodIn_of _ (by decide +kernel)) ggX3_girths_X3_isGoer
set_option maxRecDepth 20000 in
theorem ggX3_girths_X0_become : GoodIn wsX3_girths wsX0_become := goodIn_r _ [15, 16, 17, 18, 19, 20, 21, 22, 23, 24, 25, 26, 53, 54, 55, 56, 57, 58, 59, 60] (by decide +kernel) (by decide +kernel)
set_option maxRecDepth 20000 in
theorem gX3_girths_X0_become : GoodIn wsX3_girths (wsV RX3 70 RX0 yX0_become wsX0_become) := goodIn_app (goodIn_of _ (by decide +kernel)) ggX3_girths_X0_become
set_option maxRecDepth 20000 in
theorem ggX3_girths_X1_agrees : GoodIn wsX3_girths wsX1_agrees := goodIn_r _ [31, 32, 33, 34, 35, 36, 37, 38, 39, 14, 40, 24, 25, 41, 8, 42, 43, 44, 61, 62, 63, 64, 53, 54, 55, 56, 57, 58, 59, 60] (by decide +kernel) (by decide +kernel)
set_option maxRecDepth 20000 in
theorem gX3_girths_X1_agrees : GoodIn wsX3_girths (wsV RX3 183 RX1 yX1_agrees wsX1_agrees) := goodIn_app (goodIn_of _ (by decide +kernel)) ggX3_girths_X1_agrees
set_option maxRecDepth 20000 in
theorem ggX3_kinds_X3_isGoer : GoodIn wsX3_kinds wsX3_isGoer := goodIn_r _ [9, 2, 10, 45, 46, 47, 48, 49, 50, 51, 52, 53, 54, 55, 56, 57, 58, 59, 60] (by decide +kernel) (by decide +kernel)
set_option maxRecDepth 20000 in
theorem gX3_kinds_X3_isGoer : GoodIn wsX3_kinds (wsV RX3 80 RX3 yX3_isGoer wsX3_isGoer) := goodIn_app (goodIn_of _ (by decide +kernel)) ggX3_kinds_X3_isGoer
set_option maxRecDepth 20000 in
theorem ggX3_kinds_X0_become : GoodIn wsX3_kinds wsX0_become := goodIn_r _ [15, 16, 17, 18, 19, 20, 21, 22, 23, 24, 25, 26, 53, 54, 55, 56, 57, 58, 59, 60] (by decide +kernel) (by decide +kernel)
set_option maxRecDepth 20000 in
theorem gX3_kinds_X0_become : GoodIn wsX3_kinds (wsV RX3 70 RX0 yX0_become wsX0_become) := goodIn_app (goodIn_of _ (by decide +kernel)) ggX3_kinds_X0_become
set_option maxRecDepth 20000 in
theorem ggX3_kinds_X1_agrees : GoodIn wsX3_kinds wsX1_agrees := goodIn_r _ [31, 32, 33, 34, 35, 36, 37, 38, 39, 14, 40, 24, 25, 41, 8, 42, 43, 44, 61, 62, 63, 64, 53, 54, 55, 56, 57, 58, 59, 60] (by decide +kernel) (by decide +kernel)
set_option maxRecDepth 20000 in
theorem gX3_kinds_X1_agrees : GoodIn wsX3_kinds (wsV RX3 183 RX1 yX1_agrees wsX1_agrees) := goodIn_app (goodIn_of _ (by decide +kernel)) ggX3_kinds_X1_agrees
set_option maxRecDepth 20000 in
theorem ggX3_holes_X3_areTwoFields : GoodIn wsX3_holes wsX3_areTwoFields := goodIn_r _ [9, 10, 11, 12, 8, 13, 2, 14, 60, 61, 62, 63, 64, 65, 66, 67, 68, 69, 70, 71, 72, 73, 74, 75] (by decide +kernel) (by decide +kernel)
set_option maxRecDepth 20000 in
theorem gX3_holes_X3_areTwoFields : GoodIn wsX3_holes (wsV RX3 96 RX3 yX3_areTwoFields wsX3_areTwoFields) := goodIn_app (goodIn_of _ (by decide +kernel)) ggX3_holes_X3_areTwoFields
set_option maxRecDepth 20000 in
theorem ggX3_holes_X0_become : GoodIn wsX3_holes wsX0_become := goodIn_r _ [19, 20, 21, 22, 23, 24, 25, 26, 27, 28, 29, 30, 68, 69, 70, 71, 72, 73, 74, 75] (by decide +kernel) (by decide +kernel)
set_option maxRecDepth 20000 in
theorem gX3_holes_X0_become : GoodIn wsX3_holes (wsV RX3 70 RX0 yX0_become wsX0_become) := goodIn_app (goodIn_of _ (by decide +kernel)) ggX3_holes_X0_become
set_option maxRecDepth 20000 in
theorem ggX3_holes_X0_hedgeOf : GoodIn wsX3_holes wsX0_hedgeOf := goodIn_r _ [34, 35, 36, 37, 38, 39, 40, 41, 20, 68, 69, 70, 71, 72, 73, 74, 75] (by decide +kernel) (by decide +kernel)
set_option maxRecDepth 20000 in
theorem gX3_holes_X0_hedgeOf : GoodIn wsX3_holes (wsV RX3 99 RX0 yX0_hedgeOf wsX0_hedgeOf) := goodIn_app (goodIn_of _ (by decide +kernel)) ggX3_holes_X0_hedgeOf
set_option maxRecDepth 20000 in
theorem ggX3_holes_X1_agrees : GoodIn wsX3_holes wsX1_agrees := goodIn_r _ [46, 47, 48, 49, 50, 51, 52, 53, 54, 18, 55, 28, 29, 56, 8, 57, 58, 59, 76, 77, 78, 79, 68, 69, 70, 71, 72, 73, 74, 75] (by decide +kernel) (by decide +kernel)
set_option maxRecDepth 20000 in
theorem gX3_holes_X1_agrees : GoodIn wsX3_holes (wsV RX3 183 RX1 yX1_agrees wsX1_agrees) := goodIn_app (goodIn_of _ (by decide +kernel)) ggX3_holes_X1_agrees
set_option maxRecDepth 20000 in
theorem ggX3_odds_X3_isGoer : GoodIn wsX3_odds wsX3_isGoer := goodIn_r _ [9, 2, 10, 49, 50, 51, 52, 53, 54, 55, 56, 57, 58, 59, 60, 61, 62, 63, 64] (by decide +kernel) (by decide +kernel)
set_option maxRecDepth 20000 in
theorem gX3_odds_X3_isGoer : GoodIn wsX3_odds (wsV RX3 80 RX3 yX3_isGoer wsX3_isGoer) := goodIn_app (goodIn_of _ (by decide +kernel)) ggX3_odds_X3_isGoer
set_option maxRecDepth 20000 in
theorem ggX3_odds_X3_isField : GoodIn wsX3_odds wsX3_isField := goodIn_r _ [14, 2, 15, 49, 50, 51, 52, 53, 54, 55, 56, 57, 58, 59, 60, 61, 62, 63, 64] (by decide +kernel) (by decide +kernel)
set_option maxRecDepth 20000 in
theorem gX3_odds_X3_isField : GoodIn wsX3_odds (wsV RX3 112 RX3 yX3_isField wsX3_isField) := goodIn_app (goodIn_of _ (by decide +kernel)) ggX3_odds_X3_isField
set_option maxRecDepth 20000 in
theorem ggX3_odds_X3_thickness : GoodIn wsX3_odds wsX3_thickness := goodIn_r _ [18] (by decide +kernel) (by decide +kernel)
set_option maxRecDepth 20000 in
theorem gX3_odds_X3_thickness : GoodIn wsX3_odds (va_wsS RX3 189 yX3_thickness wsX3_thickness) := goodIn_app (goodIn_of _ (by decide +kernel)) ggX3_odds_X3_thickness
set_option maxRecDepth 20000 in
theorem ggX3_odds_X0_reachOf : GoodIn wsX3_odds wsX0_reachOf := goodIn_r _ [23, 24, 25, 8, 26, 27, 28, 29, 22, 30, 31, 32, 33, 34, 35, 36, 37, 38, 39, 40, 41, 42, 43, 44, 57, 58, 59, 60, 61, 62, 63, 64] (by decide +kernel) (by decide +kernel)
set_option maxRecDepth 20000 in
theorem gX3_odds_X0_reachOf : GoodIn wsX3_odds (wsV RX3 152 RX0 yX0_reachOf wsX0_reachOf) := goodIn_app (goodIn_of _ (by decide +kernel)) ggX3_odds_X0_reachOf
set_option maxRecDepth 20000 in
theorem ggX3_odds_X3_isIn : GoodIn wsX3_odds wsX3_isIn := goodIn_r _ [26] (by decide +kernel) (by decide +kernel)
set_option maxRecDepth 20000 in
theorem gX3_odds_X3_isIn : GoodIn wsX3_odds (va_wsS RX3 109 yX3_isIn wsX3_isIn) := goodIn_app (goodIn_of _ (by decide +kernel)) ggX3_odds_X3_isIn
set_option maxRecDepth 20000 in
theorem ggX3_odds_X3_commonDivisor : GoodIn wsX3_odds wsX3_commonDivisor := goodIn_r _ [48] (by decide +kernel) (by decide +kernel)
set_option maxRecDepth 20000 in
theorem gX3_odds_X3_commonDivisor : GoodIn wsX3_odds (va_wsS RX3 192 yX3_commonDivisor wsX3_commonDivisor) := goodIn_app (goodIn_of _ (by decide +kernel)) ggX3_odds_X3_commonDivisor
set_option maxRecDepth 20000 in
theorem ggX3_sheet_X3_isSheet : GoodIn wsX3_sheet wsX3_isSheet := goodIn_r _ [6] (by decide +kernel) (by decide +kernel)
set_option maxRecDepth 20000 in
theorem gX3_sheet_X3_isSheet : GoodIn wsX3_sheet (va_wsS RX3 48 yX3_isSheet wsX3_isSheet) := goodIn_app (goodIn_of _ (by decide +kernel)) ggX3_sheet_X3_isSheet
set_option maxRecDepth 20000 in
theorem ggX3_sheet_X3_isLane : GoodIn wsX3_sheet wsX3_isLane := goodIn_r _ [9] (by decide +kernel) (by decide +kernel)
set_option maxRecDepth 20000 in
theorem gX3_sheet_X3_isLane : GoodIn wsX3_sheet (va_wsS RX3 52 yX3_isLane wsX3_isLane) := goodIn_app (goodIn_of _ (by decide +kernel)) ggX3_sheet_X3_isLane
set_option maxRecDepth 20000 in
theorem ggX3_sheet_X3_failed : GoodIn wsX3_sheet wsX3_failed := goodIn_r _ [13, 1, 27, 28, 29, 30, 31, 32, 33, 34] (by decide +kernel) (by decide +kernel)
set_option maxRecDepth 20000 in
theorem gX3_sheet_X3_failed : GoodIn wsX3_sheet (wsV RX3 63 RX3 yX3_failed wsX3_failed) := goodIn_app (goodIn_of _ (by decide +kernel)) ggX3_sheet_X3_failed
set_option maxRecDepth 20000 in
theorem ggX3_sheet_X2_begin : GoodIn wsX3_sheet wsX2_begin := goodIn_r _ [18, 19, 20, 21, 22, 23, 24, 25, 26, 35, 36, 37, 38] (by decide +kernel) (by decide +kernel)
set_option maxRecDepth 20000 in
theorem gX3_sheet_X2_begin : GoodIn wsX3_sheet (wsV RX3 195 RX2 yX2_begin wsX2_begin) := goodIn_app (goodIn_of _ (by decide +kernel)) ggX3_sheet_X2_begin
set_option maxRecDepth 20000 in
theorem ggX3_lose_X3_isSheet : GoodIn wsX3_lose wsX3_isSheet := goodIn_r _ [6] (by decide +kernel) (by decide +kernel)
set_option maxRecDepth 20000 in
theorem gX3_lose_X3_isSheet : GoodIn wsX3_lose (va_wsS RX3 48 yX3_isSheet wsX3_isSheet) := goodIn_app (goodIn_of _ (by decide +kernel)) ggX3_lose_X3_isSheet
set_option maxRecDepth 20000 in
theorem ggX3_put_X3_isSheet : GoodIn wsX3_put wsX3_isSheet := goodIn_r _ [9] (by decide +kernel) (by decide +kernel)
set_option maxRecDepth 20000 in
theorem gX3_put_X3_isSheet : GoodIn wsX3_put (va_wsS RX3 48 yX3_isSheet wsX3_isSheet) := goodIn_app (goodIn_of _ (by decide +kernel)) ggX3_put_X3_isSheet
set_option maxRecDepth 20000 in
theorem ggX3_put_X3_failed : GoodIn wsX3_put wsX3_failed := goodIn_r _ [13, 1, 23, 24, 25, 26, 27, 28, 29, 30] (by decide +kernel) (by decide +kernel)
set_option maxRecDepth 20000 in
theorem gX3_put_X3_failed : GoodIn wsX3_put (wsV RX3 63 RX3 yX3_failed wsX3_failed) := goodIn_app (goodIn_of _ (by decide +kernel)) ggX3_put_X3_failed
set_option maxRecDepth 20000 in
theorem ggX3_put_X2_spans : GoodIn wsX3_put wsX2_spans := goodIn_r _ [18, 19, 31, 32, 33, 34] (by decide +kernel) (by decide +kernel)
set_option maxRecDepth 20000 in
theorem gX3_put_X2_spans : GoodIn wsX3_put (wsV RX3 59 RX2 yX2_spans wsX2_spans) := goodIn_app (goodIn_of _ (by decide +kernel)) ggX3_put_X2_spans
set_option maxRecDepth 20000 in
theorem ggX3_put_X3_cutTo : GoodIn wsX3_put wsX3_cutTo := goodIn_r _ [22] (by decide +kernel) (by decide +kernel)
set_option maxRecDepth 20000 in
theorem gX3_put_X3_cutTo : GoodIn wsX3_put (va_wsS RX3 208 yX3_cutTo wsX3_cutTo) := goodIn_app (goodIn_of _ (by decide +kernel)) ggX3_put_X3_cutTo
set_option maxRecDepth 20000 in
theorem ggX3_cell_X3_isSheet : GoodIn wsX3_cell wsX3_isSheet := goodIn_r _ [8] (by decide +kernel) (by decide +kernel)
set_option maxRecDepth 20000 in
theorem gX3_cell_X3_isSheet : GoodIn wsX3_cell (va_wsS RX3 48 yX3_isSheet wsX3_isSheet) := goodIn_app (goodIn_of _ (by decide +kernel)) ggX3_cell_X3_isSheet
set_option maxRecDepth 20000 in
theorem ggX3_cell_X3_isLane : GoodIn wsX3_cell wsX3_isLane := goodIn_r _ [11] (by decide +kernel) (by decide +kernel)
set_option maxRecDepth 20000 in
theorem gX3_cell_X3_isLane : GoodIn wsX3_cell (va_wsS RX3 52 yX3_isLane wsX3_isLane) := goodIn_app (goodIn_of _ (by decide +kernel)) ggX3_cell_X3_isLane
set_option maxRecDepth 20000 in
theorem ggX3_cell_X2_faultAs : GoodIn wsX3_cell wsX2_faultAs := goodIn_r _ [16, 17, 18, 32, 33, 34, 35] (by decide +kernel) (by decide +kernel)
set_option maxRecDepth 20000 in
theorem gX3_cell_X2_faultAs : GoodIn wsX3_cell (wsV RX3 55 RX2 yX2_faultAs wsX2_faultAs) := goodIn_app (goodIn_of _ (by decide +kernel)) ggX3_cell_X2_faultAs
set_option maxRecDepth 20000 in
theorem ggX3_cell_X2_spans : GoodIn wsX3_cell wsX2_spans := goodIn_r _ [22, 23, 32, 33, 34, 35] (by decide +kernel) (by decide +kernel)
set_option maxRecDepth 20000 in
theorem gX3_cell_X2_spans : GoodIn wsX3_cell (wsV RX3 59 RX2 yX2_spans wsX2_spans) := goodIn_app (goodIn_of _ (by decide +kernel)) ggX3_cell_X2_spans
set_option maxRecDepth 20000 in
theorem ggX3_copy_X3_isSheet : GoodIn wsX3_copy wsX3_isSheet := goodIn_r _ [13] (by decide +kernel) (by decide +kernel)
set_option maxRecDepth 20000 in
theorem gX3_copy_X3_isSheet : GoodIn wsX3_copy (va_wsS RX3 48 yX3_isSheet wsX3_isSheet) := goodIn_app (goodIn_of _ (by decide +kernel)) ggX3_copy_X3_isSheet
set_option maxRecDepth 20000 in
theorem ggX3_copy_X3_failed : GoodIn wsX3_copy wsX3_failed := goodIn_r _ [17, 1, 24, 25, 26, 27, 28, 29, 30, 31] (by decide +kernel) (by decide +kernel)
set_option maxRecDepth 20000 in
theorem gX3_copy_X3_failed : GoodIn wsX3_copy (wsV RX3 63 RX3 yX3_failed wsX3_failed) := goodIn_app (goodIn_of _ (by decide +kernel)) ggX3_copy_X3_failed
set_option maxRecDepth 20000 in
theorem ggX3_copy_X2_spans : GoodIn wsX3_copy wsX2_spans := goodIn_r _ [22, 23, 32, 33, 34, 35] (by decide +kernel) (by decide +kernel)
set_option maxRecDepth 20000 in
theorem gX3_copy_X2_spans : GoodIn wsX3_copy (wsV RX3 59 RX2 yX2_spans wsX2_spans) := goodIn_app (goodIn_of _ (by decide +kernel)) ggX3_copy_X2_spans
set_option maxRecDepth 20000 in
theorem ggX3_tell_X3_isGoer : GoodIn wsX3_tell wsX3_isGoer := goodIn_r _ [7, 1, 8, 27, 28, 29, 30, 31, 32, 33, 34, 35, 36, 37, 38, 39, 40, 41, 42] (by decide +kernel) (by decide +kernel)
set_option maxRecDepth 20000 in
theorem gX3_tell_X3_isGoer : GoodIn wsX3_tell (wsV RX3 80 RX3 yX3_isGoer wsX3_isGoer) := goodIn_app (goodIn_of _ (by decide +kernel)) ggX3_tell_X3_isGoer
set_option maxRecDepth 20000 in
theorem ggX3_tell_X3_childTells : GoodIn wsX3_tell wsX3_childTells := goodIn_r _ [12, 13, 14, 15, 6, 16, 17, 18, 19, 20, 21, 22, 23, 24, 25, 1, 26, 27, 28, 29, 30, 31, 32, 33, 34, 35, 36, 37, 38, 39, 40, 41, 42] (by decide +kernel) (by decide +kernel)
set_option maxRecDepth 20000 in
theorem gX3_tell_X3_childTells : GoodIn wsX3_tell (wsV RX3 217 RX3 yX3_childTells wsX3_childTells) := goodIn_app (goodIn_of _ (by decide +kernel)) ggX3_tell_X3_childTells
set_option maxRecDepth 20000 in
theorem ggX3_tell_X3_thiefTells : GoodIn wsX3_tell wsX3_thiefTells := goodIn_r _ [21, 13, 14, 15, 6, 16, 17, 22, 23, 24, 25, 1, 26, 27, 28, 29, 30, 31, 32, 33, 34, 35, 36, 37, 38, 39, 40, 41, 42] (by decide +kernel) (by decide +kernel)
set_option maxRecDepth 20000 in
theorem gX3_tell_X3_thiefTells : GoodIn wsX3_tell (wsV RX3 220 RX3 yX3_thiefTells wsX3_thiefTells) := goodIn_app (goodIn_of _ (by decide +kernel)) ggX3_tell_X3_thiefTells
set_option maxRecDepth 20000 in
theorem ggX3_tell_X3_plainTells : GoodIn wsX3_tell wsX3_plainTells := goodIn_r _ [25, 1, 26, 13, 14, 15, 6, 16, 17, 27, 28, 29, 30, 31, 32, 33, 34, 35, 36, 37, 38, 39, 40, 41, 42] (by decide +kernel) (by decide +kernel)
set_option maxRecDepth 20000 in
theorem gX3_tell_X3_plainTells : GoodIn wsX3_tell (wsV RX3 223 RX3 yX3_plainTells wsX3_plainTells) := goodIn_app (goodIn_of _ (by decide +kernel)) ggX3_tell_X3_plainTells
set_option maxRecDepth 20000 in
theorem ggX3_hail_X3_isGoer : GoodIn wsX3_hail wsX3_isGoer := goodIn_r _ [8, 1, 9, 15, 16, 17, 18, 19, 20, 21, 22, 23, 24, 25, 26, 27, 28, 29, 30] (by decide +kernel) (by decide +kernel)
set_option maxRecDepth 20000 in
theorem gX3_hail_X3_isGoer : GoodIn wsX3_hail (wsV RX3 80 RX3 yX3_isGoer wsX3_isGoer) := goodIn_app (goodIn_of _ (by decide +kernel)) ggX3_hail_X3_isGoer
set_option maxRecDepth 20000 in
theorem ggX3_hail_X3_leaveTrace : GoodIn wsX3_hail wsX3_leaveTrace := goodIn_r _ [13, 14, 15, 16, 17, 18, 19, 20, 21, 22] (by decide +kernel) (by decide +kernel)
set_option maxRecDepth 20000 in
theorem gX3_hail_X3_leaveTrace : GoodIn wsX3_hail (wsV RX3 226 RX3 yX3_leaveTrace wsX3_leaveTrace) := goodIn_app (goodIn_of _ (by decide +kernel)) ggX3_hail_X3_leaveTrace
set_option maxRecDepth 20000 in
theorem ggX3_as_X3_isGoer : GoodIn wsX3_as wsX3_isGoer := goodIn_r _ [8, 2, 9, 14, 15, 16, 17, 18, 19, 20, 21, 22, 23, 24, 25, 26, 27, 28, 29] (by decide +kernel) (by decide +kernel)
set_option maxRecDepth 20000 in
theorem gX3_as_X3_isGoer : GoodIn wsX3_as (wsV RX3 80 RX3 yX3_isGoer wsX3_isGoer) := goodIn_app (goodIn_of _ (by decide +kernel)) ggX3_as_X3_isGoer
set_option maxRecDepth 20000 in
theorem ggX3_as_X3_failed : GoodIn wsX3_as wsX3_failed := goodIn_r _ [13, 1, 14, 15, 16, 17, 18, 19, 20, 21] (by decide +kernel) (by decide +kernel)
set_option maxRecDepth 20000 in
theorem gX3_as_X3_failed : GoodIn wsX3_as (wsV RX3 63 RX3 yX3_failed wsX3_failed) := goodIn_app (goodIn_of _ (by decide +kernel)) ggX3_as_X3_failed
set_option maxRecDepth 20000 in
theorem ggX3_areTwoFields_X3_isField : GoodIn wsX3_areTwoFields wsX3_isField := goodIn_r _ [5, 6, 7, 8, 9, 10, 11, 12, 13, 14, 15, 16, 17, 18, 19, 20, 21, 22, 23] (by decide +kernel) (by decide +kernel)
set_option maxRecDepth 20000 in
theorem gX3_areTwoFields_X3_isField : GoodIn wsX3_areTwoFields (wsV RX3 112 RX3 yX3_isField wsX3_isField) := goodIn_app (goodIn_of _ (by decide +kernel)) ggX3_areTwoFields_X3_isField
set_option maxRecDepth 20000 in
theorem ggX3_firstFaultOfText_X0_clear : GoodIn wsX3_firstFaultOfText wsX0_clear := goodIn_r _ [7, 8, 9, 10, 49, 50, 51, 52, 53, 54, 55, 56] (by decide +kernel) (by decide +kernel)
set_option maxRecDepth 20000 in
theorem gX3_firstFaultOfText_X0_clear : GoodIn wsX3_firstFaultOfText (wsV RX3 229 RX0 yX0_clear wsX0_clear) := goodIn_app (goodIn_of _ (by decide +kernel)) ggX3_firstFaultOfText_X0_clear
set_option maxRecDepth 20000 in
theorem ggX3_firstFaultOfText_X0_reads : GoodIn wsX3_firstFaultOfText wsX0_reads := goodIn_r _ [14, 8, 15, 16, 17, 18, 19, 20, 21, 6, 22, 23, 24, 25, 26, 27, 28, 29, 9, 30, 31, 32, 49, 50, 51, 52, 53, 54, 55, 56] (by decide +kernel) (by decide +kernel)
set_option maxRecDepth 20000 in
theorem gX3_firstFaultOfText_X0_reads : GoodIn wsX3_firstFaultOfText (wsV RX3 232 RX0 yX0_reads wsX0_reads) := goodIn_app (goodIn_of _ (by decide +kernel)) ggX3_firstFaultOfText_X0_reads
set_option maxRecDepth 20000 in
theorem ggX3_firstFaultOfText_X0_mayEndAt : GoodIn wsX3_firstFaultOfText wsX0_mayEndAt := goodIn_r _ [36, 9, 19, 20, 21, 6, 22, 8, 49, 50, 51, 52, 53, 54, 55, 56] (by decide +kernel) (by decide +kernel)
set_option maxRecDepth 20000 in
theorem gX3_firstFaultOfText_X0_mayEndAt : GoodIn wsX3_firstFaultOfText (wsV RX3 235 RX0 yX0_mayEndAt wsX0_mayEndAt) := goodIn_app (goodIn_of _ (by decide +kernel)) ggX3_firstFaultOfText_X0_mayEndAt
set_option maxRecDepth 20000 in
theorem ggX3_refusalOfPairs_X3_isGoer : GoodIn wsX3_refusalOfPairs wsX3_isGoer := goodIn_r _ [6, 7, 8, 13, 14, 15, 16, 17, 18, 19, 20, 21, 22, 23, 24, 25, 26, 27, 28] (by decide +kernel) (by decide +kernel)
set_option maxRecDepth 20000 in
theorem gX3_refusalOfPairs_X3_isGoer : GoodIn wsX3_refusalOfPairs (wsV RX3 80 RX3 yX3_isGoer wsX3_isGoer) := goodIn_app (goodIn_of _ (by decide +kernel)) ggX3_refusalOfPairs_X3_isGoer
set_option maxRecDepth 20000 in
theorem ggX3_firstWrongOfSeason_X0_become : GoodIn wsX3_firstWrongOfSeason wsX0_become := goodIn_r _ [8, 9, 10, 11, 12, 13, 14, 15, 16, 17, 18, 19, 82, 83, 84, 85, 86, 87, 88, 89] (by decide +kernel) (by decide +kernel)
set_option maxRecDepth 20000 in
theorem gX3_firstWrongOfSeason_X0_become : GoodIn wsX3_firstWrongOfSeason (wsV RX3 70 RX0 yX0_become wsX0_become) := goodIn_app (goodIn_of _ (by decide +kernel)) ggX3_firstWrongOfSeason_X0_become
set_option maxRecDepth 20000 in
theorem ggX3_firstWrongOfSeason_X0_acts : GoodIn wsX3_firstWrongOfSeason wsX0_acts := goodIn_r _ [23, 9, 24, 25, 26, 7, 27, 12, 11, 28, 29, 30, 31, 32, 33, 34, 35, 36, 37, 38, 39, 40, 41, 42, 43, 44, 45, 46, 47, 48, 49, 19, 50, 51, 52, 53, 17, 18, 54, 55, 56, 57, 58, 59, 60, 61, 62, 63, 64, 65, 66, 67, 68, 69, 82, 83, 84, 85, 86, 87, 88, 89] (by decide +kernel) (by decide +kernel)
set_option maxRecDepth 20000 in
theorem gX3_firstWrongOfSeason_X0_acts : GoodIn wsX3_firstWrongOfSeason (wsV RX3 238 RX0 yX0_acts wsX0_acts) := goodIn_app (goodIn_of _ (by decide +kernel)) ggX3_firstWrongOfSeason_X0_acts
set_option maxRecDepth 20000 in
theorem ggX3_ofTrial_X0_openHoles : GoodIn wsX3_ofTrial wsX0_openHoles := goodIn_r _ [8, 9, 10, 11, 12, 7, 13, 14, 36, 37, 38, 39, 40, 41, 42, 43] (by decide +kernel) (by decide +kernel)
set_option maxRecDepth 20000 in
theorem gX3_ofTrial_X0_openHoles : GoodIn wsX3_ofTrial (wsV RX3 130 RX0 yX0_openHoles wsX0_openHoles) := goodIn_app (goodIn_of _ (by decide +kernel)) ggX3_ofTrial_X0_openHoles
set_option maxRecDepth 20000 in
theorem ggX3_ofTrial_X0_peopled : GoodIn wsX3_ofTrial wsX0_peopled := goodIn_r _ [18, 19, 20, 36, 37, 38, 39, 40, 41, 42, 43] (by decide +kernel) (by decide +kernel)
set_option maxRecDepth 20000 in
theorem gX3_ofTrial_X0_peopled : GoodIn wsX3_ofTrial (wsV RX3 241 RX0 yX0_peopled wsX0_peopled) := goodIn_app (goodIn_of _ (by decide +kernel)) ggX3_ofTrial_X0_peopled
set_option maxRecDepth 20000 in
theorem ggX3_ofTrial_X3_isGoer : GoodIn wsX3_ofTrial wsX3_isGoer := goodIn_r _ [25, 26, 27, 28, 29, 30, 31, 32, 33, 34, 35, 36, 37, 38, 39, 40, 41, 42, 43] (by decide +kernel) (by decide +kernel)
set_option maxRecDepth 20000 in
theorem gX3_ofTrial_X3_isGoer : GoodIn wsX3_ofTrial (wsV RX3 80 RX3 yX3_isGoer wsX3_isGoer) := goodIn_app (goodIn_of _ (by decide +kernel)) ggX3_ofTrial_X3_isGoer
set_option maxRecDepth 20000 in
theorem ggX3_plainTells_X3_leaveTrace : GoodIn wsX3_plainTells wsX3_leaveTrace := goodIn_r _ [7, 8, 9, 10, 11, 12, 13, 14, 15, 16] (by decide +kernel) (by decide +kernel)
set_option maxRecDepth 20000 in
theorem gX3_plainTells_X3_leaveTrace : GoodIn wsX3_plainTells (wsV RX3 226 RX3 yX3_leaveTrace wsX3_leaveTrace) := goodIn_app (goodIn_of _ (by decide +kernel)) ggX3_plainTells_X3_leaveTrace
set_option maxRecDepth 20000 in
theorem ggX3_thiefTells_X3_leaveTrace : GoodIn wsX3_thiefTells wsX3_leaveTrace := goodIn_r _ [5, 6, 13, 14, 15, 16, 17, 18, 19, 20] (by decide +kernel) (by decide +kernel)
set_option maxRecDepth 20000 in
theorem gX3_thiefTells_X3_leaveTrace : GoodIn wsX3_thiefTells (wsV RX3 226 RX3 yX3_leaveTrace wsX3_leaveTrace) := goodIn_app (goodIn_of _ (by decide +kernel)) ggX3_thiefTells_X3_leaveTrace
set_option maxRecDepth 20000 in
theorem ggX3_thiefTells_X3_plainTells : GoodIn wsX3_thiefTells wsX3_plainTells := goodIn_r _ [10, 11, 12, 1, 2, 3, 4, 5, 6, 13, 14, 15, 16, 17, 18, 19, 20, 21, 22, 23, 24, 25, 26, 27, 28] (by decide +kernel) (by decide +kernel)
set_option maxRecDepth 20000 in
theorem gX3_thiefTells_X3_plainTells : GoodIn wsX3_thiefTells (wsV RX3 223 RX3 yX3_plainTells wsX3_plainTells) := goodIn_app (goodIn_of _ (by decide +kernel)) ggX3_thiefTells_X3_plainTells
set_option maxRecDepth 20000 in
theorem ggX3_childTells_X3_leaveTrace : GoodIn wsX3_childTells wsX3_leaveTrace := goodIn_r _ [5, 6, 17, 18, 19, 20, 21, 22, 23, 24] (by decide +kernel) (by decide +kernel)
set_option maxRecDepth 20000 in
theorem gX3_childTells_X3_leaveTrace : GoodIn wsX3_childTells (wsV RX3 226 RX3 yX3_leaveTrace wsX3_leaveTrace) := goodIn_app (goodIn_of _ (by decide +kernel)) ggX3_childTells_X3_leaveTrace
set_option maxRecDepth 20000 in
theorem ggX3_childTells_X3_thiefTells : GoodIn wsX3_childTells wsX3_thiefTells := goodIn_r _ [10, 1, 2, 3, 4, 5, 6, 11, 12, 13, 14, 15, 16, 17, 18, 19, 20, 21, 22, 23, 24, 25, 26, 27, 28, 29, 30, 31, 32] (by decide +kernel) (by decide +kernel)
set_option maxRecDepth 20000 in
theorem gX3_childTells_X3_thiefTells : GoodIn wsX3_childTells (wsV RX3 220 RX3 yX3_thiefTells wsX3_thiefTells) := goodIn_app (goodIn_of _ (by decide +kernel)) ggX3_childTells_X3_thiefTells
set_option maxRecDepth 20000 in
theorem ggX3_childTells_X3_plainTells : GoodIn wsX3_childTells wsX3_plainTells := goodIn_r _ [14, 15, 16, 1, 2, 3, 4, 5, 6, 17, 18, 19, 20, 21, 22, 23, 24, 25, 26, 27, 28, 29, 30, 31, 32] (by decide +kernel) (by decide +kernel)
set_option maxRecDepth 20000 in
theorem gX3_childTells_X3_plainTells : GoodIn wsX3_childTells (wsV RX3 223 RX3 yX3_plainTells wsX3_plainTells) := goodIn_app (goodIn_of _ (by decide +kernel)) ggX3_childTells_X3_plainTells
