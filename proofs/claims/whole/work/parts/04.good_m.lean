set_option maxRecDepth 20000 in
theorem ggX4_isSheet_X4_within : GoodIn wsX4_isSheet wsX4_within := goodIn_r _ [4] (by decide +kernel) (by decide +kernel)
set_option maxRecDepth 20000 in
theorem gX4_isSheet_X4_within : GoodIn wsX4_isSheet (va_wsS RX4 64 yX4_within wsX4_within) := goodIn_app (goodIn_of _ (by decide +kernel)) ggX4_isSheet_X4_within
set_option maxRecDepth 20000 in
theorem ggX4_isSort_X4_within : GoodIn wsX4_isSort wsX4_within := goodIn_r _ [4] (by decide +kernel) (by decide +kernel)
set_option maxRecDepth 20000 in
theorem gX4_isSort_X4_within : GoodIn wsX4_isSort (va_wsS RX4 64 yX4_within wsX4_within) := goodIn_app (goodIn_of _ (by decide +kernel)) ggX4_isSort_X4_within
set_option maxRecDepth 20000 in
theorem ggX4_areTwo_X4_isField : GoodIn wsX4_areTwo wsX4_isField := goodIn_r _ [5, 6, 7, 8, 9, 10, 11, 12, 13, 14, 15, 16, 17, 18, 19, 20, 21, 22, 23, 24, 25, 26, 27, 28, 29, 30, 31, 32, 33, 34, 35] (by decide +kernel) (by decide +kernel)
set_option maxRecDepth 20000 in
theorem gX4_areTwo_X4_isField : GoodIn wsX4_areTwo (wsV RX4 71 RX4 yX4_isField wsX4_isField) := goodIn_app (goodIn_of _ (by decide +kernel)) ggX4_areTwo_X4_isField
set_option maxRecDepth 20000 in
theorem ggX4_hedges_X4_hedgesOf : GoodIn wsX4_hedges wsX4_hedgesOf := goodIn_r _ [5] (by decide +kernel) (by decide +kernel)
set_option maxRecDepth 20000 in
theorem gX4_hedges_X4_hedgesOf : GoodIn wsX4_hedges (va_wsS RX4 78 yX4_hedgesOf wsX4_hedgesOf) := goodIn_app (goodIn_of _ (by decide +kernel)) ggX4_hedges_X4_hedgesOf
set_option maxRecDepth 20000 in
theorem ggX4_digit_X4_within : GoodIn wsX4_digit wsX4_within := goodIn_r _ [6] (by decide +kernel) (by decide +kernel)
set_option maxRecDepth 20000 in
theorem gX4_digit_X4_within : GoodIn wsX4_digit (va_wsS RX4 64 yX4_within wsX4_within) := goodIn_app (goodIn_of _ (by decide +kernel)) ggX4_digit_X4_within
set_option maxRecDepth 20000 in
theorem ggX4_county_X4_isSheet : GoodIn wsX4_county wsX4_isSheet := goodIn_r _ [7, 8, 9, 6, 10] (by decide +kernel) (by decide +kernel)
set_option maxRecDepth 20000 in
theorem gX4_county_X4_isSheet : GoodIn wsX4_county (va_wsS RX4 85 yX4_isSheet wsX4_isSheet) := goodIn_app (goodIn_of _ (by decide +kernel)) ggX4_county_X4_isSheet
set_option maxRecDepth 20000 in
theorem ggX4_county_X4_isSort : GoodIn wsX4_county wsX4_isSort := goodIn_r _ [13, 8, 9, 6, 10] (by decide +kernel) (by decide +kernel)
set_option maxRecDepth 20000 in
theorem gX4_county_X4_isSort : GoodIn wsX4_county (va_wsS RX4 88 yX4_isSort wsX4_isSort) := goodIn_app (goodIn_of _ (by decide +kernel)) ggX4_county_X4_isSort
set_option maxRecDepth 20000 in
theorem ggX4_county_X4_against : GoodIn wsX4_county wsX4_against := goodIn_r _ [17, 18, 19, 65, 66, 67, 68, 69, 70, 71, 72, 73, 74, 75, 76, 77, 78, 79, 80, 81, 82, 83, 84, 85, 86, 87, 88, 89, 90, 91, 92, 93] (by decide +kernel) (by decide +kernel)
set_option maxRecDepth 20000 in
theorem gX4_county_X4_against : GoodIn wsX4_county (wsV RX4 91 RX4 yX4_against wsX4_against) := goodIn_app (goodIn_of _ (by decide +kernel)) ggX4_county_X4_against
set_option maxRecDepth 20000 in
theorem ggX4_county_X4_fails : GoodIn wsX4_county wsX4_fails := goodIn_r _ [23, 1, 65, 66, 67, 68, 69, 70, 71, 72, 73, 74, 75, 76, 77, 78, 79, 80, 81, 82, 83, 84, 85, 86, 87, 88, 89, 90, 91, 92, 93] (by decide +kernel) (by decide +kernel)
set_option maxRecDepth 20000 in
theorem gX4_county_X4_fails : GoodIn wsX4_county (wsV RX4 95 RX4 yX4_fails wsX4_fails) := goodIn_app (goodIn_of _ (by decide +kernel)) ggX4_county_X4_fails
set_option maxRecDepth 20000 in
theorem ggX4_county_X4_readCounty : GoodIn wsX4_county wsX4_readCounty := goodIn_r _ [27, 28, 29, 30, 2, 31, 32, 33, 6, 34, 35, 36, 37, 38, 39, 8, 9, 10, 40, 41, 42, 43, 44, 45, 46, 47, 65, 66, 67, 68, 69, 70, 71, 72, 73, 74, 75, 76, 77, 78, 79, 80, 81, 82, 83, 84, 85, 86, 87, 88, 89, 90, 91, 92, 93] (by decide +kernel) (by decide +kernel)
set_option maxRecDepth 20000 in
theorem gX4_county_X4_readCounty : GoodIn wsX4_county (wsV RX4 98 RX4 yX4_readCounty wsX4_readCounty) := goodIn_app (goodIn_of _ (by decide +kernel)) ggX4_county_X4_readCounty
set_option maxRecDepth 20000 in
theorem ggX4_county_X4_takeCounty : GoodIn wsX4_county wsX4_takeCounty := goodIn_r _ [51, 29, 52, 53, 30, 28, 3, 54, 47, 55, 56, 57, 58, 59, 60, 61, 62, 63, 6, 64, 40, 41, 42, 65, 66, 67, 68, 69, 70, 71, 72, 73, 74, 75, 76, 77, 78, 79, 80, 81, 82, 83, 84, 85, 86, 87, 88, 89, 90, 91, 92, 93] (by decide +kernel) (by decide +kernel)
set_option maxRecDepth 20000 in
theorem gX4_county_X4_takeCounty : GoodIn wsX4_county (wsV RX4 101 RX4 yX4_takeCounty wsX4_takeCounty) := goodIn_app (goodIn_of _ (by decide +kernel)) ggX4_county_X4_takeCounty
set_option maxRecDepth 20000 in
theorem ggX4_takeCounty_X4_hedges : GoodIn wsX4_takeCounty wsX4_hedges := goodIn_r _ [19, 2, 20, 21, 18, 22, 23, 24, 25, 26, 27, 28, 29, 30, 31, 32, 33, 34, 35, 36, 37, 38, 39, 40, 41, 42, 43, 44, 45, 46, 47, 48, 49, 50, 51] (by decide +kernel) (by decide +kernel)
set_option maxRecDepth 20000 in
theorem gX4_takeCounty_X4_hedges : GoodIn wsX4_takeCounty (wsV RX4 107 RX4 yX4_hedges wsX4_hedges) := goodIn_app (goodIn_of _ (by decide +kernel)) ggX4_takeCounty_X4_hedges
set_option maxRecDepth 20000 in
theorem ggX4_readCounty_X4_isSign : GoodIn wsX4_readCounty wsX4_isSign := goodIn_r _ [9, 4, 10, 26, 27, 28, 29, 30, 31, 32, 33, 34, 35, 36, 37, 38, 39, 40, 41, 42, 43, 44, 45, 46, 47, 48, 49, 50, 51, 52, 53, 54] (by decide +kernel) (by decide +kernel)
set_option maxRecDepth 20000 in
theorem gX4_readCounty_X4_isSign : GoodIn wsX4_readCounty (wsV RX4 126 RX4 yX4_isSign wsX4_isSign) := goodIn_app (goodIn_of _ (by decide +kernel)) ggX4_readCounty_X4_isSign
set_option maxRecDepth 20000 in
theorem ggX4_readCounty_X4_digit : GoodIn wsX4_readCounty wsX4_digit := goodIn_r _ [14, 4, 10, 15, 16, 8, 17, 26, 27, 28, 29, 30, 31, 32, 33, 34, 35, 36, 37, 38, 39, 40, 41, 42, 43, 44, 45, 46, 47, 48, 49, 50, 51, 52, 53, 54] (by decide +kernel) (by decide +kernel)
set_option maxRecDepth 20000 in
theorem gX4_readCounty_X4_digit : GoodIn wsX4_readCounty (wsV RX4 130 RX4 yX4_digit wsX4_digit) := goodIn_app (goodIn_of _ (by decide +kernel)) ggX4_readCounty_X4_digit
set_option maxRecDepth 20000 in
theorem ggX4_readCounty_X4_hedgesOf : GoodIn wsX4_readCounty wsX4_hedgesOf := goodIn_r _ [20] (by decide +kernel) (by decide +kernel)
set_option maxRecDepth 20000 in
theorem gX4_readCounty_X4_hedgesOf : GoodIn wsX4_readCounty (va_wsS RX4 78 yX4_hedgesOf wsX4_hedgesOf) := goodIn_app (goodIn_of _ (by decide +kernel)) ggX4_readCounty_X4_hedgesOf
set_option maxRecDepth 20000 in
theorem ggX4_readCounty_X4_readGoer : GoodIn wsX4_readCounty wsX4_readGoer := goodIn_r _ [24, 4, 10, 1, 25, 2, 11, 12, 13, 8, 14, 15, 16, 17, 26, 27, 28, 29, 30, 31, 32, 33, 34, 35, 36, 37, 38, 39, 40, 41, 42, 43, 44, 45, 46, 47, 48, 49, 50, 51, 52, 53, 54] (by decide +kernel) (by decide +kernel)
set_option maxRecDepth 20000 in
theorem gX4_readCounty_X4_readGoer : GoodIn wsX4_readCounty (wsV RX4 134 RX4 yX4_readGoer wsX4_readGoer) := goodIn_app (goodIn_of _ (by decide +kernel)) ggX4_readCounty_X4_readGoer
set_option maxRecDepth 20000 in
theorem ggX4_readGoer_X4_digit : GoodIn wsX4_readGoer wsX4_digit := goodIn_r _ [10, 1, 2, 11, 12, 9, 13, 14, 15, 16, 17, 18, 19, 20, 21, 22, 23, 24, 25, 26, 27, 28, 29, 30, 31, 32, 33, 34, 35, 36, 37, 38, 39, 40, 41, 42] (by decide +kernel) (by decide +kernel)
set_option maxRecDepth 20000 in
theorem gX4_readGoer_X4_digit : GoodIn wsX4_readGoer (wsV RX4 130 RX4 yX4_digit wsX4_digit) := goodIn_app (goodIn_of _ (by decide +kernel)) ggX4_readGoer_X4_digit
set_option maxRecDepth 20000 in
theorem ggX4_fitsHole_X4_thickOf : GoodIn wsX4_fitsHole wsX4_thickOf := goodIn_r _ [6, 7, 8, 9, 10, 11, 12, 13, 14, 15, 16, 17, 18, 19, 20, 21, 22, 23, 24, 25, 26, 27, 28, 29, 30, 31, 32, 33, 34, 35, 36, 37] (by decide +kernel) (by decide +kernel)
set_option maxRecDepth 20000 in
theorem gX4_fitsHole_X4_thickOf : GoodIn wsX4_fitsHole (wsV RX4 137 RX4 yX4_thickOf wsX4_thickOf) := goodIn_app (goodIn_of _ (by decide +kernel)) ggX4_fitsHole_X4_thickOf
set_option maxRecDepth 20000 in
theorem ggX4_ofGoer_X4_isGoer : GoodIn wsX4_ofGoer wsX4_isGoer := goodIn_r _ [8, 9, 14, 15, 16, 17, 18, 19, 20, 21, 22, 23, 24, 25, 26, 27, 28, 29, 30, 31, 32, 33, 34, 35, 36, 37, 38, 39, 40, 41, 42] (by decide +kernel) (by decide +kernel)
set_option maxRecDepth 20000 in
theorem gX4_ofGoer_X4_isGoer : GoodIn wsX4_ofGoer (wsV RX4 140 RX4 yX4_isGoer wsX4_isGoer) := goodIn_app (goodIn_of _ (by decide +kernel)) ggX4_ofGoer_X4_isGoer
set_option maxRecDepth 20000 in
theorem ggX4_ofGoer_X4_thickOf : GoodIn wsX4_ofGoer wsX4_thickOf := goodIn_r _ [13, 1, 2, 14, 15, 16, 17, 18, 19, 20, 21, 22, 23, 24, 25, 26, 27, 28, 29, 30, 31, 32, 33, 34, 35, 36, 37, 38, 39, 40, 41, 42] (by decide +kernel) (by decide +kernel)
set_option maxRecDepth 20000 in
theorem gX4_ofGoer_X4_thickOf : GoodIn wsX4_ofGoer (wsV RX4 137 RX4 yX4_thickOf wsX4_thickOf) := goodIn_app (goodIn_of _ (by decide +kernel)) ggX4_ofGoer_X4_thickOf
set_option maxRecDepth 20000 in
theorem ggX4_hole_X4_areTwo : GoodIn wsX4_hole wsX4_areTwo := goodIn_r _ [7, 8, 9, 10, 6, 11, 12, 17, 18, 19, 20, 21, 22, 23, 24, 25, 26, 27, 28, 29, 30, 31, 32, 33, 34, 35, 36, 37, 38, 39, 40, 41, 42, 43, 44, 45] (by decide +kernel) (by decide +kernel)
set_option maxRecDepth 20000 in
theorem gX4_hole_X4_areTwo : GoodIn wsX4_hole (wsV RX4 143 RX4 yX4_areTwo wsX4_areTwo) := goodIn_app (goodIn_of _ (by decide +kernel)) ggX4_hole_X4_areTwo
set_option maxRecDepth 20000 in
theorem ggX4_hole_X4_hedge : GoodIn wsX4_hole wsX4_hedge := goodIn_r _ [16, 12, 17, 18, 19, 20, 21, 22, 23, 24, 25, 26, 27, 28, 29, 30, 31, 32, 33, 34, 35, 36, 37, 38, 39, 40, 41, 42, 43, 44, 45] (by decide +kernel) (by decide +kernel)
set_option maxRecDepth 20000 in
theorem gX4_hole_X4_hedge : GoodIn wsX4_hole (wsV RX4 146 RX4 yX4_hedge wsX4_hedge) := goodIn_app (goodIn_of _ (by decide +kernel)) ggX4_hole_X4_hedge
set_option maxRecDepth 20000 in
theorem ggX4_hoop_X4_areTwo : GoodIn wsX4_hoop wsX4_areTwo := goodIn_r _ [7, 8, 9, 10, 6, 11, 12, 20, 21, 22, 23, 24, 25, 26, 27, 28, 29, 30, 31, 32, 33, 34, 35, 36, 37, 38, 39, 40, 41, 42, 43, 44, 45, 46, 47, 48] (by decide +kernel) (by decide +kernel)
set_option maxRecDepth 20000 in
theorem gX4_hoop_X4_areTwo : GoodIn wsX4_hoop (wsV RX4 143 RX4 yX4_areTwo wsX4_areTwo) := goodIn_app (goodIn_of _ (by decide +kernel)) ggX4_hoop_X4_areTwo
set_option maxRecDepth 20000 in
theorem ggX4_hoop_X4_within : GoodIn wsX4_hoop wsX4_within := goodIn_r _ [15] (by decide +kernel) (by decide +kernel)
set_option maxRecDepth 20000 in
theorem gX4_hoop_X4_within : GoodIn wsX4_hoop (va_wsS RX4 64 yX4_within wsX4_within) := goodIn_app (goodIn_of _ (by decide +kernel)) ggX4_hoop_X4_within
set_option maxRecDepth 20000 in
theorem ggX4_hoop_X4_hedge : GoodIn wsX4_hoop wsX4_hedge := goodIn_r _ [19, 12, 20, 21, 22, 23, 24, 25, 26, 27, 28, 29, 30, 31, 32, 33, 34, 35, 36, 37, 38, 39, 40, 41, 42, 43, 44, 45, 46, 47, 48] (by decide +kernel) (by decide +kernel)
set_option maxRecDepth 20000 in
theorem gX4_hoop_X4_hedge : GoodIn wsX4_hoop (wsV RX4 146 RX4 yX4_hedge wsX4_hedge) := goodIn_app (goodIn_of _ (by decide +kernel)) ggX4_hoop_X4_hedge
set_option maxRecDepth 20000 in
theorem ggX4_fatten_X4_isGoer : GoodIn wsX4_fatten wsX4_isGoer := goodIn_r _ [6, 7, 11, 12, 13, 14, 15, 16, 17, 18, 19, 20, 21, 22, 23, 24, 25, 26, 27, 28, 29, 30, 31, 32, 33, 34, 35, 36, 37, 38, 39] (by decide +kernel) (by decide +kernel)
set_option maxRecDepth 20000 in
theorem gX4_fatten_X4_isGoer : GoodIn wsX4_fatten (wsV RX4 140 RX4 yX4_isGoer wsX4_isGoer) := goodIn_app (goodIn_of _ (by decide +kernel)) ggX4_fatten_X4_isGoer
set_option maxRecDepth 20000 in
theorem ggX4_fatten_X4_within : GoodIn wsX4_fatten wsX4_within := goodIn_r _ [10] (by decide +kernel) (by decide +kernel)
set_option maxRecDepth 20000 in
theorem gX4_fatten_X4_within : GoodIn wsX4_fatten (va_wsS RX4 64 yX4_within wsX4_within) := goodIn_app (goodIn_of _ (by decide +kernel)) ggX4_fatten_X4_within
set_option maxRecDepth 20000 in
theorem ggX4_goesTo_X4_areTwo : GoodIn wsX4_goesTo wsX4_areTwo := goodIn_r _ [7, 8, 9, 10, 6, 11, 12, 28, 29, 30, 31, 32, 33, 34, 35, 36, 37, 38, 39, 40, 41, 42, 43, 44, 45, 46, 47, 48, 49, 50, 51, 52, 53, 54, 55, 56] (by decide +kernel) (by decide +kernel)
set_option maxRecDepth 20000 in
theorem gX4_goesTo_X4_areTwo : GoodIn wsX4_goesTo (wsV RX4 143 RX4 yX4_areTwo wsX4_areTwo) := goodIn_app (goodIn_of _ (by decide +kernel)) ggX4_goesTo_X4_areTwo
set_option maxRecDepth 20000 in
theorem ggX4_goesTo_X4_hedge : GoodIn wsX4_goesTo wsX4_hedge := goodIn_r _ [16, 12, 28, 29, 30, 31, 32, 33, 34, 35, 36, 37, 38, 39, 40, 41, 42, 43, 44, 45, 46, 47, 48, 49, 50, 51, 52, 53, 54, 55, 56] (by decide +kernel) (by decide +kernel)
set_option maxRecDepth 20000 in
theorem gX4_goesTo_X4_hedge : GoodIn wsX4_goesTo (wsV RX4 146 RX4 yX4_hedge wsX4_hedge) := goodIn_app (goodIn_of _ (by decide +kernel)) ggX4_goesTo_X4_hedge
set_option maxRecDepth 20000 in
theorem ggX4_goesTo_X4_fitsHole : GoodIn wsX4_goesTo wsX4_fitsHole := goodIn_r _ [20, 21, 22, 23, 24, 6, 25, 26, 27, 28, 29, 30, 31, 32, 33, 34, 35, 36, 37, 38, 39, 40, 41, 42, 43, 44, 45, 46, 47, 48, 49, 50, 51, 52, 53, 54, 55, 56] (by decide +kernel) (by decide +kernel)
set_option maxRecDepth 20000 in
theorem gX4_goesTo_X4_fitsHole : GoodIn wsX4_goesTo (wsV RX4 150 RX4 yX4_fitsHole wsX4_fitsHole) := goodIn_app (goodIn_of _ (by decide +kernel)) ggX4_goesTo_X4_fitsHole
set_option maxRecDepth 20000 in
theorem ggX4_go_X4_isGoer : GoodIn wsX4_go wsX4_isGoer := goodIn_r _ [8, 9, 38, 39, 40, 41, 42, 43, 44, 45, 46, 47, 48, 49, 50, 51, 52, 53, 54, 55, 56, 57, 58, 59, 60, 61, 62, 63, 64, 65, 66] (by decide +kernel) (by decide +kernel)
set_option maxRecDepth 20000 in
theorem gX4_go_X4_isGoer : GoodIn wsX4_go (wsV RX4 140 RX4 yX4_isGoer wsX4_isGoer) := goodIn_app (goodIn_of _ (by decide +kernel)) ggX4_go_X4_isGoer
set_option maxRecDepth 20000 in
theorem ggX4_go_X4_isField : GoodIn wsX4_go wsX4_isField := goodIn_r _ [13, 14, 38, 39, 40, 41, 42, 43, 44, 45, 46, 47, 48, 49, 50, 51, 52, 53, 54, 55, 56, 57, 58, 59, 60, 61, 62, 63, 64, 65, 66] (by decide +kernel) (by decide +kernel)
set_option maxRecDepth 20000 in
theorem gX4_go_X4_isField : GoodIn wsX4_go (wsV RX4 71 RX4 yX4_isField wsX4_isField) := goodIn_app (goodIn_of _ (by decide +kernel)) ggX4_go_X4_isField
set_option maxRecDepth 20000 in
theorem ggX4_go_X4_goesTo : GoodIn wsX4_go wsX4_goesTo := goodIn_r _ [18, 1, 19, 20, 21, 22, 7, 23, 10, 11, 12, 13, 14, 24, 25, 26, 27, 28, 29, 30, 31, 3, 32, 33, 34, 35, 36, 37, 38, 39, 40, 41, 42, 43, 44, 45, 46, 47, 48, 49, 50, 51, 52, 53, 54, 55, 56, 57, 58, 59, 60, 61, 62, 63, 64, 65, 66] (by decide +kernel) (by decide +kernel)
set_option maxRecDepth 20000 in
theorem gX4_go_X4_goesTo : GoodIn wsX4_go (wsV RX4 153 RX4 yX4_goesTo wsX4_goesTo) := goodIn_app (goodIn_of _ (by decide +kernel)) ggX4_go_X4_goesTo
set_option maxRecDepth 20000 in
theorem ggX4_go_X4_hedge : GoodIn wsX4_go wsX4_hedge := goodIn_r _ [27, 14, 38, 39, 40, 41, 42, 43, 44, 45, 46, 47, 48, 49, 50, 51, 52, 53, 54, 55, 56, 57, 58, 59, 60, 61, 62, 63, 64, 65, 66] (by decide +kernel) (by decide +kernel)
set_option maxRecDepth 20000 in
theorem gX4_go_X4_hedge : GoodIn wsX4_go (wsV RX4 146 RX4 yX4_hedge wsX4_hedge) := goodIn_app (goodIn_of _ (by decide +kernel)) ggX4_go_X4_hedge
set_option maxRecDepth 20000 in
theorem ggX4_go_X4_thickOf : GoodIn wsX4_go wsX4_thickOf := goodIn_r _ [35, 36, 37, 38, 39, 40, 41, 42, 43, 44, 45, 46, 47, 48, 49, 50, 51, 52, 53, 54, 55, 56, 57, 58, 59, 60, 61, 62, 63, 64, 65, 66] (by decide +kernel) (by decide +kernel)
set_option maxRecDepth 20000 in
theorem gX4_go_X4_thickOf : GoodIn wsX4_go (wsV RX4 137 RX4 yX4_thickOf wsX4_thickOf) := goodIn_app (goodIn_of _ (by decide +kernel)) ggX4_go_X4_thickOf
set_option maxRecDepth 20000 in
theorem ggX4_oneYear_X4_hedges : GoodIn wsX4_oneYear wsX4_hedges := goodIn_r _ [7, 8, 9, 10, 6, 11, 15, 16, 17, 18, 19, 20, 21, 22, 23, 24, 25, 26, 27, 28, 29, 30, 31, 32, 33, 34, 35, 36, 37, 38, 39, 40, 41, 42, 43] (by decide +kernel) (by decide +kernel)
set_option maxRecDepth 20000 in
theorem gX4_oneYear_X4_hedges : GoodIn wsX4_oneYear (wsV RX4 107 RX4 yX4_hedges wsX4_hedges) := goodIn_app (goodIn_of _ (by decide +kernel)) ggX4_oneYear_X4_hedges
set_option maxRecDepth 20000 in
theorem ggX4_oneYear_X4_isOf : GoodIn wsX4_oneYear wsX4_isOf := goodIn_r _ [14] (by decide +kernel) (by decide +kernel)
set_option maxRecDepth 20000 in
theorem gX4_oneYear_X4_isOf : GoodIn wsX4_oneYear (va_wsS RX4 156 yX4_isOf wsX4_isOf) := goodIn_app (goodIn_of _ (by decide +kernel)) ggX4_oneYear_X4_isOf
set_option maxRecDepth 20000 in
theorem ggX4_holesNow_X4_hedges : GoodIn wsX4_holesNow wsX4_hedges := goodIn_r _ [6, 7, 8, 9, 5, 10, 11, 12, 13, 14, 15, 16, 17, 18, 19, 20, 21, 22, 23, 24, 25, 26, 27, 28, 29, 30, 31, 32, 33, 34, 35, 36, 37, 38, 39] (by decide +kernel) (by decide +kernel)
set_option maxRecDepth 20000 in
theorem gX4_holesNow_X4_hedges : GoodIn wsX4_holesNow (wsV RX4 107 RX4 yX4_hedges wsX4_hedges) := goodIn_app (goodIn_of _ (by decide +kernel)) ggX4_holesNow_X4_hedges
set_option maxRecDepth 20000 in
theorem ggX4_years_X4_within : GoodIn wsX4_years wsX4_within := goodIn_r _ [6] (by decide +kernel) (by decide +kernel)
set_option maxRecDepth 20000 in
theorem gX4_years_X4_within : GoodIn wsX4_years (va_wsS RX4 64 yX4_within wsX4_within) := goodIn_app (goodIn_of _ (by decide +kernel)) ggX4_years_X4_within
set_option maxRecDepth 20000 in
theorem ggX4_years_X4_oneYear : GoodIn wsX4_years wsX4_oneYear := goodIn_r _ [10, 11, 12, 13, 14, 15, 5, 16, 1, 17, 18, 19, 20, 21, 22, 27, 28, 29, 30, 31, 32, 33, 34, 35, 36, 37, 38, 39, 40, 41, 42, 43, 44, 45, 46, 47, 48, 49, 50, 51, 52, 53, 54, 55] (by decide +kernel) (by decide +kernel)
set_option maxRecDepth 20000 in
theorem gX4_years_X4_oneYear : GoodIn wsX4_years (wsV RX4 159 RX4 yX4_oneYear wsX4_oneYear) := goodIn_app (goodIn_of _ (by decide +kernel)) ggX4_years_X4_oneYear
set_option maxRecDepth 20000 in
theorem ggX4_years_X4_holesNow : GoodIn wsX4_years wsX4_holesNow := goodIn_r _ [26, 12, 13, 14, 15, 5, 16, 1, 17, 18, 19, 27, 28, 29, 30, 31, 32, 33, 34, 35, 36, 37, 38, 39, 40, 41, 42, 43, 44, 45, 46, 47, 48, 49, 50, 51, 52, 53, 54, 55] (by decide +kernel) (by decide +kernel)
set_option maxRecDepth 20000 in
theorem gX4_years_X4_holesNow : GoodIn wsX4_years (wsV RX4 162 RX4 yX4_holesNow wsX4_holesNow) := goodIn_app (goodIn_of _ (by decide +kernel)) ggX4_years_X4_holesNow
set_option maxRecDepth 20000 in
theorem ggX4_stop_X4_areTwo : GoodIn wsX4_stop wsX4_areTwo := goodIn_r _ [6, 7, 8, 9, 5, 10, 11, 16, 17, 18, 19, 20, 21, 22, 23, 24, 25, 26, 27, 28, 29, 30, 31, 32, 33, 34, 35, 36, 37, 38, 39, 40, 41, 42, 43, 44] (by decide +kernel) (by decide +kernel)
set_option maxRecDepth 20000 in
theorem gX4_stop_X4_areTwo : GoodIn wsX4_stop (wsV RX4 143 RX4 yX4_areTwo wsX4_areTwo) := goodIn_app (goodIn_of _ (by decide +kernel)) ggX4_stop_X4_areTwo
set_option maxRecDepth 20000 in
theorem ggX4_stop_X4_hedge : GoodIn wsX4_stop wsX4_hedge := goodIn_r _ [15, 11, 16, 17, 18, 19, 20, 21, 22, 23, 24, 25, 26, 27, 28, 29, 30, 31, 32, 33, 34, 35, 36, 37, 38, 39, 40, 41, 42, 43, 44] (by decide +kernel) (by decide +kernel)
set_option maxRecDepth 20000 in
theorem gX4_stop_X4_hedge : GoodIn wsX4_stop (wsV RX4 146 RX4 yX4_hedge wsX4_hedge) := goodIn_app (goodIn_of _ (by decide +kernel)) ggX4_stop_X4_hedge
set_option maxRecDepth 20000 in
theorem ggX4_keepAll_X4_hedges : GoodIn wsX4_keepAll wsX4_hedges := goodIn_r _ [12, 13, 14, 15, 11, 16, 17, 18, 19, 20, 21, 22, 23, 24, 25, 26, 27, 28, 29, 30, 31, 32, 33, 34, 35, 36, 37, 38, 39, 40, 41, 42, 43, 44, 45] (by decide +kernel) (by decide +kernel)
set_option maxRecDepth 20000 in
theorem gX4_keepAll_X4_hedges : GoodIn wsX4_keepAll (wsV RX4 107 RX4 yX4_hedges wsX4_hedges) := goodIn_app (goodIn_of _ (by decide +kernel)) ggX4_keepAll_X4_hedges
set_option maxRecDepth 20000 in
theorem ggX4_putBack_X4_hedges : GoodIn wsX4_putBack wsX4_hedges := goodIn_r _ [12, 13, 14, 15, 11, 16, 17, 18, 19, 20, 21, 22, 23, 24, 25, 26, 27, 28, 29, 30, 31, 32, 33, 34, 35, 36, 37, 38, 39, 40, 41, 42, 43, 44, 45] (by decide +kernel) (by decide +kernel)
set_option maxRecDepth 20000 in
theorem gX4_putBack_X4_hedges : GoodIn wsX4_putBack (wsV RX4 107 RX4 yX4_hedges wsX4_hedges) := goodIn_app (goodIn_of _ (by decide +kernel)) ggX4_putBack_X4_hedges
set_option maxRecDepth 20000 in
theorem ggX4_does_X4_oneYear : GoodIn wsX4_does wsX4_oneYear := goodIn_r _ [7, 8, 1, 9, 10, 11, 6, 12, 13, 14, 15, 16, 17, 18, 19, 47, 48, 49, 50, 51, 52, 53, 54, 55, 56, 57, 58, 59, 60, 61, 62, 63, 64, 65, 66, 67, 68, 69, 70, 71, 72, 73, 74, 75] (by decide +kernel) (by decide +kernel)
set_option maxRecDepth 20000 in
theorem gX4_does_X4_oneYear : GoodIn wsX4_does (wsV RX4 159 RX4 yX4_oneYear wsX4_oneYear) := goodIn_app (goodIn_of _ (by decide +kernel)) ggX4_does_X4_oneYear
set_option maxRecDepth 20000 in
theorem ggX4_does_X4_hedges : GoodIn wsX4_does wsX4_hedges := goodIn_r _ [12, 13, 14, 15, 6, 16, 47, 48, 49, 50, 51, 52, 53, 54, 55, 56, 57, 58, 59, 60, 61, 62, 63, 64, 65, 66, 67, 68, 69, 70, 71, 72, 73, 74, 75] (by decide +kernel) (by decide +kernel)
set_option maxRecDepth 20000 in
theorem gX4_does_X4_hedges : GoodIn wsX4_does (wsV RX4 107 RX4 yX4_hedges wsX4_hedges) := goodIn_app (goodIn_of _ (by decide +kernel)) ggX4_does_X4_hedges
set_option maxRecDepth 20000 in
theorem ggX4_does_X4_goesTo : GoodIn wsX4_does wsX4_goesTo := goodIn_r _ [23, 24, 8, 25, 26, 27, 6, 28, 29, 30, 31, 32, 13, 33, 34, 35, 36, 37, 38, 39, 40, 1, 41, 42, 43, 44, 45, 46, 47, 48, 49, 50, 51, 52, 53, 54, 55, 56, 57, 58, 59, 60, 61, 62, 63, 64, 65, 66, 67, 68, 69, 70, 71, 72, 73, 74, 75] (by decide +kernel) (by decide +kernel)
set_option maxRecDepth 20000 in
theorem gX4_does_X4_goesTo : GoodIn wsX4_does (wsV RX4 153 RX4 yX4_goesTo wsX4_goesTo) := goodIn_app (goodIn_of _ (by decide +kernel)) ggX4_does_X4_goesTo
set_option maxRecDepth 20000 in
theorem ggX4_goSeason_X4_does : GoodIn wsX4_goSeason wsX4_does := goodIn_r _ [7, 8, 1, 9, 10, 11, 6, 12, 13, 14, 15, 16, 17, 18, 19, 20, 21, 22, 23, 24, 25, 26, 27, 28, 29, 30, 31, 32, 33, 34, 35, 36, 37, 38, 39, 40, 41, 42, 43, 44, 45, 46, 47, 48, 49, 50, 51, 52, 53, 54, 55, 56, 57, 58, 59, 60, 61, 62, 63, 64, 65, 66, 67, 68, 69, 70, 71, 72, 73, 74, 75, 76, 77, 78, 79, 80] (by decide +kernel) (by decide +kernel)
set_option maxRecDepth 20000 in
theorem gX4_goSeason_X4_does : GoodIn wsX4_goSeason (wsV RX4 171 RX4 yX4_does wsX4_does) := goodIn_app (goodIn_of _ (by decide +kernel)) ggX4_goSeason_X4_does
set_option maxRecDepth 20000 in
theorem ggX4_refusesPair_X4_within : GoodIn wsX4_refusesPair wsX4_within := goodIn_r _ [4] (by decide +kernel) (by decide +kernel)
set_option maxRecDepth 20000 in
theorem gX4_refusesPair_X4_within : GoodIn wsX4_refusesPair (va_wsS RX4 64 yX4_within wsX4_within) := goodIn_app (goodIn_of _ (by decide +kernel)) ggX4_refusesPair_X4_within
set_option maxRecDepth 20000 in
theorem ggX4_refusesPair_X4_isGoer : GoodIn wsX4_refusesPair wsX4_isGoer := goodIn_r _ [8, 9, 10, 11, 12, 13, 14, 15, 16, 17, 18, 19, 20, 21, 22, 23, 24, 25, 26, 27, 28, 29, 30, 31, 32, 33, 34, 35, 36, 37, 38] (by decide +kernel) (by decide +kernel)
set_option maxRecDepth 20000 in
theorem gX4_refusesPair_X4_isGoer : GoodIn wsX4_refusesPair (wsV RX4 140 RX4 yX4_isGoer wsX4_isGoer) := goodIn_app (goodIn_of _ (by decide +kernel)) ggX4_refusesPair_X4_isGoer
set_option maxRecDepth 20000 in
theorem ggX4_season_X4_isSheet : GoodIn wsX4_season wsX4_isSheet := goodIn_r _ [7, 8, 9, 6, 10] (by decide +kernel) (by decide +kernel)
set_option maxRecDepth 20000 in
theorem gX4_season_X4_isSheet : GoodIn wsX4_season (va_wsS RX4 85 yX4_isSheet wsX4_isSheet) := goodIn_app (goodIn_of _ (by decide +kernel)) ggX4_season_X4_isSheet
set_option maxRecDepth 20000 in
theorem ggX4_season_X4_isSort : GoodIn wsX4_season wsX4_isSort := goodIn_r _ [13, 8, 9, 6, 10] (by decide +kernel) (by decide +kernel)
set_option maxRecDepth 20000 in
theorem gX4_season_X4_isSort : GoodIn wsX4_season (va_wsS RX4 88 yX4_isSort wsX4_isSort) := goodIn_app (goodIn_of _ (by decide +kernel)) ggX4_season_X4_isSort
set_option maxRecDepth 20000 in
theorem ggX4_season_X4_within : GoodIn wsX4_season wsX4_within := goodIn_r _ [10] (by decide +kernel) (by decide +kernel)
set_option maxRecDepth 20000 in
theorem gX4_season_X4_within : GoodIn wsX4_season (va_wsS RX4 64 yX4_within wsX4_within) := goodIn_app (goodIn_of _ (by decide +kernel)) ggX4_season_X4_within
set_option maxRecDepth 20000 in
theorem ggX4_season_X4_against : GoodIn wsX4_season wsX4_against := goodIn_r _ [17, 18, 19, 104, 105, 106, 107, 108, 109, 110, 111, 112, 113, 114, 115, 116, 117, 118, 119, 120, 121, 122, 123, 124, 125, 126, 127, 128, 129, 130, 131, 132] (by decide +kernel) (by decide +kernel)
set_option maxRecDepth 20000 in
theorem gX4_season_X4_against : GoodIn wsX4_season (wsV RX4 91 RX4 yX4_against wsX4_against) := goodIn_app (goodIn_of _ (by decide +kernel)) ggX4_season_X4_against
set_option maxRecDepth 20000 in
theorem ggX4_season_X4_fails : GoodIn wsX4_season wsX4_fails := goodIn_r _ [23, 1, 104, 105, 106, 107, 108, 109, 110, 111, 112, 113, 114, 115, 116, 117, 118, 119, 120, 121, 122, 123, 124, 125, 126, 127, 128, 129, 130, 131, 132] (by decide +kernel) (by decide +kernel)
set_option maxRecDepth 20000 in
theorem gX4_season_X4_fails : GoodIn wsX4_season (wsV RX4 95 RX4 yX4_fails wsX4_fails) := goodIn_app (goodIn_of _ (by decide +kernel)) ggX4_season_X4_fails
set_option maxRecDepth 20000 in
theorem ggX4_season_X4_refusesPair : GoodIn wsX4_season wsX4_refusesPair := goodIn_r _ [27, 8, 9, 6, 10, 28, 29, 30, 31, 32, 104, 105, 106, 107, 108, 109, 110, 111, 112, 113, 114, 115, 116, 117, 118, 119, 120, 121, 122, 123, 124, 125, 126, 127, 128, 129, 130, 131, 132] (by decide +kernel) (by decide +kernel)
set_option maxRecDepth 20000 in
theorem gX4_season_X4_refusesPair : GoodIn wsX4_season (wsV RX4 174 RX4 yX4_refusesPair wsX4_refusesPair) := goodIn_app (goodIn_of _ (by decide +kernel)) ggX4_season_X4_refusesPair
set_option maxRecDepth 20000 in
theorem ggX4_season_X4_keepAll : GoodIn wsX4_season wsX4_keepAll := goodIn_r _ [36, 37, 38, 39, 40, 32, 41, 42, 43, 44, 45, 6, 46, 2, 47, 48, 49, 104, 105, 106, 107, 108, 109, 110, 111, 112, 113, 114, 115, 116, 117, 118, 119, 120, 121, 122, 123, 124, 125, 126, 127, 128, 129, 130, 131, 132] (by decide +kernel) (by decide +kernel)
set_option maxRecDepth 20000 in
theorem gX4_season_X4_keepAll : GoodIn wsX4_season (wsV RX4 177 RX4 yX4_keepAll wsX4_keepAll) := goodIn_app (goodIn_of _ (by decide +kernel)) ggX4_season_X4_keepAll
set_option maxRecDepth 20000 in
theorem ggX4_season_X4_goSeason : GoodIn wsX4_season wsX4_goSeason := goodIn_r _ [53, 54, 3, 55, 56, 57, 6, 58, 40, 59, 60, 61, 62, 37, 43, 44, 45, 46, 2, 47, 48, 49, 63, 64, 65, 66, 67, 68, 69, 42, 70, 71, 72, 73, 74, 75, 76, 77, 78, 79, 80, 81, 82, 83, 84, 85, 86, 87, 88, 89, 90, 91, 104, 105, 106, 107, 108, 109, 110, 111, 112, 113, 114, 115, 116, 117, 118, 119, 120, 121, 122, 123, 124, 125, 126, 127, 128, 129, 130, 131, 132] (by decide +kernel) (by decide +kernel)
set_option maxRecDepth 20000 in
theorem gX4_season_X4_goSeason : GoodIn wsX4_season (wsV RX4 180 RX4 yX4_goSeason wsX4_goSeason) := goodIn_app (goodIn_of _ (by decide +kernel)) ggX4_season_X4_goSeason
set_option maxRecDepth 20000 in
theorem ggX4_season_X4_tellSeason : GoodIn wsX4_season wsX4_tellSeason := goodIn_r _ [95, 42, 37, 54, 32, 28, 29, 30, 6, 31, 96, 97, 98, 99, 40, 43, 44, 45, 46, 2, 47, 48, 49, 104, 105, 106, 107, 108, 109, 110, 111, 112, 113, 114, 115, 116, 117, 118, 119, 120, 121, 122, 123, 124, 125, 126, 127, 128, 129, 130, 131, 132] (by decide +kernel) (by decide +kernel)
set_option maxRecDepth 20000 in
theorem gX4_season_X4_tellSeason : GoodIn wsX4_season (wsV RX4 183 RX4 yX4_tellSeason wsX4_tellSeason) := goodIn_app (goodIn_of _ (by decide +kernel)) ggX4_season_X4_tellSeason
set_option maxRecDepth 20000 in
theorem ggX4_season_X4_putBack : GoodIn wsX4_season wsX4_putBack := goodIn_r _ [103, 38, 37, 40, 39, 32, 42, 41, 43, 44, 45, 6, 46, 2, 47, 48, 49, 104, 105, 106, 107, 108, 109, 110, 111, 112, 113, 114, 115, 116, 117, 118, 119, 120, 121, 122, 123, 124, 125, 126, 127, 128, 129, 130, 131, 132] (by decide +kernel) (by decide +kernel)
set_option maxRecDepth 20000 in
theorem gX4_season_X4_putBack : GoodIn wsX4_season (wsV RX4 186 RX4 yX4_putBack wsX4_putBack) := goodIn_app (goodIn_of _ (by decide +kernel)) ggX4_season_X4_putBack
set_option maxRecDepth 20000 in
theorem ggX4_tellSeason_X4_isGoer : GoodIn wsX4_tellSeason wsX4_isGoer := goodIn_r _ [9, 4, 23, 24, 25, 26, 27, 28, 29, 30, 31, 32, 33, 34, 35, 36, 37, 38, 39, 40, 41, 42, 43, 44, 45, 46, 47, 48, 49, 50, 51] (by decide +kernel) (by decide +kernel)
set_option maxRecDepth 20000 in
theorem gX4_tellSeason_X4_isGoer : GoodIn wsX4_tellSeason (wsV RX4 140 RX4 yX4_isGoer wsX4_isGoer) := goodIn_app (goodIn_of _ (by decide +kernel)) ggX4_tellSeason_X4_isGoer
set_option maxRecDepth 20000 in
theorem ggX4_tellSeason_X4_holesNow : GoodIn wsX4_tellSeason wsX4_holesNow := goodIn_r _ [13, 14, 15, 16, 17, 8, 18, 19, 20, 21, 22, 23, 24, 25, 26, 27, 28, 29, 30, 31, 32, 33, 34, 35, 36, 37, 38, 39, 40, 41, 42, 43, 44, 45, 46, 47, 48, 49, 50, 51] (by decide +kernel) (by decide +kernel)
set_option maxRecDepth 20000 in
theorem gX4_tellSeason_X4_holesNow : GoodIn wsX4_tellSeason (wsV RX4 162 RX4 yX4_holesNow wsX4_holesNow) := goodIn_app (goodIn_of _ (by decide +kernel)) ggX4_tellSeason_X4_holesNow
set_option maxRecDepth 20000 in
theorem ggX4_reached_X4_isOf : GoodIn wsX4_reached wsX4_isOf := goodIn_r _ [6] (by decide +kernel) (by decide +kernel)
set_option maxRecDepth 20000 in
theorem gX4_reached_X4_isOf : GoodIn wsX4_reached (va_wsS RX4 156 yX4_isOf wsX4_isOf) := goodIn_app (goodIn_of _ (by decide +kernel)) ggX4_reached_X4_isOf
set_option maxRecDepth 20000 in
theorem ggX4_reached_X4_hedge : GoodIn wsX4_reached wsX4_hedge := goodIn_r _ [10, 1, 11, 12, 13, 14, 15, 16, 17, 18, 19, 20, 21, 22, 23, 24, 25, 26, 27, 28, 29, 30, 31, 32, 33, 34, 35, 36, 37, 38, 39] (by decide +kernel) (by decide +kernel)
set_option maxRecDepth 20000 in
theorem gX4_reached_X4_hedge : GoodIn wsX4_reached (wsV RX4 146 RX4 yX4_hedge wsX4_hedge) := goodIn_app (goodIn_of _ (by decide +kernel)) ggX4_reached_X4_hedge
set_option maxRecDepth 20000 in
theorem ggX4_wantsOf_X4_thickOf : GoodIn wsX4_wantsOf wsX4_thickOf := goodIn_r _ [5, 6, 7, 8, 9, 10, 11, 12, 13, 14, 15, 16, 17, 18, 19, 20, 21, 22, 23, 24, 25, 26, 27, 28, 29, 30, 31, 32, 33, 34, 35, 36] (by decide +kernel) (by decide +kernel)
set_option maxRecDepth 20000 in
theorem gX4_wantsOf_X4_thickOf : GoodIn wsX4_wantsOf (wsV RX4 137 RX4 yX4_thickOf wsX4_thickOf) := goodIn_app (goodIn_of _ (by decide +kernel)) ggX4_wantsOf_X4_thickOf
set_option maxRecDepth 20000 in
theorem ggX4_reachedBy_X4_wantsOf : GoodIn wsX4_reachedBy wsX4_wantsOf := goodIn_r _ [6, 7, 8, 9, 5, 10, 11, 12, 26, 27, 28, 29, 30, 31, 32, 33, 34, 35, 36, 37, 38, 39, 40, 41, 42, 43, 44, 45, 46, 47, 48, 49, 50, 51, 52, 53, 54] (by decide +kernel) (by decide +kernel)
set_option maxRecDepth 20000 in
theorem gX4_reachedBy_X4_wantsOf : GoodIn wsX4_reachedBy (wsV RX4 189 RX4 yX4_wantsOf wsX4_wantsOf) := goodIn_app (goodIn_of _ (by decide +kernel)) ggX4_reachedBy_X4_wantsOf
set_option maxRecDepth 20000 in
theorem ggX4_reachedBy_X4_reached : GoodIn wsX4_reachedBy wsX4_reached := goodIn_r _ [16, 17, 18, 19, 20, 5, 21, 22, 23, 24, 25, 26, 27, 28, 29, 30, 31, 32, 33, 34, 35, 36, 37, 38, 39, 40, 41, 42, 43, 44, 45, 46, 47, 48, 49, 50, 51, 52, 53, 54] (by decide +kernel) (by decide +kernel)
set_option maxRecDepth 20000 in
theorem gX4_reachedBy_X4_reached : GoodIn wsX4_reachedBy (wsV RX4 192 RX4 yX4_reached wsX4_reached) := goodIn_app (goodIn_of _ (by decide +kernel)) ggX4_reachedBy_X4_reached
set_option maxRecDepth 20000 in
theorem ggX4_widest_X4_areTwo : GoodIn wsX4_widest wsX4_areTwo := goodIn_r _ [5, 6, 7, 8, 4, 9, 10, 23, 24, 25, 26, 27, 28, 29, 30, 31, 32, 33, 34, 35, 36, 37, 38, 39, 40, 41, 42, 43, 44, 45, 46, 47, 48, 49, 50, 51] (by decide +kernel) (by decide +kernel)
set_option maxRecDepth 20000 in
theorem gX4_widest_X4_areTwo : GoodIn wsX4_widest (wsV RX4 143 RX4 yX4_areTwo wsX4_areTwo) := goodIn_app (goodIn_of _ (by decide +kernel)) ggX4_widest_X4_areTwo
set_option maxRecDepth 20000 in
theorem ggX4_widest_X4_reached : GoodIn wsX4_widest wsX4_reached := goodIn_r _ [14, 10, 15, 16, 17, 4, 18, 19, 20, 21, 22, 23, 24, 25, 26, 27, 28, 29, 30, 31, 32, 33, 34, 35, 36, 37, 38, 39, 40, 41, 42, 43, 44, 45, 46, 47, 48, 49, 50, 51] (by decide +kernel) (by decide +kernel)
set_option maxRecDepth 20000 in
theorem gX4_widest_X4_reached : GoodIn wsX4_widest (wsV RX4 192 RX4 yX4_reached wsX4_reached) := goodIn_app (goodIn_of _ (by decide +kernel)) ggX4_widest_X4_reached
set_option maxRecDepth 20000 in
theorem ggX4_widest_X4_isOf : GoodIn wsX4_widest wsX4_isOf := goodIn_r _ [18] (by decide +kernel) (by decide +kernel)
set_option maxRecDepth 20000 in
theorem gX4_widest_X4_isOf : GoodIn wsX4_widest (va_wsS RX4 156 yX4_isOf wsX4_isOf) := goodIn_app (goodIn_of _ (by decide +kernel)) ggX4_widest_X4_isOf
set_option maxRecDepth 20000 in
theorem ggX4_findFar_X4_hedge : GoodIn wsX4_findFar wsX4_hedge := goodIn_r _ [7, 1, 19, 20, 21, 22, 23, 24, 25, 26, 27, 28, 29, 30, 31, 32, 33, 34, 35, 36, 37, 38, 39, 40, 41, 42, 43, 44, 45, 46, 47] (by decide +kernel) (by decide +kernel)
set_option maxRecDepth 20000 in
theorem gX4_findFar_X4_hedge : GoodIn wsX4_findFar (wsV RX4 146 RX4 yX4_hedge wsX4_hedge) := goodIn_app (goodIn_of _ (by decide +kernel)) ggX4_findFar_X4_hedge
set_option maxRecDepth 20000 in
theorem ggX4_findFar_X4_fitsHole : GoodIn wsX4_findFar wsX4_fitsHole := goodIn_r _ [11, 12, 13, 14, 15, 6, 16, 17, 18, 19, 20, 21, 22, 23, 24, 25, 26, 27, 28, 29, 30, 31, 32, 33, 34, 35, 36, 37, 38, 39, 40, 41, 42, 43, 44, 45, 46, 47] (by decide +kernel) (by decide +kernel)
set_option maxRecDepth 20000 in
theorem gX4_findFar_X4_fitsHole : GoodIn wsX4_findFar (wsV RX4 150 RX4 yX4_fitsHole wsX4_fitsHole) := goodIn_app (goodIn_of _ (by decide +kernel)) ggX4_findFar_X4_fitsHole
set_option maxRecDepth 20000 in
theorem ggX4_way_X4_isGoer : GoodIn wsX4_way wsX4_isGoer := goodIn_r _ [7, 8, 36, 37, 38, 39, 40, 41, 42, 43, 44, 45, 46, 47, 48, 49, 50, 51, 52, 53, 54, 55, 56, 57, 58, 59, 60, 61, 62, 63, 64] (by decide +kernel) (by decide +kernel)
set_option maxRecDepth 20000 in
theorem gX4_way_X4_isGoer : GoodIn wsX4_way (wsV RX4 140 RX4 yX4_isGoer wsX4_isGoer) := goodIn_app (goodIn_of _ (by decide +kernel)) ggX4_way_X4_isGoer
set_option maxRecDepth 20000 in
theorem ggX4_way_X4_isField : GoodIn wsX4_way wsX4_isField := goodIn_r _ [12, 13, 36, 37, 38, 39, 40, 41, 42, 43, 44, 45, 46, 47, 48, 49, 50, 51, 52, 53, 54, 55, 56, 57, 58, 59, 60, 61, 62, 63, 64] (by decide +kernel) (by decide +kernel)
set_option maxRecDepth 20000 in
theorem gX4_way_X4_isField : GoodIn wsX4_way (wsV RX4 71 RX4 yX4_isField wsX4_isField) := goodIn_app (goodIn_of _ (by decide +kernel)) ggX4_way_X4_isField
set_option maxRecDepth 20000 in
theorem ggX4_way_X4_within : GoodIn wsX4_way wsX4_within := goodIn_r _ [16] (by decide +kernel) (by decide +kernel)
set_option maxRecDepth 20000 in
theorem gX4_way_X4_within : GoodIn wsX4_way (va_wsS RX4 64 yX4_within wsX4_within) := goodIn_app (goodIn_of _ (by decide +kernel)) ggX4_way_X4_within
set_option maxRecDepth 20000 in
theorem ggX4_way_X4_findFar : GoodIn wsX4_way wsX4_findFar := goodIn_r _ [20, 13, 2, 21, 22, 23, 6, 24, 25, 26, 27, 28, 29, 30, 31, 32, 33, 34, 35, 36, 37, 38, 39, 40, 41, 42, 43, 44, 45, 46, 47, 48, 49, 50, 51, 52, 53, 54, 55, 56, 57, 58, 59, 60, 61, 62, 63, 64] (by decide +kernel) (by decide +kernel)
set_option maxRecDepth 20000 in
theorem gX4_way_X4_findFar : GoodIn wsX4_way (wsV RX4 195 RX4 yX4_findFar wsX4_findFar) := goodIn_app (goodIn_of _ (by decide +kernel)) ggX4_way_X4_findFar
set_option maxRecDepth 20000 in
theorem ggX4_way_X4_hedge : GoodIn wsX4_way wsX4_hedge := goodIn_r _ [24, 13, 36, 37, 38, 39, 40, 41, 42, 43, 44, 45, 46, 47, 48, 49, 50, 51, 52, 53, 54, 55, 56, 57, 58, 59, 60, 61, 62, 63, 64] (by decide +kernel) (by decide +kernel)
set_option maxRecDepth 20000 in
theorem gX4_way_X4_hedge : GoodIn wsX4_way (wsV RX4 146 RX4 yX4_hedge wsX4_hedge) := goodIn_app (goodIn_of _ (by decide +kernel)) ggX4_way_X4_hedge
set_option maxRecDepth 20000 in
theorem ggX4_way_X4_fitsHole : GoodIn wsX4_way wsX4_fitsHole := goodIn_r _ [28, 29, 30, 31, 32, 6, 33, 34, 35, 36, 37, 38, 39, 40, 41, 42, 43, 44, 45, 46, 47, 48, 49, 50, 51, 52, 53, 54, 55, 56, 57, 58, 59, 60, 61, 62, 63, 64] (by decide +kernel) (by decide +kernel)
set_option maxRecDepth 20000 in
theorem gX4_way_X4_fitsHole : GoodIn wsX4_way (wsV RX4 150 RX4 yX4_fitsHole wsX4_fitsHole) := goodIn_app (goodIn_of _ (by decide +kernel)) ggX4_way_X4_fitsHole
set_option maxRecDepth 20000 in
theorem ggX4_market_X4_within : GoodIn wsX4_market wsX4_within := goodIn_r _ [6] (by decide +kernel) (by decide +kernel)
set_option maxRecDepth 20000 in
theorem gX4_market_X4_within : GoodIn wsX4_market (va_wsS RX4 64 yX4_within wsX4_within) := goodIn_app (goodIn_of _ (by decide +kernel)) ggX4_market_X4_within
set_option maxRecDepth 20000 in
theorem ggX4_market_X4_reachedBy : GoodIn wsX4_market wsX4_reachedBy := goodIn_r _ [10, 11, 12, 13, 14, 5, 15, 16, 17, 18, 19, 20, 21, 22, 23, 24, 25, 1, 26, 27, 28, 29, 30, 31, 32, 33, 37, 38, 39, 40, 41, 42, 43, 44, 45, 46, 47, 48, 49, 50, 51, 52, 53, 54, 55, 56, 57, 58, 59, 60, 61, 62, 63, 64, 65] (by decide +kernel) (by decide +kernel)
set_option maxRecDepth 20000 in
theorem gX4_market_X4_reachedBy : GoodIn wsX4_market (wsV RX4 199 RX4 yX4_reachedBy wsX4_reachedBy) := goodIn_app (goodIn_of _ (by decide +kernel)) ggX4_market_X4_reachedBy
set_option maxRecDepth 20000 in
theorem ggX4_market_X4_isOf : GoodIn wsX4_market wsX4_isOf := goodIn_r _ [29] (by decide +kernel) (by decide +kernel)
set_option maxRecDepth 20000 in
theorem gX4_market_X4_isOf : GoodIn wsX4_market (va_wsS RX4 156 yX4_isOf wsX4_isOf) := goodIn_app (goodIn_of _ (by decide +kernel)) ggX4_market_X4_isOf
set_option maxRecDepth 20000 in
theorem ggX4_market_X4_size : GoodIn wsX4_market wsX4_size := goodIn_r _ [36] (by decide +kernel) (by decide +kernel)
set_option maxRecDepth 20000 in
theorem gX4_market_X4_size : GoodIn wsX4_market (va_wsS RX4 202 yX4_size wsX4_size) := goodIn_app (goodIn_of _ (by decide +kernel)) ggX4_market_X4_size
set_option maxRecDepth 20000 in
theorem ggX4_widen_X4_isGoer : GoodIn wsX4_widen wsX4_isGoer := goodIn_r _ [9, 10, 29, 30, 31, 32, 33, 34, 35, 36, 37, 38, 39, 40, 41, 42, 43, 44, 45, 46, 47, 48, 49, 50, 51, 52, 53, 54, 55, 56, 57] (by decide +kernel) (by decide +kernel)
set_option maxRecDepth 20000 in
theorem gX4_widen_X4_isGoer : GoodIn wsX4_widen (wsV RX4 140 RX4 yX4_isGoer wsX4_isGoer) := goodIn_app (goodIn_of _ (by decide +kernel)) ggX4_widen_X4_isGoer
set_option maxRecDepth 20000 in
theorem ggX4_widen_X4_isField : GoodIn wsX4_widen wsX4_isField := goodIn_r _ [14, 1, 29, 30, 31, 32, 33, 34, 35, 36, 37, 38, 39, 40, 41, 42, 43, 44, 45, 46, 47, 48, 49, 50, 51, 52, 53, 54, 55, 56, 57] (by decide +kernel) (by decide +kernel)
set_option maxRecDepth 20000 in
theorem gX4_widen_X4_isField : GoodIn wsX4_widen (wsV RX4 71 RX4 yX4_isField wsX4_isField) := goodIn_app (goodIn_of _ (by decide +kernel)) ggX4_widen_X4_isField
set_option maxRecDepth 20000 in
theorem ggX4_widen_X4_hedge : GoodIn wsX4_widen wsX4_hedge := goodIn_r _ [18, 1, 29, 30, 31, 32, 33, 34, 35, 36, 37, 38, 39, 40, 41, 42, 43, 44, 45, 46, 47, 48, 49, 50, 51, 52, 53, 54, 55, 56, 57] (by decide +kernel) (by decide +kernel)
set_option maxRecDepth 20000 in
theorem gX4_widen_X4_hedge : GoodIn wsX4_widen (wsV RX4 146 RX4 yX4_hedge wsX4_hedge) := goodIn_app (goodIn_of _ (by decide +kernel)) ggX4_widen_X4_hedge
set_option maxRecDepth 20000 in
theorem ggX4_widen_X4_fitsHole : GoodIn wsX4_widen wsX4_fitsHole := goodIn_r _ [22, 4, 23, 24, 25, 8, 26, 27, 28, 29, 30, 31, 32, 33, 34, 35, 36, 37, 38, 39, 40, 41, 42, 43, 44, 45, 46, 47, 48, 49, 50, 51, 52, 53, 54, 55, 56, 57] (by decide +kernel) (by decide +kernel)
set_option maxRecDepth 20000 in
theorem gX4_widen_X4_fitsHole : GoodIn wsX4_widen (wsV RX4 150 RX4 yX4_fitsHole wsX4_fitsHole) := goodIn_app (goodIn_of _ (by decide +kernel)) ggX4_widen_X4_fitsHole
set_option maxRecDepth 20000 in
theorem ggX4_keep_X4_isGoer : GoodIn wsX4_keep wsX4_isGoer := goodIn_r _ [6, 7, 45, 46, 47, 48, 49, 50, 51, 52, 53, 54, 55, 56, 57, 58, 59, 60, 61, 62, 63, 64, 65, 66, 67, 68, 69, 70, 71, 72, 73] (by decide +kernel) (by decide +kernel)
set_option maxRecDepth 20000 in
theorem gX4_keep_X4_isGoer : GoodIn wsX4_keep (wsV RX4 140 RX4 yX4_isGoer wsX4_isGoer) := goodIn_app (goodIn_of _ (by decide +kernel)) ggX4_keep_X4_isGoer
set_option maxRecDepth 20000 in
theorem ggX4_keep_X4_isField : GoodIn wsX4_keep wsX4_isField := goodIn_r _ [11, 12, 45, 46, 47, 48, 49, 50, 51, 52, 53, 54, 55, 56, 57, 58, 59, 60, 61, 62, 63, 64, 65, 66, 67, 68, 69, 70, 71, 72, 73] (by decide +kernel) (by decide +kernel)
set_option maxRecDepth 20000 in
theorem gX4_keep_X4_isField : GoodIn wsX4_keep (wsV RX4 71 RX4 yX4_isField wsX4_isField) := goodIn_app (goodIn_of _ (by decide +kernel)) ggX4_keep_X4_isField
set_option maxRecDepth 20000 in
theorem ggX4_keep_X4_hedges : GoodIn wsX4_keep wsX4_hedges := goodIn_r _ [16, 12, 17, 18, 5, 19, 45, 46, 47, 48, 49, 50, 51, 52, 53, 54, 55, 56, 57, 58, 59, 60, 61, 62, 63, 64, 65, 66, 67, 68, 69, 70, 71, 72, 73] (by decide +kernel) (by decide +kernel)
set_option maxRecDepth 20000 in
theorem gX4_keep_X4_hedges : GoodIn wsX4_keep (wsV RX4 107 RX4 yX4_hedges wsX4_hedges) := goodIn_app (goodIn_of _ (by decide +kernel)) ggX4_keep_X4_hedges
set_option maxRecDepth 20000 in
theorem ggX4_keep_X4_size : GoodIn wsX4_keep wsX4_size := goodIn_r _ [22] (by decide +kernel) (by decide +kernel)
set_option maxRecDepth 20000 in
theorem gX4_keep_X4_size : GoodIn wsX4_keep (va_wsS RX4 202 yX4_size wsX4_size) := goodIn_app (goodIn_of _ (by decide +kernel)) ggX4_keep_X4_size
set_option maxRecDepth 20000 in
theorem ggX4_keep_X4_wantsOf : GoodIn wsX4_keep wsX4_wantsOf := goodIn_r _ [26, 27, 28, 29, 5, 30, 31, 32, 45, 46, 47, 48, 49, 50, 51, 52, 53, 54, 55, 56, 57, 58, 59, 60, 61, 62, 63, 64, 65, 66, 67, 68, 69, 70, 71, 72, 73] (by decide +kernel) (by decide +kernel)
set_option maxRecDepth 20000 in
theorem gX4_keep_X4_wantsOf : GoodIn wsX4_keep (wsV RX4 189 RX4 yX4_wantsOf wsX4_wantsOf) := goodIn_app (goodIn_of _ (by decide +kernel)) ggX4_keep_X4_wantsOf
set_option maxRecDepth 20000 in
theorem ggX4_keep_X4_reached : GoodIn wsX4_keep wsX4_reached := goodIn_r _ [36, 12, 37, 38, 39, 5, 40, 41, 42, 43, 44, 45, 46, 47, 48, 49, 50, 51, 52, 53, 54, 55, 56, 57, 58, 59, 60, 61, 62, 63, 64, 65, 66, 67, 68, 69, 70, 71, 72, 73] (by decide +kernel) (by decide +kernel)
set_option maxRecDepth 20000 in
theorem gX4_keep_X4_reached : GoodIn wsX4_keep (wsV RX4 192 RX4 yX4_reached wsX4_reached) := goodIn_app (goodIn_of _ (by decide +kernel)) ggX4_keep_X4_reached
set_option maxRecDepth 20000 in
theorem ggX4_keep_X4_isOf : GoodIn wsX4_keep wsX4_isOf := goodIn_r _ [40] (by decide +kernel) (by decide +kernel)
set_option maxRecDepth 20000 in
theorem gX4_keep_X4_isOf : GoodIn wsX4_keep (va_wsS RX4 156 yX4_isOf wsX4_isOf) := goodIn_app (goodIn_of _ (by decide +kernel)) ggX4_keep_X4_isOf
set_option maxRecDepth 20000 in
theorem ggX4_reading_X4_isGoer : GoodIn wsX4_reading wsX4_isGoer := goodIn_r _ [9, 10, 27, 28, 29, 30, 31, 32, 33, 34, 35, 36, 37, 38, 39, 40, 41, 42, 43, 44, 45, 46, 47, 48, 49, 50, 51, 52, 53, 54, 55] (by decide +kernel) (by decide +kernel)
set_option maxRecDepth 20000 in
theorem gX4_reading_X4_isGoer : GoodIn wsX4_reading (wsV RX4 140 RX4 yX4_isGoer wsX4_isGoer) := goodIn_app (goodIn_of _ (by decide +kernel)) ggX4_reading_X4_isGoer
set_option maxRecDepth 20000 in
theorem ggX4_reading_X4_areTwo : GoodIn wsX4_reading wsX4_areTwo := goodIn_r _ [14, 15, 16, 17, 8, 18, 19, 27, 28, 29, 30, 31, 32, 33, 34, 35, 36, 37, 38, 39, 40, 41, 42, 43, 44, 45, 46, 47, 48, 49, 50, 51, 52, 53, 54, 55] (by decide +kernel) (by decide +kernel)
set_option maxRecDepth 20000 in
theorem gX4_reading_X4_areTwo : GoodIn wsX4_reading (wsV RX4 143 RX4 yX4_areTwo wsX4_areTwo) := goodIn_app (goodIn_of _ (by decide +kernel)) ggX4_reading_X4_areTwo
set_option maxRecDepth 20000 in
theorem ggX4_reading_X4_within : GoodIn wsX4_reading wsX4_within := goodIn_r _ [22] (by decide +kernel) (by decide +kernel)
set_option maxRecDepth 20000 in
theorem gX4_reading_X4_within : GoodIn wsX4_reading (va_wsS RX4 64 yX4_within wsX4_within) := goodIn_app (goodIn_of _ (by decide +kernel)) ggX4_reading_X4_within
set_option maxRecDepth 20000 in
theorem ggX4_reading_X4_hedge : GoodIn wsX4_reading wsX4_hedge := goodIn_r _ [26, 19, 27, 28, 29, 30, 31, 32, 33, 34, 35, 36, 37, 38, 39, 40, 41, 42, 43, 44, 45, 46, 47, 48, 49, 50, 51, 52, 53, 54, 55] (by decide +kernel) (by decide +kernel)
set_option maxRecDepth 20000 in
theorem gX4_reading_X4_hedge : GoodIn wsX4_reading (wsV RX4 146 RX4 yX4_hedge wsX4_hedge) := goodIn_app (goodIn_of _ (by decide +kernel)) ggX4_reading_X4_hedge
set_option maxRecDepth 20000 in
theorem ggX4_back_X4_within : GoodIn wsX4_back wsX4_within := goodIn_r _ [5] (by decide +kernel) (by decide +kernel)
set_option maxRecDepth 20000 in
theorem gX4_back_X4_within : GoodIn wsX4_back (va_wsS RX4 64 yX4_within wsX4_within) := goodIn_app (goodIn_of _ (by decide +kernel)) ggX4_back_X4_within
set_option maxRecDepth 20000 in
theorem ggX4_areSo_X4_fitsHole : GoodIn wsX4_areSo wsX4_fitsHole := goodIn_r _ [9, 10, 11, 12, 13, 8, 14, 15, 16, 17, 18, 19, 20, 21, 22, 23, 24, 25, 26, 27, 28, 29, 30, 31, 32, 33, 34, 35, 36, 37, 38, 39, 40, 41, 42, 43, 44, 45] (by decide +kernel) (by decide +kernel)
set_option maxRecDepth 20000 in
theorem gX4_areSo_X4_fitsHole : GoodIn wsX4_areSo (wsV RX4 150 RX4 yX4_fitsHole wsX4_fitsHole) := goodIn_app (goodIn_of _ (by decide +kernel)) ggX4_areSo_X4_fitsHole
set_option maxRecDepth 20000 in
theorem ggX4_girths_X4_isGoer : GoodIn wsX4_girths wsX4_isGoer := goodIn_r _ [6, 7, 26, 27, 28, 29, 30, 31, 32, 33, 34, 35, 36, 37, 38, 39, 40, 41, 42, 43, 44, 45, 46, 47, 48, 49, 50, 51, 52, 53, 54] (by decide +kernel) (by decide +kernel)
set_option maxRecDepth 20000 in
theorem gX4_girths_X4_isGoer : GoodIn wsX4_girths (wsV RX4 140 RX4 yX4_isGoer wsX4_isGoer) := goodIn_app (goodIn_of _ (by decide +kernel)) ggX4_girths_X4_isGoer
set_option maxRecDepth 20000 in
theorem ggX4_girths_X4_areSo : GoodIn wsX4_girths wsX4_areSo := goodIn_r _ [11, 12, 13, 14, 15, 16, 17, 18, 5, 19, 20, 21, 22, 23, 24, 25, 1, 26, 27, 28, 29, 30, 31, 32, 33, 34, 35, 36, 37, 38, 39, 40, 41, 42, 43, 44, 45, 46, 47, 48, 49, 50, 51, 52, 53, 54] (by decide +kernel) (by decide +kernel)
set_option maxRecDepth 20000 in
theorem gX4_girths_X4_areSo : GoodIn wsX4_girths (wsV RX4 205 RX4 yX4_areSo wsX4_areSo) := goodIn_app (goodIn_of _ (by decide +kernel)) ggX4_girths_X4_areSo
set_option maxRecDepth 20000 in
theorem ggX4_kinds_X4_isGoer : GoodIn wsX4_kinds wsX4_isGoer := goodIn_r _ [6, 7, 26, 27, 28, 29, 30, 31, 32, 33, 34, 35, 36, 37, 38, 39, 40, 41, 42, 43, 44, 45, 46, 47, 48, 49, 50, 51, 52, 53, 54] (by decide +kernel) (by decide +kernel)
set_option maxRecDepth 20000 in
theorem gX4_kinds_X4_isGoer : GoodIn wsX4_kinds (wsV RX4 140 RX4 yX4_isGoer wsX4_isGoer) := goodIn_app (goodIn_of _ (by decide +kernel)) ggX4_kinds_X4_isGoer
set_option maxRecDepth 20000 in
theorem ggX4_kinds_X4_areSo : GoodIn wsX4_kinds wsX4_areSo := goodIn_r _ [11, 12, 13, 14, 15, 16, 17, 18, 5, 19, 20, 21, 22, 23, 24, 1, 25, 26, 27, 28, 29, 30, 31, 32, 33, 34, 35, 36, 37, 38, 39, 40, 41, 42, 43, 44, 45, 46, 47, 48, 49, 50, 51, 52, 53, 54] (by decide +kernel) (by decide +kernel)
set_option maxRecDepth 20000 in
theorem gX4_kinds_X4_areSo : GoodIn wsX4_kinds (wsV RX4 205 RX4 yX4_areSo wsX4_areSo) := goodIn_app (goodIn_of _ (by decide +kernel)) ggX4_kinds_X4_areSo
set_option maxRecDepth 20000 in
theorem ggX4_holes_X4_areTwo : GoodIn wsX4_holes wsX4_areTwo := goodIn_r _ [6, 7, 8, 9, 5, 10, 11, 34, 35, 36, 37, 38, 39, 40, 41, 42, 43, 44, 45, 46, 47, 48, 49, 50, 51, 52, 53, 54, 55, 56, 57, 58, 59, 60, 61, 62] (by decide +kernel) (by decide +kernel)
set_option maxRecDepth 20000 in
theorem gX4_holes_X4_areTwo : GoodIn wsX4_holes (wsV RX4 143 RX4 yX4_areTwo wsX4_areTwo) := goodIn_app (goodIn_of _ (by decide +kernel)) ggX4_holes_X4_areTwo
set_option maxRecDepth 20000 in
theorem ggX4_holes_X4_hedge : GoodIn wsX4_holes wsX4_hedge := goodIn_r _ [15, 11, 34, 35, 36, 37, 38, 39, 40, 41, 42, 43, 44, 45, 46, 47, 48, 49, 50, 51, 52, 53, 54, 55, 56, 57, 58, 59, 60, 61, 62] (by decide +kernel) (by decide +kernel)
set_option maxRecDepth 20000 in
theorem gX4_holes_X4_hedge : GoodIn wsX4_holes (wsV RX4 146 RX4 yX4_hedge wsX4_hedge) := goodIn_app (goodIn_of _ (by decide +kernel)) ggX4_holes_X4_hedge
set_option maxRecDepth 20000 in
theorem ggX4_holes_X4_areSo : GoodIn wsX4_holes wsX4_areSo := goodIn_r _ [19, 20, 21, 22, 23, 24, 25, 26, 5, 27, 1, 28, 29, 30, 31, 32, 33, 34, 35, 36, 37, 38, 39, 40, 41, 42, 43, 44, 45, 46, 47, 48, 49, 50, 51, 52, 53, 54, 55, 56, 57, 58, 59, 60, 61, 62] (by decide +kernel) (by decide +kernel)
set_option maxRecDepth 20000 in
theorem gX4_holes_X4_areSo : GoodIn wsX4_holes (wsV RX4 205 RX4 yX4_areSo wsX4_areSo) := goodIn_app (goodIn_of _ (by decide +kernel)) ggX4_holes_X4_areSo
set_option maxRecDepth 20000 in
theorem ggX4_odds_X4_isGoer : GoodIn wsX4_odds wsX4_isGoer := goodIn_r _ [8, 9, 47, 48, 49, 50, 51, 52, 53, 54, 55, 56, 57, 58, 59, 60, 61, 62, 63, 64, 65, 66, 67, 68, 69, 70, 71, 72, 73, 74, 75] (by decide +kernel) (by decide +kernel)
set_option maxRecDepth 20000 in
theorem gX4_odds_X4_isGoer : GoodIn wsX4_odds (wsV RX4 140 RX4 yX4_isGoer wsX4_isGoer) := goodIn_app (goodIn_of _ (by decide +kernel)) ggX4_odds_X4_isGoer
set_option maxRecDepth 20000 in
theorem ggX4_odds_X4_isField : GoodIn wsX4_odds wsX4_isField := goodIn_r _ [13, 14, 47, 48, 49, 50, 51, 52, 53, 54, 55, 56, 57, 58, 59, 60, 61, 62, 63, 64, 65, 66, 67, 68, 69, 70, 71, 72, 73, 74, 75] (by decide +kernel) (by decide +kernel)
set_option maxRecDepth 20000 in
theorem gX4_odds_X4_isField : GoodIn wsX4_odds (wsV RX4 71 RX4 yX4_isField wsX4_isField) := goodIn_app (goodIn_of _ (by decide +kernel)) ggX4_odds_X4_isField
set_option maxRecDepth 20000 in
theorem ggX4_odds_X4_within : GoodIn wsX4_odds wsX4_within := goodIn_r _ [17] (by decide +kernel) (by decide +kernel)
set_option maxRecDepth 20000 in
theorem gX4_odds_X4_within : GoodIn wsX4_odds (va_wsS RX4 64 yX4_within wsX4_within) := goodIn_app (goodIn_of _ (by decide +kernel)) ggX4_odds_X4_within
set_option maxRecDepth 20000 in
theorem ggX4_odds_X4_reachedBy : GoodIn wsX4_odds wsX4_reachedBy := goodIn_r _ [21, 22, 23, 24, 25, 7, 26, 27, 28, 29, 30, 31, 2, 32, 33, 34, 35, 14, 36, 37, 38, 39, 40, 41, 42, 43, 47, 48, 49, 50, 51, 52, 53, 54, 55, 56, 57, 58, 59, 60, 61, 62, 63, 64, 65, 66, 67, 68, 69, 70, 71, 72, 73, 74, 75] (by decide +kernel) (by decide +kernel)
set_option maxRecDepth 20000 in
theorem gX4_odds_X4_reachedBy : GoodIn wsX4_odds (wsV RX4 199 RX4 yX4_reachedBy wsX4_reachedBy) := goodIn_app (goodIn_of _ (by decide +kernel)) ggX4_odds_X4_reachedBy
set_option maxRecDepth 20000 in
theorem ggX4_odds_X4_isOf : GoodIn wsX4_odds wsX4_isOf := goodIn_r _ [39] (by decide +kernel) (by decide +kernel)
set_option maxRecDepth 20000 in
theorem gX4_odds_X4_isOf : GoodIn wsX4_odds (va_wsS RX4 156 yX4_isOf wsX4_isOf) := goodIn_app (goodIn_of _ (by decide +kernel)) ggX4_odds_X4_isOf
set_option maxRecDepth 20000 in
theorem ggX4_odds_X4_inLeastTerms : GoodIn wsX4_odds wsX4_inLeastTerms := goodIn_r _ [46] (by decide +kernel) (by decide +kernel)
set_option maxRecDepth 20000 in
theorem gX4_odds_X4_inLeastTerms : GoodIn wsX4_odds (va_wsS RX4 211 yX4_inLeastTerms wsX4_inLeastTerms) := goodIn_app (goodIn_of _ (by decide +kernel)) ggX4_odds_X4_inLeastTerms
set_option maxRecDepth 20000 in
theorem ggX4_sheet_X4_isSheet : GoodIn wsX4_sheet wsX4_isSheet := goodIn_r _ [8, 9, 10, 7, 11] (by decide +kernel) (by decide +kernel)
set_option maxRecDepth 20000 in
theorem gX4_sheet_X4_isSheet : GoodIn wsX4_sheet (va_wsS RX4 85 yX4_isSheet wsX4_isSheet) := goodIn_app (goodIn_of _ (by decide +kernel)) ggX4_sheet_X4_isSheet
set_option maxRecDepth 20000 in
theorem ggX4_sheet_X4_isSort : GoodIn wsX4_sheet wsX4_isSort := goodIn_r _ [14, 9, 10, 7, 11] (by decide +kernel) (by decide +kernel)
set_option maxRecDepth 20000 in
theorem gX4_sheet_X4_isSort : GoodIn wsX4_sheet (va_wsS RX4 88 yX4_isSort wsX4_isSort) := goodIn_app (goodIn_of _ (by decide +kernel)) ggX4_sheet_X4_isSort
set_option maxRecDepth 20000 in
theorem ggX4_sheet_X4_fails : GoodIn wsX4_sheet wsX4_fails := goodIn_r _ [18, 1, 19, 20, 21, 22, 23, 24, 25, 26, 27, 28, 29, 30, 31, 32, 33, 34, 35, 36, 37, 38, 39, 40, 41, 42, 43, 44, 45, 46, 47] (by decide +kernel) (by decide +kernel)
set_option maxRecDepth 20000 in
theorem gX4_sheet_X4_fails : GoodIn wsX4_sheet (wsV RX4 95 RX4 yX4_fails wsX4_fails) := goodIn_app (goodIn_of _ (by decide +kernel)) ggX4_sheet_X4_fails
set_option maxRecDepth 20000 in
theorem ggX4_lose_X4_isSheet : GoodIn wsX4_lose wsX4_isSheet := goodIn_r _ [5, 6, 7, 4, 8] (by decide +kernel) (by decide +kernel)
set_option maxRecDepth 20000 in
theorem gX4_lose_X4_isSheet : GoodIn wsX4_lose (va_wsS RX4 85 yX4_isSheet wsX4_isSheet) := goodIn_app (goodIn_of _ (by decide +kernel)) ggX4_lose_X4_isSheet
set_option maxRecDepth 20000 in
theorem ggX4_put_X4_isSheet : GoodIn wsX4_put wsX4_isSheet := goodIn_r _ [8, 9, 10, 7, 11] (by decide +kernel) (by decide +kernel)
set_option maxRecDepth 20000 in
theorem gX4_put_X4_isSheet : GoodIn wsX4_put (va_wsS RX4 85 yX4_isSheet wsX4_isSheet) := goodIn_app (goodIn_of _ (by decide +kernel)) ggX4_put_X4_isSheet
set_option maxRecDepth 20000 in
theorem ggX4_put_X4_fails : GoodIn wsX4_put wsX4_fails := goodIn_r _ [15, 1, 16, 17, 18, 19, 20, 21, 22, 23, 24, 25, 26, 27, 28, 29, 30, 31, 32, 33, 34, 35, 36, 37, 38, 39, 40, 41, 42, 43, 44] (by decide +kernel) (by decide +kernel)
set_option maxRecDepth 20000 in
theorem gX4_put_X4_fails : GoodIn wsX4_put (wsV RX4 95 RX4 yX4_fails wsX4_fails) := goodIn_app (goodIn_of _ (by decide +kernel)) ggX4_put_X4_fails
set_option maxRecDepth 20000 in
theorem ggX4_put_X4_within : GoodIn wsX4_put wsX4_within := goodIn_r _ [11] (by decide +kernel) (by decide +kernel)
set_option maxRecDepth 20000 in
theorem gX4_put_X4_within : GoodIn wsX4_put (va_wsS RX4 64 yX4_within wsX4_within) := goodIn_app (goodIn_of _ (by decide +kernel)) ggX4_put_X4_within
set_option maxRecDepth 20000 in
theorem ggX4_cell_X4_isSheet : GoodIn wsX4_cell wsX4_isSheet := goodIn_r _ [9, 10, 11, 8, 12] (by decide +kernel) (by decide +kernel)
set_option maxRecDepth 20000 in
theorem gX4_cell_X4_isSheet : GoodIn wsX4_cell (va_wsS RX4 85 yX4_isSheet wsX4_isSheet) := goodIn_app (goodIn_of _ (by decide +kernel)) ggX4_cell_X4_isSheet
set_option maxRecDepth 20000 in
theorem ggX4_cell_X4_isSort : GoodIn wsX4_cell wsX4_isSort := goodIn_r _ [15, 10, 11, 8, 12] (by decide +kernel) (by decide +kernel)
set_option maxRecDepth 20000 in
theorem gX4_cell_X4_isSort : GoodIn wsX4_cell (va_wsS RX4 88 yX4_isSort wsX4_isSort) := goodIn_app (goodIn_of _ (by decide +kernel)) ggX4_cell_X4_isSort
set_option maxRecDepth 20000 in
theorem ggX4_cell_X4_lost : GoodIn wsX4_cell wsX4_lost := goodIn_r _ [19, 1, 2, 20, 21, 22, 23, 24, 25, 26, 27, 28, 29, 30, 31, 32, 33, 34, 35, 36, 37, 38, 39, 40, 41, 42, 43, 44, 45, 46, 47, 48] (by decide +kernel) (by decide +kernel)
set_option maxRecDepth 20000 in
theorem gX4_cell_X4_lost : GoodIn wsX4_cell (wsV RX4 215 RX4 yX4_lost wsX4_lost) := goodIn_app (goodIn_of _ (by decide +kernel)) ggX4_cell_X4_lost
set_option maxRecDepth 20000 in
theorem ggX4_cell_X4_within : GoodIn wsX4_cell wsX4_within := goodIn_r _ [12] (by decide +kernel) (by decide +kernel)
set_option maxRecDepth 20000 in
theorem gX4_cell_X4_within : GoodIn wsX4_cell (va_wsS RX4 64 yX4_within wsX4_within) := goodIn_app (goodIn_of _ (by decide +kernel)) ggX4_cell_X4_within
set_option maxRecDepth 20000 in
theorem ggX4_copy_X4_isSheet : GoodIn wsX4_copy wsX4_isSheet := goodIn_r _ [8, 9, 10, 7, 11] (by decide +kernel) (by decide +kernel)
set_option maxRecDepth 20000 in
theorem gX4_copy_X4_isSheet : GoodIn wsX4_copy (va_wsS RX4 85 yX4_isSheet wsX4_isSheet) := goodIn_app (goodIn_of _ (by decide +kernel)) ggX4_copy_X4_isSheet
set_option maxRecDepth 20000 in
theorem ggX4_copy_X4_fails : GoodIn wsX4_copy wsX4_fails := goodIn_r _ [15, 1, 16, 17, 18, 19, 20, 21, 22, 23, 24, 25, 26, 27, 28, 29, 30, 31, 32, 33, 34, 35, 36, 37, 38, 39, 40, 41, 42, 43, 44] (by decide +kernel) (by decide +kernel)
set_option maxRecDepth 20000 in
theorem gX4_copy_X4_fails : GoodIn wsX4_copy (wsV RX4 95 RX4 yX4_fails wsX4_fails) := goodIn_app (goodIn_of _ (by decide +kernel)) ggX4_copy_X4_fails
set_option maxRecDepth 20000 in
theorem ggX4_tell_X4_isGoer : GoodIn wsX4_tell wsX4_isGoer := goodIn_r _ [7, 8, 14, 15, 16, 17, 18, 19, 20, 21, 22, 23, 24, 25, 26, 27, 28, 29, 30, 31, 32, 33, 34, 35, 36, 37, 38, 39, 40, 41, 42] (by decide +kernel) (by decide +kernel)
set_option maxRecDepth 20000 in
theorem gX4_tell_X4_isGoer : GoodIn wsX4_tell (wsV RX4 140 RX4 yX4_isGoer wsX4_isGoer) := goodIn_app (goodIn_of _ (by decide +kernel)) ggX4_tell_X4_isGoer
set_option maxRecDepth 20000 in
theorem ggX4_tell_X4_begins : GoodIn wsX4_tell wsX4_begins := goodIn_r _ [12, 13, 14, 15, 16, 17, 18, 19, 20, 21, 22, 23, 24, 25, 26, 27, 28, 29, 30, 31, 32, 33, 34, 35, 36, 37, 38, 39, 40, 41, 42] (by decide +kernel) (by decide +kernel)
set_option maxRecDepth 20000 in
theorem gX4_tell_X4_begins : GoodIn wsX4_tell (wsV RX4 222 RX4 yX4_begins wsX4_begins) := goodIn_app (goodIn_of _ (by decide +kernel)) ggX4_tell_X4_begins
set_option maxRecDepth 20000 in
theorem ggX4_hail_X4_isGoer : GoodIn wsX4_hail wsX4_isGoer := goodIn_r _ [7, 8, 14, 15, 16, 17, 18, 19, 20, 21, 22, 23, 24, 25, 26, 27, 28, 29, 30, 31, 32, 33, 34, 35, 36, 37, 38, 39, 40, 41, 42] (by decide +kernel) (by decide +kernel)
set_option maxRecDepth 20000 in
theorem gX4_hail_X4_isGoer : GoodIn wsX4_hail (wsV RX4 140 RX4 yX4_isGoer wsX4_isGoer) := goodIn_app (goodIn_of _ (by decide +kernel)) ggX4_hail_X4_isGoer
set_option maxRecDepth 20000 in
theorem ggX4_hail_X4_begins : GoodIn wsX4_hail wsX4_begins := goodIn_r _ [12, 13, 14, 15, 16, 17, 18, 19, 20, 21, 22, 23, 24, 25, 26, 27, 28, 29, 30, 31, 32, 33, 34, 35, 36, 37, 38, 39, 40, 41, 42] (by decide +kernel) (by decide +kernel)
set_option maxRecDepth 20000 in
theorem gX4_hail_X4_begins : GoodIn wsX4_hail (wsV RX4 222 RX4 yX4_begins wsX4_begins) := goodIn_app (goodIn_of _ (by decide +kernel)) ggX4_hail_X4_begins
set_option maxRecDepth 20000 in
theorem ggX4_as_X4_isGoer : GoodIn wsX4_as wsX4_isGoer := goodIn_r _ [7, 8, 16, 17, 18, 19, 20, 21, 22, 23, 24, 25, 26, 27, 28, 29, 30, 31, 32, 33, 34, 35, 36, 37, 38, 39, 40, 41, 42, 43, 44] (by decide +kernel) (by decide +kernel)
set_option maxRecDepth 20000 in
theorem gX4_as_X4_isGoer : GoodIn wsX4_as (wsV RX4 140 RX4 yX4_isGoer wsX4_isGoer) := goodIn_app (goodIn_of _ (by decide +kernel)) ggX4_as_X4_isGoer
set_option maxRecDepth 20000 in
theorem ggX4_as_X4_within : GoodIn wsX4_as wsX4_within := goodIn_r _ [11] (by decide +kernel) (by decide +kernel)
set_option maxRecDepth 20000 in
theorem gX4_as_X4_within : GoodIn wsX4_as (va_wsS RX4 64 yX4_within wsX4_within) := goodIn_app (goodIn_of _ (by decide +kernel)) ggX4_as_X4_within
set_option maxRecDepth 20000 in
theorem ggX4_as_X4_fails : GoodIn wsX4_as wsX4_fails := goodIn_r _ [15, 1, 16, 17, 18, 19, 20, 21, 22, 23, 24, 25, 26, 27, 28, 29, 30, 31, 32, 33, 34, 35, 36, 37, 38, 39, 40, 41, 42, 43, 44] (by decide +kernel) (by decide +kernel)
set_option maxRecDepth 20000 in
theorem gX4_as_X4_fails : GoodIn wsX4_as (wsV RX4 95 RX4 yX4_fails wsX4_fails) := goodIn_app (goodIn_of _ (by decide +kernel)) ggX4_as_X4_fails
