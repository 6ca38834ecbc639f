set_option maxRecDepth 20000 in
theorem ggX12_fault_X12_faultNow : GoodIn wsX12_fault wsX12_faultNow := goodIn_r _ [5, 6, 7, 8, 9, 10, 4, 11, 12, 13, 14, 15, 16, 17, 18, 19, 20, 21, 22, 23, 24, 25, 26, 27, 28, 29, 30, 31, 32, 33, 34, 35, 36, 37, 38, 39, 40, 41, 42, 43, 44, 45, 46, 47, 48, 49, 50, 51, 52] (by decide +kernel) (by decide +kernel)
set_option maxRecDepth 20000 in
theorem gX12_fault_X12_faultNow : GoodIn wsX12_fault (wsV RX12 79 RX12 yX12_faultNow wsX12_faultNow) := goodIn_app (goodIn_of _ (by decide +kernel)) ggX12_fault_X12_faultNow
set_option maxRecDepth 20000 in
theorem ggX12_town_X12_isWhole : GoodIn wsX12_town wsX12_isWhole := goodIn_r _ [16, 1, 31, 32, 33, 34, 35, 36, 37, 38, 39, 40, 41, 42, 43, 44, 45, 46, 47, 48, 49, 50, 51, 52, 53, 54, 55, 56, 57, 58, 59, 60, 61] (by decide +kernel) (by decide +kernel)
set_option maxRecDepth 20000 in
theorem gX12_town_X12_isWhole : GoodIn wsX12_town (wsV RX12 75 RX12 yX12_isWhole wsX12_isWhole) := goodIn_app (goodIn_of _ (by decide +kernel)) ggX12_town_X12_isWhole
set_option maxRecDepth 20000 in
theorem ggX12_town_X12_faultNow : GoodIn wsX12_town wsX12_faultNow := goodIn_r _ [20, 1, 4, 21, 22, 23, 15, 24, 25, 26, 27, 28, 29, 30, 12, 13, 14, 16, 31, 32, 33, 34, 35, 36, 37, 38, 39, 40, 41, 42, 43, 44, 45, 46, 47, 48, 49, 50, 51, 52, 53, 54, 55, 56, 57, 58, 59, 60, 61] (by decide +kernel) (by decide +kernel)
set_option maxRecDepth 20000 in
theorem gX12_town_X12_faultNow : GoodIn wsX12_town (wsV RX12 79 RX12 yX12_faultNow wsX12_faultNow) := goodIn_app (goodIn_of _ (by decide +kernel)) ggX12_town_X12_faultNow
set_option maxRecDepth 20000 in
theorem ggX12_town_X12_kindBy : GoodIn wsX12_town wsX12_kindBy := goodIn_r _ [27] (by decide +kernel) (by decide +kernel)
set_option maxRecDepth 20000 in
theorem gX12_town_X12_kindBy : GoodIn wsX12_town (va_wsS RX12 67 yX12_kindBy wsX12_kindBy) := goodIn_app (goodIn_of _ (by decide +kernel)) ggX12_town_X12_kindBy
set_option maxRecDepth 20000 in
theorem ggX12_isOne_X12_within : GoodIn wsX12_isOne wsX12_within := goodIn_r _ [5] (by decide +kernel) (by decide +kernel)
set_option maxRecDepth 20000 in
theorem gX12_isOne_X12_within : GoodIn wsX12_isOne (va_wsS RX12 59 yX12_within wsX12_within) := goodIn_app (goodIn_of _ (by decide +kernel)) ggX12_isOne_X12_within
set_option maxRecDepth 20000 in
theorem ggX12_isCompany_X12_within : GoodIn wsX12_isCompany wsX12_within := goodIn_r _ [5] (by decide +kernel) (by decide +kernel)
set_option maxRecDepth 20000 in
theorem gX12_isCompany_X12_within : GoodIn wsX12_isCompany (va_wsS RX12 59 yX12_within wsX12_within) := goodIn_app (goodIn_of _ (by decide +kernel)) ggX12_isCompany_X12_within
set_option maxRecDepth 20000 in
theorem ggX12_isThere_X12_isIn : GoodIn wsX12_isThere wsX12_isIn := goodIn_r _ [5] (by decide +kernel) (by decide +kernel)
set_option maxRecDepth 20000 in
theorem gX12_isThere_X12_isIn : GoodIn wsX12_isThere (va_wsS RX12 98 yX12_isIn wsX12_isIn) := goodIn_app (goodIn_of _ (by decide +kernel)) ggX12_isThere_X12_isIn
set_option maxRecDepth 20000 in
theorem ggX12_isWrittenBy_X12_isThere : GoodIn wsX12_isWrittenBy wsX12_isThere := goodIn_r _ [6, 7, 8, 9, 5, 10, 11, 12, 13, 14, 15, 16, 17, 18, 19, 20, 21, 22, 23, 24, 25, 26, 27, 28, 29, 30, 31, 32, 33, 34, 35, 36, 37, 38, 39, 40, 41] (by decide +kernel) (by decide +kernel)
set_option maxRecDepth 20000 in
theorem gX12_isWrittenBy_X12_isThere : GoodIn wsX12_isWrittenBy (wsV RX12 102 RX12 yX12_isThere wsX12_isThere) := goodIn_app (goodIn_of _ (by decide +kernel)) ggX12_isWrittenBy_X12_isThere
set_option maxRecDepth 20000 in
theorem ggX12_isWritten_X12_isWrittenBy : GoodIn wsX12_isWritten wsX12_isWrittenBy := goodIn_r _ [6, 7, 8, 9, 10, 5, 11, 12, 13, 14, 15, 16, 17, 18, 19, 20, 21, 22, 23, 24, 25, 26, 27, 28, 29, 30, 31, 32, 33, 34, 35, 36, 37, 38, 39, 40, 41, 42, 43, 44, 45, 46] (by decide +kernel) (by decide +kernel)
set_option maxRecDepth 20000 in
theorem gX12_isWritten_X12_isWrittenBy : GoodIn wsX12_isWritten (wsV RX12 105 RX12 yX12_isWrittenBy wsX12_isWrittenBy) := goodIn_app (goodIn_of _ (by decide +kernel)) ggX12_isWritten_X12_isWrittenBy
set_option maxRecDepth 20000 in
theorem ggX12_isWrittenNow_X12_companyOf : GoodIn wsX12_isWrittenNow wsX12_companyOf := goodIn_r _ [5, 6, 7, 26, 27, 28, 29, 30, 31, 32, 33, 34, 35, 36, 37, 38, 39, 40, 41, 42, 43, 44, 45, 46, 47, 48, 49, 50, 51, 52, 53, 54, 55, 56] (by decide +kernel) (by decide +kernel)
set_option maxRecDepth 20000 in
theorem gX12_isWrittenNow_X12_companyOf : GoodIn wsX12_isWrittenNow (wsV RX12 109 RX12 yX12_companyOf wsX12_companyOf) := goodIn_app (goodIn_of _ (by decide +kernel)) ggX12_isWrittenNow_X12_companyOf
set_option maxRecDepth 20000 in
theorem ggX12_isWrittenNow_X12_isWritten : GoodIn wsX12_isWrittenNow wsX12_isWritten := goodIn_r _ [11, 12, 13, 14, 15, 4, 16, 17, 18, 19, 20, 21, 22, 23, 24, 25, 26, 27, 28, 29, 30, 31, 32, 33, 34, 35, 36, 37, 38, 39, 40, 41, 42, 43, 44, 45, 46, 47, 48, 49, 50, 51, 52, 53, 54, 55, 56] (by decide +kernel) (by decide +kernel)
set_option maxRecDepth 20000 in
theorem gX12_isWrittenNow_X12_isWritten : GoodIn wsX12_isWrittenNow (wsV RX12 112 RX12 yX12_isWritten wsX12_isWritten) := goodIn_app (goodIn_of _ (by decide +kernel)) ggX12_isWrittenNow_X12_isWritten
set_option maxRecDepth 20000 in
theorem ggX12_wantsOf_X12_isIn : GoodIn wsX12_wantsOf wsX12_isIn := goodIn_r _ [5] (by decide +kernel) (by decide +kernel)
set_option maxRecDepth 20000 in
theorem gX12_wantsOf_X12_isIn : GoodIn wsX12_wantsOf (va_wsS RX12 98 yX12_isIn wsX12_isIn) := goodIn_app (goodIn_of _ (by decide +kernel)) ggX12_wantsOf_X12_isIn
set_option maxRecDepth 20000 in
theorem ggX12_wantsOf_X12_isWritten : GoodIn wsX12_wantsOf wsX12_isWritten := goodIn_r _ [9, 10, 11, 12, 13, 4, 14, 15, 16, 17, 18, 19, 20, 2, 3, 5, 21, 22, 23, 24, 25, 26, 27, 28, 29, 30, 31, 32, 33, 34, 35, 36, 37, 38, 39, 40, 41, 42, 43, 44, 45, 46, 47, 48, 49, 50, 51] (by decide +kernel) (by decide +kernel)
set_option maxRecDepth 20000 in
theorem gX12_wantsOf_X12_isWritten : GoodIn wsX12_wantsOf (wsV RX12 112 RX12 yX12_isWritten wsX12_isWritten) := goodIn_app (goodIn_of _ (by decide +kernel)) ggX12_wantsOf_X12_isWritten
set_option maxRecDepth 20000 in
theorem ggX12_oneNow_X12_isWrittenNow : GoodIn wsX12_oneNow wsX12_isWrittenNow := goodIn_r _ [9, 10, 11, 12, 8, 13, 14, 3, 15, 16, 17, 18, 2, 19, 20, 21, 22, 1, 23, 24, 25, 26, 4, 27, 28, 29, 38, 39, 40, 41, 42, 43, 44, 45, 46, 47, 48, 49, 50, 51, 52, 53, 54, 55, 56, 57, 58, 59, 60, 61, 62, 63, 64, 65, 66, 67, 68] (by decide +kernel) (by decide +kernel)
set_option maxRecDepth 20000 in
theorem gX12_oneNow_X12_isWrittenNow : GoodIn wsX12_oneNow (wsV RX12 115 RX12 yX12_isWrittenNow wsX12_isWrittenNow) := goodIn_app (goodIn_of _ (by decide +kernel)) ggX12_oneNow_X12_isWrittenNow
set_option maxRecDepth 20000 in
theorem ggX12_oneNow_X12_companyOf : GoodIn wsX12_oneNow wsX12_companyOf := goodIn_r _ [13, 14, 3, 38, 39, 40, 41, 42, 43, 44, 45, 46, 47, 48, 49, 50, 51, 52, 53, 54, 55, 56, 57, 58, 59, 60, 61, 62, 63, 64, 65, 66, 67, 68] (by decide +kernel) (by decide +kernel)
set_option maxRecDepth 20000 in
theorem gX12_oneNow_X12_companyOf : GoodIn wsX12_oneNow (wsV RX12 109 RX12 yX12_companyOf wsX12_companyOf) := goodIn_app (goodIn_of _ (by decide +kernel)) ggX12_oneNow_X12_companyOf
set_option maxRecDepth 20000 in
theorem ggX12_oneNow_X12_lettersOf : GoodIn wsX12_oneNow wsX12_lettersOf := goodIn_r _ [33, 14, 2, 38, 39, 40, 41, 42, 43, 44, 45, 46, 47, 48, 49, 50, 51, 52, 53, 54, 55, 56, 57, 58, 59, 60, 61, 62, 63, 64, 65, 66, 67, 68] (by decide +kernel) (by decide +kernel)
set_option maxRecDepth 20000 in
theorem gX12_oneNow_X12_lettersOf : GoodIn wsX12_oneNow (wsV RX12 118 RX12 yX12_lettersOf wsX12_lettersOf) := goodIn_app (goodIn_of _ (by decide +kernel)) ggX12_oneNow_X12_lettersOf
set_option maxRecDepth 20000 in
theorem ggX12_oneNow_X12_wantsOf : GoodIn wsX12_oneNow wsX12_wantsOf := goodIn_r _ [37, 14, 27, 28, 8, 29, 15, 16, 17, 18, 2, 19, 20, 21, 22, 1, 23, 24, 25, 26, 4, 38, 39, 40, 41, 42, 43, 44, 45, 46, 47, 48, 49, 50, 51, 52, 53, 54, 55, 56, 57, 58, 59, 60, 61, 62, 63, 64, 65, 66, 67, 68] (by decide +kernel) (by decide +kernel)
set_option maxRecDepth 20000 in
theorem gX12_oneNow_X12_wantsOf : GoodIn wsX12_oneNow (wsV RX12 121 RX12 yX12_wantsOf wsX12_wantsOf) := goodIn_app (goodIn_of _ (by decide +kernel)) ggX12_oneNow_X12_wantsOf
set_option maxRecDepth 20000 in
theorem ggX12_about_X12_isOne : GoodIn wsX12_about wsX12_isOne := goodIn_r _ [5, 6, 7, 8, 4, 9, 49, 50, 51, 52, 53, 54, 55, 56, 57, 58, 59, 60, 61, 62, 63, 64, 65, 66, 67, 68, 69, 70, 71, 72, 73, 74, 75, 76, 77, 78, 79] (by decide +kernel) (by decide +kernel)
set_option maxRecDepth 20000 in
theorem gX12_about_X12_isOne : GoodIn wsX12_about (wsV RX12 124 RX12 yX12_isOne wsX12_isOne) := goodIn_app (goodIn_of _ (by decide +kernel)) ggX12_about_X12_isOne
set_option maxRecDepth 20000 in
theorem ggX12_about_X12_within : GoodIn wsX12_about wsX12_within := goodIn_r _ [9] (by decide +kernel) (by decide +kernel)
set_option maxRecDepth 20000 in
theorem gX12_about_X12_within : GoodIn wsX12_about (va_wsS RX12 59 yX12_within wsX12_within) := goodIn_app (goodIn_of _ (by decide +kernel)) ggX12_about_X12_within
set_option maxRecDepth 20000 in
theorem ggX12_about_X12_oneNow : GoodIn wsX12_about wsX12_oneNow := goodIn_r _ [13, 14, 15, 16, 17, 18, 19, 20, 4, 21, 22, 23, 24, 25, 6, 26, 27, 28, 29, 30, 31, 32, 33, 34, 35, 36, 37, 38, 39, 40, 41, 42, 43, 44, 45, 46, 47, 48, 49, 50, 51, 52, 53, 54, 55, 56, 57, 58, 59, 60, 61, 62, 63, 64, 65, 66, 67, 68, 69, 70, 71, 72, 73, 74, 75, 76, 77, 78, 79] (by decide +kernel) (by decide +kernel)
set_option maxRecDepth 20000 in
theorem gX12_about_X12_oneNow : GoodIn wsX12_about (wsV RX12 127 RX12 yX12_oneNow wsX12_oneNow) := goodIn_app (goodIn_of _ (by decide +kernel)) ggX12_about_X12_oneNow
set_option maxRecDepth 20000 in
theorem ggX12_as_X12_isOne : GoodIn wsX12_as wsX12_isOne := goodIn_r _ [6, 7, 8, 9, 5, 10, 11, 12, 13, 14, 15, 16, 17, 18, 19, 20, 21, 22, 23, 24, 25, 26, 27, 28, 29, 30, 31, 32, 33, 34, 35, 36, 37, 38, 39, 40, 41] (by decide +kernel) (by decide +kernel)
set_option maxRecDepth 20000 in
theorem gX12_as_X12_isOne : GoodIn wsX12_as (wsV RX12 124 RX12 yX12_isOne wsX12_isOne) := goodIn_app (goodIn_of _ (by decide +kernel)) ggX12_as_X12_isOne
set_option maxRecDepth 20000 in
theorem ggX12_as_X12_within : GoodIn wsX12_as wsX12_within := goodIn_r _ [10] (by decide +kernel) (by decide +kernel)
set_option maxRecDepth 20000 in
theorem gX12_as_X12_within : GoodIn wsX12_as (va_wsS RX12 59 yX12_within wsX12_within) := goodIn_app (goodIn_of _ (by decide +kernel)) ggX12_as_X12_within
set_option maxRecDepth 20000 in
theorem ggX12_go_X12_isOne : GoodIn wsX12_go wsX12_isOne := goodIn_r _ [7, 8, 9, 10, 6, 11, 12, 13, 14, 15, 16, 17, 18, 19, 20, 21, 22, 23, 24, 25, 26, 27, 28, 29, 30, 31, 32, 33, 34, 35, 36, 37, 38, 39, 40, 41, 42] (by decide +kernel) (by decide +kernel)
set_option maxRecDepth 20000 in
theorem gX12_go_X12_isOne : GoodIn wsX12_go (wsV RX12 124 RX12 yX12_isOne wsX12_isOne) := goodIn_app (goodIn_of _ (by decide +kernel)) ggX12_go_X12_isOne
set_option maxRecDepth 20000 in
theorem ggX12_go_X12_within : GoodIn wsX12_go wsX12_within := goodIn_r _ [11] (by decide +kernel) (by decide +kernel)
set_option maxRecDepth 20000 in
theorem gX12_go_X12_within : GoodIn wsX12_go (va_wsS RX12 59 yX12_within wsX12_within) := goodIn_app (goodIn_of _ (by decide +kernel)) ggX12_go_X12_within
set_option maxRecDepth 20000 in
theorem ggX12_sell_X12_isOne : GoodIn wsX12_sell wsX12_isOne := goodIn_r _ [7, 8, 9, 10, 6, 11, 12, 13, 14, 15, 16, 17, 18, 19, 20, 21, 22, 23, 24, 25, 26, 27, 28, 29, 30, 31, 32, 33, 34, 35, 36, 37, 38, 39, 40, 41, 42] (by decide +kernel) (by decide +kernel)
set_option maxRecDepth 20000 in
theorem gX12_sell_X12_isOne : GoodIn wsX12_sell (wsV RX12 124 RX12 yX12_isOne wsX12_isOne) := goodIn_app (goodIn_of _ (by decide +kernel)) ggX12_sell_X12_isOne
set_option maxRecDepth 20000 in
theorem ggX12_sell_X12_within : GoodIn wsX12_sell wsX12_within := goodIn_r _ [11] (by decide +kernel) (by decide +kernel)
set_option maxRecDepth 20000 in
theorem gX12_sell_X12_within : GoodIn wsX12_sell (va_wsS RX12 59 yX12_within wsX12_within) := goodIn_app (goodIn_of _ (by decide +kernel)) ggX12_sell_X12_within
set_option maxRecDepth 20000 in
theorem ggX12_quarrel_X12_isOne : GoodIn wsX12_quarrel wsX12_isOne := goodIn_r _ [6, 7, 8, 9, 5, 10, 14, 15, 16, 17, 18, 19, 20, 21, 22, 23, 24, 25, 26, 27, 28, 29, 30, 31, 32, 33, 34, 35, 36, 37, 38, 39, 40, 41, 42, 43, 44] (by decide +kernel) (by decide +kernel)
set_option maxRecDepth 20000 in
theorem gX12_quarrel_X12_isOne : GoodIn wsX12_quarrel (wsV RX12 124 RX12 yX12_isOne wsX12_isOne) := goodIn_app (goodIn_of _ (by decide +kernel)) ggX12_quarrel_X12_isOne
set_option maxRecDepth 20000 in
theorem ggX12_quarrel_X12_with : GoodIn wsX12_quarrel wsX12_with := goodIn_r _ [13] (by decide +kernel) (by decide +kernel)
set_option maxRecDepth 20000 in
theorem gX12_quarrel_X12_with : GoodIn wsX12_quarrel (va_wsS RX12 131 yX12_with wsX12_with) := goodIn_app (goodIn_of _ (by decide +kernel)) ggX12_quarrel_X12_with
set_option maxRecDepth 20000 in
theorem ggX12_written_X12_isOne : GoodIn wsX12_written wsX12_isOne := goodIn_r _ [5, 6, 7, 8, 4, 9, 32, 33, 34, 35, 36, 37, 38, 39, 40, 41, 42, 43, 44, 45, 46, 47, 48, 49, 50, 51, 52, 53, 54, 55, 56, 57, 58, 59, 60, 61, 62] (by decide +kernel) (by decide +kernel)
set_option maxRecDepth 20000 in
theorem gX12_written_X12_isOne : GoodIn wsX12_written (wsV RX12 124 RX12 yX12_isOne wsX12_isOne) := goodIn_app (goodIn_of _ (by decide +kernel)) ggX12_written_X12_isOne
set_option maxRecDepth 20000 in
theorem ggX12_written_X12_isCompany : GoodIn wsX12_written wsX12_isCompany := goodIn_r _ [13, 6, 7, 8, 4, 9, 32, 33, 34, 35, 36, 37, 38, 39, 40, 41, 42, 43, 44, 45, 46, 47, 48, 49, 50, 51, 52, 53, 54, 55, 56, 57, 58, 59, 60, 61, 62] (by decide +kernel) (by decide +kernel)
set_option maxRecDepth 20000 in
theorem gX12_written_X12_isCompany : GoodIn wsX12_written (wsV RX12 135 RX12 yX12_isCompany wsX12_isCompany) := goodIn_app (goodIn_of _ (by decide +kernel)) ggX12_written_X12_isCompany
set_option maxRecDepth 20000 in
theorem ggX12_written_X12_isIn : GoodIn wsX12_written wsX12_isIn := goodIn_r _ [16] (by decide +kernel) (by decide +kernel)
set_option maxRecDepth 20000 in
theorem gX12_written_X12_isIn : GoodIn wsX12_written (va_wsS RX12 98 yX12_isIn wsX12_isIn) := goodIn_app (goodIn_of _ (by decide +kernel)) ggX12_written_X12_isIn
set_option maxRecDepth 20000 in
theorem ggX12_written_X12_isWritten : GoodIn wsX12_written wsX12_isWritten := goodIn_r _ [20, 21, 22, 23, 24, 4, 25, 26, 27, 28, 29, 30, 31, 14, 15, 16, 32, 33, 34, 35, 36, 37, 38, 39, 40, 41, 42, 43, 44, 45, 46, 47, 48, 49, 50, 51, 52, 53, 54, 55, 56, 57, 58, 59, 60, 61, 62] (by decide +kernel) (by decide +kernel)
set_option maxRecDepth 20000 in
theorem gX12_written_X12_isWritten : GoodIn wsX12_written (wsV RX12 112 RX12 yX12_isWritten wsX12_isWritten) := goodIn_app (goodIn_of _ (by decide +kernel)) ggX12_written_X12_isWritten
set_option maxRecDepth 20000 in
theorem ggX12_movesBy_X12_roomBy : GoodIn wsX12_movesBy wsX12_roomBy := goodIn_r _ [7, 1, 8, 9, 10, 11, 12, 13, 14, 15, 16, 17, 18, 19, 20, 21, 22, 23, 24, 25, 26, 27, 28, 29, 30, 31, 32, 33, 34, 35, 36, 37, 38] (by decide +kernel) (by decide +kernel)
set_option maxRecDepth 20000 in
theorem gX12_movesBy_X12_roomBy : GoodIn wsX12_movesBy (wsV RX12 138 RX12 yX12_roomBy wsX12_roomBy) := goodIn_app (goodIn_of _ (by decide +kernel)) ggX12_movesBy_X12_roomBy
set_option maxRecDepth 20000 in
theorem ggX12_isWrittenIf_X12_roomBy : GoodIn wsX12_isWrittenIf wsX12_roomBy := goodIn_r _ [6, 1, 25, 26, 27, 28, 29, 30, 31, 32, 33, 34, 35, 36, 37, 38, 39, 40, 41, 42, 43, 44, 45, 46, 47, 48, 49, 50, 51, 52, 53, 54, 55] (by decide +kernel) (by decide +kernel)
set_option maxRecDepth 20000 in
theorem gX12_isWrittenIf_X12_roomBy : GoodIn wsX12_isWrittenIf (wsV RX12 138 RX12 yX12_roomBy wsX12_roomBy) := goodIn_app (goodIn_of _ (by decide +kernel)) ggX12_isWrittenIf_X12_roomBy
set_option maxRecDepth 20000 in
theorem ggX12_isWrittenIf_X12_isWritten : GoodIn wsX12_isWrittenIf wsX12_isWritten := goodIn_r _ [10, 11, 12, 13, 14, 5, 15, 16, 17, 18, 19, 20, 21, 22, 23, 24, 25, 26, 27, 28, 29, 30, 31, 32, 33, 34, 35, 36, 37, 38, 39, 40, 41, 42, 43, 44, 45, 46, 47, 48, 49, 50, 51, 52, 53, 54, 55] (by decide +kernel) (by decide +kernel)
set_option maxRecDepth 20000 in
theorem gX12_isWrittenIf_X12_isWritten : GoodIn wsX12_isWrittenIf (wsV RX12 112 RX12 yX12_isWritten wsX12_isWritten) := goodIn_app (goodIn_of _ (by decide +kernel)) ggX12_isWrittenIf_X12_isWritten
set_option maxRecDepth 20000 in
theorem ggX12_movesNow_X12_movesBy : GoodIn wsX12_movesNow wsX12_movesBy := goodIn_r _ [7, 2, 8, 9, 10, 11, 6, 12, 42, 43, 44, 45, 46, 47, 48, 49, 50, 51, 52, 53, 54, 55, 56, 57, 58, 59, 60, 61, 62, 63, 64, 65, 66, 67, 68, 69, 70, 71, 72] (by decide +kernel) (by decide +kernel)
set_option maxRecDepth 20000 in
theorem gX12_movesNow_X12_movesBy : GoodIn wsX12_movesNow (wsV RX12 142 RX12 yX12_movesBy wsX12_movesBy) := goodIn_app (goodIn_of _ (by decide +kernel)) ggX12_movesNow_X12_movesBy
set_option maxRecDepth 20000 in
theorem ggX12_movesNow_X12_isWrittenIf : GoodIn wsX12_movesNow wsX12_isWrittenIf := goodIn_r _ [16, 2, 9, 10, 11, 6, 12, 17, 18, 19, 20, 21, 22, 23, 24, 25, 26, 27, 28, 29, 30, 31, 32, 33, 34, 42, 43, 44, 45, 46, 47, 48, 49, 50, 51, 52, 53, 54, 55, 56, 57, 58, 59, 60, 61, 62, 63, 64, 65, 66, 67, 68, 69, 70, 71, 72] (by decide +kernel) (by decide +kernel)
set_option maxRecDepth 20000 in
theorem gX12_movesNow_X12_isWrittenIf : GoodIn wsX12_movesNow (wsV RX12 145 RX12 yX12_isWrittenIf wsX12_isWrittenIf) := goodIn_app (goodIn_of _ (by decide +kernel)) ggX12_movesNow_X12_isWrittenIf
set_option maxRecDepth 20000 in
theorem ggX12_movesNow_X12_isOne : GoodIn wsX12_movesNow wsX12_isOne := goodIn_r _ [38, 2, 39, 40, 6, 41, 42, 43, 44, 45, 46, 47, 48, 49, 50, 51, 52, 53, 54, 55, 56, 57, 58, 59, 60, 61, 62, 63, 64, 65, 66, 67, 68, 69, 70, 71, 72] (by decide +kernel) (by decide +kernel)
set_option maxRecDepth 20000 in
theorem gX12_movesNow_X12_isOne : GoodIn wsX12_movesNow (wsV RX12 124 RX12 yX12_isOne wsX12_isOne) := goodIn_app (goodIn_of _ (by decide +kernel)) ggX12_movesNow_X12_isOne
set_option maxRecDepth 20000 in
theorem ggX12_movesNow_X12_roomBy : GoodIn wsX12_movesNow wsX12_roomBy := goodIn_r _ [12, 2, 42, 43, 44, 45, 46, 47, 48, 49, 50, 51, 52, 53, 54, 55, 56, 57, 58, 59, 60, 61, 62, 63, 64, 65, 66, 67, 68, 69, 70, 71, 72] (by decide +kernel) (by decide +kernel)
set_option maxRecDepth 20000 in
theorem gX12_movesNow_X12_roomBy : GoodIn wsX12_movesNow (wsV RX12 138 RX12 yX12_roomBy wsX12_roomBy) := goodIn_app (goodIn_of _ (by decide +kernel)) ggX12_movesNow_X12_roomBy
set_option maxRecDepth 20000 in
theorem ggX12_moves_X12_isOne : GoodIn wsX12_moves wsX12_isOne := goodIn_r _ [6, 7, 8, 9, 5, 10, 47, 48, 49, 50, 51, 52, 53, 54, 55, 56, 57, 58, 59, 60, 61, 62, 63, 64, 65, 66, 67, 68, 69, 70, 71, 72, 73, 74, 75, 76, 77] (by decide +kernel) (by decide +kernel)
set_option maxRecDepth 20000 in
theorem gX12_moves_X12_isOne : GoodIn wsX12_moves (wsV RX12 124 RX12 yX12_isOne wsX12_isOne) := goodIn_app (goodIn_of _ (by decide +kernel)) ggX12_moves_X12_isOne
set_option maxRecDepth 20000 in
theorem ggX12_moves_X12_within : GoodIn wsX12_moves wsX12_within := goodIn_r _ [10] (by decide +kernel) (by decide +kernel)
set_option maxRecDepth 20000 in
theorem gX12_moves_X12_within : GoodIn wsX12_moves (va_wsS RX12 59 yX12_within wsX12_within) := goodIn_app (goodIn_of _ (by decide +kernel)) ggX12_moves_X12_within
set_option maxRecDepth 20000 in
theorem ggX12_moves_X12_movesNow : GoodIn wsX12_moves wsX12_movesNow := goodIn_r _ [14, 15, 7, 16, 17, 18, 5, 19, 20, 21, 22, 23, 24, 25, 26, 27, 28, 29, 30, 31, 32, 33, 34, 35, 36, 37, 38, 39, 40, 41, 42, 43, 44, 45, 46, 2, 3, 4, 6, 8, 9, 10, 47, 48, 49, 50, 51, 52, 53, 54, 55, 56, 57, 58, 59, 60, 61, 62, 63, 64, 65, 66, 67, 68, 69, 70, 71, 72, 73, 74, 75, 76, 77] (by decide +kernel) (by decide +kernel)
set_option maxRecDepth 20000 in
theorem gX12_moves_X12_movesNow : GoodIn wsX12_moves (wsV RX12 151 RX12 yX12_movesNow wsX12_movesNow) := goodIn_app (goodIn_of _ (by decide +kernel)) ggX12_moves_X12_movesNow
set_option maxRecDepth 20000 in
theorem ggX12_layWritten_X12_isIn : GoodIn wsX12_layWritten wsX12_isIn := goodIn_r _ [6] (by decide +kernel) (by decide +kernel)
set_option maxRecDepth 20000 in
theorem gX12_layWritten_X12_isIn : GoodIn wsX12_layWritten (va_wsS RX12 98 yX12_isIn wsX12_isIn) := goodIn_app (goodIn_of _ (by decide +kernel)) ggX12_layWritten_X12_isIn
set_option maxRecDepth 20000 in
theorem ggX12_layWritten_X12_isWritten : GoodIn wsX12_layWritten wsX12_isWritten := goodIn_r _ [10, 11, 12, 13, 14, 5, 15, 16, 17, 18, 19, 20, 21, 3, 4, 6, 22, 23, 24, 25, 26, 27, 28, 29, 30, 31, 32, 33, 34, 35, 36, 37, 38, 39, 40, 41, 42, 43, 44, 45, 46, 47, 48, 49, 50, 51, 52] (by decide +kernel) (by decide +kernel)
set_option maxRecDepth 20000 in
theorem gX12_layWritten_X12_isWritten : GoodIn wsX12_layWritten (wsV RX12 112 RX12 yX12_isWritten wsX12_isWritten) := goodIn_app (goodIn_of _ (by decide +kernel)) ggX12_layWritten_X12_isWritten
set_option maxRecDepth 20000 in
theorem ggX12_daysNow_X12_layWritten : GoodIn wsX12_daysNow wsX12_layWritten := goodIn_r _ [5, 6, 7, 8, 9, 4, 10, 11, 12, 13, 14, 15, 16, 17, 18, 19, 20, 21, 22, 23, 24, 25, 30, 31, 32, 33, 34, 35, 36, 37, 38, 39, 40, 41, 42, 43, 44, 45, 46, 47, 48, 49, 50, 51, 52, 53, 54, 55, 56, 57, 58, 59, 60] (by decide +kernel) (by decide +kernel)
set_option maxRecDepth 20000 in
theorem gX12_daysNow_X12_layWritten : GoodIn wsX12_daysNow (wsV RX12 154 RX12 yX12_layWritten wsX12_layWritten) := goodIn_app (goodIn_of _ (by decide +kernel)) ggX12_daysNow_X12_layWritten
set_option maxRecDepth 20000 in
theorem ggX12_daysNow_X12_writtenBy : GoodIn wsX12_daysNow wsX12_writtenBy := goodIn_r _ [29, 6, 7, 30, 31, 32, 33, 34, 35, 36, 37, 38, 39, 40, 41, 42, 43, 44, 45, 46, 47, 48, 49, 50, 51, 52, 53, 54, 55, 56, 57, 58, 59, 60] (by decide +kernel) (by decide +kernel)
set_option maxRecDepth 20000 in
theorem gX12_daysNow_X12_writtenBy : GoodIn wsX12_daysNow (wsV RX12 157 RX12 yX12_writtenBy wsX12_writtenBy) := goodIn_app (goodIn_of _ (by decide +kernel)) ggX12_daysNow_X12_writtenBy
set_option maxRecDepth 20000 in
theorem ggX12_days_X12_isCompany : GoodIn wsX12_days wsX12_isCompany := goodIn_r _ [7, 1, 8, 9, 6, 10, 42, 43, 44, 45, 46, 47, 48, 49, 50, 51, 52, 53, 54, 55, 56, 57, 58, 59, 60, 61, 62, 63, 64, 65, 66, 67, 68, 69, 70, 71, 72] (by decide +kernel) (by decide +kernel)
set_option maxRecDepth 20000 in
theorem gX12_days_X12_isCompany : GoodIn wsX12_days (wsV RX12 135 RX12 yX12_isCompany wsX12_isCompany) := goodIn_app (goodIn_of _ (by decide +kernel)) ggX12_days_X12_isCompany
set_option maxRecDepth 20000 in
theorem ggX12_days_X12_within : GoodIn wsX12_days wsX12_within := goodIn_r _ [10] (by decide +kernel) (by decide +kernel)
set_option maxRecDepth 20000 in
theorem gX12_days_X12_within : GoodIn wsX12_days (va_wsS RX12 59 yX12_within wsX12_within) := goodIn_app (goodIn_of _ (by decide +kernel)) ggX12_days_X12_within
set_option maxRecDepth 20000 in
theorem ggX12_days_X12_daysNow : GoodIn wsX12_days wsX12_daysNow := goodIn_r _ [14, 15, 16, 17, 6, 18, 1, 19, 20, 21, 22, 23, 24, 25, 26, 27, 28, 29, 30, 31, 32, 33, 34, 35, 36, 37, 38, 39, 40, 41, 42, 43, 44, 45, 46, 47, 48, 49, 50, 51, 52, 53, 54, 55, 56, 57, 58, 59, 60, 61, 62, 63, 64, 65, 66, 67, 68, 69, 70, 71, 72] (by decide +kernel) (by decide +kernel)
set_option maxRecDepth 20000 in
theorem gX12_days_X12_daysNow : GoodIn wsX12_days (wsV RX12 163 RX12 yX12_daysNow wsX12_daysNow) := goodIn_app (goodIn_of _ (by decide +kernel)) ggX12_days_X12_daysNow
set_option maxRecDepth 20000 in
theorem ggX12_hear_X12_isOne : GoodIn wsX12_hear wsX12_isOne := goodIn_r _ [9, 10, 11, 12, 8, 13, 21, 22, 23, 24, 25, 26, 27, 28, 29, 30, 31, 32, 33, 34, 35, 36, 37, 38, 39, 40, 41, 42, 43, 44, 45, 46, 47, 48, 49, 50, 51] (by decide +kernel) (by decide +kernel)
set_option maxRecDepth 20000 in
theorem gX12_hear_X12_isOne : GoodIn wsX12_hear (wsV RX12 124 RX12 yX12_isOne wsX12_isOne) := goodIn_app (goodIn_of _ (by decide +kernel)) ggX12_hear_X12_isOne
set_option maxRecDepth 20000 in
theorem ggX12_hear_X12_isCompany : GoodIn wsX12_hear wsX12_isCompany := goodIn_r _ [17, 10, 11, 12, 8, 13, 21, 22, 23, 24, 25, 26, 27, 28, 29, 30, 31, 32, 33, 34, 35, 36, 37, 38, 39, 40, 41, 42, 43, 44, 45, 46, 47, 48, 49, 50, 51] (by decide +kernel) (by decide +kernel)
set_option maxRecDepth 20000 in
theorem gX12_hear_X12_isCompany : GoodIn wsX12_hear (wsV RX12 135 RX12 yX12_isCompany wsX12_isCompany) := goodIn_app (goodIn_of _ (by decide +kernel)) ggX12_hear_X12_isCompany
set_option maxRecDepth 20000 in
theorem ggX12_hear_X12_isIn : GoodIn wsX12_hear wsX12_isIn := goodIn_r _ [20] (by decide +kernel) (by decide +kernel)
set_option maxRecDepth 20000 in
theorem gX12_hear_X12_isIn : GoodIn wsX12_hear (va_wsS RX12 98 yX12_isIn wsX12_isIn) := goodIn_app (goodIn_of _ (by decide +kernel)) ggX12_hear_X12_isIn
set_option maxRecDepth 20000 in
theorem ggX12_couldHold_X12_isWrittenBy : GoodIn wsX12_couldHold wsX12_isWrittenBy := goodIn_r _ [9, 10, 11, 12, 13, 8, 14, 15, 16, 17, 18, 19, 20, 21, 22, 23, 24, 25, 26, 27, 28, 29, 30, 31, 32, 33, 34, 35, 36, 37, 38, 39, 40, 41, 42, 43, 44, 45, 46, 47, 48, 49] (by decide +kernel) (by decide +kernel)
set_option maxRecDepth 20000 in
theorem gX12_couldHold_X12_isWrittenBy : GoodIn wsX12_couldHold (wsV RX12 105 RX12 yX12_isWrittenBy wsX12_isWrittenBy) := goodIn_app (goodIn_of _ (by decide +kernel)) ggX12_couldHold_X12_isWrittenBy
set_option maxRecDepth 20000 in
theorem ggX12_holdersNow_X12_couldHold : GoodIn wsX12_holdersNow wsX12_couldHold := goodIn_r _ [6, 7, 8, 9, 10, 11, 12, 13, 5, 14, 15, 16, 17, 18, 19, 20, 21, 22, 23, 24, 25, 26, 27, 28, 29, 30, 31, 32, 33, 34, 35, 36, 37, 38, 39, 40, 41, 42, 43, 44, 45, 46, 47, 48, 49, 50, 51, 52, 53, 54] (by decide +kernel) (by decide +kernel)
set_option maxRecDepth 20000 in
theorem gX12_holdersNow_X12_couldHold : GoodIn wsX12_holdersNow (wsV RX12 166 RX12 yX12_couldHold wsX12_couldHold) := goodIn_app (goodIn_of _ (by decide +kernel)) ggX12_holdersNow_X12_couldHold
set_option maxRecDepth 20000 in
theorem ggX12_holders_X12_isOne : GoodIn wsX12_holders wsX12_isOne := goodIn_r _ [5, 6, 7, 8, 4, 9, 35, 36, 37, 38, 39, 40, 41, 42, 43, 44, 45, 46, 47, 48, 49, 50, 51, 52, 53, 54, 55, 56, 57, 58, 59, 60, 61, 62, 63, 64, 65] (by decide +kernel) (by decide +kernel)
set_option maxRecDepth 20000 in
theorem gX12_holders_X12_isOne : GoodIn wsX12_holders (wsV RX12 124 RX12 yX12_isOne wsX12_isOne) := goodIn_app (goodIn_of _ (by decide +kernel)) ggX12_holders_X12_isOne
set_option maxRecDepth 20000 in
theorem ggX12_holders_X12_within : GoodIn wsX12_holders wsX12_within := goodIn_r _ [9] (by decide +kernel) (by decide +kernel)
set_option maxRecDepth 20000 in
theorem gX12_holders_X12_within : GoodIn wsX12_holders (va_wsS RX12 59 yX12_within wsX12_within) := goodIn_app (goodIn_of _ (by decide +kernel)) ggX12_holders_X12_within
set_option maxRecDepth 20000 in
theorem ggX12_holders_X12_holdersNow : GoodIn wsX12_holders wsX12_holdersNow := goodIn_r _ [13, 6, 14, 15, 16, 4, 17, 18, 19, 20, 21, 22, 23, 24, 25, 26, 27, 28, 29, 30, 31, 32, 33, 34, 35, 36, 37, 38, 39, 40, 41, 42, 43, 44, 45, 46, 47, 48, 49, 50, 51, 52, 53, 54, 55, 56, 57, 58, 59, 60, 61, 62, 63, 64, 65] (by decide +kernel) (by decide +kernel)
set_option maxRecDepth 20000 in
theorem gX12_holders_X12_holdersNow : GoodIn wsX12_holders (wsV RX12 169 RX12 yX12_holdersNow wsX12_holdersNow) := goodIn_app (goodIn_of _ (by decide +kernel)) ggX12_holders_X12_holdersNow
set_option maxRecDepth 20000 in
theorem ggX12_writtenWays_X12_couldHold : GoodIn wsX12_writtenWays wsX12_couldHold := goodIn_r _ [6, 7, 8, 9, 10, 11, 12, 13, 5, 14, 15, 16, 17, 18, 19, 20, 21, 22, 23, 24, 25, 26, 27, 28, 29, 30, 31, 32, 33, 34, 35, 36, 37, 38, 39, 40, 41, 42, 43, 44, 45, 46, 47, 48, 49, 50, 51, 52, 53, 54] (by decide +kernel) (by decide +kernel)
set_option maxRecDepth 20000 in
theorem gX12_writtenWays_X12_couldHold : GoodIn wsX12_writtenWays (wsV RX12 166 RX12 yX12_couldHold wsX12_couldHold) := goodIn_app (goodIn_of _ (by decide +kernel)) ggX12_writtenWays_X12_couldHold
set_option maxRecDepth 20000 in
theorem ggX12_writtenWays_X12_isWrittenBy : GoodIn wsX12_writtenWays wsX12_isWrittenBy := goodIn_r _ [14, 15, 16, 17, 18, 5, 19, 20, 21, 22, 23, 24, 25, 26, 27, 28, 29, 30, 31, 32, 33, 34, 35, 36, 37, 38, 39, 40, 41, 42, 43, 44, 45, 46, 47, 48, 49, 50, 51, 52, 53, 54] (by decide +kernel) (by decide +kernel)
set_option maxRecDepth 20000 in
theorem gX12_writtenWays_X12_isWrittenBy : GoodIn wsX12_writtenWays (wsV RX12 105 RX12 yX12_isWrittenBy wsX12_isWrittenBy) := goodIn_app (goodIn_of _ (by decide +kernel)) ggX12_writtenWays_X12_isWrittenBy
set_option maxRecDepth 20000 in
theorem ggX12_inviteNow_X12_holdersNow : GoodIn wsX12_inviteNow wsX12_holdersNow := goodIn_r _ [7, 2, 8, 9, 10, 6, 11, 12, 13, 14, 15, 16, 17, 18, 19, 20, 21, 22, 23, 24, 25, 26, 27, 28, 33, 34, 35, 36, 37, 38, 39, 40, 41, 42, 43, 44, 45, 46, 47, 48, 49, 50, 51, 52, 53, 54, 55, 56, 57, 58, 59, 60, 61, 62, 63] (by decide +kernel) (by decide +kernel)
set_option maxRecDepth 20000 in
theorem gX12_inviteNow_X12_holdersNow : GoodIn wsX12_inviteNow (wsV RX12 169 RX12 yX12_holdersNow wsX12_holdersNow) := goodIn_app (goodIn_of _ (by decide +kernel)) ggX12_inviteNow_X12_holdersNow
set_option maxRecDepth 20000 in
theorem ggX12_inviteNow_X12_isIn : GoodIn wsX12_inviteNow wsX12_isIn := goodIn_r _ [28] (by decide +kernel) (by decide +kernel)
set_option maxRecDepth 20000 in
theorem gX12_inviteNow_X12_isIn : GoodIn wsX12_inviteNow (va_wsS RX12 98 yX12_isIn wsX12_isIn) := goodIn_app (goodIn_of _ (by decide +kernel)) ggX12_inviteNow_X12_isIn
set_option maxRecDepth 20000 in
theorem ggX12_inviteNow_X12_writtenWays : GoodIn wsX12_inviteNow wsX12_writtenWays := goodIn_r _ [32, 2, 8, 9, 10, 6, 11, 12, 13, 14, 15, 16, 17, 18, 19, 20, 21, 22, 23, 24, 25, 26, 27, 28, 33, 34, 35, 36, 37, 38, 39, 40, 41, 42, 43, 44, 45, 46, 47, 48, 49, 50, 51, 52, 53, 54, 55, 56, 57, 58, 59, 60, 61, 62, 63] (by decide +kernel) (by decide +kernel)
set_option maxRecDepth 20000 in
theorem gX12_inviteNow_X12_writtenWays : GoodIn wsX12_inviteNow (wsV RX12 172 RX12 yX12_writtenWays wsX12_writtenWays) := goodIn_app (goodIn_of _ (by decide +kernel)) ggX12_inviteNow_X12_writtenWays
set_option maxRecDepth 20000 in
theorem ggX12_invite_X12_isOne : GoodIn wsX12_invite wsX12_isOne := goodIn_r _ [5, 6, 7, 8, 4, 9, 44, 45, 46, 47, 48, 49, 50, 51, 52, 53, 54, 55, 56, 57, 58, 59, 60, 61, 62, 63, 64, 65, 66, 67, 68, 69, 70, 71, 72, 73, 74] (by decide +kernel) (by decide +kernel)
set_option maxRecDepth 20000 in
theorem gX12_invite_X12_isOne : GoodIn wsX12_invite (wsV RX12 124 RX12 yX12_isOne wsX12_isOne) := goodIn_app (goodIn_of _ (by decide +kernel)) ggX12_invite_X12_isOne
set_option maxRecDepth 20000 in
theorem ggX12_invite_X12_inviteNow : GoodIn wsX12_invite wsX12_inviteNow := goodIn_r _ [13, 14, 6, 15, 16, 17, 4, 18, 19, 20, 21, 22, 23, 24, 25, 26, 27, 28, 29, 30, 31, 32, 33, 34, 35, 36, 37, 38, 39, 40, 41, 42, 43, 44, 45, 46, 47, 48, 49, 50, 51, 52, 53, 54, 55, 56, 57, 58, 59, 60, 61, 62, 63, 64, 65, 66, 67, 68, 69, 70, 71, 72, 73, 74] (by decide +kernel) (by decide +kernel)
set_option maxRecDepth 20000 in
theorem gX12_invite_X12_inviteNow : GoodIn wsX12_invite (wsV RX12 175 RX12 yX12_inviteNow wsX12_inviteNow) := goodIn_app (goodIn_of _ (by decide +kernel)) ggX12_invite_X12_inviteNow
set_option maxRecDepth 20000 in
theorem ggX12_writtenAll_X12_isWrittenNow : GoodIn wsX12_writtenAll wsX12_isWrittenNow := goodIn_r _ [6, 7, 8, 9, 5, 10, 1, 11, 12, 13, 14, 15, 16, 17, 18, 19, 20, 21, 22, 23, 24, 25, 26, 27, 28, 29, 30, 31, 32, 33, 34, 35, 36, 37, 38, 39, 40, 41, 42, 43, 44, 45, 46, 47, 48, 49, 50, 51, 52, 53, 54, 55, 56, 57, 58, 59, 60] (by decide +kernel) (by decide +kernel)
set_option maxRecDepth 20000 in
theorem gX12_writtenAll_X12_isWrittenNow : GoodIn wsX12_writtenAll (wsV RX12 115 RX12 yX12_isWrittenNow wsX12_isWrittenNow) := goodIn_app (goodIn_of _ (by decide +kernel)) ggX12_writtenAll_X12_isWrittenNow
set_option maxRecDepth 20000 in
theorem ggX12_yearsNow_X12_draw : GoodIn wsX12_yearsNow wsX12_draw := goodIn_r _ [9, 10, 4, 11, 12, 13, 44, 45, 46, 47, 48, 49, 50, 51, 52, 53, 54, 55, 56, 57, 58, 59, 60, 61, 62, 63, 64, 65, 66, 67, 68, 69, 70, 71, 72, 73, 74] (by decide +kernel) (by decide +kernel)
set_option maxRecDepth 20000 in
theorem gX12_yearsNow_X12_draw : GoodIn wsX12_yearsNow (wsV RX12 190 RX12 yX12_draw wsX12_draw) := goodIn_app (goodIn_of _ (by decide +kernel)) ggX12_yearsNow_X12_draw
set_option maxRecDepth 20000 in
theorem ggX12_yearsNow_X12_writtenAll : GoodIn wsX12_yearsNow wsX12_writtenAll := goodIn_r _ [17, 1, 18, 19, 20, 8, 21, 22, 23, 24, 25, 3, 26, 27, 28, 29, 30, 31, 32, 33, 34, 35, 36, 37, 38, 39, 40, 41, 42, 43, 44, 45, 46, 47, 48, 49, 50, 51, 52, 53, 54, 55, 56, 57, 58, 59, 60, 61, 62, 63, 64, 65, 66, 67, 68, 69, 70, 71, 72, 73, 74] (by decide +kernel) (by decide +kernel)
set_option maxRecDepth 20000 in
theorem gX12_yearsNow_X12_writtenAll : GoodIn wsX12_yearsNow (wsV RX12 193 RX12 yX12_writtenAll wsX12_writtenAll) := goodIn_app (goodIn_of _ (by decide +kernel)) ggX12_yearsNow_X12_writtenAll
set_option maxRecDepth 20000 in
theorem ggX12_years_X12_within : GoodIn wsX12_years wsX12_within := goodIn_r _ [5] (by decide +kernel) (by decide +kernel)
set_option maxRecDepth 20000 in
theorem gX12_years_X12_within : GoodIn wsX12_years (va_wsS RX12 59 yX12_within wsX12_within) := goodIn_app (goodIn_of _ (by decide +kernel)) ggX12_years_X12_within
set_option maxRecDepth 20000 in
theorem ggX12_years_X12_yearsNow : GoodIn wsX12_years wsX12_yearsNow := goodIn_r _ [9, 1, 10, 11, 12, 13, 14, 15, 4, 16, 17, 18, 19, 20, 21, 22, 23, 24, 25, 26, 27, 28, 29, 30, 31, 32, 33, 34, 35, 36, 37, 38, 39, 40, 41, 42, 43, 44, 45, 46, 47, 48, 49, 50, 51, 52, 53, 54, 55, 56, 57, 58, 59, 60, 61, 62, 63, 64, 65, 66, 67, 68, 69, 70, 71, 72, 73, 74, 75, 76, 77, 78, 79, 80, 81] (by decide +kernel) (by decide +kernel)
set_option maxRecDepth 20000 in
theorem gX12_years_X12_yearsNow : GoodIn wsX12_years (wsV RX12 196 RX12 yX12_yearsNow wsX12_yearsNow) := goodIn_app (goodIn_of _ (by decide +kernel)) ggX12_years_X12_yearsNow
set_option maxRecDepth 20000 in
theorem ggX12_pairs_X12_size : GoodIn wsX12_pairs wsX12_size := goodIn_r _ [6] (by decide +kernel) (by decide +kernel)
set_option maxRecDepth 20000 in
theorem gX12_pairs_X12_size : GoodIn wsX12_pairs (va_wsS RX12 216 yX12_size wsX12_size) := goodIn_app (goodIn_of _ (by decide +kernel)) ggX12_pairs_X12_size
set_option maxRecDepth 20000 in
theorem ggX12_howMany_X12_writtenAll : GoodIn wsX12_howMany wsX12_writtenAll := goodIn_r _ [13, 1, 14, 15, 16, 12, 17, 18, 19, 20, 21, 22, 23, 24, 25, 26, 27, 28, 29, 30, 31, 32, 33, 34, 35, 36, 37, 38, 39, 40, 48, 49, 50, 51, 52, 53, 54, 55, 56, 57, 58, 59, 60, 61, 62, 63, 64, 65, 66, 67, 68, 69, 70, 71, 72, 73, 74, 75, 76, 77, 78] (by decide +kernel) (by decide +kernel)
set_option maxRecDepth 20000 in
theorem gX12_howMany_X12_writtenAll : GoodIn wsX12_howMany (wsV RX12 193 RX12 yX12_writtenAll wsX12_writtenAll) := goodIn_app (goodIn_of _ (by decide +kernel)) ggX12_howMany_X12_writtenAll
set_option maxRecDepth 20000 in
theorem ggX12_howMany_X12_pairs : GoodIn wsX12_howMany wsX12_pairs := goodIn_r _ [44, 1, 37, 45, 46, 12, 47, 48, 49, 50, 51, 52, 53, 54, 55, 56, 57, 58, 59, 60, 61, 62, 63, 64, 65, 66, 67, 68, 69, 70, 71, 72, 73, 74, 75, 76, 77, 78] (by decide +kernel) (by decide +kernel)
set_option maxRecDepth 20000 in
theorem gX12_howMany_X12_pairs : GoodIn wsX12_howMany (wsV RX12 219 RX12 yX12_pairs wsX12_pairs) := goodIn_app (goodIn_of _ (by decide +kernel)) ggX12_howMany_X12_pairs
set_option maxRecDepth 20000 in
theorem ggX12_count_X12_howMany : GoodIn wsX12_count wsX12_howMany := goodIn_r _ [5, 6, 7, 8, 9, 10, 11, 12, 13, 14, 15, 16, 4, 17, 18, 19, 20, 21, 22, 23, 24, 25, 26, 27, 28, 29, 30, 31, 32, 33, 34, 35, 36, 37, 38, 39, 40, 41, 42, 43, 44, 45, 46, 47, 48, 49, 50, 51, 52, 53, 54, 55, 56, 57, 58, 59, 60, 61, 62, 63, 64, 65, 66, 67, 68, 69, 70, 71, 72, 73, 74, 75, 76, 77, 78, 79, 80, 81, 82] (by decide +kernel) (by decide +kernel)
set_option maxRecDepth 20000 in
theorem gX12_count_X12_howMany : GoodIn wsX12_count (wsV RX12 222 RX12 yX12_howMany wsX12_howMany) := goodIn_app (goodIn_of _ (by decide +kernel)) ggX12_count_X12_howMany
set_option maxRecDepth 20000 in
theorem ggX12_digest_X12_oneNow : GoodIn wsX12_digest wsX12_oneNow := goodIn_r _ [10, 11, 12, 13, 14, 15, 16, 17, 9, 18, 19, 20, 21, 22, 3, 23, 24, 25, 26, 27, 28, 29, 30, 31, 32, 33, 34, 35, 36, 37, 38, 39, 40, 41, 42, 43, 44, 45, 92, 93, 94, 95, 96, 97, 98, 99, 100, 101, 102, 103, 104, 105, 106, 107, 108, 109, 110, 111, 112, 113, 114, 115, 116, 117, 118, 119, 120, 121, 122] (by decide +kernel) (by decide +kernel)
set_option maxRecDepth 20000 in
theorem gX12_digest_X12_oneNow : GoodIn wsX12_digest (wsV RX12 127 RX12 yX12_oneNow wsX12_oneNow) := goodIn_app (goodIn_of _ (by decide +kernel)) ggX12_digest_X12_oneNow
set_option maxRecDepth 20000 in
theorem ggX12_digest_X12_mix : GoodIn wsX12_digest wsX12_mix := goodIn_r _ [49, 50, 2, 92, 93, 94, 95, 96, 97, 98, 99, 100, 101, 102, 103, 104, 105, 106, 107, 108, 109, 110, 111, 112, 113, 114, 115, 116, 117, 118, 119, 120, 121, 122] (by decide +kernel) (by decide +kernel)
set_option maxRecDepth 20000 in
theorem gX12_digest_X12_mix : GoodIn wsX12_digest (wsV RX12 232 RX12 yX12_mix wsX12_mix) := goodIn_app (goodIn_of _ (by decide +kernel)) ggX12_digest_X12_mix
set_option maxRecDepth 20000 in
theorem ggX12_digest_X12_holdersNow : GoodIn wsX12_digest wsX12_holdersNow := goodIn_r _ [54, 3, 55, 56, 57, 9, 58, 59, 60, 61, 62, 27, 28, 29, 30, 11, 31, 32, 33, 34, 14, 35, 36, 37, 92, 93, 94, 95, 96, 97, 98, 99, 100, 101, 102, 103, 104, 105, 106, 107, 108, 109, 110, 111, 112, 113, 114, 115, 116, 117, 118, 119, 120, 121, 122] (by decide +kernel) (by decide +kernel)
set_option maxRecDepth 20000 in
theorem gX12_digest_X12_holdersNow : GoodIn wsX12_digest (wsV RX12 169 RX12 yX12_holdersNow wsX12_holdersNow) := goodIn_app (goodIn_of _ (by decide +kernel)) ggX12_digest_X12_holdersNow
set_option maxRecDepth 20000 in
theorem ggX12_digest_X12_inviteNow : GoodIn wsX12_digest wsX12_inviteNow := goodIn_r _ [66, 67, 3, 51, 52, 53, 9, 54, 55, 56, 57, 58, 59, 60, 61, 62, 27, 28, 29, 30, 11, 31, 32, 33, 34, 14, 35, 36, 37, 68, 69, 70, 71, 92, 93, 94, 95, 96, 97, 98, 99, 100, 101, 102, 103, 104, 105, 106, 107, 108, 109, 110, 111, 112, 113, 114, 115, 116, 117, 118, 119, 120, 121, 122] (by decide +kernel) (by decide +kernel)
set_option maxRecDepth 20000 in
theorem gX12_digest_X12_inviteNow : GoodIn wsX12_digest (wsV RX12 175 RX12 yX12_inviteNow wsX12_inviteNow) := goodIn_app (goodIn_of _ (by decide +kernel)) ggX12_digest_X12_inviteNow
set_option maxRecDepth 20000 in
theorem ggX12_digest_X12_howMany : GoodIn wsX12_digest wsX12_howMany := goodIn_r _ [75, 3, 76, 77, 59, 4, 78, 79, 80, 81, 82, 83, 9, 84, 15, 16, 17, 18, 19, 20, 21, 22, 13, 23, 24, 25, 26, 12, 27, 28, 29, 30, 11, 31, 32, 33, 34, 14, 35, 36, 37, 85, 86, 87, 88, 89, 90, 91, 92, 93, 94, 95, 96, 97, 98, 99, 100, 101, 102, 103, 104, 105, 106, 107, 108, 109, 110, 111, 112, 113, 114, 115, 116, 117, 118, 119, 120, 121, 122] (by decide +kernel) (by decide +kernel)
set_option maxRecDepth 20000 in
theorem gX12_digest_X12_howMany : GoodIn wsX12_digest (wsV RX12 222 RX12 yX12_howMany wsX12_howMany) := goodIn_app (goodIn_of _ (by decide +kernel)) ggX12_digest_X12_howMany
set_option maxRecDepth 20000 in
theorem ggJ0_length_8abf5_J0_coder_7d493 : GoodIn wsJ0_length_8abf5 wsJ0_coder_7d493 := goodIn_r _ [6, 7, 8] (by decide +kernel) (by decide +kernel)
set_option maxRecDepth 20000 in
theorem gJ0_length_8abf5_J0_coder_7d493 : GoodIn wsJ0_length_8abf5 (wsV RJ0 335 RJ0 yJ0_coder_7d493 wsJ0_coder_7d493) := goodIn_app (goodIn_of _ (by decide +kernel)) ggJ0_length_8abf5_J0_coder_7d493
set_option maxRecDepth 20000 in
theorem ggJ0_indexOf_0f7a4_J0_indexOf_7cf53 : GoodIn wsJ0_indexOf_0f7a4 wsJ0_indexOf_7cf53 := goodIn_r _ [5, 6, 7, 8, 9, 4, 10, 11, 12, 13, 14, 15, 16, 17, 18, 19, 20, 21, 22, 23, 24, 25, 26, 27, 28, 29, 30, 31, 32, 33, 34, 35, 36, 37, 38, 39, 40, 41, 42, 43, 44, 45, 46, 47, 48, 49, 50, 51, 52, 53, 54, 55, 56, 57, 58, 59, 60, 61, 62, 63, 64, 65, 66, 67, 68, 69, 70, 71, 72, 73, 74, 75, 76, 77, 78, 79, 80, 81, 82, 83, 84, 85] (by decide +kernel) (by decide +kernel)
set_option maxRecDepth 20000 in
theorem gJ0_indexOf_0f7a4_J0_indexOf_7cf53 : GoodIn wsJ0_indexOf_0f7a4 (wsV RJ0 633 RJ0 yJ0_indexOf_7cf53 wsJ0_indexOf_7cf53) := goodIn_app (goodIn_of _ (by decide +kernel)) ggJ0_indexOf_0f7a4_J0_indexOf_7cf53
set_option maxRecDepth 20000 in
theorem ggJ0_indexOf_7cf53_J0_isLatin1_aae02 : GoodIn wsJ0_indexOf_7cf53 wsJ0_isLatin1_aae02 := goodIn_r _ [6, 7, 8] (by decide +kernel) (by decide +kernel)
set_option maxRecDepth 20000 in
theorem gJ0_indexOf_7cf53_J0_isLatin1_aae02 : GoodIn wsJ0_indexOf_7cf53 (wsV RJ0 492 RJ0 yJ0_isLatin1_aae02 wsJ0_isLatin1_aae02) := goodIn_app (goodIn_of _ (by decide +kernel)) ggJ0_indexOf_7cf53_J0_isLatin1_aae02
set_option maxRecDepth 20000 in
theorem ggJ0_indexOf_7cf53_J0_length_8abf5 : GoodIn wsJ0_indexOf_7cf53 wsJ0_length_8abf5 := goodIn_r _ [12, 1, 13, 14, 15, 5, 16, 7, 8] (by decide +kernel) (by decide +kernel)
set_option maxRecDepth 20000 in
theorem gJ0_indexOf_7cf53_J0_length_8abf5 : GoodIn wsJ0_indexOf_7cf53 (wsV RJ0 505 RJ0 yJ0_length_8abf5 wsJ0_length_8abf5) := goodIn_app (goodIn_of _ (by decide +kernel)) ggJ0_indexOf_7cf53_J0_length_8abf5
set_option maxRecDepth 20000 in
theorem ggJ0_indexOf_7cf53_J1_indexOf_4cfef : GoodIn wsJ0_indexOf_7cf53 wsJ1_indexOf_4cfef := goodIn_r _ [20, 21, 22, 23, 24, 25, 26, 27, 28, 29, 19, 30, 31, 32, 33] (by decide +kernel) (by decide +kernel)
set_option maxRecDepth 20000 in
theorem gJ0_indexOf_7cf53_J1_indexOf_4cfef : GoodIn wsJ0_indexOf_7cf53 (va_wsS RJ0 637 yJ1_indexOf_4cfef wsJ1_indexOf_4cfef) := goodIn_app (goodIn_of _ (by decide +kernel)) ggJ0_indexOf_7cf53_J1_indexOf_4cfef
set_option maxRecDepth 20000 in
theorem ggJ0_indexOf_7cf53_J2_indexOf_4cfef : GoodIn wsJ0_indexOf_7cf53 wsJ2_indexOf_4cfef := goodIn_r _ [37, 38, 22, 23, 24, 39, 26, 27, 40, 41, 42, 36, 43, 44, 45, 46, 47, 48, 49, 50, 51, 5, 52, 53, 54, 55, 56, 57, 58, 59, 60, 61, 62, 63, 64, 65, 66, 67, 68, 69, 70, 71, 72, 73, 74, 75, 76, 77, 78, 79, 80, 81] (by decide +kernel) (by decide +kernel)
set_option maxRecDepth 20000 in
theorem gJ0_indexOf_7cf53_J2_indexOf_4cfef : GoodIn wsJ0_indexOf_7cf53 (va_wsS RJ0 640 yJ2_indexOf_4cfef wsJ2_indexOf_4cfef) := goodIn_app (goodIn_of _ (by decide +kernel)) ggJ0_indexOf_7cf53_J2_indexOf_4cfef
set_option maxRecDepth 20000 in
theorem ggJ0_checkBoundsBeginEnd_23922_J3_checkFromToIndex_8c36e : GoodIn wsJ0_checkBoundsBeginEnd_23922 wsJ3_checkFromToIndex_8c36e := goodIn_r _ [5] (by decide +kernel) (by decide +kernel)
set_option maxRecDepth 20000 in
theorem gJ0_checkBoundsBeginEnd_23922_J3_checkFromToIndex_8c36e : GoodIn wsJ0_checkBoundsBeginEnd_23922 (va_wsS RJ0 1062 yJ3_checkFromToIndex_8c36e wsJ3_checkFromToIndex_8c36e) := goodIn_app (goodIn_of _ (by decide +kernel)) ggJ0_checkBoundsBeginEnd_23922_J3_checkFromToIndex_8c36e
set_option maxRecDepth 20000 in
theorem ggJ1_indexOf_4cfef_J1_canEncode_9a6ad : GoodIn wsJ1_indexOf_4cfef wsJ1_canEncode_9a6ad := goodIn_r _ [11] (by decide +kernel) (by decide +kernel)
set_option maxRecDepth 20000 in
theorem gJ1_indexOf_4cfef_J1_canEncode_9a6ad : GoodIn wsJ1_indexOf_4cfef (va_wsS RJ1 88 yJ1_canEncode_9a6ad wsJ1_canEncode_9a6ad) := goodIn_app (goodIn_of _ (by decide +kernel)) ggJ1_indexOf_4cfef_J1_canEncode_9a6ad
set_option maxRecDepth 20000 in
theorem ggJ1_indexOf_4cfef_J1_indexOfChar_4cfef : GoodIn wsJ1_indexOf_4cfef wsJ1_indexOfChar_4cfef := goodIn_r _ [14] (by decide +kernel) (by decide +kernel)
set_option maxRecDepth 20000 in
theorem gJ1_indexOf_4cfef_J1_indexOfChar_4cfef : GoodIn wsJ1_indexOf_4cfef (va_wsS RJ1 95 yJ1_indexOfChar_4cfef wsJ1_indexOfChar_4cfef) := goodIn_app (goodIn_of _ (by decide +kernel)) ggJ1_indexOf_4cfef_J1_indexOfChar_4cfef
set_option maxRecDepth 20000 in
theorem ggJ2_getChar_3b067_J2_length_9d52b : GoodIn wsJ2_getChar_3b067 wsJ2_length_9d52b := goodIn_r _ [7] (by decide +kernel) (by decide +kernel)
set_option maxRecDepth 20000 in
theorem gJ2_getChar_3b067_J2_length_9d52b : GoodIn wsJ2_getChar_3b067 (va_wsS RJ2 48 yJ2_length_9d52b wsJ2_length_9d52b) := goodIn_app (goodIn_of _ (by decide +kernel)) ggJ2_getChar_3b067_J2_length_9d52b
set_option maxRecDepth 20000 in
theorem ggJ2_indexOf_4cfef_J2_indexOfChar_4cfef : GoodIn wsJ2_indexOf_4cfef wsJ2_indexOfChar_4cfef := goodIn_r _ [12, 13, 14, 11, 15, 16, 17, 18, 19, 20, 21, 22, 23, 24, 25, 26, 27, 28, 29, 30, 31, 32, 33, 34, 35, 36] (by decide +kernel) (by decide +kernel)
set_option maxRecDepth 20000 in
theorem gJ2_indexOf_4cfef_J2_indexOfChar_4cfef : GoodIn wsJ2_indexOf_4cfef (va_wsS RJ2 228 yJ2_indexOfChar_4cfef wsJ2_indexOfChar_4cfef) := goodIn_app (goodIn_of _ (by decide +kernel)) ggJ2_indexOf_4cfef_J2_indexOfChar_4cfef
set_option maxRecDepth 20000 in
theorem ggJ2_indexOf_4cfef_J2_indexOfSupplementary_4cfef : GoodIn wsJ2_indexOf_4cfef wsJ2_indexOfSupplementary_4cfef := goodIn_r _ [39, 40, 41, 42, 43, 44, 45, 46, 47, 48, 49, 50, 51, 13, 14, 11, 15, 16, 17, 18, 19, 20, 21, 22, 23, 24, 25, 26, 27, 31, 32, 33, 34, 35, 36] (by decide +kernel) (by decide +kernel)
set_option maxRecDepth 20000 in
theorem gJ2_indexOf_4cfef_J2_indexOfSupplementary_4cfef : GoodIn wsJ2_indexOf_4cfef (va_wsS RJ2 232 yJ2_indexOfSupplementary_4cfef wsJ2_indexOfSupplementary_4cfef) := goodIn_app (goodIn_of _ (by decide +kernel)) ggJ2_indexOf_4cfef_J2_indexOfSupplementary_4cfef
set_option maxRecDepth 20000 in
theorem ggJ2_indexOfChar_4cfef_J2_checkBoundsBeginEnd_d044e : GoodIn wsJ2_indexOfChar_4cfef wsJ2_checkBoundsBeginEnd_d044e := goodIn_r _ [4, 5, 6, 3, 7, 8, 9, 10, 11, 12, 13, 14, 15, 16] (by decide +kernel) (by decide +kernel)
set_option maxRecDepth 20000 in
theorem gJ2_indexOfChar_4cfef_J2_checkBoundsBeginEnd_d044e : GoodIn wsJ2_indexOfChar_4cfef (va_wsS RJ2 96 yJ2_checkBoundsBeginEnd_d044e wsJ2_checkBoundsBeginEnd_d044e) := goodIn_app (goodIn_of _ (by decide +kernel)) ggJ2_indexOfChar_4cfef_J2_checkBoundsBeginEnd_d044e
set_option maxRecDepth 20000 in
theorem ggJ2_indexOfChar_4cfef_J2_indexOfCharUnsafe_4cfef : GoodIn wsJ2_indexOfChar_4cfef wsJ2_indexOfCharUnsafe_4cfef := goodIn_r _ [19, 20, 21, 3, 22, 23, 24, 25, 5, 6, 7] (by decide +kernel) (by decide +kernel)
set_option maxRecDepth 20000 in
theorem gJ2_indexOfChar_4cfef_J2_indexOfCharUnsafe_4cfef : GoodIn wsJ2_indexOfChar_4cfef (va_wsS RJ2 244 yJ2_indexOfCharUnsafe_4cfef wsJ2_indexOfCharUnsafe_4cfef) := goodIn_app (goodIn_of _ (by decide +kernel)) ggJ2_indexOfChar_4cfef_J2_indexOfCharUnsafe_4cfef
set_option maxRecDepth 20000 in
theorem ggJ2_indexOfCharUnsafe_4cfef_J2_getChar_3b067 : GoodIn wsJ2_indexOfCharUnsafe_4cfef wsJ2_getChar_3b067 := goodIn_r _ [4, 5, 6, 7, 8, 9, 3, 10] (by decide +kernel) (by decide +kernel)
set_option maxRecDepth 20000 in
theorem gJ2_indexOfCharUnsafe_4cfef_J2_getChar_3b067 : GoodIn wsJ2_indexOfCharUnsafe_4cfef (va_wsS RJ2 71 yJ2_getChar_3b067 wsJ2_getChar_3b067) := goodIn_app (goodIn_of _ (by decide +kernel)) ggJ2_indexOfCharUnsafe_4cfef_J2_getChar_3b067
set_option maxRecDepth 20000 in
theorem ggJ2_indexOfSupplementary_4cfef_J11_isValidCodePoint_9a6ad : GoodIn wsJ2_indexOfSupplementary_4cfef wsJ11_isValidCodePoint_9a6ad := goodIn_r _ [4] (by decide +kernel) (by decide +kernel)
set_option maxRecDepth 20000 in
theorem gJ2_indexOfSupplementary_4cfef_J11_isValidCodePoint_9a6ad : GoodIn wsJ2_indexOfSupplementary_4cfef (va_wsS RJ2 164 yJ11_isValidCodePoint_9a6ad wsJ11_isValidCodePoint_9a6ad) := goodIn_app (goodIn_of _ (by decide +kernel)) ggJ2_indexOfSupplementary_4cfef_J11_isValidCodePoint_9a6ad
set_option maxRecDepth 20000 in
theorem ggJ2_indexOfSupplementary_4cfef_J11_highSurrogate_5068e : GoodIn wsJ2_indexOfSupplementary_4cfef wsJ11_highSurrogate_5068e := goodIn_r _ [7, 8] (by decide +kernel) (by decide +kernel)
set_option maxRecDepth 20000 in
theorem gJ2_indexOfSupplementary_4cfef_J11_highSurrogate_5068e : GoodIn wsJ2_indexOfSupplementary_4cfef (va_wsS RJ2 157 yJ11_highSurrogate_5068e wsJ11_highSurrogate_5068e) := goodIn_app (goodIn_of _ (by decide +kernel)) ggJ2_indexOfSupplementary_4cfef_J11_highSurrogate_5068e
set_option maxRecDepth 20000 in
theorem ggJ2_indexOfSupplementary_4cfef_J11_lowSurrogate_5068e : GoodIn wsJ2_indexOfSupplementary_4cfef wsJ11_lowSurrogate_5068e := goodIn_r _ [11, 12] (by decide +kernel) (by decide +kernel)
set_option maxRecDepth 20000 in
theorem gJ2_indexOfSupplementary_4cfef_J11_lowSurrogate_5068e : GoodIn wsJ2_indexOfSupplementary_4cfef (va_wsS RJ2 161 yJ11_lowSurrogate_5068e wsJ11_lowSurrogate_5068e) := goodIn_app (goodIn_of _ (by decide +kernel)) ggJ2_indexOfSupplementary_4cfef_J11_lowSurrogate_5068e
set_option maxRecDepth 20000 in
theorem ggJ2_indexOfSupplementary_4cfef_J2_checkBoundsBeginEnd_d044e : GoodIn wsJ2_indexOfSupplementary_4cfef wsJ2_checkBoundsBeginEnd_d044e := goodIn_r _ [16, 17, 18, 15, 19, 20, 21, 22, 23, 24, 25, 26, 27, 28] (by decide +kernel) (by decide +kernel)
set_option maxRecDepth 20000 in
theorem gJ2_indexOfSupplementary_4cfef_J2_checkBoundsBeginEnd_d044e : GoodIn wsJ2_indexOfSupplementary_4cfef (va_wsS RJ2 96 yJ2_checkBoundsBeginEnd_d044e wsJ2_checkBoundsBeginEnd_d044e) := goodIn_app (goodIn_of _ (by decide +kernel)) ggJ2_indexOfSupplementary_4cfef_J2_checkBoundsBeginEnd_d044e
set_option maxRecDepth 20000 in
theorem ggJ2_indexOfSupplementary_4cfef_J2_getChar_3b067 : GoodIn wsJ2_indexOfSupplementary_4cfef wsJ2_getChar_3b067 := goodIn_r _ [31, 32, 33, 34, 17, 18, 15, 19] (by decide +kernel) (by decide +kernel)
set_option maxRecDepth 20000 in
theorem gJ2_indexOfSupplementary_4cfef_J2_getChar_3b067 : GoodIn wsJ2_indexOfSupplementary_4cfef (va_wsS RJ2 71 yJ2_getChar_3b067 wsJ2_getChar_3b067) := goodIn_app (goodIn_of _ (by decide +kernel)) ggJ2_indexOfSupplementary_4cfef_J2_getChar_3b067
set_option maxRecDepth 20000 in
theorem ggJ2_checkBoundsBeginEnd_d044e_J2_length_9d52b : GoodIn wsJ2_checkBoundsBeginEnd_d044e wsJ2_length_9d52b := goodIn_r _ [4] (by decide +kernel) (by decide +kernel)
set_option maxRecDepth 20000 in
theorem gJ2_checkBoundsBeginEnd_d044e_J2_length_9d52b : GoodIn wsJ2_checkBoundsBeginEnd_d044e (va_wsS RJ2 48 yJ2_length_9d52b wsJ2_length_9d52b) := goodIn_app (goodIn_of _ (by decide +kernel)) ggJ2_checkBoundsBeginEnd_d044e_J2_length_9d52b
set_option maxRecDepth 20000 in
theorem ggJ2_checkBoundsBeginEnd_d044e_J0_checkBoundsBeginEnd_23922 : GoodIn wsJ2_checkBoundsBeginEnd_d044e wsJ0_checkBoundsBeginEnd_23922 := goodIn_r _ [8, 9, 10, 11, 12, 13] (by decide +kernel) (by decide +kernel)
set_option maxRecDepth 20000 in
theorem gJ2_checkBoundsBeginEnd_d044e_J0_checkBoundsBeginEnd_23922 : GoodIn wsJ2_checkBoundsBeginEnd_d044e (va_wsS RJ2 241 yJ0_checkBoundsBeginEnd_23922 wsJ0_checkBoundsBeginEnd_23922) := goodIn_app (goodIn_of _ (by decide +kernel)) ggJ2_checkBoundsBeginEnd_d044e_J0_checkBoundsBeginEnd_23922
set_option maxRecDepth 20000 in
theorem ggL_law_X11_init : GoodIn wsL_law wsX11_init := goodIn_r _ [8, 9, 10, 11, 12, 13, 14, 15, 16, 17, 18, 19, 20, 21, 22, 23, 24, 25, 26, 27, 28, 29, 30, 31, 32, 33, 34, 35, 36, 37, 38, 39, 40, 41, 42, 43, 44, 45, 46, 47, 48, 49, 50, 51, 52, 53, 54, 55, 56, 57, 58, 59, 60, 61, 62, 63, 64, 65, 66, 67, 68, 69, 70, 71, 72, 73, 74, 75, 76, 77, 78, 79, 80, 81, 82, 83, 84, 85, 86, 87, 88, 89, 90, 91, 92, 93, 94, 95, 96, 97, 98, 99, 100, 101, 102, 103, 104, 105, 858, 859, 817, 818, 819, 820, 821, 822, 823, 824, 825, 826, 860, 861, 862, 863, 864, 865, 866, 867, 868, 869, 870, 871, 872, 873, 874, 875, 876, 877, 878, 879, 880, 881, 882, 883, 884, 885, 886, 887, 888, 889] (by decide +kernel) (by decide +kernel)
set_option maxRecDepth 20000 in
theorem gL_law_X11_init : GoodIn wsL_law (wsX11_init) := ggL_law_X11_init
set_option maxRecDepth 20000 in
theorem ggL_law_X12_init : GoodIn wsL_law wsX12_init := goodIn_r _ [108, 109, 10, 11, 39, 110, 111, 112, 113, 114, 115, 116, 117, 118, 119, 120, 121, 122, 123, 124, 125, 126, 827, 828, 829, 830, 831, 832, 833, 834, 835, 836, 837, 838, 839, 840, 841, 842, 843, 844, 845, 846, 847, 848, 849, 850, 851, 852, 853, 854, 855, 856, 857] (by decide +kernel) (by decide +kernel)
set_option maxRecDepth 20000 in
theorem gL_law_X12_init : GoodIn wsL_law (wsX12_init) := ggL_law_X12_init
set_option maxRecDepth 20000 in
theorem ggL_law_X11_letter : GoodIn wsL_law wsX11_letter := goodIn_r _ [130, 15, 131, 132, 133, 134, 14, 135, 136, 40, 137, 2, 138, 817, 818, 819, 820, 821, 822, 823, 824, 825, 826, 858, 859] (by decide +kernel) (by decide +kernel)
set_option maxRecDepth 20000 in
theorem gL_law_X11_letter : GoodIn wsL_law (wsV RL 13 RX11 yX11_letter wsX11_letter) := goodIn_app (goodIn_of _ (by decide +kernel)) ggL_law_X11_letter
set_option maxRecDepth 20000 in
theorem ggL_law_X12_letter : GoodIn wsL_law wsX12_letter := goodIn_r _ [142, 143, 118, 144, 145, 5, 146, 827, 828, 829, 830, 831, 832, 833, 834, 835, 836, 837, 838, 839, 840, 841, 842, 843, 844, 845, 846, 847, 848, 849, 850, 851, 852, 853, 854, 855, 856, 857] (by decide +kernel) (by decide +kernel)
set_option maxRecDepth 20000 in
theorem gL_law_X12_letter : GoodIn wsL_law (wsV RL 17 RX12 yX12_letter wsX12_letter) := goodIn_app (goodIn_of _ (by decide +kernel)) ggL_law_X12_letter
set_option maxRecDepth 20000 in
theorem ggL_law_X11_blank : GoodIn wsL_law wsX11_blank := goodIn_r _ [150, 15, 131, 817, 818, 819, 820, 821, 822, 823, 824, 825, 826, 858, 859] (by decide +kernel) (by decide +kernel)
set_option maxRecDepth 20000 in
theorem gL_law_X11_blank : GoodIn wsL_law (wsV RL 18 RX11 yX11_blank wsX11_blank) := goodIn_app (goodIn_of _ (by decide +kernel)) ggL_law_X11_blank
set_option maxRecDepth 20000 in
theorem ggL_law_X12_blank : GoodIn wsL_law wsX12_blank := goodIn_r _ [154, 143, 827, 828, 829, 830, 831, 832, 833, 834, 835, 836, 837, 838, 839, 840, 841, 842, 843, 844, 845, 846, 847, 848, 849, 850, 851, 852, 853, 854, 855, 856, 857] (by decide +kernel) (by decide +kernel)
set_option maxRecDepth 20000 in
theorem gL_law_X12_blank : GoodIn wsL_law (wsV RL 22 RX12 yX12_blank wsX12_blank) := goodIn_app (goodIn_of _ (by decide +kernel)) ggL_law_X12_blank
set_option maxRecDepth 20000 in
theorem ggL_law_X11_fault : GoodIn wsL_law wsX11_fault := goodIn_r _ [158, 15, 159, 160, 161, 14, 162, 136, 163, 164, 165, 166, 40, 167, 168, 169, 170, 171, 2, 172, 173, 174, 175, 176, 177, 178, 179, 180, 181, 182, 183, 184, 185, 186, 187, 188, 189, 190, 191, 192, 193, 194, 195, 196, 197, 198, 199, 200, 201, 202, 203, 204, 205, 206, 207, 208, 209, 210, 211, 212, 213, 214, 215, 216, 217, 218, 219, 220, 221, 222, 223, 224, 225, 226, 227, 228, 229, 230, 231, 232, 233, 234, 235, 236, 237, 238, 239, 240, 241, 242, 243, 244, 245, 246, 247, 248, 249, 250, 251, 252, 253, 254, 255, 256, 257, 258, 259, 260, 261, 262, 263, 264, 265, 266, 267, 268, 269, 270, 271, 272, 273, 274, 275, 276, 277, 817, 818, 819, 820, 821, 822, 823, 824, 825, 826, 858, 859] (by decide +kernel) (by decide +kernel)
set_option maxRecDepth 20000 in
theorem gL_law_X11_fault : GoodIn wsL_law (wsV RL 23 RX11 yX11_fault wsX11_fault) := goodIn_app (goodIn_of _ (by decide +kernel)) ggL_law_X11_fault
set_option maxRecDepth 20000 in
theorem ggL_law_X12_fault : GoodIn wsL_law wsX12_fault := goodIn_r _ [281, 282, 283, 284, 5, 285, 143, 118, 286, 287, 288, 289, 290, 291, 292, 144, 145, 146, 293, 294, 295, 296, 827, 828, 829, 830, 831, 832, 833, 834, 835, 836, 837, 838, 839, 840, 841, 842, 843, 844, 845, 846, 847, 848, 849, 850, 851, 852, 853, 854, 855, 856, 857] (by decide +kernel) (by decide +kernel)
set_option maxRecDepth 20000 in
theorem gL_law_X12_fault : GoodIn wsL_law (wsV RL 26 RX12 yX12_fault wsX12_fault) := goodIn_app (goodIn_of _ (by decide +kernel)) ggL_law_X12_fault
set_option maxRecDepth 20000 in
theorem ggL_law_X11_town : GoodIn wsL_law wsX11_town := goodIn_r _ [300, 15, 19, 131, 301, 302, 303, 304, 305, 14, 306, 136, 266, 267, 268, 269, 307, 160, 161, 162, 163, 164, 165, 166, 40, 167, 168, 169, 170, 171, 2, 172, 173, 174, 175, 176, 177, 178, 179, 180, 181, 182, 183, 184, 185, 186, 187, 188, 189, 190, 191, 192, 193, 194, 195, 196, 197, 198, 199, 200, 201, 202, 203, 204, 205, 206, 207, 208, 209, 210, 211, 212, 213, 214, 215, 216, 217, 218, 219, 220, 221, 222, 223, 224, 225, 226, 227, 228, 229, 230, 231, 232, 233, 234, 235, 236, 237, 238, 239, 240, 241, 242, 243, 244, 245, 246, 247, 248, 249, 250, 251, 252, 253, 254, 255, 256, 257, 258, 259, 260, 261, 262, 263, 264, 265, 270, 271, 272, 273, 274, 275, 276, 277, 308, 309, 310, 18, 311, 45, 312, 313, 62, 61, 314, 315, 316, 317, 318, 22, 319, 66, 67, 68, 320, 321, 322, 323, 137, 138, 324, 325, 326, 817, 818, 819, 820, 821, 822, 823, 824, 825, 826, 858, 859, 860, 861, 862, 863, 864, 865, 866, 867, 868, 869, 870, 871, 872, 873] (by decide +kernel) (by decide +kernel)
set_option maxRecDepth 20000 in
theorem gL_law_X11_town : GoodIn wsL_law (wsV RL 27 RX11 yX11_town wsX11_town) := goodIn_app (goodIn_of _ (by decide +kernel)) ggL_law_X11_town
set_option maxRecDepth 20000 in
theorem ggL_law_X12_town : GoodIn wsL_law wsX12_town := goodIn_r _ [330, 143, 331, 110, 118, 111, 112, 113, 332, 333, 334, 335, 293, 294, 295, 5, 296, 282, 283, 284, 285, 286, 287, 288, 289, 290, 291, 292, 144, 145, 146, 827, 828, 829, 830, 831, 832, 833, 834, 835, 836, 837, 838, 839, 840, 841, 842, 843, 844, 845, 846, 847, 848, 849, 850, 851, 852, 853, 854, 855, 856, 857] (by decide +kernel) (by decide +kernel)
set_option maxRecDepth 20000 in
theorem gL_law_X12_town : GoodIn wsL_law (wsV RL 30 RX12 yX12_town wsX12_town) := goodIn_app (goodIn_of _ (by decide +kernel)) ggL_law_X12_town
set_option maxRecDepth 20000 in
theorem ggL_law_X11_about : GoodIn wsL_law wsX11_about := goodIn_r _ [339, 19, 340, 341, 342, 18, 343, 313, 344, 345, 346, 2, 347, 348, 349, 350, 351, 352, 353, 354, 355, 356, 357, 358, 359, 360, 361, 62, 362, 363, 171, 172, 364, 365, 366, 367, 368, 369, 370, 371, 372, 373, 374, 375, 376, 377, 45, 314, 315, 378, 379, 380, 381, 382, 383, 384, 385, 386, 387, 54, 388, 389, 390, 391, 51, 392, 393, 394, 395, 48, 396, 397, 57, 398, 399, 400, 60, 401, 402, 403, 404, 405, 406, 407, 408, 409, 410, 817, 818, 819, 820, 821, 822, 823, 824, 825, 826, 860, 861, 862, 863, 864, 865, 866, 867, 868, 869, 870, 871, 872, 873, 887, 886, 885, 888, 889] (by decide +kernel) (by decide +kernel)
set_option maxRecDepth 20000 in
theorem gL_law_X11_about : GoodIn wsL_law (wsV RL 31 RX11 yX11_about wsX11_about) := goodIn_app (goodIn_of _ (by decide +kernel)) ggL_law_X11_about
set_option maxRecDepth 20000 in
theorem ggL_law_X12_about : GoodIn wsL_law wsX12_about := goodIn_r _ [414, 415, 416, 417, 5, 418, 331, 144, 145, 146, 419, 420, 421, 422, 110, 111, 112, 113, 423, 424, 425, 426, 427, 428, 429, 430, 431, 432, 433, 434, 435, 436, 437, 438, 439, 440, 441, 442, 443, 444, 445, 446, 447, 448, 449, 450, 451, 452, 453, 827, 828, 829, 830, 831, 832, 833, 834, 835, 836, 837, 838, 839, 840, 841, 842, 843, 844, 845, 846, 847, 848, 849, 850, 851, 852, 853, 854, 855, 856, 857] (by decide +kernel) (by decide +kernel)
set_option maxRecDepth 20000 in
theorem gL_law_X12_about : GoodIn wsL_law (wsV RL 35 RX12 yX12_about wsX12_about) := goodIn_app (goodIn_of _ (by decide +kernel)) ggL_law_X12_about
set_option maxRecDepth 20000 in
theorem ggL_law_X11_as : GoodIn wsL_law wsX11_as := goodIn_r _ [457, 19, 340, 341, 342, 18, 343, 313, 458, 359, 360, 361, 62, 362, 459, 460, 2, 461, 462, 463, 464, 465, 817, 818, 819, 820, 821, 822, 823, 824, 825, 826, 860, 861, 862, 863] (by decide +kernel) (by decide +kernel)
set_option maxRecDepth 20000 in
theorem gL_law_X11_as : GoodIn wsL_law (wsV RL 36 RX11 yX11_as wsX11_as) := goodIn_app (goodIn_of _ (by decide +kernel)) ggL_law_X11_as
set_option maxRecDepth 20000 in
theorem ggL_law_X12_as : GoodIn wsL_law wsX12_as := goodIn_r _ [469, 110, 415, 416, 417, 5, 418, 331, 144, 145, 146, 827, 828, 829, 830, 831, 832, 833, 834, 835, 836, 837, 838, 839, 840, 841, 842, 843, 844, 845, 846, 847, 848, 849, 850, 851, 852, 853, 854, 855, 856, 857] (by decide +kernel) (by decide +kernel)
set_option maxRecDepth 20000 in
theorem gL_law_X12_as : GoodIn wsL_law (wsV RL 39 RX12 yX12_as wsX12_as) := goodIn_app (goodIn_of _ (by decide +kernel)) ggL_law_X12_as
set_option maxRecDepth 20000 in
theorem ggL_law_X11_go : GoodIn wsL_law wsX11_go := goodIn_r _ [473, 19, 348, 351, 474, 340, 341, 342, 18, 343, 313, 364, 365, 2, 366, 367, 368, 369, 475, 476, 477, 817, 818, 819, 820, 821, 822, 823, 824, 825, 826, 860, 861, 862, 863, 864, 865, 866, 867, 868, 869, 870, 871, 872, 873] (by decide +kernel) (by decide +kernel)
set_option maxRecDepth 20000 in
theorem gL_law_X11_go : GoodIn wsL_law (wsV RL 40 RX11 yX11_go wsX11_go) := goodIn_app (goodIn_of _ (by decide +kernel)) ggL_law_X11_go
set_option maxRecDepth 20000 in
theorem ggL_law_X12_go : GoodIn wsL_law wsX12_go := goodIn_r _ [481, 112, 333, 415, 416, 417, 5, 418, 331, 144, 145, 146, 827, 828, 829, 830, 831, 832, 833, 834, 835, 836, 837, 838, 839, 840, 841, 842, 843, 844, 845, 846, 847, 848, 849, 850, 851, 852, 853, 854, 855, 856, 857] (by decide +kernel) (by decide +kernel)
set_option maxRecDepth 20000 in
theorem gL_law_X12_go : GoodIn wsL_law (wsV RL 43 RX12 yX12_go wsX12_go) := goodIn_app (goodIn_of _ (by decide +kernel)) ggL_law_X12_go
set_option maxRecDepth 20000 in
theorem ggL_law_X11_sell : GoodIn wsL_law wsX11_sell := goodIn_r _ [485, 19, 348, 349, 350, 486, 340, 341, 342, 18, 343, 313, 363, 171, 2, 172, 487, 137, 138, 817, 818, 819, 820, 821, 822, 823, 824, 825, 826, 860, 861, 862, 863, 864, 865, 866, 867, 868, 869, 870, 871, 872, 873] (by decide +kernel) (by decide +kernel)
set_option maxRecDepth 20000 in
theorem gL_law_X11_sell : GoodIn wsL_law (wsV RL 44 RX11 yX11_sell wsX11_sell) := goodIn_app (goodIn_of _ (by decide +kernel)) ggL_law_X11_sell
set_option maxRecDepth 20000 in
theorem ggL_law_X12_sell : GoodIn wsL_law wsX12_sell := goodIn_r _ [491, 111, 334, 415, 416, 417, 5, 418, 331, 144, 145, 146, 827, 828, 829, 830, 831, 832, 833, 834, 835, 836, 837, 838, 839, 840, 841, 842, 843, 844, 845, 846, 847, 848, 849, 850, 851, 852, 853, 854, 855, 856, 857] (by decide +kernel) (by decide +kernel)
set_option maxRecDepth 20000 in
theorem gL_law_X12_sell : GoodIn wsL_law (wsV RL 48 RX12 yX12_sell wsX12_sell) := goodIn_app (goodIn_of _ (by decide +kernel)) ggL_law_X12_sell
set_option maxRecDepth 20000 in
theorem ggL_law_X11_quarrel : GoodIn wsL_law wsX11_quarrel := goodIn_r _ [495, 19, 348, 352, 340, 341, 342, 18, 343, 313, 363, 171, 2, 172, 496, 497, 498, 22, 499, 68, 137, 138, 817, 818, 819, 820, 821, 822, 823, 824, 825, 826, 860, 861, 862, 863, 864, 865, 866, 867, 868, 869, 870, 871, 872, 873] (by decide +kernel) (by decide +kernel)
set_option maxRecDepth 20000 in
theorem gL_law_X11_quarrel : GoodIn wsL_law (wsV RL 49 RX11 yX11_quarrel wsX11_quarrel) := goodIn_app (goodIn_of _ (by decide +kernel)) ggL_law_X11_quarrel
set_option maxRecDepth 20000 in
theorem ggL_law_X12_quarrel : GoodIn wsL_law wsX12_quarrel := goodIn_r _ [503, 113, 415, 416, 417, 5, 418, 331, 144, 145, 146, 504, 505, 506, 827, 828, 829, 830, 831, 832, 833, 834, 835, 836, 837, 838, 839, 840, 841, 842, 843, 844, 845, 846, 847, 848, 849, 850, 851, 852, 853, 854, 855, 856, 857] (by decide +kernel) (by decide +kernel)
set_option maxRecDepth 20000 in
theorem gL_law_X12_quarrel : GoodIn wsL_law (wsV RL 53 RX12 yX12_quarrel wsX12_quarrel) := goodIn_app (goodIn_of _ (by decide +kernel)) ggL_law_X12_quarrel
set_option maxRecDepth 20000 in
theorem ggL_law_X11_written : GoodIn wsL_law wsX11_written := goodIn_r _ [510, 19, 340, 341, 342, 18, 343, 313, 511, 512, 513, 514, 515, 516, 517, 518, 374, 375, 376, 377, 45, 314, 315, 171, 2, 172, 378, 379, 380, 381, 382, 358, 359, 360, 361, 62, 362, 383, 384, 385, 386, 387, 54, 388, 389, 390, 391, 51, 392, 393, 394, 395, 48, 396, 397, 57, 398, 399, 400, 60, 401, 817, 818, 819, 820, 821, 822, 823, 824, 825, 826, 860, 861, 862, 863, 864, 865, 866, 867, 868, 869, 870, 871, 872, 873] (by decide +kernel) (by decide +kernel)
set_option maxRecDepth 20000 in
theorem gL_law_X11_written : GoodIn wsL_law (wsV RL 54 RX11 yX11_written wsX11_written) := goodIn_app (goodIn_of _ (by decide +kernel)) ggL_law_X11_written
set_option maxRecDepth 20000 in
theorem ggL_law_X12_written : GoodIn wsL_law wsX12_written := goodIn_r _ [522, 415, 416, 417, 5, 418, 331, 144, 145, 146, 523, 524, 525, 526, 443, 444, 445, 431, 432, 433, 434, 111, 435, 436, 437, 438, 110, 439, 440, 441, 442, 113, 827, 828, 829, 830, 831, 832, 833, 834, 835, 836, 837, 838, 839, 840, 841, 842, 843, 844, 845, 846, 847, 848, 849, 850, 851, 852, 853, 854, 855, 856, 857] (by decide +kernel) (by decide +kernel)
set_option maxRecDepth 20000 in
theorem gL_law_X12_written : GoodIn wsL_law (wsV RL 57 RX12 yX12_written wsX12_written) := goodIn_app (goodIn_of _ (by decide +kernel)) ggL_law_X12_written
set_option maxRecDepth 20000 in
theorem ggL_law_X11_moves : GoodIn wsL_law wsX11_moves := goodIn_r _ [530, 19, 531, 27, 532, 340, 341, 342, 18, 343, 313, 533, 534, 535, 26, 536, 537, 538, 539, 540, 541, 542, 543, 544, 545, 546, 547, 548, 549, 550, 551, 371, 372, 373, 365, 2, 366, 367, 368, 369, 552, 375, 376, 377, 45, 314, 315, 171, 172, 378, 379, 380, 381, 382, 358, 359, 360, 361, 62, 362, 383, 384, 385, 386, 387, 54, 388, 389, 390, 391, 51, 392, 393, 394, 395, 48, 396, 397, 57, 398, 399, 400, 60, 401, 364, 817, 818, 819, 820, 821, 822, 823, 824, 825, 826, 874, 875, 876, 877, 860, 861, 862, 863, 864, 865, 866, 867, 868, 869, 870, 871, 872, 873] (by decide +kernel) (by decide +kernel)
set_option maxRecDepth 20000 in
theorem gL_law_X11_moves : GoodIn wsL_law (wsV RL 58 RX11 yX11_moves wsX11_moves) := goodIn_app (goodIn_of _ (by decide +kernel)) ggL_law_X11_moves
set_option maxRecDepth 20000 in
theorem ggL_law_X12_moves : GoodIn wsL_law wsX12_moves := goodIn_r _ [556, 557, 415, 416, 417, 5, 418, 331, 144, 145, 146, 558, 559, 560, 561, 562, 563, 564, 565, 566, 112, 567, 568, 569, 570, 571, 572, 573, 574, 431, 432, 433, 434, 111, 435, 436, 437, 438, 110, 439, 440, 441, 442, 113, 443, 444, 445, 827, 828, 829, 830, 831, 832, 833, 834, 835, 836, 837, 838, 839, 840, 841, 842, 843, 844, 845, 846, 847, 848, 849, 850, 851, 852, 853, 854, 855, 856, 857] (by decide +kernel) (by decide +kernel)
set_option maxRecDepth 20000 in
theorem gL_law_X12_moves : GoodIn wsL_law (wsV RL 61 RX12 yX12_moves wsX12_moves) := goodIn_app (goodIn_of _ (by decide +kernel)) ggL_law_X12_moves
set_option maxRecDepth 20000 in
theorem ggL_law_X11_days : GoodIn wsL_law wsX11_days := goodIn_r _ [578, 19, 302, 579, 27, 580, 581, 516, 517, 18, 518, 313, 582, 583, 584, 26, 585, 537, 586, 96, 587, 588, 589, 590, 552, 375, 376, 377, 45, 314, 315, 171, 2, 172, 378, 379, 380, 381, 382, 358, 359, 360, 361, 62, 362, 341, 342, 343, 383, 384, 385, 386, 387, 54, 388, 389, 390, 391, 51, 392, 393, 394, 395, 48, 396, 397, 57, 398, 399, 400, 60, 401, 137, 138, 591, 592, 593, 594, 97, 363, 817, 818, 819, 820, 821, 822, 823, 824, 825, 826, 860, 861, 862, 863, 874, 875, 876, 877, 864, 865, 866, 867, 868, 869, 870, 871, 872, 873] (by decide +kernel) (by decide +kernel)
set_option maxRecDepth 20000 in
theorem gL_law_X11_days : GoodIn wsL_law (wsV RL 62 RX11 yX11_days wsX11_days) := goodIn_app (goodIn_of _ (by decide +kernel)) ggL_law_X11_days
set_option maxRecDepth 20000 in
theorem ggL_law_X12_days : GoodIn wsL_law wsX12_days := goodIn_r _ [598, 331, 599, 523, 524, 525, 5, 526, 144, 145, 146, 600, 601, 602, 603, 604, 605, 606, 607, 119, 443, 444, 445, 431, 432, 433, 434, 111, 435, 436, 437, 438, 110, 439, 440, 441, 442, 113, 608, 609, 610, 611, 827, 828, 829, 830, 831, 832, 833, 834, 835, 836, 837, 838, 839, 840, 841, 842, 843, 844, 845, 846, 847, 848, 849, 850, 851, 852, 853, 854, 855, 856, 857] (by decide +kernel) (by decide +kernel)
set_option maxRecDepth 20000 in
theorem gL_law_X12_days : GoodIn wsL_law (wsV RL 65 RX12 yX12_days wsX12_days) := goodIn_app (goodIn_of _ (by decide +kernel)) ggL_law_X12_days
set_option maxRecDepth 20000 in
theorem ggL_law_X11_hear : GoodIn wsL_law wsX11_hear := goodIn_r _ [615, 19, 348, 616, 340, 341, 342, 18, 343, 313, 511, 512, 513, 514, 515, 516, 517, 518, 617, 618, 619, 22, 620, 69, 321, 70, 71, 137, 2, 138, 817, 818, 819, 820, 821, 822, 823, 824, 825, 826, 860, 861, 862, 863, 864, 865, 866, 867, 868, 869, 870, 871, 872, 873] (by decide +kernel) (by decide +kernel)
set_option maxRecDepth 20000 in
theorem gL_law_X11_hear : GoodIn wsL_law (wsV RL 66 RX11 yX11_hear wsX11_hear) := goodIn_app (goodIn_of _ (by decide +kernel)) ggL_law_X11_hear
set_option maxRecDepth 20000 in
theorem ggL_law_X12_hear : GoodIn wsL_law wsX12_hear := goodIn_r _ [624, 335, 114, 115, 116, 415, 416, 417, 5, 418, 331, 144, 145, 146, 523, 524, 525, 526, 443, 444, 445, 827, 828, 829, 830, 831, 832, 833, 834, 835, 836, 837, 838, 839, 840, 841, 842, 843, 844, 845, 846, 847, 848, 849, 850, 851, 852, 853, 854, 855, 856, 857] (by decide +kernel) (by decide +kernel)
set_option maxRecDepth 20000 in
theorem gL_law_X12_hear : GoodIn wsL_law (wsV RL 69 RX12 yX12_hear wsX12_hear) := goodIn_app (goodIn_of _ (by decide +kernel)) ggL_law_X12_hear
set_option maxRecDepth 20000 in
theorem ggL_law_X11_forget : GoodIn wsL_law wsX11_forget := goodIn_r _ [628, 19, 348, 616, 817, 818, 819, 820, 821, 822, 823, 824, 825, 826, 860, 861, 862, 863, 864, 865, 866, 867, 868, 869, 870, 871, 872, 873] (by decide +kernel) (by decide +kernel)
set_option maxRecDepth 20000 in
theorem gL_law_X11_forget : GoodIn wsL_law (wsV RL 70 RX11 yX11_forget wsX11_forget) := goodIn_app (goodIn_of _ (by decide +kernel)) ggL_law_X11_forget
set_option maxRecDepth 20000 in
theorem ggL_law_X12_forget : GoodIn wsL_law wsX12_forget := goodIn_r _ [632, 335, 827, 828, 829, 830, 831, 832, 833, 834, 835, 836, 837, 838, 839, 840, 841, 842, 843, 844, 845, 846, 847, 848, 849, 850, 851, 852, 853, 854, 855, 856, 857] (by decide +kernel) (by decide +kernel)
set_option maxRecDepth 20000 in
theorem gL_law_X12_forget : GoodIn wsL_law (wsV RL 73 RX12 yX12_forget wsX12_forget) := goodIn_app (goodIn_of _ (by decide +kernel)) ggL_law_X12_forget
set_option maxRecDepth 20000 in
theorem ggL_law_X11_holders : GoodIn wsL_law wsX11_holders := goodIn_r _ [636, 19, 31, 637, 340, 341, 342, 18, 343, 313, 638, 639, 640, 30, 641, 642, 643, 644, 101, 102, 645, 646, 647, 648, 649, 650, 651, 652, 653, 171, 2, 172, 654, 379, 380, 381, 45, 382, 358, 359, 360, 361, 62, 362, 383, 384, 385, 386, 387, 54, 388, 389, 390, 391, 51, 392, 393, 394, 395, 48, 396, 397, 57, 398, 399, 400, 60, 401, 137, 138, 655, 656, 657, 658, 817, 818, 819, 820, 821, 822, 823, 824, 825, 826, 878, 879, 880, 881, 860, 861, 862, 863, 864, 865, 866, 867, 868, 869, 870, 871, 872, 873] (by decide +kernel) (by decide +kernel)
set_option maxRecDepth 20000 in
theorem gL_law_X11_holders : GoodIn wsL_law (wsV RL 74 RX11 yX11_holders wsX11_holders) := goodIn_app (goodIn_of _ (by decide +kernel)) ggL_law_X11_holders
set_option maxRecDepth 20000 in
theorem ggL_law_X12_holders : GoodIn wsL_law wsX12_holders := goodIn_r _ [662, 415, 416, 417, 5, 418, 331, 144, 145, 146, 663, 664, 665, 666, 667, 668, 669, 670, 335, 114, 115, 116, 435, 436, 437, 438, 110, 439, 440, 441, 442, 113, 443, 444, 445, 827, 828, 829, 830, 831, 832, 833, 834, 835, 836, 837, 838, 839, 840, 841, 842, 843, 844, 845, 846, 847, 848, 849, 850, 851, 852, 853, 854, 855, 856, 857] (by decide +kernel) (by decide +kernel)
set_option maxRecDepth 20000 in
theorem gL_law_X12_holders : GoodIn wsL_law (wsV RL 77 RX12 yX12_holders wsX12_holders) := goodIn_app (goodIn_of _ (by decide +kernel)) ggL_law_X12_holders
set_option maxRecDepth 20000 in
theorem ggL_law_X11_invite : GoodIn wsL_law wsX11_invite := goodIn_r _ [674, 19, 31, 340, 341, 342, 18, 343, 313, 638, 639, 640, 30, 641, 642, 643, 644, 101, 102, 645, 646, 647, 648, 649, 650, 651, 652, 653, 171, 2, 172, 654, 379, 380, 381, 45, 382, 358, 359, 360, 361, 62, 362, 383, 384, 385, 386, 387, 54, 388, 389, 390, 391, 51, 392, 393, 394, 395, 48, 396, 397, 57, 398, 399, 400, 60, 401, 137, 138, 675, 676, 677, 678, 679, 512, 513, 514, 515, 516, 517, 518, 680, 681, 682, 683, 684, 202, 203, 204, 817, 818, 819, 820, 821, 822, 823, 824, 825, 826, 860, 861, 862, 863, 878, 879, 880, 881, 864, 865, 866, 867, 868, 869, 870, 871, 872, 873] (by decide +kernel) (by decide +kernel)
set_option maxRecDepth 20000 in
theorem gL_law_X11_invite : GoodIn wsL_law (wsV RL 78 RX11 yX11_invite wsX11_invite) := goodIn_app (goodIn_of _ (by decide +kernel)) ggL_law_X11_invite
set_option maxRecDepth 20000 in
theorem ggL_law_X12_invite : GoodIn wsL_law wsX12_invite := goodIn_r _ [688, 415, 416, 417, 5, 418, 331, 144, 145, 146, 689, 690, 691, 692, 562, 663, 664, 665, 666, 667, 668, 669, 670, 335, 114, 115, 116, 435, 436, 437, 438, 110, 439, 440, 441, 442, 113, 443, 444, 445, 693, 694, 695, 696, 827, 828, 829, 830, 831, 832, 833, 834, 835, 836, 837, 838, 839, 840, 841, 842, 843, 844, 845, 846, 847, 848, 849, 850, 851, 852, 853, 854, 855, 856, 857] (by decide +kernel) (by decide +kernel)
set_option maxRecDepth 20000 in
theorem gL_law_X12_invite : GoodIn wsL_law (wsV RL 81 RX12 yX12_invite wsX12_invite) := goodIn_app (goodIn_of _ (by decide +kernel)) ggL_law_X12_invite
set_option maxRecDepth 20000 in
theorem ggL_law_X11_years : GoodIn wsL_law wsX11_years := goodIn_r _ [700, 19, 302, 35, 701, 702, 703, 704, 705, 706, 34, 707, 708, 709, 710, 711, 712, 713, 714, 715, 716, 717, 718, 719, 720, 476, 2, 477, 367, 368, 369, 721, 722, 723, 18, 724, 313, 725, 371, 372, 373, 365, 366, 410, 375, 376, 377, 45, 314, 315, 171, 172, 378, 379, 380, 381, 382, 358, 359, 360, 361, 62, 362, 341, 342, 343, 383, 384, 385, 386, 387, 54, 388, 389, 390, 391, 51, 392, 393, 394, 395, 48, 396, 397, 57, 398, 399, 400, 60, 401, 817, 818, 819, 820, 821, 822, 823, 824, 825, 826, 860, 861, 862, 863, 882, 883, 884, 864, 865, 866, 867, 868, 869, 870, 871, 872, 873] (by decide +kernel) (by decide +kernel)
set_option maxRecDepth 20000 in
theorem gL_law_X11_years : GoodIn wsL_law (wsV RL 82 RX11 yX11_years wsX11_years) := goodIn_app (goodIn_of _ (by decide +kernel)) ggL_law_X11_years
set_option maxRecDepth 20000 in
theorem ggL_law_X12_years : GoodIn wsL_law wsX12_years := goodIn_r _ [729, 331, 144, 145, 5, 146, 730, 731, 732, 733, 120, 112, 734, 735, 736, 737, 738, 739, 740, 741, 742, 743, 744, 745, 746, 423, 424, 425, 426, 427, 428, 429, 430, 431, 432, 433, 434, 111, 435, 436, 437, 438, 110, 439, 440, 441, 442, 113, 443, 444, 445, 827, 828, 829, 830, 831, 832, 833, 834, 835, 836, 837, 838, 839, 840, 841, 842, 843, 844, 845, 846, 847, 848, 849, 850, 851, 852, 853, 854, 855, 856, 857] (by decide +kernel) (by decide +kernel)
set_option maxRecDepth 20000 in
theorem gL_law_X12_years : GoodIn wsL_law (wsV RL 85 RX12 yX12_years wsX12_years) := goodIn_app (goodIn_of _ (by decide +kernel)) ggL_law_X12_years
set_option maxRecDepth 20000 in
theorem ggL_law_X11_image : GoodIn wsL_law wsX11_image := goodIn_r _ [750, 19, 302, 23, 348, 301, 751, 474, 486, 752, 753, 754, 22, 755, 66, 67, 68, 69, 70, 71, 320, 321, 322, 323, 171, 2, 172, 137, 138, 817, 818, 819, 820, 821, 822, 823, 824, 825, 826, 860, 861, 862, 863, 864, 865, 866, 867, 868, 869, 870, 871, 872, 873] (by decide +kernel) (by decide +kernel)
set_option maxRecDepth 20000 in
theorem gL_law_X11_image : GoodIn wsL_law (wsV RL 86 RX11 yX11_image wsX11_image) := goodIn_app (goodIn_of _ (by decide +kernel)) ggL_law_X11_image
set_option maxRecDepth 20000 in
theorem ggL_law_X12_image : GoodIn wsL_law wsX12_image := goodIn_r _ [759, 331, 760, 332, 761, 333, 762, 334, 763, 335, 764, 121, 111, 122, 112, 123, 113, 124, 114, 125, 115, 126, 116, 827, 828, 829, 830, 831, 832, 833, 834, 835, 836, 837, 838, 839, 840, 841, 842, 843, 844, 845, 846, 847, 848, 849, 850, 851, 852, 853, 854, 855, 856, 857] (by decide +kernel) (by decide +kernel)
set_option maxRecDepth 20000 in
theorem gL_law_X12_image : GoodIn wsL_law (wsV RL 89 RX12 yX12_image wsX12_image) := goodIn_app (goodIn_of _ (by decide +kernel)) ggL_law_X12_image
set_option maxRecDepth 20000 in
theorem ggL_law_X11_restore : GoodIn wsL_law wsX11_restore := goodIn_r _ [768, 751, 301, 19, 348, 23, 474, 486, 752, 753, 754, 22, 755, 66, 67, 68, 69, 70, 71, 320, 321, 322, 323, 171, 2, 172, 137, 138, 817, 818, 819, 820, 821, 822, 823, 824, 825, 826, 860, 861, 862, 863, 864, 865, 866, 867, 868, 869, 870, 871, 872, 873] (by decide +kernel) (by decide +kernel)
set_option maxRecDepth 20000 in
theorem gL_law_X11_restore : GoodIn wsL_law (wsV RL 90 RX11 yX11_restore wsX11_restore) := goodIn_app (goodIn_of _ (by decide +kernel)) ggL_law_X11_restore
set_option maxRecDepth 20000 in
theorem ggL_law_X12_restore : GoodIn wsL_law wsX12_restore := goodIn_r _ [772, 760, 761, 332, 762, 333, 763, 334, 764, 335, 111, 121, 112, 122, 113, 123, 114, 124, 115, 125, 116, 126, 827, 828, 829, 830, 831, 832, 833, 834, 835, 836, 837, 838, 839, 840, 841, 842, 843, 844, 845, 846, 847, 848, 849, 850, 851, 852, 853, 854, 855, 856, 857] (by decide +kernel) (by decide +kernel)
set_option maxRecDepth 20000 in
theorem gL_law_X12_restore : GoodIn wsL_law (wsV RL 93 RX12 yX12_restore wsX12_restore) := goodIn_app (goodIn_of _ (by decide +kernel)) ggL_law_X12_restore
set_option maxRecDepth 20000 in
theorem ggL_law_X11_count : GoodIn wsL_law wsX11_count := goodIn_r _ [776, 19, 302, 348, 351, 474, 486, 616, 15, 131, 301, 531, 579, 777, 722, 723, 18, 724, 313, 725, 371, 372, 373, 365, 2, 366, 367, 368, 369, 410, 375, 376, 377, 45, 314, 315, 171, 172, 378, 379, 380, 381, 382, 358, 359, 360, 361, 62, 362, 341, 342, 343, 383, 384, 385, 386, 387, 54, 388, 389, 390, 391, 51, 392, 393, 394, 395, 48, 396, 397, 57, 398, 399, 400, 60, 401, 778, 779, 780, 781, 782, 545, 546, 547, 548, 549, 550, 817, 818, 819, 820, 821, 822, 823, 824, 825, 826, 860, 861, 862, 863, 864, 865, 866, 867, 868, 869, 870, 871, 872, 873, 858, 859] (by decide +kernel) (by decide +kernel)
set_option maxRecDepth 20000 in
theorem gL_law_X11_count : GoodIn wsL_law (wsV RL 94 RX11 yX11_count wsX11_count) := goodIn_app (goodIn_of _ (by decide +kernel)) ggL_law_X11_count
set_option maxRecDepth 20000 in
theorem ggL_law_X12_count : GoodIn wsL_law wsX12_count := goodIn_r _ [786, 787, 788, 789, 5, 790, 331, 333, 334, 335, 143, 332, 557, 599, 743, 744, 745, 746, 423, 424, 425, 426, 427, 428, 429, 430, 112, 431, 432, 433, 434, 111, 435, 436, 437, 438, 110, 439, 440, 441, 442, 113, 443, 444, 445, 791, 792, 793, 794, 795, 796, 797, 827, 828, 829, 830, 831, 832, 833, 834, 835, 836, 837, 838, 839, 840, 841, 842, 843, 844, 845, 846, 847, 848, 849, 850, 851, 852, 853, 854, 855, 856, 857] (by decide +kernel) (by decide +kernel)
set_option maxRecDepth 20000 in
theorem gL_law_X12_count : GoodIn wsL_law (wsV RL 97 RX12 yX12_count wsX12_count) := goodIn_app (goodIn_of _ (by decide +kernel)) ggL_law_X12_count
set_option maxRecDepth 20000 in
theorem ggL_law_X11_digest : GoodIn wsL_law wsX11_digest := goodIn_r _ [801, 802, 19, 302, 803, 31, 637, 15, 131, 804, 344, 345, 346, 2, 347, 348, 349, 350, 351, 352, 353, 354, 355, 18, 356, 357, 358, 359, 360, 361, 62, 362, 341, 342, 343, 313, 363, 171, 172, 364, 365, 366, 367, 368, 369, 370, 371, 372, 373, 374, 375, 376, 377, 45, 314, 315, 378, 379, 380, 381, 382, 383, 384, 385, 386, 387, 54, 388, 389, 390, 391, 51, 392, 393, 394, 395, 48, 396, 397, 57, 398, 399, 400, 60, 401, 402, 403, 404, 405, 406, 407, 408, 409, 410, 638, 639, 640, 30, 641, 642, 643, 644, 101, 102, 645, 646, 647, 648, 649, 650, 651, 652, 653, 654, 137, 138, 655, 656, 657, 658, 675, 676, 677, 678, 679, 512, 513, 514, 515, 516, 517, 518, 680, 681, 682, 683, 684, 202, 203, 204, 805, 774, 775, 776, 474, 486, 616, 301, 531, 579, 777, 722, 723, 724, 725, 778, 779, 780, 781, 782, 545, 546, 547, 548, 549, 550, 817, 818, 819, 820, 821, 822, 823, 824, 825, 826, 860, 861, 862, 863, 878, 879, 880, 881, 858, 859, 864, 865, 866, 867, 868, 869, 870, 871, 872, 873, 887, 886, 885, 888, 889] (by decide +kernel) (by decide +kernel)
set_option maxRecDepth 20000 in
theorem gL_law_X11_digest : GoodIn wsL_law (wsV RL 98 RX11 yX11_digest wsX11_digest) := goodIn_app (goodIn_of _ (by decide +kernel)) ggL_law_X11_digest
set_option maxRecDepth 20000 in
theorem ggL_law_X12_digest : GoodIn wsL_law wsX12_digest := goodIn_r _ [809, 810, 811, 331, 143, 118, 419, 420, 421, 5, 422, 110, 111, 112, 113, 423, 424, 425, 426, 427, 428, 429, 430, 431, 432, 433, 434, 435, 436, 437, 438, 439, 440, 441, 442, 443, 444, 445, 446, 447, 448, 449, 450, 451, 452, 453, 812, 813, 814, 815, 816, 663, 664, 665, 666, 667, 668, 669, 670, 335, 114, 115, 116, 689, 690, 691, 692, 562, 693, 694, 695, 696, 787, 788, 789, 790, 333, 334, 332, 557, 599, 743, 744, 745, 746, 791, 792, 793, 794, 795, 796, 797, 827, 828, 829, 830, 831, 832, 833, 834, 835, 836, 837, 838, 839, 840, 841, 842, 843, 844, 845, 846, 847, 848, 849, 850, 851, 852, 853, 854, 855, 856, 857] (by decide +kernel) (by decide +kernel)
set_option maxRecDepth 20000 in
theorem gL_law_X12_digest : GoodIn wsL_law (wsV RL 102 RX12 yX12_digest wsX12_digest) := goodIn_app (goodIn_of _ (by decide +kernel)) ggL_law_X12_digest
