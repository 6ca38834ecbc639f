set_option maxRecDepth 20000 in
theorem ggX0_init_X6_init : GoodIn wsX0_init wsX6_init := goodIn_r _ [4, 5, 6, 7, 8, 9, 10, 11, 12, 13] (by decide +kernel) (by decide +kernel)
set_option maxRecDepth 20000 in
theorem gX0_init_X6_init : GoodIn wsX0_init (wsX6_init) := ggX0_init_X6_init
set_option maxRecDepth 20000 in
theorem ggX1_gather_X1_agrees : GoodIn wsX1_gather wsX1_agrees := goodIn_r _ [10, 11, 12, 13, 1, 14, 15, 16, 17, 18, 19, 20, 21, 22, 23, 24, 25, 26, 27, 28, 29, 30, 31, 32, 33, 34, 35, 36, 37, 38, 39, 40, 41, 42, 43, 44, 45, 46, 47, 48, 49, 50, 51, 52, 53, 54, 55, 56, 57, 58, 59, 66, 67, 68, 69, 70, 71, 72, 73, 74, 75, 76, 77, 78, 79, 62, 63, 64, 65] (by decide +kernel) (by decide +kernel)
set_option maxRecDepth 20000 in
theorem gX1_gather_X1_agrees : GoodIn wsX1_gather (wsV RX1 30 RX1 yX1_agrees wsX1_agrees) := goodIn_app (goodIn_of _ (by decide +kernel)) ggX1_gather_X1_agrees
set_option maxRecDepth 20000 in
theorem ggX1_gather_X11_put : GoodIn wsX1_gather wsX11_put := goodIn_r _ [61] (by decide +kernel) (by decide +kernel)
set_option maxRecDepth 20000 in
theorem gX1_gather_X11_put_n34 : GoodIn wsX1_gather (wsX11_put) := ggX1_gather_X11_put
set_option maxRecDepth 20000 in
theorem ggX1_agrees_X11_at : GoodIn wsX1_agrees wsX11_at := goodIn_r _ [9] (by decide +kernel) (by decide +kernel)
set_option maxRecDepth 20000 in
theorem gX1_agrees_X11_at_n50 : GoodIn wsX1_agrees (wsX11_at) := ggX1_agrees_X11_at
set_option maxRecDepth 20000 in
theorem ggX1_agrees_X9_couldWrite : GoodIn wsX1_agrees wsX9_couldWrite := goodIn_r _ [14, 15, 16, 17, 18, 19, 13, 20, 21, 22, 23, 24, 25, 26, 7, 8, 9, 27, 28, 29, 30, 31, 32, 33, 34, 35, 36, 37, 38, 39, 40, 41, 42, 43, 44, 45, 46, 47, 48, 49, 50, 51, 52, 53, 54, 55, 56, 57, 58, 59, 60, 61, 62, 63, 64] (by decide +kernel) (by decide +kernel)
set_option maxRecDepth 20000 in
theorem gX1_agrees_X9_couldWrite : GoodIn wsX1_agrees (wsV RX1 57 RX9 yX9_couldWrite wsX9_couldWrite) := goodIn_app (goodIn_of _ (by decide +kernel)) ggX1_agrees_X9_couldWrite
set_option maxRecDepth 20000 in
theorem ggX1_least_X11_at : GoodIn wsX1_least wsX11_at := goodIn_r _ [6] (by decide +kernel) (by decide +kernel)
set_option maxRecDepth 20000 in
theorem gX1_least_X11_at_n50 : GoodIn wsX1_least (wsX11_at) := ggX1_least_X11_at
set_option maxRecDepth 20000 in
theorem ggX1_bestCompany_X9_isCompanyOf : GoodIn wsX1_bestCompany wsX9_isCompanyOf := goodIn_r _ [8, 9, 10, 11, 7, 12, 13, 71, 72, 73, 74] (by decide +kernel) (by decide +kernel)
set_option maxRecDepth 20000 in
theorem gX1_bestCompany_X9_isCompanyOf : GoodIn wsX1_bestCompany (wsV RX1 64 RX9 yX9_isCompanyOf wsX9_isCompanyOf) := goodIn_app (goodIn_of _ (by decide +kernel)) ggX1_bestCompany_X9_isCompanyOf
set_option maxRecDepth 20000 in
theorem ggX1_bestCompany_X1_leftAtWorst : GoodIn wsX1_bestCompany wsX1_leftAtWorst := goodIn_r _ [18, 1, 3, 19, 20, 21, 22, 23, 24, 25, 26, 27, 28, 29, 30, 7, 31, 32, 33, 34, 35, 36, 37, 38, 39, 40, 41, 42, 13, 43, 44, 45, 46, 47, 48, 49, 50, 51, 52, 53, 54, 55, 56, 57, 58, 59, 60, 61, 62, 63, 64, 65, 66, 67, 68, 69, 70, 71, 72, 73, 74, 75, 76, 77, 78, 79, 80, 81, 82, 83, 84] (by decide +kernel) (by decide +kernel)
set_option maxRecDepth 20000 in
theorem gX1_bestCompany_X1_leftAtWorst : GoodIn wsX1_bestCompany (wsV RX1 68 RX1 yX1_leftAtWorst wsX1_leftAtWorst) := goodIn_app (goodIn_of _ (by decide +kernel)) ggX1_bestCompany_X1_leftAtWorst
set_option maxRecDepth 20000 in
theorem ggX1_leftAtWorst_X11_at : GoodIn wsX1_leftAtWorst wsX11_at := goodIn_r _ [11] (by decide +kernel) (by decide +kernel)
set_option maxRecDepth 20000 in
theorem gX1_leftAtWorst_X11_at_n50 : GoodIn wsX1_leftAtWorst (wsX11_at) := ggX1_leftAtWorst_X11_at
set_option maxRecDepth 20000 in
theorem ggX1_leftAtWorst_X9_couldWrite : GoodIn wsX1_leftAtWorst wsX9_couldWrite := goodIn_r _ [16, 17, 18, 19, 20, 21, 15, 22, 23, 24, 25, 26, 27, 28, 9, 10, 11, 29, 30, 31, 32, 33, 34, 35, 36, 37, 38, 39, 40, 41, 42, 43, 44, 45, 46, 47, 48, 49, 50, 51, 52, 57, 58, 59, 60, 61, 62, 63, 64, 65, 66, 67, 68, 69, 70] (by decide +kernel) (by decide +kernel)
set_option maxRecDepth 20000 in
theorem gX1_leftAtWorst_X9_couldWrite : GoodIn wsX1_leftAtWorst (wsV RX1 57 RX9 yX9_couldWrite wsX9_couldWrite) := goodIn_app (goodIn_of _ (by decide +kernel)) ggX1_leftAtWorst_X9_couldWrite
set_option maxRecDepth 20000 in
theorem ggX2_init_X6_init : GoodIn wsX2_init wsX6_init := goodIn_r _ [4, 5, 6, 7, 8, 9, 10, 11, 12, 13] (by decide +kernel) (by decide +kernel)
set_option maxRecDepth 20000 in
theorem gX2_init_X6_init : GoodIn wsX2_init (wsX6_init) := ggX2_init_X6_init
set_option maxRecDepth 20000 in
theorem ggX3_clear_X11_put : GoodIn wsX3_clear wsX11_put := goodIn_r _ [10] (by decide +kernel) (by decide +kernel)
set_option maxRecDepth 20000 in
theorem gX3_clear_X11_put_n30 : GoodIn wsX3_clear (wsX11_put) := ggX3_clear_X11_put
set_option maxRecDepth 20000 in
theorem ggX3_copy_X11_at : GoodIn wsX3_copy wsX11_at := goodIn_r _ [13] (by decide +kernel) (by decide +kernel)
set_option maxRecDepth 20000 in
theorem gX3_copy_X11_at_n47 : GoodIn wsX3_copy (wsX11_at) := ggX3_copy_X11_at
set_option maxRecDepth 20000 in
theorem ggX3_copy_X11_put : GoodIn wsX3_copy wsX11_put := goodIn_r _ [15] (by decide +kernel) (by decide +kernel)
set_option maxRecDepth 20000 in
theorem gX3_copy_X11_put_n30 : GoodIn wsX3_copy (wsX11_put) := ggX3_copy_X11_put
set_option maxRecDepth 20000 in
theorem ggX3_setFoe_X11_at : GoodIn wsX3_setFoe wsX11_at := goodIn_r _ [4] (by decide +kernel) (by decide +kernel)
set_option maxRecDepth 20000 in
theorem gX3_setFoe_X11_at_n47 : GoodIn wsX3_setFoe (wsX11_at) := ggX3_setFoe_X11_at
set_option maxRecDepth 20000 in
theorem ggX3_setFoe_X11_put : GoodIn wsX3_setFoe wsX11_put := goodIn_r _ [6] (by decide +kernel) (by decide +kernel)
set_option maxRecDepth 20000 in
theorem gX3_setFoe_X11_put_n30 : GoodIn wsX3_setFoe (wsX11_put) := ggX3_setFoe_X11_put
set_option maxRecDepth 20000 in
theorem ggX3_addHeard_X11_put : GoodIn wsX3_addHeard wsX11_put := goodIn_r _ [7] (by decide +kernel) (by decide +kernel)
set_option maxRecDepth 20000 in
theorem gX3_addHeard_X11_put_n30 : GoodIn wsX3_addHeard (wsX11_put) := ggX3_addHeard_X11_put
set_option maxRecDepth 20000 in
theorem ggX4_play_X4_draw : GoodIn wsX4_play wsX4_draw := goodIn_r _ [11, 12, 1, 13, 14, 80, 81, 82] (by decide +kernel) (by decide +kernel)
set_option maxRecDepth 20000 in
theorem gX4_play_X4_draw : GoodIn wsX4_play (wsV RX4 32 RX4 yX4_draw wsX4_draw) := goodIn_app (goodIn_of _ (by decide +kernel)) ggX4_play_X4_draw
set_option maxRecDepth 20000 in
theorem ggX4_play_X11_withRoom : GoodIn wsX4_play wsX11_withRoom := goodIn_r _ [17, 18, 19, 16, 20] (by decide +kernel) (by decide +kernel)
set_option maxRecDepth 20000 in
theorem gX4_play_X11_withRoom_n36 : GoodIn wsX4_play (wsX11_withRoom) := ggX4_play_X11_withRoom
set_option maxRecDepth 20000 in
theorem ggX4_play_X9_howManyWritten : GoodIn wsX4_play wsX9_howManyWritten := goodIn_r _ [25, 26, 27, 28, 29, 24, 30, 31, 16, 32, 18, 19, 20, 33, 34, 35, 36, 37, 38, 39, 40, 41, 42, 43, 44, 45, 46, 47, 48, 49, 50, 51, 52, 53, 54, 55, 56, 57, 58, 59, 60, 61, 62, 63, 64, 65, 66, 67, 68, 69, 70, 71, 72, 73, 74, 75, 76, 77, 78, 79, 83, 84, 85, 86, 87, 88, 89, 90, 91, 92, 93, 94, 95, 96] (by decide +kernel) (by decide +kernel)
set_option maxRecDepth 20000 in
theorem gX4_play_X9_howManyWritten : GoodIn wsX4_play (wsV RX4 40 RX9 yX9_howManyWritten wsX9_howManyWritten) := goodIn_app (goodIn_of _ (by decide +kernel)) ggX4_play_X9_howManyWritten
set_option maxRecDepth 20000 in
theorem ggX5_add_X11_put : GoodIn wsX5_add wsX11_put := goodIn_r _ [5] (by decide +kernel) (by decide +kernel)
set_option maxRecDepth 20000 in
theorem gX5_add_X11_put_n19 : GoodIn wsX5_add (wsX11_put) := ggX5_add_X11_put
set_option maxRecDepth 20000 in
theorem ggX5_isTown_X5_isWhole : GoodIn wsX5_isTown wsX5_isWhole := goodIn_r _ [6, 1, 124, 125] (by decide +kernel) (by decide +kernel)
set_option maxRecDepth 20000 in
theorem gX5_isTown_X5_isWhole : GoodIn wsX5_isTown (wsV RX5 23 RX5 yX5_isWhole wsX5_isWhole) := goodIn_app (goodIn_of _ (by decide +kernel)) ggX5_isTown_X5_isWhole
set_option maxRecDepth 20000 in
theorem ggX5_isTown_X5_firstFault : GoodIn wsX5_isTown wsX5_firstFault := goodIn_r _ [10, 1, 11, 12, 13, 5, 14, 15, 16, 17, 18, 19, 20, 21, 22, 23, 24, 25, 26, 27, 28, 29, 30, 31, 32, 33, 34, 35, 36, 37, 38, 39, 40, 41, 42, 43, 44, 45, 46, 47, 48, 49, 50, 51, 52, 53, 54, 55, 56, 57, 58, 59, 60, 61, 62, 63, 64, 65, 66, 67, 68, 69, 70, 71, 72, 73, 74, 75, 76, 77, 78, 79, 80, 81, 82, 83, 84, 85, 86, 87, 88, 89, 90, 91, 92, 93, 94, 95, 96, 97, 98, 99, 100, 101, 102, 103, 104, 105, 106, 107, 108, 109, 110, 111, 112, 113, 114, 115, 2, 3, 4, 6, 116, 117, 118, 119, 120, 121, 122, 123, 124, 125] (by decide +kernel) (by decide +kernel)
set_option maxRecDepth 20000 in
theorem gX5_isTown_X5_firstFault : GoodIn wsX5_isTown (wsV RX5 27 RX5 yX5_firstFault wsX5_firstFault) := goodIn_app (goodIn_of _ (by decide +kernel)) ggX5_isTown_X5_firstFault
set_option maxRecDepth 20000 in
theorem ggX5_kindAt_X11_at : GoodIn wsX5_kindAt wsX11_at := goodIn_r _ [4] (by decide +kernel) (by decide +kernel)
set_option maxRecDepth 20000 in
theorem gX5_kindAt_X11_at_n33 : GoodIn wsX5_kindAt (wsX11_at) := ggX5_kindAt_X11_at
set_option maxRecDepth 20000 in
theorem ggX5_kindAt_J0_indexOf_0f7a4 : GoodIn wsX5_kindAt wsJ0_indexOf_0f7a4 := goodIn_r _ [9, 10, 11, 12, 8, 13, 14, 15, 16, 17, 18, 19, 20, 21, 22, 23, 24, 25, 26, 27, 28, 29, 30, 31, 32, 33, 34, 35, 36, 37, 38, 39, 40, 41, 42, 43, 44, 45, 46, 47, 48, 49, 50, 51, 52, 53, 54, 55, 56, 57, 58, 59, 60, 61, 62, 63, 64, 65, 66, 67, 68, 69, 70, 71, 72, 73, 74, 75, 76, 77, 78, 79, 80, 81, 82, 83, 84, 85, 86, 87, 88, 89, 90, 91, 92, 93] (by decide +kernel) (by decide +kernel)
set_option maxRecDepth 20000 in
theorem gX5_kindAt_J0_indexOf_0f7a4 : GoodIn wsX5_kindAt (wsV RX5 37 RJ0 yJ0_indexOf_0f7a4 wsJ0_indexOf_0f7a4) := goodIn_app (goodIn_of _ (by decide +kernel)) ggX5_kindAt_J0_indexOf_0f7a4
set_option maxRecDepth 20000 in
theorem ggX5_digitAt_X11_at : GoodIn wsX5_digitAt wsX11_at := goodIn_r _ [4] (by decide +kernel) (by decide +kernel)
set_option maxRecDepth 20000 in
theorem gX5_digitAt_X11_at_n33 : GoodIn wsX5_digitAt (wsX11_at) := ggX5_digitAt_X11_at
set_option maxRecDepth 20000 in
theorem ggX5_firstFault_X5_fits : GoodIn wsX5_firstFault wsX5_fits := goodIn_r _ [6, 7, 8, 9, 10, 5, 11, 12, 13, 14, 15, 16, 17, 18, 19, 20, 21, 22, 23, 24, 25, 26, 27, 28, 29, 30, 31, 32, 33, 34, 35, 36, 37, 38, 39, 40, 41, 42, 43, 44, 45, 46, 47, 48, 49, 50, 51, 52, 53, 54, 55, 56, 57, 58, 59, 60, 61, 62, 63, 64, 65, 66, 67, 68, 69, 70, 71, 72, 73, 74, 75, 76, 77, 78, 79, 80, 81, 82, 83, 84, 85, 86, 87, 88, 89, 90, 91, 92, 93, 94, 95, 96, 97, 98, 99, 100, 101, 102, 103, 104, 105, 106, 107, 120, 121] (by decide +kernel) (by decide +kernel)
set_option maxRecDepth 20000 in
theorem gX5_firstFault_X5_fits : GoodIn wsX5_firstFault (wsV RX5 43 RX5 yX5_fits wsX5_fits) := goodIn_app (goodIn_of _ (by decide +kernel)) ggX5_firstFault_X5_fits
set_option maxRecDepth 20000 in
theorem ggX5_firstFault_X5_isWhole : GoodIn wsX5_firstFault wsX5_isWhole := goodIn_r _ [111, 1, 120, 121] (by decide +kernel) (by decide +kernel)
set_option maxRecDepth 20000 in
theorem gX5_firstFault_X5_isWhole : GoodIn wsX5_firstFault (wsV RX5 23 RX5 yX5_isWhole wsX5_isWhole) := goodIn_app (goodIn_of _ (by decide +kernel)) ggX5_firstFault_X5_isWhole
set_option maxRecDepth 20000 in
theorem ggX5_firstFault_X5_firstNobody : GoodIn wsX5_firstFault wsX5_firstNobody := goodIn_r _ [115, 1, 116, 117, 118, 5, 119, 104, 105, 106, 107, 7, 12, 13, 14, 120, 121] (by decide +kernel) (by decide +kernel)
set_option maxRecDepth 20000 in
theorem gX5_firstFault_X5_firstNobody : GoodIn wsX5_firstFault (wsV RX5 47 RX5 yX5_firstNobody wsX5_firstNobody) := goodIn_app (goodIn_of _ (by decide +kernel)) ggX5_firstFault_X5_firstNobody
set_option maxRecDepth 20000 in
theorem ggX5_fits_X5_kindAt : GoodIn wsX5_fits wsX5_kindAt := goodIn_r _ [6, 1, 7, 8, 9, 10, 11, 12, 13, 14, 15, 16, 17, 18, 19, 20, 21, 22, 23, 24, 25, 26, 27, 28, 29, 30, 31, 32, 33, 34, 35, 36, 37, 38, 39, 40, 41, 42, 43, 44, 45, 46, 47, 48, 49, 50, 51, 52, 53, 54, 55, 56, 57, 58, 59, 60, 61, 62, 63, 64, 65, 66, 67, 68, 69, 70, 71, 72, 73, 74, 75, 76, 77, 78, 79, 80, 81, 82, 83, 84, 85, 86, 87, 88, 89, 90, 91, 92, 93, 94, 95, 96, 97, 98, 103, 104] (by decide +kernel) (by decide +kernel)
set_option maxRecDepth 20000 in
theorem gX5_fits_X5_kindAt : GoodIn wsX5_fits (wsV RX5 50 RX5 yX5_kindAt wsX5_kindAt) := goodIn_app (goodIn_of _ (by decide +kernel)) ggX5_fits_X5_kindAt
set_option maxRecDepth 20000 in
theorem ggX5_fits_X11_at : GoodIn wsX5_fits wsX11_at := goodIn_r _ [9] (by decide +kernel) (by decide +kernel)
set_option maxRecDepth 20000 in
theorem gX5_fits_X11_at_n33 : GoodIn wsX5_fits (wsX11_at) := ggX5_fits_X11_at
set_option maxRecDepth 20000 in
theorem ggX5_fits_X5_digitAt : GoodIn wsX5_fits wsX5_digitAt := goodIn_r _ [102, 1, 7, 8, 9, 103, 104] (by decide +kernel) (by decide +kernel)
set_option maxRecDepth 20000 in
theorem gX5_fits_X5_digitAt : GoodIn wsX5_fits (wsV RX5 53 RX5 yX5_digitAt wsX5_digitAt) := goodIn_app (goodIn_of _ (by decide +kernel)) ggX5_fits_X5_digitAt
set_option maxRecDepth 20000 in
theorem ggX5_firstNobody_X5_people : GoodIn wsX5_firstNobody wsX5_people := goodIn_r _ [6, 1, 15, 16] (by decide +kernel) (by decide +kernel)
set_option maxRecDepth 20000 in
theorem gX5_firstNobody_X5_people : GoodIn wsX5_firstNobody (wsV RX5 56 RX5 yX5_people wsX5_people) := goodIn_app (goodIn_of _ (by decide +kernel)) ggX5_firstNobody_X5_people
set_option maxRecDepth 20000 in
theorem ggX5_firstNobody_X5_digitAt : GoodIn wsX5_firstNobody wsX5_digitAt := goodIn_r _ [10, 11, 12, 13, 14, 15, 16] (by decide +kernel) (by decide +kernel)
set_option maxRecDepth 20000 in
theorem gX5_firstNobody_X5_digitAt : GoodIn wsX5_firstNobody (wsV RX5 53 RX5 yX5_digitAt wsX5_digitAt) := goodIn_app (goodIn_of _ (by decide +kernel)) ggX5_firstNobody_X5_digitAt
set_option maxRecDepth 20000 in
theorem ggX7_planMoves_X7_howManyDiffer : GoodIn wsX7_planMoves wsX7_howManyDiffer := goodIn_r _ [8, 9, 10, 11, 12, 13, 14, 15] (by decide +kernel) (by decide +kernel)
set_option maxRecDepth 20000 in
theorem gX7_planMoves_X7_howManyDiffer : GoodIn wsX7_planMoves (va_wsS RX7 33 yX7_howManyDiffer wsX7_howManyDiffer) := goodIn_app (goodIn_of _ (by decide +kernel)) ggX7_planMoves_X7_howManyDiffer
set_option maxRecDepth 20000 in
theorem ggX7_planMoves_X9_companyIn : GoodIn wsX7_planMoves wsX9_companyIn := goodIn_r _ [20, 21, 22, 23, 24, 25, 26, 27, 75, 76, 77, 78] (by decide +kernel) (by decide +kernel)
set_option maxRecDepth 20000 in
theorem gX7_planMoves_X9_companyIn : GoodIn wsX7_planMoves (wsV RX7 37 RX9 yX9_companyIn wsX9_companyIn) := goodIn_app (goodIn_of _ (by decide +kernel)) ggX7_planMoves_X9_companyIn
set_option maxRecDepth 20000 in
theorem ggX7_planMoves_X9_canWrite : GoodIn wsX7_planMoves wsX9_canWrite := goodIn_r _ [31, 32, 33, 34, 35, 23, 36, 37, 38, 39, 19, 40, 41, 42, 43, 44, 45, 46, 47, 48, 49, 50, 21, 51, 52, 53, 54, 55, 56, 57, 58, 59, 60, 61, 62, 63, 64, 65, 66, 67, 68, 69, 70, 71, 72, 73, 74, 75, 76, 77, 78, 79, 80, 81, 82, 83, 84, 85, 86, 87, 88] (by decide +kernel) (by decide +kernel)
set_option maxRecDepth 20000 in
theorem gX7_planMoves_X9_canWrite : GoodIn wsX7_planMoves (wsV RX7 40 RX9 yX9_canWrite wsX9_canWrite) := goodIn_app (goodIn_of _ (by decide +kernel)) ggX7_planMoves_X9_canWrite
set_option maxRecDepth 20000 in
theorem ggX7_howManyDiffer_J6_bitCount_0f7a4 : GoodIn wsX7_howManyDiffer wsJ6_bitCount_0f7a4 := goodIn_r _ [4, 5, 6, 7] (by decide +kernel) (by decide +kernel)
set_option maxRecDepth 20000 in
theorem gX7_howManyDiffer_J6_bitCount_0f7a4 : GoodIn wsX7_howManyDiffer (va_wsS RX7 47 yJ6_bitCount_0f7a4 wsJ6_bitCount_0f7a4) := goodIn_app (goodIn_of _ (by decide +kernel)) ggX7_howManyDiffer_J6_bitCount_0f7a4
set_option maxRecDepth 20000 in
theorem ggX7_planDays_X7_whoIsWritten : GoodIn wsX7_planDays wsX7_whoIsWritten := goodIn_r _ [8, 1, 9, 10, 11, 12, 13, 14, 15, 16, 17, 18, 19, 20, 21, 22, 23, 24, 25, 26, 27, 28, 29, 30, 31, 32, 33, 34, 35, 36, 37, 38, 39, 40, 41, 42, 43, 44, 45, 46, 47, 48, 49, 50, 51, 52, 53, 54, 55, 56, 57, 58, 66, 67, 68, 69, 74, 75, 76, 77, 78, 79, 80, 81, 82, 83] (by decide +kernel) (by decide +kernel)
set_option maxRecDepth 20000 in
theorem gX7_planDays_X7_whoIsWritten : GoodIn wsX7_planDays (wsV RX7 56 RX7 yX7_whoIsWritten wsX7_whoIsWritten) := goodIn_app (goodIn_of _ (by decide +kernel)) ggX7_planDays_X7_whoIsWritten
set_option maxRecDepth 20000 in
theorem ggX7_planDays_X11_put : GoodIn wsX7_planDays wsX11_put := goodIn_r _ [60] (by decide +kernel) (by decide +kernel)
set_option maxRecDepth 20000 in
theorem gX7_planDays_X11_put_n60 : GoodIn wsX7_planDays (wsX11_put) := ggX7_planDays_X11_put
set_option maxRecDepth 20000 in
theorem ggX7_planDays_X7_cover : GoodIn wsX7_planDays wsX7_cover := goodIn_r _ [64, 2, 3, 65, 17, 18, 19, 61, 62, 63, 7, 59, 60, 70, 71, 72, 73] (by decide +kernel) (by decide +kernel)
set_option maxRecDepth 20000 in
theorem gX7_planDays_X7_cover : GoodIn wsX7_planDays (wsV RX7 64 RX7 yX7_cover wsX7_cover) := goodIn_app (goodIn_of _ (by decide +kernel)) ggX7_planDays_X7_cover
set_option maxRecDepth 20000 in
theorem ggX7_whoIsWritten_X9_canWrite : GoodIn wsX7_whoIsWritten wsX9_canWrite := goodIn_r _ [6, 7, 8, 9, 10, 11, 12, 13, 14, 15, 5, 16, 17, 18, 19, 20, 21, 22, 23, 24, 25, 26, 27, 28, 29, 30, 31, 32, 33, 34, 35, 36, 37, 38, 39, 40, 41, 42, 43, 44, 45, 46, 47, 48, 49, 50, 51, 52, 53, 54, 55, 56, 57, 58, 59, 60, 61, 62, 63, 64, 65] (by decide +kernel) (by decide +kernel)
set_option maxRecDepth 20000 in
theorem gX7_whoIsWritten_X9_canWrite : GoodIn wsX7_whoIsWritten (wsV RX7 40 RX9 yX9_canWrite wsX9_canWrite) := goodIn_app (goodIn_of _ (by decide +kernel)) ggX7_whoIsWritten_X9_canWrite
set_option maxRecDepth 20000 in
theorem ggX7_cover_X11_at : GoodIn wsX7_cover wsX11_at := goodIn_r _ [6] (by decide +kernel) (by decide +kernel)
set_option maxRecDepth 20000 in
theorem gX7_cover_X11_at_n68 : GoodIn wsX7_cover (wsX11_at) := ggX7_cover_X11_at
set_option maxRecDepth 20000 in
theorem ggX7_cover_X7_cover : GoodIn wsX7_cover wsX7_cover := goodIn_r _ [0, 1, 2, 3, 4, 5, 6, 7, 8, 9, 10, 11, 12, 13, 14, 15, 16] (by decide +kernel) (by decide +kernel)
set_option maxRecDepth 20000 in
theorem gX7_cover_X7_cover : GoodIn wsX7_cover (wsV RX7 64 RX7 yX7_cover wsX7_cover) := goodIn_app (goodIn_of _ (by decide +kernel)) ggX7_cover_X7_cover
set_option maxRecDepth 20000 in
theorem ggX7_cover_X11_put : GoodIn wsX7_cover wsX11_put := goodIn_r _ [12] (by decide +kernel) (by decide +kernel)
set_option maxRecDepth 20000 in
theorem gX7_cover_X11_put_n60 : GoodIn wsX7_cover (wsX11_put) := ggX7_cover_X11_put
set_option maxRecDepth 20000 in
theorem ggX8_init_X6_init : GoodIn wsX8_init wsX6_init := goodIn_r _ [4, 5, 6, 7, 8, 9, 10, 11, 12, 13] (by decide +kernel) (by decide +kernel)
set_option maxRecDepth 20000 in
theorem gX8_init_X6_init : GoodIn wsX8_init (wsX6_init) := ggX8_init_X6_init
set_option maxRecDepth 20000 in
theorem ggX9_init_X3_init : GoodIn wsX9_init wsX3_init := goodIn_r _ [26, 27, 2, 3, 28, 29, 30, 31, 32, 33, 34, 56, 57, 58, 59, 60, 61, 62, 63, 64, 65] (by decide +kernel) (by decide +kernel)
set_option maxRecDepth 20000 in
theorem gX9_init_X3_init_n11 : GoodIn wsX9_init (wsX3_init) := ggX9_init_X3_init
set_option maxRecDepth 20000 in
theorem ggX9_init_X6_init : GoodIn wsX9_init wsX6_init := goodIn_r _ [37, 38, 2, 3, 39, 72, 71, 70, 73, 74] (by decide +kernel) (by decide +kernel)
set_option maxRecDepth 20000 in
theorem gX9_init_X6_init : GoodIn wsX9_init (wsX6_init) := ggX9_init_X6_init
set_option maxRecDepth 20000 in
theorem ggX9_init_X2_init : GoodIn wsX9_init wsX2_init := goodIn_r _ [42, 43, 36, 10, 37, 38, 2, 3, 39, 72, 71, 70, 73, 74] (by decide +kernel) (by decide +kernel)
set_option maxRecDepth 20000 in
theorem gX9_init_X2_init : GoodIn wsX9_init (wsX2_init) := ggX9_init_X2_init
set_option maxRecDepth 20000 in
theorem ggX9_init_X0_init : GoodIn wsX9_init wsX0_init := goodIn_r _ [46, 47, 36, 10, 37, 38, 2, 3, 39, 72, 71, 70, 73, 74] (by decide +kernel) (by decide +kernel)
set_option maxRecDepth 20000 in
theorem gX9_init_X0_init : GoodIn wsX9_init (wsX0_init) := ggX9_init_X0_init
set_option maxRecDepth 20000 in
theorem ggX9_init_X8_init : GoodIn wsX9_init wsX8_init := goodIn_r _ [50, 51, 36, 10, 37, 38, 2, 3, 39, 72, 71, 70, 73, 74] (by decide +kernel) (by decide +kernel)
set_option maxRecDepth 20000 in
theorem gX9_init_X8_init : GoodIn wsX9_init (wsX8_init) := ggX9_init_X8_init
set_option maxRecDepth 20000 in
theorem ggX9_init_X10_init : GoodIn wsX9_init wsX10_init := goodIn_r _ [54, 55, 45, 16, 46, 47, 36, 10, 37, 38, 2, 3, 39, 72, 71, 70, 73, 74] (by decide +kernel) (by decide +kernel)
set_option maxRecDepth 20000 in
theorem gX9_init_X10_init : GoodIn wsX9_init (wsX10_init) := ggX9_init_X10_init
set_option maxRecDepth 20000 in
theorem ggX9_settle_X3_clear : GoodIn wsX9_settle wsX3_clear := goodIn_r _ [15, 16, 17, 18, 19, 20, 21, 22, 23, 24, 25, 133, 134, 135, 136, 137, 138, 139, 140, 141, 142] (by decide +kernel) (by decide +kernel)
set_option maxRecDepth 20000 in
theorem gX9_settle_X3_clear : GoodIn wsX9_settle (wsV RX9 42 RX3 yX3_clear wsX3_clear) := goodIn_app (goodIn_of _ (by decide +kernel)) ggX9_settle_X3_clear
set_option maxRecDepth 20000 in
theorem ggX9_settle_X5_people : GoodIn wsX9_settle wsX5_people := goodIn_r _ [30, 31, 143, 144] (by decide +kernel) (by decide +kernel)
set_option maxRecDepth 20000 in
theorem gX9_settle_X5_people : GoodIn wsX9_settle (wsV RX9 45 RX5 yX5_people wsX5_people) := goodIn_app (goodIn_of _ (by decide +kernel)) ggX9_settle_X5_people
set_option maxRecDepth 20000 in
theorem ggX9_settle_X5_kindAt : GoodIn wsX9_settle wsX5_kindAt := goodIn_r _ [35, 36, 37, 24, 38, 39, 40, 41, 42, 43, 44, 45, 46, 47, 48, 49, 50, 51, 52, 53, 54, 55, 56, 57, 58, 59, 60, 61, 62, 63, 64, 65, 66, 67, 68, 4, 69, 70, 3, 5, 71, 72, 73, 74, 75, 76, 77, 78, 79, 80, 81, 82, 83, 84, 85, 86, 87, 88, 89, 90, 91, 92, 93, 94, 95, 96, 97, 98, 99, 100, 101, 102, 103, 104, 105, 106, 107, 108, 109, 110, 111, 112, 113, 114, 115, 116, 117, 118, 119, 120, 121, 122, 123, 124, 143, 144] (by decide +kernel) (by decide +kernel)
set_option maxRecDepth 20000 in
theorem gX9_settle_X5_kindAt : GoodIn wsX9_settle (wsV RX9 60 RX5 yX5_kindAt wsX5_kindAt) := goodIn_app (goodIn_of _ (by decide +kernel)) ggX9_settle_X5_kindAt
set_option maxRecDepth 20000 in
theorem ggX9_settle_X5_digitAt : GoodIn wsX9_settle wsX5_digitAt := goodIn_r _ [128, 36, 37, 24, 38, 143, 144] (by decide +kernel) (by decide +kernel)
set_option maxRecDepth 20000 in
theorem gX9_settle_X5_digitAt : GoodIn wsX9_settle (wsV RX9 68 RX5 yX5_digitAt wsX5_digitAt) := goodIn_app (goodIn_of _ (by decide +kernel)) ggX9_settle_X5_digitAt
set_option maxRecDepth 20000 in
theorem ggX9_settle_X11_put : GoodIn wsX9_settle wsX11_put := goodIn_r _ [25] (by decide +kernel) (by decide +kernel)
set_option maxRecDepth 20000 in
theorem gX9_settle_X11_put_n71 : GoodIn wsX9_settle (wsX11_put) := ggX9_settle_X11_put
set_option maxRecDepth 20000 in
theorem ggX9_isCompanyOf_X9_isSetOfPeople : GoodIn wsX9_isCompanyOf wsX9_isSetOfPeople := goodIn_r _ [5, 6, 7, 8, 9, 10] (by decide +kernel) (by decide +kernel)
set_option maxRecDepth 20000 in
theorem gX9_isCompanyOf_X9_isSetOfPeople : GoodIn wsX9_isCompanyOf (wsV RX9 78 RX9 yX9_isSetOfPeople wsX9_isSetOfPeople) := goodIn_app (goodIn_of _ (by decide +kernel)) ggX9_isCompanyOf_X9_isSetOfPeople
set_option maxRecDepth 20000 in
theorem ggX9_personAt_X9_has : GoodIn wsX9_personAt wsX9_has := goodIn_r _ [6, 7, 8, 9, 10, 11] (by decide +kernel) (by decide +kernel)
set_option maxRecDepth 20000 in
theorem gX9_personAt_X9_has : GoodIn wsX9_personAt (wsV RX9 82 RX9 yX9_has wsX9_has) := goodIn_app (goodIn_of _ (by decide +kernel)) ggX9_personAt_X9_has
set_option maxRecDepth 20000 in
theorem ggX9_kindOf_X9_personAt : GoodIn wsX9_kindOf wsX9_personAt := goodIn_r _ [6, 7, 8, 9, 10, 5, 11, 12, 18, 19, 20, 21] (by decide +kernel) (by decide +kernel)
set_option maxRecDepth 20000 in
theorem gX9_kindOf_X9_personAt : GoodIn wsX9_kindOf (wsV RX9 85 RX9 yX9_personAt wsX9_personAt) := goodIn_app (goodIn_of _ (by decide +kernel)) ggX9_kindOf_X9_personAt
set_option maxRecDepth 20000 in
theorem ggX9_companyIn_X11_roomIn : GoodIn wsX9_companyIn wsX11_roomIn := goodIn_r _ [4, 5, 6, 3, 7] (by decide +kernel) (by decide +kernel)
set_option maxRecDepth 20000 in
theorem gX9_companyIn_X11_roomIn_n92 : GoodIn wsX9_companyIn (wsX11_roomIn) := ggX9_companyIn_X11_roomIn
set_option maxRecDepth 20000 in
theorem ggX9_canWrite_X11_at : GoodIn wsX9_canWrite wsX11_at := goodIn_r _ [6] (by decide +kernel) (by decide +kernel)
set_option maxRecDepth 20000 in
theorem gX9_canWrite_X11_at_n95 : GoodIn wsX9_canWrite (wsX11_at) := ggX9_canWrite_X11_at
set_option maxRecDepth 20000 in
theorem ggX9_canWrite_X9_couldWrite : GoodIn wsX9_canWrite wsX9_couldWrite := goodIn_r _ [11, 1, 12, 13, 14, 15, 10, 16, 17, 18, 19, 20, 21, 22, 4, 5, 6, 23, 24, 25, 26, 27, 28, 29, 30, 31, 32, 33, 34, 35, 36, 37, 38, 39, 40, 41, 42, 43, 44, 45, 46, 47, 48, 49, 50, 51, 52, 53, 54, 55, 56, 57, 58, 59, 60] (by decide +kernel) (by decide +kernel)
set_option maxRecDepth 20000 in
theorem gX9_canWrite_X9_couldWrite : GoodIn wsX9_canWrite (wsV RX9 99 RX9 yX9_couldWrite wsX9_couldWrite) := goodIn_app (goodIn_of _ (by decide +kernel)) ggX9_canWrite_X9_couldWrite
set_option maxRecDepth 20000 in
theorem ggX9_couldWrite_X9_personAt : GoodIn wsX9_couldWrite wsX9_personAt := goodIn_r _ [7, 8, 9, 10, 11, 6, 12, 13, 41, 42, 43, 44] (by decide +kernel) (by decide +kernel)
set_option maxRecDepth 20000 in
theorem gX9_couldWrite_X9_personAt : GoodIn wsX9_couldWrite (wsV RX9 85 RX9 yX9_personAt wsX9_personAt) := goodIn_app (goodIn_of _ (by decide +kernel)) ggX9_couldWrite_X9_personAt
set_option maxRecDepth 20000 in
theorem ggX9_couldWrite_X11_at : GoodIn wsX9_couldWrite wsX11_at := goodIn_r _ [16] (by decide +kernel) (by decide +kernel)
set_option maxRecDepth 20000 in
theorem gX9_couldWrite_X11_at_n95 : GoodIn wsX9_couldWrite (wsX11_at) := ggX9_couldWrite_X11_at
set_option maxRecDepth 20000 in
theorem ggX9_couldWrite_X0_isSpelt : GoodIn wsX9_couldWrite wsX0_isSpelt := goodIn_r _ [23] (by decide +kernel) (by decide +kernel)
set_option maxRecDepth 20000 in
theorem gX9_couldWrite_X0_isSpelt_u106X0 : GoodIn wsX9_couldWrite (va_wsO RX9 106 RX0 "SpeltByFriends$Person" ⟨"SpeltByFriends$Person", "isSpelt", "(ZZII)Z"⟩ yX0_isSpelt wsX0_isSpelt) := goodIn_app (goodIn_of _ (by decide +kernel)) ggX9_couldWrite_X0_isSpelt
set_option maxRecDepth 20000 in
theorem ggX9_couldWrite_X2_isSpelt : GoodIn wsX9_couldWrite wsX2_isSpelt := goodIn_r _ [28] (by decide +kernel) (by decide +kernel)
set_option maxRecDepth 20000 in
theorem gX9_couldWrite_X2_isSpelt_u106X2 : GoodIn wsX9_couldWrite (va_wsO RX9 106 RX2 "SpeltByFriends$Person" ⟨"SpeltByFriends$Person", "isSpelt", "(ZZII)Z"⟩ yX2_isSpelt wsX2_isSpelt) := goodIn_app (goodIn_of _ (by decide +kernel)) ggX9_couldWrite_X2_isSpelt
set_option maxRecDepth 20000 in
theorem ggX9_couldWrite_X6_isSpelt : GoodIn wsX9_couldWrite wsX6_isSpelt := goodIn_r _ [24] (by decide +kernel) (by decide +kernel)
set_option maxRecDepth 20000 in
theorem gX9_couldWrite_X6_isSpelt : GoodIn wsX9_couldWrite (wsV RX9 106 RX6 yX6_isSpelt wsX6_isSpelt) := goodIn_app (goodIn_of _ (by decide +kernel)) ggX9_couldWrite_X6_isSpelt
set_option maxRecDepth 20000 in
theorem ggX9_couldWrite_X8_isSpelt : GoodIn wsX9_couldWrite wsX8_isSpelt := goodIn_r _ [36] (by decide +kernel) (by decide +kernel)
set_option maxRecDepth 20000 in
theorem gX9_couldWrite_X8_isSpelt_u106X8 : GoodIn wsX9_couldWrite (va_wsO RX9 106 RX8 "SpeltByFriends$Person" ⟨"SpeltByFriends$Person", "isSpelt", "(ZZII)Z"⟩ yX8_isSpelt wsX8_isSpelt) := goodIn_app (goodIn_of _ (by decide +kernel)) ggX9_couldWrite_X8_isSpelt
set_option maxRecDepth 20000 in
theorem ggX9_couldWrite_X10_isSpelt : GoodIn wsX9_couldWrite wsX10_isSpelt := goodIn_r _ [40] (by decide +kernel) (by decide +kernel)
set_option maxRecDepth 20000 in
theorem gX9_couldWrite_X10_isSpelt_u106X10 : GoodIn wsX9_couldWrite (va_wsO RX9 106 RX10 "SpeltByFriends$Person" ⟨"SpeltByFriends$Person", "isSpelt", "(ZZII)Z"⟩ yX10_isSpelt wsX10_isSpelt) := goodIn_app (goodIn_of _ (by decide +kernel)) ggX9_couldWrite_X10_isSpelt
set_option maxRecDepth 20000 in
theorem ggX9_howManyWritten_X9_companyIn : GoodIn wsX9_howManyWritten wsX9_companyIn := goodIn_r _ [6, 1, 7, 8, 9, 10, 11, 12, 60, 61, 62, 63] (by decide +kernel) (by decide +kernel)
set_option maxRecDepth 20000 in
theorem gX9_howManyWritten_X9_companyIn : GoodIn wsX9_howManyWritten (wsV RX9 110 RX9 yX9_companyIn wsX9_companyIn) := goodIn_app (goodIn_of _ (by decide +kernel)) ggX9_howManyWritten_X9_companyIn
set_option maxRecDepth 20000 in
theorem ggX9_howManyWritten_X9_canWrite : GoodIn wsX9_howManyWritten wsX9_canWrite := goodIn_r _ [16, 17, 18, 19, 20, 8, 21, 22, 23, 24, 5, 25, 26, 27, 28, 29, 30, 31, 32, 33, 34, 35, 1, 36, 37, 38, 39, 40, 41, 42, 43, 44, 45, 46, 47, 48, 49, 50, 51, 52, 53, 54, 55, 56, 57, 58, 59, 60, 61, 62, 63, 64, 65, 66, 67, 68, 69, 70, 71, 72, 73] (by decide +kernel) (by decide +kernel)
set_option maxRecDepth 20000 in
theorem gX9_howManyWritten_X9_canWrite : GoodIn wsX9_howManyWritten (wsV RX9 113 RX9 yX9_canWrite wsX9_canWrite) := goodIn_app (goodIn_of _ (by decide +kernel)) ggX9_howManyWritten_X9_canWrite
set_option maxRecDepth 20000 in
theorem ggX9_quarrellingPairs_X11_at : GoodIn wsX9_quarrellingPairs wsX11_at := goodIn_r _ [6] (by decide +kernel) (by decide +kernel)
set_option maxRecDepth 20000 in
theorem gX9_quarrellingPairs_X11_at_n95 : GoodIn wsX9_quarrellingPairs (wsX11_at) := ggX9_quarrellingPairs_X11_at
set_option maxRecDepth 20000 in
theorem ggX9_quarrellingPairs_J6_bitCount_0f7a4 : GoodIn wsX9_quarrellingPairs wsJ6_bitCount_0f7a4 := goodIn_r _ [10, 11, 12, 13] (by decide +kernel) (by decide +kernel)
set_option maxRecDepth 20000 in
theorem gX9_quarrellingPairs_J6_bitCount_0f7a4 : GoodIn wsX9_quarrellingPairs (va_wsS RX9 117 yJ6_bitCount_0f7a4 wsJ6_bitCount_0f7a4) := goodIn_app (goodIn_of _ (by decide +kernel)) ggX9_quarrellingPairs_J6_bitCount_0f7a4
set_option maxRecDepth 20000 in
theorem ggX9_lettersOfOthers_X11_at : GoodIn wsX9_lettersOfOthers wsX11_at := goodIn_r _ [7] (by decide +kernel) (by decide +kernel)
set_option maxRecDepth 20000 in
theorem gX9_lettersOfOthers_X11_at_n95 : GoodIn wsX9_lettersOfOthers (wsX11_at) := ggX9_lettersOfOthers_X11_at
set_option maxRecDepth 20000 in
theorem ggX9_wants_X9_canWrite : GoodIn wsX9_wants wsX9_canWrite := goodIn_r _ [6, 7, 8, 9, 10, 11, 12, 13, 14, 15, 5, 16, 17, 18, 19, 20, 21, 22, 23, 24, 25, 26, 1, 27, 28, 29, 30, 31, 32, 33, 34, 35, 36, 37, 38, 39, 40, 41, 42, 43, 44, 45, 46, 47, 48, 49, 50, 51, 52, 53, 54, 55, 56, 57, 58, 59, 60, 61, 62, 63, 64] (by decide +kernel) (by decide +kernel)
set_option maxRecDepth 20000 in
theorem gX9_wants_X9_canWrite : GoodIn wsX9_wants (wsV RX9 113 RX9 yX9_canWrite wsX9_canWrite) := goodIn_app (goodIn_of _ (by decide +kernel)) ggX9_wants_X9_canWrite
set_option maxRecDepth 20000 in
theorem ggX10_init_X0_init : GoodIn wsX10_init wsX0_init := goodIn_r _ [4, 5, 6, 7, 8, 9, 10, 11, 12, 13, 14, 15, 16, 17] (by decide +kernel) (by decide +kernel)
set_option maxRecDepth 20000 in
theorem gX10_init_X0_init : GoodIn wsX10_init (wsX0_init) := ggX10_init_X0_init
set_option maxRecDepth 20000 in
theorem ggX11_init_X5_init : GoodIn wsX11_init wsX5_init := goodIn_r _ [29, 30, 2, 3, 31, 32, 98, 99] (by decide +kernel) (by decide +kernel)
set_option maxRecDepth 20000 in
theorem gX11_init_X5_init_n9 : GoodIn wsX11_init (wsX5_init) := ggX11_init_X5_init
set_option maxRecDepth 20000 in
theorem ggX11_init_X9_init : GoodIn wsX11_init wsX9_init := goodIn_r _ [34, 35, 2, 3, 36, 13, 14, 37, 38, 39, 40, 41, 42, 43, 44, 45, 46, 47, 48, 49, 50, 51, 52, 53, 54, 55, 56, 57, 31, 58, 59, 60, 61, 62, 63, 64, 65, 66, 67, 68, 69, 70, 71, 72, 73, 74, 75, 76, 77, 78, 79, 80, 81, 82, 83, 84, 114, 115, 116, 117, 118, 119, 120, 121, 122, 123, 110, 111, 112, 113, 135, 136, 137, 138, 139] (by decide +kernel) (by decide +kernel)
set_option maxRecDepth 20000 in
theorem gX11_init_X9_init_n18 : GoodIn wsX11_init (wsX9_init) := ggX11_init_X9_init
set_option maxRecDepth 20000 in
theorem ggX11_init_X3_init : GoodIn wsX11_init wsX3_init := goodIn_r _ [56, 57, 2, 3, 31, 58, 59, 60, 61, 62, 63, 114, 115, 116, 117, 118, 119, 120, 121, 122, 123] (by decide +kernel) (by decide +kernel)
set_option maxRecDepth 20000 in
theorem gX11_init_X3_init_n25 : GoodIn wsX11_init (wsX3_init) := ggX11_init_X3_init
set_option maxRecDepth 20000 in
theorem ggX11_init_X7_init : GoodIn wsX11_init wsX7_init := goodIn_r _ [86, 87, 2, 3, 31, 88, 89, 124, 125, 126, 127] (by decide +kernel) (by decide +kernel)
set_option maxRecDepth 20000 in
theorem gX11_init_X7_init_n32 : GoodIn wsX11_init (wsX7_init) := ggX11_init_X7_init
set_option maxRecDepth 20000 in
theorem ggX11_init_X1_init : GoodIn wsX11_init wsX1_init := goodIn_r _ [91, 92, 2, 3, 31, 93, 94, 128, 129, 130, 131] (by decide +kernel) (by decide +kernel)
set_option maxRecDepth 20000 in
theorem gX11_init_X1_init_n39 : GoodIn wsX11_init (wsX1_init) := ggX11_init_X1_init
set_option maxRecDepth 20000 in
theorem ggX11_init_X4_init : GoodIn wsX11_init wsX4_init := goodIn_r _ [96, 97, 2, 3] (by decide +kernel) (by decide +kernel)
set_option maxRecDepth 20000 in
theorem gX11_init_X4_init_n46 : GoodIn wsX11_init (wsX4_init) := ggX11_init_X4_init
set_option maxRecDepth 20000 in
theorem ggX11_letter_X5_add : GoodIn wsX11_letter wsX5_add := goodIn_r _ [7, 8, 9, 10, 11, 12, 23, 24] (by decide +kernel) (by decide +kernel)
set_option maxRecDepth 20000 in
theorem gX11_letter_X5_add : GoodIn wsX11_letter (wsV RX11 51 RX5 yX5_add wsX5_add) := goodIn_app (goodIn_of _ (by decide +kernel)) ggX11_letter_X5_add
set_option maxRecDepth 20000 in
theorem ggX11_fault_X5_firstFault : GoodIn wsX11_fault wsX5_firstFault := goodIn_r _ [6, 7, 8, 9, 10, 5, 11, 12, 13, 14, 15, 16, 17, 18, 19, 20, 21, 22, 23, 24, 25, 26, 27, 28, 29, 30, 31, 32, 33, 34, 35, 36, 37, 38, 39, 40, 41, 42, 43, 44, 45, 46, 47, 48, 49, 50, 51, 52, 53, 54, 55, 56, 57, 58, 59, 60, 61, 62, 63, 64, 65, 66, 67, 68, 69, 70, 71, 72, 73, 74, 75, 76, 77, 78, 79, 80, 81, 82, 83, 84, 85, 86, 87, 88, 89, 90, 91, 92, 93, 94, 95, 96, 97, 98, 99, 100, 101, 102, 103, 104, 105, 106, 107, 108, 109, 110, 111, 112, 113, 114, 115, 116, 117, 118, 119, 120, 121, 122, 123, 124, 135, 136] (by decide +kernel) (by decide +kernel)
set_option maxRecDepth 20000 in
theorem gX11_fault_X5_firstFault : GoodIn wsX11_fault (wsV RX11 59 RX5 yX5_firstFault wsX5_firstFault) := goodIn_app (goodIn_of _ (by decide +kernel)) ggX11_fault_X5_firstFault
set_option maxRecDepth 20000 in
theorem ggX11_town_X5_isTown : GoodIn wsX11_town wsX5_isTown := goodIn_r _ [10, 11, 12, 13, 14, 9, 15, 16, 17, 18, 19, 20, 21, 22, 23, 24, 25, 26, 27, 28, 29, 30, 31, 32, 33, 34, 35, 36, 37, 38, 39, 40, 41, 42, 43, 44, 45, 46, 47, 48, 49, 50, 51, 52, 53, 54, 55, 56, 57, 58, 59, 60, 61, 62, 63, 64, 65, 66, 67, 68, 69, 70, 71, 72, 73, 74, 75, 76, 77, 78, 79, 80, 81, 82, 83, 84, 85, 86, 87, 88, 89, 90, 91, 92, 93, 94, 95, 96, 97, 98, 99, 100, 101, 102, 103, 104, 105, 106, 107, 108, 109, 110, 111, 112, 113, 114, 115, 116, 117, 118, 119, 120, 121, 122, 123, 124, 125, 126, 127, 128, 129, 130, 131, 132, 172, 173] (by decide +kernel) (by decide +kernel)
set_option maxRecDepth 20000 in
theorem gX11_town_X5_isTown : GoodIn wsX11_town (wsV RX11 63 RX5 yX5_isTown wsX5_isTown) := goodIn_app (goodIn_of _ (by decide +kernel)) ggX11_town_X5_isTown
set_option maxRecDepth 20000 in
theorem ggX11_town_X9_settle : GoodIn wsX11_town wsX9_settle := goodIn_r _ [137, 138, 139, 65, 62, 66, 140, 141, 142, 143, 144, 145, 146, 147, 148, 149, 150, 151, 152, 153, 154, 155, 156, 157, 30, 158, 159, 130, 131, 9, 132, 11, 160, 26, 27, 28, 24, 29, 31, 32, 33, 34, 35, 36, 37, 38, 39, 40, 41, 42, 43, 44, 45, 46, 47, 48, 49, 50, 51, 52, 53, 54, 55, 56, 57, 58, 59, 60, 61, 63, 64, 67, 68, 69, 70, 71, 72, 73, 74, 75, 76, 77, 78, 79, 80, 81, 82, 83, 84, 85, 86, 87, 88, 89, 90, 91, 92, 93, 94, 95, 96, 97, 98, 99, 100, 101, 102, 103, 104, 105, 106, 107, 108, 109, 110, 111, 112, 113, 114, 115, 116, 117, 118, 119, 120, 161, 122, 123, 124, 174, 175, 176, 177, 178, 179, 180, 181, 182, 183, 184, 185, 186, 187, 172, 173] (by decide +kernel) (by decide +kernel)
set_option maxRecDepth 20000 in
theorem gX11_town_X9_settle : GoodIn wsX11_town (wsV RX11 67 RX9 yX9_settle wsX9_settle) := goodIn_app (goodIn_of _ (by decide +kernel)) ggX11_town_X9_settle
set_option maxRecDepth 20000 in
theorem ggX11_about_X9_has : GoodIn wsX11_about wsX9_has := goodIn_r _ [6, 7, 97, 98, 99, 100] (by decide +kernel) (by decide +kernel)
set_option maxRecDepth 20000 in
theorem gX11_about_X9_has : GoodIn wsX11_about (wsV RX11 77 RX9 yX9_has wsX9_has) := goodIn_app (goodIn_of _ (by decide +kernel)) ggX11_about_X9_has
set_option maxRecDepth 20000 in
theorem ggX11_about_X11_tellAbout : GoodIn wsX11_about wsX11_tellAbout := goodIn_r _ [12, 1, 13, 14, 15, 16, 17, 18, 19, 20, 5, 21, 22, 23, 24, 25, 26, 27, 28, 3, 4, 6, 7, 29, 30, 11, 31, 32, 33, 34, 35, 36, 37, 38, 39, 40, 41, 42, 43, 44, 45, 46, 47, 48, 49, 50, 51, 52, 53, 54, 55, 56, 57, 58, 59, 60, 61, 62, 63, 64, 65, 66, 67, 68, 69, 70, 71, 72, 73, 74, 75, 76, 77, 78, 79, 80, 81, 82, 83, 84, 85, 86, 87, 88, 89, 90, 91, 92, 93, 94, 95, 96, 97, 98, 99, 100, 101, 102, 103, 104, 105, 106, 107, 108, 109, 110, 111, 112, 113, 114, 115] (by decide +kernel) (by decide +kernel)
set_option maxRecDepth 20000 in
theorem gX11_about_X11_tellAbout : GoodIn wsX11_about (wsV RX11 80 RX11 yX11_tellAbout wsX11_tellAbout) := goodIn_app (goodIn_of _ (by decide +kernel)) ggX11_about_X11_tellAbout
set_option maxRecDepth 20000 in
theorem ggX11_as_X9_has : GoodIn wsX11_as wsX9_has := goodIn_r _ [6, 7, 32, 33, 34, 35] (by decide +kernel) (by decide +kernel)
set_option maxRecDepth 20000 in
theorem gX11_as_X9_has : GoodIn wsX11_as (wsV RX11 77 RX9 yX9_has wsX9_has) := goodIn_app (goodIn_of _ (by decide +kernel)) ggX11_as_X9_has
set_option maxRecDepth 20000 in
theorem ggX11_as_X9_personAt : GoodIn wsX11_as wsX9_personAt := goodIn_r _ [11, 12, 13, 3, 4, 5, 6, 7, 32, 33, 34, 35] (by decide +kernel) (by decide +kernel)
set_option maxRecDepth 20000 in
theorem gX11_as_X9_personAt : GoodIn wsX11_as (wsV RX11 84 RX9 yX9_personAt wsX9_personAt) := goodIn_app (goodIn_of _ (by decide +kernel)) ggX11_as_X9_personAt
set_option maxRecDepth 20000 in
theorem ggX11_as_X11_isOfKind : GoodIn wsX11_as wsX11_isOfKind := goodIn_r _ [17, 18, 19, 20, 21] (by decide +kernel) (by decide +kernel)
set_option maxRecDepth 20000 in
theorem gX11_as_X11_isOfKind : GoodIn wsX11_as (va_wsS RX11 88 yX11_isOfKind wsX11_isOfKind) := goodIn_app (goodIn_of _ (by decide +kernel)) ggX11_as_X11_isOfKind
set_option maxRecDepth 20000 in
theorem ggX11_go_X9_has : GoodIn wsX11_go wsX9_has := goodIn_r _ [9, 10, 31, 32, 33, 34] (by decide +kernel) (by decide +kernel)
set_option maxRecDepth 20000 in
theorem gX11_go_X9_has : GoodIn wsX11_go (wsV RX11 77 RX9 yX9_has wsX9_has) := goodIn_app (goodIn_of _ (by decide +kernel)) ggX11_go_X9_has
set_option maxRecDepth 20000 in
theorem ggX11_go_X11_roomIn : GoodIn wsX11_go wsX11_roomIn := goodIn_r _ [14, 15, 16, 13, 17] (by decide +kernel) (by decide +kernel)
set_option maxRecDepth 20000 in
theorem gX11_go_X11_roomIn : GoodIn wsX11_go (va_wsS RX11 98 yX11_roomIn wsX11_roomIn) := goodIn_app (goodIn_of _ (by decide +kernel)) ggX11_go_X11_roomIn
set_option maxRecDepth 20000 in
theorem ggX11_go_X11_withRoom : GoodIn wsX11_go wsX11_withRoom := goodIn_r _ [20, 15, 16, 13, 17] (by decide +kernel) (by decide +kernel)
set_option maxRecDepth 20000 in
theorem gX11_go_X11_withRoom : GoodIn wsX11_go (va_wsS RX11 101 yX11_withRoom wsX11_withRoom) := goodIn_app (goodIn_of _ (by decide +kernel)) ggX11_go_X11_withRoom
set_option maxRecDepth 20000 in
theorem ggX11_sell_X9_has : GoodIn wsX11_sell wsX9_has := goodIn_r _ [10, 11, 29, 30, 31, 32] (by decide +kernel) (by decide +kernel)
set_option maxRecDepth 20000 in
theorem gX11_sell_X9_has : GoodIn wsX11_sell (wsV RX11 77 RX9 yX9_has wsX9_has) := goodIn_app (goodIn_of _ (by decide +kernel)) ggX11_sell_X9_has
set_option maxRecDepth 20000 in
theorem ggX11_sell_X11_at : GoodIn wsX11_sell wsX11_at := goodIn_r _ [15] (by decide +kernel) (by decide +kernel)
set_option maxRecDepth 20000 in
theorem gX11_sell_X11_at : GoodIn wsX11_sell (va_wsS RX11 115 yX11_at wsX11_at) := goodIn_app (goodIn_of _ (by decide +kernel)) ggX11_sell_X11_at
set_option maxRecDepth 20000 in
theorem ggX11_sell_X11_put : GoodIn wsX11_sell wsX11_put := goodIn_r _ [18] (by decide +kernel) (by decide +kernel)
set_option maxRecDepth 20000 in
theorem gX11_sell_X11_put : GoodIn wsX11_sell (va_wsS RX11 119 yX11_put wsX11_put) := goodIn_app (goodIn_of _ (by decide +kernel)) ggX11_sell_X11_put
set_option maxRecDepth 20000 in
theorem ggX11_quarrel_X9_has : GoodIn wsX11_quarrel wsX9_has := goodIn_r _ [8, 9, 32, 33, 34, 35] (by decide +kernel) (by decide +kernel)
set_option maxRecDepth 20000 in
theorem gX11_quarrel_X9_has : GoodIn wsX11_quarrel (wsV RX11 77 RX9 yX9_has wsX9_has) := goodIn_app (goodIn_of _ (by decide +kernel)) ggX11_quarrel_X9_has
set_option maxRecDepth 20000 in
theorem ggX11_quarrel_X11_at : GoodIn wsX11_quarrel wsX11_at := goodIn_r _ [13] (by decide +kernel) (by decide +kernel)
set_option maxRecDepth 20000 in
theorem gX11_quarrel_X11_at : GoodIn wsX11_quarrel (va_wsS RX11 115 yX11_at wsX11_at) := goodIn_app (goodIn_of _ (by decide +kernel)) ggX11_quarrel_X11_at
set_option maxRecDepth 20000 in
theorem ggX11_quarrel_X3_setFoe : GoodIn wsX11_quarrel wsX3_setFoe := goodIn_r _ [18, 19, 11, 12, 13, 20, 21, 36, 37, 38, 39, 40, 41, 42, 43, 44, 45] (by decide +kernel) (by decide +kernel)
set_option maxRecDepth 20000 in
theorem gX11_quarrel_X3_setFoe : GoodIn wsX11_quarrel (wsV RX11 129 RX3 yX3_setFoe wsX3_setFoe) := goodIn_app (goodIn_of _ (by decide +kernel)) ggX11_quarrel_X3_setFoe
set_option maxRecDepth 20000 in
theorem ggX11_written_X9_has : GoodIn wsX11_written wsX9_has := goodIn_r _ [6, 7, 71, 72, 73, 74] (by decide +kernel) (by decide +kernel)
set_option maxRecDepth 20000 in
theorem gX11_written_X9_has : GoodIn wsX11_written (wsV RX11 77 RX9 yX9_has wsX9_has) := goodIn_app (goodIn_of _ (by decide +kernel)) ggX11_written_X9_has
set_option maxRecDepth 20000 in
theorem ggX11_written_X9_isCompanyOf : GoodIn wsX11_written wsX9_isCompanyOf := goodIn_r _ [11, 12, 13, 14, 5, 15, 7, 71, 72, 73, 74] (by decide +kernel) (by decide +kernel)
set_option maxRecDepth 20000 in
theorem gX11_written_X9_isCompanyOf : GoodIn wsX11_written (wsV RX11 133 RX9 yX9_isCompanyOf wsX9_isCompanyOf) := goodIn_app (goodIn_of _ (by decide +kernel)) ggX11_written_X9_isCompanyOf
set_option maxRecDepth 20000 in
theorem ggX11_written_X9_canWrite : GoodIn wsX11_written wsX9_canWrite := goodIn_r _ [19, 20, 21, 22, 23, 24, 25, 26, 27, 28, 5, 29, 30, 31, 32, 33, 34, 35, 36, 3, 4, 6, 7, 37, 38, 39, 40, 41, 42, 43, 44, 45, 46, 47, 48, 49, 50, 51, 52, 53, 54, 55, 56, 57, 58, 59, 60, 71, 72, 73, 74, 75, 76, 77, 78, 79, 80, 81, 82, 83, 84] (by decide +kernel) (by decide +kernel)
set_option maxRecDepth 20000 in
theorem gX11_written_X9_canWrite : GoodIn wsX11_written (wsV RX11 137 RX9 yX9_canWrite wsX9_canWrite) := goodIn_app (goodIn_of _ (by decide +kernel)) ggX11_written_X9_canWrite
set_option maxRecDepth 20000 in
theorem ggX11_moves_X9_has : GoodIn wsX11_moves wsX9_has := goodIn_r _ [9, 10, 99, 100, 101, 102] (by decide +kernel) (by decide +kernel)
set_option maxRecDepth 20000 in
theorem gX11_moves_X9_has : GoodIn wsX11_moves (wsV RX11 77 RX9 yX9_has wsX9_has) := goodIn_app (goodIn_of _ (by decide +kernel)) ggX11_moves_X9_has
set_option maxRecDepth 20000 in
theorem ggX11_moves_X7_planMoves : GoodIn wsX11_moves wsX7_planMoves := goodIn_r _ [15, 16, 17, 18, 19, 20, 21, 14, 22, 23, 24, 25, 26, 27, 28, 29, 30, 31, 32, 8, 33, 10, 34, 35, 36, 37, 38, 39, 40, 41, 42, 43, 44, 45, 46, 47, 48, 49, 50, 51, 52, 53, 54, 55, 56, 57, 58, 59, 6, 7, 9, 60, 61, 62, 63, 64, 65, 66, 67, 68, 69, 70, 71, 72, 73, 74, 75, 76, 77, 78, 79, 80, 81, 82, 83, 99, 100, 101, 102, 103, 104, 105, 106, 107, 108, 109, 110, 111, 112, 95, 96, 97, 98] (by decide +kernel) (by decide +kernel)
set_option maxRecDepth 20000 in
theorem gX11_moves_X7_planMoves : GoodIn wsX11_moves (wsV RX11 143 RX7 yX7_planMoves wsX7_planMoves) := goodIn_app (goodIn_of _ (by decide +kernel)) ggX11_moves_X7_planMoves
set_option maxRecDepth 20000 in
theorem ggX11_moves_X11_roomIn : GoodIn wsX11_moves wsX11_roomIn := goodIn_r _ [36, 37, 38, 35, 39] (by decide +kernel) (by decide +kernel)
set_option maxRecDepth 20000 in
theorem gX11_moves_X11_roomIn : GoodIn wsX11_moves (va_wsS RX11 98 yX11_roomIn wsX11_roomIn) := goodIn_app (goodIn_of _ (by decide +kernel)) ggX11_moves_X11_roomIn
set_option maxRecDepth 20000 in
theorem ggX11_days_X9_isSetOfPeople : GoodIn wsX11_days wsX9_isSetOfPeople := goodIn_r _ [10, 11, 90, 91, 92, 93] (by decide +kernel) (by decide +kernel)
set_option maxRecDepth 20000 in
theorem gX11_days_X9_isSetOfPeople : GoodIn wsX11_days (wsV RX11 150 RX9 yX9_isSetOfPeople wsX9_isSetOfPeople) := goodIn_app (goodIn_of _ (by decide +kernel)) ggX11_days_X9_isSetOfPeople
set_option maxRecDepth 20000 in
theorem ggX11_days_X7_planDays : GoodIn wsX11_days wsX7_planDays := goodIn_r _ [16, 17, 18, 19, 20, 21, 22, 15, 23, 24, 25, 26, 9, 27, 28, 29, 30, 31, 32, 33, 34, 35, 36, 37, 38, 39, 40, 41, 42, 43, 44, 45, 46, 47, 11, 48, 49, 50, 51, 52, 53, 54, 55, 56, 57, 58, 59, 60, 61, 62, 63, 64, 65, 66, 67, 68, 69, 70, 71, 72, 73, 74, 75, 76, 77, 78, 90, 91, 92, 93, 94, 95, 96, 97, 98, 99, 100, 101, 102, 103, 104, 105, 106, 107] (by decide +kernel) (by decide +kernel)
set_option maxRecDepth 20000 in
theorem gX11_days_X7_planDays : GoodIn wsX11_days (wsV RX11 156 RX7 yX7_planDays wsX7_planDays) := goodIn_app (goodIn_of _ (by decide +kernel)) ggX11_days_X7_planDays
set_option maxRecDepth 20000 in
theorem ggX11_days_X11_at : GoodIn wsX11_days wsX11_at := goodIn_r _ [33] (by decide +kernel) (by decide +kernel)
set_option maxRecDepth 20000 in
theorem gX11_days_X11_at : GoodIn wsX11_days (va_wsS RX11 115 yX11_at wsX11_at) := goodIn_app (goodIn_of _ (by decide +kernel)) ggX11_days_X11_at
set_option maxRecDepth 20000 in
theorem ggX11_hear_X9_has : GoodIn wsX11_hear wsX9_has := goodIn_r _ [8, 9, 40, 41, 42, 43] (by decide +kernel) (by decide +kernel)
set_option maxRecDepth 20000 in
theorem gX11_hear_X9_has : GoodIn wsX11_hear (wsV RX11 77 RX9 yX9_has wsX9_has) := goodIn_app (goodIn_of _ (by decide +kernel)) ggX11_hear_X9_has
set_option maxRecDepth 20000 in
theorem ggX11_hear_X9_isCompanyOf : GoodIn wsX11_hear wsX9_isCompanyOf := goodIn_r _ [13, 14, 15, 16, 7, 17, 9, 40, 41, 42, 43] (by decide +kernel) (by decide +kernel)
set_option maxRecDepth 20000 in
theorem gX11_hear_X9_isCompanyOf : GoodIn wsX11_hear (wsV RX11 133 RX9 yX9_isCompanyOf wsX9_isCompanyOf) := goodIn_app (goodIn_of _ (by decide +kernel)) ggX11_hear_X9_isCompanyOf
set_option maxRecDepth 20000 in
theorem ggX11_hear_X3_addHeard : GoodIn wsX11_hear wsX3_addHeard := goodIn_r _ [22, 23, 24, 25, 26, 27, 28, 29, 44, 45, 46, 47, 48, 49, 50, 51, 52, 53] (by decide +kernel) (by decide +kernel)
set_option maxRecDepth 20000 in
theorem gX11_hear_X3_addHeard : GoodIn wsX11_hear (wsV RX11 165 RX3 yX3_addHeard wsX3_addHeard) := goodIn_app (goodIn_of _ (by decide +kernel)) ggX11_hear_X3_addHeard
set_option maxRecDepth 20000 in
theorem ggX11_holders_X9_has : GoodIn wsX11_holders wsX9_has := goodIn_r _ [8, 9, 88, 89, 90, 91] (by decide +kernel) (by decide +kernel)
set_option maxRecDepth 20000 in
theorem gX11_holders_X9_has : GoodIn wsX11_holders (wsV RX11 77 RX9 yX9_has wsX9_has) := goodIn_app (goodIn_of _ (by decide +kernel)) ggX11_holders_X9_has
set_option maxRecDepth 20000 in
theorem ggX11_holders_X1_gather : GoodIn wsX11_holders wsX1_gather := goodIn_r _ [14, 15, 16, 17, 18, 19, 20, 21, 22, 13, 23, 24, 25, 26, 27, 28, 29, 30, 31, 32, 33, 34, 7, 35, 36, 37, 38, 39, 40, 41, 42, 43, 5, 6, 8, 9, 44, 45, 46, 47, 48, 49, 50, 51, 52, 53, 54, 55, 56, 57, 58, 59, 60, 61, 62, 63, 64, 65, 66, 67, 68, 69, 84, 85, 86, 87, 88, 89, 90, 91, 92, 93, 94, 95, 96, 97, 98, 99, 100, 101] (by decide +kernel) (by decide +kernel)
set_option maxRecDepth 20000 in
theorem gX11_holders_X1_gather : GoodIn wsX11_holders (wsV RX11 168 RX1 yX1_gather wsX1_gather) := goodIn_app (goodIn_of _ (by decide +kernel)) ggX11_holders_X1_gather
set_option maxRecDepth 20000 in
theorem ggX11_holders_X1_least : GoodIn wsX11_holders wsX1_least := goodIn_r _ [73, 16, 18, 19, 29, 30, 31, 84, 85, 86, 87] (by decide +kernel) (by decide +kernel)
set_option maxRecDepth 20000 in
theorem gX11_holders_X1_least : GoodIn wsX11_holders (wsV RX11 175 RX1 yX1_least wsX1_least) := goodIn_app (goodIn_of _ (by decide +kernel)) ggX11_holders_X1_least
set_option maxRecDepth 20000 in
theorem ggX11_invite_X9_has : GoodIn wsX11_invite wsX9_has := goodIn_r _ [7, 8, 99, 100, 101, 102] (by decide +kernel) (by decide +kernel)
set_option maxRecDepth 20000 in
theorem gX11_invite_X9_has : GoodIn wsX11_invite (wsV RX11 77 RX9 yX9_has wsX9_has) := goodIn_app (goodIn_of _ (by decide +kernel)) ggX11_invite_X9_has
set_option maxRecDepth 20000 in
theorem ggX11_invite_X1_gather : GoodIn wsX11_invite wsX1_gather := goodIn_r _ [13, 14, 15, 16, 17, 18, 19, 20, 21, 12, 22, 23, 24, 25, 26, 27, 28, 29, 30, 31, 32, 33, 6, 34, 35, 36, 37, 38, 39, 40, 41, 42, 4, 5, 7, 8, 43, 44, 45, 46, 47, 48, 49, 50, 51, 52, 53, 54, 55, 56, 57, 58, 59, 60, 61, 62, 63, 64, 65, 66, 67, 68, 103, 104, 105, 106, 99, 100, 101, 102, 107, 108, 109, 110, 111, 112, 113, 114, 115, 116] (by decide +kernel) (by decide +kernel)
set_option maxRecDepth 20000 in
theorem gX11_invite_X1_gather : GoodIn wsX11_invite (wsV RX11 168 RX1 yX1_gather wsX1_gather) := goodIn_app (goodIn_of _ (by decide +kernel)) ggX11_invite_X1_gather
set_option maxRecDepth 20000 in
theorem ggX11_invite_X1_bestCompany : GoodIn wsX11_invite wsX1_bestCompany := goodIn_r _ [72, 15, 16, 14, 73, 74, 75, 6, 76, 77, 78, 79, 80, 8, 81, 82, 83, 12, 84, 17, 18, 85, 86, 87, 88, 28, 29, 30, 31, 32, 33, 34, 35, 36, 37, 38, 39, 40, 41, 42, 4, 5, 7, 43, 44, 45, 46, 47, 48, 49, 50, 51, 52, 53, 54, 55, 56, 57, 58, 59, 60, 61, 62, 63, 64, 65, 66, 103, 104, 105, 106, 99, 100, 101, 102, 107, 108, 109, 110, 111, 112, 113, 114, 115, 116] (by decide +kernel) (by decide +kernel)
set_option maxRecDepth 20000 in
theorem gX11_invite_X1_bestCompany : GoodIn wsX11_invite (wsV RX11 178 RX1 yX1_bestCompany wsX1_bestCompany) := goodIn_app (goodIn_of _ (by decide +kernel)) ggX11_invite_X1_bestCompany
set_option maxRecDepth 20000 in
theorem ggX11_years_X4_play : GoodIn wsX11_years wsX4_play := goodIn_r _ [11, 12, 13, 14, 15, 16, 17, 18, 19, 20, 10, 21, 22, 23, 24, 25, 26, 27, 28, 29, 30, 31, 32, 33, 34, 35, 36, 37, 38, 39, 40, 41, 42, 43, 44, 45, 46, 47, 48, 49, 50, 51, 52, 53, 54, 55, 56, 57, 58, 59, 60, 61, 62, 63, 64, 65, 66, 67, 68, 69, 70, 71, 72, 73, 74, 75, 76, 77, 78, 79, 80, 81, 82, 83, 84, 85, 86, 87, 88, 89, 104, 105, 106, 100, 101, 102, 103, 107, 108, 109, 110, 111, 112, 113, 114, 115, 116] (by decide +kernel) (by decide +kernel)
set_option maxRecDepth 20000 in
theorem gX11_years_X4_play : GoodIn wsX11_years (wsV RX11 182 RX4 yX4_play wsX4_play) := goodIn_app (goodIn_of _ (by decide +kernel)) ggX11_years_X4_play
set_option maxRecDepth 20000 in
theorem ggX11_image_X3_copy : GoodIn wsX11_image wsX3_copy := goodIn_r _ [13, 14, 15, 16, 17, 18, 19, 20, 21, 22, 23, 24, 25, 26, 27, 28, 43, 44, 45, 46, 47, 48, 49, 50, 51, 52] (by decide +kernel) (by decide +kernel)
set_option maxRecDepth 20000 in
theorem gX11_image_X3_copy : GoodIn wsX11_image (wsV RX11 195 RX3 yX3_copy wsX3_copy) := goodIn_app (goodIn_of _ (by decide +kernel)) ggX11_image_X3_copy
set_option maxRecDepth 20000 in
theorem ggX11_restore_X3_copy : GoodIn wsX11_restore wsX3_copy := goodIn_r _ [12, 13, 14, 15, 16, 17, 18, 19, 20, 21, 22, 23, 24, 25, 26, 27, 42, 43, 44, 45, 46, 47, 48, 49, 50, 51] (by decide +kernel) (by decide +kernel)
set_option maxRecDepth 20000 in
theorem gX11_restore_X3_copy : GoodIn wsX11_restore (wsV RX11 195 RX3 yX3_copy wsX3_copy) := goodIn_app (goodIn_of _ (by decide +kernel)) ggX11_restore_X3_copy
set_option maxRecDepth 20000 in
theorem ggX11_count_X9_howManyWritten : GoodIn wsX11_count wsX9_howManyWritten := goodIn_r _ [17, 18, 19, 20, 21, 16, 22, 23, 24, 25, 26, 27, 28, 29, 30, 31, 32, 33, 34, 35, 36, 37, 38, 39, 40, 41, 42, 43, 44, 45, 46, 47, 48, 49, 50, 51, 52, 53, 54, 55, 56, 57, 58, 59, 60, 61, 62, 63, 64, 65, 66, 67, 68, 69, 70, 71, 72, 73, 74, 75, 97, 98, 99, 100, 101, 102, 103, 104, 105, 106, 107, 108, 109, 110] (by decide +kernel) (by decide +kernel)
set_option maxRecDepth 20000 in
theorem gX11_count_X9_howManyWritten : GoodIn wsX11_count (wsV RX11 202 RX9 yX9_howManyWritten wsX9_howManyWritten) := goodIn_app (goodIn_of _ (by decide +kernel)) ggX11_count_X9_howManyWritten
set_option maxRecDepth 20000 in
theorem ggX11_count_X9_quarrellingPairs : GoodIn wsX11_count wsX9_quarrellingPairs := goodIn_r _ [79, 18, 33, 42, 36, 24, 37, 80, 81, 82, 83, 84, 85, 86, 97, 98, 99, 100, 101, 102, 103, 104, 105, 106, 107, 108, 109, 110] (by decide +kernel) (by decide +kernel)
set_option maxRecDepth 20000 in
theorem gX11_count_X9_quarrellingPairs : GoodIn wsX11_count (wsV RX11 206 RX9 yX9_quarrellingPairs wsX9_quarrellingPairs) := goodIn_app (goodIn_of _ (by decide +kernel)) ggX11_count_X9_quarrellingPairs
set_option maxRecDepth 20000 in
theorem ggX11_digest_X11_tellAbout : GoodIn wsX11_digest wsX11_tellAbout := goodIn_r _ [14, 2, 15, 16, 17, 18, 19, 20, 21, 22, 23, 24, 25, 26, 27, 28, 29, 30, 31, 32, 33, 34, 35, 36, 37, 13, 38, 39, 40, 41, 42, 43, 44, 45, 46, 47, 48, 49, 50, 51, 52, 53, 54, 55, 56, 57, 58, 59, 60, 61, 62, 63, 64, 65, 66, 67, 68, 69, 70, 71, 72, 73, 74, 75, 76, 77, 78, 79, 80, 81, 82, 83, 84, 85, 86, 87, 88, 89, 90, 91, 92, 93, 166, 167, 168, 169, 170, 171, 172, 173, 174, 175, 176, 177, 178, 179, 186, 187, 188, 189, 190, 191, 192, 193, 194, 195, 196, 197, 198, 199, 200] (by decide +kernel) (by decide +kernel)
set_option maxRecDepth 20000 in
theorem gX11_digest_X11_tellAbout : GoodIn wsX11_digest (wsV RX11 80 RX11 yX11_tellAbout wsX11_tellAbout) := goodIn_app (goodIn_of _ (by decide +kernel)) ggX11_digest_X11_tellAbout
set_option maxRecDepth 20000 in
theorem ggX11_digest_X1_gather : GoodIn wsX11_digest wsX1_gather := goodIn_r _ [98, 99, 100, 101, 102, 103, 104, 105, 106, 97, 107, 108, 109, 110, 111, 112, 37, 13, 38, 113, 57, 58, 23, 59, 53, 60, 26, 27, 28, 29, 30, 31, 32, 33, 34, 35, 61, 62, 63, 64, 65, 66, 67, 68, 69, 70, 71, 72, 73, 74, 75, 76, 77, 78, 79, 80, 81, 82, 83, 84, 114, 115, 180, 181, 182, 183, 176, 177, 178, 179, 186, 187, 188, 189, 190, 191, 192, 193, 194, 195] (by decide +kernel) (by decide +kernel)
set_option maxRecDepth 20000 in
theorem gX11_digest_X1_gather : GoodIn wsX11_digest (wsV RX11 168 RX1 yX1_gather wsX1_gather) := goodIn_app (goodIn_of _ (by decide +kernel)) ggX11_digest_X1_gather
set_option maxRecDepth 20000 in
theorem ggX11_digest_X1_least : GoodIn wsX11_digest wsX1_least := goodIn_r _ [119, 100, 102, 103, 37, 13, 38, 180, 181, 182, 183] (by decide +kernel) (by decide +kernel)
set_option maxRecDepth 20000 in
theorem gX11_digest_X1_least : GoodIn wsX11_digest (wsV RX11 175 RX1 yX1_least wsX1_least) := goodIn_app (goodIn_of _ (by decide +kernel)) ggX11_digest_X1_least
set_option maxRecDepth 20000 in
theorem ggX11_digest_X1_bestCompany : GoodIn wsX11_digest wsX1_bestCompany := goodIn_r _ [123, 100, 101, 99, 124, 125, 126, 23, 127, 128, 129, 130, 131, 35, 132, 133, 134, 97, 135, 102, 103, 136, 137, 138, 139, 37, 13, 38, 113, 57, 58, 59, 53, 60, 26, 27, 28, 29, 30, 31, 32, 33, 34, 61, 62, 63, 64, 65, 66, 67, 68, 69, 70, 71, 72, 73, 74, 75, 76, 77, 78, 79, 80, 81, 82, 83, 84, 180, 181, 182, 183, 176, 177, 178, 179, 186, 187, 188, 189, 190, 191, 192, 193, 194, 195] (by decide +kernel) (by decide +kernel)
set_option maxRecDepth 20000 in
theorem gX11_digest_X1_bestCompany : GoodIn wsX11_digest (wsV RX11 178 RX1 yX1_bestCompany wsX1_bestCompany) := goodIn_app (goodIn_of _ (by decide +kernel)) ggX11_digest_X1_bestCompany
set_option maxRecDepth 20000 in
theorem ggX11_digest_X11_at : GoodIn wsX11_digest wsX11_at := goodIn_r _ [38] (by decide +kernel) (by decide +kernel)
set_option maxRecDepth 20000 in
theorem gX11_digest_X11_at : GoodIn wsX11_digest (va_wsS RX11 115 yX11_at wsX11_at) := goodIn_app (goodIn_of _ (by decide +kernel)) ggX11_digest_X11_at
set_option maxRecDepth 20000 in
theorem ggX11_digest_X11_count : GoodIn wsX11_digest wsX11_count := goodIn_r _ [143, 2, 3, 15, 18, 144, 145, 146, 7, 8, 147, 148, 149, 150, 151, 152, 23, 153, 35, 154, 46, 47, 48, 40, 13, 41, 42, 43, 44, 93, 50, 51, 52, 53, 54, 55, 37, 38, 56, 57, 58, 59, 60, 26, 27, 28, 29, 30, 31, 32, 33, 34, 61, 62, 63, 64, 65, 66, 67, 68, 69, 70, 71, 72, 73, 74, 75, 76, 77, 78, 79, 80, 81, 82, 83, 84, 155, 156, 157, 158, 159, 160, 161, 162, 163, 164, 165, 166, 167, 168, 169, 170, 171, 172, 173, 174, 175, 176, 177, 178, 179, 186, 187, 188, 189, 190, 191, 192, 193, 194, 195, 184, 185] (by decide +kernel) (by decide +kernel)
set_option maxRecDepth 20000 in
theorem gX11_digest_X11_count : GoodIn wsX11_digest (wsV RX11 216 RX11 yX11_count wsX11_count) := goodIn_app (goodIn_of _ (by decide +kernel)) ggX11_digest_X11_count
set_option maxRecDepth 20000 in
theorem ggX11_tellAbout_X9_kindOf : GoodIn wsX11_tellAbout wsX9_kindOf := goodIn_r _ [11, 12, 13, 14, 15, 10, 16, 17, 18, 19, 20, 21, 22, 106, 107, 108, 109, 110, 92, 93, 94, 95] (by decide +kernel) (by decide +kernel)
set_option maxRecDepth 20000 in
theorem gX11_tellAbout_X9_kindOf : GoodIn wsX11_tellAbout (wsV RX11 219 RX9 yX9_kindOf wsX9_kindOf) := goodIn_app (goodIn_of _ (by decide +kernel)) ggX11_tellAbout_X9_kindOf
set_option maxRecDepth 20000 in
theorem ggX11_tellAbout_X11_at : GoodIn wsX11_tellAbout wsX11_at := goodIn_r _ [26] (by decide +kernel) (by decide +kernel)
set_option maxRecDepth 20000 in
theorem gX11_tellAbout_X11_at : GoodIn wsX11_tellAbout (va_wsS RX11 115 yX11_at wsX11_at) := goodIn_app (goodIn_of _ (by decide +kernel)) ggX11_tellAbout_X11_at
set_option maxRecDepth 20000 in
theorem ggX11_tellAbout_X11_roomIn : GoodIn wsX11_tellAbout wsX11_roomIn := goodIn_r _ [29, 30, 31, 25, 32] (by decide +kernel) (by decide +kernel)
set_option maxRecDepth 20000 in
theorem gX11_tellAbout_X11_roomIn : GoodIn wsX11_tellAbout (va_wsS RX11 98 yX11_roomIn wsX11_roomIn) := goodIn_app (goodIn_of _ (by decide +kernel)) ggX11_tellAbout_X11_roomIn
set_option maxRecDepth 20000 in
theorem ggX11_tellAbout_X9_companyIn : GoodIn wsX11_tellAbout wsX9_companyIn := goodIn_r _ [36, 22, 28, 25, 29, 30, 31, 32, 92, 93, 94, 95] (by decide +kernel) (by decide +kernel)
set_option maxRecDepth 20000 in
theorem gX11_tellAbout_X9_companyIn : GoodIn wsX11_tellAbout (wsV RX11 222 RX9 yX9_companyIn wsX9_companyIn) := goodIn_app (goodIn_of _ (by decide +kernel)) ggX11_tellAbout_X9_companyIn
set_option maxRecDepth 20000 in
theorem ggX11_tellAbout_X9_canWrite : GoodIn wsX11_tellAbout wsX9_canWrite := goodIn_r _ [40, 41, 42, 43, 24, 25, 26, 44, 45, 46, 10, 47, 48, 13, 14, 15, 16, 17, 18, 19, 20, 21, 22, 49, 50, 51, 52, 53, 54, 55, 56, 57, 58, 59, 60, 61, 62, 63, 64, 65, 66, 67, 68, 69, 70, 71, 72, 92, 93, 94, 95, 96, 97, 98, 99, 100, 101, 102, 103, 104, 105] (by decide +kernel) (by decide +kernel)
set_option maxRecDepth 20000 in
theorem gX11_tellAbout_X9_canWrite : GoodIn wsX11_tellAbout (wsV RX11 137 RX9 yX9_canWrite wsX9_canWrite) := goodIn_app (goodIn_of _ (by decide +kernel)) ggX11_tellAbout_X9_canWrite
set_option maxRecDepth 20000 in
theorem ggX11_tellAbout_X9_lettersOfOthers : GoodIn wsX11_tellAbout wsX9_lettersOfOthers := goodIn_r _ [76, 22, 41, 42, 43, 24, 25, 26, 92, 93, 94, 95, 96, 97, 98, 99, 100, 101, 102, 103, 104, 105] (by decide +kernel) (by decide +kernel)
set_option maxRecDepth 20000 in
theorem gX11_tellAbout_X9_lettersOfOthers : GoodIn wsX11_tellAbout (wsV RX11 225 RX9 yX9_lettersOfOthers wsX9_lettersOfOthers) := goodIn_app (goodIn_of _ (by decide +kernel)) ggX11_tellAbout_X9_lettersOfOthers
set_option maxRecDepth 20000 in
theorem ggX11_tellAbout_X9_wants : GoodIn wsX11_tellAbout wsX9_wants := goodIn_r _ [80, 22, 81, 38, 39, 10, 40, 41, 42, 43, 24, 25, 26, 44, 45, 46, 47, 48, 13, 14, 15, 16, 17, 18, 19, 20, 21, 49, 50, 51, 52, 53, 54, 55, 56, 57, 58, 59, 60, 61, 62, 63, 64, 65, 66, 67, 68, 69, 70, 71, 72, 92, 93, 94, 95, 96, 97, 98, 99, 100, 101, 102, 103, 104, 105] (by decide +kernel) (by decide +kernel)
set_option maxRecDepth 20000 in
theorem gX11_tellAbout_X9_wants : GoodIn wsX11_tellAbout (wsV RX11 228 RX9 yX9_wants wsX9_wants) := goodIn_app (goodIn_of _ (by decide +kernel)) ggX11_tellAbout_X9_wants
set_option maxRecDepth 20000 in
theorem ggX11_roomIn_X11_shiftOf : GoodIn wsX11_roomIn wsX11_shiftOf := goodIn_r _ [4] (by decide +kernel) (by decide +kernel)
set_option maxRecDepth 20000 in
theorem gX11_roomIn_X11_shiftOf : GoodIn wsX11_roomIn (va_wsS RX11 239 yX11_shiftOf wsX11_shiftOf) := goodIn_app (goodIn_of _ (by decide +kernel)) ggX11_roomIn_X11_shiftOf
set_option maxRecDepth 20000 in
theorem ggX11_withRoom_X11_shiftOf : GoodIn wsX11_withRoom wsX11_shiftOf := goodIn_r _ [4] (by decide +kernel) (by decide +kernel)
set_option maxRecDepth 20000 in
theorem gX11_withRoom_X11_shiftOf : GoodIn wsX11_withRoom (va_wsS RX11 239 yX11_shiftOf wsX11_shiftOf) := goodIn_app (goodIn_of _ (by decide +kernel)) ggX11_withRoom_X11_shiftOf
set_option maxRecDepth 20000 in
theorem ggX12_letter_X12_within : GoodIn wsX12_letter wsX12_within := goodIn_r _ [6] (by decide +kernel) (by decide +kernel)
set_option maxRecDepth 20000 in
theorem gX12_letter_X12_within : GoodIn wsX12_letter (va_wsS RX12 59 yX12_within wsX12_within) := goodIn_app (goodIn_of _ (by decide +kernel)) ggX12_letter_X12_within
set_option maxRecDepth 20000 in
theorem ggX12_isGood_X12_kindBy : GoodIn wsX12_isGood wsX12_kindBy := goodIn_r _ [5] (by decide +kernel) (by decide +kernel)
set_option maxRecDepth 20000 in
theorem gX12_isGood_X12_kindBy : GoodIn wsX12_isGood (va_wsS RX12 67 yX12_kindBy wsX12_kindBy) := goodIn_app (goodIn_of _ (by decide +kernel)) ggX12_isGood_X12_kindBy
set_option maxRecDepth 20000 in
theorem ggX12_isGood_X12_within : GoodIn wsX12_isGood wsX12_within := goodIn_r _ [8] (by decide +kernel) (by decide +kernel)
set_option maxRecDepth 20000 in
theorem gX12_isGood_X12_within : GoodIn wsX12_isGood (va_wsS RX12 59 yX12_within wsX12_within) := goodIn_app (goodIn_of _ (by decide +kernel)) ggX12_isGood_X12_within
set_option maxRecDepth 20000 in
theorem ggX12_faultNow_X12_isGood : GoodIn wsX12_faultNow wsX12_isGood := goodIn_r _ [7, 2, 8, 9, 6, 10, 11, 12, 13, 18, 19, 20, 21, 22, 23, 24, 25, 26, 27, 28, 29, 30, 31, 32, 33, 34, 35, 36, 37, 38, 39, 40, 41, 42, 43, 44, 45, 46, 47, 48] (by decide +kernel) (by decide +kernel)
set_option maxRecDepth 20000 in
theorem gX12_faultNow_X12_isGood : GoodIn wsX12_faultNow (wsV RX12 71 RX12 yX12_isGood wsX12_isGood) := goodIn_app (goodIn_of _ (by decide +kernel)) ggX12_faultNow_X12_isGood
set_option maxRecDepth 20000 in
theorem ggX12_faultNow_X12_isWhole : GoodIn wsX12_faultNow wsX12_isWhole := goodIn_r _ [17, 1, 18, 19, 20, 21, 22, 23, 24, 25, 26, 27, 28, 29, 30, 31, 32, 33, 34, 35, 36, 37, 38, 39, 40, 41, 42, 43, 44, 45, 46, 47, 48] (by decide +kernel) (by decide +kernel)
set_option maxRecDepth 20000 in
theorem gX12_faultNow_X12_isWhole : GoodIn wsX12_faultNow (wsV RX12 75 RX12 yX12_isWhole wsX12_isWhole) := goodIn_app (goodIn_of _ (by decide +kernel)) ggX12_faultNow_X12_isWhole
