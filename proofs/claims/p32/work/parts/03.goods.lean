set_option maxRecDepth 20000 in
theorem ggX0_init_X3_init : GoodIn wsX0_init wsX3_init := goodIn_r _ [17, 18, 2, 3, 19, 20, 21, 22, 9, 10, 23, 24, 25, 26, 27, 28, 29, 30, 31, 32, 33, 34, 35, 36, 37, 38, 47, 48, 49, 50, 51, 52, 53, 54, 55, 56, 57, 61, 62, 63] (by decide +kernel) (by decide +kernel)
set_option maxRecDepth 20000 in
theorem gX0_init_X3_init_n11 : GoodIn wsX0_init (wsX3_init) := ggX0_init_X3_init
set_option maxRecDepth 20000 in
theorem ggX0_init_X2_init : GoodIn wsX0_init wsX2_init := goodIn_r _ [26, 27, 2, 3, 28, 29, 30, 31, 32, 33, 34, 61, 62, 63] (by decide +kernel) (by decide +kernel)
set_option maxRecDepth 20000 in
theorem gX0_init_X2_init_n22 : GoodIn wsX0_init (wsX2_init) := ggX0_init_X2_init
set_option maxRecDepth 20000 in
theorem ggX0_init_X2_append : GoodIn wsX0_init wsX2_append := goodIn_r _ [37, 38, 33, 34, 61, 62, 63] (by decide +kernel) (by decide +kernel)
set_option maxRecDepth 20000 in
theorem gX0_init_X2_append_n27 : GoodIn wsX0_init (wsX2_append) := ggX0_init_X2_append
set_option maxRecDepth 20000 in
theorem ggX0_init_X6_init : GoodIn wsX0_init wsX6_init := goodIn_r _ [40, 41, 2, 3, 32, 42, 43, 44, 45, 46, 64, 65, 66, 67, 68, 69] (by decide +kernel) (by decide +kernel)
set_option maxRecDepth 20000 in
theorem gX0_init_X6_init_n33 : GoodIn wsX0_init (wsX6_init) := ggX0_init_X6_init
set_option maxRecDepth 20000 in
theorem ggX0_copyFrom_X3_copyFrom : GoodIn wsX0_copyFrom wsX3_copyFrom := goodIn_r _ [7, 8, 9, 10, 11, 12, 13, 14, 15, 16, 17, 18, 19, 20, 21, 22, 23, 24, 25, 26, 27, 28, 29, 30, 31, 32, 33, 48, 49, 50, 51, 52, 53, 54, 55, 56, 57, 58, 59, 60, 61] (by decide +kernel) (by decide +kernel)
set_option maxRecDepth 20000 in
theorem gX0_copyFrom_X3_copyFrom_n38 : GoodIn wsX0_copyFrom (wsX3_copyFrom) := ggX0_copyFrom_X3_copyFrom
set_option maxRecDepth 20000 in
theorem ggX0_copyFrom_X2_copyFrom : GoodIn wsX0_copyFrom wsX2_copyFrom := goodIn_r _ [22, 23, 24, 25, 26, 27, 28, 29, 30, 31, 32, 33, 59, 60, 61] (by decide +kernel) (by decide +kernel)
set_option maxRecDepth 20000 in
theorem gX0_copyFrom_X2_copyFrom_n42 : GoodIn wsX0_copyFrom (wsX2_copyFrom) := ggX0_copyFrom_X2_copyFrom
set_option maxRecDepth 20000 in
theorem ggX0_copyFrom_X6_copyFrom : GoodIn wsX0_copyFrom wsX6_copyFrom := goodIn_r _ [37, 38, 39, 40, 30, 31, 32, 41, 42, 43, 44, 62, 63, 64, 65, 66, 67] (by decide +kernel) (by decide +kernel)
set_option maxRecDepth 20000 in
theorem gX0_copyFrom_X6_copyFrom_n45 : GoodIn wsX0_copyFrom (wsX6_copyFrom) := ggX0_copyFrom_X6_copyFrom
set_option maxRecDepth 20000 in
theorem ggX0_reading_X2_valueAt : GoodIn wsX0_reading wsX2_valueAt := goodIn_r _ [6, 7, 8, 9, 10, 11, 4, 12, 13, 14, 15, 16, 17, 18, 19, 20, 21, 36, 37, 38] (by decide +kernel) (by decide +kernel)
set_option maxRecDepth 20000 in
theorem gX0_reading_X2_valueAt_n52 : GoodIn wsX0_reading (wsX2_valueAt) := ggX0_reading_X2_valueAt
set_option maxRecDepth 20000 in
theorem ggX0_refusalOfLoad_X6_massOnPan : GoodIn wsX0_refusalOfLoad wsX6_massOnPan := goodIn_r _ [5, 6, 7, 8, 12, 13, 14, 15, 16, 17] (by decide +kernel) (by decide +kernel)
set_option maxRecDepth 20000 in
theorem gX0_refusalOfLoad_X6_massOnPan_n56 : GoodIn wsX0_refusalOfLoad (wsX6_massOnPan) := ggX0_refusalOfLoad_X6_massOnPan
set_option maxRecDepth 20000 in
theorem ggX1_init_X0_init : GoodIn wsX1_init wsX0_init := goodIn_r _ [9, 10, 2, 3, 11, 12, 13, 14, 15, 16, 17, 18, 19, 20, 21, 22, 23, 24, 25, 26, 27, 28, 29, 30, 31, 32, 33, 34, 35, 36, 37, 38, 39, 40, 41, 42, 43, 44, 45, 46, 47, 48, 49, 50, 51, 52, 53, 59, 60, 61, 62, 63, 64, 65, 66, 67, 68, 69, 56, 57, 58, 70, 71, 72, 73, 74, 75, 76, 77, 78] (by decide +kernel) (by decide +kernel)
set_option maxRecDepth 20000 in
theorem gX1_init_X0_init_n17 : GoodIn wsX1_init (wsX0_init) := ggX1_init_X0_init
set_option maxRecDepth 20000 in
theorem ggX1_record_X1_moveOldestToEnd : GoodIn wsX1_record wsX1_moveOldestToEnd := goodIn_r _ [7, 2, 8, 9, 10, 6, 11, 63, 64] (by decide +kernel) (by decide +kernel)
set_option maxRecDepth 20000 in
theorem gX1_record_X1_moveOldestToEnd : GoodIn wsX1_record (wsV RX1 22 RX1 yX1_moveOldestToEnd wsX1_moveOldestToEnd) := goodIn_app (goodIn_of _ (by decide +kernel)) ggX1_record_X1_moveOldestToEnd
set_option maxRecDepth 20000 in
theorem ggX1_record_X1_benchAt : GoodIn wsX1_record wsX1_benchAt := goodIn_r _ [11, 2, 63, 64] (by decide +kernel) (by decide +kernel)
set_option maxRecDepth 20000 in
theorem gX1_record_X1_benchAt : GoodIn wsX1_record (wsV RX1 25 RX1 yX1_benchAt wsX1_benchAt) := goodIn_app (goodIn_of _ (by decide +kernel)) ggX1_record_X1_benchAt
set_option maxRecDepth 20000 in
theorem ggX1_record_X1_copy : GoodIn wsX1_record wsX1_copy := goodIn_r _ [14, 15, 16, 17, 18, 19, 20, 21, 22, 23, 24, 25, 26, 27, 28, 29, 30, 31, 32, 33, 34, 35, 36, 37, 38, 39, 40, 41, 42, 43, 44, 45, 46, 47, 48, 49, 50, 51, 52, 53, 54, 55, 56, 57, 58, 59, 60, 61, 62, 65, 66, 67, 68, 69, 70, 71, 72, 73, 74, 75, 76, 77, 78, 79, 80, 81, 82, 83, 84, 85, 86, 87] (by decide +kernel) (by decide +kernel)
set_option maxRecDepth 20000 in
theorem gX1_record_X1_copy : GoodIn wsX1_record (va_wsS RX1 29 yX1_copy wsX1_copy) := goodIn_app (goodIn_of _ (by decide +kernel)) ggX1_record_X1_copy
set_option maxRecDepth 20000 in
theorem ggX1_restore_X1_benchAt : GoodIn wsX1_restore wsX1_benchAt := goodIn_r _ [6, 7, 59, 60] (by decide +kernel) (by decide +kernel)
set_option maxRecDepth 20000 in
theorem gX1_restore_X1_benchAt : GoodIn wsX1_restore (wsV RX1 25 RX1 yX1_benchAt wsX1_benchAt) := goodIn_app (goodIn_of _ (by decide +kernel)) ggX1_restore_X1_benchAt
set_option maxRecDepth 20000 in
theorem ggX1_restore_X1_copy : GoodIn wsX1_restore wsX1_copy := goodIn_r _ [10, 11, 12, 13, 14, 15, 16, 17, 18, 19, 20, 21, 22, 23, 24, 25, 26, 27, 28, 29, 30, 31, 32, 33, 34, 35, 36, 37, 38, 39, 40, 41, 42, 43, 44, 45, 46, 47, 48, 49, 50, 51, 52, 53, 54, 55, 56, 57, 58, 61, 62, 63, 64, 65, 66, 67, 68, 69, 70, 71, 72, 73, 74, 75, 76, 77, 78, 79, 80, 81, 82, 83] (by decide +kernel) (by decide +kernel)
set_option maxRecDepth 20000 in
theorem gX1_restore_X1_copy : GoodIn wsX1_restore (va_wsS RX1 29 yX1_copy wsX1_copy) := goodIn_app (goodIn_of _ (by decide +kernel)) ggX1_restore_X1_copy
set_option maxRecDepth 20000 in
theorem ggX1_moveOldestToEnd_X1_benchAt : GoodIn wsX1_moveOldestToEnd wsX1_benchAt := goodIn_r _ [6, 1, 7, 8] (by decide +kernel) (by decide +kernel)
set_option maxRecDepth 20000 in
theorem gX1_moveOldestToEnd_X1_benchAt : GoodIn wsX1_moveOldestToEnd (wsV RX1 25 RX1 yX1_benchAt wsX1_benchAt) := goodIn_app (goodIn_of _ (by decide +kernel)) ggX1_moveOldestToEnd_X1_benchAt
set_option maxRecDepth 20000 in
theorem ggX1_copy_X0_copyFrom : GoodIn wsX1_copy wsX0_copyFrom := goodIn_r _ [4, 5, 6, 7, 8, 9, 10, 11, 12, 13, 14, 15, 16, 17, 18, 19, 20, 21, 22, 23, 24, 25, 26, 27, 28, 29, 30, 31, 32, 33, 34, 35, 36, 37, 38, 39, 40, 41, 42, 43, 44, 45, 46, 47, 48, 49, 50, 51, 52, 53, 54, 55, 56, 57, 58, 59, 60, 61, 62, 63, 64, 65, 66, 67, 68, 69, 70, 71] (by decide +kernel) (by decide +kernel)
set_option maxRecDepth 20000 in
theorem gX1_copy_X0_copyFrom_n33 : GoodIn wsX1_copy (wsX0_copyFrom) := ggX1_copy_X0_copyFrom
set_option maxRecDepth 20000 in
theorem ggX2_found_X2_has : GoodIn wsX2_found wsX2_has := goodIn_r _ [8, 9, 10, 11, 12] (by decide +kernel) (by decide +kernel)
set_option maxRecDepth 20000 in
theorem gX2_found_X2_has : GoodIn wsX2_found (wsV RX2 37 RX2 yX2_has wsX2_has) := goodIn_app (goodIn_of _ (by decide +kernel)) ggX2_found_X2_has
set_option maxRecDepth 20000 in
theorem ggX2_holds_X2_slotOf : GoodIn wsX2_holds wsX2_slotOf := goodIn_r _ [6, 7, 1, 12, 13, 14] (by decide +kernel) (by decide +kernel)
set_option maxRecDepth 20000 in
theorem gX2_holds_X2_slotOf : GoodIn wsX2_holds (wsV RX2 42 RX2 yX2_slotOf wsX2_slotOf) := goodIn_app (goodIn_of _ (by decide +kernel)) ggX2_holds_X2_slotOf
set_option maxRecDepth 20000 in
theorem ggX2_holds_X2_has : GoodIn wsX2_holds wsX2_has := goodIn_r _ [11, 7, 12, 13, 14] (by decide +kernel) (by decide +kernel)
set_option maxRecDepth 20000 in
theorem gX2_holds_X2_has : GoodIn wsX2_holds (wsV RX2 37 RX2 yX2_has wsX2_has) := goodIn_app (goodIn_of _ (by decide +kernel)) ggX2_holds_X2_has
set_option maxRecDepth 20000 in
theorem ggX2_hasRoomFor_X2_holds : GoodIn wsX2_hasRoomFor wsX2_holds := goodIn_r _ [7, 2, 8, 9, 10, 6, 11, 1, 12, 13, 14, 15, 16, 17, 18] (by decide +kernel) (by decide +kernel)
set_option maxRecDepth 20000 in
theorem gX2_hasRoomFor_X2_holds : GoodIn wsX2_hasRoomFor (wsV RX2 46 RX2 yX2_holds wsX2_holds) := goodIn_app (goodIn_of _ (by decide +kernel)) ggX2_hasRoomFor_X2_holds
set_option maxRecDepth 20000 in
theorem ggX2_staysRising_X2_slotOf : GoodIn wsX2_staysRising wsX2_slotOf := goodIn_r _ [5, 6, 7, 21, 22, 23] (by decide +kernel) (by decide +kernel)
set_option maxRecDepth 20000 in
theorem gX2_staysRising_X2_slotOf : GoodIn wsX2_staysRising (wsV RX2 42 RX2 yX2_slotOf wsX2_slotOf) := goodIn_app (goodIn_of _ (by decide +kernel)) ggX2_staysRising_X2_slotOf
set_option maxRecDepth 20000 in
theorem ggX2_staysRising_X2_holds : GoodIn wsX2_staysRising wsX2_holds := goodIn_r _ [11, 7, 1, 2, 3, 4, 5, 6, 12, 13, 14, 15, 21, 22, 23] (by decide +kernel) (by decide +kernel)
set_option maxRecDepth 20000 in
theorem gX2_staysRising_X2_holds : GoodIn wsX2_staysRising (wsV RX2 46 RX2 yX2_holds wsX2_holds) := goodIn_app (goodIn_of _ (by decide +kernel)) ggX2_staysRising_X2_holds
set_option maxRecDepth 20000 in
theorem ggX2_staysRising_X2_has : GoodIn wsX2_staysRising wsX2_has := goodIn_r _ [15, 6, 21, 22, 23] (by decide +kernel) (by decide +kernel)
set_option maxRecDepth 20000 in
theorem gX2_staysRising_X2_has : GoodIn wsX2_staysRising (wsV RX2 37 RX2 yX2_has wsX2_has) := goodIn_app (goodIn_of _ (by decide +kernel)) ggX2_staysRising_X2_has
set_option maxRecDepth 20000 in
theorem ggX2_staysRising_X2_second : GoodIn wsX2_staysRising wsX2_second := goodIn_r _ [19, 6, 20, 21, 22, 23] (by decide +kernel) (by decide +kernel)
set_option maxRecDepth 20000 in
theorem gX2_staysRising_X2_second : GoodIn wsX2_staysRising (wsV RX2 49 RX2 yX2_second wsX2_second) := goodIn_app (goodIn_of _ (by decide +kernel)) ggX2_staysRising_X2_second
set_option maxRecDepth 20000 in
theorem ggX2_lay_X2_slotOf : GoodIn wsX2_lay wsX2_slotOf := goodIn_r _ [12, 2, 3, 21, 22, 23] (by decide +kernel) (by decide +kernel)
set_option maxRecDepth 20000 in
theorem gX2_lay_X2_slotOf : GoodIn wsX2_lay (wsV RX2 42 RX2 yX2_slotOf wsX2_slotOf) := goodIn_app (goodIn_of _ (by decide +kernel)) ggX2_lay_X2_slotOf
set_option maxRecDepth 20000 in
theorem ggX2_lay_X2_holds : GoodIn wsX2_lay wsX2_holds := goodIn_r _ [16, 3, 8, 9, 10, 11, 12, 2, 17, 18, 19, 20, 21, 22, 23] (by decide +kernel) (by decide +kernel)
set_option maxRecDepth 20000 in
theorem gX2_lay_X2_holds : GoodIn wsX2_lay (wsV RX2 46 RX2 yX2_holds wsX2_holds) := goodIn_app (goodIn_of _ (by decide +kernel)) ggX2_lay_X2_holds
set_option maxRecDepth 20000 in
theorem ggX2_valueAt_X2_first : GoodIn wsX2_valueAt wsX2_first := goodIn_r _ [7, 1, 2, 17, 18, 19] (by decide +kernel) (by decide +kernel)
set_option maxRecDepth 20000 in
theorem gX2_valueAt_X2_first : GoodIn wsX2_valueAt (wsV RX2 52 RX2 yX2_first wsX2_first) := goodIn_app (goodIn_of _ (by decide +kernel)) ggX2_valueAt_X2_first
set_option maxRecDepth 20000 in
theorem ggX2_valueAt_X2_second : GoodIn wsX2_valueAt wsX2_second := goodIn_r _ [11, 1, 12, 17, 18, 19] (by decide +kernel) (by decide +kernel)
set_option maxRecDepth 20000 in
theorem gX2_valueAt_X2_second : GoodIn wsX2_valueAt (wsV RX2 49 RX2 yX2_second wsX2_second) := goodIn_app (goodIn_of _ (by decide +kernel)) ggX2_valueAt_X2_second
set_option maxRecDepth 20000 in
theorem ggX2_valueAt_X2_between : GoodIn wsX2_valueAt wsX2_between := goodIn_r _ [16, 1, 2, 12, 17, 18, 19] (by decide +kernel) (by decide +kernel)
set_option maxRecDepth 20000 in
theorem gX2_valueAt_X2_between : GoodIn wsX2_valueAt (wsV RX2 55 RX2 yX2_between wsX2_between) := goodIn_app (goodIn_of _ (by decide +kernel)) ggX2_valueAt_X2_between
set_option maxRecDepth 20000 in
theorem ggX3_init_X2_init : GoodIn wsX3_init wsX2_init := goodIn_r _ [13, 14, 2, 3, 15, 16, 17, 18, 19, 20, 21, 37, 38, 39] (by decide +kernel) (by decide +kernel)
set_option maxRecDepth 20000 in
theorem gX3_init_X2_init_n23 : GoodIn wsX3_init (wsX2_init) := ggX3_init_X2_init
set_option maxRecDepth 20000 in
theorem ggX3_init_X2_append : GoodIn wsX3_init wsX2_append := goodIn_r _ [24, 25, 20, 21, 37, 38, 39] (by decide +kernel) (by decide +kernel)
set_option maxRecDepth 20000 in
theorem gX3_init_X2_append_n33 : GoodIn wsX3_init (wsX2_append) := ggX3_init_X2_append
set_option maxRecDepth 20000 in
theorem ggX3_copyFrom_X2_copyFrom : GoodIn wsX3_copyFrom wsX2_copyFrom := goodIn_r _ [15, 16, 17, 18, 19, 20, 21, 22, 23, 24, 25, 26, 38, 39, 40] (by decide +kernel) (by decide +kernel)
set_option maxRecDepth 20000 in
theorem gX3_copyFrom_X2_copyFrom_n56 : GoodIn wsX3_copyFrom (wsX2_copyFrom) := ggX3_copyFrom_X2_copyFrom
set_option maxRecDepth 20000 in
theorem ggX3_rest_X2_shrinkTo : GoodIn wsX3_rest wsX2_shrinkTo := goodIn_r _ [10, 11, 12, 13, 14, 15, 16, 17, 18, 35, 36, 37] (by decide +kernel) (by decide +kernel)
set_option maxRecDepth 20000 in
theorem gX3_rest_X2_shrinkTo_n63 : GoodIn wsX3_rest (wsX2_shrinkTo) := ggX3_rest_X2_shrinkTo
set_option maxRecDepth 20000 in
theorem ggX3_rest_X3_reach : GoodIn wsX3_rest wsX3_reach := goodIn_r _ [23, 3, 4, 24, 25, 26, 27, 28, 29, 30, 31, 32, 33, 34] (by decide +kernel) (by decide +kernel)
set_option maxRecDepth 20000 in
theorem gX3_rest_X3_reach : GoodIn wsX3_rest (wsV RX3 66 RX3 yX3_reach wsX3_reach) := goodIn_app (goodIn_of _ (by decide +kernel)) ggX3_rest_X3_reach
set_option maxRecDepth 20000 in
theorem ggX3_changeLoad_X3_reach : GoodIn wsX3_changeLoad wsX3_reach := goodIn_r _ [8, 3, 9, 70, 71, 72, 73, 74, 75, 76, 77, 78, 79, 80] (by decide +kernel) (by decide +kernel)
set_option maxRecDepth 20000 in
theorem gX3_changeLoad_X3_reach : GoodIn wsX3_changeLoad (wsV RX3 66 RX3 yX3_reach wsX3_reach) := goodIn_app (goodIn_of _ (by decide +kernel)) ggX3_changeLoad_X3_reach
set_option maxRecDepth 20000 in
theorem ggX3_changeLoad_X3_turnTo : GoodIn wsX3_changeLoad wsX3_turnTo := goodIn_r _ [13, 14, 15, 1, 3, 16, 17, 18, 19, 20, 21, 22, 70, 71, 72, 73, 74, 75, 76, 77, 78, 79, 80, 81, 82, 83] (by decide +kernel) (by decide +kernel)
set_option maxRecDepth 20000 in
theorem gX3_changeLoad_X3_turnTo : GoodIn wsX3_changeLoad (wsV RX3 73 RX3 yX3_turnTo wsX3_turnTo) := goodIn_app (goodIn_of _ (by decide +kernel)) ggX3_changeLoad_X3_turnTo
set_option maxRecDepth 20000 in
theorem ggX3_changeLoad_X3_forgetPassedTurns : GoodIn wsX3_changeLoad wsX3_forgetPassedTurns := goodIn_r _ [26, 15, 27, 17, 28, 29, 20, 21, 30, 31, 32, 7, 33, 14, 34, 35, 36, 37, 38, 39, 40, 41, 42, 43, 70, 71, 72, 73, 74, 75, 76, 77, 78, 79, 80, 81, 82, 83] (by decide +kernel) (by decide +kernel)
set_option maxRecDepth 20000 in
theorem gX3_changeLoad_X3_forgetPassedTurns : GoodIn wsX3_changeLoad (wsV RX3 76 RX3 yX3_forgetPassedTurns wsX3_forgetPassedTurns) := goodIn_app (goodIn_of _ (by decide +kernel)) ggX3_changeLoad_X3_forgetPassedTurns
set_option maxRecDepth 20000 in
theorem ggX3_changeLoad_X3_extensionBehindTurns : GoodIn wsX3_changeLoad wsX3_extensionBehindTurns := goodIn_r _ [47, 15, 48, 14, 49, 50, 39, 51, 52, 17, 53, 54, 20, 21, 55, 27, 28, 29, 56, 57, 58, 59, 22, 60, 61, 62, 63, 70, 71, 72, 73, 74, 75, 76, 77, 78, 79, 80, 81, 82, 83] (by decide +kernel) (by decide +kernel)
set_option maxRecDepth 20000 in
theorem gX3_changeLoad_X3_extensionBehindTurns : GoodIn wsX3_changeLoad (wsV RX3 79 RX3 yX3_extensionBehindTurns wsX3_extensionBehindTurns) := goodIn_app (goodIn_of _ (by decide +kernel)) ggX3_changeLoad_X3_extensionBehindTurns
set_option maxRecDepth 20000 in
theorem ggX3_changeLoad_X3_dragPointer : GoodIn wsX3_changeLoad wsX3_dragPointer := goodIn_r _ [67, 68, 69, 4, 5, 6, 7, 8, 3, 9, 70, 71, 72, 73, 74, 75, 76, 77, 78, 79, 80] (by decide +kernel) (by decide +kernel)
set_option maxRecDepth 20000 in
theorem gX3_changeLoad_X3_dragPointer : GoodIn wsX3_changeLoad (wsV RX3 83 RX3 yX3_dragPointer wsX3_dragPointer) := goodIn_app (goodIn_of _ (by decide +kernel)) ggX3_changeLoad_X3_dragPointer
set_option maxRecDepth 20000 in
theorem ggX3_turnTo_X2_append : GoodIn wsX3_turnTo wsX2_append := goodIn_r _ [8, 9, 10, 11, 23, 24, 25] (by decide +kernel) (by decide +kernel)
set_option maxRecDepth 20000 in
theorem gX3_turnTo_X2_append_n33 : GoodIn wsX3_turnTo (wsX2_append) := ggX3_turnTo_X2_append
set_option maxRecDepth 20000 in
theorem ggX3_forgetPassedTurns_X2_first : GoodIn wsX3_forgetPassedTurns wsX2_first := goodIn_r _ [5, 6, 7, 35, 36, 37] (by decide +kernel) (by decide +kernel)
set_option maxRecDepth 20000 in
theorem gX3_forgetPassedTurns_X2_first_n86 : GoodIn wsX3_forgetPassedTurns (wsX2_first) := ggX3_forgetPassedTurns_X2_first
set_option maxRecDepth 20000 in
theorem ggX3_forgetPassedTurns_X3_isReached : GoodIn wsX3_forgetPassedTurns wsX3_isReached := goodIn_r _ [12, 13, 24, 25, 26, 27, 28, 29, 30, 31, 32, 33, 34] (by decide +kernel) (by decide +kernel)
set_option maxRecDepth 20000 in
theorem gX3_forgetPassedTurns_X3_isReached : GoodIn wsX3_forgetPassedTurns (wsV RX3 89 RX3 yX3_isReached wsX3_isReached) := goodIn_app (goodIn_of _ (by decide +kernel)) ggX3_forgetPassedTurns_X3_isReached
set_option maxRecDepth 20000 in
theorem ggX3_forgetPassedTurns_X2_shrinkTo : GoodIn wsX3_forgetPassedTurns wsX2_shrinkTo := goodIn_r _ [16, 6, 17, 18, 19, 20, 21, 22, 23, 35, 36, 37] (by decide +kernel) (by decide +kernel)
set_option maxRecDepth 20000 in
theorem gX3_forgetPassedTurns_X2_shrinkTo_n63 : GoodIn wsX3_forgetPassedTurns (wsX2_shrinkTo) := ggX3_forgetPassedTurns_X2_shrinkTo
set_option maxRecDepth 20000 in
theorem ggX3_extensionBehindTurns_X2_valueAt : GoodIn wsX3_extensionBehindTurns wsX2_valueAt := goodIn_r _ [11, 12, 13, 14, 15, 16, 9, 17, 18, 19, 20, 21, 22, 23, 24, 25, 26, 38, 39, 40] (by decide +kernel) (by decide +kernel)
set_option maxRecDepth 20000 in
theorem gX3_extensionBehindTurns_X2_valueAt_n93 : GoodIn wsX3_extensionBehindTurns (wsX2_valueAt) := ggX3_extensionBehindTurns_X2_valueAt
set_option maxRecDepth 20000 in
theorem ggX3_extensionBehindTurns_X2_first : GoodIn wsX3_extensionBehindTurns wsX2_first := goodIn_r _ [17, 12, 13, 38, 39, 40] (by decide +kernel) (by decide +kernel)
set_option maxRecDepth 20000 in
theorem gX3_extensionBehindTurns_X2_first_n86 : GoodIn wsX3_extensionBehindTurns (wsX2_first) := ggX3_extensionBehindTurns_X2_first
set_option maxRecDepth 20000 in
theorem ggX3_extensionBehindTurns_X2_second : GoodIn wsX3_extensionBehindTurns wsX2_second := goodIn_r _ [21, 12, 22, 38, 39, 40] (by decide +kernel) (by decide +kernel)
set_option maxRecDepth 20000 in
theorem gX3_extensionBehindTurns_X2_second_n97 : GoodIn wsX3_extensionBehindTurns (wsX2_second) := ggX3_extensionBehindTurns_X2_second
set_option maxRecDepth 20000 in
theorem ggX3_extensionFromTurns_X2_valueAt : GoodIn wsX3_extensionFromTurns wsX2_valueAt := goodIn_r _ [11, 12, 13, 14, 15, 16, 9, 17, 18, 19, 20, 21, 22, 23, 24, 25, 26, 38, 39, 40] (by decide +kernel) (by decide +kernel)
set_option maxRecDepth 20000 in
theorem gX3_extensionFromTurns_X2_valueAt_n93 : GoodIn wsX3_extensionFromTurns (wsX2_valueAt) := ggX3_extensionFromTurns_X2_valueAt
set_option maxRecDepth 20000 in
theorem ggX3_extensionFromTurns_X2_first : GoodIn wsX3_extensionFromTurns wsX2_first := goodIn_r _ [17, 12, 13, 38, 39, 40] (by decide +kernel) (by decide +kernel)
set_option maxRecDepth 20000 in
theorem gX3_extensionFromTurns_X2_first_n86 : GoodIn wsX3_extensionFromTurns (wsX2_first) := ggX3_extensionFromTurns_X2_first
set_option maxRecDepth 20000 in
theorem ggX3_passHours_X3_reach : GoodIn wsX3_passHours wsX3_reach := goodIn_r _ [16, 17, 3, 24, 25, 26, 27, 28, 29, 30, 31, 32, 33, 34] (by decide +kernel) (by decide +kernel)
set_option maxRecDepth 20000 in
theorem gX3_passHours_X3_reach : GoodIn wsX3_passHours (wsV RX3 66 RX3 yX3_reach wsX3_reach) := goodIn_app (goodIn_of _ (by decide +kernel)) ggX3_passHours_X3_reach
set_option maxRecDepth 20000 in
theorem ggX3_passHours_X3_dragPointer : GoodIn wsX3_passHours wsX3_dragPointer := goodIn_r _ [21, 22, 23, 12, 13, 14, 15, 16, 17, 3, 24, 25, 26, 27, 28, 29, 30, 31, 32, 33, 34] (by decide +kernel) (by decide +kernel)
set_option maxRecDepth 20000 in
theorem gX3_passHours_X3_dragPointer : GoodIn wsX3_passHours (wsV RX3 83 RX3 yX3_dragPointer wsX3_dragPointer) := goodIn_app (goodIn_of _ (by decide +kernel)) ggX3_passHours_X3_dragPointer
set_option maxRecDepth 20000 in
theorem ggX3_dragPointer_X3_reach : GoodIn wsX3_dragPointer wsX3_reach := goodIn_r _ [7, 8, 9, 10, 11, 12, 13, 14, 15, 16, 17, 18, 19, 20] (by decide +kernel) (by decide +kernel)
set_option maxRecDepth 20000 in
theorem gX3_dragPointer_X3_reach : GoodIn wsX3_dragPointer (wsV RX3 66 RX3 yX3_reach wsX3_reach) := goodIn_app (goodIn_of _ (by decide +kernel)) ggX3_dragPointer_X3_reach
set_option maxRecDepth 20000 in
theorem ggX5_init_X3_init : GoodIn wsX5_init wsX3_init := goodIn_r _ [17, 18, 2, 3, 19, 20, 21, 22, 9, 10, 23, 24, 25, 26, 27, 28, 29, 30, 31, 12, 32, 33, 34, 35, 36, 37, 38, 39, 40, 41, 42, 43, 44, 45, 46, 47, 48, 56, 57, 58] (by decide +kernel) (by decide +kernel)
set_option maxRecDepth 20000 in
theorem gX5_init_X3_init_n11 : GoodIn wsX5_init (wsX3_init) := ggX5_init_X3_init
set_option maxRecDepth 20000 in
theorem ggX5_init_X2_init : GoodIn wsX5_init wsX2_init := goodIn_r _ [26, 27, 2, 3, 28, 29, 30, 31, 12, 32, 33, 56, 57, 58] (by decide +kernel) (by decide +kernel)
set_option maxRecDepth 20000 in
theorem gX5_init_X2_init_n22 : GoodIn wsX5_init (wsX2_init) := ggX5_init_X2_init
set_option maxRecDepth 20000 in
theorem ggX7_init_X0_init : GoodIn wsX7_init wsX0_init := goodIn_r _ [21, 22, 2, 3, 23, 24, 25, 26, 27, 28, 29, 30, 31, 32, 33, 34, 35, 36, 37, 38, 39, 40, 41, 42, 43, 44, 45, 46, 47, 48, 49, 50, 51, 52, 53, 54, 55, 56, 57, 58, 59, 60, 61, 62, 63, 64, 65, 109, 110, 111, 112, 113, 114, 115, 116, 117, 118, 119, 86, 87, 88, 120, 121, 122, 123, 124, 125, 126, 127, 128] (by decide +kernel) (by decide +kernel)
set_option maxRecDepth 20000 in
theorem gX7_init_X0_init_n11 : GoodIn wsX7_init (wsX0_init) := ggX7_init_X0_init
set_option maxRecDepth 20000 in
theorem ggX7_init_X1_init : GoodIn wsX7_init wsX1_init := goodIn_r _ [67, 68, 2, 3, 69, 70, 5, 6, 20, 21, 22, 23, 24, 25, 26, 27, 28, 29, 30, 31, 32, 33, 34, 35, 36, 37, 38, 39, 40, 41, 42, 43, 44, 45, 46, 47, 48, 49, 50, 51, 52, 53, 54, 55, 56, 57, 58, 59, 60, 61, 62, 63, 64, 65, 94, 95, 86, 87, 88, 109, 110, 111, 112, 113, 114, 115, 116, 117, 118, 119, 120, 121, 122, 123, 124, 125, 126, 127, 128] (by decide +kernel) (by decide +kernel)
set_option maxRecDepth 20000 in
theorem gX7_init_X1_init_n18 : GoodIn wsX7_init (wsX1_init) := ggX7_init_X1_init
set_option maxRecDepth 20000 in
theorem ggX7_init_X4_init : GoodIn wsX7_init wsX4_init := goodIn_r _ [72, 73, 2, 3, 74, 75, 96, 97, 98, 99, 100, 101] (by decide +kernel) (by decide +kernel)
set_option maxRecDepth 20000 in
theorem gX7_init_X4_init_n25 : GoodIn wsX7_init (wsX4_init) := ggX7_init_X4_init
set_option maxRecDepth 20000 in
theorem ggX7_init_X5_init : GoodIn wsX7_init wsX5_init := goodIn_r _ [77, 78, 2, 3, 79, 24, 25, 80, 81, 28, 29, 82, 51, 83, 84, 85, 35, 36, 37, 38, 39, 40, 41, 42, 43, 44, 45, 46, 47, 48, 49, 50, 52, 53, 54, 55, 56, 57, 109, 110, 111, 112, 113, 114, 115, 116, 117, 118, 119, 102, 103, 104, 105, 106, 107, 108, 120, 121, 122] (by decide +kernel) (by decide +kernel)
set_option maxRecDepth 20000 in
theorem gX7_init_X5_init_n32 : GoodIn wsX7_init (wsX5_init) := ggX7_init_X5_init
set_option maxRecDepth 20000 in
theorem ggX7_setLoad_X7_isOutside : GoodIn wsX7_setLoad wsX7_isOutside := goodIn_r _ [7] (by decide +kernel) (by decide +kernel)
set_option maxRecDepth 20000 in
theorem gX7_setLoad_X7_isOutside : GoodIn wsX7_setLoad (va_wsS RX7 37 yX7_isOutside wsX7_isOutside) := goodIn_app (goodIn_of _ (by decide +kernel)) ggX7_setLoad_X7_isOutside
set_option maxRecDepth 20000 in
theorem ggX7_setLoad_X0_refusalOfLoad : GoodIn wsX7_setLoad wsX0_refusalOfLoad := goodIn_r _ [11, 12, 13, 14, 15, 16, 17, 18, 19, 145, 146, 147, 148, 149, 150, 151, 152, 153] (by decide +kernel) (by decide +kernel)
set_option maxRecDepth 20000 in
theorem gX7_setLoad_X0_refusalOfLoad_n42 : GoodIn wsX7_setLoad (wsX0_refusalOfLoad) := ggX7_setLoad_X0_refusalOfLoad
set_option maxRecDepth 20000 in
theorem ggX7_setLoad_X7_errorOf : GoodIn wsX7_setLoad wsX7_errorOf := goodIn_r _ [22, 1, 23] (by decide +kernel) (by decide +kernel)
set_option maxRecDepth 20000 in
theorem gX7_setLoad_X7_errorOf : GoodIn wsX7_setLoad (va_wsS RX7 46 yX7_errorOf wsX7_errorOf) := goodIn_app (goodIn_of _ (by decide +kernel)) ggX7_setLoad_X7_errorOf
set_option maxRecDepth 20000 in
theorem ggX7_setLoad_X1_record : GoodIn wsX7_setLoad wsX1_record := goodIn_r _ [27, 28, 29, 30, 31, 32, 25, 33, 34, 35, 36, 37, 38, 39, 40, 41, 9, 42, 43, 44, 45, 12, 46, 47, 48, 49, 50, 51, 52, 53, 54, 55, 56, 57, 58, 59, 60, 61, 62, 63, 64, 65, 66, 67, 68, 69, 70, 71, 72, 73, 74, 75, 76, 14, 77, 78, 17, 19, 79, 80, 81, 82, 18, 154, 155, 145, 146, 147, 156, 157, 158, 159, 160, 161, 162, 163, 164, 165, 166, 167, 168, 169, 148, 149, 150, 151, 152, 153] (by decide +kernel) (by decide +kernel)
set_option maxRecDepth 20000 in
theorem gX7_setLoad_X1_record_n49 : GoodIn wsX7_setLoad (wsX1_record) := ggX7_setLoad_X1_record
set_option maxRecDepth 20000 in
theorem ggX7_setLoad_X3_changeLoad : GoodIn wsX7_setLoad wsX3_changeLoad := goodIn_r _ [85, 50, 55, 51, 86, 87, 88, 47, 89, 52, 90, 91, 92, 93, 54, 59, 94, 62, 95, 96, 65, 66, 75, 97, 98, 99, 100, 101, 102, 103, 104, 105, 106, 107, 108, 109, 110, 67, 68, 69, 70, 111, 112, 113, 114, 115, 116, 117, 60, 118, 119, 120, 121, 122, 123, 124, 125, 126, 127, 128, 129, 130, 131, 132, 133, 134, 135, 136, 53, 56, 156, 157, 158, 159, 160, 161, 162, 163, 164, 165, 166, 167, 168, 169] (by decide +kernel) (by decide +kernel)
set_option maxRecDepth 20000 in
theorem gX7_setLoad_X3_changeLoad_n57 : GoodIn wsX7_setLoad (wsX3_changeLoad) := ggX7_setLoad_X3_changeLoad
set_option maxRecDepth 20000 in
theorem ggX7_setLoad_X0_reading : GoodIn wsX7_setLoad wsX0_reading := goodIn_r _ [139, 45, 44, 121, 62, 122, 123, 65, 66, 124, 101, 102, 103, 125, 126, 127, 128, 75, 129, 130, 131, 132, 145, 146, 147, 156, 157, 158, 159, 160, 161, 162, 163, 164, 165, 166, 167, 168, 169] (by decide +kernel) (by decide +kernel)
set_option maxRecDepth 20000 in
theorem gX7_setLoad_X0_reading_n63 : GoodIn wsX7_setLoad (wsX0_reading) := ggX7_setLoad_X0_reading
set_option maxRecDepth 20000 in
theorem ggX7_hours_X7_isOutside : GoodIn wsX7_hours wsX7_isOutside := goodIn_r _ [7] (by decide +kernel) (by decide +kernel)
set_option maxRecDepth 20000 in
theorem gX7_hours_X7_isOutside : GoodIn wsX7_hours (va_wsS RX7 37 yX7_isOutside wsX7_isOutside) := goodIn_app (goodIn_of _ (by decide +kernel)) ggX7_hours_X7_isOutside
set_option maxRecDepth 20000 in
theorem ggX7_hours_X1_record : GoodIn wsX7_hours wsX1_record := goodIn_r _ [11, 12, 13, 14, 15, 16, 9, 17, 18, 19, 20, 21, 22, 23, 24, 25, 26, 27, 28, 29, 30, 31, 32, 33, 34, 35, 36, 37, 38, 39, 40, 41, 42, 43, 44, 45, 46, 47, 48, 49, 50, 51, 52, 53, 54, 55, 56, 57, 58, 59, 60, 61, 62, 63, 64, 65, 66, 67, 68, 69, 70, 71, 72, 107, 108, 93, 94, 95, 96, 97, 98, 99, 100, 101, 102, 103, 104, 105, 106, 109, 110, 111, 112, 113, 114, 115, 116, 117] (by decide +kernel) (by decide +kernel)
set_option maxRecDepth 20000 in
theorem gX7_hours_X1_record_n49 : GoodIn wsX7_hours (wsX1_record) := ggX7_hours_X1_record
set_option maxRecDepth 20000 in
theorem ggX7_hours_X3_passHours : GoodIn wsX7_hours wsX3_passHours := goodIn_r _ [75, 36, 43, 38, 44, 76, 54, 55, 56, 77, 78, 79, 80, 81, 82, 33, 83, 37, 84, 85, 86, 87, 39, 42, 96, 97, 98, 99, 100, 101, 102, 103, 104, 105, 106] (by decide +kernel) (by decide +kernel)
set_option maxRecDepth 20000 in
theorem gX7_hours_X3_passHours_n79 : GoodIn wsX7_hours (wsX3_passHours) := ggX7_hours_X3_passHours
set_option maxRecDepth 20000 in
theorem ggX7_zero_X0_refusalOfZero : GoodIn wsX7_zero wsX0_refusalOfZero := goodIn_r _ [6, 7, 95, 96, 97, 98, 99, 100, 101, 102, 103, 104, 105, 106, 107, 108] (by decide +kernel) (by decide +kernel)
set_option maxRecDepth 20000 in
theorem gX7_zero_X0_refusalOfZero_n86 : GoodIn wsX7_zero (wsX0_refusalOfZero) := ggX7_zero_X0_refusalOfZero
set_option maxRecDepth 20000 in
theorem ggX7_zero_X7_errorOf : GoodIn wsX7_zero wsX7_errorOf := goodIn_r _ [11, 12, 13] (by decide +kernel) (by decide +kernel)
set_option maxRecDepth 20000 in
theorem gX7_zero_X7_errorOf : GoodIn wsX7_zero (va_wsS RX7 46 yX7_errorOf wsX7_errorOf) := goodIn_app (goodIn_of _ (by decide +kernel)) ggX7_zero_X7_errorOf
set_option maxRecDepth 20000 in
theorem ggX7_zero_X1_record : GoodIn wsX7_zero wsX1_record := goodIn_r _ [17, 18, 19, 20, 21, 22, 15, 23, 24, 25, 26, 27, 28, 29, 30, 31, 4, 32, 33, 7, 34, 35, 36, 37, 38, 39, 40, 41, 42, 43, 44, 45, 46, 47, 48, 49, 50, 51, 52, 53, 54, 55, 56, 57, 58, 59, 60, 61, 62, 63, 64, 65, 66, 67, 68, 69, 70, 71, 72, 73, 74, 75, 76, 112, 113, 95, 96, 97, 98, 99, 100, 101, 102, 103, 104, 105, 106, 107, 108, 109, 110, 111, 114, 115, 116, 117, 118, 119] (by decide +kernel) (by decide +kernel)
set_option maxRecDepth 20000 in
theorem gX7_zero_X1_record_n49 : GoodIn wsX7_zero (wsX1_record) := ggX7_zero_X1_record
set_option maxRecDepth 20000 in
theorem ggX7_zero_X3_rest : GoodIn wsX7_zero wsX3_rest := goodIn_r _ [79, 49, 44, 41, 42, 45, 43, 80, 52, 81, 82, 55, 57, 58, 59, 60, 83, 84, 85, 86, 87, 88, 37, 89, 98, 99, 100, 101, 102, 103, 104, 105, 106, 107, 108, 109, 110, 111] (by decide +kernel) (by decide +kernel)
set_option maxRecDepth 20000 in
theorem gX7_zero_X3_rest_n98 : GoodIn wsX7_zero (wsX3_rest) := ggX7_zero_X3_rest
set_option maxRecDepth 20000 in
theorem ggX7_undo_X1_restore : GoodIn wsX7_undo wsX1_restore := goodIn_r _ [7, 8, 9, 10, 11, 5, 12, 13, 14, 15, 16, 17, 18, 19, 20, 21, 22, 23, 24, 25, 26, 27, 28, 29, 30, 31, 32, 33, 34, 35, 36, 37, 38, 39, 40, 41, 42, 43, 44, 45, 46, 47, 48, 49, 50, 51, 52, 53, 54, 55, 56, 57, 58, 59, 60, 61, 62, 63, 64, 70, 71, 72, 73, 74, 75, 76, 77, 78, 79, 80, 81, 82, 83, 84, 85, 86, 87, 88, 89, 90, 91, 92, 93, 94] (by decide +kernel) (by decide +kernel)
set_option maxRecDepth 20000 in
theorem gX7_undo_X1_restore_n103 : GoodIn wsX7_undo (wsX1_restore) := ggX7_undo_X1_restore
set_option maxRecDepth 20000 in
theorem ggX7_count_X0_reading : GoodIn wsX7_count wsX0_reading := goodIn_r _ [8, 9, 10, 11, 12, 13, 14, 15, 16, 17, 18, 19, 20, 21, 22, 23, 24, 25, 26, 27, 28, 29, 41, 42, 43, 44, 45, 46, 47, 48, 49, 50, 51, 52, 53, 54, 55, 56, 57] (by decide +kernel) (by decide +kernel)
set_option maxRecDepth 20000 in
theorem gX7_count_X0_reading_n63 : GoodIn wsX7_count (wsX0_reading) := ggX7_count_X0_reading
set_option maxRecDepth 20000 in
theorem ggX7_count_X6_numberOnPan : GoodIn wsX7_count wsX6_numberOnPan := goodIn_r _ [33, 34, 35, 58, 59, 60, 61, 62, 63] (by decide +kernel) (by decide +kernel)
set_option maxRecDepth 20000 in
theorem gX7_count_X6_numberOnPan_n125 : GoodIn wsX7_count (wsX6_numberOnPan) := ggX7_count_X6_numberOnPan
set_option maxRecDepth 20000 in
theorem ggX7_turning_X7_isOutside : GoodIn wsX7_turning wsX7_isOutside := goodIn_r _ [6] (by decide +kernel) (by decide +kernel)
set_option maxRecDepth 20000 in
theorem gX7_turning_X7_isOutside : GoodIn wsX7_turning (va_wsS RX7 37 yX7_isOutside wsX7_isOutside) := goodIn_app (goodIn_of _ (by decide +kernel)) ggX7_turning_X7_isOutside
set_option maxRecDepth 20000 in
theorem ggX7_turning_X2_found : GoodIn wsX7_turning wsX2_found := goodIn_r _ [10, 11, 12, 13, 14, 15, 16, 8, 17, 18, 38, 39, 40] (by decide +kernel) (by decide +kernel)
set_option maxRecDepth 20000 in
theorem gX7_turning_X2_found_n146 : GoodIn wsX7_turning (wsX2_found) := ggX7_turning_X2_found
set_option maxRecDepth 20000 in
theorem ggX7_again_X3_extensionFromTurns : GoodIn wsX7_again wsX3_extensionFromTurns := goodIn_r _ [5, 6, 7, 8, 9, 10, 11, 12, 13, 14, 15, 16, 17, 18, 19, 20, 21, 22, 23, 24, 25, 26, 27, 28, 29, 30, 31, 40, 41, 42, 43, 44, 45, 46, 47, 48, 49, 50, 51, 52, 53] (by decide +kernel) (by decide +kernel)
set_option maxRecDepth 20000 in
theorem gX7_again_X3_extensionFromTurns_n154 : GoodIn wsX7_again (wsX3_extensionFromTurns) := ggX7_again_X3_extensionFromTurns
set_option maxRecDepth 20000 in
theorem ggX7_setPoint_X7_isOutside : GoodIn wsX7_setPoint wsX7_isOutside := goodIn_r _ [9] (by decide +kernel) (by decide +kernel)
set_option maxRecDepth 20000 in
theorem gX7_setPoint_X7_isOutside : GoodIn wsX7_setPoint (va_wsS RX7 37 yX7_isOutside wsX7_isOutside) := goodIn_app (goodIn_of _ (by decide +kernel)) ggX7_setPoint_X7_isOutside
set_option maxRecDepth 20000 in
theorem ggX7_setPoint_X3_isUnturnedAtZero : GoodIn wsX7_setPoint wsX3_isUnturnedAtZero := goodIn_r _ [13, 14, 15, 111, 112, 113, 114, 115, 116, 117, 118, 119, 120, 121, 122, 123, 124] (by decide +kernel) (by decide +kernel)
set_option maxRecDepth 20000 in
theorem gX7_setPoint_X3_isUnturnedAtZero_n157 : GoodIn wsX7_setPoint (wsX3_isUnturnedAtZero) := ggX7_setPoint_X3_isUnturnedAtZero
set_option maxRecDepth 20000 in
theorem ggX7_setPoint_X2_staysRising : GoodIn wsX7_setPoint wsX2_staysRising := goodIn_r _ [19, 20, 21, 22, 17, 23, 24, 25, 26, 27, 28, 29, 30, 31, 32, 33, 34, 35, 36, 37, 38, 122, 123, 124] (by decide +kernel) (by decide +kernel)
set_option maxRecDepth 20000 in
theorem gX7_setPoint_X2_staysRising_n161 : GoodIn wsX7_setPoint (wsX2_staysRising) := ggX7_setPoint_X2_staysRising
set_option maxRecDepth 20000 in
theorem ggX7_setPoint_X2_hasRoomFor : GoodIn wsX7_setPoint wsX2_hasRoomFor := goodIn_r _ [41, 24, 25, 26, 27, 28, 17, 29, 20, 21, 22, 23, 30, 31, 32, 33, 122, 123, 124] (by decide +kernel) (by decide +kernel)
set_option maxRecDepth 20000 in
theorem gX7_setPoint_X2_hasRoomFor_n165 : GoodIn wsX7_setPoint (wsX2_hasRoomFor) := ggX7_setPoint_X2_hasRoomFor
set_option maxRecDepth 20000 in
theorem ggX7_setPoint_X1_record : GoodIn wsX7_setPoint wsX1_record := goodIn_r _ [45, 46, 47, 48, 49, 50, 43, 51, 52, 53, 54, 55, 56, 57, 58, 59, 60, 61, 62, 63, 64, 65, 66, 11, 67, 68, 14, 69, 70, 71, 72, 73, 74, 75, 76, 15, 77, 78, 17, 79, 80, 24, 25, 81, 82, 83, 84, 85, 86, 87, 88, 38, 89, 90, 91, 92, 93, 94, 95, 96, 97, 98, 99, 125, 126, 108, 109, 110, 111, 112, 113, 114, 115, 116, 117, 118, 119, 120, 121, 122, 123, 124, 127, 128, 129, 130, 131, 132] (by decide +kernel) (by decide +kernel)
set_option maxRecDepth 20000 in
theorem gX7_setPoint_X1_record_n49 : GoodIn wsX7_setPoint (wsX1_record) := ggX7_setPoint_X1_record
set_option maxRecDepth 20000 in
theorem ggX7_setPoint_X2_lay : GoodIn wsX7_setPoint wsX2_lay := goodIn_r _ [102, 38, 24, 25, 85, 86, 87, 88, 20, 21, 22, 17, 23, 26, 27, 28, 29, 30, 31, 32, 33, 122, 123, 124] (by decide +kernel) (by decide +kernel)
set_option maxRecDepth 20000 in
theorem gX7_setPoint_X2_lay_n170 : GoodIn wsX7_setPoint (wsX2_lay) := ggX7_setPoint_X2_lay
set_option maxRecDepth 20000 in
theorem ggX7_curve_X7_isOutside : GoodIn wsX7_curve wsX7_isOutside := goodIn_r _ [6] (by decide +kernel) (by decide +kernel)
set_option maxRecDepth 20000 in
theorem gX7_curve_X7_isOutside : GoodIn wsX7_curve (va_wsS RX7 37 yX7_isOutside wsX7_isOutside) := goodIn_app (goodIn_of _ (by decide +kernel)) ggX7_curve_X7_isOutside
set_option maxRecDepth 20000 in
theorem ggX7_curve_X2_valueAt : GoodIn wsX7_curve wsX2_valueAt := goodIn_r _ [10, 11, 12, 13, 14, 15, 8, 16, 17, 18, 19, 20, 21, 22, 23, 24, 25, 45, 46, 47] (by decide +kernel) (by decide +kernel)
set_option maxRecDepth 20000 in
theorem gX7_curve_X2_valueAt_n187 : GoodIn wsX7_curve (wsX2_valueAt) := ggX7_curve_X2_valueAt
set_option maxRecDepth 20000 in
theorem ggX7_readingAt_X7_isOutside : GoodIn wsX7_readingAt wsX7_isOutside := goodIn_r _ [6] (by decide +kernel) (by decide +kernel)
set_option maxRecDepth 20000 in
theorem gX7_readingAt_X7_isOutside : GoodIn wsX7_readingAt (va_wsS RX7 37 yX7_isOutside wsX7_isOutside) := goodIn_app (goodIn_of _ (by decide +kernel)) ggX7_readingAt_X7_isOutside
set_option maxRecDepth 20000 in
theorem ggX7_readingAt_X2_valueAt : GoodIn wsX7_readingAt wsX2_valueAt := goodIn_r _ [10, 11, 12, 13, 14, 15, 8, 16, 17, 18, 19, 20, 21, 22, 23, 24, 25, 34, 35, 36] (by decide +kernel) (by decide +kernel)
set_option maxRecDepth 20000 in
theorem gX7_readingAt_X2_valueAt_n187 : GoodIn wsX7_readingAt (wsX2_valueAt) := ggX7_readingAt_X2_valueAt
set_option maxRecDepth 20000 in
theorem ggX7_set_X7_isOutside : GoodIn wsX7_set wsX7_isOutside := goodIn_r _ [7] (by decide +kernel) (by decide +kernel)
set_option maxRecDepth 20000 in
theorem gX7_set_X7_isOutside : GoodIn wsX7_set (va_wsS RX7 37 yX7_isOutside wsX7_isOutside) := goodIn_app (goodIn_of _ (by decide +kernel)) ggX7_set_X7_isOutside
set_option maxRecDepth 20000 in
theorem ggX7_set_X7_topOfSetting : GoodIn wsX7_set wsX7_topOfSetting := goodIn_r _ [10] (by decide +kernel) (by decide +kernel)
set_option maxRecDepth 20000 in
theorem gX7_set_X7_topOfSetting : GoodIn wsX7_set (va_wsS RX7 198 yX7_topOfSetting wsX7_topOfSetting) := goodIn_app (goodIn_of _ (by decide +kernel)) ggX7_set_X7_topOfSetting
set_option maxRecDepth 20000 in
theorem ggX7_set_X1_record : GoodIn wsX7_set wsX1_record := goodIn_r _ [14, 15, 16, 17, 18, 19, 12, 20, 21, 22, 23, 24, 25, 26, 27, 28, 29, 30, 31, 32, 33, 34, 35, 36, 37, 38, 39, 40, 41, 42, 43, 44, 45, 46, 47, 48, 49, 50, 51, 52, 53, 54, 55, 56, 57, 58, 59, 60, 61, 62, 63, 64, 65, 66, 67, 68, 69, 70, 71, 72, 73, 74, 75, 87, 88, 84, 85, 86, 89, 90, 91, 92, 93, 94, 95, 96, 97, 98, 99, 100, 101, 102, 103, 104, 105, 106, 107, 108] (by decide +kernel) (by decide +kernel)
set_option maxRecDepth 20000 in
theorem gX7_set_X1_record_n49 : GoodIn wsX7_set (wsX1_record) := ggX7_set_X1_record
set_option maxRecDepth 20000 in
theorem ggX7_set_X3_exchangeSetting : GoodIn wsX7_set wsX3_exchangeSetting := goodIn_r _ [78, 45, 46, 47, 89, 90, 91, 92, 93, 94, 95, 96, 97, 98, 99] (by decide +kernel) (by decide +kernel)
set_option maxRecDepth 20000 in
theorem gX7_set_X3_exchangeSetting_n201 : GoodIn wsX7_set (wsX3_exchangeSetting) := ggX7_set_X3_exchangeSetting
set_option maxRecDepth 20000 in
theorem ggL_holds_X7_count : GoodIn wsL_holds wsX7_count := goodIn_r _ [5, 6, 7, 8, 9, 10, 11, 12, 13, 14, 15, 16, 17, 18, 19, 20, 21, 22, 23, 24, 25, 26, 27, 28, 29, 30, 31, 32, 33, 34, 35, 36, 37, 38, 39, 40, 79, 80, 81, 82, 83, 84, 85, 86, 87, 88, 89, 90, 91, 92, 93, 94, 95, 96, 97, 98, 99, 100, 101, 102, 103, 104, 105, 106, 107, 108, 109, 110, 111, 112, 113, 114] (by decide +kernel) (by decide +kernel)
set_option maxRecDepth 20000 in
theorem gL_holds_X7_count : GoodIn wsL_holds (wsV RL 9 RX7 yX7_count wsX7_count) := goodIn_app (goodIn_of _ (by decide +kernel)) ggL_holds_X7_count
set_option maxRecDepth 20000 in
theorem ggL_holds_X7_again : GoodIn wsL_holds wsX7_again := goodIn_r _ [44, 6, 45, 46, 47, 48, 49, 50, 51, 52, 53, 54, 55, 16, 17, 18, 19, 20, 21, 22, 23, 24, 25, 26, 27, 28, 29, 30, 31, 32, 33, 34, 79, 80, 81, 82, 83, 84, 85, 86, 87, 88, 89, 90, 91, 92, 93, 94, 95, 96, 97, 98, 99, 100] (by decide +kernel) (by decide +kernel)
set_option maxRecDepth 20000 in
theorem gL_holds_X7_again : GoodIn wsL_holds (wsV RL 15 RX7 yX7_again wsX7_again) := goodIn_app (goodIn_of _ (by decide +kernel)) ggL_holds_X7_again
set_option maxRecDepth 20000 in
theorem ggL_holds_L_bound : GoodIn wsL_holds wsL_bound := goodIn_r _ [59] (by decide +kernel) (by decide +kernel)
set_option maxRecDepth 20000 in
theorem gL_holds_L_bound : GoodIn wsL_holds (va_wsS RL 19 yL_bound wsL_bound) := goodIn_app (goodIn_of _ (by decide +kernel)) ggL_holds_L_bound
set_option maxRecDepth 20000 in
theorem ggL_holds_X7_readingAt : GoodIn wsL_holds wsX7_readingAt := goodIn_r _ [63, 9, 6, 64, 65, 4, 66, 16, 17, 18, 19, 20, 21, 22, 23, 24, 25, 26, 27, 28, 29, 30, 31, 32, 33, 34, 79, 80, 81, 82, 83, 84, 85, 86, 98, 99, 100] (by decide +kernel) (by decide +kernel)
set_option maxRecDepth 20000 in
theorem gL_holds_X7_readingAt : GoodIn wsL_holds (wsV RL 25 RX7 yX7_readingAt wsX7_readingAt) := goodIn_app (goodIn_of _ (by decide +kernel)) ggL_holds_X7_readingAt
set_option maxRecDepth 20000 in
theorem ggL_holds_X7_turning : GoodIn wsL_holds wsX7_turning := goodIn_r _ [70, 9, 6, 64, 65, 4, 66, 71, 17, 72, 73, 74, 21, 30, 75, 76, 77, 78, 20, 79, 80, 81, 82, 83, 84, 85, 86, 87, 88, 89, 90, 91, 92, 93, 94, 95, 96, 97, 98, 99, 100] (by decide +kernel) (by decide +kernel)
set_option maxRecDepth 20000 in
theorem gL_holds_X7_turning : GoodIn wsL_holds (wsV RL 28 RX7 yX7_turning wsX7_turning) := goodIn_app (goodIn_of _ (by decide +kernel)) ggL_holds_X7_turning
set_option maxRecDepth 20000 in
theorem ggL_loop_X7_count : GoodIn wsL_loop wsX7_count := goodIn_r _ [5, 6, 7, 8, 9, 10, 11, 12, 13, 14, 15, 16, 17, 18, 19, 20, 21, 22, 23, 24, 25, 26, 27, 28, 29, 30, 31, 32, 33, 34, 35, 36, 37, 38, 39, 40, 193, 194, 195, 196, 197, 198, 199, 200, 201, 202, 203, 204, 205, 206, 207, 208, 209, 210, 211, 212, 213, 214, 215, 216, 217, 218, 219, 220, 221, 222, 223, 224, 225, 226, 227, 228] (by decide +kernel) (by decide +kernel)
set_option maxRecDepth 20000 in
theorem gL_loop_X7_count : GoodIn wsL_loop (wsV RL 9 RX7 yX7_count wsX7_count) := goodIn_app (goodIn_of _ (by decide +kernel)) ggL_loop_X7_count
set_option maxRecDepth 20000 in
theorem ggL_loop_X7_account : GoodIn wsL_loop wsX7_account := goodIn_r _ [44, 6, 193, 194, 195, 196, 197, 198, 199, 200, 201, 202, 203, 204, 205, 206, 207, 208, 209, 210, 211] (by decide +kernel) (by decide +kernel)
set_option maxRecDepth 20000 in
theorem gL_loop_X7_account : GoodIn wsL_loop (wsV RL 32 RX7 yX7_account wsX7_account) := goodIn_app (goodIn_of _ (by decide +kernel)) ggL_loop_X7_account
set_option maxRecDepth 20000 in
theorem ggL_loop_X7_turning : GoodIn wsL_loop wsX7_turning := goodIn_r _ [48, 9, 6, 49, 50, 4, 51, 52, 17, 53, 54, 55, 21, 30, 56, 57, 58, 59, 20, 193, 194, 195, 196, 197, 198, 199, 200, 201, 202, 203, 204, 205, 206, 207, 208, 209, 210, 211, 212, 213, 214] (by decide +kernel) (by decide +kernel)
set_option maxRecDepth 20000 in
theorem gL_loop_X7_turning : GoodIn wsL_loop (wsV RL 28 RX7 yX7_turning wsX7_turning) := goodIn_app (goodIn_of _ (by decide +kernel)) ggL_loop_X7_turning
set_option maxRecDepth 20000 in
theorem ggL_loop_X7_setLoad : GoodIn wsL_loop wsX7_setLoad := goodIn_r _ [63, 9, 6, 7, 49, 50, 4, 51, 64, 11, 65, 66, 67, 68, 36, 69, 70, 39, 40, 71, 72, 73, 74, 75, 76, 77, 78, 79, 80, 81, 82, 83, 84, 85, 86, 87, 88, 89, 90, 91, 92, 93, 94, 95, 15, 14, 96, 97, 98, 99, 100, 101, 102, 103, 104, 105, 106, 107, 108, 109, 110, 111, 17, 112, 113, 20, 21, 114, 115, 116, 117, 118, 119, 120, 121, 30, 122, 123, 124, 125, 126, 127, 128, 129, 130, 131, 132, 133, 134, 135, 136, 137, 138, 139, 140, 141, 142, 143, 144, 145, 146, 23, 24, 25, 147, 148, 149, 150, 151, 152, 153, 154, 155, 156, 157, 158, 159, 160, 161, 162, 163, 16, 18, 19, 22, 26, 27, 28, 29, 31, 32, 33, 34, 164, 165, 166, 167, 10, 12, 13, 193, 194, 195, 196, 197, 198, 199, 200, 215, 216, 217, 218, 219, 220, 221, 222, 201, 202, 203, 204, 205, 206, 207, 208, 209, 210, 211, 212, 213, 214] (by decide +kernel) (by decide +kernel)
set_option maxRecDepth 20000 in
theorem gL_loop_X7_setLoad : GoodIn wsL_loop (wsV RL 36 RX7 yX7_setLoad wsX7_setLoad) := goodIn_app (goodIn_of _ (by decide +kernel)) ggL_loop_X7_setLoad
set_option maxRecDepth 20000 in
theorem ggL_loop_L_holds : GoodIn wsL_loop wsL_holds := goodIn_r _ [171, 1, 2, 3, 4, 5, 6, 7, 8, 9, 10, 11, 12, 13, 14, 15, 16, 17, 18, 19, 20, 21, 22, 23, 24, 25, 26, 27, 28, 29, 30, 31, 32, 33, 34, 35, 36, 37, 38, 39, 40, 172, 173, 174, 175, 176, 97, 177, 178, 109, 110, 100, 161, 162, 116, 163, 179, 180, 170, 181, 182, 183, 184, 185, 49, 50, 51, 45, 46, 47, 48, 52, 53, 54, 55, 56, 57, 58, 59, 193, 194, 195, 196, 197, 198, 199, 200, 201, 202, 203, 204, 205, 206, 207, 208, 209, 210, 211, 212, 213, 214, 215, 216, 217, 218, 219, 220, 221, 222, 223, 224, 225, 226, 227, 228] (by decide +kernel) (by decide +kernel)
set_option maxRecDepth 20000 in
theorem gL_loop_L_holds : GoodIn wsL_loop (va_wsS RL 39 yL_holds wsL_holds) := goodIn_app (goodIn_of _ (by decide +kernel)) ggL_loop_L_holds
set_option maxRecDepth 20000 in
theorem ggL_loop_X7_undo : GoodIn wsL_loop wsX7_undo := goodIn_r _ [189, 7, 75, 6, 190, 77, 191, 192, 80, 86, 87, 88, 89, 81, 90, 91, 92, 93, 11, 94, 95, 15, 14, 67, 96, 97, 98, 99, 100, 101, 102, 103, 104, 105, 106, 107, 108, 109, 110, 111, 17, 112, 113, 20, 21, 114, 115, 116, 117, 118, 119, 120, 121, 30, 122, 36, 123, 124, 39, 71, 125, 126, 127, 128, 40, 193, 194, 195, 196, 197, 221, 222, 198, 199, 200, 201, 202, 203, 204, 205, 206, 207, 208, 209, 210, 211, 212, 213, 214, 215, 216, 217, 218, 219, 220] (by decide +kernel) (by decide +kernel)
set_option maxRecDepth 20000 in
theorem gL_loop_X7_undo : GoodIn wsL_loop (wsV RL 43 RX7 yX7_undo wsX7_undo) := goodIn_app (goodIn_of _ (by decide +kernel)) ggL_loop_X7_undo
set_option maxRecDepth 20000 in
theorem ggL_law_X7_init : GoodIn wsL_law wsX7_init := goodIn_r _ [5, 6, 7, 8, 9, 10, 11, 12, 13, 14, 15, 16, 17, 18, 19, 20, 21, 22, 23, 24, 25, 26, 27, 28, 29, 30, 31, 32, 33, 34, 35, 36, 37, 38, 39, 40, 41, 42, 43, 44, 45, 46, 47, 48, 49, 50, 51, 52, 53, 54, 55, 56, 57, 58, 59, 60, 61, 62, 63, 64, 65, 66, 67, 68, 69, 70, 71, 72, 73, 74, 75, 76, 77, 78, 79, 80, 81, 82, 83, 84, 85, 86, 87, 88, 89, 90, 321, 322, 323, 316, 317, 318, 319, 320, 324, 325, 326, 327, 328, 329, 330, 331, 332, 333, 334, 335, 336, 337, 338, 339, 340, 341, 342, 343, 344, 345, 346, 347, 348, 349, 350, 351, 352, 353, 354, 355, 356, 357, 358] (by decide +kernel) (by decide +kernel)
set_option maxRecDepth 20000 in
theorem gL_law_X7_init : GoodIn wsL_law (wsX7_init) := ggL_law_X7_init
set_option maxRecDepth 20000 in
theorem ggL_law_L_holds : GoodIn wsL_law wsL_holds := goodIn_r _ [94, 95, 96, 97, 2, 98, 12, 16, 20, 99, 100, 11, 101, 102, 35, 31, 103, 34, 104, 105, 62, 57, 106, 107, 108, 109, 110, 111, 112, 113, 58, 114, 115, 116, 117, 118, 38, 119, 120, 121, 70, 122, 123, 124, 125, 126, 30, 127, 128, 47, 48, 129, 130, 131, 54, 132, 133, 134, 93, 135, 136, 137, 138, 139, 140, 141, 142, 143, 144, 145, 146, 147, 148, 149, 150, 151, 152, 153, 154, 316, 317, 318, 319, 320, 321, 322, 323, 339, 340, 341, 342, 343, 344, 345, 346, 347, 348, 349, 350, 351, 352, 353, 354, 355, 356, 357, 358, 324, 325, 326, 327, 328, 329, 330, 331] (by decide +kernel) (by decide +kernel)
set_option maxRecDepth 20000 in
theorem gL_law_L_holds : GoodIn wsL_law (va_wsS RL 39 yL_holds wsL_holds) := goodIn_app (goodIn_of _ (by decide +kernel)) ggL_law_L_holds
set_option maxRecDepth 20000 in
theorem ggL_law_L_cell : GoodIn wsL_law wsL_cell := goodIn_r _ [157, 158, 159] (by decide +kernel) (by decide +kernel)
set_option maxRecDepth 20000 in
theorem gL_law_L_cell : GoodIn wsL_law (va_wsS RL 47 yL_cell wsL_cell) := goodIn_app (goodIn_of _ (by decide +kernel)) ggL_law_L_cell
set_option maxRecDepth 20000 in
theorem ggL_law_X7_setPoint : GoodIn wsL_law wsX7_setPoint := goodIn_r _ [163, 99, 12, 164, 165, 16, 140, 141, 2, 142, 166, 30, 167, 168, 129, 47, 169, 34, 170, 171, 172, 173, 174, 175, 62, 57, 176, 177, 178, 179, 151, 152, 153, 154, 110, 111, 112, 113, 58, 180, 181, 182, 183, 15, 184, 185, 186, 75, 187, 188, 189, 190, 191, 192, 193, 194, 195, 196, 197, 198, 11, 199, 200, 31, 35, 39, 201, 202, 203, 204, 205, 206, 207, 208, 43, 44, 45, 48, 209, 210, 211, 212, 213, 54, 214, 215, 216, 217, 218, 219, 38, 220, 221, 121, 66, 222, 67, 68, 69, 70, 223, 224, 225, 316, 317, 318, 319, 320, 321, 322, 323, 339, 340, 341, 342, 343, 344, 345, 346, 347, 348, 349, 350, 351, 352, 324, 325, 353, 354, 355, 356, 357, 358] (by decide +kernel) (by decide +kernel)
set_option maxRecDepth 20000 in
theorem gL_law_X7_setPoint : GoodIn wsL_law (wsV RL 51 RX7 yX7_setPoint wsX7_setPoint) := goodIn_app (goodIn_of _ (by decide +kernel)) ggL_law_X7_setPoint
set_option maxRecDepth 20000 in
theorem ggL_law_X7_set : GoodIn wsL_law wsX7_set := goodIn_r _ [229, 99, 16, 12, 140, 141, 2, 142, 230, 231, 232, 183, 15, 184, 185, 186, 75, 187, 188, 189, 190, 191, 192, 193, 194, 195, 196, 197, 198, 11, 199, 200, 31, 35, 39, 201, 30, 202, 203, 129, 204, 205, 206, 207, 208, 43, 44, 45, 47, 48, 209, 34, 210, 211, 62, 57, 212, 213, 54, 214, 215, 216, 217, 218, 58, 219, 38, 220, 221, 121, 66, 222, 67, 68, 69, 70, 233, 234, 235, 316, 317, 318, 319, 320, 321, 322, 323, 324, 325, 339, 340, 341, 342, 343, 344, 345, 346, 347, 348, 349, 350, 351, 352, 353, 354, 355, 356, 357, 358] (by decide +kernel) (by decide +kernel)
set_option maxRecDepth 20000 in
theorem gL_law_X7_set : GoodIn wsL_law (wsV RL 54 RX7 yX7_set wsX7_set) := goodIn_app (goodIn_of _ (by decide +kernel)) ggL_law_X7_set
set_option maxRecDepth 20000 in
theorem ggL_law_X7_setLoad : GoodIn wsL_law wsX7_setLoad := goodIn_r _ [239, 99, 12, 16, 140, 141, 2, 142, 240, 11, 241, 242, 39, 243, 38, 244, 245, 121, 70, 66, 246, 247, 248, 164, 183, 15, 184, 185, 186, 75, 187, 188, 189, 190, 191, 192, 193, 194, 195, 196, 197, 198, 199, 200, 31, 35, 201, 30, 202, 203, 129, 204, 205, 206, 207, 208, 43, 44, 45, 47, 48, 209, 34, 210, 211, 62, 57, 212, 213, 54, 214, 215, 216, 217, 218, 58, 219, 220, 221, 222, 67, 68, 69, 249, 250, 251, 252, 253, 254, 255, 256, 257, 258, 259, 59, 60, 61, 260, 261, 262, 263, 107, 108, 109, 264, 265, 266, 267, 268, 269, 270, 52, 53, 55, 271, 272, 273, 274, 130, 131, 132, 103, 104, 105, 106, 110, 111, 112, 113, 114, 115, 116, 117, 275, 276, 277, 278, 100, 101, 102, 316, 317, 318, 319, 320, 321, 322, 323, 353, 354, 355, 356, 357, 358, 324, 325, 339, 340, 341, 342, 343, 344, 345, 346, 347, 348, 349, 350, 351, 352] (by decide +kernel) (by decide +kernel)
set_option maxRecDepth 20000 in
theorem gL_law_X7_setLoad : GoodIn wsL_law (wsV RL 36 RX7 yX7_setLoad wsX7_setLoad) := goodIn_app (goodIn_of _ (by decide +kernel)) ggL_law_X7_setLoad
set_option maxRecDepth 20000 in
theorem ggL_law_X7_count : GoodIn wsL_law wsX7_count := goodIn_r _ [98, 12, 16, 20, 99, 100, 11, 101, 102, 35, 31, 103, 34, 104, 105, 62, 57, 106, 107, 108, 109, 110, 111, 112, 113, 58, 114, 115, 116, 117, 118, 38, 119, 120, 121, 70, 316, 317, 318, 319, 320, 321, 322, 323, 339, 340, 341, 342, 343, 344, 345, 346, 347, 348, 349, 350, 351, 352, 353, 354, 355, 356, 357, 358, 324, 325, 326, 327, 328, 329, 330, 331] (by decide +kernel) (by decide +kernel)
set_option maxRecDepth 20000 in
theorem gL_law_X7_count : GoodIn wsL_law (wsV RL 9 RX7 yX7_count wsX7_count) := goodIn_app (goodIn_of _ (by decide +kernel)) ggL_law_X7_count
set_option maxRecDepth 20000 in
theorem ggL_law_X7_curve : GoodIn wsL_law wsX7_curve := goodIn_r _ [282, 99, 12, 140, 141, 2, 142, 103, 34, 104, 105, 62, 57, 106, 107, 108, 109, 110, 111, 112, 113, 58, 114, 115, 116, 117, 316, 317, 318, 319, 320, 321, 322, 323, 339, 340, 341, 342, 343, 344, 345, 346, 347, 348, 349, 350, 351, 352] (by decide +kernel) (by decide +kernel)
set_option maxRecDepth 20000 in
theorem gL_law_X7_curve : GoodIn wsL_law (wsV RL 57 RX7 yX7_curve wsX7_curve) := goodIn_app (goodIn_of _ (by decide +kernel)) ggL_law_X7_curve
set_option maxRecDepth 20000 in
theorem ggL_law_X7_account : GoodIn wsL_law wsX7_account := goodIn_r _ [286, 12, 316, 317, 318, 319, 320, 321, 322, 323, 339, 340, 341, 342, 343, 344, 345, 346, 347, 348, 349] (by decide +kernel) (by decide +kernel)
set_option maxRecDepth 20000 in
theorem gL_law_X7_account : GoodIn wsL_law (wsV RL 32 RX7 yX7_account wsX7_account) := goodIn_app (goodIn_of _ (by decide +kernel)) ggL_law_X7_account
set_option maxRecDepth 20000 in
theorem ggL_law_L_loop : GoodIn wsL_law wsL_loop := goodIn_r _ [289, 95, 96, 97, 2, 98, 12, 16, 20, 99, 100, 11, 101, 102, 35, 31, 103, 34, 104, 105, 62, 57, 106, 107, 108, 109, 110, 111, 112, 113, 58, 114, 115, 116, 117, 118, 38, 119, 120, 121, 70, 283, 284, 285, 286, 143, 144, 145, 146, 140, 141, 142, 147, 148, 149, 150, 151, 152, 153, 154, 236, 237, 238, 239, 240, 241, 242, 39, 243, 244, 245, 66, 246, 247, 248, 164, 183, 15, 184, 185, 186, 75, 187, 188, 189, 190, 191, 192, 193, 194, 195, 196, 197, 198, 199, 200, 201, 30, 202, 203, 129, 204, 205, 206, 207, 208, 43, 44, 45, 47, 48, 209, 210, 211, 212, 213, 54, 214, 215, 216, 217, 218, 219, 220, 221, 222, 67, 68, 69, 249, 250, 251, 252, 253, 254, 255, 256, 257, 258, 259, 59, 60, 61, 260, 261, 262, 263, 264, 265, 266, 267, 268, 269, 270, 52, 53, 55, 271, 272, 273, 274, 130, 131, 132, 275, 276, 277, 278, 91, 92, 93, 94, 122, 123, 124, 125, 126, 127, 128, 133, 134, 135, 136, 137, 138, 139, 290, 291, 292, 293, 294, 295, 296, 316, 317, 318, 319, 320, 321, 322, 323, 339, 340, 341, 342, 343, 344, 345, 346, 347, 348, 349, 350, 351, 352, 353, 354, 355, 356, 357, 358, 324, 325, 326, 327, 328, 329, 330, 331] (by decide +kernel) (by decide +kernel)
set_option maxRecDepth 20000 in
theorem gL_law_L_loop : GoodIn wsL_law (va_wsS RL 60 yL_loop wsL_loop) := goodIn_app (goodIn_of _ (by decide +kernel)) ggL_law_L_loop
set_option maxRecDepth 20000 in
theorem ggL_law_X7_hours : GoodIn wsL_law wsX7_hours := goodIn_r _ [300, 99, 16, 12, 140, 141, 2, 142, 183, 15, 184, 185, 186, 75, 187, 188, 189, 190, 191, 192, 193, 194, 195, 196, 197, 198, 11, 199, 200, 31, 35, 39, 201, 30, 202, 203, 129, 204, 205, 206, 207, 208, 43, 44, 45, 47, 48, 209, 34, 210, 211, 62, 57, 212, 213, 54, 214, 215, 216, 217, 218, 58, 219, 38, 220, 221, 121, 66, 222, 67, 68, 69, 70, 301, 302, 303, 304, 305, 53, 55, 252, 253, 254, 255, 275, 276, 277, 278, 316, 317, 318, 319, 320, 321, 322, 323, 339, 340, 341, 342, 343, 344, 345, 346, 347, 348, 349, 324, 325, 350, 351, 352, 353, 354, 355, 356, 357, 358] (by decide +kernel) (by decide +kernel)
set_option maxRecDepth 20000 in
theorem gL_law_X7_hours : GoodIn wsL_law (wsV RL 64 RX7 yX7_hours wsX7_hours) := goodIn_app (goodIn_of _ (by decide +kernel)) ggL_law_X7_hours
set_option maxRecDepth 20000 in
theorem ggL_law_X7_zero : GoodIn wsL_law wsX7_zero := goodIn_r _ [309, 12, 16, 310, 11, 311, 312, 31, 246, 247, 2, 248, 99, 164, 183, 15, 184, 185, 186, 75, 187, 188, 189, 190, 191, 192, 193, 194, 195, 196, 197, 198, 199, 200, 35, 39, 201, 30, 202, 203, 129, 204, 205, 206, 207, 208, 43, 44, 45, 47, 48, 209, 34, 210, 211, 62, 57, 212, 213, 54, 214, 215, 216, 217, 218, 58, 219, 38, 220, 221, 121, 66, 222, 67, 68, 69, 70, 313, 314, 315, 268, 269, 270, 52, 53, 55, 252, 253, 254, 255, 316, 317, 318, 319, 320, 321, 322, 323, 339, 340, 341, 342, 343, 344, 345, 346, 347, 348, 349, 350, 351, 352, 324, 325, 353, 354, 355, 356, 357, 358] (by decide +kernel) (by decide +kernel)
set_option maxRecDepth 20000 in
theorem gL_law_X7_zero : GoodIn wsL_law (wsV RL 67 RX7 yX7_zero wsX7_zero) := goodIn_app (goodIn_of _ (by decide +kernel)) ggL_law_X7_zero
set_option maxRecDepth 20000 in
theorem ggL_law_X7_undo : GoodIn wsL_law wsX7_undo := goodIn_r _ [293, 16, 164, 12, 294, 15, 295, 296, 186, 191, 192, 193, 194, 75, 195, 196, 197, 198, 11, 199, 200, 31, 35, 39, 201, 30, 202, 203, 129, 204, 205, 206, 207, 208, 43, 44, 45, 47, 48, 209, 34, 210, 211, 62, 57, 212, 213, 54, 214, 215, 216, 217, 218, 58, 219, 38, 220, 221, 121, 66, 222, 67, 68, 69, 70, 316, 317, 318, 319, 320, 324, 325, 321, 322, 323, 339, 340, 341, 342, 343, 344, 345, 346, 347, 348, 349, 350, 351, 352, 353, 354, 355, 356, 357, 358] (by decide +kernel) (by decide +kernel)
set_option maxRecDepth 20000 in
theorem gL_law_X7_undo : GoodIn wsL_law (wsV RL 43 RX7 yX7_undo wsX7_undo) := goodIn_app (goodIn_of _ (by decide +kernel)) ggL_law_X7_undo
