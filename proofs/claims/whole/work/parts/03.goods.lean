set_option maxRecDepth 20000 in
theorem ggX0_init_X3_init : GoodIn wsX0_init wsX3_init := goodIn_r _ [17, 18, 2, 3, 19, 20, 21, 22, 9, 10, 23, 24, 25, 26, 27, 28, 29, 30, 31, 32, 33, 34, 35, 36, 37, 38, 47, 48, 49, 50, 51, 52, 53, 54, 55, 56, 57, 61, 62, 63] (by decide +kernel) (by decide +kernel)
set_option maxRecDepth 20000 in
theorem gX0_init_X3_init_n11 : GoodIn wsX0_init (wsX3_init) := ggX0_init_X3_init
set_option maxRecDepth 20000 in
theorem ggX0_init_X2_init : GoodIn wsX0_init wsX2_init := goodIn_r _ [26, 27, 2, 3, 28, 29, 30, 31, 32, 33, 34, 61, 62, 63] (by decide +kernel) (by decide +kernel)
set_option maxRecDepth 20000 in
theorem gX0_init_X2_init_n22 : GoodIn wsX0_init (wsX2_init) := ggX0_init_X2_init
set_option maxRecDepth 20000 in
theorem ggX0_init_X2_append : GoodIn wsX0_init wsX2_append := goodIn_r _ [37, 38, 33, 34, 61, 62, 63] (by decide +kernel) (by decide +kernel)
set_option maxRecDepth 20000 in
theorem gX0_init_X2_append_n27 : GoodIn wsX0_init (wsX2_append) := ggX0_init_X2_append
set_option maxRecDepth 20000 in
theorem ggX0_init_X6_init : GoodIn wsX0_init wsX6_init := goodIn_r _ [40, 41, 2, 3, 32, 42, 43, 44, 45, 46, 64, 65, 66, 67, 68, 69] (by decide +kernel) (by decide +kernel)
set_option maxRecDepth 20000 in
theorem gX0_init_X6_init_n33 : GoodIn wsX0_init (wsX6_init) := ggX0_init_X6_init
set_option maxRecDepth 20000 in
theorem ggX0_copyFrom_X3_copyFrom : GoodIn wsX0_copyFrom wsX3_copyFrom := goodIn_r _ [7, 8, 9, 10, 11, 12, 13, 14, 15, 16, 17, 18, 19, 20, 21, 22, 23, 24, 25, 26, 27, 28, 29, 30, 31, 32, 33, 48, 49, 50, 51, 52, 53, 54, 55, 56, 57, 58, 59, 60, 61] (by decide +kernel) (by decide +kernel)
set_option maxRecDepth 20000 in
theorem gX0_copyFrom_X3_copyFrom_n38 : GoodIn wsX0_copyFrom (wsX3_copyFrom) := ggX0_copyFrom_X3_copyFrom
set_option maxRecDepth 20000 in
theorem ggX0_copyFrom_X2_copyFrom : GoodIn wsX0_copyFrom wsX2_copyFrom := goodIn_r _ [22, 23, 24, 25, 26, 27, 28, 29, 30, 31, 32, 33, 59, 60, 61] (by decide +kernel) (by decide +kernel)
set_option maxRecDepth 20000 in
theorem gX0_copyFrom_X2_copyFrom_n42 : GoodIn wsX0_copyFrom (wsX2_copyFrom) := ggX0_copyFrom_X2_copyFrom
set_option maxRecDepth 20000 in
theorem ggX0_copyFrom_X6_copyFrom : GoodIn wsX0_copyFrom wsX6_copyFrom := goodIn_r _ [37, 38, 39, 40, 30, 31, 32, 41, 42, 43, 44, 62, 63, 64, 65, 66, 67] (by decide +kernel) (by decide +kernel)
set_option maxRecDepth 20000 in
theorem gX0_copyFrom_X6_copyFrom_n45 : GoodIn wsX0_copyFrom (wsX6_copyFrom) := ggX0_copyFrom_X6_copyFrom
set_option maxRecDepth 20000 in
theorem ggX0_reading_X2_valueAt : GoodIn wsX0_reading wsX2_valueAt := goodIn_r _ [6, 7, 8, 9, 10, 11, 4, 12, 13, 14, 15, 16, 17, 18, 19, 20, 21, 36, 37, 38] (by decide +kernel) (by decide +kernel)
set_option maxRecDepth 20000 in
theorem gX0_reading_X2_valueAt_n52 : GoodIn wsX0_reading (wsX2_valueAt) := ggX0_reading_X2_valueAt
set_option maxRecDepth 20000 in
theorem ggX0_refusalOfLoad_X6_massOnPan : GoodIn wsX0_refusalOfLoad wsX6_massOnPan := goodIn_r _ [5, 6, 7, 8, 12, 13, 14, 15, 16, 17] (by decide +kernel) (by decide +kernel)
set_option maxRecDepth 20000 in
theorem gX0_refusalOfLoad_X6_massOnPan_n56 : GoodIn wsX0_refusalOfLoad (wsX6_massOnPan) := ggX0_refusalOfLoad_X6_massOnPan
set_option maxRecDepth 20000 in
theorem ggX0_refusalOfPut_X6_has : GoodIn wsX0_refusalOfPut wsX6_has := goodIn_r _ [6, 7, 31, 32, 33, 34, 35, 36] (by decide +kernel) (by decide +kernel)
set_option maxRecDepth 20000 in
theorem gX0_refusalOfPut_X6_has_n60 : GoodIn wsX0_refusalOfPut (wsX6_has) := ggX0_refusalOfPut_X6_has
set_option maxRecDepth 20000 in
theorem ggX0_refusalOfPut_X6_isOnPan : GoodIn wsX0_refusalOfPut wsX6_isOnPan := goodIn_r _ [10, 11, 12, 3, 5, 4, 6, 7, 31, 32, 33, 34, 35, 36] (by decide +kernel) (by decide +kernel)
set_option maxRecDepth 20000 in
theorem gX0_refusalOfPut_X6_isOnPan_n64 : GoodIn wsX0_refusalOfPut (wsX6_isOnPan) := ggX0_refusalOfPut_X6_isOnPan
set_option maxRecDepth 20000 in
theorem ggX0_refusalOfPut_X6_mass : GoodIn wsX0_refusalOfPut wsX6_mass := goodIn_r _ [15, 16, 12, 3, 5, 4, 6, 7, 31, 32, 33, 34, 35, 36] (by decide +kernel) (by decide +kernel)
set_option maxRecDepth 20000 in
theorem gX0_refusalOfPut_X6_mass_n70 : GoodIn wsX0_refusalOfPut (wsX6_mass) := ggX0_refusalOfPut_X6_mass
set_option maxRecDepth 20000 in
theorem ggX0_refusalOfTake_X6_has : GoodIn wsX0_refusalOfTake wsX6_has := goodIn_r _ [5, 6, 15, 16, 17, 18, 19, 20] (by decide +kernel) (by decide +kernel)
set_option maxRecDepth 20000 in
theorem gX0_refusalOfTake_X6_has_n60 : GoodIn wsX0_refusalOfTake (wsX6_has) := ggX0_refusalOfTake_X6_has
set_option maxRecDepth 20000 in
theorem ggX0_refusalOfTake_X6_isOnPan : GoodIn wsX0_refusalOfTake wsX6_isOnPan := goodIn_r _ [9, 10, 11, 2, 4, 3, 5, 6, 15, 16, 17, 18, 19, 20] (by decide +kernel) (by decide +kernel)
set_option maxRecDepth 20000 in
theorem gX0_refusalOfTake_X6_isOnPan_n64 : GoodIn wsX0_refusalOfTake (wsX6_isOnPan) := ggX0_refusalOfTake_X6_isOnPan
set_option maxRecDepth 20000 in
theorem ggX0_refusalOf_X0_refusalOfPut : GoodIn wsX0_refusalOf wsX0_refusalOfPut := goodIn_r _ [5, 6, 7, 8, 9, 10, 11, 12, 13, 14, 15, 16, 17, 18, 19, 20, 21, 37, 38, 39, 40, 41, 42, 43, 44, 45, 46, 47, 48, 49, 50, 51, 52, 53, 54, 55, 56] (by decide +kernel) (by decide +kernel)
set_option maxRecDepth 20000 in
theorem gX0_refusalOf_X0_refusalOfPut : GoodIn wsX0_refusalOf (wsV RX0 74 RX0 yX0_refusalOfPut wsX0_refusalOfPut) := goodIn_app (goodIn_of _ (by decide +kernel)) ggX0_refusalOf_X0_refusalOfPut
set_option maxRecDepth 20000 in
theorem ggX0_refusalOf_X0_refusalOfTake : GoodIn wsX0_refusalOf wsX0_refusalOfTake := goodIn_r _ [25, 6, 8, 9, 10, 11, 12, 13, 14, 15, 16, 17, 37, 38, 39, 51, 52, 53, 54, 55, 56] (by decide +kernel) (by decide +kernel)
set_option maxRecDepth 20000 in
theorem gX0_refusalOf_X0_refusalOfTake : GoodIn wsX0_refusalOf (wsV RX0 77 RX0 yX0_refusalOfTake wsX0_refusalOfTake) := goodIn_app (goodIn_of _ (by decide +kernel)) ggX0_refusalOf_X0_refusalOfTake
set_option maxRecDepth 20000 in
theorem ggX0_refusalOf_X0_refusalOfLoad : GoodIn wsX0_refusalOf wsX0_refusalOfLoad := goodIn_r _ [29, 6, 30, 9, 31, 32, 12, 16, 21, 37, 38, 39, 51, 52, 53, 54, 55, 56] (by decide +kernel) (by decide +kernel)
set_option maxRecDepth 20000 in
theorem gX0_refusalOf_X0_refusalOfLoad : GoodIn wsX0_refusalOf (wsV RX0 80 RX0 yX0_refusalOfLoad wsX0_refusalOfLoad) := goodIn_app (goodIn_of _ (by decide +kernel)) ggX0_refusalOf_X0_refusalOfLoad
set_option maxRecDepth 20000 in
theorem ggX0_refusalOf_X0_refusalOfZero : GoodIn wsX0_refusalOf wsX0_refusalOfZero := goodIn_r _ [36, 7, 37, 38, 39, 40, 41, 42, 43, 44, 45, 46, 47, 48, 49, 50] (by decide +kernel) (by decide +kernel)
set_option maxRecDepth 20000 in
theorem gX0_refusalOf_X0_refusalOfZero : GoodIn wsX0_refusalOf (wsV RX0 83 RX0 yX0_refusalOfZero wsX0_refusalOfZero) := goodIn_app (goodIn_of _ (by decide +kernel)) ggX0_refusalOf_X0_refusalOfZero
set_option maxRecDepth 20000 in
theorem ggX0_carryOut_X0_putOn : GoodIn wsX0_carryOut wsX0_putOn := goodIn_r _ [6, 7, 1, 8, 9, 10, 11, 12, 13, 14, 15, 16, 17, 18, 19, 20, 21, 22, 23, 24, 25, 26, 27, 28, 29, 30, 31, 32, 33, 34, 35, 36, 37, 38, 39, 40, 41, 42, 43, 44, 45, 46, 47, 48, 49, 50, 51, 52, 53, 54, 55, 56, 57, 58, 59, 60, 61, 62, 63, 64, 65, 66, 67, 68, 69, 70, 71, 72, 73, 74, 75, 76, 77, 78, 79, 80, 81, 82, 83, 84, 85, 86, 87, 88, 89, 90, 91, 92, 93, 108, 109, 110, 111, 112, 113, 114, 115, 116, 117, 118, 119, 120, 121, 122, 123, 124, 125, 126, 127, 128, 129, 130] (by decide +kernel) (by decide +kernel)
set_option maxRecDepth 20000 in
theorem gX0_carryOut_X0_putOn : GoodIn wsX0_carryOut (wsV RX0 86 RX0 yX0_putOn wsX0_putOn) := goodIn_app (goodIn_of _ (by decide +kernel)) ggX0_carryOut_X0_putOn
set_option maxRecDepth 20000 in
theorem ggX0_carryOut_X0_takeOff : GoodIn wsX0_carryOut wsX0_takeOff := goodIn_r _ [97, 7, 1, 8, 9, 10, 11, 12, 13, 14, 15, 16, 17, 18, 19, 20, 21, 22, 23, 24, 25, 26, 27, 28, 29, 30, 31, 32, 33, 34, 35, 36, 37, 38, 39, 40, 41, 42, 43, 44, 45, 46, 47, 48, 49, 50, 51, 52, 53, 54, 55, 56, 57, 58, 59, 60, 61, 62, 63, 64, 65, 66, 67, 68, 69, 70, 71, 72, 73, 74, 75, 76, 77, 78, 79, 80, 81, 82, 83, 84, 85, 86, 87, 88, 89, 90, 91, 92, 93, 108, 109, 110, 111, 112, 113, 114, 115, 116, 117, 118, 119, 120, 121, 122, 123, 124, 125, 126, 127, 128, 129, 130] (by decide +kernel) (by decide +kernel)
set_option maxRecDepth 20000 in
theorem gX0_carryOut_X0_takeOff : GoodIn wsX0_carryOut (wsV RX0 89 RX0 yX0_takeOff wsX0_takeOff) := goodIn_app (goodIn_of _ (by decide +kernel)) ggX0_carryOut_X0_takeOff
set_option maxRecDepth 20000 in
theorem ggX0_carryOut_X3_changeLoad : GoodIn wsX0_carryOut wsX3_changeLoad := goodIn_r _ [25, 26, 27, 28, 29, 30, 31, 23, 32, 33, 34, 35, 36, 37, 38, 39, 40, 41, 42, 43, 44, 45, 46, 47, 48, 49, 50, 51, 52, 53, 54, 55, 56, 57, 58, 59, 60, 61, 62, 63, 64, 65, 66, 67, 68, 69, 70, 71, 72, 73, 74, 75, 76, 77, 78, 79, 80, 81, 82, 83, 84, 85, 86, 87, 88, 89, 90, 91, 92, 93, 111, 112, 113, 114, 115, 116, 117, 118, 119, 120, 121, 128, 129, 130] (by decide +kernel) (by decide +kernel)
set_option maxRecDepth 20000 in
theorem gX0_carryOut_X3_changeLoad_n92 : GoodIn wsX0_carryOut (wsX3_changeLoad) := ggX0_carryOut_X3_changeLoad
set_option maxRecDepth 20000 in
theorem ggX0_carryOut_X3_passHours : GoodIn wsX0_carryOut wsX3_passHours := goodIn_r _ [100, 26, 101, 33, 102, 103, 62, 63, 64, 104, 66, 67, 29, 30, 31, 23, 32, 28, 88, 89, 90, 91, 92, 93, 111, 112, 113, 114, 115, 116, 117, 118, 119, 120, 121] (by decide +kernel) (by decide +kernel)
set_option maxRecDepth 20000 in
theorem gX0_carryOut_X3_passHours_n95 : GoodIn wsX0_carryOut (wsX3_passHours) := ggX0_carryOut_X3_passHours
set_option maxRecDepth 20000 in
theorem ggX0_carryOut_X3_rest : GoodIn wsX0_carryOut wsX3_rest := goodIn_r _ [107, 39, 38, 28, 33, 27, 92, 58, 41, 59, 60, 44, 61, 62, 63, 64, 65, 66, 67, 29, 30, 31, 23, 32, 111, 112, 113, 114, 115, 116, 117, 118, 119, 120, 121, 128, 129, 130] (by decide +kernel) (by decide +kernel)
set_option maxRecDepth 20000 in
theorem gX0_carryOut_X3_rest_n98 : GoodIn wsX0_carryOut (wsX3_rest) := ggX0_carryOut_X3_rest
set_option maxRecDepth 20000 in
theorem ggX0_putOn_X6_lay : GoodIn wsX0_putOn wsX6_lay := goodIn_r _ [6, 7, 8, 9, 10, 4, 11, 12, 103, 104, 105, 106, 107, 108] (by decide +kernel) (by decide +kernel)
set_option maxRecDepth 20000 in
theorem gX0_putOn_X6_lay_n101 : GoodIn wsX0_putOn (wsX6_lay) := ggX0_putOn_X6_lay
set_option maxRecDepth 20000 in
theorem ggX0_putOn_X6_mass : GoodIn wsX0_putOn wsX6_mass := goodIn_r _ [15, 16, 8, 9, 10, 4, 11, 12, 103, 104, 105, 106, 107, 108] (by decide +kernel) (by decide +kernel)
set_option maxRecDepth 20000 in
theorem gX0_putOn_X6_mass_n70 : GoodIn wsX0_putOn (wsX6_mass) := ggX0_putOn_X6_mass
set_option maxRecDepth 20000 in
theorem ggX0_putOn_X3_changeLoad : GoodIn wsX0_putOn wsX3_changeLoad := goodIn_r _ [20, 21, 22, 23, 24, 25, 26, 18, 27, 28, 29, 30, 31, 32, 33, 34, 35, 36, 37, 38, 39, 40, 41, 42, 43, 44, 45, 46, 47, 48, 49, 50, 51, 52, 53, 54, 55, 56, 57, 58, 59, 60, 61, 62, 63, 64, 65, 66, 67, 68, 69, 70, 71, 72, 73, 74, 75, 76, 77, 78, 79, 80, 81, 82, 83, 84, 85, 86, 87, 88, 92, 93, 94, 95, 96, 97, 98, 99, 100, 101, 102, 109, 110, 111] (by decide +kernel) (by decide +kernel)
set_option maxRecDepth 20000 in
theorem gX0_putOn_X3_changeLoad_n92 : GoodIn wsX0_putOn (wsX3_changeLoad) := ggX0_putOn_X3_changeLoad
set_option maxRecDepth 20000 in
theorem ggX0_takeOff_X6_lay : GoodIn wsX0_takeOff wsX6_lay := goodIn_r _ [6, 7, 8, 9, 10, 4, 11, 12, 103, 104, 105, 106, 107, 108] (by decide +kernel) (by decide +kernel)
set_option maxRecDepth 20000 in
theorem gX0_takeOff_X6_lay_n101 : GoodIn wsX0_takeOff (wsX6_lay) := ggX0_takeOff_X6_lay
set_option maxRecDepth 20000 in
theorem ggX0_takeOff_X6_mass : GoodIn wsX0_takeOff wsX6_mass := goodIn_r _ [15, 16, 8, 9, 10, 4, 11, 12, 103, 104, 105, 106, 107, 108] (by decide +kernel) (by decide +kernel)
set_option maxRecDepth 20000 in
theorem gX0_takeOff_X6_mass_n70 : GoodIn wsX0_takeOff (wsX6_mass) := ggX0_takeOff_X6_mass
set_option maxRecDepth 20000 in
theorem ggX0_takeOff_X3_changeLoad : GoodIn wsX0_takeOff wsX3_changeLoad := goodIn_r _ [20, 21, 22, 23, 24, 25, 26, 18, 27, 28, 29, 30, 31, 32, 33, 34, 35, 36, 37, 38, 39, 40, 41, 42, 43, 44, 45, 46, 47, 48, 49, 50, 51, 52, 53, 54, 55, 56, 57, 58, 59, 60, 61, 62, 63, 64, 65, 66, 67, 68, 69, 70, 71, 72, 73, 74, 75, 76, 77, 78, 79, 80, 81, 82, 83, 84, 85, 86, 87, 88, 92, 93, 94, 95, 96, 97, 98, 99, 100, 101, 102, 109, 110, 111] (by decide +kernel) (by decide +kernel)
set_option maxRecDepth 20000 in
theorem gX0_takeOff_X3_changeLoad_n92 : GoodIn wsX0_takeOff (wsX3_changeLoad) := ggX0_takeOff_X3_changeLoad
set_option maxRecDepth 20000 in
theorem ggX1_init_X0_init : GoodIn wsX1_init wsX0_init := goodIn_r _ [9, 10, 2, 3, 11, 12, 13, 14, 15, 16, 17, 18, 19, 20, 21, 22, 23, 24, 25, 26, 27, 28, 29, 30, 31, 32, 33, 34, 35, 36, 37, 38, 39, 40, 41, 42, 43, 44, 45, 46, 47, 48, 49, 50, 51, 52, 53, 59, 60, 61, 62, 63, 64, 65, 66, 67, 68, 69, 56, 57, 58, 70, 71, 72, 73, 74, 75, 76, 77, 78] (by decide +kernel) (by decide +kernel)
set_option maxRecDepth 20000 in
theorem gX1_init_X0_init_n17 : GoodIn wsX1_init (wsX0_init) := ggX1_init_X0_init
set_option maxRecDepth 20000 in
theorem ggX1_record_X1_moveOldestToEnd : GoodIn wsX1_record wsX1_moveOldestToEnd := goodIn_r _ [7, 2, 8, 9, 10, 6, 11, 63, 64] (by decide +kernel) (by decide +kernel)
set_option maxRecDepth 20000 in
theorem gX1_record_X1_moveOldestToEnd : GoodIn wsX1_record (wsV RX1 22 RX1 yX1_moveOldestToEnd wsX1_moveOldestToEnd) := goodIn_app (goodIn_of _ (by decide +kernel)) ggX1_record_X1_moveOldestToEnd
set_option maxRecDepth 20000 in
theorem ggX1_record_X1_benchAt : GoodIn wsX1_record wsX1_benchAt := goodIn_r _ [11, 2, 63, 64] (by decide +kernel) (by decide +kernel)
set_option maxRecDepth 20000 in
theorem gX1_record_X1_benchAt : GoodIn wsX1_record (wsV RX1 25 RX1 yX1_benchAt wsX1_benchAt) := goodIn_app (goodIn_of _ (by decide +kernel)) ggX1_record_X1_benchAt
set_option maxRecDepth 20000 in
theorem ggX1_record_X1_copy : GoodIn wsX1_record wsX1_copy := goodIn_r _ [14, 15, 16, 17, 18, 19, 20, 21, 22, 23, 24, 25, 26, 27, 28, 29, 30, 31, 32, 33, 34, 35, 36, 37, 38, 39, 40, 41, 42, 43, 44, 45, 46, 47, 48, 49, 50, 51, 52, 53, 54, 55, 56, 57, 58, 59, 60, 61, 62, 65, 66, 67, 68, 69, 70, 71, 72, 73, 74, 75, 76, 77, 78, 79, 80, 81, 82, 83, 84, 85, 86, 87] (by decide +kernel) (by decide +kernel)
set_option maxRecDepth 20000 in
theorem gX1_record_X1_copy : GoodIn wsX1_record (va_wsS RX1 29 yX1_copy wsX1_copy) := goodIn_app (goodIn_of _ (by decide +kernel)) ggX1_record_X1_copy
set_option maxRecDepth 20000 in
theorem ggX1_restore_X1_benchAt : GoodIn wsX1_restore wsX1_benchAt := goodIn_r _ [6, 7, 59, 60] (by decide +kernel) (by decide +kernel)
set_option maxRecDepth 20000 in
theorem gX1_restore_X1_benchAt : GoodIn wsX1_restore (wsV RX1 25 RX1 yX1_benchAt wsX1_benchAt) := goodIn_app (goodIn_of _ (by decide +kernel)) ggX1_restore_X1_benchAt
set_option maxRecDepth 20000 in
theorem ggX1_restore_X1_copy : GoodIn wsX1_restore wsX1_copy := goodIn_r _ [10, 11, 12, 13, 14, 15, 16, 17, 18, 19, 20, 21, 22, 23, 24, 25, 26, 27, 28, 29, 30, 31, 32, 33, 34, 35, 36, 37, 38, 39, 40, 41, 42, 43, 44, 45, 46, 47, 48, 49, 50, 51, 52, 53, 54, 55, 56, 57, 58, 61, 62, 63, 64, 65, 66, 67, 68, 69, 70, 71, 72, 73, 74, 75, 76, 77, 78, 79, 80, 81, 82, 83] (by decide +kernel) (by decide +kernel)
set_option maxRecDepth 20000 in
theorem gX1_restore_X1_copy : GoodIn wsX1_restore (va_wsS RX1 29 yX1_copy wsX1_copy) := goodIn_app (goodIn_of _ (by decide +kernel)) ggX1_restore_X1_copy
set_option maxRecDepth 20000 in
theorem ggX1_moveOldestToEnd_X1_benchAt : GoodIn wsX1_moveOldestToEnd wsX1_benchAt := goodIn_r _ [6, 1, 7, 8] (by decide +kernel) (by decide +kernel)
set_option maxRecDepth 20000 in
theorem gX1_moveOldestToEnd_X1_benchAt : GoodIn wsX1_moveOldestToEnd (wsV RX1 25 RX1 yX1_benchAt wsX1_benchAt) := goodIn_app (goodIn_of _ (by decide +kernel)) ggX1_moveOldestToEnd_X1_benchAt
set_option maxRecDepth 20000 in
theorem ggX1_copy_X0_copyFrom : GoodIn wsX1_copy wsX0_copyFrom := goodIn_r _ [4, 5, 6, 7, 8, 9, 10, 11, 12, 13, 14, 15, 16, 17, 18, 19, 20, 21, 22, 23, 24, 25, 26, 27, 28, 29, 30, 31, 32, 33, 34, 35, 36, 37, 38, 39, 40, 41, 42, 43, 44, 45, 46, 47, 48, 49, 50, 51, 52, 53, 54, 55, 56, 57, 58, 59, 60, 61, 62, 63, 64, 65, 66, 67, 68, 69, 70, 71] (by decide +kernel) (by decide +kernel)
set_option maxRecDepth 20000 in
theorem gX1_copy_X0_copyFrom_n33 : GoodIn wsX1_copy (wsX0_copyFrom) := ggX1_copy_X0_copyFrom
set_option maxRecDepth 20000 in
theorem ggX2_found_X2_has : GoodIn wsX2_found wsX2_has := goodIn_r _ [8, 9, 10, 11, 12] (by decide +kernel) (by decide +kernel)
set_option maxRecDepth 20000 in
theorem gX2_found_X2_has : GoodIn wsX2_found (wsV RX2 37 RX2 yX2_has wsX2_has) := goodIn_app (goodIn_of _ (by decide +kernel)) ggX2_found_X2_has
set_option maxRecDepth 20000 in
theorem ggX2_removeAt_X2_has : GoodIn wsX2_removeAt wsX2_has := goodIn_r _ [12, 1, 13, 14, 15] (by decide +kernel) (by decide +kernel)
set_option maxRecDepth 20000 in
theorem gX2_removeAt_X2_has : GoodIn wsX2_removeAt (wsV RX2 37 RX2 yX2_has wsX2_has) := goodIn_app (goodIn_of _ (by decide +kernel)) ggX2_removeAt_X2_has
set_option maxRecDepth 20000 in
theorem ggX2_holds_X2_slotOf : GoodIn wsX2_holds wsX2_slotOf := goodIn_r _ [6, 7, 1, 12, 13, 14] (by decide +kernel) (by decide +kernel)
set_option maxRecDepth 20000 in
theorem gX2_holds_X2_slotOf : GoodIn wsX2_holds (wsV RX2 42 RX2 yX2_slotOf wsX2_slotOf) := goodIn_app (goodIn_of _ (by decide +kernel)) ggX2_holds_X2_slotOf
set_option maxRecDepth 20000 in
theorem ggX2_holds_X2_has : GoodIn wsX2_holds wsX2_has := goodIn_r _ [11, 7, 12, 13, 14] (by decide +kernel) (by decide +kernel)
set_option maxRecDepth 20000 in
theorem gX2_holds_X2_has : GoodIn wsX2_holds (wsV RX2 37 RX2 yX2_has wsX2_has) := goodIn_app (goodIn_of _ (by decide +kernel)) ggX2_holds_X2_has
set_option maxRecDepth 20000 in
theorem ggX2_hasRoomFor_X2_holds : GoodIn wsX2_hasRoomFor wsX2_holds := goodIn_r _ [7, 2, 8, 9, 10, 6, 11, 1, 12, 13, 14, 15, 16, 17, 18] (by decide +kernel) (by decide +kernel)
set_option maxRecDepth 20000 in
theorem gX2_hasRoomFor_X2_holds : GoodIn wsX2_hasRoomFor (wsV RX2 46 RX2 yX2_holds wsX2_holds) := goodIn_app (goodIn_of _ (by decide +kernel)) ggX2_hasRoomFor_X2_holds
set_option maxRecDepth 20000 in
theorem ggX2_staysRising_X2_slotOf : GoodIn wsX2_staysRising wsX2_slotOf := goodIn_r _ [5, 6, 7, 21, 22, 23] (by decide +kernel) (by decide +kernel)
set_option maxRecDepth 20000 in
theorem gX2_staysRising_X2_slotOf : GoodIn wsX2_staysRising (wsV RX2 42 RX2 yX2_slotOf wsX2_slotOf) := goodIn_app (goodIn_of _ (by decide +kernel)) ggX2_staysRising_X2_slotOf
set_option maxRecDepth 20000 in
theorem ggX2_staysRising_X2_holds : GoodIn wsX2_staysRising wsX2_holds := goodIn_r _ [11, 7, 1, 2, 3, 4, 5, 6, 12, 13, 14, 15, 21, 22, 23] (by decide +kernel) (by decide +kernel)
set_option maxRecDepth 20000 in
theorem gX2_staysRising_X2_holds : GoodIn wsX2_staysRising (wsV RX2 46 RX2 yX2_holds wsX2_holds) := goodIn_app (goodIn_of _ (by decide +kernel)) ggX2_staysRising_X2_holds
set_option maxRecDepth 20000 in
theorem ggX2_staysRising_X2_has : GoodIn wsX2_staysRising wsX2_has := goodIn_r _ [15, 6, 21, 22, 23] (by decide +kernel) (by decide +kernel)
set_option maxRecDepth 20000 in
theorem gX2_staysRising_X2_has : GoodIn wsX2_staysRising (wsV RX2 37 RX2 yX2_has wsX2_has) := goodIn_app (goodIn_of _ (by decide +kernel)) ggX2_staysRising_X2_has
set_option maxRecDepth 20000 in
theorem ggX2_staysRising_X2_second : GoodIn wsX2_staysRising wsX2_second := goodIn_r _ [19, 6, 20, 21, 22, 23] (by decide +kernel) (by decide +kernel)
set_option maxRecDepth 20000 in
theorem gX2_staysRising_X2_second : GoodIn wsX2_staysRising (wsV RX2 49 RX2 yX2_second wsX2_second) := goodIn_app (goodIn_of _ (by decide +kernel)) ggX2_staysRising_X2_second
set_option maxRecDepth 20000 in
theorem ggX2_lay_X2_slotOf : GoodIn wsX2_lay wsX2_slotOf := goodIn_r _ [12, 2, 3, 21, 22, 23] (by decide +kernel) (by decide +kernel)
set_option maxRecDepth 20000 in
theorem gX2_lay_X2_slotOf : GoodIn wsX2_lay (wsV RX2 42 RX2 yX2_slotOf wsX2_slotOf) := goodIn_app (goodIn_of _ (by decide +kernel)) ggX2_lay_X2_slotOf
set_option maxRecDepth 20000 in
theorem ggX2_lay_X2_holds : GoodIn wsX2_lay wsX2_holds := goodIn_r _ [16, 3, 8, 9, 10, 11, 12, 2, 17, 18, 19, 20, 21, 22, 23] (by decide +kernel) (by decide +kernel)
set_option maxRecDepth 20000 in
theorem gX2_lay_X2_holds : GoodIn wsX2_lay (wsV RX2 46 RX2 yX2_holds wsX2_holds) := goodIn_app (goodIn_of _ (by decide +kernel)) ggX2_lay_X2_holds
set_option maxRecDepth 20000 in
theorem ggX2_valueAt_X2_first : GoodIn wsX2_valueAt wsX2_first := goodIn_r _ [7, 1, 2, 17, 18, 19] (by decide +kernel) (by decide +kernel)
set_option maxRecDepth 20000 in
theorem gX2_valueAt_X2_first : GoodIn wsX2_valueAt (wsV RX2 52 RX2 yX2_first wsX2_first) := goodIn_app (goodIn_of _ (by decide +kernel)) ggX2_valueAt_X2_first
set_option maxRecDepth 20000 in
theorem ggX2_valueAt_X2_second : GoodIn wsX2_valueAt wsX2_second := goodIn_r _ [11, 1, 12, 17, 18, 19] (by decide +kernel) (by decide +kernel)
set_option maxRecDepth 20000 in
theorem gX2_valueAt_X2_second : GoodIn wsX2_valueAt (wsV RX2 49 RX2 yX2_second wsX2_second) := goodIn_app (goodIn_of _ (by decide +kernel)) ggX2_valueAt_X2_second
set_option maxRecDepth 20000 in
theorem ggX2_valueAt_X2_between : GoodIn wsX2_valueAt wsX2_between := goodIn_r _ [16, 1, 2, 12, 17, 18, 19] (by decide +kernel) (by decide +kernel)
set_option maxRecDepth 20000 in
theorem gX2_valueAt_X2_between : GoodIn wsX2_valueAt (wsV RX2 55 RX2 yX2_between wsX2_between) := goodIn_app (goodIn_of _ (by decide +kernel)) ggX2_valueAt_X2_between
set_option maxRecDepth 20000 in
theorem ggX2_slopeAfter_X2_first : GoodIn wsX2_slopeAfter wsX2_first := goodIn_r _ [5, 6, 7, 13, 14, 15] (by decide +kernel) (by decide +kernel)
set_option maxRecDepth 20000 in
theorem gX2_slopeAfter_X2_first : GoodIn wsX2_slopeAfter (wsV RX2 52 RX2 yX2_first wsX2_first) := goodIn_app (goodIn_of _ (by decide +kernel)) ggX2_slopeAfter_X2_first
set_option maxRecDepth 20000 in
theorem ggX2_slopeAfter_X2_second : GoodIn wsX2_slopeAfter wsX2_second := goodIn_r _ [11, 6, 12, 13, 14, 15] (by decide +kernel) (by decide +kernel)
set_option maxRecDepth 20000 in
theorem gX2_slopeAfter_X2_second : GoodIn wsX2_slopeAfter (wsV RX2 49 RX2 yX2_second wsX2_second) := goodIn_app (goodIn_of _ (by decide +kernel)) ggX2_slopeAfter_X2_second
set_option maxRecDepth 20000 in
theorem ggX3_init_X2_init : GoodIn wsX3_init wsX2_init := goodIn_r _ [13, 14, 2, 3, 15, 16, 17, 18, 19, 20, 21, 37, 38, 39] (by decide +kernel) (by decide +kernel)
set_option maxRecDepth 20000 in
theorem gX3_init_X2_init_n23 : GoodIn wsX3_init (wsX2_init) := ggX3_init_X2_init
set_option maxRecDepth 20000 in
theorem ggX3_init_X2_append : GoodIn wsX3_init wsX2_append := goodIn_r _ [24, 25, 20, 21, 37, 38, 39] (by decide +kernel) (by decide +kernel)
set_option maxRecDepth 20000 in
theorem gX3_init_X2_append_n33 : GoodIn wsX3_init (wsX2_append) := ggX3_init_X2_append
set_option maxRecDepth 20000 in
theorem ggX3_copyFrom_X2_copyFrom : GoodIn wsX3_copyFrom wsX2_copyFrom := goodIn_r _ [15, 16, 17, 18, 19, 20, 21, 22, 23, 24, 25, 26, 38, 39, 40] (by decide +kernel) (by decide +kernel)
set_option maxRecDepth 20000 in
theorem gX3_copyFrom_X2_copyFrom_n56 : GoodIn wsX3_copyFrom (wsX2_copyFrom) := ggX3_copyFrom_X2_copyFrom
set_option maxRecDepth 20000 in
theorem ggX3_becomeUnloaded_X2_copyFrom : GoodIn wsX3_becomeUnloaded wsX2_copyFrom := goodIn_r _ [7, 8, 9, 10, 11, 12, 13, 14, 15, 16, 17, 18, 51, 52, 53] (by decide +kernel) (by decide +kernel)
set_option maxRecDepth 20000 in
theorem gX3_becomeUnloaded_X2_copyFrom_n56 : GoodIn wsX3_becomeUnloaded (wsX2_copyFrom) := ggX3_becomeUnloaded_X2_copyFrom
set_option maxRecDepth 20000 in
theorem ggX3_becomeUnloaded_X3_rest : GoodIn wsX3_becomeUnloaded wsX3_rest := goodIn_r _ [23, 24, 25, 26, 27, 28, 29, 30, 5, 31, 32, 8, 10, 11, 12, 13, 33, 34, 35, 36, 37, 38, 22, 39, 40, 41, 42, 43, 44, 45, 46, 47, 48, 49, 50, 51, 52, 53] (by decide +kernel) (by decide +kernel)
set_option maxRecDepth 20000 in
theorem gX3_becomeUnloaded_X3_rest : GoodIn wsX3_becomeUnloaded (wsV RX3 60 RX3 yX3_rest wsX3_rest) := goodIn_app (goodIn_of _ (by decide +kernel)) ggX3_becomeUnloaded_X3_rest
set_option maxRecDepth 20000 in
theorem ggX3_rest_X2_shrinkTo : GoodIn wsX3_rest wsX2_shrinkTo := goodIn_r _ [10, 11, 12, 13, 14, 15, 16, 17, 18, 35, 36, 37] (by decide +kernel) (by decide +kernel)
set_option maxRecDepth 20000 in
theorem gX3_rest_X2_shrinkTo_n63 : GoodIn wsX3_rest (wsX2_shrinkTo) := ggX3_rest_X2_shrinkTo
set_option maxRecDepth 20000 in
theorem ggX3_rest_X3_reach : GoodIn wsX3_rest wsX3_reach := goodIn_r _ [23, 3, 4, 24, 25, 26, 27, 28, 29, 30, 31, 32, 33, 34] (by decide +kernel) (by decide +kernel)
set_option maxRecDepth 20000 in
theorem gX3_rest_X3_reach : GoodIn wsX3_rest (wsV RX3 66 RX3 yX3_reach wsX3_reach) := goodIn_app (goodIn_of _ (by decide +kernel)) ggX3_rest_X3_reach
set_option maxRecDepth 20000 in
theorem ggX3_changeLoad_X3_reach : GoodIn wsX3_changeLoad wsX3_reach := goodIn_r _ [8, 3, 9, 70, 71, 72, 73, 74, 75, 76, 77, 78, 79, 80] (by decide +kernel) (by decide +kernel)
set_option maxRecDepth 20000 in
theorem gX3_changeLoad_X3_reach : GoodIn wsX3_changeLoad (wsV RX3 66 RX3 yX3_reach wsX3_reach) := goodIn_app (goodIn_of _ (by decide +kernel)) ggX3_changeLoad_X3_reach
set_option maxRecDepth 20000 in
theorem ggX3_changeLoad_X3_turnTo : GoodIn wsX3_changeLoad wsX3_turnTo := goodIn_r _ [13, 14, 15, 1, 3, 16, 17, 18, 19, 20, 21, 22, 70, 71, 72, 73, 74, 75, 76, 77, 78, 79, 80, 81, 82, 83] (by decide +kernel) (by decide +kernel)
set_option maxRecDepth 20000 in
theorem gX3_changeLoad_X3_turnTo : GoodIn wsX3_changeLoad (wsV RX3 73 RX3 yX3_turnTo wsX3_turnTo) := goodIn_app (goodIn_of _ (by decide +kernel)) ggX3_changeLoad_X3_turnTo
set_option maxRecDepth 20000 in
theorem ggX3_changeLoad_X3_forgetPassedTurns : GoodIn wsX3_changeLoad wsX3_forgetPassedTurns := goodIn_r _ [26, 15, 27, 17, 28, 29, 20, 21, 30, 31, 32, 7, 33, 14, 34, 35, 36, 37, 38, 39, 40, 41, 42, 43, 70, 71, 72, 73, 74, 75, 76, 77, 78, 79, 80, 81, 82, 83] (by decide +kernel) (by decide +kernel)
set_option maxRecDepth 20000 in
theorem gX3_changeLoad_X3_forgetPassedTurns : GoodIn wsX3_changeLoad (wsV RX3 76 RX3 yX3_forgetPassedTurns wsX3_forgetPassedTurns) := goodIn_app (goodIn_of _ (by decide +kernel)) ggX3_changeLoad_X3_forgetPassedTurns
set_option maxRecDepth 20000 in
theorem ggX3_changeLoad_X3_extensionBehindTurns : GoodIn wsX3_changeLoad wsX3_extensionBehindTurns := goodIn_r _ [47, 15, 48, 14, 49, 50, 39, 51, 52, 17, 53, 54, 20, 21, 55, 27, 28, 29, 56, 57, 58, 59, 22, 60, 61, 62, 63, 70, 71, 72, 73, 74, 75, 76, 77, 78, 79, 80, 81, 82, 83] (by decide +kernel) (by decide +kernel)
set_option maxRecDepth 20000 in
theorem gX3_changeLoad_X3_extensionBehindTurns : GoodIn wsX3_changeLoad (wsV RX3 79 RX3 yX3_extensionBehindTurns wsX3_extensionBehindTurns) := goodIn_app (goodIn_of _ (by decide +kernel)) ggX3_changeLoad_X3_extensionBehindTurns
set_option maxRecDepth 20000 in
theorem ggX3_changeLoad_X3_dragPointer : GoodIn wsX3_changeLoad wsX3_dragPointer := goodIn_r _ [67, 68, 69, 4, 5, 6, 7, 8, 3, 9, 70, 71, 72, 73, 74, 75, 76, 77, 78, 79, 80] (by decide +kernel) (by decide +kernel)
set_option maxRecDepth 20000 in
theorem gX3_changeLoad_X3_dragPointer : GoodIn wsX3_changeLoad (wsV RX3 83 RX3 yX3_dragPointer wsX3_dragPointer) := goodIn_app (goodIn_of _ (by decide +kernel)) ggX3_changeLoad_X3_dragPointer
set_option maxRecDepth 20000 in
theorem ggX3_turnTo_X2_append : GoodIn wsX3_turnTo wsX2_append := goodIn_r _ [8, 9, 10, 11, 23, 24, 25] (by decide +kernel) (by decide +kernel)
set_option maxRecDepth 20000 in
theorem gX3_turnTo_X2_append_n33 : GoodIn wsX3_turnTo (wsX2_append) := ggX3_turnTo_X2_append
set_option maxRecDepth 20000 in
theorem ggX3_forgetPassedTurns_X2_first : GoodIn wsX3_forgetPassedTurns wsX2_first := goodIn_r _ [5, 6, 7, 35, 36, 37] (by decide +kernel) (by decide +kernel)
set_option maxRecDepth 20000 in
theorem gX3_forgetPassedTurns_X2_first_n86 : GoodIn wsX3_forgetPassedTurns (wsX2_first) := ggX3_forgetPassedTurns_X2_first
set_option maxRecDepth 20000 in
theorem ggX3_forgetPassedTurns_X3_isReached : GoodIn wsX3_forgetPassedTurns wsX3_isReached := goodIn_r _ [12, 13, 24, 25, 26, 27, 28, 29, 30, 31, 32, 33, 34] (by decide +kernel) (by decide +kernel)
set_option maxRecDepth 20000 in
theorem gX3_forgetPassedTurns_X3_isReached : GoodIn wsX3_forgetPassedTurns (wsV RX3 89 RX3 yX3_isReached wsX3_isReached) := goodIn_app (goodIn_of _ (by decide +kernel)) ggX3_forgetPassedTurns_X3_isReached
set_option maxRecDepth 20000 in
theorem ggX3_forgetPassedTurns_X2_shrinkTo : GoodIn wsX3_forgetPassedTurns wsX2_shrinkTo := goodIn_r _ [16, 6, 17, 18, 19, 20, 21, 22, 23, 35, 36, 37] (by decide +kernel) (by decide +kernel)
set_option maxRecDepth 20000 in
theorem gX3_forgetPassedTurns_X2_shrinkTo_n63 : GoodIn wsX3_forgetPassedTurns (wsX2_shrinkTo) := ggX3_forgetPassedTurns_X2_shrinkTo
set_option maxRecDepth 20000 in
theorem ggX3_extensionBehindTurns_X2_valueAt : GoodIn wsX3_extensionBehindTurns wsX2_valueAt := goodIn_r _ [11, 12, 13, 14, 15, 16, 9, 17, 18, 19, 20, 21, 22, 23, 24, 25, 26, 38, 39, 40] (by decide +kernel) (by decide +kernel)
set_option maxRecDepth 20000 in
theorem gX3_extensionBehindTurns_X2_valueAt_n93 : GoodIn wsX3_extensionBehindTurns (wsX2_valueAt) := ggX3_extensionBehindTurns_X2_valueAt
set_option maxRecDepth 20000 in
theorem ggX3_extensionBehindTurns_X2_first : GoodIn wsX3_extensionBehindTurns wsX2_first := goodIn_r _ [17, 12, 13, 38, 39, 40] (by decide +kernel) (by decide +kernel)
set_option maxRecDepth 20000 in
theorem gX3_extensionBehindTurns_X2_first_n86 : GoodIn wsX3_extensionBehindTurns (wsX2_first) := ggX3_extensionBehindTurns_X2_first
set_option maxRecDepth 20000 in
theorem ggX3_extensionBehindTurns_X2_second : GoodIn wsX3_extensionBehindTurns wsX2_second := goodIn_r _ [21, 12, 22, 38, 39, 40] (by decide +kernel) (by decide +kernel)
set_option maxRecDepth 20000 in
theorem gX3_extensionBehindTurns_X2_second_n97 : GoodIn wsX3_extensionBehindTurns (wsX2_second) := ggX3_extensionBehindTurns_X2_second
set_option maxRecDepth 20000 in
theorem ggX3_extensionFromTurns_X2_valueAt : GoodIn wsX3_extensionFromTurns wsX2_valueAt := goodIn_r _ [11, 12, 13, 14, 15, 16, 9, 17, 18, 19, 20, 21, 22, 23, 24, 25, 26, 38, 39, 40] (by decide +kernel) (by decide +kernel)
set_option maxRecDepth 20000 in
theorem gX3_extensionFromTurns_X2_valueAt_n93 : GoodIn wsX3_extensionFromTurns (wsX2_valueAt) := ggX3_extensionFromTurns_X2_valueAt
set_option maxRecDepth 20000 in
theorem ggX3_extensionFromTurns_X2_first : GoodIn wsX3_extensionFromTurns wsX2_first := goodIn_r _ [17, 12, 13, 38, 39, 40] (by decide +kernel) (by decide +kernel)
set_option maxRecDepth 20000 in
theorem gX3_extensionFromTurns_X2_first_n86 : GoodIn wsX3_extensionFromTurns (wsX2_first) := ggX3_extensionFromTurns_X2_first
set_option maxRecDepth 20000 in
theorem ggX3_passHours_X3_reach : GoodIn wsX3_passHours wsX3_reach := goodIn_r _ [16, 17, 3, 24, 25, 26, 27, 28, 29, 30, 31, 32, 33, 34] (by decide +kernel) (by decide +kernel)
set_option maxRecDepth 20000 in
theorem gX3_passHours_X3_reach : GoodIn wsX3_passHours (wsV RX3 66 RX3 yX3_reach wsX3_reach) := goodIn_app (goodIn_of _ (by decide +kernel)) ggX3_passHours_X3_reach
set_option maxRecDepth 20000 in
theorem ggX3_passHours_X3_dragPointer : GoodIn wsX3_passHours wsX3_dragPointer := goodIn_r _ [21, 22, 23, 12, 13, 14, 15, 16, 17, 3, 24, 25, 26, 27, 28, 29, 30, 31, 32, 33, 34] (by decide +kernel) (by decide +kernel)
set_option maxRecDepth 20000 in
theorem gX3_passHours_X3_dragPointer : GoodIn wsX3_passHours (wsV RX3 83 RX3 yX3_dragPointer wsX3_dragPointer) := goodIn_app (goodIn_of _ (by decide +kernel)) ggX3_passHours_X3_dragPointer
set_option maxRecDepth 20000 in
theorem ggX3_dragPointer_X3_reach : GoodIn wsX3_dragPointer wsX3_reach := goodIn_r _ [7, 8, 9, 10, 11, 12, 13, 14, 15, 16, 17, 18, 19, 20] (by decide +kernel) (by decide +kernel)
set_option maxRecDepth 20000 in
theorem gX3_dragPointer_X3_reach : GoodIn wsX3_dragPointer (wsV RX3 66 RX3 yX3_reach wsX3_reach) := goodIn_app (goodIn_of _ (by decide +kernel)) ggX3_dragPointer_X3_reach
set_option maxRecDepth 20000 in
theorem ggX4_positionOfFault_X4_readMove : GoodIn wsX4_positionOfFault wsX4_readMove := goodIn_r _ [7, 8, 9, 10, 11, 12, 13, 6, 14, 1, 15, 16, 17, 18, 19, 20, 21, 22, 23, 24, 25, 26, 2, 27, 28, 29, 30, 31, 32, 33, 34, 35] (by decide +kernel) (by decide +kernel)
set_option maxRecDepth 20000 in
theorem gX4_positionOfFault_X4_readMove : GoodIn wsX4_positionOfFault (wsV RX4 19 RX4 yX4_readMove wsX4_readMove) := goodIn_app (goodIn_of _ (by decide +kernel)) ggX4_positionOfFault_X4_readMove
set_option maxRecDepth 20000 in
theorem ggX4_readMove_X4_signAt : GoodIn wsX4_readMove wsX4_signAt := goodIn_r _ [8, 9, 10, 26, 27, 28, 29, 30, 31] (by decide +kernel) (by decide +kernel)
set_option maxRecDepth 20000 in
theorem gX4_readMove_X4_signAt : GoodIn wsX4_readMove (wsV RX4 26 RX4 yX4_signAt wsX4_signAt) := goodIn_app (goodIn_of _ (by decide +kernel)) ggX4_readMove_X4_signAt
set_option maxRecDepth 20000 in
theorem ggX4_readMove_X4_readNumber : GoodIn wsX4_readMove wsX4_readNumber := goodIn_r _ [14, 3, 2, 4, 5, 6, 7, 8, 9, 10, 15, 16, 17, 26, 27, 28, 29, 30, 31] (by decide +kernel) (by decide +kernel)
set_option maxRecDepth 20000 in
theorem gX4_readMove_X4_readNumber : GoodIn wsX4_readMove (wsV RX4 34 RX4 yX4_readNumber wsX4_readNumber) := goodIn_app (goodIn_of _ (by decide +kernel)) ggX4_readMove_X4_readNumber
set_option maxRecDepth 20000 in
theorem ggX4_readMove_X4_stepBehind : GoodIn wsX4_readMove wsX4_stepBehind := goodIn_r _ [21, 9, 22, 4, 5, 6, 7, 8, 10, 26, 27, 28, 29, 30, 31] (by decide +kernel) (by decide +kernel)
set_option maxRecDepth 20000 in
theorem gX4_readMove_X4_stepBehind : GoodIn wsX4_readMove (wsV RX4 41 RX4 yX4_stepBehind wsX4_stepBehind) := goodIn_app (goodIn_of _ (by decide +kernel)) ggX4_readMove_X4_stepBehind
set_option maxRecDepth 20000 in
theorem ggX4_readMove_X7_isOutside : GoodIn wsX4_readMove wsX7_isOutside := goodIn_r _ [25] (by decide +kernel) (by decide +kernel)
set_option maxRecDepth 20000 in
theorem gX4_readMove_X7_isOutside_n47 : GoodIn wsX4_readMove (wsX7_isOutside) := ggX4_readMove_X7_isOutside
set_option maxRecDepth 20000 in
theorem ggX4_readNumber_X4_signAt : GoodIn wsX4_readNumber wsX4_signAt := goodIn_r _ [7, 8, 9, 13, 14, 15, 16, 17, 18] (by decide +kernel) (by decide +kernel)
set_option maxRecDepth 20000 in
theorem gX4_readNumber_X4_signAt : GoodIn wsX4_readNumber (wsV RX4 26 RX4 yX4_signAt wsX4_signAt) := goodIn_app (goodIn_of _ (by decide +kernel)) ggX4_readNumber_X4_signAt
set_option maxRecDepth 20000 in
theorem ggX4_readNumber_X4_isDigit : GoodIn wsX4_readNumber wsX4_isDigit := goodIn_r _ [12] (by decide +kernel) (by decide +kernel)
set_option maxRecDepth 20000 in
theorem gX4_readNumber_X4_isDigit : GoodIn wsX4_readNumber (va_wsS RX4 51 yX4_isDigit wsX4_isDigit) := goodIn_app (goodIn_of _ (by decide +kernel)) ggX4_readNumber_X4_isDigit
set_option maxRecDepth 20000 in
theorem ggX4_stepBehind_X4_signAt : GoodIn wsX4_stepBehind wsX4_signAt := goodIn_r _ [7, 1, 8, 9, 10, 11, 12, 13, 14] (by decide +kernel) (by decide +kernel)
set_option maxRecDepth 20000 in
theorem gX4_stepBehind_X4_signAt : GoodIn wsX4_stepBehind (wsV RX4 26 RX4 yX4_signAt wsX4_signAt) := goodIn_app (goodIn_of _ (by decide +kernel)) ggX4_stepBehind_X4_signAt
set_option maxRecDepth 20000 in
theorem ggX5_init_X3_init : GoodIn wsX5_init wsX3_init := goodIn_r _ [17, 18, 2, 3, 19, 20, 21, 22, 9, 10, 23, 24, 25, 26, 27, 28, 29, 30, 31, 12, 32, 33, 34, 35, 36, 37, 38, 39, 40, 41, 42, 43, 44, 45, 46, 47, 48, 56, 57, 58] (by decide +kernel) (by decide +kernel)
set_option maxRecDepth 20000 in
theorem gX5_init_X3_init_n11 : GoodIn wsX5_init (wsX3_init) := ggX5_init_X3_init
set_option maxRecDepth 20000 in
theorem ggX5_init_X2_init : GoodIn wsX5_init wsX2_init := goodIn_r _ [26, 27, 2, 3, 28, 29, 30, 31, 12, 32, 33, 56, 57, 58] (by decide +kernel) (by decide +kernel)
set_option maxRecDepth 20000 in
theorem gX5_init_X2_init_n22 : GoodIn wsX5_init (wsX2_init) := ggX5_init_X2_init
set_option maxRecDepth 20000 in
theorem ggX5_run_X3_becomeUnloaded : GoodIn wsX5_run wsX3_becomeUnloaded := goodIn_r _ [5, 6, 7, 8, 9, 10, 11, 12, 13, 14, 15, 16, 17, 18, 19, 20, 21, 22, 23, 24, 25, 26, 3, 27, 28, 29, 30, 31, 32, 33, 34, 35, 36, 37, 38, 39, 40, 41, 42, 43, 146, 147, 148, 149, 150, 151, 152, 153, 154, 155, 156, 157, 158, 159] (by decide +kernel) (by decide +kernel)
set_option maxRecDepth 20000 in
theorem gX5_run_X3_becomeUnloaded_n40 : GoodIn wsX5_run (wsX3_becomeUnloaded) := ggX5_run_X3_becomeUnloaded
set_option maxRecDepth 20000 in
theorem ggX5_run_X5_putAllOn : GoodIn wsX5_run wsX5_putAllOn := goodIn_r _ [48, 49, 50, 51, 1, 52, 53, 54, 55, 56, 57, 58, 59, 60, 61, 62, 63, 64, 65, 3, 66, 67, 6, 32, 30, 40, 41, 42, 43, 31, 68, 69, 70, 71, 29, 28, 72, 10, 73, 74, 13, 14, 23, 75, 76, 77, 78, 79, 80, 81, 82, 83, 84, 85, 34, 35, 36, 15, 16, 17, 18, 37, 38, 39, 86, 87, 88, 89, 8, 90, 91, 92, 93, 94, 95, 96, 97, 98, 99, 100, 101, 102, 103, 104, 105, 106, 107, 108, 33, 7, 109, 110, 111, 112, 113, 114, 115, 116, 117, 118, 119, 120, 121, 136, 137, 138, 139, 140, 141, 142, 146, 147, 148, 149, 150, 151, 152, 153, 154, 155, 156, 160, 161, 162, 163, 164, 165, 157, 158, 159] (by decide +kernel) (by decide +kernel)
set_option maxRecDepth 20000 in
theorem gX5_run_X5_putAllOn : GoodIn wsX5_run (wsV RX5 48 RX5 yX5_putAllOn wsX5_putAllOn) := goodIn_app (goodIn_of _ (by decide +kernel)) ggX5_run_X5_putAllOn
set_option maxRecDepth 20000 in
theorem ggX5_run_X5_takeAllOff : GoodIn wsX5_run wsX5_takeAllOff := goodIn_r _ [125, 49, 126, 1, 53, 54, 55, 56, 57, 58, 59, 60, 61, 62, 63, 64, 65, 3, 66, 67, 6, 32, 30, 40, 41, 42, 43, 31, 68, 69, 70, 71, 29, 28, 72, 10, 73, 74, 13, 14, 23, 75, 76, 77, 78, 79, 80, 81, 82, 83, 84, 85, 34, 35, 36, 15, 16, 17, 18, 37, 38, 39, 86, 87, 88, 89, 8, 90, 91, 92, 93, 94, 95, 96, 97, 98, 99, 100, 101, 102, 103, 104, 105, 106, 107, 108, 33, 7, 136, 137, 138, 139, 140, 141, 142, 146, 147, 148, 149, 150, 151, 152, 153, 154, 155, 156, 160, 161, 162, 163, 164, 165, 157, 158, 159] (by decide +kernel) (by decide +kernel)
set_option maxRecDepth 20000 in
theorem gX5_run_X5_takeAllOff : GoodIn wsX5_run (wsV RX5 52 RX5 yX5_takeAllOff wsX5_takeAllOff) := goodIn_app (goodIn_of _ (by decide +kernel)) ggX5_run_X5_takeAllOff
set_option maxRecDepth 20000 in
theorem ggX5_run_X5_layBreaks : GoodIn wsX5_run wsX5_layBreaks := goodIn_r _ [130, 131, 49, 51, 126, 52, 34, 10, 35, 36, 13, 15, 16, 17, 18, 37, 38, 39, 132, 133, 134, 135, 72, 73, 74, 14, 23, 136, 137, 138, 139, 140, 141, 142, 157, 158, 159] (by decide +kernel) (by decide +kernel)
set_option maxRecDepth 20000 in
theorem gX5_run_X5_layBreaks : GoodIn wsX5_run (wsV RX5 55 RX5 yX5_layBreaks wsX5_layBreaks) := goodIn_app (goodIn_of _ (by decide +kernel)) ggX5_run_X5_layBreaks
set_option maxRecDepth 20000 in
theorem ggX5_putAllOn_X6_isInSet : GoodIn wsX5_putAllOn wsX6_isInSet := goodIn_r _ [8] (by decide +kernel) (by decide +kernel)
set_option maxRecDepth 20000 in
theorem gX5_putAllOn_X6_isInSet_n73 : GoodIn wsX5_putAllOn (wsX6_isInSet) := ggX5_putAllOn_X6_isInSet
set_option maxRecDepth 20000 in
theorem ggX5_putAllOn_X6_mass : GoodIn wsX5_putAllOn wsX6_mass := goodIn_r _ [11, 12, 13, 14, 15, 7, 16, 17, 121, 122, 123, 124, 125, 126] (by decide +kernel) (by decide +kernel)
set_option maxRecDepth 20000 in
theorem gX5_putAllOn_X6_mass_n80 : GoodIn wsX5_putAllOn (wsX6_mass) := ggX5_putAllOn_X6_mass
set_option maxRecDepth 20000 in
theorem ggX5_putAllOn_X3_changeLoad : GoodIn wsX5_putAllOn wsX3_changeLoad := goodIn_r _ [21, 22, 23, 24, 25, 26, 27, 19, 28, 29, 30, 31, 32, 33, 34, 35, 36, 37, 38, 39, 40, 41, 42, 43, 44, 45, 46, 47, 48, 49, 50, 51, 52, 53, 54, 55, 56, 57, 58, 59, 60, 61, 62, 63, 64, 65, 66, 67, 68, 69, 70, 71, 72, 73, 74, 75, 76, 77, 78, 79, 80, 81, 82, 83, 84, 85, 86, 87, 88, 89, 110, 111, 112, 113, 114, 115, 116, 117, 118, 119, 120, 127, 128, 129] (by decide +kernel) (by decide +kernel)
set_option maxRecDepth 20000 in
theorem gX5_putAllOn_X3_changeLoad_n84 : GoodIn wsX5_putAllOn (wsX3_changeLoad) := ggX5_putAllOn_X3_changeLoad
set_option maxRecDepth 20000 in
theorem ggX5_putAllOn_X6_totalVariance : GoodIn wsX5_putAllOn wsX6_totalVariance := goodIn_r _ [92, 93, 94, 95, 96, 7, 97, 98, 13, 14, 15, 16, 17, 121, 122, 123, 124, 125, 126] (by decide +kernel) (by decide +kernel)
set_option maxRecDepth 20000 in
theorem gX5_putAllOn_X6_totalVariance_n87 : GoodIn wsX5_putAllOn (wsX6_totalVariance) := ggX5_putAllOn_X6_totalVariance
set_option maxRecDepth 20000 in
theorem ggX5_putAllOn_X6_told : GoodIn wsX5_putAllOn wsX6_told := goodIn_r _ [101, 12, 102, 13, 14, 15, 7, 16, 17, 121, 122, 123, 124, 125, 126] (by decide +kernel) (by decide +kernel)
set_option maxRecDepth 20000 in
theorem gX5_putAllOn_X6_told_n90 : GoodIn wsX5_putAllOn (wsX6_told) := ggX5_putAllOn_X6_told
set_option maxRecDepth 20000 in
theorem ggX5_takeAllOff_X6_isInSet : GoodIn wsX5_takeAllOff wsX6_isInSet := goodIn_r _ [6] (by decide +kernel) (by decide +kernel)
set_option maxRecDepth 20000 in
theorem gX5_takeAllOff_X6_isInSet_n73 : GoodIn wsX5_takeAllOff (wsX6_isInSet) := ggX5_takeAllOff_X6_isInSet
set_option maxRecDepth 20000 in
theorem ggX5_takeAllOff_X6_mass : GoodIn wsX5_takeAllOff wsX6_mass := goodIn_r _ [9, 10, 11, 12, 13, 5, 14, 15, 106, 107, 108, 109, 110, 111] (by decide +kernel) (by decide +kernel)
set_option maxRecDepth 20000 in
theorem gX5_takeAllOff_X6_mass_n80 : GoodIn wsX5_takeAllOff (wsX6_mass) := ggX5_takeAllOff_X6_mass
set_option maxRecDepth 20000 in
theorem ggX5_takeAllOff_X3_changeLoad : GoodIn wsX5_takeAllOff wsX3_changeLoad := goodIn_r _ [19, 20, 21, 22, 23, 24, 25, 17, 26, 27, 28, 29, 30, 31, 32, 33, 34, 35, 36, 37, 38, 39, 40, 41, 42, 43, 44, 45, 46, 47, 48, 49, 50, 51, 52, 53, 54, 55, 56, 57, 58, 59, 60, 61, 62, 63, 64, 65, 66, 67, 68, 69, 70, 71, 72, 73, 74, 75, 76, 77, 78, 79, 80, 81, 82, 83, 84, 85, 86, 87, 95, 96, 97, 98, 99, 100, 101, 102, 103, 104, 105, 112, 113, 114] (by decide +kernel) (by decide +kernel)
set_option maxRecDepth 20000 in
theorem gX5_takeAllOff_X3_changeLoad_n84 : GoodIn wsX5_takeAllOff (wsX3_changeLoad) := ggX5_takeAllOff_X3_changeLoad
set_option maxRecDepth 20000 in
theorem ggX5_layBreaks_X2_shrinkTo : GoodIn wsX5_layBreaks wsX2_shrinkTo := goodIn_r _ [9, 10, 11, 12, 13, 14, 15, 16, 17, 34, 35, 36] (by decide +kernel) (by decide +kernel)
set_option maxRecDepth 20000 in
theorem gX5_layBreaks_X2_shrinkTo_n92 : GoodIn wsX5_layBreaks (wsX2_shrinkTo) := ggX5_layBreaks_X2_shrinkTo
set_option maxRecDepth 20000 in
theorem ggX5_layBreaks_J9_floorDiv_7cf53 : GoodIn wsX5_layBreaks wsJ9_floorDiv_7cf53 := goodIn_r _ [21] (by decide +kernel) (by decide +kernel)
set_option maxRecDepth 20000 in
theorem gX5_layBreaks_J9_floorDiv_7cf53 : GoodIn wsX5_layBreaks (va_wsS RX5 95 yJ9_floorDiv_7cf53 wsJ9_floorDiv_7cf53) := goodIn_app (goodIn_of _ (by decide +kernel)) ggX5_layBreaks_J9_floorDiv_7cf53
set_option maxRecDepth 20000 in
theorem ggX5_layBreaks_X2_append : GoodIn wsX5_layBreaks wsX2_append := goodIn_r _ [24, 10, 25, 26, 34, 35, 36] (by decide +kernel) (by decide +kernel)
set_option maxRecDepth 20000 in
theorem gX5_layBreaks_X2_append_n101 : GoodIn wsX5_layBreaks (wsX2_append) := ggX5_layBreaks_X2_append
set_option maxRecDepth 20000 in
theorem ggX5_isScale_X2_first : GoodIn wsX5_isScale wsX2_first := goodIn_r _ [5, 6, 7, 22, 23, 24] (by decide +kernel) (by decide +kernel)
set_option maxRecDepth 20000 in
theorem gX5_isScale_X2_first_n109 : GoodIn wsX5_isScale (wsX2_first) := ggX5_isScale_X2_first
set_option maxRecDepth 20000 in
theorem ggX5_isScale_X7_isOutside : GoodIn wsX5_isScale wsX7_isOutside := goodIn_r _ [10] (by decide +kernel) (by decide +kernel)
set_option maxRecDepth 20000 in
theorem gX5_isScale_X7_isOutside_n112 : GoodIn wsX5_isScale (wsX7_isOutside) := ggX5_isScale_X7_isOutside
set_option maxRecDepth 20000 in
theorem ggX5_isScale_X2_second : GoodIn wsX5_isScale wsX2_second := goodIn_r _ [13, 6, 14, 22, 23, 24] (by decide +kernel) (by decide +kernel)
set_option maxRecDepth 20000 in
theorem gX5_isScale_X2_second_n116 : GoodIn wsX5_isScale (wsX2_second) := ggX5_isScale_X2_second
set_option maxRecDepth 20000 in
theorem ggX5_property_X5_placeIn : GoodIn wsX5_property wsX5_placeIn := goodIn_r _ [8, 9, 10, 37, 38, 39, 40, 41, 42, 43] (by decide +kernel) (by decide +kernel)
set_option maxRecDepth 20000 in
theorem gX5_property_X5_placeIn : GoodIn wsX5_property (wsV RX5 120 RX5 yX5_placeIn wsX5_placeIn) := goodIn_app (goodIn_of _ (by decide +kernel)) ggX5_property_X5_placeIn
set_option maxRecDepth 20000 in
theorem ggX5_property_X5_width : GoodIn wsX5_property wsX5_width := goodIn_r _ [14, 3, 1, 9, 15, 16, 17, 18, 37, 38, 39, 40, 41, 42, 43] (by decide +kernel) (by decide +kernel)
set_option maxRecDepth 20000 in
theorem gX5_property_X5_width : GoodIn wsX5_property (wsV RX5 124 RX5 yX5_width wsX5_width) := goodIn_app (goodIn_of _ (by decide +kernel)) ggX5_property_X5_width
set_option maxRecDepth 20000 in
theorem ggX5_property_X5_isScale : GoodIn wsX5_property wsX5_isScale := goodIn_r _ [22, 23, 24, 25, 26, 27, 28, 29, 30, 31, 32, 33, 34, 35, 36, 37, 38, 39, 40, 41, 42, 43, 44, 45, 46] (by decide +kernel) (by decide +kernel)
set_option maxRecDepth 20000 in
theorem gX5_property_X5_isScale : GoodIn wsX5_property (wsV RX5 128 RX5 yX5_isScale wsX5_isScale) := goodIn_app (goodIn_of _ (by decide +kernel)) ggX5_property_X5_isScale
set_option maxRecDepth 20000 in
theorem ggX6_removeAt_X6_has : GoodIn wsX6_removeAt wsX6_has := goodIn_r _ [11, 6, 16, 17, 18, 19, 20, 21] (by decide +kernel) (by decide +kernel)
set_option maxRecDepth 20000 in
theorem gX6_removeAt_X6_has : GoodIn wsX6_removeAt (wsV RX6 37 RX6 yX6_has wsX6_has) := goodIn_app (goodIn_of _ (by decide +kernel)) ggX6_removeAt_X6_has
set_option maxRecDepth 20000 in
theorem ggX6_removeAt_X6_closeGap : GoodIn wsX6_removeAt wsX6_closeGap := goodIn_r _ [15, 6, 16, 17, 18, 19, 20, 21] (by decide +kernel) (by decide +kernel)
set_option maxRecDepth 20000 in
theorem gX6_removeAt_X6_closeGap : GoodIn wsX6_removeAt (wsV RX6 41 RX6 yX6_closeGap wsX6_closeGap) := goodIn_app (goodIn_of _ (by decide +kernel)) ggX6_removeAt_X6_closeGap
set_option maxRecDepth 20000 in
theorem ggX6_mass_X6_has : GoodIn wsX6_mass wsX6_has := goodIn_r _ [6, 7, 8, 9, 10, 11, 12, 13] (by decide +kernel) (by decide +kernel)
set_option maxRecDepth 20000 in
theorem gX6_mass_X6_has : GoodIn wsX6_mass (wsV RX6 37 RX6 yX6_has wsX6_has) := goodIn_app (goodIn_of _ (by decide +kernel)) ggX6_mass_X6_has
set_option maxRecDepth 20000 in
theorem ggX6_told_X6_has : GoodIn wsX6_told wsX6_has := goodIn_r _ [7, 8, 9, 10, 11, 12, 13, 14] (by decide +kernel) (by decide +kernel)
set_option maxRecDepth 20000 in
theorem gX6_told_X6_has : GoodIn wsX6_told (wsV RX6 37 RX6 yX6_has wsX6_has) := goodIn_app (goodIn_of _ (by decide +kernel)) ggX6_told_X6_has
set_option maxRecDepth 20000 in
theorem ggX6_isOnPan_X6_has : GoodIn wsX6_isOnPan wsX6_has := goodIn_r _ [6, 7, 8, 9, 10, 11, 12, 13] (by decide +kernel) (by decide +kernel)
set_option maxRecDepth 20000 in
theorem gX6_isOnPan_X6_has : GoodIn wsX6_isOnPan (wsV RX6 37 RX6 yX6_has wsX6_has) := goodIn_app (goodIn_of _ (by decide +kernel)) ggX6_isOnPan_X6_has
set_option maxRecDepth 20000 in
theorem ggX6_lay_X6_has : GoodIn wsX6_lay wsX6_has := goodIn_r _ [6, 7, 8, 9, 10, 11, 12, 13] (by decide +kernel) (by decide +kernel)
set_option maxRecDepth 20000 in
theorem gX6_lay_X6_has : GoodIn wsX6_lay (wsV RX6 37 RX6 yX6_has wsX6_has) := goodIn_app (goodIn_of _ (by decide +kernel)) ggX6_lay_X6_has
set_option maxRecDepth 20000 in
theorem ggX6_sumToStandard_X6_has : GoodIn wsX6_sumToStandard wsX6_has := goodIn_r _ [6, 7, 8, 9, 10, 11, 12, 13] (by decide +kernel) (by decide +kernel)
set_option maxRecDepth 20000 in
theorem gX6_sumToStandard_X6_has : GoodIn wsX6_sumToStandard (wsV RX6 37 RX6 yX6_has wsX6_has) := goodIn_app (goodIn_of _ (by decide +kernel)) ggX6_sumToStandard_X6_has
set_option maxRecDepth 20000 in
theorem ggX6_totalVariance_X6_sumToStandard : GoodIn wsX6_totalVariance wsX6_sumToStandard := goodIn_r _ [6, 7, 8, 9, 10, 5, 11, 12, 13, 14, 15, 16, 17, 18] (by decide +kernel) (by decide +kernel)
set_option maxRecDepth 20000 in
theorem gX6_totalVariance_X6_sumToStandard : GoodIn wsX6_totalVariance (wsV RX6 45 RX6 yX6_sumToStandard wsX6_sumToStandard) := goodIn_app (goodIn_of _ (by decide +kernel)) ggX6_totalVariance_X6_sumToStandard
set_option maxRecDepth 20000 in
theorem ggX6_depth_X6_has : GoodIn wsX6_depth wsX6_has := goodIn_r _ [6, 7, 8, 9, 10, 11, 12, 13] (by decide +kernel) (by decide +kernel)
set_option maxRecDepth 20000 in
theorem gX6_depth_X6_has : GoodIn wsX6_depth (wsV RX6 37 RX6 yX6_has wsX6_has) := goodIn_app (goodIn_of _ (by decide +kernel)) ggX6_depth_X6_has
set_option maxRecDepth 20000 in
theorem ggX6_isTracedTo_X6_has : GoodIn wsX6_isTracedTo wsX6_has := goodIn_r _ [6, 7, 8, 9, 10, 11, 12, 13] (by decide +kernel) (by decide +kernel)
set_option maxRecDepth 20000 in
theorem gX6_isTracedTo_X6_has : GoodIn wsX6_isTracedTo (wsV RX6 37 RX6 yX6_has wsX6_has) := goodIn_app (goodIn_of _ (by decide +kernel)) ggX6_isTracedTo_X6_has
set_option maxRecDepth 20000 in
theorem ggX6_numberTracedTo_X6_isTracedTo : GoodIn wsX6_numberTracedTo wsX6_isTracedTo := goodIn_r _ [6, 7, 8, 9, 10, 5, 11, 1, 12, 13, 14, 15, 16, 17] (by decide +kernel) (by decide +kernel)
set_option maxRecDepth 20000 in
theorem gX6_numberTracedTo_X6_isTracedTo : GoodIn wsX6_numberTracedTo (wsV RX6 49 RX6 yX6_isTracedTo wsX6_isTracedTo) := goodIn_app (goodIn_of _ (by decide +kernel)) ggX6_numberTracedTo_X6_isTracedTo
set_option maxRecDepth 20000 in
theorem ggX6_property_X6_has : GoodIn wsX6_property wsX6_has := goodIn_r _ [11, 12, 33, 34, 35, 36, 37, 38] (by decide +kernel) (by decide +kernel)
set_option maxRecDepth 20000 in
theorem gX6_property_X6_has : GoodIn wsX6_property (wsV RX6 37 RX6 yX6_has wsX6_has) := goodIn_app (goodIn_of _ (by decide +kernel)) ggX6_property_X6_has
set_option maxRecDepth 20000 in
theorem ggX6_property_X6_sumToStandard : GoodIn wsX6_property wsX6_sumToStandard := goodIn_r _ [16, 5, 7, 8, 9, 10, 11, 12, 33, 34, 35, 36, 37, 38] (by decide +kernel) (by decide +kernel)
set_option maxRecDepth 20000 in
theorem gX6_property_X6_sumToStandard : GoodIn wsX6_property (wsV RX6 45 RX6 yX6_sumToStandard wsX6_sumToStandard) := goodIn_app (goodIn_of _ (by decide +kernel)) ggX6_property_X6_sumToStandard
set_option maxRecDepth 20000 in
theorem ggX6_property_X6_totalVariance : GoodIn wsX6_property wsX6_totalVariance := goodIn_r _ [20, 4, 13, 14, 15, 10, 16, 5, 7, 8, 9, 11, 12, 33, 34, 35, 36, 37, 38] (by decide +kernel) (by decide +kernel)
set_option maxRecDepth 20000 in
theorem gX6_property_X6_totalVariance : GoodIn wsX6_property (wsV RX6 54 RX6 yX6_totalVariance wsX6_totalVariance) := goodIn_app (goodIn_of _ (by decide +kernel)) ggX6_property_X6_totalVariance
set_option maxRecDepth 20000 in
theorem ggX6_property_X6_depth : GoodIn wsX6_property wsX6_depth := goodIn_r _ [24, 5, 7, 8, 9, 10, 11, 12, 33, 34, 35, 36, 37, 38] (by decide +kernel) (by decide +kernel)
set_option maxRecDepth 20000 in
theorem gX6_property_X6_depth : GoodIn wsX6_property (wsV RX6 58 RX6 yX6_depth wsX6_depth) := goodIn_app (goodIn_of _ (by decide +kernel)) ggX6_property_X6_depth
set_option maxRecDepth 20000 in
theorem ggX6_property_X6_numberTracedTo : GoodIn wsX6_property wsX6_numberTracedTo := goodIn_r _ [28, 12, 29, 30, 31, 10, 32, 5, 7, 8, 9, 11, 33, 34, 35, 36, 37, 38] (by decide +kernel) (by decide +kernel)
set_option maxRecDepth 20000 in
theorem gX6_property_X6_numberTracedTo : GoodIn wsX6_property (wsV RX6 61 RX6 yX6_numberTracedTo wsX6_numberTracedTo) := goodIn_app (goodIn_of _ (by decide +kernel)) ggX6_property_X6_numberTracedTo
set_option maxRecDepth 20000 in
theorem ggX6_errorOfSet_J6_bitCount_0f7a4 : GoodIn wsX6_errorOfSet wsJ6_bitCount_0f7a4 := goodIn_r _ [9, 10, 11, 12] (by decide +kernel) (by decide +kernel)
set_option maxRecDepth 20000 in
theorem gX6_errorOfSet_J6_bitCount_0f7a4 : GoodIn wsX6_errorOfSet (va_wsS RX6 64 yJ6_bitCount_0f7a4 wsJ6_bitCount_0f7a4) := goodIn_app (goodIn_of _ (by decide +kernel)) ggX6_errorOfSet_J6_bitCount_0f7a4
set_option maxRecDepth 20000 in
theorem ggX6_errorOfSet_X6_isInSet : GoodIn wsX6_errorOfSet wsX6_isInSet := goodIn_r _ [16] (by decide +kernel) (by decide +kernel)
set_option maxRecDepth 20000 in
theorem gX6_errorOfSet_X6_isInSet : GoodIn wsX6_errorOfSet (va_wsS RX6 69 yX6_isInSet wsX6_isInSet) := goodIn_app (goodIn_of _ (by decide +kernel)) ggX6_errorOfSet_X6_isInSet
