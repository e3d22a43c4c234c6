set_option maxRecDepth 20000 in
theorem ggX7_init_X0_init : GoodIn wsX7_init wsX0_init := goodIn_r _ [21, 22, 2, 3, 23, 24, 25, 26, 27, 28, 29, 30, 31, 32, 33, 34, 35, 36, 37, 38, 39, 40, 41, 42, 43, 44, 45, 46, 47, 48, 49, 50, 51, 52, 53, 54, 55, 56, 57, 58, 59, 60, 61, 62, 63, 64, 65, 109, 110, 111, 112, 113, 114, 115, 116, 117, 118, 119, 86, 87, 88, 120, 121, 122, 123, 124, 125, 126, 127, 128] (by decide +kernel) (by decide +kernel)
set_option maxRecDepth 20000 in
theorem gX7_init_X0_init_n11 : GoodIn wsX7_init (wsX0_init) := ggX7_init_X0_init
set_option maxRecDepth 20000 in
theorem ggX7_init_X1_init : GoodIn wsX7_init wsX1_init := goodIn_r _ [67, 68, 2, 3, 69, 70, 5, 6, 20, 21, 22, 23, 24, 25, 26, 27, 28, 29, 30, 31, 32, 33, 34, 35, 36, 37, 38, 39, 40, 41, 42, 43, 44, 45, 46, 47, 48, 49, 50, 51, 52, 53, 54, 55, 56, 57, 58, 59, 60, 61, 62, 63, 64, 65, 94, 95, 86, 87, 88, 109, 110, 111, 112, 113, 114, 115, 116, 117, 118, 119, 120, 121, 122, 123, 124, 125, 126, 127, 128] (by decide +kernel) (by decide +kernel)
set_option maxRecDepth 20000 in
theorem gX7_init_X1_init_n18 : GoodIn wsX7_init (wsX1_init) := ggX7_init_X1_init
set_option maxRecDepth 20000 in
theorem ggX7_init_X4_init : GoodIn wsX7_init wsX4_init := goodIn_r _ [72, 73, 2, 3, 74, 75, 96, 97, 98, 99, 100, 101] (by decide +kernel) (by decide +kernel)
set_option maxRecDepth 20000 in
theorem gX7_init_X4_init_n25 : GoodIn wsX7_init (wsX4_init) := ggX7_init_X4_init
set_option maxRecDepth 20000 in
theorem ggX7_init_X5_init : GoodIn wsX7_init wsX5_init := goodIn_r _ [77, 78, 2, 3, 79, 24, 25, 80, 81, 28, 29, 82, 51, 83, 84, 85, 35, 36, 37, 38, 39, 40, 41, 42, 43, 44, 45, 46, 47, 48, 49, 50, 52, 53, 54, 55, 56, 57, 109, 110, 111, 112, 113, 114, 115, 116, 117, 118, 119, 102, 103, 104, 105, 106, 107, 108, 120, 121, 122] (by decide +kernel) (by decide +kernel)
set_option maxRecDepth 20000 in
theorem gX7_init_X5_init_n32 : GoodIn wsX7_init (wsX5_init) := ggX7_init_X5_init
set_option maxRecDepth 20000 in
theorem ggX7_setLoad_X7_isOutside : GoodIn wsX7_setLoad wsX7_isOutside := goodIn_r _ [7] (by decide +kernel) (by decide +kernel)
set_option maxRecDepth 20000 in
theorem gX7_setLoad_X7_isOutside : GoodIn wsX7_setLoad (va_wsS RX7 37 yX7_isOutside wsX7_isOutside) := goodIn_app (goodIn_of _ (by decide +kernel)) ggX7_setLoad_X7_isOutside
set_option maxRecDepth 20000 in
theorem ggX7_setLoad_X0_refusalOfLoad : GoodIn wsX7_setLoad wsX0_refusalOfLoad := goodIn_r _ [11, 12, 13, 14, 15, 16, 17, 18, 19, 145, 146, 147, 148, 149, 150, 151, 152, 153] (by decide +kernel) (by decide +kernel)
set_option maxRecDepth 20000 in
theorem gX7_setLoad_X0_refusalOfLoad_n42 : GoodIn wsX7_setLoad (wsX0_refusalOfLoad) := ggX7_setLoad_X0_refusalOfLoad
set_option maxRecDepth 20000 in
theorem ggX7_setLoad_X7_errorOf : GoodIn wsX7_setLoad wsX7_errorOf := goodIn_r _ [22, 1, 23] (by decide +kernel) (by decide +kernel)
set_option maxRecDepth 20000 in
theorem gX7_setLoad_X7_errorOf : GoodIn wsX7_setLoad (va_wsS RX7 46 yX7_errorOf wsX7_errorOf) := goodIn_app (goodIn_of _ (by decide +kernel)) ggX7_setLoad_X7_errorOf
set_option maxRecDepth 20000 in
theorem ggX7_setLoad_X1_record : GoodIn wsX7_setLoad wsX1_record := goodIn_r _ [27, 28, 29, 30, 31, 32, 25, 33, 34, 35, 36, 37, 38, 39, 40, 41, 9, 42, 43, 44, 45, 12, 46, 47, 48, 49, 50, 51, 52, 53, 54, 55, 56, 57, 58, 59, 60, 61, 62, 63, 64, 65, 66, 67, 68, 69, 70, 71, 72, 73, 74, 75, 76, 14, 77, 78, 17, 19, 79, 80, 81, 82, 18, 154, 155, 145, 146, 147, 156, 157, 158, 159, 160, 161, 162, 163, 164, 165, 166, 167, 168, 169, 148, 149, 150, 151, 152, 153] (by decide +kernel) (by decide +kernel)
set_option maxRecDepth 20000 in
theorem gX7_setLoad_X1_record_n49 : GoodIn wsX7_setLoad (wsX1_record) := ggX7_setLoad_X1_record
set_option maxRecDepth 20000 in
theorem ggX7_setLoad_X3_changeLoad : GoodIn wsX7_setLoad wsX3_changeLoad := goodIn_r _ [85, 50, 55, 51, 86, 87, 88, 47, 89, 52, 90, 91, 92, 93, 54, 59, 94, 62, 95, 96, 65, 66, 75, 97, 98, 99, 100, 101, 102, 103, 104, 105, 106, 107, 108, 109, 110, 67, 68, 69, 70, 111, 112, 113, 114, 115, 116, 117, 60, 118, 119, 120, 121, 122, 123, 124, 125, 126, 127, 128, 129, 130, 131, 132, 133, 134, 135, 136, 53, 56, 156, 157, 158, 159, 160, 161, 162, 163, 164, 165, 166, 167, 168, 169] (by decide +kernel) (by decide +kernel)
set_option maxRecDepth 20000 in
theorem gX7_setLoad_X3_changeLoad_n57 : GoodIn wsX7_setLoad (wsX3_changeLoad) := ggX7_setLoad_X3_changeLoad
set_option maxRecDepth 20000 in
theorem ggX7_setLoad_X0_reading : GoodIn wsX7_setLoad wsX0_reading := goodIn_r _ [139, 45, 44, 121, 62, 122, 123, 65, 66, 124, 101, 102, 103, 125, 126, 127, 128, 75, 129, 130, 131, 132, 145, 146, 147, 156, 157, 158, 159, 160, 161, 162, 163, 164, 165, 166, 167, 168, 169] (by decide +kernel) (by decide +kernel)
set_option maxRecDepth 20000 in
theorem gX7_setLoad_X0_reading_n63 : GoodIn wsX7_setLoad (wsX0_reading) := ggX7_setLoad_X0_reading
set_option maxRecDepth 20000 in
theorem ggX7_put_X0_refusalOfPut : GoodIn wsX7_put wsX0_refusalOfPut := goodIn_r _ [6, 7, 8, 9, 10, 11, 12, 13, 14, 15, 16, 17, 18, 19, 20, 21, 22, 155, 156, 157, 158, 159, 160, 161, 162, 163, 164, 165, 166, 167, 168, 169, 170, 171, 172, 173, 174] (by decide +kernel) (by decide +kernel)
set_option maxRecDepth 20000 in
theorem gX7_put_X0_refusalOfPut_n67 : GoodIn wsX7_put (wsX0_refusalOfPut) := ggX7_put_X0_refusalOfPut
set_option maxRecDepth 20000 in
theorem ggX7_put_X7_errorOf : GoodIn wsX7_put wsX7_errorOf := goodIn_r _ [26, 27, 28] (by decide +kernel) (by decide +kernel)
set_option maxRecDepth 20000 in
theorem gX7_put_X7_errorOf : GoodIn wsX7_put (va_wsS RX7 46 yX7_errorOf wsX7_errorOf) := goodIn_app (goodIn_of _ (by decide +kernel)) ggX7_put_X7_errorOf
set_option maxRecDepth 20000 in
theorem ggX7_put_X1_record : GoodIn wsX7_put wsX1_record := goodIn_r _ [32, 33, 34, 35, 36, 37, 30, 38, 39, 40, 41, 42, 43, 44, 45, 46, 4, 47, 48, 8, 49, 7, 50, 51, 52, 53, 54, 55, 56, 57, 58, 59, 60, 61, 62, 63, 64, 65, 66, 67, 68, 69, 70, 71, 72, 73, 74, 75, 76, 77, 78, 79, 80, 10, 81, 82, 13, 22, 83, 84, 85, 86, 17, 175, 176, 155, 156, 157, 158, 159, 160, 161, 162, 163, 164, 165, 166, 167, 168, 177, 178, 179, 169, 170, 171, 172, 173, 174] (by decide +kernel) (by decide +kernel)
set_option maxRecDepth 20000 in
theorem gX7_put_X1_record_n49 : GoodIn wsX7_put (wsX1_record) := ggX7_put_X1_record
set_option maxRecDepth 20000 in
theorem ggX7_put_X0_putOn : GoodIn wsX7_put wsX0_putOn := goodIn_r _ [89, 7, 8, 90, 10, 91, 92, 17, 18, 9, 11, 12, 13, 19, 20, 21, 22, 93, 51, 94, 95, 54, 59, 55, 96, 97, 98, 99, 56, 100, 101, 102, 103, 58, 63, 104, 66, 105, 106, 69, 70, 79, 107, 108, 109, 110, 111, 112, 113, 114, 115, 116, 117, 118, 119, 120, 71, 72, 73, 74, 121, 122, 123, 124, 125, 126, 127, 64, 128, 129, 130, 131, 132, 133, 134, 135, 136, 137, 138, 139, 140, 141, 142, 143, 144, 145, 146, 57, 60, 155, 156, 157, 158, 159, 160, 161, 162, 163, 164, 165, 166, 167, 168, 169, 170, 171, 172, 173, 174, 177, 178, 179] (by decide +kernel) (by decide +kernel)
set_option maxRecDepth 20000 in
theorem gX7_put_X0_putOn_n70 : GoodIn wsX7_put (wsX0_putOn) := ggX7_put_X0_putOn
set_option maxRecDepth 20000 in
theorem ggX7_put_X0_reading : GoodIn wsX7_put wsX0_reading := goodIn_r _ [149, 49, 8, 131, 66, 132, 133, 69, 70, 134, 111, 112, 113, 135, 136, 137, 138, 79, 139, 140, 141, 142, 155, 156, 157, 158, 159, 160, 161, 162, 163, 164, 165, 166, 167, 168, 177, 178, 179] (by decide +kernel) (by decide +kernel)
set_option maxRecDepth 20000 in
theorem gX7_put_X0_reading_n63 : GoodIn wsX7_put (wsX0_reading) := ggX7_put_X0_reading
set_option maxRecDepth 20000 in
theorem ggX7_take_X0_refusalOfTake : GoodIn wsX7_take wsX0_refusalOfTake := goodIn_r _ [6, 7, 8, 9, 10, 11, 12, 13, 14, 15, 16, 17, 155, 156, 157, 158, 159, 160, 161, 162, 163] (by decide +kernel) (by decide +kernel)
set_option maxRecDepth 20000 in
theorem gX7_take_X0_refusalOfTake_n73 : GoodIn wsX7_take (wsX0_refusalOfTake) := ggX7_take_X0_refusalOfTake
set_option maxRecDepth 20000 in
theorem ggX7_take_X7_errorOf : GoodIn wsX7_take wsX7_errorOf := goodIn_r _ [21, 22, 23] (by decide +kernel) (by decide +kernel)
set_option maxRecDepth 20000 in
theorem gX7_take_X7_errorOf : GoodIn wsX7_take (va_wsS RX7 46 yX7_errorOf wsX7_errorOf) := goodIn_app (goodIn_of _ (by decide +kernel)) ggX7_take_X7_errorOf
set_option maxRecDepth 20000 in
theorem ggX7_take_X1_record : GoodIn wsX7_take wsX1_record := goodIn_r _ [27, 28, 29, 30, 31, 32, 25, 33, 34, 35, 36, 37, 38, 39, 40, 41, 4, 42, 43, 44, 45, 7, 46, 47, 48, 49, 50, 51, 52, 53, 54, 55, 56, 57, 58, 59, 60, 61, 62, 63, 64, 65, 66, 67, 68, 69, 70, 71, 72, 73, 74, 75, 76, 9, 77, 78, 12, 79, 80, 81, 82, 83, 16, 164, 165, 155, 156, 157, 166, 167, 168, 169, 170, 171, 172, 173, 174, 175, 176, 177, 178, 179, 158, 159, 160, 161, 162, 163] (by decide +kernel) (by decide +kernel)
set_option maxRecDepth 20000 in
theorem gX7_take_X1_record_n49 : GoodIn wsX7_take (wsX1_record) := ggX7_take_X1_record
set_option maxRecDepth 20000 in
theorem ggX7_take_X0_takeOff : GoodIn wsX7_take wsX0_takeOff := goodIn_r _ [86, 7, 44, 87, 9, 88, 89, 16, 17, 8, 10, 11, 12, 90, 91, 92, 79, 93, 47, 94, 95, 50, 55, 51, 96, 97, 98, 99, 52, 100, 101, 102, 103, 54, 59, 104, 62, 105, 106, 65, 66, 75, 107, 108, 109, 110, 111, 112, 113, 114, 115, 116, 117, 118, 119, 120, 67, 68, 69, 70, 121, 122, 123, 124, 125, 126, 127, 60, 128, 129, 130, 131, 132, 133, 134, 135, 136, 137, 138, 139, 140, 141, 142, 143, 144, 145, 146, 53, 56, 155, 156, 157, 166, 167, 168, 169, 170, 171, 172, 173, 174, 175, 176, 158, 159, 160, 161, 162, 163, 177, 178, 179] (by decide +kernel) (by decide +kernel)
set_option maxRecDepth 20000 in
theorem gX7_take_X0_takeOff_n76 : GoodIn wsX7_take (wsX0_takeOff) := ggX7_take_X0_takeOff
set_option maxRecDepth 20000 in
theorem ggX7_take_X0_reading : GoodIn wsX7_take wsX0_reading := goodIn_r _ [149, 45, 44, 131, 62, 132, 133, 65, 66, 134, 111, 112, 113, 135, 136, 137, 138, 75, 139, 140, 141, 142, 155, 156, 157, 166, 167, 168, 169, 170, 171, 172, 173, 174, 175, 176, 177, 178, 179] (by decide +kernel) (by decide +kernel)
set_option maxRecDepth 20000 in
theorem gX7_take_X0_reading_n63 : GoodIn wsX7_take (wsX0_reading) := ggX7_take_X0_reading
set_option maxRecDepth 20000 in
theorem ggX7_hours_X7_isOutside : GoodIn wsX7_hours wsX7_isOutside := goodIn_r _ [7] (by decide +kernel) (by decide +kernel)
set_option maxRecDepth 20000 in
theorem gX7_hours_X7_isOutside : GoodIn wsX7_hours (va_wsS RX7 37 yX7_isOutside wsX7_isOutside) := goodIn_app (goodIn_of _ (by decide +kernel)) ggX7_hours_X7_isOutside
set_option maxRecDepth 20000 in
theorem ggX7_hours_X1_record : GoodIn wsX7_hours wsX1_record := goodIn_r _ [11, 12, 13, 14, 15, 16, 9, 17, 18, 19, 20, 21, 22, 23, 24, 25, 26, 27, 28, 29, 30, 31, 32, 33, 34, 35, 36, 37, 38, 39, 40, 41, 42, 43, 44, 45, 46, 47, 48, 49, 50, 51, 52, 53, 54, 55, 56, 57, 58, 59, 60, 61, 62, 63, 64, 65, 66, 67, 68, 69, 70, 71, 72, 107, 108, 93, 94, 95, 96, 97, 98, 99, 100, 101, 102, 103, 104, 105, 106, 109, 110, 111, 112, 113, 114, 115, 116, 117] (by decide +kernel) (by decide +kernel)
set_option maxRecDepth 20000 in
theorem gX7_hours_X1_record_n49 : GoodIn wsX7_hours (wsX1_record) := ggX7_hours_X1_record
set_option maxRecDepth 20000 in
theorem ggX7_hours_X3_passHours : GoodIn wsX7_hours wsX3_passHours := goodIn_r _ [75, 36, 43, 38, 44, 76, 54, 55, 56, 77, 78, 79, 80, 81, 82, 33, 83, 37, 84, 85, 86, 87, 39, 42, 96, 97, 98, 99, 100, 101, 102, 103, 104, 105, 106] (by decide +kernel) (by decide +kernel)
set_option maxRecDepth 20000 in
theorem gX7_hours_X3_passHours_n79 : GoodIn wsX7_hours (wsX3_passHours) := ggX7_hours_X3_passHours
set_option maxRecDepth 20000 in
theorem ggX7_zero_X0_refusalOfZero : GoodIn wsX7_zero wsX0_refusalOfZero := goodIn_r _ [6, 7, 95, 96, 97, 98, 99, 100, 101, 102, 103, 104, 105, 106, 107, 108] (by decide +kernel) (by decide +kernel)
set_option maxRecDepth 20000 in
theorem gX7_zero_X0_refusalOfZero_n86 : GoodIn wsX7_zero (wsX0_refusalOfZero) := ggX7_zero_X0_refusalOfZero
set_option maxRecDepth 20000 in
theorem ggX7_zero_X7_errorOf : GoodIn wsX7_zero wsX7_errorOf := goodIn_r _ [11, 12, 13] (by decide +kernel) (by decide +kernel)
set_option maxRecDepth 20000 in
theorem gX7_zero_X7_errorOf : GoodIn wsX7_zero (va_wsS RX7 46 yX7_errorOf wsX7_errorOf) := goodIn_app (goodIn_of _ (by decide +kernel)) ggX7_zero_X7_errorOf
set_option maxRecDepth 20000 in
theorem ggX7_zero_X1_record : GoodIn wsX7_zero wsX1_record := goodIn_r _ [17, 18, 19, 20, 21, 22, 15, 23, 24, 25, 26, 27, 28, 29, 30, 31, 4, 32, 33, 7, 34, 35, 36, 37, 38, 39, 40, 41, 42, 43, 44, 45, 46, 47, 48, 49, 50, 51, 52, 53, 54, 55, 56, 57, 58, 59, 60, 61, 62, 63, 64, 65, 66, 67, 68, 69, 70, 71, 72, 73, 74, 75, 76, 112, 113, 95, 96, 97, 98, 99, 100, 101, 102, 103, 104, 105, 106, 107, 108, 109, 110, 111, 114, 115, 116, 117, 118, 119] (by decide +kernel) (by decide +kernel)
set_option maxRecDepth 20000 in
theorem gX7_zero_X1_record_n49 : GoodIn wsX7_zero (wsX1_record) := ggX7_zero_X1_record
set_option maxRecDepth 20000 in
theorem ggX7_zero_X3_rest : GoodIn wsX7_zero wsX3_rest := goodIn_r _ [79, 49, 44, 41, 42, 45, 43, 80, 52, 81, 82, 55, 57, 58, 59, 60, 83, 84, 85, 86, 87, 88, 37, 89, 98, 99, 100, 101, 102, 103, 104, 105, 106, 107, 108, 109, 110, 111] (by decide +kernel) (by decide +kernel)
set_option maxRecDepth 20000 in
theorem gX7_zero_X3_rest_n98 : GoodIn wsX7_zero (wsX3_rest) := ggX7_zero_X3_rest
set_option maxRecDepth 20000 in
theorem ggX7_undo_X1_restore : GoodIn wsX7_undo wsX1_restore := goodIn_r _ [7, 8, 9, 10, 11, 5, 12, 13, 14, 15, 16, 17, 18, 19, 20, 21, 22, 23, 24, 25, 26, 27, 28, 29, 30, 31, 32, 33, 34, 35, 36, 37, 38, 39, 40, 41, 42, 43, 44, 45, 46, 47, 48, 49, 50, 51, 52, 53, 54, 55, 56, 57, 58, 59, 60, 61, 62, 63, 64, 70, 71, 72, 73, 74, 75, 76, 77, 78, 79, 80, 81, 82, 83, 84, 85, 86, 87, 88, 89, 90, 91, 92, 93, 94] (by decide +kernel) (by decide +kernel)
set_option maxRecDepth 20000 in
theorem gX7_undo_X1_restore_n103 : GoodIn wsX7_undo (wsX1_restore) := ggX7_undo_X1_restore
set_option maxRecDepth 20000 in
theorem ggX7_count_X0_reading : GoodIn wsX7_count wsX0_reading := goodIn_r _ [8, 9, 10, 11, 12, 13, 14, 15, 16, 17, 18, 19, 20, 21, 22, 23, 24, 25, 26, 27, 28, 29, 41, 42, 43, 44, 45, 46, 47, 48, 49, 50, 51, 52, 53, 54, 55, 56, 57] (by decide +kernel) (by decide +kernel)
set_option maxRecDepth 20000 in
theorem gX7_count_X0_reading_n63 : GoodIn wsX7_count (wsX0_reading) := ggX7_count_X0_reading
set_option maxRecDepth 20000 in
theorem ggX7_count_X6_numberOnPan : GoodIn wsX7_count wsX6_numberOnPan := goodIn_r _ [33, 34, 35, 58, 59, 60, 61, 62, 63] (by decide +kernel) (by decide +kernel)
set_option maxRecDepth 20000 in
theorem gX7_count_X6_numberOnPan_n125 : GoodIn wsX7_count (wsX6_numberOnPan) := ggX7_count_X6_numberOnPan
set_option maxRecDepth 20000 in
theorem ggX7_turning_X7_isOutside : GoodIn wsX7_turning wsX7_isOutside := goodIn_r _ [6] (by decide +kernel) (by decide +kernel)
set_option maxRecDepth 20000 in
theorem gX7_turning_X7_isOutside : GoodIn wsX7_turning (va_wsS RX7 37 yX7_isOutside wsX7_isOutside) := goodIn_app (goodIn_of _ (by decide +kernel)) ggX7_turning_X7_isOutside
set_option maxRecDepth 20000 in
theorem ggX7_turning_X2_found : GoodIn wsX7_turning wsX2_found := goodIn_r _ [10, 11, 12, 13, 14, 15, 16, 8, 17, 18, 38, 39, 40] (by decide +kernel) (by decide +kernel)
set_option maxRecDepth 20000 in
theorem gX7_turning_X2_found_n146 : GoodIn wsX7_turning (wsX2_found) := ggX7_turning_X2_found
set_option maxRecDepth 20000 in
theorem ggX7_again_X3_extensionFromTurns : GoodIn wsX7_again wsX3_extensionFromTurns := goodIn_r _ [5, 6, 7, 8, 9, 10, 11, 12, 13, 14, 15, 16, 17, 18, 19, 20, 21, 22, 23, 24, 25, 26, 27, 28, 29, 30, 31, 40, 41, 42, 43, 44, 45, 46, 47, 48, 49, 50, 51, 52, 53] (by decide +kernel) (by decide +kernel)
set_option maxRecDepth 20000 in
theorem gX7_again_X3_extensionFromTurns_n154 : GoodIn wsX7_again (wsX3_extensionFromTurns) := ggX7_again_X3_extensionFromTurns
set_option maxRecDepth 20000 in
theorem ggX7_setPoint_X7_isOutside : GoodIn wsX7_setPoint wsX7_isOutside := goodIn_r _ [9] (by decide +kernel) (by decide +kernel)
set_option maxRecDepth 20000 in
theorem gX7_setPoint_X7_isOutside : GoodIn wsX7_setPoint (va_wsS RX7 37 yX7_isOutside wsX7_isOutside) := goodIn_app (goodIn_of _ (by decide +kernel)) ggX7_setPoint_X7_isOutside
set_option maxRecDepth 20000 in
theorem ggX7_setPoint_X3_isUnturnedAtZero : GoodIn wsX7_setPoint wsX3_isUnturnedAtZero := goodIn_r _ [13, 14, 15, 111, 112, 113, 114, 115, 116, 117, 118, 119, 120, 121, 122, 123, 124] (by decide +kernel) (by decide +kernel)
set_option maxRecDepth 20000 in
theorem gX7_setPoint_X3_isUnturnedAtZero_n157 : GoodIn wsX7_setPoint (wsX3_isUnturnedAtZero) := ggX7_setPoint_X3_isUnturnedAtZero
set_option maxRecDepth 20000 in
theorem ggX7_setPoint_X2_staysRising : GoodIn wsX7_setPoint wsX2_staysRising := goodIn_r _ [19, 20, 21, 22, 17, 23, 24, 25, 26, 27, 28, 29, 30, 31, 32, 33, 34, 35, 36, 37, 38, 122, 123, 124] (by decide +kernel) (by decide +kernel)
set_option maxRecDepth 20000 in
theorem gX7_setPoint_X2_staysRising_n161 : GoodIn wsX7_setPoint (wsX2_staysRising) := ggX7_setPoint_X2_staysRising
set_option maxRecDepth 20000 in
theorem ggX7_setPoint_X2_hasRoomFor : GoodIn wsX7_setPoint wsX2_hasRoomFor := goodIn_r _ [41, 24, 25, 26, 27, 28, 17, 29, 20, 21, 22, 23, 30, 31, 32, 33, 122, 123, 124] (by decide +kernel) (by decide +kernel)
set_option maxRecDepth 20000 in
theorem gX7_setPoint_X2_hasRoomFor_n165 : GoodIn wsX7_setPoint (wsX2_hasRoomFor) := ggX7_setPoint_X2_hasRoomFor
set_option maxRecDepth 20000 in
theorem ggX7_setPoint_X1_record : GoodIn wsX7_setPoint wsX1_record := goodIn_r _ [45, 46, 47, 48, 49, 50, 43, 51, 52, 53, 54, 55, 56, 57, 58, 59, 60, 61, 62, 63, 64, 65, 66, 11, 67, 68, 14, 69, 70, 71, 72, 73, 74, 75, 76, 15, 77, 78, 17, 79, 80, 24, 25, 81, 82, 83, 84, 85, 86, 87, 88, 38, 89, 90, 91, 92, 93, 94, 95, 96, 97, 98, 99, 125, 126, 108, 109, 110, 111, 112, 113, 114, 115, 116, 117, 118, 119, 120, 121, 122, 123, 124, 127, 128, 129, 130, 131, 132] (by decide +kernel) (by decide +kernel)
set_option maxRecDepth 20000 in
theorem gX7_setPoint_X1_record_n49 : GoodIn wsX7_setPoint (wsX1_record) := ggX7_setPoint_X1_record
set_option maxRecDepth 20000 in
theorem ggX7_setPoint_X2_lay : GoodIn wsX7_setPoint wsX2_lay := goodIn_r _ [102, 38, 24, 25, 85, 86, 87, 88, 20, 21, 22, 17, 23, 26, 27, 28, 29, 30, 31, 32, 33, 122, 123, 124] (by decide +kernel) (by decide +kernel)
set_option maxRecDepth 20000 in
theorem gX7_setPoint_X2_lay_n170 : GoodIn wsX7_setPoint (wsX2_lay) := ggX7_setPoint_X2_lay
set_option maxRecDepth 20000 in
theorem ggX7_removePoint_X7_isOutside : GoodIn wsX7_removePoint wsX7_isOutside := goodIn_r _ [9] (by decide +kernel) (by decide +kernel)
set_option maxRecDepth 20000 in
theorem gX7_removePoint_X7_isOutside : GoodIn wsX7_removePoint (va_wsS RX7 37 yX7_isOutside wsX7_isOutside) := goodIn_app (goodIn_of _ (by decide +kernel)) ggX7_removePoint_X7_isOutside
set_option maxRecDepth 20000 in
theorem ggX7_removePoint_X3_isUnturnedAtZero : GoodIn wsX7_removePoint wsX3_isUnturnedAtZero := goodIn_r _ [13, 14, 15, 103, 104, 105, 106, 107, 108, 109, 110, 111, 112, 113, 114, 115, 116] (by decide +kernel) (by decide +kernel)
set_option maxRecDepth 20000 in
theorem gX7_removePoint_X3_isUnturnedAtZero_n157 : GoodIn wsX7_removePoint (wsX3_isUnturnedAtZero) := ggX7_removePoint_X3_isUnturnedAtZero
set_option maxRecDepth 20000 in
theorem ggX7_removePoint_X2_holds : GoodIn wsX7_removePoint wsX2_holds := goodIn_r _ [19, 20, 21, 22, 23, 17, 24, 25, 26, 27, 28, 29, 114, 115, 116] (by decide +kernel) (by decide +kernel)
set_option maxRecDepth 20000 in
theorem gX7_removePoint_X2_holds_n174 : GoodIn wsX7_removePoint (wsX2_holds) := ggX7_removePoint_X2_holds
set_option maxRecDepth 20000 in
theorem ggX7_removePoint_X1_record : GoodIn wsX7_removePoint wsX1_record := goodIn_r _ [33, 34, 35, 36, 37, 38, 31, 39, 40, 41, 42, 43, 44, 45, 46, 47, 48, 49, 50, 51, 52, 53, 54, 11, 55, 56, 14, 57, 58, 59, 60, 61, 62, 63, 64, 15, 65, 66, 17, 67, 68, 25, 20, 69, 70, 71, 72, 73, 74, 75, 76, 77, 78, 79, 80, 81, 82, 83, 84, 85, 86, 87, 88, 117, 118, 100, 101, 102, 103, 104, 105, 106, 107, 108, 109, 110, 111, 112, 113, 114, 115, 116, 119, 120, 121, 122, 123, 124] (by decide +kernel) (by decide +kernel)
set_option maxRecDepth 20000 in
theorem gX7_removePoint_X1_record_n49 : GoodIn wsX7_removePoint (wsX1_record) := ggX7_removePoint_X1_record
set_option maxRecDepth 20000 in
theorem ggX7_removePoint_X2_slotOf : GoodIn wsX7_removePoint wsX2_slotOf := goodIn_r _ [24, 25, 20, 114, 115, 116] (by decide +kernel) (by decide +kernel)
set_option maxRecDepth 20000 in
theorem gX7_removePoint_X2_slotOf_n178 : GoodIn wsX7_removePoint (wsX2_slotOf) := ggX7_removePoint_X2_slotOf
set_option maxRecDepth 20000 in
theorem ggX7_removePoint_X2_second : GoodIn wsX7_removePoint wsX2_second := goodIn_r _ [91, 25, 77, 114, 115, 116] (by decide +kernel) (by decide +kernel)
set_option maxRecDepth 20000 in
theorem gX7_removePoint_X2_second_n181 : GoodIn wsX7_removePoint (wsX2_second) := ggX7_removePoint_X2_second
set_option maxRecDepth 20000 in
theorem ggX7_removePoint_X2_removeAt : GoodIn wsX7_removePoint wsX2_removeAt := goodIn_r _ [94, 25, 20, 73, 74, 75, 76, 77, 26, 27, 28, 17, 29, 114, 115, 116] (by decide +kernel) (by decide +kernel)
set_option maxRecDepth 20000 in
theorem gX7_removePoint_X2_removeAt_n184 : GoodIn wsX7_removePoint (wsX2_removeAt) := ggX7_removePoint_X2_removeAt
set_option maxRecDepth 20000 in
theorem ggX7_curve_X7_isOutside : GoodIn wsX7_curve wsX7_isOutside := goodIn_r _ [6] (by decide +kernel) (by decide +kernel)
set_option maxRecDepth 20000 in
theorem gX7_curve_X7_isOutside : GoodIn wsX7_curve (va_wsS RX7 37 yX7_isOutside wsX7_isOutside) := goodIn_app (goodIn_of _ (by decide +kernel)) ggX7_curve_X7_isOutside
set_option maxRecDepth 20000 in
theorem ggX7_curve_X2_valueAt : GoodIn wsX7_curve wsX2_valueAt := goodIn_r _ [10, 11, 12, 13, 14, 15, 8, 16, 17, 18, 19, 20, 21, 22, 23, 24, 25, 45, 46, 47] (by decide +kernel) (by decide +kernel)
set_option maxRecDepth 20000 in
theorem gX7_curve_X2_valueAt_n187 : GoodIn wsX7_curve (wsX2_valueAt) := ggX7_curve_X2_valueAt
set_option maxRecDepth 20000 in
theorem ggX7_setBreak_X7_isOutside : GoodIn wsX7_setBreak wsX7_isOutside := goodIn_r _ [9] (by decide +kernel) (by decide +kernel)
set_option maxRecDepth 20000 in
theorem gX7_setBreak_X7_isOutside : GoodIn wsX7_setBreak (va_wsS RX7 37 yX7_isOutside wsX7_isOutside) := goodIn_app (goodIn_of _ (by decide +kernel)) ggX7_setBreak_X7_isOutside
set_option maxRecDepth 20000 in
theorem ggX7_setBreak_X2_staysRising : GoodIn wsX7_setBreak wsX2_staysRising := goodIn_r _ [13, 14, 15, 16, 11, 17, 18, 19, 20, 21, 22, 23, 24, 25, 26, 27, 28, 29, 30, 31, 32, 108, 109, 110] (by decide +kernel) (by decide +kernel)
set_option maxRecDepth 20000 in
theorem gX7_setBreak_X2_staysRising_n161 : GoodIn wsX7_setBreak (wsX2_staysRising) := ggX7_setBreak_X2_staysRising
set_option maxRecDepth 20000 in
theorem ggX7_setBreak_X2_hasRoomFor : GoodIn wsX7_setBreak wsX2_hasRoomFor := goodIn_r _ [35, 18, 19, 20, 21, 22, 11, 23, 14, 15, 16, 17, 24, 25, 26, 27, 108, 109, 110] (by decide +kernel) (by decide +kernel)
set_option maxRecDepth 20000 in
theorem gX7_setBreak_X2_hasRoomFor_n165 : GoodIn wsX7_setBreak (wsX2_hasRoomFor) := ggX7_setBreak_X2_hasRoomFor
set_option maxRecDepth 20000 in
theorem ggX7_setBreak_X1_record : GoodIn wsX7_setBreak wsX1_record := goodIn_r _ [39, 40, 41, 42, 43, 44, 37, 45, 46, 47, 48, 49, 50, 51, 52, 53, 54, 55, 56, 57, 58, 59, 60, 61, 62, 63, 64, 65, 66, 67, 68, 69, 70, 71, 72, 73, 74, 75, 11, 76, 77, 18, 19, 78, 79, 80, 81, 82, 83, 84, 85, 32, 86, 87, 88, 89, 90, 91, 92, 93, 94, 95, 96, 111, 112, 105, 106, 107, 113, 114, 115, 116, 117, 118, 119, 120, 121, 122, 123, 108, 109, 110, 124, 125, 126, 127, 128, 129] (by decide +kernel) (by decide +kernel)
set_option maxRecDepth 20000 in
theorem gX7_setBreak_X1_record_n49 : GoodIn wsX7_setBreak (wsX1_record) := ggX7_setBreak_X1_record
set_option maxRecDepth 20000 in
theorem ggX7_setBreak_X2_lay : GoodIn wsX7_setBreak wsX2_lay := goodIn_r _ [99, 32, 18, 19, 82, 83, 84, 85, 14, 15, 16, 11, 17, 20, 21, 22, 23, 24, 25, 26, 27, 108, 109, 110] (by decide +kernel) (by decide +kernel)
set_option maxRecDepth 20000 in
theorem gX7_setBreak_X2_lay_n170 : GoodIn wsX7_setBreak (wsX2_lay) := ggX7_setBreak_X2_lay
set_option maxRecDepth 20000 in
theorem ggX7_removeBreak_X7_isOutside : GoodIn wsX7_removeBreak wsX7_isOutside := goodIn_r _ [8] (by decide +kernel) (by decide +kernel)
set_option maxRecDepth 20000 in
theorem gX7_removeBreak_X7_isOutside : GoodIn wsX7_removeBreak (va_wsS RX7 37 yX7_isOutside wsX7_isOutside) := goodIn_app (goodIn_of _ (by decide +kernel)) ggX7_removeBreak_X7_isOutside
set_option maxRecDepth 20000 in
theorem ggX7_removeBreak_X1_record : GoodIn wsX7_removeBreak wsX1_record := goodIn_r _ [12, 13, 14, 15, 16, 17, 10, 18, 19, 20, 21, 22, 23, 24, 25, 26, 27, 28, 29, 30, 31, 32, 33, 34, 35, 36, 37, 38, 39, 40, 41, 42, 43, 44, 45, 46, 47, 48, 49, 50, 51, 52, 53, 54, 55, 56, 57, 58, 59, 60, 61, 62, 63, 64, 65, 66, 67, 68, 69, 70, 71, 72, 73, 92, 93, 86, 87, 88, 94, 95, 96, 97, 98, 99, 100, 101, 102, 103, 104, 89, 90, 91, 105, 106, 107, 108, 109, 110] (by decide +kernel) (by decide +kernel)
set_option maxRecDepth 20000 in
theorem gX7_removeBreak_X1_record_n49 : GoodIn wsX7_removeBreak (wsX1_record) := ggX7_removeBreak_X1_record
set_option maxRecDepth 20000 in
theorem ggX7_removeBreak_X2_removeAt : GoodIn wsX7_removeBreak wsX2_removeAt := goodIn_r _ [76, 52, 53, 58, 59, 60, 61, 62, 77, 78, 79, 49, 80, 89, 90, 91] (by decide +kernel) (by decide +kernel)
set_option maxRecDepth 20000 in
theorem gX7_removeBreak_X2_removeAt_n184 : GoodIn wsX7_removeBreak (wsX2_removeAt) := ggX7_removeBreak_X2_removeAt
set_option maxRecDepth 20000 in
theorem ggX7_entry_X7_isOutside : GoodIn wsX7_entry wsX7_isOutside := goodIn_r _ [6] (by decide +kernel) (by decide +kernel)
set_option maxRecDepth 20000 in
theorem gX7_entry_X7_isOutside : GoodIn wsX7_entry (va_wsS RX7 37 yX7_isOutside wsX7_isOutside) := goodIn_app (goodIn_of _ (by decide +kernel)) ggX7_entry_X7_isOutside
set_option maxRecDepth 20000 in
theorem ggX7_entry_X2_found : GoodIn wsX7_entry wsX2_found := goodIn_r _ [10, 11, 12, 13, 14, 15, 16, 8, 17, 18, 38, 39, 40] (by decide +kernel) (by decide +kernel)
set_option maxRecDepth 20000 in
theorem gX7_entry_X2_found_n146 : GoodIn wsX7_entry (wsX2_found) := ggX7_entry_X2_found
set_option maxRecDepth 20000 in
theorem ggX7_readingAt_X7_isOutside : GoodIn wsX7_readingAt wsX7_isOutside := goodIn_r _ [6] (by decide +kernel) (by decide +kernel)
set_option maxRecDepth 20000 in
theorem gX7_readingAt_X7_isOutside : GoodIn wsX7_readingAt (va_wsS RX7 37 yX7_isOutside wsX7_isOutside) := goodIn_app (goodIn_of _ (by decide +kernel)) ggX7_readingAt_X7_isOutside
set_option maxRecDepth 20000 in
theorem ggX7_readingAt_X2_valueAt : GoodIn wsX7_readingAt wsX2_valueAt := goodIn_r _ [10, 11, 12, 13, 14, 15, 8, 16, 17, 18, 19, 20, 21, 22, 23, 24, 25, 34, 35, 36] (by decide +kernel) (by decide +kernel)
set_option maxRecDepth 20000 in
theorem gX7_readingAt_X2_valueAt_n187 : GoodIn wsX7_readingAt (wsX2_valueAt) := ggX7_readingAt_X2_valueAt
set_option maxRecDepth 20000 in
theorem ggX7_slopeBits_X2_slopeAfter : GoodIn wsX7_slopeBits wsX2_slopeAfter := goodIn_r _ [7, 8, 9, 10, 5, 11, 12, 13, 14, 15, 16, 17, 18, 33, 34, 35] (by decide +kernel) (by decide +kernel)
set_option maxRecDepth 20000 in
theorem gX7_slopeBits_X2_slopeAfter_n190 : GoodIn wsX7_slopeBits (wsX2_slopeAfter) := ggX7_slopeBits_X2_slopeAfter
set_option maxRecDepth 20000 in
theorem ggX7_slopeBits_X7_bitsOf : GoodIn wsX7_slopeBits wsX7_bitsOf := goodIn_r _ [22, 23, 24] (by decide +kernel) (by decide +kernel)
set_option maxRecDepth 20000 in
theorem gX7_slopeBits_X7_bitsOf : GoodIn wsX7_slopeBits (va_wsS RX7 194 yX7_bitsOf wsX7_bitsOf) := goodIn_app (goodIn_of _ (by decide +kernel)) ggX7_slopeBits_X7_bitsOf
set_option maxRecDepth 20000 in
theorem ggX7_set_X7_isOutside : GoodIn wsX7_set wsX7_isOutside := goodIn_r _ [7] (by decide +kernel) (by decide +kernel)
set_option maxRecDepth 20000 in
theorem gX7_set_X7_isOutside : GoodIn wsX7_set (va_wsS RX7 37 yX7_isOutside wsX7_isOutside) := goodIn_app (goodIn_of _ (by decide +kernel)) ggX7_set_X7_isOutside
set_option maxRecDepth 20000 in
theorem ggX7_set_X7_topOfSetting : GoodIn wsX7_set wsX7_topOfSetting := goodIn_r _ [10] (by decide +kernel) (by decide +kernel)
set_option maxRecDepth 20000 in
theorem gX7_set_X7_topOfSetting : GoodIn wsX7_set (va_wsS RX7 198 yX7_topOfSetting wsX7_topOfSetting) := goodIn_app (goodIn_of _ (by decide +kernel)) ggX7_set_X7_topOfSetting
set_option maxRecDepth 20000 in
theorem ggX7_set_X1_record : GoodIn wsX7_set wsX1_record := goodIn_r _ [14, 15, 16, 17, 18, 19, 12, 20, 21, 22, 23, 24, 25, 26, 27, 28, 29, 30, 31, 32, 33, 34, 35, 36, 37, 38, 39, 40, 41, 42, 43, 44, 45, 46, 47, 48, 49, 50, 51, 52, 53, 54, 55, 56, 57, 58, 59, 60, 61, 62, 63, 64, 65, 66, 67, 68, 69, 70, 71, 72, 73, 74, 75, 87, 88, 84, 85, 86, 89, 90, 91, 92, 93, 94, 95, 96, 97, 98, 99, 100, 101, 102, 103, 104, 105, 106, 107, 108] (by decide +kernel) (by decide +kernel)
set_option maxRecDepth 20000 in
theorem gX7_set_X1_record_n49 : GoodIn wsX7_set (wsX1_record) := ggX7_set_X1_record
set_option maxRecDepth 20000 in
theorem ggX7_set_X3_exchangeSetting : GoodIn wsX7_set wsX3_exchangeSetting := goodIn_r _ [78, 45, 46, 47, 89, 90, 91, 92, 93, 94, 95, 96, 97, 98, 99] (by decide +kernel) (by decide +kernel)
set_option maxRecDepth 20000 in
theorem gX7_set_X3_exchangeSetting_n201 : GoodIn wsX7_set (wsX3_exchangeSetting) := ggX7_set_X3_exchangeSetting
set_option maxRecDepth 20000 in
theorem ggX7_addWeight_X7_isOutside : GoodIn wsX7_addWeight wsX7_isOutside := goodIn_r _ [8] (by decide +kernel) (by decide +kernel)
set_option maxRecDepth 20000 in
theorem gX7_addWeight_X7_isOutside : GoodIn wsX7_addWeight (va_wsS RX7 37 yX7_isOutside wsX7_isOutside) := goodIn_app (goodIn_of _ (by decide +kernel)) ggX7_addWeight_X7_isOutside
set_option maxRecDepth 20000 in
theorem ggX7_addWeight_X6_has : GoodIn wsX7_addWeight wsX6_has := goodIn_r _ [12, 13, 88, 89, 90, 91, 92, 93] (by decide +kernel) (by decide +kernel)
set_option maxRecDepth 20000 in
theorem gX7_addWeight_X6_has_n204 : GoodIn wsX7_addWeight (wsX6_has) := ggX7_addWeight_X6_has
set_option maxRecDepth 20000 in
theorem ggX7_addWeight_X1_record : GoodIn wsX7_addWeight wsX1_record := goodIn_r _ [17, 18, 19, 20, 21, 22, 15, 23, 24, 25, 26, 27, 28, 29, 30, 31, 32, 33, 34, 35, 36, 37, 38, 39, 40, 41, 42, 43, 44, 45, 46, 47, 48, 49, 50, 51, 52, 53, 54, 55, 56, 57, 58, 59, 60, 61, 62, 63, 64, 65, 66, 67, 68, 10, 69, 70, 13, 71, 72, 73, 74, 75, 76, 94, 95, 85, 86, 87, 96, 97, 98, 99, 100, 101, 102, 103, 104, 105, 106, 107, 108, 109, 88, 89, 90, 91, 92, 93] (by decide +kernel) (by decide +kernel)
set_option maxRecDepth 20000 in
theorem gX7_addWeight_X1_record_n49 : GoodIn wsX7_addWeight (wsX1_record) := ggX7_addWeight_X1_record
set_option maxRecDepth 20000 in
theorem ggX7_addWeight_X6_append : GoodIn wsX7_addWeight wsX6_append := goodIn_r _ [79, 13, 71, 73, 74, 75, 76, 88, 89, 90, 91, 92, 93] (by decide +kernel) (by decide +kernel)
set_option maxRecDepth 20000 in
theorem gX7_addWeight_X6_append_n207 : GoodIn wsX7_addWeight (wsX6_append) := ggX7_addWeight_X6_append
set_option maxRecDepth 20000 in
theorem ggX7_removeWeight_X6_has : GoodIn wsX7_removeWeight wsX6_has := goodIn_r _ [8, 9, 95, 96, 97, 98, 99, 100] (by decide +kernel) (by decide +kernel)
set_option maxRecDepth 20000 in
theorem gX7_removeWeight_X6_has_n204 : GoodIn wsX7_removeWeight (wsX6_has) := ggX7_removeWeight_X6_has
set_option maxRecDepth 20000 in
theorem ggX7_removeWeight_X6_isOnPan : GoodIn wsX7_removeWeight wsX6_isOnPan := goodIn_r _ [12, 13, 14, 5, 7, 6, 8, 9, 95, 96, 97, 98, 99, 100] (by decide +kernel) (by decide +kernel)
set_option maxRecDepth 20000 in
theorem gX7_removeWeight_X6_isOnPan_n211 : GoodIn wsX7_removeWeight (wsX6_isOnPan) := ggX7_removeWeight_X6_isOnPan
set_option maxRecDepth 20000 in
theorem ggX7_removeWeight_X6_isParent : GoodIn wsX7_removeWeight wsX6_isParent := goodIn_r _ [17, 9, 18, 95, 96, 97, 98, 99, 100] (by decide +kernel) (by decide +kernel)
set_option maxRecDepth 20000 in
theorem gX7_removeWeight_X6_isParent_n214 : GoodIn wsX7_removeWeight (wsX6_isParent) := ggX7_removeWeight_X6_isParent
set_option maxRecDepth 20000 in
theorem ggX7_removeWeight_X1_record : GoodIn wsX7_removeWeight wsX1_record := goodIn_r _ [22, 23, 24, 25, 26, 27, 20, 28, 29, 30, 31, 32, 33, 34, 35, 36, 37, 38, 39, 40, 41, 42, 43, 44, 45, 46, 47, 48, 49, 50, 51, 52, 53, 54, 55, 56, 57, 58, 59, 60, 61, 62, 63, 64, 65, 66, 67, 68, 69, 70, 71, 72, 73, 6, 74, 75, 9, 76, 77, 78, 79, 18, 13, 101, 102, 92, 93, 94, 103, 104, 105, 106, 107, 108, 109, 110, 111, 112, 113, 114, 115, 116, 95, 96, 97, 98, 99, 100] (by decide +kernel) (by decide +kernel)
set_option maxRecDepth 20000 in
theorem gX7_removeWeight_X1_record_n49 : GoodIn wsX7_removeWeight (wsX1_record) := ggX7_removeWeight_X1_record
set_option maxRecDepth 20000 in
theorem ggX7_removeWeight_X6_removeAt : GoodIn wsX7_removeWeight wsX6_removeAt := goodIn_r _ [82, 76, 78, 79, 18, 13, 9, 14, 5, 7, 6, 8, 83, 84, 85, 86, 95, 96, 97, 98, 99, 100] (by decide +kernel) (by decide +kernel)
set_option maxRecDepth 20000 in
theorem gX7_removeWeight_X6_removeAt_n217 : GoodIn wsX7_removeWeight (wsX6_removeAt) := ggX7_removeWeight_X6_removeAt
set_option maxRecDepth 20000 in
theorem ggX7_weight_X6_has : GoodIn wsX7_weight wsX6_has := goodIn_r _ [6, 7, 50, 51, 52, 53, 54, 55] (by decide +kernel) (by decide +kernel)
set_option maxRecDepth 20000 in
theorem gX7_weight_X6_has_n204 : GoodIn wsX7_weight (wsX6_has) := ggX7_weight_X6_has
set_option maxRecDepth 20000 in
theorem ggX7_weight_X7_isOutside : GoodIn wsX7_weight wsX7_isOutside := goodIn_r _ [11] (by decide +kernel) (by decide +kernel)
set_option maxRecDepth 20000 in
theorem gX7_weight_X7_isOutside : GoodIn wsX7_weight (va_wsS RX7 37 yX7_isOutside wsX7_isOutside) := goodIn_app (goodIn_of _ (by decide +kernel)) ggX7_weight_X7_isOutside
set_option maxRecDepth 20000 in
theorem ggX7_weight_X6_property : GoodIn wsX7_weight wsX6_property := goodIn_r _ [14, 15, 16, 17, 18, 19, 20, 21, 3, 5, 4, 6, 7, 22, 23, 24, 25, 26, 27, 28, 29, 30, 31, 32, 33, 34, 35, 36, 37, 38, 39, 40, 41, 50, 51, 52, 53, 54, 55] (by decide +kernel) (by decide +kernel)
set_option maxRecDepth 20000 in
theorem gX7_weight_X6_property_n218 : GoodIn wsX7_weight (wsX6_property) := ggX7_weight_X6_property
set_option maxRecDepth 20000 in
theorem ggX7_calibration_X7_isOutside : GoodIn wsX7_calibration wsX7_isOutside := goodIn_r _ [7] (by decide +kernel) (by decide +kernel)
set_option maxRecDepth 20000 in
theorem gX7_calibration_X7_isOutside : GoodIn wsX7_calibration (va_wsS RX7 37 yX7_isOutside wsX7_isOutside) := goodIn_app (goodIn_of _ (by decide +kernel)) ggX7_calibration_X7_isOutside
set_option maxRecDepth 20000 in
theorem ggX7_calibration_X6_errorOfSet : GoodIn wsX7_calibration wsX6_errorOfSet := goodIn_r _ [11, 12, 13, 14, 15, 16, 17, 18, 19, 20, 21, 22, 23, 24, 25, 9, 26, 185, 186, 187, 188, 189, 190] (by decide +kernel) (by decide +kernel)
set_option maxRecDepth 20000 in
theorem gX7_calibration_X6_errorOfSet_n221 : GoodIn wsX7_calibration (wsX6_errorOfSet) := ggX7_calibration_X6_errorOfSet
set_option maxRecDepth 20000 in
theorem ggX7_calibration_X5_run : GoodIn wsX7_calibration wsX5_run := goodIn_r _ [30, 31, 32, 33, 34, 35, 36, 37, 38, 39, 40, 41, 42, 43, 44, 45, 46, 47, 48, 49, 50, 51, 52, 53, 54, 55, 56, 57, 58, 59, 60, 61, 62, 63, 64, 65, 66, 67, 68, 69, 70, 71, 72, 73, 74, 75, 76, 28, 77, 78, 79, 80, 81, 25, 9, 26, 82, 83, 84, 16, 85, 86, 87, 88, 12, 89, 90, 91, 92, 93, 94, 95, 96, 97, 98, 99, 100, 101, 102, 103, 104, 105, 106, 107, 108, 109, 110, 111, 112, 113, 114, 115, 116, 117, 118, 119, 120, 121, 122, 123, 124, 125, 126, 127, 128, 129, 130, 131, 132, 133, 134, 135, 136, 137, 138, 139, 140, 141, 142, 143, 144, 145, 146, 147, 148, 149, 150, 151, 152, 153, 154, 155, 156, 157, 158, 159, 191, 192, 193, 194, 195, 196, 197, 182, 183, 184, 198, 199, 200, 201, 202, 203, 204, 205, 206, 207, 208, 209, 210, 211, 185, 186, 187, 188, 189, 190] (by decide +kernel) (by decide +kernel)
set_option maxRecDepth 20000 in
theorem gX7_calibration_X5_run_n224 : GoodIn wsX7_calibration (wsX5_run) := ggX7_calibration_X5_run
set_option maxRecDepth 20000 in
theorem ggX7_calibration_X5_property : GoodIn wsX7_calibration wsX5_property := goodIn_r _ [162, 80, 79, 150, 163, 164, 165, 28, 166, 78, 167, 168, 169, 170, 171, 172, 68, 47, 69, 173, 174, 175, 176, 155, 103, 40, 104, 105, 43, 44, 5, 6, 7, 122, 123, 124, 53, 191, 192, 193, 194, 195, 196, 197, 209, 210, 211] (by decide +kernel) (by decide +kernel)
set_option maxRecDepth 20000 in
theorem gX7_calibration_X5_property_n228 : GoodIn wsX7_calibration (wsX5_property) := ggX7_calibration_X5_property
set_option maxRecDepth 20000 in
theorem ggX7_adopt_X6_errorOfSet : GoodIn wsX7_adopt wsX6_errorOfSet := goodIn_r _ [8, 9, 10, 11, 12, 13, 14, 15, 16, 17, 18, 19, 20, 21, 22, 6, 23, 214, 215, 216, 217, 218, 219] (by decide +kernel) (by decide +kernel)
set_option maxRecDepth 20000 in
theorem gX7_adopt_X6_errorOfSet_n221 : GoodIn wsX7_adopt (wsX6_errorOfSet) := ggX7_adopt_X6_errorOfSet
set_option maxRecDepth 20000 in
theorem ggX7_adopt_X5_run : GoodIn wsX7_adopt wsX5_run := goodIn_r _ [27, 28, 29, 30, 31, 32, 33, 34, 35, 36, 37, 38, 39, 40, 41, 42, 43, 44, 45, 46, 47, 48, 49, 50, 51, 52, 53, 54, 55, 56, 57, 58, 59, 60, 61, 62, 63, 64, 65, 66, 67, 68, 69, 70, 71, 72, 73, 25, 74, 75, 76, 77, 78, 22, 6, 23, 79, 80, 81, 13, 82, 83, 84, 85, 9, 86, 87, 88, 89, 90, 91, 92, 93, 94, 95, 96, 97, 98, 99, 100, 101, 102, 103, 104, 105, 106, 107, 108, 109, 110, 111, 112, 113, 114, 115, 116, 117, 118, 119, 120, 121, 122, 123, 124, 125, 126, 127, 128, 129, 130, 131, 132, 133, 134, 135, 136, 137, 138, 139, 140, 141, 142, 143, 144, 145, 146, 147, 148, 149, 150, 151, 152, 153, 154, 155, 156, 204, 205, 206, 207, 208, 209, 210, 201, 202, 203, 220, 221, 222, 223, 224, 225, 226, 227, 228, 229, 230, 211, 212, 213, 214, 215, 216, 217, 218, 219] (by decide +kernel) (by decide +kernel)
set_option maxRecDepth 20000 in
theorem gX7_adopt_X5_run_n224 : GoodIn wsX7_adopt (wsX5_run) := ggX7_adopt_X5_run
set_option maxRecDepth 20000 in
theorem ggX7_adopt_X5_isScale : GoodIn wsX7_adopt wsX5_isScale := goodIn_r _ [159, 152, 100, 37, 101, 102, 40, 41, 160, 161, 162, 119, 120, 121, 50, 204, 205, 206, 207, 208, 209, 210, 211, 212, 213] (by decide +kernel) (by decide +kernel)
set_option maxRecDepth 20000 in
theorem gX7_adopt_X5_isScale_n230 : GoodIn wsX7_adopt (wsX5_isScale) := ggX7_adopt_X5_isScale
set_option maxRecDepth 20000 in
theorem ggX7_adopt_X1_record : GoodIn wsX7_adopt wsX1_record := goodIn_r _ [166, 167, 168, 169, 170, 171, 164, 172, 173, 174, 175, 176, 177, 178, 179, 180, 181, 182, 183, 184, 185, 186, 187, 30, 188, 189, 33, 57, 58, 60, 56, 59, 34, 190, 191, 55, 35, 36, 37, 38, 39, 40, 41, 42, 43, 44, 45, 46, 47, 48, 49, 50, 192, 6, 193, 194, 9, 13, 195, 142, 133, 138, 11, 231, 232, 201, 202, 203, 220, 221, 222, 223, 224, 225, 226, 227, 228, 229, 230, 211, 212, 213, 214, 215, 216, 217, 218, 219] (by decide +kernel) (by decide +kernel)
set_option maxRecDepth 20000 in
theorem gX7_adopt_X1_record_n49 : GoodIn wsX7_adopt (wsX1_record) := ggX7_adopt_X1_record
set_option maxRecDepth 20000 in
theorem ggX7_adopt_X2_copyFrom : GoodIn wsX7_adopt wsX2_copyFrom := goodIn_r _ [39, 40, 41, 42, 43, 44, 45, 46, 47, 48, 49, 50, 211, 212, 213] (by decide +kernel) (by decide +kernel)
set_option maxRecDepth 20000 in
theorem gX7_adopt_X2_copyFrom_n236 : GoodIn wsX7_adopt (wsX2_copyFrom) := ggX7_adopt_X2_copyFrom
set_option maxRecDepth 20000 in
theorem ggX7_type_X7_isOutside : GoodIn wsX7_type wsX7_isOutside := goodIn_r _ [7] (by decide +kernel) (by decide +kernel)
set_option maxRecDepth 20000 in
theorem gX7_type_X7_isOutside : GoodIn wsX7_type (va_wsS RX7 37 yX7_isOutside wsX7_isOutside) := goodIn_app (goodIn_of _ (by decide +kernel)) ggX7_type_X7_isOutside
set_option maxRecDepth 20000 in
theorem ggX7_type_X4_append : GoodIn wsX7_type wsX4_append := goodIn_r _ [11, 12, 13, 19, 20, 21, 22, 23, 24] (by decide +kernel) (by decide +kernel)
set_option maxRecDepth 20000 in
theorem gX7_type_X4_append_n240 : GoodIn wsX7_type (wsX4_append) := ggX7_type_X4_append
set_option maxRecDepth 20000 in
theorem ggX7_fault_X4_positionOfFault : GoodIn wsX7_fault wsX4_positionOfFault := goodIn_r _ [6, 7, 8, 9, 10, 11, 4, 12, 13, 14, 15, 16, 17, 18, 19, 20, 21, 22, 23, 24, 25, 26, 27, 28, 29, 30, 31, 32, 33, 34, 40, 41, 42, 43, 44, 45] (by decide +kernel) (by decide +kernel)
set_option maxRecDepth 20000 in
theorem gX7_fault_X4_positionOfFault_n243 : GoodIn wsX7_fault (wsX4_positionOfFault) := ggX7_fault_X4_positionOfFault
set_option maxRecDepth 20000 in
theorem ggX7_move_X4_positionOfFault : GoodIn wsX7_move wsX4_positionOfFault := goodIn_r _ [9, 10, 11, 12, 13, 14, 7, 15, 16, 17, 18, 19, 20, 21, 22, 23, 24, 25, 26, 27, 28, 29, 30, 31, 32, 33, 34, 35, 36, 37, 216, 217, 218, 219, 220, 221] (by decide +kernel) (by decide +kernel)
set_option maxRecDepth 20000 in
theorem gX7_move_X4_positionOfFault_n243 : GoodIn wsX7_move (wsX4_positionOfFault) := ggX7_move_X4_positionOfFault
set_option maxRecDepth 20000 in
theorem ggX7_move_X1_record : GoodIn wsX7_move wsX1_record := goodIn_r _ [41, 42, 43, 44, 45, 46, 39, 47, 48, 49, 50, 51, 52, 53, 54, 55, 56, 57, 58, 59, 60, 61, 62, 63, 64, 65, 66, 67, 68, 69, 70, 71, 72, 73, 74, 75, 76, 77, 78, 79, 80, 81, 82, 83, 84, 85, 86, 87, 88, 89, 90, 91, 92, 93, 94, 95, 96, 97, 98, 99, 100, 101, 102, 222, 223, 224, 225, 226, 227, 228, 229, 230, 231, 232, 233, 234, 235, 236, 237, 238, 239, 240, 241, 242, 243, 244, 245, 246] (by decide +kernel) (by decide +kernel)
set_option maxRecDepth 20000 in
theorem gX7_move_X1_record_n49 : GoodIn wsX7_move (wsX1_record) := ggX7_move_X1_record
set_option maxRecDepth 20000 in
theorem ggX7_move_X4_readMove : GoodIn wsX7_move wsX4_readMove := goodIn_r _ [15, 16, 17, 18, 19, 20, 21, 7, 22, 10, 23, 24, 25, 26, 27, 28, 29, 30, 31, 32, 33, 34, 11, 35, 36, 37, 216, 217, 218, 219, 220, 221] (by decide +kernel) (by decide +kernel)
set_option maxRecDepth 20000 in
theorem gX7_move_X4_readMove_n246 : GoodIn wsX7_move (wsX4_readMove) := ggX7_move_X4_readMove
set_option maxRecDepth 20000 in
theorem ggX7_move_X0_refusalOf : GoodIn wsX7_move wsX0_refusalOf := goodIn_r _ [105, 106, 107, 108, 56, 109, 61, 59, 110, 93, 111, 112, 96, 113, 114, 115, 102, 116, 117, 118, 119, 97, 120, 121, 122, 123, 124, 125, 126, 127, 128, 129, 130, 131, 132, 133, 134, 224, 225, 226, 227, 228, 229, 230, 231, 232, 233, 234, 235, 236, 237, 241, 242, 243, 244, 245, 246] (by decide +kernel) (by decide +kernel)
set_option maxRecDepth 20000 in
theorem gX7_move_X0_refusalOf_n256 : GoodIn wsX7_move (wsX0_refusalOf) := ggX7_move_X0_refusalOf
set_option maxRecDepth 20000 in
theorem ggX7_move_X0_carryOut : GoodIn wsX7_move wsX0_carryOut := goodIn_r _ [137, 59, 138, 139, 140, 56, 141, 61, 142, 93, 143, 144, 102, 116, 110, 111, 112, 96, 117, 118, 119, 97, 145, 63, 146, 147, 66, 71, 67, 148, 149, 150, 151, 68, 152, 153, 154, 155, 70, 75, 156, 78, 157, 158, 81, 82, 91, 159, 160, 161, 162, 163, 164, 165, 166, 167, 168, 169, 170, 171, 172, 83, 84, 85, 86, 173, 174, 175, 176, 177, 178, 179, 76, 180, 181, 182, 183, 184, 185, 186, 187, 188, 189, 190, 191, 192, 193, 194, 195, 196, 197, 198, 69, 72, 199, 200, 201, 202, 203, 204, 205, 73, 74, 206, 207, 208, 209, 210, 224, 225, 226, 227, 228, 229, 230, 231, 232, 233, 234, 235, 236, 237, 241, 242, 243, 244, 245, 246, 238, 239, 240] (by decide +kernel) (by decide +kernel)
set_option maxRecDepth 20000 in
theorem gX7_move_X0_carryOut_n263 : GoodIn wsX7_move (wsX0_carryOut) := ggX7_move_X0_carryOut
set_option maxRecDepth 20000 in
theorem ggX8_curveAt_X8_down : GoodIn wsX8_curveAt wsX8_down := goodIn_r _ [5] (by decide +kernel) (by decide +kernel)
set_option maxRecDepth 20000 in
theorem gX8_curveAt_X8_down : GoodIn wsX8_curveAt (va_wsS RX8 41 yX8_down wsX8_down) := goodIn_app (goodIn_of _ (by decide +kernel)) ggX8_curveAt_X8_down
set_option maxRecDepth 20000 in
theorem ggX8_goes_X8_curveAt : GoodIn wsX8_goes wsX8_curveAt := goodIn_r _ [7, 1, 8, 9, 6, 10, 15, 16, 17, 18, 19, 20, 21, 22, 23, 24, 25, 26, 27, 28] (by decide +kernel) (by decide +kernel)
set_option maxRecDepth 20000 in
theorem gX8_goes_X8_curveAt : GoodIn wsX8_goes (wsV RX8 45 RX8 yX8_curveAt wsX8_curveAt) := goodIn_app (goodIn_of _ (by decide +kernel)) ggX8_goes_X8_curveAt
set_option maxRecDepth 20000 in
theorem ggX8_goes_X8_follows : GoodIn wsX8_goes wsX8_follows := goodIn_r _ [14, 1, 15, 16, 17, 18, 19, 20, 21, 22, 23, 24, 25, 26, 27, 28] (by decide +kernel) (by decide +kernel)
set_option maxRecDepth 20000 in
theorem gX8_goes_X8_follows : GoodIn wsX8_goes (wsV RX8 49 RX8 yX8_follows wsX8_follows) := goodIn_app (goodIn_of _ (by decide +kernel)) ggX8_goes_X8_follows
set_option maxRecDepth 20000 in
theorem ggX8_readingOf_X8_down : GoodIn wsX8_readingOf wsX8_down := goodIn_r _ [5] (by decide +kernel) (by decide +kernel)
set_option maxRecDepth 20000 in
theorem gX8_readingOf_X8_down : GoodIn wsX8_readingOf (va_wsS RX8 41 yX8_down wsX8_down) := goodIn_app (goodIn_of _ (by decide +kernel)) ggX8_readingOf_X8_down
set_option maxRecDepth 20000 in
theorem ggX8_reads_X8_readingOf : GoodIn wsX8_reads wsX8_readingOf := goodIn_r _ [6, 1, 7, 8, 5, 9, 10, 11, 12, 13, 14, 15, 16, 17, 18, 19, 20, 21, 22, 23] (by decide +kernel) (by decide +kernel)
set_option maxRecDepth 20000 in
theorem gX8_reads_X8_readingOf : GoodIn wsX8_reads (wsV RX8 52 RX8 yX8_readingOf wsX8_readingOf) := goodIn_app (goodIn_of _ (by decide +kernel)) ggX8_reads_X8_readingOf
set_option maxRecDepth 20000 in
theorem ggX8_refusal_X8_in : GoodIn wsX8_refusal wsX8_in := goodIn_r _ [5] (by decide +kernel) (by decide +kernel)
set_option maxRecDepth 20000 in
theorem gX8_refusal_X8_in : GoodIn wsX8_refusal (va_wsS RX8 56 yX8_in wsX8_in) := goodIn_app (goodIn_of _ (by decide +kernel)) ggX8_refusal_X8_in
set_option maxRecDepth 20000 in
theorem ggX8_moves_X8_goes : GoodIn wsX8_moves wsX8_goes := goodIn_r _ [6, 1, 7, 8, 9, 10, 5, 11, 12, 13, 14, 15, 16, 17, 18, 19, 20, 21, 22, 23, 24, 25, 26, 27, 28, 29, 30, 31, 32] (by decide +kernel) (by decide +kernel)
set_option maxRecDepth 20000 in
theorem gX8_moves_X8_goes : GoodIn wsX8_moves (wsV RX8 60 RX8 yX8_goes wsX8_goes) := goodIn_app (goodIn_of _ (by decide +kernel)) ggX8_moves_X8_goes
set_option maxRecDepth 20000 in
theorem ggX8_creeps_X8_follows : GoodIn wsX8_creeps wsX8_follows := goodIn_r _ [6, 1, 7, 8, 9, 10, 11, 12, 13, 14, 15, 16, 17, 18, 19, 20] (by decide +kernel) (by decide +kernel)
set_option maxRecDepth 20000 in
theorem gX8_creeps_X8_follows : GoodIn wsX8_creeps (wsV RX8 49 RX8 yX8_follows wsX8_follows) := goodIn_app (goodIn_of _ (by decide +kernel)) ggX8_creeps_X8_follows
set_option maxRecDepth 20000 in
theorem ggX8_setLoad_X8_in : GoodIn wsX8_setLoad wsX8_in := goodIn_r _ [6] (by decide +kernel) (by decide +kernel)
set_option maxRecDepth 20000 in
theorem gX8_setLoad_X8_in : GoodIn wsX8_setLoad (va_wsS RX8 56 yX8_in wsX8_in) := goodIn_app (goodIn_of _ (by decide +kernel)) ggX8_setLoad_X8_in
set_option maxRecDepth 20000 in
theorem ggX8_setLoad_X8_onPan : GoodIn wsX8_setLoad wsX8_onPan := goodIn_r _ [10, 11, 43, 44, 45, 46, 47, 48, 49, 50, 51, 52, 53, 54, 55, 56] (by decide +kernel) (by decide +kernel)
set_option maxRecDepth 20000 in
theorem gX8_setLoad_X8_onPan : GoodIn wsX8_setLoad (wsV RX8 65 RX8 yX8_onPan wsX8_onPan) := goodIn_app (goodIn_of _ (by decide +kernel)) ggX8_setLoad_X8_onPan
set_option maxRecDepth 20000 in
theorem ggX8_setLoad_X8_records : GoodIn wsX8_setLoad wsX8_records := goodIn_r _ [15, 16, 17, 18, 11, 19, 43, 44, 45, 46, 47, 48, 49, 50, 51, 52, 53, 54, 55, 56] (by decide +kernel) (by decide +kernel)
set_option maxRecDepth 20000 in
theorem gX8_setLoad_X8_records : GoodIn wsX8_setLoad (wsV RX8 70 RX8 yX8_records wsX8_records) := goodIn_app (goodIn_of _ (by decide +kernel)) ggX8_setLoad_X8_records
set_option maxRecDepth 20000 in
theorem ggX8_setLoad_X8_goes : GoodIn wsX8_setLoad wsX8_goes := goodIn_r _ [23, 11, 19, 24, 25, 26, 5, 27, 28, 29, 30, 31, 32, 33, 34, 43, 44, 45, 46, 47, 48, 49, 50, 51, 52, 53, 54, 55, 56] (by decide +kernel) (by decide +kernel)
set_option maxRecDepth 20000 in
theorem gX8_setLoad_X8_goes : GoodIn wsX8_setLoad (wsV RX8 60 RX8 yX8_goes wsX8_goes) := goodIn_app (goodIn_of _ (by decide +kernel)) ggX8_setLoad_X8_goes
set_option maxRecDepth 20000 in
theorem ggX8_setLoad_X8_reads : GoodIn wsX8_setLoad wsX8_reads := goodIn_r _ [38, 11, 39, 40, 41, 5, 42, 28, 29, 30, 43, 44, 45, 46, 47, 48, 49, 50, 51, 52, 53, 54, 55, 56] (by decide +kernel) (by decide +kernel)
set_option maxRecDepth 20000 in
theorem gX8_setLoad_X8_reads : GoodIn wsX8_setLoad (wsV RX8 73 RX8 yX8_reads wsX8_reads) := goodIn_app (goodIn_of _ (by decide +kernel)) ggX8_setLoad_X8_reads
set_option maxRecDepth 20000 in
theorem ggX8_brings_X8_refusal : GoodIn wsX8_brings wsX8_refusal := goodIn_r _ [7, 8, 9, 10, 6, 11, 47, 48, 49, 50, 51, 52, 53, 54, 55, 56, 57, 58, 59, 60] (by decide +kernel) (by decide +kernel)
set_option maxRecDepth 20000 in
theorem gX8_brings_X8_refusal : GoodIn wsX8_brings (wsV RX8 76 RX8 yX8_refusal wsX8_refusal) := goodIn_app (goodIn_of _ (by decide +kernel)) ggX8_brings_X8_refusal
set_option maxRecDepth 20000 in
theorem ggX8_brings_X8_records : GoodIn wsX8_brings wsX8_records := goodIn_r _ [15, 16, 17, 18, 8, 19, 47, 48, 49, 50, 51, 52, 53, 54, 55, 56, 57, 58, 59, 60] (by decide +kernel) (by decide +kernel)
set_option maxRecDepth 20000 in
theorem gX8_brings_X8_records : GoodIn wsX8_brings (wsV RX8 70 RX8 yX8_records wsX8_records) := goodIn_app (goodIn_of _ (by decide +kernel)) ggX8_brings_X8_records
set_option maxRecDepth 20000 in
theorem ggX8_brings_X8_moves : GoodIn wsX8_brings wsX8_moves := goodIn_r _ [23, 8, 24, 25, 26, 6, 27, 19, 28, 29, 30, 31, 32, 33, 34, 35, 36, 37, 38, 47, 48, 49, 50, 51, 52, 53, 54, 55, 56, 57, 58, 59, 60] (by decide +kernel) (by decide +kernel)
set_option maxRecDepth 20000 in
theorem gX8_brings_X8_moves : GoodIn wsX8_brings (wsV RX8 80 RX8 yX8_moves wsX8_moves) := goodIn_app (goodIn_of _ (by decide +kernel)) ggX8_brings_X8_moves
set_option maxRecDepth 20000 in
theorem ggX8_brings_X8_reads : GoodIn wsX8_brings wsX8_reads := goodIn_r _ [42, 8, 43, 44, 45, 6, 46, 32, 33, 34, 47, 48, 49, 50, 51, 52, 53, 54, 55, 56, 57, 58, 59, 60] (by decide +kernel) (by decide +kernel)
set_option maxRecDepth 20000 in
theorem gX8_brings_X8_reads : GoodIn wsX8_brings (wsV RX8 73 RX8 yX8_reads wsX8_reads) := goodIn_app (goodIn_of _ (by decide +kernel)) ggX8_brings_X8_reads
set_option maxRecDepth 20000 in
theorem ggX8_put_X8_brings : GoodIn wsX8_put wsX8_brings := goodIn_r _ [5, 6, 7, 8, 9, 10, 4, 11, 12, 13, 14, 15, 16, 17, 18, 19, 20, 21, 22, 23, 24, 25, 26, 27, 28, 29, 30, 31, 32, 33, 34, 35, 36, 37, 38, 39, 40, 41, 42, 43, 44, 45, 46, 47, 48, 49, 50, 51, 52, 53, 54, 55, 56, 57, 58, 59, 60, 61, 62, 63, 64] (by decide +kernel) (by decide +kernel)
set_option maxRecDepth 20000 in
theorem gX8_put_X8_brings : GoodIn wsX8_put (wsV RX8 84 RX8 yX8_brings wsX8_brings) := goodIn_app (goodIn_of _ (by decide +kernel)) ggX8_put_X8_brings
set_option maxRecDepth 20000 in
theorem ggX8_take_X8_brings : GoodIn wsX8_take wsX8_brings := goodIn_r _ [5, 6, 7, 8, 9, 10, 4, 11, 12, 13, 14, 15, 16, 17, 18, 19, 20, 21, 22, 23, 24, 25, 26, 27, 28, 29, 30, 31, 32, 33, 34, 35, 36, 37, 38, 39, 40, 41, 42, 43, 44, 45, 46, 47, 48, 49, 50, 51, 52, 53, 54, 55, 56, 57, 58, 59, 60, 61, 62, 63, 64] (by decide +kernel) (by decide +kernel)
set_option maxRecDepth 20000 in
theorem gX8_take_X8_brings : GoodIn wsX8_take (wsV RX8 84 RX8 yX8_brings wsX8_brings) := goodIn_app (goodIn_of _ (by decide +kernel)) ggX8_take_X8_brings
set_option maxRecDepth 20000 in
theorem ggX8_hours_X8_in : GoodIn wsX8_hours wsX8_in := goodIn_r _ [6] (by decide +kernel) (by decide +kernel)
set_option maxRecDepth 20000 in
theorem gX8_hours_X8_in : GoodIn wsX8_hours (va_wsS RX8 56 yX8_in wsX8_in) := goodIn_app (goodIn_of _ (by decide +kernel)) ggX8_hours_X8_in
set_option maxRecDepth 20000 in
theorem ggX8_hours_X8_records : GoodIn wsX8_hours wsX8_records := goodIn_r _ [10, 11, 12, 13, 2, 14, 23, 24, 25, 26, 27, 28, 29, 30, 31, 32, 33, 34, 35, 36] (by decide +kernel) (by decide +kernel)
set_option maxRecDepth 20000 in
theorem gX8_hours_X8_records : GoodIn wsX8_hours (wsV RX8 70 RX8 yX8_records wsX8_records) := goodIn_app (goodIn_of _ (by decide +kernel)) ggX8_hours_X8_records
set_option maxRecDepth 20000 in
theorem ggX8_hours_X8_creeps : GoodIn wsX8_hours wsX8_creeps := goodIn_r _ [18, 2, 19, 20, 21, 5, 22, 23, 24, 25, 26, 27, 28, 29, 30, 31, 32, 33, 34, 35, 36] (by decide +kernel) (by decide +kernel)
set_option maxRecDepth 20000 in
theorem gX8_hours_X8_creeps : GoodIn wsX8_hours (wsV RX8 87 RX8 yX8_creeps wsX8_creeps) := goodIn_app (goodIn_of _ (by decide +kernel)) ggX8_hours_X8_creeps
set_option maxRecDepth 20000 in
theorem ggX8_zero_X8_records : GoodIn wsX8_zero wsX8_records := goodIn_r _ [7, 8, 9, 10, 1, 11, 16, 17, 18, 19, 20, 21, 22, 23, 24, 25, 26, 27, 28, 29] (by decide +kernel) (by decide +kernel)
set_option maxRecDepth 20000 in
theorem gX8_zero_X8_records : GoodIn wsX8_zero (wsV RX8 70 RX8 yX8_records wsX8_records) := goodIn_app (goodIn_of _ (by decide +kernel)) ggX8_zero_X8_records
set_option maxRecDepth 20000 in
theorem ggX8_zero_X8_zeroes : GoodIn wsX8_zero wsX8_zeroes := goodIn_r _ [15, 1, 11, 16, 17, 18, 19, 20, 21, 22, 23, 24, 25, 26, 27, 28, 29] (by decide +kernel) (by decide +kernel)
set_option maxRecDepth 20000 in
theorem gX8_zero_X8_zeroes : GoodIn wsX8_zero (wsV RX8 90 RX8 yX8_zeroes wsX8_zeroes) := goodIn_app (goodIn_of _ (by decide +kernel)) ggX8_zero_X8_zeroes
set_option maxRecDepth 20000 in
theorem ggX8_count_X8_reads : GoodIn wsX8_count wsX8_reads := goodIn_r _ [9, 1, 10, 11, 12, 8, 13, 14, 15, 16, 17, 18, 19, 20, 21, 22, 23, 24, 25, 26, 27, 28, 29, 30] (by decide +kernel) (by decide +kernel)
set_option maxRecDepth 20000 in
theorem gX8_count_X8_reads : GoodIn wsX8_count (wsV RX8 73 RX8 yX8_reads wsX8_reads) := goodIn_app (goodIn_of _ (by decide +kernel)) ggX8_count_X8_reads
set_option maxRecDepth 20000 in
theorem ggX8_turning_X8_in : GoodIn wsX8_turning wsX8_in := goodIn_r _ [7] (by decide +kernel) (by decide +kernel)
set_option maxRecDepth 20000 in
theorem gX8_turning_X8_in : GoodIn wsX8_turning (va_wsS RX8 56 yX8_in wsX8_in) := goodIn_app (goodIn_of _ (by decide +kernel)) ggX8_turning_X8_in
set_option maxRecDepth 20000 in
theorem ggX8_again_X8_curveAt : GoodIn wsX8_again wsX8_curveAt := goodIn_r _ [6, 1, 7, 8, 5, 9, 10, 11, 12, 13, 14, 15, 16, 17, 18, 19, 20, 21, 22, 23] (by decide +kernel) (by decide +kernel)
set_option maxRecDepth 20000 in
theorem gX8_again_X8_curveAt : GoodIn wsX8_again (wsV RX8 45 RX8 yX8_curveAt wsX8_curveAt) := goodIn_app (goodIn_of _ (by decide +kernel)) ggX8_again_X8_curveAt
set_option maxRecDepth 20000 in
theorem ggX8_setPoint_X8_in : GoodIn wsX8_setPoint wsX8_in := goodIn_r _ [8] (by decide +kernel) (by decide +kernel)
set_option maxRecDepth 20000 in
theorem gX8_setPoint_X8_in : GoodIn wsX8_setPoint (va_wsS RX8 56 yX8_in wsX8_in) := goodIn_app (goodIn_of _ (by decide +kernel)) ggX8_setPoint_X8_in
set_option maxRecDepth 20000 in
theorem ggX8_setPoint_X8_pointAt : GoodIn wsX8_setPoint wsX8_pointAt := goodIn_r _ [12, 2, 25, 26, 27, 28, 29, 30, 31, 32, 33, 34, 35, 36, 37, 38] (by decide +kernel) (by decide +kernel)
set_option maxRecDepth 20000 in
theorem gX8_setPoint_X8_pointAt : GoodIn wsX8_setPoint (wsV RX8 97 RX8 yX8_pointAt wsX8_pointAt) := goodIn_app (goodIn_of _ (by decide +kernel)) ggX8_setPoint_X8_pointAt
set_option maxRecDepth 20000 in
theorem ggX8_setPoint_X8_isFree : GoodIn wsX8_setPoint wsX8_isFree := goodIn_r _ [16, 2, 25, 26, 27, 28, 29, 30, 31, 32, 33, 34, 35, 36, 37, 38] (by decide +kernel) (by decide +kernel)
set_option maxRecDepth 20000 in
theorem gX8_setPoint_X8_isFree : GoodIn wsX8_setPoint (wsV RX8 100 RX8 yX8_isFree wsX8_isFree) := goodIn_app (goodIn_of _ (by decide +kernel)) ggX8_setPoint_X8_isFree
set_option maxRecDepth 20000 in
theorem ggX8_setPoint_X8_records : GoodIn wsX8_setPoint wsX8_records := goodIn_r _ [20, 21, 22, 23, 2, 24, 25, 26, 27, 28, 29, 30, 31, 32, 33, 34, 35, 36, 37, 38] (by decide +kernel) (by decide +kernel)
set_option maxRecDepth 20000 in
theorem gX8_setPoint_X8_records : GoodIn wsX8_setPoint (wsV RX8 70 RX8 yX8_records wsX8_records) := goodIn_app (goodIn_of _ (by decide +kernel)) ggX8_setPoint_X8_records
