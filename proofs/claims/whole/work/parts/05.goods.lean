set_option maxRecDepth 20000 in
theorem ggX8_removePoint_X8_in : GoodIn wsX8_removePoint wsX8_in := goodIn_r _ [8] (by decide +kernel) (by decide +kernel)
set_option maxRecDepth 20000 in
theorem gX8_removePoint_X8_in : GoodIn wsX8_removePoint (va_wsS RX8 56 yX8_in wsX8_in) := goodIn_app (goodIn_of _ (by decide +kernel)) ggX8_removePoint_X8_in
set_option maxRecDepth 20000 in
theorem ggX8_removePoint_X8_isFree : GoodIn wsX8_removePoint wsX8_isFree := goodIn_r _ [12, 3, 25, 26, 27, 28, 29, 30, 31, 32, 33, 34, 35, 36, 37, 38] (by decide +kernel) (by decide +kernel)
set_option maxRecDepth 20000 in
theorem gX8_removePoint_X8_isFree : GoodIn wsX8_removePoint (wsV RX8 100 RX8 yX8_isFree wsX8_isFree) := goodIn_app (goodIn_of _ (by decide +kernel)) ggX8_removePoint_X8_isFree
set_option maxRecDepth 20000 in
theorem ggX8_removePoint_X8_pointAt : GoodIn wsX8_removePoint wsX8_pointAt := goodIn_r _ [16, 3, 25, 26, 27, 28, 29, 30, 31, 32, 33, 34, 35, 36, 37, 38] (by decide +kernel) (by decide +kernel)
set_option maxRecDepth 20000 in
theorem gX8_removePoint_X8_pointAt : GoodIn wsX8_removePoint (wsV RX8 97 RX8 yX8_pointAt wsX8_pointAt) := goodIn_app (goodIn_of _ (by decide +kernel)) ggX8_removePoint_X8_pointAt
set_option maxRecDepth 20000 in
theorem ggX8_removePoint_X8_records : GoodIn wsX8_removePoint wsX8_records := goodIn_r _ [20, 21, 22, 23, 3, 24, 25, 26, 27, 28, 29, 30, 31, 32, 33, 34, 35, 36, 37, 38] (by decide +kernel) (by decide +kernel)
set_option maxRecDepth 20000 in
theorem gX8_removePoint_X8_records : GoodIn wsX8_removePoint (wsV RX8 70 RX8 yX8_records wsX8_records) := goodIn_app (goodIn_of _ (by decide +kernel)) ggX8_removePoint_X8_records
set_option maxRecDepth 20000 in
theorem ggX8_curve_X8_in : GoodIn wsX8_curve wsX8_in := goodIn_r _ [5] (by decide +kernel) (by decide +kernel)
set_option maxRecDepth 20000 in
theorem gX8_curve_X8_in : GoodIn wsX8_curve (va_wsS RX8 56 yX8_in wsX8_in) := goodIn_app (goodIn_of _ (by decide +kernel)) ggX8_curve_X8_in
set_option maxRecDepth 20000 in
theorem ggX8_curve_X8_curveAt : GoodIn wsX8_curve wsX8_curveAt := goodIn_r _ [9, 10, 11, 12, 4, 13, 14, 15, 16, 17, 18, 19, 20, 21, 22, 23, 24, 25, 26, 27] (by decide +kernel) (by decide +kernel)
set_option maxRecDepth 20000 in
theorem gX8_curve_X8_curveAt : GoodIn wsX8_curve (wsV RX8 45 RX8 yX8_curveAt wsX8_curveAt) := goodIn_app (goodIn_of _ (by decide +kernel)) ggX8_curve_X8_curveAt
set_option maxRecDepth 20000 in
theorem ggX8_setBreak_X8_in : GoodIn wsX8_setBreak wsX8_in := goodIn_r _ [8] (by decide +kernel) (by decide +kernel)
set_option maxRecDepth 20000 in
theorem gX8_setBreak_X8_in : GoodIn wsX8_setBreak (va_wsS RX8 56 yX8_in wsX8_in) := goodIn_app (goodIn_of _ (by decide +kernel)) ggX8_setBreak_X8_in
set_option maxRecDepth 20000 in
theorem ggX8_setBreak_X8_records : GoodIn wsX8_setBreak wsX8_records := goodIn_r _ [12, 13, 14, 15, 2, 16, 17, 18, 19, 20, 21, 22, 23, 24, 25, 26, 27, 28, 29, 30] (by decide +kernel) (by decide +kernel)
set_option maxRecDepth 20000 in
theorem gX8_setBreak_X8_records : GoodIn wsX8_setBreak (wsV RX8 70 RX8 yX8_records wsX8_records) := goodIn_app (goodIn_of _ (by decide +kernel)) ggX8_setBreak_X8_records
set_option maxRecDepth 20000 in
theorem ggX8_removeBreak_X8_in : GoodIn wsX8_removeBreak wsX8_in := goodIn_r _ [7] (by decide +kernel) (by decide +kernel)
set_option maxRecDepth 20000 in
theorem gX8_removeBreak_X8_in : GoodIn wsX8_removeBreak (va_wsS RX8 56 yX8_in wsX8_in) := goodIn_app (goodIn_of _ (by decide +kernel)) ggX8_removeBreak_X8_in
set_option maxRecDepth 20000 in
theorem ggX8_removeBreak_X8_records : GoodIn wsX8_removeBreak wsX8_records := goodIn_r _ [11, 12, 13, 14, 1, 15, 16, 17, 18, 19, 20, 21, 22, 23, 24, 25, 26, 27, 28, 29] (by decide +kernel) (by decide +kernel)
set_option maxRecDepth 20000 in
theorem gX8_removeBreak_X8_records : GoodIn wsX8_removeBreak (wsV RX8 70 RX8 yX8_records wsX8_records) := goodIn_app (goodIn_of _ (by decide +kernel)) ggX8_removeBreak_X8_records
set_option maxRecDepth 20000 in
theorem ggX8_entry_X8_in : GoodIn wsX8_entry wsX8_in := goodIn_r _ [7] (by decide +kernel) (by decide +kernel)
set_option maxRecDepth 20000 in
theorem gX8_entry_X8_in : GoodIn wsX8_entry (va_wsS RX8 56 yX8_in wsX8_in) := goodIn_app (goodIn_of _ (by decide +kernel)) ggX8_entry_X8_in
set_option maxRecDepth 20000 in
theorem ggX8_readingAt_X8_in : GoodIn wsX8_readingAt wsX8_in := goodIn_r _ [5] (by decide +kernel) (by decide +kernel)
set_option maxRecDepth 20000 in
theorem gX8_readingAt_X8_in : GoodIn wsX8_readingAt (va_wsS RX8 56 yX8_in wsX8_in) := goodIn_app (goodIn_of _ (by decide +kernel)) ggX8_readingAt_X8_in
set_option maxRecDepth 20000 in
theorem ggX8_readingAt_X8_readingOf : GoodIn wsX8_readingAt wsX8_readingOf := goodIn_r _ [9, 10, 11, 12, 4, 13, 14, 15, 16, 17, 18, 19, 20, 21, 22, 23, 24, 25, 26, 27] (by decide +kernel) (by decide +kernel)
set_option maxRecDepth 20000 in
theorem gX8_readingAt_X8_readingOf : GoodIn wsX8_readingAt (wsV RX8 52 RX8 yX8_readingOf wsX8_readingOf) := goodIn_app (goodIn_of _ (by decide +kernel)) ggX8_readingAt_X8_readingOf
set_option maxRecDepth 20000 in
theorem ggX8_slopeBits_Jxf58ca_floatToIntBits_5c35a : GoodIn wsX8_slopeBits wsJxf58ca_floatToIntBits_5c35a := goodIn_r _ [7, 8, 9, 10, 11, 12, 13, 14, 6, 15] (by decide +kernel) (by decide +kernel)
set_option maxRecDepth 20000 in
theorem gX8_slopeBits_Jxf58ca_floatToIntBits_5c35a : GoodIn wsX8_slopeBits (va_wsS RX8 105 yJxf58ca_floatToIntBits_5c35a wsJxf58ca_floatToIntBits_5c35a) := goodIn_app (goodIn_of _ (by decide +kernel)) ggX8_slopeBits_Jxf58ca_floatToIntBits_5c35a
set_option maxRecDepth 20000 in
theorem ggX8_set_X8_in : GoodIn wsX8_set wsX8_in := goodIn_r _ [6] (by decide +kernel) (by decide +kernel)
set_option maxRecDepth 20000 in
theorem gX8_set_X8_in : GoodIn wsX8_set (va_wsS RX8 56 yX8_in wsX8_in) := goodIn_app (goodIn_of _ (by decide +kernel)) ggX8_set_X8_in
set_option maxRecDepth 20000 in
theorem ggX8_set_X8_records : GoodIn wsX8_set wsX8_records := goodIn_r _ [10, 11, 12, 13, 2, 14, 15, 16, 17, 18, 19, 20, 21, 22, 23, 24, 25, 26, 27, 28] (by decide +kernel) (by decide +kernel)
set_option maxRecDepth 20000 in
theorem gX8_set_X8_records : GoodIn wsX8_set (wsV RX8 70 RX8 yX8_records wsX8_records) := goodIn_app (goodIn_of _ (by decide +kernel)) ggX8_set_X8_records
set_option maxRecDepth 20000 in
theorem ggX8_addWeight_X8_in : GoodIn wsX8_addWeight wsX8_in := goodIn_r _ [7] (by decide +kernel) (by decide +kernel)
set_option maxRecDepth 20000 in
theorem gX8_addWeight_X8_in : GoodIn wsX8_addWeight (va_wsS RX8 56 yX8_in wsX8_in) := goodIn_app (goodIn_of _ (by decide +kernel)) ggX8_addWeight_X8_in
set_option maxRecDepth 20000 in
theorem ggX8_addWeight_X8_records : GoodIn wsX8_addWeight wsX8_records := goodIn_r _ [11, 12, 13, 14, 1, 15, 16, 17, 18, 19, 20, 21, 22, 23, 24, 25, 26, 27, 28, 29] (by decide +kernel) (by decide +kernel)
set_option maxRecDepth 20000 in
theorem gX8_addWeight_X8_records : GoodIn wsX8_addWeight (wsV RX8 70 RX8 yX8_records wsX8_records) := goodIn_app (goodIn_of _ (by decide +kernel)) ggX8_addWeight_X8_records
set_option maxRecDepth 20000 in
theorem ggX8_isWeight_X8_in : GoodIn wsX8_isWeight wsX8_in := goodIn_r _ [5] (by decide +kernel) (by decide +kernel)
set_option maxRecDepth 20000 in
theorem gX8_isWeight_X8_in : GoodIn wsX8_isWeight (va_wsS RX8 56 yX8_in wsX8_in) := goodIn_app (goodIn_of _ (by decide +kernel)) ggX8_isWeight_X8_in
set_option maxRecDepth 20000 in
theorem ggX8_removeWeight_X8_isWeight : GoodIn wsX8_removeWeight wsX8_isWeight := goodIn_r _ [8, 2, 9, 10, 7, 11, 20, 21, 22, 23, 24, 25, 26, 27, 28, 29, 30, 31, 32, 33] (by decide +kernel) (by decide +kernel)
set_option maxRecDepth 20000 in
theorem gX8_removeWeight_X8_isWeight : GoodIn wsX8_removeWeight (wsV RX8 111 RX8 yX8_isWeight wsX8_isWeight) := goodIn_app (goodIn_of _ (by decide +kernel)) ggX8_removeWeight_X8_isWeight
set_option maxRecDepth 20000 in
theorem ggX8_removeWeight_X8_records : GoodIn wsX8_removeWeight wsX8_records := goodIn_r _ [15, 16, 17, 18, 2, 19, 20, 21, 22, 23, 24, 25, 26, 27, 28, 29, 30, 31, 32, 33] (by decide +kernel) (by decide +kernel)
set_option maxRecDepth 20000 in
theorem gX8_removeWeight_X8_records : GoodIn wsX8_removeWeight (wsV RX8 70 RX8 yX8_records wsX8_records) := goodIn_app (goodIn_of _ (by decide +kernel)) ggX8_removeWeight_X8_records
set_option maxRecDepth 20000 in
theorem ggX8_weight_X8_isWeight : GoodIn wsX8_weight wsX8_isWeight := goodIn_r _ [7, 2, 8, 9, 6, 10, 19, 20, 21, 22, 23, 24, 25, 26, 27, 28, 29, 30, 31, 32] (by decide +kernel) (by decide +kernel)
set_option maxRecDepth 20000 in
theorem gX8_weight_X8_isWeight : GoodIn wsX8_weight (wsV RX8 111 RX8 yX8_isWeight wsX8_isWeight) := goodIn_app (goodIn_of _ (by decide +kernel)) ggX8_weight_X8_isWeight
set_option maxRecDepth 20000 in
theorem ggX8_weight_X8_in : GoodIn wsX8_weight wsX8_in := goodIn_r _ [10] (by decide +kernel) (by decide +kernel)
set_option maxRecDepth 20000 in
theorem gX8_weight_X8_in : GoodIn wsX8_weight (va_wsS RX8 56 yX8_in wsX8_in) := goodIn_app (goodIn_of _ (by decide +kernel)) ggX8_weight_X8_in
set_option maxRecDepth 20000 in
theorem ggX8_weight_X8_chained : GoodIn wsX8_weight wsX8_chained := goodIn_r _ [14, 2, 19, 20, 21, 22, 23, 24, 25, 26, 27, 28, 29, 30, 31, 32] (by decide +kernel) (by decide +kernel)
set_option maxRecDepth 20000 in
theorem gX8_weight_X8_chained : GoodIn wsX8_weight (wsV RX8 115 RX8 yX8_chained wsX8_chained) := goodIn_app (goodIn_of _ (by decide +kernel)) ggX8_weight_X8_chained
set_option maxRecDepth 20000 in
theorem ggX8_weight_X8_isTraced : GoodIn wsX8_weight wsX8_isTraced := goodIn_r _ [18, 2, 19, 20, 21, 22, 23, 24, 25, 26, 27, 28, 29, 30, 31, 32] (by decide +kernel) (by decide +kernel)
set_option maxRecDepth 20000 in
theorem gX8_weight_X8_isTraced : GoodIn wsX8_weight (wsV RX8 118 RX8 yX8_isTraced wsX8_isTraced) := goodIn_app (goodIn_of _ (by decide +kernel)) ggX8_weight_X8_isTraced
set_option maxRecDepth 20000 in
theorem ggX8_isSet_X8_ones : GoodIn wsX8_isSet wsX8_ones := goodIn_r _ [5] (by decide +kernel) (by decide +kernel)
set_option maxRecDepth 20000 in
theorem gX8_isSet_X8_ones : GoodIn wsX8_isSet (va_wsS RX8 122 yX8_ones wsX8_ones) := goodIn_app (goodIn_of _ (by decide +kernel)) ggX8_isSet_X8_ones
set_option maxRecDepth 20000 in
theorem ggX8_calibrates_X8_zeroes : GoodIn wsX8_calibrates wsX8_zeroes := goodIn_r _ [10, 2, 3, 26, 27, 28, 29, 30, 31, 32, 33, 34, 35, 36, 37, 38, 39] (by decide +kernel) (by decide +kernel)
set_option maxRecDepth 20000 in
theorem gX8_calibrates_X8_zeroes : GoodIn wsX8_calibrates (wsV RX8 90 RX8 yX8_zeroes wsX8_zeroes) := goodIn_app (goodIn_of _ (by decide +kernel)) ggX8_calibrates_X8_zeroes
set_option maxRecDepth 20000 in
theorem ggX8_calibrates_X8_goes : GoodIn wsX8_calibrates wsX8_goes := goodIn_r _ [14, 2, 3, 15, 16, 17, 9, 18, 19, 20, 21, 22, 23, 24, 25, 26, 27, 28, 29, 30, 31, 32, 33, 34, 35, 36, 37, 38, 39] (by decide +kernel) (by decide +kernel)
set_option maxRecDepth 20000 in
theorem gX8_calibrates_X8_goes : GoodIn wsX8_calibrates (wsV RX8 60 RX8 yX8_goes wsX8_goes) := goodIn_app (goodIn_of _ (by decide +kernel)) ggX8_calibrates_X8_goes
set_option maxRecDepth 20000 in
theorem ggX8_middle_X8_down : GoodIn wsX8_middle wsX8_down := goodIn_r _ [6] (by decide +kernel) (by decide +kernel)
set_option maxRecDepth 20000 in
theorem gX8_middle_X8_down : GoodIn wsX8_middle (va_wsS RX8 41 yX8_down wsX8_down) := goodIn_app (goodIn_of _ (by decide +kernel)) ggX8_middle_X8_down
set_option maxRecDepth 20000 in
theorem ggX8_isScale_X8_middle : GoodIn wsX8_isScale wsX8_middle := goodIn_r _ [6, 7, 8, 9, 10, 5, 11, 15, 16, 17, 18, 19, 20, 21, 22, 23, 24, 25, 26, 27, 28] (by decide +kernel) (by decide +kernel)
set_option maxRecDepth 20000 in
theorem gX8_isScale_X8_middle : GoodIn wsX8_isScale (wsV RX8 127 RX8 yX8_middle wsX8_middle) := goodIn_app (goodIn_of _ (by decide +kernel)) ggX8_isScale_X8_middle
set_option maxRecDepth 20000 in
theorem ggX8_isScale_X8_in : GoodIn wsX8_isScale wsX8_in := goodIn_r _ [14] (by decide +kernel) (by decide +kernel)
set_option maxRecDepth 20000 in
theorem gX8_isScale_X8_in : GoodIn wsX8_isScale (va_wsS RX8 56 yX8_in wsX8_in) := goodIn_app (goodIn_of _ (by decide +kernel)) ggX8_isScale_X8_in
set_option maxRecDepth 20000 in
theorem ggX8_calibration_X8_isSet : GoodIn wsX8_calibration wsX8_isSet := goodIn_r _ [10, 5, 11, 12, 9, 13, 60, 61, 62, 63, 64, 65, 66, 67, 68, 69, 70, 71, 72, 73] (by decide +kernel) (by decide +kernel)
set_option maxRecDepth 20000 in
theorem gX8_calibration_X8_isSet : GoodIn wsX8_calibration (wsV RX8 130 RX8 yX8_isSet wsX8_isSet) := goodIn_app (goodIn_of _ (by decide +kernel)) ggX8_calibration_X8_isSet
set_option maxRecDepth 20000 in
theorem ggX8_calibration_X8_in : GoodIn wsX8_calibration wsX8_in := goodIn_r _ [16] (by decide +kernel) (by decide +kernel)
set_option maxRecDepth 20000 in
theorem gX8_calibration_X8_in : GoodIn wsX8_calibration (va_wsS RX8 56 yX8_in wsX8_in) := goodIn_app (goodIn_of _ (by decide +kernel)) ggX8_calibration_X8_in
set_option maxRecDepth 20000 in
theorem ggX8_calibration_X8_isCalibrating : GoodIn wsX8_calibration wsX8_isCalibrating := goodIn_r _ [20, 5, 60, 61, 62, 63, 64, 65, 66, 67, 68, 69, 70, 71, 72, 73] (by decide +kernel) (by decide +kernel)
set_option maxRecDepth 20000 in
theorem gX8_calibration_X8_isCalibrating : GoodIn wsX8_calibration (wsV RX8 133 RX8 yX8_isCalibrating wsX8_isCalibrating) := goodIn_app (goodIn_of _ (by decide +kernel)) ggX8_calibration_X8_isCalibrating
set_option maxRecDepth 20000 in
theorem ggX8_calibration_X8_ones : GoodIn wsX8_calibration wsX8_ones := goodIn_r _ [13] (by decide +kernel) (by decide +kernel)
set_option maxRecDepth 20000 in
theorem gX8_calibration_X8_ones : GoodIn wsX8_calibration (va_wsS RX8 122 yX8_ones wsX8_ones) := goodIn_app (goodIn_of _ (by decide +kernel)) ggX8_calibration_X8_ones
set_option maxRecDepth 20000 in
theorem ggX8_calibration_X8_calibrates : GoodIn wsX8_calibration wsX8_calibrates := goodIn_r _ [24, 25, 5, 26, 4, 27, 28, 29, 30, 9, 31, 32, 33, 34, 35, 36, 37, 38, 39, 40, 41, 42, 43, 44, 45, 46, 60, 61, 62, 63, 64, 65, 66, 67, 68, 69, 70, 71, 72, 73] (by decide +kernel) (by decide +kernel)
set_option maxRecDepth 20000 in
theorem gX8_calibration_X8_calibrates : GoodIn wsX8_calibration (wsV RX8 136 RX8 yX8_calibrates wsX8_calibrates) := goodIn_app (goodIn_of _ (by decide +kernel)) ggX8_calibration_X8_calibrates
set_option maxRecDepth 20000 in
theorem ggX8_calibration_X8_chained : GoodIn wsX8_calibration wsX8_chained := goodIn_r _ [50, 5, 60, 61, 62, 63, 64, 65, 66, 67, 68, 69, 70, 71, 72, 73] (by decide +kernel) (by decide +kernel)
set_option maxRecDepth 20000 in
theorem gX8_calibration_X8_chained : GoodIn wsX8_calibration (wsV RX8 115 RX8 yX8_chained wsX8_chained) := goodIn_app (goodIn_of _ (by decide +kernel)) ggX8_calibration_X8_chained
set_option maxRecDepth 20000 in
theorem ggX8_calibration_X8_isScale : GoodIn wsX8_calibration wsX8_isScale := goodIn_r _ [54, 27, 55, 56, 57, 9, 58, 4, 59, 40, 41, 42, 14, 15, 16, 60, 61, 62, 63, 64, 65, 66, 67, 68, 69, 70, 71, 72, 73] (by decide +kernel) (by decide +kernel)
set_option maxRecDepth 20000 in
theorem gX8_calibration_X8_isScale : GoodIn wsX8_calibration (wsV RX8 139 RX8 yX8_isScale wsX8_isScale) := goodIn_app (goodIn_of _ (by decide +kernel)) ggX8_calibration_X8_isScale
set_option maxRecDepth 20000 in
theorem ggX8_adopt_X8_isSet : GoodIn wsX8_adopt wsX8_isSet := goodIn_r _ [9, 3, 10, 11, 8, 12, 62, 63, 64, 65, 66, 67, 68, 69, 70, 71, 72, 73, 74, 75] (by decide +kernel) (by decide +kernel)
set_option maxRecDepth 20000 in
theorem gX8_adopt_X8_isSet : GoodIn wsX8_adopt (wsV RX8 130 RX8 yX8_isSet wsX8_isSet) := goodIn_app (goodIn_of _ (by decide +kernel)) ggX8_adopt_X8_isSet
set_option maxRecDepth 20000 in
theorem ggX8_adopt_X8_isCalibrating : GoodIn wsX8_adopt wsX8_isCalibrating := goodIn_r _ [16, 3, 62, 63, 64, 65, 66, 67, 68, 69, 70, 71, 72, 73, 74, 75] (by decide +kernel) (by decide +kernel)
set_option maxRecDepth 20000 in
theorem gX8_adopt_X8_isCalibrating : GoodIn wsX8_adopt (wsV RX8 133 RX8 yX8_isCalibrating wsX8_isCalibrating) := goodIn_app (goodIn_of _ (by decide +kernel)) ggX8_adopt_X8_isCalibrating
set_option maxRecDepth 20000 in
theorem ggX8_adopt_X8_ones : GoodIn wsX8_adopt wsX8_ones := goodIn_r _ [12] (by decide +kernel) (by decide +kernel)
set_option maxRecDepth 20000 in
theorem gX8_adopt_X8_ones : GoodIn wsX8_adopt (va_wsS RX8 122 yX8_ones wsX8_ones) := goodIn_app (goodIn_of _ (by decide +kernel)) ggX8_adopt_X8_ones
set_option maxRecDepth 20000 in
theorem ggX8_adopt_X8_calibrates : GoodIn wsX8_adopt wsX8_calibrates := goodIn_r _ [20, 21, 3, 22, 23, 4, 24, 25, 26, 8, 27, 28, 29, 30, 31, 32, 33, 34, 35, 36, 37, 38, 39, 40, 41, 42, 62, 63, 64, 65, 66, 67, 68, 69, 70, 71, 72, 73, 74, 75] (by decide +kernel) (by decide +kernel)
set_option maxRecDepth 20000 in
theorem gX8_adopt_X8_calibrates : GoodIn wsX8_adopt (wsV RX8 136 RX8 yX8_calibrates wsX8_calibrates) := goodIn_app (goodIn_of _ (by decide +kernel)) ggX8_adopt_X8_calibrates
set_option maxRecDepth 20000 in
theorem ggX8_adopt_X8_isScale : GoodIn wsX8_adopt wsX8_isScale := goodIn_r _ [46, 4, 47, 48, 49, 8, 50, 23, 51, 36, 37, 38, 52, 53, 54, 62, 63, 64, 65, 66, 67, 68, 69, 70, 71, 72, 73, 74, 75] (by decide +kernel) (by decide +kernel)
set_option maxRecDepth 20000 in
theorem gX8_adopt_X8_isScale : GoodIn wsX8_adopt (wsV RX8 139 RX8 yX8_isScale wsX8_isScale) := goodIn_app (goodIn_of _ (by decide +kernel)) ggX8_adopt_X8_isScale
set_option maxRecDepth 20000 in
theorem ggX8_adopt_X8_records : GoodIn wsX8_adopt wsX8_records := goodIn_r _ [58, 59, 60, 61, 3, 22, 62, 63, 64, 65, 66, 67, 68, 69, 70, 71, 72, 73, 74, 75] (by decide +kernel) (by decide +kernel)
set_option maxRecDepth 20000 in
theorem gX8_adopt_X8_records : GoodIn wsX8_adopt (wsV RX8 70 RX8 yX8_records wsX8_records) := goodIn_app (goodIn_of _ (by decide +kernel)) ggX8_adopt_X8_records
set_option maxRecDepth 20000 in
theorem ggX8_adopt_X8_middle : GoodIn wsX8_adopt wsX8_middle := goodIn_r _ [50, 23, 51, 36, 37, 8, 38, 62, 63, 64, 65, 66, 67, 68, 69, 70, 71, 72, 73, 74, 75] (by decide +kernel) (by decide +kernel)
set_option maxRecDepth 20000 in
theorem gX8_adopt_X8_middle : GoodIn wsX8_adopt (wsV RX8 127 RX8 yX8_middle wsX8_middle) := goodIn_app (goodIn_of _ (by decide +kernel)) ggX8_adopt_X8_middle
set_option maxRecDepth 20000 in
theorem ggX8_type_X8_in : GoodIn wsX8_type wsX8_in := goodIn_r _ [8] (by decide +kernel) (by decide +kernel)
set_option maxRecDepth 20000 in
theorem gX8_type_X8_in : GoodIn wsX8_type (va_wsS RX8 56 yX8_in wsX8_in) := goodIn_app (goodIn_of _ (by decide +kernel)) ggX8_type_X8_in
set_option maxRecDepth 20000 in
theorem ggX8_readsNumber_X8_in : GoodIn wsX8_readsNumber wsX8_in := goodIn_r _ [8] (by decide +kernel) (by decide +kernel)
set_option maxRecDepth 20000 in
theorem gX8_readsNumber_X8_in : GoodIn wsX8_readsNumber (va_wsS RX8 56 yX8_in wsX8_in) := goodIn_app (goodIn_of _ (by decide +kernel)) ggX8_readsNumber_X8_in
set_option maxRecDepth 20000 in
theorem ggX8_readsMove_X8_readsNumber : GoodIn wsX8_readsMove wsX8_readsNumber := goodIn_r _ [9, 2, 10, 4, 1, 11, 12, 8, 13, 14, 15, 16, 17, 18, 19, 20, 21, 22, 23, 24, 25, 26, 27] (by decide +kernel) (by decide +kernel)
set_option maxRecDepth 20000 in
theorem gX8_readsMove_X8_readsNumber : GoodIn wsX8_readsMove (wsV RX8 151 RX8 yX8_readsNumber wsX8_readsNumber) := goodIn_app (goodIn_of _ (by decide +kernel)) ggX8_readsMove_X8_readsNumber
set_option maxRecDepth 20000 in
theorem ggX8_fault_X8_readsMove : GoodIn wsX8_fault wsX8_readsMove := goodIn_r _ [8, 9, 1, 10, 2, 11, 12, 13, 7, 14, 15, 16, 17, 18, 19, 20, 21, 22, 23, 24, 25, 26, 27, 28, 29, 30, 31, 32] (by decide +kernel) (by decide +kernel)
set_option maxRecDepth 20000 in
theorem gX8_fault_X8_readsMove : GoodIn wsX8_fault (wsV RX8 154 RX8 yX8_readsMove wsX8_readsMove) := goodIn_app (goodIn_of _ (by decide +kernel)) ggX8_fault_X8_readsMove
set_option maxRecDepth 20000 in
theorem ggX8_carries_X8_refusal : GoodIn wsX8_carries wsX8_refusal := goodIn_r _ [8, 3, 9, 10, 7, 11, 44, 45, 46, 47, 48, 49, 50, 51, 52, 53, 54, 55, 56, 57] (by decide +kernel) (by decide +kernel)
set_option maxRecDepth 20000 in
theorem gX8_carries_X8_refusal : GoodIn wsX8_carries (wsV RX8 76 RX8 yX8_refusal wsX8_refusal) := goodIn_app (goodIn_of _ (by decide +kernel)) ggX8_carries_X8_refusal
set_option maxRecDepth 20000 in
theorem ggX8_carries_X8_moves : GoodIn wsX8_carries wsX8_moves := goodIn_r _ [15, 3, 16, 17, 18, 7, 19, 20, 21, 22, 23, 24, 25, 26, 27, 28, 29, 30, 31, 44, 45, 46, 47, 48, 49, 50, 51, 52, 53, 54, 55, 56, 57] (by decide +kernel) (by decide +kernel)
set_option maxRecDepth 20000 in
theorem gX8_carries_X8_moves : GoodIn wsX8_carries (wsV RX8 80 RX8 yX8_moves wsX8_moves) := goodIn_app (goodIn_of _ (by decide +kernel)) ggX8_carries_X8_moves
set_option maxRecDepth 20000 in
theorem ggX8_carries_X8_onPan : GoodIn wsX8_carries wsX8_onPan := goodIn_r _ [35, 3, 44, 45, 46, 47, 48, 49, 50, 51, 52, 53, 54, 55, 56, 57] (by decide +kernel) (by decide +kernel)
set_option maxRecDepth 20000 in
theorem gX8_carries_X8_onPan : GoodIn wsX8_carries (wsV RX8 65 RX8 yX8_onPan wsX8_onPan) := goodIn_app (goodIn_of _ (by decide +kernel)) ggX8_carries_X8_onPan
set_option maxRecDepth 20000 in
theorem ggX8_carries_X8_goes : GoodIn wsX8_carries wsX8_goes := goodIn_r _ [19, 3, 20, 21, 22, 23, 7, 24, 25, 26, 27, 28, 29, 30, 31, 44, 45, 46, 47, 48, 49, 50, 51, 52, 53, 54, 55, 56, 57] (by decide +kernel) (by decide +kernel)
set_option maxRecDepth 20000 in
theorem gX8_carries_X8_goes : GoodIn wsX8_carries (wsV RX8 60 RX8 yX8_goes wsX8_goes) := goodIn_app (goodIn_of _ (by decide +kernel)) ggX8_carries_X8_goes
set_option maxRecDepth 20000 in
theorem ggX8_carries_X8_creeps : GoodIn wsX8_carries wsX8_creeps := goodIn_r _ [39, 3, 28, 29, 30, 7, 31, 44, 45, 46, 47, 48, 49, 50, 51, 52, 53, 54, 55, 56, 57] (by decide +kernel) (by decide +kernel)
set_option maxRecDepth 20000 in
theorem gX8_carries_X8_creeps : GoodIn wsX8_carries (wsV RX8 87 RX8 yX8_creeps wsX8_creeps) := goodIn_app (goodIn_of _ (by decide +kernel)) ggX8_carries_X8_creeps
set_option maxRecDepth 20000 in
theorem ggX8_carries_X8_zeroes : GoodIn wsX8_carries wsX8_zeroes := goodIn_r _ [43, 3, 20, 44, 45, 46, 47, 48, 49, 50, 51, 52, 53, 54, 55, 56, 57] (by decide +kernel) (by decide +kernel)
set_option maxRecDepth 20000 in
theorem gX8_carries_X8_zeroes : GoodIn wsX8_carries (wsV RX8 90 RX8 yX8_zeroes wsX8_zeroes) := goodIn_app (goodIn_of _ (by decide +kernel)) ggX8_carries_X8_zeroes
set_option maxRecDepth 20000 in
theorem ggX8_move_X8_fault : GoodIn wsX8_move wsX8_fault := goodIn_r _ [10, 3, 4, 1, 11, 12, 13, 9, 14, 15, 16, 17, 18, 19, 20, 21, 22, 23, 24, 73, 74, 75, 76, 77, 78, 79, 80, 81, 82, 83, 84, 85, 86] (by decide +kernel) (by decide +kernel)
set_option maxRecDepth 20000 in
theorem gX8_move_X8_fault : GoodIn wsX8_move (wsV RX8 157 RX8 yX8_fault wsX8_fault) := goodIn_app (goodIn_of _ (by decide +kernel)) ggX8_move_X8_fault
set_option maxRecDepth 20000 in
theorem ggX8_move_X8_records : GoodIn wsX8_move wsX8_records := goodIn_r _ [28, 29, 30, 31, 32, 33, 73, 74, 75, 76, 77, 78, 79, 80, 81, 82, 83, 84, 85, 86] (by decide +kernel) (by decide +kernel)
set_option maxRecDepth 20000 in
theorem gX8_move_X8_records : GoodIn wsX8_move (wsV RX8 70 RX8 yX8_records wsX8_records) := goodIn_app (goodIn_of _ (by decide +kernel)) ggX8_move_X8_records
set_option maxRecDepth 20000 in
theorem ggX8_move_X8_readsMove : GoodIn wsX8_move wsX8_readsMove := goodIn_r _ [14, 15, 3, 16, 4, 17, 18, 19, 9, 20, 21, 22, 23, 24, 73, 74, 75, 76, 77, 78, 79, 80, 81, 82, 83, 84, 85, 86] (by decide +kernel) (by decide +kernel)
set_option maxRecDepth 20000 in
theorem gX8_move_X8_readsMove : GoodIn wsX8_move (wsV RX8 154 RX8 yX8_readsMove wsX8_readsMove) := goodIn_app (goodIn_of _ (by decide +kernel)) ggX8_move_X8_readsMove
set_option maxRecDepth 20000 in
theorem ggX8_move_X8_carries : GoodIn wsX8_move wsX8_carries := goodIn_r _ [37, 16, 21, 32, 38, 39, 40, 9, 41, 22, 23, 24, 42, 43, 44, 45, 46, 47, 48, 49, 33, 50, 51, 52, 53, 54, 55, 56, 57, 58, 59, 60, 61, 62, 63, 64, 65, 66, 67, 68, 69, 70, 71, 72, 73, 74, 75, 76, 77, 78, 79, 80, 81, 82, 83, 84, 85, 86] (by decide +kernel) (by decide +kernel)
set_option maxRecDepth 20000 in
theorem gX8_move_X8_carries : GoodIn wsX8_move (wsV RX8 160 RX8 yX8_carries wsX8_carries) := goodIn_app (goodIn_of _ (by decide +kernel)) ggX8_move_X8_carries
set_option maxRecDepth 20000 in
theorem ggJxf58ca_floatToIntBits_5c35a_Jxf58ca_isNaN_12338 : GoodIn wsJxf58ca_floatToIntBits_5c35a wsJxf58ca_isNaN_12338 := goodIn_r _ [9] (by decide +kernel) (by decide +kernel)
set_option maxRecDepth 20000 in
theorem gJxf58ca_floatToIntBits_5c35a_Jxf58ca_isNaN_12338 : GoodIn wsJxf58ca_floatToIntBits_5c35a (va_wsS RJxf58ca 59 yJxf58ca_isNaN_12338 wsJxf58ca_isNaN_12338) := goodIn_app (goodIn_of _ (by decide +kernel)) ggJxf58ca_floatToIntBits_5c35a_Jxf58ca_isNaN_12338
set_option maxRecDepth 20000 in
theorem ggL_law_X7_init : GoodIn wsL_law wsX7_init := goodIn_r _ [8, 9, 10, 11, 12, 13, 14, 15, 16, 17, 18, 19, 20, 21, 22, 23, 24, 25, 26, 27, 28, 29, 30, 31, 32, 33, 34, 35, 36, 37, 38, 39, 40, 41, 42, 43, 44, 45, 46, 47, 48, 49, 50, 51, 52, 53, 54, 55, 56, 57, 58, 59, 60, 61, 62, 63, 64, 65, 66, 67, 68, 69, 70, 71, 72, 73, 74, 75, 76, 77, 78, 79, 80, 81, 82, 83, 84, 85, 86, 87, 88, 89, 90, 91, 92, 93, 829, 830, 831, 810, 811, 812, 813, 814, 832, 833, 834, 835, 836, 837, 838, 839, 840, 841, 842, 843, 844, 845, 846, 847, 848, 849, 850, 851, 852, 853, 854, 855, 856, 857, 858, 859, 860, 861, 862, 863, 864, 865, 866] (by decide +kernel) (by decide +kernel)
set_option maxRecDepth 20000 in
theorem gL_law_X7_init : GoodIn wsL_law (wsX7_init) := ggL_law_X7_init
set_option maxRecDepth 20000 in
theorem ggL_law_X8_init : GoodIn wsL_law wsX8_init := goodIn_r _ [96, 97, 10, 11, 59, 98, 99, 100, 101, 82, 102, 103, 104, 105, 815, 816, 817, 818, 819, 820, 821, 822, 823, 824, 825, 826, 827, 828] (by decide +kernel) (by decide +kernel)
set_option maxRecDepth 20000 in
theorem gL_law_X8_init : GoodIn wsL_law (wsX8_init) := ggL_law_X8_init
set_option maxRecDepth 20000 in
theorem ggL_law_X7_setLoad : GoodIn wsL_law wsX7_setLoad := goodIn_r _ [109, 110, 15, 19, 111, 112, 2, 113, 114, 14, 115, 116, 42, 117, 41, 118, 119, 120, 73, 69, 121, 122, 123, 124, 125, 18, 126, 127, 128, 78, 129, 130, 131, 132, 133, 134, 135, 136, 137, 138, 139, 140, 141, 142, 34, 38, 143, 33, 144, 145, 146, 147, 148, 149, 150, 151, 46, 47, 48, 50, 51, 152, 37, 153, 154, 65, 60, 155, 156, 57, 157, 158, 159, 160, 161, 61, 162, 163, 164, 165, 70, 71, 72, 166, 167, 168, 169, 170, 171, 172, 173, 174, 175, 176, 62, 63, 64, 177, 178, 179, 180, 181, 182, 183, 184, 185, 186, 187, 188, 189, 190, 55, 56, 58, 191, 192, 193, 194, 195, 196, 197, 198, 199, 200, 201, 202, 203, 204, 205, 206, 207, 208, 209, 210, 211, 212, 213, 214, 215, 216, 810, 811, 812, 813, 814, 829, 830, 831, 861, 862, 863, 864, 865, 866, 832, 833, 847, 848, 849, 850, 851, 852, 853, 854, 855, 856, 857, 858, 859, 860] (by decide +kernel) (by decide +kernel)
set_option maxRecDepth 20000 in
theorem gL_law_X7_setLoad : GoodIn wsL_law (wsV RL 13 RX7 yX7_setLoad wsX7_setLoad) := goodIn_app (goodIn_of _ (by decide +kernel)) ggL_law_X7_setLoad
set_option maxRecDepth 20000 in
theorem ggL_law_X8_setLoad : GoodIn wsL_law wsX8_setLoad := goodIn_r _ [220, 221, 222, 223, 224, 5, 225, 226, 227, 228, 229, 98, 230, 231, 232, 233, 234, 99, 101, 235, 236, 237, 238, 239, 240, 241, 242, 243, 244, 245, 246, 247, 248, 249, 250, 251, 252, 253, 254, 255, 256, 257, 258, 815, 816, 817, 818, 819, 820, 821, 822, 823, 824, 825, 826, 827, 828] (by decide +kernel) (by decide +kernel)
set_option maxRecDepth 20000 in
theorem gL_law_X8_setLoad : GoodIn wsL_law (wsV RL 17 RX8 yX8_setLoad wsX8_setLoad) := goodIn_app (goodIn_of _ (by decide +kernel)) ggL_law_X8_setLoad
set_option maxRecDepth 20000 in
theorem ggL_law_X7_put : GoodIn wsL_law wsX7_put := goodIn_r _ [262, 15, 19, 263, 14, 264, 265, 42, 34, 266, 41, 267, 268, 120, 269, 270, 271, 73, 272, 273, 274, 275, 69, 121, 122, 2, 123, 110, 124, 125, 18, 126, 127, 128, 78, 129, 130, 131, 132, 133, 134, 135, 136, 137, 138, 139, 140, 141, 142, 38, 143, 33, 144, 145, 146, 147, 148, 149, 150, 151, 46, 47, 48, 50, 51, 152, 37, 153, 154, 65, 60, 155, 156, 57, 157, 158, 159, 160, 161, 61, 162, 163, 164, 165, 70, 71, 72, 276, 277, 278, 279, 280, 281, 166, 167, 168, 169, 170, 171, 172, 173, 174, 175, 176, 62, 63, 64, 177, 178, 179, 180, 181, 182, 183, 184, 185, 186, 187, 188, 189, 190, 55, 56, 58, 191, 192, 193, 194, 195, 196, 197, 198, 199, 200, 201, 202, 203, 204, 205, 206, 207, 208, 209, 210, 211, 212, 213, 214, 215, 216, 810, 811, 812, 813, 814, 829, 830, 831, 847, 848, 849, 850, 851, 852, 853, 854, 855, 856, 857, 861, 862, 863, 864, 865, 866, 832, 833, 858, 859, 860] (by decide +kernel) (by decide +kernel)
set_option maxRecDepth 20000 in
theorem gL_law_X7_put : GoodIn wsL_law (wsV RL 18 RX7 yX7_put wsX7_put) := goodIn_app (goodIn_of _ (by decide +kernel)) ggL_law_X7_put
set_option maxRecDepth 20000 in
theorem ggL_law_X8_put : GoodIn wsL_law wsX8_put := goodIn_r _ [285, 286, 287, 288, 5, 289, 221, 222, 290, 291, 292, 293, 98, 223, 224, 225, 230, 231, 232, 233, 234, 99, 101, 235, 294, 295, 296, 297, 236, 237, 238, 239, 240, 241, 242, 243, 244, 245, 246, 247, 248, 249, 250, 251, 252, 253, 254, 255, 256, 257, 258, 815, 816, 817, 818, 819, 820, 821, 822, 823, 824, 825, 826, 827, 828] (by decide +kernel) (by decide +kernel)
set_option maxRecDepth 20000 in
theorem gL_law_X8_put : GoodIn wsL_law (wsV RL 21 RX8 yX8_put wsX8_put) := goodIn_app (goodIn_of _ (by decide +kernel)) ggL_law_X8_put
set_option maxRecDepth 20000 in
theorem ggL_law_X7_take : GoodIn wsL_law wsX7_take := goodIn_r _ [301, 15, 19, 302, 14, 303, 304, 42, 266, 41, 267, 268, 120, 269, 270, 271, 73, 272, 121, 122, 2, 123, 110, 124, 125, 18, 126, 127, 128, 78, 129, 130, 131, 132, 133, 134, 135, 136, 137, 138, 139, 140, 141, 142, 34, 38, 143, 33, 144, 145, 146, 147, 148, 149, 150, 151, 46, 47, 48, 50, 51, 152, 37, 153, 154, 65, 60, 155, 156, 57, 157, 158, 159, 160, 161, 61, 162, 163, 164, 69, 165, 70, 71, 72, 305, 306, 307, 279, 280, 281, 273, 274, 275, 166, 167, 168, 169, 170, 171, 172, 173, 174, 175, 176, 62, 63, 64, 177, 178, 179, 180, 181, 182, 183, 184, 185, 186, 187, 188, 189, 190, 55, 56, 58, 191, 192, 193, 194, 195, 196, 197, 198, 199, 200, 201, 202, 203, 204, 205, 206, 207, 208, 209, 210, 211, 212, 213, 214, 215, 216, 810, 811, 812, 813, 814, 829, 830, 831, 861, 862, 863, 864, 865, 866, 832, 833, 847, 848, 849, 850, 851, 852, 853, 854, 855, 856, 857, 858, 859, 860] (by decide +kernel) (by decide +kernel)
set_option maxRecDepth 20000 in
theorem gL_law_X7_take : GoodIn wsL_law (wsV RL 22 RX7 yX7_take wsX7_take) := goodIn_app (goodIn_of _ (by decide +kernel)) ggL_law_X7_take
set_option maxRecDepth 20000 in
theorem ggL_law_X8_take : GoodIn wsL_law wsX8_take := goodIn_r _ [311, 286, 287, 288, 5, 289, 221, 222, 290, 291, 292, 293, 98, 223, 224, 225, 230, 231, 232, 233, 234, 99, 101, 235, 294, 295, 296, 297, 236, 237, 238, 239, 240, 241, 242, 243, 244, 245, 246, 247, 248, 249, 250, 251, 252, 253, 254, 255, 256, 257, 258, 815, 816, 817, 818, 819, 820, 821, 822, 823, 824, 825, 826, 827, 828] (by decide +kernel) (by decide +kernel)
set_option maxRecDepth 20000 in
theorem gL_law_X8_take : GoodIn wsL_law (wsV RL 25 RX8 yX8_take wsX8_take) := goodIn_app (goodIn_of _ (by decide +kernel)) ggL_law_X8_take
set_option maxRecDepth 20000 in
theorem ggL_law_X7_hours : GoodIn wsL_law wsX7_hours := goodIn_r _ [315, 110, 19, 15, 111, 112, 2, 113, 125, 18, 126, 127, 128, 78, 129, 130, 131, 132, 133, 134, 135, 136, 137, 138, 139, 140, 14, 141, 142, 34, 38, 42, 143, 33, 144, 145, 146, 147, 148, 149, 150, 151, 46, 47, 48, 50, 51, 152, 37, 153, 154, 65, 60, 155, 156, 57, 157, 158, 159, 160, 161, 61, 162, 41, 163, 164, 120, 69, 165, 70, 71, 72, 73, 316, 317, 318, 319, 320, 56, 58, 169, 170, 171, 172, 210, 211, 212, 213, 810, 811, 812, 813, 814, 829, 830, 831, 847, 848, 849, 850, 851, 852, 853, 854, 855, 856, 857, 832, 833, 858, 859, 860, 861, 862, 863, 864, 865, 866] (by decide +kernel) (by decide +kernel)
set_option maxRecDepth 20000 in
theorem gL_law_X7_hours : GoodIn wsL_law (wsV RL 26 RX7 yX7_hours wsX7_hours) := goodIn_app (goodIn_of _ (by decide +kernel)) ggL_law_X7_hours
set_option maxRecDepth 20000 in
theorem ggL_law_X8_hours : GoodIn wsL_law wsX8_hours := goodIn_r _ [324, 221, 98, 223, 224, 5, 225, 230, 231, 232, 233, 234, 99, 101, 235, 325, 326, 327, 328, 247, 248, 249, 250, 815, 816, 817, 818, 819, 820, 821, 822, 823, 824, 825, 826, 827, 828] (by decide +kernel) (by decide +kernel)
set_option maxRecDepth 20000 in
theorem gL_law_X8_hours : GoodIn wsL_law (wsV RL 29 RX8 yX8_hours wsX8_hours) := goodIn_app (goodIn_of _ (by decide +kernel)) ggL_law_X8_hours
set_option maxRecDepth 20000 in
theorem ggL_law_X7_zero : GoodIn wsL_law wsX7_zero := goodIn_r _ [332, 15, 19, 333, 14, 334, 335, 34, 121, 122, 2, 123, 110, 124, 125, 18, 126, 127, 128, 78, 129, 130, 131, 132, 133, 134, 135, 136, 137, 138, 139, 140, 141, 142, 38, 42, 143, 33, 144, 145, 146, 147, 148, 149, 150, 151, 46, 47, 48, 50, 51, 152, 37, 153, 154, 65, 60, 155, 156, 57, 157, 158, 159, 160, 161, 61, 162, 41, 163, 164, 120, 69, 165, 70, 71, 72, 73, 336, 337, 338, 188, 189, 190, 55, 56, 58, 169, 170, 171, 172, 810, 811, 812, 813, 814, 829, 830, 831, 847, 848, 849, 850, 851, 852, 853, 854, 855, 856, 857, 858, 859, 860, 832, 833, 861, 862, 863, 864, 865, 866] (by decide +kernel) (by decide +kernel)
set_option maxRecDepth 20000 in
theorem gL_law_X7_zero : GoodIn wsL_law (wsV RL 30 RX7 yX7_zero wsX7_zero) := goodIn_app (goodIn_of _ (by decide +kernel)) ggL_law_X7_zero
set_option maxRecDepth 20000 in
theorem ggL_law_X8_zero : GoodIn wsL_law wsX8_zero := goodIn_r _ [342, 98, 222, 230, 231, 232, 5, 233, 234, 99, 101, 235, 343, 344, 345, 346, 815, 816, 817, 818, 819, 820, 821, 822, 823, 824, 825, 826, 827, 828] (by decide +kernel) (by decide +kernel)
set_option maxRecDepth 20000 in
theorem gL_law_X8_zero : GoodIn wsL_law (wsV RL 34 RX8 yX8_zero wsX8_zero) := goodIn_app (goodIn_of _ (by decide +kernel)) ggL_law_X8_zero
set_option maxRecDepth 20000 in
theorem ggL_law_X7_undo : GoodIn wsL_law wsX7_undo := goodIn_r _ [350, 19, 124, 15, 351, 18, 352, 353, 128, 133, 134, 135, 136, 78, 137, 138, 139, 140, 14, 141, 142, 34, 38, 42, 143, 33, 144, 145, 146, 147, 148, 149, 150, 151, 46, 47, 48, 50, 51, 152, 37, 153, 154, 65, 60, 155, 156, 57, 157, 158, 159, 160, 161, 61, 162, 41, 163, 164, 120, 69, 165, 70, 71, 72, 73, 810, 811, 812, 813, 814, 832, 833, 829, 830, 831, 847, 848, 849, 850, 851, 852, 853, 854, 855, 856, 857, 858, 859, 860, 861, 862, 863, 864, 865, 866] (by decide +kernel) (by decide +kernel)
set_option maxRecDepth 20000 in
theorem gL_law_X7_undo : GoodIn wsL_law (wsV RL 35 RX7 yX7_undo wsX7_undo) := goodIn_app (goodIn_of _ (by decide +kernel)) ggL_law_X7_undo
set_option maxRecDepth 20000 in
theorem ggL_law_X8_undo : GoodIn wsL_law wsX8_undo := goodIn_r _ [357, 234, 222, 98, 99, 101, 235, 815, 816, 817, 818, 819, 820, 821, 822, 823, 824, 825, 826, 827, 828] (by decide +kernel) (by decide +kernel)
set_option maxRecDepth 20000 in
theorem gL_law_X8_undo : GoodIn wsL_law (wsV RL 38 RX8 yX8_undo wsX8_undo) := goodIn_app (goodIn_of _ (by decide +kernel)) ggL_law_X8_undo
set_option maxRecDepth 20000 in
theorem ggL_law_X7_count : GoodIn wsL_law wsX7_count := goodIn_r _ [361, 15, 19, 23, 110, 214, 14, 215, 216, 38, 34, 198, 37, 199, 200, 65, 60, 201, 181, 182, 183, 202, 203, 204, 205, 61, 206, 207, 208, 209, 362, 41, 363, 364, 120, 73, 810, 811, 812, 813, 814, 829, 830, 831, 847, 848, 849, 850, 851, 852, 853, 854, 855, 856, 857, 858, 859, 860, 861, 862, 863, 864, 865, 866, 832, 833, 834, 835, 836, 837, 838, 839] (by decide +kernel) (by decide +kernel)
set_option maxRecDepth 20000 in
theorem gL_law_X7_count : GoodIn wsL_law (wsV RL 39 RX7 yX7_count wsX7_count) := goodIn_app (goodIn_of _ (by decide +kernel)) ggL_law_X7_count
set_option maxRecDepth 20000 in
theorem ggL_law_X8_count : GoodIn wsL_law wsX8_count := goodIn_r _ [368, 98, 234, 369, 221, 251, 252, 253, 5, 254, 255, 256, 257, 258, 244, 245, 246, 815, 816, 817, 818, 819, 820, 821, 822, 823, 824, 825, 826, 827, 828] (by decide +kernel) (by decide +kernel)
set_option maxRecDepth 20000 in
theorem gL_law_X8_count : GoodIn wsL_law (wsV RL 42 RX8 yX8_count wsX8_count) := goodIn_app (goodIn_of _ (by decide +kernel)) ggL_law_X8_count
set_option maxRecDepth 20000 in
theorem ggL_law_X7_turning : GoodIn wsL_law wsX7_turning := goodIn_r _ [373, 110, 15, 111, 112, 2, 113, 374, 37, 375, 376, 377, 60, 61, 378, 379, 380, 381, 65, 810, 811, 812, 813, 814, 829, 830, 831, 847, 848, 849, 850, 851, 852, 853, 854, 855, 856, 857, 858, 859, 860] (by decide +kernel) (by decide +kernel)
set_option maxRecDepth 20000 in
theorem gL_law_X7_turning : GoodIn wsL_law (wsV RL 43 RX7 yX7_turning wsX7_turning) := goodIn_app (goodIn_of _ (by decide +kernel)) ggL_law_X7_turning
set_option maxRecDepth 20000 in
theorem ggL_law_X8_turning : GoodIn wsL_law wsX8_turning := goodIn_r _ [385, 221, 98, 386, 223, 224, 5, 225, 815, 816, 817, 818, 819, 820, 821, 822, 823, 824, 825, 826, 827, 828] (by decide +kernel) (by decide +kernel)
set_option maxRecDepth 20000 in
theorem gL_law_X8_turning : GoodIn wsL_law (wsV RL 47 RX8 yX8_turning wsX8_turning) := goodIn_app (goodIn_of _ (by decide +kernel)) ggL_law_X8_turning
set_option maxRecDepth 20000 in
theorem ggL_law_X7_account : GoodIn wsL_law wsX7_account := goodIn_r _ [390, 15, 810, 811, 812, 813, 814, 829, 830, 831, 847, 848, 849, 850, 851, 852, 853, 854, 855, 856, 857] (by decide +kernel) (by decide +kernel)
set_option maxRecDepth 20000 in
theorem gL_law_X7_account : GoodIn wsL_law (wsV RL 48 RX7 yX7_account wsX7_account) := goodIn_app (goodIn_of _ (by decide +kernel)) ggL_law_X7_account
set_option maxRecDepth 20000 in
theorem ggL_law_X8_account : GoodIn wsL_law wsX8_account := goodIn_r _ [394, 235, 815, 816, 817, 818, 819, 820, 821, 822, 823, 824, 825, 826, 827, 828] (by decide +kernel) (by decide +kernel)
set_option maxRecDepth 20000 in
theorem gL_law_X8_account : GoodIn wsL_law (wsV RL 52 RX8 yX8_account wsX8_account) := goodIn_app (goodIn_of _ (by decide +kernel)) ggL_law_X8_account
set_option maxRecDepth 20000 in
theorem ggL_law_X7_again : GoodIn wsL_law wsX7_again := goodIn_r _ [398, 15, 399, 33, 400, 401, 50, 51, 146, 195, 196, 57, 197, 198, 37, 199, 200, 65, 60, 201, 181, 182, 183, 202, 203, 204, 205, 61, 206, 207, 208, 209, 810, 811, 812, 813, 814, 829, 830, 831, 847, 848, 849, 850, 851, 852, 853, 854, 855, 856, 857, 858, 859, 860] (by decide +kernel) (by decide +kernel)
set_option maxRecDepth 20000 in
theorem gL_law_X7_again : GoodIn wsL_law (wsV RL 53 RX7 yX7_again wsX7_again) := goodIn_app (goodIn_of _ (by decide +kernel)) ggL_law_X7_again
set_option maxRecDepth 20000 in
theorem ggL_law_X8_again : GoodIn wsL_law wsX8_again := goodIn_r _ [405, 98, 240, 241, 242, 5, 243, 244, 245, 246, 815, 816, 817, 818, 819, 820, 821, 822, 823, 824, 825, 826, 827, 828] (by decide +kernel) (by decide +kernel)
set_option maxRecDepth 20000 in
theorem gL_law_X8_again : GoodIn wsL_law (wsV RL 56 RX8 yX8_again wsX8_again) := goodIn_app (goodIn_of _ (by decide +kernel)) ggL_law_X8_again
set_option maxRecDepth 20000 in
theorem ggL_law_X7_setPoint : GoodIn wsL_law wsX7_setPoint := goodIn_r _ [409, 110, 15, 124, 410, 19, 111, 112, 2, 113, 411, 33, 412, 413, 146, 50, 414, 37, 415, 416, 417, 418, 419, 420, 65, 60, 421, 422, 423, 424, 378, 379, 380, 381, 202, 203, 204, 205, 61, 425, 426, 427, 125, 18, 126, 127, 128, 78, 129, 130, 131, 132, 133, 134, 135, 136, 137, 138, 139, 140, 14, 141, 142, 34, 38, 42, 143, 144, 145, 147, 148, 149, 150, 151, 46, 47, 48, 51, 152, 153, 154, 155, 156, 57, 157, 158, 159, 160, 161, 162, 41, 163, 164, 120, 69, 165, 70, 71, 72, 73, 428, 429, 430, 810, 811, 812, 813, 814, 829, 830, 831, 847, 848, 849, 850, 851, 852, 853, 854, 855, 856, 857, 858, 859, 860, 832, 833, 861, 862, 863, 864, 865, 866] (by decide +kernel) (by decide +kernel)
set_option maxRecDepth 20000 in
theorem gL_law_X7_setPoint : GoodIn wsL_law (wsV RL 57 RX7 yX7_setPoint wsX7_setPoint) := goodIn_app (goodIn_of _ (by decide +kernel)) ggL_law_X7_setPoint
set_option maxRecDepth 20000 in
theorem ggL_law_X8_setPoint : GoodIn wsL_law wsX8_setPoint := goodIn_r _ [434, 221, 98, 222, 435, 223, 224, 5, 225, 436, 437, 438, 439, 440, 441, 442, 443, 230, 231, 232, 233, 234, 99, 101, 235, 815, 816, 817, 818, 819, 820, 821, 822, 823, 824, 825, 826, 827, 828] (by decide +kernel) (by decide +kernel)
set_option maxRecDepth 20000 in
theorem gL_law_X8_setPoint : GoodIn wsL_law (wsV RL 60 RX8 yX8_setPoint wsX8_setPoint) := goodIn_app (goodIn_of _ (by decide +kernel)) ggL_law_X8_setPoint
set_option maxRecDepth 20000 in
theorem ggL_law_X7_removePoint : GoodIn wsL_law wsX7_removePoint := goodIn_r _ [447, 110, 15, 124, 448, 19, 111, 112, 2, 113, 411, 33, 412, 413, 146, 50, 422, 37, 423, 424, 60, 417, 418, 419, 420, 65, 378, 379, 380, 381, 125, 18, 126, 127, 128, 78, 129, 130, 131, 132, 133, 134, 135, 136, 137, 138, 139, 140, 14, 141, 142, 34, 38, 42, 143, 144, 145, 147, 148, 149, 150, 151, 46, 47, 48, 51, 152, 153, 154, 155, 156, 57, 157, 158, 159, 160, 161, 61, 162, 41, 163, 164, 120, 69, 165, 70, 71, 72, 73, 203, 204, 205, 449, 450, 451, 810, 811, 812, 813, 814, 829, 830, 831, 847, 848, 849, 850, 851, 852, 853, 854, 855, 856, 857, 858, 859, 860, 832, 833, 861, 862, 863, 864, 865, 866] (by decide +kernel) (by decide +kernel)
set_option maxRecDepth 20000 in
theorem gL_law_X7_removePoint : GoodIn wsL_law (wsV RL 61 RX7 yX7_removePoint wsX7_removePoint) := goodIn_app (goodIn_of _ (by decide +kernel)) ggL_law_X7_removePoint
set_option maxRecDepth 20000 in
theorem ggL_law_X8_removePoint : GoodIn wsL_law wsX8_removePoint := goodIn_r _ [455, 221, 222, 98, 386, 223, 224, 5, 225, 440, 441, 442, 443, 436, 437, 438, 439, 230, 231, 232, 233, 234, 99, 101, 235, 815, 816, 817, 818, 819, 820, 821, 822, 823, 824, 825, 826, 827, 828] (by decide +kernel) (by decide +kernel)
set_option maxRecDepth 20000 in
theorem gL_law_X8_removePoint : GoodIn wsL_law (wsV RL 64 RX8 yX8_removePoint wsX8_removePoint) := goodIn_app (goodIn_of _ (by decide +kernel)) ggL_law_X8_removePoint
set_option maxRecDepth 20000 in
theorem ggL_law_X7_curve : GoodIn wsL_law wsX7_curve := goodIn_r _ [459, 110, 15, 111, 112, 2, 113, 198, 37, 199, 200, 65, 60, 201, 181, 182, 183, 202, 203, 204, 205, 61, 206, 207, 208, 209, 810, 811, 812, 813, 814, 829, 830, 831, 847, 848, 849, 850, 851, 852, 853, 854, 855, 856, 857, 858, 859, 860] (by decide +kernel) (by decide +kernel)
set_option maxRecDepth 20000 in
theorem gL_law_X7_curve : GoodIn wsL_law (wsV RL 65 RX7 yX7_curve wsX7_curve) := goodIn_app (goodIn_of _ (by decide +kernel)) ggL_law_X7_curve
set_option maxRecDepth 20000 in
theorem ggL_law_X8_curve : GoodIn wsL_law wsX8_curve := goodIn_r _ [463, 221, 223, 224, 5, 225, 240, 241, 242, 243, 98, 244, 245, 246, 815, 816, 817, 818, 819, 820, 821, 822, 823, 824, 825, 826, 827, 828] (by decide +kernel) (by decide +kernel)
set_option maxRecDepth 20000 in
theorem gL_law_X8_curve : GoodIn wsL_law (wsV RL 68 RX8 yX8_curve wsX8_curve) := goodIn_app (goodIn_of _ (by decide +kernel)) ggL_law_X8_curve
set_option maxRecDepth 20000 in
theorem ggL_law_X7_setBreak : GoodIn wsL_law wsX7_setBreak := goodIn_r _ [467, 110, 15, 124, 410, 19, 111, 112, 2, 113, 414, 37, 415, 416, 417, 418, 419, 420, 65, 60, 421, 422, 423, 424, 378, 379, 380, 381, 202, 203, 204, 205, 61, 425, 426, 427, 125, 18, 126, 127, 128, 78, 129, 130, 131, 132, 133, 134, 135, 136, 137, 138, 139, 140, 14, 141, 142, 34, 38, 42, 143, 33, 144, 145, 146, 147, 148, 149, 150, 151, 46, 47, 48, 50, 51, 152, 153, 154, 155, 156, 57, 157, 158, 159, 160, 161, 162, 41, 163, 164, 120, 69, 165, 70, 71, 72, 73, 428, 429, 430, 810, 811, 812, 813, 814, 829, 830, 831, 858, 859, 860, 832, 833, 847, 848, 849, 850, 851, 852, 853, 854, 855, 856, 857, 861, 862, 863, 864, 865, 866] (by decide +kernel) (by decide +kernel)
set_option maxRecDepth 20000 in
theorem gL_law_X7_setBreak : GoodIn wsL_law (wsV RL 69 RX7 yX7_setBreak wsX7_setBreak) := goodIn_app (goodIn_of _ (by decide +kernel)) ggL_law_X7_setBreak
set_option maxRecDepth 20000 in
theorem ggL_law_X8_setBreak : GoodIn wsL_law wsX8_setBreak := goodIn_r _ [471, 221, 98, 222, 435, 223, 224, 5, 225, 230, 231, 232, 233, 234, 99, 101, 235, 815, 816, 817, 818, 819, 820, 821, 822, 823, 824, 825, 826, 827, 828] (by decide +kernel) (by decide +kernel)
set_option maxRecDepth 20000 in
theorem gL_law_X8_setBreak : GoodIn wsL_law (wsV RL 72 RX8 yX8_setBreak wsX8_setBreak) := goodIn_app (goodIn_of _ (by decide +kernel)) ggL_law_X8_setBreak
set_option maxRecDepth 20000 in
theorem ggL_law_X7_removeBreak : GoodIn wsL_law wsX7_removeBreak := goodIn_r _ [475, 15, 110, 124, 19, 111, 112, 2, 113, 125, 18, 126, 127, 128, 78, 129, 130, 131, 132, 133, 134, 135, 136, 137, 138, 139, 140, 14, 141, 142, 34, 38, 42, 143, 33, 144, 145, 146, 147, 148, 149, 150, 151, 46, 47, 48, 50, 51, 152, 37, 153, 154, 65, 60, 155, 156, 57, 157, 158, 159, 160, 161, 61, 162, 41, 163, 164, 120, 69, 165, 70, 71, 72, 73, 449, 450, 451, 378, 379, 380, 381, 810, 811, 812, 813, 814, 829, 830, 831, 858, 859, 860, 832, 833, 847, 848, 849, 850, 851, 852, 853, 854, 855, 856, 857, 861, 862, 863, 864, 865, 866] (by decide +kernel) (by decide +kernel)
set_option maxRecDepth 20000 in
theorem gL_law_X7_removeBreak : GoodIn wsL_law (wsV RL 73 RX7 yX7_removeBreak wsX7_removeBreak) := goodIn_app (goodIn_of _ (by decide +kernel)) ggL_law_X7_removeBreak
set_option maxRecDepth 20000 in
theorem ggL_law_X8_removeBreak : GoodIn wsL_law wsX8_removeBreak := goodIn_r _ [479, 98, 221, 222, 223, 224, 5, 225, 230, 231, 232, 233, 234, 99, 101, 235, 815, 816, 817, 818, 819, 820, 821, 822, 823, 824, 825, 826, 827, 828] (by decide +kernel) (by decide +kernel)
set_option maxRecDepth 20000 in
theorem gL_law_X8_removeBreak : GoodIn wsL_law (wsV RL 76 RX8 yX8_removeBreak wsX8_removeBreak) := goodIn_app (goodIn_of _ (by decide +kernel)) ggL_law_X8_removeBreak
set_option maxRecDepth 20000 in
theorem ggL_law_X7_entry : GoodIn wsL_law wsX7_entry := goodIn_r _ [483, 110, 15, 111, 112, 2, 113, 374, 37, 375, 376, 377, 60, 61, 378, 379, 380, 381, 65, 810, 811, 812, 813, 814, 829, 830, 831, 847, 848, 849, 850, 851, 852, 853, 854, 855, 856, 857, 858, 859, 860] (by decide +kernel) (by decide +kernel)
set_option maxRecDepth 20000 in
theorem gL_law_X7_entry : GoodIn wsL_law (wsV RL 77 RX7 yX7_entry wsX7_entry) := goodIn_app (goodIn_of _ (by decide +kernel)) ggL_law_X7_entry
set_option maxRecDepth 20000 in
theorem ggL_law_X8_entry : GoodIn wsL_law wsX8_entry := goodIn_r _ [487, 221, 98, 386, 223, 224, 5, 225, 815, 816, 817, 818, 819, 820, 821, 822, 823, 824, 825, 826, 827, 828] (by decide +kernel) (by decide +kernel)
set_option maxRecDepth 20000 in
theorem gL_law_X8_entry : GoodIn wsL_law (wsV RL 80 RX8 yX8_entry wsX8_entry) := goodIn_app (goodIn_of _ (by decide +kernel)) ggL_law_X8_entry
set_option maxRecDepth 20000 in
theorem ggL_law_X7_readingAt : GoodIn wsL_law wsX7_readingAt := goodIn_r _ [491, 110, 15, 111, 112, 2, 113, 198, 37, 199, 200, 65, 60, 201, 181, 182, 183, 202, 203, 204, 205, 61, 206, 207, 208, 209, 810, 811, 812, 813, 814, 829, 830, 831, 858, 859, 860] (by decide +kernel) (by decide +kernel)
set_option maxRecDepth 20000 in
theorem gL_law_X7_readingAt : GoodIn wsL_law (wsV RL 81 RX7 yX7_readingAt wsX7_readingAt) := goodIn_app (goodIn_of _ (by decide +kernel)) ggL_law_X7_readingAt
set_option maxRecDepth 20000 in
theorem ggL_law_X8_readingAt : GoodIn wsL_law wsX8_readingAt := goodIn_r _ [495, 221, 223, 224, 5, 225, 255, 256, 257, 258, 98, 244, 245, 246, 815, 816, 817, 818, 819, 820, 821, 822, 823, 824, 825, 826, 827, 828] (by decide +kernel) (by decide +kernel)
set_option maxRecDepth 20000 in
theorem gL_law_X8_readingAt : GoodIn wsL_law (wsV RL 84 RX8 yX8_readingAt wsX8_readingAt) := goodIn_app (goodIn_of _ (by decide +kernel)) ggL_law_X8_readingAt
set_option maxRecDepth 20000 in
theorem ggL_law_X7_slopeBits : GoodIn wsL_law wsX7_slopeBits := goodIn_r _ [499, 110, 15, 448, 500, 37, 501, 502, 201, 181, 182, 183, 65, 60, 202, 203, 204, 205, 61, 503, 504, 2, 505, 506, 507, 810, 811, 812, 813, 814, 829, 830, 831, 858, 859, 860] (by decide +kernel) (by decide +kernel)
set_option maxRecDepth 20000 in
theorem gL_law_X7_slopeBits : GoodIn wsL_law (wsV RL 85 RX7 yX7_slopeBits wsX7_slopeBits) := goodIn_app (goodIn_of _ (by decide +kernel)) ggL_law_X7_slopeBits
set_option maxRecDepth 20000 in
theorem ggL_law_X8_slopeBits : GoodIn wsL_law wsX8_slopeBits := goodIn_r _ [511, 221, 98, 386, 512, 513, 514, 515, 516, 517, 518, 519, 520, 521, 522, 523, 815, 816, 817, 818, 819, 820, 821, 822, 823, 824, 825, 826, 827, 828] (by decide +kernel) (by decide +kernel)
set_option maxRecDepth 20000 in
theorem gL_law_X8_slopeBits : GoodIn wsL_law (wsV RL 88 RX8 yX8_slopeBits wsX8_slopeBits) := goodIn_app (goodIn_of _ (by decide +kernel)) ggL_law_X8_slopeBits
set_option maxRecDepth 20000 in
theorem ggL_law_X7_set : GoodIn wsL_law wsX7_set := goodIn_r _ [527, 110, 19, 15, 111, 112, 2, 113, 528, 529, 530, 125, 18, 126, 127, 128, 78, 129, 130, 131, 132, 133, 134, 135, 136, 137, 138, 139, 140, 14, 141, 142, 34, 38, 42, 143, 33, 144, 145, 146, 147, 148, 149, 150, 151, 46, 47, 48, 50, 51, 152, 37, 153, 154, 65, 60, 155, 156, 57, 157, 158, 159, 160, 161, 61, 162, 41, 163, 164, 120, 69, 165, 70, 71, 72, 73, 531, 532, 533, 810, 811, 812, 813, 814, 829, 830, 831, 832, 833, 847, 848, 849, 850, 851, 852, 853, 854, 855, 856, 857, 858, 859, 860, 861, 862, 863, 864, 865, 866] (by decide +kernel) (by decide +kernel)
set_option maxRecDepth 20000 in
theorem gL_law_X7_set : GoodIn wsL_law (wsV RL 89 RX7 yX7_set wsX7_set) := goodIn_app (goodIn_of _ (by decide +kernel)) ggL_law_X7_set
set_option maxRecDepth 20000 in
theorem ggL_law_X8_set : GoodIn wsL_law wsX8_set := goodIn_r _ [537, 221, 98, 223, 224, 5, 225, 230, 231, 232, 233, 234, 99, 101, 235, 815, 816, 817, 818, 819, 820, 821, 822, 823, 824, 825, 826, 827, 828] (by decide +kernel) (by decide +kernel)
set_option maxRecDepth 20000 in
theorem gL_law_X8_set : GoodIn wsL_law (wsV RL 92 RX8 yX8_set wsX8_set) := goodIn_app (goodIn_of _ (by decide +kernel)) ggL_law_X8_set
set_option maxRecDepth 20000 in
theorem ggL_law_X7_addWeight : GoodIn wsL_law wsX7_addWeight := goodIn_r _ [541, 110, 15, 410, 19, 111, 112, 2, 113, 266, 41, 267, 268, 120, 125, 18, 126, 127, 128, 78, 129, 130, 131, 132, 133, 134, 135, 136, 137, 138, 139, 140, 14, 141, 142, 34, 38, 42, 143, 33, 144, 145, 146, 147, 148, 149, 150, 151, 46, 47, 48, 50, 51, 152, 37, 153, 154, 65, 60, 155, 156, 57, 157, 158, 159, 160, 161, 61, 162, 163, 164, 69, 165, 70, 71, 72, 73, 542, 543, 544, 810, 811, 812, 813, 814, 829, 830, 831, 861, 862, 863, 864, 865, 866, 832, 833, 847, 848, 849, 850, 851, 852, 853, 854, 855, 856, 857, 858, 859, 860] (by decide +kernel) (by decide +kernel)
set_option maxRecDepth 20000 in
theorem gL_law_X7_addWeight : GoodIn wsL_law (wsV RL 93 RX7 yX7_addWeight wsX7_addWeight) := goodIn_app (goodIn_of _ (by decide +kernel)) ggL_law_X7_addWeight
set_option maxRecDepth 20000 in
theorem ggL_law_X8_addWeight : GoodIn wsL_law wsX8_addWeight := goodIn_r _ [548, 98, 221, 435, 223, 224, 5, 225, 230, 231, 232, 233, 234, 99, 101, 235, 815, 816, 817, 818, 819, 820, 821, 822, 823, 824, 825, 826, 827, 828] (by decide +kernel) (by decide +kernel)
set_option maxRecDepth 20000 in
theorem gL_law_X8_addWeight : GoodIn wsL_law (wsV RL 97 RX8 yX8_addWeight wsX8_addWeight) := goodIn_app (goodIn_of _ (by decide +kernel)) ggL_law_X8_addWeight
set_option maxRecDepth 20000 in
theorem ggL_law_X7_removeWeight : GoodIn wsL_law wsX7_removeWeight := goodIn_r _ [552, 15, 110, 124, 19, 266, 41, 267, 268, 120, 269, 270, 271, 73, 272, 553, 554, 555, 72, 125, 18, 126, 127, 128, 78, 129, 130, 131, 132, 133, 134, 135, 136, 137, 138, 139, 140, 14, 141, 142, 34, 38, 42, 143, 33, 144, 145, 146, 147, 148, 149, 150, 151, 46, 47, 48, 50, 51, 152, 37, 153, 154, 65, 60, 155, 156, 57, 157, 158, 159, 160, 161, 61, 162, 163, 164, 69, 165, 70, 71, 556, 557, 558, 559, 560, 561, 562, 810, 811, 812, 813, 814, 829, 830, 831, 861, 862, 863, 864, 865, 866, 832, 833, 847, 848, 849, 850, 851, 852, 853, 854, 855, 856, 857, 858, 859, 860] (by decide +kernel) (by decide +kernel)
set_option maxRecDepth 20000 in
theorem gL_law_X7_removeWeight : GoodIn wsL_law (wsV RL 98 RX7 yX7_removeWeight wsX7_removeWeight) := goodIn_app (goodIn_of _ (by decide +kernel)) ggL_law_X7_removeWeight
set_option maxRecDepth 20000 in
theorem ggL_law_X8_removeWeight : GoodIn wsL_law wsX8_removeWeight := goodIn_r _ [566, 221, 98, 222, 567, 568, 569, 5, 570, 223, 224, 225, 230, 231, 232, 233, 234, 99, 101, 235, 815, 816, 817, 818, 819, 820, 821, 822, 823, 824, 825, 826, 827, 828] (by decide +kernel) (by decide +kernel)
set_option maxRecDepth 20000 in
theorem gL_law_X8_removeWeight : GoodIn wsL_law (wsV RL 101 RX8 yX8_removeWeight wsX8_removeWeight) := goodIn_app (goodIn_of _ (by decide +kernel)) ggL_law_X8_removeWeight
set_option maxRecDepth 20000 in
theorem ggL_law_X7_weight : GoodIn wsL_law wsX7_weight := goodIn_r _ [574, 15, 110, 266, 41, 267, 268, 120, 111, 112, 2, 113, 575, 576, 577, 578, 69, 70, 71, 72, 73, 272, 579, 580, 581, 582, 583, 584, 585, 586, 587, 588, 589, 590, 591, 592, 593, 594, 595, 596, 597, 598, 810, 811, 812, 813, 814, 829, 830, 831, 861, 862, 863, 864, 865, 866] (by decide +kernel) (by decide +kernel)
set_option maxRecDepth 20000 in
theorem gL_law_X7_weight : GoodIn wsL_law (wsV RL 102 RX7 yX7_weight wsX7_weight) := goodIn_app (goodIn_of _ (by decide +kernel)) ggL_law_X7_weight
set_option maxRecDepth 20000 in
theorem ggL_law_X8_weight : GoodIn wsL_law wsX8_weight := goodIn_r _ [602, 221, 98, 567, 568, 569, 5, 570, 223, 224, 225, 603, 604, 605, 606, 607, 608, 609, 610, 815, 816, 817, 818, 819, 820, 821, 822, 823, 824, 825, 826, 827, 828] (by decide +kernel) (by decide +kernel)
set_option maxRecDepth 20000 in
theorem gL_law_X8_weight : GoodIn wsL_law (wsV RL 105 RX8 yX8_weight wsX8_weight) := goodIn_app (goodIn_of _ (by decide +kernel)) ggL_law_X8_weight
set_option maxRecDepth 20000 in
theorem ggL_law_X7_calibration : GoodIn wsL_law wsX7_calibration := goodIn_r _ [614, 110, 15, 27, 111, 112, 2, 113, 615, 41, 616, 617, 120, 578, 73, 618, 69, 619, 620, 621, 622, 623, 624, 625, 626, 627, 628, 629, 26, 630, 631, 88, 632, 33, 633, 634, 146, 46, 51, 152, 37, 153, 154, 65, 60, 155, 156, 57, 157, 158, 159, 160, 161, 61, 635, 336, 337, 338, 50, 150, 147, 148, 151, 149, 188, 189, 190, 55, 56, 58, 169, 170, 171, 172, 636, 637, 638, 639, 640, 641, 91, 93, 273, 274, 275, 272, 266, 267, 268, 166, 167, 168, 173, 174, 175, 176, 62, 63, 64, 177, 178, 179, 180, 181, 182, 183, 184, 185, 186, 187, 191, 192, 193, 194, 195, 196, 197, 198, 199, 200, 201, 202, 203, 204, 205, 206, 207, 208, 209, 210, 211, 212, 213, 584, 585, 586, 71, 579, 580, 581, 582, 72, 642, 643, 644, 70, 645, 646, 647, 648, 92, 649, 650, 651, 652, 90, 653, 654, 655, 656, 657, 658, 659, 660, 661, 662, 663, 664, 665, 666, 667, 668, 669, 670, 671, 672, 673, 810, 811, 812, 813, 814, 829, 830, 831, 861, 862, 863, 864, 865, 866, 840, 841, 842, 843, 844, 845, 846, 847, 848, 849, 850, 851, 852, 853, 854, 855, 856, 857, 858, 859, 860] (by decide +kernel) (by decide +kernel)
set_option maxRecDepth 20000 in
theorem gL_law_X7_calibration : GoodIn wsL_law (wsV RL 106 RX7 yX7_calibration wsX7_calibration) := goodIn_app (goodIn_of _ (by decide +kernel)) ggL_law_X7_calibration
set_option maxRecDepth 20000 in
theorem ggL_law_X8_calibration : GoodIn wsL_law wsX8_calibration := goodIn_r _ [677, 221, 222, 386, 104, 98, 678, 679, 680, 5, 681, 682, 683, 684, 223, 224, 225, 685, 686, 687, 688, 689, 690, 691, 692, 103, 235, 105, 343, 344, 345, 346, 236, 237, 238, 239, 240, 241, 242, 243, 244, 245, 246, 247, 248, 249, 250, 603, 604, 605, 606, 693, 694, 695, 696, 697, 698, 699, 700, 701, 815, 816, 817, 818, 819, 820, 821, 822, 823, 824, 825, 826, 827, 828] (by decide +kernel) (by decide +kernel)
set_option maxRecDepth 20000 in
theorem gL_law_X8_calibration : GoodIn wsL_law (wsV RL 109 RX8 yX8_calibration wsX8_calibration) := goodIn_app (goodIn_of _ (by decide +kernel)) ggL_law_X8_calibration
set_option maxRecDepth 20000 in
theorem ggL_law_X7_adopt : GoodIn wsL_law wsX7_adopt := goodIn_r _ [705, 15, 27, 124, 19, 615, 41, 616, 617, 120, 578, 73, 618, 69, 619, 620, 621, 622, 623, 624, 625, 626, 627, 628, 629, 26, 630, 631, 88, 632, 33, 633, 634, 146, 46, 51, 152, 37, 153, 154, 65, 60, 155, 156, 57, 157, 158, 159, 160, 161, 61, 635, 336, 337, 338, 50, 150, 147, 148, 151, 149, 188, 189, 190, 55, 56, 58, 169, 170, 171, 172, 636, 637, 638, 639, 640, 641, 91, 93, 273, 274, 275, 272, 266, 267, 268, 166, 167, 168, 173, 174, 175, 176, 62, 63, 64, 177, 178, 179, 180, 181, 182, 183, 184, 185, 186, 187, 191, 192, 193, 194, 195, 196, 197, 198, 199, 200, 201, 202, 203, 204, 205, 206, 207, 208, 209, 210, 211, 212, 213, 584, 585, 586, 71, 579, 580, 581, 582, 72, 642, 643, 644, 70, 645, 646, 647, 648, 92, 649, 650, 651, 652, 90, 653, 654, 655, 656, 671, 672, 673, 112, 2, 113, 125, 18, 126, 127, 128, 78, 129, 130, 131, 132, 133, 134, 135, 136, 137, 138, 139, 140, 14, 141, 142, 34, 38, 42, 143, 144, 145, 47, 48, 162, 163, 164, 165, 810, 811, 812, 813, 814, 829, 830, 831, 840, 841, 842, 843, 844, 845, 846, 858, 859, 860, 861, 862, 863, 864, 865, 866, 847, 848, 849, 850, 851, 852, 853, 854, 855, 856, 857, 832, 833] (by decide +kernel) (by decide +kernel)
set_option maxRecDepth 20000 in
theorem gL_law_X7_adopt : GoodIn wsL_law (wsV RL 110 RX7 yX7_adopt wsX7_adopt) := goodIn_app (goodIn_of _ (by decide +kernel)) ggL_law_X7_adopt
set_option maxRecDepth 20000 in
theorem ggL_law_X8_adopt : GoodIn wsL_law wsX8_adopt := goodIn_r _ [709, 221, 222, 98, 105, 678, 679, 680, 5, 681, 682, 683, 684, 685, 686, 687, 688, 689, 690, 691, 692, 103, 235, 104, 343, 344, 345, 346, 236, 237, 238, 239, 240, 241, 242, 243, 244, 245, 246, 247, 248, 249, 250, 693, 694, 695, 696, 697, 698, 699, 700, 701, 223, 224, 225, 230, 231, 232, 233, 234, 99, 101, 815, 816, 817, 818, 819, 820, 821, 822, 823, 824, 825, 826, 827, 828] (by decide +kernel) (by decide +kernel)
set_option maxRecDepth 20000 in
theorem gL_law_X8_adopt : GoodIn wsL_law (wsV RL 113 RX8 yX8_adopt wsX8_adopt) := goodIn_app (goodIn_of _ (by decide +kernel)) ggL_law_X8_adopt
set_option maxRecDepth 20000 in
theorem ggL_law_X7_type : GoodIn wsL_law wsX7_type := goodIn_r _ [713, 110, 23, 410, 111, 112, 2, 113, 714, 22, 715, 716, 717, 83, 810, 811, 812, 813, 814, 834, 835, 836, 837, 838, 839] (by decide +kernel) (by decide +kernel)
set_option maxRecDepth 20000 in
theorem gL_law_X7_type : GoodIn wsL_law (wsV RL 114 RX7 yX7_type wsX7_type) := goodIn_app (goodIn_of _ (by decide +kernel)) ggL_law_X7_type
set_option maxRecDepth 20000 in
theorem ggL_law_X8_type : GoodIn wsL_law wsX8_type := goodIn_r _ [721, 221, 369, 435, 102, 223, 224, 5, 225, 815, 816, 817, 818, 819, 820, 821, 822, 823, 824, 825, 826, 827, 828] (by decide +kernel) (by decide +kernel)
set_option maxRecDepth 20000 in
theorem gL_law_X8_type : GoodIn wsL_law (wsV RL 117 RX8 yX8_type wsX8_type) := goodIn_app (goodIn_of _ (by decide +kernel)) ggL_law_X8_type
set_option maxRecDepth 20000 in
theorem ggL_law_X7_clearText : GoodIn wsL_law wsX7_clearText := goodIn_r _ [725, 23, 810, 811, 812, 813, 814, 834, 835, 836, 837, 838, 839] (by decide +kernel) (by decide +kernel)
set_option maxRecDepth 20000 in
theorem gL_law_X7_clearText : GoodIn wsL_law (wsV RL 118 RX7 yX7_clearText wsX7_clearText) := goodIn_app (goodIn_of _ (by decide +kernel)) ggL_law_X7_clearText
set_option maxRecDepth 20000 in
theorem ggL_law_X8_clearText : GoodIn wsL_law wsX8_clearText := goodIn_r _ [729, 369, 815, 816, 817, 818, 819, 820, 821, 822, 823, 824, 825, 826, 827, 828] (by decide +kernel) (by decide +kernel)
set_option maxRecDepth 20000 in
theorem gL_law_X8_clearText : GoodIn wsL_law (wsV RL 121 RX8 yX8_clearText wsX8_clearText) := goodIn_app (goodIn_of _ (by decide +kernel)) ggL_law_X8_clearText
set_option maxRecDepth 20000 in
theorem ggL_law_X7_fault : GoodIn wsL_law wsX7_fault := goodIn_r _ [733, 23, 448, 734, 22, 735, 736, 717, 737, 738, 739, 740, 741, 742, 743, 744, 745, 746, 747, 748, 83, 749, 750, 751, 752, 753, 754, 755, 756, 757, 758, 759, 112, 2, 113, 810, 811, 812, 813, 814, 834, 835, 836, 837, 838, 839] (by decide +kernel) (by decide +kernel)
set_option maxRecDepth 20000 in
theorem gL_law_X7_fault : GoodIn wsL_law (wsV RL 122 RX7 yX7_fault wsX7_fault) := goodIn_app (goodIn_of _ (by decide +kernel)) ggL_law_X7_fault
set_option maxRecDepth 20000 in
theorem ggL_law_X8_fault : GoodIn wsL_law wsX8_fault := goodIn_r _ [763, 764, 369, 386, 765, 766, 767, 5, 768, 102, 769, 770, 771, 772, 773, 774, 223, 224, 225, 815, 816, 817, 818, 819, 820, 821, 822, 823, 824, 825, 826, 827, 828] (by decide +kernel) (by decide +kernel)
set_option maxRecDepth 20000 in
theorem gL_law_X8_fault : GoodIn wsL_law (wsV RL 125 RX8 yX8_fault wsX8_fault) := goodIn_app (goodIn_of _ (by decide +kernel)) ggL_law_X8_fault
set_option maxRecDepth 20000 in
theorem ggL_law_X7_move : GoodIn wsL_law wsX7_move := goodIn_r _ [778, 23, 124, 19, 15, 779, 734, 22, 735, 736, 717, 737, 738, 739, 740, 741, 742, 743, 744, 745, 746, 747, 748, 83, 749, 750, 751, 752, 753, 754, 755, 756, 757, 758, 759, 112, 2, 113, 125, 18, 126, 127, 128, 78, 129, 130, 131, 132, 133, 134, 135, 136, 137, 138, 139, 140, 14, 141, 142, 34, 38, 42, 143, 33, 144, 145, 146, 147, 148, 149, 150, 151, 46, 47, 48, 50, 51, 152, 37, 153, 154, 65, 60, 155, 156, 57, 157, 158, 159, 160, 161, 61, 162, 41, 163, 164, 120, 69, 165, 70, 71, 72, 73, 780, 781, 782, 783, 263, 264, 265, 266, 267, 268, 269, 270, 271, 272, 273, 274, 275, 784, 302, 303, 304, 785, 114, 115, 116, 117, 118, 119, 786, 333, 334, 335, 787, 788, 789, 790, 276, 277, 278, 279, 280, 281, 166, 167, 168, 169, 170, 171, 172, 173, 174, 175, 176, 62, 63, 64, 177, 178, 179, 180, 181, 182, 183, 184, 185, 186, 187, 188, 189, 190, 55, 56, 58, 191, 192, 193, 194, 195, 196, 197, 198, 199, 200, 201, 202, 203, 204, 205, 206, 207, 208, 209, 210, 211, 212, 213, 791, 305, 306, 307, 316, 317, 318, 319, 320, 336, 337, 338, 810, 811, 812, 813, 814, 834, 835, 836, 837, 838, 839, 832, 833, 829, 830, 831, 847, 848, 849, 850, 851, 852, 853, 854, 855, 856, 857, 858, 859, 860, 861, 862, 863, 864, 865, 866] (by decide +kernel) (by decide +kernel)
set_option maxRecDepth 20000 in
theorem gL_law_X7_move : GoodIn wsL_law (wsV RL 126 RX7 yX7_move wsX7_move) := goodIn_app (goodIn_of _ (by decide +kernel)) ggL_law_X7_move
set_option maxRecDepth 20000 in
theorem ggL_law_X8_move : GoodIn wsL_law wsX8_move := goodIn_r _ [795, 386, 222, 764, 369, 796, 797, 761, 762, 5, 763, 765, 766, 767, 768, 102, 769, 770, 771, 772, 773, 774, 223, 224, 225, 230, 231, 232, 233, 234, 99, 101, 98, 235, 798, 799, 800, 801, 290, 291, 292, 293, 294, 295, 296, 297, 236, 237, 238, 239, 240, 241, 242, 243, 244, 245, 246, 247, 248, 249, 250, 226, 227, 228, 229, 325, 326, 327, 328, 343, 344, 345, 346, 815, 816, 817, 818, 819, 820, 821, 822, 823, 824, 825, 826, 827, 828] (by decide +kernel) (by decide +kernel)
set_option maxRecDepth 20000 in
theorem gL_law_X8_move : GoodIn wsL_law (wsV RL 129 RX8 yX8_move wsX8_move) := goodIn_app (goodIn_of _ (by decide +kernel)) ggL_law_X8_move
set_option maxRecDepth 20000 in
theorem ggL_law_X7_why : GoodIn wsL_law wsX7_why := goodIn_r _ [805, 779, 810, 811, 812, 813, 814] (by decide +kernel) (by decide +kernel)
set_option maxRecDepth 20000 in
theorem gL_law_X7_why : GoodIn wsL_law (wsV RL 130 RX7 yX7_why wsX7_why) := goodIn_app (goodIn_of _ (by decide +kernel)) ggL_law_X7_why
set_option maxRecDepth 20000 in
theorem ggL_law_X8_why : GoodIn wsL_law wsX8_why := goodIn_r _ [809, 796, 815, 816, 817, 818, 819, 820, 821, 822, 823, 824, 825, 826, 827, 828] (by decide +kernel) (by decide +kernel)
set_option maxRecDepth 20000 in
theorem gL_law_X8_why : GoodIn wsL_law (wsV RL 133 RX8 yX8_why wsX8_why) := goodIn_app (goodIn_of _ (by decide +kernel)) ggL_law_X8_why
