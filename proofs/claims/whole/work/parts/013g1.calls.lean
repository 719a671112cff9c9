set_option maxRecDepth 20000 in
theorem ggX5_init_X3_init : GoodIn wsX5_init wsX3_init := goodIn_r _ [59, 60, 2, 3, 61, 51, 62, 63, 13, 64, 65, 66, 67, 68, 97, 98, 99, 100, 101, 102, 103] (by decide +kernel) (by decide +kernel)
set_option maxRecDepth 20000 in
theorem gX5_init_X3_init : GoodIn wsX5_init (wsX3_init) := ggX5_init_X3_init
set_option maxRecDepth 20000 in
theorem ggX5_init_X0_init : GoodIn wsX5_init wsX0_init := goodIn_r _ [71, 72, 2, 3, 13, 73, 104] (by decide +kernel) (by decide +kernel)
set_option maxRecDepth 20000 in
theorem gX5_init_X0_init : GoodIn wsX5_init (wsX0_init) := ggX5_init_X0_init
set_option maxRecDepth 20000 in
theorem ggX5_forgetAnswers_X4_clear : GoodIn wsX5_forgetAnswers wsX4_clear := goodIn_r _ [7, 8, 18, 19] (by decide +kernel) (by decide +kernel)
set_option maxRecDepth 20000 in
theorem gX5_forgetAnswers_X4_clear : GoodIn wsX5_forgetAnswers (wsV RX5 163 RX4 yX4_clear wsX4_clear) := goodIn_app (goodIn_of _ (by decide +kernel)) ggX5_forgetAnswers_X4_clear
set_option maxRecDepth 20000 in
theorem ggX5_findExtras_X0_find : GoodIn wsX5_findExtras wsX0_find := goodIn_r _ [12, 13, 14, 15, 16, 17, 18, 19, 20, 21, 22, 23, 24, 25, 26, 27, 28, 29, 11, 30, 31, 32, 33, 34, 35, 36, 37, 38, 39, 40, 41, 42, 43, 44, 45, 46, 47, 48, 49, 50, 51, 52, 53, 54, 55, 56, 57, 58, 59, 127, 128, 129, 130, 131, 132, 133, 134, 135, 136, 137, 138, 139] (by decide +kernel) (by decide +kernel)
set_option maxRecDepth 20000 in
theorem gX5_findExtras_X0_find : GoodIn wsX5_findExtras (wsV RX5 192 RX0 yX0_find wsX0_find) := goodIn_app (goodIn_of _ (by decide +kernel)) ggX5_findExtras_X0_find
set_option maxRecDepth 20000 in
theorem ggX5_findExtras_X3_find : GoodIn wsX5_findExtras wsX3_find := goodIn_r _ [64, 65, 66, 67, 68, 22, 69, 70, 71, 72, 20, 21, 23, 24, 25, 26, 73, 74, 75, 63, 76, 77, 78, 79, 80, 81, 82, 83, 84, 85, 86, 87, 34, 88, 89, 90, 32, 33, 35, 36, 37, 38, 39, 40, 41, 42, 43, 44, 45, 46, 47, 48, 49, 50, 51, 52, 91, 92, 93, 94, 95, 96, 97, 98, 99, 16, 17, 18, 100, 101, 102, 103, 104, 105, 106, 107, 108, 109, 110, 111, 112, 113, 114, 115, 116, 117, 127, 128, 129, 130, 131, 132, 134, 135, 136, 137, 138, 139, 140, 141, 142, 143, 144, 145, 146] (by decide +kernel) (by decide +kernel)
set_option maxRecDepth 20000 in
theorem gX5_findExtras_X3_find : GoodIn wsX5_findExtras (wsV RX5 196 RX3 yX3_find wsX3_find) := goodIn_app (goodIn_of _ (by decide +kernel)) ggX5_findExtras_X3_find
set_option maxRecDepth 20000 in
theorem ggX5_writeLeastRow_X4_clear : GoodIn wsX5_writeLeastRow wsX4_clear := goodIn_r _ [8, 9, 63, 64] (by decide +kernel) (by decide +kernel)
set_option maxRecDepth 20000 in
theorem gX5_writeLeastRow_X4_clear : GoodIn wsX5_writeLeastRow (wsV RX5 163 RX4 yX4_clear wsX4_clear) := goodIn_app (goodIn_of _ (by decide +kernel)) ggX5_writeLeastRow_X4_clear
set_option maxRecDepth 20000 in
theorem ggX5_writeLeastRow_X5_leastStepFrom : GoodIn wsX5_writeLeastRow wsX5_leastStepFrom := goodIn_r _ [14, 3, 15, 2, 16, 17, 18, 19, 20, 21, 22, 23, 24, 25, 26, 27, 13, 28, 29, 30, 31, 32, 33, 34, 35, 36, 37, 38, 39, 40, 41, 42, 43, 44, 54, 55, 56, 57, 58, 59, 60, 61, 62, 65, 66, 67, 68, 69, 70] (by decide +kernel) (by decide +kernel)
set_option maxRecDepth 20000 in
theorem gX5_writeLeastRow_X5_leastStepFrom : GoodIn wsX5_writeLeastRow (wsV RX5 197 RX5 yX5_leastStepFrom wsX5_leastStepFrom) := goodIn_app (goodIn_of _ (by decide +kernel)) ggX5_writeLeastRow_X5_leastStepFrom
set_option maxRecDepth 20000 in
theorem ggX5_writeLeastRow_X4_append : GoodIn wsX5_writeLeastRow wsX4_append := goodIn_r _ [48, 49, 9, 50, 51, 52, 7, 53, 63, 64] (by decide +kernel) (by decide +kernel)
set_option maxRecDepth 20000 in
theorem gX5_writeLeastRow_X4_append : GoodIn wsX5_writeLeastRow (wsV RX5 156 RX4 yX4_append wsX4_append) := goodIn_app (goodIn_of _ (by decide +kernel)) ggX5_writeLeastRow_X4_append
set_option maxRecDepth 20000 in
theorem ggX5_writeLeastRow_X2_endOf : GoodIn wsX5_writeLeastRow wsX2_endOf := goodIn_r _ [32, 24, 22, 65, 66, 67, 68, 69, 70] (by decide +kernel) (by decide +kernel)
set_option maxRecDepth 20000 in
theorem gX5_writeLeastRow_X2_endOf : GoodIn wsX5_writeLeastRow (wsV RX5 200 RX2 yX2_endOf wsX2_endOf) := goodIn_app (goodIn_of _ (by decide +kernel)) ggX5_writeLeastRow_X2_endOf
set_option maxRecDepth 20000 in
theorem ggX5_leastStepFrom_X2_isStepFrom : GoodIn wsX5_leastStepFrom wsX2_isStepFrom := goodIn_r _ [8, 9, 10, 11, 12, 43, 44, 45, 46, 47, 48] (by decide +kernel) (by decide +kernel)
set_option maxRecDepth 20000 in
theorem gX5_leastStepFrom_X2_isStepFrom : GoodIn wsX5_leastStepFrom (wsV RX5 203 RX2 yX2_isStepFrom wsX2_isStepFrom) := goodIn_app (goodIn_of _ (by decide +kernel)) ggX5_leastStepFrom_X2_isStepFrom
set_option maxRecDepth 20000 in
theorem ggX5_leastStepFrom_X5_leavesWhole : GoodIn wsX5_leastStepFrom wsX5_leavesWhole := goodIn_r _ [17, 3, 1, 18, 19, 20, 7, 21, 12, 10, 22, 23, 24, 25, 26, 27, 28, 29, 9, 30, 31, 32, 33, 34, 35, 36, 37, 38, 39, 40, 41, 42, 43, 44, 45, 46, 47, 48] (by decide +kernel) (by decide +kernel)
set_option maxRecDepth 20000 in
theorem gX5_leastStepFrom_X5_leavesWhole : GoodIn wsX5_leastStepFrom (wsV RX5 207 RX5 yX5_leavesWhole wsX5_leavesWhole) := goodIn_app (goodIn_of _ (by decide +kernel)) ggX5_leastStepFrom_X5_leavesWhole
set_option maxRecDepth 20000 in
theorem ggX5_leavesWhole_X2_endOf : GoodIn wsX5_leavesWhole wsX2_endOf := goodIn_r _ [7, 8, 9, 32, 33, 34, 35, 36, 37] (by decide +kernel) (by decide +kernel)
set_option maxRecDepth 20000 in
theorem gX5_leavesWhole_X2_endOf : GoodIn wsX5_leavesWhole (wsV RX5 200 RX2 yX2_endOf wsX2_endOf) := goodIn_app (goodIn_of _ (by decide +kernel)) ggX5_leavesWhole_X2_endOf
set_option maxRecDepth 20000 in
theorem ggX5_leavesWhole_X2_hangsTogetherAt : GoodIn wsX5_leavesWhole wsX2_hangsTogetherAt := goodIn_r _ [13, 14, 15, 16, 6, 17, 18, 9, 8, 19, 20, 21, 22, 32, 33, 34, 35, 36, 37] (by decide +kernel) (by decide +kernel)
set_option maxRecDepth 20000 in
theorem gX5_leavesWhole_X2_hangsTogetherAt : GoodIn wsX5_leavesWhole (wsV RX5 119 RX2 yX2_hangsTogetherAt wsX2_hangsTogetherAt) := goodIn_app (goodIn_of _ (by decide +kernel)) ggX5_leavesWhole_X2_hangsTogetherAt
set_option maxRecDepth 20000 in
theorem ggX5_verdictOnPath_J7_fill_53178 : GoodIn wsX5_verdictOnPath wsJ7_fill_53178 := goodIn_r _ [14] (by decide +kernel) (by decide +kernel)
set_option maxRecDepth 20000 in
theorem gX5_verdictOnPath_J7_fill_53178 : GoodIn wsX5_verdictOnPath (va_wsS RX5 211 yJ7_fill_53178 wsJ7_fill_53178) := goodIn_app (goodIn_of _ (by decide +kernel)) ggX5_verdictOnPath_J7_fill_53178
set_option maxRecDepth 20000 in
theorem ggX5_verdictOnPath_X2_isStepFrom : GoodIn wsX5_verdictOnPath wsX2_isStepFrom := goodIn_r _ [19, 20, 21, 22, 23, 39, 40, 41, 42, 43, 44] (by decide +kernel) (by decide +kernel)
set_option maxRecDepth 20000 in
theorem gX5_verdictOnPath_X2_isStepFrom : GoodIn wsX5_verdictOnPath (wsV RX5 203 RX2 yX2_isStepFrom wsX2_isStepFrom) := goodIn_app (goodIn_of _ (by decide +kernel)) ggX5_verdictOnPath_X2_isStepFrom
set_option maxRecDepth 20000 in
theorem ggX5_verdictOnPath_X2_endOf : GoodIn wsX5_verdictOnPath wsX2_endOf := goodIn_r _ [27, 23, 21, 39, 40, 41, 42, 43, 44] (by decide +kernel) (by decide +kernel)
set_option maxRecDepth 20000 in
theorem gX5_verdictOnPath_X2_endOf : GoodIn wsX5_verdictOnPath (wsV RX5 200 RX2 yX2_endOf wsX2_endOf) := goodIn_app (goodIn_of _ (by decide +kernel)) ggX5_verdictOnPath_X2_endOf
set_option maxRecDepth 20000 in
theorem ggX6_reset_X6_throwing : GoodIn wsX6_reset wsX6_throwing := goodIn_r _ [8, 9, 16, 17, 18, 19, 20, 21, 22, 23, 24, 25, 26, 27, 28, 29, 30, 31, 32, 33, 34, 35, 36, 37, 38, 39, 40, 41] (by decide +kernel) (by decide +kernel)
set_option maxRecDepth 20000 in
theorem gX6_reset_X6_throwing : GoodIn wsX6_reset (wsV RX6 81 RX6 yX6_throwing wsX6_throwing) := goodIn_app (goodIn_of _ (by decide +kernel)) ggX6_reset_X6_throwing
set_option maxRecDepth 20000 in
theorem ggX6_reset_X6_change : GoodIn wsX6_reset wsX6_change := goodIn_r _ [13, 14, 15, 16, 17, 18, 19, 20, 21, 22, 23, 24, 25, 26, 27, 28, 29, 30, 31, 32, 33, 34, 35, 36, 37, 38, 39, 40, 41] (by decide +kernel) (by decide +kernel)
set_option maxRecDepth 20000 in
theorem gX6_reset_X6_change : GoodIn wsX6_reset (wsV RX6 91 RX6 yX6_change wsX6_change) := goodIn_app (goodIn_of _ (by decide +kernel)) ggX6_reset_X6_change
set_option maxRecDepth 20000 in
theorem ggX6_edge_X6_isVertex : GoodIn wsX6_edge wsX6_isVertex := goodIn_r _ [10, 11, 23, 24, 25, 26, 27, 28, 29, 30, 31, 32, 33, 34, 35, 36, 37, 38, 39, 40, 41, 42, 43, 44, 45, 46, 47, 48] (by decide +kernel) (by decide +kernel)
set_option maxRecDepth 20000 in
theorem gX6_edge_X6_isVertex : GoodIn wsX6_edge (wsV RX6 94 RX6 yX6_isVertex wsX6_isVertex) := goodIn_app (goodIn_of _ (by decide +kernel)) ggX6_edge_X6_isVertex
set_option maxRecDepth 20000 in
theorem ggX6_edge_X6_throwing : GoodIn wsX6_edge wsX6_throwing := goodIn_r _ [15, 16, 23, 24, 25, 26, 27, 28, 29, 30, 31, 32, 33, 34, 35, 36, 37, 38, 39, 40, 41, 42, 43, 44, 45, 46, 47, 48] (by decide +kernel) (by decide +kernel)
set_option maxRecDepth 20000 in
theorem gX6_edge_X6_throwing : GoodIn wsX6_edge (wsV RX6 81 RX6 yX6_throwing wsX6_throwing) := goodIn_app (goodIn_of _ (by decide +kernel)) ggX6_edge_X6_throwing
set_option maxRecDepth 20000 in
theorem ggX6_edge_X6_change : GoodIn wsX6_edge wsX6_change := goodIn_r _ [20, 21, 22, 23, 24, 25, 26, 27, 28, 29, 30, 31, 32, 33, 34, 35, 36, 37, 38, 39, 40, 41, 42, 43, 44, 45, 46, 47, 48] (by decide +kernel) (by decide +kernel)
set_option maxRecDepth 20000 in
theorem gX6_edge_X6_change : GoodIn wsX6_edge (wsV RX6 91 RX6 yX6_change wsX6_change) := goodIn_app (goodIn_of _ (by decide +kernel)) ggX6_edge_X6_change
set_option maxRecDepth 20000 in
theorem ggX6_drop_X6_throwing : GoodIn wsX6_drop wsX6_throwing := goodIn_r _ [6, 7, 14, 15, 16, 17, 18, 19, 20, 21, 22, 23, 24, 25, 26, 27, 28, 29, 30, 31, 32, 33, 34, 35, 36, 37, 38, 39] (by decide +kernel) (by decide +kernel)
set_option maxRecDepth 20000 in
theorem gX6_drop_X6_throwing : GoodIn wsX6_drop (wsV RX6 81 RX6 yX6_throwing wsX6_throwing) := goodIn_app (goodIn_of _ (by decide +kernel)) ggX6_drop_X6_throwing
set_option maxRecDepth 20000 in
theorem ggX6_drop_X6_change : GoodIn wsX6_drop wsX6_change := goodIn_r _ [11, 12, 13, 14, 15, 16, 17, 18, 19, 20, 21, 22, 23, 24, 25, 26, 27, 28, 29, 30, 31, 32, 33, 34, 35, 36, 37, 38, 39] (by decide +kernel) (by decide +kernel)
set_option maxRecDepth 20000 in
theorem gX6_drop_X6_change : GoodIn wsX6_drop (wsV RX6 91 RX6 yX6_change wsX6_change) := goodIn_app (goodIn_of _ (by decide +kernel)) ggX6_drop_X6_change
set_option maxRecDepth 20000 in
theorem ggX6_way_X6_isLess : GoodIn wsX6_way wsX6_isLess := goodIn_r _ [7, 1, 2, 8, 9, 10, 11, 12, 13, 14, 15, 16, 17, 18, 19, 20, 21, 22, 23, 24, 25, 26, 27, 28, 29, 30, 31, 32, 33] (by decide +kernel) (by decide +kernel)
set_option maxRecDepth 20000 in
theorem gX6_way_X6_isLess : GoodIn wsX6_way (wsV RX6 99 RX6 yX6_isLess wsX6_isLess) := goodIn_app (goodIn_of _ (by decide +kernel)) ggX6_way_X6_isLess
set_option maxRecDepth 20000 in
theorem ggX6_measure_X6_way : GoodIn wsX6_measure wsX6_way := goodIn_r _ [14, 1, 3, 15, 16, 17, 13, 18, 19, 20, 21, 22, 23, 24, 25, 26, 27, 28, 29, 30, 31, 32, 33, 34, 35, 36, 37, 38, 39, 40, 41, 42, 43, 44] (by decide +kernel) (by decide +kernel)
set_option maxRecDepth 20000 in
theorem gX6_measure_X6_way : GoodIn wsX6_measure (wsV RX6 105 RX6 yX6_way wsX6_way) := goodIn_app (goodIn_of _ (by decide +kernel)) ggX6_measure_X6_way
set_option maxRecDepth 20000 in
theorem ggX6_distance_X6_isVertex : GoodIn wsX6_distance wsX6_isVertex := goodIn_r _ [8, 9, 33, 34, 35, 36, 37, 38, 39, 40, 41, 42, 43, 44, 45, 46, 47, 48, 49, 50, 51, 52, 53, 54, 55, 56, 57, 58] (by decide +kernel) (by decide +kernel)
set_option maxRecDepth 20000 in
theorem gX6_distance_X6_isVertex : GoodIn wsX6_distance (wsV RX6 94 RX6 yX6_isVertex wsX6_isVertex) := goodIn_app (goodIn_of _ (by decide +kernel)) ggX6_distance_X6_isVertex
set_option maxRecDepth 20000 in
theorem ggX6_distance_X6_throwing : GoodIn wsX6_distance wsX6_throwing := goodIn_r _ [13, 14, 33, 34, 35, 36, 37, 38, 39, 40, 41, 42, 43, 44, 45, 46, 47, 48, 49, 50, 51, 52, 53, 54, 55, 56, 57, 58] (by decide +kernel) (by decide +kernel)
set_option maxRecDepth 20000 in
theorem gX6_distance_X6_throwing : GoodIn wsX6_distance (wsV RX6 81 RX6 yX6_throwing wsX6_throwing) := goodIn_app (goodIn_of _ (by decide +kernel)) ggX6_distance_X6_throwing
set_option maxRecDepth 20000 in
theorem ggX6_distance_X6_measure : GoodIn wsX6_distance wsX6_measure := goodIn_r _ [18, 1, 2, 19, 20, 21, 22, 23, 24, 9, 25, 26, 27, 7, 28, 29, 30, 31, 32, 33, 34, 35, 36, 37, 38, 39, 40, 41, 42, 43, 44, 45, 46, 47, 48, 49, 50, 51, 52, 53, 54, 55, 56, 57, 58] (by decide +kernel) (by decide +kernel)
set_option maxRecDepth 20000 in
theorem gX6_distance_X6_measure : GoodIn wsX6_distance (wsV RX6 109 RX6 yX6_measure wsX6_measure) := goodIn_app (goodIn_of _ (by decide +kernel)) ggX6_distance_X6_measure
set_option maxRecDepth 20000 in
theorem ggX6_hang_X6_groups : GoodIn wsX6_hang wsX6_groups := goodIn_r _ [9, 3, 1, 4, 10, 2, 11, 12, 13, 14, 15, 16, 17, 18, 19, 20, 21, 22, 23, 24, 25, 26, 27, 28, 29, 30, 31, 32, 33, 34, 35, 36] (by decide +kernel) (by decide +kernel)
set_option maxRecDepth 20000 in
theorem gX6_hang_X6_groups : GoodIn wsX6_hang (wsV RX6 114 RX6 yX6_groups wsX6_groups) := goodIn_app (goodIn_of _ (by decide +kernel)) ggX6_hang_X6_groups
set_option maxRecDepth 20000 in
theorem ggX6_isOdd_X6_balance : GoodIn wsX6_isOdd wsX6_balance := goodIn_r _ [6, 7, 8, 9, 1, 10, 11, 12, 13, 14, 15, 16, 17, 18, 19, 20, 21, 22, 23, 24, 25, 26, 27, 28, 29, 30, 31, 32, 33, 34, 35] (by decide +kernel) (by decide +kernel)
set_option maxRecDepth 20000 in
theorem gX6_isOdd_X6_balance : GoodIn wsX6_isOdd (wsV RX6 117 RX6 yX6_balance wsX6_balance) := goodIn_app (goodIn_of _ (by decide +kernel)) ggX6_isOdd_X6_balance
