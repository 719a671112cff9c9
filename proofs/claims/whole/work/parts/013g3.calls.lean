set_option maxRecDepth 20000 in
theorem ggX6_judge_X6_throwing : GoodIn wsX6_judge wsX6_throwing := goodIn_r _ [18, 19, 27, 28, 29, 30, 31, 32, 33, 34, 35, 36, 37, 38, 39, 40, 41, 42, 43, 44, 45, 46, 47, 48, 49, 50, 51, 52] (by decide +kernel) (by decide +kernel)
set_option maxRecDepth 20000 in
theorem gX6_judge_X6_throwing : GoodIn wsX6_judge (wsV RX6 81 RX6 yX6_throwing wsX6_throwing) := goodIn_app (goodIn_of _ (by decide +kernel)) ggX6_judge_X6_throwing
set_option maxRecDepth 20000 in
theorem ggX6_judge_X6_goes : GoodIn wsX6_judge wsX6_goes := goodIn_r _ [23, 2, 24, 25, 26, 27, 28, 29, 30, 31, 32, 33, 34, 35, 36, 37, 38, 39, 40, 41, 42, 43, 44, 45, 46, 47, 48, 49, 50, 51, 52] (by decide +kernel) (by decide +kernel)
set_option maxRecDepth 20000 in
theorem gX6_judge_X6_goes : GoodIn wsX6_judge (wsV RX6 124 RX6 yX6_goes wsX6_goes) := goodIn_app (goodIn_of _ (by decide +kernel)) ggX6_judge_X6_goes
set_option maxRecDepth 20000 in
theorem ggX6_sets_X6_leaveOne : GoodIn wsX6_sets wsX6_leaveOne := goodIn_r _ [7, 8, 9, 20, 21, 22, 23, 24, 25, 26, 27, 28, 29, 30, 31, 32, 33, 34, 35, 36, 37, 38, 39, 40, 41, 42, 43, 44, 45] (by decide +kernel) (by decide +kernel)
set_option maxRecDepth 20000 in
theorem gX6_sets_X6_leaveOne : GoodIn wsX6_sets (wsV RX6 135 RX6 yX6_leaveOne wsX6_leaveOne) := goodIn_app (goodIn_of _ (by decide +kernel)) ggX6_sets_X6_leaveOne
set_option maxRecDepth 20000 in
theorem ggX6_sets_X6_groups : GoodIn wsX6_sets wsX6_groups := goodIn_r _ [13, 2, 8, 14, 15, 9, 20, 21, 22, 23, 24, 25, 26, 27, 28, 29, 30, 31, 32, 33, 34, 35, 36, 37, 38, 39, 40, 41, 42, 43, 44, 45] (by decide +kernel) (by decide +kernel)
set_option maxRecDepth 20000 in
theorem gX6_sets_X6_groups : GoodIn wsX6_sets (wsV RX6 114 RX6 yX6_groups wsX6_groups) := goodIn_app (goodIn_of _ (by decide +kernel)) ggX6_sets_X6_groups
set_option maxRecDepth 20000 in
theorem ggX6_sets_X6_hasEdge : GoodIn wsX6_sets wsX6_hasEdge := goodIn_r _ [19, 8, 14, 15, 20, 21, 22, 23, 24, 25, 26, 27, 28, 29, 30, 31, 32, 33, 34, 35, 36, 37, 38, 39, 40, 41, 42, 43, 44, 45] (by decide +kernel) (by decide +kernel)
set_option maxRecDepth 20000 in
theorem gX6_sets_X6_hasEdge : GoodIn wsX6_sets (wsV RX6 165 RX6 yX6_hasEdge wsX6_hasEdge) := goodIn_app (goodIn_of _ (by decide +kernel)) ggX6_sets_X6_hasEdge
set_option maxRecDepth 20000 in
theorem ggX6_leastOdd_X6_isOdd : GoodIn wsX6_leastOdd wsX6_isOdd := goodIn_r _ [6, 7, 8, 9, 10, 5, 11, 12, 13, 14, 15, 16, 17, 18, 19, 20, 21, 22, 23, 24, 25, 26, 27, 28, 29, 30, 31, 32, 33, 34, 35, 36, 37, 38, 39, 40] (by decide +kernel) (by decide +kernel)
set_option maxRecDepth 20000 in
theorem gX6_leastOdd_X6_isOdd : GoodIn wsX6_leastOdd (wsV RX6 121 RX6 yX6_isOdd wsX6_isOdd) := goodIn_app (goodIn_of _ (by decide +kernel)) ggX6_leastOdd_X6_isOdd
set_option maxRecDepth 20000 in
theorem ggX6_touched_X6_hasEdge : GoodIn wsX6_touched wsX6_hasEdge := goodIn_r _ [6, 7, 8, 9, 10, 11, 12, 13, 14, 15, 16, 17, 18, 19, 20, 21, 22, 23, 24, 25, 26, 27, 28, 29, 30, 31, 32, 33, 34, 35] (by decide +kernel) (by decide +kernel)
set_option maxRecDepth 20000 in
theorem gX6_touched_X6_hasEdge : GoodIn wsX6_touched (wsV RX6 165 RX6 yX6_hasEdge wsX6_hasEdge) := goodIn_app (goodIn_of _ (by decide +kernel)) ggX6_touched_X6_hasEdge
set_option maxRecDepth 20000 in
theorem ggX6_look_X6_throwing : GoodIn wsX6_look wsX6_throwing := goodIn_r _ [10, 11, 52, 53, 54, 55, 56, 57, 58, 59, 60, 61, 62, 63, 64, 65, 66, 67, 68, 69, 70, 71, 72, 73, 74, 75, 76, 77] (by decide +kernel) (by decide +kernel)
set_option maxRecDepth 20000 in
theorem gX6_look_X6_throwing : GoodIn wsX6_look (wsV RX6 81 RX6 yX6_throwing wsX6_throwing) := goodIn_app (goodIn_of _ (by decide +kernel)) ggX6_look_X6_throwing
set_option maxRecDepth 20000 in
theorem ggX6_look_X6_countOdd : GoodIn wsX6_look wsX6_countOdd := goodIn_r _ [15, 1, 16, 17, 18, 9, 19, 3, 20, 21, 22, 23, 2, 24, 25, 52, 53, 54, 55, 56, 57, 58, 59, 60, 61, 62, 63, 64, 65, 66, 67, 68, 69, 70, 71, 72, 73, 74, 75, 76, 77] (by decide +kernel) (by decide +kernel)
set_option maxRecDepth 20000 in
theorem gX6_look_X6_countOdd : GoodIn wsX6_look (wsV RX6 131 RX6 yX6_countOdd wsX6_countOdd) := goodIn_app (goodIn_of _ (by decide +kernel)) ggX6_look_X6_countOdd
set_option maxRecDepth 20000 in
theorem ggX6_look_X6_leastOdd : GoodIn wsX6_look wsX6_leastOdd := goodIn_r _ [29, 1, 16, 17, 18, 9, 19, 3, 20, 21, 22, 23, 2, 24, 25, 52, 53, 54, 55, 56, 57, 58, 59, 60, 61, 62, 63, 64, 65, 66, 67, 68, 69, 70, 71, 72, 73, 74, 75, 76, 77] (by decide +kernel) (by decide +kernel)
set_option maxRecDepth 20000 in
theorem gX6_look_X6_leastOdd : GoodIn wsX6_look (wsV RX6 184 RX6 yX6_leastOdd wsX6_leastOdd) := goodIn_app (goodIn_of _ (by decide +kernel)) ggX6_look_X6_leastOdd
set_option maxRecDepth 20000 in
theorem ggX6_look_X6_sets : GoodIn wsX6_look wsX6_sets := goodIn_r _ [33, 1, 34, 35, 36, 37, 9, 38, 2, 39, 40, 41, 42, 43, 25, 24, 44, 45, 46, 47, 52, 53, 54, 55, 56, 57, 58, 59, 60, 61, 62, 63, 64, 65, 66, 67, 68, 69, 70, 71, 72, 73, 74, 75, 76, 77] (by decide +kernel) (by decide +kernel)
set_option maxRecDepth 20000 in
theorem gX6_look_X6_sets : GoodIn wsX6_look (wsV RX6 187 RX6 yX6_sets wsX6_sets) := goodIn_app (goodIn_of _ (by decide +kernel)) ggX6_look_X6_sets
set_option maxRecDepth 20000 in
theorem ggX6_look_X6_touched : GoodIn wsX6_look wsX6_touched := goodIn_r _ [51, 1, 44, 45, 46, 9, 47, 2, 25, 24, 52, 53, 54, 55, 56, 57, 58, 59, 60, 61, 62, 63, 64, 65, 66, 67, 68, 69, 70, 71, 72, 73, 74, 75, 76, 77] (by decide +kernel) (by decide +kernel)
set_option maxRecDepth 20000 in
theorem gX6_look_X6_touched : GoodIn wsX6_look (wsV RX6 190 RX6 yX6_touched wsX6_touched) := goodIn_app (goodIn_of _ (by decide +kernel)) ggX6_look_X6_touched
