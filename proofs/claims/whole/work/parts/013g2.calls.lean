set_option maxRecDepth 20000 in
theorem ggX6_countOdd_X6_isOdd : GoodIn wsX6_countOdd wsX6_isOdd := goodIn_r _ [6, 7, 8, 9, 10, 5, 11, 12, 13, 14, 15, 16, 17, 18, 19, 20, 21, 22, 23, 24, 25, 26, 27, 28, 29, 30, 31, 32, 33, 34, 35, 36, 37, 38, 39, 40] (by decide +kernel) (by decide +kernel)
set_option maxRecDepth 20000 in
theorem gX6_countOdd_X6_isOdd : GoodIn wsX6_countOdd (wsV RX6 121 RX6 yX6_isOdd wsX6_isOdd) := goodIn_app (goodIn_of _ (by decide +kernel)) ggX6_countOdd_X6_isOdd
set_option maxRecDepth 20000 in
theorem ggX6_walk_X6_goes : GoodIn wsX6_walk wsX6_goes := goodIn_r _ [9, 2, 10, 11, 12, 22, 23, 24, 25, 26, 27, 28, 29, 30, 31, 32, 33, 34, 35, 36, 37, 38, 39, 40, 41, 42, 43, 44, 45, 46, 47] (by decide +kernel) (by decide +kernel)
set_option maxRecDepth 20000 in
theorem gX6_walk_X6_goes : GoodIn wsX6_walk (wsV RX6 124 RX6 yX6_goes wsX6_goes) := goodIn_app (goodIn_of _ (by decide +kernel)) ggX6_walk_X6_goes
set_option maxRecDepth 20000 in
theorem ggX6_walk_X6_hang : GoodIn wsX6_walk wsX6_hang := goodIn_r _ [16, 2, 3, 17, 10, 18, 19, 20, 8, 21, 11, 22, 23, 24, 25, 26, 27, 28, 29, 30, 31, 32, 33, 34, 35, 36, 37, 38, 39, 40, 41, 42, 43, 44, 45, 46, 47] (by decide +kernel) (by decide +kernel)
set_option maxRecDepth 20000 in
theorem gX6_walk_X6_hang : GoodIn wsX6_walk (wsV RX6 128 RX6 yX6_hang wsX6_hang) := goodIn_app (goodIn_of _ (by decide +kernel)) ggX6_walk_X6_hang
set_option maxRecDepth 20000 in
theorem ggX6_tour_X6_isVertex : GoodIn wsX6_tour wsX6_isVertex := goodIn_r _ [6, 7, 52, 53, 54, 55, 56, 57, 58, 59, 60, 61, 62, 63, 64, 65, 66, 67, 68, 69, 70, 71, 72, 73, 74, 75, 76, 77] (by decide +kernel) (by decide +kernel)
set_option maxRecDepth 20000 in
theorem gX6_tour_X6_isVertex : GoodIn wsX6_tour (wsV RX6 94 RX6 yX6_isVertex wsX6_isVertex) := goodIn_app (goodIn_of _ (by decide +kernel)) ggX6_tour_X6_isVertex
set_option maxRecDepth 20000 in
theorem ggX6_tour_X6_throwing : GoodIn wsX6_tour wsX6_throwing := goodIn_r _ [11, 12, 52, 53, 54, 55, 56, 57, 58, 59, 60, 61, 62, 63, 64, 65, 66, 67, 68, 69, 70, 71, 72, 73, 74, 75, 76, 77] (by decide +kernel) (by decide +kernel)
set_option maxRecDepth 20000 in
theorem gX6_tour_X6_throwing : GoodIn wsX6_tour (wsV RX6 81 RX6 yX6_throwing wsX6_throwing) := goodIn_app (goodIn_of _ (by decide +kernel)) ggX6_tour_X6_throwing
set_option maxRecDepth 20000 in
theorem ggX6_tour_X6_countOdd : GoodIn wsX6_tour wsX6_countOdd := goodIn_r _ [16, 7, 17, 18, 19, 5, 20, 21, 22, 23, 24, 25, 26, 27, 28, 52, 53, 54, 55, 56, 57, 58, 59, 60, 61, 62, 63, 64, 65, 66, 67, 68, 69, 70, 71, 72, 73, 74, 75, 76, 77] (by decide +kernel) (by decide +kernel)
set_option maxRecDepth 20000 in
theorem gX6_tour_X6_countOdd : GoodIn wsX6_tour (wsV RX6 131 RX6 yX6_countOdd wsX6_countOdd) := goodIn_app (goodIn_of _ (by decide +kernel)) ggX6_tour_X6_countOdd
set_option maxRecDepth 20000 in
theorem ggX6_tour_X6_leaveOne : GoodIn wsX6_tour wsX6_leaveOne := goodIn_r _ [32, 26, 33, 52, 53, 54, 55, 56, 57, 58, 59, 60, 61, 62, 63, 64, 65, 66, 67, 68, 69, 70, 71, 72, 73, 74, 75, 76, 77] (by decide +kernel) (by decide +kernel)
set_option maxRecDepth 20000 in
theorem gX6_tour_X6_leaveOne : GoodIn wsX6_tour (wsV RX6 135 RX6 yX6_leaveOne wsX6_leaveOne) := goodIn_app (goodIn_of _ (by decide +kernel)) ggX6_tour_X6_leaveOne
set_option maxRecDepth 20000 in
theorem ggX6_tour_X6_hang : GoodIn wsX6_tour wsX6_hang := goodIn_r _ [37, 26, 33, 38, 28, 39, 40, 41, 5, 42, 27, 52, 53, 54, 55, 56, 57, 58, 59, 60, 61, 62, 63, 64, 65, 66, 67, 68, 69, 70, 71, 72, 73, 74, 75, 76, 77] (by decide +kernel) (by decide +kernel)
set_option maxRecDepth 20000 in
theorem gX6_tour_X6_hang : GoodIn wsX6_tour (wsV RX6 128 RX6 yX6_hang wsX6_hang) := goodIn_app (goodIn_of _ (by decide +kernel)) ggX6_tour_X6_hang
set_option maxRecDepth 20000 in
theorem ggX6_tour_X6_walk : GoodIn wsX6_tour wsX6_walk := goodIn_r _ [46, 1, 26, 33, 47, 48, 49, 50, 5, 51, 28, 27, 21, 34, 35, 36, 37, 38, 39, 40, 41, 42, 52, 53, 54, 55, 56, 57, 58, 59, 60, 61, 62, 63, 64, 65, 66, 67, 68, 69, 70, 71, 72, 73, 74, 75, 76, 77] (by decide +kernel) (by decide +kernel)
set_option maxRecDepth 20000 in
theorem gX6_tour_X6_walk : GoodIn wsX6_tour (wsV RX6 138 RX6 yX6_walk wsX6_walk) := goodIn_app (goodIn_of _ (by decide +kernel)) ggX6_tour_X6_walk
set_option maxRecDepth 20000 in
theorem ggX6_pair_X6_isOdd : GoodIn wsX6_pair wsX6_isOdd := goodIn_r _ [12, 13, 14, 15, 16, 11, 17, 6, 18, 19, 27, 28, 29, 30, 31, 32, 33, 34, 35, 36, 37, 38, 39, 40, 41, 42, 43, 44, 45, 46, 47, 48, 49, 50, 51, 52] (by decide +kernel) (by decide +kernel)
set_option maxRecDepth 20000 in
theorem gX6_pair_X6_isOdd : GoodIn wsX6_pair (wsV RX6 121 RX6 yX6_isOdd wsX6_isOdd) := goodIn_app (goodIn_of _ (by decide +kernel)) ggX6_pair_X6_isOdd
set_option maxRecDepth 20000 in
theorem ggX6_pair_X6_pairSet : GoodIn wsX6_pair wsX6_pairSet := goodIn_r _ [23, 4, 24, 5, 1, 3, 25, 26, 27, 28, 29, 30, 31, 32, 33, 34, 35, 36, 37, 38, 39, 40, 41, 42, 43, 44, 45, 46, 47, 48, 49, 50, 51, 52] (by decide +kernel) (by decide +kernel)
set_option maxRecDepth 20000 in
theorem gX6_pair_X6_pairSet : GoodIn wsX6_pair (wsV RX6 145 RX6 yX6_pairSet wsX6_pairSet) := goodIn_app (goodIn_of _ (by decide +kernel)) ggX6_pair_X6_pairSet
set_option maxRecDepth 20000 in
theorem ggX6_reach_X6_addEdge : GoodIn wsX6_reach wsX6_addEdge := goodIn_r _ [9, 4, 3, 10, 15, 16, 17, 18, 19, 20, 21, 22, 23, 24, 25, 26, 27, 28, 29, 30, 31, 32, 33, 34, 35, 36, 37, 38, 39, 40] (by decide +kernel) (by decide +kernel)
set_option maxRecDepth 20000 in
theorem gX6_reach_X6_addEdge : GoodIn wsX6_reach (wsV RX6 148 RX6 yX6_addEdge wsX6_addEdge) := goodIn_app (goodIn_of _ (by decide +kernel)) ggX6_reach_X6_addEdge
set_option maxRecDepth 20000 in
theorem ggX6_reach_X6_isSumLess : GoodIn wsX6_reach wsX6_isSumLess := goodIn_r _ [14, 1, 4, 3, 15, 16, 17, 18, 19, 20, 21, 22, 23, 24, 25, 26, 27, 28, 29, 30, 31, 32, 33, 34, 35, 36, 37, 38, 39, 40] (by decide +kernel) (by decide +kernel)
set_option maxRecDepth 20000 in
theorem gX6_reach_X6_isSumLess : GoodIn wsX6_reach (wsV RX6 152 RX6 yX6_isSumLess wsX6_isSumLess) := goodIn_app (goodIn_of _ (by decide +kernel)) ggX6_reach_X6_isSumLess
set_option maxRecDepth 20000 in
theorem ggX6_spread_X6_reach : GoodIn wsX6_spread wsX6_reach := goodIn_r _ [14, 2, 4, 5, 15, 16, 17, 18, 13, 19, 20, 21, 22, 23, 24, 25, 26, 27, 28, 29, 30, 31, 32, 33, 34, 35, 36, 37, 38, 39, 40, 41, 42, 43, 44, 45, 46, 47, 48, 49, 50] (by decide +kernel) (by decide +kernel)
set_option maxRecDepth 20000 in
theorem gX6_spread_X6_reach : GoodIn wsX6_spread (wsV RX6 155 RX6 yX6_reach wsX6_reach) := goodIn_app (goodIn_of _ (by decide +kernel)) ggX6_spread_X6_reach
set_option maxRecDepth 20000 in
theorem ggX6_nearest_X6_isSumLess : GoodIn wsX6_nearest wsX6_isSumLess := goodIn_r _ [9, 10, 3, 4, 11, 12, 13, 14, 15, 16, 17, 18, 19, 20, 21, 22, 23, 24, 25, 26, 27, 28, 29, 30, 31, 32, 33, 34, 35, 36] (by decide +kernel) (by decide +kernel)
set_option maxRecDepth 20000 in
theorem gX6_nearest_X6_isSumLess : GoodIn wsX6_nearest (wsV RX6 152 RX6 yX6_isSumLess wsX6_isSumLess) := goodIn_app (goodIn_of _ (by decide +kernel)) ggX6_nearest_X6_isSumLess
set_option maxRecDepth 20000 in
theorem ggX6_flow_X6_balance : GoodIn wsX6_flow wsX6_balance := goodIn_r _ [12, 3, 7, 6, 13, 38, 39, 40, 41, 42, 43, 44, 45, 46, 47, 48, 49, 50, 51, 52, 53, 54, 55, 56, 57, 58, 59, 60, 61, 62, 63] (by decide +kernel) (by decide +kernel)
set_option maxRecDepth 20000 in
theorem gX6_flow_X6_balance : GoodIn wsX6_flow (wsV RX6 117 RX6 yX6_balance wsX6_balance) := goodIn_app (goodIn_of _ (by decide +kernel)) ggX6_flow_X6_balance
set_option maxRecDepth 20000 in
theorem ggX6_flow_X6_spread : GoodIn wsX6_flow wsX6_spread := goodIn_r _ [17, 1, 18, 2, 5, 19, 3, 6, 7, 4, 20, 21, 22, 11, 23, 24, 25, 26, 27, 28, 29, 30, 31, 32, 33, 38, 39, 40, 41, 42, 43, 44, 45, 46, 47, 48, 49, 50, 51, 52, 53, 54, 55, 56, 57, 58, 59, 60, 61, 62, 63] (by decide +kernel) (by decide +kernel)
set_option maxRecDepth 20000 in
theorem gX6_flow_X6_spread : GoodIn wsX6_flow (wsV RX6 159 RX6 yX6_spread wsX6_spread) := goodIn_app (goodIn_of _ (by decide +kernel)) ggX6_flow_X6_spread
set_option maxRecDepth 20000 in
theorem ggX6_flow_X6_nearest : GoodIn wsX6_flow wsX6_nearest := goodIn_r _ [37, 1, 2, 24, 19, 30, 31, 32, 11, 33, 18, 38, 39, 40, 41, 42, 43, 44, 45, 46, 47, 48, 49, 50, 51, 52, 53, 54, 55, 56, 57, 58, 59, 60, 61, 62, 63] (by decide +kernel) (by decide +kernel)
set_option maxRecDepth 20000 in
theorem gX6_flow_X6_nearest : GoodIn wsX6_flow (wsV RX6 162 RX6 yX6_nearest wsX6_nearest) := goodIn_app (goodIn_of _ (by decide +kernel)) ggX6_flow_X6_nearest
set_option maxRecDepth 20000 in
theorem ggX6_covers_X6_hasEdge : GoodIn wsX6_covers wsX6_hasEdge := goodIn_r _ [9, 1, 10, 11, 12, 13, 14, 15, 16, 17, 18, 19, 20, 21, 22, 23, 24, 25, 26, 27, 28, 29, 30, 31, 32, 33, 34, 35, 36, 37] (by decide +kernel) (by decide +kernel)
set_option maxRecDepth 20000 in
theorem gX6_covers_X6_hasEdge : GoodIn wsX6_covers (wsV RX6 165 RX6 yX6_hasEdge wsX6_hasEdge) := goodIn_app (goodIn_of _ (by decide +kernel)) ggX6_covers_X6_hasEdge
set_option maxRecDepth 20000 in
theorem ggX6_round_X6_isVertex : GoodIn wsX6_round wsX6_isVertex := goodIn_r _ [12, 13, 112, 113, 114, 115, 116, 117, 118, 119, 120, 121, 122, 123, 124, 125, 126, 127, 128, 129, 130, 131, 132, 133, 134, 135, 136, 137] (by decide +kernel) (by decide +kernel)
set_option maxRecDepth 20000 in
theorem gX6_round_X6_isVertex : GoodIn wsX6_round (wsV RX6 94 RX6 yX6_isVertex wsX6_isVertex) := goodIn_app (goodIn_of _ (by decide +kernel)) ggX6_round_X6_isVertex
set_option maxRecDepth 20000 in
theorem ggX6_round_X6_throwing : GoodIn wsX6_round wsX6_throwing := goodIn_r _ [17, 18, 112, 113, 114, 115, 116, 117, 118, 119, 120, 121, 122, 123, 124, 125, 126, 127, 128, 129, 130, 131, 132, 133, 134, 135, 136, 137] (by decide +kernel) (by decide +kernel)
set_option maxRecDepth 20000 in
theorem gX6_round_X6_throwing : GoodIn wsX6_round (wsV RX6 81 RX6 yX6_throwing wsX6_throwing) := goodIn_app (goodIn_of _ (by decide +kernel)) ggX6_round_X6_throwing
set_option maxRecDepth 20000 in
theorem ggX6_round_X6_measure : GoodIn wsX6_round wsX6_measure := goodIn_r _ [22, 23, 24, 25, 3, 26, 27, 6, 2, 13, 28, 29, 30, 11, 31, 32, 33, 34, 35, 112, 113, 114, 115, 116, 117, 118, 119, 120, 121, 122, 123, 124, 125, 126, 127, 128, 129, 130, 131, 132, 133, 134, 135, 136, 137] (by decide +kernel) (by decide +kernel)
set_option maxRecDepth 20000 in
theorem gX6_round_X6_measure : GoodIn wsX6_round (wsV RX6 109 RX6 yX6_measure wsX6_measure) := goodIn_app (goodIn_of _ (by decide +kernel)) ggX6_round_X6_measure
set_option maxRecDepth 20000 in
theorem ggX6_round_X6_covers : GoodIn wsX6_round wsX6_covers := goodIn_r _ [39, 3, 13, 23, 24, 40, 41, 42, 11, 43, 26, 27, 112, 113, 114, 115, 116, 117, 118, 119, 120, 121, 122, 123, 124, 125, 126, 127, 128, 129, 130, 131, 132, 133, 134, 135, 136, 137] (by decide +kernel) (by decide +kernel)
set_option maxRecDepth 20000 in
theorem gX6_round_X6_covers : GoodIn wsX6_round (wsV RX6 168 RX6 yX6_covers wsX6_covers) := goodIn_app (goodIn_of _ (by decide +kernel)) ggX6_round_X6_covers
set_option maxRecDepth 20000 in
theorem ggX6_round_X6_flow : GoodIn wsX6_round wsX6_flow := goodIn_r _ [47, 13, 48, 3, 5, 49, 26, 27, 50, 51, 52, 11, 53, 2, 54, 55, 56, 57, 58, 59, 60, 61, 62, 63, 64, 65, 66, 67, 68, 6, 69, 70, 71, 72, 73, 74, 75, 76, 112, 113, 114, 115, 116, 117, 118, 119, 120, 121, 122, 123, 124, 125, 126, 127, 128, 129, 130, 131, 132, 133, 134, 135, 136, 137] (by decide +kernel) (by decide +kernel)
set_option maxRecDepth 20000 in
theorem gX6_round_X6_flow : GoodIn wsX6_round (wsV RX6 171 RX6 yX6_flow wsX6_flow) := goodIn_app (goodIn_of _ (by decide +kernel)) ggX6_round_X6_flow
set_option maxRecDepth 20000 in
theorem ggX6_round_X6_pair : GoodIn wsX6_round wsX6_pair := goodIn_r _ [80, 81, 13, 82, 83, 84, 3, 5, 85, 86, 87, 11, 88, 2, 50, 51, 52, 53, 27, 26, 89, 90, 91, 92, 24, 23, 25, 112, 113, 114, 115, 116, 117, 118, 119, 120, 121, 122, 123, 124, 125, 126, 127, 128, 129, 130, 131, 132, 133, 134, 135, 136, 137] (by decide +kernel) (by decide +kernel)
set_option maxRecDepth 20000 in
theorem gX6_round_X6_pair : GoodIn wsX6_round (wsV RX6 174 RX6 yX6_pair wsX6_pair) := goodIn_app (goodIn_of _ (by decide +kernel)) ggX6_round_X6_pair
set_option maxRecDepth 20000 in
theorem ggX6_round_X6_walk : GoodIn wsX6_round wsX6_walk := goodIn_r _ [96, 97, 3, 4, 98, 99, 100, 101, 11, 102, 26, 27, 2, 103, 104, 105, 106, 107, 108, 109, 110, 111, 112, 113, 114, 115, 116, 117, 118, 119, 120, 121, 122, 123, 124, 125, 126, 127, 128, 129, 130, 131, 132, 133, 134, 135, 136, 137] (by decide +kernel) (by decide +kernel)
set_option maxRecDepth 20000 in
theorem gX6_round_X6_walk : GoodIn wsX6_round (wsV RX6 138 RX6 yX6_walk wsX6_walk) := goodIn_app (goodIn_of _ (by decide +kernel)) ggX6_round_X6_walk
set_option maxRecDepth 20000 in
theorem ggX6_extra_X6_throwing : GoodIn wsX6_extra wsX6_throwing := goodIn_r _ [8, 9, 10, 11, 12, 13, 14, 15, 16, 17, 18, 19, 20, 21, 22, 23, 24, 25, 26, 27, 28, 29, 30, 31, 32, 33, 34, 35] (by decide +kernel) (by decide +kernel)
set_option maxRecDepth 20000 in
theorem gX6_extra_X6_throwing : GoodIn wsX6_extra (wsV RX6 81 RX6 yX6_throwing wsX6_throwing) := goodIn_app (goodIn_of _ (by decide +kernel)) ggX6_extra_X6_throwing
set_option maxRecDepth 20000 in
theorem ggX6_row_X6_throwing : GoodIn wsX6_row wsX6_throwing := goodIn_r _ [7, 8, 9, 10, 11, 12, 13, 14, 15, 16, 17, 18, 19, 20, 21, 22, 23, 24, 25, 26, 27, 28, 29, 30, 31, 32, 33, 34] (by decide +kernel) (by decide +kernel)
set_option maxRecDepth 20000 in
theorem gX6_row_X6_throwing : GoodIn wsX6_row (wsV RX6 81 RX6 yX6_throwing wsX6_throwing) := goodIn_app (goodIn_of _ (by decide +kernel)) ggX6_row_X6_throwing
set_option maxRecDepth 20000 in
theorem ggX6_step_X6_throwing : GoodIn wsX6_step wsX6_throwing := goodIn_r _ [7, 8, 9, 10, 11, 12, 13, 14, 15, 16, 17, 18, 19, 20, 21, 22, 23, 24, 25, 26, 27, 28, 29, 30, 31, 32, 33, 34] (by decide +kernel) (by decide +kernel)
set_option maxRecDepth 20000 in
theorem gX6_step_X6_throwing : GoodIn wsX6_step (wsV RX6 81 RX6 yX6_throwing wsX6_throwing) := goodIn_app (goodIn_of _ (by decide +kernel)) ggX6_step_X6_throwing
set_option maxRecDepth 20000 in
theorem ggX6_judge_X6_isVertex : GoodIn wsX6_judge wsX6_isVertex := goodIn_r _ [13, 14, 27, 28, 29, 30, 31, 32, 33, 34, 35, 36, 37, 38, 39, 40, 41, 42, 43, 44, 45, 46, 47, 48, 49, 50, 51, 52] (by decide +kernel) (by decide +kernel)
set_option maxRecDepth 20000 in
theorem gX6_judge_X6_isVertex : GoodIn wsX6_judge (wsV RX6 94 RX6 yX6_isVertex wsX6_isVertex) := goodIn_app (goodIn_of _ (by decide +kernel)) ggX6_judge_X6_isVertex
