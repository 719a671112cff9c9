set_option maxRecDepth 20000 in
theorem ggX5_round_X5_useEachEdgeOnce : GoodIn wsX5_round wsX5_useEachEdgeOnce := goodIn_r _ [18, 1, 4, 2, 189, 190, 191, 192, 193, 194, 195, 196, 197, 198, 199, 200, 201, 202, 203] (by decide +kernel) (by decide +kernel)
set_option maxRecDepth 20000 in
theorem gX5_round_X5_useEachEdgeOnce : GoodIn wsX5_round (wsV RX5 116 RX5 yX5_useEachEdgeOnce wsX5_useEachEdgeOnce) := goodIn_app (goodIn_of _ (by decide +kernel)) ggX5_round_X5_useEachEdgeOnce
set_option maxRecDepth 20000 in
theorem ggX5_round_X2_canBeCoveredFrom : GoodIn wsX5_round wsX2_canBeCoveredFrom := goodIn_r _ [23, 24, 25, 26, 27, 22, 28, 29, 30, 31, 32, 33, 34, 35, 198, 199, 200, 201, 202, 203] (by decide +kernel) (by decide +kernel)
set_option maxRecDepth 20000 in
theorem gX5_round_X2_canBeCoveredFrom : GoodIn wsX5_round (wsV RX5 129 RX2 yX2_canBeCoveredFrom wsX2_canBeCoveredFrom) := goodIn_app (goodIn_of _ (by decide +kernel)) ggX5_round_X2_canBeCoveredFrom
set_option maxRecDepth 20000 in
theorem ggX5_round_X5_findExtras : GoodIn wsX5_round wsX5_findExtras := goodIn_r _ [39, 1, 40, 41, 42, 5, 43, 44, 45, 46, 47, 48, 49, 50, 51, 52, 53, 54, 55, 56, 57, 58, 22, 59, 29, 31, 30, 60, 61, 62, 63, 64, 65, 66, 67, 68, 69, 70, 71, 72, 73, 74, 75, 76, 77, 78, 79, 80, 81, 82, 83, 84, 85, 86, 87, 88, 89, 90, 91, 92, 93, 94, 95, 96, 97, 98, 99, 100, 101, 102, 103, 24, 104, 105, 106, 107, 108, 109, 110, 111, 112, 113, 114, 115, 116, 117, 118, 119, 120, 121, 122, 123, 124, 125, 126, 127, 128, 129, 130, 131, 132, 133, 134, 135, 136, 137, 138, 139, 140, 141, 142, 143, 144, 145, 146, 147, 10, 148, 189, 190, 191, 192, 193, 194, 195, 196, 197, 198, 199, 200, 201, 202, 203, 204, 205, 206, 207, 208, 209, 210, 211, 212, 213, 214, 215, 216, 217] (by decide +kernel) (by decide +kernel)
set_option maxRecDepth 20000 in
theorem gX5_round_X5_findExtras : GoodIn wsX5_round (wsV RX5 132 RX5 yX5_findExtras wsX5_findExtras) := goodIn_app (goodIn_of _ (by decide +kernel)) ggX5_round_X5_findExtras
set_option maxRecDepth 20000 in
theorem ggX5_round_X5_writeLeastRow : GoodIn wsX5_round wsX5_writeLeastRow := goodIn_r _ [152, 153, 2, 1, 154, 155, 156, 157, 158, 159, 160, 161, 162, 10, 163, 4, 164, 165, 166, 22, 167, 29, 30, 24, 31, 168, 169, 170, 171, 172, 173, 174, 175, 176, 177, 178, 179, 25, 26, 27, 28, 32, 33, 34, 35, 180, 181, 182, 183, 184, 185, 186, 187, 188, 189, 190, 191, 192, 193, 194, 195, 196, 197, 218, 219, 198, 199, 200, 201, 202, 203] (by decide +kernel) (by decide +kernel)
set_option maxRecDepth 20000 in
theorem gX5_round_X5_writeLeastRow : GoodIn wsX5_round (wsV RX5 123 RX5 yX5_writeLeastRow wsX5_writeLeastRow) := goodIn_app (goodIn_of _ (by decide +kernel)) ggX5_round_X5_writeLeastRow
set_option maxRecDepth 20000 in
theorem ggX5_step_X4_isFull : GoodIn wsX5_step wsX4_isFull := goodIn_r _ [9, 10, 11, 26, 27] (by decide +kernel) (by decide +kernel)
set_option maxRecDepth 20000 in
theorem gX5_step_X4_isFull : GoodIn wsX5_step (wsV RX5 150 RX4 yX4_isFull wsX4_isFull) := goodIn_app (goodIn_of _ (by decide +kernel)) ggX5_step_X4_isFull
set_option maxRecDepth 20000 in
theorem ggX5_step_X4_append : GoodIn wsX5_step wsX4_append := goodIn_r _ [15, 11, 10, 16, 6, 7, 8, 9, 26, 27] (by decide +kernel) (by decide +kernel)
set_option maxRecDepth 20000 in
theorem gX5_step_X4_append : GoodIn wsX5_step (wsV RX5 156 RX4 yX4_append wsX4_append) := goodIn_app (goodIn_of _ (by decide +kernel)) ggX5_step_X4_append
set_option maxRecDepth 20000 in
theorem ggX5_judge_X5_requireVertex : GoodIn wsX5_judge wsX5_requireVertex := goodIn_ca (goodIn_r _ [6, 7, 8, 9, 10, 46, 47, 48, 49, 50, 51, 52, 53, 54, 55, 56, 57, 58, 59, 60] (by decide +kernel) (by decide +kernel)) (goodIn_sub (fun _ h => List.mem_cons_of_mem _ (List.mem_append_right _ h)) (by decide +kernel))
set_option maxRecDepth 20000 in
theorem gX5_judge_X5_requireVertex : GoodIn wsX5_judge (wsV RX5 78 RX5 yX5_requireVertex wsX5_requireVertex) := goodIn_app (goodIn_of _ (by decide +kernel)) ggX5_judge_X5_requireVertex
set_option maxRecDepth 20000 in
theorem ggX5_judge_X5_verdictOnPath : GoodIn wsX5_judge wsX5_verdictOnPath := goodIn_r _ [14, 15, 1, 16, 17, 9, 18, 19, 20, 21, 22, 23, 24, 25, 26, 27, 28, 29, 30, 31, 32, 33, 34, 35, 36, 37, 38, 39, 46, 47, 48, 49, 50, 51, 52, 53, 54, 61, 62, 55, 56, 57, 58, 59, 60] (by decide +kernel) (by decide +kernel)
set_option maxRecDepth 20000 in
theorem gX5_judge_X5_verdictOnPath : GoodIn wsX5_judge (wsV RX5 159 RX5 yX5_verdictOnPath wsX5_verdictOnPath) := goodIn_app (goodIn_of _ (by decide +kernel)) ggX5_judge_X5_verdictOnPath
set_option maxRecDepth 20000 in
theorem ggX5_judge_X4_clear : GoodIn wsX5_judge wsX4_clear := goodIn_r _ [44, 45, 61, 62] (by decide +kernel) (by decide +kernel)
set_option maxRecDepth 20000 in
theorem gX5_judge_X4_clear : GoodIn wsX5_judge (wsV RX5 163 RX4 yX4_clear wsX4_clear) := goodIn_app (goodIn_of _ (by decide +kernel)) ggX5_judge_X4_clear
set_option maxRecDepth 20000 in
theorem ggX5_look_X2_oddVertices : GoodIn wsX5_look wsX2_oddVertices := goodIn_r _ [15, 16, 17, 18, 19, 20, 14, 21, 22, 23, 24, 62, 63, 64, 65, 66, 67] (by decide +kernel) (by decide +kernel)
set_option maxRecDepth 20000 in
theorem gX5_look_X2_oddVertices : GoodIn wsX5_look (wsV RX5 112 RX2 yX2_oddVertices wsX2_oddVertices) := goodIn_app (goodIn_of _ (by decide +kernel)) ggX5_look_X2_oddVertices
set_option maxRecDepth 20000 in
theorem ggX5_look_J6_bitCount_0f7a4 : GoodIn wsX5_look wsJ6_bitCount_0f7a4 := goodIn_r _ [28, 29, 30, 31] (by decide +kernel) (by decide +kernel)
set_option maxRecDepth 20000 in
theorem gX5_look_J6_bitCount_0f7a4 : GoodIn wsX5_look (va_wsS RX5 172 yJ6_bitCount_0f7a4 wsJ6_bitCount_0f7a4) := goodIn_app (goodIn_of _ (by decide +kernel)) ggX5_look_J6_bitCount_0f7a4
set_option maxRecDepth 20000 in
theorem ggX5_look_X5_leastOf : GoodIn wsX5_look wsX5_leastOf := goodIn_r _ [35] (by decide +kernel) (by decide +kernel)
set_option maxRecDepth 20000 in
theorem gX5_look_X5_leastOf : GoodIn wsX5_look (va_wsS RX5 178 yX5_leastOf wsX5_leastOf) := goodIn_app (goodIn_of _ (by decide +kernel)) ggX5_look_X5_leastOf
set_option maxRecDepth 20000 in
theorem ggX5_look_X5_useEachEdgeOnce : GoodIn wsX5_look wsX5_useEachEdgeOnce := goodIn_r _ [39, 3, 5, 10, 53, 54, 55, 56, 57, 58, 59, 60, 61, 62, 63, 64, 65, 66, 67] (by decide +kernel) (by decide +kernel)
set_option maxRecDepth 20000 in
theorem gX5_look_X5_useEachEdgeOnce : GoodIn wsX5_look (wsV RX5 116 RX5 yX5_useEachEdgeOnce wsX5_useEachEdgeOnce) := goodIn_app (goodIn_of _ (by decide +kernel)) ggX5_look_X5_useEachEdgeOnce
set_option maxRecDepth 20000 in
theorem ggX5_look_X2_countRegions : GoodIn wsX5_look wsX2_countRegions := goodIn_r _ [43, 16, 44, 45, 46, 14, 47, 22, 24, 23, 48, 49, 50, 51, 62, 63, 64, 65, 66, 67] (by decide +kernel) (by decide +kernel)
set_option maxRecDepth 20000 in
theorem gX5_look_X2_countRegions : GoodIn wsX5_look (wsV RX5 181 RX2 yX2_countRegions wsX2_countRegions) := goodIn_app (goodIn_of _ (by decide +kernel)) ggX5_look_X2_countRegions
set_option maxRecDepth 20000 in
theorem ggX5_look_X2_touchedBy : GoodIn wsX5_look wsX2_touchedBy := goodIn_r _ [47, 22, 24, 23, 62, 63, 64, 65, 66, 67] (by decide +kernel) (by decide +kernel)
set_option maxRecDepth 20000 in
theorem gX5_look_X2_touchedBy : GoodIn wsX5_look (wsV RX5 185 RX2 yX2_touchedBy wsX2_touchedBy) := goodIn_app (goodIn_of _ (by decide +kernel)) ggX5_look_X2_touchedBy
