set_option maxRecDepth 20000 in
theorem ggX5_reset_X2_begin : GoodIn wsX5_reset wsX2_begin := goodIn_r _ [9, 10, 11, 12, 35, 36, 37, 38, 39, 40] (by decide +kernel) (by decide +kernel)
set_option maxRecDepth 20000 in
theorem gX5_reset_X2_begin : GoodIn wsX5_reset (wsV RX5 71 RX2 yX2_begin wsX2_begin) := goodIn_app (goodIn_of _ (by decide +kernel)) ggX5_reset_X2_begin
set_option maxRecDepth 20000 in
theorem ggX5_reset_X5_forgetAnswers : GoodIn wsX5_reset wsX5_forgetAnswers := goodIn_r _ [17, 18, 19, 20, 21, 22, 23, 24, 25, 26, 27, 28, 29, 30, 31, 32, 33, 34, 41, 42] (by decide +kernel) (by decide +kernel)
set_option maxRecDepth 20000 in
theorem gX5_reset_X5_forgetAnswers : GoodIn wsX5_reset (wsV RX5 75 RX5 yX5_forgetAnswers wsX5_forgetAnswers) := goodIn_app (goodIn_of _ (by decide +kernel)) ggX5_reset_X5_forgetAnswers
set_option maxRecDepth 20000 in
theorem ggX5_edge_X5_requireVertex : GoodIn wsX5_edge wsX5_requireVertex := goodIn_ca (goodIn_r _ [12, 1, 2, 6, 13, 35, 36, 37, 38, 39, 40, 41, 42, 43, 44, 45, 46, 47, 48, 49] (by decide +kernel) (by decide +kernel)) (goodIn_sub (fun _ h => List.mem_cons_of_mem _ (List.mem_append_left _ (List.mem_append_right _ h))) (by decide +kernel))
set_option maxRecDepth 20000 in
theorem gX5_edge_X5_requireVertex : GoodIn wsX5_edge (wsV RX5 78 RX5 yX5_requireVertex wsX5_requireVertex) := goodIn_app (goodIn_of _ (by decide +kernel)) ggX5_edge_X5_requireVertex
set_option maxRecDepth 20000 in
theorem ggX5_edge_X2_addEdge : GoodIn wsX5_edge wsX2_addEdge := goodIn_r _ [18, 19, 20, 21, 22, 44, 45, 46, 47, 48, 49] (by decide +kernel) (by decide +kernel)
set_option maxRecDepth 20000 in
theorem gX5_edge_X2_addEdge : GoodIn wsX5_edge (wsV RX5 89 RX2 yX2_addEdge wsX2_addEdge) := goodIn_app (goodIn_of _ (by decide +kernel)) ggX5_edge_X2_addEdge
set_option maxRecDepth 20000 in
theorem ggX5_edge_X5_forgetAnswers : GoodIn wsX5_edge wsX5_forgetAnswers := goodIn_r _ [26, 27, 28, 29, 30, 31, 32, 33, 34, 35, 36, 37, 38, 39, 40, 41, 42, 43, 50, 51] (by decide +kernel) (by decide +kernel)
set_option maxRecDepth 20000 in
theorem gX5_edge_X5_forgetAnswers : GoodIn wsX5_edge (wsV RX5 75 RX5 yX5_forgetAnswers wsX5_forgetAnswers) := goodIn_app (goodIn_of _ (by decide +kernel)) ggX5_edge_X5_forgetAnswers
set_option maxRecDepth 20000 in
theorem ggX5_drop_X2_removeLastEdge : GoodIn wsX5_drop wsX2_removeLastEdge := goodIn_r _ [9, 10, 33, 34, 35, 36, 37, 38] (by decide +kernel) (by decide +kernel)
set_option maxRecDepth 20000 in
theorem gX5_drop_X2_removeLastEdge : GoodIn wsX5_drop (wsV RX5 95 RX2 yX2_removeLastEdge wsX2_removeLastEdge) := goodIn_app (goodIn_of _ (by decide +kernel)) ggX5_drop_X2_removeLastEdge
set_option maxRecDepth 20000 in
theorem ggX5_drop_X5_forgetAnswers : GoodIn wsX5_drop wsX5_forgetAnswers := goodIn_r _ [15, 16, 17, 18, 19, 20, 21, 22, 23, 24, 25, 26, 27, 28, 29, 30, 31, 32, 39, 40] (by decide +kernel) (by decide +kernel)
set_option maxRecDepth 20000 in
theorem gX5_drop_X5_forgetAnswers : GoodIn wsX5_drop (wsV RX5 75 RX5 yX5_forgetAnswers wsX5_forgetAnswers) := goodIn_app (goodIn_of _ (by decide +kernel)) ggX5_drop_X5_forgetAnswers
set_option maxRecDepth 20000 in
theorem ggX5_distance_X5_requireVertex : GoodIn wsX5_distance wsX5_requireVertex := goodIn_ca (goodIn_r _ [10, 11, 12, 2, 13, 41, 42, 43, 44, 45, 46, 47, 48, 49, 56, 57, 58, 59, 60, 61] (by decide +kernel) (by decide +kernel)) (goodIn_sub (fun _ h => List.mem_cons_of_mem _ (List.mem_append_right _ h)) (by decide +kernel))
set_option maxRecDepth 20000 in
theorem gX5_distance_X5_requireVertex : GoodIn wsX5_distance (wsV RX5 78 RX5 yX5_requireVertex wsX5_requireVertex) := goodIn_app (goodIn_of _ (by decide +kernel)) ggX5_distance_X5_requireVertex
set_option maxRecDepth 20000 in
theorem ggX5_distance_X1_searchFrom : GoodIn wsX5_distance wsX1_searchFrom := goodIn_r _ [18, 19, 20, 21, 22, 17, 23, 24, 25, 26, 27, 28, 29, 30, 31, 32, 33, 34, 35, 36, 37, 38, 39, 40, 50, 51, 52, 53, 54, 55, 56, 57, 58, 59, 60, 61] (by decide +kernel) (by decide +kernel)
set_option maxRecDepth 20000 in
theorem gX5_distance_X1_searchFrom : GoodIn wsX5_distance (wsV RX5 98 RX1 yX1_searchFrom wsX1_searchFrom) := goodIn_app (goodIn_of _ (by decide +kernel)) ggX5_distance_X1_searchFrom
set_option maxRecDepth 20000 in
theorem ggX5_tour_X5_requireVertex : GoodIn wsX5_tour wsX5_requireVertex := goodIn_ca (goodIn_r _ [9, 10, 11, 1, 12, 79, 80, 81, 82, 83, 84, 85, 86, 87, 90, 91, 92, 93, 94, 95] (by decide +kernel) (by decide +kernel)) (goodIn_sub (fun _ h => List.mem_cons_of_mem _ (List.mem_append_right _ h)) (by decide +kernel))
set_option maxRecDepth 20000 in
theorem gX5_tour_X5_requireVertex : GoodIn wsX5_tour (wsV RX5 78 RX5 yX5_requireVertex wsX5_requireVertex) := goodIn_app (goodIn_of _ (by decide +kernel)) ggX5_tour_X5_requireVertex
set_option maxRecDepth 20000 in
theorem ggX5_tour_X2_oddVertices : GoodIn wsX5_tour wsX2_oddVertices := goodIn_r _ [17, 18, 19, 20, 21, 22, 16, 23, 24, 25, 26, 90, 91, 92, 93, 94, 95] (by decide +kernel) (by decide +kernel)
set_option maxRecDepth 20000 in
theorem gX5_tour_X2_oddVertices : GoodIn wsX5_tour (wsV RX5 112 RX2 yX2_oddVertices wsX2_oddVertices) := goodIn_app (goodIn_of _ (by decide +kernel)) ggX5_tour_X2_oddVertices
set_option maxRecDepth 20000 in
theorem ggX5_tour_X5_useEachEdgeOnce : GoodIn wsX5_tour wsX5_useEachEdgeOnce := goodIn_r _ [30, 1, 31, 2, 79, 80, 81, 82, 83, 84, 85, 86, 87, 90, 91, 92, 93, 94, 95] (by decide +kernel) (by decide +kernel)
set_option maxRecDepth 20000 in
theorem gX5_tour_X5_useEachEdgeOnce : GoodIn wsX5_tour (wsV RX5 116 RX5 yX5_useEachEdgeOnce wsX5_useEachEdgeOnce) := goodIn_app (goodIn_of _ (by decide +kernel)) ggX5_tour_X5_useEachEdgeOnce
set_option maxRecDepth 20000 in
theorem ggX5_tour_X2_hangsTogetherAt : GoodIn wsX5_tour wsX2_hangsTogetherAt := goodIn_r _ [35, 36, 37, 38, 16, 39, 24, 26, 25, 40, 41, 42, 43, 90, 91, 92, 93, 94, 95] (by decide +kernel) (by decide +kernel)
set_option maxRecDepth 20000 in
theorem gX5_tour_X2_hangsTogetherAt : GoodIn wsX5_tour (wsV RX5 119 RX2 yX2_hangsTogetherAt wsX2_hangsTogetherAt) := goodIn_app (goodIn_of _ (by decide +kernel)) ggX5_tour_X2_hangsTogetherAt
set_option maxRecDepth 20000 in
theorem ggX5_tour_X5_writeLeastRow : GoodIn wsX5_tour wsX5_writeLeastRow := goodIn_r _ [47, 3, 2, 1, 48, 49, 50, 51, 52, 53, 54, 55, 56, 8, 57, 31, 58, 59, 60, 16, 61, 24, 26, 19, 25, 62, 63, 64, 65, 66, 67, 68, 69, 32, 33, 34, 35, 36, 37, 38, 39, 40, 41, 42, 43, 70, 71, 72, 73, 74, 75, 76, 77, 78, 79, 80, 81, 82, 83, 84, 85, 86, 87, 88, 89, 90, 91, 92, 93, 94, 95] (by decide +kernel) (by decide +kernel)
set_option maxRecDepth 20000 in
theorem gX5_tour_X5_writeLeastRow : GoodIn wsX5_tour (wsV RX5 123 RX5 yX5_writeLeastRow wsX5_writeLeastRow) := goodIn_app (goodIn_of _ (by decide +kernel)) ggX5_tour_X5_writeLeastRow
set_option maxRecDepth 20000 in
theorem ggX5_round_X5_requireVertex : GoodIn wsX5_round wsX5_requireVertex := goodIn_ca (goodIn_r _ [11, 12, 13, 1, 14, 189, 190, 191, 192, 193, 194, 195, 196, 197, 198, 199, 200, 201, 202, 203] (by decide +kernel) (by decide +kernel)) (goodIn_sub (fun _ h => List.mem_cons_of_mem _ (List.mem_append_right _ h)) (by decide +kernel))
set_option maxRecDepth 20000 in
theorem gX5_round_X5_requireVertex : GoodIn wsX5_round (wsV RX5 78 RX5 yX5_requireVertex wsX5_requireVertex) := goodIn_app (goodIn_of _ (by decide +kernel)) ggX5_round_X5_requireVertex
