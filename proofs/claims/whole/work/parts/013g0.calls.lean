set_option maxRecDepth 20000 in
theorem ggX0_find_J7_fill_53178 : GoodIn wsX0_find wsJ7_fill_53178 := goodIn_r _ [6] (by decide +kernel) (by decide +kernel)
set_option maxRecDepth 20000 in
theorem gX0_find_J7_fill_53178 : GoodIn wsX0_find (va_wsS RX0 15 yJ7_fill_53178 wsJ7_fill_53178) := goodIn_app (goodIn_of _ (by decide +kernel)) ggX0_find_J7_fill_53178
set_option maxRecDepth 20000 in
theorem ggX0_find_X2_surplusAt : GoodIn wsX0_find wsX2_surplusAt := goodIn_r _ [11, 12, 13, 14, 49, 50, 51, 52, 53, 54] (by decide +kernel) (by decide +kernel)
set_option maxRecDepth 20000 in
theorem gX0_find_X2_surplusAt : GoodIn wsX0_find (wsV RX0 27 RX2 yX2_surplusAt wsX2_surplusAt) := goodIn_app (goodIn_of _ (by decide +kernel)) ggX0_find_X2_surplusAt
set_option maxRecDepth 20000 in
theorem ggX0_find_X0_leastWithSign : GoodIn wsX0_find wsX0_leastWithSign := goodIn_r _ [19, 2, 55] (by decide +kernel) (by decide +kernel)
set_option maxRecDepth 20000 in
theorem gX0_find_X0_leastWithSign : GoodIn wsX0_find (wsV RX0 31 RX0 yX0_leastWithSign wsX0_leastWithSign) := goodIn_app (goodIn_of _ (by decide +kernel)) ggX0_find_X0_leastWithSign
set_option maxRecDepth 20000 in
theorem ggX0_find_X1_searchBesideExtras : GoodIn wsX0_find wsX1_searchBesideExtras := goodIn_r _ [24, 25, 26, 27, 28, 29, 30, 31, 32, 33, 34, 35, 36, 23, 37, 38, 39, 40, 41, 56, 57, 58, 59, 60, 61, 49, 50, 51, 52, 53, 54] (by decide +kernel) (by decide +kernel)
set_option maxRecDepth 20000 in
theorem gX0_find_X1_searchBesideExtras : GoodIn wsX0_find (wsV RX0 35 RX1 yX1_searchBesideExtras wsX1_searchBesideExtras) := goodIn_app (goodIn_of _ (by decide +kernel)) ggX0_find_X1_searchBesideExtras
set_option maxRecDepth 20000 in
theorem ggX0_find_X0_addPassage : GoodIn wsX0_find wsX0_addPassage := goodIn_r _ [45, 46, 47, 48, 56, 57, 58, 59, 60, 61, 49, 50, 51, 52, 53, 54] (by decide +kernel) (by decide +kernel)
set_option maxRecDepth 20000 in
theorem gX0_find_X0_addPassage : GoodIn wsX0_find (wsV RX0 41 RX0 yX0_addPassage wsX0_addPassage) := goodIn_app (goodIn_of _ (by decide +kernel)) ggX0_find_X0_addPassage
set_option maxRecDepth 20000 in
theorem ggX1_searchFrom_X1_searchBesideExtras : GoodIn wsX1_searchFrom wsX1_searchBesideExtras := goodIn_r _ [6, 7, 8, 9, 10, 11, 12, 13, 14, 15, 16, 17, 18, 5, 19, 20, 21, 22, 23, 24, 25, 26, 27, 28, 29, 30, 31, 32, 33, 34, 35] (by decide +kernel) (by decide +kernel)
set_option maxRecDepth 20000 in
theorem gX1_searchFrom_X1_searchBesideExtras : GoodIn wsX1_searchFrom (wsV RX1 33 RX1 yX1_searchBesideExtras wsX1_searchBesideExtras) := goodIn_app (goodIn_of _ (by decide +kernel)) ggX1_searchFrom_X1_searchBesideExtras
set_option maxRecDepth 20000 in
theorem ggX1_searchBesideExtras_X1_tryStep : GoodIn wsX1_searchBesideExtras wsX1_tryStep := goodIn_r _ [14, 1, 2, 3, 15, 4, 16, 17, 13, 18, 19, 20, 21, 22, 23, 24] (by decide +kernel) (by decide +kernel)
set_option maxRecDepth 20000 in
theorem gX1_searchBesideExtras_X1_tryStep : GoodIn wsX1_searchBesideExtras (wsV RX1 52 RX1 yX1_tryStep wsX1_tryStep) := goodIn_app (goodIn_of _ (by decide +kernel)) ggX1_searchBesideExtras_X1_tryStep
set_option maxRecDepth 20000 in
theorem ggX1_tryStep_X1_isLess : GoodIn wsX1_tryStep wsX1_isLess := goodIn_r _ [9] (by decide +kernel) (by decide +kernel)
set_option maxRecDepth 20000 in
theorem gX1_tryStep_X1_isLess : GoodIn wsX1_tryStep (va_wsS RX1 59 yX1_isLess wsX1_isLess) := goodIn_app (goodIn_of _ (by decide +kernel)) ggX1_tryStep_X1_isLess
set_option maxRecDepth 20000 in
theorem ggX2_oddVertices_X2_surplusAt : GoodIn wsX2_oddVertices wsX2_surplusAt := goodIn_r _ [7, 8, 9, 10, 11, 12, 13, 14, 15, 16] (by decide +kernel) (by decide +kernel)
set_option maxRecDepth 20000 in
theorem gX2_oddVertices_X2_surplusAt : GoodIn wsX2_oddVertices (wsV RX2 32 RX2 yX2_surplusAt wsX2_surplusAt) := goodIn_app (goodIn_of _ (by decide +kernel)) ggX2_oddVertices_X2_surplusAt
set_option maxRecDepth 20000 in
theorem ggX2_hangsTogetherAt_X2_touchedBy : GoodIn wsX2_hangsTogetherAt wsX2_touchedBy := goodIn_r _ [5, 6, 7, 8, 13, 14, 15, 16, 17, 18] (by decide +kernel) (by decide +kernel)
set_option maxRecDepth 20000 in
theorem gX2_hangsTogetherAt_X2_touchedBy : GoodIn wsX2_hangsTogetherAt (wsV RX2 36 RX2 yX2_touchedBy wsX2_touchedBy) := goodIn_app (goodIn_of _ (by decide +kernel)) ggX2_hangsTogetherAt_X2_touchedBy
set_option maxRecDepth 20000 in
theorem ggX2_hangsTogetherAt_X2_reachOf : GoodIn wsX2_hangsTogetherAt wsX2_reachOf := goodIn_r _ [12, 6, 7, 8, 13, 14, 15, 16, 17, 18] (by decide +kernel) (by decide +kernel)
set_option maxRecDepth 20000 in
theorem gX2_hangsTogetherAt_X2_reachOf : GoodIn wsX2_hangsTogetherAt (wsV RX2 40 RX2 yX2_reachOf wsX2_reachOf) := goodIn_app (goodIn_of _ (by decide +kernel)) ggX2_hangsTogetherAt_X2_reachOf
set_option maxRecDepth 20000 in
theorem ggX2_canBeCoveredFrom_X2_touchedBy : GoodIn wsX2_canBeCoveredFrom wsX2_touchedBy := goodIn_r _ [6, 7, 8, 9, 14, 15, 16, 17, 18, 19] (by decide +kernel) (by decide +kernel)
set_option maxRecDepth 20000 in
theorem gX2_canBeCoveredFrom_X2_touchedBy : GoodIn wsX2_canBeCoveredFrom (wsV RX2 36 RX2 yX2_touchedBy wsX2_touchedBy) := goodIn_app (goodIn_of _ (by decide +kernel)) ggX2_canBeCoveredFrom_X2_touchedBy
set_option maxRecDepth 20000 in
theorem ggX2_canBeCoveredFrom_X2_reachOf : GoodIn wsX2_canBeCoveredFrom wsX2_reachOf := goodIn_r _ [13, 7, 8, 9, 14, 15, 16, 17, 18, 19] (by decide +kernel) (by decide +kernel)
set_option maxRecDepth 20000 in
theorem gX2_canBeCoveredFrom_X2_reachOf : GoodIn wsX2_canBeCoveredFrom (wsV RX2 40 RX2 yX2_reachOf wsX2_reachOf) := goodIn_app (goodIn_of _ (by decide +kernel)) ggX2_canBeCoveredFrom_X2_reachOf
set_option maxRecDepth 20000 in
theorem ggX2_countRegions_X2_touchedBy : GoodIn wsX2_countRegions wsX2_touchedBy := goodIn_r _ [6, 7, 8, 9, 14, 15, 16, 17, 18, 19] (by decide +kernel) (by decide +kernel)
set_option maxRecDepth 20000 in
theorem gX2_countRegions_X2_touchedBy : GoodIn wsX2_countRegions (wsV RX2 36 RX2 yX2_touchedBy wsX2_touchedBy) := goodIn_app (goodIn_of _ (by decide +kernel)) ggX2_countRegions_X2_touchedBy
set_option maxRecDepth 20000 in
theorem ggX2_countRegions_X2_reachOf : GoodIn wsX2_countRegions wsX2_reachOf := goodIn_r _ [13, 7, 8, 9, 14, 15, 16, 17, 18, 19] (by decide +kernel) (by decide +kernel)
set_option maxRecDepth 20000 in
theorem gX2_countRegions_X2_reachOf : GoodIn wsX2_countRegions (wsV RX2 40 RX2 yX2_reachOf wsX2_reachOf) := goodIn_app (goodIn_of _ (by decide +kernel)) ggX2_countRegions_X2_reachOf
set_option maxRecDepth 20000 in
theorem ggX3_find_X2_oddVertices : GoodIn wsX3_find wsX2_oddVertices := goodIn_r _ [6, 7, 8, 9, 10, 11, 5, 12, 13, 14, 15, 86, 87, 88, 89, 90, 91] (by decide +kernel) (by decide +kernel)
set_option maxRecDepth 20000 in
theorem gX3_find_X2_oddVertices : GoodIn wsX3_find (wsV RX3 37 RX2 yX2_oddVertices wsX2_oddVertices) := goodIn_app (goodIn_of _ (by decide +kernel)) ggX3_find_X2_oddVertices
set_option maxRecDepth 20000 in
theorem ggX3_find_X3_measurePairs : GoodIn wsX3_find wsX3_measurePairs := goodIn_r _ [20, 21, 22, 23, 24, 25, 26, 27, 28, 29, 30, 31, 32, 33, 34, 35, 36, 37, 38, 39, 40, 41, 42, 43, 44, 45, 46, 47, 48, 49, 50, 51, 52, 53, 54, 55, 92, 93, 94, 95, 96, 97, 98, 99, 100, 101, 102, 103, 104, 86, 87, 88, 89, 90, 91] (by decide +kernel) (by decide +kernel)
set_option maxRecDepth 20000 in
theorem gX3_find_X3_measurePairs : GoodIn wsX3_find (wsV RX3 43 RX3 yX3_measurePairs wsX3_measurePairs) := goodIn_app (goodIn_of _ (by decide +kernel)) ggX3_find_X3_measurePairs
set_option maxRecDepth 20000 in
theorem ggX3_find_X3_tieOfLeastPairs : GoodIn wsX3_find wsX3_tieOfLeastPairs := goodIn_r _ [59, 60, 61, 62, 63, 64, 65, 66, 67, 68, 69, 70, 19, 71, 72, 73, 74, 75, 76, 77, 78, 54, 32, 55, 79, 80, 81, 82, 22, 28, 83, 84, 85, 98, 99, 100, 101, 102, 103, 104] (by decide +kernel) (by decide +kernel)
set_option maxRecDepth 20000 in
theorem gX3_find_X3_tieOfLeastPairs : GoodIn wsX3_find (wsV RX3 47 RX3 yX3_tieOfLeastPairs wsX3_tieOfLeastPairs) := goodIn_app (goodIn_of _ (by decide +kernel)) ggX3_find_X3_tieOfLeastPairs
set_option maxRecDepth 20000 in
theorem ggX3_measurePairs_X1_searchFrom : GoodIn wsX3_measurePairs wsX1_searchFrom := goodIn_r _ [13, 14, 15, 16, 17, 12, 18, 19, 20, 21, 22, 23, 24, 25, 26, 27, 28, 29, 30, 31, 32, 33, 34, 35, 36, 37, 38, 39, 40, 41, 49, 50, 51, 52, 53, 54] (by decide +kernel) (by decide +kernel)
set_option maxRecDepth 20000 in
theorem gX3_measurePairs_X1_searchFrom : GoodIn wsX3_measurePairs (wsV RX3 54 RX1 yX1_searchFrom wsX1_searchFrom) := goodIn_app (goodIn_of _ (by decide +kernel)) ggX3_measurePairs_X1_searchFrom
set_option maxRecDepth 20000 in
theorem ggX3_tieOfLeastPairs_J7_fill_53178 : GoodIn wsX3_tieOfLeastPairs wsJ7_fill_53178 := goodIn_r _ [8] (by decide +kernel) (by decide +kernel)
set_option maxRecDepth 20000 in
theorem gX3_tieOfLeastPairs_J7_fill_53178 : GoodIn wsX3_tieOfLeastPairs (va_wsS RX3 68 yJ7_fill_53178 wsJ7_fill_53178) := goodIn_app (goodIn_of _ (by decide +kernel)) ggX3_tieOfLeastPairs_J7_fill_53178
set_option maxRecDepth 20000 in
theorem ggX3_tieOfLeastPairs_X3_offer : GoodIn wsX3_tieOfLeastPairs wsX3_offer := goodIn_r _ [13, 1, 2, 3, 14, 4, 15, 16, 17, 12, 18, 19, 20, 21, 22, 23, 33, 34, 35, 36, 37, 38, 39] (by decide +kernel) (by decide +kernel)
set_option maxRecDepth 20000 in
theorem gX3_tieOfLeastPairs_X3_offer : GoodIn wsX3_tieOfLeastPairs (wsV RX3 74 RX3 yX3_offer wsX3_offer) := goodIn_app (goodIn_of _ (by decide +kernel)) ggX3_tieOfLeastPairs_X3_offer
set_option maxRecDepth 20000 in
theorem ggX3_tieOfLeastPairs_X3_pairLeastVertex : GoodIn wsX3_tieOfLeastPairs wsX3_pairLeastVertex := goodIn_r _ [27, 3, 14, 28, 4, 29, 30, 31, 32, 9, 10, 11, 12, 13, 1, 2, 15, 16, 17, 18, 19, 20, 21, 22, 23, 33, 34, 35, 36, 37, 38, 39] (by decide +kernel) (by decide +kernel)
set_option maxRecDepth 20000 in
theorem gX3_tieOfLeastPairs_X3_pairLeastVertex : GoodIn wsX3_tieOfLeastPairs (wsV RX3 78 RX3 yX3_pairLeastVertex wsX3_pairLeastVertex) := goodIn_app (goodIn_of _ (by decide +kernel)) ggX3_tieOfLeastPairs_X3_pairLeastVertex
set_option maxRecDepth 20000 in
theorem ggX3_pairLeastVertex_X5_leastOf : GoodIn wsX3_pairLeastVertex wsX5_leastOf := goodIn_r _ [8] (by decide +kernel) (by decide +kernel)
set_option maxRecDepth 20000 in
theorem gX3_pairLeastVertex_X5_leastOf_n82 : GoodIn wsX3_pairLeastVertex (wsX5_leastOf) := ggX3_pairLeastVertex_X5_leastOf
set_option maxRecDepth 20000 in
theorem ggX3_pairLeastVertex_X3_offer : GoodIn wsX3_pairLeastVertex wsX3_offer := goodIn_r _ [13, 14, 15, 1, 2, 4, 16, 17, 18, 12, 19, 20, 21, 22, 23, 24, 25, 26, 27, 28, 29, 30, 31] (by decide +kernel) (by decide +kernel)
set_option maxRecDepth 20000 in
theorem gX3_pairLeastVertex_X3_offer : GoodIn wsX3_pairLeastVertex (wsV RX3 74 RX3 yX3_offer wsX3_offer) := goodIn_app (goodIn_of _ (by decide +kernel)) ggX3_pairLeastVertex_X3_offer
set_option maxRecDepth 20000 in
theorem ggX3_offer_X3_slotOf : GoodIn wsX3_offer wsX3_slotOf := goodIn_r _ [10, 11, 1, 3, 16, 17, 18, 19, 20, 21, 22] (by decide +kernel) (by decide +kernel)
set_option maxRecDepth 20000 in
theorem gX3_offer_X3_slotOf : GoodIn wsX3_offer (wsV RX3 86 RX3 yX3_slotOf wsX3_slotOf) := goodIn_app (goodIn_of _ (by decide +kernel)) ggX3_offer_X3_slotOf
set_option maxRecDepth 20000 in
theorem ggX3_offer_X1_isLess : GoodIn wsX3_offer wsX1_isLess := goodIn_r _ [15] (by decide +kernel) (by decide +kernel)
set_option maxRecDepth 20000 in
theorem gX3_offer_X1_isLess : GoodIn wsX3_offer (va_wsS RX3 89 yX1_isLess wsX1_isLess) := goodIn_app (goodIn_of _ (by decide +kernel)) ggX3_offer_X1_isLess
set_option maxRecDepth 20000 in
theorem ggX4_append_X4_isFull : GoodIn wsX4_append wsX4_isFull := goodIn_r _ [7, 2, 1, 8, 9] (by decide +kernel) (by decide +kernel)
set_option maxRecDepth 20000 in
theorem gX4_append_X4_isFull : GoodIn wsX4_append (wsV RX4 17 RX4 yX4_isFull wsX4_isFull) := goodIn_app (goodIn_of _ (by decide +kernel)) ggX4_append_X4_isFull
set_option maxRecDepth 20000 in
theorem ggX5_init_X2_init : GoodIn wsX5_init wsX2_init := goodIn_r _ [31, 32, 2, 3, 13, 33, 34, 35, 36, 37, 38, 74, 75, 76, 77, 78, 79] (by decide +kernel) (by decide +kernel)
set_option maxRecDepth 20000 in
theorem gX5_init_X2_init : GoodIn wsX5_init (wsX2_init) := ggX5_init_X2_init
set_option maxRecDepth 20000 in
theorem ggX5_init_X4_init : GoodIn wsX5_init wsX4_init := goodIn_r _ [41, 42, 2, 3, 13, 43, 44, 89, 90] (by decide +kernel) (by decide +kernel)
set_option maxRecDepth 20000 in
theorem gX5_init_X4_init : GoodIn wsX5_init (wsX4_init) := ggX5_init_X4_init
set_option maxRecDepth 20000 in
theorem ggX5_init_X1_init : GoodIn wsX5_init wsX1_init := goodIn_r _ [47, 48, 2, 3, 49, 50, 51, 52, 53, 13, 54, 55, 56, 91, 92, 93, 94, 95, 96] (by decide +kernel) (by decide +kernel)
set_option maxRecDepth 20000 in
theorem gX5_init_X1_init : GoodIn wsX5_init (wsX1_init) := ggX5_init_X1_init
