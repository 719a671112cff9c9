set_option maxRecDepth 20000 in
theorem gL_law_X6_round : GoodIn wsL_law (wsV RL 85 RX6 yX6_round wsX6_round) := goodIn_app (goodIn_of _ (by decide +kernel)) ggL_law_X6_round
set_option maxRecDepth 20000 in
theorem ggL_law_L_extra : GoodIn wsL_law wsL_extra := goodIn_ca (goodIn_ca (goodIn_r _ [463, 464, 154, 465, 466, 467, 2, 468, 469, 470, 159, 160, 16, 117, 37, 24, 556, 557, 558, 559, 560, 561, 562, 563, 564, 591, 592, 593, 594, 595, 596] (by decide +kernel) (by decide +kernel)) (goodIn_sub (fun _ h => List.mem_append_right _ h) (by decide +kernel))) (goodIn_sub (fun _ h => List.mem_append_left _ (List.mem_append_right _ h)) (by decide +kernel))
set_option maxRecDepth 20000 in
theorem gL_law_L_extra : GoodIn wsL_law (va_wsS RL 86 yL_extra wsL_extra) := goodIn_app (goodIn_of _ (by decide +kernel)) ggL_law_L_extra
set_option maxRecDepth 20000 in
theorem ggL_law_X6_extra : GoodIn wsL_law wsX6_extra := goodIn_r _ [474, 134, 146, 92, 136, 137, 138, 5, 139, 140, 565, 566, 567, 568, 569, 570, 571, 572, 573, 574, 575, 576, 577, 578, 579, 580, 581, 582, 583, 584, 585, 586, 587, 588, 589, 590] (by decide +kernel) (by decide +kernel)
set_option maxRecDepth 20000 in
theorem gL_law_X6_extra : GoodIn wsL_law (wsV RL 88 RX6 yX6_extra wsX6_extra) := goodIn_app (goodIn_of _ (by decide +kernel)) ggL_law_X6_extra
set_option maxRecDepth 20000 in
theorem ggL_law_L_row : GoodIn wsL_law wsL_row := goodIn_ca (goodIn_r _ [477, 464, 478, 479, 480, 2, 481, 469, 470, 20, 250, 482, 556, 557, 558, 559, 560, 561, 562, 563, 564, 597, 598] (by decide +kernel) (by decide +kernel)) (goodIn_sub (fun _ h => List.mem_append_right _ h) (by decide +kernel))
set_option maxRecDepth 20000 in
theorem gL_law_L_row : GoodIn wsL_law (va_wsS RL 89 yL_row wsL_row) := goodIn_app (goodIn_of _ (by decide +kernel)) ggL_law_L_row
set_option maxRecDepth 20000 in
theorem ggL_law_X6_row : GoodIn wsL_law wsX6_row := goodIn_r _ [486, 145, 90, 136, 137, 138, 5, 139, 140, 565, 566, 567, 568, 569, 570, 571, 572, 573, 574, 575, 576, 577, 578, 579, 580, 581, 582, 583, 584, 585, 586, 587, 588, 589, 590] (by decide +kernel) (by decide +kernel)
set_option maxRecDepth 20000 in
theorem gL_law_X6_row : GoodIn wsL_law (wsV RL 91 RX6 yX6_row wsX6_row) := goodIn_app (goodIn_of _ (by decide +kernel)) ggL_law_X6_row
set_option maxRecDepth 20000 in
theorem ggL_law_L_step : GoodIn wsL_law wsL_step := goodIn_ca (goodIn_r _ [489, 154, 490, 491, 492, 2, 493, 159, 160, 21, 250, 494, 300, 301, 19, 302, 53, 52, 295, 296, 297, 298, 299, 556, 557, 558, 559, 560, 561, 562, 563, 564, 597, 598] (by decide +kernel) (by decide +kernel)) (goodIn_sub (fun _ h => List.mem_append_left _ (List.mem_append_right _ h)) (by decide +kernel))
set_option maxRecDepth 20000 in
theorem gL_law_L_step : GoodIn wsL_law (va_wsS RL 92 yL_step wsL_step) := goodIn_app (goodIn_of _ (by decide +kernel)) ggL_law_L_step
set_option maxRecDepth 20000 in
theorem ggL_law_X6_step : GoodIn wsL_law wsX6_step := goodIn_r _ [498, 499, 91, 136, 137, 138, 5, 139, 140, 565, 566, 567, 568, 569, 570, 571, 572, 573, 574, 575, 576, 577, 578, 579, 580, 581, 582, 583, 584, 585, 586, 587, 588, 589, 590] (by decide +kernel) (by decide +kernel)
set_option maxRecDepth 20000 in
theorem gL_law_X6_step : GoodIn wsL_law (wsV RL 94 RX6 yX6_step wsX6_step) := goodIn_app (goodIn_of _ (by decide +kernel)) ggL_law_X6_step
set_option maxRecDepth 20000 in
theorem ggL_law_L_judge : GoodIn wsL_law wsL_judge := goodIn_ca (goodIn_r _ [502, 110, 503, 504, 505, 2, 506, 21, 162, 163, 164, 165, 115, 116, 16, 166, 507, 508, 509, 510, 23, 250, 482, 204, 346, 511, 117, 512, 513, 362, 363, 364, 283, 284, 285, 15, 286, 47, 42, 45, 43, 291, 292, 293, 294, 126, 127, 128, 19, 129, 53, 556, 557, 558, 559, 560, 561, 562, 563, 564, 591, 592, 593, 594, 595, 596, 597, 598] (by decide +kernel) (by decide +kernel)) (goodIn_sub (fun _ h => List.mem_append_left _ (List.mem_append_left _ (List.mem_append_right _ h))) (by decide +kernel))
set_option maxRecDepth 20000 in
theorem gL_law_L_judge : GoodIn wsL_law (va_wsS RL 95 yL_judge wsL_judge) := goodIn_app (goodIn_of _ (by decide +kernel)) ggL_law_L_judge
