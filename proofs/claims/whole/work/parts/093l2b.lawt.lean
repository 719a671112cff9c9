set_option maxRecDepth 20000 in
theorem ggL_law_L_distance : GoodIn wsL_law wsL_distance := goodIn_ca (goodIn_r _ [197, 110, 198, 199, 200, 2, 201, 28, 16, 202, 203, 204, 162, 163, 164, 165, 115, 116, 166, 205, 206, 207, 27, 208, 63, 209, 210, 211, 212, 59, 60, 61, 64, 213, 214, 215, 216, 217, 218, 219, 220, 221, 62, 222, 223, 224, 556, 557, 558, 559, 560, 561, 562, 563, 564, 599, 600, 601, 602, 603, 604, 591, 592, 593, 594, 595, 596] (by decide +kernel) (by decide +kernel)) (goodIn_sub (fun _ h => List.mem_append_left _ (List.mem_append_left _ (List.mem_append_right _ h))) (by decide +kernel))
set_option maxRecDepth 20000 in
theorem gL_law_L_distance : GoodIn wsL_law (va_wsS RL 75 yL_distance wsL_distance) := goodIn_app (goodIn_of _ (by decide +kernel)) ggL_law_L_distance
set_option maxRecDepth 20000 in
theorem ggL_law_X6_distance : GoodIn wsL_law wsX6_distance := goodIn_r _ [228, 93, 229, 230, 176, 177, 178, 5, 179, 86, 136, 137, 138, 139, 140, 231, 232, 233, 234, 94, 134, 87, 88, 89, 135, 235, 236, 237, 238, 239, 240, 241, 242, 565, 566, 567, 568, 569, 570, 571, 572, 573, 574, 575, 576, 577, 578, 579, 580, 581, 582, 583, 584, 585, 586, 587, 588, 589, 590] (by decide +kernel) (by decide +kernel)
set_option maxRecDepth 20000 in
theorem gL_law_X6_distance : GoodIn wsL_law (wsV RL 78 RX6 yX6_distance wsX6_distance) := goodIn_app (goodIn_of _ (by decide +kernel)) ggL_law_X6_distance
