set_option maxRecDepth 20000 in
theorem ggL_law_X6_judge : GoodIn wsL_law wsX6_judge := goodIn_r _ [517, 499, 134, 104, 91, 89, 230, 518, 519, 176, 177, 178, 5, 179, 86, 136, 137, 138, 139, 140, 335, 336, 337, 338, 87, 88, 135, 565, 566, 567, 568, 569, 570, 571, 572, 573, 574, 575, 576, 577, 578, 579, 580, 581, 582, 583, 584, 585, 586, 587, 588, 589, 590] (by decide +kernel) (by decide +kernel)
set_option maxRecDepth 20000 in
theorem gL_law_X6_judge : GoodIn wsL_law (wsV RL 97 RX6 yX6_judge wsX6_judge) := goodIn_app (goodIn_of _ (by decide +kernel)) ggL_law_X6_judge
set_option maxRecDepth 20000 in
theorem ggL_law_L_look : GoodIn wsL_law wsL_look := goodIn_ca (goodIn_r _ [522, 110, 523, 524, 525, 2, 526, 115, 116, 16, 166, 117, 355, 20, 250, 21, 23, 251, 252, 253, 15, 254, 46, 45, 255, 256, 257, 258, 47, 43, 42, 527, 528, 529, 530, 531, 532, 533, 534, 414, 415, 259, 260, 261, 262, 535, 536, 537, 538, 267, 268, 269, 270, 271, 272, 273, 274, 539, 556, 557, 558, 559, 560, 561, 562, 563, 564, 591, 592, 593, 594, 595, 596, 597, 598] (by decide +kernel) (by decide +kernel)) (goodIn_sub (fun _ h => List.mem_append_left _ (List.mem_append_left _ (List.mem_append_right _ h))) (by decide +kernel))
set_option maxRecDepth 20000 in
theorem gL_law_L_look : GoodIn wsL_law (va_wsS RL 98 yL_look wsL_look) := goodIn_app (goodIn_of _ (by decide +kernel)) ggL_law_L_look
set_option maxRecDepth 20000 in
theorem ggL_law_X6_look : GoodIn wsL_law wsX6_look := goodIn_r _ [543, 86, 134, 135, 145, 499, 136, 137, 138, 5, 139, 140, 307, 308, 309, 310, 311, 312, 313, 314, 315, 316, 317, 318, 88, 87, 544, 545, 546, 547, 548, 549, 550, 551, 105, 319, 320, 321, 322, 104, 327, 328, 329, 330, 424, 425, 426, 427, 552, 553, 554, 555, 565, 566, 567, 568, 569, 570, 571, 572, 573, 574, 575, 576, 577, 578, 579, 580, 581, 582, 583, 584, 585, 586, 587, 588, 589, 590] (by decide +kernel) (by decide +kernel)
set_option maxRecDepth 20000 in
theorem gL_law_X6_look : GoodIn wsL_law (wsV RL 100 RX6 yX6_look wsX6_look) := goodIn_app (goodIn_of _ (by decide +kernel)) ggL_law_X6_look
