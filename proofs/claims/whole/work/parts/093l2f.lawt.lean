set_option maxRecDepth 20000 in
theorem ggX6round_c : GoodIn wsL_law [Cond.code yX6_round cX6_round 5 (some .long)] := goodIn_r _ [419] (by decide +kernel) (by decide +kernel)
set_option maxRecDepth 20000 in
theorem ggX6round_w : GoodIn wsL_law wsX60 := goodIn_r _ [565, 566, 567, 568, 569, 570, 571, 572, 573, 574, 575, 576, 577, 578, 579, 580, 581, 582, 583, 584, 585, 586, 587, 588, 589, 590] (by decide +kernel) (by decide +kernel)
theorem ggL_law_X6_round : GoodIn wsL_law wsX6_round := goodIn_cons ggX6round_c (goodIn_app (goodIn_app ggX6round_1 (goodIn_app ggX6round_2 (goodIn_app ggX6round_3 (goodIn_app ggX6round_4 ggX6round_5)))) ggX6round_w)
