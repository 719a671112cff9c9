set_option maxRecDepth 20000 in
theorem ggX6round_5 : GoodIn wsL_law wsX6_round_r5 := goodIn_r _ [145, 90, 335, 336, 337, 338, 323, 324, 325, 326, 105, 327, 328, 329, 330] (by decide +kernel) (by decide +kernel)
