set_option maxRecDepth 20000 in
theorem ggX6round_2 : GoodIn wsL_law wsX6_round_r2 := goodIn_r _ [94, 87, 88, 235, 236, 237, 238, 239, 240, 241, 242, 420, 421, 422, 423, 424, 425, 426, 427, 428, 429, 430, 431, 99] (by decide +kernel) (by decide +kernel)
