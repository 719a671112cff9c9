set_option maxRecDepth 20000 in
theorem ggX6round_3 : GoodIn wsL_law wsX6_round_r3 := goodIn_r _ [102, 315, 316, 317, 318, 432, 433, 434, 435, 101, 100, 436, 437, 438, 439, 103, 440, 441, 442, 443, 444, 445, 446, 447] (by decide +kernel) (by decide +kernel)
