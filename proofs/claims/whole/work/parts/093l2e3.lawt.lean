set_option maxRecDepth 20000 in
theorem ggX6round_4 : GoodIn wsL_law wsX6_round_r4 := goodIn_r _ [448, 449, 450, 451, 452, 453, 454, 455, 456, 95, 97, 98, 311, 312, 313, 314, 457, 458, 459, 460, 331, 332, 333, 334] (by decide +kernel) (by decide +kernel)
