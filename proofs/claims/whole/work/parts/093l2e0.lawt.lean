theorem goodIn_cons {big a : List Cond} {c : Cond} (hc : GoodIn big [c]) (ha : GoodIn big a) : GoodIn big (c :: a) := fun w h => (List.mem_cons.mp h).elim (fun e => hc w (by rw [e]; exact List.mem_cons_self)) (ha w)
set_option maxRecDepth 20000 in
theorem ggX6round_1 : GoodIn wsL_law wsX6_round_r1 := goodIn_r _ [230, 135, 134, 104, 92, 89, 146, 176, 177, 178, 5, 179, 86, 136, 137, 138, 139, 140, 231, 232, 233, 234, 93, 229] (by decide +kernel) (by decide +kernel)
