set_option maxHeartbeats 4000000 in
set_option maxRecDepth 100000 in
/-- L_reset, caught -/
theorem c_L_reset_b (l : Launch) (hst : l.stackTraces = false) (D : va_G) (cA : Nat → ClassId) (sz : Nat) (th : Nat) (lr : Nat) (pa : Nat) (ua : Nat) (xa : Nat) (ds : Nat) (pr : Nat) (bl : Nat) (est : Bool) (g : Nat) (gf : Nat) (gt : Nat) (gw : Nat) (dir : Bool) (nv : Nat) (me : Nat) (d2 : Bool) (z : Int) (ot : Nat) (hz : -2147483648 ≤ z ∧ z < 2147483648) (hbad : z < 1 ∨ 16 < z) : Met l yL_reset wsL_reset ({ frames := 7, cells := 1, slots := 6, locals := 105 } : Room) (zTh D vwCl (zT cA) [(th, .inr (5, [.ref g, .ref lr, .ref pa, .ref ua, .ref xa, .ref ds, .ref pr, .ref bl, .int (zB est)])), (g, .inr (2, [.ref gf, .ref gt, .ref gw, .int (zB dir), .int (nI nv), .int (nI me)]))] sz [.ref th, .int (zB d2), .int (iZ z), .ref ot]) (zQt (nI 1) sz) 1 6 (fun q => sz ≤ q) := by
  refine z_catches (cc := cL_reset) (maxL := 5) (ret := (some .int)) (by decide) rfl (Nat.le_of_ble_eq_true rfl) ?_
  intro p e s m below meth c hx hb hr hml hown hts hlocks htab hsz hP hK hG hZ Q hQ ls hl
  have hown : s.vm.findClass RL = some m.cls := hown
  have hl : lv_has ls 5 [(0, .ref th), (1, .int (zB d2)), (2, .int (iZ z)), (3, .ref ot)] := hl
  generalize hav : ([.ref th, .int (zB d2), .int (iZ z), .ref ot] : List Value).toArray = args at hts hQ ⊢
  refine lv_aload_n hx hb dL_reset_0 rfl (lv_at hl 3 rfl) ?_
  refine lv_iconst (v := nI 0) hx hb dL_reset_1 (by decide) ?_
  refine lv_aload_n hx hb dL_reset_2 rfl (lv_at hl 0 rfl) ?_
  refine lv_iload_n hx hb dL_reset_3 rfl (lv_at hl 1 rfl) ?_
  refine lv_iload_n hx hb dL_reset_4 rfl (lv_at hl 2 rfl) ?_
  refine z_cTVh (wc := [(th, .inr (5, [.ref g, .ref lr, .ref pa, .ref ua, .ref xa, .ref ds, .ref pr, .ref bl, .int (zB est)])), (g, .inr (2, [.ref gf, .ref gt, .ref gw, .int (zB dir), .int (nI nv), .int (nI me)]))]) (rm := ({ frames := 6, cells := 1, slots := 6, locals := 82 } : Room)) (As := [.int (zB d2), .int (iZ z)]) (rest := [.int (nI 0), .ref ot]) ⟨hx, hb, hml, hown, hts⟩ hsz (c_X5_reset_b l hst D cA sz th lr pa ua xa ds pr bl est g gf gt gw dir nv me d2 z (by first | assumption | omega) (by first | assumption | omega)) (cwV 2 hts gL_reset_X5_reset rfl rfl rfl (by decide +kernel) ⟨Nat.le_of_ble_eq_true rfl, Nat.le_of_ble_eq_true rfl⟩) hP hK hG hZ [0, 1] rfl 5 0 rfl rfl rfl hl.1 rfl (Nat.le_of_ble_eq_true rfl) ⟨Nat.le_of_ble_eq_true rfl, Nat.le_of_ble_eq_true rfl⟩ dL_reset_5 [] _ _ htab (fun z hz => by cases hz) rfl (by decide) (hts (.classLink RL 13 "java/lang/IllegalArgumentException") (by decide +kernel)) (by decide +kernel) (fun q9 H locs hS => ?_)
  refine lv_astore (lv' := [(4, .ref q9), (0, .ref th), (1, .int (zB d2)), (2, .int (iZ z)), (3, .ref ot)]) hx hb dL_reset_13 hl (by decide) rfl (fun ls hl => ?_)
  refine lv_iconst (v := nI 1) hx hb dL_reset_15 (by decide) ?_
  exact z_iretT hx hb hr hlocks hQ hS dL_reset_16
set_option maxHeartbeats 4000000 in
set_option maxRecDepth 100000 in
/-- L_edge, caught -/
theorem c_L_edge_ba (l : Launch) (hst : l.stackTraces = false) (D : va_G) (cA : Nat → ClassId) (sz : Nat) (th : Nat) (lr : Nat) (pa : Nat) (ua : Nat) (xa : Nat) (ds : Nat) (pr : Nat) (bl : Nat) (est : Bool) (g : Nat) (gf : Nat) (gt : Nat) (gw : Nat) (dir : Bool) (nv : Nat) (me : Nat) (z : Int) (b : Int) (w : Int) (ot : Nat) (hz : -2147483648 ≤ z ∧ z < 2147483648) (hnv : nv ≤ 16) (hbad : z < 0 ∨ (nv : Int) ≤ z) : Met l yL_edge wsL_edge ({ frames := 8, cells := 1, slots := 6, locals := 126 } : Room) (zTh D vwCl (zT cA) [(th, .inr (5, [.ref g, .ref lr, .ref pa, .ref ua, .ref xa, .ref ds, .ref pr, .ref bl, .int (zB est)])), (g, .inr (2, [.ref gf, .ref gt, .ref gw, .int (zB dir), .int (nI nv), .int (nI me)]))] sz [.ref th, .int (iZ z), .int (iZ b), .int (iZ w), .ref ot]) (zQt (nI 1) sz) 1 6 (fun q => sz ≤ q) := by
  refine z_catches (cc := cL_edge) (maxL := 6) (ret := (some .int)) (by decide) rfl (Nat.le_of_ble_eq_true rfl) ?_
  intro p e s m below meth c hx hb hr hml hown hts hlocks htab hsz hP hK hG hZ Q hQ ls hl
  have hown : s.vm.findClass RL = some m.cls := hown
  have hl : lv_has ls 6 [(0, .ref th), (1, .int (iZ z)), (2, .int (iZ b)), (3, .int (iZ w)), (4, .ref ot)] := hl
  generalize hav : ([.ref th, .int (iZ z), .int (iZ b), .int (iZ w), .ref ot] : List Value).toArray = args at hts hQ ⊢
  refine lv_aload hx hb dL_edge_0 (lv_at hl 4 rfl) ?_
  refine lv_iconst (v := nI 0) hx hb dL_edge_2 (by decide) ?_
  refine lv_aload_n hx hb dL_edge_3 rfl (lv_at hl 0 rfl) ?_
  refine lv_iload_n hx hb dL_edge_4 rfl (lv_at hl 1 rfl) ?_
  refine lv_iload_n hx hb dL_edge_5 rfl (lv_at hl 2 rfl) ?_
  refine lv_iload_n hx hb dL_edge_6 rfl (lv_at hl 3 rfl) ?_
  refine z_cTVh (wc := [(th, .inr (5, [.ref g, .ref lr, .ref pa, .ref ua, .ref xa, .ref ds, .ref pr, .ref bl, .int (zB est)])), (g, .inr (2, [.ref gf, .ref gt, .ref gw, .int (zB dir), .int (nI nv), .int (nI me)]))]) (rm := ({ frames := 7, cells := 1, slots := 6, locals := 103 } : Room)) (As := [.int (iZ z), .int (iZ b), .int (iZ w)]) (rest := [.int (nI 0), .ref ot]) ⟨hx, hb, hml, hown, hts⟩ hsz (c_X5_edge_ba l hst D cA sz th lr pa ua xa ds pr bl est g gf gt gw dir nv me z b w (by first | assumption | omega) (by first | assumption | omega) (by first | assumption | omega)) (cwV 3 hts gL_edge_X5_edge rfl rfl rfl (by decide +kernel) ⟨Nat.le_of_ble_eq_true rfl, Nat.le_of_ble_eq_true rfl⟩) hP hK hG hZ [0, 1] rfl 5 0 rfl rfl rfl hl.1 rfl (Nat.le_of_ble_eq_true rfl) ⟨Nat.le_of_ble_eq_true rfl, Nat.le_of_ble_eq_true rfl⟩ dL_edge_7 [] _ _ htab (fun z hz => by cases hz) rfl (by decide) (hts (.classLink RL 13 "java/lang/IllegalArgumentException") (by decide +kernel)) (by decide +kernel) (fun q9 H locs hS => ?_)
  refine lv_astore (lv' := [(5, .ref q9), (0, .ref th), (1, .int (iZ z)), (2, .int (iZ b)), (3, .int (iZ w)), (4, .ref ot)]) hx hb dL_edge_15 hl (by decide) rfl (fun ls hl => ?_)
  refine lv_iconst (v := nI 1) hx hb dL_edge_17 (by decide) ?_
  exact z_iretT hx hb hr hlocks hQ hS dL_edge_18
set_option maxHeartbeats 4000000 in
set_option maxRecDepth 100000 in
/-- L_edge, caught -/
theorem c_L_edge_bb (l : Launch) (hst : l.stackTraces = false) (D : va_G) (cA : Nat → ClassId) (sz : Nat) (th : Nat) (lr : Nat) (pa : Nat) (ua : Nat) (xa : Nat) (ds : Nat) (pr : Nat) (bl : Nat) (est : Bool) (g : Nat) (gf : Nat) (gt : Nat) (gw : Nat) (dir : Bool) (nv : Nat) (me : Nat) (a : Nat) (z : Int) (w : Int) (ot : Nat) (ha : a < nv) (hz : -2147483648 ≤ z ∧ z < 2147483648) (hnv : nv ≤ 16) (hbad : z < 0 ∨ (nv : Int) ≤ z) : Met l yL_edge wsL_edge ({ frames := 8, cells := 1, slots := 6, locals := 126 } : Room) (zTh D vwCl (zT cA) [(th, .inr (5, [.ref g, .ref lr, .ref pa, .ref ua, .ref xa, .ref ds, .ref pr, .ref bl, .int (zB est)])), (g, .inr (2, [.ref gf, .ref gt, .ref gw, .int (zB dir), .int (nI nv), .int (nI me)]))] sz [.ref th, .int (nI a), .int (iZ z), .int (iZ w), .ref ot]) (zQt (nI 1) sz) 1 6 (fun q => sz ≤ q) := by
  refine z_catches (cc := cL_edge) (maxL := 6) (ret := (some .int)) (by decide) rfl (Nat.le_of_ble_eq_true rfl) ?_
  intro p e s m below meth c hx hb hr hml hown hts hlocks htab hsz hP hK hG hZ Q hQ ls hl
  have hown : s.vm.findClass RL = some m.cls := hown
  have hl : lv_has ls 6 [(0, .ref th), (1, .int (nI a)), (2, .int (iZ z)), (3, .int (iZ w)), (4, .ref ot)] := hl
  generalize hav : ([.ref th, .int (nI a), .int (iZ z), .int (iZ w), .ref ot] : List Value).toArray = args at hts hQ ⊢
  refine lv_aload hx hb dL_edge_0 (lv_at hl 4 rfl) ?_
  refine lv_iconst (v := nI 0) hx hb dL_edge_2 (by decide) ?_
  refine lv_aload_n hx hb dL_edge_3 rfl (lv_at hl 0 rfl) ?_
  refine lv_iload_n hx hb dL_edge_4 rfl (lv_at hl 1 rfl) ?_
  refine lv_iload_n hx hb dL_edge_5 rfl (lv_at hl 2 rfl) ?_
  refine lv_iload_n hx hb dL_edge_6 rfl (lv_at hl 3 rfl) ?_
  refine z_cTVh (wc := [(th, .inr (5, [.ref g, .ref lr, .ref pa, .ref ua, .ref xa, .ref ds, .ref pr, .ref bl, .int (zB est)])), (g, .inr (2, [.ref gf, .ref gt, .ref gw, .int (zB dir), .int (nI nv), .int (nI me)]))]) (rm := ({ frames := 7, cells := 1, slots := 6, locals := 103 } : Room)) (As := [.int (nI a), .int (iZ z), .int (iZ w)]) (rest := [.int (nI 0), .ref ot]) ⟨hx, hb, hml, hown, hts⟩ hsz (c_X5_edge_bb l hst D cA sz th lr pa ua xa ds pr bl est g gf gt gw dir nv me a z w (by first | assumption | omega) (by first | assumption | omega) (by first | assumption | omega) (by first | assumption | omega)) (cwV 3 hts gL_edge_X5_edge rfl rfl rfl (by decide +kernel) ⟨Nat.le_of_ble_eq_true rfl, Nat.le_of_ble_eq_true rfl⟩) hP hK hG hZ [0, 1] rfl 5 0 rfl rfl rfl hl.1 rfl (Nat.le_of_ble_eq_true rfl) ⟨Nat.le_of_ble_eq_true rfl, Nat.le_of_ble_eq_true rfl⟩ dL_edge_7 [] _ _ htab (fun z hz => by cases hz) rfl (by decide) (hts (.classLink RL 13 "java/lang/IllegalArgumentException") (by decide +kernel)) (by decide +kernel) (fun q9 H locs hS => ?_)
  refine lv_astore (lv' := [(5, .ref q9), (0, .ref th), (1, .int (nI a)), (2, .int (iZ z)), (3, .int (iZ w)), (4, .ref ot)]) hx hb dL_edge_15 hl (by decide) rfl (fun ls hl => ?_)
  refine lv_iconst (v := nI 1) hx hb dL_edge_17 (by decide) ?_
  exact z_iretT hx hb hr hlocks hQ hS dL_edge_18
set_option maxHeartbeats 4000000 in
set_option maxRecDepth 100000 in
/-- L_edge, caught -/
theorem c_L_edge_bw (l : Launch) (hst : l.stackTraces = false) (D : va_G) (cA : Nat → ClassId) (sz : Nat) (th : Nat) (lr : Nat) (pa : Nat) (ua : Nat) (xa : Nat) (ds : Nat) (pr : Nat) (bl : Nat) (est : Bool) (g : Nat) (gf : Nat) (gt : Nat) (gw : Nat) (dir : Bool) (nv : Nat) (me : Nat) (a : Nat) (b : Nat) (z : Int) (ot : Nat) (ha : a < nv) (hb : b < nv) (hz : -2147483648 ≤ z ∧ z < 2147483648) (hnv : nv ≤ 16) (hbad : z < 0 ∨ 1000000000 < z) : Met l yL_edge wsL_edge ({ frames := 7, cells := 1, slots := 6, locals := 105 } : Room) (zTh D vwCl (zT cA) [(th, .inr (5, [.ref g, .ref lr, .ref pa, .ref ua, .ref xa, .ref ds, .ref pr, .ref bl, .int (zB est)])), (g, .inr (2, [.ref gf, .ref gt, .ref gw, .int (zB dir), .int (nI nv), .int (nI me)]))] sz [.ref th, .int (nI a), .int (nI b), .int (iZ z), .ref ot]) (zQt (nI 1) sz) 1 6 (fun q => sz ≤ q) := by
  refine z_catches (cc := cL_edge) (maxL := 6) (ret := (some .int)) (by decide) rfl (Nat.le_of_ble_eq_true rfl) ?_
  intro p e s m below meth c hx hb hr hml hown hts hlocks htab hsz hP hK hG hZ Q hQ ls hl
  have hown : s.vm.findClass RL = some m.cls := hown
  have hl : lv_has ls 6 [(0, .ref th), (1, .int (nI a)), (2, .int (nI b)), (3, .int (iZ z)), (4, .ref ot)] := hl
  generalize hav : ([.ref th, .int (nI a), .int (nI b), .int (iZ z), .ref ot] : List Value).toArray = args at hts hQ ⊢
  refine lv_aload hx hb dL_edge_0 (lv_at hl 4 rfl) ?_
  refine lv_iconst (v := nI 0) hx hb dL_edge_2 (by decide) ?_
  refine lv_aload_n hx hb dL_edge_3 rfl (lv_at hl 0 rfl) ?_
  refine lv_iload_n hx hb dL_edge_4 rfl (lv_at hl 1 rfl) ?_
  refine lv_iload_n hx hb dL_edge_5 rfl (lv_at hl 2 rfl) ?_
  refine lv_iload_n hx hb dL_edge_6 rfl (lv_at hl 3 rfl) ?_
  refine z_cTVh (wc := [(th, .inr (5, [.ref g, .ref lr, .ref pa, .ref ua, .ref xa, .ref ds, .ref pr, .ref bl, .int (zB est)])), (g, .inr (2, [.ref gf, .ref gt, .ref gw, .int (zB dir), .int (nI nv), .int (nI me)]))]) (rm := ({ frames := 6, cells := 1, slots := 6, locals := 82 } : Room)) (As := [.int (nI a), .int (nI b), .int (iZ z)]) (rest := [.int (nI 0), .ref ot]) ⟨hx, hb, hml, hown, hts⟩ hsz (c_X5_edge_bw l hst D cA sz th lr pa ua xa ds pr bl est g gf gt gw dir nv me a b z (by first | assumption | omega) (by first | assumption | omega) (by first | assumption | omega) (by first | assumption | omega) (by first | assumption | omega)) (cwV 3 hts gL_edge_X5_edge rfl rfl rfl (by decide +kernel) ⟨Nat.le_of_ble_eq_true rfl, Nat.le_of_ble_eq_true rfl⟩) hP hK hG hZ [0, 1] rfl 5 0 rfl rfl rfl hl.1 rfl (Nat.le_of_ble_eq_true rfl) ⟨Nat.le_of_ble_eq_true rfl, Nat.le_of_ble_eq_true rfl⟩ dL_edge_7 [] _ _ htab (fun z hz => by cases hz) rfl (by decide) (hts (.classLink RL 13 "java/lang/IllegalArgumentException") (by decide +kernel)) (by decide +kernel) (fun q9 H locs hS => ?_)
  refine lv_astore (lv' := [(5, .ref q9), (0, .ref th), (1, .int (nI a)), (2, .int (nI b)), (3, .int (iZ z)), (4, .ref ot)]) hx hb dL_edge_15 hl (by decide) rfl (fun ls hl => ?_)
  refine lv_iconst (v := nI 1) hx hb dL_edge_17 (by decide) ?_
  exact z_iretT hx hb hr hlocks hQ hS dL_edge_18
set_option maxHeartbeats 4000000 in
set_option maxRecDepth 100000 in
/-- L_edge, caught -/
theorem c_L_edge_bs (l : Launch) (hst : l.stackTraces = false) (D : va_G) (cA : Nat → ClassId) (sz : Nat) (th : Nat) (lr : Nat) (pa : Nat) (ua : Nat) (xa : Nat) (ds : Nat) (pr : Nat) (bl : Nat) (est : Bool) (g : Nat) (gf : Nat) (gt : Nat) (gw : Nat) (dir : Bool) (nv : Nat) (me : Nat) (a : Nat) (b : Nat) (w : Nat) (ot : Nat) (ha : a < nv) (hb : b < nv) (hw : w ≤ 1000000000) (hnv : nv ≤ 16) (hme : me = 40) : Met l yL_edge wsL_edge ({ frames := 7, cells := 1, slots := 6, locals := 105 } : Room) (zTh D vwCl (zT cA) [(th, .inr (5, [.ref g, .ref lr, .ref pa, .ref ua, .ref xa, .ref ds, .ref pr, .ref bl, .int (zB est)])), (g, .inr (2, [.ref gf, .ref gt, .ref gw, .int (zB dir), .int (nI nv), .int (nI me)]))] sz [.ref th, .int (nI a), .int (nI b), .int (nI w), .ref ot]) (zQt (nI 2) sz) 1 6 (fun q => sz ≤ q) := by
  refine z_catches (cc := cL_edge) (maxL := 6) (ret := (some .int)) (by decide) rfl (Nat.le_of_ble_eq_true rfl) ?_
  intro p e s m below meth c hx hb hr hml hown hts hlocks htab hsz hP hK hG hZ Q hQ ls hl
  have hown : s.vm.findClass RL = some m.cls := hown
  have hl : lv_has ls 6 [(0, .ref th), (1, .int (nI a)), (2, .int (nI b)), (3, .int (nI w)), (4, .ref ot)] := hl
  generalize hav : ([.ref th, .int (nI a), .int (nI b), .int (nI w), .ref ot] : List Value).toArray = args at hts hQ ⊢
  refine lv_aload hx hb dL_edge_0 (lv_at hl 4 rfl) ?_
  refine lv_iconst (v := nI 0) hx hb dL_edge_2 (by decide) ?_
  refine lv_aload_n hx hb dL_edge_3 rfl (lv_at hl 0 rfl) ?_
  refine lv_iload_n hx hb dL_edge_4 rfl (lv_at hl 1 rfl) ?_
  refine lv_iload_n hx hb dL_edge_5 rfl (lv_at hl 2 rfl) ?_
  refine lv_iload_n hx hb dL_edge_6 rfl (lv_at hl 3 rfl) ?_
  refine z_cTVh (wc := [(th, .inr (5, [.ref g, .ref lr, .ref pa, .ref ua, .ref xa, .ref ds, .ref pr, .ref bl, .int (zB est)])), (g, .inr (2, [.ref gf, .ref gt, .ref gw, .int (zB dir), .int (nI nv), .int (nI me)]))]) (rm := ({ frames := 6, cells := 1, slots := 6, locals := 82 } : Room)) (As := [.int (nI a), .int (nI b), .int (nI w)]) (rest := [.int (nI 0), .ref ot]) ⟨hx, hb, hml, hown, hts⟩ hsz (c_X5_edge_bs l hst D cA sz th lr pa ua xa ds pr bl est g gf gt gw dir nv me a b w (by first | assumption | omega) (by first | assumption | omega) (by first | assumption | omega) (by first | assumption | omega) (by first | assumption | omega)) (cwV 3 hts gL_edge_X5_edge rfl rfl rfl (by decide +kernel) ⟨Nat.le_of_ble_eq_true rfl, Nat.le_of_ble_eq_true rfl⟩) hP hK hG hZ [0, 1] rfl 5 0 rfl rfl rfl hl.1 rfl (Nat.le_of_ble_eq_true rfl) ⟨Nat.le_of_ble_eq_true rfl, Nat.le_of_ble_eq_true rfl⟩ dL_edge_7 [_] _ _ htab (fun z hz => by cases hz with | head => exact .inr ⟨by decide, _, hts (.classLink RL 13 "java/lang/IllegalArgumentException") (by decide +kernel), hG.2.2 ("java/lang/IllegalStateException", "java/lang/IllegalArgumentException") (by decide)⟩ | tail _ h9 => cases h9) rfl (by decide) (hts (.classLink RL 19 "java/lang/IllegalStateException") (by decide +kernel)) (by decide +kernel) (fun q9 H locs hS => ?_)
  refine lv_astore (lv' := [(5, .ref q9), (0, .ref th), (1, .int (nI a)), (2, .int (nI b)), (3, .int (nI w)), (4, .ref ot)]) hx hb dL_edge_19 hl (by decide) rfl (fun ls hl => ?_)
  refine lv_iconst (v := nI 2) hx hb dL_edge_21 (by decide) ?_
  exact z_iretT hx hb hr hlocks hQ hS dL_edge_22
set_option maxHeartbeats 4000000 in
set_option maxRecDepth 100000 in
/-- L_drop, caught -/
theorem c_L_drop_b (l : Launch) (hst : l.stackTraces = false) (D : va_G) (cA : Nat → ClassId) (sz : Nat) (th : Nat) (lr : Nat) (pa : Nat) (ua : Nat) (xa : Nat) (ds : Nat) (pr : Nat) (bl : Nat) (est : Bool) (g : Nat) (gf : Nat) (gt : Nat) (gw : Nat) (dir : Bool) (nv : Nat) (me : Nat) (ot : Nat) (hme : me = 0) : Met l yL_drop wsL_drop ({ frames := 7, cells := 1, slots := 6, locals := 102 } : Room) (zTh D vwCl (zT cA) [(th, .inr (5, [.ref g, .ref lr, .ref pa, .ref ua, .ref xa, .ref ds, .ref pr, .ref bl, .int (zB est)])), (g, .inr (2, [.ref gf, .ref gt, .ref gw, .int (zB dir), .int (nI nv), .int (nI me)]))] sz [.ref th, .ref ot]) (zQt (nI 1) sz) 1 6 (fun q => sz ≤ q) := by
  refine z_catches (cc := cL_drop) (maxL := 3) (ret := (some .int)) (by decide) rfl (Nat.le_of_ble_eq_true rfl) ?_
  intro p e s m below meth c hx hb hr hml hown hts hlocks htab hsz hP hK hG hZ Q hQ ls hl
  have hown : s.vm.findClass RL = some m.cls := hown
  have hl : lv_has ls 3 [(0, .ref th), (1, .ref ot)] := hl
  generalize hav : ([.ref th, .ref ot] : List Value).toArray = args at hts hQ ⊢
  refine lv_aload_n hx hb dL_drop_0 rfl (lv_at hl 1 rfl) ?_
  refine lv_iconst (v := nI 0) hx hb dL_drop_1 (by decide) ?_
  refine lv_aload_n hx hb dL_drop_2 rfl (lv_at hl 0 rfl) ?_
  refine z_cTVh (wc := [(th, .inr (5, [.ref g, .ref lr, .ref pa, .ref ua, .ref xa, .ref ds, .ref pr, .ref bl, .int (zB est)])), (g, .inr (2, [.ref gf, .ref gt, .ref gw, .int (zB dir), .int (nI nv), .int (nI me)]))]) (rm := ({ frames := 6, cells := 1, slots := 6, locals := 82 } : Room)) (As := []) (rest := [.int (nI 0), .ref ot]) ⟨hx, hb, hml, hown, hts⟩ hsz (c_X5_drop_b l hst D cA sz th lr pa ua xa ds pr bl est g gf gt gw dir nv me (by first | assumption | omega)) (cwV 0 hts gL_drop_X5_drop rfl rfl rfl (by decide +kernel) ⟨Nat.le_of_ble_eq_true rfl, Nat.le_of_ble_eq_true rfl⟩) hP hK hG hZ [0, 1] rfl 5 0 rfl rfl rfl hl.1 rfl (Nat.le_of_ble_eq_true rfl) ⟨Nat.le_of_ble_eq_true rfl, Nat.le_of_ble_eq_true rfl⟩ dL_drop_3 [] _ _ htab (fun z hz => by cases hz) rfl (by decide) (hts (.classLink RL 19 "java/lang/IllegalStateException") (by decide +kernel)) (by decide +kernel) (fun q9 H locs hS => ?_)
  refine lv_astore_n (lv' := [(2, .ref q9), (0, .ref th), (1, .ref ot)]) hx hb dL_drop_11 rfl hl (by decide) rfl (fun ls hl => ?_)
  refine lv_iconst (v := nI 1) hx hb dL_drop_12 (by decide) ?_
  exact z_iretT hx hb hr hlocks hQ hS dL_drop_13
set_option maxHeartbeats 4000000 in
set_option maxRecDepth 100000 in
/-- L_distance, caught -/
theorem c_L_distance_ba (l : Launch) (hst : l.stackTraces = false) (D : va_G) (cA : Nat → ClassId) (sz : Nat) (th : Nat) (lr : Nat) (pa : Nat) (ua : Nat) (xa : Nat) (ds : Nat) (pr : Nat) (bl : Nat) (est : Bool) (g : Nat) (gf : Nat) (gt : Nat) (gw : Nat) (dir : Bool) (nv : Nat) (me : Nat) (z : Int) (b : Int) (ot : Nat) (hz : -2147483648 ≤ z ∧ z < 2147483648) (hnv : nv ≤ 16) (hbad : z < 0 ∨ (nv : Int) ≤ z) : Met l yL_distance wsL_distance ({ frames := 8, cells := 1, slots := 6, locals := 129 } : Room) (zTh D vwCl (zT cA) [(th, .inr (5, [.ref g, .ref lr, .ref pa, .ref ua, .ref xa, .ref ds, .ref pr, .ref bl, .int (zB est)])), (g, .inr (2, [.ref gf, .ref gt, .ref gw, .int (zB dir), .int (nI nv), .int (nI me)]))] sz [.ref th, .int (iZ z), .int (iZ b), .ref ot]) (zQt (nI 1) sz) 1 6 (fun q => sz ≤ q) := by
  refine z_catches (cc := cL_distance) (maxL := 5) (ret := (some .int)) (by decide) rfl (Nat.le_of_ble_eq_true rfl) ?_
  intro p e s m below meth c hx hb hr hml hown hts hlocks htab hsz hP hK hG hZ Q hQ ls hl
  have hown : s.vm.findClass RL = some m.cls := hown
  have hl : lv_has ls 5 [(0, .ref th), (1, .int (iZ z)), (2, .int (iZ b)), (3, .ref ot)] := hl
  generalize hav : ([.ref th, .int (iZ z), .int (iZ b), .ref ot] : List Value).toArray = args at hts hQ ⊢
  refine lv_aload_n hx hb dL_distance_0 rfl (lv_at hl 3 rfl) ?_
  refine lv_iconst (v := nI 0) hx hb dL_distance_1 (by decide) ?_
  refine lv_aload_n hx hb dL_distance_2 rfl (lv_at hl 0 rfl) ?_
  refine lv_iload_n hx hb dL_distance_3 rfl (lv_at hl 1 rfl) ?_
  refine lv_iload_n hx hb dL_distance_4 rfl (lv_at hl 2 rfl) ?_
  refine z_cTVh (wc := [(th, .inr (5, [.ref g, .ref lr, .ref pa, .ref ua, .ref xa, .ref ds, .ref pr, .ref bl, .int (zB est)])), (g, .inr (2, [.ref gf, .ref gt, .ref gw, .int (zB dir), .int (nI nv), .int (nI me)]))]) (rm := ({ frames := 7, cells := 1, slots := 6, locals := 107 } : Room)) (As := [.int (iZ z), .int (iZ b)]) (rest := [.int (nI 0), .ref ot]) ⟨hx, hb, hml, hown, hts⟩ hsz (c_X5_distance_ba l hst D cA sz th lr pa ua xa ds pr bl est g gf gt gw dir nv me z b (by first | assumption | omega) (by first | assumption | omega) (by first | assumption | omega)) (cwV 2 hts gL_distance_X5_distance rfl rfl rfl (by decide +kernel) ⟨Nat.le_of_ble_eq_true rfl, Nat.le_of_ble_eq_true rfl⟩) hP hK hG hZ [0, 1] rfl 5 0 rfl rfl rfl hl.1 rfl (Nat.le_of_ble_eq_true rfl) ⟨Nat.le_of_ble_eq_true rfl, Nat.le_of_ble_eq_true rfl⟩ dL_distance_5 [] _ _ htab (fun z hz => by cases hz) rfl (by decide) (hts (.classLink RL 13 "java/lang/IllegalArgumentException") (by decide +kernel)) (by decide +kernel) (fun q9 H locs hS => ?_)
  refine lv_astore (lv' := [(4, .ref q9), (0, .ref th), (1, .int (iZ z)), (2, .int (iZ b)), (3, .ref ot)]) hx hb dL_distance_12 hl (by decide) rfl (fun ls hl => ?_)
  refine lv_iconst (v := nI 1) hx hb dL_distance_14 (by decide) ?_
  exact z_iretT hx hb hr hlocks hQ hS dL_distance_15
set_option maxHeartbeats 4000000 in
set_option maxRecDepth 100000 in
/-- L_distance, caught -/
theorem c_L_distance_bb (l : Launch) (hst : l.stackTraces = false) (D : va_G) (cA : Nat → ClassId) (sz : Nat) (th : Nat) (lr : Nat) (pa : Nat) (ua : Nat) (xa : Nat) (ds : Nat) (pr : Nat) (bl : Nat) (est : Bool) (g : Nat) (gf : Nat) (gt : Nat) (gw : Nat) (dir : Bool) (nv : Nat) (me : Nat) (a : Nat) (z : Int) (ot : Nat) (ha : a < nv) (hz : -2147483648 ≤ z ∧ z < 2147483648) (hnv : nv ≤ 16) (hbad : z < 0 ∨ (nv : Int) ≤ z) : Met l yL_distance wsL_distance ({ frames := 8, cells := 1, slots := 6, locals := 129 } : Room) (zTh D vwCl (zT cA) [(th, .inr (5, [.ref g, .ref lr, .ref pa, .ref ua, .ref xa, .ref ds, .ref pr, .ref bl, .int (zB est)])), (g, .inr (2, [.ref gf, .ref gt, .ref gw, .int (zB dir), .int (nI nv), .int (nI me)]))] sz [.ref th, .int (nI a), .int (iZ z), .ref ot]) (zQt (nI 1) sz) 1 6 (fun q => sz ≤ q) := by
  refine z_catches (cc := cL_distance) (maxL := 5) (ret := (some .int)) (by decide) rfl (Nat.le_of_ble_eq_true rfl) ?_
  intro p e s m below meth c hx hb hr hml hown hts hlocks htab hsz hP hK hG hZ Q hQ ls hl
  have hown : s.vm.findClass RL = some m.cls := hown
  have hl : lv_has ls 5 [(0, .ref th), (1, .int (nI a)), (2, .int (iZ z)), (3, .ref ot)] := hl
  generalize hav : ([.ref th, .int (nI a), .int (iZ z), .ref ot] : List Value).toArray = args at hts hQ ⊢
  refine lv_aload_n hx hb dL_distance_0 rfl (lv_at hl 3 rfl) ?_
  refine lv_iconst (v := nI 0) hx hb dL_distance_1 (by decide) ?_
  refine lv_aload_n hx hb dL_distance_2 rfl (lv_at hl 0 rfl) ?_
  refine lv_iload_n hx hb dL_distance_3 rfl (lv_at hl 1 rfl) ?_
  refine lv_iload_n hx hb dL_distance_4 rfl (lv_at hl 2 rfl) ?_
  refine z_cTVh (wc := [(th, .inr (5, [.ref g, .ref lr, .ref pa, .ref ua, .ref xa, .ref ds, .ref pr, .ref bl, .int (zB est)])), (g, .inr (2, [.ref gf, .ref gt, .ref gw, .int (zB dir), .int (nI nv), .int (nI me)]))]) (rm := ({ frames := 7, cells := 1, slots := 6, locals := 107 } : Room)) (As := [.int (nI a), .int (iZ z)]) (rest := [.int (nI 0), .ref ot]) ⟨hx, hb, hml, hown, hts⟩ hsz (c_X5_distance_bb l hst D cA sz th lr pa ua xa ds pr bl est g gf gt gw dir nv me a z (by first | assumption | omega) (by first | assumption | omega) (by first | assumption | omega) (by first | assumption | omega)) (cwV 2 hts gL_distance_X5_distance rfl rfl rfl (by decide +kernel) ⟨Nat.le_of_ble_eq_true rfl, Nat.le_of_ble_eq_true rfl⟩) hP hK hG hZ [0, 1] rfl 5 0 rfl rfl rfl hl.1 rfl (Nat.le_of_ble_eq_true rfl) ⟨Nat.le_of_ble_eq_true rfl, Nat.le_of_ble_eq_true rfl⟩ dL_distance_5 [] _ _ htab (fun z hz => by cases hz) rfl (by decide) (hts (.classLink RL 13 "java/lang/IllegalArgumentException") (by decide +kernel)) (by decide +kernel) (fun q9 H locs hS => ?_)
  refine lv_astore (lv' := [(4, .ref q9), (0, .ref th), (1, .int (nI a)), (2, .int (iZ z)), (3, .ref ot)]) hx hb dL_distance_12 hl (by decide) rfl (fun ls hl => ?_)
  refine lv_iconst (v := nI 1) hx hb dL_distance_14 (by decide) ?_
  exact z_iretT hx hb hr hlocks hQ hS dL_distance_15
set_option maxHeartbeats 4000000 in
set_option maxRecDepth 100000 in
/-- L_tour, caught -/
theorem c_L_tour_b (l : Launch) (hst : l.stackTraces = false) (D : va_G) (cA : Nat → ClassId) (sz : Nat) (th : Nat) (lr : Nat) (pa : Nat) (ua : Nat) (xa : Nat) (ds : Nat) (pr : Nat) (bl : Nat) (est : Bool) (g : Nat) (gf : Nat) (gt : Nat) (gw : Nat) (dir : Bool) (nv : Nat) (me : Nat) (z : Int) (ot : Nat) (hz : -2147483648 ≤ z ∧ z < 2147483648) (hnv : nv ≤ 16) (hbad : z < 0 ∨ (nv : Int) ≤ z) : Met l yL_tour wsL_tour ({ frames := 8, cells := 1, slots := 6, locals := 140 } : Room) (zTh D vwCl (zT cA) [(th, .inr (5, [.ref g, .ref lr, .ref pa, .ref ua, .ref xa, .ref ds, .ref pr, .ref bl, .int (zB est)])), (g, .inr (2, [.ref gf, .ref gt, .ref gw, .int (zB dir), .int (nI nv), .int (nI me)]))] sz [.ref th, .int (iZ z), .ref ot]) (zQt (nI 1) sz) 1 6 (fun q => sz ≤ q) := by
  refine z_catches (cc := cL_tour) (maxL := 4) (ret := (some .int)) (by decide) rfl (Nat.le_of_ble_eq_true rfl) ?_
  intro p e s m below meth c hx hb hr hml hown hts hlocks htab hsz hP hK hG hZ Q hQ ls hl
  have hown : s.vm.findClass RL = some m.cls := hown
  have hl : lv_has ls 4 [(0, .ref th), (1, .int (iZ z)), (2, .ref ot)] := hl
  generalize hav : ([.ref th, .int (iZ z), .ref ot] : List Value).toArray = args at hts hQ ⊢
  refine lv_aload_n hx hb dL_tour_0 rfl (lv_at hl 2 rfl) ?_
  refine lv_iconst (v := nI 0) hx hb dL_tour_1 (by decide) ?_
  refine lv_aload_n hx hb dL_tour_2 rfl (lv_at hl 0 rfl) ?_
  refine lv_iload_n hx hb dL_tour_3 rfl (lv_at hl 1 rfl) ?_
  refine z_cTVh (wc := [(th, .inr (5, [.ref g, .ref lr, .ref pa, .ref ua, .ref xa, .ref ds, .ref pr, .ref bl, .int (zB est)])), (g, .inr (2, [.ref gf, .ref gt, .ref gw, .int (zB dir), .int (nI nv), .int (nI me)]))]) (rm := ({ frames := 7, cells := 1, slots := 6, locals := 119 } : Room)) (As := [.int (iZ z)]) (rest := [.int (nI 0), .ref ot]) ⟨hx, hb, hml, hown, hts⟩ hsz (c_X5_tour_b l hst D cA sz th lr pa ua xa ds pr bl est g gf gt gw dir nv me z (by first | assumption | omega) (by first | assumption | omega) (by first | assumption | omega)) (cwV 1 hts gL_tour_X5_tour rfl rfl rfl (by decide +kernel) ⟨Nat.le_of_ble_eq_true rfl, Nat.le_of_ble_eq_true rfl⟩) hP hK hG hZ [0, 1] rfl 5 0 rfl rfl rfl hl.1 rfl (Nat.le_of_ble_eq_true rfl) ⟨Nat.le_of_ble_eq_true rfl, Nat.le_of_ble_eq_true rfl⟩ dL_tour_4 [] _ _ htab (fun z hz => by cases hz) rfl (by decide) (hts (.classLink RL 13 "java/lang/IllegalArgumentException") (by decide +kernel)) (by decide +kernel) (fun q9 H locs hS => ?_)
  refine lv_astore_n (lv' := [(3, .ref q9), (0, .ref th), (1, .int (iZ z)), (2, .ref ot)]) hx hb dL_tour_12 rfl hl (by decide) rfl (fun ls hl => ?_)
  refine lv_iconst (v := nI 1) hx hb dL_tour_13 (by decide) ?_
  exact z_iretT hx hb hr hlocks hQ hS dL_tour_14
set_option maxHeartbeats 4000000 in
set_option maxRecDepth 100000 in
/-- L_round, caught -/
theorem c_L_round_b (l : Launch) (hst : l.stackTraces = false) (D : va_G) (cA : Nat → ClassId) (sz : Nat) (th : Nat) (lr : Nat) (pa : Nat) (ua : Nat) (xa : Nat) (ds : Nat) (pr : Nat) (bl : Nat) (est : Bool) (g : Nat) (gf : Nat) (gt : Nat) (gw : Nat) (dir : Bool) (nv : Nat) (me : Nat) (z : Int) (ot : Nat) (hz : -2147483648 ≤ z ∧ z < 2147483648) (hnv : nv ≤ 16) (hbad : z < 0 ∨ (nv : Int) ≤ z) : Met l yL_round wsL_round ({ frames := 8, cells := 1, slots := 6, locals := 202 } : Room) (zTh D vwCl (zT cA) [(th, .inr (5, [.ref g, .ref lr, .ref pa, .ref ua, .ref xa, .ref ds, .ref pr, .ref bl, .int (zB est)])), (g, .inr (2, [.ref gf, .ref gt, .ref gw, .int (zB dir), .int (nI nv), .int (nI me)]))] sz [.ref th, .int (iZ z), .ref ot]) (zQt (nI 1) sz) 1 6 (fun q => sz ≤ q) := by
  refine z_catches (cc := cL_round) (maxL := 4) (ret := (some .int)) (by decide) rfl (Nat.le_of_ble_eq_true rfl) ?_
  intro p e s m below meth c hx hb hr hml hown hts hlocks htab hsz hP hK hG hZ Q hQ ls hl
  have hown : s.vm.findClass RL = some m.cls := hown
  have hl : lv_has ls 4 [(0, .ref th), (1, .int (iZ z)), (2, .ref ot)] := hl
  generalize hav : ([.ref th, .int (iZ z), .ref ot] : List Value).toArray = args at hts hQ ⊢
  refine lv_aload_n hx hb dL_round_0 rfl (lv_at hl 2 rfl) ?_
  refine lv_iconst (v := nI 0) hx hb dL_round_1 (by decide) ?_
  refine lv_aload_n hx hb dL_round_2 rfl (lv_at hl 0 rfl) ?_
  refine lv_iload_n hx hb dL_round_3 rfl (lv_at hl 1 rfl) ?_
  refine z_cTVh (wc := [(th, .inr (5, [.ref g, .ref lr, .ref pa, .ref ua, .ref xa, .ref ds, .ref pr, .ref bl, .int (zB est)])), (g, .inr (2, [.ref gf, .ref gt, .ref gw, .int (zB dir), .int (nI nv), .int (nI me)]))]) (rm := ({ frames := 7, cells := 1, slots := 6, locals := 178 } : Room)) (As := [.int (iZ z)]) (rest := [.int (nI 0), .ref ot]) ⟨hx, hb, hml, hown, hts⟩ hsz (c_X5_round_b l hst D cA sz th lr pa ua xa ds pr bl est g gf gt gw dir nv me z (by first | assumption | omega) (by first | assumption | omega) (by first | assumption | omega)) (cwV 1 hts gL_round_X5_round rfl rfl rfl (by decide +kernel) ⟨Nat.le_of_ble_eq_true rfl, Nat.le_of_ble_eq_true rfl⟩) hP hK hG hZ [0, 1] rfl 5 0 rfl rfl rfl hl.1 rfl (Nat.le_of_ble_eq_true rfl) ⟨Nat.le_of_ble_eq_true rfl, Nat.le_of_ble_eq_true rfl⟩ dL_round_4 [] _ _ htab (fun z hz => by cases hz) rfl (by decide) (hts (.classLink RL 13 "java/lang/IllegalArgumentException") (by decide +kernel)) (by decide +kernel) (fun q9 H locs hS => ?_)
  refine lv_astore_n (lv' := [(3, .ref q9), (0, .ref th), (1, .int (iZ z)), (2, .ref ot)]) hx hb dL_round_11 rfl hl (by decide) rfl (fun ls hl => ?_)
  refine lv_iconst (v := nI 1) hx hb dL_round_12 (by decide) ?_
  exact z_iretT hx hb hr hlocks hQ hS dL_round_13
set_option maxHeartbeats 4000000 in
set_option maxRecDepth 100000 in
/-- L_judge, caught -/
theorem c_L_judge_b (l : Launch) (hst : l.stackTraces = false) (D : va_G) (cA : Nat → ClassId) (sz : Nat) (th : Nat) (lr : Nat) (pa : Nat) (ua : Nat) (xa : Nat) (ds : Nat) (pr : Nat) (bl : Nat) (est : Bool) (g : Nat) (gf : Nat) (gt : Nat) (gw : Nat) (dir : Bool) (nv : Nat) (me : Nat) (z : Int) (ot : Nat) (hz : -2147483648 ≤ z ∧ z < 2147483648) (hnv : nv ≤ 16) (hbad : z < 0 ∨ (nv : Int) ≤ z) : Met l yL_judge wsL_judge ({ frames := 8, cells := 1, slots := 6, locals := 126 } : Room) (zTh D vwCl (zT cA) [(th, .inr (5, [.ref g, .ref lr, .ref pa, .ref ua, .ref xa, .ref ds, .ref pr, .ref bl, .int (zB est)])), (g, .inr (2, [.ref gf, .ref gt, .ref gw, .int (zB dir), .int (nI nv), .int (nI me)]))] sz [.ref th, .int (iZ z), .ref ot]) (zQt (nI 1) sz) 1 6 (fun q => sz ≤ q) := by
  refine z_catches (cc := cL_judge) (maxL := 4) (ret := (some .int)) (by decide) rfl (Nat.le_of_ble_eq_true rfl) ?_
  intro p e s m below meth c hx hb hr hml hown hts hlocks htab hsz hP hK hG hZ Q hQ ls hl
  have hown : s.vm.findClass RL = some m.cls := hown
  have hl : lv_has ls 4 [(0, .ref th), (1, .int (iZ z)), (2, .ref ot)] := hl
  generalize hav : ([.ref th, .int (iZ z), .ref ot] : List Value).toArray = args at hts hQ ⊢
  refine lv_aload_n hx hb dL_judge_0 rfl (lv_at hl 2 rfl) ?_
  refine lv_iconst (v := nI 0) hx hb dL_judge_1 (by decide) ?_
  refine lv_aload_n hx hb dL_judge_2 rfl (lv_at hl 0 rfl) ?_
  refine lv_iload_n hx hb dL_judge_3 rfl (lv_at hl 1 rfl) ?_
  refine z_cTVh (wc := [(th, .inr (5, [.ref g, .ref lr, .ref pa, .ref ua, .ref xa, .ref ds, .ref pr, .ref bl, .int (zB est)])), (g, .inr (2, [.ref gf, .ref gt, .ref gw, .int (zB dir), .int (nI nv), .int (nI me)]))]) (rm := ({ frames := 7, cells := 1, slots := 6, locals := 103 } : Room)) (As := [.int (iZ z)]) (rest := [.int (nI 0), .ref ot]) ⟨hx, hb, hml, hown, hts⟩ hsz (c_X5_judge_b l hst D cA sz th lr pa ua xa ds pr bl est g gf gt gw dir nv me z (by first | assumption | omega) (by first | assumption | omega) (by first | assumption | omega)) (cwV 1 hts gL_judge_X5_judge rfl rfl rfl (by decide +kernel) ⟨Nat.le_of_ble_eq_true rfl, Nat.le_of_ble_eq_true rfl⟩) hP hK hG hZ [0, 1] rfl 5 0 rfl rfl rfl hl.1 rfl (Nat.le_of_ble_eq_true rfl) ⟨Nat.le_of_ble_eq_true rfl, Nat.le_of_ble_eq_true rfl⟩ dL_judge_4 [] _ _ htab (fun z hz => by cases hz) rfl (by decide) (hts (.classLink RL 13 "java/lang/IllegalArgumentException") (by decide +kernel)) (by decide +kernel) (fun q9 H locs hS => ?_)
  refine lv_astore_n (lv' := [(3, .ref q9), (0, .ref th), (1, .int (iZ z)), (2, .ref ot)]) hx hb dL_judge_11 rfl hl (by decide) rfl (fun ls hl => ?_)
  refine lv_iconst (v := nI 1) hx hb dL_judge_12 (by decide) ?_
  exact z_iretT hx hb hr hlocks hQ hS dL_judge_13
set_option maxHeartbeats 4000000 in
set_option maxRecDepth 100000 in
/-- L_extra, caught -/
theorem c_L_extra_b (l : Launch) (hst : l.stackTraces = false) (D : va_G) (cA : Nat → ClassId) (sz : Nat) (th : Nat) (lr : Nat) (pa : Nat) (ua : Nat) (xa : Nat) (ds : Nat) (pr : Nat) (bl : Nat) (est : Bool) (g : Nat) (gf : Nat) (gt : Nat) (gw : Nat) (dir : Bool) (nv : Nat) (me : Nat) (z : Int) (ot : Nat) (hz : -2147483648 ≤ z ∧ z < 2147483648) (hme : me ≤ 40) (hbad : z < 0 ∨ (me : Int) ≤ z) : Met l yL_extra wsL_extra ({ frames := 7, cells := 1, slots := 6, locals := 103 } : Room) (zTh D vwCl (zT cA) [(th, .inr (5, [.ref g, .ref lr, .ref pa, .ref ua, .ref xa, .ref ds, .ref pr, .ref bl, .int (zB est)])), (g, .inr (2, [.ref gf, .ref gt, .ref gw, .int (zB dir), .int (nI nv), .int (nI me)]))] sz [.ref th, .int (iZ z), .ref ot]) (zQt (nI 1) sz) 1 6 (fun q => sz ≤ q) := by
  refine z_catches (cc := cL_extra) (maxL := 4) (ret := (some .int)) (by decide) rfl (Nat.le_of_ble_eq_true rfl) ?_
  intro p e s m below meth c hx hb hr hml hown hts hlocks htab hsz hP hK hG hZ Q hQ ls hl
  have hown : s.vm.findClass RL = some m.cls := hown
  have hl : lv_has ls 4 [(0, .ref th), (1, .int (iZ z)), (2, .ref ot)] := hl
  generalize hav : ([.ref th, .int (iZ z), .ref ot] : List Value).toArray = args at hts hQ ⊢
  refine lv_aload_n hx hb dL_extra_0 rfl (lv_at hl 2 rfl) ?_
  refine lv_iconst (v := nI 0) hx hb dL_extra_1 (by decide) ?_
  refine lv_aload_n hx hb dL_extra_2 rfl (lv_at hl 0 rfl) ?_
  refine lv_iload_n hx hb dL_extra_3 rfl (lv_at hl 1 rfl) ?_
  refine z_cTVh (wc := [(th, .inr (5, [.ref g, .ref lr, .ref pa, .ref ua, .ref xa, .ref ds, .ref pr, .ref bl, .int (zB est)])), (g, .inr (2, [.ref gf, .ref gt, .ref gw, .int (zB dir), .int (nI nv), .int (nI me)]))]) (rm := ({ frames := 6, cells := 1, slots := 6, locals := 82 } : Room)) (As := [.int (iZ z)]) (rest := [.int (nI 0), .ref ot]) ⟨hx, hb, hml, hown, hts⟩ hsz (c_X5_extra_b l hst D cA sz th lr pa ua xa ds pr bl est g gf gt gw dir nv me z (by first | assumption | omega) (by first | assumption | omega) (by first | assumption | omega)) (cwV 1 hts gL_extra_X5_extra rfl rfl rfl (by decide +kernel) ⟨Nat.le_of_ble_eq_true rfl, Nat.le_of_ble_eq_true rfl⟩) hP hK hG hZ [0, 1] rfl 5 0 rfl rfl rfl hl.1 rfl (Nat.le_of_ble_eq_true rfl) ⟨Nat.le_of_ble_eq_true rfl, Nat.le_of_ble_eq_true rfl⟩ dL_extra_4 [] _ _ htab (fun z hz => by cases hz) rfl (by decide) (hts (.classLink RL 40 "java/util/NoSuchElementException") (by decide +kernel)) (by decide +kernel) (fun q9 H locs hS => ?_)
  refine lv_astore_n (lv' := [(3, .ref q9), (0, .ref th), (1, .int (iZ z)), (2, .ref ot)]) hx hb dL_extra_12 rfl hl (by decide) rfl (fun ls hl => ?_)
  refine lv_iconst (v := nI 1) hx hb dL_extra_13 (by decide) ?_
  exact z_iretT hx hb hr hlocks hQ hS dL_extra_14
set_option maxHeartbeats 4000000 in
set_option maxRecDepth 100000 in
/-- L_extra, caught -/
theorem c_L_extra_bs (l : Launch) (hst : l.stackTraces = false) (D : va_G) (cA : Nat → ClassId) (sz : Nat) (th : Nat) (lr : Nat) (pa : Nat) (ua : Nat) (xa : Nat) (ds : Nat) (pr : Nat) (bl : Nat) (est : Bool) (g : Nat) (gf : Nat) (gt : Nat) (gw : Nat) (dir : Bool) (nv : Nat) (me : Nat) (k : Nat) (ot : Nat) (hk : k < me) (hme : me ≤ 40) (hes : est = false) : Met l yL_extra wsL_extra ({ frames := 7, cells := 1, slots := 6, locals := 103 } : Room) (zTh D vwCl (zT cA) [(th, .inr (5, [.ref g, .ref lr, .ref pa, .ref ua, .ref xa, .ref ds, .ref pr, .ref bl, .int (zB est)])), (g, .inr (2, [.ref gf, .ref gt, .ref gw, .int (zB dir), .int (nI nv), .int (nI me)]))] sz [.ref th, .int (nI k), .ref ot]) (zQt (nI 2) sz) 1 6 (fun q => sz ≤ q) := by
  refine z_catches (cc := cL_extra) (maxL := 4) (ret := (some .int)) (by decide) rfl (Nat.le_of_ble_eq_true rfl) ?_
  intro p e s m below meth c hx hb hr hml hown hts hlocks htab hsz hP hK hG hZ Q hQ ls hl
  have hown : s.vm.findClass RL = some m.cls := hown
  have hl : lv_has ls 4 [(0, .ref th), (1, .int (nI k)), (2, .ref ot)] := hl
  generalize hav : ([.ref th, .int (nI k), .ref ot] : List Value).toArray = args at hts hQ ⊢
  refine lv_aload_n hx hb dL_extra_0 rfl (lv_at hl 2 rfl) ?_
  refine lv_iconst (v := nI 0) hx hb dL_extra_1 (by decide) ?_
  refine lv_aload_n hx hb dL_extra_2 rfl (lv_at hl 0 rfl) ?_
  refine lv_iload_n hx hb dL_extra_3 rfl (lv_at hl 1 rfl) ?_
  refine z_cTVh (wc := [(th, .inr (5, [.ref g, .ref lr, .ref pa, .ref ua, .ref xa, .ref ds, .ref pr, .ref bl, .int (zB est)])), (g, .inr (2, [.ref gf, .ref gt, .ref gw, .int (zB dir), .int (nI nv), .int (nI me)]))]) (rm := ({ frames := 6, cells := 1, slots := 6, locals := 82 } : Room)) (As := [.int (nI k)]) (rest := [.int (nI 0), .ref ot]) ⟨hx, hb, hml, hown, hts⟩ hsz (c_X5_extra_bs l hst D cA sz th lr pa ua xa ds pr bl est g gf gt gw dir nv me k (by first | assumption | omega) (by first | assumption | omega) (by first | assumption | omega)) (cwV 1 hts gL_extra_X5_extra rfl rfl rfl (by decide +kernel) ⟨Nat.le_of_ble_eq_true rfl, Nat.le_of_ble_eq_true rfl⟩) hP hK hG hZ [0, 1] rfl 5 0 rfl rfl rfl hl.1 rfl (Nat.le_of_ble_eq_true rfl) ⟨Nat.le_of_ble_eq_true rfl, Nat.le_of_ble_eq_true rfl⟩ dL_extra_4 [_] _ _ htab (fun z hz => by cases hz with | head => exact .inr ⟨by decide, _, hts (.classLink RL 40 "java/util/NoSuchElementException") (by decide +kernel), hG.2.2 ("java/lang/IllegalStateException", "java/util/NoSuchElementException") (by decide)⟩ | tail _ h9 => cases h9) rfl (by decide) (hts (.classLink RL 19 "java/lang/IllegalStateException") (by decide +kernel)) (by decide +kernel) (fun q9 H locs hS => ?_)
  refine lv_astore_n (lv' := [(3, .ref q9), (0, .ref th), (1, .int (nI k)), (2, .ref ot)]) hx hb dL_extra_15 rfl hl (by decide) rfl (fun ls hl => ?_)
  refine lv_iconst (v := nI 2) hx hb dL_extra_16 (by decide) ?_
  exact z_iretT hx hb hr hlocks hQ hS dL_extra_17
set_option maxHeartbeats 4000000 in
set_option maxRecDepth 100000 in
/-- L_row, caught -/
theorem c_L_row_b (l : Launch) (hst : l.stackTraces = false) (D : va_G) (cA : Nat → ClassId) (sz : Nat) (th : Nat) (lr : Nat) (pa : Nat) (ua : Nat) (xa : Nat) (ds : Nat) (pr : Nat) (bl : Nat) (est : Bool) (g : Nat) (la : Nat) (ln : Nat) (z : Int) (ot : Nat) (hz : -2147483648 ≤ z ∧ z < 2147483648) (hln : ln ≤ 640) (hbad : z < 0 ∨ (ln : Int) ≤ z) : Met l yL_row wsL_row ({ frames := 7, cells := 1, slots := 6, locals := 103 } : Room) (zTh D vwCl (zT cA) [(th, .inr (5, [.ref g, .ref lr, .ref pa, .ref ua, .ref xa, .ref ds, .ref pr, .ref bl, .int (zB est)])), (lr, .inr (4, [.ref la, .int (nI ln)]))] sz [.ref th, .int (iZ z), .ref ot]) (zQt (nI 1) sz) 1 6 (fun q => sz ≤ q) := by
  refine z_catches (cc := cL_row) (maxL := 4) (ret := (some .int)) (by decide) rfl (Nat.le_of_ble_eq_true rfl) ?_
  intro p e s m below meth c hx hb hr hml hown hts hlocks htab hsz hP hK hG hZ Q hQ ls hl
  have hown : s.vm.findClass RL = some m.cls := hown
  have hl : lv_has ls 4 [(0, .ref th), (1, .int (iZ z)), (2, .ref ot)] := hl
  generalize hav : ([.ref th, .int (iZ z), .ref ot] : List Value).toArray = args at hts hQ ⊢
  refine lv_aload_n hx hb dL_row_0 rfl (lv_at hl 2 rfl) ?_
  refine lv_iconst (v := nI 0) hx hb dL_row_1 (by decide) ?_
  refine lv_aload_n hx hb dL_row_2 rfl (lv_at hl 0 rfl) ?_
  refine lv_iload_n hx hb dL_row_3 rfl (lv_at hl 1 rfl) ?_
  refine z_cTVh (wc := [(th, .inr (5, [.ref g, .ref lr, .ref pa, .ref ua, .ref xa, .ref ds, .ref pr, .ref bl, .int (zB est)])), (lr, .inr (4, [.ref la, .int (nI ln)]))]) (rm := ({ frames := 6, cells := 1, slots := 6, locals := 82 } : Room)) (As := [.int (iZ z)]) (rest := [.int (nI 0), .ref ot]) ⟨hx, hb, hml, hown, hts⟩ hsz (c_X5_row_b l hst D cA sz th lr pa ua xa ds pr bl est g la ln z (by first | assumption | omega) (by first | assumption | omega) (by first | assumption | omega)) (cwV 1 hts gL_row_X5_row rfl rfl rfl (by decide +kernel) ⟨Nat.le_of_ble_eq_true rfl, Nat.le_of_ble_eq_true rfl⟩) hP hK hG hZ [0, 1] rfl 5 0 rfl rfl rfl hl.1 rfl (Nat.le_of_ble_eq_true rfl) ⟨Nat.le_of_ble_eq_true rfl, Nat.le_of_ble_eq_true rfl⟩ dL_row_4 [] _ _ htab (fun z hz => by cases hz) rfl (by decide) (hts (.classLink RL 40 "java/util/NoSuchElementException") (by decide +kernel)) (by decide +kernel) (fun q9 H locs hS => ?_)
  refine lv_astore_n (lv' := [(3, .ref q9), (0, .ref th), (1, .int (iZ z)), (2, .ref ot)]) hx hb dL_row_12 rfl hl (by decide) rfl (fun ls hl => ?_)
  refine lv_iconst (v := nI 1) hx hb dL_row_13 (by decide) ?_
  exact z_iretT hx hb hr hlocks hQ hS dL_row_14
set_option maxHeartbeats 4000000 in
set_option maxRecDepth 100000 in
/-- L_step, caught -/
theorem c_L_step_b (l : Launch) (hst : l.stackTraces = false) (D : va_G) (cA : Nat → ClassId) (sz : Nat) (th : Nat) (lr : Nat) (pa : Nat) (ua : Nat) (xa : Nat) (ds : Nat) (pr : Nat) (bl : Nat) (est : Bool) (g : Nat) (pb : Nat) (pn : Nat) (Pz : Nat → Int) (z : Int) (ot : Nat) (hpn : pn = 1000) : Met l yL_step wsL_step ({ frames := 7, cells := 1, slots := 6, locals := 103 } : Room) (zTh D vwCl (zT cA) [(th, .inr (5, [.ref g, .ref lr, .ref pa, .ref ua, .ref xa, .ref ds, .ref pr, .ref bl, .int (zB est)])), (pa, .inr (4, [.ref pb, .int (nI pn)])), (pb, aI cA 1000 (fun j => iZ (Pz j)))] sz [.ref th, .int (iZ z), .ref ot]) (zQt (nI 1) sz) 1 6 (fun q => sz ≤ q) := by
  refine z_catches (cc := cL_step) (maxL := 4) (ret := (some .int)) (by decide) rfl (Nat.le_of_ble_eq_true rfl) ?_
  intro p e s m below meth c hx hb hr hml hown hts hlocks htab hsz hP hK hG hZ Q hQ ls hl
  have hown : s.vm.findClass RL = some m.cls := hown
  have hl : lv_has ls 4 [(0, .ref th), (1, .int (iZ z)), (2, .ref ot)] := hl
  generalize hav : ([.ref th, .int (iZ z), .ref ot] : List Value).toArray = args at hts hQ ⊢
  refine lv_aload_n hx hb dL_step_0 rfl (lv_at hl 2 rfl) ?_
  refine lv_iconst (v := nI 0) hx hb dL_step_1 (by decide) ?_
  refine lv_aload_n hx hb dL_step_2 rfl (lv_at hl 0 rfl) ?_
  refine lv_iload_n hx hb dL_step_3 rfl (lv_at hl 1 rfl) ?_
  refine z_cTVh (wc := [(th, .inr (5, [.ref g, .ref lr, .ref pa, .ref ua, .ref xa, .ref ds, .ref pr, .ref bl, .int (zB est)])), (pa, .inr (4, [.ref pb, .int (nI pn)])), (pb, aI cA 1000 (fun j => iZ (Pz j)))]) (rm := ({ frames := 6, cells := 1, slots := 6, locals := 82 } : Room)) (As := [.int (iZ z)]) (rest := [.int (nI 0), .ref ot]) ⟨hx, hb, hml, hown, hts⟩ hsz (c_X5_step_b l hst D cA sz th lr pa ua xa ds pr bl est g pb pn Pz z (by first | assumption | omega)) (cwV 1 hts gL_step_X5_step rfl rfl rfl (by decide +kernel) ⟨Nat.le_of_ble_eq_true rfl, Nat.le_of_ble_eq_true rfl⟩) hP hK hG hZ [0, 1, 2] rfl 5 0 rfl rfl rfl hl.1 rfl (Nat.le_of_ble_eq_true rfl) ⟨Nat.le_of_ble_eq_true rfl, Nat.le_of_ble_eq_true rfl⟩ dL_step_4 [] _ _ htab (fun z hz => by cases hz) rfl (by decide) (hts (.classLink RL 19 "java/lang/IllegalStateException") (by decide +kernel)) (by decide +kernel) (fun q9 H locs hS => ?_)
  refine lv_astore_n (lv' := [(3, .ref q9), (0, .ref th), (1, .int (iZ z)), (2, .ref ot)]) hx hb dL_step_12 rfl hl (by decide) rfl (fun ls hl => ?_)
  refine lv_iconst (v := nI 1) hx hb dL_step_13 (by decide) ?_
  exact z_iretT hx hb hr hlocks hQ hS dL_step_14
set_option maxHeartbeats 4000000 in
set_option maxRecDepth 100000 in
/-- L_look, caught -/
theorem c_L_look_b (l : Launch) (hst : l.stackTraces = false) (D : va_G) (cA : Nat → ClassId) (sz : Nat) (th : Nat) (lr : Nat) (pa : Nat) (ua : Nat) (xa : Nat) (ds : Nat) (pr : Nat) (bl : Nat) (est : Bool) (g : Nat) (z : Int) (ot : Nat) (hz : -2147483648 ≤ z ∧ z < 2147483648) (hbad : z < 0 ∨ 8 < z) : Met l yL_look wsL_look ({ frames := 7, cells := 1, slots := 6, locals := 103 } : Room) (zTh D vwCl (zT cA) [(th, .inr (5, [.ref g, .ref lr, .ref pa, .ref ua, .ref xa, .ref ds, .ref pr, .ref bl, .int (zB est)]))] sz [.ref th, .int (iZ z), .ref ot]) (zQt (nI 1) sz) 1 6 (fun q => sz ≤ q) := by
  refine z_catches (cc := cL_look) (maxL := 4) (ret := (some .int)) (by decide) rfl (Nat.le_of_ble_eq_true rfl) ?_
  intro p e s m below meth c hx hb hr hml hown hts hlocks htab hsz hP hK hG hZ Q hQ ls hl
  have hown : s.vm.findClass RL = some m.cls := hown
  have hl : lv_has ls 4 [(0, .ref th), (1, .int (iZ z)), (2, .ref ot)] := hl
  generalize hav : ([.ref th, .int (iZ z), .ref ot] : List Value).toArray = args at hts hQ ⊢
  refine lv_aload_n hx hb dL_look_0 rfl (lv_at hl 2 rfl) ?_
  refine lv_iconst (v := nI 0) hx hb dL_look_1 (by decide) ?_
  refine lv_aload_n hx hb dL_look_2 rfl (lv_at hl 0 rfl) ?_
  refine lv_iload_n hx hb dL_look_3 rfl (lv_at hl 1 rfl) ?_
  refine z_cTVh (wc := [(th, .inr (5, [.ref g, .ref lr, .ref pa, .ref ua, .ref xa, .ref ds, .ref pr, .ref bl, .int (zB est)]))]) (rm := ({ frames := 6, cells := 1, slots := 6, locals := 82 } : Room)) (As := [.int (iZ z)]) (rest := [.int (nI 0), .ref ot]) ⟨hx, hb, hml, hown, hts⟩ hsz (c_X5_look_b l hst D cA sz th lr pa ua xa ds pr bl est g z (by first | assumption | omega) (by first | assumption | omega)) (cwV 1 hts gL_look_X5_look rfl rfl rfl (by decide +kernel) ⟨Nat.le_of_ble_eq_true rfl, Nat.le_of_ble_eq_true rfl⟩) hP hK hG hZ [0] rfl 5 0 rfl rfl rfl hl.1 rfl (Nat.le_of_ble_eq_true rfl) ⟨Nat.le_of_ble_eq_true rfl, Nat.le_of_ble_eq_true rfl⟩ dL_look_4 [] _ _ htab (fun z hz => by cases hz) rfl (by decide) (hts (.classLink RL 13 "java/lang/IllegalArgumentException") (by decide +kernel)) (by decide +kernel) (fun q9 H locs hS => ?_)
  refine lv_astore_n (lv' := [(3, .ref q9), (0, .ref th), (1, .int (iZ z)), (2, .ref ot)]) hx hb dL_look_12 rfl hl (by decide) rfl (fun ls hl => ?_)
  refine lv_iconst (v := nI 1) hx hb dL_look_13 (by decide) ?_
  exact z_iretT hx hb hr hlocks hQ hS dL_look_14
