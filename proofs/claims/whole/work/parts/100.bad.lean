theorem zB_60 : ∀ w ∈ (vx_atS RX5 64 "java/lang/IllegalArgumentException" ["java/lang/RuntimeException", "java/lang/Exception"]).filter (fun w => !goodWord w), w ∈ zGw := by decide +kernel
theorem zg_60 : ∀ w ∈ Cond.classLink RX5 60 "java/lang/IllegalArgumentException" :: Cond.initialized "java/lang/IllegalArgumentException" :: vx_atS RX5 64 "java/lang/IllegalArgumentException" ["java/lang/RuntimeException", "java/lang/Exception"], vx_ot w = true := by decide +kernel
theorem zB_84 : ∀ w ∈ (vx_atS RX5 88 "java/lang/IllegalStateException" ["java/lang/RuntimeException", "java/lang/Exception"]).filter (fun w => !goodWord w), w ∈ zGw := by decide +kernel
theorem zg_84 : ∀ w ∈ Cond.classLink RX5 84 "java/lang/IllegalStateException" :: Cond.initialized "java/lang/IllegalStateException" :: vx_atS RX5 88 "java/lang/IllegalStateException" ["java/lang/RuntimeException", "java/lang/Exception"], vx_ot w = true := by decide +kernel
set_option maxHeartbeats 4000000 in
set_option maxRecDepth 100000 in
/-- TourHouse.requireVertex: there is such a vertex (nothing is written) -/
theorem c_X5_requireVertex_r (l : Launch) (D : va_G) (cA : Nat → ClassId) (th : Nat) (lr : Nat) (pa : Nat) (ua : Nat) (xa : Nat) (ds : Nat) (pr : Nat) (bl : Nat) (est : Bool) (g : Nat) (gf : Nat) (gt : Nat) (gw : Nat) (dir : Bool) (nv : Nat) (me : Nat) (v : Nat) (hv : v < nv) (hnv : nv ≤ 16) : Met l yX5_requireVertex wsX5_requireVertex ({ frames := 0, cells := 0, slots := 0, locals := 0 } : Room) (zRd D vwCl (zT cA) [(th, .inr (5, [.ref g, .ref lr, .ref pa, .ref ua, .ref xa, .ref ds, .ref pr, .ref bl, .int (zB est)])), (g, .inr (2, [.ref gf, .ref gt, .ref gw, .int (zB dir), .int (nI nv), .int (nI me)]))] [.ref th, .int (nI v)]) zSv 0 0 (fun _ => False) := by
  refine z_read (cc := cX5_requireVertex) (maxL := 2) (ret := none) (by decide) rfl (Nat.le_of_ble_eq_true rfl) ?_
  intro p e s m below meth c hx hb hr hml hown hts hlocks hP hK Q hQ ls hl
  have hown : s.vm.findClass RX5 = some m.cls := hown
  have hl : lv_has ls 2 [(0, .ref th), (1, .int (nI v))] := hl
  generalize hav : ([.ref th, .int (nI v)] : List Value).toArray = args at hts hQ ⊢
  have hin2 : ∀ w ∈ wsX20, w ∈ wsX5_requireVertex := by decide +kernel
  have hin5 : ∀ w ∈ wsX50, w ∈ wsX5_requireVertex := by decide +kernel
  refine lv_iload_n hx hb dX5_requireVertex_0 rfl (lv_at hl 1 rfl) ?_
  refine z_nlt hx hb (by omega) (tgt := 15) dX5_requireVertex_1 (by decide) (fun h1 => ?_) (fun h1 => ?_)
  · omega
  · skip
    refine lv_iload_n hx hb dX5_requireVertex_4 rfl (lv_at hl 1 rfl) ?_
    refine lv_aload_n hx hb dX5_requireVertex_5 rfl (lv_at hl 0 rfl) ?_
    refine va_get (D := D) (ci := 5) (v := .ref g) (C := RX5) (T := TX5) (N := 9) hx hb hts hin5 hown hK hP 0 rfl rfl 0 (by decide) (hts (.fieldLink RX5 12 "TourHouse" "graph" "LTourHouse$Graph;") (by decide +kernel)) (fun _ h9 => h9) rfl dX5_requireVertex_6 ?_
    refine va_get (D := D) (ci := 2) (v := .int (nI nv)) (C := RX2) (T := TX2) (N := 6) hx hb hts hin2 hown hK hP 1 rfl rfl 4 (by decide) (hts (.fieldLink RX5 166 "TourHouse$Graph" "vertices" "I") (by decide +kernel)) (fun _ h9 => h9) rfl dX5_requireVertex_9 ?_
    refine z_lt hx hb (by omega) (by omega) (tgt := 25) dX5_requireVertex_12 (by decide) (fun h12 => ?_) (fun h12 => ?_)
    · skip
      exact z_vretR hx hb hr hlocks hQ dX5_requireVertex_25 rfl rfl
    · omega
set_option maxHeartbeats 4000000 in
set_option maxRecDepth 100000 in
/-- TourHouse.requireVertex: there is none -/
theorem c_X5_requireVertex_b (l : Launch) (hst : l.stackTraces = false) (D : va_G) (cA : Nat → ClassId) (sz : Nat) (th : Nat) (lr : Nat) (pa : Nat) (ua : Nat) (xa : Nat) (ds : Nat) (pr : Nat) (bl : Nat) (est : Bool) (g : Nat) (gf : Nat) (gt : Nat) (gw : Nat) (dir : Bool) (nv : Nat) (me : Nat) (z : Int) (hz : -2147483648 ≤ z ∧ z < 2147483648) (hnv : nv ≤ 16) (hbad : z < 0 ∨ (nv : Int) ≤ z) : vx_Met l yX5_requireVertex wsX5_requireVertex ({ frames := 6, cells := 1, slots := 6, locals := 82 } : Room) (zTh D vwCl (zT cA) [(th, .inr (5, [.ref g, .ref lr, .ref pa, .ref ua, .ref xa, .ref ds, .ref pr, .ref bl, .int (zB est)])), (g, .inr (2, [.ref gf, .ref gt, .ref gw, .int (zB dir), .int (nI nv), .int (nI me)]))] sz [.ref th, .int (iZ z)]) zNo (zXt "java/lang/IllegalArgumentException" sz) 1 6 (fun q => sz ≤ q) := by
  refine z_throws (cc := cX5_requireVertex) (maxL := 2) (ret := none) (by decide) rfl (Nat.le_of_ble_eq_true rfl) ?_
  intro p e s m below meth c hx hb hr hml hown hts hlocks hh hsz hP hK hG hZ Q hQ ls hl
  have hown : s.vm.findClass RX5 = some m.cls := hown
  have hl : lv_has ls 2 [(0, .ref th), (1, .int (iZ z))] := hl
  generalize hav : ([.ref th, .int (iZ z)] : List Value).toArray = args at hts hQ ⊢
  have hin2 : ∀ w ∈ wsX20, w ∈ wsX5_requireVertex := by decide +kernel
  have hin5 : ∀ w ∈ wsX50, w ∈ wsX5_requireVertex := by decide +kernel
  refine lv_iload_n hx hb dX5_requireVertex_0 rfl (lv_at hl 1 rfl) ?_
  refine z_ilt hx hb (x := z) (⟨by omega, by omega⟩) (tgt := 15) dX5_requireVertex_1 (by decide) (fun h1 => ?_) (fun h1 => ?_)
  · skip
    exact z_thrS (text := "there is no such vertex") hx hb hst hown hts (by decide +kernel) zB_60 zg_60 (by decide +kernel) (by decide +kernel) (by decide +kernel) hsz hG hZ hh hlocks (hl.1.trans hml.symm) dX5_requireVertex_15 dX5_requireVertex_18 dX5_requireVertex_19 dX5_requireVertex_21 dX5_requireVertex_24 (Nat.le_of_ble_eq_true rfl) (Nat.le_of_ble_eq_true rfl) (Nat.le_of_ble_eq_true rfl) (Nat.le_of_ble_eq_true rfl) hQ
  · skip
    refine lv_iload_n hx hb dX5_requireVertex_4 rfl (lv_at hl 1 rfl) ?_
    refine lv_aload_n hx hb dX5_requireVertex_5 rfl (lv_at hl 0 rfl) ?_
    refine va_get (D := D) (ci := 5) (v := .ref g) (C := RX5) (T := TX5) (N := 9) hx hb hts hin5 hown hK hP 0 rfl rfl 0 (by decide) (hts (.fieldLink RX5 12 "TourHouse" "graph" "LTourHouse$Graph;") (by decide +kernel)) (fun _ h9 => h9) rfl dX5_requireVertex_6 ?_
    refine va_get (D := D) (ci := 2) (v := .int (nI nv)) (C := RX2) (T := TX2) (N := 6) hx hb hts hin2 hown hK hP 1 rfl rfl 4 (by decide) (hts (.fieldLink RX5 166 "TourHouse$Graph" "vertices" "I") (by decide +kernel)) (fun _ h9 => h9) rfl dX5_requireVertex_9 ?_
    refine z_Ilt hx hb (x := z) (y := ((nv : Nat) : Int)) (⟨by omega, by omega⟩) (⟨by omega, by omega⟩) (tgt := 25) dX5_requireVertex_12 (by decide) (fun h12 => ?_) (fun h12 => ?_)
    · omega
    · skip
      exact z_thrS (text := "there is no such vertex") hx hb hst hown hts (by decide +kernel) zB_60 zg_60 (by decide +kernel) (by decide +kernel) (by decide +kernel) hsz hG hZ hh hlocks (hl.1.trans hml.symm) dX5_requireVertex_15 dX5_requireVertex_18 dX5_requireVertex_19 dX5_requireVertex_21 dX5_requireVertex_24 (Nat.le_of_ble_eq_true rfl) (Nat.le_of_ble_eq_true rfl) (Nat.le_of_ble_eq_true rfl) (Nat.le_of_ble_eq_true rfl) hQ
set_option maxHeartbeats 4000000 in
set_option maxRecDepth 100000 in
/-- TourHouse.reset, refused -/
theorem c_X5_reset_b (l : Launch) (hst : l.stackTraces = false) (D : va_G) (cA : Nat → ClassId) (sz : Nat) (th : Nat) (lr : Nat) (pa : Nat) (ua : Nat) (xa : Nat) (ds : Nat) (pr : Nat) (bl : Nat) (est : Bool) (g : Nat) (gf : Nat) (gt : Nat) (gw : Nat) (dir : Bool) (nv : Nat) (me : Nat) (d2 : Bool) (z : Int) (hz : -2147483648 ≤ z ∧ z < 2147483648) (hbad : z < 1 ∨ 16 < z) : vx_Met l yX5_reset wsX5_reset ({ frames := 6, cells := 1, slots := 6, locals := 82 } : Room) (zTh D vwCl (zT cA) [(th, .inr (5, [.ref g, .ref lr, .ref pa, .ref ua, .ref xa, .ref ds, .ref pr, .ref bl, .int (zB est)])), (g, .inr (2, [.ref gf, .ref gt, .ref gw, .int (zB dir), .int (nI nv), .int (nI me)]))] sz [.ref th, .int (zB d2), .int (iZ z)]) zNo (zXt "java/lang/IllegalArgumentException" sz) 1 6 (fun q => sz ≤ q) := by
  refine z_throws (cc := cX5_reset) (maxL := 4) (ret := (some .int)) (by decide) rfl (Nat.le_of_ble_eq_true rfl) ?_
  intro p e s m below meth c hx hb hr hml hown hts hlocks hh hsz hP hK hG hZ Q hQ ls hl
  have hown : s.vm.findClass RX5 = some m.cls := hown
  have hl : lv_has ls 4 [(0, .ref th), (1, .int (zB d2)), (2, .int (iZ z))] := hl
  generalize hav : ([.ref th, .int (zB d2), .int (iZ z)] : List Value).toArray = args at hts hQ ⊢
  have hin2 : ∀ w ∈ wsX20, w ∈ wsX5_reset := by decide +kernel
  have hin5 : ∀ w ∈ wsX50, w ∈ wsX5_reset := by decide +kernel
  refine lv_iload_n hx hb dX5_reset_0 rfl (lv_at hl 2 rfl) ?_
  refine lv_iconst (v := nI 1) hx hb dX5_reset_1 (by decide) ?_
  refine z_Ilt hx hb (x := z) (y := ((1 : Nat) : Int)) (⟨by omega, by omega⟩) (⟨by omega, by omega⟩) (tgt := 11) dX5_reset_2 (by decide) (fun h2 => ?_) (fun h2 => ?_)
  · skip
    exact z_thrS (text := "a graph has 1 to 16 vertices") hx hb hst hown hts (by decide +kernel) zB_60 zg_60 (by decide +kernel) (by decide +kernel) (by decide +kernel) hsz hG hZ hh hlocks (hl.1.trans hml.symm) dX5_reset_11 dX5_reset_14 dX5_reset_15 dX5_reset_17 dX5_reset_20 (Nat.le_of_ble_eq_true rfl) (Nat.le_of_ble_eq_true rfl) (Nat.le_of_ble_eq_true rfl) (Nat.le_of_ble_eq_true rfl) hQ
  · skip
    refine lv_iload_n hx hb dX5_reset_5 rfl (lv_at hl 2 rfl) ?_
    refine lv_bipush (v := nI 16) hx hb dX5_reset_6 (by decide) ?_
    refine z_Ile hx hb (x := z) (y := ((16 : Nat) : Int)) (⟨by omega, by omega⟩) (⟨by omega, by omega⟩) (tgt := 21) dX5_reset_8 (by decide) (fun h8 => ?_) (fun h8 => ?_)
    · omega
    · skip
      exact z_thrS (text := "a graph has 1 to 16 vertices") hx hb hst hown hts (by decide +kernel) zB_60 zg_60 (by decide +kernel) (by decide +kernel) (by decide +kernel) hsz hG hZ hh hlocks (hl.1.trans hml.symm) dX5_reset_11 dX5_reset_14 dX5_reset_15 dX5_reset_17 dX5_reset_20 (Nat.le_of_ble_eq_true rfl) (Nat.le_of_ble_eq_true rfl) (Nat.le_of_ble_eq_true rfl) (Nat.le_of_ble_eq_true rfl) hQ
set_option maxHeartbeats 4000000 in
set_option maxRecDepth 100000 in
/-- TourHouse.edge: no vertex a -/
theorem c_X5_edge_ba (l : Launch) (hst : l.stackTraces = false) (D : va_G) (cA : Nat → ClassId) (sz : Nat) (th : Nat) (lr : Nat) (pa : Nat) (ua : Nat) (xa : Nat) (ds : Nat) (pr : Nat) (bl : Nat) (est : Bool) (g : Nat) (gf : Nat) (gt : Nat) (gw : Nat) (dir : Bool) (nv : Nat) (me : Nat) (z : Int) (b : Int) (w : Int) (hz : -2147483648 ≤ z ∧ z < 2147483648) (hnv : nv ≤ 16) (hbad : z < 0 ∨ (nv : Int) ≤ z) : vx_Met l yX5_edge wsX5_edge ({ frames := 7, cells := 1, slots := 6, locals := 103 } : Room) (zTh D vwCl (zT cA) [(th, .inr (5, [.ref g, .ref lr, .ref pa, .ref ua, .ref xa, .ref ds, .ref pr, .ref bl, .int (zB est)])), (g, .inr (2, [.ref gf, .ref gt, .ref gw, .int (zB dir), .int (nI nv), .int (nI me)]))] sz [.ref th, .int (iZ z), .int (iZ b), .int (iZ w)]) zNo (zXt "java/lang/IllegalArgumentException" sz) 1 6 (fun q => sz ≤ q) := by
  refine z_throws (cc := cX5_edge) (maxL := 4) (ret := (some .int)) (by decide) rfl (Nat.le_of_ble_eq_true rfl) ?_
  intro p e s m below meth c hx hb hr hml hown hts hlocks hh hsz hP hK hG hZ Q hQ ls hl
  have hown : s.vm.findClass RX5 = some m.cls := hown
  have hl : lv_has ls 4 [(0, .ref th), (1, .int (iZ z)), (2, .int (iZ b)), (3, .int (iZ w))] := hl
  generalize hav : ([.ref th, .int (iZ z), .int (iZ b), .int (iZ w)] : List Value).toArray = args at hts hQ ⊢
  have hin2 : ∀ w ∈ wsX20, w ∈ wsX5_edge := by decide +kernel
  have hin5 : ∀ w ∈ wsX50, w ∈ wsX5_edge := by decide +kernel
  refine lv_aload_n hx hb dX5_edge_0 rfl (lv_at hl 0 rfl) ?_
  refine lv_iload_n hx hb dX5_edge_1 rfl (lv_at hl 1 rfl) ?_
  exact z_cTVo (wc := [(th, .inr (5, [.ref g, .ref lr, .ref pa, .ref ua, .ref xa, .ref ds, .ref pr, .ref bl, .int (zB est)])), (g, .inr (2, [.ref gf, .ref gt, .ref gw, .int (zB dir), .int (nI nv), .int (nI me)]))]) (rm := ({ frames := 6, cells := 1, slots := 6, locals := 82 } : Room)) (As := [.int (iZ z)]) (rest := []) ⟨hx, hb, hml, hown, hts⟩ hsz (c_X5_requireVertex_b l hst D cA sz th lr pa ua xa ds pr bl est g gf gt gw dir nv me z (by first | assumption | omega) (by first | assumption | omega) (by first | assumption | omega)) (cwV 1 hts gX5_edge_X5_requireVertex rfl rfl rfl (by decide +kernel) ⟨Nat.le_of_ble_eq_true rfl, Nat.le_of_ble_eq_true rfl⟩) hP hK hG hZ [0, 1] rfl 5 0 rfl rfl rfl hl.1 rfl (Nat.le_of_ble_eq_true rfl) ⟨Nat.le_of_ble_eq_true rfl, Nat.le_of_ble_eq_true rfl⟩ hh hlocks hQ dX5_edge_2
set_option maxHeartbeats 4000000 in
set_option maxRecDepth 100000 in
/-- TourHouse.edge: no vertex b -/
theorem c_X5_edge_bb (l : Launch) (hst : l.stackTraces = false) (D : va_G) (cA : Nat → ClassId) (sz : Nat) (th : Nat) (lr : Nat) (pa : Nat) (ua : Nat) (xa : Nat) (ds : Nat) (pr : Nat) (bl : Nat) (est : Bool) (g : Nat) (gf : Nat) (gt : Nat) (gw : Nat) (dir : Bool) (nv : Nat) (me : Nat) (a : Nat) (z : Int) (w : Int) (ha : a < nv) (hz : -2147483648 ≤ z ∧ z < 2147483648) (hnv : nv ≤ 16) (hbad : z < 0 ∨ (nv : Int) ≤ z) : vx_Met l yX5_edge wsX5_edge ({ frames := 7, cells := 1, slots := 6, locals := 103 } : Room) (zTh D vwCl (zT cA) [(th, .inr (5, [.ref g, .ref lr, .ref pa, .ref ua, .ref xa, .ref ds, .ref pr, .ref bl, .int (zB est)])), (g, .inr (2, [.ref gf, .ref gt, .ref gw, .int (zB dir), .int (nI nv), .int (nI me)]))] sz [.ref th, .int (nI a), .int (iZ z), .int (iZ w)]) zNo (zXt "java/lang/IllegalArgumentException" sz) 1 6 (fun q => sz ≤ q) := by
  refine z_throws (cc := cX5_edge) (maxL := 4) (ret := (some .int)) (by decide) rfl (Nat.le_of_ble_eq_true rfl) ?_
  intro p e s m below meth c hx hb hr hml hown hts hlocks hh hsz hP hK hG hZ Q hQ ls hl
  have hown : s.vm.findClass RX5 = some m.cls := hown
  have hl : lv_has ls 4 [(0, .ref th), (1, .int (nI a)), (2, .int (iZ z)), (3, .int (iZ w))] := hl
  generalize hav : ([.ref th, .int (nI a), .int (iZ z), .int (iZ w)] : List Value).toArray = args at hts hQ ⊢
  have hin2 : ∀ w ∈ wsX20, w ∈ wsX5_edge := by decide +kernel
  have hin5 : ∀ w ∈ wsX50, w ∈ wsX5_edge := by decide +kernel
  refine lv_aload_n hx hb dX5_edge_0 rfl (lv_at hl 0 rfl) ?_
  refine lv_iload_n hx hb dX5_edge_1 rfl (lv_at hl 1 rfl) ?_
  refine z_cRVv (wc := [(th, .inr (5, [.ref g, .ref lr, .ref pa, .ref ua, .ref xa, .ref ds, .ref pr, .ref bl, .int (zB est)])), (g, .inr (2, [.ref gf, .ref gt, .ref gw, .int (zB dir), .int (nI nv), .int (nI me)]))]) (rm := ({ frames := 0, cells := 0, slots := 0, locals := 0 } : Room)) (As := [.int (nI a)]) (rest := []) ⟨hx, hb, hml, hown, hts⟩ (c_X5_requireVertex_r l D cA th lr pa ua xa ds pr bl est g gf gt gw dir nv me a (by first | assumption | omega) (by first | assumption | omega)) (cwV 1 hts gX5_edge_X5_requireVertex rfl rfl rfl (by decide +kernel) ⟨Nat.le_of_ble_eq_true rfl, Nat.le_of_ble_eq_true rfl⟩) hP hK [0, 1] rfl 5 0 rfl rfl rfl hl.1 rfl (Nat.le_of_ble_eq_true rfl) ⟨Nat.zero_le _, Nat.zero_le _⟩ dX5_edge_2 ?_
  refine lv_aload_n hx hb dX5_edge_5 rfl (lv_at hl 0 rfl) ?_
  refine lv_iload_n hx hb dX5_edge_6 rfl (lv_at hl 2 rfl) ?_
  exact z_cTVo (wc := [(th, .inr (5, [.ref g, .ref lr, .ref pa, .ref ua, .ref xa, .ref ds, .ref pr, .ref bl, .int (zB est)])), (g, .inr (2, [.ref gf, .ref gt, .ref gw, .int (zB dir), .int (nI nv), .int (nI me)]))]) (rm := ({ frames := 6, cells := 1, slots := 6, locals := 82 } : Room)) (As := [.int (iZ z)]) (rest := []) ⟨hx, hb, hml, hown, hts⟩ hsz (c_X5_requireVertex_b l hst D cA sz th lr pa ua xa ds pr bl est g gf gt gw dir nv me z (by first | assumption | omega) (by first | assumption | omega) (by first | assumption | omega)) (cwV 1 hts gX5_edge_X5_requireVertex rfl rfl rfl (by decide +kernel) ⟨Nat.le_of_ble_eq_true rfl, Nat.le_of_ble_eq_true rfl⟩) hP hK hG hZ [0, 1] rfl 5 0 rfl rfl rfl hl.1 rfl (Nat.le_of_ble_eq_true rfl) ⟨Nat.le_of_ble_eq_true rfl, Nat.le_of_ble_eq_true rfl⟩ hh hlocks hQ dX5_edge_7
set_option maxHeartbeats 4000000 in
set_option maxRecDepth 100000 in
/-- TourHouse.edge: no such weight -/
theorem c_X5_edge_bw (l : Launch) (hst : l.stackTraces = false) (D : va_G) (cA : Nat → ClassId) (sz : Nat) (th : Nat) (lr : Nat) (pa : Nat) (ua : Nat) (xa : Nat) (ds : Nat) (pr : Nat) (bl : Nat) (est : Bool) (g : Nat) (gf : Nat) (gt : Nat) (gw : Nat) (dir : Bool) (nv : Nat) (me : Nat) (a : Nat) (b : Nat) (z : Int) (ha : a < nv) (hb : b < nv) (hz : -2147483648 ≤ z ∧ z < 2147483648) (hnv : nv ≤ 16) (hbad : z < 0 ∨ 1000000000 < z) : vx_Met l yX5_edge wsX5_edge ({ frames := 6, cells := 1, slots := 6, locals := 82 } : Room) (zTh D vwCl (zT cA) [(th, .inr (5, [.ref g, .ref lr, .ref pa, .ref ua, .ref xa, .ref ds, .ref pr, .ref bl, .int (zB est)])), (g, .inr (2, [.ref gf, .ref gt, .ref gw, .int (zB dir), .int (nI nv), .int (nI me)]))] sz [.ref th, .int (nI a), .int (nI b), .int (iZ z)]) zNo (zXt "java/lang/IllegalArgumentException" sz) 1 6 (fun q => sz ≤ q) := by
  refine z_throws (cc := cX5_edge) (maxL := 4) (ret := (some .int)) (by decide) rfl (Nat.le_of_ble_eq_true rfl) ?_
  intro p e s m below meth c hx hb hr hml hown hts hlocks hh hsz hP hK hG hZ Q hQ ls hl
  have hown : s.vm.findClass RX5 = some m.cls := hown
  have hl : lv_has ls 4 [(0, .ref th), (1, .int (nI a)), (2, .int (nI b)), (3, .int (iZ z))] := hl
  generalize hav : ([.ref th, .int (nI a), .int (nI b), .int (iZ z)] : List Value).toArray = args at hts hQ ⊢
  have hin2 : ∀ w ∈ wsX20, w ∈ wsX5_edge := by decide +kernel
  have hin5 : ∀ w ∈ wsX50, w ∈ wsX5_edge := by decide +kernel
  refine lv_aload_n hx hb dX5_edge_0 rfl (lv_at hl 0 rfl) ?_
  refine lv_iload_n hx hb dX5_edge_1 rfl (lv_at hl 1 rfl) ?_
  refine z_cRVv (wc := [(th, .inr (5, [.ref g, .ref lr, .ref pa, .ref ua, .ref xa, .ref ds, .ref pr, .ref bl, .int (zB est)])), (g, .inr (2, [.ref gf, .ref gt, .ref gw, .int (zB dir), .int (nI nv), .int (nI me)]))]) (rm := ({ frames := 0, cells := 0, slots := 0, locals := 0 } : Room)) (As := [.int (nI a)]) (rest := []) ⟨hx, hb, hml, hown, hts⟩ (c_X5_requireVertex_r l D cA th lr pa ua xa ds pr bl est g gf gt gw dir nv me a (by first | assumption | omega) (by first | assumption | omega)) (cwV 1 hts gX5_edge_X5_requireVertex rfl rfl rfl (by decide +kernel) ⟨Nat.le_of_ble_eq_true rfl, Nat.le_of_ble_eq_true rfl⟩) hP hK [0, 1] rfl 5 0 rfl rfl rfl hl.1 rfl (Nat.le_of_ble_eq_true rfl) ⟨Nat.zero_le _, Nat.zero_le _⟩ dX5_edge_2 ?_
  refine lv_aload_n hx hb dX5_edge_5 rfl (lv_at hl 0 rfl) ?_
  refine lv_iload_n hx hb dX5_edge_6 rfl (lv_at hl 2 rfl) ?_
  refine z_cRVv (wc := [(th, .inr (5, [.ref g, .ref lr, .ref pa, .ref ua, .ref xa, .ref ds, .ref pr, .ref bl, .int (zB est)])), (g, .inr (2, [.ref gf, .ref gt, .ref gw, .int (zB dir), .int (nI nv), .int (nI me)]))]) (rm := ({ frames := 0, cells := 0, slots := 0, locals := 0 } : Room)) (As := [.int (nI b)]) (rest := []) ⟨hx, hb, hml, hown, hts⟩ (c_X5_requireVertex_r l D cA th lr pa ua xa ds pr bl est g gf gt gw dir nv me b (by first | assumption | omega) (by first | assumption | omega)) (cwV 1 hts gX5_edge_X5_requireVertex rfl rfl rfl (by decide +kernel) ⟨Nat.le_of_ble_eq_true rfl, Nat.le_of_ble_eq_true rfl⟩) hP hK [0, 1] rfl 5 0 rfl rfl rfl hl.1 rfl (Nat.le_of_ble_eq_true rfl) ⟨Nat.zero_le _, Nat.zero_le _⟩ dX5_edge_7 ?_
  refine lv_iload_n hx hb dX5_edge_10 rfl (lv_at hl 3 rfl) ?_
  refine z_ilt hx hb (x := z) (⟨by omega, by omega⟩) (tgt := 20) dX5_edge_11 (by decide) (fun h11 => ?_) (fun h11 => ?_)
  · skip
    exact z_thrS (text := "a weight is 0 to 1000000000") hx hb hst hown hts (by decide +kernel) zB_60 zg_60 (by decide +kernel) (by decide +kernel) (by decide +kernel) hsz hG hZ hh hlocks (hl.1.trans hml.symm) dX5_edge_20 dX5_edge_23 dX5_edge_24 dX5_edge_26 dX5_edge_29 (Nat.le_of_ble_eq_true rfl) (Nat.le_of_ble_eq_true rfl) (Nat.le_of_ble_eq_true rfl) (Nat.le_of_ble_eq_true rfl) hQ
  · skip
    refine lv_iload_n hx hb dX5_edge_14 rfl (lv_at hl 3 rfl) ?_
    refine W.ldc (v := 1000000000) hx hb hown (hts (.constant RX5 81 (1000000000)) (by decide +kernel)) rfl dX5_edge_15 ?_
    refine W.eq (g2 := F0 m 17 ls [.int (1000000000), .int (iZ z)]) rfl ?_
    refine z_topi (v := nI 1000000000) (by decide) ?_
    refine z_Ile hx hb (x := z) (y := ((1000000000 : Nat) : Int)) (⟨by omega, by omega⟩) (⟨by omega, by omega⟩) (tgt := 30) dX5_edge_17 (by decide) (fun h17 => ?_) (fun h17 => ?_)
    · omega
    · skip
      exact z_thrS (text := "a weight is 0 to 1000000000") hx hb hst hown hts (by decide +kernel) zB_60 zg_60 (by decide +kernel) (by decide +kernel) (by decide +kernel) hsz hG hZ hh hlocks (hl.1.trans hml.symm) dX5_edge_20 dX5_edge_23 dX5_edge_24 dX5_edge_26 dX5_edge_29 (Nat.le_of_ble_eq_true rfl) (Nat.le_of_ble_eq_true rfl) (Nat.le_of_ble_eq_true rfl) (Nat.le_of_ble_eq_true rfl) hQ
set_option maxHeartbeats 4000000 in
set_option maxRecDepth 100000 in
/-- TourHouse.edge: 40 edges -/
theorem c_X5_edge_bs (l : Launch) (hst : l.stackTraces = false) (D : va_G) (cA : Nat → ClassId) (sz : Nat) (th : Nat) (lr : Nat) (pa : Nat) (ua : Nat) (xa : Nat) (ds : Nat) (pr : Nat) (bl : Nat) (est : Bool) (g : Nat) (gf : Nat) (gt : Nat) (gw : Nat) (dir : Bool) (nv : Nat) (me : Nat) (a : Nat) (b : Nat) (w : Nat) (ha : a < nv) (hb : b < nv) (hw : w ≤ 1000000000) (hnv : nv ≤ 16) (hme : me = 40) : vx_Met l yX5_edge wsX5_edge ({ frames := 6, cells := 1, slots := 6, locals := 82 } : Room) (zTh D vwCl (zT cA) [(th, .inr (5, [.ref g, .ref lr, .ref pa, .ref ua, .ref xa, .ref ds, .ref pr, .ref bl, .int (zB est)])), (g, .inr (2, [.ref gf, .ref gt, .ref gw, .int (zB dir), .int (nI nv), .int (nI me)]))] sz [.ref th, .int (nI a), .int (nI b), .int (nI w)]) zNo (zXt "java/lang/IllegalStateException" sz) 1 6 (fun q => sz ≤ q) := by
  refine z_throws (cc := cX5_edge) (maxL := 4) (ret := (some .int)) (by decide) rfl (Nat.le_of_ble_eq_true rfl) ?_
  intro p e s m below meth c hx hb hr hml hown hts hlocks hh hsz hP hK hG hZ Q hQ ls hl
  have hown : s.vm.findClass RX5 = some m.cls := hown
  have hl : lv_has ls 4 [(0, .ref th), (1, .int (nI a)), (2, .int (nI b)), (3, .int (nI w))] := hl
  generalize hav : ([.ref th, .int (nI a), .int (nI b), .int (nI w)] : List Value).toArray = args at hts hQ ⊢
  have hin2 : ∀ w ∈ wsX20, w ∈ wsX5_edge := by decide +kernel
  have hin5 : ∀ w ∈ wsX50, w ∈ wsX5_edge := by decide +kernel
  refine lv_aload_n hx hb dX5_edge_0 rfl (lv_at hl 0 rfl) ?_
  refine lv_iload_n hx hb dX5_edge_1 rfl (lv_at hl 1 rfl) ?_
  refine z_cRVv (wc := [(th, .inr (5, [.ref g, .ref lr, .ref pa, .ref ua, .ref xa, .ref ds, .ref pr, .ref bl, .int (zB est)])), (g, .inr (2, [.ref gf, .ref gt, .ref gw, .int (zB dir), .int (nI nv), .int (nI me)]))]) (rm := ({ frames := 0, cells := 0, slots := 0, locals := 0 } : Room)) (As := [.int (nI a)]) (rest := []) ⟨hx, hb, hml, hown, hts⟩ (c_X5_requireVertex_r l D cA th lr pa ua xa ds pr bl est g gf gt gw dir nv me a (by first | assumption | omega) (by first | assumption | omega)) (cwV 1 hts gX5_edge_X5_requireVertex rfl rfl rfl (by decide +kernel) ⟨Nat.le_of_ble_eq_true rfl, Nat.le_of_ble_eq_true rfl⟩) hP hK [0, 1] rfl 5 0 rfl rfl rfl hl.1 rfl (Nat.le_of_ble_eq_true rfl) ⟨Nat.zero_le _, Nat.zero_le _⟩ dX5_edge_2 ?_
  refine lv_aload_n hx hb dX5_edge_5 rfl (lv_at hl 0 rfl) ?_
  refine lv_iload_n hx hb dX5_edge_6 rfl (lv_at hl 2 rfl) ?_
  refine z_cRVv (wc := [(th, .inr (5, [.ref g, .ref lr, .ref pa, .ref ua, .ref xa, .ref ds, .ref pr, .ref bl, .int (zB est)])), (g, .inr (2, [.ref gf, .ref gt, .ref gw, .int (zB dir), .int (nI nv), .int (nI me)]))]) (rm := ({ frames := 0, cells := 0, slots := 0, locals := 0 } : Room)) (As := [.int (nI b)]) (rest := []) ⟨hx, hb, hml, hown, hts⟩ (c_X5_requireVertex_r l D cA th lr pa ua xa ds pr bl est g gf gt gw dir nv me b (by first | assumption | omega) (by first | assumption | omega)) (cwV 1 hts gX5_edge_X5_requireVertex rfl rfl rfl (by decide +kernel) ⟨Nat.le_of_ble_eq_true rfl, Nat.le_of_ble_eq_true rfl⟩) hP hK [0, 1] rfl 5 0 rfl rfl rfl hl.1 rfl (Nat.le_of_ble_eq_true rfl) ⟨Nat.zero_le _, Nat.zero_le _⟩ dX5_edge_7 ?_
  refine lv_iload_n hx hb dX5_edge_10 rfl (lv_at hl 3 rfl) ?_
  refine z_nlt hx hb (by omega) (tgt := 20) dX5_edge_11 (by decide) (fun h11 => ?_) (fun h11 => ?_)
  · omega
  · skip
    refine lv_iload_n hx hb dX5_edge_14 rfl (lv_at hl 3 rfl) ?_
    refine W.ldc (v := 1000000000) hx hb hown (hts (.constant RX5 81 (1000000000)) (by decide +kernel)) rfl dX5_edge_15 ?_
    refine W.eq (g2 := F0 m 17 ls [.int (1000000000), .int (nI w)]) rfl ?_
    refine z_topi (v := nI 1000000000) (by decide) ?_
    refine z_le hx hb (by omega) (by decide) (tgt := 30) dX5_edge_17 (by decide) (fun h17 => ?_) (fun h17 => ?_)
    · skip
      refine lv_aload_n hx hb dX5_edge_30 rfl (lv_at hl 0 rfl) ?_
      refine va_get (D := D) (ci := 5) (v := .ref g) (C := RX5) (T := TX5) (N := 9) hx hb hts hin5 hown hK hP 0 rfl rfl 0 (by decide) (hts (.fieldLink RX5 12 "TourHouse" "graph" "LTourHouse$Graph;") (by decide +kernel)) (fun _ h9 => h9) rfl dX5_edge_31 ?_
      refine va_get (D := D) (ci := 2) (v := .int (nI me)) (C := RX2) (T := TX2) (N := 6) hx hb hts hin2 hown hK hP 1 rfl rfl 5 (by decide) (hts (.fieldLink RX5 67 "TourHouse$Graph" "edges" "I") (by decide +kernel)) (fun _ h9 => h9) rfl dX5_edge_34 ?_
      refine lv_bipush (v := nI 40) hx hb dX5_edge_37 (by decide) ?_
      refine z_lt hx hb (by omega) (by decide) (tgt := 52) dX5_edge_39 (by decide) (fun h39 => ?_) (fun h39 => ?_)
      · omega
      · skip
        exact z_thrS (text := "there are 40 edges") hx hb hst hown hts (by decide +kernel) zB_84 zg_84 (by decide +kernel) (by decide +kernel) (by decide +kernel) hsz hG hZ hh hlocks (hl.1.trans hml.symm) dX5_edge_42 dX5_edge_45 dX5_edge_46 dX5_edge_48 dX5_edge_51 (Nat.le_of_ble_eq_true rfl) (Nat.le_of_ble_eq_true rfl) (Nat.le_of_ble_eq_true rfl) (Nat.le_of_ble_eq_true rfl) hQ
    · omega
set_option maxHeartbeats 4000000 in
set_option maxRecDepth 100000 in
/-- TourHouse.drop: no edge -/
theorem c_X5_drop_b (l : Launch) (hst : l.stackTraces = false) (D : va_G) (cA : Nat → ClassId) (sz : Nat) (th : Nat) (lr : Nat) (pa : Nat) (ua : Nat) (xa : Nat) (ds : Nat) (pr : Nat) (bl : Nat) (est : Bool) (g : Nat) (gf : Nat) (gt : Nat) (gw : Nat) (dir : Bool) (nv : Nat) (me : Nat) (hme : me = 0) : vx_Met l yX5_drop wsX5_drop ({ frames := 6, cells := 1, slots := 6, locals := 82 } : Room) (zTh D vwCl (zT cA) [(th, .inr (5, [.ref g, .ref lr, .ref pa, .ref ua, .ref xa, .ref ds, .ref pr, .ref bl, .int (zB est)])), (g, .inr (2, [.ref gf, .ref gt, .ref gw, .int (zB dir), .int (nI nv), .int (nI me)]))] sz [.ref th]) zNo (zXt "java/lang/IllegalStateException" sz) 1 6 (fun q => sz ≤ q) := by
  refine z_throws (cc := cX5_drop) (maxL := 1) (ret := (some .int)) (by decide) rfl (Nat.le_of_ble_eq_true rfl) ?_
  intro p e s m below meth c hx hb hr hml hown hts hlocks hh hsz hP hK hG hZ Q hQ ls hl
  have hown : s.vm.findClass RX5 = some m.cls := hown
  have hl : lv_has ls 1 [(0, .ref th)] := hl
  generalize hav : ([.ref th] : List Value).toArray = args at hts hQ ⊢
  have hin2 : ∀ w ∈ wsX20, w ∈ wsX5_drop := by decide +kernel
  have hin5 : ∀ w ∈ wsX50, w ∈ wsX5_drop := by decide +kernel
  refine lv_aload_n hx hb dX5_drop_0 rfl (lv_at hl 0 rfl) ?_
  refine va_get (D := D) (ci := 5) (v := .ref g) (C := RX5) (T := TX5) (N := 9) hx hb hts hin5 hown hK hP 0 rfl rfl 0 (by decide) (hts (.fieldLink RX5 12 "TourHouse" "graph" "LTourHouse$Graph;") (by decide +kernel)) (fun _ h9 => h9) rfl dX5_drop_1 ?_
  refine va_get (D := D) (ci := 2) (v := .int (nI me)) (C := RX2) (T := TX2) (N := 6) hx hb hts hin2 hown hK hP 1 rfl rfl 5 (by decide) (hts (.fieldLink RX5 67 "TourHouse$Graph" "edges" "I") (by decide +kernel)) (fun _ h9 => h9) rfl dX5_drop_4 ?_
  refine z_nne hx hb (by omega) (tgt := 20) dX5_drop_7 (by decide) (fun h7 => ?_) (fun h7 => ?_)
  · omega
  · skip
    exact z_thrS (text := "there is no edge") hx hb hst hown hts (by decide +kernel) zB_84 zg_84 (by decide +kernel) (by decide +kernel) (by decide +kernel) hsz hG hZ hh hlocks (hl.1.trans hml.symm) dX5_drop_10 dX5_drop_13 dX5_drop_14 dX5_drop_16 dX5_drop_19 (Nat.le_of_ble_eq_true rfl) (Nat.le_of_ble_eq_true rfl) (Nat.le_of_ble_eq_true rfl) (Nat.le_of_ble_eq_true rfl) hQ
set_option maxHeartbeats 4000000 in
set_option maxRecDepth 100000 in
/-- TourHouse.distance: no vertex a -/
theorem c_X5_distance_ba (l : Launch) (hst : l.stackTraces = false) (D : va_G) (cA : Nat → ClassId) (sz : Nat) (th : Nat) (lr : Nat) (pa : Nat) (ua : Nat) (xa : Nat) (ds : Nat) (pr : Nat) (bl : Nat) (est : Bool) (g : Nat) (gf : Nat) (gt : Nat) (gw : Nat) (dir : Bool) (nv : Nat) (me : Nat) (z : Int) (b : Int) (hz : -2147483648 ≤ z ∧ z < 2147483648) (hnv : nv ≤ 16) (hbad : z < 0 ∨ (nv : Int) ≤ z) : vx_Met l yX5_distance wsX5_distance ({ frames := 7, cells := 1, slots := 6, locals := 107 } : Room) (zTh D vwCl (zT cA) [(th, .inr (5, [.ref g, .ref lr, .ref pa, .ref ua, .ref xa, .ref ds, .ref pr, .ref bl, .int (zB est)])), (g, .inr (2, [.ref gf, .ref gt, .ref gw, .int (zB dir), .int (nI nv), .int (nI me)]))] sz [.ref th, .int (iZ z), .int (iZ b)]) zNo (zXt "java/lang/IllegalArgumentException" sz) 1 6 (fun q => sz ≤ q) := by
  refine z_throws (cc := cX5_distance) (maxL := 3) (ret := (some .long)) (by decide) rfl (Nat.le_of_ble_eq_true rfl) ?_
  intro p e s m below meth c hx hb hr hml hown hts hlocks hh hsz hP hK hG hZ Q hQ ls hl
  have hown : s.vm.findClass RX5 = some m.cls := hown
  have hl : lv_has ls 3 [(0, .ref th), (1, .int (iZ z)), (2, .int (iZ b))] := hl
  generalize hav : ([.ref th, .int (iZ z), .int (iZ b)] : List Value).toArray = args at hts hQ ⊢
  have hin1 : ∀ w ∈ wsX10, w ∈ wsX5_distance := by decide +kernel
  have hin5 : ∀ w ∈ wsX50, w ∈ wsX5_distance := by decide +kernel
  refine lv_aload_n hx hb dX5_distance_0 rfl (lv_at hl 0 rfl) ?_
  refine lv_iload_n hx hb dX5_distance_1 rfl (lv_at hl 1 rfl) ?_
  exact z_cTVo (wc := [(th, .inr (5, [.ref g, .ref lr, .ref pa, .ref ua, .ref xa, .ref ds, .ref pr, .ref bl, .int (zB est)])), (g, .inr (2, [.ref gf, .ref gt, .ref gw, .int (zB dir), .int (nI nv), .int (nI me)]))]) (rm := ({ frames := 6, cells := 1, slots := 6, locals := 82 } : Room)) (As := [.int (iZ z)]) (rest := []) ⟨hx, hb, hml, hown, hts⟩ hsz (c_X5_requireVertex_b l hst D cA sz th lr pa ua xa ds pr bl est g gf gt gw dir nv me z (by first | assumption | omega) (by first | assumption | omega) (by first | assumption | omega)) (cwV 1 hts gX5_distance_X5_requireVertex rfl rfl rfl (by decide +kernel) ⟨Nat.le_of_ble_eq_true rfl, Nat.le_of_ble_eq_true rfl⟩) hP hK hG hZ [0, 1] rfl 5 0 rfl rfl rfl hl.1 rfl (Nat.le_of_ble_eq_true rfl) ⟨Nat.le_of_ble_eq_true rfl, Nat.le_of_ble_eq_true rfl⟩ hh hlocks hQ dX5_distance_2
set_option maxHeartbeats 4000000 in
set_option maxRecDepth 100000 in
/-- TourHouse.distance: no vertex b -/
theorem c_X5_distance_bb (l : Launch) (hst : l.stackTraces = false) (D : va_G) (cA : Nat → ClassId) (sz : Nat) (th : Nat) (lr : Nat) (pa : Nat) (ua : Nat) (xa : Nat) (ds : Nat) (pr : Nat) (bl : Nat) (est : Bool) (g : Nat) (gf : Nat) (gt : Nat) (gw : Nat) (dir : Bool) (nv : Nat) (me : Nat) (a : Nat) (z : Int) (ha : a < nv) (hz : -2147483648 ≤ z ∧ z < 2147483648) (hnv : nv ≤ 16) (hbad : z < 0 ∨ (nv : Int) ≤ z) : vx_Met l yX5_distance wsX5_distance ({ frames := 7, cells := 1, slots := 6, locals := 107 } : Room) (zTh D vwCl (zT cA) [(th, .inr (5, [.ref g, .ref lr, .ref pa, .ref ua, .ref xa, .ref ds, .ref pr, .ref bl, .int (zB est)])), (g, .inr (2, [.ref gf, .ref gt, .ref gw, .int (zB dir), .int (nI nv), .int (nI me)]))] sz [.ref th, .int (nI a), .int (iZ z)]) zNo (zXt "java/lang/IllegalArgumentException" sz) 1 6 (fun q => sz ≤ q) := by
  refine z_throws (cc := cX5_distance) (maxL := 3) (ret := (some .long)) (by decide) rfl (Nat.le_of_ble_eq_true rfl) ?_
  intro p e s m below meth c hx hb hr hml hown hts hlocks hh hsz hP hK hG hZ Q hQ ls hl
  have hown : s.vm.findClass RX5 = some m.cls := hown
  have hl : lv_has ls 3 [(0, .ref th), (1, .int (nI a)), (2, .int (iZ z))] := hl
  generalize hav : ([.ref th, .int (nI a), .int (iZ z)] : List Value).toArray = args at hts hQ ⊢
  have hin1 : ∀ w ∈ wsX10, w ∈ wsX5_distance := by decide +kernel
  have hin5 : ∀ w ∈ wsX50, w ∈ wsX5_distance := by decide +kernel
  refine lv_aload_n hx hb dX5_distance_0 rfl (lv_at hl 0 rfl) ?_
  refine lv_iload_n hx hb dX5_distance_1 rfl (lv_at hl 1 rfl) ?_
  refine z_cRVv (wc := [(th, .inr (5, [.ref g, .ref lr, .ref pa, .ref ua, .ref xa, .ref ds, .ref pr, .ref bl, .int (zB est)])), (g, .inr (2, [.ref gf, .ref gt, .ref gw, .int (zB dir), .int (nI nv), .int (nI me)]))]) (rm := ({ frames := 0, cells := 0, slots := 0, locals := 0 } : Room)) (As := [.int (nI a)]) (rest := []) ⟨hx, hb, hml, hown, hts⟩ (c_X5_requireVertex_r l D cA th lr pa ua xa ds pr bl est g gf gt gw dir nv me a (by first | assumption | omega) (by first | assumption | omega)) (cwV 1 hts gX5_distance_X5_requireVertex rfl rfl rfl (by decide +kernel) ⟨Nat.le_of_ble_eq_true rfl, Nat.le_of_ble_eq_true rfl⟩) hP hK [0, 1] rfl 5 0 rfl rfl rfl hl.1 rfl (Nat.le_of_ble_eq_true rfl) ⟨Nat.zero_le _, Nat.zero_le _⟩ dX5_distance_2 ?_
  refine lv_aload_n hx hb dX5_distance_5 rfl (lv_at hl 0 rfl) ?_
  refine lv_iload_n hx hb dX5_distance_6 rfl (lv_at hl 2 rfl) ?_
  exact z_cTVo (wc := [(th, .inr (5, [.ref g, .ref lr, .ref pa, .ref ua, .ref xa, .ref ds, .ref pr, .ref bl, .int (zB est)])), (g, .inr (2, [.ref gf, .ref gt, .ref gw, .int (zB dir), .int (nI nv), .int (nI me)]))]) (rm := ({ frames := 6, cells := 1, slots := 6, locals := 82 } : Room)) (As := [.int (iZ z)]) (rest := []) ⟨hx, hb, hml, hown, hts⟩ hsz (c_X5_requireVertex_b l hst D cA sz th lr pa ua xa ds pr bl est g gf gt gw dir nv me z (by first | assumption | omega) (by first | assumption | omega) (by first | assumption | omega)) (cwV 1 hts gX5_distance_X5_requireVertex rfl rfl rfl (by decide +kernel) ⟨Nat.le_of_ble_eq_true rfl, Nat.le_of_ble_eq_true rfl⟩) hP hK hG hZ [0, 1] rfl 5 0 rfl rfl rfl hl.1 rfl (Nat.le_of_ble_eq_true rfl) ⟨Nat.le_of_ble_eq_true rfl, Nat.le_of_ble_eq_true rfl⟩ hh hlocks hQ dX5_distance_7
set_option maxHeartbeats 4000000 in
set_option maxRecDepth 100000 in
/-- TourHouse.tour: no such vertex -/
theorem c_X5_tour_b (l : Launch) (hst : l.stackTraces = false) (D : va_G) (cA : Nat → ClassId) (sz : Nat) (th : Nat) (lr : Nat) (pa : Nat) (ua : Nat) (xa : Nat) (ds : Nat) (pr : Nat) (bl : Nat) (est : Bool) (g : Nat) (gf : Nat) (gt : Nat) (gw : Nat) (dir : Bool) (nv : Nat) (me : Nat) (z : Int) (hz : -2147483648 ≤ z ∧ z < 2147483648) (hnv : nv ≤ 16) (hbad : z < 0 ∨ (nv : Int) ≤ z) : vx_Met l yX5_tour wsX5_tour ({ frames := 7, cells := 1, slots := 6, locals := 119 } : Room) (zTh D vwCl (zT cA) [(th, .inr (5, [.ref g, .ref lr, .ref pa, .ref ua, .ref xa, .ref ds, .ref pr, .ref bl, .int (zB est)])), (g, .inr (2, [.ref gf, .ref gt, .ref gw, .int (zB dir), .int (nI nv), .int (nI me)]))] sz [.ref th, .int (iZ z)]) zNo (zXt "java/lang/IllegalArgumentException" sz) 1 6 (fun q => sz ≤ q) := by
  refine z_throws (cc := cX5_tour) (maxL := 2) (ret := (some .int)) (by decide) rfl (Nat.le_of_ble_eq_true rfl) ?_
  intro p e s m below meth c hx hb hr hml hown hts hlocks hh hsz hP hK hG hZ Q hQ ls hl
  have hown : s.vm.findClass RX5 = some m.cls := hown
  have hl : lv_has ls 2 [(0, .ref th), (1, .int (iZ z))] := hl
  generalize hav : ([.ref th, .int (iZ z)] : List Value).toArray = args at hts hQ ⊢
  have hin4 : ∀ w ∈ wsX40, w ∈ wsX5_tour := by decide +kernel
  have hin5 : ∀ w ∈ wsX50, w ∈ wsX5_tour := by decide +kernel
  refine lv_aload_n hx hb dX5_tour_0 rfl (lv_at hl 0 rfl) ?_
  refine lv_iload_n hx hb dX5_tour_1 rfl (lv_at hl 1 rfl) ?_
  exact z_cTVo (wc := [(th, .inr (5, [.ref g, .ref lr, .ref pa, .ref ua, .ref xa, .ref ds, .ref pr, .ref bl, .int (zB est)])), (g, .inr (2, [.ref gf, .ref gt, .ref gw, .int (zB dir), .int (nI nv), .int (nI me)]))]) (rm := ({ frames := 6, cells := 1, slots := 6, locals := 82 } : Room)) (As := [.int (iZ z)]) (rest := []) ⟨hx, hb, hml, hown, hts⟩ hsz (c_X5_requireVertex_b l hst D cA sz th lr pa ua xa ds pr bl est g gf gt gw dir nv me z (by first | assumption | omega) (by first | assumption | omega) (by first | assumption | omega)) (cwV 1 hts gX5_tour_X5_requireVertex rfl rfl rfl (by decide +kernel) ⟨Nat.le_of_ble_eq_true rfl, Nat.le_of_ble_eq_true rfl⟩) hP hK hG hZ [0, 1] rfl 5 0 rfl rfl rfl hl.1 rfl (Nat.le_of_ble_eq_true rfl) ⟨Nat.le_of_ble_eq_true rfl, Nat.le_of_ble_eq_true rfl⟩ hh hlocks hQ dX5_tour_2
set_option maxHeartbeats 4000000 in
set_option maxRecDepth 100000 in
/-- TourHouse.round: no such vertex -/
theorem c_X5_round_b (l : Launch) (hst : l.stackTraces = false) (D : va_G) (cA : Nat → ClassId) (sz : Nat) (th : Nat) (lr : Nat) (pa : Nat) (ua : Nat) (xa : Nat) (ds : Nat) (pr : Nat) (bl : Nat) (est : Bool) (g : Nat) (gf : Nat) (gt : Nat) (gw : Nat) (dir : Bool) (nv : Nat) (me : Nat) (z : Int) (hz : -2147483648 ≤ z ∧ z < 2147483648) (hnv : nv ≤ 16) (hbad : z < 0 ∨ (nv : Int) ≤ z) : vx_Met l yX5_round wsX5_round ({ frames := 7, cells := 1, slots := 6, locals := 178 } : Room) (zTh D vwCl (zT cA) [(th, .inr (5, [.ref g, .ref lr, .ref pa, .ref ua, .ref xa, .ref ds, .ref pr, .ref bl, .int (zB est)])), (g, .inr (2, [.ref gf, .ref gt, .ref gw, .int (zB dir), .int (nI nv), .int (nI me)]))] sz [.ref th, .int (iZ z)]) zNo (zXt "java/lang/IllegalArgumentException" sz) 1 6 (fun q => sz ≤ q) := by
  refine z_throws (cc := cX5_round) (maxL := 5) (ret := (some .long)) (by decide) rfl (Nat.le_of_ble_eq_true rfl) ?_
  intro p e s m below meth c hx hb hr hml hown hts hlocks hh hsz hP hK hG hZ Q hQ ls hl
  have hown : s.vm.findClass RX5 = some m.cls := hown
  have hl : lv_has ls 5 [(0, .ref th), (1, .int (iZ z))] := hl
  generalize hav : ([.ref th, .int (iZ z)] : List Value).toArray = args at hts hQ ⊢
  have hin2 : ∀ w ∈ wsX20, w ∈ wsX5_round := by decide +kernel
  have hin5 : ∀ w ∈ wsX50, w ∈ wsX5_round := by decide +kernel
  refine lv_aload_n hx hb dX5_round_0 rfl (lv_at hl 0 rfl) ?_
  refine lv_iload_n hx hb dX5_round_1 rfl (lv_at hl 1 rfl) ?_
  exact z_cTVo (wc := [(th, .inr (5, [.ref g, .ref lr, .ref pa, .ref ua, .ref xa, .ref ds, .ref pr, .ref bl, .int (zB est)])), (g, .inr (2, [.ref gf, .ref gt, .ref gw, .int (zB dir), .int (nI nv), .int (nI me)]))]) (rm := ({ frames := 6, cells := 1, slots := 6, locals := 82 } : Room)) (As := [.int (iZ z)]) (rest := []) ⟨hx, hb, hml, hown, hts⟩ hsz (c_X5_requireVertex_b l hst D cA sz th lr pa ua xa ds pr bl est g gf gt gw dir nv me z (by first | assumption | omega) (by first | assumption | omega) (by first | assumption | omega)) (cwV 1 hts gX5_round_X5_requireVertex rfl rfl rfl (by decide +kernel) ⟨Nat.le_of_ble_eq_true rfl, Nat.le_of_ble_eq_true rfl⟩) hP hK hG hZ [0, 1] rfl 5 0 rfl rfl rfl hl.1 rfl (Nat.le_of_ble_eq_true rfl) ⟨Nat.le_of_ble_eq_true rfl, Nat.le_of_ble_eq_true rfl⟩ hh hlocks hQ dX5_round_2
set_option maxHeartbeats 4000000 in
set_option maxRecDepth 100000 in
/-- TourHouse.judge: no such vertex -/
theorem c_X5_judge_b (l : Launch) (hst : l.stackTraces = false) (D : va_G) (cA : Nat → ClassId) (sz : Nat) (th : Nat) (lr : Nat) (pa : Nat) (ua : Nat) (xa : Nat) (ds : Nat) (pr : Nat) (bl : Nat) (est : Bool) (g : Nat) (gf : Nat) (gt : Nat) (gw : Nat) (dir : Bool) (nv : Nat) (me : Nat) (z : Int) (hz : -2147483648 ≤ z ∧ z < 2147483648) (hnv : nv ≤ 16) (hbad : z < 0 ∨ (nv : Int) ≤ z) : vx_Met l yX5_judge wsX5_judge ({ frames := 7, cells := 1, slots := 6, locals := 103 } : Room) (zTh D vwCl (zT cA) [(th, .inr (5, [.ref g, .ref lr, .ref pa, .ref ua, .ref xa, .ref ds, .ref pr, .ref bl, .int (zB est)])), (g, .inr (2, [.ref gf, .ref gt, .ref gw, .int (zB dir), .int (nI nv), .int (nI me)]))] sz [.ref th, .int (iZ z)]) zNo (zXt "java/lang/IllegalArgumentException" sz) 1 6 (fun q => sz ≤ q) := by
  refine z_throws (cc := cX5_judge) (maxL := 4) (ret := (some .long)) (by decide) rfl (Nat.le_of_ble_eq_true rfl) ?_
  intro p e s m below meth c hx hb hr hml hown hts hlocks hh hsz hP hK hG hZ Q hQ ls hl
  have hown : s.vm.findClass RX5 = some m.cls := hown
  have hl : lv_has ls 4 [(0, .ref th), (1, .int (iZ z))] := hl
  generalize hav : ([.ref th, .int (iZ z)] : List Value).toArray = args at hts hQ ⊢
  have hin5 : ∀ w ∈ wsX50, w ∈ wsX5_judge := by decide +kernel
  refine lv_aload_n hx hb dX5_judge_0 rfl (lv_at hl 0 rfl) ?_
  refine lv_iload_n hx hb dX5_judge_1 rfl (lv_at hl 1 rfl) ?_
  exact z_cTVo (wc := [(th, .inr (5, [.ref g, .ref lr, .ref pa, .ref ua, .ref xa, .ref ds, .ref pr, .ref bl, .int (zB est)])), (g, .inr (2, [.ref gf, .ref gt, .ref gw, .int (zB dir), .int (nI nv), .int (nI me)]))]) (rm := ({ frames := 6, cells := 1, slots := 6, locals := 82 } : Room)) (As := [.int (iZ z)]) (rest := []) ⟨hx, hb, hml, hown, hts⟩ hsz (c_X5_requireVertex_b l hst D cA sz th lr pa ua xa ds pr bl est g gf gt gw dir nv me z (by first | assumption | omega) (by first | assumption | omega) (by first | assumption | omega)) (cwV 1 hts gX5_judge_X5_requireVertex rfl rfl rfl (by decide +kernel) ⟨Nat.le_of_ble_eq_true rfl, Nat.le_of_ble_eq_true rfl⟩) hP hK hG hZ [0, 1] rfl 5 0 rfl rfl rfl hl.1 rfl (Nat.le_of_ble_eq_true rfl) ⟨Nat.le_of_ble_eq_true rfl, Nat.le_of_ble_eq_true rfl⟩ hh hlocks hQ dX5_judge_2
set_option maxHeartbeats 4000000 in
set_option maxRecDepth 100000 in
/-- TourHouse.extra: no such edge -/
theorem c_X5_extra_b (l : Launch) (hst : l.stackTraces = false) (D : va_G) (cA : Nat → ClassId) (sz : Nat) (th : Nat) (lr : Nat) (pa : Nat) (ua : Nat) (xa : Nat) (ds : Nat) (pr : Nat) (bl : Nat) (est : Bool) (g : Nat) (gf : Nat) (gt : Nat) (gw : Nat) (dir : Bool) (nv : Nat) (me : Nat) (z : Int) (hz : -2147483648 ≤ z ∧ z < 2147483648) (hme : me ≤ 40) (hbad : z < 0 ∨ (me : Int) ≤ z) : vx_Met l yX5_extra wsX5_extra ({ frames := 6, cells := 1, slots := 6, locals := 82 } : Room) (zTh D vwCl (zT cA) [(th, .inr (5, [.ref g, .ref lr, .ref pa, .ref ua, .ref xa, .ref ds, .ref pr, .ref bl, .int (zB est)])), (g, .inr (2, [.ref gf, .ref gt, .ref gw, .int (zB dir), .int (nI nv), .int (nI me)]))] sz [.ref th, .int (iZ z)]) zNo (zXt "java/util/NoSuchElementException" sz) 1 6 (fun q => sz ≤ q) := by
  refine z_throws (cc := cX5_extra) (maxL := 2) (ret := (some .int)) (by decide) rfl (Nat.le_of_ble_eq_true rfl) ?_
  intro p e s m below meth c hx hb hr hml hown hts hlocks hh hsz hP hK hG hZ Q hQ ls hl
  have hown : s.vm.findClass RX5 = some m.cls := hown
  have hl : lv_has ls 2 [(0, .ref th), (1, .int (iZ z))] := hl
  generalize hav : ([.ref th, .int (iZ z)] : List Value).toArray = args at hts hQ ⊢
  have hin2 : ∀ w ∈ wsX20, w ∈ wsX5_extra := by decide +kernel
  have hin5 : ∀ w ∈ wsX50, w ∈ wsX5_extra := by decide +kernel
  refine lv_iload_n hx hb dX5_extra_0 rfl (lv_at hl 1 rfl) ?_
  refine z_ilt hx hb (x := z) (⟨by omega, by omega⟩) (tgt := 15) dX5_extra_1 (by decide) (fun h1 => ?_) (fun h1 => ?_)
  · skip
    exact z_thrN (text := "there is no such edge") hx hb hst hown hts (by decide +kernel) (by decide +kernel) hsz hG hZ hh hlocks (hl.1.trans hml.symm) dX5_extra_15 dX5_extra_18 dX5_extra_19 dX5_extra_21 dX5_extra_24 (Nat.le_of_ble_eq_true rfl) (Nat.le_of_ble_eq_true rfl) (Nat.le_of_ble_eq_true rfl) (Nat.le_of_ble_eq_true rfl) hQ
  · skip
    refine lv_iload_n hx hb dX5_extra_4 rfl (lv_at hl 1 rfl) ?_
    refine lv_aload_n hx hb dX5_extra_5 rfl (lv_at hl 0 rfl) ?_
    refine va_get (D := D) (ci := 5) (v := .ref g) (C := RX5) (T := TX5) (N := 9) hx hb hts hin5 hown hK hP 0 rfl rfl 0 (by decide) (hts (.fieldLink RX5 12 "TourHouse" "graph" "LTourHouse$Graph;") (by decide +kernel)) (fun _ h9 => h9) rfl dX5_extra_6 ?_
    refine va_get (D := D) (ci := 2) (v := .int (nI me)) (C := RX2) (T := TX2) (N := 6) hx hb hts hin2 hown hK hP 1 rfl rfl 5 (by decide) (hts (.fieldLink RX5 67 "TourHouse$Graph" "edges" "I") (by decide +kernel)) (fun _ h9 => h9) rfl dX5_extra_9 ?_
    refine z_Ilt hx hb (x := z) (y := ((me : Nat) : Int)) (⟨by omega, by omega⟩) (⟨by omega, by omega⟩) (tgt := 25) dX5_extra_12 (by decide) (fun h12 => ?_) (fun h12 => ?_)
    · omega
    · skip
      exact z_thrN (text := "there is no such edge") hx hb hst hown hts (by decide +kernel) (by decide +kernel) hsz hG hZ hh hlocks (hl.1.trans hml.symm) dX5_extra_15 dX5_extra_18 dX5_extra_19 dX5_extra_21 dX5_extra_24 (Nat.le_of_ble_eq_true rfl) (Nat.le_of_ble_eq_true rfl) (Nat.le_of_ble_eq_true rfl) (Nat.le_of_ble_eq_true rfl) hQ
set_option maxHeartbeats 4000000 in
set_option maxRecDepth 100000 in
/-- TourHouse.extra: no round -/
theorem c_X5_extra_bs (l : Launch) (hst : l.stackTraces = false) (D : va_G) (cA : Nat → ClassId) (sz : Nat) (th : Nat) (lr : Nat) (pa : Nat) (ua : Nat) (xa : Nat) (ds : Nat) (pr : Nat) (bl : Nat) (est : Bool) (g : Nat) (gf : Nat) (gt : Nat) (gw : Nat) (dir : Bool) (nv : Nat) (me : Nat) (k : Nat) (hk : k < me) (hme : me ≤ 40) (hes : est = false) : vx_Met l yX5_extra wsX5_extra ({ frames := 6, cells := 1, slots := 6, locals := 82 } : Room) (zTh D vwCl (zT cA) [(th, .inr (5, [.ref g, .ref lr, .ref pa, .ref ua, .ref xa, .ref ds, .ref pr, .ref bl, .int (zB est)])), (g, .inr (2, [.ref gf, .ref gt, .ref gw, .int (zB dir), .int (nI nv), .int (nI me)]))] sz [.ref th, .int (nI k)]) zNo (zXt "java/lang/IllegalStateException" sz) 1 6 (fun q => sz ≤ q) := by
  refine z_throws (cc := cX5_extra) (maxL := 2) (ret := (some .int)) (by decide) rfl (Nat.le_of_ble_eq_true rfl) ?_
  intro p e s m below meth c hx hb hr hml hown hts hlocks hh hsz hP hK hG hZ Q hQ ls hl
  have hown : s.vm.findClass RX5 = some m.cls := hown
  have hl : lv_has ls 2 [(0, .ref th), (1, .int (nI k))] := hl
  generalize hav : ([.ref th, .int (nI k)] : List Value).toArray = args at hts hQ ⊢
  have hin2 : ∀ w ∈ wsX20, w ∈ wsX5_extra := by decide +kernel
  have hin5 : ∀ w ∈ wsX50, w ∈ wsX5_extra := by decide +kernel
  refine lv_iload_n hx hb dX5_extra_0 rfl (lv_at hl 1 rfl) ?_
  refine z_nlt hx hb (by omega) (tgt := 15) dX5_extra_1 (by decide) (fun h1 => ?_) (fun h1 => ?_)
  · omega
  · skip
    refine lv_iload_n hx hb dX5_extra_4 rfl (lv_at hl 1 rfl) ?_
    refine lv_aload_n hx hb dX5_extra_5 rfl (lv_at hl 0 rfl) ?_
    refine va_get (D := D) (ci := 5) (v := .ref g) (C := RX5) (T := TX5) (N := 9) hx hb hts hin5 hown hK hP 0 rfl rfl 0 (by decide) (hts (.fieldLink RX5 12 "TourHouse" "graph" "LTourHouse$Graph;") (by decide +kernel)) (fun _ h9 => h9) rfl dX5_extra_6 ?_
    refine va_get (D := D) (ci := 2) (v := .int (nI me)) (C := RX2) (T := TX2) (N := 6) hx hb hts hin2 hown hK hP 1 rfl rfl 5 (by decide) (hts (.fieldLink RX5 67 "TourHouse$Graph" "edges" "I") (by decide +kernel)) (fun _ h9 => h9) rfl dX5_extra_9 ?_
    refine z_lt hx hb (by omega) (by omega) (tgt := 25) dX5_extra_12 (by decide) (fun h12 => ?_) (fun h12 => ?_)
    · skip
      refine lv_aload_n hx hb dX5_extra_25 rfl (lv_at hl 0 rfl) ?_
      refine va_get (D := D) (ci := 5) (v := .int (zB est)) (C := RX5) (T := TX5) (N := 9) hx hb hts hin5 hown hK hP 0 rfl rfl 8 (by decide) (hts (.fieldLink RX5 56 "TourHouse" "extrasStand" "Z") (by decide +kernel)) (fun _ h9 => h9) rfl dX5_extra_26 ?_
      refine z_ifne hx hb (tgt := 42) dX5_extra_29 (by decide) (fun h29 => ?_) (fun h29 => ?_)
      · rw [hes] at h29; cases h29
      · skip
        exact z_thrS (text := "there was no round since the graph last changed") hx hb hst hown hts (by decide +kernel) zB_84 zg_84 (by decide +kernel) (by decide +kernel) (by decide +kernel) hsz hG hZ hh hlocks (hl.1.trans hml.symm) dX5_extra_32 dX5_extra_35 dX5_extra_36 dX5_extra_38 dX5_extra_41 (Nat.le_of_ble_eq_true rfl) (Nat.le_of_ble_eq_true rfl) (Nat.le_of_ble_eq_true rfl) (Nat.le_of_ble_eq_true rfl) hQ
    · omega
set_option maxHeartbeats 4000000 in
set_option maxRecDepth 100000 in
/-- TourHouse.row: no such step -/
theorem c_X5_row_b (l : Launch) (hst : l.stackTraces = false) (D : va_G) (cA : Nat → ClassId) (sz : Nat) (th : Nat) (lr : Nat) (pa : Nat) (ua : Nat) (xa : Nat) (ds : Nat) (pr : Nat) (bl : Nat) (est : Bool) (g : Nat) (la : Nat) (ln : Nat) (z : Int) (hz : -2147483648 ≤ z ∧ z < 2147483648) (hln : ln ≤ 640) (hbad : z < 0 ∨ (ln : Int) ≤ z) : vx_Met l yX5_row wsX5_row ({ frames := 6, cells := 1, slots := 6, locals := 82 } : Room) (zTh D vwCl (zT cA) [(th, .inr (5, [.ref g, .ref lr, .ref pa, .ref ua, .ref xa, .ref ds, .ref pr, .ref bl, .int (zB est)])), (lr, .inr (4, [.ref la, .int (nI ln)]))] sz [.ref th, .int (iZ z)]) zNo (zXt "java/util/NoSuchElementException" sz) 1 6 (fun q => sz ≤ q) := by
  refine z_throws (cc := cX5_row) (maxL := 2) (ret := (some .int)) (by decide) rfl (Nat.le_of_ble_eq_true rfl) ?_
  intro p e s m below meth c hx hb hr hml hown hts hlocks hh hsz hP hK hG hZ Q hQ ls hl
  have hown : s.vm.findClass RX5 = some m.cls := hown
  have hl : lv_has ls 2 [(0, .ref th), (1, .int (iZ z))] := hl
  generalize hav : ([.ref th, .int (iZ z)] : List Value).toArray = args at hts hQ ⊢
  have hin4 : ∀ w ∈ wsX40, w ∈ wsX5_row := by decide +kernel
  have hin5 : ∀ w ∈ wsX50, w ∈ wsX5_row := by decide +kernel
  refine lv_iload_n hx hb dX5_row_0 rfl (lv_at hl 1 rfl) ?_
  refine z_ilt hx hb (x := z) (⟨by omega, by omega⟩) (tgt := 15) dX5_row_1 (by decide) (fun h1 => ?_) (fun h1 => ?_)
  · skip
    exact z_thrN (text := "there is no such step of the row") hx hb hst hown hts (by decide +kernel) (by decide +kernel) hsz hG hZ hh hlocks (hl.1.trans hml.symm) dX5_row_15 dX5_row_18 dX5_row_19 dX5_row_21 dX5_row_24 (Nat.le_of_ble_eq_true rfl) (Nat.le_of_ble_eq_true rfl) (Nat.le_of_ble_eq_true rfl) (Nat.le_of_ble_eq_true rfl) hQ
  · skip
    refine lv_iload_n hx hb dX5_row_4 rfl (lv_at hl 1 rfl) ?_
    refine lv_aload_n hx hb dX5_row_5 rfl (lv_at hl 0 rfl) ?_
    refine va_get (D := D) (ci := 5) (v := .ref lr) (C := RX5) (T := TX5) (N := 9) hx hb hts hin5 hown hK hP 0 rfl rfl 1 (by decide) (hts (.fieldLink RX5 21 "TourHouse" "latestRow" "LTourHouse$StepRow;") (by decide +kernel)) (fun _ h9 => h9) rfl dX5_row_6 ?_
    refine va_get (D := D) (ci := 4) (v := .int (nI ln)) (C := RX4) (T := TX4) (N := 2) hx hb hts hin4 hown hK hP 1 rfl rfl 1 (by decide) (hts (.fieldLink RX5 126 "TourHouse$StepRow" "length" "I") (by decide +kernel)) (fun _ h9 => h9) rfl dX5_row_9 ?_
    refine z_Ilt hx hb (x := z) (y := ((ln : Nat) : Int)) (⟨by omega, by omega⟩) (⟨by omega, by omega⟩) (tgt := 25) dX5_row_12 (by decide) (fun h12 => ?_) (fun h12 => ?_)
    · omega
    · skip
      exact z_thrN (text := "there is no such step of the row") hx hb hst hown hts (by decide +kernel) (by decide +kernel) hsz hG hZ hh hlocks (hl.1.trans hml.symm) dX5_row_15 dX5_row_18 dX5_row_19 dX5_row_21 dX5_row_24 (Nat.le_of_ble_eq_true rfl) (Nat.le_of_ble_eq_true rfl) (Nat.le_of_ble_eq_true rfl) (Nat.le_of_ble_eq_true rfl) hQ
set_option maxHeartbeats 4000000 in
set_option maxRecDepth 100000 in
/-- TourHouse.step: the path is full -/
theorem c_X5_step_b (l : Launch) (hst : l.stackTraces = false) (D : va_G) (cA : Nat → ClassId) (sz : Nat) (th : Nat) (lr : Nat) (pa : Nat) (ua : Nat) (xa : Nat) (ds : Nat) (pr : Nat) (bl : Nat) (est : Bool) (g : Nat) (pb : Nat) (pn : Nat) (Pz : Nat → Int) (z : Int) (hpn : pn = 1000) : vx_Met l yX5_step wsX5_step ({ frames := 6, cells := 1, slots := 6, locals := 82 } : Room) (zTh D vwCl (zT cA) [(th, .inr (5, [.ref g, .ref lr, .ref pa, .ref ua, .ref xa, .ref ds, .ref pr, .ref bl, .int (zB est)])), (pa, .inr (4, [.ref pb, .int (nI pn)])), (pb, aI cA 1000 (fun j => iZ (Pz j)))] sz [.ref th, .int (iZ z)]) zNo (zXt "java/lang/IllegalStateException" sz) 1 6 (fun q => sz ≤ q) := by
  refine z_throws (cc := cX5_step) (maxL := 2) (ret := (some .int)) (by decide) rfl (Nat.le_of_ble_eq_true rfl) ?_
  intro p e s m below meth c hx hb hr hml hown hts hlocks hh hsz hP hK hG hZ Q hQ ls hl
  have hown : s.vm.findClass RX5 = some m.cls := hown
  have hl : lv_has ls 2 [(0, .ref th), (1, .int (iZ z))] := hl
  generalize hav : ([.ref th, .int (iZ z)] : List Value).toArray = args at hts hQ ⊢
  have hin4 : ∀ w ∈ wsX40, w ∈ wsX5_step := by decide +kernel
  have hin5 : ∀ w ∈ wsX50, w ∈ wsX5_step := by decide +kernel
  refine lv_aload_n hx hb dX5_step_0 rfl (lv_at hl 0 rfl) ?_
  refine va_get (D := D) (ci := 5) (v := .ref pa) (C := RX5) (T := TX5) (N := 9) hx hb hts hin5 hown hK hP 0 rfl rfl 2 (by decide) (hts (.fieldLink RX5 25 "TourHouse" "path" "LTourHouse$StepRow;") (by decide +kernel)) (fun _ h9 => h9) rfl dX5_step_1 ?_
  refine z_cRVi (wc := [(pa, .inr (4, [.ref pb, .int (nI pn)])), (pb, aI cA 1000 (fun j => iZ (Pz j)))]) (rm := ({ frames := 0, cells := 0, slots := 0, locals := 0 } : Room)) (As := []) (rest := []) ⟨hx, hb, hml, hown, hts⟩ (c_X4_isFull l D cA pa pb 1000 Pz pn (by decide) (by omega)) (cwV 0 hts gX5_step_X4_isFull rfl rfl rfl (by decide +kernel) ⟨Nat.le_of_ble_eq_true rfl, Nat.le_of_ble_eq_true rfl⟩) hP hK [1, 2] rfl 4 0 rfl rfl rfl hl.1 rfl (Nat.le_of_ble_eq_true rfl) ⟨Nat.zero_le _, Nat.zero_le _⟩ dX5_step_4 (fun r hr4 => ?_)
  subst hr4
  refine z_ifeq hx hb (tgt := 20) dX5_step_7 (by decide) (fun h7 => ?_) (fun h7 => ?_)
  · exact absurd (of_decide_eq_false h7) (by omega)
  · skip
    exact z_thrS (text := "the path has 1000 steps") hx hb hst hown hts (by decide +kernel) zB_84 zg_84 (by decide +kernel) (by decide +kernel) (by decide +kernel) hsz hG hZ hh hlocks (hl.1.trans hml.symm) dX5_step_10 dX5_step_13 dX5_step_14 dX5_step_16 dX5_step_19 (Nat.le_of_ble_eq_true rfl) (Nat.le_of_ble_eq_true rfl) (Nat.le_of_ble_eq_true rfl) (Nat.le_of_ble_eq_true rfl) hQ
set_option maxHeartbeats 4000000 in
set_option maxRecDepth 100000 in
/-- TourHouse.look: no such thing -/
theorem c_X5_look_b (l : Launch) (hst : l.stackTraces = false) (D : va_G) (cA : Nat → ClassId) (sz : Nat) (th : Nat) (lr : Nat) (pa : Nat) (ua : Nat) (xa : Nat) (ds : Nat) (pr : Nat) (bl : Nat) (est : Bool) (g : Nat) (z : Int) (hz : -2147483648 ≤ z ∧ z < 2147483648) (hbad : z < 0 ∨ 8 < z) : vx_Met l yX5_look wsX5_look ({ frames := 6, cells := 1, slots := 6, locals := 82 } : Room) (zTh D vwCl (zT cA) [(th, .inr (5, [.ref g, .ref lr, .ref pa, .ref ua, .ref xa, .ref ds, .ref pr, .ref bl, .int (zB est)]))] sz [.ref th, .int (iZ z)]) zNo (zXt "java/lang/IllegalArgumentException" sz) 1 6 (fun q => sz ≤ q) := by
  refine z_throws (cc := cX5_look) (maxL := 2) (ret := (some .int)) (by decide) rfl (Nat.le_of_ble_eq_true rfl) ?_
  intro p e s m below meth c hx hb hr hml hown hts hlocks hh hsz hP hK hG hZ Q hQ ls hl
  have hown : s.vm.findClass RX5 = some m.cls := hown
  have hl : lv_has ls 2 [(0, .ref th), (1, .int (iZ z))] := hl
  generalize hav : ([.ref th, .int (iZ z)] : List Value).toArray = args at hts hQ ⊢
  have hin2 : ∀ w ∈ wsX20, w ∈ wsX5_look := by decide +kernel
  have hin4 : ∀ w ∈ wsX40, w ∈ wsX5_look := by decide +kernel
  have hin5 : ∀ w ∈ wsX50, w ∈ wsX5_look := by decide +kernel
  refine lv_iload_n hx hb dX5_look_0 rfl (lv_at hl 1 rfl) ?_
  refine lv_tableOut (tgt := 157) hx hb dX5_look_1 (by rw [iZ_toInt hz.1 hz.2]; exact hbad) (by decide) ?_
  exact z_thrS (text := "there is no such thing to look at") hx hb hst hown hts (by decide +kernel) zB_60 zg_60 (by decide +kernel) (by decide +kernel) (by decide +kernel) hsz hG hZ hh hlocks (hl.1.trans hml.symm) dX5_look_157 dX5_look_160 dX5_look_161 dX5_look_163 dX5_look_166 (Nat.le_of_ble_eq_true rfl) (Nat.le_of_ble_eq_true rfl) (Nat.le_of_ble_eq_true rfl) (Nat.le_of_ble_eq_true rfl) hQ
