def gHang (Fr To : Nat → Nat) (U : Nat → Int) (me v : Nat) : Bool := decide (gTouch Fr To U me &&& (65535 ^^^ gRL true true Fr To U me 16 (2 ^ v)) = 0)
def gCover (dir : Bool) (Fr To : Nat → Nat) (U : Nat → Int) (me v : Nat) : Bool := decide (gTouch Fr To U me &&& (65535 ^^^ gRL true (!dir) Fr To U me 16 (2 ^ v)) = 0) && decide (gTouch Fr To U me &&& (65535 ^^^ gRL (!dir) true Fr To U me 16 (2 ^ v)) = 0)
/-- what is left of the touched vertices behind the first k, and how many regions were met -/
def gReg (Fr To : Nat → Nat) (U : Nat → Int) (me : Nat) : Nat → Nat × Nat
  | 0 => (gTouch Fr To U me, 0)
  | k + 1 => if (gReg Fr To U me k).1 / 2 ^ k % 2 = 1 then ((gReg Fr To U me k).1 &&& (65535 ^^^ gRL true true Fr To U me 16 (2 ^ k)), (gReg Fr To U me k).2 + 1) else gReg Fr To U me k
theorem gReg_lt {Fr To : Nat → Nat} {U : Nat → Int} {me : Nat} (hF : ∀ j, Fr j < 16) (hT : ∀ j, To j < 16) : ∀ k, (gReg Fr To U me k).1 < 65536
  | 0 => gTouch_lt hF hT me
  | k + 1 => by
    have := gReg_lt (U := U) (me := me) hF hT k
    simp only [gReg]; split
    · exact Nat.lt_of_le_of_lt Nat.and_le_left this
    · exact this
set_option maxHeartbeats 4000000 in
set_option maxRecDepth 100000 in
/-- Graph.hangsTogetherAt -/
theorem c_X2_hangsTogetherAt (l : Launch) (D : va_G) (cA : Nat → ClassId) (g : Nat) (gf : Nat) (gt : Nat) (gw : Nat) (Fr : Nat → Nat) (To : Nat → Nat) (dir : Bool) (nv : Nat) (me : Nat) (ua : Nat) (U : Nat → Int) (v : Nat) (hme : me ≤ 40) (hF : ∀ j, Fr j < 16) (hT : ∀ j, To j < 16) (hU : ∀ j, -2147483648 ≤ U j ∧ U j < 2147483648) (hv : v < 16) : Met l yX2_hangsTogetherAt wsX2_hangsTogetherAt ({ frames := 1, cells := 0, slots := 0, locals := 28 } : Room) (zRd D vwCl (zT cA) [(g, .inr (2, [.ref gf, .ref gt, .ref gw, .int (zB dir), .int (nI nv), .int (nI me)])), (gf, aI cA 40 (fun j => nI (Fr j))), (gt, aI cA 40 (fun j => nI (To j))), (ua, aI cA 40 (fun j => iZ (U j)))] [.ref g, .int (nI v), .ref ua]) (vp_Si (fun r => r = zB (gHang Fr To U me v))) 0 0 (fun _ => False) := by
  refine z_read (cc := cX2_hangsTogetherAt) (maxL := 3) (ret := (some .boolean)) (by decide) rfl (Nat.le_of_ble_eq_true rfl) ?_
  intro p e s m below meth c hx hb hr hml hown hts hlocks hP hK Q hQ ls hl
  have hown : s.vm.findClass RX2 = some m.cls := hown
  have hl : lv_has ls 3 [(0, .ref g), (1, .int (nI v)), (2, .ref ua)] := hl
  generalize hav : ([.ref g, .int (nI v), .ref ua] : List Value).toArray = args at hts hQ ⊢
  refine lv_aload_n hx hb dX2_hangsTogetherAt_0 rfl (lv_at hl 0 rfl) ?_
  refine lv_aload_n hx hb dX2_hangsTogetherAt_1 rfl (lv_at hl 2 rfl) ?_
  refine z_cRVi (wc := [(g, .inr (2, [.ref gf, .ref gt, .ref gw, .int (zB dir), .int (nI nv), .int (nI me)])), (gf, aI cA 40 (fun j => nI (Fr j))), (gt, aI cA 40 (fun j => nI (To j))), (ua, aI cA 40 (fun j => iZ (U j)))]) (rm := ({ frames := 0, cells := 0, slots := 0, locals := 0 } : Room)) (As := [.ref ua]) (rest := []) ⟨hx, hb, hml, hown, hts⟩ (c_X2_touchedBy l D cA g gf gt gw Fr To dir nv me ua U (by first | assumption | omega) (by first | assumption | omega) (by first | assumption | omega) (by first | assumption | omega)) (cwV 1 hts gX2_hangsTogetherAt_X2_touchedBy rfl rfl rfl (by decide +kernel) ⟨Nat.le_of_ble_eq_true rfl, Nat.le_of_ble_eq_true rfl⟩) hP hK [0, 1, 2, 3] rfl 2 0 rfl rfl rfl hl.1 rfl (Nat.le_of_ble_eq_true rfl) ⟨Nat.zero_le _, Nat.zero_le _⟩ dX2_hangsTogetherAt_2 (fun r hr2 => ?_)
  subst hr2
  refine lv_aload_n hx hb dX2_hangsTogetherAt_5 rfl (lv_at hl 0 rfl) ?_
  refine lv_iload_n hx hb dX2_hangsTogetherAt_6 rfl (lv_at hl 1 rfl) ?_
  refine lv_iconst (v := zB true) hx hb dX2_hangsTogetherAt_7 (by decide) ?_
  refine lv_iconst (v := zB true) hx hb dX2_hangsTogetherAt_8 (by decide) ?_
  refine lv_aload_n hx hb dX2_hangsTogetherAt_9 rfl (lv_at hl 2 rfl) ?_
  refine z_cRVi (wc := [(g, .inr (2, [.ref gf, .ref gt, .ref gw, .int (zB dir), .int (nI nv), .int (nI me)])), (gf, aI cA 40 (fun j => nI (Fr j))), (gt, aI cA 40 (fun j => nI (To j))), (ua, aI cA 40 (fun j => iZ (U j)))]) (rm := ({ frames := 0, cells := 0, slots := 0, locals := 0 } : Room)) (As := [.int (nI v), .int (zB true), .int (zB true), .ref ua]) (rest := [.int (nI (gTouch Fr To U me))]) ⟨hx, hb, hml, hown, hts⟩ (c_X2_reachOf l D cA g gf gt gw Fr To dir nv me ua U v true true (by first | assumption | omega) (by first | assumption | omega) (by first | assumption | omega) (by first | assumption | omega) (by first | assumption | omega)) (cwV 4 hts gX2_hangsTogetherAt_X2_reachOf rfl rfl rfl (by decide +kernel) ⟨Nat.le_of_ble_eq_true rfl, Nat.le_of_ble_eq_true rfl⟩) hP hK [0, 1, 2, 3] rfl 2 0 rfl rfl rfl hl.1 rfl (Nat.le_of_ble_eq_true rfl) ⟨Nat.zero_le _, Nat.zero_le _⟩ dX2_hangsTogetherAt_10 (fun r hr10 => ?_)
  subst hr10
  refine lv_iconst (v := iZ (-1)) hx hb dX2_hangsTogetherAt_13 (by decide) ?_
  refine lv_ixor hx hb dX2_hangsTogetherAt_14 ?_
  refine lv_iand hx hb dX2_hangsTogetherAt_15 ?_
  refine z_topi (v := nI ((gTouch Fr To U me) &&& (65535 ^^^ (gRL true true Fr To U me 16 (2 ^ v))))) (nb_not (gTouch_lt hF hT _)) ?_
  refine z_nne hx hb (Nat.lt_of_le_of_lt Nat.and_le_left (Nat.lt_trans (gTouch_lt hF hT me) (by decide))) (tgt := 23) dX2_hangsTogetherAt_16 (by decide) (fun h16 => ?_) (fun h16 => ?_)
  · skip
    refine lv_iconst (v := zB false) hx hb dX2_hangsTogetherAt_23 (by decide) ?_
    exact z_zretR hx hb hr hlocks hQ (by congr 1; simp [gHang, h16]) dX2_hangsTogetherAt_24 rfl rfl
  · skip
    refine lv_iconst (v := zB true) hx hb dX2_hangsTogetherAt_19 (by decide) ?_
    refine lv_goto (tgt := 24) hx hb dX2_hangsTogetherAt_20 (by decide) ?_
    exact z_zretR hx hb hr hlocks hQ (by congr 1; simp [gHang, h16]) dX2_hangsTogetherAt_24 rfl rfl
set_option maxHeartbeats 4000000 in
set_option maxRecDepth 100000 in
/-- Graph.canBeCoveredFrom -/
theorem c_X2_canBeCoveredFrom (l : Launch) (D : va_G) (cA : Nat → ClassId) (g : Nat) (gf : Nat) (gt : Nat) (gw : Nat) (Fr : Nat → Nat) (To : Nat → Nat) (dir : Bool) (nv : Nat) (me : Nat) (ua : Nat) (U : Nat → Int) (v : Nat) (hme : me ≤ 40) (hF : ∀ j, Fr j < 16) (hT : ∀ j, To j < 16) (hU : ∀ j, -2147483648 ≤ U j ∧ U j < 2147483648) (hv : v < 16) : Met l yX2_canBeCoveredFrom wsX2_canBeCoveredFrom ({ frames := 1, cells := 0, slots := 0, locals := 28 } : Room) (zRd D vwCl (zT cA) [(g, .inr (2, [.ref gf, .ref gt, .ref gw, .int (zB dir), .int (nI nv), .int (nI me)])), (gf, aI cA 40 (fun j => nI (Fr j))), (gt, aI cA 40 (fun j => nI (To j))), (ua, aI cA 40 (fun j => iZ (U j)))] [.ref g, .int (nI v), .ref ua]) (vp_Si (fun r => r = zB (gCover dir Fr To U me v))) 0 0 (fun _ => False) := by
  refine z_read (cc := cX2_canBeCoveredFrom) (maxL := 4) (ret := (some .boolean)) (by decide) rfl (Nat.le_of_ble_eq_true rfl) ?_
  intro p e s m below meth c hx hb hr hml hown hts hlocks hP hK Q hQ ls hl
  have hown : s.vm.findClass RX2 = some m.cls := hown
  have hl : lv_has ls 4 [(0, .ref g), (1, .int (nI v)), (2, .ref ua)] := hl
  generalize hav : ([.ref g, .int (nI v), .ref ua] : List Value).toArray = args at hts hQ ⊢
  have hin2 : ∀ w ∈ wsX20, w ∈ wsX2_canBeCoveredFrom := by decide +kernel
  refine lv_aload_n hx hb dX2_canBeCoveredFrom_0 rfl (lv_at hl 0 rfl) ?_
  refine lv_aload_n hx hb dX2_canBeCoveredFrom_1 rfl (lv_at hl 2 rfl) ?_
  refine z_cRVi (wc := [(g, .inr (2, [.ref gf, .ref gt, .ref gw, .int (zB dir), .int (nI nv), .int (nI me)])), (gf, aI cA 40 (fun j => nI (Fr j))), (gt, aI cA 40 (fun j => nI (To j))), (ua, aI cA 40 (fun j => iZ (U j)))]) (rm := ({ frames := 0, cells := 0, slots := 0, locals := 0 } : Room)) (As := [.ref ua]) (rest := []) ⟨hx, hb, hml, hown, hts⟩ (c_X2_touchedBy l D cA g gf gt gw Fr To dir nv me ua U (by first | assumption | omega) (by first | assumption | omega) (by first | assumption | omega) (by first | assumption | omega)) (cwV 1 hts gX2_canBeCoveredFrom_X2_touchedBy rfl rfl rfl (by decide +kernel) ⟨Nat.le_of_ble_eq_true rfl, Nat.le_of_ble_eq_true rfl⟩) hP hK [0, 1, 2, 3] rfl 2 0 rfl rfl rfl hl.1 rfl (Nat.le_of_ble_eq_true rfl) ⟨Nat.zero_le _, Nat.zero_le _⟩ dX2_canBeCoveredFrom_2 (fun r hr2 => ?_)
  subst hr2
  refine lv_istore_n (lv' := [(3, .int (nI (gTouch Fr To U me))), (0, .ref g), (1, .int (nI v)), (2, .ref ua)]) hx hb dX2_canBeCoveredFrom_5 rfl hl (by decide) rfl (fun ls hl => ?_)
  refine lv_iload_n hx hb dX2_canBeCoveredFrom_6 rfl (lv_at hl 0 rfl) ?_
  refine lv_aload_n hx hb dX2_canBeCoveredFrom_7 rfl (lv_at hl 1 rfl) ?_
  refine lv_iload_n hx hb dX2_canBeCoveredFrom_8 rfl (lv_at hl 2 rfl) ?_
  refine lv_iconst (v := zB true) hx hb dX2_canBeCoveredFrom_9 (by decide) ?_
  refine lv_aload_n hx hb dX2_canBeCoveredFrom_10 rfl (lv_at hl 1 rfl) ?_
  have J22 : ∀ (ls : Array Slot), lv_has ls 4 [(0, .ref g), (1, .int (nI v)), (2, .ref ua), (3, .int (nI (gTouch Fr To U me)))] → W p l e ({ frames := 1, cells := 0, slots := 0, locals := 28 } : Room) s m args below meth c s.heap [] 0 0 Q (F0 m 22 ls [.int (zB (!dir)), .int (zB true), .int (nI v), .ref g, .int (nI (gTouch Fr To U me))]) := by
    intro   ls hl
    refine lv_aload_n hx hb dX2_canBeCoveredFrom_22 rfl (lv_at hl 2 rfl) ?_
    refine z_cRVi (wc := [(g, .inr (2, [.ref gf, .ref gt, .ref gw, .int (zB dir), .int (nI nv), .int (nI me)])), (gf, aI cA 40 (fun j => nI (Fr j))), (gt, aI cA 40 (fun j => nI (To j))), (ua, aI cA 40 (fun j => iZ (U j)))]) (rm := ({ frames := 0, cells := 0, slots := 0, locals := 0 } : Room)) (As := [.int (nI v), .int (zB true), .int (zB (!dir)), .ref ua]) (rest := [.int (nI (gTouch Fr To U me))]) ⟨hx, hb, hml, hown, hts⟩ (c_X2_reachOf l D cA g gf gt gw Fr To dir nv me ua U v true (!dir) (by first | assumption | omega) (by first | assumption | omega) (by first | assumption | omega) (by first | assumption | omega) (by first | assumption | omega)) (cwV 4 hts gX2_canBeCoveredFrom_X2_reachOf rfl rfl rfl (by decide +kernel) ⟨Nat.le_of_ble_eq_true rfl, Nat.le_of_ble_eq_true rfl⟩) hP hK [0, 1, 2, 3] rfl 2 0 rfl rfl rfl hl.1 rfl (Nat.le_of_ble_eq_true rfl) ⟨Nat.zero_le _, Nat.zero_le _⟩ dX2_canBeCoveredFrom_23 (fun r hr23 => ?_)
    subst hr23
    refine lv_iconst (v := iZ (-1)) hx hb dX2_canBeCoveredFrom_26 (by decide) ?_
    refine lv_ixor hx hb dX2_canBeCoveredFrom_27 ?_
    refine lv_iand hx hb dX2_canBeCoveredFrom_28 ?_
    refine z_topi (v := nI ((gTouch Fr To U me) &&& (65535 ^^^ (gRL true (!dir) Fr To U me 16 (2 ^ v))))) (nb_not (gTouch_lt hF hT _)) ?_
    refine z_nne hx hb (Nat.lt_of_le_of_lt Nat.and_le_left (Nat.lt_trans (gTouch_lt hF hT me) (by decide))) (tgt := 62) dX2_canBeCoveredFrom_29 (by decide) (fun h29 => ?_) (fun h29 => ?_)
    · skip
      refine lv_iconst (v := zB false) hx hb dX2_canBeCoveredFrom_62 (by decide) ?_
      exact z_zretR hx hb hr hlocks hQ (by congr 1; simp [gCover, *]) dX2_canBeCoveredFrom_63 rfl rfl
    · skip
      refine lv_iload_n hx hb dX2_canBeCoveredFrom_32 rfl (lv_at hl 3 rfl) ?_
      refine lv_aload_n hx hb dX2_canBeCoveredFrom_33 rfl (lv_at hl 0 rfl) ?_
      refine lv_iload_n hx hb dX2_canBeCoveredFrom_34 rfl (lv_at hl 1 rfl) ?_
      refine lv_aload_n hx hb dX2_canBeCoveredFrom_35 rfl (lv_at hl 0 rfl) ?_
      have J47 : ∀ (ls : Array Slot), lv_has ls 4 [(0, .ref g), (1, .int (nI v)), (2, .ref ua), (3, .int (nI (gTouch Fr To U me)))] → W p l e ({ frames := 1, cells := 0, slots := 0, locals := 28 } : Room) s m args below meth c s.heap [] 0 0 Q (F0 m 47 ls [.int (zB (!dir)), .int (nI v), .ref g, .int (nI (gTouch Fr To U me))]) := by
        intro   ls hl
        refine lv_iconst (v := zB true) hx hb dX2_canBeCoveredFrom_47 (by decide) ?_
        refine lv_aload_n hx hb dX2_canBeCoveredFrom_48 rfl (lv_at hl 2 rfl) ?_
        refine z_cRVi (wc := [(g, .inr (2, [.ref gf, .ref gt, .ref gw, .int (zB dir), .int (nI nv), .int (nI me)])), (gf, aI cA 40 (fun j => nI (Fr j))), (gt, aI cA 40 (fun j => nI (To j))), (ua, aI cA 40 (fun j => iZ (U j)))]) (rm := ({ frames := 0, cells := 0, slots := 0, locals := 0 } : Room)) (As := [.int (nI v), .int (zB (!dir)), .int (zB true), .ref ua]) (rest := [.int (nI (gTouch Fr To U me))]) ⟨hx, hb, hml, hown, hts⟩ (c_X2_reachOf l D cA g gf gt gw Fr To dir nv me ua U v (!dir) true (by first | assumption | omega) (by first | assumption | omega) (by first | assumption | omega) (by first | assumption | omega) (by first | assumption | omega)) (cwV 4 hts gX2_canBeCoveredFrom_X2_reachOf rfl rfl rfl (by decide +kernel) ⟨Nat.le_of_ble_eq_true rfl, Nat.le_of_ble_eq_true rfl⟩) hP hK [0, 1, 2, 3] rfl 2 0 rfl rfl rfl hl.1 rfl (Nat.le_of_ble_eq_true rfl) ⟨Nat.zero_le _, Nat.zero_le _⟩ dX2_canBeCoveredFrom_49 (fun r hr49 => ?_)
        subst hr49
        refine lv_iconst (v := iZ (-1)) hx hb dX2_canBeCoveredFrom_52 (by decide) ?_
        refine lv_ixor hx hb dX2_canBeCoveredFrom_53 ?_
        refine lv_iand hx hb dX2_canBeCoveredFrom_54 ?_
        refine z_topi (v := nI ((gTouch Fr To U me) &&& (65535 ^^^ (gRL (!dir) true Fr To U me 16 (2 ^ v))))) (nb_not (gTouch_lt hF hT _)) ?_
        refine z_nne hx hb (Nat.lt_of_le_of_lt Nat.and_le_left (Nat.lt_trans (gTouch_lt hF hT me) (by decide))) (tgt := 62) dX2_canBeCoveredFrom_55 (by decide) (fun h55 => ?_) (fun h55 => ?_)
        · skip
          refine lv_iconst (v := zB false) hx hb dX2_canBeCoveredFrom_62 (by decide) ?_
          exact z_zretR hx hb hr hlocks hQ (by congr 1; simp [gCover, *]) dX2_canBeCoveredFrom_63 rfl rfl
        · skip
          refine lv_iconst (v := zB true) hx hb dX2_canBeCoveredFrom_58 (by decide) ?_
          refine lv_goto (tgt := 63) hx hb dX2_canBeCoveredFrom_59 (by decide) ?_
          exact z_zretR hx hb hr hlocks hQ (by congr 1; simp [gCover, *]) dX2_canBeCoveredFrom_63 rfl rfl
      refine va_get (D := D) (ci := 2) (v := .int (zB dir)) (C := RX2) (T := TX2) (N := 6) hx hb hts hin2 hown hK hP 0 rfl rfl 3 (by decide) (hts (.fieldLink RX2 21 "TourHouse$Graph" "directed" "Z") (by decide +kernel)) (fun _ h9 => h9) rfl dX2_canBeCoveredFrom_36 ?_
      refine z_ifne hx hb (tgt := 46) dX2_canBeCoveredFrom_39 (by decide) (fun h39 => ?_) (fun h39 => ?_)
      · skip
        refine lv_iconst (v := zB false) hx hb dX2_canBeCoveredFrom_46 (by decide) ?_
        refine z_topi (v := zB (!dir)) (by rw [h39]; rfl) ?_
        exact J47   ls (lv_sub hl [0, 1, 2, 3] (by rfl))
      · skip
        refine lv_iconst (v := zB true) hx hb dX2_canBeCoveredFrom_42 (by decide) ?_
        refine lv_goto (tgt := 47) hx hb dX2_canBeCoveredFrom_43 (by decide) ?_
        refine z_topi (v := zB (!dir)) (by rw [h39]; rfl) ?_
        exact J47   ls (lv_sub hl [0, 1, 2, 3] (by rfl))
  refine va_get (D := D) (ci := 2) (v := .int (zB dir)) (C := RX2) (T := TX2) (N := 6) hx hb hts hin2 hown hK hP 0 rfl rfl 3 (by decide) (hts (.fieldLink RX2 21 "TourHouse$Graph" "directed" "Z") (by decide +kernel)) (fun _ h9 => h9) rfl dX2_canBeCoveredFrom_11 ?_
  refine z_ifne hx hb (tgt := 21) dX2_canBeCoveredFrom_14 (by decide) (fun h14 => ?_) (fun h14 => ?_)
  · skip
    refine lv_iconst (v := zB false) hx hb dX2_canBeCoveredFrom_21 (by decide) ?_
    refine z_topi (v := zB (!dir)) (by rw [h14]; rfl) ?_
    exact J22   ls (lv_sub hl [1, 2, 3, 0] (by rfl))
  · skip
    refine lv_iconst (v := zB true) hx hb dX2_canBeCoveredFrom_17 (by decide) ?_
    refine lv_goto (tgt := 22) hx hb dX2_canBeCoveredFrom_18 (by decide) ?_
    refine z_topi (v := zB (!dir)) (by rw [h14]; rfl) ?_
    exact J22   ls (lv_sub hl [1, 2, 3, 0] (by rfl))
set_option maxHeartbeats 4000000 in
set_option maxRecDepth 100000 in
/-- Graph.countRegions -/
theorem c_X2_countRegions (l : Launch) (D : va_G) (cA : Nat → ClassId) (g : Nat) (gf : Nat) (gt : Nat) (gw : Nat) (Fr : Nat → Nat) (To : Nat → Nat) (dir : Bool) (nv : Nat) (me : Nat) (ua : Nat) (U : Nat → Int) (hme : me ≤ 40) (hF : ∀ j, Fr j < 16) (hT : ∀ j, To j < 16) (hU : ∀ j, -2147483648 ≤ U j ∧ U j < 2147483648) (hnv : nv ≤ 16) : Met l yX2_countRegions wsX2_countRegions ({ frames := 1, cells := 0, slots := 0, locals := 28 } : Room) (zRd D vwCl (zT cA) [(g, .inr (2, [.ref gf, .ref gt, .ref gw, .int (zB dir), .int (nI nv), .int (nI me)])), (gf, aI cA 40 (fun j => nI (Fr j))), (gt, aI cA 40 (fun j => nI (To j))), (ua, aI cA 40 (fun j => iZ (U j)))] [.ref g, .ref ua]) (vp_Si (fun r => r = nI ((gReg Fr To U me nv).2))) 0 0 (fun _ => False) := by
  refine z_read (cc := cX2_countRegions) (maxL := 5) (ret := (some .int)) (by decide) rfl (Nat.le_of_ble_eq_true rfl) ?_
  intro p e s m below meth c hx hb hr hml hown hts hlocks hP hK Q hQ ls hl
  have hown : s.vm.findClass RX2 = some m.cls := hown
  have hl : lv_has ls 5 [(0, .ref g), (1, .ref ua)] := hl
  generalize hav : ([.ref g, .ref ua] : List Value).toArray = args at hts hQ ⊢
  have hin2 : ∀ w ∈ wsX20, w ∈ wsX2_countRegions := by decide +kernel
  refine lv_aload_n hx hb dX2_countRegions_0 rfl (lv_at hl 0 rfl) ?_
  refine lv_aload_n hx hb dX2_countRegions_1 rfl (lv_at hl 1 rfl) ?_
  refine z_cRVi (wc := [(g, .inr (2, [.ref gf, .ref gt, .ref gw, .int (zB dir), .int (nI nv), .int (nI me)])), (gf, aI cA 40 (fun j => nI (Fr j))), (gt, aI cA 40 (fun j => nI (To j))), (ua, aI cA 40 (fun j => iZ (U j)))]) (rm := ({ frames := 0, cells := 0, slots := 0, locals := 0 } : Room)) (As := [.ref ua]) (rest := []) ⟨hx, hb, hml, hown, hts⟩ (c_X2_touchedBy l D cA g gf gt gw Fr To dir nv me ua U (by first | assumption | omega) (by first | assumption | omega) (by first | assumption | omega) (by first | assumption | omega)) (cwV 1 hts gX2_countRegions_X2_touchedBy rfl rfl rfl (by decide +kernel) ⟨Nat.le_of_ble_eq_true rfl, Nat.le_of_ble_eq_true rfl⟩) hP hK [0, 1, 2, 3] rfl 2 0 rfl rfl rfl hl.1 rfl (Nat.le_of_ble_eq_true rfl) ⟨Nat.zero_le _, Nat.zero_le _⟩ dX2_countRegions_2 (fun r hr2 => ?_)
  subst hr2
  refine lv_istore_n (lv' := [(2, .int (nI (gTouch Fr To U me))), (0, .ref g), (1, .ref ua)]) hx hb dX2_countRegions_5 rfl hl (by decide) rfl (fun ls hl => ?_)
  refine lv_iconst (v := nI 0) hx hb dX2_countRegions_6 (by decide) ?_
  refine lv_istore_n (lv' := [(3, .int (nI 0)), (2, .int (nI (gTouch Fr To U me))), (0, .ref g), (1, .ref ua)]) hx hb dX2_countRegions_7 rfl hl (by decide) rfl (fun ls hl => ?_)
  refine lv_iconst (v := nI 0) hx hb dX2_countRegions_8 (by decide) ?_
  refine lv_istore (lv' := [(4, .int (nI 0)), (3, .int (nI 0)), (2, .int (nI (gTouch Fr To U me))), (0, .ref g), (1, .ref ua)]) hx hb dX2_countRegions_9 hl (by decide) rfl (fun ls hl => ?_)
  have J11 : ∀ (n : Nat), ∀ (i : Nat), (i ≤ nv) → nv - i < n → ∀ (ls : Array Slot), lv_has ls 5 [(0, .ref g), (1, .ref ua), (2, .int (nI ((gReg Fr To U me i).1))), (3, .int (nI ((gReg Fr To U me i).2))), (4, .int (nI i))] → W p l e ({ frames := 1, cells := 0, slots := 0, locals := 28 } : Room) s m args below meth c s.heap [] 0 0 Q (F0 m 11 ls []) := by
    intro n11
    induction n11 with
    | zero => intro i hi hn; exact absurd hn (Nat.not_lt_zero _)
    | succ n11 ih11 =>
      intro i hi hn11 ls hl
      refine lv_iload hx hb dX2_countRegions_11 (lv_at hl 4 rfl) ?_
      refine lv_aload_n hx hb dX2_countRegions_13 rfl (lv_at hl 0 rfl) ?_
      refine va_get (D := D) (ci := 2) (v := .int (nI nv)) (C := RX2) (T := TX2) (N := 6) hx hb hts hin2 hown hK hP 0 rfl rfl 4 (by decide) (hts (.fieldLink RX2 25 "TourHouse$Graph" "vertices" "I") (by decide +kernel)) (fun _ h9 => h9) rfl dX2_countRegions_14 ?_
      refine z_ge hx hb (by omega) (by omega) (tgt := 53) dX2_countRegions_17 (by decide) (fun h17 => ?_) (fun h17 => ?_)
      · skip
        refine lv_iload_n hx hb dX2_countRegions_53 rfl (lv_at hl 3 rfl) ?_
        exact z_iretR hx hb hr hlocks hQ (by rw [show i = nv from by omega]) dX2_countRegions_54 rfl rfl
      · skip
        refine lv_iload_n hx hb dX2_countRegions_20 rfl (lv_at hl 2 rfl) ?_
        refine lv_iload hx hb dX2_countRegions_21 (lv_at hl 4 rfl) ?_
        refine lv_ishr hx hb dX2_countRegions_23 ?_
        refine z_topi (v := nI (((gReg Fr To U me i).1) / 2 ^ i)) (nb_shr (Nat.lt_trans (gReg_lt hF hT i) (by decide)) (by omega)) ?_
        refine lv_iconst (v := nI 1) hx hb dX2_countRegions_24 (by decide) ?_
        refine lv_iand hx hb dX2_countRegions_25 ?_
        refine z_topi (v := nI ((((gReg Fr To U me i).1) / 2 ^ i) % 2)) (nb_and1 (((gReg Fr To U me i).1) / 2 ^ i)) ?_
        refine lv_iconst (v := nI 1) hx hb dX2_countRegions_26 (by decide) ?_
        refine z_ne hx hb (by omega) (by decide) (tgt := 47) dX2_countRegions_27 (by decide) (fun h27 => ?_) (fun h27 => ?_)
        · skip
          have hl : lv_has ls 5 [(0, .ref g), (1, .ref ua), (2, .int (nI ((gReg Fr To U me (i + 1)).1))), (3, .int (nI ((gReg Fr To U me i).2))), (4, .int (nI i))] := by
            have q9 : nI ((gReg Fr To U me (i + 1)).1) = nI ((gReg Fr To U me i).1) := by congr 1; simp only [gReg]; first | rw [if_pos h27] | rw [if_neg h27]
            rw [q9]; exact hl
          have hl : lv_has ls 5 [(0, .ref g), (1, .ref ua), (2, .int (nI ((gReg Fr To U me (i + 1)).1))), (3, .int (nI ((gReg Fr To U me (i + 1)).2))), (4, .int (nI i))] := by
            have q9 : nI ((gReg Fr To U me (i + 1)).2) = nI ((gReg Fr To U me i).2) := by congr 1; simp only [gReg]; first | rw [if_pos h27] | rw [if_neg h27]
            rw [q9]; exact hl
          refine lv_iinc (v := nI (i + 1)) (lv' := [(4, .int (nI (i + 1))), (0, .ref g), (1, .ref ua), (2, .int (nI ((gReg Fr To U me (i + 1)).1))), (3, .int (nI ((gReg Fr To U me (i + 1)).2)))]) hx hb dX2_countRegions_47 hl (k := 4) rfl (nI_1 i) (by decide) rfl (fun ls hl => ?_)
          refine lv_goto (tgt := 11) hx hb dX2_countRegions_50 (by decide) ?_
          exact ih11 (i + 1) (by omega) (by omega) ls (lv_sub hl [1, 2, 3, 4, 0] (by rfl))
        · skip
          refine lv_iload_n hx hb dX2_countRegions_30 rfl (lv_at hl 2 rfl) ?_
          refine lv_aload_n hx hb dX2_countRegions_31 rfl (lv_at hl 0 rfl) ?_
          refine lv_iload hx hb dX2_countRegions_32 (lv_at hl 4 rfl) ?_
          refine lv_iconst (v := zB true) hx hb dX2_countRegions_34 (by decide) ?_
          refine lv_iconst (v := zB true) hx hb dX2_countRegions_35 (by decide) ?_
          refine lv_aload_n hx hb dX2_countRegions_36 rfl (lv_at hl 1 rfl) ?_
          refine z_cRVi (wc := [(g, .inr (2, [.ref gf, .ref gt, .ref gw, .int (zB dir), .int (nI nv), .int (nI me)])), (gf, aI cA 40 (fun j => nI (Fr j))), (gt, aI cA 40 (fun j => nI (To j))), (ua, aI cA 40 (fun j => iZ (U j)))]) (rm := ({ frames := 0, cells := 0, slots := 0, locals := 0 } : Room)) (As := [.int (nI i), .int (zB true), .int (zB true), .ref ua]) (rest := [.int (nI ((gReg Fr To U me i).1))]) ⟨hx, hb, hml, hown, hts⟩ (c_X2_reachOf l D cA g gf gt gw Fr To dir nv me ua U i true true (by first | assumption | omega) (by first | assumption | omega) (by first | assumption | omega) (by first | assumption | omega) (by first | assumption | omega)) (cwV 4 hts gX2_countRegions_X2_reachOf rfl rfl rfl (by decide +kernel) ⟨Nat.le_of_ble_eq_true rfl, Nat.le_of_ble_eq_true rfl⟩) hP hK [0, 1, 2, 3] rfl 2 0 rfl rfl rfl hl.1 rfl (Nat.le_of_ble_eq_true rfl) ⟨Nat.zero_le _, Nat.zero_le _⟩ dX2_countRegions_37 (fun r hr37 => ?_)
          subst hr37
          refine lv_iconst (v := iZ (-1)) hx hb dX2_countRegions_40 (by decide) ?_
          refine lv_ixor hx hb dX2_countRegions_41 ?_
          refine lv_iand hx hb dX2_countRegions_42 ?_
          refine z_topi (v := nI (((gReg Fr To U me i).1) &&& (65535 ^^^ (gRL true true Fr To U me 16 (2 ^ i))))) (nb_not (gReg_lt hF hT i)) ?_
          refine lv_istore_n (lv' := [(2, .int (nI (((gReg Fr To U me i).1) &&& (65535 ^^^ (gRL true true Fr To U me 16 (2 ^ i)))))), (0, .ref g), (1, .ref ua), (3, .int (nI ((gReg Fr To U me i).2))), (4, .int (nI i))]) hx hb dX2_countRegions_43 rfl hl (by decide) rfl (fun ls hl => ?_)
          refine lv_iinc (v := nI (((gReg Fr To U me i).2) + 1)) (lv' := [(3, .int (nI (((gReg Fr To U me i).2) + 1))), (2, .int (nI (((gReg Fr To U me i).1) &&& (65535 ^^^ (gRL true true Fr To U me 16 (2 ^ i)))))), (0, .ref g), (1, .ref ua), (4, .int (nI i))]) hx hb dX2_countRegions_44 hl (k := 3) rfl (nI_1 ((gReg Fr To U me i).2)) (by decide) rfl (fun ls hl => ?_)
          have hl : lv_has ls 5 [(3, .int (nI (((gReg Fr To U me i).2) + 1))), (2, .int (nI ((gReg Fr To U me (i + 1)).1))), (0, .ref g), (1, .ref ua), (4, .int (nI i))] := by
            have q9 : nI ((gReg Fr To U me (i + 1)).1) = nI (((gReg Fr To U me i).1) &&& (65535 ^^^ (gRL true true Fr To U me 16 (2 ^ i)))) := by congr 1; simp only [gReg]; first | rw [if_pos h27] | rw [if_neg h27]
            rw [q9]; exact hl
          have hl : lv_has ls 5 [(3, .int (nI ((gReg Fr To U me (i + 1)).2))), (2, .int (nI ((gReg Fr To U me (i + 1)).1))), (0, .ref g), (1, .ref ua), (4, .int (nI i))] := by
            have q9 : nI ((gReg Fr To U me (i + 1)).2) = nI (((gReg Fr To U me i).2) + 1) := by congr 1; simp only [gReg]; first | rw [if_pos h27] | rw [if_neg h27]
            rw [q9]; exact hl
          refine lv_iinc (v := nI (i + 1)) (lv' := [(4, .int (nI (i + 1))), (3, .int (nI ((gReg Fr To U me (i + 1)).2))), (2, .int (nI ((gReg Fr To U me (i + 1)).1))), (0, .ref g), (1, .ref ua)]) hx hb dX2_countRegions_47 hl (k := 4) rfl (nI_1 i) (by decide) rfl (fun ls hl => ?_)
          refine lv_goto (tgt := 11) hx hb dX2_countRegions_50 (by decide) ?_
          exact ih11 (i + 1) (by omega) (by omega) ls (lv_sub hl [3, 4, 2, 1, 0] (by rfl))
  exact J11 ((nv - 0) + 1) 0 (by omega) (by omega) ls (lv_sub hl [3, 4, 2, 1, 0] (by rfl))
set_option maxHeartbeats 4000000 in
set_option maxRecDepth 100000 in
/-- Graph.begin -/
theorem c_X2_begin (l : Launch) (D : va_G) (cA : Nat → ClassId) (sz : Nat) (g : Nat) (gf : Nat) (gt : Nat) (gw : Nat) (dir : Bool) (nv : Nat) (me : Nat) (d2 : Bool) (n2 : Nat)  : Met l yX2_begin wsX2_begin ({ frames := 0, cells := 0, slots := 0, locals := 0 } : Room) (zWr D vwCl (zT cA) [(g, .inr (2, [.ref gf, .ref gt, .ref gw, .int (zB dir), .int (nI nv), .int (nI me)]))] sz [.ref g, .int (zB d2), .int (nI n2)]) (zQv D vwCl (zT cA) (va_A [(g, .inr (2, [.ref gf, .ref gt, .ref gw, .int (zB dir), .int (nI nv), .int (nI me)]))] sz) [(g, .inr (2, [.ref gf, .ref gt, .ref gw, .int (zB d2), .int (nI n2), .int (nI 0)]))]) 0 0 (va_A [(g, .inr (2, [.ref gf, .ref gt, .ref gw, .int (zB dir), .int (nI nv), .int (nI me)]))] sz) := by
  refine z_write (cc := cX2_begin) (maxL := 3) (ret := none) (by decide) rfl (Nat.le_of_ble_eq_true rfl) ?_
  intro p e s m below meth c hx hb hr hml hown hts hlocks A hAe hA H locs hP hK hD hS hini Q hQ ls hl
  have hown : s.vm.findClass RX2 = some m.cls := hown
  have hl : lv_has ls 3 [(0, .ref g), (1, .int (zB d2)), (2, .int (nI n2))] := hl
  generalize hav : ([.ref g, .int (zB d2), .int (nI n2)] : List Value).toArray = args at hts hQ ⊢
  have hin2 : ∀ w ∈ wsX20, w ∈ wsX2_begin := by decide +kernel
  refine lv_aload_n hx hb dX2_begin_0 rfl (lv_at hl 0 rfl) ?_
  refine lv_iload_n hx hb dX2_begin_1 rfl (lv_at hl 1 rfl) ?_
  refine va_put (D := D) (ci := 2) (v := .int (zB d2)) (ty := .boolean) (C := RX2) (T := TX2) (N := 6) hx hb hts hin2 tyX2 tyX2_ok nmX2 hown hK hP hD hS 0 rfl rfl 3 (by decide) (hts (.fieldLink RX2 21 "TourHouse$Graph" "directed" "Z") (by decide +kernel)) (fun _ h9 => h9) rfl (by decide +kernel) (zB_nar _) (zB_fits _) (Nat.le_of_ble_eq_true rfl) dX2_begin_2 (fun H locs hP hD hS => ?_)
  have hP : va_P D vwCl [(g, .inr (2, [.ref gf, .ref gt, .ref gw, .int (zB d2), .int (nI nv), .int (nI me)]))] H := hP
  have hD : va_D A [(g, .inr (2, [.ref gf, .ref gt, .ref gw, .int (zB d2), .int (nI nv), .int (nI me)]))] := hD
  refine lv_aload_n hx hb dX2_begin_5 rfl (lv_at hl 0 rfl) ?_
  refine lv_iload_n hx hb dX2_begin_6 rfl (lv_at hl 2 rfl) ?_
  refine va_put (D := D) (ci := 2) (v := .int (nI n2)) (ty := .int) (C := RX2) (T := TX2) (N := 6) hx hb hts hin2 tyX2 tyX2_ok nmX2 hown hK hP hD hS 0 rfl rfl 4 (by decide) (hts (.fieldLink RX2 25 "TourHouse$Graph" "vertices" "I") (by decide +kernel)) (fun _ h9 => h9) rfl (by decide +kernel) (rfl) (rfl) (Nat.le_of_ble_eq_true rfl) dX2_begin_7 (fun H locs hP hD hS => ?_)
  have hP : va_P D vwCl [(g, .inr (2, [.ref gf, .ref gt, .ref gw, .int (zB d2), .int (nI n2), .int (nI me)]))] H := hP
  have hD : va_D A [(g, .inr (2, [.ref gf, .ref gt, .ref gw, .int (zB d2), .int (nI n2), .int (nI me)]))] := hD
  refine lv_aload_n hx hb dX2_begin_10 rfl (lv_at hl 0 rfl) ?_
  refine lv_iconst (v := nI 0) hx hb dX2_begin_11 (by decide) ?_
  refine va_put (D := D) (ci := 2) (v := .int (nI 0)) (ty := .int) (C := RX2) (T := TX2) (N := 6) hx hb hts hin2 tyX2 tyX2_ok nmX2 hown hK hP hD hS 0 rfl rfl 5 (by decide) (hts (.fieldLink RX2 29 "TourHouse$Graph" "edges" "I") (by decide +kernel)) (fun _ h9 => h9) rfl (by decide +kernel) (rfl) (rfl) (Nat.le_of_ble_eq_true rfl) dX2_begin_12 (fun H locs hP hD hS => ?_)
  have hP : va_P D vwCl [(g, .inr (2, [.ref gf, .ref gt, .ref gw, .int (zB d2), .int (nI n2), .int (nI 0)]))] H := hP
  have hD : va_D A [(g, .inr (2, [.ref gf, .ref gt, .ref gw, .int (zB d2), .int (nI n2), .int (nI 0)]))] := hD
  exact z_vretW hx hb hr hlocks hAe hQ (hP) hK (hD) hS dX2_begin_15
set_option maxHeartbeats 4000000 in
set_option maxRecDepth 100000 in
/-- Graph.addEdge -/
theorem c_X2_addEdge (l : Launch) (D : va_G) (cA : Nat → ClassId) (sz : Nat) (g : Nat) (gf : Nat) (gt : Nat) (gw : Nat) (Fr : Nat → Nat) (To : Nat → Nat) (We : Nat → Nat) (dir : Bool) (nv : Nat) (me : Nat) (a : Nat) (b : Nat) (w : Nat) (hme : me < 40) : Met l yX2_addEdge wsX2_addEdge ({ frames := 0, cells := 0, slots := 0, locals := 0 } : Room) (zWr D vwCl (zT cA) [(g, .inr (2, [.ref gf, .ref gt, .ref gw, .int (zB dir), .int (nI nv), .int (nI me)])), (gf, aI cA 40 (fun j => nI (Fr j))), (gt, aI cA 40 (fun j => nI (To j))), (gw, aI cA 40 (fun j => nI (We j)))] sz [.ref g, .int (nI a), .int (nI b), .int (nI w)]) (zQv D vwCl (zT cA) (va_A [(g, .inr (2, [.ref gf, .ref gt, .ref gw, .int (zB dir), .int (nI nv), .int (nI me)])), (gf, aI cA 40 (fun j => nI (Fr j))), (gt, aI cA 40 (fun j => nI (To j))), (gw, aI cA 40 (fun j => nI (We j)))] sz) [(g, .inr (2, [.ref gf, .ref gt, .ref gw, .int (zB dir), .int (nI nv), .int (nI (me + 1))])), (gf, aI cA 40 (fun j => nI ((va_up Fr me a) j))), (gt, aI cA 40 (fun j => nI ((va_up To me b) j))), (gw, aI cA 40 (fun j => nI ((va_up We me w) j)))]) 0 0 (va_A [(g, .inr (2, [.ref gf, .ref gt, .ref gw, .int (zB dir), .int (nI nv), .int (nI me)])), (gf, aI cA 40 (fun j => nI (Fr j))), (gt, aI cA 40 (fun j => nI (To j))), (gw, aI cA 40 (fun j => nI (We j)))] sz) := by
  refine z_write (cc := cX2_addEdge) (maxL := 4) (ret := none) (by decide) rfl (Nat.le_of_ble_eq_true rfl) ?_
  intro p e s m below meth c hx hb hr hml hown hts hlocks A hAe hA H locs hP hK hD hS hini Q hQ ls hl
  have hown : s.vm.findClass RX2 = some m.cls := hown
  have hl : lv_has ls 4 [(0, .ref g), (1, .int (nI a)), (2, .int (nI b)), (3, .int (nI w))] := hl
  generalize hav : ([.ref g, .int (nI a), .int (nI b), .int (nI w)] : List Value).toArray = args at hts hQ ⊢
  have hin2 : ∀ w ∈ wsX20, w ∈ wsX2_addEdge := by decide +kernel
  refine lv_aload_n hx hb dX2_addEdge_0 rfl (lv_at hl 0 rfl) ?_
  refine va_get (D := D) (ci := 2) (v := .ref gf) (C := RX2) (T := TX2) (N := 6) hx hb hts hin2 hown hK hP 0 rfl rfl 0 (by decide) (hts (.fieldLink RX2 9 "TourHouse$Graph" "from" "[I") (by decide +kernel)) (fun _ h9 => h9) rfl dX2_addEdge_1 ?_
  refine lv_aload_n hx hb dX2_addEdge_4 rfl (lv_at hl 0 rfl) ?_
  refine va_get (D := D) (ci := 2) (v := .int (nI me)) (C := RX2) (T := TX2) (N := 6) hx hb hts hin2 hown hK hP 0 rfl rfl 5 (by decide) (hts (.fieldLink RX2 29 "TourHouse$Graph" "edges" "I") (by decide +kernel)) (fun _ h9 => h9) rfl dX2_addEdge_5 ?_
  refine lv_iload_n hx hb dX2_addEdge_8 rfl (lv_at hl 1 rfl) ?_
  refine z_iast hx hb hK hP hD hS 1 0 rfl rfl (k := me) (by omega) (by decide) (f' := (fun j => nI ((va_up Fr me a) j))) (upd_nI _ _ _) (ws' := [(g, .inr (2, [.ref gf, .ref gt, .ref gw, .int (zB dir), .int (nI nv), .int (nI me)])), (gf, aI cA 40 (fun j => nI ((va_up Fr me a) j))), (gt, aI cA 40 (fun j => nI (To j))), (gw, aI cA 40 (fun j => nI (We j)))]) rfl dX2_addEdge_9 (fun H locs hP hD hS => ?_)
  refine lv_aload_n hx hb dX2_addEdge_10 rfl (lv_at hl 0 rfl) ?_
  refine va_get (D := D) (ci := 2) (v := .ref gt) (C := RX2) (T := TX2) (N := 6) hx hb hts hin2 hown hK hP 0 rfl rfl 1 (by decide) (hts (.fieldLink RX2 15 "TourHouse$Graph" "to" "[I") (by decide +kernel)) (fun _ h9 => h9) rfl dX2_addEdge_11 ?_
  refine lv_aload_n hx hb dX2_addEdge_14 rfl (lv_at hl 0 rfl) ?_
  refine va_get (D := D) (ci := 2) (v := .int (nI me)) (C := RX2) (T := TX2) (N := 6) hx hb hts hin2 hown hK hP 0 rfl rfl 5 (by decide) (hts (.fieldLink RX2 29 "TourHouse$Graph" "edges" "I") (by decide +kernel)) (fun _ h9 => h9) rfl dX2_addEdge_15 ?_
  refine lv_iload_n hx hb dX2_addEdge_18 rfl (lv_at hl 2 rfl) ?_
  refine z_iast hx hb hK hP hD hS 2 0 rfl rfl (k := me) (by omega) (by decide) (f' := (fun j => nI ((va_up To me b) j))) (upd_nI _ _ _) (ws' := [(g, .inr (2, [.ref gf, .ref gt, .ref gw, .int (zB dir), .int (nI nv), .int (nI me)])), (gf, aI cA 40 (fun j => nI ((va_up Fr me a) j))), (gt, aI cA 40 (fun j => nI ((va_up To me b) j))), (gw, aI cA 40 (fun j => nI (We j)))]) rfl dX2_addEdge_19 (fun H locs hP hD hS => ?_)
  refine lv_aload_n hx hb dX2_addEdge_20 rfl (lv_at hl 0 rfl) ?_
  refine va_get (D := D) (ci := 2) (v := .ref gw) (C := RX2) (T := TX2) (N := 6) hx hb hts hin2 hown hK hP 0 rfl rfl 2 (by decide) (hts (.fieldLink RX2 18 "TourHouse$Graph" "weight" "[I") (by decide +kernel)) (fun _ h9 => h9) rfl dX2_addEdge_21 ?_
  refine lv_aload_n hx hb dX2_addEdge_24 rfl (lv_at hl 0 rfl) ?_
  refine va_get (D := D) (ci := 2) (v := .int (nI me)) (C := RX2) (T := TX2) (N := 6) hx hb hts hin2 hown hK hP 0 rfl rfl 5 (by decide) (hts (.fieldLink RX2 29 "TourHouse$Graph" "edges" "I") (by decide +kernel)) (fun _ h9 => h9) rfl dX2_addEdge_25 ?_
  refine lv_iload_n hx hb dX2_addEdge_28 rfl (lv_at hl 3 rfl) ?_
  refine z_iast hx hb hK hP hD hS 3 0 rfl rfl (k := me) (by omega) (by decide) (f' := (fun j => nI ((va_up We me w) j))) (upd_nI _ _ _) (ws' := [(g, .inr (2, [.ref gf, .ref gt, .ref gw, .int (zB dir), .int (nI nv), .int (nI me)])), (gf, aI cA 40 (fun j => nI ((va_up Fr me a) j))), (gt, aI cA 40 (fun j => nI ((va_up To me b) j))), (gw, aI cA 40 (fun j => nI ((va_up We me w) j)))]) rfl dX2_addEdge_29 (fun H locs hP hD hS => ?_)
  refine lv_aload_n hx hb dX2_addEdge_30 rfl (lv_at hl 0 rfl) ?_
  refine lv_dup hx hb dX2_addEdge_31 rfl ?_
  refine va_get (D := D) (ci := 2) (v := .int (nI me)) (C := RX2) (T := TX2) (N := 6) hx hb hts hin2 hown hK hP 0 rfl rfl 5 (by decide) (hts (.fieldLink RX2 29 "TourHouse$Graph" "edges" "I") (by decide +kernel)) (fun _ h9 => h9) rfl dX2_addEdge_32 ?_
  refine lv_iconst (v := nI 1) hx hb dX2_addEdge_35 (by decide) ?_
  refine lv_iadd hx hb dX2_addEdge_36 ?_
  refine z_topi (v := nI (me + 1)) (nI_add me 1) ?_
  refine va_put (D := D) (ci := 2) (v := .int (nI (me + 1))) (ty := .int) (C := RX2) (T := TX2) (N := 6) hx hb hts hin2 tyX2 tyX2_ok nmX2 hown hK hP hD hS 0 rfl rfl 5 (by decide) (hts (.fieldLink RX2 29 "TourHouse$Graph" "edges" "I") (by decide +kernel)) (fun _ h9 => h9) rfl (by decide +kernel) (rfl) (rfl) (Nat.le_of_ble_eq_true rfl) dX2_addEdge_37 (fun H locs hP hD hS => ?_)
  have hP : va_P D vwCl [(g, .inr (2, [.ref gf, .ref gt, .ref gw, .int (zB dir), .int (nI nv), .int (nI (me + 1))])), (gf, aI cA 40 (fun j => nI ((va_up Fr me a) j))), (gt, aI cA 40 (fun j => nI ((va_up To me b) j))), (gw, aI cA 40 (fun j => nI ((va_up We me w) j)))] H := hP
  have hD : va_D A [(g, .inr (2, [.ref gf, .ref gt, .ref gw, .int (zB dir), .int (nI nv), .int (nI (me + 1))])), (gf, aI cA 40 (fun j => nI ((va_up Fr me a) j))), (gt, aI cA 40 (fun j => nI ((va_up To me b) j))), (gw, aI cA 40 (fun j => nI ((va_up We me w) j)))] := hD
  exact z_vretW hx hb hr hlocks hAe hQ (hP) hK (hD) hS dX2_addEdge_40
set_option maxHeartbeats 4000000 in
set_option maxRecDepth 100000 in
/-- Graph.removeLastEdge -/
theorem c_X2_removeLastEdge (l : Launch) (D : va_G) (cA : Nat → ClassId) (sz : Nat) (g : Nat) (gf : Nat) (gt : Nat) (gw : Nat) (dir : Bool) (nv : Nat) (me : Nat) (hme : 0 < me) (hme2 : me ≤ 40) : Met l yX2_removeLastEdge wsX2_removeLastEdge ({ frames := 0, cells := 0, slots := 0, locals := 0 } : Room) (zWr D vwCl (zT cA) [(g, .inr (2, [.ref gf, .ref gt, .ref gw, .int (zB dir), .int (nI nv), .int (nI me)]))] sz [.ref g]) (zQv D vwCl (zT cA) (va_A [(g, .inr (2, [.ref gf, .ref gt, .ref gw, .int (zB dir), .int (nI nv), .int (nI me)]))] sz) [(g, .inr (2, [.ref gf, .ref gt, .ref gw, .int (zB dir), .int (nI nv), .int (nI (me - 1))]))]) 0 0 (va_A [(g, .inr (2, [.ref gf, .ref gt, .ref gw, .int (zB dir), .int (nI nv), .int (nI me)]))] sz) := by
  refine z_write (cc := cX2_removeLastEdge) (maxL := 1) (ret := none) (by decide) rfl (Nat.le_of_ble_eq_true rfl) ?_
  intro p e s m below meth c hx hb hr hml hown hts hlocks A hAe hA H locs hP hK hD hS hini Q hQ ls hl
  have hown : s.vm.findClass RX2 = some m.cls := hown
  have hl : lv_has ls 1 [(0, .ref g)] := hl
  generalize hav : ([.ref g] : List Value).toArray = args at hts hQ ⊢
  have hin2 : ∀ w ∈ wsX20, w ∈ wsX2_removeLastEdge := by decide +kernel
  refine lv_aload_n hx hb dX2_removeLastEdge_0 rfl (lv_at hl 0 rfl) ?_
  refine va_get (D := D) (ci := 2) (v := .int (nI me)) (C := RX2) (T := TX2) (N := 6) hx hb hts hin2 hown hK hP 0 rfl rfl 5 (by decide) (hts (.fieldLink RX2 29 "TourHouse$Graph" "edges" "I") (by decide +kernel)) (fun _ h9 => h9) rfl dX2_removeLastEdge_1 ?_
  refine z_nle hx hb (by omega) (tgt := 17) dX2_removeLastEdge_4 (by decide) (fun h4 => ?_) (fun h4 => ?_)
  · omega
  · skip
    refine lv_aload_n hx hb dX2_removeLastEdge_7 rfl (lv_at hl 0 rfl) ?_
    refine lv_dup hx hb dX2_removeLastEdge_8 rfl ?_
    refine va_get (D := D) (ci := 2) (v := .int (nI me)) (C := RX2) (T := TX2) (N := 6) hx hb hts hin2 hown hK hP 0 rfl rfl 5 (by decide) (hts (.fieldLink RX2 29 "TourHouse$Graph" "edges" "I") (by decide +kernel)) (fun _ h9 => h9) rfl dX2_removeLastEdge_9 ?_
    refine lv_iconst (v := nI 1) hx hb dX2_removeLastEdge_12 (by decide) ?_
    refine lv_isub hx hb dX2_removeLastEdge_13 ?_
    refine z_topi (v := nI (me - 1)) (pk_sub (by omega)) ?_
    refine va_put (D := D) (ci := 2) (v := .int (nI (me - 1))) (ty := .int) (C := RX2) (T := TX2) (N := 6) hx hb hts hin2 tyX2 tyX2_ok nmX2 hown hK hP hD hS 0 rfl rfl 5 (by decide) (hts (.fieldLink RX2 29 "TourHouse$Graph" "edges" "I") (by decide +kernel)) (fun _ h9 => h9) rfl (by decide +kernel) (rfl) (rfl) (Nat.le_of_ble_eq_true rfl) dX2_removeLastEdge_14 (fun H locs hP hD hS => ?_)
    have hP : va_P D vwCl [(g, .inr (2, [.ref gf, .ref gt, .ref gw, .int (zB dir), .int (nI nv), .int (nI (me - 1))]))] H := hP
    have hD : va_D A [(g, .inr (2, [.ref gf, .ref gt, .ref gw, .int (zB dir), .int (nI nv), .int (nI (me - 1))]))] := hD
    exact z_vretW hx hb hr hlocks hAe hQ (hP) hK (hD) hS dX2_removeLastEdge_17
set_option maxHeartbeats 4000000 in
set_option maxRecDepth 100000 in
/-- StepRow.isFull -/
theorem c_X4_isFull (l : Launch) (D : va_G) (cA : Nat → ClassId) (sr : Nat) (sa : Nat) (cap : Nat) (Sz : Nat → Int) (len : Nat) (hcap : cap ≤ 1000) (hlen : len ≤ cap) : Met l yX4_isFull wsX4_isFull ({ frames := 0, cells := 0, slots := 0, locals := 0 } : Room) (zRd D vwCl (zT cA) [(sr, .inr (4, [.ref sa, .int (nI len)])), (sa, aI cA cap (fun j => iZ (Sz j)))] [.ref sr]) (vp_Si (fun r => r = zB (decide (cap ≤ len)))) 0 0 (fun _ => False) := by
  refine z_read (cc := cX4_isFull) (maxL := 1) (ret := (some .boolean)) (by decide) rfl (Nat.le_of_ble_eq_true rfl) ?_
  intro p e s m below meth c hx hb hr hml hown hts hlocks hP hK Q hQ ls hl
  have hown : s.vm.findClass RX4 = some m.cls := hown
  have hl : lv_has ls 1 [(0, .ref sr)] := hl
  generalize hav : ([.ref sr] : List Value).toArray = args at hts hQ ⊢
  have hin4 : ∀ w ∈ wsX40, w ∈ wsX4_isFull := by decide +kernel
  refine lv_aload_n hx hb dX4_isFull_0 rfl (lv_at hl 0 rfl) ?_
  refine va_get (D := D) (ci := 4) (v := .int (nI len)) (C := RX4) (T := TX4) (N := 2) hx hb hts hin4 hown hK hP 0 rfl rfl 1 (by decide) (hts (.fieldLink RX4 13 "TourHouse$StepRow" "length" "I") (by decide +kernel)) (fun _ h9 => h9) rfl dX4_isFull_1 ?_
  refine lv_aload_n hx hb dX4_isFull_4 rfl (lv_at hl 0 rfl) ?_
  refine va_get (D := D) (ci := 4) (v := .ref sa) (C := RX4) (T := TX4) (N := 2) hx hb hts hin4 hown hK hP 0 rfl rfl 0 (by decide) (hts (.fieldLink RX4 7 "TourHouse$StepRow" "steps" "[I") (by decide +kernel)) (fun _ h9 => h9) rfl dX4_isFull_5 ?_
  refine va_alen hx hb hK hP 1 0 rfl rfl (v := nI cap) rfl dX4_isFull_8 ?_
  refine z_lt hx hb (by omega) (by omega) (tgt := 16) dX4_isFull_9 (by decide) (fun h9 => ?_) (fun h9 => ?_)
  · skip
    refine lv_iconst (v := zB false) hx hb dX4_isFull_16 (by decide) ?_
    exact z_zretR hx hb hr hlocks hQ (by congr 1; simp; omega) dX4_isFull_17 rfl rfl
  · skip
    refine lv_iconst (v := zB true) hx hb dX4_isFull_12 (by decide) ?_
    refine lv_goto (tgt := 17) hx hb dX4_isFull_13 (by decide) ?_
    exact z_zretR hx hb hr hlocks hQ (by congr 1; simp; omega) dX4_isFull_17 rfl rfl
set_option maxHeartbeats 4000000 in
set_option maxRecDepth 100000 in
/-- StepRow.append -/
theorem c_X4_append (l : Launch) (D : va_G) (cA : Nat → ClassId) (sz : Nat) (sr : Nat) (sa : Nat) (cap : Nat) (Sz : Nat → Int) (len : Nat) (z : Int) (hcap : cap ≤ 1000) (hlen : len ≤ cap) (hlt : len < cap) : Met l yX4_append wsX4_append ({ frames := 1, cells := 0, slots := 0, locals := 20 } : Room) (zWr D vwCl (zT cA) [(sr, .inr (4, [.ref sa, .int (nI len)])), (sa, aI cA cap (fun j => iZ (Sz j)))] sz [.ref sr, .int (iZ z)]) (zQv D vwCl (zT cA) (va_A [(sr, .inr (4, [.ref sa, .int (nI len)])), (sa, aI cA cap (fun j => iZ (Sz j)))] sz) [(sr, .inr (4, [.ref sa, .int (nI (len + 1))])), (sa, aI cA cap (fun j => iZ ((va_up Sz len z) j)))]) 0 0 (va_A [(sr, .inr (4, [.ref sa, .int (nI len)])), (sa, aI cA cap (fun j => iZ (Sz j)))] sz) := by
  refine z_write (cc := cX4_append) (maxL := 2) (ret := none) (by decide) rfl (Nat.le_of_ble_eq_true rfl) ?_
  intro p e s m below meth c hx hb hr hml hown hts hlocks A hAe hA H locs hP hK hD hS hini Q hQ ls hl
  have hown : s.vm.findClass RX4 = some m.cls := hown
  have hl : lv_has ls 2 [(0, .ref sr), (1, .int (iZ z))] := hl
  generalize hav : ([.ref sr, .int (iZ z)] : List Value).toArray = args at hts hQ ⊢
  have hin4 : ∀ w ∈ wsX40, w ∈ wsX4_append := by decide +kernel
  refine lv_aload_n hx hb dX4_append_0 rfl (lv_at hl 0 rfl) ?_
  refine z_cRVi (wc := [(sr, .inr (4, [.ref sa, .int (nI len)])), (sa, aI cA cap (fun j => iZ (Sz j)))]) (rm := ({ frames := 0, cells := 0, slots := 0, locals := 0 } : Room)) (As := []) (rest := []) ⟨hx, hb, hml, hown, hts⟩ (c_X4_isFull l D cA sr sa cap Sz len (by first | assumption | omega) (by first | assumption | omega)) (cwV 0 hts gX4_append_X4_isFull rfl rfl rfl (by decide +kernel) ⟨Nat.le_of_ble_eq_true rfl, Nat.le_of_ble_eq_true rfl⟩) hP hK [0, 1] rfl 4 0 rfl rfl rfl hl.1 rfl (Nat.le_of_ble_eq_true rfl) ⟨Nat.zero_le _, Nat.zero_le _⟩ dX4_append_1 (fun r hr1 => ?_)
  subst hr1
  refine z_ifne hx hb (tgt := 27) dX4_append_4 (by decide) (fun h4 => ?_) (fun h4 => ?_)
  · exact absurd (of_decide_eq_true h4) (by omega)
  · skip
    refine lv_aload_n hx hb dX4_append_7 rfl (lv_at hl 0 rfl) ?_
    refine va_get (D := D) (ci := 4) (v := .ref sa) (C := RX4) (T := TX4) (N := 2) hx hb hts hin4 hown hK hP 0 rfl rfl 0 (by decide) (hts (.fieldLink RX4 7 "TourHouse$StepRow" "steps" "[I") (by decide +kernel)) (fun _ h9 => h9) rfl dX4_append_8 ?_
    refine lv_aload_n hx hb dX4_append_11 rfl (lv_at hl 0 rfl) ?_
    refine va_get (D := D) (ci := 4) (v := .int (nI len)) (C := RX4) (T := TX4) (N := 2) hx hb hts hin4 hown hK hP 0 rfl rfl 1 (by decide) (hts (.fieldLink RX4 13 "TourHouse$StepRow" "length" "I") (by decide +kernel)) (fun _ h9 => h9) rfl dX4_append_12 ?_
    refine lv_iload_n hx hb dX4_append_15 rfl (lv_at hl 1 rfl) ?_
    refine z_iast hx hb hK hP hD hS 1 0 rfl rfl (k := len) (by omega) (by omega) (f' := (fun j => iZ ((va_up Sz len z) j))) (upd_iZ _ _ _) (ws' := [(sr, .inr (4, [.ref sa, .int (nI len)])), (sa, aI cA cap (fun j => iZ ((va_up Sz len z) j)))]) rfl dX4_append_16 (fun H locs hP hD hS => ?_)
    refine lv_aload_n hx hb dX4_append_17 rfl (lv_at hl 0 rfl) ?_
    refine lv_dup hx hb dX4_append_18 rfl ?_
    refine va_get (D := D) (ci := 4) (v := .int (nI len)) (C := RX4) (T := TX4) (N := 2) hx hb hts hin4 hown hK hP 0 rfl rfl 1 (by decide) (hts (.fieldLink RX4 13 "TourHouse$StepRow" "length" "I") (by decide +kernel)) (fun _ h9 => h9) rfl dX4_append_19 ?_
    refine lv_iconst (v := nI 1) hx hb dX4_append_22 (by decide) ?_
    refine lv_iadd hx hb dX4_append_23 ?_
    refine z_topi (v := nI (len + 1)) (nI_add len 1) ?_
    refine va_put (D := D) (ci := 4) (v := .int (nI (len + 1))) (ty := .int) (C := RX4) (T := TX4) (N := 2) hx hb hts hin4 tyX4 tyX4_ok nmX4 hown hK hP hD hS 0 rfl rfl 1 (by decide) (hts (.fieldLink RX4 13 "TourHouse$StepRow" "length" "I") (by decide +kernel)) (fun _ h9 => h9) rfl (by decide +kernel) (rfl) (rfl) (Nat.le_of_ble_eq_true rfl) dX4_append_24 (fun H locs hP hD hS => ?_)
    have hP : va_P D vwCl [(sr, .inr (4, [.ref sa, .int (nI (len + 1))])), (sa, aI cA cap (fun j => iZ ((va_up Sz len z) j)))] H := hP
    have hD : va_D A [(sr, .inr (4, [.ref sa, .int (nI (len + 1))])), (sa, aI cA cap (fun j => iZ ((va_up Sz len z) j)))] := hD
    exact z_vretW hx hb hr hlocks hAe hQ (hP) hK (hD) hS dX4_append_27
set_option maxHeartbeats 4000000 in
set_option maxRecDepth 100000 in
/-- StepRow.clear -/
theorem c_X4_clear (l : Launch) (D : va_G) (cA : Nat → ClassId) (sz : Nat) (sr : Nat) (sa : Nat) (cap : Nat) (Sz : Nat → Int) (len : Nat)  : Met l yX4_clear wsX4_clear ({ frames := 0, cells := 0, slots := 0, locals := 0 } : Room) (zWr D vwCl (zT cA) [(sr, .inr (4, [.ref sa, .int (nI len)]))] sz [.ref sr]) (zQv D vwCl (zT cA) (va_A [(sr, .inr (4, [.ref sa, .int (nI len)]))] sz) [(sr, .inr (4, [.ref sa, .int (nI 0)]))]) 0 0 (va_A [(sr, .inr (4, [.ref sa, .int (nI len)]))] sz) := by
  refine z_write (cc := cX4_clear) (maxL := 1) (ret := none) (by decide) rfl (Nat.le_of_ble_eq_true rfl) ?_
  intro p e s m below meth c hx hb hr hml hown hts hlocks A hAe hA H locs hP hK hD hS hini Q hQ ls hl
  have hown : s.vm.findClass RX4 = some m.cls := hown
  have hl : lv_has ls 1 [(0, .ref sr)] := hl
  generalize hav : ([.ref sr] : List Value).toArray = args at hts hQ ⊢
  have hin4 : ∀ w ∈ wsX40, w ∈ wsX4_clear := by decide +kernel
  refine lv_aload_n hx hb dX4_clear_0 rfl (lv_at hl 0 rfl) ?_
  refine lv_iconst (v := nI 0) hx hb dX4_clear_1 (by decide) ?_
  refine va_put (D := D) (ci := 4) (v := .int (nI 0)) (ty := .int) (C := RX4) (T := TX4) (N := 2) hx hb hts hin4 tyX4 tyX4_ok nmX4 hown hK hP hD hS 0 rfl rfl 1 (by decide) (hts (.fieldLink RX4 13 "TourHouse$StepRow" "length" "I") (by decide +kernel)) (fun _ h9 => h9) rfl (by decide +kernel) (rfl) (rfl) (Nat.le_of_ble_eq_true rfl) dX4_clear_2 (fun H locs hP hD hS => ?_)
  have hP : va_P D vwCl [(sr, .inr (4, [.ref sa, .int (nI 0)]))] H := hP
  have hD : va_D A [(sr, .inr (4, [.ref sa, .int (nI 0)]))] := hD
  exact z_vretW hx hb hr hlocks hAe hQ (hP) hK (hD) hS dX4_clear_5
