set_option maxHeartbeats 4000000 in
set_option maxRecDepth 100000 in
/-- Model.edge, refused (argument) -/
theorem c_X6_edge_a (l : Launch) (D : va_G) (cA : Nat → ClassId) (sz : Nat) (mo : Nat) (mf : Nat) (mt : Nat) (mw : Nat) (mr : Nat) (mp : Nat) (mx : Nat) (mfa : Nat) (mbi : Nat) (mod1 : Nat) (msc : Nat) (msb : Nat) (msu : Nat) (mwy : Nat) (mre : Nat) (mby : Nat) (msm : Nat) (mle : Nat) (mgr : Nat) (mth : Nat) (dir : Bool) (nv : Nat) (me : Nat) (mrn : Nat) (mst : Nat) (mhr : Bool) (mon : Nat) (Fr : Nat → Nat) (To : Nat → Nat) (We : Nat → Nat) (za : Int) (zb : Int) (zw : Int) (hnv : nv ≤ 16) (hme : me ≤ 40) (ha : -2147483648 ≤ za ∧ za < 2147483648) (hb9 : -2147483648 ≤ zb ∧ zb < 2147483648) (hw9 : -2147483648 ≤ zw ∧ zw < 2147483648) (hbad : ¬ (0 ≤ za ∧ za < (nv : Int) ∧ 0 ≤ zb ∧ zb < (nv : Int) ∧ 0 ≤ zw ∧ zw ≤ 1000000000)) : Met l yX6_edge wsX6_edge ({ frames := 1, cells := 0, slots := 0, locals := 22 } : Room) (zWr D vwCl (zT cA) [(mo, .inr (6, [.int (nI mth), .int (zB dir), .int (nI nv), .int (nI me), .ref mf, .ref mt, .ref mw, .ref mr, .int (nI mrn), .ref mp, .int (nI mst), .int (zB mhr), .ref mx, .ref mfa, .ref mbi, .ref mod1, .int (nI mon), .ref msc, .ref msb, .ref msu, .ref mwy, .ref mre, .ref mby, .ref msm, .ref mle, .ref mgr])), (mf, aI cA 40 (fun j => nI (Fr j))), (mt, aI cA 40 (fun j => nI (To j))), (mw, aI cA 40 (fun j => nI (We j)))] sz [.ref mo, .int (iZ za), .int (iZ zb), .int (iZ zw)]) (zQi D vwCl (zT cA) (va_A [(mo, .inr (6, [.int (nI mth), .int (zB dir), .int (nI nv), .int (nI me), .ref mf, .ref mt, .ref mw, .ref mr, .int (nI mrn), .ref mp, .int (nI mst), .int (zB mhr), .ref mx, .ref mfa, .ref mbi, .ref mod1, .int (nI mon), .ref msc, .ref msb, .ref msu, .ref mwy, .ref mre, .ref mby, .ref msm, .ref mle, .ref mgr])), (mf, aI cA 40 (fun j => nI (Fr j))), (mt, aI cA 40 (fun j => nI (To j))), (mw, aI cA 40 (fun j => nI (We j)))] sz) [(mo, .inr (6, [.int (nI 1), .int (zB dir), .int (nI nv), .int (nI me), .ref mf, .ref mt, .ref mw, .ref mr, .int (nI mrn), .ref mp, .int (nI mst), .int (zB mhr), .ref mx, .ref mfa, .ref mbi, .ref mod1, .int (nI mon), .ref msc, .ref msb, .ref msu, .ref mwy, .ref mre, .ref mby, .ref msm, .ref mle, .ref mgr])), (mf, aI cA 40 (fun j => nI (Fr j))), (mt, aI cA 40 (fun j => nI (To j))), (mw, aI cA 40 (fun j => nI (We j)))] (nI 0)) 0 0 (va_A [(mo, .inr (6, [.int (nI mth), .int (zB dir), .int (nI nv), .int (nI me), .ref mf, .ref mt, .ref mw, .ref mr, .int (nI mrn), .ref mp, .int (nI mst), .int (zB mhr), .ref mx, .ref mfa, .ref mbi, .ref mod1, .int (nI mon), .ref msc, .ref msb, .ref msu, .ref mwy, .ref mre, .ref mby, .ref msm, .ref mle, .ref mgr])), (mf, aI cA 40 (fun j => nI (Fr j))), (mt, aI cA 40 (fun j => nI (To j))), (mw, aI cA 40 (fun j => nI (We j)))] sz) := by
  refine z_write (cc := cX6_edge) (maxL := 4) (ret := (some .int)) (by decide) rfl (Nat.le_of_ble_eq_true rfl) ?_
  intro p e s m below meth c hx hb hr hml hown hts hlocks A hAe hA H locs hP hK hD hS hini Q hQ ls hl
  have hown : s.vm.findClass RX6 = some m.cls := hown
  have hl : lv_has ls 4 [(0, .ref mo), (1, .int (iZ za)), (2, .int (iZ zb)), (3, .int (iZ zw))] := hl
  generalize hav : ([.ref mo, .int (iZ za), .int (iZ zb), .int (iZ zw)] : List Value).toArray = args at hts hQ ⊢
  have hin6 : ∀ w ∈ wsX60, w ∈ wsX6_edge := by decide +kernel
  refine lv_aload_n hx hb dX6_edge_0 rfl (lv_at hl 0 rfl) ?_
  refine lv_aload_n hx hb dX6_edge_1 rfl (lv_at hl 0 rfl) ?_
  refine lv_iload_n hx hb dX6_edge_2 rfl (lv_at hl 1 rfl) ?_
  refine z_cRVi (wc := [(mo, .inr (6, [.int (nI mth), .int (zB dir), .int (nI nv), .int (nI me), .ref mf, .ref mt, .ref mw, .ref mr, .int (nI mrn), .ref mp, .int (nI mst), .int (zB mhr), .ref mx, .ref mfa, .ref mbi, .ref mod1, .int (nI mon), .ref msc, .ref msb, .ref msu, .ref mwy, .ref mre, .ref mby, .ref msm, .ref mle, .ref mgr]))]) (rm := ({ frames := 0, cells := 0, slots := 0, locals := 0 } : Room)) (As := [.int (iZ za)]) (rest := [.ref mo]) ⟨hx, hb, hml, hown, hts⟩ (c_X6_isVertex l D cA mo mf mt mw mr mp mx mfa mbi mod1 msc msb msu mwy mre mby msm mle mgr mth dir nv me mrn mst mhr mon za (ha) (by first | assumption | omega)) (cwV 1 hts gX6_edge_X6_isVertex rfl rfl rfl (by decide +kernel) ⟨Nat.le_of_ble_eq_true rfl, Nat.le_of_ble_eq_true rfl⟩) hP hK [0] rfl 6 0 rfl rfl rfl hl.1 rfl (Nat.le_of_ble_eq_true rfl) ⟨Nat.zero_le _, Nat.zero_le _⟩ dX6_edge_3 (fun r hr3 => ?_)
  subst hr3
  refine z_ifeq hx hb (tgt := 27) dX6_edge_6 (by decide) (fun h6 => ?_) (fun h6 => ?_)
  · skip
    have q6 := of_decide_eq_false h6
    refine lv_iconst (v := zB true) hx hb dX6_edge_27 (by decide) ?_
    refine lv_goto (tgt := 32) hx hb dX6_edge_28 (by decide) ?_
    have J46 : ∀ (o9 : Bool), ∀ (H : Heap) (locs : List Loc), va_P D vwCl [(mo, .inr (6, [.int (nI mth), .int (zB dir), .int (nI nv), .int (nI me), .ref mf, .ref mt, .ref mw, .ref mr, .int (nI mrn), .ref mp, .int (nI mst), .int (zB mhr), .ref mx, .ref mfa, .ref mbi, .ref mod1, .int (nI mon), .ref msc, .ref msb, .ref msu, .ref mwy, .ref mre, .ref mby, .ref msm, .ref mle, .ref mgr])), (mf, aI cA 40 (fun j => nI (Fr j))), (mt, aI cA 40 (fun j => nI (To j))), (mw, aI cA 40 (fun j => nI (We j)))] H → va_D A [(mo, .inr (6, [.int (nI mth), .int (zB dir), .int (nI nv), .int (nI me), .ref mf, .ref mt, .ref mw, .ref mr, .int (nI mrn), .ref mp, .int (nI mst), .int (zB mhr), .ref mx, .ref mfa, .ref mbi, .ref mod1, .int (nI mon), .ref msc, .ref msb, .ref msu, .ref mwy, .ref mre, .ref mby, .ref msm, .ref mle, .ref mgr])), (mf, aI cA 40 (fun j => nI (Fr j))), (mt, aI cA 40 (fun j => nI (To j))), (mw, aI cA 40 (fun j => nI (We j)))] → va_S A s.heap H locs → ∀ (ls : Array Slot), lv_has ls 4 [(0, .ref mo), (1, .int (iZ za)), (2, .int (iZ zb)), (3, .int (iZ zw))] → W p l e ({ frames := 1, cells := 0, slots := 0, locals := 22 } : Room) s m args below meth c H locs 0 0 Q (F0 m 46 ls [.int (zB o9), .int (zB true), .ref mo]) := by
      intro o9  H locs hP hD hS ls hl
      refine z_cWVi (wc := [(mo, .inr (6, [.int (nI mth), .int (zB dir), .int (nI nv), .int (nI me), .ref mf, .ref mt, .ref mw, .ref mr, .int (nI mrn), .ref mp, .int (nI mst), .int (zB mhr), .ref mx, .ref mfa, .ref mbi, .ref mod1, .int (nI mon), .ref msc, .ref msb, .ref msu, .ref mwy, .ref mre, .ref mby, .ref msm, .ref mle, .ref mgr]))]) (rm := ({ frames := 0, cells := 0, slots := 0, locals := 0 } : Room)) (As := [.int (zB true), .int (zB o9)]) (rest := []) (wr := [(mf, aI cA 40 (fun j => nI (Fr j))), (mt, aI cA 40 (fun j => nI (To j))), (mw, aI cA 40 (fun j => nI (We j)))]) (w1 := [(mo, .inr (6, [.int (nI (mThr true o9)), .int (zB dir), .int (nI nv), .int (nI me), .ref mf, .ref mt, .ref mw, .ref mr, .int (nI mrn), .ref mp, .int (nI mst), .int (zB mhr), .ref mx, .ref mfa, .ref mbi, .ref mod1, .int (nI mon), .ref msc, .ref msb, .ref msu, .ref mwy, .ref mre, .ref mby, .ref msm, .ref mle, .ref mgr]))]) (ws' := [(mo, .inr (6, [.int (nI (mThr true o9)), .int (zB dir), .int (nI nv), .int (nI me), .ref mf, .ref mt, .ref mw, .ref mr, .int (nI mrn), .ref mp, .int (nI mst), .int (zB mhr), .ref mx, .ref mfa, .ref mbi, .ref mod1, .int (nI mon), .ref msc, .ref msb, .ref msu, .ref mwy, .ref mre, .ref mby, .ref msm, .ref mle, .ref mgr])), (mf, aI cA 40 (fun j => nI (Fr j))), (mt, aI cA 40 (fun j => nI (To j))), (mw, aI cA 40 (fun j => nI (We j)))]) ⟨hx, hb, hml, hown, hts⟩ (c_X6_throwing l D cA H.size mo mf mt mw mr mp mx mfa mbi mod1 msc msb msu mwy mre mby msm mle mgr mth dir nv me mrn mst mhr mon true o9 ) (cwV 2 hts gX6_edge_X6_throwing rfl rfl rfl (by decide +kernel) ⟨Nat.le_of_ble_eq_true rfl, Nat.le_of_ble_eq_true rfl⟩) hP hK hD hS hA [0] [1, 2, 3] [3, 0, 1, 2] rfl rfl rfl rfl rfl (by decide) rfl rfl rfl 6 0 rfl rfl rfl hl.1 rfl (Nat.le_of_ble_eq_true rfl) ⟨Nat.zero_le _, Nat.zero_le _⟩ dX6_edge_46 (fun H locs hP hD hS => ?_)
      refine z_ifeq hx hb (tgt := 54) dX6_edge_49 (by decide) (fun h49 => ?_) (fun h49 => ?_)
      · cases h49
      · skip
        refine lv_iconst (v := nI 0) hx hb dX6_edge_52 (by decide) ?_
        exact z_iretW hx hb hr hlocks hAe hQ (by first | exact hP) hK (hD) hS dX6_edge_53
    refine lv_aload_n hx hb dX6_edge_32 rfl (lv_at hl 0 rfl) ?_
    refine va_get (D := D) (ci := 6) (v := .int (nI me)) (C := RX6) (T := TX6) (N := 26) hx hb hts hin6 hown hK hP 0 rfl rfl 3 (by decide) (hts (.fieldLink RX6 85 "TourHouseModel" "m" "I") (by decide +kernel)) (fun _ h9 => h9) rfl dX6_edge_33 ?_
    refine lv_bipush (v := nI 40) hx hb dX6_edge_36 (by decide) ?_
    refine z_ne hx hb (by omega) (by decide) (tgt := 45) dX6_edge_38 (by decide) (fun h38 => ?_) (fun h38 => ?_)
    · skip
      refine lv_iconst (v := zB false) hx hb dX6_edge_45 (by decide) ?_
      exact J46 false  _ _ (hP) (hD) hS ls (lv_sub hl [0, 1, 2, 3] (by rfl))
    · skip
      refine lv_iconst (v := zB true) hx hb dX6_edge_41 (by decide) ?_
      refine lv_goto (tgt := 46) hx hb dX6_edge_42 (by decide) ?_
      exact J46 true  _ _ (hP) (hD) hS ls (lv_sub hl [0, 1, 2, 3] (by rfl))
  · skip
    have q6 := of_decide_eq_true h6
    refine lv_aload_n hx hb dX6_edge_9 rfl (lv_at hl 0 rfl) ?_
    refine lv_iload_n hx hb dX6_edge_10 rfl (lv_at hl 2 rfl) ?_
    refine z_cRVi (wc := [(mo, .inr (6, [.int (nI mth), .int (zB dir), .int (nI nv), .int (nI me), .ref mf, .ref mt, .ref mw, .ref mr, .int (nI mrn), .ref mp, .int (nI mst), .int (zB mhr), .ref mx, .ref mfa, .ref mbi, .ref mod1, .int (nI mon), .ref msc, .ref msb, .ref msu, .ref mwy, .ref mre, .ref mby, .ref msm, .ref mle, .ref mgr]))]) (rm := ({ frames := 0, cells := 0, slots := 0, locals := 0 } : Room)) (As := [.int (iZ zb)]) (rest := [.ref mo]) ⟨hx, hb, hml, hown, hts⟩ (c_X6_isVertex l D cA mo mf mt mw mr mp mx mfa mbi mod1 msc msb msu mwy mre mby msm mle mgr mth dir nv me mrn mst mhr mon zb (hb9) (by first | assumption | omega)) (cwV 1 hts gX6_edge_X6_isVertex rfl rfl rfl (by decide +kernel) ⟨Nat.le_of_ble_eq_true rfl, Nat.le_of_ble_eq_true rfl⟩) hP hK [0] rfl 6 0 rfl rfl rfl hl.1 rfl (Nat.le_of_ble_eq_true rfl) ⟨Nat.zero_le _, Nat.zero_le _⟩ dX6_edge_11 (fun r hr11 => ?_)
    subst hr11
    refine z_ifeq hx hb (tgt := 27) dX6_edge_14 (by decide) (fun h14 => ?_) (fun h14 => ?_)
    · skip
      have q14 := of_decide_eq_false h14
      refine lv_iconst (v := zB true) hx hb dX6_edge_27 (by decide) ?_
      refine lv_goto (tgt := 32) hx hb dX6_edge_28 (by decide) ?_
      have J46 : ∀ (o9 : Bool), ∀ (H : Heap) (locs : List Loc), va_P D vwCl [(mo, .inr (6, [.int (nI mth), .int (zB dir), .int (nI nv), .int (nI me), .ref mf, .ref mt, .ref mw, .ref mr, .int (nI mrn), .ref mp, .int (nI mst), .int (zB mhr), .ref mx, .ref mfa, .ref mbi, .ref mod1, .int (nI mon), .ref msc, .ref msb, .ref msu, .ref mwy, .ref mre, .ref mby, .ref msm, .ref mle, .ref mgr])), (mf, aI cA 40 (fun j => nI (Fr j))), (mt, aI cA 40 (fun j => nI (To j))), (mw, aI cA 40 (fun j => nI (We j)))] H → va_D A [(mo, .inr (6, [.int (nI mth), .int (zB dir), .int (nI nv), .int (nI me), .ref mf, .ref mt, .ref mw, .ref mr, .int (nI mrn), .ref mp, .int (nI mst), .int (zB mhr), .ref mx, .ref mfa, .ref mbi, .ref mod1, .int (nI mon), .ref msc, .ref msb, .ref msu, .ref mwy, .ref mre, .ref mby, .ref msm, .ref mle, .ref mgr])), (mf, aI cA 40 (fun j => nI (Fr j))), (mt, aI cA 40 (fun j => nI (To j))), (mw, aI cA 40 (fun j => nI (We j)))] → va_S A s.heap H locs → ∀ (ls : Array Slot), lv_has ls 4 [(0, .ref mo), (1, .int (iZ za)), (2, .int (iZ zb)), (3, .int (iZ zw))] → W p l e ({ frames := 1, cells := 0, slots := 0, locals := 22 } : Room) s m args below meth c H locs 0 0 Q (F0 m 46 ls [.int (zB o9), .int (zB true), .ref mo]) := by
        intro o9  H locs hP hD hS ls hl
        refine z_cWVi (wc := [(mo, .inr (6, [.int (nI mth), .int (zB dir), .int (nI nv), .int (nI me), .ref mf, .ref mt, .ref mw, .ref mr, .int (nI mrn), .ref mp, .int (nI mst), .int (zB mhr), .ref mx, .ref mfa, .ref mbi, .ref mod1, .int (nI mon), .ref msc, .ref msb, .ref msu, .ref mwy, .ref mre, .ref mby, .ref msm, .ref mle, .ref mgr]))]) (rm := ({ frames := 0, cells := 0, slots := 0, locals := 0 } : Room)) (As := [.int (zB true), .int (zB o9)]) (rest := []) (wr := [(mf, aI cA 40 (fun j => nI (Fr j))), (mt, aI cA 40 (fun j => nI (To j))), (mw, aI cA 40 (fun j => nI (We j)))]) (w1 := [(mo, .inr (6, [.int (nI (mThr true o9)), .int (zB dir), .int (nI nv), .int (nI me), .ref mf, .ref mt, .ref mw, .ref mr, .int (nI mrn), .ref mp, .int (nI mst), .int (zB mhr), .ref mx, .ref mfa, .ref mbi, .ref mod1, .int (nI mon), .ref msc, .ref msb, .ref msu, .ref mwy, .ref mre, .ref mby, .ref msm, .ref mle, .ref mgr]))]) (ws' := [(mo, .inr (6, [.int (nI (mThr true o9)), .int (zB dir), .int (nI nv), .int (nI me), .ref mf, .ref mt, .ref mw, .ref mr, .int (nI mrn), .ref mp, .int (nI mst), .int (zB mhr), .ref mx, .ref mfa, .ref mbi, .ref mod1, .int (nI mon), .ref msc, .ref msb, .ref msu, .ref mwy, .ref mre, .ref mby, .ref msm, .ref mle, .ref mgr])), (mf, aI cA 40 (fun j => nI (Fr j))), (mt, aI cA 40 (fun j => nI (To j))), (mw, aI cA 40 (fun j => nI (We j)))]) ⟨hx, hb, hml, hown, hts⟩ (c_X6_throwing l D cA H.size mo mf mt mw mr mp mx mfa mbi mod1 msc msb msu mwy mre mby msm mle mgr mth dir nv me mrn mst mhr mon true o9 ) (cwV 2 hts gX6_edge_X6_throwing rfl rfl rfl (by decide +kernel) ⟨Nat.le_of_ble_eq_true rfl, Nat.le_of_ble_eq_true rfl⟩) hP hK hD hS hA [0] [1, 2, 3] [3, 0, 1, 2] rfl rfl rfl rfl rfl (by decide) rfl rfl rfl 6 0 rfl rfl rfl hl.1 rfl (Nat.le_of_ble_eq_true rfl) ⟨Nat.zero_le _, Nat.zero_le _⟩ dX6_edge_46 (fun H locs hP hD hS => ?_)
        refine z_ifeq hx hb (tgt := 54) dX6_edge_49 (by decide) (fun h49 => ?_) (fun h49 => ?_)
        · cases h49
        · skip
          refine lv_iconst (v := nI 0) hx hb dX6_edge_52 (by decide) ?_
          exact z_iretW hx hb hr hlocks hAe hQ (by first | exact hP) hK (hD) hS dX6_edge_53
      refine lv_aload_n hx hb dX6_edge_32 rfl (lv_at hl 0 rfl) ?_
      refine va_get (D := D) (ci := 6) (v := .int (nI me)) (C := RX6) (T := TX6) (N := 26) hx hb hts hin6 hown hK hP 0 rfl rfl 3 (by decide) (hts (.fieldLink RX6 85 "TourHouseModel" "m" "I") (by decide +kernel)) (fun _ h9 => h9) rfl dX6_edge_33 ?_
      refine lv_bipush (v := nI 40) hx hb dX6_edge_36 (by decide) ?_
      refine z_ne hx hb (by omega) (by decide) (tgt := 45) dX6_edge_38 (by decide) (fun h38 => ?_) (fun h38 => ?_)
      · skip
        refine lv_iconst (v := zB false) hx hb dX6_edge_45 (by decide) ?_
        exact J46 false  _ _ (hP) (hD) hS ls (lv_sub hl [0, 1, 2, 3] (by rfl))
      · skip
        refine lv_iconst (v := zB true) hx hb dX6_edge_41 (by decide) ?_
        refine lv_goto (tgt := 46) hx hb dX6_edge_42 (by decide) ?_
        exact J46 true  _ _ (hP) (hD) hS ls (lv_sub hl [0, 1, 2, 3] (by rfl))
    · skip
      have q14 := of_decide_eq_true h14
      refine lv_iload_n hx hb dX6_edge_17 rfl (lv_at hl 3 rfl) ?_
      refine z_ilt hx hb (x := zw) (hw9) (tgt := 27) dX6_edge_18 (by decide) (fun h18 => ?_) (fun h18 => ?_)
      · skip
        refine lv_iconst (v := zB true) hx hb dX6_edge_27 (by decide) ?_
        refine lv_goto (tgt := 32) hx hb dX6_edge_28 (by decide) ?_
        have J46 : ∀ (o9 : Bool), ∀ (H : Heap) (locs : List Loc), va_P D vwCl [(mo, .inr (6, [.int (nI mth), .int (zB dir), .int (nI nv), .int (nI me), .ref mf, .ref mt, .ref mw, .ref mr, .int (nI mrn), .ref mp, .int (nI mst), .int (zB mhr), .ref mx, .ref mfa, .ref mbi, .ref mod1, .int (nI mon), .ref msc, .ref msb, .ref msu, .ref mwy, .ref mre, .ref mby, .ref msm, .ref mle, .ref mgr])), (mf, aI cA 40 (fun j => nI (Fr j))), (mt, aI cA 40 (fun j => nI (To j))), (mw, aI cA 40 (fun j => nI (We j)))] H → va_D A [(mo, .inr (6, [.int (nI mth), .int (zB dir), .int (nI nv), .int (nI me), .ref mf, .ref mt, .ref mw, .ref mr, .int (nI mrn), .ref mp, .int (nI mst), .int (zB mhr), .ref mx, .ref mfa, .ref mbi, .ref mod1, .int (nI mon), .ref msc, .ref msb, .ref msu, .ref mwy, .ref mre, .ref mby, .ref msm, .ref mle, .ref mgr])), (mf, aI cA 40 (fun j => nI (Fr j))), (mt, aI cA 40 (fun j => nI (To j))), (mw, aI cA 40 (fun j => nI (We j)))] → va_S A s.heap H locs → ∀ (ls : Array Slot), lv_has ls 4 [(0, .ref mo), (1, .int (iZ za)), (2, .int (iZ zb)), (3, .int (iZ zw))] → W p l e ({ frames := 1, cells := 0, slots := 0, locals := 22 } : Room) s m args below meth c H locs 0 0 Q (F0 m 46 ls [.int (zB o9), .int (zB true), .ref mo]) := by
          intro o9  H locs hP hD hS ls hl
          refine z_cWVi (wc := [(mo, .inr (6, [.int (nI mth), .int (zB dir), .int (nI nv), .int (nI me), .ref mf, .ref mt, .ref mw, .ref mr, .int (nI mrn), .ref mp, .int (nI mst), .int (zB mhr), .ref mx, .ref mfa, .ref mbi, .ref mod1, .int (nI mon), .ref msc, .ref msb, .ref msu, .ref mwy, .ref mre, .ref mby, .ref msm, .ref mle, .ref mgr]))]) (rm := ({ frames := 0, cells := 0, slots := 0, locals := 0 } : Room)) (As := [.int (zB true), .int (zB o9)]) (rest := []) (wr := [(mf, aI cA 40 (fun j => nI (Fr j))), (mt, aI cA 40 (fun j => nI (To j))), (mw, aI cA 40 (fun j => nI (We j)))]) (w1 := [(mo, .inr (6, [.int (nI (mThr true o9)), .int (zB dir), .int (nI nv), .int (nI me), .ref mf, .ref mt, .ref mw, .ref mr, .int (nI mrn), .ref mp, .int (nI mst), .int (zB mhr), .ref mx, .ref mfa, .ref mbi, .ref mod1, .int (nI mon), .ref msc, .ref msb, .ref msu, .ref mwy, .ref mre, .ref mby, .ref msm, .ref mle, .ref mgr]))]) (ws' := [(mo, .inr (6, [.int (nI (mThr true o9)), .int (zB dir), .int (nI nv), .int (nI me), .ref mf, .ref mt, .ref mw, .ref mr, .int (nI mrn), .ref mp, .int (nI mst), .int (zB mhr), .ref mx, .ref mfa, .ref mbi, .ref mod1, .int (nI mon), .ref msc, .ref msb, .ref msu, .ref mwy, .ref mre, .ref mby, .ref msm, .ref mle, .ref mgr])), (mf, aI cA 40 (fun j => nI (Fr j))), (mt, aI cA 40 (fun j => nI (To j))), (mw, aI cA 40 (fun j => nI (We j)))]) ⟨hx, hb, hml, hown, hts⟩ (c_X6_throwing l D cA H.size mo mf mt mw mr mp mx mfa mbi mod1 msc msb msu mwy mre mby msm mle mgr mth dir nv me mrn mst mhr mon true o9 ) (cwV 2 hts gX6_edge_X6_throwing rfl rfl rfl (by decide +kernel) ⟨Nat.le_of_ble_eq_true rfl, Nat.le_of_ble_eq_true rfl⟩) hP hK hD hS hA [0] [1, 2, 3] [3, 0, 1, 2] rfl rfl rfl rfl rfl (by decide) rfl rfl rfl 6 0 rfl rfl rfl hl.1 rfl (Nat.le_of_ble_eq_true rfl) ⟨Nat.zero_le _, Nat.zero_le _⟩ dX6_edge_46 (fun H locs hP hD hS => ?_)
          refine z_ifeq hx hb (tgt := 54) dX6_edge_49 (by decide) (fun h49 => ?_) (fun h49 => ?_)
          · cases h49
          · skip
            refine lv_iconst (v := nI 0) hx hb dX6_edge_52 (by decide) ?_
            exact z_iretW hx hb hr hlocks hAe hQ (by first | exact hP) hK (hD) hS dX6_edge_53
        refine lv_aload_n hx hb dX6_edge_32 rfl (lv_at hl 0 rfl) ?_
        refine va_get (D := D) (ci := 6) (v := .int (nI me)) (C := RX6) (T := TX6) (N := 26) hx hb hts hin6 hown hK hP 0 rfl rfl 3 (by decide) (hts (.fieldLink RX6 85 "TourHouseModel" "m" "I") (by decide +kernel)) (fun _ h9 => h9) rfl dX6_edge_33 ?_
        refine lv_bipush (v := nI 40) hx hb dX6_edge_36 (by decide) ?_
        refine z_ne hx hb (by omega) (by decide) (tgt := 45) dX6_edge_38 (by decide) (fun h38 => ?_) (fun h38 => ?_)
        · skip
          refine lv_iconst (v := zB false) hx hb dX6_edge_45 (by decide) ?_
          exact J46 false  _ _ (hP) (hD) hS ls (lv_sub hl [0, 1, 2, 3] (by rfl))
        · skip
          refine lv_iconst (v := zB true) hx hb dX6_edge_41 (by decide) ?_
          refine lv_goto (tgt := 46) hx hb dX6_edge_42 (by decide) ?_
          exact J46 true  _ _ (hP) (hD) hS ls (lv_sub hl [0, 1, 2, 3] (by rfl))
      · skip
        refine lv_iload_n hx hb dX6_edge_21 rfl (lv_at hl 3 rfl) ?_
        refine W.ldc (v := 1000000000) hx hb hown (hts (.constant RX6 98 (1000000000)) (by decide +kernel)) rfl dX6_edge_22 ?_
        refine W.eq (g2 := F0 m 24 ls [.int (1000000000), .int (iZ zw), .ref mo]) rfl ?_
        refine z_topi (v := nI 1000000000) (by decide) ?_
        refine z_Ile hx hb (x := zw) (y := ((1000000000 : Nat) : Int)) (hw9) (⟨by omega, by omega⟩) (tgt := 31) dX6_edge_24 (by decide) (fun h24 => ?_) (fun h24 => ?_)
        · omega
        · skip
          refine lv_iconst (v := zB true) hx hb dX6_edge_27 (by decide) ?_
          refine lv_goto (tgt := 32) hx hb dX6_edge_28 (by decide) ?_
          have J46 : ∀ (o9 : Bool), ∀ (H : Heap) (locs : List Loc), va_P D vwCl [(mo, .inr (6, [.int (nI mth), .int (zB dir), .int (nI nv), .int (nI me), .ref mf, .ref mt, .ref mw, .ref mr, .int (nI mrn), .ref mp, .int (nI mst), .int (zB mhr), .ref mx, .ref mfa, .ref mbi, .ref mod1, .int (nI mon), .ref msc, .ref msb, .ref msu, .ref mwy, .ref mre, .ref mby, .ref msm, .ref mle, .ref mgr])), (mf, aI cA 40 (fun j => nI (Fr j))), (mt, aI cA 40 (fun j => nI (To j))), (mw, aI cA 40 (fun j => nI (We j)))] H → va_D A [(mo, .inr (6, [.int (nI mth), .int (zB dir), .int (nI nv), .int (nI me), .ref mf, .ref mt, .ref mw, .ref mr, .int (nI mrn), .ref mp, .int (nI mst), .int (zB mhr), .ref mx, .ref mfa, .ref mbi, .ref mod1, .int (nI mon), .ref msc, .ref msb, .ref msu, .ref mwy, .ref mre, .ref mby, .ref msm, .ref mle, .ref mgr])), (mf, aI cA 40 (fun j => nI (Fr j))), (mt, aI cA 40 (fun j => nI (To j))), (mw, aI cA 40 (fun j => nI (We j)))] → va_S A s.heap H locs → ∀ (ls : Array Slot), lv_has ls 4 [(0, .ref mo), (1, .int (iZ za)), (2, .int (iZ zb)), (3, .int (iZ zw))] → W p l e ({ frames := 1, cells := 0, slots := 0, locals := 22 } : Room) s m args below meth c H locs 0 0 Q (F0 m 46 ls [.int (zB o9), .int (zB true), .ref mo]) := by
            intro o9  H locs hP hD hS ls hl
            refine z_cWVi (wc := [(mo, .inr (6, [.int (nI mth), .int (zB dir), .int (nI nv), .int (nI me), .ref mf, .ref mt, .ref mw, .ref mr, .int (nI mrn), .ref mp, .int (nI mst), .int (zB mhr), .ref mx, .ref mfa, .ref mbi, .ref mod1, .int (nI mon), .ref msc, .ref msb, .ref msu, .ref mwy, .ref mre, .ref mby, .ref msm, .ref mle, .ref mgr]))]) (rm := ({ frames := 0, cells := 0, slots := 0, locals := 0 } : Room)) (As := [.int (zB true), .int (zB o9)]) (rest := []) (wr := [(mf, aI cA 40 (fun j => nI (Fr j))), (mt, aI cA 40 (fun j => nI (To j))), (mw, aI cA 40 (fun j => nI (We j)))]) (w1 := [(mo, .inr (6, [.int (nI (mThr true o9)), .int (zB dir), .int (nI nv), .int (nI me), .ref mf, .ref mt, .ref mw, .ref mr, .int (nI mrn), .ref mp, .int (nI mst), .int (zB mhr), .ref mx, .ref mfa, .ref mbi, .ref mod1, .int (nI mon), .ref msc, .ref msb, .ref msu, .ref mwy, .ref mre, .ref mby, .ref msm, .ref mle, .ref mgr]))]) (ws' := [(mo, .inr (6, [.int (nI (mThr true o9)), .int (zB dir), .int (nI nv), .int (nI me), .ref mf, .ref mt, .ref mw, .ref mr, .int (nI mrn), .ref mp, .int (nI mst), .int (zB mhr), .ref mx, .ref mfa, .ref mbi, .ref mod1, .int (nI mon), .ref msc, .ref msb, .ref msu, .ref mwy, .ref mre, .ref mby, .ref msm, .ref mle, .ref mgr])), (mf, aI cA 40 (fun j => nI (Fr j))), (mt, aI cA 40 (fun j => nI (To j))), (mw, aI cA 40 (fun j => nI (We j)))]) ⟨hx, hb, hml, hown, hts⟩ (c_X6_throwing l D cA H.size mo mf mt mw mr mp mx mfa mbi mod1 msc msb msu mwy mre mby msm mle mgr mth dir nv me mrn mst mhr mon true o9 ) (cwV 2 hts gX6_edge_X6_throwing rfl rfl rfl (by decide +kernel) ⟨Nat.le_of_ble_eq_true rfl, Nat.le_of_ble_eq_true rfl⟩) hP hK hD hS hA [0] [1, 2, 3] [3, 0, 1, 2] rfl rfl rfl rfl rfl (by decide) rfl rfl rfl 6 0 rfl rfl rfl hl.1 rfl (Nat.le_of_ble_eq_true rfl) ⟨Nat.zero_le _, Nat.zero_le _⟩ dX6_edge_46 (fun H locs hP hD hS => ?_)
            refine z_ifeq hx hb (tgt := 54) dX6_edge_49 (by decide) (fun h49 => ?_) (fun h49 => ?_)
            · cases h49
            · skip
              refine lv_iconst (v := nI 0) hx hb dX6_edge_52 (by decide) ?_
              exact z_iretW hx hb hr hlocks hAe hQ (by first | exact hP) hK (hD) hS dX6_edge_53
          refine lv_aload_n hx hb dX6_edge_32 rfl (lv_at hl 0 rfl) ?_
          refine va_get (D := D) (ci := 6) (v := .int (nI me)) (C := RX6) (T := TX6) (N := 26) hx hb hts hin6 hown hK hP 0 rfl rfl 3 (by decide) (hts (.fieldLink RX6 85 "TourHouseModel" "m" "I") (by decide +kernel)) (fun _ h9 => h9) rfl dX6_edge_33 ?_
          refine lv_bipush (v := nI 40) hx hb dX6_edge_36 (by decide) ?_
          refine z_ne hx hb (by omega) (by decide) (tgt := 45) dX6_edge_38 (by decide) (fun h38 => ?_) (fun h38 => ?_)
          · skip
            refine lv_iconst (v := zB false) hx hb dX6_edge_45 (by decide) ?_
            exact J46 false  _ _ (hP) (hD) hS ls (lv_sub hl [0, 1, 2, 3] (by rfl))
          · skip
            refine lv_iconst (v := zB true) hx hb dX6_edge_41 (by decide) ?_
            refine lv_goto (tgt := 46) hx hb dX6_edge_42 (by decide) ?_
            exact J46 true  _ _ (hP) (hD) hS ls (lv_sub hl [0, 1, 2, 3] (by rfl))
set_option maxHeartbeats 4000000 in
set_option maxRecDepth 100000 in
/-- Model.edge, refused (full) -/
theorem c_X6_edge_s (l : Launch) (D : va_G) (cA : Nat → ClassId) (sz : Nat) (mo : Nat) (mf : Nat) (mt : Nat) (mw : Nat) (mr : Nat) (mp : Nat) (mx : Nat) (mfa : Nat) (mbi : Nat) (mod1 : Nat) (msc : Nat) (msb : Nat) (msu : Nat) (mwy : Nat) (mre : Nat) (mby : Nat) (msm : Nat) (mle : Nat) (mgr : Nat) (mth : Nat) (dir : Bool) (nv : Nat) (me : Nat) (mrn : Nat) (mst : Nat) (mhr : Bool) (mon : Nat) (Fr : Nat → Nat) (To : Nat → Nat) (We : Nat → Nat) (za : Int) (zb : Int) (zw : Int) (hnv : nv ≤ 16) (hme : me ≤ 40) (ha : -2147483648 ≤ za ∧ za < 2147483648) (hb9 : -2147483648 ≤ zb ∧ zb < 2147483648) (hw9 : -2147483648 ≤ zw ∧ zw < 2147483648) (hok : 0 ≤ za ∧ za < (nv : Int) ∧ 0 ≤ zb ∧ zb < (nv : Int) ∧ 0 ≤ zw ∧ zw ≤ 1000000000) (hfull : me = 40) : Met l yX6_edge wsX6_edge ({ frames := 1, cells := 0, slots := 0, locals := 22 } : Room) (zWr D vwCl (zT cA) [(mo, .inr (6, [.int (nI mth), .int (zB dir), .int (nI nv), .int (nI me), .ref mf, .ref mt, .ref mw, .ref mr, .int (nI mrn), .ref mp, .int (nI mst), .int (zB mhr), .ref mx, .ref mfa, .ref mbi, .ref mod1, .int (nI mon), .ref msc, .ref msb, .ref msu, .ref mwy, .ref mre, .ref mby, .ref msm, .ref mle, .ref mgr])), (mf, aI cA 40 (fun j => nI (Fr j))), (mt, aI cA 40 (fun j => nI (To j))), (mw, aI cA 40 (fun j => nI (We j)))] sz [.ref mo, .int (iZ za), .int (iZ zb), .int (iZ zw)]) (zQi D vwCl (zT cA) (va_A [(mo, .inr (6, [.int (nI mth), .int (zB dir), .int (nI nv), .int (nI me), .ref mf, .ref mt, .ref mw, .ref mr, .int (nI mrn), .ref mp, .int (nI mst), .int (zB mhr), .ref mx, .ref mfa, .ref mbi, .ref mod1, .int (nI mon), .ref msc, .ref msb, .ref msu, .ref mwy, .ref mre, .ref mby, .ref msm, .ref mle, .ref mgr])), (mf, aI cA 40 (fun j => nI (Fr j))), (mt, aI cA 40 (fun j => nI (To j))), (mw, aI cA 40 (fun j => nI (We j)))] sz) [(mo, .inr (6, [.int (nI 2), .int (zB dir), .int (nI nv), .int (nI me), .ref mf, .ref mt, .ref mw, .ref mr, .int (nI mrn), .ref mp, .int (nI mst), .int (zB mhr), .ref mx, .ref mfa, .ref mbi, .ref mod1, .int (nI mon), .ref msc, .ref msb, .ref msu, .ref mwy, .ref mre, .ref mby, .ref msm, .ref mle, .ref mgr])), (mf, aI cA 40 (fun j => nI (Fr j))), (mt, aI cA 40 (fun j => nI (To j))), (mw, aI cA 40 (fun j => nI (We j)))] (nI 0)) 0 0 (va_A [(mo, .inr (6, [.int (nI mth), .int (zB dir), .int (nI nv), .int (nI me), .ref mf, .ref mt, .ref mw, .ref mr, .int (nI mrn), .ref mp, .int (nI mst), .int (zB mhr), .ref mx, .ref mfa, .ref mbi, .ref mod1, .int (nI mon), .ref msc, .ref msb, .ref msu, .ref mwy, .ref mre, .ref mby, .ref msm, .ref mle, .ref mgr])), (mf, aI cA 40 (fun j => nI (Fr j))), (mt, aI cA 40 (fun j => nI (To j))), (mw, aI cA 40 (fun j => nI (We j)))] sz) := by
  refine z_write (cc := cX6_edge) (maxL := 4) (ret := (some .int)) (by decide) rfl (Nat.le_of_ble_eq_true rfl) ?_
  intro p e s m below meth c hx hb hr hml hown hts hlocks A hAe hA H locs hP hK hD hS hini Q hQ ls hl
  have hown : s.vm.findClass RX6 = some m.cls := hown
  have hl : lv_has ls 4 [(0, .ref mo), (1, .int (iZ za)), (2, .int (iZ zb)), (3, .int (iZ zw))] := hl
  generalize hav : ([.ref mo, .int (iZ za), .int (iZ zb), .int (iZ zw)] : List Value).toArray = args at hts hQ ⊢
  have hin6 : ∀ w ∈ wsX60, w ∈ wsX6_edge := by decide +kernel
  refine lv_aload_n hx hb dX6_edge_0 rfl (lv_at hl 0 rfl) ?_
  refine lv_aload_n hx hb dX6_edge_1 rfl (lv_at hl 0 rfl) ?_
  refine lv_iload_n hx hb dX6_edge_2 rfl (lv_at hl 1 rfl) ?_
  refine z_cRVi (wc := [(mo, .inr (6, [.int (nI mth), .int (zB dir), .int (nI nv), .int (nI me), .ref mf, .ref mt, .ref mw, .ref mr, .int (nI mrn), .ref mp, .int (nI mst), .int (zB mhr), .ref mx, .ref mfa, .ref mbi, .ref mod1, .int (nI mon), .ref msc, .ref msb, .ref msu, .ref mwy, .ref mre, .ref mby, .ref msm, .ref mle, .ref mgr]))]) (rm := ({ frames := 0, cells := 0, slots := 0, locals := 0 } : Room)) (As := [.int (iZ za)]) (rest := [.ref mo]) ⟨hx, hb, hml, hown, hts⟩ (c_X6_isVertex l D cA mo mf mt mw mr mp mx mfa mbi mod1 msc msb msu mwy mre mby msm mle mgr mth dir nv me mrn mst mhr mon za (ha) (by first | assumption | omega)) (cwV 1 hts gX6_edge_X6_isVertex rfl rfl rfl (by decide +kernel) ⟨Nat.le_of_ble_eq_true rfl, Nat.le_of_ble_eq_true rfl⟩) hP hK [0] rfl 6 0 rfl rfl rfl hl.1 rfl (Nat.le_of_ble_eq_true rfl) ⟨Nat.zero_le _, Nat.zero_le _⟩ dX6_edge_3 (fun r hr3 => ?_)
  subst hr3
  refine z_ifeq hx hb (tgt := 27) dX6_edge_6 (by decide) (fun h6 => ?_) (fun h6 => ?_)
  · exact absurd (of_decide_eq_false h6) (by omega)
  · skip
    have q6 := of_decide_eq_true h6
    refine lv_aload_n hx hb dX6_edge_9 rfl (lv_at hl 0 rfl) ?_
    refine lv_iload_n hx hb dX6_edge_10 rfl (lv_at hl 2 rfl) ?_
    refine z_cRVi (wc := [(mo, .inr (6, [.int (nI mth), .int (zB dir), .int (nI nv), .int (nI me), .ref mf, .ref mt, .ref mw, .ref mr, .int (nI mrn), .ref mp, .int (nI mst), .int (zB mhr), .ref mx, .ref mfa, .ref mbi, .ref mod1, .int (nI mon), .ref msc, .ref msb, .ref msu, .ref mwy, .ref mre, .ref mby, .ref msm, .ref mle, .ref mgr]))]) (rm := ({ frames := 0, cells := 0, slots := 0, locals := 0 } : Room)) (As := [.int (iZ zb)]) (rest := [.ref mo]) ⟨hx, hb, hml, hown, hts⟩ (c_X6_isVertex l D cA mo mf mt mw mr mp mx mfa mbi mod1 msc msb msu mwy mre mby msm mle mgr mth dir nv me mrn mst mhr mon zb (hb9) (by first | assumption | omega)) (cwV 1 hts gX6_edge_X6_isVertex rfl rfl rfl (by decide +kernel) ⟨Nat.le_of_ble_eq_true rfl, Nat.le_of_ble_eq_true rfl⟩) hP hK [0] rfl 6 0 rfl rfl rfl hl.1 rfl (Nat.le_of_ble_eq_true rfl) ⟨Nat.zero_le _, Nat.zero_le _⟩ dX6_edge_11 (fun r hr11 => ?_)
    subst hr11
    refine z_ifeq hx hb (tgt := 27) dX6_edge_14 (by decide) (fun h14 => ?_) (fun h14 => ?_)
    · exact absurd (of_decide_eq_false h14) (by omega)
    · skip
      have q14 := of_decide_eq_true h14
      refine lv_iload_n hx hb dX6_edge_17 rfl (lv_at hl 3 rfl) ?_
      refine z_ilt hx hb (x := zw) (hw9) (tgt := 27) dX6_edge_18 (by decide) (fun h18 => ?_) (fun h18 => ?_)
      · omega
      · skip
        refine lv_iload_n hx hb dX6_edge_21 rfl (lv_at hl 3 rfl) ?_
        refine W.ldc (v := 1000000000) hx hb hown (hts (.constant RX6 98 (1000000000)) (by decide +kernel)) rfl dX6_edge_22 ?_
        refine W.eq (g2 := F0 m 24 ls [.int (1000000000), .int (iZ zw), .ref mo]) rfl ?_
        refine z_topi (v := nI 1000000000) (by decide) ?_
        refine z_Ile hx hb (x := zw) (y := ((1000000000 : Nat) : Int)) (hw9) (⟨by omega, by omega⟩) (tgt := 31) dX6_edge_24 (by decide) (fun h24 => ?_) (fun h24 => ?_)
        · skip
          refine lv_iconst (v := zB false) hx hb dX6_edge_31 (by decide) ?_
          refine lv_aload_n hx hb dX6_edge_32 rfl (lv_at hl 0 rfl) ?_
          refine va_get (D := D) (ci := 6) (v := .int (nI me)) (C := RX6) (T := TX6) (N := 26) hx hb hts hin6 hown hK hP 0 rfl rfl 3 (by decide) (hts (.fieldLink RX6 85 "TourHouseModel" "m" "I") (by decide +kernel)) (fun _ h9 => h9) rfl dX6_edge_33 ?_
          refine lv_bipush (v := nI 40) hx hb dX6_edge_36 (by decide) ?_
          refine z_ne hx hb (by omega) (by decide) (tgt := 45) dX6_edge_38 (by decide) (fun h38 => ?_) (fun h38 => ?_)
          · omega
          · skip
            refine lv_iconst (v := zB true) hx hb dX6_edge_41 (by decide) ?_
            refine lv_goto (tgt := 46) hx hb dX6_edge_42 (by decide) ?_
            refine z_cWVi (wc := [(mo, .inr (6, [.int (nI mth), .int (zB dir), .int (nI nv), .int (nI me), .ref mf, .ref mt, .ref mw, .ref mr, .int (nI mrn), .ref mp, .int (nI mst), .int (zB mhr), .ref mx, .ref mfa, .ref mbi, .ref mod1, .int (nI mon), .ref msc, .ref msb, .ref msu, .ref mwy, .ref mre, .ref mby, .ref msm, .ref mle, .ref mgr]))]) (rm := ({ frames := 0, cells := 0, slots := 0, locals := 0 } : Room)) (As := [.int (zB false), .int (zB true)]) (rest := []) (wr := [(mf, aI cA 40 (fun j => nI (Fr j))), (mt, aI cA 40 (fun j => nI (To j))), (mw, aI cA 40 (fun j => nI (We j)))]) (w1 := [(mo, .inr (6, [.int (nI (mThr false true)), .int (zB dir), .int (nI nv), .int (nI me), .ref mf, .ref mt, .ref mw, .ref mr, .int (nI mrn), .ref mp, .int (nI mst), .int (zB mhr), .ref mx, .ref mfa, .ref mbi, .ref mod1, .int (nI mon), .ref msc, .ref msb, .ref msu, .ref mwy, .ref mre, .ref mby, .ref msm, .ref mle, .ref mgr]))]) (ws' := [(mo, .inr (6, [.int (nI (mThr false true)), .int (zB dir), .int (nI nv), .int (nI me), .ref mf, .ref mt, .ref mw, .ref mr, .int (nI mrn), .ref mp, .int (nI mst), .int (zB mhr), .ref mx, .ref mfa, .ref mbi, .ref mod1, .int (nI mon), .ref msc, .ref msb, .ref msu, .ref mwy, .ref mre, .ref mby, .ref msm, .ref mle, .ref mgr])), (mf, aI cA 40 (fun j => nI (Fr j))), (mt, aI cA 40 (fun j => nI (To j))), (mw, aI cA 40 (fun j => nI (We j)))]) ⟨hx, hb, hml, hown, hts⟩ (c_X6_throwing l D cA H.size mo mf mt mw mr mp mx mfa mbi mod1 msc msb msu mwy mre mby msm mle mgr mth dir nv me mrn mst mhr mon false true ) (cwV 2 hts gX6_edge_X6_throwing rfl rfl rfl (by decide +kernel) ⟨Nat.le_of_ble_eq_true rfl, Nat.le_of_ble_eq_true rfl⟩) hP hK hD hS hA [0] [1, 2, 3] [3, 0, 1, 2] rfl rfl rfl rfl rfl (by decide) rfl rfl rfl 6 0 rfl rfl rfl hl.1 rfl (Nat.le_of_ble_eq_true rfl) ⟨Nat.zero_le _, Nat.zero_le _⟩ dX6_edge_46 (fun H locs hP hD hS => ?_)
            refine z_ifeq hx hb (tgt := 54) dX6_edge_49 (by decide) (fun h49 => ?_) (fun h49 => ?_)
            · cases h49
            · skip
              refine lv_iconst (v := nI 0) hx hb dX6_edge_52 (by decide) ?_
              exact z_iretW hx hb hr hlocks hAe hQ (hP) hK (hD) hS dX6_edge_53
        · omega
set_option maxHeartbeats 4000000 in
set_option maxRecDepth 100000 in
/-- Model.edge -/
theorem c_X6_edge_o (l : Launch) (D : va_G) (cA : Nat → ClassId) (sz : Nat) (mo : Nat) (mf : Nat) (mt : Nat) (mw : Nat) (mr : Nat) (mp : Nat) (mx : Nat) (mfa : Nat) (mbi : Nat) (mod1 : Nat) (msc : Nat) (msb : Nat) (msu : Nat) (mwy : Nat) (mre : Nat) (mby : Nat) (msm : Nat) (mle : Nat) (mgr : Nat) (mth : Nat) (dir : Bool) (nv : Nat) (me : Nat) (mrn : Nat) (mst : Nat) (mhr : Bool) (mon : Nat) (Fr : Nat → Nat) (To : Nat → Nat) (We : Nat → Nat) (za : Int) (zb : Int) (zw : Int) (hnv : nv ≤ 16) (hme : me ≤ 40) (ha : -2147483648 ≤ za ∧ za < 2147483648) (hb9 : -2147483648 ≤ zb ∧ zb < 2147483648) (hw9 : -2147483648 ≤ zw ∧ zw < 2147483648) (hok : 0 ≤ za ∧ za < (nv : Int) ∧ 0 ≤ zb ∧ zb < (nv : Int) ∧ 0 ≤ zw ∧ zw ≤ 1000000000) (hfree : me < 40) : Met l yX6_edge wsX6_edge ({ frames := 1, cells := 0, slots := 0, locals := 22 } : Room) (zWr D vwCl (zT cA) [(mo, .inr (6, [.int (nI mth), .int (zB dir), .int (nI nv), .int (nI me), .ref mf, .ref mt, .ref mw, .ref mr, .int (nI mrn), .ref mp, .int (nI mst), .int (zB mhr), .ref mx, .ref mfa, .ref mbi, .ref mod1, .int (nI mon), .ref msc, .ref msb, .ref msu, .ref mwy, .ref mre, .ref mby, .ref msm, .ref mle, .ref mgr])), (mf, aI cA 40 (fun j => nI (Fr j))), (mt, aI cA 40 (fun j => nI (To j))), (mw, aI cA 40 (fun j => nI (We j)))] sz [.ref mo, .int (iZ za), .int (iZ zb), .int (iZ zw)]) (zQi D vwCl (zT cA) (va_A [(mo, .inr (6, [.int (nI mth), .int (zB dir), .int (nI nv), .int (nI me), .ref mf, .ref mt, .ref mw, .ref mr, .int (nI mrn), .ref mp, .int (nI mst), .int (zB mhr), .ref mx, .ref mfa, .ref mbi, .ref mod1, .int (nI mon), .ref msc, .ref msb, .ref msu, .ref mwy, .ref mre, .ref mby, .ref msm, .ref mle, .ref mgr])), (mf, aI cA 40 (fun j => nI (Fr j))), (mt, aI cA 40 (fun j => nI (To j))), (mw, aI cA 40 (fun j => nI (We j)))] sz) [(mo, .inr (6, [.int (nI 0), .int (zB dir), .int (nI nv), .int (nI (me + 1)), .ref mf, .ref mt, .ref mw, .ref mr, .int (nI 0), .ref mp, .int (nI mst), .int (zB false), .ref mx, .ref mfa, .ref mbi, .ref mod1, .int (nI mon), .ref msc, .ref msb, .ref msu, .ref mwy, .ref mre, .ref mby, .ref msm, .ref mle, .ref mgr])), (mf, aI cA 40 (fun j => nI ((va_up Fr me za.toNat) j))), (mt, aI cA 40 (fun j => nI ((va_up To me zb.toNat) j))), (mw, aI cA 40 (fun j => nI ((va_up We me zw.toNat) j)))] (nI me)) 0 0 (va_A [(mo, .inr (6, [.int (nI mth), .int (zB dir), .int (nI nv), .int (nI me), .ref mf, .ref mt, .ref mw, .ref mr, .int (nI mrn), .ref mp, .int (nI mst), .int (zB mhr), .ref mx, .ref mfa, .ref mbi, .ref mod1, .int (nI mon), .ref msc, .ref msb, .ref msu, .ref mwy, .ref mre, .ref mby, .ref msm, .ref mle, .ref mgr])), (mf, aI cA 40 (fun j => nI (Fr j))), (mt, aI cA 40 (fun j => nI (To j))), (mw, aI cA 40 (fun j => nI (We j)))] sz) := by
  refine z_write (cc := cX6_edge) (maxL := 4) (ret := (some .int)) (by decide) rfl (Nat.le_of_ble_eq_true rfl) ?_
  intro p e s m below meth c hx hb hr hml hown hts hlocks A hAe hA H locs hP hK hD hS hini Q hQ ls hl
  have hown : s.vm.findClass RX6 = some m.cls := hown
  have hl : lv_has ls 4 [(0, .ref mo), (1, .int (iZ za)), (2, .int (iZ zb)), (3, .int (iZ zw))] := hl
  generalize hav : ([.ref mo, .int (iZ za), .int (iZ zb), .int (iZ zw)] : List Value).toArray = args at hts hQ ⊢
  have hin6 : ∀ w ∈ wsX60, w ∈ wsX6_edge := by decide +kernel
  refine lv_aload_n hx hb dX6_edge_0 rfl (lv_at hl 0 rfl) ?_
  refine lv_aload_n hx hb dX6_edge_1 rfl (lv_at hl 0 rfl) ?_
  refine lv_iload_n hx hb dX6_edge_2 rfl (lv_at hl 1 rfl) ?_
  refine z_cRVi (wc := [(mo, .inr (6, [.int (nI mth), .int (zB dir), .int (nI nv), .int (nI me), .ref mf, .ref mt, .ref mw, .ref mr, .int (nI mrn), .ref mp, .int (nI mst), .int (zB mhr), .ref mx, .ref mfa, .ref mbi, .ref mod1, .int (nI mon), .ref msc, .ref msb, .ref msu, .ref mwy, .ref mre, .ref mby, .ref msm, .ref mle, .ref mgr]))]) (rm := ({ frames := 0, cells := 0, slots := 0, locals := 0 } : Room)) (As := [.int (iZ za)]) (rest := [.ref mo]) ⟨hx, hb, hml, hown, hts⟩ (c_X6_isVertex l D cA mo mf mt mw mr mp mx mfa mbi mod1 msc msb msu mwy mre mby msm mle mgr mth dir nv me mrn mst mhr mon za (ha) (by first | assumption | omega)) (cwV 1 hts gX6_edge_X6_isVertex rfl rfl rfl (by decide +kernel) ⟨Nat.le_of_ble_eq_true rfl, Nat.le_of_ble_eq_true rfl⟩) hP hK [0] rfl 6 0 rfl rfl rfl hl.1 rfl (Nat.le_of_ble_eq_true rfl) ⟨Nat.zero_le _, Nat.zero_le _⟩ dX6_edge_3 (fun r hr3 => ?_)
  subst hr3
  refine z_ifeq hx hb (tgt := 27) dX6_edge_6 (by decide) (fun h6 => ?_) (fun h6 => ?_)
  · exact absurd (of_decide_eq_false h6) (by omega)
  · skip
    have q6 := of_decide_eq_true h6
    refine lv_aload_n hx hb dX6_edge_9 rfl (lv_at hl 0 rfl) ?_
    refine lv_iload_n hx hb dX6_edge_10 rfl (lv_at hl 2 rfl) ?_
    refine z_cRVi (wc := [(mo, .inr (6, [.int (nI mth), .int (zB dir), .int (nI nv), .int (nI me), .ref mf, .ref mt, .ref mw, .ref mr, .int (nI mrn), .ref mp, .int (nI mst), .int (zB mhr), .ref mx, .ref mfa, .ref mbi, .ref mod1, .int (nI mon), .ref msc, .ref msb, .ref msu, .ref mwy, .ref mre, .ref mby, .ref msm, .ref mle, .ref mgr]))]) (rm := ({ frames := 0, cells := 0, slots := 0, locals := 0 } : Room)) (As := [.int (iZ zb)]) (rest := [.ref mo]) ⟨hx, hb, hml, hown, hts⟩ (c_X6_isVertex l D cA mo mf mt mw mr mp mx mfa mbi mod1 msc msb msu mwy mre mby msm mle mgr mth dir nv me mrn mst mhr mon zb (hb9) (by first | assumption | omega)) (cwV 1 hts gX6_edge_X6_isVertex rfl rfl rfl (by decide +kernel) ⟨Nat.le_of_ble_eq_true rfl, Nat.le_of_ble_eq_true rfl⟩) hP hK [0] rfl 6 0 rfl rfl rfl hl.1 rfl (Nat.le_of_ble_eq_true rfl) ⟨Nat.zero_le _, Nat.zero_le _⟩ dX6_edge_11 (fun r hr11 => ?_)
    subst hr11
    refine z_ifeq hx hb (tgt := 27) dX6_edge_14 (by decide) (fun h14 => ?_) (fun h14 => ?_)
    · exact absurd (of_decide_eq_false h14) (by omega)
    · skip
      have q14 := of_decide_eq_true h14
      refine lv_iload_n hx hb dX6_edge_17 rfl (lv_at hl 3 rfl) ?_
      refine z_ilt hx hb (x := zw) (hw9) (tgt := 27) dX6_edge_18 (by decide) (fun h18 => ?_) (fun h18 => ?_)
      · omega
      · skip
        refine lv_iload_n hx hb dX6_edge_21 rfl (lv_at hl 3 rfl) ?_
        refine W.ldc (v := 1000000000) hx hb hown (hts (.constant RX6 98 (1000000000)) (by decide +kernel)) rfl dX6_edge_22 ?_
        refine W.eq (g2 := F0 m 24 ls [.int (1000000000), .int (iZ zw), .ref mo]) rfl ?_
        refine z_topi (v := nI 1000000000) (by decide) ?_
        refine z_Ile hx hb (x := zw) (y := ((1000000000 : Nat) : Int)) (hw9) (⟨by omega, by omega⟩) (tgt := 31) dX6_edge_24 (by decide) (fun h24 => ?_) (fun h24 => ?_)
        · skip
          refine lv_iconst (v := zB false) hx hb dX6_edge_31 (by decide) ?_
          refine lv_aload_n hx hb dX6_edge_32 rfl (lv_at hl 0 rfl) ?_
          refine va_get (D := D) (ci := 6) (v := .int (nI me)) (C := RX6) (T := TX6) (N := 26) hx hb hts hin6 hown hK hP 0 rfl rfl 3 (by decide) (hts (.fieldLink RX6 85 "TourHouseModel" "m" "I") (by decide +kernel)) (fun _ h9 => h9) rfl dX6_edge_33 ?_
          refine lv_bipush (v := nI 40) hx hb dX6_edge_36 (by decide) ?_
          refine z_ne hx hb (by omega) (by decide) (tgt := 45) dX6_edge_38 (by decide) (fun h38 => ?_) (fun h38 => ?_)
          · skip
            refine lv_iconst (v := zB false) hx hb dX6_edge_45 (by decide) ?_
            refine z_cWVi (wc := [(mo, .inr (6, [.int (nI mth), .int (zB dir), .int (nI nv), .int (nI me), .ref mf, .ref mt, .ref mw, .ref mr, .int (nI mrn), .ref mp, .int (nI mst), .int (zB mhr), .ref mx, .ref mfa, .ref mbi, .ref mod1, .int (nI mon), .ref msc, .ref msb, .ref msu, .ref mwy, .ref mre, .ref mby, .ref msm, .ref mle, .ref mgr]))]) (rm := ({ frames := 0, cells := 0, slots := 0, locals := 0 } : Room)) (As := [.int (zB false), .int (zB false)]) (rest := []) (wr := [(mf, aI cA 40 (fun j => nI (Fr j))), (mt, aI cA 40 (fun j => nI (To j))), (mw, aI cA 40 (fun j => nI (We j)))]) (w1 := [(mo, .inr (6, [.int (nI (mThr false false)), .int (zB dir), .int (nI nv), .int (nI me), .ref mf, .ref mt, .ref mw, .ref mr, .int (nI mrn), .ref mp, .int (nI mst), .int (zB mhr), .ref mx, .ref mfa, .ref mbi, .ref mod1, .int (nI mon), .ref msc, .ref msb, .ref msu, .ref mwy, .ref mre, .ref mby, .ref msm, .ref mle, .ref mgr]))]) (ws' := [(mo, .inr (6, [.int (nI (mThr false false)), .int (zB dir), .int (nI nv), .int (nI me), .ref mf, .ref mt, .ref mw, .ref mr, .int (nI mrn), .ref mp, .int (nI mst), .int (zB mhr), .ref mx, .ref mfa, .ref mbi, .ref mod1, .int (nI mon), .ref msc, .ref msb, .ref msu, .ref mwy, .ref mre, .ref mby, .ref msm, .ref mle, .ref mgr])), (mf, aI cA 40 (fun j => nI (Fr j))), (mt, aI cA 40 (fun j => nI (To j))), (mw, aI cA 40 (fun j => nI (We j)))]) ⟨hx, hb, hml, hown, hts⟩ (c_X6_throwing l D cA H.size mo mf mt mw mr mp mx mfa mbi mod1 msc msb msu mwy mre mby msm mle mgr mth dir nv me mrn mst mhr mon false false ) (cwV 2 hts gX6_edge_X6_throwing rfl rfl rfl (by decide +kernel) ⟨Nat.le_of_ble_eq_true rfl, Nat.le_of_ble_eq_true rfl⟩) hP hK hD hS hA [0] [1, 2, 3] [3, 0, 1, 2] rfl rfl rfl rfl rfl (by decide) rfl rfl rfl 6 0 rfl rfl rfl hl.1 rfl (Nat.le_of_ble_eq_true rfl) ⟨Nat.zero_le _, Nat.zero_le _⟩ dX6_edge_46 (fun H locs hP hD hS => ?_)
            refine z_ifeq hx hb (tgt := 54) dX6_edge_49 (by decide) (fun h49 => ?_) (fun h49 => ?_)
            · skip
              refine lv_aload_n hx hb dX6_edge_54 rfl (lv_at hl 0 rfl) ?_
              refine va_get (D := D) (ci := 6) (v := .ref mf) (C := RX6) (T := TX6) (N := 26) hx hb hts hin6 hown hK hP 0 rfl rfl 4 (by decide) (hts (.fieldLink RX6 13 "TourHouseModel" "from" "[I") (by decide +kernel)) (fun _ h9 => h9) rfl dX6_edge_55 ?_
              refine lv_aload_n hx hb dX6_edge_58 rfl (lv_at hl 0 rfl) ?_
              refine va_get (D := D) (ci := 6) (v := .int (nI me)) (C := RX6) (T := TX6) (N := 26) hx hb hts hin6 hown hK hP 0 rfl rfl 3 (by decide) (hts (.fieldLink RX6 85 "TourHouseModel" "m" "I") (by decide +kernel)) (fun _ h9 => h9) rfl dX6_edge_59 ?_
              refine lv_iload_n hx hb dX6_edge_62 rfl (lv_at hl 1 rfl) ?_
              refine z_topi (v := nI za.toNat) (iZ_toNat (by omega)) ?_
              refine z_iast hx hb hK hP hD hS 1 0 rfl rfl (k := me) (by omega) (by decide) (f' := (fun j => nI ((va_up Fr me za.toNat) j))) (upd_nI Fr me za.toNat) (ws' := [(mo, .inr (6, [.int (nI (mThr false false)), .int (zB dir), .int (nI nv), .int (nI me), .ref mf, .ref mt, .ref mw, .ref mr, .int (nI mrn), .ref mp, .int (nI mst), .int (zB mhr), .ref mx, .ref mfa, .ref mbi, .ref mod1, .int (nI mon), .ref msc, .ref msb, .ref msu, .ref mwy, .ref mre, .ref mby, .ref msm, .ref mle, .ref mgr])), (mf, aI cA 40 (fun j => nI ((va_up Fr me za.toNat) j))), (mt, aI cA 40 (fun j => nI (To j))), (mw, aI cA 40 (fun j => nI (We j)))]) rfl dX6_edge_63 (fun H locs hP hD hS => ?_)
              refine lv_aload_n hx hb dX6_edge_64 rfl (lv_at hl 0 rfl) ?_
              refine va_get (D := D) (ci := 6) (v := .ref mt) (C := RX6) (T := TX6) (N := 26) hx hb hts hin6 hown hK hP 0 rfl rfl 5 (by decide) (hts (.fieldLink RX6 17 "TourHouseModel" "to" "[I") (by decide +kernel)) (fun _ h9 => h9) rfl dX6_edge_65 ?_
              refine lv_aload_n hx hb dX6_edge_68 rfl (lv_at hl 0 rfl) ?_
              refine va_get (D := D) (ci := 6) (v := .int (nI me)) (C := RX6) (T := TX6) (N := 26) hx hb hts hin6 hown hK hP 0 rfl rfl 3 (by decide) (hts (.fieldLink RX6 85 "TourHouseModel" "m" "I") (by decide +kernel)) (fun _ h9 => h9) rfl dX6_edge_69 ?_
              refine lv_iload_n hx hb dX6_edge_72 rfl (lv_at hl 2 rfl) ?_
              refine z_topi (v := nI zb.toNat) (iZ_toNat (by omega)) ?_
              refine z_iast hx hb hK hP hD hS 2 0 rfl rfl (k := me) (by omega) (by decide) (f' := (fun j => nI ((va_up To me zb.toNat) j))) (upd_nI To me zb.toNat) (ws' := [(mo, .inr (6, [.int (nI (mThr false false)), .int (zB dir), .int (nI nv), .int (nI me), .ref mf, .ref mt, .ref mw, .ref mr, .int (nI mrn), .ref mp, .int (nI mst), .int (zB mhr), .ref mx, .ref mfa, .ref mbi, .ref mod1, .int (nI mon), .ref msc, .ref msb, .ref msu, .ref mwy, .ref mre, .ref mby, .ref msm, .ref mle, .ref mgr])), (mf, aI cA 40 (fun j => nI ((va_up Fr me za.toNat) j))), (mt, aI cA 40 (fun j => nI ((va_up To me zb.toNat) j))), (mw, aI cA 40 (fun j => nI (We j)))]) rfl dX6_edge_73 (fun H locs hP hD hS => ?_)
              refine lv_aload_n hx hb dX6_edge_74 rfl (lv_at hl 0 rfl) ?_
              refine va_get (D := D) (ci := 6) (v := .ref mw) (C := RX6) (T := TX6) (N := 26) hx hb hts hin6 hown hK hP 0 rfl rfl 6 (by decide) (hts (.fieldLink RX6 20 "TourHouseModel" "weight" "[I") (by decide +kernel)) (fun _ h9 => h9) rfl dX6_edge_75 ?_
              refine lv_aload_n hx hb dX6_edge_78 rfl (lv_at hl 0 rfl) ?_
              refine va_get (D := D) (ci := 6) (v := .int (nI me)) (C := RX6) (T := TX6) (N := 26) hx hb hts hin6 hown hK hP 0 rfl rfl 3 (by decide) (hts (.fieldLink RX6 85 "TourHouseModel" "m" "I") (by decide +kernel)) (fun _ h9 => h9) rfl dX6_edge_79 ?_
              refine lv_iload_n hx hb dX6_edge_82 rfl (lv_at hl 3 rfl) ?_
              refine z_topi (v := nI zw.toNat) (iZ_toNat (by omega)) ?_
              refine z_iast hx hb hK hP hD hS 3 0 rfl rfl (k := me) (by omega) (by decide) (f' := (fun j => nI ((va_up We me zw.toNat) j))) (upd_nI We me zw.toNat) (ws' := [(mo, .inr (6, [.int (nI (mThr false false)), .int (zB dir), .int (nI nv), .int (nI me), .ref mf, .ref mt, .ref mw, .ref mr, .int (nI mrn), .ref mp, .int (nI mst), .int (zB mhr), .ref mx, .ref mfa, .ref mbi, .ref mod1, .int (nI mon), .ref msc, .ref msb, .ref msu, .ref mwy, .ref mre, .ref mby, .ref msm, .ref mle, .ref mgr])), (mf, aI cA 40 (fun j => nI ((va_up Fr me za.toNat) j))), (mt, aI cA 40 (fun j => nI ((va_up To me zb.toNat) j))), (mw, aI cA 40 (fun j => nI ((va_up We me zw.toNat) j)))]) rfl dX6_edge_83 (fun H locs hP hD hS => ?_)
              refine lv_aload_n hx hb dX6_edge_84 rfl (lv_at hl 0 rfl) ?_
              refine lv_dup hx hb dX6_edge_85 rfl ?_
              refine va_get (D := D) (ci := 6) (v := .int (nI me)) (C := RX6) (T := TX6) (N := 26) hx hb hts hin6 hown hK hP 0 rfl rfl 3 (by decide) (hts (.fieldLink RX6 85 "TourHouseModel" "m" "I") (by decide +kernel)) (fun _ h9 => h9) rfl dX6_edge_86 ?_
              refine lv_iconst (v := nI 1) hx hb dX6_edge_89 (by decide) ?_
              refine lv_iadd hx hb dX6_edge_90 ?_
              refine z_topi (v := nI (me + 1)) (nI_add me 1) ?_
              refine va_put (D := D) (ci := 6) (v := .int (nI (me + 1))) (ty := .int) (C := RX6) (T := TX6) (N := 26) hx hb hts hin6 tyX6 tyX6_ok nmX6 hown hK hP hD hS 0 rfl rfl 3 (by decide) (hts (.fieldLink RX6 85 "TourHouseModel" "m" "I") (by decide +kernel)) (fun _ h9 => h9) rfl (by decide +kernel) (rfl) (rfl) (Nat.le_of_ble_eq_true rfl) dX6_edge_91 (fun H locs hP hD hS => ?_)
              have hP : va_P D vwCl [(mo, .inr (6, [.int (nI (mThr false false)), .int (zB dir), .int (nI nv), .int (nI (me + 1)), .ref mf, .ref mt, .ref mw, .ref mr, .int (nI mrn), .ref mp, .int (nI mst), .int (zB mhr), .ref mx, .ref mfa, .ref mbi, .ref mod1, .int (nI mon), .ref msc, .ref msb, .ref msu, .ref mwy, .ref mre, .ref mby, .ref msm, .ref mle, .ref mgr])), (mf, aI cA 40 (fun j => nI ((va_up Fr me za.toNat) j))), (mt, aI cA 40 (fun j => nI ((va_up To me zb.toNat) j))), (mw, aI cA 40 (fun j => nI ((va_up We me zw.toNat) j)))] H := hP
              have hD : va_D A [(mo, .inr (6, [.int (nI (mThr false false)), .int (zB dir), .int (nI nv), .int (nI (me + 1)), .ref mf, .ref mt, .ref mw, .ref mr, .int (nI mrn), .ref mp, .int (nI mst), .int (zB mhr), .ref mx, .ref mfa, .ref mbi, .ref mod1, .int (nI mon), .ref msc, .ref msb, .ref msu, .ref mwy, .ref mre, .ref mby, .ref msm, .ref mle, .ref mgr])), (mf, aI cA 40 (fun j => nI ((va_up Fr me za.toNat) j))), (mt, aI cA 40 (fun j => nI ((va_up To me zb.toNat) j))), (mw, aI cA 40 (fun j => nI ((va_up We me zw.toNat) j)))] := hD
              refine lv_aload_n hx hb dX6_edge_94 rfl (lv_at hl 0 rfl) ?_
              refine z_cWVv (wc := [(mo, .inr (6, [.int (nI (mThr false false)), .int (zB dir), .int (nI nv), .int (nI (me + 1)), .ref mf, .ref mt, .ref mw, .ref mr, .int (nI mrn), .ref mp, .int (nI mst), .int (zB mhr), .ref mx, .ref mfa, .ref mbi, .ref mod1, .int (nI mon), .ref msc, .ref msb, .ref msu, .ref mwy, .ref mre, .ref mby, .ref msm, .ref mle, .ref mgr]))]) (rm := ({ frames := 0, cells := 0, slots := 0, locals := 0 } : Room)) (As := []) (rest := []) (wr := [(mf, aI cA 40 (fun j => nI ((va_up Fr me za.toNat) j))), (mt, aI cA 40 (fun j => nI ((va_up To me zb.toNat) j))), (mw, aI cA 40 (fun j => nI ((va_up We me zw.toNat) j)))]) (w1 := [(mo, .inr (6, [.int (nI (mThr false false)), .int (zB dir), .int (nI nv), .int (nI (me + 1)), .ref mf, .ref mt, .ref mw, .ref mr, .int (nI 0), .ref mp, .int (nI mst), .int (zB false), .ref mx, .ref mfa, .ref mbi, .ref mod1, .int (nI mon), .ref msc, .ref msb, .ref msu, .ref mwy, .ref mre, .ref mby, .ref msm, .ref mle, .ref mgr]))]) (ws' := [(mo, .inr (6, [.int (nI (mThr false false)), .int (zB dir), .int (nI nv), .int (nI (me + 1)), .ref mf, .ref mt, .ref mw, .ref mr, .int (nI 0), .ref mp, .int (nI mst), .int (zB false), .ref mx, .ref mfa, .ref mbi, .ref mod1, .int (nI mon), .ref msc, .ref msb, .ref msu, .ref mwy, .ref mre, .ref mby, .ref msm, .ref mle, .ref mgr])), (mf, aI cA 40 (fun j => nI ((va_up Fr me za.toNat) j))), (mt, aI cA 40 (fun j => nI ((va_up To me zb.toNat) j))), (mw, aI cA 40 (fun j => nI ((va_up We me zw.toNat) j)))]) ⟨hx, hb, hml, hown, hts⟩ (c_X6_change l D cA H.size mo mf mt mw mr mp mx mfa mbi mod1 msc msb msu mwy mre mby msm mle mgr (mThr false false) dir nv (me + 1) mrn mst mhr mon ) (cwV 0 hts gX6_edge_X6_change rfl rfl rfl (by decide +kernel) ⟨Nat.le_of_ble_eq_true rfl, Nat.le_of_ble_eq_true rfl⟩) hP hK hD hS hA [0] [1, 2, 3] [3, 0, 1, 2] rfl rfl rfl rfl rfl (by decide) rfl rfl rfl 6 0 rfl rfl rfl hl.1 rfl (Nat.le_of_ble_eq_true rfl) ⟨Nat.zero_le _, Nat.zero_le _⟩ dX6_edge_95 (fun H locs hP hD hS => ?_)
              refine lv_aload_n hx hb dX6_edge_98 rfl (lv_at hl 0 rfl) ?_
              refine va_get (D := D) (ci := 6) (v := .int (nI (me + 1))) (C := RX6) (T := TX6) (N := 26) hx hb hts hin6 hown hK hP 0 rfl rfl 3 (by decide) (hts (.fieldLink RX6 85 "TourHouseModel" "m" "I") (by decide +kernel)) (fun _ h9 => h9) rfl dX6_edge_99 ?_
              refine lv_iconst (v := nI 1) hx hb dX6_edge_102 (by decide) ?_
              refine lv_isub hx hb dX6_edge_103 ?_
              refine z_topi (v := nI ((me + 1) - 1)) (pk_sub (by omega)) ?_
              refine z_topi (v := nI me) (by rw [Nat.add_sub_cancel]) ?_
              exact z_iretW hx hb hr hlocks hAe hQ (hP) hK (hD) hS dX6_edge_104
            · cases h49
          · omega
        · omega
set_option maxHeartbeats 4000000 in
set_option maxRecDepth 100000 in
/-- Model.drop, refused -/
theorem c_X6_drop_b (l : Launch) (D : va_G) (cA : Nat → ClassId) (sz : Nat) (mo : Nat) (mf : Nat) (mt : Nat) (mw : Nat) (mr : Nat) (mp : Nat) (mx : Nat) (mfa : Nat) (mbi : Nat) (mod1 : Nat) (msc : Nat) (msb : Nat) (msu : Nat) (mwy : Nat) (mre : Nat) (mby : Nat) (msm : Nat) (mle : Nat) (mgr : Nat) (mth : Nat) (dir : Bool) (nv : Nat) (me : Nat) (mrn : Nat) (mst : Nat) (mhr : Bool) (mon : Nat) (hz : me = 0) : Met l yX6_drop wsX6_drop ({ frames := 1, cells := 0, slots := 0, locals := 22 } : Room) (zWr D vwCl (zT cA) [(mo, .inr (6, [.int (nI mth), .int (zB dir), .int (nI nv), .int (nI me), .ref mf, .ref mt, .ref mw, .ref mr, .int (nI mrn), .ref mp, .int (nI mst), .int (zB mhr), .ref mx, .ref mfa, .ref mbi, .ref mod1, .int (nI mon), .ref msc, .ref msb, .ref msu, .ref mwy, .ref mre, .ref mby, .ref msm, .ref mle, .ref mgr]))] sz [.ref mo]) (zQi D vwCl (zT cA) (va_A [(mo, .inr (6, [.int (nI mth), .int (zB dir), .int (nI nv), .int (nI me), .ref mf, .ref mt, .ref mw, .ref mr, .int (nI mrn), .ref mp, .int (nI mst), .int (zB mhr), .ref mx, .ref mfa, .ref mbi, .ref mod1, .int (nI mon), .ref msc, .ref msb, .ref msu, .ref mwy, .ref mre, .ref mby, .ref msm, .ref mle, .ref mgr]))] sz) [(mo, .inr (6, [.int (nI 1), .int (zB dir), .int (nI nv), .int (nI me), .ref mf, .ref mt, .ref mw, .ref mr, .int (nI mrn), .ref mp, .int (nI mst), .int (zB mhr), .ref mx, .ref mfa, .ref mbi, .ref mod1, .int (nI mon), .ref msc, .ref msb, .ref msu, .ref mwy, .ref mre, .ref mby, .ref msm, .ref mle, .ref mgr]))] (nI 0)) 0 0 (va_A [(mo, .inr (6, [.int (nI mth), .int (zB dir), .int (nI nv), .int (nI me), .ref mf, .ref mt, .ref mw, .ref mr, .int (nI mrn), .ref mp, .int (nI mst), .int (zB mhr), .ref mx, .ref mfa, .ref mbi, .ref mod1, .int (nI mon), .ref msc, .ref msb, .ref msu, .ref mwy, .ref mre, .ref mby, .ref msm, .ref mle, .ref mgr]))] sz) := by
  refine z_write (cc := cX6_drop) (maxL := 1) (ret := (some .int)) (by decide) rfl (Nat.le_of_ble_eq_true rfl) ?_
  intro p e s m below meth c hx hb hr hml hown hts hlocks A hAe hA H locs hP hK hD hS hini Q hQ ls hl
  have hown : s.vm.findClass RX6 = some m.cls := hown
  have hl : lv_has ls 1 [(0, .ref mo)] := hl
  generalize hav : ([.ref mo] : List Value).toArray = args at hts hQ ⊢
  have hin6 : ∀ w ∈ wsX60, w ∈ wsX6_drop := by decide +kernel
  refine lv_aload_n hx hb dX6_drop_0 rfl (lv_at hl 0 rfl) ?_
  refine lv_aload_n hx hb dX6_drop_1 rfl (lv_at hl 0 rfl) ?_
  refine va_get (D := D) (ci := 6) (v := .int (nI me)) (C := RX6) (T := TX6) (N := 26) hx hb hts hin6 hown hK hP 0 rfl rfl 3 (by decide) (hts (.fieldLink RX6 85 "TourHouseModel" "m" "I") (by decide +kernel)) (fun _ h9 => h9) rfl dX6_drop_2 ?_
  refine z_nne hx hb (by omega) (tgt := 12) dX6_drop_5 (by decide) (fun h5 => ?_) (fun h5 => ?_)
  · omega
  · skip
    refine lv_iconst (v := zB true) hx hb dX6_drop_8 (by decide) ?_
    refine lv_goto (tgt := 13) hx hb dX6_drop_9 (by decide) ?_
    refine lv_iconst (v := zB false) hx hb dX6_drop_13 (by decide) ?_
    refine z_cWVi (wc := [(mo, .inr (6, [.int (nI mth), .int (zB dir), .int (nI nv), .int (nI me), .ref mf, .ref mt, .ref mw, .ref mr, .int (nI mrn), .ref mp, .int (nI mst), .int (zB mhr), .ref mx, .ref mfa, .ref mbi, .ref mod1, .int (nI mon), .ref msc, .ref msb, .ref msu, .ref mwy, .ref mre, .ref mby, .ref msm, .ref mle, .ref mgr]))]) (rm := ({ frames := 0, cells := 0, slots := 0, locals := 0 } : Room)) (As := [.int (zB true), .int (zB false)]) (rest := []) (wr := []) (w1 := [(mo, .inr (6, [.int (nI (mThr true false)), .int (zB dir), .int (nI nv), .int (nI me), .ref mf, .ref mt, .ref mw, .ref mr, .int (nI mrn), .ref mp, .int (nI mst), .int (zB mhr), .ref mx, .ref mfa, .ref mbi, .ref mod1, .int (nI mon), .ref msc, .ref msb, .ref msu, .ref mwy, .ref mre, .ref mby, .ref msm, .ref mle, .ref mgr]))]) (ws' := [(mo, .inr (6, [.int (nI (mThr true false)), .int (zB dir), .int (nI nv), .int (nI me), .ref mf, .ref mt, .ref mw, .ref mr, .int (nI mrn), .ref mp, .int (nI mst), .int (zB mhr), .ref mx, .ref mfa, .ref mbi, .ref mod1, .int (nI mon), .ref msc, .ref msb, .ref msu, .ref mwy, .ref mre, .ref mby, .ref msm, .ref mle, .ref mgr]))]) ⟨hx, hb, hml, hown, hts⟩ (c_X6_throwing l D cA H.size mo mf mt mw mr mp mx mfa mbi mod1 msc msb msu mwy mre mby msm mle mgr mth dir nv me mrn mst mhr mon true false ) (cwV 2 hts gX6_drop_X6_throwing rfl rfl rfl (by decide +kernel) ⟨Nat.le_of_ble_eq_true rfl, Nat.le_of_ble_eq_true rfl⟩) hP hK hD hS hA [0] [] [0] rfl rfl rfl rfl rfl (by decide) rfl rfl rfl 6 0 rfl rfl rfl hl.1 rfl (Nat.le_of_ble_eq_true rfl) ⟨Nat.zero_le _, Nat.zero_le _⟩ dX6_drop_14 (fun H locs hP hD hS => ?_)
    refine z_ifeq hx hb (tgt := 22) dX6_drop_17 (by decide) (fun h17 => ?_) (fun h17 => ?_)
    · cases h17
    · skip
      refine lv_iconst (v := nI 0) hx hb dX6_drop_20 (by decide) ?_
      exact z_iretW hx hb hr hlocks hAe hQ (hP) hK (hD) hS dX6_drop_21
set_option maxHeartbeats 4000000 in
set_option maxRecDepth 100000 in
/-- Model.drop -/
theorem c_X6_drop_o (l : Launch) (D : va_G) (cA : Nat → ClassId) (sz : Nat) (mo : Nat) (mf : Nat) (mt : Nat) (mw : Nat) (mr : Nat) (mp : Nat) (mx : Nat) (mfa : Nat) (mbi : Nat) (mod1 : Nat) (msc : Nat) (msb : Nat) (msu : Nat) (mwy : Nat) (mre : Nat) (mby : Nat) (msm : Nat) (mle : Nat) (mgr : Nat) (mth : Nat) (dir : Bool) (nv : Nat) (me : Nat) (mrn : Nat) (mst : Nat) (mhr : Bool) (mon : Nat) (hz : 0 < me) (hme : me ≤ 40) : Met l yX6_drop wsX6_drop ({ frames := 1, cells := 0, slots := 0, locals := 22 } : Room) (zWr D vwCl (zT cA) [(mo, .inr (6, [.int (nI mth), .int (zB dir), .int (nI nv), .int (nI me), .ref mf, .ref mt, .ref mw, .ref mr, .int (nI mrn), .ref mp, .int (nI mst), .int (zB mhr), .ref mx, .ref mfa, .ref mbi, .ref mod1, .int (nI mon), .ref msc, .ref msb, .ref msu, .ref mwy, .ref mre, .ref mby, .ref msm, .ref mle, .ref mgr]))] sz [.ref mo]) (zQi D vwCl (zT cA) (va_A [(mo, .inr (6, [.int (nI mth), .int (zB dir), .int (nI nv), .int (nI me), .ref mf, .ref mt, .ref mw, .ref mr, .int (nI mrn), .ref mp, .int (nI mst), .int (zB mhr), .ref mx, .ref mfa, .ref mbi, .ref mod1, .int (nI mon), .ref msc, .ref msb, .ref msu, .ref mwy, .ref mre, .ref mby, .ref msm, .ref mle, .ref mgr]))] sz) [(mo, .inr (6, [.int (nI 0), .int (zB dir), .int (nI nv), .int (nI (me - 1)), .ref mf, .ref mt, .ref mw, .ref mr, .int (nI 0), .ref mp, .int (nI mst), .int (zB false), .ref mx, .ref mfa, .ref mbi, .ref mod1, .int (nI mon), .ref msc, .ref msb, .ref msu, .ref mwy, .ref mre, .ref mby, .ref msm, .ref mle, .ref mgr]))] (nI (me - 1))) 0 0 (va_A [(mo, .inr (6, [.int (nI mth), .int (zB dir), .int (nI nv), .int (nI me), .ref mf, .ref mt, .ref mw, .ref mr, .int (nI mrn), .ref mp, .int (nI mst), .int (zB mhr), .ref mx, .ref mfa, .ref mbi, .ref mod1, .int (nI mon), .ref msc, .ref msb, .ref msu, .ref mwy, .ref mre, .ref mby, .ref msm, .ref mle, .ref mgr]))] sz) := by
  refine z_write (cc := cX6_drop) (maxL := 1) (ret := (some .int)) (by decide) rfl (Nat.le_of_ble_eq_true rfl) ?_
  intro p e s m below meth c hx hb hr hml hown hts hlocks A hAe hA H locs hP hK hD hS hini Q hQ ls hl
  have hown : s.vm.findClass RX6 = some m.cls := hown
  have hl : lv_has ls 1 [(0, .ref mo)] := hl
  generalize hav : ([.ref mo] : List Value).toArray = args at hts hQ ⊢
  have hin6 : ∀ w ∈ wsX60, w ∈ wsX6_drop := by decide +kernel
  refine lv_aload_n hx hb dX6_drop_0 rfl (lv_at hl 0 rfl) ?_
  refine lv_aload_n hx hb dX6_drop_1 rfl (lv_at hl 0 rfl) ?_
  refine va_get (D := D) (ci := 6) (v := .int (nI me)) (C := RX6) (T := TX6) (N := 26) hx hb hts hin6 hown hK hP 0 rfl rfl 3 (by decide) (hts (.fieldLink RX6 85 "TourHouseModel" "m" "I") (by decide +kernel)) (fun _ h9 => h9) rfl dX6_drop_2 ?_
  refine z_nne hx hb (by omega) (tgt := 12) dX6_drop_5 (by decide) (fun h5 => ?_) (fun h5 => ?_)
  · skip
    refine lv_iconst (v := zB false) hx hb dX6_drop_12 (by decide) ?_
    refine lv_iconst (v := zB false) hx hb dX6_drop_13 (by decide) ?_
    refine z_cWVi (wc := [(mo, .inr (6, [.int (nI mth), .int (zB dir), .int (nI nv), .int (nI me), .ref mf, .ref mt, .ref mw, .ref mr, .int (nI mrn), .ref mp, .int (nI mst), .int (zB mhr), .ref mx, .ref mfa, .ref mbi, .ref mod1, .int (nI mon), .ref msc, .ref msb, .ref msu, .ref mwy, .ref mre, .ref mby, .ref msm, .ref mle, .ref mgr]))]) (rm := ({ frames := 0, cells := 0, slots := 0, locals := 0 } : Room)) (As := [.int (zB false), .int (zB false)]) (rest := []) (wr := []) (w1 := [(mo, .inr (6, [.int (nI (mThr false false)), .int (zB dir), .int (nI nv), .int (nI me), .ref mf, .ref mt, .ref mw, .ref mr, .int (nI mrn), .ref mp, .int (nI mst), .int (zB mhr), .ref mx, .ref mfa, .ref mbi, .ref mod1, .int (nI mon), .ref msc, .ref msb, .ref msu, .ref mwy, .ref mre, .ref mby, .ref msm, .ref mle, .ref mgr]))]) (ws' := [(mo, .inr (6, [.int (nI (mThr false false)), .int (zB dir), .int (nI nv), .int (nI me), .ref mf, .ref mt, .ref mw, .ref mr, .int (nI mrn), .ref mp, .int (nI mst), .int (zB mhr), .ref mx, .ref mfa, .ref mbi, .ref mod1, .int (nI mon), .ref msc, .ref msb, .ref msu, .ref mwy, .ref mre, .ref mby, .ref msm, .ref mle, .ref mgr]))]) ⟨hx, hb, hml, hown, hts⟩ (c_X6_throwing l D cA H.size mo mf mt mw mr mp mx mfa mbi mod1 msc msb msu mwy mre mby msm mle mgr mth dir nv me mrn mst mhr mon false false ) (cwV 2 hts gX6_drop_X6_throwing rfl rfl rfl (by decide +kernel) ⟨Nat.le_of_ble_eq_true rfl, Nat.le_of_ble_eq_true rfl⟩) hP hK hD hS hA [0] [] [0] rfl rfl rfl rfl rfl (by decide) rfl rfl rfl 6 0 rfl rfl rfl hl.1 rfl (Nat.le_of_ble_eq_true rfl) ⟨Nat.zero_le _, Nat.zero_le _⟩ dX6_drop_14 (fun H locs hP hD hS => ?_)
    refine z_ifeq hx hb (tgt := 22) dX6_drop_17 (by decide) (fun h17 => ?_) (fun h17 => ?_)
    · skip
      refine lv_aload_n hx hb dX6_drop_22 rfl (lv_at hl 0 rfl) ?_
      refine lv_dup hx hb dX6_drop_23 rfl ?_
      refine va_get (D := D) (ci := 6) (v := .int (nI me)) (C := RX6) (T := TX6) (N := 26) hx hb hts hin6 hown hK hP 0 rfl rfl 3 (by decide) (hts (.fieldLink RX6 85 "TourHouseModel" "m" "I") (by decide +kernel)) (fun _ h9 => h9) rfl dX6_drop_24 ?_
      refine lv_iconst (v := nI 1) hx hb dX6_drop_27 (by decide) ?_
      refine lv_isub hx hb dX6_drop_28 ?_
      refine z_topi (v := nI (me - 1)) (pk_sub (by omega)) ?_
      refine va_put (D := D) (ci := 6) (v := .int (nI (me - 1))) (ty := .int) (C := RX6) (T := TX6) (N := 26) hx hb hts hin6 tyX6 tyX6_ok nmX6 hown hK hP hD hS 0 rfl rfl 3 (by decide) (hts (.fieldLink RX6 85 "TourHouseModel" "m" "I") (by decide +kernel)) (fun _ h9 => h9) rfl (by decide +kernel) (rfl) (rfl) (Nat.le_of_ble_eq_true rfl) dX6_drop_29 (fun H locs hP hD hS => ?_)
      have hP : va_P D vwCl [(mo, .inr (6, [.int (nI (mThr false false)), .int (zB dir), .int (nI nv), .int (nI (me - 1)), .ref mf, .ref mt, .ref mw, .ref mr, .int (nI mrn), .ref mp, .int (nI mst), .int (zB mhr), .ref mx, .ref mfa, .ref mbi, .ref mod1, .int (nI mon), .ref msc, .ref msb, .ref msu, .ref mwy, .ref mre, .ref mby, .ref msm, .ref mle, .ref mgr]))] H := hP
      have hD : va_D A [(mo, .inr (6, [.int (nI (mThr false false)), .int (zB dir), .int (nI nv), .int (nI (me - 1)), .ref mf, .ref mt, .ref mw, .ref mr, .int (nI mrn), .ref mp, .int (nI mst), .int (zB mhr), .ref mx, .ref mfa, .ref mbi, .ref mod1, .int (nI mon), .ref msc, .ref msb, .ref msu, .ref mwy, .ref mre, .ref mby, .ref msm, .ref mle, .ref mgr]))] := hD
      refine lv_aload_n hx hb dX6_drop_32 rfl (lv_at hl 0 rfl) ?_
      refine z_cWVv (wc := [(mo, .inr (6, [.int (nI (mThr false false)), .int (zB dir), .int (nI nv), .int (nI (me - 1)), .ref mf, .ref mt, .ref mw, .ref mr, .int (nI mrn), .ref mp, .int (nI mst), .int (zB mhr), .ref mx, .ref mfa, .ref mbi, .ref mod1, .int (nI mon), .ref msc, .ref msb, .ref msu, .ref mwy, .ref mre, .ref mby, .ref msm, .ref mle, .ref mgr]))]) (rm := ({ frames := 0, cells := 0, slots := 0, locals := 0 } : Room)) (As := []) (rest := []) (wr := []) (w1 := [(mo, .inr (6, [.int (nI (mThr false false)), .int (zB dir), .int (nI nv), .int (nI (me - 1)), .ref mf, .ref mt, .ref mw, .ref mr, .int (nI 0), .ref mp, .int (nI mst), .int (zB false), .ref mx, .ref mfa, .ref mbi, .ref mod1, .int (nI mon), .ref msc, .ref msb, .ref msu, .ref mwy, .ref mre, .ref mby, .ref msm, .ref mle, .ref mgr]))]) (ws' := [(mo, .inr (6, [.int (nI (mThr false false)), .int (zB dir), .int (nI nv), .int (nI (me - 1)), .ref mf, .ref mt, .ref mw, .ref mr, .int (nI 0), .ref mp, .int (nI mst), .int (zB false), .ref mx, .ref mfa, .ref mbi, .ref mod1, .int (nI mon), .ref msc, .ref msb, .ref msu, .ref mwy, .ref mre, .ref mby, .ref msm, .ref mle, .ref mgr]))]) ⟨hx, hb, hml, hown, hts⟩ (c_X6_change l D cA H.size mo mf mt mw mr mp mx mfa mbi mod1 msc msb msu mwy mre mby msm mle mgr (mThr false false) dir nv (me - 1) mrn mst mhr mon ) (cwV 0 hts gX6_drop_X6_change rfl rfl rfl (by decide +kernel) ⟨Nat.le_of_ble_eq_true rfl, Nat.le_of_ble_eq_true rfl⟩) hP hK hD hS hA [0] [] [0] rfl rfl rfl rfl rfl (by decide) rfl rfl rfl 6 0 rfl rfl rfl hl.1 rfl (Nat.le_of_ble_eq_true rfl) ⟨Nat.zero_le _, Nat.zero_le _⟩ dX6_drop_33 (fun H locs hP hD hS => ?_)
      refine lv_aload_n hx hb dX6_drop_36 rfl (lv_at hl 0 rfl) ?_
      refine va_get (D := D) (ci := 6) (v := .int (nI (me - 1))) (C := RX6) (T := TX6) (N := 26) hx hb hts hin6 hown hK hP 0 rfl rfl 3 (by decide) (hts (.fieldLink RX6 85 "TourHouseModel" "m" "I") (by decide +kernel)) (fun _ h9 => h9) rfl dX6_drop_37 ?_
      exact z_iretW hx hb hr hlocks hAe hQ (hP) hK (hD) hS dX6_drop_40
    · cases h17
  · omega
set_option maxHeartbeats 4000000 in
set_option maxRecDepth 100000 in
/-- Model.row, refused -/
theorem c_X6_row_b (l : Launch) (D : va_G) (cA : Nat → ClassId) (sz : Nat) (mo : Nat) (mf : Nat) (mt : Nat) (mw : Nat) (mr : Nat) (mp : Nat) (mx : Nat) (mfa : Nat) (mbi : Nat) (mod1 : Nat) (msc : Nat) (msb : Nat) (msu : Nat) (mwy : Nat) (mre : Nat) (mby : Nat) (msm : Nat) (mle : Nat) (mgr : Nat) (mth : Nat) (dir : Bool) (nv : Nat) (me : Nat) (mrn : Nat) (mst : Nat) (mhr : Bool) (mon : Nat) (Rw : Nat → Int) (z : Int) (hz : -2147483648 ≤ z ∧ z < 2147483648) (hrn : mrn ≤ 2000) (hbad : z < 0 ∨ (mrn : Int) ≤ z) : Met l yX6_row wsX6_row ({ frames := 1, cells := 0, slots := 0, locals := 22 } : Room) (zWr D vwCl (zT cA) [(mo, .inr (6, [.int (nI mth), .int (zB dir), .int (nI nv), .int (nI me), .ref mf, .ref mt, .ref mw, .ref mr, .int (nI mrn), .ref mp, .int (nI mst), .int (zB mhr), .ref mx, .ref mfa, .ref mbi, .ref mod1, .int (nI mon), .ref msc, .ref msb, .ref msu, .ref mwy, .ref mre, .ref mby, .ref msm, .ref mle, .ref mgr])), (mr, aI cA 2000 (fun j => iZ (Rw j)))] sz [.ref mo, .int (iZ z)]) (zQi D vwCl (zT cA) (va_A [(mo, .inr (6, [.int (nI mth), .int (zB dir), .int (nI nv), .int (nI me), .ref mf, .ref mt, .ref mw, .ref mr, .int (nI mrn), .ref mp, .int (nI mst), .int (zB mhr), .ref mx, .ref mfa, .ref mbi, .ref mod1, .int (nI mon), .ref msc, .ref msb, .ref msu, .ref mwy, .ref mre, .ref mby, .ref msm, .ref mle, .ref mgr])), (mr, aI cA 2000 (fun j => iZ (Rw j)))] sz) [(mo, .inr (6, [.int (nI 1), .int (zB dir), .int (nI nv), .int (nI me), .ref mf, .ref mt, .ref mw, .ref mr, .int (nI mrn), .ref mp, .int (nI mst), .int (zB mhr), .ref mx, .ref mfa, .ref mbi, .ref mod1, .int (nI mon), .ref msc, .ref msb, .ref msu, .ref mwy, .ref mre, .ref mby, .ref msm, .ref mle, .ref mgr])), (mr, aI cA 2000 (fun j => iZ (Rw j)))] (nI 0)) 0 0 (va_A [(mo, .inr (6, [.int (nI mth), .int (zB dir), .int (nI nv), .int (nI me), .ref mf, .ref mt, .ref mw, .ref mr, .int (nI mrn), .ref mp, .int (nI mst), .int (zB mhr), .ref mx, .ref mfa, .ref mbi, .ref mod1, .int (nI mon), .ref msc, .ref msb, .ref msu, .ref mwy, .ref mre, .ref mby, .ref msm, .ref mle, .ref mgr])), (mr, aI cA 2000 (fun j => iZ (Rw j)))] sz) := by
  refine z_write (cc := cX6_row) (maxL := 2) (ret := (some .int)) (by decide) rfl (Nat.le_of_ble_eq_true rfl) ?_
  intro p e s m below meth c hx hb hr hml hown hts hlocks A hAe hA H locs hP hK hD hS hini Q hQ ls hl
  have hown : s.vm.findClass RX6 = some m.cls := hown
  have hl : lv_has ls 2 [(0, .ref mo), (1, .int (iZ z))] := hl
  generalize hav : ([.ref mo, .int (iZ z)] : List Value).toArray = args at hts hQ ⊢
  have hin6 : ∀ w ∈ wsX60, w ∈ wsX6_row := by decide +kernel
  refine lv_aload_n hx hb dX6_row_0 rfl (lv_at hl 0 rfl) ?_
  refine lv_iload_n hx hb dX6_row_1 rfl (lv_at hl 1 rfl) ?_
  refine z_ilt hx hb (x := z) (hz) (tgt := 13) dX6_row_2 (by decide) (fun h2 => ?_) (fun h2 => ?_)
  · skip
    refine lv_iconst (v := zB true) hx hb dX6_row_13 (by decide) ?_
    refine lv_goto (tgt := 18) hx hb dX6_row_14 (by decide) ?_
    refine lv_iconst (v := zB false) hx hb dX6_row_18 (by decide) ?_
    refine z_cWVi (wc := [(mo, .inr (6, [.int (nI mth), .int (zB dir), .int (nI nv), .int (nI me), .ref mf, .ref mt, .ref mw, .ref mr, .int (nI mrn), .ref mp, .int (nI mst), .int (zB mhr), .ref mx, .ref mfa, .ref mbi, .ref mod1, .int (nI mon), .ref msc, .ref msb, .ref msu, .ref mwy, .ref mre, .ref mby, .ref msm, .ref mle, .ref mgr]))]) (rm := ({ frames := 0, cells := 0, slots := 0, locals := 0 } : Room)) (As := [.int (zB true), .int (zB false)]) (rest := []) (wr := [(mr, aI cA 2000 (fun j => iZ (Rw j)))]) (w1 := [(mo, .inr (6, [.int (nI (mThr true false)), .int (zB dir), .int (nI nv), .int (nI me), .ref mf, .ref mt, .ref mw, .ref mr, .int (nI mrn), .ref mp, .int (nI mst), .int (zB mhr), .ref mx, .ref mfa, .ref mbi, .ref mod1, .int (nI mon), .ref msc, .ref msb, .ref msu, .ref mwy, .ref mre, .ref mby, .ref msm, .ref mle, .ref mgr]))]) (ws' := [(mo, .inr (6, [.int (nI (mThr true false)), .int (zB dir), .int (nI nv), .int (nI me), .ref mf, .ref mt, .ref mw, .ref mr, .int (nI mrn), .ref mp, .int (nI mst), .int (zB mhr), .ref mx, .ref mfa, .ref mbi, .ref mod1, .int (nI mon), .ref msc, .ref msb, .ref msu, .ref mwy, .ref mre, .ref mby, .ref msm, .ref mle, .ref mgr])), (mr, aI cA 2000 (fun j => iZ (Rw j)))]) ⟨hx, hb, hml, hown, hts⟩ (c_X6_throwing l D cA H.size mo mf mt mw mr mp mx mfa mbi mod1 msc msb msu mwy mre mby msm mle mgr mth dir nv me mrn mst mhr mon true false ) (cwV 2 hts gX6_row_X6_throwing rfl rfl rfl (by decide +kernel) ⟨Nat.le_of_ble_eq_true rfl, Nat.le_of_ble_eq_true rfl⟩) hP hK hD hS hA [0] [1] [1, 0] rfl rfl rfl rfl rfl (by decide) rfl rfl rfl 6 0 rfl rfl rfl hl.1 rfl (Nat.le_of_ble_eq_true rfl) ⟨Nat.zero_le _, Nat.zero_le _⟩ dX6_row_19 (fun H locs hP hD hS => ?_)
    refine z_ifeq hx hb (tgt := 27) dX6_row_22 (by decide) (fun h22 => ?_) (fun h22 => ?_)
    · cases h22
    · skip
      refine lv_iconst (v := nI 0) hx hb dX6_row_25 (by decide) ?_
      exact z_iretW hx hb hr hlocks hAe hQ (hP) hK (hD) hS dX6_row_26
  · skip
    refine lv_iload_n hx hb dX6_row_5 rfl (lv_at hl 1 rfl) ?_
    refine lv_aload_n hx hb dX6_row_6 rfl (lv_at hl 0 rfl) ?_
    refine va_get (D := D) (ci := 6) (v := .int (nI mrn)) (C := RX6) (T := TX6) (N := 26) hx hb hts hin6 hown hK hP 0 rfl rfl 8 (by decide) (hts (.fieldLink RX6 74 "TourHouseModel" "rows" "I") (by decide +kernel)) (fun _ h9 => h9) rfl dX6_row_7 ?_
    refine z_Ilt hx hb (x := z) (y := ((mrn : Nat) : Int)) (hz) (⟨by omega, by omega⟩) (tgt := 17) dX6_row_10 (by decide) (fun h10 => ?_) (fun h10 => ?_)
    · omega
    · skip
      refine lv_iconst (v := zB true) hx hb dX6_row_13 (by decide) ?_
      refine lv_goto (tgt := 18) hx hb dX6_row_14 (by decide) ?_
      refine lv_iconst (v := zB false) hx hb dX6_row_18 (by decide) ?_
      refine z_cWVi (wc := [(mo, .inr (6, [.int (nI mth), .int (zB dir), .int (nI nv), .int (nI me), .ref mf, .ref mt, .ref mw, .ref mr, .int (nI mrn), .ref mp, .int (nI mst), .int (zB mhr), .ref mx, .ref mfa, .ref mbi, .ref mod1, .int (nI mon), .ref msc, .ref msb, .ref msu, .ref mwy, .ref mre, .ref mby, .ref msm, .ref mle, .ref mgr]))]) (rm := ({ frames := 0, cells := 0, slots := 0, locals := 0 } : Room)) (As := [.int (zB true), .int (zB false)]) (rest := []) (wr := [(mr, aI cA 2000 (fun j => iZ (Rw j)))]) (w1 := [(mo, .inr (6, [.int (nI (mThr true false)), .int (zB dir), .int (nI nv), .int (nI me), .ref mf, .ref mt, .ref mw, .ref mr, .int (nI mrn), .ref mp, .int (nI mst), .int (zB mhr), .ref mx, .ref mfa, .ref mbi, .ref mod1, .int (nI mon), .ref msc, .ref msb, .ref msu, .ref mwy, .ref mre, .ref mby, .ref msm, .ref mle, .ref mgr]))]) (ws' := [(mo, .inr (6, [.int (nI (mThr true false)), .int (zB dir), .int (nI nv), .int (nI me), .ref mf, .ref mt, .ref mw, .ref mr, .int (nI mrn), .ref mp, .int (nI mst), .int (zB mhr), .ref mx, .ref mfa, .ref mbi, .ref mod1, .int (nI mon), .ref msc, .ref msb, .ref msu, .ref mwy, .ref mre, .ref mby, .ref msm, .ref mle, .ref mgr])), (mr, aI cA 2000 (fun j => iZ (Rw j)))]) ⟨hx, hb, hml, hown, hts⟩ (c_X6_throwing l D cA H.size mo mf mt mw mr mp mx mfa mbi mod1 msc msb msu mwy mre mby msm mle mgr mth dir nv me mrn mst mhr mon true false ) (cwV 2 hts gX6_row_X6_throwing rfl rfl rfl (by decide +kernel) ⟨Nat.le_of_ble_eq_true rfl, Nat.le_of_ble_eq_true rfl⟩) hP hK hD hS hA [0] [1] [1, 0] rfl rfl rfl rfl rfl (by decide) rfl rfl rfl 6 0 rfl rfl rfl hl.1 rfl (Nat.le_of_ble_eq_true rfl) ⟨Nat.zero_le _, Nat.zero_le _⟩ dX6_row_19 (fun H locs hP hD hS => ?_)
      refine z_ifeq hx hb (tgt := 27) dX6_row_22 (by decide) (fun h22 => ?_) (fun h22 => ?_)
      · cases h22
      · skip
        refine lv_iconst (v := nI 0) hx hb dX6_row_25 (by decide) ?_
        exact z_iretW hx hb hr hlocks hAe hQ (hP) hK (hD) hS dX6_row_26
set_option maxHeartbeats 4000000 in
set_option maxRecDepth 100000 in
/-- Model.row -/
theorem c_X6_row_o (l : Launch) (D : va_G) (cA : Nat → ClassId) (sz : Nat) (mo : Nat) (mf : Nat) (mt : Nat) (mw : Nat) (mr : Nat) (mp : Nat) (mx : Nat) (mfa : Nat) (mbi : Nat) (mod1 : Nat) (msc : Nat) (msb : Nat) (msu : Nat) (mwy : Nat) (mre : Nat) (mby : Nat) (msm : Nat) (mle : Nat) (mgr : Nat) (mth : Nat) (dir : Bool) (nv : Nat) (me : Nat) (mrn : Nat) (mst : Nat) (mhr : Bool) (mon : Nat) (Rw : Nat → Int) (z : Int) (hz : -2147483648 ≤ z ∧ z < 2147483648) (hrn : mrn ≤ 2000) (hok : 0 ≤ z ∧ z < (mrn : Int)) : Met l yX6_row wsX6_row ({ frames := 1, cells := 0, slots := 0, locals := 22 } : Room) (zWr D vwCl (zT cA) [(mo, .inr (6, [.int (nI mth), .int (zB dir), .int (nI nv), .int (nI me), .ref mf, .ref mt, .ref mw, .ref mr, .int (nI mrn), .ref mp, .int (nI mst), .int (zB mhr), .ref mx, .ref mfa, .ref mbi, .ref mod1, .int (nI mon), .ref msc, .ref msb, .ref msu, .ref mwy, .ref mre, .ref mby, .ref msm, .ref mle, .ref mgr])), (mr, aI cA 2000 (fun j => iZ (Rw j)))] sz [.ref mo, .int (iZ z)]) (zQi D vwCl (zT cA) (va_A [(mo, .inr (6, [.int (nI mth), .int (zB dir), .int (nI nv), .int (nI me), .ref mf, .ref mt, .ref mw, .ref mr, .int (nI mrn), .ref mp, .int (nI mst), .int (zB mhr), .ref mx, .ref mfa, .ref mbi, .ref mod1, .int (nI mon), .ref msc, .ref msb, .ref msu, .ref mwy, .ref mre, .ref mby, .ref msm, .ref mle, .ref mgr])), (mr, aI cA 2000 (fun j => iZ (Rw j)))] sz) [(mo, .inr (6, [.int (nI 0), .int (zB dir), .int (nI nv), .int (nI me), .ref mf, .ref mt, .ref mw, .ref mr, .int (nI mrn), .ref mp, .int (nI mst), .int (zB mhr), .ref mx, .ref mfa, .ref mbi, .ref mod1, .int (nI mon), .ref msc, .ref msb, .ref msu, .ref mwy, .ref mre, .ref mby, .ref msm, .ref mle, .ref mgr])), (mr, aI cA 2000 (fun j => iZ (Rw j)))] (iZ (Rw z.toNat))) 0 0 (va_A [(mo, .inr (6, [.int (nI mth), .int (zB dir), .int (nI nv), .int (nI me), .ref mf, .ref mt, .ref mw, .ref mr, .int (nI mrn), .ref mp, .int (nI mst), .int (zB mhr), .ref mx, .ref mfa, .ref mbi, .ref mod1, .int (nI mon), .ref msc, .ref msb, .ref msu, .ref mwy, .ref mre, .ref mby, .ref msm, .ref mle, .ref mgr])), (mr, aI cA 2000 (fun j => iZ (Rw j)))] sz) := by
  refine z_write (cc := cX6_row) (maxL := 2) (ret := (some .int)) (by decide) rfl (Nat.le_of_ble_eq_true rfl) ?_
  intro p e s m below meth c hx hb hr hml hown hts hlocks A hAe hA H locs hP hK hD hS hini Q hQ ls hl
  have hown : s.vm.findClass RX6 = some m.cls := hown
  have hl : lv_has ls 2 [(0, .ref mo), (1, .int (iZ z))] := hl
  generalize hav : ([.ref mo, .int (iZ z)] : List Value).toArray = args at hts hQ ⊢
  have hin6 : ∀ w ∈ wsX60, w ∈ wsX6_row := by decide +kernel
  refine lv_aload_n hx hb dX6_row_0 rfl (lv_at hl 0 rfl) ?_
  refine lv_iload_n hx hb dX6_row_1 rfl (lv_at hl 1 rfl) ?_
  refine z_ilt hx hb (x := z) (hz) (tgt := 13) dX6_row_2 (by decide) (fun h2 => ?_) (fun h2 => ?_)
  · omega
  · skip
    refine lv_iload_n hx hb dX6_row_5 rfl (lv_at hl 1 rfl) ?_
    refine lv_aload_n hx hb dX6_row_6 rfl (lv_at hl 0 rfl) ?_
    refine va_get (D := D) (ci := 6) (v := .int (nI mrn)) (C := RX6) (T := TX6) (N := 26) hx hb hts hin6 hown hK hP 0 rfl rfl 8 (by decide) (hts (.fieldLink RX6 74 "TourHouseModel" "rows" "I") (by decide +kernel)) (fun _ h9 => h9) rfl dX6_row_7 ?_
    refine z_Ilt hx hb (x := z) (y := ((mrn : Nat) : Int)) (hz) (⟨by omega, by omega⟩) (tgt := 17) dX6_row_10 (by decide) (fun h10 => ?_) (fun h10 => ?_)
    · skip
      refine lv_iconst (v := zB false) hx hb dX6_row_17 (by decide) ?_
      refine lv_iconst (v := zB false) hx hb dX6_row_18 (by decide) ?_
      refine z_cWVi (wc := [(mo, .inr (6, [.int (nI mth), .int (zB dir), .int (nI nv), .int (nI me), .ref mf, .ref mt, .ref mw, .ref mr, .int (nI mrn), .ref mp, .int (nI mst), .int (zB mhr), .ref mx, .ref mfa, .ref mbi, .ref mod1, .int (nI mon), .ref msc, .ref msb, .ref msu, .ref mwy, .ref mre, .ref mby, .ref msm, .ref mle, .ref mgr]))]) (rm := ({ frames := 0, cells := 0, slots := 0, locals := 0 } : Room)) (As := [.int (zB false), .int (zB false)]) (rest := []) (wr := [(mr, aI cA 2000 (fun j => iZ (Rw j)))]) (w1 := [(mo, .inr (6, [.int (nI (mThr false false)), .int (zB dir), .int (nI nv), .int (nI me), .ref mf, .ref mt, .ref mw, .ref mr, .int (nI mrn), .ref mp, .int (nI mst), .int (zB mhr), .ref mx, .ref mfa, .ref mbi, .ref mod1, .int (nI mon), .ref msc, .ref msb, .ref msu, .ref mwy, .ref mre, .ref mby, .ref msm, .ref mle, .ref mgr]))]) (ws' := [(mo, .inr (6, [.int (nI (mThr false false)), .int (zB dir), .int (nI nv), .int (nI me), .ref mf, .ref mt, .ref mw, .ref mr, .int (nI mrn), .ref mp, .int (nI mst), .int (zB mhr), .ref mx, .ref mfa, .ref mbi, .ref mod1, .int (nI mon), .ref msc, .ref msb, .ref msu, .ref mwy, .ref mre, .ref mby, .ref msm, .ref mle, .ref mgr])), (mr, aI cA 2000 (fun j => iZ (Rw j)))]) ⟨hx, hb, hml, hown, hts⟩ (c_X6_throwing l D cA H.size mo mf mt mw mr mp mx mfa mbi mod1 msc msb msu mwy mre mby msm mle mgr mth dir nv me mrn mst mhr mon false false ) (cwV 2 hts gX6_row_X6_throwing rfl rfl rfl (by decide +kernel) ⟨Nat.le_of_ble_eq_true rfl, Nat.le_of_ble_eq_true rfl⟩) hP hK hD hS hA [0] [1] [1, 0] rfl rfl rfl rfl rfl (by decide) rfl rfl rfl 6 0 rfl rfl rfl hl.1 rfl (Nat.le_of_ble_eq_true rfl) ⟨Nat.zero_le _, Nat.zero_le _⟩ dX6_row_19 (fun H locs hP hD hS => ?_)
      refine z_ifeq hx hb (tgt := 27) dX6_row_22 (by decide) (fun h22 => ?_) (fun h22 => ?_)
      · skip
        refine lv_aload_n hx hb dX6_row_27 rfl (lv_at hl 0 rfl) ?_
        refine va_get (D := D) (ci := 6) (v := .ref mr) (C := RX6) (T := TX6) (N := 26) hx hb hts hin6 hown hK hP 0 rfl rfl 7 (by decide) (hts (.fieldLink RX6 23 "TourHouseModel" "row" "[I") (by decide +kernel)) (fun _ h9 => h9) rfl dX6_row_28 ?_
        refine lv_iload_n hx hb dX6_row_31 rfl (lv_at hl 1 rfl) ?_
        refine z_topi (v := nI z.toNat) (iZ_toNat (by omega)) ?_
        refine z_iald hx hb hK hP 1 0 rfl rfl (k := z.toNat) (by omega) (by decide) (v := iZ (Rw z.toNat)) rfl dX6_row_32 ?_
        exact z_iretW hx hb hr hlocks hAe hQ (hP) hK (hD) hS dX6_row_33
      · cases h22
    · omega
set_option maxHeartbeats 4000000 in
set_option maxRecDepth 100000 in
/-- Model.step, refused -/
theorem c_X6_step_b (l : Launch) (D : va_G) (cA : Nat → ClassId) (sz : Nat) (mo : Nat) (mf : Nat) (mt : Nat) (mw : Nat) (mr : Nat) (mp : Nat) (mx : Nat) (mfa : Nat) (mbi : Nat) (mod1 : Nat) (msc : Nat) (msb : Nat) (msu : Nat) (mwy : Nat) (mre : Nat) (mby : Nat) (msm : Nat) (mle : Nat) (mgr : Nat) (mth : Nat) (dir : Bool) (nv : Nat) (me : Nat) (mrn : Nat) (mst : Nat) (mhr : Bool) (mon : Nat) (Pz : Nat → Int) (z : Int) (hst : mst = 1000) : Met l yX6_step wsX6_step ({ frames := 1, cells := 0, slots := 0, locals := 22 } : Room) (zWr D vwCl (zT cA) [(mo, .inr (6, [.int (nI mth), .int (zB dir), .int (nI nv), .int (nI me), .ref mf, .ref mt, .ref mw, .ref mr, .int (nI mrn), .ref mp, .int (nI mst), .int (zB mhr), .ref mx, .ref mfa, .ref mbi, .ref mod1, .int (nI mon), .ref msc, .ref msb, .ref msu, .ref mwy, .ref mre, .ref mby, .ref msm, .ref mle, .ref mgr])), (mp, aI cA 1000 (fun j => iZ (Pz j)))] sz [.ref mo, .int (iZ z)]) (zQi D vwCl (zT cA) (va_A [(mo, .inr (6, [.int (nI mth), .int (zB dir), .int (nI nv), .int (nI me), .ref mf, .ref mt, .ref mw, .ref mr, .int (nI mrn), .ref mp, .int (nI mst), .int (zB mhr), .ref mx, .ref mfa, .ref mbi, .ref mod1, .int (nI mon), .ref msc, .ref msb, .ref msu, .ref mwy, .ref mre, .ref mby, .ref msm, .ref mle, .ref mgr])), (mp, aI cA 1000 (fun j => iZ (Pz j)))] sz) [(mo, .inr (6, [.int (nI 1), .int (zB dir), .int (nI nv), .int (nI me), .ref mf, .ref mt, .ref mw, .ref mr, .int (nI mrn), .ref mp, .int (nI mst), .int (zB mhr), .ref mx, .ref mfa, .ref mbi, .ref mod1, .int (nI mon), .ref msc, .ref msb, .ref msu, .ref mwy, .ref mre, .ref mby, .ref msm, .ref mle, .ref mgr])), (mp, aI cA 1000 (fun j => iZ (Pz j)))] (nI 0)) 0 0 (va_A [(mo, .inr (6, [.int (nI mth), .int (zB dir), .int (nI nv), .int (nI me), .ref mf, .ref mt, .ref mw, .ref mr, .int (nI mrn), .ref mp, .int (nI mst), .int (zB mhr), .ref mx, .ref mfa, .ref mbi, .ref mod1, .int (nI mon), .ref msc, .ref msb, .ref msu, .ref mwy, .ref mre, .ref mby, .ref msm, .ref mle, .ref mgr])), (mp, aI cA 1000 (fun j => iZ (Pz j)))] sz) := by
  refine z_write (cc := cX6_step) (maxL := 2) (ret := (some .int)) (by decide) rfl (Nat.le_of_ble_eq_true rfl) ?_
  intro p e s m below meth c hx hb hr hml hown hts hlocks A hAe hA H locs hP hK hD hS hini Q hQ ls hl
  have hown : s.vm.findClass RX6 = some m.cls := hown
  have hl : lv_has ls 2 [(0, .ref mo), (1, .int (iZ z))] := hl
  generalize hav : ([.ref mo, .int (iZ z)] : List Value).toArray = args at hts hQ ⊢
  have hin6 : ∀ w ∈ wsX60, w ∈ wsX6_step := by decide +kernel
  refine lv_aload_n hx hb dX6_step_0 rfl (lv_at hl 0 rfl) ?_
  refine lv_aload_n hx hb dX6_step_1 rfl (lv_at hl 0 rfl) ?_
  refine va_get (D := D) (ci := 6) (v := .int (nI mst)) (C := RX6) (T := TX6) (N := 26) hx hb hts hin6 hown hK hP 0 rfl rfl 10 (by decide) (hts (.fieldLink RX6 177 "TourHouseModel" "steps" "I") (by decide +kernel)) (fun _ h9 => h9) rfl dX6_step_2 ?_
  refine lv_sipush (v := nI 1000) hx hb dX6_step_5 (by decide) ?_
  refine z_ne hx hb (by omega) (by decide) (tgt := 15) dX6_step_8 (by decide) (fun h8 => ?_) (fun h8 => ?_)
  · omega
  · skip
    refine lv_iconst (v := zB true) hx hb dX6_step_11 (by decide) ?_
    refine lv_goto (tgt := 16) hx hb dX6_step_12 (by decide) ?_
    refine lv_iconst (v := zB false) hx hb dX6_step_16 (by decide) ?_
    refine z_cWVi (wc := [(mo, .inr (6, [.int (nI mth), .int (zB dir), .int (nI nv), .int (nI me), .ref mf, .ref mt, .ref mw, .ref mr, .int (nI mrn), .ref mp, .int (nI mst), .int (zB mhr), .ref mx, .ref mfa, .ref mbi, .ref mod1, .int (nI mon), .ref msc, .ref msb, .ref msu, .ref mwy, .ref mre, .ref mby, .ref msm, .ref mle, .ref mgr]))]) (rm := ({ frames := 0, cells := 0, slots := 0, locals := 0 } : Room)) (As := [.int (zB true), .int (zB false)]) (rest := []) (wr := [(mp, aI cA 1000 (fun j => iZ (Pz j)))]) (w1 := [(mo, .inr (6, [.int (nI (mThr true false)), .int (zB dir), .int (nI nv), .int (nI me), .ref mf, .ref mt, .ref mw, .ref mr, .int (nI mrn), .ref mp, .int (nI mst), .int (zB mhr), .ref mx, .ref mfa, .ref mbi, .ref mod1, .int (nI mon), .ref msc, .ref msb, .ref msu, .ref mwy, .ref mre, .ref mby, .ref msm, .ref mle, .ref mgr]))]) (ws' := [(mo, .inr (6, [.int (nI (mThr true false)), .int (zB dir), .int (nI nv), .int (nI me), .ref mf, .ref mt, .ref mw, .ref mr, .int (nI mrn), .ref mp, .int (nI mst), .int (zB mhr), .ref mx, .ref mfa, .ref mbi, .ref mod1, .int (nI mon), .ref msc, .ref msb, .ref msu, .ref mwy, .ref mre, .ref mby, .ref msm, .ref mle, .ref mgr])), (mp, aI cA 1000 (fun j => iZ (Pz j)))]) ⟨hx, hb, hml, hown, hts⟩ (c_X6_throwing l D cA H.size mo mf mt mw mr mp mx mfa mbi mod1 msc msb msu mwy mre mby msm mle mgr mth dir nv me mrn mst mhr mon true false ) (cwV 2 hts gX6_step_X6_throwing rfl rfl rfl (by decide +kernel) ⟨Nat.le_of_ble_eq_true rfl, Nat.le_of_ble_eq_true rfl⟩) hP hK hD hS hA [0] [1] [1, 0] rfl rfl rfl rfl rfl (by decide) rfl rfl rfl 6 0 rfl rfl rfl hl.1 rfl (Nat.le_of_ble_eq_true rfl) ⟨Nat.zero_le _, Nat.zero_le _⟩ dX6_step_17 (fun H locs hP hD hS => ?_)
    refine z_ifeq hx hb (tgt := 25) dX6_step_20 (by decide) (fun h20 => ?_) (fun h20 => ?_)
    · cases h20
    · skip
      refine lv_iconst (v := nI 0) hx hb dX6_step_23 (by decide) ?_
      exact z_iretW hx hb hr hlocks hAe hQ (hP) hK (hD) hS dX6_step_24
set_option maxHeartbeats 4000000 in
set_option maxRecDepth 100000 in
/-- Model.step -/
theorem c_X6_step_o (l : Launch) (D : va_G) (cA : Nat → ClassId) (sz : Nat) (mo : Nat) (mf : Nat) (mt : Nat) (mw : Nat) (mr : Nat) (mp : Nat) (mx : Nat) (mfa : Nat) (mbi : Nat) (mod1 : Nat) (msc : Nat) (msb : Nat) (msu : Nat) (mwy : Nat) (mre : Nat) (mby : Nat) (msm : Nat) (mle : Nat) (mgr : Nat) (mth : Nat) (dir : Bool) (nv : Nat) (me : Nat) (mrn : Nat) (mst : Nat) (mhr : Bool) (mon : Nat) (Pz : Nat → Int) (z : Int) (hst : mst < 1000) : Met l yX6_step wsX6_step ({ frames := 1, cells := 0, slots := 0, locals := 22 } : Room) (zWr D vwCl (zT cA) [(mo, .inr (6, [.int (nI mth), .int (zB dir), .int (nI nv), .int (nI me), .ref mf, .ref mt, .ref mw, .ref mr, .int (nI mrn), .ref mp, .int (nI mst), .int (zB mhr), .ref mx, .ref mfa, .ref mbi, .ref mod1, .int (nI mon), .ref msc, .ref msb, .ref msu, .ref mwy, .ref mre, .ref mby, .ref msm, .ref mle, .ref mgr])), (mp, aI cA 1000 (fun j => iZ (Pz j)))] sz [.ref mo, .int (iZ z)]) (zQi D vwCl (zT cA) (va_A [(mo, .inr (6, [.int (nI mth), .int (zB dir), .int (nI nv), .int (nI me), .ref mf, .ref mt, .ref mw, .ref mr, .int (nI mrn), .ref mp, .int (nI mst), .int (zB mhr), .ref mx, .ref mfa, .ref mbi, .ref mod1, .int (nI mon), .ref msc, .ref msb, .ref msu, .ref mwy, .ref mre, .ref mby, .ref msm, .ref mle, .ref mgr])), (mp, aI cA 1000 (fun j => iZ (Pz j)))] sz) [(mo, .inr (6, [.int (nI 0), .int (zB dir), .int (nI nv), .int (nI me), .ref mf, .ref mt, .ref mw, .ref mr, .int (nI mrn), .ref mp, .int (nI (mst + 1)), .int (zB mhr), .ref mx, .ref mfa, .ref mbi, .ref mod1, .int (nI mon), .ref msc, .ref msb, .ref msu, .ref mwy, .ref mre, .ref mby, .ref msm, .ref mle, .ref mgr])), (mp, aI cA 1000 (fun j => iZ ((va_up Pz mst z) j)))] (nI (mst + 1))) 0 0 (va_A [(mo, .inr (6, [.int (nI mth), .int (zB dir), .int (nI nv), .int (nI me), .ref mf, .ref mt, .ref mw, .ref mr, .int (nI mrn), .ref mp, .int (nI mst), .int (zB mhr), .ref mx, .ref mfa, .ref mbi, .ref mod1, .int (nI mon), .ref msc, .ref msb, .ref msu, .ref mwy, .ref mre, .ref mby, .ref msm, .ref mle, .ref mgr])), (mp, aI cA 1000 (fun j => iZ (Pz j)))] sz) := by
  refine z_write (cc := cX6_step) (maxL := 2) (ret := (some .int)) (by decide) rfl (Nat.le_of_ble_eq_true rfl) ?_
  intro p e s m below meth c hx hb hr hml hown hts hlocks A hAe hA H locs hP hK hD hS hini Q hQ ls hl
  have hown : s.vm.findClass RX6 = some m.cls := hown
  have hl : lv_has ls 2 [(0, .ref mo), (1, .int (iZ z))] := hl
  generalize hav : ([.ref mo, .int (iZ z)] : List Value).toArray = args at hts hQ ⊢
  have hin6 : ∀ w ∈ wsX60, w ∈ wsX6_step := by decide +kernel
  refine lv_aload_n hx hb dX6_step_0 rfl (lv_at hl 0 rfl) ?_
  refine lv_aload_n hx hb dX6_step_1 rfl (lv_at hl 0 rfl) ?_
  refine va_get (D := D) (ci := 6) (v := .int (nI mst)) (C := RX6) (T := TX6) (N := 26) hx hb hts hin6 hown hK hP 0 rfl rfl 10 (by decide) (hts (.fieldLink RX6 177 "TourHouseModel" "steps" "I") (by decide +kernel)) (fun _ h9 => h9) rfl dX6_step_2 ?_
  refine lv_sipush (v := nI 1000) hx hb dX6_step_5 (by decide) ?_
  refine z_ne hx hb (by omega) (by decide) (tgt := 15) dX6_step_8 (by decide) (fun h8 => ?_) (fun h8 => ?_)
  · skip
    refine lv_iconst (v := zB false) hx hb dX6_step_15 (by decide) ?_
    refine lv_iconst (v := zB false) hx hb dX6_step_16 (by decide) ?_
    refine z_cWVi (wc := [(mo, .inr (6, [.int (nI mth), .int (zB dir), .int (nI nv), .int (nI me), .ref mf, .ref mt, .ref mw, .ref mr, .int (nI mrn), .ref mp, .int (nI mst), .int (zB mhr), .ref mx, .ref mfa, .ref mbi, .ref mod1, .int (nI mon), .ref msc, .ref msb, .ref msu, .ref mwy, .ref mre, .ref mby, .ref msm, .ref mle, .ref mgr]))]) (rm := ({ frames := 0, cells := 0, slots := 0, locals := 0 } : Room)) (As := [.int (zB false), .int (zB false)]) (rest := []) (wr := [(mp, aI cA 1000 (fun j => iZ (Pz j)))]) (w1 := [(mo, .inr (6, [.int (nI (mThr false false)), .int (zB dir), .int (nI nv), .int (nI me), .ref mf, .ref mt, .ref mw, .ref mr, .int (nI mrn), .ref mp, .int (nI mst), .int (zB mhr), .ref mx, .ref mfa, .ref mbi, .ref mod1, .int (nI mon), .ref msc, .ref msb, .ref msu, .ref mwy, .ref mre, .ref mby, .ref msm, .ref mle, .ref mgr]))]) (ws' := [(mo, .inr (6, [.int (nI (mThr false false)), .int (zB dir), .int (nI nv), .int (nI me), .ref mf, .ref mt, .ref mw, .ref mr, .int (nI mrn), .ref mp, .int (nI mst), .int (zB mhr), .ref mx, .ref mfa, .ref mbi, .ref mod1, .int (nI mon), .ref msc, .ref msb, .ref msu, .ref mwy, .ref mre, .ref mby, .ref msm, .ref mle, .ref mgr])), (mp, aI cA 1000 (fun j => iZ (Pz j)))]) ⟨hx, hb, hml, hown, hts⟩ (c_X6_throwing l D cA H.size mo mf mt mw mr mp mx mfa mbi mod1 msc msb msu mwy mre mby msm mle mgr mth dir nv me mrn mst mhr mon false false ) (cwV 2 hts gX6_step_X6_throwing rfl rfl rfl (by decide +kernel) ⟨Nat.le_of_ble_eq_true rfl, Nat.le_of_ble_eq_true rfl⟩) hP hK hD hS hA [0] [1] [1, 0] rfl rfl rfl rfl rfl (by decide) rfl rfl rfl 6 0 rfl rfl rfl hl.1 rfl (Nat.le_of_ble_eq_true rfl) ⟨Nat.zero_le _, Nat.zero_le _⟩ dX6_step_17 (fun H locs hP hD hS => ?_)
    refine z_ifeq hx hb (tgt := 25) dX6_step_20 (by decide) (fun h20 => ?_) (fun h20 => ?_)
    · skip
      refine lv_aload_n hx hb dX6_step_25 rfl (lv_at hl 0 rfl) ?_
      refine va_get (D := D) (ci := 6) (v := .ref mp) (C := RX6) (T := TX6) (N := 26) hx hb hts hin6 hown hK hP 0 rfl rfl 9 (by decide) (hts (.fieldLink RX6 26 "TourHouseModel" "path" "[I") (by decide +kernel)) (fun _ h9 => h9) rfl dX6_step_26 ?_
      refine lv_aload_n hx hb dX6_step_29 rfl (lv_at hl 0 rfl) ?_
      refine va_get (D := D) (ci := 6) (v := .int (nI mst)) (C := RX6) (T := TX6) (N := 26) hx hb hts hin6 hown hK hP 0 rfl rfl 10 (by decide) (hts (.fieldLink RX6 177 "TourHouseModel" "steps" "I") (by decide +kernel)) (fun _ h9 => h9) rfl dX6_step_30 ?_
      refine lv_iload_n hx hb dX6_step_33 rfl (lv_at hl 1 rfl) ?_
      refine z_iast hx hb hK hP hD hS 1 0 rfl rfl (k := mst) (by omega) (by decide) (f' := (fun j => iZ ((va_up Pz mst z) j))) (upd_iZ Pz mst z) (ws' := [(mo, .inr (6, [.int (nI (mThr false false)), .int (zB dir), .int (nI nv), .int (nI me), .ref mf, .ref mt, .ref mw, .ref mr, .int (nI mrn), .ref mp, .int (nI mst), .int (zB mhr), .ref mx, .ref mfa, .ref mbi, .ref mod1, .int (nI mon), .ref msc, .ref msb, .ref msu, .ref mwy, .ref mre, .ref mby, .ref msm, .ref mle, .ref mgr])), (mp, aI cA 1000 (fun j => iZ ((va_up Pz mst z) j)))]) rfl dX6_step_34 (fun H locs hP hD hS => ?_)
      refine lv_aload_n hx hb dX6_step_35 rfl (lv_at hl 0 rfl) ?_
      refine lv_dup hx hb dX6_step_36 rfl ?_
      refine va_get (D := D) (ci := 6) (v := .int (nI mst)) (C := RX6) (T := TX6) (N := 26) hx hb hts hin6 hown hK hP 0 rfl rfl 10 (by decide) (hts (.fieldLink RX6 177 "TourHouseModel" "steps" "I") (by decide +kernel)) (fun _ h9 => h9) rfl dX6_step_37 ?_
      refine lv_iconst (v := nI 1) hx hb dX6_step_40 (by decide) ?_
      refine lv_iadd hx hb dX6_step_41 ?_
      refine z_topi (v := nI (mst + 1)) (nI_add mst 1) ?_
      refine va_put (D := D) (ci := 6) (v := .int (nI (mst + 1))) (ty := .int) (C := RX6) (T := TX6) (N := 26) hx hb hts hin6 tyX6 tyX6_ok nmX6 hown hK hP hD hS 0 rfl rfl 10 (by decide) (hts (.fieldLink RX6 177 "TourHouseModel" "steps" "I") (by decide +kernel)) (fun _ h9 => h9) rfl (by decide +kernel) (rfl) (rfl) (Nat.le_of_ble_eq_true rfl) dX6_step_42 (fun H locs hP hD hS => ?_)
      have hP : va_P D vwCl [(mo, .inr (6, [.int (nI (mThr false false)), .int (zB dir), .int (nI nv), .int (nI me), .ref mf, .ref mt, .ref mw, .ref mr, .int (nI mrn), .ref mp, .int (nI (mst + 1)), .int (zB mhr), .ref mx, .ref mfa, .ref mbi, .ref mod1, .int (nI mon), .ref msc, .ref msb, .ref msu, .ref mwy, .ref mre, .ref mby, .ref msm, .ref mle, .ref mgr])), (mp, aI cA 1000 (fun j => iZ ((va_up Pz mst z) j)))] H := hP
      have hD : va_D A [(mo, .inr (6, [.int (nI (mThr false false)), .int (zB dir), .int (nI nv), .int (nI me), .ref mf, .ref mt, .ref mw, .ref mr, .int (nI mrn), .ref mp, .int (nI (mst + 1)), .int (zB mhr), .ref mx, .ref mfa, .ref mbi, .ref mod1, .int (nI mon), .ref msc, .ref msb, .ref msu, .ref mwy, .ref mre, .ref mby, .ref msm, .ref mle, .ref mgr])), (mp, aI cA 1000 (fun j => iZ ((va_up Pz mst z) j)))] := hD
      refine lv_aload_n hx hb dX6_step_45 rfl (lv_at hl 0 rfl) ?_
      refine va_get (D := D) (ci := 6) (v := .int (nI (mst + 1))) (C := RX6) (T := TX6) (N := 26) hx hb hts hin6 hown hK hP 0 rfl rfl 10 (by decide) (hts (.fieldLink RX6 177 "TourHouseModel" "steps" "I") (by decide +kernel)) (fun _ h9 => h9) rfl dX6_step_46 ?_
      exact z_iretW hx hb hr hlocks hAe hQ (hP) hK (hD) hS dX6_step_49
    · cases h20
  · omega
set_option maxHeartbeats 4000000 in
set_option maxRecDepth 100000 in
/-- Model.extra, refused (no such edge) -/
theorem c_X6_extra_a (l : Launch) (D : va_G) (cA : Nat → ClassId) (sz : Nat) (mo : Nat) (mf : Nat) (mt : Nat) (mw : Nat) (mr : Nat) (mp : Nat) (mx : Nat) (mfa : Nat) (mbi : Nat) (mod1 : Nat) (msc : Nat) (msb : Nat) (msu : Nat) (mwy : Nat) (mre : Nat) (mby : Nat) (msm : Nat) (mle : Nat) (mgr : Nat) (mth : Nat) (dir : Bool) (nv : Nat) (me : Nat) (mrn : Nat) (mst : Nat) (mhr : Bool) (mon : Nat) (X : Nat → Int) (z : Int) (hz : -2147483648 ≤ z ∧ z < 2147483648) (hme : me ≤ 40) (hbad : z < 0 ∨ (me : Int) ≤ z) : Met l yX6_extra wsX6_extra ({ frames := 1, cells := 0, slots := 0, locals := 22 } : Room) (zWr D vwCl (zT cA) [(mo, .inr (6, [.int (nI mth), .int (zB dir), .int (nI nv), .int (nI me), .ref mf, .ref mt, .ref mw, .ref mr, .int (nI mrn), .ref mp, .int (nI mst), .int (zB mhr), .ref mx, .ref mfa, .ref mbi, .ref mod1, .int (nI mon), .ref msc, .ref msb, .ref msu, .ref mwy, .ref mre, .ref mby, .ref msm, .ref mle, .ref mgr])), (mx, aI cA 40 (fun j => iZ (X j)))] sz [.ref mo, .int (iZ z)]) (zQi D vwCl (zT cA) (va_A [(mo, .inr (6, [.int (nI mth), .int (zB dir), .int (nI nv), .int (nI me), .ref mf, .ref mt, .ref mw, .ref mr, .int (nI mrn), .ref mp, .int (nI mst), .int (zB mhr), .ref mx, .ref mfa, .ref mbi, .ref mod1, .int (nI mon), .ref msc, .ref msb, .ref msu, .ref mwy, .ref mre, .ref mby, .ref msm, .ref mle, .ref mgr])), (mx, aI cA 40 (fun j => iZ (X j)))] sz) [(mo, .inr (6, [.int (nI 1), .int (zB dir), .int (nI nv), .int (nI me), .ref mf, .ref mt, .ref mw, .ref mr, .int (nI mrn), .ref mp, .int (nI mst), .int (zB mhr), .ref mx, .ref mfa, .ref mbi, .ref mod1, .int (nI mon), .ref msc, .ref msb, .ref msu, .ref mwy, .ref mre, .ref mby, .ref msm, .ref mle, .ref mgr])), (mx, aI cA 40 (fun j => iZ (X j)))] (nI 0)) 0 0 (va_A [(mo, .inr (6, [.int (nI mth), .int (zB dir), .int (nI nv), .int (nI me), .ref mf, .ref mt, .ref mw, .ref mr, .int (nI mrn), .ref mp, .int (nI mst), .int (zB mhr), .ref mx, .ref mfa, .ref mbi, .ref mod1, .int (nI mon), .ref msc, .ref msb, .ref msu, .ref mwy, .ref mre, .ref mby, .ref msm, .ref mle, .ref mgr])), (mx, aI cA 40 (fun j => iZ (X j)))] sz) := by
  refine z_write (cc := cX6_extra) (maxL := 2) (ret := (some .int)) (by decide) rfl (Nat.le_of_ble_eq_true rfl) ?_
  intro p e s m below meth c hx hb hr hml hown hts hlocks A hAe hA H locs hP hK hD hS hini Q hQ ls hl
  have hown : s.vm.findClass RX6 = some m.cls := hown
  have hl : lv_has ls 2 [(0, .ref mo), (1, .int (iZ z))] := hl
  generalize hav : ([.ref mo, .int (iZ z)] : List Value).toArray = args at hts hQ ⊢
  have hin6 : ∀ w ∈ wsX60, w ∈ wsX6_extra := by decide +kernel
  refine lv_aload_n hx hb dX6_extra_0 rfl (lv_at hl 0 rfl) ?_
  refine lv_iload_n hx hb dX6_extra_1 rfl (lv_at hl 1 rfl) ?_
  refine z_ilt hx hb (x := z) (hz) (tgt := 13) dX6_extra_2 (by decide) (fun h2 => ?_) (fun h2 => ?_)
  · skip
    refine lv_iconst (v := zB true) hx hb dX6_extra_13 (by decide) ?_
    refine lv_goto (tgt := 18) hx hb dX6_extra_14 (by decide) ?_
    have J30 : ∀ (H : Heap) (locs : List Loc), va_P D vwCl [(mo, .inr (6, [.int (nI mth), .int (zB dir), .int (nI nv), .int (nI me), .ref mf, .ref mt, .ref mw, .ref mr, .int (nI mrn), .ref mp, .int (nI mst), .int (zB mhr), .ref mx, .ref mfa, .ref mbi, .ref mod1, .int (nI mon), .ref msc, .ref msb, .ref msu, .ref mwy, .ref mre, .ref mby, .ref msm, .ref mle, .ref mgr])), (mx, aI cA 40 (fun j => iZ (X j)))] H → va_D A [(mo, .inr (6, [.int (nI mth), .int (zB dir), .int (nI nv), .int (nI me), .ref mf, .ref mt, .ref mw, .ref mr, .int (nI mrn), .ref mp, .int (nI mst), .int (zB mhr), .ref mx, .ref mfa, .ref mbi, .ref mod1, .int (nI mon), .ref msc, .ref msb, .ref msu, .ref mwy, .ref mre, .ref mby, .ref msm, .ref mle, .ref mgr])), (mx, aI cA 40 (fun j => iZ (X j)))] → va_S A s.heap H locs → ∀ (ls : Array Slot), lv_has ls 2 [(0, .ref mo), (1, .int (iZ z))] → W p l e ({ frames := 1, cells := 0, slots := 0, locals := 22 } : Room) s m args below meth c H locs 0 0 Q (F0 m 30 ls [.int (zB (!mhr)), .int (zB true), .ref mo]) := by
      intro   H locs hP hD hS ls hl
      refine z_cWVi (wc := [(mo, .inr (6, [.int (nI mth), .int (zB dir), .int (nI nv), .int (nI me), .ref mf, .ref mt, .ref mw, .ref mr, .int (nI mrn), .ref mp, .int (nI mst), .int (zB mhr), .ref mx, .ref mfa, .ref mbi, .ref mod1, .int (nI mon), .ref msc, .ref msb, .ref msu, .ref mwy, .ref mre, .ref mby, .ref msm, .ref mle, .ref mgr]))]) (rm := ({ frames := 0, cells := 0, slots := 0, locals := 0 } : Room)) (As := [.int (zB true), .int (zB (!mhr))]) (rest := []) (wr := [(mx, aI cA 40 (fun j => iZ (X j)))]) (w1 := [(mo, .inr (6, [.int (nI (mThr true (!mhr))), .int (zB dir), .int (nI nv), .int (nI me), .ref mf, .ref mt, .ref mw, .ref mr, .int (nI mrn), .ref mp, .int (nI mst), .int (zB mhr), .ref mx, .ref mfa, .ref mbi, .ref mod1, .int (nI mon), .ref msc, .ref msb, .ref msu, .ref mwy, .ref mre, .ref mby, .ref msm, .ref mle, .ref mgr]))]) (ws' := [(mo, .inr (6, [.int (nI (mThr true (!mhr))), .int (zB dir), .int (nI nv), .int (nI me), .ref mf, .ref mt, .ref mw, .ref mr, .int (nI mrn), .ref mp, .int (nI mst), .int (zB mhr), .ref mx, .ref mfa, .ref mbi, .ref mod1, .int (nI mon), .ref msc, .ref msb, .ref msu, .ref mwy, .ref mre, .ref mby, .ref msm, .ref mle, .ref mgr])), (mx, aI cA 40 (fun j => iZ (X j)))]) ⟨hx, hb, hml, hown, hts⟩ (c_X6_throwing l D cA H.size mo mf mt mw mr mp mx mfa mbi mod1 msc msb msu mwy mre mby msm mle mgr mth dir nv me mrn mst mhr mon true (!mhr) ) (cwV 2 hts gX6_extra_X6_throwing rfl rfl rfl (by decide +kernel) ⟨Nat.le_of_ble_eq_true rfl, Nat.le_of_ble_eq_true rfl⟩) hP hK hD hS hA [0] [1] [1, 0] rfl rfl rfl rfl rfl (by decide) rfl rfl rfl 6 0 rfl rfl rfl hl.1 rfl (Nat.le_of_ble_eq_true rfl) ⟨Nat.zero_le _, Nat.zero_le _⟩ dX6_extra_30 (fun H locs hP hD hS => ?_)
      refine z_ifeq hx hb (tgt := 38) dX6_extra_33 (by decide) (fun h33 => ?_) (fun h33 => ?_)
      · cases h33
      · skip
        refine lv_iconst (v := nI 0) hx hb dX6_extra_36 (by decide) ?_
        exact z_iretW hx hb hr hlocks hAe hQ (hP) hK (hD) hS dX6_extra_37
    refine lv_aload_n hx hb dX6_extra_18 rfl (lv_at hl 0 rfl) ?_
    refine va_get (D := D) (ci := 6) (v := .int (zB mhr)) (C := RX6) (T := TX6) (N := 26) hx hb hts hin6 hown hK hP 0 rfl rfl 11 (by decide) (hts (.fieldLink RX6 77 "TourHouseModel" "hasRound" "Z") (by decide +kernel)) (fun _ h9 => h9) rfl dX6_extra_19 ?_
    refine z_ifne hx hb (tgt := 29) dX6_extra_22 (by decide) (fun h22 => ?_) (fun h22 => ?_)
    · skip
      refine lv_iconst (v := zB false) hx hb dX6_extra_29 (by decide) ?_
      refine z_topi (v := zB (!mhr)) (by rw [h22]; rfl) ?_
      exact J30   _ _ (hP) (hD) hS ls (lv_sub hl [0, 1] (by rfl))
    · skip
      refine lv_iconst (v := zB true) hx hb dX6_extra_25 (by decide) ?_
      refine lv_goto (tgt := 30) hx hb dX6_extra_26 (by decide) ?_
      refine z_topi (v := zB (!mhr)) (by rw [h22]; rfl) ?_
      exact J30   _ _ (hP) (hD) hS ls (lv_sub hl [0, 1] (by rfl))
  · skip
    refine lv_iload_n hx hb dX6_extra_5 rfl (lv_at hl 1 rfl) ?_
    refine lv_aload_n hx hb dX6_extra_6 rfl (lv_at hl 0 rfl) ?_
    refine va_get (D := D) (ci := 6) (v := .int (nI me)) (C := RX6) (T := TX6) (N := 26) hx hb hts hin6 hown hK hP 0 rfl rfl 3 (by decide) (hts (.fieldLink RX6 85 "TourHouseModel" "m" "I") (by decide +kernel)) (fun _ h9 => h9) rfl dX6_extra_7 ?_
    refine z_Ilt hx hb (x := z) (y := ((me : Nat) : Int)) (hz) (⟨by omega, by omega⟩) (tgt := 17) dX6_extra_10 (by decide) (fun h10 => ?_) (fun h10 => ?_)
    · omega
    · skip
      refine lv_iconst (v := zB true) hx hb dX6_extra_13 (by decide) ?_
      refine lv_goto (tgt := 18) hx hb dX6_extra_14 (by decide) ?_
      have J30 : ∀ (H : Heap) (locs : List Loc), va_P D vwCl [(mo, .inr (6, [.int (nI mth), .int (zB dir), .int (nI nv), .int (nI me), .ref mf, .ref mt, .ref mw, .ref mr, .int (nI mrn), .ref mp, .int (nI mst), .int (zB mhr), .ref mx, .ref mfa, .ref mbi, .ref mod1, .int (nI mon), .ref msc, .ref msb, .ref msu, .ref mwy, .ref mre, .ref mby, .ref msm, .ref mle, .ref mgr])), (mx, aI cA 40 (fun j => iZ (X j)))] H → va_D A [(mo, .inr (6, [.int (nI mth), .int (zB dir), .int (nI nv), .int (nI me), .ref mf, .ref mt, .ref mw, .ref mr, .int (nI mrn), .ref mp, .int (nI mst), .int (zB mhr), .ref mx, .ref mfa, .ref mbi, .ref mod1, .int (nI mon), .ref msc, .ref msb, .ref msu, .ref mwy, .ref mre, .ref mby, .ref msm, .ref mle, .ref mgr])), (mx, aI cA 40 (fun j => iZ (X j)))] → va_S A s.heap H locs → ∀ (ls : Array Slot), lv_has ls 2 [(0, .ref mo), (1, .int (iZ z))] → W p l e ({ frames := 1, cells := 0, slots := 0, locals := 22 } : Room) s m args below meth c H locs 0 0 Q (F0 m 30 ls [.int (zB (!mhr)), .int (zB true), .ref mo]) := by
        intro   H locs hP hD hS ls hl
        refine z_cWVi (wc := [(mo, .inr (6, [.int (nI mth), .int (zB dir), .int (nI nv), .int (nI me), .ref mf, .ref mt, .ref mw, .ref mr, .int (nI mrn), .ref mp, .int (nI mst), .int (zB mhr), .ref mx, .ref mfa, .ref mbi, .ref mod1, .int (nI mon), .ref msc, .ref msb, .ref msu, .ref mwy, .ref mre, .ref mby, .ref msm, .ref mle, .ref mgr]))]) (rm := ({ frames := 0, cells := 0, slots := 0, locals := 0 } : Room)) (As := [.int (zB true), .int (zB (!mhr))]) (rest := []) (wr := [(mx, aI cA 40 (fun j => iZ (X j)))]) (w1 := [(mo, .inr (6, [.int (nI (mThr true (!mhr))), .int (zB dir), .int (nI nv), .int (nI me), .ref mf, .ref mt, .ref mw, .ref mr, .int (nI mrn), .ref mp, .int (nI mst), .int (zB mhr), .ref mx, .ref mfa, .ref mbi, .ref mod1, .int (nI mon), .ref msc, .ref msb, .ref msu, .ref mwy, .ref mre, .ref mby, .ref msm, .ref mle, .ref mgr]))]) (ws' := [(mo, .inr (6, [.int (nI (mThr true (!mhr))), .int (zB dir), .int (nI nv), .int (nI me), .ref mf, .ref mt, .ref mw, .ref mr, .int (nI mrn), .ref mp, .int (nI mst), .int (zB mhr), .ref mx, .ref mfa, .ref mbi, .ref mod1, .int (nI mon), .ref msc, .ref msb, .ref msu, .ref mwy, .ref mre, .ref mby, .ref msm, .ref mle, .ref mgr])), (mx, aI cA 40 (fun j => iZ (X j)))]) ⟨hx, hb, hml, hown, hts⟩ (c_X6_throwing l D cA H.size mo mf mt mw mr mp mx mfa mbi mod1 msc msb msu mwy mre mby msm mle mgr mth dir nv me mrn mst mhr mon true (!mhr) ) (cwV 2 hts gX6_extra_X6_throwing rfl rfl rfl (by decide +kernel) ⟨Nat.le_of_ble_eq_true rfl, Nat.le_of_ble_eq_true rfl⟩) hP hK hD hS hA [0] [1] [1, 0] rfl rfl rfl rfl rfl (by decide) rfl rfl rfl 6 0 rfl rfl rfl hl.1 rfl (Nat.le_of_ble_eq_true rfl) ⟨Nat.zero_le _, Nat.zero_le _⟩ dX6_extra_30 (fun H locs hP hD hS => ?_)
        refine z_ifeq hx hb (tgt := 38) dX6_extra_33 (by decide) (fun h33 => ?_) (fun h33 => ?_)
        · cases h33
        · skip
          refine lv_iconst (v := nI 0) hx hb dX6_extra_36 (by decide) ?_
          exact z_iretW hx hb hr hlocks hAe hQ (hP) hK (hD) hS dX6_extra_37
      refine lv_aload_n hx hb dX6_extra_18 rfl (lv_at hl 0 rfl) ?_
      refine va_get (D := D) (ci := 6) (v := .int (zB mhr)) (C := RX6) (T := TX6) (N := 26) hx hb hts hin6 hown hK hP 0 rfl rfl 11 (by decide) (hts (.fieldLink RX6 77 "TourHouseModel" "hasRound" "Z") (by decide +kernel)) (fun _ h9 => h9) rfl dX6_extra_19 ?_
      refine z_ifne hx hb (tgt := 29) dX6_extra_22 (by decide) (fun h22 => ?_) (fun h22 => ?_)
      · skip
        refine lv_iconst (v := zB false) hx hb dX6_extra_29 (by decide) ?_
        refine z_topi (v := zB (!mhr)) (by rw [h22]; rfl) ?_
        exact J30   _ _ (hP) (hD) hS ls (lv_sub hl [0, 1] (by rfl))
      · skip
        refine lv_iconst (v := zB true) hx hb dX6_extra_25 (by decide) ?_
        refine lv_goto (tgt := 30) hx hb dX6_extra_26 (by decide) ?_
        refine z_topi (v := zB (!mhr)) (by rw [h22]; rfl) ?_
        exact J30   _ _ (hP) (hD) hS ls (lv_sub hl [0, 1] (by rfl))
set_option maxHeartbeats 4000000 in
set_option maxRecDepth 100000 in
/-- Model.extra, refused (no round) -/
theorem c_X6_extra_s (l : Launch) (D : va_G) (cA : Nat → ClassId) (sz : Nat) (mo : Nat) (mf : Nat) (mt : Nat) (mw : Nat) (mr : Nat) (mp : Nat) (mx : Nat) (mfa : Nat) (mbi : Nat) (mod1 : Nat) (msc : Nat) (msb : Nat) (msu : Nat) (mwy : Nat) (mre : Nat) (mby : Nat) (msm : Nat) (mle : Nat) (mgr : Nat) (mth : Nat) (dir : Bool) (nv : Nat) (me : Nat) (mrn : Nat) (mst : Nat) (mhr : Bool) (mon : Nat) (X : Nat → Int) (z : Int) (hz : -2147483648 ≤ z ∧ z < 2147483648) (hme : me ≤ 40) (hok : 0 ≤ z ∧ z < (me : Int)) (hno : mhr = false) : Met l yX6_extra wsX6_extra ({ frames := 1, cells := 0, slots := 0, locals := 22 } : Room) (zWr D vwCl (zT cA) [(mo, .inr (6, [.int (nI mth), .int (zB dir), .int (nI nv), .int (nI me), .ref mf, .ref mt, .ref mw, .ref mr, .int (nI mrn), .ref mp, .int (nI mst), .int (zB mhr), .ref mx, .ref mfa, .ref mbi, .ref mod1, .int (nI mon), .ref msc, .ref msb, .ref msu, .ref mwy, .ref mre, .ref mby, .ref msm, .ref mle, .ref mgr])), (mx, aI cA 40 (fun j => iZ (X j)))] sz [.ref mo, .int (iZ z)]) (zQi D vwCl (zT cA) (va_A [(mo, .inr (6, [.int (nI mth), .int (zB dir), .int (nI nv), .int (nI me), .ref mf, .ref mt, .ref mw, .ref mr, .int (nI mrn), .ref mp, .int (nI mst), .int (zB mhr), .ref mx, .ref mfa, .ref mbi, .ref mod1, .int (nI mon), .ref msc, .ref msb, .ref msu, .ref mwy, .ref mre, .ref mby, .ref msm, .ref mle, .ref mgr])), (mx, aI cA 40 (fun j => iZ (X j)))] sz) [(mo, .inr (6, [.int (nI 2), .int (zB dir), .int (nI nv), .int (nI me), .ref mf, .ref mt, .ref mw, .ref mr, .int (nI mrn), .ref mp, .int (nI mst), .int (zB mhr), .ref mx, .ref mfa, .ref mbi, .ref mod1, .int (nI mon), .ref msc, .ref msb, .ref msu, .ref mwy, .ref mre, .ref mby, .ref msm, .ref mle, .ref mgr])), (mx, aI cA 40 (fun j => iZ (X j)))] (nI 0)) 0 0 (va_A [(mo, .inr (6, [.int (nI mth), .int (zB dir), .int (nI nv), .int (nI me), .ref mf, .ref mt, .ref mw, .ref mr, .int (nI mrn), .ref mp, .int (nI mst), .int (zB mhr), .ref mx, .ref mfa, .ref mbi, .ref mod1, .int (nI mon), .ref msc, .ref msb, .ref msu, .ref mwy, .ref mre, .ref mby, .ref msm, .ref mle, .ref mgr])), (mx, aI cA 40 (fun j => iZ (X j)))] sz) := by
  refine z_write (cc := cX6_extra) (maxL := 2) (ret := (some .int)) (by decide) rfl (Nat.le_of_ble_eq_true rfl) ?_
  intro p e s m below meth c hx hb hr hml hown hts hlocks A hAe hA H locs hP hK hD hS hini Q hQ ls hl
  have hown : s.vm.findClass RX6 = some m.cls := hown
  have hl : lv_has ls 2 [(0, .ref mo), (1, .int (iZ z))] := hl
  generalize hav : ([.ref mo, .int (iZ z)] : List Value).toArray = args at hts hQ ⊢
  have hin6 : ∀ w ∈ wsX60, w ∈ wsX6_extra := by decide +kernel
  refine lv_aload_n hx hb dX6_extra_0 rfl (lv_at hl 0 rfl) ?_
  refine lv_iload_n hx hb dX6_extra_1 rfl (lv_at hl 1 rfl) ?_
  refine z_ilt hx hb (x := z) (hz) (tgt := 13) dX6_extra_2 (by decide) (fun h2 => ?_) (fun h2 => ?_)
  · omega
  · skip
    refine lv_iload_n hx hb dX6_extra_5 rfl (lv_at hl 1 rfl) ?_
    refine lv_aload_n hx hb dX6_extra_6 rfl (lv_at hl 0 rfl) ?_
    refine va_get (D := D) (ci := 6) (v := .int (nI me)) (C := RX6) (T := TX6) (N := 26) hx hb hts hin6 hown hK hP 0 rfl rfl 3 (by decide) (hts (.fieldLink RX6 85 "TourHouseModel" "m" "I") (by decide +kernel)) (fun _ h9 => h9) rfl dX6_extra_7 ?_
    refine z_Ilt hx hb (x := z) (y := ((me : Nat) : Int)) (hz) (⟨by omega, by omega⟩) (tgt := 17) dX6_extra_10 (by decide) (fun h10 => ?_) (fun h10 => ?_)
    · skip
      refine lv_iconst (v := zB false) hx hb dX6_extra_17 (by decide) ?_
      refine lv_aload_n hx hb dX6_extra_18 rfl (lv_at hl 0 rfl) ?_
      refine va_get (D := D) (ci := 6) (v := .int (zB mhr)) (C := RX6) (T := TX6) (N := 26) hx hb hts hin6 hown hK hP 0 rfl rfl 11 (by decide) (hts (.fieldLink RX6 77 "TourHouseModel" "hasRound" "Z") (by decide +kernel)) (fun _ h9 => h9) rfl dX6_extra_19 ?_
      refine z_ifne hx hb (tgt := 29) dX6_extra_22 (by decide) (fun h22 => ?_) (fun h22 => ?_)
      · exact absurd (h22.symm.trans hno) (by decide)
      · skip
        refine lv_iconst (v := zB true) hx hb dX6_extra_25 (by decide) ?_
        refine lv_goto (tgt := 30) hx hb dX6_extra_26 (by decide) ?_
        refine z_cWVi (wc := [(mo, .inr (6, [.int (nI mth), .int (zB dir), .int (nI nv), .int (nI me), .ref mf, .ref mt, .ref mw, .ref mr, .int (nI mrn), .ref mp, .int (nI mst), .int (zB mhr), .ref mx, .ref mfa, .ref mbi, .ref mod1, .int (nI mon), .ref msc, .ref msb, .ref msu, .ref mwy, .ref mre, .ref mby, .ref msm, .ref mle, .ref mgr]))]) (rm := ({ frames := 0, cells := 0, slots := 0, locals := 0 } : Room)) (As := [.int (zB false), .int (zB true)]) (rest := []) (wr := [(mx, aI cA 40 (fun j => iZ (X j)))]) (w1 := [(mo, .inr (6, [.int (nI (mThr false true)), .int (zB dir), .int (nI nv), .int (nI me), .ref mf, .ref mt, .ref mw, .ref mr, .int (nI mrn), .ref mp, .int (nI mst), .int (zB mhr), .ref mx, .ref mfa, .ref mbi, .ref mod1, .int (nI mon), .ref msc, .ref msb, .ref msu, .ref mwy, .ref mre, .ref mby, .ref msm, .ref mle, .ref mgr]))]) (ws' := [(mo, .inr (6, [.int (nI (mThr false true)), .int (zB dir), .int (nI nv), .int (nI me), .ref mf, .ref mt, .ref mw, .ref mr, .int (nI mrn), .ref mp, .int (nI mst), .int (zB mhr), .ref mx, .ref mfa, .ref mbi, .ref mod1, .int (nI mon), .ref msc, .ref msb, .ref msu, .ref mwy, .ref mre, .ref mby, .ref msm, .ref mle, .ref mgr])), (mx, aI cA 40 (fun j => iZ (X j)))]) ⟨hx, hb, hml, hown, hts⟩ (c_X6_throwing l D cA H.size mo mf mt mw mr mp mx mfa mbi mod1 msc msb msu mwy mre mby msm mle mgr mth dir nv me mrn mst mhr mon false true ) (cwV 2 hts gX6_extra_X6_throwing rfl rfl rfl (by decide +kernel) ⟨Nat.le_of_ble_eq_true rfl, Nat.le_of_ble_eq_true rfl⟩) hP hK hD hS hA [0] [1] [1, 0] rfl rfl rfl rfl rfl (by decide) rfl rfl rfl 6 0 rfl rfl rfl hl.1 rfl (Nat.le_of_ble_eq_true rfl) ⟨Nat.zero_le _, Nat.zero_le _⟩ dX6_extra_30 (fun H locs hP hD hS => ?_)
        refine z_ifeq hx hb (tgt := 38) dX6_extra_33 (by decide) (fun h33 => ?_) (fun h33 => ?_)
        · cases h33
        · skip
          refine lv_iconst (v := nI 0) hx hb dX6_extra_36 (by decide) ?_
          exact z_iretW hx hb hr hlocks hAe hQ (hP) hK (hD) hS dX6_extra_37
    · omega
set_option maxHeartbeats 4000000 in
set_option maxRecDepth 100000 in
/-- Model.extra -/
theorem c_X6_extra_o (l : Launch) (D : va_G) (cA : Nat → ClassId) (sz : Nat) (mo : Nat) (mf : Nat) (mt : Nat) (mw : Nat) (mr : Nat) (mp : Nat) (mx : Nat) (mfa : Nat) (mbi : Nat) (mod1 : Nat) (msc : Nat) (msb : Nat) (msu : Nat) (mwy : Nat) (mre : Nat) (mby : Nat) (msm : Nat) (mle : Nat) (mgr : Nat) (mth : Nat) (dir : Bool) (nv : Nat) (me : Nat) (mrn : Nat) (mst : Nat) (mhr : Bool) (mon : Nat) (X : Nat → Int) (z : Int) (hz : -2147483648 ≤ z ∧ z < 2147483648) (hme : me ≤ 40) (hok : 0 ≤ z ∧ z < (me : Int)) (hyes : mhr = true) : Met l yX6_extra wsX6_extra ({ frames := 1, cells := 0, slots := 0, locals := 22 } : Room) (zWr D vwCl (zT cA) [(mo, .inr (6, [.int (nI mth), .int (zB dir), .int (nI nv), .int (nI me), .ref mf, .ref mt, .ref mw, .ref mr, .int (nI mrn), .ref mp, .int (nI mst), .int (zB mhr), .ref mx, .ref mfa, .ref mbi, .ref mod1, .int (nI mon), .ref msc, .ref msb, .ref msu, .ref mwy, .ref mre, .ref mby, .ref msm, .ref mle, .ref mgr])), (mx, aI cA 40 (fun j => iZ (X j)))] sz [.ref mo, .int (iZ z)]) (zQi D vwCl (zT cA) (va_A [(mo, .inr (6, [.int (nI mth), .int (zB dir), .int (nI nv), .int (nI me), .ref mf, .ref mt, .ref mw, .ref mr, .int (nI mrn), .ref mp, .int (nI mst), .int (zB mhr), .ref mx, .ref mfa, .ref mbi, .ref mod1, .int (nI mon), .ref msc, .ref msb, .ref msu, .ref mwy, .ref mre, .ref mby, .ref msm, .ref mle, .ref mgr])), (mx, aI cA 40 (fun j => iZ (X j)))] sz) [(mo, .inr (6, [.int (nI 0), .int (zB dir), .int (nI nv), .int (nI me), .ref mf, .ref mt, .ref mw, .ref mr, .int (nI mrn), .ref mp, .int (nI mst), .int (zB mhr), .ref mx, .ref mfa, .ref mbi, .ref mod1, .int (nI mon), .ref msc, .ref msb, .ref msu, .ref mwy, .ref mre, .ref mby, .ref msm, .ref mle, .ref mgr])), (mx, aI cA 40 (fun j => iZ (X j)))] (iZ (X z.toNat))) 0 0 (va_A [(mo, .inr (6, [.int (nI mth), .int (zB dir), .int (nI nv), .int (nI me), .ref mf, .ref mt, .ref mw, .ref mr, .int (nI mrn), .ref mp, .int (nI mst), .int (zB mhr), .ref mx, .ref mfa, .ref mbi, .ref mod1, .int (nI mon), .ref msc, .ref msb, .ref msu, .ref mwy, .ref mre, .ref mby, .ref msm, .ref mle, .ref mgr])), (mx, aI cA 40 (fun j => iZ (X j)))] sz) := by
  refine z_write (cc := cX6_extra) (maxL := 2) (ret := (some .int)) (by decide) rfl (Nat.le_of_ble_eq_true rfl) ?_
  intro p e s m below meth c hx hb hr hml hown hts hlocks A hAe hA H locs hP hK hD hS hini Q hQ ls hl
  have hown : s.vm.findClass RX6 = some m.cls := hown
  have hl : lv_has ls 2 [(0, .ref mo), (1, .int (iZ z))] := hl
  generalize hav : ([.ref mo, .int (iZ z)] : List Value).toArray = args at hts hQ ⊢
  have hin6 : ∀ w ∈ wsX60, w ∈ wsX6_extra := by decide +kernel
  refine lv_aload_n hx hb dX6_extra_0 rfl (lv_at hl 0 rfl) ?_
  refine lv_iload_n hx hb dX6_extra_1 rfl (lv_at hl 1 rfl) ?_
  refine z_ilt hx hb (x := z) (hz) (tgt := 13) dX6_extra_2 (by decide) (fun h2 => ?_) (fun h2 => ?_)
  · omega
  · skip
    refine lv_iload_n hx hb dX6_extra_5 rfl (lv_at hl 1 rfl) ?_
    refine lv_aload_n hx hb dX6_extra_6 rfl (lv_at hl 0 rfl) ?_
    refine va_get (D := D) (ci := 6) (v := .int (nI me)) (C := RX6) (T := TX6) (N := 26) hx hb hts hin6 hown hK hP 0 rfl rfl 3 (by decide) (hts (.fieldLink RX6 85 "TourHouseModel" "m" "I") (by decide +kernel)) (fun _ h9 => h9) rfl dX6_extra_7 ?_
    refine z_Ilt hx hb (x := z) (y := ((me : Nat) : Int)) (hz) (⟨by omega, by omega⟩) (tgt := 17) dX6_extra_10 (by decide) (fun h10 => ?_) (fun h10 => ?_)
    · skip
      refine lv_iconst (v := zB false) hx hb dX6_extra_17 (by decide) ?_
      refine lv_aload_n hx hb dX6_extra_18 rfl (lv_at hl 0 rfl) ?_
      refine va_get (D := D) (ci := 6) (v := .int (zB mhr)) (C := RX6) (T := TX6) (N := 26) hx hb hts hin6 hown hK hP 0 rfl rfl 11 (by decide) (hts (.fieldLink RX6 77 "TourHouseModel" "hasRound" "Z") (by decide +kernel)) (fun _ h9 => h9) rfl dX6_extra_19 ?_
      refine z_ifne hx hb (tgt := 29) dX6_extra_22 (by decide) (fun h22 => ?_) (fun h22 => ?_)
      · skip
        refine lv_iconst (v := zB false) hx hb dX6_extra_29 (by decide) ?_
        refine z_cWVi (wc := [(mo, .inr (6, [.int (nI mth), .int (zB dir), .int (nI nv), .int (nI me), .ref mf, .ref mt, .ref mw, .ref mr, .int (nI mrn), .ref mp, .int (nI mst), .int (zB mhr), .ref mx, .ref mfa, .ref mbi, .ref mod1, .int (nI mon), .ref msc, .ref msb, .ref msu, .ref mwy, .ref mre, .ref mby, .ref msm, .ref mle, .ref mgr]))]) (rm := ({ frames := 0, cells := 0, slots := 0, locals := 0 } : Room)) (As := [.int (zB false), .int (zB false)]) (rest := []) (wr := [(mx, aI cA 40 (fun j => iZ (X j)))]) (w1 := [(mo, .inr (6, [.int (nI (mThr false false)), .int (zB dir), .int (nI nv), .int (nI me), .ref mf, .ref mt, .ref mw, .ref mr, .int (nI mrn), .ref mp, .int (nI mst), .int (zB mhr), .ref mx, .ref mfa, .ref mbi, .ref mod1, .int (nI mon), .ref msc, .ref msb, .ref msu, .ref mwy, .ref mre, .ref mby, .ref msm, .ref mle, .ref mgr]))]) (ws' := [(mo, .inr (6, [.int (nI (mThr false false)), .int (zB dir), .int (nI nv), .int (nI me), .ref mf, .ref mt, .ref mw, .ref mr, .int (nI mrn), .ref mp, .int (nI mst), .int (zB mhr), .ref mx, .ref mfa, .ref mbi, .ref mod1, .int (nI mon), .ref msc, .ref msb, .ref msu, .ref mwy, .ref mre, .ref mby, .ref msm, .ref mle, .ref mgr])), (mx, aI cA 40 (fun j => iZ (X j)))]) ⟨hx, hb, hml, hown, hts⟩ (c_X6_throwing l D cA H.size mo mf mt mw mr mp mx mfa mbi mod1 msc msb msu mwy mre mby msm mle mgr mth dir nv me mrn mst mhr mon false false ) (cwV 2 hts gX6_extra_X6_throwing rfl rfl rfl (by decide +kernel) ⟨Nat.le_of_ble_eq_true rfl, Nat.le_of_ble_eq_true rfl⟩) hP hK hD hS hA [0] [1] [1, 0] rfl rfl rfl rfl rfl (by decide) rfl rfl rfl 6 0 rfl rfl rfl hl.1 rfl (Nat.le_of_ble_eq_true rfl) ⟨Nat.zero_le _, Nat.zero_le _⟩ dX6_extra_30 (fun H locs hP hD hS => ?_)
        refine z_ifeq hx hb (tgt := 38) dX6_extra_33 (by decide) (fun h33 => ?_) (fun h33 => ?_)
        · skip
          refine lv_aload_n hx hb dX6_extra_38 rfl (lv_at hl 0 rfl) ?_
          refine va_get (D := D) (ci := 6) (v := .ref mx) (C := RX6) (T := TX6) (N := 26) hx hb hts hin6 hown hK hP 0 rfl rfl 12 (by decide) (hts (.fieldLink RX6 29 "TourHouseModel" "extra" "[I") (by decide +kernel)) (fun _ h9 => h9) rfl dX6_extra_39 ?_
          refine lv_iload_n hx hb dX6_extra_42 rfl (lv_at hl 1 rfl) ?_
          refine z_topi (v := nI z.toNat) (iZ_toNat (by omega)) ?_
          refine z_iald hx hb hK hP 1 0 rfl rfl (k := z.toNat) (by omega) (by decide) (v := iZ (X z.toNat)) rfl dX6_extra_43 ?_
          exact z_iretW hx hb hr hlocks hAe hQ (hP) hK (hD) hS dX6_extra_44
        · cases h33
      · exact absurd (h22.symm.trans hyes) (by decide)
    · omega
