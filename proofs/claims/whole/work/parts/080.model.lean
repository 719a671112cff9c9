def mThr (a b : Bool) : Nat := if a = true then 1 else if b = true then 2 else 0
theorem mThr_lt (a b : Bool) : mThr a b < 2 ^ 31 := by cases a <;> cases b <;> decide
theorem mThr_pos (a b : Bool) : 0 < mThr a b ↔ (a || b) = true := by cases a <;> cases b <;> decide
def mBal (dir : Bool) (Fr To : Nat → Nat) (v : Nat) : Nat → Int
  | 0 => 0
  | k + 1 => mBal dir Fr To v k + (if To k = v then 1 else 0) + (if Fr k = v then (if dir = true then -1 else 1) else 0)
theorem mBal_rng (dir : Bool) (Fr To : Nat → Nat) (v : Nat) : ∀ k : Nat, -(2 * k : Int) ≤ mBal dir Fr To v k ∧ mBal dir Fr To v k ≤ 2 * k
  | 0 => by simp [mBal]
  | k + 1 => by
    have h := mBal_rng dir Fr To v k
    simp only [mBal]
    split <;> split <;> (try split) <;> omega
theorem tmod2_rng (z : Int) : -2 < Int.tmod z 2 ∧ Int.tmod z 2 < 2 := ⟨Int.lt_tmod_of_pos z (by decide), Int.tmod_lt_of_pos z (by decide)⟩
theorem nb_rem2 {z : Int} (h1 : -1000000 ≤ z) (h2 : z ≤ 1000000) : iZ z - iZ z / nI 2 * nI 2 = iZ (Int.tmod z 2) := by
  have h3 : -1000000 ≤ z.tdiv 2 ∧ z.tdiv 2 ≤ 1000000 := by
    have e := Int.tmod_add_mul_tdiv z 2
    have := tmod2_rng z
    omega
  have e1 : iZ z / nI 2 = iZ (z.tdiv 2) := by
    apply Int32.toInt_inj.mp
    rw [Int32.toInt_div, iZ_toInt (by omega) (by omega), nI_toInt (by decide), iZ_toInt (by omega) (by omega)]
    rw [show ((2 : Nat) : Int) = 2 from rfl]
    exact Int.bmod_eq_of_le (by omega) (by omega)
  rw [e1, show nI 2 = iZ 2 from rfl, iZ_mul, iZ_sub]
  congr 1
  have e := Int.tmod_add_mul_tdiv z 2
  omega
def mOdd (dir : Bool) (Fr To : Nat → Nat) (me v : Nat) : Bool := if dir = true then decide (mBal dir Fr To v me ≠ 0) else decide (Int.tmod (mBal dir Fr To v me) 2 ≠ 0)
def mCnt (dir : Bool) (Fr To : Nat → Nat) (me : Nat) : Nat → Nat
  | 0 => 0
  | k + 1 => mCnt dir Fr To me k + (if mOdd dir Fr To me k = true then 1 else 0)
def mHas (Fr To : Nat → Nat) (v : Nat) : Nat → Bool
  | 0 => false
  | k + 1 => mHas Fr To v k || (decide (Fr k = v) || decide (To k = v))
def mGo (dir : Bool) (Fr To : Nat → Nat) (me v : Nat) (z : Int) : Int :=
  if z < 0 ∨ 2 * (me : Int) ≤ z then -1
  else if z.toNat % 2 = 0 then (if Fr (z.toNat / 2) = v then ((To (z.toNat / 2) : Nat) : Int) else -1)
  else if dir = false ∧ Fr (z.toNat / 2) ≠ To (z.toNat / 2) ∧ To (z.toNat / 2) = v then ((Fr (z.toNat / 2) : Nat) : Int) else -1
set_option maxHeartbeats 4000000 in
set_option maxRecDepth 100000 in
/-- Model.thrown -/
theorem c_X6_thrown (l : Launch) (D : va_G) (cA : Nat → ClassId) (mo : Nat) (mf : Nat) (mt : Nat) (mw : Nat) (mr : Nat) (mp : Nat) (mx : Nat) (mfa : Nat) (mbi : Nat) (mod1 : Nat) (msc : Nat) (msb : Nat) (msu : Nat) (mwy : Nat) (mre : Nat) (mby : Nat) (msm : Nat) (mle : Nat) (mgr : Nat) (mth : Nat) (dir : Bool) (nv : Nat) (me : Nat) (mrn : Nat) (mst : Nat) (mhr : Bool) (mon : Nat)  : Met l yX6_thrown wsX6_thrown ({ frames := 0, cells := 0, slots := 0, locals := 0 } : Room) (zRd D vwCl (zT cA) [(mo, .inr (6, [.int (nI mth), .int (zB dir), .int (nI nv), .int (nI me), .ref mf, .ref mt, .ref mw, .ref mr, .int (nI mrn), .ref mp, .int (nI mst), .int (zB mhr), .ref mx, .ref mfa, .ref mbi, .ref mod1, .int (nI mon), .ref msc, .ref msb, .ref msu, .ref mwy, .ref mre, .ref mby, .ref msm, .ref mle, .ref mgr]))] [.ref mo]) (vp_Si (fun r => r = nI mth)) 0 0 (fun _ => False) := by
  refine z_read (cc := cX6_thrown) (maxL := 1) (ret := (some .int)) (by decide) rfl (Nat.le_of_ble_eq_true rfl) ?_
  intro p e s m below meth c hx hb hr hml hown hts hlocks hP hK Q hQ ls hl
  have hown : s.vm.findClass RX6 = some m.cls := hown
  have hl : lv_has ls 1 [(0, .ref mo)] := hl
  generalize hav : ([.ref mo] : List Value).toArray = args at hts hQ ⊢
  have hin6 : ∀ w ∈ wsX60, w ∈ wsX6_thrown := by decide +kernel
  refine lv_aload_n hx hb dX6_thrown_0 rfl (lv_at hl 0 rfl) ?_
  refine va_get (D := D) (ci := 6) (v := .int (nI mth)) (C := RX6) (T := TX6) (N := 26) hx hb hts hin6 hown hK hP 0 rfl rfl 0 (by decide) (hts (.fieldLink RX6 71 "TourHouseModel" "thrown" "I") (by decide +kernel)) (fun _ h9 => h9) rfl dX6_thrown_1 ?_
  exact z_iretR hx hb hr hlocks hQ (rfl) dX6_thrown_4 rfl rfl
set_option maxHeartbeats 4000000 in
set_option maxRecDepth 100000 in
/-- Model.throwing -/
theorem c_X6_throwing (l : Launch) (D : va_G) (cA : Nat → ClassId) (sz : Nat) (mo : Nat) (mf : Nat) (mt : Nat) (mw : Nat) (mr : Nat) (mp : Nat) (mx : Nat) (mfa : Nat) (mbi : Nat) (mod1 : Nat) (msc : Nat) (msb : Nat) (msu : Nat) (mwy : Nat) (mre : Nat) (mby : Nat) (msm : Nat) (mle : Nat) (mgr : Nat) (mth : Nat) (dir : Bool) (nv : Nat) (me : Nat) (mrn : Nat) (mst : Nat) (mhr : Bool) (mon : Nat) (o1 : Bool) (o2 : Bool)  : Met l yX6_throwing wsX6_throwing ({ frames := 0, cells := 0, slots := 0, locals := 0 } : Room) (zWr D vwCl (zT cA) [(mo, .inr (6, [.int (nI mth), .int (zB dir), .int (nI nv), .int (nI me), .ref mf, .ref mt, .ref mw, .ref mr, .int (nI mrn), .ref mp, .int (nI mst), .int (zB mhr), .ref mx, .ref mfa, .ref mbi, .ref mod1, .int (nI mon), .ref msc, .ref msb, .ref msu, .ref mwy, .ref mre, .ref mby, .ref msm, .ref mle, .ref mgr]))] sz [.ref mo, .int (zB o1), .int (zB o2)]) (zQi D vwCl (zT cA) (va_A [(mo, .inr (6, [.int (nI mth), .int (zB dir), .int (nI nv), .int (nI me), .ref mf, .ref mt, .ref mw, .ref mr, .int (nI mrn), .ref mp, .int (nI mst), .int (zB mhr), .ref mx, .ref mfa, .ref mbi, .ref mod1, .int (nI mon), .ref msc, .ref msb, .ref msu, .ref mwy, .ref mre, .ref mby, .ref msm, .ref mle, .ref mgr]))] sz) [(mo, .inr (6, [.int (nI (mThr o1 o2)), .int (zB dir), .int (nI nv), .int (nI me), .ref mf, .ref mt, .ref mw, .ref mr, .int (nI mrn), .ref mp, .int (nI mst), .int (zB mhr), .ref mx, .ref mfa, .ref mbi, .ref mod1, .int (nI mon), .ref msc, .ref msb, .ref msu, .ref mwy, .ref mre, .ref mby, .ref msm, .ref mle, .ref mgr]))] (zB (o1 || o2))) 0 0 (va_A [(mo, .inr (6, [.int (nI mth), .int (zB dir), .int (nI nv), .int (nI me), .ref mf, .ref mt, .ref mw, .ref mr, .int (nI mrn), .ref mp, .int (nI mst), .int (zB mhr), .ref mx, .ref mfa, .ref mbi, .ref mod1, .int (nI mon), .ref msc, .ref msb, .ref msu, .ref mwy, .ref mre, .ref mby, .ref msm, .ref mle, .ref mgr]))] sz) := by
  refine z_write (cc := cX6_throwing) (maxL := 3) (ret := (some .boolean)) (by decide) rfl (Nat.le_of_ble_eq_true rfl) ?_
  intro p e s m below meth c hx hb hr hml hown hts hlocks A hAe hA H locs hP hK hD hS hini Q hQ ls hl
  have hown : s.vm.findClass RX6 = some m.cls := hown
  have hl : lv_has ls 3 [(0, .ref mo), (1, .int (zB o1)), (2, .int (zB o2))] := hl
  generalize hav : ([.ref mo, .int (zB o1), .int (zB o2)] : List Value).toArray = args at hts hQ ⊢
  have hin6 : ∀ w ∈ wsX60, w ∈ wsX6_throwing := by decide +kernel
  refine lv_aload_n hx hb dX6_throwing_0 rfl (lv_at hl 0 rfl) ?_
  refine lv_iload_n hx hb dX6_throwing_1 rfl (lv_at hl 1 rfl) ?_
  have J18 : ∀ (H : Heap) (locs : List Loc), va_P D vwCl [(mo, .inr (6, [.int (nI mth), .int (zB dir), .int (nI nv), .int (nI me), .ref mf, .ref mt, .ref mw, .ref mr, .int (nI mrn), .ref mp, .int (nI mst), .int (zB mhr), .ref mx, .ref mfa, .ref mbi, .ref mod1, .int (nI mon), .ref msc, .ref msb, .ref msu, .ref mwy, .ref mre, .ref mby, .ref msm, .ref mle, .ref mgr]))] H → va_D A [(mo, .inr (6, [.int (nI mth), .int (zB dir), .int (nI nv), .int (nI me), .ref mf, .ref mt, .ref mw, .ref mr, .int (nI mrn), .ref mp, .int (nI mst), .int (zB mhr), .ref mx, .ref mfa, .ref mbi, .ref mod1, .int (nI mon), .ref msc, .ref msb, .ref msu, .ref mwy, .ref mre, .ref mby, .ref msm, .ref mle, .ref mgr]))] → va_S A s.heap H locs → ∀ (ls : Array Slot), lv_has ls 3 [(0, .ref mo)] → W p l e ({ frames := 0, cells := 0, slots := 0, locals := 0 } : Room) s m args below meth c H locs 0 0 Q (F0 m 18 ls [.int (nI (mThr o1 o2)), .ref mo]) := by
    intro   H locs hP hD hS ls hl
    refine va_put (D := D) (ci := 6) (v := .int (nI (mThr o1 o2))) (ty := .int) (C := RX6) (T := TX6) (N := 26) hx hb hts hin6 tyX6 tyX6_ok nmX6 hown hK hP hD hS 0 rfl rfl 0 (by decide) (hts (.fieldLink RX6 71 "TourHouseModel" "thrown" "I") (by decide +kernel)) (fun _ h9 => h9) rfl (by decide +kernel) (rfl) (rfl) (Nat.le_of_ble_eq_true rfl) dX6_throwing_18 (fun H locs hP hD hS => ?_)
    have hP : va_P D vwCl [(mo, .inr (6, [.int (nI (mThr o1 o2)), .int (zB dir), .int (nI nv), .int (nI me), .ref mf, .ref mt, .ref mw, .ref mr, .int (nI mrn), .ref mp, .int (nI mst), .int (zB mhr), .ref mx, .ref mfa, .ref mbi, .ref mod1, .int (nI mon), .ref msc, .ref msb, .ref msu, .ref mwy, .ref mre, .ref mby, .ref msm, .ref mle, .ref mgr]))] H := hP
    have hD : va_D A [(mo, .inr (6, [.int (nI (mThr o1 o2)), .int (zB dir), .int (nI nv), .int (nI me), .ref mf, .ref mt, .ref mw, .ref mr, .int (nI mrn), .ref mp, .int (nI mst), .int (zB mhr), .ref mx, .ref mfa, .ref mbi, .ref mod1, .int (nI mon), .ref msc, .ref msb, .ref msu, .ref mwy, .ref mre, .ref mby, .ref msm, .ref mle, .ref mgr]))] := hD
    refine lv_aload_n hx hb dX6_throwing_21 rfl (lv_at hl 0 rfl) ?_
    refine va_get (D := D) (ci := 6) (v := .int (nI (mThr o1 o2))) (C := RX6) (T := TX6) (N := 26) hx hb hts hin6 hown hK hP 0 rfl rfl 0 (by decide) (hts (.fieldLink RX6 71 "TourHouseModel" "thrown" "I") (by decide +kernel)) (fun _ h9 => h9) rfl dX6_throwing_22 ?_
    refine z_nle hx hb (mThr_lt _ _) (tgt := 32) dX6_throwing_25 (by decide) (fun h25 => ?_) (fun h25 => ?_)
    · skip
      refine lv_iconst (v := zB false) hx hb dX6_throwing_32 (by decide) ?_
      refine z_topi (v := zB (o1 || o2)) (by congr 1; have := mThr_pos o1 o2; cases q : (o1 || o2) <;> simp_all <;> omega) ?_
      exact z_zretW hx hb hr hlocks hAe hQ (hP) hK (hD) hS dX6_throwing_33
    · skip
      refine lv_iconst (v := zB true) hx hb dX6_throwing_28 (by decide) ?_
      refine lv_goto (tgt := 33) hx hb dX6_throwing_29 (by decide) ?_
      refine z_topi (v := zB (o1 || o2)) (by congr 1; have := mThr_pos o1 o2; cases q : (o1 || o2) <;> simp_all <;> omega) ?_
      exact z_zretW hx hb hr hlocks hAe hQ (hP) hK (hD) hS dX6_throwing_33
  refine z_ifeq hx hb (tgt := 9) dX6_throwing_2 (by decide) (fun h2 => ?_) (fun h2 => ?_)
  · skip
    refine lv_iload_n hx hb dX6_throwing_9 rfl (lv_at hl 2 rfl) ?_
    refine z_ifeq hx hb (tgt := 17) dX6_throwing_10 (by decide) (fun h10 => ?_) (fun h10 => ?_)
    · skip
      refine lv_iconst (v := nI 0) hx hb dX6_throwing_17 (by decide) ?_
      refine z_topi (v := nI (mThr o1 o2)) (by congr 1; simp [mThr, *]) ?_
      exact J18   _ _ (hP) (hD) hS ls (lv_sub hl [0] (by rfl))
    · skip
      refine lv_iconst (v := nI 2) hx hb dX6_throwing_13 (by decide) ?_
      refine lv_goto (tgt := 18) hx hb dX6_throwing_14 (by decide) ?_
      refine z_topi (v := nI (mThr o1 o2)) (by congr 1; simp [mThr, *]) ?_
      exact J18   _ _ (hP) (hD) hS ls (lv_sub hl [0] (by rfl))
  · skip
    refine lv_iconst (v := nI 1) hx hb dX6_throwing_5 (by decide) ?_
    refine lv_goto (tgt := 18) hx hb dX6_throwing_6 (by decide) ?_
    refine z_topi (v := nI (mThr o1 o2)) (by congr 1; simp [mThr, *]) ?_
    exact J18   _ _ (hP) (hD) hS ls (lv_sub hl [0] (by rfl))
set_option maxHeartbeats 4000000 in
set_option maxRecDepth 100000 in
/-- Model.isVertex -/
theorem c_X6_isVertex (l : Launch) (D : va_G) (cA : Nat → ClassId) (mo : Nat) (mf : Nat) (mt : Nat) (mw : Nat) (mr : Nat) (mp : Nat) (mx : Nat) (mfa : Nat) (mbi : Nat) (mod1 : Nat) (msc : Nat) (msb : Nat) (msu : Nat) (mwy : Nat) (mre : Nat) (mby : Nat) (msm : Nat) (mle : Nat) (mgr : Nat) (mth : Nat) (dir : Bool) (nv : Nat) (me : Nat) (mrn : Nat) (mst : Nat) (mhr : Bool) (mon : Nat) (z : Int) (hz : -2147483648 ≤ z ∧ z < 2147483648) (hnv : nv ≤ 16) : Met l yX6_isVertex wsX6_isVertex ({ frames := 0, cells := 0, slots := 0, locals := 0 } : Room) (zRd D vwCl (zT cA) [(mo, .inr (6, [.int (nI mth), .int (zB dir), .int (nI nv), .int (nI me), .ref mf, .ref mt, .ref mw, .ref mr, .int (nI mrn), .ref mp, .int (nI mst), .int (zB mhr), .ref mx, .ref mfa, .ref mbi, .ref mod1, .int (nI mon), .ref msc, .ref msb, .ref msu, .ref mwy, .ref mre, .ref mby, .ref msm, .ref mle, .ref mgr]))] [.ref mo, .int (iZ z)]) (vp_Si (fun r => r = zB (decide (0 ≤ z ∧ z < (nv : Int))))) 0 0 (fun _ => False) := by
  refine z_read (cc := cX6_isVertex) (maxL := 2) (ret := (some .boolean)) (by decide) rfl (Nat.le_of_ble_eq_true rfl) ?_
  intro p e s m below meth c hx hb hr hml hown hts hlocks hP hK Q hQ ls hl
  have hown : s.vm.findClass RX6 = some m.cls := hown
  have hl : lv_has ls 2 [(0, .ref mo), (1, .int (iZ z))] := hl
  generalize hav : ([.ref mo, .int (iZ z)] : List Value).toArray = args at hts hQ ⊢
  have hin6 : ∀ w ∈ wsX60, w ∈ wsX6_isVertex := by decide +kernel
  refine lv_iload_n hx hb dX6_isVertex_0 rfl (lv_at hl 1 rfl) ?_
  refine z_ilt hx hb (x := z) (hz) (tgt := 16) dX6_isVertex_1 (by decide) (fun h1 => ?_) (fun h1 => ?_)
  · skip
    refine lv_iconst (v := zB false) hx hb dX6_isVertex_16 (by decide) ?_
    exact z_zretR hx hb hr hlocks hQ (by congr 1; symm; first | (rw [decide_eq_true_eq]; omega) | (rw [decide_eq_false_iff_not]; omega)) dX6_isVertex_17 rfl rfl
  · skip
    refine lv_iload_n hx hb dX6_isVertex_4 rfl (lv_at hl 1 rfl) ?_
    refine lv_aload_n hx hb dX6_isVertex_5 rfl (lv_at hl 0 rfl) ?_
    refine va_get (D := D) (ci := 6) (v := .int (nI nv)) (C := RX6) (T := TX6) (N := 26) hx hb hts hin6 hown hK hP 0 rfl rfl 2 (by decide) (hts (.fieldLink RX6 7 "TourHouseModel" "n" "I") (by decide +kernel)) (fun _ h9 => h9) rfl dX6_isVertex_6 ?_
    refine z_Ige hx hb (x := z) (y := ((nv : Nat) : Int)) (⟨by omega, by omega⟩) (⟨by omega, by omega⟩) (tgt := 16) dX6_isVertex_9 (by decide) (fun h9 => ?_) (fun h9 => ?_)
    · skip
      refine lv_iconst (v := zB false) hx hb dX6_isVertex_16 (by decide) ?_
      exact z_zretR hx hb hr hlocks hQ (by congr 1; symm; first | (rw [decide_eq_true_eq]; omega) | (rw [decide_eq_false_iff_not]; omega)) dX6_isVertex_17 rfl rfl
    · skip
      refine lv_iconst (v := zB true) hx hb dX6_isVertex_12 (by decide) ?_
      refine lv_goto (tgt := 17) hx hb dX6_isVertex_13 (by decide) ?_
      exact z_zretR hx hb hr hlocks hQ (by congr 1; symm; first | (rw [decide_eq_true_eq]; omega) | (rw [decide_eq_false_iff_not]; omega)) dX6_isVertex_17 rfl rfl
set_option maxHeartbeats 4000000 in
set_option maxRecDepth 100000 in
/-- Model.change -/
theorem c_X6_change (l : Launch) (D : va_G) (cA : Nat → ClassId) (sz : Nat) (mo : Nat) (mf : Nat) (mt : Nat) (mw : Nat) (mr : Nat) (mp : Nat) (mx : Nat) (mfa : Nat) (mbi : Nat) (mod1 : Nat) (msc : Nat) (msb : Nat) (msu : Nat) (mwy : Nat) (mre : Nat) (mby : Nat) (msm : Nat) (mle : Nat) (mgr : Nat) (mth : Nat) (dir : Bool) (nv : Nat) (me : Nat) (mrn : Nat) (mst : Nat) (mhr : Bool) (mon : Nat)  : Met l yX6_change wsX6_change ({ frames := 0, cells := 0, slots := 0, locals := 0 } : Room) (zWr D vwCl (zT cA) [(mo, .inr (6, [.int (nI mth), .int (zB dir), .int (nI nv), .int (nI me), .ref mf, .ref mt, .ref mw, .ref mr, .int (nI mrn), .ref mp, .int (nI mst), .int (zB mhr), .ref mx, .ref mfa, .ref mbi, .ref mod1, .int (nI mon), .ref msc, .ref msb, .ref msu, .ref mwy, .ref mre, .ref mby, .ref msm, .ref mle, .ref mgr]))] sz [.ref mo]) (zQv D vwCl (zT cA) (va_A [(mo, .inr (6, [.int (nI mth), .int (zB dir), .int (nI nv), .int (nI me), .ref mf, .ref mt, .ref mw, .ref mr, .int (nI mrn), .ref mp, .int (nI mst), .int (zB mhr), .ref mx, .ref mfa, .ref mbi, .ref mod1, .int (nI mon), .ref msc, .ref msb, .ref msu, .ref mwy, .ref mre, .ref mby, .ref msm, .ref mle, .ref mgr]))] sz) [(mo, .inr (6, [.int (nI mth), .int (zB dir), .int (nI nv), .int (nI me), .ref mf, .ref mt, .ref mw, .ref mr, .int (nI 0), .ref mp, .int (nI mst), .int (zB false), .ref mx, .ref mfa, .ref mbi, .ref mod1, .int (nI mon), .ref msc, .ref msb, .ref msu, .ref mwy, .ref mre, .ref mby, .ref msm, .ref mle, .ref mgr]))]) 0 0 (va_A [(mo, .inr (6, [.int (nI mth), .int (zB dir), .int (nI nv), .int (nI me), .ref mf, .ref mt, .ref mw, .ref mr, .int (nI mrn), .ref mp, .int (nI mst), .int (zB mhr), .ref mx, .ref mfa, .ref mbi, .ref mod1, .int (nI mon), .ref msc, .ref msb, .ref msu, .ref mwy, .ref mre, .ref mby, .ref msm, .ref mle, .ref mgr]))] sz) := by
  refine z_write (cc := cX6_change) (maxL := 1) (ret := none) (by decide) rfl (Nat.le_of_ble_eq_true rfl) ?_
  intro p e s m below meth c hx hb hr hml hown hts hlocks A hAe hA H locs hP hK hD hS hini Q hQ ls hl
  have hown : s.vm.findClass RX6 = some m.cls := hown
  have hl : lv_has ls 1 [(0, .ref mo)] := hl
  generalize hav : ([.ref mo] : List Value).toArray = args at hts hQ ⊢
  have hin6 : ∀ w ∈ wsX60, w ∈ wsX6_change := by decide +kernel
  refine lv_aload_n hx hb dX6_change_0 rfl (lv_at hl 0 rfl) ?_
  refine lv_iconst (v := nI 0) hx hb dX6_change_1 (by decide) ?_
  refine va_put (D := D) (ci := 6) (v := .int (nI 0)) (ty := .int) (C := RX6) (T := TX6) (N := 26) hx hb hts hin6 tyX6 tyX6_ok nmX6 hown hK hP hD hS 0 rfl rfl 8 (by decide) (hts (.fieldLink RX6 74 "TourHouseModel" "rows" "I") (by decide +kernel)) (fun _ h9 => h9) rfl (by decide +kernel) (rfl) (rfl) (Nat.le_of_ble_eq_true rfl) dX6_change_2 (fun H locs hP hD hS => ?_)
  have hP : va_P D vwCl [(mo, .inr (6, [.int (nI mth), .int (zB dir), .int (nI nv), .int (nI me), .ref mf, .ref mt, .ref mw, .ref mr, .int (nI 0), .ref mp, .int (nI mst), .int (zB mhr), .ref mx, .ref mfa, .ref mbi, .ref mod1, .int (nI mon), .ref msc, .ref msb, .ref msu, .ref mwy, .ref mre, .ref mby, .ref msm, .ref mle, .ref mgr]))] H := hP
  have hD : va_D A [(mo, .inr (6, [.int (nI mth), .int (zB dir), .int (nI nv), .int (nI me), .ref mf, .ref mt, .ref mw, .ref mr, .int (nI 0), .ref mp, .int (nI mst), .int (zB mhr), .ref mx, .ref mfa, .ref mbi, .ref mod1, .int (nI mon), .ref msc, .ref msb, .ref msu, .ref mwy, .ref mre, .ref mby, .ref msm, .ref mle, .ref mgr]))] := hD
  refine lv_aload_n hx hb dX6_change_5 rfl (lv_at hl 0 rfl) ?_
  refine lv_iconst (v := zB false) hx hb dX6_change_6 (by decide) ?_
  refine va_put (D := D) (ci := 6) (v := .int (zB false)) (ty := .boolean) (C := RX6) (T := TX6) (N := 26) hx hb hts hin6 tyX6 tyX6_ok nmX6 hown hK hP hD hS 0 rfl rfl 11 (by decide) (hts (.fieldLink RX6 77 "TourHouseModel" "hasRound" "Z") (by decide +kernel)) (fun _ h9 => h9) rfl (by decide +kernel) (zB_nar _) (zB_fits _) (Nat.le_of_ble_eq_true rfl) dX6_change_7 (fun H locs hP hD hS => ?_)
  have hP : va_P D vwCl [(mo, .inr (6, [.int (nI mth), .int (zB dir), .int (nI nv), .int (nI me), .ref mf, .ref mt, .ref mw, .ref mr, .int (nI 0), .ref mp, .int (nI mst), .int (zB false), .ref mx, .ref mfa, .ref mbi, .ref mod1, .int (nI mon), .ref msc, .ref msb, .ref msu, .ref mwy, .ref mre, .ref mby, .ref msm, .ref mle, .ref mgr]))] H := hP
  have hD : va_D A [(mo, .inr (6, [.int (nI mth), .int (zB dir), .int (nI nv), .int (nI me), .ref mf, .ref mt, .ref mw, .ref mr, .int (nI 0), .ref mp, .int (nI mst), .int (zB false), .ref mx, .ref mfa, .ref mbi, .ref mod1, .int (nI mon), .ref msc, .ref msb, .ref msu, .ref mwy, .ref mre, .ref mby, .ref msm, .ref mle, .ref mgr]))] := hD
  exact z_vretW hx hb hr hlocks hAe hQ (hP) hK (hD) hS dX6_change_10
set_option maxHeartbeats 4000000 in
set_option maxRecDepth 100000 in
/-- Model.reset, refused -/
theorem c_X6_reset_b (l : Launch) (D : va_G) (cA : Nat → ClassId) (sz : Nat) (mo : Nat) (mf : Nat) (mt : Nat) (mw : Nat) (mr : Nat) (mp : Nat) (mx : Nat) (mfa : Nat) (mbi : Nat) (mod1 : Nat) (msc : Nat) (msb : Nat) (msu : Nat) (mwy : Nat) (mre : Nat) (mby : Nat) (msm : Nat) (mle : Nat) (mgr : Nat) (mth : Nat) (dir : Bool) (nv : Nat) (me : Nat) (mrn : Nat) (mst : Nat) (mhr : Bool) (mon : Nat) (d2 : Bool) (z : Int) (hz : -2147483648 ≤ z ∧ z < 2147483648) (hbad : z < 1 ∨ 16 < z) : Met l yX6_reset wsX6_reset ({ frames := 1, cells := 0, slots := 0, locals := 22 } : Room) (zWr D vwCl (zT cA) [(mo, .inr (6, [.int (nI mth), .int (zB dir), .int (nI nv), .int (nI me), .ref mf, .ref mt, .ref mw, .ref mr, .int (nI mrn), .ref mp, .int (nI mst), .int (zB mhr), .ref mx, .ref mfa, .ref mbi, .ref mod1, .int (nI mon), .ref msc, .ref msb, .ref msu, .ref mwy, .ref mre, .ref mby, .ref msm, .ref mle, .ref mgr]))] sz [.ref mo, .int (zB d2), .int (iZ z)]) (zQi D vwCl (zT cA) (va_A [(mo, .inr (6, [.int (nI mth), .int (zB dir), .int (nI nv), .int (nI me), .ref mf, .ref mt, .ref mw, .ref mr, .int (nI mrn), .ref mp, .int (nI mst), .int (zB mhr), .ref mx, .ref mfa, .ref mbi, .ref mod1, .int (nI mon), .ref msc, .ref msb, .ref msu, .ref mwy, .ref mre, .ref mby, .ref msm, .ref mle, .ref mgr]))] sz) [(mo, .inr (6, [.int (nI 1), .int (zB dir), .int (nI nv), .int (nI me), .ref mf, .ref mt, .ref mw, .ref mr, .int (nI mrn), .ref mp, .int (nI mst), .int (zB mhr), .ref mx, .ref mfa, .ref mbi, .ref mod1, .int (nI mon), .ref msc, .ref msb, .ref msu, .ref mwy, .ref mre, .ref mby, .ref msm, .ref mle, .ref mgr]))] (nI 0)) 0 0 (va_A [(mo, .inr (6, [.int (nI mth), .int (zB dir), .int (nI nv), .int (nI me), .ref mf, .ref mt, .ref mw, .ref mr, .int (nI mrn), .ref mp, .int (nI mst), .int (zB mhr), .ref mx, .ref mfa, .ref mbi, .ref mod1, .int (nI mon), .ref msc, .ref msb, .ref msu, .ref mwy, .ref mre, .ref mby, .ref msm, .ref mle, .ref mgr]))] sz) := by
  refine z_write (cc := cX6_reset) (maxL := 4) (ret := (some .int)) (by decide) rfl (Nat.le_of_ble_eq_true rfl) ?_
  intro p e s m below meth c hx hb hr hml hown hts hlocks A hAe hA H locs hP hK hD hS hini Q hQ ls hl
  have hown : s.vm.findClass RX6 = some m.cls := hown
  have hl : lv_has ls 4 [(0, .ref mo), (1, .int (zB d2)), (2, .int (iZ z))] := hl
  generalize hav : ([.ref mo, .int (zB d2), .int (iZ z)] : List Value).toArray = args at hts hQ ⊢
  have hin6 : ∀ w ∈ wsX60, w ∈ wsX6_reset := by decide +kernel
  refine lv_aload_n hx hb dX6_reset_0 rfl (lv_at hl 0 rfl) ?_
  refine lv_iload_n hx hb dX6_reset_1 rfl (lv_at hl 2 rfl) ?_
  refine lv_iconst (v := nI 1) hx hb dX6_reset_2 (by decide) ?_
  refine z_Ilt hx hb (x := z) (y := ((1 : Nat) : Int)) (⟨by omega, by omega⟩) (⟨by omega, by omega⟩) (tgt := 12) dX6_reset_3 (by decide) (fun h3 => ?_) (fun h3 => ?_)
  · skip
    refine lv_iconst (v := zB true) hx hb dX6_reset_12 (by decide) ?_
    refine lv_goto (tgt := 17) hx hb dX6_reset_13 (by decide) ?_
    refine lv_iconst (v := zB false) hx hb dX6_reset_17 (by decide) ?_
    refine z_cWVi (wc := [(mo, .inr (6, [.int (nI mth), .int (zB dir), .int (nI nv), .int (nI me), .ref mf, .ref mt, .ref mw, .ref mr, .int (nI mrn), .ref mp, .int (nI mst), .int (zB mhr), .ref mx, .ref mfa, .ref mbi, .ref mod1, .int (nI mon), .ref msc, .ref msb, .ref msu, .ref mwy, .ref mre, .ref mby, .ref msm, .ref mle, .ref mgr]))]) (rm := ({ frames := 0, cells := 0, slots := 0, locals := 0 } : Room)) (As := [.int (zB true), .int (zB false)]) (rest := []) (wr := []) (w1 := [(mo, .inr (6, [.int (nI (mThr true false)), .int (zB dir), .int (nI nv), .int (nI me), .ref mf, .ref mt, .ref mw, .ref mr, .int (nI mrn), .ref mp, .int (nI mst), .int (zB mhr), .ref mx, .ref mfa, .ref mbi, .ref mod1, .int (nI mon), .ref msc, .ref msb, .ref msu, .ref mwy, .ref mre, .ref mby, .ref msm, .ref mle, .ref mgr]))]) (ws' := [(mo, .inr (6, [.int (nI (mThr true false)), .int (zB dir), .int (nI nv), .int (nI me), .ref mf, .ref mt, .ref mw, .ref mr, .int (nI mrn), .ref mp, .int (nI mst), .int (zB mhr), .ref mx, .ref mfa, .ref mbi, .ref mod1, .int (nI mon), .ref msc, .ref msb, .ref msu, .ref mwy, .ref mre, .ref mby, .ref msm, .ref mle, .ref mgr]))]) ⟨hx, hb, hml, hown, hts⟩ (c_X6_throwing l D cA H.size mo mf mt mw mr mp mx mfa mbi mod1 msc msb msu mwy mre mby msm mle mgr mth dir nv me mrn mst mhr mon true false ) (cwV 2 hts gX6_reset_X6_throwing rfl rfl rfl (by decide +kernel) ⟨Nat.le_of_ble_eq_true rfl, Nat.le_of_ble_eq_true rfl⟩) hP hK hD hS hA [0] [] [0] rfl rfl rfl rfl rfl (by decide) rfl rfl rfl 6 0 rfl rfl rfl hl.1 rfl (Nat.le_of_ble_eq_true rfl) ⟨Nat.zero_le _, Nat.zero_le _⟩ dX6_reset_18 (fun H locs hP hD hS => ?_)
    refine z_ifeq hx hb (tgt := 26) dX6_reset_21 (by decide) (fun h21 => ?_) (fun h21 => ?_)
    · cases h21
    · skip
      refine lv_iconst (v := nI 0) hx hb dX6_reset_24 (by decide) ?_
      exact z_iretW hx hb hr hlocks hAe hQ (hP) hK (hD) hS dX6_reset_25
  · skip
    refine lv_iload_n hx hb dX6_reset_6 rfl (lv_at hl 2 rfl) ?_
    refine lv_bipush (v := nI 16) hx hb dX6_reset_7 (by decide) ?_
    refine z_Ile hx hb (x := z) (y := ((16 : Nat) : Int)) (⟨by omega, by omega⟩) (⟨by omega, by omega⟩) (tgt := 16) dX6_reset_9 (by decide) (fun h9 => ?_) (fun h9 => ?_)
    · omega
    · skip
      refine lv_iconst (v := zB true) hx hb dX6_reset_12 (by decide) ?_
      refine lv_goto (tgt := 17) hx hb dX6_reset_13 (by decide) ?_
      refine lv_iconst (v := zB false) hx hb dX6_reset_17 (by decide) ?_
      refine z_cWVi (wc := [(mo, .inr (6, [.int (nI mth), .int (zB dir), .int (nI nv), .int (nI me), .ref mf, .ref mt, .ref mw, .ref mr, .int (nI mrn), .ref mp, .int (nI mst), .int (zB mhr), .ref mx, .ref mfa, .ref mbi, .ref mod1, .int (nI mon), .ref msc, .ref msb, .ref msu, .ref mwy, .ref mre, .ref mby, .ref msm, .ref mle, .ref mgr]))]) (rm := ({ frames := 0, cells := 0, slots := 0, locals := 0 } : Room)) (As := [.int (zB true), .int (zB false)]) (rest := []) (wr := []) (w1 := [(mo, .inr (6, [.int (nI (mThr true false)), .int (zB dir), .int (nI nv), .int (nI me), .ref mf, .ref mt, .ref mw, .ref mr, .int (nI mrn), .ref mp, .int (nI mst), .int (zB mhr), .ref mx, .ref mfa, .ref mbi, .ref mod1, .int (nI mon), .ref msc, .ref msb, .ref msu, .ref mwy, .ref mre, .ref mby, .ref msm, .ref mle, .ref mgr]))]) (ws' := [(mo, .inr (6, [.int (nI (mThr true false)), .int (zB dir), .int (nI nv), .int (nI me), .ref mf, .ref mt, .ref mw, .ref mr, .int (nI mrn), .ref mp, .int (nI mst), .int (zB mhr), .ref mx, .ref mfa, .ref mbi, .ref mod1, .int (nI mon), .ref msc, .ref msb, .ref msu, .ref mwy, .ref mre, .ref mby, .ref msm, .ref mle, .ref mgr]))]) ⟨hx, hb, hml, hown, hts⟩ (c_X6_throwing l D cA H.size mo mf mt mw mr mp mx mfa mbi mod1 msc msb msu mwy mre mby msm mle mgr mth dir nv me mrn mst mhr mon true false ) (cwV 2 hts gX6_reset_X6_throwing rfl rfl rfl (by decide +kernel) ⟨Nat.le_of_ble_eq_true rfl, Nat.le_of_ble_eq_true rfl⟩) hP hK hD hS hA [0] [] [0] rfl rfl rfl rfl rfl (by decide) rfl rfl rfl 6 0 rfl rfl rfl hl.1 rfl (Nat.le_of_ble_eq_true rfl) ⟨Nat.zero_le _, Nat.zero_le _⟩ dX6_reset_18 (fun H locs hP hD hS => ?_)
      refine z_ifeq hx hb (tgt := 26) dX6_reset_21 (by decide) (fun h21 => ?_) (fun h21 => ?_)
      · cases h21
      · skip
        refine lv_iconst (v := nI 0) hx hb dX6_reset_24 (by decide) ?_
        exact z_iretW hx hb hr hlocks hAe hQ (hP) hK (hD) hS dX6_reset_25
set_option maxHeartbeats 4000000 in
set_option maxRecDepth 100000 in
/-- Model.reset -/
theorem c_X6_reset_o (l : Launch) (D : va_G) (cA : Nat → ClassId) (sz : Nat) (mo : Nat) (mf : Nat) (mt : Nat) (mw : Nat) (mr : Nat) (mp : Nat) (mx : Nat) (mfa : Nat) (mbi : Nat) (mod1 : Nat) (msc : Nat) (msb : Nat) (msu : Nat) (mwy : Nat) (mre : Nat) (mby : Nat) (msm : Nat) (mle : Nat) (mgr : Nat) (mth : Nat) (dir : Bool) (nv : Nat) (me : Nat) (mrn : Nat) (mst : Nat) (mhr : Bool) (mon : Nat) (d2 : Bool) (z : Int) (hz : -2147483648 ≤ z ∧ z < 2147483648) (hok : 1 ≤ z ∧ z ≤ 16) : Met l yX6_reset wsX6_reset ({ frames := 1, cells := 0, slots := 0, locals := 22 } : Room) (zWr D vwCl (zT cA) [(mo, .inr (6, [.int (nI mth), .int (zB dir), .int (nI nv), .int (nI me), .ref mf, .ref mt, .ref mw, .ref mr, .int (nI mrn), .ref mp, .int (nI mst), .int (zB mhr), .ref mx, .ref mfa, .ref mbi, .ref mod1, .int (nI mon), .ref msc, .ref msb, .ref msu, .ref mwy, .ref mre, .ref mby, .ref msm, .ref mle, .ref mgr]))] sz [.ref mo, .int (zB d2), .int (iZ z)]) (zQi D vwCl (zT cA) (va_A [(mo, .inr (6, [.int (nI mth), .int (zB dir), .int (nI nv), .int (nI me), .ref mf, .ref mt, .ref mw, .ref mr, .int (nI mrn), .ref mp, .int (nI mst), .int (zB mhr), .ref mx, .ref mfa, .ref mbi, .ref mod1, .int (nI mon), .ref msc, .ref msb, .ref msu, .ref mwy, .ref mre, .ref mby, .ref msm, .ref mle, .ref mgr]))] sz) [(mo, .inr (6, [.int (nI 0), .int (zB d2), .int (nI z.toNat), .int (nI 0), .ref mf, .ref mt, .ref mw, .ref mr, .int (nI 0), .ref mp, .int (nI mst), .int (zB false), .ref mx, .ref mfa, .ref mbi, .ref mod1, .int (nI mon), .ref msc, .ref msb, .ref msu, .ref mwy, .ref mre, .ref mby, .ref msm, .ref mle, .ref mgr]))] (nI me)) 0 0 (va_A [(mo, .inr (6, [.int (nI mth), .int (zB dir), .int (nI nv), .int (nI me), .ref mf, .ref mt, .ref mw, .ref mr, .int (nI mrn), .ref mp, .int (nI mst), .int (zB mhr), .ref mx, .ref mfa, .ref mbi, .ref mod1, .int (nI mon), .ref msc, .ref msb, .ref msu, .ref mwy, .ref mre, .ref mby, .ref msm, .ref mle, .ref mgr]))] sz) := by
  refine z_write (cc := cX6_reset) (maxL := 4) (ret := (some .int)) (by decide) rfl (Nat.le_of_ble_eq_true rfl) ?_
  intro p e s m below meth c hx hb hr hml hown hts hlocks A hAe hA H locs hP hK hD hS hini Q hQ ls hl
  have hown : s.vm.findClass RX6 = some m.cls := hown
  have hl : lv_has ls 4 [(0, .ref mo), (1, .int (zB d2)), (2, .int (iZ z))] := hl
  generalize hav : ([.ref mo, .int (zB d2), .int (iZ z)] : List Value).toArray = args at hts hQ ⊢
  have hin6 : ∀ w ∈ wsX60, w ∈ wsX6_reset := by decide +kernel
  refine lv_aload_n hx hb dX6_reset_0 rfl (lv_at hl 0 rfl) ?_
  refine lv_iload_n hx hb dX6_reset_1 rfl (lv_at hl 2 rfl) ?_
  refine lv_iconst (v := nI 1) hx hb dX6_reset_2 (by decide) ?_
  refine z_Ilt hx hb (x := z) (y := ((1 : Nat) : Int)) (⟨by omega, by omega⟩) (⟨by omega, by omega⟩) (tgt := 12) dX6_reset_3 (by decide) (fun h3 => ?_) (fun h3 => ?_)
  · omega
  · skip
    refine lv_iload_n hx hb dX6_reset_6 rfl (lv_at hl 2 rfl) ?_
    refine lv_bipush (v := nI 16) hx hb dX6_reset_7 (by decide) ?_
    refine z_Ile hx hb (x := z) (y := ((16 : Nat) : Int)) (⟨by omega, by omega⟩) (⟨by omega, by omega⟩) (tgt := 16) dX6_reset_9 (by decide) (fun h9 => ?_) (fun h9 => ?_)
    · skip
      refine lv_iconst (v := zB false) hx hb dX6_reset_16 (by decide) ?_
      refine lv_iconst (v := zB false) hx hb dX6_reset_17 (by decide) ?_
      refine z_cWVi (wc := [(mo, .inr (6, [.int (nI mth), .int (zB dir), .int (nI nv), .int (nI me), .ref mf, .ref mt, .ref mw, .ref mr, .int (nI mrn), .ref mp, .int (nI mst), .int (zB mhr), .ref mx, .ref mfa, .ref mbi, .ref mod1, .int (nI mon), .ref msc, .ref msb, .ref msu, .ref mwy, .ref mre, .ref mby, .ref msm, .ref mle, .ref mgr]))]) (rm := ({ frames := 0, cells := 0, slots := 0, locals := 0 } : Room)) (As := [.int (zB false), .int (zB false)]) (rest := []) (wr := []) (w1 := [(mo, .inr (6, [.int (nI (mThr false false)), .int (zB dir), .int (nI nv), .int (nI me), .ref mf, .ref mt, .ref mw, .ref mr, .int (nI mrn), .ref mp, .int (nI mst), .int (zB mhr), .ref mx, .ref mfa, .ref mbi, .ref mod1, .int (nI mon), .ref msc, .ref msb, .ref msu, .ref mwy, .ref mre, .ref mby, .ref msm, .ref mle, .ref mgr]))]) (ws' := [(mo, .inr (6, [.int (nI (mThr false false)), .int (zB dir), .int (nI nv), .int (nI me), .ref mf, .ref mt, .ref mw, .ref mr, .int (nI mrn), .ref mp, .int (nI mst), .int (zB mhr), .ref mx, .ref mfa, .ref mbi, .ref mod1, .int (nI mon), .ref msc, .ref msb, .ref msu, .ref mwy, .ref mre, .ref mby, .ref msm, .ref mle, .ref mgr]))]) ⟨hx, hb, hml, hown, hts⟩ (c_X6_throwing l D cA H.size mo mf mt mw mr mp mx mfa mbi mod1 msc msb msu mwy mre mby msm mle mgr mth dir nv me mrn mst mhr mon false false ) (cwV 2 hts gX6_reset_X6_throwing rfl rfl rfl (by decide +kernel) ⟨Nat.le_of_ble_eq_true rfl, Nat.le_of_ble_eq_true rfl⟩) hP hK hD hS hA [0] [] [0] rfl rfl rfl rfl rfl (by decide) rfl rfl rfl 6 0 rfl rfl rfl hl.1 rfl (Nat.le_of_ble_eq_true rfl) ⟨Nat.zero_le _, Nat.zero_le _⟩ dX6_reset_18 (fun H locs hP hD hS => ?_)
      refine z_ifeq hx hb (tgt := 26) dX6_reset_21 (by decide) (fun h21 => ?_) (fun h21 => ?_)
      · skip
        refine lv_aload_n hx hb dX6_reset_26 rfl (lv_at hl 0 rfl) ?_
        refine va_get (D := D) (ci := 6) (v := .int (nI me)) (C := RX6) (T := TX6) (N := 26) hx hb hts hin6 hown hK hP 0 rfl rfl 3 (by decide) (hts (.fieldLink RX6 85 "TourHouseModel" "m" "I") (by decide +kernel)) (fun _ h9 => h9) rfl dX6_reset_27 ?_
        refine lv_istore_n (lv' := [(3, .int (nI me)), (0, .ref mo), (1, .int (zB d2)), (2, .int (iZ z))]) hx hb dX6_reset_30 rfl hl (by decide) rfl (fun ls hl => ?_)
        refine lv_aload_n hx hb dX6_reset_31 rfl (lv_at hl 1 rfl) ?_
        refine lv_iload_n hx hb dX6_reset_32 rfl (lv_at hl 2 rfl) ?_
        refine va_put (D := D) (ci := 6) (v := .int (zB d2)) (ty := .boolean) (C := RX6) (T := TX6) (N := 26) hx hb hts hin6 tyX6 tyX6_ok nmX6 hown hK hP hD hS 0 rfl rfl 1 (by decide) (hts (.fieldLink RX6 88 "TourHouseModel" "directed" "Z") (by decide +kernel)) (fun _ h9 => h9) rfl (by decide +kernel) (zB_nar _) (zB_fits _) (Nat.le_of_ble_eq_true rfl) dX6_reset_33 (fun H locs hP hD hS => ?_)
        have hP : va_P D vwCl [(mo, .inr (6, [.int (nI (mThr false false)), .int (zB d2), .int (nI nv), .int (nI me), .ref mf, .ref mt, .ref mw, .ref mr, .int (nI mrn), .ref mp, .int (nI mst), .int (zB mhr), .ref mx, .ref mfa, .ref mbi, .ref mod1, .int (nI mon), .ref msc, .ref msb, .ref msu, .ref mwy, .ref mre, .ref mby, .ref msm, .ref mle, .ref mgr]))] H := hP
        have hD : va_D A [(mo, .inr (6, [.int (nI (mThr false false)), .int (zB d2), .int (nI nv), .int (nI me), .ref mf, .ref mt, .ref mw, .ref mr, .int (nI mrn), .ref mp, .int (nI mst), .int (zB mhr), .ref mx, .ref mfa, .ref mbi, .ref mod1, .int (nI mon), .ref msc, .ref msb, .ref msu, .ref mwy, .ref mre, .ref mby, .ref msm, .ref mle, .ref mgr]))] := hD
        refine lv_aload_n hx hb dX6_reset_36 rfl (lv_at hl 1 rfl) ?_
        refine lv_iload_n hx hb dX6_reset_37 rfl (lv_at hl 3 rfl) ?_
        refine z_topi (v := nI z.toNat) (iZ_toNat (by omega)) ?_
        refine va_put (D := D) (ci := 6) (v := .int (nI z.toNat)) (ty := .int) (C := RX6) (T := TX6) (N := 26) hx hb hts hin6 tyX6 tyX6_ok nmX6 hown hK hP hD hS 0 rfl rfl 2 (by decide) (hts (.fieldLink RX6 7 "TourHouseModel" "n" "I") (by decide +kernel)) (fun _ h9 => h9) rfl (by decide +kernel) (rfl) (rfl) (Nat.le_of_ble_eq_true rfl) dX6_reset_38 (fun H locs hP hD hS => ?_)
        have hP : va_P D vwCl [(mo, .inr (6, [.int (nI (mThr false false)), .int (zB d2), .int (nI z.toNat), .int (nI me), .ref mf, .ref mt, .ref mw, .ref mr, .int (nI mrn), .ref mp, .int (nI mst), .int (zB mhr), .ref mx, .ref mfa, .ref mbi, .ref mod1, .int (nI mon), .ref msc, .ref msb, .ref msu, .ref mwy, .ref mre, .ref mby, .ref msm, .ref mle, .ref mgr]))] H := hP
        have hD : va_D A [(mo, .inr (6, [.int (nI (mThr false false)), .int (zB d2), .int (nI z.toNat), .int (nI me), .ref mf, .ref mt, .ref mw, .ref mr, .int (nI mrn), .ref mp, .int (nI mst), .int (zB mhr), .ref mx, .ref mfa, .ref mbi, .ref mod1, .int (nI mon), .ref msc, .ref msb, .ref msu, .ref mwy, .ref mre, .ref mby, .ref msm, .ref mle, .ref mgr]))] := hD
        refine lv_aload_n hx hb dX6_reset_41 rfl (lv_at hl 1 rfl) ?_
        refine lv_iconst (v := nI 0) hx hb dX6_reset_42 (by decide) ?_
        refine va_put (D := D) (ci := 6) (v := .int (nI 0)) (ty := .int) (C := RX6) (T := TX6) (N := 26) hx hb hts hin6 tyX6 tyX6_ok nmX6 hown hK hP hD hS 0 rfl rfl 3 (by decide) (hts (.fieldLink RX6 85 "TourHouseModel" "m" "I") (by decide +kernel)) (fun _ h9 => h9) rfl (by decide +kernel) (rfl) (rfl) (Nat.le_of_ble_eq_true rfl) dX6_reset_43 (fun H locs hP hD hS => ?_)
        have hP : va_P D vwCl [(mo, .inr (6, [.int (nI (mThr false false)), .int (zB d2), .int (nI z.toNat), .int (nI 0), .ref mf, .ref mt, .ref mw, .ref mr, .int (nI mrn), .ref mp, .int (nI mst), .int (zB mhr), .ref mx, .ref mfa, .ref mbi, .ref mod1, .int (nI mon), .ref msc, .ref msb, .ref msu, .ref mwy, .ref mre, .ref mby, .ref msm, .ref mle, .ref mgr]))] H := hP
        have hD : va_D A [(mo, .inr (6, [.int (nI (mThr false false)), .int (zB d2), .int (nI z.toNat), .int (nI 0), .ref mf, .ref mt, .ref mw, .ref mr, .int (nI mrn), .ref mp, .int (nI mst), .int (zB mhr), .ref mx, .ref mfa, .ref mbi, .ref mod1, .int (nI mon), .ref msc, .ref msb, .ref msu, .ref mwy, .ref mre, .ref mby, .ref msm, .ref mle, .ref mgr]))] := hD
        refine lv_aload_n hx hb dX6_reset_46 rfl (lv_at hl 1 rfl) ?_
        refine z_cWVv (wc := [(mo, .inr (6, [.int (nI (mThr false false)), .int (zB d2), .int (nI z.toNat), .int (nI 0), .ref mf, .ref mt, .ref mw, .ref mr, .int (nI mrn), .ref mp, .int (nI mst), .int (zB mhr), .ref mx, .ref mfa, .ref mbi, .ref mod1, .int (nI mon), .ref msc, .ref msb, .ref msu, .ref mwy, .ref mre, .ref mby, .ref msm, .ref mle, .ref mgr]))]) (rm := ({ frames := 0, cells := 0, slots := 0, locals := 0 } : Room)) (As := []) (rest := []) (wr := []) (w1 := [(mo, .inr (6, [.int (nI (mThr false false)), .int (zB d2), .int (nI z.toNat), .int (nI 0), .ref mf, .ref mt, .ref mw, .ref mr, .int (nI 0), .ref mp, .int (nI mst), .int (zB false), .ref mx, .ref mfa, .ref mbi, .ref mod1, .int (nI mon), .ref msc, .ref msb, .ref msu, .ref mwy, .ref mre, .ref mby, .ref msm, .ref mle, .ref mgr]))]) (ws' := [(mo, .inr (6, [.int (nI (mThr false false)), .int (zB d2), .int (nI z.toNat), .int (nI 0), .ref mf, .ref mt, .ref mw, .ref mr, .int (nI 0), .ref mp, .int (nI mst), .int (zB false), .ref mx, .ref mfa, .ref mbi, .ref mod1, .int (nI mon), .ref msc, .ref msb, .ref msu, .ref mwy, .ref mre, .ref mby, .ref msm, .ref mle, .ref mgr]))]) ⟨hx, hb, hml, hown, hts⟩ (c_X6_change l D cA H.size mo mf mt mw mr mp mx mfa mbi mod1 msc msb msu mwy mre mby msm mle mgr (mThr false false) d2 z.toNat 0 mrn mst mhr mon ) (cwV 0 hts gX6_reset_X6_change rfl rfl rfl (by decide +kernel) ⟨Nat.le_of_ble_eq_true rfl, Nat.le_of_ble_eq_true rfl⟩) hP hK hD hS hA [0] [] [0] rfl rfl rfl rfl rfl (by decide) rfl rfl rfl 6 0 rfl rfl rfl hl.1 rfl (Nat.le_of_ble_eq_true rfl) ⟨Nat.zero_le _, Nat.zero_le _⟩ dX6_reset_47 (fun H locs hP hD hS => ?_)
        refine lv_iload_n hx hb dX6_reset_50 rfl (lv_at hl 0 rfl) ?_
        exact z_iretW hx hb hr hlocks hAe hQ (hP) hK (hD) hS dX6_reset_51
      · cases h21
    · omega
set_option maxHeartbeats 4000000 in
set_option maxRecDepth 100000 in
/-- Model.leaveOne -/
theorem c_X6_leaveOne (l : Launch) (D : va_G) (cA : Nat → ClassId) (sz : Nat) (mo : Nat) (mf : Nat) (mt : Nat) (mw : Nat) (mr : Nat) (mp : Nat) (mx : Nat) (mfa : Nat) (mbi : Nat) (mod1 : Nat) (msc : Nat) (msb : Nat) (msu : Nat) (mwy : Nat) (mre : Nat) (mby : Nat) (msm : Nat) (mle : Nat) (mgr : Nat) (mth : Nat) (dir : Bool) (nv : Nat) (me : Nat) (mrn : Nat) (mst : Nat) (mhr : Bool) (mon : Nat) (Le : Nat → Int) (hme : me ≤ 40) : Met l yX6_leaveOne wsX6_leaveOne ({ frames := 0, cells := 0, slots := 0, locals := 0 } : Room) (zWr D vwCl (zT cA) [(mo, .inr (6, [.int (nI mth), .int (zB dir), .int (nI nv), .int (nI me), .ref mf, .ref mt, .ref mw, .ref mr, .int (nI mrn), .ref mp, .int (nI mst), .int (zB mhr), .ref mx, .ref mfa, .ref mbi, .ref mod1, .int (nI mon), .ref msc, .ref msb, .ref msu, .ref mwy, .ref mre, .ref mby, .ref msm, .ref mle, .ref mgr])), (mle, aI cA 40 (fun j => iZ (Le j)))] sz [.ref mo]) (zQv D vwCl (zT cA) (va_A [(mo, .inr (6, [.int (nI mth), .int (zB dir), .int (nI nv), .int (nI me), .ref mf, .ref mt, .ref mw, .ref mr, .int (nI mrn), .ref mp, .int (nI mst), .int (zB mhr), .ref mx, .ref mfa, .ref mbi, .ref mod1, .int (nI mon), .ref msc, .ref msb, .ref msu, .ref mwy, .ref mre, .ref mby, .ref msm, .ref mle, .ref mgr])), (mle, aI cA 40 (fun j => iZ (Le j)))] sz) [(mo, .inr (6, [.int (nI mth), .int (zB dir), .int (nI nv), .int (nI me), .ref mf, .ref mt, .ref mw, .ref mr, .int (nI mrn), .ref mp, .int (nI mst), .int (zB mhr), .ref mx, .ref mfa, .ref mbi, .ref mod1, .int (nI mon), .ref msc, .ref msb, .ref msu, .ref mwy, .ref mre, .ref mby, .ref msm, .ref mle, .ref mgr])), (mle, aI cA 40 (fun j => iZ ((fl Le 1 me) j)))]) 0 0 (va_A [(mo, .inr (6, [.int (nI mth), .int (zB dir), .int (nI nv), .int (nI me), .ref mf, .ref mt, .ref mw, .ref mr, .int (nI mrn), .ref mp, .int (nI mst), .int (zB mhr), .ref mx, .ref mfa, .ref mbi, .ref mod1, .int (nI mon), .ref msc, .ref msb, .ref msu, .ref mwy, .ref mre, .ref mby, .ref msm, .ref mle, .ref mgr])), (mle, aI cA 40 (fun j => iZ (Le j)))] sz) := by
  refine z_write (cc := cX6_leaveOne) (maxL := 2) (ret := none) (by decide) rfl (Nat.le_of_ble_eq_true rfl) ?_
  intro p e s m below meth c hx hb hr hml hown hts hlocks A hAe hA H locs hP hK hD hS hini Q hQ ls hl
  have hown : s.vm.findClass RX6 = some m.cls := hown
  have hl : lv_has ls 2 [(0, .ref mo)] := hl
  generalize hav : ([.ref mo] : List Value).toArray = args at hts hQ ⊢
  have hin6 : ∀ w ∈ wsX60, w ∈ wsX6_leaveOne := by decide +kernel
  refine lv_iconst (v := nI 0) hx hb dX6_leaveOne_0 (by decide) ?_
  refine lv_istore_n (lv' := [(1, .int (nI 0)), (0, .ref mo)]) hx hb dX6_leaveOne_1 rfl hl (by decide) rfl (fun ls hl => ?_)
  have J2 : ∀ (n : Nat), ∀ (i : Nat), (i ≤ me) → me - i < n → ∀ (H : Heap) (locs : List Loc), va_P D vwCl [(mo, .inr (6, [.int (nI mth), .int (zB dir), .int (nI nv), .int (nI me), .ref mf, .ref mt, .ref mw, .ref mr, .int (nI mrn), .ref mp, .int (nI mst), .int (zB mhr), .ref mx, .ref mfa, .ref mbi, .ref mod1, .int (nI mon), .ref msc, .ref msb, .ref msu, .ref mwy, .ref mre, .ref mby, .ref msm, .ref mle, .ref mgr])), (mle, aI cA 40 (fun j => iZ ((fl Le 1 i) j)))] H → va_D A [(mo, .inr (6, [.int (nI mth), .int (zB dir), .int (nI nv), .int (nI me), .ref mf, .ref mt, .ref mw, .ref mr, .int (nI mrn), .ref mp, .int (nI mst), .int (zB mhr), .ref mx, .ref mfa, .ref mbi, .ref mod1, .int (nI mon), .ref msc, .ref msb, .ref msu, .ref mwy, .ref mre, .ref mby, .ref msm, .ref mle, .ref mgr])), (mle, aI cA 40 (fun j => iZ ((fl Le 1 i) j)))] → va_S A s.heap H locs → ∀ (ls : Array Slot), lv_has ls 2 [(0, .ref mo), (1, .int (nI i))] → W p l e ({ frames := 0, cells := 0, slots := 0, locals := 0 } : Room) s m args below meth c H locs 0 0 Q (F0 m 2 ls []) := by
    intro n2
    induction n2 with
    | zero => intro i hi hn; exact absurd hn (Nat.not_lt_zero _)
    | succ n2 ih2 =>
      intro i hi hn2 H locs hP hD hS ls hl
      refine lv_iload_n hx hb dX6_leaveOne_2 rfl (lv_at hl 1 rfl) ?_
      refine lv_aload_n hx hb dX6_leaveOne_3 rfl (lv_at hl 0 rfl) ?_
      refine va_get (D := D) (ci := 6) (v := .int (nI me)) (C := RX6) (T := TX6) (N := 26) hx hb hts hin6 hown hK hP 0 rfl rfl 3 (by decide) (hts (.fieldLink RX6 85 "TourHouseModel" "m" "I") (by decide +kernel)) (fun _ h9 => h9) rfl dX6_leaveOne_4 ?_
      refine z_ge hx hb (by omega) (by omega) (tgt := 23) dX6_leaveOne_7 (by decide) (fun h7 => ?_) (fun h7 => ?_)
      · skip
        exact z_vretW hx hb hr hlocks hAe hQ (by have q : i = me := (by omega); rw [q] at hP; exact hP) hK (by have q : i = me := (by omega); rw [q] at hD; exact hD) hS dX6_leaveOne_23
      · skip
        refine lv_aload_n hx hb dX6_leaveOne_10 rfl (lv_at hl 0 rfl) ?_
        refine va_get (D := D) (ci := 6) (v := .ref mle) (C := RX6) (T := TX6) (N := 26) hx hb hts hin6 hown hK hP 0 rfl rfl 24 (by decide) (hts (.fieldLink RX6 65 "TourHouseModel" "left" "[I") (by decide +kernel)) (fun _ h9 => h9) rfl dX6_leaveOne_11 ?_
        refine lv_iload_n hx hb dX6_leaveOne_14 rfl (lv_at hl 1 rfl) ?_
        refine lv_iconst (v := iZ 1) hx hb dX6_leaveOne_15 (by decide) ?_
        refine z_iast hx hb hK hP hD hS 1 0 rfl rfl (k := i) (by omega) (by decide) (f' := (fun j => iZ ((fl Le 1 (i + 1)) j))) ((upd_iZ (fl Le 1 i) i 1).trans (by rw [fl_up])) (ws' := [(mo, .inr (6, [.int (nI mth), .int (zB dir), .int (nI nv), .int (nI me), .ref mf, .ref mt, .ref mw, .ref mr, .int (nI mrn), .ref mp, .int (nI mst), .int (zB mhr), .ref mx, .ref mfa, .ref mbi, .ref mod1, .int (nI mon), .ref msc, .ref msb, .ref msu, .ref mwy, .ref mre, .ref mby, .ref msm, .ref mle, .ref mgr])), (mle, aI cA 40 (fun j => iZ ((fl Le 1 (i + 1)) j)))]) rfl dX6_leaveOne_16 (fun H locs hP hD hS => ?_)
        refine lv_iinc (v := nI (i + 1)) (lv' := [(1, .int (nI (i + 1))), (0, .ref mo)]) hx hb dX6_leaveOne_17 hl (k := 1) rfl (nI_1 i) (by decide) rfl (fun ls hl => ?_)
        refine lv_goto (tgt := 2) hx hb dX6_leaveOne_20 (by decide) ?_
        exact ih2 (i + 1) (by omega) (by omega) _ _ (hP) (hD) hS ls (lv_sub hl [1, 0] (by rfl))
  exact J2 ((me - 0) + 1) 0 (by omega) (by omega) _ _ (by rw [fl_0]; exact hP) (by rw [fl_0]; exact hD) hS ls (lv_sub hl [1, 0] (by rfl))
set_option maxHeartbeats 4000000 in
set_option maxRecDepth 100000 in
/-- Model.balance -/
theorem c_X6_balance (l : Launch) (D : va_G) (cA : Nat → ClassId) (mo : Nat) (mf : Nat) (mt : Nat) (mw : Nat) (mr : Nat) (mp : Nat) (mx : Nat) (mfa : Nat) (mbi : Nat) (mod1 : Nat) (msc : Nat) (msb : Nat) (msu : Nat) (mwy : Nat) (mre : Nat) (mby : Nat) (msm : Nat) (mle : Nat) (mgr : Nat) (mth : Nat) (dir : Bool) (nv : Nat) (me : Nat) (mrn : Nat) (mst : Nat) (mhr : Bool) (mon : Nat) (Fr : Nat → Nat) (To : Nat → Nat) (v : Nat) (hme : me ≤ 40) (hF : ∀ j, Fr j < 16) (hT : ∀ j, To j < 16) (hv : v < 2 ^ 31) : Met l yX6_balance wsX6_balance ({ frames := 0, cells := 0, slots := 0, locals := 0 } : Room) (zRd D vwCl (zT cA) [(mo, .inr (6, [.int (nI mth), .int (zB dir), .int (nI nv), .int (nI me), .ref mf, .ref mt, .ref mw, .ref mr, .int (nI mrn), .ref mp, .int (nI mst), .int (zB mhr), .ref mx, .ref mfa, .ref mbi, .ref mod1, .int (nI mon), .ref msc, .ref msb, .ref msu, .ref mwy, .ref mre, .ref mby, .ref msm, .ref mle, .ref mgr])), (mf, aI cA 40 (fun j => nI (Fr j))), (mt, aI cA 40 (fun j => nI (To j)))] [.ref mo, .int (nI v)]) (vp_Si (fun r => r = iZ (mBal dir Fr To v me))) 0 0 (fun _ => False) := by
  refine z_read (cc := cX6_balance) (maxL := 4) (ret := (some .int)) (by decide) rfl (Nat.le_of_ble_eq_true rfl) ?_
  intro p e s m below meth c hx hb hr hml hown hts hlocks hP hK Q hQ ls hl
  have hown : s.vm.findClass RX6 = some m.cls := hown
  have hl : lv_has ls 4 [(0, .ref mo), (1, .int (nI v))] := hl
  generalize hav : ([.ref mo, .int (nI v)] : List Value).toArray = args at hts hQ ⊢
  have hin6 : ∀ w ∈ wsX60, w ∈ wsX6_balance := by decide +kernel
  refine lv_iconst (v := iZ (mBal dir Fr To v 0)) hx hb dX6_balance_0 (by rfl) ?_
  refine lv_istore_n (lv' := [(2, .int (iZ (mBal dir Fr To v 0))), (0, .ref mo), (1, .int (nI v))]) hx hb dX6_balance_1 rfl hl (by decide) rfl (fun ls hl => ?_)
  refine lv_iconst (v := nI 0) hx hb dX6_balance_2 (by decide) ?_
  refine lv_istore_n (lv' := [(3, .int (nI 0)), (2, .int (iZ (mBal dir Fr To v 0))), (0, .ref mo), (1, .int (nI v))]) hx hb dX6_balance_3 rfl hl (by decide) rfl (fun ls hl => ?_)
  have J4 : ∀ (n : Nat), ∀ (i : Nat), (i ≤ me) → me - i < n → ∀ (ls : Array Slot), lv_has ls 4 [(0, .ref mo), (1, .int (nI v)), (2, .int (iZ (mBal dir Fr To v i))), (3, .int (nI i))] → W p l e ({ frames := 0, cells := 0, slots := 0, locals := 0 } : Room) s m args below meth c s.heap [] 0 0 Q (F0 m 4 ls []) := by
    intro n4
    induction n4 with
    | zero => intro i hi hn; exact absurd hn (Nat.not_lt_zero _)
    | succ n4 ih4 =>
      intro i hi hn4 ls hl
      refine lv_iload_n hx hb dX6_balance_4 rfl (lv_at hl 3 rfl) ?_
      refine lv_aload_n hx hb dX6_balance_5 rfl (lv_at hl 0 rfl) ?_
      refine va_get (D := D) (ci := 6) (v := .int (nI me)) (C := RX6) (T := TX6) (N := 26) hx hb hts hin6 hown hK hP 0 rfl rfl 3 (by decide) (hts (.fieldLink RX6 85 "TourHouseModel" "m" "I") (by decide +kernel)) (fun _ h9 => h9) rfl dX6_balance_6 ?_
      refine z_ge hx hb (by omega) (by omega) (tgt := 61) dX6_balance_9 (by decide) (fun h9 => ?_) (fun h9 => ?_)
      · skip
        refine lv_iload_n hx hb dX6_balance_61 rfl (lv_at hl 2 rfl) ?_
        exact z_iretR hx hb hr hlocks hQ (by rw [show i = me from by omega]) dX6_balance_62 rfl rfl
      · skip
        refine lv_iload_n hx hb dX6_balance_12 rfl (lv_at hl 2 rfl) ?_
        refine lv_aload_n hx hb dX6_balance_13 rfl (lv_at hl 0 rfl) ?_
        refine va_get (D := D) (ci := 6) (v := .ref mt) (C := RX6) (T := TX6) (N := 26) hx hb hts hin6 hown hK hP 0 rfl rfl 5 (by decide) (hts (.fieldLink RX6 17 "TourHouseModel" "to" "[I") (by decide +kernel)) (fun _ h9 => h9) rfl dX6_balance_14 ?_
        refine lv_iload_n hx hb dX6_balance_17 rfl (lv_at hl 3 rfl) ?_
        refine z_iald hx hb hK hP 2 0 rfl rfl (k := i) (by omega) (by decide) (v := nI (To i)) rfl dX6_balance_18 ?_
        refine lv_iload_n hx hb dX6_balance_19 rfl (lv_at hl 1 rfl) ?_
        refine z_ne hx hb (Nat.lt_trans (hT _) (by decide)) (by omega) (tgt := 27) dX6_balance_20 (by decide) (fun h20 => ?_) (fun h20 => ?_)
        · skip
          refine lv_iconst (v := nI 0) hx hb dX6_balance_27 (by decide) ?_
          refine lv_iadd hx hb dX6_balance_28 ?_
          refine z_topi (v := iZ ((mBal dir Fr To v i) + 0)) (iZ_add (mBal dir Fr To v i) 0) ?_
          refine lv_istore_n (lv' := [(2, .int (iZ ((mBal dir Fr To v i) + 0))), (0, .ref mo), (1, .int (nI v)), (3, .int (nI i))]) hx hb dX6_balance_29 rfl hl (by decide) rfl (fun ls hl => ?_)
          refine lv_aload_n hx hb dX6_balance_30 rfl (lv_at hl 1 rfl) ?_
          refine va_get (D := D) (ci := 6) (v := .ref mf) (C := RX6) (T := TX6) (N := 26) hx hb hts hin6 hown hK hP 0 rfl rfl 4 (by decide) (hts (.fieldLink RX6 13 "TourHouseModel" "from" "[I") (by decide +kernel)) (fun _ h9 => h9) rfl dX6_balance_31 ?_
          refine lv_iload_n hx hb dX6_balance_34 rfl (lv_at hl 3 rfl) ?_
          refine z_iald hx hb hK hP 1 0 rfl rfl (k := i) (by omega) (by decide) (v := nI (Fr i)) rfl dX6_balance_35 ?_
          refine lv_iload_n hx hb dX6_balance_36 rfl (lv_at hl 2 rfl) ?_
          refine z_ne hx hb (Nat.lt_trans (hF _) (by decide)) (by omega) (tgt := 55) dX6_balance_37 (by decide) (fun h37 => ?_) (fun h37 => ?_)
          · skip
            have hl : lv_has ls 4 [(2, .int (iZ (mBal dir Fr To v (i + 1)))), (0, .ref mo), (1, .int (nI v)), (3, .int (nI i))] := by
              have q9 : iZ (mBal dir Fr To v (i + 1)) = iZ ((mBal dir Fr To v i) + 0) := by congr 1; simp only [mBal]; simp [*]
              rw [q9]; exact hl
            refine lv_iinc (v := nI (i + 1)) (lv' := [(3, .int (nI (i + 1))), (2, .int (iZ (mBal dir Fr To v (i + 1)))), (0, .ref mo), (1, .int (nI v))]) hx hb dX6_balance_55 hl (k := 3) rfl (nI_1 i) (by decide) rfl (fun ls hl => ?_)
            refine lv_goto (tgt := 4) hx hb dX6_balance_58 (by decide) ?_
            exact ih4 (i + 1) (by omega) (by omega) ls (lv_sub hl [2, 3, 1, 0] (by rfl))
          · skip
            refine lv_iload_n hx hb dX6_balance_40 rfl (lv_at hl 0 rfl) ?_
            refine lv_aload_n hx hb dX6_balance_41 rfl (lv_at hl 1 rfl) ?_
            refine va_get (D := D) (ci := 6) (v := .int (zB dir)) (C := RX6) (T := TX6) (N := 26) hx hb hts hin6 hown hK hP 0 rfl rfl 1 (by decide) (hts (.fieldLink RX6 88 "TourHouseModel" "directed" "Z") (by decide +kernel)) (fun _ h9 => h9) rfl dX6_balance_42 ?_
            refine z_ifeq hx hb (tgt := 52) dX6_balance_45 (by decide) (fun h45 => ?_) (fun h45 => ?_)
            · skip
              refine lv_iconst (v := nI 1) hx hb dX6_balance_52 (by decide) ?_
              refine lv_iadd hx hb dX6_balance_53 ?_
              refine z_topi (v := iZ (((mBal dir Fr To v i) + 0) + 1)) (iZ_add ((mBal dir Fr To v i) + 0) 1) ?_
              refine lv_istore_n (lv' := [(2, .int (iZ (((mBal dir Fr To v i) + 0) + 1))), (0, .ref mo), (1, .int (nI v)), (3, .int (nI i))]) hx hb dX6_balance_54 rfl hl (by decide) rfl (fun ls hl => ?_)
              have hl : lv_has ls 4 [(2, .int (iZ (mBal dir Fr To v (i + 1)))), (0, .ref mo), (1, .int (nI v)), (3, .int (nI i))] := by
                have q9 : iZ (mBal dir Fr To v (i + 1)) = iZ (((mBal dir Fr To v i) + 0) + 1) := by congr 1; simp only [mBal]; simp [*]
                rw [q9]; exact hl
              refine lv_iinc (v := nI (i + 1)) (lv' := [(3, .int (nI (i + 1))), (2, .int (iZ (mBal dir Fr To v (i + 1)))), (0, .ref mo), (1, .int (nI v))]) hx hb dX6_balance_55 hl (k := 3) rfl (nI_1 i) (by decide) rfl (fun ls hl => ?_)
              refine lv_goto (tgt := 4) hx hb dX6_balance_58 (by decide) ?_
              exact ih4 (i + 1) (by omega) (by omega) ls (lv_sub hl [2, 3, 1, 0] (by rfl))
            · skip
              refine lv_iconst (v := iZ (-1)) hx hb dX6_balance_48 (by decide) ?_
              refine lv_goto (tgt := 53) hx hb dX6_balance_49 (by decide) ?_
              refine lv_iadd hx hb dX6_balance_53 ?_
              refine z_topi (v := iZ (((mBal dir Fr To v i) + 0) + (-1))) (iZ_add ((mBal dir Fr To v i) + 0) (-1)) ?_
              refine lv_istore_n (lv' := [(2, .int (iZ (((mBal dir Fr To v i) + 0) + (-1)))), (0, .ref mo), (1, .int (nI v)), (3, .int (nI i))]) hx hb dX6_balance_54 rfl hl (by decide) rfl (fun ls hl => ?_)
              have hl : lv_has ls 4 [(2, .int (iZ (mBal dir Fr To v (i + 1)))), (0, .ref mo), (1, .int (nI v)), (3, .int (nI i))] := by
                have q9 : iZ (mBal dir Fr To v (i + 1)) = iZ (((mBal dir Fr To v i) + 0) + (-1)) := by congr 1; simp only [mBal]; simp [*]
                rw [q9]; exact hl
              refine lv_iinc (v := nI (i + 1)) (lv' := [(3, .int (nI (i + 1))), (2, .int (iZ (mBal dir Fr To v (i + 1)))), (0, .ref mo), (1, .int (nI v))]) hx hb dX6_balance_55 hl (k := 3) rfl (nI_1 i) (by decide) rfl (fun ls hl => ?_)
              refine lv_goto (tgt := 4) hx hb dX6_balance_58 (by decide) ?_
              exact ih4 (i + 1) (by omega) (by omega) ls (lv_sub hl [2, 3, 1, 0] (by rfl))
        · skip
          refine lv_iconst (v := nI 1) hx hb dX6_balance_23 (by decide) ?_
          refine lv_goto (tgt := 28) hx hb dX6_balance_24 (by decide) ?_
          refine lv_iadd hx hb dX6_balance_28 ?_
          refine z_topi (v := iZ ((mBal dir Fr To v i) + 1)) (iZ_add (mBal dir Fr To v i) 1) ?_
          refine lv_istore_n (lv' := [(2, .int (iZ ((mBal dir Fr To v i) + 1))), (0, .ref mo), (1, .int (nI v)), (3, .int (nI i))]) hx hb dX6_balance_29 rfl hl (by decide) rfl (fun ls hl => ?_)
          refine lv_aload_n hx hb dX6_balance_30 rfl (lv_at hl 1 rfl) ?_
          refine va_get (D := D) (ci := 6) (v := .ref mf) (C := RX6) (T := TX6) (N := 26) hx hb hts hin6 hown hK hP 0 rfl rfl 4 (by decide) (hts (.fieldLink RX6 13 "TourHouseModel" "from" "[I") (by decide +kernel)) (fun _ h9 => h9) rfl dX6_balance_31 ?_
          refine lv_iload_n hx hb dX6_balance_34 rfl (lv_at hl 3 rfl) ?_
          refine z_iald hx hb hK hP 1 0 rfl rfl (k := i) (by omega) (by decide) (v := nI (Fr i)) rfl dX6_balance_35 ?_
          refine lv_iload_n hx hb dX6_balance_36 rfl (lv_at hl 2 rfl) ?_
          refine z_ne hx hb (Nat.lt_trans (hF _) (by decide)) (by omega) (tgt := 55) dX6_balance_37 (by decide) (fun h37 => ?_) (fun h37 => ?_)
          · skip
            have hl : lv_has ls 4 [(2, .int (iZ (mBal dir Fr To v (i + 1)))), (0, .ref mo), (1, .int (nI v)), (3, .int (nI i))] := by
              have q9 : iZ (mBal dir Fr To v (i + 1)) = iZ ((mBal dir Fr To v i) + 1) := by congr 1; simp only [mBal]; simp [*]
              rw [q9]; exact hl
            refine lv_iinc (v := nI (i + 1)) (lv' := [(3, .int (nI (i + 1))), (2, .int (iZ (mBal dir Fr To v (i + 1)))), (0, .ref mo), (1, .int (nI v))]) hx hb dX6_balance_55 hl (k := 3) rfl (nI_1 i) (by decide) rfl (fun ls hl => ?_)
            refine lv_goto (tgt := 4) hx hb dX6_balance_58 (by decide) ?_
            exact ih4 (i + 1) (by omega) (by omega) ls (lv_sub hl [2, 3, 1, 0] (by rfl))
          · skip
            refine lv_iload_n hx hb dX6_balance_40 rfl (lv_at hl 0 rfl) ?_
            refine lv_aload_n hx hb dX6_balance_41 rfl (lv_at hl 1 rfl) ?_
            refine va_get (D := D) (ci := 6) (v := .int (zB dir)) (C := RX6) (T := TX6) (N := 26) hx hb hts hin6 hown hK hP 0 rfl rfl 1 (by decide) (hts (.fieldLink RX6 88 "TourHouseModel" "directed" "Z") (by decide +kernel)) (fun _ h9 => h9) rfl dX6_balance_42 ?_
            refine z_ifeq hx hb (tgt := 52) dX6_balance_45 (by decide) (fun h45 => ?_) (fun h45 => ?_)
            · skip
              refine lv_iconst (v := nI 1) hx hb dX6_balance_52 (by decide) ?_
              refine lv_iadd hx hb dX6_balance_53 ?_
              refine z_topi (v := iZ (((mBal dir Fr To v i) + 1) + 1)) (iZ_add ((mBal dir Fr To v i) + 1) 1) ?_
              refine lv_istore_n (lv' := [(2, .int (iZ (((mBal dir Fr To v i) + 1) + 1))), (0, .ref mo), (1, .int (nI v)), (3, .int (nI i))]) hx hb dX6_balance_54 rfl hl (by decide) rfl (fun ls hl => ?_)
              have hl : lv_has ls 4 [(2, .int (iZ (mBal dir Fr To v (i + 1)))), (0, .ref mo), (1, .int (nI v)), (3, .int (nI i))] := by
                have q9 : iZ (mBal dir Fr To v (i + 1)) = iZ (((mBal dir Fr To v i) + 1) + 1) := by congr 1; simp only [mBal]; simp [*]
                rw [q9]; exact hl
              refine lv_iinc (v := nI (i + 1)) (lv' := [(3, .int (nI (i + 1))), (2, .int (iZ (mBal dir Fr To v (i + 1)))), (0, .ref mo), (1, .int (nI v))]) hx hb dX6_balance_55 hl (k := 3) rfl (nI_1 i) (by decide) rfl (fun ls hl => ?_)
              refine lv_goto (tgt := 4) hx hb dX6_balance_58 (by decide) ?_
              exact ih4 (i + 1) (by omega) (by omega) ls (lv_sub hl [2, 3, 1, 0] (by rfl))
            · skip
              refine lv_iconst (v := iZ (-1)) hx hb dX6_balance_48 (by decide) ?_
              refine lv_goto (tgt := 53) hx hb dX6_balance_49 (by decide) ?_
              refine lv_iadd hx hb dX6_balance_53 ?_
              refine z_topi (v := iZ (((mBal dir Fr To v i) + 1) + (-1))) (iZ_add ((mBal dir Fr To v i) + 1) (-1)) ?_
              refine lv_istore_n (lv' := [(2, .int (iZ (((mBal dir Fr To v i) + 1) + (-1)))), (0, .ref mo), (1, .int (nI v)), (3, .int (nI i))]) hx hb dX6_balance_54 rfl hl (by decide) rfl (fun ls hl => ?_)
              have hl : lv_has ls 4 [(2, .int (iZ (mBal dir Fr To v (i + 1)))), (0, .ref mo), (1, .int (nI v)), (3, .int (nI i))] := by
                have q9 : iZ (mBal dir Fr To v (i + 1)) = iZ (((mBal dir Fr To v i) + 1) + (-1)) := by congr 1; simp only [mBal]; simp [*]
                rw [q9]; exact hl
              refine lv_iinc (v := nI (i + 1)) (lv' := [(3, .int (nI (i + 1))), (2, .int (iZ (mBal dir Fr To v (i + 1)))), (0, .ref mo), (1, .int (nI v))]) hx hb dX6_balance_55 hl (k := 3) rfl (nI_1 i) (by decide) rfl (fun ls hl => ?_)
              refine lv_goto (tgt := 4) hx hb dX6_balance_58 (by decide) ?_
              exact ih4 (i + 1) (by omega) (by omega) ls (lv_sub hl [2, 3, 1, 0] (by rfl))
  exact J4 ((me - 0) + 1) 0 (by omega) (by omega) ls (lv_sub hl [2, 3, 1, 0] (by rfl))
set_option maxHeartbeats 4000000 in
set_option maxRecDepth 100000 in
/-- Model.isOdd -/
theorem c_X6_isOdd (l : Launch) (D : va_G) (cA : Nat → ClassId) (mo : Nat) (mf : Nat) (mt : Nat) (mw : Nat) (mr : Nat) (mp : Nat) (mx : Nat) (mfa : Nat) (mbi : Nat) (mod1 : Nat) (msc : Nat) (msb : Nat) (msu : Nat) (mwy : Nat) (mre : Nat) (mby : Nat) (msm : Nat) (mle : Nat) (mgr : Nat) (mth : Nat) (dir : Bool) (nv : Nat) (me : Nat) (mrn : Nat) (mst : Nat) (mhr : Bool) (mon : Nat) (Fr : Nat → Nat) (To : Nat → Nat) (v : Nat) (hme : me ≤ 40) (hF : ∀ j, Fr j < 16) (hT : ∀ j, To j < 16) (hv : v < 2 ^ 31) : Met l yX6_isOdd wsX6_isOdd ({ frames := 1, cells := 0, slots := 0, locals := 23 } : Room) (zRd D vwCl (zT cA) [(mo, .inr (6, [.int (nI mth), .int (zB dir), .int (nI nv), .int (nI me), .ref mf, .ref mt, .ref mw, .ref mr, .int (nI mrn), .ref mp, .int (nI mst), .int (zB mhr), .ref mx, .ref mfa, .ref mbi, .ref mod1, .int (nI mon), .ref msc, .ref msb, .ref msu, .ref mwy, .ref mre, .ref mby, .ref msm, .ref mle, .ref mgr])), (mf, aI cA 40 (fun j => nI (Fr j))), (mt, aI cA 40 (fun j => nI (To j)))] [.ref mo, .int (nI v)]) (vp_Si (fun r => r = zB (mOdd dir Fr To me v))) 0 0 (fun _ => False) := by
  refine z_read (cc := cX6_isOdd) (maxL := 2) (ret := (some .boolean)) (by decide) rfl (Nat.le_of_ble_eq_true rfl) ?_
  intro p e s m below meth c hx hb hr hml hown hts hlocks hP hK Q hQ ls hl
  have hown : s.vm.findClass RX6 = some m.cls := hown
  have hl : lv_has ls 2 [(0, .ref mo), (1, .int (nI v))] := hl
  generalize hav : ([.ref mo, .int (nI v)] : List Value).toArray = args at hts hQ ⊢
  have hin6 : ∀ w ∈ wsX60, w ∈ wsX6_isOdd := by decide +kernel
  refine lv_aload_n hx hb dX6_isOdd_0 rfl (lv_at hl 0 rfl) ?_
  refine va_get (D := D) (ci := 6) (v := .int (zB dir)) (C := RX6) (T := TX6) (N := 26) hx hb hts hin6 hown hK hP 0 rfl rfl 1 (by decide) (hts (.fieldLink RX6 88 "TourHouseModel" "directed" "Z") (by decide +kernel)) (fun _ h9 => h9) rfl dX6_isOdd_1 ?_
  refine z_ifeq hx hb (tgt := 23) dX6_isOdd_4 (by decide) (fun h4 => ?_) (fun h4 => ?_)
  · skip
    refine lv_aload_n hx hb dX6_isOdd_23 rfl (lv_at hl 0 rfl) ?_
    refine lv_iload_n hx hb dX6_isOdd_24 rfl (lv_at hl 1 rfl) ?_
    refine z_cRVi (wc := [(mo, .inr (6, [.int (nI mth), .int (zB dir), .int (nI nv), .int (nI me), .ref mf, .ref mt, .ref mw, .ref mr, .int (nI mrn), .ref mp, .int (nI mst), .int (zB mhr), .ref mx, .ref mfa, .ref mbi, .ref mod1, .int (nI mon), .ref msc, .ref msb, .ref msu, .ref mwy, .ref mre, .ref mby, .ref msm, .ref mle, .ref mgr])), (mf, aI cA 40 (fun j => nI (Fr j))), (mt, aI cA 40 (fun j => nI (To j)))]) (rm := ({ frames := 0, cells := 0, slots := 0, locals := 0 } : Room)) (As := [.int (nI v)]) (rest := []) ⟨hx, hb, hml, hown, hts⟩ (c_X6_balance l D cA mo mf mt mw mr mp mx mfa mbi mod1 msc msb msu mwy mre mby msm mle mgr mth dir nv me mrn mst mhr mon Fr To v (by first | assumption | omega) (by first | assumption | omega) (by first | assumption | omega) (by first | assumption | omega)) (cwV 1 hts gX6_isOdd_X6_balance rfl rfl rfl (by decide +kernel) ⟨Nat.le_of_ble_eq_true rfl, Nat.le_of_ble_eq_true rfl⟩) hP hK [0, 1, 2] rfl 6 0 rfl rfl rfl hl.1 rfl (Nat.le_of_ble_eq_true rfl) ⟨Nat.zero_le _, Nat.zero_le _⟩ dX6_isOdd_25 (fun r hr25 => ?_)
    subst hr25
    refine lv_iconst (v := nI 2) hx hb dX6_isOdd_28 (by decide) ?_
    refine lv_irem hx hb dX6_isOdd_29 (by decide) ?_
    refine z_topi (v := iZ (Int.tmod (mBal dir Fr To v me) 2)) (nb_rem2 (by have := mBal_rng dir Fr To v me; omega) (by have := mBal_rng dir Fr To v me; omega)) ?_
    refine z_ieq hx hb (x := Int.tmod (mBal dir Fr To v me) 2) (⟨by have := tmod2_rng (mBal dir Fr To v me); omega, by have := tmod2_rng (mBal dir Fr To v me); omega⟩) (tgt := 37) dX6_isOdd_30 (by decide) (fun h30 => ?_) (fun h30 => ?_)
    · skip
      refine lv_iconst (v := zB false) hx hb dX6_isOdd_37 (by decide) ?_
      exact z_zretR hx hb hr hlocks hQ (by congr 1; first | (rw [mOdd, if_pos h4]; simp [h12]) | (rw [mOdd, if_neg (by rw [h4]; decide)]; simp [h30])) dX6_isOdd_38 rfl rfl
    · skip
      refine lv_iconst (v := zB true) hx hb dX6_isOdd_33 (by decide) ?_
      refine lv_goto (tgt := 38) hx hb dX6_isOdd_34 (by decide) ?_
      exact z_zretR hx hb hr hlocks hQ (by congr 1; first | (rw [mOdd, if_pos h4]; simp [h12]) | (rw [mOdd, if_neg (by rw [h4]; decide)]; simp [h30])) dX6_isOdd_38 rfl rfl
  · skip
    refine lv_aload_n hx hb dX6_isOdd_7 rfl (lv_at hl 0 rfl) ?_
    refine lv_iload_n hx hb dX6_isOdd_8 rfl (lv_at hl 1 rfl) ?_
    refine z_cRVi (wc := [(mo, .inr (6, [.int (nI mth), .int (zB dir), .int (nI nv), .int (nI me), .ref mf, .ref mt, .ref mw, .ref mr, .int (nI mrn), .ref mp, .int (nI mst), .int (zB mhr), .ref mx, .ref mfa, .ref mbi, .ref mod1, .int (nI mon), .ref msc, .ref msb, .ref msu, .ref mwy, .ref mre, .ref mby, .ref msm, .ref mle, .ref mgr])), (mf, aI cA 40 (fun j => nI (Fr j))), (mt, aI cA 40 (fun j => nI (To j)))]) (rm := ({ frames := 0, cells := 0, slots := 0, locals := 0 } : Room)) (As := [.int (nI v)]) (rest := []) ⟨hx, hb, hml, hown, hts⟩ (c_X6_balance l D cA mo mf mt mw mr mp mx mfa mbi mod1 msc msb msu mwy mre mby msm mle mgr mth dir nv me mrn mst mhr mon Fr To v (by first | assumption | omega) (by first | assumption | omega) (by first | assumption | omega) (by first | assumption | omega)) (cwV 1 hts gX6_isOdd_X6_balance rfl rfl rfl (by decide +kernel) ⟨Nat.le_of_ble_eq_true rfl, Nat.le_of_ble_eq_true rfl⟩) hP hK [0, 1, 2] rfl 6 0 rfl rfl rfl hl.1 rfl (Nat.le_of_ble_eq_true rfl) ⟨Nat.zero_le _, Nat.zero_le _⟩ dX6_isOdd_9 (fun r hr9 => ?_)
    subst hr9
    refine z_ieq hx hb (x := mBal dir Fr To v me) (⟨by have := mBal_rng dir Fr To v me; omega, by have := mBal_rng dir Fr To v me; omega⟩) (tgt := 19) dX6_isOdd_12 (by decide) (fun h12 => ?_) (fun h12 => ?_)
    · skip
      refine lv_iconst (v := zB false) hx hb dX6_isOdd_19 (by decide) ?_
      refine lv_goto (tgt := 38) hx hb dX6_isOdd_20 (by decide) ?_
      exact z_zretR hx hb hr hlocks hQ (by congr 1; first | (rw [mOdd, if_pos h4]; simp [h12]) | (rw [mOdd, if_neg (by rw [h4]; decide)]; simp [h30])) dX6_isOdd_38 rfl rfl
    · skip
      refine lv_iconst (v := zB true) hx hb dX6_isOdd_15 (by decide) ?_
      refine lv_goto (tgt := 38) hx hb dX6_isOdd_16 (by decide) ?_
      exact z_zretR hx hb hr hlocks hQ (by congr 1; first | (rw [mOdd, if_pos h4]; simp [h12]) | (rw [mOdd, if_neg (by rw [h4]; decide)]; simp [h30])) dX6_isOdd_38 rfl rfl
set_option maxHeartbeats 4000000 in
set_option maxRecDepth 100000 in
/-- Model.countOdd -/
theorem c_X6_countOdd (l : Launch) (D : va_G) (cA : Nat → ClassId) (mo : Nat) (mf : Nat) (mt : Nat) (mw : Nat) (mr : Nat) (mp : Nat) (mx : Nat) (mfa : Nat) (mbi : Nat) (mod1 : Nat) (msc : Nat) (msb : Nat) (msu : Nat) (mwy : Nat) (mre : Nat) (mby : Nat) (msm : Nat) (mle : Nat) (mgr : Nat) (mth : Nat) (dir : Bool) (nv : Nat) (me : Nat) (mrn : Nat) (mst : Nat) (mhr : Bool) (mon : Nat) (Fr : Nat → Nat) (To : Nat → Nat) (hme : me ≤ 40) (hF : ∀ j, Fr j < 16) (hT : ∀ j, To j < 16) (hnv : nv ≤ 16) : Met l yX6_countOdd wsX6_countOdd ({ frames := 2, cells := 0, slots := 0, locals := 44 } : Room) (zRd D vwCl (zT cA) [(mo, .inr (6, [.int (nI mth), .int (zB dir), .int (nI nv), .int (nI me), .ref mf, .ref mt, .ref mw, .ref mr, .int (nI mrn), .ref mp, .int (nI mst), .int (zB mhr), .ref mx, .ref mfa, .ref mbi, .ref mod1, .int (nI mon), .ref msc, .ref msb, .ref msu, .ref mwy, .ref mre, .ref mby, .ref msm, .ref mle, .ref mgr])), (mf, aI cA 40 (fun j => nI (Fr j))), (mt, aI cA 40 (fun j => nI (To j)))] [.ref mo]) (vp_Si (fun r => r = nI (mCnt dir Fr To me nv))) 0 0 (fun _ => False) := by
  refine z_read (cc := cX6_countOdd) (maxL := 3) (ret := (some .int)) (by decide) rfl (Nat.le_of_ble_eq_true rfl) ?_
  intro p e s m below meth c hx hb hr hml hown hts hlocks hP hK Q hQ ls hl
  have hown : s.vm.findClass RX6 = some m.cls := hown
  have hl : lv_has ls 3 [(0, .ref mo)] := hl
  generalize hav : ([.ref mo] : List Value).toArray = args at hts hQ ⊢
  have hin6 : ∀ w ∈ wsX60, w ∈ wsX6_countOdd := by decide +kernel
  refine lv_iconst (v := nI (mCnt dir Fr To me 0)) hx hb dX6_countOdd_0 (by rfl) ?_
  refine lv_istore_n (lv' := [(1, .int (nI (mCnt dir Fr To me 0))), (0, .ref mo)]) hx hb dX6_countOdd_1 rfl hl (by decide) rfl (fun ls hl => ?_)
  refine lv_iconst (v := nI 0) hx hb dX6_countOdd_2 (by decide) ?_
  refine lv_istore_n (lv' := [(2, .int (nI 0)), (1, .int (nI (mCnt dir Fr To me 0))), (0, .ref mo)]) hx hb dX6_countOdd_3 rfl hl (by decide) rfl (fun ls hl => ?_)
  have J4 : ∀ (n : Nat), ∀ (i : Nat), (i ≤ nv) → nv - i < n → ∀ (ls : Array Slot), lv_has ls 3 [(0, .ref mo), (1, .int (nI (mCnt dir Fr To me i))), (2, .int (nI i))] → W p l e ({ frames := 2, cells := 0, slots := 0, locals := 44 } : Room) s m args below meth c s.heap [] 0 0 Q (F0 m 4 ls []) := by
    intro n4
    induction n4 with
    | zero => intro i hi hn; exact absurd hn (Nat.not_lt_zero _)
    | succ n4 ih4 =>
      intro i hi hn4 ls hl
      refine lv_iload_n hx hb dX6_countOdd_4 rfl (lv_at hl 2 rfl) ?_
      refine lv_aload_n hx hb dX6_countOdd_5 rfl (lv_at hl 0 rfl) ?_
      refine va_get (D := D) (ci := 6) (v := .int (nI nv)) (C := RX6) (T := TX6) (N := 26) hx hb hts hin6 hown hK hP 0 rfl rfl 2 (by decide) (hts (.fieldLink RX6 7 "TourHouseModel" "n" "I") (by decide +kernel)) (fun _ h9 => h9) rfl dX6_countOdd_6 ?_
      refine z_ge hx hb (by omega) (by omega) (tgt := 34) dX6_countOdd_9 (by decide) (fun h9 => ?_) (fun h9 => ?_)
      · skip
        refine lv_iload_n hx hb dX6_countOdd_34 rfl (lv_at hl 1 rfl) ?_
        exact z_iretR hx hb hr hlocks hQ (by rw [show i = nv from by omega]) dX6_countOdd_35 rfl rfl
      · skip
        refine lv_iload_n hx hb dX6_countOdd_12 rfl (lv_at hl 1 rfl) ?_
        refine lv_aload_n hx hb dX6_countOdd_13 rfl (lv_at hl 0 rfl) ?_
        refine lv_iload_n hx hb dX6_countOdd_14 rfl (lv_at hl 2 rfl) ?_
        refine z_cRVi (wc := [(mo, .inr (6, [.int (nI mth), .int (zB dir), .int (nI nv), .int (nI me), .ref mf, .ref mt, .ref mw, .ref mr, .int (nI mrn), .ref mp, .int (nI mst), .int (zB mhr), .ref mx, .ref mfa, .ref mbi, .ref mod1, .int (nI mon), .ref msc, .ref msb, .ref msu, .ref mwy, .ref mre, .ref mby, .ref msm, .ref mle, .ref mgr])), (mf, aI cA 40 (fun j => nI (Fr j))), (mt, aI cA 40 (fun j => nI (To j)))]) (rm := ({ frames := 1, cells := 0, slots := 0, locals := 23 } : Room)) (As := [.int (nI i)]) (rest := [.int (nI (mCnt dir Fr To me i))]) ⟨hx, hb, hml, hown, hts⟩ (c_X6_isOdd l D cA mo mf mt mw mr mp mx mfa mbi mod1 msc msb msu mwy mre mby msm mle mgr mth dir nv me mrn mst mhr mon Fr To i (by first | assumption | omega) (by first | assumption | omega) (by first | assumption | omega) (by first | assumption | omega)) (cwV 1 hts gX6_countOdd_X6_isOdd rfl rfl rfl (by decide +kernel) ⟨Nat.le_of_ble_eq_true rfl, Nat.le_of_ble_eq_true rfl⟩) hP hK [0, 1, 2] rfl 6 0 rfl rfl rfl hl.1 rfl (Nat.le_of_ble_eq_true rfl) ⟨Nat.zero_le _, Nat.zero_le _⟩ dX6_countOdd_15 (fun r hr15 => ?_)
        subst hr15
        refine z_ifeq hx hb (tgt := 25) dX6_countOdd_18 (by decide) (fun h18 => ?_) (fun h18 => ?_)
        · skip
          refine lv_iconst (v := nI 0) hx hb dX6_countOdd_25 (by decide) ?_
          refine lv_iadd hx hb dX6_countOdd_26 ?_
          refine z_topi (v := nI ((mCnt dir Fr To me i) + 0)) (nI_add (mCnt dir Fr To me i) 0) ?_
          refine lv_istore_n (lv' := [(1, .int (nI ((mCnt dir Fr To me i) + 0))), (0, .ref mo), (2, .int (nI i))]) hx hb dX6_countOdd_27 rfl hl (by decide) rfl (fun ls hl => ?_)
          have hl : lv_has ls 3 [(1, .int (nI (mCnt dir Fr To me (i + 1)))), (0, .ref mo), (2, .int (nI i))] := by
            have q9 : nI (mCnt dir Fr To me (i + 1)) = nI ((mCnt dir Fr To me i) + 0) := by congr 1; simp only [mCnt]; simp [h18]
            rw [q9]; exact hl
          refine lv_iinc (v := nI (i + 1)) (lv' := [(2, .int (nI (i + 1))), (1, .int (nI (mCnt dir Fr To me (i + 1)))), (0, .ref mo)]) hx hb dX6_countOdd_28 hl (k := 2) rfl (nI_1 i) (by decide) rfl (fun ls hl => ?_)
          refine lv_goto (tgt := 4) hx hb dX6_countOdd_31 (by decide) ?_
          exact ih4 (i + 1) (by omega) (by omega) ls (lv_sub hl [2, 1, 0] (by rfl))
        · skip
          refine lv_iconst (v := nI 1) hx hb dX6_countOdd_21 (by decide) ?_
          refine lv_goto (tgt := 26) hx hb dX6_countOdd_22 (by decide) ?_
          refine lv_iadd hx hb dX6_countOdd_26 ?_
          refine z_topi (v := nI ((mCnt dir Fr To me i) + 1)) (nI_add (mCnt dir Fr To me i) 1) ?_
          refine lv_istore_n (lv' := [(1, .int (nI ((mCnt dir Fr To me i) + 1))), (0, .ref mo), (2, .int (nI i))]) hx hb dX6_countOdd_27 rfl hl (by decide) rfl (fun ls hl => ?_)
          have hl : lv_has ls 3 [(1, .int (nI (mCnt dir Fr To me (i + 1)))), (0, .ref mo), (2, .int (nI i))] := by
            have q9 : nI (mCnt dir Fr To me (i + 1)) = nI ((mCnt dir Fr To me i) + 1) := by congr 1; simp only [mCnt]; simp [h18]
            rw [q9]; exact hl
          refine lv_iinc (v := nI (i + 1)) (lv' := [(2, .int (nI (i + 1))), (1, .int (nI (mCnt dir Fr To me (i + 1)))), (0, .ref mo)]) hx hb dX6_countOdd_28 hl (k := 2) rfl (nI_1 i) (by decide) rfl (fun ls hl => ?_)
          refine lv_goto (tgt := 4) hx hb dX6_countOdd_31 (by decide) ?_
          exact ih4 (i + 1) (by omega) (by omega) ls (lv_sub hl [2, 1, 0] (by rfl))
  exact J4 ((nv - 0) + 1) 0 (by omega) (by omega) ls (lv_sub hl [2, 1, 0] (by rfl))
set_option maxHeartbeats 4000000 in
set_option maxRecDepth 100000 in
/-- Model.hasEdge -/
theorem c_X6_hasEdge (l : Launch) (D : va_G) (cA : Nat → ClassId) (mo : Nat) (mf : Nat) (mt : Nat) (mw : Nat) (mr : Nat) (mp : Nat) (mx : Nat) (mfa : Nat) (mbi : Nat) (mod1 : Nat) (msc : Nat) (msb : Nat) (msu : Nat) (mwy : Nat) (mre : Nat) (mby : Nat) (msm : Nat) (mle : Nat) (mgr : Nat) (mth : Nat) (dir : Bool) (nv : Nat) (me : Nat) (mrn : Nat) (mst : Nat) (mhr : Bool) (mon : Nat) (Fr : Nat → Nat) (To : Nat → Nat) (v : Nat) (hme : me ≤ 40) (hF : ∀ j, Fr j < 16) (hT : ∀ j, To j < 16) (hv : v < 2 ^ 31) : Met l yX6_hasEdge wsX6_hasEdge ({ frames := 0, cells := 0, slots := 0, locals := 0 } : Room) (zRd D vwCl (zT cA) [(mo, .inr (6, [.int (nI mth), .int (zB dir), .int (nI nv), .int (nI me), .ref mf, .ref mt, .ref mw, .ref mr, .int (nI mrn), .ref mp, .int (nI mst), .int (zB mhr), .ref mx, .ref mfa, .ref mbi, .ref mod1, .int (nI mon), .ref msc, .ref msb, .ref msu, .ref mwy, .ref mre, .ref mby, .ref msm, .ref mle, .ref mgr])), (mf, aI cA 40 (fun j => nI (Fr j))), (mt, aI cA 40 (fun j => nI (To j)))] [.ref mo, .int (nI v)]) (vp_Si (fun r => r = zB (mHas Fr To v me))) 0 0 (fun _ => False) := by
  refine z_read (cc := cX6_hasEdge) (maxL := 4) (ret := (some .boolean)) (by decide) rfl (Nat.le_of_ble_eq_true rfl) ?_
  intro p e s m below meth c hx hb hr hml hown hts hlocks hP hK Q hQ ls hl
  have hown : s.vm.findClass RX6 = some m.cls := hown
  have hl : lv_has ls 4 [(0, .ref mo), (1, .int (nI v))] := hl
  generalize hav : ([.ref mo, .int (nI v)] : List Value).toArray = args at hts hQ ⊢
  have hin6 : ∀ w ∈ wsX60, w ∈ wsX6_hasEdge := by decide +kernel
  refine lv_iconst (v := zB (mHas Fr To v 0)) hx hb dX6_hasEdge_0 (by rfl) ?_
  refine lv_istore_n (lv' := [(2, .int (zB (mHas Fr To v 0))), (0, .ref mo), (1, .int (nI v))]) hx hb dX6_hasEdge_1 rfl hl (by decide) rfl (fun ls hl => ?_)
  refine lv_iconst (v := nI 0) hx hb dX6_hasEdge_2 (by decide) ?_
  refine lv_istore_n (lv' := [(3, .int (nI 0)), (2, .int (zB (mHas Fr To v 0))), (0, .ref mo), (1, .int (nI v))]) hx hb dX6_hasEdge_3 rfl hl (by decide) rfl (fun ls hl => ?_)
  have J4 : ∀ (n : Nat), ∀ (i : Nat), (i ≤ me) → me - i < n → ∀ (ls : Array Slot), lv_has ls 4 [(0, .ref mo), (1, .int (nI v)), (2, .int (zB (mHas Fr To v i))), (3, .int (nI i))] → W p l e ({ frames := 0, cells := 0, slots := 0, locals := 0 } : Room) s m args below meth c s.heap [] 0 0 Q (F0 m 4 ls []) := by
    intro n4
    induction n4 with
    | zero => intro i hi hn; exact absurd hn (Nat.not_lt_zero _)
    | succ n4 ih4 =>
      intro i hi hn4 ls hl
      refine lv_iload_n hx hb dX6_hasEdge_4 rfl (lv_at hl 3 rfl) ?_
      refine lv_aload_n hx hb dX6_hasEdge_5 rfl (lv_at hl 0 rfl) ?_
      refine va_get (D := D) (ci := 6) (v := .int (nI me)) (C := RX6) (T := TX6) (N := 26) hx hb hts hin6 hown hK hP 0 rfl rfl 3 (by decide) (hts (.fieldLink RX6 85 "TourHouseModel" "m" "I") (by decide +kernel)) (fun _ h9 => h9) rfl dX6_hasEdge_6 ?_
      refine z_ge hx hb (by omega) (by omega) (tgt := 48) dX6_hasEdge_9 (by decide) (fun h9 => ?_) (fun h9 => ?_)
      · skip
        refine lv_iload_n hx hb dX6_hasEdge_48 rfl (lv_at hl 2 rfl) ?_
        exact z_zretR hx hb hr hlocks hQ (by rw [show i = me from by omega]) dX6_hasEdge_49 rfl rfl
      · skip
        refine lv_iload_n hx hb dX6_hasEdge_12 rfl (lv_at hl 2 rfl) ?_
        refine z_ifne hx hb (tgt := 36) dX6_hasEdge_13 (by decide) (fun h13 => ?_) (fun h13 => ?_)
        · skip
          refine lv_iconst (v := zB true) hx hb dX6_hasEdge_36 (by decide) ?_
          refine lv_goto (tgt := 41) hx hb dX6_hasEdge_37 (by decide) ?_
          refine z_topi (v := zB (mHas Fr To v (i + 1))) (by congr 1; simp [mHas, *]) ?_
          refine lv_istore_n (lv' := [(2, .int (zB (mHas Fr To v (i + 1)))), (0, .ref mo), (1, .int (nI v)), (3, .int (nI i))]) hx hb dX6_hasEdge_41 rfl hl (by decide) rfl (fun ls hl => ?_)
          refine lv_iinc (v := nI (i + 1)) (lv' := [(3, .int (nI (i + 1))), (2, .int (zB (mHas Fr To v (i + 1)))), (0, .ref mo), (1, .int (nI v))]) hx hb dX6_hasEdge_42 hl (k := 3) rfl (nI_1 i) (by decide) rfl (fun ls hl => ?_)
          refine lv_goto (tgt := 4) hx hb dX6_hasEdge_45 (by decide) ?_
          exact ih4 (i + 1) (by omega) (by omega) ls (lv_sub hl [2, 3, 1, 0] (by rfl))
        · skip
          refine lv_aload_n hx hb dX6_hasEdge_16 rfl (lv_at hl 0 rfl) ?_
          refine va_get (D := D) (ci := 6) (v := .ref mf) (C := RX6) (T := TX6) (N := 26) hx hb hts hin6 hown hK hP 0 rfl rfl 4 (by decide) (hts (.fieldLink RX6 13 "TourHouseModel" "from" "[I") (by decide +kernel)) (fun _ h9 => h9) rfl dX6_hasEdge_17 ?_
          refine lv_iload_n hx hb dX6_hasEdge_20 rfl (lv_at hl 3 rfl) ?_
          refine z_iald hx hb hK hP 1 0 rfl rfl (k := i) (by omega) (by decide) (v := nI (Fr i)) rfl dX6_hasEdge_21 ?_
          refine lv_iload_n hx hb dX6_hasEdge_22 rfl (lv_at hl 1 rfl) ?_
          refine z_eq hx hb (Nat.lt_trans (hF _) (by decide)) (by omega) (tgt := 36) dX6_hasEdge_23 (by decide) (fun h23 => ?_) (fun h23 => ?_)
          · skip
            refine lv_iconst (v := zB true) hx hb dX6_hasEdge_36 (by decide) ?_
            refine lv_goto (tgt := 41) hx hb dX6_hasEdge_37 (by decide) ?_
            refine z_topi (v := zB (mHas Fr To v (i + 1))) (by congr 1; simp [mHas, *]) ?_
            refine lv_istore_n (lv' := [(2, .int (zB (mHas Fr To v (i + 1)))), (0, .ref mo), (1, .int (nI v)), (3, .int (nI i))]) hx hb dX6_hasEdge_41 rfl hl (by decide) rfl (fun ls hl => ?_)
            refine lv_iinc (v := nI (i + 1)) (lv' := [(3, .int (nI (i + 1))), (2, .int (zB (mHas Fr To v (i + 1)))), (0, .ref mo), (1, .int (nI v))]) hx hb dX6_hasEdge_42 hl (k := 3) rfl (nI_1 i) (by decide) rfl (fun ls hl => ?_)
            refine lv_goto (tgt := 4) hx hb dX6_hasEdge_45 (by decide) ?_
            exact ih4 (i + 1) (by omega) (by omega) ls (lv_sub hl [2, 3, 1, 0] (by rfl))
          · skip
            refine lv_aload_n hx hb dX6_hasEdge_26 rfl (lv_at hl 0 rfl) ?_
            refine va_get (D := D) (ci := 6) (v := .ref mt) (C := RX6) (T := TX6) (N := 26) hx hb hts hin6 hown hK hP 0 rfl rfl 5 (by decide) (hts (.fieldLink RX6 17 "TourHouseModel" "to" "[I") (by decide +kernel)) (fun _ h9 => h9) rfl dX6_hasEdge_27 ?_
            refine lv_iload_n hx hb dX6_hasEdge_30 rfl (lv_at hl 3 rfl) ?_
            refine z_iald hx hb hK hP 2 0 rfl rfl (k := i) (by omega) (by decide) (v := nI (To i)) rfl dX6_hasEdge_31 ?_
            refine lv_iload_n hx hb dX6_hasEdge_32 rfl (lv_at hl 1 rfl) ?_
            refine z_ne hx hb (Nat.lt_trans (hT _) (by decide)) (by omega) (tgt := 40) dX6_hasEdge_33 (by decide) (fun h33 => ?_) (fun h33 => ?_)
            · skip
              refine lv_iconst (v := zB false) hx hb dX6_hasEdge_40 (by decide) ?_
              refine z_topi (v := zB (mHas Fr To v (i + 1))) (by congr 1; simp [mHas, *]) ?_
              refine lv_istore_n (lv' := [(2, .int (zB (mHas Fr To v (i + 1)))), (0, .ref mo), (1, .int (nI v)), (3, .int (nI i))]) hx hb dX6_hasEdge_41 rfl hl (by decide) rfl (fun ls hl => ?_)
              refine lv_iinc (v := nI (i + 1)) (lv' := [(3, .int (nI (i + 1))), (2, .int (zB (mHas Fr To v (i + 1)))), (0, .ref mo), (1, .int (nI v))]) hx hb dX6_hasEdge_42 hl (k := 3) rfl (nI_1 i) (by decide) rfl (fun ls hl => ?_)
              refine lv_goto (tgt := 4) hx hb dX6_hasEdge_45 (by decide) ?_
              exact ih4 (i + 1) (by omega) (by omega) ls (lv_sub hl [2, 3, 1, 0] (by rfl))
            · skip
              refine lv_iconst (v := zB true) hx hb dX6_hasEdge_36 (by decide) ?_
              refine lv_goto (tgt := 41) hx hb dX6_hasEdge_37 (by decide) ?_
              refine z_topi (v := zB (mHas Fr To v (i + 1))) (by congr 1; simp [mHas, *]) ?_
              refine lv_istore_n (lv' := [(2, .int (zB (mHas Fr To v (i + 1)))), (0, .ref mo), (1, .int (nI v)), (3, .int (nI i))]) hx hb dX6_hasEdge_41 rfl hl (by decide) rfl (fun ls hl => ?_)
              refine lv_iinc (v := nI (i + 1)) (lv' := [(3, .int (nI (i + 1))), (2, .int (zB (mHas Fr To v (i + 1)))), (0, .ref mo), (1, .int (nI v))]) hx hb dX6_hasEdge_42 hl (k := 3) rfl (nI_1 i) (by decide) rfl (fun ls hl => ?_)
              refine lv_goto (tgt := 4) hx hb dX6_hasEdge_45 (by decide) ?_
              exact ih4 (i + 1) (by omega) (by omega) ls (lv_sub hl [2, 3, 1, 0] (by rfl))
  exact J4 ((me - 0) + 1) 0 (by omega) (by omega) ls (lv_sub hl [2, 3, 1, 0] (by rfl))
set_option maxHeartbeats 4000000 in
set_option maxRecDepth 100000 in
/-- Model.goes -/
theorem c_X6_goes (l : Launch) (D : va_G) (cA : Nat → ClassId) (mo : Nat) (mf : Nat) (mt : Nat) (mw : Nat) (mr : Nat) (mp : Nat) (mx : Nat) (mfa : Nat) (mbi : Nat) (mod1 : Nat) (msc : Nat) (msb : Nat) (msu : Nat) (mwy : Nat) (mre : Nat) (mby : Nat) (msm : Nat) (mle : Nat) (mgr : Nat) (mth : Nat) (dir : Bool) (nv : Nat) (me : Nat) (mrn : Nat) (mst : Nat) (mhr : Bool) (mon : Nat) (Fr : Nat → Nat) (To : Nat → Nat) (v : Nat) (z : Int) (hme : me ≤ 40) (hF : ∀ j, Fr j < 16) (hT : ∀ j, To j < 16) (hv : v < 16) (hz : -2147483648 ≤ z ∧ z < 2147483648) : Met l yX6_goes wsX6_goes ({ frames := 0, cells := 0, slots := 0, locals := 0 } : Room) (zRd D vwCl (zT cA) [(mo, .inr (6, [.int (nI mth), .int (zB dir), .int (nI nv), .int (nI me), .ref mf, .ref mt, .ref mw, .ref mr, .int (nI mrn), .ref mp, .int (nI mst), .int (zB mhr), .ref mx, .ref mfa, .ref mbi, .ref mod1, .int (nI mon), .ref msc, .ref msb, .ref msu, .ref mwy, .ref mre, .ref mby, .ref msm, .ref mle, .ref mgr])), (mf, aI cA 40 (fun j => nI (Fr j))), (mt, aI cA 40 (fun j => nI (To j)))] [.ref mo, .int (nI v), .int (iZ z)]) (vp_Si (fun r => r = iZ (mGo dir Fr To me v z))) 0 0 (fun _ => False) := by
  refine z_read (cc := cX6_goes) (maxL := 4) (ret := (some .int)) (by decide) rfl (Nat.le_of_ble_eq_true rfl) ?_
  intro p e s m below meth c hx hb hr hml hown hts hlocks hP hK Q hQ ls hl
  have hown : s.vm.findClass RX6 = some m.cls := hown
  have hl : lv_has ls 4 [(0, .ref mo), (1, .int (nI v)), (2, .int (iZ z))] := hl
  generalize hav : ([.ref mo, .int (nI v), .int (iZ z)] : List Value).toArray = args at hts hQ ⊢
  have hin6 : ∀ w ∈ wsX60, w ∈ wsX6_goes := by decide +kernel
  refine lv_iload_n hx hb dX6_goes_0 rfl (lv_at hl 2 rfl) ?_
  refine z_ilt hx hb (x := z) (hz) (tgt := 14) dX6_goes_1 (by decide) (fun h1 => ?_) (fun h1 => ?_)
  · skip
    refine lv_iconst (v := iZ (-1)) hx hb dX6_goes_14 (by decide) ?_
    exact z_iretR hx hb hr hlocks hQ (by rw [mGo, if_pos (by omega)]) dX6_goes_15 rfl rfl
  · skip
    refine lv_iload_n hx hb dX6_goes_4 rfl (lv_at hl 2 rfl) ?_
    refine lv_iconst (v := nI 2) hx hb dX6_goes_5 (by decide) ?_
    refine lv_aload_n hx hb dX6_goes_6 rfl (lv_at hl 0 rfl) ?_
    refine va_get (D := D) (ci := 6) (v := .int (nI me)) (C := RX6) (T := TX6) (N := 26) hx hb hts hin6 hown hK hP 0 rfl rfl 3 (by decide) (hts (.fieldLink RX6 85 "TourHouseModel" "m" "I") (by decide +kernel)) (fun _ h9 => h9) rfl dX6_goes_7 ?_
    refine lv_imul hx hb dX6_goes_10 ?_
    refine z_topi (v := nI (2 * me)) (pk_mul 2 me) ?_
    refine z_Ilt hx hb (x := z) (y := ((2 * me : Nat) : Int)) (hz) (⟨by omega, by omega⟩) (tgt := 16) dX6_goes_11 (by decide) (fun h11 => ?_) (fun h11 => ?_)
    · skip
      refine lv_iload_n hx hb dX6_goes_16 rfl (lv_at hl 2 rfl) ?_
      refine z_topi (v := nI z.toNat) (iZ_toNat (by omega)) ?_
      refine lv_iconst (v := nI 2) hx hb dX6_goes_17 (by decide) ?_
      refine lv_idiv hx hb dX6_goes_18 (by decide) ?_
      refine z_topi (v := nI (z.toNat / 2)) (pk_div (by omega) (by decide) (by decide)) ?_
      refine lv_istore_n (lv' := [(3, .int (nI (z.toNat / 2))), (0, .ref mo), (1, .int (nI v)), (2, .int (iZ z))]) hx hb dX6_goes_19 rfl hl (by decide) rfl (fun ls hl => ?_)
      refine lv_iload_n hx hb dX6_goes_20 rfl (lv_at hl 3 rfl) ?_
      refine z_topi (v := nI z.toNat) (iZ_toNat (by omega)) ?_
      refine lv_iconst (v := nI 2) hx hb dX6_goes_21 (by decide) ?_
      refine lv_irem hx hb dX6_goes_22 (by decide) ?_
      refine z_topi (v := nI (z.toNat % 2)) (pk_rem (by omega) (by decide) (by decide)) ?_
      refine z_nne hx hb (by omega) (tgt := 47) dX6_goes_23 (by decide) (fun h23 => ?_) (fun h23 => ?_)
      · skip
        refine lv_aload_n hx hb dX6_goes_47 rfl (lv_at hl 1 rfl) ?_
        refine va_get (D := D) (ci := 6) (v := .int (zB dir)) (C := RX6) (T := TX6) (N := 26) hx hb hts hin6 hown hK hP 0 rfl rfl 1 (by decide) (hts (.fieldLink RX6 88 "TourHouseModel" "directed" "Z") (by decide +kernel)) (fun _ h9 => h9) rfl dX6_goes_48 ?_
        refine z_ifne hx hb (tgt := 88) dX6_goes_51 (by decide) (fun h51 => ?_) (fun h51 => ?_)
        · skip
          refine lv_iconst (v := iZ (-1)) hx hb dX6_goes_88 (by decide) ?_
          exact z_iretR hx hb hr hlocks hQ (by rw [mGo, if_neg (by omega), if_neg (by omega)]; first | (rw [if_pos ⟨h51, h66, h76⟩]; rfl) | (rw [if_neg (by simp_all)])) dX6_goes_89 rfl rfl
        · skip
          refine lv_aload_n hx hb dX6_goes_54 rfl (lv_at hl 1 rfl) ?_
          refine va_get (D := D) (ci := 6) (v := .ref mf) (C := RX6) (T := TX6) (N := 26) hx hb hts hin6 hown hK hP 0 rfl rfl 4 (by decide) (hts (.fieldLink RX6 13 "TourHouseModel" "from" "[I") (by decide +kernel)) (fun _ h9 => h9) rfl dX6_goes_55 ?_
          refine lv_iload_n hx hb dX6_goes_58 rfl (lv_at hl 0 rfl) ?_
          refine z_iald hx hb hK hP 1 0 rfl rfl (k := (z.toNat / 2)) (by omega) (by decide) (v := nI (Fr (z.toNat / 2))) rfl dX6_goes_59 ?_
          refine lv_aload_n hx hb dX6_goes_60 rfl (lv_at hl 1 rfl) ?_
          refine va_get (D := D) (ci := 6) (v := .ref mt) (C := RX6) (T := TX6) (N := 26) hx hb hts hin6 hown hK hP 0 rfl rfl 5 (by decide) (hts (.fieldLink RX6 17 "TourHouseModel" "to" "[I") (by decide +kernel)) (fun _ h9 => h9) rfl dX6_goes_61 ?_
          refine lv_iload_n hx hb dX6_goes_64 rfl (lv_at hl 0 rfl) ?_
          refine z_iald hx hb hK hP 2 0 rfl rfl (k := (z.toNat / 2)) (by omega) (by decide) (v := nI (To (z.toNat / 2))) rfl dX6_goes_65 ?_
          refine z_eq hx hb (Nat.lt_trans (hF _) (by decide)) (Nat.lt_trans (hT _) (by decide)) (tgt := 88) dX6_goes_66 (by decide) (fun h66 => ?_) (fun h66 => ?_)
          · skip
            refine lv_iconst (v := iZ (-1)) hx hb dX6_goes_88 (by decide) ?_
            exact z_iretR hx hb hr hlocks hQ (by rw [mGo, if_neg (by omega), if_neg (by omega)]; first | (rw [if_pos ⟨h51, h66, h76⟩]; rfl) | (rw [if_neg (by simp_all)])) dX6_goes_89 rfl rfl
          · skip
            refine lv_aload_n hx hb dX6_goes_69 rfl (lv_at hl 1 rfl) ?_
            refine va_get (D := D) (ci := 6) (v := .ref mt) (C := RX6) (T := TX6) (N := 26) hx hb hts hin6 hown hK hP 0 rfl rfl 5 (by decide) (hts (.fieldLink RX6 17 "TourHouseModel" "to" "[I") (by decide +kernel)) (fun _ h9 => h9) rfl dX6_goes_70 ?_
            refine lv_iload_n hx hb dX6_goes_73 rfl (lv_at hl 0 rfl) ?_
            refine z_iald hx hb hK hP 2 0 rfl rfl (k := (z.toNat / 2)) (by omega) (by decide) (v := nI (To (z.toNat / 2))) rfl dX6_goes_74 ?_
            refine lv_iload_n hx hb dX6_goes_75 rfl (lv_at hl 2 rfl) ?_
            refine z_ne hx hb (Nat.lt_trans (hT _) (by decide)) (by omega) (tgt := 88) dX6_goes_76 (by decide) (fun h76 => ?_) (fun h76 => ?_)
            · skip
              refine lv_iconst (v := iZ (-1)) hx hb dX6_goes_88 (by decide) ?_
              exact z_iretR hx hb hr hlocks hQ (by rw [mGo, if_neg (by omega), if_neg (by omega)]; first | (rw [if_pos ⟨h51, h66, h76⟩]; rfl) | (rw [if_neg (by simp_all)])) dX6_goes_89 rfl rfl
            · skip
              refine lv_aload_n hx hb dX6_goes_79 rfl (lv_at hl 1 rfl) ?_
              refine va_get (D := D) (ci := 6) (v := .ref mf) (C := RX6) (T := TX6) (N := 26) hx hb hts hin6 hown hK hP 0 rfl rfl 4 (by decide) (hts (.fieldLink RX6 13 "TourHouseModel" "from" "[I") (by decide +kernel)) (fun _ h9 => h9) rfl dX6_goes_80 ?_
              refine lv_iload_n hx hb dX6_goes_83 rfl (lv_at hl 0 rfl) ?_
              refine z_iald hx hb hK hP 1 0 rfl rfl (k := (z.toNat / 2)) (by omega) (by decide) (v := nI (Fr (z.toNat / 2))) rfl dX6_goes_84 ?_
              refine lv_goto (tgt := 89) hx hb dX6_goes_85 (by decide) ?_
              exact z_iretR hx hb hr hlocks hQ (by rw [mGo, if_neg (by omega), if_neg (by omega)]; first | (rw [if_pos ⟨h51, h66, h76⟩]; rfl) | (rw [if_neg (by simp_all)])) dX6_goes_89 rfl rfl
      · skip
        refine lv_aload_n hx hb dX6_goes_26 rfl (lv_at hl 1 rfl) ?_
        refine va_get (D := D) (ci := 6) (v := .ref mf) (C := RX6) (T := TX6) (N := 26) hx hb hts hin6 hown hK hP 0 rfl rfl 4 (by decide) (hts (.fieldLink RX6 13 "TourHouseModel" "from" "[I") (by decide +kernel)) (fun _ h9 => h9) rfl dX6_goes_27 ?_
        refine lv_iload_n hx hb dX6_goes_30 rfl (lv_at hl 0 rfl) ?_
        refine z_iald hx hb hK hP 1 0 rfl rfl (k := (z.toNat / 2)) (by omega) (by decide) (v := nI (Fr (z.toNat / 2))) rfl dX6_goes_31 ?_
        refine lv_iload_n hx hb dX6_goes_32 rfl (lv_at hl 2 rfl) ?_
        refine z_ne hx hb (Nat.lt_trans (hF _) (by decide)) (by omega) (tgt := 45) dX6_goes_33 (by decide) (fun h33 => ?_) (fun h33 => ?_)
        · skip
          refine lv_iconst (v := iZ (-1)) hx hb dX6_goes_45 (by decide) ?_
          exact z_iretR hx hb hr hlocks hQ (by rw [mGo, if_neg (by omega), if_pos (by omega)]; first | (rw [if_pos h33]; rfl) | rw [if_neg h33]) dX6_goes_46 rfl rfl
        · skip
          refine lv_aload_n hx hb dX6_goes_36 rfl (lv_at hl 1 rfl) ?_
          refine va_get (D := D) (ci := 6) (v := .ref mt) (C := RX6) (T := TX6) (N := 26) hx hb hts hin6 hown hK hP 0 rfl rfl 5 (by decide) (hts (.fieldLink RX6 17 "TourHouseModel" "to" "[I") (by decide +kernel)) (fun _ h9 => h9) rfl dX6_goes_37 ?_
          refine lv_iload_n hx hb dX6_goes_40 rfl (lv_at hl 0 rfl) ?_
          refine z_iald hx hb hK hP 2 0 rfl rfl (k := (z.toNat / 2)) (by omega) (by decide) (v := nI (To (z.toNat / 2))) rfl dX6_goes_41 ?_
          refine lv_goto (tgt := 46) hx hb dX6_goes_42 (by decide) ?_
          exact z_iretR hx hb hr hlocks hQ (by rw [mGo, if_neg (by omega), if_pos (by omega)]; first | (rw [if_pos h33]; rfl) | rw [if_neg h33]) dX6_goes_46 rfl rfl
    · skip
      refine lv_iconst (v := iZ (-1)) hx hb dX6_goes_14 (by decide) ?_
      exact z_iretR hx hb hr hlocks hQ (by rw [mGo, if_pos (by omega)]) dX6_goes_15 rfl rfl
