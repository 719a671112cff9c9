def mR (φ : (Nat → Int) × (Nat → Int)) : Prop := (∀ j, -9223372036854775808 ≤ φ.1 j ∧ φ.1 j < 9223372036854775808) ∧ (∀ j, -9223372036854775808 ≤ φ.2 j ∧ φ.2 j < 9223372036854775808)
def mWay (φ : (Nat → Int) × (Nat → Int)) (k : Nat) (c t : Int) : (Nat → Int) × (Nat → Int) := if dLess c t (φ.1 k) (φ.2 k) = true then (va_up φ.1 k c, va_up φ.2 k t) else φ
section
variable {φ : (Nat → Int) × (Nat → Int)} {k : Nat} {c t : Int}
theorem mWay_y (h : dLess c t (φ.1 k) (φ.2 k) = true) : mWay φ k c t = (va_up φ.1 k c, va_up φ.2 k t) := by rw [mWay, if_pos h]
theorem mWay_n (h : dLess c t (φ.1 k) (φ.2 k) = false) : mWay φ k c t = φ := by rw [mWay, if_neg (by rw [h]; decide)]
theorem mWay_R (hφ : mR φ) (hc : -9223372036854775808 ≤ c ∧ c < 9223372036854775808) (ht : -9223372036854775808 ≤ t ∧ t < 9223372036854775808) : mR (mWay φ k c t) := by
  unfold mWay; split
  · exact ⟨up_all (P := fun x => -9223372036854775808 ≤ x ∧ x < 9223372036854775808) hφ.1 hc, up_all (P := fun x => -9223372036854775808 ≤ x ∧ x < 9223372036854775808) hφ.2 ht⟩
  · exact hφ
end
def mD (k : Nat) : Int := if k / 16 = k % 16 then 0 else 1152921504606846976
/-- the first i of the table at their start -/
def mI (φ : (Nat → Int) × (Nat → Int)) (i : Nat) : (Nat → Int) × (Nat → Int) := (fun j => if j < i then mD j else φ.1 j, fun j => if j < i then 0 else φ.2 j)
theorem mI_0 {φ : (Nat → Int) × (Nat → Int)} : mI φ 0 = φ := by
  cases φ
  simp [mI]
theorem mI_u1 {φ : (Nat → Int) × (Nat → Int)} {i : Nat} : va_up (mI φ i).1 i (mD i) = (mI φ (i + 1)).1 := by
  funext j
  by_cases e : j = i
  · subst e; rw [up_at]; simp [mI]
  · rw [up_ne e]; simp only [mI]
    by_cases h : j < i
    · rw [if_pos h, if_pos (by omega)]
    · rw [if_neg h, if_neg (by omega)]
theorem mI_u2 {φ : (Nat → Int) × (Nat → Int)} {i : Nat} : va_up (mI φ i).2 i 0 = (mI φ (i + 1)).2 := by
  funext j
  by_cases e : j = i
  · subst e; rw [up_at]; simp [mI]
  · rw [up_ne e]; simp only [mI]
    by_cases h : j < i
    · rw [if_pos h, if_pos (by omega)]
    · rw [if_neg h, if_neg (by omega)]
theorem mI_R {φ : (Nat → Int) × (Nat → Int)} (h : mR φ) (i : Nat) : mR (mI φ i) := by
  constructor
  · intro j
    simp only [mI, mD]
    split
    · split <;> omega
    · exact h.1 j
  · intro j
    simp only [mI]
    split
    · omega
    · exact h.2 j
/-- the first i edges -/
def mE (dir : Bool) (Fr To We : Nat → Nat) (φ : (Nat → Int) × (Nat → Int)) : Nat → (Nat → Int) × (Nat → Int)
  | 0 => φ
  | i + 1 => if dir = true then mWay (mE dir Fr To We φ i) (16 * Fr i + To i) ((We i : Nat) : Int) (2 ^ (39 - i))
    else mWay (mWay (mE dir Fr To We φ i) (16 * Fr i + To i) ((We i : Nat) : Int) (2 ^ (39 - i))) (16 * To i + Fr i) ((We i : Nat) : Int) (2 ^ (39 - i))
section
variable {dir : Bool} {Fr To We : Nat → Nat} {φ : (Nat → Int) × (Nat → Int)} {i : Nat}
theorem mE_t (h : dir = true) : mE dir Fr To We φ (i + 1) = mWay (mE dir Fr To We φ i) (16 * Fr i + To i) ((We i : Nat) : Int) (2 ^ (39 - i)) := by rw [mE, if_pos h]
theorem mE_f (h : dir = false) : mE dir Fr To We φ (i + 1) = mWay (mWay (mE dir Fr To We φ i) (16 * Fr i + To i) ((We i : Nat) : Int) (2 ^ (39 - i))) (16 * To i + Fr i) ((We i : Nat) : Int) (2 ^ (39 - i)) := by rw [mE, if_neg (by rw [h]; decide)]
theorem mE_R (hW : ∀ j, We j ≤ 1000000000) (h : mR φ) : ∀ i, mR (mE dir Fr To We φ i)
  | 0 => h
  | i + 1 => by
    have ih := mE_R hW h i
    have h1 := hW i
    have h2 := pow39 i
    rw [mE]; split
    · exact mWay_R ih (by omega) (by omega)
    · exact mWay_R (mWay_R ih (by omega) (by omega)) (by omega) (by omega)
end
/-- the first k places of the table, by v -/
def mK (φ : (Nat → Int) × (Nat → Int)) (v : Nat) : Nat → (Nat → Int) × (Nat → Int)
  | 0 => φ
  | k + 1 => if (mK φ v k).1 (16 * (k / 16) + v) < 1152921504606846976 ∧ (mK φ v k).1 (16 * v + k % 16) < 1152921504606846976 then
      mWay (mK φ v k) k (w64 ((mK φ v k).1 (16 * (k / 16) + v) + (mK φ v k).1 (16 * v + k % 16))) (w64 ((mK φ v k).2 (16 * (k / 16) + v) + (mK φ v k).2 (16 * v + k % 16)))
    else mK φ v k
def mV (nv : Nat) (φ : (Nat → Int) × (Nat → Int)) : Nat → (Nat → Int) × (Nat → Int)
  | 0 => φ
  | v + 1 => mK (mV nv φ v) v (16 * nv)
section
variable {φ : (Nat → Int) × (Nat → Int)} {v k nv : Nat}
theorem mK_y (h1 : (mK φ v k).1 (16 * (k / 16) + v) < 1152921504606846976) (h2 : (mK φ v k).1 (16 * v + k % 16) < 1152921504606846976) : mK φ v (k + 1) = mWay (mK φ v k) k (w64 ((mK φ v k).1 (16 * (k / 16) + v) + (mK φ v k).1 (16 * v + k % 16))) (w64 ((mK φ v k).2 (16 * (k / 16) + v) + (mK φ v k).2 (16 * v + k % 16))) := by rw [mK, if_pos ⟨h1, h2⟩]
theorem mK_n (h : ¬ ((mK φ v k).1 (16 * (k / 16) + v) < 1152921504606846976 ∧ (mK φ v k).1 (16 * v + k % 16) < 1152921504606846976)) : mK φ v (k + 1) = mK φ v k := by rw [mK, if_neg h]
theorem mK_R (h : mR φ) (v : Nat) : ∀ k, mR (mK φ v k)
  | 0 => h
  | k + 1 => by
    have ih := mK_R h v k
    rw [mK]; split
    · exact mWay_R ih (w64_rng _) (w64_rng _)
    · exact ih
theorem mV_R (h : mR φ) : ∀ v, mR (mV nv φ v)
  | 0 => h
  | v + 1 => mK_R (mV_R h v) v (16 * nv)
end
def mMeas (dir : Bool) (Fr To We : Nat → Nat) (nv me : Nat) (φ : (Nat → Int) × (Nat → Int)) : (Nat → Int) × (Nat → Int) := mV nv (mE dir Fr To We (mI φ 256) me) nv
set_option maxHeartbeats 4000000 in
set_option maxRecDepth 100000 in
/-- Model.isLess -/
theorem c_X6_isLess (l : Launch) (D : va_G) (cA : Nat → ClassId) (mo : Nat) (mf : Nat) (mt : Nat) (mw : Nat) (mr : Nat) (mp : Nat) (mx : Nat) (mfa : Nat) (mbi : Nat) (mod1 : Nat) (msc : Nat) (msb : Nat) (msu : Nat) (mwy : Nat) (mre : Nat) (mby : Nat) (msm : Nat) (mle : Nat) (mgr : Nat) (mth : Nat) (dir : Bool) (nv : Nat) (me : Nat) (mrn : Nat) (mst : Nat) (mhr : Bool) (mon : Nat) (Fa : Nat → Int) (Bi : Nat → Int) (c1 : Int) (t1 : Int) (k : Nat) (hFa : ∀ j, -9223372036854775808 ≤ Fa j ∧ Fa j < 9223372036854775808) (hBi : ∀ j, -9223372036854775808 ≤ Bi j ∧ Bi j < 9223372036854775808) (hc1 : -9223372036854775808 ≤ c1 ∧ c1 < 9223372036854775808) (ht1 : -9223372036854775808 ≤ t1 ∧ t1 < 9223372036854775808) (hk : k < 256) : Met l yX6_isLess wsX6_isLess ({ frames := 0, cells := 0, slots := 0, locals := 0 } : Room) (zRd D vwCl (zT cA) [(mo, .inr (6, [.int (nI mth), .int (zB dir), .int (nI nv), .int (nI me), .ref mf, .ref mt, .ref mw, .ref mr, .int (nI mrn), .ref mp, .int (nI mst), .int (zB mhr), .ref mx, .ref mfa, .ref mbi, .ref mod1, .int (nI mon), .ref msc, .ref msb, .ref msu, .ref mwy, .ref mre, .ref mby, .ref msm, .ref mle, .ref mgr])), (mfa, aJ cA 256 (fun j => lZ (Fa j))), (mbi, aJ cA 256 (fun j => lZ (Bi j)))] [.ref mo, .long (lZ c1), .long (lZ t1), .int (nI k)]) (vp_Si (fun r => r = zB (dLess c1 t1 (Fa k) (Bi k)))) 0 0 (fun _ => False) := by
  refine z_read (cc := cX6_isLess) (maxL := 6) (ret := (some .boolean)) (by decide) rfl (Nat.le_of_ble_eq_true rfl) ?_
  intro p e s m below meth c hx hb hr hml hown hts hlocks hP hK Q hQ ls hl
  have hown : s.vm.findClass RX6 = some m.cls := hown
  have hl : lv_has ls 6 [(0, .ref mo), (1, .long (lZ c1)), (3, .long (lZ t1)), (5, .int (nI k))] := hl
  generalize hav : ([.ref mo, .long (lZ c1), .long (lZ t1), .int (nI k)] : List Value).toArray = args at hts hQ ⊢
  have hin6 : ∀ w ∈ wsX60, w ∈ wsX6_isLess := by decide +kernel
  refine lv_lload_n hx hb dX6_isLess_0 rfl (lv_at hl 1 rfl) ?_
  refine lv_aload_n hx hb dX6_isLess_1 rfl (lv_at hl 0 rfl) ?_
  refine va_get (D := D) (ci := 6) (v := .ref mfa) (C := RX6) (T := TX6) (N := 26) hx hb hts hin6 hown hK hP 0 rfl rfl 13 (by decide) (hts (.fieldLink RX6 32 "TourHouseModel" "far" "[J") (by decide +kernel)) (fun _ h9 => h9) rfl dX6_isLess_2 ?_
  refine lv_iload hx hb dX6_isLess_5 (lv_at hl 3 rfl) ?_
  refine z_lald hx hb hK hP 1 1 rfl rfl (k := k) (by omega) (by decide) (v := lZ (Fa k)) rfl dX6_isLess_7 ?_
  refine z_lcmp_lt hx hb (x := c1) (y := Fa k) (hc1) (hFa _) (tgt := 36) dX6_isLess_8 dX6_isLess_9 (by decide) (fun h8 => ?_) (fun h8 => ?_)
  · skip
    refine lv_iconst (v := zB true) hx hb dX6_isLess_36 (by decide) ?_
    refine lv_goto (tgt := 41) hx hb dX6_isLess_37 (by decide) ?_
    exact z_zretR hx hb hr hlocks hQ (by congr 1; simp only [dLess]; symm; first | (rw [decide_eq_true_eq]; omega) | (rw [decide_eq_false_iff_not]; omega)) dX6_isLess_41 rfl rfl
  · skip
    refine lv_lload_n hx hb dX6_isLess_12 rfl (lv_at hl 1 rfl) ?_
    refine lv_aload_n hx hb dX6_isLess_13 rfl (lv_at hl 0 rfl) ?_
    refine va_get (D := D) (ci := 6) (v := .ref mfa) (C := RX6) (T := TX6) (N := 26) hx hb hts hin6 hown hK hP 0 rfl rfl 13 (by decide) (hts (.fieldLink RX6 32 "TourHouseModel" "far" "[J") (by decide +kernel)) (fun _ h9 => h9) rfl dX6_isLess_14 ?_
    refine lv_iload hx hb dX6_isLess_17 (lv_at hl 3 rfl) ?_
    refine z_lald hx hb hK hP 1 1 rfl rfl (k := k) (by omega) (by decide) (v := lZ (Fa k)) rfl dX6_isLess_19 ?_
    refine z_lcmp_ne hx hb (x := c1) (y := Fa k) (hc1) (hFa _) (tgt := 40) dX6_isLess_20 dX6_isLess_21 (by decide) (fun h20 => ?_) (fun h20 => ?_)
    · skip
      refine lv_iconst (v := zB false) hx hb dX6_isLess_40 (by decide) ?_
      exact z_zretR hx hb hr hlocks hQ (by congr 1; simp only [dLess]; symm; first | (rw [decide_eq_true_eq]; omega) | (rw [decide_eq_false_iff_not]; omega)) dX6_isLess_41 rfl rfl
    · skip
      refine lv_lload_n hx hb dX6_isLess_24 rfl (lv_at hl 2 rfl) ?_
      refine lv_aload_n hx hb dX6_isLess_25 rfl (lv_at hl 0 rfl) ?_
      refine va_get (D := D) (ci := 6) (v := .ref mbi) (C := RX6) (T := TX6) (N := 26) hx hb hts hin6 hown hK hP 0 rfl rfl 14 (by decide) (hts (.fieldLink RX6 36 "TourHouseModel" "bits" "[J") (by decide +kernel)) (fun _ h9 => h9) rfl dX6_isLess_26 ?_
      refine lv_iload hx hb dX6_isLess_29 (lv_at hl 3 rfl) ?_
      refine z_lald hx hb hK hP 2 1 rfl rfl (k := k) (by omega) (by decide) (v := lZ (Bi k)) rfl dX6_isLess_31 ?_
      refine z_lcmp_ge hx hb (x := t1) (y := Bi k) (ht1) (hBi _) (tgt := 40) dX6_isLess_32 dX6_isLess_33 (by decide) (fun h32 => ?_) (fun h32 => ?_)
      · skip
        refine lv_iconst (v := zB false) hx hb dX6_isLess_40 (by decide) ?_
        exact z_zretR hx hb hr hlocks hQ (by congr 1; simp only [dLess]; symm; first | (rw [decide_eq_true_eq]; omega) | (rw [decide_eq_false_iff_not]; omega)) dX6_isLess_41 rfl rfl
      · skip
        refine lv_iconst (v := zB true) hx hb dX6_isLess_36 (by decide) ?_
        refine lv_goto (tgt := 41) hx hb dX6_isLess_37 (by decide) ?_
        exact z_zretR hx hb hr hlocks hQ (by congr 1; simp only [dLess]; symm; first | (rw [decide_eq_true_eq]; omega) | (rw [decide_eq_false_iff_not]; omega)) dX6_isLess_41 rfl rfl
set_option maxHeartbeats 4000000 in
set_option maxRecDepth 100000 in
/-- Model.way -/
theorem c_X6_way (l : Launch) (D : va_G) (cA : Nat → ClassId) (sz : Nat) (mo : Nat) (mf : Nat) (mt : Nat) (mw : Nat) (mr : Nat) (mp : Nat) (mx : Nat) (mfa : Nat) (mbi : Nat) (mod1 : Nat) (msc : Nat) (msb : Nat) (msu : Nat) (mwy : Nat) (mre : Nat) (mby : Nat) (msm : Nat) (mle : Nat) (mgr : Nat) (mth : Nat) (dir : Bool) (nv : Nat) (me : Nat) (mrn : Nat) (mst : Nat) (mhr : Bool) (mon : Nat) (φ : (Nat → Int) × (Nat → Int)) (k : Nat) (c1 : Int) (t1 : Int) (hφ : mR φ) (hc1 : -9223372036854775808 ≤ c1 ∧ c1 < 9223372036854775808) (ht1 : -9223372036854775808 ≤ t1 ∧ t1 < 9223372036854775808) (hk : k < 256) : Met l yX6_way wsX6_way ({ frames := 1, cells := 0, slots := 0, locals := 25 } : Room) (zWr D vwCl (zT cA) [(mo, .inr (6, [.int (nI mth), .int (zB dir), .int (nI nv), .int (nI me), .ref mf, .ref mt, .ref mw, .ref mr, .int (nI mrn), .ref mp, .int (nI mst), .int (zB mhr), .ref mx, .ref mfa, .ref mbi, .ref mod1, .int (nI mon), .ref msc, .ref msb, .ref msu, .ref mwy, .ref mre, .ref mby, .ref msm, .ref mle, .ref mgr])), (mfa, aJ cA 256 (fun j => lZ (φ.1 j))), (mbi, aJ cA 256 (fun j => lZ (φ.2 j)))] sz [.ref mo, .int (nI k), .long (lZ c1), .long (lZ t1)]) (zQv D vwCl (zT cA) (va_A [(mo, .inr (6, [.int (nI mth), .int (zB dir), .int (nI nv), .int (nI me), .ref mf, .ref mt, .ref mw, .ref mr, .int (nI mrn), .ref mp, .int (nI mst), .int (zB mhr), .ref mx, .ref mfa, .ref mbi, .ref mod1, .int (nI mon), .ref msc, .ref msb, .ref msu, .ref mwy, .ref mre, .ref mby, .ref msm, .ref mle, .ref mgr])), (mfa, aJ cA 256 (fun j => lZ (φ.1 j))), (mbi, aJ cA 256 (fun j => lZ (φ.2 j)))] sz) [(mo, .inr (6, [.int (nI mth), .int (zB dir), .int (nI nv), .int (nI me), .ref mf, .ref mt, .ref mw, .ref mr, .int (nI mrn), .ref mp, .int (nI mst), .int (zB mhr), .ref mx, .ref mfa, .ref mbi, .ref mod1, .int (nI mon), .ref msc, .ref msb, .ref msu, .ref mwy, .ref mre, .ref mby, .ref msm, .ref mle, .ref mgr])), (mfa, aJ cA 256 (fun j => lZ (((mWay φ k c1 t1).1) j))), (mbi, aJ cA 256 (fun j => lZ (((mWay φ k c1 t1).2) j)))]) 0 0 (va_A [(mo, .inr (6, [.int (nI mth), .int (zB dir), .int (nI nv), .int (nI me), .ref mf, .ref mt, .ref mw, .ref mr, .int (nI mrn), .ref mp, .int (nI mst), .int (zB mhr), .ref mx, .ref mfa, .ref mbi, .ref mod1, .int (nI mon), .ref msc, .ref msb, .ref msu, .ref mwy, .ref mre, .ref mby, .ref msm, .ref mle, .ref mgr])), (mfa, aJ cA 256 (fun j => lZ (φ.1 j))), (mbi, aJ cA 256 (fun j => lZ (φ.2 j)))] sz) := by
  refine z_write (cc := cX6_way) (maxL := 6) (ret := none) (by decide) rfl (Nat.le_of_ble_eq_true rfl) ?_
  intro p e s m below meth c hx hb hr hml hown hts hlocks A hAe hA H locs hP hK hD hS hini Q hQ ls hl
  have hown : s.vm.findClass RX6 = some m.cls := hown
  have hl : lv_has ls 6 [(0, .ref mo), (1, .int (nI k)), (2, .long (lZ c1)), (4, .long (lZ t1))] := hl
  generalize hav : ([.ref mo, .int (nI k), .long (lZ c1), .long (lZ t1)] : List Value).toArray = args at hts hQ ⊢
  have hin6 : ∀ w ∈ wsX60, w ∈ wsX6_way := by decide +kernel
  refine lv_aload_n hx hb dX6_way_0 rfl (lv_at hl 0 rfl) ?_
  refine lv_lload_n hx hb dX6_way_1 rfl (lv_at hl 2 rfl) ?_
  refine lv_lload hx hb dX6_way_2 (lv_at hl 3 rfl) ?_
  refine lv_iload_n hx hb dX6_way_4 rfl (lv_at hl 1 rfl) ?_
  refine z_cRVi (wc := [(mo, .inr (6, [.int (nI mth), .int (zB dir), .int (nI nv), .int (nI me), .ref mf, .ref mt, .ref mw, .ref mr, .int (nI mrn), .ref mp, .int (nI mst), .int (zB mhr), .ref mx, .ref mfa, .ref mbi, .ref mod1, .int (nI mon), .ref msc, .ref msb, .ref msu, .ref mwy, .ref mre, .ref mby, .ref msm, .ref mle, .ref mgr])), (mfa, aJ cA 256 (fun j => lZ (φ.1 j))), (mbi, aJ cA 256 (fun j => lZ (φ.2 j)))]) (rm := ({ frames := 0, cells := 0, slots := 0, locals := 0 } : Room)) (As := [.long (lZ c1), .long (lZ t1), .int (nI k)]) (rest := []) ⟨hx, hb, hml, hown, hts⟩ (c_X6_isLess l D cA mo mf mt mw mr mp mx mfa mbi mod1 msc msb msu mwy mre mby msm mle mgr mth dir nv me mrn mst mhr mon φ.1 φ.2 c1 t1 k (hφ.1) (hφ.2) (by first | assumption | omega) (by first | assumption | omega) (by first | assumption | omega)) (cwV 3 hts gX6_way_X6_isLess rfl rfl rfl (by decide +kernel) ⟨Nat.le_of_ble_eq_true rfl, Nat.le_of_ble_eq_true rfl⟩) hP hK [0, 1, 2] rfl 6 0 rfl rfl rfl hl.1 rfl (Nat.le_of_ble_eq_true rfl) ⟨Nat.zero_le _, Nat.zero_le _⟩ dX6_way_5 (fun r hr5 => ?_)
  subst hr5
  refine z_ifne hx hb (tgt := 12) dX6_way_8 (by decide) (fun h8 => ?_) (fun h8 => ?_)
  · skip
    refine lv_aload_n hx hb dX6_way_12 rfl (lv_at hl 0 rfl) ?_
    refine va_get (D := D) (ci := 6) (v := .ref mfa) (C := RX6) (T := TX6) (N := 26) hx hb hts hin6 hown hK hP 0 rfl rfl 13 (by decide) (hts (.fieldLink RX6 32 "TourHouseModel" "far" "[J") (by decide +kernel)) (fun _ h9 => h9) rfl dX6_way_13 ?_
    refine lv_iload_n hx hb dX6_way_16 rfl (lv_at hl 1 rfl) ?_
    refine lv_lload_n hx hb dX6_way_17 rfl (lv_at hl 2 rfl) ?_
    refine z_last hx hb hK hP hD hS 1 1 rfl rfl (k := k) (by omega) (by decide) (f' := (fun j => lZ ((va_up φ.1 k c1) j))) (updL_lZ φ.1 k c1) (ws' := [(mo, .inr (6, [.int (nI mth), .int (zB dir), .int (nI nv), .int (nI me), .ref mf, .ref mt, .ref mw, .ref mr, .int (nI mrn), .ref mp, .int (nI mst), .int (zB mhr), .ref mx, .ref mfa, .ref mbi, .ref mod1, .int (nI mon), .ref msc, .ref msb, .ref msu, .ref mwy, .ref mre, .ref mby, .ref msm, .ref mle, .ref mgr])), (mfa, aJ cA 256 (fun j => lZ ((va_up φ.1 k c1) j))), (mbi, aJ cA 256 (fun j => lZ (φ.2 j)))]) rfl dX6_way_18 (fun H locs hP hD hS => ?_)
    refine lv_aload_n hx hb dX6_way_19 rfl (lv_at hl 0 rfl) ?_
    refine va_get (D := D) (ci := 6) (v := .ref mbi) (C := RX6) (T := TX6) (N := 26) hx hb hts hin6 hown hK hP 0 rfl rfl 14 (by decide) (hts (.fieldLink RX6 36 "TourHouseModel" "bits" "[J") (by decide +kernel)) (fun _ h9 => h9) rfl dX6_way_20 ?_
    refine lv_iload_n hx hb dX6_way_23 rfl (lv_at hl 1 rfl) ?_
    refine lv_lload hx hb dX6_way_24 (lv_at hl 3 rfl) ?_
    refine z_last hx hb hK hP hD hS 2 1 rfl rfl (k := k) (by omega) (by decide) (f' := (fun j => lZ ((va_up φ.2 k t1) j))) (updL_lZ φ.2 k t1) (ws' := [(mo, .inr (6, [.int (nI mth), .int (zB dir), .int (nI nv), .int (nI me), .ref mf, .ref mt, .ref mw, .ref mr, .int (nI mrn), .ref mp, .int (nI mst), .int (zB mhr), .ref mx, .ref mfa, .ref mbi, .ref mod1, .int (nI mon), .ref msc, .ref msb, .ref msu, .ref mwy, .ref mre, .ref mby, .ref msm, .ref mle, .ref mgr])), (mfa, aJ cA 256 (fun j => lZ ((va_up φ.1 k c1) j))), (mbi, aJ cA 256 (fun j => lZ ((va_up φ.2 k t1) j)))]) rfl dX6_way_26 (fun H locs hP hD hS => ?_)
    have q9 : (fun j => lZ (((mWay φ k c1 t1).1) j)) = (fun j => lZ ((va_up φ.1 k c1) j)) := by rw [mWay_y h8]
    have hP : va_P D vwCl [(mo, .inr (6, [.int (nI mth), .int (zB dir), .int (nI nv), .int (nI me), .ref mf, .ref mt, .ref mw, .ref mr, .int (nI mrn), .ref mp, .int (nI mst), .int (zB mhr), .ref mx, .ref mfa, .ref mbi, .ref mod1, .int (nI mon), .ref msc, .ref msb, .ref msu, .ref mwy, .ref mre, .ref mby, .ref msm, .ref mle, .ref mgr])), (mfa, aJ cA 256 (fun j => lZ (((mWay φ k c1 t1).1) j))), (mbi, aJ cA 256 (fun j => lZ ((va_up φ.2 k t1) j)))] H := by rw [q9]; exact hP
    have hD : va_D A [(mo, .inr (6, [.int (nI mth), .int (zB dir), .int (nI nv), .int (nI me), .ref mf, .ref mt, .ref mw, .ref mr, .int (nI mrn), .ref mp, .int (nI mst), .int (zB mhr), .ref mx, .ref mfa, .ref mbi, .ref mod1, .int (nI mon), .ref msc, .ref msb, .ref msu, .ref mwy, .ref mre, .ref mby, .ref msm, .ref mle, .ref mgr])), (mfa, aJ cA 256 (fun j => lZ (((mWay φ k c1 t1).1) j))), (mbi, aJ cA 256 (fun j => lZ ((va_up φ.2 k t1) j)))] := by rw [q9]; exact hD
    have q9 : (fun j => lZ (((mWay φ k c1 t1).2) j)) = (fun j => lZ ((va_up φ.2 k t1) j)) := by rw [mWay_y h8]
    have hP : va_P D vwCl [(mo, .inr (6, [.int (nI mth), .int (zB dir), .int (nI nv), .int (nI me), .ref mf, .ref mt, .ref mw, .ref mr, .int (nI mrn), .ref mp, .int (nI mst), .int (zB mhr), .ref mx, .ref mfa, .ref mbi, .ref mod1, .int (nI mon), .ref msc, .ref msb, .ref msu, .ref mwy, .ref mre, .ref mby, .ref msm, .ref mle, .ref mgr])), (mfa, aJ cA 256 (fun j => lZ (((mWay φ k c1 t1).1) j))), (mbi, aJ cA 256 (fun j => lZ (((mWay φ k c1 t1).2) j)))] H := by rw [q9]; exact hP
    have hD : va_D A [(mo, .inr (6, [.int (nI mth), .int (zB dir), .int (nI nv), .int (nI me), .ref mf, .ref mt, .ref mw, .ref mr, .int (nI mrn), .ref mp, .int (nI mst), .int (zB mhr), .ref mx, .ref mfa, .ref mbi, .ref mod1, .int (nI mon), .ref msc, .ref msb, .ref msu, .ref mwy, .ref mre, .ref mby, .ref msm, .ref mle, .ref mgr])), (mfa, aJ cA 256 (fun j => lZ (((mWay φ k c1 t1).1) j))), (mbi, aJ cA 256 (fun j => lZ (((mWay φ k c1 t1).2) j)))] := by rw [q9]; exact hD
    exact z_vretW hx hb hr hlocks hAe hQ (hP) hK (hD) hS dX6_way_27
  · skip
    have q9 : (fun j => lZ (((mWay φ k c1 t1).1) j)) = (fun j => lZ (φ.1 j)) := by rw [mWay_n h8]
    have hP : va_P D vwCl [(mo, .inr (6, [.int (nI mth), .int (zB dir), .int (nI nv), .int (nI me), .ref mf, .ref mt, .ref mw, .ref mr, .int (nI mrn), .ref mp, .int (nI mst), .int (zB mhr), .ref mx, .ref mfa, .ref mbi, .ref mod1, .int (nI mon), .ref msc, .ref msb, .ref msu, .ref mwy, .ref mre, .ref mby, .ref msm, .ref mle, .ref mgr])), (mfa, aJ cA 256 (fun j => lZ (((mWay φ k c1 t1).1) j))), (mbi, aJ cA 256 (fun j => lZ (φ.2 j)))] H := by rw [q9]; exact hP
    have hD : va_D A [(mo, .inr (6, [.int (nI mth), .int (zB dir), .int (nI nv), .int (nI me), .ref mf, .ref mt, .ref mw, .ref mr, .int (nI mrn), .ref mp, .int (nI mst), .int (zB mhr), .ref mx, .ref mfa, .ref mbi, .ref mod1, .int (nI mon), .ref msc, .ref msb, .ref msu, .ref mwy, .ref mre, .ref mby, .ref msm, .ref mle, .ref mgr])), (mfa, aJ cA 256 (fun j => lZ (((mWay φ k c1 t1).1) j))), (mbi, aJ cA 256 (fun j => lZ (φ.2 j)))] := by rw [q9]; exact hD
    have q9 : (fun j => lZ (((mWay φ k c1 t1).2) j)) = (fun j => lZ (φ.2 j)) := by rw [mWay_n h8]
    have hP : va_P D vwCl [(mo, .inr (6, [.int (nI mth), .int (zB dir), .int (nI nv), .int (nI me), .ref mf, .ref mt, .ref mw, .ref mr, .int (nI mrn), .ref mp, .int (nI mst), .int (zB mhr), .ref mx, .ref mfa, .ref mbi, .ref mod1, .int (nI mon), .ref msc, .ref msb, .ref msu, .ref mwy, .ref mre, .ref mby, .ref msm, .ref mle, .ref mgr])), (mfa, aJ cA 256 (fun j => lZ (((mWay φ k c1 t1).1) j))), (mbi, aJ cA 256 (fun j => lZ (((mWay φ k c1 t1).2) j)))] H := by rw [q9]; exact hP
    have hD : va_D A [(mo, .inr (6, [.int (nI mth), .int (zB dir), .int (nI nv), .int (nI me), .ref mf, .ref mt, .ref mw, .ref mr, .int (nI mrn), .ref mp, .int (nI mst), .int (zB mhr), .ref mx, .ref mfa, .ref mbi, .ref mod1, .int (nI mon), .ref msc, .ref msb, .ref msu, .ref mwy, .ref mre, .ref mby, .ref msm, .ref mle, .ref mgr])), (mfa, aJ cA 256 (fun j => lZ (((mWay φ k c1 t1).1) j))), (mbi, aJ cA 256 (fun j => lZ (((mWay φ k c1 t1).2) j)))] := by rw [q9]; exact hD
    exact z_vretW hx hb hr hlocks hAe hQ (hP) hK (hD) hS dX6_way_11
set_option maxHeartbeats 4000000 in
set_option maxRecDepth 100000 in
/-- Model.measure -/
theorem c_X6_measure (l : Launch) (D : va_G) (cA : Nat → ClassId) (sz : Nat) (mo : Nat) (mf : Nat) (mt : Nat) (mw : Nat) (mr : Nat) (mp : Nat) (mx : Nat) (mfa : Nat) (mbi : Nat) (mod1 : Nat) (msc : Nat) (msb : Nat) (msu : Nat) (mwy : Nat) (mre : Nat) (mby : Nat) (msm : Nat) (mle : Nat) (mgr : Nat) (mth : Nat) (dir : Bool) (nv : Nat) (me : Nat) (mrn : Nat) (mst : Nat) (mhr : Bool) (mon : Nat) (Fr : Nat → Nat) (To : Nat → Nat) (We : Nat → Nat) (φ : (Nat → Int) × (Nat → Int)) (hme : me ≤ 40) (hF : ∀ j, Fr j < 16) (hT : ∀ j, To j < 16) (hW : ∀ j, We j ≤ 1000000000) (hφ : mR φ) (hnv : nv ≤ 16) : Met l yX6_measure wsX6_measure ({ frames := 2, cells := 0, slots := 0, locals := 50 } : Room) (zWr D vwCl (zT cA) [(mo, .inr (6, [.int (nI mth), .int (zB dir), .int (nI nv), .int (nI me), .ref mf, .ref mt, .ref mw, .ref mr, .int (nI mrn), .ref mp, .int (nI mst), .int (zB mhr), .ref mx, .ref mfa, .ref mbi, .ref mod1, .int (nI mon), .ref msc, .ref msb, .ref msu, .ref mwy, .ref mre, .ref mby, .ref msm, .ref mle, .ref mgr])), (mf, aI cA 40 (fun j => nI (Fr j))), (mt, aI cA 40 (fun j => nI (To j))), (mw, aI cA 40 (fun j => nI (We j))), (mfa, aJ cA 256 (fun j => lZ (φ.1 j))), (mbi, aJ cA 256 (fun j => lZ (φ.2 j)))] sz [.ref mo]) (zQv D vwCl (zT cA) (va_A [(mo, .inr (6, [.int (nI mth), .int (zB dir), .int (nI nv), .int (nI me), .ref mf, .ref mt, .ref mw, .ref mr, .int (nI mrn), .ref mp, .int (nI mst), .int (zB mhr), .ref mx, .ref mfa, .ref mbi, .ref mod1, .int (nI mon), .ref msc, .ref msb, .ref msu, .ref mwy, .ref mre, .ref mby, .ref msm, .ref mle, .ref mgr])), (mf, aI cA 40 (fun j => nI (Fr j))), (mt, aI cA 40 (fun j => nI (To j))), (mw, aI cA 40 (fun j => nI (We j))), (mfa, aJ cA 256 (fun j => lZ (φ.1 j))), (mbi, aJ cA 256 (fun j => lZ (φ.2 j)))] sz) [(mo, .inr (6, [.int (nI mth), .int (zB dir), .int (nI nv), .int (nI me), .ref mf, .ref mt, .ref mw, .ref mr, .int (nI mrn), .ref mp, .int (nI mst), .int (zB mhr), .ref mx, .ref mfa, .ref mbi, .ref mod1, .int (nI mon), .ref msc, .ref msb, .ref msu, .ref mwy, .ref mre, .ref mby, .ref msm, .ref mle, .ref mgr])), (mf, aI cA 40 (fun j => nI (Fr j))), (mt, aI cA 40 (fun j => nI (To j))), (mw, aI cA 40 (fun j => nI (We j))), (mfa, aJ cA 256 (fun j => lZ (((mMeas dir Fr To We nv me φ).1) j))), (mbi, aJ cA 256 (fun j => lZ (((mMeas dir Fr To We nv me φ).2) j)))]) 0 0 (va_A [(mo, .inr (6, [.int (nI mth), .int (zB dir), .int (nI nv), .int (nI me), .ref mf, .ref mt, .ref mw, .ref mr, .int (nI mrn), .ref mp, .int (nI mst), .int (zB mhr), .ref mx, .ref mfa, .ref mbi, .ref mod1, .int (nI mon), .ref msc, .ref msb, .ref msu, .ref mwy, .ref mre, .ref mby, .ref msm, .ref mle, .ref mgr])), (mf, aI cA 40 (fun j => nI (Fr j))), (mt, aI cA 40 (fun j => nI (To j))), (mw, aI cA 40 (fun j => nI (We j))), (mfa, aJ cA 256 (fun j => lZ (φ.1 j))), (mbi, aJ cA 256 (fun j => lZ (φ.2 j)))] sz) := by
  refine z_write (cc := cX6_measure) (maxL := 5) (ret := none) (by decide) rfl (Nat.le_of_ble_eq_true rfl) ?_
  intro p e s m below meth c hx hb hr hml hown hts hlocks A hAe hA H locs hP hK hD hS hini Q hQ ls hl
  have hown : s.vm.findClass RX6 = some m.cls := hown
  have hl : lv_has ls 5 [(0, .ref mo)] := hl
  generalize hav : ([.ref mo] : List Value).toArray = args at hts hQ ⊢
  have hin6 : ∀ w ∈ wsX60, w ∈ wsX6_measure := by decide +kernel
  refine lv_iconst (v := nI 0) hx hb dX6_measure_0 (by decide) ?_
  refine lv_istore_n (lv' := [(1, .int (nI 0)), (0, .ref mo)]) hx hb dX6_measure_1 rfl hl (by decide) rfl (fun ls hl => ?_)
  have J2 : ∀ (n : Nat), ∀ (i : Nat), (i ≤ 256) → 256 - i < n → ∀ (H : Heap) (locs : List Loc), va_P D vwCl [(mo, .inr (6, [.int (nI mth), .int (zB dir), .int (nI nv), .int (nI me), .ref mf, .ref mt, .ref mw, .ref mr, .int (nI mrn), .ref mp, .int (nI mst), .int (zB mhr), .ref mx, .ref mfa, .ref mbi, .ref mod1, .int (nI mon), .ref msc, .ref msb, .ref msu, .ref mwy, .ref mre, .ref mby, .ref msm, .ref mle, .ref mgr])), (mf, aI cA 40 (fun j => nI (Fr j))), (mt, aI cA 40 (fun j => nI (To j))), (mw, aI cA 40 (fun j => nI (We j))), (mfa, aJ cA 256 (fun j => lZ (((mI φ i).1) j))), (mbi, aJ cA 256 (fun j => lZ (((mI φ i).2) j)))] H → va_D A [(mo, .inr (6, [.int (nI mth), .int (zB dir), .int (nI nv), .int (nI me), .ref mf, .ref mt, .ref mw, .ref mr, .int (nI mrn), .ref mp, .int (nI mst), .int (zB mhr), .ref mx, .ref mfa, .ref mbi, .ref mod1, .int (nI mon), .ref msc, .ref msb, .ref msu, .ref mwy, .ref mre, .ref mby, .ref msm, .ref mle, .ref mgr])), (mf, aI cA 40 (fun j => nI (Fr j))), (mt, aI cA 40 (fun j => nI (To j))), (mw, aI cA 40 (fun j => nI (We j))), (mfa, aJ cA 256 (fun j => lZ (((mI φ i).1) j))), (mbi, aJ cA 256 (fun j => lZ (((mI φ i).2) j)))] → va_S A s.heap H locs → ∀ (ls : Array Slot), lv_has ls 5 [(0, .ref mo), (1, .int (nI i))] → W p l e ({ frames := 2, cells := 0, slots := 0, locals := 50 } : Room) s m args below meth c H locs 0 0 Q (F0 m 2 ls []) := by
    intro n2
    induction n2 with
    | zero => intro i hi hn; exact absurd hn (Nat.not_lt_zero _)
    | succ n2 ih2 =>
      intro i hi hn2 H locs hP hD hS ls hl
      refine lv_iload_n hx hb dX6_measure_2 rfl (lv_at hl 1 rfl) ?_
      refine lv_sipush (v := nI 256) hx hb dX6_measure_3 (by decide) ?_
      refine z_ge hx hb (by omega) (by decide) (tgt := 46) dX6_measure_6 (by decide) (fun h6 => ?_) (fun h6 => ?_)
      · skip
        refine lv_iconst (v := nI 0) hx hb dX6_measure_46 (by decide) ?_
        refine lv_istore_n (lv' := [(1, .int (nI 0)), (0, .ref mo)]) hx hb dX6_measure_47 rfl hl (by decide) rfl (fun ls hl => ?_)
        have J48 : ∀ (n : Nat), ∀ (i : Nat), (i ≤ me) → me - i < n → ∀ (H : Heap) (locs : List Loc), va_P D vwCl [(mo, .inr (6, [.int (nI mth), .int (zB dir), .int (nI nv), .int (nI me), .ref mf, .ref mt, .ref mw, .ref mr, .int (nI mrn), .ref mp, .int (nI mst), .int (zB mhr), .ref mx, .ref mfa, .ref mbi, .ref mod1, .int (nI mon), .ref msc, .ref msb, .ref msu, .ref mwy, .ref mre, .ref mby, .ref msm, .ref mle, .ref mgr])), (mf, aI cA 40 (fun j => nI (Fr j))), (mt, aI cA 40 (fun j => nI (To j))), (mw, aI cA 40 (fun j => nI (We j))), (mfa, aJ cA 256 (fun j => lZ (((mE dir Fr To We (mI φ 256) i).1) j))), (mbi, aJ cA 256 (fun j => lZ (((mE dir Fr To We (mI φ 256) i).2) j)))] H → va_D A [(mo, .inr (6, [.int (nI mth), .int (zB dir), .int (nI nv), .int (nI me), .ref mf, .ref mt, .ref mw, .ref mr, .int (nI mrn), .ref mp, .int (nI mst), .int (zB mhr), .ref mx, .ref mfa, .ref mbi, .ref mod1, .int (nI mon), .ref msc, .ref msb, .ref msu, .ref mwy, .ref mre, .ref mby, .ref msm, .ref mle, .ref mgr])), (mf, aI cA 40 (fun j => nI (Fr j))), (mt, aI cA 40 (fun j => nI (To j))), (mw, aI cA 40 (fun j => nI (We j))), (mfa, aJ cA 256 (fun j => lZ (((mE dir Fr To We (mI φ 256) i).1) j))), (mbi, aJ cA 256 (fun j => lZ (((mE dir Fr To We (mI φ 256) i).2) j)))] → va_S A s.heap H locs → ∀ (ls : Array Slot), lv_has ls 5 [(0, .ref mo), (1, .int (nI i))] → W p l e ({ frames := 2, cells := 0, slots := 0, locals := 50 } : Room) s m args below meth c H locs 0 0 Q (F0 m 48 ls []) := by
          intro n48
          induction n48 with
          | zero => intro i hi hn; exact absurd hn (Nat.not_lt_zero _)
          | succ n48 ih48 =>
            intro i hi hn48 H locs hP hD hS ls hl
            refine lv_iload_n hx hb dX6_measure_48 rfl (lv_at hl 1 rfl) ?_
            refine lv_aload_n hx hb dX6_measure_49 rfl (lv_at hl 0 rfl) ?_
            refine va_get (D := D) (ci := 6) (v := .int (nI me)) (C := RX6) (T := TX6) (N := 26) hx hb hts hin6 hown hK hP 0 rfl rfl 3 (by decide) (hts (.fieldLink RX6 85 "TourHouseModel" "m" "I") (by decide +kernel)) (fun _ h9 => h9) rfl dX6_measure_50 ?_
            refine z_ge hx hb (by omega) (by omega) (tgt := 135) dX6_measure_53 (by decide) (fun h53 => ?_) (fun h53 => ?_)
            · skip
              refine lv_iconst (v := nI 0) hx hb dX6_measure_135 (by decide) ?_
              refine lv_istore_n (lv' := [(1, .int (nI 0)), (0, .ref mo)]) hx hb dX6_measure_136 rfl hl (by decide) rfl (fun ls hl => ?_)
              have J137 : ∀ (n : Nat), ∀ (v : Nat), (v ≤ nv) → nv - v < n → ∀ (H : Heap) (locs : List Loc), va_P D vwCl [(mo, .inr (6, [.int (nI mth), .int (zB dir), .int (nI nv), .int (nI me), .ref mf, .ref mt, .ref mw, .ref mr, .int (nI mrn), .ref mp, .int (nI mst), .int (zB mhr), .ref mx, .ref mfa, .ref mbi, .ref mod1, .int (nI mon), .ref msc, .ref msb, .ref msu, .ref mwy, .ref mre, .ref mby, .ref msm, .ref mle, .ref mgr])), (mf, aI cA 40 (fun j => nI (Fr j))), (mt, aI cA 40 (fun j => nI (To j))), (mw, aI cA 40 (fun j => nI (We j))), (mfa, aJ cA 256 (fun j => lZ (((mV nv (mE dir Fr To We (mI φ 256) me) v).1) j))), (mbi, aJ cA 256 (fun j => lZ (((mV nv (mE dir Fr To We (mI φ 256) me) v).2) j)))] H → va_D A [(mo, .inr (6, [.int (nI mth), .int (zB dir), .int (nI nv), .int (nI me), .ref mf, .ref mt, .ref mw, .ref mr, .int (nI mrn), .ref mp, .int (nI mst), .int (zB mhr), .ref mx, .ref mfa, .ref mbi, .ref mod1, .int (nI mon), .ref msc, .ref msb, .ref msu, .ref mwy, .ref mre, .ref mby, .ref msm, .ref mle, .ref mgr])), (mf, aI cA 40 (fun j => nI (Fr j))), (mt, aI cA 40 (fun j => nI (To j))), (mw, aI cA 40 (fun j => nI (We j))), (mfa, aJ cA 256 (fun j => lZ (((mV nv (mE dir Fr To We (mI φ 256) me) v).1) j))), (mbi, aJ cA 256 (fun j => lZ (((mV nv (mE dir Fr To We (mI φ 256) me) v).2) j)))] → va_S A s.heap H locs → ∀ (ls : Array Slot), lv_has ls 5 [(0, .ref mo), (1, .int (nI v))] → W p l e ({ frames := 2, cells := 0, slots := 0, locals := 50 } : Room) s m args below meth c H locs 0 0 Q (F0 m 137 ls []) := by
                intro n137
                induction n137 with
                | zero => intro v hv hn; exact absurd hn (Nat.not_lt_zero _)
                | succ n137 ih137 =>
                  intro v hv hn137 H locs hP hD hS ls hl
                  refine lv_iload_n hx hb dX6_measure_137 rfl (lv_at hl 1 rfl) ?_
                  refine lv_aload_n hx hb dX6_measure_138 rfl (lv_at hl 0 rfl) ?_
                  refine va_get (D := D) (ci := 6) (v := .int (nI nv)) (C := RX6) (T := TX6) (N := 26) hx hb hts hin6 hown hK hP 0 rfl rfl 2 (by decide) (hts (.fieldLink RX6 7 "TourHouseModel" "n" "I") (by decide +kernel)) (fun _ h9 => h9) rfl dX6_measure_139 ?_
                  refine z_ge hx hb (by omega) (by omega) (tgt := 251) dX6_measure_142 (by decide) (fun h142 => ?_) (fun h142 => ?_)
                  · skip
                    exact z_vretW hx hb hr hlocks hAe hQ (by have q : v = nv := (by omega); rw [q] at hP; exact hP) hK (by have q : v = nv := (by omega); rw [q] at hD; exact hD) hS dX6_measure_251
                  · skip
                    refine lv_iconst (v := nI 0) hx hb dX6_measure_145 (by decide) ?_
                    refine lv_istore_n (lv' := [(2, .int (nI 0)), (0, .ref mo), (1, .int (nI v))]) hx hb dX6_measure_146 rfl hl (by decide) rfl (fun ls hl => ?_)
                    have J147 : ∀ (n : Nat), ∀ (k : Nat), (k ≤ 16 * nv) → 16 * nv - k < n → ∀ (H : Heap) (locs : List Loc), va_P D vwCl [(mo, .inr (6, [.int (nI mth), .int (zB dir), .int (nI nv), .int (nI me), .ref mf, .ref mt, .ref mw, .ref mr, .int (nI mrn), .ref mp, .int (nI mst), .int (zB mhr), .ref mx, .ref mfa, .ref mbi, .ref mod1, .int (nI mon), .ref msc, .ref msb, .ref msu, .ref mwy, .ref mre, .ref mby, .ref msm, .ref mle, .ref mgr])), (mf, aI cA 40 (fun j => nI (Fr j))), (mt, aI cA 40 (fun j => nI (To j))), (mw, aI cA 40 (fun j => nI (We j))), (mfa, aJ cA 256 (fun j => lZ (((mK (mV nv (mE dir Fr To We (mI φ 256) me) v) v k).1) j))), (mbi, aJ cA 256 (fun j => lZ (((mK (mV nv (mE dir Fr To We (mI φ 256) me) v) v k).2) j)))] H → va_D A [(mo, .inr (6, [.int (nI mth), .int (zB dir), .int (nI nv), .int (nI me), .ref mf, .ref mt, .ref mw, .ref mr, .int (nI mrn), .ref mp, .int (nI mst), .int (zB mhr), .ref mx, .ref mfa, .ref mbi, .ref mod1, .int (nI mon), .ref msc, .ref msb, .ref msu, .ref mwy, .ref mre, .ref mby, .ref msm, .ref mle, .ref mgr])), (mf, aI cA 40 (fun j => nI (Fr j))), (mt, aI cA 40 (fun j => nI (To j))), (mw, aI cA 40 (fun j => nI (We j))), (mfa, aJ cA 256 (fun j => lZ (((mK (mV nv (mE dir Fr To We (mI φ 256) me) v) v k).1) j))), (mbi, aJ cA 256 (fun j => lZ (((mK (mV nv (mE dir Fr To We (mI φ 256) me) v) v k).2) j)))] → va_S A s.heap H locs → ∀ (ls : Array Slot), lv_has ls 5 [(0, .ref mo), (1, .int (nI v)), (2, .int (nI k))] → W p l e ({ frames := 2, cells := 0, slots := 0, locals := 50 } : Room) s m args below meth c H locs 0 0 Q (F0 m 147 ls []) := by
                      intro n147
                      induction n147 with
                      | zero => intro k hk hn; exact absurd hn (Nat.not_lt_zero _)
                      | succ n147 ih147 =>
                        intro k hk hn147 H locs hP hD hS ls hl
                        refine lv_iload_n hx hb dX6_measure_147 rfl (lv_at hl 2 rfl) ?_
                        refine lv_bipush (v := nI 16) hx hb dX6_measure_148 (by decide) ?_
                        refine lv_aload_n hx hb dX6_measure_150 rfl (lv_at hl 0 rfl) ?_
                        refine va_get (D := D) (ci := 6) (v := .int (nI nv)) (C := RX6) (T := TX6) (N := 26) hx hb hts hin6 hown hK hP 0 rfl rfl 2 (by decide) (hts (.fieldLink RX6 7 "TourHouseModel" "n" "I") (by decide +kernel)) (fun _ h9 => h9) rfl dX6_measure_151 ?_
                        refine lv_imul hx hb dX6_measure_154 ?_
                        refine z_topi (v := nI (16 * nv)) (pk_mul 16 nv) ?_
                        refine z_ge hx hb (by omega) (by omega) (tgt := 245) dX6_measure_155 (by decide) (fun h155 => ?_) (fun h155 => ?_)
                        · skip
                          refine lv_iinc (v := nI (v + 1)) (lv' := [(1, .int (nI (v + 1))), (0, .ref mo), (2, .int (nI k))]) hx hb dX6_measure_245 hl (k := 1) rfl (nI_1 v) (by decide) rfl (fun ls hl => ?_)
                          refine lv_goto (tgt := 137) hx hb dX6_measure_248 (by decide) ?_
                          exact ih137 (v + 1) (by omega) (by omega) _ _ (by have q : k = 16 * nv := (by omega); rw [q] at hP; exact hP) (by have q : k = 16 * nv := (by omega); rw [q] at hD; exact hD) hS ls (lv_sub hl [1, 0] (by rfl))
                        · skip
                          refine lv_bipush (v := nI 16) hx hb dX6_measure_158 (by decide) ?_
                          refine lv_iload_n hx hb dX6_measure_160 rfl (lv_at hl 2 rfl) ?_
                          refine lv_bipush (v := nI 16) hx hb dX6_measure_161 (by decide) ?_
                          refine lv_idiv hx hb dX6_measure_163 (by decide) ?_
                          refine z_topi (v := nI (k / 16)) (pk_div (by omega) (by decide) (by decide)) ?_
                          refine lv_imul hx hb dX6_measure_164 ?_
                          refine z_topi (v := nI (16 * (k / 16))) (pk_mul 16 (k / 16)) ?_
                          refine lv_iload_n hx hb dX6_measure_165 rfl (lv_at hl 1 rfl) ?_
                          refine lv_iadd hx hb dX6_measure_166 ?_
                          refine z_topi (v := nI ((16 * (k / 16)) + v)) (nI_add (16 * (k / 16)) v) ?_
                          refine lv_istore_n (lv' := [(3, .int (nI ((16 * (k / 16)) + v))), (0, .ref mo), (1, .int (nI v)), (2, .int (nI k))]) hx hb dX6_measure_167 rfl hl (by decide) rfl (fun ls hl => ?_)
                          refine lv_bipush (v := nI 16) hx hb dX6_measure_168 (by decide) ?_
                          refine lv_iload_n hx hb dX6_measure_170 rfl (lv_at hl 2 rfl) ?_
                          refine lv_imul hx hb dX6_measure_171 ?_
                          refine z_topi (v := nI (16 * v)) (pk_mul 16 v) ?_
                          refine lv_iload_n hx hb dX6_measure_172 rfl (lv_at hl 3 rfl) ?_
                          refine lv_bipush (v := nI 16) hx hb dX6_measure_173 (by decide) ?_
                          refine lv_irem hx hb dX6_measure_175 (by decide) ?_
                          refine z_topi (v := nI (k % 16)) (pk_rem (by omega) (by decide) (by decide)) ?_
                          refine lv_iadd hx hb dX6_measure_176 ?_
                          refine z_topi (v := nI ((16 * v) + (k % 16))) (nI_add (16 * v) (k % 16)) ?_
                          refine lv_istore (lv' := [(4, .int (nI ((16 * v) + (k % 16)))), (3, .int (nI ((16 * (k / 16)) + v))), (0, .ref mo), (1, .int (nI v)), (2, .int (nI k))]) hx hb dX6_measure_177 hl (by decide) rfl (fun ls hl => ?_)
                          refine lv_aload_n hx hb dX6_measure_179 rfl (lv_at hl 2 rfl) ?_
                          refine va_get (D := D) (ci := 6) (v := .ref mfa) (C := RX6) (T := TX6) (N := 26) hx hb hts hin6 hown hK hP 0 rfl rfl 13 (by decide) (hts (.fieldLink RX6 32 "TourHouseModel" "far" "[J") (by decide +kernel)) (fun _ h9 => h9) rfl dX6_measure_180 ?_
                          refine lv_iload_n hx hb dX6_measure_183 rfl (lv_at hl 1 rfl) ?_
                          refine z_lald hx hb hK hP 4 1 rfl rfl (k := ((16 * (k / 16)) + v)) (by omega) (by decide) (v := lZ (((mK (mV nv (mE dir Fr To We (mI φ 256) me) v) v k).1) ((16 * (k / 16)) + v))) rfl dX6_measure_184 ?_
                          refine lv_ldc2 (v := (1152921504606846976)) hx hb hown (hts (.constantLong RX6 103 (1152921504606846976)) (by decide +kernel)) dX6_measure_185 ?_
                          refine z_topl (v := lZ 1152921504606846976) (by decide) ?_
                          refine z_lcmp_ge hx hb (x := ((mK (mV nv (mE dir Fr To We (mI φ 256) me) v) v k).1) ((16 * (k / 16)) + v)) (y := 1152921504606846976) ((mK_R (mV_R (mE_R hW (mI_R hφ 256) me) v) v k).1 _) (by decide) (tgt := 239) dX6_measure_188 dX6_measure_189 (by decide) (fun h188 => ?_) (fun h188 => ?_)
                          · skip
                            refine lv_iinc (v := nI (k + 1)) (lv' := [(2, .int (nI (k + 1))), (4, .int (nI ((16 * v) + (k % 16)))), (3, .int (nI ((16 * (k / 16)) + v))), (0, .ref mo), (1, .int (nI v))]) hx hb dX6_measure_239 hl (k := 4) rfl (nI_1 k) (by decide) rfl (fun ls hl => ?_)
                            refine lv_goto (tgt := 147) hx hb dX6_measure_242 (by decide) ?_
                            exact ih147 (k + 1) (by omega) (by omega) _ _ (by first | (rw [mK_y h188 h202]; exact hP) | (rw [mK_n (by omega)]; exact hP)) (by first | (rw [mK_y h188 h202]; exact hD) | (rw [mK_n (by omega)]; exact hD)) hS ls (lv_sub hl [3, 4, 0] (by rfl))
                          · skip
                            refine lv_aload_n hx hb dX6_measure_192 rfl (lv_at hl 2 rfl) ?_
                            refine va_get (D := D) (ci := 6) (v := .ref mfa) (C := RX6) (T := TX6) (N := 26) hx hb hts hin6 hown hK hP 0 rfl rfl 13 (by decide) (hts (.fieldLink RX6 32 "TourHouseModel" "far" "[J") (by decide +kernel)) (fun _ h9 => h9) rfl dX6_measure_193 ?_
                            refine lv_iload hx hb dX6_measure_196 (lv_at hl 0 rfl) ?_
                            refine z_lald hx hb hK hP 4 1 rfl rfl (k := ((16 * v) + (k % 16))) (by omega) (by decide) (v := lZ (((mK (mV nv (mE dir Fr To We (mI φ 256) me) v) v k).1) ((16 * v) + (k % 16)))) rfl dX6_measure_198 ?_
                            refine lv_ldc2 (v := (1152921504606846976)) hx hb hown (hts (.constantLong RX6 103 (1152921504606846976)) (by decide +kernel)) dX6_measure_199 ?_
                            refine z_topl (v := lZ 1152921504606846976) (by decide) ?_
                            refine z_lcmp_ge hx hb (x := ((mK (mV nv (mE dir Fr To We (mI φ 256) me) v) v k).1) ((16 * v) + (k % 16))) (y := 1152921504606846976) ((mK_R (mV_R (mE_R hW (mI_R hφ 256) me) v) v k).1 _) (by decide) (tgt := 239) dX6_measure_202 dX6_measure_203 (by decide) (fun h202 => ?_) (fun h202 => ?_)
                            · skip
                              refine lv_iinc (v := nI (k + 1)) (lv' := [(2, .int (nI (k + 1))), (4, .int (nI ((16 * v) + (k % 16)))), (3, .int (nI ((16 * (k / 16)) + v))), (0, .ref mo), (1, .int (nI v))]) hx hb dX6_measure_239 hl (k := 4) rfl (nI_1 k) (by decide) rfl (fun ls hl => ?_)
                              refine lv_goto (tgt := 147) hx hb dX6_measure_242 (by decide) ?_
                              exact ih147 (k + 1) (by omega) (by omega) _ _ (by first | (rw [mK_y h188 h202]; exact hP) | (rw [mK_n (by omega)]; exact hP)) (by first | (rw [mK_y h188 h202]; exact hD) | (rw [mK_n (by omega)]; exact hD)) hS ls (lv_sub hl [3, 4, 0] (by rfl))
                            · skip
                              refine lv_aload_n hx hb dX6_measure_206 rfl (lv_at hl 2 rfl) ?_
                              refine lv_iload_n hx hb dX6_measure_207 rfl (lv_at hl 4 rfl) ?_
                              refine lv_aload_n hx hb dX6_measure_208 rfl (lv_at hl 2 rfl) ?_
                              refine va_get (D := D) (ci := 6) (v := .ref mfa) (C := RX6) (T := TX6) (N := 26) hx hb hts hin6 hown hK hP 0 rfl rfl 13 (by decide) (hts (.fieldLink RX6 32 "TourHouseModel" "far" "[J") (by decide +kernel)) (fun _ h9 => h9) rfl dX6_measure_209 ?_
                              refine lv_iload_n hx hb dX6_measure_212 rfl (lv_at hl 1 rfl) ?_
                              refine z_lald hx hb hK hP 4 1 rfl rfl (k := ((16 * (k / 16)) + v)) (by omega) (by decide) (v := lZ (((mK (mV nv (mE dir Fr To We (mI φ 256) me) v) v k).1) ((16 * (k / 16)) + v))) rfl dX6_measure_213 ?_
                              refine lv_aload_n hx hb dX6_measure_214 rfl (lv_at hl 2 rfl) ?_
                              refine va_get (D := D) (ci := 6) (v := .ref mfa) (C := RX6) (T := TX6) (N := 26) hx hb hts hin6 hown hK hP 0 rfl rfl 13 (by decide) (hts (.fieldLink RX6 32 "TourHouseModel" "far" "[J") (by decide +kernel)) (fun _ h9 => h9) rfl dX6_measure_215 ?_
                              refine lv_iload hx hb dX6_measure_218 (lv_at hl 0 rfl) ?_
                              refine z_lald hx hb hK hP 4 1 rfl rfl (k := ((16 * v) + (k % 16))) (by omega) (by decide) (v := lZ (((mK (mV nv (mE dir Fr To We (mI φ 256) me) v) v k).1) ((16 * v) + (k % 16)))) rfl dX6_measure_220 ?_
                              refine lv_ladd hx hb dX6_measure_221 ?_
                              refine z_topl (v := lZ (w64 ((mK (mV nv (mE dir Fr To We (mI φ 256) me) v) v k).1 (16 * (k / 16) + v) + (mK (mV nv (mE dir Fr To We (mI φ 256) me) v) v k).1 (16 * v + k % 16)))) (by rw [lZ_add, lZ_w64]) ?_
                              refine lv_aload_n hx hb dX6_measure_222 rfl (lv_at hl 2 rfl) ?_
                              refine va_get (D := D) (ci := 6) (v := .ref mbi) (C := RX6) (T := TX6) (N := 26) hx hb hts hin6 hown hK hP 0 rfl rfl 14 (by decide) (hts (.fieldLink RX6 36 "TourHouseModel" "bits" "[J") (by decide +kernel)) (fun _ h9 => h9) rfl dX6_measure_223 ?_
                              refine lv_iload_n hx hb dX6_measure_226 rfl (lv_at hl 1 rfl) ?_
                              refine z_lald hx hb hK hP 5 1 rfl rfl (k := ((16 * (k / 16)) + v)) (by omega) (by decide) (v := lZ (((mK (mV nv (mE dir Fr To We (mI φ 256) me) v) v k).2) ((16 * (k / 16)) + v))) rfl dX6_measure_227 ?_
                              refine lv_aload_n hx hb dX6_measure_228 rfl (lv_at hl 2 rfl) ?_
                              refine va_get (D := D) (ci := 6) (v := .ref mbi) (C := RX6) (T := TX6) (N := 26) hx hb hts hin6 hown hK hP 0 rfl rfl 14 (by decide) (hts (.fieldLink RX6 36 "TourHouseModel" "bits" "[J") (by decide +kernel)) (fun _ h9 => h9) rfl dX6_measure_229 ?_
                              refine lv_iload hx hb dX6_measure_232 (lv_at hl 0 rfl) ?_
                              refine z_lald hx hb hK hP 5 1 rfl rfl (k := ((16 * v) + (k % 16))) (by omega) (by decide) (v := lZ (((mK (mV nv (mE dir Fr To We (mI φ 256) me) v) v k).2) ((16 * v) + (k % 16)))) rfl dX6_measure_234 ?_
                              refine lv_ladd hx hb dX6_measure_235 ?_
                              refine z_topl (v := lZ (w64 ((mK (mV nv (mE dir Fr To We (mI φ 256) me) v) v k).2 (16 * (k / 16) + v) + (mK (mV nv (mE dir Fr To We (mI φ 256) me) v) v k).2 (16 * v + k % 16)))) (by rw [lZ_add, lZ_w64]) ?_
                              refine z_cWVv (wc := [(mo, .inr (6, [.int (nI mth), .int (zB dir), .int (nI nv), .int (nI me), .ref mf, .ref mt, .ref mw, .ref mr, .int (nI mrn), .ref mp, .int (nI mst), .int (zB mhr), .ref mx, .ref mfa, .ref mbi, .ref mod1, .int (nI mon), .ref msc, .ref msb, .ref msu, .ref mwy, .ref mre, .ref mby, .ref msm, .ref mle, .ref mgr])), (mfa, aJ cA 256 (fun j => lZ (((mK (mV nv (mE dir Fr To We (mI φ 256) me) v) v k).1) j))), (mbi, aJ cA 256 (fun j => lZ (((mK (mV nv (mE dir Fr To We (mI φ 256) me) v) v k).2) j)))]) (rm := ({ frames := 1, cells := 0, slots := 0, locals := 25 } : Room)) (As := [.int (nI k), .long (lZ (w64 ((mK (mV nv (mE dir Fr To We (mI φ 256) me) v) v k).1 (16 * (k / 16) + v) + (mK (mV nv (mE dir Fr To We (mI φ 256) me) v) v k).1 (16 * v + k % 16)))), .long (lZ (w64 ((mK (mV nv (mE dir Fr To We (mI φ 256) me) v) v k).2 (16 * (k / 16) + v) + (mK (mV nv (mE dir Fr To We (mI φ 256) me) v) v k).2 (16 * v + k % 16))))]) (rest := []) (wr := [(mf, aI cA 40 (fun j => nI (Fr j))), (mt, aI cA 40 (fun j => nI (To j))), (mw, aI cA 40 (fun j => nI (We j)))]) (w1 := [(mo, .inr (6, [.int (nI mth), .int (zB dir), .int (nI nv), .int (nI me), .ref mf, .ref mt, .ref mw, .ref mr, .int (nI mrn), .ref mp, .int (nI mst), .int (zB mhr), .ref mx, .ref mfa, .ref mbi, .ref mod1, .int (nI mon), .ref msc, .ref msb, .ref msu, .ref mwy, .ref mre, .ref mby, .ref msm, .ref mle, .ref mgr])), (mfa, aJ cA 256 (fun j => lZ (((mWay (mK (mV nv (mE dir Fr To We (mI φ 256) me) v) v k) k (w64 ((mK (mV nv (mE dir Fr To We (mI φ 256) me) v) v k).1 (16 * (k / 16) + v) + (mK (mV nv (mE dir Fr To We (mI φ 256) me) v) v k).1 (16 * v + k % 16))) (w64 ((mK (mV nv (mE dir Fr To We (mI φ 256) me) v) v k).2 (16 * (k / 16) + v) + (mK (mV nv (mE dir Fr To We (mI φ 256) me) v) v k).2 (16 * v + k % 16)))).1) j))), (mbi, aJ cA 256 (fun j => lZ (((mWay (mK (mV nv (mE dir Fr To We (mI φ 256) me) v) v k) k (w64 ((mK (mV nv (mE dir Fr To We (mI φ 256) me) v) v k).1 (16 * (k / 16) + v) + (mK (mV nv (mE dir Fr To We (mI φ 256) me) v) v k).1 (16 * v + k % 16))) (w64 ((mK (mV nv (mE dir Fr To We (mI φ 256) me) v) v k).2 (16 * (k / 16) + v) + (mK (mV nv (mE dir Fr To We (mI φ 256) me) v) v k).2 (16 * v + k % 16)))).2) j)))]) (ws' := [(mo, .inr (6, [.int (nI mth), .int (zB dir), .int (nI nv), .int (nI me), .ref mf, .ref mt, .ref mw, .ref mr, .int (nI mrn), .ref mp, .int (nI mst), .int (zB mhr), .ref mx, .ref mfa, .ref mbi, .ref mod1, .int (nI mon), .ref msc, .ref msb, .ref msu, .ref mwy, .ref mre, .ref mby, .ref msm, .ref mle, .ref mgr])), (mf, aI cA 40 (fun j => nI (Fr j))), (mt, aI cA 40 (fun j => nI (To j))), (mw, aI cA 40 (fun j => nI (We j))), (mfa, aJ cA 256 (fun j => lZ (((mWay (mK (mV nv (mE dir Fr To We (mI φ 256) me) v) v k) k (w64 ((mK (mV nv (mE dir Fr To We (mI φ 256) me) v) v k).1 (16 * (k / 16) + v) + (mK (mV nv (mE dir Fr To We (mI φ 256) me) v) v k).1 (16 * v + k % 16))) (w64 ((mK (mV nv (mE dir Fr To We (mI φ 256) me) v) v k).2 (16 * (k / 16) + v) + (mK (mV nv (mE dir Fr To We (mI φ 256) me) v) v k).2 (16 * v + k % 16)))).1) j))), (mbi, aJ cA 256 (fun j => lZ (((mWay (mK (mV nv (mE dir Fr To We (mI φ 256) me) v) v k) k (w64 ((mK (mV nv (mE dir Fr To We (mI φ 256) me) v) v k).1 (16 * (k / 16) + v) + (mK (mV nv (mE dir Fr To We (mI φ 256) me) v) v k).1 (16 * v + k % 16))) (w64 ((mK (mV nv (mE dir Fr To We (mI φ 256) me) v) v k).2 (16 * (k / 16) + v) + (mK (mV nv (mE dir Fr To We (mI φ 256) me) v) v k).2 (16 * v + k % 16)))).2) j)))]) ⟨hx, hb, hml, hown, hts⟩ (c_X6_way l D cA H.size mo mf mt mw mr mp mx mfa mbi mod1 msc msb msu mwy mre mby msm mle mgr mth dir nv me mrn mst mhr mon (mK (mV nv (mE dir Fr To We (mI φ 256) me) v) v k) k (w64 ((mK (mV nv (mE dir Fr To We (mI φ 256) me) v) v k).1 (16 * (k / 16) + v) + (mK (mV nv (mE dir Fr To We (mI φ 256) me) v) v k).1 (16 * v + k % 16))) (w64 ((mK (mV nv (mE dir Fr To We (mI φ 256) me) v) v k).2 (16 * (k / 16) + v) + (mK (mV nv (mE dir Fr To We (mI φ 256) me) v) v k).2 (16 * v + k % 16))) (mK_R (mV_R (mE_R hW (mI_R hφ 256) me) v) v k) (w64_rng _) (w64_rng _) (by omega)) (cwV 3 hts gX6_measure_X6_way rfl rfl rfl (by decide +kernel) ⟨Nat.le_of_ble_eq_true rfl, Nat.le_of_ble_eq_true rfl⟩) hP hK hD hS hA [0, 4, 5] [1, 2, 3] [3, 0, 1, 2, 4, 5] rfl rfl rfl rfl rfl (by decide) rfl rfl rfl 6 0 rfl rfl rfl hl.1 rfl (Nat.le_of_ble_eq_true rfl) ⟨Nat.zero_le _, Nat.zero_le _⟩ dX6_measure_236 (fun H locs hP hD hS => ?_)
                              refine lv_iinc (v := nI (k + 1)) (lv' := [(2, .int (nI (k + 1))), (4, .int (nI ((16 * v) + (k % 16)))), (3, .int (nI ((16 * (k / 16)) + v))), (0, .ref mo), (1, .int (nI v))]) hx hb dX6_measure_239 hl (k := 4) rfl (nI_1 k) (by decide) rfl (fun ls hl => ?_)
                              refine lv_goto (tgt := 147) hx hb dX6_measure_242 (by decide) ?_
                              exact ih147 (k + 1) (by omega) (by omega) _ _ (by first | (rw [mK_y h188 h202]; exact hP) | (rw [mK_n (by omega)]; exact hP)) (by first | (rw [mK_y h188 h202]; exact hD) | (rw [mK_n (by omega)]; exact hD)) hS ls (lv_sub hl [3, 4, 0] (by rfl))
                    exact J147 ((16 * nv - 0) + 1) 0 (by omega) (by omega) _ _ (hP) (hD) hS ls (lv_sub hl [1, 2, 0] (by rfl))
              exact J137 ((nv - 0) + 1) 0 (by omega) (by omega) _ _ (by have q : i = me := (by omega); rw [q] at hP; exact hP) (by have q : i = me := (by omega); rw [q] at hD; exact hD) hS ls (lv_sub hl [1, 0] (by rfl))
            · skip
              refine lv_aload_n hx hb dX6_measure_56 rfl (lv_at hl 0 rfl) ?_
              refine lv_bipush (v := nI 16) hx hb dX6_measure_57 (by decide) ?_
              refine lv_aload_n hx hb dX6_measure_59 rfl (lv_at hl 0 rfl) ?_
              refine va_get (D := D) (ci := 6) (v := .ref mf) (C := RX6) (T := TX6) (N := 26) hx hb hts hin6 hown hK hP 0 rfl rfl 4 (by decide) (hts (.fieldLink RX6 13 "TourHouseModel" "from" "[I") (by decide +kernel)) (fun _ h9 => h9) rfl dX6_measure_60 ?_
              refine lv_iload_n hx hb dX6_measure_63 rfl (lv_at hl 1 rfl) ?_
              refine z_iald hx hb hK hP 1 0 rfl rfl (k := i) (by omega) (by decide) (v := nI (Fr i)) rfl dX6_measure_64 ?_
              refine lv_imul hx hb dX6_measure_65 ?_
              refine z_topi (v := nI (16 * (Fr i))) (pk_mul 16 (Fr i)) ?_
              refine lv_aload_n hx hb dX6_measure_66 rfl (lv_at hl 0 rfl) ?_
              refine va_get (D := D) (ci := 6) (v := .ref mt) (C := RX6) (T := TX6) (N := 26) hx hb hts hin6 hown hK hP 0 rfl rfl 5 (by decide) (hts (.fieldLink RX6 17 "TourHouseModel" "to" "[I") (by decide +kernel)) (fun _ h9 => h9) rfl dX6_measure_67 ?_
              refine lv_iload_n hx hb dX6_measure_70 rfl (lv_at hl 1 rfl) ?_
              refine z_iald hx hb hK hP 2 0 rfl rfl (k := i) (by omega) (by decide) (v := nI (To i)) rfl dX6_measure_71 ?_
              refine lv_iadd hx hb dX6_measure_72 ?_
              refine z_topi (v := nI ((16 * (Fr i)) + (To i))) (nI_add (16 * (Fr i)) (To i)) ?_
              refine lv_aload_n hx hb dX6_measure_73 rfl (lv_at hl 0 rfl) ?_
              refine va_get (D := D) (ci := 6) (v := .ref mw) (C := RX6) (T := TX6) (N := 26) hx hb hts hin6 hown hK hP 0 rfl rfl 6 (by decide) (hts (.fieldLink RX6 20 "TourHouseModel" "weight" "[I") (by decide +kernel)) (fun _ h9 => h9) rfl dX6_measure_74 ?_
              refine lv_iload_n hx hb dX6_measure_77 rfl (lv_at hl 1 rfl) ?_
              refine z_iald hx hb hK hP 3 0 rfl rfl (k := i) (by omega) (by decide) (v := nI (We i)) rfl dX6_measure_78 ?_
              refine lv_i2l (v := lZ ((We i : Nat) : Int)) hx hb dX6_measure_79 (nI_l2 (Nat.lt_of_le_of_lt (hW _) (by decide))) ?_
              refine lv_lconst (v := lZ 1) hx hb dX6_measure_80 (by decide) ?_
              refine lv_bipush (v := nI 39) hx hb dX6_measure_81 (by decide) ?_
              refine lv_iload_n hx hb dX6_measure_83 rfl (lv_at hl 1 rfl) ?_
              refine lv_isub hx hb dX6_measure_84 ?_
              refine z_topi (v := nI (39 - i)) (pk_sub (by omega)) ?_
              refine lv_lshl (v := lZ (2 ^ (39 - i))) hx hb dX6_measure_85 (lb_shl1 (by omega)) ?_
              refine z_cWVv (wc := [(mo, .inr (6, [.int (nI mth), .int (zB dir), .int (nI nv), .int (nI me), .ref mf, .ref mt, .ref mw, .ref mr, .int (nI mrn), .ref mp, .int (nI mst), .int (zB mhr), .ref mx, .ref mfa, .ref mbi, .ref mod1, .int (nI mon), .ref msc, .ref msb, .ref msu, .ref mwy, .ref mre, .ref mby, .ref msm, .ref mle, .ref mgr])), (mfa, aJ cA 256 (fun j => lZ (((mE dir Fr To We (mI φ 256) i).1) j))), (mbi, aJ cA 256 (fun j => lZ (((mE dir Fr To We (mI φ 256) i).2) j)))]) (rm := ({ frames := 1, cells := 0, slots := 0, locals := 25 } : Room)) (As := [.int (nI ((16 * (Fr i)) + (To i))), .long (lZ ((We i : Nat) : Int)), .long (lZ (2 ^ (39 - i)))]) (rest := []) (wr := [(mf, aI cA 40 (fun j => nI (Fr j))), (mt, aI cA 40 (fun j => nI (To j))), (mw, aI cA 40 (fun j => nI (We j)))]) (w1 := [(mo, .inr (6, [.int (nI mth), .int (zB dir), .int (nI nv), .int (nI me), .ref mf, .ref mt, .ref mw, .ref mr, .int (nI mrn), .ref mp, .int (nI mst), .int (zB mhr), .ref mx, .ref mfa, .ref mbi, .ref mod1, .int (nI mon), .ref msc, .ref msb, .ref msu, .ref mwy, .ref mre, .ref mby, .ref msm, .ref mle, .ref mgr])), (mfa, aJ cA 256 (fun j => lZ (((mWay (mE dir Fr To We (mI φ 256) i) ((16 * (Fr i)) + (To i)) ((We i : Nat) : Int) (2 ^ (39 - i))).1) j))), (mbi, aJ cA 256 (fun j => lZ (((mWay (mE dir Fr To We (mI φ 256) i) ((16 * (Fr i)) + (To i)) ((We i : Nat) : Int) (2 ^ (39 - i))).2) j)))]) (ws' := [(mo, .inr (6, [.int (nI mth), .int (zB dir), .int (nI nv), .int (nI me), .ref mf, .ref mt, .ref mw, .ref mr, .int (nI mrn), .ref mp, .int (nI mst), .int (zB mhr), .ref mx, .ref mfa, .ref mbi, .ref mod1, .int (nI mon), .ref msc, .ref msb, .ref msu, .ref mwy, .ref mre, .ref mby, .ref msm, .ref mle, .ref mgr])), (mf, aI cA 40 (fun j => nI (Fr j))), (mt, aI cA 40 (fun j => nI (To j))), (mw, aI cA 40 (fun j => nI (We j))), (mfa, aJ cA 256 (fun j => lZ (((mWay (mE dir Fr To We (mI φ 256) i) ((16 * (Fr i)) + (To i)) ((We i : Nat) : Int) (2 ^ (39 - i))).1) j))), (mbi, aJ cA 256 (fun j => lZ (((mWay (mE dir Fr To We (mI φ 256) i) ((16 * (Fr i)) + (To i)) ((We i : Nat) : Int) (2 ^ (39 - i))).2) j)))]) ⟨hx, hb, hml, hown, hts⟩ (c_X6_way l D cA H.size mo mf mt mw mr mp mx mfa mbi mod1 msc msb msu mwy mre mby msm mle mgr mth dir nv me mrn mst mhr mon (mE dir Fr To We (mI φ 256) i) ((16 * (Fr i)) + (To i)) ((We i : Nat) : Int) (2 ^ (39 - i)) (mE_R hW (mI_R hφ 256) i) (⟨by omega, by have := hW i; omega⟩) (by have := pow39 i; omega) (by have := hF i; have := hT i; omega)) (cwV 3 hts gX6_measure_X6_way rfl rfl rfl (by decide +kernel) ⟨Nat.le_of_ble_eq_true rfl, Nat.le_of_ble_eq_true rfl⟩) hP hK hD hS hA [0, 4, 5] [1, 2, 3] [3, 0, 1, 2, 4, 5] rfl rfl rfl rfl rfl (by decide) rfl rfl rfl 6 0 rfl rfl rfl hl.1 rfl (Nat.le_of_ble_eq_true rfl) ⟨Nat.zero_le _, Nat.zero_le _⟩ dX6_measure_86 (fun H locs hP hD hS => ?_)
              refine lv_aload_n hx hb dX6_measure_89 rfl (lv_at hl 0 rfl) ?_
              refine va_get (D := D) (ci := 6) (v := .int (zB dir)) (C := RX6) (T := TX6) (N := 26) hx hb hts hin6 hown hK hP 0 rfl rfl 1 (by decide) (hts (.fieldLink RX6 88 "TourHouseModel" "directed" "Z") (by decide +kernel)) (fun _ h9 => h9) rfl dX6_measure_90 ?_
              refine z_ifne hx hb (tgt := 129) dX6_measure_93 (by decide) (fun h93 => ?_) (fun h93 => ?_)
              · skip
                refine lv_iinc (v := nI (i + 1)) (lv' := [(1, .int (nI (i + 1))), (0, .ref mo)]) hx hb dX6_measure_129 hl (k := 1) rfl (nI_1 i) (by decide) rfl (fun ls hl => ?_)
                refine lv_goto (tgt := 48) hx hb dX6_measure_132 (by decide) ?_
                exact ih48 (i + 1) (by omega) (by omega) _ _ (by first | (rw [mE_t h93]; exact hP) | (rw [mE_f h93]; exact hP)) (by first | (rw [mE_t h93]; exact hD) | (rw [mE_f h93]; exact hD)) hS ls (lv_sub hl [1, 0] (by rfl))
              · skip
                refine lv_aload_n hx hb dX6_measure_96 rfl (lv_at hl 0 rfl) ?_
                refine lv_bipush (v := nI 16) hx hb dX6_measure_97 (by decide) ?_
                refine lv_aload_n hx hb dX6_measure_99 rfl (lv_at hl 0 rfl) ?_
                refine va_get (D := D) (ci := 6) (v := .ref mt) (C := RX6) (T := TX6) (N := 26) hx hb hts hin6 hown hK hP 0 rfl rfl 5 (by decide) (hts (.fieldLink RX6 17 "TourHouseModel" "to" "[I") (by decide +kernel)) (fun _ h9 => h9) rfl dX6_measure_100 ?_
                refine lv_iload_n hx hb dX6_measure_103 rfl (lv_at hl 1 rfl) ?_
                refine z_iald hx hb hK hP 2 0 rfl rfl (k := i) (by omega) (by decide) (v := nI (To i)) rfl dX6_measure_104 ?_
                refine lv_imul hx hb dX6_measure_105 ?_
                refine z_topi (v := nI (16 * (To i))) (pk_mul 16 (To i)) ?_
                refine lv_aload_n hx hb dX6_measure_106 rfl (lv_at hl 0 rfl) ?_
                refine va_get (D := D) (ci := 6) (v := .ref mf) (C := RX6) (T := TX6) (N := 26) hx hb hts hin6 hown hK hP 0 rfl rfl 4 (by decide) (hts (.fieldLink RX6 13 "TourHouseModel" "from" "[I") (by decide +kernel)) (fun _ h9 => h9) rfl dX6_measure_107 ?_
                refine lv_iload_n hx hb dX6_measure_110 rfl (lv_at hl 1 rfl) ?_
                refine z_iald hx hb hK hP 1 0 rfl rfl (k := i) (by omega) (by decide) (v := nI (Fr i)) rfl dX6_measure_111 ?_
                refine lv_iadd hx hb dX6_measure_112 ?_
                refine z_topi (v := nI ((16 * (To i)) + (Fr i))) (nI_add (16 * (To i)) (Fr i)) ?_
                refine lv_aload_n hx hb dX6_measure_113 rfl (lv_at hl 0 rfl) ?_
                refine va_get (D := D) (ci := 6) (v := .ref mw) (C := RX6) (T := TX6) (N := 26) hx hb hts hin6 hown hK hP 0 rfl rfl 6 (by decide) (hts (.fieldLink RX6 20 "TourHouseModel" "weight" "[I") (by decide +kernel)) (fun _ h9 => h9) rfl dX6_measure_114 ?_
                refine lv_iload_n hx hb dX6_measure_117 rfl (lv_at hl 1 rfl) ?_
                refine z_iald hx hb hK hP 3 0 rfl rfl (k := i) (by omega) (by decide) (v := nI (We i)) rfl dX6_measure_118 ?_
                refine lv_i2l (v := lZ ((We i : Nat) : Int)) hx hb dX6_measure_119 (nI_l2 (Nat.lt_of_le_of_lt (hW _) (by decide))) ?_
                refine lv_lconst (v := lZ 1) hx hb dX6_measure_120 (by decide) ?_
                refine lv_bipush (v := nI 39) hx hb dX6_measure_121 (by decide) ?_
                refine lv_iload_n hx hb dX6_measure_123 rfl (lv_at hl 1 rfl) ?_
                refine lv_isub hx hb dX6_measure_124 ?_
                refine z_topi (v := nI (39 - i)) (pk_sub (by omega)) ?_
                refine lv_lshl (v := lZ (2 ^ (39 - i))) hx hb dX6_measure_125 (lb_shl1 (by omega)) ?_
                refine z_cWVv (wc := [(mo, .inr (6, [.int (nI mth), .int (zB dir), .int (nI nv), .int (nI me), .ref mf, .ref mt, .ref mw, .ref mr, .int (nI mrn), .ref mp, .int (nI mst), .int (zB mhr), .ref mx, .ref mfa, .ref mbi, .ref mod1, .int (nI mon), .ref msc, .ref msb, .ref msu, .ref mwy, .ref mre, .ref mby, .ref msm, .ref mle, .ref mgr])), (mfa, aJ cA 256 (fun j => lZ (((mWay (mE dir Fr To We (mI φ 256) i) ((16 * (Fr i)) + (To i)) ((We i : Nat) : Int) (2 ^ (39 - i))).1) j))), (mbi, aJ cA 256 (fun j => lZ (((mWay (mE dir Fr To We (mI φ 256) i) ((16 * (Fr i)) + (To i)) ((We i : Nat) : Int) (2 ^ (39 - i))).2) j)))]) (rm := ({ frames := 1, cells := 0, slots := 0, locals := 25 } : Room)) (As := [.int (nI ((16 * (To i)) + (Fr i))), .long (lZ ((We i : Nat) : Int)), .long (lZ (2 ^ (39 - i)))]) (rest := []) (wr := [(mf, aI cA 40 (fun j => nI (Fr j))), (mt, aI cA 40 (fun j => nI (To j))), (mw, aI cA 40 (fun j => nI (We j)))]) (w1 := [(mo, .inr (6, [.int (nI mth), .int (zB dir), .int (nI nv), .int (nI me), .ref mf, .ref mt, .ref mw, .ref mr, .int (nI mrn), .ref mp, .int (nI mst), .int (zB mhr), .ref mx, .ref mfa, .ref mbi, .ref mod1, .int (nI mon), .ref msc, .ref msb, .ref msu, .ref mwy, .ref mre, .ref mby, .ref msm, .ref mle, .ref mgr])), (mfa, aJ cA 256 (fun j => lZ (((mWay (mWay (mE dir Fr To We (mI φ 256) i) ((16 * (Fr i)) + (To i)) ((We i : Nat) : Int) (2 ^ (39 - i))) ((16 * (To i)) + (Fr i)) ((We i : Nat) : Int) (2 ^ (39 - i))).1) j))), (mbi, aJ cA 256 (fun j => lZ (((mWay (mWay (mE dir Fr To We (mI φ 256) i) ((16 * (Fr i)) + (To i)) ((We i : Nat) : Int) (2 ^ (39 - i))) ((16 * (To i)) + (Fr i)) ((We i : Nat) : Int) (2 ^ (39 - i))).2) j)))]) (ws' := [(mo, .inr (6, [.int (nI mth), .int (zB dir), .int (nI nv), .int (nI me), .ref mf, .ref mt, .ref mw, .ref mr, .int (nI mrn), .ref mp, .int (nI mst), .int (zB mhr), .ref mx, .ref mfa, .ref mbi, .ref mod1, .int (nI mon), .ref msc, .ref msb, .ref msu, .ref mwy, .ref mre, .ref mby, .ref msm, .ref mle, .ref mgr])), (mf, aI cA 40 (fun j => nI (Fr j))), (mt, aI cA 40 (fun j => nI (To j))), (mw, aI cA 40 (fun j => nI (We j))), (mfa, aJ cA 256 (fun j => lZ (((mWay (mWay (mE dir Fr To We (mI φ 256) i) ((16 * (Fr i)) + (To i)) ((We i : Nat) : Int) (2 ^ (39 - i))) ((16 * (To i)) + (Fr i)) ((We i : Nat) : Int) (2 ^ (39 - i))).1) j))), (mbi, aJ cA 256 (fun j => lZ (((mWay (mWay (mE dir Fr To We (mI φ 256) i) ((16 * (Fr i)) + (To i)) ((We i : Nat) : Int) (2 ^ (39 - i))) ((16 * (To i)) + (Fr i)) ((We i : Nat) : Int) (2 ^ (39 - i))).2) j)))]) ⟨hx, hb, hml, hown, hts⟩ (c_X6_way l D cA H.size mo mf mt mw mr mp mx mfa mbi mod1 msc msb msu mwy mre mby msm mle mgr mth dir nv me mrn mst mhr mon (mWay (mE dir Fr To We (mI φ 256) i) ((16 * (Fr i)) + (To i)) ((We i : Nat) : Int) (2 ^ (39 - i))) ((16 * (To i)) + (Fr i)) ((We i : Nat) : Int) (2 ^ (39 - i)) (mWay_R (mE_R hW (mI_R hφ 256) i) ⟨by omega, by have := hW i; omega⟩ (by have := pow39 i; omega)) (⟨by omega, by have := hW i; omega⟩) (by have := pow39 i; omega) (by have := hF i; have := hT i; omega)) (cwV 3 hts gX6_measure_X6_way rfl rfl rfl (by decide +kernel) ⟨Nat.le_of_ble_eq_true rfl, Nat.le_of_ble_eq_true rfl⟩) hP hK hD hS hA [0, 4, 5] [1, 2, 3] [3, 0, 1, 2, 4, 5] rfl rfl rfl rfl rfl (by decide) rfl rfl rfl 6 0 rfl rfl rfl hl.1 rfl (Nat.le_of_ble_eq_true rfl) ⟨Nat.zero_le _, Nat.zero_le _⟩ dX6_measure_126 (fun H locs hP hD hS => ?_)
                refine lv_iinc (v := nI (i + 1)) (lv' := [(1, .int (nI (i + 1))), (0, .ref mo)]) hx hb dX6_measure_129 hl (k := 1) rfl (nI_1 i) (by decide) rfl (fun ls hl => ?_)
                refine lv_goto (tgt := 48) hx hb dX6_measure_132 (by decide) ?_
                exact ih48 (i + 1) (by omega) (by omega) _ _ (by first | (rw [mE_t h93]; exact hP) | (rw [mE_f h93]; exact hP)) (by first | (rw [mE_t h93]; exact hD) | (rw [mE_f h93]; exact hD)) hS ls (lv_sub hl [1, 0] (by rfl))
        exact J48 ((me - 0) + 1) 0 (by omega) (by omega) _ _ (by have q : i = 256 := (by omega); rw [q] at hP; exact hP) (by have q : i = 256 := (by omega); rw [q] at hD; exact hD) hS ls (lv_sub hl [1, 0] (by rfl))
      · skip
        refine lv_aload_n hx hb dX6_measure_9 rfl (lv_at hl 0 rfl) ?_
        refine va_get (D := D) (ci := 6) (v := .ref mfa) (C := RX6) (T := TX6) (N := 26) hx hb hts hin6 hown hK hP 0 rfl rfl 13 (by decide) (hts (.fieldLink RX6 32 "TourHouseModel" "far" "[J") (by decide +kernel)) (fun _ h9 => h9) rfl dX6_measure_10 ?_
        refine lv_iload_n hx hb dX6_measure_13 rfl (lv_at hl 1 rfl) ?_
        refine lv_iload_n hx hb dX6_measure_14 rfl (lv_at hl 1 rfl) ?_
        refine lv_bipush (v := nI 16) hx hb dX6_measure_15 (by decide) ?_
        refine lv_idiv hx hb dX6_measure_17 (by decide) ?_
        refine z_topi (v := nI (i / 16)) (pk_div (by omega) (by decide) (by decide)) ?_
        refine lv_iload_n hx hb dX6_measure_18 rfl (lv_at hl 1 rfl) ?_
        refine lv_bipush (v := nI 16) hx hb dX6_measure_19 (by decide) ?_
        refine lv_irem hx hb dX6_measure_21 (by decide) ?_
        refine z_topi (v := nI (i % 16)) (pk_rem (by omega) (by decide) (by decide)) ?_
        have J32 : ∀ (H : Heap) (locs : List Loc), va_P D vwCl [(mo, .inr (6, [.int (nI mth), .int (zB dir), .int (nI nv), .int (nI me), .ref mf, .ref mt, .ref mw, .ref mr, .int (nI mrn), .ref mp, .int (nI mst), .int (zB mhr), .ref mx, .ref mfa, .ref mbi, .ref mod1, .int (nI mon), .ref msc, .ref msb, .ref msu, .ref mwy, .ref mre, .ref mby, .ref msm, .ref mle, .ref mgr])), (mf, aI cA 40 (fun j => nI (Fr j))), (mt, aI cA 40 (fun j => nI (To j))), (mw, aI cA 40 (fun j => nI (We j))), (mfa, aJ cA 256 (fun j => lZ (((mI φ i).1) j))), (mbi, aJ cA 256 (fun j => lZ (((mI φ i).2) j)))] H → va_D A [(mo, .inr (6, [.int (nI mth), .int (zB dir), .int (nI nv), .int (nI me), .ref mf, .ref mt, .ref mw, .ref mr, .int (nI mrn), .ref mp, .int (nI mst), .int (zB mhr), .ref mx, .ref mfa, .ref mbi, .ref mod1, .int (nI mon), .ref msc, .ref msb, .ref msu, .ref mwy, .ref mre, .ref mby, .ref msm, .ref mle, .ref mgr])), (mf, aI cA 40 (fun j => nI (Fr j))), (mt, aI cA 40 (fun j => nI (To j))), (mw, aI cA 40 (fun j => nI (We j))), (mfa, aJ cA 256 (fun j => lZ (((mI φ i).1) j))), (mbi, aJ cA 256 (fun j => lZ (((mI φ i).2) j)))] → va_S A s.heap H locs → ∀ (ls : Array Slot), lv_has ls 5 [(0, .ref mo), (1, .int (nI i))] → W p l e ({ frames := 2, cells := 0, slots := 0, locals := 50 } : Room) s m args below meth c H locs 0 0 Q (F0 m 32 ls [.long (lZ (mD i)), .int (nI i), .ref mfa]) := by
          intro   H locs hP hD hS ls hl
          refine z_last hx hb hK hP hD hS 4 1 rfl rfl (k := i) (by omega) (by decide) (f' := (fun j => lZ (((mI φ (i + 1)).1) j))) ((updL_lZ ((mI φ i).1) i (mD i)).trans (by rw [mI_u1])) (ws' := [(mo, .inr (6, [.int (nI mth), .int (zB dir), .int (nI nv), .int (nI me), .ref mf, .ref mt, .ref mw, .ref mr, .int (nI mrn), .ref mp, .int (nI mst), .int (zB mhr), .ref mx, .ref mfa, .ref mbi, .ref mod1, .int (nI mon), .ref msc, .ref msb, .ref msu, .ref mwy, .ref mre, .ref mby, .ref msm, .ref mle, .ref mgr])), (mf, aI cA 40 (fun j => nI (Fr j))), (mt, aI cA 40 (fun j => nI (To j))), (mw, aI cA 40 (fun j => nI (We j))), (mfa, aJ cA 256 (fun j => lZ (((mI φ (i + 1)).1) j))), (mbi, aJ cA 256 (fun j => lZ (((mI φ i).2) j)))]) rfl dX6_measure_32 (fun H locs hP hD hS => ?_)
          refine lv_aload_n hx hb dX6_measure_33 rfl (lv_at hl 0 rfl) ?_
          refine va_get (D := D) (ci := 6) (v := .ref mbi) (C := RX6) (T := TX6) (N := 26) hx hb hts hin6 hown hK hP 0 rfl rfl 14 (by decide) (hts (.fieldLink RX6 36 "TourHouseModel" "bits" "[J") (by decide +kernel)) (fun _ h9 => h9) rfl dX6_measure_34 ?_
          refine lv_iload_n hx hb dX6_measure_37 rfl (lv_at hl 1 rfl) ?_
          refine lv_lconst (v := lZ 0) hx hb dX6_measure_38 (by decide) ?_
          refine z_last hx hb hK hP hD hS 5 1 rfl rfl (k := i) (by omega) (by decide) (f' := (fun j => lZ (((mI φ (i + 1)).2) j))) ((updL_lZ ((mI φ i).2) i 0).trans (by rw [mI_u2])) (ws' := [(mo, .inr (6, [.int (nI mth), .int (zB dir), .int (nI nv), .int (nI me), .ref mf, .ref mt, .ref mw, .ref mr, .int (nI mrn), .ref mp, .int (nI mst), .int (zB mhr), .ref mx, .ref mfa, .ref mbi, .ref mod1, .int (nI mon), .ref msc, .ref msb, .ref msu, .ref mwy, .ref mre, .ref mby, .ref msm, .ref mle, .ref mgr])), (mf, aI cA 40 (fun j => nI (Fr j))), (mt, aI cA 40 (fun j => nI (To j))), (mw, aI cA 40 (fun j => nI (We j))), (mfa, aJ cA 256 (fun j => lZ (((mI φ (i + 1)).1) j))), (mbi, aJ cA 256 (fun j => lZ (((mI φ (i + 1)).2) j)))]) rfl dX6_measure_39 (fun H locs hP hD hS => ?_)
          refine lv_iinc (v := nI (i + 1)) (lv' := [(1, .int (nI (i + 1))), (0, .ref mo)]) hx hb dX6_measure_40 hl (k := 1) rfl (nI_1 i) (by decide) rfl (fun ls hl => ?_)
          refine lv_goto (tgt := 2) hx hb dX6_measure_43 (by decide) ?_
          exact ih2 (i + 1) (by omega) (by omega) _ _ (hP) (hD) hS ls (lv_sub hl [1, 0] (by rfl))
        refine z_ne hx hb (by omega) (by omega) (tgt := 29) dX6_measure_22 (by decide) (fun h22 => ?_) (fun h22 => ?_)
        · skip
          refine lv_ldc2 (v := (1152921504606846976)) hx hb hown (hts (.constantLong RX6 103 (1152921504606846976)) (by decide +kernel)) dX6_measure_29 ?_
          refine z_topl (v := lZ 1152921504606846976) (by decide) ?_
          refine z_topl (v := lZ (mD i)) (by congr 1; simp [mD, h22]) ?_
          exact J32   _ _ (hP) (hD) hS ls (lv_sub hl [0, 1] (by rfl))
        · skip
          refine lv_lconst (v := lZ 0) hx hb dX6_measure_25 (by decide) ?_
          refine lv_goto (tgt := 32) hx hb dX6_measure_26 (by decide) ?_
          refine z_topl (v := lZ (mD i)) (by congr 1; simp [mD, h22]) ?_
          exact J32   _ _ (hP) (hD) hS ls (lv_sub hl [0, 1] (by rfl))
  exact J2 ((256 - 0) + 1) 0 (by omega) (by omega) _ _ (by rw [mI_0]; exact hP) (by rw [mI_0]; exact hD) hS ls (lv_sub hl [1, 0] (by rfl))
