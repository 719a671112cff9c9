def mLo (dir : Bool) (Fr To : Nat → Nat) (me nv : Nat) : Nat → Int
  | 0 => -1
  | k + 1 => if mOdd dir Fr To me (nv - (k + 1)) = true then ((nv - (k + 1) : Nat) : Int) else mLo dir Fr To me nv k
def mTo (Fr To : Nat → Nat) (me : Nat) : Nat → Nat
  | 0 => 0
  | k + 1 => mTo Fr To me k + (if mHas Fr To k me = true then 1 else 0)
def mSt (G Fr To : Nat → Nat) (me : Nat) : Nat → Nat
  | 0 => 0
  | k + 1 => mSt G Fr To me k + (if G k = k ∧ mHas Fr To k me = true then 1 else 0)
def mCv (Fr To : Nat → Nat) (me : Nat) (Fa : Nat → Int) (st : Nat) : Nat → Bool
  | 0 => mHas Fr To st me
  | k + 1 => mCv Fr To me Fa st k && (!mHas Fr To k me || (decide (Fa (16 * st + k) < 1152921504606846976) && decide (Fa (16 * k + st) < 1152921504606846976)))
def mCovers (Fr To : Nat → Nat) (nv me : Nat) (Fa : Nat → Int) (st : Nat) : Bool := if me = 0 then true else mCv Fr To me Fa st nv
/-- the first i of row v copied -/
def cpS (Wy Sm : Nat → Int) (v i : Nat) : Nat → Int := fun j => if j < i then Wy (41 * v + j) else Sm j
theorem cpS_0 {Wy Sm : Nat → Int} {v : Nat} : cpS Wy Sm v 0 = Sm := by funext j; simp [cpS]
theorem cpS_up {Wy Sm : Nat → Int} {v i : Nat} : va_up (cpS Wy Sm v i) i (Wy (41 * v + i)) = cpS Wy Sm v (i + 1) := by
  funext j
  by_cases e : j = i
  · subst e; rw [up_at]; simp [cpS]
  · rw [up_ne e]; simp only [cpS]
    by_cases h : j < i
    · rw [if_pos h, if_pos (by omega)]
    · rw [if_neg h, if_neg (by omega)]
theorem cpS_R {Wy Sm : Nat → Int} (hW : ∀ j, -9223372036854775808 ≤ Wy j ∧ Wy j < 9223372036854775808) (hS : ∀ j, -9223372036854775808 ≤ Sm j ∧ Sm j < 9223372036854775808) (v i : Nat) : ∀ j, -9223372036854775808 ≤ cpS Wy Sm v i j ∧ cpS Wy Sm v i j < 9223372036854775808 := by
  intro j; unfold cpS; split
  · exact hW _
  · exact hS j
def mAdd (We : Nat → Nat) (Wy Sm : Nat → Int) (v e : Nat) (sg : Int) : Nat → Int :=
  va_up (va_up (cpS Wy Sm v 41) 0 (w64 (cpS Wy Sm v 41 0 + sg * ((We e : Nat) : Int)))) (e + 1) (w64 (va_up (cpS Wy Sm v 41) 0 (w64 (cpS Wy Sm v 41 0 + sg * ((We e : Nat) : Int))) (e + 1) + sg))
theorem mAdd_R {We : Nat → Nat} {Wy Sm : Nat → Int} {v e : Nat} {sg : Int} (hW : ∀ j, -9223372036854775808 ≤ Wy j ∧ Wy j < 9223372036854775808) (hS : ∀ j, -9223372036854775808 ≤ Sm j ∧ Sm j < 9223372036854775808) : ∀ j, -9223372036854775808 ≤ mAdd We Wy Sm v e sg j ∧ mAdd We Wy Sm v e sg j < 9223372036854775808 :=
  up_all (P := fun x => -9223372036854775808 ≤ x ∧ x < 9223372036854775808) (up_all (P := fun x => -9223372036854775808 ≤ x ∧ x < 9223372036854775808) (cpS_R hW hS v 41) (w64_rng _)) (w64_rng _)
/-- the rows compared, of the last k places -/
def mLx (Sm Wy : Nat → Int) (v : Nat) : Nat → Bool
  | 0 => false
  | k + 1 => if Sm (41 - (k + 1)) = Wy (41 * v + (41 - (k + 1))) then mLx Sm Wy v k else decide (Sm (41 - (k + 1)) < Wy (41 * v + (41 - (k + 1))))
def mLess (Re : Nat → Bool) (Sm Wy : Nat → Int) (v : Nat) : Bool := if Re v = false then true else mLx Sm Wy v 41
/-- reached, by, ways, sum -/
abbrev RS : Type := (Nat → Bool) × (Nat → Int) × (Nat → Int) × (Nat → Int)
def rR (ρ : RS) : Prop := (∀ j, -9223372036854775808 ≤ ρ.2.2.1 j ∧ ρ.2.2.1 j < 9223372036854775808) ∧ (∀ j, -9223372036854775808 ≤ ρ.2.2.2 j ∧ ρ.2.2.2 j < 9223372036854775808)
def mBy (sg : Int) (e : Nat) : Int := if 0 < sg then ((e : Nat) : Int) else ((40 + e : Nat) : Int)
def cpW (Wy Sm : Nat → Int) (b i : Nat) : Nat → Int := fun j => if 41 * b ≤ j ∧ j < 41 * b + i then Sm (j - 41 * b) else Wy j
theorem cpW_0 {Wy Sm : Nat → Int} {b : Nat} : cpW Wy Sm b 0 = Wy := by
  funext j; simp only [cpW]; rw [if_neg (by omega)]
theorem cpW_up {Wy Sm : Nat → Int} {b i : Nat} : va_up (cpW Wy Sm b i) (41 * b + i) (Sm i) = cpW Wy Sm b (i + 1) := by
  funext j
  by_cases e : j = 41 * b + i
  · subst e; rw [up_at]; simp only [cpW]; rw [if_pos (by omega), Nat.add_sub_cancel_left]
  · rw [up_ne e]; simp only [cpW]
    by_cases h : 41 * b ≤ j ∧ j < 41 * b + i
    · rw [if_pos h, if_pos (by omega)]
    · rw [if_neg h, if_neg (by omega)]
def mRch (We : Nat → Nat) (ρ : RS) (a b e : Nat) (sg : Int) : RS × Bool :=
  if ρ.1 a = false then (ρ, false)
  else if mLess ρ.1 (mAdd We ρ.2.2.1 ρ.2.2.2 a e sg) ρ.2.2.1 b = false then ((ρ.1, ρ.2.1, ρ.2.2.1, mAdd We ρ.2.2.1 ρ.2.2.2 a e sg), false)
  else ((va_up ρ.1 b true, va_up ρ.2.1 b (mBy sg e), cpW ρ.2.2.1 (mAdd We ρ.2.2.1 ρ.2.2.2 a e sg) b 41, mAdd We ρ.2.2.1 ρ.2.2.2 a e sg), true)
theorem mRch_R {We : Nat → Nat} {ρ : RS} {a b e : Nat} {sg : Int} (h : rR ρ) : rR (mRch We ρ a b e sg).1 := by
  have hA := mAdd_R (We := We) (v := a) (e := e) (sg := sg) h.1 h.2
  unfold mRch
  split
  · exact h
  · split
    · exact ⟨h.1, hA⟩
    · refine ⟨?_, hA⟩
      intro j
      show _ ≤ cpW _ _ _ _ _ ∧ cpW _ _ _ _ _ < _
      unfold cpW
      split
      · exact hA _
      · exact h.1 j
/-- the nearest of the first k that want: the row, the vertex -/
def mNr (Re : Nat → Bool) (Wy Su Sm : Nat → Int) : Nat → (Nat → Int) × Int
  | 0 => (Sm, -1)
  | k + 1 => if 0 ≤ Su k then mNr Re Wy Su Sm k
    else if (mNr Re Wy Su Sm k).2 < 0 ∨ mLess Re (cpS Wy (mNr Re Wy Su Sm k).1 k 41) Wy (mNr Re Wy Su Sm k).2.toNat = true then (cpS Wy (mNr Re Wy Su Sm k).1 k 41, ((k : Nat) : Int))
    else (cpS Wy (mNr Re Wy Su Sm k).1 k 41, (mNr Re Wy Su Sm k).2)
theorem mNr_rng (Re : Nat → Bool) (Wy Su Sm : Nat → Int) : ∀ k, -1 ≤ (mNr Re Wy Su Sm k).2 ∧ (mNr Re Wy Su Sm k).2 < k ∨ (mNr Re Wy Su Sm k).2 = -1
  | 0 => Or.inr rfl
  | k + 1 => by
    have := mNr_rng Re Wy Su Sm k
    rw [mNr]
    split
    · omega
    · split
      · show -1 ≤ ((k : Nat) : Int) ∧ ((k : Nat) : Int) < _ ∨ _
        omega
      · show -1 ≤ (mNr Re Wy Su Sm k).2 ∧ (mNr Re Wy Su Sm k).2 < _ ∨ (mNr Re Wy Su Sm k).2 = -1
        omega
section
variable {Re : Nat → Bool} {Wy Su Sm : Nat → Int} {k : Nat}
theorem mNr_k (h : 0 ≤ Su k) : mNr Re Wy Su Sm (k + 1) = mNr Re Wy Su Sm k := by rw [mNr, if_pos h]
theorem mNr_b (h : ¬ 0 ≤ Su k) (h2 : (mNr Re Wy Su Sm k).2 < 0 ∨ mLess Re (cpS Wy (mNr Re Wy Su Sm k).1 k 41) Wy (mNr Re Wy Su Sm k).2.toNat = true) : mNr Re Wy Su Sm (k + 1) = (cpS Wy (mNr Re Wy Su Sm k).1 k 41, ((k : Nat) : Int)) := by rw [mNr, if_neg h, if_pos h2]
theorem mNr_n (h : ¬ 0 ≤ Su k) (h2 : ¬ (mNr Re Wy Su Sm k).2 < 0) (h3 : mLess Re (cpS Wy (mNr Re Wy Su Sm k).1 k 41) Wy (mNr Re Wy Su Sm k).2.toNat = false) : mNr Re Wy Su Sm (k + 1) = (cpS Wy (mNr Re Wy Su Sm k).1 k 41, (mNr Re Wy Su Sm k).2) := by
  rw [mNr, if_neg h, if_neg]
  rintro (q | q)
  · exact h2 q
  · rw [h3] at q; cases q
theorem mNr_R (hW : ∀ j, -9223372036854775808 ≤ Wy j ∧ Wy j < 9223372036854775808) (hS : ∀ j, -9223372036854775808 ≤ Sm j ∧ Sm j < 9223372036854775808) : ∀ k, ∀ j, -9223372036854775808 ≤ (mNr Re Wy Su Sm k).1 j ∧ (mNr Re Wy Su Sm k).1 j < 9223372036854775808
  | 0 => hS
  | k + 1 => by
    have ih := mNr_R hW hS k
    rw [mNr]
    split
    · exact ih
    · split
      · exact cpS_R hW ih k 41
      · exact cpS_R hW ih k 41
end
set_option maxHeartbeats 4000000 in
set_option maxRecDepth 100000 in
/-- Model.leastOdd -/
theorem c_X6_leastOdd (l : Launch) (D : va_G) (cA : Nat → ClassId) (mo : Nat) (mf : Nat) (mt : Nat) (mw : Nat) (mr : Nat) (mp : Nat) (mx : Nat) (mfa : Nat) (mbi : Nat) (mod1 : Nat) (msc : Nat) (msb : Nat) (msu : Nat) (mwy : Nat) (mre : Nat) (mby : Nat) (msm : Nat) (mle : Nat) (mgr : Nat) (mth : Nat) (dir : Bool) (nv : Nat) (me : Nat) (mrn : Nat) (mst : Nat) (mhr : Bool) (mon : Nat) (Fr : Nat → Nat) (To : Nat → Nat) (hme : me ≤ 40) (hF : ∀ j, Fr j < 16) (hT : ∀ j, To j < 16) (hnv : nv ≤ 16) : Met l yX6_leastOdd wsX6_leastOdd ({ frames := 2, cells := 0, slots := 0, locals := 44 } : Room) (zRd D vwCl (zT cA) [(mo, .inr (6, [.int (nI mth), .int (zB dir), .int (nI nv), .int (nI me), .ref mf, .ref mt, .ref mw, .ref mr, .int (nI mrn), .ref mp, .int (nI mst), .int (zB mhr), .ref mx, .ref mfa, .ref mbi, .ref mod1, .int (nI mon), .ref msc, .ref msb, .ref msu, .ref mwy, .ref mre, .ref mby, .ref msm, .ref mle, .ref mgr])), (mf, aI cA 40 (fun j => nI (Fr j))), (mt, aI cA 40 (fun j => nI (To j)))] [.ref mo]) (vp_Si (fun r => r = iZ (mLo dir Fr To me nv nv))) 0 0 (fun _ => False) := by
  refine z_read (cc := cX6_leastOdd) (maxL := 2) (ret := (some .int)) (by decide) rfl (Nat.le_of_ble_eq_true rfl) ?_
  intro p e s m below meth c hx hb hr hml hown hts hlocks hP hK Q hQ ls hl
  have hown : s.vm.findClass RX6 = some m.cls := hown
  have hl : lv_has ls 2 [(0, .ref mo)] := hl
  generalize hav : ([.ref mo] : List Value).toArray = args at hts hQ ⊢
  have hin6 : ∀ w ∈ wsX60, w ∈ wsX6_leastOdd := by decide +kernel
  refine lv_iconst (v := nI 0) hx hb dX6_leastOdd_0 (by decide) ?_
  refine lv_istore_n (lv' := [(1, .int (nI 0)), (0, .ref mo)]) hx hb dX6_leastOdd_1 rfl hl (by decide) rfl (fun ls hl => ?_)
  have J2 : ∀ (n : Nat), ∀ (i : Nat), (i ≤ nv) → (mLo dir Fr To me nv (nv - i) = mLo dir Fr To me nv nv) → nv - i < n → ∀ (ls : Array Slot), lv_has ls 2 [(0, .ref mo), (1, .int (nI i))] → W p l e ({ frames := 2, cells := 0, slots := 0, locals := 44 } : Room) s m args below meth c s.heap [] 0 0 Q (F0 m 2 ls []) := by
    intro n2
    induction n2 with
    | zero => intro i hi hq hn; exact absurd hn (Nat.not_lt_zero _)
    | succ n2 ih2 =>
      intro i hi hq hn2 ls hl
      refine lv_iload_n hx hb dX6_leastOdd_2 rfl (lv_at hl 1 rfl) ?_
      refine lv_aload_n hx hb dX6_leastOdd_3 rfl (lv_at hl 0 rfl) ?_
      refine va_get (D := D) (ci := 6) (v := .int (nI nv)) (C := RX6) (T := TX6) (N := 26) hx hb hts hin6 hown hK hP 0 rfl rfl 2 (by decide) (hts (.fieldLink RX6 7 "TourHouseModel" "n" "I") (by decide +kernel)) (fun _ h9 => h9) rfl dX6_leastOdd_4 ?_
      refine z_ge hx hb (by omega) (by omega) (tgt := 26) dX6_leastOdd_7 (by decide) (fun h7 => ?_) (fun h7 => ?_)
      · skip
        refine lv_iconst (v := iZ (-1)) hx hb dX6_leastOdd_26 (by decide) ?_
        exact z_iretR hx hb hr hlocks hQ (by rw [← hq, show nv - i = 0 from by omega]; rfl) dX6_leastOdd_27 rfl rfl
      · skip
        refine lv_aload_n hx hb dX6_leastOdd_10 rfl (lv_at hl 0 rfl) ?_
        refine lv_iload_n hx hb dX6_leastOdd_11 rfl (lv_at hl 1 rfl) ?_
        refine z_cRVi (wc := [(mo, .inr (6, [.int (nI mth), .int (zB dir), .int (nI nv), .int (nI me), .ref mf, .ref mt, .ref mw, .ref mr, .int (nI mrn), .ref mp, .int (nI mst), .int (zB mhr), .ref mx, .ref mfa, .ref mbi, .ref mod1, .int (nI mon), .ref msc, .ref msb, .ref msu, .ref mwy, .ref mre, .ref mby, .ref msm, .ref mle, .ref mgr])), (mf, aI cA 40 (fun j => nI (Fr j))), (mt, aI cA 40 (fun j => nI (To j)))]) (rm := ({ frames := 1, cells := 0, slots := 0, locals := 23 } : Room)) (As := [.int (nI i)]) (rest := []) ⟨hx, hb, hml, hown, hts⟩ (c_X6_isOdd l D cA mo mf mt mw mr mp mx mfa mbi mod1 msc msb msu mwy mre mby msm mle mgr mth dir nv me mrn mst mhr mon Fr To i (by first | assumption | omega) (by first | assumption | omega) (by first | assumption | omega) (by first | assumption | omega)) (cwV 1 hts gX6_leastOdd_X6_isOdd rfl rfl rfl (by decide +kernel) ⟨Nat.le_of_ble_eq_true rfl, Nat.le_of_ble_eq_true rfl⟩) hP hK [0, 1, 2] rfl 6 0 rfl rfl rfl hl.1 rfl (Nat.le_of_ble_eq_true rfl) ⟨Nat.zero_le _, Nat.zero_le _⟩ dX6_leastOdd_12 (fun r hr12 => ?_)
        subst hr12
        refine z_ifeq hx hb (tgt := 20) dX6_leastOdd_15 (by decide) (fun h15 => ?_) (fun h15 => ?_)
        · skip
          refine lv_iinc (v := nI (i + 1)) (lv' := [(1, .int (nI (i + 1))), (0, .ref mo)]) hx hb dX6_leastOdd_20 hl (k := 1) rfl (nI_1 i) (by decide) rfl (fun ls hl => ?_)
          refine lv_goto (tgt := 2) hx hb dX6_leastOdd_23 (by decide) ?_
          exact ih2 (i + 1) (by omega) (by rw [← hq, show nv - i = (nv - (i + 1)) + 1 from by omega, mLo, show nv - (nv - (i + 1) + 1) = i from by omega, if_neg (by rw [h15]; decide)]) (by omega) ls (lv_sub hl [1, 0] (by rfl))
        · skip
          refine lv_iload_n hx hb dX6_leastOdd_18 rfl (lv_at hl 1 rfl) ?_
          exact z_iretR hx hb hr hlocks hQ (by rw [← hq, show nv - i = (nv - (i + 1)) + 1 from by omega, mLo, show nv - (nv - (i + 1) + 1) = i from by omega, if_pos h15]; rfl) dX6_leastOdd_19 rfl rfl
  exact J2 ((nv - 0) + 1) 0 (by omega) rfl (by omega) ls (lv_sub hl [1, 0] (by rfl))
set_option maxHeartbeats 4000000 in
set_option maxRecDepth 100000 in
/-- Model.touched -/
theorem c_X6_touched (l : Launch) (D : va_G) (cA : Nat → ClassId) (mo : Nat) (mf : Nat) (mt : Nat) (mw : Nat) (mr : Nat) (mp : Nat) (mx : Nat) (mfa : Nat) (mbi : Nat) (mod1 : Nat) (msc : Nat) (msb : Nat) (msu : Nat) (mwy : Nat) (mre : Nat) (mby : Nat) (msm : Nat) (mle : Nat) (mgr : Nat) (mth : Nat) (dir : Bool) (nv : Nat) (me : Nat) (mrn : Nat) (mst : Nat) (mhr : Bool) (mon : Nat) (Fr : Nat → Nat) (To : Nat → Nat) (hme : me ≤ 40) (hF : ∀ j, Fr j < 16) (hT : ∀ j, To j < 16) (hnv : nv ≤ 16) : Met l yX6_touched wsX6_touched ({ frames := 1, cells := 0, slots := 0, locals := 23 } : Room) (zRd D vwCl (zT cA) [(mo, .inr (6, [.int (nI mth), .int (zB dir), .int (nI nv), .int (nI me), .ref mf, .ref mt, .ref mw, .ref mr, .int (nI mrn), .ref mp, .int (nI mst), .int (zB mhr), .ref mx, .ref mfa, .ref mbi, .ref mod1, .int (nI mon), .ref msc, .ref msb, .ref msu, .ref mwy, .ref mre, .ref mby, .ref msm, .ref mle, .ref mgr])), (mf, aI cA 40 (fun j => nI (Fr j))), (mt, aI cA 40 (fun j => nI (To j)))] [.ref mo]) (vp_Si (fun r => r = nI (mTo Fr To me nv))) 0 0 (fun _ => False) := by
  refine z_read (cc := cX6_touched) (maxL := 3) (ret := (some .int)) (by decide) rfl (Nat.le_of_ble_eq_true rfl) ?_
  intro p e s m below meth c hx hb hr hml hown hts hlocks hP hK Q hQ ls hl
  have hown : s.vm.findClass RX6 = some m.cls := hown
  have hl : lv_has ls 3 [(0, .ref mo)] := hl
  generalize hav : ([.ref mo] : List Value).toArray = args at hts hQ ⊢
  have hin6 : ∀ w ∈ wsX60, w ∈ wsX6_touched := by decide +kernel
  refine lv_iconst (v := nI (mTo Fr To me 0)) hx hb dX6_touched_0 (by rfl) ?_
  refine lv_istore_n (lv' := [(1, .int (nI (mTo Fr To me 0))), (0, .ref mo)]) hx hb dX6_touched_1 rfl hl (by decide) rfl (fun ls hl => ?_)
  refine lv_iconst (v := nI 0) hx hb dX6_touched_2 (by decide) ?_
  refine lv_istore_n (lv' := [(2, .int (nI 0)), (1, .int (nI (mTo Fr To me 0))), (0, .ref mo)]) hx hb dX6_touched_3 rfl hl (by decide) rfl (fun ls hl => ?_)
  have J4 : ∀ (n : Nat), ∀ (i : Nat), (i ≤ nv) → nv - i < n → ∀ (ls : Array Slot), lv_has ls 3 [(0, .ref mo), (1, .int (nI (mTo Fr To me i))), (2, .int (nI i))] → W p l e ({ frames := 1, cells := 0, slots := 0, locals := 23 } : Room) s m args below meth c s.heap [] 0 0 Q (F0 m 4 ls []) := by
    intro n4
    induction n4 with
    | zero => intro i hi hn; exact absurd hn (Nat.not_lt_zero _)
    | succ n4 ih4 =>
      intro i hi hn4 ls hl
      refine lv_iload_n hx hb dX6_touched_4 rfl (lv_at hl 2 rfl) ?_
      refine lv_aload_n hx hb dX6_touched_5 rfl (lv_at hl 0 rfl) ?_
      refine va_get (D := D) (ci := 6) (v := .int (nI nv)) (C := RX6) (T := TX6) (N := 26) hx hb hts hin6 hown hK hP 0 rfl rfl 2 (by decide) (hts (.fieldLink RX6 7 "TourHouseModel" "n" "I") (by decide +kernel)) (fun _ h9 => h9) rfl dX6_touched_6 ?_
      refine z_ge hx hb (by omega) (by omega) (tgt := 34) dX6_touched_9 (by decide) (fun h9 => ?_) (fun h9 => ?_)
      · skip
        refine lv_iload_n hx hb dX6_touched_34 rfl (lv_at hl 1 rfl) ?_
        exact z_iretR hx hb hr hlocks hQ (by rw [show i = nv from by omega]) dX6_touched_35 rfl rfl
      · skip
        refine lv_iload_n hx hb dX6_touched_12 rfl (lv_at hl 1 rfl) ?_
        refine lv_aload_n hx hb dX6_touched_13 rfl (lv_at hl 0 rfl) ?_
        refine lv_iload_n hx hb dX6_touched_14 rfl (lv_at hl 2 rfl) ?_
        refine z_cRVi (wc := [(mo, .inr (6, [.int (nI mth), .int (zB dir), .int (nI nv), .int (nI me), .ref mf, .ref mt, .ref mw, .ref mr, .int (nI mrn), .ref mp, .int (nI mst), .int (zB mhr), .ref mx, .ref mfa, .ref mbi, .ref mod1, .int (nI mon), .ref msc, .ref msb, .ref msu, .ref mwy, .ref mre, .ref mby, .ref msm, .ref mle, .ref mgr])), (mf, aI cA 40 (fun j => nI (Fr j))), (mt, aI cA 40 (fun j => nI (To j)))]) (rm := ({ frames := 0, cells := 0, slots := 0, locals := 0 } : Room)) (As := [.int (nI i)]) (rest := [.int (nI (mTo Fr To me i))]) ⟨hx, hb, hml, hown, hts⟩ (c_X6_hasEdge l D cA mo mf mt mw mr mp mx mfa mbi mod1 msc msb msu mwy mre mby msm mle mgr mth dir nv me mrn mst mhr mon Fr To i (by first | assumption | omega) (by first | assumption | omega) (by first | assumption | omega) (by first | assumption | omega)) (cwV 1 hts gX6_touched_X6_hasEdge rfl rfl rfl (by decide +kernel) ⟨Nat.le_of_ble_eq_true rfl, Nat.le_of_ble_eq_true rfl⟩) hP hK [0, 1, 2] rfl 6 0 rfl rfl rfl hl.1 rfl (Nat.le_of_ble_eq_true rfl) ⟨Nat.zero_le _, Nat.zero_le _⟩ dX6_touched_15 (fun r hr15 => ?_)
        subst hr15
        refine z_ifeq hx hb (tgt := 25) dX6_touched_18 (by decide) (fun h18 => ?_) (fun h18 => ?_)
        · skip
          refine lv_iconst (v := nI 0) hx hb dX6_touched_25 (by decide) ?_
          refine lv_iadd hx hb dX6_touched_26 ?_
          refine z_topi (v := nI ((mTo Fr To me i) + 0)) (nI_add (mTo Fr To me i) 0) ?_
          refine lv_istore_n (lv' := [(1, .int (nI ((mTo Fr To me i) + 0))), (0, .ref mo), (2, .int (nI i))]) hx hb dX6_touched_27 rfl hl (by decide) rfl (fun ls hl => ?_)
          have hl : lv_has ls 3 [(1, .int (nI (mTo Fr To me (i + 1)))), (0, .ref mo), (2, .int (nI i))] := by
            have q9 : nI (mTo Fr To me (i + 1)) = nI ((mTo Fr To me i) + 0) := by congr 1; simp only [mTo]; simp [h18]
            rw [q9]; exact hl
          refine lv_iinc (v := nI (i + 1)) (lv' := [(2, .int (nI (i + 1))), (1, .int (nI (mTo Fr To me (i + 1)))), (0, .ref mo)]) hx hb dX6_touched_28 hl (k := 2) rfl (nI_1 i) (by decide) rfl (fun ls hl => ?_)
          refine lv_goto (tgt := 4) hx hb dX6_touched_31 (by decide) ?_
          exact ih4 (i + 1) (by omega) (by omega) ls (lv_sub hl [2, 1, 0] (by rfl))
        · skip
          refine lv_iconst (v := nI 1) hx hb dX6_touched_21 (by decide) ?_
          refine lv_goto (tgt := 26) hx hb dX6_touched_22 (by decide) ?_
          refine lv_iadd hx hb dX6_touched_26 ?_
          refine z_topi (v := nI ((mTo Fr To me i) + 1)) (nI_add (mTo Fr To me i) 1) ?_
          refine lv_istore_n (lv' := [(1, .int (nI ((mTo Fr To me i) + 1))), (0, .ref mo), (2, .int (nI i))]) hx hb dX6_touched_27 rfl hl (by decide) rfl (fun ls hl => ?_)
          have hl : lv_has ls 3 [(1, .int (nI (mTo Fr To me (i + 1)))), (0, .ref mo), (2, .int (nI i))] := by
            have q9 : nI (mTo Fr To me (i + 1)) = nI ((mTo Fr To me i) + 1) := by congr 1; simp only [mTo]; simp [h18]
            rw [q9]; exact hl
          refine lv_iinc (v := nI (i + 1)) (lv' := [(2, .int (nI (i + 1))), (1, .int (nI (mTo Fr To me (i + 1)))), (0, .ref mo)]) hx hb dX6_touched_28 hl (k := 2) rfl (nI_1 i) (by decide) rfl (fun ls hl => ?_)
          refine lv_goto (tgt := 4) hx hb dX6_touched_31 (by decide) ?_
          exact ih4 (i + 1) (by omega) (by omega) ls (lv_sub hl [2, 1, 0] (by rfl))
  exact J4 ((nv - 0) + 1) 0 (by omega) (by omega) ls (lv_sub hl [2, 1, 0] (by rfl))
set_option maxHeartbeats 4000000 in
set_option maxRecDepth 100000 in
/-- Model.sets -/
theorem c_X6_sets (l : Launch) (D : va_G) (cA : Nat → ClassId) (sz : Nat) (mo : Nat) (mf : Nat) (mt : Nat) (mw : Nat) (mr : Nat) (mp : Nat) (mx : Nat) (mfa : Nat) (mbi : Nat) (mod1 : Nat) (msc : Nat) (msb : Nat) (msu : Nat) (mwy : Nat) (mre : Nat) (mby : Nat) (msm : Nat) (mle : Nat) (mgr : Nat) (mth : Nat) (dir : Bool) (nv : Nat) (me : Nat) (mrn : Nat) (mst : Nat) (mhr : Bool) (mon : Nat) (Fr : Nat → Nat) (To : Nat → Nat) (Le : Nat → Int) (Gr : Nat → Nat) (hme : me ≤ 40) (hF : ∀ j, Fr j < 16) (hT : ∀ j, To j < 16) (hLe : ∀ j, -2147483648 ≤ Le j ∧ Le j < 2147483648) (hGr : ∀ j, Gr j < 65536) (hnv : nv ≤ 16) : Met l yX6_sets wsX6_sets ({ frames := 1, cells := 0, slots := 0, locals := 24 } : Room) (zWr D vwCl (zT cA) [(mo, .inr (6, [.int (nI mth), .int (zB dir), .int (nI nv), .int (nI me), .ref mf, .ref mt, .ref mw, .ref mr, .int (nI mrn), .ref mp, .int (nI mst), .int (zB mhr), .ref mx, .ref mfa, .ref mbi, .ref mod1, .int (nI mon), .ref msc, .ref msb, .ref msu, .ref mwy, .ref mre, .ref mby, .ref msm, .ref mle, .ref mgr])), (mf, aI cA 40 (fun j => nI (Fr j))), (mt, aI cA 40 (fun j => nI (To j))), (mle, aI cA 40 (fun j => iZ (Le j))), (mgr, aI cA 16 (fun j => nI (Gr j)))] sz [.ref mo]) (zQi D vwCl (zT cA) (va_A [(mo, .inr (6, [.int (nI mth), .int (zB dir), .int (nI nv), .int (nI me), .ref mf, .ref mt, .ref mw, .ref mr, .int (nI mrn), .ref mp, .int (nI mst), .int (zB mhr), .ref mx, .ref mfa, .ref mbi, .ref mod1, .int (nI mon), .ref msc, .ref msb, .ref msu, .ref mwy, .ref mre, .ref mby, .ref msm, .ref mle, .ref mgr])), (mf, aI cA 40 (fun j => nI (Fr j))), (mt, aI cA 40 (fun j => nI (To j))), (mle, aI cA 40 (fun j => iZ (Le j))), (mgr, aI cA 16 (fun j => nI (Gr j)))] sz) [(mo, .inr (6, [.int (nI mth), .int (zB dir), .int (nI nv), .int (nI me), .ref mf, .ref mt, .ref mw, .ref mr, .int (nI mrn), .ref mp, .int (nI mst), .int (zB mhr), .ref mx, .ref mfa, .ref mbi, .ref mod1, .int (nI mon), .ref msc, .ref msb, .ref msu, .ref mwy, .ref mre, .ref mby, .ref msm, .ref mle, .ref mgr])), (mf, aI cA 40 (fun j => nI (Fr j))), (mt, aI cA 40 (fun j => nI (To j))), (mle, aI cA 40 (fun j => iZ ((fl Le 1 me) j))), (mgr, aI cA 16 (fun j => nI ((mGroups Fr To (fl Le 1 me) me Gr) j)))] (nI (mSt (mGroups Fr To (fl Le 1 me) me Gr) Fr To me nv))) 0 0 (va_A [(mo, .inr (6, [.int (nI mth), .int (zB dir), .int (nI nv), .int (nI me), .ref mf, .ref mt, .ref mw, .ref mr, .int (nI mrn), .ref mp, .int (nI mst), .int (zB mhr), .ref mx, .ref mfa, .ref mbi, .ref mod1, .int (nI mon), .ref msc, .ref msb, .ref msu, .ref mwy, .ref mre, .ref mby, .ref msm, .ref mle, .ref mgr])), (mf, aI cA 40 (fun j => nI (Fr j))), (mt, aI cA 40 (fun j => nI (To j))), (mle, aI cA 40 (fun j => iZ (Le j))), (mgr, aI cA 16 (fun j => nI (Gr j)))] sz) := by
  refine z_write (cc := cX6_sets) (maxL := 3) (ret := (some .int)) (by decide) rfl (Nat.le_of_ble_eq_true rfl) ?_
  intro p e s m below meth c hx hb hr hml hown hts hlocks A hAe hA H locs hP hK hD hS hini Q hQ ls hl
  have hown : s.vm.findClass RX6 = some m.cls := hown
  have hl : lv_has ls 3 [(0, .ref mo)] := hl
  generalize hav : ([.ref mo] : List Value).toArray = args at hts hQ ⊢
  have hin6 : ∀ w ∈ wsX60, w ∈ wsX6_sets := by decide +kernel
  refine lv_aload_n hx hb dX6_sets_0 rfl (lv_at hl 0 rfl) ?_
  refine z_cWVv (wc := [(mo, .inr (6, [.int (nI mth), .int (zB dir), .int (nI nv), .int (nI me), .ref mf, .ref mt, .ref mw, .ref mr, .int (nI mrn), .ref mp, .int (nI mst), .int (zB mhr), .ref mx, .ref mfa, .ref mbi, .ref mod1, .int (nI mon), .ref msc, .ref msb, .ref msu, .ref mwy, .ref mre, .ref mby, .ref msm, .ref mle, .ref mgr])), (mle, aI cA 40 (fun j => iZ (Le j)))]) (rm := ({ frames := 0, cells := 0, slots := 0, locals := 0 } : Room)) (As := []) (rest := []) (wr := [(mf, aI cA 40 (fun j => nI (Fr j))), (mt, aI cA 40 (fun j => nI (To j))), (mgr, aI cA 16 (fun j => nI (Gr j)))]) (w1 := [(mo, .inr (6, [.int (nI mth), .int (zB dir), .int (nI nv), .int (nI me), .ref mf, .ref mt, .ref mw, .ref mr, .int (nI mrn), .ref mp, .int (nI mst), .int (zB mhr), .ref mx, .ref mfa, .ref mbi, .ref mod1, .int (nI mon), .ref msc, .ref msb, .ref msu, .ref mwy, .ref mre, .ref mby, .ref msm, .ref mle, .ref mgr])), (mle, aI cA 40 (fun j => iZ ((fl Le 1 me) j)))]) (ws' := [(mo, .inr (6, [.int (nI mth), .int (zB dir), .int (nI nv), .int (nI me), .ref mf, .ref mt, .ref mw, .ref mr, .int (nI mrn), .ref mp, .int (nI mst), .int (zB mhr), .ref mx, .ref mfa, .ref mbi, .ref mod1, .int (nI mon), .ref msc, .ref msb, .ref msu, .ref mwy, .ref mre, .ref mby, .ref msm, .ref mle, .ref mgr])), (mf, aI cA 40 (fun j => nI (Fr j))), (mt, aI cA 40 (fun j => nI (To j))), (mle, aI cA 40 (fun j => iZ ((fl Le 1 me) j))), (mgr, aI cA 16 (fun j => nI (Gr j)))]) ⟨hx, hb, hml, hown, hts⟩ (c_X6_leaveOne l D cA H.size mo mf mt mw mr mp mx mfa mbi mod1 msc msb msu mwy mre mby msm mle mgr mth dir nv me mrn mst mhr mon Le (by first | assumption | omega)) (cwV 0 hts gX6_sets_X6_leaveOne rfl rfl rfl (by decide +kernel) ⟨Nat.le_of_ble_eq_true rfl, Nat.le_of_ble_eq_true rfl⟩) hP hK hD hS hA [0, 3] [1, 2, 4] [3, 0, 1, 4, 2] rfl rfl rfl rfl rfl (by decide) rfl rfl rfl 6 0 rfl rfl rfl hl.1 rfl (Nat.le_of_ble_eq_true rfl) ⟨Nat.zero_le _, Nat.zero_le _⟩ dX6_sets_1 (fun H locs hP hD hS => ?_)
  refine lv_aload_n hx hb dX6_sets_4 rfl (lv_at hl 0 rfl) ?_
  refine z_cWVv (wc := [(mo, .inr (6, [.int (nI mth), .int (zB dir), .int (nI nv), .int (nI me), .ref mf, .ref mt, .ref mw, .ref mr, .int (nI mrn), .ref mp, .int (nI mst), .int (zB mhr), .ref mx, .ref mfa, .ref mbi, .ref mod1, .int (nI mon), .ref msc, .ref msb, .ref msu, .ref mwy, .ref mre, .ref mby, .ref msm, .ref mle, .ref mgr])), (mf, aI cA 40 (fun j => nI (Fr j))), (mt, aI cA 40 (fun j => nI (To j))), (mle, aI cA 40 (fun j => iZ ((fl Le 1 me) j))), (mgr, aI cA 16 (fun j => nI (Gr j)))]) (rm := ({ frames := 0, cells := 0, slots := 0, locals := 0 } : Room)) (As := []) (rest := []) (wr := []) (w1 := [(mo, .inr (6, [.int (nI mth), .int (zB dir), .int (nI nv), .int (nI me), .ref mf, .ref mt, .ref mw, .ref mr, .int (nI mrn), .ref mp, .int (nI mst), .int (zB mhr), .ref mx, .ref mfa, .ref mbi, .ref mod1, .int (nI mon), .ref msc, .ref msb, .ref msu, .ref mwy, .ref mre, .ref mby, .ref msm, .ref mle, .ref mgr])), (mf, aI cA 40 (fun j => nI (Fr j))), (mt, aI cA 40 (fun j => nI (To j))), (mle, aI cA 40 (fun j => iZ ((fl Le 1 me) j))), (mgr, aI cA 16 (fun j => nI ((mGroups Fr To (fl Le 1 me) me Gr) j)))]) (ws' := [(mo, .inr (6, [.int (nI mth), .int (zB dir), .int (nI nv), .int (nI me), .ref mf, .ref mt, .ref mw, .ref mr, .int (nI mrn), .ref mp, .int (nI mst), .int (zB mhr), .ref mx, .ref mfa, .ref mbi, .ref mod1, .int (nI mon), .ref msc, .ref msb, .ref msu, .ref mwy, .ref mre, .ref mby, .ref msm, .ref mle, .ref mgr])), (mf, aI cA 40 (fun j => nI (Fr j))), (mt, aI cA 40 (fun j => nI (To j))), (mle, aI cA 40 (fun j => iZ ((fl Le 1 me) j))), (mgr, aI cA 16 (fun j => nI ((mGroups Fr To (fl Le 1 me) me Gr) j)))]) ⟨hx, hb, hml, hown, hts⟩ (c_X6_groups l D cA H.size mo mf mt mw mr mp mx mfa mbi mod1 msc msb msu mwy mre mby msm mle mgr mth dir nv me mrn mst mhr mon Fr To (fl Le 1 me) Gr (by first | assumption | omega) (by first | assumption | omega) (by first | assumption | omega) (fun j => by simp only [fl]; split; omega; exact hLe j) (by first | assumption | omega)) (cwV 0 hts gX6_sets_X6_groups rfl rfl rfl (by decide +kernel) ⟨Nat.le_of_ble_eq_true rfl, Nat.le_of_ble_eq_true rfl⟩) hP hK hD hS hA [0, 1, 2, 3, 4] [] [0, 1, 2, 3, 4] rfl rfl rfl rfl rfl (by decide) rfl rfl rfl 6 0 rfl rfl rfl hl.1 rfl (Nat.le_of_ble_eq_true rfl) ⟨Nat.zero_le _, Nat.zero_le _⟩ dX6_sets_5 (fun H locs hP hD hS => ?_)
  refine lv_iconst (v := nI (mSt (mGroups Fr To (fl Le 1 me) me Gr) Fr To me 0)) hx hb dX6_sets_8 (by rfl) ?_
  refine lv_istore_n (lv' := [(1, .int (nI (mSt (mGroups Fr To (fl Le 1 me) me Gr) Fr To me 0))), (0, .ref mo)]) hx hb dX6_sets_9 rfl hl (by decide) rfl (fun ls hl => ?_)
  refine lv_iconst (v := nI 0) hx hb dX6_sets_10 (by decide) ?_
  refine lv_istore_n (lv' := [(2, .int (nI 0)), (1, .int (nI (mSt (mGroups Fr To (fl Le 1 me) me Gr) Fr To me 0))), (0, .ref mo)]) hx hb dX6_sets_11 rfl hl (by decide) rfl (fun ls hl => ?_)
  have J12 : ∀ (n : Nat), ∀ (i : Nat), (i ≤ nv) → nv - i < n → ∀ (H : Heap) (locs : List Loc), va_P D vwCl [(mo, .inr (6, [.int (nI mth), .int (zB dir), .int (nI nv), .int (nI me), .ref mf, .ref mt, .ref mw, .ref mr, .int (nI mrn), .ref mp, .int (nI mst), .int (zB mhr), .ref mx, .ref mfa, .ref mbi, .ref mod1, .int (nI mon), .ref msc, .ref msb, .ref msu, .ref mwy, .ref mre, .ref mby, .ref msm, .ref mle, .ref mgr])), (mf, aI cA 40 (fun j => nI (Fr j))), (mt, aI cA 40 (fun j => nI (To j))), (mle, aI cA 40 (fun j => iZ ((fl Le 1 me) j))), (mgr, aI cA 16 (fun j => nI ((mGroups Fr To (fl Le 1 me) me Gr) j)))] H → va_D A [(mo, .inr (6, [.int (nI mth), .int (zB dir), .int (nI nv), .int (nI me), .ref mf, .ref mt, .ref mw, .ref mr, .int (nI mrn), .ref mp, .int (nI mst), .int (zB mhr), .ref mx, .ref mfa, .ref mbi, .ref mod1, .int (nI mon), .ref msc, .ref msb, .ref msu, .ref mwy, .ref mre, .ref mby, .ref msm, .ref mle, .ref mgr])), (mf, aI cA 40 (fun j => nI (Fr j))), (mt, aI cA 40 (fun j => nI (To j))), (mle, aI cA 40 (fun j => iZ ((fl Le 1 me) j))), (mgr, aI cA 16 (fun j => nI ((mGroups Fr To (fl Le 1 me) me Gr) j)))] → va_S A s.heap H locs → ∀ (ls : Array Slot), lv_has ls 3 [(0, .ref mo), (1, .int (nI (mSt (mGroups Fr To (fl Le 1 me) me Gr) Fr To me i))), (2, .int (nI i))] → W p l e ({ frames := 1, cells := 0, slots := 0, locals := 24 } : Room) s m args below meth c H locs 0 0 Q (F0 m 12 ls []) := by
    intro n12
    induction n12 with
    | zero => intro i hi hn; exact absurd hn (Nat.not_lt_zero _)
    | succ n12 ih12 =>
      intro i hi hn12 H locs hP hD hS ls hl
      refine lv_iload_n hx hb dX6_sets_12 rfl (lv_at hl 2 rfl) ?_
      refine lv_aload_n hx hb dX6_sets_13 rfl (lv_at hl 0 rfl) ?_
      refine va_get (D := D) (ci := 6) (v := .int (nI nv)) (C := RX6) (T := TX6) (N := 26) hx hb hts hin6 hown hK hP 0 rfl rfl 2 (by decide) (hts (.fieldLink RX6 7 "TourHouseModel" "n" "I") (by decide +kernel)) (fun _ h9 => h9) rfl dX6_sets_14 ?_
      refine z_ge hx hb (by omega) (by omega) (tgt := 52) dX6_sets_17 (by decide) (fun h17 => ?_) (fun h17 => ?_)
      · skip
        refine lv_iload_n hx hb dX6_sets_52 rfl (lv_at hl 1 rfl) ?_
        refine z_topi (v := nI (mSt (mGroups Fr To (fl Le 1 me) me Gr) Fr To me nv)) (by rw [show i = nv from by omega]) ?_
        exact z_iretW hx hb hr hlocks hAe hQ (hP) hK (hD) hS dX6_sets_53
      · skip
        refine lv_iload_n hx hb dX6_sets_20 rfl (lv_at hl 1 rfl) ?_
        refine lv_aload_n hx hb dX6_sets_21 rfl (lv_at hl 0 rfl) ?_
        refine va_get (D := D) (ci := 6) (v := .ref mgr) (C := RX6) (T := TX6) (N := 26) hx hb hts hin6 hown hK hP 0 rfl rfl 25 (by decide) (hts (.fieldLink RX6 68 "TourHouseModel" "group" "[I") (by decide +kernel)) (fun _ h9 => h9) rfl dX6_sets_22 ?_
        refine lv_iload_n hx hb dX6_sets_25 rfl (lv_at hl 2 rfl) ?_
        refine z_iald hx hb hK hP 4 0 rfl rfl (k := i) (by omega) (by decide) (v := nI ((mGroups Fr To (fl Le 1 me) me Gr) i)) rfl dX6_sets_26 ?_
        refine lv_iload_n hx hb dX6_sets_27 rfl (lv_at hl 2 rfl) ?_
        refine z_ne hx hb (Nat.lt_trans (mGroups_b hF hT hGr _) (by decide)) (by omega) (tgt := 43) dX6_sets_28 (by decide) (fun h28 => ?_) (fun h28 => ?_)
        · skip
          refine lv_iconst (v := nI 0) hx hb dX6_sets_43 (by decide) ?_
          refine lv_iadd hx hb dX6_sets_44 ?_
          refine z_topi (v := nI ((mSt (mGroups Fr To (fl Le 1 me) me Gr) Fr To me i) + 0)) (nI_add (mSt (mGroups Fr To (fl Le 1 me) me Gr) Fr To me i) 0) ?_
          refine lv_istore_n (lv' := [(1, .int (nI ((mSt (mGroups Fr To (fl Le 1 me) me Gr) Fr To me i) + 0))), (0, .ref mo), (2, .int (nI i))]) hx hb dX6_sets_45 rfl hl (by decide) rfl (fun ls hl => ?_)
          have hl : lv_has ls 3 [(1, .int (nI (mSt (mGroups Fr To (fl Le 1 me) me Gr) Fr To me (i + 1)))), (0, .ref mo), (2, .int (nI i))] := by
            have q9 : nI (mSt (mGroups Fr To (fl Le 1 me) me Gr) Fr To me (i + 1)) = nI ((mSt (mGroups Fr To (fl Le 1 me) me Gr) Fr To me i) + 0) := by congr 1; simp only [mSt]; simp [*]
            rw [q9]; exact hl
          refine lv_iinc (v := nI (i + 1)) (lv' := [(2, .int (nI (i + 1))), (1, .int (nI (mSt (mGroups Fr To (fl Le 1 me) me Gr) Fr To me (i + 1)))), (0, .ref mo)]) hx hb dX6_sets_46 hl (k := 2) rfl (nI_1 i) (by decide) rfl (fun ls hl => ?_)
          refine lv_goto (tgt := 12) hx hb dX6_sets_49 (by decide) ?_
          exact ih12 (i + 1) (by omega) (by omega) _ _ (hP) (hD) hS ls (lv_sub hl [2, 1, 0] (by rfl))
        · skip
          refine lv_aload_n hx hb dX6_sets_31 rfl (lv_at hl 0 rfl) ?_
          refine lv_iload_n hx hb dX6_sets_32 rfl (lv_at hl 2 rfl) ?_
          refine z_cRVi (wc := [(mo, .inr (6, [.int (nI mth), .int (zB dir), .int (nI nv), .int (nI me), .ref mf, .ref mt, .ref mw, .ref mr, .int (nI mrn), .ref mp, .int (nI mst), .int (zB mhr), .ref mx, .ref mfa, .ref mbi, .ref mod1, .int (nI mon), .ref msc, .ref msb, .ref msu, .ref mwy, .ref mre, .ref mby, .ref msm, .ref mle, .ref mgr])), (mf, aI cA 40 (fun j => nI (Fr j))), (mt, aI cA 40 (fun j => nI (To j)))]) (rm := ({ frames := 0, cells := 0, slots := 0, locals := 0 } : Room)) (As := [.int (nI i)]) (rest := [.int (nI (mSt (mGroups Fr To (fl Le 1 me) me Gr) Fr To me i))]) ⟨hx, hb, hml, hown, hts⟩ (c_X6_hasEdge l D cA mo mf mt mw mr mp mx mfa mbi mod1 msc msb msu mwy mre mby msm mle mgr mth dir nv me mrn mst mhr mon Fr To i (by first | assumption | omega) (by first | assumption | omega) (by first | assumption | omega) (by first | assumption | omega)) (cwV 1 hts gX6_sets_X6_hasEdge rfl rfl rfl (by decide +kernel) ⟨Nat.le_of_ble_eq_true rfl, Nat.le_of_ble_eq_true rfl⟩) hP hK [0, 1, 2] rfl 6 0 rfl rfl rfl hl.1 rfl (Nat.le_of_ble_eq_true rfl) ⟨Nat.zero_le _, Nat.zero_le _⟩ dX6_sets_33 (fun r hr33 => ?_)
          subst hr33
          refine z_ifeq hx hb (tgt := 43) dX6_sets_36 (by decide) (fun h36 => ?_) (fun h36 => ?_)
          · skip
            refine lv_iconst (v := nI 0) hx hb dX6_sets_43 (by decide) ?_
            refine lv_iadd hx hb dX6_sets_44 ?_
            refine z_topi (v := nI ((mSt (mGroups Fr To (fl Le 1 me) me Gr) Fr To me i) + 0)) (nI_add (mSt (mGroups Fr To (fl Le 1 me) me Gr) Fr To me i) 0) ?_
            refine lv_istore_n (lv' := [(1, .int (nI ((mSt (mGroups Fr To (fl Le 1 me) me Gr) Fr To me i) + 0))), (0, .ref mo), (2, .int (nI i))]) hx hb dX6_sets_45 rfl hl (by decide) rfl (fun ls hl => ?_)
            have hl : lv_has ls 3 [(1, .int (nI (mSt (mGroups Fr To (fl Le 1 me) me Gr) Fr To me (i + 1)))), (0, .ref mo), (2, .int (nI i))] := by
              have q9 : nI (mSt (mGroups Fr To (fl Le 1 me) me Gr) Fr To me (i + 1)) = nI ((mSt (mGroups Fr To (fl Le 1 me) me Gr) Fr To me i) + 0) := by congr 1; simp only [mSt]; simp [*]
              rw [q9]; exact hl
            refine lv_iinc (v := nI (i + 1)) (lv' := [(2, .int (nI (i + 1))), (1, .int (nI (mSt (mGroups Fr To (fl Le 1 me) me Gr) Fr To me (i + 1)))), (0, .ref mo)]) hx hb dX6_sets_46 hl (k := 2) rfl (nI_1 i) (by decide) rfl (fun ls hl => ?_)
            refine lv_goto (tgt := 12) hx hb dX6_sets_49 (by decide) ?_
            exact ih12 (i + 1) (by omega) (by omega) _ _ (hP) (hD) hS ls (lv_sub hl [2, 1, 0] (by rfl))
          · skip
            refine lv_iconst (v := nI 1) hx hb dX6_sets_39 (by decide) ?_
            refine lv_goto (tgt := 44) hx hb dX6_sets_40 (by decide) ?_
            refine lv_iadd hx hb dX6_sets_44 ?_
            refine z_topi (v := nI ((mSt (mGroups Fr To (fl Le 1 me) me Gr) Fr To me i) + 1)) (nI_add (mSt (mGroups Fr To (fl Le 1 me) me Gr) Fr To me i) 1) ?_
            refine lv_istore_n (lv' := [(1, .int (nI ((mSt (mGroups Fr To (fl Le 1 me) me Gr) Fr To me i) + 1))), (0, .ref mo), (2, .int (nI i))]) hx hb dX6_sets_45 rfl hl (by decide) rfl (fun ls hl => ?_)
            have hl : lv_has ls 3 [(1, .int (nI (mSt (mGroups Fr To (fl Le 1 me) me Gr) Fr To me (i + 1)))), (0, .ref mo), (2, .int (nI i))] := by
              have q9 : nI (mSt (mGroups Fr To (fl Le 1 me) me Gr) Fr To me (i + 1)) = nI ((mSt (mGroups Fr To (fl Le 1 me) me Gr) Fr To me i) + 1) := by congr 1; simp only [mSt]; simp [*]
              rw [q9]; exact hl
            refine lv_iinc (v := nI (i + 1)) (lv' := [(2, .int (nI (i + 1))), (1, .int (nI (mSt (mGroups Fr To (fl Le 1 me) me Gr) Fr To me (i + 1)))), (0, .ref mo)]) hx hb dX6_sets_46 hl (k := 2) rfl (nI_1 i) (by decide) rfl (fun ls hl => ?_)
            refine lv_goto (tgt := 12) hx hb dX6_sets_49 (by decide) ?_
            exact ih12 (i + 1) (by omega) (by omega) _ _ (hP) (hD) hS ls (lv_sub hl [2, 1, 0] (by rfl))
  exact J12 ((nv - 0) + 1) 0 (by omega) (by omega) _ _ (hP) (hD) hS ls (lv_sub hl [2, 1, 0] (by rfl))
set_option maxHeartbeats 4000000 in
set_option maxRecDepth 100000 in
/-- Model.covers -/
theorem c_X6_covers (l : Launch) (D : va_G) (cA : Nat → ClassId) (mo : Nat) (mf : Nat) (mt : Nat) (mw : Nat) (mr : Nat) (mp : Nat) (mx : Nat) (mfa : Nat) (mbi : Nat) (mod1 : Nat) (msc : Nat) (msb : Nat) (msu : Nat) (mwy : Nat) (mre : Nat) (mby : Nat) (msm : Nat) (mle : Nat) (mgr : Nat) (mth : Nat) (dir : Bool) (nv : Nat) (me : Nat) (mrn : Nat) (mst : Nat) (mhr : Bool) (mon : Nat) (Fr : Nat → Nat) (To : Nat → Nat) (Fa : Nat → Int) (st1 : Nat) (hme : me ≤ 40) (hF : ∀ j, Fr j < 16) (hT : ∀ j, To j < 16) (hnv : nv ≤ 16) (hFa : ∀ j, -9223372036854775808 ≤ Fa j ∧ Fa j < 9223372036854775808) (hst : st1 < 16) : Met l yX6_covers wsX6_covers ({ frames := 1, cells := 0, slots := 0, locals := 23 } : Room) (zRd D vwCl (zT cA) [(mo, .inr (6, [.int (nI mth), .int (zB dir), .int (nI nv), .int (nI me), .ref mf, .ref mt, .ref mw, .ref mr, .int (nI mrn), .ref mp, .int (nI mst), .int (zB mhr), .ref mx, .ref mfa, .ref mbi, .ref mod1, .int (nI mon), .ref msc, .ref msb, .ref msu, .ref mwy, .ref mre, .ref mby, .ref msm, .ref mle, .ref mgr])), (mf, aI cA 40 (fun j => nI (Fr j))), (mt, aI cA 40 (fun j => nI (To j))), (mfa, aJ cA 256 (fun j => lZ (Fa j)))] [.ref mo, .int (nI st1)]) (vp_Si (fun r => r = zB (mCovers Fr To nv me Fa st1))) 0 0 (fun _ => False) := by
  refine z_read (cc := cX6_covers) (maxL := 4) (ret := (some .boolean)) (by decide) rfl (Nat.le_of_ble_eq_true rfl) ?_
  intro p e s m below meth c hx hb hr hml hown hts hlocks hP hK Q hQ ls hl
  have hown : s.vm.findClass RX6 = some m.cls := hown
  have hl : lv_has ls 4 [(0, .ref mo), (1, .int (nI st1))] := hl
  generalize hav : ([.ref mo, .int (nI st1)] : List Value).toArray = args at hts hQ ⊢
  have hin6 : ∀ w ∈ wsX60, w ∈ wsX6_covers := by decide +kernel
  refine lv_aload_n hx hb dX6_covers_0 rfl (lv_at hl 0 rfl) ?_
  refine va_get (D := D) (ci := 6) (v := .int (nI me)) (C := RX6) (T := TX6) (N := 26) hx hb hts hin6 hown hK hP 0 rfl rfl 3 (by decide) (hts (.fieldLink RX6 85 "TourHouseModel" "m" "I") (by decide +kernel)) (fun _ h9 => h9) rfl dX6_covers_1 ?_
  refine z_nne hx hb (by omega) (tgt := 9) dX6_covers_4 (by decide) (fun h4 => ?_) (fun h4 => ?_)
  · skip
    refine lv_aload_n hx hb dX6_covers_9 rfl (lv_at hl 0 rfl) ?_
    refine lv_iload_n hx hb dX6_covers_10 rfl (lv_at hl 1 rfl) ?_
    refine z_cRVi (wc := [(mo, .inr (6, [.int (nI mth), .int (zB dir), .int (nI nv), .int (nI me), .ref mf, .ref mt, .ref mw, .ref mr, .int (nI mrn), .ref mp, .int (nI mst), .int (zB mhr), .ref mx, .ref mfa, .ref mbi, .ref mod1, .int (nI mon), .ref msc, .ref msb, .ref msu, .ref mwy, .ref mre, .ref mby, .ref msm, .ref mle, .ref mgr])), (mf, aI cA 40 (fun j => nI (Fr j))), (mt, aI cA 40 (fun j => nI (To j)))]) (rm := ({ frames := 0, cells := 0, slots := 0, locals := 0 } : Room)) (As := [.int (nI st1)]) (rest := []) ⟨hx, hb, hml, hown, hts⟩ (c_X6_hasEdge l D cA mo mf mt mw mr mp mx mfa mbi mod1 msc msb msu mwy mre mby msm mle mgr mth dir nv me mrn mst mhr mon Fr To st1 (by first | assumption | omega) (by first | assumption | omega) (by first | assumption | omega) (by first | assumption | omega)) (cwV 1 hts gX6_covers_X6_hasEdge rfl rfl rfl (by decide +kernel) ⟨Nat.le_of_ble_eq_true rfl, Nat.le_of_ble_eq_true rfl⟩) hP hK [0, 1, 2] rfl 6 0 rfl rfl rfl hl.1 rfl (Nat.le_of_ble_eq_true rfl) ⟨Nat.zero_le _, Nat.zero_le _⟩ dX6_covers_11 (fun r hr11 => ?_)
    subst hr11
    refine lv_istore_n (lv' := [(2, .int (zB (mHas Fr To st1 me))), (0, .ref mo), (1, .int (nI st1))]) hx hb dX6_covers_14 rfl hl (by decide) rfl (fun ls hl => ?_)
    refine lv_iconst (v := nI 0) hx hb dX6_covers_15 (by decide) ?_
    refine lv_istore_n (lv' := [(3, .int (nI 0)), (2, .int (zB (mHas Fr To st1 me))), (0, .ref mo), (1, .int (nI st1))]) hx hb dX6_covers_16 rfl hl (by decide) rfl (fun ls hl => ?_)
    have J17 : ∀ (n : Nat), ∀ (i : Nat), (i ≤ nv) → nv - i < n → ∀ (ls : Array Slot), lv_has ls 4 [(0, .ref mo), (1, .int (nI st1)), (2, .int (zB (mCv Fr To me Fa st1 i))), (3, .int (nI i))] → W p l e ({ frames := 1, cells := 0, slots := 0, locals := 23 } : Room) s m args below meth c s.heap [] 0 0 Q (F0 m 17 ls []) := by
      intro n17
      induction n17 with
      | zero => intro i hi hn; exact absurd hn (Nat.not_lt_zero _)
      | succ n17 ih17 =>
        intro i hi hn17 ls hl
        refine lv_iload_n hx hb dX6_covers_17 rfl (lv_at hl 3 rfl) ?_
        refine lv_aload_n hx hb dX6_covers_18 rfl (lv_at hl 0 rfl) ?_
        refine va_get (D := D) (ci := 6) (v := .int (nI nv)) (C := RX6) (T := TX6) (N := 26) hx hb hts hin6 hown hK hP 0 rfl rfl 2 (by decide) (hts (.fieldLink RX6 7 "TourHouseModel" "n" "I") (by decide +kernel)) (fun _ h9 => h9) rfl dX6_covers_19 ?_
        refine z_ge hx hb (by omega) (by omega) (tgt := 85) dX6_covers_22 (by decide) (fun h22 => ?_) (fun h22 => ?_)
        · skip
          refine lv_iload_n hx hb dX6_covers_85 rfl (lv_at hl 2 rfl) ?_
          exact z_zretR hx hb hr hlocks hQ (by rw [mCovers, if_neg h4, show i = nv from by omega]) dX6_covers_86 rfl rfl
        · skip
          have J78 : ∀ (ls : Array Slot), lv_has ls 4 [(0, .ref mo), (1, .int (nI st1)), (3, .int (nI i))] → W p l e ({ frames := 1, cells := 0, slots := 0, locals := 23 } : Room) s m args below meth c s.heap [] 0 0 Q (F0 m 78 ls [.int (zB (mCv Fr To me Fa st1 (i + 1)))]) := by
            intro   ls hl
            refine lv_istore_n (lv' := [(2, .int (zB (mCv Fr To me Fa st1 (i + 1)))), (0, .ref mo), (1, .int (nI st1)), (3, .int (nI i))]) hx hb dX6_covers_78 rfl hl (by decide) rfl (fun ls hl => ?_)
            refine lv_iinc (v := nI (i + 1)) (lv' := [(3, .int (nI (i + 1))), (2, .int (zB (mCv Fr To me Fa st1 (i + 1)))), (0, .ref mo), (1, .int (nI st1))]) hx hb dX6_covers_79 hl (k := 3) rfl (nI_1 i) (by decide) rfl (fun ls hl => ?_)
            refine lv_goto (tgt := 17) hx hb dX6_covers_82 (by decide) ?_
            exact ih17 (i + 1) (by omega) (by omega) ls (lv_sub hl [2, 3, 1, 0] (by rfl))
          refine lv_iload_n hx hb dX6_covers_25 rfl (lv_at hl 2 rfl) ?_
          refine z_ifeq hx hb (tgt := 77) dX6_covers_26 (by decide) (fun h26 => ?_) (fun h26 => ?_)
          · skip
            refine lv_iconst (v := zB false) hx hb dX6_covers_77 (by decide) ?_
            refine z_topi (v := zB (mCv Fr To me Fa st1 (i + 1))) (by congr 1; simp only [mCv]; simp [*] <;> omega) ?_
            exact J78   ls (lv_sub hl [0, 1, 3] (by rfl))
          · skip
            refine lv_aload_n hx hb dX6_covers_29 rfl (lv_at hl 0 rfl) ?_
            refine lv_iload_n hx hb dX6_covers_30 rfl (lv_at hl 3 rfl) ?_
            refine z_cRVi (wc := [(mo, .inr (6, [.int (nI mth), .int (zB dir), .int (nI nv), .int (nI me), .ref mf, .ref mt, .ref mw, .ref mr, .int (nI mrn), .ref mp, .int (nI mst), .int (zB mhr), .ref mx, .ref mfa, .ref mbi, .ref mod1, .int (nI mon), .ref msc, .ref msb, .ref msu, .ref mwy, .ref mre, .ref mby, .ref msm, .ref mle, .ref mgr])), (mf, aI cA 40 (fun j => nI (Fr j))), (mt, aI cA 40 (fun j => nI (To j)))]) (rm := ({ frames := 0, cells := 0, slots := 0, locals := 0 } : Room)) (As := [.int (nI i)]) (rest := []) ⟨hx, hb, hml, hown, hts⟩ (c_X6_hasEdge l D cA mo mf mt mw mr mp mx mfa mbi mod1 msc msb msu mwy mre mby msm mle mgr mth dir nv me mrn mst mhr mon Fr To i (by first | assumption | omega) (by first | assumption | omega) (by first | assumption | omega) (by first | assumption | omega)) (cwV 1 hts gX6_covers_X6_hasEdge rfl rfl rfl (by decide +kernel) ⟨Nat.le_of_ble_eq_true rfl, Nat.le_of_ble_eq_true rfl⟩) hP hK [0, 1, 2] rfl 6 0 rfl rfl rfl hl.1 rfl (Nat.le_of_ble_eq_true rfl) ⟨Nat.zero_le _, Nat.zero_le _⟩ dX6_covers_31 (fun r hr31 => ?_)
            subst hr31
            refine z_ifeq hx hb (tgt := 73) dX6_covers_34 (by decide) (fun h34 => ?_) (fun h34 => ?_)
            · skip
              refine lv_iconst (v := zB true) hx hb dX6_covers_73 (by decide) ?_
              refine lv_goto (tgt := 78) hx hb dX6_covers_74 (by decide) ?_
              refine z_topi (v := zB (mCv Fr To me Fa st1 (i + 1))) (by congr 1; simp only [mCv]; simp [*] <;> omega) ?_
              exact J78   ls (lv_sub hl [0, 1, 3] (by rfl))
            · skip
              refine lv_aload_n hx hb dX6_covers_37 rfl (lv_at hl 0 rfl) ?_
              refine va_get (D := D) (ci := 6) (v := .ref mfa) (C := RX6) (T := TX6) (N := 26) hx hb hts hin6 hown hK hP 0 rfl rfl 13 (by decide) (hts (.fieldLink RX6 32 "TourHouseModel" "far" "[J") (by decide +kernel)) (fun _ h9 => h9) rfl dX6_covers_38 ?_
              refine lv_bipush (v := nI 16) hx hb dX6_covers_41 (by decide) ?_
              refine lv_iload_n hx hb dX6_covers_43 rfl (lv_at hl 1 rfl) ?_
              refine lv_imul hx hb dX6_covers_44 ?_
              refine z_topi (v := nI (16 * st1)) (pk_mul 16 st1) ?_
              refine lv_iload_n hx hb dX6_covers_45 rfl (lv_at hl 3 rfl) ?_
              refine lv_iadd hx hb dX6_covers_46 ?_
              refine z_topi (v := nI ((16 * st1) + i)) (nI_add (16 * st1) i) ?_
              refine z_lald hx hb hK hP 3 1 rfl rfl (k := ((16 * st1) + i)) (by omega) (by decide) (v := lZ (Fa ((16 * st1) + i))) rfl dX6_covers_47 ?_
              refine lv_ldc2 (v := (1152921504606846976)) hx hb hown (hts (.constantLong RX6 103 (1152921504606846976)) (by decide +kernel)) dX6_covers_48 ?_
              refine z_topl (v := lZ 1152921504606846976) (by decide) ?_
              refine z_lcmp_ge hx hb (x := Fa ((16 * st1) + i)) (y := 1152921504606846976) (hFa _) (by decide) (tgt := 77) dX6_covers_51 dX6_covers_52 (by decide) (fun h51 => ?_) (fun h51 => ?_)
              · skip
                refine lv_iconst (v := zB false) hx hb dX6_covers_77 (by decide) ?_
                refine z_topi (v := zB (mCv Fr To me Fa st1 (i + 1))) (by congr 1; simp only [mCv]; simp [*] <;> omega) ?_
                exact J78   ls (lv_sub hl [0, 1, 3] (by rfl))
              · skip
                refine lv_aload_n hx hb dX6_covers_55 rfl (lv_at hl 0 rfl) ?_
                refine va_get (D := D) (ci := 6) (v := .ref mfa) (C := RX6) (T := TX6) (N := 26) hx hb hts hin6 hown hK hP 0 rfl rfl 13 (by decide) (hts (.fieldLink RX6 32 "TourHouseModel" "far" "[J") (by decide +kernel)) (fun _ h9 => h9) rfl dX6_covers_56 ?_
                refine lv_bipush (v := nI 16) hx hb dX6_covers_59 (by decide) ?_
                refine lv_iload_n hx hb dX6_covers_61 rfl (lv_at hl 3 rfl) ?_
                refine lv_imul hx hb dX6_covers_62 ?_
                refine z_topi (v := nI (16 * i)) (pk_mul 16 i) ?_
                refine lv_iload_n hx hb dX6_covers_63 rfl (lv_at hl 1 rfl) ?_
                refine lv_iadd hx hb dX6_covers_64 ?_
                refine z_topi (v := nI ((16 * i) + st1)) (nI_add (16 * i) st1) ?_
                refine z_lald hx hb hK hP 3 1 rfl rfl (k := ((16 * i) + st1)) (by omega) (by decide) (v := lZ (Fa ((16 * i) + st1))) rfl dX6_covers_65 ?_
                refine lv_ldc2 (v := (1152921504606846976)) hx hb hown (hts (.constantLong RX6 103 (1152921504606846976)) (by decide +kernel)) dX6_covers_66 ?_
                refine z_topl (v := lZ 1152921504606846976) (by decide) ?_
                refine z_lcmp_ge hx hb (x := Fa ((16 * i) + st1)) (y := 1152921504606846976) (hFa _) (by decide) (tgt := 77) dX6_covers_69 dX6_covers_70 (by decide) (fun h69 => ?_) (fun h69 => ?_)
                · skip
                  refine lv_iconst (v := zB false) hx hb dX6_covers_77 (by decide) ?_
                  refine z_topi (v := zB (mCv Fr To me Fa st1 (i + 1))) (by congr 1; simp only [mCv]; simp [*] <;> omega) ?_
                  exact J78   ls (lv_sub hl [0, 1, 3] (by rfl))
                · skip
                  refine lv_iconst (v := zB true) hx hb dX6_covers_73 (by decide) ?_
                  refine lv_goto (tgt := 78) hx hb dX6_covers_74 (by decide) ?_
                  refine z_topi (v := zB (mCv Fr To me Fa st1 (i + 1))) (by congr 1; simp only [mCv]; simp [*] <;> omega) ?_
                  exact J78   ls (lv_sub hl [0, 1, 3] (by rfl))
    exact J17 ((nv - 0) + 1) 0 (by omega) (by omega) ls (lv_sub hl [2, 3, 1, 0] (by rfl))
  · skip
    refine lv_iconst (v := zB true) hx hb dX6_covers_7 (by decide) ?_
    exact z_zretR hx hb hr hlocks hQ (by rw [mCovers, if_pos (by omega)]) dX6_covers_8 rfl rfl
set_option maxHeartbeats 4000000 in
set_option maxRecDepth 100000 in
/-- Model.addEdge -/
theorem c_X6_addEdge (l : Launch) (D : va_G) (cA : Nat → ClassId) (sz : Nat) (mo : Nat) (mf : Nat) (mt : Nat) (mw : Nat) (mr : Nat) (mp : Nat) (mx : Nat) (mfa : Nat) (mbi : Nat) (mod1 : Nat) (msc : Nat) (msb : Nat) (msu : Nat) (mwy : Nat) (mre : Nat) (mby : Nat) (msm : Nat) (mle : Nat) (mgr : Nat) (mth : Nat) (dir : Bool) (nv : Nat) (me : Nat) (mrn : Nat) (mst : Nat) (mhr : Bool) (mon : Nat) (We : Nat → Nat) (Wy : Nat → Int) (Sm : Nat → Int) (v : Nat) (e1 : Nat) (sg : Int) (hW : ∀ j, We j ≤ 1000000000) (hv : v < 16) (he : e1 < 40) (hsg : sg = 1 ∨ sg = -1) : Met l yX6_addEdge wsX6_addEdge ({ frames := 0, cells := 0, slots := 0, locals := 0 } : Room) (zWr D vwCl (zT cA) [(mo, .inr (6, [.int (nI mth), .int (zB dir), .int (nI nv), .int (nI me), .ref mf, .ref mt, .ref mw, .ref mr, .int (nI mrn), .ref mp, .int (nI mst), .int (zB mhr), .ref mx, .ref mfa, .ref mbi, .ref mod1, .int (nI mon), .ref msc, .ref msb, .ref msu, .ref mwy, .ref mre, .ref mby, .ref msm, .ref mle, .ref mgr])), (mw, aI cA 40 (fun j => nI (We j))), (mwy, aJ cA 656 (fun j => lZ (Wy j))), (msm, aJ cA 41 (fun j => lZ (Sm j)))] sz [.ref mo, .int (nI v), .int (nI e1), .int (iZ sg)]) (zQv D vwCl (zT cA) (va_A [(mo, .inr (6, [.int (nI mth), .int (zB dir), .int (nI nv), .int (nI me), .ref mf, .ref mt, .ref mw, .ref mr, .int (nI mrn), .ref mp, .int (nI mst), .int (zB mhr), .ref mx, .ref mfa, .ref mbi, .ref mod1, .int (nI mon), .ref msc, .ref msb, .ref msu, .ref mwy, .ref mre, .ref mby, .ref msm, .ref mle, .ref mgr])), (mw, aI cA 40 (fun j => nI (We j))), (mwy, aJ cA 656 (fun j => lZ (Wy j))), (msm, aJ cA 41 (fun j => lZ (Sm j)))] sz) [(mo, .inr (6, [.int (nI mth), .int (zB dir), .int (nI nv), .int (nI me), .ref mf, .ref mt, .ref mw, .ref mr, .int (nI mrn), .ref mp, .int (nI mst), .int (zB mhr), .ref mx, .ref mfa, .ref mbi, .ref mod1, .int (nI mon), .ref msc, .ref msb, .ref msu, .ref mwy, .ref mre, .ref mby, .ref msm, .ref mle, .ref mgr])), (mw, aI cA 40 (fun j => nI (We j))), (mwy, aJ cA 656 (fun j => lZ (Wy j))), (msm, aJ cA 41 (fun j => lZ ((mAdd We Wy Sm v e1 sg) j)))]) 0 0 (va_A [(mo, .inr (6, [.int (nI mth), .int (zB dir), .int (nI nv), .int (nI me), .ref mf, .ref mt, .ref mw, .ref mr, .int (nI mrn), .ref mp, .int (nI mst), .int (zB mhr), .ref mx, .ref mfa, .ref mbi, .ref mod1, .int (nI mon), .ref msc, .ref msb, .ref msu, .ref mwy, .ref mre, .ref mby, .ref msm, .ref mle, .ref mgr])), (mw, aI cA 40 (fun j => nI (We j))), (mwy, aJ cA 656 (fun j => lZ (Wy j))), (msm, aJ cA 41 (fun j => lZ (Sm j)))] sz) := by
  refine z_write (cc := cX6_addEdge) (maxL := 5) (ret := none) (by decide) rfl (Nat.le_of_ble_eq_true rfl) ?_
  intro p e s m below meth c hx hb hr hml hown hts hlocks A hAe hA H locs hP hK hD hS hini Q hQ ls hl
  have hown : s.vm.findClass RX6 = some m.cls := hown
  have hl : lv_has ls 5 [(0, .ref mo), (1, .int (nI v)), (2, .int (nI e1)), (3, .int (iZ sg))] := hl
  generalize hav : ([.ref mo, .int (nI v), .int (nI e1), .int (iZ sg)] : List Value).toArray = args at hts hQ ⊢
  have hin6 : ∀ w ∈ wsX60, w ∈ wsX6_addEdge := by decide +kernel
  refine lv_iconst (v := nI 0) hx hb dX6_addEdge_0 (by decide) ?_
  refine lv_istore (lv' := [(4, .int (nI 0)), (0, .ref mo), (1, .int (nI v)), (2, .int (nI e1)), (3, .int (iZ sg))]) hx hb dX6_addEdge_1 hl (by decide) rfl (fun ls hl => ?_)
  have J3 : ∀ (n : Nat), ∀ (i : Nat), (i ≤ 41) → 41 - i < n → ∀ (H : Heap) (locs : List Loc), va_P D vwCl [(mo, .inr (6, [.int (nI mth), .int (zB dir), .int (nI nv), .int (nI me), .ref mf, .ref mt, .ref mw, .ref mr, .int (nI mrn), .ref mp, .int (nI mst), .int (zB mhr), .ref mx, .ref mfa, .ref mbi, .ref mod1, .int (nI mon), .ref msc, .ref msb, .ref msu, .ref mwy, .ref mre, .ref mby, .ref msm, .ref mle, .ref mgr])), (mw, aI cA 40 (fun j => nI (We j))), (mwy, aJ cA 656 (fun j => lZ (Wy j))), (msm, aJ cA 41 (fun j => lZ ((cpS Wy Sm v i) j)))] H → va_D A [(mo, .inr (6, [.int (nI mth), .int (zB dir), .int (nI nv), .int (nI me), .ref mf, .ref mt, .ref mw, .ref mr, .int (nI mrn), .ref mp, .int (nI mst), .int (zB mhr), .ref mx, .ref mfa, .ref mbi, .ref mod1, .int (nI mon), .ref msc, .ref msb, .ref msu, .ref mwy, .ref mre, .ref mby, .ref msm, .ref mle, .ref mgr])), (mw, aI cA 40 (fun j => nI (We j))), (mwy, aJ cA 656 (fun j => lZ (Wy j))), (msm, aJ cA 41 (fun j => lZ ((cpS Wy Sm v i) j)))] → va_S A s.heap H locs → ∀ (ls : Array Slot), lv_has ls 5 [(0, .ref mo), (1, .int (nI v)), (2, .int (nI e1)), (3, .int (iZ sg)), (4, .int (nI i))] → W p l e ({ frames := 0, cells := 0, slots := 0, locals := 0 } : Room) s m args below meth c H locs 0 0 Q (F0 m 3 ls []) := by
    intro n3
    induction n3 with
    | zero => intro i hi hn; exact absurd hn (Nat.not_lt_zero _)
    | succ n3 ih3 =>
      intro i hi hn3 H locs hP hD hS ls hl
      refine lv_iload hx hb dX6_addEdge_3 (lv_at hl 4 rfl) ?_
      refine lv_bipush (v := nI 41) hx hb dX6_addEdge_5 (by decide) ?_
      refine z_ge hx hb (by omega) (by decide) (tgt := 35) dX6_addEdge_7 (by decide) (fun h7 => ?_) (fun h7 => ?_)
      · skip
        have q9 : (fun j => lZ ((cpS Wy Sm v 41) j)) = (fun j => lZ ((cpS Wy Sm v i) j)) := by rw [show i = 41 from by omega]
        have hP : va_P D vwCl [(mo, .inr (6, [.int (nI mth), .int (zB dir), .int (nI nv), .int (nI me), .ref mf, .ref mt, .ref mw, .ref mr, .int (nI mrn), .ref mp, .int (nI mst), .int (zB mhr), .ref mx, .ref mfa, .ref mbi, .ref mod1, .int (nI mon), .ref msc, .ref msb, .ref msu, .ref mwy, .ref mre, .ref mby, .ref msm, .ref mle, .ref mgr])), (mw, aI cA 40 (fun j => nI (We j))), (mwy, aJ cA 656 (fun j => lZ (Wy j))), (msm, aJ cA 41 (fun j => lZ ((cpS Wy Sm v 41) j)))] H := by rw [q9]; exact hP
        have hD : va_D A [(mo, .inr (6, [.int (nI mth), .int (zB dir), .int (nI nv), .int (nI me), .ref mf, .ref mt, .ref mw, .ref mr, .int (nI mrn), .ref mp, .int (nI mst), .int (zB mhr), .ref mx, .ref mfa, .ref mbi, .ref mod1, .int (nI mon), .ref msc, .ref msb, .ref msu, .ref mwy, .ref mre, .ref mby, .ref msm, .ref mle, .ref mgr])), (mw, aI cA 40 (fun j => nI (We j))), (mwy, aJ cA 656 (fun j => lZ (Wy j))), (msm, aJ cA 41 (fun j => lZ ((cpS Wy Sm v 41) j)))] := by rw [q9]; exact hD
        refine lv_aload_n hx hb dX6_addEdge_35 rfl (lv_at hl 0 rfl) ?_
        refine va_get (D := D) (ci := 6) (v := .ref msm) (C := RX6) (T := TX6) (N := 26) hx hb hts hin6 hown hK hP 0 rfl rfl 23 (by decide) (hts (.fieldLink RX6 62 "TourHouseModel" "sum" "[J") (by decide +kernel)) (fun _ h9 => h9) rfl dX6_addEdge_36 ?_
        refine lv_iconst (v := nI 0) hx hb dX6_addEdge_39 (by decide) ?_
        refine lv_dup2_11 hx hb dX6_addEdge_40 rfl rfl ?_
        refine z_lald hx hb hK hP 3 1 rfl rfl (k := 0) (by omega) (by decide) (v := lZ ((cpS Wy Sm v 41) 0)) rfl dX6_addEdge_41 ?_
        refine lv_iload_n hx hb dX6_addEdge_42 rfl (lv_at hl 3 rfl) ?_
        refine lv_i2l (v := lZ sg) hx hb dX6_addEdge_43 (iZ_l2 (by omega) (by omega)) ?_
        refine lv_aload_n hx hb dX6_addEdge_44 rfl (lv_at hl 0 rfl) ?_
        refine va_get (D := D) (ci := 6) (v := .ref mw) (C := RX6) (T := TX6) (N := 26) hx hb hts hin6 hown hK hP 0 rfl rfl 6 (by decide) (hts (.fieldLink RX6 20 "TourHouseModel" "weight" "[I") (by decide +kernel)) (fun _ h9 => h9) rfl dX6_addEdge_45 ?_
        refine lv_iload_n hx hb dX6_addEdge_48 rfl (lv_at hl 2 rfl) ?_
        refine z_iald hx hb hK hP 1 0 rfl rfl (k := e1) (by omega) (by decide) (v := nI (We e1)) rfl dX6_addEdge_49 ?_
        refine lv_i2l (v := lZ ((We e1 : Nat) : Int)) hx hb dX6_addEdge_50 (nI_l2 (Nat.lt_of_le_of_lt (hW _) (by decide))) ?_
        refine lv_lmul hx hb dX6_addEdge_51 ?_
        refine z_topl (v := lZ (sg * ((We e1 : Nat) : Int))) (lZ_mul sg ((We e1 : Nat) : Int)) ?_
        refine lv_ladd hx hb dX6_addEdge_52 ?_
        refine z_topl (v := lZ (w64 (cpS Wy Sm v 41 0 + sg * ((We e1 : Nat) : Int)))) (by rw [lZ_add, lZ_w64]) ?_
        refine z_last hx hb hK hP hD hS 3 1 rfl rfl (k := 0) (by omega) (by decide) (f' := (fun j => lZ ((va_up (cpS Wy Sm v 41) 0 (w64 (cpS Wy Sm v 41 0 + sg * ((We e1 : Nat) : Int)))) j))) (updL_lZ (cpS Wy Sm v 41) 0 (w64 (cpS Wy Sm v 41 0 + sg * ((We e1 : Nat) : Int)))) (ws' := [(mo, .inr (6, [.int (nI mth), .int (zB dir), .int (nI nv), .int (nI me), .ref mf, .ref mt, .ref mw, .ref mr, .int (nI mrn), .ref mp, .int (nI mst), .int (zB mhr), .ref mx, .ref mfa, .ref mbi, .ref mod1, .int (nI mon), .ref msc, .ref msb, .ref msu, .ref mwy, .ref mre, .ref mby, .ref msm, .ref mle, .ref mgr])), (mw, aI cA 40 (fun j => nI (We j))), (mwy, aJ cA 656 (fun j => lZ (Wy j))), (msm, aJ cA 41 (fun j => lZ ((va_up (cpS Wy Sm v 41) 0 (w64 (cpS Wy Sm v 41 0 + sg * ((We e1 : Nat) : Int)))) j)))]) rfl dX6_addEdge_53 (fun H locs hP hD hS => ?_)
        refine lv_aload_n hx hb dX6_addEdge_54 rfl (lv_at hl 0 rfl) ?_
        refine va_get (D := D) (ci := 6) (v := .ref msm) (C := RX6) (T := TX6) (N := 26) hx hb hts hin6 hown hK hP 0 rfl rfl 23 (by decide) (hts (.fieldLink RX6 62 "TourHouseModel" "sum" "[J") (by decide +kernel)) (fun _ h9 => h9) rfl dX6_addEdge_55 ?_
        refine lv_iload_n hx hb dX6_addEdge_58 rfl (lv_at hl 2 rfl) ?_
        refine lv_iconst (v := nI 1) hx hb dX6_addEdge_59 (by decide) ?_
        refine lv_iadd hx hb dX6_addEdge_60 ?_
        refine z_topi (v := nI (e1 + 1)) (nI_add e1 1) ?_
        refine lv_dup2_11 hx hb dX6_addEdge_61 rfl rfl ?_
        refine z_lald hx hb hK hP 3 1 rfl rfl (k := (e1 + 1)) (by omega) (by decide) (v := lZ ((va_up (cpS Wy Sm v 41) 0 (w64 (cpS Wy Sm v 41 0 + sg * ((We e1 : Nat) : Int)))) (e1 + 1))) rfl dX6_addEdge_62 ?_
        refine lv_iload_n hx hb dX6_addEdge_63 rfl (lv_at hl 3 rfl) ?_
        refine lv_i2l (v := lZ sg) hx hb dX6_addEdge_64 (iZ_l2 (by omega) (by omega)) ?_
        refine lv_ladd hx hb dX6_addEdge_65 ?_
        refine z_topl (v := lZ (w64 (va_up (cpS Wy Sm v 41) 0 (w64 (cpS Wy Sm v 41 0 + sg * ((We e1 : Nat) : Int))) (e1 + 1) + sg))) (by rw [lZ_add, lZ_w64]) ?_
        refine z_last hx hb hK hP hD hS 3 1 rfl rfl (k := (e1 + 1)) (by omega) (by decide) (f' := (fun j => lZ ((va_up (va_up (cpS Wy Sm v 41) 0 (w64 (cpS Wy Sm v 41 0 + sg * ((We e1 : Nat) : Int)))) (e1 + 1) (w64 (va_up (cpS Wy Sm v 41) 0 (w64 (cpS Wy Sm v 41 0 + sg * ((We e1 : Nat) : Int))) (e1 + 1) + sg))) j))) (updL_lZ (va_up (cpS Wy Sm v 41) 0 (w64 (cpS Wy Sm v 41 0 + sg * ((We e1 : Nat) : Int)))) (e1 + 1) (w64 (va_up (cpS Wy Sm v 41) 0 (w64 (cpS Wy Sm v 41 0 + sg * ((We e1 : Nat) : Int))) (e1 + 1) + sg))) (ws' := [(mo, .inr (6, [.int (nI mth), .int (zB dir), .int (nI nv), .int (nI me), .ref mf, .ref mt, .ref mw, .ref mr, .int (nI mrn), .ref mp, .int (nI mst), .int (zB mhr), .ref mx, .ref mfa, .ref mbi, .ref mod1, .int (nI mon), .ref msc, .ref msb, .ref msu, .ref mwy, .ref mre, .ref mby, .ref msm, .ref mle, .ref mgr])), (mw, aI cA 40 (fun j => nI (We j))), (mwy, aJ cA 656 (fun j => lZ (Wy j))), (msm, aJ cA 41 (fun j => lZ ((va_up (va_up (cpS Wy Sm v 41) 0 (w64 (cpS Wy Sm v 41 0 + sg * ((We e1 : Nat) : Int)))) (e1 + 1) (w64 (va_up (cpS Wy Sm v 41) 0 (w64 (cpS Wy Sm v 41 0 + sg * ((We e1 : Nat) : Int))) (e1 + 1) + sg))) j)))]) rfl dX6_addEdge_66 (fun H locs hP hD hS => ?_)
        exact z_vretW hx hb hr hlocks hAe hQ (hP) hK (hD) hS dX6_addEdge_67
      · skip
        refine lv_aload_n hx hb dX6_addEdge_10 rfl (lv_at hl 0 rfl) ?_
        refine va_get (D := D) (ci := 6) (v := .ref msm) (C := RX6) (T := TX6) (N := 26) hx hb hts hin6 hown hK hP 0 rfl rfl 23 (by decide) (hts (.fieldLink RX6 62 "TourHouseModel" "sum" "[J") (by decide +kernel)) (fun _ h9 => h9) rfl dX6_addEdge_11 ?_
        refine lv_iload hx hb dX6_addEdge_14 (lv_at hl 4 rfl) ?_
        refine lv_aload_n hx hb dX6_addEdge_16 rfl (lv_at hl 0 rfl) ?_
        refine va_get (D := D) (ci := 6) (v := .ref mwy) (C := RX6) (T := TX6) (N := 26) hx hb hts hin6 hown hK hP 0 rfl rfl 20 (by decide) (hts (.fieldLink RX6 52 "TourHouseModel" "ways" "[J") (by decide +kernel)) (fun _ h9 => h9) rfl dX6_addEdge_17 ?_
        refine lv_bipush (v := nI 41) hx hb dX6_addEdge_20 (by decide) ?_
        refine lv_iload_n hx hb dX6_addEdge_22 rfl (lv_at hl 1 rfl) ?_
        refine lv_imul hx hb dX6_addEdge_23 ?_
        refine z_topi (v := nI (41 * v)) (pk_mul 41 v) ?_
        refine lv_iload hx hb dX6_addEdge_24 (lv_at hl 4 rfl) ?_
        refine lv_iadd hx hb dX6_addEdge_26 ?_
        refine z_topi (v := nI ((41 * v) + i)) (nI_add (41 * v) i) ?_
        refine z_lald hx hb hK hP 2 1 rfl rfl (k := ((41 * v) + i)) (by omega) (by decide) (v := lZ (Wy ((41 * v) + i))) rfl dX6_addEdge_27 ?_
        refine z_last hx hb hK hP hD hS 3 1 rfl rfl (k := i) (by omega) (by decide) (f' := (fun j => lZ ((cpS Wy Sm v (i + 1)) j))) ((updL_lZ (cpS Wy Sm v i) i (Wy ((41 * v) + i))).trans (by rw [cpS_up])) (ws' := [(mo, .inr (6, [.int (nI mth), .int (zB dir), .int (nI nv), .int (nI me), .ref mf, .ref mt, .ref mw, .ref mr, .int (nI mrn), .ref mp, .int (nI mst), .int (zB mhr), .ref mx, .ref mfa, .ref mbi, .ref mod1, .int (nI mon), .ref msc, .ref msb, .ref msu, .ref mwy, .ref mre, .ref mby, .ref msm, .ref mle, .ref mgr])), (mw, aI cA 40 (fun j => nI (We j))), (mwy, aJ cA 656 (fun j => lZ (Wy j))), (msm, aJ cA 41 (fun j => lZ ((cpS Wy Sm v (i + 1)) j)))]) rfl dX6_addEdge_28 (fun H locs hP hD hS => ?_)
        refine lv_iinc (v := nI (i + 1)) (lv' := [(4, .int (nI (i + 1))), (0, .ref mo), (1, .int (nI v)), (2, .int (nI e1)), (3, .int (iZ sg))]) hx hb dX6_addEdge_29 hl (k := 4) rfl (nI_1 i) (by decide) rfl (fun ls hl => ?_)
        refine lv_goto (tgt := 3) hx hb dX6_addEdge_32 (by decide) ?_
        exact ih3 (i + 1) (by omega) (by omega) _ _ (hP) (hD) hS ls (lv_sub hl [1, 2, 3, 4, 0] (by rfl))
  exact J3 ((41 - 0) + 1) 0 (by omega) (by omega) _ _ (by rw [cpS_0]; exact hP) (by rw [cpS_0]; exact hD) hS ls (lv_sub hl [1, 2, 3, 4, 0] (by rfl))
set_option maxHeartbeats 4000000 in
set_option maxRecDepth 100000 in
/-- Model.isSumLess -/
theorem c_X6_isSumLess (l : Launch) (D : va_G) (cA : Nat → ClassId) (mo : Nat) (mf : Nat) (mt : Nat) (mw : Nat) (mr : Nat) (mp : Nat) (mx : Nat) (mfa : Nat) (mbi : Nat) (mod1 : Nat) (msc : Nat) (msb : Nat) (msu : Nat) (mwy : Nat) (mre : Nat) (mby : Nat) (msm : Nat) (mle : Nat) (mgr : Nat) (mth : Nat) (dir : Bool) (nv : Nat) (me : Nat) (mrn : Nat) (mst : Nat) (mhr : Bool) (mon : Nat) (Re : Nat → Bool) (Wy : Nat → Int) (Sm : Nat → Int) (v : Nat) (hv : v < 16) (hWy : ∀ j, -9223372036854775808 ≤ Wy j ∧ Wy j < 9223372036854775808) (hSm : ∀ j, -9223372036854775808 ≤ Sm j ∧ Sm j < 9223372036854775808) : Met l yX6_isSumLess wsX6_isSumLess ({ frames := 0, cells := 0, slots := 0, locals := 0 } : Room) (zRd D vwCl (zT cA) [(mo, .inr (6, [.int (nI mth), .int (zB dir), .int (nI nv), .int (nI me), .ref mf, .ref mt, .ref mw, .ref mr, .int (nI mrn), .ref mp, .int (nI mst), .int (zB mhr), .ref mx, .ref mfa, .ref mbi, .ref mod1, .int (nI mon), .ref msc, .ref msb, .ref msu, .ref mwy, .ref mre, .ref mby, .ref msm, .ref mle, .ref mgr])), (mre, aZ cA 16 (fun j => zB (Re j))), (mwy, aJ cA 656 (fun j => lZ (Wy j))), (msm, aJ cA 41 (fun j => lZ (Sm j)))] [.ref mo, .int (nI v)]) (vp_Si (fun r => r = zB (mLess Re Sm Wy v))) 0 0 (fun _ => False) := by
  refine z_read (cc := cX6_isSumLess) (maxL := 3) (ret := (some .boolean)) (by decide) rfl (Nat.le_of_ble_eq_true rfl) ?_
  intro p e s m below meth c hx hb hr hml hown hts hlocks hP hK Q hQ ls hl
  have hown : s.vm.findClass RX6 = some m.cls := hown
  have hl : lv_has ls 3 [(0, .ref mo), (1, .int (nI v))] := hl
  generalize hav : ([.ref mo, .int (nI v)] : List Value).toArray = args at hts hQ ⊢
  have hin6 : ∀ w ∈ wsX60, w ∈ wsX6_isSumLess := by decide +kernel
  refine lv_aload_n hx hb dX6_isSumLess_0 rfl (lv_at hl 0 rfl) ?_
  refine va_get (D := D) (ci := 6) (v := .ref mre) (C := RX6) (T := TX6) (N := 26) hx hb hts hin6 hown hK hP 0 rfl rfl 21 (by decide) (hts (.fieldLink RX6 55 "TourHouseModel" "reached" "[Z") (by decide +kernel)) (fun _ h9 => h9) rfl dX6_isSumLess_1 ?_
  refine lv_iload_n hx hb dX6_isSumLess_4 rfl (lv_at hl 1 rfl) ?_
  refine z_zald hx hb hK hP 1 2 rfl rfl (k := v) (by omega) (by decide) (v := zB (Re v)) rfl dX6_isSumLess_5 ?_
  refine z_ifne hx hb (tgt := 11) dX6_isSumLess_6 (by decide) (fun h6 => ?_) (fun h6 => ?_)
  · skip
    refine lv_iconst (v := nI 0) hx hb dX6_isSumLess_11 (by decide) ?_
    refine lv_istore_n (lv' := [(2, .int (nI 0)), (0, .ref mo), (1, .int (nI v))]) hx hb dX6_isSumLess_12 rfl hl (by decide) rfl (fun ls hl => ?_)
    have J13 : ∀ (n : Nat), ∀ (i : Nat), (i ≤ 41) → (mLx Sm Wy v (41 - i) = mLx Sm Wy v 41) → 41 - i < n → ∀ (ls : Array Slot), lv_has ls 3 [(0, .ref mo), (1, .int (nI v)), (2, .int (nI i))] → W p l e ({ frames := 0, cells := 0, slots := 0, locals := 0 } : Room) s m args below meth c s.heap [] 0 0 Q (F0 m 13 ls []) := by
      intro n13
      induction n13 with
      | zero => intro i hi hq hn; exact absurd hn (Nat.not_lt_zero _)
      | succ n13 ih13 =>
        intro i hi hq hn13 ls hl
        refine lv_iload_n hx hb dX6_isSumLess_13 rfl (lv_at hl 2 rfl) ?_
        refine lv_bipush (v := nI 41) hx hb dX6_isSumLess_14 (by decide) ?_
        refine z_ge hx hb (by omega) (by decide) (tgt := 73) dX6_isSumLess_16 (by decide) (fun h16 => ?_) (fun h16 => ?_)
        · skip
          refine lv_iconst (v := zB false) hx hb dX6_isSumLess_73 (by decide) ?_
          exact z_zretR hx hb hr hlocks hQ (by rw [mLess, if_neg (by rw [h6]; decide), ← hq, show 41 - i = 0 from by omega]; rfl) dX6_isSumLess_74 rfl rfl
        · skip
          refine lv_aload_n hx hb dX6_isSumLess_19 rfl (lv_at hl 0 rfl) ?_
          refine va_get (D := D) (ci := 6) (v := .ref msm) (C := RX6) (T := TX6) (N := 26) hx hb hts hin6 hown hK hP 0 rfl rfl 23 (by decide) (hts (.fieldLink RX6 62 "TourHouseModel" "sum" "[J") (by decide +kernel)) (fun _ h9 => h9) rfl dX6_isSumLess_20 ?_
          refine lv_iload_n hx hb dX6_isSumLess_23 rfl (lv_at hl 2 rfl) ?_
          refine z_lald hx hb hK hP 3 1 rfl rfl (k := i) (by omega) (by decide) (v := lZ (Sm i)) rfl dX6_isSumLess_24 ?_
          refine lv_aload_n hx hb dX6_isSumLess_25 rfl (lv_at hl 0 rfl) ?_
          refine va_get (D := D) (ci := 6) (v := .ref mwy) (C := RX6) (T := TX6) (N := 26) hx hb hts hin6 hown hK hP 0 rfl rfl 20 (by decide) (hts (.fieldLink RX6 52 "TourHouseModel" "ways" "[J") (by decide +kernel)) (fun _ h9 => h9) rfl dX6_isSumLess_26 ?_
          refine lv_bipush (v := nI 41) hx hb dX6_isSumLess_29 (by decide) ?_
          refine lv_iload_n hx hb dX6_isSumLess_31 rfl (lv_at hl 1 rfl) ?_
          refine lv_imul hx hb dX6_isSumLess_32 ?_
          refine z_topi (v := nI (41 * v)) (pk_mul 41 v) ?_
          refine lv_iload_n hx hb dX6_isSumLess_33 rfl (lv_at hl 2 rfl) ?_
          refine lv_iadd hx hb dX6_isSumLess_34 ?_
          refine z_topi (v := nI ((41 * v) + i)) (nI_add (41 * v) i) ?_
          refine z_lald hx hb hK hP 2 1 rfl rfl (k := ((41 * v) + i)) (by omega) (by decide) (v := lZ (Wy ((41 * v) + i))) rfl dX6_isSumLess_35 ?_
          refine z_lcmp_eq hx hb (x := Sm i) (y := Wy ((41 * v) + i)) (hSm _) (hWy _) (tgt := 67) dX6_isSumLess_36 dX6_isSumLess_37 (by decide) (fun h36 => ?_) (fun h36 => ?_)
          · skip
            refine lv_iinc (v := nI (i + 1)) (lv' := [(2, .int (nI (i + 1))), (0, .ref mo), (1, .int (nI v))]) hx hb dX6_isSumLess_67 hl (k := 2) rfl (nI_1 i) (by decide) rfl (fun ls hl => ?_)
            refine lv_goto (tgt := 13) hx hb dX6_isSumLess_70 (by decide) ?_
            exact ih13 (i + 1) (by omega) (by rw [← hq, show 41 - i = (41 - (i + 1)) + 1 from by omega, mLx, show 41 - (41 - (i + 1) + 1) = i from by omega, if_pos h36]) (by omega) ls (lv_sub hl [1, 2, 0] (by rfl))
          · skip
            refine lv_aload_n hx hb dX6_isSumLess_40 rfl (lv_at hl 0 rfl) ?_
            refine va_get (D := D) (ci := 6) (v := .ref msm) (C := RX6) (T := TX6) (N := 26) hx hb hts hin6 hown hK hP 0 rfl rfl 23 (by decide) (hts (.fieldLink RX6 62 "TourHouseModel" "sum" "[J") (by decide +kernel)) (fun _ h9 => h9) rfl dX6_isSumLess_41 ?_
            refine lv_iload_n hx hb dX6_isSumLess_44 rfl (lv_at hl 2 rfl) ?_
            refine z_lald hx hb hK hP 3 1 rfl rfl (k := i) (by omega) (by decide) (v := lZ (Sm i)) rfl dX6_isSumLess_45 ?_
            refine lv_aload_n hx hb dX6_isSumLess_46 rfl (lv_at hl 0 rfl) ?_
            refine va_get (D := D) (ci := 6) (v := .ref mwy) (C := RX6) (T := TX6) (N := 26) hx hb hts hin6 hown hK hP 0 rfl rfl 20 (by decide) (hts (.fieldLink RX6 52 "TourHouseModel" "ways" "[J") (by decide +kernel)) (fun _ h9 => h9) rfl dX6_isSumLess_47 ?_
            refine lv_bipush (v := nI 41) hx hb dX6_isSumLess_50 (by decide) ?_
            refine lv_iload_n hx hb dX6_isSumLess_52 rfl (lv_at hl 1 rfl) ?_
            refine lv_imul hx hb dX6_isSumLess_53 ?_
            refine z_topi (v := nI (41 * v)) (pk_mul 41 v) ?_
            refine lv_iload_n hx hb dX6_isSumLess_54 rfl (lv_at hl 2 rfl) ?_
            refine lv_iadd hx hb dX6_isSumLess_55 ?_
            refine z_topi (v := nI ((41 * v) + i)) (nI_add (41 * v) i) ?_
            refine z_lald hx hb hK hP 2 1 rfl rfl (k := ((41 * v) + i)) (by omega) (by decide) (v := lZ (Wy ((41 * v) + i))) rfl dX6_isSumLess_56 ?_
            refine z_lcmp_ge hx hb (x := Sm i) (y := Wy ((41 * v) + i)) (hSm _) (hWy _) (tgt := 65) dX6_isSumLess_57 dX6_isSumLess_58 (by decide) (fun h57 => ?_) (fun h57 => ?_)
            · skip
              refine lv_iconst (v := zB false) hx hb dX6_isSumLess_65 (by decide) ?_
              exact z_zretR hx hb hr hlocks hQ (by rw [mLess, if_neg (by rw [h6]; decide), ← hq, show 41 - i = (41 - (i + 1)) + 1 from by omega, mLx, show 41 - (41 - (i + 1) + 1) = i from by omega, if_neg h36]; congr 1; symm; first | (rw [decide_eq_true_eq]; omega) | (rw [decide_eq_false_iff_not]; omega)) dX6_isSumLess_66 rfl rfl
            · skip
              refine lv_iconst (v := zB true) hx hb dX6_isSumLess_61 (by decide) ?_
              refine lv_goto (tgt := 66) hx hb dX6_isSumLess_62 (by decide) ?_
              exact z_zretR hx hb hr hlocks hQ (by rw [mLess, if_neg (by rw [h6]; decide), ← hq, show 41 - i = (41 - (i + 1)) + 1 from by omega, mLx, show 41 - (41 - (i + 1) + 1) = i from by omega, if_neg h36]; congr 1; symm; first | (rw [decide_eq_true_eq]; omega) | (rw [decide_eq_false_iff_not]; omega)) dX6_isSumLess_66 rfl rfl
    exact J13 ((41 - 0) + 1) 0 (by omega) rfl (by omega) ls (lv_sub hl [1, 2, 0] (by rfl))
  · skip
    refine lv_iconst (v := zB true) hx hb dX6_isSumLess_9 (by decide) ?_
    exact z_zretR hx hb hr hlocks hQ (by rw [mLess, if_pos h6]) dX6_isSumLess_10 rfl rfl
set_option maxHeartbeats 4000000 in
set_option maxRecDepth 100000 in
/-- Model.reach -/
theorem c_X6_reach (l : Launch) (D : va_G) (cA : Nat → ClassId) (sz : Nat) (mo : Nat) (mf : Nat) (mt : Nat) (mw : Nat) (mr : Nat) (mp : Nat) (mx : Nat) (mfa : Nat) (mbi : Nat) (mod1 : Nat) (msc : Nat) (msb : Nat) (msu : Nat) (mwy : Nat) (mre : Nat) (mby : Nat) (msm : Nat) (mle : Nat) (mgr : Nat) (mth : Nat) (dir : Bool) (nv : Nat) (me : Nat) (mrn : Nat) (mst : Nat) (mhr : Bool) (mon : Nat) (We : Nat → Nat) (ρ : RS) (a : Nat) (b : Nat) (e1 : Nat) (sg : Int) (hW : ∀ j, We j ≤ 1000000000) (hρ : rR ρ) (ha : a < 16) (hb9 : b < 16) (he : e1 < 40) (hsg : sg = 1 ∨ sg = -1) : Met l yX6_reach wsX6_reach ({ frames := 1, cells := 0, slots := 0, locals := 24 } : Room) (zWr D vwCl (zT cA) [(mo, .inr (6, [.int (nI mth), .int (zB dir), .int (nI nv), .int (nI me), .ref mf, .ref mt, .ref mw, .ref mr, .int (nI mrn), .ref mp, .int (nI mst), .int (zB mhr), .ref mx, .ref mfa, .ref mbi, .ref mod1, .int (nI mon), .ref msc, .ref msb, .ref msu, .ref mwy, .ref mre, .ref mby, .ref msm, .ref mle, .ref mgr])), (mw, aI cA 40 (fun j => nI (We j))), (mre, aZ cA 16 (fun j => zB (ρ.1 j))), (mby, aI cA 16 (fun j => iZ (ρ.2.1 j))), (mwy, aJ cA 656 (fun j => lZ (ρ.2.2.1 j))), (msm, aJ cA 41 (fun j => lZ (ρ.2.2.2 j)))] sz [.ref mo, .int (nI a), .int (nI b), .int (nI e1), .int (iZ sg)]) (zQi D vwCl (zT cA) (va_A [(mo, .inr (6, [.int (nI mth), .int (zB dir), .int (nI nv), .int (nI me), .ref mf, .ref mt, .ref mw, .ref mr, .int (nI mrn), .ref mp, .int (nI mst), .int (zB mhr), .ref mx, .ref mfa, .ref mbi, .ref mod1, .int (nI mon), .ref msc, .ref msb, .ref msu, .ref mwy, .ref mre, .ref mby, .ref msm, .ref mle, .ref mgr])), (mw, aI cA 40 (fun j => nI (We j))), (mre, aZ cA 16 (fun j => zB (ρ.1 j))), (mby, aI cA 16 (fun j => iZ (ρ.2.1 j))), (mwy, aJ cA 656 (fun j => lZ (ρ.2.2.1 j))), (msm, aJ cA 41 (fun j => lZ (ρ.2.2.2 j)))] sz) [(mo, .inr (6, [.int (nI mth), .int (zB dir), .int (nI nv), .int (nI me), .ref mf, .ref mt, .ref mw, .ref mr, .int (nI mrn), .ref mp, .int (nI mst), .int (zB mhr), .ref mx, .ref mfa, .ref mbi, .ref mod1, .int (nI mon), .ref msc, .ref msb, .ref msu, .ref mwy, .ref mre, .ref mby, .ref msm, .ref mle, .ref mgr])), (mw, aI cA 40 (fun j => nI (We j))), (mre, aZ cA 16 (fun j => zB ((((mRch We ρ a b e1 sg).1).1) j))), (mby, aI cA 16 (fun j => iZ ((((mRch We ρ a b e1 sg).1).2.1) j))), (mwy, aJ cA 656 (fun j => lZ ((((mRch We ρ a b e1 sg).1).2.2.1) j))), (msm, aJ cA 41 (fun j => lZ ((((mRch We ρ a b e1 sg).1).2.2.2) j)))] (zB ((mRch We ρ a b e1 sg).2))) 0 0 (va_A [(mo, .inr (6, [.int (nI mth), .int (zB dir), .int (nI nv), .int (nI me), .ref mf, .ref mt, .ref mw, .ref mr, .int (nI mrn), .ref mp, .int (nI mst), .int (zB mhr), .ref mx, .ref mfa, .ref mbi, .ref mod1, .int (nI mon), .ref msc, .ref msb, .ref msu, .ref mwy, .ref mre, .ref mby, .ref msm, .ref mle, .ref mgr])), (mw, aI cA 40 (fun j => nI (We j))), (mre, aZ cA 16 (fun j => zB (ρ.1 j))), (mby, aI cA 16 (fun j => iZ (ρ.2.1 j))), (mwy, aJ cA 656 (fun j => lZ (ρ.2.2.1 j))), (msm, aJ cA 41 (fun j => lZ (ρ.2.2.2 j)))] sz) := by
  refine z_write (cc := cX6_reach) (maxL := 6) (ret := (some .boolean)) (by decide) rfl (Nat.le_of_ble_eq_true rfl) ?_
  intro p e s m below meth c hx hb hr hml hown hts hlocks A hAe hA H locs hP hK hD hS hini Q hQ ls hl
  have hown : s.vm.findClass RX6 = some m.cls := hown
  have hl : lv_has ls 6 [(0, .ref mo), (1, .int (nI a)), (2, .int (nI b)), (3, .int (nI e1)), (4, .int (iZ sg))] := hl
  generalize hav : ([.ref mo, .int (nI a), .int (nI b), .int (nI e1), .int (iZ sg)] : List Value).toArray = args at hts hQ ⊢
  have hin6 : ∀ w ∈ wsX60, w ∈ wsX6_reach := by decide +kernel
  refine lv_aload_n hx hb dX6_reach_0 rfl (lv_at hl 0 rfl) ?_
  refine va_get (D := D) (ci := 6) (v := .ref mre) (C := RX6) (T := TX6) (N := 26) hx hb hts hin6 hown hK hP 0 rfl rfl 21 (by decide) (hts (.fieldLink RX6 55 "TourHouseModel" "reached" "[Z") (by decide +kernel)) (fun _ h9 => h9) rfl dX6_reach_1 ?_
  refine lv_iload_n hx hb dX6_reach_4 rfl (lv_at hl 1 rfl) ?_
  refine z_zald hx hb hK hP 2 2 rfl rfl (k := a) (by omega) (by decide) (v := zB (ρ.1 a)) rfl dX6_reach_5 ?_
  refine z_ifne hx hb (tgt := 11) dX6_reach_6 (by decide) (fun h6 => ?_) (fun h6 => ?_)
  · skip
    refine lv_aload_n hx hb dX6_reach_11 rfl (lv_at hl 0 rfl) ?_
    refine lv_iload_n hx hb dX6_reach_12 rfl (lv_at hl 1 rfl) ?_
    refine lv_iload_n hx hb dX6_reach_13 rfl (lv_at hl 3 rfl) ?_
    refine lv_iload hx hb dX6_reach_14 (lv_at hl 4 rfl) ?_
    refine z_cWVv (wc := [(mo, .inr (6, [.int (nI mth), .int (zB dir), .int (nI nv), .int (nI me), .ref mf, .ref mt, .ref mw, .ref mr, .int (nI mrn), .ref mp, .int (nI mst), .int (zB mhr), .ref mx, .ref mfa, .ref mbi, .ref mod1, .int (nI mon), .ref msc, .ref msb, .ref msu, .ref mwy, .ref mre, .ref mby, .ref msm, .ref mle, .ref mgr])), (mw, aI cA 40 (fun j => nI (We j))), (mwy, aJ cA 656 (fun j => lZ (ρ.2.2.1 j))), (msm, aJ cA 41 (fun j => lZ (ρ.2.2.2 j)))]) (rm := ({ frames := 0, cells := 0, slots := 0, locals := 0 } : Room)) (As := [.int (nI a), .int (nI e1), .int (iZ sg)]) (rest := []) (wr := [(mre, aZ cA 16 (fun j => zB (ρ.1 j))), (mby, aI cA 16 (fun j => iZ (ρ.2.1 j)))]) (w1 := [(mo, .inr (6, [.int (nI mth), .int (zB dir), .int (nI nv), .int (nI me), .ref mf, .ref mt, .ref mw, .ref mr, .int (nI mrn), .ref mp, .int (nI mst), .int (zB mhr), .ref mx, .ref mfa, .ref mbi, .ref mod1, .int (nI mon), .ref msc, .ref msb, .ref msu, .ref mwy, .ref mre, .ref mby, .ref msm, .ref mle, .ref mgr])), (mw, aI cA 40 (fun j => nI (We j))), (mwy, aJ cA 656 (fun j => lZ (ρ.2.2.1 j))), (msm, aJ cA 41 (fun j => lZ ((mAdd We ρ.2.2.1 ρ.2.2.2 a e1 sg) j)))]) (ws' := [(mo, .inr (6, [.int (nI mth), .int (zB dir), .int (nI nv), .int (nI me), .ref mf, .ref mt, .ref mw, .ref mr, .int (nI mrn), .ref mp, .int (nI mst), .int (zB mhr), .ref mx, .ref mfa, .ref mbi, .ref mod1, .int (nI mon), .ref msc, .ref msb, .ref msu, .ref mwy, .ref mre, .ref mby, .ref msm, .ref mle, .ref mgr])), (mw, aI cA 40 (fun j => nI (We j))), (mre, aZ cA 16 (fun j => zB (ρ.1 j))), (mby, aI cA 16 (fun j => iZ (ρ.2.1 j))), (mwy, aJ cA 656 (fun j => lZ (ρ.2.2.1 j))), (msm, aJ cA 41 (fun j => lZ ((mAdd We ρ.2.2.1 ρ.2.2.2 a e1 sg) j)))]) ⟨hx, hb, hml, hown, hts⟩ (c_X6_addEdge l D cA H.size mo mf mt mw mr mp mx mfa mbi mod1 msc msb msu mwy mre mby msm mle mgr mth dir nv me mrn mst mhr mon We ρ.2.2.1 ρ.2.2.2 a e1 sg (by first | assumption | omega) (by first | assumption | omega) (by first | assumption | omega) (by first | assumption | omega)) (cwV 3 hts gX6_reach_X6_addEdge rfl rfl rfl (by decide +kernel) ⟨Nat.le_of_ble_eq_true rfl, Nat.le_of_ble_eq_true rfl⟩) hP hK hD hS hA [0, 1, 4, 5] [2, 3] [2, 3, 0, 1, 4, 5] rfl rfl rfl rfl rfl (by decide) rfl rfl rfl 6 0 rfl rfl rfl hl.1 rfl (Nat.le_of_ble_eq_true rfl) ⟨Nat.zero_le _, Nat.zero_le _⟩ dX6_reach_16 (fun H locs hP hD hS => ?_)
    refine lv_aload_n hx hb dX6_reach_19 rfl (lv_at hl 0 rfl) ?_
    refine lv_iload_n hx hb dX6_reach_20 rfl (lv_at hl 2 rfl) ?_
    refine z_cRVi (wc := [(mo, .inr (6, [.int (nI mth), .int (zB dir), .int (nI nv), .int (nI me), .ref mf, .ref mt, .ref mw, .ref mr, .int (nI mrn), .ref mp, .int (nI mst), .int (zB mhr), .ref mx, .ref mfa, .ref mbi, .ref mod1, .int (nI mon), .ref msc, .ref msb, .ref msu, .ref mwy, .ref mre, .ref mby, .ref msm, .ref mle, .ref mgr])), (mre, aZ cA 16 (fun j => zB (ρ.1 j))), (mwy, aJ cA 656 (fun j => lZ (ρ.2.2.1 j))), (msm, aJ cA 41 (fun j => lZ ((mAdd We ρ.2.2.1 ρ.2.2.2 a e1 sg) j)))]) (rm := ({ frames := 0, cells := 0, slots := 0, locals := 0 } : Room)) (As := [.int (nI b)]) (rest := []) ⟨hx, hb, hml, hown, hts⟩ (c_X6_isSumLess l D cA mo mf mt mw mr mp mx mfa mbi mod1 msc msb msu mwy mre mby msm mle mgr mth dir nv me mrn mst mhr mon ρ.1 ρ.2.2.1 (mAdd We ρ.2.2.1 ρ.2.2.2 a e1 sg) b (by first | assumption | omega) (hρ.1) (mAdd_R hρ.1 hρ.2)) (cwV 1 hts gX6_reach_X6_isSumLess rfl rfl rfl (by decide +kernel) ⟨Nat.le_of_ble_eq_true rfl, Nat.le_of_ble_eq_true rfl⟩) hP hK [0, 2, 4, 5] rfl 6 0 rfl rfl rfl hl.1 rfl (Nat.le_of_ble_eq_true rfl) ⟨Nat.zero_le _, Nat.zero_le _⟩ dX6_reach_21 (fun r hr21 => ?_)
    subst hr21
    refine z_ifne hx hb (tgt := 29) dX6_reach_24 (by decide) (fun h24 => ?_) (fun h24 => ?_)
    · skip
      refine lv_aload_n hx hb dX6_reach_29 rfl (lv_at hl 0 rfl) ?_
      refine va_get (D := D) (ci := 6) (v := .ref mre) (C := RX6) (T := TX6) (N := 26) hx hb hts hin6 hown hK hP 0 rfl rfl 21 (by decide) (hts (.fieldLink RX6 55 "TourHouseModel" "reached" "[Z") (by decide +kernel)) (fun _ h9 => h9) rfl dX6_reach_30 ?_
      refine lv_iload_n hx hb dX6_reach_33 rfl (lv_at hl 2 rfl) ?_
      refine lv_iconst (v := zB true) hx hb dX6_reach_34 (by decide) ?_
      refine z_zast hx hb hK hP hD hS 2 2 rfl rfl (k := b) (by omega) (by decide) (f' := (fun j => zB ((va_up ρ.1 b true) j))) (upd_zB ρ.1 b true) (ws' := [(mo, .inr (6, [.int (nI mth), .int (zB dir), .int (nI nv), .int (nI me), .ref mf, .ref mt, .ref mw, .ref mr, .int (nI mrn), .ref mp, .int (nI mst), .int (zB mhr), .ref mx, .ref mfa, .ref mbi, .ref mod1, .int (nI mon), .ref msc, .ref msb, .ref msu, .ref mwy, .ref mre, .ref mby, .ref msm, .ref mle, .ref mgr])), (mw, aI cA 40 (fun j => nI (We j))), (mre, aZ cA 16 (fun j => zB ((va_up ρ.1 b true) j))), (mby, aI cA 16 (fun j => iZ (ρ.2.1 j))), (mwy, aJ cA 656 (fun j => lZ (ρ.2.2.1 j))), (msm, aJ cA 41 (fun j => lZ ((mAdd We ρ.2.2.1 ρ.2.2.2 a e1 sg) j)))]) rfl dX6_reach_35 (fun H locs hP hD hS => ?_)
      refine lv_aload_n hx hb dX6_reach_36 rfl (lv_at hl 0 rfl) ?_
      refine va_get (D := D) (ci := 6) (v := .ref mby) (C := RX6) (T := TX6) (N := 26) hx hb hts hin6 hown hK hP 0 rfl rfl 22 (by decide) (hts (.fieldLink RX6 59 "TourHouseModel" "by" "[I") (by decide +kernel)) (fun _ h9 => h9) rfl dX6_reach_37 ?_
      refine lv_iload_n hx hb dX6_reach_40 rfl (lv_at hl 2 rfl) ?_
      have J54 : ∀ (H : Heap) (locs : List Loc), va_P D vwCl [(mo, .inr (6, [.int (nI mth), .int (zB dir), .int (nI nv), .int (nI me), .ref mf, .ref mt, .ref mw, .ref mr, .int (nI mrn), .ref mp, .int (nI mst), .int (zB mhr), .ref mx, .ref mfa, .ref mbi, .ref mod1, .int (nI mon), .ref msc, .ref msb, .ref msu, .ref mwy, .ref mre, .ref mby, .ref msm, .ref mle, .ref mgr])), (mw, aI cA 40 (fun j => nI (We j))), (mre, aZ cA 16 (fun j => zB ((va_up ρ.1 b true) j))), (mby, aI cA 16 (fun j => iZ (ρ.2.1 j))), (mwy, aJ cA 656 (fun j => lZ (ρ.2.2.1 j))), (msm, aJ cA 41 (fun j => lZ ((mAdd We ρ.2.2.1 ρ.2.2.2 a e1 sg) j)))] H → va_D A [(mo, .inr (6, [.int (nI mth), .int (zB dir), .int (nI nv), .int (nI me), .ref mf, .ref mt, .ref mw, .ref mr, .int (nI mrn), .ref mp, .int (nI mst), .int (zB mhr), .ref mx, .ref mfa, .ref mbi, .ref mod1, .int (nI mon), .ref msc, .ref msb, .ref msu, .ref mwy, .ref mre, .ref mby, .ref msm, .ref mle, .ref mgr])), (mw, aI cA 40 (fun j => nI (We j))), (mre, aZ cA 16 (fun j => zB ((va_up ρ.1 b true) j))), (mby, aI cA 16 (fun j => iZ (ρ.2.1 j))), (mwy, aJ cA 656 (fun j => lZ (ρ.2.2.1 j))), (msm, aJ cA 41 (fun j => lZ ((mAdd We ρ.2.2.1 ρ.2.2.2 a e1 sg) j)))] → va_S A s.heap H locs → ∀ (ls : Array Slot), lv_has ls 6 [(0, .ref mo), (1, .int (nI a)), (2, .int (nI b)), (3, .int (nI e1)), (4, .int (iZ sg))] → W p l e ({ frames := 1, cells := 0, slots := 0, locals := 24 } : Room) s m args below meth c H locs 0 0 Q (F0 m 54 ls [.int (iZ (mBy sg e1)), .int (nI b), .ref mby]) := by
        intro   H locs hP hD hS ls hl
        refine z_iast hx hb hK hP hD hS 3 0 rfl rfl (k := b) (by omega) (by decide) (f' := (fun j => iZ ((va_up ρ.2.1 b (mBy sg e1)) j))) (upd_iZ ρ.2.1 b (mBy sg e1)) (ws' := [(mo, .inr (6, [.int (nI mth), .int (zB dir), .int (nI nv), .int (nI me), .ref mf, .ref mt, .ref mw, .ref mr, .int (nI mrn), .ref mp, .int (nI mst), .int (zB mhr), .ref mx, .ref mfa, .ref mbi, .ref mod1, .int (nI mon), .ref msc, .ref msb, .ref msu, .ref mwy, .ref mre, .ref mby, .ref msm, .ref mle, .ref mgr])), (mw, aI cA 40 (fun j => nI (We j))), (mre, aZ cA 16 (fun j => zB ((va_up ρ.1 b true) j))), (mby, aI cA 16 (fun j => iZ ((va_up ρ.2.1 b (mBy sg e1)) j))), (mwy, aJ cA 656 (fun j => lZ (ρ.2.2.1 j))), (msm, aJ cA 41 (fun j => lZ ((mAdd We ρ.2.2.1 ρ.2.2.2 a e1 sg) j)))]) rfl dX6_reach_54 (fun H locs hP hD hS => ?_)
        refine lv_iconst (v := nI 0) hx hb dX6_reach_55 (by decide) ?_
        refine lv_istore (lv' := [(5, .int (nI 0)), (0, .ref mo), (1, .int (nI a)), (2, .int (nI b)), (3, .int (nI e1)), (4, .int (iZ sg))]) hx hb dX6_reach_56 hl (by decide) rfl (fun ls hl => ?_)
        have J58 : ∀ (n : Nat), ∀ (i : Nat), (i ≤ 41) → 41 - i < n → ∀ (H : Heap) (locs : List Loc), va_P D vwCl [(mo, .inr (6, [.int (nI mth), .int (zB dir), .int (nI nv), .int (nI me), .ref mf, .ref mt, .ref mw, .ref mr, .int (nI mrn), .ref mp, .int (nI mst), .int (zB mhr), .ref mx, .ref mfa, .ref mbi, .ref mod1, .int (nI mon), .ref msc, .ref msb, .ref msu, .ref mwy, .ref mre, .ref mby, .ref msm, .ref mle, .ref mgr])), (mw, aI cA 40 (fun j => nI (We j))), (mre, aZ cA 16 (fun j => zB ((va_up ρ.1 b true) j))), (mby, aI cA 16 (fun j => iZ ((va_up ρ.2.1 b (mBy sg e1)) j))), (mwy, aJ cA 656 (fun j => lZ ((cpW ρ.2.2.1 (mAdd We ρ.2.2.1 ρ.2.2.2 a e1 sg) b i) j))), (msm, aJ cA 41 (fun j => lZ ((mAdd We ρ.2.2.1 ρ.2.2.2 a e1 sg) j)))] H → va_D A [(mo, .inr (6, [.int (nI mth), .int (zB dir), .int (nI nv), .int (nI me), .ref mf, .ref mt, .ref mw, .ref mr, .int (nI mrn), .ref mp, .int (nI mst), .int (zB mhr), .ref mx, .ref mfa, .ref mbi, .ref mod1, .int (nI mon), .ref msc, .ref msb, .ref msu, .ref mwy, .ref mre, .ref mby, .ref msm, .ref mle, .ref mgr])), (mw, aI cA 40 (fun j => nI (We j))), (mre, aZ cA 16 (fun j => zB ((va_up ρ.1 b true) j))), (mby, aI cA 16 (fun j => iZ ((va_up ρ.2.1 b (mBy sg e1)) j))), (mwy, aJ cA 656 (fun j => lZ ((cpW ρ.2.2.1 (mAdd We ρ.2.2.1 ρ.2.2.2 a e1 sg) b i) j))), (msm, aJ cA 41 (fun j => lZ ((mAdd We ρ.2.2.1 ρ.2.2.2 a e1 sg) j)))] → va_S A s.heap H locs → ∀ (ls : Array Slot), lv_has ls 6 [(0, .ref mo), (1, .int (nI a)), (2, .int (nI b)), (3, .int (nI e1)), (4, .int (iZ sg)), (5, .int (nI i))] → W p l e ({ frames := 1, cells := 0, slots := 0, locals := 24 } : Room) s m args below meth c H locs 0 0 Q (F0 m 58 ls []) := by
          intro n58
          induction n58 with
          | zero => intro i hi hn; exact absurd hn (Nat.not_lt_zero _)
          | succ n58 ih58 =>
            intro i hi hn58 H locs hP hD hS ls hl
            refine lv_iload hx hb dX6_reach_58 (lv_at hl 5 rfl) ?_
            refine lv_bipush (v := nI 41) hx hb dX6_reach_60 (by decide) ?_
            refine z_ge hx hb (by omega) (by decide) (tgt := 90) dX6_reach_62 (by decide) (fun h62 => ?_) (fun h62 => ?_)
            · skip
              refine lv_iconst (v := zB true) hx hb dX6_reach_90 (by decide) ?_
              have hres : mRch We ρ a b e1 sg = ((va_up ρ.1 b true, va_up ρ.2.1 b (mBy sg e1), cpW ρ.2.2.1 (mAdd We ρ.2.2.1 ρ.2.2.2 a e1 sg) b 41, mAdd We ρ.2.2.1 ρ.2.2.2 a e1 sg), true) := by rw [mRch, if_neg (by rw [h6]; decide), if_neg (by rw [h24]; decide)]
              refine z_topi (v := zB ((mRch We ρ a b e1 sg).2)) (by rw [hres]) ?_
              exact z_zretW hx hb hr hlocks hAe hQ (by rw [hres]; have q : i = 41 := (by omega); rw [q] at hP; exact hP) hK (by rw [hres]; have q : i = 41 := (by omega); rw [q] at hD; exact hD) hS dX6_reach_91
            · skip
              refine lv_aload_n hx hb dX6_reach_65 rfl (lv_at hl 0 rfl) ?_
              refine va_get (D := D) (ci := 6) (v := .ref mwy) (C := RX6) (T := TX6) (N := 26) hx hb hts hin6 hown hK hP 0 rfl rfl 20 (by decide) (hts (.fieldLink RX6 52 "TourHouseModel" "ways" "[J") (by decide +kernel)) (fun _ h9 => h9) rfl dX6_reach_66 ?_
              refine lv_bipush (v := nI 41) hx hb dX6_reach_69 (by decide) ?_
              refine lv_iload_n hx hb dX6_reach_71 rfl (lv_at hl 2 rfl) ?_
              refine lv_imul hx hb dX6_reach_72 ?_
              refine z_topi (v := nI (41 * b)) (pk_mul 41 b) ?_
              refine lv_iload hx hb dX6_reach_73 (lv_at hl 5 rfl) ?_
              refine lv_iadd hx hb dX6_reach_75 ?_
              refine z_topi (v := nI ((41 * b) + i)) (nI_add (41 * b) i) ?_
              refine lv_aload_n hx hb dX6_reach_76 rfl (lv_at hl 0 rfl) ?_
              refine va_get (D := D) (ci := 6) (v := .ref msm) (C := RX6) (T := TX6) (N := 26) hx hb hts hin6 hown hK hP 0 rfl rfl 23 (by decide) (hts (.fieldLink RX6 62 "TourHouseModel" "sum" "[J") (by decide +kernel)) (fun _ h9 => h9) rfl dX6_reach_77 ?_
              refine lv_iload hx hb dX6_reach_80 (lv_at hl 5 rfl) ?_
              refine z_lald hx hb hK hP 5 1 rfl rfl (k := i) (by omega) (by decide) (v := lZ ((mAdd We ρ.2.2.1 ρ.2.2.2 a e1 sg) i)) rfl dX6_reach_82 ?_
              refine z_last hx hb hK hP hD hS 4 1 rfl rfl (k := ((41 * b) + i)) (by omega) (by decide) (f' := (fun j => lZ ((cpW ρ.2.2.1 (mAdd We ρ.2.2.1 ρ.2.2.2 a e1 sg) b (i + 1)) j))) ((updL_lZ (cpW ρ.2.2.1 (mAdd We ρ.2.2.1 ρ.2.2.2 a e1 sg) b i) ((41 * b) + i) ((mAdd We ρ.2.2.1 ρ.2.2.2 a e1 sg) i)).trans (by rw [cpW_up])) (ws' := [(mo, .inr (6, [.int (nI mth), .int (zB dir), .int (nI nv), .int (nI me), .ref mf, .ref mt, .ref mw, .ref mr, .int (nI mrn), .ref mp, .int (nI mst), .int (zB mhr), .ref mx, .ref mfa, .ref mbi, .ref mod1, .int (nI mon), .ref msc, .ref msb, .ref msu, .ref mwy, .ref mre, .ref mby, .ref msm, .ref mle, .ref mgr])), (mw, aI cA 40 (fun j => nI (We j))), (mre, aZ cA 16 (fun j => zB ((va_up ρ.1 b true) j))), (mby, aI cA 16 (fun j => iZ ((va_up ρ.2.1 b (mBy sg e1)) j))), (mwy, aJ cA 656 (fun j => lZ ((cpW ρ.2.2.1 (mAdd We ρ.2.2.1 ρ.2.2.2 a e1 sg) b (i + 1)) j))), (msm, aJ cA 41 (fun j => lZ ((mAdd We ρ.2.2.1 ρ.2.2.2 a e1 sg) j)))]) rfl dX6_reach_83 (fun H locs hP hD hS => ?_)
              refine lv_iinc (v := nI (i + 1)) (lv' := [(5, .int (nI (i + 1))), (0, .ref mo), (1, .int (nI a)), (2, .int (nI b)), (3, .int (nI e1)), (4, .int (iZ sg))]) hx hb dX6_reach_84 hl (k := 5) rfl (nI_1 i) (by decide) rfl (fun ls hl => ?_)
              refine lv_goto (tgt := 58) hx hb dX6_reach_87 (by decide) ?_
              exact ih58 (i + 1) (by omega) (by omega) _ _ (hP) (hD) hS ls (lv_sub hl [1, 2, 3, 4, 5, 0] (by rfl))
        exact J58 ((41 - 0) + 1) 0 (by omega) (by omega) _ _ (by rw [cpW_0]; exact hP) (by rw [cpW_0]; exact hD) hS ls (lv_sub hl [1, 2, 3, 4, 5, 0] (by rfl))
      refine lv_iload hx hb dX6_reach_41 (lv_at hl 4 rfl) ?_
      refine z_ile hx hb (x := sg) (⟨by omega, by omega⟩) (tgt := 50) dX6_reach_43 (by decide) (fun h43 => ?_) (fun h43 => ?_)
      · skip
        refine lv_bipush (v := nI 40) hx hb dX6_reach_50 (by decide) ?_
        refine lv_iload_n hx hb dX6_reach_52 rfl (lv_at hl 3 rfl) ?_
        refine lv_iadd hx hb dX6_reach_53 ?_
        refine z_topi (v := nI (40 + e1)) (nI_add 40 e1) ?_
        refine z_topi (v := iZ (mBy sg e1)) (by simp only [mBy]; first | (rw [if_pos h43]; done) | (rw [if_neg (by omega)]; done) | (rw [if_pos h43]; rfl) | (rw [if_neg (by omega)]; rfl)) ?_
        exact J54   _ _ (hP) (hD) hS ls (lv_sub hl [0, 1, 2, 3, 4] (by rfl))
      · skip
        refine lv_iload_n hx hb dX6_reach_46 rfl (lv_at hl 3 rfl) ?_
        refine lv_goto (tgt := 54) hx hb dX6_reach_47 (by decide) ?_
        refine z_topi (v := iZ (mBy sg e1)) (by simp only [mBy]; first | (rw [if_pos h43]; done) | (rw [if_neg (by omega)]; done) | (rw [if_pos h43]; rfl) | (rw [if_neg (by omega)]; rfl)) ?_
        exact J54   _ _ (hP) (hD) hS ls (lv_sub hl [0, 1, 2, 3, 4] (by rfl))
    · skip
      refine lv_iconst (v := zB false) hx hb dX6_reach_27 (by decide) ?_
      have hres : mRch We ρ a b e1 sg = ((ρ.1, ρ.2.1, ρ.2.2.1, mAdd We ρ.2.2.1 ρ.2.2.2 a e1 sg), false) := by rw [mRch, if_neg (by rw [h6]; decide), if_pos h24]
      refine z_topi (v := zB ((mRch We ρ a b e1 sg).2)) (by rw [hres]) ?_
      exact z_zretW hx hb hr hlocks hAe hQ (by rw [hres]; exact hP) hK (by rw [hres]; exact hD) hS dX6_reach_28
  · skip
    refine lv_iconst (v := zB false) hx hb dX6_reach_9 (by decide) ?_
    have hres : mRch We ρ a b e1 sg = (ρ, false) := by rw [mRch, if_pos h6]
    refine z_topi (v := zB ((mRch We ρ a b e1 sg).2)) (by rw [hres]) ?_
    exact z_zretW hx hb hr hlocks hAe hQ (by rw [hres]; exact hP) hK (by rw [hres]; exact hD) hS dX6_reach_10
set_option maxHeartbeats 4000000 in
set_option maxRecDepth 100000 in
/-- Model.nearest -/
theorem c_X6_nearest (l : Launch) (D : va_G) (cA : Nat → ClassId) (sz : Nat) (mo : Nat) (mf : Nat) (mt : Nat) (mw : Nat) (mr : Nat) (mp : Nat) (mx : Nat) (mfa : Nat) (mbi : Nat) (mod1 : Nat) (msc : Nat) (msb : Nat) (msu : Nat) (mwy : Nat) (mre : Nat) (mby : Nat) (msm : Nat) (mle : Nat) (mgr : Nat) (mth : Nat) (dir : Bool) (nv : Nat) (me : Nat) (mrn : Nat) (mst : Nat) (mhr : Bool) (mon : Nat) (Re : Nat → Bool) (Wy : Nat → Int) (Su : Nat → Int) (Sm : Nat → Int) (hnv : nv ≤ 16) (hSu : ∀ j, -2147483648 ≤ Su j ∧ Su j < 2147483648) (hWy : ∀ j, -9223372036854775808 ≤ Wy j ∧ Wy j < 9223372036854775808) (hSm : ∀ j, -9223372036854775808 ≤ Sm j ∧ Sm j < 9223372036854775808) : Met l yX6_nearest wsX6_nearest ({ frames := 1, cells := 0, slots := 0, locals := 22 } : Room) (zWr D vwCl (zT cA) [(mo, .inr (6, [.int (nI mth), .int (zB dir), .int (nI nv), .int (nI me), .ref mf, .ref mt, .ref mw, .ref mr, .int (nI mrn), .ref mp, .int (nI mst), .int (zB mhr), .ref mx, .ref mfa, .ref mbi, .ref mod1, .int (nI mon), .ref msc, .ref msb, .ref msu, .ref mwy, .ref mre, .ref mby, .ref msm, .ref mle, .ref mgr])), (msu, aI cA 16 (fun j => iZ (Su j))), (mre, aZ cA 16 (fun j => zB (Re j))), (mwy, aJ cA 656 (fun j => lZ (Wy j))), (msm, aJ cA 41 (fun j => lZ (Sm j)))] sz [.ref mo]) (zQi D vwCl (zT cA) (va_A [(mo, .inr (6, [.int (nI mth), .int (zB dir), .int (nI nv), .int (nI me), .ref mf, .ref mt, .ref mw, .ref mr, .int (nI mrn), .ref mp, .int (nI mst), .int (zB mhr), .ref mx, .ref mfa, .ref mbi, .ref mod1, .int (nI mon), .ref msc, .ref msb, .ref msu, .ref mwy, .ref mre, .ref mby, .ref msm, .ref mle, .ref mgr])), (msu, aI cA 16 (fun j => iZ (Su j))), (mre, aZ cA 16 (fun j => zB (Re j))), (mwy, aJ cA 656 (fun j => lZ (Wy j))), (msm, aJ cA 41 (fun j => lZ (Sm j)))] sz) [(mo, .inr (6, [.int (nI mth), .int (zB dir), .int (nI nv), .int (nI me), .ref mf, .ref mt, .ref mw, .ref mr, .int (nI mrn), .ref mp, .int (nI mst), .int (zB mhr), .ref mx, .ref mfa, .ref mbi, .ref mod1, .int (nI mon), .ref msc, .ref msb, .ref msu, .ref mwy, .ref mre, .ref mby, .ref msm, .ref mle, .ref mgr])), (msu, aI cA 16 (fun j => iZ (Su j))), (mre, aZ cA 16 (fun j => zB (Re j))), (mwy, aJ cA 656 (fun j => lZ (Wy j))), (msm, aJ cA 41 (fun j => lZ (((mNr Re Wy Su Sm nv).1) j)))] (iZ ((mNr Re Wy Su Sm nv).2))) 0 0 (va_A [(mo, .inr (6, [.int (nI mth), .int (zB dir), .int (nI nv), .int (nI me), .ref mf, .ref mt, .ref mw, .ref mr, .int (nI mrn), .ref mp, .int (nI mst), .int (zB mhr), .ref mx, .ref mfa, .ref mbi, .ref mod1, .int (nI mon), .ref msc, .ref msb, .ref msu, .ref mwy, .ref mre, .ref mby, .ref msm, .ref mle, .ref mgr])), (msu, aI cA 16 (fun j => iZ (Su j))), (mre, aZ cA 16 (fun j => zB (Re j))), (mwy, aJ cA 656 (fun j => lZ (Wy j))), (msm, aJ cA 41 (fun j => lZ (Sm j)))] sz) := by
  refine z_write (cc := cX6_nearest) (maxL := 4) (ret := (some .int)) (by decide) rfl (Nat.le_of_ble_eq_true rfl) ?_
  intro p e s m below meth c hx hb hr hml hown hts hlocks A hAe hA H locs hP hK hD hS hini Q hQ ls hl
  have hown : s.vm.findClass RX6 = some m.cls := hown
  have hl : lv_has ls 4 [(0, .ref mo)] := hl
  generalize hav : ([.ref mo] : List Value).toArray = args at hts hQ ⊢
  have hin6 : ∀ w ∈ wsX60, w ∈ wsX6_nearest := by decide +kernel
  refine lv_iconst (v := iZ (-1)) hx hb dX6_nearest_0 (by decide) ?_
  refine lv_istore_n (lv' := [(1, .int (iZ (-1))), (0, .ref mo)]) hx hb dX6_nearest_1 rfl hl (by decide) rfl (fun ls hl => ?_)
  refine lv_iconst (v := nI 0) hx hb dX6_nearest_2 (by decide) ?_
  refine lv_istore_n (lv' := [(2, .int (nI 0)), (1, .int (iZ (-1))), (0, .ref mo)]) hx hb dX6_nearest_3 rfl hl (by decide) rfl (fun ls hl => ?_)
  have J4 : ∀ (n : Nat), ∀ (i : Nat), (i ≤ nv) → nv - i < n → ∀ (H : Heap) (locs : List Loc), va_P D vwCl [(mo, .inr (6, [.int (nI mth), .int (zB dir), .int (nI nv), .int (nI me), .ref mf, .ref mt, .ref mw, .ref mr, .int (nI mrn), .ref mp, .int (nI mst), .int (zB mhr), .ref mx, .ref mfa, .ref mbi, .ref mod1, .int (nI mon), .ref msc, .ref msb, .ref msu, .ref mwy, .ref mre, .ref mby, .ref msm, .ref mle, .ref mgr])), (msu, aI cA 16 (fun j => iZ (Su j))), (mre, aZ cA 16 (fun j => zB (Re j))), (mwy, aJ cA 656 (fun j => lZ (Wy j))), (msm, aJ cA 41 (fun j => lZ (((mNr Re Wy Su Sm i).1) j)))] H → va_D A [(mo, .inr (6, [.int (nI mth), .int (zB dir), .int (nI nv), .int (nI me), .ref mf, .ref mt, .ref mw, .ref mr, .int (nI mrn), .ref mp, .int (nI mst), .int (zB mhr), .ref mx, .ref mfa, .ref mbi, .ref mod1, .int (nI mon), .ref msc, .ref msb, .ref msu, .ref mwy, .ref mre, .ref mby, .ref msm, .ref mle, .ref mgr])), (msu, aI cA 16 (fun j => iZ (Su j))), (mre, aZ cA 16 (fun j => zB (Re j))), (mwy, aJ cA 656 (fun j => lZ (Wy j))), (msm, aJ cA 41 (fun j => lZ (((mNr Re Wy Su Sm i).1) j)))] → va_S A s.heap H locs → ∀ (ls : Array Slot), lv_has ls 4 [(0, .ref mo), (1, .int (iZ ((mNr Re Wy Su Sm i).2))), (2, .int (nI i))] → W p l e ({ frames := 1, cells := 0, slots := 0, locals := 22 } : Room) s m args below meth c H locs 0 0 Q (F0 m 4 ls []) := by
    intro n4
    induction n4 with
    | zero => intro i hi hn; exact absurd hn (Nat.not_lt_zero _)
    | succ n4 ih4 =>
      intro i hi hn4 H locs hP hD hS ls hl
      refine lv_iload_n hx hb dX6_nearest_4 rfl (lv_at hl 2 rfl) ?_
      refine lv_aload_n hx hb dX6_nearest_5 rfl (lv_at hl 0 rfl) ?_
      refine va_get (D := D) (ci := 6) (v := .int (nI nv)) (C := RX6) (T := TX6) (N := 26) hx hb hts hin6 hown hK hP 0 rfl rfl 2 (by decide) (hts (.fieldLink RX6 7 "TourHouseModel" "n" "I") (by decide +kernel)) (fun _ h9 => h9) rfl dX6_nearest_6 ?_
      refine z_ge hx hb (by omega) (by omega) (tgt := 75) dX6_nearest_9 (by decide) (fun h9 => ?_) (fun h9 => ?_)
      · skip
        refine lv_iload_n hx hb dX6_nearest_75 rfl (lv_at hl 1 rfl) ?_
        refine z_topi (v := iZ ((mNr Re Wy Su Sm nv).2)) (by rw [show i = nv from by omega]) ?_
        exact z_iretW hx hb hr hlocks hAe hQ (by have q : i = nv := (by omega); rw [q] at hP; exact hP) hK (by have q : i = nv := (by omega); rw [q] at hD; exact hD) hS dX6_nearest_76
      · skip
        refine lv_aload_n hx hb dX6_nearest_12 rfl (lv_at hl 0 rfl) ?_
        refine va_get (D := D) (ci := 6) (v := .ref msu) (C := RX6) (T := TX6) (N := 26) hx hb hts hin6 hown hK hP 0 rfl rfl 19 (by decide) (hts (.fieldLink RX6 49 "TourHouseModel" "surplus" "[I") (by decide +kernel)) (fun _ h9 => h9) rfl dX6_nearest_13 ?_
        refine lv_iload_n hx hb dX6_nearest_16 rfl (lv_at hl 2 rfl) ?_
        refine z_iald hx hb hK hP 1 0 rfl rfl (k := i) (by omega) (by decide) (v := iZ (Su i)) rfl dX6_nearest_17 ?_
        refine z_ilt hx hb (x := Su i) (hSu _) (tgt := 24) dX6_nearest_18 (by decide) (fun h18 => ?_) (fun h18 => ?_)
        · skip
          refine lv_iconst (v := nI 0) hx hb dX6_nearest_24 (by decide) ?_
          refine lv_istore_n (lv' := [(3, .int (nI 0)), (0, .ref mo), (1, .int (iZ ((mNr Re Wy Su Sm i).2))), (2, .int (nI i))]) hx hb dX6_nearest_25 rfl hl (by decide) rfl (fun ls hl => ?_)
          have J26 : ∀ (n : Nat), ∀ (k : Nat), (k ≤ 41) → 41 - k < n → ∀ (H : Heap) (locs : List Loc), va_P D vwCl [(mo, .inr (6, [.int (nI mth), .int (zB dir), .int (nI nv), .int (nI me), .ref mf, .ref mt, .ref mw, .ref mr, .int (nI mrn), .ref mp, .int (nI mst), .int (zB mhr), .ref mx, .ref mfa, .ref mbi, .ref mod1, .int (nI mon), .ref msc, .ref msb, .ref msu, .ref mwy, .ref mre, .ref mby, .ref msm, .ref mle, .ref mgr])), (msu, aI cA 16 (fun j => iZ (Su j))), (mre, aZ cA 16 (fun j => zB (Re j))), (mwy, aJ cA 656 (fun j => lZ (Wy j))), (msm, aJ cA 41 (fun j => lZ ((cpS Wy (mNr Re Wy Su Sm i).1 i k) j)))] H → va_D A [(mo, .inr (6, [.int (nI mth), .int (zB dir), .int (nI nv), .int (nI me), .ref mf, .ref mt, .ref mw, .ref mr, .int (nI mrn), .ref mp, .int (nI mst), .int (zB mhr), .ref mx, .ref mfa, .ref mbi, .ref mod1, .int (nI mon), .ref msc, .ref msb, .ref msu, .ref mwy, .ref mre, .ref mby, .ref msm, .ref mle, .ref mgr])), (msu, aI cA 16 (fun j => iZ (Su j))), (mre, aZ cA 16 (fun j => zB (Re j))), (mwy, aJ cA 656 (fun j => lZ (Wy j))), (msm, aJ cA 41 (fun j => lZ ((cpS Wy (mNr Re Wy Su Sm i).1 i k) j)))] → va_S A s.heap H locs → ∀ (ls : Array Slot), lv_has ls 4 [(0, .ref mo), (1, .int (iZ ((mNr Re Wy Su Sm i).2))), (2, .int (nI i)), (3, .int (nI k))] → W p l e ({ frames := 1, cells := 0, slots := 0, locals := 22 } : Room) s m args below meth c H locs 0 0 Q (F0 m 26 ls []) := by
            intro n26
            induction n26 with
            | zero => intro k hk hn; exact absurd hn (Nat.not_lt_zero _)
            | succ n26 ih26 =>
              intro k hk hn26 H locs hP hD hS ls hl
              refine lv_iload_n hx hb dX6_nearest_26 rfl (lv_at hl 3 rfl) ?_
              refine lv_bipush (v := nI 41) hx hb dX6_nearest_27 (by decide) ?_
              refine z_ge hx hb (by omega) (by decide) (tgt := 55) dX6_nearest_29 (by decide) (fun h29 => ?_) (fun h29 => ?_)
              · skip
                have q9 : (fun j => lZ ((cpS Wy (mNr Re Wy Su Sm i).1 i 41) j)) = (fun j => lZ ((cpS Wy (mNr Re Wy Su Sm i).1 i k) j)) := by rw [show k = 41 from by omega]
                have hP : va_P D vwCl [(mo, .inr (6, [.int (nI mth), .int (zB dir), .int (nI nv), .int (nI me), .ref mf, .ref mt, .ref mw, .ref mr, .int (nI mrn), .ref mp, .int (nI mst), .int (zB mhr), .ref mx, .ref mfa, .ref mbi, .ref mod1, .int (nI mon), .ref msc, .ref msb, .ref msu, .ref mwy, .ref mre, .ref mby, .ref msm, .ref mle, .ref mgr])), (msu, aI cA 16 (fun j => iZ (Su j))), (mre, aZ cA 16 (fun j => zB (Re j))), (mwy, aJ cA 656 (fun j => lZ (Wy j))), (msm, aJ cA 41 (fun j => lZ ((cpS Wy (mNr Re Wy Su Sm i).1 i 41) j)))] H := by rw [q9]; exact hP
                have hD : va_D A [(mo, .inr (6, [.int (nI mth), .int (zB dir), .int (nI nv), .int (nI me), .ref mf, .ref mt, .ref mw, .ref mr, .int (nI mrn), .ref mp, .int (nI mst), .int (zB mhr), .ref mx, .ref mfa, .ref mbi, .ref mod1, .int (nI mon), .ref msc, .ref msb, .ref msu, .ref mwy, .ref mre, .ref mby, .ref msm, .ref mle, .ref mgr])), (msu, aI cA 16 (fun j => iZ (Su j))), (mre, aZ cA 16 (fun j => zB (Re j))), (mwy, aJ cA 656 (fun j => lZ (Wy j))), (msm, aJ cA 41 (fun j => lZ ((cpS Wy (mNr Re Wy Su Sm i).1 i 41) j)))] := by rw [q9]; exact hD
                refine lv_iload_n hx hb dX6_nearest_55 rfl (lv_at hl 1 rfl) ?_
                refine z_ilt hx hb (x := (mNr Re Wy Su Sm i).2) (⟨by have := mNr_rng Re Wy Su Sm i; omega, by have := mNr_rng Re Wy Su Sm i; omega⟩) (tgt := 67) dX6_nearest_56 (by decide) (fun h56 => ?_) (fun h56 => ?_)
                · skip
                  refine lv_iload_n hx hb dX6_nearest_67 rfl (lv_at hl 2 rfl) ?_
                  refine z_topi (v := iZ ((i : Nat) : Int)) (rfl) ?_
                  refine lv_istore_n (lv' := [(1, .int (iZ ((i : Nat) : Int))), (0, .ref mo), (2, .int (nI i)), (3, .int (nI k))]) hx hb dX6_nearest_68 rfl hl (by decide) rfl (fun ls hl => ?_)
                  have hl : lv_has ls 4 [(1, .int (iZ ((mNr Re Wy Su Sm (i + 1)).2))), (0, .ref mo), (2, .int (nI i)), (3, .int (nI k))] := by
                    have q9 : iZ ((mNr Re Wy Su Sm (i + 1)).2) = iZ ((i : Nat) : Int) := by congr 1; first | rw [mNr_k (by omega)] | rw [mNr_b (by omega) (Or.inl (by omega))] | rw [mNr_b (by omega) (Or.inr h64)] | rw [mNr_n (by omega) (by omega) h64]
                    rw [q9]; exact hl
                  have q9 : (fun j => lZ (((mNr Re Wy Su Sm (i + 1)).1) j)) = (fun j => lZ ((cpS Wy (mNr Re Wy Su Sm i).1 i 41) j)) := by first | rw [mNr_k (by omega)] | rw [mNr_b (by omega) (Or.inl (by omega))] | rw [mNr_b (by omega) (Or.inr h64)] | rw [mNr_n (by omega) (by omega) h64]
                  have hP : va_P D vwCl [(mo, .inr (6, [.int (nI mth), .int (zB dir), .int (nI nv), .int (nI me), .ref mf, .ref mt, .ref mw, .ref mr, .int (nI mrn), .ref mp, .int (nI mst), .int (zB mhr), .ref mx, .ref mfa, .ref mbi, .ref mod1, .int (nI mon), .ref msc, .ref msb, .ref msu, .ref mwy, .ref mre, .ref mby, .ref msm, .ref mle, .ref mgr])), (msu, aI cA 16 (fun j => iZ (Su j))), (mre, aZ cA 16 (fun j => zB (Re j))), (mwy, aJ cA 656 (fun j => lZ (Wy j))), (msm, aJ cA 41 (fun j => lZ (((mNr Re Wy Su Sm (i + 1)).1) j)))] H := by rw [q9]; exact hP
                  have hD : va_D A [(mo, .inr (6, [.int (nI mth), .int (zB dir), .int (nI nv), .int (nI me), .ref mf, .ref mt, .ref mw, .ref mr, .int (nI mrn), .ref mp, .int (nI mst), .int (zB mhr), .ref mx, .ref mfa, .ref mbi, .ref mod1, .int (nI mon), .ref msc, .ref msb, .ref msu, .ref mwy, .ref mre, .ref mby, .ref msm, .ref mle, .ref mgr])), (msu, aI cA 16 (fun j => iZ (Su j))), (mre, aZ cA 16 (fun j => zB (Re j))), (mwy, aJ cA 656 (fun j => lZ (Wy j))), (msm, aJ cA 41 (fun j => lZ (((mNr Re Wy Su Sm (i + 1)).1) j)))] := by rw [q9]; exact hD
                  refine lv_iinc (v := nI (i + 1)) (lv' := [(2, .int (nI (i + 1))), (1, .int (iZ ((mNr Re Wy Su Sm (i + 1)).2))), (0, .ref mo), (3, .int (nI k))]) hx hb dX6_nearest_69 hl (k := 2) rfl (nI_1 i) (by decide) rfl (fun ls hl => ?_)
                  refine lv_goto (tgt := 4) hx hb dX6_nearest_72 (by decide) ?_
                  exact ih4 (i + 1) (by omega) (by omega) _ _ (hP) (hD) hS ls (lv_sub hl [2, 1, 0] (by rfl))
                · skip
                  refine lv_aload_n hx hb dX6_nearest_59 rfl (lv_at hl 0 rfl) ?_
                  refine lv_iload_n hx hb dX6_nearest_60 rfl (lv_at hl 1 rfl) ?_
                  refine z_topi (v := nI ((mNr Re Wy Su Sm i).2.toNat)) (iZ_toNat (by omega)) ?_
                  refine z_cRVi (wc := [(mo, .inr (6, [.int (nI mth), .int (zB dir), .int (nI nv), .int (nI me), .ref mf, .ref mt, .ref mw, .ref mr, .int (nI mrn), .ref mp, .int (nI mst), .int (zB mhr), .ref mx, .ref mfa, .ref mbi, .ref mod1, .int (nI mon), .ref msc, .ref msb, .ref msu, .ref mwy, .ref mre, .ref mby, .ref msm, .ref mle, .ref mgr])), (mre, aZ cA 16 (fun j => zB (Re j))), (mwy, aJ cA 656 (fun j => lZ (Wy j))), (msm, aJ cA 41 (fun j => lZ ((cpS Wy (mNr Re Wy Su Sm i).1 i 41) j)))]) (rm := ({ frames := 0, cells := 0, slots := 0, locals := 0 } : Room)) (As := [.int (nI ((mNr Re Wy Su Sm i).2.toNat))]) (rest := []) ⟨hx, hb, hml, hown, hts⟩ (c_X6_isSumLess l D cA mo mf mt mw mr mp mx mfa mbi mod1 msc msb msu mwy mre mby msm mle mgr mth dir nv me mrn mst mhr mon Re Wy (cpS Wy (mNr Re Wy Su Sm i).1 i 41) ((mNr Re Wy Su Sm i).2.toNat) (by have := mNr_rng Re Wy Su Sm i; omega) (by first | assumption | omega) (cpS_R hWy (mNr_R hWy hSm i) i 41)) (cwV 1 hts gX6_nearest_X6_isSumLess rfl rfl rfl (by decide +kernel) ⟨Nat.le_of_ble_eq_true rfl, Nat.le_of_ble_eq_true rfl⟩) hP hK [0, 2, 3, 4] rfl 6 0 rfl rfl rfl hl.1 rfl (Nat.le_of_ble_eq_true rfl) ⟨Nat.zero_le _, Nat.zero_le _⟩ dX6_nearest_61 (fun r hr61 => ?_)
                  subst hr61
                  refine z_ifeq hx hb (tgt := 69) dX6_nearest_64 (by decide) (fun h64 => ?_) (fun h64 => ?_)
                  · skip
                    have hl : lv_has ls 4 [(0, .ref mo), (1, .int (iZ ((mNr Re Wy Su Sm (i + 1)).2))), (2, .int (nI i)), (3, .int (nI k))] := by
                      have q9 : iZ ((mNr Re Wy Su Sm (i + 1)).2) = iZ ((mNr Re Wy Su Sm i).2) := by congr 1; first | rw [mNr_k (by omega)] | rw [mNr_b (by omega) (Or.inl (by omega))] | rw [mNr_b (by omega) (Or.inr h64)] | rw [mNr_n (by omega) (by omega) h64]
                      rw [q9]; exact hl
                    have q9 : (fun j => lZ (((mNr Re Wy Su Sm (i + 1)).1) j)) = (fun j => lZ ((cpS Wy (mNr Re Wy Su Sm i).1 i 41) j)) := by first | rw [mNr_k (by omega)] | rw [mNr_b (by omega) (Or.inl (by omega))] | rw [mNr_b (by omega) (Or.inr h64)] | rw [mNr_n (by omega) (by omega) h64]
                    have hP : va_P D vwCl [(mo, .inr (6, [.int (nI mth), .int (zB dir), .int (nI nv), .int (nI me), .ref mf, .ref mt, .ref mw, .ref mr, .int (nI mrn), .ref mp, .int (nI mst), .int (zB mhr), .ref mx, .ref mfa, .ref mbi, .ref mod1, .int (nI mon), .ref msc, .ref msb, .ref msu, .ref mwy, .ref mre, .ref mby, .ref msm, .ref mle, .ref mgr])), (msu, aI cA 16 (fun j => iZ (Su j))), (mre, aZ cA 16 (fun j => zB (Re j))), (mwy, aJ cA 656 (fun j => lZ (Wy j))), (msm, aJ cA 41 (fun j => lZ (((mNr Re Wy Su Sm (i + 1)).1) j)))] H := by rw [q9]; exact hP
                    have hD : va_D A [(mo, .inr (6, [.int (nI mth), .int (zB dir), .int (nI nv), .int (nI me), .ref mf, .ref mt, .ref mw, .ref mr, .int (nI mrn), .ref mp, .int (nI mst), .int (zB mhr), .ref mx, .ref mfa, .ref mbi, .ref mod1, .int (nI mon), .ref msc, .ref msb, .ref msu, .ref mwy, .ref mre, .ref mby, .ref msm, .ref mle, .ref mgr])), (msu, aI cA 16 (fun j => iZ (Su j))), (mre, aZ cA 16 (fun j => zB (Re j))), (mwy, aJ cA 656 (fun j => lZ (Wy j))), (msm, aJ cA 41 (fun j => lZ (((mNr Re Wy Su Sm (i + 1)).1) j)))] := by rw [q9]; exact hD
                    refine lv_iinc (v := nI (i + 1)) (lv' := [(2, .int (nI (i + 1))), (0, .ref mo), (1, .int (iZ ((mNr Re Wy Su Sm (i + 1)).2))), (3, .int (nI k))]) hx hb dX6_nearest_69 hl (k := 2) rfl (nI_1 i) (by decide) rfl (fun ls hl => ?_)
                    refine lv_goto (tgt := 4) hx hb dX6_nearest_72 (by decide) ?_
                    exact ih4 (i + 1) (by omega) (by omega) _ _ (hP) (hD) hS ls (lv_sub hl [1, 2, 0] (by rfl))
                  · skip
                    refine lv_iload_n hx hb dX6_nearest_67 rfl (lv_at hl 2 rfl) ?_
                    refine z_topi (v := iZ ((i : Nat) : Int)) (rfl) ?_
                    refine lv_istore_n (lv' := [(1, .int (iZ ((i : Nat) : Int))), (0, .ref mo), (2, .int (nI i)), (3, .int (nI k))]) hx hb dX6_nearest_68 rfl hl (by decide) rfl (fun ls hl => ?_)
                    have hl : lv_has ls 4 [(1, .int (iZ ((mNr Re Wy Su Sm (i + 1)).2))), (0, .ref mo), (2, .int (nI i)), (3, .int (nI k))] := by
                      have q9 : iZ ((mNr Re Wy Su Sm (i + 1)).2) = iZ ((i : Nat) : Int) := by congr 1; first | rw [mNr_k (by omega)] | rw [mNr_b (by omega) (Or.inl (by omega))] | rw [mNr_b (by omega) (Or.inr h64)] | rw [mNr_n (by omega) (by omega) h64]
                      rw [q9]; exact hl
                    have q9 : (fun j => lZ (((mNr Re Wy Su Sm (i + 1)).1) j)) = (fun j => lZ ((cpS Wy (mNr Re Wy Su Sm i).1 i 41) j)) := by first | rw [mNr_k (by omega)] | rw [mNr_b (by omega) (Or.inl (by omega))] | rw [mNr_b (by omega) (Or.inr h64)] | rw [mNr_n (by omega) (by omega) h64]
                    have hP : va_P D vwCl [(mo, .inr (6, [.int (nI mth), .int (zB dir), .int (nI nv), .int (nI me), .ref mf, .ref mt, .ref mw, .ref mr, .int (nI mrn), .ref mp, .int (nI mst), .int (zB mhr), .ref mx, .ref mfa, .ref mbi, .ref mod1, .int (nI mon), .ref msc, .ref msb, .ref msu, .ref mwy, .ref mre, .ref mby, .ref msm, .ref mle, .ref mgr])), (msu, aI cA 16 (fun j => iZ (Su j))), (mre, aZ cA 16 (fun j => zB (Re j))), (mwy, aJ cA 656 (fun j => lZ (Wy j))), (msm, aJ cA 41 (fun j => lZ (((mNr Re Wy Su Sm (i + 1)).1) j)))] H := by rw [q9]; exact hP
                    have hD : va_D A [(mo, .inr (6, [.int (nI mth), .int (zB dir), .int (nI nv), .int (nI me), .ref mf, .ref mt, .ref mw, .ref mr, .int (nI mrn), .ref mp, .int (nI mst), .int (zB mhr), .ref mx, .ref mfa, .ref mbi, .ref mod1, .int (nI mon), .ref msc, .ref msb, .ref msu, .ref mwy, .ref mre, .ref mby, .ref msm, .ref mle, .ref mgr])), (msu, aI cA 16 (fun j => iZ (Su j))), (mre, aZ cA 16 (fun j => zB (Re j))), (mwy, aJ cA 656 (fun j => lZ (Wy j))), (msm, aJ cA 41 (fun j => lZ (((mNr Re Wy Su Sm (i + 1)).1) j)))] := by rw [q9]; exact hD
                    refine lv_iinc (v := nI (i + 1)) (lv' := [(2, .int (nI (i + 1))), (1, .int (iZ ((mNr Re Wy Su Sm (i + 1)).2))), (0, .ref mo), (3, .int (nI k))]) hx hb dX6_nearest_69 hl (k := 2) rfl (nI_1 i) (by decide) rfl (fun ls hl => ?_)
                    refine lv_goto (tgt := 4) hx hb dX6_nearest_72 (by decide) ?_
                    exact ih4 (i + 1) (by omega) (by omega) _ _ (hP) (hD) hS ls (lv_sub hl [2, 1, 0] (by rfl))
              · skip
                refine lv_aload_n hx hb dX6_nearest_32 rfl (lv_at hl 0 rfl) ?_
                refine va_get (D := D) (ci := 6) (v := .ref msm) (C := RX6) (T := TX6) (N := 26) hx hb hts hin6 hown hK hP 0 rfl rfl 23 (by decide) (hts (.fieldLink RX6 62 "TourHouseModel" "sum" "[J") (by decide +kernel)) (fun _ h9 => h9) rfl dX6_nearest_33 ?_
                refine lv_iload_n hx hb dX6_nearest_36 rfl (lv_at hl 3 rfl) ?_
                refine lv_aload_n hx hb dX6_nearest_37 rfl (lv_at hl 0 rfl) ?_
                refine va_get (D := D) (ci := 6) (v := .ref mwy) (C := RX6) (T := TX6) (N := 26) hx hb hts hin6 hown hK hP 0 rfl rfl 20 (by decide) (hts (.fieldLink RX6 52 "TourHouseModel" "ways" "[J") (by decide +kernel)) (fun _ h9 => h9) rfl dX6_nearest_38 ?_
                refine lv_bipush (v := nI 41) hx hb dX6_nearest_41 (by decide) ?_
                refine lv_iload_n hx hb dX6_nearest_43 rfl (lv_at hl 2 rfl) ?_
                refine lv_imul hx hb dX6_nearest_44 ?_
                refine z_topi (v := nI (41 * i)) (pk_mul 41 i) ?_
                refine lv_iload_n hx hb dX6_nearest_45 rfl (lv_at hl 3 rfl) ?_
                refine lv_iadd hx hb dX6_nearest_46 ?_
                refine z_topi (v := nI ((41 * i) + k)) (nI_add (41 * i) k) ?_
                refine z_lald hx hb hK hP 3 1 rfl rfl (k := ((41 * i) + k)) (by omega) (by decide) (v := lZ (Wy ((41 * i) + k))) rfl dX6_nearest_47 ?_
                refine z_last hx hb hK hP hD hS 4 1 rfl rfl (k := k) (by omega) (by decide) (f' := (fun j => lZ ((cpS Wy (mNr Re Wy Su Sm i).1 i (k + 1)) j))) ((updL_lZ (cpS Wy (mNr Re Wy Su Sm i).1 i k) k (Wy ((41 * i) + k))).trans (by rw [cpS_up])) (ws' := [(mo, .inr (6, [.int (nI mth), .int (zB dir), .int (nI nv), .int (nI me), .ref mf, .ref mt, .ref mw, .ref mr, .int (nI mrn), .ref mp, .int (nI mst), .int (zB mhr), .ref mx, .ref mfa, .ref mbi, .ref mod1, .int (nI mon), .ref msc, .ref msb, .ref msu, .ref mwy, .ref mre, .ref mby, .ref msm, .ref mle, .ref mgr])), (msu, aI cA 16 (fun j => iZ (Su j))), (mre, aZ cA 16 (fun j => zB (Re j))), (mwy, aJ cA 656 (fun j => lZ (Wy j))), (msm, aJ cA 41 (fun j => lZ ((cpS Wy (mNr Re Wy Su Sm i).1 i (k + 1)) j)))]) rfl dX6_nearest_48 (fun H locs hP hD hS => ?_)
                refine lv_iinc (v := nI (k + 1)) (lv' := [(3, .int (nI (k + 1))), (0, .ref mo), (1, .int (iZ ((mNr Re Wy Su Sm i).2))), (2, .int (nI i))]) hx hb dX6_nearest_49 hl (k := 3) rfl (nI_1 k) (by decide) rfl (fun ls hl => ?_)
                refine lv_goto (tgt := 26) hx hb dX6_nearest_52 (by decide) ?_
                exact ih26 (k + 1) (by omega) (by omega) _ _ (hP) (hD) hS ls (lv_sub hl [1, 2, 3, 0] (by rfl))
          exact J26 ((41 - 0) + 1) 0 (by omega) (by omega) _ _ (by rw [cpS_0]; exact hP) (by rw [cpS_0]; exact hD) hS ls (lv_sub hl [1, 2, 3, 0] (by rfl))
        · skip
          refine lv_goto (tgt := 69) hx hb dX6_nearest_21 (by decide) ?_
          have hl : lv_has ls 4 [(0, .ref mo), (1, .int (iZ ((mNr Re Wy Su Sm (i + 1)).2))), (2, .int (nI i))] := by
            have q9 : iZ ((mNr Re Wy Su Sm (i + 1)).2) = iZ ((mNr Re Wy Su Sm i).2) := by congr 1; first | rw [mNr_k (by omega)] | rw [mNr_b (by omega) (Or.inl (by omega))] | rw [mNr_b (by omega) (Or.inr h64)] | rw [mNr_n (by omega) (by omega) h64]
            rw [q9]; exact hl
          have q9 : (fun j => lZ (((mNr Re Wy Su Sm (i + 1)).1) j)) = (fun j => lZ (((mNr Re Wy Su Sm i).1) j)) := by first | rw [mNr_k (by omega)] | rw [mNr_b (by omega) (Or.inl (by omega))] | rw [mNr_b (by omega) (Or.inr h64)] | rw [mNr_n (by omega) (by omega) h64]
          have hP : va_P D vwCl [(mo, .inr (6, [.int (nI mth), .int (zB dir), .int (nI nv), .int (nI me), .ref mf, .ref mt, .ref mw, .ref mr, .int (nI mrn), .ref mp, .int (nI mst), .int (zB mhr), .ref mx, .ref mfa, .ref mbi, .ref mod1, .int (nI mon), .ref msc, .ref msb, .ref msu, .ref mwy, .ref mre, .ref mby, .ref msm, .ref mle, .ref mgr])), (msu, aI cA 16 (fun j => iZ (Su j))), (mre, aZ cA 16 (fun j => zB (Re j))), (mwy, aJ cA 656 (fun j => lZ (Wy j))), (msm, aJ cA 41 (fun j => lZ (((mNr Re Wy Su Sm (i + 1)).1) j)))] H := by rw [q9]; exact hP
          have hD : va_D A [(mo, .inr (6, [.int (nI mth), .int (zB dir), .int (nI nv), .int (nI me), .ref mf, .ref mt, .ref mw, .ref mr, .int (nI mrn), .ref mp, .int (nI mst), .int (zB mhr), .ref mx, .ref mfa, .ref mbi, .ref mod1, .int (nI mon), .ref msc, .ref msb, .ref msu, .ref mwy, .ref mre, .ref mby, .ref msm, .ref mle, .ref mgr])), (msu, aI cA 16 (fun j => iZ (Su j))), (mre, aZ cA 16 (fun j => zB (Re j))), (mwy, aJ cA 656 (fun j => lZ (Wy j))), (msm, aJ cA 41 (fun j => lZ (((mNr Re Wy Su Sm (i + 1)).1) j)))] := by rw [q9]; exact hD
          refine lv_iinc (v := nI (i + 1)) (lv' := [(2, .int (nI (i + 1))), (0, .ref mo), (1, .int (iZ ((mNr Re Wy Su Sm (i + 1)).2)))]) hx hb dX6_nearest_69 hl (k := 2) rfl (nI_1 i) (by decide) rfl (fun ls hl => ?_)
          refine lv_goto (tgt := 4) hx hb dX6_nearest_72 (by decide) ?_
          exact ih4 (i + 1) (by omega) (by omega) _ _ (hP) (hD) hS ls (lv_sub hl [1, 2, 0] (by rfl))
  exact J4 ((nv - 0) + 1) 0 (by omega) (by omega) _ _ (hP) (hD) hS ls (lv_sub hl [2, 1, 0] (by rfl))
