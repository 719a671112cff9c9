/-- how many of the first k edges come to v, less how many go from it -/
def gSur (Fr To : Nat → Nat) (v : Nat) : Nat → Int
  | 0 => 0
  | k + 1 => gSur Fr To v k + ((if To k = v then 1 else 0) - (if Fr k = v then 1 else 0))
theorem gSur_rng (Fr To : Nat → Nat) (v : Nat) : ∀ k : Nat, -(k : Int) ≤ gSur Fr To v k ∧ gSur Fr To v k ≤ k
  | 0 => by simp [gSur]
  | k + 1 => by
    have h := gSur_rng Fr To v k
    simp only [gSur]
    split <;> split <;> omega
/-- whether z is a step from a -/
def gStep (dir : Bool) (Fr To : Nat → Nat) (me : Nat) (z : Int) (a : Nat) : Bool :=
  if z / 2 < 0 ∨ (me : Int) ≤ z / 2 then false
  else if z % 2 = 0 then decide (Fr (z / 2).toNat = a)
  else !dir && (decide (Fr (z / 2).toNat ≠ To (z / 2).toNat) && decide (To (z / 2).toNat = a))
def gEnd (Fr To : Nat → Nat) (z : Int) : Nat := if z % 2 = 0 then To (z / 2).toNat else Fr (z / 2).toNat
def gIsOdd (dir : Bool) (Fr To : Nat → Nat) (me v : Nat) : Bool := if dir = true then decide (gSur Fr To v me ≠ 0) else decide ((gSur Fr To v me % 2).toNat = 1)
/-- the odd ones of the first k vertices, as bits -/
def gOddM (dir : Bool) (Fr To : Nat → Nat) (me : Nat) : Nat → Nat
  | 0 => 0
  | k + 1 => if gIsOdd dir Fr To me k = true then gOddM dir Fr To me k ||| 2 ^ k else gOddM dir Fr To me k
/-- the vertices of the first k edges that have uses, as bits -/
def gTouch (Fr To : Nat → Nat) (U : Nat → Int) : Nat → Nat
  | 0 => 0
  | k + 1 => if 0 < U k then gTouch Fr To U k ||| (2 ^ Fr k ||| 2 ^ To k) else gTouch Fr To U k
def gRa (al : Bool) (Fr To : Nat → Nat) (r k : Nat) : Nat := if al = true ∧ r / 2 ^ Fr k % 2 = 1 then r ||| 2 ^ To k else r
def gRb (ag : Bool) (Fr To : Nat → Nat) (r k : Nat) : Nat := if ag = true ∧ r / 2 ^ To k % 2 = 1 then r ||| 2 ^ Fr k else r
def gR1 (al ag : Bool) (Fr To : Nat → Nat) (U : Nat → Int) (r k : Nat) : Nat := if 0 < U k then gRb ag Fr To (gRa al Fr To r k) k else r
/-- one pass over the first k edges -/
def gRP (al ag : Bool) (Fr To : Nat → Nat) (U : Nat → Int) (r : Nat) : Nat → Nat
  | 0 => r
  | k + 1 => gR1 al ag Fr To U (gRP al ag Fr To U r k) k
/-- n passes, or fewer when nothing changes -/
def gRL (al ag : Bool) (Fr To : Nat → Nat) (U : Nat → Int) (me : Nat) : Nat → Nat → Nat
  | 0, r => r
  | n + 1, r => if gRP al ag Fr To U r me = r then r else gRL al ag Fr To U me n (gRP al ag Fr To U r me)
section
variable {al ag : Bool} {Fr To : Nat → Nat} {U : Nat → Int}
theorem gRa_lt (hF : ∀ j, Fr j < 16) (hT : ∀ j, To j < 16) {r : Nat} (h : r < 65536) (k : Nat) : gRa al Fr To r k < 65536 := by
  unfold gRa; split
  · exact nb_lt h (nb_p2 (hT k))
  · exact h
theorem gRb_lt (hF : ∀ j, Fr j < 16) (hT : ∀ j, To j < 16) {r : Nat} (h : r < 65536) (k : Nat) : gRb ag Fr To r k < 65536 := by
  unfold gRb; split
  · exact nb_lt h (nb_p2 (hF k))
  · exact h
theorem gRP_lt (hF : ∀ j, Fr j < 16) (hT : ∀ j, To j < 16) {r : Nat} (h : r < 65536) : ∀ k, gRP al ag Fr To U r k < 65536
  | 0 => h
  | k + 1 => by
    have := gRP_lt hF hT h k
    simp only [gRP, gR1]; split
    · exact gRb_lt hF hT (gRa_lt hF hT this k) k
    · exact this
theorem gTouch_lt (hF : ∀ j, Fr j < 16) (hT : ∀ j, To j < 16) : ∀ k, gTouch Fr To U k < 65536
  | 0 => by simp [gTouch]
  | k + 1 => by
    have := gTouch_lt hF hT k
    simp only [gTouch]; split
    · exact nb_lt this (nb_lt (nb_p2 (hF k)) (nb_p2 (hT k)))
    · exact this
theorem gRL_lt (hF : ∀ j, Fr j < 16) (hT : ∀ j, To j < 16) {me : Nat} : ∀ (n : Nat) {r : Nat}, r < 65536 → gRL al ag Fr To U me n r < 65536
  | 0, _, h => h
  | n + 1, r, h => by
    simp only [gRL]; split
    · exact h
    · exact gRL_lt hF hT n (gRP_lt hF hT h me)
end
set_option maxHeartbeats 4000000 in
set_option maxRecDepth 100000 in
/-- Graph.surplusAt -/
theorem c_X2_surplusAt (l : Launch) (D : va_G) (cA : Nat → ClassId) (g : Nat) (gf : Nat) (gt : Nat) (gw : Nat) (Fr : Nat → Nat) (To : Nat → Nat) (dir : Bool) (nv : Nat) (me : Nat) (v : Nat) (hme : me ≤ 40) (hF : ∀ j, Fr j < 16) (hT : ∀ j, To j < 16) (hv : v < 2 ^ 31) : Met l yX2_surplusAt wsX2_surplusAt ({ frames := 0, cells := 0, slots := 0, locals := 0 } : Room) (zRd D vwCl (zT cA) [(g, .inr (2, [.ref gf, .ref gt, .ref gw, .int (zB dir), .int (nI nv), .int (nI me)])), (gf, aI cA 40 (fun j => nI (Fr j))), (gt, aI cA 40 (fun j => nI (To j)))] [.ref g, .int (nI v)]) (vp_Si (fun r => r = iZ (gSur Fr To v me))) 0 0 (fun _ => False) := by
  refine z_read (cc := cX2_surplusAt) (maxL := 4) (ret := (some .int)) (by decide) rfl (Nat.le_of_ble_eq_true rfl) ?_
  intro p e s m below meth c hx hb hr hml hown hts hlocks hP hK Q hQ ls hl
  have hown : s.vm.findClass RX2 = some m.cls := hown
  have hl : lv_has ls 4 [(0, .ref g), (1, .int (nI v))] := hl
  generalize hav : ([.ref g, .int (nI v)] : List Value).toArray = args at hts hQ ⊢
  have hin2 : ∀ w ∈ wsX20, w ∈ wsX2_surplusAt := by decide +kernel
  refine lv_iconst (v := iZ (gSur Fr To v 0)) hx hb dX2_surplusAt_0 (by rfl) ?_
  refine lv_istore_n (lv' := [(2, .int (iZ (gSur Fr To v 0))), (0, .ref g), (1, .int (nI v))]) hx hb dX2_surplusAt_1 rfl hl (by decide) rfl (fun ls hl => ?_)
  refine lv_iconst (v := nI 0) hx hb dX2_surplusAt_2 (by decide) ?_
  refine lv_istore_n (lv' := [(3, .int (nI 0)), (2, .int (iZ (gSur Fr To v 0))), (0, .ref g), (1, .int (nI v))]) hx hb dX2_surplusAt_3 rfl hl (by decide) rfl (fun ls hl => ?_)
  have J4 : ∀ (n : Nat), ∀ (i : Nat), (i ≤ me) → me - i < n → ∀ (ls : Array Slot), lv_has ls 4 [(0, .ref g), (1, .int (nI v)), (2, .int (iZ (gSur Fr To v i))), (3, .int (nI i))] → W p l e ({ frames := 0, cells := 0, slots := 0, locals := 0 } : Room) s m args below meth c s.heap [] 0 0 Q (F0 m 4 ls []) := by
    intro n4
    induction n4 with
    | zero => intro i hi hn; exact absurd hn (Nat.not_lt_zero _)
    | succ n4 ih4 =>
      intro i hi hn4 ls hl
      refine lv_iload_n hx hb dX2_surplusAt_4 rfl (lv_at hl 3 rfl) ?_
      refine lv_aload_n hx hb dX2_surplusAt_5 rfl (lv_at hl 0 rfl) ?_
      refine va_get (D := D) (ci := 2) (v := .int (nI me)) (C := RX2) (T := TX2) (N := 6) hx hb hts hin2 hown hK hP 0 rfl rfl 5 (by decide) (hts (.fieldLink RX2 29 "TourHouse$Graph" "edges" "I") (by decide +kernel)) (fun _ h9 => h9) rfl dX2_surplusAt_6 ?_
      refine z_ge hx hb (by omega) (by omega) (tgt := 52) dX2_surplusAt_9 (by decide) (fun h9 => ?_) (fun h9 => ?_)
      · skip
        refine lv_iload_n hx hb dX2_surplusAt_52 rfl (lv_at hl 2 rfl) ?_
        exact z_iretR hx hb hr hlocks hQ (by rw [show i = me from by omega]) dX2_surplusAt_53 rfl rfl
      · skip
        refine lv_iload_n hx hb dX2_surplusAt_12 rfl (lv_at hl 2 rfl) ?_
        refine lv_aload_n hx hb dX2_surplusAt_13 rfl (lv_at hl 0 rfl) ?_
        refine va_get (D := D) (ci := 2) (v := .ref gt) (C := RX2) (T := TX2) (N := 6) hx hb hts hin2 hown hK hP 0 rfl rfl 1 (by decide) (hts (.fieldLink RX2 15 "TourHouse$Graph" "to" "[I") (by decide +kernel)) (fun _ h9 => h9) rfl dX2_surplusAt_14 ?_
        refine lv_iload_n hx hb dX2_surplusAt_17 rfl (lv_at hl 3 rfl) ?_
        refine z_iald hx hb hK hP 2 0 rfl rfl (k := i) (by omega) (by decide) (v := nI (To i)) rfl dX2_surplusAt_18 ?_
        refine lv_iload_n hx hb dX2_surplusAt_19 rfl (lv_at hl 1 rfl) ?_
        refine z_ne hx hb (Nat.lt_trans (hT _) (by decide)) (by omega) (tgt := 27) dX2_surplusAt_20 (by decide) (fun h20 => ?_) (fun h20 => ?_)
        · skip
          refine lv_iconst (v := nI 0) hx hb dX2_surplusAt_27 (by decide) ?_
          refine lv_aload_n hx hb dX2_surplusAt_28 rfl (lv_at hl 0 rfl) ?_
          refine va_get (D := D) (ci := 2) (v := .ref gf) (C := RX2) (T := TX2) (N := 6) hx hb hts hin2 hown hK hP 0 rfl rfl 0 (by decide) (hts (.fieldLink RX2 9 "TourHouse$Graph" "from" "[I") (by decide +kernel)) (fun _ h9 => h9) rfl dX2_surplusAt_29 ?_
          refine lv_iload_n hx hb dX2_surplusAt_32 rfl (lv_at hl 3 rfl) ?_
          refine z_iald hx hb hK hP 1 0 rfl rfl (k := i) (by omega) (by decide) (v := nI (Fr i)) rfl dX2_surplusAt_33 ?_
          refine lv_iload_n hx hb dX2_surplusAt_34 rfl (lv_at hl 1 rfl) ?_
          refine z_ne hx hb (Nat.lt_trans (hF _) (by decide)) (by omega) (tgt := 42) dX2_surplusAt_35 (by decide) (fun h35 => ?_) (fun h35 => ?_)
          · skip
            refine lv_iconst (v := nI 0) hx hb dX2_surplusAt_42 (by decide) ?_
            refine lv_isub hx hb dX2_surplusAt_43 ?_
            refine z_topi (v := iZ (0 - 0)) (iZ_sub 0 0) ?_
            refine lv_iadd hx hb dX2_surplusAt_44 ?_
            refine z_topi (v := iZ (gSur Fr To v (i + 1))) (by rw [iZ_add]; congr 1; simp [gSur, h20, h35]) ?_
            refine lv_istore_n (lv' := [(2, .int (iZ (gSur Fr To v (i + 1)))), (0, .ref g), (1, .int (nI v)), (3, .int (nI i))]) hx hb dX2_surplusAt_45 rfl hl (by decide) rfl (fun ls hl => ?_)
            refine lv_iinc (v := nI (i + 1)) (lv' := [(3, .int (nI (i + 1))), (2, .int (iZ (gSur Fr To v (i + 1)))), (0, .ref g), (1, .int (nI v))]) hx hb dX2_surplusAt_46 hl (k := 3) rfl (nI_1 i) (by decide) rfl (fun ls hl => ?_)
            refine lv_goto (tgt := 4) hx hb dX2_surplusAt_49 (by decide) ?_
            exact ih4 (i + 1) (by omega) (by omega) ls (lv_sub hl [2, 3, 1, 0] (by rfl))
          · skip
            refine lv_iconst (v := nI 1) hx hb dX2_surplusAt_38 (by decide) ?_
            refine lv_goto (tgt := 43) hx hb dX2_surplusAt_39 (by decide) ?_
            refine lv_isub hx hb dX2_surplusAt_43 ?_
            refine z_topi (v := iZ (0 - 1)) (iZ_sub 0 1) ?_
            refine lv_iadd hx hb dX2_surplusAt_44 ?_
            refine z_topi (v := iZ (gSur Fr To v (i + 1))) (by rw [iZ_add]; congr 1; simp [gSur, h20, h35]) ?_
            refine lv_istore_n (lv' := [(2, .int (iZ (gSur Fr To v (i + 1)))), (0, .ref g), (1, .int (nI v)), (3, .int (nI i))]) hx hb dX2_surplusAt_45 rfl hl (by decide) rfl (fun ls hl => ?_)
            refine lv_iinc (v := nI (i + 1)) (lv' := [(3, .int (nI (i + 1))), (2, .int (iZ (gSur Fr To v (i + 1)))), (0, .ref g), (1, .int (nI v))]) hx hb dX2_surplusAt_46 hl (k := 3) rfl (nI_1 i) (by decide) rfl (fun ls hl => ?_)
            refine lv_goto (tgt := 4) hx hb dX2_surplusAt_49 (by decide) ?_
            exact ih4 (i + 1) (by omega) (by omega) ls (lv_sub hl [2, 3, 1, 0] (by rfl))
        · skip
          refine lv_iconst (v := nI 1) hx hb dX2_surplusAt_23 (by decide) ?_
          refine lv_goto (tgt := 28) hx hb dX2_surplusAt_24 (by decide) ?_
          refine lv_aload_n hx hb dX2_surplusAt_28 rfl (lv_at hl 0 rfl) ?_
          refine va_get (D := D) (ci := 2) (v := .ref gf) (C := RX2) (T := TX2) (N := 6) hx hb hts hin2 hown hK hP 0 rfl rfl 0 (by decide) (hts (.fieldLink RX2 9 "TourHouse$Graph" "from" "[I") (by decide +kernel)) (fun _ h9 => h9) rfl dX2_surplusAt_29 ?_
          refine lv_iload_n hx hb dX2_surplusAt_32 rfl (lv_at hl 3 rfl) ?_
          refine z_iald hx hb hK hP 1 0 rfl rfl (k := i) (by omega) (by decide) (v := nI (Fr i)) rfl dX2_surplusAt_33 ?_
          refine lv_iload_n hx hb dX2_surplusAt_34 rfl (lv_at hl 1 rfl) ?_
          refine z_ne hx hb (Nat.lt_trans (hF _) (by decide)) (by omega) (tgt := 42) dX2_surplusAt_35 (by decide) (fun h35 => ?_) (fun h35 => ?_)
          · skip
            refine lv_iconst (v := nI 0) hx hb dX2_surplusAt_42 (by decide) ?_
            refine lv_isub hx hb dX2_surplusAt_43 ?_
            refine z_topi (v := iZ (1 - 0)) (iZ_sub 1 0) ?_
            refine lv_iadd hx hb dX2_surplusAt_44 ?_
            refine z_topi (v := iZ (gSur Fr To v (i + 1))) (by rw [iZ_add]; congr 1; simp [gSur, h20, h35]) ?_
            refine lv_istore_n (lv' := [(2, .int (iZ (gSur Fr To v (i + 1)))), (0, .ref g), (1, .int (nI v)), (3, .int (nI i))]) hx hb dX2_surplusAt_45 rfl hl (by decide) rfl (fun ls hl => ?_)
            refine lv_iinc (v := nI (i + 1)) (lv' := [(3, .int (nI (i + 1))), (2, .int (iZ (gSur Fr To v (i + 1)))), (0, .ref g), (1, .int (nI v))]) hx hb dX2_surplusAt_46 hl (k := 3) rfl (nI_1 i) (by decide) rfl (fun ls hl => ?_)
            refine lv_goto (tgt := 4) hx hb dX2_surplusAt_49 (by decide) ?_
            exact ih4 (i + 1) (by omega) (by omega) ls (lv_sub hl [2, 3, 1, 0] (by rfl))
          · skip
            refine lv_iconst (v := nI 1) hx hb dX2_surplusAt_38 (by decide) ?_
            refine lv_goto (tgt := 43) hx hb dX2_surplusAt_39 (by decide) ?_
            refine lv_isub hx hb dX2_surplusAt_43 ?_
            refine z_topi (v := iZ (1 - 1)) (iZ_sub 1 1) ?_
            refine lv_iadd hx hb dX2_surplusAt_44 ?_
            refine z_topi (v := iZ (gSur Fr To v (i + 1))) (by rw [iZ_add]; congr 1; simp [gSur, h20, h35]) ?_
            refine lv_istore_n (lv' := [(2, .int (iZ (gSur Fr To v (i + 1)))), (0, .ref g), (1, .int (nI v)), (3, .int (nI i))]) hx hb dX2_surplusAt_45 rfl hl (by decide) rfl (fun ls hl => ?_)
            refine lv_iinc (v := nI (i + 1)) (lv' := [(3, .int (nI (i + 1))), (2, .int (iZ (gSur Fr To v (i + 1)))), (0, .ref g), (1, .int (nI v))]) hx hb dX2_surplusAt_46 hl (k := 3) rfl (nI_1 i) (by decide) rfl (fun ls hl => ?_)
            refine lv_goto (tgt := 4) hx hb dX2_surplusAt_49 (by decide) ?_
            exact ih4 (i + 1) (by omega) (by omega) ls (lv_sub hl [2, 3, 1, 0] (by rfl))
  exact J4 ((me - 0) + 1) 0 (by omega) (by omega) ls (lv_sub hl [2, 3, 1, 0] (by rfl))
set_option maxHeartbeats 4000000 in
set_option maxRecDepth 100000 in
/-- Graph.isStepFrom -/
theorem c_X2_isStepFrom (l : Launch) (D : va_G) (cA : Nat → ClassId) (g : Nat) (gf : Nat) (gt : Nat) (gw : Nat) (Fr : Nat → Nat) (To : Nat → Nat) (dir : Bool) (nv : Nat) (me : Nat) (z : Int) (a : Nat) (hme : me ≤ 40) (hF : ∀ j, Fr j < 16) (hT : ∀ j, To j < 16) (hz : -2147483648 ≤ z ∧ z < 2147483648) (ha : a < 16) : Met l yX2_isStepFrom wsX2_isStepFrom ({ frames := 0, cells := 0, slots := 0, locals := 0 } : Room) (zRd D vwCl (zT cA) [(g, .inr (2, [.ref gf, .ref gt, .ref gw, .int (zB dir), .int (nI nv), .int (nI me)])), (gf, aI cA 40 (fun j => nI (Fr j))), (gt, aI cA 40 (fun j => nI (To j)))] [.ref g, .int (iZ z), .int (nI a)]) (vp_Si (fun r => r = zB (gStep dir Fr To me z a))) 0 0 (fun _ => False) := by
  refine z_read (cc := cX2_isStepFrom) (maxL := 4) (ret := (some .boolean)) (by decide) rfl (Nat.le_of_ble_eq_true rfl) ?_
  intro p e s m below meth c hx hb hr hml hown hts hlocks hP hK Q hQ ls hl
  have hown : s.vm.findClass RX2 = some m.cls := hown
  have hl : lv_has ls 4 [(0, .ref g), (1, .int (iZ z)), (2, .int (nI a))] := hl
  generalize hav : ([.ref g, .int (iZ z), .int (nI a)] : List Value).toArray = args at hts hQ ⊢
  have hin2 : ∀ w ∈ wsX20, w ∈ wsX2_isStepFrom := by decide +kernel
  refine lv_iload_n hx hb dX2_isStepFrom_0 rfl (lv_at hl 1 rfl) ?_
  refine lv_iconst (v := nI 1) hx hb dX2_isStepFrom_1 (by decide) ?_
  refine lv_ishr hx hb dX2_isStepFrom_2 ?_
  refine z_topi (v := iZ (z / 2)) (nb_shr1 (by omega) (by omega)) ?_
  refine lv_istore_n (lv' := [(3, .int (iZ (z / 2))), (0, .ref g), (1, .int (iZ z)), (2, .int (nI a))]) hx hb dX2_isStepFrom_3 rfl hl (by decide) rfl (fun ls hl => ?_)
  refine lv_iload_n hx hb dX2_isStepFrom_4 rfl (lv_at hl 0 rfl) ?_
  refine z_ilt hx hb (x := z / 2) (⟨by omega, by omega⟩) (tgt := 16) dX2_isStepFrom_5 (by decide) (fun h5 => ?_) (fun h5 => ?_)
  · skip
    refine lv_iconst (v := zB false) hx hb dX2_isStepFrom_16 (by decide) ?_
    exact z_zretR hx hb hr hlocks hQ (by rw [gStep, if_pos (by omega)]) dX2_isStepFrom_17 rfl rfl
  · skip
    refine lv_iload_n hx hb dX2_isStepFrom_8 rfl (lv_at hl 0 rfl) ?_
    refine lv_aload_n hx hb dX2_isStepFrom_9 rfl (lv_at hl 1 rfl) ?_
    refine va_get (D := D) (ci := 2) (v := .int (nI me)) (C := RX2) (T := TX2) (N := 6) hx hb hts hin2 hown hK hP 0 rfl rfl 5 (by decide) (hts (.fieldLink RX2 29 "TourHouse$Graph" "edges" "I") (by decide +kernel)) (fun _ h9 => h9) rfl dX2_isStepFrom_10 ?_
    refine z_Ilt hx hb (x := z / 2) (y := ((me : Nat) : Int)) (⟨by omega, by omega⟩) (⟨by omega, by omega⟩) (tgt := 18) dX2_isStepFrom_13 (by decide) (fun h13 => ?_) (fun h13 => ?_)
    · skip
      refine lv_iload_n hx hb dX2_isStepFrom_18 rfl (lv_at hl 2 rfl) ?_
      refine lv_iconst (v := nI 1) hx hb dX2_isStepFrom_19 (by decide) ?_
      refine lv_iand hx hb dX2_isStepFrom_20 ?_
      refine z_topi (v := nI ((z % 2).toNat)) (nb_zand1 z) ?_
      refine z_nne hx hb (by omega) (tgt := 40) dX2_isStepFrom_21 (by decide) (fun h21 => ?_) (fun h21 => ?_)
      · skip
        refine lv_aload_n hx hb dX2_isStepFrom_40 rfl (lv_at hl 1 rfl) ?_
        refine va_get (D := D) (ci := 2) (v := .int (zB dir)) (C := RX2) (T := TX2) (N := 6) hx hb hts hin2 hown hK hP 0 rfl rfl 3 (by decide) (hts (.fieldLink RX2 21 "TourHouse$Graph" "directed" "Z") (by decide +kernel)) (fun _ h9 => h9) rfl dX2_isStepFrom_41 ?_
        refine z_ifne hx hb (tgt := 76) dX2_isStepFrom_44 (by decide) (fun h44 => ?_) (fun h44 => ?_)
        · skip
          refine lv_iconst (v := zB false) hx hb dX2_isStepFrom_76 (by decide) ?_
          exact z_zretR hx hb hr hlocks hQ (by rw [gStep, if_neg (by omega), if_neg (by omega)]; simp_all) dX2_isStepFrom_77 rfl rfl
        · skip
          refine lv_aload_n hx hb dX2_isStepFrom_47 rfl (lv_at hl 1 rfl) ?_
          refine va_get (D := D) (ci := 2) (v := .ref gf) (C := RX2) (T := TX2) (N := 6) hx hb hts hin2 hown hK hP 0 rfl rfl 0 (by decide) (hts (.fieldLink RX2 9 "TourHouse$Graph" "from" "[I") (by decide +kernel)) (fun _ h9 => h9) rfl dX2_isStepFrom_48 ?_
          refine lv_iload_n hx hb dX2_isStepFrom_51 rfl (lv_at hl 0 rfl) ?_
          refine z_topi (v := nI ((z / 2).toNat)) (iZ_toNat (by omega)) ?_
          refine z_iald hx hb hK hP 1 0 rfl rfl (k := ((z / 2).toNat)) (by omega) (by decide) (v := nI (Fr ((z / 2).toNat))) rfl dX2_isStepFrom_52 ?_
          refine lv_aload_n hx hb dX2_isStepFrom_53 rfl (lv_at hl 1 rfl) ?_
          refine va_get (D := D) (ci := 2) (v := .ref gt) (C := RX2) (T := TX2) (N := 6) hx hb hts hin2 hown hK hP 0 rfl rfl 1 (by decide) (hts (.fieldLink RX2 15 "TourHouse$Graph" "to" "[I") (by decide +kernel)) (fun _ h9 => h9) rfl dX2_isStepFrom_54 ?_
          refine lv_iload_n hx hb dX2_isStepFrom_57 rfl (lv_at hl 0 rfl) ?_
          refine z_topi (v := nI ((z / 2).toNat)) (iZ_toNat (by omega)) ?_
          refine z_iald hx hb hK hP 2 0 rfl rfl (k := ((z / 2).toNat)) (by omega) (by decide) (v := nI (To ((z / 2).toNat))) rfl dX2_isStepFrom_58 ?_
          refine z_eq hx hb (Nat.lt_trans (hF _) (by decide)) (Nat.lt_trans (hT _) (by decide)) (tgt := 76) dX2_isStepFrom_59 (by decide) (fun h59 => ?_) (fun h59 => ?_)
          · skip
            refine lv_iconst (v := zB false) hx hb dX2_isStepFrom_76 (by decide) ?_
            exact z_zretR hx hb hr hlocks hQ (by rw [gStep, if_neg (by omega), if_neg (by omega)]; simp_all) dX2_isStepFrom_77 rfl rfl
          · skip
            refine lv_aload_n hx hb dX2_isStepFrom_62 rfl (lv_at hl 1 rfl) ?_
            refine va_get (D := D) (ci := 2) (v := .ref gt) (C := RX2) (T := TX2) (N := 6) hx hb hts hin2 hown hK hP 0 rfl rfl 1 (by decide) (hts (.fieldLink RX2 15 "TourHouse$Graph" "to" "[I") (by decide +kernel)) (fun _ h9 => h9) rfl dX2_isStepFrom_63 ?_
            refine lv_iload_n hx hb dX2_isStepFrom_66 rfl (lv_at hl 0 rfl) ?_
            refine z_topi (v := nI ((z / 2).toNat)) (iZ_toNat (by omega)) ?_
            refine z_iald hx hb hK hP 2 0 rfl rfl (k := ((z / 2).toNat)) (by omega) (by decide) (v := nI (To ((z / 2).toNat))) rfl dX2_isStepFrom_67 ?_
            refine lv_iload_n hx hb dX2_isStepFrom_68 rfl (lv_at hl 3 rfl) ?_
            refine z_ne hx hb (Nat.lt_trans (hT _) (by decide)) (by omega) (tgt := 76) dX2_isStepFrom_69 (by decide) (fun h69 => ?_) (fun h69 => ?_)
            · skip
              refine lv_iconst (v := zB false) hx hb dX2_isStepFrom_76 (by decide) ?_
              exact z_zretR hx hb hr hlocks hQ (by rw [gStep, if_neg (by omega), if_neg (by omega)]; simp_all) dX2_isStepFrom_77 rfl rfl
            · skip
              refine lv_iconst (v := zB true) hx hb dX2_isStepFrom_72 (by decide) ?_
              refine lv_goto (tgt := 77) hx hb dX2_isStepFrom_73 (by decide) ?_
              exact z_zretR hx hb hr hlocks hQ (by rw [gStep, if_neg (by omega), if_neg (by omega)]; simp_all) dX2_isStepFrom_77 rfl rfl
      · skip
        refine lv_aload_n hx hb dX2_isStepFrom_24 rfl (lv_at hl 1 rfl) ?_
        refine va_get (D := D) (ci := 2) (v := .ref gf) (C := RX2) (T := TX2) (N := 6) hx hb hts hin2 hown hK hP 0 rfl rfl 0 (by decide) (hts (.fieldLink RX2 9 "TourHouse$Graph" "from" "[I") (by decide +kernel)) (fun _ h9 => h9) rfl dX2_isStepFrom_25 ?_
        refine lv_iload_n hx hb dX2_isStepFrom_28 rfl (lv_at hl 0 rfl) ?_
        refine z_topi (v := nI ((z / 2).toNat)) (iZ_toNat (by omega)) ?_
        refine z_iald hx hb hK hP 1 0 rfl rfl (k := ((z / 2).toNat)) (by omega) (by decide) (v := nI (Fr ((z / 2).toNat))) rfl dX2_isStepFrom_29 ?_
        refine lv_iload_n hx hb dX2_isStepFrom_30 rfl (lv_at hl 3 rfl) ?_
        refine z_ne hx hb (Nat.lt_trans (hF _) (by decide)) (by omega) (tgt := 38) dX2_isStepFrom_31 (by decide) (fun h31 => ?_) (fun h31 => ?_)
        · skip
          refine lv_iconst (v := zB false) hx hb dX2_isStepFrom_38 (by decide) ?_
          exact z_zretR hx hb hr hlocks hQ (by rw [gStep, if_neg (by omega), if_pos (by omega)]; simp [h31]) dX2_isStepFrom_39 rfl rfl
        · skip
          refine lv_iconst (v := zB true) hx hb dX2_isStepFrom_34 (by decide) ?_
          refine lv_goto (tgt := 39) hx hb dX2_isStepFrom_35 (by decide) ?_
          exact z_zretR hx hb hr hlocks hQ (by rw [gStep, if_neg (by omega), if_pos (by omega)]; simp [h31]) dX2_isStepFrom_39 rfl rfl
    · skip
      refine lv_iconst (v := zB false) hx hb dX2_isStepFrom_16 (by decide) ?_
      exact z_zretR hx hb hr hlocks hQ (by rw [gStep, if_pos (by omega)]) dX2_isStepFrom_17 rfl rfl
set_option maxHeartbeats 4000000 in
set_option maxRecDepth 100000 in
/-- Graph.endOf -/
theorem c_X2_endOf (l : Launch) (D : va_G) (cA : Nat → ClassId) (g : Nat) (gf : Nat) (gt : Nat) (gw : Nat) (Fr : Nat → Nat) (To : Nat → Nat) (dir : Bool) (nv : Nat) (me : Nat) (z : Int) (hF : ∀ j, Fr j < 16) (hT : ∀ j, To j < 16) (hz : 0 ≤ z ∧ z < 80) : Met l yX2_endOf wsX2_endOf ({ frames := 0, cells := 0, slots := 0, locals := 0 } : Room) (zRd D vwCl (zT cA) [(g, .inr (2, [.ref gf, .ref gt, .ref gw, .int (zB dir), .int (nI nv), .int (nI me)])), (gf, aI cA 40 (fun j => nI (Fr j))), (gt, aI cA 40 (fun j => nI (To j)))] [.ref g, .int (iZ z)]) (vp_Si (fun r => r = nI (gEnd Fr To z))) 0 0 (fun _ => False) := by
  refine z_read (cc := cX2_endOf) (maxL := 2) (ret := (some .int)) (by decide) rfl (Nat.le_of_ble_eq_true rfl) ?_
  intro p e s m below meth c hx hb hr hml hown hts hlocks hP hK Q hQ ls hl
  have hown : s.vm.findClass RX2 = some m.cls := hown
  have hl : lv_has ls 2 [(0, .ref g), (1, .int (iZ z))] := hl
  generalize hav : ([.ref g, .int (iZ z)] : List Value).toArray = args at hts hQ ⊢
  have hin2 : ∀ w ∈ wsX20, w ∈ wsX2_endOf := by decide +kernel
  refine lv_iload_n hx hb dX2_endOf_0 rfl (lv_at hl 1 rfl) ?_
  refine lv_iconst (v := nI 1) hx hb dX2_endOf_1 (by decide) ?_
  refine lv_iand hx hb dX2_endOf_2 ?_
  refine z_topi (v := nI ((z % 2).toNat)) (nb_zand1 z) ?_
  refine z_nne hx hb (by omega) (tgt := 17) dX2_endOf_3 (by decide) (fun h3 => ?_) (fun h3 => ?_)
  · skip
    refine lv_aload_n hx hb dX2_endOf_17 rfl (lv_at hl 0 rfl) ?_
    refine va_get (D := D) (ci := 2) (v := .ref gf) (C := RX2) (T := TX2) (N := 6) hx hb hts hin2 hown hK hP 0 rfl rfl 0 (by decide) (hts (.fieldLink RX2 9 "TourHouse$Graph" "from" "[I") (by decide +kernel)) (fun _ h9 => h9) rfl dX2_endOf_18 ?_
    refine lv_iload_n hx hb dX2_endOf_21 rfl (lv_at hl 1 rfl) ?_
    refine lv_iconst (v := nI 1) hx hb dX2_endOf_22 (by decide) ?_
    refine lv_ishr hx hb dX2_endOf_23 ?_
    refine z_topi (v := nI ((z / 2).toNat)) (by rw [nb_shr1 (by omega) (by omega)]; exact iZ_toNat (by omega)) ?_
    refine z_iald hx hb hK hP 1 0 rfl rfl (k := ((z / 2).toNat)) (by omega) (by decide) (v := nI (Fr ((z / 2).toNat))) rfl dX2_endOf_24 ?_
    exact z_iretR hx hb hr hlocks hQ (by simp only [gEnd]; first | rw [if_pos (by omega)] | rw [if_neg (by omega)]) dX2_endOf_25 rfl rfl
  · skip
    refine lv_aload_n hx hb dX2_endOf_6 rfl (lv_at hl 0 rfl) ?_
    refine va_get (D := D) (ci := 2) (v := .ref gt) (C := RX2) (T := TX2) (N := 6) hx hb hts hin2 hown hK hP 0 rfl rfl 1 (by decide) (hts (.fieldLink RX2 15 "TourHouse$Graph" "to" "[I") (by decide +kernel)) (fun _ h9 => h9) rfl dX2_endOf_7 ?_
    refine lv_iload_n hx hb dX2_endOf_10 rfl (lv_at hl 1 rfl) ?_
    refine lv_iconst (v := nI 1) hx hb dX2_endOf_11 (by decide) ?_
    refine lv_ishr hx hb dX2_endOf_12 ?_
    refine z_topi (v := nI ((z / 2).toNat)) (by rw [nb_shr1 (by omega) (by omega)]; exact iZ_toNat (by omega)) ?_
    refine z_iald hx hb hK hP 2 0 rfl rfl (k := ((z / 2).toNat)) (by omega) (by decide) (v := nI (To ((z / 2).toNat))) rfl dX2_endOf_13 ?_
    refine lv_goto (tgt := 25) hx hb dX2_endOf_14 (by decide) ?_
    exact z_iretR hx hb hr hlocks hQ (by simp only [gEnd]; first | rw [if_pos (by omega)] | rw [if_neg (by omega)]) dX2_endOf_25 rfl rfl
set_option maxHeartbeats 4000000 in
set_option maxRecDepth 100000 in
/-- Graph.oddVertices -/
theorem c_X2_oddVertices (l : Launch) (D : va_G) (cA : Nat → ClassId) (g : Nat) (gf : Nat) (gt : Nat) (gw : Nat) (Fr : Nat → Nat) (To : Nat → Nat) (dir : Bool) (nv : Nat) (me : Nat) (hme : me ≤ 40) (hF : ∀ j, Fr j < 16) (hT : ∀ j, To j < 16) (hnv : nv ≤ 16) : Met l yX2_oddVertices wsX2_oddVertices ({ frames := 1, cells := 0, slots := 0, locals := 23 } : Room) (zRd D vwCl (zT cA) [(g, .inr (2, [.ref gf, .ref gt, .ref gw, .int (zB dir), .int (nI nv), .int (nI me)])), (gf, aI cA 40 (fun j => nI (Fr j))), (gt, aI cA 40 (fun j => nI (To j)))] [.ref g]) (vp_Si (fun r => r = nI (gOddM dir Fr To me nv))) 0 0 (fun _ => False) := by
  refine z_read (cc := cX2_oddVertices) (maxL := 4) (ret := (some .int)) (by decide) rfl (Nat.le_of_ble_eq_true rfl) ?_
  intro p e s m below meth c hx hb hr hml hown hts hlocks hP hK Q hQ ls hl
  have hown : s.vm.findClass RX2 = some m.cls := hown
  have hl : lv_has ls 4 [(0, .ref g)] := hl
  generalize hav : ([.ref g] : List Value).toArray = args at hts hQ ⊢
  have hin2 : ∀ w ∈ wsX20, w ∈ wsX2_oddVertices := by decide +kernel
  refine lv_iconst (v := nI (gOddM dir Fr To me 0)) hx hb dX2_oddVertices_0 (by rfl) ?_
  refine lv_istore_n (lv' := [(1, .int (nI (gOddM dir Fr To me 0))), (0, .ref g)]) hx hb dX2_oddVertices_1 rfl hl (by decide) rfl (fun ls hl => ?_)
  refine lv_iconst (v := nI 0) hx hb dX2_oddVertices_2 (by decide) ?_
  refine lv_istore_n (lv' := [(2, .int (nI 0)), (1, .int (nI (gOddM dir Fr To me 0))), (0, .ref g)]) hx hb dX2_oddVertices_3 rfl hl (by decide) rfl (fun ls hl => ?_)
  have J4 : ∀ (n : Nat), ∀ (i : Nat), (i ≤ nv) → nv - i < n → ∀ (ls : Array Slot), lv_has ls 4 [(0, .ref g), (1, .int (nI (gOddM dir Fr To me i))), (2, .int (nI i))] → W p l e ({ frames := 1, cells := 0, slots := 0, locals := 23 } : Room) s m args below meth c s.heap [] 0 0 Q (F0 m 4 ls []) := by
    intro n4
    induction n4 with
    | zero => intro i hi hn; exact absurd hn (Nat.not_lt_zero _)
    | succ n4 ih4 =>
      intro i hi hn4 ls hl
      refine lv_iload_n hx hb dX2_oddVertices_4 rfl (lv_at hl 2 rfl) ?_
      refine lv_aload_n hx hb dX2_oddVertices_5 rfl (lv_at hl 0 rfl) ?_
      refine va_get (D := D) (ci := 2) (v := .int (nI nv)) (C := RX2) (T := TX2) (N := 6) hx hb hts hin2 hown hK hP 0 rfl rfl 4 (by decide) (hts (.fieldLink RX2 25 "TourHouse$Graph" "vertices" "I") (by decide +kernel)) (fun _ h9 => h9) rfl dX2_oddVertices_6 ?_
      refine z_ge hx hb (by omega) (by omega) (tgt := 51) dX2_oddVertices_9 (by decide) (fun h9 => ?_) (fun h9 => ?_)
      · skip
        refine lv_iload_n hx hb dX2_oddVertices_51 rfl (lv_at hl 1 rfl) ?_
        exact z_iretR hx hb hr hlocks hQ (by rw [show i = nv from by omega]) dX2_oddVertices_52 rfl rfl
      · skip
        refine lv_aload_n hx hb dX2_oddVertices_12 rfl (lv_at hl 0 rfl) ?_
        refine lv_iload_n hx hb dX2_oddVertices_13 rfl (lv_at hl 2 rfl) ?_
        refine z_cRVi (wc := [(g, .inr (2, [.ref gf, .ref gt, .ref gw, .int (zB dir), .int (nI nv), .int (nI me)])), (gf, aI cA 40 (fun j => nI (Fr j))), (gt, aI cA 40 (fun j => nI (To j)))]) (rm := ({ frames := 0, cells := 0, slots := 0, locals := 0 } : Room)) (As := [.int (nI i)]) (rest := []) ⟨hx, hb, hml, hown, hts⟩ (c_X2_surplusAt l D cA g gf gt gw Fr To dir nv me i (by first | assumption | omega) (by first | assumption | omega) (by first | assumption | omega) (by first | assumption | omega)) (cwV 1 hts gX2_oddVertices_X2_surplusAt rfl rfl rfl (by decide +kernel) ⟨Nat.le_of_ble_eq_true rfl, Nat.le_of_ble_eq_true rfl⟩) hP hK [0, 1, 2] rfl 2 0 rfl rfl rfl hl.1 rfl (Nat.le_of_ble_eq_true rfl) ⟨Nat.zero_le _, Nat.zero_le _⟩ dX2_oddVertices_14 (fun r hr14 => ?_)
        subst hr14
        refine lv_istore_n (lv' := [(3, .int (iZ (gSur Fr To i me))), (0, .ref g), (1, .int (nI (gOddM dir Fr To me i))), (2, .int (nI i))]) hx hb dX2_oddVertices_17 rfl hl (by decide) rfl (fun ls hl => ?_)
        refine lv_aload_n hx hb dX2_oddVertices_18 rfl (lv_at hl 1 rfl) ?_
        refine va_get (D := D) (ci := 2) (v := .int (zB dir)) (C := RX2) (T := TX2) (N := 6) hx hb hts hin2 hown hK hP 0 rfl rfl 3 (by decide) (hts (.fieldLink RX2 21 "TourHouse$Graph" "directed" "Z") (by decide +kernel)) (fun _ h9 => h9) rfl dX2_oddVertices_19 ?_
        refine z_ifeq hx hb (tgt := 32) dX2_oddVertices_22 (by decide) (fun h22 => ?_) (fun h22 => ?_)
        · skip
          refine lv_iload_n hx hb dX2_oddVertices_32 rfl (lv_at hl 0 rfl) ?_
          refine lv_iconst (v := nI 1) hx hb dX2_oddVertices_33 (by decide) ?_
          refine lv_iand hx hb dX2_oddVertices_34 ?_
          refine z_topi (v := nI (((gSur Fr To i me) % 2).toNat)) (nb_zand1 (gSur Fr To i me)) ?_
          refine lv_iconst (v := nI 1) hx hb dX2_oddVertices_35 (by decide) ?_
          refine z_ne hx hb (by have := gSur_rng Fr To i me; omega) (by decide) (tgt := 45) dX2_oddVertices_36 (by decide) (fun h36 => ?_) (fun h36 => ?_)
          · skip
            have hl : lv_has ls 4 [(3, .int (iZ (gSur Fr To i me))), (0, .ref g), (1, .int (nI (gOddM dir Fr To me (i + 1)))), (2, .int (nI i))] := by
              have q9 : nI (gOddM dir Fr To me (i + 1)) = nI (gOddM dir Fr To me i) := by congr 1; simp only [gOddM, gIsOdd]; simp_all
              rw [q9]; exact hl
            refine lv_iinc (v := nI (i + 1)) (lv' := [(2, .int (nI (i + 1))), (3, .int (iZ (gSur Fr To i me))), (0, .ref g), (1, .int (nI (gOddM dir Fr To me (i + 1))))]) hx hb dX2_oddVertices_45 hl (k := 3) rfl (nI_1 i) (by decide) rfl (fun ls hl => ?_)
            refine lv_goto (tgt := 4) hx hb dX2_oddVertices_48 (by decide) ?_
            exact ih4 (i + 1) (by omega) (by omega) ls (lv_sub hl [2, 3, 0] (by rfl))
          · skip
            refine lv_iload_n hx hb dX2_oddVertices_39 rfl (lv_at hl 2 rfl) ?_
            refine lv_iconst (v := nI 1) hx hb dX2_oddVertices_40 (by decide) ?_
            refine lv_iload_n hx hb dX2_oddVertices_41 rfl (lv_at hl 3 rfl) ?_
            refine lv_ishl hx hb dX2_oddVertices_42 ?_
            refine z_topi (v := nI (2 ^ i)) (nb_shl1 (by omega)) ?_
            refine lv_ior hx hb dX2_oddVertices_43 ?_
            refine z_topi (v := nI ((gOddM dir Fr To me i) ||| (2 ^ i))) (nb_or _ _) ?_
            refine lv_istore_n (lv' := [(1, .int (nI ((gOddM dir Fr To me i) ||| (2 ^ i)))), (3, .int (iZ (gSur Fr To i me))), (0, .ref g), (2, .int (nI i))]) hx hb dX2_oddVertices_44 rfl hl (by decide) rfl (fun ls hl => ?_)
            have hl : lv_has ls 4 [(1, .int (nI (gOddM dir Fr To me (i + 1)))), (3, .int (iZ (gSur Fr To i me))), (0, .ref g), (2, .int (nI i))] := by
              have q9 : nI (gOddM dir Fr To me (i + 1)) = nI ((gOddM dir Fr To me i) ||| (2 ^ i)) := by congr 1; simp only [gOddM, gIsOdd]; simp_all
              rw [q9]; exact hl
            refine lv_iinc (v := nI (i + 1)) (lv' := [(2, .int (nI (i + 1))), (1, .int (nI (gOddM dir Fr To me (i + 1)))), (3, .int (iZ (gSur Fr To i me))), (0, .ref g)]) hx hb dX2_oddVertices_45 hl (k := 3) rfl (nI_1 i) (by decide) rfl (fun ls hl => ?_)
            refine lv_goto (tgt := 4) hx hb dX2_oddVertices_48 (by decide) ?_
            exact ih4 (i + 1) (by omega) (by omega) ls (lv_sub hl [3, 1, 0] (by rfl))
        · skip
          refine lv_iload_n hx hb dX2_oddVertices_25 rfl (lv_at hl 0 rfl) ?_
          refine z_ieq hx hb (x := gSur Fr To i me) (⟨by have := gSur_rng Fr To i me; omega, by have := gSur_rng Fr To i me; omega⟩) (tgt := 45) dX2_oddVertices_26 (by decide) (fun h26 => ?_) (fun h26 => ?_)
          · skip
            have hl : lv_has ls 4 [(3, .int (iZ (gSur Fr To i me))), (0, .ref g), (1, .int (nI (gOddM dir Fr To me (i + 1)))), (2, .int (nI i))] := by
              have q9 : nI (gOddM dir Fr To me (i + 1)) = nI (gOddM dir Fr To me i) := by congr 1; simp only [gOddM, gIsOdd]; simp_all
              rw [q9]; exact hl
            refine lv_iinc (v := nI (i + 1)) (lv' := [(2, .int (nI (i + 1))), (3, .int (iZ (gSur Fr To i me))), (0, .ref g), (1, .int (nI (gOddM dir Fr To me (i + 1))))]) hx hb dX2_oddVertices_45 hl (k := 3) rfl (nI_1 i) (by decide) rfl (fun ls hl => ?_)
            refine lv_goto (tgt := 4) hx hb dX2_oddVertices_48 (by decide) ?_
            exact ih4 (i + 1) (by omega) (by omega) ls (lv_sub hl [2, 3, 0] (by rfl))
          · skip
            refine lv_goto (tgt := 39) hx hb dX2_oddVertices_29 (by decide) ?_
            refine lv_iload_n hx hb dX2_oddVertices_39 rfl (lv_at hl 2 rfl) ?_
            refine lv_iconst (v := nI 1) hx hb dX2_oddVertices_40 (by decide) ?_
            refine lv_iload_n hx hb dX2_oddVertices_41 rfl (lv_at hl 3 rfl) ?_
            refine lv_ishl hx hb dX2_oddVertices_42 ?_
            refine z_topi (v := nI (2 ^ i)) (nb_shl1 (by omega)) ?_
            refine lv_ior hx hb dX2_oddVertices_43 ?_
            refine z_topi (v := nI ((gOddM dir Fr To me i) ||| (2 ^ i))) (nb_or _ _) ?_
            refine lv_istore_n (lv' := [(1, .int (nI ((gOddM dir Fr To me i) ||| (2 ^ i)))), (3, .int (iZ (gSur Fr To i me))), (0, .ref g), (2, .int (nI i))]) hx hb dX2_oddVertices_44 rfl hl (by decide) rfl (fun ls hl => ?_)
            have hl : lv_has ls 4 [(1, .int (nI (gOddM dir Fr To me (i + 1)))), (3, .int (iZ (gSur Fr To i me))), (0, .ref g), (2, .int (nI i))] := by
              have q9 : nI (gOddM dir Fr To me (i + 1)) = nI ((gOddM dir Fr To me i) ||| (2 ^ i)) := by congr 1; simp only [gOddM, gIsOdd]; simp_all
              rw [q9]; exact hl
            refine lv_iinc (v := nI (i + 1)) (lv' := [(2, .int (nI (i + 1))), (1, .int (nI (gOddM dir Fr To me (i + 1)))), (3, .int (iZ (gSur Fr To i me))), (0, .ref g)]) hx hb dX2_oddVertices_45 hl (k := 3) rfl (nI_1 i) (by decide) rfl (fun ls hl => ?_)
            refine lv_goto (tgt := 4) hx hb dX2_oddVertices_48 (by decide) ?_
            exact ih4 (i + 1) (by omega) (by omega) ls (lv_sub hl [3, 1, 0] (by rfl))
  exact J4 ((nv - 0) + 1) 0 (by omega) (by omega) ls (lv_sub hl [2, 1, 0] (by rfl))
set_option maxHeartbeats 4000000 in
set_option maxRecDepth 100000 in
/-- Graph.touchedBy -/
theorem c_X2_touchedBy (l : Launch) (D : va_G) (cA : Nat → ClassId) (g : Nat) (gf : Nat) (gt : Nat) (gw : Nat) (Fr : Nat → Nat) (To : Nat → Nat) (dir : Bool) (nv : Nat) (me : Nat) (ua : Nat) (U : Nat → Int) (hme : me ≤ 40) (hF : ∀ j, Fr j < 16) (hT : ∀ j, To j < 16) (hU : ∀ j, -2147483648 ≤ U j ∧ U j < 2147483648) : Met l yX2_touchedBy wsX2_touchedBy ({ frames := 0, cells := 0, slots := 0, locals := 0 } : Room) (zRd D vwCl (zT cA) [(g, .inr (2, [.ref gf, .ref gt, .ref gw, .int (zB dir), .int (nI nv), .int (nI me)])), (gf, aI cA 40 (fun j => nI (Fr j))), (gt, aI cA 40 (fun j => nI (To j))), (ua, aI cA 40 (fun j => iZ (U j)))] [.ref g, .ref ua]) (vp_Si (fun r => r = nI (gTouch Fr To U me))) 0 0 (fun _ => False) := by
  refine z_read (cc := cX2_touchedBy) (maxL := 4) (ret := (some .int)) (by decide) rfl (Nat.le_of_ble_eq_true rfl) ?_
  intro p e s m below meth c hx hb hr hml hown hts hlocks hP hK Q hQ ls hl
  have hown : s.vm.findClass RX2 = some m.cls := hown
  have hl : lv_has ls 4 [(0, .ref g), (1, .ref ua)] := hl
  generalize hav : ([.ref g, .ref ua] : List Value).toArray = args at hts hQ ⊢
  have hin2 : ∀ w ∈ wsX20, w ∈ wsX2_touchedBy := by decide +kernel
  refine lv_iconst (v := nI (gTouch Fr To U 0)) hx hb dX2_touchedBy_0 (by rfl) ?_
  refine lv_istore_n (lv' := [(2, .int (nI (gTouch Fr To U 0))), (0, .ref g), (1, .ref ua)]) hx hb dX2_touchedBy_1 rfl hl (by decide) rfl (fun ls hl => ?_)
  refine lv_iconst (v := nI 0) hx hb dX2_touchedBy_2 (by decide) ?_
  refine lv_istore_n (lv' := [(3, .int (nI 0)), (2, .int (nI (gTouch Fr To U 0))), (0, .ref g), (1, .ref ua)]) hx hb dX2_touchedBy_3 rfl hl (by decide) rfl (fun ls hl => ?_)
  have J4 : ∀ (n : Nat), ∀ (i : Nat), (i ≤ me) → me - i < n → ∀ (ls : Array Slot), lv_has ls 4 [(0, .ref g), (1, .ref ua), (2, .int (nI (gTouch Fr To U i))), (3, .int (nI i))] → W p l e ({ frames := 0, cells := 0, slots := 0, locals := 0 } : Room) s m args below meth c s.heap [] 0 0 Q (F0 m 4 ls []) := by
    intro n4
    induction n4 with
    | zero => intro i hi hn; exact absurd hn (Nat.not_lt_zero _)
    | succ n4 ih4 =>
      intro i hi hn4 ls hl
      refine lv_iload_n hx hb dX2_touchedBy_4 rfl (lv_at hl 3 rfl) ?_
      refine lv_aload_n hx hb dX2_touchedBy_5 rfl (lv_at hl 0 rfl) ?_
      refine va_get (D := D) (ci := 2) (v := .int (nI me)) (C := RX2) (T := TX2) (N := 6) hx hb hts hin2 hown hK hP 0 rfl rfl 5 (by decide) (hts (.fieldLink RX2 29 "TourHouse$Graph" "edges" "I") (by decide +kernel)) (fun _ h9 => h9) rfl dX2_touchedBy_6 ?_
      refine z_ge hx hb (by omega) (by omega) (tgt := 44) dX2_touchedBy_9 (by decide) (fun h9 => ?_) (fun h9 => ?_)
      · skip
        refine lv_iload_n hx hb dX2_touchedBy_44 rfl (lv_at hl 2 rfl) ?_
        exact z_iretR hx hb hr hlocks hQ (by rw [show i = me from by omega]) dX2_touchedBy_45 rfl rfl
      · skip
        refine lv_aload_n hx hb dX2_touchedBy_12 rfl (lv_at hl 1 rfl) ?_
        refine lv_iload_n hx hb dX2_touchedBy_13 rfl (lv_at hl 3 rfl) ?_
        refine z_iald hx hb hK hP 3 0 rfl rfl (k := i) (by omega) (by decide) (v := iZ (U i)) rfl dX2_touchedBy_14 ?_
        refine z_ile hx hb (x := U i) (hU _) (tgt := 38) dX2_touchedBy_15 (by decide) (fun h15 => ?_) (fun h15 => ?_)
        · skip
          have hl : lv_has ls 4 [(0, .ref g), (1, .ref ua), (2, .int (nI (gTouch Fr To U (i + 1)))), (3, .int (nI i))] := by
            have q9 : nI (gTouch Fr To U (i + 1)) = nI (gTouch Fr To U i) := by congr 1; simp only [gTouch]; first | rw [if_pos h15] | rw [if_neg (by omega)]
            rw [q9]; exact hl
          refine lv_iinc (v := nI (i + 1)) (lv' := [(3, .int (nI (i + 1))), (0, .ref g), (1, .ref ua), (2, .int (nI (gTouch Fr To U (i + 1))))]) hx hb dX2_touchedBy_38 hl (k := 3) rfl (nI_1 i) (by decide) rfl (fun ls hl => ?_)
          refine lv_goto (tgt := 4) hx hb dX2_touchedBy_41 (by decide) ?_
          exact ih4 (i + 1) (by omega) (by omega) ls (lv_sub hl [1, 2, 3, 0] (by rfl))
        · skip
          refine lv_iload_n hx hb dX2_touchedBy_18 rfl (lv_at hl 2 rfl) ?_
          refine lv_iconst (v := nI 1) hx hb dX2_touchedBy_19 (by decide) ?_
          refine lv_aload_n hx hb dX2_touchedBy_20 rfl (lv_at hl 0 rfl) ?_
          refine va_get (D := D) (ci := 2) (v := .ref gf) (C := RX2) (T := TX2) (N := 6) hx hb hts hin2 hown hK hP 0 rfl rfl 0 (by decide) (hts (.fieldLink RX2 9 "TourHouse$Graph" "from" "[I") (by decide +kernel)) (fun _ h9 => h9) rfl dX2_touchedBy_21 ?_
          refine lv_iload_n hx hb dX2_touchedBy_24 rfl (lv_at hl 3 rfl) ?_
          refine z_iald hx hb hK hP 1 0 rfl rfl (k := i) (by omega) (by decide) (v := nI (Fr i)) rfl dX2_touchedBy_25 ?_
          refine lv_ishl hx hb dX2_touchedBy_26 ?_
          refine z_topi (v := nI (2 ^ (Fr i))) (nb_shl1 (Nat.lt_trans (hF _) (by decide))) ?_
          refine lv_iconst (v := nI 1) hx hb dX2_touchedBy_27 (by decide) ?_
          refine lv_aload_n hx hb dX2_touchedBy_28 rfl (lv_at hl 0 rfl) ?_
          refine va_get (D := D) (ci := 2) (v := .ref gt) (C := RX2) (T := TX2) (N := 6) hx hb hts hin2 hown hK hP 0 rfl rfl 1 (by decide) (hts (.fieldLink RX2 15 "TourHouse$Graph" "to" "[I") (by decide +kernel)) (fun _ h9 => h9) rfl dX2_touchedBy_29 ?_
          refine lv_iload_n hx hb dX2_touchedBy_32 rfl (lv_at hl 3 rfl) ?_
          refine z_iald hx hb hK hP 2 0 rfl rfl (k := i) (by omega) (by decide) (v := nI (To i)) rfl dX2_touchedBy_33 ?_
          refine lv_ishl hx hb dX2_touchedBy_34 ?_
          refine z_topi (v := nI (2 ^ (To i))) (nb_shl1 (Nat.lt_trans (hT _) (by decide))) ?_
          refine lv_ior hx hb dX2_touchedBy_35 ?_
          refine z_topi (v := nI ((2 ^ (Fr i)) ||| (2 ^ (To i)))) (nb_or _ _) ?_
          refine lv_ior hx hb dX2_touchedBy_36 ?_
          refine z_topi (v := nI ((gTouch Fr To U i) ||| ((2 ^ (Fr i)) ||| (2 ^ (To i))))) (nb_or _ _) ?_
          refine lv_istore_n (lv' := [(2, .int (nI ((gTouch Fr To U i) ||| ((2 ^ (Fr i)) ||| (2 ^ (To i)))))), (0, .ref g), (1, .ref ua), (3, .int (nI i))]) hx hb dX2_touchedBy_37 rfl hl (by decide) rfl (fun ls hl => ?_)
          have hl : lv_has ls 4 [(2, .int (nI (gTouch Fr To U (i + 1)))), (0, .ref g), (1, .ref ua), (3, .int (nI i))] := by
            have q9 : nI (gTouch Fr To U (i + 1)) = nI ((gTouch Fr To U i) ||| ((2 ^ (Fr i)) ||| (2 ^ (To i)))) := by congr 1; simp only [gTouch]; first | rw [if_pos h15] | rw [if_neg (by omega)]
            rw [q9]; exact hl
          refine lv_iinc (v := nI (i + 1)) (lv' := [(3, .int (nI (i + 1))), (2, .int (nI (gTouch Fr To U (i + 1)))), (0, .ref g), (1, .ref ua)]) hx hb dX2_touchedBy_38 hl (k := 3) rfl (nI_1 i) (by decide) rfl (fun ls hl => ?_)
          refine lv_goto (tgt := 4) hx hb dX2_touchedBy_41 (by decide) ?_
          exact ih4 (i + 1) (by omega) (by omega) ls (lv_sub hl [2, 3, 1, 0] (by rfl))
  exact J4 ((me - 0) + 1) 0 (by omega) (by omega) ls (lv_sub hl [2, 3, 1, 0] (by rfl))
set_option maxHeartbeats 4000000 in
set_option maxRecDepth 100000 in
/-- Graph.reachOf -/
theorem c_X2_reachOf (l : Launch) (D : va_G) (cA : Nat → ClassId) (g : Nat) (gf : Nat) (gt : Nat) (gw : Nat) (Fr : Nat → Nat) (To : Nat → Nat) (dir : Bool) (nv : Nat) (me : Nat) (ua : Nat) (U : Nat → Int) (v : Nat) (al : Bool) (ag : Bool) (hme : me ≤ 40) (hF : ∀ j, Fr j < 16) (hT : ∀ j, To j < 16) (hU : ∀ j, -2147483648 ≤ U j ∧ U j < 2147483648) (hv : v < 16) : Met l yX2_reachOf wsX2_reachOf ({ frames := 0, cells := 0, slots := 0, locals := 0 } : Room) (zRd D vwCl (zT cA) [(g, .inr (2, [.ref gf, .ref gt, .ref gw, .int (zB dir), .int (nI nv), .int (nI me)])), (gf, aI cA 40 (fun j => nI (Fr j))), (gt, aI cA 40 (fun j => nI (To j))), (ua, aI cA 40 (fun j => iZ (U j)))] [.ref g, .int (nI v), .int (zB al), .int (zB ag), .ref ua]) (vp_Si (fun r => r = nI (gRL al ag Fr To U me 16 (2 ^ v)))) 0 0 (fun _ => False) := by
  refine z_read (cc := cX2_reachOf) (maxL := 9) (ret := (some .int)) (by decide) rfl (Nat.le_of_ble_eq_true rfl) ?_
  intro p e s m below meth c hx hb hr hml hown hts hlocks hP hK Q hQ ls hl
  have hown : s.vm.findClass RX2 = some m.cls := hown
  have hl : lv_has ls 9 [(0, .ref g), (1, .int (nI v)), (2, .int (zB al)), (3, .int (zB ag)), (4, .ref ua)] := hl
  generalize hav : ([.ref g, .int (nI v), .int (zB al), .int (zB ag), .ref ua] : List Value).toArray = args at hts hQ ⊢
  have hin2 : ∀ w ∈ wsX20, w ∈ wsX2_reachOf := by decide +kernel
  refine lv_iconst (v := nI 1) hx hb dX2_reachOf_0 (by decide) ?_
  refine lv_iload_n hx hb dX2_reachOf_1 rfl (lv_at hl 1 rfl) ?_
  refine lv_ishl hx hb dX2_reachOf_2 ?_
  refine z_topi (v := nI (2 ^ v)) (nb_shl1 (by omega)) ?_
  refine lv_istore (lv' := [(5, .int (nI (2 ^ v))), (0, .ref g), (1, .int (nI v)), (2, .int (zB al)), (3, .int (zB ag)), (4, .ref ua)]) hx hb dX2_reachOf_3 hl (by decide) rfl (fun ls hl => ?_)
  refine lv_iconst (v := nI 0) hx hb dX2_reachOf_5 (by decide) ?_
  refine lv_istore (lv' := [(6, .int (nI 0)), (5, .int (nI (2 ^ v))), (0, .ref g), (1, .int (nI v)), (2, .int (zB al)), (3, .int (zB ag)), (4, .ref ua)]) hx hb dX2_reachOf_6 hl (by decide) rfl (fun ls hl => ?_)
  have J8 : ∀ (n : Nat), ∀ (ps : Nat) (r : Nat), (ps ≤ 16) → (r < 65536) → (gRL al ag Fr To U me (16 - ps) r = gRL al ag Fr To U me 16 (2 ^ v)) → 16 - ps < n → ∀ (ls : Array Slot), lv_has ls 9 [(0, .ref g), (1, .int (nI v)), (2, .int (zB al)), (3, .int (zB ag)), (4, .ref ua), (5, .int (nI r)), (6, .int (nI ps))] → W p l e ({ frames := 0, cells := 0, slots := 0, locals := 0 } : Room) s m args below meth c s.heap [] 0 0 Q (F0 m 8 ls []) := by
    intro n8
    induction n8 with
    | zero => intro ps r hp hr16 hq hn; exact absurd hn (Nat.not_lt_zero _)
    | succ n8 ih8 =>
      intro ps r hp hr16 hq hn8 ls hl
      refine lv_iload hx hb dX2_reachOf_8 (lv_at hl 6 rfl) ?_
      refine lv_bipush (v := nI 16) hx hb dX2_reachOf_10 (by decide) ?_
      refine z_ge hx hb (by omega) (by decide) (tgt := 129) dX2_reachOf_12 (by decide) (fun h12 => ?_) (fun h12 => ?_)
      · skip
        refine lv_iload hx hb dX2_reachOf_129 (lv_at hl 5 rfl) ?_
        exact z_iretR hx hb hr hlocks hQ (by rw [← hq]; congr 1; first | (rw [show 16 - ps = 0 from by omega]; rfl) | (rw [show 16 - ps = (16 - (ps + 1)) + 1 from by omega, gRL, if_pos h117]; exact h117)) dX2_reachOf_131 rfl rfl
      · skip
        refine lv_iload hx hb dX2_reachOf_15 (lv_at hl 5 rfl) ?_
        refine lv_istore (lv' := [(7, .int (nI r)), (0, .ref g), (1, .int (nI v)), (2, .int (zB al)), (3, .int (zB ag)), (4, .ref ua), (5, .int (nI r)), (6, .int (nI ps))]) hx hb dX2_reachOf_17 hl (by decide) rfl (fun ls hl => ?_)
        refine lv_iconst (v := nI 0) hx hb dX2_reachOf_19 (by decide) ?_
        refine lv_istore (lv' := [(8, .int (nI 0)), (7, .int (nI r)), (0, .ref g), (1, .int (nI v)), (2, .int (zB al)), (3, .int (zB ag)), (4, .ref ua), (5, .int (nI r)), (6, .int (nI ps))]) hx hb dX2_reachOf_20 hl (by decide) rfl (fun ls hl => ?_)
        have J22 : ∀ (n : Nat), ∀ (i : Nat), (i ≤ me) → me - i < n → ∀ (ls : Array Slot), lv_has ls 9 [(0, .ref g), (1, .int (nI v)), (2, .int (zB al)), (3, .int (zB ag)), (4, .ref ua), (5, .int (nI (gRP al ag Fr To U r i))), (6, .int (nI ps)), (7, .int (nI r)), (8, .int (nI i))] → W p l e ({ frames := 0, cells := 0, slots := 0, locals := 0 } : Room) s m args below meth c s.heap [] 0 0 Q (F0 m 22 ls []) := by
          intro n22
          induction n22 with
          | zero => intro i hi hn; exact absurd hn (Nat.not_lt_zero _)
          | succ n22 ih22 =>
            intro i hi hn22 ls hl
            refine lv_iload hx hb dX2_reachOf_22 (lv_at hl 8 rfl) ?_
            refine lv_aload_n hx hb dX2_reachOf_24 rfl (lv_at hl 0 rfl) ?_
            refine va_get (D := D) (ci := 2) (v := .int (nI me)) (C := RX2) (T := TX2) (N := 6) hx hb hts hin2 hown hK hP 0 rfl rfl 5 (by decide) (hts (.fieldLink RX2 29 "TourHouse$Graph" "edges" "I") (by decide +kernel)) (fun _ h9 => h9) rfl dX2_reachOf_25 ?_
            refine z_ge hx hb (by omega) (by omega) (tgt := 113) dX2_reachOf_28 (by decide) (fun h28 => ?_) (fun h28 => ?_)
            · skip
              have hl : lv_has ls 9 [(0, .ref g), (1, .int (nI v)), (2, .int (zB al)), (3, .int (zB ag)), (4, .ref ua), (5, .int (nI (gRP al ag Fr To U r me))), (6, .int (nI ps)), (7, .int (nI r)), (8, .int (nI i))] := by
                have q9 : nI (gRP al ag Fr To U r me) = nI (gRP al ag Fr To U r i) := by rw [show i = me from by omega]
                rw [q9]; exact hl
              refine lv_iload hx hb dX2_reachOf_113 (lv_at hl 5 rfl) ?_
              refine lv_iload hx hb dX2_reachOf_115 (lv_at hl 7 rfl) ?_
              refine z_ne hx hb (Nat.lt_trans (gRP_lt hF hT hr16 me) (by decide)) (by omega) (tgt := 123) dX2_reachOf_117 (by decide) (fun h117 => ?_) (fun h117 => ?_)
              · skip
                refine lv_iinc (v := nI (ps + 1)) (lv' := [(6, .int (nI (ps + 1))), (0, .ref g), (1, .int (nI v)), (2, .int (zB al)), (3, .int (zB ag)), (4, .ref ua), (5, .int (nI (gRP al ag Fr To U r me))), (7, .int (nI r)), (8, .int (nI i))]) hx hb dX2_reachOf_123 hl (k := 6) rfl (nI_1 ps) (by decide) rfl (fun ls hl => ?_)
                refine lv_goto (tgt := 8) hx hb dX2_reachOf_126 (by decide) ?_
                exact ih8 (ps + 1) (gRP al ag Fr To U r me) (by omega) (gRP_lt hF hT hr16 me) (by rw [← hq, show 16 - ps = (16 - (ps + 1)) + 1 from by omega, gRL, if_neg h117]) (by omega) ls (lv_sub hl [1, 2, 3, 4, 5, 6, 0] (by rfl))
              · skip
                refine lv_goto (tgt := 129) hx hb dX2_reachOf_120 (by decide) ?_
                refine lv_iload hx hb dX2_reachOf_129 (lv_at hl 5 rfl) ?_
                exact z_iretR hx hb hr hlocks hQ (by rw [← hq]; congr 1; first | (rw [show 16 - ps = 0 from by omega]; rfl) | (rw [show 16 - ps = (16 - (ps + 1)) + 1 from by omega, gRL, if_pos h117]; exact h117)) dX2_reachOf_131 rfl rfl
            · skip
              refine lv_aload hx hb dX2_reachOf_31 (lv_at hl 4 rfl) ?_
              refine lv_iload hx hb dX2_reachOf_33 (lv_at hl 8 rfl) ?_
              refine z_iald hx hb hK hP 3 0 rfl rfl (k := i) (by omega) (by decide) (v := iZ (U i)) rfl dX2_reachOf_35 ?_
              refine z_ile hx hb (x := U i) (hU _) (tgt := 107) dX2_reachOf_36 (by decide) (fun h36 => ?_) (fun h36 => ?_)
              · skip
                have hl : lv_has ls 9 [(0, .ref g), (1, .int (nI v)), (2, .int (zB al)), (3, .int (zB ag)), (4, .ref ua), (5, .int (nI (gRP al ag Fr To U r (i + 1)))), (6, .int (nI ps)), (7, .int (nI r)), (8, .int (nI i))] := by
                  have q9 : nI (gRP al ag Fr To U r (i + 1)) = nI (gRP al ag Fr To U r i) := by congr 1; simp only [gRP, gR1, gRb]; first | rw [if_neg (by omega)] | simp_all
                  rw [q9]; exact hl
                refine lv_iinc (v := nI (i + 1)) (lv' := [(8, .int (nI (i + 1))), (0, .ref g), (1, .int (nI v)), (2, .int (zB al)), (3, .int (zB ag)), (4, .ref ua), (5, .int (nI (gRP al ag Fr To U r (i + 1)))), (6, .int (nI ps)), (7, .int (nI r))]) hx hb dX2_reachOf_107 hl (k := 8) rfl (nI_1 i) (by decide) rfl (fun ls hl => ?_)
                refine lv_goto (tgt := 22) hx hb dX2_reachOf_110 (by decide) ?_
                exact ih22 (i + 1) (by omega) (by omega) ls (lv_sub hl [1, 2, 3, 4, 5, 6, 7, 8, 0] (by rfl))
              · skip
                have J73 : ∀ (ls : Array Slot), lv_has ls 9 [(0, .ref g), (1, .int (nI v)), (2, .int (zB al)), (3, .int (zB ag)), (4, .ref ua), (5, .int (nI (gRa al Fr To (gRP al ag Fr To U r i) i))), (6, .int (nI ps)), (7, .int (nI r)), (8, .int (nI i))] → W p l e ({ frames := 0, cells := 0, slots := 0, locals := 0 } : Room) s m args below meth c s.heap [] 0 0 Q (F0 m 73 ls []) := by
                  intro   ls hl
                  refine lv_iload_n hx hb dX2_reachOf_73 rfl (lv_at hl 3 rfl) ?_
                  refine z_ifeq hx hb (tgt := 107) dX2_reachOf_74 (by decide) (fun h74 => ?_) (fun h74 => ?_)
                  · skip
                    have hl : lv_has ls 9 [(0, .ref g), (1, .int (nI v)), (2, .int (zB al)), (3, .int (zB ag)), (4, .ref ua), (5, .int (nI (gRP al ag Fr To U r (i + 1)))), (6, .int (nI ps)), (7, .int (nI r)), (8, .int (nI i))] := by
                      have q9 : nI (gRP al ag Fr To U r (i + 1)) = nI (gRa al Fr To (gRP al ag Fr To U r i) i) := by congr 1; simp only [gRP, gR1, gRb]; first | rw [if_neg (by omega)] | simp_all
                      rw [q9]; exact hl
                    refine lv_iinc (v := nI (i + 1)) (lv' := [(8, .int (nI (i + 1))), (0, .ref g), (1, .int (nI v)), (2, .int (zB al)), (3, .int (zB ag)), (4, .ref ua), (5, .int (nI (gRP al ag Fr To U r (i + 1)))), (6, .int (nI ps)), (7, .int (nI r))]) hx hb dX2_reachOf_107 hl (k := 8) rfl (nI_1 i) (by decide) rfl (fun ls hl => ?_)
                    refine lv_goto (tgt := 22) hx hb dX2_reachOf_110 (by decide) ?_
                    exact ih22 (i + 1) (by omega) (by omega) ls (lv_sub hl [1, 2, 3, 4, 5, 6, 7, 8, 0] (by rfl))
                  · skip
                    refine lv_iload hx hb dX2_reachOf_77 (lv_at hl 5 rfl) ?_
                    refine lv_aload_n hx hb dX2_reachOf_79 rfl (lv_at hl 0 rfl) ?_
                    refine va_get (D := D) (ci := 2) (v := .ref gt) (C := RX2) (T := TX2) (N := 6) hx hb hts hin2 hown hK hP 0 rfl rfl 1 (by decide) (hts (.fieldLink RX2 15 "TourHouse$Graph" "to" "[I") (by decide +kernel)) (fun _ h9 => h9) rfl dX2_reachOf_80 ?_
                    refine lv_iload hx hb dX2_reachOf_83 (lv_at hl 8 rfl) ?_
                    refine z_iald hx hb hK hP 2 0 rfl rfl (k := i) (by omega) (by decide) (v := nI (To i)) rfl dX2_reachOf_85 ?_
                    refine lv_ishr hx hb dX2_reachOf_86 ?_
                    refine z_topi (v := nI ((gRa al Fr To (gRP al ag Fr To U r i) i) / 2 ^ (To i))) (nb_shr (Nat.lt_trans (gRa_lt hF hT (gRP_lt hF hT hr16 i) i) (by decide)) (Nat.lt_trans (hT _) (by decide))) ?_
                    refine lv_iconst (v := nI 1) hx hb dX2_reachOf_87 (by decide) ?_
                    refine lv_iand hx hb dX2_reachOf_88 ?_
                    refine z_topi (v := nI (((gRa al Fr To (gRP al ag Fr To U r i) i) / 2 ^ (To i)) % 2)) (nb_and1 ((gRa al Fr To (gRP al ag Fr To U r i) i) / 2 ^ (To i))) ?_
                    refine lv_iconst (v := nI 1) hx hb dX2_reachOf_89 (by decide) ?_
                    refine z_ne hx hb (by omega) (by decide) (tgt := 107) dX2_reachOf_90 (by decide) (fun h90 => ?_) (fun h90 => ?_)
                    · skip
                      have hl : lv_has ls 9 [(0, .ref g), (1, .int (nI v)), (2, .int (zB al)), (3, .int (zB ag)), (4, .ref ua), (5, .int (nI (gRP al ag Fr To U r (i + 1)))), (6, .int (nI ps)), (7, .int (nI r)), (8, .int (nI i))] := by
                        have q9 : nI (gRP al ag Fr To U r (i + 1)) = nI (gRa al Fr To (gRP al ag Fr To U r i) i) := by congr 1; simp only [gRP, gR1, gRb]; first | rw [if_neg (by omega)] | simp_all
                        rw [q9]; exact hl
                      refine lv_iinc (v := nI (i + 1)) (lv' := [(8, .int (nI (i + 1))), (0, .ref g), (1, .int (nI v)), (2, .int (zB al)), (3, .int (zB ag)), (4, .ref ua), (5, .int (nI (gRP al ag Fr To U r (i + 1)))), (6, .int (nI ps)), (7, .int (nI r))]) hx hb dX2_reachOf_107 hl (k := 8) rfl (nI_1 i) (by decide) rfl (fun ls hl => ?_)
                      refine lv_goto (tgt := 22) hx hb dX2_reachOf_110 (by decide) ?_
                      exact ih22 (i + 1) (by omega) (by omega) ls (lv_sub hl [1, 2, 3, 4, 5, 6, 7, 8, 0] (by rfl))
                    · skip
                      refine lv_iload hx hb dX2_reachOf_93 (lv_at hl 5 rfl) ?_
                      refine lv_iconst (v := nI 1) hx hb dX2_reachOf_95 (by decide) ?_
                      refine lv_aload_n hx hb dX2_reachOf_96 rfl (lv_at hl 0 rfl) ?_
                      refine va_get (D := D) (ci := 2) (v := .ref gf) (C := RX2) (T := TX2) (N := 6) hx hb hts hin2 hown hK hP 0 rfl rfl 0 (by decide) (hts (.fieldLink RX2 9 "TourHouse$Graph" "from" "[I") (by decide +kernel)) (fun _ h9 => h9) rfl dX2_reachOf_97 ?_
                      refine lv_iload hx hb dX2_reachOf_100 (lv_at hl 8 rfl) ?_
                      refine z_iald hx hb hK hP 1 0 rfl rfl (k := i) (by omega) (by decide) (v := nI (Fr i)) rfl dX2_reachOf_102 ?_
                      refine lv_ishl hx hb dX2_reachOf_103 ?_
                      refine z_topi (v := nI (2 ^ (Fr i))) (nb_shl1 (Nat.lt_trans (hF _) (by decide))) ?_
                      refine lv_ior hx hb dX2_reachOf_104 ?_
                      refine z_topi (v := nI ((gRa al Fr To (gRP al ag Fr To U r i) i) ||| (2 ^ (Fr i)))) (nb_or _ _) ?_
                      refine lv_istore (lv' := [(5, .int (nI ((gRa al Fr To (gRP al ag Fr To U r i) i) ||| (2 ^ (Fr i))))), (0, .ref g), (1, .int (nI v)), (2, .int (zB al)), (3, .int (zB ag)), (4, .ref ua), (6, .int (nI ps)), (7, .int (nI r)), (8, .int (nI i))]) hx hb dX2_reachOf_105 hl (by decide) rfl (fun ls hl => ?_)
                      have hl : lv_has ls 9 [(5, .int (nI (gRP al ag Fr To U r (i + 1)))), (0, .ref g), (1, .int (nI v)), (2, .int (zB al)), (3, .int (zB ag)), (4, .ref ua), (6, .int (nI ps)), (7, .int (nI r)), (8, .int (nI i))] := by
                        have q9 : nI (gRP al ag Fr To U r (i + 1)) = nI ((gRa al Fr To (gRP al ag Fr To U r i) i) ||| (2 ^ (Fr i))) := by congr 1; simp only [gRP, gR1, gRb]; first | rw [if_neg (by omega)] | simp_all
                        rw [q9]; exact hl
                      refine lv_iinc (v := nI (i + 1)) (lv' := [(8, .int (nI (i + 1))), (5, .int (nI (gRP al ag Fr To U r (i + 1)))), (0, .ref g), (1, .int (nI v)), (2, .int (zB al)), (3, .int (zB ag)), (4, .ref ua), (6, .int (nI ps)), (7, .int (nI r))]) hx hb dX2_reachOf_107 hl (k := 8) rfl (nI_1 i) (by decide) rfl (fun ls hl => ?_)
                      refine lv_goto (tgt := 22) hx hb dX2_reachOf_110 (by decide) ?_
                      exact ih22 (i + 1) (by omega) (by omega) ls (lv_sub hl [2, 3, 4, 5, 6, 1, 7, 8, 0] (by rfl))
                refine lv_iload_n hx hb dX2_reachOf_39 rfl (lv_at hl 2 rfl) ?_
                refine z_ifeq hx hb (tgt := 73) dX2_reachOf_40 (by decide) (fun h40 => ?_) (fun h40 => ?_)
                · skip
                  have hl : lv_has ls 9 [(0, .ref g), (1, .int (nI v)), (2, .int (zB al)), (3, .int (zB ag)), (4, .ref ua), (5, .int (nI (gRa al Fr To (gRP al ag Fr To U r i) i))), (6, .int (nI ps)), (7, .int (nI r)), (8, .int (nI i))] := by
                    have q9 : nI (gRa al Fr To (gRP al ag Fr To U r i) i) = nI (gRP al ag Fr To U r i) := by congr 1; simp only [gRa]; simp_all
                    rw [q9]; exact hl
                  exact J73   ls (lv_sub hl [0, 1, 2, 3, 4, 5, 6, 7, 8] (by rfl))
                · skip
                  refine lv_iload hx hb dX2_reachOf_43 (lv_at hl 5 rfl) ?_
                  refine lv_aload_n hx hb dX2_reachOf_45 rfl (lv_at hl 0 rfl) ?_
                  refine va_get (D := D) (ci := 2) (v := .ref gf) (C := RX2) (T := TX2) (N := 6) hx hb hts hin2 hown hK hP 0 rfl rfl 0 (by decide) (hts (.fieldLink RX2 9 "TourHouse$Graph" "from" "[I") (by decide +kernel)) (fun _ h9 => h9) rfl dX2_reachOf_46 ?_
                  refine lv_iload hx hb dX2_reachOf_49 (lv_at hl 8 rfl) ?_
                  refine z_iald hx hb hK hP 1 0 rfl rfl (k := i) (by omega) (by decide) (v := nI (Fr i)) rfl dX2_reachOf_51 ?_
                  refine lv_ishr hx hb dX2_reachOf_52 ?_
                  refine z_topi (v := nI ((gRP al ag Fr To U r i) / 2 ^ (Fr i))) (nb_shr (Nat.lt_trans (gRP_lt hF hT hr16 i) (by decide)) (Nat.lt_trans (hF _) (by decide))) ?_
                  refine lv_iconst (v := nI 1) hx hb dX2_reachOf_53 (by decide) ?_
                  refine lv_iand hx hb dX2_reachOf_54 ?_
                  refine z_topi (v := nI (((gRP al ag Fr To U r i) / 2 ^ (Fr i)) % 2)) (nb_and1 ((gRP al ag Fr To U r i) / 2 ^ (Fr i))) ?_
                  refine lv_iconst (v := nI 1) hx hb dX2_reachOf_55 (by decide) ?_
                  refine z_ne hx hb (by omega) (by decide) (tgt := 73) dX2_reachOf_56 (by decide) (fun h56 => ?_) (fun h56 => ?_)
                  · skip
                    have hl : lv_has ls 9 [(0, .ref g), (1, .int (nI v)), (2, .int (zB al)), (3, .int (zB ag)), (4, .ref ua), (5, .int (nI (gRa al Fr To (gRP al ag Fr To U r i) i))), (6, .int (nI ps)), (7, .int (nI r)), (8, .int (nI i))] := by
                      have q9 : nI (gRa al Fr To (gRP al ag Fr To U r i) i) = nI (gRP al ag Fr To U r i) := by congr 1; simp only [gRa]; simp_all
                      rw [q9]; exact hl
                    exact J73   ls (lv_sub hl [0, 1, 2, 3, 4, 5, 6, 7, 8] (by rfl))
                  · skip
                    refine lv_iload hx hb dX2_reachOf_59 (lv_at hl 5 rfl) ?_
                    refine lv_iconst (v := nI 1) hx hb dX2_reachOf_61 (by decide) ?_
                    refine lv_aload_n hx hb dX2_reachOf_62 rfl (lv_at hl 0 rfl) ?_
                    refine va_get (D := D) (ci := 2) (v := .ref gt) (C := RX2) (T := TX2) (N := 6) hx hb hts hin2 hown hK hP 0 rfl rfl 1 (by decide) (hts (.fieldLink RX2 15 "TourHouse$Graph" "to" "[I") (by decide +kernel)) (fun _ h9 => h9) rfl dX2_reachOf_63 ?_
                    refine lv_iload hx hb dX2_reachOf_66 (lv_at hl 8 rfl) ?_
                    refine z_iald hx hb hK hP 2 0 rfl rfl (k := i) (by omega) (by decide) (v := nI (To i)) rfl dX2_reachOf_68 ?_
                    refine lv_ishl hx hb dX2_reachOf_69 ?_
                    refine z_topi (v := nI (2 ^ (To i))) (nb_shl1 (Nat.lt_trans (hT _) (by decide))) ?_
                    refine lv_ior hx hb dX2_reachOf_70 ?_
                    refine z_topi (v := nI ((gRP al ag Fr To U r i) ||| (2 ^ (To i)))) (nb_or _ _) ?_
                    refine lv_istore (lv' := [(5, .int (nI ((gRP al ag Fr To U r i) ||| (2 ^ (To i))))), (0, .ref g), (1, .int (nI v)), (2, .int (zB al)), (3, .int (zB ag)), (4, .ref ua), (6, .int (nI ps)), (7, .int (nI r)), (8, .int (nI i))]) hx hb dX2_reachOf_71 hl (by decide) rfl (fun ls hl => ?_)
                    have hl : lv_has ls 9 [(5, .int (nI (gRa al Fr To (gRP al ag Fr To U r i) i))), (0, .ref g), (1, .int (nI v)), (2, .int (zB al)), (3, .int (zB ag)), (4, .ref ua), (6, .int (nI ps)), (7, .int (nI r)), (8, .int (nI i))] := by
                      have q9 : nI (gRa al Fr To (gRP al ag Fr To U r i) i) = nI ((gRP al ag Fr To U r i) ||| (2 ^ (To i))) := by congr 1; simp only [gRa]; simp_all
                      rw [q9]; exact hl
                    exact J73   ls (lv_sub hl [1, 2, 3, 4, 5, 0, 6, 7, 8] (by rfl))
        exact J22 ((me - 0) + 1) 0 (by omega) (by omega) ls (lv_sub hl [2, 3, 4, 5, 6, 7, 8, 1, 0] (by rfl))
  exact J8 ((16 - 0) + 1) 0 (2 ^ v) (by omega) (nb_p2 hv) rfl (by omega) ls (lv_sub hl [2, 3, 4, 5, 6, 1, 0] (by rfl))
