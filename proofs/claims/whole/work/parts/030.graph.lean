/-- how many of the first k edges come to v, less how many go from it -/
def gSur (Fr To : Nat → Nat) (v : Nat) : Nat → Int
  | 0 => 0
  | k + 1 => gSur Fr To v k + ((if To k = v then 1 else 0) - (if Fr k = v then 1 else 0))
set_option maxHeartbeats 4000000 in
set_option maxRecDepth 100000 in
/-- Graph.surplusAt -/
theorem c_X2_surplusAt (l : Launch) (D : va_G) (cA : Nat → ClassId) (g : Nat) (gf : Nat) (gt : Nat) (gw : Nat) (Fr : Nat → Nat) (To : Nat → Nat) (dir : Bool) (nv : Nat) (me : Nat) (v : Nat) (hme : me ≤ 40) (hF : ∀ j, Fr j < 16) (hT : ∀ j, To j < 16) (hv : v < 2 ^ 31) : Met l yX2_surplusAt wsX2_surplusAt ({ frames := 0, cells := 0, slots := 0, locals := 0 } : Room) (zRd D vwCl (zT cA) [(g, .inr (2, [.ref gf, .ref gt, .ref gw, .int (zB dir), .int (nI nv), .int (nI me)])), (gf, aI cA 40 (fun j => nI (Fr j))), (gt, aI cA 40 (fun j => nI (To j)))] [.ref g, .int (nI v)]) (vp_Si (fun r => r = iZ (gSur Fr To v me))) 0 0 (fun _ => False) := by
  refine z_read (cc := cX2_surplusAt) (maxL := 4) (ret := (some .int)) (by decide) rfl (Nat.le_of_ble_eq_true rfl) ?_
  intro p e s m below meth c hx hb hr hml hown hts hlocks hP hK Q hQ ls hl
  have hown : s.vm.findClass RX2 = some m.cls := hown
  have hl : lv_has ls 4 [(0, .ref g), (1, .int (nI v))] := hl
  generalize hav : ([.ref g, .int (nI v)] : List Value).toArray = args at hts hQ ⊢
  have hin2 : ∀ w ∈ wsX20, w ∈ wsX2_surplusAt := by decide +kernel
  refine lv_iconst (v := iZ (gSur Fr To v 0)) hx hb dX2_surplusAt_0 (by rfl) ?_
  refine lv_istore_n (lv' := [(2, .int (iZ (gSur Fr To v 0))), (0, .ref g), (1, .int (nI v))]) hx hb dX2_surplusAt_1 rfl hl (by decide) rfl (fun ls hl => ?_)
  refine lv_iconst (v := nI 0) hx hb dX2_surplusAt_2 (by decide) ?_
  refine lv_istore_n (lv' := [(3, .int (nI 0)), (2, .int (iZ (gSur Fr To v 0))), (0, .ref g), (1, .int (nI v))]) hx hb dX2_surplusAt_3 rfl hl (by decide) rfl (fun ls hl => ?_)
  have J4 : ∀ (n : Nat), ∀ (i : Nat), (i ≤ me) → me - i < n → ∀ (ls : Array Slot), lv_has ls 4 [(0, .ref g), (1, .int (nI v)), (2, .int (iZ (gSur Fr To v i))), (3, .int (nI i))] → W p l e ({ frames := 0, cells := 0, slots := 0, locals := 0 } : Room) s m args below meth c s.heap [] 0 0 Q (F0 m 4 ls []) := by
    intro n
    induction n with
    | zero => intro i hi hn; exact absurd hn (Nat.not_lt_zero _)
    | succ n ih =>
      intro i hi hn ls hl
      refine lv_iload_n hx hb dX2_surplusAt_4 rfl (lv_at hl 3 rfl) ?_
      refine lv_aload_n hx hb dX2_surplusAt_5 rfl (lv_at hl 0 rfl) ?_
      refine va_get (D := D) (ci := 2) (v := .int (nI me)) (C := RX2) (T := TX2) (N := 6) hx hb hts hin2 hown hK hP 0 rfl rfl 5 (by decide) (hts (.fieldLink RX2 29 "TourHouse$Graph" "edges" "I") (by decide +kernel)) (fun _ h9 => h9) rfl dX2_surplusAt_6 ?_
      refine z_ge hx hb (by omega) (by omega) (tgt := 52) dX2_surplusAt_9 (by decide) (fun h9 => ?_) (fun h9 => ?_)
      · skip
        refine lv_iload_n hx hb dX2_surplusAt_52 rfl (lv_at hl 2 rfl) ?_
        exact z_iretR hx hb hr hlocks hQ (by rw [show i = me from by omega]) dX2_surplusAt_53 rfl rfl
      · skip
        refine lv_iload_n hx hb dX2_surplusAt_12 rfl (lv_at hl 2 rfl) ?_
        refine lv_aload_n hx hb dX2_surplusAt_13 rfl (lv_at hl 0 rfl) ?_
        refine va_get (D := D) (ci := 2) (v := .ref gt) (C := RX2) (T := TX2) (N := 6) hx hb hts hin2 hown hK hP 0 rfl rfl 1 (by decide) (hts (.fieldLink RX2 15 "TourHouse$Graph" "to" "[I") (by decide +kernel)) (fun _ h9 => h9) rfl dX2_surplusAt_14 ?_
        refine lv_iload_n hx hb dX2_surplusAt_17 rfl (lv_at hl 3 rfl) ?_
        refine z_iald hx hb hK hP 2 0 rfl rfl (k := i) (by omega) (by decide) (v := nI (To i)) rfl dX2_surplusAt_18 ?_
        refine lv_iload_n hx hb dX2_surplusAt_19 rfl (lv_at hl 1 rfl) ?_
        refine z_ne hx hb (Nat.lt_trans (hT _) (by decide)) (by omega) (tgt := 27) dX2_surplusAt_20 (by decide) (fun h20 => ?_) (fun h20 => ?_)
        · skip
          refine lv_iconst (v := nI 0) hx hb dX2_surplusAt_27 (by decide) ?_
          refine lv_aload_n hx hb dX2_surplusAt_28 rfl (lv_at hl 0 rfl) ?_
          refine va_get (D := D) (ci := 2) (v := .ref gf) (C := RX2) (T := TX2) (N := 6) hx hb hts hin2 hown hK hP 0 rfl rfl 0 (by decide) (hts (.fieldLink RX2 9 "TourHouse$Graph" "from" "[I") (by decide +kernel)) (fun _ h9 => h9) rfl dX2_surplusAt_29 ?_
          refine lv_iload_n hx hb dX2_surplusAt_32 rfl (lv_at hl 3 rfl) ?_
          refine z_iald hx hb hK hP 1 0 rfl rfl (k := i) (by omega) (by decide) (v := nI (Fr i)) rfl dX2_surplusAt_33 ?_
          refine lv_iload_n hx hb dX2_surplusAt_34 rfl (lv_at hl 1 rfl) ?_
          refine z_ne hx hb (Nat.lt_trans (hF _) (by decide)) (by omega) (tgt := 42) dX2_surplusAt_35 (by decide) (fun h35 => ?_) (fun h35 => ?_)
          · skip
            refine lv_iconst (v := nI 0) hx hb dX2_surplusAt_42 (by decide) ?_
            refine lv_isub hx hb dX2_surplusAt_43 ?_
            refine z_topi (v := iZ (((0 : Nat) : Int) - ((0 : Nat) : Int))) (iZ_sub ((0 : Nat) : Int) ((0 : Nat) : Int)) ?_
            refine lv_iadd hx hb dX2_surplusAt_44 ?_
            refine z_topi (v := iZ (gSur Fr To v (i + 1))) (by rw [iZ_add]; congr 1; simp [gSur, h20, h35]) ?_
            refine lv_istore_n (lv' := [(2, .int (iZ (gSur Fr To v (i + 1)))), (0, .ref g), (1, .int (nI v)), (3, .int (nI i))]) hx hb dX2_surplusAt_45 rfl hl (by decide) rfl (fun ls hl => ?_)
            refine lv_iinc (v := nI (i + 1)) (lv' := [(3, .int (nI (i + 1))), (2, .int (iZ (gSur Fr To v (i + 1)))), (0, .ref g), (1, .int (nI v))]) hx hb dX2_surplusAt_46 hl (k := 3) rfl (nI_1 i) (by decide) rfl (fun ls hl => ?_)
            refine lv_goto (tgt := 4) hx hb dX2_surplusAt_49 (by decide) ?_
            exact ih (i + 1) (by omega) (by omega) ls (lv_sub hl [2, 3, 1, 0] (by rfl))
          · skip
            refine lv_iconst (v := nI 1) hx hb dX2_surplusAt_38 (by decide) ?_
            refine lv_goto (tgt := 43) hx hb dX2_surplusAt_39 (by decide) ?_
            refine lv_isub hx hb dX2_surplusAt_43 ?_
            refine z_topi (v := iZ (((0 : Nat) : Int) - ((1 : Nat) : Int))) (iZ_sub ((0 : Nat) : Int) ((1 : Nat) : Int)) ?_
            refine lv_iadd hx hb dX2_surplusAt_44 ?_
            refine z_topi (v := iZ (gSur Fr To v (i + 1))) (by rw [iZ_add]; congr 1; simp [gSur, h20, h35]) ?_
            refine lv_istore_n (lv' := [(2, .int (iZ (gSur Fr To v (i + 1)))), (0, .ref g), (1, .int (nI v)), (3, .int (nI i))]) hx hb dX2_surplusAt_45 rfl hl (by decide) rfl (fun ls hl => ?_)
            refine lv_iinc (v := nI (i + 1)) (lv' := [(3, .int (nI (i + 1))), (2, .int (iZ (gSur Fr To v (i + 1)))), (0, .ref g), (1, .int (nI v))]) hx hb dX2_surplusAt_46 hl (k := 3) rfl (nI_1 i) (by decide) rfl (fun ls hl => ?_)
            refine lv_goto (tgt := 4) hx hb dX2_surplusAt_49 (by decide) ?_
            exact ih (i + 1) (by omega) (by omega) ls (lv_sub hl [2, 3, 1, 0] (by rfl))
        · skip
          refine lv_iconst (v := nI 1) hx hb dX2_surplusAt_23 (by decide) ?_
          refine lv_goto (tgt := 28) hx hb dX2_surplusAt_24 (by decide) ?_
          refine lv_aload_n hx hb dX2_surplusAt_28 rfl (lv_at hl 0 rfl) ?_
          refine va_get (D := D) (ci := 2) (v := .ref gf) (C := RX2) (T := TX2) (N := 6) hx hb hts hin2 hown hK hP 0 rfl rfl 0 (by decide) (hts (.fieldLink RX2 9 "TourHouse$Graph" "from" "[I") (by decide +kernel)) (fun _ h9 => h9) rfl dX2_surplusAt_29 ?_
          refine lv_iload_n hx hb dX2_surplusAt_32 rfl (lv_at hl 3 rfl) ?_
          refine z_iald hx hb hK hP 1 0 rfl rfl (k := i) (by omega) (by decide) (v := nI (Fr i)) rfl dX2_surplusAt_33 ?_
          refine lv_iload_n hx hb dX2_surplusAt_34 rfl (lv_at hl 1 rfl) ?_
          refine z_ne hx hb (Nat.lt_trans (hF _) (by decide)) (by omega) (tgt := 42) dX2_surplusAt_35 (by decide) (fun h35 => ?_) (fun h35 => ?_)
          · skip
            refine lv_iconst (v := nI 0) hx hb dX2_surplusAt_42 (by decide) ?_
            refine lv_isub hx hb dX2_surplusAt_43 ?_
            refine z_topi (v := iZ (((1 : Nat) : Int) - ((0 : Nat) : Int))) (iZ_sub ((1 : Nat) : Int) ((0 : Nat) : Int)) ?_
            refine lv_iadd hx hb dX2_surplusAt_44 ?_
            refine z_topi (v := iZ (gSur Fr To v (i + 1))) (by rw [iZ_add]; congr 1; simp [gSur, h20, h35]) ?_
            refine lv_istore_n (lv' := [(2, .int (iZ (gSur Fr To v (i + 1)))), (0, .ref g), (1, .int (nI v)), (3, .int (nI i))]) hx hb dX2_surplusAt_45 rfl hl (by decide) rfl (fun ls hl => ?_)
            refine lv_iinc (v := nI (i + 1)) (lv' := [(3, .int (nI (i + 1))), (2, .int (iZ (gSur Fr To v (i + 1)))), (0, .ref g), (1, .int (nI v))]) hx hb dX2_surplusAt_46 hl (k := 3) rfl (nI_1 i) (by decide) rfl (fun ls hl => ?_)
            refine lv_goto (tgt := 4) hx hb dX2_surplusAt_49 (by decide) ?_
            exact ih (i + 1) (by omega) (by omega) ls (lv_sub hl [2, 3, 1, 0] (by rfl))
          · skip
            refine lv_iconst (v := nI 1) hx hb dX2_surplusAt_38 (by decide) ?_
            refine lv_goto (tgt := 43) hx hb dX2_surplusAt_39 (by decide) ?_
            refine lv_isub hx hb dX2_surplusAt_43 ?_
            refine z_topi (v := iZ (((1 : Nat) : Int) - ((1 : Nat) : Int))) (iZ_sub ((1 : Nat) : Int) ((1 : Nat) : Int)) ?_
            refine lv_iadd hx hb dX2_surplusAt_44 ?_
            refine z_topi (v := iZ (gSur Fr To v (i + 1))) (by rw [iZ_add]; congr 1; simp [gSur, h20, h35]) ?_
            refine lv_istore_n (lv' := [(2, .int (iZ (gSur Fr To v (i + 1)))), (0, .ref g), (1, .int (nI v)), (3, .int (nI i))]) hx hb dX2_surplusAt_45 rfl hl (by decide) rfl (fun ls hl => ?_)
            refine lv_iinc (v := nI (i + 1)) (lv' := [(3, .int (nI (i + 1))), (2, .int (iZ (gSur Fr To v (i + 1)))), (0, .ref g), (1, .int (nI v))]) hx hb dX2_surplusAt_46 hl (k := 3) rfl (nI_1 i) (by decide) rfl (fun ls hl => ?_)
            refine lv_goto (tgt := 4) hx hb dX2_surplusAt_49 (by decide) ?_
            exact ih (i + 1) (by omega) (by omega) ls (lv_sub hl [2, 3, 1, 0] (by rfl))
  exact J4 ((me - 0) + 1) 0 (by omega) (by omega) ls (lv_sub hl [2, 3, 1, 0] (by rfl))
