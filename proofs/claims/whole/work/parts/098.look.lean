def bc1 (n : Nat) : Nat := n - (n / 2 ^ 1 &&& 1431655765)
def bc2 (n : Nat) : Nat := (bc1 n &&& 858993459) + (bc1 n / 2 ^ 2 &&& 858993459)
def bc3 (n : Nat) : Nat := (bc2 n + bc2 n / 2 ^ 4) &&& 252645135
def bc4 (n : Nat) : Nat := bc3 n + bc3 n / 2 ^ 8
def bc5 (n : Nat) : Nat := bc4 n + bc4 n / 2 ^ 16
def bcR (n : Nat) : Nat := bc5 n &&& 63
theorem bc_le1 (n : Nat) : n / 2 ^ 1 &&& 1431655765 ≤ n := Nat.le_trans Nat.and_le_left (Nat.div_le_self _ _)
theorem bc1_le (n : Nat) : bc1 n ≤ n := Nat.sub_le _ _
theorem bc2_le {n : Nat} (h : n < 65536) : bc2 n ≤ 131072 := by
  have h1 := bc1_le n
  have h2 : bc1 n &&& 858993459 ≤ bc1 n := Nat.and_le_left
  have h3 : bc1 n / 2 ^ 2 &&& 858993459 ≤ bc1 n / 2 ^ 2 := Nat.and_le_left
  unfold bc2; omega
theorem bc3_le {n : Nat} (h : n < 65536) : bc3 n ≤ 262144 := by
  have h1 := bc2_le h
  have h2 : (bc2 n + bc2 n / 2 ^ 4) &&& 252645135 ≤ bc2 n + bc2 n / 2 ^ 4 := Nat.and_le_left
  unfold bc3; omega
theorem bc4_le {n : Nat} (h : n < 65536) : bc4 n ≤ 524288 := by
  have h1 := bc3_le h
  unfold bc4; omega
/-- how many of the first k bits are set -/
def bcN (n : Nat) : Nat → Nat
  | 0 => 0
  | k + 1 => bcN n k + n / 2 ^ k % 2
set_option maxHeartbeats 4000000 in
set_option maxRecDepth 100000 in
/-- Integer.bitCount -/
theorem c_J6_bitCount_0f7a4 (l : Launch) (D : va_G) (cA : Nat → ClassId) (n : Nat) (hn : n < 65536) : Met l yJ6_bitCount_0f7a4 wsJ6_bitCount_0f7a4 ({ frames := 0, cells := 0, slots := 0, locals := 0 } : Room) (zRd D vwCl (zT cA) [] [.int (nI n)]) (vp_Si (fun r => r = nI (bcR n))) 0 0 (fun _ => False) := by
  refine z_read (cc := cJ6_bitCount_0f7a4) (maxL := 1) (ret := (some .int)) (by decide) rfl (Nat.le_of_ble_eq_true rfl) ?_
  intro p e s m below meth c hx hb hr hml hown hts hlocks hP hK Q hQ ls hl
  have hown : s.vm.findClass RJ6 = some m.cls := hown
  have hl : lv_has ls 1 [(0, .int (nI n))] := hl
  generalize hav : ([.int (nI n)] : List Value).toArray = args at hts hQ ⊢
  refine lv_iload_n hx hb dJ6_bitCount_0f7a4_0 rfl (lv_at hl 0 rfl) ?_
  refine lv_iload_n hx hb dJ6_bitCount_0f7a4_1 rfl (lv_at hl 0 rfl) ?_
  refine lv_iconst (v := nI 1) hx hb dJ6_bitCount_0f7a4_2 (by decide) ?_
  refine lv_iushr (v := nI (n / 2 ^ 1)) hx hb dJ6_bitCount_0f7a4_3 (pk_ushrN (by omega) (nI 1) 1 (by decide)) ?_
  refine lv_ldcw (v := (1431655765)) hx hb hown (hts (.constant RJ6 265 (1431655765)) (by decide +kernel)) dJ6_bitCount_0f7a4_4 ?_
  refine z_topi (v := nI 1431655765) (by decide) ?_
  refine lv_iand hx hb dJ6_bitCount_0f7a4_7 ?_
  refine z_topi (v := nI (n / 2 ^ 1 &&& 1431655765)) (nb_and _ _) ?_
  refine lv_isub hx hb dJ6_bitCount_0f7a4_8 ?_
  refine z_topi (v := nI (bc1 n)) (pk_sub (bc_le1 n)) ?_
  refine lv_istore_n (lv' := [(0, .int (nI (bc1 n)))]) hx hb dJ6_bitCount_0f7a4_9 rfl hl (by decide) rfl (fun ls hl => ?_)
  refine lv_iload_n hx hb dJ6_bitCount_0f7a4_10 rfl (lv_at hl 0 rfl) ?_
  refine lv_ldcw (v := (858993459)) hx hb hown (hts (.constant RJ6 266 (858993459)) (by decide +kernel)) dJ6_bitCount_0f7a4_11 ?_
  refine z_topi (v := nI 858993459) (by decide) ?_
  refine lv_iand hx hb dJ6_bitCount_0f7a4_14 ?_
  refine z_topi (v := nI (bc1 n &&& 858993459)) (nb_and _ _) ?_
  refine lv_iload_n hx hb dJ6_bitCount_0f7a4_15 rfl (lv_at hl 0 rfl) ?_
  refine lv_iconst (v := nI 2) hx hb dJ6_bitCount_0f7a4_16 (by decide) ?_
  refine lv_iushr (v := nI (bc1 n / 2 ^ 2)) hx hb dJ6_bitCount_0f7a4_17 (pk_ushrN (by have := bc1_le n; omega) (nI 2) 2 (by decide)) ?_
  refine lv_ldcw (v := (858993459)) hx hb hown (hts (.constant RJ6 266 (858993459)) (by decide +kernel)) dJ6_bitCount_0f7a4_18 ?_
  refine z_topi (v := nI 858993459) (by decide) ?_
  refine lv_iand hx hb dJ6_bitCount_0f7a4_21 ?_
  refine z_topi (v := nI (bc1 n / 2 ^ 2 &&& 858993459)) (nb_and _ _) ?_
  refine lv_iadd hx hb dJ6_bitCount_0f7a4_22 ?_
  refine z_topi (v := nI (bc2 n)) (nI_add _ _) ?_
  refine lv_istore_n (lv' := [(0, .int (nI (bc2 n)))]) hx hb dJ6_bitCount_0f7a4_23 rfl hl (by decide) rfl (fun ls hl => ?_)
  refine lv_iload_n hx hb dJ6_bitCount_0f7a4_24 rfl (lv_at hl 0 rfl) ?_
  refine lv_iload_n hx hb dJ6_bitCount_0f7a4_25 rfl (lv_at hl 0 rfl) ?_
  refine lv_iconst (v := nI 4) hx hb dJ6_bitCount_0f7a4_26 (by decide) ?_
  refine lv_iushr (v := nI (bc2 n / 2 ^ 4)) hx hb dJ6_bitCount_0f7a4_27 (pk_ushrN (by have := bc2_le hn; omega) (nI 4) 4 (by decide)) ?_
  refine lv_iadd hx hb dJ6_bitCount_0f7a4_28 ?_
  refine z_topi (v := nI (bc2 n + bc2 n / 2 ^ 4)) (nI_add _ _) ?_
  refine lv_ldcw (v := (252645135)) hx hb hown (hts (.constant RJ6 267 (252645135)) (by decide +kernel)) dJ6_bitCount_0f7a4_29 ?_
  refine z_topi (v := nI 252645135) (by decide) ?_
  refine lv_iand hx hb dJ6_bitCount_0f7a4_32 ?_
  refine z_topi (v := nI (bc3 n)) (nb_and _ _) ?_
  refine lv_istore_n (lv' := [(0, .int (nI (bc3 n)))]) hx hb dJ6_bitCount_0f7a4_33 rfl hl (by decide) rfl (fun ls hl => ?_)
  refine lv_iload_n hx hb dJ6_bitCount_0f7a4_34 rfl (lv_at hl 0 rfl) ?_
  refine lv_iload_n hx hb dJ6_bitCount_0f7a4_35 rfl (lv_at hl 0 rfl) ?_
  refine lv_bipush (v := nI 8) hx hb dJ6_bitCount_0f7a4_36 (by decide) ?_
  refine lv_iushr (v := nI (bc3 n / 2 ^ 8)) hx hb dJ6_bitCount_0f7a4_38 (pk_ushrN (by have := bc3_le hn; omega) (nI 8) 8 (by decide)) ?_
  refine lv_iadd hx hb dJ6_bitCount_0f7a4_39 ?_
  refine z_topi (v := nI (bc4 n)) (nI_add _ _) ?_
  refine lv_istore_n (lv' := [(0, .int (nI (bc4 n)))]) hx hb dJ6_bitCount_0f7a4_40 rfl hl (by decide) rfl (fun ls hl => ?_)
  refine lv_iload_n hx hb dJ6_bitCount_0f7a4_41 rfl (lv_at hl 0 rfl) ?_
  refine lv_iload_n hx hb dJ6_bitCount_0f7a4_42 rfl (lv_at hl 0 rfl) ?_
  refine lv_bipush (v := nI 16) hx hb dJ6_bitCount_0f7a4_43 (by decide) ?_
  refine lv_iushr (v := nI (bc4 n / 2 ^ 16)) hx hb dJ6_bitCount_0f7a4_45 (pk_ushrN (by have := bc4_le hn; omega) (nI 16) 16 (by decide)) ?_
  refine lv_iadd hx hb dJ6_bitCount_0f7a4_46 ?_
  refine z_topi (v := nI (bc5 n)) (nI_add _ _) ?_
  refine lv_istore_n (lv' := [(0, .int (nI (bc5 n)))]) hx hb dJ6_bitCount_0f7a4_47 rfl hl (by decide) rfl (fun ls hl => ?_)
  refine lv_iload_n hx hb dJ6_bitCount_0f7a4_48 rfl (lv_at hl 0 rfl) ?_
  refine lv_bipush (v := nI 63) hx hb dJ6_bitCount_0f7a4_49 (by decide) ?_
  refine lv_iand hx hb dJ6_bitCount_0f7a4_51 ?_
  refine z_topi (v := nI (bcR n)) (nb_and _ _) ?_
  exact z_iretR hx hb hr hlocks hQ (rfl) dJ6_bitCount_0f7a4_52 rfl rfl
set_option maxHeartbeats 4000000 in
set_option maxRecDepth 100000 in
/-- look(0) -/
theorem c_X5_look_0 (l : Launch) (D : va_G) (cA : Nat → ClassId) (th : Nat) (lr : Nat) (pa : Nat) (ua : Nat) (xa : Nat) (ds : Nat) (pr : Nat) (bl : Nat) (est : Bool) (g : Nat) (gf : Nat) (gt : Nat) (gw : Nat) (dir : Bool) (nv : Nat) (me : Nat)  : Met l yX5_look wsX5_look ({ frames := 2, cells := 0, slots := 0, locals := 52 } : Room) (zRd D vwCl (zT cA) [(th, .inr (5, [.ref g, .ref lr, .ref pa, .ref ua, .ref xa, .ref ds, .ref pr, .ref bl, .int (zB est)])), (g, .inr (2, [.ref gf, .ref gt, .ref gw, .int (zB dir), .int (nI nv), .int (nI me)]))] [.ref th, .int (nI 0)]) (vp_Si (fun r => r = nI nv)) 0 0 (fun _ => False) := by
  refine z_read (cc := cX5_look) (maxL := 2) (ret := (some .int)) (by decide) rfl (Nat.le_of_ble_eq_true rfl) ?_
  intro p e s m below meth c hx hb hr hml hown hts hlocks hP hK Q hQ ls hl
  have hown : s.vm.findClass RX5 = some m.cls := hown
  have hl : lv_has ls 2 [(0, .ref th), (1, .int (nI 0))] := hl
  generalize hav : ([.ref th, .int (nI 0)] : List Value).toArray = args at hts hQ ⊢
  have hin2 : ∀ w ∈ wsX20, w ∈ wsX5_look := by decide +kernel
  have hin4 : ∀ w ∈ wsX40, w ∈ wsX5_look := by decide +kernel
  have hin5 : ∀ w ∈ wsX50, w ∈ wsX5_look := by decide +kernel
  refine lv_iload_n hx hb dX5_look_0 rfl (lv_at hl 1 rfl) ?_
  refine lv_tableIn (off := 51) (tgt := 52) hx hb dX5_look_1 (by decide) (by decide) (by decide) (by decide) ?_
  refine lv_aload_n hx hb dX5_look_52 rfl (lv_at hl 0 rfl) ?_
  refine va_get (D := D) (ci := 5) (v := .ref g) (C := RX5) (T := TX5) (N := 9) hx hb hts hin5 hown hK hP 0 rfl rfl 0 (by decide) (hts (.fieldLink RX5 12 "TourHouse" "graph" "LTourHouse$Graph;") (by decide +kernel)) (fun _ h9 => h9) rfl dX5_look_53 ?_
  refine va_get (D := D) (ci := 2) (v := .int (nI nv)) (C := RX2) (T := TX2) (N := 6) hx hb hts hin2 hown hK hP 1 rfl rfl 4 (by decide) (hts (.fieldLink RX5 166 "TourHouse$Graph" "vertices" "I") (by decide +kernel)) (fun _ h9 => h9) rfl dX5_look_56 ?_
  exact z_iretR hx hb hr hlocks hQ (rfl) dX5_look_59 rfl rfl
set_option maxHeartbeats 4000000 in
set_option maxRecDepth 100000 in
/-- look(1) -/
theorem c_X5_look_1 (l : Launch) (D : va_G) (cA : Nat → ClassId) (th : Nat) (lr : Nat) (pa : Nat) (ua : Nat) (xa : Nat) (ds : Nat) (pr : Nat) (bl : Nat) (est : Bool) (g : Nat) (gf : Nat) (gt : Nat) (gw : Nat) (dir : Bool) (nv : Nat) (me : Nat)  : Met l yX5_look wsX5_look ({ frames := 2, cells := 0, slots := 0, locals := 52 } : Room) (zRd D vwCl (zT cA) [(th, .inr (5, [.ref g, .ref lr, .ref pa, .ref ua, .ref xa, .ref ds, .ref pr, .ref bl, .int (zB est)])), (g, .inr (2, [.ref gf, .ref gt, .ref gw, .int (zB dir), .int (nI nv), .int (nI me)]))] [.ref th, .int (nI 1)]) (vp_Si (fun r => r = nI me)) 0 0 (fun _ => False) := by
  refine z_read (cc := cX5_look) (maxL := 2) (ret := (some .int)) (by decide) rfl (Nat.le_of_ble_eq_true rfl) ?_
  intro p e s m below meth c hx hb hr hml hown hts hlocks hP hK Q hQ ls hl
  have hown : s.vm.findClass RX5 = some m.cls := hown
  have hl : lv_has ls 2 [(0, .ref th), (1, .int (nI 1))] := hl
  generalize hav : ([.ref th, .int (nI 1)] : List Value).toArray = args at hts hQ ⊢
  have hin2 : ∀ w ∈ wsX20, w ∈ wsX5_look := by decide +kernel
  have hin4 : ∀ w ∈ wsX40, w ∈ wsX5_look := by decide +kernel
  have hin5 : ∀ w ∈ wsX50, w ∈ wsX5_look := by decide +kernel
  refine lv_iload_n hx hb dX5_look_0 rfl (lv_at hl 1 rfl) ?_
  refine lv_tableIn (off := 59) (tgt := 60) hx hb dX5_look_1 (by decide) (by decide) (by decide) (by decide) ?_
  refine lv_aload_n hx hb dX5_look_60 rfl (lv_at hl 0 rfl) ?_
  refine va_get (D := D) (ci := 5) (v := .ref g) (C := RX5) (T := TX5) (N := 9) hx hb hts hin5 hown hK hP 0 rfl rfl 0 (by decide) (hts (.fieldLink RX5 12 "TourHouse" "graph" "LTourHouse$Graph;") (by decide +kernel)) (fun _ h9 => h9) rfl dX5_look_61 ?_
  refine va_get (D := D) (ci := 2) (v := .int (nI me)) (C := RX2) (T := TX2) (N := 6) hx hb hts hin2 hown hK hP 1 rfl rfl 5 (by decide) (hts (.fieldLink RX5 67 "TourHouse$Graph" "edges" "I") (by decide +kernel)) (fun _ h9 => h9) rfl dX5_look_64 ?_
  exact z_iretR hx hb hr hlocks hQ (rfl) dX5_look_67 rfl rfl
set_option maxHeartbeats 4000000 in
set_option maxRecDepth 100000 in
/-- look(2) -/
theorem c_X5_look_2 (l : Launch) (D : va_G) (cA : Nat → ClassId) (th : Nat) (lr : Nat) (pa : Nat) (ua : Nat) (xa : Nat) (ds : Nat) (pr : Nat) (bl : Nat) (est : Bool) (g : Nat) (gf : Nat) (gt : Nat) (gw : Nat) (dir : Bool) (nv : Nat) (me : Nat)  : Met l yX5_look wsX5_look ({ frames := 2, cells := 0, slots := 0, locals := 52 } : Room) (zRd D vwCl (zT cA) [(th, .inr (5, [.ref g, .ref lr, .ref pa, .ref ua, .ref xa, .ref ds, .ref pr, .ref bl, .int (zB est)])), (g, .inr (2, [.ref gf, .ref gt, .ref gw, .int (zB dir), .int (nI nv), .int (nI me)]))] [.ref th, .int (nI 2)]) (vp_Si (fun r => r = nI (if dir = true then 1 else 0))) 0 0 (fun _ => False) := by
  refine z_read (cc := cX5_look) (maxL := 2) (ret := (some .int)) (by decide) rfl (Nat.le_of_ble_eq_true rfl) ?_
  intro p e s m below meth c hx hb hr hml hown hts hlocks hP hK Q hQ ls hl
  have hown : s.vm.findClass RX5 = some m.cls := hown
  have hl : lv_has ls 2 [(0, .ref th), (1, .int (nI 2))] := hl
  generalize hav : ([.ref th, .int (nI 2)] : List Value).toArray = args at hts hQ ⊢
  have hin2 : ∀ w ∈ wsX20, w ∈ wsX5_look := by decide +kernel
  have hin4 : ∀ w ∈ wsX40, w ∈ wsX5_look := by decide +kernel
  have hin5 : ∀ w ∈ wsX50, w ∈ wsX5_look := by decide +kernel
  refine lv_iload_n hx hb dX5_look_0 rfl (lv_at hl 1 rfl) ?_
  refine lv_tableIn (off := 67) (tgt := 68) hx hb dX5_look_1 (by decide) (by decide) (by decide) (by decide) ?_
  refine lv_aload_n hx hb dX5_look_68 rfl (lv_at hl 0 rfl) ?_
  refine va_get (D := D) (ci := 5) (v := .ref g) (C := RX5) (T := TX5) (N := 9) hx hb hts hin5 hown hK hP 0 rfl rfl 0 (by decide) (hts (.fieldLink RX5 12 "TourHouse" "graph" "LTourHouse$Graph;") (by decide +kernel)) (fun _ h9 => h9) rfl dX5_look_69 ?_
  refine va_get (D := D) (ci := 2) (v := .int (zB dir)) (C := RX2) (T := TX2) (N := 6) hx hb hts hin2 hown hK hP 1 rfl rfl 3 (by decide) (hts (.fieldLink RX5 169 "TourHouse$Graph" "directed" "Z") (by decide +kernel)) (fun _ h9 => h9) rfl dX5_look_72 ?_
  refine z_ifeq hx hb (tgt := 82) dX5_look_75 (by decide) (fun h75 => ?_) (fun h75 => ?_)
  · skip
    refine lv_iconst (v := nI 0) hx hb dX5_look_82 (by decide) ?_
    exact z_iretR hx hb hr hlocks hQ (by congr 1; first | rw [if_pos h75] | rw [if_neg (by rw [h75]; decide)]) dX5_look_83 rfl rfl
  · skip
    refine lv_iconst (v := nI 1) hx hb dX5_look_78 (by decide) ?_
    refine lv_goto (tgt := 83) hx hb dX5_look_79 (by decide) ?_
    exact z_iretR hx hb hr hlocks hQ (by congr 1; first | rw [if_pos h75] | rw [if_neg (by rw [h75]; decide)]) dX5_look_83 rfl rfl
set_option maxHeartbeats 4000000 in
set_option maxRecDepth 100000 in
/-- look(3) -/
theorem c_X5_look_3 (l : Launch) (D : va_G) (cA : Nat → ClassId) (th : Nat) (lr : Nat) (pa : Nat) (ua : Nat) (xa : Nat) (ds : Nat) (pr : Nat) (bl : Nat) (est : Bool) (g : Nat) (la : Nat) (ln : Nat)  : Met l yX5_look wsX5_look ({ frames := 2, cells := 0, slots := 0, locals := 52 } : Room) (zRd D vwCl (zT cA) [(th, .inr (5, [.ref g, .ref lr, .ref pa, .ref ua, .ref xa, .ref ds, .ref pr, .ref bl, .int (zB est)])), (lr, .inr (4, [.ref la, .int (nI ln)]))] [.ref th, .int (nI 3)]) (vp_Si (fun r => r = nI ln)) 0 0 (fun _ => False) := by
  refine z_read (cc := cX5_look) (maxL := 2) (ret := (some .int)) (by decide) rfl (Nat.le_of_ble_eq_true rfl) ?_
  intro p e s m below meth c hx hb hr hml hown hts hlocks hP hK Q hQ ls hl
  have hown : s.vm.findClass RX5 = some m.cls := hown
  have hl : lv_has ls 2 [(0, .ref th), (1, .int (nI 3))] := hl
  generalize hav : ([.ref th, .int (nI 3)] : List Value).toArray = args at hts hQ ⊢
  have hin2 : ∀ w ∈ wsX20, w ∈ wsX5_look := by decide +kernel
  have hin4 : ∀ w ∈ wsX40, w ∈ wsX5_look := by decide +kernel
  have hin5 : ∀ w ∈ wsX50, w ∈ wsX5_look := by decide +kernel
  refine lv_iload_n hx hb dX5_look_0 rfl (lv_at hl 1 rfl) ?_
  refine lv_tableIn (off := 83) (tgt := 84) hx hb dX5_look_1 (by decide) (by decide) (by decide) (by decide) ?_
  refine lv_aload_n hx hb dX5_look_84 rfl (lv_at hl 0 rfl) ?_
  refine va_get (D := D) (ci := 5) (v := .ref lr) (C := RX5) (T := TX5) (N := 9) hx hb hts hin5 hown hK hP 0 rfl rfl 1 (by decide) (hts (.fieldLink RX5 21 "TourHouse" "latestRow" "LTourHouse$StepRow;") (by decide +kernel)) (fun _ h9 => h9) rfl dX5_look_85 ?_
  refine va_get (D := D) (ci := 4) (v := .int (nI ln)) (C := RX4) (T := TX4) (N := 2) hx hb hts hin4 hown hK hP 1 rfl rfl 1 (by decide) (hts (.fieldLink RX5 126 "TourHouse$StepRow" "length" "I") (by decide +kernel)) (fun _ h9 => h9) rfl dX5_look_88 ?_
  exact z_iretR hx hb hr hlocks hQ (rfl) dX5_look_91 rfl rfl
set_option maxHeartbeats 4000000 in
set_option maxRecDepth 100000 in
/-- look(4) -/
theorem c_X5_look_4 (l : Launch) (D : va_G) (cA : Nat → ClassId) (th : Nat) (lr : Nat) (pa : Nat) (ua : Nat) (xa : Nat) (ds : Nat) (pr : Nat) (bl : Nat) (est : Bool) (g : Nat) (gf : Nat) (gt : Nat) (gw : Nat) (Fr : Nat → Nat) (To : Nat → Nat) (dir : Bool) (nv : Nat) (me : Nat) (hme : me ≤ 40) (hF : ∀ j, Fr j < 16) (hT : ∀ j, To j < 16) (hnv : nv ≤ 16) : Met l yX5_look wsX5_look ({ frames := 2, cells := 0, slots := 0, locals := 52 } : Room) (zRd D vwCl (zT cA) [(th, .inr (5, [.ref g, .ref lr, .ref pa, .ref ua, .ref xa, .ref ds, .ref pr, .ref bl, .int (zB est)])), (g, .inr (2, [.ref gf, .ref gt, .ref gw, .int (zB dir), .int (nI nv), .int (nI me)])), (gf, aI cA 40 (fun j => nI (Fr j))), (gt, aI cA 40 (fun j => nI (To j)))] [.ref th, .int (nI 4)]) (vp_Si (fun r => r = nI (bcR (gOddM dir Fr To me nv)))) 0 0 (fun _ => False) := by
  refine z_read (cc := cX5_look) (maxL := 2) (ret := (some .int)) (by decide) rfl (Nat.le_of_ble_eq_true rfl) ?_
  intro p e s m below meth c hx hb hr hml hown hts hlocks hP hK Q hQ ls hl
  have hown : s.vm.findClass RX5 = some m.cls := hown
  have hl : lv_has ls 2 [(0, .ref th), (1, .int (nI 4))] := hl
  generalize hav : ([.ref th, .int (nI 4)] : List Value).toArray = args at hts hQ ⊢
  have hin2 : ∀ w ∈ wsX20, w ∈ wsX5_look := by decide +kernel
  have hin4 : ∀ w ∈ wsX40, w ∈ wsX5_look := by decide +kernel
  have hin5 : ∀ w ∈ wsX50, w ∈ wsX5_look := by decide +kernel
  refine lv_iload_n hx hb dX5_look_0 rfl (lv_at hl 1 rfl) ?_
  refine lv_tableIn (off := 91) (tgt := 92) hx hb dX5_look_1 (by decide) (by decide) (by decide) (by decide) ?_
  refine lv_aload_n hx hb dX5_look_92 rfl (lv_at hl 0 rfl) ?_
  refine va_get (D := D) (ci := 5) (v := .ref g) (C := RX5) (T := TX5) (N := 9) hx hb hts hin5 hown hK hP 0 rfl rfl 0 (by decide) (hts (.fieldLink RX5 12 "TourHouse" "graph" "LTourHouse$Graph;") (by decide +kernel)) (fun _ h9 => h9) rfl dX5_look_93 ?_
  refine z_cRVi (wc := [(g, .inr (2, [.ref gf, .ref gt, .ref gw, .int (zB dir), .int (nI nv), .int (nI me)])), (gf, aI cA 40 (fun j => nI (Fr j))), (gt, aI cA 40 (fun j => nI (To j)))]) (rm := ({ frames := 1, cells := 0, slots := 0, locals := 23 } : Room)) (As := []) (rest := []) ⟨hx, hb, hml, hown, hts⟩ (c_X2_oddVertices l D cA g gf gt gw Fr To dir nv me (by first | assumption | omega) (by first | assumption | omega) (by first | assumption | omega) (by first | assumption | omega)) (cwV 0 hts gX5_look_X2_oddVertices rfl rfl rfl (by decide +kernel) ⟨Nat.le_of_ble_eq_true rfl, Nat.le_of_ble_eq_true rfl⟩) hP hK [1, 2, 3] rfl 2 0 rfl rfl rfl hl.1 rfl (Nat.le_of_ble_eq_true rfl) ⟨Nat.zero_le _, Nat.zero_le _⟩ dX5_look_96 (fun r hr96 => ?_)
  subst hr96
  refine z_cRSi (wc := []) (rm := ({ frames := 0, cells := 0, slots := 0, locals := 0 } : Room)) (As := [.int (nI (gOddM dir Fr To me nv))]) (rest := []) ⟨hx, hb, hml, hown, hts⟩ (c_J6_bitCount_0f7a4 l D cA (gOddM dir Fr To me nv) (gOddM_lt hnv)) (va_cwS 1 hts gX5_look_J6_bitCount_0f7a4 rfl rfl rfl (by decide +kernel) ⟨Nat.le_of_ble_eq_true rfl, Nat.le_of_ble_eq_true rfl⟩) hP hK [] rfl rfl hl.1 rfl (Nat.le_of_ble_eq_true rfl) ⟨Nat.zero_le _, Nat.zero_le _⟩ dX5_look_99 (fun r hr99 => ?_)
  subst hr99
  exact z_iretR hx hb hr hlocks hQ (rfl) dX5_look_102 rfl rfl
set_option maxHeartbeats 4000000 in
set_option maxRecDepth 100000 in
/-- look(5) -/
theorem c_X5_look_5 (l : Launch) (D : va_G) (cA : Nat → ClassId) (th : Nat) (lr : Nat) (pa : Nat) (ua : Nat) (xa : Nat) (ds : Nat) (pr : Nat) (bl : Nat) (est : Bool) (g : Nat) (gf : Nat) (gt : Nat) (gw : Nat) (Fr : Nat → Nat) (To : Nat → Nat) (dir : Bool) (nv : Nat) (me : Nat) (hme : me ≤ 40) (hF : ∀ j, Fr j < 16) (hT : ∀ j, To j < 16) (hnv : nv ≤ 16) : Met l yX5_look wsX5_look ({ frames := 2, cells := 0, slots := 0, locals := 52 } : Room) (zRd D vwCl (zT cA) [(th, .inr (5, [.ref g, .ref lr, .ref pa, .ref ua, .ref xa, .ref ds, .ref pr, .ref bl, .int (zB est)])), (g, .inr (2, [.ref gf, .ref gt, .ref gw, .int (zB dir), .int (nI nv), .int (nI me)])), (gf, aI cA 40 (fun j => nI (Fr j))), (gt, aI cA 40 (fun j => nI (To j)))] [.ref th, .int (nI 5)]) (vp_Si (fun r => r = iZ (pLo (gOddM dir Fr To me nv) 16))) 0 0 (fun _ => False) := by
  refine z_read (cc := cX5_look) (maxL := 2) (ret := (some .int)) (by decide) rfl (Nat.le_of_ble_eq_true rfl) ?_
  intro p e s m below meth c hx hb hr hml hown hts hlocks hP hK Q hQ ls hl
  have hown : s.vm.findClass RX5 = some m.cls := hown
  have hl : lv_has ls 2 [(0, .ref th), (1, .int (nI 5))] := hl
  generalize hav : ([.ref th, .int (nI 5)] : List Value).toArray = args at hts hQ ⊢
  have hin2 : ∀ w ∈ wsX20, w ∈ wsX5_look := by decide +kernel
  have hin4 : ∀ w ∈ wsX40, w ∈ wsX5_look := by decide +kernel
  have hin5 : ∀ w ∈ wsX50, w ∈ wsX5_look := by decide +kernel
  refine lv_iload_n hx hb dX5_look_0 rfl (lv_at hl 1 rfl) ?_
  refine lv_tableIn (off := 102) (tgt := 103) hx hb dX5_look_1 (by decide) (by decide) (by decide) (by decide) ?_
  refine lv_aload_n hx hb dX5_look_103 rfl (lv_at hl 0 rfl) ?_
  refine va_get (D := D) (ci := 5) (v := .ref g) (C := RX5) (T := TX5) (N := 9) hx hb hts hin5 hown hK hP 0 rfl rfl 0 (by decide) (hts (.fieldLink RX5 12 "TourHouse" "graph" "LTourHouse$Graph;") (by decide +kernel)) (fun _ h9 => h9) rfl dX5_look_104 ?_
  refine z_cRVi (wc := [(g, .inr (2, [.ref gf, .ref gt, .ref gw, .int (zB dir), .int (nI nv), .int (nI me)])), (gf, aI cA 40 (fun j => nI (Fr j))), (gt, aI cA 40 (fun j => nI (To j)))]) (rm := ({ frames := 1, cells := 0, slots := 0, locals := 23 } : Room)) (As := []) (rest := []) ⟨hx, hb, hml, hown, hts⟩ (c_X2_oddVertices l D cA g gf gt gw Fr To dir nv me (by first | assumption | omega) (by first | assumption | omega) (by first | assumption | omega) (by first | assumption | omega)) (cwV 0 hts gX5_look_X2_oddVertices rfl rfl rfl (by decide +kernel) ⟨Nat.le_of_ble_eq_true rfl, Nat.le_of_ble_eq_true rfl⟩) hP hK [1, 2, 3] rfl 2 0 rfl rfl rfl hl.1 rfl (Nat.le_of_ble_eq_true rfl) ⟨Nat.zero_le _, Nat.zero_le _⟩ dX5_look_107 (fun r hr107 => ?_)
  subst hr107
  refine z_cRSi (wc := []) (rm := ({ frames := 0, cells := 0, slots := 0, locals := 0 } : Room)) (As := [.int (nI (gOddM dir Fr To me nv))]) (rest := []) ⟨hx, hb, hml, hown, hts⟩ (c_X5_leastOf l D cA (gOddM dir Fr To me nv) (gOddM_lt hnv)) (va_cwS 1 hts gX5_look_X5_leastOf rfl rfl rfl (by decide +kernel) ⟨Nat.le_of_ble_eq_true rfl, Nat.le_of_ble_eq_true rfl⟩) hP hK [] rfl rfl hl.1 rfl (Nat.le_of_ble_eq_true rfl) ⟨Nat.zero_le _, Nat.zero_le _⟩ dX5_look_110 (fun r hr110 => ?_)
  subst hr110
  exact z_iretR hx hb hr hlocks hQ (rfl) dX5_look_113 rfl rfl
set_option maxHeartbeats 4000000 in
set_option maxRecDepth 100000 in
/-- look(6) -/
theorem c_X5_look_6 (l : Launch) (D : va_G) (cA : Nat → ClassId) (th : Nat) (lr : Nat) (pa : Nat) (ua : Nat) (xa : Nat) (ds : Nat) (pr : Nat) (bl : Nat) (est : Bool) (g : Nat) (pb : Nat) (pn : Nat)  : Met l yX5_look wsX5_look ({ frames := 2, cells := 0, slots := 0, locals := 52 } : Room) (zRd D vwCl (zT cA) [(th, .inr (5, [.ref g, .ref lr, .ref pa, .ref ua, .ref xa, .ref ds, .ref pr, .ref bl, .int (zB est)])), (pa, .inr (4, [.ref pb, .int (nI pn)]))] [.ref th, .int (nI 6)]) (vp_Si (fun r => r = nI pn)) 0 0 (fun _ => False) := by
  refine z_read (cc := cX5_look) (maxL := 2) (ret := (some .int)) (by decide) rfl (Nat.le_of_ble_eq_true rfl) ?_
  intro p e s m below meth c hx hb hr hml hown hts hlocks hP hK Q hQ ls hl
  have hown : s.vm.findClass RX5 = some m.cls := hown
  have hl : lv_has ls 2 [(0, .ref th), (1, .int (nI 6))] := hl
  generalize hav : ([.ref th, .int (nI 6)] : List Value).toArray = args at hts hQ ⊢
  have hin2 : ∀ w ∈ wsX20, w ∈ wsX5_look := by decide +kernel
  have hin4 : ∀ w ∈ wsX40, w ∈ wsX5_look := by decide +kernel
  have hin5 : ∀ w ∈ wsX50, w ∈ wsX5_look := by decide +kernel
  refine lv_iload_n hx hb dX5_look_0 rfl (lv_at hl 1 rfl) ?_
  refine lv_tableIn (off := 113) (tgt := 114) hx hb dX5_look_1 (by decide) (by decide) (by decide) (by decide) ?_
  refine lv_aload_n hx hb dX5_look_114 rfl (lv_at hl 0 rfl) ?_
  refine va_get (D := D) (ci := 5) (v := .ref pa) (C := RX5) (T := TX5) (N := 9) hx hb hts hin5 hown hK hP 0 rfl rfl 2 (by decide) (hts (.fieldLink RX5 25 "TourHouse" "path" "LTourHouse$StepRow;") (by decide +kernel)) (fun _ h9 => h9) rfl dX5_look_115 ?_
  refine va_get (D := D) (ci := 4) (v := .int (nI pn)) (C := RX4) (T := TX4) (N := 2) hx hb hts hin4 hown hK hP 1 rfl rfl 1 (by decide) (hts (.fieldLink RX5 126 "TourHouse$StepRow" "length" "I") (by decide +kernel)) (fun _ h9 => h9) rfl dX5_look_118 ?_
  exact z_iretR hx hb hr hlocks hQ (rfl) dX5_look_121 rfl rfl
set_option maxHeartbeats 4000000 in
set_option maxRecDepth 100000 in
/-- look(7) -/
theorem c_X5_look_7 (l : Launch) (D : va_G) (cA : Nat → ClassId) (sz : Nat) (th : Nat) (lr : Nat) (pa : Nat) (ua : Nat) (xa : Nat) (ds : Nat) (pr : Nat) (bl : Nat) (est : Bool) (g : Nat) (gf : Nat) (gt : Nat) (gw : Nat) (Fr : Nat → Nat) (To : Nat → Nat) (dir : Bool) (nv : Nat) (me : Nat) (U : Nat → Int) (hme : me ≤ 40) (hF : ∀ j, Fr j < 16) (hT : ∀ j, To j < 16) (hnv : nv ≤ 16) (hU : ∀ j, -10000 ≤ U j ∧ U j ≤ 10000) : Met l yX5_look wsX5_look ({ frames := 2, cells := 0, slots := 0, locals := 52 } : Room) (zWr D vwCl (zT cA) [(th, .inr (5, [.ref g, .ref lr, .ref pa, .ref ua, .ref xa, .ref ds, .ref pr, .ref bl, .int (zB est)])), (g, .inr (2, [.ref gf, .ref gt, .ref gw, .int (zB dir), .int (nI nv), .int (nI me)])), (gf, aI cA 40 (fun j => nI (Fr j))), (gt, aI cA 40 (fun j => nI (To j))), (ua, aI cA 40 (fun j => iZ (U j)))] sz [.ref th, .int (nI 7)]) (zQi D vwCl (zT cA) (va_A [(th, .inr (5, [.ref g, .ref lr, .ref pa, .ref ua, .ref xa, .ref ds, .ref pr, .ref bl, .int (zB est)])), (g, .inr (2, [.ref gf, .ref gt, .ref gw, .int (zB dir), .int (nI nv), .int (nI me)])), (gf, aI cA 40 (fun j => nI (Fr j))), (gt, aI cA 40 (fun j => nI (To j))), (ua, aI cA 40 (fun j => iZ (U j)))] sz) [(th, .inr (5, [.ref g, .ref lr, .ref pa, .ref ua, .ref xa, .ref ds, .ref pr, .ref bl, .int (zB est)])), (g, .inr (2, [.ref gf, .ref gt, .ref gw, .int (zB dir), .int (nI nv), .int (nI me)])), (gf, aI cA 40 (fun j => nI (Fr j))), (gt, aI cA 40 (fun j => nI (To j))), (ua, aI cA 40 (fun j => iZ ((fl U 1 me) j)))] (nI ((gReg Fr To (fl U 1 me) me nv).2))) 0 0 (va_A [(th, .inr (5, [.ref g, .ref lr, .ref pa, .ref ua, .ref xa, .ref ds, .ref pr, .ref bl, .int (zB est)])), (g, .inr (2, [.ref gf, .ref gt, .ref gw, .int (zB dir), .int (nI nv), .int (nI me)])), (gf, aI cA 40 (fun j => nI (Fr j))), (gt, aI cA 40 (fun j => nI (To j))), (ua, aI cA 40 (fun j => iZ (U j)))] sz) := by
  refine z_write (cc := cX5_look) (maxL := 2) (ret := (some .int)) (by decide) rfl (Nat.le_of_ble_eq_true rfl) ?_
  intro p e s m below meth c hx hb hr hml hown hts hlocks A hAe hA H locs hP hK hD hS hini Q hQ ls hl
  have hown : s.vm.findClass RX5 = some m.cls := hown
  have hl : lv_has ls 2 [(0, .ref th), (1, .int (nI 7))] := hl
  generalize hav : ([.ref th, .int (nI 7)] : List Value).toArray = args at hts hQ ⊢
  have hin2 : ∀ w ∈ wsX20, w ∈ wsX5_look := by decide +kernel
  have hin4 : ∀ w ∈ wsX40, w ∈ wsX5_look := by decide +kernel
  have hin5 : ∀ w ∈ wsX50, w ∈ wsX5_look := by decide +kernel
  refine lv_iload_n hx hb dX5_look_0 rfl (lv_at hl 1 rfl) ?_
  refine lv_tableIn (off := 121) (tgt := 122) hx hb dX5_look_1 (by decide) (by decide) (by decide) (by decide) ?_
  refine lv_aload_n hx hb dX5_look_122 rfl (lv_at hl 0 rfl) ?_
  refine z_cWVv (wc := [(th, .inr (5, [.ref g, .ref lr, .ref pa, .ref ua, .ref xa, .ref ds, .ref pr, .ref bl, .int (zB est)])), (g, .inr (2, [.ref gf, .ref gt, .ref gw, .int (zB dir), .int (nI nv), .int (nI me)])), (ua, aI cA 40 (fun j => iZ (U j)))]) (rm := ({ frames := 0, cells := 0, slots := 0, locals := 0 } : Room)) (As := []) (rest := []) (wr := [(gf, aI cA 40 (fun j => nI (Fr j))), (gt, aI cA 40 (fun j => nI (To j)))]) (w1 := [(th, .inr (5, [.ref g, .ref lr, .ref pa, .ref ua, .ref xa, .ref ds, .ref pr, .ref bl, .int (zB est)])), (g, .inr (2, [.ref gf, .ref gt, .ref gw, .int (zB dir), .int (nI nv), .int (nI me)])), (ua, aI cA 40 (fun j => iZ ((fl U 1 me) j)))]) (ws' := [(th, .inr (5, [.ref g, .ref lr, .ref pa, .ref ua, .ref xa, .ref ds, .ref pr, .ref bl, .int (zB est)])), (g, .inr (2, [.ref gf, .ref gt, .ref gw, .int (zB dir), .int (nI nv), .int (nI me)])), (gf, aI cA 40 (fun j => nI (Fr j))), (gt, aI cA 40 (fun j => nI (To j))), (ua, aI cA 40 (fun j => iZ ((fl U 1 me) j)))]) ⟨hx, hb, hml, hown, hts⟩ (c_X5_useEachEdgeOnce l D cA H.size th lr pa ua xa ds pr bl est g gf gt gw dir nv me U (by first | assumption | omega)) (cwV 0 hts gX5_look_X5_useEachEdgeOnce rfl rfl rfl (by decide +kernel) ⟨Nat.le_of_ble_eq_true rfl, Nat.le_of_ble_eq_true rfl⟩) hP hK hD hS hA [0, 1, 4] [2, 3] [2, 3, 0, 1, 4] rfl rfl rfl rfl rfl (by decide) rfl rfl rfl 5 0 rfl rfl rfl hl.1 rfl (Nat.le_of_ble_eq_true rfl) ⟨Nat.zero_le _, Nat.zero_le _⟩ dX5_look_123 (fun H locs hP hD hS => ?_)
  refine lv_aload_n hx hb dX5_look_126 rfl (lv_at hl 0 rfl) ?_
  refine va_get (D := D) (ci := 5) (v := .ref g) (C := RX5) (T := TX5) (N := 9) hx hb hts hin5 hown hK hP 0 rfl rfl 0 (by decide) (hts (.fieldLink RX5 12 "TourHouse" "graph" "LTourHouse$Graph;") (by decide +kernel)) (fun _ h9 => h9) rfl dX5_look_127 ?_
  refine lv_aload_n hx hb dX5_look_130 rfl (lv_at hl 0 rfl) ?_
  refine va_get (D := D) (ci := 5) (v := .ref ua) (C := RX5) (T := TX5) (N := 9) hx hb hts hin5 hown hK hP 0 rfl rfl 3 (by decide) (hts (.fieldLink RX5 28 "TourHouse" "uses" "[I") (by decide +kernel)) (fun _ h9 => h9) rfl dX5_look_131 ?_
  refine z_cRVi (wc := [(g, .inr (2, [.ref gf, .ref gt, .ref gw, .int (zB dir), .int (nI nv), .int (nI me)])), (gf, aI cA 40 (fun j => nI (Fr j))), (gt, aI cA 40 (fun j => nI (To j))), (ua, aI cA 40 (fun j => iZ ((fl U 1 me) j)))]) (rm := ({ frames := 1, cells := 0, slots := 0, locals := 28 } : Room)) (As := [.ref ua]) (rest := []) ⟨hx, hb, hml, hown, hts⟩ (c_X2_countRegions l D cA g gf gt gw Fr To dir nv me ua (fl U 1 me) (by first | assumption | omega) (by first | assumption | omega) (by first | assumption | omega) (fun j => by have := hU j; simp only [fl]; split <;> omega) (by first | assumption | omega)) (cwV 1 hts gX5_look_X2_countRegions rfl rfl rfl (by decide +kernel) ⟨Nat.le_of_ble_eq_true rfl, Nat.le_of_ble_eq_true rfl⟩) hP hK [1, 2, 3, 4] rfl 2 0 rfl rfl rfl hl.1 rfl (Nat.le_of_ble_eq_true rfl) ⟨Nat.zero_le _, Nat.zero_le _⟩ dX5_look_134 (fun r hr134 => ?_)
  subst hr134
  exact z_iretW hx hb hr hlocks hAe hQ (hP) hK (hD) hS dX5_look_137
set_option maxHeartbeats 4000000 in
set_option maxRecDepth 100000 in
/-- look(8) -/
theorem c_X5_look_8 (l : Launch) (D : va_G) (cA : Nat → ClassId) (sz : Nat) (th : Nat) (lr : Nat) (pa : Nat) (ua : Nat) (xa : Nat) (ds : Nat) (pr : Nat) (bl : Nat) (est : Bool) (g : Nat) (gf : Nat) (gt : Nat) (gw : Nat) (Fr : Nat → Nat) (To : Nat → Nat) (dir : Bool) (nv : Nat) (me : Nat) (U : Nat → Int) (hme : me ≤ 40) (hF : ∀ j, Fr j < 16) (hT : ∀ j, To j < 16) (hnv : nv ≤ 16) (hU : ∀ j, -10000 ≤ U j ∧ U j ≤ 10000) : Met l yX5_look wsX5_look ({ frames := 2, cells := 0, slots := 0, locals := 52 } : Room) (zWr D vwCl (zT cA) [(th, .inr (5, [.ref g, .ref lr, .ref pa, .ref ua, .ref xa, .ref ds, .ref pr, .ref bl, .int (zB est)])), (g, .inr (2, [.ref gf, .ref gt, .ref gw, .int (zB dir), .int (nI nv), .int (nI me)])), (gf, aI cA 40 (fun j => nI (Fr j))), (gt, aI cA 40 (fun j => nI (To j))), (ua, aI cA 40 (fun j => iZ (U j)))] sz [.ref th, .int (nI 8)]) (zQi D vwCl (zT cA) (va_A [(th, .inr (5, [.ref g, .ref lr, .ref pa, .ref ua, .ref xa, .ref ds, .ref pr, .ref bl, .int (zB est)])), (g, .inr (2, [.ref gf, .ref gt, .ref gw, .int (zB dir), .int (nI nv), .int (nI me)])), (gf, aI cA 40 (fun j => nI (Fr j))), (gt, aI cA 40 (fun j => nI (To j))), (ua, aI cA 40 (fun j => iZ (U j)))] sz) [(th, .inr (5, [.ref g, .ref lr, .ref pa, .ref ua, .ref xa, .ref ds, .ref pr, .ref bl, .int (zB est)])), (g, .inr (2, [.ref gf, .ref gt, .ref gw, .int (zB dir), .int (nI nv), .int (nI me)])), (gf, aI cA 40 (fun j => nI (Fr j))), (gt, aI cA 40 (fun j => nI (To j))), (ua, aI cA 40 (fun j => iZ ((fl U 1 me) j)))] (nI (bcR (gTouch Fr To (fl U 1 me) me)))) 0 0 (va_A [(th, .inr (5, [.ref g, .ref lr, .ref pa, .ref ua, .ref xa, .ref ds, .ref pr, .ref bl, .int (zB est)])), (g, .inr (2, [.ref gf, .ref gt, .ref gw, .int (zB dir), .int (nI nv), .int (nI me)])), (gf, aI cA 40 (fun j => nI (Fr j))), (gt, aI cA 40 (fun j => nI (To j))), (ua, aI cA 40 (fun j => iZ (U j)))] sz) := by
  refine z_write (cc := cX5_look) (maxL := 2) (ret := (some .int)) (by decide) rfl (Nat.le_of_ble_eq_true rfl) ?_
  intro p e s m below meth c hx hb hr hml hown hts hlocks A hAe hA H locs hP hK hD hS hini Q hQ ls hl
  have hown : s.vm.findClass RX5 = some m.cls := hown
  have hl : lv_has ls 2 [(0, .ref th), (1, .int (nI 8))] := hl
  generalize hav : ([.ref th, .int (nI 8)] : List Value).toArray = args at hts hQ ⊢
  have hin2 : ∀ w ∈ wsX20, w ∈ wsX5_look := by decide +kernel
  have hin4 : ∀ w ∈ wsX40, w ∈ wsX5_look := by decide +kernel
  have hin5 : ∀ w ∈ wsX50, w ∈ wsX5_look := by decide +kernel
  refine lv_iload_n hx hb dX5_look_0 rfl (lv_at hl 1 rfl) ?_
  refine lv_tableIn (off := 137) (tgt := 138) hx hb dX5_look_1 (by decide) (by decide) (by decide) (by decide) ?_
  refine lv_aload_n hx hb dX5_look_138 rfl (lv_at hl 0 rfl) ?_
  refine z_cWVv (wc := [(th, .inr (5, [.ref g, .ref lr, .ref pa, .ref ua, .ref xa, .ref ds, .ref pr, .ref bl, .int (zB est)])), (g, .inr (2, [.ref gf, .ref gt, .ref gw, .int (zB dir), .int (nI nv), .int (nI me)])), (ua, aI cA 40 (fun j => iZ (U j)))]) (rm := ({ frames := 0, cells := 0, slots := 0, locals := 0 } : Room)) (As := []) (rest := []) (wr := [(gf, aI cA 40 (fun j => nI (Fr j))), (gt, aI cA 40 (fun j => nI (To j)))]) (w1 := [(th, .inr (5, [.ref g, .ref lr, .ref pa, .ref ua, .ref xa, .ref ds, .ref pr, .ref bl, .int (zB est)])), (g, .inr (2, [.ref gf, .ref gt, .ref gw, .int (zB dir), .int (nI nv), .int (nI me)])), (ua, aI cA 40 (fun j => iZ ((fl U 1 me) j)))]) (ws' := [(th, .inr (5, [.ref g, .ref lr, .ref pa, .ref ua, .ref xa, .ref ds, .ref pr, .ref bl, .int (zB est)])), (g, .inr (2, [.ref gf, .ref gt, .ref gw, .int (zB dir), .int (nI nv), .int (nI me)])), (gf, aI cA 40 (fun j => nI (Fr j))), (gt, aI cA 40 (fun j => nI (To j))), (ua, aI cA 40 (fun j => iZ ((fl U 1 me) j)))]) ⟨hx, hb, hml, hown, hts⟩ (c_X5_useEachEdgeOnce l D cA H.size th lr pa ua xa ds pr bl est g gf gt gw dir nv me U (by first | assumption | omega)) (cwV 0 hts gX5_look_X5_useEachEdgeOnce rfl rfl rfl (by decide +kernel) ⟨Nat.le_of_ble_eq_true rfl, Nat.le_of_ble_eq_true rfl⟩) hP hK hD hS hA [0, 1, 4] [2, 3] [2, 3, 0, 1, 4] rfl rfl rfl rfl rfl (by decide) rfl rfl rfl 5 0 rfl rfl rfl hl.1 rfl (Nat.le_of_ble_eq_true rfl) ⟨Nat.zero_le _, Nat.zero_le _⟩ dX5_look_139 (fun H locs hP hD hS => ?_)
  refine lv_aload_n hx hb dX5_look_142 rfl (lv_at hl 0 rfl) ?_
  refine va_get (D := D) (ci := 5) (v := .ref g) (C := RX5) (T := TX5) (N := 9) hx hb hts hin5 hown hK hP 0 rfl rfl 0 (by decide) (hts (.fieldLink RX5 12 "TourHouse" "graph" "LTourHouse$Graph;") (by decide +kernel)) (fun _ h9 => h9) rfl dX5_look_143 ?_
  refine lv_aload_n hx hb dX5_look_146 rfl (lv_at hl 0 rfl) ?_
  refine va_get (D := D) (ci := 5) (v := .ref ua) (C := RX5) (T := TX5) (N := 9) hx hb hts hin5 hown hK hP 0 rfl rfl 3 (by decide) (hts (.fieldLink RX5 28 "TourHouse" "uses" "[I") (by decide +kernel)) (fun _ h9 => h9) rfl dX5_look_147 ?_
  refine z_cRVi (wc := [(g, .inr (2, [.ref gf, .ref gt, .ref gw, .int (zB dir), .int (nI nv), .int (nI me)])), (gf, aI cA 40 (fun j => nI (Fr j))), (gt, aI cA 40 (fun j => nI (To j))), (ua, aI cA 40 (fun j => iZ ((fl U 1 me) j)))]) (rm := ({ frames := 0, cells := 0, slots := 0, locals := 0 } : Room)) (As := [.ref ua]) (rest := []) ⟨hx, hb, hml, hown, hts⟩ (c_X2_touchedBy l D cA g gf gt gw Fr To dir nv me ua (fl U 1 me) (by first | assumption | omega) (by first | assumption | omega) (by first | assumption | omega) (fun j => by have := hU j; simp only [fl]; split <;> omega)) (cwV 1 hts gX5_look_X2_touchedBy rfl rfl rfl (by decide +kernel) ⟨Nat.le_of_ble_eq_true rfl, Nat.le_of_ble_eq_true rfl⟩) hP hK [1, 2, 3, 4] rfl 2 0 rfl rfl rfl hl.1 rfl (Nat.le_of_ble_eq_true rfl) ⟨Nat.zero_le _, Nat.zero_le _⟩ dX5_look_150 (fun r hr150 => ?_)
  subst hr150
  refine z_cRSi (wc := []) (rm := ({ frames := 0, cells := 0, slots := 0, locals := 0 } : Room)) (As := [.int (nI (gTouch Fr To (fl U 1 me) me))]) (rest := []) ⟨hx, hb, hml, hown, hts⟩ (c_J6_bitCount_0f7a4 l D cA (gTouch Fr To (fl U 1 me) me) (gTouch_lt hF hT me)) (va_cwS 1 hts gX5_look_J6_bitCount_0f7a4 rfl rfl rfl (by decide +kernel) ⟨Nat.le_of_ble_eq_true rfl, Nat.le_of_ble_eq_true rfl⟩) hP hK [] rfl rfl hl.1 rfl (Nat.le_of_ble_eq_true rfl) ⟨Nat.zero_le _, Nat.zero_le _⟩ dX5_look_153 (fun r hr153 => ?_)
  subst hr153
  exact z_iretW hx hb hr hlocks hAe hQ (hP) hK (hD) hS dX5_look_156
