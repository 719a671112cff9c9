theorem gEnd_lt {Fr To : Nat → Nat} (hF : ∀ j, Fr j < 16) (hT : ∀ j, To j < 16) (z : Int) : gEnd Fr To z < 16 := by
  unfold gEnd; split
  · exact hT _
  · exact hF _
theorem upd_back {U : Nat → Int} {e : Nat} : (fun j => iZ (U j)) = fun j => iZ (va_up (va_up U e (U e - 1)) e (va_up U e (U e - 1) e + 1) j) := by
  funext j
  by_cases q : j = e
  · subst q; rw [up_at, up_at]; congr 1; omega
  · rw [up_ne q, up_ne q]
/-- whether the uses that are left behind step k hang together with its end -/
def lWhole (Fr To : Nat → Nat) (U : Nat → Int) (me k : Nat) : Bool := if 1 < U (k / 2) then true else gHang Fr To (va_up U (k / 2) (U (k / 2) - 1)) me (gEnd Fr To ((k : Nat) : Int))
/-- the least step, of the last k -/
def lStep (dir : Bool) (Fr To : Nat → Nat) (U : Nat → Int) (me a : Nat) : Nat → Int
  | 0 => -1
  | k + 1 => if 0 < U ((2 * me - (k + 1)) / 2) ∧ gStep dir Fr To me ((2 * me - (k + 1) : Nat) : Int) a = true ∧ lWhole Fr To U me (2 * me - (k + 1)) = true then ((2 * me - (k + 1) : Nat) : Int) else lStep dir Fr To U me a k
theorem lStep_rng {dir : Bool} {Fr To : Nat → Nat} {U : Nat → Int} {me a : Nat} : ∀ {k : Nat}, k ≤ 2 * me → (0 ≤ lStep dir Fr To U me a k ∧ lStep dir Fr To U me a k < 2 * me) ∨ lStep dir Fr To U me a k = -1
  | 0, _ => Or.inr rfl
  | k + 1, h => by
    rw [lStep]; split
    · left; omega
    · exact lStep_rng (by omega)
def wNext (dir : Bool) (Fr To : Nat → Nat) (me k : Nat) (ω : (Nat → Int) × (Nat → Int) × Nat) : (Nat → Int) × (Nat → Int) × Nat :=
  (va_up ω.1 k (lStep dir Fr To ω.2.1 me ω.2.2 (2 * me)), va_up ω.2.1 (lStep dir Fr To ω.2.1 me ω.2.2 (2 * me) / 2).toNat (ω.2.1 (lStep dir Fr To ω.2.1 me ω.2.2 (2 * me) / 2).toNat - 1), gEnd Fr To (lStep dir Fr To ω.2.1 me ω.2.2 (2 * me)))
/-- steps, one behind the other: how many; the row, the uses, the place -/
def wLoop (dir : Bool) (Fr To : Nat → Nat) (me : Nat) : Nat → Nat → (Nat → Int) × (Nat → Int) × Nat → Nat × (Nat → Int) × (Nat → Int) × Nat
  | 0, k, ω => (k, ω)
  | n + 1, k, ω => if lStep dir Fr To ω.2.1 me ω.2.2 (2 * me) < 0 then (k, ω) else wLoop dir Fr To me n (k + 1) (wNext dir Fr To me k ω)
def wRow (dir : Bool) (Fr To : Nat → Nat) (me : Nat) (Lz U : Nat → Int) (start : Nat) : Nat × (Nat → Int) × (Nat → Int) × Nat := wLoop dir Fr To me 640 0 (Lz, U, start)
theorem wNext_U {dir : Bool} {Fr To : Nat → Nat} {me k : Nat} {ω : (Nat → Int) × (Nat → Int) × Nat} (h : ∀ j, -(10000 + k : Int) ≤ ω.2.1 j ∧ ω.2.1 j ≤ 10000) : ∀ j, -(10000 + (k + 1 : Nat) : Int) ≤ (wNext dir Fr To me k ω).2.1 j ∧ (wNext dir Fr To me k ω).2.1 j ≤ 10000 := by
  intro j
  show _ ≤ va_up _ _ _ _ ∧ va_up _ _ _ _ ≤ _
  by_cases q : j = (lStep dir Fr To ω.2.1 me ω.2.2 (2 * me) / 2).toNat
  · rw [← q, up_at]; have := h j; omega
  · rw [up_ne q]; have := h j; omega
set_option maxHeartbeats 4000000 in
set_option maxRecDepth 100000 in
/-- TourHouse.useEachEdgeOnce -/
theorem c_X5_useEachEdgeOnce (l : Launch) (D : va_G) (cA : Nat → ClassId) (sz : Nat) (th : Nat) (lr : Nat) (pa : Nat) (ua : Nat) (xa : Nat) (ds : Nat) (pr : Nat) (bl : Nat) (est : Bool) (g : Nat) (gf : Nat) (gt : Nat) (gw : Nat) (dir : Bool) (nv : Nat) (me : Nat) (U : Nat → Int) (hme : me ≤ 40) : Met l yX5_useEachEdgeOnce wsX5_useEachEdgeOnce ({ frames := 0, cells := 0, slots := 0, locals := 0 } : Room) (zWr D vwCl (zT cA) [(th, .inr (5, [.ref g, .ref lr, .ref pa, .ref ua, .ref xa, .ref ds, .ref pr, .ref bl, .int (zB est)])), (g, .inr (2, [.ref gf, .ref gt, .ref gw, .int (zB dir), .int (nI nv), .int (nI me)])), (ua, aI cA 40 (fun j => iZ (U j)))] sz [.ref th]) (zQv D vwCl (zT cA) (va_A [(th, .inr (5, [.ref g, .ref lr, .ref pa, .ref ua, .ref xa, .ref ds, .ref pr, .ref bl, .int (zB est)])), (g, .inr (2, [.ref gf, .ref gt, .ref gw, .int (zB dir), .int (nI nv), .int (nI me)])), (ua, aI cA 40 (fun j => iZ (U j)))] sz) [(th, .inr (5, [.ref g, .ref lr, .ref pa, .ref ua, .ref xa, .ref ds, .ref pr, .ref bl, .int (zB est)])), (g, .inr (2, [.ref gf, .ref gt, .ref gw, .int (zB dir), .int (nI nv), .int (nI me)])), (ua, aI cA 40 (fun j => iZ ((fl U 1 me) j)))]) 0 0 (va_A [(th, .inr (5, [.ref g, .ref lr, .ref pa, .ref ua, .ref xa, .ref ds, .ref pr, .ref bl, .int (zB est)])), (g, .inr (2, [.ref gf, .ref gt, .ref gw, .int (zB dir), .int (nI nv), .int (nI me)])), (ua, aI cA 40 (fun j => iZ (U j)))] sz) := by
  refine z_write (cc := cX5_useEachEdgeOnce) (maxL := 2) (ret := none) (by decide) rfl (Nat.le_of_ble_eq_true rfl) ?_
  intro p e s m below meth c hx hb hr hml hown hts hlocks A hAe hA H locs hP hK hD hS hini Q hQ ls hl
  have hown : s.vm.findClass RX5 = some m.cls := hown
  have hl : lv_has ls 2 [(0, .ref th)] := hl
  generalize hav : ([.ref th] : List Value).toArray = args at hts hQ ⊢
  have hin2 : ∀ w ∈ wsX20, w ∈ wsX5_useEachEdgeOnce := by decide +kernel
  have hin5 : ∀ w ∈ wsX50, w ∈ wsX5_useEachEdgeOnce := by decide +kernel
  refine lv_iconst (v := nI 0) hx hb dX5_useEachEdgeOnce_0 (by decide) ?_
  refine lv_istore_n (lv' := [(1, .int (nI 0)), (0, .ref th)]) hx hb dX5_useEachEdgeOnce_1 rfl hl (by decide) rfl (fun ls hl => ?_)
  have J2 : ∀ (n : Nat), ∀ (i : Nat), (i ≤ me) → me - i < n → ∀ (H : Heap) (locs : List Loc), va_P D vwCl [(th, .inr (5, [.ref g, .ref lr, .ref pa, .ref ua, .ref xa, .ref ds, .ref pr, .ref bl, .int (zB est)])), (g, .inr (2, [.ref gf, .ref gt, .ref gw, .int (zB dir), .int (nI nv), .int (nI me)])), (ua, aI cA 40 (fun j => iZ ((fl U 1 i) j)))] H → va_D A [(th, .inr (5, [.ref g, .ref lr, .ref pa, .ref ua, .ref xa, .ref ds, .ref pr, .ref bl, .int (zB est)])), (g, .inr (2, [.ref gf, .ref gt, .ref gw, .int (zB dir), .int (nI nv), .int (nI me)])), (ua, aI cA 40 (fun j => iZ ((fl U 1 i) j)))] → va_S A s.heap H locs → ∀ (ls : Array Slot), lv_has ls 2 [(0, .ref th), (1, .int (nI i))] → W p l e ({ frames := 0, cells := 0, slots := 0, locals := 0 } : Room) s m args below meth c H locs 0 0 Q (F0 m 2 ls []) := by
    intro n2
    induction n2 with
    | zero => intro i hi hn; exact absurd hn (Nat.not_lt_zero _)
    | succ n2 ih2 =>
      intro i hi hn2 H locs hP hD hS ls hl
      refine lv_iload_n hx hb dX5_useEachEdgeOnce_2 rfl (lv_at hl 1 rfl) ?_
      refine lv_aload_n hx hb dX5_useEachEdgeOnce_3 rfl (lv_at hl 0 rfl) ?_
      refine va_get (D := D) (ci := 5) (v := .ref g) (C := RX5) (T := TX5) (N := 9) hx hb hts hin5 hown hK hP 0 rfl rfl 0 (by decide) (hts (.fieldLink RX5 12 "TourHouse" "graph" "LTourHouse$Graph;") (by decide +kernel)) (fun _ h9 => h9) rfl dX5_useEachEdgeOnce_4 ?_
      refine va_get (D := D) (ci := 2) (v := .int (nI me)) (C := RX2) (T := TX2) (N := 6) hx hb hts hin2 hown hK hP 1 rfl rfl 5 (by decide) (hts (.fieldLink RX5 67 "TourHouse$Graph" "edges" "I") (by decide +kernel)) (fun _ h9 => h9) rfl dX5_useEachEdgeOnce_7 ?_
      refine z_ge hx hb (by omega) (by omega) (tgt := 26) dX5_useEachEdgeOnce_10 (by decide) (fun h10 => ?_) (fun h10 => ?_)
      · skip
        exact z_vretW hx hb hr hlocks hAe hQ (by have q : i = me := (by omega); rw [q] at hP; exact hP) hK (by have q : i = me := (by omega); rw [q] at hD; exact hD) hS dX5_useEachEdgeOnce_26
      · skip
        refine lv_aload_n hx hb dX5_useEachEdgeOnce_13 rfl (lv_at hl 0 rfl) ?_
        refine va_get (D := D) (ci := 5) (v := .ref ua) (C := RX5) (T := TX5) (N := 9) hx hb hts hin5 hown hK hP 0 rfl rfl 3 (by decide) (hts (.fieldLink RX5 28 "TourHouse" "uses" "[I") (by decide +kernel)) (fun _ h9 => h9) rfl dX5_useEachEdgeOnce_14 ?_
        refine lv_iload_n hx hb dX5_useEachEdgeOnce_17 rfl (lv_at hl 1 rfl) ?_
        refine lv_iconst (v := iZ 1) hx hb dX5_useEachEdgeOnce_18 (by decide) ?_
        refine z_iast hx hb hK hP hD hS 2 0 rfl rfl (k := i) (by omega) (by decide) (f' := (fun j => iZ ((fl U 1 (i + 1)) j))) ((upd_iZ _ _ _).trans (by rw [fl_up])) (ws' := [(th, .inr (5, [.ref g, .ref lr, .ref pa, .ref ua, .ref xa, .ref ds, .ref pr, .ref bl, .int (zB est)])), (g, .inr (2, [.ref gf, .ref gt, .ref gw, .int (zB dir), .int (nI nv), .int (nI me)])), (ua, aI cA 40 (fun j => iZ ((fl U 1 (i + 1)) j)))]) rfl dX5_useEachEdgeOnce_19 (fun H locs hP hD hS => ?_)
        refine lv_iinc (v := nI (i + 1)) (lv' := [(1, .int (nI (i + 1))), (0, .ref th)]) hx hb dX5_useEachEdgeOnce_20 hl (k := 1) rfl (nI_1 i) (by decide) rfl (fun ls hl => ?_)
        refine lv_goto (tgt := 2) hx hb dX5_useEachEdgeOnce_23 (by decide) ?_
        exact ih2 (i + 1) (by omega) (by omega) _ _ (hP) (hD) hS ls (lv_sub hl [1, 0] (by rfl))
  exact J2 ((me - 0) + 1) 0 (by omega) (by omega) _ _ (by rw [fl_0]; exact hP) (by rw [fl_0]; exact hD) hS ls (lv_sub hl [1, 0] (by rfl))
set_option maxHeartbeats 4000000 in
set_option maxRecDepth 100000 in
/-- TourHouse.forgetAnswers -/
theorem c_X5_forgetAnswers (l : Launch) (D : va_G) (cA : Nat → ClassId) (sz : Nat) (th : Nat) (lr : Nat) (pa : Nat) (ua : Nat) (xa : Nat) (ds : Nat) (pr : Nat) (bl : Nat) (est : Bool) (g : Nat) (la : Nat) (ln : Nat) (Lz : Nat → Int)  : Met l yX5_forgetAnswers wsX5_forgetAnswers ({ frames := 1, cells := 0, slots := 0, locals := 20 } : Room) (zWr D vwCl (zT cA) [(th, .inr (5, [.ref g, .ref lr, .ref pa, .ref ua, .ref xa, .ref ds, .ref pr, .ref bl, .int (zB est)])), (lr, .inr (4, [.ref la, .int (nI ln)]))] sz [.ref th]) (zQv D vwCl (zT cA) (va_A [(th, .inr (5, [.ref g, .ref lr, .ref pa, .ref ua, .ref xa, .ref ds, .ref pr, .ref bl, .int (zB est)])), (lr, .inr (4, [.ref la, .int (nI ln)]))] sz) [(th, .inr (5, [.ref g, .ref lr, .ref pa, .ref ua, .ref xa, .ref ds, .ref pr, .ref bl, .int (zB false)])), (lr, .inr (4, [.ref la, .int (nI 0)]))]) 0 0 (va_A [(th, .inr (5, [.ref g, .ref lr, .ref pa, .ref ua, .ref xa, .ref ds, .ref pr, .ref bl, .int (zB est)])), (lr, .inr (4, [.ref la, .int (nI ln)]))] sz) := by
  refine z_write (cc := cX5_forgetAnswers) (maxL := 1) (ret := none) (by decide) rfl (Nat.le_of_ble_eq_true rfl) ?_
  intro p e s m below meth c hx hb hr hml hown hts hlocks A hAe hA H locs hP hK hD hS hini Q hQ ls hl
  have hown : s.vm.findClass RX5 = some m.cls := hown
  have hl : lv_has ls 1 [(0, .ref th)] := hl
  generalize hav : ([.ref th] : List Value).toArray = args at hts hQ ⊢
  have hin5 : ∀ w ∈ wsX50, w ∈ wsX5_forgetAnswers := by decide +kernel
  refine lv_aload_n hx hb dX5_forgetAnswers_0 rfl (lv_at hl 0 rfl) ?_
  refine va_get (D := D) (ci := 5) (v := .ref lr) (C := RX5) (T := TX5) (N := 9) hx hb hts hin5 hown hK hP 0 rfl rfl 1 (by decide) (hts (.fieldLink RX5 21 "TourHouse" "latestRow" "LTourHouse$StepRow;") (by decide +kernel)) (fun _ h9 => h9) rfl dX5_forgetAnswers_1 ?_
  refine z_cWVv (wc := [(lr, .inr (4, [.ref la, .int (nI ln)]))]) (rm := ({ frames := 0, cells := 0, slots := 0, locals := 0 } : Room)) (As := []) (rest := []) (wr := [(th, .inr (5, [.ref g, .ref lr, .ref pa, .ref ua, .ref xa, .ref ds, .ref pr, .ref bl, .int (zB est)]))]) (w1 := [(lr, .inr (4, [.ref la, .int (nI 0)]))]) (ws' := [(th, .inr (5, [.ref g, .ref lr, .ref pa, .ref ua, .ref xa, .ref ds, .ref pr, .ref bl, .int (zB est)])), (lr, .inr (4, [.ref la, .int (nI 0)]))]) ⟨hx, hb, hml, hown, hts⟩ (c_X4_clear l D cA H.size lr la 640 (fun _ => 0) ln ) (cwV 0 hts gX5_forgetAnswers_X4_clear rfl rfl rfl (by decide +kernel) ⟨Nat.le_of_ble_eq_true rfl, Nat.le_of_ble_eq_true rfl⟩) hP hK hD hS hA [1] [0] [0, 1] rfl rfl rfl rfl rfl (by decide) rfl rfl rfl 4 0 rfl rfl rfl hl.1 rfl (Nat.le_of_ble_eq_true rfl) ⟨Nat.zero_le _, Nat.zero_le _⟩ dX5_forgetAnswers_4 (fun H locs hP hD hS => ?_)
  refine lv_aload_n hx hb dX5_forgetAnswers_7 rfl (lv_at hl 0 rfl) ?_
  refine lv_iconst (v := zB false) hx hb dX5_forgetAnswers_8 (by decide) ?_
  refine va_put (D := D) (ci := 5) (v := .int (zB false)) (ty := .boolean) (C := RX5) (T := TX5) (N := 9) hx hb hts hin5 tyX5 tyX5_ok nmX5 hown hK hP hD hS 0 rfl rfl 8 (by decide) (hts (.fieldLink RX5 56 "TourHouse" "extrasStand" "Z") (by decide +kernel)) (fun _ h9 => h9) rfl (by decide +kernel) (zB_nar _) (zB_fits _) (Nat.le_of_ble_eq_true rfl) dX5_forgetAnswers_9 (fun H locs hP hD hS => ?_)
  have hP : va_P D vwCl [(th, .inr (5, [.ref g, .ref lr, .ref pa, .ref ua, .ref xa, .ref ds, .ref pr, .ref bl, .int (zB false)])), (lr, .inr (4, [.ref la, .int (nI 0)]))] H := hP
  have hD : va_D A [(th, .inr (5, [.ref g, .ref lr, .ref pa, .ref ua, .ref xa, .ref ds, .ref pr, .ref bl, .int (zB false)])), (lr, .inr (4, [.ref la, .int (nI 0)]))] := hD
  exact z_vretW hx hb hr hlocks hAe hQ (hP) hK (hD) hS dX5_forgetAnswers_12
set_option maxHeartbeats 4000000 in
set_option maxRecDepth 100000 in
/-- TourHouse.leavesWhole -/
theorem c_X5_leavesWhole (l : Launch) (D : va_G) (cA : Nat → ClassId) (sz : Nat) (th : Nat) (lr : Nat) (pa : Nat) (ua : Nat) (xa : Nat) (ds : Nat) (pr : Nat) (bl : Nat) (est : Bool) (g : Nat) (gf : Nat) (gt : Nat) (gw : Nat) (Fr : Nat → Nat) (To : Nat → Nat) (dir : Bool) (nv : Nat) (me : Nat) (U : Nat → Int) (k : Nat) (hme : me ≤ 40) (hF : ∀ j, Fr j < 16) (hT : ∀ j, To j < 16) (hU : ∀ j, -1000000 ≤ U j ∧ U j ≤ 1000000) (hk : k < 80) : Met l yX5_leavesWhole wsX5_leavesWhole ({ frames := 2, cells := 0, slots := 0, locals := 50 } : Room) (zWr D vwCl (zT cA) [(th, .inr (5, [.ref g, .ref lr, .ref pa, .ref ua, .ref xa, .ref ds, .ref pr, .ref bl, .int (zB est)])), (g, .inr (2, [.ref gf, .ref gt, .ref gw, .int (zB dir), .int (nI nv), .int (nI me)])), (gf, aI cA 40 (fun j => nI (Fr j))), (gt, aI cA 40 (fun j => nI (To j))), (ua, aI cA 40 (fun j => iZ (U j)))] sz [.ref th, .int (nI k)]) (zQi D vwCl (zT cA) (va_A [(th, .inr (5, [.ref g, .ref lr, .ref pa, .ref ua, .ref xa, .ref ds, .ref pr, .ref bl, .int (zB est)])), (g, .inr (2, [.ref gf, .ref gt, .ref gw, .int (zB dir), .int (nI nv), .int (nI me)])), (gf, aI cA 40 (fun j => nI (Fr j))), (gt, aI cA 40 (fun j => nI (To j))), (ua, aI cA 40 (fun j => iZ (U j)))] sz) [(th, .inr (5, [.ref g, .ref lr, .ref pa, .ref ua, .ref xa, .ref ds, .ref pr, .ref bl, .int (zB est)])), (g, .inr (2, [.ref gf, .ref gt, .ref gw, .int (zB dir), .int (nI nv), .int (nI me)])), (gf, aI cA 40 (fun j => nI (Fr j))), (gt, aI cA 40 (fun j => nI (To j))), (ua, aI cA 40 (fun j => iZ (U j)))] (zB (lWhole Fr To U me k))) 0 0 (va_A [(th, .inr (5, [.ref g, .ref lr, .ref pa, .ref ua, .ref xa, .ref ds, .ref pr, .ref bl, .int (zB est)])), (g, .inr (2, [.ref gf, .ref gt, .ref gw, .int (zB dir), .int (nI nv), .int (nI me)])), (gf, aI cA 40 (fun j => nI (Fr j))), (gt, aI cA 40 (fun j => nI (To j))), (ua, aI cA 40 (fun j => iZ (U j)))] sz) := by
  refine z_write (cc := cX5_leavesWhole) (maxL := 4) (ret := (some .boolean)) (by decide) rfl (Nat.le_of_ble_eq_true rfl) ?_
  intro p e s m below meth c hx hb hr hml hown hts hlocks A hAe hA H locs hP hK hD hS hini Q hQ ls hl
  have hown : s.vm.findClass RX5 = some m.cls := hown
  have hl : lv_has ls 4 [(0, .ref th), (1, .int (nI k))] := hl
  generalize hav : ([.ref th, .int (nI k)] : List Value).toArray = args at hts hQ ⊢
  have hin5 : ∀ w ∈ wsX50, w ∈ wsX5_leavesWhole := by decide +kernel
  refine lv_iload_n hx hb dX5_leavesWhole_0 rfl (lv_at hl 1 rfl) ?_
  refine lv_iconst (v := nI 1) hx hb dX5_leavesWhole_1 (by decide) ?_
  refine lv_ishr hx hb dX5_leavesWhole_2 ?_
  refine z_topi (v := nI (k / 2)) (nb_hlf (by omega)) ?_
  refine lv_istore_n (lv' := [(2, .int (nI (k / 2))), (0, .ref th), (1, .int (nI k))]) hx hb dX5_leavesWhole_3 rfl hl (by decide) rfl (fun ls hl => ?_)
  refine lv_aload_n hx hb dX5_leavesWhole_4 rfl (lv_at hl 1 rfl) ?_
  refine va_get (D := D) (ci := 5) (v := .ref ua) (C := RX5) (T := TX5) (N := 9) hx hb hts hin5 hown hK hP 0 rfl rfl 3 (by decide) (hts (.fieldLink RX5 28 "TourHouse" "uses" "[I") (by decide +kernel)) (fun _ h9 => h9) rfl dX5_leavesWhole_5 ?_
  refine lv_iload_n hx hb dX5_leavesWhole_8 rfl (lv_at hl 0 rfl) ?_
  refine z_iald hx hb hK hP 4 0 rfl rfl (k := (k / 2)) (by omega) (by decide) (v := iZ (U (k / 2))) rfl dX5_leavesWhole_9 ?_
  refine lv_iconst (v := nI 1) hx hb dX5_leavesWhole_10 (by decide) ?_
  refine z_Ile hx hb (x := U (k / 2)) (y := ((1 : Nat) : Int)) (⟨by have := hU (k / 2); omega, by have := hU (k / 2); omega⟩) (⟨by omega, by omega⟩) (tgt := 16) dX5_leavesWhole_11 (by decide) (fun h11 => ?_) (fun h11 => ?_)
  · skip
    refine lv_aload_n hx hb dX5_leavesWhole_16 rfl (lv_at hl 1 rfl) ?_
    refine va_get (D := D) (ci := 5) (v := .ref ua) (C := RX5) (T := TX5) (N := 9) hx hb hts hin5 hown hK hP 0 rfl rfl 3 (by decide) (hts (.fieldLink RX5 28 "TourHouse" "uses" "[I") (by decide +kernel)) (fun _ h9 => h9) rfl dX5_leavesWhole_17 ?_
    refine lv_iload_n hx hb dX5_leavesWhole_20 rfl (lv_at hl 0 rfl) ?_
    refine lv_dup2_11 hx hb dX5_leavesWhole_21 rfl rfl ?_
    refine z_iald hx hb hK hP 4 0 rfl rfl (k := (k / 2)) (by omega) (by decide) (v := iZ (U (k / 2))) rfl dX5_leavesWhole_22 ?_
    refine lv_iconst (v := nI 1) hx hb dX5_leavesWhole_23 (by decide) ?_
    refine lv_isub hx hb dX5_leavesWhole_24 ?_
    refine z_topi (v := iZ ((U (k / 2)) - 1)) (iZ_sub (U (k / 2)) 1) ?_
    refine z_iast hx hb hK hP hD hS 4 0 rfl rfl (k := (k / 2)) (by omega) (by decide) (f' := (fun j => iZ ((va_up U (k / 2) ((U (k / 2)) - 1)) j))) (upd_iZ _ _ _) (ws' := [(th, .inr (5, [.ref g, .ref lr, .ref pa, .ref ua, .ref xa, .ref ds, .ref pr, .ref bl, .int (zB est)])), (g, .inr (2, [.ref gf, .ref gt, .ref gw, .int (zB dir), .int (nI nv), .int (nI me)])), (gf, aI cA 40 (fun j => nI (Fr j))), (gt, aI cA 40 (fun j => nI (To j))), (ua, aI cA 40 (fun j => iZ ((va_up U (k / 2) ((U (k / 2)) - 1)) j)))]) rfl dX5_leavesWhole_25 (fun H locs hP hD hS => ?_)
    refine lv_aload_n hx hb dX5_leavesWhole_26 rfl (lv_at hl 1 rfl) ?_
    refine va_get (D := D) (ci := 5) (v := .ref g) (C := RX5) (T := TX5) (N := 9) hx hb hts hin5 hown hK hP 0 rfl rfl 0 (by decide) (hts (.fieldLink RX5 12 "TourHouse" "graph" "LTourHouse$Graph;") (by decide +kernel)) (fun _ h9 => h9) rfl dX5_leavesWhole_27 ?_
    refine lv_aload_n hx hb dX5_leavesWhole_30 rfl (lv_at hl 1 rfl) ?_
    refine va_get (D := D) (ci := 5) (v := .ref g) (C := RX5) (T := TX5) (N := 9) hx hb hts hin5 hown hK hP 0 rfl rfl 0 (by decide) (hts (.fieldLink RX5 12 "TourHouse" "graph" "LTourHouse$Graph;") (by decide +kernel)) (fun _ h9 => h9) rfl dX5_leavesWhole_31 ?_
    refine lv_iload_n hx hb dX5_leavesWhole_34 rfl (lv_at hl 2 rfl) ?_
    refine z_cRVi (wc := [(g, .inr (2, [.ref gf, .ref gt, .ref gw, .int (zB dir), .int (nI nv), .int (nI me)])), (gf, aI cA 40 (fun j => nI (Fr j))), (gt, aI cA 40 (fun j => nI (To j)))]) (rm := ({ frames := 0, cells := 0, slots := 0, locals := 0 } : Room)) (As := [.int (nI k)]) (rest := [.ref g]) ⟨hx, hb, hml, hown, hts⟩ (c_X2_endOf l D cA g gf gt gw Fr To dir nv me ((k : Nat) : Int) (by first | assumption | omega) (by first | assumption | omega) (⟨by omega, by omega⟩)) (cwV 1 hts gX5_leavesWhole_X2_endOf rfl rfl rfl (by decide +kernel) ⟨Nat.le_of_ble_eq_true rfl, Nat.le_of_ble_eq_true rfl⟩) hP hK [1, 2, 3] rfl 2 0 rfl rfl rfl hl.1 rfl (Nat.le_of_ble_eq_true rfl) ⟨Nat.zero_le _, Nat.zero_le _⟩ dX5_leavesWhole_35 (fun r hr35 => ?_)
    subst hr35
    refine lv_aload_n hx hb dX5_leavesWhole_38 rfl (lv_at hl 1 rfl) ?_
    refine va_get (D := D) (ci := 5) (v := .ref ua) (C := RX5) (T := TX5) (N := 9) hx hb hts hin5 hown hK hP 0 rfl rfl 3 (by decide) (hts (.fieldLink RX5 28 "TourHouse" "uses" "[I") (by decide +kernel)) (fun _ h9 => h9) rfl dX5_leavesWhole_39 ?_
    refine z_cRVi (wc := [(g, .inr (2, [.ref gf, .ref gt, .ref gw, .int (zB dir), .int (nI nv), .int (nI me)])), (gf, aI cA 40 (fun j => nI (Fr j))), (gt, aI cA 40 (fun j => nI (To j))), (ua, aI cA 40 (fun j => iZ ((va_up U (k / 2) ((U (k / 2)) - 1)) j)))]) (rm := ({ frames := 1, cells := 0, slots := 0, locals := 28 } : Room)) (As := [.int (nI (gEnd Fr To ((k : Nat) : Int))), .ref ua]) (rest := []) ⟨hx, hb, hml, hown, hts⟩ (c_X2_hangsTogetherAt l D cA g gf gt gw Fr To dir nv me ua (va_up U (k / 2) ((U (k / 2)) - 1)) (gEnd Fr To ((k : Nat) : Int)) (by first | assumption | omega) (by first | assumption | omega) (by first | assumption | omega) (fun j => by have := up_all (P := fun x => -1000001 ≤ x ∧ x ≤ 1000000) (k := k / 2) (x := U (k / 2) - 1) (fun j => (by have := hU j; omega : -1000001 ≤ U j ∧ U j ≤ 1000000)) (by have := hU (k / 2); omega) j; omega) (gEnd_lt hF hT _)) (cwV 2 hts gX5_leavesWhole_X2_hangsTogetherAt rfl rfl rfl (by decide +kernel) ⟨Nat.le_of_ble_eq_true rfl, Nat.le_of_ble_eq_true rfl⟩) hP hK [1, 2, 3, 4] rfl 2 0 rfl rfl rfl hl.1 rfl (Nat.le_of_ble_eq_true rfl) ⟨Nat.zero_le _, Nat.zero_le _⟩ dX5_leavesWhole_42 (fun r hr42 => ?_)
    subst hr42
    refine lv_istore_n (lv' := [(3, .int (zB (gHang Fr To (va_up U (k / 2) ((U (k / 2)) - 1)) me (gEnd Fr To ((k : Nat) : Int))))), (2, .int (nI (k / 2))), (0, .ref th), (1, .int (nI k))]) hx hb dX5_leavesWhole_45 rfl hl (by decide) rfl (fun ls hl => ?_)
    refine lv_aload_n hx hb dX5_leavesWhole_46 rfl (lv_at hl 2 rfl) ?_
    refine va_get (D := D) (ci := 5) (v := .ref ua) (C := RX5) (T := TX5) (N := 9) hx hb hts hin5 hown hK hP 0 rfl rfl 3 (by decide) (hts (.fieldLink RX5 28 "TourHouse" "uses" "[I") (by decide +kernel)) (fun _ h9 => h9) rfl dX5_leavesWhole_47 ?_
    refine lv_iload_n hx hb dX5_leavesWhole_50 rfl (lv_at hl 1 rfl) ?_
    refine lv_dup2_11 hx hb dX5_leavesWhole_51 rfl rfl ?_
    refine z_iald hx hb hK hP 4 0 rfl rfl (k := (k / 2)) (by omega) (by decide) (v := iZ ((va_up U (k / 2) ((U (k / 2)) - 1)) (k / 2))) rfl dX5_leavesWhole_52 ?_
    refine lv_iconst (v := nI 1) hx hb dX5_leavesWhole_53 (by decide) ?_
    refine lv_iadd hx hb dX5_leavesWhole_54 ?_
    refine z_topi (v := iZ (((va_up U (k / 2) ((U (k / 2)) - 1)) (k / 2)) + 1)) (iZ_add ((va_up U (k / 2) ((U (k / 2)) - 1)) (k / 2)) 1) ?_
    refine z_iast hx hb hK hP hD hS 4 0 rfl rfl (k := (k / 2)) (by omega) (by decide) (f' := (fun j => iZ ((va_up (va_up U (k / 2) ((U (k / 2)) - 1)) (k / 2) (((va_up U (k / 2) ((U (k / 2)) - 1)) (k / 2)) + 1)) j))) (upd_iZ _ _ _) (ws' := [(th, .inr (5, [.ref g, .ref lr, .ref pa, .ref ua, .ref xa, .ref ds, .ref pr, .ref bl, .int (zB est)])), (g, .inr (2, [.ref gf, .ref gt, .ref gw, .int (zB dir), .int (nI nv), .int (nI me)])), (gf, aI cA 40 (fun j => nI (Fr j))), (gt, aI cA 40 (fun j => nI (To j))), (ua, aI cA 40 (fun j => iZ ((va_up (va_up U (k / 2) ((U (k / 2)) - 1)) (k / 2) (((va_up U (k / 2) ((U (k / 2)) - 1)) (k / 2)) + 1)) j)))]) rfl dX5_leavesWhole_55 (fun H locs hP hD hS => ?_)
    have q9 : (fun j => iZ (U j)) = (fun j => iZ ((va_up (va_up U (k / 2) ((U (k / 2)) - 1)) (k / 2) (((va_up U (k / 2) ((U (k / 2)) - 1)) (k / 2)) + 1)) j)) := by rw [upd_back]
    have hP : va_P D vwCl [(th, .inr (5, [.ref g, .ref lr, .ref pa, .ref ua, .ref xa, .ref ds, .ref pr, .ref bl, .int (zB est)])), (g, .inr (2, [.ref gf, .ref gt, .ref gw, .int (zB dir), .int (nI nv), .int (nI me)])), (gf, aI cA 40 (fun j => nI (Fr j))), (gt, aI cA 40 (fun j => nI (To j))), (ua, aI cA 40 (fun j => iZ (U j)))] H := by rw [q9]; exact hP
    have hD : va_D A [(th, .inr (5, [.ref g, .ref lr, .ref pa, .ref ua, .ref xa, .ref ds, .ref pr, .ref bl, .int (zB est)])), (g, .inr (2, [.ref gf, .ref gt, .ref gw, .int (zB dir), .int (nI nv), .int (nI me)])), (gf, aI cA 40 (fun j => nI (Fr j))), (gt, aI cA 40 (fun j => nI (To j))), (ua, aI cA 40 (fun j => iZ (U j)))] := by rw [q9]; exact hD
    refine lv_iload_n hx hb dX5_leavesWhole_56 rfl (lv_at hl 0 rfl) ?_
    refine z_topi (v := zB (lWhole Fr To U me k)) (by congr 1; rw [lWhole, if_neg (by omega)]) ?_
    exact z_zretW hx hb hr hlocks hAe hQ (hP) hK (hD) hS dX5_leavesWhole_57
  · skip
    refine lv_iconst (v := zB true) hx hb dX5_leavesWhole_14 (by decide) ?_
    refine z_topi (v := zB (lWhole Fr To U me k)) (by congr 1; rw [lWhole, if_pos (by omega)]) ?_
    exact z_zretW hx hb hr hlocks hAe hQ (hP) hK (hD) hS dX5_leavesWhole_15
set_option maxHeartbeats 4000000 in
set_option maxRecDepth 100000 in
/-- TourHouse.leastStepFrom -/
theorem c_X5_leastStepFrom (l : Launch) (D : va_G) (cA : Nat → ClassId) (sz : Nat) (th : Nat) (lr : Nat) (pa : Nat) (ua : Nat) (xa : Nat) (ds : Nat) (pr : Nat) (bl : Nat) (est : Bool) (g : Nat) (gf : Nat) (gt : Nat) (gw : Nat) (Fr : Nat → Nat) (To : Nat → Nat) (dir : Bool) (nv : Nat) (me : Nat) (U : Nat → Int) (a : Nat) (hme : me ≤ 40) (hF : ∀ j, Fr j < 16) (hT : ∀ j, To j < 16) (hU : ∀ j, -1000000 ≤ U j ∧ U j ≤ 1000000) (ha : a < 16) : Met l yX5_leastStepFrom wsX5_leastStepFrom ({ frames := 3, cells := 0, slots := 0, locals := 73 } : Room) (zWr D vwCl (zT cA) [(th, .inr (5, [.ref g, .ref lr, .ref pa, .ref ua, .ref xa, .ref ds, .ref pr, .ref bl, .int (zB est)])), (g, .inr (2, [.ref gf, .ref gt, .ref gw, .int (zB dir), .int (nI nv), .int (nI me)])), (gf, aI cA 40 (fun j => nI (Fr j))), (gt, aI cA 40 (fun j => nI (To j))), (ua, aI cA 40 (fun j => iZ (U j)))] sz [.ref th, .int (nI a)]) (zQi D vwCl (zT cA) (va_A [(th, .inr (5, [.ref g, .ref lr, .ref pa, .ref ua, .ref xa, .ref ds, .ref pr, .ref bl, .int (zB est)])), (g, .inr (2, [.ref gf, .ref gt, .ref gw, .int (zB dir), .int (nI nv), .int (nI me)])), (gf, aI cA 40 (fun j => nI (Fr j))), (gt, aI cA 40 (fun j => nI (To j))), (ua, aI cA 40 (fun j => iZ (U j)))] sz) [(th, .inr (5, [.ref g, .ref lr, .ref pa, .ref ua, .ref xa, .ref ds, .ref pr, .ref bl, .int (zB est)])), (g, .inr (2, [.ref gf, .ref gt, .ref gw, .int (zB dir), .int (nI nv), .int (nI me)])), (gf, aI cA 40 (fun j => nI (Fr j))), (gt, aI cA 40 (fun j => nI (To j))), (ua, aI cA 40 (fun j => iZ (U j)))] (iZ (lStep dir Fr To U me a (2 * me)))) 0 0 (va_A [(th, .inr (5, [.ref g, .ref lr, .ref pa, .ref ua, .ref xa, .ref ds, .ref pr, .ref bl, .int (zB est)])), (g, .inr (2, [.ref gf, .ref gt, .ref gw, .int (zB dir), .int (nI nv), .int (nI me)])), (gf, aI cA 40 (fun j => nI (Fr j))), (gt, aI cA 40 (fun j => nI (To j))), (ua, aI cA 40 (fun j => iZ (U j)))] sz) := by
  refine z_write (cc := cX5_leastStepFrom) (maxL := 3) (ret := (some .int)) (by decide) rfl (Nat.le_of_ble_eq_true rfl) ?_
  intro p e s m below meth c hx hb hr hml hown hts hlocks A hAe hA H locs hP hK hD hS hini Q hQ ls hl
  have hown : s.vm.findClass RX5 = some m.cls := hown
  have hl : lv_has ls 3 [(0, .ref th), (1, .int (nI a))] := hl
  generalize hav : ([.ref th, .int (nI a)] : List Value).toArray = args at hts hQ ⊢
  have hin2 : ∀ w ∈ wsX20, w ∈ wsX5_leastStepFrom := by decide +kernel
  have hin5 : ∀ w ∈ wsX50, w ∈ wsX5_leastStepFrom := by decide +kernel
  refine lv_iconst (v := nI 0) hx hb dX5_leastStepFrom_0 (by decide) ?_
  refine lv_istore_n (lv' := [(2, .int (nI 0)), (0, .ref th), (1, .int (nI a))]) hx hb dX5_leastStepFrom_1 rfl hl (by decide) rfl (fun ls hl => ?_)
  have J2 : ∀ (n : Nat), ∀ (i : Nat), (i ≤ 2 * me) → (lStep dir Fr To U me a (2 * me - i) = lStep dir Fr To U me a (2 * me)) → 2 * me - i < n → ∀ (H : Heap) (locs : List Loc), va_P D vwCl [(th, .inr (5, [.ref g, .ref lr, .ref pa, .ref ua, .ref xa, .ref ds, .ref pr, .ref bl, .int (zB est)])), (g, .inr (2, [.ref gf, .ref gt, .ref gw, .int (zB dir), .int (nI nv), .int (nI me)])), (gf, aI cA 40 (fun j => nI (Fr j))), (gt, aI cA 40 (fun j => nI (To j))), (ua, aI cA 40 (fun j => iZ (U j)))] H → va_D A [(th, .inr (5, [.ref g, .ref lr, .ref pa, .ref ua, .ref xa, .ref ds, .ref pr, .ref bl, .int (zB est)])), (g, .inr (2, [.ref gf, .ref gt, .ref gw, .int (zB dir), .int (nI nv), .int (nI me)])), (gf, aI cA 40 (fun j => nI (Fr j))), (gt, aI cA 40 (fun j => nI (To j))), (ua, aI cA 40 (fun j => iZ (U j)))] → va_S A s.heap H locs → ∀ (ls : Array Slot), lv_has ls 3 [(0, .ref th), (1, .int (nI a)), (2, .int (nI i))] → W p l e ({ frames := 3, cells := 0, slots := 0, locals := 73 } : Room) s m args below meth c H locs 0 0 Q (F0 m 2 ls []) := by
    intro n2
    induction n2 with
    | zero => intro i hi hq hn; exact absurd hn (Nat.not_lt_zero _)
    | succ n2 ih2 =>
      intro i hi hq hn2 H locs hP hD hS ls hl
      refine lv_iload_n hx hb dX5_leastStepFrom_2 rfl (lv_at hl 2 rfl) ?_
      refine lv_iconst (v := nI 2) hx hb dX5_leastStepFrom_3 (by decide) ?_
      refine lv_aload_n hx hb dX5_leastStepFrom_4 rfl (lv_at hl 0 rfl) ?_
      refine va_get (D := D) (ci := 5) (v := .ref g) (C := RX5) (T := TX5) (N := 9) hx hb hts hin5 hown hK hP 0 rfl rfl 0 (by decide) (hts (.fieldLink RX5 12 "TourHouse" "graph" "LTourHouse$Graph;") (by decide +kernel)) (fun _ h9 => h9) rfl dX5_leastStepFrom_5 ?_
      refine va_get (D := D) (ci := 2) (v := .int (nI me)) (C := RX2) (T := TX2) (N := 6) hx hb hts hin2 hown hK hP 1 rfl rfl 5 (by decide) (hts (.fieldLink RX5 67 "TourHouse$Graph" "edges" "I") (by decide +kernel)) (fun _ h9 => h9) rfl dX5_leastStepFrom_8 ?_
      refine lv_imul hx hb dX5_leastStepFrom_11 ?_
      refine z_topi (v := nI (2 * me)) (pk_mul 2 me) ?_
      refine z_ge hx hb (by omega) (by omega) (tgt := 54) dX5_leastStepFrom_12 (by decide) (fun h12 => ?_) (fun h12 => ?_)
      · skip
        refine lv_iconst (v := iZ (-1)) hx hb dX5_leastStepFrom_54 (by decide) ?_
        refine z_topi (v := iZ (lStep dir Fr To U me a (2 * me))) (by rw [← hq, show 2 * me - i = 0 from by omega]; rfl) ?_
        exact z_iretW hx hb hr hlocks hAe hQ (hP) hK (hD) hS dX5_leastStepFrom_55
      · skip
        refine lv_aload_n hx hb dX5_leastStepFrom_15 rfl (lv_at hl 0 rfl) ?_
        refine va_get (D := D) (ci := 5) (v := .ref ua) (C := RX5) (T := TX5) (N := 9) hx hb hts hin5 hown hK hP 0 rfl rfl 3 (by decide) (hts (.fieldLink RX5 28 "TourHouse" "uses" "[I") (by decide +kernel)) (fun _ h9 => h9) rfl dX5_leastStepFrom_16 ?_
        refine lv_iload_n hx hb dX5_leastStepFrom_19 rfl (lv_at hl 2 rfl) ?_
        refine lv_iconst (v := nI 1) hx hb dX5_leastStepFrom_20 (by decide) ?_
        refine lv_ishr hx hb dX5_leastStepFrom_21 ?_
        refine z_topi (v := nI (i / 2)) (nb_hlf (by omega)) ?_
        refine z_iald hx hb hK hP 4 0 rfl rfl (k := (i / 2)) (by omega) (by decide) (v := iZ (U (i / 2))) rfl dX5_leastStepFrom_22 ?_
        refine z_ile hx hb (x := U (i / 2)) (⟨by have := hU (i / 2); omega, by have := hU (i / 2); omega⟩) (tgt := 48) dX5_leastStepFrom_23 (by decide) (fun h23 => ?_) (fun h23 => ?_)
        · skip
          refine lv_iinc (v := nI (i + 1)) (lv' := [(2, .int (nI (i + 1))), (0, .ref th), (1, .int (nI a))]) hx hb dX5_leastStepFrom_48 hl (k := 2) rfl (nI_1 i) (by decide) rfl (fun ls hl => ?_)
          refine lv_goto (tgt := 2) hx hb dX5_leastStepFrom_51 (by decide) ?_
          exact ih2 (i + 1) (by omega) (by rw [← hq, show 2 * me - i = (2 * me - (i + 1)) + 1 from by omega, lStep, show 2 * me - (2 * me - (i + 1) + 1) = i from by omega, if_neg (by rintro ⟨q1, q2, q3⟩; first | omega | exact absurd (q2.symm.trans h35) (by decide) | exact absurd (q3.symm.trans h43) (by decide))]) (by omega) _ _ (hP) (hD) hS ls (lv_sub hl [1, 2, 0] (by rfl))
        · skip
          refine lv_aload_n hx hb dX5_leastStepFrom_26 rfl (lv_at hl 0 rfl) ?_
          refine va_get (D := D) (ci := 5) (v := .ref g) (C := RX5) (T := TX5) (N := 9) hx hb hts hin5 hown hK hP 0 rfl rfl 0 (by decide) (hts (.fieldLink RX5 12 "TourHouse" "graph" "LTourHouse$Graph;") (by decide +kernel)) (fun _ h9 => h9) rfl dX5_leastStepFrom_27 ?_
          refine lv_iload_n hx hb dX5_leastStepFrom_30 rfl (lv_at hl 2 rfl) ?_
          refine lv_iload_n hx hb dX5_leastStepFrom_31 rfl (lv_at hl 1 rfl) ?_
          refine z_cRVi (wc := [(g, .inr (2, [.ref gf, .ref gt, .ref gw, .int (zB dir), .int (nI nv), .int (nI me)])), (gf, aI cA 40 (fun j => nI (Fr j))), (gt, aI cA 40 (fun j => nI (To j)))]) (rm := ({ frames := 0, cells := 0, slots := 0, locals := 0 } : Room)) (As := [.int (nI i), .int (nI a)]) (rest := []) ⟨hx, hb, hml, hown, hts⟩ (c_X2_isStepFrom l D cA g gf gt gw Fr To dir nv me ((i : Nat) : Int) a (by first | assumption | omega) (by first | assumption | omega) (by first | assumption | omega) (⟨by omega, by omega⟩) (by first | assumption | omega)) (cwV 2 hts gX5_leastStepFrom_X2_isStepFrom rfl rfl rfl (by decide +kernel) ⟨Nat.le_of_ble_eq_true rfl, Nat.le_of_ble_eq_true rfl⟩) hP hK [1, 2, 3] rfl 2 0 rfl rfl rfl hl.1 rfl (Nat.le_of_ble_eq_true rfl) ⟨Nat.zero_le _, Nat.zero_le _⟩ dX5_leastStepFrom_32 (fun r hr32 => ?_)
          subst hr32
          refine z_ifeq hx hb (tgt := 48) dX5_leastStepFrom_35 (by decide) (fun h35 => ?_) (fun h35 => ?_)
          · skip
            refine lv_iinc (v := nI (i + 1)) (lv' := [(2, .int (nI (i + 1))), (0, .ref th), (1, .int (nI a))]) hx hb dX5_leastStepFrom_48 hl (k := 2) rfl (nI_1 i) (by decide) rfl (fun ls hl => ?_)
            refine lv_goto (tgt := 2) hx hb dX5_leastStepFrom_51 (by decide) ?_
            exact ih2 (i + 1) (by omega) (by rw [← hq, show 2 * me - i = (2 * me - (i + 1)) + 1 from by omega, lStep, show 2 * me - (2 * me - (i + 1) + 1) = i from by omega, if_neg (by rintro ⟨q1, q2, q3⟩; first | omega | exact absurd (q2.symm.trans h35) (by decide) | exact absurd (q3.symm.trans h43) (by decide))]) (by omega) _ _ (hP) (hD) hS ls (lv_sub hl [1, 2, 0] (by rfl))
          · skip
            refine lv_aload_n hx hb dX5_leastStepFrom_38 rfl (lv_at hl 0 rfl) ?_
            refine lv_iload_n hx hb dX5_leastStepFrom_39 rfl (lv_at hl 2 rfl) ?_
            refine z_cWVi (wc := [(th, .inr (5, [.ref g, .ref lr, .ref pa, .ref ua, .ref xa, .ref ds, .ref pr, .ref bl, .int (zB est)])), (g, .inr (2, [.ref gf, .ref gt, .ref gw, .int (zB dir), .int (nI nv), .int (nI me)])), (gf, aI cA 40 (fun j => nI (Fr j))), (gt, aI cA 40 (fun j => nI (To j))), (ua, aI cA 40 (fun j => iZ (U j)))]) (rm := ({ frames := 2, cells := 0, slots := 0, locals := 50 } : Room)) (As := [.int (nI i)]) (rest := []) (wr := []) (w1 := [(th, .inr (5, [.ref g, .ref lr, .ref pa, .ref ua, .ref xa, .ref ds, .ref pr, .ref bl, .int (zB est)])), (g, .inr (2, [.ref gf, .ref gt, .ref gw, .int (zB dir), .int (nI nv), .int (nI me)])), (gf, aI cA 40 (fun j => nI (Fr j))), (gt, aI cA 40 (fun j => nI (To j))), (ua, aI cA 40 (fun j => iZ (U j)))]) (ws' := [(th, .inr (5, [.ref g, .ref lr, .ref pa, .ref ua, .ref xa, .ref ds, .ref pr, .ref bl, .int (zB est)])), (g, .inr (2, [.ref gf, .ref gt, .ref gw, .int (zB dir), .int (nI nv), .int (nI me)])), (gf, aI cA 40 (fun j => nI (Fr j))), (gt, aI cA 40 (fun j => nI (To j))), (ua, aI cA 40 (fun j => iZ (U j)))]) ⟨hx, hb, hml, hown, hts⟩ (c_X5_leavesWhole l D cA H.size th lr pa ua xa ds pr bl est g gf gt gw Fr To dir nv me U i (by first | assumption | omega) (by first | assumption | omega) (by first | assumption | omega) (by first | assumption | omega) (by first | assumption | omega)) (cwV 1 hts gX5_leastStepFrom_X5_leavesWhole rfl rfl rfl (by decide +kernel) ⟨Nat.le_of_ble_eq_true rfl, Nat.le_of_ble_eq_true rfl⟩) hP hK hD hS hA [0, 1, 2, 3, 4] [] [0, 1, 2, 3, 4] rfl rfl rfl rfl rfl (by decide) rfl rfl rfl 5 0 rfl rfl rfl hl.1 rfl (Nat.le_of_ble_eq_true rfl) ⟨Nat.zero_le _, Nat.zero_le _⟩ dX5_leastStepFrom_40 (fun H locs hP hD hS => ?_)
            refine z_ifeq hx hb (tgt := 48) dX5_leastStepFrom_43 (by decide) (fun h43 => ?_) (fun h43 => ?_)
            · skip
              refine lv_iinc (v := nI (i + 1)) (lv' := [(2, .int (nI (i + 1))), (0, .ref th), (1, .int (nI a))]) hx hb dX5_leastStepFrom_48 hl (k := 2) rfl (nI_1 i) (by decide) rfl (fun ls hl => ?_)
              refine lv_goto (tgt := 2) hx hb dX5_leastStepFrom_51 (by decide) ?_
              exact ih2 (i + 1) (by omega) (by rw [← hq, show 2 * me - i = (2 * me - (i + 1)) + 1 from by omega, lStep, show 2 * me - (2 * me - (i + 1) + 1) = i from by omega, if_neg (by rintro ⟨q1, q2, q3⟩; first | omega | exact absurd (q2.symm.trans h35) (by decide) | exact absurd (q3.symm.trans h43) (by decide))]) (by omega) _ _ (hP) (hD) hS ls (lv_sub hl [1, 2, 0] (by rfl))
            · skip
              refine lv_iload_n hx hb dX5_leastStepFrom_46 rfl (lv_at hl 2 rfl) ?_
              refine z_topi (v := iZ (lStep dir Fr To U me a (2 * me))) (by rw [← hq, show 2 * me - i = (2 * me - (i + 1)) + 1 from by omega, lStep, show 2 * me - (2 * me - (i + 1) + 1) = i from by omega, if_pos ⟨h23, h35, h43⟩]; rfl) ?_
              exact z_iretW hx hb hr hlocks hAe hQ (hP) hK (hD) hS dX5_leastStepFrom_47
  exact J2 ((2 * me - 0) + 1) 0 (by omega) rfl (by omega) _ _ (hP) (hD) hS ls (lv_sub hl [1, 2, 0] (by rfl))
set_option maxHeartbeats 4000000 in
set_option maxRecDepth 100000 in
/-- TourHouse.writeLeastRow -/
theorem c_X5_writeLeastRow (l : Launch) (D : va_G) (cA : Nat → ClassId) (sz : Nat) (th : Nat) (lr : Nat) (pa : Nat) (ua : Nat) (xa : Nat) (ds : Nat) (pr : Nat) (bl : Nat) (est : Bool) (g : Nat) (gf : Nat) (gt : Nat) (gw : Nat) (Fr : Nat → Nat) (To : Nat → Nat) (dir : Bool) (nv : Nat) (me : Nat) (U : Nat → Int) (la : Nat) (ln : Nat) (Lz : Nat → Int) (start : Nat) (hme : me ≤ 40) (hF : ∀ j, Fr j < 16) (hT : ∀ j, To j < 16) (hU : ∀ j, -10000 ≤ U j ∧ U j ≤ 10000) (hst : start < 16) : Met l yX5_writeLeastRow wsX5_writeLeastRow ({ frames := 4, cells := 0, slots := 0, locals := 95 } : Room) (zWr D vwCl (zT cA) [(th, .inr (5, [.ref g, .ref lr, .ref pa, .ref ua, .ref xa, .ref ds, .ref pr, .ref bl, .int (zB est)])), (lr, .inr (4, [.ref la, .int (nI ln)])), (la, aI cA 640 (fun j => iZ (Lz j))), (g, .inr (2, [.ref gf, .ref gt, .ref gw, .int (zB dir), .int (nI nv), .int (nI me)])), (gf, aI cA 40 (fun j => nI (Fr j))), (gt, aI cA 40 (fun j => nI (To j))), (ua, aI cA 40 (fun j => iZ (U j)))] sz [.ref th, .int (nI start)]) (zQv D vwCl (zT cA) (va_A [(th, .inr (5, [.ref g, .ref lr, .ref pa, .ref ua, .ref xa, .ref ds, .ref pr, .ref bl, .int (zB est)])), (lr, .inr (4, [.ref la, .int (nI ln)])), (la, aI cA 640 (fun j => iZ (Lz j))), (g, .inr (2, [.ref gf, .ref gt, .ref gw, .int (zB dir), .int (nI nv), .int (nI me)])), (gf, aI cA 40 (fun j => nI (Fr j))), (gt, aI cA 40 (fun j => nI (To j))), (ua, aI cA 40 (fun j => iZ (U j)))] sz) [(th, .inr (5, [.ref g, .ref lr, .ref pa, .ref ua, .ref xa, .ref ds, .ref pr, .ref bl, .int (zB est)])), (lr, .inr (4, [.ref la, .int (nI ((wRow dir Fr To me Lz U start).1))])), (la, aI cA 640 (fun j => iZ (((wRow dir Fr To me Lz U start).2.1) j))), (g, .inr (2, [.ref gf, .ref gt, .ref gw, .int (zB dir), .int (nI nv), .int (nI me)])), (gf, aI cA 40 (fun j => nI (Fr j))), (gt, aI cA 40 (fun j => nI (To j))), (ua, aI cA 40 (fun j => iZ (((wRow dir Fr To me Lz U start).2.2.1) j)))]) 0 0 (va_A [(th, .inr (5, [.ref g, .ref lr, .ref pa, .ref ua, .ref xa, .ref ds, .ref pr, .ref bl, .int (zB est)])), (lr, .inr (4, [.ref la, .int (nI ln)])), (la, aI cA 640 (fun j => iZ (Lz j))), (g, .inr (2, [.ref gf, .ref gt, .ref gw, .int (zB dir), .int (nI nv), .int (nI me)])), (gf, aI cA 40 (fun j => nI (Fr j))), (gt, aI cA 40 (fun j => nI (To j))), (ua, aI cA 40 (fun j => iZ (U j)))] sz) := by
  refine z_write (cc := cX5_writeLeastRow) (maxL := 5) (ret := none) (by decide) rfl (Nat.le_of_ble_eq_true rfl) ?_
  intro p e s m below meth c hx hb hr hml hown hts hlocks A hAe hA H locs hP hK hD hS hini Q hQ ls hl
  have hown : s.vm.findClass RX5 = some m.cls := hown
  have hl : lv_has ls 5 [(0, .ref th), (1, .int (nI start))] := hl
  generalize hav : ([.ref th, .int (nI start)] : List Value).toArray = args at hts hQ ⊢
  have hin5 : ∀ w ∈ wsX50, w ∈ wsX5_writeLeastRow := by decide +kernel
  refine lv_aload_n hx hb dX5_writeLeastRow_0 rfl (lv_at hl 0 rfl) ?_
  refine va_get (D := D) (ci := 5) (v := .ref lr) (C := RX5) (T := TX5) (N := 9) hx hb hts hin5 hown hK hP 0 rfl rfl 1 (by decide) (hts (.fieldLink RX5 21 "TourHouse" "latestRow" "LTourHouse$StepRow;") (by decide +kernel)) (fun _ h9 => h9) rfl dX5_writeLeastRow_1 ?_
  refine z_cWVv (wc := [(lr, .inr (4, [.ref la, .int (nI ln)]))]) (rm := ({ frames := 0, cells := 0, slots := 0, locals := 0 } : Room)) (As := []) (rest := []) (wr := [(th, .inr (5, [.ref g, .ref lr, .ref pa, .ref ua, .ref xa, .ref ds, .ref pr, .ref bl, .int (zB est)])), (la, aI cA 640 (fun j => iZ (Lz j))), (g, .inr (2, [.ref gf, .ref gt, .ref gw, .int (zB dir), .int (nI nv), .int (nI me)])), (gf, aI cA 40 (fun j => nI (Fr j))), (gt, aI cA 40 (fun j => nI (To j))), (ua, aI cA 40 (fun j => iZ (U j)))]) (w1 := [(lr, .inr (4, [.ref la, .int (nI 0)]))]) (ws' := [(th, .inr (5, [.ref g, .ref lr, .ref pa, .ref ua, .ref xa, .ref ds, .ref pr, .ref bl, .int (zB est)])), (lr, .inr (4, [.ref la, .int (nI 0)])), (la, aI cA 640 (fun j => iZ (Lz j))), (g, .inr (2, [.ref gf, .ref gt, .ref gw, .int (zB dir), .int (nI nv), .int (nI me)])), (gf, aI cA 40 (fun j => nI (Fr j))), (gt, aI cA 40 (fun j => nI (To j))), (ua, aI cA 40 (fun j => iZ (U j)))]) ⟨hx, hb, hml, hown, hts⟩ (c_X4_clear l D cA H.size lr la 640 Lz ln ) (cwV 0 hts gX5_writeLeastRow_X4_clear rfl rfl rfl (by decide +kernel) ⟨Nat.le_of_ble_eq_true rfl, Nat.le_of_ble_eq_true rfl⟩) hP hK hD hS hA [1] [0, 2, 3, 4, 5, 6] [0, 6, 1, 2, 3, 4, 5] rfl rfl rfl rfl rfl (by decide) rfl rfl rfl 4 0 rfl rfl rfl hl.1 rfl (Nat.le_of_ble_eq_true rfl) ⟨Nat.zero_le _, Nat.zero_le _⟩ dX5_writeLeastRow_4 (fun H locs hP hD hS => ?_)
  refine lv_iload_n hx hb dX5_writeLeastRow_7 rfl (lv_at hl 1 rfl) ?_
  refine lv_istore_n (lv' := [(2, .int (nI start)), (0, .ref th), (1, .int (nI start))]) hx hb dX5_writeLeastRow_8 rfl hl (by decide) rfl (fun ls hl => ?_)
  refine lv_iconst (v := nI 0) hx hb dX5_writeLeastRow_9 (by decide) ?_
  refine lv_istore_n (lv' := [(3, .int (nI 0)), (2, .int (nI start)), (0, .ref th), (1, .int (nI start))]) hx hb dX5_writeLeastRow_10 rfl hl (by decide) rfl (fun ls hl => ?_)
  have J11 : ∀ (n : Nat), ∀ (k : Nat) (ω : (Nat → Int) × (Nat → Int) × Nat), (k ≤ 640) → (∀ j, -(10000 + k : Int) ≤ ω.2.1 j ∧ ω.2.1 j ≤ 10000) → (ω.2.2 < 16) → (wLoop dir Fr To me (640 - k) k ω = wRow dir Fr To me Lz U start) → 640 - k < n → ∀ (H : Heap) (locs : List Loc), va_P D vwCl [(th, .inr (5, [.ref g, .ref lr, .ref pa, .ref ua, .ref xa, .ref ds, .ref pr, .ref bl, .int (zB est)])), (lr, .inr (4, [.ref la, .int (nI k)])), (la, aI cA 640 (fun j => iZ (ω.1 j))), (g, .inr (2, [.ref gf, .ref gt, .ref gw, .int (zB dir), .int (nI nv), .int (nI me)])), (gf, aI cA 40 (fun j => nI (Fr j))), (gt, aI cA 40 (fun j => nI (To j))), (ua, aI cA 40 (fun j => iZ (ω.2.1 j)))] H → va_D A [(th, .inr (5, [.ref g, .ref lr, .ref pa, .ref ua, .ref xa, .ref ds, .ref pr, .ref bl, .int (zB est)])), (lr, .inr (4, [.ref la, .int (nI k)])), (la, aI cA 640 (fun j => iZ (ω.1 j))), (g, .inr (2, [.ref gf, .ref gt, .ref gw, .int (zB dir), .int (nI nv), .int (nI me)])), (gf, aI cA 40 (fun j => nI (Fr j))), (gt, aI cA 40 (fun j => nI (To j))), (ua, aI cA 40 (fun j => iZ (ω.2.1 j)))] → va_S A s.heap H locs → ∀ (ls : Array Slot), lv_has ls 5 [(0, .ref th), (1, .int (nI start)), (2, .int (nI ω.2.2)), (3, .int (nI k))] → W p l e ({ frames := 4, cells := 0, slots := 0, locals := 95 } : Room) s m args below meth c H locs 0 0 Q (F0 m 11 ls []) := by
    intro n11
    induction n11 with
    | zero => intro k ω hk hUk hat hq hn; exact absurd hn (Nat.not_lt_zero _)
    | succ n11 ih11 =>
      intro k ω hk hUk hat hq hn11 H locs hP hD hS ls hl
      refine lv_iload_n hx hb dX5_writeLeastRow_11 rfl (lv_at hl 3 rfl) ?_
      refine lv_sipush (v := nI 640) hx hb dX5_writeLeastRow_12 (by decide) ?_
      refine z_ge hx hb (by omega) (by decide) (tgt := 71) dX5_writeLeastRow_15 (by decide) (fun h15 => ?_) (fun h15 => ?_)
      · skip
        have hres : wRow dir Fr To me Lz U start = (k, ω) := by rw [← hq]; first | (rw [show 640 - k = 0 from by omega]; rfl) | (rw [show 640 - k = (640 - (k + 1)) + 1 from by omega, wLoop, if_pos (by omega)])
        exact z_vretW hx hb hr hlocks hAe hQ (by rw [hres]; exact hP) hK (by rw [hres]; exact hD) hS dX5_writeLeastRow_71
      · skip
        refine lv_aload_n hx hb dX5_writeLeastRow_18 rfl (lv_at hl 0 rfl) ?_
        refine lv_iload_n hx hb dX5_writeLeastRow_19 rfl (lv_at hl 2 rfl) ?_
        refine z_cWVi (wc := [(th, .inr (5, [.ref g, .ref lr, .ref pa, .ref ua, .ref xa, .ref ds, .ref pr, .ref bl, .int (zB est)])), (g, .inr (2, [.ref gf, .ref gt, .ref gw, .int (zB dir), .int (nI nv), .int (nI me)])), (gf, aI cA 40 (fun j => nI (Fr j))), (gt, aI cA 40 (fun j => nI (To j))), (ua, aI cA 40 (fun j => iZ (ω.2.1 j)))]) (rm := ({ frames := 3, cells := 0, slots := 0, locals := 73 } : Room)) (As := [.int (nI ω.2.2)]) (rest := []) (wr := [(lr, .inr (4, [.ref la, .int (nI k)])), (la, aI cA 640 (fun j => iZ (ω.1 j)))]) (w1 := [(th, .inr (5, [.ref g, .ref lr, .ref pa, .ref ua, .ref xa, .ref ds, .ref pr, .ref bl, .int (zB est)])), (g, .inr (2, [.ref gf, .ref gt, .ref gw, .int (zB dir), .int (nI nv), .int (nI me)])), (gf, aI cA 40 (fun j => nI (Fr j))), (gt, aI cA 40 (fun j => nI (To j))), (ua, aI cA 40 (fun j => iZ (ω.2.1 j)))]) (ws' := [(th, .inr (5, [.ref g, .ref lr, .ref pa, .ref ua, .ref xa, .ref ds, .ref pr, .ref bl, .int (zB est)])), (lr, .inr (4, [.ref la, .int (nI k)])), (la, aI cA 640 (fun j => iZ (ω.1 j))), (g, .inr (2, [.ref gf, .ref gt, .ref gw, .int (zB dir), .int (nI nv), .int (nI me)])), (gf, aI cA 40 (fun j => nI (Fr j))), (gt, aI cA 40 (fun j => nI (To j))), (ua, aI cA 40 (fun j => iZ (ω.2.1 j)))]) ⟨hx, hb, hml, hown, hts⟩ (c_X5_leastStepFrom l D cA H.size th lr pa ua xa ds pr bl est g gf gt gw Fr To dir nv me ω.2.1 ω.2.2 (by first | assumption | omega) (by first | assumption | omega) (by first | assumption | omega) (fun j => by have := hUk j; omega) (by first | assumption | omega)) (cwV 1 hts gX5_writeLeastRow_X5_leastStepFrom rfl rfl rfl (by decide +kernel) ⟨Nat.le_of_ble_eq_true rfl, Nat.le_of_ble_eq_true rfl⟩) hP hK hD hS hA [0, 3, 4, 5, 6] [1, 2] [2, 0, 1, 3, 4, 5, 6] rfl rfl rfl rfl rfl (by decide) rfl rfl rfl 5 0 rfl rfl rfl hl.1 rfl (Nat.le_of_ble_eq_true rfl) ⟨Nat.zero_le _, Nat.zero_le _⟩ dX5_writeLeastRow_20 (fun H locs hP hD hS => ?_)
        refine lv_istore (lv' := [(4, .int (iZ (lStep dir Fr To ω.2.1 me ω.2.2 (2 * me)))), (0, .ref th), (1, .int (nI start)), (2, .int (nI ω.2.2)), (3, .int (nI k))]) hx hb dX5_writeLeastRow_23 hl (by decide) rfl (fun ls hl => ?_)
        refine lv_iload hx hb dX5_writeLeastRow_25 (lv_at hl 0 rfl) ?_
        refine z_ige hx hb (x := lStep dir Fr To ω.2.1 me ω.2.2 (2 * me)) (⟨by have := lStep_rng (dir := dir) (Fr := Fr) (To := To) (U := ω.2.1) (me := me) (a := ω.2.2) (Nat.le_refl (2 * me)); omega, by have := lStep_rng (dir := dir) (Fr := Fr) (To := To) (U := ω.2.1) (me := me) (a := ω.2.2) (Nat.le_refl (2 * me)); omega⟩) (tgt := 33) dX5_writeLeastRow_27 (by decide) (fun h27 => ?_) (fun h27 => ?_)
        · skip
          refine lv_aload_n hx hb dX5_writeLeastRow_33 rfl (lv_at hl 1 rfl) ?_
          refine va_get (D := D) (ci := 5) (v := .ref lr) (C := RX5) (T := TX5) (N := 9) hx hb hts hin5 hown hK hP 0 rfl rfl 1 (by decide) (hts (.fieldLink RX5 21 "TourHouse" "latestRow" "LTourHouse$StepRow;") (by decide +kernel)) (fun _ h9 => h9) rfl dX5_writeLeastRow_34 ?_
          refine lv_iload hx hb dX5_writeLeastRow_37 (lv_at hl 0 rfl) ?_
          refine z_cWVv (wc := [(lr, .inr (4, [.ref la, .int (nI k)])), (la, aI cA 640 (fun j => iZ (ω.1 j)))]) (rm := ({ frames := 1, cells := 0, slots := 0, locals := 20 } : Room)) (As := [.int (iZ (lStep dir Fr To ω.2.1 me ω.2.2 (2 * me)))]) (rest := []) (wr := [(th, .inr (5, [.ref g, .ref lr, .ref pa, .ref ua, .ref xa, .ref ds, .ref pr, .ref bl, .int (zB est)])), (g, .inr (2, [.ref gf, .ref gt, .ref gw, .int (zB dir), .int (nI nv), .int (nI me)])), (gf, aI cA 40 (fun j => nI (Fr j))), (gt, aI cA 40 (fun j => nI (To j))), (ua, aI cA 40 (fun j => iZ (ω.2.1 j)))]) (w1 := [(lr, .inr (4, [.ref la, .int (nI (k + 1))])), (la, aI cA 640 (fun j => iZ ((va_up ω.1 k (lStep dir Fr To ω.2.1 me ω.2.2 (2 * me))) j)))]) (ws' := [(th, .inr (5, [.ref g, .ref lr, .ref pa, .ref ua, .ref xa, .ref ds, .ref pr, .ref bl, .int (zB est)])), (lr, .inr (4, [.ref la, .int (nI (k + 1))])), (la, aI cA 640 (fun j => iZ ((va_up ω.1 k (lStep dir Fr To ω.2.1 me ω.2.2 (2 * me))) j))), (g, .inr (2, [.ref gf, .ref gt, .ref gw, .int (zB dir), .int (nI nv), .int (nI me)])), (gf, aI cA 40 (fun j => nI (Fr j))), (gt, aI cA 40 (fun j => nI (To j))), (ua, aI cA 40 (fun j => iZ (ω.2.1 j)))]) ⟨hx, hb, hml, hown, hts⟩ (c_X4_append l D cA H.size lr la 640 ω.1 k (lStep dir Fr To ω.2.1 me ω.2.2 (2 * me)) (by decide) (by first | assumption | omega) (by first | assumption | omega)) (cwV 1 hts gX5_writeLeastRow_X4_append rfl rfl rfl (by decide +kernel) ⟨Nat.le_of_ble_eq_true rfl, Nat.le_of_ble_eq_true rfl⟩) hP hK hD hS hA [1, 2] [0, 3, 4, 5, 6] [0, 5, 6, 1, 2, 3, 4] rfl rfl rfl rfl rfl (by decide) rfl rfl rfl 4 0 rfl rfl rfl hl.1 rfl (Nat.le_of_ble_eq_true rfl) ⟨Nat.zero_le _, Nat.zero_le _⟩ dX5_writeLeastRow_39 (fun H locs hP hD hS => ?_)
          refine lv_aload_n hx hb dX5_writeLeastRow_42 rfl (lv_at hl 1 rfl) ?_
          refine va_get (D := D) (ci := 5) (v := .ref ua) (C := RX5) (T := TX5) (N := 9) hx hb hts hin5 hown hK hP 0 rfl rfl 3 (by decide) (hts (.fieldLink RX5 28 "TourHouse" "uses" "[I") (by decide +kernel)) (fun _ h9 => h9) rfl dX5_writeLeastRow_43 ?_
          refine lv_iload hx hb dX5_writeLeastRow_46 (lv_at hl 0 rfl) ?_
          refine lv_iconst (v := nI 1) hx hb dX5_writeLeastRow_48 (by decide) ?_
          refine lv_ishr hx hb dX5_writeLeastRow_49 ?_
          refine z_topi (v := nI ((lStep dir Fr To ω.2.1 me ω.2.2 (2 * me) / 2).toNat)) (by rw [nb_shr1 (by have := lStep_rng (dir := dir) (Fr := Fr) (To := To) (U := ω.2.1) (me := me) (a := ω.2.2) (Nat.le_refl (2 * me)); omega) (by have := lStep_rng (dir := dir) (Fr := Fr) (To := To) (U := ω.2.1) (me := me) (a := ω.2.2) (Nat.le_refl (2 * me)); omega)]; exact iZ_toNat (by omega)) ?_
          refine lv_dup2_11 hx hb dX5_writeLeastRow_50 rfl rfl ?_
          refine z_iald hx hb hK hP 6 0 rfl rfl (k := ((lStep dir Fr To ω.2.1 me ω.2.2 (2 * me) / 2).toNat)) (by have := lStep_rng (dir := dir) (Fr := Fr) (To := To) (U := ω.2.1) (me := me) (a := ω.2.2) (Nat.le_refl (2 * me)); omega) (by decide) (v := iZ (ω.2.1 ((lStep dir Fr To ω.2.1 me ω.2.2 (2 * me) / 2).toNat))) rfl dX5_writeLeastRow_51 ?_
          refine lv_iconst (v := nI 1) hx hb dX5_writeLeastRow_52 (by decide) ?_
          refine lv_isub hx hb dX5_writeLeastRow_53 ?_
          refine z_topi (v := iZ ((ω.2.1 ((lStep dir Fr To ω.2.1 me ω.2.2 (2 * me) / 2).toNat)) - 1)) (iZ_sub (ω.2.1 ((lStep dir Fr To ω.2.1 me ω.2.2 (2 * me) / 2).toNat)) 1) ?_
          refine z_iast hx hb hK hP hD hS 6 0 rfl rfl (k := ((lStep dir Fr To ω.2.1 me ω.2.2 (2 * me) / 2).toNat)) (by have := lStep_rng (dir := dir) (Fr := Fr) (To := To) (U := ω.2.1) (me := me) (a := ω.2.2) (Nat.le_refl (2 * me)); omega) (by decide) (f' := (fun j => iZ ((va_up ω.2.1 ((lStep dir Fr To ω.2.1 me ω.2.2 (2 * me) / 2).toNat) ((ω.2.1 ((lStep dir Fr To ω.2.1 me ω.2.2 (2 * me) / 2).toNat)) - 1)) j))) (upd_iZ _ _ _) (ws' := [(th, .inr (5, [.ref g, .ref lr, .ref pa, .ref ua, .ref xa, .ref ds, .ref pr, .ref bl, .int (zB est)])), (lr, .inr (4, [.ref la, .int (nI (k + 1))])), (la, aI cA 640 (fun j => iZ ((va_up ω.1 k (lStep dir Fr To ω.2.1 me ω.2.2 (2 * me))) j))), (g, .inr (2, [.ref gf, .ref gt, .ref gw, .int (zB dir), .int (nI nv), .int (nI me)])), (gf, aI cA 40 (fun j => nI (Fr j))), (gt, aI cA 40 (fun j => nI (To j))), (ua, aI cA 40 (fun j => iZ ((va_up ω.2.1 ((lStep dir Fr To ω.2.1 me ω.2.2 (2 * me) / 2).toNat) ((ω.2.1 ((lStep dir Fr To ω.2.1 me ω.2.2 (2 * me) / 2).toNat)) - 1)) j)))]) rfl dX5_writeLeastRow_54 (fun H locs hP hD hS => ?_)
          refine lv_aload_n hx hb dX5_writeLeastRow_55 rfl (lv_at hl 1 rfl) ?_
          refine va_get (D := D) (ci := 5) (v := .ref g) (C := RX5) (T := TX5) (N := 9) hx hb hts hin5 hown hK hP 0 rfl rfl 0 (by decide) (hts (.fieldLink RX5 12 "TourHouse" "graph" "LTourHouse$Graph;") (by decide +kernel)) (fun _ h9 => h9) rfl dX5_writeLeastRow_56 ?_
          refine lv_iload hx hb dX5_writeLeastRow_59 (lv_at hl 0 rfl) ?_
          refine z_cRVi (wc := [(g, .inr (2, [.ref gf, .ref gt, .ref gw, .int (zB dir), .int (nI nv), .int (nI me)])), (gf, aI cA 40 (fun j => nI (Fr j))), (gt, aI cA 40 (fun j => nI (To j)))]) (rm := ({ frames := 0, cells := 0, slots := 0, locals := 0 } : Room)) (As := [.int (iZ (lStep dir Fr To ω.2.1 me ω.2.2 (2 * me)))]) (rest := []) ⟨hx, hb, hml, hown, hts⟩ (c_X2_endOf l D cA g gf gt gw Fr To dir nv me (lStep dir Fr To ω.2.1 me ω.2.2 (2 * me)) (by first | assumption | omega) (by first | assumption | omega) (⟨by omega, by have := lStep_rng (dir := dir) (Fr := Fr) (To := To) (U := ω.2.1) (me := me) (a := ω.2.2) (Nat.le_refl (2 * me)); omega⟩)) (cwV 1 hts gX5_writeLeastRow_X2_endOf rfl rfl rfl (by decide +kernel) ⟨Nat.le_of_ble_eq_true rfl, Nat.le_of_ble_eq_true rfl⟩) hP hK [3, 4, 5] rfl 2 0 rfl rfl rfl hl.1 rfl (Nat.le_of_ble_eq_true rfl) ⟨Nat.zero_le _, Nat.zero_le _⟩ dX5_writeLeastRow_61 (fun r hr61 => ?_)
          subst hr61
          refine lv_istore_n (lv' := [(2, .int (nI (gEnd Fr To (lStep dir Fr To ω.2.1 me ω.2.2 (2 * me))))), (4, .int (iZ (lStep dir Fr To ω.2.1 me ω.2.2 (2 * me)))), (0, .ref th), (1, .int (nI start)), (3, .int (nI k))]) hx hb dX5_writeLeastRow_64 rfl hl (by decide) rfl (fun ls hl => ?_)
          refine lv_iinc (v := nI (k + 1)) (lv' := [(3, .int (nI (k + 1))), (2, .int (nI (gEnd Fr To (lStep dir Fr To ω.2.1 me ω.2.2 (2 * me))))), (4, .int (iZ (lStep dir Fr To ω.2.1 me ω.2.2 (2 * me)))), (0, .ref th), (1, .int (nI start))]) hx hb dX5_writeLeastRow_65 hl (k := 4) rfl (nI_1 k) (by decide) rfl (fun ls hl => ?_)
          refine lv_goto (tgt := 11) hx hb dX5_writeLeastRow_68 (by decide) ?_
          exact ih11 (k + 1) (wNext dir Fr To me k ω) (by omega) (wNext_U hUk) (gEnd_lt hF hT _) (by rw [← hq, show 640 - k = (640 - (k + 1)) + 1 from by omega, wLoop, if_neg (by omega)]) (by omega) _ _ (hP) (hD) hS ls (lv_sub hl [3, 4, 1, 0] (by rfl))
        · skip
          refine lv_goto (tgt := 71) hx hb dX5_writeLeastRow_30 (by decide) ?_
          have hres : wRow dir Fr To me Lz U start = (k, ω) := by rw [← hq]; first | (rw [show 640 - k = 0 from by omega]; rfl) | (rw [show 640 - k = (640 - (k + 1)) + 1 from by omega, wLoop, if_pos (by omega)])
          exact z_vretW hx hb hr hlocks hAe hQ (by rw [hres]; exact hP) hK (by rw [hres]; exact hD) hS dX5_writeLeastRow_71
  exact J11 ((640 - 0) + 1) 0 (Lz, U, start) (by omega) (fun j => by have := hU j; simp only []; omega) hst rfl (by omega) _ _ (hP) (hD) hS ls (lv_sub hl [2, 3, 1, 0] (by rfl))
