theorem gStep_rng {dir : Bool} {Fr To : Nat → Nat} {me a : Nat} {z : Int} (h : gStep dir Fr To me z a = true) : 0 ≤ z / 2 ∧ z / 2 < me := by
  unfold gStep at h
  split at h
  · cases h
  · omega
def vNext (Fr To We : Nat → Nat) (z : Int) (ν : (Nat → Int) × Nat × Int) : (Nat → Int) × Nat × Int := (va_up ν.1 (z / 2).toNat (ν.1 (z / 2).toNat + 1), gEnd Fr To z, ν.2.2 + ((We (z / 2).toNat : Nat) : Int))
/-- whether the last k of n have uses -/
def vCov (U : Nat → Int) (n : Nat) : Nat → Bool
  | 0 => true
  | k + 1 => if U (n - (k + 1)) = 0 then false else vCov U n k
def vLoop (dir : Bool) (Fr To We : Nat → Nat) (me : Nat) (Pz : Nat → Int) (pn start : Nat) : Nat → (Nat → Int) × Nat × Int → (Nat → Int) × Int
  | 0, ν => if ν.2.1 = start then (ν.1, if vCov ν.1 me me = true then ν.2.2 else -3) else (ν.1, -2)
  | n + 1, ν => if gStep dir Fr To me (Pz (pn - (n + 1))) ν.2.1 = false then (ν.1, -1) else vLoop dir Fr To We me Pz pn start n (vNext Fr To We (Pz (pn - (n + 1))) ν)
def vRun (dir : Bool) (Fr To We : Nat → Nat) (me : Nat) (Pz : Nat → Int) (pn start : Nat) (U : Nat → Int) : (Nat → Int) × Int := vLoop dir Fr To We me Pz pn start pn (fl U 0 40, start, 0)
set_option maxHeartbeats 4000000 in
set_option maxRecDepth 100000 in
/-- TourHouse.verdictOnPath -/
theorem c_X5_verdictOnPath (l : Launch) (D : va_G) (cA : Nat → ClassId) (sz : Nat) (th : Nat) (lr : Nat) (pa : Nat) (ua : Nat) (xa : Nat) (ds : Nat) (pr : Nat) (bl : Nat) (est : Bool) (g : Nat) (gf : Nat) (gt : Nat) (gw : Nat) (Fr : Nat → Nat) (To : Nat → Nat) (We : Nat → Nat) (dir : Bool) (nv : Nat) (me : Nat) (U : Nat → Int) (pb : Nat) (pn : Nat) (Pz : Nat → Int) (start : Nat) (hme : me ≤ 40) (hF : ∀ j, Fr j < 16) (hT : ∀ j, To j < 16) (hW : ∀ j, We j ≤ 1000000000) (hU : ∀ j, -10000 ≤ U j ∧ U j ≤ 10000) (hst : start < 16) (hpn : pn ≤ 1000) (hPz : ∀ j, -2147483648 ≤ Pz j ∧ Pz j < 2147483648) : Met l yX5_verdictOnPath wsX5_verdictOnPath ({ frames := 1, cells := 0, slots := 0, locals := 23 } : Room) (zWr D vwCl (zT cA) [(th, .inr (5, [.ref g, .ref lr, .ref pa, .ref ua, .ref xa, .ref ds, .ref pr, .ref bl, .int (zB est)])), (g, .inr (2, [.ref gf, .ref gt, .ref gw, .int (zB dir), .int (nI nv), .int (nI me)])), (gf, aI cA 40 (fun j => nI (Fr j))), (gt, aI cA 40 (fun j => nI (To j))), (gw, aI cA 40 (fun j => nI (We j))), (ua, aI cA 40 (fun j => iZ (U j))), (pa, .inr (4, [.ref pb, .int (nI pn)])), (pb, aI cA 1000 (fun j => iZ (Pz j)))] sz [.ref th, .int (nI start)]) (zQl D vwCl (zT cA) (va_A [(th, .inr (5, [.ref g, .ref lr, .ref pa, .ref ua, .ref xa, .ref ds, .ref pr, .ref bl, .int (zB est)])), (g, .inr (2, [.ref gf, .ref gt, .ref gw, .int (zB dir), .int (nI nv), .int (nI me)])), (gf, aI cA 40 (fun j => nI (Fr j))), (gt, aI cA 40 (fun j => nI (To j))), (gw, aI cA 40 (fun j => nI (We j))), (ua, aI cA 40 (fun j => iZ (U j))), (pa, .inr (4, [.ref pb, .int (nI pn)])), (pb, aI cA 1000 (fun j => iZ (Pz j)))] sz) [(th, .inr (5, [.ref g, .ref lr, .ref pa, .ref ua, .ref xa, .ref ds, .ref pr, .ref bl, .int (zB est)])), (g, .inr (2, [.ref gf, .ref gt, .ref gw, .int (zB dir), .int (nI nv), .int (nI me)])), (gf, aI cA 40 (fun j => nI (Fr j))), (gt, aI cA 40 (fun j => nI (To j))), (gw, aI cA 40 (fun j => nI (We j))), (ua, aI cA 40 (fun j => iZ (((vRun dir Fr To We me Pz pn start U).1) j))), (pa, .inr (4, [.ref pb, .int (nI pn)])), (pb, aI cA 1000 (fun j => iZ (Pz j)))] (lZ ((vRun dir Fr To We me Pz pn start U).2))) 0 0 (va_A [(th, .inr (5, [.ref g, .ref lr, .ref pa, .ref ua, .ref xa, .ref ds, .ref pr, .ref bl, .int (zB est)])), (g, .inr (2, [.ref gf, .ref gt, .ref gw, .int (zB dir), .int (nI nv), .int (nI me)])), (gf, aI cA 40 (fun j => nI (Fr j))), (gt, aI cA 40 (fun j => nI (To j))), (gw, aI cA 40 (fun j => nI (We j))), (ua, aI cA 40 (fun j => iZ (U j))), (pa, .inr (4, [.ref pb, .int (nI pn)])), (pb, aI cA 1000 (fun j => iZ (Pz j)))] sz) := by
  refine z_write (cc := cX5_verdictOnPath) (maxL := 7) (ret := (some .long)) (by decide) rfl (Nat.le_of_ble_eq_true rfl) ?_
  intro p e s m below meth c hx hb hr hml hown hts hlocks A hAe hA H locs hP hK hD hS hini Q hQ ls hl
  have hown : s.vm.findClass RX5 = some m.cls := hown
  have hl : lv_has ls 7 [(0, .ref th), (1, .int (nI start))] := hl
  generalize hav : ([.ref th, .int (nI start)] : List Value).toArray = args at hts hQ ⊢
  have hin2 : ∀ w ∈ wsX20, w ∈ wsX5_verdictOnPath := by decide +kernel
  have hin4 : ∀ w ∈ wsX40, w ∈ wsX5_verdictOnPath := by decide +kernel
  have hin5 : ∀ w ∈ wsX50, w ∈ wsX5_verdictOnPath := by decide +kernel
  refine lv_aload_n hx hb dX5_verdictOnPath_0 rfl (lv_at hl 0 rfl) ?_
  refine va_get (D := D) (ci := 5) (v := .ref ua) (C := RX5) (T := TX5) (N := 9) hx hb hts hin5 hown hK hP 0 rfl rfl 3 (by decide) (hts (.fieldLink RX5 28 "TourHouse" "uses" "[I") (by decide +kernel)) (fun _ h9 => h9) rfl dX5_verdictOnPath_1 ?_
  refine lv_iconst (v := nI 0) hx hb dX5_verdictOnPath_4 (by decide) ?_
  refine z_cWSv (wc := [(ua, aI cA 40 (fun j => iZ (U j)))]) (rm := ({ frames := 0, cells := 0, slots := 0, locals := 0 } : Room)) (As := [.ref ua, .int (nI 0)]) (rest := []) (wr := [(th, .inr (5, [.ref g, .ref lr, .ref pa, .ref ua, .ref xa, .ref ds, .ref pr, .ref bl, .int (zB est)])), (g, .inr (2, [.ref gf, .ref gt, .ref gw, .int (zB dir), .int (nI nv), .int (nI me)])), (gf, aI cA 40 (fun j => nI (Fr j))), (gt, aI cA 40 (fun j => nI (To j))), (gw, aI cA 40 (fun j => nI (We j))), (pa, .inr (4, [.ref pb, .int (nI pn)])), (pb, aI cA 1000 (fun j => iZ (Pz j)))]) (w1 := [(ua, aI cA 40 (fun j => iZ ((fl U 0 40) j)))]) (ws' := [(th, .inr (5, [.ref g, .ref lr, .ref pa, .ref ua, .ref xa, .ref ds, .ref pr, .ref bl, .int (zB est)])), (g, .inr (2, [.ref gf, .ref gt, .ref gw, .int (zB dir), .int (nI nv), .int (nI me)])), (gf, aI cA 40 (fun j => nI (Fr j))), (gt, aI cA 40 (fun j => nI (To j))), (gw, aI cA 40 (fun j => nI (We j))), (ua, aI cA 40 (fun j => iZ ((fl U 0 40) j))), (pa, .inr (4, [.ref pb, .int (nI pn)])), (pb, aI cA 1000 (fun j => iZ (Pz j)))]) ⟨hx, hb, hml, hown, hts⟩ (c_J7_fill_53178 l D cA H.size ua 40 U 0 (by decide)) (va_cwS 2 hts gX5_verdictOnPath_J7_fill_53178 rfl rfl rfl (by decide +kernel) ⟨Nat.le_of_ble_eq_true rfl, Nat.le_of_ble_eq_true rfl⟩) hP hK hD hS hA [5] [0, 1, 2, 3, 4, 6, 7] [0, 1, 2, 3, 4, 7, 5, 6] rfl rfl rfl rfl rfl (by decide) rfl rfl rfl rfl hl.1 rfl (Nat.le_of_ble_eq_true rfl) ⟨Nat.zero_le _, Nat.zero_le _⟩ dX5_verdictOnPath_5 (fun H locs hP hD hS => ?_)
  refine lv_iload_n hx hb dX5_verdictOnPath_8 rfl (lv_at hl 1 rfl) ?_
  refine lv_istore_n (lv' := [(2, .int (nI start)), (0, .ref th), (1, .int (nI start))]) hx hb dX5_verdictOnPath_9 rfl hl (by decide) rfl (fun ls hl => ?_)
  refine lv_lconst (v := lZ 0) hx hb dX5_verdictOnPath_10 (by decide) ?_
  refine lv_lstore_n (lv' := [(3, .long (lZ 0)), (2, .int (nI start)), (0, .ref th), (1, .int (nI start))]) hx hb dX5_verdictOnPath_11 rfl hl (by decide) rfl (fun ls hl => ?_)
  refine lv_iconst (v := nI 0) hx hb dX5_verdictOnPath_12 (by decide) ?_
  refine lv_istore (lv' := [(5, .int (nI 0)), (3, .long (lZ 0)), (2, .int (nI start)), (0, .ref th), (1, .int (nI start))]) hx hb dX5_verdictOnPath_13 hl (by decide) rfl (fun ls hl => ?_)
  have J15 : ∀ (n : Nat), ∀ (k : Nat) (ν : (Nat → Int) × Nat × Int), (k ≤ pn) → (∀ j, -10000 ≤ ν.1 j ∧ ν.1 j ≤ (10000 + k : Int)) → (ν.2.1 < 16) → (vLoop dir Fr To We me Pz pn start (pn - k) ν = (vRun dir Fr To We me Pz pn start U)) → pn - k < n → ∀ (H : Heap) (locs : List Loc), va_P D vwCl [(th, .inr (5, [.ref g, .ref lr, .ref pa, .ref ua, .ref xa, .ref ds, .ref pr, .ref bl, .int (zB est)])), (g, .inr (2, [.ref gf, .ref gt, .ref gw, .int (zB dir), .int (nI nv), .int (nI me)])), (gf, aI cA 40 (fun j => nI (Fr j))), (gt, aI cA 40 (fun j => nI (To j))), (gw, aI cA 40 (fun j => nI (We j))), (ua, aI cA 40 (fun j => iZ (ν.1 j))), (pa, .inr (4, [.ref pb, .int (nI pn)])), (pb, aI cA 1000 (fun j => iZ (Pz j)))] H → va_D A [(th, .inr (5, [.ref g, .ref lr, .ref pa, .ref ua, .ref xa, .ref ds, .ref pr, .ref bl, .int (zB est)])), (g, .inr (2, [.ref gf, .ref gt, .ref gw, .int (zB dir), .int (nI nv), .int (nI me)])), (gf, aI cA 40 (fun j => nI (Fr j))), (gt, aI cA 40 (fun j => nI (To j))), (gw, aI cA 40 (fun j => nI (We j))), (ua, aI cA 40 (fun j => iZ (ν.1 j))), (pa, .inr (4, [.ref pb, .int (nI pn)])), (pb, aI cA 1000 (fun j => iZ (Pz j)))] → va_S A s.heap H locs → ∀ (ls : Array Slot), lv_has ls 7 [(0, .ref th), (1, .int (nI start)), (2, .int (nI ν.2.1)), (3, .long (lZ ν.2.2)), (5, .int (nI k))] → W p l e ({ frames := 1, cells := 0, slots := 0, locals := 23 } : Room) s m args below meth c H locs 0 0 Q (F0 m 15 ls []) := by
    intro n15
    induction n15 with
    | zero => intro k ν hk hUk hat hq hn; exact absurd hn (Nat.not_lt_zero _)
    | succ n15 ih15 =>
      intro k ν hk hUk hat hq hn15 H locs hP hD hS ls hl
      refine lv_iload hx hb dX5_verdictOnPath_15 (lv_at hl 4 rfl) ?_
      refine lv_aload_n hx hb dX5_verdictOnPath_17 rfl (lv_at hl 0 rfl) ?_
      refine va_get (D := D) (ci := 5) (v := .ref pa) (C := RX5) (T := TX5) (N := 9) hx hb hts hin5 hown hK hP 0 rfl rfl 2 (by decide) (hts (.fieldLink RX5 25 "TourHouse" "path" "LTourHouse$StepRow;") (by decide +kernel)) (fun _ h9 => h9) rfl dX5_verdictOnPath_18 ?_
      refine va_get (D := D) (ci := 4) (v := .int (nI pn)) (C := RX4) (T := TX4) (N := 2) hx hb hts hin4 hown hK hP 6 rfl rfl 1 (by decide) (hts (.fieldLink RX5 126 "TourHouse$StepRow" "length" "I") (by decide +kernel)) (fun _ h9 => h9) rfl dX5_verdictOnPath_21 ?_
      refine z_ge hx hb (by omega) (by omega) (tgt := 101) dX5_verdictOnPath_24 (by decide) (fun h24 => ?_) (fun h24 => ?_)
      · skip
        refine lv_iload_n hx hb dX5_verdictOnPath_101 rfl (lv_at hl 2 rfl) ?_
        refine lv_iload_n hx hb dX5_verdictOnPath_102 rfl (lv_at hl 1 rfl) ?_
        refine z_eq hx hb (Nat.lt_trans hat (by decide)) (by omega) (tgt := 110) dX5_verdictOnPath_103 (by decide) (fun h103 => ?_) (fun h103 => ?_)
        · skip
          refine lv_iconst (v := nI 0) hx hb dX5_verdictOnPath_110 (by decide) ?_
          refine lv_istore (lv' := [(5, .int (nI 0)), (0, .ref th), (1, .int (nI start)), (2, .int (nI ν.2.1)), (3, .long (lZ ν.2.2))]) hx hb dX5_verdictOnPath_111 hl (by decide) rfl (fun ls hl => ?_)
          have J113 : ∀ (n : Nat), ∀ (i : Nat), (i ≤ me) → (vCov ν.1 me (me - i) = vCov ν.1 me me) → me - i < n → ∀ (H : Heap) (locs : List Loc), va_P D vwCl [(th, .inr (5, [.ref g, .ref lr, .ref pa, .ref ua, .ref xa, .ref ds, .ref pr, .ref bl, .int (zB est)])), (g, .inr (2, [.ref gf, .ref gt, .ref gw, .int (zB dir), .int (nI nv), .int (nI me)])), (gf, aI cA 40 (fun j => nI (Fr j))), (gt, aI cA 40 (fun j => nI (To j))), (gw, aI cA 40 (fun j => nI (We j))), (ua, aI cA 40 (fun j => iZ (ν.1 j))), (pa, .inr (4, [.ref pb, .int (nI pn)])), (pb, aI cA 1000 (fun j => iZ (Pz j)))] H → va_D A [(th, .inr (5, [.ref g, .ref lr, .ref pa, .ref ua, .ref xa, .ref ds, .ref pr, .ref bl, .int (zB est)])), (g, .inr (2, [.ref gf, .ref gt, .ref gw, .int (zB dir), .int (nI nv), .int (nI me)])), (gf, aI cA 40 (fun j => nI (Fr j))), (gt, aI cA 40 (fun j => nI (To j))), (gw, aI cA 40 (fun j => nI (We j))), (ua, aI cA 40 (fun j => iZ (ν.1 j))), (pa, .inr (4, [.ref pb, .int (nI pn)])), (pb, aI cA 1000 (fun j => iZ (Pz j)))] → va_S A s.heap H locs → ∀ (ls : Array Slot), lv_has ls 7 [(0, .ref th), (1, .int (nI start)), (3, .long (lZ ν.2.2)), (5, .int (nI i))] → W p l e ({ frames := 1, cells := 0, slots := 0, locals := 23 } : Room) s m args below meth c H locs 0 0 Q (F0 m 113 ls []) := by
            intro n113
            induction n113 with
            | zero => intro i hi hc hn; exact absurd hn (Nat.not_lt_zero _)
            | succ n113 ih113 =>
              intro i hi hc hn113 H locs hP hD hS ls hl
              refine lv_iload hx hb dX5_verdictOnPath_113 (lv_at hl 3 rfl) ?_
              refine lv_aload_n hx hb dX5_verdictOnPath_115 rfl (lv_at hl 0 rfl) ?_
              refine va_get (D := D) (ci := 5) (v := .ref g) (C := RX5) (T := TX5) (N := 9) hx hb hts hin5 hown hK hP 0 rfl rfl 0 (by decide) (hts (.fieldLink RX5 12 "TourHouse" "graph" "LTourHouse$Graph;") (by decide +kernel)) (fun _ h9 => h9) rfl dX5_verdictOnPath_116 ?_
              refine va_get (D := D) (ci := 2) (v := .int (nI me)) (C := RX2) (T := TX2) (N := 6) hx hb hts hin2 hown hK hP 1 rfl rfl 5 (by decide) (hts (.fieldLink RX5 67 "TourHouse$Graph" "edges" "I") (by decide +kernel)) (fun _ h9 => h9) rfl dX5_verdictOnPath_119 ?_
              refine z_ge hx hb (by omega) (by omega) (tgt := 145) dX5_verdictOnPath_122 (by decide) (fun h122 => ?_) (fun h122 => ?_)
              · skip
                refine lv_lload_n hx hb dX5_verdictOnPath_145 rfl (lv_at hl 2 rfl) ?_
                have hv : vCov ν.1 me me = true := by rw [← hc, show me - i = 0 from by omega]; rfl
                have hres : (vRun dir Fr To We me Pz pn start U) = (ν.1, ν.2.2) := by rw [← hq, show pn - k = 0 from by omega, vLoop, if_pos h103, hv]; rfl
                refine z_topl (v := lZ ((vRun dir Fr To We me Pz pn start U).2)) (by rw [hres]) ?_
                exact z_lretW hx hb hr hlocks hAe hQ (by rw [hres]; exact hP) hK (by rw [hres]; exact hD) hS dX5_verdictOnPath_146
              · skip
                refine lv_aload_n hx hb dX5_verdictOnPath_125 rfl (lv_at hl 0 rfl) ?_
                refine va_get (D := D) (ci := 5) (v := .ref ua) (C := RX5) (T := TX5) (N := 9) hx hb hts hin5 hown hK hP 0 rfl rfl 3 (by decide) (hts (.fieldLink RX5 28 "TourHouse" "uses" "[I") (by decide +kernel)) (fun _ h9 => h9) rfl dX5_verdictOnPath_126 ?_
                refine lv_iload hx hb dX5_verdictOnPath_129 (lv_at hl 3 rfl) ?_
                refine z_iald hx hb hK hP 5 0 rfl rfl (k := i) (by omega) (by decide) (v := iZ (ν.1 i)) rfl dX5_verdictOnPath_131 ?_
                refine z_ine hx hb (x := ν.1 i) (⟨by have := hUk i; omega, by have := hUk i; omega⟩) (tgt := 139) dX5_verdictOnPath_132 (by decide) (fun h132 => ?_) (fun h132 => ?_)
                · skip
                  refine lv_iinc (v := nI (i + 1)) (lv' := [(5, .int (nI (i + 1))), (0, .ref th), (1, .int (nI start)), (3, .long (lZ ν.2.2))]) hx hb dX5_verdictOnPath_139 hl (k := 3) rfl (nI_1 i) (by decide) rfl (fun ls hl => ?_)
                  refine lv_goto (tgt := 113) hx hb dX5_verdictOnPath_142 (by decide) ?_
                  exact ih113 (i + 1) (by omega) (by rw [← hc, show me - i = (me - (i + 1)) + 1 from by omega, vCov, show me - (me - (i + 1) + 1) = i from by omega, if_neg h132]) (by omega) _ _ (hP) (hD) hS ls (lv_sub hl [1, 2, 3, 0] (by rfl))
                · skip
                  refine lv_ldc2 (v := (-3)) hx hb hown (hts (.constantLong RX5 219 (-3)) (by decide +kernel)) dX5_verdictOnPath_135 ?_
                  refine z_topl (v := lZ (-3)) (by decide) ?_
                  have hv : vCov ν.1 me me = false := by rw [← hc, show me - i = (me - (i + 1)) + 1 from by omega, vCov, show me - (me - (i + 1) + 1) = i from by omega, if_pos h132]
                  have hres : (vRun dir Fr To We me Pz pn start U) = (ν.1, -3) := by rw [← hq, show pn - k = 0 from by omega, vLoop, if_pos h103, hv]; rfl
                  refine z_topl (v := lZ ((vRun dir Fr To We me Pz pn start U).2)) (by rw [hres]) ?_
                  exact z_lretW hx hb hr hlocks hAe hQ (by rw [hres]; exact hP) hK (by rw [hres]; exact hD) hS dX5_verdictOnPath_138
          exact J113 ((me - 0) + 1) 0 (by omega) rfl (by omega) _ _ (hP) (hD) hS ls (lv_sub hl [1, 2, 4, 0] (by rfl))
        · skip
          refine lv_ldc2 (v := (-2)) hx hb hown (hts (.constantLong RX5 217 (-2)) (by decide +kernel)) dX5_verdictOnPath_106 ?_
          refine z_topl (v := lZ (-2)) (by decide) ?_
          have hres : (vRun dir Fr To We me Pz pn start U) = (ν.1, -2) := by rw [← hq, show pn - k = 0 from by omega, vLoop, if_neg h103]
          refine z_topl (v := lZ ((vRun dir Fr To We me Pz pn start U).2)) (by rw [hres]) ?_
          exact z_lretW hx hb hr hlocks hAe hQ (by rw [hres]; exact hP) hK (by rw [hres]; exact hD) hS dX5_verdictOnPath_109
      · skip
        refine lv_aload_n hx hb dX5_verdictOnPath_27 rfl (lv_at hl 0 rfl) ?_
        refine va_get (D := D) (ci := 5) (v := .ref pa) (C := RX5) (T := TX5) (N := 9) hx hb hts hin5 hown hK hP 0 rfl rfl 2 (by decide) (hts (.fieldLink RX5 25 "TourHouse" "path" "LTourHouse$StepRow;") (by decide +kernel)) (fun _ h9 => h9) rfl dX5_verdictOnPath_28 ?_
        refine va_get (D := D) (ci := 4) (v := .ref pb) (C := RX4) (T := TX4) (N := 2) hx hb hts hin4 hown hK hP 6 rfl rfl 0 (by decide) (hts (.fieldLink RX5 147 "TourHouse$StepRow" "steps" "[I") (by decide +kernel)) (fun _ h9 => h9) rfl dX5_verdictOnPath_31 ?_
        refine lv_iload hx hb dX5_verdictOnPath_34 (lv_at hl 4 rfl) ?_
        refine z_iald hx hb hK hP 7 0 rfl rfl (k := k) (by omega) (by decide) (v := iZ (Pz k)) rfl dX5_verdictOnPath_36 ?_
        refine lv_istore (lv' := [(6, .int (iZ (Pz k))), (0, .ref th), (1, .int (nI start)), (2, .int (nI ν.2.1)), (3, .long (lZ ν.2.2)), (5, .int (nI k))]) hx hb dX5_verdictOnPath_37 hl (by decide) rfl (fun ls hl => ?_)
        refine lv_aload_n hx hb dX5_verdictOnPath_39 rfl (lv_at hl 1 rfl) ?_
        refine va_get (D := D) (ci := 5) (v := .ref g) (C := RX5) (T := TX5) (N := 9) hx hb hts hin5 hown hK hP 0 rfl rfl 0 (by decide) (hts (.fieldLink RX5 12 "TourHouse" "graph" "LTourHouse$Graph;") (by decide +kernel)) (fun _ h9 => h9) rfl dX5_verdictOnPath_40 ?_
        refine lv_iload hx hb dX5_verdictOnPath_43 (lv_at hl 0 rfl) ?_
        refine lv_iload_n hx hb dX5_verdictOnPath_45 rfl (lv_at hl 3 rfl) ?_
        refine z_cRVi (wc := [(g, .inr (2, [.ref gf, .ref gt, .ref gw, .int (zB dir), .int (nI nv), .int (nI me)])), (gf, aI cA 40 (fun j => nI (Fr j))), (gt, aI cA 40 (fun j => nI (To j)))]) (rm := ({ frames := 0, cells := 0, slots := 0, locals := 0 } : Room)) (As := [.int (iZ (Pz k)), .int (nI ν.2.1)]) (rest := []) ⟨hx, hb, hml, hown, hts⟩ (c_X2_isStepFrom l D cA g gf gt gw Fr To dir nv me (Pz k) ν.2.1 (by first | assumption | omega) (by first | assumption | omega) (by first | assumption | omega) (hPz _) (by first | assumption | omega)) (cwV 2 hts gX5_verdictOnPath_X2_isStepFrom rfl rfl rfl (by decide +kernel) ⟨Nat.le_of_ble_eq_true rfl, Nat.le_of_ble_eq_true rfl⟩) hP hK [1, 2, 3] rfl 2 0 rfl rfl rfl hl.1 rfl (Nat.le_of_ble_eq_true rfl) ⟨Nat.zero_le _, Nat.zero_le _⟩ dX5_verdictOnPath_46 (fun r hr46 => ?_)
        subst hr46
        refine z_ifne hx hb (tgt := 56) dX5_verdictOnPath_49 (by decide) (fun h49 => ?_) (fun h49 => ?_)
        · skip
          refine lv_aload_n hx hb dX5_verdictOnPath_56 rfl (lv_at hl 1 rfl) ?_
          refine va_get (D := D) (ci := 5) (v := .ref ua) (C := RX5) (T := TX5) (N := 9) hx hb hts hin5 hown hK hP 0 rfl rfl 3 (by decide) (hts (.fieldLink RX5 28 "TourHouse" "uses" "[I") (by decide +kernel)) (fun _ h9 => h9) rfl dX5_verdictOnPath_57 ?_
          refine lv_iload hx hb dX5_verdictOnPath_60 (lv_at hl 0 rfl) ?_
          refine lv_iconst (v := nI 1) hx hb dX5_verdictOnPath_62 (by decide) ?_
          refine lv_ishr hx hb dX5_verdictOnPath_63 ?_
          refine z_topi (v := nI ((Pz k / 2).toNat)) (by rw [nb_shr1 (hPz _).1 (hPz _).2]; exact iZ_toNat (by have := gStep_rng h49; omega)) ?_
          refine lv_dup2_11 hx hb dX5_verdictOnPath_64 rfl rfl ?_
          refine z_iald hx hb hK hP 5 0 rfl rfl (k := ((Pz k / 2).toNat)) (by have := gStep_rng h49; omega) (by decide) (v := iZ (ν.1 ((Pz k / 2).toNat))) rfl dX5_verdictOnPath_65 ?_
          refine lv_iconst (v := nI 1) hx hb dX5_verdictOnPath_66 (by decide) ?_
          refine lv_iadd hx hb dX5_verdictOnPath_67 ?_
          refine z_topi (v := iZ ((ν.1 ((Pz k / 2).toNat)) + 1)) (iZ_add (ν.1 ((Pz k / 2).toNat)) 1) ?_
          refine z_iast hx hb hK hP hD hS 5 0 rfl rfl (k := ((Pz k / 2).toNat)) (by have := gStep_rng h49; omega) (by decide) (f' := (fun j => iZ ((va_up ν.1 ((Pz k / 2).toNat) ((ν.1 ((Pz k / 2).toNat)) + 1)) j))) (upd_iZ _ _ _) (ws' := [(th, .inr (5, [.ref g, .ref lr, .ref pa, .ref ua, .ref xa, .ref ds, .ref pr, .ref bl, .int (zB est)])), (g, .inr (2, [.ref gf, .ref gt, .ref gw, .int (zB dir), .int (nI nv), .int (nI me)])), (gf, aI cA 40 (fun j => nI (Fr j))), (gt, aI cA 40 (fun j => nI (To j))), (gw, aI cA 40 (fun j => nI (We j))), (ua, aI cA 40 (fun j => iZ ((va_up ν.1 ((Pz k / 2).toNat) ((ν.1 ((Pz k / 2).toNat)) + 1)) j))), (pa, .inr (4, [.ref pb, .int (nI pn)])), (pb, aI cA 1000 (fun j => iZ (Pz j)))]) rfl dX5_verdictOnPath_68 (fun H locs hP hD hS => ?_)
          refine lv_lload_n hx hb dX5_verdictOnPath_69 rfl (lv_at hl 4 rfl) ?_
          refine lv_aload_n hx hb dX5_verdictOnPath_70 rfl (lv_at hl 1 rfl) ?_
          refine va_get (D := D) (ci := 5) (v := .ref g) (C := RX5) (T := TX5) (N := 9) hx hb hts hin5 hown hK hP 0 rfl rfl 0 (by decide) (hts (.fieldLink RX5 12 "TourHouse" "graph" "LTourHouse$Graph;") (by decide +kernel)) (fun _ h9 => h9) rfl dX5_verdictOnPath_71 ?_
          refine va_get (D := D) (ci := 2) (v := .ref gw) (C := RX2) (T := TX2) (N := 6) hx hb hts hin2 hown hK hP 1 rfl rfl 2 (by decide) (hts (.fieldLink RX5 135 "TourHouse$Graph" "weight" "[I") (by decide +kernel)) (fun _ h9 => h9) rfl dX5_verdictOnPath_74 ?_
          refine lv_iload hx hb dX5_verdictOnPath_77 (lv_at hl 0 rfl) ?_
          refine lv_iconst (v := nI 1) hx hb dX5_verdictOnPath_79 (by decide) ?_
          refine lv_ishr hx hb dX5_verdictOnPath_80 ?_
          refine z_topi (v := nI ((Pz k / 2).toNat)) (by rw [nb_shr1 (hPz _).1 (hPz _).2]; exact iZ_toNat (by have := gStep_rng h49; omega)) ?_
          refine z_iald hx hb hK hP 4 0 rfl rfl (k := ((Pz k / 2).toNat)) (by have := gStep_rng h49; omega) (by decide) (v := nI (We ((Pz k / 2).toNat))) rfl dX5_verdictOnPath_81 ?_
          refine lv_i2l (v := lZ ((We ((Pz k / 2).toNat) : Nat) : Int)) hx hb dX5_verdictOnPath_82 (nI_l2 (Nat.lt_of_le_of_lt (hW _) (by decide))) ?_
          refine lv_ladd hx hb dX5_verdictOnPath_83 ?_
          refine z_topl (v := lZ (ν.2.2 + ((We ((Pz k / 2).toNat) : Nat) : Int))) (lZ_add ν.2.2 ((We ((Pz k / 2).toNat) : Nat) : Int)) ?_
          refine lv_lstore_n (lv' := [(3, .long (lZ (ν.2.2 + ((We ((Pz k / 2).toNat) : Nat) : Int)))), (6, .int (iZ (Pz k))), (0, .ref th), (1, .int (nI start)), (2, .int (nI ν.2.1)), (5, .int (nI k))]) hx hb dX5_verdictOnPath_84 rfl hl (by decide) rfl (fun ls hl => ?_)
          refine lv_aload_n hx hb dX5_verdictOnPath_85 rfl (lv_at hl 2 rfl) ?_
          refine va_get (D := D) (ci := 5) (v := .ref g) (C := RX5) (T := TX5) (N := 9) hx hb hts hin5 hown hK hP 0 rfl rfl 0 (by decide) (hts (.fieldLink RX5 12 "TourHouse" "graph" "LTourHouse$Graph;") (by decide +kernel)) (fun _ h9 => h9) rfl dX5_verdictOnPath_86 ?_
          refine lv_iload hx hb dX5_verdictOnPath_89 (lv_at hl 1 rfl) ?_
          refine z_cRVi (wc := [(g, .inr (2, [.ref gf, .ref gt, .ref gw, .int (zB dir), .int (nI nv), .int (nI me)])), (gf, aI cA 40 (fun j => nI (Fr j))), (gt, aI cA 40 (fun j => nI (To j)))]) (rm := ({ frames := 0, cells := 0, slots := 0, locals := 0 } : Room)) (As := [.int (iZ (Pz k))]) (rest := []) ⟨hx, hb, hml, hown, hts⟩ (c_X2_endOf l D cA g gf gt gw Fr To dir nv me (Pz k) (by first | assumption | omega) (by first | assumption | omega) (by have := gStep_rng h49; omega)) (cwV 1 hts gX5_verdictOnPath_X2_endOf rfl rfl rfl (by decide +kernel) ⟨Nat.le_of_ble_eq_true rfl, Nat.le_of_ble_eq_true rfl⟩) hP hK [1, 2, 3] rfl 2 0 rfl rfl rfl hl.1 rfl (Nat.le_of_ble_eq_true rfl) ⟨Nat.zero_le _, Nat.zero_le _⟩ dX5_verdictOnPath_91 (fun r hr91 => ?_)
          subst hr91
          refine lv_istore_n (lv' := [(2, .int (nI (gEnd Fr To (Pz k)))), (3, .long (lZ (ν.2.2 + ((We ((Pz k / 2).toNat) : Nat) : Int)))), (6, .int (iZ (Pz k))), (0, .ref th), (1, .int (nI start)), (5, .int (nI k))]) hx hb dX5_verdictOnPath_94 rfl hl (by decide) rfl (fun ls hl => ?_)
          refine lv_iinc (v := nI (k + 1)) (lv' := [(5, .int (nI (k + 1))), (2, .int (nI (gEnd Fr To (Pz k)))), (3, .long (lZ (ν.2.2 + ((We ((Pz k / 2).toNat) : Nat) : Int)))), (6, .int (iZ (Pz k))), (0, .ref th), (1, .int (nI start))]) hx hb dX5_verdictOnPath_95 hl (k := 5) rfl (nI_1 k) (by decide) rfl (fun ls hl => ?_)
          refine lv_goto (tgt := 15) hx hb dX5_verdictOnPath_98 (by decide) ?_
          exact ih15 (k + 1) (vNext Fr To We (Pz k) ν) (by omega) (fun j => by have := up_all (P := fun x => -10000 ≤ x ∧ x ≤ (10000 + (k + 1 : Nat) : Int)) (k := (Pz k / 2).toNat) (x := ν.1 (Pz k / 2).toNat + 1) (fun j => (by have := hUk j; omega : -10000 ≤ ν.1 j ∧ ν.1 j ≤ (10000 + (k + 1 : Nat) : Int))) (by have := hUk (Pz k / 2).toNat; omega) j; exact this) (gEnd_lt hF hT _) (by rw [← hq, show pn - k = (pn - (k + 1)) + 1 from by omega, vLoop, show pn - (pn - (k + 1) + 1) = k from by omega, if_neg (by rw [h49]; decide)]) (by omega) _ _ (hP) (hD) hS ls (lv_sub hl [4, 5, 1, 2, 0] (by rfl))
        · skip
          refine lv_ldc2 (v := (-1)) hx hb hown (hts (.constantLong RX5 110 (-1)) (by decide +kernel)) dX5_verdictOnPath_52 ?_
          refine z_topl (v := lZ (-1)) (by decide) ?_
          have hres : (vRun dir Fr To We me Pz pn start U) = (ν.1, -1) := by rw [← hq, show pn - k = (pn - (k + 1)) + 1 from by omega, vLoop, show pn - (pn - (k + 1) + 1) = k from by omega, if_pos h49]
          refine z_topl (v := lZ ((vRun dir Fr To We me Pz pn start U).2)) (by rw [hres]) ?_
          exact z_lretW hx hb hr hlocks hAe hQ (by rw [hres]; exact hP) hK (by rw [hres]; exact hD) hS dX5_verdictOnPath_55
  exact J15 ((pn - 0) + 1) 0 (fl U 0 40, start, 0) (by omega) (fun j => by have := hU j; simp only [fl]; split <;> omega) hst rfl (by omega) _ _ (hP) (hD) hS ls (lv_sub hl [3, 4, 2, 1, 0] (by rfl))
