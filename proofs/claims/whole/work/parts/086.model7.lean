/-- the first i vertices at their start -/
def sIn (Su : Nat → Int) (ρ : RS) : Nat → RS
  | 0 => ρ
  | i + 1 => (va_up (sIn Su ρ i).1 i (decide (0 < Su i)), va_up (sIn Su ρ i).2.1 i (-1), cpW (sIn Su ρ i).2.2.1 (fun _ => 0) i 41, (sIn Su ρ i).2.2.2)
theorem sIn_s {Su : Nat → Int} {ρ : RS} {i : Nat} : sIn Su ρ (i + 1) = (va_up (sIn Su ρ i).1 i (decide (0 < Su i)), va_up (sIn Su ρ i).2.1 i (-1), cpW (sIn Su ρ i).2.2.1 (fun _ => 0) i 41, (sIn Su ρ i).2.2.2) := by rw [sIn]
theorem sIn_R {Su : Nat → Int} {ρ : RS} (h : rR ρ) : ∀ i, rR (sIn Su ρ i)
  | 0 => h
  | i + 1 => by
    have ih := sIn_R (Su := Su) h i
    rw [sIn_s]
    refine ⟨?_, ih.2⟩
    intro j
    show _ ≤ cpW (sIn Su ρ i).2.2.1 (fun _ => 0) i 41 j ∧ cpW (sIn Su ρ i).2.2.1 (fun _ => 0) i 41 j < _
    unfold cpW
    split
    · exact (by decide : (-9223372036854775808 : Int) ≤ 0 ∧ (0 : Int) < 9223372036854775808)
    · exact ih.1 j
/-- the first i edges, tried one behind the other; whether something changed -/
def sPs (dir : Bool) (Fr To We : Nat → Nat) (X : Nat → Int) (ρ : RS) : Nat → RS × Bool
  | 0 => (ρ, false)
  | i + 1 => if 0 < X i then
      ((mRch We (mRch We (sPs dir Fr To We X ρ i).1 (Fr i) (To i) i 1).1 (To i) (Fr i) i (-1)).1, (mRch We (mRch We (sPs dir Fr To We X ρ i).1 (Fr i) (To i) i 1).1 (To i) (Fr i) i (-1)).2 || ((mRch We (sPs dir Fr To We X ρ i).1 (Fr i) (To i) i 1).2 || (sPs dir Fr To We X ρ i).2))
    else ((mRch We (sPs dir Fr To We X ρ i).1 (Fr i) (To i) i 1).1, (mRch We (sPs dir Fr To We X ρ i).1 (Fr i) (To i) i 1).2 || (sPs dir Fr To We X ρ i).2)
section
variable {dir : Bool} {Fr To We : Nat → Nat} {X : Nat → Int} {ρ : RS} {i : Nat}
theorem sPs_1 (h : 0 < X i) : sPs dir Fr To We X ρ (i + 1) = ((mRch We (mRch We (sPs dir Fr To We X ρ i).1 (Fr i) (To i) i 1).1 (To i) (Fr i) i (-1)).1, (mRch We (mRch We (sPs dir Fr To We X ρ i).1 (Fr i) (To i) i 1).1 (To i) (Fr i) i (-1)).2 || ((mRch We (sPs dir Fr To We X ρ i).1 (Fr i) (To i) i 1).2 || (sPs dir Fr To We X ρ i).2)) := by rw [sPs, if_pos h]
theorem sPs_0 (h : ¬ 0 < X i) : sPs dir Fr To We X ρ (i + 1) = ((mRch We (sPs dir Fr To We X ρ i).1 (Fr i) (To i) i 1).1, (mRch We (sPs dir Fr To We X ρ i).1 (Fr i) (To i) i 1).2 || (sPs dir Fr To We X ρ i).2) := by rw [sPs, if_neg h]
theorem sPs_R (h : rR ρ) : ∀ i, rR (sPs dir Fr To We X ρ i).1
  | 0 => h
  | i + 1 => by
    have ih := sPs_R h i
    rw [sPs]; split
    · exact mRch_R (mRch_R ih)
    · exact mRch_R ih
end
/-- passes until nothing changes; whether n were enough -/
def sLp (dir : Bool) (Fr To We : Nat → Nat) (X : Nat → Int) (me : Nat) : Nat → RS → RS × Bool
  | 0, ρ => (ρ, false)
  | n + 1, ρ => if (sPs dir Fr To We X ρ me).2 = true then sLp dir Fr To We X me n (sPs dir Fr To We X ρ me).1 else ((sPs dir Fr To We X ρ me).1, true)
section
variable {dir : Bool} {Fr To We : Nat → Nat} {X : Nat → Int} {ρ : RS} {me n : Nat}
theorem sLp_pos (h : (sLp dir Fr To We X me n ρ).2 = true) : 0 < n := by
  cases n with
  | zero => cases h
  | succ n => exact Nat.succ_pos n
theorem sLp_more (hn : 0 < n) (h : (sLp dir Fr To We X me n ρ).2 = true) (q : (sPs dir Fr To We X ρ me).2 = true) : 0 < n - 1 := by
  obtain ⟨k, rfl⟩ : ∃ k, n = k + 1 := ⟨n - 1, by omega⟩
  rw [sLp, if_pos q] at h
  exact sLp_pos h
theorem sLp_d (hn : 0 < n) (h : (sLp dir Fr To We X me n ρ).2 = true) : (if (sPs dir Fr To We X ρ me).2 = true then (sLp dir Fr To We X me (n - 1) (sPs dir Fr To We X ρ me).1).2 else true) = true := by
  obtain ⟨k, rfl⟩ : ∃ k, n = k + 1 := ⟨n - 1, by omega⟩
  split
  · rename_i q
    rw [sLp, if_pos q] at h
    exact h
  · rfl
theorem sLp_q (hn : 0 < n) : (if (sPs dir Fr To We X ρ me).2 = true then (sLp dir Fr To We X me (n - 1) (sPs dir Fr To We X ρ me).1).1 else (sPs dir Fr To We X ρ me).1) = (sLp dir Fr To We X me n ρ).1 := by
  obtain ⟨k, rfl⟩ : ∃ k, n = k + 1 := ⟨n - 1, by omega⟩
  rw [sLp, Nat.add_sub_cancel]
  split <;> rfl
theorem sLp_R : ∀ (n : Nat) {ρ : RS}, rR ρ → rR (sLp dir Fr To We X me n ρ).1
  | 0, _, h => h
  | n + 1, ρ, h => by
    rw [sLp]; split
    · exact sLp_R n (sPs_R h me)
    · exact sPs_R h me
end
set_option maxHeartbeats 4000000 in
set_option maxRecDepth 100000 in
/-- Model.spread -/
theorem c_X6_spread (l : Launch) (D : va_G) (cA : Nat → ClassId) (sz : Nat) (mo : Nat) (mf : Nat) (mt : Nat) (mw : Nat) (mr : Nat) (mp : Nat) (mx : Nat) (mfa : Nat) (mbi : Nat) (mod1 : Nat) (msc : Nat) (msb : Nat) (msu : Nat) (mwy : Nat) (mre : Nat) (mby : Nat) (msm : Nat) (mle : Nat) (mgr : Nat) (mth : Nat) (dir : Bool) (nv : Nat) (me : Nat) (mrn : Nat) (mst : Nat) (mhr : Bool) (mon : Nat) (Fr : Nat → Nat) (To : Nat → Nat) (We : Nat → Nat) (X : Nat → Int) (Su : Nat → Int) (ρ : RS) (N : Nat) (hme : me ≤ 40) (hF : ∀ j, Fr j < 16) (hT : ∀ j, To j < 16) (hW : ∀ j, We j ≤ 1000000000) (hρ : rR ρ) (hnv : nv ≤ 16) (hX : ∀ j, -2147483648 ≤ X j ∧ X j < 2147483648) (hSu : ∀ j, -2147483648 ≤ Su j ∧ Su j < 2147483648) (hN : (sLp dir Fr To We X me N (sIn Su ρ nv)).2 = true) : Met l yX6_spread wsX6_spread ({ frames := 2, cells := 0, slots := 0, locals := 49 } : Room) (zWr D vwCl (zT cA) [(mo, .inr (6, [.int (nI mth), .int (zB dir), .int (nI nv), .int (nI me), .ref mf, .ref mt, .ref mw, .ref mr, .int (nI mrn), .ref mp, .int (nI mst), .int (zB mhr), .ref mx, .ref mfa, .ref mbi, .ref mod1, .int (nI mon), .ref msc, .ref msb, .ref msu, .ref mwy, .ref mre, .ref mby, .ref msm, .ref mle, .ref mgr])), (mf, aI cA 40 (fun j => nI (Fr j))), (mt, aI cA 40 (fun j => nI (To j))), (mw, aI cA 40 (fun j => nI (We j))), (mx, aI cA 40 (fun j => iZ (X j))), (msu, aI cA 16 (fun j => iZ (Su j))), (mre, aZ cA 16 (fun j => zB (ρ.1 j))), (mby, aI cA 16 (fun j => iZ (ρ.2.1 j))), (mwy, aJ cA 656 (fun j => lZ (ρ.2.2.1 j))), (msm, aJ cA 41 (fun j => lZ (ρ.2.2.2 j)))] sz [.ref mo]) (zQv D vwCl (zT cA) (va_A [(mo, .inr (6, [.int (nI mth), .int (zB dir), .int (nI nv), .int (nI me), .ref mf, .ref mt, .ref mw, .ref mr, .int (nI mrn), .ref mp, .int (nI mst), .int (zB mhr), .ref mx, .ref mfa, .ref mbi, .ref mod1, .int (nI mon), .ref msc, .ref msb, .ref msu, .ref mwy, .ref mre, .ref mby, .ref msm, .ref mle, .ref mgr])), (mf, aI cA 40 (fun j => nI (Fr j))), (mt, aI cA 40 (fun j => nI (To j))), (mw, aI cA 40 (fun j => nI (We j))), (mx, aI cA 40 (fun j => iZ (X j))), (msu, aI cA 16 (fun j => iZ (Su j))), (mre, aZ cA 16 (fun j => zB (ρ.1 j))), (mby, aI cA 16 (fun j => iZ (ρ.2.1 j))), (mwy, aJ cA 656 (fun j => lZ (ρ.2.2.1 j))), (msm, aJ cA 41 (fun j => lZ (ρ.2.2.2 j)))] sz) [(mo, .inr (6, [.int (nI mth), .int (zB dir), .int (nI nv), .int (nI me), .ref mf, .ref mt, .ref mw, .ref mr, .int (nI mrn), .ref mp, .int (nI mst), .int (zB mhr), .ref mx, .ref mfa, .ref mbi, .ref mod1, .int (nI mon), .ref msc, .ref msb, .ref msu, .ref mwy, .ref mre, .ref mby, .ref msm, .ref mle, .ref mgr])), (mf, aI cA 40 (fun j => nI (Fr j))), (mt, aI cA 40 (fun j => nI (To j))), (mw, aI cA 40 (fun j => nI (We j))), (mx, aI cA 40 (fun j => iZ (X j))), (msu, aI cA 16 (fun j => iZ (Su j))), (mre, aZ cA 16 (fun j => zB ((((sLp dir Fr To We X me N (sIn Su ρ nv)).1).1) j))), (mby, aI cA 16 (fun j => iZ ((((sLp dir Fr To We X me N (sIn Su ρ nv)).1).2.1) j))), (mwy, aJ cA 656 (fun j => lZ ((((sLp dir Fr To We X me N (sIn Su ρ nv)).1).2.2.1) j))), (msm, aJ cA 41 (fun j => lZ ((((sLp dir Fr To We X me N (sIn Su ρ nv)).1).2.2.2) j)))]) 0 0 (va_A [(mo, .inr (6, [.int (nI mth), .int (zB dir), .int (nI nv), .int (nI me), .ref mf, .ref mt, .ref mw, .ref mr, .int (nI mrn), .ref mp, .int (nI mst), .int (zB mhr), .ref mx, .ref mfa, .ref mbi, .ref mod1, .int (nI mon), .ref msc, .ref msb, .ref msu, .ref mwy, .ref mre, .ref mby, .ref msm, .ref mle, .ref mgr])), (mf, aI cA 40 (fun j => nI (Fr j))), (mt, aI cA 40 (fun j => nI (To j))), (mw, aI cA 40 (fun j => nI (We j))), (mx, aI cA 40 (fun j => iZ (X j))), (msu, aI cA 16 (fun j => iZ (Su j))), (mre, aZ cA 16 (fun j => zB (ρ.1 j))), (mby, aI cA 16 (fun j => iZ (ρ.2.1 j))), (mwy, aJ cA 656 (fun j => lZ (ρ.2.2.1 j))), (msm, aJ cA 41 (fun j => lZ (ρ.2.2.2 j)))] sz) := by
  refine z_write (cc := cX6_spread) (maxL := 3) (ret := none) (by decide) rfl (Nat.le_of_ble_eq_true rfl) ?_
  intro p e s m below meth c hx hb hr hml hown hts hlocks A hAe hA H locs hP hK hD hS hini Q hQ ls hl
  have hown : s.vm.findClass RX6 = some m.cls := hown
  have hl : lv_has ls 3 [(0, .ref mo)] := hl
  generalize hav : ([.ref mo] : List Value).toArray = args at hts hQ ⊢
  have hin6 : ∀ w ∈ wsX60, w ∈ wsX6_spread := by decide +kernel
  refine lv_iconst (v := nI 0) hx hb dX6_spread_0 (by decide) ?_
  refine lv_istore_n (lv' := [(1, .int (nI 0)), (0, .ref mo)]) hx hb dX6_spread_1 rfl hl (by decide) rfl (fun ls hl => ?_)
  have J2 : ∀ (n : Nat), ∀ (i : Nat), (i ≤ nv) → nv - i < n → ∀ (H : Heap) (locs : List Loc), va_P D vwCl [(mo, .inr (6, [.int (nI mth), .int (zB dir), .int (nI nv), .int (nI me), .ref mf, .ref mt, .ref mw, .ref mr, .int (nI mrn), .ref mp, .int (nI mst), .int (zB mhr), .ref mx, .ref mfa, .ref mbi, .ref mod1, .int (nI mon), .ref msc, .ref msb, .ref msu, .ref mwy, .ref mre, .ref mby, .ref msm, .ref mle, .ref mgr])), (mf, aI cA 40 (fun j => nI (Fr j))), (mt, aI cA 40 (fun j => nI (To j))), (mw, aI cA 40 (fun j => nI (We j))), (mx, aI cA 40 (fun j => iZ (X j))), (msu, aI cA 16 (fun j => iZ (Su j))), (mre, aZ cA 16 (fun j => zB (((sIn Su ρ i).1) j))), (mby, aI cA 16 (fun j => iZ (((sIn Su ρ i).2.1) j))), (mwy, aJ cA 656 (fun j => lZ (((sIn Su ρ i).2.2.1) j))), (msm, aJ cA 41 (fun j => lZ (((sIn Su ρ i).2.2.2) j)))] H → va_D A [(mo, .inr (6, [.int (nI mth), .int (zB dir), .int (nI nv), .int (nI me), .ref mf, .ref mt, .ref mw, .ref mr, .int (nI mrn), .ref mp, .int (nI mst), .int (zB mhr), .ref mx, .ref mfa, .ref mbi, .ref mod1, .int (nI mon), .ref msc, .ref msb, .ref msu, .ref mwy, .ref mre, .ref mby, .ref msm, .ref mle, .ref mgr])), (mf, aI cA 40 (fun j => nI (Fr j))), (mt, aI cA 40 (fun j => nI (To j))), (mw, aI cA 40 (fun j => nI (We j))), (mx, aI cA 40 (fun j => iZ (X j))), (msu, aI cA 16 (fun j => iZ (Su j))), (mre, aZ cA 16 (fun j => zB (((sIn Su ρ i).1) j))), (mby, aI cA 16 (fun j => iZ (((sIn Su ρ i).2.1) j))), (mwy, aJ cA 656 (fun j => lZ (((sIn Su ρ i).2.2.1) j))), (msm, aJ cA 41 (fun j => lZ (((sIn Su ρ i).2.2.2) j)))] → va_S A s.heap H locs → ∀ (ls : Array Slot), lv_has ls 3 [(0, .ref mo), (1, .int (nI i))] → W p l e ({ frames := 2, cells := 0, slots := 0, locals := 49 } : Room) s m args below meth c H locs 0 0 Q (F0 m 2 ls []) := by
    intro n2
    induction n2 with
    | zero => intro i hi hn; exact absurd hn (Nat.not_lt_zero _)
    | succ n2 ih2 =>
      intro i hi hn2 H locs hP hD hS ls hl
      refine lv_iload_n hx hb dX6_spread_2 rfl (lv_at hl 1 rfl) ?_
      refine lv_aload_n hx hb dX6_spread_3 rfl (lv_at hl 0 rfl) ?_
      refine va_get (D := D) (ci := 6) (v := .int (nI nv)) (C := RX6) (T := TX6) (N := 26) hx hb hts hin6 hown hK hP 0 rfl rfl 2 (by decide) (hts (.fieldLink RX6 7 "TourHouseModel" "n" "I") (by decide +kernel)) (fun _ h9 => h9) rfl dX6_spread_4 ?_
      refine z_ge hx hb (by omega) (by omega) (tgt := 69) dX6_spread_7 (by decide) (fun h7 => ?_) (fun h7 => ?_)
      · skip
        refine lv_iconst (v := zB true) hx hb dX6_spread_69 (by decide) ?_
        refine lv_istore_n (lv' := [(1, .int (zB true)), (0, .ref mo)]) hx hb dX6_spread_70 rfl hl (by decide) rfl (fun ls hl => ?_)
        have J71 : ∀ (n : Nat), ∀ (fn : Nat) (ρ1 : RS) (ch : Bool), (rR ρ1) → (ch = true → 0 < fn) → ((if ch = true then (sLp dir Fr To We X me fn ρ1).2 else true) = true) → ((if ch = true then (sLp dir Fr To We X me fn ρ1).1 else ρ1) = (sLp dir Fr To We X me N (sIn Su ρ nv)).1) → fn < n → ∀ (H : Heap) (locs : List Loc), va_P D vwCl [(mo, .inr (6, [.int (nI mth), .int (zB dir), .int (nI nv), .int (nI me), .ref mf, .ref mt, .ref mw, .ref mr, .int (nI mrn), .ref mp, .int (nI mst), .int (zB mhr), .ref mx, .ref mfa, .ref mbi, .ref mod1, .int (nI mon), .ref msc, .ref msb, .ref msu, .ref mwy, .ref mre, .ref mby, .ref msm, .ref mle, .ref mgr])), (mf, aI cA 40 (fun j => nI (Fr j))), (mt, aI cA 40 (fun j => nI (To j))), (mw, aI cA 40 (fun j => nI (We j))), (mx, aI cA 40 (fun j => iZ (X j))), (msu, aI cA 16 (fun j => iZ (Su j))), (mre, aZ cA 16 (fun j => zB (ρ1.1 j))), (mby, aI cA 16 (fun j => iZ (ρ1.2.1 j))), (mwy, aJ cA 656 (fun j => lZ (ρ1.2.2.1 j))), (msm, aJ cA 41 (fun j => lZ (ρ1.2.2.2 j)))] H → va_D A [(mo, .inr (6, [.int (nI mth), .int (zB dir), .int (nI nv), .int (nI me), .ref mf, .ref mt, .ref mw, .ref mr, .int (nI mrn), .ref mp, .int (nI mst), .int (zB mhr), .ref mx, .ref mfa, .ref mbi, .ref mod1, .int (nI mon), .ref msc, .ref msb, .ref msu, .ref mwy, .ref mre, .ref mby, .ref msm, .ref mle, .ref mgr])), (mf, aI cA 40 (fun j => nI (Fr j))), (mt, aI cA 40 (fun j => nI (To j))), (mw, aI cA 40 (fun j => nI (We j))), (mx, aI cA 40 (fun j => iZ (X j))), (msu, aI cA 16 (fun j => iZ (Su j))), (mre, aZ cA 16 (fun j => zB (ρ1.1 j))), (mby, aI cA 16 (fun j => iZ (ρ1.2.1 j))), (mwy, aJ cA 656 (fun j => lZ (ρ1.2.2.1 j))), (msm, aJ cA 41 (fun j => lZ (ρ1.2.2.2 j)))] → va_S A s.heap H locs → ∀ (ls : Array Slot), lv_has ls 3 [(0, .ref mo), (1, .int (zB ch))] → W p l e ({ frames := 2, cells := 0, slots := 0, locals := 49 } : Room) s m args below meth c H locs 0 0 Q (F0 m 71 ls []) := by
          intro n71
          induction n71 with
          | zero => intro fn ρ1 ch hρ1 hSm hd hq hn; exact absurd hn (Nat.not_lt_zero _)
          | succ n71 ih71 =>
            intro fn ρ1 ch hρ1 hSm hd hq hn71 H locs hP hD hS ls hl
            refine lv_iload_n hx hb dX6_spread_71 rfl (lv_at hl 1 rfl) ?_
            refine z_ifeq hx hb (tgt := 167) dX6_spread_72 (by decide) (fun h72 => ?_) (fun h72 => ?_)
            · skip
              have hres : (sLp dir Fr To We X me N (sIn Su ρ nv)).1 = ρ1 := by rw [← hq, if_neg (by rw [h72]; decide)]
              exact z_vretW hx hb hr hlocks hAe hQ (by rw [hres]; exact hP) hK (by rw [hres]; exact hD) hS dX6_spread_167
            · skip
              refine lv_iconst (v := zB false) hx hb dX6_spread_75 (by decide) ?_
              refine lv_istore_n (lv' := [(1, .int (zB false)), (0, .ref mo)]) hx hb dX6_spread_76 rfl hl (by decide) rfl (fun ls hl => ?_)
              refine lv_iconst (v := nI 0) hx hb dX6_spread_77 (by decide) ?_
              refine lv_istore_n (lv' := [(2, .int (nI 0)), (1, .int (zB false)), (0, .ref mo)]) hx hb dX6_spread_78 rfl hl (by decide) rfl (fun ls hl => ?_)
              have J79 : ∀ (n : Nat), ∀ (i : Nat), (i ≤ me) → me - i < n → ∀ (H : Heap) (locs : List Loc), va_P D vwCl [(mo, .inr (6, [.int (nI mth), .int (zB dir), .int (nI nv), .int (nI me), .ref mf, .ref mt, .ref mw, .ref mr, .int (nI mrn), .ref mp, .int (nI mst), .int (zB mhr), .ref mx, .ref mfa, .ref mbi, .ref mod1, .int (nI mon), .ref msc, .ref msb, .ref msu, .ref mwy, .ref mre, .ref mby, .ref msm, .ref mle, .ref mgr])), (mf, aI cA 40 (fun j => nI (Fr j))), (mt, aI cA 40 (fun j => nI (To j))), (mw, aI cA 40 (fun j => nI (We j))), (mx, aI cA 40 (fun j => iZ (X j))), (msu, aI cA 16 (fun j => iZ (Su j))), (mre, aZ cA 16 (fun j => zB ((((sPs dir Fr To We X ρ1 i).1).1) j))), (mby, aI cA 16 (fun j => iZ ((((sPs dir Fr To We X ρ1 i).1).2.1) j))), (mwy, aJ cA 656 (fun j => lZ ((((sPs dir Fr To We X ρ1 i).1).2.2.1) j))), (msm, aJ cA 41 (fun j => lZ ((((sPs dir Fr To We X ρ1 i).1).2.2.2) j)))] H → va_D A [(mo, .inr (6, [.int (nI mth), .int (zB dir), .int (nI nv), .int (nI me), .ref mf, .ref mt, .ref mw, .ref mr, .int (nI mrn), .ref mp, .int (nI mst), .int (zB mhr), .ref mx, .ref mfa, .ref mbi, .ref mod1, .int (nI mon), .ref msc, .ref msb, .ref msu, .ref mwy, .ref mre, .ref mby, .ref msm, .ref mle, .ref mgr])), (mf, aI cA 40 (fun j => nI (Fr j))), (mt, aI cA 40 (fun j => nI (To j))), (mw, aI cA 40 (fun j => nI (We j))), (mx, aI cA 40 (fun j => iZ (X j))), (msu, aI cA 16 (fun j => iZ (Su j))), (mre, aZ cA 16 (fun j => zB ((((sPs dir Fr To We X ρ1 i).1).1) j))), (mby, aI cA 16 (fun j => iZ ((((sPs dir Fr To We X ρ1 i).1).2.1) j))), (mwy, aJ cA 656 (fun j => lZ ((((sPs dir Fr To We X ρ1 i).1).2.2.1) j))), (msm, aJ cA 41 (fun j => lZ ((((sPs dir Fr To We X ρ1 i).1).2.2.2) j)))] → va_S A s.heap H locs → ∀ (ls : Array Slot), lv_has ls 3 [(0, .ref mo), (1, .int (zB ((sPs dir Fr To We X ρ1 i).2))), (2, .int (nI i))] → W p l e ({ frames := 2, cells := 0, slots := 0, locals := 49 } : Room) s m args below meth c H locs 0 0 Q (F0 m 79 ls []) := by
                intro n79
                induction n79 with
                | zero => intro i hi hn; exact absurd hn (Nat.not_lt_zero _)
                | succ n79 ih79 =>
                  intro i hi hn79 H locs hP hD hS ls hl
                  refine lv_iload_n hx hb dX6_spread_79 rfl (lv_at hl 2 rfl) ?_
                  refine lv_aload_n hx hb dX6_spread_80 rfl (lv_at hl 0 rfl) ?_
                  refine va_get (D := D) (ci := 6) (v := .int (nI me)) (C := RX6) (T := TX6) (N := 26) hx hb hts hin6 hown hK hP 0 rfl rfl 3 (by decide) (hts (.fieldLink RX6 85 "TourHouseModel" "m" "I") (by decide +kernel)) (fun _ h9 => h9) rfl dX6_spread_81 ?_
                  refine z_ge hx hb (by omega) (by omega) (tgt := 164) dX6_spread_84 (by decide) (fun h84 => ?_) (fun h84 => ?_)
                  · skip
                    refine lv_goto (tgt := 71) hx hb dX6_spread_164 (by decide) ?_
                    exact ih71 (fn - 1) ((sPs dir Fr To We X ρ1 me).1) ((sPs dir Fr To We X ρ1 me).2) (sPs_R hρ1 me) (fun q => sLp_more (hSm h72) (by rw [if_pos h72] at hd; exact hd) q) (by rw [if_pos h72] at hd; exact sLp_d (hSm h72) hd) (by rw [if_pos h72] at hq; rw [← hq]; exact sLp_q (hSm h72)) (by have := hSm h72; omega) _ _ (by have q : i = me := (by omega); rw [q] at hP; exact hP) (by have q : i = me := (by omega); rw [q] at hD; exact hD) hS ls (lv_sub hl [0, 1] (by have q : i = me := (by omega); rw [q]; rfl))
                  · skip
                    refine lv_aload_n hx hb dX6_spread_87 rfl (lv_at hl 0 rfl) ?_
                    refine lv_aload_n hx hb dX6_spread_88 rfl (lv_at hl 0 rfl) ?_
                    refine va_get (D := D) (ci := 6) (v := .ref mf) (C := RX6) (T := TX6) (N := 26) hx hb hts hin6 hown hK hP 0 rfl rfl 4 (by decide) (hts (.fieldLink RX6 13 "TourHouseModel" "from" "[I") (by decide +kernel)) (fun _ h9 => h9) rfl dX6_spread_89 ?_
                    refine lv_iload_n hx hb dX6_spread_92 rfl (lv_at hl 2 rfl) ?_
                    refine z_iald hx hb hK hP 1 0 rfl rfl (k := i) (by omega) (by decide) (v := nI (Fr i)) rfl dX6_spread_93 ?_
                    refine lv_aload_n hx hb dX6_spread_94 rfl (lv_at hl 0 rfl) ?_
                    refine va_get (D := D) (ci := 6) (v := .ref mt) (C := RX6) (T := TX6) (N := 26) hx hb hts hin6 hown hK hP 0 rfl rfl 5 (by decide) (hts (.fieldLink RX6 17 "TourHouseModel" "to" "[I") (by decide +kernel)) (fun _ h9 => h9) rfl dX6_spread_95 ?_
                    refine lv_iload_n hx hb dX6_spread_98 rfl (lv_at hl 2 rfl) ?_
                    refine z_iald hx hb hK hP 2 0 rfl rfl (k := i) (by omega) (by decide) (v := nI (To i)) rfl dX6_spread_99 ?_
                    refine lv_iload_n hx hb dX6_spread_100 rfl (lv_at hl 2 rfl) ?_
                    refine lv_iconst (v := iZ 1) hx hb dX6_spread_101 (by decide) ?_
                    refine z_cWVi (wc := [(mo, .inr (6, [.int (nI mth), .int (zB dir), .int (nI nv), .int (nI me), .ref mf, .ref mt, .ref mw, .ref mr, .int (nI mrn), .ref mp, .int (nI mst), .int (zB mhr), .ref mx, .ref mfa, .ref mbi, .ref mod1, .int (nI mon), .ref msc, .ref msb, .ref msu, .ref mwy, .ref mre, .ref mby, .ref msm, .ref mle, .ref mgr])), (mw, aI cA 40 (fun j => nI (We j))), (mre, aZ cA 16 (fun j => zB ((((sPs dir Fr To We X ρ1 i).1).1) j))), (mby, aI cA 16 (fun j => iZ ((((sPs dir Fr To We X ρ1 i).1).2.1) j))), (mwy, aJ cA 656 (fun j => lZ ((((sPs dir Fr To We X ρ1 i).1).2.2.1) j))), (msm, aJ cA 41 (fun j => lZ ((((sPs dir Fr To We X ρ1 i).1).2.2.2) j)))]) (rm := ({ frames := 1, cells := 0, slots := 0, locals := 24 } : Room)) (As := [.int (nI (Fr i)), .int (nI (To i)), .int (nI i), .int (iZ 1)]) (rest := []) (wr := [(mf, aI cA 40 (fun j => nI (Fr j))), (mt, aI cA 40 (fun j => nI (To j))), (mx, aI cA 40 (fun j => iZ (X j))), (msu, aI cA 16 (fun j => iZ (Su j)))]) (w1 := [(mo, .inr (6, [.int (nI mth), .int (zB dir), .int (nI nv), .int (nI me), .ref mf, .ref mt, .ref mw, .ref mr, .int (nI mrn), .ref mp, .int (nI mst), .int (zB mhr), .ref mx, .ref mfa, .ref mbi, .ref mod1, .int (nI mon), .ref msc, .ref msb, .ref msu, .ref mwy, .ref mre, .ref mby, .ref msm, .ref mle, .ref mgr])), (mw, aI cA 40 (fun j => nI (We j))), (mre, aZ cA 16 (fun j => zB ((((mRch We ((sPs dir Fr To We X ρ1 i).1) (Fr i) (To i) i 1).1).1) j))), (mby, aI cA 16 (fun j => iZ ((((mRch We ((sPs dir Fr To We X ρ1 i).1) (Fr i) (To i) i 1).1).2.1) j))), (mwy, aJ cA 656 (fun j => lZ ((((mRch We ((sPs dir Fr To We X ρ1 i).1) (Fr i) (To i) i 1).1).2.2.1) j))), (msm, aJ cA 41 (fun j => lZ ((((mRch We ((sPs dir Fr To We X ρ1 i).1) (Fr i) (To i) i 1).1).2.2.2) j)))]) (ws' := [(mo, .inr (6, [.int (nI mth), .int (zB dir), .int (nI nv), .int (nI me), .ref mf, .ref mt, .ref mw, .ref mr, .int (nI mrn), .ref mp, .int (nI mst), .int (zB mhr), .ref mx, .ref mfa, .ref mbi, .ref mod1, .int (nI mon), .ref msc, .ref msb, .ref msu, .ref mwy, .ref mre, .ref mby, .ref msm, .ref mle, .ref mgr])), (mf, aI cA 40 (fun j => nI (Fr j))), (mt, aI cA 40 (fun j => nI (To j))), (mw, aI cA 40 (fun j => nI (We j))), (mx, aI cA 40 (fun j => iZ (X j))), (msu, aI cA 16 (fun j => iZ (Su j))), (mre, aZ cA 16 (fun j => zB ((((mRch We ((sPs dir Fr To We X ρ1 i).1) (Fr i) (To i) i 1).1).1) j))), (mby, aI cA 16 (fun j => iZ ((((mRch We ((sPs dir Fr To We X ρ1 i).1) (Fr i) (To i) i 1).1).2.1) j))), (mwy, aJ cA 656 (fun j => lZ ((((mRch We ((sPs dir Fr To We X ρ1 i).1) (Fr i) (To i) i 1).1).2.2.1) j))), (msm, aJ cA 41 (fun j => lZ ((((mRch We ((sPs dir Fr To We X ρ1 i).1) (Fr i) (To i) i 1).1).2.2.2) j)))]) ⟨hx, hb, hml, hown, hts⟩ (c_X6_reach l D cA H.size mo mf mt mw mr mp mx mfa mbi mod1 msc msb msu mwy mre mby msm mle mgr mth dir nv me mrn mst mhr mon We ((sPs dir Fr To We X ρ1 i).1) (Fr i) (To i) i 1 (by first | assumption | omega) (sPs_R hρ1 i) (hF _) (hT _) (by first | assumption | omega) (Or.inl rfl)) (cwV 4 hts gX6_spread_X6_reach rfl rfl rfl (by decide +kernel) ⟨Nat.le_of_ble_eq_true rfl, Nat.le_of_ble_eq_true rfl⟩) hP hK hD hS hA [0, 3, 6, 7, 8, 9] [1, 2, 4, 5] [4, 0, 1, 5, 2, 3, 6, 7, 8, 9] rfl rfl rfl rfl rfl (by decide) rfl rfl rfl 6 0 rfl rfl rfl hl.1 rfl (Nat.le_of_ble_eq_true rfl) ⟨Nat.zero_le _, Nat.zero_le _⟩ dX6_spread_102 (fun H locs hP hD hS => ?_)
                    have J117 : ∀ (H : Heap) (locs : List Loc), va_P D vwCl [(mo, .inr (6, [.int (nI mth), .int (zB dir), .int (nI nv), .int (nI me), .ref mf, .ref mt, .ref mw, .ref mr, .int (nI mrn), .ref mp, .int (nI mst), .int (zB mhr), .ref mx, .ref mfa, .ref mbi, .ref mod1, .int (nI mon), .ref msc, .ref msb, .ref msu, .ref mwy, .ref mre, .ref mby, .ref msm, .ref mle, .ref mgr])), (mf, aI cA 40 (fun j => nI (Fr j))), (mt, aI cA 40 (fun j => nI (To j))), (mw, aI cA 40 (fun j => nI (We j))), (mx, aI cA 40 (fun j => iZ (X j))), (msu, aI cA 16 (fun j => iZ (Su j))), (mre, aZ cA 16 (fun j => zB ((((mRch We (sPs dir Fr To We X ρ1 i).1 (Fr i) (To i) i 1).1).1) j))), (mby, aI cA 16 (fun j => iZ ((((mRch We (sPs dir Fr To We X ρ1 i).1 (Fr i) (To i) i 1).1).2.1) j))), (mwy, aJ cA 656 (fun j => lZ ((((mRch We (sPs dir Fr To We X ρ1 i).1 (Fr i) (To i) i 1).1).2.2.1) j))), (msm, aJ cA 41 (fun j => lZ ((((mRch We (sPs dir Fr To We X ρ1 i).1 (Fr i) (To i) i 1).1).2.2.2) j)))] H → va_D A [(mo, .inr (6, [.int (nI mth), .int (zB dir), .int (nI nv), .int (nI me), .ref mf, .ref mt, .ref mw, .ref mr, .int (nI mrn), .ref mp, .int (nI mst), .int (zB mhr), .ref mx, .ref mfa, .ref mbi, .ref mod1, .int (nI mon), .ref msc, .ref msb, .ref msu, .ref mwy, .ref mre, .ref mby, .ref msm, .ref mle, .ref mgr])), (mf, aI cA 40 (fun j => nI (Fr j))), (mt, aI cA 40 (fun j => nI (To j))), (mw, aI cA 40 (fun j => nI (We j))), (mx, aI cA 40 (fun j => iZ (X j))), (msu, aI cA 16 (fun j => iZ (Su j))), (mre, aZ cA 16 (fun j => zB ((((mRch We (sPs dir Fr To We X ρ1 i).1 (Fr i) (To i) i 1).1).1) j))), (mby, aI cA 16 (fun j => iZ ((((mRch We (sPs dir Fr To We X ρ1 i).1 (Fr i) (To i) i 1).1).2.1) j))), (mwy, aJ cA 656 (fun j => lZ ((((mRch We (sPs dir Fr To We X ρ1 i).1 (Fr i) (To i) i 1).1).2.2.1) j))), (msm, aJ cA 41 (fun j => lZ ((((mRch We (sPs dir Fr To We X ρ1 i).1 (Fr i) (To i) i 1).1).2.2.2) j)))] → va_S A s.heap H locs → ∀ (ls : Array Slot), lv_has ls 3 [(0, .ref mo), (2, .int (nI i))] → W p l e ({ frames := 2, cells := 0, slots := 0, locals := 49 } : Room) s m args below meth c H locs 0 0 Q (F0 m 117 ls [.int (zB ((mRch We (sPs dir Fr To We X ρ1 i).1 (Fr i) (To i) i 1).2 || (sPs dir Fr To We X ρ1 i).2))]) := by
                      intro   H locs hP hD hS ls hl
                      refine lv_istore_n (lv' := [(1, .int (zB ((mRch We (sPs dir Fr To We X ρ1 i).1 (Fr i) (To i) i 1).2 || (sPs dir Fr To We X ρ1 i).2))), (0, .ref mo), (2, .int (nI i))]) hx hb dX6_spread_117 rfl hl (by decide) rfl (fun ls hl => ?_)
                      refine lv_aload_n hx hb dX6_spread_118 rfl (lv_at hl 1 rfl) ?_
                      refine va_get (D := D) (ci := 6) (v := .ref mx) (C := RX6) (T := TX6) (N := 26) hx hb hts hin6 hown hK hP 0 rfl rfl 12 (by decide) (hts (.fieldLink RX6 29 "TourHouseModel" "extra" "[I") (by decide +kernel)) (fun _ h9 => h9) rfl dX6_spread_119 ?_
                      refine lv_iload_n hx hb dX6_spread_122 rfl (lv_at hl 2 rfl) ?_
                      refine z_iald hx hb hK hP 4 0 rfl rfl (k := i) (by omega) (by decide) (v := iZ (X i)) rfl dX6_spread_123 ?_
                      refine z_ile hx hb (x := X i) (hX _) (tgt := 158) dX6_spread_124 (by decide) (fun h124 => ?_) (fun h124 => ?_)
                      · skip
                        refine lv_iinc (v := nI (i + 1)) (lv' := [(2, .int (nI (i + 1))), (1, .int (zB ((mRch We (sPs dir Fr To We X ρ1 i).1 (Fr i) (To i) i 1).2 || (sPs dir Fr To We X ρ1 i).2))), (0, .ref mo)]) hx hb dX6_spread_158 hl (k := 2) rfl (nI_1 i) (by decide) rfl (fun ls hl => ?_)
                        refine lv_goto (tgt := 79) hx hb dX6_spread_161 (by decide) ?_
                        exact ih79 (i + 1) (by omega) (by omega) _ _ (by first | (rw [sPs_0 (by omega)]; exact hP) | (rw [sPs_1 (by omega)]; exact hP)) (by first | (rw [sPs_0 (by omega)]; exact hD) | (rw [sPs_1 (by omega)]; exact hD)) hS ls (lv_sub hl [2, 1, 0] (by first | (rw [sPs_0 (by omega)]; rfl) | (rw [sPs_1 (by omega)]; rfl)))
                      · skip
                        refine lv_aload_n hx hb dX6_spread_127 rfl (lv_at hl 1 rfl) ?_
                        refine lv_aload_n hx hb dX6_spread_128 rfl (lv_at hl 1 rfl) ?_
                        refine va_get (D := D) (ci := 6) (v := .ref mt) (C := RX6) (T := TX6) (N := 26) hx hb hts hin6 hown hK hP 0 rfl rfl 5 (by decide) (hts (.fieldLink RX6 17 "TourHouseModel" "to" "[I") (by decide +kernel)) (fun _ h9 => h9) rfl dX6_spread_129 ?_
                        refine lv_iload_n hx hb dX6_spread_132 rfl (lv_at hl 2 rfl) ?_
                        refine z_iald hx hb hK hP 2 0 rfl rfl (k := i) (by omega) (by decide) (v := nI (To i)) rfl dX6_spread_133 ?_
                        refine lv_aload_n hx hb dX6_spread_134 rfl (lv_at hl 1 rfl) ?_
                        refine va_get (D := D) (ci := 6) (v := .ref mf) (C := RX6) (T := TX6) (N := 26) hx hb hts hin6 hown hK hP 0 rfl rfl 4 (by decide) (hts (.fieldLink RX6 13 "TourHouseModel" "from" "[I") (by decide +kernel)) (fun _ h9 => h9) rfl dX6_spread_135 ?_
                        refine lv_iload_n hx hb dX6_spread_138 rfl (lv_at hl 2 rfl) ?_
                        refine z_iald hx hb hK hP 1 0 rfl rfl (k := i) (by omega) (by decide) (v := nI (Fr i)) rfl dX6_spread_139 ?_
                        refine lv_iload_n hx hb dX6_spread_140 rfl (lv_at hl 2 rfl) ?_
                        refine lv_iconst (v := iZ (-1)) hx hb dX6_spread_141 (by decide) ?_
                        refine z_cWVi (wc := [(mo, .inr (6, [.int (nI mth), .int (zB dir), .int (nI nv), .int (nI me), .ref mf, .ref mt, .ref mw, .ref mr, .int (nI mrn), .ref mp, .int (nI mst), .int (zB mhr), .ref mx, .ref mfa, .ref mbi, .ref mod1, .int (nI mon), .ref msc, .ref msb, .ref msu, .ref mwy, .ref mre, .ref mby, .ref msm, .ref mle, .ref mgr])), (mw, aI cA 40 (fun j => nI (We j))), (mre, aZ cA 16 (fun j => zB ((((mRch We (sPs dir Fr To We X ρ1 i).1 (Fr i) (To i) i 1).1).1) j))), (mby, aI cA 16 (fun j => iZ ((((mRch We (sPs dir Fr To We X ρ1 i).1 (Fr i) (To i) i 1).1).2.1) j))), (mwy, aJ cA 656 (fun j => lZ ((((mRch We (sPs dir Fr To We X ρ1 i).1 (Fr i) (To i) i 1).1).2.2.1) j))), (msm, aJ cA 41 (fun j => lZ ((((mRch We (sPs dir Fr To We X ρ1 i).1 (Fr i) (To i) i 1).1).2.2.2) j)))]) (rm := ({ frames := 1, cells := 0, slots := 0, locals := 24 } : Room)) (As := [.int (nI (To i)), .int (nI (Fr i)), .int (nI i), .int (iZ (-1))]) (rest := []) (wr := [(mf, aI cA 40 (fun j => nI (Fr j))), (mt, aI cA 40 (fun j => nI (To j))), (mx, aI cA 40 (fun j => iZ (X j))), (msu, aI cA 16 (fun j => iZ (Su j)))]) (w1 := [(mo, .inr (6, [.int (nI mth), .int (zB dir), .int (nI nv), .int (nI me), .ref mf, .ref mt, .ref mw, .ref mr, .int (nI mrn), .ref mp, .int (nI mst), .int (zB mhr), .ref mx, .ref mfa, .ref mbi, .ref mod1, .int (nI mon), .ref msc, .ref msb, .ref msu, .ref mwy, .ref mre, .ref mby, .ref msm, .ref mle, .ref mgr])), (mw, aI cA 40 (fun j => nI (We j))), (mre, aZ cA 16 (fun j => zB ((((mRch We ((mRch We (sPs dir Fr To We X ρ1 i).1 (Fr i) (To i) i 1).1) (To i) (Fr i) i (-1)).1).1) j))), (mby, aI cA 16 (fun j => iZ ((((mRch We ((mRch We (sPs dir Fr To We X ρ1 i).1 (Fr i) (To i) i 1).1) (To i) (Fr i) i (-1)).1).2.1) j))), (mwy, aJ cA 656 (fun j => lZ ((((mRch We ((mRch We (sPs dir Fr To We X ρ1 i).1 (Fr i) (To i) i 1).1) (To i) (Fr i) i (-1)).1).2.2.1) j))), (msm, aJ cA 41 (fun j => lZ ((((mRch We ((mRch We (sPs dir Fr To We X ρ1 i).1 (Fr i) (To i) i 1).1) (To i) (Fr i) i (-1)).1).2.2.2) j)))]) (ws' := [(mo, .inr (6, [.int (nI mth), .int (zB dir), .int (nI nv), .int (nI me), .ref mf, .ref mt, .ref mw, .ref mr, .int (nI mrn), .ref mp, .int (nI mst), .int (zB mhr), .ref mx, .ref mfa, .ref mbi, .ref mod1, .int (nI mon), .ref msc, .ref msb, .ref msu, .ref mwy, .ref mre, .ref mby, .ref msm, .ref mle, .ref mgr])), (mf, aI cA 40 (fun j => nI (Fr j))), (mt, aI cA 40 (fun j => nI (To j))), (mw, aI cA 40 (fun j => nI (We j))), (mx, aI cA 40 (fun j => iZ (X j))), (msu, aI cA 16 (fun j => iZ (Su j))), (mre, aZ cA 16 (fun j => zB ((((mRch We ((mRch We (sPs dir Fr To We X ρ1 i).1 (Fr i) (To i) i 1).1) (To i) (Fr i) i (-1)).1).1) j))), (mby, aI cA 16 (fun j => iZ ((((mRch We ((mRch We (sPs dir Fr To We X ρ1 i).1 (Fr i) (To i) i 1).1) (To i) (Fr i) i (-1)).1).2.1) j))), (mwy, aJ cA 656 (fun j => lZ ((((mRch We ((mRch We (sPs dir Fr To We X ρ1 i).1 (Fr i) (To i) i 1).1) (To i) (Fr i) i (-1)).1).2.2.1) j))), (msm, aJ cA 41 (fun j => lZ ((((mRch We ((mRch We (sPs dir Fr To We X ρ1 i).1 (Fr i) (To i) i 1).1) (To i) (Fr i) i (-1)).1).2.2.2) j)))]) ⟨hx, hb, hml, hown, hts⟩ (c_X6_reach l D cA H.size mo mf mt mw mr mp mx mfa mbi mod1 msc msb msu mwy mre mby msm mle mgr mth dir nv me mrn mst mhr mon We ((mRch We (sPs dir Fr To We X ρ1 i).1 (Fr i) (To i) i 1).1) (To i) (Fr i) i (-1) (by first | assumption | omega) (mRch_R (sPs_R hρ1 i)) (hT _) (hF _) (by first | assumption | omega) (Or.inr rfl)) (cwV 4 hts gX6_spread_X6_reach rfl rfl rfl (by decide +kernel) ⟨Nat.le_of_ble_eq_true rfl, Nat.le_of_ble_eq_true rfl⟩) hP hK hD hS hA [0, 3, 6, 7, 8, 9] [1, 2, 4, 5] [4, 0, 1, 5, 2, 3, 6, 7, 8, 9] rfl rfl rfl rfl rfl (by decide) rfl rfl rfl 6 0 rfl rfl rfl hl.1 rfl (Nat.le_of_ble_eq_true rfl) ⟨Nat.zero_le _, Nat.zero_le _⟩ dX6_spread_142 (fun H locs hP hD hS => ?_)
                        have J157 : ∀ (H : Heap) (locs : List Loc), va_P D vwCl [(mo, .inr (6, [.int (nI mth), .int (zB dir), .int (nI nv), .int (nI me), .ref mf, .ref mt, .ref mw, .ref mr, .int (nI mrn), .ref mp, .int (nI mst), .int (zB mhr), .ref mx, .ref mfa, .ref mbi, .ref mod1, .int (nI mon), .ref msc, .ref msb, .ref msu, .ref mwy, .ref mre, .ref mby, .ref msm, .ref mle, .ref mgr])), (mf, aI cA 40 (fun j => nI (Fr j))), (mt, aI cA 40 (fun j => nI (To j))), (mw, aI cA 40 (fun j => nI (We j))), (mx, aI cA 40 (fun j => iZ (X j))), (msu, aI cA 16 (fun j => iZ (Su j))), (mre, aZ cA 16 (fun j => zB ((((mRch We (mRch We (sPs dir Fr To We X ρ1 i).1 (Fr i) (To i) i 1).1 (To i) (Fr i) i (-1)).1).1) j))), (mby, aI cA 16 (fun j => iZ ((((mRch We (mRch We (sPs dir Fr To We X ρ1 i).1 (Fr i) (To i) i 1).1 (To i) (Fr i) i (-1)).1).2.1) j))), (mwy, aJ cA 656 (fun j => lZ ((((mRch We (mRch We (sPs dir Fr To We X ρ1 i).1 (Fr i) (To i) i 1).1 (To i) (Fr i) i (-1)).1).2.2.1) j))), (msm, aJ cA 41 (fun j => lZ ((((mRch We (mRch We (sPs dir Fr To We X ρ1 i).1 (Fr i) (To i) i 1).1 (To i) (Fr i) i (-1)).1).2.2.2) j)))] H → va_D A [(mo, .inr (6, [.int (nI mth), .int (zB dir), .int (nI nv), .int (nI me), .ref mf, .ref mt, .ref mw, .ref mr, .int (nI mrn), .ref mp, .int (nI mst), .int (zB mhr), .ref mx, .ref mfa, .ref mbi, .ref mod1, .int (nI mon), .ref msc, .ref msb, .ref msu, .ref mwy, .ref mre, .ref mby, .ref msm, .ref mle, .ref mgr])), (mf, aI cA 40 (fun j => nI (Fr j))), (mt, aI cA 40 (fun j => nI (To j))), (mw, aI cA 40 (fun j => nI (We j))), (mx, aI cA 40 (fun j => iZ (X j))), (msu, aI cA 16 (fun j => iZ (Su j))), (mre, aZ cA 16 (fun j => zB ((((mRch We (mRch We (sPs dir Fr To We X ρ1 i).1 (Fr i) (To i) i 1).1 (To i) (Fr i) i (-1)).1).1) j))), (mby, aI cA 16 (fun j => iZ ((((mRch We (mRch We (sPs dir Fr To We X ρ1 i).1 (Fr i) (To i) i 1).1 (To i) (Fr i) i (-1)).1).2.1) j))), (mwy, aJ cA 656 (fun j => lZ ((((mRch We (mRch We (sPs dir Fr To We X ρ1 i).1 (Fr i) (To i) i 1).1 (To i) (Fr i) i (-1)).1).2.2.1) j))), (msm, aJ cA 41 (fun j => lZ ((((mRch We (mRch We (sPs dir Fr To We X ρ1 i).1 (Fr i) (To i) i 1).1 (To i) (Fr i) i (-1)).1).2.2.2) j)))] → va_S A s.heap H locs → ∀ (ls : Array Slot), lv_has ls 3 [(0, .ref mo), (2, .int (nI i))] → W p l e ({ frames := 2, cells := 0, slots := 0, locals := 49 } : Room) s m args below meth c H locs 0 0 Q (F0 m 157 ls [.int (zB ((mRch We (mRch We (sPs dir Fr To We X ρ1 i).1 (Fr i) (To i) i 1).1 (To i) (Fr i) i (-1)).2 || ((mRch We (sPs dir Fr To We X ρ1 i).1 (Fr i) (To i) i 1).2 || (sPs dir Fr To We X ρ1 i).2)))]) := by
                          intro   H locs hP hD hS ls hl
                          refine lv_istore_n (lv' := [(1, .int (zB ((mRch We (mRch We (sPs dir Fr To We X ρ1 i).1 (Fr i) (To i) i 1).1 (To i) (Fr i) i (-1)).2 || ((mRch We (sPs dir Fr To We X ρ1 i).1 (Fr i) (To i) i 1).2 || (sPs dir Fr To We X ρ1 i).2)))), (0, .ref mo), (2, .int (nI i))]) hx hb dX6_spread_157 rfl hl (by decide) rfl (fun ls hl => ?_)
                          refine lv_iinc (v := nI (i + 1)) (lv' := [(2, .int (nI (i + 1))), (1, .int (zB ((mRch We (mRch We (sPs dir Fr To We X ρ1 i).1 (Fr i) (To i) i 1).1 (To i) (Fr i) i (-1)).2 || ((mRch We (sPs dir Fr To We X ρ1 i).1 (Fr i) (To i) i 1).2 || (sPs dir Fr To We X ρ1 i).2)))), (0, .ref mo)]) hx hb dX6_spread_158 hl (k := 2) rfl (nI_1 i) (by decide) rfl (fun ls hl => ?_)
                          refine lv_goto (tgt := 79) hx hb dX6_spread_161 (by decide) ?_
                          exact ih79 (i + 1) (by omega) (by omega) _ _ (by first | (rw [sPs_0 (by omega)]; exact hP) | (rw [sPs_1 (by omega)]; exact hP)) (by first | (rw [sPs_0 (by omega)]; exact hD) | (rw [sPs_1 (by omega)]; exact hD)) hS ls (lv_sub hl [2, 1, 0] (by first | (rw [sPs_0 (by omega)]; rfl) | (rw [sPs_1 (by omega)]; rfl)))
                        refine z_ifne hx hb (tgt := 152) dX6_spread_145 (by decide) (fun h145 => ?_) (fun h145 => ?_)
                        · skip
                          refine lv_iconst (v := zB true) hx hb dX6_spread_152 (by decide) ?_
                          refine lv_goto (tgt := 157) hx hb dX6_spread_153 (by decide) ?_
                          refine z_topi (v := zB ((mRch We (mRch We (sPs dir Fr To We X ρ1 i).1 (Fr i) (To i) i 1).1 (To i) (Fr i) i (-1)).2 || ((mRch We (sPs dir Fr To We X ρ1 i).1 (Fr i) (To i) i 1).2 || (sPs dir Fr To We X ρ1 i).2))) (by congr 1; simp_all) ?_
                          exact J157   _ _ (hP) (hD) hS ls (lv_sub hl [1, 2] (by rfl))
                        · skip
                          refine lv_iload_n hx hb dX6_spread_148 rfl (lv_at hl 0 rfl) ?_
                          refine z_ifeq hx hb (tgt := 156) dX6_spread_149 (by decide) (fun h149 => ?_) (fun h149 => ?_)
                          · skip
                            refine lv_iconst (v := zB false) hx hb dX6_spread_156 (by decide) ?_
                            refine z_topi (v := zB ((mRch We (mRch We (sPs dir Fr To We X ρ1 i).1 (Fr i) (To i) i 1).1 (To i) (Fr i) i (-1)).2 || ((mRch We (sPs dir Fr To We X ρ1 i).1 (Fr i) (To i) i 1).2 || (sPs dir Fr To We X ρ1 i).2))) (by congr 1; simp_all) ?_
                            exact J157   _ _ (hP) (hD) hS ls (lv_sub hl [1, 2] (by rfl))
                          · skip
                            refine lv_iconst (v := zB true) hx hb dX6_spread_152 (by decide) ?_
                            refine lv_goto (tgt := 157) hx hb dX6_spread_153 (by decide) ?_
                            refine z_topi (v := zB ((mRch We (mRch We (sPs dir Fr To We X ρ1 i).1 (Fr i) (To i) i 1).1 (To i) (Fr i) i (-1)).2 || ((mRch We (sPs dir Fr To We X ρ1 i).1 (Fr i) (To i) i 1).2 || (sPs dir Fr To We X ρ1 i).2))) (by congr 1; simp_all) ?_
                            exact J157   _ _ (hP) (hD) hS ls (lv_sub hl [1, 2] (by rfl))
                    refine z_ifne hx hb (tgt := 112) dX6_spread_105 (by decide) (fun h105 => ?_) (fun h105 => ?_)
                    · skip
                      refine lv_iconst (v := zB true) hx hb dX6_spread_112 (by decide) ?_
                      refine lv_goto (tgt := 117) hx hb dX6_spread_113 (by decide) ?_
                      refine z_topi (v := zB ((mRch We (sPs dir Fr To We X ρ1 i).1 (Fr i) (To i) i 1).2 || (sPs dir Fr To We X ρ1 i).2)) (by congr 1; simp [*]) ?_
                      exact J117   _ _ (hP) (hD) hS ls (lv_sub hl [0, 2] (by rfl))
                    · skip
                      refine lv_iload_n hx hb dX6_spread_108 rfl (lv_at hl 1 rfl) ?_
                      refine z_ifeq hx hb (tgt := 116) dX6_spread_109 (by decide) (fun h109 => ?_) (fun h109 => ?_)
                      · skip
                        refine lv_iconst (v := zB false) hx hb dX6_spread_116 (by decide) ?_
                        refine z_topi (v := zB ((mRch We (sPs dir Fr To We X ρ1 i).1 (Fr i) (To i) i 1).2 || (sPs dir Fr To We X ρ1 i).2)) (by congr 1; simp [*]) ?_
                        exact J117   _ _ (hP) (hD) hS ls (lv_sub hl [0, 2] (by rfl))
                      · skip
                        refine lv_iconst (v := zB true) hx hb dX6_spread_112 (by decide) ?_
                        refine lv_goto (tgt := 117) hx hb dX6_spread_113 (by decide) ?_
                        refine z_topi (v := zB ((mRch We (sPs dir Fr To We X ρ1 i).1 (Fr i) (To i) i 1).2 || (sPs dir Fr To We X ρ1 i).2)) (by congr 1; simp [*]) ?_
                        exact J117   _ _ (hP) (hD) hS ls (lv_sub hl [0, 2] (by rfl))
              exact J79 ((me - 0) + 1) 0 (by omega) (by omega) _ _ (hP) (hD) hS ls (lv_sub hl [2, 1, 0] (by rfl))
        exact J71 (N + 1) N (sIn Su ρ nv) true (sIn_R hρ nv) (fun _ => sLp_pos hN) (by rw [if_pos rfl]; exact hN) (by rw [if_pos rfl]) (by omega) _ _ (by have q : i = nv := (by omega); rw [q] at hP; exact hP) (by have q : i = nv := (by omega); rw [q] at hD; exact hD) hS ls (lv_sub hl [1, 0] (by rfl))
      · skip
        refine lv_aload_n hx hb dX6_spread_10 rfl (lv_at hl 0 rfl) ?_
        refine va_get (D := D) (ci := 6) (v := .ref mre) (C := RX6) (T := TX6) (N := 26) hx hb hts hin6 hown hK hP 0 rfl rfl 21 (by decide) (hts (.fieldLink RX6 55 "TourHouseModel" "reached" "[Z") (by decide +kernel)) (fun _ h9 => h9) rfl dX6_spread_11 ?_
        refine lv_iload_n hx hb dX6_spread_14 rfl (lv_at hl 1 rfl) ?_
        refine lv_aload_n hx hb dX6_spread_15 rfl (lv_at hl 0 rfl) ?_
        refine va_get (D := D) (ci := 6) (v := .ref msu) (C := RX6) (T := TX6) (N := 26) hx hb hts hin6 hown hK hP 0 rfl rfl 19 (by decide) (hts (.fieldLink RX6 49 "TourHouseModel" "surplus" "[I") (by decide +kernel)) (fun _ h9 => h9) rfl dX6_spread_16 ?_
        have J29 : ∀ (H : Heap) (locs : List Loc), va_P D vwCl [(mo, .inr (6, [.int (nI mth), .int (zB dir), .int (nI nv), .int (nI me), .ref mf, .ref mt, .ref mw, .ref mr, .int (nI mrn), .ref mp, .int (nI mst), .int (zB mhr), .ref mx, .ref mfa, .ref mbi, .ref mod1, .int (nI mon), .ref msc, .ref msb, .ref msu, .ref mwy, .ref mre, .ref mby, .ref msm, .ref mle, .ref mgr])), (mf, aI cA 40 (fun j => nI (Fr j))), (mt, aI cA 40 (fun j => nI (To j))), (mw, aI cA 40 (fun j => nI (We j))), (mx, aI cA 40 (fun j => iZ (X j))), (msu, aI cA 16 (fun j => iZ (Su j))), (mre, aZ cA 16 (fun j => zB (((sIn Su ρ i).1) j))), (mby, aI cA 16 (fun j => iZ (((sIn Su ρ i).2.1) j))), (mwy, aJ cA 656 (fun j => lZ (((sIn Su ρ i).2.2.1) j))), (msm, aJ cA 41 (fun j => lZ (((sIn Su ρ i).2.2.2) j)))] H → va_D A [(mo, .inr (6, [.int (nI mth), .int (zB dir), .int (nI nv), .int (nI me), .ref mf, .ref mt, .ref mw, .ref mr, .int (nI mrn), .ref mp, .int (nI mst), .int (zB mhr), .ref mx, .ref mfa, .ref mbi, .ref mod1, .int (nI mon), .ref msc, .ref msb, .ref msu, .ref mwy, .ref mre, .ref mby, .ref msm, .ref mle, .ref mgr])), (mf, aI cA 40 (fun j => nI (Fr j))), (mt, aI cA 40 (fun j => nI (To j))), (mw, aI cA 40 (fun j => nI (We j))), (mx, aI cA 40 (fun j => iZ (X j))), (msu, aI cA 16 (fun j => iZ (Su j))), (mre, aZ cA 16 (fun j => zB (((sIn Su ρ i).1) j))), (mby, aI cA 16 (fun j => iZ (((sIn Su ρ i).2.1) j))), (mwy, aJ cA 656 (fun j => lZ (((sIn Su ρ i).2.2.1) j))), (msm, aJ cA 41 (fun j => lZ (((sIn Su ρ i).2.2.2) j)))] → va_S A s.heap H locs → ∀ (ls : Array Slot), lv_has ls 3 [(0, .ref mo), (1, .int (nI i))] → W p l e ({ frames := 2, cells := 0, slots := 0, locals := 49 } : Room) s m args below meth c H locs 0 0 Q (F0 m 29 ls [.int (zB (decide (0 < Su i))), .int (nI i), .ref mre]) := by
          intro   H locs hP hD hS ls hl
          refine z_zast hx hb hK hP hD hS 6 2 rfl rfl (k := i) (by omega) (by decide) (f' := (fun j => zB ((va_up ((sIn Su ρ i).1) i (decide (0 < Su i))) j))) (upd_zB ((sIn Su ρ i).1) i (decide (0 < Su i))) (ws' := [(mo, .inr (6, [.int (nI mth), .int (zB dir), .int (nI nv), .int (nI me), .ref mf, .ref mt, .ref mw, .ref mr, .int (nI mrn), .ref mp, .int (nI mst), .int (zB mhr), .ref mx, .ref mfa, .ref mbi, .ref mod1, .int (nI mon), .ref msc, .ref msb, .ref msu, .ref mwy, .ref mre, .ref mby, .ref msm, .ref mle, .ref mgr])), (mf, aI cA 40 (fun j => nI (Fr j))), (mt, aI cA 40 (fun j => nI (To j))), (mw, aI cA 40 (fun j => nI (We j))), (mx, aI cA 40 (fun j => iZ (X j))), (msu, aI cA 16 (fun j => iZ (Su j))), (mre, aZ cA 16 (fun j => zB ((va_up ((sIn Su ρ i).1) i (decide (0 < Su i))) j))), (mby, aI cA 16 (fun j => iZ (((sIn Su ρ i).2.1) j))), (mwy, aJ cA 656 (fun j => lZ (((sIn Su ρ i).2.2.1) j))), (msm, aJ cA 41 (fun j => lZ (((sIn Su ρ i).2.2.2) j)))]) rfl dX6_spread_29 (fun H locs hP hD hS => ?_)
          refine lv_aload_n hx hb dX6_spread_30 rfl (lv_at hl 0 rfl) ?_
          refine va_get (D := D) (ci := 6) (v := .ref mby) (C := RX6) (T := TX6) (N := 26) hx hb hts hin6 hown hK hP 0 rfl rfl 22 (by decide) (hts (.fieldLink RX6 59 "TourHouseModel" "by" "[I") (by decide +kernel)) (fun _ h9 => h9) rfl dX6_spread_31 ?_
          refine lv_iload_n hx hb dX6_spread_34 rfl (lv_at hl 1 rfl) ?_
          refine lv_iconst (v := iZ (-1)) hx hb dX6_spread_35 (by decide) ?_
          refine z_iast hx hb hK hP hD hS 7 0 rfl rfl (k := i) (by omega) (by decide) (f' := (fun j => iZ ((va_up ((sIn Su ρ i).2.1) i (-1)) j))) (upd_iZ ((sIn Su ρ i).2.1) i (-1)) (ws' := [(mo, .inr (6, [.int (nI mth), .int (zB dir), .int (nI nv), .int (nI me), .ref mf, .ref mt, .ref mw, .ref mr, .int (nI mrn), .ref mp, .int (nI mst), .int (zB mhr), .ref mx, .ref mfa, .ref mbi, .ref mod1, .int (nI mon), .ref msc, .ref msb, .ref msu, .ref mwy, .ref mre, .ref mby, .ref msm, .ref mle, .ref mgr])), (mf, aI cA 40 (fun j => nI (Fr j))), (mt, aI cA 40 (fun j => nI (To j))), (mw, aI cA 40 (fun j => nI (We j))), (mx, aI cA 40 (fun j => iZ (X j))), (msu, aI cA 16 (fun j => iZ (Su j))), (mre, aZ cA 16 (fun j => zB ((va_up ((sIn Su ρ i).1) i (decide (0 < Su i))) j))), (mby, aI cA 16 (fun j => iZ ((va_up ((sIn Su ρ i).2.1) i (-1)) j))), (mwy, aJ cA 656 (fun j => lZ (((sIn Su ρ i).2.2.1) j))), (msm, aJ cA 41 (fun j => lZ (((sIn Su ρ i).2.2.2) j)))]) rfl dX6_spread_36 (fun H locs hP hD hS => ?_)
          refine lv_iconst (v := nI 0) hx hb dX6_spread_37 (by decide) ?_
          refine lv_istore_n (lv' := [(2, .int (nI 0)), (0, .ref mo), (1, .int (nI i))]) hx hb dX6_spread_38 rfl hl (by decide) rfl (fun ls hl => ?_)
          have J39 : ∀ (n : Nat), ∀ (k : Nat), (k ≤ 41) → 41 - k < n → ∀ (H : Heap) (locs : List Loc), va_P D vwCl [(mo, .inr (6, [.int (nI mth), .int (zB dir), .int (nI nv), .int (nI me), .ref mf, .ref mt, .ref mw, .ref mr, .int (nI mrn), .ref mp, .int (nI mst), .int (zB mhr), .ref mx, .ref mfa, .ref mbi, .ref mod1, .int (nI mon), .ref msc, .ref msb, .ref msu, .ref mwy, .ref mre, .ref mby, .ref msm, .ref mle, .ref mgr])), (mf, aI cA 40 (fun j => nI (Fr j))), (mt, aI cA 40 (fun j => nI (To j))), (mw, aI cA 40 (fun j => nI (We j))), (mx, aI cA 40 (fun j => iZ (X j))), (msu, aI cA 16 (fun j => iZ (Su j))), (mre, aZ cA 16 (fun j => zB ((va_up (sIn Su ρ i).1 i (decide (0 < Su i))) j))), (mby, aI cA 16 (fun j => iZ ((va_up (sIn Su ρ i).2.1 i (-1)) j))), (mwy, aJ cA 656 (fun j => lZ ((cpW (sIn Su ρ i).2.2.1 (fun _ => 0) i k) j))), (msm, aJ cA 41 (fun j => lZ (((sIn Su ρ i).2.2.2) j)))] H → va_D A [(mo, .inr (6, [.int (nI mth), .int (zB dir), .int (nI nv), .int (nI me), .ref mf, .ref mt, .ref mw, .ref mr, .int (nI mrn), .ref mp, .int (nI mst), .int (zB mhr), .ref mx, .ref mfa, .ref mbi, .ref mod1, .int (nI mon), .ref msc, .ref msb, .ref msu, .ref mwy, .ref mre, .ref mby, .ref msm, .ref mle, .ref mgr])), (mf, aI cA 40 (fun j => nI (Fr j))), (mt, aI cA 40 (fun j => nI (To j))), (mw, aI cA 40 (fun j => nI (We j))), (mx, aI cA 40 (fun j => iZ (X j))), (msu, aI cA 16 (fun j => iZ (Su j))), (mre, aZ cA 16 (fun j => zB ((va_up (sIn Su ρ i).1 i (decide (0 < Su i))) j))), (mby, aI cA 16 (fun j => iZ ((va_up (sIn Su ρ i).2.1 i (-1)) j))), (mwy, aJ cA 656 (fun j => lZ ((cpW (sIn Su ρ i).2.2.1 (fun _ => 0) i k) j))), (msm, aJ cA 41 (fun j => lZ (((sIn Su ρ i).2.2.2) j)))] → va_S A s.heap H locs → ∀ (ls : Array Slot), lv_has ls 3 [(0, .ref mo), (1, .int (nI i)), (2, .int (nI k))] → W p l e ({ frames := 2, cells := 0, slots := 0, locals := 49 } : Room) s m args below meth c H locs 0 0 Q (F0 m 39 ls []) := by
            intro n39
            induction n39 with
            | zero => intro k hk hn; exact absurd hn (Nat.not_lt_zero _)
            | succ n39 ih39 =>
              intro k hk hn39 H locs hP hD hS ls hl
              refine lv_iload_n hx hb dX6_spread_39 rfl (lv_at hl 2 rfl) ?_
              refine lv_bipush (v := nI 41) hx hb dX6_spread_40 (by decide) ?_
              refine z_ge hx hb (by omega) (by decide) (tgt := 63) dX6_spread_42 (by decide) (fun h42 => ?_) (fun h42 => ?_)
              · skip
                refine lv_iinc (v := nI (i + 1)) (lv' := [(1, .int (nI (i + 1))), (0, .ref mo), (2, .int (nI k))]) hx hb dX6_spread_63 hl (k := 1) rfl (nI_1 i) (by decide) rfl (fun ls hl => ?_)
                refine lv_goto (tgt := 2) hx hb dX6_spread_66 (by decide) ?_
                exact ih2 (i + 1) (by omega) (by omega) _ _ (by rw [sIn_s]; have q : k = 41 := (by omega); rw [q] at hP; exact hP) (by rw [sIn_s]; have q : k = 41 := (by omega); rw [q] at hD; exact hD) hS ls (lv_sub hl [1, 0] (by rfl))
              · skip
                refine lv_aload_n hx hb dX6_spread_45 rfl (lv_at hl 0 rfl) ?_
                refine va_get (D := D) (ci := 6) (v := .ref mwy) (C := RX6) (T := TX6) (N := 26) hx hb hts hin6 hown hK hP 0 rfl rfl 20 (by decide) (hts (.fieldLink RX6 52 "TourHouseModel" "ways" "[J") (by decide +kernel)) (fun _ h9 => h9) rfl dX6_spread_46 ?_
                refine lv_bipush (v := nI 41) hx hb dX6_spread_49 (by decide) ?_
                refine lv_iload_n hx hb dX6_spread_51 rfl (lv_at hl 1 rfl) ?_
                refine lv_imul hx hb dX6_spread_52 ?_
                refine z_topi (v := nI (41 * i)) (pk_mul 41 i) ?_
                refine lv_iload_n hx hb dX6_spread_53 rfl (lv_at hl 2 rfl) ?_
                refine lv_iadd hx hb dX6_spread_54 ?_
                refine z_topi (v := nI ((41 * i) + k)) (nI_add (41 * i) k) ?_
                refine lv_lconst (v := lZ 0) hx hb dX6_spread_55 (by decide) ?_
                refine z_last hx hb hK hP hD hS 8 1 rfl rfl (k := ((41 * i) + k)) (by omega) (by decide) (f' := (fun j => lZ ((cpW (sIn Su ρ i).2.2.1 (fun _ => 0) i (k + 1)) j))) ((updL_lZ (cpW (sIn Su ρ i).2.2.1 (fun _ => 0) i k) ((41 * i) + k) 0).trans (by rw [← cpW_up])) (ws' := [(mo, .inr (6, [.int (nI mth), .int (zB dir), .int (nI nv), .int (nI me), .ref mf, .ref mt, .ref mw, .ref mr, .int (nI mrn), .ref mp, .int (nI mst), .int (zB mhr), .ref mx, .ref mfa, .ref mbi, .ref mod1, .int (nI mon), .ref msc, .ref msb, .ref msu, .ref mwy, .ref mre, .ref mby, .ref msm, .ref mle, .ref mgr])), (mf, aI cA 40 (fun j => nI (Fr j))), (mt, aI cA 40 (fun j => nI (To j))), (mw, aI cA 40 (fun j => nI (We j))), (mx, aI cA 40 (fun j => iZ (X j))), (msu, aI cA 16 (fun j => iZ (Su j))), (mre, aZ cA 16 (fun j => zB ((va_up (sIn Su ρ i).1 i (decide (0 < Su i))) j))), (mby, aI cA 16 (fun j => iZ ((va_up (sIn Su ρ i).2.1 i (-1)) j))), (mwy, aJ cA 656 (fun j => lZ ((cpW (sIn Su ρ i).2.2.1 (fun _ => 0) i (k + 1)) j))), (msm, aJ cA 41 (fun j => lZ (((sIn Su ρ i).2.2.2) j)))]) rfl dX6_spread_56 (fun H locs hP hD hS => ?_)
                refine lv_iinc (v := nI (k + 1)) (lv' := [(2, .int (nI (k + 1))), (0, .ref mo), (1, .int (nI i))]) hx hb dX6_spread_57 hl (k := 2) rfl (nI_1 k) (by decide) rfl (fun ls hl => ?_)
                refine lv_goto (tgt := 39) hx hb dX6_spread_60 (by decide) ?_
                exact ih39 (k + 1) (by omega) (by omega) _ _ (hP) (hD) hS ls (lv_sub hl [1, 2, 0] (by rfl))
          exact J39 ((41 - 0) + 1) 0 (by omega) (by omega) _ _ (by rw [cpW_0]; exact hP) (by rw [cpW_0]; exact hD) hS ls (lv_sub hl [1, 2, 0] (by rfl))
        refine lv_iload_n hx hb dX6_spread_19 rfl (lv_at hl 1 rfl) ?_
        refine z_iald hx hb hK hP 5 0 rfl rfl (k := i) (by omega) (by decide) (v := iZ (Su i)) rfl dX6_spread_20 ?_
        refine z_ile hx hb (x := Su i) (hSu _) (tgt := 28) dX6_spread_21 (by decide) (fun h21 => ?_) (fun h21 => ?_)
        · skip
          refine lv_iconst (v := zB false) hx hb dX6_spread_28 (by decide) ?_
          refine z_topi (v := zB (decide (0 < Su i))) (by congr 1; simp; omega) ?_
          exact J29   _ _ (hP) (hD) hS ls (lv_sub hl [0, 1] (by rfl))
        · skip
          refine lv_iconst (v := zB true) hx hb dX6_spread_24 (by decide) ?_
          refine lv_goto (tgt := 29) hx hb dX6_spread_25 (by decide) ?_
          refine z_topi (v := zB (decide (0 < Su i))) (by congr 1; simp; omega) ?_
          exact J29   _ _ (hP) (hD) hS ls (lv_sub hl [0, 1] (by rfl))
  exact J2 ((nv - 0) + 1) 0 (by omega) (by omega) _ _ (hP) (hD) hS ls (lv_sub hl [1, 0] (by rfl))
