abbrev KS : Type := (Nat → Int) × (Nat → Nat) × (Nat → Int) × Nat
/-- the uses of the first k edges together -/
def lS (Le : Nat → Int) : Nat → Nat
  | 0 => 0
  | k + 1 => lS Le k + (Le k).toNat
theorem lS_ne {Le : Nat → Int} {e : Nat} {x : Int} : ∀ {n : Nat}, n ≤ e → lS (va_up Le e x) n = lS Le n
  | 0, _ => rfl
  | n + 1, h => by rw [lS, lS, lS_ne (by omega), up_ne (by omega)]
theorem lS_dec {Le : Nat → Int} {e : Nat} : ∀ {me : Nat}, e < me → 0 < Le e → lS (va_up Le e (Le e - 1)) me + 1 = lS Le me
  | 0, h, _ => by omega
  | n + 1, h, hp => by
    rw [lS, lS]
    by_cases q : e = n
    · subst q
      rw [lS_ne (Nat.le_refl _), up_at]
      omega
    · rw [up_ne (Ne.symm q)]
      have := lS_dec (Le := Le) (e := e) (me := n) (by omega) hp
      omega
def mU (dir : Bool) (Fr To : Nat → Nat) (me v : Nat) (Le : Nat → Int) (i : Nat) : Int := if 0 < Le (i / 2) then mGo dir Fr To me v ((i : Nat) : Int) else -1
theorem mGo_rng {dir : Bool} {Fr To : Nat → Nat} {me v : Nat} {z : Int} (hF : ∀ j, Fr j < 16) (hT : ∀ j, To j < 16) : -1 ≤ mGo dir Fr To me v z ∧ mGo dir Fr To me v z < 16 := by
  have h1 := hF (z.toNat / 2)
  have h2 := hT (z.toNat / 2)
  unfold mGo
  split
  · omega
  · split
    · split <;> omega
    · split <;> omega
theorem mU_rng {dir : Bool} {Fr To : Nat → Nat} {me v : Nat} {Le : Nat → Int} {i : Nat} (hF : ∀ j, Fr j < 16) (hT : ∀ j, To j < 16) : -1 ≤ mU dir Fr To me v Le i ∧ mU dir Fr To me v Le i < 16 := by
  unfold mU; split
  · exact mGo_rng hF hT
  · omega
theorem mU_pos {dir : Bool} {Fr To : Nat → Nat} {me v : Nat} {Le : Nat → Int} {i : Nat} (h : 0 ≤ mU dir Fr To me v Le i) : 0 < Le (i / 2) := by
  unfold mU at h
  split at h
  · assumption
  · omega
/-- the least next step, of the last k -/
def mW1 (dir : Bool) (Fr To : Nat → Nat) (me v : Nat) : Nat → KS → KS × Int
  | 0, κ => (κ, -1)
  | k + 1, κ => if mU dir Fr To me v κ.1 (2 * me - (k + 1)) < 0 then mW1 dir Fr To me v k κ
    else if mHg (mGroups Fr To (va_up κ.1 ((2 * me - (k + 1)) / 2) (κ.1 ((2 * me - (k + 1)) / 2) - 1)) me κ.2.1) Fr (va_up κ.1 ((2 * me - (k + 1)) / 2) (κ.1 ((2 * me - (k + 1)) / 2) - 1)) (mU dir Fr To me v κ.1 (2 * me - (k + 1))).toNat me = true then
      ((va_up κ.1 ((2 * me - (k + 1)) / 2) (κ.1 ((2 * me - (k + 1)) / 2) - 1), mGroups Fr To (va_up κ.1 ((2 * me - (k + 1)) / 2) (κ.1 ((2 * me - (k + 1)) / 2) - 1)) me κ.2.1, va_up κ.2.2.1 κ.2.2.2 ((2 * me - (k + 1) : Nat) : Int), κ.2.2.2 + 1), mU dir Fr To me v κ.1 (2 * me - (k + 1)))
    else mW1 dir Fr To me v k (κ.1, mGroups Fr To (va_up κ.1 ((2 * me - (k + 1)) / 2) (κ.1 ((2 * me - (k + 1)) / 2) - 1)) me κ.2.1, κ.2.2.1, κ.2.2.2)
def mW (dir : Bool) (Fr To : Nat → Nat) (me : Nat) : Nat → KS → Nat → KS
  | 0, κ, _ => κ
  | n + 1, κ, v => if (mW1 dir Fr To me v (2 * me) κ).2 < 0 then (mW1 dir Fr To me v (2 * me) κ).1 else mW dir Fr To me n (mW1 dir Fr To me v (2 * me) κ).1 (mW1 dir Fr To me v (2 * me) κ).2.toNat
def mWalk (dir : Bool) (Fr To : Nat → Nat) (me : Nat) (Le : Nat → Int) (Gr : Nat → Nat) (Rw : Nat → Int) (start : Nat) : KS := mW dir Fr To me 2001 (Le, Gr, Rw, 0) start
def wInv (me : Nat) (κ : KS) : Prop := (∀ j, 0 ≤ κ.1 j ∧ κ.1 j ≤ 10000) ∧ (∀ j, κ.2.1 j < 65536) ∧ κ.2.2.2 + lS κ.1 me ≤ 2000
theorem wInv_rn {me : Nat} {κ : KS} {e : Nat} (hw : wInv me κ) (h : 0 < κ.1 e) (he : e < me) : κ.2.2.2 < 2000 := by
  have := hw.2.2
  have := lS_dec (Le := κ.1) he h
  omega
theorem wInv_step {Fr To : Nat → Nat} {me i : Nat} {κ : KS} (hF : ∀ j, Fr j < 16) (hT : ∀ j, To j < 16) (hw : wInv me κ) (h : 0 < κ.1 (i / 2)) (he : i / 2 < me) : wInv me (va_up κ.1 (i / 2) (κ.1 (i / 2) - 1), mGroups Fr To (va_up κ.1 (i / 2) (κ.1 (i / 2) - 1)) me κ.2.1, va_up κ.2.2.1 κ.2.2.2 ((i : Nat) : Int), κ.2.2.2 + 1) := by
  refine ⟨up_all (P := fun x => 0 ≤ x ∧ x ≤ 10000) hw.1 (by have := hw.1 (i / 2); omega), mGroups_b hF hT hw.2.1, ?_⟩
  have := hw.2.2
  have := lS_dec (Le := κ.1) he h
  show κ.2.2.2 + 1 + lS (va_up κ.1 (i / 2) (κ.1 (i / 2) - 1)) me ≤ 2000
  omega
set_option maxHeartbeats 4000000 in
set_option maxRecDepth 100000 in
/-- Model.walk -/
theorem c_X6_walk (l : Launch) (D : va_G) (cA : Nat → ClassId) (sz : Nat) (mo : Nat) (mf : Nat) (mt : Nat) (mw : Nat) (mr : Nat) (mp : Nat) (mx : Nat) (mfa : Nat) (mbi : Nat) (mod1 : Nat) (msc : Nat) (msb : Nat) (msu : Nat) (mwy : Nat) (mre : Nat) (mby : Nat) (msm : Nat) (mle : Nat) (mgr : Nat) (mth : Nat) (dir : Bool) (nv : Nat) (me : Nat) (mrn : Nat) (mst : Nat) (mhr : Bool) (mon : Nat) (Fr : Nat → Nat) (To : Nat → Nat) (Le : Nat → Int) (Gr : Nat → Nat) (Rw : Nat → Int) (start : Nat) (hme : me ≤ 40) (hF : ∀ j, Fr j < 16) (hT : ∀ j, To j < 16) (hLe : ∀ j, 0 ≤ Le j ∧ Le j ≤ 10000) (hGr : ∀ j, Gr j < 65536) (hsum : lS Le me ≤ 2000) (hst : start < 16) : Met l yX6_walk wsX6_walk ({ frames := 2, cells := 0, slots := 0, locals := 47 } : Room) (zWr D vwCl (zT cA) [(mo, .inr (6, [.int (nI mth), .int (zB dir), .int (nI nv), .int (nI me), .ref mf, .ref mt, .ref mw, .ref mr, .int (nI mrn), .ref mp, .int (nI mst), .int (zB mhr), .ref mx, .ref mfa, .ref mbi, .ref mod1, .int (nI mon), .ref msc, .ref msb, .ref msu, .ref mwy, .ref mre, .ref mby, .ref msm, .ref mle, .ref mgr])), (mf, aI cA 40 (fun j => nI (Fr j))), (mt, aI cA 40 (fun j => nI (To j))), (mle, aI cA 40 (fun j => iZ (Le j))), (mgr, aI cA 16 (fun j => nI (Gr j))), (mr, aI cA 2000 (fun j => iZ (Rw j)))] sz [.ref mo, .int (nI start)]) (zQv D vwCl (zT cA) (va_A [(mo, .inr (6, [.int (nI mth), .int (zB dir), .int (nI nv), .int (nI me), .ref mf, .ref mt, .ref mw, .ref mr, .int (nI mrn), .ref mp, .int (nI mst), .int (zB mhr), .ref mx, .ref mfa, .ref mbi, .ref mod1, .int (nI mon), .ref msc, .ref msb, .ref msu, .ref mwy, .ref mre, .ref mby, .ref msm, .ref mle, .ref mgr])), (mf, aI cA 40 (fun j => nI (Fr j))), (mt, aI cA 40 (fun j => nI (To j))), (mle, aI cA 40 (fun j => iZ (Le j))), (mgr, aI cA 16 (fun j => nI (Gr j))), (mr, aI cA 2000 (fun j => iZ (Rw j)))] sz) [(mo, .inr (6, [.int (nI mth), .int (zB dir), .int (nI nv), .int (nI me), .ref mf, .ref mt, .ref mw, .ref mr, .int (nI ((mWalk dir Fr To me Le Gr Rw start).2.2.2)), .ref mp, .int (nI mst), .int (zB mhr), .ref mx, .ref mfa, .ref mbi, .ref mod1, .int (nI mon), .ref msc, .ref msb, .ref msu, .ref mwy, .ref mre, .ref mby, .ref msm, .ref mle, .ref mgr])), (mf, aI cA 40 (fun j => nI (Fr j))), (mt, aI cA 40 (fun j => nI (To j))), (mle, aI cA 40 (fun j => iZ (((mWalk dir Fr To me Le Gr Rw start).1) j))), (mgr, aI cA 16 (fun j => nI (((mWalk dir Fr To me Le Gr Rw start).2.1) j))), (mr, aI cA 2000 (fun j => iZ (((mWalk dir Fr To me Le Gr Rw start).2.2.1) j)))]) 0 0 (va_A [(mo, .inr (6, [.int (nI mth), .int (zB dir), .int (nI nv), .int (nI me), .ref mf, .ref mt, .ref mw, .ref mr, .int (nI mrn), .ref mp, .int (nI mst), .int (zB mhr), .ref mx, .ref mfa, .ref mbi, .ref mod1, .int (nI mon), .ref msc, .ref msb, .ref msu, .ref mwy, .ref mre, .ref mby, .ref msm, .ref mle, .ref mgr])), (mf, aI cA 40 (fun j => nI (Fr j))), (mt, aI cA 40 (fun j => nI (To j))), (mle, aI cA 40 (fun j => iZ (Le j))), (mgr, aI cA 16 (fun j => nI (Gr j))), (mr, aI cA 2000 (fun j => iZ (Rw j)))] sz) := by
  refine z_write (cc := cX6_walk) (maxL := 7) (ret := none) (by decide) rfl (Nat.le_of_ble_eq_true rfl) ?_
  intro p e s m below meth c hx hb hr hml hown hts hlocks A hAe hA H locs hP hK hD hS hini Q hQ ls hl
  have hown : s.vm.findClass RX6 = some m.cls := hown
  have hl : lv_has ls 7 [(0, .ref mo), (1, .int (nI start))] := hl
  generalize hav : ([.ref mo, .int (nI start)] : List Value).toArray = args at hts hQ ⊢
  have hin6 : ∀ w ∈ wsX60, w ∈ wsX6_walk := by decide +kernel
  refine lv_aload_n hx hb dX6_walk_0 rfl (lv_at hl 0 rfl) ?_
  refine lv_iconst (v := nI 0) hx hb dX6_walk_1 (by decide) ?_
  refine va_put (D := D) (ci := 6) (v := .int (nI 0)) (ty := .int) (C := RX6) (T := TX6) (N := 26) hx hb hts hin6 tyX6 tyX6_ok nmX6 hown hK hP hD hS 0 rfl rfl 8 (by decide) (hts (.fieldLink RX6 74 "TourHouseModel" "rows" "I") (by decide +kernel)) (fun _ h9 => h9) rfl (by decide +kernel) (rfl) (rfl) (Nat.le_of_ble_eq_true rfl) dX6_walk_2 (fun H locs hP hD hS => ?_)
  have hP : va_P D vwCl [(mo, .inr (6, [.int (nI mth), .int (zB dir), .int (nI nv), .int (nI me), .ref mf, .ref mt, .ref mw, .ref mr, .int (nI 0), .ref mp, .int (nI mst), .int (zB mhr), .ref mx, .ref mfa, .ref mbi, .ref mod1, .int (nI mon), .ref msc, .ref msb, .ref msu, .ref mwy, .ref mre, .ref mby, .ref msm, .ref mle, .ref mgr])), (mf, aI cA 40 (fun j => nI (Fr j))), (mt, aI cA 40 (fun j => nI (To j))), (mle, aI cA 40 (fun j => iZ (Le j))), (mgr, aI cA 16 (fun j => nI (Gr j))), (mr, aI cA 2000 (fun j => iZ (Rw j)))] H := hP
  have hD : va_D A [(mo, .inr (6, [.int (nI mth), .int (zB dir), .int (nI nv), .int (nI me), .ref mf, .ref mt, .ref mw, .ref mr, .int (nI 0), .ref mp, .int (nI mst), .int (zB mhr), .ref mx, .ref mfa, .ref mbi, .ref mod1, .int (nI mon), .ref msc, .ref msb, .ref msu, .ref mwy, .ref mre, .ref mby, .ref msm, .ref mle, .ref mgr])), (mf, aI cA 40 (fun j => nI (Fr j))), (mt, aI cA 40 (fun j => nI (To j))), (mle, aI cA 40 (fun j => iZ (Le j))), (mgr, aI cA 16 (fun j => nI (Gr j))), (mr, aI cA 2000 (fun j => iZ (Rw j)))] := hD
  refine lv_iload_n hx hb dX6_walk_5 rfl (lv_at hl 1 rfl) ?_
  refine lv_istore_n (lv' := [(2, .int (nI start)), (0, .ref mo), (1, .int (nI start))]) hx hb dX6_walk_6 rfl hl (by decide) rfl (fun ls hl => ?_)
  refine lv_iconst (v := zB true) hx hb dX6_walk_7 (by decide) ?_
  refine lv_istore_n (lv' := [(3, .int (zB true)), (2, .int (nI start)), (0, .ref mo), (1, .int (nI start))]) hx hb dX6_walk_8 rfl hl (by decide) rfl (fun ls hl => ?_)
  have J9 : ∀ (n : Nat), ∀ (fn : Nat) (κ0 : KS) (v1 : Nat) (mr1 : Bool), (wInv me κ0) → (v1 < 16) → (mr1 = true → lS κ0.1 me < fn) → ((if mr1 = true then mW dir Fr To me fn κ0 v1 else κ0) = mWalk dir Fr To me Le Gr Rw start) → fn < n → ∀ (H : Heap) (locs : List Loc), va_P D vwCl [(mo, .inr (6, [.int (nI mth), .int (zB dir), .int (nI nv), .int (nI me), .ref mf, .ref mt, .ref mw, .ref mr, .int (nI κ0.2.2.2), .ref mp, .int (nI mst), .int (zB mhr), .ref mx, .ref mfa, .ref mbi, .ref mod1, .int (nI mon), .ref msc, .ref msb, .ref msu, .ref mwy, .ref mre, .ref mby, .ref msm, .ref mle, .ref mgr])), (mf, aI cA 40 (fun j => nI (Fr j))), (mt, aI cA 40 (fun j => nI (To j))), (mle, aI cA 40 (fun j => iZ (κ0.1 j))), (mgr, aI cA 16 (fun j => nI (κ0.2.1 j))), (mr, aI cA 2000 (fun j => iZ (κ0.2.2.1 j)))] H → va_D A [(mo, .inr (6, [.int (nI mth), .int (zB dir), .int (nI nv), .int (nI me), .ref mf, .ref mt, .ref mw, .ref mr, .int (nI κ0.2.2.2), .ref mp, .int (nI mst), .int (zB mhr), .ref mx, .ref mfa, .ref mbi, .ref mod1, .int (nI mon), .ref msc, .ref msb, .ref msu, .ref mwy, .ref mre, .ref mby, .ref msm, .ref mle, .ref mgr])), (mf, aI cA 40 (fun j => nI (Fr j))), (mt, aI cA 40 (fun j => nI (To j))), (mle, aI cA 40 (fun j => iZ (κ0.1 j))), (mgr, aI cA 16 (fun j => nI (κ0.2.1 j))), (mr, aI cA 2000 (fun j => iZ (κ0.2.2.1 j)))] → va_S A s.heap H locs → ∀ (ls : Array Slot), lv_has ls 7 [(0, .ref mo), (2, .int (nI v1)), (3, .int (zB mr1))] → W p l e ({ frames := 2, cells := 0, slots := 0, locals := 47 } : Room) s m args below meth c H locs 0 0 Q (F0 m 9 ls []) := by
    intro n9
    induction n9 with
    | zero => intro fn κ0 v1 mr1 hw0 hv1 hSm hq0 hn; exact absurd hn (Nat.not_lt_zero _)
    | succ n9 ih9 =>
      intro fn κ0 v1 mr1 hw0 hv1 hSm hq0 hn9 H locs hP hD hS ls hl
      refine lv_iload_n hx hb dX6_walk_9 rfl (lv_at hl 2 rfl) ?_
      refine z_ifeq hx hb (tgt := 162) dX6_walk_10 (by decide) (fun h10 => ?_) (fun h10 => ?_)
      · skip
        have hres : mWalk dir Fr To me Le Gr Rw start = κ0 := by rw [← hq0, if_neg (by rw [h10]; decide)]
        exact z_vretW hx hb hr hlocks hAe hQ (by rw [hres]; exact hP) hK (by rw [hres]; exact hD) hS dX6_walk_162
      · skip
        refine lv_iconst (v := iZ (-1)) hx hb dX6_walk_13 (by decide) ?_
        refine lv_istore (lv' := [(4, .int (iZ (-1))), (0, .ref mo), (2, .int (nI v1)), (3, .int (zB mr1))]) hx hb dX6_walk_14 hl (by decide) rfl (fun ls hl => ?_)
        refine lv_iconst (v := nI 0) hx hb dX6_walk_16 (by decide) ?_
        refine lv_istore (lv' := [(5, .int (nI 0)), (4, .int (iZ (-1))), (0, .ref mo), (2, .int (nI v1)), (3, .int (zB mr1))]) hx hb dX6_walk_17 hl (by decide) rfl (fun ls hl => ?_)
        have J19 : ∀ (n : Nat), ∀ (i : Nat) (κ : KS) (nx : Int), (i ≤ 2 * me) → (wInv me κ) → (nx = -1 ∨ (0 ≤ nx ∧ nx < 16)) → (0 ≤ nx → lS κ.1 me < lS κ0.1 me) → (nx < 0 → lS κ.1 me = lS κ0.1 me) → ((if nx < 0 then mW1 dir Fr To me v1 (2 * me - i) κ else (κ, nx)) = mW1 dir Fr To me v1 (2 * me) κ0) → 2 * me - i < n → ∀ (H : Heap) (locs : List Loc), va_P D vwCl [(mo, .inr (6, [.int (nI mth), .int (zB dir), .int (nI nv), .int (nI me), .ref mf, .ref mt, .ref mw, .ref mr, .int (nI κ.2.2.2), .ref mp, .int (nI mst), .int (zB mhr), .ref mx, .ref mfa, .ref mbi, .ref mod1, .int (nI mon), .ref msc, .ref msb, .ref msu, .ref mwy, .ref mre, .ref mby, .ref msm, .ref mle, .ref mgr])), (mf, aI cA 40 (fun j => nI (Fr j))), (mt, aI cA 40 (fun j => nI (To j))), (mle, aI cA 40 (fun j => iZ (κ.1 j))), (mgr, aI cA 16 (fun j => nI (κ.2.1 j))), (mr, aI cA 2000 (fun j => iZ (κ.2.2.1 j)))] H → va_D A [(mo, .inr (6, [.int (nI mth), .int (zB dir), .int (nI nv), .int (nI me), .ref mf, .ref mt, .ref mw, .ref mr, .int (nI κ.2.2.2), .ref mp, .int (nI mst), .int (zB mhr), .ref mx, .ref mfa, .ref mbi, .ref mod1, .int (nI mon), .ref msc, .ref msb, .ref msu, .ref mwy, .ref mre, .ref mby, .ref msm, .ref mle, .ref mgr])), (mf, aI cA 40 (fun j => nI (Fr j))), (mt, aI cA 40 (fun j => nI (To j))), (mle, aI cA 40 (fun j => iZ (κ.1 j))), (mgr, aI cA 16 (fun j => nI (κ.2.1 j))), (mr, aI cA 2000 (fun j => iZ (κ.2.2.1 j)))] → va_S A s.heap H locs → ∀ (ls : Array Slot), lv_has ls 7 [(0, .ref mo), (2, .int (nI v1)), (3, .int (zB mr1)), (4, .int (iZ nx)), (5, .int (nI i))] → W p l e ({ frames := 2, cells := 0, slots := 0, locals := 47 } : Room) s m args below meth c H locs 0 0 Q (F0 m 19 ls []) := by
          intro n19
          induction n19 with
          | zero => intro i κ nx hi hw hnx hdec hsame hq hn; exact absurd hn (Nat.not_lt_zero _)
          | succ n19 ih19 =>
            intro i κ nx hi hw hnx hdec hsame hq hn19 H locs hP hD hS ls hl
            refine lv_iload hx hb dX6_walk_19 (lv_at hl 4 rfl) ?_
            refine lv_iconst (v := nI 2) hx hb dX6_walk_21 (by decide) ?_
            refine lv_aload_n hx hb dX6_walk_22 rfl (lv_at hl 0 rfl) ?_
            refine va_get (D := D) (ci := 6) (v := .int (nI me)) (C := RX6) (T := TX6) (N := 26) hx hb hts hin6 hown hK hP 0 rfl rfl 3 (by decide) (hts (.fieldLink RX6 85 "TourHouseModel" "m" "I") (by decide +kernel)) (fun _ h9 => h9) rfl dX6_walk_23 ?_
            refine lv_imul hx hb dX6_walk_26 ?_
            refine z_topi (v := nI (2 * me)) (pk_mul 2 me) ?_
            refine z_ge hx hb (by omega) (by omega) (tgt := 137) dX6_walk_27 (by decide) (fun h27 => ?_) (fun h27 => ?_)
            · skip
              have hfin : (κ, nx) = mW1 dir Fr To me v1 (2 * me) κ0 := by rw [← hq]; by_cases q : nx < 0; (· rw [if_pos q, show 2 * me - i = 0 from by omega, mW1, show nx = -1 from by omega]); (· rw [if_neg q])
              refine lv_iload hx hb dX6_walk_137 (lv_at hl 3 rfl) ?_
              refine z_ilt hx hb (x := nx) (⟨by omega, by omega⟩) (tgt := 146) dX6_walk_139 (by decide) (fun h139 => ?_) (fun h139 => ?_)
              · skip
                refine lv_iconst (v := zB false) hx hb dX6_walk_146 (by decide) ?_
                refine lv_istore_n (lv' := [(3, .int (zB false)), (0, .ref mo), (2, .int (nI v1)), (4, .int (iZ nx)), (5, .int (nI i))]) hx hb dX6_walk_147 rfl hl (by decide) rfl (fun ls hl => ?_)
                refine lv_iload_n hx hb dX6_walk_148 rfl (lv_at hl 0 rfl) ?_
                refine z_ifeq hx hb (tgt := 157) dX6_walk_149 (by decide) (fun h149 => ?_) (fun h149 => ?_)
                · skip
                  refine lv_iload_n hx hb dX6_walk_157 rfl (lv_at hl 2 rfl) ?_
                  refine lv_istore_n (lv' := [(2, .int (nI v1)), (3, .int (zB false)), (0, .ref mo), (4, .int (iZ nx)), (5, .int (nI i))]) hx hb dX6_walk_158 rfl hl (by decide) rfl (fun ls hl => ?_)
                  refine lv_goto (tgt := 9) hx hb dX6_walk_159 (by decide) ?_
                  exact ih9 (fn - 1) κ v1 false hw (by omega) (fun q => by first | (cases q; done) | (have := hSm h10; have := hdec (by omega); omega)) (by rw [← hq0, if_pos h10]; obtain ⟨q, hq2⟩ : ∃ q, fn = q + 1 := ⟨fn - 1, by have := hSm h10; omega⟩; rw [hq2, mW, ← hfin]; show _ = (if nx < 0 then κ else mW dir Fr To me q κ nx.toNat); first | (rw [if_pos (show nx < 0 by omega)]; rfl) | (rw [if_neg (show ¬ nx < 0 by omega)]; rfl)) (by have := hSm h10; omega) _ _ (hP) (hD) hS ls (lv_sub hl [2, 0, 1] (by rfl))
                · cases h149
              · skip
                refine lv_iconst (v := zB true) hx hb dX6_walk_142 (by decide) ?_
                refine lv_goto (tgt := 147) hx hb dX6_walk_143 (by decide) ?_
                refine lv_istore_n (lv' := [(3, .int (zB true)), (0, .ref mo), (2, .int (nI v1)), (4, .int (iZ nx)), (5, .int (nI i))]) hx hb dX6_walk_147 rfl hl (by decide) rfl (fun ls hl => ?_)
                refine lv_iload_n hx hb dX6_walk_148 rfl (lv_at hl 0 rfl) ?_
                refine z_ifeq hx hb (tgt := 157) dX6_walk_149 (by decide) (fun h149 => ?_) (fun h149 => ?_)
                · cases h149
                · skip
                  refine lv_iload hx hb dX6_walk_152 (lv_at hl 3 rfl) ?_
                  refine z_topi (v := nI nx.toNat) (iZ_toNat (by omega)) ?_
                  refine lv_goto (tgt := 158) hx hb dX6_walk_154 (by decide) ?_
                  refine lv_istore_n (lv' := [(2, .int (nI nx.toNat)), (3, .int (zB true)), (0, .ref mo), (4, .int (iZ nx)), (5, .int (nI i))]) hx hb dX6_walk_158 rfl hl (by decide) rfl (fun ls hl => ?_)
                  refine lv_goto (tgt := 9) hx hb dX6_walk_159 (by decide) ?_
                  exact ih9 (fn - 1) κ nx.toNat true hw (by omega) (fun q => by first | (cases q; done) | (have := hSm h10; have := hdec (by omega); omega)) (by rw [← hq0, if_pos h10]; obtain ⟨q, hq2⟩ : ∃ q, fn = q + 1 := ⟨fn - 1, by have := hSm h10; omega⟩; rw [hq2, mW, ← hfin]; show _ = (if nx < 0 then κ else mW dir Fr To me q κ nx.toNat); first | (rw [if_pos (show nx < 0 by omega)]; rfl) | (rw [if_neg (show ¬ nx < 0 by omega)]; rfl)) (by have := hSm h10; omega) _ _ (hP) (hD) hS ls (lv_sub hl [2, 0, 1] (by rfl))
            · skip
              refine lv_iload hx hb dX6_walk_30 (lv_at hl 3 rfl) ?_
              refine z_ige hx hb (x := nx) (⟨by omega, by omega⟩) (tgt := 137) dX6_walk_32 (by decide) (fun h32 => ?_) (fun h32 => ?_)
              · skip
                have hfin : (κ, nx) = mW1 dir Fr To me v1 (2 * me) κ0 := by rw [← hq]; by_cases q : nx < 0; (· rw [if_pos q, show 2 * me - i = 0 from by omega, mW1, show nx = -1 from by omega]); (· rw [if_neg q])
                refine lv_iload hx hb dX6_walk_137 (lv_at hl 3 rfl) ?_
                refine z_ilt hx hb (x := nx) (⟨by omega, by omega⟩) (tgt := 146) dX6_walk_139 (by decide) (fun h139 => ?_) (fun h139 => ?_)
                · skip
                  refine lv_iconst (v := zB false) hx hb dX6_walk_146 (by decide) ?_
                  refine lv_istore_n (lv' := [(3, .int (zB false)), (0, .ref mo), (2, .int (nI v1)), (4, .int (iZ nx)), (5, .int (nI i))]) hx hb dX6_walk_147 rfl hl (by decide) rfl (fun ls hl => ?_)
                  refine lv_iload_n hx hb dX6_walk_148 rfl (lv_at hl 0 rfl) ?_
                  refine z_ifeq hx hb (tgt := 157) dX6_walk_149 (by decide) (fun h149 => ?_) (fun h149 => ?_)
                  · skip
                    refine lv_iload_n hx hb dX6_walk_157 rfl (lv_at hl 2 rfl) ?_
                    refine lv_istore_n (lv' := [(2, .int (nI v1)), (3, .int (zB false)), (0, .ref mo), (4, .int (iZ nx)), (5, .int (nI i))]) hx hb dX6_walk_158 rfl hl (by decide) rfl (fun ls hl => ?_)
                    refine lv_goto (tgt := 9) hx hb dX6_walk_159 (by decide) ?_
                    exact ih9 (fn - 1) κ v1 false hw (by omega) (fun q => by first | (cases q; done) | (have := hSm h10; have := hdec (by omega); omega)) (by rw [← hq0, if_pos h10]; obtain ⟨q, hq2⟩ : ∃ q, fn = q + 1 := ⟨fn - 1, by have := hSm h10; omega⟩; rw [hq2, mW, ← hfin]; show _ = (if nx < 0 then κ else mW dir Fr To me q κ nx.toNat); first | (rw [if_pos (show nx < 0 by omega)]; rfl) | (rw [if_neg (show ¬ nx < 0 by omega)]; rfl)) (by have := hSm h10; omega) _ _ (hP) (hD) hS ls (lv_sub hl [2, 0, 1] (by rfl))
                  · cases h149
                · skip
                  refine lv_iconst (v := zB true) hx hb dX6_walk_142 (by decide) ?_
                  refine lv_goto (tgt := 147) hx hb dX6_walk_143 (by decide) ?_
                  refine lv_istore_n (lv' := [(3, .int (zB true)), (0, .ref mo), (2, .int (nI v1)), (4, .int (iZ nx)), (5, .int (nI i))]) hx hb dX6_walk_147 rfl hl (by decide) rfl (fun ls hl => ?_)
                  refine lv_iload_n hx hb dX6_walk_148 rfl (lv_at hl 0 rfl) ?_
                  refine z_ifeq hx hb (tgt := 157) dX6_walk_149 (by decide) (fun h149 => ?_) (fun h149 => ?_)
                  · cases h149
                  · skip
                    refine lv_iload hx hb dX6_walk_152 (lv_at hl 3 rfl) ?_
                    refine z_topi (v := nI nx.toNat) (iZ_toNat (by omega)) ?_
                    refine lv_goto (tgt := 158) hx hb dX6_walk_154 (by decide) ?_
                    refine lv_istore_n (lv' := [(2, .int (nI nx.toNat)), (3, .int (zB true)), (0, .ref mo), (4, .int (iZ nx)), (5, .int (nI i))]) hx hb dX6_walk_158 rfl hl (by decide) rfl (fun ls hl => ?_)
                    refine lv_goto (tgt := 9) hx hb dX6_walk_159 (by decide) ?_
                    exact ih9 (fn - 1) κ nx.toNat true hw (by omega) (fun q => by first | (cases q; done) | (have := hSm h10; have := hdec (by omega); omega)) (by rw [← hq0, if_pos h10]; obtain ⟨q, hq2⟩ : ∃ q, fn = q + 1 := ⟨fn - 1, by have := hSm h10; omega⟩; rw [hq2, mW, ← hfin]; show _ = (if nx < 0 then κ else mW dir Fr To me q κ nx.toNat); first | (rw [if_pos (show nx < 0 by omega)]; rfl) | (rw [if_neg (show ¬ nx < 0 by omega)]; rfl)) (by have := hSm h10; omega) _ _ (hP) (hD) hS ls (lv_sub hl [2, 0, 1] (by rfl))
              · skip
                have J58 : ∀ (H : Heap) (locs : List Loc), va_P D vwCl [(mo, .inr (6, [.int (nI mth), .int (zB dir), .int (nI nv), .int (nI me), .ref mf, .ref mt, .ref mw, .ref mr, .int (nI κ.2.2.2), .ref mp, .int (nI mst), .int (zB mhr), .ref mx, .ref mfa, .ref mbi, .ref mod1, .int (nI mon), .ref msc, .ref msb, .ref msu, .ref mwy, .ref mre, .ref mby, .ref msm, .ref mle, .ref mgr])), (mf, aI cA 40 (fun j => nI (Fr j))), (mt, aI cA 40 (fun j => nI (To j))), (mle, aI cA 40 (fun j => iZ (κ.1 j))), (mgr, aI cA 16 (fun j => nI (κ.2.1 j))), (mr, aI cA 2000 (fun j => iZ (κ.2.2.1 j)))] H → va_D A [(mo, .inr (6, [.int (nI mth), .int (zB dir), .int (nI nv), .int (nI me), .ref mf, .ref mt, .ref mw, .ref mr, .int (nI κ.2.2.2), .ref mp, .int (nI mst), .int (zB mhr), .ref mx, .ref mfa, .ref mbi, .ref mod1, .int (nI mon), .ref msc, .ref msb, .ref msu, .ref mwy, .ref mre, .ref mby, .ref msm, .ref mle, .ref mgr])), (mf, aI cA 40 (fun j => nI (Fr j))), (mt, aI cA 40 (fun j => nI (To j))), (mle, aI cA 40 (fun j => iZ (κ.1 j))), (mgr, aI cA 16 (fun j => nI (κ.2.1 j))), (mr, aI cA 2000 (fun j => iZ (κ.2.2.1 j)))] → va_S A s.heap H locs → ∀ (ls : Array Slot), lv_has ls 7 [(0, .ref mo), (2, .int (nI v1)), (3, .int (zB mr1)), (4, .int (iZ nx)), (5, .int (nI i))] → W p l e ({ frames := 2, cells := 0, slots := 0, locals := 47 } : Room) s m args below meth c H locs 0 0 Q (F0 m 58 ls [.int (iZ (mU dir Fr To me v1 κ.1 i))]) := by
                  intro   H locs hP hD hS ls hl
                  refine lv_istore (lv' := [(6, .int (iZ (mU dir Fr To me v1 κ.1 i))), (0, .ref mo), (2, .int (nI v1)), (3, .int (zB mr1)), (4, .int (iZ nx)), (5, .int (nI i))]) hx hb dX6_walk_58 hl (by decide) rfl (fun ls hl => ?_)
                  refine lv_iload hx hb dX6_walk_60 (lv_at hl 0 rfl) ?_
                  refine z_ige hx hb (x := mU dir Fr To me v1 κ.1 i) (⟨by have := mU_rng (dir := dir) (me := me) (v := v1) (Le := κ.1) (i := i) hF hT; omega, by have := mU_rng (dir := dir) (me := me) (v := v1) (Le := κ.1) (i := i) hF hT; omega⟩) (tgt := 68) dX6_walk_62 (by decide) (fun h62 => ?_) (fun h62 => ?_)
                  · skip
                    refine lv_aload_n hx hb dX6_walk_68 rfl (lv_at hl 1 rfl) ?_
                    refine va_get (D := D) (ci := 6) (v := .ref mle) (C := RX6) (T := TX6) (N := 26) hx hb hts hin6 hown hK hP 0 rfl rfl 24 (by decide) (hts (.fieldLink RX6 65 "TourHouseModel" "left" "[I") (by decide +kernel)) (fun _ h9 => h9) rfl dX6_walk_69 ?_
                    refine lv_iload hx hb dX6_walk_72 (lv_at hl 5 rfl) ?_
                    refine lv_iconst (v := nI 2) hx hb dX6_walk_74 (by decide) ?_
                    refine lv_idiv hx hb dX6_walk_75 (by decide) ?_
                    refine z_topi (v := nI (i / 2)) (pk_div (by omega) (by decide) (by decide)) ?_
                    refine lv_dup2_11 hx hb dX6_walk_76 rfl rfl ?_
                    refine z_iald hx hb hK hP 3 0 rfl rfl (k := (i / 2)) (by omega) (by decide) (v := iZ (κ.1 (i / 2))) rfl dX6_walk_77 ?_
                    refine lv_iconst (v := nI 1) hx hb dX6_walk_78 (by decide) ?_
                    refine lv_isub hx hb dX6_walk_79 ?_
                    refine z_topi (v := iZ ((κ.1 (i / 2)) - 1)) (iZ_sub (κ.1 (i / 2)) 1) ?_
                    refine z_iast hx hb hK hP hD hS 3 0 rfl rfl (k := (i / 2)) (by omega) (by decide) (f' := (fun j => iZ ((va_up κ.1 (i / 2) ((κ.1 (i / 2)) - 1)) j))) (upd_iZ κ.1 (i / 2) ((κ.1 (i / 2)) - 1)) (ws' := [(mo, .inr (6, [.int (nI mth), .int (zB dir), .int (nI nv), .int (nI me), .ref mf, .ref mt, .ref mw, .ref mr, .int (nI κ.2.2.2), .ref mp, .int (nI mst), .int (zB mhr), .ref mx, .ref mfa, .ref mbi, .ref mod1, .int (nI mon), .ref msc, .ref msb, .ref msu, .ref mwy, .ref mre, .ref mby, .ref msm, .ref mle, .ref mgr])), (mf, aI cA 40 (fun j => nI (Fr j))), (mt, aI cA 40 (fun j => nI (To j))), (mle, aI cA 40 (fun j => iZ ((va_up κ.1 (i / 2) ((κ.1 (i / 2)) - 1)) j))), (mgr, aI cA 16 (fun j => nI (κ.2.1 j))), (mr, aI cA 2000 (fun j => iZ (κ.2.2.1 j)))]) rfl dX6_walk_80 (fun H locs hP hD hS => ?_)
                    refine lv_aload_n hx hb dX6_walk_81 rfl (lv_at hl 1 rfl) ?_
                    refine lv_iload hx hb dX6_walk_82 (lv_at hl 0 rfl) ?_
                    refine z_topi (v := nI ((mU dir Fr To me v1 κ.1 i).toNat)) (iZ_toNat (by omega)) ?_
                    refine z_cWVi (wc := [(mo, .inr (6, [.int (nI mth), .int (zB dir), .int (nI nv), .int (nI me), .ref mf, .ref mt, .ref mw, .ref mr, .int (nI κ.2.2.2), .ref mp, .int (nI mst), .int (zB mhr), .ref mx, .ref mfa, .ref mbi, .ref mod1, .int (nI mon), .ref msc, .ref msb, .ref msu, .ref mwy, .ref mre, .ref mby, .ref msm, .ref mle, .ref mgr])), (mf, aI cA 40 (fun j => nI (Fr j))), (mt, aI cA 40 (fun j => nI (To j))), (mle, aI cA 40 (fun j => iZ ((va_up κ.1 (i / 2) (κ.1 (i / 2) - 1)) j))), (mgr, aI cA 16 (fun j => nI (κ.2.1 j)))]) (rm := ({ frames := 1, cells := 0, slots := 0, locals := 24 } : Room)) (As := [.int (nI ((mU dir Fr To me v1 κ.1 i).toNat))]) (rest := []) (wr := [(mr, aI cA 2000 (fun j => iZ (κ.2.2.1 j)))]) (w1 := [(mo, .inr (6, [.int (nI mth), .int (zB dir), .int (nI nv), .int (nI me), .ref mf, .ref mt, .ref mw, .ref mr, .int (nI κ.2.2.2), .ref mp, .int (nI mst), .int (zB mhr), .ref mx, .ref mfa, .ref mbi, .ref mod1, .int (nI mon), .ref msc, .ref msb, .ref msu, .ref mwy, .ref mre, .ref mby, .ref msm, .ref mle, .ref mgr])), (mf, aI cA 40 (fun j => nI (Fr j))), (mt, aI cA 40 (fun j => nI (To j))), (mle, aI cA 40 (fun j => iZ ((va_up κ.1 (i / 2) (κ.1 (i / 2) - 1)) j))), (mgr, aI cA 16 (fun j => nI ((mGroups Fr To (va_up κ.1 (i / 2) (κ.1 (i / 2) - 1)) me κ.2.1) j)))]) (ws' := [(mo, .inr (6, [.int (nI mth), .int (zB dir), .int (nI nv), .int (nI me), .ref mf, .ref mt, .ref mw, .ref mr, .int (nI κ.2.2.2), .ref mp, .int (nI mst), .int (zB mhr), .ref mx, .ref mfa, .ref mbi, .ref mod1, .int (nI mon), .ref msc, .ref msb, .ref msu, .ref mwy, .ref mre, .ref mby, .ref msm, .ref mle, .ref mgr])), (mf, aI cA 40 (fun j => nI (Fr j))), (mt, aI cA 40 (fun j => nI (To j))), (mle, aI cA 40 (fun j => iZ ((va_up κ.1 (i / 2) (κ.1 (i / 2) - 1)) j))), (mgr, aI cA 16 (fun j => nI ((mGroups Fr To (va_up κ.1 (i / 2) (κ.1 (i / 2) - 1)) me κ.2.1) j))), (mr, aI cA 2000 (fun j => iZ (κ.2.2.1 j)))]) ⟨hx, hb, hml, hown, hts⟩ (c_X6_hang l D cA H.size mo mf mt mw mr mp mx mfa mbi mod1 msc msb msu mwy mre mby msm mle mgr mth dir nv me κ.2.2.2 mst mhr mon Fr To (va_up κ.1 (i / 2) (κ.1 (i / 2) - 1)) κ.2.1 ((mU dir Fr To me v1 κ.1 i).toNat) (by first | assumption | omega) (by first | assumption | omega) (by first | assumption | omega) (fun j => by have := up_all (P := fun x => -1 ≤ x ∧ x ≤ 10000) (k := i / 2) (x := κ.1 (i / 2) - 1) (fun j => (by have := hw.1 j; omega : -1 ≤ κ.1 j ∧ κ.1 j ≤ 10000)) (by have := hw.1 (i / 2); omega) j; omega) (hw.2.1) (by have := mU_rng (dir := dir) (me := me) (v := v1) (Le := κ.1) (i := i) hF hT; omega)) (cwV 1 hts gX6_walk_X6_hang rfl rfl rfl (by decide +kernel) ⟨Nat.le_of_ble_eq_true rfl, Nat.le_of_ble_eq_true rfl⟩) hP hK hD hS hA [0, 1, 2, 3, 4] [5] [1, 2, 3, 4, 5, 0] rfl rfl rfl rfl rfl (by decide) rfl rfl rfl 6 0 rfl rfl rfl hl.1 rfl (Nat.le_of_ble_eq_true rfl) ⟨Nat.zero_le _, Nat.zero_le _⟩ dX6_walk_84 (fun H locs hP hD hS => ?_)
                    refine z_ifeq hx hb (tgt := 118) dX6_walk_87 (by decide) (fun h87 => ?_) (fun h87 => ?_)
                    · skip
                      have hwg : wInv me (κ.1, mGroups Fr To (va_up κ.1 (i / 2) (κ.1 (i / 2) - 1)) me κ.2.1, κ.2.2.1, κ.2.2.2) := ⟨hw.1, mGroups_b hF hT hw.2.1, hw.2.2⟩
                      have hqn : (if nx < 0 then mW1 dir Fr To me v1 (2 * me - (i + 1)) (κ.1, mGroups Fr To (va_up κ.1 (i / 2) (κ.1 (i / 2) - 1)) me κ.2.1, κ.2.2.1, κ.2.2.2) else ((κ.1, mGroups Fr To (va_up κ.1 (i / 2) (κ.1 (i / 2) - 1)) me κ.2.1, κ.2.2.1, κ.2.2.2), nx)) = (if nx < 0 then mW1 dir Fr To me v1 (2 * me - i) κ else (κ, nx)) := by rw [if_pos (by omega), if_pos (by omega), show 2 * me - i = (2 * me - (i + 1)) + 1 from by omega, mW1, show 2 * me - (2 * me - (i + 1) + 1) = i from by omega, if_neg (by omega), if_neg (by rw [h87]; decide)]
                      refine lv_aload_n hx hb dX6_walk_118 rfl (lv_at hl 1 rfl) ?_
                      refine va_get (D := D) (ci := 6) (v := .ref mle) (C := RX6) (T := TX6) (N := 26) hx hb hts hin6 hown hK hP 0 rfl rfl 24 (by decide) (hts (.fieldLink RX6 65 "TourHouseModel" "left" "[I") (by decide +kernel)) (fun _ h9 => h9) rfl dX6_walk_119 ?_
                      refine lv_iload hx hb dX6_walk_122 (lv_at hl 5 rfl) ?_
                      refine lv_iconst (v := nI 2) hx hb dX6_walk_124 (by decide) ?_
                      refine lv_idiv hx hb dX6_walk_125 (by decide) ?_
                      refine z_topi (v := nI (i / 2)) (pk_div (by omega) (by decide) (by decide)) ?_
                      refine lv_dup2_11 hx hb dX6_walk_126 rfl rfl ?_
                      refine z_iald hx hb hK hP 3 0 rfl rfl (k := (i / 2)) (by omega) (by decide) (v := iZ ((va_up κ.1 (i / 2) (κ.1 (i / 2) - 1)) (i / 2))) rfl dX6_walk_127 ?_
                      refine lv_iconst (v := nI 1) hx hb dX6_walk_128 (by decide) ?_
                      refine lv_iadd hx hb dX6_walk_129 ?_
                      refine z_topi (v := iZ (((va_up κ.1 (i / 2) (κ.1 (i / 2) - 1)) (i / 2)) + 1)) (iZ_add ((va_up κ.1 (i / 2) (κ.1 (i / 2) - 1)) (i / 2)) 1) ?_
                      refine z_iast hx hb hK hP hD hS 3 0 rfl rfl (k := (i / 2)) (by omega) (by decide) (f' := (fun j => iZ (κ.1 j))) ((upd_iZ (va_up κ.1 (i / 2) (κ.1 (i / 2) - 1)) (i / 2) (((va_up κ.1 (i / 2) (κ.1 (i / 2) - 1)) (i / 2)) + 1)).trans (upd_back.symm)) (ws' := [(mo, .inr (6, [.int (nI mth), .int (zB dir), .int (nI nv), .int (nI me), .ref mf, .ref mt, .ref mw, .ref mr, .int (nI κ.2.2.2), .ref mp, .int (nI mst), .int (zB mhr), .ref mx, .ref mfa, .ref mbi, .ref mod1, .int (nI mon), .ref msc, .ref msb, .ref msu, .ref mwy, .ref mre, .ref mby, .ref msm, .ref mle, .ref mgr])), (mf, aI cA 40 (fun j => nI (Fr j))), (mt, aI cA 40 (fun j => nI (To j))), (mle, aI cA 40 (fun j => iZ (κ.1 j))), (mgr, aI cA 16 (fun j => nI ((mGroups Fr To (va_up κ.1 (i / 2) (κ.1 (i / 2) - 1)) me κ.2.1) j))), (mr, aI cA 2000 (fun j => iZ (κ.2.2.1 j)))]) rfl dX6_walk_130 (fun H locs hP hD hS => ?_)
                      refine lv_iinc (v := nI (i + 1)) (lv' := [(5, .int (nI (i + 1))), (6, .int (iZ (mU dir Fr To me v1 κ.1 i))), (0, .ref mo), (2, .int (nI v1)), (3, .int (zB mr1)), (4, .int (iZ nx))]) hx hb dX6_walk_131 hl (k := 5) rfl (nI_1 i) (by decide) rfl (fun ls hl => ?_)
                      refine lv_goto (tgt := 19) hx hb dX6_walk_134 (by decide) ?_
                      exact ih19 (i + 1) (κ.1, mGroups Fr To (va_up κ.1 (i / 2) (κ.1 (i / 2) - 1)) me κ.2.1, κ.2.2.1, κ.2.2.2) nx (by omega) (by first | exact hw | exact hwn | exact hwg) (by have := mU_rng (dir := dir) (me := me) (v := v1) (Le := κ.1) (i := i) hF hT; omega) (fun q => by first | exact hdecn | exact absurd q (by omega)) (fun q => by first | exact hsame q | exact absurd q (by omega)) (by rw [← hq]; first | exact hqn | exact hqy | exact hqs) (by omega) _ _ (hP) (hD) hS ls (lv_sub hl [2, 3, 4, 5, 0] (by rfl))
                    · skip
                      have hwn : wInv me (va_up κ.1 (i / 2) (κ.1 (i / 2) - 1), mGroups Fr To (va_up κ.1 (i / 2) (κ.1 (i / 2) - 1)) me κ.2.1, va_up κ.2.2.1 κ.2.2.2 ((i : Nat) : Int), κ.2.2.2 + 1) := wInv_step hF hT hw (mU_pos (by omega)) (by omega)
                      have hdecn : lS (va_up κ.1 (i / 2) (κ.1 (i / 2) - 1)) me < lS κ0.1 me := by have := lS_dec (Le := κ.1) (me := me) (e := i / 2) (by omega) (mU_pos (by omega)); have := hsame (by omega); omega
                      have hqy : (if (mU dir Fr To me v1 κ.1 i) < 0 then mW1 dir Fr To me v1 (2 * me - (i + 1)) (va_up κ.1 (i / 2) (κ.1 (i / 2) - 1), mGroups Fr To (va_up κ.1 (i / 2) (κ.1 (i / 2) - 1)) me κ.2.1, va_up κ.2.2.1 κ.2.2.2 ((i : Nat) : Int), κ.2.2.2 + 1) else ((va_up κ.1 (i / 2) (κ.1 (i / 2) - 1), mGroups Fr To (va_up κ.1 (i / 2) (κ.1 (i / 2) - 1)) me κ.2.1, va_up κ.2.2.1 κ.2.2.2 ((i : Nat) : Int), κ.2.2.2 + 1), mU dir Fr To me v1 κ.1 i)) = (if nx < 0 then mW1 dir Fr To me v1 (2 * me - i) κ else (κ, nx)) := by rw [if_neg (by omega), if_pos (by omega), show 2 * me - i = (2 * me - (i + 1)) + 1 from by omega, mW1, show 2 * me - (2 * me - (i + 1) + 1) = i from by omega, if_neg (by omega), if_pos h87]
                      refine lv_iload hx hb dX6_walk_90 (lv_at hl 0 rfl) ?_
                      refine lv_istore (lv' := [(4, .int (iZ (mU dir Fr To me v1 κ.1 i))), (6, .int (iZ (mU dir Fr To me v1 κ.1 i))), (0, .ref mo), (2, .int (nI v1)), (3, .int (zB mr1)), (5, .int (nI i))]) hx hb dX6_walk_92 hl (by decide) rfl (fun ls hl => ?_)
                      refine lv_aload_n hx hb dX6_walk_94 rfl (lv_at hl 2 rfl) ?_
                      refine va_get (D := D) (ci := 6) (v := .ref mr) (C := RX6) (T := TX6) (N := 26) hx hb hts hin6 hown hK hP 0 rfl rfl 7 (by decide) (hts (.fieldLink RX6 23 "TourHouseModel" "row" "[I") (by decide +kernel)) (fun _ h9 => h9) rfl dX6_walk_95 ?_
                      refine lv_aload_n hx hb dX6_walk_98 rfl (lv_at hl 2 rfl) ?_
                      refine va_get (D := D) (ci := 6) (v := .int (nI κ.2.2.2)) (C := RX6) (T := TX6) (N := 26) hx hb hts hin6 hown hK hP 0 rfl rfl 8 (by decide) (hts (.fieldLink RX6 74 "TourHouseModel" "rows" "I") (by decide +kernel)) (fun _ h9 => h9) rfl dX6_walk_99 ?_
                      refine lv_iload hx hb dX6_walk_102 (lv_at hl 5 rfl) ?_
                      refine z_iast hx hb hK hP hD hS 5 0 rfl rfl (k := κ.2.2.2) (by have := wInv_rn hw (show 0 < κ.1 (i / 2) from mU_pos (by omega)) (by omega); omega) (by decide) (f' := (fun j => iZ ((va_up κ.2.2.1 κ.2.2.2 ((i : Nat) : Int)) j))) (upd_iZ κ.2.2.1 κ.2.2.2 ((i : Nat) : Int)) (ws' := [(mo, .inr (6, [.int (nI mth), .int (zB dir), .int (nI nv), .int (nI me), .ref mf, .ref mt, .ref mw, .ref mr, .int (nI κ.2.2.2), .ref mp, .int (nI mst), .int (zB mhr), .ref mx, .ref mfa, .ref mbi, .ref mod1, .int (nI mon), .ref msc, .ref msb, .ref msu, .ref mwy, .ref mre, .ref mby, .ref msm, .ref mle, .ref mgr])), (mf, aI cA 40 (fun j => nI (Fr j))), (mt, aI cA 40 (fun j => nI (To j))), (mle, aI cA 40 (fun j => iZ ((va_up κ.1 (i / 2) (κ.1 (i / 2) - 1)) j))), (mgr, aI cA 16 (fun j => nI ((mGroups Fr To (va_up κ.1 (i / 2) (κ.1 (i / 2) - 1)) me κ.2.1) j))), (mr, aI cA 2000 (fun j => iZ ((va_up κ.2.2.1 κ.2.2.2 ((i : Nat) : Int)) j)))]) rfl dX6_walk_104 (fun H locs hP hD hS => ?_)
                      refine lv_aload_n hx hb dX6_walk_105 rfl (lv_at hl 2 rfl) ?_
                      refine lv_dup hx hb dX6_walk_106 rfl ?_
                      refine va_get (D := D) (ci := 6) (v := .int (nI κ.2.2.2)) (C := RX6) (T := TX6) (N := 26) hx hb hts hin6 hown hK hP 0 rfl rfl 8 (by decide) (hts (.fieldLink RX6 74 "TourHouseModel" "rows" "I") (by decide +kernel)) (fun _ h9 => h9) rfl dX6_walk_107 ?_
                      refine lv_iconst (v := nI 1) hx hb dX6_walk_110 (by decide) ?_
                      refine lv_iadd hx hb dX6_walk_111 ?_
                      refine z_topi (v := nI (κ.2.2.2 + 1)) (nI_add κ.2.2.2 1) ?_
                      refine va_put (D := D) (ci := 6) (v := .int (nI (κ.2.2.2 + 1))) (ty := .int) (C := RX6) (T := TX6) (N := 26) hx hb hts hin6 tyX6 tyX6_ok nmX6 hown hK hP hD hS 0 rfl rfl 8 (by decide) (hts (.fieldLink RX6 74 "TourHouseModel" "rows" "I") (by decide +kernel)) (fun _ h9 => h9) rfl (by decide +kernel) (rfl) (rfl) (Nat.le_of_ble_eq_true rfl) dX6_walk_112 (fun H locs hP hD hS => ?_)
                      have hP : va_P D vwCl [(mo, .inr (6, [.int (nI mth), .int (zB dir), .int (nI nv), .int (nI me), .ref mf, .ref mt, .ref mw, .ref mr, .int (nI (κ.2.2.2 + 1)), .ref mp, .int (nI mst), .int (zB mhr), .ref mx, .ref mfa, .ref mbi, .ref mod1, .int (nI mon), .ref msc, .ref msb, .ref msu, .ref mwy, .ref mre, .ref mby, .ref msm, .ref mle, .ref mgr])), (mf, aI cA 40 (fun j => nI (Fr j))), (mt, aI cA 40 (fun j => nI (To j))), (mle, aI cA 40 (fun j => iZ ((va_up κ.1 (i / 2) (κ.1 (i / 2) - 1)) j))), (mgr, aI cA 16 (fun j => nI ((mGroups Fr To (va_up κ.1 (i / 2) (κ.1 (i / 2) - 1)) me κ.2.1) j))), (mr, aI cA 2000 (fun j => iZ ((va_up κ.2.2.1 κ.2.2.2 ((i : Nat) : Int)) j)))] H := hP
                      have hD : va_D A [(mo, .inr (6, [.int (nI mth), .int (zB dir), .int (nI nv), .int (nI me), .ref mf, .ref mt, .ref mw, .ref mr, .int (nI (κ.2.2.2 + 1)), .ref mp, .int (nI mst), .int (zB mhr), .ref mx, .ref mfa, .ref mbi, .ref mod1, .int (nI mon), .ref msc, .ref msb, .ref msu, .ref mwy, .ref mre, .ref mby, .ref msm, .ref mle, .ref mgr])), (mf, aI cA 40 (fun j => nI (Fr j))), (mt, aI cA 40 (fun j => nI (To j))), (mle, aI cA 40 (fun j => iZ ((va_up κ.1 (i / 2) (κ.1 (i / 2) - 1)) j))), (mgr, aI cA 16 (fun j => nI ((mGroups Fr To (va_up κ.1 (i / 2) (κ.1 (i / 2) - 1)) me κ.2.1) j))), (mr, aI cA 2000 (fun j => iZ ((va_up κ.2.2.1 κ.2.2.2 ((i : Nat) : Int)) j)))] := hD
                      refine lv_goto (tgt := 131) hx hb dX6_walk_115 (by decide) ?_
                      refine lv_iinc (v := nI (i + 1)) (lv' := [(5, .int (nI (i + 1))), (4, .int (iZ (mU dir Fr To me v1 κ.1 i))), (6, .int (iZ (mU dir Fr To me v1 κ.1 i))), (0, .ref mo), (2, .int (nI v1)), (3, .int (zB mr1))]) hx hb dX6_walk_131 hl (k := 5) rfl (nI_1 i) (by decide) rfl (fun ls hl => ?_)
                      refine lv_goto (tgt := 19) hx hb dX6_walk_134 (by decide) ?_
                      exact ih19 (i + 1) ((va_up κ.1 (i / 2) (κ.1 (i / 2) - 1)), mGroups Fr To (va_up κ.1 (i / 2) (κ.1 (i / 2) - 1)) me κ.2.1, va_up κ.2.2.1 κ.2.2.2 ((i : Nat) : Int), κ.2.2.2 + 1) (mU dir Fr To me v1 κ.1 i) (by omega) (by first | exact hw | exact hwn | exact hwg) (by have := mU_rng (dir := dir) (me := me) (v := v1) (Le := κ.1) (i := i) hF hT; omega) (fun q => by first | exact hdecn | exact absurd q (by omega)) (fun q => by first | exact hsame q | exact absurd q (by omega)) (by rw [← hq]; first | exact hqn | exact hqy | exact hqs) (by omega) _ _ (hP) (hD) hS ls (lv_sub hl [3, 4, 5, 1, 0] (by rfl))
                  · skip
                    have hqs : (if nx < 0 then mW1 dir Fr To me v1 (2 * me - (i + 1)) κ else (κ, nx)) = (if nx < 0 then mW1 dir Fr To me v1 (2 * me - i) κ else (κ, nx)) := by rw [if_pos (by omega), if_pos (by omega), show 2 * me - i = (2 * me - (i + 1)) + 1 from by omega, mW1, show 2 * me - (2 * me - (i + 1) + 1) = i from by omega, if_pos (by omega)]
                    refine lv_goto (tgt := 131) hx hb dX6_walk_65 (by decide) ?_
                    refine lv_iinc (v := nI (i + 1)) (lv' := [(5, .int (nI (i + 1))), (6, .int (iZ (mU dir Fr To me v1 κ.1 i))), (0, .ref mo), (2, .int (nI v1)), (3, .int (zB mr1)), (4, .int (iZ nx))]) hx hb dX6_walk_131 hl (k := 5) rfl (nI_1 i) (by decide) rfl (fun ls hl => ?_)
                    refine lv_goto (tgt := 19) hx hb dX6_walk_134 (by decide) ?_
                    exact ih19 (i + 1) κ nx (by omega) (by first | exact hw | exact hwn | exact hwg) (by have := mU_rng (dir := dir) (me := me) (v := v1) (Le := κ.1) (i := i) hF hT; omega) (fun q => by first | exact hdecn | exact absurd q (by omega)) (fun q => by first | exact hsame q | exact absurd q (by omega)) (by rw [← hq]; first | exact hqn | exact hqy | exact hqs) (by omega) _ _ (hP) (hD) hS ls (lv_sub hl [2, 3, 4, 5, 0] (by rfl))
                refine lv_aload_n hx hb dX6_walk_35 rfl (lv_at hl 0 rfl) ?_
                refine va_get (D := D) (ci := 6) (v := .ref mle) (C := RX6) (T := TX6) (N := 26) hx hb hts hin6 hown hK hP 0 rfl rfl 24 (by decide) (hts (.fieldLink RX6 65 "TourHouseModel" "left" "[I") (by decide +kernel)) (fun _ h9 => h9) rfl dX6_walk_36 ?_
                refine lv_iload hx hb dX6_walk_39 (lv_at hl 4 rfl) ?_
                refine lv_iconst (v := nI 2) hx hb dX6_walk_41 (by decide) ?_
                refine lv_idiv hx hb dX6_walk_42 (by decide) ?_
                refine z_topi (v := nI (i / 2)) (pk_div (by omega) (by decide) (by decide)) ?_
                refine z_iald hx hb hK hP 3 0 rfl rfl (k := (i / 2)) (by omega) (by decide) (v := iZ (κ.1 (i / 2))) rfl dX6_walk_43 ?_
                refine z_ile hx hb (x := κ.1 (i / 2)) (⟨by have := hw.1 (i / 2); omega, by have := hw.1 (i / 2); omega⟩) (tgt := 57) dX6_walk_44 (by decide) (fun h44 => ?_) (fun h44 => ?_)
                · skip
                  refine lv_iconst (v := iZ (-1)) hx hb dX6_walk_57 (by decide) ?_
                  refine z_topi (v := iZ (mU dir Fr To me v1 κ.1 i)) (by congr 1; simp only [mU]; first | (rw [if_pos h44]; done) | (rw [if_neg (by omega)]; done)) ?_
                  exact J58   _ _ (hP) (hD) hS ls (lv_sub hl [0, 1, 2, 3, 4] (by rfl))
                · skip
                  refine lv_aload_n hx hb dX6_walk_47 rfl (lv_at hl 0 rfl) ?_
                  refine lv_iload_n hx hb dX6_walk_48 rfl (lv_at hl 1 rfl) ?_
                  refine lv_iload hx hb dX6_walk_49 (lv_at hl 4 rfl) ?_
                  refine z_cRVi (wc := [(mo, .inr (6, [.int (nI mth), .int (zB dir), .int (nI nv), .int (nI me), .ref mf, .ref mt, .ref mw, .ref mr, .int (nI κ.2.2.2), .ref mp, .int (nI mst), .int (zB mhr), .ref mx, .ref mfa, .ref mbi, .ref mod1, .int (nI mon), .ref msc, .ref msb, .ref msu, .ref mwy, .ref mre, .ref mby, .ref msm, .ref mle, .ref mgr])), (mf, aI cA 40 (fun j => nI (Fr j))), (mt, aI cA 40 (fun j => nI (To j)))]) (rm := ({ frames := 0, cells := 0, slots := 0, locals := 0 } : Room)) (As := [.int (nI v1), .int (nI i)]) (rest := []) ⟨hx, hb, hml, hown, hts⟩ (c_X6_goes l D cA mo mf mt mw mr mp mx mfa mbi mod1 msc msb msu mwy mre mby msm mle mgr mth dir nv me κ.2.2.2 mst mhr mon Fr To v1 ((i : Nat) : Int) (by first | assumption | omega) (by first | assumption | omega) (by first | assumption | omega) (hv1) (⟨by omega, by omega⟩)) (cwV 2 hts gX6_walk_X6_goes rfl rfl rfl (by decide +kernel) ⟨Nat.le_of_ble_eq_true rfl, Nat.le_of_ble_eq_true rfl⟩) hP hK [0, 1, 2] rfl 6 0 rfl rfl rfl hl.1 rfl (Nat.le_of_ble_eq_true rfl) ⟨Nat.zero_le _, Nat.zero_le _⟩ dX6_walk_51 (fun r hr51 => ?_)
                  subst hr51
                  refine lv_goto (tgt := 58) hx hb dX6_walk_54 (by decide) ?_
                  refine z_topi (v := iZ (mU dir Fr To me v1 κ.1 i)) (by congr 1; simp only [mU]; first | (rw [if_pos h44]; done) | (rw [if_neg (by omega)]; done)) ?_
                  exact J58   _ _ (hP) (hD) hS ls (lv_sub hl [0, 1, 2, 3, 4] (by rfl))
        exact J19 ((2 * me - 0) + 1) 0 κ0 (-1) (by omega) hw0 (by omega) (fun q => absurd q (by decide)) (fun _ => rfl) rfl (by omega) _ _ (hP) (hD) hS ls (lv_sub hl [2, 3, 4, 1, 0] (by rfl))
  exact J9 (2001 + 1) 2001 (Le, Gr, Rw, 0) start true (⟨hLe, hGr, by show 0 + lS Le me ≤ 2000; omega⟩) (by omega) (fun _ => by show lS Le me < 2001; omega) rfl (by omega) _ _ (hP) (hD) hS ls (lv_sub hl [2, 1, 0] (by rfl))
