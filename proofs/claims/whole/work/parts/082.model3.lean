def gI (g : Nat → Nat) (i : Nat) : Nat → Nat := fun j => if j < i then j else g j
theorem gI_0 {g : Nat → Nat} : gI g 0 = g := by funext j; simp [gI]
theorem gI_up {g : Nat → Nat} {i : Nat} : (fun j => nI (va_up (gI g i) i i j)) = fun j => nI (gI g (i + 1) j) := by
  funext j
  by_cases e : j = i
  · subst e; rw [up_at]; simp [gI]
  · rw [up_ne e]; simp only [gI]
    by_cases h : j < i
    · rw [if_pos h, if_pos (by omega)]
    · rw [if_neg h, if_neg (by omega)]
theorem gI_b {g : Nat → Nat} (h : ∀ j, g j < 65536) (i : Nat) (hi : i ≤ 16 := by decide) : ∀ j, gI g i j < 65536 := by
  intro j; unfold gI; split
  · omega
  · exact h j
def gS (g : Nat → Nat) : Nat → Nat
  | 0 => 0
  | k + 1 => gS g k + g k
theorem gI_S (g : Nat → Nat) : gS (gI g 16) 16 < 241 := by
  have : ∀ k, k ≤ 16 → gS (gI g 16) k ≤ 15 * k := by
    intro k
    induction k with
    | zero => intro _; simp [gS]
    | succ k ih =>
      intro h
      have := ih (by omega)
      simp only [gS, gI]
      rw [if_pos (by omega)]
      omega
  have := this 16 (by decide)
  omega
theorem gS_up {g : Nat → Nat} {k x : Nat} : ∀ n, gS (va_up g k x) n + (if k < n then g k else 0) = gS g n + (if k < n then x else 0)
  | 0 => by simp [gS]
  | n + 1 => by
    have ih := gS_up (g := g) (k := k) (x := x) n
    simp only [gS]
    by_cases e : n = k
    · subst e
      rw [up_at]
      simp at ih ⊢
      omega
    · rw [up_ne e]
      by_cases h : k < n
      · rw [if_pos h, if_pos h] at ih
        rw [if_pos (by omega), if_pos (by omega)]
        omega
      · rw [if_neg h, if_neg h] at ih
        rw [if_neg (by omega), if_neg (by omega)]
        omega
def mMin (a b : Nat) : Nat := if a < b then a else b
def mGp1 (Fr To : Nat → Nat) (Le : Nat → Int) (γ : (Nat → Nat) × Bool) (e : Nat) : (Nat → Nat) × Bool :=
  if Le e = 0 ∨ γ.1 (Fr e) = γ.1 (To e) then γ else (va_up (va_up γ.1 (Fr e) (mMin (γ.1 (Fr e)) (γ.1 (To e)))) (To e) (mMin (γ.1 (Fr e)) (γ.1 (To e))), true)
/-- one pass over the first k edges -/
def mGp (Fr To : Nat → Nat) (Le : Nat → Int) (g : Nat → Nat) : Nat → (Nat → Nat) × Bool
  | 0 => (g, false)
  | k + 1 => mGp1 Fr To Le (mGp Fr To Le g k) k
def mG (Fr To : Nat → Nat) (Le : Nat → Int) (me : Nat) : Nat → (Nat → Nat) → (Nat → Nat)
  | 0, g => g
  | n + 1, g => if (mGp Fr To Le g me).2 = true then mG Fr To Le me n (mGp Fr To Le g me).1 else (mGp Fr To Le g me).1
def mGroups (Fr To : Nat → Nat) (Le : Nat → Int) (me : Nat) (Gr : Nat → Nat) : Nat → Nat := mG Fr To Le me 241 (gI Gr 16)
section
variable {Fr To : Nat → Nat} {Le : Nat → Int} {g : Nat → Nat} {i : Nat}
theorem mGp_s (h : Le i = 0 ∨ (mGp Fr To Le g i).1 (Fr i) = (mGp Fr To Le g i).1 (To i)) : mGp Fr To Le g (i + 1) = mGp Fr To Le g i := by rw [mGp, mGp1, if_pos h]
theorem mGp_u (h : Le i ≠ 0) (h2 : (mGp Fr To Le g i).1 (Fr i) ≠ (mGp Fr To Le g i).1 (To i)) : mGp Fr To Le g (i + 1) = (va_up (va_up (mGp Fr To Le g i).1 (Fr i) (mMin ((mGp Fr To Le g i).1 (Fr i)) ((mGp Fr To Le g i).1 (To i)))) (To i) (mMin ((mGp Fr To Le g i).1 (Fr i)) ((mGp Fr To Le g i).1 (To i))), true) := by
  rw [mGp, mGp1, if_neg (by rintro (q | q); exact h q; exact h2 q)]
theorem mGp_b (hg : ∀ j, g j < 65536) : ∀ k, ∀ j, (mGp Fr To Le g k).1 j < 65536
  | 0 => hg
  | k + 1 => by
    have ih := mGp_b hg k
    rw [mGp, mGp1]
    split
    · exact ih
    · have h1 := ih (Fr k)
      have h2 := ih (To k)
      have h3 : mMin ((mGp Fr To Le g k).1 (Fr k)) ((mGp Fr To Le g k).1 (To k)) < 65536 := by unfold mMin; split <;> omega
      exact up_all (P := fun x => x < 65536) (up_all (P := fun x => x < 65536) ih h3) h3
theorem mGp_S (hF : ∀ j, Fr j < 16) (hT : ∀ j, To j < 16) : ∀ k, gS (mGp Fr To Le g k).1 16 + (if (mGp Fr To Le g k).2 = true then 1 else 0) ≤ gS g 16
  | 0 => by simp [mGp]
  | k + 1 => by
    have ih := mGp_S hF hT k
    rw [mGp, mGp1]
    split
    · exact ih
    · rename_i q
      have q1 : (mGp Fr To Le g k).1 (Fr k) ≠ (mGp Fr To Le g k).1 (To k) := fun z => q (Or.inr z)
      have q2 : To k ≠ Fr k := fun z => q1 (by rw [z])
      have e1 := gS_up (g := (mGp Fr To Le g k).1) (k := Fr k) (x := mMin ((mGp Fr To Le g k).1 (Fr k)) ((mGp Fr To Le g k).1 (To k))) 16
      have e2 := gS_up (g := va_up (mGp Fr To Le g k).1 (Fr k) (mMin ((mGp Fr To Le g k).1 (Fr k)) ((mGp Fr To Le g k).1 (To k)))) (k := To k) (x := mMin ((mGp Fr To Le g k).1 (Fr k)) ((mGp Fr To Le g k).1 (To k))) 16
      rw [if_pos (hF k), if_pos (hF k)] at e1
      rw [if_pos (hT k), if_pos (hT k), up_ne q2] at e2
      have e3 : mMin ((mGp Fr To Le g k).1 (Fr k)) ((mGp Fr To Le g k).1 (To k)) + mMin ((mGp Fr To Le g k).1 (Fr k)) ((mGp Fr To Le g k).1 (To k)) + 1 ≤ (mGp Fr To Le g k).1 (Fr k) + (mGp Fr To Le g k).1 (To k) := by unfold mMin; split <;> omega
      show gS (va_up _ _ _) 16 + 1 ≤ _
      split at ih <;> omega
theorem mG_b {me : Nat} : ∀ (n : Nat) {g : Nat → Nat}, (∀ j, g j < 65536) → ∀ j, mG Fr To Le me n g j < 65536
  | 0, _, h => h
  | n + 1, g, h => by
    rw [mG]; split
    · exact mG_b n (mGp_b h me)
    · exact mGp_b h me
end
theorem mGroups_b {Fr To : Nat → Nat} {Le : Nat → Int} {me : Nat} {Gr : Nat → Nat} (hF : ∀ j, Fr j < 16) (hT : ∀ j, To j < 16) (h : ∀ j, Gr j < 65536) : ∀ j, mGroups Fr To Le me Gr j < 65536 := mG_b 241 (gI_b h 16)
def mHg (G Fr : Nat → Nat) (Le : Nat → Int) (v : Nat) : Nat → Bool
  | 0 => true
  | k + 1 => mHg G Fr Le v k && (decide (Le k = 0) || decide (G (Fr k) = G v))
set_option maxHeartbeats 4000000 in
set_option maxRecDepth 100000 in
/-- Model.groups -/
theorem c_X6_groups (l : Launch) (D : va_G) (cA : Nat → ClassId) (sz : Nat) (mo : Nat) (mf : Nat) (mt : Nat) (mw : Nat) (mr : Nat) (mp : Nat) (mx : Nat) (mfa : Nat) (mbi : Nat) (mod1 : Nat) (msc : Nat) (msb : Nat) (msu : Nat) (mwy : Nat) (mre : Nat) (mby : Nat) (msm : Nat) (mle : Nat) (mgr : Nat) (mth : Nat) (dir : Bool) (nv : Nat) (me : Nat) (mrn : Nat) (mst : Nat) (mhr : Bool) (mon : Nat) (Fr : Nat → Nat) (To : Nat → Nat) (Le : Nat → Int) (Gr : Nat → Nat) (hme : me ≤ 40) (hF : ∀ j, Fr j < 16) (hT : ∀ j, To j < 16) (hLe : ∀ j, -2147483648 ≤ Le j ∧ Le j < 2147483648) (hGr : ∀ j, Gr j < 65536) : Met l yX6_groups wsX6_groups ({ frames := 0, cells := 0, slots := 0, locals := 0 } : Room) (zWr D vwCl (zT cA) [(mo, .inr (6, [.int (nI mth), .int (zB dir), .int (nI nv), .int (nI me), .ref mf, .ref mt, .ref mw, .ref mr, .int (nI mrn), .ref mp, .int (nI mst), .int (zB mhr), .ref mx, .ref mfa, .ref mbi, .ref mod1, .int (nI mon), .ref msc, .ref msb, .ref msu, .ref mwy, .ref mre, .ref mby, .ref msm, .ref mle, .ref mgr])), (mf, aI cA 40 (fun j => nI (Fr j))), (mt, aI cA 40 (fun j => nI (To j))), (mle, aI cA 40 (fun j => iZ (Le j))), (mgr, aI cA 16 (fun j => nI (Gr j)))] sz [.ref mo]) (zQv D vwCl (zT cA) (va_A [(mo, .inr (6, [.int (nI mth), .int (zB dir), .int (nI nv), .int (nI me), .ref mf, .ref mt, .ref mw, .ref mr, .int (nI mrn), .ref mp, .int (nI mst), .int (zB mhr), .ref mx, .ref mfa, .ref mbi, .ref mod1, .int (nI mon), .ref msc, .ref msb, .ref msu, .ref mwy, .ref mre, .ref mby, .ref msm, .ref mle, .ref mgr])), (mf, aI cA 40 (fun j => nI (Fr j))), (mt, aI cA 40 (fun j => nI (To j))), (mle, aI cA 40 (fun j => iZ (Le j))), (mgr, aI cA 16 (fun j => nI (Gr j)))] sz) [(mo, .inr (6, [.int (nI mth), .int (zB dir), .int (nI nv), .int (nI me), .ref mf, .ref mt, .ref mw, .ref mr, .int (nI mrn), .ref mp, .int (nI mst), .int (zB mhr), .ref mx, .ref mfa, .ref mbi, .ref mod1, .int (nI mon), .ref msc, .ref msb, .ref msu, .ref mwy, .ref mre, .ref mby, .ref msm, .ref mle, .ref mgr])), (mf, aI cA 40 (fun j => nI (Fr j))), (mt, aI cA 40 (fun j => nI (To j))), (mle, aI cA 40 (fun j => iZ (Le j))), (mgr, aI cA 16 (fun j => nI ((mGroups Fr To Le me Gr) j)))]) 0 0 (va_A [(mo, .inr (6, [.int (nI mth), .int (zB dir), .int (nI nv), .int (nI me), .ref mf, .ref mt, .ref mw, .ref mr, .int (nI mrn), .ref mp, .int (nI mst), .int (zB mhr), .ref mx, .ref mfa, .ref mbi, .ref mod1, .int (nI mon), .ref msc, .ref msb, .ref msu, .ref mwy, .ref mre, .ref mby, .ref msm, .ref mle, .ref mgr])), (mf, aI cA 40 (fun j => nI (Fr j))), (mt, aI cA 40 (fun j => nI (To j))), (mle, aI cA 40 (fun j => iZ (Le j))), (mgr, aI cA 16 (fun j => nI (Gr j)))] sz) := by
  refine z_write (cc := cX6_groups) (maxL := 5) (ret := none) (by decide) rfl (Nat.le_of_ble_eq_true rfl) ?_
  intro p e s m below meth c hx hb hr hml hown hts hlocks A hAe hA H locs hP hK hD hS hini Q hQ ls hl
  have hown : s.vm.findClass RX6 = some m.cls := hown
  have hl : lv_has ls 5 [(0, .ref mo)] := hl
  generalize hav : ([.ref mo] : List Value).toArray = args at hts hQ ⊢
  have hin6 : ∀ w ∈ wsX60, w ∈ wsX6_groups := by decide +kernel
  refine lv_iconst (v := nI 0) hx hb dX6_groups_0 (by decide) ?_
  refine lv_istore_n (lv' := [(1, .int (nI 0)), (0, .ref mo)]) hx hb dX6_groups_1 rfl hl (by decide) rfl (fun ls hl => ?_)
  have J2 : ∀ (n : Nat), ∀ (i : Nat), (i ≤ 16) → 16 - i < n → ∀ (H : Heap) (locs : List Loc), va_P D vwCl [(mo, .inr (6, [.int (nI mth), .int (zB dir), .int (nI nv), .int (nI me), .ref mf, .ref mt, .ref mw, .ref mr, .int (nI mrn), .ref mp, .int (nI mst), .int (zB mhr), .ref mx, .ref mfa, .ref mbi, .ref mod1, .int (nI mon), .ref msc, .ref msb, .ref msu, .ref mwy, .ref mre, .ref mby, .ref msm, .ref mle, .ref mgr])), (mf, aI cA 40 (fun j => nI (Fr j))), (mt, aI cA 40 (fun j => nI (To j))), (mle, aI cA 40 (fun j => iZ (Le j))), (mgr, aI cA 16 (fun j => nI ((gI Gr i) j)))] H → va_D A [(mo, .inr (6, [.int (nI mth), .int (zB dir), .int (nI nv), .int (nI me), .ref mf, .ref mt, .ref mw, .ref mr, .int (nI mrn), .ref mp, .int (nI mst), .int (zB mhr), .ref mx, .ref mfa, .ref mbi, .ref mod1, .int (nI mon), .ref msc, .ref msb, .ref msu, .ref mwy, .ref mre, .ref mby, .ref msm, .ref mle, .ref mgr])), (mf, aI cA 40 (fun j => nI (Fr j))), (mt, aI cA 40 (fun j => nI (To j))), (mle, aI cA 40 (fun j => iZ (Le j))), (mgr, aI cA 16 (fun j => nI ((gI Gr i) j)))] → va_S A s.heap H locs → ∀ (ls : Array Slot), lv_has ls 5 [(0, .ref mo), (1, .int (nI i))] → W p l e ({ frames := 0, cells := 0, slots := 0, locals := 0 } : Room) s m args below meth c H locs 0 0 Q (F0 m 2 ls []) := by
    intro n2
    induction n2 with
    | zero => intro i hi hn; exact absurd hn (Nat.not_lt_zero _)
    | succ n2 ih2 =>
      intro i hi hn2 H locs hP hD hS ls hl
      refine lv_iload_n hx hb dX6_groups_2 rfl (lv_at hl 1 rfl) ?_
      refine lv_bipush (v := nI 16) hx hb dX6_groups_3 (by decide) ?_
      refine z_ge hx hb (by omega) (by decide) (tgt := 21) dX6_groups_5 (by decide) (fun h5 => ?_) (fun h5 => ?_)
      · skip
        refine lv_iconst (v := zB true) hx hb dX6_groups_21 (by decide) ?_
        refine lv_istore_n (lv' := [(1, .int (zB true)), (0, .ref mo)]) hx hb dX6_groups_22 rfl hl (by decide) rfl (fun ls hl => ?_)
        have J23 : ∀ (n : Nat), ∀ (fn : Nat) (g1 : Nat → Nat) (ch : Bool), (∀ j, g1 j < 65536) → (ch = true → gS g1 16 < fn) → ((if ch = true then mG Fr To Le me fn g1 else g1) = mGroups Fr To Le me Gr) → fn < n → ∀ (H : Heap) (locs : List Loc), va_P D vwCl [(mo, .inr (6, [.int (nI mth), .int (zB dir), .int (nI nv), .int (nI me), .ref mf, .ref mt, .ref mw, .ref mr, .int (nI mrn), .ref mp, .int (nI mst), .int (zB mhr), .ref mx, .ref mfa, .ref mbi, .ref mod1, .int (nI mon), .ref msc, .ref msb, .ref msu, .ref mwy, .ref mre, .ref mby, .ref msm, .ref mle, .ref mgr])), (mf, aI cA 40 (fun j => nI (Fr j))), (mt, aI cA 40 (fun j => nI (To j))), (mle, aI cA 40 (fun j => iZ (Le j))), (mgr, aI cA 16 (fun j => nI (g1 j)))] H → va_D A [(mo, .inr (6, [.int (nI mth), .int (zB dir), .int (nI nv), .int (nI me), .ref mf, .ref mt, .ref mw, .ref mr, .int (nI mrn), .ref mp, .int (nI mst), .int (zB mhr), .ref mx, .ref mfa, .ref mbi, .ref mod1, .int (nI mon), .ref msc, .ref msb, .ref msu, .ref mwy, .ref mre, .ref mby, .ref msm, .ref mle, .ref mgr])), (mf, aI cA 40 (fun j => nI (Fr j))), (mt, aI cA 40 (fun j => nI (To j))), (mle, aI cA 40 (fun j => iZ (Le j))), (mgr, aI cA 16 (fun j => nI (g1 j)))] → va_S A s.heap H locs → ∀ (ls : Array Slot), lv_has ls 5 [(0, .ref mo), (1, .int (zB ch))] → W p l e ({ frames := 0, cells := 0, slots := 0, locals := 0 } : Room) s m args below meth c H locs 0 0 Q (F0 m 23 ls []) := by
          intro n23
          induction n23 with
          | zero => intro fn g1 ch hg1 hSm hq hn; exact absurd hn (Nat.not_lt_zero _)
          | succ n23 ih23 =>
            intro fn g1 ch hg1 hSm hq hn23 H locs hP hD hS ls hl
            refine lv_iload_n hx hb dX6_groups_23 rfl (lv_at hl 1 rfl) ?_
            refine z_ifeq hx hb (tgt := 139) dX6_groups_24 (by decide) (fun h24 => ?_) (fun h24 => ?_)
            · skip
              have hres : mGroups Fr To Le me Gr = g1 := by rw [← hq, if_neg (by rw [h24]; decide)]
              exact z_vretW hx hb hr hlocks hAe hQ (by rw [hres]; exact hP) hK (by rw [hres]; exact hD) hS dX6_groups_139
            · skip
              refine lv_iconst (v := zB false) hx hb dX6_groups_27 (by decide) ?_
              refine lv_istore_n (lv' := [(1, .int (zB false)), (0, .ref mo)]) hx hb dX6_groups_28 rfl hl (by decide) rfl (fun ls hl => ?_)
              refine lv_iconst (v := nI 0) hx hb dX6_groups_29 (by decide) ?_
              refine lv_istore_n (lv' := [(2, .int (nI 0)), (1, .int (zB false)), (0, .ref mo)]) hx hb dX6_groups_30 rfl hl (by decide) rfl (fun ls hl => ?_)
              have J31 : ∀ (n : Nat), ∀ (i : Nat), (i ≤ me) → me - i < n → ∀ (H : Heap) (locs : List Loc), va_P D vwCl [(mo, .inr (6, [.int (nI mth), .int (zB dir), .int (nI nv), .int (nI me), .ref mf, .ref mt, .ref mw, .ref mr, .int (nI mrn), .ref mp, .int (nI mst), .int (zB mhr), .ref mx, .ref mfa, .ref mbi, .ref mod1, .int (nI mon), .ref msc, .ref msb, .ref msu, .ref mwy, .ref mre, .ref mby, .ref msm, .ref mle, .ref mgr])), (mf, aI cA 40 (fun j => nI (Fr j))), (mt, aI cA 40 (fun j => nI (To j))), (mle, aI cA 40 (fun j => iZ (Le j))), (mgr, aI cA 16 (fun j => nI (((mGp Fr To Le g1 i).1) j)))] H → va_D A [(mo, .inr (6, [.int (nI mth), .int (zB dir), .int (nI nv), .int (nI me), .ref mf, .ref mt, .ref mw, .ref mr, .int (nI mrn), .ref mp, .int (nI mst), .int (zB mhr), .ref mx, .ref mfa, .ref mbi, .ref mod1, .int (nI mon), .ref msc, .ref msb, .ref msu, .ref mwy, .ref mre, .ref mby, .ref msm, .ref mle, .ref mgr])), (mf, aI cA 40 (fun j => nI (Fr j))), (mt, aI cA 40 (fun j => nI (To j))), (mle, aI cA 40 (fun j => iZ (Le j))), (mgr, aI cA 16 (fun j => nI (((mGp Fr To Le g1 i).1) j)))] → va_S A s.heap H locs → ∀ (ls : Array Slot), lv_has ls 5 [(0, .ref mo), (1, .int (zB ((mGp Fr To Le g1 i).2))), (2, .int (nI i))] → W p l e ({ frames := 0, cells := 0, slots := 0, locals := 0 } : Room) s m args below meth c H locs 0 0 Q (F0 m 31 ls []) := by
                intro n31
                induction n31 with
                | zero => intro i hi hn; exact absurd hn (Nat.not_lt_zero _)
                | succ n31 ih31 =>
                  intro i hi hn31 H locs hP hD hS ls hl
                  refine lv_iload_n hx hb dX6_groups_31 rfl (lv_at hl 2 rfl) ?_
                  refine lv_aload_n hx hb dX6_groups_32 rfl (lv_at hl 0 rfl) ?_
                  refine va_get (D := D) (ci := 6) (v := .int (nI me)) (C := RX6) (T := TX6) (N := 26) hx hb hts hin6 hown hK hP 0 rfl rfl 3 (by decide) (hts (.fieldLink RX6 85 "TourHouseModel" "m" "I") (by decide +kernel)) (fun _ h9 => h9) rfl dX6_groups_33 ?_
                  refine z_ge hx hb (by omega) (by omega) (tgt := 136) dX6_groups_36 (by decide) (fun h36 => ?_) (fun h36 => ?_)
                  · skip
                    refine lv_goto (tgt := 23) hx hb dX6_groups_136 (by decide) ?_
                    exact ih23 (fn - 1) ((mGp Fr To Le g1 me).1) ((mGp Fr To Le g1 me).2) (mGp_b hg1 me) (fun q => by have := hSm h24; have := mGp_S (Fr := Fr) (To := To) (Le := Le) (g := g1) hF hT me; rw [if_pos q] at this; omega) (by rw [← hq, if_pos h24]; obtain ⟨q, hq2⟩ : ∃ q, fn = q + 1 := ⟨fn - 1, by have := hSm h24; omega⟩; rw [hq2]; rfl) (by have := hSm h24; omega) _ _ (by have q : i = me := (by omega); rw [q] at hP; exact hP) (by have q : i = me := (by omega); rw [q] at hD; exact hD) hS ls (lv_sub hl [0, 1] (by have q : i = me := (by omega); rw [q]; rfl))
                  · skip
                    refine lv_aload_n hx hb dX6_groups_39 rfl (lv_at hl 0 rfl) ?_
                    refine va_get (D := D) (ci := 6) (v := .ref mgr) (C := RX6) (T := TX6) (N := 26) hx hb hts hin6 hown hK hP 0 rfl rfl 25 (by decide) (hts (.fieldLink RX6 68 "TourHouseModel" "group" "[I") (by decide +kernel)) (fun _ h9 => h9) rfl dX6_groups_40 ?_
                    refine lv_aload_n hx hb dX6_groups_43 rfl (lv_at hl 0 rfl) ?_
                    refine va_get (D := D) (ci := 6) (v := .ref mf) (C := RX6) (T := TX6) (N := 26) hx hb hts hin6 hown hK hP 0 rfl rfl 4 (by decide) (hts (.fieldLink RX6 13 "TourHouseModel" "from" "[I") (by decide +kernel)) (fun _ h9 => h9) rfl dX6_groups_44 ?_
                    refine lv_iload_n hx hb dX6_groups_47 rfl (lv_at hl 2 rfl) ?_
                    refine z_iald hx hb hK hP 1 0 rfl rfl (k := i) (by omega) (by decide) (v := nI (Fr i)) rfl dX6_groups_48 ?_
                    refine z_iald hx hb hK hP 4 0 rfl rfl (k := (Fr i)) (hF _) (by decide) (v := nI (((mGp Fr To Le g1 i).1) (Fr i))) rfl dX6_groups_49 ?_
                    refine lv_istore_n (lv' := [(3, .int (nI (((mGp Fr To Le g1 i).1) (Fr i)))), (0, .ref mo), (1, .int (zB ((mGp Fr To Le g1 i).2))), (2, .int (nI i))]) hx hb dX6_groups_50 rfl hl (by decide) rfl (fun ls hl => ?_)
                    refine lv_aload_n hx hb dX6_groups_51 rfl (lv_at hl 1 rfl) ?_
                    refine va_get (D := D) (ci := 6) (v := .ref mgr) (C := RX6) (T := TX6) (N := 26) hx hb hts hin6 hown hK hP 0 rfl rfl 25 (by decide) (hts (.fieldLink RX6 68 "TourHouseModel" "group" "[I") (by decide +kernel)) (fun _ h9 => h9) rfl dX6_groups_52 ?_
                    refine lv_aload_n hx hb dX6_groups_55 rfl (lv_at hl 1 rfl) ?_
                    refine va_get (D := D) (ci := 6) (v := .ref mt) (C := RX6) (T := TX6) (N := 26) hx hb hts hin6 hown hK hP 0 rfl rfl 5 (by decide) (hts (.fieldLink RX6 17 "TourHouseModel" "to" "[I") (by decide +kernel)) (fun _ h9 => h9) rfl dX6_groups_56 ?_
                    refine lv_iload_n hx hb dX6_groups_59 rfl (lv_at hl 3 rfl) ?_
                    refine z_iald hx hb hK hP 2 0 rfl rfl (k := i) (by omega) (by decide) (v := nI (To i)) rfl dX6_groups_60 ?_
                    refine z_iald hx hb hK hP 4 0 rfl rfl (k := (To i)) (hT _) (by decide) (v := nI (((mGp Fr To Le g1 i).1) (To i))) rfl dX6_groups_61 ?_
                    refine lv_istore (lv' := [(4, .int (nI (((mGp Fr To Le g1 i).1) (To i)))), (3, .int (nI (((mGp Fr To Le g1 i).1) (Fr i)))), (0, .ref mo), (1, .int (zB ((mGp Fr To Le g1 i).2))), (2, .int (nI i))]) hx hb dX6_groups_62 hl (by decide) rfl (fun ls hl => ?_)
                    refine lv_aload_n hx hb dX6_groups_64 rfl (lv_at hl 2 rfl) ?_
                    refine va_get (D := D) (ci := 6) (v := .ref mle) (C := RX6) (T := TX6) (N := 26) hx hb hts hin6 hown hK hP 0 rfl rfl 24 (by decide) (hts (.fieldLink RX6 65 "TourHouseModel" "left" "[I") (by decide +kernel)) (fun _ h9 => h9) rfl dX6_groups_65 ?_
                    refine lv_iload_n hx hb dX6_groups_68 rfl (lv_at hl 4 rfl) ?_
                    refine z_iald hx hb hK hP 3 0 rfl rfl (k := i) (by omega) (by decide) (v := iZ (Le i)) rfl dX6_groups_69 ?_
                    refine z_ieq hx hb (x := Le i) (hLe _) (tgt := 130) dX6_groups_70 (by decide) (fun h70 => ?_) (fun h70 => ?_)
                    · skip
                      have hl : lv_has ls 5 [(4, .int (nI (((mGp Fr To Le g1 i).1) (To i)))), (3, .int (nI (((mGp Fr To Le g1 i).1) (Fr i)))), (0, .ref mo), (1, .int (zB ((mGp Fr To Le g1 (i + 1)).2))), (2, .int (nI i))] := by
                        have q9 : zB ((mGp Fr To Le g1 (i + 1)).2) = zB ((mGp Fr To Le g1 i).2) := by first | rw [mGp_s (Or.inl h70)] | rw [mGp_s (Or.inr h76)] | rw [mGp_u h70 h76]
                        rw [q9]; exact hl
                      have q9 : (fun j => nI (((mGp Fr To Le g1 (i + 1)).1) j)) = (fun j => nI (((mGp Fr To Le g1 i).1) j)) := by first | rw [mGp_s (Or.inl h70)] | rw [mGp_s (Or.inr h76)] | rw [mGp_u h70 h76]
                      have hP : va_P D vwCl [(mo, .inr (6, [.int (nI mth), .int (zB dir), .int (nI nv), .int (nI me), .ref mf, .ref mt, .ref mw, .ref mr, .int (nI mrn), .ref mp, .int (nI mst), .int (zB mhr), .ref mx, .ref mfa, .ref mbi, .ref mod1, .int (nI mon), .ref msc, .ref msb, .ref msu, .ref mwy, .ref mre, .ref mby, .ref msm, .ref mle, .ref mgr])), (mf, aI cA 40 (fun j => nI (Fr j))), (mt, aI cA 40 (fun j => nI (To j))), (mle, aI cA 40 (fun j => iZ (Le j))), (mgr, aI cA 16 (fun j => nI (((mGp Fr To Le g1 (i + 1)).1) j)))] H := by rw [q9]; exact hP
                      have hD : va_D A [(mo, .inr (6, [.int (nI mth), .int (zB dir), .int (nI nv), .int (nI me), .ref mf, .ref mt, .ref mw, .ref mr, .int (nI mrn), .ref mp, .int (nI mst), .int (zB mhr), .ref mx, .ref mfa, .ref mbi, .ref mod1, .int (nI mon), .ref msc, .ref msb, .ref msu, .ref mwy, .ref mre, .ref mby, .ref msm, .ref mle, .ref mgr])), (mf, aI cA 40 (fun j => nI (Fr j))), (mt, aI cA 40 (fun j => nI (To j))), (mle, aI cA 40 (fun j => iZ (Le j))), (mgr, aI cA 16 (fun j => nI (((mGp Fr To Le g1 (i + 1)).1) j)))] := by rw [q9]; exact hD
                      refine lv_iinc (v := nI (i + 1)) (lv' := [(2, .int (nI (i + 1))), (4, .int (nI (((mGp Fr To Le g1 i).1) (To i)))), (3, .int (nI (((mGp Fr To Le g1 i).1) (Fr i)))), (0, .ref mo), (1, .int (zB ((mGp Fr To Le g1 (i + 1)).2)))]) hx hb dX6_groups_130 hl (k := 4) rfl (nI_1 i) (by decide) rfl (fun ls hl => ?_)
                      refine lv_goto (tgt := 31) hx hb dX6_groups_133 (by decide) ?_
                      exact ih31 (i + 1) (by omega) (by omega) _ _ (hP) (hD) hS ls (lv_sub hl [3, 4, 0] (by rfl))
                    · skip
                      refine lv_iload_n hx hb dX6_groups_73 rfl (lv_at hl 1 rfl) ?_
                      refine lv_iload hx hb dX6_groups_74 (lv_at hl 0 rfl) ?_
                      refine z_ne hx hb (Nat.lt_trans (mGp_b hg1 i _) (by decide)) (Nat.lt_trans (mGp_b hg1 i _) (by decide)) (tgt := 82) dX6_groups_76 (by decide) (fun h76 => ?_) (fun h76 => ?_)
                      · skip
                        refine lv_iconst (v := zB true) hx hb dX6_groups_82 (by decide) ?_
                        refine lv_istore_n (lv' := [(1, .int (zB true)), (4, .int (nI (((mGp Fr To Le g1 i).1) (To i)))), (3, .int (nI (((mGp Fr To Le g1 i).1) (Fr i)))), (0, .ref mo), (2, .int (nI i))]) hx hb dX6_groups_83 rfl hl (by decide) rfl (fun ls hl => ?_)
                        refine lv_aload_n hx hb dX6_groups_84 rfl (lv_at hl 3 rfl) ?_
                        refine va_get (D := D) (ci := 6) (v := .ref mgr) (C := RX6) (T := TX6) (N := 26) hx hb hts hin6 hown hK hP 0 rfl rfl 25 (by decide) (hts (.fieldLink RX6 68 "TourHouseModel" "group" "[I") (by decide +kernel)) (fun _ h9 => h9) rfl dX6_groups_85 ?_
                        refine lv_aload_n hx hb dX6_groups_88 rfl (lv_at hl 3 rfl) ?_
                        refine va_get (D := D) (ci := 6) (v := .ref mf) (C := RX6) (T := TX6) (N := 26) hx hb hts hin6 hown hK hP 0 rfl rfl 4 (by decide) (hts (.fieldLink RX6 13 "TourHouseModel" "from" "[I") (by decide +kernel)) (fun _ h9 => h9) rfl dX6_groups_89 ?_
                        refine lv_iload_n hx hb dX6_groups_92 rfl (lv_at hl 4 rfl) ?_
                        refine z_iald hx hb hK hP 1 0 rfl rfl (k := i) (by omega) (by decide) (v := nI (Fr i)) rfl dX6_groups_93 ?_
                        refine lv_iload_n hx hb dX6_groups_94 rfl (lv_at hl 2 rfl) ?_
                        refine lv_iload hx hb dX6_groups_95 (lv_at hl 1 rfl) ?_
                        refine z_ge hx hb (Nat.lt_trans (mGp_b hg1 i _) (by decide)) (Nat.lt_trans (mGp_b hg1 i _) (by decide)) (tgt := 104) dX6_groups_97 (by decide) (fun h97 => ?_) (fun h97 => ?_)
                        · skip
                          refine lv_iload hx hb dX6_groups_104 (lv_at hl 1 rfl) ?_
                          refine z_topi (v := nI (mMin ((mGp Fr To Le g1 i).1 (Fr i)) ((mGp Fr To Le g1 i).1 (To i)))) (by congr 1; simp only [mMin]; first | (rw [if_pos (by omega)]; done) | (rw [if_neg (by omega)]; done) | (exfalso; omega)) ?_
                          refine z_iast hx hb hK hP hD hS 4 0 rfl rfl (k := (Fr i)) (hF _) (by decide) (f' := (fun j => nI ((va_up ((mGp Fr To Le g1 i).1) (Fr i) (mMin ((mGp Fr To Le g1 i).1 (Fr i)) ((mGp Fr To Le g1 i).1 (To i)))) j))) (upd_nI ((mGp Fr To Le g1 i).1) (Fr i) (mMin ((mGp Fr To Le g1 i).1 (Fr i)) ((mGp Fr To Le g1 i).1 (To i)))) (ws' := [(mo, .inr (6, [.int (nI mth), .int (zB dir), .int (nI nv), .int (nI me), .ref mf, .ref mt, .ref mw, .ref mr, .int (nI mrn), .ref mp, .int (nI mst), .int (zB mhr), .ref mx, .ref mfa, .ref mbi, .ref mod1, .int (nI mon), .ref msc, .ref msb, .ref msu, .ref mwy, .ref mre, .ref mby, .ref msm, .ref mle, .ref mgr])), (mf, aI cA 40 (fun j => nI (Fr j))), (mt, aI cA 40 (fun j => nI (To j))), (mle, aI cA 40 (fun j => iZ (Le j))), (mgr, aI cA 16 (fun j => nI ((va_up ((mGp Fr To Le g1 i).1) (Fr i) (mMin ((mGp Fr To Le g1 i).1 (Fr i)) ((mGp Fr To Le g1 i).1 (To i)))) j)))]) rfl dX6_groups_106 (fun H locs hP hD hS => ?_)
                          refine lv_aload_n hx hb dX6_groups_107 rfl (lv_at hl 3 rfl) ?_
                          refine va_get (D := D) (ci := 6) (v := .ref mgr) (C := RX6) (T := TX6) (N := 26) hx hb hts hin6 hown hK hP 0 rfl rfl 25 (by decide) (hts (.fieldLink RX6 68 "TourHouseModel" "group" "[I") (by decide +kernel)) (fun _ h9 => h9) rfl dX6_groups_108 ?_
                          refine lv_aload_n hx hb dX6_groups_111 rfl (lv_at hl 3 rfl) ?_
                          refine va_get (D := D) (ci := 6) (v := .ref mt) (C := RX6) (T := TX6) (N := 26) hx hb hts hin6 hown hK hP 0 rfl rfl 5 (by decide) (hts (.fieldLink RX6 17 "TourHouseModel" "to" "[I") (by decide +kernel)) (fun _ h9 => h9) rfl dX6_groups_112 ?_
                          refine lv_iload_n hx hb dX6_groups_115 rfl (lv_at hl 4 rfl) ?_
                          refine z_iald hx hb hK hP 2 0 rfl rfl (k := i) (by omega) (by decide) (v := nI (To i)) rfl dX6_groups_116 ?_
                          refine lv_iload_n hx hb dX6_groups_117 rfl (lv_at hl 2 rfl) ?_
                          refine lv_iload hx hb dX6_groups_118 (lv_at hl 1 rfl) ?_
                          refine z_ge hx hb (Nat.lt_trans (mGp_b hg1 i _) (by decide)) (Nat.lt_trans (mGp_b hg1 i _) (by decide)) (tgt := 127) dX6_groups_120 (by decide) (fun h120 => ?_) (fun h120 => ?_)
                          · skip
                            refine lv_iload hx hb dX6_groups_127 (lv_at hl 1 rfl) ?_
                            refine z_topi (v := nI (mMin ((mGp Fr To Le g1 i).1 (Fr i)) ((mGp Fr To Le g1 i).1 (To i)))) (by congr 1; simp only [mMin]; first | (rw [if_pos (by omega)]; done) | (rw [if_neg (by omega)]; done) | (exfalso; omega)) ?_
                            refine z_iast hx hb hK hP hD hS 4 0 rfl rfl (k := (To i)) (hT _) (by decide) (f' := (fun j => nI ((va_up (va_up ((mGp Fr To Le g1 i).1) (Fr i) (mMin ((mGp Fr To Le g1 i).1 (Fr i)) ((mGp Fr To Le g1 i).1 (To i)))) (To i) (mMin ((mGp Fr To Le g1 i).1 (Fr i)) ((mGp Fr To Le g1 i).1 (To i)))) j))) (upd_nI (va_up ((mGp Fr To Le g1 i).1) (Fr i) (mMin ((mGp Fr To Le g1 i).1 (Fr i)) ((mGp Fr To Le g1 i).1 (To i)))) (To i) (mMin ((mGp Fr To Le g1 i).1 (Fr i)) ((mGp Fr To Le g1 i).1 (To i)))) (ws' := [(mo, .inr (6, [.int (nI mth), .int (zB dir), .int (nI nv), .int (nI me), .ref mf, .ref mt, .ref mw, .ref mr, .int (nI mrn), .ref mp, .int (nI mst), .int (zB mhr), .ref mx, .ref mfa, .ref mbi, .ref mod1, .int (nI mon), .ref msc, .ref msb, .ref msu, .ref mwy, .ref mre, .ref mby, .ref msm, .ref mle, .ref mgr])), (mf, aI cA 40 (fun j => nI (Fr j))), (mt, aI cA 40 (fun j => nI (To j))), (mle, aI cA 40 (fun j => iZ (Le j))), (mgr, aI cA 16 (fun j => nI ((va_up (va_up ((mGp Fr To Le g1 i).1) (Fr i) (mMin ((mGp Fr To Le g1 i).1 (Fr i)) ((mGp Fr To Le g1 i).1 (To i)))) (To i) (mMin ((mGp Fr To Le g1 i).1 (Fr i)) ((mGp Fr To Le g1 i).1 (To i)))) j)))]) rfl dX6_groups_129 (fun H locs hP hD hS => ?_)
                            have hl : lv_has ls 5 [(1, .int (zB ((mGp Fr To Le g1 (i + 1)).2))), (4, .int (nI (((mGp Fr To Le g1 i).1) (To i)))), (3, .int (nI (((mGp Fr To Le g1 i).1) (Fr i)))), (0, .ref mo), (2, .int (nI i))] := by
                              have q9 : zB ((mGp Fr To Le g1 (i + 1)).2) = zB true := by first | rw [mGp_s (Or.inl h70)] | rw [mGp_s (Or.inr h76)] | rw [mGp_u h70 h76]
                              rw [q9]; exact hl
                            have q9 : (fun j => nI (((mGp Fr To Le g1 (i + 1)).1) j)) = (fun j => nI ((va_up (va_up ((mGp Fr To Le g1 i).1) (Fr i) (mMin ((mGp Fr To Le g1 i).1 (Fr i)) ((mGp Fr To Le g1 i).1 (To i)))) (To i) (mMin ((mGp Fr To Le g1 i).1 (Fr i)) ((mGp Fr To Le g1 i).1 (To i)))) j)) := by first | rw [mGp_s (Or.inl h70)] | rw [mGp_s (Or.inr h76)] | rw [mGp_u h70 h76]
                            have hP : va_P D vwCl [(mo, .inr (6, [.int (nI mth), .int (zB dir), .int (nI nv), .int (nI me), .ref mf, .ref mt, .ref mw, .ref mr, .int (nI mrn), .ref mp, .int (nI mst), .int (zB mhr), .ref mx, .ref mfa, .ref mbi, .ref mod1, .int (nI mon), .ref msc, .ref msb, .ref msu, .ref mwy, .ref mre, .ref mby, .ref msm, .ref mle, .ref mgr])), (mf, aI cA 40 (fun j => nI (Fr j))), (mt, aI cA 40 (fun j => nI (To j))), (mle, aI cA 40 (fun j => iZ (Le j))), (mgr, aI cA 16 (fun j => nI (((mGp Fr To Le g1 (i + 1)).1) j)))] H := by rw [q9]; exact hP
                            have hD : va_D A [(mo, .inr (6, [.int (nI mth), .int (zB dir), .int (nI nv), .int (nI me), .ref mf, .ref mt, .ref mw, .ref mr, .int (nI mrn), .ref mp, .int (nI mst), .int (zB mhr), .ref mx, .ref mfa, .ref mbi, .ref mod1, .int (nI mon), .ref msc, .ref msb, .ref msu, .ref mwy, .ref mre, .ref mby, .ref msm, .ref mle, .ref mgr])), (mf, aI cA 40 (fun j => nI (Fr j))), (mt, aI cA 40 (fun j => nI (To j))), (mle, aI cA 40 (fun j => iZ (Le j))), (mgr, aI cA 16 (fun j => nI (((mGp Fr To Le g1 (i + 1)).1) j)))] := by rw [q9]; exact hD
                            refine lv_iinc (v := nI (i + 1)) (lv' := [(2, .int (nI (i + 1))), (1, .int (zB ((mGp Fr To Le g1 (i + 1)).2))), (4, .int (nI (((mGp Fr To Le g1 i).1) (To i)))), (3, .int (nI (((mGp Fr To Le g1 i).1) (Fr i)))), (0, .ref mo)]) hx hb dX6_groups_130 hl (k := 4) rfl (nI_1 i) (by decide) rfl (fun ls hl => ?_)
                            refine lv_goto (tgt := 31) hx hb dX6_groups_133 (by decide) ?_
                            exact ih31 (i + 1) (by omega) (by omega) _ _ (hP) (hD) hS ls (lv_sub hl [4, 1, 0] (by rfl))
                          · skip
                            refine lv_iload_n hx hb dX6_groups_123 rfl (lv_at hl 2 rfl) ?_
                            refine lv_goto (tgt := 129) hx hb dX6_groups_124 (by decide) ?_
                            refine z_topi (v := nI (mMin ((mGp Fr To Le g1 i).1 (Fr i)) ((mGp Fr To Le g1 i).1 (To i)))) (by congr 1; simp only [mMin]; first | (rw [if_pos (by omega)]; done) | (rw [if_neg (by omega)]; done) | (exfalso; omega)) ?_
                            refine z_iast hx hb hK hP hD hS 4 0 rfl rfl (k := (To i)) (hT _) (by decide) (f' := (fun j => nI ((va_up (va_up ((mGp Fr To Le g1 i).1) (Fr i) (mMin ((mGp Fr To Le g1 i).1 (Fr i)) ((mGp Fr To Le g1 i).1 (To i)))) (To i) (mMin ((mGp Fr To Le g1 i).1 (Fr i)) ((mGp Fr To Le g1 i).1 (To i)))) j))) (upd_nI (va_up ((mGp Fr To Le g1 i).1) (Fr i) (mMin ((mGp Fr To Le g1 i).1 (Fr i)) ((mGp Fr To Le g1 i).1 (To i)))) (To i) (mMin ((mGp Fr To Le g1 i).1 (Fr i)) ((mGp Fr To Le g1 i).1 (To i)))) (ws' := [(mo, .inr (6, [.int (nI mth), .int (zB dir), .int (nI nv), .int (nI me), .ref mf, .ref mt, .ref mw, .ref mr, .int (nI mrn), .ref mp, .int (nI mst), .int (zB mhr), .ref mx, .ref mfa, .ref mbi, .ref mod1, .int (nI mon), .ref msc, .ref msb, .ref msu, .ref mwy, .ref mre, .ref mby, .ref msm, .ref mle, .ref mgr])), (mf, aI cA 40 (fun j => nI (Fr j))), (mt, aI cA 40 (fun j => nI (To j))), (mle, aI cA 40 (fun j => iZ (Le j))), (mgr, aI cA 16 (fun j => nI ((va_up (va_up ((mGp Fr To Le g1 i).1) (Fr i) (mMin ((mGp Fr To Le g1 i).1 (Fr i)) ((mGp Fr To Le g1 i).1 (To i)))) (To i) (mMin ((mGp Fr To Le g1 i).1 (Fr i)) ((mGp Fr To Le g1 i).1 (To i)))) j)))]) rfl dX6_groups_129 (fun H locs hP hD hS => ?_)
                            have hl : lv_has ls 5 [(1, .int (zB ((mGp Fr To Le g1 (i + 1)).2))), (4, .int (nI (((mGp Fr To Le g1 i).1) (To i)))), (3, .int (nI (((mGp Fr To Le g1 i).1) (Fr i)))), (0, .ref mo), (2, .int (nI i))] := by
                              have q9 : zB ((mGp Fr To Le g1 (i + 1)).2) = zB true := by first | rw [mGp_s (Or.inl h70)] | rw [mGp_s (Or.inr h76)] | rw [mGp_u h70 h76]
                              rw [q9]; exact hl
                            have q9 : (fun j => nI (((mGp Fr To Le g1 (i + 1)).1) j)) = (fun j => nI ((va_up (va_up ((mGp Fr To Le g1 i).1) (Fr i) (mMin ((mGp Fr To Le g1 i).1 (Fr i)) ((mGp Fr To Le g1 i).1 (To i)))) (To i) (mMin ((mGp Fr To Le g1 i).1 (Fr i)) ((mGp Fr To Le g1 i).1 (To i)))) j)) := by first | rw [mGp_s (Or.inl h70)] | rw [mGp_s (Or.inr h76)] | rw [mGp_u h70 h76]
                            have hP : va_P D vwCl [(mo, .inr (6, [.int (nI mth), .int (zB dir), .int (nI nv), .int (nI me), .ref mf, .ref mt, .ref mw, .ref mr, .int (nI mrn), .ref mp, .int (nI mst), .int (zB mhr), .ref mx, .ref mfa, .ref mbi, .ref mod1, .int (nI mon), .ref msc, .ref msb, .ref msu, .ref mwy, .ref mre, .ref mby, .ref msm, .ref mle, .ref mgr])), (mf, aI cA 40 (fun j => nI (Fr j))), (mt, aI cA 40 (fun j => nI (To j))), (mle, aI cA 40 (fun j => iZ (Le j))), (mgr, aI cA 16 (fun j => nI (((mGp Fr To Le g1 (i + 1)).1) j)))] H := by rw [q9]; exact hP
                            have hD : va_D A [(mo, .inr (6, [.int (nI mth), .int (zB dir), .int (nI nv), .int (nI me), .ref mf, .ref mt, .ref mw, .ref mr, .int (nI mrn), .ref mp, .int (nI mst), .int (zB mhr), .ref mx, .ref mfa, .ref mbi, .ref mod1, .int (nI mon), .ref msc, .ref msb, .ref msu, .ref mwy, .ref mre, .ref mby, .ref msm, .ref mle, .ref mgr])), (mf, aI cA 40 (fun j => nI (Fr j))), (mt, aI cA 40 (fun j => nI (To j))), (mle, aI cA 40 (fun j => iZ (Le j))), (mgr, aI cA 16 (fun j => nI (((mGp Fr To Le g1 (i + 1)).1) j)))] := by rw [q9]; exact hD
                            refine lv_iinc (v := nI (i + 1)) (lv' := [(2, .int (nI (i + 1))), (1, .int (zB ((mGp Fr To Le g1 (i + 1)).2))), (4, .int (nI (((mGp Fr To Le g1 i).1) (To i)))), (3, .int (nI (((mGp Fr To Le g1 i).1) (Fr i)))), (0, .ref mo)]) hx hb dX6_groups_130 hl (k := 4) rfl (nI_1 i) (by decide) rfl (fun ls hl => ?_)
                            refine lv_goto (tgt := 31) hx hb dX6_groups_133 (by decide) ?_
                            exact ih31 (i + 1) (by omega) (by omega) _ _ (hP) (hD) hS ls (lv_sub hl [4, 1, 0] (by rfl))
                        · skip
                          refine lv_iload_n hx hb dX6_groups_100 rfl (lv_at hl 2 rfl) ?_
                          refine lv_goto (tgt := 106) hx hb dX6_groups_101 (by decide) ?_
                          refine z_topi (v := nI (mMin ((mGp Fr To Le g1 i).1 (Fr i)) ((mGp Fr To Le g1 i).1 (To i)))) (by congr 1; simp only [mMin]; first | (rw [if_pos (by omega)]; done) | (rw [if_neg (by omega)]; done) | (exfalso; omega)) ?_
                          refine z_iast hx hb hK hP hD hS 4 0 rfl rfl (k := (Fr i)) (hF _) (by decide) (f' := (fun j => nI ((va_up ((mGp Fr To Le g1 i).1) (Fr i) (mMin ((mGp Fr To Le g1 i).1 (Fr i)) ((mGp Fr To Le g1 i).1 (To i)))) j))) (upd_nI ((mGp Fr To Le g1 i).1) (Fr i) (mMin ((mGp Fr To Le g1 i).1 (Fr i)) ((mGp Fr To Le g1 i).1 (To i)))) (ws' := [(mo, .inr (6, [.int (nI mth), .int (zB dir), .int (nI nv), .int (nI me), .ref mf, .ref mt, .ref mw, .ref mr, .int (nI mrn), .ref mp, .int (nI mst), .int (zB mhr), .ref mx, .ref mfa, .ref mbi, .ref mod1, .int (nI mon), .ref msc, .ref msb, .ref msu, .ref mwy, .ref mre, .ref mby, .ref msm, .ref mle, .ref mgr])), (mf, aI cA 40 (fun j => nI (Fr j))), (mt, aI cA 40 (fun j => nI (To j))), (mle, aI cA 40 (fun j => iZ (Le j))), (mgr, aI cA 16 (fun j => nI ((va_up ((mGp Fr To Le g1 i).1) (Fr i) (mMin ((mGp Fr To Le g1 i).1 (Fr i)) ((mGp Fr To Le g1 i).1 (To i)))) j)))]) rfl dX6_groups_106 (fun H locs hP hD hS => ?_)
                          refine lv_aload_n hx hb dX6_groups_107 rfl (lv_at hl 3 rfl) ?_
                          refine va_get (D := D) (ci := 6) (v := .ref mgr) (C := RX6) (T := TX6) (N := 26) hx hb hts hin6 hown hK hP 0 rfl rfl 25 (by decide) (hts (.fieldLink RX6 68 "TourHouseModel" "group" "[I") (by decide +kernel)) (fun _ h9 => h9) rfl dX6_groups_108 ?_
                          refine lv_aload_n hx hb dX6_groups_111 rfl (lv_at hl 3 rfl) ?_
                          refine va_get (D := D) (ci := 6) (v := .ref mt) (C := RX6) (T := TX6) (N := 26) hx hb hts hin6 hown hK hP 0 rfl rfl 5 (by decide) (hts (.fieldLink RX6 17 "TourHouseModel" "to" "[I") (by decide +kernel)) (fun _ h9 => h9) rfl dX6_groups_112 ?_
                          refine lv_iload_n hx hb dX6_groups_115 rfl (lv_at hl 4 rfl) ?_
                          refine z_iald hx hb hK hP 2 0 rfl rfl (k := i) (by omega) (by decide) (v := nI (To i)) rfl dX6_groups_116 ?_
                          refine lv_iload_n hx hb dX6_groups_117 rfl (lv_at hl 2 rfl) ?_
                          refine lv_iload hx hb dX6_groups_118 (lv_at hl 1 rfl) ?_
                          refine z_ge hx hb (Nat.lt_trans (mGp_b hg1 i _) (by decide)) (Nat.lt_trans (mGp_b hg1 i _) (by decide)) (tgt := 127) dX6_groups_120 (by decide) (fun h120 => ?_) (fun h120 => ?_)
                          · skip
                            refine lv_iload hx hb dX6_groups_127 (lv_at hl 1 rfl) ?_
                            refine z_topi (v := nI (mMin ((mGp Fr To Le g1 i).1 (Fr i)) ((mGp Fr To Le g1 i).1 (To i)))) (by congr 1; simp only [mMin]; first | (rw [if_pos (by omega)]; done) | (rw [if_neg (by omega)]; done) | (exfalso; omega)) ?_
                            refine z_iast hx hb hK hP hD hS 4 0 rfl rfl (k := (To i)) (hT _) (by decide) (f' := (fun j => nI ((va_up (va_up ((mGp Fr To Le g1 i).1) (Fr i) (mMin ((mGp Fr To Le g1 i).1 (Fr i)) ((mGp Fr To Le g1 i).1 (To i)))) (To i) (mMin ((mGp Fr To Le g1 i).1 (Fr i)) ((mGp Fr To Le g1 i).1 (To i)))) j))) (upd_nI (va_up ((mGp Fr To Le g1 i).1) (Fr i) (mMin ((mGp Fr To Le g1 i).1 (Fr i)) ((mGp Fr To Le g1 i).1 (To i)))) (To i) (mMin ((mGp Fr To Le g1 i).1 (Fr i)) ((mGp Fr To Le g1 i).1 (To i)))) (ws' := [(mo, .inr (6, [.int (nI mth), .int (zB dir), .int (nI nv), .int (nI me), .ref mf, .ref mt, .ref mw, .ref mr, .int (nI mrn), .ref mp, .int (nI mst), .int (zB mhr), .ref mx, .ref mfa, .ref mbi, .ref mod1, .int (nI mon), .ref msc, .ref msb, .ref msu, .ref mwy, .ref mre, .ref mby, .ref msm, .ref mle, .ref mgr])), (mf, aI cA 40 (fun j => nI (Fr j))), (mt, aI cA 40 (fun j => nI (To j))), (mle, aI cA 40 (fun j => iZ (Le j))), (mgr, aI cA 16 (fun j => nI ((va_up (va_up ((mGp Fr To Le g1 i).1) (Fr i) (mMin ((mGp Fr To Le g1 i).1 (Fr i)) ((mGp Fr To Le g1 i).1 (To i)))) (To i) (mMin ((mGp Fr To Le g1 i).1 (Fr i)) ((mGp Fr To Le g1 i).1 (To i)))) j)))]) rfl dX6_groups_129 (fun H locs hP hD hS => ?_)
                            have hl : lv_has ls 5 [(1, .int (zB ((mGp Fr To Le g1 (i + 1)).2))), (4, .int (nI (((mGp Fr To Le g1 i).1) (To i)))), (3, .int (nI (((mGp Fr To Le g1 i).1) (Fr i)))), (0, .ref mo), (2, .int (nI i))] := by
                              have q9 : zB ((mGp Fr To Le g1 (i + 1)).2) = zB true := by first | rw [mGp_s (Or.inl h70)] | rw [mGp_s (Or.inr h76)] | rw [mGp_u h70 h76]
                              rw [q9]; exact hl
                            have q9 : (fun j => nI (((mGp Fr To Le g1 (i + 1)).1) j)) = (fun j => nI ((va_up (va_up ((mGp Fr To Le g1 i).1) (Fr i) (mMin ((mGp Fr To Le g1 i).1 (Fr i)) ((mGp Fr To Le g1 i).1 (To i)))) (To i) (mMin ((mGp Fr To Le g1 i).1 (Fr i)) ((mGp Fr To Le g1 i).1 (To i)))) j)) := by first | rw [mGp_s (Or.inl h70)] | rw [mGp_s (Or.inr h76)] | rw [mGp_u h70 h76]
                            have hP : va_P D vwCl [(mo, .inr (6, [.int (nI mth), .int (zB dir), .int (nI nv), .int (nI me), .ref mf, .ref mt, .ref mw, .ref mr, .int (nI mrn), .ref mp, .int (nI mst), .int (zB mhr), .ref mx, .ref mfa, .ref mbi, .ref mod1, .int (nI mon), .ref msc, .ref msb, .ref msu, .ref mwy, .ref mre, .ref mby, .ref msm, .ref mle, .ref mgr])), (mf, aI cA 40 (fun j => nI (Fr j))), (mt, aI cA 40 (fun j => nI (To j))), (mle, aI cA 40 (fun j => iZ (Le j))), (mgr, aI cA 16 (fun j => nI (((mGp Fr To Le g1 (i + 1)).1) j)))] H := by rw [q9]; exact hP
                            have hD : va_D A [(mo, .inr (6, [.int (nI mth), .int (zB dir), .int (nI nv), .int (nI me), .ref mf, .ref mt, .ref mw, .ref mr, .int (nI mrn), .ref mp, .int (nI mst), .int (zB mhr), .ref mx, .ref mfa, .ref mbi, .ref mod1, .int (nI mon), .ref msc, .ref msb, .ref msu, .ref mwy, .ref mre, .ref mby, .ref msm, .ref mle, .ref mgr])), (mf, aI cA 40 (fun j => nI (Fr j))), (mt, aI cA 40 (fun j => nI (To j))), (mle, aI cA 40 (fun j => iZ (Le j))), (mgr, aI cA 16 (fun j => nI (((mGp Fr To Le g1 (i + 1)).1) j)))] := by rw [q9]; exact hD
                            refine lv_iinc (v := nI (i + 1)) (lv' := [(2, .int (nI (i + 1))), (1, .int (zB ((mGp Fr To Le g1 (i + 1)).2))), (4, .int (nI (((mGp Fr To Le g1 i).1) (To i)))), (3, .int (nI (((mGp Fr To Le g1 i).1) (Fr i)))), (0, .ref mo)]) hx hb dX6_groups_130 hl (k := 4) rfl (nI_1 i) (by decide) rfl (fun ls hl => ?_)
                            refine lv_goto (tgt := 31) hx hb dX6_groups_133 (by decide) ?_
                            exact ih31 (i + 1) (by omega) (by omega) _ _ (hP) (hD) hS ls (lv_sub hl [4, 1, 0] (by rfl))
                          · skip
                            refine lv_iload_n hx hb dX6_groups_123 rfl (lv_at hl 2 rfl) ?_
                            refine lv_goto (tgt := 129) hx hb dX6_groups_124 (by decide) ?_
                            refine z_topi (v := nI (mMin ((mGp Fr To Le g1 i).1 (Fr i)) ((mGp Fr To Le g1 i).1 (To i)))) (by congr 1; simp only [mMin]; first | (rw [if_pos (by omega)]; done) | (rw [if_neg (by omega)]; done) | (exfalso; omega)) ?_
                            refine z_iast hx hb hK hP hD hS 4 0 rfl rfl (k := (To i)) (hT _) (by decide) (f' := (fun j => nI ((va_up (va_up ((mGp Fr To Le g1 i).1) (Fr i) (mMin ((mGp Fr To Le g1 i).1 (Fr i)) ((mGp Fr To Le g1 i).1 (To i)))) (To i) (mMin ((mGp Fr To Le g1 i).1 (Fr i)) ((mGp Fr To Le g1 i).1 (To i)))) j))) (upd_nI (va_up ((mGp Fr To Le g1 i).1) (Fr i) (mMin ((mGp Fr To Le g1 i).1 (Fr i)) ((mGp Fr To Le g1 i).1 (To i)))) (To i) (mMin ((mGp Fr To Le g1 i).1 (Fr i)) ((mGp Fr To Le g1 i).1 (To i)))) (ws' := [(mo, .inr (6, [.int (nI mth), .int (zB dir), .int (nI nv), .int (nI me), .ref mf, .ref mt, .ref mw, .ref mr, .int (nI mrn), .ref mp, .int (nI mst), .int (zB mhr), .ref mx, .ref mfa, .ref mbi, .ref mod1, .int (nI mon), .ref msc, .ref msb, .ref msu, .ref mwy, .ref mre, .ref mby, .ref msm, .ref mle, .ref mgr])), (mf, aI cA 40 (fun j => nI (Fr j))), (mt, aI cA 40 (fun j => nI (To j))), (mle, aI cA 40 (fun j => iZ (Le j))), (mgr, aI cA 16 (fun j => nI ((va_up (va_up ((mGp Fr To Le g1 i).1) (Fr i) (mMin ((mGp Fr To Le g1 i).1 (Fr i)) ((mGp Fr To Le g1 i).1 (To i)))) (To i) (mMin ((mGp Fr To Le g1 i).1 (Fr i)) ((mGp Fr To Le g1 i).1 (To i)))) j)))]) rfl dX6_groups_129 (fun H locs hP hD hS => ?_)
                            have hl : lv_has ls 5 [(1, .int (zB ((mGp Fr To Le g1 (i + 1)).2))), (4, .int (nI (((mGp Fr To Le g1 i).1) (To i)))), (3, .int (nI (((mGp Fr To Le g1 i).1) (Fr i)))), (0, .ref mo), (2, .int (nI i))] := by
                              have q9 : zB ((mGp Fr To Le g1 (i + 1)).2) = zB true := by first | rw [mGp_s (Or.inl h70)] | rw [mGp_s (Or.inr h76)] | rw [mGp_u h70 h76]
                              rw [q9]; exact hl
                            have q9 : (fun j => nI (((mGp Fr To Le g1 (i + 1)).1) j)) = (fun j => nI ((va_up (va_up ((mGp Fr To Le g1 i).1) (Fr i) (mMin ((mGp Fr To Le g1 i).1 (Fr i)) ((mGp Fr To Le g1 i).1 (To i)))) (To i) (mMin ((mGp Fr To Le g1 i).1 (Fr i)) ((mGp Fr To Le g1 i).1 (To i)))) j)) := by first | rw [mGp_s (Or.inl h70)] | rw [mGp_s (Or.inr h76)] | rw [mGp_u h70 h76]
                            have hP : va_P D vwCl [(mo, .inr (6, [.int (nI mth), .int (zB dir), .int (nI nv), .int (nI me), .ref mf, .ref mt, .ref mw, .ref mr, .int (nI mrn), .ref mp, .int (nI mst), .int (zB mhr), .ref mx, .ref mfa, .ref mbi, .ref mod1, .int (nI mon), .ref msc, .ref msb, .ref msu, .ref mwy, .ref mre, .ref mby, .ref msm, .ref mle, .ref mgr])), (mf, aI cA 40 (fun j => nI (Fr j))), (mt, aI cA 40 (fun j => nI (To j))), (mle, aI cA 40 (fun j => iZ (Le j))), (mgr, aI cA 16 (fun j => nI (((mGp Fr To Le g1 (i + 1)).1) j)))] H := by rw [q9]; exact hP
                            have hD : va_D A [(mo, .inr (6, [.int (nI mth), .int (zB dir), .int (nI nv), .int (nI me), .ref mf, .ref mt, .ref mw, .ref mr, .int (nI mrn), .ref mp, .int (nI mst), .int (zB mhr), .ref mx, .ref mfa, .ref mbi, .ref mod1, .int (nI mon), .ref msc, .ref msb, .ref msu, .ref mwy, .ref mre, .ref mby, .ref msm, .ref mle, .ref mgr])), (mf, aI cA 40 (fun j => nI (Fr j))), (mt, aI cA 40 (fun j => nI (To j))), (mle, aI cA 40 (fun j => iZ (Le j))), (mgr, aI cA 16 (fun j => nI (((mGp Fr To Le g1 (i + 1)).1) j)))] := by rw [q9]; exact hD
                            refine lv_iinc (v := nI (i + 1)) (lv' := [(2, .int (nI (i + 1))), (1, .int (zB ((mGp Fr To Le g1 (i + 1)).2))), (4, .int (nI (((mGp Fr To Le g1 i).1) (To i)))), (3, .int (nI (((mGp Fr To Le g1 i).1) (Fr i)))), (0, .ref mo)]) hx hb dX6_groups_130 hl (k := 4) rfl (nI_1 i) (by decide) rfl (fun ls hl => ?_)
                            refine lv_goto (tgt := 31) hx hb dX6_groups_133 (by decide) ?_
                            exact ih31 (i + 1) (by omega) (by omega) _ _ (hP) (hD) hS ls (lv_sub hl [4, 1, 0] (by rfl))
                      · skip
                        refine lv_goto (tgt := 130) hx hb dX6_groups_79 (by decide) ?_
                        have hl : lv_has ls 5 [(4, .int (nI (((mGp Fr To Le g1 i).1) (To i)))), (3, .int (nI (((mGp Fr To Le g1 i).1) (Fr i)))), (0, .ref mo), (1, .int (zB ((mGp Fr To Le g1 (i + 1)).2))), (2, .int (nI i))] := by
                          have q9 : zB ((mGp Fr To Le g1 (i + 1)).2) = zB ((mGp Fr To Le g1 i).2) := by first | rw [mGp_s (Or.inl h70)] | rw [mGp_s (Or.inr h76)] | rw [mGp_u h70 h76]
                          rw [q9]; exact hl
                        have q9 : (fun j => nI (((mGp Fr To Le g1 (i + 1)).1) j)) = (fun j => nI (((mGp Fr To Le g1 i).1) j)) := by first | rw [mGp_s (Or.inl h70)] | rw [mGp_s (Or.inr h76)] | rw [mGp_u h70 h76]
                        have hP : va_P D vwCl [(mo, .inr (6, [.int (nI mth), .int (zB dir), .int (nI nv), .int (nI me), .ref mf, .ref mt, .ref mw, .ref mr, .int (nI mrn), .ref mp, .int (nI mst), .int (zB mhr), .ref mx, .ref mfa, .ref mbi, .ref mod1, .int (nI mon), .ref msc, .ref msb, .ref msu, .ref mwy, .ref mre, .ref mby, .ref msm, .ref mle, .ref mgr])), (mf, aI cA 40 (fun j => nI (Fr j))), (mt, aI cA 40 (fun j => nI (To j))), (mle, aI cA 40 (fun j => iZ (Le j))), (mgr, aI cA 16 (fun j => nI (((mGp Fr To Le g1 (i + 1)).1) j)))] H := by rw [q9]; exact hP
                        have hD : va_D A [(mo, .inr (6, [.int (nI mth), .int (zB dir), .int (nI nv), .int (nI me), .ref mf, .ref mt, .ref mw, .ref mr, .int (nI mrn), .ref mp, .int (nI mst), .int (zB mhr), .ref mx, .ref mfa, .ref mbi, .ref mod1, .int (nI mon), .ref msc, .ref msb, .ref msu, .ref mwy, .ref mre, .ref mby, .ref msm, .ref mle, .ref mgr])), (mf, aI cA 40 (fun j => nI (Fr j))), (mt, aI cA 40 (fun j => nI (To j))), (mle, aI cA 40 (fun j => iZ (Le j))), (mgr, aI cA 16 (fun j => nI (((mGp Fr To Le g1 (i + 1)).1) j)))] := by rw [q9]; exact hD
                        refine lv_iinc (v := nI (i + 1)) (lv' := [(2, .int (nI (i + 1))), (4, .int (nI (((mGp Fr To Le g1 i).1) (To i)))), (3, .int (nI (((mGp Fr To Le g1 i).1) (Fr i)))), (0, .ref mo), (1, .int (zB ((mGp Fr To Le g1 (i + 1)).2)))]) hx hb dX6_groups_130 hl (k := 4) rfl (nI_1 i) (by decide) rfl (fun ls hl => ?_)
                        refine lv_goto (tgt := 31) hx hb dX6_groups_133 (by decide) ?_
                        exact ih31 (i + 1) (by omega) (by omega) _ _ (hP) (hD) hS ls (lv_sub hl [3, 4, 0] (by rfl))
              exact J31 ((me - 0) + 1) 0 (by omega) (by omega) _ _ (hP) (hD) hS ls (lv_sub hl [2, 1, 0] (by rfl))
        exact J23 (241 + 1) 241 (gI Gr 16) true (gI_b hGr 16) (fun _ => gI_S Gr) rfl (by omega) _ _ (by have q : i = 16 := (by omega); rw [q] at hP; exact hP) (by have q : i = 16 := (by omega); rw [q] at hD; exact hD) hS ls (lv_sub hl [1, 0] (by rfl))
      · skip
        refine lv_aload_n hx hb dX6_groups_8 rfl (lv_at hl 0 rfl) ?_
        refine va_get (D := D) (ci := 6) (v := .ref mgr) (C := RX6) (T := TX6) (N := 26) hx hb hts hin6 hown hK hP 0 rfl rfl 25 (by decide) (hts (.fieldLink RX6 68 "TourHouseModel" "group" "[I") (by decide +kernel)) (fun _ h9 => h9) rfl dX6_groups_9 ?_
        refine lv_iload_n hx hb dX6_groups_12 rfl (lv_at hl 1 rfl) ?_
        refine lv_iload_n hx hb dX6_groups_13 rfl (lv_at hl 1 rfl) ?_
        refine z_iast hx hb hK hP hD hS 4 0 rfl rfl (k := i) (by omega) (by decide) (f' := (fun j => nI ((gI Gr (i + 1)) j))) ((upd_nI (gI Gr i) i i).trans (by rw [gI_up])) (ws' := [(mo, .inr (6, [.int (nI mth), .int (zB dir), .int (nI nv), .int (nI me), .ref mf, .ref mt, .ref mw, .ref mr, .int (nI mrn), .ref mp, .int (nI mst), .int (zB mhr), .ref mx, .ref mfa, .ref mbi, .ref mod1, .int (nI mon), .ref msc, .ref msb, .ref msu, .ref mwy, .ref mre, .ref mby, .ref msm, .ref mle, .ref mgr])), (mf, aI cA 40 (fun j => nI (Fr j))), (mt, aI cA 40 (fun j => nI (To j))), (mle, aI cA 40 (fun j => iZ (Le j))), (mgr, aI cA 16 (fun j => nI ((gI Gr (i + 1)) j)))]) rfl dX6_groups_14 (fun H locs hP hD hS => ?_)
        refine lv_iinc (v := nI (i + 1)) (lv' := [(1, .int (nI (i + 1))), (0, .ref mo)]) hx hb dX6_groups_15 hl (k := 1) rfl (nI_1 i) (by decide) rfl (fun ls hl => ?_)
        refine lv_goto (tgt := 2) hx hb dX6_groups_18 (by decide) ?_
        exact ih2 (i + 1) (by omega) (by omega) _ _ (hP) (hD) hS ls (lv_sub hl [1, 0] (by rfl))
  exact J2 ((16 - 0) + 1) 0 (by omega) (by omega) _ _ (by rw [gI_0]; exact hP) (by rw [gI_0]; exact hD) hS ls (lv_sub hl [1, 0] (by rfl))
set_option maxHeartbeats 4000000 in
set_option maxRecDepth 100000 in
/-- Model.hang -/
theorem c_X6_hang (l : Launch) (D : va_G) (cA : Nat → ClassId) (sz : Nat) (mo : Nat) (mf : Nat) (mt : Nat) (mw : Nat) (mr : Nat) (mp : Nat) (mx : Nat) (mfa : Nat) (mbi : Nat) (mod1 : Nat) (msc : Nat) (msb : Nat) (msu : Nat) (mwy : Nat) (mre : Nat) (mby : Nat) (msm : Nat) (mle : Nat) (mgr : Nat) (mth : Nat) (dir : Bool) (nv : Nat) (me : Nat) (mrn : Nat) (mst : Nat) (mhr : Bool) (mon : Nat) (Fr : Nat → Nat) (To : Nat → Nat) (Le : Nat → Int) (Gr : Nat → Nat) (v : Nat) (hme : me ≤ 40) (hF : ∀ j, Fr j < 16) (hT : ∀ j, To j < 16) (hLe : ∀ j, -2147483648 ≤ Le j ∧ Le j < 2147483648) (hGr : ∀ j, Gr j < 65536) (hv : v < 16) : Met l yX6_hang wsX6_hang ({ frames := 1, cells := 0, slots := 0, locals := 24 } : Room) (zWr D vwCl (zT cA) [(mo, .inr (6, [.int (nI mth), .int (zB dir), .int (nI nv), .int (nI me), .ref mf, .ref mt, .ref mw, .ref mr, .int (nI mrn), .ref mp, .int (nI mst), .int (zB mhr), .ref mx, .ref mfa, .ref mbi, .ref mod1, .int (nI mon), .ref msc, .ref msb, .ref msu, .ref mwy, .ref mre, .ref mby, .ref msm, .ref mle, .ref mgr])), (mf, aI cA 40 (fun j => nI (Fr j))), (mt, aI cA 40 (fun j => nI (To j))), (mle, aI cA 40 (fun j => iZ (Le j))), (mgr, aI cA 16 (fun j => nI (Gr j)))] sz [.ref mo, .int (nI v)]) (zQi D vwCl (zT cA) (va_A [(mo, .inr (6, [.int (nI mth), .int (zB dir), .int (nI nv), .int (nI me), .ref mf, .ref mt, .ref mw, .ref mr, .int (nI mrn), .ref mp, .int (nI mst), .int (zB mhr), .ref mx, .ref mfa, .ref mbi, .ref mod1, .int (nI mon), .ref msc, .ref msb, .ref msu, .ref mwy, .ref mre, .ref mby, .ref msm, .ref mle, .ref mgr])), (mf, aI cA 40 (fun j => nI (Fr j))), (mt, aI cA 40 (fun j => nI (To j))), (mle, aI cA 40 (fun j => iZ (Le j))), (mgr, aI cA 16 (fun j => nI (Gr j)))] sz) [(mo, .inr (6, [.int (nI mth), .int (zB dir), .int (nI nv), .int (nI me), .ref mf, .ref mt, .ref mw, .ref mr, .int (nI mrn), .ref mp, .int (nI mst), .int (zB mhr), .ref mx, .ref mfa, .ref mbi, .ref mod1, .int (nI mon), .ref msc, .ref msb, .ref msu, .ref mwy, .ref mre, .ref mby, .ref msm, .ref mle, .ref mgr])), (mf, aI cA 40 (fun j => nI (Fr j))), (mt, aI cA 40 (fun j => nI (To j))), (mle, aI cA 40 (fun j => iZ (Le j))), (mgr, aI cA 16 (fun j => nI ((mGroups Fr To Le me Gr) j)))] (zB (mHg (mGroups Fr To Le me Gr) Fr Le v me))) 0 0 (va_A [(mo, .inr (6, [.int (nI mth), .int (zB dir), .int (nI nv), .int (nI me), .ref mf, .ref mt, .ref mw, .ref mr, .int (nI mrn), .ref mp, .int (nI mst), .int (zB mhr), .ref mx, .ref mfa, .ref mbi, .ref mod1, .int (nI mon), .ref msc, .ref msb, .ref msu, .ref mwy, .ref mre, .ref mby, .ref msm, .ref mle, .ref mgr])), (mf, aI cA 40 (fun j => nI (Fr j))), (mt, aI cA 40 (fun j => nI (To j))), (mle, aI cA 40 (fun j => iZ (Le j))), (mgr, aI cA 16 (fun j => nI (Gr j)))] sz) := by
  refine z_write (cc := cX6_hang) (maxL := 4) (ret := (some .boolean)) (by decide) rfl (Nat.le_of_ble_eq_true rfl) ?_
  intro p e s m below meth c hx hb hr hml hown hts hlocks A hAe hA H locs hP hK hD hS hini Q hQ ls hl
  have hown : s.vm.findClass RX6 = some m.cls := hown
  have hl : lv_has ls 4 [(0, .ref mo), (1, .int (nI v))] := hl
  generalize hav : ([.ref mo, .int (nI v)] : List Value).toArray = args at hts hQ ⊢
  have hin6 : ∀ w ∈ wsX60, w ∈ wsX6_hang := by decide +kernel
  refine lv_aload_n hx hb dX6_hang_0 rfl (lv_at hl 0 rfl) ?_
  refine z_cWVv (wc := [(mo, .inr (6, [.int (nI mth), .int (zB dir), .int (nI nv), .int (nI me), .ref mf, .ref mt, .ref mw, .ref mr, .int (nI mrn), .ref mp, .int (nI mst), .int (zB mhr), .ref mx, .ref mfa, .ref mbi, .ref mod1, .int (nI mon), .ref msc, .ref msb, .ref msu, .ref mwy, .ref mre, .ref mby, .ref msm, .ref mle, .ref mgr])), (mf, aI cA 40 (fun j => nI (Fr j))), (mt, aI cA 40 (fun j => nI (To j))), (mle, aI cA 40 (fun j => iZ (Le j))), (mgr, aI cA 16 (fun j => nI (Gr j)))]) (rm := ({ frames := 0, cells := 0, slots := 0, locals := 0 } : Room)) (As := []) (rest := []) (wr := []) (w1 := [(mo, .inr (6, [.int (nI mth), .int (zB dir), .int (nI nv), .int (nI me), .ref mf, .ref mt, .ref mw, .ref mr, .int (nI mrn), .ref mp, .int (nI mst), .int (zB mhr), .ref mx, .ref mfa, .ref mbi, .ref mod1, .int (nI mon), .ref msc, .ref msb, .ref msu, .ref mwy, .ref mre, .ref mby, .ref msm, .ref mle, .ref mgr])), (mf, aI cA 40 (fun j => nI (Fr j))), (mt, aI cA 40 (fun j => nI (To j))), (mle, aI cA 40 (fun j => iZ (Le j))), (mgr, aI cA 16 (fun j => nI ((mGroups Fr To Le me Gr) j)))]) (ws' := [(mo, .inr (6, [.int (nI mth), .int (zB dir), .int (nI nv), .int (nI me), .ref mf, .ref mt, .ref mw, .ref mr, .int (nI mrn), .ref mp, .int (nI mst), .int (zB mhr), .ref mx, .ref mfa, .ref mbi, .ref mod1, .int (nI mon), .ref msc, .ref msb, .ref msu, .ref mwy, .ref mre, .ref mby, .ref msm, .ref mle, .ref mgr])), (mf, aI cA 40 (fun j => nI (Fr j))), (mt, aI cA 40 (fun j => nI (To j))), (mle, aI cA 40 (fun j => iZ (Le j))), (mgr, aI cA 16 (fun j => nI ((mGroups Fr To Le me Gr) j)))]) ⟨hx, hb, hml, hown, hts⟩ (c_X6_groups l D cA H.size mo mf mt mw mr mp mx mfa mbi mod1 msc msb msu mwy mre mby msm mle mgr mth dir nv me mrn mst mhr mon Fr To Le Gr (by first | assumption | omega) (by first | assumption | omega) (by first | assumption | omega) (by first | assumption | omega) (by first | assumption | omega)) (cwV 0 hts gX6_hang_X6_groups rfl rfl rfl (by decide +kernel) ⟨Nat.le_of_ble_eq_true rfl, Nat.le_of_ble_eq_true rfl⟩) hP hK hD hS hA [0, 1, 2, 3, 4] [] [0, 1, 2, 3, 4] rfl rfl rfl rfl rfl (by decide) rfl rfl rfl 6 0 rfl rfl rfl hl.1 rfl (Nat.le_of_ble_eq_true rfl) ⟨Nat.zero_le _, Nat.zero_le _⟩ dX6_hang_1 (fun H locs hP hD hS => ?_)
  refine lv_iconst (v := zB (mHg (mGroups Fr To Le me Gr) Fr Le v 0)) hx hb dX6_hang_4 (by rfl) ?_
  refine lv_istore_n (lv' := [(2, .int (zB (mHg (mGroups Fr To Le me Gr) Fr Le v 0))), (0, .ref mo), (1, .int (nI v))]) hx hb dX6_hang_5 rfl hl (by decide) rfl (fun ls hl => ?_)
  refine lv_iconst (v := nI 0) hx hb dX6_hang_6 (by decide) ?_
  refine lv_istore_n (lv' := [(3, .int (nI 0)), (2, .int (zB (mHg (mGroups Fr To Le me Gr) Fr Le v 0))), (0, .ref mo), (1, .int (nI v))]) hx hb dX6_hang_7 rfl hl (by decide) rfl (fun ls hl => ?_)
  have J8 : ∀ (n : Nat), ∀ (i : Nat), (i ≤ me) → me - i < n → ∀ (H : Heap) (locs : List Loc), va_P D vwCl [(mo, .inr (6, [.int (nI mth), .int (zB dir), .int (nI nv), .int (nI me), .ref mf, .ref mt, .ref mw, .ref mr, .int (nI mrn), .ref mp, .int (nI mst), .int (zB mhr), .ref mx, .ref mfa, .ref mbi, .ref mod1, .int (nI mon), .ref msc, .ref msb, .ref msu, .ref mwy, .ref mre, .ref mby, .ref msm, .ref mle, .ref mgr])), (mf, aI cA 40 (fun j => nI (Fr j))), (mt, aI cA 40 (fun j => nI (To j))), (mle, aI cA 40 (fun j => iZ (Le j))), (mgr, aI cA 16 (fun j => nI ((mGroups Fr To Le me Gr) j)))] H → va_D A [(mo, .inr (6, [.int (nI mth), .int (zB dir), .int (nI nv), .int (nI me), .ref mf, .ref mt, .ref mw, .ref mr, .int (nI mrn), .ref mp, .int (nI mst), .int (zB mhr), .ref mx, .ref mfa, .ref mbi, .ref mod1, .int (nI mon), .ref msc, .ref msb, .ref msu, .ref mwy, .ref mre, .ref mby, .ref msm, .ref mle, .ref mgr])), (mf, aI cA 40 (fun j => nI (Fr j))), (mt, aI cA 40 (fun j => nI (To j))), (mle, aI cA 40 (fun j => iZ (Le j))), (mgr, aI cA 16 (fun j => nI ((mGroups Fr To Le me Gr) j)))] → va_S A s.heap H locs → ∀ (ls : Array Slot), lv_has ls 4 [(0, .ref mo), (1, .int (nI v)), (2, .int (zB (mHg (mGroups Fr To Le me Gr) Fr Le v i))), (3, .int (nI i))] → W p l e ({ frames := 1, cells := 0, slots := 0, locals := 24 } : Room) s m args below meth c H locs 0 0 Q (F0 m 8 ls []) := by
    intro n8
    induction n8 with
    | zero => intro i hi hn; exact absurd hn (Nat.not_lt_zero _)
    | succ n8 ih8 =>
      intro i hi hn8 H locs hP hD hS ls hl
      refine lv_iload_n hx hb dX6_hang_8 rfl (lv_at hl 3 rfl) ?_
      refine lv_aload_n hx hb dX6_hang_9 rfl (lv_at hl 0 rfl) ?_
      refine va_get (D := D) (ci := 6) (v := .int (nI me)) (C := RX6) (T := TX6) (N := 26) hx hb hts hin6 hown hK hP 0 rfl rfl 3 (by decide) (hts (.fieldLink RX6 85 "TourHouseModel" "m" "I") (by decide +kernel)) (fun _ h9 => h9) rfl dX6_hang_10 ?_
      refine z_ge hx hb (by omega) (by omega) (tgt := 61) dX6_hang_13 (by decide) (fun h13 => ?_) (fun h13 => ?_)
      · skip
        refine lv_iload_n hx hb dX6_hang_61 rfl (lv_at hl 2 rfl) ?_
        refine z_topi (v := zB (mHg (mGroups Fr To Le me Gr) Fr Le v me)) (by rw [show i = me from by omega]) ?_
        exact z_zretW hx hb hr hlocks hAe hQ (hP) hK (hD) hS dX6_hang_62
      · skip
        have J54 : ∀ (H : Heap) (locs : List Loc), va_P D vwCl [(mo, .inr (6, [.int (nI mth), .int (zB dir), .int (nI nv), .int (nI me), .ref mf, .ref mt, .ref mw, .ref mr, .int (nI mrn), .ref mp, .int (nI mst), .int (zB mhr), .ref mx, .ref mfa, .ref mbi, .ref mod1, .int (nI mon), .ref msc, .ref msb, .ref msu, .ref mwy, .ref mre, .ref mby, .ref msm, .ref mle, .ref mgr])), (mf, aI cA 40 (fun j => nI (Fr j))), (mt, aI cA 40 (fun j => nI (To j))), (mle, aI cA 40 (fun j => iZ (Le j))), (mgr, aI cA 16 (fun j => nI ((mGroups Fr To Le me Gr) j)))] H → va_D A [(mo, .inr (6, [.int (nI mth), .int (zB dir), .int (nI nv), .int (nI me), .ref mf, .ref mt, .ref mw, .ref mr, .int (nI mrn), .ref mp, .int (nI mst), .int (zB mhr), .ref mx, .ref mfa, .ref mbi, .ref mod1, .int (nI mon), .ref msc, .ref msb, .ref msu, .ref mwy, .ref mre, .ref mby, .ref msm, .ref mle, .ref mgr])), (mf, aI cA 40 (fun j => nI (Fr j))), (mt, aI cA 40 (fun j => nI (To j))), (mle, aI cA 40 (fun j => iZ (Le j))), (mgr, aI cA 16 (fun j => nI ((mGroups Fr To Le me Gr) j)))] → va_S A s.heap H locs → ∀ (ls : Array Slot), lv_has ls 4 [(0, .ref mo), (1, .int (nI v)), (3, .int (nI i))] → W p l e ({ frames := 1, cells := 0, slots := 0, locals := 24 } : Room) s m args below meth c H locs 0 0 Q (F0 m 54 ls [.int (zB (mHg (mGroups Fr To Le me Gr) Fr Le v (i + 1)))]) := by
          intro   H locs hP hD hS ls hl
          refine lv_istore_n (lv' := [(2, .int (zB (mHg (mGroups Fr To Le me Gr) Fr Le v (i + 1)))), (0, .ref mo), (1, .int (nI v)), (3, .int (nI i))]) hx hb dX6_hang_54 rfl hl (by decide) rfl (fun ls hl => ?_)
          refine lv_iinc (v := nI (i + 1)) (lv' := [(3, .int (nI (i + 1))), (2, .int (zB (mHg (mGroups Fr To Le me Gr) Fr Le v (i + 1)))), (0, .ref mo), (1, .int (nI v))]) hx hb dX6_hang_55 hl (k := 3) rfl (nI_1 i) (by decide) rfl (fun ls hl => ?_)
          refine lv_goto (tgt := 8) hx hb dX6_hang_58 (by decide) ?_
          exact ih8 (i + 1) (by omega) (by omega) _ _ (hP) (hD) hS ls (lv_sub hl [2, 3, 1, 0] (by rfl))
        refine lv_iload_n hx hb dX6_hang_16 rfl (lv_at hl 2 rfl) ?_
        refine z_ifeq hx hb (tgt := 53) dX6_hang_17 (by decide) (fun h17 => ?_) (fun h17 => ?_)
        · skip
          refine lv_iconst (v := zB false) hx hb dX6_hang_53 (by decide) ?_
          refine z_topi (v := zB (mHg (mGroups Fr To Le me Gr) Fr Le v (i + 1))) (by congr 1; simp [mHg, *]) ?_
          exact J54   _ _ (hP) (hD) hS ls (lv_sub hl [0, 1, 3] (by rfl))
        · skip
          refine lv_aload_n hx hb dX6_hang_20 rfl (lv_at hl 0 rfl) ?_
          refine va_get (D := D) (ci := 6) (v := .ref mle) (C := RX6) (T := TX6) (N := 26) hx hb hts hin6 hown hK hP 0 rfl rfl 24 (by decide) (hts (.fieldLink RX6 65 "TourHouseModel" "left" "[I") (by decide +kernel)) (fun _ h9 => h9) rfl dX6_hang_21 ?_
          refine lv_iload_n hx hb dX6_hang_24 rfl (lv_at hl 3 rfl) ?_
          refine z_iald hx hb hK hP 3 0 rfl rfl (k := i) (by omega) (by decide) (v := iZ (Le i)) rfl dX6_hang_25 ?_
          refine z_ieq hx hb (x := Le i) (hLe _) (tgt := 49) dX6_hang_26 (by decide) (fun h26 => ?_) (fun h26 => ?_)
          · skip
            refine lv_iconst (v := zB true) hx hb dX6_hang_49 (by decide) ?_
            refine lv_goto (tgt := 54) hx hb dX6_hang_50 (by decide) ?_
            refine z_topi (v := zB (mHg (mGroups Fr To Le me Gr) Fr Le v (i + 1))) (by congr 1; simp [mHg, *]) ?_
            exact J54   _ _ (hP) (hD) hS ls (lv_sub hl [0, 1, 3] (by rfl))
          · skip
            refine lv_aload_n hx hb dX6_hang_29 rfl (lv_at hl 0 rfl) ?_
            refine va_get (D := D) (ci := 6) (v := .ref mgr) (C := RX6) (T := TX6) (N := 26) hx hb hts hin6 hown hK hP 0 rfl rfl 25 (by decide) (hts (.fieldLink RX6 68 "TourHouseModel" "group" "[I") (by decide +kernel)) (fun _ h9 => h9) rfl dX6_hang_30 ?_
            refine lv_aload_n hx hb dX6_hang_33 rfl (lv_at hl 0 rfl) ?_
            refine va_get (D := D) (ci := 6) (v := .ref mf) (C := RX6) (T := TX6) (N := 26) hx hb hts hin6 hown hK hP 0 rfl rfl 4 (by decide) (hts (.fieldLink RX6 13 "TourHouseModel" "from" "[I") (by decide +kernel)) (fun _ h9 => h9) rfl dX6_hang_34 ?_
            refine lv_iload_n hx hb dX6_hang_37 rfl (lv_at hl 3 rfl) ?_
            refine z_iald hx hb hK hP 1 0 rfl rfl (k := i) (by omega) (by decide) (v := nI (Fr i)) rfl dX6_hang_38 ?_
            refine z_iald hx hb hK hP 4 0 rfl rfl (k := (Fr i)) (hF _) (by decide) (v := nI ((mGroups Fr To Le me Gr) (Fr i))) rfl dX6_hang_39 ?_
            refine lv_aload_n hx hb dX6_hang_40 rfl (lv_at hl 0 rfl) ?_
            refine va_get (D := D) (ci := 6) (v := .ref mgr) (C := RX6) (T := TX6) (N := 26) hx hb hts hin6 hown hK hP 0 rfl rfl 25 (by decide) (hts (.fieldLink RX6 68 "TourHouseModel" "group" "[I") (by decide +kernel)) (fun _ h9 => h9) rfl dX6_hang_41 ?_
            refine lv_iload_n hx hb dX6_hang_44 rfl (lv_at hl 1 rfl) ?_
            refine z_iald hx hb hK hP 4 0 rfl rfl (k := v) (by omega) (by decide) (v := nI ((mGroups Fr To Le me Gr) v)) rfl dX6_hang_45 ?_
            refine z_ne hx hb (Nat.lt_trans (mGroups_b hF hT hGr _) (by decide)) (Nat.lt_trans (mGroups_b hF hT hGr _) (by decide)) (tgt := 53) dX6_hang_46 (by decide) (fun h46 => ?_) (fun h46 => ?_)
            · skip
              refine lv_iconst (v := zB false) hx hb dX6_hang_53 (by decide) ?_
              refine z_topi (v := zB (mHg (mGroups Fr To Le me Gr) Fr Le v (i + 1))) (by congr 1; simp [mHg, *]) ?_
              exact J54   _ _ (hP) (hD) hS ls (lv_sub hl [0, 1, 3] (by rfl))
            · skip
              refine lv_iconst (v := zB true) hx hb dX6_hang_49 (by decide) ?_
              refine lv_goto (tgt := 54) hx hb dX6_hang_50 (by decide) ?_
              refine z_topi (v := zB (mHg (mGroups Fr To Le me Gr) Fr Le v (i + 1))) (by congr 1; simp [mHg, *]) ?_
              exact J54   _ _ (hP) (hD) hS ls (lv_sub hl [0, 1, 3] (by rfl))
  exact J8 ((me - 0) + 1) 0 (by omega) (by omega) _ _ (hP) (hD) hS ls (lv_sub hl [2, 3, 1, 0] (by rfl))
