def fl (f : Nat → Int) (x : Int) (i : Nat) : Nat → Int := fun j => if j < i then x else f j
theorem fl_0 {f : Nat → Int} {x : Int} : fl f x 0 = f := by funext j; simp [fl]
theorem fl_up {f : Nat → Int} {x : Int} {i : Nat} : va_up (fl f x i) i x = fl f x (i + 1) := by
  funext j
  by_cases e : j = i
  · subst e; rw [up_at]; simp [fl]
  · rw [up_ne e]; simp only [fl]
    by_cases h : j < i
    · rw [if_pos h, if_pos (by omega)]
    · rw [if_neg h, if_neg (by omega)]
/-- the least of the last k of n whose surplus has the sign -/
def bLw (Su : Nat → Int) (sg : Int) (nv : Nat) : Nat → Int
  | 0 => -1
  | k + 1 => if 0 < Su (nv - (k + 1)) * sg then ((nv - (k + 1) : Nat) : Int) else bLw Su sg nv k
/-- a passage back from its end: the extras with it -/
def bAdd (Fr To Ls : Nat → Nat) (src : Nat) : Nat → Nat → (Nat → Int) → (Nat → Int)
  | 0, _, X => X
  | n + 1, a, X => if a = src then X
    else if Ls a % 2 = 0 then bAdd Fr To Ls src n (Fr (Ls a / 2)) (va_up X (Ls a / 2) (X (Ls a / 2) + 1))
    else bAdd Fr To Ls src n (To (Ls a / 2)) (va_up X (Ls a / 2) (X (Ls a / 2) - 1))
set_option maxHeartbeats 4000000 in
set_option maxRecDepth 100000 in
/-- Arrays.fill -/
theorem c_J7_fill_53178 (l : Launch) (D : va_G) (cA : Nat → ClassId) (sz : Nat) (fq : Nat) (fn : Nat) (ff : Nat → Int) (x : Int) (hfn : fn ≤ 65536) : Met l yJ7_fill_53178 wsJ7_fill_53178 ({ frames := 0, cells := 0, slots := 0, locals := 0 } : Room) (zWr D vwCl (zT cA) [(fq, aI cA fn (fun j => iZ (ff j)))] sz [.ref fq, .int (iZ x)]) (zQv D vwCl (zT cA) (va_A [(fq, aI cA fn (fun j => iZ (ff j)))] sz) [(fq, aI cA fn (fun j => iZ ((fl ff x fn) j)))]) 0 0 (va_A [(fq, aI cA fn (fun j => iZ (ff j)))] sz) := by
  refine z_write (cc := cJ7_fill_53178) (maxL := 4) (ret := none) (by decide) rfl (Nat.le_of_ble_eq_true rfl) ?_
  intro p e s m below meth c hx hb hr hml hown hts hlocks A hAe hA H locs hP hK hD hS hini Q hQ ls hl
  have hown : s.vm.findClass RJ7 = some m.cls := hown
  have hl : lv_has ls 4 [(0, .ref fq), (1, .int (iZ x))] := hl
  generalize hav : ([.ref fq, .int (iZ x)] : List Value).toArray = args at hts hQ ⊢
  refine lv_iconst (v := nI 0) hx hb dJ7_fill_53178_0 (by decide) ?_
  refine lv_istore_n (lv' := [(2, .int (nI 0)), (0, .ref fq), (1, .int (iZ x))]) hx hb dJ7_fill_53178_1 rfl hl (by decide) rfl (fun ls hl => ?_)
  refine lv_aload_n hx hb dJ7_fill_53178_2 rfl (lv_at hl 1 rfl) ?_
  refine va_alen hx hb hK hP 0 0 rfl rfl (v := nI fn) rfl dJ7_fill_53178_3 ?_
  refine lv_istore_n (lv' := [(3, .int (nI fn)), (2, .int (nI 0)), (0, .ref fq), (1, .int (iZ x))]) hx hb dJ7_fill_53178_4 rfl hl (by decide) rfl (fun ls hl => ?_)
  have J5 : ∀ (n : Nat), ∀ (i : Nat), (i ≤ fn) → fn - i < n → ∀ (H : Heap) (locs : List Loc), va_P D vwCl [(fq, aI cA fn (fun j => iZ ((fl ff x i) j)))] H → va_D A [(fq, aI cA fn (fun j => iZ ((fl ff x i) j)))] → va_S A s.heap H locs → ∀ (ls : Array Slot), lv_has ls 4 [(0, .ref fq), (1, .int (iZ x)), (2, .int (nI i)), (3, .int (nI fn))] → W p l e ({ frames := 0, cells := 0, slots := 0, locals := 0 } : Room) s m args below meth c H locs 0 0 Q (F0 m 5 ls []) := by
    intro n5
    induction n5 with
    | zero => intro i hi hn; exact absurd hn (Nat.not_lt_zero _)
    | succ n5 ih5 =>
      intro i hi hn5 H locs hP hD hS ls hl
      refine lv_iload_n hx hb dJ7_fill_53178_5 rfl (lv_at hl 2 rfl) ?_
      refine lv_iload_n hx hb dJ7_fill_53178_6 rfl (lv_at hl 3 rfl) ?_
      refine z_ge hx hb (by omega) (by omega) (tgt := 20) dJ7_fill_53178_7 (by decide) (fun h7 => ?_) (fun h7 => ?_)
      · skip
        have q9 : (fun j => iZ ((fl ff x fn) j)) = (fun j => iZ ((fl ff x i) j)) := by rw [show i = fn from by omega]
        have hP : va_P D vwCl [(fq, aI cA fn (fun j => iZ ((fl ff x fn) j)))] H := by rw [q9]; exact hP
        have hD : va_D A [(fq, aI cA fn (fun j => iZ ((fl ff x fn) j)))] := by rw [q9]; exact hD
        exact z_vretW hx hb hr hlocks hAe hQ (hP) hK (hD) hS dJ7_fill_53178_20
      · skip
        refine lv_aload_n hx hb dJ7_fill_53178_10 rfl (lv_at hl 0 rfl) ?_
        refine lv_iload_n hx hb dJ7_fill_53178_11 rfl (lv_at hl 2 rfl) ?_
        refine lv_iload_n hx hb dJ7_fill_53178_12 rfl (lv_at hl 1 rfl) ?_
        refine z_iast hx hb hK hP hD hS 0 0 rfl rfl (k := i) (by omega) (by omega) (f' := (fun j => iZ ((fl ff x (i + 1)) j))) ((upd_iZ _ _ _).trans (by rw [fl_up])) (ws' := [(fq, aI cA fn (fun j => iZ ((fl ff x (i + 1)) j)))]) rfl dJ7_fill_53178_13 (fun H locs hP hD hS => ?_)
        refine lv_iinc (v := nI (i + 1)) (lv' := [(2, .int (nI (i + 1))), (0, .ref fq), (1, .int (iZ x)), (3, .int (nI fn))]) hx hb dJ7_fill_53178_14 hl (k := 2) rfl (nI_1 i) (by decide) rfl (fun ls hl => ?_)
        refine lv_goto (tgt := 5) hx hb dJ7_fill_53178_17 (by decide) ?_
        exact ih5 (i + 1) (by omega) (by omega) _ _ (hP) (hD) hS ls (lv_sub hl [1, 2, 0, 3] (by rfl))
  exact J5 ((fn - 0) + 1) 0 (by omega) (by omega) _ _ (by rw [fl_0]; exact hP) (by rw [fl_0]; exact hD) hS ls (lv_sub hl [2, 3, 1, 0] (by rfl))
set_option maxHeartbeats 4000000 in
set_option maxRecDepth 100000 in
/-- Balancing.leastWithSign -/
theorem c_X0_leastWithSign (l : Launch) (D : va_G) (cA : Nat → ClassId) (bl : Nat) (bs : Nat) (Su : Nat → Int) (sg : Int) (nv : Nat) (hnv : nv ≤ 16) (hSu : ∀ j, -1000 ≤ Su j ∧ Su j ≤ 1000) (hsg : sg = 1 ∨ sg = -1) : Met l yX0_leastWithSign wsX0_leastWithSign ({ frames := 0, cells := 0, slots := 0, locals := 0 } : Room) (zRd D vwCl (zT cA) [(bl, .inr (0, [.ref bs])), (bs, aI cA 16 (fun j => iZ (Su j)))] [.ref bl, .int (iZ sg), .int (nI nv)]) (vp_Si (fun r => r = iZ (bLw Su sg nv nv))) 0 0 (fun _ => False) := by
  refine z_read (cc := cX0_leastWithSign) (maxL := 4) (ret := (some .int)) (by decide) rfl (Nat.le_of_ble_eq_true rfl) ?_
  intro p e s m below meth c hx hb hr hml hown hts hlocks hP hK Q hQ ls hl
  have hown : s.vm.findClass RX0 = some m.cls := hown
  have hl : lv_has ls 4 [(0, .ref bl), (1, .int (iZ sg)), (2, .int (nI nv))] := hl
  generalize hav : ([.ref bl, .int (iZ sg), .int (nI nv)] : List Value).toArray = args at hts hQ ⊢
  have hin0 : ∀ w ∈ wsX00, w ∈ wsX0_leastWithSign := by decide +kernel
  refine lv_iconst (v := nI 0) hx hb dX0_leastWithSign_0 (by decide) ?_
  refine lv_istore_n (lv' := [(3, .int (nI 0)), (0, .ref bl), (1, .int (iZ sg)), (2, .int (nI nv))]) hx hb dX0_leastWithSign_1 rfl hl (by decide) rfl (fun ls hl => ?_)
  have J2 : ∀ (n : Nat), ∀ (i : Nat), (i ≤ nv) → (bLw Su sg nv (nv - i) = bLw Su sg nv nv) → nv - i < n → ∀ (ls : Array Slot), lv_has ls 4 [(0, .ref bl), (1, .int (iZ sg)), (2, .int (nI nv)), (3, .int (nI i))] → W p l e ({ frames := 0, cells := 0, slots := 0, locals := 0 } : Room) s m args below meth c s.heap [] 0 0 Q (F0 m 2 ls []) := by
    intro n2
    induction n2 with
    | zero => intro i hi hq hn; exact absurd hn (Nat.not_lt_zero _)
    | succ n2 ih2 =>
      intro i hi hq hn2 ls hl
      refine lv_iload_n hx hb dX0_leastWithSign_2 rfl (lv_at hl 3 rfl) ?_
      refine lv_iload_n hx hb dX0_leastWithSign_3 rfl (lv_at hl 2 rfl) ?_
      refine z_ge hx hb (by omega) (by omega) (tgt := 26) dX0_leastWithSign_4 (by decide) (fun h4 => ?_) (fun h4 => ?_)
      · skip
        refine lv_iconst (v := iZ (-1)) hx hb dX0_leastWithSign_26 (by decide) ?_
        exact z_iretR hx hb hr hlocks hQ (by rw [← hq, show nv - i = 0 from by omega]; rfl) dX0_leastWithSign_27 rfl rfl
      · skip
        refine lv_aload_n hx hb dX0_leastWithSign_7 rfl (lv_at hl 0 rfl) ?_
        refine va_get (D := D) (ci := 0) (v := .ref bs) (C := RX0) (T := TX0) (N := 1) hx hb hts hin0 hown hK hP 0 rfl rfl 0 (by decide) (hts (.fieldLink RX0 9 "TourHouse$Balancing" "surplus" "[I") (by decide +kernel)) (fun _ h9 => h9) rfl dX0_leastWithSign_8 ?_
        refine lv_iload_n hx hb dX0_leastWithSign_11 rfl (lv_at hl 3 rfl) ?_
        refine z_iald hx hb hK hP 1 0 rfl rfl (k := i) (by omega) (by decide) (v := iZ (Su i)) rfl dX0_leastWithSign_12 ?_
        refine lv_iload_n hx hb dX0_leastWithSign_13 rfl (lv_at hl 1 rfl) ?_
        refine lv_imul hx hb dX0_leastWithSign_14 ?_
        refine z_topi (v := iZ ((Su i) * sg)) (iZ_mul (Su i) sg) ?_
        refine z_ile hx hb (x := (Su i) * sg) (⟨by have := hSu i; rcases hsg with q | q <;> rw [q] <;> omega, by have := hSu i; rcases hsg with q | q <;> rw [q] <;> omega⟩) (tgt := 20) dX0_leastWithSign_15 (by decide) (fun h15 => ?_) (fun h15 => ?_)
        · skip
          refine lv_iinc (v := nI (i + 1)) (lv' := [(3, .int (nI (i + 1))), (0, .ref bl), (1, .int (iZ sg)), (2, .int (nI nv))]) hx hb dX0_leastWithSign_20 hl (k := 3) rfl (nI_1 i) (by decide) rfl (fun ls hl => ?_)
          refine lv_goto (tgt := 2) hx hb dX0_leastWithSign_23 (by decide) ?_
          exact ih2 (i + 1) (by omega) (by rw [← hq, show nv - i = (nv - (i + 1)) + 1 from by omega, bLw, show nv - (nv - (i + 1) + 1) = i from by omega, if_neg (by omega)]) (by omega) ls (lv_sub hl [1, 2, 3, 0] (by rfl))
        · skip
          refine lv_iload_n hx hb dX0_leastWithSign_18 rfl (lv_at hl 3 rfl) ?_
          exact z_iretR hx hb hr hlocks hQ (by rw [← hq, show nv - i = (nv - (i + 1)) + 1 from by omega, bLw, show nv - (nv - (i + 1) + 1) = i from by omega, if_pos h15]; rfl) dX0_leastWithSign_19 rfl rfl
  exact J2 ((nv - 0) + 1) 0 (by omega) rfl (by omega) ls (lv_sub hl [1, 2, 3, 0] (by rfl))
set_option maxHeartbeats 4000000 in
set_option maxRecDepth 100000 in
/-- Balancing.addPassage -/
theorem c_X0_addPassage (l : Launch) (D : va_G) (cA : Nat → ClassId) (sz : Nat) (bl : Nat) (bs : Nat) (ds : Nat) (dr : Nat) (dc : Nat) (dt : Nat) (dl : Nat) (dn : Nat) (g : Nat) (gf : Nat) (gt : Nat) (gw : Nat) (Fr : Nat → Nat) (To : Nat → Nat) (dir : Bool) (nv : Nat) (me : Nat) (xa : Nat) (X : Nat → Int) (σ : DS) (src : Nat) (snk : Nat) (hF : ∀ j, Fr j < 16) (hT : ∀ j, To j < 16) (hL : ∀ j, σ.2.2.2.1 j < 80) (hsrc : src < 16) (hsnk : snk < 16) : Met l yX0_addPassage wsX0_addPassage ({ frames := 0, cells := 0, slots := 0, locals := 0 } : Room) (zWr D vwCl (zT cA) [(bl, .inr (0, [.ref bs])), (ds, .inr (1, [.ref dr, .ref dc, .ref dt, .ref dl, .ref dn, .int (zB σ.2.2.2.2)])), (dl, aI cA 16 (fun j => nI (σ.2.2.2.1 j))), (g, .inr (2, [.ref gf, .ref gt, .ref gw, .int (zB dir), .int (nI nv), .int (nI me)])), (gf, aI cA 40 (fun j => nI (Fr j))), (gt, aI cA 40 (fun j => nI (To j))), (xa, aI cA 40 (fun j => iZ (X j)))] sz [.ref bl, .int (nI src), .int (nI snk), .ref g, .ref ds, .ref xa]) (zQv D vwCl (zT cA) (va_A [(bl, .inr (0, [.ref bs])), (ds, .inr (1, [.ref dr, .ref dc, .ref dt, .ref dl, .ref dn, .int (zB σ.2.2.2.2)])), (dl, aI cA 16 (fun j => nI (σ.2.2.2.1 j))), (g, .inr (2, [.ref gf, .ref gt, .ref gw, .int (zB dir), .int (nI nv), .int (nI me)])), (gf, aI cA 40 (fun j => nI (Fr j))), (gt, aI cA 40 (fun j => nI (To j))), (xa, aI cA 40 (fun j => iZ (X j)))] sz) [(bl, .inr (0, [.ref bs])), (ds, .inr (1, [.ref dr, .ref dc, .ref dt, .ref dl, .ref dn, .int (zB σ.2.2.2.2)])), (dl, aI cA 16 (fun j => nI (σ.2.2.2.1 j))), (g, .inr (2, [.ref gf, .ref gt, .ref gw, .int (zB dir), .int (nI nv), .int (nI me)])), (gf, aI cA 40 (fun j => nI (Fr j))), (gt, aI cA 40 (fun j => nI (To j))), (xa, aI cA 40 (fun j => iZ ((bAdd Fr To σ.2.2.2.1 src 16 snk X) j)))]) 0 0 (va_A [(bl, .inr (0, [.ref bs])), (ds, .inr (1, [.ref dr, .ref dc, .ref dt, .ref dl, .ref dn, .int (zB σ.2.2.2.2)])), (dl, aI cA 16 (fun j => nI (σ.2.2.2.1 j))), (g, .inr (2, [.ref gf, .ref gt, .ref gw, .int (zB dir), .int (nI nv), .int (nI me)])), (gf, aI cA 40 (fun j => nI (Fr j))), (gt, aI cA 40 (fun j => nI (To j))), (xa, aI cA 40 (fun j => iZ (X j)))] sz) := by
  refine z_write (cc := cX0_addPassage) (maxL := 10) (ret := none) (by decide) rfl (Nat.le_of_ble_eq_true rfl) ?_
  intro p e s m below meth c hx hb hr hml hown hts hlocks A hAe hA H locs hP hK hD hS hini Q hQ ls hl
  have hown : s.vm.findClass RX0 = some m.cls := hown
  have hl : lv_has ls 10 [(0, .ref bl), (1, .int (nI src)), (2, .int (nI snk)), (3, .ref g), (4, .ref ds), (5, .ref xa)] := hl
  generalize hav : ([.ref bl, .int (nI src), .int (nI snk), .ref g, .ref ds, .ref xa] : List Value).toArray = args at hts hQ ⊢
  have hin1 : ∀ w ∈ wsX10, w ∈ wsX0_addPassage := by decide +kernel
  have hin2 : ∀ w ∈ wsX20, w ∈ wsX0_addPassage := by decide +kernel
  refine lv_iload_n hx hb dX0_addPassage_0 rfl (lv_at hl 2 rfl) ?_
  refine lv_istore (lv' := [(6, .int (nI snk)), (0, .ref bl), (1, .int (nI src)), (2, .int (nI snk)), (3, .ref g), (4, .ref ds), (5, .ref xa)]) hx hb dX0_addPassage_1 hl (by decide) rfl (fun ls hl => ?_)
  refine lv_iconst (v := nI 0) hx hb dX0_addPassage_3 (by decide) ?_
  refine lv_istore (lv' := [(7, .int (nI 0)), (6, .int (nI snk)), (0, .ref bl), (1, .int (nI src)), (2, .int (nI snk)), (3, .ref g), (4, .ref ds), (5, .ref xa)]) hx hb dX0_addPassage_4 hl (by decide) rfl (fun ls hl => ?_)
  have J6 : ∀ (n : Nat), ∀ (hp : Nat) (at1 : Nat) (Y : Nat → Int), (hp ≤ 16) → (at1 < 16) → (bAdd Fr To σ.2.2.2.1 src (16 - hp) at1 Y = bAdd Fr To σ.2.2.2.1 src 16 snk X) → 16 - hp < n → ∀ (H : Heap) (locs : List Loc), va_P D vwCl [(bl, .inr (0, [.ref bs])), (ds, .inr (1, [.ref dr, .ref dc, .ref dt, .ref dl, .ref dn, .int (zB σ.2.2.2.2)])), (dl, aI cA 16 (fun j => nI (σ.2.2.2.1 j))), (g, .inr (2, [.ref gf, .ref gt, .ref gw, .int (zB dir), .int (nI nv), .int (nI me)])), (gf, aI cA 40 (fun j => nI (Fr j))), (gt, aI cA 40 (fun j => nI (To j))), (xa, aI cA 40 (fun j => iZ (Y j)))] H → va_D A [(bl, .inr (0, [.ref bs])), (ds, .inr (1, [.ref dr, .ref dc, .ref dt, .ref dl, .ref dn, .int (zB σ.2.2.2.2)])), (dl, aI cA 16 (fun j => nI (σ.2.2.2.1 j))), (g, .inr (2, [.ref gf, .ref gt, .ref gw, .int (zB dir), .int (nI nv), .int (nI me)])), (gf, aI cA 40 (fun j => nI (Fr j))), (gt, aI cA 40 (fun j => nI (To j))), (xa, aI cA 40 (fun j => iZ (Y j)))] → va_S A s.heap H locs → ∀ (ls : Array Slot), lv_has ls 10 [(0, .ref bl), (1, .int (nI src)), (2, .int (nI snk)), (3, .ref g), (4, .ref ds), (5, .ref xa), (6, .int (nI at1)), (7, .int (nI hp))] → W p l e ({ frames := 0, cells := 0, slots := 0, locals := 0 } : Room) s m args below meth c H locs 0 0 Q (F0 m 6 ls []) := by
    intro n6
    induction n6 with
    | zero => intro hp at1 Y hhp hat hq hn; exact absurd hn (Nat.not_lt_zero _)
    | succ n6 ih6 =>
      intro hp at1 Y hhp hat hq hn6 H locs hP hD hS ls hl
      refine lv_iload hx hb dX0_addPassage_6 (lv_at hl 7 rfl) ?_
      refine lv_bipush (v := nI 16) hx hb dX0_addPassage_8 (by decide) ?_
      refine z_ge hx hb (by omega) (by decide) (tgt := 87) dX0_addPassage_10 (by decide) (fun h10 => ?_) (fun h10 => ?_)
      · skip
        have q9 : (fun j => iZ ((bAdd Fr To σ.2.2.2.1 src 16 snk X) j)) = (fun j => iZ (Y j)) := by rw [← hq]; first | (rw [show 16 - hp = 0 from by omega]; rfl) | (rw [show 16 - hp = (16 - (hp + 1)) + 1 from by omega, bAdd, if_pos h16])
        have hP : va_P D vwCl [(bl, .inr (0, [.ref bs])), (ds, .inr (1, [.ref dr, .ref dc, .ref dt, .ref dl, .ref dn, .int (zB σ.2.2.2.2)])), (dl, aI cA 16 (fun j => nI (σ.2.2.2.1 j))), (g, .inr (2, [.ref gf, .ref gt, .ref gw, .int (zB dir), .int (nI nv), .int (nI me)])), (gf, aI cA 40 (fun j => nI (Fr j))), (gt, aI cA 40 (fun j => nI (To j))), (xa, aI cA 40 (fun j => iZ ((bAdd Fr To σ.2.2.2.1 src 16 snk X) j)))] H := by rw [q9]; exact hP
        have hD : va_D A [(bl, .inr (0, [.ref bs])), (ds, .inr (1, [.ref dr, .ref dc, .ref dt, .ref dl, .ref dn, .int (zB σ.2.2.2.2)])), (dl, aI cA 16 (fun j => nI (σ.2.2.2.1 j))), (g, .inr (2, [.ref gf, .ref gt, .ref gw, .int (zB dir), .int (nI nv), .int (nI me)])), (gf, aI cA 40 (fun j => nI (Fr j))), (gt, aI cA 40 (fun j => nI (To j))), (xa, aI cA 40 (fun j => iZ ((bAdd Fr To σ.2.2.2.1 src 16 snk X) j)))] := by rw [q9]; exact hD
        exact z_vretW hx hb hr hlocks hAe hQ (hP) hK (hD) hS dX0_addPassage_87
      · skip
        refine lv_iload hx hb dX0_addPassage_13 (lv_at hl 6 rfl) ?_
        refine lv_iload_n hx hb dX0_addPassage_15 rfl (lv_at hl 1 rfl) ?_
        refine z_eq hx hb (by omega) (by omega) (tgt := 87) dX0_addPassage_16 (by decide) (fun h16 => ?_) (fun h16 => ?_)
        · skip
          have q9 : (fun j => iZ ((bAdd Fr To σ.2.2.2.1 src 16 snk X) j)) = (fun j => iZ (Y j)) := by rw [← hq]; first | (rw [show 16 - hp = 0 from by omega]; rfl) | (rw [show 16 - hp = (16 - (hp + 1)) + 1 from by omega, bAdd, if_pos h16])
          have hP : va_P D vwCl [(bl, .inr (0, [.ref bs])), (ds, .inr (1, [.ref dr, .ref dc, .ref dt, .ref dl, .ref dn, .int (zB σ.2.2.2.2)])), (dl, aI cA 16 (fun j => nI (σ.2.2.2.1 j))), (g, .inr (2, [.ref gf, .ref gt, .ref gw, .int (zB dir), .int (nI nv), .int (nI me)])), (gf, aI cA 40 (fun j => nI (Fr j))), (gt, aI cA 40 (fun j => nI (To j))), (xa, aI cA 40 (fun j => iZ ((bAdd Fr To σ.2.2.2.1 src 16 snk X) j)))] H := by rw [q9]; exact hP
          have hD : va_D A [(bl, .inr (0, [.ref bs])), (ds, .inr (1, [.ref dr, .ref dc, .ref dt, .ref dl, .ref dn, .int (zB σ.2.2.2.2)])), (dl, aI cA 16 (fun j => nI (σ.2.2.2.1 j))), (g, .inr (2, [.ref gf, .ref gt, .ref gw, .int (zB dir), .int (nI nv), .int (nI me)])), (gf, aI cA 40 (fun j => nI (Fr j))), (gt, aI cA 40 (fun j => nI (To j))), (xa, aI cA 40 (fun j => iZ ((bAdd Fr To σ.2.2.2.1 src 16 snk X) j)))] := by rw [q9]; exact hD
          exact z_vretW hx hb hr hlocks hAe hQ (hP) hK (hD) hS dX0_addPassage_87
        · skip
          refine lv_aload hx hb dX0_addPassage_19 (lv_at hl 4 rfl) ?_
          refine va_get (D := D) (ci := 1) (v := .ref dl) (C := RX1) (T := TX1) (N := 6) hx hb hts hin1 hown hK hP 1 rfl rfl 3 (by decide) (hts (.fieldLink RX0 45 "TourHouse$Distances" "lastStep" "[I") (by decide +kernel)) (fun _ h9 => h9) rfl dX0_addPassage_21 ?_
          refine lv_iload hx hb dX0_addPassage_24 (lv_at hl 6 rfl) ?_
          refine z_iald hx hb hK hP 2 0 rfl rfl (k := at1) (by omega) (by decide) (v := nI (σ.2.2.2.1 at1)) rfl dX0_addPassage_26 ?_
          refine lv_istore (lv' := [(8, .int (nI (σ.2.2.2.1 at1))), (0, .ref bl), (1, .int (nI src)), (2, .int (nI snk)), (3, .ref g), (4, .ref ds), (5, .ref xa), (6, .int (nI at1)), (7, .int (nI hp))]) hx hb dX0_addPassage_27 hl (by decide) rfl (fun ls hl => ?_)
          refine lv_iload hx hb dX0_addPassage_29 (lv_at hl 0 rfl) ?_
          refine lv_iconst (v := nI 1) hx hb dX0_addPassage_31 (by decide) ?_
          refine lv_ishr hx hb dX0_addPassage_32 ?_
          refine z_topi (v := nI ((σ.2.2.2.1 at1) / 2)) (nb_hlf (Nat.lt_trans (hL _) (by decide))) ?_
          refine lv_istore (lv' := [(9, .int (nI ((σ.2.2.2.1 at1) / 2))), (8, .int (nI (σ.2.2.2.1 at1))), (0, .ref bl), (1, .int (nI src)), (2, .int (nI snk)), (3, .ref g), (4, .ref ds), (5, .ref xa), (6, .int (nI at1)), (7, .int (nI hp))]) hx hb dX0_addPassage_33 hl (by decide) rfl (fun ls hl => ?_)
          refine lv_iload hx hb dX0_addPassage_35 (lv_at hl 1 rfl) ?_
          refine lv_iconst (v := nI 1) hx hb dX0_addPassage_37 (by decide) ?_
          refine lv_iand hx hb dX0_addPassage_38 ?_
          refine z_topi (v := nI ((σ.2.2.2.1 at1) % 2)) (nb_and1 (σ.2.2.2.1 at1)) ?_
          refine z_nne hx hb (by omega) (tgt := 63) dX0_addPassage_39 (by decide) (fun h39 => ?_) (fun h39 => ?_)
          · skip
            refine lv_aload hx hb dX0_addPassage_63 (lv_at hl 7 rfl) ?_
            refine lv_iload hx hb dX0_addPassage_65 (lv_at hl 0 rfl) ?_
            refine lv_dup2_11 hx hb dX0_addPassage_67 rfl rfl ?_
            refine z_iald hx hb hK hP 6 0 rfl rfl (k := ((σ.2.2.2.1 at1) / 2)) (by have := hL at1; omega) (by decide) (v := iZ (Y ((σ.2.2.2.1 at1) / 2))) rfl dX0_addPassage_68 ?_
            refine lv_iconst (v := nI 1) hx hb dX0_addPassage_69 (by decide) ?_
            refine lv_isub hx hb dX0_addPassage_70 ?_
            refine z_topi (v := iZ ((Y ((σ.2.2.2.1 at1) / 2)) - 1)) (iZ_sub (Y ((σ.2.2.2.1 at1) / 2)) 1) ?_
            refine z_iast hx hb hK hP hD hS 6 0 rfl rfl (k := ((σ.2.2.2.1 at1) / 2)) (by have := hL at1; omega) (by decide) (f' := (fun j => iZ ((va_up Y ((σ.2.2.2.1 at1) / 2) ((Y ((σ.2.2.2.1 at1) / 2)) - 1)) j))) (upd_iZ _ _ _) (ws' := [(bl, .inr (0, [.ref bs])), (ds, .inr (1, [.ref dr, .ref dc, .ref dt, .ref dl, .ref dn, .int (zB σ.2.2.2.2)])), (dl, aI cA 16 (fun j => nI (σ.2.2.2.1 j))), (g, .inr (2, [.ref gf, .ref gt, .ref gw, .int (zB dir), .int (nI nv), .int (nI me)])), (gf, aI cA 40 (fun j => nI (Fr j))), (gt, aI cA 40 (fun j => nI (To j))), (xa, aI cA 40 (fun j => iZ ((va_up Y ((σ.2.2.2.1 at1) / 2) ((Y ((σ.2.2.2.1 at1) / 2)) - 1)) j)))]) rfl dX0_addPassage_71 (fun H locs hP hD hS => ?_)
            refine lv_aload_n hx hb dX0_addPassage_72 rfl (lv_at hl 5 rfl) ?_
            refine va_get (D := D) (ci := 2) (v := .ref gt) (C := RX2) (T := TX2) (N := 6) hx hb hts hin2 hown hK hP 3 rfl rfl 1 (by decide) (hts (.fieldLink RX0 51 "TourHouse$Graph" "to" "[I") (by decide +kernel)) (fun _ h9 => h9) rfl dX0_addPassage_73 ?_
            refine lv_iload hx hb dX0_addPassage_76 (lv_at hl 0 rfl) ?_
            refine z_iald hx hb hK hP 5 0 rfl rfl (k := ((σ.2.2.2.1 at1) / 2)) (by have := hL at1; omega) (by decide) (v := nI (To ((σ.2.2.2.1 at1) / 2))) rfl dX0_addPassage_78 ?_
            refine lv_istore (lv' := [(6, .int (nI (To ((σ.2.2.2.1 at1) / 2)))), (9, .int (nI ((σ.2.2.2.1 at1) / 2))), (8, .int (nI (σ.2.2.2.1 at1))), (0, .ref bl), (1, .int (nI src)), (2, .int (nI snk)), (3, .ref g), (4, .ref ds), (5, .ref xa), (7, .int (nI hp))]) hx hb dX0_addPassage_79 hl (by decide) rfl (fun ls hl => ?_)
            refine lv_iinc (v := nI (hp + 1)) (lv' := [(7, .int (nI (hp + 1))), (6, .int (nI (To ((σ.2.2.2.1 at1) / 2)))), (9, .int (nI ((σ.2.2.2.1 at1) / 2))), (8, .int (nI (σ.2.2.2.1 at1))), (0, .ref bl), (1, .int (nI src)), (2, .int (nI snk)), (3, .ref g), (4, .ref ds), (5, .ref xa)]) hx hb dX0_addPassage_81 hl (k := 9) rfl (nI_1 hp) (by decide) rfl (fun ls hl => ?_)
            refine lv_goto (tgt := 6) hx hb dX0_addPassage_84 (by decide) ?_
            exact ih6 (hp + 1) (To ((σ.2.2.2.1 at1) / 2)) (va_up Y ((σ.2.2.2.1 at1) / 2) ((Y ((σ.2.2.2.1 at1) / 2)) - 1)) (by omega) (by first | exact hF _ | exact hT _) (by rw [← hq, show 16 - hp = (16 - (hp + 1)) + 1 from by omega, bAdd, if_neg h16]; first | rw [if_pos h39] | rw [if_neg h39]) (by omega) _ _ (hP) (hD) hS ls (lv_sub hl [4, 5, 6, 7, 8, 9, 1, 0] (by rfl))
          · skip
            refine lv_aload hx hb dX0_addPassage_42 (lv_at hl 7 rfl) ?_
            refine lv_iload hx hb dX0_addPassage_44 (lv_at hl 0 rfl) ?_
            refine lv_dup2_11 hx hb dX0_addPassage_46 rfl rfl ?_
            refine z_iald hx hb hK hP 6 0 rfl rfl (k := ((σ.2.2.2.1 at1) / 2)) (by have := hL at1; omega) (by decide) (v := iZ (Y ((σ.2.2.2.1 at1) / 2))) rfl dX0_addPassage_47 ?_
            refine lv_iconst (v := nI 1) hx hb dX0_addPassage_48 (by decide) ?_
            refine lv_iadd hx hb dX0_addPassage_49 ?_
            refine z_topi (v := iZ ((Y ((σ.2.2.2.1 at1) / 2)) + 1)) (iZ_add (Y ((σ.2.2.2.1 at1) / 2)) 1) ?_
            refine z_iast hx hb hK hP hD hS 6 0 rfl rfl (k := ((σ.2.2.2.1 at1) / 2)) (by have := hL at1; omega) (by decide) (f' := (fun j => iZ ((va_up Y ((σ.2.2.2.1 at1) / 2) ((Y ((σ.2.2.2.1 at1) / 2)) + 1)) j))) (upd_iZ _ _ _) (ws' := [(bl, .inr (0, [.ref bs])), (ds, .inr (1, [.ref dr, .ref dc, .ref dt, .ref dl, .ref dn, .int (zB σ.2.2.2.2)])), (dl, aI cA 16 (fun j => nI (σ.2.2.2.1 j))), (g, .inr (2, [.ref gf, .ref gt, .ref gw, .int (zB dir), .int (nI nv), .int (nI me)])), (gf, aI cA 40 (fun j => nI (Fr j))), (gt, aI cA 40 (fun j => nI (To j))), (xa, aI cA 40 (fun j => iZ ((va_up Y ((σ.2.2.2.1 at1) / 2) ((Y ((σ.2.2.2.1 at1) / 2)) + 1)) j)))]) rfl dX0_addPassage_50 (fun H locs hP hD hS => ?_)
            refine lv_aload_n hx hb dX0_addPassage_51 rfl (lv_at hl 5 rfl) ?_
            refine va_get (D := D) (ci := 2) (v := .ref gf) (C := RX2) (T := TX2) (N := 6) hx hb hts hin2 hown hK hP 3 rfl rfl 0 (by decide) (hts (.fieldLink RX0 48 "TourHouse$Graph" "from" "[I") (by decide +kernel)) (fun _ h9 => h9) rfl dX0_addPassage_52 ?_
            refine lv_iload hx hb dX0_addPassage_55 (lv_at hl 0 rfl) ?_
            refine z_iald hx hb hK hP 4 0 rfl rfl (k := ((σ.2.2.2.1 at1) / 2)) (by have := hL at1; omega) (by decide) (v := nI (Fr ((σ.2.2.2.1 at1) / 2))) rfl dX0_addPassage_57 ?_
            refine lv_istore (lv' := [(6, .int (nI (Fr ((σ.2.2.2.1 at1) / 2)))), (9, .int (nI ((σ.2.2.2.1 at1) / 2))), (8, .int (nI (σ.2.2.2.1 at1))), (0, .ref bl), (1, .int (nI src)), (2, .int (nI snk)), (3, .ref g), (4, .ref ds), (5, .ref xa), (7, .int (nI hp))]) hx hb dX0_addPassage_58 hl (by decide) rfl (fun ls hl => ?_)
            refine lv_goto (tgt := 81) hx hb dX0_addPassage_60 (by decide) ?_
            refine lv_iinc (v := nI (hp + 1)) (lv' := [(7, .int (nI (hp + 1))), (6, .int (nI (Fr ((σ.2.2.2.1 at1) / 2)))), (9, .int (nI ((σ.2.2.2.1 at1) / 2))), (8, .int (nI (σ.2.2.2.1 at1))), (0, .ref bl), (1, .int (nI src)), (2, .int (nI snk)), (3, .ref g), (4, .ref ds), (5, .ref xa)]) hx hb dX0_addPassage_81 hl (k := 9) rfl (nI_1 hp) (by decide) rfl (fun ls hl => ?_)
            refine lv_goto (tgt := 6) hx hb dX0_addPassage_84 (by decide) ?_
            exact ih6 (hp + 1) (Fr ((σ.2.2.2.1 at1) / 2)) (va_up Y ((σ.2.2.2.1 at1) / 2) ((Y ((σ.2.2.2.1 at1) / 2)) + 1)) (by omega) (by first | exact hF _ | exact hT _) (by rw [← hq, show 16 - hp = (16 - (hp + 1)) + 1 from by omega, bAdd, if_neg h16]; first | rw [if_pos h39] | rw [if_neg h39]) (by omega) _ _ (hP) (hD) hS ls (lv_sub hl [4, 5, 6, 7, 8, 9, 1, 0] (by rfl))
  exact J6 ((16 - 0) + 1) 0 snk X (by omega) (by omega) rfl (by omega) _ _ (hP) (hD) hS ls (lv_sub hl [2, 3, 4, 5, 6, 7, 1, 0] (by rfl))
