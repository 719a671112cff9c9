/-- extras, surplus, Distances -/
abbrev BS : Type := (Nat → Int) × (Nat → Int) × DS
def bFill (Fr To : Nat → Nat) (me : Nat) (Su : Nat → Int) (i : Nat) : Nat → Int := fun j => if j < i then gSur Fr To j me else Su j
def bStep (dir : Bool) (Fr To We : Nat → Nat) (nv me : Nat) (β : BS) : BS :=
  (bAdd Fr To (dSearch dir Fr To We β.1 me β.2.2 (bLw β.2.1 1 nv nv).toNat).2.2.2.1 (bLw β.2.1 1 nv nv).toNat 16 (bLw β.2.1 (-1) nv nv).toNat β.1,
   va_up (va_up β.2.1 (bLw β.2.1 1 nv nv).toNat (β.2.1 (bLw β.2.1 1 nv nv).toNat - 1)) (bLw β.2.1 (-1) nv nv).toNat ((va_up β.2.1 (bLw β.2.1 1 nv nv).toNat (β.2.1 (bLw β.2.1 1 nv nv).toNat - 1)) (bLw β.2.1 (-1) nv nv).toNat + 1),
   dSearch dir Fr To We β.1 me β.2.2 (bLw β.2.1 1 nv nv).toNat)
def bLoop (dir : Bool) (Fr To We : Nat → Nat) (nv me : Nat) : Nat → BS → BS
  | 0, β => β
  | n + 1, β => if bLw β.2.1 1 nv nv < 0 ∨ bLw β.2.1 (-1) nv nv < 0 then β else bLoop dir Fr To We nv me n (bStep dir Fr To We nv me β)
def bFind (dir : Bool) (Fr To We : Nat → Nat) (nv me : Nat) (X Su : Nat → Int) (σ : DS) : BS := bLoop dir Fr To We nv me 40 (fl X 0 40, bFill Fr To me Su nv, σ)
theorem bFill_0 {Fr To : Nat → Nat} {me : Nat} {Su : Nat → Int} : bFill Fr To me Su 0 = Su := by funext j; simp [bFill]
theorem bFill_up {Fr To : Nat → Nat} {me i : Nat} {Su : Nat → Int} : va_up (bFill Fr To me Su i) i (gSur Fr To i me) = bFill Fr To me Su (i + 1) := by
  funext j
  by_cases e : j = i
  · subst e; rw [up_at]; simp [bFill]
  · rw [up_ne e]; simp only [bFill]
    by_cases h : j < i
    · rw [if_pos h, if_pos (by omega)]
    · rw [if_neg h, if_neg (by omega)]
theorem bFill_in (Fr To : Nat → Nat) (me : Nat) (Su : Nat → Int) {i j : Nat} (h : j < i) : bFill Fr To me Su i j = gSur Fr To j me := by rw [bFill, if_pos h]
theorem bFill_b (Fr To : Nat → Nat) {me : Nat} {Su : Nat → Int} (hS : ∀ j, -80 ≤ Su j ∧ Su j ≤ 80) (hme : me ≤ 40) (i j : Nat) : -80 ≤ bFill Fr To me Su i j ∧ bFill Fr To me Su i j ≤ 80 := by
  unfold bFill; split
  · have := gSur_rng Fr To j me; omega
  · exact hS j
theorem bLw_rng {Su : Nat → Int} {sg : Int} {nv : Nat} : ∀ {k : Nat}, k ≤ nv → -1 ≤ bLw Su sg nv k ∧ bLw Su sg nv k < nv + 0 ∨ bLw Su sg nv k = -1
  | 0, _ => Or.inr rfl
  | k + 1, h => by
    rw [bLw]; split
    · left; omega
    · exact bLw_rng (by omega)
theorem bAdd_b {Fr To Ls : Nat → Nat} {src : Nat} : ∀ (n a : Nat) (X : Nat → Int) (B : Int), (∀ j, j < 40 → -B ≤ X j ∧ X j ≤ B) → ∀ j, j < 40 → -(B + n) ≤ bAdd Fr To Ls src n a X j ∧ bAdd Fr To Ls src n a X j ≤ B + n
  | 0, _, X, B, h, j, hj => by rw [bAdd]; have := h j hj; omega
  | n + 1, a, X, B, h, j, hj => by
    have hB : 0 ≤ B := by have := h 0 (by decide); omega
    rw [bAdd]; split
    · have := h j hj; omega
    · have key : ∀ (e : Nat) (d : Int), (d = 1 ∨ d = -1) → ∀ j, j < 40 → -(B + 1) ≤ va_up X e (X e + d) j ∧ va_up X e (X e + d) j ≤ B + 1 := by
        intro e d hd j hj
        by_cases q : j = e
        · subst q; rw [up_at]; have := h j hj; omega
        · rw [up_ne q]; have := h j hj; omega
      split
      · have := bAdd_b (Fr := Fr) (To := To) (Ls := Ls) (src := src) n (Fr (Ls a / 2)) _ (B + 1) (key (Ls a / 2) 1 (Or.inl rfl)) j hj
        omega
      · have := bAdd_b (Fr := Fr) (To := To) (Ls := Ls) (src := src) n (To (Ls a / 2)) _ (B + 1) (key (Ls a / 2) (-1) (Or.inr rfl)) j hj
        rw [show X (Ls a / 2) + -1 = X (Ls a / 2) - 1 from rfl] at this
        omega
theorem tS_L {σ : DS} {st a b : Nat} {c t : Int} (hs : st < 80) (hL : ∀ j, σ.2.2.2.1 j < 80) : ∀ j, (tS σ st a b c t).2.2.2.1 j < 80 := by
  intro j
  unfold tS
  split
  · split
    · show va_up σ.2.2.2.1 b st j < 80
      by_cases q : j = b
      · subst q; rw [up_at]; exact hs
      · rw [up_ne q]; exact hL j
    · exact hL j
  · exact hL j
theorem dPass_L {dir : Bool} {Fr To We : Nat → Nat} {X : Nat → Int} {τ : DS} (hL : ∀ j, τ.2.2.2.1 j < 80) : ∀ k : Nat, k ≤ 40 → ∀ j, (dPass dir Fr To We X τ k).2.2.2.1 j < 80
  | 0, _ => hL
  | k + 1, hk => by
    have ih := dPass_L (dir := dir) (Fr := Fr) (To := To) (We := We) (X := X) hL k (by omega)
    rw [dPass]
    split
    · exact tS_L (by omega) (tS_L (by omega) ih)
    · split
      · exact tS_L (by omega) (tS_L (by omega) ih)
      · exact tS_L (by omega) ih
theorem dLoop_L {dir : Bool} {Fr To We : Nat → Nat} {X : Nat → Int} {me : Nat} (hme : me ≤ 40) : ∀ (n : Nat) {τ : DS}, (∀ j, τ.2.2.2.1 j < 80) → ∀ j, (dLoop dir Fr To We X me n τ).2.2.2.1 j < 80
  | 0, _, h => h
  | n + 1, τ, h => by
    rw [dLoop]; split
    · exact h
    · exact dLoop_L hme n (dPass_L h me hme)
theorem dSearch_L {dir : Bool} {Fr To We : Nat → Nat} {X : Nat → Int} {me : Nat} {σ : DS} {src : Nat} (hme : me ≤ 40) (hL : ∀ j, σ.2.2.2.1 j < 80) : ∀ j, (dSearch dir Fr To We X me σ src).2.2.2.1 j < 80 :=
  dLoop_L hme 16 (τ := dInit σ src) hL
section
variable {dir : Bool} {Fr To We : Nat → Nat} {nv me k : Nat} {β : BS}
theorem bStep_X (hX : ∀ j, j < 40 → -(16 * k : Int) ≤ β.1 j ∧ β.1 j ≤ 16 * k) : ∀ j, j < 40 → -(16 * (k + 1 : Nat) : Int) ≤ (bStep dir Fr To We nv me β).1 j ∧ (bStep dir Fr To We nv me β).1 j ≤ 16 * (k + 1 : Nat) := by
  intro j hj
  have := bAdd_b (Fr := Fr) (To := To) (Ls := (dSearch dir Fr To We β.1 me β.2.2 (bLw β.2.1 1 nv nv).toNat).2.2.2.1) (src := (bLw β.2.1 1 nv nv).toNat) 16 (bLw β.2.1 (-1) nv nv).toNat β.1 (16 * k) hX j hj
  show _ ≤ bAdd _ _ _ _ _ _ _ _ ∧ bAdd _ _ _ _ _ _ _ _ ≤ _
  omega
theorem up2_b {S : Nat → Int} {a b : Nat} {B : Int} (j : Nat) (h : ∀ i, (i = a ∨ i = b ∨ i = j) → -B ≤ S i ∧ S i ≤ B) : -(B + 1) ≤ va_up (va_up S a (S a - 1)) b ((va_up S a (S a - 1)) b + 1) j ∧ va_up (va_up S a (S a - 1)) b ((va_up S a (S a - 1)) b + 1) j ≤ B + 1 := by
  by_cases q : j = b
  · subst q; rw [up_at]
    by_cases r : j = a
    · subst r; rw [up_at]; have := h j (Or.inl rfl); omega
    · rw [up_ne r]; have := h j (Or.inr (Or.inl rfl)); omega
  · rw [up_ne q]
    by_cases r : j = a
    · subst r; rw [up_at]; have := h j (Or.inl rfl); omega
    · rw [up_ne r]; have := h j (Or.inr (Or.inr rfl)); omega
theorem bStep_S1 (h1 : 0 ≤ bLw β.2.1 1 nv nv) (h2 : 0 ≤ bLw β.2.1 (-1) nv nv) (hS : ∀ j, j < nv → -(40 + k : Int) ≤ β.2.1 j ∧ β.2.1 j ≤ 40 + k) : ∀ j, j < nv → -(40 + (k + 1 : Nat) : Int) ≤ (bStep dir Fr To We nv me β).2.1 j ∧ (bStep dir Fr To We nv me β).2.1 j ≤ 40 + (k + 1 : Nat) := by
  intro j hj
  have r1 := bLw_rng (Su := β.2.1) (sg := 1) (nv := nv) (Nat.le_refl nv)
  have r2 := bLw_rng (Su := β.2.1) (sg := -1) (nv := nv) (Nat.le_refl nv)
  have := up2_b (S := β.2.1) (a := (bLw β.2.1 1 nv nv).toNat) (b := (bLw β.2.1 (-1) nv nv).toNat) (B := 40 + k) j (fun i hi => hS i (by omega))
  show _ ≤ va_up _ _ _ _ ∧ va_up _ _ _ _ ≤ _
  omega
theorem bStep_S2 (hk : k < 40) (h1 : 0 ≤ bLw β.2.1 1 nv nv) (h2 : 0 ≤ bLw β.2.1 (-1) nv nv) (hS : ∀ j, j < nv → -(40 + k : Int) ≤ β.2.1 j ∧ β.2.1 j ≤ 40 + k) (hT : ∀ j, -80 ≤ β.2.1 j ∧ β.2.1 j ≤ 80) : ∀ j, -80 ≤ (bStep dir Fr To We nv me β).2.1 j ∧ (bStep dir Fr To We nv me β).2.1 j ≤ 80 := by
  intro j
  have r1 := bLw_rng (Su := β.2.1) (sg := 1) (nv := nv) (Nat.le_refl nv)
  have r2 := bLw_rng (Su := β.2.1) (sg := -1) (nv := nv) (Nat.le_refl nv)
  by_cases hj : j < nv
  · have := bStep_S1 (dir := dir) (Fr := Fr) (To := To) (We := We) (me := me) h1 h2 hS j hj
    omega
  · have e1 : j ≠ (bLw β.2.1 1 nv nv).toNat := by omega
    have e2 : j ≠ (bLw β.2.1 (-1) nv nv).toNat := by omega
    show _ ≤ va_up _ _ _ _ ∧ va_up _ _ _ _ ≤ _
    rw [up_ne e2, up_ne e1]
    exact hT j
theorem bStep_L (hme : me ≤ 40) (hL : ∀ j, β.2.2.2.2.2.1 j < 80) : ∀ j, (bStep dir Fr To We nv me β).2.2.2.2.2.1 j < 80 := dSearch_L hme hL
end
set_option maxHeartbeats 4000000 in
set_option maxRecDepth 100000 in
/-- Balancing.find -/
theorem c_X0_find (l : Launch) (D : va_G) (cA : Nat → ClassId) (sz : Nat) (bl : Nat) (bs : Nat) (ds : Nat) (dr : Nat) (dc : Nat) (dt : Nat) (dl : Nat) (dn : Nat) (g : Nat) (gf : Nat) (gt : Nat) (gw : Nat) (Fr : Nat → Nat) (To : Nat → Nat) (We : Nat → Nat) (dir : Bool) (nv : Nat) (me : Nat) (xa : Nat) (X : Nat → Int) (Su : Nat → Int) (σ : DS) (hme : me ≤ 40) (hF : ∀ j, Fr j < 16) (hT : ∀ j, To j < 16) (hnv : nv ≤ 16) (hW : ∀ j, We j ≤ 1000000000) (hSu : ∀ j, -80 ≤ Su j ∧ Su j ≤ 80) (hL : ∀ j, σ.2.2.2.1 j < 80) : Met l yX0_find wsX0_find ({ frames := 3, cells := 0, slots := 0, locals := 85 } : Room) (zWr D vwCl (zT cA) [(bl, .inr (0, [.ref bs])), (bs, aI cA 16 (fun j => iZ (Su j))), (ds, .inr (1, [.ref dr, .ref dc, .ref dt, .ref dl, .ref dn, .int (zB σ.2.2.2.2)])), (dr, aZ cA 16 (fun j => zB (σ.1 j))), (dc, aJ cA 16 (fun j => lZ (σ.2.1 j))), (dt, aJ cA 16 (fun j => lZ (σ.2.2.1 j))), (dl, aI cA 16 (fun j => nI (σ.2.2.2.1 j))), (g, .inr (2, [.ref gf, .ref gt, .ref gw, .int (zB dir), .int (nI nv), .int (nI me)])), (gf, aI cA 40 (fun j => nI (Fr j))), (gt, aI cA 40 (fun j => nI (To j))), (gw, aI cA 40 (fun j => nI (We j))), (xa, aI cA 40 (fun j => iZ (X j)))] sz [.ref bl, .ref g, .ref ds, .ref xa]) (zQv D vwCl (zT cA) (va_A [(bl, .inr (0, [.ref bs])), (bs, aI cA 16 (fun j => iZ (Su j))), (ds, .inr (1, [.ref dr, .ref dc, .ref dt, .ref dl, .ref dn, .int (zB σ.2.2.2.2)])), (dr, aZ cA 16 (fun j => zB (σ.1 j))), (dc, aJ cA 16 (fun j => lZ (σ.2.1 j))), (dt, aJ cA 16 (fun j => lZ (σ.2.2.1 j))), (dl, aI cA 16 (fun j => nI (σ.2.2.2.1 j))), (g, .inr (2, [.ref gf, .ref gt, .ref gw, .int (zB dir), .int (nI nv), .int (nI me)])), (gf, aI cA 40 (fun j => nI (Fr j))), (gt, aI cA 40 (fun j => nI (To j))), (gw, aI cA 40 (fun j => nI (We j))), (xa, aI cA 40 (fun j => iZ (X j)))] sz) [(bl, .inr (0, [.ref bs])), (bs, aI cA 16 (fun j => iZ (((bFind dir Fr To We nv me X Su σ).2.1) j))), (ds, .inr (1, [.ref dr, .ref dc, .ref dt, .ref dl, .ref dn, .int (zB (((bFind dir Fr To We nv me X Su σ).2.2).2.2.2.2))])), (dr, aZ cA 16 (fun j => zB ((((bFind dir Fr To We nv me X Su σ).2.2).1) j))), (dc, aJ cA 16 (fun j => lZ ((((bFind dir Fr To We nv me X Su σ).2.2).2.1) j))), (dt, aJ cA 16 (fun j => lZ ((((bFind dir Fr To We nv me X Su σ).2.2).2.2.1) j))), (dl, aI cA 16 (fun j => nI ((((bFind dir Fr To We nv me X Su σ).2.2).2.2.2.1) j))), (g, .inr (2, [.ref gf, .ref gt, .ref gw, .int (zB dir), .int (nI nv), .int (nI me)])), (gf, aI cA 40 (fun j => nI (Fr j))), (gt, aI cA 40 (fun j => nI (To j))), (gw, aI cA 40 (fun j => nI (We j))), (xa, aI cA 40 (fun j => iZ (((bFind dir Fr To We nv me X Su σ).1) j)))]) 0 0 (va_A [(bl, .inr (0, [.ref bs])), (bs, aI cA 16 (fun j => iZ (Su j))), (ds, .inr (1, [.ref dr, .ref dc, .ref dt, .ref dl, .ref dn, .int (zB σ.2.2.2.2)])), (dr, aZ cA 16 (fun j => zB (σ.1 j))), (dc, aJ cA 16 (fun j => lZ (σ.2.1 j))), (dt, aJ cA 16 (fun j => lZ (σ.2.2.1 j))), (dl, aI cA 16 (fun j => nI (σ.2.2.2.1 j))), (g, .inr (2, [.ref gf, .ref gt, .ref gw, .int (zB dir), .int (nI nv), .int (nI me)])), (gf, aI cA 40 (fun j => nI (Fr j))), (gt, aI cA 40 (fun j => nI (To j))), (gw, aI cA 40 (fun j => nI (We j))), (xa, aI cA 40 (fun j => iZ (X j)))] sz) := by
  refine z_write (cc := cX0_find) (maxL := 7) (ret := none) (by decide) rfl (Nat.le_of_ble_eq_true rfl) ?_
  intro p e s m below meth c hx hb hr hml hown hts hlocks A hAe hA H locs hP hK hD hS hini Q hQ ls hl
  have hown : s.vm.findClass RX0 = some m.cls := hown
  have hl : lv_has ls 7 [(0, .ref bl), (1, .ref g), (2, .ref ds), (3, .ref xa)] := hl
  generalize hav : ([.ref bl, .ref g, .ref ds, .ref xa] : List Value).toArray = args at hts hQ ⊢
  have hin0 : ∀ w ∈ wsX00, w ∈ wsX0_find := by decide +kernel
  have hin2 : ∀ w ∈ wsX20, w ∈ wsX0_find := by decide +kernel
  refine lv_aload_n hx hb dX0_find_0 rfl (lv_at hl 3 rfl) ?_
  refine lv_iconst (v := nI 0) hx hb dX0_find_1 (by decide) ?_
  refine z_cWSv (wc := [(xa, aI cA 40 (fun j => iZ (X j)))]) (rm := ({ frames := 0, cells := 0, slots := 0, locals := 0 } : Room)) (As := [.ref xa, .int (nI 0)]) (rest := []) (wr := [(bl, .inr (0, [.ref bs])), (bs, aI cA 16 (fun j => iZ (Su j))), (ds, .inr (1, [.ref dr, .ref dc, .ref dt, .ref dl, .ref dn, .int (zB σ.2.2.2.2)])), (dr, aZ cA 16 (fun j => zB (σ.1 j))), (dc, aJ cA 16 (fun j => lZ (σ.2.1 j))), (dt, aJ cA 16 (fun j => lZ (σ.2.2.1 j))), (dl, aI cA 16 (fun j => nI (σ.2.2.2.1 j))), (g, .inr (2, [.ref gf, .ref gt, .ref gw, .int (zB dir), .int (nI nv), .int (nI me)])), (gf, aI cA 40 (fun j => nI (Fr j))), (gt, aI cA 40 (fun j => nI (To j))), (gw, aI cA 40 (fun j => nI (We j)))]) (w1 := [(xa, aI cA 40 (fun j => iZ ((fl X 0 40) j)))]) (ws' := [(bl, .inr (0, [.ref bs])), (bs, aI cA 16 (fun j => iZ (Su j))), (ds, .inr (1, [.ref dr, .ref dc, .ref dt, .ref dl, .ref dn, .int (zB σ.2.2.2.2)])), (dr, aZ cA 16 (fun j => zB (σ.1 j))), (dc, aJ cA 16 (fun j => lZ (σ.2.1 j))), (dt, aJ cA 16 (fun j => lZ (σ.2.2.1 j))), (dl, aI cA 16 (fun j => nI (σ.2.2.2.1 j))), (g, .inr (2, [.ref gf, .ref gt, .ref gw, .int (zB dir), .int (nI nv), .int (nI me)])), (gf, aI cA 40 (fun j => nI (Fr j))), (gt, aI cA 40 (fun j => nI (To j))), (gw, aI cA 40 (fun j => nI (We j))), (xa, aI cA 40 (fun j => iZ ((fl X 0 40) j)))]) ⟨hx, hb, hml, hown, hts⟩ (c_J7_fill_53178 l D cA H.size xa 40 X 0 (by decide)) (va_cwS 2 hts gX0_find_J7_fill_53178 rfl rfl rfl (by decide +kernel) ⟨Nat.le_of_ble_eq_true rfl, Nat.le_of_ble_eq_true rfl⟩) hP hK hD hS hA [11] [0, 1, 2, 3, 4, 5, 6, 7, 8, 9, 10] [0, 1, 2, 3, 4, 5, 6, 7, 8, 9, 10, 11] rfl rfl rfl rfl rfl (by decide) rfl rfl rfl rfl hl.1 rfl (Nat.le_of_ble_eq_true rfl) ⟨Nat.zero_le _, Nat.zero_le _⟩ dX0_find_2 (fun H locs hP hD hS => ?_)
  refine lv_iconst (v := nI 0) hx hb dX0_find_5 (by decide) ?_
  refine lv_istore (lv' := [(4, .int (nI 0)), (0, .ref bl), (1, .ref g), (2, .ref ds), (3, .ref xa)]) hx hb dX0_find_6 hl (by decide) rfl (fun ls hl => ?_)
  have J8 : ∀ (n : Nat), ∀ (i : Nat), (i ≤ nv) → nv - i < n → ∀ (H : Heap) (locs : List Loc), va_P D vwCl [(bl, .inr (0, [.ref bs])), (bs, aI cA 16 (fun j => iZ ((bFill Fr To me Su i) j))), (ds, .inr (1, [.ref dr, .ref dc, .ref dt, .ref dl, .ref dn, .int (zB σ.2.2.2.2)])), (dr, aZ cA 16 (fun j => zB (σ.1 j))), (dc, aJ cA 16 (fun j => lZ (σ.2.1 j))), (dt, aJ cA 16 (fun j => lZ (σ.2.2.1 j))), (dl, aI cA 16 (fun j => nI (σ.2.2.2.1 j))), (g, .inr (2, [.ref gf, .ref gt, .ref gw, .int (zB dir), .int (nI nv), .int (nI me)])), (gf, aI cA 40 (fun j => nI (Fr j))), (gt, aI cA 40 (fun j => nI (To j))), (gw, aI cA 40 (fun j => nI (We j))), (xa, aI cA 40 (fun j => iZ ((fl X 0 40) j)))] H → va_D A [(bl, .inr (0, [.ref bs])), (bs, aI cA 16 (fun j => iZ ((bFill Fr To me Su i) j))), (ds, .inr (1, [.ref dr, .ref dc, .ref dt, .ref dl, .ref dn, .int (zB σ.2.2.2.2)])), (dr, aZ cA 16 (fun j => zB (σ.1 j))), (dc, aJ cA 16 (fun j => lZ (σ.2.1 j))), (dt, aJ cA 16 (fun j => lZ (σ.2.2.1 j))), (dl, aI cA 16 (fun j => nI (σ.2.2.2.1 j))), (g, .inr (2, [.ref gf, .ref gt, .ref gw, .int (zB dir), .int (nI nv), .int (nI me)])), (gf, aI cA 40 (fun j => nI (Fr j))), (gt, aI cA 40 (fun j => nI (To j))), (gw, aI cA 40 (fun j => nI (We j))), (xa, aI cA 40 (fun j => iZ ((fl X 0 40) j)))] → va_S A s.heap H locs → ∀ (ls : Array Slot), lv_has ls 7 [(0, .ref bl), (1, .ref g), (2, .ref ds), (3, .ref xa), (4, .int (nI i))] → W p l e ({ frames := 3, cells := 0, slots := 0, locals := 85 } : Room) s m args below meth c H locs 0 0 Q (F0 m 8 ls []) := by
    intro n8
    induction n8 with
    | zero => intro i hi hn; exact absurd hn (Nat.not_lt_zero _)
    | succ n8 ih8 =>
      intro i hi hn8 H locs hP hD hS ls hl
      refine lv_iload hx hb dX0_find_8 (lv_at hl 4 rfl) ?_
      refine lv_aload_n hx hb dX0_find_10 rfl (lv_at hl 1 rfl) ?_
      refine va_get (D := D) (ci := 2) (v := .int (nI nv)) (C := RX2) (T := TX2) (N := 6) hx hb hts hin2 hown hK hP 7 rfl rfl 4 (by decide) (hts (.fieldLink RX0 21 "TourHouse$Graph" "vertices" "I") (by decide +kernel)) (fun _ h9 => h9) rfl dX0_find_11 ?_
      refine z_ge hx hb (by omega) (by omega) (tgt := 36) dX0_find_14 (by decide) (fun h14 => ?_) (fun h14 => ?_)
      · skip
        refine lv_iconst (v := nI 0) hx hb dX0_find_36 (by decide) ?_
        refine lv_istore (lv' := [(4, .int (nI 0)), (0, .ref bl), (1, .ref g), (2, .ref ds), (3, .ref xa)]) hx hb dX0_find_37 hl (by decide) rfl (fun ls hl => ?_)
        have J39 : ∀ (n : Nat), ∀ (k : Nat) (β : BS), (k ≤ 40) → (∀ j, j < 40 → -(16 * k : Int) ≤ β.1 j ∧ β.1 j ≤ 16 * k) → (∀ j, j < nv → -(40 + k : Int) ≤ β.2.1 j ∧ β.2.1 j ≤ 40 + k) → (∀ j, -80 ≤ β.2.1 j ∧ β.2.1 j ≤ 80) → (∀ j, β.2.2.2.2.2.1 j < 80) → (bLoop dir Fr To We nv me (40 - k) β = bFind dir Fr To We nv me X Su σ) → 40 - k < n → ∀ (H : Heap) (locs : List Loc), va_P D vwCl [(bl, .inr (0, [.ref bs])), (bs, aI cA 16 (fun j => iZ (β.2.1 j))), (ds, .inr (1, [.ref dr, .ref dc, .ref dt, .ref dl, .ref dn, .int (zB β.2.2.2.2.2.2)])), (dr, aZ cA 16 (fun j => zB (β.2.2.1 j))), (dc, aJ cA 16 (fun j => lZ (β.2.2.2.1 j))), (dt, aJ cA 16 (fun j => lZ (β.2.2.2.2.1 j))), (dl, aI cA 16 (fun j => nI (β.2.2.2.2.2.1 j))), (g, .inr (2, [.ref gf, .ref gt, .ref gw, .int (zB dir), .int (nI nv), .int (nI me)])), (gf, aI cA 40 (fun j => nI (Fr j))), (gt, aI cA 40 (fun j => nI (To j))), (gw, aI cA 40 (fun j => nI (We j))), (xa, aI cA 40 (fun j => iZ (β.1 j)))] H → va_D A [(bl, .inr (0, [.ref bs])), (bs, aI cA 16 (fun j => iZ (β.2.1 j))), (ds, .inr (1, [.ref dr, .ref dc, .ref dt, .ref dl, .ref dn, .int (zB β.2.2.2.2.2.2)])), (dr, aZ cA 16 (fun j => zB (β.2.2.1 j))), (dc, aJ cA 16 (fun j => lZ (β.2.2.2.1 j))), (dt, aJ cA 16 (fun j => lZ (β.2.2.2.2.1 j))), (dl, aI cA 16 (fun j => nI (β.2.2.2.2.2.1 j))), (g, .inr (2, [.ref gf, .ref gt, .ref gw, .int (zB dir), .int (nI nv), .int (nI me)])), (gf, aI cA 40 (fun j => nI (Fr j))), (gt, aI cA 40 (fun j => nI (To j))), (gw, aI cA 40 (fun j => nI (We j))), (xa, aI cA 40 (fun j => iZ (β.1 j)))] → va_S A s.heap H locs → ∀ (ls : Array Slot), lv_has ls 7 [(0, .ref bl), (1, .ref g), (2, .ref ds), (3, .ref xa), (4, .int (nI k))] → W p l e ({ frames := 3, cells := 0, slots := 0, locals := 85 } : Room) s m args below meth c H locs 0 0 Q (F0 m 39 ls []) := by
          intro n39
          induction n39 with
          | zero => intro k β hk hX hS1 hS2 hLb hq hn; exact absurd hn (Nat.not_lt_zero _)
          | succ n39 ih39 =>
            intro k β hk hX hS1 hS2 hLb hq hn39 H locs hP hD hS ls hl
            refine lv_iload hx hb dX0_find_39 (lv_at hl 4 rfl) ?_
            refine lv_bipush (v := nI 40) hx hb dX0_find_41 (by decide) ?_
            refine z_ge hx hb (by omega) (by decide) (tgt := 128) dX0_find_43 (by decide) (fun h43 => ?_) (fun h43 => ?_)
            · skip
              have hres : bFind dir Fr To We nv me X Su σ = β := by rw [← hq]; first | (rw [show 40 - k = 0 from by omega]; rfl) | (rw [show 40 - k = (40 - (k + 1)) + 1 from by omega, bLoop, if_pos (by omega)])
              exact z_vretW hx hb hr hlocks hAe hQ (by rw [hres]; exact hP) hK (by rw [hres]; exact hD) hS dX0_find_128
            · skip
              refine lv_aload_n hx hb dX0_find_46 rfl (lv_at hl 0 rfl) ?_
              refine lv_iconst (v := iZ 1) hx hb dX0_find_47 (by decide) ?_
              refine lv_aload_n hx hb dX0_find_48 rfl (lv_at hl 1 rfl) ?_
              refine va_get (D := D) (ci := 2) (v := .int (nI nv)) (C := RX2) (T := TX2) (N := 6) hx hb hts hin2 hown hK hP 7 rfl rfl 4 (by decide) (hts (.fieldLink RX0 21 "TourHouse$Graph" "vertices" "I") (by decide +kernel)) (fun _ h9 => h9) rfl dX0_find_49 ?_
              refine z_cRVi (wc := [(bl, .inr (0, [.ref bs])), (bs, aI cA 16 (fun j => iZ (β.2.1 j)))]) (rm := ({ frames := 0, cells := 0, slots := 0, locals := 0 } : Room)) (As := [.int (iZ 1), .int (nI nv)]) (rest := []) ⟨hx, hb, hml, hown, hts⟩ (c_X0_leastWithSign l D cA bl bs β.2.1 1 nv (by first | assumption | omega) (fun j => by have := hS2 j; omega) (Or.inl rfl)) (cwV 2 hts gX0_find_X0_leastWithSign rfl rfl rfl (by decide +kernel) ⟨Nat.le_of_ble_eq_true rfl, Nat.le_of_ble_eq_true rfl⟩) hP hK [0, 1] rfl 0 0 rfl rfl rfl hl.1 rfl (Nat.le_of_ble_eq_true rfl) ⟨Nat.zero_le _, Nat.zero_le _⟩ dX0_find_52 (fun r hr52 => ?_)
              subst hr52
              refine lv_istore (lv' := [(5, .int (iZ (bLw β.2.1 1 nv nv))), (0, .ref bl), (1, .ref g), (2, .ref ds), (3, .ref xa), (4, .int (nI k))]) hx hb dX0_find_55 hl (by decide) rfl (fun ls hl => ?_)
              refine lv_aload_n hx hb dX0_find_57 rfl (lv_at hl 1 rfl) ?_
              refine lv_iconst (v := iZ (-1)) hx hb dX0_find_58 (by decide) ?_
              refine lv_aload_n hx hb dX0_find_59 rfl (lv_at hl 2 rfl) ?_
              refine va_get (D := D) (ci := 2) (v := .int (nI nv)) (C := RX2) (T := TX2) (N := 6) hx hb hts hin2 hown hK hP 7 rfl rfl 4 (by decide) (hts (.fieldLink RX0 21 "TourHouse$Graph" "vertices" "I") (by decide +kernel)) (fun _ h9 => h9) rfl dX0_find_60 ?_
              refine z_cRVi (wc := [(bl, .inr (0, [.ref bs])), (bs, aI cA 16 (fun j => iZ (β.2.1 j)))]) (rm := ({ frames := 0, cells := 0, slots := 0, locals := 0 } : Room)) (As := [.int (iZ (-1)), .int (nI nv)]) (rest := []) ⟨hx, hb, hml, hown, hts⟩ (c_X0_leastWithSign l D cA bl bs β.2.1 (-1) nv (by first | assumption | omega) (fun j => by have := hS2 j; omega) (Or.inr rfl)) (cwV 2 hts gX0_find_X0_leastWithSign rfl rfl rfl (by decide +kernel) ⟨Nat.le_of_ble_eq_true rfl, Nat.le_of_ble_eq_true rfl⟩) hP hK [0, 1] rfl 0 0 rfl rfl rfl hl.1 rfl (Nat.le_of_ble_eq_true rfl) ⟨Nat.zero_le _, Nat.zero_le _⟩ dX0_find_63 (fun r hr63 => ?_)
              subst hr63
              refine lv_istore (lv' := [(6, .int (iZ (bLw β.2.1 (-1) nv nv))), (5, .int (iZ (bLw β.2.1 1 nv nv))), (0, .ref bl), (1, .ref g), (2, .ref ds), (3, .ref xa), (4, .int (nI k))]) hx hb dX0_find_66 hl (by decide) rfl (fun ls hl => ?_)
              refine lv_iload hx hb dX0_find_68 (lv_at hl 1 rfl) ?_
              refine z_ilt hx hb (x := bLw β.2.1 1 nv nv) (⟨by have := bLw_rng (Su := β.2.1) (sg := 1) (nv := nv) (Nat.le_refl nv); omega, by have := bLw_rng (Su := β.2.1) (sg := 1) (nv := nv) (Nat.le_refl nv); omega⟩) (tgt := 128) dX0_find_70 (by decide) (fun h70 => ?_) (fun h70 => ?_)
              · skip
                have hres : bFind dir Fr To We nv me X Su σ = β := by rw [← hq]; first | (rw [show 40 - k = 0 from by omega]; rfl) | (rw [show 40 - k = (40 - (k + 1)) + 1 from by omega, bLoop, if_pos (by omega)])
                exact z_vretW hx hb hr hlocks hAe hQ (by rw [hres]; exact hP) hK (by rw [hres]; exact hD) hS dX0_find_128
              · skip
                refine lv_iload hx hb dX0_find_73 (lv_at hl 0 rfl) ?_
                refine z_ige hx hb (x := bLw β.2.1 (-1) nv nv) (⟨by have := bLw_rng (Su := β.2.1) (sg := (-1)) (nv := nv) (Nat.le_refl nv); omega, by have := bLw_rng (Su := β.2.1) (sg := (-1)) (nv := nv) (Nat.le_refl nv); omega⟩) (tgt := 81) dX0_find_75 (by decide) (fun h75 => ?_) (fun h75 => ?_)
                · skip
                  refine lv_aload_n hx hb dX0_find_81 rfl (lv_at hl 4 rfl) ?_
                  refine lv_iload hx hb dX0_find_82 (lv_at hl 1 rfl) ?_
                  refine z_topi (v := nI ((bLw β.2.1 1 nv nv).toNat)) (iZ_toNat (by omega)) ?_
                  refine lv_aload_n hx hb dX0_find_84 rfl (lv_at hl 3 rfl) ?_
                  refine lv_aload_n hx hb dX0_find_85 rfl (lv_at hl 5 rfl) ?_
                  refine z_cWVv (wc := [(ds, .inr (1, [.ref dr, .ref dc, .ref dt, .ref dl, .ref dn, .int (zB β.2.2.2.2.2.2)])), (dr, aZ cA 16 (fun j => zB (β.2.2.1 j))), (dc, aJ cA 16 (fun j => lZ (β.2.2.2.1 j))), (dt, aJ cA 16 (fun j => lZ (β.2.2.2.2.1 j))), (dl, aI cA 16 (fun j => nI (β.2.2.2.2.2.1 j))), (g, .inr (2, [.ref gf, .ref gt, .ref gw, .int (zB dir), .int (nI nv), .int (nI me)])), (gf, aI cA 40 (fun j => nI (Fr j))), (gt, aI cA 40 (fun j => nI (To j))), (gw, aI cA 40 (fun j => nI (We j))), (xa, aI cA 40 (fun j => iZ (β.1 j)))]) (rm := ({ frames := 2, cells := 0, slots := 0, locals := 58 } : Room)) (As := [.int (nI ((bLw β.2.1 1 nv nv).toNat)), .ref g, .ref xa]) (rest := []) (wr := [(bl, .inr (0, [.ref bs])), (bs, aI cA 16 (fun j => iZ (β.2.1 j)))]) (w1 := [(ds, .inr (1, [.ref dr, .ref dc, .ref dt, .ref dl, .ref dn, .int (zB ((dSearch dir Fr To We β.1 me β.2.2 ((bLw β.2.1 1 nv nv).toNat)).2.2.2.2))])), (dr, aZ cA 16 (fun j => zB (((dSearch dir Fr To We β.1 me β.2.2 ((bLw β.2.1 1 nv nv).toNat)).1) j))), (dc, aJ cA 16 (fun j => lZ (((dSearch dir Fr To We β.1 me β.2.2 ((bLw β.2.1 1 nv nv).toNat)).2.1) j))), (dt, aJ cA 16 (fun j => lZ (((dSearch dir Fr To We β.1 me β.2.2 ((bLw β.2.1 1 nv nv).toNat)).2.2.1) j))), (dl, aI cA 16 (fun j => nI (((dSearch dir Fr To We β.1 me β.2.2 ((bLw β.2.1 1 nv nv).toNat)).2.2.2.1) j))), (g, .inr (2, [.ref gf, .ref gt, .ref gw, .int (zB dir), .int (nI nv), .int (nI me)])), (gf, aI cA 40 (fun j => nI (Fr j))), (gt, aI cA 40 (fun j => nI (To j))), (gw, aI cA 40 (fun j => nI (We j))), (xa, aI cA 40 (fun j => iZ (β.1 j)))]) (ws' := [(bl, .inr (0, [.ref bs])), (bs, aI cA 16 (fun j => iZ (β.2.1 j))), (ds, .inr (1, [.ref dr, .ref dc, .ref dt, .ref dl, .ref dn, .int (zB ((dSearch dir Fr To We β.1 me β.2.2 ((bLw β.2.1 1 nv nv).toNat)).2.2.2.2))])), (dr, aZ cA 16 (fun j => zB (((dSearch dir Fr To We β.1 me β.2.2 ((bLw β.2.1 1 nv nv).toNat)).1) j))), (dc, aJ cA 16 (fun j => lZ (((dSearch dir Fr To We β.1 me β.2.2 ((bLw β.2.1 1 nv nv).toNat)).2.1) j))), (dt, aJ cA 16 (fun j => lZ (((dSearch dir Fr To We β.1 me β.2.2 ((bLw β.2.1 1 nv nv).toNat)).2.2.1) j))), (dl, aI cA 16 (fun j => nI (((dSearch dir Fr To We β.1 me β.2.2 ((bLw β.2.1 1 nv nv).toNat)).2.2.2.1) j))), (g, .inr (2, [.ref gf, .ref gt, .ref gw, .int (zB dir), .int (nI nv), .int (nI me)])), (gf, aI cA 40 (fun j => nI (Fr j))), (gt, aI cA 40 (fun j => nI (To j))), (gw, aI cA 40 (fun j => nI (We j))), (xa, aI cA 40 (fun j => iZ (β.1 j)))]) ⟨hx, hb, hml, hown, hts⟩ (c_X1_searchBesideExtras l D cA H.size ds dr dc dt dl dn g gf gt gw Fr To We dir nv me xa β.1 β.2.2 ((bLw β.2.1 1 nv nv).toNat) (by first | assumption | omega) (by first | assumption | omega) (by first | assumption | omega) (by first | assumption | omega) (fun j hj => by have := hX j hj; omega) (by have := bLw_rng (Su := β.2.1) (sg := 1) (nv := nv) (Nat.le_refl nv); omega)) (cwV 3 hts gX0_find_X1_searchBesideExtras rfl rfl rfl (by decide +kernel) ⟨Nat.le_of_ble_eq_true rfl, Nat.le_of_ble_eq_true rfl⟩) hP hK hD hS hA [2, 3, 4, 5, 6, 7, 8, 9, 10, 11] [0, 1] [0, 1, 2, 3, 4, 5, 6, 7, 8, 9, 10, 11] rfl rfl rfl rfl rfl (by decide) rfl rfl rfl 1 0 rfl rfl rfl hl.1 rfl (Nat.le_of_ble_eq_true rfl) ⟨Nat.zero_le _, Nat.zero_le _⟩ dX0_find_86 (fun H locs hP hD hS => ?_)
                  refine lv_aload_n hx hb dX0_find_89 rfl (lv_at hl 2 rfl) ?_
                  refine lv_iload hx hb dX0_find_90 (lv_at hl 1 rfl) ?_
                  refine z_topi (v := nI ((bLw β.2.1 1 nv nv).toNat)) (iZ_toNat (by omega)) ?_
                  refine lv_iload hx hb dX0_find_92 (lv_at hl 0 rfl) ?_
                  refine z_topi (v := nI ((bLw β.2.1 (-1) nv nv).toNat)) (iZ_toNat (by omega)) ?_
                  refine lv_aload_n hx hb dX0_find_94 rfl (lv_at hl 3 rfl) ?_
                  refine lv_aload_n hx hb dX0_find_95 rfl (lv_at hl 4 rfl) ?_
                  refine lv_aload_n hx hb dX0_find_96 rfl (lv_at hl 5 rfl) ?_
                  refine z_cWVv (wc := [(bl, .inr (0, [.ref bs])), (ds, .inr (1, [.ref dr, .ref dc, .ref dt, .ref dl, .ref dn, .int (zB ((dSearch dir Fr To We β.1 me β.2.2 (bLw β.2.1 1 nv nv).toNat).2.2.2.2))])), (dl, aI cA 16 (fun j => nI (((dSearch dir Fr To We β.1 me β.2.2 (bLw β.2.1 1 nv nv).toNat).2.2.2.1) j))), (g, .inr (2, [.ref gf, .ref gt, .ref gw, .int (zB dir), .int (nI nv), .int (nI me)])), (gf, aI cA 40 (fun j => nI (Fr j))), (gt, aI cA 40 (fun j => nI (To j))), (xa, aI cA 40 (fun j => iZ (β.1 j)))]) (rm := ({ frames := 0, cells := 0, slots := 0, locals := 0 } : Room)) (As := [.int (nI ((bLw β.2.1 1 nv nv).toNat)), .int (nI ((bLw β.2.1 (-1) nv nv).toNat)), .ref g, .ref ds, .ref xa]) (rest := []) (wr := [(bs, aI cA 16 (fun j => iZ (β.2.1 j))), (dr, aZ cA 16 (fun j => zB (((dSearch dir Fr To We β.1 me β.2.2 ((bLw β.2.1 1 nv nv).toNat)).1) j))), (dc, aJ cA 16 (fun j => lZ (((dSearch dir Fr To We β.1 me β.2.2 ((bLw β.2.1 1 nv nv).toNat)).2.1) j))), (dt, aJ cA 16 (fun j => lZ (((dSearch dir Fr To We β.1 me β.2.2 ((bLw β.2.1 1 nv nv).toNat)).2.2.1) j))), (gw, aI cA 40 (fun j => nI (We j)))]) (w1 := [(bl, .inr (0, [.ref bs])), (ds, .inr (1, [.ref dr, .ref dc, .ref dt, .ref dl, .ref dn, .int (zB ((dSearch dir Fr To We β.1 me β.2.2 (bLw β.2.1 1 nv nv).toNat).2.2.2.2))])), (dl, aI cA 16 (fun j => nI (((dSearch dir Fr To We β.1 me β.2.2 (bLw β.2.1 1 nv nv).toNat).2.2.2.1) j))), (g, .inr (2, [.ref gf, .ref gt, .ref gw, .int (zB dir), .int (nI nv), .int (nI me)])), (gf, aI cA 40 (fun j => nI (Fr j))), (gt, aI cA 40 (fun j => nI (To j))), (xa, aI cA 40 (fun j => iZ ((bAdd Fr To (dSearch dir Fr To We β.1 me β.2.2 (bLw β.2.1 1 nv nv).toNat).2.2.2.1 ((bLw β.2.1 1 nv nv).toNat) 16 ((bLw β.2.1 (-1) nv nv).toNat) β.1) j)))]) (ws' := [(bl, .inr (0, [.ref bs])), (bs, aI cA 16 (fun j => iZ (β.2.1 j))), (ds, .inr (1, [.ref dr, .ref dc, .ref dt, .ref dl, .ref dn, .int (zB ((dSearch dir Fr To We β.1 me β.2.2 (bLw β.2.1 1 nv nv).toNat).2.2.2.2))])), (dr, aZ cA 16 (fun j => zB (((dSearch dir Fr To We β.1 me β.2.2 ((bLw β.2.1 1 nv nv).toNat)).1) j))), (dc, aJ cA 16 (fun j => lZ (((dSearch dir Fr To We β.1 me β.2.2 ((bLw β.2.1 1 nv nv).toNat)).2.1) j))), (dt, aJ cA 16 (fun j => lZ (((dSearch dir Fr To We β.1 me β.2.2 ((bLw β.2.1 1 nv nv).toNat)).2.2.1) j))), (dl, aI cA 16 (fun j => nI (((dSearch dir Fr To We β.1 me β.2.2 (bLw β.2.1 1 nv nv).toNat).2.2.2.1) j))), (g, .inr (2, [.ref gf, .ref gt, .ref gw, .int (zB dir), .int (nI nv), .int (nI me)])), (gf, aI cA 40 (fun j => nI (Fr j))), (gt, aI cA 40 (fun j => nI (To j))), (gw, aI cA 40 (fun j => nI (We j))), (xa, aI cA 40 (fun j => iZ ((bAdd Fr To (dSearch dir Fr To We β.1 me β.2.2 (bLw β.2.1 1 nv nv).toNat).2.2.2.1 ((bLw β.2.1 1 nv nv).toNat) 16 ((bLw β.2.1 (-1) nv nv).toNat) β.1) j)))]) ⟨hx, hb, hml, hown, hts⟩ (c_X0_addPassage l D cA H.size bl bs ds dr dc dt dl dn g gf gt gw Fr To dir nv me xa β.1 (dSearch dir Fr To We β.1 me β.2.2 (bLw β.2.1 1 nv nv).toNat) ((bLw β.2.1 1 nv nv).toNat) ((bLw β.2.1 (-1) nv nv).toNat) (by first | assumption | omega) (by first | assumption | omega) (dSearch_L hme hLb) (by have := bLw_rng (Su := β.2.1) (sg := 1) (nv := nv) (Nat.le_refl nv); omega) (by have := bLw_rng (Su := β.2.1) (sg := (-1)) (nv := nv) (Nat.le_refl nv); omega)) (cwV 5 hts gX0_find_X0_addPassage rfl rfl rfl (by decide +kernel) ⟨Nat.le_of_ble_eq_true rfl, Nat.le_of_ble_eq_true rfl⟩) hP hK hD hS hA [0, 2, 6, 7, 8, 9, 11] [1, 3, 4, 5, 10] [5, 0, 6, 1, 2, 3, 7, 8, 9, 10, 4, 11] rfl rfl rfl rfl rfl (by decide) rfl rfl rfl 0 0 rfl rfl rfl hl.1 rfl (Nat.le_of_ble_eq_true rfl) ⟨Nat.zero_le _, Nat.zero_le _⟩ dX0_find_97 (fun H locs hP hD hS => ?_)
                  refine lv_aload_n hx hb dX0_find_100 rfl (lv_at hl 2 rfl) ?_
                  refine va_get (D := D) (ci := 0) (v := .ref bs) (C := RX0) (T := TX0) (N := 1) hx hb hts hin0 hown hK hP 0 rfl rfl 0 (by decide) (hts (.fieldLink RX0 9 "TourHouse$Balancing" "surplus" "[I") (by decide +kernel)) (fun _ h9 => h9) rfl dX0_find_101 ?_
                  refine lv_iload hx hb dX0_find_104 (lv_at hl 1 rfl) ?_
                  refine z_topi (v := nI ((bLw β.2.1 1 nv nv).toNat)) (iZ_toNat (by omega)) ?_
                  refine lv_dup2_11 hx hb dX0_find_106 rfl rfl ?_
                  refine z_iald hx hb hK hP 1 0 rfl rfl (k := ((bLw β.2.1 1 nv nv).toNat)) (by have := bLw_rng (Su := β.2.1) (sg := 1) (nv := nv) (Nat.le_refl nv); omega) (by decide) (v := iZ (β.2.1 ((bLw β.2.1 1 nv nv).toNat))) rfl dX0_find_107 ?_
                  refine lv_iconst (v := nI 1) hx hb dX0_find_108 (by decide) ?_
                  refine lv_isub hx hb dX0_find_109 ?_
                  refine z_topi (v := iZ ((β.2.1 ((bLw β.2.1 1 nv nv).toNat)) - 1)) (iZ_sub (β.2.1 ((bLw β.2.1 1 nv nv).toNat)) 1) ?_
                  refine z_iast hx hb hK hP hD hS 1 0 rfl rfl (k := ((bLw β.2.1 1 nv nv).toNat)) (by have := bLw_rng (Su := β.2.1) (sg := 1) (nv := nv) (Nat.le_refl nv); omega) (by decide) (f' := (fun j => iZ ((va_up β.2.1 ((bLw β.2.1 1 nv nv).toNat) ((β.2.1 ((bLw β.2.1 1 nv nv).toNat)) - 1)) j))) (upd_iZ _ _ _) (ws' := [(bl, .inr (0, [.ref bs])), (bs, aI cA 16 (fun j => iZ ((va_up β.2.1 ((bLw β.2.1 1 nv nv).toNat) ((β.2.1 ((bLw β.2.1 1 nv nv).toNat)) - 1)) j))), (ds, .inr (1, [.ref dr, .ref dc, .ref dt, .ref dl, .ref dn, .int (zB ((dSearch dir Fr To We β.1 me β.2.2 (bLw β.2.1 1 nv nv).toNat).2.2.2.2))])), (dr, aZ cA 16 (fun j => zB (((dSearch dir Fr To We β.1 me β.2.2 ((bLw β.2.1 1 nv nv).toNat)).1) j))), (dc, aJ cA 16 (fun j => lZ (((dSearch dir Fr To We β.1 me β.2.2 ((bLw β.2.1 1 nv nv).toNat)).2.1) j))), (dt, aJ cA 16 (fun j => lZ (((dSearch dir Fr To We β.1 me β.2.2 ((bLw β.2.1 1 nv nv).toNat)).2.2.1) j))), (dl, aI cA 16 (fun j => nI (((dSearch dir Fr To We β.1 me β.2.2 (bLw β.2.1 1 nv nv).toNat).2.2.2.1) j))), (g, .inr (2, [.ref gf, .ref gt, .ref gw, .int (zB dir), .int (nI nv), .int (nI me)])), (gf, aI cA 40 (fun j => nI (Fr j))), (gt, aI cA 40 (fun j => nI (To j))), (gw, aI cA 40 (fun j => nI (We j))), (xa, aI cA 40 (fun j => iZ ((bAdd Fr To (dSearch dir Fr To We β.1 me β.2.2 (bLw β.2.1 1 nv nv).toNat).2.2.2.1 ((bLw β.2.1 1 nv nv).toNat) 16 ((bLw β.2.1 (-1) nv nv).toNat) β.1) j)))]) rfl dX0_find_110 (fun H locs hP hD hS => ?_)
                  refine lv_aload_n hx hb dX0_find_111 rfl (lv_at hl 2 rfl) ?_
                  refine va_get (D := D) (ci := 0) (v := .ref bs) (C := RX0) (T := TX0) (N := 1) hx hb hts hin0 hown hK hP 0 rfl rfl 0 (by decide) (hts (.fieldLink RX0 9 "TourHouse$Balancing" "surplus" "[I") (by decide +kernel)) (fun _ h9 => h9) rfl dX0_find_112 ?_
                  refine lv_iload hx hb dX0_find_115 (lv_at hl 0 rfl) ?_
                  refine z_topi (v := nI ((bLw β.2.1 (-1) nv nv).toNat)) (iZ_toNat (by omega)) ?_
                  refine lv_dup2_11 hx hb dX0_find_117 rfl rfl ?_
                  refine z_iald hx hb hK hP 1 0 rfl rfl (k := ((bLw β.2.1 (-1) nv nv).toNat)) (by have := bLw_rng (Su := β.2.1) (sg := (-1)) (nv := nv) (Nat.le_refl nv); omega) (by decide) (v := iZ ((va_up β.2.1 ((bLw β.2.1 1 nv nv).toNat) ((β.2.1 ((bLw β.2.1 1 nv nv).toNat)) - 1)) ((bLw β.2.1 (-1) nv nv).toNat))) rfl dX0_find_118 ?_
                  refine lv_iconst (v := nI 1) hx hb dX0_find_119 (by decide) ?_
                  refine lv_iadd hx hb dX0_find_120 ?_
                  refine z_topi (v := iZ (((va_up β.2.1 ((bLw β.2.1 1 nv nv).toNat) ((β.2.1 ((bLw β.2.1 1 nv nv).toNat)) - 1)) ((bLw β.2.1 (-1) nv nv).toNat)) + 1)) (iZ_add ((va_up β.2.1 ((bLw β.2.1 1 nv nv).toNat) ((β.2.1 ((bLw β.2.1 1 nv nv).toNat)) - 1)) ((bLw β.2.1 (-1) nv nv).toNat)) 1) ?_
                  refine z_iast hx hb hK hP hD hS 1 0 rfl rfl (k := ((bLw β.2.1 (-1) nv nv).toNat)) (by have := bLw_rng (Su := β.2.1) (sg := (-1)) (nv := nv) (Nat.le_refl nv); omega) (by decide) (f' := (fun j => iZ ((va_up (va_up β.2.1 ((bLw β.2.1 1 nv nv).toNat) ((β.2.1 ((bLw β.2.1 1 nv nv).toNat)) - 1)) ((bLw β.2.1 (-1) nv nv).toNat) (((va_up β.2.1 ((bLw β.2.1 1 nv nv).toNat) ((β.2.1 ((bLw β.2.1 1 nv nv).toNat)) - 1)) ((bLw β.2.1 (-1) nv nv).toNat)) + 1)) j))) (upd_iZ _ _ _) (ws' := [(bl, .inr (0, [.ref bs])), (bs, aI cA 16 (fun j => iZ ((va_up (va_up β.2.1 ((bLw β.2.1 1 nv nv).toNat) ((β.2.1 ((bLw β.2.1 1 nv nv).toNat)) - 1)) ((bLw β.2.1 (-1) nv nv).toNat) (((va_up β.2.1 ((bLw β.2.1 1 nv nv).toNat) ((β.2.1 ((bLw β.2.1 1 nv nv).toNat)) - 1)) ((bLw β.2.1 (-1) nv nv).toNat)) + 1)) j))), (ds, .inr (1, [.ref dr, .ref dc, .ref dt, .ref dl, .ref dn, .int (zB ((dSearch dir Fr To We β.1 me β.2.2 (bLw β.2.1 1 nv nv).toNat).2.2.2.2))])), (dr, aZ cA 16 (fun j => zB (((dSearch dir Fr To We β.1 me β.2.2 ((bLw β.2.1 1 nv nv).toNat)).1) j))), (dc, aJ cA 16 (fun j => lZ (((dSearch dir Fr To We β.1 me β.2.2 ((bLw β.2.1 1 nv nv).toNat)).2.1) j))), (dt, aJ cA 16 (fun j => lZ (((dSearch dir Fr To We β.1 me β.2.2 ((bLw β.2.1 1 nv nv).toNat)).2.2.1) j))), (dl, aI cA 16 (fun j => nI (((dSearch dir Fr To We β.1 me β.2.2 (bLw β.2.1 1 nv nv).toNat).2.2.2.1) j))), (g, .inr (2, [.ref gf, .ref gt, .ref gw, .int (zB dir), .int (nI nv), .int (nI me)])), (gf, aI cA 40 (fun j => nI (Fr j))), (gt, aI cA 40 (fun j => nI (To j))), (gw, aI cA 40 (fun j => nI (We j))), (xa, aI cA 40 (fun j => iZ ((bAdd Fr To (dSearch dir Fr To We β.1 me β.2.2 (bLw β.2.1 1 nv nv).toNat).2.2.2.1 ((bLw β.2.1 1 nv nv).toNat) 16 ((bLw β.2.1 (-1) nv nv).toNat) β.1) j)))]) rfl dX0_find_121 (fun H locs hP hD hS => ?_)
                  refine lv_iinc (v := nI (k + 1)) (lv' := [(4, .int (nI (k + 1))), (6, .int (iZ (bLw β.2.1 (-1) nv nv))), (5, .int (iZ (bLw β.2.1 1 nv nv))), (0, .ref bl), (1, .ref g), (2, .ref ds), (3, .ref xa)]) hx hb dX0_find_122 hl (k := 6) rfl (nI_1 k) (by decide) rfl (fun ls hl => ?_)
                  refine lv_goto (tgt := 39) hx hb dX0_find_125 (by decide) ?_
                  exact ih39 (k + 1) (bStep dir Fr To We nv me β) (by omega) (bStep_X hX) (bStep_S1 (by omega) (by omega) hS1) (bStep_S2 (by omega) (by omega) (by omega) hS1 hS2) (bStep_L hme hLb) (by rw [← hq, show 40 - k = (40 - (k + 1)) + 1 from by omega, bLoop, if_neg (by omega)]) (by omega) _ _ (hP) (hD) hS ls (lv_sub hl [3, 4, 5, 6, 0] (by rfl))
                · skip
                  refine lv_goto (tgt := 128) hx hb dX0_find_78 (by decide) ?_
                  have hres : bFind dir Fr To We nv me X Su σ = β := by rw [← hq]; first | (rw [show 40 - k = 0 from by omega]; rfl) | (rw [show 40 - k = (40 - (k + 1)) + 1 from by omega, bLoop, if_pos (by omega)])
                  exact z_vretW hx hb hr hlocks hAe hQ (by rw [hres]; exact hP) hK (by rw [hres]; exact hD) hS dX0_find_128
        exact J39 ((40 - 0) + 1) 0 (fl X 0 40, bFill Fr To me Su nv, σ) (by omega) (fun j hj => by simp [fl, hj]) (fun j hj => by have := bFill_in Fr To me Su hj; have := gSur_rng Fr To j me; simp only []; omega) (fun j => by have := bFill_b Fr To hSu hme nv j; simp only []; omega) hL rfl (by omega) _ _ (by have q : i = nv := (by omega); rw [q] at hP; exact hP) (by have q : i = nv := (by omega); rw [q] at hD; exact hD) hS ls (lv_sub hl [1, 2, 3, 4, 0] (by rfl))
      · skip
        refine lv_aload_n hx hb dX0_find_17 rfl (lv_at hl 0 rfl) ?_
        refine va_get (D := D) (ci := 0) (v := .ref bs) (C := RX0) (T := TX0) (N := 1) hx hb hts hin0 hown hK hP 0 rfl rfl 0 (by decide) (hts (.fieldLink RX0 9 "TourHouse$Balancing" "surplus" "[I") (by decide +kernel)) (fun _ h9 => h9) rfl dX0_find_18 ?_
        refine lv_iload hx hb dX0_find_21 (lv_at hl 4 rfl) ?_
        refine lv_aload_n hx hb dX0_find_23 rfl (lv_at hl 1 rfl) ?_
        refine lv_iload hx hb dX0_find_24 (lv_at hl 4 rfl) ?_
        refine z_cRVi (wc := [(g, .inr (2, [.ref gf, .ref gt, .ref gw, .int (zB dir), .int (nI nv), .int (nI me)])), (gf, aI cA 40 (fun j => nI (Fr j))), (gt, aI cA 40 (fun j => nI (To j)))]) (rm := ({ frames := 0, cells := 0, slots := 0, locals := 0 } : Room)) (As := [.int (nI i)]) (rest := [.int (nI i), .ref bs]) ⟨hx, hb, hml, hown, hts⟩ (c_X2_surplusAt l D cA g gf gt gw Fr To dir nv me i (by first | assumption | omega) (by first | assumption | omega) (by first | assumption | omega) (by omega)) (cwV 1 hts gX0_find_X2_surplusAt rfl rfl rfl (by decide +kernel) ⟨Nat.le_of_ble_eq_true rfl, Nat.le_of_ble_eq_true rfl⟩) hP hK [7, 8, 9] rfl 2 0 rfl rfl rfl hl.1 rfl (Nat.le_of_ble_eq_true rfl) ⟨Nat.zero_le _, Nat.zero_le _⟩ dX0_find_26 (fun r hr26 => ?_)
        subst hr26
        refine z_iast hx hb hK hP hD hS 1 0 rfl rfl (k := i) (by omega) (by decide) (f' := (fun j => iZ ((bFill Fr To me Su (i + 1)) j))) ((upd_iZ _ _ _).trans (by rw [bFill_up])) (ws' := [(bl, .inr (0, [.ref bs])), (bs, aI cA 16 (fun j => iZ ((bFill Fr To me Su (i + 1)) j))), (ds, .inr (1, [.ref dr, .ref dc, .ref dt, .ref dl, .ref dn, .int (zB σ.2.2.2.2)])), (dr, aZ cA 16 (fun j => zB (σ.1 j))), (dc, aJ cA 16 (fun j => lZ (σ.2.1 j))), (dt, aJ cA 16 (fun j => lZ (σ.2.2.1 j))), (dl, aI cA 16 (fun j => nI (σ.2.2.2.1 j))), (g, .inr (2, [.ref gf, .ref gt, .ref gw, .int (zB dir), .int (nI nv), .int (nI me)])), (gf, aI cA 40 (fun j => nI (Fr j))), (gt, aI cA 40 (fun j => nI (To j))), (gw, aI cA 40 (fun j => nI (We j))), (xa, aI cA 40 (fun j => iZ ((fl X 0 40) j)))]) rfl dX0_find_29 (fun H locs hP hD hS => ?_)
        refine lv_iinc (v := nI (i + 1)) (lv' := [(4, .int (nI (i + 1))), (0, .ref bl), (1, .ref g), (2, .ref ds), (3, .ref xa)]) hx hb dX0_find_30 hl (k := 4) rfl (nI_1 i) (by decide) rfl (fun ls hl => ?_)
        refine lv_goto (tgt := 8) hx hb dX0_find_33 (by decide) ?_
        exact ih8 (i + 1) (by omega) (by omega) _ _ (hP) (hD) hS ls (lv_sub hl [1, 2, 3, 4, 0] (by rfl))
  exact J8 ((nv - 0) + 1) 0 (by omega) (by omega) _ _ (by rw [bFill_0]; exact hP) (by rw [bFill_0]; exact hD) hS ls (lv_sub hl [1, 2, 3, 4, 0] (by rfl))
