theorem pLo_go {set a : Nat} (h0 : 0 ≤ pLo set 16) (ha : a < 16) (h : pLo set (16 - a) = pLo set 16) (hb : ¬ set / 2 ^ a % 2 = 1) : a + 1 < 16 := by
  rw [show 16 - a = (16 - (a + 1)) + 1 from by omega, pLo, show 16 - (16 - (a + 1) + 1) = a from by omega, if_neg hb] at h
  rcases Nat.lt_or_ge (a + 1) 16 with q | q
  · exact q
  · rw [show 16 - (a + 1) = 0 from by omega, pLo] at h
    omega
theorem pLo_bit {set : Nat} : ∀ {k : Nat}, k ≤ 16 → 0 ≤ pLo set k → set / 2 ^ (pLo set k).toNat % 2 = 1
  | 0, _, h => by simp [pLo] at h
  | k + 1, hk, h => by
    rw [pLo] at h ⊢
    by_cases q : set / 2 ^ (16 - (k + 1)) % 2 = 1
    · rw [if_pos q]; exact q
    · rw [if_neg q] at h ⊢
      exact pLo_bit (by omega) h
theorem bit_le {s a : Nat} (h : s / 2 ^ a % 2 = 1) : 2 ^ a ≤ s := by
  rcases Nat.lt_or_ge s (2 ^ a) with q | q
  · rw [Nat.div_eq_of_lt q] at h; omega
  · exact q
theorem bit1_le {set : Nat} (h : set < 65536) (hne : set ≠ 0) : 2 ^ (pLo set 16).toNat ≤ set := bit_le (pLo_bit (Nat.le_refl 16) (pLo_pos h hne))
theorem bit_two {s a b : Nat} (hab : a < b) (ha : s / 2 ^ a % 2 = 1) (hb : s / 2 ^ b % 2 = 1) : 2 ^ a + 2 ^ b ≤ s := by
  have h1 : s = 2 ^ b * (s / 2 ^ b) + s % 2 ^ b := (Nat.div_add_mod s (2 ^ b)).symm
  have h2 : 1 ≤ s / 2 ^ b := by
    generalize s / 2 ^ b = x at hb ⊢
    omega
  have h3 : 2 ^ a ≤ s % 2 ^ b := by
    apply bit_le
    have e : s % 2 ^ b / 2 ^ a % 2 = s / 2 ^ a % 2 := by
      have t1 := Nat.testBit_mod_two_pow s b a
      rw [decide_eq_true hab, Bool.true_and, Nat.testBit_eq_decide_div_mod_eq, Nat.testBit_eq_decide_div_mod_eq] at t1
      by_cases q : s / 2 ^ a % 2 = 1
      · rw [q]
        rw [decide_eq_true q] at t1
        exact of_decide_eq_true t1
      · rw [decide_eq_false q] at t1
        have := of_decide_eq_false t1
        omega
    rw [e]; exact ha
  have h4 : 2 ^ b * 1 ≤ 2 ^ b * (s / 2 ^ b) := Nat.mul_le_mul_left _ h2
  omega
theorem bit2_le {set b : Nat} (h : set < 65536) (hab : (pLo set 16).toNat < b) (hb : set / 2 ^ b % 2 ≠ 0) : 2 ^ (pLo set 16).toNat + 2 ^ b ≤ set := by
  have hne : set ≠ 0 := by
    intro e; rw [e, Nat.zero_div] at hb; exact hb rfl
  exact bit_two hab (pLo_bit (Nat.le_refl 16) (pLo_pos h hne)) (by omega)
theorem mR_init {φ : (Nat → Int) × (Nat → Int)} {set : Nat} (h : mR φ) : mR (va_up φ.1 set 1152921504606846976, va_up φ.2 set 0) :=
  ⟨up_all (P := fun x => -9223372036854775808 ≤ x ∧ x < 9223372036854775808) h.1 (by decide), up_all (P := fun x => -9223372036854775808 ≤ x ∧ x < 9223372036854775808) h.2 (by decide)⟩
/-- one partner b tried -/
def mPs (Od : Nat → Nat) (Fa Bi : Nat → Int) (set b : Nat) (χ : (Nat → Int) × (Nat → Int)) : (Nat → Int) × (Nat → Int) :=
  if set / 2 ^ b % 2 = 0 then χ
  else if 1152921504606846976 ≤ χ.1 (set - 2 ^ (pLo set 16).toNat - 2 ^ b) ∨ 1152921504606846976 ≤ Fa (16 * Od (pLo set 16).toNat + Od b) then χ
  else if w64 (χ.1 (set - 2 ^ (pLo set 16).toNat - 2 ^ b) + Fa (16 * Od (pLo set 16).toNat + Od b)) > χ.1 set ∨ (w64 (χ.1 (set - 2 ^ (pLo set 16).toNat - 2 ^ b) + Fa (16 * Od (pLo set 16).toNat + Od b)) = χ.1 set ∧ w64 (χ.2 (set - 2 ^ (pLo set 16).toNat - 2 ^ b) + Bi (16 * Od (pLo set 16).toNat + Od b)) ≥ χ.2 set) then χ
  else (va_up χ.1 set (w64 (χ.1 (set - 2 ^ (pLo set 16).toNat - 2 ^ b) + Fa (16 * Od (pLo set 16).toNat + Od b))), va_up χ.2 set (w64 (χ.2 (set - 2 ^ (pLo set 16).toNat - 2 ^ b) + Bi (16 * Od (pLo set 16).toNat + Od b))))
/-- the last k partners -/
def mPb (mon : Nat) (Od : Nat → Nat) (Fa Bi : Nat → Int) (set : Nat) : Nat → (Nat → Int) × (Nat → Int) → (Nat → Int) × (Nat → Int)
  | 0, χ => χ
  | k + 1, χ => mPb mon Od Fa Bi set k (mPs Od Fa Bi set (mon - (k + 1)) χ)
def mPset (mon : Nat) (Od : Nat → Nat) (Fa Bi : Nat → Int) (set : Nat) (φ : (Nat → Int) × (Nat → Int)) : (Nat → Int) × (Nat → Int) := mPb mon Od Fa Bi set (mon - ((pLo set 16).toNat + 1)) (va_up φ.1 set 1152921504606846976, va_up φ.2 set 0)
section
variable {Od : Nat → Nat} {Fa Bi : Nat → Int} {set b : Nat} {χ : (Nat → Int) × (Nat → Int)}
theorem mPs_0 (h : set / 2 ^ b % 2 = 0) : mPs Od Fa Bi set b χ = χ := by rw [mPs, if_pos h]
theorem mPs_f (h : set / 2 ^ b % 2 ≠ 0) (h2 : 1152921504606846976 ≤ χ.1 (set - 2 ^ (pLo set 16).toNat - 2 ^ b) ∨ 1152921504606846976 ≤ Fa (16 * Od (pLo set 16).toNat + Od b)) : mPs Od Fa Bi set b χ = χ := by rw [mPs, if_neg h, if_pos h2]
theorem mPs_n (h : set / 2 ^ b % 2 ≠ 0) (h2 : ¬ (1152921504606846976 ≤ χ.1 (set - 2 ^ (pLo set 16).toNat - 2 ^ b) ∨ 1152921504606846976 ≤ Fa (16 * Od (pLo set 16).toNat + Od b))) (h3 : w64 (χ.1 (set - 2 ^ (pLo set 16).toNat - 2 ^ b) + Fa (16 * Od (pLo set 16).toNat + Od b)) > χ.1 set ∨ (w64 (χ.1 (set - 2 ^ (pLo set 16).toNat - 2 ^ b) + Fa (16 * Od (pLo set 16).toNat + Od b)) = χ.1 set ∧ w64 (χ.2 (set - 2 ^ (pLo set 16).toNat - 2 ^ b) + Bi (16 * Od (pLo set 16).toNat + Od b)) ≥ χ.2 set)) : mPs Od Fa Bi set b χ = χ := by rw [mPs, if_neg h, if_neg h2, if_pos h3]
theorem mPs_y (h : set / 2 ^ b % 2 ≠ 0) (h2 : ¬ (1152921504606846976 ≤ χ.1 (set - 2 ^ (pLo set 16).toNat - 2 ^ b) ∨ 1152921504606846976 ≤ Fa (16 * Od (pLo set 16).toNat + Od b))) (h3 : ¬ (w64 (χ.1 (set - 2 ^ (pLo set 16).toNat - 2 ^ b) + Fa (16 * Od (pLo set 16).toNat + Od b)) > χ.1 set ∨ (w64 (χ.1 (set - 2 ^ (pLo set 16).toNat - 2 ^ b) + Fa (16 * Od (pLo set 16).toNat + Od b)) = χ.1 set ∧ w64 (χ.2 (set - 2 ^ (pLo set 16).toNat - 2 ^ b) + Bi (16 * Od (pLo set 16).toNat + Od b)) ≥ χ.2 set))) : mPs Od Fa Bi set b χ = (va_up χ.1 set (w64 (χ.1 (set - 2 ^ (pLo set 16).toNat - 2 ^ b) + Fa (16 * Od (pLo set 16).toNat + Od b))), va_up χ.2 set (w64 (χ.2 (set - 2 ^ (pLo set 16).toNat - 2 ^ b) + Bi (16 * Od (pLo set 16).toNat + Od b)))) := by rw [mPs, if_neg h, if_neg h2, if_neg h3]
theorem mPs_R (h : mR χ) : mR (mPs Od Fa Bi set b χ) := by
  unfold mPs
  split
  · exact h
  · split
    · exact h
    · split
      · exact h
      · exact ⟨up_all (P := fun x => -9223372036854775808 ≤ x ∧ x < 9223372036854775808) h.1 (w64_rng _), up_all (P := fun x => -9223372036854775808 ≤ x ∧ x < 9223372036854775808) h.2 (w64_rng _)⟩
end
theorem mPb_R {mon : Nat} {Od : Nat → Nat} {Fa Bi : Nat → Int} {set : Nat} : ∀ (k : Nat) {χ : (Nat → Int) × (Nat → Int)}, mR χ → mR (mPb mon Od Fa Bi set k χ)
  | 0, _, h => h
  | k + 1, χ, h => by rw [mPb]; exact mPb_R k (mPs_R h)
theorem mPset_R {mon : Nat} {Od : Nat → Nat} {Fa Bi : Nat → Int} {set : Nat} {φ : (Nat → Int) × (Nat → Int)} (h : mR φ) : mR (mPset mon Od Fa Bi set φ) := mPb_R _ (mR_init h)
set_option maxHeartbeats 4000000 in
set_option maxRecDepth 100000 in
/-- Model.pairSet -/
theorem c_X6_pairSet (l : Launch) (D : va_G) (cA : Nat → ClassId) (sz : Nat) (mo : Nat) (mf : Nat) (mt : Nat) (mw : Nat) (mr : Nat) (mp : Nat) (mx : Nat) (mfa : Nat) (mbi : Nat) (mod1 : Nat) (msc : Nat) (msb : Nat) (msu : Nat) (mwy : Nat) (mre : Nat) (mby : Nat) (msm : Nat) (mle : Nat) (mgr : Nat) (mth : Nat) (dir : Bool) (nv : Nat) (me : Nat) (mrn : Nat) (mst : Nat) (mhr : Bool) (mon : Nat) (Od : Nat → Nat) (Fa : Nat → Int) (Bi : Nat → Int) (φ : (Nat → Int) × (Nat → Int)) (set : Nat) (hmon : mon ≤ 16) (hOd : ∀ j, Od j < 16) (hFa : ∀ j, -9223372036854775808 ≤ Fa j ∧ Fa j < 9223372036854775808) (hBi : ∀ j, -9223372036854775808 ≤ Bi j ∧ Bi j < 9223372036854775808) (hφ : mR φ) (hset : set < 2 ^ mon) (hne : set ≠ 0) : Met l yX6_pairSet wsX6_pairSet ({ frames := 0, cells := 0, slots := 0, locals := 0 } : Room) (zWr D vwCl (zT cA) [(mo, .inr (6, [.int (nI mth), .int (zB dir), .int (nI nv), .int (nI me), .ref mf, .ref mt, .ref mw, .ref mr, .int (nI mrn), .ref mp, .int (nI mst), .int (zB mhr), .ref mx, .ref mfa, .ref mbi, .ref mod1, .int (nI mon), .ref msc, .ref msb, .ref msu, .ref mwy, .ref mre, .ref mby, .ref msm, .ref mle, .ref mgr])), (mod1, aI cA 16 (fun j => nI (Od j))), (mfa, aJ cA 256 (fun j => lZ (Fa j))), (mbi, aJ cA 256 (fun j => lZ (Bi j))), (msc, aJ cA 65536 (fun j => lZ (φ.1 j))), (msb, aJ cA 65536 (fun j => lZ (φ.2 j)))] sz [.ref mo, .int (nI set)]) (zQv D vwCl (zT cA) (va_A [(mo, .inr (6, [.int (nI mth), .int (zB dir), .int (nI nv), .int (nI me), .ref mf, .ref mt, .ref mw, .ref mr, .int (nI mrn), .ref mp, .int (nI mst), .int (zB mhr), .ref mx, .ref mfa, .ref mbi, .ref mod1, .int (nI mon), .ref msc, .ref msb, .ref msu, .ref mwy, .ref mre, .ref mby, .ref msm, .ref mle, .ref mgr])), (mod1, aI cA 16 (fun j => nI (Od j))), (mfa, aJ cA 256 (fun j => lZ (Fa j))), (mbi, aJ cA 256 (fun j => lZ (Bi j))), (msc, aJ cA 65536 (fun j => lZ (φ.1 j))), (msb, aJ cA 65536 (fun j => lZ (φ.2 j)))] sz) [(mo, .inr (6, [.int (nI mth), .int (zB dir), .int (nI nv), .int (nI me), .ref mf, .ref mt, .ref mw, .ref mr, .int (nI mrn), .ref mp, .int (nI mst), .int (zB mhr), .ref mx, .ref mfa, .ref mbi, .ref mod1, .int (nI mon), .ref msc, .ref msb, .ref msu, .ref mwy, .ref mre, .ref mby, .ref msm, .ref mle, .ref mgr])), (mod1, aI cA 16 (fun j => nI (Od j))), (mfa, aJ cA 256 (fun j => lZ (Fa j))), (mbi, aJ cA 256 (fun j => lZ (Bi j))), (msc, aJ cA 65536 (fun j => lZ (((mPset mon Od Fa Bi set φ).1) j))), (msb, aJ cA 65536 (fun j => lZ (((mPset mon Od Fa Bi set φ).2) j)))]) 0 0 (va_A [(mo, .inr (6, [.int (nI mth), .int (zB dir), .int (nI nv), .int (nI me), .ref mf, .ref mt, .ref mw, .ref mr, .int (nI mrn), .ref mp, .int (nI mst), .int (zB mhr), .ref mx, .ref mfa, .ref mbi, .ref mod1, .int (nI mon), .ref msc, .ref msb, .ref msu, .ref mwy, .ref mre, .ref mby, .ref msm, .ref mle, .ref mgr])), (mod1, aI cA 16 (fun j => nI (Od j))), (mfa, aJ cA 256 (fun j => lZ (Fa j))), (mbi, aJ cA 256 (fun j => lZ (Bi j))), (msc, aJ cA 65536 (fun j => lZ (φ.1 j))), (msb, aJ cA 65536 (fun j => lZ (φ.2 j)))] sz) := by
  refine z_write (cc := cX6_pairSet) (maxL := 10) (ret := none) (by decide) rfl (Nat.le_of_ble_eq_true rfl) ?_
  intro p e s m below meth c hx hb hr hml hown hts hlocks A hAe hA H locs hP hK hD hS hini Q hQ ls hl
  have hown : s.vm.findClass RX6 = some m.cls := hown
  have hl : lv_has ls 10 [(0, .ref mo), (1, .int (nI set))] := hl
  generalize hav : ([.ref mo, .int (nI set)] : List Value).toArray = args at hts hQ ⊢
  have hin6 : ∀ w ∈ wsX60, w ∈ wsX6_pairSet := by decide +kernel
  have hset16 : set < 65536 := Nat.lt_of_lt_of_le hset (Nat.pow_le_pow_right (by decide) hmon : 2 ^ mon ≤ 2 ^ 16)
  have hA16 : (pLo set 16).toNat < 16 := pLo_lt _
  have hA0 : 0 ≤ pLo set 16 := pLo_pos hset16 hne
  refine lv_aload_n hx hb dX6_pairSet_0 rfl (lv_at hl 0 rfl) ?_
  refine va_get (D := D) (ci := 6) (v := .ref msc) (C := RX6) (T := TX6) (N := 26) hx hb hts hin6 hown hK hP 0 rfl rfl 17 (by decide) (hts (.fieldLink RX6 43 "TourHouseModel" "setCost" "[J") (by decide +kernel)) (fun _ h9 => h9) rfl dX6_pairSet_1 ?_
  refine lv_iload_n hx hb dX6_pairSet_4 rfl (lv_at hl 1 rfl) ?_
  refine lv_ldc2 (v := (1152921504606846976)) hx hb hown (hts (.constantLong RX6 103 (1152921504606846976)) (by decide +kernel)) dX6_pairSet_5 ?_
  refine z_topl (v := lZ 1152921504606846976) (by decide) ?_
  refine z_last hx hb hK hP hD hS 4 1 rfl rfl (k := set) (by omega) (by decide) (f' := (fun j => lZ ((va_up φ.1 set 1152921504606846976) j))) (updL_lZ φ.1 set 1152921504606846976) (ws' := [(mo, .inr (6, [.int (nI mth), .int (zB dir), .int (nI nv), .int (nI me), .ref mf, .ref mt, .ref mw, .ref mr, .int (nI mrn), .ref mp, .int (nI mst), .int (zB mhr), .ref mx, .ref mfa, .ref mbi, .ref mod1, .int (nI mon), .ref msc, .ref msb, .ref msu, .ref mwy, .ref mre, .ref mby, .ref msm, .ref mle, .ref mgr])), (mod1, aI cA 16 (fun j => nI (Od j))), (mfa, aJ cA 256 (fun j => lZ (Fa j))), (mbi, aJ cA 256 (fun j => lZ (Bi j))), (msc, aJ cA 65536 (fun j => lZ ((va_up φ.1 set 1152921504606846976) j))), (msb, aJ cA 65536 (fun j => lZ (φ.2 j)))]) rfl dX6_pairSet_8 (fun H locs hP hD hS => ?_)
  refine lv_aload_n hx hb dX6_pairSet_9 rfl (lv_at hl 0 rfl) ?_
  refine va_get (D := D) (ci := 6) (v := .ref msb) (C := RX6) (T := TX6) (N := 26) hx hb hts hin6 hown hK hP 0 rfl rfl 18 (by decide) (hts (.fieldLink RX6 46 "TourHouseModel" "setBits" "[J") (by decide +kernel)) (fun _ h9 => h9) rfl dX6_pairSet_10 ?_
  refine lv_iload_n hx hb dX6_pairSet_13 rfl (lv_at hl 1 rfl) ?_
  refine lv_lconst (v := lZ 0) hx hb dX6_pairSet_14 (by decide) ?_
  refine z_last hx hb hK hP hD hS 5 1 rfl rfl (k := set) (by omega) (by decide) (f' := (fun j => lZ ((va_up φ.2 set 0) j))) (updL_lZ φ.2 set 0) (ws' := [(mo, .inr (6, [.int (nI mth), .int (zB dir), .int (nI nv), .int (nI me), .ref mf, .ref mt, .ref mw, .ref mr, .int (nI mrn), .ref mp, .int (nI mst), .int (zB mhr), .ref mx, .ref mfa, .ref mbi, .ref mod1, .int (nI mon), .ref msc, .ref msb, .ref msu, .ref mwy, .ref mre, .ref mby, .ref msm, .ref mle, .ref mgr])), (mod1, aI cA 16 (fun j => nI (Od j))), (mfa, aJ cA 256 (fun j => lZ (Fa j))), (mbi, aJ cA 256 (fun j => lZ (Bi j))), (msc, aJ cA 65536 (fun j => lZ ((va_up φ.1 set 1152921504606846976) j))), (msb, aJ cA 65536 (fun j => lZ ((va_up φ.2 set 0) j)))]) rfl dX6_pairSet_15 (fun H locs hP hD hS => ?_)
  refine lv_iconst (v := nI 0) hx hb dX6_pairSet_16 (by decide) ?_
  refine lv_istore_n (lv' := [(2, .int (nI 0)), (0, .ref mo), (1, .int (nI set))]) hx hb dX6_pairSet_17 rfl hl (by decide) rfl (fun ls hl => ?_)
  have J18 : ∀ (n : Nat), ∀ (a : Nat), (a < 16) → (pLo set (16 - a) = pLo set 16) → 16 - a < n → ∀ (H : Heap) (locs : List Loc), va_P D vwCl [(mo, .inr (6, [.int (nI mth), .int (zB dir), .int (nI nv), .int (nI me), .ref mf, .ref mt, .ref mw, .ref mr, .int (nI mrn), .ref mp, .int (nI mst), .int (zB mhr), .ref mx, .ref mfa, .ref mbi, .ref mod1, .int (nI mon), .ref msc, .ref msb, .ref msu, .ref mwy, .ref mre, .ref mby, .ref msm, .ref mle, .ref mgr])), (mod1, aI cA 16 (fun j => nI (Od j))), (mfa, aJ cA 256 (fun j => lZ (Fa j))), (mbi, aJ cA 256 (fun j => lZ (Bi j))), (msc, aJ cA 65536 (fun j => lZ (((va_up φ.1 set 1152921504606846976, va_up φ.2 set 0).1) j))), (msb, aJ cA 65536 (fun j => lZ (((va_up φ.1 set 1152921504606846976, va_up φ.2 set 0).2) j)))] H → va_D A [(mo, .inr (6, [.int (nI mth), .int (zB dir), .int (nI nv), .int (nI me), .ref mf, .ref mt, .ref mw, .ref mr, .int (nI mrn), .ref mp, .int (nI mst), .int (zB mhr), .ref mx, .ref mfa, .ref mbi, .ref mod1, .int (nI mon), .ref msc, .ref msb, .ref msu, .ref mwy, .ref mre, .ref mby, .ref msm, .ref mle, .ref mgr])), (mod1, aI cA 16 (fun j => nI (Od j))), (mfa, aJ cA 256 (fun j => lZ (Fa j))), (mbi, aJ cA 256 (fun j => lZ (Bi j))), (msc, aJ cA 65536 (fun j => lZ (((va_up φ.1 set 1152921504606846976, va_up φ.2 set 0).1) j))), (msb, aJ cA 65536 (fun j => lZ (((va_up φ.1 set 1152921504606846976, va_up φ.2 set 0).2) j)))] → va_S A s.heap H locs → ∀ (ls : Array Slot), lv_has ls 10 [(0, .ref mo), (1, .int (nI set)), (2, .int (nI a))] → W p l e ({ frames := 0, cells := 0, slots := 0, locals := 0 } : Room) s m args below meth c H locs 0 0 Q (F0 m 18 ls []) := by
    intro n18
    induction n18 with
    | zero => intro a ha hl9 hn; exact absurd hn (Nat.not_lt_zero _)
    | succ n18 ih18 =>
      intro a ha hl9 hn18 H locs hP hD hS ls hl
      refine lv_iload_n hx hb dX6_pairSet_18 rfl (lv_at hl 1 rfl) ?_
      refine lv_iload_n hx hb dX6_pairSet_19 rfl (lv_at hl 2 rfl) ?_
      refine lv_ishr hx hb dX6_pairSet_20 ?_
      refine z_topi (v := nI (set / 2 ^ a)) (nb_shr (by omega) (by omega)) ?_
      refine lv_iconst (v := nI 1) hx hb dX6_pairSet_21 (by decide) ?_
      refine lv_iand hx hb dX6_pairSet_22 ?_
      refine z_topi (v := nI ((set / 2 ^ a) % 2)) (nb_and1 (set / 2 ^ a)) ?_
      refine z_nne hx hb (by omega) (tgt := 32) dX6_pairSet_23 (by decide) (fun h23 => ?_) (fun h23 => ?_)
      · skip
        have hae : a = (pLo set 16).toNat := by have q : pLo set 16 = ((a : Nat) : Int) := (by rw [← hl9, show 16 - a = (16 - (a + 1)) + 1 from by omega, pLo, show 16 - (16 - (a + 1) + 1) = a from by omega, if_pos (by omega)]); rw [q]; rfl
        have hl : lv_has ls 10 [(0, .ref mo), (1, .int (nI set)), (2, .int (nI ((pLo set 16).toNat)))] := by
          have q9 : nI ((pLo set 16).toNat) = nI a := by rw [← hae]
          rw [q9]; exact hl
        refine lv_iload_n hx hb dX6_pairSet_32 rfl (lv_at hl 2 rfl) ?_
        refine lv_iconst (v := nI 1) hx hb dX6_pairSet_33 (by decide) ?_
        refine lv_iadd hx hb dX6_pairSet_34 ?_
        refine z_topi (v := nI (((pLo set 16).toNat) + 1)) (nI_add ((pLo set 16).toNat) 1) ?_
        refine lv_istore_n (lv' := [(3, .int (nI (((pLo set 16).toNat) + 1))), (0, .ref mo), (1, .int (nI set)), (2, .int (nI ((pLo set 16).toNat)))]) hx hb dX6_pairSet_35 rfl hl (by decide) rfl (fun ls hl => ?_)
        have J36 : ∀ (n : Nat), ∀ (b : Nat) (χ : (Nat → Int) × (Nat → Int)), ((pLo set 16).toNat < b) → (b ≤ mon ∨ b = (pLo set 16).toNat + 1) → (mR χ) → (mPb mon Od Fa Bi set (mon - b) χ = mPset mon Od Fa Bi set φ) → 16 - b < n → ∀ (H : Heap) (locs : List Loc), va_P D vwCl [(mo, .inr (6, [.int (nI mth), .int (zB dir), .int (nI nv), .int (nI me), .ref mf, .ref mt, .ref mw, .ref mr, .int (nI mrn), .ref mp, .int (nI mst), .int (zB mhr), .ref mx, .ref mfa, .ref mbi, .ref mod1, .int (nI mon), .ref msc, .ref msb, .ref msu, .ref mwy, .ref mre, .ref mby, .ref msm, .ref mle, .ref mgr])), (mod1, aI cA 16 (fun j => nI (Od j))), (mfa, aJ cA 256 (fun j => lZ (Fa j))), (mbi, aJ cA 256 (fun j => lZ (Bi j))), (msc, aJ cA 65536 (fun j => lZ (χ.1 j))), (msb, aJ cA 65536 (fun j => lZ (χ.2 j)))] H → va_D A [(mo, .inr (6, [.int (nI mth), .int (zB dir), .int (nI nv), .int (nI me), .ref mf, .ref mt, .ref mw, .ref mr, .int (nI mrn), .ref mp, .int (nI mst), .int (zB mhr), .ref mx, .ref mfa, .ref mbi, .ref mod1, .int (nI mon), .ref msc, .ref msb, .ref msu, .ref mwy, .ref mre, .ref mby, .ref msm, .ref mle, .ref mgr])), (mod1, aI cA 16 (fun j => nI (Od j))), (mfa, aJ cA 256 (fun j => lZ (Fa j))), (mbi, aJ cA 256 (fun j => lZ (Bi j))), (msc, aJ cA 65536 (fun j => lZ (χ.1 j))), (msb, aJ cA 65536 (fun j => lZ (χ.2 j)))] → va_S A s.heap H locs → ∀ (ls : Array Slot), lv_has ls 10 [(0, .ref mo), (1, .int (nI set)), (2, .int (nI ((pLo set 16).toNat))), (3, .int (nI b))] → W p l e ({ frames := 0, cells := 0, slots := 0, locals := 0 } : Room) s m args below meth c H locs 0 0 Q (F0 m 36 ls []) := by
          intro n36
          induction n36 with
          | zero => intro b χ hAb hb2 hχ hq hn; exact absurd hn (Nat.not_lt_zero _)
          | succ n36 ih36 =>
            intro b χ hAb hb2 hχ hq hn36 H locs hP hD hS ls hl
            refine lv_iload_n hx hb dX6_pairSet_36 rfl (lv_at hl 3 rfl) ?_
            refine lv_aload_n hx hb dX6_pairSet_37 rfl (lv_at hl 0 rfl) ?_
            refine va_get (D := D) (ci := 6) (v := .int (nI mon)) (C := RX6) (T := TX6) (N := 26) hx hb hts hin6 hown hK hP 0 rfl rfl 16 (by decide) (hts (.fieldLink RX6 142 "TourHouseModel" "odds" "I") (by decide +kernel)) (fun _ h9 => h9) rfl dX6_pairSet_38 ?_
            refine z_ge hx hb (by omega) (by omega) (tgt := 210) dX6_pairSet_41 (by decide) (fun h41 => ?_) (fun h41 => ?_)
            · skip
              have hres : mPset mon Od Fa Bi set φ = χ := by rw [← hq, show mon - b = 0 from by omega]; rfl
              exact z_vretW hx hb hr hlocks hAe hQ (by rw [hres]; exact hP) hK (by rw [hres]; exact hD) hS dX6_pairSet_210
            · skip
              refine lv_iload_n hx hb dX6_pairSet_44 rfl (lv_at hl 1 rfl) ?_
              refine lv_iload_n hx hb dX6_pairSet_45 rfl (lv_at hl 3 rfl) ?_
              refine lv_ishr hx hb dX6_pairSet_46 ?_
              refine z_topi (v := nI (set / 2 ^ b)) (nb_shr (by omega) (by omega)) ?_
              refine lv_iconst (v := nI 1) hx hb dX6_pairSet_47 (by decide) ?_
              refine lv_iand hx hb dX6_pairSet_48 ?_
              refine z_topi (v := nI ((set / 2 ^ b) % 2)) (nb_and1 (set / 2 ^ b)) ?_
              refine z_nne hx hb (by omega) (tgt := 55) dX6_pairSet_49 (by decide) (fun h49 => ?_) (fun h49 => ?_)
              · skip
                refine lv_iload_n hx hb dX6_pairSet_55 rfl (lv_at hl 1 rfl) ?_
                refine lv_iconst (v := nI 1) hx hb dX6_pairSet_56 (by decide) ?_
                refine lv_iload_n hx hb dX6_pairSet_57 rfl (lv_at hl 2 rfl) ?_
                refine lv_ishl hx hb dX6_pairSet_58 ?_
                refine z_topi (v := nI (2 ^ ((pLo set 16).toNat))) (nb_shl1 (Nat.lt_trans hA16 (by decide))) ?_
                refine lv_isub hx hb dX6_pairSet_59 ?_
                refine z_topi (v := nI (set - (2 ^ ((pLo set 16).toNat)))) (pk_sub (bit1_le hset16 hne)) ?_
                refine lv_iconst (v := nI 1) hx hb dX6_pairSet_60 (by decide) ?_
                refine lv_iload_n hx hb dX6_pairSet_61 rfl (lv_at hl 3 rfl) ?_
                refine lv_ishl hx hb dX6_pairSet_62 ?_
                refine z_topi (v := nI (2 ^ b)) (nb_shl1 (by omega)) ?_
                refine lv_isub hx hb dX6_pairSet_63 ?_
                refine z_topi (v := nI ((set - (2 ^ ((pLo set 16).toNat))) - (2 ^ b))) (pk_sub (by have := bit2_le hset16 hAb h49; omega)) ?_
                refine lv_istore (lv' := [(4, .int (nI ((set - (2 ^ ((pLo set 16).toNat))) - (2 ^ b)))), (0, .ref mo), (1, .int (nI set)), (2, .int (nI ((pLo set 16).toNat))), (3, .int (nI b))]) hx hb dX6_pairSet_64 hl (by decide) rfl (fun ls hl => ?_)
                refine lv_bipush (v := nI 16) hx hb dX6_pairSet_66 (by decide) ?_
                refine lv_aload_n hx hb dX6_pairSet_68 rfl (lv_at hl 1 rfl) ?_
                refine va_get (D := D) (ci := 6) (v := .ref mod1) (C := RX6) (T := TX6) (N := 26) hx hb hts hin6 hown hK hP 0 rfl rfl 15 (by decide) (hts (.fieldLink RX6 39 "TourHouseModel" "odd" "[I") (by decide +kernel)) (fun _ h9 => h9) rfl dX6_pairSet_69 ?_
                refine lv_iload_n hx hb dX6_pairSet_72 rfl (lv_at hl 3 rfl) ?_
                refine z_iald hx hb hK hP 1 0 rfl rfl (k := ((pLo set 16).toNat)) (hA16) (by decide) (v := nI (Od ((pLo set 16).toNat))) rfl dX6_pairSet_73 ?_
                refine lv_imul hx hb dX6_pairSet_74 ?_
                refine z_topi (v := nI (16 * (Od ((pLo set 16).toNat)))) (pk_mul 16 (Od ((pLo set 16).toNat))) ?_
                refine lv_aload_n hx hb dX6_pairSet_75 rfl (lv_at hl 1 rfl) ?_
                refine va_get (D := D) (ci := 6) (v := .ref mod1) (C := RX6) (T := TX6) (N := 26) hx hb hts hin6 hown hK hP 0 rfl rfl 15 (by decide) (hts (.fieldLink RX6 39 "TourHouseModel" "odd" "[I") (by decide +kernel)) (fun _ h9 => h9) rfl dX6_pairSet_76 ?_
                refine lv_iload_n hx hb dX6_pairSet_79 rfl (lv_at hl 4 rfl) ?_
                refine z_iald hx hb hK hP 1 0 rfl rfl (k := b) (by omega) (by decide) (v := nI (Od b)) rfl dX6_pairSet_80 ?_
                refine lv_iadd hx hb dX6_pairSet_81 ?_
                refine z_topi (v := nI ((16 * (Od ((pLo set 16).toNat))) + (Od b))) (nI_add (16 * (Od ((pLo set 16).toNat))) (Od b)) ?_
                refine lv_istore (lv' := [(5, .int (nI ((16 * (Od ((pLo set 16).toNat))) + (Od b)))), (4, .int (nI ((set - (2 ^ ((pLo set 16).toNat))) - (2 ^ b)))), (0, .ref mo), (1, .int (nI set)), (2, .int (nI ((pLo set 16).toNat))), (3, .int (nI b))]) hx hb dX6_pairSet_82 hl (by decide) rfl (fun ls hl => ?_)
                refine lv_aload_n hx hb dX6_pairSet_84 rfl (lv_at hl 2 rfl) ?_
                refine va_get (D := D) (ci := 6) (v := .ref msc) (C := RX6) (T := TX6) (N := 26) hx hb hts hin6 hown hK hP 0 rfl rfl 17 (by decide) (hts (.fieldLink RX6 43 "TourHouseModel" "setCost" "[J") (by decide +kernel)) (fun _ h9 => h9) rfl dX6_pairSet_85 ?_
                refine lv_iload hx hb dX6_pairSet_88 (lv_at hl 1 rfl) ?_
                refine z_lald hx hb hK hP 4 1 rfl rfl (k := ((set - (2 ^ ((pLo set 16).toNat))) - (2 ^ b))) (Nat.lt_of_le_of_lt (Nat.le_trans (Nat.sub_le _ _) (Nat.sub_le _ _)) hset16) (by decide) (v := lZ (χ.1 ((set - (2 ^ ((pLo set 16).toNat))) - (2 ^ b)))) rfl dX6_pairSet_90 ?_
                refine lv_ldc2 (v := (1152921504606846976)) hx hb hown (hts (.constantLong RX6 103 (1152921504606846976)) (by decide +kernel)) dX6_pairSet_91 ?_
                refine z_topl (v := lZ 1152921504606846976) (by decide) ?_
                refine z_lcmp_ge hx hb (x := χ.1 ((set - (2 ^ ((pLo set 16).toNat))) - (2 ^ b))) (y := 1152921504606846976) (hχ.1 _) (by decide) (tgt := 204) dX6_pairSet_94 dX6_pairSet_95 (by decide) (fun h94 => ?_) (fun h94 => ?_)
                · skip
                  refine lv_iinc (v := nI (b + 1)) (lv' := [(3, .int (nI (b + 1))), (5, .int (nI ((16 * (Od ((pLo set 16).toNat))) + (Od b)))), (4, .int (nI ((set - (2 ^ ((pLo set 16).toNat))) - (2 ^ b)))), (0, .ref mo), (1, .int (nI set)), (2, .int (nI ((pLo set 16).toNat)))]) hx hb dX6_pairSet_204 hl (k := 5) rfl (nI_1 b) (by decide) rfl (fun ls hl => ?_)
                  refine lv_goto (tgt := 36) hx hb dX6_pairSet_207 (by decide) ?_
                  exact ih36 (b + 1) χ (by omega) (by omega) (by first | exact hχ | exact ⟨up_all (P := fun x => -9223372036854775808 ≤ x ∧ x < 9223372036854775808) hχ.1 (w64_rng _), up_all (P := fun x => -9223372036854775808 ≤ x ∧ x < 9223372036854775808) hχ.2 (w64_rng _)⟩) (by rw [← hq, show mon - b = (mon - (b + 1)) + 1 from by omega, mPb, show mon - (mon - (b + 1) + 1) = b from by omega]; congr 1; first | rw [mPs_0 (by omega)] | rw [mPs_f (by omega) (by omega)] | rw [mPs_n (by omega) (by omega) (by omega)] | rw [mPs_y (by omega) (by omega) (by omega)]) (by omega) _ _ (hP) (hD) hS ls (lv_sub hl [3, 4, 5, 0] (by rfl))
                · skip
                  refine lv_aload_n hx hb dX6_pairSet_98 rfl (lv_at hl 2 rfl) ?_
                  refine va_get (D := D) (ci := 6) (v := .ref mfa) (C := RX6) (T := TX6) (N := 26) hx hb hts hin6 hown hK hP 0 rfl rfl 13 (by decide) (hts (.fieldLink RX6 32 "TourHouseModel" "far" "[J") (by decide +kernel)) (fun _ h9 => h9) rfl dX6_pairSet_99 ?_
                  refine lv_iload hx hb dX6_pairSet_102 (lv_at hl 0 rfl) ?_
                  refine z_lald hx hb hK hP 2 1 rfl rfl (k := ((16 * (Od ((pLo set 16).toNat))) + (Od b))) (by have := hOd (pLo set 16).toNat; have := hOd b; omega) (by decide) (v := lZ (Fa ((16 * (Od ((pLo set 16).toNat))) + (Od b)))) rfl dX6_pairSet_104 ?_
                  refine lv_ldc2 (v := (1152921504606846976)) hx hb hown (hts (.constantLong RX6 103 (1152921504606846976)) (by decide +kernel)) dX6_pairSet_105 ?_
                  refine z_topl (v := lZ 1152921504606846976) (by decide) ?_
                  refine z_lcmp_lt hx hb (x := Fa ((16 * (Od ((pLo set 16).toNat))) + (Od b))) (y := 1152921504606846976) (hFa _) (by decide) (tgt := 115) dX6_pairSet_108 dX6_pairSet_109 (by decide) (fun h108 => ?_) (fun h108 => ?_)
                  · skip
                    refine lv_aload_n hx hb dX6_pairSet_115 rfl (lv_at hl 2 rfl) ?_
                    refine va_get (D := D) (ci := 6) (v := .ref msc) (C := RX6) (T := TX6) (N := 26) hx hb hts hin6 hown hK hP 0 rfl rfl 17 (by decide) (hts (.fieldLink RX6 43 "TourHouseModel" "setCost" "[J") (by decide +kernel)) (fun _ h9 => h9) rfl dX6_pairSet_116 ?_
                    refine lv_iload hx hb dX6_pairSet_119 (lv_at hl 1 rfl) ?_
                    refine z_lald hx hb hK hP 4 1 rfl rfl (k := ((set - (2 ^ ((pLo set 16).toNat))) - (2 ^ b))) (Nat.lt_of_le_of_lt (Nat.le_trans (Nat.sub_le _ _) (Nat.sub_le _ _)) hset16) (by decide) (v := lZ (χ.1 ((set - (2 ^ ((pLo set 16).toNat))) - (2 ^ b)))) rfl dX6_pairSet_121 ?_
                    refine lv_aload_n hx hb dX6_pairSet_122 rfl (lv_at hl 2 rfl) ?_
                    refine va_get (D := D) (ci := 6) (v := .ref mfa) (C := RX6) (T := TX6) (N := 26) hx hb hts hin6 hown hK hP 0 rfl rfl 13 (by decide) (hts (.fieldLink RX6 32 "TourHouseModel" "far" "[J") (by decide +kernel)) (fun _ h9 => h9) rfl dX6_pairSet_123 ?_
                    refine lv_iload hx hb dX6_pairSet_126 (lv_at hl 0 rfl) ?_
                    refine z_lald hx hb hK hP 2 1 rfl rfl (k := ((16 * (Od ((pLo set 16).toNat))) + (Od b))) (by have := hOd (pLo set 16).toNat; have := hOd b; omega) (by decide) (v := lZ (Fa ((16 * (Od ((pLo set 16).toNat))) + (Od b)))) rfl dX6_pairSet_128 ?_
                    refine lv_ladd hx hb dX6_pairSet_129 ?_
                    refine z_topl (v := lZ (w64 (χ.1 (set - 2 ^ (pLo set 16).toNat - 2 ^ b) + Fa (16 * Od (pLo set 16).toNat + Od b)))) (by rw [lZ_add, lZ_w64]) ?_
                    refine lv_lstore (lv' := [(6, .long (lZ (w64 (χ.1 (set - 2 ^ (pLo set 16).toNat - 2 ^ b) + Fa (16 * Od (pLo set 16).toNat + Od b))))), (5, .int (nI ((16 * (Od ((pLo set 16).toNat))) + (Od b)))), (4, .int (nI ((set - (2 ^ ((pLo set 16).toNat))) - (2 ^ b)))), (0, .ref mo), (1, .int (nI set)), (2, .int (nI ((pLo set 16).toNat))), (3, .int (nI b))]) hx hb dX6_pairSet_130 hl (by decide) rfl (fun ls hl => ?_)
                    refine lv_aload_n hx hb dX6_pairSet_132 rfl (lv_at hl 3 rfl) ?_
                    refine va_get (D := D) (ci := 6) (v := .ref msb) (C := RX6) (T := TX6) (N := 26) hx hb hts hin6 hown hK hP 0 rfl rfl 18 (by decide) (hts (.fieldLink RX6 46 "TourHouseModel" "setBits" "[J") (by decide +kernel)) (fun _ h9 => h9) rfl dX6_pairSet_133 ?_
                    refine lv_iload hx hb dX6_pairSet_136 (lv_at hl 2 rfl) ?_
                    refine z_lald hx hb hK hP 5 1 rfl rfl (k := ((set - (2 ^ ((pLo set 16).toNat))) - (2 ^ b))) (Nat.lt_of_le_of_lt (Nat.le_trans (Nat.sub_le _ _) (Nat.sub_le _ _)) hset16) (by decide) (v := lZ (χ.2 ((set - (2 ^ ((pLo set 16).toNat))) - (2 ^ b)))) rfl dX6_pairSet_138 ?_
                    refine lv_aload_n hx hb dX6_pairSet_139 rfl (lv_at hl 3 rfl) ?_
                    refine va_get (D := D) (ci := 6) (v := .ref mbi) (C := RX6) (T := TX6) (N := 26) hx hb hts hin6 hown hK hP 0 rfl rfl 14 (by decide) (hts (.fieldLink RX6 36 "TourHouseModel" "bits" "[J") (by decide +kernel)) (fun _ h9 => h9) rfl dX6_pairSet_140 ?_
                    refine lv_iload hx hb dX6_pairSet_143 (lv_at hl 1 rfl) ?_
                    refine z_lald hx hb hK hP 3 1 rfl rfl (k := ((16 * (Od ((pLo set 16).toNat))) + (Od b))) (by have := hOd (pLo set 16).toNat; have := hOd b; omega) (by decide) (v := lZ (Bi ((16 * (Od ((pLo set 16).toNat))) + (Od b)))) rfl dX6_pairSet_145 ?_
                    refine lv_ladd hx hb dX6_pairSet_146 ?_
                    refine z_topl (v := lZ (w64 (χ.2 (set - 2 ^ (pLo set 16).toNat - 2 ^ b) + Bi (16 * Od (pLo set 16).toNat + Od b)))) (by rw [lZ_add, lZ_w64]) ?_
                    refine lv_lstore (lv' := [(8, .long (lZ (w64 (χ.2 (set - 2 ^ (pLo set 16).toNat - 2 ^ b) + Bi (16 * Od (pLo set 16).toNat + Od b))))), (6, .long (lZ (w64 (χ.1 (set - 2 ^ (pLo set 16).toNat - 2 ^ b) + Fa (16 * Od (pLo set 16).toNat + Od b))))), (5, .int (nI ((16 * (Od ((pLo set 16).toNat))) + (Od b)))), (4, .int (nI ((set - (2 ^ ((pLo set 16).toNat))) - (2 ^ b)))), (0, .ref mo), (1, .int (nI set)), (2, .int (nI ((pLo set 16).toNat))), (3, .int (nI b))]) hx hb dX6_pairSet_147 hl (by decide) rfl (fun ls hl => ?_)
                    refine lv_lload hx hb dX6_pairSet_149 (lv_at hl 1 rfl) ?_
                    refine lv_aload_n hx hb dX6_pairSet_151 rfl (lv_at hl 4 rfl) ?_
                    refine va_get (D := D) (ci := 6) (v := .ref msc) (C := RX6) (T := TX6) (N := 26) hx hb hts hin6 hown hK hP 0 rfl rfl 17 (by decide) (hts (.fieldLink RX6 43 "TourHouseModel" "setCost" "[J") (by decide +kernel)) (fun _ h9 => h9) rfl dX6_pairSet_152 ?_
                    refine lv_iload_n hx hb dX6_pairSet_155 rfl (lv_at hl 5 rfl) ?_
                    refine z_lald hx hb hK hP 4 1 rfl rfl (k := set) (by omega) (by decide) (v := lZ (χ.1 set)) rfl dX6_pairSet_156 ?_
                    refine z_lcmp_gt hx hb (x := w64 (χ.1 (set - 2 ^ (pLo set 16).toNat - 2 ^ b) + Fa (16 * Od (pLo set 16).toNat + Od b))) (y := χ.1 set) (w64_rng _) (hχ.1 _) (tgt := 204) dX6_pairSet_157 dX6_pairSet_158 (by decide) (fun h157 => ?_) (fun h157 => ?_)
                    · skip
                      refine lv_iinc (v := nI (b + 1)) (lv' := [(3, .int (nI (b + 1))), (8, .long (lZ (w64 (χ.2 (set - 2 ^ (pLo set 16).toNat - 2 ^ b) + Bi (16 * Od (pLo set 16).toNat + Od b))))), (6, .long (lZ (w64 (χ.1 (set - 2 ^ (pLo set 16).toNat - 2 ^ b) + Fa (16 * Od (pLo set 16).toNat + Od b))))), (5, .int (nI ((16 * (Od ((pLo set 16).toNat))) + (Od b)))), (4, .int (nI ((set - (2 ^ ((pLo set 16).toNat))) - (2 ^ b)))), (0, .ref mo), (1, .int (nI set)), (2, .int (nI ((pLo set 16).toNat)))]) hx hb dX6_pairSet_204 hl (k := 7) rfl (nI_1 b) (by decide) rfl (fun ls hl => ?_)
                      refine lv_goto (tgt := 36) hx hb dX6_pairSet_207 (by decide) ?_
                      exact ih36 (b + 1) χ (by omega) (by omega) (by first | exact hχ | exact ⟨up_all (P := fun x => -9223372036854775808 ≤ x ∧ x < 9223372036854775808) hχ.1 (w64_rng _), up_all (P := fun x => -9223372036854775808 ≤ x ∧ x < 9223372036854775808) hχ.2 (w64_rng _)⟩) (by rw [← hq, show mon - b = (mon - (b + 1)) + 1 from by omega, mPb, show mon - (mon - (b + 1) + 1) = b from by omega]; congr 1; first | rw [mPs_0 (by omega)] | rw [mPs_f (by omega) (by omega)] | rw [mPs_n (by omega) (by omega) (by omega)] | rw [mPs_y (by omega) (by omega) (by omega)]) (by omega) _ _ (hP) (hD) hS ls (lv_sub hl [5, 6, 7, 0] (by rfl))
                    · skip
                      refine lv_lload hx hb dX6_pairSet_161 (lv_at hl 1 rfl) ?_
                      refine lv_aload_n hx hb dX6_pairSet_163 rfl (lv_at hl 4 rfl) ?_
                      refine va_get (D := D) (ci := 6) (v := .ref msc) (C := RX6) (T := TX6) (N := 26) hx hb hts hin6 hown hK hP 0 rfl rfl 17 (by decide) (hts (.fieldLink RX6 43 "TourHouseModel" "setCost" "[J") (by decide +kernel)) (fun _ h9 => h9) rfl dX6_pairSet_164 ?_
                      refine lv_iload_n hx hb dX6_pairSet_167 rfl (lv_at hl 5 rfl) ?_
                      refine z_lald hx hb hK hP 4 1 rfl rfl (k := set) (by omega) (by decide) (v := lZ (χ.1 set)) rfl dX6_pairSet_168 ?_
                      refine z_lcmp_ne hx hb (x := w64 (χ.1 (set - 2 ^ (pLo set 16).toNat - 2 ^ b) + Fa (16 * Od (pLo set 16).toNat + Od b))) (y := χ.1 set) (w64_rng _) (hχ.1 _) (tgt := 188) dX6_pairSet_169 dX6_pairSet_170 (by decide) (fun h169 => ?_) (fun h169 => ?_)
                      · skip
                        refine lv_aload_n hx hb dX6_pairSet_188 rfl (lv_at hl 4 rfl) ?_
                        refine va_get (D := D) (ci := 6) (v := .ref msc) (C := RX6) (T := TX6) (N := 26) hx hb hts hin6 hown hK hP 0 rfl rfl 17 (by decide) (hts (.fieldLink RX6 43 "TourHouseModel" "setCost" "[J") (by decide +kernel)) (fun _ h9 => h9) rfl dX6_pairSet_189 ?_
                        refine lv_iload_n hx hb dX6_pairSet_192 rfl (lv_at hl 5 rfl) ?_
                        refine lv_lload hx hb dX6_pairSet_193 (lv_at hl 1 rfl) ?_
                        refine z_last hx hb hK hP hD hS 4 1 rfl rfl (k := set) (by omega) (by decide) (f' := (fun j => lZ ((va_up χ.1 set (w64 (χ.1 (set - 2 ^ (pLo set 16).toNat - 2 ^ b) + Fa (16 * Od (pLo set 16).toNat + Od b)))) j))) (updL_lZ χ.1 set (w64 (χ.1 (set - 2 ^ (pLo set 16).toNat - 2 ^ b) + Fa (16 * Od (pLo set 16).toNat + Od b)))) (ws' := [(mo, .inr (6, [.int (nI mth), .int (zB dir), .int (nI nv), .int (nI me), .ref mf, .ref mt, .ref mw, .ref mr, .int (nI mrn), .ref mp, .int (nI mst), .int (zB mhr), .ref mx, .ref mfa, .ref mbi, .ref mod1, .int (nI mon), .ref msc, .ref msb, .ref msu, .ref mwy, .ref mre, .ref mby, .ref msm, .ref mle, .ref mgr])), (mod1, aI cA 16 (fun j => nI (Od j))), (mfa, aJ cA 256 (fun j => lZ (Fa j))), (mbi, aJ cA 256 (fun j => lZ (Bi j))), (msc, aJ cA 65536 (fun j => lZ ((va_up χ.1 set (w64 (χ.1 (set - 2 ^ (pLo set 16).toNat - 2 ^ b) + Fa (16 * Od (pLo set 16).toNat + Od b)))) j))), (msb, aJ cA 65536 (fun j => lZ (χ.2 j)))]) rfl dX6_pairSet_195 (fun H locs hP hD hS => ?_)
                        refine lv_aload_n hx hb dX6_pairSet_196 rfl (lv_at hl 4 rfl) ?_
                        refine va_get (D := D) (ci := 6) (v := .ref msb) (C := RX6) (T := TX6) (N := 26) hx hb hts hin6 hown hK hP 0 rfl rfl 18 (by decide) (hts (.fieldLink RX6 46 "TourHouseModel" "setBits" "[J") (by decide +kernel)) (fun _ h9 => h9) rfl dX6_pairSet_197 ?_
                        refine lv_iload_n hx hb dX6_pairSet_200 rfl (lv_at hl 5 rfl) ?_
                        refine lv_lload hx hb dX6_pairSet_201 (lv_at hl 0 rfl) ?_
                        refine z_last hx hb hK hP hD hS 5 1 rfl rfl (k := set) (by omega) (by decide) (f' := (fun j => lZ ((va_up χ.2 set (w64 (χ.2 (set - 2 ^ (pLo set 16).toNat - 2 ^ b) + Bi (16 * Od (pLo set 16).toNat + Od b)))) j))) (updL_lZ χ.2 set (w64 (χ.2 (set - 2 ^ (pLo set 16).toNat - 2 ^ b) + Bi (16 * Od (pLo set 16).toNat + Od b)))) (ws' := [(mo, .inr (6, [.int (nI mth), .int (zB dir), .int (nI nv), .int (nI me), .ref mf, .ref mt, .ref mw, .ref mr, .int (nI mrn), .ref mp, .int (nI mst), .int (zB mhr), .ref mx, .ref mfa, .ref mbi, .ref mod1, .int (nI mon), .ref msc, .ref msb, .ref msu, .ref mwy, .ref mre, .ref mby, .ref msm, .ref mle, .ref mgr])), (mod1, aI cA 16 (fun j => nI (Od j))), (mfa, aJ cA 256 (fun j => lZ (Fa j))), (mbi, aJ cA 256 (fun j => lZ (Bi j))), (msc, aJ cA 65536 (fun j => lZ ((va_up χ.1 set (w64 (χ.1 (set - 2 ^ (pLo set 16).toNat - 2 ^ b) + Fa (16 * Od (pLo set 16).toNat + Od b)))) j))), (msb, aJ cA 65536 (fun j => lZ ((va_up χ.2 set (w64 (χ.2 (set - 2 ^ (pLo set 16).toNat - 2 ^ b) + Bi (16 * Od (pLo set 16).toNat + Od b)))) j)))]) rfl dX6_pairSet_203 (fun H locs hP hD hS => ?_)
                        refine lv_iinc (v := nI (b + 1)) (lv' := [(3, .int (nI (b + 1))), (8, .long (lZ (w64 (χ.2 (set - 2 ^ (pLo set 16).toNat - 2 ^ b) + Bi (16 * Od (pLo set 16).toNat + Od b))))), (6, .long (lZ (w64 (χ.1 (set - 2 ^ (pLo set 16).toNat - 2 ^ b) + Fa (16 * Od (pLo set 16).toNat + Od b))))), (5, .int (nI ((16 * (Od ((pLo set 16).toNat))) + (Od b)))), (4, .int (nI ((set - (2 ^ ((pLo set 16).toNat))) - (2 ^ b)))), (0, .ref mo), (1, .int (nI set)), (2, .int (nI ((pLo set 16).toNat)))]) hx hb dX6_pairSet_204 hl (k := 7) rfl (nI_1 b) (by decide) rfl (fun ls hl => ?_)
                        refine lv_goto (tgt := 36) hx hb dX6_pairSet_207 (by decide) ?_
                        exact ih36 (b + 1) (va_up χ.1 set (w64 (χ.1 (set - 2 ^ (pLo set 16).toNat - 2 ^ b) + Fa (16 * Od (pLo set 16).toNat + Od b))), va_up χ.2 set (w64 (χ.2 (set - 2 ^ (pLo set 16).toNat - 2 ^ b) + Bi (16 * Od (pLo set 16).toNat + Od b)))) (by omega) (by omega) (by first | exact hχ | exact ⟨up_all (P := fun x => -9223372036854775808 ≤ x ∧ x < 9223372036854775808) hχ.1 (w64_rng _), up_all (P := fun x => -9223372036854775808 ≤ x ∧ x < 9223372036854775808) hχ.2 (w64_rng _)⟩) (by rw [← hq, show mon - b = (mon - (b + 1)) + 1 from by omega, mPb, show mon - (mon - (b + 1) + 1) = b from by omega]; congr 1; first | rw [mPs_0 (by omega)] | rw [mPs_f (by omega) (by omega)] | rw [mPs_n (by omega) (by omega) (by omega)] | rw [mPs_y (by omega) (by omega) (by omega)]) (by omega) _ _ (hP) (hD) hS ls (lv_sub hl [5, 6, 7, 0] (by rfl))
                      · skip
                        refine lv_lload hx hb dX6_pairSet_173 (lv_at hl 0 rfl) ?_
                        refine lv_aload_n hx hb dX6_pairSet_175 rfl (lv_at hl 4 rfl) ?_
                        refine va_get (D := D) (ci := 6) (v := .ref msb) (C := RX6) (T := TX6) (N := 26) hx hb hts hin6 hown hK hP 0 rfl rfl 18 (by decide) (hts (.fieldLink RX6 46 "TourHouseModel" "setBits" "[J") (by decide +kernel)) (fun _ h9 => h9) rfl dX6_pairSet_176 ?_
                        refine lv_iload_n hx hb dX6_pairSet_179 rfl (lv_at hl 5 rfl) ?_
                        refine z_lald hx hb hK hP 5 1 rfl rfl (k := set) (by omega) (by decide) (v := lZ (χ.2 set)) rfl dX6_pairSet_180 ?_
                        refine z_lcmp_lt hx hb (x := w64 (χ.2 (set - 2 ^ (pLo set 16).toNat - 2 ^ b) + Bi (16 * Od (pLo set 16).toNat + Od b))) (y := χ.2 set) (w64_rng _) (hχ.2 _) (tgt := 188) dX6_pairSet_181 dX6_pairSet_182 (by decide) (fun h181 => ?_) (fun h181 => ?_)
                        · skip
                          refine lv_aload_n hx hb dX6_pairSet_188 rfl (lv_at hl 4 rfl) ?_
                          refine va_get (D := D) (ci := 6) (v := .ref msc) (C := RX6) (T := TX6) (N := 26) hx hb hts hin6 hown hK hP 0 rfl rfl 17 (by decide) (hts (.fieldLink RX6 43 "TourHouseModel" "setCost" "[J") (by decide +kernel)) (fun _ h9 => h9) rfl dX6_pairSet_189 ?_
                          refine lv_iload_n hx hb dX6_pairSet_192 rfl (lv_at hl 5 rfl) ?_
                          refine lv_lload hx hb dX6_pairSet_193 (lv_at hl 1 rfl) ?_
                          refine z_last hx hb hK hP hD hS 4 1 rfl rfl (k := set) (by omega) (by decide) (f' := (fun j => lZ ((va_up χ.1 set (w64 (χ.1 (set - 2 ^ (pLo set 16).toNat - 2 ^ b) + Fa (16 * Od (pLo set 16).toNat + Od b)))) j))) (updL_lZ χ.1 set (w64 (χ.1 (set - 2 ^ (pLo set 16).toNat - 2 ^ b) + Fa (16 * Od (pLo set 16).toNat + Od b)))) (ws' := [(mo, .inr (6, [.int (nI mth), .int (zB dir), .int (nI nv), .int (nI me), .ref mf, .ref mt, .ref mw, .ref mr, .int (nI mrn), .ref mp, .int (nI mst), .int (zB mhr), .ref mx, .ref mfa, .ref mbi, .ref mod1, .int (nI mon), .ref msc, .ref msb, .ref msu, .ref mwy, .ref mre, .ref mby, .ref msm, .ref mle, .ref mgr])), (mod1, aI cA 16 (fun j => nI (Od j))), (mfa, aJ cA 256 (fun j => lZ (Fa j))), (mbi, aJ cA 256 (fun j => lZ (Bi j))), (msc, aJ cA 65536 (fun j => lZ ((va_up χ.1 set (w64 (χ.1 (set - 2 ^ (pLo set 16).toNat - 2 ^ b) + Fa (16 * Od (pLo set 16).toNat + Od b)))) j))), (msb, aJ cA 65536 (fun j => lZ (χ.2 j)))]) rfl dX6_pairSet_195 (fun H locs hP hD hS => ?_)
                          refine lv_aload_n hx hb dX6_pairSet_196 rfl (lv_at hl 4 rfl) ?_
                          refine va_get (D := D) (ci := 6) (v := .ref msb) (C := RX6) (T := TX6) (N := 26) hx hb hts hin6 hown hK hP 0 rfl rfl 18 (by decide) (hts (.fieldLink RX6 46 "TourHouseModel" "setBits" "[J") (by decide +kernel)) (fun _ h9 => h9) rfl dX6_pairSet_197 ?_
                          refine lv_iload_n hx hb dX6_pairSet_200 rfl (lv_at hl 5 rfl) ?_
                          refine lv_lload hx hb dX6_pairSet_201 (lv_at hl 0 rfl) ?_
                          refine z_last hx hb hK hP hD hS 5 1 rfl rfl (k := set) (by omega) (by decide) (f' := (fun j => lZ ((va_up χ.2 set (w64 (χ.2 (set - 2 ^ (pLo set 16).toNat - 2 ^ b) + Bi (16 * Od (pLo set 16).toNat + Od b)))) j))) (updL_lZ χ.2 set (w64 (χ.2 (set - 2 ^ (pLo set 16).toNat - 2 ^ b) + Bi (16 * Od (pLo set 16).toNat + Od b)))) (ws' := [(mo, .inr (6, [.int (nI mth), .int (zB dir), .int (nI nv), .int (nI me), .ref mf, .ref mt, .ref mw, .ref mr, .int (nI mrn), .ref mp, .int (nI mst), .int (zB mhr), .ref mx, .ref mfa, .ref mbi, .ref mod1, .int (nI mon), .ref msc, .ref msb, .ref msu, .ref mwy, .ref mre, .ref mby, .ref msm, .ref mle, .ref mgr])), (mod1, aI cA 16 (fun j => nI (Od j))), (mfa, aJ cA 256 (fun j => lZ (Fa j))), (mbi, aJ cA 256 (fun j => lZ (Bi j))), (msc, aJ cA 65536 (fun j => lZ ((va_up χ.1 set (w64 (χ.1 (set - 2 ^ (pLo set 16).toNat - 2 ^ b) + Fa (16 * Od (pLo set 16).toNat + Od b)))) j))), (msb, aJ cA 65536 (fun j => lZ ((va_up χ.2 set (w64 (χ.2 (set - 2 ^ (pLo set 16).toNat - 2 ^ b) + Bi (16 * Od (pLo set 16).toNat + Od b)))) j)))]) rfl dX6_pairSet_203 (fun H locs hP hD hS => ?_)
                          refine lv_iinc (v := nI (b + 1)) (lv' := [(3, .int (nI (b + 1))), (8, .long (lZ (w64 (χ.2 (set - 2 ^ (pLo set 16).toNat - 2 ^ b) + Bi (16 * Od (pLo set 16).toNat + Od b))))), (6, .long (lZ (w64 (χ.1 (set - 2 ^ (pLo set 16).toNat - 2 ^ b) + Fa (16 * Od (pLo set 16).toNat + Od b))))), (5, .int (nI ((16 * (Od ((pLo set 16).toNat))) + (Od b)))), (4, .int (nI ((set - (2 ^ ((pLo set 16).toNat))) - (2 ^ b)))), (0, .ref mo), (1, .int (nI set)), (2, .int (nI ((pLo set 16).toNat)))]) hx hb dX6_pairSet_204 hl (k := 7) rfl (nI_1 b) (by decide) rfl (fun ls hl => ?_)
                          refine lv_goto (tgt := 36) hx hb dX6_pairSet_207 (by decide) ?_
                          exact ih36 (b + 1) (va_up χ.1 set (w64 (χ.1 (set - 2 ^ (pLo set 16).toNat - 2 ^ b) + Fa (16 * Od (pLo set 16).toNat + Od b))), va_up χ.2 set (w64 (χ.2 (set - 2 ^ (pLo set 16).toNat - 2 ^ b) + Bi (16 * Od (pLo set 16).toNat + Od b)))) (by omega) (by omega) (by first | exact hχ | exact ⟨up_all (P := fun x => -9223372036854775808 ≤ x ∧ x < 9223372036854775808) hχ.1 (w64_rng _), up_all (P := fun x => -9223372036854775808 ≤ x ∧ x < 9223372036854775808) hχ.2 (w64_rng _)⟩) (by rw [← hq, show mon - b = (mon - (b + 1)) + 1 from by omega, mPb, show mon - (mon - (b + 1) + 1) = b from by omega]; congr 1; first | rw [mPs_0 (by omega)] | rw [mPs_f (by omega) (by omega)] | rw [mPs_n (by omega) (by omega) (by omega)] | rw [mPs_y (by omega) (by omega) (by omega)]) (by omega) _ _ (hP) (hD) hS ls (lv_sub hl [5, 6, 7, 0] (by rfl))
                        · skip
                          refine lv_goto (tgt := 204) hx hb dX6_pairSet_185 (by decide) ?_
                          refine lv_iinc (v := nI (b + 1)) (lv' := [(3, .int (nI (b + 1))), (8, .long (lZ (w64 (χ.2 (set - 2 ^ (pLo set 16).toNat - 2 ^ b) + Bi (16 * Od (pLo set 16).toNat + Od b))))), (6, .long (lZ (w64 (χ.1 (set - 2 ^ (pLo set 16).toNat - 2 ^ b) + Fa (16 * Od (pLo set 16).toNat + Od b))))), (5, .int (nI ((16 * (Od ((pLo set 16).toNat))) + (Od b)))), (4, .int (nI ((set - (2 ^ ((pLo set 16).toNat))) - (2 ^ b)))), (0, .ref mo), (1, .int (nI set)), (2, .int (nI ((pLo set 16).toNat)))]) hx hb dX6_pairSet_204 hl (k := 7) rfl (nI_1 b) (by decide) rfl (fun ls hl => ?_)
                          refine lv_goto (tgt := 36) hx hb dX6_pairSet_207 (by decide) ?_
                          exact ih36 (b + 1) χ (by omega) (by omega) (by first | exact hχ | exact ⟨up_all (P := fun x => -9223372036854775808 ≤ x ∧ x < 9223372036854775808) hχ.1 (w64_rng _), up_all (P := fun x => -9223372036854775808 ≤ x ∧ x < 9223372036854775808) hχ.2 (w64_rng _)⟩) (by rw [← hq, show mon - b = (mon - (b + 1)) + 1 from by omega, mPb, show mon - (mon - (b + 1) + 1) = b from by omega]; congr 1; first | rw [mPs_0 (by omega)] | rw [mPs_f (by omega) (by omega)] | rw [mPs_n (by omega) (by omega) (by omega)] | rw [mPs_y (by omega) (by omega) (by omega)]) (by omega) _ _ (hP) (hD) hS ls (lv_sub hl [5, 6, 7, 0] (by rfl))
                  · skip
                    refine lv_goto (tgt := 204) hx hb dX6_pairSet_112 (by decide) ?_
                    refine lv_iinc (v := nI (b + 1)) (lv' := [(3, .int (nI (b + 1))), (5, .int (nI ((16 * (Od ((pLo set 16).toNat))) + (Od b)))), (4, .int (nI ((set - (2 ^ ((pLo set 16).toNat))) - (2 ^ b)))), (0, .ref mo), (1, .int (nI set)), (2, .int (nI ((pLo set 16).toNat)))]) hx hb dX6_pairSet_204 hl (k := 5) rfl (nI_1 b) (by decide) rfl (fun ls hl => ?_)
                    refine lv_goto (tgt := 36) hx hb dX6_pairSet_207 (by decide) ?_
                    exact ih36 (b + 1) χ (by omega) (by omega) (by first | exact hχ | exact ⟨up_all (P := fun x => -9223372036854775808 ≤ x ∧ x < 9223372036854775808) hχ.1 (w64_rng _), up_all (P := fun x => -9223372036854775808 ≤ x ∧ x < 9223372036854775808) hχ.2 (w64_rng _)⟩) (by rw [← hq, show mon - b = (mon - (b + 1)) + 1 from by omega, mPb, show mon - (mon - (b + 1) + 1) = b from by omega]; congr 1; first | rw [mPs_0 (by omega)] | rw [mPs_f (by omega) (by omega)] | rw [mPs_n (by omega) (by omega) (by omega)] | rw [mPs_y (by omega) (by omega) (by omega)]) (by omega) _ _ (hP) (hD) hS ls (lv_sub hl [3, 4, 5, 0] (by rfl))
              · skip
                refine lv_goto (tgt := 204) hx hb dX6_pairSet_52 (by decide) ?_
                refine lv_iinc (v := nI (b + 1)) (lv' := [(3, .int (nI (b + 1))), (0, .ref mo), (1, .int (nI set)), (2, .int (nI ((pLo set 16).toNat)))]) hx hb dX6_pairSet_204 hl (k := 3) rfl (nI_1 b) (by decide) rfl (fun ls hl => ?_)
                refine lv_goto (tgt := 36) hx hb dX6_pairSet_207 (by decide) ?_
                exact ih36 (b + 1) χ (by omega) (by omega) (by first | exact hχ | exact ⟨up_all (P := fun x => -9223372036854775808 ≤ x ∧ x < 9223372036854775808) hχ.1 (w64_rng _), up_all (P := fun x => -9223372036854775808 ≤ x ∧ x < 9223372036854775808) hχ.2 (w64_rng _)⟩) (by rw [← hq, show mon - b = (mon - (b + 1)) + 1 from by omega, mPb, show mon - (mon - (b + 1) + 1) = b from by omega]; congr 1; first | rw [mPs_0 (by omega)] | rw [mPs_f (by omega) (by omega)] | rw [mPs_n (by omega) (by omega) (by omega)] | rw [mPs_y (by omega) (by omega) (by omega)]) (by omega) _ _ (hP) (hD) hS ls (lv_sub hl [1, 2, 3, 0] (by rfl))
        exact J36 ((16 - ((pLo set 16).toNat + 1)) + 1) ((pLo set 16).toNat + 1) (va_up φ.1 set 1152921504606846976, va_up φ.2 set 0) (by omega) (by omega) (mR_init hφ) rfl (by omega) _ _ (hP) (hD) hS ls (lv_sub hl [1, 2, 3, 0] (by rfl))
      · skip
        refine lv_iinc (v := nI (a + 1)) (lv' := [(2, .int (nI (a + 1))), (0, .ref mo), (1, .int (nI set))]) hx hb dX6_pairSet_26 hl (k := 2) rfl (nI_1 a) (by decide) rfl (fun ls hl => ?_)
        refine lv_goto (tgt := 18) hx hb dX6_pairSet_29 (by decide) ?_
        exact ih18 (a + 1) (pLo_go hA0 ha hl9 (by omega)) (by rw [← hl9, show 16 - a = (16 - (a + 1)) + 1 from by omega, pLo, show 16 - (16 - (a + 1) + 1) = a from by omega, if_neg (by omega)]) (by omega) _ _ (hP) (hD) hS ls (lv_sub hl [1, 2, 0] (by rfl))
  exact J18 ((16 - 0) + 1) 0 (by omega) rfl (by omega) _ _ (hP) (hD) hS ls (lv_sub hl [1, 2, 0] (by rfl))
