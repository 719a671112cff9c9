/-- Pairing: sets, cost, tie, slots, count -/
abbrev PS : Type := (Nat → Nat) × (Nat → Int) × (Nat → Int) × (Nat → Nat) × Nat
def pInv (ψ : PS) : Prop := (∀ j, ψ.2.2.2.1 j ≤ 1597) ∧ (∀ j, ψ.1 j < 65536) ∧ ψ.2.2.2.2 ≤ 1597 ∧ (∀ j, -9223372036854775808 ≤ ψ.2.1 j ∧ ψ.2.1 j < 9223372036854775808) ∧ (∀ j, -9223372036854775808 ≤ ψ.2.2.1 j ∧ ψ.2.2.1 j < 9223372036854775808)
def pHash (set : Nat) : Nat := set * 2654435761 % 4294967296 / 1048576
theorem pHash_lt (set : Nat) : pHash set < 4096 := by unfold pHash; omega
theorem nb_hmul (set : Nat) : nI set * iZ (-1640531535) = nI (set * 2654435761) := by
  rw [show iZ (-1640531535) = nI 2654435761 from by decide, pk_mul]
theorem nb_hash (set : Nat) : ((nI (set * 2654435761)).toUInt32 >>> ((nI 20).toUInt32 &&& Int32.toUInt32 31)).toInt32 = nI (pHash set) := by
  have h : nI (set * 2654435761) = nI (set * 2654435761 % 4294967296) := by
    apply Int32.toBitVec_inj.1
    show BitVec.ofNat 32 _ = BitVec.ofNat 32 _
    apply BitVec.eq_of_toNat_eq
    simp
  rw [h, pk_ushrN (Nat.mod_lt _ (by decide)) (nI 20) 20 (by decide)]
  rfl
theorem nb_and4095 (a : Nat) : nI a &&& nI 4095 = nI (a % 4096) := by
  rw [nb_and, show (4095 : Nat) = 2 ^ 12 - 1 from rfl, Nat.and_two_pow_sub_one_eq_mod]
/-- the probing from a slot -/
def pProbe (ψ : PS) (set : Nat) : Nat → Nat → Nat
  | 0, s => s
  | n + 1, s => if ψ.2.2.2.1 s = 0 ∨ ψ.1 (ψ.2.2.2.1 s - 1) = set then s else pProbe ψ set n ((s + 1) % 4096)
def pSlot (ψ : PS) (set : Nat) : Nat := pProbe ψ set 4096 (pHash set)
theorem pProbe_lt (ψ : PS) (set : Nat) : ∀ (n s : Nat), s < 4096 → pProbe ψ set n s < 4096
  | 0, _, h => h
  | n + 1, s, h => by
    rw [pProbe]; split
    · exact h
    · exact pProbe_lt ψ set n _ (Nat.mod_lt _ (by decide))
theorem pSlot_lt (ψ : PS) (set : Nat) : pSlot ψ set < 4096 := pProbe_lt ψ set 4096 _ (pHash_lt set)
def pOffer (ψ : PS) (set : Nat) (c t : Int) : PS :=
  if ψ.2.2.2.1 (pSlot ψ set) = 0 then
    (if 1597 ≤ ψ.2.2.2.2 then ψ else (va_up ψ.1 ψ.2.2.2.2 set, va_up ψ.2.1 ψ.2.2.2.2 c, va_up ψ.2.2.1 ψ.2.2.2.2 t, va_up ψ.2.2.2.1 (pSlot ψ set) (ψ.2.2.2.2 + 1), ψ.2.2.2.2 + 1))
  else if dLess c t (ψ.2.1 (ψ.2.2.2.1 (pSlot ψ set) - 1)) (ψ.2.2.1 (ψ.2.2.2.1 (pSlot ψ set) - 1)) = true then
    (ψ.1, va_up ψ.2.1 (ψ.2.2.2.1 (pSlot ψ set) - 1) c, va_up ψ.2.2.1 (ψ.2.2.2.1 (pSlot ψ set) - 1) t, ψ.2.2.2.1, ψ.2.2.2.2)
  else ψ
section
variable {ψ : PS} {set : Nat} {c t : Int}
theorem pOffer_full (h : ψ.2.2.2.1 (pSlot ψ set) = 0) (h2 : 1597 ≤ ψ.2.2.2.2) : pOffer ψ set c t = ψ := by rw [pOffer, if_pos h, if_pos h2]
theorem pOffer_new (h : ψ.2.2.2.1 (pSlot ψ set) = 0) (h2 : ¬ 1597 ≤ ψ.2.2.2.2) : pOffer ψ set c t = (va_up ψ.1 ψ.2.2.2.2 set, va_up ψ.2.1 ψ.2.2.2.2 c, va_up ψ.2.2.1 ψ.2.2.2.2 t, va_up ψ.2.2.2.1 (pSlot ψ set) (ψ.2.2.2.2 + 1), ψ.2.2.2.2 + 1) := by rw [pOffer, if_pos h, if_neg h2]
theorem pOffer_less (h : ¬ ψ.2.2.2.1 (pSlot ψ set) = 0) (h2 : dLess c t (ψ.2.1 (ψ.2.2.2.1 (pSlot ψ set) - 1)) (ψ.2.2.1 (ψ.2.2.2.1 (pSlot ψ set) - 1)) = true) : pOffer ψ set c t = (ψ.1, va_up ψ.2.1 (ψ.2.2.2.1 (pSlot ψ set) - 1) c, va_up ψ.2.2.1 (ψ.2.2.2.1 (pSlot ψ set) - 1) t, ψ.2.2.2.1, ψ.2.2.2.2) := by rw [pOffer, if_neg h, if_pos h2]
theorem pOffer_not (h : ¬ ψ.2.2.2.1 (pSlot ψ set) = 0) (h2 : dLess c t (ψ.2.1 (ψ.2.2.2.1 (pSlot ψ set) - 1)) (ψ.2.2.1 (ψ.2.2.2.1 (pSlot ψ set) - 1)) = false) : pOffer ψ set c t = ψ := by rw [pOffer, if_neg h, if_neg (by rw [h2]; decide)]
end
/-- the least bit of the last k of sixteen -/
def pLo (set : Nat) : Nat → Int
  | 0 => -1
  | k + 1 => if set / 2 ^ (16 - (k + 1)) % 2 = 1 then ((16 - (k + 1) : Nat) : Int) else pLo set k
set_option maxHeartbeats 4000000 in
set_option maxRecDepth 100000 in
/-- Pairing.slotOf -/
theorem c_X3_slotOf (l : Launch) (D : va_G) (cA : Nat → ClassId) (pr : Nat) (pqc : Nat) (pqt : Nat) (pse : Nat) (pco : Nat) (pti : Nat) (psl : Nat) (ψ : PS) (set : Nat) (hI : pInv ψ) (hset : set < 65536) : Met l yX3_slotOf wsX3_slotOf ({ frames := 0, cells := 0, slots := 0, locals := 0 } : Room) (zRd D vwCl (zT cA) [(pr, .inr (3, [.ref pqc, .ref pqt, .ref pse, .ref pco, .ref pti, .ref psl, .int (nI ψ.2.2.2.2)])), (pse, aI cA 1597 (fun j => nI (ψ.1 j))), (pco, aJ cA 1597 (fun j => lZ (ψ.2.1 j))), (pti, aJ cA 1597 (fun j => lZ (ψ.2.2.1 j))), (psl, aI cA 4096 (fun j => nI (ψ.2.2.2.1 j)))] [.ref pr, .int (nI set)]) (vp_Si (fun r => r = nI (pSlot ψ set))) 0 0 (fun _ => False) := by
  refine z_read (cc := cX3_slotOf) (maxL := 4) (ret := (some .int)) (by decide) rfl (Nat.le_of_ble_eq_true rfl) ?_
  intro p e s m below meth c hx hb hr hml hown hts hlocks hP hK Q hQ ls hl
  have hown : s.vm.findClass RX3 = some m.cls := hown
  have hl : lv_has ls 4 [(0, .ref pr), (1, .int (nI set))] := hl
  generalize hav : ([.ref pr, .int (nI set)] : List Value).toArray = args at hts hQ ⊢
  have hin3 : ∀ w ∈ wsX30, w ∈ wsX3_slotOf := by decide +kernel
  refine lv_iload_n hx hb dX3_slotOf_0 rfl (lv_at hl 1 rfl) ?_
  refine W.ldc (v := (-1640531535)) hx hb hown (hts (.constant RX3 93 (-1640531535)) (by decide +kernel)) rfl dX3_slotOf_1 ?_
  refine z_topi (v := iZ (-1640531535)) (by decide) ?_
  refine lv_imul hx hb dX3_slotOf_3 ?_
  refine z_topi (v := nI (set * 2654435761)) (nb_hmul set) ?_
  refine lv_bipush (v := nI 20) hx hb dX3_slotOf_4 (by decide) ?_
  refine lv_iushr (v := nI (pHash set)) hx hb dX3_slotOf_6 (nb_hash set) ?_
  refine lv_istore_n (lv' := [(2, .int (nI (pHash set))), (0, .ref pr), (1, .int (nI set))]) hx hb dX3_slotOf_7 rfl hl (by decide) rfl (fun ls hl => ?_)
  refine lv_iconst (v := nI 0) hx hb dX3_slotOf_8 (by decide) ?_
  refine lv_istore_n (lv' := [(3, .int (nI 0)), (2, .int (nI (pHash set))), (0, .ref pr), (1, .int (nI set))]) hx hb dX3_slotOf_9 rfl hl (by decide) rfl (fun ls hl => ?_)
  have J10 : ∀ (n : Nat), ∀ (tr1 : Nat) (sl : Nat), (tr1 ≤ 4096) → (sl < 4096) → (pProbe ψ set (4096 - tr1) sl = pSlot ψ set) → 4096 - tr1 < n → ∀ (ls : Array Slot), lv_has ls 4 [(0, .ref pr), (1, .int (nI set)), (2, .int (nI sl)), (3, .int (nI tr1))] → W p l e ({ frames := 0, cells := 0, slots := 0, locals := 0 } : Room) s m args below meth c s.heap [] 0 0 Q (F0 m 10 ls []) := by
    intro n10
    induction n10 with
    | zero => intro tr1 sl htr hsl hq hn; exact absurd hn (Nat.not_lt_zero _)
    | succ n10 ih10 =>
      intro tr1 sl htr hsl hq hn10 ls hl
      refine lv_iload_n hx hb dX3_slotOf_10 rfl (lv_at hl 3 rfl) ?_
      refine lv_sipush (v := nI 4096) hx hb dX3_slotOf_11 (by decide) ?_
      refine z_ge hx hb (by omega) (by decide) (tgt := 60) dX3_slotOf_14 (by decide) (fun h14 => ?_) (fun h14 => ?_)
      · skip
        refine lv_iload_n hx hb dX3_slotOf_60 rfl (lv_at hl 2 rfl) ?_
        exact z_iretR hx hb hr hlocks hQ (by rw [← hq]; first | (rw [show 4096 - tr1 = 0 from by omega]; rfl) | (rw [show 4096 - tr1 = (4096 - (tr1 + 1)) + 1 from by omega, pProbe]; first | rw [if_pos (Or.inl h23)] | rw [if_pos (Or.inr h40)])) dX3_slotOf_61 rfl rfl
      · skip
        refine lv_aload_n hx hb dX3_slotOf_17 rfl (lv_at hl 0 rfl) ?_
        refine va_get (D := D) (ci := 3) (v := .ref psl) (C := RX3) (T := TX3) (N := 7) hx hb hts hin3 hown hK hP 0 rfl rfl 5 (by decide) (hts (.fieldLink RX3 30 "TourHouse$Pairing" "slots" "[I") (by decide +kernel)) (fun _ h9 => h9) rfl dX3_slotOf_18 ?_
        refine lv_iload_n hx hb dX3_slotOf_21 rfl (lv_at hl 2 rfl) ?_
        refine z_iald hx hb hK hP 4 0 rfl rfl (k := sl) (by omega) (by decide) (v := nI (ψ.2.2.2.1 sl)) rfl dX3_slotOf_22 ?_
        refine z_neq hx hb (Nat.lt_of_le_of_lt (hI.1 _) (by decide)) (tgt := 60) dX3_slotOf_23 (by decide) (fun h23 => ?_) (fun h23 => ?_)
        · skip
          refine lv_iload_n hx hb dX3_slotOf_60 rfl (lv_at hl 2 rfl) ?_
          exact z_iretR hx hb hr hlocks hQ (by rw [← hq]; first | (rw [show 4096 - tr1 = 0 from by omega]; rfl) | (rw [show 4096 - tr1 = (4096 - (tr1 + 1)) + 1 from by omega, pProbe]; first | rw [if_pos (Or.inl h23)] | rw [if_pos (Or.inr h40)])) dX3_slotOf_61 rfl rfl
        · skip
          refine lv_aload_n hx hb dX3_slotOf_26 rfl (lv_at hl 0 rfl) ?_
          refine va_get (D := D) (ci := 3) (v := .ref pse) (C := RX3) (T := TX3) (N := 7) hx hb hts hin3 hown hK hP 0 rfl rfl 2 (by decide) (hts (.fieldLink RX3 19 "TourHouse$Pairing" "sets" "[I") (by decide +kernel)) (fun _ h9 => h9) rfl dX3_slotOf_27 ?_
          refine lv_aload_n hx hb dX3_slotOf_30 rfl (lv_at hl 0 rfl) ?_
          refine va_get (D := D) (ci := 3) (v := .ref psl) (C := RX3) (T := TX3) (N := 7) hx hb hts hin3 hown hK hP 0 rfl rfl 5 (by decide) (hts (.fieldLink RX3 30 "TourHouse$Pairing" "slots" "[I") (by decide +kernel)) (fun _ h9 => h9) rfl dX3_slotOf_31 ?_
          refine lv_iload_n hx hb dX3_slotOf_34 rfl (lv_at hl 2 rfl) ?_
          refine z_iald hx hb hK hP 4 0 rfl rfl (k := sl) (by omega) (by decide) (v := nI (ψ.2.2.2.1 sl)) rfl dX3_slotOf_35 ?_
          refine lv_iconst (v := nI 1) hx hb dX3_slotOf_36 (by decide) ?_
          refine lv_isub hx hb dX3_slotOf_37 ?_
          refine z_topi (v := nI ((ψ.2.2.2.1 sl) - 1)) (pk_sub (by omega)) ?_
          refine z_iald hx hb hK hP 1 0 rfl rfl (k := ((ψ.2.2.2.1 sl) - 1)) (by have := hI.1 sl; omega) (by decide) (v := nI (ψ.1 ((ψ.2.2.2.1 sl) - 1))) rfl dX3_slotOf_38 ?_
          refine lv_iload_n hx hb dX3_slotOf_39 rfl (lv_at hl 1 rfl) ?_
          refine z_ne hx hb (Nat.lt_trans (hI.2.1 _) (by decide)) (by omega) (tgt := 46) dX3_slotOf_40 (by decide) (fun h40 => ?_) (fun h40 => ?_)
          · skip
            refine lv_iload_n hx hb dX3_slotOf_46 rfl (lv_at hl 2 rfl) ?_
            refine lv_iconst (v := nI 1) hx hb dX3_slotOf_47 (by decide) ?_
            refine lv_iadd hx hb dX3_slotOf_48 ?_
            refine z_topi (v := nI (sl + 1)) (nI_add sl 1) ?_
            refine lv_sipush (v := nI 4095) hx hb dX3_slotOf_49 (by decide) ?_
            refine lv_iand hx hb dX3_slotOf_52 ?_
            refine z_topi (v := nI ((sl + 1) % 4096)) (nb_and4095 _) ?_
            refine lv_istore_n (lv' := [(2, .int (nI ((sl + 1) % 4096))), (0, .ref pr), (1, .int (nI set)), (3, .int (nI tr1))]) hx hb dX3_slotOf_53 rfl hl (by decide) rfl (fun ls hl => ?_)
            refine lv_iinc (v := nI (tr1 + 1)) (lv' := [(3, .int (nI (tr1 + 1))), (2, .int (nI ((sl + 1) % 4096))), (0, .ref pr), (1, .int (nI set))]) hx hb dX3_slotOf_54 hl (k := 3) rfl (nI_1 tr1) (by decide) rfl (fun ls hl => ?_)
            refine lv_goto (tgt := 10) hx hb dX3_slotOf_57 (by decide) ?_
            exact ih10 (tr1 + 1) ((sl + 1) % 4096) (by omega) (by omega) (by rw [← hq, show 4096 - tr1 = (4096 - (tr1 + 1)) + 1 from by omega, pProbe, if_neg (by rintro (q | q); exact h23 q; exact h40 q)]) (by omega) ls (lv_sub hl [2, 3, 1, 0] (by rfl))
          · skip
            refine lv_goto (tgt := 60) hx hb dX3_slotOf_43 (by decide) ?_
            refine lv_iload_n hx hb dX3_slotOf_60 rfl (lv_at hl 2 rfl) ?_
            exact z_iretR hx hb hr hlocks hQ (by rw [← hq]; first | (rw [show 4096 - tr1 = 0 from by omega]; rfl) | (rw [show 4096 - tr1 = (4096 - (tr1 + 1)) + 1 from by omega, pProbe]; first | rw [if_pos (Or.inl h23)] | rw [if_pos (Or.inr h40)])) dX3_slotOf_61 rfl rfl
  exact J10 ((4096 - 0) + 1) 0 (pHash set) (by omega) (pHash_lt set) rfl (by omega) ls (lv_sub hl [2, 3, 1, 0] (by rfl))
set_option maxHeartbeats 4000000 in
set_option maxRecDepth 100000 in
/-- Pairing.offer -/
theorem c_X3_offer (l : Launch) (D : va_G) (cA : Nat → ClassId) (sz : Nat) (pr : Nat) (pqc : Nat) (pqt : Nat) (pse : Nat) (pco : Nat) (pti : Nat) (psl : Nat) (ψ : PS) (set : Nat) (c1 : Int) (t1 : Int) (hI : pInv ψ) (hset : set < 65536) (hc1 : -9223372036854775808 ≤ c1 ∧ c1 < 9223372036854775808) (ht1 : -9223372036854775808 ≤ t1 ∧ t1 < 9223372036854775808) : Met l yX3_offer wsX3_offer ({ frames := 1, cells := 0, slots := 0, locals := 27 } : Room) (zWr D vwCl (zT cA) [(pr, .inr (3, [.ref pqc, .ref pqt, .ref pse, .ref pco, .ref pti, .ref psl, .int (nI ψ.2.2.2.2)])), (pse, aI cA 1597 (fun j => nI (ψ.1 j))), (pco, aJ cA 1597 (fun j => lZ (ψ.2.1 j))), (pti, aJ cA 1597 (fun j => lZ (ψ.2.2.1 j))), (psl, aI cA 4096 (fun j => nI (ψ.2.2.2.1 j)))] sz [.ref pr, .int (nI set), .long (lZ c1), .long (lZ t1)]) (zQv D vwCl (zT cA) (va_A [(pr, .inr (3, [.ref pqc, .ref pqt, .ref pse, .ref pco, .ref pti, .ref psl, .int (nI ψ.2.2.2.2)])), (pse, aI cA 1597 (fun j => nI (ψ.1 j))), (pco, aJ cA 1597 (fun j => lZ (ψ.2.1 j))), (pti, aJ cA 1597 (fun j => lZ (ψ.2.2.1 j))), (psl, aI cA 4096 (fun j => nI (ψ.2.2.2.1 j)))] sz) [(pr, .inr (3, [.ref pqc, .ref pqt, .ref pse, .ref pco, .ref pti, .ref psl, .int (nI ((pOffer ψ set c1 t1).2.2.2.2))])), (pse, aI cA 1597 (fun j => nI (((pOffer ψ set c1 t1).1) j))), (pco, aJ cA 1597 (fun j => lZ (((pOffer ψ set c1 t1).2.1) j))), (pti, aJ cA 1597 (fun j => lZ (((pOffer ψ set c1 t1).2.2.1) j))), (psl, aI cA 4096 (fun j => nI (((pOffer ψ set c1 t1).2.2.2.1) j)))]) 0 0 (va_A [(pr, .inr (3, [.ref pqc, .ref pqt, .ref pse, .ref pco, .ref pti, .ref psl, .int (nI ψ.2.2.2.2)])), (pse, aI cA 1597 (fun j => nI (ψ.1 j))), (pco, aJ cA 1597 (fun j => lZ (ψ.2.1 j))), (pti, aJ cA 1597 (fun j => lZ (ψ.2.2.1 j))), (psl, aI cA 4096 (fun j => nI (ψ.2.2.2.1 j)))] sz) := by
  refine z_write (cc := cX3_offer) (maxL := 8) (ret := none) (by decide) rfl (Nat.le_of_ble_eq_true rfl) ?_
  intro p e s m below meth c hx hb hr hml hown hts hlocks A hAe hA H locs hP hK hD hS hini Q hQ ls hl
  have hown : s.vm.findClass RX3 = some m.cls := hown
  have hl : lv_has ls 8 [(0, .ref pr), (1, .int (nI set)), (2, .long (lZ c1)), (4, .long (lZ t1))] := hl
  generalize hav : ([.ref pr, .int (nI set), .long (lZ c1), .long (lZ t1)] : List Value).toArray = args at hts hQ ⊢
  have hin3 : ∀ w ∈ wsX30, w ∈ wsX3_offer := by decide +kernel
  refine lv_aload_n hx hb dX3_offer_0 rfl (lv_at hl 0 rfl) ?_
  refine lv_iload_n hx hb dX3_offer_1 rfl (lv_at hl 1 rfl) ?_
  refine z_cRVi (wc := [(pr, .inr (3, [.ref pqc, .ref pqt, .ref pse, .ref pco, .ref pti, .ref psl, .int (nI ψ.2.2.2.2)])), (pse, aI cA 1597 (fun j => nI (ψ.1 j))), (pco, aJ cA 1597 (fun j => lZ (ψ.2.1 j))), (pti, aJ cA 1597 (fun j => lZ (ψ.2.2.1 j))), (psl, aI cA 4096 (fun j => nI (ψ.2.2.2.1 j)))]) (rm := ({ frames := 0, cells := 0, slots := 0, locals := 0 } : Room)) (As := [.int (nI set)]) (rest := []) ⟨hx, hb, hml, hown, hts⟩ (c_X3_slotOf l D cA pr pqc pqt pse pco pti psl ψ set (by first | assumption | omega) (by first | assumption | omega)) (cwV 1 hts gX3_offer_X3_slotOf rfl rfl rfl (by decide +kernel) ⟨Nat.le_of_ble_eq_true rfl, Nat.le_of_ble_eq_true rfl⟩) hP hK [0, 1, 2, 3, 4] rfl 3 0 rfl rfl rfl hl.1 rfl (Nat.le_of_ble_eq_true rfl) ⟨Nat.zero_le _, Nat.zero_le _⟩ dX3_offer_2 (fun r hr2 => ?_)
  subst hr2
  refine lv_istore (lv' := [(6, .int (nI (pSlot ψ set))), (0, .ref pr), (1, .int (nI set)), (2, .long (lZ c1)), (4, .long (lZ t1))]) hx hb dX3_offer_5 hl (by decide) rfl (fun ls hl => ?_)
  refine lv_aload_n hx hb dX3_offer_7 rfl (lv_at hl 1 rfl) ?_
  refine va_get (D := D) (ci := 3) (v := .ref psl) (C := RX3) (T := TX3) (N := 7) hx hb hts hin3 hown hK hP 0 rfl rfl 5 (by decide) (hts (.fieldLink RX3 30 "TourHouse$Pairing" "slots" "[I") (by decide +kernel)) (fun _ h9 => h9) rfl dX3_offer_8 ?_
  refine lv_iload hx hb dX3_offer_11 (lv_at hl 0 rfl) ?_
  refine z_iald hx hb hK hP 4 0 rfl rfl (k := (pSlot ψ set)) (pSlot_lt ψ set) (by decide) (v := nI (ψ.2.2.2.1 (pSlot ψ set))) rfl dX3_offer_13 ?_
  refine lv_iconst (v := nI 1) hx hb dX3_offer_14 (by decide) ?_
  refine lv_isub hx hb dX3_offer_15 ?_
  refine z_topi (v := iZ (((ψ.2.2.2.1 (pSlot ψ set) : Nat) : Int) - 1)) (iZ_sub ((ψ.2.2.2.1 (pSlot ψ set) : Nat) : Int) 1) ?_
  refine lv_istore (lv' := [(7, .int (iZ (((ψ.2.2.2.1 (pSlot ψ set) : Nat) : Int) - 1))), (6, .int (nI (pSlot ψ set))), (0, .ref pr), (1, .int (nI set)), (2, .long (lZ c1)), (4, .long (lZ t1))]) hx hb dX3_offer_16 hl (by decide) rfl (fun ls hl => ?_)
  refine lv_iload hx hb dX3_offer_18 (lv_at hl 0 rfl) ?_
  refine z_ige hx hb (x := ((ψ.2.2.2.1 (pSlot ψ set) : Nat) : Int) - 1) (⟨by omega, by have := hI.1 (pSlot ψ set); omega⟩) (tgt := 72) dX3_offer_20 (by decide) (fun h20 => ?_) (fun h20 => ?_)
  · skip
    refine lv_lload_n hx hb dX3_offer_72 rfl (lv_at hl 4 rfl) ?_
    refine lv_lload hx hb dX3_offer_73 (lv_at hl 5 rfl) ?_
    refine lv_aload_n hx hb dX3_offer_75 rfl (lv_at hl 2 rfl) ?_
    refine va_get (D := D) (ci := 3) (v := .ref pco) (C := RX3) (T := TX3) (N := 7) hx hb hts hin3 hown hK hP 0 rfl rfl 3 (by decide) (hts (.fieldLink RX3 23 "TourHouse$Pairing" "cost" "[J") (by decide +kernel)) (fun _ h9 => h9) rfl dX3_offer_76 ?_
    refine lv_iload hx hb dX3_offer_79 (lv_at hl 0 rfl) ?_
    refine z_topi (v := nI (ψ.2.2.2.1 (pSlot ψ set) - 1)) (by rw [iZ_toNat (by omega)]; congr 1; omega) ?_
    refine z_lald hx hb hK hP 2 1 rfl rfl (k := (ψ.2.2.2.1 (pSlot ψ set) - 1)) (by have := hI.1 (pSlot ψ set); omega) (by decide) (v := lZ (ψ.2.1 (ψ.2.2.2.1 (pSlot ψ set) - 1))) rfl dX3_offer_81 ?_
    refine lv_aload_n hx hb dX3_offer_82 rfl (lv_at hl 2 rfl) ?_
    refine va_get (D := D) (ci := 3) (v := .ref pti) (C := RX3) (T := TX3) (N := 7) hx hb hts hin3 hown hK hP 0 rfl rfl 4 (by decide) (hts (.fieldLink RX3 27 "TourHouse$Pairing" "tie" "[J") (by decide +kernel)) (fun _ h9 => h9) rfl dX3_offer_83 ?_
    refine lv_iload hx hb dX3_offer_86 (lv_at hl 0 rfl) ?_
    refine z_topi (v := nI (ψ.2.2.2.1 (pSlot ψ set) - 1)) (by rw [iZ_toNat (by omega)]; congr 1; omega) ?_
    refine z_lald hx hb hK hP 3 1 rfl rfl (k := (ψ.2.2.2.1 (pSlot ψ set) - 1)) (by have := hI.1 (pSlot ψ set); omega) (by decide) (v := lZ (ψ.2.2.1 (ψ.2.2.2.1 (pSlot ψ set) - 1))) rfl dX3_offer_88 ?_
    refine z_cRSi (wc := []) (rm := ({ frames := 0, cells := 0, slots := 0, locals := 0 } : Room)) (As := [.long (lZ c1), .long (lZ t1), .long (lZ (ψ.2.1 (ψ.2.2.2.1 (pSlot ψ set) - 1))), .long (lZ (ψ.2.2.1 (ψ.2.2.2.1 (pSlot ψ set) - 1)))]) (rest := []) ⟨hx, hb, hml, hown, hts⟩ (c_X1_isLess l D cA c1 t1 (ψ.2.1 (ψ.2.2.2.1 (pSlot ψ set) - 1)) (ψ.2.2.1 (ψ.2.2.2.1 (pSlot ψ set) - 1)) (hc1) (ht1) (hI.2.2.2.1 _) (hI.2.2.2.2 _)) (va_cwS 4 hts gX3_offer_X1_isLess rfl rfl rfl (by decide +kernel) ⟨Nat.le_of_ble_eq_true rfl, Nat.le_of_ble_eq_true rfl⟩) hP hK [] rfl rfl hl.1 rfl (Nat.le_of_ble_eq_true rfl) ⟨Nat.zero_le _, Nat.zero_le _⟩ dX3_offer_89 (fun r hr89 => ?_)
    subst hr89
    refine z_ifne hx hb (tgt := 96) dX3_offer_92 (by decide) (fun h92 => ?_) (fun h92 => ?_)
    · skip
      refine lv_aload_n hx hb dX3_offer_96 rfl (lv_at hl 2 rfl) ?_
      refine va_get (D := D) (ci := 3) (v := .ref pco) (C := RX3) (T := TX3) (N := 7) hx hb hts hin3 hown hK hP 0 rfl rfl 3 (by decide) (hts (.fieldLink RX3 23 "TourHouse$Pairing" "cost" "[J") (by decide +kernel)) (fun _ h9 => h9) rfl dX3_offer_97 ?_
      refine lv_iload hx hb dX3_offer_100 (lv_at hl 0 rfl) ?_
      refine z_topi (v := nI (ψ.2.2.2.1 (pSlot ψ set) - 1)) (by rw [iZ_toNat (by omega)]; congr 1; omega) ?_
      refine lv_lload_n hx hb dX3_offer_102 rfl (lv_at hl 4 rfl) ?_
      refine z_last hx hb hK hP hD hS 2 1 rfl rfl (k := (ψ.2.2.2.1 (pSlot ψ set) - 1)) (by have := hI.1 (pSlot ψ set); omega) (by decide) (f' := (fun j => lZ ((va_up ψ.2.1 (ψ.2.2.2.1 (pSlot ψ set) - 1) c1) j))) (updL_lZ _ _ _) (ws' := [(pr, .inr (3, [.ref pqc, .ref pqt, .ref pse, .ref pco, .ref pti, .ref psl, .int (nI ψ.2.2.2.2)])), (pse, aI cA 1597 (fun j => nI (ψ.1 j))), (pco, aJ cA 1597 (fun j => lZ ((va_up ψ.2.1 (ψ.2.2.2.1 (pSlot ψ set) - 1) c1) j))), (pti, aJ cA 1597 (fun j => lZ (ψ.2.2.1 j))), (psl, aI cA 4096 (fun j => nI (ψ.2.2.2.1 j)))]) rfl dX3_offer_103 (fun H locs hP hD hS => ?_)
      refine lv_aload_n hx hb dX3_offer_104 rfl (lv_at hl 2 rfl) ?_
      refine va_get (D := D) (ci := 3) (v := .ref pti) (C := RX3) (T := TX3) (N := 7) hx hb hts hin3 hown hK hP 0 rfl rfl 4 (by decide) (hts (.fieldLink RX3 27 "TourHouse$Pairing" "tie" "[J") (by decide +kernel)) (fun _ h9 => h9) rfl dX3_offer_105 ?_
      refine lv_iload hx hb dX3_offer_108 (lv_at hl 0 rfl) ?_
      refine z_topi (v := nI (ψ.2.2.2.1 (pSlot ψ set) - 1)) (by rw [iZ_toNat (by omega)]; congr 1; omega) ?_
      refine lv_lload hx hb dX3_offer_110 (lv_at hl 5 rfl) ?_
      refine z_last hx hb hK hP hD hS 3 1 rfl rfl (k := (ψ.2.2.2.1 (pSlot ψ set) - 1)) (by have := hI.1 (pSlot ψ set); omega) (by decide) (f' := (fun j => lZ ((va_up ψ.2.2.1 (ψ.2.2.2.1 (pSlot ψ set) - 1) t1) j))) (updL_lZ _ _ _) (ws' := [(pr, .inr (3, [.ref pqc, .ref pqt, .ref pse, .ref pco, .ref pti, .ref psl, .int (nI ψ.2.2.2.2)])), (pse, aI cA 1597 (fun j => nI (ψ.1 j))), (pco, aJ cA 1597 (fun j => lZ ((va_up ψ.2.1 (ψ.2.2.2.1 (pSlot ψ set) - 1) c1) j))), (pti, aJ cA 1597 (fun j => lZ ((va_up ψ.2.2.1 (ψ.2.2.2.1 (pSlot ψ set) - 1) t1) j))), (psl, aI cA 4096 (fun j => nI (ψ.2.2.2.1 j)))]) rfl dX3_offer_112 (fun H locs hP hD hS => ?_)
      have q9 : nI ((pOffer ψ set c1 t1).2.2.2.2) = nI ψ.2.2.2.2 := by first | rw [pOffer_new (by omega) (by omega)] | rw [pOffer_less (by omega) h92]
      have hP : va_P D vwCl [(pr, .inr (3, [.ref pqc, .ref pqt, .ref pse, .ref pco, .ref pti, .ref psl, .int (nI ((pOffer ψ set c1 t1).2.2.2.2))])), (pse, aI cA 1597 (fun j => nI (ψ.1 j))), (pco, aJ cA 1597 (fun j => lZ ((va_up ψ.2.1 (ψ.2.2.2.1 (pSlot ψ set) - 1) c1) j))), (pti, aJ cA 1597 (fun j => lZ ((va_up ψ.2.2.1 (ψ.2.2.2.1 (pSlot ψ set) - 1) t1) j))), (psl, aI cA 4096 (fun j => nI (ψ.2.2.2.1 j)))] H := by rw [q9]; exact hP
      have hD : va_D A [(pr, .inr (3, [.ref pqc, .ref pqt, .ref pse, .ref pco, .ref pti, .ref psl, .int (nI ((pOffer ψ set c1 t1).2.2.2.2))])), (pse, aI cA 1597 (fun j => nI (ψ.1 j))), (pco, aJ cA 1597 (fun j => lZ ((va_up ψ.2.1 (ψ.2.2.2.1 (pSlot ψ set) - 1) c1) j))), (pti, aJ cA 1597 (fun j => lZ ((va_up ψ.2.2.1 (ψ.2.2.2.1 (pSlot ψ set) - 1) t1) j))), (psl, aI cA 4096 (fun j => nI (ψ.2.2.2.1 j)))] := by rw [q9]; exact hD
      have q9 : (fun j => nI (((pOffer ψ set c1 t1).1) j)) = (fun j => nI (ψ.1 j)) := by first | rw [pOffer_new (by omega) (by omega)] | rw [pOffer_less (by omega) h92]
      have hP : va_P D vwCl [(pr, .inr (3, [.ref pqc, .ref pqt, .ref pse, .ref pco, .ref pti, .ref psl, .int (nI ((pOffer ψ set c1 t1).2.2.2.2))])), (pse, aI cA 1597 (fun j => nI (((pOffer ψ set c1 t1).1) j))), (pco, aJ cA 1597 (fun j => lZ ((va_up ψ.2.1 (ψ.2.2.2.1 (pSlot ψ set) - 1) c1) j))), (pti, aJ cA 1597 (fun j => lZ ((va_up ψ.2.2.1 (ψ.2.2.2.1 (pSlot ψ set) - 1) t1) j))), (psl, aI cA 4096 (fun j => nI (ψ.2.2.2.1 j)))] H := by rw [q9]; exact hP
      have hD : va_D A [(pr, .inr (3, [.ref pqc, .ref pqt, .ref pse, .ref pco, .ref pti, .ref psl, .int (nI ((pOffer ψ set c1 t1).2.2.2.2))])), (pse, aI cA 1597 (fun j => nI (((pOffer ψ set c1 t1).1) j))), (pco, aJ cA 1597 (fun j => lZ ((va_up ψ.2.1 (ψ.2.2.2.1 (pSlot ψ set) - 1) c1) j))), (pti, aJ cA 1597 (fun j => lZ ((va_up ψ.2.2.1 (ψ.2.2.2.1 (pSlot ψ set) - 1) t1) j))), (psl, aI cA 4096 (fun j => nI (ψ.2.2.2.1 j)))] := by rw [q9]; exact hD
      have q9 : (fun j => lZ (((pOffer ψ set c1 t1).2.1) j)) = (fun j => lZ ((va_up ψ.2.1 (ψ.2.2.2.1 (pSlot ψ set) - 1) c1) j)) := by first | rw [pOffer_new (by omega) (by omega)] | rw [pOffer_less (by omega) h92]
      have hP : va_P D vwCl [(pr, .inr (3, [.ref pqc, .ref pqt, .ref pse, .ref pco, .ref pti, .ref psl, .int (nI ((pOffer ψ set c1 t1).2.2.2.2))])), (pse, aI cA 1597 (fun j => nI (((pOffer ψ set c1 t1).1) j))), (pco, aJ cA 1597 (fun j => lZ (((pOffer ψ set c1 t1).2.1) j))), (pti, aJ cA 1597 (fun j => lZ ((va_up ψ.2.2.1 (ψ.2.2.2.1 (pSlot ψ set) - 1) t1) j))), (psl, aI cA 4096 (fun j => nI (ψ.2.2.2.1 j)))] H := by rw [q9]; exact hP
      have hD : va_D A [(pr, .inr (3, [.ref pqc, .ref pqt, .ref pse, .ref pco, .ref pti, .ref psl, .int (nI ((pOffer ψ set c1 t1).2.2.2.2))])), (pse, aI cA 1597 (fun j => nI (((pOffer ψ set c1 t1).1) j))), (pco, aJ cA 1597 (fun j => lZ (((pOffer ψ set c1 t1).2.1) j))), (pti, aJ cA 1597 (fun j => lZ ((va_up ψ.2.2.1 (ψ.2.2.2.1 (pSlot ψ set) - 1) t1) j))), (psl, aI cA 4096 (fun j => nI (ψ.2.2.2.1 j)))] := by rw [q9]; exact hD
      have q9 : (fun j => lZ (((pOffer ψ set c1 t1).2.2.1) j)) = (fun j => lZ ((va_up ψ.2.2.1 (ψ.2.2.2.1 (pSlot ψ set) - 1) t1) j)) := by first | rw [pOffer_new (by omega) (by omega)] | rw [pOffer_less (by omega) h92]
      have hP : va_P D vwCl [(pr, .inr (3, [.ref pqc, .ref pqt, .ref pse, .ref pco, .ref pti, .ref psl, .int (nI ((pOffer ψ set c1 t1).2.2.2.2))])), (pse, aI cA 1597 (fun j => nI (((pOffer ψ set c1 t1).1) j))), (pco, aJ cA 1597 (fun j => lZ (((pOffer ψ set c1 t1).2.1) j))), (pti, aJ cA 1597 (fun j => lZ (((pOffer ψ set c1 t1).2.2.1) j))), (psl, aI cA 4096 (fun j => nI (ψ.2.2.2.1 j)))] H := by rw [q9]; exact hP
      have hD : va_D A [(pr, .inr (3, [.ref pqc, .ref pqt, .ref pse, .ref pco, .ref pti, .ref psl, .int (nI ((pOffer ψ set c1 t1).2.2.2.2))])), (pse, aI cA 1597 (fun j => nI (((pOffer ψ set c1 t1).1) j))), (pco, aJ cA 1597 (fun j => lZ (((pOffer ψ set c1 t1).2.1) j))), (pti, aJ cA 1597 (fun j => lZ (((pOffer ψ set c1 t1).2.2.1) j))), (psl, aI cA 4096 (fun j => nI (ψ.2.2.2.1 j)))] := by rw [q9]; exact hD
      have q9 : (fun j => nI (((pOffer ψ set c1 t1).2.2.2.1) j)) = (fun j => nI (ψ.2.2.2.1 j)) := by first | rw [pOffer_new (by omega) (by omega)] | rw [pOffer_less (by omega) h92]
      have hP : va_P D vwCl [(pr, .inr (3, [.ref pqc, .ref pqt, .ref pse, .ref pco, .ref pti, .ref psl, .int (nI ((pOffer ψ set c1 t1).2.2.2.2))])), (pse, aI cA 1597 (fun j => nI (((pOffer ψ set c1 t1).1) j))), (pco, aJ cA 1597 (fun j => lZ (((pOffer ψ set c1 t1).2.1) j))), (pti, aJ cA 1597 (fun j => lZ (((pOffer ψ set c1 t1).2.2.1) j))), (psl, aI cA 4096 (fun j => nI (((pOffer ψ set c1 t1).2.2.2.1) j)))] H := by rw [q9]; exact hP
      have hD : va_D A [(pr, .inr (3, [.ref pqc, .ref pqt, .ref pse, .ref pco, .ref pti, .ref psl, .int (nI ((pOffer ψ set c1 t1).2.2.2.2))])), (pse, aI cA 1597 (fun j => nI (((pOffer ψ set c1 t1).1) j))), (pco, aJ cA 1597 (fun j => lZ (((pOffer ψ set c1 t1).2.1) j))), (pti, aJ cA 1597 (fun j => lZ (((pOffer ψ set c1 t1).2.2.1) j))), (psl, aI cA 4096 (fun j => nI (((pOffer ψ set c1 t1).2.2.2.1) j)))] := by rw [q9]; exact hD
      exact z_vretW hx hb hr hlocks hAe hQ (hP) hK (hD) hS dX3_offer_113
    · skip
      have q9 : nI ((pOffer ψ set c1 t1).2.2.2.2) = nI ψ.2.2.2.2 := by rw [pOffer_not (by omega) h92]
      have hP : va_P D vwCl [(pr, .inr (3, [.ref pqc, .ref pqt, .ref pse, .ref pco, .ref pti, .ref psl, .int (nI ((pOffer ψ set c1 t1).2.2.2.2))])), (pse, aI cA 1597 (fun j => nI (ψ.1 j))), (pco, aJ cA 1597 (fun j => lZ (ψ.2.1 j))), (pti, aJ cA 1597 (fun j => lZ (ψ.2.2.1 j))), (psl, aI cA 4096 (fun j => nI (ψ.2.2.2.1 j)))] H := by rw [q9]; exact hP
      have hD : va_D A [(pr, .inr (3, [.ref pqc, .ref pqt, .ref pse, .ref pco, .ref pti, .ref psl, .int (nI ((pOffer ψ set c1 t1).2.2.2.2))])), (pse, aI cA 1597 (fun j => nI (ψ.1 j))), (pco, aJ cA 1597 (fun j => lZ (ψ.2.1 j))), (pti, aJ cA 1597 (fun j => lZ (ψ.2.2.1 j))), (psl, aI cA 4096 (fun j => nI (ψ.2.2.2.1 j)))] := by rw [q9]; exact hD
      have q9 : (fun j => nI (((pOffer ψ set c1 t1).1) j)) = (fun j => nI (ψ.1 j)) := by rw [pOffer_not (by omega) h92]
      have hP : va_P D vwCl [(pr, .inr (3, [.ref pqc, .ref pqt, .ref pse, .ref pco, .ref pti, .ref psl, .int (nI ((pOffer ψ set c1 t1).2.2.2.2))])), (pse, aI cA 1597 (fun j => nI (((pOffer ψ set c1 t1).1) j))), (pco, aJ cA 1597 (fun j => lZ (ψ.2.1 j))), (pti, aJ cA 1597 (fun j => lZ (ψ.2.2.1 j))), (psl, aI cA 4096 (fun j => nI (ψ.2.2.2.1 j)))] H := by rw [q9]; exact hP
      have hD : va_D A [(pr, .inr (3, [.ref pqc, .ref pqt, .ref pse, .ref pco, .ref pti, .ref psl, .int (nI ((pOffer ψ set c1 t1).2.2.2.2))])), (pse, aI cA 1597 (fun j => nI (((pOffer ψ set c1 t1).1) j))), (pco, aJ cA 1597 (fun j => lZ (ψ.2.1 j))), (pti, aJ cA 1597 (fun j => lZ (ψ.2.2.1 j))), (psl, aI cA 4096 (fun j => nI (ψ.2.2.2.1 j)))] := by rw [q9]; exact hD
      have q9 : (fun j => lZ (((pOffer ψ set c1 t1).2.1) j)) = (fun j => lZ (ψ.2.1 j)) := by rw [pOffer_not (by omega) h92]
      have hP : va_P D vwCl [(pr, .inr (3, [.ref pqc, .ref pqt, .ref pse, .ref pco, .ref pti, .ref psl, .int (nI ((pOffer ψ set c1 t1).2.2.2.2))])), (pse, aI cA 1597 (fun j => nI (((pOffer ψ set c1 t1).1) j))), (pco, aJ cA 1597 (fun j => lZ (((pOffer ψ set c1 t1).2.1) j))), (pti, aJ cA 1597 (fun j => lZ (ψ.2.2.1 j))), (psl, aI cA 4096 (fun j => nI (ψ.2.2.2.1 j)))] H := by rw [q9]; exact hP
      have hD : va_D A [(pr, .inr (3, [.ref pqc, .ref pqt, .ref pse, .ref pco, .ref pti, .ref psl, .int (nI ((pOffer ψ set c1 t1).2.2.2.2))])), (pse, aI cA 1597 (fun j => nI (((pOffer ψ set c1 t1).1) j))), (pco, aJ cA 1597 (fun j => lZ (((pOffer ψ set c1 t1).2.1) j))), (pti, aJ cA 1597 (fun j => lZ (ψ.2.2.1 j))), (psl, aI cA 4096 (fun j => nI (ψ.2.2.2.1 j)))] := by rw [q9]; exact hD
      have q9 : (fun j => lZ (((pOffer ψ set c1 t1).2.2.1) j)) = (fun j => lZ (ψ.2.2.1 j)) := by rw [pOffer_not (by omega) h92]
      have hP : va_P D vwCl [(pr, .inr (3, [.ref pqc, .ref pqt, .ref pse, .ref pco, .ref pti, .ref psl, .int (nI ((pOffer ψ set c1 t1).2.2.2.2))])), (pse, aI cA 1597 (fun j => nI (((pOffer ψ set c1 t1).1) j))), (pco, aJ cA 1597 (fun j => lZ (((pOffer ψ set c1 t1).2.1) j))), (pti, aJ cA 1597 (fun j => lZ (((pOffer ψ set c1 t1).2.2.1) j))), (psl, aI cA 4096 (fun j => nI (ψ.2.2.2.1 j)))] H := by rw [q9]; exact hP
      have hD : va_D A [(pr, .inr (3, [.ref pqc, .ref pqt, .ref pse, .ref pco, .ref pti, .ref psl, .int (nI ((pOffer ψ set c1 t1).2.2.2.2))])), (pse, aI cA 1597 (fun j => nI (((pOffer ψ set c1 t1).1) j))), (pco, aJ cA 1597 (fun j => lZ (((pOffer ψ set c1 t1).2.1) j))), (pti, aJ cA 1597 (fun j => lZ (((pOffer ψ set c1 t1).2.2.1) j))), (psl, aI cA 4096 (fun j => nI (ψ.2.2.2.1 j)))] := by rw [q9]; exact hD
      have q9 : (fun j => nI (((pOffer ψ set c1 t1).2.2.2.1) j)) = (fun j => nI (ψ.2.2.2.1 j)) := by rw [pOffer_not (by omega) h92]
      have hP : va_P D vwCl [(pr, .inr (3, [.ref pqc, .ref pqt, .ref pse, .ref pco, .ref pti, .ref psl, .int (nI ((pOffer ψ set c1 t1).2.2.2.2))])), (pse, aI cA 1597 (fun j => nI (((pOffer ψ set c1 t1).1) j))), (pco, aJ cA 1597 (fun j => lZ (((pOffer ψ set c1 t1).2.1) j))), (pti, aJ cA 1597 (fun j => lZ (((pOffer ψ set c1 t1).2.2.1) j))), (psl, aI cA 4096 (fun j => nI (((pOffer ψ set c1 t1).2.2.2.1) j)))] H := by rw [q9]; exact hP
      have hD : va_D A [(pr, .inr (3, [.ref pqc, .ref pqt, .ref pse, .ref pco, .ref pti, .ref psl, .int (nI ((pOffer ψ set c1 t1).2.2.2.2))])), (pse, aI cA 1597 (fun j => nI (((pOffer ψ set c1 t1).1) j))), (pco, aJ cA 1597 (fun j => lZ (((pOffer ψ set c1 t1).2.1) j))), (pti, aJ cA 1597 (fun j => lZ (((pOffer ψ set c1 t1).2.2.1) j))), (psl, aI cA 4096 (fun j => nI (((pOffer ψ set c1 t1).2.2.2.1) j)))] := by rw [q9]; exact hD
      exact z_vretW hx hb hr hlocks hAe hQ (hP) hK (hD) hS dX3_offer_95
  · skip
    refine lv_aload_n hx hb dX3_offer_23 rfl (lv_at hl 2 rfl) ?_
    refine va_get (D := D) (ci := 3) (v := .int (nI ψ.2.2.2.2)) (C := RX3) (T := TX3) (N := 7) hx hb hts hin3 hown hK hP 0 rfl rfl 6 (by decide) (hts (.fieldLink RX3 33 "TourHouse$Pairing" "count" "I") (by decide +kernel)) (fun _ h9 => h9) rfl dX3_offer_24 ?_
    refine lv_sipush (v := nI 1597) hx hb dX3_offer_27 (by decide) ?_
    refine z_lt hx hb (Nat.lt_of_le_of_lt hI.2.2.1 (by decide)) (by decide) (tgt := 34) dX3_offer_30 (by decide) (fun h30 => ?_) (fun h30 => ?_)
    · skip
      refine lv_aload_n hx hb dX3_offer_34 rfl (lv_at hl 2 rfl) ?_
      refine va_get (D := D) (ci := 3) (v := .int (nI ψ.2.2.2.2)) (C := RX3) (T := TX3) (N := 7) hx hb hts hin3 hown hK hP 0 rfl rfl 6 (by decide) (hts (.fieldLink RX3 33 "TourHouse$Pairing" "count" "I") (by decide +kernel)) (fun _ h9 => h9) rfl dX3_offer_35 ?_
      refine lv_istore (lv' := [(7, .int (nI ψ.2.2.2.2)), (6, .int (nI (pSlot ψ set))), (0, .ref pr), (1, .int (nI set)), (2, .long (lZ c1)), (4, .long (lZ t1))]) hx hb dX3_offer_38 hl (by decide) rfl (fun ls hl => ?_)
      refine lv_aload_n hx hb dX3_offer_40 rfl (lv_at hl 2 rfl) ?_
      refine lv_dup hx hb dX3_offer_41 rfl ?_
      refine va_get (D := D) (ci := 3) (v := .int (nI ψ.2.2.2.2)) (C := RX3) (T := TX3) (N := 7) hx hb hts hin3 hown hK hP 0 rfl rfl 6 (by decide) (hts (.fieldLink RX3 33 "TourHouse$Pairing" "count" "I") (by decide +kernel)) (fun _ h9 => h9) rfl dX3_offer_42 ?_
      refine lv_iconst (v := nI 1) hx hb dX3_offer_45 (by decide) ?_
      refine lv_iadd hx hb dX3_offer_46 ?_
      refine z_topi (v := nI (ψ.2.2.2.2 + 1)) (nI_add ψ.2.2.2.2 1) ?_
      refine va_put (D := D) (ci := 3) (v := .int (nI (ψ.2.2.2.2 + 1))) (ty := .int) (C := RX3) (T := TX3) (N := 7) hx hb hts hin3 tyX3 tyX3_ok nmX3 hown hK hP hD hS 0 rfl rfl 6 (by decide) (hts (.fieldLink RX3 33 "TourHouse$Pairing" "count" "I") (by decide +kernel)) (fun _ h9 => h9) rfl (by decide +kernel) (rfl) (rfl) (Nat.le_of_ble_eq_true rfl) dX3_offer_47 (fun H locs hP hD hS => ?_)
      have hP : va_P D vwCl [(pr, .inr (3, [.ref pqc, .ref pqt, .ref pse, .ref pco, .ref pti, .ref psl, .int (nI (ψ.2.2.2.2 + 1))])), (pse, aI cA 1597 (fun j => nI (ψ.1 j))), (pco, aJ cA 1597 (fun j => lZ (ψ.2.1 j))), (pti, aJ cA 1597 (fun j => lZ (ψ.2.2.1 j))), (psl, aI cA 4096 (fun j => nI (ψ.2.2.2.1 j)))] H := hP
      have hD : va_D A [(pr, .inr (3, [.ref pqc, .ref pqt, .ref pse, .ref pco, .ref pti, .ref psl, .int (nI (ψ.2.2.2.2 + 1))])), (pse, aI cA 1597 (fun j => nI (ψ.1 j))), (pco, aJ cA 1597 (fun j => lZ (ψ.2.1 j))), (pti, aJ cA 1597 (fun j => lZ (ψ.2.2.1 j))), (psl, aI cA 4096 (fun j => nI (ψ.2.2.2.1 j)))] := hD
      refine lv_aload_n hx hb dX3_offer_50 rfl (lv_at hl 2 rfl) ?_
      refine va_get (D := D) (ci := 3) (v := .ref psl) (C := RX3) (T := TX3) (N := 7) hx hb hts hin3 hown hK hP 0 rfl rfl 5 (by decide) (hts (.fieldLink RX3 30 "TourHouse$Pairing" "slots" "[I") (by decide +kernel)) (fun _ h9 => h9) rfl dX3_offer_51 ?_
      refine lv_iload hx hb dX3_offer_54 (lv_at hl 1 rfl) ?_
      refine lv_aload_n hx hb dX3_offer_56 rfl (lv_at hl 2 rfl) ?_
      refine va_get (D := D) (ci := 3) (v := .int (nI (ψ.2.2.2.2 + 1))) (C := RX3) (T := TX3) (N := 7) hx hb hts hin3 hown hK hP 0 rfl rfl 6 (by decide) (hts (.fieldLink RX3 33 "TourHouse$Pairing" "count" "I") (by decide +kernel)) (fun _ h9 => h9) rfl dX3_offer_57 ?_
      refine z_iast hx hb hK hP hD hS 4 0 rfl rfl (k := (pSlot ψ set)) (pSlot_lt ψ set) (by decide) (f' := (fun j => nI ((va_up ψ.2.2.2.1 (pSlot ψ set) (ψ.2.2.2.2 + 1)) j))) (upd_nI _ _ _) (ws' := [(pr, .inr (3, [.ref pqc, .ref pqt, .ref pse, .ref pco, .ref pti, .ref psl, .int (nI (ψ.2.2.2.2 + 1))])), (pse, aI cA 1597 (fun j => nI (ψ.1 j))), (pco, aJ cA 1597 (fun j => lZ (ψ.2.1 j))), (pti, aJ cA 1597 (fun j => lZ (ψ.2.2.1 j))), (psl, aI cA 4096 (fun j => nI ((va_up ψ.2.2.2.1 (pSlot ψ set) (ψ.2.2.2.2 + 1)) j)))]) rfl dX3_offer_60 (fun H locs hP hD hS => ?_)
      refine lv_aload_n hx hb dX3_offer_61 rfl (lv_at hl 2 rfl) ?_
      refine va_get (D := D) (ci := 3) (v := .ref pse) (C := RX3) (T := TX3) (N := 7) hx hb hts hin3 hown hK hP 0 rfl rfl 2 (by decide) (hts (.fieldLink RX3 19 "TourHouse$Pairing" "sets" "[I") (by decide +kernel)) (fun _ h9 => h9) rfl dX3_offer_62 ?_
      refine lv_iload hx hb dX3_offer_65 (lv_at hl 0 rfl) ?_
      refine lv_iload_n hx hb dX3_offer_67 rfl (lv_at hl 3 rfl) ?_
      refine z_iast hx hb hK hP hD hS 1 0 rfl rfl (k := ψ.2.2.2.2) (by omega) (by decide) (f' := (fun j => nI ((va_up ψ.1 ψ.2.2.2.2 set) j))) (upd_nI _ _ _) (ws' := [(pr, .inr (3, [.ref pqc, .ref pqt, .ref pse, .ref pco, .ref pti, .ref psl, .int (nI (ψ.2.2.2.2 + 1))])), (pse, aI cA 1597 (fun j => nI ((va_up ψ.1 ψ.2.2.2.2 set) j))), (pco, aJ cA 1597 (fun j => lZ (ψ.2.1 j))), (pti, aJ cA 1597 (fun j => lZ (ψ.2.2.1 j))), (psl, aI cA 4096 (fun j => nI ((va_up ψ.2.2.2.1 (pSlot ψ set) (ψ.2.2.2.2 + 1)) j)))]) rfl dX3_offer_68 (fun H locs hP hD hS => ?_)
      refine lv_goto (tgt := 96) hx hb dX3_offer_69 (by decide) ?_
      refine lv_aload_n hx hb dX3_offer_96 rfl (lv_at hl 2 rfl) ?_
      refine va_get (D := D) (ci := 3) (v := .ref pco) (C := RX3) (T := TX3) (N := 7) hx hb hts hin3 hown hK hP 0 rfl rfl 3 (by decide) (hts (.fieldLink RX3 23 "TourHouse$Pairing" "cost" "[J") (by decide +kernel)) (fun _ h9 => h9) rfl dX3_offer_97 ?_
      refine lv_iload hx hb dX3_offer_100 (lv_at hl 0 rfl) ?_
      refine lv_lload_n hx hb dX3_offer_102 rfl (lv_at hl 4 rfl) ?_
      refine z_last hx hb hK hP hD hS 2 1 rfl rfl (k := ψ.2.2.2.2) (by have := hI.1 (pSlot ψ set); omega) (by decide) (f' := (fun j => lZ ((va_up ψ.2.1 ψ.2.2.2.2 c1) j))) (updL_lZ _ _ _) (ws' := [(pr, .inr (3, [.ref pqc, .ref pqt, .ref pse, .ref pco, .ref pti, .ref psl, .int (nI (ψ.2.2.2.2 + 1))])), (pse, aI cA 1597 (fun j => nI ((va_up ψ.1 ψ.2.2.2.2 set) j))), (pco, aJ cA 1597 (fun j => lZ ((va_up ψ.2.1 ψ.2.2.2.2 c1) j))), (pti, aJ cA 1597 (fun j => lZ (ψ.2.2.1 j))), (psl, aI cA 4096 (fun j => nI ((va_up ψ.2.2.2.1 (pSlot ψ set) (ψ.2.2.2.2 + 1)) j)))]) rfl dX3_offer_103 (fun H locs hP hD hS => ?_)
      refine lv_aload_n hx hb dX3_offer_104 rfl (lv_at hl 2 rfl) ?_
      refine va_get (D := D) (ci := 3) (v := .ref pti) (C := RX3) (T := TX3) (N := 7) hx hb hts hin3 hown hK hP 0 rfl rfl 4 (by decide) (hts (.fieldLink RX3 27 "TourHouse$Pairing" "tie" "[J") (by decide +kernel)) (fun _ h9 => h9) rfl dX3_offer_105 ?_
      refine lv_iload hx hb dX3_offer_108 (lv_at hl 0 rfl) ?_
      refine lv_lload hx hb dX3_offer_110 (lv_at hl 5 rfl) ?_
      refine z_last hx hb hK hP hD hS 3 1 rfl rfl (k := ψ.2.2.2.2) (by have := hI.1 (pSlot ψ set); omega) (by decide) (f' := (fun j => lZ ((va_up ψ.2.2.1 ψ.2.2.2.2 t1) j))) (updL_lZ _ _ _) (ws' := [(pr, .inr (3, [.ref pqc, .ref pqt, .ref pse, .ref pco, .ref pti, .ref psl, .int (nI (ψ.2.2.2.2 + 1))])), (pse, aI cA 1597 (fun j => nI ((va_up ψ.1 ψ.2.2.2.2 set) j))), (pco, aJ cA 1597 (fun j => lZ ((va_up ψ.2.1 ψ.2.2.2.2 c1) j))), (pti, aJ cA 1597 (fun j => lZ ((va_up ψ.2.2.1 ψ.2.2.2.2 t1) j))), (psl, aI cA 4096 (fun j => nI ((va_up ψ.2.2.2.1 (pSlot ψ set) (ψ.2.2.2.2 + 1)) j)))]) rfl dX3_offer_112 (fun H locs hP hD hS => ?_)
      have q9 : nI ((pOffer ψ set c1 t1).2.2.2.2) = nI (ψ.2.2.2.2 + 1) := by first | rw [pOffer_new (by omega) (by omega)] | rw [pOffer_less (by omega) h92]
      have hP : va_P D vwCl [(pr, .inr (3, [.ref pqc, .ref pqt, .ref pse, .ref pco, .ref pti, .ref psl, .int (nI ((pOffer ψ set c1 t1).2.2.2.2))])), (pse, aI cA 1597 (fun j => nI ((va_up ψ.1 ψ.2.2.2.2 set) j))), (pco, aJ cA 1597 (fun j => lZ ((va_up ψ.2.1 ψ.2.2.2.2 c1) j))), (pti, aJ cA 1597 (fun j => lZ ((va_up ψ.2.2.1 ψ.2.2.2.2 t1) j))), (psl, aI cA 4096 (fun j => nI ((va_up ψ.2.2.2.1 (pSlot ψ set) (ψ.2.2.2.2 + 1)) j)))] H := by rw [q9]; exact hP
      have hD : va_D A [(pr, .inr (3, [.ref pqc, .ref pqt, .ref pse, .ref pco, .ref pti, .ref psl, .int (nI ((pOffer ψ set c1 t1).2.2.2.2))])), (pse, aI cA 1597 (fun j => nI ((va_up ψ.1 ψ.2.2.2.2 set) j))), (pco, aJ cA 1597 (fun j => lZ ((va_up ψ.2.1 ψ.2.2.2.2 c1) j))), (pti, aJ cA 1597 (fun j => lZ ((va_up ψ.2.2.1 ψ.2.2.2.2 t1) j))), (psl, aI cA 4096 (fun j => nI ((va_up ψ.2.2.2.1 (pSlot ψ set) (ψ.2.2.2.2 + 1)) j)))] := by rw [q9]; exact hD
      have q9 : (fun j => nI (((pOffer ψ set c1 t1).1) j)) = (fun j => nI ((va_up ψ.1 ψ.2.2.2.2 set) j)) := by first | rw [pOffer_new (by omega) (by omega)] | rw [pOffer_less (by omega) h92]
      have hP : va_P D vwCl [(pr, .inr (3, [.ref pqc, .ref pqt, .ref pse, .ref pco, .ref pti, .ref psl, .int (nI ((pOffer ψ set c1 t1).2.2.2.2))])), (pse, aI cA 1597 (fun j => nI (((pOffer ψ set c1 t1).1) j))), (pco, aJ cA 1597 (fun j => lZ ((va_up ψ.2.1 ψ.2.2.2.2 c1) j))), (pti, aJ cA 1597 (fun j => lZ ((va_up ψ.2.2.1 ψ.2.2.2.2 t1) j))), (psl, aI cA 4096 (fun j => nI ((va_up ψ.2.2.2.1 (pSlot ψ set) (ψ.2.2.2.2 + 1)) j)))] H := by rw [q9]; exact hP
      have hD : va_D A [(pr, .inr (3, [.ref pqc, .ref pqt, .ref pse, .ref pco, .ref pti, .ref psl, .int (nI ((pOffer ψ set c1 t1).2.2.2.2))])), (pse, aI cA 1597 (fun j => nI (((pOffer ψ set c1 t1).1) j))), (pco, aJ cA 1597 (fun j => lZ ((va_up ψ.2.1 ψ.2.2.2.2 c1) j))), (pti, aJ cA 1597 (fun j => lZ ((va_up ψ.2.2.1 ψ.2.2.2.2 t1) j))), (psl, aI cA 4096 (fun j => nI ((va_up ψ.2.2.2.1 (pSlot ψ set) (ψ.2.2.2.2 + 1)) j)))] := by rw [q9]; exact hD
      have q9 : (fun j => lZ (((pOffer ψ set c1 t1).2.1) j)) = (fun j => lZ ((va_up ψ.2.1 ψ.2.2.2.2 c1) j)) := by first | rw [pOffer_new (by omega) (by omega)] | rw [pOffer_less (by omega) h92]
      have hP : va_P D vwCl [(pr, .inr (3, [.ref pqc, .ref pqt, .ref pse, .ref pco, .ref pti, .ref psl, .int (nI ((pOffer ψ set c1 t1).2.2.2.2))])), (pse, aI cA 1597 (fun j => nI (((pOffer ψ set c1 t1).1) j))), (pco, aJ cA 1597 (fun j => lZ (((pOffer ψ set c1 t1).2.1) j))), (pti, aJ cA 1597 (fun j => lZ ((va_up ψ.2.2.1 ψ.2.2.2.2 t1) j))), (psl, aI cA 4096 (fun j => nI ((va_up ψ.2.2.2.1 (pSlot ψ set) (ψ.2.2.2.2 + 1)) j)))] H := by rw [q9]; exact hP
      have hD : va_D A [(pr, .inr (3, [.ref pqc, .ref pqt, .ref pse, .ref pco, .ref pti, .ref psl, .int (nI ((pOffer ψ set c1 t1).2.2.2.2))])), (pse, aI cA 1597 (fun j => nI (((pOffer ψ set c1 t1).1) j))), (pco, aJ cA 1597 (fun j => lZ (((pOffer ψ set c1 t1).2.1) j))), (pti, aJ cA 1597 (fun j => lZ ((va_up ψ.2.2.1 ψ.2.2.2.2 t1) j))), (psl, aI cA 4096 (fun j => nI ((va_up ψ.2.2.2.1 (pSlot ψ set) (ψ.2.2.2.2 + 1)) j)))] := by rw [q9]; exact hD
      have q9 : (fun j => lZ (((pOffer ψ set c1 t1).2.2.1) j)) = (fun j => lZ ((va_up ψ.2.2.1 ψ.2.2.2.2 t1) j)) := by first | rw [pOffer_new (by omega) (by omega)] | rw [pOffer_less (by omega) h92]
      have hP : va_P D vwCl [(pr, .inr (3, [.ref pqc, .ref pqt, .ref pse, .ref pco, .ref pti, .ref psl, .int (nI ((pOffer ψ set c1 t1).2.2.2.2))])), (pse, aI cA 1597 (fun j => nI (((pOffer ψ set c1 t1).1) j))), (pco, aJ cA 1597 (fun j => lZ (((pOffer ψ set c1 t1).2.1) j))), (pti, aJ cA 1597 (fun j => lZ (((pOffer ψ set c1 t1).2.2.1) j))), (psl, aI cA 4096 (fun j => nI ((va_up ψ.2.2.2.1 (pSlot ψ set) (ψ.2.2.2.2 + 1)) j)))] H := by rw [q9]; exact hP
      have hD : va_D A [(pr, .inr (3, [.ref pqc, .ref pqt, .ref pse, .ref pco, .ref pti, .ref psl, .int (nI ((pOffer ψ set c1 t1).2.2.2.2))])), (pse, aI cA 1597 (fun j => nI (((pOffer ψ set c1 t1).1) j))), (pco, aJ cA 1597 (fun j => lZ (((pOffer ψ set c1 t1).2.1) j))), (pti, aJ cA 1597 (fun j => lZ (((pOffer ψ set c1 t1).2.2.1) j))), (psl, aI cA 4096 (fun j => nI ((va_up ψ.2.2.2.1 (pSlot ψ set) (ψ.2.2.2.2 + 1)) j)))] := by rw [q9]; exact hD
      have q9 : (fun j => nI (((pOffer ψ set c1 t1).2.2.2.1) j)) = (fun j => nI ((va_up ψ.2.2.2.1 (pSlot ψ set) (ψ.2.2.2.2 + 1)) j)) := by first | rw [pOffer_new (by omega) (by omega)] | rw [pOffer_less (by omega) h92]
      have hP : va_P D vwCl [(pr, .inr (3, [.ref pqc, .ref pqt, .ref pse, .ref pco, .ref pti, .ref psl, .int (nI ((pOffer ψ set c1 t1).2.2.2.2))])), (pse, aI cA 1597 (fun j => nI (((pOffer ψ set c1 t1).1) j))), (pco, aJ cA 1597 (fun j => lZ (((pOffer ψ set c1 t1).2.1) j))), (pti, aJ cA 1597 (fun j => lZ (((pOffer ψ set c1 t1).2.2.1) j))), (psl, aI cA 4096 (fun j => nI (((pOffer ψ set c1 t1).2.2.2.1) j)))] H := by rw [q9]; exact hP
      have hD : va_D A [(pr, .inr (3, [.ref pqc, .ref pqt, .ref pse, .ref pco, .ref pti, .ref psl, .int (nI ((pOffer ψ set c1 t1).2.2.2.2))])), (pse, aI cA 1597 (fun j => nI (((pOffer ψ set c1 t1).1) j))), (pco, aJ cA 1597 (fun j => lZ (((pOffer ψ set c1 t1).2.1) j))), (pti, aJ cA 1597 (fun j => lZ (((pOffer ψ set c1 t1).2.2.1) j))), (psl, aI cA 4096 (fun j => nI (((pOffer ψ set c1 t1).2.2.2.1) j)))] := by rw [q9]; exact hD
      exact z_vretW hx hb hr hlocks hAe hQ (hP) hK (hD) hS dX3_offer_113
    · skip
      have q9 : nI ((pOffer ψ set c1 t1).2.2.2.2) = nI ψ.2.2.2.2 := by rw [pOffer_full (by omega) (by omega)]
      have hP : va_P D vwCl [(pr, .inr (3, [.ref pqc, .ref pqt, .ref pse, .ref pco, .ref pti, .ref psl, .int (nI ((pOffer ψ set c1 t1).2.2.2.2))])), (pse, aI cA 1597 (fun j => nI (ψ.1 j))), (pco, aJ cA 1597 (fun j => lZ (ψ.2.1 j))), (pti, aJ cA 1597 (fun j => lZ (ψ.2.2.1 j))), (psl, aI cA 4096 (fun j => nI (ψ.2.2.2.1 j)))] H := by rw [q9]; exact hP
      have hD : va_D A [(pr, .inr (3, [.ref pqc, .ref pqt, .ref pse, .ref pco, .ref pti, .ref psl, .int (nI ((pOffer ψ set c1 t1).2.2.2.2))])), (pse, aI cA 1597 (fun j => nI (ψ.1 j))), (pco, aJ cA 1597 (fun j => lZ (ψ.2.1 j))), (pti, aJ cA 1597 (fun j => lZ (ψ.2.2.1 j))), (psl, aI cA 4096 (fun j => nI (ψ.2.2.2.1 j)))] := by rw [q9]; exact hD
      have q9 : (fun j => nI (((pOffer ψ set c1 t1).1) j)) = (fun j => nI (ψ.1 j)) := by rw [pOffer_full (by omega) (by omega)]
      have hP : va_P D vwCl [(pr, .inr (3, [.ref pqc, .ref pqt, .ref pse, .ref pco, .ref pti, .ref psl, .int (nI ((pOffer ψ set c1 t1).2.2.2.2))])), (pse, aI cA 1597 (fun j => nI (((pOffer ψ set c1 t1).1) j))), (pco, aJ cA 1597 (fun j => lZ (ψ.2.1 j))), (pti, aJ cA 1597 (fun j => lZ (ψ.2.2.1 j))), (psl, aI cA 4096 (fun j => nI (ψ.2.2.2.1 j)))] H := by rw [q9]; exact hP
      have hD : va_D A [(pr, .inr (3, [.ref pqc, .ref pqt, .ref pse, .ref pco, .ref pti, .ref psl, .int (nI ((pOffer ψ set c1 t1).2.2.2.2))])), (pse, aI cA 1597 (fun j => nI (((pOffer ψ set c1 t1).1) j))), (pco, aJ cA 1597 (fun j => lZ (ψ.2.1 j))), (pti, aJ cA 1597 (fun j => lZ (ψ.2.2.1 j))), (psl, aI cA 4096 (fun j => nI (ψ.2.2.2.1 j)))] := by rw [q9]; exact hD
      have q9 : (fun j => lZ (((pOffer ψ set c1 t1).2.1) j)) = (fun j => lZ (ψ.2.1 j)) := by rw [pOffer_full (by omega) (by omega)]
      have hP : va_P D vwCl [(pr, .inr (3, [.ref pqc, .ref pqt, .ref pse, .ref pco, .ref pti, .ref psl, .int (nI ((pOffer ψ set c1 t1).2.2.2.2))])), (pse, aI cA 1597 (fun j => nI (((pOffer ψ set c1 t1).1) j))), (pco, aJ cA 1597 (fun j => lZ (((pOffer ψ set c1 t1).2.1) j))), (pti, aJ cA 1597 (fun j => lZ (ψ.2.2.1 j))), (psl, aI cA 4096 (fun j => nI (ψ.2.2.2.1 j)))] H := by rw [q9]; exact hP
      have hD : va_D A [(pr, .inr (3, [.ref pqc, .ref pqt, .ref pse, .ref pco, .ref pti, .ref psl, .int (nI ((pOffer ψ set c1 t1).2.2.2.2))])), (pse, aI cA 1597 (fun j => nI (((pOffer ψ set c1 t1).1) j))), (pco, aJ cA 1597 (fun j => lZ (((pOffer ψ set c1 t1).2.1) j))), (pti, aJ cA 1597 (fun j => lZ (ψ.2.2.1 j))), (psl, aI cA 4096 (fun j => nI (ψ.2.2.2.1 j)))] := by rw [q9]; exact hD
      have q9 : (fun j => lZ (((pOffer ψ set c1 t1).2.2.1) j)) = (fun j => lZ (ψ.2.2.1 j)) := by rw [pOffer_full (by omega) (by omega)]
      have hP : va_P D vwCl [(pr, .inr (3, [.ref pqc, .ref pqt, .ref pse, .ref pco, .ref pti, .ref psl, .int (nI ((pOffer ψ set c1 t1).2.2.2.2))])), (pse, aI cA 1597 (fun j => nI (((pOffer ψ set c1 t1).1) j))), (pco, aJ cA 1597 (fun j => lZ (((pOffer ψ set c1 t1).2.1) j))), (pti, aJ cA 1597 (fun j => lZ (((pOffer ψ set c1 t1).2.2.1) j))), (psl, aI cA 4096 (fun j => nI (ψ.2.2.2.1 j)))] H := by rw [q9]; exact hP
      have hD : va_D A [(pr, .inr (3, [.ref pqc, .ref pqt, .ref pse, .ref pco, .ref pti, .ref psl, .int (nI ((pOffer ψ set c1 t1).2.2.2.2))])), (pse, aI cA 1597 (fun j => nI (((pOffer ψ set c1 t1).1) j))), (pco, aJ cA 1597 (fun j => lZ (((pOffer ψ set c1 t1).2.1) j))), (pti, aJ cA 1597 (fun j => lZ (((pOffer ψ set c1 t1).2.2.1) j))), (psl, aI cA 4096 (fun j => nI (ψ.2.2.2.1 j)))] := by rw [q9]; exact hD
      have q9 : (fun j => nI (((pOffer ψ set c1 t1).2.2.2.1) j)) = (fun j => nI (ψ.2.2.2.1 j)) := by rw [pOffer_full (by omega) (by omega)]
      have hP : va_P D vwCl [(pr, .inr (3, [.ref pqc, .ref pqt, .ref pse, .ref pco, .ref pti, .ref psl, .int (nI ((pOffer ψ set c1 t1).2.2.2.2))])), (pse, aI cA 1597 (fun j => nI (((pOffer ψ set c1 t1).1) j))), (pco, aJ cA 1597 (fun j => lZ (((pOffer ψ set c1 t1).2.1) j))), (pti, aJ cA 1597 (fun j => lZ (((pOffer ψ set c1 t1).2.2.1) j))), (psl, aI cA 4096 (fun j => nI (((pOffer ψ set c1 t1).2.2.2.1) j)))] H := by rw [q9]; exact hP
      have hD : va_D A [(pr, .inr (3, [.ref pqc, .ref pqt, .ref pse, .ref pco, .ref pti, .ref psl, .int (nI ((pOffer ψ set c1 t1).2.2.2.2))])), (pse, aI cA 1597 (fun j => nI (((pOffer ψ set c1 t1).1) j))), (pco, aJ cA 1597 (fun j => lZ (((pOffer ψ set c1 t1).2.1) j))), (pti, aJ cA 1597 (fun j => lZ (((pOffer ψ set c1 t1).2.2.1) j))), (psl, aI cA 4096 (fun j => nI (((pOffer ψ set c1 t1).2.2.2.1) j)))] := by rw [q9]; exact hD
      exact z_vretW hx hb hr hlocks hAe hQ (hP) hK (hD) hS dX3_offer_33
set_option maxHeartbeats 4000000 in
set_option maxRecDepth 100000 in
/-- TourHouse.leastOf -/
theorem c_X5_leastOf (l : Launch) (D : va_G) (cA : Nat → ClassId) (set : Nat) (hset : set < 65536) : Met l yX5_leastOf wsX5_leastOf ({ frames := 0, cells := 0, slots := 0, locals := 0 } : Room) (zRd D vwCl (zT cA) [] [.int (nI set)]) (vp_Si (fun r => r = iZ (pLo set 16))) 0 0 (fun _ => False) := by
  refine z_read (cc := cX5_leastOf) (maxL := 2) (ret := (some .int)) (by decide) rfl (Nat.le_of_ble_eq_true rfl) ?_
  intro p e s m below meth c hx hb hr hml hown hts hlocks hP hK Q hQ ls hl
  have hown : s.vm.findClass RX5 = some m.cls := hown
  have hl : lv_has ls 2 [(0, .int (nI set))] := hl
  generalize hav : ([.int (nI set)] : List Value).toArray = args at hts hQ ⊢
  refine lv_iconst (v := nI 0) hx hb dX5_leastOf_0 (by decide) ?_
  refine lv_istore_n (lv' := [(1, .int (nI 0)), (0, .int (nI set))]) hx hb dX5_leastOf_1 rfl hl (by decide) rfl (fun ls hl => ?_)
  have J2 : ∀ (n : Nat), ∀ (i : Nat), (i ≤ 16) → (pLo set (16 - i) = pLo set 16) → 16 - i < n → ∀ (ls : Array Slot), lv_has ls 2 [(0, .int (nI set)), (1, .int (nI i))] → W p l e ({ frames := 0, cells := 0, slots := 0, locals := 0 } : Room) s m args below meth c s.heap [] 0 0 Q (F0 m 2 ls []) := by
    intro n2
    induction n2 with
    | zero => intro i hi hq hn; exact absurd hn (Nat.not_lt_zero _)
    | succ n2 ih2 =>
      intro i hi hq hn2 ls hl
      refine lv_iload_n hx hb dX5_leastOf_2 rfl (lv_at hl 1 rfl) ?_
      refine lv_bipush (v := nI 16) hx hb dX5_leastOf_3 (by decide) ?_
      refine z_ge hx hb (by omega) (by decide) (tgt := 25) dX5_leastOf_5 (by decide) (fun h5 => ?_) (fun h5 => ?_)
      · skip
        refine lv_iconst (v := iZ (-1)) hx hb dX5_leastOf_25 (by decide) ?_
        exact z_iretR hx hb hr hlocks hQ (by rw [← hq, show 16 - i = 0 from by omega]; rfl) dX5_leastOf_26 rfl rfl
      · skip
        refine lv_iload_n hx hb dX5_leastOf_8 rfl (lv_at hl 0 rfl) ?_
        refine lv_iload_n hx hb dX5_leastOf_9 rfl (lv_at hl 1 rfl) ?_
        refine lv_ishr hx hb dX5_leastOf_10 ?_
        refine z_topi (v := nI (set / 2 ^ i)) (nb_shr (by omega) (by omega)) ?_
        refine lv_iconst (v := nI 1) hx hb dX5_leastOf_11 (by decide) ?_
        refine lv_iand hx hb dX5_leastOf_12 ?_
        refine z_topi (v := nI ((set / 2 ^ i) % 2)) (nb_and1 (set / 2 ^ i)) ?_
        refine lv_iconst (v := nI 1) hx hb dX5_leastOf_13 (by decide) ?_
        refine z_ne hx hb (by omega) (by decide) (tgt := 19) dX5_leastOf_14 (by decide) (fun h14 => ?_) (fun h14 => ?_)
        · skip
          refine lv_iinc (v := nI (i + 1)) (lv' := [(1, .int (nI (i + 1))), (0, .int (nI set))]) hx hb dX5_leastOf_19 hl (k := 1) rfl (nI_1 i) (by decide) rfl (fun ls hl => ?_)
          refine lv_goto (tgt := 2) hx hb dX5_leastOf_22 (by decide) ?_
          exact ih2 (i + 1) (by omega) (by rw [← hq, show 16 - i = (16 - (i + 1)) + 1 from by omega, pLo, show 16 - (16 - (i + 1) + 1) = i from by omega, if_neg h14]) (by omega) ls (lv_sub hl [1, 0] (by rfl))
        · skip
          refine lv_iload_n hx hb dX5_leastOf_17 rfl (lv_at hl 1 rfl) ?_
          exact z_iretR hx hb hr hlocks hQ (by rw [← hq, show 16 - i = (16 - (i + 1)) + 1 from by omega, pLo, show 16 - (16 - (i + 1) + 1) = i from by omega, if_pos h14]; rfl) dX5_leastOf_18 rfl rfl
  exact J2 ((16 - 0) + 1) 0 (by omega) rfl (by omega) ls (lv_sub hl [1, 0] (by rfl))
