set_option maxHeartbeats 4000000 in
set_option maxRecDepth 100000 in
theorem lw_loop (l : Launch) (hst : l.stackTraces = false) {p : Program} {e : Env} {s : State} {m : MethodId} {args : Array Value} {below : List Frame} {meth : Method} {c : Code} {Q : State → Prop} {D : va_G} {cA : Nat → ClassId} {A : Nat → Prop} {bb L : Nat} {xs : Nat → Int32} (F : lwF p s m args c bb L xs D cA A) (th : Nat) (g : Nat) (gf : Nat) (gt : Nat) (gw : Nat) (lr : Nat) (la : Nat) (pa : Nat) (pb : Nat) (ua : Nat) (xa : Nat) (ds : Nat) (dr : Nat) (dc : Nat) (dt : Nat) (dl : Nat) (dn : Nat) (pr : Nat) (pqc : Nat) (pqt : Nat) (pse : Nat) (pco : Nat) (pti : Nat) (psl : Nat) (bl : Nat) (bs : Nat) (mo : Nat) (mf : Nat) (mt : Nat) (mw : Nat) (mr : Nat) (mp : Nat) (mx : Nat) (mfa : Nat) (mbi : Nat) (mod1 : Nat) (msc : Nat) (msb : Nat) (msu : Nat) (mwy : Nat) (mre : Nat) (mby : Nat) (msm : Nat) (mle : Nat) (mgr : Nat) (ot : Nat) (rc : Nat → Nat) (rt : Nat → Nat)
    (kend : ∀ (H : Heap) (locs : List Loc) (ls : Array Slot) (c1 s1 : Nat), va_S A s.heap H locs → c1 ≤ 4000 → s1 ≤ 300000 → W p l e room_1 s m args below meth c H locs c1 s1 Q (F0 m 767 ls [])) :
    ∀ (n i : Nat) (dir : Bool) (nv : Nat) (me : Nat) (Fr : Nat → Nat) (To : Nat → Nat) (We : Nat → Nat) (est : Bool) (ln : Nat) (Lz : Nat → Int) (pn : Nat) (Pz : Nat → Int) (U : Nat → Int) (X : Nat → Int) (σ : DS) (ψ : PS) (Su : Nat → Int) (PCo : Nat → Nat → Int) (PTi : Nat → Nat → Int) (mth : Nat) (mrn : Nat) (mst : Nat) (mhr : Bool) (mon : Nat) (Rw : Nat → Int) (Mp : Nat → Int) (Xm : Nat → Int) (φ : (Nat → Int) × (Nat → Int)) (Od : Nat → Nat) (θ : (Nat → Int) × (Nat → Int)) (Sv : Nat → Int) (ρ : RS) (Le : Nat → Int) (Gr : Nat → Nat) (Ou : Nat → Int) (H : Heap) (locs : List Loc) (ls : Array Slot) (cells slots : Nat), L + 4 - i < n → i ≤ L + 4 → cells ≤ 1000 + i → slots ≤ 200000 + 6 * i → lwI nv me Fr To We est ln Lz pn Pz U X σ ψ Su mrn mst mhr Rw Mp Xm φ Od θ Sv ρ Le Gr → va_P D vwCl (lwW cA th g gf gt gw lr la pa pb ua xa ds dr dc dt dl dn pr pqc pqt pse pco pti psl bl bs mo mf mt mw mr mp mx mfa mbi mod1 msc msb msu mwy mre mby msm mle mgr ot rc rt dir nv me Fr To We est ln Lz pn Pz U X σ ψ Su PCo PTi mth mrn mst mhr mon Rw Mp Xm φ Od θ Sv ρ Le Gr Ou) H → va_D A (lwW cA th g gf gt gw lr la pa pb ua xa ds dr dc dt dl dn pr pqc pqt pse pco pti psl bl bs mo mf mt mw mr mp mx mfa mbi mod1 msc msb msu mwy mre mby msm mle mgr ot rc rt dir nv me Fr To We est ln Lz pn Pz U X σ ψ Su PCo PTi mth mrn mst mhr mon Rw Mp Xm φ Od θ Sv ρ Le Gr Ou) → va_S A s.heap H locs → lv_has ls 8 [(4, .int (nI i)), (3, .ref ot), (2, .ref mo), (1, .ref th), (0, .ref bb)] → W p l e room_1 s m args below meth c H locs cells slots Q (F0 m 23 ls []) := by
  intro n
  induction n with
  | zero => intro i dir nv me Fr To We est ln Lz pn Pz U X σ ψ Su PCo PTi mth mrn mst mhr mon Rw Mp Xm φ Od θ Sv ρ Le Gr Ou H locs ls cells slots hn; exact absurd hn (Nat.not_lt_zero _)
  | succ n ih =>
    intro i dir nv me Fr To We est ln Lz pn Pz U X σ ψ Su PCo PTi mth mrn mst mhr mon Rw Mp Xm φ Od θ Sv ρ Le Gr Ou H locs ls cells slots hn hi4 hc hs I hP hD hS hl
    have F9 := F
    obtain ⟨hx, hb, hml, hown, hts, hK, hG, hN, hX, hbl, hL, hZ0, hAd⟩ := F9
    have hbA : ¬ A bb := fun h9 => by rw [hAd] at h9; exact absurd hbl (Nat.not_lt.mpr h9)
    refine lv_iload hx hb dL_law_23 (lv_at hl 0 rfl) ?_
    refine lv_aload_n hx hb dL_law_25 rfl (lv_at hl 4 rfl) ?_
    refine z_slen hx hb hX hbl hbA hS dL_law_26 ?_
    refine lv_iconst (v := nI 4) hx hb dL_law_27 (by decide) ?_
    refine lv_isub hx hb dL_law_28 ?_
    refine z_topi (v := iZ (((L : Nat) : Int) - 4)) (iZ_sub ((L : Nat) : Int) 4) ?_
    refine z_Igt hx hb (x := ((i : Nat) : Int)) (y := ((L : Nat) : Int) - 4) (⟨by omega, by omega⟩) (⟨by omega, by omega⟩) (tgt := 767) dL_law_29 (by decide) (fun h29 => ?_) (fun h29 => ?_)
    · exact kend H locs ls cells slots hS (by omega) (by omega)
    · have hi : i + 4 ≤ L := by omega
      have hcs : cells + 1 ≤ room_1.cells ∧ slots + 6 ≤ room_1.slots := ⟨show cells + 1 ≤ 601024 by omega, show slots + 6 ≤ 7293034 by omega⟩
      have kk : lwNx l p e s m args below meth c Q D cA A bb th g gf gt gw lr la pa pb ua xa ds dr dc dt dl dn pr pqc pqt pse pco pti psl bl bs mo mf mt mw mr mp mx mfa mbi mod1 msc msb msu mwy mre mby msm mle mgr ot rc rt (i + 4) cells slots := fun dir nv me Fr To We est ln Lz pn Pz U X σ ψ Su PCo PTi mth mrn mst mhr mon Rw Mp Xm φ Od θ Sv ρ Le Gr Ou H locs ls I hP hD hS hl c1 s1 h1 h2 => ih (i + 4) dir nv me Fr To We est ln Lz pn Pz U X σ ψ Su PCo PTi mth mrn mst mhr mon Rw Mp Xm φ Od θ Sv ρ Le Gr Ou H locs ls c1 s1 (by omega) (by omega) (by omega) (by omega) I hP hD hS hl
      refine lv_aload_n hx hb dL_law_32 rfl (lv_at hl 4 rfl) ?_
      refine lv_iload hx hb dL_law_33 (lv_at hl 0 rfl) ?_
      refine z_sld hx hb hX hbl hbA hS (k := i) (by omega) (by omega) (v := xs i) rfl dL_law_35 ?_
      refine lv_bipush (v := nI 15) hx hb dL_law_36 (by decide) ?_
      refine lv_iand hx hb dL_law_38 ?_
      obtain ⟨k, hk, ek⟩ := x_and15 (xs i)
      refine z_topi (v := nI k) ek ?_
      rcases (show k = 0 ∨ k = 1 ∨ k = 2 ∨ k = 3 ∨ k = 4 ∨ k = 5 ∨ k = 6 ∨ k = 7 ∨ k = 8 ∨ k = 9 ∨ k = 10 ∨ 10 < k by omega) with rfl | rfl | rfl | rfl | rfl | rfl | rfl | rfl | rfl | rfl | rfl | h11
      · refine lv_tableIn (off := 57) (tgt := 96) hx hb dL_law_39 (by decide) (by decide) (by decide) (by decide) ?_
        exact lh_reset l hst F hcs th g gf gt gw lr la pa pb ua xa ds dr dc dt dl dn pr pqc pqt pse pco pti psl bl bs mo mf mt mw mr mp mx mfa mbi mod1 msc msb msu mwy mre mby msm mle mgr ot rc rt dir nv me Fr To We est ln Lz pn Pz U X σ ψ Su PCo PTi mth mrn mst mhr mon Rw Mp Xm φ Od θ Sv ρ Le Gr Ou i hi I hP hD hS hl kk
      · refine lv_tableIn (off := 141) (tgt := 180) hx hb dL_law_39 (by decide) (by decide) (by decide) (by decide) ?_
        exact lh_edge l hst F hcs th g gf gt gw lr la pa pb ua xa ds dr dc dt dl dn pr pqc pqt pse pco pti psl bl bs mo mf mt mw mr mp mx mfa mbi mod1 msc msb msu mwy mre mby msm mle mgr ot rc rt dir nv me Fr To We est ln Lz pn Pz U X σ ψ Su PCo PTi mth mrn mst mhr mon Rw Mp Xm φ Od θ Sv ρ Le Gr Ou i hi I hP hD hS hl kk
      · refine lv_tableIn (off := 221) (tgt := 260) hx hb dL_law_39 (by decide) (by decide) (by decide) (by decide) ?_
        exact lh_drop l hst F hcs th g gf gt gw lr la pa pb ua xa ds dr dc dt dl dn pr pqc pqt pse pco pti psl bl bs mo mf mt mw mr mp mx mfa mbi mod1 msc msb msu mwy mre mby msm mle mgr ot rc rt dir nv me Fr To We est ln Lz pn Pz U X σ ψ Su PCo PTi mth mrn mst mhr mon Rw Mp Xm φ Od θ Sv ρ Le Gr Ou i hi I hP hD hS hl kk
      · refine lv_tableIn (off := 265) (tgt := 304) hx hb dL_law_39 (by decide) (by decide) (by decide) (by decide) ?_
        exact lh_distance l hst F hcs th g gf gt gw lr la pa pb ua xa ds dr dc dt dl dn pr pqc pqt pse pco pti psl bl bs mo mf mt mw mr mp mx mfa mbi mod1 msc msb msu mwy mre mby msm mle mgr ot rc rt dir nv me Fr To We est ln Lz pn Pz U X σ ψ Su PCo PTi mth mrn mst mhr mon Rw Mp Xm φ Od θ Sv ρ Le Gr Ou i hi I hP hD hS hl kk
      · refine lv_tableIn (off := 332) (tgt := 371) hx hb dL_law_39 (by decide) (by decide) (by decide) (by decide) ?_
        exact lh_tour l hst F hcs th g gf gt gw lr la pa pb ua xa ds dr dc dt dl dn pr pqc pqt pse pco pti psl bl bs mo mf mt mw mr mp mx mfa mbi mod1 msc msb msu mwy mre mby msm mle mgr ot rc rt dir nv me Fr To We est ln Lz pn Pz U X σ ψ Su PCo PTi mth mrn mst mhr mon Rw Mp Xm φ Od θ Sv ρ Le Gr Ou i hi I hP hD hS hl kk
      · refine lv_tableIn (off := 388) (tgt := 427) hx hb dL_law_39 (by decide) (by decide) (by decide) (by decide) ?_
        exact lh_round l hst F hcs th g gf gt gw lr la pa pb ua xa ds dr dc dt dl dn pr pqc pqt pse pco pti psl bl bs mo mf mt mw mr mp mx mfa mbi mod1 msc msb msu mwy mre mby msm mle mgr ot rc rt dir nv me Fr To We est ln Lz pn Pz U X σ ψ Su PCo PTi mth mrn mst mhr mon Rw Mp Xm φ Od θ Sv ρ Le Gr Ou i hi I hP hD hS hl kk
      · refine lv_tableIn (off := 443) (tgt := 482) hx hb dL_law_39 (by decide) (by decide) (by decide) (by decide) ?_
        exact lh_extra l hst F hcs th g gf gt gw lr la pa pb ua xa ds dr dc dt dl dn pr pqc pqt pse pco pti psl bl bs mo mf mt mw mr mp mx mfa mbi mod1 msc msb msu mwy mre mby msm mle mgr ot rc rt dir nv me Fr To We est ln Lz pn Pz U X σ ψ Su PCo PTi mth mrn mst mhr mon Rw Mp Xm φ Od θ Sv ρ Le Gr Ou i hi I hP hD hS hl kk
      · refine lv_tableIn (off := 499) (tgt := 538) hx hb dL_law_39 (by decide) (by decide) (by decide) (by decide) ?_
        exact lh_row l hst F hcs th g gf gt gw lr la pa pb ua xa ds dr dc dt dl dn pr pqc pqt pse pco pti psl bl bs mo mf mt mw mr mp mx mfa mbi mod1 msc msb msu mwy mre mby msm mle mgr ot rc rt dir nv me Fr To We est ln Lz pn Pz U X σ ψ Su PCo PTi mth mrn mst mhr mon Rw Mp Xm φ Od θ Sv ρ Le Gr Ou i hi I hP hD hS hl kk
      · refine lv_tableIn (off := 555) (tgt := 594) hx hb dL_law_39 (by decide) (by decide) (by decide) (by decide) ?_
        exact lh_step l hst F hcs th g gf gt gw lr la pa pb ua xa ds dr dc dt dl dn pr pqc pqt pse pco pti psl bl bs mo mf mt mw mr mp mx mfa mbi mod1 msc msb msu mwy mre mby msm mle mgr ot rc rt dir nv me Fr To We est ln Lz pn Pz U X σ ψ Su PCo PTi mth mrn mst mhr mon Rw Mp Xm φ Od θ Sv ρ Le Gr Ou i hi I hP hD hS hl kk
      · refine lv_tableIn (off := 611) (tgt := 650) hx hb dL_law_39 (by decide) (by decide) (by decide) (by decide) ?_
        exact lh_judge l hst F hcs th g gf gt gw lr la pa pb ua xa ds dr dc dt dl dn pr pqc pqt pse pco pti psl bl bs mo mf mt mw mr mp mx mfa mbi mod1 msc msb msu mwy mre mby msm mle mgr ot rc rt dir nv me Fr To We est ln Lz pn Pz U X σ ψ Su PCo PTi mth mrn mst mhr mon Rw Mp Xm φ Od θ Sv ρ Le Gr Ou i hi I hP hD hS hl kk
      · refine lv_tableIn (off := 666) (tgt := 705) hx hb dL_law_39 (by decide) (by decide) (by decide) (by decide) ?_
        exact lh_look l hst F hcs th g gf gt gw lr la pa pb ua xa ds dr dc dt dl dn pr pqc pqt pse pco pti psl bl bs mo mf mt mw mr mp mx mfa mbi mod1 msc msb msu mwy mre mby msm mle mgr ot rc rt dir nv me Fr To We est ln Lz pn Pz U X σ ψ Su PCo PTi mth mrn mst mhr mon Rw Mp Xm φ Od θ Sv ρ Le Gr Ou i hi I hP hD hS hl kk
      · refine lv_tableOut (tgt := 761) hx hb dL_law_39 (Or.inr (by rw [show (nI k).toInt = (k : Int) from nI_toInt (by omega)]; omega)) (by decide) ?_
        refine lv_iinc (v := nI (i + 4)) (lv' := [(4, .int (nI (i + 4))), (3, .ref ot), (2, .ref mo), (1, .ref th), (0, .ref bb)]) hx hb dL_law_761 hl (k := 0) rfl (nI_add i 4) (by decide) rfl (fun ls hl => ?_)
        refine lv_goto (tgt := 23) hx hb dL_law_764 (by decide) ?_
        exact ih (i + 4) dir nv me Fr To We est ln Lz pn Pz U X σ ψ Su PCo PTi mth mrn mst mhr mon Rw Mp Xm φ Od θ Sv ρ Le Gr Ou H locs ls cells slots (by omega) (by omega) (by omega) (by omega) I hP hD hS hl
