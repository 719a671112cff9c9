theorem pT_q {PCo PTi : Nat → Nat → Int} {od : Nat} (hod : od < 65536) (hcap : rCap (wPr PCo PTi) od)
    (hw : ∀ A B, bt od A → bt od B → (0 ≤ PCo A B ∧ PCo A B ≤ 65536000000000) ∧ 0 ≤ PTi A B ∧ PTi A B ≤ 36028797018963968) (n i : Nat) (χ : PS) (hI : qI (wPr PCo PTi) od i χ) (hn : 1597 ≤ i + n)
    (hW : i < χ.2.2.2.2 → ∀ j, j < χ.2.2.2.2 → bcN (χ.1 i) 16 ≤ bcN (χ.1 j) 16 + 2) :
    (∃ c t, (pT PCo PTi n i χ).2 = t ∧ (0 ≤ t ∧ t < 1152921504606846976) ∧ pPa (wPr PCo PTi) od 0 (c * qM + t) ∧ ∀ y, pPa (wPr PCo PTi) od 0 y → c * qM + t ≤ y) ∨ ((pT PCo PTi n i χ).2 = 0 ∧ ∀ y, ¬ pPa (wPr PCo PTi) od 0 y) := by
  have hend : χ.2.2.2.2 ≤ i → ∀ y, ¬ pPa (wPr PCo PTi) od 0 y := fun hle y hy => by
    obtain ⟨hO, hS, hZ, hM, hC⟩ := hI
    have : ∀ R x, pPa (wPr PCo PTi) od R x → ∃ k, k < χ.2.2.2.2 ∧ χ.1 k = R := fun R x h => by
      refine pPa_ind (M := fun R _ => ∃ k, k < χ.2.2.2.2 ∧ χ.1 k = R) ⟨0, hZ.1, hZ.2.1⟩ (fun r t x y _ ih e => ?_) h
      obtain ⟨k, hk, ek⟩ := ih
      rw [← ek] at e
      obtain ⟨k', a, b, _⟩ := (hC k (by omega) hk).2 t y e
      exact ⟨k', a, b⟩
    obtain ⟨k, hk, ek⟩ := this 0 y hy
    exact (hC k (by omega) hk).1 ek
  induction n generalizing i χ with
  | zero =>
    right
    have := hI.1.2.2.2.2
    exact ⟨rfl, hend (by omega)⟩
  | succ n ih =>
    rw [pT]
    by_cases c0 : χ.2.2.2.2 ≤ i
    · rw [if_pos c0]; right; exact ⟨rfl, hend c0⟩
    · rw [if_neg c0]
      by_cases c1 : χ.1 i = 0
      · rw [if_pos c1]
        left
        obtain ⟨hO, hS, hZ, hM, hC⟩ := hI
        obtain ⟨p1, p2⟩ := hS i (by omega)
        refine ⟨χ.2.1 i, χ.2.2.1 i, rfl, ?_, by rw [c1] at p1; exact p1, fun y hy => ?_⟩
        · unfold pBn at p2; have := lwN_le (χ.1 i); omega
        · have : ∀ R x, pPa (wPr PCo PTi) od R x → ∃ k, k < χ.2.2.2.2 ∧ χ.1 k = R ∧ pVal χ k ≤ x := fun R x h => by
            refine pPa_ind (M := fun R x => ∃ k, k < χ.2.2.2.2 ∧ χ.1 k = R ∧ pVal χ k ≤ x) ⟨0, hZ⟩ (fun r t x y _ ih e => ?_) h
            obtain ⟨k, hk, ek, lk⟩ := ih
            have hki : k < i := by
              apply Classical.byContradiction; intro q
              have := hM i k (by omega) hk
              rw [c1, show bcN 0 16 = 0 from rfl] at this
              have hr0 : r = 0 := by
                apply bcN_0
                · have := (pPa_sub (hS k hk).1).1; omega
                · rw [← ek]; omega
              subst hr0
              obtain ⟨a, _, ha, _⟩ := e
              exact bt_0 a ha.1
            rw [← ek] at e
            obtain ⟨k', a, b, l⟩ := (hC k hki hk).2 t y e
            exact ⟨k', a, b, by omega⟩
          obtain ⟨k, hk, ek, lk⟩ := this 0 y hy
          have : k = i := hO.1 k i hk (by omega) (by rw [ek, c1])
          subst this; exact lk
      · rw [if_neg c1]
        have hRr := (pPa_sub (hI.2.1 i (by omega)).1).1
        have hA := pLo_low (show χ.1 i < 65536 by omega) c1
        obtain ⟨q1, q2, q3, q4, q5⟩ := pPL_q hod hcap hw hA (16 - ((pLo (χ.1 i) 16).toNat + 1)) (Nat.le_refl _) χ hI (by omega) rfl (hW (by omega)) (fun B a b => by omega)
        show (∃ c t, (pT PCo PTi n (i + 1) (pPL PCo PTi i (pLo (χ.1 i) 16).toNat (χ.1 i &&& (65535 ^^^ 2 ^ (pLo (χ.1 i) 16).toNat)) (16 - ((pLo (χ.1 i) 16).toNat + 1)) χ)).2 = t ∧ _) ∨ ((pT PCo PTi n (i + 1) (pPL PCo PTi i (pLo (χ.1 i) 16).toNat (χ.1 i &&& (65535 ^^^ 2 ^ (pLo (χ.1 i) 16).toNat)) (16 - ((pLo (χ.1 i) 16).toNat + 1)) χ)).2 = 0 ∧ _)
        generalize pPL PCo PTi i (pLo (χ.1 i) 16).toNat (χ.1 i &&& (65535 ^^^ 2 ^ (pLo (χ.1 i) 16).toNat)) (16 - ((pLo (χ.1 i) 16).toNat + 1)) χ = χ' at q1 q2 q3 q4 q5 ⊢
        have hI' : qI (wPr PCo PTi) od (i + 1) χ' := by
          obtain ⟨hO, hS, hZ, hM, hC⟩ := q1
          refine ⟨hO, hS, hZ, hM, fun j hj hj2 => ?_⟩
          by_cases e : j = i
          · subst e
            rw [q3]
            refine ⟨c1, fun R' y hy => ?_⟩
            obtain ⟨a, b, ha, hb, hab, e1, e2⟩ := hy
            have := lowB_uni ha hA; subst this
            obtain ⟨k, k1, k2, k3⟩ := q5 b hab (bt_lt (by omega) hb) hb
            exact ⟨k, k1, by rw [e1]; exact k2, by rw [e2]; exact k3⟩
          · exact hC j (by omega) hj2
        refine ih (i + 1) χ' hI' (by omega) (fun hl j hj => ?_) (fun hle y hy => ?_)
        · have := hI'.2.2.2.1 i (i + 1) (by omega) hl
          rw [q3] at this; have := q4 j hj; omega
        · obtain ⟨hO, hS, hZ, hM, hC⟩ := hI'
          have : ∀ R x, pPa (wPr PCo PTi) od R x → ∃ k, k < χ'.2.2.2.2 ∧ χ'.1 k = R := fun R x h => by
            refine pPa_ind (M := fun R _ => ∃ k, k < χ'.2.2.2.2 ∧ χ'.1 k = R) ⟨0, hZ.1, hZ.2.1⟩ (fun r t x y _ ih e => ?_) h
            obtain ⟨k, hk, ek⟩ := ih
            rw [← ek] at e
            obtain ⟨k', a, b, _⟩ := (hC k (by omega) hk).2 t y e
            exact ⟨k', a, b⟩
          obtain ⟨k, hk, ek⟩ := this 0 y hy
          exact (hC k (by omega) hk).1 ek
/-- the house's least pairs -/
theorem pTie_q {PCo PTi : Nat → Nat → Int} {od : Nat} (hod : od < 65536) (hcap : rCap (wPr PCo PTi) od)
    (hw : ∀ A B, bt od A → bt od B → (0 ≤ PCo A B ∧ PCo A B ≤ 65536000000000) ∧ 0 ≤ PTi A B ∧ PTi A B ≤ 36028797018963968) (ψ : PS) :
    (∃ c t, (pTie PCo PTi od ψ).2 = t ∧ (0 ≤ t ∧ t < 1152921504606846976) ∧ pPa (wPr PCo PTi) od 0 (c * qM + t) ∧ ∀ y, pPa (wPr PCo PTi) od 0 y → c * qM + t ≤ y) ∨ ((pTie PCo PTi od ψ).2 = 0 ∧ ∀ y, ¬ pPa (wPr PCo PTi) od 0 y) := by
  have hz : ∀ s, s < 4096 → (pClr ψ).2.2.2.1 s = 0 := fun s hs => by show flN _ 4096 s = 0; unfold flN; rw [if_pos hs]
  have hO : hOk (pClr ψ) := ⟨fun i j (hi : i < 0) => by omega, fun j (hj : j < 0) => by omega, fun s hs => by rw [hz s hs]; exact Nat.zero_le _, by
    have : ∀ n, n ≤ 4096 → qCt (fun s => (pClr ψ).2.2.2.1 s ≠ 0) n = 0 := fun n => by
      induction n with
      | zero => intro _; rfl
      | succ n ih => intro h; rw [qCt_no (fun q => q (hz n (by omega)))]; exact ih (by omega)
    rw [this 4096 (Nat.le_refl _)]; exact Nat.zero_le _, by show 0 ≤ 1597; omega⟩
  obtain ⟨o1, o2, o3, o4, o5, o6⟩ := pOffer_q hO (set := od) (c := 0) (t := 0) (n := 0) (by decide) (by decide) (fun i (hi : i < 0) => by omega) (fun _ => by show 0 < 1597; omega)
  unfold pTie
  generalize pOffer (pClr ψ) od 0 0 = χ at o1 o2 o3 o4 o5 o6 ⊢
  have o4' : ∀ i, i < χ.2.2.2.2 → χ.1 i = od ∧ i = 0 := fun i hi => o4 i (Nat.zero_le i) hi
  have o6' : ∀ i, i < χ.2.2.2.2 → χ.2.1 i = 0 ∧ χ.2.2.1 i = 0 := fun i hi => by
    rcases o6 i hi with ⟨q, _⟩ | ⟨_, a, b, _⟩
    · exact absurd (show i < 0 from q) (Nat.not_lt_zero _)
    · exact ⟨a, b⟩
  obtain ⟨j, j1, j2, j3⟩ := o5
  have hj0 := (o4' j j1).2; subst hj0
  refine pT_q hod hcap hw 1597 0 χ ⟨o1, fun i hi => ?_, ⟨j1, j2, by have : (0 : Int) * qM + 0 = 0 := rfl; omega⟩, fun a b hab hb => ?_, fun j hj => by omega⟩ (by omega) (fun _ j hj => by rw [(o4' j hj).1, j2]; omega)
  · obtain ⟨a, b⟩ := o6' i hi
    rw [(o4' i hi).1]; unfold pVal pBn; rw [a, b]
    refine ⟨pPa_nil _ _, ?_⟩
    have := lwN_le od; omega
  · rw [(o4' b hb).1, (o4' a (by omega)).1]; exact Nat.le_refl _
