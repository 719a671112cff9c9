theorem bLoop_L {dir : Bool} {Fr To We : Nat → Nat} {nv me : Nat} (hme : me ≤ 40) (n : Nat) (β : BS) (h : ∀ j, β.2.2.2.2.2.1 j < 80) : ∀ j, (bLoop dir Fr To We nv me n β).2.2.2.2.2.1 j < 80 := by
  induction n generalizing β with
  | zero => exact h
  | succ n ih =>
    rw [bLoop]; split
    · exact h
    · exact ih _ (dSearch_L hme h)
theorem bFind_L {dir : Bool} {Fr To We : Nat → Nat} {nv me : Nat} (hme : me ≤ 40) {X Su : Nat → Int} {σ : DS} (h : ∀ j, σ.2.2.2.1 j < 80) : ∀ j, (bFind dir Fr To We nv me X Su σ).2.2.2.2.2.1 j < 80 := bLoop_L hme 40 _ h
theorem pM_L {dir : Bool} {Fr To We : Nat → Nat} {me od : Nat} (hme : me ≤ 40) {σ : DS} {PCo PTi : Nat → Nat → Int} (h : ∀ j, σ.2.2.2.1 j < 80) (n : Nat) : ∀ j, (pM dir Fr To We me od σ PCo PTi n).1.2.2.2.1 j < 80 := by
  induction n with
  | zero => exact h
  | succ n ih =>
    by_cases c : od / 2 ^ n % 2 = 1
    · rw [pM_y c]; exact dSearch_L hme ih
    · rw [pM_n c]; exact ih
/-- the reference's passages: ranges, and nothing outside the graph -/
theorem fLp_rng {dir : Bool} {Fr To We : Nat → Nat} {nv me N : Nat} (hme : me ≤ 40) (n : Nat) (ζ : FS2) (h1 : rR ζ.2.2.1) (h2 : ∀ j, -1 ≤ ζ.2.2.1.2.1 j ∧ ζ.2.2.1.2.1 j < 80) : rR (fLp dir Fr To We nv me N n ζ).1.2.2.1 ∧ ∀ j, -1 ≤ (fLp dir Fr To We nv me N n ζ).1.2.2.1.2.1 j ∧ (fLp dir Fr To We nv me N n ζ).1.2.2.1.2.1 j < 80 := by
  induction n generalizing ζ with
  | zero => exact ⟨h1, h2⟩
  | succ n ih =>
    rw [fLp]
    by_cases c : ζ.2.2.2 < 0
    · rw [if_pos c]; exact ⟨h1, h2⟩
    · rw [if_neg c]
      generalize fPa Fr To ζ.2.2.1.2.1 17 (ζ.1, ζ.2.2.2.toNat) = P
      generalize va_up (va_up ζ.2.1 ζ.2.2.2.toNat (ζ.2.1 ζ.2.2.2.toNat + 1)) P.1.2 ((va_up ζ.2.1 ζ.2.2.2.toNat (ζ.2.1 ζ.2.2.2.toNat + 1)) P.1.2 - 1) = S
      have r1 := sLp_R (dir := dir) (Fr := Fr) (To := To) (We := We) (X := P.1.1) (me := me) N (sIn_R (Su := S) h1 nv)
      have r2 := sLp_By (dir := dir) (Fr := Fr) (To := To) (We := We) (X := P.1.1) (me := me) hme (n := N) (sIn_By (Su := S) h2 nv)
      generalize sLp dir Fr To We P.1.1 me N (sIn S ζ.2.2.1 nv) = L at r1 r2 ⊢
      split
      · exact ih (P.1.1, S, (L.1.1, L.1.2.1, L.1.2.2.1, (mNr L.1.1 L.1.2.2.1 S L.1.2.2.2 nv).1), (mNr L.1.1 L.1.2.2.1 S L.1.2.2.2 nv).2) ⟨r1.1, mNr_R r1.1 r1.2 nv⟩ r2
      · exact ⟨h1, h2⟩
theorem fLp_out {dir : Bool} {Fr To We : Nat → Nat} (hWe : ∀ j, We j ≤ 1000000000) {nv me : Nat} (hn : nv ≤ 16) (hme : me ≤ 40) (hFn : ∀ j, j < me → Fr j < nv) (hTn : ∀ j, j < me → To j < nv) (hSC : ∀ a b, mHas Fr To a me = true → mHas Fr To b me = true → rN (gEd true false Fr To (fun _ => 1) me) a b)
    (n : Nat) (ζ : FS2) (h : fI (cdE qB 1 We) Fr To nv me ζ.1 ζ.2.1) (hs : sOk (cdE qB 1 We) Fr To nv me ζ.1 ζ.2.1 ζ.2.2.1) (hnr : (ζ.2.2.2 < 0 ∧ ∀ v, v < nv → 0 ≤ ζ.2.1 v) ∨ ∃ t, t < nv ∧ ζ.2.2.2 = ((t : Nat) : Int) ∧ ζ.2.1 t < 0) :
    ∀ v, nv ≤ v → (fLp dir Fr To We nv me 17 n ζ).1.2.1 v = ζ.2.1 v := by
  induction n generalizing ζ with
  | zero => intro v _; rfl
  | succ n ih =>
    intro v hv
    rw [fLp]
    rcases hnr with ⟨h1, h2⟩ | ⟨t, ht, et, h0⟩
    · rw [if_pos h1]
    · have etn : ζ.2.2.2.toNat = t := by rw [et]; rfl
      obtain ⟨p1, p2, p3, p4⟩ := pass_q hn hme hFn hTn hSC h hs ht h0
      have hroot : (fPa Fr To ζ.2.2.1.2.1 17 (ζ.1, t)).1.2 < nv := by
        obtain ⟨τ, hr, hi, hfin, hcl, hrp, hτ⟩ := hs
        have hTt := fI_has h ht (show ζ.2.1 t ≠ 0 by omega)
        have hpos : ∃ s, s < nv ∧ 0 < ζ.2.1 s := by
          apply Classical.byContradiction; intro q
          have := all_zero nv (fI_sum hFn hTn h) (.inl (fun v hv => by
            apply Classical.byContradiction; intro z; exact q ⟨v, hv, by omega⟩)) t ht
          omega
        obtain ⟨s, hs1, hs2⟩ := hpos
        have hS := fI_has h hs1 (show ζ.2.1 s ≠ 0 by omega)
        obtain ⟨x, hx⟩ := rN_qWk (c := cdE qB 1 We) (X := ζ.1) (S := fun v => v < nv ∧ 0 < ζ.2.1 v) ⟨hs1, hs2⟩ (hSC s t hS hTt)
        obtain ⟨y, hy, _⟩ := hfin t x hx
        obtain ⟨k, hch⟩ := hi t _ hy
        have hk := qChn_lt (fun v x hx => by have := hτ v x hx; omega) hch
        rw [fPa_cX hme hr hτ k 17 t ζ.1 hch (by omega)]
        exact (hrp _ _ (chn_root hch)).1
      rw [if_neg (show ¬ ζ.2.2.2 < 0 by omega), etn]
      have hSu : ∀ w, nv ≤ w → va_up (va_up ζ.2.1 t (ζ.2.1 t + 1)) (fPa Fr To ζ.2.2.1.2.1 17 (ζ.1, t)).1.2 ((va_up ζ.2.1 t (ζ.2.1 t + 1)) (fPa Fr To ζ.2.2.1.2.1 17 (ζ.1, t)).1.2 - 1) w = ζ.2.1 w := fun w hw => by
        rw [up_ne (by omega), up_ne (by omega)]
      generalize fPa Fr To ζ.2.2.1.2.1 17 (ζ.1, t) = P at p1 p2 p3 p4 hSu ⊢
      generalize va_up (va_up ζ.2.1 t (ζ.2.1 t + 1)) P.1.2 ((va_up ζ.2.1 t (ζ.2.1 t + 1)) P.1.2 - 1) = S at p2 p3 hSu ⊢
      obtain ⟨q, hq⟩ := p2.2.2
      obtain ⟨s1, s2⟩ := spread_q (dir := dir) hWe hn hme hFn hTn hq S ζ.2.2.1
      generalize sLp dir Fr To We P.1.1 me 17 (sIn S ζ.2.2.1 nv) = L at s1 s2 ⊢
      rw [if_pos ⟨p1, s1⟩]
      rw [ih (P.1.1, S, (L.1.1, L.1.2.1, L.1.2.2.1, (mNr L.1.1 L.1.2.2.1 S L.1.2.2.2 nv).1), (mNr L.1.1 L.1.2.2.1 S L.1.2.2.2 nv).2) p2 s2 (mNr_q nv) v hv]
      exact hSu v hv
/-- judging keeps the uses in range -/
theorem vLoop_rng {dir : Bool} {Fr To We : Nat → Nat} {me : Nat} (hme : me ≤ 40) {Pz : Nat → Int} {pn start : Nat} (n : Nat) (ν : (Nat → Int) × Nat × Int) (h : ∀ j, j < 40 → 0 ≤ ν.1 j ∧ ν.1 j ≤ 10000 - n) (h2 : ∀ j, 40 ≤ j → -10000 ≤ ν.1 j ∧ ν.1 j ≤ 10000) :
    ∀ j, -10000 ≤ (vLoop dir Fr To We me Pz pn start n ν).1 j ∧ (vLoop dir Fr To We me Pz pn start n ν).1 j ≤ 10000 := by
  induction n generalizing ν with
  | zero =>
    have hk : ∀ j, -10000 ≤ ν.1 j ∧ ν.1 j ≤ 10000 := fun j => by
      by_cases q : j < 40
      · have := h j q; omega
      · exact h2 j (by omega)
    rw [vLoop]; split
    · exact hk
    · exact hk
  | succ n ih =>
    rw [vLoop]
    cases hs : gStep dir Fr To me (Pz (pn - (n + 1))) ν.2.1 with
    | false =>
      rw [if_pos rfl]
      intro j
      by_cases q : j < 40
      · have := h j q; show -10000 ≤ ν.1 j ∧ ν.1 j ≤ 10000; omega
      · exact h2 j (by omega)
    | true =>
      rw [if_neg (show ¬ (true = false) by decide)]
      have hr := gStep_rng hs
      refine ih _ (fun j hj => ?_) (fun j hj => ?_)
      · show 0 ≤ va_up ν.1 _ _ j ∧ va_up ν.1 _ _ j ≤ _
        by_cases q : j = (Pz (pn - (n + 1)) / 2).toNat
        · subst q; rw [up_at]; have := h _ hj; omega
        · rw [up_ne q]; have := h j hj; omega
      · show -10000 ≤ va_up ν.1 _ _ j ∧ va_up ν.1 _ _ j ≤ _
        rw [up_ne (by omega)]; exact h2 j hj
theorem vRun_rng {dir : Bool} {Fr To We : Nat → Nat} {me : Nat} (hme : me ≤ 40) {Pz : Nat → Int} {pn start : Nat} (hpn : pn ≤ 1000) {U : Nat → Int} (h : ∀ j, -10000 ≤ U j ∧ U j ≤ 10000) : ∀ j, -10000 ≤ (vRun dir Fr To We me Pz pn start U).1 j ∧ (vRun dir Fr To We me Pz pn start U).1 j ≤ 10000 :=
  vLoop_rng hme pn _ (fun j hj => by show 0 ≤ fl U 0 40 j ∧ fl U 0 40 j ≤ _; unfold fl; rw [if_pos hj]; omega) (fun j hj => by show -10000 ≤ fl U 0 40 j ∧ fl U 0 40 j ≤ _; unfold fl; rw [if_neg (by omega)]; exact h j)
theorem jIt_rng {dir : Bool} {Fr To We : Nat → Nat} {me : Nat} {Pz : Nat → Int} {pn : Nat} (n : Nat) (ν : (Nat → Int) × Int × Int) (h : ∀ j, 0 ≤ ν.1 j ∧ ν.1 j ≤ 10000) : ∀ j, 0 ≤ (jIt dir Fr To We me Pz pn n ν).1 j ∧ (jIt dir Fr To We me Pz pn n ν).1 j ≤ 10000 := by
  induction n generalizing ν with
  | zero => exact h
  | succ n ih =>
    rw [jIt]; apply ih
    unfold jN; split
    · exact h
    · split
      · exact h
      · exact up_all (P := fun x => 0 ≤ x ∧ x ≤ 10000) h (by decide)
theorem fl1_rng {f : Nat → Int} {n : Nat} (h : ∀ j, -10000 ≤ f j ∧ f j ≤ 10000) : ∀ j, -10000 ≤ fl f 1 n j ∧ fl f 1 n j ≤ 10000 := fun j => by unfold fl; split; decide; exact h j
theorem fl1_rng0 {f : Nat → Int} {n : Nat} (h : ∀ j, 0 ≤ f j ∧ f j ≤ 10000) : ∀ j, 0 ≤ fl f 1 n j ∧ fl f 1 n j ≤ 10000 := fun j => by unfold fl; split; decide; exact h j
theorem lo_eq {dir : Bool} {Fr To : Nat → Nat} {me nv : Nat} (hn : nv ≤ 16) : pLo (gOddM dir Fr To me nv) 16 = mLo dir Fr To me nv nv := by
  have key : ∀ k, k ≤ nv → ∀ m, m = 16 - nv + k → pLo (gOddM dir Fr To me nv) m = mLo dir Fr To me nv k := fun k => by
    induction k with
    | zero =>
      intro _ m hm
      have : ∀ m, m ≤ 16 - nv → pLo (gOddM dir Fr To me nv) m = -1 := fun m => by
        induction m with
        | zero => intro _; rfl
        | succ m ih =>
          intro h; rw [pLo, if_neg (fun q => by have := ((gOddM_bt nv (16 - (m + 1))).mp q).1; omega)]; exact ih (by omega)
      exact this m (by omega)
    | succ k ih =>
      intro hk m hm
      subst hm
      rw [show 16 - nv + (k + 1) = (16 - nv + k) + 1 from rfl, pLo, mLo, show 16 - (16 - nv + k + 1) = nv - (k + 1) by omega]
      by_cases c : mOdd dir Fr To me (nv - (k + 1)) = true
      · rw [if_pos (show gOddM dir Fr To me nv / 2 ^ (nv - (k + 1)) % 2 = 1 from (gOddM_bt nv _).mpr ⟨by omega, c⟩), if_pos c]
      · rw [if_neg (show ¬ gOddM dir Fr To me nv / 2 ^ (nv - (k + 1)) % 2 = 1 from fun q => c ((gOddM_bt nv _).mp q).2), if_neg c]; exact ih (by omega) _ rfl
  exact key nv (Nat.le_refl _) 16 (by omega)
