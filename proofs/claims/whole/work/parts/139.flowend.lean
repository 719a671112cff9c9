theorem fLp_q {dir : Bool} {Fr To We : Nat → Nat} (hWe : ∀ j, We j ≤ 1000000000) {nv me : Nat} (hn : nv ≤ 16) (hme : me ≤ 40) (hFn : ∀ j, j < me → Fr j < nv) (hTn : ∀ j, j < me → To j < nv) (hSC : ∀ a b, mHas Fr To a me = true → mHas Fr To b me = true → rN (gEd true false Fr To (fun _ => 1) me) a b)
    (n : Nat) (ζ : FS2) (h : fI (cdE qB 1 We) Fr To nv me ζ.1 ζ.2.1) (hs : sOk (cdE qB 1 We) Fr To nv me ζ.1 ζ.2.1 ζ.2.2.1) (hnr : (ζ.2.2.2 < 0 ∧ ∀ v, v < nv → 0 ≤ ζ.2.1 v) ∨ ∃ t, t < nv ∧ ζ.2.2.2 = ((t : Nat) : Int) ∧ ζ.2.1 t < 0) (hb : tpS ζ.2.1 nv < n) :
    (fLp dir Fr To We nv me 17 n ζ).2 = true ∧ fI (cdE qB 1 We) Fr To nv me (fLp dir Fr To We nv me 17 n ζ).1.1 (fLp dir Fr To We nv me 17 n ζ).1.2.1 ∧ (∀ v, v < nv → (fLp dir Fr To We nv me 17 n ζ).1.2.1 v = 0) ∧ (∀ e, me ≤ e → (fLp dir Fr To We nv me 17 n ζ).1.1 e = ζ.1 e) := by
  induction n generalizing ζ with
  | zero => have := (tpS_0 (Su := ζ.2.1) nv).1; omega
  | succ n ih =>
    rw [fLp]
    rcases hnr with ⟨h1, h2⟩ | ⟨t, ht, et, h0⟩
    · rw [if_pos h1]
      exact ⟨rfl, h, all_zero nv (fI_sum hFn hTn h) (.inr h2), fun e _ => rfl⟩
    · have etn : ζ.2.2.2.toNat = t := by rw [et]; rfl
      obtain ⟨p1, p2, p3, p4⟩ := pass_q hn hme hFn hTn hSC h hs ht h0
      rw [if_neg (show ¬ ζ.2.2.2 < 0 by omega), etn]
      generalize fPa Fr To ζ.2.2.1.2.1 17 (ζ.1, t) = P at p1 p2 p3 p4 ⊢
      generalize va_up (va_up ζ.2.1 t (ζ.2.1 t + 1)) P.1.2 ((va_up ζ.2.1 t (ζ.2.1 t + 1)) P.1.2 - 1) = S at p2 p3 ⊢
      obtain ⟨q, hq⟩ := p2.2.2
      obtain ⟨s1, s2⟩ := spread_q (dir := dir) hWe hn hme hFn hTn hq S ζ.2.2.1
      generalize sLp dir Fr To We P.1.1 me 17 (sIn S ζ.2.2.1 nv) = L at s1 s2 ⊢
      rw [if_pos ⟨p1, s1⟩]
      obtain ⟨a1, a2, a3, a4⟩ := ih (P.1.1, S, (L.1.1, L.1.2.1, L.1.2.2.1, (mNr L.1.1 L.1.2.2.1 S L.1.2.2.2 nv).1), (mNr L.1.1 L.1.2.2.1 S L.1.2.2.2 nv).2) p2 s2 (mNr_q nv) (by show tpS S nv < n; omega)
      exact ⟨a1, a2, a3, fun e he => (a4 e he).trans (p4 e he)⟩
/-- the reference's extras in a directed graph -/
theorem flow_ref {Fr To We : Nat → Nat} (hWe : ∀ j, We j ≤ 1000000000) {nv me : Nat} (hn : nv ≤ 16) (hme : me ≤ 40) (hFn : ∀ j, j < me → Fr j < nv) (hTn : ∀ j, j < me → To j < nv) (hSC : ∀ a b, mHas Fr To a me = true → mHas Fr To b me = true → rN (gEd true false Fr To (fun _ => 1) me) a b)
    (X Su : Nat → Int) (ρ : RS) : (sLp true Fr To We (fl X 0 me) me 17 (sIn (mFl true Fr To me Su nv) ρ nv)).2 = true ∧
    ∀ L, L = (sLp true Fr To We (fl X 0 me) me 17 (sIn (mFl true Fr To me Su nv) ρ nv)).1 → ∀ Z, Z = fLp true Fr To We nv me 17 41 (fl X 0 me, mFl true Fr To me Su nv, (L.1, L.2.1, L.2.2.1, (mNr L.1 L.2.2.1 (mFl true Fr To me Su nv) L.2.2.2 nv).1), (mNr L.1 L.2.2.1 (mFl true Fr To me Su nv) L.2.2.2 nv).2) →
      Z.2 = true ∧ (∀ e, e < me → 0 ≤ Z.1.1 e) ∧ (∀ u, nX Fr To Z.1.1 u me = -gSur Fr To u me) ∧ (∃ p, qPot (fArcs (cdE qB 1 We) Fr To Z.1.1 me) p) ∧ (∀ e, me ≤ e → Z.1.1 e = X e) := by
  have h0 : ∀ e, e < me → fl X 0 me e = 0 := fun e he => by unfold fl; rw [if_pos he]
  have hnx : ∀ u n, n ≤ me → nX Fr To (fl X 0 me) u n = 0 := fun u n => by
    induction n with
    | zero => intro _; rfl
    | succ n ih => intro hn; rw [nX, ih (by omega), h0 n (by omega)]; split <;> split <;> rfl
  have hsu : ∀ v, v < nv → mFl true Fr To me Su nv v = gSur Fr To v me := fun v hv => by unfold mFl; rw [if_pos hv, gSur_bal]
  have hpot : qPot (fArcs (cdE qB 1 We) Fr To (fl X 0 me) me) (fun _ => 0) := fun a ha => by
    obtain ⟨i, hi, r | ⟨hp, r⟩⟩ := fArcs_mem.mp ha
    · subst r
      show (0 : Int) ≤ 0 + cdE qB 1 We i
      unfold cdE
      have h1 : 0 ≤ qB ^ (39 - i) := Int.le_of_lt (Int.pow_pos (by decide))
      have h2 : 0 ≤ 1 * ((We i : Nat) : Int) * qB ^ 40 := Int.mul_nonneg (by omega) (Int.le_of_lt (Int.pow_pos (by decide)))
      omega
    · rw [h0 i hi] at hp; omega
  have hI : fI (cdE qB 1 We) Fr To nv me (fl X 0 me) (mFl true Fr To me Su nv) := ⟨fun e he => by rw [h0 e he]; exact Int.le_refl _, fun v hv => by rw [hsu v hv, hnx v me (Nat.le_refl _)]; omega, _, hpot⟩
  obtain ⟨s1, s2⟩ := spread_q (dir := true) hWe hn hme hFn hTn hpot (mFl true Fr To me Su nv) ρ
  refine ⟨s1, fun L hL Z hZ => ?_⟩
  rw [← hL] at s2
  have ht : tpS (mFl true Fr To me Su nv) nv < 41 := by
    rw [tpS_ext (g := fun v => gSur Fr To v me) nv hsu]
    have := tpS_sur Fr To me nv; omega
  obtain ⟨a1, a2, a3, a4⟩ := fLp_q (dir := true) hWe hn hme hFn hTn hSC 41 (fl X 0 me, mFl true Fr To me Su nv, (L.1, L.2.1, L.2.2.1, (mNr L.1 L.2.2.1 (mFl true Fr To me Su nv) L.2.2.2 nv).1), (mNr L.1 L.2.2.1 (mFl true Fr To me Su nv) L.2.2.2 nv).2) hI s2 (mNr_q nv) ht
  rw [← hZ] at a1 a2 a3 a4
  refine ⟨a1, a2.1, fun u => ?_, a2.2.2, fun e he => ?_⟩
  · by_cases hu : u < nv
    · have := a2.2.1 u hu; rw [a3 u hu] at this; omega
    · have hno : mHas Fr To u me ≠ true := fun q => hu (has_lt hFn hTn q)
      rw [nX_none _ hno, gSur_nX, nX_none _ hno]; rfl
  · rw [a4 e he]; show fl X 0 me e = X e
    unfold fl; rw [if_neg (by omega)]
theorem sc_cover {Fr To We : Nat → Nat} {nv me : Nat} (hn : nv ≤ 16) (hF : ∀ j, Fr j < 16) (hT : ∀ j, To j < 16) (hW : ∀ j, We j ≤ 1000000000) (hFn : ∀ j, j < me → Fr j < nv) (hTn : ∀ j, j < me → To j < nv) (φ : (Nat → Int) × (Nat → Int)) {st : Nat} (hst : st < nv) (hc : mCovers Fr To nv me (mMeas true Fr To We nv me φ).1 st = true) :
    ∀ a b, mHas Fr To a me = true → mHas Fr To b me = true → rN (gEd true false Fr To (fun _ => 1) me) a b := fun a b ha hb => by
  have hme0 : me ≠ 0 := fun e => by subst e; obtain ⟨k, hk, _⟩ := (mHas_iff 0).mp ha; omega
  unfold mCovers at hc; rw [if_neg hme0, mCv_iff] at hc
  have hU : ∀ k, k < me → (0 : Int) < (fun _ => 1) k := fun k _ => (by decide : (0 : Int) < 1)
  have hA := has_lt hFn hTn ha; have hB := has_lt hFn hTn hb
  have a1 := (mMeas_fin hn hF hT hW hFn hTn hU φ hA (show st < 16 by omega)).mp (hc.2 a hA ha).2
  have a2 := (mMeas_fin hn hF hT hW hFn hTn hU φ hst (show b < 16 by omega)).mp (hc.2 b hB hb).1
  exact rN_trans a1 a2
