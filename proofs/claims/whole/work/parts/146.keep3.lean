/-- what a directed round leaves in the reference stays in range -/
theorem flow_keep {Fr To We : Nat → Nat} (hWe : ∀ j, We j ≤ 1000000000) {nv me : Nat} (hn : nv ≤ 16) (hme : me ≤ 40) (hFn : ∀ j, j < me → Fr j < nv) (hTn : ∀ j, j < me → To j < nv) (hSC : ∀ a b, mHas Fr To a me = true → mHas Fr To b me = true → rN (gEd true false Fr To (fun _ => 1) me) a b)
    (X Su : Nat → Int) (ρ : RS) (hSu : ∀ j, -1000000 ≤ Su j ∧ Su j ≤ 1000000) (hρ : rR ρ) (hBy : ∀ j, -1 ≤ ρ.2.1 j ∧ ρ.2.1 j < 80) :
    ∀ L, L = (sLp true Fr To We (fl X 0 me) me 17 (sIn (mFl true Fr To me Su nv) ρ nv)).1 → ∀ Z, Z = fLp true Fr To We nv me 17 41 (fl X 0 me, mFl true Fr To me Su nv, (L.1, L.2.1, L.2.2.1, (mNr L.1 L.2.2.1 (mFl true Fr To me Su nv) L.2.2.2 nv).1), (mNr L.1 L.2.2.1 (mFl true Fr To me Su nv) L.2.2.2 nv).2) →
      (∀ j, -1000000 ≤ Z.1.2.1 j ∧ Z.1.2.1 j ≤ 1000000) ∧ rR Z.1.2.2.1 ∧ ∀ j, -1 ≤ Z.1.2.2.1.2.1 j ∧ Z.1.2.2.1.2.1 j < 80 := by
  intro L hL Z hZ
  have h0 : ∀ e, e < me → fl X 0 me e = 0 := fun e he => by unfold fl; rw [if_pos he]
  have hnx : ∀ u n, n ≤ me → nX Fr To (fl X 0 me) u n = 0 := fun u n => by
    induction n with
    | zero => intro _; rfl
    | succ n ih => intro hn; rw [nX, ih (by omega), h0 n (by omega)]; split <;> split <;> rfl
  have hsu : ∀ v, v < nv → mFl true Fr To me Su nv v = gSur Fr To v me := fun v hv => by unfold mFl; rw [if_pos hv, gSur_bal]
  have hpot : qPot (fArcs (cdE qB 1 We) Fr To (fl X 0 me) me) (fun _ => 0) := fun a ha => by
    obtain ⟨i, hi, r | ⟨hp, r⟩⟩ := fArcs_mem.mp ha
    · subst r
      show (0 : Int) ≤ 0 + cdE qB 1 We i
      unfold cdE
      have h1 : 0 ≤ qB ^ (39 - i) := Int.le_of_lt (Int.pow_pos (by decide))
      have h2 : 0 ≤ 1 * ((We i : Nat) : Int) * qB ^ 40 := Int.mul_nonneg (by omega) (Int.le_of_lt (Int.pow_pos (by decide)))
      omega
    · rw [h0 i hi] at hp; omega
  have hI : fI (cdE qB 1 We) Fr To nv me (fl X 0 me) (mFl true Fr To me Su nv) := ⟨fun e he => by rw [h0 e he]; exact Int.le_refl _, fun v hv => by rw [hsu v hv, hnx v me (Nat.le_refl _)]; omega, _, hpot⟩
  obtain ⟨s1, s2⟩ := spread_q (dir := true) hWe hn hme hFn hTn hpot (mFl true Fr To me Su nv) ρ
  have r1 := sLp_R (dir := true) (Fr := Fr) (To := To) (We := We) (X := fl X 0 me) (me := me) 17 (sIn_R (Su := mFl true Fr To me Su nv) hρ nv)
  have r2 := sLp_By (dir := true) (Fr := Fr) (To := To) (We := We) (X := fl X 0 me) (me := me) hme (n := 17) (sIn_By (Su := mFl true Fr To me Su nv) hBy nv)
  rw [← hL] at s2 r1 r2
  have ht : tpS (mFl true Fr To me Su nv) nv < 41 := by
    rw [tpS_ext (g := fun v => gSur Fr To v me) nv hsu]
    have := tpS_sur Fr To me nv; omega
  obtain ⟨_, _, a3, _⟩ := fLp_q (dir := true) hWe hn hme hFn hTn hSC 41 (fl X 0 me, mFl true Fr To me Su nv, (L.1, L.2.1, L.2.2.1, (mNr L.1 L.2.2.1 (mFl true Fr To me Su nv) L.2.2.2 nv).1), (mNr L.1 L.2.2.1 (mFl true Fr To me Su nv) L.2.2.2 nv).2) hI s2 (mNr_q nv) ht
  have b3 := fLp_out (dir := true) hWe hn hme hFn hTn hSC 41 (fl X 0 me, mFl true Fr To me Su nv, (L.1, L.2.1, L.2.2.1, (mNr L.1 L.2.2.1 (mFl true Fr To me Su nv) L.2.2.2 nv).1), (mNr L.1 L.2.2.1 (mFl true Fr To me Su nv) L.2.2.2 nv).2) hI s2 (mNr_q nv)
  obtain ⟨c1, c2⟩ := fLp_rng (dir := true) (Fr := Fr) (To := To) (We := We) (nv := nv) (me := me) (N := 17) hme 41 (fl X 0 me, mFl true Fr To me Su nv, (L.1, L.2.1, L.2.2.1, (mNr L.1 L.2.2.1 (mFl true Fr To me Su nv) L.2.2.2 nv).1), (mNr L.1 L.2.2.1 (mFl true Fr To me Su nv) L.2.2.2 nv).2) ⟨r1.1, mNr_R r1.1 r1.2 nv⟩ r2
  rw [← hZ] at a3 b3 c1 c2
  refine ⟨fun j => ?_, c1, c2⟩
  by_cases hj : j < nv
  · rw [a3 j hj]; decide
  · rw [b3 j (by omega)]
    show -1000000 ≤ mFl true Fr To me Su nv j ∧ mFl true Fr To me Su nv j ≤ 1000000
    unfold mFl; rw [if_neg hj]; exact hSu j
