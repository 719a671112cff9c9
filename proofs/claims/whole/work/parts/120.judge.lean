theorem step_all {dir : Bool} {Fr To : Nat → Nat} {me a : Nat} (z : Int) : (gStep dir Fr To me z a = true → ∃ i : Nat, z = (i : Int) ∧ i < 2 * me ∧ mGo dir Fr To me a z = ((gEnd Fr To z : Nat) : Int)) ∧ (gStep dir Fr To me z a = false → mGo dir Fr To me a z = -1) := by
  by_cases h : z < 0 ∨ 2 * (me : Int) ≤ z
  · have h1 : gStep dir Fr To me z a = false := by unfold gStep; rw [if_pos (by omega)]
    have h2 : mGo dir Fr To me a z = -1 := by unfold mGo; rw [if_pos h]
    rw [h1]; exact ⟨fun q => (by cases q), fun _ => h2⟩
  · have e : z = ((z.toNat : Nat) : Int) := by omega
    have hi : z.toNat < 2 * me := by omega
    obtain ⟨s1, s2⟩ := step_go (dir := dir) (Fr := Fr) (To := To) (a := a) hi
    rw [← e] at s1 s2
    exact ⟨fun q => ⟨z.toNat, e, hi, s1 q⟩, fun q => s2 (by rw [q]; decide)⟩
theorem jIt_ng {dir : Bool} {Fr To We : Nat → Nat} {me : Nat} {Pz : Nat → Int} {pn : Nat} (n : Nat) (ν : (Nat → Int) × Int × Int) (h : ν.2.1 < 0) : jIt dir Fr To We me Pz pn n ν = ν := by
  induction n with
  | zero => rfl
  | succ n ih => rw [jIt, jN, if_pos h]; exact ih
theorem vCov_iff {U : Nat → Int} {n : Nat} (k : Nat) (hk : k ≤ n) : vCov U n k = true ↔ ∀ j, n - k ≤ j → j < n → U j ≠ 0 := by
  induction k with
  | zero => exact ⟨fun _ j a b => by omega, fun _ => rfl⟩
  | succ k ih =>
    rw [vCov]
    by_cases h : U (n - (k + 1)) = 0
    · rw [if_pos h]; exact ⟨fun q => (by cases q), fun q => absurd h (q _ (Nat.le_refl _) (by omega))⟩
    · rw [if_neg h, ih (by omega)]
      constructor
      · intro q j a b
        by_cases e : j = n - (k + 1)
        · subst e; exact h
        · exact q j (by omega) b
      · intro q j a b; exact q j (by omega) b
theorem jAll_iff {Le : Nat → Int} (n : Nat) : jAll Le n = true ↔ ∀ j, j < n → Le j = 0 := by
  induction n with
  | zero => exact ⟨fun _ j a => by omega, fun _ => rfl⟩
  | succ n ih =>
    rw [jAll, Bool.and_eq_true, ih, decide_eq_true_iff]
    constructor
    · rintro ⟨a, b⟩ j hj
      by_cases e : j = n
      · subst e; exact b
      · exact a j (by omega)
    · intro h; exact ⟨fun j hj => h j (by omega), h n (by omega)⟩
theorem judge_loop {dir : Bool} {Fr To We : Nat → Nat} {me : Nat} {Pz Qz : Nat → Int} {pn start : Nat} (hP : ∀ j, j < pn → Pz j = Qz j) (n : Nat) (hn : n ≤ pn) (ν : (Nat → Int) × Nat × Int) (μ : (Nat → Int) × Int × Int) (h1 : μ.2.1 = ((ν.2.1 : Nat) : Int)) (h2 : μ.2.2 = ν.2.2) (h3 : ∀ k, k < me → 0 ≤ ν.1 k ∧ (μ.1 k = 0 ↔ ν.1 k ≠ 0)) :
    (vLoop dir Fr To We me Pz pn start n ν).2 = jVer me ((start : Nat) : Int) (jIt dir Fr To We me Qz pn n μ) := by
  induction n generalizing ν μ with
  | zero =>
    rw [vLoop, jIt, jVer, h1, if_neg (show ¬ (((ν.2.1 : Nat) : Int) < 0) by omega)]
    by_cases e : ν.2.1 = start
    · rw [if_pos e, if_neg (show ¬ (((ν.2.1 : Nat) : Int) ≠ ((start : Nat) : Int)) by rw [e]; exact fun q => q rfl), h2]
      show (if vCov ν.1 me me = true then ν.2.2 else -3) = _
      have : vCov ν.1 me me = true ↔ jAll μ.1 me = true := by
        rw [vCov_iff me (Nat.le_refl _), jAll_iff]
        exact ⟨fun q j hj => (h3 j hj).2.mpr (q j (by omega) hj), fun q j _ hj => (h3 j hj).2.mp (q j hj)⟩
      by_cases q : vCov ν.1 me me = true
      · rw [if_pos q, if_pos (this.mp q)]
      · rw [if_neg q, if_neg (fun z => q (this.mpr z))]
    · rw [if_neg e, if_pos (show ((ν.2.1 : Nat) : Int) ≠ ((start : Nat) : Int) by omega)]
  | succ n ih =>
    rw [vLoop, jIt, jN, h1, if_neg (show ¬ (((ν.2.1 : Nat) : Int) < 0) by omega), ← hP (pn - (n + 1)) (by omega), show (((ν.2.1 : Nat) : Int)).toNat = ν.2.1 from rfl]
    obtain ⟨s1, s2⟩ := step_all (dir := dir) (Fr := Fr) (To := To) (me := me) (a := ν.2.1) (Pz (pn - (n + 1)))
    cases hs : gStep dir Fr To me (Pz (pn - (n + 1))) ν.2.1 with
    | false =>
      rw [if_pos rfl, s2 hs, if_pos (show (-1 : Int) < 0 by decide), jIt_ng n _ (show (-1 : Int) < 0 by decide)]
      show -1 = jVer me _ (μ.1, (-1 : Int), μ.2.2)
      rw [jVer, if_pos (show (-1 : Int) < 0 by decide)]
    | true =>
      obtain ⟨i, e, hi, hg⟩ := s1 hs
      rw [if_neg (show ¬ (true = false) by decide), hg, if_neg (show ¬ (((gEnd Fr To (Pz (pn - (n + 1))) : Nat) : Int) < 0) by omega)]
      have ez : (Pz (pn - (n + 1)) / 2).toNat = i / 2 := by rw [e]; omega
      have ez' : (Pz (pn - (n + 1))).toNat / 2 = i / 2 := by rw [e]; rfl
      apply ih (by omega)
      · rfl
      · show μ.2.2 + _ = ν.2.2 + _; rw [h2, ez, ez']
      · intro k hk
        show 0 ≤ va_up ν.1 (Pz (pn - (n + 1)) / 2).toNat (ν.1 (Pz (pn - (n + 1)) / 2).toNat + 1) k ∧ (va_up μ.1 ((Pz (pn - (n + 1))).toNat / 2) 0 k = 0 ↔ va_up ν.1 (Pz (pn - (n + 1)) / 2).toNat (ν.1 (Pz (pn - (n + 1)) / 2).toNat + 1) k ≠ 0)
        rw [ez, ez']
        have := h3 k hk
        by_cases q : k = i / 2
        · subst q; rw [up_at, up_at]; omega
        · rw [up_ne q, up_ne q]; exact this
/-- both judge alike -/
theorem judge_eq {dir : Bool} {Fr To We : Nat → Nat} {me : Nat} (hme : me ≤ 40) {Pz Qz : Nat → Int} {pn start : Nat} (hP : ∀ j, j < pn → Pz j = Qz j) (U Le : Nat → Int) (hL : ∀ k, k < me → Le k = 1) :
    (vRun dir Fr To We me Pz pn start U).2 = jVer me ((start : Nat) : Int) (jIt dir Fr To We me Qz pn pn (Le, ((start : Nat) : Int), 0)) :=
  judge_loop hP pn (Nat.le_refl _) _ _ rfl rfl (fun k hk => by
    show 0 ≤ fl U 0 40 k ∧ (Le k = 0 ↔ fl U 0 40 k ≠ 0)
    unfold fl; rw [if_pos (by omega), hL k hk]; decide)
