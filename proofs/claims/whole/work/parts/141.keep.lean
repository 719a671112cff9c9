theorem lStep_q {dir : Bool} {Fr To : Nat → Nat} {U : Nat → Int} {me a : Nat} (k : Nat) (hk : k ≤ 2 * me) : lStep dir Fr To U me a k = -1 ∨ ∃ i : Nat, i < 2 * me ∧ lStep dir Fr To U me a k = ((i : Nat) : Int) ∧ 0 < U (i / 2) := by
  induction k with
  | zero => left; rfl
  | succ k ih =>
    rw [lStep]
    by_cases c : 0 < U ((2 * me - (k + 1)) / 2) ∧ gStep dir Fr To me ((2 * me - (k + 1) : Nat) : Int) a = true ∧ lWhole Fr To U me (2 * me - (k + 1)) = true
    · rw [if_pos c]; right; exact ⟨2 * me - (k + 1), by omega, rfl, c.1⟩
    · rw [if_neg c]; exact ih (by omega)
/-- what the walk leaves is in range -/
theorem wLoop_rng {dir : Bool} {Fr To : Nat → Nat} {me : Nat} (hme : me ≤ 40) (n k : Nat) (ω : (Nat → Int) × (Nat → Int) × Nat) (h1 : ∀ j, -2147483648 ≤ ω.1 j ∧ ω.1 j < 2147483648) (h2 : ∀ j, -10000 ≤ ω.2.1 j ∧ ω.2.1 j ≤ 10000) :
    (∀ j, -2147483648 ≤ (wLoop dir Fr To me n k ω).2.1 j ∧ (wLoop dir Fr To me n k ω).2.1 j < 2147483648) ∧ ∀ j, -10000 ≤ (wLoop dir Fr To me n k ω).2.2.1 j ∧ (wLoop dir Fr To me n k ω).2.2.1 j ≤ 10000 := by
  induction n generalizing k ω with
  | zero => exact ⟨h1, h2⟩
  | succ n ih =>
    rw [wLoop]
    rcases lStep_q (dir := dir) (Fr := Fr) (To := To) (U := ω.2.1) (a := ω.2.2) (2 * me) (Nat.le_refl _) with e | ⟨i, hi, e, hp⟩
    · rw [if_pos (by rw [e]; decide)]; exact ⟨h1, h2⟩
    · rw [if_neg (by rw [e]; omega)]
      refine ih _ _ ?_ ?_
      · unfold wNext; rw [e]
        exact up_all (P := fun x => -2147483648 ≤ x ∧ x < 2147483648) h1 (by omega)
      · unfold wNext; rw [e, show (((i : Nat) : Int) / 2).toNat = i / 2 by omega]
        exact up_all (P := fun x => -10000 ≤ x ∧ x ≤ 10000) h2 (by have := h2 (i / 2); omega)
theorem wRow_rng {dir : Bool} {Fr To : Nat → Nat} {me : Nat} (hme : me ≤ 40) {Lz U : Nat → Int} (a : Nat) (h1 : ∀ j, -2147483648 ≤ Lz j ∧ Lz j < 2147483648) (h2 : ∀ j, -10000 ≤ U j ∧ U j ≤ 10000) :
    (∀ j, -2147483648 ≤ (wRow dir Fr To me Lz U a).2.1 j ∧ (wRow dir Fr To me Lz U a).2.1 j < 2147483648) ∧ ∀ j, -10000 ≤ (wRow dir Fr To me Lz U a).2.2.1 j ∧ (wRow dir Fr To me Lz U a).2.2.1 j ≤ 10000 := wLoop_rng hme 640 0 (Lz, U, a) h1 h2
def kRng (κ : KS) : Prop := (∀ j, 0 ≤ κ.1 j ∧ κ.1 j ≤ 10000) ∧ (∀ j, κ.2.1 j < 65536) ∧ ∀ j, -2147483648 ≤ κ.2.2.1 j ∧ κ.2.2.1 j < 2147483648
theorem mW1_rng {dir : Bool} {Fr To : Nat → Nat} (hF : ∀ j, Fr j < 16) (hT : ∀ j, To j < 16) {me v : Nat} (hme : me ≤ 40) (k : Nat) (hk : k ≤ 2 * me) (κ : KS) (h : kRng κ) : kRng (mW1 dir Fr To me v k κ).1 := by
  induction k generalizing κ with
  | zero => exact h
  | succ k ih =>
    rw [mW1]
    by_cases c : mU dir Fr To me v κ.1 (2 * me - (k + 1)) < 0
    · rw [if_pos c]; exact ih (by omega) κ h
    · rw [if_neg c]
      have hp : 0 < κ.1 ((2 * me - (k + 1)) / 2) := by
        apply Classical.byContradiction; intro q
        apply c; unfold mU; rw [if_neg q]; decide
      have hg := mGroups_b (Le := va_up κ.1 ((2 * me - (k + 1)) / 2) (κ.1 ((2 * me - (k + 1)) / 2) - 1)) (me := me) hF hT h.2.1
      split
      · refine ⟨up_all (P := fun x => 0 ≤ x ∧ x ≤ 10000) h.1 (by have := h.1 ((2 * me - (k + 1)) / 2); omega), hg, up_all (P := fun x => -2147483648 ≤ x ∧ x < 2147483648) h.2.2 (by omega)⟩
      · exact ih (by omega) _ ⟨h.1, hg, h.2.2⟩
theorem mW_rng {dir : Bool} {Fr To : Nat → Nat} (hF : ∀ j, Fr j < 16) (hT : ∀ j, To j < 16) {me : Nat} (hme : me ≤ 40) (n : Nat) (κ : KS) (v : Nat) (h : kRng κ) : kRng (mW dir Fr To me n κ v) := by
  induction n generalizing κ v with
  | zero => exact h
  | succ n ih =>
    have h1 := mW1_rng (dir := dir) (v := v) hF hT hme (2 * me) (Nat.le_refl _) κ h
    rw [mW]; split
    · exact h1
    · exact ih _ _ h1
/-- sending changes no balance outside the graph -/
theorem bLoop_out {dir : Bool} {Fr To We : Nat → Nat} {nv me : Nat} (n : Nat) (β : BS) (v : Nat) (hv : nv ≤ v) : (bLoop dir Fr To We nv me n β).2.1 v = β.2.1 v := by
  induction n generalizing β with
  | zero => rfl
  | succ n ih =>
    rw [bLoop]
    by_cases c : bLw β.2.1 1 nv nv < 0 ∨ bLw β.2.1 (-1) nv nv < 0
    · rw [if_pos c]
    · rw [if_neg c, ih]
      have s1 := ((bLw_q (Su := β.2.1) (sg := 1) nv (Nat.le_refl _)).1 (by omega)).1
      have t1 := ((bLw_q (Su := β.2.1) (sg := -1) nv (Nat.le_refl _)).1 (by omega)).1
      show va_up (va_up β.2.1 _ _) _ _ v = _
      rw [up_ne (by omega), up_ne (by omega)]
theorem bFind_Su {Fr To We : Nat → Nat} {nv me : Nat} (hn : nv ≤ 16) (hme : me ≤ 40) (hF : ∀ j, Fr j < 16) (hT : ∀ j, To j < 16) (hW : ∀ j, We j ≤ 1000000000) (hFn : ∀ j, j < me → Fr j < nv) (hTn : ∀ j, j < me → To j < nv) (hSC : ∀ a b, mHas Fr To a me = true → mHas Fr To b me = true → rN (gEd true false Fr To (fun _ => 1) me) a b)
    {X Su : Nat → Int} {σ : DS} (h : ∀ j, -80 ≤ Su j ∧ Su j ≤ 80) : ∀ j, -80 ≤ (bFind true Fr To We nv me X Su σ).2.1 j ∧ (bFind true Fr To We nv me X Su σ).2.1 j ≤ 80 := by
  have h0 : ∀ e, e < me → fl X 0 40 e = 0 := fun e he => by unfold fl; rw [if_pos (by omega)]
  have hnx : ∀ u n, n ≤ me → nX Fr To (fl X 0 40) u n = 0 := fun u n => by
    induction n with
    | zero => intro _; rfl
    | succ n ih => intro hn; rw [nX, ih (by omega), h0 n (by omega)]; split <;> split <;> rfl
  have hsu : ∀ v, v < nv → bFill Fr To me Su nv v = gSur Fr To v me := fun v hv => by unfold bFill; rw [if_pos hv]
  obtain ⟨_, a2, _, _⟩ := bLoop_q hn hme hF hT hW hFn hTn hSC 40 (fl X 0 40, bFill Fr To me Su nv, σ) ⟨fun e he => by show 0 ≤ fl X 0 40 e; rw [h0 e he]; exact Int.le_refl _, fun v hv => by
      show bFill Fr To me Su nv v = gSur Fr To v me + nX Fr To (fl X 0 40) v me
      rw [hsu v hv, hnx v me (Nat.le_refl _)]; omega, fun _ => 0, fun a ha => by
      obtain ⟨i, hi, r | ⟨hp, r⟩⟩ := fArcs_mem.mp ha
      · subst r
        show (0 : Int) ≤ 0 + cdE 2 1048576 We i
        unfold cdE
        have : 0 ≤ (2 : Int) ^ (39 - i) := (pow39p i).1
        have : (2 : Int) ^ 40 = 1099511627776 := by decide
        omega
      · have hp : 0 < fl X 0 40 i := hp
        rw [h0 i hi] at hp; omega⟩ (by
      show tpS (bFill Fr To me Su nv) nv ≤ _
      rw [tpS_ext (g := fun v => gSur Fr To v me) nv hsu]
      have := tpS_sur Fr To me nv; omega)
  intro j
  by_cases hj : j < nv
  · have : (bFind true Fr To We nv me X Su σ).2.1 j = 0 := a2 j hj
    rw [this]; decide
  · have : (bFind true Fr To We nv me X Su σ).2.1 j = Su j := by
      show (bLoop true Fr To We nv me 40 (fl X 0 40, bFill Fr To me Su nv, σ)).2.1 j = Su j
      rw [bLoop_out 40 _ j (by omega)]
      show bFill Fr To me Su nv j = Su j
      unfold bFill; rw [if_neg hj]
    rw [this]; exact h j
