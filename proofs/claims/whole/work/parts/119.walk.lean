theorem gStep_in {dir : Bool} {Fr To : Nat → Nat} {me i a : Nat} (hi : i < 2 * me) : gStep dir Fr To me ((i : Nat) : Int) a = if i % 2 = 0 then decide (Fr (i / 2) = a) else !dir && (decide (Fr (i / 2) ≠ To (i / 2)) && decide (To (i / 2) = a)) := by
  unfold gStep
  rw [if_neg (show ¬ (((i : Nat) : Int) / 2 < 0 ∨ (me : Int) ≤ ((i : Nat) : Int) / 2) by omega), show (((i : Nat) : Int) / 2).toNat = i / 2 by omega]
  by_cases h : i % 2 = 0
  · rw [if_pos (show ((i : Nat) : Int) % 2 = 0 by omega), if_pos h]
  · rw [if_neg (show ¬ ((i : Nat) : Int) % 2 = 0 by omega), if_neg h]
theorem gEnd_in {Fr To : Nat → Nat} {i : Nat} : gEnd Fr To ((i : Nat) : Int) = if i % 2 = 0 then To (i / 2) else Fr (i / 2) := by
  unfold gEnd
  rw [show (((i : Nat) : Int) / 2).toNat = i / 2 by omega]
  by_cases h : i % 2 = 0
  · rw [if_pos (show ((i : Nat) : Int) % 2 = 0 by omega), if_pos h]
  · rw [if_neg (show ¬ ((i : Nat) : Int) % 2 = 0 by omega), if_neg h]
theorem mGo_in {dir : Bool} {Fr To : Nat → Nat} {me i a : Nat} (hi : i < 2 * me) : mGo dir Fr To me a ((i : Nat) : Int) = if i % 2 = 0 then (if Fr (i / 2) = a then ((To (i / 2) : Nat) : Int) else -1) else if dir = false ∧ Fr (i / 2) ≠ To (i / 2) ∧ To (i / 2) = a then ((Fr (i / 2) : Nat) : Int) else -1 := by
  unfold mGo
  rw [if_neg (show ¬ (((i : Nat) : Int) < 0 ∨ 2 * (me : Int) ≤ ((i : Nat) : Int)) by omega)]
  rfl
theorem step_go {dir : Bool} {Fr To : Nat → Nat} {me i a : Nat} (hi : i < 2 * me) : (gStep dir Fr To me ((i : Nat) : Int) a = true → mGo dir Fr To me a ((i : Nat) : Int) = ((gEnd Fr To ((i : Nat) : Int) : Nat) : Int)) ∧ (gStep dir Fr To me ((i : Nat) : Int) a ≠ true → mGo dir Fr To me a ((i : Nat) : Int) = -1) := by
  rw [gStep_in hi, gEnd_in, mGo_in hi]
  by_cases h : i % 2 = 0
  · rw [if_pos h, if_pos h, if_pos h, ne_eq, decide_eq_true_iff]
    exact ⟨fun q => if_pos q, fun q => if_neg q⟩
  · rw [if_neg h, if_neg h, if_neg h]
    have e : (!dir && (decide (Fr (i / 2) ≠ To (i / 2)) && decide (To (i / 2) = a))) = true ↔ (dir = false ∧ Fr (i / 2) ≠ To (i / 2) ∧ To (i / 2) = a) := by
      rw [Bool.and_eq_true, Bool.and_eq_true, decide_eq_true_iff, decide_eq_true_iff]
      cases dir <;> simp
    exact ⟨fun q => if_pos (e.mp q), fun q => if_neg (fun z => q (e.mpr z))⟩
theorem up_dec {U Le : Nat → Int} {me : Nat} (h : ∀ k, k < me → U k = Le k) {e : Nat} (he : e < me) : ∀ k, k < me → va_up U e (U e - 1) k = va_up Le e (Le e - 1) k := fun k hk => by
  by_cases q : k = e
  · subst q; rw [up_at, up_at, h k hk]
  · rw [up_ne q, up_ne q, h k hk]
/-- an edge that is still there twice may be taken once -/
theorem hang_twice {dir : Bool} {Fr To : Nat → Nat} (hF : ∀ j, Fr j < 16) (hT : ∀ j, To j < 16) {U : Nat → Int} {me v i : Nat} (hv : v < 16) (hi : i < 2 * me) (h : gHang Fr To U me v = true) (hs : gStep dir Fr To me ((i : Nat) : Int) v = true) (h2 : 1 < U (i / 2)) :
    gHang Fr To (va_up U (i / 2) (U (i / 2) - 1)) me (gEnd Fr To ((i : Nat) : Int)) = true := by
  have hex : ∀ k, k < me → (0 < U k ↔ 0 < va_up U (i / 2) (U (i / 2) - 1) k) := fun k hk => by
    by_cases q : k = i / 2
    · subst q; rw [up_at]; omega
    · rw [up_ne q]
  rw [gHang_iff hF hT (gEnd_lt hF hT _)]
  have h := (gHang_iff hF hT hv).mp h
  intro k hk hU
  have h1 := rN_mono (fun a b => gEd_ext hex) (h k hk ((hex k hk).mpr hU))
  refine rN_trans ?_ h1
  have hg : gEd true true Fr To (va_up U (i / 2) (U (i / 2) - 1)) me v (gEnd Fr To ((i : Nat) : Int)) := by
    refine ⟨i / 2, by omega, (hex _ (by omega)).mp (by omega), ?_⟩
    rw [gStep_in hi] at hs; rw [gEnd_in]
    by_cases q : i % 2 = 0
    · rw [if_pos q] at hs ⊢; exact .inl ⟨rfl, of_decide_eq_true hs, rfl⟩
    · rw [if_neg q, Bool.and_eq_true, Bool.and_eq_true] at hs; rw [if_neg q]; exact .inr ⟨rfl, of_decide_eq_true hs.2.2, rfl⟩
  exact rN_one (gEd_sym hg)
theorem lWhole_eq {dir : Bool} {Fr To : Nat → Nat} (hF : ∀ j, Fr j < 16) (hT : ∀ j, To j < 16) {U Le : Nat → Int} {me v i : Nat} (hv : v < 16) (hi : i < 2 * me) (hUL : ∀ k, k < me → U k = Le k) (hL : ∀ k, k < me → 0 ≤ Le k) (h : gHang Fr To U me v = true) (hs : gStep dir Fr To me ((i : Nat) : Int) v = true) (h0 : 0 < U (i / 2)) (Gr : Nat → Nat) :
    lWhole Fr To U me i = mHg (mGroups Fr To (va_up Le (i / 2) (Le (i / 2) - 1)) me Gr) Fr (va_up Le (i / 2) (Le (i / 2) - 1)) (gEnd Fr To ((i : Nat) : Int)) me ∧ (lWhole Fr To U me i = true → gHang Fr To (va_up U (i / 2) (U (i / 2) - 1)) me (gEnd Fr To ((i : Nat) : Int)) = true) := by
  have e := hang_eq hF hT (U := va_up U (i / 2) (U (i / 2) - 1)) (Le := va_up Le (i / 2) (Le (i / 2) - 1)) (me := me) (up_dec hUL (by omega)) (fun k hk => by
    by_cases q : k = i / 2
    · subst q; rw [up_at]; have := hUL (i / 2) hk; omega
    · rw [up_ne q]; exact hL k hk) Gr (gEnd_lt hF hT ((i : Nat) : Int))
  rw [← e]
  unfold lWhole
  by_cases h2 : 1 < U (i / 2)
  · rw [if_pos h2]; have := hang_twice hF hT hv hi h hs h2
    exact ⟨this.symm, fun _ => this⟩
  · rw [if_neg h2]; exact ⟨rfl, fun q => q⟩
/-- one step of the walk -/
theorem walk_step {dir : Bool} {Fr To : Nat → Nat} (hF : ∀ j, Fr j < 16) (hT : ∀ j, To j < 16) {U : Nat → Int} {me v : Nat} (hv : v < 16) (h : gHang Fr To U me v = true) (k : Nat) (hk : k ≤ 2 * me) (κ : KS) (hUL : ∀ k, k < me → U k = κ.1 k) (hL : ∀ k, k < me → 0 ≤ κ.1 k) :
    (lStep dir Fr To U me v k < 0 ∧ (mW1 dir Fr To me v k κ).2 < 0 ∧ (mW1 dir Fr To me v k κ).1.2.2 = κ.2.2) ∨
    (∃ i, i < 2 * me ∧ lStep dir Fr To U me v k = ((i : Nat) : Int) ∧ 0 < U (i / 2) ∧ gHang Fr To (va_up U (i / 2) (U (i / 2) - 1)) me (gEnd Fr To ((i : Nat) : Int)) = true ∧
      (mW1 dir Fr To me v k κ).2 = ((gEnd Fr To ((i : Nat) : Int) : Nat) : Int) ∧ (mW1 dir Fr To me v k κ).1.1 = va_up κ.1 (i / 2) (κ.1 (i / 2) - 1) ∧ (mW1 dir Fr To me v k κ).1.2.2 = (va_up κ.2.2.1 κ.2.2.2 ((i : Nat) : Int), κ.2.2.2 + 1)) := by
  induction k generalizing κ with
  | zero => left; exact ⟨by show (-1 : Int) < 0; decide, by show (-1 : Int) < 0; decide, rfl⟩
  | succ k ih =>
    have hi : 2 * me - (k + 1) < 2 * me := by omega
    have hu := hUL ((2 * me - (k + 1)) / 2) (by omega)
    obtain ⟨s1, s2⟩ := step_go (dir := dir) (Fr := Fr) (To := To) (a := v) hi
    rw [lStep, mW1]
    by_cases c0 : 0 < U ((2 * me - (k + 1)) / 2)
    · by_cases c1 : gStep dir Fr To me ((2 * me - (k + 1) : Nat) : Int) v = true
      · have eU : mU dir Fr To me v κ.1 (2 * me - (k + 1)) = ((gEnd Fr To ((2 * me - (k + 1) : Nat) : Int) : Nat) : Int) := by
          unfold mU; rw [if_pos (by omega)]; exact s1 c1
        obtain ⟨w1, w2⟩ := lWhole_eq hF hT hv hi hUL hL h c1 c0 κ.2.1
        rw [eU, if_neg (show ¬ (((gEnd Fr To ((2 * me - (k + 1) : Nat) : Int) : Nat) : Int) < 0) by omega), show (((gEnd Fr To ((2 * me - (k + 1) : Nat) : Int) : Nat) : Int)).toNat = gEnd Fr To ((2 * me - (k + 1) : Nat) : Int) from rfl, ← w1]
        by_cases c2 : lWhole Fr To U me (2 * me - (k + 1)) = true
        · rw [if_pos ⟨c0, c1, c2⟩, if_pos c2]
          right; exact ⟨2 * me - (k + 1), hi, rfl, c0, w2 c2, rfl, rfl, rfl⟩
        · rw [if_neg (fun q => c2 q.2.2), if_neg c2]
          rcases ih (by omega) (κ.1, mGroups Fr To (va_up κ.1 ((2 * me - (k + 1)) / 2) (κ.1 ((2 * me - (k + 1)) / 2) - 1)) me κ.2.1, κ.2.2.1, κ.2.2.2) hUL hL with q | q
          · left; exact q
          · right; exact q
      · have eU : mU dir Fr To me v κ.1 (2 * me - (k + 1)) = -1 := by
          unfold mU; rw [if_pos (by omega)]; exact s2 c1
        rw [eU, if_pos (show (-1 : Int) < 0 by decide), if_neg (fun q => c1 q.2.1)]
        exact ih (by omega) κ hUL hL
    · have eU : mU dir Fr To me v κ.1 (2 * me - (k + 1)) = -1 := by
        unfold mU; rw [if_neg (by omega)]
      rw [eU, if_pos (show (-1 : Int) < 0 by decide), if_neg (fun q => c0 q.1)]
      exact ih (by omega) κ hUL hL
theorem walk_loop {dir : Bool} {Fr To : Nat → Nat} (hF : ∀ j, Fr j < 16) (hT : ∀ j, To j < 16) {me : Nat} (n m k : Nat) (ω : (Nat → Int) × (Nat → Int) × Nat) (κ : KS) (hv : ω.2.2 < 16) (h : gHang Fr To ω.2.1 me ω.2.2 = true) (hUL : ∀ k, k < me → ω.2.1 k = κ.1 k) (hL : ∀ k, k < me → 0 ≤ κ.1 k)
    (hk : κ.2.2.2 = k) (hr : ∀ j, j < k → ω.1 j = κ.2.2.1 j) (hn : lS κ.1 me ≤ n) (hm : lS κ.1 me < m) :
    (wLoop dir Fr To me n k ω).1 = (mW dir Fr To me m κ ω.2.2).2.2.2 ∧ (∀ j, j < (wLoop dir Fr To me n k ω).1 → (wLoop dir Fr To me n k ω).2.1 j = (mW dir Fr To me m κ ω.2.2).2.2.1 j) ∧ (wLoop dir Fr To me n k ω).1 ≤ k + lS κ.1 me ∧ (wLoop dir Fr To me n k ω).2.2.2 < 16 := by
  induction m generalizing n k ω κ with
  | zero => omega
  | succ m ih =>
    rw [mW]
    rcases walk_step (dir := dir) hF hT hv h (2 * me) (Nat.le_refl _) κ hUL hL with ⟨a, b, c⟩ | ⟨i, hi, a, b, c, d, e, f⟩
    · rw [if_pos b, c]
      have : wLoop dir Fr To me n k ω = (k, ω) := by
        cases n with
        | zero => rfl
        | succ n => rw [wLoop, if_pos a]
      rw [this]
      exact ⟨hk.symm, hr, by show k ≤ _; omega, hv⟩
    · have hd : lS (mW1 dir Fr To me ω.2.2 (2 * me) κ).1.1 me + 1 = lS κ.1 me := by
        rw [e]; exact lS_dec (by omega) (by rw [← hUL (i / 2) (by omega)]; exact b)
      rw [if_neg (by rw [d]; omega), d]
      cases n with
      | zero => omega
      | succ n =>
        rw [wLoop, if_neg (by rw [a]; omega)]
        have eω : wNext dir Fr To me k ω = (va_up ω.1 k ((i : Nat) : Int), va_up ω.2.1 (i / 2) (ω.2.1 (i / 2) - 1), gEnd Fr To ((i : Nat) : Int)) := by
          unfold wNext; rw [a, show (((i : Nat) : Int) / 2).toNat = i / 2 by omega]
        rw [eω]
        have := ih n (k + 1) (va_up ω.1 k ((i : Nat) : Int), va_up ω.2.1 (i / 2) (ω.2.1 (i / 2) - 1), gEnd Fr To ((i : Nat) : Int)) (mW1 dir Fr To me ω.2.2 (2 * me) κ).1 (gEnd_lt hF hT _) c
          (by rw [e]; exact up_dec hUL (by omega))
          (by rw [e]; intro q hq
              by_cases z : q = i / 2
              · subst z; rw [up_at]; have := hUL (i / 2) hq; omega
              · rw [up_ne z]; exact hL q hq)
          (by rw [f]; show κ.2.2.2 + 1 = k + 1; rw [hk])
          (by rw [f]; intro j hj; show va_up ω.1 k _ j = va_up κ.2.2.1 κ.2.2.2 _ j
              rw [hk]
              by_cases z : j = k
              · subst z; rw [up_at, up_at]
              · rw [up_ne z, up_ne z]; exact hr j (by omega))
          (by omega) (by omega)
        obtain ⟨t1, t2, t3, t4⟩ := this
        exact ⟨t1, t2, by omega, t4⟩
/-- both write the same row -/
theorem row_eq {dir : Bool} {Fr To : Nat → Nat} (hF : ∀ j, Fr j < 16) (hT : ∀ j, To j < 16) {me : Nat} {U Le : Nat → Int} {v : Nat} (hv : v < 16) (h : gHang Fr To U me v = true) (hUL : ∀ k, k < me → U k = Le k) (hL : ∀ k, k < me → 0 ≤ Le k) (hn : lS Le me ≤ 640) (Lz Rw : Nat → Int) (Gr : Nat → Nat) :
    (wRow dir Fr To me Lz U v).1 = (mWalk dir Fr To me Le Gr Rw v).2.2.2 ∧ (∀ j, j < (wRow dir Fr To me Lz U v).1 → (wRow dir Fr To me Lz U v).2.1 j = (mWalk dir Fr To me Le Gr Rw v).2.2.1 j) ∧ (wRow dir Fr To me Lz U v).1 ≤ 640 := by
  obtain ⟨a, b, c, _⟩ := walk_loop (dir := dir) hF hT 640 2001 0 (Lz, U, v) (Le, Gr, Rw, 0) hv h hUL hL rfl (fun j hj => by omega) hn (show lS Le me < 2001 by omega)
  exact ⟨a, b, by have c : _ ≤ 0 + lS Le me := c; exact Nat.le_trans c (by omega)⟩
