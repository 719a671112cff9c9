theorem gSur_bal {Fr To : Nat → Nat} {v : Nat} (n : Nat) : gSur Fr To v n = mBal true Fr To v n := by
  induction n with
  | zero => rfl
  | succ n ih => rw [gSur, mBal, ih, if_pos rfl]; split <;> split <;> omega
theorem gSur_par {Fr To : Nat → Nat} {v : Nat} (n : Nat) : ∃ m : Int, mBal false Fr To v n = gSur Fr To v n + 2 * m ∧ 0 ≤ mBal false Fr To v n := by
  induction n with
  | zero => exact ⟨0, by rfl, Int.le_refl 0⟩
  | succ n ih =>
    obtain ⟨m, e, h⟩ := ih
    rw [mBal, gSur, if_neg (show ¬ (false = true) by decide)]
    by_cases q : Fr n = v
    · exact ⟨m + 1, by rw [if_pos q]; omega, by rw [if_pos q]; split <;> omega⟩
    · exact ⟨m, by rw [if_neg q]; omega, by rw [if_neg q]; split <;> omega⟩
theorem odd_eq (dir : Bool) (Fr To : Nat → Nat) (me v : Nat) : gIsOdd dir Fr To me v = mOdd dir Fr To me v := by
  unfold gIsOdd mOdd
  cases dir with
  | true => rw [if_pos rfl, if_pos rfl, gSur_bal]
  | false =>
    rw [if_neg (by decide), if_neg (by decide)]
    obtain ⟨m, e, h⟩ := gSur_par (Fr := Fr) (To := To) (v := v) me
    apply decide_eq_decide.mpr
    rw [Int.tmod_eq_emod_of_nonneg h, e]; omega
theorem gOddM_bt {dir : Bool} {Fr To : Nat → Nat} {me : Nat} (n k : Nat) : bt (gOddM dir Fr To me n) k ↔ k < n ∧ mOdd dir Fr To me k = true := by
  induction n with
  | zero => exact ⟨fun h => absurd h (bt_0 k), fun h => by omega⟩
  | succ n ih =>
    rw [gOddM]
    by_cases h : gIsOdd dir Fr To me n = true
    · rw [if_pos h, bt_or, bt_pow, ih]
      constructor
      · rintro (⟨a, b⟩ | a)
        · exact ⟨by omega, b⟩
        · subst a; exact ⟨by omega, by rw [← odd_eq]; exact h⟩
      · rintro ⟨a, b⟩
        by_cases e : k = n
        · exact .inr e.symm
        · exact .inl ⟨by omega, b⟩
    · rw [if_neg h, ih]
      constructor
      · rintro ⟨a, b⟩; exact ⟨by omega, b⟩
      · rintro ⟨a, b⟩
        by_cases e : k = n
        · subst e; rw [odd_eq] at h; exact absurd b h
        · exact ⟨by omega, b⟩
theorem bcN_cnt {r : Nat} {P : Nat → Bool} {f : Nat → Nat} (h0 : f 0 = 0) (hs : ∀ k, f (k + 1) = f k + (if P k = true then 1 else 0)) (n : Nat) (hb : ∀ k, k < n → (bt r k ↔ P k = true)) : bcN r n = f n := by
  induction n with
  | zero => rw [h0]; rfl
  | succ n ih =>
    rw [bcN, hs, ih (fun k hk => hb k (by omega))]
    congr 1
    have := hb n (by omega)
    by_cases q : P n = true
    · rw [if_pos q]; exact this.mpr q
    · rw [if_neg q]; have q' : ¬ bt r n := fun z => q (this.mp z)
      unfold bt at q'; omega
theorem bcN_more {r nv : Nat} (n : Nat) (h : ∀ k, nv ≤ k → k < nv + n → ¬ bt r k) : bcN r (nv + n) = bcN r nv := by
  induction n with
  | zero => rfl
  | succ n ih =>
    rw [show nv + (n + 1) = (nv + n) + 1 from rfl, bcN, ih (fun k a b => h k a (by omega))]
    have := h (nv + n) (by omega) (by omega); unfold bt at this; omega
theorem cntOdd_eq {dir : Bool} {Fr To : Nat → Nat} {me nv : Nat} (hn : nv ≤ 16) : bcN (gOddM dir Fr To me nv) 16 = mCnt dir Fr To me nv := by
  rw [show 16 = nv + (16 - nv) by omega, bcN_more _ (fun k a _ h => by have := (gOddM_bt nv k).mp h; omega)]
  exact bcN_cnt (P := mOdd dir Fr To me) (f := mCnt dir Fr To me) rfl (fun k => rfl) nv (fun k hk => (gOddM_bt nv k).trans ⟨fun h => h.2, fun h => ⟨hk, h⟩⟩)
theorem cntTo_eq {Fr To : Nat → Nat} {me nv : Nat} (hn : nv ≤ 16) (hFn : ∀ j, j < me → Fr j < nv) (hTn : ∀ j, j < me → To j < nv) {U : Nat → Int} (hU : ∀ k, k < me → 0 < U k) : bcN (gTouch Fr To U me) 16 = mTo Fr To me nv := by
  rw [show 16 = nv + (16 - nv) by omega, bcN_more _ (fun k a _ h => by have := has_lt hFn hTn ((touch_has hU k).mp h); omega)]
  exact bcN_cnt (P := fun k => mHas Fr To k me) (f := mTo Fr To me) rfl (fun k => rfl) nv (fun k _ => touch_has hU k)
theorem odd_none {dir : Bool} {Fr To : Nat → Nat} {me nv : Nat} : gOddM dir Fr To me nv = 0 ↔ mCnt dir Fr To me nv = 0 := by
  have hz : ∀ n, mCnt dir Fr To me n = 0 ↔ ∀ k, k < n → mOdd dir Fr To me k ≠ true := fun n => by
    induction n with
    | zero => exact ⟨fun _ k hk => by omega, fun _ => rfl⟩
    | succ n ih =>
      rw [mCnt]
      constructor
      · intro h k hk
        by_cases e : k = n
        · subst e; intro q; rw [if_pos q] at h; omega
        · exact ih.mp (by omega) k (by omega)
      · intro h
        rw [if_neg (h n (by omega)), ih.mpr (fun k hk => h k (by omega))]
  rw [hz nv]
  constructor
  · intro h k hk q
    have := (gOddM_bt (dir := dir) (Fr := Fr) (To := To) (me := me) nv k).mpr ⟨hk, q⟩
    rw [h] at this; exact bt_0 k this
  · intro h
    apply bt_ext; intro k
    exact ⟨fun q => by have := (gOddM_bt nv k).mp q; exact absurd this.2 (h k this.1), fun q => absurd q (bt_0 k)⟩
/-- counting bits byte by byte -/
def bcB (x : Nat) : Nat := (((x - (x / 2 &&& 85)) &&& 51) + ((x - (x / 2 &&& 85)) / 4 &&& 51)) % 16 + (((x - (x / 2 &&& 85)) &&& 51) + ((x - (x / 2 &&& 85)) / 4 &&& 51)) / 16
theorem bcB_ok : ∀ x, x < 256 → bcB x = bcN x 8 ∧ (x / 2 &&& 85) ≤ x ∧ (x - (x / 2 &&& 85)) &&& 51 ≤ 51 ∧ ((x - (x / 2 &&& 85)) &&& 51) + ((x - (x / 2 &&& 85)) / 4 &&& 51) ≤ 68 ∧ (((x - (x / 2 &&& 85)) &&& 51) + ((x - (x / 2 &&& 85)) / 4 &&& 51)) % 16 ≤ 4 := by decide +kernel
theorem and_85 : ∀ x, x < 128 → (x &&& 85) = ((x + 128) &&& 85) := by decide +kernel
theorem and_51 : ∀ x, x < 64 → ∀ y, y < 4 → ((x + 64 * y) &&& 51) = (x &&& 51) := by decide +kernel
theorem and_bytes (x m : Nat) : x &&& m = (x % 256 &&& m % 256) + 256 * (x / 256 &&& m / 256) := by
  have h1 := Nat.and_mod_two_pow (a := x) (b := m) (n := 8)
  have h2 := Nat.and_div_two_pow (a := x) (b := m) (n := 8)
  have e : (2 : Nat) ^ 8 = 256 := rfl
  rw [e] at h1 h2
  rw [← h1, ← h2]; omega
theorem and_lo {x : Nat} (m : Nat) (h : x < 256) : x &&& m = x &&& m % 256 := by
  rw [and_bytes x m, Nat.mod_eq_of_lt h, Nat.div_eq_of_lt h, Nat.zero_and]; rfl
theorem bc1_b {a b : Nat} (ha : a < 256) (hb : b < 256) : bc1 (a + 256 * b) = (a - (a / 2 &&& 85)) + 256 * (b - (b / 2 &&& 85)) := by
  unfold bc1
  have e1 : ((a + 256 * b) / 2 ^ 1 &&& 1431655765) = (a / 2 &&& 85) + 256 * (b / 2 &&& 85) := by
    rw [and_bytes, show (a + 256 * b) / 2 ^ 1 / 256 = b / 2 by omega, and_lo (5592405) (show b / 2 < 256 by omega)]
    congr 1
    by_cases q : b % 2 = 0
    · rw [show (a + 256 * b) / 2 ^ 1 % 256 = a / 2 by omega]
    · rw [show (a + 256 * b) / 2 ^ 1 % 256 = a / 2 + 128 by omega]; exact (and_85 (a / 2) (by omega)).symm
  have h1 := (bcB_ok a ha).2.1; have h2 := (bcB_ok b hb).2.1
  rw [e1]; omega
theorem bc2_b {c d : Nat} (hc : c < 256) (hd : d < 256) : ((c + 256 * d) &&& 858993459) + ((c + 256 * d) / 2 ^ 2 &&& 858993459) = ((c &&& 51) + (c / 4 &&& 51)) + 256 * ((d &&& 51) + (d / 4 &&& 51)) := by
  have e1 : ((c + 256 * d) &&& 858993459) = (c &&& 51) + 256 * (d &&& 51) := by
    rw [and_bytes, show (c + 256 * d) / 256 = d by omega, show (c + 256 * d) % 256 = c by omega, and_lo (858993459 / 256) hd]
  have e2 : ((c + 256 * d) / 2 ^ 2 &&& 858993459) = (c / 4 &&& 51) + 256 * (d / 4 &&& 51) := by
    rw [and_bytes, show (c + 256 * d) / 2 ^ 2 / 256 = d / 4 by omega, show (c + 256 * d) / 2 ^ 2 % 256 = c / 4 + 64 * (d % 4) by omega, and_lo (858993459 / 256) (show d / 4 < 256 by omega)]
    congr 1
    exact and_51 (c / 4) (by omega) (d % 4) (by omega)
  rw [e1, e2]; omega
theorem and_15 (x : Nat) : x &&& 15 = x % 16 := Nat.and_two_pow_sub_one_eq_mod x 4
theorem bc3_b {d f : Nat} (hd : d ≤ 68) (hf : f ≤ 68) (hd' : d % 16 ≤ 4) (hf' : f % 16 ≤ 4) : (((d + 256 * f) + (d + 256 * f) / 2 ^ 4) &&& 252645135) = (d % 16 + d / 16) + 256 * (f % 16 + f / 16) := by
  rw [and_bytes, show ((d + 256 * f) + (d + 256 * f) / 2 ^ 4) / 256 = f + f / 16 by omega, show ((d + 256 * f) + (d + 256 * f) / 2 ^ 4) % 256 = d + d / 16 + 16 * (f % 16) by omega,
    and_lo (252645135 / 256) (show f + f / 16 < 256 by omega), show 252645135 / 256 % 256 = 15 from rfl, and_15, and_15]
  have h1 : (f + f / 16) % 16 = f % 16 + f / 16 := by omega
  have h2 : (d + d / 16 + 16 * (f % 16)) % 16 = d % 16 + d / 16 := by omega
  rw [h1, h2]
theorem bcR_b {a b : Nat} (ha : a < 256) (hb : b < 256) : bcR (a + 256 * b) = bcN a 8 + bcN b 8 := by
  obtain ⟨a1, a2, a3, a4, a5⟩ := bcB_ok a ha
  obtain ⟨b1, b2, b3, b4, b5⟩ := bcB_ok b hb
  have e1 := bc1_b ha hb
  have e2 : bc2 (a + 256 * b) = (((a - (a / 2 &&& 85)) &&& 51) + ((a - (a / 2 &&& 85)) / 4 &&& 51)) + 256 * (((b - (b / 2 &&& 85)) &&& 51) + ((b - (b / 2 &&& 85)) / 4 &&& 51)) := by
    unfold bc2; rw [e1]; exact bc2_b (by omega) (by omega)
  have e3 : bc3 (a + 256 * b) = bcB a + 256 * bcB b := by
    unfold bc3; rw [e2]; exact bc3_b a4 b4 a5 b5
  have la : bcB a ≤ 8 := by unfold bcB; omega
  have lb : bcB b ≤ 8 := by unfold bcB; omega
  have e4 : bc4 (a + 256 * b) = bcB a + 256 * bcB b + bcB b := by
    unfold bc4; rw [e3]; omega
  have e5 : bc5 (a + 256 * b) = bcB a + 256 * bcB b + bcB b := by
    unfold bc5; rw [e4]; omega
  unfold bcR
  rw [e5, show (63 : Nat) = 2 ^ 6 - 1 from rfl, Nat.and_two_pow_sub_one_eq_mod, ← a1, ← b1]; omega
theorem bcN_b {a b : Nat} (ha : a < 256) : bcN (a + 256 * b) 16 = bcN a 8 + bcN b 8 := by
  have h1 : ∀ k, k ≤ 8 → bcN (a + 256 * b) k = bcN a k := fun k => by
    induction k with
    | zero => intro _; rfl
    | succ k ih =>
      intro hk
      rw [bcN, bcN, ih (by omega)]
      congr 1
      have : bt (a + 256 * b) k ↔ bt a k := by
        rw [bt_tb, bt_tb]
        have := Nat.testBit_mod_two_pow (a + 256 * b) 8 k
        rw [show (a + 256 * b) % 2 ^ 8 = a by omega, decide_eq_true (show k < 8 by omega), Bool.true_and] at this
        rw [this]
      unfold bt at this; omega
  have h2 : ∀ k, bcN (a + 256 * b) (8 + k) = bcN a 8 + bcN b k := fun k => by
    induction k with
    | zero => exact h1 8 (Nat.le_refl _)
    | succ k ih =>
      rw [show 8 + (k + 1) = (8 + k) + 1 from rfl, bcN, ih, Nat.pow_add, ← Nat.div_div_eq_div_mul, show (a + 256 * b) / 2 ^ 8 = b by omega, show bcN b (k + 1) = bcN b k + b / 2 ^ k % 2 from rfl]; omega
  exact h2 8
theorem bcR_eq {n : Nat} (h : n < 65536) : bcR n = bcN n 16 := by
  have e : n = n % 256 + 256 * (n / 256) := by omega
  rw [e, bcR_b (by omega) (by omega), bcN_b (by omega)]
