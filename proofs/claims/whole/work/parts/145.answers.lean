theorem fl1_at {f : Nat → Int} {n k : Nat} (h : k < n) : fl f 1 n k = 1 := by unfold fl; rw [if_pos h]
/-- distance: one answer -/
theorem dist_ans {dir : Bool} {Fr To We : Nat → Nat} {nv me : Nat} (hn : nv ≤ 16) (hme : me ≤ 40) (hF : ∀ j, Fr j < 16) (hT : ∀ j, To j < 16) (hW : ∀ j, We j ≤ 1000000000) (hFn : ∀ j, j < me → Fr j < nv) (hTn : ∀ j, j < me → To j < nv)
    (φ : (Nat → Int) × (Nat → Int)) (σ : DS) {a b : Nat} (ha : a < nv) (hb : b < nv) :
    (if (dSearch dir Fr To We (fun _ => 0) me σ a).1 b = true then (dSearch dir Fr To We (fun _ => 0) me σ a).2.1 b else -1) = mDst (mMeas dir Fr To We nv me φ).1 a b ∧
    -9223372036854775808 ≤ mDst (mMeas dir Fr To We nv me φ).1 a b ∧ mDst (mMeas dir Fr To We nv me φ).1 a b < 9223372036854775808 := by
  unfold mDst
  rcases dist_eq (dir := dir) hn hme hF hT hW hFn hTn φ σ ha (show b < 16 by omega) with ⟨h1, h2⟩ | ⟨h1, h2, h3, _, h5, _⟩
  · rw [if_neg (by rw [h1]; decide), if_neg h2]; decide
  · rw [if_pos h1, if_pos h2, h3]; exact ⟨rfl, by omega⟩
theorem lS_ones {Le : Nat → Int} {me : Nat} : lS (fl Le 1 me) me = me := by
  have := lS_sX (Le := fl Le 1 me) me (fun k hk => by rw [fl1_at hk]; decide)
  have h2 : ∀ n, n ≤ me → sX (fl Le 1 me) n = n := fun n => by
    induction n with
    | zero => intro _; rfl
    | succ n ih => intro hn; rw [sX, ih (by omega), fl1_at (by omega)]; omega
  rw [h2 me (Nat.le_refl _)] at this; omega
theorem hang_ans {Fr To : Nat → Nat} (hF : ∀ j, Fr j < 16) (hT : ∀ j, To j < 16) {U Le : Nat → Int} {me a : Nat} (ha : a < 16) (Gr : Nat → Nat) : gHang Fr To (fl U 1 me) me a = mHg (mGroups Fr To (fl Le 1 me) me Gr) Fr (fl Le 1 me) a me :=
  hang_eq hF hT (fun k hk => by rw [fl1_at hk, fl1_at hk]) (fun k hk => by rw [fl1_at hk]; decide) Gr ha
theorem tour_ans {dir : Bool} {Fr To : Nat → Nat} (hF : ∀ j, Fr j < 16) (hT : ∀ j, To j < 16) {U Le : Nat → Int} {me a : Nat} (hme : me ≤ 40) (ha : a < 16) (h : gHang Fr To (fl U 1 me) me a = true) (Lz Rw : Nat → Int) (Gr : Nat → Nat) :
    (wRow dir Fr To me Lz (fl U 1 me) a).1 = (mWalk dir Fr To me (fl Le 1 me) Gr Rw a).2.2.2 ∧ (∀ j, j < (wRow dir Fr To me Lz (fl U 1 me) a).1 → (wRow dir Fr To me Lz (fl U 1 me) a).2.1 j = (mWalk dir Fr To me (fl Le 1 me) Gr Rw a).2.2.1 j) ∧ (wRow dir Fr To me Lz (fl U 1 me) a).1 ≤ 640 :=
  row_eq hF hT ha h (fun k hk => by rw [fl1_at hk, fl1_at hk]) (fun k hk => by rw [fl1_at hk]; decide) (by rw [lS_ones]; omega) Lz Rw Gr
theorem rCost_rng {We : Nat → Nat} (hW : ∀ j, We j ≤ 1000000000) {X : Nat → Int} {n : Nat} (hn : n ≤ 40) (h : ∀ e, e < n → 0 ≤ X e ∧ X e ≤ 600) : 0 ≤ rCost We X n ∧ rCost We X n ≤ (n : Int) * 601000000000 := by
  induction n with
  | zero => exact ⟨Int.le_refl _, Int.le_refl _⟩
  | succ n ih =>
    have ih := ih (by omega) (fun e he => h e (by omega))
    have h1 := h n (by omega); have h2 := hW n
    rw [rCost]
    have m1 : 0 ≤ (1 + X n) * ((We n : Nat) : Int) := Int.mul_nonneg (by omega) (by omega)
    have m2 : (1 + X n) * ((We n : Nat) : Int) ≤ 601 * 1000000000 := Int.mul_le_mul (by omega) (by omega) (by omega) (by omega)
    omega
theorem judge_ans {dir : Bool} {Fr To We : Nat → Nat} (hW : ∀ j, We j ≤ 1000000000) {me : Nat} (hme : me ≤ 40) {Pz Qz : Nat → Int} {pn start : Nat} (hpn : pn ≤ 1000) (hP : ∀ j, j < pn → Pz j = Qz j) (U Le : Nat → Int) :
    (vRun dir Fr To We me Pz pn start U).2 = jVer me ((start : Nat) : Int) (jIt dir Fr To We me Qz pn pn (fl Le 1 me, ((start : Nat) : Int), 0)) ∧ -3 ≤ (vRun dir Fr To We me Pz pn start U).2 ∧ (vRun dir Fr To We me Pz pn start U).2 ≤ 1000000000000 := by
  refine ⟨judge_eq hme hP U _ (fun k hk => fl1_at hk), ?_⟩
  have key : ∀ (n : Nat) (ν : (Nat → Int) × Nat × Int), 0 ≤ ν.2.2 → ν.2.2 ≤ (1000 - (n : Int)) * 1000000000 → n ≤ 1000 → -3 ≤ (vLoop dir Fr To We me Pz pn start n ν).2 ∧ (vLoop dir Fr To We me Pz pn start n ν).2 ≤ 1000000000000 := fun n => by
    induction n with
    | zero =>
      intro ν h1 h2 _
      rw [vLoop]; split
      · show -3 ≤ (if vCov ν.1 me me = true then ν.2.2 else -3) ∧ (if vCov ν.1 me me = true then ν.2.2 else -3) ≤ _
        split <;> omega
      · show (-3 : Int) ≤ -2 ∧ (-2 : Int) ≤ _; omega
    | succ n ih =>
      intro ν h1 h2 h3
      rw [vLoop]; split
      · show (-3 : Int) ≤ -1 ∧ (-1 : Int) ≤ _; omega
      · have hw := hW (Pz (pn - (n + 1)) / 2).toNat
        refine ih _ ?_ ?_ (by omega)
        · show 0 ≤ ν.2.2 + _; omega
        · show ν.2.2 + _ ≤ _; omega
  exact key pn _ (by show (0 : Int) ≤ 0; omega) (by show (0 : Int) ≤ _; omega) hpn
theorem mCnt_le (dir : Bool) (Fr To : Nat → Nat) (me n : Nat) : mCnt dir Fr To me n ≤ n := by
  induction n with
  | zero => exact Nat.le_refl _
  | succ n ih => rw [mCnt]; split <;> omega
theorem mTo_le (Fr To : Nat → Nat) (me n : Nat) : mTo Fr To me n ≤ n := by
  induction n with
  | zero => exact Nat.le_refl _
  | succ n ih => rw [mTo]; split <;> omega
theorem mSt_le (G Fr To : Nat → Nat) (me n : Nat) : mSt G Fr To me n ≤ n := by
  induction n with
  | zero => exact Nat.le_refl _
  | succ n ih => rw [mSt]; split <;> omega
