/-- the degrees' sum is even -/
def sBal (Fr To : Nat → Nat) (me : Nat) : Nat → Int
  | 0 => 0
  | v + 1 => sBal Fr To me v + mBal false Fr To v me
theorem sBal_0 (Fr To : Nat → Nat) (n : Nat) : sBal Fr To 0 n = 0 := by
  induction n with
  | zero => rfl
  | succ n ih => rw [sBal, ih]; rfl
theorem sBal_s (Fr To : Nat → Nat) (me n : Nat) : sBal Fr To (me + 1) n = sBal Fr To me n + (if To me < n then 1 else 0) + (if Fr me < n then 1 else 0) := by
  induction n with
  | zero => rw [sBal, sBal]; rfl
  | succ n ih =>
    rw [sBal, sBal, ih, mBal, if_neg (show ¬ (false = true) by decide)]
    by_cases a : To me = n
    · rw [if_pos a, if_neg (show ¬ To me < n by omega), if_pos (show To me < n + 1 by omega)]
      by_cases b : Fr me = n
      · rw [if_pos b, if_neg (show ¬ Fr me < n by omega), if_pos (show Fr me < n + 1 by omega)]; omega
      · rw [if_neg b]
        by_cases c : Fr me < n
        · rw [if_pos c, if_pos (show Fr me < n + 1 by omega)]; omega
        · rw [if_neg c, if_neg (show ¬ Fr me < n + 1 by omega)]; omega
    · rw [if_neg a]
      by_cases c : To me < n
      · rw [if_pos c, if_pos (show To me < n + 1 by omega)]
        by_cases b : Fr me = n
        · rw [if_pos b, if_neg (show ¬ Fr me < n by omega), if_pos (show Fr me < n + 1 by omega)]; omega
        · rw [if_neg b]
          by_cases c : Fr me < n
          · rw [if_pos c, if_pos (show Fr me < n + 1 by omega)]; omega
          · rw [if_neg c, if_neg (show ¬ Fr me < n + 1 by omega)]; omega
      · rw [if_neg c, if_neg (show ¬ To me < n + 1 by omega)]
        by_cases b : Fr me = n
        · rw [if_pos b, if_neg (show ¬ Fr me < n by omega), if_pos (show Fr me < n + 1 by omega)]; omega
        · rw [if_neg b]
          by_cases c : Fr me < n
          · rw [if_pos c, if_pos (show Fr me < n + 1 by omega)]; omega
          · rw [if_neg c, if_neg (show ¬ Fr me < n + 1 by omega)]; omega
theorem sBal_even {Fr To : Nat → Nat} {nv : Nat} (me : Nat) (hF : ∀ j, j < me → Fr j < nv) (hT : ∀ j, j < me → To j < nv) : sBal Fr To me nv = 2 * (me : Int) := by
  induction me with
  | zero => exact sBal_0 Fr To nv
  | succ me ih => rw [sBal_s, ih (fun j hj => hF j (by omega)) (fun j hj => hT j (by omega)), if_pos (hT me (by omega)), if_pos (hF me (by omega))]; omega
theorem cnt_par {Fr To : Nat → Nat} {me : Nat} (n : Nat) : ∃ q : Int, sBal Fr To me n = ((mCnt false Fr To me n : Nat) : Int) + 2 * q := by
  induction n with
  | zero => exact ⟨0, rfl⟩
  | succ n ih =>
    obtain ⟨q, e⟩ := ih
    obtain ⟨_, _, h0⟩ := gSur_par (Fr := Fr) (To := To) (v := n) me
    rw [sBal, mCnt]
    have ho : mOdd false Fr To me n = true ↔ mBal false Fr To n me % 2 ≠ 0 := by
      unfold mOdd; rw [if_neg (show ¬ (false = true) by decide), decide_eq_true_iff, Int.tmod_eq_emod_of_nonneg h0]
    by_cases c : mOdd false Fr To me n = true
    · have c' := ho.mp c
      rw [if_pos c]; exact ⟨q + mBal false Fr To n me / 2, by omega⟩
    · have c' : ¬ mBal false Fr To n me % 2 ≠ 0 := fun z => c (ho.mpr z)
      rw [if_neg c]; exact ⟨q + mBal false Fr To n me / 2, by omega⟩
theorem cnt_even {Fr To : Nat → Nat} {nv me : Nat} (hF : ∀ j, j < me → Fr j < nv) (hT : ∀ j, j < me → To j < nv) : ∃ m, mCnt false Fr To me nv = 2 * m := by
  obtain ⟨q, e⟩ := cnt_par (Fr := Fr) (To := To) (me := me) nv
  rw [sBal_even me hF hT] at e
  exact ⟨mCnt false Fr To me nv / 2, by omega⟩
/-- the house's table of pairs -/
theorem pM_q {dir : Bool} {Fr To We : Nat → Nat} {me od : Nat} (σ : DS) (PCo PTi : Nat → Nat → Int) (n A : Nat) (hA : A < n) (hb : bt od A) :
    ∃ σ', ∀ B, B < 16 → (pM dir Fr To We me od σ PCo PTi n).2.1 A B = (dSearch dir Fr To We (fun _ => 0) me σ' A).2.1 B ∧ (pM dir Fr To We me od σ PCo PTi n).2.2 A B = (dSearch dir Fr To We (fun _ => 0) me σ' A).2.2.1 B := by
  induction n with
  | zero => omega
  | succ n ih =>
    by_cases e : A = n
    · subst e
      refine ⟨(pM dir Fr To We me od σ PCo PTi A).1, fun B hB => ?_⟩
      rw [pM_y hb]
      dsimp only
      rw [up_at, up_at]; unfold cp16; rw [if_pos hB, if_pos hB]; exact ⟨rfl, rfl⟩
    · obtain ⟨σ', h⟩ := ih (by omega)
      by_cases c : od / 2 ^ n % 2 = 1
      · refine ⟨σ', fun B hB => ?_⟩
        rw [pM_y c]
        dsimp only
        rw [up_ne e, up_ne e]; exact h B hB
      · rw [pM_n c]; exact ⟨σ', h⟩
theorem odd_has {dir : Bool} {Fr To : Nat → Nat} {me v : Nat} (h : mOdd dir Fr To me v = true) : mHas Fr To v me = true := by
  apply Classical.byContradiction; intro q
  have hz : ∀ n, n ≤ me → mBal dir Fr To v n = 0 := fun n => by
    induction n with
    | zero => intro _; rfl
    | succ n ih =>
      intro hn
      rw [mBal, ih (by omega), if_neg (fun e => q ((mHas_iff me).mpr ⟨n, by omega, .inr e⟩)), if_neg (fun e => q ((mHas_iff me).mpr ⟨n, by omega, .inl e⟩))]; rfl
  unfold mOdd at h
  rw [hz me (Nat.le_refl _)] at h
  cases dir <;> exact absurd h (by decide)
/-- both find the same extras in a graph without directions -/
theorem pairs_eq {Fr To We : Nat → Nat} {nv me : Nat} (hn : nv ≤ 16) (hme : me ≤ 40) (hF : ∀ j, Fr j < 16) (hT : ∀ j, To j < 16) (hW : ∀ j, We j ≤ 1000000000) (hFn : ∀ j, j < me → Fr j < nv) (hTn : ∀ j, j < me → To j < nv)
    (φ θ : (Nat → Int) × (Nat → Int)) {st : Nat} (hst : st < nv) (hc : mCovers Fr To nv me (mMeas false Fr To We nv me φ).1 st = true) (σ : DS) (PCo PTi : Nat → Nat → Int) (ψ : PS) (Od : Nat → Nat) :
    (pTie (pM false Fr To We me (gOddM false Fr To me nv) σ PCo PTi 16).2.1 (pM false Fr To We me (gOddM false Fr To me nv) σ PCo PTi 16).2.2 (gOddM false Fr To me nv) ψ).2 =
    (mPall (mOp false Fr To me Od nv).2 (mOp false Fr To me Od nv).1 (mMeas false Fr To We nv me φ).1 (mMeas false Fr To We nv me φ).2 (va_up θ.1 0 0, va_up θ.2 0 0) (2 ^ (mOp false Fr To me Od nv).2 - 1)).2 (2 ^ (mOp false Fr To me Od nv).2 - 1) := by
  obtain ⟨hv, ho⟩ := vR_full (dir := false) (Fr := Fr) (To := To) (me := me) hn Od
  obtain ⟨o1, o2, o3, o4⟩ := mOp_q (dir := false) (Fr := Fr) (To := To) (me := me) Od nv
  have hmon : (mOp false Fr To me Od nv).2 ≤ 16 := mOp_c hn
  obtain ⟨m, hm⟩ := cnt_even hFn hTn
  have hod := gOddM_lt (dir := false) (Fr := Fr) (To := To) (me := me) hn
  -- odd vertices reach one another
  have hfin : ∀ A B, A < nv → B < nv → mOdd false Fr To me A = true → mOdd false Fr To me B = true → (mMeas false Fr To We nv me φ).1 (16 * A + B) < 1152921504606846976 := fun A B hA hB oA oB => by
    have hme0 : me ≠ 0 := fun e => by
      subst e; obtain ⟨k, hk, _⟩ := (mHas_iff 0).mp (odd_has oA); omega
    unfold mCovers at hc; rw [if_neg hme0, mCv_iff] at hc
    have hU : ∀ k, k < me → (0 : Int) < (fun _ => 1) k := fun k _ => (by decide : (0 : Int) < 1)
    have a1 := (mMeas_fin hn hF hT hW hFn hTn hU φ hA (show st < 16 by omega)).mp (hc.2 A hA (odd_has oA)).2
    have a2 := (mMeas_fin hn hF hT hW hFn hTn hU φ hst (show B < 16 by omega)).mp (hc.2 B hB (odd_has oB)).1
    exact (mMeas_fin hn hF hT hW hFn hTn hU φ hA (show B < 16 by omega)).mpr (rN_trans a1 a2)
  have hpr : ∀ A B, A < nv → B < nv → mOdd false Fr To me A = true → mOdd false Fr To me B = true →
      (pM false Fr To We me (gOddM false Fr To me nv) σ PCo PTi 16).2.1 A B = (mMeas false Fr To We nv me φ).1 (16 * A + B) ∧ (pM false Fr To We me (gOddM false Fr To me nv) σ PCo PTi 16).2.2 A B = (mMeas false Fr To We nv me φ).2 (16 * A + B) ∧
      (0 ≤ (mMeas false Fr To We nv me φ).1 (16 * A + B) ∧ (mMeas false Fr To We nv me φ).1 (16 * A + B) ≤ 65536000000000) ∧ 0 ≤ (mMeas false Fr To We nv me φ).2 (16 * A + B) ∧ (mMeas false Fr To We nv me φ).2 (16 * A + B) ≤ 36028797018963968 := fun A B hA hB oA oB => by
    obtain ⟨σ', h⟩ := pM_q (dir := false) (Fr := Fr) (To := To) (We := We) (me := me) σ PCo PTi 16 A (by omega) ((gOddM_bt nv A).mpr ⟨hA, oA⟩)
    obtain ⟨h1, h2⟩ := h B (by omega)
    rcases dist_eq (dir := false) hn hme hF hT hW hFn hTn φ σ' hA (show B < 16 by omega) with ⟨_, q⟩ | ⟨_, _, q1, q2, q3, q4⟩
    · exact absurd (hfin A B hA hB oA oB) q
    · exact ⟨h1.trans q1, h2.trans q2, by omega, by omega⟩
  generalize (pM false Fr To We me (gOddM false Fr To me nv) σ PCo PTi 16).2.1 = PC at hpr ⊢
  generalize (pM false Fr To We me (gOddM false Fr To me nv) σ PCo PTi 16).2.2 = PT at hpr ⊢
  have hf : fOk (mOp false Fr To me Od nv).2 (mOp false Fr To me Od nv).1 (mMeas false Fr To We nv me φ).1 (mMeas false Fr To We nv me φ).2 := fun a b ha hb => by
    obtain ⟨_, _, p, q⟩ := hpr _ _ (o1 a ha).1 (o1 b hb).1 (o1 a ha).2 (o1 b hb).2
    exact ⟨hfin _ _ (o1 a ha).1 (o1 b hb).1 (o1 a ha).2 (o1 b hb).2, p, q⟩
  have hww : ∀ a b, a < (mOp false Fr To me Od nv).2 → b < (mOp false Fr To me Od nv).2 → wFa (mOp false Fr To me Od nv).1 (mMeas false Fr To We nv me φ).1 (mMeas false Fr To We nv me φ).2 a b = wPr PC PT ((mOp false Fr To me Od nv).1 a) ((mOp false Fr To me Od nv).1 b) := fun a b ha hb => by
    obtain ⟨p, q, _⟩ := hpr _ _ (o1 a ha).1 (o1 b hb).1 (o1 a ha).2 (o1 b hb).2
    unfold wFa wPr; rw [p, q]
  have hcap : rCap (wPr PC PT) (gOddM false Fr To me nv) := rCap_even ho (o4.trans hm) hmon hv
  have hw : ∀ A B, bt (gOddM false Fr To me nv) A → bt (gOddM false Fr To me nv) B → (0 ≤ PC A B ∧ PC A B ≤ 65536000000000) ∧ 0 ≤ PT A B ∧ PT A B ≤ 36028797018963968 := fun A B hA hB => by
    have hA := (gOddM_bt nv A).mp hA; have hB := (gOddM_bt nv B).mp hB
    obtain ⟨p, q, r, s⟩ := hpr A B hA.1 hB.1 hA.2 hB.2
    rw [p, q]; exact ⟨r, s⟩
  have hP : 2 ^ (mOp false Fr To me Od nv).2 - 1 < 2 ^ (mOp false Fr To me Od nv).2 := by have := Nat.two_pow_pos (mOp false Fr To me Od nv).2; omega
  obtain ⟨b1, b2, b3⟩ := mPall_q hf hmon θ _ hP _ (Nat.le_refl _)
  have to0 : ∀ x, pPa (wFa (mOp false Fr To me Od nv).1 (mMeas false Fr To We nv me φ).1 (mMeas false Fr To We nv me φ).2) (2 ^ (mOp false Fr To me Od nv).2 - 1) 0 x ↔ pPa (wPr PC PT) (gOddM false Fr To me nv) 0 x := fun x => by
    constructor
    · intro h
      obtain ⟨R, a, b⟩ := vR_pa ho hww hv h
      rw [(vR_zero ho b).mp rfl] at a; exact a
    · intro h
      obtain ⟨t, a, b⟩ := vR_ap ho hmon hww hv h
      rw [(vR_zero ho b).mpr rfl] at a; exact a
  rcases pTie_q hod hcap hw ψ with ⟨c, t, e, hb, hp, hmin⟩ | ⟨e, hno⟩
  · rw [e]
    obtain ⟨y, hy, ly⟩ := b3 _ ((to0 _).mpr hp)
    have hle := hmin y ((to0 _).mp (b2 y hy))
    unfold mCd at hy; unfold mBt at b1
    by_cases q : (mPall (mOp false Fr To me Od nv).2 (mOp false Fr To me Od nv).1 (mMeas false Fr To We nv me φ).1 (mMeas false Fr To We nv me φ).2 (va_up θ.1 0 0, va_up θ.2 0 0) (2 ^ (mOp false Fr To me Od nv).2 - 1)).1 (2 ^ (mOp false Fr To me Od nv).2 - 1) < 1152921504606846976
    · rw [if_pos q] at hy b1; injection hy with hy
      have hg := hgt_le (2 ^ (mOp false Fr To me Od nv).2 - 1)
      subst hy; simp only [qM] at ly hle; omega
    · rw [if_neg q] at hy; cases hy
  · rw [e]
    unfold mCd at b2; unfold mBt at b1
    by_cases q : (mPall (mOp false Fr To me Od nv).2 (mOp false Fr To me Od nv).1 (mMeas false Fr To We nv me φ).1 (mMeas false Fr To We nv me φ).2 (va_up θ.1 0 0, va_up θ.2 0 0) (2 ^ (mOp false Fr To me Od nv).2 - 1)).1 (2 ^ (mOp false Fr To me Od nv).2 - 1) < 1152921504606846976
    · exact absurd ((to0 _).mp (b2 _ (if_pos q))) (hno _)
    · rw [if_neg q] at b1; exact b1.symm
