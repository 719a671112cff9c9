theorem qM_pos (w : Nat) (i : Nat) : 0 ≤ ((w : Nat) : Int) * qM + 2 ^ (39 - i) := by
  have := (pow39p i).1; simp only [qM]; omega
theorem dArcs_pos {dir : Bool} {Fr To We : Nat → Nat} {me : Nat} : ∀ c, c ∈ dArcs dir Fr To We (fun _ => 0) me → 0 ≤ c.2.2.1 := fun c hc => by
  obtain ⟨i, _, hi⟩ := dArcs_mem.mp hc
  rcases dArc_in hi with e | ⟨_, e⟩ | ⟨_, h, _⟩
  · subst e; exact qM_pos _ _
  · subst e; exact qM_pos _ _
  · exact absurd h (by decide)
theorem dArcs_pot {dir : Bool} {Fr To We : Nat → Nat} {me : Nat} : qPot (dArcs dir Fr To We (fun _ => 0) me) (fun _ => 0) := fun c hc => by
  have := dArcs_pos c hc; show (0 : Int) ≤ 0 + _; omega
theorem gE_le (dir : Bool) (Fr To We : Nat → Nat) (g : Nat → Option Int) (i j : Nat) (y : Int) (h : g j = some y) : ∃ z, gE dir Fr To We g i j = some z ∧ z ≤ y := by
  induction i with
  | zero => exact ⟨y, h, Int.le_refl _⟩
  | succ i ih =>
    obtain ⟨z, hz, lz⟩ := ih
    obtain ⟨w, hw, lw⟩ := fR_le (gE dir Fr To We g i) (16 * Fr i + To i) (((We i : Nat) : Int) * qM + 2 ^ (39 - i)) j z hz
    rw [gE]; split
    · exact ⟨w, hw, by omega⟩
    · obtain ⟨u, hu, lu⟩ := fR_le _ (16 * To i + Fr i) (((We i : Nat) : Int) * qM + 2 ^ (39 - i)) j w hw
      exact ⟨u, hu, by omega⟩
theorem gE_hit {dir : Bool} {Fr To We : Nat → Nat} (g : Nat → Option Int) {i : Nat} {c : qA} (hc : c ∈ dArc dir Fr To We (fun _ => 0) i) (n : Nat) (hi : i < n) : ∃ y, gE dir Fr To We g n (16 * c.1 + c.2.1) = some y ∧ y ≤ c.2.2.1 := by
  induction n with
  | zero => omega
  | succ n ih =>
    by_cases e : i = n
    · subst e
      obtain ⟨w, hw, lw⟩ := fR_hit (gE dir Fr To We g i) (16 * Fr i + To i) (((We i : Nat) : Int) * qM + 2 ^ (39 - i))
      rw [gE]
      rcases dArc_in hc with e | ⟨hd, e⟩ | ⟨_, h, _⟩
      · subst e
        split
        · exact ⟨w, hw, lw⟩
        · obtain ⟨u, hu, lu⟩ := fR_le _ (16 * To i + Fr i) (((We i : Nat) : Int) * qM + 2 ^ (39 - i)) _ w hw
          exact ⟨u, hu, Int.le_trans lu lw⟩
      · subst e; rw [if_neg (by rw [hd]; decide)]
        exact fR_hit _ _ _
      · exact absurd h (by decide)
    · obtain ⟨z, hz, lz⟩ := ih (by omega)
      obtain ⟨w, hw, lw⟩ := fR_le (gE dir Fr To We g n) (16 * Fr n + To n) (((We n : Nat) : Int) * qM + 2 ^ (39 - n)) _ z hz
      rw [gE]; split
      · exact ⟨w, hw, by omega⟩
      · obtain ⟨u, hu, lu⟩ := fR_le _ (16 * To n + Fr n) (((We n : Nat) : Int) * qM + 2 ^ (39 - n)) _ w hw
        exact ⟨u, hu, by omega⟩
theorem qWk_arc {A : List qA} {c : qA} (hc : c ∈ A) : qWk (fun v => v = c.1) A c.2.1 c.2.2.1 := by
  have := qWk_cons c hc (qWk_nil (S := fun v => v = c.1) (A := A) c.1 rfl)
  rw [Int.zero_add] at this; exact this
theorem gE_sd {dir : Bool} {Fr To We : Nat → Nat} (hF : ∀ j, Fr j < 16) (hT : ∀ j, To j < 16) {nv me : Nat} {g : Nat → Option Int} (h : gSd (dArcs dir Fr To We (fun _ => 0) me) nv g) (i : Nat) (hi : i ≤ me) : gSd (dArcs dir Fr To We (fun _ => 0) me) nv (gE dir Fr To We g i) := by
  induction i with
  | zero => exact h
  | succ i ih =>
    have ih := ih (by omega)
    have hf := hF i; have ht := hT i
    have c1 : (Fr i, To i, ((We i : Nat) : Int) * qM + 2 ^ (39 - i), 2 * i) ∈ dArcs dir Fr To We (fun _ => 0) me := dArcs_mem.mpr ⟨i, by omega, dArc_fw⟩
    have s1 : gSd (dArcs dir Fr To We (fun _ => 0) me) nv (fR (gE dir Fr To We g i) (16 * Fr i + To i) (((We i : Nat) : Int) * qM + 2 ^ (39 - i))) := fun a b x ha hb hx => by
      rcases fR_or (gE dir Fr To We g i) (16 * Fr i + To i) (((We i : Nat) : Int) * qM + 2 ^ (39 - i)) (16 * a + b) with e | ⟨e1, e2⟩
      · rw [e] at hx; exact ih a b x ha hb hx
      · rw [e2] at hx; injection hx with hx; subst hx
        have ea : a = Fr i := by omega
        have eb : b = To i := by omega
        subst ea; subst eb; exact qWk_arc c1
    rw [gE]
    by_cases hd : dir = true
    · rw [if_pos hd]; exact s1
    · rw [if_neg hd]
      have hd' : dir = false := by cases dir <;> simp_all
      have c2 : (To i, Fr i, ((We i : Nat) : Int) * qM + 2 ^ (39 - i), 2 * i + 1) ∈ dArcs dir Fr To We (fun _ => 0) me := dArcs_mem.mpr ⟨i, by omega, by unfold dArc; rw [if_pos hd']; exact .tail _ (.head _)⟩
      intro a b x ha hb hx
      rcases fR_or (fR (gE dir Fr To We g i) (16 * Fr i + To i) (((We i : Nat) : Int) * qM + 2 ^ (39 - i))) (16 * To i + Fr i) (((We i : Nat) : Int) * qM + 2 ^ (39 - i)) (16 * a + b) with e | ⟨e1, e2⟩
      · rw [e] at hx; exact s1 a b x ha hb hx
      · rw [e2] at hx; injection hx with hx; subst hx
        have ea : a = To i := by omega
        have eb : b = Fr i := by omega
        subst ea; subst eb; exact qWk_arc c2
theorem dArcs_tail {dir : Bool} {Fr To We : Nat → Nat} {X : Nat → Int} {nv me : Nat} (hF : ∀ j, j < me → Fr j < nv) (hT : ∀ j, j < me → To j < nv) : ∀ c, c ∈ dArcs dir Fr To We X me → c.1 < nv ∧ c.2.1 < nv := fun c hc => by
  obtain ⟨i, h, hi⟩ := dArcs_mem.mp hc
  have := hF i h; have := hT i h
  rcases dArc_in hi with e | ⟨_, e⟩ | ⟨_, _, e⟩ <;> subst e
  · exact ⟨hF i h, hT i h⟩
  · exact ⟨hT i h, hF i h⟩
  · exact ⟨hT i h, hF i h⟩
theorem mMeas_q {dir : Bool} {Fr To We : Nat → Nat} {nv me : Nat} (hn : nv ≤ 16) (hF : ∀ j, Fr j < 16) (hT : ∀ j, To j < 16) (hW : ∀ j, We j ≤ 1000000000) (hFn : ∀ j, j < me → Fr j < nv) (hTn : ∀ j, j < me → To j < nv)
    (φ : (Nat → Int) × (Nat → Int)) {a b : Nat} (ha : a < nv) (hb : b < 16) :
    (∀ x, mC (mMeas dir Fr To We nv me φ) (16 * a + b) = some x → qWk (fun v => v = a) (dArcs dir Fr To We (fun _ => 0) me) b x) ∧
    (∀ x, qWk (fun v => v = a) (dArcs dir Fr To We (fun _ => 0) me) b x → ∃ y, mC (mMeas dir Fr To We nv me φ) (16 * a + b) = some y ∧ y ≤ x) ∧ mBd 65536 (mMeas dir Fr To We nv me φ) (16 * a + b) := by
  obtain ⟨i1, i2, i3⟩ := mI_C φ
  obtain ⟨e1, e2, e3⟩ := mE_C (dir := dir) hF hT hW i2 i3 me
  obtain ⟨v1, v2, _⟩ := mV_C e2 e3 hn nv (Nat.le_refl _)
  have s0 : gSd (dArcs dir Fr To We (fun _ => 0) me) nv (mC (mI φ 256)) := fun a b x ha hb hx => by
    rw [i1 _ (by omega)] at hx
    by_cases e : (16 * a + b) / 16 = (16 * a + b) % 16
    · rw [if_pos e] at hx; injection hx with hx; subst hx
      have : b = a := by omega
      exact qWk_nil b this
    · rw [if_neg e] at hx; cases hx
  have s1 := gE_sd (We := We) hF hT s0 me (Nat.le_refl _)
  have s2 := gV_sd hn s1 nv (Nat.le_refl _)
  have b0 : gBd (dArcs dir Fr To We (fun _ => 0) me) nv 0 (gE dir Fr To We (mC (mI φ 256)) me) := fun a b n x ha hb hx => by
    match n, hx with
    | 0, hx =>
      obtain ⟨q1, q2⟩ := hx; subst q1; subst q2
      exact gE_le dir Fr To We _ me (16 * b + b) 0 (by rw [i1 _ (by omega), if_pos (by omega)])
    | n + 1, hx =>
      obtain ⟨c, hc, q1, q2, q3⟩ := hx
      have : n = 0 := by omega
      subst this
      obtain ⟨r1, r2⟩ := q2
      obtain ⟨i, hi, hci⟩ := dArcs_mem.mp hc
      obtain ⟨y, hy, ly⟩ := gE_hit (mC (mI φ 256)) hci me hi
      rw [r1, q1] at hy
      exact ⟨y, hy, by omega⟩
  have b1 := gV_bd dArcs_pos hn b0 nv (Nat.le_refl _)
  have hC : ∀ j, mC (mMeas dir Fr To We nv me φ) j = gV nv (gE dir Fr To We (mC (mI φ 256)) me) nv j := fun j => by
    rw [← show mC (mE dir Fr To We (mI φ 256) me) = gE dir Fr To We (mC (mI φ 256)) me from funext e1]; exact v1 j
  refine ⟨fun x hx => ?_, fun x hx => ?_, ?_⟩
  · rw [hC] at hx; exact s2 a b x ha hb hx
  · rw [hC]
    obtain ⟨n, hn⟩ := qWk_in (nv := nv) (fun c hc => (dArcs_tail hFn hTn c hc).1) hx
    exact b1 a b n x ha hb hn
  · intro hf
    have hp : 2 ^ nv ≤ 2 ^ 16 := Nat.pow_le_pow_right (by decide) hn
    have h16 : 2 ^ 16 = 65536 := rfl
    have := v2 (16 * a + b) (by omega) hf
    have e : mV nv (mE dir Fr To We (mI φ 256) me) nv = mMeas dir Fr To We nv me φ := rfl
    rw [e] at this; omega
theorem dLoop_B {dir : Bool} {Fr To We : Nat → Nat} {X : Nat → Int} (hF : ∀ j, Fr j < 16) (hT : ∀ j, To j < 16) (hW : ∀ j, We j ≤ 1000000000) {me : Nat} (hme : me ≤ 40) (n m : Nat) {σ : DS} (hB : dB m σ) : dB (m + 80 * n) (dLoop dir Fr To We X me n σ) := by
  induction n generalizing σ m with
  | zero => exact hB
  | succ n ih =>
    unfold dLoop; split
    · exact dB_mono (by omega) hB
    · exact dB_mono (by omega) (ih (m + 2 * me) (dPass_B hF hT hW hB me))
/-- both find the same distances -/
theorem dist_eq {dir : Bool} {Fr To We : Nat → Nat} {nv me : Nat} (hn : nv ≤ 16) (hme : me ≤ 40) (hF : ∀ j, Fr j < 16) (hT : ∀ j, To j < 16) (hW : ∀ j, We j ≤ 1000000000) (hFn : ∀ j, j < me → Fr j < nv) (hTn : ∀ j, j < me → To j < nv)
    (φ : (Nat → Int) × (Nat → Int)) (σ : DS) {a b : Nat} (ha : a < nv) (hb : b < 16) :
    ((dSearch dir Fr To We (fun _ => 0) me σ a).1 b = false ∧ ¬ (mMeas dir Fr To We nv me φ).1 (16 * a + b) < 1152921504606846976) ∨
    ((dSearch dir Fr To We (fun _ => 0) me σ a).1 b = true ∧ (mMeas dir Fr To We nv me φ).1 (16 * a + b) < 1152921504606846976 ∧
     (dSearch dir Fr To We (fun _ => 0) me σ a).2.1 b = (mMeas dir Fr To We nv me φ).1 (16 * a + b) ∧ (dSearch dir Fr To We (fun _ => 0) me σ a).2.2.1 b = (mMeas dir Fr To We nv me φ).2 (16 * a + b) ∧
     (0 ≤ (mMeas dir Fr To We nv me φ).1 (16 * a + b) ∧ (mMeas dir Fr To We nv me φ).1 (16 * a + b) ≤ 65536 * 1000000000) ∧ 0 ≤ (mMeas dir Fr To We nv me φ).2 (16 * a + b) ∧ (mMeas dir Fr To We nv me φ).2 (16 * a + b) ≤ 65536 * 549755813888) := by
  obtain ⟨τ, hr, _, hsd, hfin, _, _⟩ := dSearch_q hF hT hW hme (dArcs_pot (dir := dir) (Fr := Fr) (To := To) (We := We) (me := me)) σ (show a < 16 by omega)
  obtain ⟨m1, m2, m3⟩ := mMeas_q (dir := dir) hn hF hT hW hFn hTn φ ha hb
  have hB : dB (0 + 80 * 16) (dSearch dir Fr To We (fun _ => 0) me σ a) := dLoop_B hF hT hW hme 16 0 (dInit_B σ (by omega))
  cases h1 : (dSearch dir Fr To We (fun _ => 0) me σ a).1 b with
  | false =>
    left; refine ⟨rfl, fun h => ?_⟩
    have hx : mC (mMeas dir Fr To We nv me φ) (16 * a + b) = some _ := if_pos h
    obtain ⟨y, hy, _⟩ := hfin b _ (m1 _ hx)
    rw [(hr b hb).1 h1] at hy; cases hy
  | true =>
    right
    obtain ⟨bb, hbb, _⟩ := (hr b hb).2 h1
    obtain ⟨y, hy, ly⟩ := m2 _ (hsd b _ hbb)
    by_cases hf : (mMeas dir Fr To We nv me φ).1 (16 * a + b) < 1152921504606846976
    · rw [show mC (mMeas dir Fr To We nv me φ) (16 * a + b) = some _ from if_pos hf] at hy
      injection hy with hy; subst hy
      obtain ⟨z, hz, lz⟩ := hfin b _ (m1 _ (if_pos hf))
      rw [hbb] at hz; injection hz with hz; subst hz
      have hBb := hB b hb h1
      have hM := m3 hf
      simp only [qM] at ly lz
      refine ⟨rfl, hf, ?_, ?_, hM.1, hM.2⟩ <;> omega
    · rw [show mC (mMeas dir Fr To We nv me φ) (16 * a + b) = none from if_neg hf] at hy; cases hy
