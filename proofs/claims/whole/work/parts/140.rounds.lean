theorem lS_sX {Le : Nat → Int} (n : Nat) (h : ∀ k, k < n → 0 ≤ Le k) : ((lS Le n : Nat) : Int) = sX Le n := by
  induction n with
  | zero => rfl
  | succ n ih => rw [lS, sX, ← ih (fun k hk => h k (by omega))]; have := h n (by omega); omega
theorem sX_one (X : Nat → Int) (n : Nat) : sX (fun k => 1 + X k) n = n + sX X n := by
  induction n with
  | zero => rfl
  | succ n ih => rw [sX, sX, ih]; omega
theorem sX_le {X : Nat → Int} (n : Nat) (h : ∀ k, k < n → 0 ≤ X k) : ∀ k, k < n → X k ≤ sX X n := by
  have h0 : ∀ m, m ≤ n → 0 ≤ sX X m := fun m => by
    induction m with
    | zero => intro _; exact Int.le_refl _
    | succ m ih => intro hm; rw [sX]; have := ih (by omega); have := h m (by omega); omega
  have : ∀ m, m ≤ n → ∀ k, k < m → X k ≤ sX X m := fun m => by
    induction m with
    | zero => intro _ k hk; omega
    | succ m ih =>
      intro hm k hk
      rw [sX]
      by_cases e : k = m
      · subst e; have := h0 k (by omega); omega
      · have := ih (by omega) k (by omega); have := h m (by omega); omega
  exact this n (Nat.le_refl _)
theorem cost_eq {We : Nat → Nat} {X Y : Nat → Int} (n : Nat) (h : ∀ k, k < n → X k = Y k) : rCost We X n = rCo Y We n := by
  induction n with
  | zero => rfl
  | succ n ih => rw [rCost, rCo, ih (fun k hk => h k (by omega)), h n (by omega)]
theorem cover_hang {dir : Bool} {Fr To : Nat → Nat} (hF : ∀ j, Fr j < 16) (hT : ∀ j, To j < 16) {U V : Nat → Int} {me v : Nat} (hv : v < 16) (hU : ∀ k, k < me → 0 < U k) (hV : ∀ k, k < me → 0 < V k) (h : gCover dir Fr To U me v = true) : gHang Fr To V me v = true := by
  unfold gCover at h
  rw [Bool.and_eq_true, decide_eq_true_iff, bt_sub (gTouch_lt hF hT me)] at h
  rw [gHang_iff hF hT hv]
  intro k hk _
  have := (gRL_iff hF hT hv _).mp (h.1 (Fr k) ((gTouch_bt me _).mpr ⟨k, hk, hU k hk, .inl rfl⟩))
  refine rN_mono (fun a b e => ?_) this
  obtain ⟨j, hj, _, q | q⟩ := e
  · exact ⟨j, hj, hV j hj, .inl q⟩
  · exact ⟨j, hj, hV j hj, .inr ⟨rfl, q.2⟩⟩
/-- extras that both agree on give one cost and one row -/
theorem round_eq {dir : Bool} {Fr To We : Nat → Nat} (hF : ∀ j, Fr j < 16) (hT : ∀ j, To j < 16) {me a : Nat} (hme : me ≤ 40) (ha : a < 16) {U : Nat → Int} (hc : gCover dir Fr To (fl U 1 me) me a = true) {X Y : Nat → Int} (hX : ∀ e, e < me → 0 ≤ X e) (hs : sX X me ≤ 600) (hXY : ∀ e, e < me → X e = Y e) (Lz Rw Le : Nat → Int) (Gr : Nat → Nat) :
    rCost We X me = rCo Y We me ∧ (wRow dir Fr To me Lz (rUse (fl U 1 me) X me) a).1 = (mWalk dir Fr To me (rLe Y Le me) Gr Rw a).2.2.2 ∧
    (∀ j, j < (wRow dir Fr To me Lz (rUse (fl U 1 me) X me) a).1 → (wRow dir Fr To me Lz (rUse (fl U 1 me) X me) a).2.1 j = (mWalk dir Fr To me (rLe Y Le me) Gr Rw a).2.2.1 j) ∧ (wRow dir Fr To me Lz (rUse (fl U 1 me) X me) a).1 ≤ 640 ∧
    lS (rLe Y Le me) me ≤ 640 ∧ (∀ e, e < me → X e ≤ 600) := by
  have hle : ∀ k, k < me → rLe Y Le me k = 1 + X k := fun k hk => by unfold rLe; rw [if_pos hk, hXY k hk]
  have hus : ∀ k, k < me → rUse (fl U 1 me) X me k = 1 + X k := fun k hk => by unfold rUse; rw [if_pos hk]
  have hn : lS (rLe Y Le me) me ≤ 640 := by
    have h1 := lS_sX (Le := rLe Y Le me) me (fun k hk => by rw [hle k hk]; have := hX k hk; omega)
    rw [sX_ext (g := fun k => 1 + X k) me hle, sX_one] at h1; omega
  obtain ⟨r1, r2, r3⟩ := row_eq (dir := dir) hF hT ha (cover_hang hF hT ha (fun k hk => by unfold fl; rw [if_pos hk]; decide) (fun k hk => by rw [hus k hk]; have := hX k hk; omega) hc)
    (U := rUse (fl U 1 me) X me) (Le := rLe Y Le me) (fun k hk => by rw [hle k hk, hus k hk]) (fun k hk => by rw [hle k hk]; have := hX k hk; omega) hn Lz Rw Gr
  exact ⟨cost_eq me hXY, r1, r2, r3, hn, fun e he => by have := sX_le me hX e he; omega⟩
/-- both find the same extras in a directed graph -/
theorem flow_eq {Fr To We : Nat → Nat} {nv me : Nat} (hn : nv ≤ 16) (hme : me ≤ 40) (hF : ∀ j, Fr j < 16) (hT : ∀ j, To j < 16) (hW : ∀ j, We j ≤ 1000000000) (hFn : ∀ j, j < me → Fr j < nv) (hTn : ∀ j, j < me → To j < nv) (φ : (Nat → Int) × (Nat → Int)) {st : Nat} (hst : st < nv) (hc : mCovers Fr To nv me (mMeas true Fr To We nv me φ).1 st = true)
    (X Su : Nat → Int) (σ : DS) (Y Sv : Nat → Int) (ρ : RS) : (sLp true Fr To We (fl Y 0 me) me 17 (sIn (mFl true Fr To me Sv nv) ρ nv)).2 = true ∧ (∀ e, e < me → 0 ≤ (bFind true Fr To We nv me X Su σ).1 e) ∧ sX (bFind true Fr To We nv me X Su σ).1 me ≤ 600 ∧ (∀ e, me ≤ e → (bFind true Fr To We nv me X Su σ).1 e = fl X 0 40 e) ∧
    ∀ L, L = (sLp true Fr To We (fl Y 0 me) me 17 (sIn (mFl true Fr To me Sv nv) ρ nv)).1 → ∀ Z, Z = fLp true Fr To We nv me 17 41 (fl Y 0 me, mFl true Fr To me Sv nv, (L.1, L.2.1, L.2.2.1, (mNr L.1 L.2.2.1 (mFl true Fr To me Sv nv) L.2.2.2 nv).1), (mNr L.1 L.2.2.1 (mFl true Fr To me Sv nv) L.2.2.2 nv).2) →
      Z.2 = true ∧ (∀ e, e < me → (bFind true Fr To We nv me X Su σ).1 e = Z.1.1 e) ∧ (∀ e, me ≤ e → Z.1.1 e = Y e) := by
  have hSC := sc_cover hn hF hT hW hFn hTn φ hst hc
  obtain ⟨a1, a2, ⟨p, a3⟩, a4, a5⟩ := bFind_q hn hme hF hT hW hFn hTn hSC X Su σ
  obtain ⟨b1, b2⟩ := flow_ref hW hn hme hFn hTn hSC Y Sv ρ
  refine ⟨b1, a1, a4, a5, fun L hL Z hZ => ?_⟩
  obtain ⟨c1, c2, c3, ⟨q, c4⟩, c5⟩ := b2 L hL Z hZ
  exact ⟨c1, flow_uni hme hF hT a1 c2 (fun u => by rw [a2, c3]) (by decide) a3 c4, c5⟩
/-- bits as extras -/
theorem xB_ok {z : Int} {X : Nat → Int} {me : Nat} : (∀ e, e < me → 0 ≤ xB z X me e ∧ xB z X me e ≤ 1) ∧ sX (xB z X me) me ≤ me := by
  have h : ∀ e, e < me → 0 ≤ xB z X me e ∧ xB z X me e ≤ 1 := fun e he => by unfold xB; rw [if_pos he]; omega
  refine ⟨h, ?_⟩
  have : ∀ n, n ≤ me → sX (xB z X me) n ≤ n := fun n => by
    induction n with
    | zero => intro _; exact Int.le_refl _
    | succ n ih => intro hn; rw [sX]; have := ih (by omega); have := (h n (by omega)).2; omega
  exact this me (Nat.le_refl _)
