theorem dArcs_f {Fr To We : Nat → Nat} {X : Nat → Int} (me : Nat) : dArcs true Fr To We X me = fArcs (cdE 2 1048576 We) Fr To X me := by
  have h40 : (2 : Int) ^ 40 = 1099511627776 := by decide
  have e : ∀ i, ((We i : Nat) : Int) * qM + 2 ^ (39 - i) = cdE 2 1048576 We i := fun i => by
    have hh : ((We i : Nat) : Int) * qM = 1048576 * ((We i : Nat) : Int) * 2 ^ 40 := by rw [h40]; simp only [qM]; omega
    unfold cdE; rw [hh]
  have e' : ∀ i, -((We i : Nat) : Int) * qM + -(2 ^ (39 - i)) = -cdE 2 1048576 We i := fun i => by
    rw [← e i, Int.neg_mul, Int.neg_add]
  have hA : ∀ n, dArc true Fr To We X n = fArc (cdE 2 1048576 We) Fr To X n := fun n => by
    unfold dArc fArc
    rw [if_neg (show ¬ (true = false) by decide), e n, e' n]
  induction me with
  | zero => rfl
  | succ n ih => rw [dArcs, fArcs, ih, hA]
/-- roots of the search are its source alone -/
def qRt (src : Nat) (σ : qS) : Prop := ∀ v x, σ v = some (x, none) → v = src
theorem qR_rt {src : Nat} {σ : qS} (h : qRt src σ) (a : qA) : qRt src (qR σ a) := by
  rcases qR_cases σ a with ⟨e, _⟩ | ⟨x, hx, e, _⟩
  · rw [e]; exact h
  · rw [e]; intro v y hy
    by_cases ev : v = a.2.1
    · subst ev; rw [up_at] at hy; injection hy with hy; injection hy with _ hy; cases hy
    · rw [up_ne ev] at hy; exact h v y hy
theorem qP_rt {src : Nat} (A : List qA) {σ : qS} (h : qRt src σ) : qRt src (qP A σ) := by
  induction A generalizing σ with
  | nil => exact h
  | cons a A ih => exact ih (qR_rt h a)
theorem qN_rt {src : Nat} (A : List qA) (n : Nat) {σ : qS} (h : qRt src σ) : qRt src (qN A n σ) := by
  induction n generalizing σ with
  | zero => exact h
  | succ n ih => exact ih (qP_rt A h)
theorem dSearch_r {dir : Bool} {Fr To We : Nat → Nat} {X : Nat → Int} (hF : ∀ j, Fr j < 16) (hT : ∀ j, To j < 16) (hW : ∀ j, We j ≤ 1000000000) {me : Nat} (hme : me ≤ 40) {p : Nat → Int} (hp : qPot (dArcs dir Fr To We X me) p) (σ : DS) {src : Nat} (hs : src < 16) :
    ∃ τ : qS, dRel (dSearch dir Fr To We X me σ src) τ ∧ qInv (dArcs dir Fr To We X me) τ ∧ qSd (fun v => v = src) (dArcs dir Fr To We X me) τ ∧ (∀ v, qFin (fun v => v = src) (dArcs dir Fr To We X me) τ v) ∧ qCl (dArcs dir Fr To We X me) τ ∧ qRt src τ ∧ (∀ v x, τ v = some x → v < 16) := by
  have h0 : ∀ v, v = src → ∃ y, qT0 src v = some y ∧ y.1 ≤ 0 := fun v e => ⟨(0, none), by unfold qT0; rw [if_pos e], Int.le_refl _⟩
  have hsd : qSd (fun v => v = src) (dArcs dir Fr To We X me) (qT0 src) := fun v x hx => by
    unfold qT0 at hx
    by_cases e : v = src
    · rw [if_pos e] at hx; injection hx with hx; subst hx; exact qWk_nil v e
    · rw [if_neg e] at hx; cases hx
  have hiv : qInv (dArcs dir Fr To We X me) (qT0 src) := fun v x hx => by
    unfold qT0 at hx
    by_cases e : v = src
    · exact qCh_root v (by unfold qT0; rw [if_pos e])
    · rw [if_neg e] at hx; cases hx
  have hrt : qRt src (qT0 src) := fun v x hx => by
    unfold qT0 at hx
    by_cases e : v = src
    · exact e
    · rw [if_neg e] at hx; cases hx
  have hA : ∀ a, a ∈ dArcs dir Fr To We X me → a.2.1 < 16 := fun a ha => by
    obtain ⟨i, _, hi⟩ := dArcs_mem.mp ha
    rcases dArc_in hi with e | ⟨_, e⟩ | ⟨_, _, e⟩ <;> subst e
    · exact hT i
    · exact hF i
    · exact hF i
  have hS : ∀ v, v = src → v < 16 := fun v e => by subst e; exact hs
  have hf := qN_fin (S := fun v => v = src) hp (p src) (fun v e => by subst e; exact Int.le_refl _) (qT0 src) h0 hS hA
  have hs' := qN_sd 16 hsd
  exact ⟨qN (dArcs dir Fr To We X me) 16 (qT0 src), dLoop_q hF hT hW hme 16 (dInit_q σ src) (dInit_B σ hs) (Nat.le_refl _) (fun h => by cases h), qN_inv hp 16 hiv, hs', hf, qFin_cl hs' hf, qN_rt _ 16 hrt,
    fun v x hx => qWk_lt hS hA (hs' v x hx)⟩
theorem chn_root {A : List qA} {τ : qS} {n v : Nat} (h : qChn A τ n v) : τ (qCv τ v n) = some (0, none) := by
  have := qCv_ch h n (Nat.le_refl _); rw [Nat.sub_self] at this; exact this
theorem bAdd_cX {c : Nat → Int} {Fr To : Nat → Nat} {X0 : Nat → Int} {me : Nat} {τ : qS} {σ : DS} (hr : dRel σ τ) (hτ : ∀ v x, τ v = some x → v < 16) {src : Nat} (hrt : qRt src τ) (hsrc : τ src = some (0, none)) (n f a : Nat) (X : Nat → Int) (h : qChn (fArcs c Fr To X0 me) τ n a) (hf : n ≤ f) :
    bAdd Fr To σ.2.2.2.1 src f a X = cX τ n a X := by
  induction n generalizing f a X with
  | zero =>
    have e : a = src := hrt a 0 h
    cases f with
    | zero => rfl
    | succ f => rw [bAdd, if_pos e]; rfl
  | succ n ih =>
    cases f with
    | zero => omega
    | succ f =>
      obtain ⟨x, y, b, b', e, hb, hv, hu, hx, hc⟩ := h
      have hne : a ≠ src := fun q => by subst q; rw [hsrc] at e; injection e with e; injection e with _ e; cases e
      obtain ⟨_, _, hl⟩ := dRel_some hr (hτ a _ e) e
      have hl := hl b rfl
      rw [bAdd, if_neg hne, cX_s e, hl]
      obtain ⟨i, hi, r | ⟨_, r⟩⟩ := fArcs_mem.mp hb
      · subst r
        dsimp only at *
        rw [if_pos (show 2 * i % 2 = 0 by omega), if_pos (show 2 * i % 2 = 0 by omega), show 2 * i / 2 = i by omega]
        exact ih f (Fr i) _ hc (by omega)
      · subst r
        dsimp only at *
        rw [if_neg (show ¬ (2 * i + 1) % 2 = 0 by omega), if_neg (show ¬ (2 * i + 1) % 2 = 0 by omega), show (2 * i + 1) / 2 = i by omega]
        exact ih f (To i) _ hc (by omega)
theorem bStep_q {Fr To We : Nat → Nat} {nv me : Nat} (hn : nv ≤ 16) (hme : me ≤ 40) (hF : ∀ j, Fr j < 16) (hT : ∀ j, To j < 16) (hW : ∀ j, We j ≤ 1000000000) (hSC : ∀ a b, mHas Fr To a me = true → mHas Fr To b me = true → rN (gEd true false Fr To (fun _ => 1) me) a b)
    (β : BS) (h : fI (cdE 2 1048576 We) Fr To nv me β.1 β.2.1) (h1 : 0 ≤ bLw β.2.1 1 nv nv) (h2 : 0 ≤ bLw β.2.1 (-1) nv nv) :
    fI (cdE 2 1048576 We) Fr To nv me (bStep true Fr To We nv me β).1 (bStep true Fr To We nv me β).2.1 ∧ sX (bStep true Fr To We nv me β).1 me ≤ sX β.1 me + 15 ∧ (∀ e, me ≤ e → (bStep true Fr To We nv me β).1 e = β.1 e) ∧ tpS (bStep true Fr To We nv me β).2.1 nv + 1 = tpS β.2.1 nv := by
  obtain ⟨s1, s2⟩ := (bLw_q (Su := β.2.1) (sg := 1) nv (Nat.le_refl _)).1 h1
  obtain ⟨t1, t2⟩ := (bLw_q (Su := β.2.1) (sg := -1) nv (Nat.le_refl _)).1 h2
  unfold bStep
  generalize (bLw β.2.1 1 nv nv).toNat = s at s1 s2 ⊢
  generalize (bLw β.2.1 (-1) nv nv).toNat = t at t1 t2 ⊢
  have hst : s ≠ t := fun e => by subst e; omega
  have hp := h.2.2
  obtain ⟨p, hp⟩ := hp
  rw [← dArcs_f] at hp
  obtain ⟨τ, hr, hi, hsd, hfin, hcl, hrt, hτ⟩ := dSearch_r hF hT hW hme hp β.2.2 (show s < 16 by omega)
  rw [dArcs_f] at hi hcl hfin hsd
  have hS := fI_has h s1 (show β.2.1 s ≠ 0 by omega)
  have hTt := fI_has h t1 (show β.2.1 t ≠ 0 by omega)
  have hre : ∀ u, mHas Fr To u me = true → ∃ x, τ u = some x := fun u hu => by
    obtain ⟨x, hx⟩ := rN_qWk (c := cdE 2 1048576 We) (X := β.1) (S := fun v => v = s) rfl (hSC s u hS hu)
    obtain ⟨y, hy, _⟩ := hfin u x hx
    exact ⟨y, hy⟩
  have hre' : ∀ e, e < me → (∃ x, τ (Fr e) = some x) ∧ ∃ x, τ (To e) = some x := fun e he => ⟨hre _ ((mHas_iff me).mpr ⟨e, he, .inl rfl⟩), hre _ ((mHas_iff me).mpr ⟨e, he, .inr rfl⟩)⟩
  obtain ⟨xs, hxs⟩ := hre s hS
  obtain ⟨ms, hms⟩ := hi s _ hxs
  have hsrc : τ s = some (0, none) := by
    have := chn_root hms; rw [hrt _ _ this] at this; exact this
  obtain ⟨xt, hxt⟩ := hre t hTt
  obtain ⟨n, hch⟩ := hi t _ hxt
  have hroot : qCv τ t n = s := hrt _ _ (chn_root hch)
  have hn15 := qChn_lt hτ hch
  obtain ⟨q1, q2, q3⟩ := send_q h hi hcl hre' hτ hch hroot hst
  have eb := bAdd_cX hr hτ hrt hsrc n 16 t β.1 hch (by omega)
  show fI _ _ _ _ _ (bAdd Fr To (dSearch true Fr To We β.1 me β.2.2 s).2.2.2.1 s 16 t β.1) (va_up (va_up β.2.1 s (β.2.1 s - 1)) t ((va_up β.2.1 s (β.2.1 s - 1)) t + 1)) ∧ sX (bAdd Fr To (dSearch true Fr To We β.1 me β.2.2 s).2.2.2.1 s 16 t β.1) me ≤ _ ∧ (∀ e, me ≤ e → bAdd Fr To (dSearch true Fr To We β.1 me β.2.2 s).2.2.2.1 s 16 t β.1 e = β.1 e) ∧ tpS (va_up (va_up β.2.1 s (β.2.1 s - 1)) t ((va_up β.2.1 s (β.2.1 s - 1)) t + 1)) nv + 1 = _
  rw [eb, up_ne (fun q => hst q.symm)]
  refine ⟨q1, q2, q3, ?_⟩
  rw [tpS_up, if_pos t1, tpS_up, if_pos s1, up_ne (fun q => hst q.symm), if_pos (show 0 < β.2.1 s by omega), if_neg (show ¬ 0 < β.2.1 t by omega), if_neg (show ¬ 0 < β.2.1 t + 1 by omega)]
  by_cases z : 0 < β.2.1 s - 1
  · rw [if_pos z]; omega
  · rw [if_neg z]; omega
theorem bLoop_q {Fr To We : Nat → Nat} {nv me : Nat} (hn : nv ≤ 16) (hme : me ≤ 40) (hF : ∀ j, Fr j < 16) (hT : ∀ j, To j < 16) (hW : ∀ j, We j ≤ 1000000000) (hFn : ∀ j, j < me → Fr j < nv) (hTn : ∀ j, j < me → To j < nv) (hSC : ∀ a b, mHas Fr To a me = true → mHas Fr To b me = true → rN (gEd true false Fr To (fun _ => 1) me) a b)
    (n : Nat) (β : BS) (h : fI (cdE 2 1048576 We) Fr To nv me β.1 β.2.1) (hb : tpS β.2.1 nv ≤ n) :
    fI (cdE 2 1048576 We) Fr To nv me (bLoop true Fr To We nv me n β).1 (bLoop true Fr To We nv me n β).2.1 ∧ (∀ v, v < nv → (bLoop true Fr To We nv me n β).2.1 v = 0) ∧ sX (bLoop true Fr To We nv me n β).1 me ≤ sX β.1 me + 15 * n ∧ (∀ e, me ≤ e → (bLoop true Fr To We nv me n β).1 e = β.1 e) := by
  induction n generalizing β with
  | zero =>
    have hz := (tpS_0 (Su := β.2.1) nv).2 (by omega)
    refine ⟨h, all_zero nv (fI_sum hFn hTn h) (.inl hz), ?_, fun e _ => rfl⟩
    show sX β.1 me ≤ sX β.1 me + 15 * ((0 : Nat) : Int); omega
  | succ n ih =>
    rw [bLoop]
    by_cases c : bLw β.2.1 1 nv nv < 0 ∨ bLw β.2.1 (-1) nv nv < 0
    · rw [if_pos c]
      refine ⟨h, all_zero nv (fI_sum hFn hTn h) ?_, by omega, fun e _ => rfl⟩
      rcases c with c | c
      · left; intro v hv; have := (bLw_q (Su := β.2.1) (sg := 1) nv (Nat.le_refl _)).2 c v (by omega) hv; omega
      · right; intro v hv; have := (bLw_q (Su := β.2.1) (sg := -1) nv (Nat.le_refl _)).2 c v (by omega) hv; omega
    · rw [if_neg c]
      obtain ⟨a1, a2, a3, a4⟩ := bStep_q hn hme hF hT hW hSC β h (by omega) (by omega)
      obtain ⟨b1, b2, b3, b4⟩ := ih _ a1 (by omega)
      exact ⟨b1, b2, by omega, fun e he => (b4 e he).trans (a3 e he)⟩
/-- the house's extras in a directed graph -/
theorem bFind_q {Fr To We : Nat → Nat} {nv me : Nat} (hn : nv ≤ 16) (hme : me ≤ 40) (hF : ∀ j, Fr j < 16) (hT : ∀ j, To j < 16) (hW : ∀ j, We j ≤ 1000000000) (hFn : ∀ j, j < me → Fr j < nv) (hTn : ∀ j, j < me → To j < nv) (hSC : ∀ a b, mHas Fr To a me = true → mHas Fr To b me = true → rN (gEd true false Fr To (fun _ => 1) me) a b)
    (X Su : Nat → Int) (σ : DS) : (∀ e, e < me → 0 ≤ (bFind true Fr To We nv me X Su σ).1 e) ∧ (∀ u, nX Fr To (bFind true Fr To We nv me X Su σ).1 u me = -gSur Fr To u me) ∧ (∃ p, qPot (fArcs (cdE 2 1048576 We) Fr To (bFind true Fr To We nv me X Su σ).1 me) p) ∧ sX (bFind true Fr To We nv me X Su σ).1 me ≤ 600 ∧ (∀ e, me ≤ e → (bFind true Fr To We nv me X Su σ).1 e = fl X 0 40 e) := by
  have h0 : ∀ e, e < me → fl X 0 40 e = 0 := fun e he => by unfold fl; rw [if_pos (by omega)]
  have hnx : ∀ u n, n ≤ me → nX Fr To (fl X 0 40) u n = 0 := fun u n => by
    induction n with
    | zero => intro _; rfl
    | succ n ih => intro hn; rw [nX, ih (by omega), h0 n (by omega)]; split <;> split <;> rfl
  have hsx : ∀ n, n ≤ me → sX (fl X 0 40) n = 0 := fun n => by
    induction n with
    | zero => intro _; rfl
    | succ n ih => intro hn; rw [sX, ih (by omega), h0 n (by omega)]; rfl
  have hsu : ∀ v, v < nv → bFill Fr To me Su nv v = gSur Fr To v me := fun v hv => by unfold bFill; rw [if_pos hv]
  obtain ⟨a1, a2, a3, a4⟩ := bLoop_q hn hme hF hT hW hFn hTn hSC 40 (fl X 0 40, bFill Fr To me Su nv, σ) ⟨fun e he => by show 0 ≤ fl X 0 40 e; rw [h0 e he]; exact Int.le_refl _, fun v hv => by
      show bFill Fr To me Su nv v = gSur Fr To v me + nX Fr To (fl X 0 40) v me
      rw [hsu v hv, hnx v me (Nat.le_refl _)]; omega, fun _ => 0, fun a ha => by
      obtain ⟨i, hi, r | ⟨hp, r⟩⟩ := fArcs_mem.mp ha
      · subst r
        show (0 : Int) ≤ 0 + cdE 2 1048576 We i
        unfold cdE
        have : 0 ≤ (2 : Int) ^ (39 - i) := (pow39p i).1
        have : (2 : Int) ^ 40 = 1099511627776 := by decide
        omega
      · have hp : 0 < fl X 0 40 i := hp
        rw [h0 i hi] at hp; omega⟩ (by
      show tpS (bFill Fr To me Su nv) nv ≤ _
      rw [tpS_ext (g := fun v => gSur Fr To v me) nv hsu]
      have := tpS_sur Fr To me nv; omega)
  have a3 : sX (bLoop true Fr To We nv me 40 (fl X 0 40, bFill Fr To me Su nv, σ)).1 me ≤ sX (fl X 0 40) me + 15 * ((40 : Nat) : Int) := a3
  rw [hsx me (Nat.le_refl _)] at a3
  refine ⟨a1.1, fun u => ?_, a1.2.2, by show sX (bLoop true Fr To We nv me 40 (fl X 0 40, bFill Fr To me Su nv, σ)).1 me ≤ 600; omega, a4⟩
  by_cases hu : u < nv
  · have := a1.2.1 u hu; rw [a2 u hu] at this
    show nX Fr To (bLoop true Fr To We nv me 40 (fl X 0 40, bFill Fr To me Su nv, σ)).1 u me = _
    omega
  · have hno : mHas Fr To u me ≠ true := fun q => hu (has_lt hFn hTn q)
    rw [nX_none _ hno, gSur_nX, nX_none _ hno]; rfl
