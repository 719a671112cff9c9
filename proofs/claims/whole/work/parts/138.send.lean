theorem sIn_q {Su : Nat → Int} {ρ : RS} (n : Nat) : ∀ v, v < n → (sIn Su ρ n).1 v = decide (0 < Su v) ∧ (sIn Su ρ n).2.1 v = -1 ∧ ∀ k, k < 41 → (sIn Su ρ n).2.2.1 (41 * v + k) = 0 := by
  induction n with
  | zero => intro v hv; omega
  | succ n ih =>
    intro v hv
    rw [sIn_s]
    dsimp only
    by_cases e : v = n
    · subst e; rw [up_at, up_at]
      refine ⟨rfl, rfl, fun k hk => ?_⟩
      unfold cpW; rw [if_pos (by omega)]
    · rw [up_ne e, up_ne e]
      obtain ⟨a, b, c⟩ := ih v (by omega)
      refine ⟨a, b, fun k hk => ?_⟩
      unfold cpW; rw [if_neg (by omega)]; exact c k hk
def qTS (nv : Nat) (Su : Nat → Int) : qS := fun v => if v < nv ∧ 0 < Su v then some (0, none) else none
theorem sIn_rel {nv : Nat} (Su : Nat → Int) (ρ : RS) : sRel nv (sIn Su ρ nv) (qTS nv Su) ∧ sBn nv 0 (sIn Su ρ nv) := by
  refine ⟨fun v hv => ?_, fun v hv _ => ?_⟩
  · obtain ⟨a, b, c⟩ := sIn_q (Su := Su) (ρ := ρ) nv v hv
    rw [a, b]
    refine ⟨fun h => ?_, fun h => ⟨none, ?_, fun _ => rfl, fun a ha => (by cases ha)⟩⟩
    · unfold qTS; rw [if_neg (fun q => of_decide_eq_false h q.2)]
    · unfold qTS; rw [if_pos ⟨hv, of_decide_eq_true h⟩]
      congr 2
      unfold rcW
      have c0 : (sIn Su ρ nv).2.2.1 (41 * v) = 0 := c 0 (by decide)
      rw [hr_ext (s' := 0) (γ' := fun _ => 0) c0 40 (fun k hk => c (k + 1) (by omega)), hr_0]
  · obtain ⟨_, _, c⟩ := sIn_q (Su := Su) (ρ := ρ) nv v hv
    refine ⟨?_, fun k hk => ?_⟩
    · rw [show 41 * v = 41 * v + 0 from rfl, c 0 (by decide)]; decide
    · rw [c (k + 1) (by omega)]; decide
def qRp (P : Nat → Prop) (σ : qS) : Prop := ∀ v x, σ v = some (x, none) → P v
theorem qR_rp {P : Nat → Prop} {σ : qS} (h : qRp P σ) (a : qA) : qRp P (qR σ a) := by
  rcases qR_cases σ a with ⟨e, _⟩ | ⟨x, hx, e, _⟩
  · rw [e]; exact h
  · rw [e]; intro v y hy
    by_cases ev : v = a.2.1
    · subst ev; rw [up_at] at hy; injection hy with hy; injection hy with _ hy; cases hy
    · rw [up_ne ev] at hy; exact h v y hy
theorem qP_rp {P : Nat → Prop} (A : List qA) {σ : qS} (h : qRp P σ) : qRp P (qP A σ) := by
  induction A generalizing σ with
  | nil => exact h
  | cons a A ih => exact ih (qR_rp h a)
theorem qN_rp {P : Nat → Prop} (A : List qA) (n : Nat) {σ : qS} (h : qRp P σ) : qRp P (qN A n σ) := by
  induction n generalizing σ with
  | zero => exact h
  | succ n ih => exact ih (qP_rp A h)
theorem max_ex (p : Nat → Int) (n : Nat) : ∃ K, ∀ v, v < n → p v ≤ K := by
  induction n with
  | zero => exact ⟨0, fun v hv => by omega⟩
  | succ n ih =>
    obtain ⟨K, h⟩ := ih
    by_cases q : K ≤ p n
    · exact ⟨p n, fun v hv => by
        by_cases e : v = n
        · subst e; exact Int.le_refl _
        · have := h v (by omega); omega⟩
    · exact ⟨K, fun v hv => by
        by_cases e : v = n
        · subst e; omega
        · exact h v (by omega)⟩
/-- the reference's spreading, at its end -/
def sOk (c : Nat → Int) (Fr To : Nat → Nat) (nv me : Nat) (X Su : Nat → Int) (ρ : RS) : Prop := ∃ τ : qS, sRel nv ρ τ ∧ qInv (fArcs c Fr To X me) τ ∧ (∀ v, qFin (fun v => v < nv ∧ 0 < Su v) (fArcs c Fr To X me) τ v) ∧ qCl (fArcs c Fr To X me) τ ∧ qRp (fun v => v < nv ∧ 0 < Su v) τ ∧ ∀ v x, τ v = some x → v < nv
theorem spread_q {dir : Bool} {Fr To We : Nat → Nat} (hWe : ∀ j, We j ≤ 1000000000) {nv me : Nat} (hn : nv ≤ 16) (hme : me ≤ 40) (hFn : ∀ j, j < me → Fr j < nv) (hTn : ∀ j, j < me → To j < nv) {X : Nat → Int} {p : Nat → Int} (hp : qPot (fArcs (cdE qB 1 We) Fr To X me) p) (Su : Nat → Int) (ρ : RS) :
    (sLp dir Fr To We X me 17 (sIn Su ρ nv)).2 = true ∧ sOk (cdE qB 1 We) Fr To nv me X Su (sLp dir Fr To We X me 17 (sIn Su ρ nv)).1 := by
  obtain ⟨K, hK⟩ := max_ex p nv
  have hA : ∀ a, a ∈ fArcs (cdE qB 1 We) Fr To X me → a.2.1 < nv := fun a ha => by
    obtain ⟨i, hi, r | ⟨_, r⟩⟩ := fArcs_mem.mp ha <;> subst r
    · exact hTn i hi
    · exact hFn i hi
  have h0 : ∀ v, (v < nv ∧ 0 < Su v) → ∃ y, qTS nv Su v = some y ∧ y.1 ≤ 0 := fun v e => ⟨(0, none), by unfold qTS; rw [if_pos e], Int.le_refl _⟩
  have hsd : qSd (fun v => v < nv ∧ 0 < Su v) (fArcs (cdE qB 1 We) Fr To X me) (qTS nv Su) := fun v x hx => by
    unfold qTS at hx
    by_cases e : v < nv ∧ 0 < Su v
    · rw [if_pos e] at hx; injection hx with hx; subst hx; exact qWk_nil v e
    · rw [if_neg e] at hx; cases hx
  have hiv : qInv (fArcs (cdE qB 1 We) Fr To X me) (qTS nv Su) := fun v x hx => by
    unfold qTS at hx
    by_cases e : v < nv ∧ 0 < Su v
    · exact qCh_root v (by unfold qTS; rw [if_pos e])
    · rw [if_neg e] at hx; cases hx
  have hrp : qRp (fun v => v < nv ∧ 0 < Su v) (qTS nv Su) := fun v x hx => by
    unfold qTS at hx
    by_cases e : v < nv ∧ 0 < Su v
    · exact e
    · rw [if_neg e] at hx; cases hx
  have hf := qN_fin (S := fun v => v < nv ∧ 0 < Su v) hp K (fun v e => hK v e.1) (qTS nv Su) h0 (fun v e => by have := e.1; omega) (fun a ha => by have := hA a ha; omega)
  have hs' := qN_sd 16 hsd
  have hcl := qFin_cl hs' hf
  obtain ⟨r1, r2⟩ := sIn_rel (nv := nv) Su ρ
  obtain ⟨q1, q2⟩ := sLp_q' (dir := dir) hWe hme hFn hTn (X := X) 16 r1 r2 (by decide) hcl
  exact ⟨q1, qN (fArcs (cdE qB 1 We) Fr To X me) 16 (qTS nv Su), q2, qN_inv hp 16 hiv, hf, hcl, qN_rp _ 16 hrp, fun v x hx => qWk_ind (M := fun v _ => v < nv) (fun v e => e.1) (fun a _ ha _ _ => hA a ha) (hs' v x hx)⟩
theorem mNr_q {Re : Nat → Bool} {Wy Su Sm : Nat → Int} (n : Nat) : ((mNr Re Wy Su Sm n).2 < 0 ∧ ∀ v, v < n → 0 ≤ Su v) ∨ ∃ t, t < n ∧ (mNr Re Wy Su Sm n).2 = ((t : Nat) : Int) ∧ Su t < 0 := by
  induction n with
  | zero => left; exact ⟨by show (-1 : Int) < 0; decide, fun v hv => by omega⟩
  | succ n ih =>
    rw [mNr]
    by_cases c : 0 ≤ Su n
    · rw [if_pos c]
      rcases ih with ⟨a, b⟩ | ⟨t, a, b, d⟩
      · left; refine ⟨a, fun v hv => ?_⟩
        by_cases e : v = n
        · subst e; exact c
        · exact b v (by omega)
      · right; exact ⟨t, by omega, b, d⟩
    · rw [if_neg c]
      by_cases d : (mNr Re Wy Su Sm n).2 < 0 ∨ mLess Re (cpS Wy (mNr Re Wy Su Sm n).1 n 41) Wy (mNr Re Wy Su Sm n).2.toNat = true
      · rw [if_pos d]; right; exact ⟨n, by omega, rfl, by omega⟩
      · rw [if_neg d]
        rcases ih with ⟨a, b⟩ | ⟨t, a, b, e⟩
        · exact absurd (.inl a) d
        · right; exact ⟨t, by omega, b, e⟩
theorem fPa_cX {c : Nat → Int} {Fr To : Nat → Nat} {X0 : Nat → Int} {nv me : Nat} (hme : me ≤ 40) {τ : qS} {ρ : RS} (hr : sRel nv ρ τ) (hτ : ∀ v x, τ v = some x → v < nv) (n f a : Nat) (X : Nat → Int) (h : qChn (fArcs c Fr To X0 me) τ n a) (hf : n < f) :
    fPa Fr To ρ.2.1 f (X, a) = ((cX τ n a X, qCv τ a n), true) := by
  have hby : ∀ v x b, τ v = some (x, b) → (b = none → ρ.2.1 v = -1) ∧ ∀ a, b = some a → ρ.2.1 v = byL a.2.2.2 := fun v x b e => by
    have hv := hτ v _ e
    cases hre : ρ.1 v with
    | false => rw [(hr v hv).1 hre] at e; cases e
    | true =>
      obtain ⟨b', h1, h2, h3⟩ := (hr v hv).2 hre
      rw [e] at h1; injection h1 with h1; injection h1 with _ h1; subst h1; exact ⟨h2, h3⟩
  induction n generalizing f a X with
  | zero =>
    have e : τ a = some (0, none) := h
    cases f with
    | zero => omega
    | succ f =>
      have := (hby a _ _ e).1 rfl
      rw [fPa]; show (if ρ.2.1 a < 0 then _ else _) = _
      rw [if_pos (by omega)]; rfl
  | succ n ih =>
    cases f with
    | zero => omega
    | succ f =>
      obtain ⟨x, y, b, b', e, hb, hv, hu, hx, hc⟩ := h
      have hl := (hby a _ _ e).2 b rfl
      rw [fPa, cX_s e, qCv, qPar_eq e]
      show (if ρ.2.1 a < 0 then _ else if ρ.2.1 a < 40 then fPa Fr To ρ.2.1 f (va_up X ((ρ.2.1 a).toNat % 40) (X ((ρ.2.1 a).toNat % 40) + 1), Fr ((ρ.2.1 a).toNat % 40)) else fPa Fr To ρ.2.1 f (va_up X ((ρ.2.1 a).toNat % 40) (X ((ρ.2.1 a).toNat % 40) + (-1)), To ((ρ.2.1 a).toNat % 40))) = _
      rw [hl]
      obtain ⟨i, hi, r | ⟨_, r⟩⟩ := fArcs_mem.mp hb
      · subst r
        dsimp only at *
        have e1 : byL (2 * i) = ((i : Nat) : Int) := by unfold byL; rw [if_pos (by omega), show 2 * i / 2 = i by omega]
        rw [e1, if_neg (show ¬ ((i : Nat) : Int) < 0 by omega), if_pos (show ((i : Nat) : Int) < 40 by omega), show ((i : Nat) : Int).toNat % 40 = i by omega, if_pos (show 2 * i % 2 = 0 by omega), show 2 * i / 2 = i by omega]
        exact ih f (Fr i) _ hc (by omega)
      · subst r
        dsimp only at *
        have e1 : byL (2 * i + 1) = ((40 + i : Nat) : Int) := by unfold byL; rw [if_neg (by omega), show (2 * i + 1) / 2 = i by omega]
        rw [e1, if_neg (show ¬ ((40 + i : Nat) : Int) < 0 by omega), if_neg (show ¬ ((40 + i : Nat) : Int) < 40 by omega), show ((40 + i : Nat) : Int).toNat % 40 = i by omega, if_neg (show ¬ (2 * i + 1) % 2 = 0 by omega), show (2 * i + 1) / 2 = i by omega]
        exact ih f (To i) _ hc (by omega)
theorem fI_ext {c : Nat → Int} {Fr To : Nat → Nat} {nv me : Nat} {X Su Su' : Nat → Int} (h : fI c Fr To nv me X Su) (e : ∀ v, v < nv → Su' v = Su v) : fI c Fr To nv me X Su' := ⟨h.1, fun v hv => (e v hv).trans (h.2.1 v hv), h.2.2⟩
/-- one passage of the reference -/
theorem pass_q {Fr To : Nat → Nat} {nv me : Nat} (hn : nv ≤ 16) (hme : me ≤ 40) (hFn : ∀ j, j < me → Fr j < nv) (hTn : ∀ j, j < me → To j < nv) {c : Nat → Int} (hSC : ∀ a b, mHas Fr To a me = true → mHas Fr To b me = true → rN (gEd true false Fr To (fun _ => 1) me) a b)
    {X Su : Nat → Int} {ρ : RS} (h : fI c Fr To nv me X Su) (hs : sOk c Fr To nv me X Su ρ) {t : Nat} (ht : t < nv) (h0 : Su t < 0) :
    (fPa Fr To ρ.2.1 17 (X, t)).2 = true ∧ fI c Fr To nv me (fPa Fr To ρ.2.1 17 (X, t)).1.1 (va_up (va_up Su t (Su t + 1)) (fPa Fr To ρ.2.1 17 (X, t)).1.2 ((va_up Su t (Su t + 1)) (fPa Fr To ρ.2.1 17 (X, t)).1.2 - 1)) ∧
    tpS (va_up (va_up Su t (Su t + 1)) (fPa Fr To ρ.2.1 17 (X, t)).1.2 ((va_up Su t (Su t + 1)) (fPa Fr To ρ.2.1 17 (X, t)).1.2 - 1)) nv + 1 = tpS Su nv ∧ (∀ e, me ≤ e → (fPa Fr To ρ.2.1 17 (X, t)).1.1 e = X e) := by
  obtain ⟨τ, hr, hi, hfin, hcl, hrp, hτ⟩ := hs
  have hpos : ∃ s, s < nv ∧ 0 < Su s := by
    apply Classical.byContradiction; intro q
    have := all_zero nv (fI_sum hFn hTn h) (.inl (fun v hv => by
      apply Classical.byContradiction; intro z; exact q ⟨v, hv, by omega⟩)) t ht
    omega
  obtain ⟨s, hs1, hs2⟩ := hpos
  have hS := fI_has h hs1 (show Su s ≠ 0 by omega)
  have hTt := fI_has h ht (show Su t ≠ 0 by omega)
  have hre : ∀ u, mHas Fr To u me = true → ∃ x, τ u = some x := fun u hu => by
    obtain ⟨x, hx⟩ := rN_qWk (c := c) (X := X) (S := fun v => v < nv ∧ 0 < Su v) ⟨hs1, hs2⟩ (hSC s u hS hu)
    obtain ⟨y, hy, _⟩ := hfin u x hx
    exact ⟨y, hy⟩
  have hre' : ∀ e, e < me → (∃ x, τ (Fr e) = some x) ∧ ∃ x, τ (To e) = some x := fun e he => ⟨hre _ ((mHas_iff me).mpr ⟨e, he, .inl rfl⟩), hre _ ((mHas_iff me).mpr ⟨e, he, .inr rfl⟩)⟩
  obtain ⟨xt, hxt⟩ := hre t hTt
  obtain ⟨n, hch⟩ := hi t _ hxt
  have hτ16 : ∀ v x, τ v = some x → v < 16 := fun v x hx => by have := hτ v x hx; omega
  have hn15 := qChn_lt hτ16 hch
  obtain ⟨r1, r2⟩ := hrp _ _ (chn_root hch)
  have hrt : qCv τ t n ≠ t := fun e => by rw [e] at r2; omega
  obtain ⟨q1, q2, q3⟩ := send_q h hi hcl hre' hτ16 hch rfl hrt
  rw [fPa_cX hme hr hτ n 17 t X hch (by omega)]
  show true = true ∧ fI c Fr To nv me (cX τ n t X) (va_up (va_up Su t (Su t + 1)) (qCv τ t n) ((va_up Su t (Su t + 1)) (qCv τ t n) - 1)) ∧ tpS (va_up (va_up Su t (Su t + 1)) (qCv τ t n) ((va_up Su t (Su t + 1)) (qCv τ t n) - 1)) nv + 1 = tpS Su nv ∧ ∀ e, me ≤ e → cX τ n t X e = X e
  rw [up_ne hrt]
  refine ⟨rfl, fI_ext q1 (fun v hv => ?_), ?_, q3⟩
  · by_cases e1 : v = qCv τ t n
    · rw [e1, up_at, up_ne hrt, up_at]
    · rw [up_ne e1]
      by_cases e2 : v = t
      · rw [e2, up_at, up_at]
      · rw [up_ne e2, up_ne e2, up_ne e1]
  · rw [tpS_up, if_pos r1, tpS_up, if_pos ht, up_ne hrt, if_pos r2, if_neg (show ¬ 0 < Su t by omega), if_neg (show ¬ 0 < Su t + 1 by omega)]
    by_cases z : 0 < Su (qCv τ t n) - 1
    · rw [if_pos z]; omega
    · rw [if_neg z]; omega
