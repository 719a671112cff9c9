theorem qCv_z (τ : qS) (v : Nat) : qCv τ v 0 = v := rfl
theorem cX_lo {A : List qA} {τ : qS} (n v : Nat) (X : Nat → Int) (h : qChn A τ n v) (e : Nat) (hn : ∀ i x a, i < n → τ (qCv τ v i) = some (x, some a) → a.2.2.2 ≠ 2 * e + 1) : X e ≤ cX τ n v X e := by
  induction n generalizing v X with
  | zero => exact Int.le_refl _
  | succ n ih =>
    obtain ⟨x, y, a, b, q, ha, hv, hu, hx, hc⟩ := h
    rw [cX_s q]
    have h0 := hn 0 x a (by omega) q
    refine Int.le_trans ?_ (ih a.1 _ hc (fun i x' a' hi hq => hn (i + 1) x' a' (by omega) (by rw [qCv, qPar_eq q]; exact hq)))
    by_cases z : e = a.2.2.2 / 2
    · subst z; rw [up_at, if_pos (by omega)]; omega
    · rw [up_ne z]; exact Int.le_refl _
theorem cX_lo1 {c : Nat → Int} {Fr To : Nat → Nat} {X0 : Nat → Int} {me : Nat} {τ : qS} (n v : Nat) (X : Nat → Int) (h : qChn (fArcs c Fr To X0 me) τ n v) (e : Nat) : X e - 1 ≤ cX τ n v X e := by
  induction n generalizing v X with
  | zero => show X e - 1 ≤ X e; omega
  | succ n ih =>
    have h' := h
    obtain ⟨x, y, a, b, q, ha, hv, hu, hx, hc⟩ := h
    rw [cX_s q]
    by_cases z : a.2.2.2 = 2 * e + 1
    · have hd : a.2.1 = Fr e := by
        obtain ⟨i, _, r | ⟨_, r⟩⟩ := fArcs_mem.mp ha
        · subst r; have z : 2 * i = 2 * e + 1 := z; omega
        · subst r; have z : 2 * i + 1 = 2 * e + 1 := z
          show Fr i = Fr e; rw [show i = e by omega]
      have := cX_lo n a.1 (va_up X (a.2.2.2 / 2) (X (a.2.2.2 / 2) + (if a.2.2.2 % 2 = 0 then 1 else -1))) hc e (fun i x' a' hi hq hl => by
        obtain ⟨m', m2⟩ : ∃ m, qChn (fArcs c Fr To X0 me) τ m (qCv τ a.1 i) := ⟨_, qCv_ch hc i (by omega)⟩
        have hk := qCv_ch hc i (show i ≤ n by omega)
        have hd' : qCv τ a.1 i = Fr e := by
          have := hk
          rw [show n - i = (n - i - 1) + 1 by omega] at this
          obtain ⟨x2, y2, a2, b2, r1, r2, r3, _⟩ := this
          rw [hq] at r1; injection r1 with r1; injection r1 with _ r1; injection r1 with r1; subst r1
          obtain ⟨j, _, r | ⟨_, r⟩⟩ := fArcs_mem.mp r2
          · subst r; have hl : 2 * j = 2 * e + 1 := hl; omega
          · subst r; have hl : 2 * j + 1 = 2 * e + 1 := hl
            rw [← r3]; show Fr j = Fr e; rw [show j = e by omega]
        rw [hd', ← hd, hv] at hk
        have := qChn_uni hk h'; omega)
      rw [show a.2.2.2 / 2 = e by omega, up_at, if_neg (by omega)] at this
      rw [show a.2.2.2 / 2 = e by omega, if_neg (show ¬ a.2.2.2 % 2 = 0 by omega)] at *
      omega
    · refine Int.le_trans ?_ (ih a.1 _ hc)
      by_cases w : e = a.2.2.2 / 2
      · subst w; rw [up_at, if_pos (by omega)]; omega
      · rw [up_ne w]; exact Int.le_refl _
theorem cX_pos {c : Nat → Int} {Fr To : Nat → Nat} {X : Nat → Int} {me : Nat} {τ : qS} (n v : Nat) (h : qChn (fArcs c Fr To X me) τ n v) (e : Nat) (h0 : 0 ≤ X e) : 0 ≤ cX τ n v X e := by
  by_cases q : ∃ i x a, i < n ∧ τ (qCv τ v i) = some (x, some a) ∧ a.2.2.2 = 2 * e + 1
  · obtain ⟨i, x, a, hi, hq, hl⟩ := q
    have hk := qCv_ch h i (show i ≤ n by omega)
    rw [show n - i = (n - i - 1) + 1 by omega] at hk
    obtain ⟨x2, y2, a2, b2, r1, r2, r3, _⟩ := hk
    rw [hq] at r1; injection r1 with r1; injection r1 with _ r1; injection r1 with r1; subst r1
    have hp : 0 < X e := by
      obtain ⟨j, _, r | ⟨w, r⟩⟩ := fArcs_mem.mp r2
      · subst r; have hl : 2 * j = 2 * e + 1 := hl; omega
      · subst r; have hl : 2 * j + 1 = 2 * e + 1 := hl
        rw [show e = j by omega]; exact w
    have := cX_lo1 n v X h e; omega
  · exact Int.le_trans h0 (cX_lo n v X h e (fun i x a hi hq hl => q ⟨i, x, a, hi, hq, hl⟩))
theorem cX_hi {A : List qA} {τ : qS} (n v : Nat) (X : Nat → Int) (h : qChn A τ n v) (e : Nat) : cX τ n v X e ≤ X e ∨ ∃ u x a, τ u = some (x, some a) ∧ a.2.2.2 = 2 * e := by
  induction n generalizing v X with
  | zero => left; exact Int.le_refl _
  | succ n ih =>
    obtain ⟨x, y, a, b, q, ha, hv, hu, hx, hc⟩ := h
    rw [cX_s q]
    by_cases z : a.2.2.2 = 2 * e
    · right; exact ⟨v, x, a, q, z⟩
    · rcases ih a.1 (va_up X (a.2.2.2 / 2) (X (a.2.2.2 / 2) + (if a.2.2.2 % 2 = 0 then 1 else -1))) hc with r | r
      · left
        refine Int.le_trans r ?_
        by_cases w : e = a.2.2.2 / 2
        · subst w; rw [up_at, if_neg (by omega)]; omega
        · rw [up_ne w]; exact Int.le_refl _
      · exact .inr r
def qPt (τ : qS) (v : Nat) : Int := match τ v with
  | some x => x.1
  | none => 0
theorem qPt_eq {τ : qS} {v : Nat} {x : Int × Option qA} (h : τ v = some x) : qPt τ v = x.1 := by unfold qPt; rw [h]
/-- after a push along a least chain no step is worth less than its ends say -/
theorem push_pot {c : Nat → Int} {Fr To : Nat → Nat} {X : Nat → Int} {me : Nat} {τ : qS} (hi : qInv (fArcs c Fr To X me) τ) (hc : qCl (fArcs c Fr To X me) τ) (hr : ∀ e, e < me → (∃ x, τ (Fr e) = some x) ∧ ∃ x, τ (To e) = some x) (hX : ∀ e, e < me → 0 ≤ X e) {n v : Nat} (h : qChn (fArcs c Fr To X me) τ n v) :
    qPot (fArcs c Fr To (cX τ n v X) me) (qPt τ) := by
  have hcl : ∀ a, a ∈ fArcs c Fr To X me → qPt τ a.2.1 ≤ qPt τ a.1 + a.2.2.1 := fun a ha => by
    have : ∃ x, τ a.1 = some x := by
      obtain ⟨i, hi, r | ⟨_, r⟩⟩ := fArcs_mem.mp ha
      · subst r; exact (hr i hi).1
      · subst r; exact (hr i hi).2
    obtain ⟨x, hx⟩ := this
    obtain ⟨y, hy, ly⟩ := hc a ha x hx
    rw [qPt_eq hx, qPt_eq hy]; exact ly
  intro a ha
  obtain ⟨i, hi', r | ⟨hp, r⟩⟩ := fArcs_mem.mp ha
  · subst r; exact hcl _ (fArcs_mem.mpr ⟨i, hi', .inl rfl⟩)
  · subst r
    by_cases h0 : 0 < X i
    · exact hcl _ (fArcs_mem.mpr ⟨i, hi', .inr ⟨h0, rfl⟩⟩)
    · have := hX i hi'
      rcases cX_hi n v X h i with q | ⟨u, x, a, hu, hl⟩
      · omega
      · obtain ⟨t1, t2, b, t3⟩ := qTight hi hc hu
        obtain ⟨j, _, r | ⟨_, r⟩⟩ := fArcs_mem.mp t1
        · have hj : j = i := by subst r; have hl : 2 * j = 2 * i := hl; omega
          subst hj; subst r
          have e2 : To j = u := t2
          have e3 : τ (Fr j) = some (x - c j, b) := t3
          show qPt τ (Fr j) ≤ qPt τ (To j) + -c j
          rw [qPt_eq e3, e2, qPt_eq hu]; show x - c j ≤ x + -c j; omega
        · subst r; have hl : 2 * j + 1 = 2 * i := hl; omega
