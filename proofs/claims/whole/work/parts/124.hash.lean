theorem qCt_full {P : Nat → Prop} (n : Nat) (h : ∀ v, v < n → P v) : qCt P n = n := by
  induction n with
  | zero => rfl
  | succ n ih => rw [qCt_yes (h n (by omega)), ih (fun v hv => h v (by omega))]
theorem qCt_one {P Q : Nat → Prop} (s : Nat) (h : ∀ v, Q v → P v ∨ v = s) (n : Nat) : qCt Q n ≤ qCt P n + (if s < n then 1 else 0) := by
  induction n with
  | zero => exact Nat.zero_le _
  | succ n ih =>
    by_cases a : Q n
    · rw [qCt_yes a]
      rcases h n a with b | b
      · rw [qCt_yes b]
        by_cases c : s < n
        · rw [if_pos c] at ih; rw [if_pos (by omega)]; omega
        · rw [if_neg c] at ih; split <;> omega
      · subst b
        rw [if_neg (by omega)] at ih; rw [if_pos (by omega)]
        by_cases c : P n
        · rw [qCt_yes c]; omega
        · rw [qCt_no c]; omega
    · rw [qCt_no a]
      have : qCt P n ≤ qCt P (n + 1) := by
        by_cases c : P n
        · rw [qCt_yes c]; omega
        · rw [qCt_no c]; omega
      by_cases c : s < n
      · rw [if_pos c] at ih; rw [if_pos (by omega)]; omega
      · rw [if_neg c] at ih; split <;> omega
/-- the table of slots is in order -/
def hOk (ψ : PS) : Prop := (∀ i j, i < ψ.2.2.2.2 → j < ψ.2.2.2.2 → ψ.1 i = ψ.1 j → i = j) ∧
  (∀ j, j < ψ.2.2.2.2 → ∃ d, d < 4096 ∧ ψ.2.2.2.1 ((pHash (ψ.1 j) + d) % 4096) = j + 1 ∧ ∀ e, e < d → ψ.2.2.2.1 ((pHash (ψ.1 j) + e) % 4096) ≠ 0) ∧
  (∀ s, s < 4096 → ψ.2.2.2.1 s ≤ ψ.2.2.2.2) ∧ qCt (fun s => ψ.2.2.2.1 s ≠ 0) 4096 ≤ ψ.2.2.2.2 ∧ ψ.2.2.2.2 ≤ 1597
def hStop (ψ : PS) (set s : Nat) : Prop := ψ.2.2.2.1 s = 0 ∨ ψ.1 (ψ.2.2.2.1 s - 1) = set
theorem pProbe_spec {ψ : PS} {set : Nat} (n s0 : Nat) (hs : s0 < 4096) (h : ∃ d, d < n ∧ hStop ψ set ((s0 + d) % 4096)) :
    ∃ d, d < n ∧ pProbe ψ set n s0 = (s0 + d) % 4096 ∧ hStop ψ set ((s0 + d) % 4096) ∧ ∀ e, e < d → ¬ hStop ψ set ((s0 + e) % 4096) := by
  induction n generalizing s0 with
  | zero => obtain ⟨d, hd, _⟩ := h; omega
  | succ n ih =>
    rw [pProbe]
    have e0 : (s0 + 0) % 4096 = s0 := Nat.mod_eq_of_lt hs
    by_cases c : hStop ψ set s0
    · have c' : ψ.2.2.2.1 s0 = 0 ∨ ψ.1 (ψ.2.2.2.1 s0 - 1) = set := c
      rw [if_pos c']
      exact ⟨0, by omega, e0.symm, by rw [e0]; exact c, fun e he => by omega⟩
    · have c' : ¬ (ψ.2.2.2.1 s0 = 0 ∨ ψ.1 (ψ.2.2.2.1 s0 - 1) = set) := c
      rw [if_neg c']
      obtain ⟨d, hd, hst⟩ := h
      have hd0 : d ≠ 0 := fun e => by subst e; rw [e0] at hst; exact c hst
      have em : ∀ d, ((s0 + 1) % 4096 + d) % 4096 = (s0 + (d + 1)) % 4096 := fun d => by omega
      obtain ⟨d', h1, h2, h3, h4⟩ := ih ((s0 + 1) % 4096) (by omega) ⟨d - 1, by omega, by rw [em, show d - 1 + 1 = d by omega]; exact hst⟩
      rw [em] at h2 h3
      refine ⟨d' + 1, by omega, h2, h3, fun e he => ?_⟩
      by_cases q : e = 0
      · subst q; rw [e0]; exact c
      · have := h4 (e - 1) (by omega); rw [em, show e - 1 + 1 = e by omega] at this; exact this
theorem pSlot_spec {ψ : PS} (h : hOk ψ) (set : Nat) : pSlot ψ set < 4096 ∧
    ((ψ.2.2.2.1 (pSlot ψ set) = 0 ∧ (∀ j, j < ψ.2.2.2.2 → ψ.1 j ≠ set) ∧ ∃ d, d < 4096 ∧ pSlot ψ set = (pHash set + d) % 4096 ∧ ∀ e, e < d → ψ.2.2.2.1 ((pHash set + e) % 4096) ≠ 0) ∨
     (∃ j, j < ψ.2.2.2.2 ∧ ψ.2.2.2.1 (pSlot ψ set) = j + 1 ∧ ψ.1 j = set)) := by
  obtain ⟨hd, ha, hr, hc, hn⟩ := h
  have hh : pHash set < 4096 := by unfold pHash; omega
  have hemp : ∃ s, s < 4096 ∧ ψ.2.2.2.1 s = 0 := by
    apply Classical.byContradiction; intro q
    have := qCt_full (P := fun s => ψ.2.2.2.1 s ≠ 0) 4096 (fun v hv e => q ⟨v, hv, e⟩)
    omega
  obtain ⟨s0, hs0, es0⟩ := hemp
  obtain ⟨d, h1, h2, h3, h4⟩ := pProbe_spec (ψ := ψ) (set := set) 4096 (pHash set) hh ⟨(s0 + 4096 - pHash set) % 4096, by omega, by rw [show (pHash set + (s0 + 4096 - pHash set) % 4096) % 4096 = s0 by omega]; exact .inl es0⟩
  have eS : pSlot ψ set = (pHash set + d) % 4096 := h2
  refine ⟨by omega, ?_⟩
  rw [eS]
  by_cases q : ψ.2.2.2.1 ((pHash set + d) % 4096) = 0
  · left
    refine ⟨q, fun j hj e => ?_, d, h1, rfl, fun e he z => h4 e he (.inl z)⟩
    obtain ⟨dj, g1, g2, g3⟩ := ha j hj
    rw [e] at g2 g3
    by_cases l : dj < d
    · exact h4 dj l (.inr (by rw [g2]; exact e))
    · by_cases l2 : d < dj
      · exact g3 d l2 q
      · have : d = dj := by omega
        subst this; omega
  · right
    have hr' := hr _ (show (pHash set + d) % 4096 < 4096 by omega)
    rcases h3 with h3 | h3
    · exact absurd h3 q
    · exact ⟨ψ.2.2.2.1 ((pHash set + d) % 4096) - 1, by omega, by omega, h3⟩
def pVal (ψ : PS) (i : Nat) : Int := ψ.2.1 i * qM + ψ.2.2.1 i
def pBn (n : Nat) (ψ : PS) (i : Nat) : Prop := (0 ≤ ψ.2.1 i ∧ ψ.2.1 i ≤ (n : Int) * 65536000000000) ∧ 0 ≤ ψ.2.2.1 i ∧ ψ.2.2.1 i ≤ (n : Int) * 36028797018963968
/-- one offer of the house -/
theorem pOffer_q {ψ : PS} (h : hOk ψ) {set : Nat} {c t : Int} {n : Nat} (hn : n ≤ 16) (hb : (0 ≤ c ∧ c ≤ (n : Int) * 65536000000000) ∧ 0 ≤ t ∧ t ≤ (n : Int) * 36028797018963968) (hB : ∀ i, i < ψ.2.2.2.2 → ψ.1 i = set → pBn n ψ i) (hcap : (∀ j, j < ψ.2.2.2.2 → ψ.1 j ≠ set) → ψ.2.2.2.2 < 1597) :
    hOk (pOffer ψ set c t) ∧ ψ.2.2.2.2 ≤ (pOffer ψ set c t).2.2.2.2 ∧ (∀ i, i < ψ.2.2.2.2 → (pOffer ψ set c t).1 i = ψ.1 i) ∧
    (∀ i, ψ.2.2.2.2 ≤ i → i < (pOffer ψ set c t).2.2.2.2 → (pOffer ψ set c t).1 i = set ∧ i = ψ.2.2.2.2) ∧
    (∃ j, j < (pOffer ψ set c t).2.2.2.2 ∧ (pOffer ψ set c t).1 j = set ∧ pVal (pOffer ψ set c t) j ≤ c * qM + t) ∧
    (∀ i, i < (pOffer ψ set c t).2.2.2.2 → (i < ψ.2.2.2.2 ∧ (pOffer ψ set c t).2.1 i = ψ.2.1 i ∧ (pOffer ψ set c t).2.2.1 i = ψ.2.2.1 i) ∨
      ((pOffer ψ set c t).1 i = set ∧ (pOffer ψ set c t).2.1 i = c ∧ (pOffer ψ set c t).2.2.1 i = t ∧ (i < ψ.2.2.2.2 → c * qM + t < pVal ψ i))) := by
  obtain ⟨hs, hsp⟩ := pSlot_spec h set
  have h0 := h
  obtain ⟨hd, ha, hr, hc, hN⟩ := h0
  unfold pOffer
  rcases hsp with ⟨e0, hnew, d, d1, d2, d3⟩ | ⟨j, hj, e1, e2⟩
  · have hlt := hcap hnew
    rw [if_pos e0, if_neg (by omega)]
    refine ⟨⟨?_, ?_, ?_, ?_, by show ψ.2.2.2.2 + 1 ≤ 1597; omega⟩, Nat.le_succ _, fun i hi => up_ne (by omega), fun i a b => ?_, ⟨ψ.2.2.2.2, Nat.lt_succ_self _, up_at, ?_⟩, fun i hi => ?_⟩
    · intro i j (hi : i < ψ.2.2.2.2 + 1) (hj : j < ψ.2.2.2.2 + 1) (e : va_up ψ.1 ψ.2.2.2.2 set i = va_up ψ.1 ψ.2.2.2.2 set j)
      by_cases q1 : i = ψ.2.2.2.2
      · by_cases q2 : j = ψ.2.2.2.2
        · omega
        · subst q1; rw [up_at, up_ne q2] at e; exact absurd e.symm (hnew j (by omega))
      · by_cases q2 : j = ψ.2.2.2.2
        · subst q2; rw [up_at, up_ne q1] at e; exact absurd e (hnew i (by omega))
        · rw [up_ne q1, up_ne q2] at e; exact hd i j (by omega) (by omega) e
    · intro j (hj : j < ψ.2.2.2.2 + 1)
      show ∃ d, d < 4096 ∧ va_up ψ.2.2.2.1 (pSlot ψ set) (ψ.2.2.2.2 + 1) ((pHash (va_up ψ.1 ψ.2.2.2.2 set j) + d) % 4096) = j + 1 ∧ ∀ e, e < d → va_up ψ.2.2.2.1 (pSlot ψ set) (ψ.2.2.2.2 + 1) ((pHash (va_up ψ.1 ψ.2.2.2.2 set j) + e) % 4096) ≠ 0
      have hnz : ∀ s, ψ.2.2.2.1 s ≠ 0 → va_up ψ.2.2.2.1 (pSlot ψ set) (ψ.2.2.2.2 + 1) s ≠ 0 := fun s q => by
        by_cases z : s = pSlot ψ set
        · subst z; exact absurd e0 q
        · rw [up_ne z]; exact q
      by_cases q : j = ψ.2.2.2.2
      · subst q; rw [up_at]
        exact ⟨d, d1, by rw [← d2, up_at], fun e he => hnz _ (d3 e he)⟩
      · rw [up_ne q]
        obtain ⟨dj, g1, g2, g3⟩ := ha j (by omega)
        refine ⟨dj, g1, ?_, fun e he => hnz _ (g3 e he)⟩
        rw [up_ne (fun z => by rw [z, e0] at g2; omega)]; exact g2
    · intro s hs'
      show va_up ψ.2.2.2.1 (pSlot ψ set) (ψ.2.2.2.2 + 1) s ≤ ψ.2.2.2.2 + 1
      by_cases z : s = pSlot ψ set
      · subst z; rw [up_at]; exact Nat.le_refl _
      · rw [up_ne z]; have := hr s hs'; omega
    · show qCt (fun s => va_up ψ.2.2.2.1 (pSlot ψ set) (ψ.2.2.2.2 + 1) s ≠ 0) 4096 ≤ ψ.2.2.2.2 + 1
      have := qCt_one (P := fun s => ψ.2.2.2.1 s ≠ 0) (Q := fun s => va_up ψ.2.2.2.1 (pSlot ψ set) (ψ.2.2.2.2 + 1) s ≠ 0) (pSlot ψ set) (fun v hv => by
        by_cases z : v = pSlot ψ set
        · exact .inr z
        · left; intro q; apply hv; rw [up_ne z]; exact q) 4096
      rw [if_pos hs] at this; omega
    · have b : i < ψ.2.2.2.2 + 1 := b
      have e : i = ψ.2.2.2.2 := by omega
      subst e; exact ⟨up_at, rfl⟩
    · show va_up ψ.2.1 ψ.2.2.2.2 c ψ.2.2.2.2 * qM + va_up ψ.2.2.1 ψ.2.2.2.2 t ψ.2.2.2.2 ≤ _
      rw [up_at, up_at]; exact Int.le_refl _
    · have hi : i < ψ.2.2.2.2 + 1 := hi
      by_cases e : i = ψ.2.2.2.2
      · right; subst e; exact ⟨up_at, up_at, up_at, fun q => absurd q (Nat.lt_irrefl _)⟩
      · left; exact ⟨by omega, up_ne e, up_ne e⟩
  · have es : ψ.2.2.2.1 (pSlot ψ set) - 1 = j := by omega
    have hBj := hB j hj e2
    rw [if_neg (by omega), es]
    by_cases l : dLess c t (ψ.2.1 j) (ψ.2.2.1 j) = true
    · rw [if_pos l]
      refine ⟨⟨hd, ha, hr, hc, hN⟩, Nat.le_refl _, fun i _ => rfl, fun i a b => absurd (Nat.lt_of_le_of_lt a b) (Nat.lt_irrefl _), ⟨j, hj, e2, ?_⟩, fun i hi => ?_⟩
      · show va_up ψ.2.1 j c j * qM + va_up ψ.2.2.1 j t j ≤ _
        rw [up_at, up_at]; exact Int.le_refl _
      · by_cases e : i = j
        · right; subst e
          refine ⟨e2, up_at, up_at, fun _ => ?_⟩
          unfold dLess at l; have l := of_decide_eq_true l
          unfold pBn at hBj; unfold pVal; simp only [qM]; omega
        · left; exact ⟨hi, up_ne e, up_ne e⟩
    · rw [if_neg l]
      refine ⟨⟨hd, ha, hr, hc, hN⟩, Nat.le_refl _, fun i _ => rfl, fun i a b => absurd (Nat.lt_of_le_of_lt a b) (Nat.lt_irrefl _), ⟨j, hj, e2, ?_⟩, fun i hi => .inl ⟨hi, rfl, rfl⟩⟩
      unfold dLess at l; have l := of_decide_eq_false (Bool.not_eq_true _ ▸ l)
      unfold pBn at hBj; unfold pVal; simp only [qM]; omega
