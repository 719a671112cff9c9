def byL (l : Nat) : Int := if l % 2 = 0 then ((l / 2 : Nat) : Int) else ((40 + l / 2 : Nat) : Int)
/-- the reference's ways, as states of the search -/
def sRel (nv : Nat) (ρ : RS) (τ : qS) : Prop := ∀ v, v < nv → (ρ.1 v = false → τ v = none) ∧ (ρ.1 v = true → ∃ b, τ v = some (rcW ρ.2.2.1 v, b) ∧ (b = none → ρ.2.1 v = -1) ∧ ∀ a, b = some a → ρ.2.1 v = byL a.2.2.2)
def sBn (nv t : Nat) (ρ : RS) : Prop := ∀ v, v < nv → ρ.1 v = true → bnW t ρ.2.2.1 v
theorem bnW_mono {t u : Nat} (h : t ≤ u) {Wy : Nat → Int} {v : Nat} (g : bnW t Wy v) : bnW u Wy v := ⟨by have := g.1; omega, fun k hk => by have := g.2 k hk; omega⟩
theorem cpW_c {Wy Sm : Nat → Int} {b : Nat} : rcW (cpW Wy Sm b 41) b = rcS Sm ∧ (∀ v, v ≠ b → rcW (cpW Wy Sm b 41) v = rcW Wy v) := by
  refine ⟨?_, fun v hv => ?_⟩
  · unfold rcW rcS
    refine hr_ext ?_ 40 (fun k hk => ?_)
    · unfold cpW; rw [if_pos (by omega), Nat.sub_self]
    · show cpW Wy Sm b 41 (41 * b + (k + 1)) = Sm (k + 1)
      unfold cpW; rw [if_pos (by omega), Nat.add_sub_cancel_left]
  · unfold rcW
    refine hr_ext ?_ 40 (fun k hk => ?_)
    · unfold cpW; rw [if_neg (by omega)]
    · show cpW Wy Sm b 41 (41 * v + (k + 1)) = Wy (41 * v + (k + 1))
      unfold cpW; rw [if_neg (by omega)]
theorem cpW_b {t : Nat} {Wy Sm : Nat → Int} {b : Nat} (hS : bnS t Sm) : bnW t (cpW Wy Sm b 41) b ∧ (∀ v, v ≠ b → bnW t Wy v → bnW t (cpW Wy Sm b 41) v) := by
  refine ⟨⟨?_, fun k hk => ?_⟩, fun v hv g => ⟨?_, fun k hk => ?_⟩⟩
  · unfold cpW; rw [if_pos (by omega), Nat.sub_self]; exact hS.1
  · unfold cpW; rw [if_pos (by omega), Nat.add_sub_cancel_left]; exact hS.2 k hk
  · unfold cpW; rw [if_neg (by omega)]; exact g.1
  · unfold cpW; rw [if_neg (by omega)]; exact g.2 k hk
theorem mRch_q {We : Nat → Nat} (hWe : ∀ j, We j ≤ 1000000000) {nv : Nat} {ρ : RS} {τ : qS} (h : sRel nv ρ τ) {t : Nat} (ht : t ≤ 2000) (hB : sBn nv t ρ) {a b e l : Nat} (ha : a < nv) (hb : b < nv) (he : e < 40) {sg : Int} (hsg : sg = 1 ∨ sg = -1) (hl : byL l = mBy sg e) :
    sRel nv (mRch We ρ a b e sg).1 (qR τ (a, b, sg * cdE qB 1 We e, l)) ∧ sBn nv (t + 1) (mRch We ρ a b e sg).1 ∧ ((mRch We ρ a b e sg).2 = false ↔ qR τ (a, b, sg * cdE qB 1 We e, l) = τ) := by
  have hmono : sBn nv (t + 1) ρ := fun v hv hr => bnW_mono (by omega) (hB v hv hr)
  unfold mRch
  cases h1 : ρ.1 a with
  | false =>
    have e1 : qR τ (a, b, sg * cdE qB 1 We e, l) = τ := by
      unfold qR; show (match τ a with | none => τ | some x => _) = τ
      rw [(h a ha).1 h1]
    rw [if_pos rfl, e1]; exact ⟨h, hmono, ⟨fun _ => rfl, fun _ => rfl⟩⟩
  | true =>
    rw [if_neg (show ¬ (true = false) by decide)]
    obtain ⟨ba, hba, _⟩ := (h a ha).2 h1
    obtain ⟨c1, c2⟩ := mAdd_c hWe (Sm := ρ.2.2.2) he ht (hB a ha h1) hsg
    generalize mAdd We ρ.2.2.1 ρ.2.2.2 a e sg = S at c1 c2 ⊢
    have hupd : (∀ y, τ b = some y → rcW ρ.2.2.1 a + sg * cdE qB 1 We e < y.1) → qR τ (a, b, sg * cdE qB 1 We e, l) = va_up τ b (some (rcW ρ.2.2.1 a + sg * cdE qB 1 We e, some (a, b, sg * cdE qB 1 We e, l))) := fun hy => by
      unfold qR; show (match τ a with | none => τ | some x => _) = _
      rw [hba]; show (match τ b with | none => _ | some y => _) = _
      cases hτb : τ b with
      | none => rfl
      | some y =>
        show (if _ then _ else _) = _
        rw [if_pos (hy y hτb)]
    have hset : (∀ y, τ b = some y → rcW ρ.2.2.1 a + sg * cdE qB 1 We e < y.1) →
        sRel nv (va_up ρ.1 b true, va_up ρ.2.1 b (mBy sg e), cpW ρ.2.2.1 S b 41, S) (qR τ (a, b, sg * cdE qB 1 We e, l)) ∧ sBn nv (t + 1) (va_up ρ.1 b true, va_up ρ.2.1 b (mBy sg e), cpW ρ.2.2.1 S b 41, S) ∧ (true = false ↔ qR τ (a, b, sg * cdE qB 1 We e, l) = τ) := fun hy => by
      rw [hupd hy]
      refine ⟨fun v hv => ?_, fun v hv hr => ?_, ⟨fun q => (by cases q), fun q => ?_⟩⟩
      · by_cases ev : v = b
        · subst ev
          refine ⟨fun hf => (by have hf : va_up ρ.1 v true v = false := hf; rw [up_at] at hf; cases hf), fun _ => ⟨some (a, v, sg * cdE qB 1 We e, l), ?_, fun q => (by cases q), fun a' ha' => ?_⟩⟩
          · rw [up_at]; show _ = some (rcW (cpW ρ.2.2.1 S v 41) v, _)
            rw [cpW_c.1, c1]
          · injection ha' with ha'; subst ha'; show va_up _ v (mBy sg e) v = _; rw [up_at]; exact hl.symm
        · show (va_up ρ.1 b true v = false → _) ∧ (va_up ρ.1 b true v = true → ∃ b_1, _ = some (rcW (cpW ρ.2.2.1 S b 41) v, b_1) ∧ (_ → va_up ρ.2.1 b (mBy sg e) v = -1) ∧ ∀ a', _ → va_up ρ.2.1 b (mBy sg e) v = _)
          rw [up_ne ev, up_ne ev, up_ne ev, cpW_c.2 v ev]; exact h v hv
      · show bnW (t + 1) (cpW ρ.2.2.1 S b 41) v
        by_cases ev : v = b
        · subst ev; exact (cpW_b c2).1
        · have hr : va_up ρ.1 b true v = true := hr
          rw [up_ne ev] at hr
          exact (cpW_b c2).2 v ev (hmono v hv hr)
      · have : va_up τ b (some (rcW ρ.2.2.1 a + sg * cdE qB 1 We e, some (a, b, sg * cdE qB 1 We e, l))) b = τ b := by rw [q]
        rw [up_at] at this
        have := hy _ this.symm
        exact absurd this (Int.lt_irrefl _)
    cases h2 : ρ.1 b with
    | false =>
      rw [show mLess ρ.1 S ρ.2.2.1 b = true by unfold mLess; rw [if_pos h2], if_neg (show ¬ (true = false) by decide)]
      exact hset (fun y hy => by rw [(h b hb).1 h2] at hy; cases hy)
    | true =>
      obtain ⟨bb, hbb, _⟩ := (h b hb).2 h2
      have hlx := mLx_c (show t + 1 + t ≤ 5000 by omega) c2 (hB b hb h2)
      rw [c1] at hlx
      rw [show mLess ρ.1 S ρ.2.2.1 b = mLx S ρ.2.2.1 b 41 by unfold mLess; rw [if_neg (by rw [h2]; decide)]]
      by_cases q : mLx S ρ.2.2.1 b 41 = true
      · rw [if_neg (by rw [q]; decide)]
        exact hset (fun y hy => by rw [hbb] at hy; injection hy with hy; subst hy; exact hlx.mp q)
      · rw [if_pos (Bool.not_eq_true _ ▸ q)]
        have e1 : qR τ (a, b, sg * cdE qB 1 We e, l) = τ := by
          unfold qR; show (match τ a with | none => τ | some x => _) = τ
          rw [hba]; show (match τ b with | none => _ | some y => _) = _
          rw [hbb]; show (if _ then _ else _) = _
          rw [if_neg (fun z => q (hlx.mpr z))]
        rw [e1]
        exact ⟨h, hmono, ⟨fun _ => rfl, fun _ => rfl⟩⟩
theorem byL_f (e : Nat) : byL (2 * e) = mBy 1 e := by unfold byL mBy; rw [if_pos (by omega), if_pos (by decide), show 2 * e / 2 = e by omega]
theorem byL_b (e : Nat) : byL (2 * e + 1) = mBy (-1) e := by unfold byL mBy; rw [if_neg (by omega), if_neg (by decide), show (2 * e + 1) / 2 = e by omega]
/-- a relaxation that changes a state is not undone -/
theorem qP_no {B : List qA} {σ τ : qS} (h1 : qLe τ σ) (h2 : ∀ v x, σ v = some x → τ v = some x → True) (h : qP B τ = σ) (hle : qLe σ τ → τ = σ) : τ = σ := by
  apply hle; rw [← h]; exact qP_le B τ
theorem sPs_q {dir : Bool} {Fr To We : Nat → Nat} (hWe : ∀ j, We j ≤ 1000000000) {nv me : Nat} (hme : me ≤ 40) (hFn : ∀ j, j < me → Fr j < nv) (hTn : ∀ j, j < me → To j < nv) {X : Nat → Int} {ρ : RS} {τ : qS} (h : sRel nv ρ τ) {t : Nat} (hB : sBn nv t ρ) (i : Nat) (hi : i ≤ me) (ht : t + 2 * i ≤ 2000) :
    sRel nv (sPs dir Fr To We X ρ i).1 (qP (fArcs (cdE qB 1 We) Fr To X i) τ) ∧ sBn nv (t + 2 * i) (sPs dir Fr To We X ρ i).1 ∧ ((sPs dir Fr To We X ρ i).2 = false → qP (fArcs (cdE qB 1 We) Fr To X i) τ = τ) ∧ ((∀ a, a ∈ fArcs (cdE qB 1 We) Fr To X i → qR τ a = τ) → (sPs dir Fr To We X ρ i).2 = false) := by
  induction i with
  | zero => exact ⟨h, hB, fun _ => rfl, fun _ => rfl⟩
  | succ i ih =>
    obtain ⟨h1, h2, h3, h4⟩ := ih (by omega) (by omega)
    have hf := hFn i (by omega); have htn := hTn i (by omega)
    have e1 : (1 : Int) * cdE qB 1 We i = cdE qB 1 We i := Int.one_mul _
    have e2 : (-1 : Int) * cdE qB 1 We i = -cdE qB 1 We i := Int.neg_one_mul _
    obtain ⟨a1, a2, a3⟩ := mRch_q hWe h1 (show t + 2 * i ≤ 2000 by omega) h2 hf htn (show i < 40 by omega) (.inl rfl) (byL_f i)
    rw [e1] at a1 a3
    have hsub : ∀ a, a ∈ fArcs (cdE qB 1 We) Fr To X i → a ∈ fArcs (cdE qB 1 We) Fr To X (i + 1) := fun a ha => by rw [fArcs]; exact List.mem_append.mpr (.inl ha)
    have hfx : (∀ a, a ∈ fArcs (cdE qB 1 We) Fr To X (i + 1) → qR τ a = τ) → qP (fArcs (cdE qB 1 We) Fr To X i) τ = τ := fun hall => h3 (h4 (fun a ha => hall a (hsub a ha)))
    by_cases hX : 0 < X i
    · rw [sPs_1 hX]
      obtain ⟨b1, b2, b3⟩ := mRch_q hWe a1 (show t + 2 * i + 1 ≤ 2000 by omega) a2 htn hf (show i < 40 by omega) (.inr rfl) (byL_b i)
      rw [e2] at b1 b3
      have eA : qP (fArcs (cdE qB 1 We) Fr To X (i + 1)) τ = qR (qR (qP (fArcs (cdE qB 1 We) Fr To X i) τ) (Fr i, To i, cdE qB 1 We i, 2 * i)) (To i, Fr i, -cdE qB 1 We i, 2 * i + 1) := by
        rw [fArcs, qP_app]; unfold fArc; rw [if_pos hX]; rfl
      rw [eA]
      refine ⟨b1, b2, fun hz => ?_, fun hall => ?_⟩
      · have hz : (_ || (_ || _)) = false := hz
        rw [Bool.or_eq_false_iff, Bool.or_eq_false_iff] at hz
        rw [b3.mp hz.1, a3.mp hz.2.1]; exact h3 hz.2.2
      · have m1 := hall (Fr i, To i, cdE qB 1 We i, 2 * i) (fArcs_mem.mpr ⟨i, by omega, .inl rfl⟩)
        have m2 := hall (To i, Fr i, -cdE qB 1 We i, 2 * i + 1) (fArcs_mem.mpr ⟨i, by omega, .inr ⟨hX, rfl⟩⟩)
        have m0 := hfx hall
        rw [m0, m1] at b3; rw [m0] at a3
        show (_ || (_ || _)) = false
        rw [Bool.or_eq_false_iff, Bool.or_eq_false_iff]
        exact ⟨b3.mpr m2, a3.mpr m1, h4 (fun a ha => hall a (hsub a ha))⟩
    · rw [sPs_0 hX]
      have eA : qP (fArcs (cdE qB 1 We) Fr To X (i + 1)) τ = qR (qP (fArcs (cdE qB 1 We) Fr To X i) τ) (Fr i, To i, cdE qB 1 We i, 2 * i) := by
        rw [fArcs, qP_app]; unfold fArc; rw [if_neg hX]; rfl
      rw [eA]
      refine ⟨a1, fun v hv hr => bnW_mono (by omega) (a2 v hv hr), fun hz => ?_, fun hall => ?_⟩
      · have hz : (_ || _) = false := hz
        rw [Bool.or_eq_false_iff] at hz
        rw [a3.mp hz.1]; exact h3 hz.2
      · have m1 := hall (Fr i, To i, cdE qB 1 We i, 2 * i) (fArcs_mem.mpr ⟨i, by omega, .inl rfl⟩)
        have m0 := hfx hall
        rw [m0] at a3
        show (_ || _) = false
        rw [Bool.or_eq_false_iff]
        exact ⟨a3.mpr m1, h4 (fun a ha => hall a (hsub a ha))⟩
theorem qCl_all {A : List qA} {σ : qS} (hc : qCl A σ) : ∀ a, a ∈ A → qR σ a = σ := fun a ha => by
  rcases qR_cases σ a with ⟨e, _⟩ | ⟨x, hx, e, g⟩
  · exact e
  · obtain ⟨y, hy, ly⟩ := hc a ha x hx
    have := g y hy; omega
theorem sLp_q' {dir : Bool} {Fr To We : Nat → Nat} (hWe : ∀ j, We j ≤ 1000000000) {nv me : Nat} (hme : me ≤ 40) (hFn : ∀ j, j < me → Fr j < nv) (hTn : ∀ j, j < me → To j < nv) {X : Nat → Int} (n : Nat) {ρ : RS} {τ : qS} (h : sRel nv ρ τ) {t : Nat} (hB : sBn nv t ρ) (ht : t + 80 * (n + 1) ≤ 2000) (hc : qCl (fArcs (cdE qB 1 We) Fr To X me) (qN (fArcs (cdE qB 1 We) Fr To X me) n τ)) :
    (sLp dir Fr To We X me (n + 1) ρ).2 = true ∧ sRel nv (sLp dir Fr To We X me (n + 1) ρ).1 (qN (fArcs (cdE qB 1 We) Fr To X me) n τ) := by
  induction n generalizing ρ τ t with
  | zero =>
    obtain ⟨a1, a2, a3, a4⟩ := sPs_q (dir := dir) hWe hme hFn hTn (X := X) h hB me (Nat.le_refl _) (by omega)
    have hz := a4 (qCl_all hc)
    rw [sLp, if_neg (by rw [hz]; decide)]
    rw [a3 hz] at a1
    exact ⟨rfl, a1⟩
  | succ n ih =>
    obtain ⟨a1, a2, a3, a4⟩ := sPs_q (dir := dir) hWe hme hFn hTn (X := X) h hB me (Nat.le_refl _) (by omega)
    rw [sLp]
    by_cases q : (sPs dir Fr To We X ρ me).2 = true
    · rw [if_pos q]
      exact ih a1 a2 (by omega) hc
    · rw [if_neg q]
      have hz := a3 (Bool.not_eq_true _ ▸ q)
      rw [hz] at a1
      rw [qN_fix (qP_fix_cl hz) (n + 1)]
      exact ⟨rfl, a1⟩
