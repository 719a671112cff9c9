abbrev qB : Int := 1048576
/-- the number of a way -/
def rcW (Wy : Nat → Int) (v : Nat) : Int := hr qB (Wy (41 * v)) (fun k => Wy (41 * v + (k + 1))) 40
def rcS (Sm : Nat → Int) : Int := hr qB (Sm 0) (fun k => Sm (k + 1)) 40
def bnW (t : Nat) (Wy : Nat → Int) (v : Nat) : Prop := (-(t : Int) * 1000000000 ≤ Wy (41 * v) ∧ Wy (41 * v) ≤ (t : Int) * 1000000000) ∧ ∀ k, k < 40 → -(t : Int) ≤ Wy (41 * v + (k + 1)) ∧ Wy (41 * v + (k + 1)) ≤ t
def bnS (t : Nat) (Sm : Nat → Int) : Prop := (-(t : Int) * 1000000000 ≤ Sm 0 ∧ Sm 0 ≤ (t : Int) * 1000000000) ∧ ∀ k, k < 40 → -(t : Int) ≤ Sm (k + 1) ∧ Sm (k + 1) ≤ t
theorem hr_ext {b s s' : Int} {γ γ' : Nat → Int} (hs : s = s') (n : Nat) (h : ∀ k, k < n → γ k = γ' k) : hr b s γ n = hr b s' γ' n := by
  induction n with
  | zero => exact hs
  | succ n ih => rw [hr, hr, ih (fun k hk => h k (by omega)), h n (by omega)]
theorem hr_sub (b s s' : Int) (γ γ' : Nat → Int) (n : Nat) : hr b s γ n - hr b s' γ' n = hr b (s - s') (fun k => γ k - γ' k) n := by
  induction n with
  | zero => rfl
  | succ n ih => rw [hr, hr, hr, ← ih, Int.mul_sub]; omega
theorem mul_posB {s : Int} (hs : 1 ≤ s) : 1048576 ≤ qB * s := by simp only [qB]; omega
theorem hr_keep {s : Int} {γ : Nat → Int} (hγ : ∀ k, -5000 ≤ γ k ∧ γ k ≤ 5000) (j n : Nat) : (hr qB s γ j < 0 → hr qB s γ (j + n) < 0) ∧ (0 < hr qB s γ j → 0 < hr qB s γ (j + n)) := by
  induction n with
  | zero => exact ⟨id, id⟩
  | succ n ih =>
    have := hγ (j + n)
    rw [show j + (n + 1) = j + n + 1 from rfl, hr]; simp only [qB] at *
    exact ⟨fun h => by have := ih.1 h; omega, fun h => by have := ih.2 h; omega⟩
theorem mLx_iff {Sm Wy : Nat → Int} {v : Nat} {γ : Nat → Int} (hγ : ∀ k, -5000 ≤ γ k ∧ γ k ≤ 5000) (he : ∀ k, k < 40 → γ k = Sm (k + 1) - Wy (41 * v + (k + 1))) (k : Nat) (hk : k ≤ 40) (h0 : hr qB (Sm 0 - Wy (41 * v)) γ (40 - k) = 0) :
    mLx Sm Wy v k = true ↔ hr qB (Sm 0 - Wy (41 * v)) γ 40 < 0 := by
  induction k with
  | zero => rw [h0]; exact ⟨fun q => (by cases q), fun q => absurd q (by decide)⟩
  | succ k ih =>
    rw [mLx, show 41 - (k + 1) = 40 - (k + 1) + 1 by omega]
    have e := he (40 - (k + 1)) (by omega)
    have hs : hr qB (Sm 0 - Wy (41 * v)) γ (40 - k) = γ (40 - (k + 1)) := by
      rw [show 40 - k = 40 - (k + 1) + 1 by omega, hr, h0]; omega
    by_cases q : Sm (40 - (k + 1) + 1) = Wy (41 * v + (40 - (k + 1) + 1))
    · rw [if_pos q]; exact ih (by omega) (by rw [hs, e]; omega)
    · rw [if_neg q, decide_eq_true_iff]
      have := hr_keep (s := Sm 0 - Wy (41 * v)) hγ (40 - k) k
      rw [hs, show 40 - k + k = 40 by omega] at this
      constructor
      · intro l; exact this.1 (by omega)
      · intro l
        apply Classical.byContradiction; intro r
        have := this.2 (by omega); omega
theorem mLx_c {Sm Wy : Nat → Int} {v t t' : Nat} (ht : t + t' ≤ 5000) (hS : bnS t Sm) (hW : bnW t' Wy v) : mLx Sm Wy v 41 = true ↔ rcS Sm < rcW Wy v := by
  have hk : ∀ k, -5000 ≤ (fun k => if k < 40 then Sm (k + 1) - Wy (41 * v + (k + 1)) else 0) k ∧ (fun k => if k < 40 then Sm (k + 1) - Wy (41 * v + (k + 1)) else 0) k ≤ 5000 := fun k => by
    show -5000 ≤ (if k < 40 then Sm (k + 1) - Wy (41 * v + (k + 1)) else 0) ∧ (if k < 40 then Sm (k + 1) - Wy (41 * v + (k + 1)) else 0) ≤ 5000
    by_cases l : k < 40
    · rw [if_pos l]; have := hS.2 k l; have := hW.2 k l; omega
    · rw [if_neg l]; decide
  have he : ∀ k, k < 40 → (fun k => if k < 40 then Sm (k + 1) - Wy (41 * v + (k + 1)) else 0) k = Sm (k + 1) - Wy (41 * v + (k + 1)) := fun k hk => if_pos hk
  have hd : rcS Sm - rcW Wy v = hr qB (Sm 0 - Wy (41 * v)) (fun k => if k < 40 then Sm (k + 1) - Wy (41 * v + (k + 1)) else 0) 40 := by
    unfold rcS rcW; rw [hr_sub]; exact hr_ext rfl 40 (fun k hk => (he k hk).symm)
  rw [show rcS Sm < rcW Wy v ↔ rcS Sm - rcW Wy v < 0 by omega, hd]
  rw [mLx]
  show (if Sm (41 - (40 + 1)) = Wy (41 * v + (41 - (40 + 1))) then mLx Sm Wy v 40 else decide (Sm (41 - (40 + 1)) < Wy (41 * v + (41 - (40 + 1))))) = true ↔ _
  rw [show 41 - (40 + 1) = 0 from rfl, Nat.add_zero]
  by_cases q : Sm 0 = Wy (41 * v)
  · rw [if_pos q]; exact mLx_iff hk he 40 (Nat.le_refl _) (by show Sm 0 - Wy (41 * v) = 0; omega)
  · rw [if_neg q, decide_eq_true_iff]
    have := hr_keep (s := Sm 0 - Wy (41 * v)) hk 0 40
    rw [Nat.zero_add] at this
    constructor
    · intro l; exact this.1 (by show Sm 0 - Wy (41 * v) < 0; omega)
    · intro l
      apply Classical.byContradiction; intro r
      have := this.2 (by show 0 < Sm 0 - Wy (41 * v); omega); omega
theorem cpS_in {Wy Sm : Nat → Int} {v j : Nat} (h : j < 41) : cpS Wy Sm v 41 j = Wy (41 * v + j) := by unfold cpS; rw [if_pos h]
/-- a way and one step more -/
theorem mAdd_c {We : Nat → Nat} (hWe : ∀ j, We j ≤ 1000000000) {Wy Sm : Nat → Int} {v e t : Nat} (he : e < 40) (ht : t ≤ 2000) (hW : bnW t Wy v) {sg : Int} (hsg : sg = 1 ∨ sg = -1) :
    rcS (mAdd We Wy Sm v e sg) = rcW Wy v + sg * cdE qB 1 We e ∧ bnS (t + 1) (mAdd We Wy Sm v e sg) := by
  have hw := hWe e
  have h0 : (mAdd We Wy Sm v e sg) 0 = Wy (41 * v) + sg * ((We e : Nat) : Int) := by
    unfold mAdd
    rw [up_ne (show 0 ≠ e + 1 by omega), up_at, cpS_in (by decide), Nat.add_zero]
    have := hW.1
    apply w64_id
    rcases hsg with q | q <;> subst q <;> omega
  have hk : ∀ k, k < 40 → (mAdd We Wy Sm v e sg) (k + 1) = va_up (fun k => Wy (41 * v + (k + 1))) e (Wy (41 * v + (e + 1)) + sg) k := fun k hk => by
    unfold mAdd
    by_cases q : k = e
    · subst q; rw [up_at, up_at, up_ne (show k + 1 ≠ 0 by omega), cpS_in (by omega)]
      have := hW.2 k hk
      apply w64_id
      rcases hsg with q | q <;> subst q <;> omega
    · rw [up_ne (show k + 1 ≠ e + 1 by omega), up_ne (show k + 1 ≠ 0 by omega), up_ne q, cpS_in (by omega)]
  constructor
  · unfold rcS rcW
    rw [hr_ext h0 40 hk]
    have := hr_up qB (Wy (41 * v)) (sg * ((We e : Nat) : Int)) (fun k => Wy (41 * v + (k + 1))) e sg 40
    rw [this, if_pos he]
    unfold cdE
    rw [show 40 - 1 - e = 39 - e by omega, Int.mul_add, Int.one_mul, Int.mul_assoc]; omega
  · refine ⟨?_, fun k hk' => ?_⟩
    · rw [h0]; have := hW.1; rcases hsg with q | q <;> subst q <;> omega
    · rw [hk k hk']
      by_cases q : k = e
      · subst q; rw [up_at]; have := hW.2 k hk'; rcases hsg with q | q <;> subst q <;> omega
      · rw [up_ne q]; have := hW.2 k hk'; show _ ≤ Wy (41 * v + (k + 1)) ∧ Wy (41 * v + (k + 1)) ≤ _; omega
