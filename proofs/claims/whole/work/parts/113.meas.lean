def mZd (φ : (Nat → Int) × (Nat → Int)) : Prop := ∀ u, u < 16 → φ.1 (17 * u) = 0 ∧ φ.2 (17 * u) = 0
theorem mWay_or (φ : (Nat → Int) × (Nat → Int)) (k : Nat) (c t : Int) (j : Nat) (h : j ≠ k ∨ dLess c t (φ.1 j) (φ.2 j) = false) : (mWay φ k c t).1 j = φ.1 j ∧ (mWay φ k c t).2 j = φ.2 j := by
  unfold mWay
  by_cases hd : dLess c t (φ.1 k) (φ.2 k) = true
  · rw [if_pos hd]
    have e : j ≠ k := by
      rcases h with h | h
      · exact h
      · intro e; subst e; rw [h] at hd; cases hd
    exact ⟨up_ne e, up_ne e⟩
  · rw [if_neg hd]; exact ⟨rfl, rfl⟩
theorem dLess_0 {c t : Int} (hc : 0 ≤ c) (ht : 0 ≤ t) : dLess c t 0 0 = false := by unfold dLess; apply decide_eq_false; omega
theorem mWay_Zd {φ : (Nat → Int) × (Nat → Int)} (h : mZd φ) (k : Nat) {c t : Int} (hc : 0 ≤ c) (ht : 0 ≤ t) : mZd (mWay φ k c t) := fun u hu => by
  obtain ⟨h1, h2⟩ := h u hu
  obtain ⟨g1, g2⟩ := mWay_or φ k c t (17 * u) (.inr (by rw [h1, h2]; exact dLess_0 hc ht))
  exact ⟨g1.trans h1, g2.trans h2⟩
theorem gK_ext {g h : Nat → Option Int} (e : ∀ j, g j = h j) (v k : Nat) : gK g v k = gK h v k := by rw [show g = h from funext e]
theorem mK_C {φ : (Nat → Int) × (Nat → Int)} {B : Int} (hB : B ≤ 131072) (hb : ∀ j, j < 256 → mBd B φ j) (hz : mZd φ) {v : Nat} (hv : v < 16) (k : Nat) (hk : k ≤ 256) :
    (∀ j, mC (mK φ v k) j = gK (mC φ) v k j) ∧ (∀ j, j < 256 → mBd (2 * B) (mK φ v k) j) ∧ (∀ j, j < 256 → j % 16 = v ∨ j / 16 = v → (mK φ v k).1 j = φ.1 j ∧ (mK φ v k).2 j = φ.2 j) ∧ mZd (mK φ v k) := by
  induction k with
  | zero => exact ⟨fun j => rfl, fun j hj (h : φ.1 j < _) => (by have := hb j hj h; show (0 ≤ φ.1 j ∧ φ.1 j ≤ _) ∧ 0 ≤ φ.2 j ∧ φ.2 j ≤ _; omega), fun j _ _ => ⟨rfl, rfl⟩, hz⟩
  | succ k ih =>
    obtain ⟨h1, h2, h3, h4⟩ := ih (by omega)
    have a1 := h3 (16 * (k / 16) + v) (by omega) (.inl (by omega))
    have a2 := h3 (16 * v + k % 16) (by omega) (.inr (by omega))
    have b1 := hb (16 * (k / 16) + v) (by omega)
    have b2 := hb (16 * v + k % 16) (by omega)
    unfold mBd at b1 b2
    rw [mK]
    by_cases hc : (mK φ v k).1 (16 * (k / 16) + v) < 1152921504606846976 ∧ (mK φ v k).1 (16 * v + k % 16) < 1152921504606846976
    · rw [if_pos hc, w64_id (by rw [a1.1, a2.1] at *; omega), w64_id (by rw [a1.1, a2.1] at hc; rw [a1.2, a2.2]; have := b1 hc.1; have := b2 hc.2; omega)]
      have c1 : 0 ≤ (mK φ v k).1 (16 * (k / 16) + v) + (mK φ v k).1 (16 * v + k % 16) ∧ (mK φ v k).1 (16 * (k / 16) + v) + (mK φ v k).1 (16 * v + k % 16) ≤ 2 * B * 1000000000 := by
        rw [a1.1, a2.1] at *; have := b1 hc.1; have := b2 hc.2; omega
      have c2 : 0 ≤ (mK φ v k).2 (16 * (k / 16) + v) + (mK φ v k).2 (16 * v + k % 16) ∧ (mK φ v k).2 (16 * (k / 16) + v) + (mK φ v k).2 (16 * v + k % 16) ≤ 2 * B * 549755813888 := by
        rw [a1.1, a2.1] at hc; rw [a1.2, a2.2]; have := b1 hc.1; have := b2 hc.2; omega
      obtain ⟨w1, w2⟩ := mWay_C (by omega) (h2 k (by omega)) c1 c2
      refine ⟨fun j => ?_, fun j hj => w2 j (h2 j hj), fun j hj hjv => ?_, mWay_Zd h4 _ c1.1 c2.1⟩
      · rw [w1 j, gK, ← h1 (16 * (k / 16) + v), ← h1 (16 * v + k % 16), show mC (mK φ v k) (16 * (k / 16) + v) = some _ from if_pos hc.1, show mC (mK φ v k) (16 * v + k % 16) = some _ from if_pos hc.2]
        show _ = fR (gK (mC φ) v k) k (_ + _) j
        rw [← show mC (mK φ v k) = gK (mC φ) v k from funext h1]
        congr 1
        simp only [qM]; omega
      · obtain ⟨g1, g2⟩ := mWay_or (mK φ v k) k ((mK φ v k).1 (16 * (k / 16) + v) + (mK φ v k).1 (16 * v + k % 16)) ((mK φ v k).2 (16 * (k / 16) + v) + (mK φ v k).2 (16 * v + k % 16)) j (by
          by_cases e : j = k
          · right; subst e
            obtain ⟨z1, z2⟩ := h4 v hv
            rcases hjv with hjv | hjv
            · rw [show 16 * (j / 16) + v = j by omega, show 16 * v + j % 16 = 17 * v by omega, z1, z2]
              unfold dLess; apply decide_eq_false; omega
            · rw [show 16 * (j / 16) + v = 17 * v by omega, show 16 * v + j % 16 = j by omega, z1, z2]
              unfold dLess; apply decide_eq_false; omega
          · left; exact e)
        exact ⟨g1.trans (h3 j hj hjv).1, g2.trans (h3 j hj hjv).2⟩
    · rw [if_neg hc]
      refine ⟨fun j => ?_, h2, h3, h4⟩
      rw [gK, ← h1 (16 * (k / 16) + v), ← h1 (16 * v + k % 16), h1 j]
      by_cases hx : (mK φ v k).1 (16 * (k / 16) + v) < 1152921504606846976
      · rw [show mC (mK φ v k) (16 * v + k % 16) = none from if_neg (fun h => hc ⟨hx, h⟩)]
        cases mC (mK φ v k) (16 * (k / 16) + v) <;> rfl
      · rw [show mC (mK φ v k) (16 * (k / 16) + v) = none from if_neg hx]
theorem mV_C {φ : (Nat → Int) × (Nat → Int)} (hb : ∀ j, j < 256 → mBd 1 φ j) (hz : mZd φ) {nv : Nat} (hn : nv ≤ 16) (v : Nat) (hv : v ≤ nv) :
    (∀ j, mC (mV nv φ v) j = gV nv (mC φ) v j) ∧ (∀ j, j < 256 → mBd ((2 ^ v : Nat) : Int) (mV nv φ v) j) ∧ mZd (mV nv φ v) := by
  induction v with
  | zero => exact ⟨fun j => rfl, hb, hz⟩
  | succ v ih =>
    obtain ⟨h1, h2, h3⟩ := ih (by omega)
    have hp : 2 ^ v ≤ 2 ^ 16 := Nat.pow_le_pow_right (by decide) (by omega)
    have h16 : 2 ^ 16 = 65536 := rfl
    obtain ⟨a, b, _, d⟩ := mK_C (by omega) h2 h3 (show v < 16 by omega) (16 * nv) (by omega)
    refine ⟨fun j => ?_, fun j hj => ?_, d⟩
    · show mC (mK (mV nv φ v) v (16 * nv)) j = gK (gV nv (mC φ) v) v (16 * nv) j
      rw [a j, gK_ext h1]
    · have := b j hj
      rw [Nat.pow_succ]; rw [show (((2 ^ v * 2 : Nat)) : Int) = 2 * ((2 ^ v : Nat) : Int) by omega]; exact this
def gE (dir : Bool) (Fr To We : Nat → Nat) (g : Nat → Option Int) : Nat → Nat → Option Int
  | 0 => g
  | i + 1 => if dir = true then fR (gE dir Fr To We g i) (16 * Fr i + To i) (((We i : Nat) : Int) * qM + 2 ^ (39 - i))
    else fR (fR (gE dir Fr To We g i) (16 * Fr i + To i) (((We i : Nat) : Int) * qM + 2 ^ (39 - i))) (16 * To i + Fr i) (((We i : Nat) : Int) * qM + 2 ^ (39 - i))
theorem pow39p (i : Nat) : 0 ≤ (2 : Int) ^ (39 - i) ∧ (2 : Int) ^ (39 - i) ≤ 549755813888 := ⟨Int.le_of_lt (Int.pow_pos (by decide)), (pow39 i).2⟩
theorem mE_C {dir : Bool} {Fr To We : Nat → Nat} (hF : ∀ j, Fr j < 16) (hT : ∀ j, To j < 16) (hW : ∀ j, We j ≤ 1000000000) {φ : (Nat → Int) × (Nat → Int)} (hb : ∀ j, j < 256 → mBd 1 φ j) (hz : mZd φ) (i : Nat) :
    (∀ j, mC (mE dir Fr To We φ i) j = gE dir Fr To We (mC φ) i j) ∧ (∀ j, j < 256 → mBd 1 (mE dir Fr To We φ i) j) ∧ mZd (mE dir Fr To We φ i) := by
  induction i with
  | zero => exact ⟨fun j => rfl, hb, hz⟩
  | succ i ih =>
    obtain ⟨h1, h2, h3⟩ := ih
    have hp := pow39p i
    have hf := hF i; have ht := hT i; have hw := hW i
    obtain ⟨a1, a2⟩ := mWay_C (φ := mE dir Fr To We φ i) (k := 16 * Fr i + To i) (B := 1) (c := ((We i : Nat) : Int)) (t := 2 ^ (39 - i)) (by decide) (h2 _ (by omega)) (by omega) (by omega)
    have a3 := mWay_Zd h3 (16 * Fr i + To i) (c := ((We i : Nat) : Int)) (t := 2 ^ (39 - i)) (by omega) (by omega)
    cases hd : dir with
    | true =>
      subst hd
      rw [mE, if_pos rfl]
      refine ⟨fun j => ?_, fun j hj => a2 j (h2 j hj), a3⟩
      rw [a1 j, gE, if_pos rfl, show mC (mE true Fr To We φ i) = gE true Fr To We (mC φ) i from funext h1]
    | false =>
      subst hd
      rw [mE, if_neg (by decide)]
      obtain ⟨b1, b2⟩ := mWay_C (k := 16 * To i + Fr i) (B := 1) (c := ((We i : Nat) : Int)) (t := 2 ^ (39 - i)) (by decide) (a2 _ (h2 _ (by omega))) (by omega) (by omega)
      refine ⟨fun j => ?_, fun j hj => b2 j (a2 j (h2 j hj)), mWay_Zd a3 _ (by omega) (by omega)⟩
      rw [b1 j, gE, if_neg (by decide), ← show mC (mE false Fr To We φ i) = gE false Fr To We (mC φ) i from funext h1]
      rw [show mC (mWay (mE false Fr To We φ i) (16 * Fr i + To i) ((We i : Nat) : Int) (2 ^ (39 - i))) = _ from funext a1]
theorem mI_C (φ : (Nat → Int) × (Nat → Int)) : (∀ j, j < 256 → mC (mI φ 256) j = if j / 16 = j % 16 then some 0 else none) ∧ (∀ j, j < 256 → mBd 1 (mI φ 256) j) ∧ mZd (mI φ 256) := by
  refine ⟨fun j hj => ?_, fun j hj => ?_, fun u hu => ?_⟩
  · unfold mC mI mD
    show (if (if j < 256 then (if j / 16 = j % 16 then 0 else (1152921504606846976 : Int)) else _) < _ then some ((if j < 256 then (if j / 16 = j % 16 then 0 else (1152921504606846976 : Int)) else _) * qM + (if j < 256 then 0 else _)) else none) = _
    rw [if_pos hj, if_pos hj]
    by_cases e : j / 16 = j % 16
    · rw [if_pos e, if_pos (by decide), if_pos e]; rfl
    · rw [if_neg e, if_neg (by decide), if_neg e]
  · unfold mBd mI mD
    show (if j < 256 then (if j / 16 = j % 16 then 0 else (1152921504606846976 : Int)) else _) < _ → (0 ≤ (if j < 256 then (if j / 16 = j % 16 then 0 else (1152921504606846976 : Int)) else _) ∧ (if j < 256 then (if j / 16 = j % 16 then 0 else (1152921504606846976 : Int)) else _) ≤ _) ∧ 0 ≤ (if j < 256 then (0 : Int) else _) ∧ (if j < 256 then (0 : Int) else _) ≤ _
    rw [if_pos hj, if_pos hj]
    by_cases e : j / 16 = j % 16
    · rw [if_pos e]; intro _; decide
    · rw [if_neg e]; intro h; exact absurd h (by decide)
  · unfold mI mD
    show (if 17 * u < 256 then (if 17 * u / 16 = 17 * u % 16 then 0 else (1152921504606846976 : Int)) else _) = 0 ∧ (if 17 * u < 256 then 0 else _) = 0
    rw [if_pos (by omega), if_pos (by omega), if_pos (by omega)]; exact ⟨rfl, rfl⟩
