/-- a row of digits as one number -/
def hr (b s : Int) (γ : Nat → Int) : Nat → Int
  | 0 => s
  | n + 1 => b * hr b s γ n + γ n
theorem hr_up (b s d : Int) (γ : Nat → Int) (e : Nat) (g : Int) (n : Nat) : hr b (s + d) (va_up γ e (γ e + g)) n = hr b s γ n + d * b ^ n + (if e < n then g * b ^ (n - 1 - e) else 0) := by
  induction n with
  | zero => rw [hr, hr, Int.pow_zero, if_neg (show ¬ e < 0 by omega)]; omega
  | succ n ih =>
    rw [hr, hr, ih, Int.mul_add, Int.mul_add]
    have e1 : b * (d * b ^ n) = d * b ^ (n + 1) := by rw [Int.pow_succ, ← Int.mul_assoc, Int.mul_comm b d, Int.mul_assoc, Int.mul_comm b]
    rw [e1]
    by_cases q : n = e
    · subst q
      rw [up_at, if_neg (show ¬ n < n by omega), if_pos (show n < n + 1 by omega), show n + 1 - 1 - n = 0 by omega, Int.pow_zero]; omega
    · rw [up_ne q]
      by_cases l : e < n
      · rw [if_pos l, if_pos (show e < n + 1 by omega), show n + 1 - 1 - e = (n - 1 - e) + 1 by omega]
        have e2 : b * (g * b ^ (n - 1 - e)) = g * b ^ (n - 1 - e + 1) := by rw [Int.pow_succ, ← Int.mul_assoc, Int.mul_comm b g, Int.mul_assoc, Int.mul_comm b]
        rw [e2]; omega
      · rw [if_neg l, if_neg (show ¬ e < n + 1 by omega)]; omega
theorem hr_0 (b : Int) (n : Nat) : hr b 0 (fun _ => 0) n = 0 := by
  induction n with
  | zero => rfl
  | succ n ih => rw [hr, ih]; omega
theorem mul_pos2 {b s : Int} (hb : 2 ≤ b) (hs : 1 ≤ s) : 2 ≤ b * s := by
  have := Int.mul_le_mul hb hs (by decide) (by omega); omega
theorem mul_neg2 {b s : Int} (hb : 2 ≤ b) (hs : s ≤ -1) : b * s ≤ -2 := by
  have := mul_pos2 hb (show 1 ≤ -s by omega)
  rw [Int.mul_neg] at this; omega
theorem hr_sgn {b b' s s' : Int} (hb : 2 ≤ b) (hb' : 2 ≤ b') (h1 : 0 < s ↔ 0 < s') (h2 : s = 0 ↔ s' = 0) {γ : Nat → Int} (hγ : ∀ e, -1 ≤ γ e ∧ γ e ≤ 1) (n : Nat) :
    (0 < hr b s γ n ↔ 0 < hr b' s' γ n) ∧ (hr b s γ n = 0 ↔ hr b' s' γ n = 0) ∧ (hr b s γ n = 0 → ∀ e, e < n → γ e = 0) := by
  induction n with
  | zero => exact ⟨h1, h2, fun _ e he => by omega⟩
  | succ n ih =>
    obtain ⟨i1, i2, i3⟩ := ih
    have hg := hγ n
    rw [hr, hr]
    by_cases p : 0 < hr b s γ n
    · have := mul_pos2 hb (show 1 ≤ hr b s γ n by omega)
      have := mul_pos2 hb' (show 1 ≤ hr b' s' γ n by have := i1.mp p; omega)
      exact ⟨⟨fun _ => by omega, fun _ => by omega⟩, ⟨fun _ => by omega, fun _ => by omega⟩, fun _ => by omega⟩
    · by_cases z : hr b s γ n = 0
      · rw [z, i2.mp z, Int.mul_zero, Int.mul_zero]
        refine ⟨Iff.rfl, Iff.rfl, fun q e he => ?_⟩
        by_cases w : e = n
        · subst w; omega
        · exact i3 z e (by omega)
      · have := mul_neg2 hb (show hr b s γ n ≤ -1 by omega)
        have hz : ¬ hr b' s' γ n = 0 := fun q => z (i2.mpr q)
        have hp : ¬ 0 < hr b' s' γ n := fun q => p (i1.mpr q)
        have := mul_neg2 hb' (show hr b' s' γ n ≤ -1 by omega)
        exact ⟨⟨fun _ => by omega, fun _ => by omega⟩, ⟨fun _ => by omega, fun _ => by omega⟩, fun _ => by omega⟩
def sW (We : Nat → Nat) (γ : Nat → Int) : Nat → Int
  | 0 => 0
  | k + 1 => sW We γ k + γ k * ((We k : Nat) : Int)
theorem sW_up (We : Nat → Nat) (γ : Nat → Int) (e : Nat) (g : Int) (n : Nat) : sW We (va_up γ e (γ e + g)) n = sW We γ n + (if e < n then g * ((We e : Nat) : Int) else 0) := by
  induction n with
  | zero => rfl
  | succ n ih =>
    rw [sW, sW, ih]
    by_cases q : n = e
    · subst q; rw [up_at, if_neg (show ¬ n < n by omega), if_pos (show n < n + 1 by omega), Int.add_mul]; omega
    · rw [up_ne q]
      by_cases l : e < n
      · rw [if_pos l, if_pos (show e < n + 1 by omega)]; omega
      · rw [if_neg l, if_neg (show ¬ e < n + 1 by omega)]; omega
/-- the price of a change, and of one step -/
def cdG (b K : Int) (We : Nat → Nat) (me : Nat) (γ : Nat → Int) : Int := hr b (K * sW We γ me) γ 40
def cdE (b K : Int) (We : Nat → Nat) (e : Nat) : Int := K * ((We e : Nat) : Int) * b ^ 40 + b ^ (39 - e)
theorem cdG_up (b K : Int) (We : Nat → Nat) {me e : Nat} (hme : me ≤ 40) (he : e < me) (γ : Nat → Int) (g : Int) : cdG b K We me (va_up γ e (γ e + g)) = cdG b K We me γ + g * cdE b K We e := by
  unfold cdG cdE
  rw [sW_up, if_pos he, Int.mul_add, hr_up, if_pos (show e < 40 by omega), show 40 - 1 - e = 39 - e by omega, Int.mul_add]
  rw [show K * (g * ((We e : Nat) : Int)) * b ^ 40 = g * (K * ((We e : Nat) : Int) * b ^ 40) by rw [← Int.mul_assoc K g, Int.mul_comm K g, Int.mul_assoc g, Int.mul_assoc g]]
  omega
theorem sX_neg {t : Nat → Int} (n : Nat) (h : sX t n = 0) {e : Nat} (he : e < n) (hp : 0 < t e) : ∃ k, k < n ∧ t k < 0 := by
  apply Classical.byContradiction; intro q
  have hk : ∀ k, k < n → 0 ≤ t k := fun k hk => by
    apply Classical.byContradiction; intro z; exact q ⟨k, hk, by omega⟩
  have : ∀ m, m ≤ n → 0 ≤ sX t m ∧ (e < m → 0 < sX t m) := fun m => by
    induction m with
    | zero => intro _; exact ⟨Int.le_refl _, fun z => by omega⟩
    | succ m ih =>
      intro hm
      have i := ih (by omega); have j := hk m (by omega)
      rw [sX]
      refine ⟨by omega, fun z => ?_⟩
      by_cases w : e = m
      · subst w; omega
      · have := i.2 (by omega); omega
  have := (this n (Nat.le_refl _)).2 he; omega
theorem nX_sum (Fr To : Nat → Nat) (x y : Nat → Int) (u n : Nat) : nX Fr To y u n - nX Fr To x u n = sX (fun k => (if To k = u then y k - x k else 0) - (if Fr k = u then y k - x k else 0)) n := by
  induction n with
  | zero => rfl
  | succ n ih =>
    rw [nX, nX, sX, ← ih]
    by_cases a : To n = u
    · rw [if_pos a, if_pos a, if_pos a]
      by_cases b : Fr n = u
      · rw [if_pos b, if_pos b, if_pos b]; omega
      · rw [if_neg b, if_neg b, if_neg b]; omega
    · rw [if_neg a, if_neg a, if_neg a]
      by_cases b : Fr n = u
      · rw [if_pos b, if_pos b, if_pos b]; omega
      · rw [if_neg b, if_neg b, if_neg b]; omega
def tlZ (Fr To : Nat → Nat) (z : Nat → Int) (e : Nat) : Nat := if 0 < z e then Fr e else To e
def hdZ (Fr To : Nat → Nat) (z : Nat → Int) (e : Nat) : Nat := if 0 < z e then To e else Fr e
theorem nxtZ {Fr To : Nat → Nat} {x y : Nat → Int} {me : Nat} (hb : ∀ u, nX Fr To x u me = nX Fr To y u me) {e : Nat} (he : e < me) (hz : y e - x e ≠ 0) :
    ∃ k, k < me ∧ y k - x k ≠ 0 ∧ tlZ Fr To (fun k => y k - x k) k = hdZ Fr To (fun k => y k - x k) e := by
  by_cases hl : Fr e = To e
  · exact ⟨e, he, hz, by unfold tlZ hdZ; rw [hl]⟩
  · have h0 := nX_sum Fr To x y (hdZ Fr To (fun k => y k - x k) e) me
    rw [hb] at h0
    have h0 : sX (fun k => (if To k = hdZ Fr To (fun k => y k - x k) e then y k - x k else 0) - (if Fr k = hdZ Fr To (fun k => y k - x k) e then y k - x k else 0)) me = 0 := by omega
    have hp : 0 < (fun k => (if To k = hdZ Fr To (fun k => y k - x k) e then y k - x k else 0) - (if Fr k = hdZ Fr To (fun k => y k - x k) e then y k - x k else 0)) e := by
      show 0 < (if To e = hdZ Fr To (fun k => y k - x k) e then y e - x e else 0) - (if Fr e = hdZ Fr To (fun k => y k - x k) e then y e - x e else 0)
      unfold hdZ
      by_cases p : 0 < y e - x e
      · rw [if_pos p, if_pos rfl, if_neg hl]; omega
      · rw [if_neg p, if_neg (fun q => hl q.symm), if_pos rfl]; omega
    obtain ⟨k, hk, ht⟩ := sX_neg me h0 he hp
    have ht : (if To k = hdZ Fr To (fun k => y k - x k) e then y k - x k else 0) - (if Fr k = hdZ Fr To (fun k => y k - x k) e then y k - x k else 0) < 0 := ht
    by_cases a : To k = hdZ Fr To (fun k => y k - x k) e
    · rw [if_pos a] at ht
      by_cases b : Fr k = hdZ Fr To (fun k => y k - x k) e
      · rw [if_pos b] at ht; omega
      · rw [if_neg b] at ht
        exact ⟨k, hk, by omega, by rw [← a]; unfold tlZ; rw [if_neg (by show ¬ 0 < y k - x k; omega)]⟩
    · rw [if_neg a] at ht
      by_cases b : Fr k = hdZ Fr To (fun k => y k - x k) e
      · rw [if_pos b] at ht
        exact ⟨k, hk, by omega, by rw [← b]; unfold tlZ; rw [if_pos (by show 0 < y k - x k; omega)]⟩
      · rw [if_neg b] at ht; omega
theorem seqZ {Fr To : Nat → Nat} {x y : Nat → Int} {me : Nat} (hb : ∀ u, nX Fr To x u me = nX Fr To y u me) {e : Nat} (he : e < me) (hz : y e - x e ≠ 0) :
    ∃ f : Nat → Nat, (∀ k, f k < me ∧ y (f k) - x (f k) ≠ 0) ∧ ∀ k, tlZ Fr To (fun k => y k - x k) (f (k + 1)) = hdZ Fr To (fun k => y k - x k) (f k) := by
  have hP : ∀ q : {e : Nat // e < me ∧ y e - x e ≠ 0}, ∃ r : {e : Nat // e < me ∧ y e - x e ≠ 0}, tlZ Fr To (fun k => y k - x k) r.1 = hdZ Fr To (fun k => y k - x k) q.1 := fun q => by
    obtain ⟨k, a, b, c⟩ := nxtZ hb q.2.1 q.2.2
    exact ⟨⟨k, a, b⟩, c⟩
  have hS : ∃ g : Nat → {e : Nat // e < me ∧ y e - x e ≠ 0}, ∀ k, tlZ Fr To (fun k => y k - x k) (g (k + 1)).1 = hdZ Fr To (fun k => y k - x k) (g k).1 :=
    ⟨fun k => Nat.rec ⟨e, he, hz⟩ (fun _ q => Classical.choose (hP q)) k, fun k => Classical.choose_spec (hP _)⟩
  obtain ⟨g, hg⟩ := hS
  exact ⟨fun k => (g k).1, fun k => (g k).2, hg⟩
theorem first_rep {v : Nat → Nat} (h : ∀ k, v k < 16) : ∃ i j, i < j ∧ v i = v j ∧ ∀ a b, a < b → b < j → v a ≠ v b := by
  have h1 : ∃ j, ∃ i, i < j ∧ v i = v j := by
    apply Classical.byContradiction; intro q
    have := pigeon (List.range 16) 17 v (fun i _ => List.mem_range.mpr (h i)) (fun i j _ _ e => by
      apply Classical.byContradiction; intro z
      by_cases l : i < j
      · exact q ⟨j, i, l, e⟩
      · exact q ⟨i, j, by omega, e.symm⟩)
    rw [List.length_range] at this; omega
  obtain ⟨j, hj⟩ := h1
  have : ∀ n j, j = n → (∃ i, i < j ∧ v i = v j) → ∃ i j, i < j ∧ v i = v j ∧ ∀ a b, a < b → b < j → v a ≠ v b := by
    intro n
    induction n using Nat.strongRecOn with
    | _ n ih =>
      intro j e ⟨i, hi, ei⟩
      by_cases q : ∃ b, b < j ∧ ∃ a, a < b ∧ v a = v b
      · obtain ⟨b, hb, a, ha⟩ := q
        exact ih b (by omega) b rfl ⟨a, ha⟩
      · exact ⟨i, j, hi, ei, fun a b hab hb z => q ⟨b, hb, a, hab, z⟩⟩
  exact this j j rfl hj
