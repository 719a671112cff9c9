/-- least walks between all pairs, as the reference finds them -/
def fR (g : Nat → Option Int) (k : Nat) (x : Int) : Nat → Option Int :=
  match g k with
  | none => va_up g k (some x)
  | some y => if x < y then va_up g k (some x) else g
def mC (φ : (Nat → Int) × (Nat → Int)) (k : Nat) : Option Int := if φ.1 k < 1152921504606846976 then some (φ.1 k * qM + φ.2 k) else none
def mBd (B : Int) (φ : (Nat → Int) × (Nat → Int)) (k : Nat) : Prop := φ.1 k < 1152921504606846976 → (0 ≤ φ.1 k ∧ φ.1 k ≤ B * 1000000000) ∧ 0 ≤ φ.2 k ∧ φ.2 k ≤ B * 549755813888
theorem fR_none {g : Nat → Option Int} {k : Nat} {x : Int} (h : g k = none) : fR g k x = va_up g k (some x) := by unfold fR; rw [h]
theorem fR_lt {g : Nat → Option Int} {k : Nat} {x w : Int} (h : g k = some w) (l : x < w) : fR g k x = va_up g k (some x) := by unfold fR; rw [h]; exact if_pos l
theorem fR_ge {g : Nat → Option Int} {k : Nat} {x w : Int} (h : g k = some w) (l : ¬ x < w) : fR g k x = g := by unfold fR; rw [h]; exact if_neg l
theorem fR_le (g : Nat → Option Int) (k : Nat) (x : Int) (j : Nat) (y : Int) (h : g j = some y) : ∃ z, fR g k x j = some z ∧ z ≤ y := by
  cases e : g k with
  | none =>
    have : j ≠ k := fun hj => by subst hj; rw [h] at e; cases e
    exact ⟨y, by rw [fR_none e, up_ne this]; exact h, Int.le_refl _⟩
  | some w =>
    by_cases l : x < w
    · rw [fR_lt e l]
      by_cases hj : j = k
      · subst hj; rw [h] at e; injection e with e; subst e; exact ⟨x, up_at, Int.le_of_lt l⟩
      · exact ⟨y, by rw [up_ne hj]; exact h, Int.le_refl _⟩
    · rw [fR_ge e l]; exact ⟨y, h, Int.le_refl _⟩
theorem fR_hit (g : Nat → Option Int) (k : Nat) (x : Int) : ∃ z, fR g k x k = some z ∧ z ≤ x := by
  cases e : g k with
  | none => exact ⟨x, by rw [fR_none e]; exact up_at, Int.le_refl _⟩
  | some w =>
    by_cases l : x < w
    · rw [fR_lt e l]; exact ⟨x, up_at, Int.le_refl _⟩
    · rw [fR_ge e l]; exact ⟨w, e, by omega⟩
theorem fR_or (g : Nat → Option Int) (k : Nat) (x : Int) (j : Nat) : fR g k x j = g j ∨ (j = k ∧ fR g k x j = some x) := by
  cases e : g k with
  | none =>
    rw [fR_none e]
    by_cases hj : j = k
    · right; subst hj; exact ⟨rfl, up_at⟩
    · left; exact up_ne hj
  | some w =>
    by_cases l : x < w
    · rw [fR_lt e l]
      by_cases hj : j = k
      · right; subst hj; exact ⟨rfl, up_at⟩
      · left; exact up_ne hj
    · rw [fR_ge e l]; left; rfl
theorem mWay_C {φ : (Nat → Int) × (Nat → Int)} {k : Nat} {B c t : Int} (hB : B ≤ 262144) (hk : mBd B φ k) (hc : 0 ≤ c ∧ c ≤ B * 1000000000) (ht : 0 ≤ t ∧ t ≤ B * 549755813888) :
    (∀ j, mC (mWay φ k c t) j = fR (mC φ) k (c * qM + t) j) ∧ (∀ j, mBd B φ j → mBd B (mWay φ k c t) j) := by
  unfold mWay
  have hup : (∀ j, mC (va_up φ.1 k c, va_up φ.2 k t) j = va_up (mC φ) k (some (c * qM + t)) j) ∧ (∀ j, mBd B φ j → mBd B (va_up φ.1 k c, va_up φ.2 k t) j) := by
    refine ⟨fun j => ?_, fun j hj => ?_⟩
    · by_cases e : j = k
      · subst e; rw [up_at]; unfold mC
        show (if va_up φ.1 j c j < _ then some (va_up φ.1 j c j * qM + va_up φ.2 j t j) else none) = _
        rw [up_at, up_at, if_pos (by omega)]
      · rw [up_ne e]; unfold mC
        show (if va_up φ.1 k c j < _ then some (va_up φ.1 k c j * qM + va_up φ.2 k t j) else none) = _
        rw [up_ne e, up_ne e]
    · unfold mBd at *
      show va_up φ.1 k c j < _ → (0 ≤ va_up φ.1 k c j ∧ va_up φ.1 k c j ≤ _) ∧ 0 ≤ va_up φ.2 k t j ∧ va_up φ.2 k t j ≤ _
      by_cases e : j = k
      · subst e; rw [up_at, up_at]; intro _; exact ⟨hc, ht⟩
      · rw [up_ne e, up_ne e]; exact hj
  by_cases hd : dLess c t (φ.1 k) (φ.2 k) = true
  · rw [if_pos hd]
    refine ⟨fun j => ?_, hup.2⟩
    rw [hup.1 j]
    by_cases hf : φ.1 k < 1152921504606846976
    · rw [fR_lt (show mC φ k = some (φ.1 k * qM + φ.2 k) from if_pos hf)]
      unfold dLess at hd; have hd := of_decide_eq_true hd
      have := hk hf; simp only [qM]; omega
    · rw [fR_none (show mC φ k = none from if_neg hf)]
  · rw [if_neg hd]
    refine ⟨fun j => ?_, fun j h => h⟩
    unfold dLess at hd; have hd := of_decide_eq_false (Bool.not_eq_true _ ▸ hd)
    have hf : φ.1 k < 1152921504606846976 := by omega
    rw [fR_ge (show mC φ k = some (φ.1 k * qM + φ.2 k) from if_pos hf)]
    have := hk hf; simp only [qM]; omega
/-- rounds over one middle vertex -/
def gK (g : Nat → Option Int) (v : Nat) : Nat → Nat → Option Int
  | 0 => g
  | k + 1 => match gK g v k (16 * (k / 16) + v), gK g v k (16 * v + k % 16) with
    | some x, some y => fR (gK g v k) k (x + y)
    | _, _ => gK g v k
theorem gK_cases (g : Nat → Option Int) (v k : Nat) : gK g v (k + 1) = gK g v k ∨ ∃ x y, gK g v k (16 * (k / 16) + v) = some x ∧ gK g v k (16 * v + k % 16) = some y ∧ gK g v (k + 1) = fR (gK g v k) k (x + y) := by
  rw [gK]
  cases h1 : gK g v k (16 * (k / 16) + v) with
  | none => left; rfl
  | some x =>
    cases h2 : gK g v k (16 * v + k % 16) with
    | none => left; rfl
    | some y => right; exact ⟨x, y, rfl, rfl, rfl⟩
theorem gK_le (g : Nat → Option Int) (v k j : Nat) (y : Int) (h : g j = some y) : ∃ z, gK g v k j = some z ∧ z ≤ y := by
  induction k with
  | zero => exact ⟨y, h, Int.le_refl _⟩
  | succ k ih =>
    obtain ⟨z, hz, lz⟩ := ih
    rcases gK_cases g v k with e | ⟨a, b, _, _, e⟩
    · rw [e]; exact ⟨z, hz, lz⟩
    · rw [e]; obtain ⟨w, hw, lw⟩ := fR_le (gK g v k) k (a + b) j z hz
      exact ⟨w, hw, Int.le_trans lw lz⟩
theorem gK_hit (g : Nat → Option Int) (v k j : Nat) (hj : j < k) (x y : Int) (hx : g (16 * (j / 16) + v) = some x) (hy : g (16 * v + j % 16) = some y) : ∃ z, gK g v k j = some z ∧ z ≤ x + y := by
  induction k with
  | zero => omega
  | succ k ih =>
    by_cases e : j = k
    · subst e
      obtain ⟨x', hx', lx⟩ := gK_le g v j _ x hx
      obtain ⟨y', hy', ly⟩ := gK_le g v j _ y hy
      have : gK g v (j + 1) = fR (gK g v j) j (x' + y') := by rw [gK, hx', hy']
      rw [this]; obtain ⟨z, hz, lz⟩ := fR_hit (gK g v j) j (x' + y')
      exact ⟨z, hz, by omega⟩
    · obtain ⟨z, hz, lz⟩ := ih (by omega)
      rcases gK_cases g v k with e | ⟨a, b, _, _, e⟩
      · rw [e]; exact ⟨z, hz, lz⟩
      · rw [e]; obtain ⟨w, hw, lw⟩ := fR_le (gK g v k) k (a + b) j z hz
        exact ⟨w, hw, Int.le_trans lw lz⟩
/-- what stands in a cell is a walk -/
def gSd (A : List qA) (nv : Nat) (g : Nat → Option Int) : Prop := ∀ a b x, a < nv → b < 16 → g (16 * a + b) = some x → qWk (fun v => v = a) A b x
theorem qWk_cat {A : List qA} {a m : Nat} {x : Int} (h : qWk (fun v => v = a) A m x) {b : Nat} {y : Int} (g : qWk (fun v => v = m) A b y) : qWk (fun v => v = a) A b (x + y) := by
  refine qWk_ind (M := fun b y => qWk (fun v => v = a) A b (x + y)) (fun v e => ?_) (fun c y hc _ ih => ?_) g
  · subst e; rw [Int.add_zero]; exact h
  · rw [show x + (y + c.2.2.1) = x + y + c.2.2.1 by omega]; exact qWk_cons c hc ih
theorem gK_sd {A : List qA} {nv : Nat} {g : Nat → Option Int} (h : gSd A nv g) {v : Nat} (hv : v < nv) (hn : nv ≤ 16) (k : Nat) (hk : k ≤ 16 * nv) : gSd A nv (gK g v k) := by
  induction k with
  | zero => exact h
  | succ k ih =>
    have ih := ih (by omega)
    intro a b x ha hb hx
    rcases gK_cases g v k with e | ⟨p, q, hp, hq, e⟩
    · rw [e] at hx; exact ih a b x ha hb hx
    · rw [e] at hx
      rcases fR_or (gK g v k) k (p + q) (16 * a + b) with e' | ⟨e1, e2⟩
      · rw [e'] at hx; exact ih a b x ha hb hx
      · rw [e2] at hx; injection hx with hx; subst hx
        have ea : k / 16 = a := by omega
        have eb : k % 16 = b := by omega
        rw [ea] at hp; rw [eb] at hq
        exact qWk_cat (ih a v p ha (by omega) hp) (ih v b q hv hb hq)
/-- walks whose inner vertices are below v -/
def qIn (A : List qA) (v a : Nat) : Nat → Nat → Int → Prop
  | 0, b, x => b = a ∧ x = 0
  | n + 1, b, x => ∃ c : qA, c ∈ A ∧ c.2.1 = b ∧ qIn A v a n c.1 (x - c.2.2.1) ∧ (n = 0 ∨ c.1 < v)
theorem qIn_pos {A : List qA} (hA : ∀ c, c ∈ A → 0 ≤ c.2.2.1) {v a n b : Nat} {x : Int} (h : qIn A v a n b x) : 0 ≤ x := by
  induction n generalizing b x with
  | zero => obtain ⟨_, e⟩ := h; omega
  | succ n ih =>
    obtain ⟨c, hc, _, h, _⟩ := h
    have := ih h; have := hA c hc; omega
theorem qIn_one {A : List qA} {v a : Nat} {c : qA} (hc : c ∈ A) (ha : c.1 = a) : qIn A v a 1 c.2.1 c.2.2.1 := ⟨c, hc, rfl, ⟨ha, by omega⟩, .inl rfl⟩
theorem qIn_more {A : List qA} {v a n : Nat} {x : Int} {c : qA} (hc : c ∈ A) (hv : c.1 < v) (h : qIn A v a n c.1 x) : qIn A v a (n + 1) c.2.1 (x + c.2.2.1) :=
  ⟨c, hc, rfl, by rw [show x + c.2.2.1 - c.2.2.1 = x by omega]; exact h, .inr hv⟩
theorem qIn_split {A : List qA} (hA : ∀ c, c ∈ A → 0 ≤ c.2.2.1) {v a n b : Nat} {x : Int} (h : qIn A (v + 1) a n b x) :
    (∃ y m, y ≤ x ∧ qIn A v a m b y) ∨ (∃ y z m k, y + z ≤ x ∧ qIn A v a m v y ∧ qIn A v v k b z) := by
  induction n generalizing b x with
  | zero => left; exact ⟨x, 0, Int.le_refl _, h⟩
  | succ n ih =>
    obtain ⟨c, hc, hb, h, hn⟩ := h
    subst hb
    by_cases h0 : n = 0
    · subst h0
      obtain ⟨e1, e2⟩ := h
      left; exact ⟨c.2.2.1, 1, by omega, qIn_one hc e1⟩
    · have hcv : c.1 < v + 1 := by omega
      by_cases hv : c.1 < v
      · rcases ih h with ⟨y, m, ly, hy⟩ | ⟨y, z, m, k, l, hy, hz⟩
        · left; exact ⟨y + c.2.2.1, m + 1, by omega, qIn_more hc hv hy⟩
        · right; exact ⟨y, z + c.2.2.1, m, k + 1, by omega, hy, qIn_more hc hv hz⟩
      · have e : c.1 = v := by omega
        rcases ih h with ⟨y, m, ly, hy⟩ | ⟨y, z, m, k, l, hy, hz⟩
        · right; exact ⟨y, c.2.2.1, m, 1, by omega, by rw [e] at hy; exact hy, qIn_one hc e⟩
        · have := qIn_pos hA hz
          right; exact ⟨y, c.2.2.1, m, 1, by omega, hy, qIn_one hc e⟩
def gBd (A : List qA) (nv v : Nat) (g : Nat → Option Int) : Prop := ∀ a b n x, a < nv → b < 16 → qIn A v a n b x → ∃ y, g (16 * a + b) = some y ∧ y ≤ x
theorem gK_bd {A : List qA} (hA : ∀ c, c ∈ A → 0 ≤ c.2.2.1) {nv v : Nat} (hv : v < nv) (hn : nv ≤ 16) {g : Nat → Option Int} (h : gBd A nv v g) : gBd A nv (v + 1) (gK g v (16 * nv)) := by
  intro a b n x ha hb hw
  rcases qIn_split hA hw with ⟨y, m, ly, hy⟩ | ⟨y, z, m, k, l, hy, hz⟩
  · obtain ⟨w, hw, lw⟩ := h a b m y ha hb hy
    obtain ⟨t, ht, lt⟩ := gK_le g v (16 * nv) _ w hw
    exact ⟨t, ht, by omega⟩
  · obtain ⟨p, hp, lp⟩ := h a v m y ha (by omega) hy
    obtain ⟨q, hq, lq⟩ := h v b k z hv hb hz
    obtain ⟨t, ht, lt⟩ := gK_hit g v (16 * nv) (16 * a + b) (by omega) p q (by rw [show (16 * a + b) / 16 = a by omega]; exact hp) (by rw [show (16 * a + b) % 16 = b by omega]; exact hq)
    exact ⟨t, ht, by omega⟩
def gV (nv : Nat) (g : Nat → Option Int) : Nat → Nat → Option Int
  | 0 => g
  | v + 1 => gK (gV nv g v) v (16 * nv)
theorem gV_bd {A : List qA} (hA : ∀ c, c ∈ A → 0 ≤ c.2.2.1) {nv : Nat} (hn : nv ≤ 16) {g : Nat → Option Int} (h : gBd A nv 0 g) (v : Nat) (hv : v ≤ nv) : gBd A nv v (gV nv g v) := by
  induction v with
  | zero => exact h
  | succ v ih => exact gK_bd hA (by omega) hn (ih (by omega))
theorem gV_sd {A : List qA} {nv : Nat} (hn : nv ≤ 16) {g : Nat → Option Int} (h : gSd A nv g) (v : Nat) (hv : v ≤ nv) : gSd A nv (gV nv g v) := by
  induction v with
  | zero => exact h
  | succ v ih => exact gK_sd (ih (by omega)) (by omega) hn _ (Nat.le_refl _)
theorem qWk_in {A : List qA} {nv : Nat} (hA : ∀ c, c ∈ A → c.1 < nv) {a b : Nat} {x : Int} (h : qWk (fun v => v = a) A b x) : ∃ n, qIn A nv a n b x := by
  refine qWk_ind (M := fun b x => ∃ n, qIn A nv a n b x) (fun v e => ⟨0, e, rfl⟩) (fun c x hc _ ih => ?_) h
  obtain ⟨n, hn⟩ := ih
  exact ⟨n + 1, qIn_more hc (hA c hc) hn⟩
