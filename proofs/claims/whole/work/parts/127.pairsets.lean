/-- sets of places and sets of vertices -/
def vR (mon : Nat) (Od : Nat → Nat) (t R : Nat) : Prop := t < 2 ^ mon ∧ R < 65536 ∧ ∀ v, bt R v ↔ ∃ k, bt t k ∧ Od k = v
def oMono (mon : Nat) (Od : Nat → Nat) : Prop := (∀ k, k < mon → Od k < 16) ∧ ∀ i j, i < j → j < mon → Od i < Od j
theorem oMono_inj {mon : Nat} {Od : Nat → Nat} (h : oMono mon Od) {i j : Nat} (hi : i < mon) (hj : j < mon) (e : Od i = Od j) : i = j := by
  apply Classical.byContradiction; intro q
  by_cases l : i < j
  · have := h.2 i j l hj; omega
  · have := h.2 j i (by omega) hi; omega
theorem vR_bit {mon : Nat} {Od : Nat → Nat} (h : oMono mon Od) {t R : Nat} (hv : vR mon Od t R) {k : Nat} (hk : k < mon) : bt R (Od k) ↔ bt t k := by
  rw [hv.2.2]
  exact ⟨fun ⟨j, a, b⟩ => by rw [← oMono_inj h (bt_mon hv.1 a) hk b]; exact a, fun a => ⟨k, a, rfl⟩⟩
theorem vR_low {mon : Nat} {Od : Nat → Nat} (h : oMono mon Od) {t R : Nat} (hv : vR mon Od t R) {a : Nat} (ha : lowB t a) : lowB R (Od a) := by
  have ham := bt_mon hv.1 ha.1
  refine ⟨(vR_bit h hv ham).mpr ha.1, fun k hk q => ?_⟩
  obtain ⟨j, j1, j2⟩ := (hv.2.2 k).mp q
  have hj := bt_mon hv.1 j1
  have : ¬ j < a := fun l => ha.2 j l j1
  by_cases e : j = a
  · subst e; omega
  · have := h.2 a j (by omega) hj; omega
theorem vR_rm {mon : Nat} {Od : Nat → Nat} (h : oMono mon Od) {t R : Nat} (hv : vR mon Od t R) {a : Nat} (ha : bt t a) : vR mon Od (t - 2 ^ a) (R - 2 ^ Od a) := by
  have ham := bt_mon hv.1 ha
  have hR := (vR_bit h hv ham).mpr ha
  refine ⟨rm_lt hv.1, rm_lt hv.2.1, fun v => ?_⟩
  rw [bt_rm hR, hv.2.2]
  constructor
  · rintro ⟨⟨k, a1, a2⟩, a3⟩; exact ⟨k, (bt_rm ha k).mpr ⟨a1, fun e => a3 (by rw [← a2, e])⟩, a2⟩
  · rintro ⟨k, a1, a2⟩
    have := (bt_rm ha k).mp a1
    refine ⟨⟨k, this.1, a2⟩, fun e => this.2 (oMono_inj h (bt_mon hv.1 this.1) ham (by rw [a2, e]))⟩
theorem vR_st {mon : Nat} {Od : Nat → Nat} (h : oMono mon Od) {w w' : Nat → Nat → Int} (hw : ∀ a b, a < mon → b < mon → w a b = w' (Od a) (Od b)) {t R : Nat} (hv : vR mon Od t R) {t' : Nat} {x : Int} (g : pSt w t t' x) : ∃ R', pSt w' R R' x ∧ vR mon Od t' R' := by
  obtain ⟨a, b, ha, hb, hab, e, ex⟩ := g
  have ham := bt_mon hv.1 ha.1; have hbm := bt_mon hv.1 hb
  refine ⟨R - 2 ^ Od a - 2 ^ Od b, ⟨Od a, Od b, vR_low h hv ha, (vR_bit h hv hbm).mpr hb, h.2 a b hab hbm, rfl, by rw [ex, hw a b ham hbm]⟩, ?_⟩
  rw [e]; exact vR_rm h (vR_rm h hv ha.1) ((bt_rm ha.1 b).mpr ⟨hb, by omega⟩)
theorem vR_ts {mon : Nat} {Od : Nat → Nat} (h : oMono mon Od) (hm : mon ≤ 16) {w w' : Nat → Nat → Int} (hw : ∀ a b, a < mon → b < mon → w a b = w' (Od a) (Od b)) {t R : Nat} (hv : vR mon Od t R) {R' : Nat} {x : Int} (g : pSt w' R R' x) : ∃ t', pSt w t t' x ∧ vR mon Od t' R' := by
  obtain ⟨A, B, hA, hB, hAB, e, ex⟩ := g
  obtain ⟨a0, a1, a2⟩ := (hv.2.2 A).mp hA.1
  obtain ⟨b, b1, b2⟩ := (hv.2.2 B).mp hB
  have hp : 2 ^ mon ≤ 2 ^ 16 := Nat.pow_le_pow_right (by decide) hm
  have h16 : (2 : Nat) ^ 16 = 65536 := rfl
  have ht := hv.1
  obtain ⟨a, ha⟩ := low_ex (t := t) (by omega) (fun e => by subst e; exact bt_0 _ a1)
  have eA := lowB_uni (vR_low h hv ha) hA
  have ham := bt_mon hv.1 ha.1; have hbm := bt_mon hv.1 b1
  have hab : a < b := by
    apply Classical.byContradiction; intro q
    by_cases e : a = b
    · subst e; omega
    · have := h.2 b a (by omega) ham; omega
  refine ⟨t - 2 ^ a - 2 ^ b, ⟨a, b, ha, b1, hab, rfl, by rw [ex, hw a b ham hbm, eA, b2]⟩, ?_⟩
  rw [e, ← eA, ← b2]; exact vR_rm h (vR_rm h hv ha.1) ((bt_rm ha.1 b).mpr ⟨b1, by omega⟩)
theorem vR_pa {mon : Nat} {Od : Nat → Nat} (h : oMono mon Od) {w w' : Nat → Nat → Int} (hw : ∀ a b, a < mon → b < mon → w a b = w' (Od a) (Od b)) {s R : Nat} (hv : vR mon Od s R) {t : Nat} {x : Int} (g : pPa w s t x) : ∃ R', pPa w' R R' x ∧ vR mon Od t R' := by
  refine pPa_ind (M := fun t x => ∃ R', pPa w' R R' x ∧ vR mon Od t R') ⟨R, pPa_nil _ _, hv⟩ (fun r t x y _ ih e => ?_) g
  obtain ⟨R1, a, b⟩ := ih
  obtain ⟨R2, c, d⟩ := vR_st h hw b e
  exact ⟨R2, pPa_snoc a c, d⟩
theorem vR_ap {mon : Nat} {Od : Nat → Nat} (h : oMono mon Od) (hm : mon ≤ 16) {w w' : Nat → Nat → Int} (hw : ∀ a b, a < mon → b < mon → w a b = w' (Od a) (Od b)) {s R : Nat} (hv : vR mon Od s R) {R' : Nat} {x : Int} (g : pPa w' R R' x) : ∃ t, pPa w s t x ∧ vR mon Od t R' := by
  refine pPa_ind (M := fun R' x => ∃ t, pPa w s t x ∧ vR mon Od t R') ⟨s, pPa_nil _ _, hv⟩ (fun r t x y _ ih e => ?_) g
  obtain ⟨t1, a, b⟩ := ih
  obtain ⟨t2, c, d⟩ := vR_ts h hm hw b e
  exact ⟨t2, pPa_snoc a c, d⟩
theorem vR_zero {mon : Nat} {Od : Nat → Nat} (h : oMono mon Od) {t R : Nat} (hv : vR mon Od t R) : t = 0 ↔ R = 0 := by
  constructor
  · intro e; subst e
    exact bt_ext fun k => ⟨fun q => by obtain ⟨j, a, _⟩ := (hv.2.2 k).mp q; exact absurd a (bt_0 j), fun q => absurd q (bt_0 k)⟩
  · intro e; subst e
    exact bt_ext fun k => ⟨fun q => absurd ((hv.2.2 (Od k)).mpr ⟨k, q, rfl⟩) (bt_0 _), fun q => absurd q (bt_0 k)⟩
theorem vR_inj {mon : Nat} {Od : Nat → Nat} {t R R' : Nat} (hv : vR mon Od t R) (hv' : vR mon Od t R') : R = R' := bt_ext fun k => (hv.2.2 k).trans (hv'.2.2 k).symm
/-- the odd vertices in their order -/
theorem mOp_q {dir : Bool} {Fr To : Nat → Nat} {me : Nat} (Od : Nat → Nat) (n : Nat) : (∀ k, k < (mOp dir Fr To me Od n).2 → (mOp dir Fr To me Od n).1 k < n ∧ mOdd dir Fr To me ((mOp dir Fr To me Od n).1 k) = true) ∧
    (∀ i j, i < j → j < (mOp dir Fr To me Od n).2 → (mOp dir Fr To me Od n).1 i < (mOp dir Fr To me Od n).1 j) ∧ (∀ v, v < n → mOdd dir Fr To me v = true → ∃ k, k < (mOp dir Fr To me Od n).2 ∧ (mOp dir Fr To me Od n).1 k = v) ∧ (mOp dir Fr To me Od n).2 = mCnt dir Fr To me n := by
  induction n with
  | zero => exact ⟨fun k (hk : k < 0) => by omega, fun i j _ (hj : j < 0) => by omega, fun v hv => by omega, rfl⟩
  | succ n ih =>
    obtain ⟨h1, h2, h3, h4⟩ := ih
    cases ho : mOdd dir Fr To me n with
    | false =>
      rw [mOp_n ho]
      refine ⟨fun k hk => ⟨by have := (h1 k hk).1; omega, (h1 k hk).2⟩, h2, fun v hv hm => ?_, ?_⟩
      · by_cases e : v = n
        · subst e; rw [ho] at hm; cases hm
        · exact h3 v (by omega) hm
      · rw [mCnt, ho, if_neg (by decide), h4]; rfl
    | true =>
      rw [mOp_y ho]
      refine ⟨fun k (hk : k < _ + 1) => ?_, fun i j hij (hj : j < _ + 1) => ?_, fun v hv hm => ?_, ?_⟩
      · show va_up _ _ n k < n + 1 ∧ mOdd dir Fr To me (va_up _ _ n k) = true
        by_cases e : k = (mOp dir Fr To me Od n).2
        · subst e; rw [up_at]; exact ⟨by omega, ho⟩
        · rw [up_ne e]; have := h1 k (by omega); exact ⟨by omega, this.2⟩
      · show va_up _ _ n i < va_up _ _ n j
        rw [up_ne (show i ≠ (mOp dir Fr To me Od n).2 by omega)]
        by_cases e : j = (mOp dir Fr To me Od n).2
        · subst e; rw [up_at]; exact (h1 i (by omega)).1
        · rw [up_ne e]; exact h2 i j hij (by omega)
      · by_cases e : v = n
        · exact ⟨(mOp dir Fr To me Od n).2, Nat.lt_succ_self _, by subst e; exact up_at⟩
        · obtain ⟨k, a, b⟩ := h3 v (by omega) hm
          exact ⟨k, Nat.lt_succ_of_lt a, by show va_up _ _ n k = v; rw [up_ne (by omega)]; exact b⟩
      · show (mOp dir Fr To me Od n).2 + 1 = _
        rw [mCnt, ho, if_pos rfl, h4]
theorem vR_full {dir : Bool} {Fr To : Nat → Nat} {me nv : Nat} (hn : nv ≤ 16) (Od : Nat → Nat) : vR (mOp dir Fr To me Od nv).2 (mOp dir Fr To me Od nv).1 (2 ^ (mOp dir Fr To me Od nv).2 - 1) (gOddM dir Fr To me nv) ∧ oMono (mOp dir Fr To me Od nv).2 (mOp dir Fr To me Od nv).1 := by
  obtain ⟨h1, h2, h3, _⟩ := mOp_q (dir := dir) (Fr := Fr) (To := To) (me := me) Od nv
  refine ⟨⟨by have := Nat.two_pow_pos (mOp dir Fr To me Od nv).2; omega, gOddM_lt hn, fun v => ?_⟩, fun k hk => by have := (h1 k hk).1; omega, h2⟩
  rw [gOddM_bt]
  constructor
  · rintro ⟨a, b⟩
    obtain ⟨k, p, q⟩ := h3 v a b
    exact ⟨k, by rw [bt_tb, Nat.testBit_two_pow_sub_one]; exact decide_eq_true p, q⟩
  · rintro ⟨k, p, q⟩
    rw [bt_tb, Nat.testBit_two_pow_sub_one] at p
    have := h1 k (of_decide_eq_true p)
    rw [q] at this; exact this
