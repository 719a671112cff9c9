/-- taking a bit away -/
theorem bt_rm {t a : Nat} (h : bt t a) (k : Nat) : bt (t - 2 ^ a) k ↔ bt t k ∧ k ≠ a := by
  have hp : 0 < 2 ^ a := Nat.two_pow_pos a
  have hs : 2 ^ (a + 1) = 2 * 2 ^ a := by rw [Nat.pow_succ]; omega
  have hlo : t % 2 ^ a < 2 ^ a := Nat.mod_lt _ hp
  have e0 : t = 2 ^ a * (t / 2 ^ a) + t % 2 ^ a := (Nat.div_add_mod t (2 ^ a)).symm
  have hodd : t / 2 ^ a = 2 * (t / 2 ^ a / 2) + 1 := by unfold bt at h; omega
  have e1 : t = 2 ^ (a + 1) * (t / 2 ^ a / 2) + (2 ^ a * 1 + t % 2 ^ a) := by
    have : 2 ^ a * (t / 2 ^ a) = 2 ^ a * (2 * (t / 2 ^ a / 2) + 1) := by rw [← hodd]
    rw [hs, Nat.mul_comm 2 (2 ^ a), Nat.mul_assoc]
    rw [Nat.mul_add, Nat.mul_one] at this
    omega
  have e2 : t - 2 ^ a = 2 ^ (a + 1) * (t / 2 ^ a / 2) + t % 2 ^ a := by omega
  generalize hH : t / 2 ^ a / 2 = hi at e1 e2
  generalize hL : t % 2 ^ a = lo at e1 e2 hlo
  rw [bt_tb, bt_tb, e2]
  rw [show t.testBit k = (2 ^ (a + 1) * hi + (2 ^ a * 1 + lo)).testBit k by rw [← e1]]
  rw [Nat.testBit_two_pow_mul_add hi (show lo < 2 ^ (a + 1) by omega), Nat.testBit_two_pow_mul_add hi (show 2 ^ a * 1 + lo < 2 ^ (a + 1) by omega)]
  by_cases hk : k < a + 1
  · rw [if_pos hk, if_pos hk, Nat.testBit_two_pow_mul_add 1 hlo]
    by_cases hka : k < a
    · rw [if_pos hka]; exact ⟨fun q => ⟨q, by omega⟩, fun q => q.1⟩
    · have e : k = a := by omega
      subst e
      rw [Nat.testBit_lt_two_pow hlo]
      exact ⟨fun q => (by cases q), fun q => absurd rfl q.2⟩
  · rw [if_neg hk, if_neg hk]; exact ⟨fun q => ⟨q, by omega⟩, fun q => q.1⟩
theorem rm_lt {t a n : Nat} (h : t < n) : t - 2 ^ a < n := Nat.lt_of_le_of_lt (Nat.sub_le _ _) h
theorem rm_and {t a : Nat} (ht : t < 65536) (h : bt t a) : t &&& (65535 ^^^ 2 ^ a) = t - 2 ^ a := bt_ext fun k => by
  rw [bt_and, bt_rm h]
  constructor
  · rintro ⟨p, q⟩; exact ⟨p, fun e => (bt_not (bt_lt ht p)).mp q (bt_pow.mpr e.symm)⟩
  · rintro ⟨p, q⟩; exact ⟨p, (bt_not (bt_lt ht p)).mpr (fun e => q (bt_pow.mp e).symm)⟩
theorem bt_big {t a : Nat} (h : bt t a) : 2 ^ a ≤ t := bit_le h
/-- the least bit -/
theorem pLo_least {set k : Nat} (hk : k ≤ 16) (h : 0 ≤ pLo set k) : bt set (pLo set k).toNat ∧ 16 - k ≤ (pLo set k).toNat ∧ ∀ i, 16 - k ≤ i → i < (pLo set k).toNat → ¬ bt set i := by
  induction k with
  | zero => exact absurd h (show ¬ (0 : Int) ≤ -1 by decide)
  | succ k ih =>
    rw [pLo] at h ⊢
    by_cases c : set / 2 ^ (16 - (k + 1)) % 2 = 1
    · rw [if_pos c] at h ⊢
      exact ⟨c, Nat.le_refl _, fun i a b => by
        have : (((16 - (k + 1) : Nat)) : Int).toNat = 16 - (k + 1) := rfl
        omega⟩
    · rw [if_neg c] at h ⊢
      obtain ⟨p, q, r⟩ := ih (by omega) h
      refine ⟨p, by omega, fun i a b => ?_⟩
      by_cases e : i = 16 - (k + 1)
      · subst e; exact c
      · exact r i (by omega) b
def lowB (t a : Nat) : Prop := bt t a ∧ ∀ k, k < a → ¬ bt t k
theorem lowB_uni {t a b : Nat} (h : lowB t a) (g : lowB t b) : a = b := by
  apply Classical.byContradiction; intro e
  by_cases l : a < b
  · exact g.2 a l h.1
  · exact h.2 b (by omega) g.1
theorem pLo_low {set : Nat} (hs : set < 65536) (hne : set ≠ 0) : lowB set (pLo set 16).toNat := by
  obtain ⟨p, _, r⟩ := pLo_least (Nat.le_refl 16) (pLo_pos hs hne)
  exact ⟨p, fun k hk => r k (by omega) hk⟩
theorem low_ex {t : Nat} (ht : t < 65536) (hne : t ≠ 0) : ∃ a, lowB t a := ⟨_, pLo_low ht hne⟩
/-- steps between sets: the least and another are taken away -/
def pSt (w : Nat → Nat → Int) (t t' : Nat) (x : Int) : Prop := ∃ a b, lowB t a ∧ bt t b ∧ a < b ∧ t' = t - 2 ^ a - 2 ^ b ∧ x = w a b
def pPn (w : Nat → Nat → Int) (s : Nat) : Nat → Nat → Int → Prop
  | 0, t, x => t = s ∧ x = 0
  | n + 1, t, x => ∃ r y, pPn w s n r y ∧ pSt w r t (x - y)
def pPa (w : Nat → Nat → Int) (s t : Nat) (x : Int) : Prop := ∃ n, pPn w s n t x
theorem pPa_nil (w : Nat → Nat → Int) (s : Nat) : pPa w s s 0 := ⟨0, rfl, rfl⟩
theorem pPa_snoc {w : Nat → Nat → Int} {s r t : Nat} {x y : Int} (h : pPa w s r x) (g : pSt w r t y) : pPa w s t (x + y) := let ⟨n, hn⟩ := h; ⟨n + 1, r, x, hn, by rw [show x + y - x = y by omega]; exact g⟩
theorem pPa_ind {w : Nat → Nat → Int} {s : Nat} {M : Nat → Int → Prop} (h0 : M s 0) (h1 : ∀ r t x y, pPa w s r x → M r x → pSt w r t y → M t (x + y)) {t : Nat} {x : Int} (h : pPa w s t x) : M t x := by
  obtain ⟨n, hn⟩ := h
  induction n generalizing t x with
  | zero => obtain ⟨a, b⟩ := hn; subst a; subst b; exact h0
  | succ n ih =>
    obtain ⟨r, y, a, b⟩ := hn
    have := h1 r t y (x - y) ⟨n, a⟩ (ih a) b
    rw [show y + (x - y) = x by omega] at this; exact this
theorem pPa_cons {w : Nat → Nat → Int} {s r t : Nat} {x y : Int} (g : pSt w s r y) (h : pPa w r t x) : pPa w s t (y + x) := by
  refine pPa_ind (M := fun t x => pPa w s t (y + x)) ?_ (fun q t x z _ ih e => ?_) h
  · have := pPa_snoc (pPa_nil w s) g; rw [Int.zero_add] at this; rw [Int.add_zero]; exact this
  · rw [show y + (x + z) = y + x + z by omega]; exact pPa_snoc ih e
theorem pPa_front {w : Nat → Nat → Int} {s t : Nat} {x : Int} (h : pPa w s t x) : (t = s ∧ x = 0) ∨ ∃ r y z, pSt w s r y ∧ pPa w r t z ∧ x = y + z := by
  refine pPa_ind (M := fun t x => (t = s ∧ x = 0) ∨ ∃ r y z, pSt w s r y ∧ pPa w r t z ∧ x = y + z) (.inl ⟨rfl, rfl⟩) (fun r t x y _ ih e => ?_) h
  right
  rcases ih with ⟨a, b⟩ | ⟨r', y', z, a, b, c⟩
  · subst a; subst b; exact ⟨t, y, 0, e, pPa_nil w t, by omega⟩
  · exact ⟨r', y', z + y, a, pPa_snoc b e, by omega⟩
theorem pSt_lt {w : Nat → Nat → Int} {s t : Nat} {x : Int} (h : pSt w s t x) : t < s := by
  obtain ⟨a, b, ha, _, _, e, _⟩ := h
  have := bt_big ha.1; have := Nat.two_pow_pos a; have := Nat.two_pow_pos b; omega
theorem pSt_low {w : Nat → Nat → Int} {s t : Nat} {x : Int} (h : pSt w s t x) {a : Nat} (ha : lowB s a) : ∀ k, k ≤ a → ¬ bt t k := by
  obtain ⟨a', b, ha', hb, hab, e, _⟩ := h
  have := lowB_uni ha ha'; subst this
  intro k hk q
  have hb' : bt (s - 2 ^ a) b := (bt_rm ha.1 b).mpr ⟨hb, by omega⟩
  rw [e, bt_rm hb', bt_rm ha.1] at q
  by_cases e : k = a
  · exact q.1.2 e
  · exact ha.2 k (by omega) q.1.1
