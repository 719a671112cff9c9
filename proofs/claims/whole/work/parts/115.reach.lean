/-- reaching -/
def rNn (E : Nat → Nat → Prop) (v : Nat) : Nat → Nat → Prop
  | 0, u => u = v
  | n + 1, u => ∃ w, rNn E v n w ∧ E w u
def rN (E : Nat → Nat → Prop) (v u : Nat) : Prop := ∃ n, rNn E v n u
theorem rN_refl (E : Nat → Nat → Prop) (v : Nat) : rN E v v := ⟨0, rfl⟩
theorem rN_snoc {E : Nat → Nat → Prop} {v w u : Nat} (h : rN E v w) (e : E w u) : rN E v u := let ⟨n, hn⟩ := h; ⟨n + 1, w, hn, e⟩
theorem rN_ind {E : Nat → Nat → Prop} {v : Nat} {M : Nat → Prop} (h0 : M v) (h1 : ∀ w u, rN E v w → M w → E w u → M u) {u : Nat} (h : rN E v u) : M u := by
  obtain ⟨n, hn⟩ := h
  induction n generalizing u with
  | zero => have e : u = v := hn; subst e; exact h0
  | succ n ih => obtain ⟨w, hw, e⟩ := hn; exact h1 w u ⟨n, hw⟩ (ih hw) e
theorem rN_trans {E : Nat → Nat → Prop} {v w u : Nat} (h : rN E v w) (g : rN E w u) : rN E v u := rN_ind (M := fun u => rN E v u) h (fun _ _ _ ih e => rN_snoc ih e) g
theorem rN_one {E : Nat → Nat → Prop} {v u : Nat} (e : E v u) : rN E v u := rN_snoc (rN_refl E v) e
theorem rN_mono {E F : Nat → Nat → Prop} (h : ∀ a b, E a b → F a b) {v u : Nat} (g : rN E v u) : rN F v u := rN_ind (M := fun u => rN F v u) (rN_refl F v) (fun _ _ _ ih e => rN_snoc ih (h _ _ e)) g
theorem rN_rev {E F : Nat → Nat → Prop} (h : ∀ a b, E a b → F b a) {v u : Nat} (g : rN E v u) : rN F u v := rN_ind (M := fun u => rN F u v) (rN_refl F v) (fun _ _ _ ih e => rN_trans (rN_one (h _ _ e)) ih) g
/-- bits -/
def bt (r k : Nat) : Prop := r / 2 ^ k % 2 = 1
theorem bt_tb {r k : Nat} : bt r k ↔ r.testBit k = true := by unfold bt; rw [Nat.testBit_eq_decide_div_mod_eq]; exact decide_eq_true_iff.symm
theorem bt_or {a b k : Nat} : bt (a ||| b) k ↔ bt a k ∨ bt b k := by rw [bt_tb, bt_tb, bt_tb, Nat.testBit_or, Bool.or_eq_true]
theorem bt_and {a b k : Nat} : bt (a &&& b) k ↔ bt a k ∧ bt b k := by rw [bt_tb, bt_tb, bt_tb, Nat.testBit_and, Bool.and_eq_true]
theorem bt_pow {n k : Nat} : bt (2 ^ n) k ↔ n = k := by rw [bt_tb, Nat.testBit_two_pow]; exact decide_eq_true_iff
theorem bt_not {r k : Nat} (hk : k < 16) : bt (65535 ^^^ r) k ↔ ¬ bt r k := by
  rw [bt_tb, bt_tb, Nat.testBit_xor, show (65535 : Nat) = 2 ^ 16 - 1 from rfl, Nat.testBit_two_pow_sub_one, decide_eq_true hk]
  cases r.testBit k <;> decide
theorem bt_lt {r k : Nat} (hr : r < 65536) (h : bt r k) : k < 16 := by
  apply Classical.byContradiction; intro hk
  have := Nat.testBit_lt_two_pow (x := r) (i := k) (Nat.lt_of_lt_of_le hr (show 2 ^ 16 ≤ 2 ^ k from Nat.pow_le_pow_right (by decide) (by omega)))
  rw [bt_tb, this] at h; cases h
theorem bt_ext {a b : Nat} (h : ∀ k, bt a k ↔ bt b k) : a = b := Nat.eq_of_testBit_eq fun k => by
  have := h k; rw [bt_tb, bt_tb] at this
  cases ha : a.testBit k <;> cases hb : b.testBit k <;> simp_all
theorem bt_0 (k : Nat) : ¬ bt 0 k := by unfold bt; rw [Nat.zero_div]; decide
/-- steps that the house may take -/
def gEd (al ag : Bool) (Fr To : Nat → Nat) (U : Nat → Int) (me a b : Nat) : Prop := ∃ k, k < me ∧ 0 < U k ∧ ((al = true ∧ Fr k = a ∧ To k = b) ∨ (ag = true ∧ To k = a ∧ Fr k = b))
theorem gR1_bt {al ag : Bool} {Fr To : Nat → Nat} {U : Nat → Int} {r k : Nat} (j : Nat) :
    (bt r j → bt (gR1 al ag Fr To U r k) j) ∧ (bt (gR1 al ag Fr To U r k) j → bt r j ∨ (0 < U k ∧ al = true ∧ bt r (Fr k) ∧ To k = j) ∨ (0 < U k ∧ ag = true ∧ Fr k = j ∧ (bt r (To k) ∨ (al = true ∧ bt r (Fr k))))) := by
  unfold gR1
  by_cases hU : 0 < U k
  · rw [if_pos hU]
    have ha : ∀ j, (bt r j → bt (gRa al Fr To r k) j) ∧ (bt (gRa al Fr To r k) j → bt r j ∨ (al = true ∧ bt r (Fr k) ∧ To k = j)) := fun j => by
      unfold gRa
      by_cases h : al = true ∧ r / 2 ^ Fr k % 2 = 1
      · rw [if_pos h]; exact ⟨fun g => bt_or.mpr (.inl g), fun g => by
          rcases bt_or.mp g with g | g
          · exact .inl g
          · exact .inr ⟨h.1, h.2, bt_pow.mp g⟩⟩
      · rw [if_neg h]; exact ⟨fun g => g, fun g => .inl g⟩
    unfold gRb
    by_cases h : ag = true ∧ gRa al Fr To r k / 2 ^ To k % 2 = 1
    · rw [if_pos h]
      refine ⟨fun g => bt_or.mpr (.inl ((ha j).1 g)), fun g => ?_⟩
      rcases bt_or.mp g with g | g
      · rcases (ha j).2 g with g | g
        · exact .inl g
        · exact .inr (.inl ⟨hU, g⟩)
      · right; right
        refine ⟨hU, h.1, bt_pow.mp g, ?_⟩
        rcases (ha _).2 h.2 with g | g
        · exact .inl g
        · exact .inr ⟨g.1, g.2.1⟩
    · rw [if_neg h]
      refine ⟨(ha j).1, fun g => ?_⟩
      rcases (ha j).2 g with g | g
      · exact .inl g
      · exact .inr (.inl ⟨hU, g⟩)
  · rw [if_neg hU]; exact ⟨fun g => g, fun g => .inl g⟩
theorem gRP_up {al ag : Bool} {Fr To : Nat → Nat} {U : Nat → Int} {r : Nat} (k m : Nat) (h : k ≤ m) (j : Nat) (g : bt (gRP al ag Fr To U r k) j) : bt (gRP al ag Fr To U r m) j := by
  induction m with
  | zero => have : k = 0 := by omega
            subst this; exact g
  | succ m ih =>
    by_cases e : k = m + 1
    · subst e; exact g
    · exact (gR1_bt j).1 (ih (by omega))
theorem gRP_sd {al ag : Bool} {Fr To : Nat → Nat} {U : Nat → Int} {me v : Nat} {r : Nat} (h : ∀ j, bt r j → rN (gEd al ag Fr To U me) v j) (k : Nat) (hk : k ≤ me) : ∀ j, bt (gRP al ag Fr To U r k) j → rN (gEd al ag Fr To U me) v j := by
  induction k with
  | zero => exact h
  | succ k ih =>
    have ih := ih (by omega)
    intro j hj
    rcases (gR1_bt j).2 hj with g | ⟨hU, ha, g, e⟩ | ⟨hU, hg, e, g⟩
    · exact ih j g
    · exact rN_snoc (ih _ g) ⟨k, by omega, hU, .inl ⟨ha, rfl, e⟩⟩
    · rcases g with g | ⟨ha, g⟩
      · exact rN_snoc (ih _ g) ⟨k, by omega, hU, .inr ⟨hg, rfl, e⟩⟩
      · rw [← e]; exact ih _ g
theorem gRP_fix {al ag : Bool} {Fr To : Nat → Nat} {U : Nat → Int} {me : Nat} {r : Nat} (h : gRP al ag Fr To U r me = r) : ∀ a b, gEd al ag Fr To U me a b → bt r a → bt r b := by
  have he : ∀ k, k ≤ me → gRP al ag Fr To U r k = r := fun k hk => bt_ext fun j => ⟨fun g => by have := gRP_up k me hk j g; rw [h] at this; exact this, fun g => gRP_up 0 k (by omega) j g⟩
  rintro a b ⟨k, hk, hU, hab⟩ ha
  have e1 : gR1 al ag Fr To U r k = r := by
    have := he (k + 1) (by omega)
    rw [gRP, he k (by omega)] at this; exact this
  have e2 : bt (gRb ag Fr To (gRa al Fr To r k) k) b := by
    rcases hab with ⟨h1, h2, h3⟩ | ⟨h1, h2, h3⟩
    · subst h2; subst h3
      have : bt (gRa al Fr To r k) (To k) := by unfold gRa; rw [if_pos ⟨h1, ha⟩]; exact bt_or.mpr (.inr (bt_pow.mpr rfl))
      unfold gRb; split
      · exact bt_or.mpr (.inl this)
      · exact this
    · subst h2; subst h3
      have : bt (gRa al Fr To r k) (To k) := by
        unfold gRa; split
        · exact bt_or.mpr (.inl ha)
        · exact ha
      unfold gRb; rw [if_pos ⟨h1, this⟩]; exact bt_or.mpr (.inr (bt_pow.mpr rfl))
  rw [← e1]; unfold gR1; rw [if_pos hU]; exact e2
theorem gRL_fix {al ag : Bool} {Fr To : Nat → Nat} (hF : ∀ j, Fr j < 16) (hT : ∀ j, To j < 16) {U : Nat → Int} {me : Nat} (n : Nat) {r : Nat} (hr : r < 65536) (hc : 17 ≤ n + qCt (bt r) 16) : gRP al ag Fr To U (gRL al ag Fr To U me n r) me = gRL al ag Fr To U me n r := by
  induction n generalizing r with
  | zero => have := qCt_le (bt r) 16; omega
  | succ n ih =>
    unfold gRL
    by_cases e : gRP al ag Fr To U r me = r
    · rw [if_pos e]; exact e
    · rw [if_neg e]
      have hlt := gRP_lt (al := al) (ag := ag) (U := U) hF hT hr me
      refine ih hlt ?_
      have : ∃ j, ¬ bt r j ∧ bt (gRP al ag Fr To U r me) j := by
        apply Classical.byContradiction; intro hn
        exact e (bt_ext fun j => ⟨fun g => Classical.byContradiction fun g' => hn ⟨j, g', g⟩, fun g => gRP_up 0 me (Nat.zero_le _) j g⟩)
      obtain ⟨j, h1, h2⟩ := this
      have := qCt_lt (P := bt r) (Q := bt (gRP al ag Fr To U r me)) (fun j g => gRP_up 0 me (Nat.zero_le _) j g) 16 j (bt_lt hlt h2) h1 h2
      omega
theorem gRL_up {al ag : Bool} {Fr To : Nat → Nat} {U : Nat → Int} {me : Nat} (n : Nat) {r : Nat} (j : Nat) (h : bt r j) : bt (gRL al ag Fr To U me n r) j := by
  induction n generalizing r with
  | zero => exact h
  | succ n ih =>
    unfold gRL; split
    · exact h
    · exact ih (gRP_up 0 me (Nat.zero_le _) j h)
theorem gRL_sd {al ag : Bool} {Fr To : Nat → Nat} {U : Nat → Int} {me v : Nat} (n : Nat) {r : Nat} (h : ∀ j, bt r j → rN (gEd al ag Fr To U me) v j) : ∀ j, bt (gRL al ag Fr To U me n r) j → rN (gEd al ag Fr To U me) v j := by
  induction n generalizing r with
  | zero => exact h
  | succ n ih =>
    unfold gRL; split
    · exact h
    · exact ih (gRP_sd h me (Nat.le_refl _))
theorem p2_lt {v : Nat} (h : v < 16) : 2 ^ v < 65536 := Nat.pow_lt_pow_right (by decide) h (m := v) (n := 16)
/-- the house's reach is what can be reached -/
theorem gRL_iff {al ag : Bool} {Fr To : Nat → Nat} (hF : ∀ j, Fr j < 16) (hT : ∀ j, To j < 16) {U : Nat → Int} {me v : Nat} (hv : v < 16) (u : Nat) : bt (gRL al ag Fr To U me 16 (2 ^ v)) u ↔ rN (gEd al ag Fr To U me) v u := by
  have hc : 17 ≤ 16 + qCt (bt (2 ^ v)) 16 := by
    have := qCt_lt (P := fun _ => False) (Q := bt (2 ^ v)) (fun _ h => h.elim) 16 v hv (fun h => h) (bt_pow.mpr rfl)
    omega
  have hfx := gRP_fix (gRL_fix (al := al) (ag := ag) hF hT (U := U) (me := me) 16 (p2_lt hv) hc)
  refine ⟨fun h => gRL_sd 16 (fun j hj => ?_) u h, fun h => ?_⟩
  · rw [bt_pow.mp hj]; exact rN_refl _ _
  · exact rN_ind (M := fun u => bt (gRL al ag Fr To U me 16 (2 ^ v)) u) (gRL_up 16 v (bt_pow.mpr rfl)) (fun w u _ ih e => hfx w u e ih) h
theorem gTouch_bt {Fr To : Nat → Nat} {U : Nat → Int} (n u : Nat) : bt (gTouch Fr To U n) u ↔ ∃ k, k < n ∧ 0 < U k ∧ (Fr k = u ∨ To k = u) := by
  induction n with
  | zero => exact ⟨fun h => absurd h (bt_0 u), fun ⟨k, hk, _⟩ => by omega⟩
  | succ n ih =>
    rw [gTouch]
    by_cases hU : 0 < U n
    · rw [if_pos hU, bt_or, bt_or, bt_pow, bt_pow, ih]
      constructor
      · rintro (⟨k, hk, h⟩ | h)
        · exact ⟨k, by omega, h⟩
        · exact ⟨n, by omega, hU, h⟩
      · rintro ⟨k, hk, h⟩
        by_cases e : k = n
        · subst e; exact .inr h.2
        · exact .inl ⟨k, by omega, h⟩
    · rw [if_neg hU, ih]
      constructor
      · rintro ⟨k, hk, h⟩; exact ⟨k, by omega, h⟩
      · rintro ⟨k, hk, h⟩
        by_cases e : k = n
        · subst e; exact absurd h.1 hU
        · exact ⟨k, by omega, h⟩
theorem bt_sub {t r : Nat} (ht : t < 65536) : t &&& (65535 ^^^ r) = 0 ↔ ∀ u, bt t u → bt r u := by
  constructor
  · intro h u hu
    apply Classical.byContradiction; intro hr
    have : bt (t &&& (65535 ^^^ r)) u := bt_and.mpr ⟨hu, (bt_not (bt_lt ht hu)).mpr hr⟩
    rw [h] at this; exact bt_0 u this
  · intro h
    apply bt_ext; intro k
    refine ⟨fun g => ?_, fun g => absurd g (bt_0 k)⟩
    have := bt_and.mp g
    exact absurd (h k this.1) ((bt_not (bt_lt ht this.1)).mp this.2)
theorem gHang_iff {Fr To : Nat → Nat} (hF : ∀ j, Fr j < 16) (hT : ∀ j, To j < 16) {U : Nat → Int} {me v : Nat} (hv : v < 16) :
    gHang Fr To U me v = true ↔ ∀ k, k < me → 0 < U k → rN (gEd true true Fr To U me) v (Fr k) := by
  unfold gHang
  rw [decide_eq_true_iff, bt_sub (gTouch_lt hF hT me)]
  constructor
  · intro h k hk hU
    exact (gRL_iff hF hT hv _).mp (h _ ((gTouch_bt me _).mpr ⟨k, hk, hU, .inl rfl⟩))
  · intro h u hu
    obtain ⟨k, hk, hU, e⟩ := (gTouch_bt me u).mp hu
    apply (gRL_iff hF hT hv _).mpr
    rcases e with e | e
    · rw [← e]; exact h k hk hU
    · rw [← e]; exact rN_snoc (h k hk hU) ⟨k, hk, hU, .inl ⟨rfl, rfl, rfl⟩⟩
