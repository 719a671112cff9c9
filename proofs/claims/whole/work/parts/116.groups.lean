theorem mGp_sd {Fr To : Nat → Nat} {Le : Nat → Int} {me : Nat} (hL : ∀ k, k < me → 0 ≤ Le k) {g : Nat → Nat} (h : ∀ u, rN (gEd true true Fr To Le me) u (g u)) (k : Nat) (hk : k ≤ me) : ∀ u, rN (gEd true true Fr To Le me) u ((mGp Fr To Le g k).1 u) := by
  induction k with
  | zero => exact h
  | succ k ih =>
    have ih := ih (by omega)
    have h0 := hL k (by omega)
    by_cases c : Le k = 0 ∨ (mGp Fr To Le g k).1 (Fr k) = (mGp Fr To Le g k).1 (To k)
    · rw [mGp_s c]; exact ih
    · rw [mGp_u (fun q => c (.inl q)) (fun q => c (.inr q))]
      have hp : 0 < Le k := by have : Le k ≠ 0 := fun q => c (.inl q)
                               omega
      have e1 : rN (gEd true true Fr To Le me) (Fr k) (To k) := rN_one ⟨k, by omega, hp, .inl ⟨rfl, rfl, rfl⟩⟩
      have e2 : rN (gEd true true Fr To Le me) (To k) (Fr k) := rN_one ⟨k, by omega, hp, .inr ⟨rfl, rfl, rfl⟩⟩
      have hm : ∀ a b c : Nat, rN (gEd true true Fr To Le me) c a → rN (gEd true true Fr To Le me) c b → rN (gEd true true Fr To Le me) c (mMin a b) := fun a b c p q => by unfold mMin; split <;> assumption
      intro u
      show rN _ u (va_up (va_up _ (Fr k) _) (To k) _ u)
      by_cases eu : u = To k
      · subst eu; rw [up_at]; exact hm _ _ _ (rN_trans e2 (ih _)) (ih _)
      · rw [up_ne eu]
        by_cases ef : u = Fr k
        · subst ef; rw [up_at]; exact hm _ _ _ (ih _) (rN_trans e1 (ih _))
        · rw [up_ne ef]; exact ih u
theorem mGp_le {Fr To : Nat → Nat} {Le : Nat → Int} {g : Nat → Nat} (k : Nat) : ∀ u, (mGp Fr To Le g k).1 u ≤ g u := by
  induction k with
  | zero => exact fun u => Nat.le_refl _
  | succ k ih =>
    by_cases c : Le k = 0 ∨ (mGp Fr To Le g k).1 (Fr k) = (mGp Fr To Le g k).1 (To k)
    · rw [mGp_s c]; exact ih
    · rw [mGp_u (fun q => c (.inl q)) (fun q => c (.inr q))]
      intro u
      have hm : ∀ a b : Nat, mMin a b ≤ a ∧ mMin a b ≤ b := fun a b => by unfold mMin; split <;> omega
      show va_up (va_up _ (Fr k) _) (To k) _ u ≤ _
      by_cases eu : u = To k
      · subst eu; rw [up_at]; exact Nat.le_trans (hm _ _).2 (ih _)
      · rw [up_ne eu]
        by_cases ef : u = Fr k
        · subst ef; rw [up_at]; exact Nat.le_trans (hm _ _).1 (ih _)
        · rw [up_ne ef]; exact ih u
theorem mGp_end {Fr To : Nat → Nat} {Le : Nat → Int} {g : Nat → Nat} (k : Nat) (h : (mGp Fr To Le g k).2 = false) : (mGp Fr To Le g k).1 = g ∧ ∀ j, j < k → Le j = 0 ∨ g (Fr j) = g (To j) := by
  induction k with
  | zero => exact ⟨rfl, fun j hj => by omega⟩
  | succ k ih =>
    by_cases c : Le k = 0 ∨ (mGp Fr To Le g k).1 (Fr k) = (mGp Fr To Le g k).1 (To k)
    · rw [mGp_s c] at h ⊢
      obtain ⟨a, b⟩ := ih h
      refine ⟨a, fun j hj => ?_⟩
      by_cases e : j = k
      · subst e; rw [a] at c; exact c
      · exact b j (by omega)
    · rw [mGp_u (fun q => c (.inl q)) (fun q => c (.inr q))] at h; cases h
theorem mG_cl {Fr To : Nat → Nat} (hF : ∀ j, Fr j < 16) (hT : ∀ j, To j < 16) {Le : Nat → Int} {me : Nat} (n : Nat) {g : Nat → Nat} (h : gS g 16 < n) : ∀ j, j < me → Le j = 0 ∨ mG Fr To Le me n g (Fr j) = mG Fr To Le me n g (To j) := by
  induction n generalizing g with
  | zero => omega
  | succ n ih =>
    unfold mG
    have hs := mGp_S (Le := Le) (g := g) hF hT me
    by_cases e : (mGp Fr To Le g me).2 = true
    · rw [if_pos e] at hs ⊢; exact ih (by omega)
    · rw [if_neg e]
      obtain ⟨a, b⟩ := mGp_end me (Bool.not_eq_true _ ▸ e)
      rw [a]; exact b
theorem mG_sd {Fr To : Nat → Nat} {Le : Nat → Int} {me : Nat} (hL : ∀ k, k < me → 0 ≤ Le k) (n : Nat) {g : Nat → Nat} (h : ∀ u, rN (gEd true true Fr To Le me) u (g u)) : ∀ u, rN (gEd true true Fr To Le me) u (mG Fr To Le me n g u) := by
  induction n generalizing g with
  | zero => exact h
  | succ n ih =>
    unfold mG; split
    · exact ih (mGp_sd hL h me (Nat.le_refl _))
    · exact mGp_sd hL h me (Nat.le_refl _)
theorem mG_le {Fr To : Nat → Nat} {Le : Nat → Int} {me : Nat} (n : Nat) {g : Nat → Nat} : ∀ u, mG Fr To Le me n g u ≤ g u := by
  induction n generalizing g with
  | zero => exact fun u => Nat.le_refl _
  | succ n ih =>
    unfold mG; split
    · exact fun u => Nat.le_trans (ih u) (mGp_le me u)
    · exact mGp_le me
def gI0 : Nat → Nat := fun j => j
theorem mGp_ext {Fr To : Nat → Nat} (hF : ∀ j, Fr j < 16) (hT : ∀ j, To j < 16) {Le : Nat → Int} {g h : Nat → Nat} (e : ∀ j, j < 16 → g j = h j) (k : Nat) : (∀ j, j < 16 → (mGp Fr To Le g k).1 j = (mGp Fr To Le h k).1 j) ∧ (mGp Fr To Le g k).2 = (mGp Fr To Le h k).2 := by
  induction k with
  | zero => exact ⟨e, rfl⟩
  | succ k ih =>
    obtain ⟨a, b⟩ := ih
    have a1 := a (Fr k) (hF k); have a2 := a (To k) (hT k)
    by_cases c : Le k = 0 ∨ (mGp Fr To Le g k).1 (Fr k) = (mGp Fr To Le g k).1 (To k)
    · have c' := c; rw [a1, a2] at c'
      rw [mGp_s c, mGp_s c']; exact ⟨a, b⟩
    · have c' := c; rw [a1, a2] at c'
      rw [mGp_u (fun q => c (.inl q)) (fun q => c (.inr q)), mGp_u (fun q => c' (.inl q)) (fun q => c' (.inr q)), a1, a2]
      refine ⟨fun j hj => ?_, rfl⟩
      show va_up (va_up _ _ _) _ _ j = va_up (va_up _ _ _) _ _ j
      unfold va_up
      by_cases q : j = To k
      · rw [if_pos q, if_pos q]
      · rw [if_neg q, if_neg q]
        by_cases q : j = Fr k
        · rw [if_pos q, if_pos q]
        · rw [if_neg q, if_neg q]; exact a j hj
theorem mG_ext {Fr To : Nat → Nat} (hF : ∀ j, Fr j < 16) (hT : ∀ j, To j < 16) {Le : Nat → Int} {me : Nat} (n : Nat) {g h : Nat → Nat} (e : ∀ j, j < 16 → g j = h j) : ∀ j, j < 16 → mG Fr To Le me n g j = mG Fr To Le me n h j := by
  induction n generalizing g h with
  | zero => exact e
  | succ n ih =>
    obtain ⟨a, b⟩ := mGp_ext hF hT (Le := Le) e me
    unfold mG; rw [b]; split
    · exact ih a
    · exact a
/-- groups: the label is the least vertex that hangs together with u -/
theorem mGroups_q {Fr To : Nat → Nat} (hF : ∀ j, Fr j < 16) (hT : ∀ j, To j < 16) {Le : Nat → Int} {me : Nat} (hL : ∀ k, k < me → 0 ≤ Le k) (Gr : Nat → Nat) :
    (∀ u, u < 16 → rN (gEd true true Fr To Le me) u (mGroups Fr To Le me Gr u)) ∧ (∀ u, u < 16 → mGroups Fr To Le me Gr u ≤ u) ∧ (∀ j, j < me → 0 < Le j → mGroups Fr To Le me Gr (Fr j) = mGroups Fr To Le me Gr (To j)) := by
  have e : ∀ j, j < 16 → mGroups Fr To Le me Gr j = mG Fr To Le me 241 gI0 j := mG_ext hF hT 241 (fun j hj => by unfold gI gI0; rw [if_pos hj])
  refine ⟨fun u hu => ?_, fun u hu => ?_, fun j hj h0 => ?_⟩
  · rw [e u hu]; exact mG_sd hL 241 (fun u => rN_refl _ u) u
  · rw [e u hu]; exact mG_le 241 u
  · rcases mG_cl (Le := Le) (me := me) hF hT 241 (gI_S Gr) j hj with h | h
    · omega
    · exact h
theorem gEd_sym {Fr To : Nat → Nat} {U : Nat → Int} {me a b : Nat} (h : gEd true true Fr To U me a b) : gEd true true Fr To U me b a := by
  obtain ⟨k, hk, hU, h | h⟩ := h
  · exact ⟨k, hk, hU, .inr ⟨rfl, h.2.2, h.2.1⟩⟩
  · exact ⟨k, hk, hU, .inl ⟨rfl, h.2.2, h.2.1⟩⟩
theorem rN_sym {Fr To : Nat → Nat} {U : Nat → Int} {me a b : Nat} (h : rN (gEd true true Fr To U me) a b) : rN (gEd true true Fr To U me) b a := rN_rev (fun _ _ => gEd_sym) h
theorem rN_lt {al ag : Bool} {Fr To : Nat → Nat} (hF : ∀ j, Fr j < 16) (hT : ∀ j, To j < 16) {U : Nat → Int} {me a b : Nat} (ha : a < 16) (h : rN (gEd al ag Fr To U me) a b) : b < 16 := by
  refine rN_ind (M := fun b => b < 16) ha (fun w u _ _ e => ?_) h
  obtain ⟨k, _, _, ⟨_, _, e⟩ | ⟨_, _, e⟩⟩ := e
  · rw [← e]; exact hT k
  · rw [← e]; exact hF k
theorem mGroups_same {Fr To : Nat → Nat} (hF : ∀ j, Fr j < 16) (hT : ∀ j, To j < 16) {Le : Nat → Int} {me : Nat} (hL : ∀ k, k < me → 0 ≤ Le k) (Gr : Nat → Nat) {u v : Nat} (hu : u < 16) (hv : v < 16) :
    mGroups Fr To Le me Gr u = mGroups Fr To Le me Gr v ↔ rN (gEd true true Fr To Le me) v u := by
  obtain ⟨h1, _, h3⟩ := mGroups_q hF hT hL Gr
  constructor
  · intro e
    have a := h1 u hu; have b := h1 v hv
    rw [e] at a; exact rN_trans b (rN_sym a)
  · intro h
    refine rN_ind (M := fun u => mGroups Fr To Le me Gr u = mGroups Fr To Le me Gr v) rfl (fun w u _ ih e => ?_) h
    obtain ⟨k, hk, hU, ⟨_, e1, e2⟩ | ⟨_, e1, e2⟩⟩ := e
    · rw [← ih, ← e1, ← e2]; exact (h3 k hk hU).symm
    · rw [← ih, ← e1, ← e2]; exact h3 k hk hU
theorem mHg_iff {G Fr : Nat → Nat} {Le : Nat → Int} {v : Nat} (n : Nat) : mHg G Fr Le v n = true ↔ ∀ k, k < n → Le k = 0 ∨ G (Fr k) = G v := by
  induction n with
  | zero => exact ⟨fun _ k hk => by omega, fun _ => rfl⟩
  | succ n ih =>
    rw [mHg, Bool.and_eq_true, ih, Bool.or_eq_true, decide_eq_true_iff, decide_eq_true_iff]
    constructor
    · rintro ⟨a, b⟩ k hk
      by_cases e : k = n
      · subst e; exact b
      · exact a k (by omega)
    · intro h; exact ⟨fun k hk => h k (by omega), h n (by omega)⟩
theorem gEd_ext {al ag : Bool} {Fr To : Nat → Nat} {U V : Nat → Int} {me : Nat} (h : ∀ k, k < me → (0 < U k ↔ 0 < V k)) {a b : Nat} (g : gEd al ag Fr To U me a b) : gEd al ag Fr To V me a b := by
  obtain ⟨k, hk, hU, r⟩ := g; exact ⟨k, hk, (h k hk).mp hU, r⟩
/-- hanging together: both say the same -/
theorem hang_eq {Fr To : Nat → Nat} (hF : ∀ j, Fr j < 16) (hT : ∀ j, To j < 16) {U Le : Nat → Int} {me : Nat} (hUL : ∀ k, k < me → U k = Le k) (hL : ∀ k, k < me → 0 ≤ Le k) (Gr : Nat → Nat) {v : Nat} (hv : v < 16) :
    gHang Fr To U me v = mHg (mGroups Fr To Le me Gr) Fr Le v me := by
  rw [Bool.eq_iff_iff, gHang_iff hF hT hv, mHg_iff]
  constructor
  · intro h k hk
    have := hL k hk
    by_cases e : Le k = 0
    · exact .inl e
    · right
      apply (mGroups_same hF hT hL Gr (hF k) hv).mpr
      exact rN_mono (fun a b => gEd_ext fun k hk => by rw [hUL k hk]) (h k hk (by rw [hUL k hk]; omega))
  · intro h k hk hU
    rw [hUL k hk] at hU
    rcases h k hk with e | e
    · omega
    · exact rN_mono (fun a b => gEd_ext fun k hk => by rw [hUL k hk]) ((mGroups_same hF hT hL Gr (hF k) hv).mp e)
theorem mHas_iff {Fr To : Nat → Nat} {v : Nat} (n : Nat) : mHas Fr To v n = true ↔ ∃ k, k < n ∧ (Fr k = v ∨ To k = v) := by
  induction n with
  | zero => exact ⟨fun h => (by cases h), fun ⟨k, hk, _⟩ => by omega⟩
  | succ n ih =>
    rw [mHas, Bool.or_eq_true, ih, Bool.or_eq_true, decide_eq_true_iff, decide_eq_true_iff]
    constructor
    · rintro (⟨k, hk, h⟩ | h)
      · exact ⟨k, by omega, h⟩
      · exact ⟨n, by omega, h⟩
    · rintro ⟨k, hk, h⟩
      by_cases e : k = n
      · subst e; exact .inr h
      · exact .inl ⟨k, by omega, h⟩
