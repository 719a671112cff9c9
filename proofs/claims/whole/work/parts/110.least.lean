abbrev qA : Type := Nat × Nat × Int × Nat
abbrev qS : Type := Nat → Option (Int × Option qA)
def qR (σ : qS) (a : qA) : qS :=
  match σ a.1 with
  | none => σ
  | some x => match σ a.2.1 with
    | none => va_up σ a.2.1 (some (x.1 + a.2.2.1, some a))
    | some y => if x.1 + a.2.2.1 < y.1 then va_up σ a.2.1 (some (x.1 + a.2.2.1, some a)) else σ
def qP (A : List qA) (σ : qS) : qS := A.foldl qR σ
def qN (A : List qA) : Nat → qS → qS
  | 0, σ => σ
  | n + 1, σ => qN A n (qP A σ)
def qChn (A : List qA) (σ : qS) : Nat → Nat → Prop
  | 0, v => σ v = some (0, none)
  | n + 1, v => ∃ (x y : Int) (a : qA) (b : Option qA), σ v = some (x, some a) ∧ a ∈ A ∧ a.2.1 = v ∧ σ a.1 = some (y, b) ∧ y + a.2.2.1 ≤ x ∧ qChn A σ n a.1
def qCh (A : List qA) (σ : qS) (v : Nat) : Prop := ∃ n, qChn A σ n v
def qWkn (S : Nat → Prop) (A : List qA) : Nat → Nat → Int → Prop
  | 0, v, x => S v ∧ x = 0
  | n + 1, v, x => ∃ a : qA, a ∈ A ∧ a.2.1 = v ∧ qWkn S A n a.1 (x - a.2.2.1)
def qWk (S : Nat → Prop) (A : List qA) (v : Nat) (x : Int) : Prop := ∃ n, qWkn S A n v x
def qInv (A : List qA) (σ : qS) : Prop := ∀ v x, σ v = some x → qCh A σ v
def qPot (A : List qA) (p : Nat → Int) : Prop := ∀ a, a ∈ A → p a.2.1 ≤ p a.1 + a.2.2.1
def qSd (S : Nat → Prop) (A : List qA) (σ : qS) : Prop := ∀ v x, σ v = some x → qWk S A v x.1
def qLe (σ' σ : qS) : Prop := ∀ v x, σ v = some x → ∃ y, σ' v = some y ∧ y.1 ≤ x.1
def qFin (S : Nat → Prop) (A : List qA) (σ : qS) (v : Nat) : Prop := ∀ x, qWk S A v x → ∃ y, σ v = some y ∧ y.1 ≤ x
def qCl (A : List qA) (σ : qS) : Prop := ∀ a, a ∈ A → ∀ x, σ a.1 = some x → ∃ y, σ a.2.1 = some y ∧ y.1 ≤ x.1 + a.2.2.1
theorem qWk_nil {S : Nat → Prop} {A : List qA} (v : Nat) (h : S v) : qWk S A v 0 := ⟨0, h, rfl⟩
theorem qWk_cons {S : Nat → Prop} {A : List qA} {x : Int} (a : qA) (ha : a ∈ A) (h : qWk S A a.1 x) : qWk S A a.2.1 (x + a.2.2.1) :=
  let ⟨n, hn⟩ := h
  ⟨n + 1, a, ha, rfl, by rw [show x + a.2.2.1 - a.2.2.1 = x by omega]; exact hn⟩
theorem qWk_ind {S : Nat → Prop} {A : List qA} {M : Nat → Int → Prop} (h0 : ∀ v, S v → M v 0) (h1 : ∀ (a : qA) (x : Int), a ∈ A → qWk S A a.1 x → M a.1 x → M a.2.1 (x + a.2.2.1)) {v : Nat} {x : Int} (h : qWk S A v x) : M v x := by
  obtain ⟨n, hn⟩ := h
  induction n generalizing v x with
  | zero => obtain ⟨a, b⟩ := hn; subst b; exact h0 v a
  | succ n ih =>
    obtain ⟨a, ha, hv, hw⟩ := hn
    have := h1 a _ ha ⟨n, hw⟩ (ih hw)
    rw [hv, show x - a.2.2.1 + a.2.2.1 = x by omega] at this; exact this
theorem qCh_root {A : List qA} {σ : qS} (v : Nat) (h : σ v = some (0, none)) : qCh A σ v := ⟨0, h⟩
theorem qCh_step {A : List qA} {σ : qS} (v : Nat) (x y : Int) (a : qA) (b : Option qA) (h : σ v = some (x, some a)) (ha : a ∈ A) (hv : a.2.1 = v) (hu : σ a.1 = some (y, b)) (hx : y + a.2.2.1 ≤ x) (hc : qCh A σ a.1) : qCh A σ v :=
  let ⟨n, hn⟩ := hc
  ⟨n + 1, x, y, a, b, h, ha, hv, hu, hx, hn⟩
theorem qCh_ind {A : List qA} {σ : qS} {M : Nat → Prop} (h0 : ∀ v, σ v = some (0, none) → M v)
    (h1 : ∀ (v : Nat) (x y : Int) (a : qA) (b : Option qA), σ v = some (x, some a) → a ∈ A → a.2.1 = v → σ a.1 = some (y, b) → y + a.2.2.1 ≤ x → qCh A σ a.1 → M a.1 → M v) {v : Nat} (h : qCh A σ v) : M v := by
  obtain ⟨n, hn⟩ := h
  induction n generalizing v with
  | zero => exact h0 v hn
  | succ n ih =>
    obtain ⟨x, y, a, b, h, ha, hv, hu, hx, hc⟩ := hn
    exact h1 v x y a b h ha hv hu hx ⟨n, hc⟩ (ih hc)
theorem qLe_refl (σ : qS) : qLe σ σ := fun _ x h => ⟨x, h, Int.le_refl _⟩
theorem qLe_tr {σ τ ρ : qS} (h : qLe τ σ) (g : qLe ρ τ) : qLe ρ σ := fun v x e =>
  let ⟨y, hy, ly⟩ := h v x e
  let ⟨z, hz, lz⟩ := g v y hy
  ⟨z, hz, Int.le_trans lz ly⟩
/-- one relaxation: either nothing, or one arc's head is set -/
theorem qR_cases (σ : qS) (a : qA) :
    (qR σ a = σ ∧ ∀ x, σ a.1 = some x → ∃ y, σ a.2.1 = some y ∧ y.1 ≤ x.1 + a.2.2.1) ∨
    (∃ x, σ a.1 = some x ∧ qR σ a = va_up σ a.2.1 (some (x.1 + a.2.2.1, some a)) ∧ (∀ y, σ a.2.1 = some y → x.1 + a.2.2.1 < y.1)) := by
  unfold qR
  cases h : σ a.1 with
  | none => left; exact ⟨rfl, fun x hx => by simp at hx⟩
  | some x =>
    cases g : σ a.2.1 with
    | none => right; exact ⟨x, rfl, rfl, fun y hy => by simp at hy⟩
    | some y =>
      by_cases hl : x.1 + a.2.2.1 < y.1
      · right
        refine ⟨x, rfl, ?_, fun y' hy => ?_⟩
        · show (if x.1 + a.2.2.1 < y.1 then _ else _) = _
          rw [if_pos hl]
        · injection hy with hy; rw [← hy]; exact hl
      · left
        refine ⟨?_, fun x' hx => ?_⟩
        · show (if x.1 + a.2.2.1 < y.1 then _ else _) = _
          rw [if_neg hl]
        · injection hx with hx; rw [← hx]; exact ⟨y, rfl, by omega⟩
theorem qR_le (σ : qS) (a : qA) : qLe (qR σ a) σ := by
  rcases qR_cases σ a with ⟨h, _⟩ | ⟨x, _, h, g⟩
  · rw [h]; exact qLe_refl σ
  · rw [h]; intro v y hy
    by_cases e : v = a.2.1
    · subst e; exact ⟨_, up_at, Int.le_of_lt (g y hy)⟩
    · exact ⟨y, by rw [up_ne e]; exact hy, Int.le_refl _⟩
theorem qR_hit (σ : qS) (a : qA) (x : Int × Option qA) (h : σ a.1 = some x) : ∃ y, qR σ a a.2.1 = some y ∧ y.1 ≤ x.1 + a.2.2.1 := by
  rcases qR_cases σ a with ⟨e, g⟩ | ⟨x', hx, e, g⟩
  · rw [e]; exact g x h
  · rw [e]; rw [h] at hx; injection hx with hx; subst hx; exact ⟨_, up_at, Int.le_refl _⟩
theorem qP_le (A : List qA) (σ : qS) : qLe (qP A σ) σ := by
  induction A generalizing σ with
  | nil => exact qLe_refl σ
  | cons a A ih => exact qLe_tr (qR_le σ a) (ih (qR σ a))
theorem qP_hit (A : List qA) (σ : qS) (a : qA) (ha : a ∈ A) (x : Int × Option qA) (h : σ a.1 = some x) : ∃ y, qP A σ a.2.1 = some y ∧ y.1 ≤ x.1 + a.2.2.1 := by
  induction A generalizing σ x with
  | nil => cases ha
  | cons b A ih =>
    cases ha with
    | head => 
      obtain ⟨y, hy, ly⟩ := qR_hit σ a x h
      obtain ⟨z, hz, lz⟩ := qP_le A (qR σ a) _ y hy
      exact ⟨z, hz, Int.le_trans lz ly⟩
    | tail _ hb =>
      obtain ⟨y, hy, ly⟩ := qR_le σ b _ x h
      obtain ⟨z, hz, lz⟩ := ih (qR σ b) hb y hy
      exact ⟨z, hz, by omega⟩
theorem qR_sd {S : Nat → Prop} {A : List qA} {σ : qS} (h : qSd S A σ) {a : qA} (ha : a ∈ A) : qSd S A (qR σ a) := by
  rcases qR_cases σ a with ⟨e, _⟩ | ⟨x, hx, e, _⟩
  · rw [e]; exact h
  · rw [e]; intro v y hy
    by_cases ev : v = a.2.1
    · subst ev; rw [up_at] at hy; injection hy with hy; subst hy
      exact qWk_cons a ha (h _ x hx)
    · rw [up_ne ev] at hy; exact h v y hy
theorem qP_sd' {S : Nat → Prop} {A : List qA} (B : List qA) (hB : ∀ a, a ∈ B → a ∈ A) {σ : qS} (h : qSd S A σ) : qSd S A (qP B σ) := by
  induction B generalizing σ with
  | nil => exact h
  | cons a B ih => exact ih (fun b hb => hB b (.tail _ hb)) (qR_sd h (hB a (.head _)))
/-- a chain passes v, or v can be set anew beside it -/
theorem qCh_avoid {A : List qA} {σ : qS} {p : Nat → Int} (hp : qPot A p) {v : Nat} {y : Int × Option qA} (hy : σ v = some y) (s : Option (Int × Option qA))
    {u : Nat} (h : qCh A σ u) : (u ≠ v ∧ qCh A (va_up σ v s) u) ∨ (∀ x, σ u = some x → y.1 - p v ≤ x.1 - p u) := by
  refine qCh_ind (M := fun u => (u ≠ v ∧ qCh A (va_up σ v s) u) ∨ (∀ x, σ u = some x → y.1 - p v ≤ x.1 - p u)) (fun w hw => ?_) (fun w x z a b hw ha hv hu hx hc ih => ?_) h
  · by_cases e : w = v
    · right; subst e; intro x hx; rw [hy] at hx; injection hx with hx; subst hx; omega
    · left; exact ⟨e, qCh_root w (by rw [up_ne e]; exact hw)⟩
  · by_cases e : w = v
    · right; subst e; intro x hx; rw [hy] at hx; injection hx with hx; subst hx; omega
    · rcases ih with ⟨e', g⟩ | g
      · left; exact ⟨e, qCh_step w x z a b (by rw [up_ne e]; exact hw) ha hv (by rw [up_ne e']; exact hu) hx g⟩
      · right; intro x' hx'; rw [hw] at hx'; injection hx' with hx'; subst hx'
        have := g _ hu; have := hp a ha; rw [hv] at this; simp only at *; omega
theorem qCh_new {A : List qA} {σ : qS} {v : Nat} (hn : σ v = none) (s : Option (Int × Option qA)) {u : Nat} (h : qCh A σ u) : qCh A (va_up σ v s) u := by
  have key : ∀ w x, σ w = some x → w ≠ v := fun w x hw e => by subst e; rw [hn] at hw; cases hw
  refine qCh_ind (M := fun u => qCh A (va_up σ v s) u) (fun w hw => ?_) (fun w x z a b hw ha hv hu hx hc ih => ?_) h
  · exact qCh_root w (by rw [up_ne (key _ _ hw)]; exact hw)
  · exact qCh_step w x z a b (by rw [up_ne (key _ _ hw)]; exact hw) ha hv (by rw [up_ne (key _ _ hu)]; exact hu) hx ih
theorem qCh_upd {A : List qA} {σ : qS} {a : qA} (ha : a ∈ A) {x : Int × Option qA} (hx : σ a.1 = some x) (hne : a.1 ≠ a.2.1) (hl : ∀ y, σ a.2.1 = some y → x.1 + a.2.2.1 < y.1)
    (hu : qCh A (va_up σ a.2.1 (some (x.1 + a.2.2.1, some a))) a.1) {w : Nat} (h : qCh A σ w) : qCh A (va_up σ a.2.1 (some (x.1 + a.2.2.1, some a))) w := by
  have hv : qCh A (va_up σ a.2.1 (some (x.1 + a.2.2.1, some a))) a.2.1 := qCh_step a.2.1 _ x.1 a x.2 up_at ha rfl (by rw [up_ne hne]; exact hx) (Int.le_refl _) hu
  refine qCh_ind (M := fun w => qCh A (va_up σ a.2.1 (some (x.1 + a.2.2.1, some a))) w) (fun w hw => ?_) (fun w xw z b bb hw hb hbv hbu hbx hc ih => ?_) h
  · by_cases e : w = a.2.1
    · subst e; exact hv
    · exact qCh_root w (by rw [up_ne e]; exact hw)
  · by_cases e : w = a.2.1
    · subst e; exact hv
    · by_cases e' : b.1 = a.2.1
      · refine qCh_step w xw (x.1 + a.2.2.1) b (some a) (by rw [up_ne e]; exact hw) hb hbv (by rw [e']; exact up_at) ?_ ih
        rw [e'] at hbu; have := hl _ hbu; simp only at this; omega
      · exact qCh_step w xw z b bb (by rw [up_ne e]; exact hw) hb hbv (by rw [up_ne e']; exact hbu) hbx ih
theorem qR_inv {A : List qA} {σ : qS} {p : Nat → Int} (hp : qPot A p) (h : qInv A σ) {a : qA} (ha : a ∈ A) : qInv A (qR σ a) := by
  rcases qR_cases σ a with ⟨e, _⟩ | ⟨x, hx, e, g⟩
  · rw [e]; exact h
  · rw [e]
    have hpa := hp a ha
    have hne : a.1 ≠ a.2.1 := by
      intro e; rw [← e] at g hpa; have := g x hx; omega
    have hu : qCh A (va_up σ a.2.1 (some (x.1 + a.2.2.1, some a))) a.1 := by
      cases hv : σ a.2.1 with
      | none => exact qCh_new hv _ (h _ x hx)
      | some y =>
        rcases qCh_avoid hp hv (some (x.1 + a.2.2.1, some a)) (h _ x hx) with ⟨_, k⟩ | k
        · exact k
        · have := k x hx; have := g y hv; omega
    intro w y hw
    by_cases e : w = a.2.1
    · subst e; exact qCh_step a.2.1 _ x.1 a x.2 up_at ha rfl (by rw [up_ne hne]; exact hx) (Int.le_refl _) hu
    · rw [up_ne e] at hw; exact qCh_upd ha hx hne g hu (h w y hw)
theorem qP_inv' {A : List qA} {p : Nat → Int} (hp : qPot A p) (B : List qA) (hB : ∀ a, a ∈ B → a ∈ A) {σ : qS} (h : qInv A σ) : qInv A (qP B σ) := by
  induction B generalizing σ with
  | nil => exact h
  | cons a B ih => exact ih (fun b hb => hB b (.tail _ hb)) (qR_inv hp h (hB a (.head _)))
theorem qP_sd {S : Nat → Prop} {A : List qA} {σ : qS} (h : qSd S A σ) : qSd S A (qP A σ) := qP_sd' A (fun _ h => h) h
theorem qP_inv {A : List qA} {p : Nat → Int} (hp : qPot A p) {σ : qS} (h : qInv A σ) : qInv A (qP A σ) := qP_inv' hp A (fun _ h => h) h
/-- the least walk -/
theorem q_least (P : Int → Prop) (lo : Int) (hlo : ∀ x, P x → lo ≤ x) (x : Int) (hx : P x) : ∃ m, P m ∧ ∀ y, P y → m ≤ y := by
  have : ∀ n : Nat, ∀ x, P x → (x - lo).toNat = n → ∃ m, P m ∧ ∀ y, P y → m ≤ y := by
    intro n
    induction n using Nat.strongRecOn with
    | _ n ih =>
      intro x hx e
      by_cases h : ∃ y, P y ∧ y < x
      · obtain ⟨y, hy, ly⟩ := h
        have := hlo y hy; have := hlo x hx
        exact ih (y - lo).toNat (by omega) y hy rfl
      · exact ⟨x, hx, fun y hy => by
          by_cases l : x ≤ y
          · exact l
          · exact absurd ⟨y, hy, by omega⟩ h⟩
  exact this _ x hx rfl
theorem qWk_pot {S : Nat → Prop} {A : List qA} {p : Nat → Int} (hp : qPot A p) (K : Int) (hK : ∀ v, S v → p v ≤ K) {v : Nat} {x : Int} (h : qWk S A v x) : p v - K ≤ x := by
  refine qWk_ind (M := fun v x => p v - K ≤ x) (fun v h => ?_) (fun a x ha _ ih => ?_) h
  · have := hK v h; omega
  · have := hp a ha; omega
theorem qFin_grow {S : Nat → Prop} {A : List qA} {p : Nat → Int} (hp : qPot A p) (K : Int) (hK : ∀ v, S v → p v ≤ K) {σ : qS} (h0 : ∀ v, S v → ∃ y, σ v = some y ∧ y.1 ≤ 0)
    {v : Nat} (hv : ¬ qFin S A σ v) : ∃ w, ¬ qFin S A σ w ∧ qFin S A (qP A σ) w := by
  have : ∃ x, qWk S A v x := by
    apply Classical.byContradiction; intro hn
    exact hv (fun x hx => absurd ⟨x, hx⟩ hn)
  obtain ⟨x, hx⟩ := this
  obtain ⟨m, hm, lm⟩ := q_least (qWk S A v) (p v - K) (fun y hy => qWk_pot hp K hK hy) x hx
  clear hx x
  refine qWk_ind (M := fun v m => ¬ qFin S A σ v → (∀ y, qWk S A v y → m ≤ y) → ∃ w, ¬ qFin S A σ w ∧ qFin S A (qP A σ) w) (fun v h hv lm => ?_) (fun a x ha h ih hv lm => ?_) hm hv lm
  · exfalso; apply hv; intro x hx
    obtain ⟨y, hy, ly⟩ := h0 v h
    exact ⟨y, hy, Int.le_trans ly (lm x hx)⟩
  · have hmin : ∀ y, qWk S A a.1 y → x ≤ y := fun y hy => by
      have := lm _ (qWk_cons a ha hy); omega
    by_cases hf : qFin S A σ a.1
    · refine ⟨a.2.1, hv, fun y hy => ?_⟩
      obtain ⟨z, hz, lz⟩ := hf x h
      obtain ⟨t, ht, lt⟩ := qP_hit A σ a ha z hz
      exact ⟨t, ht, by have := lm y hy; omega⟩
    · exact ih hf hmin
theorem qFin_mono {S : Nat → Prop} {A : List qA} {σ τ : qS} (h : qLe τ σ) {v : Nat} (hv : qFin S A σ v) : qFin S A τ v := fun x hx =>
  let ⟨y, hy, ly⟩ := hv x hx
  let ⟨z, hz, lz⟩ := h v y hy
  ⟨z, hz, Int.le_trans lz ly⟩
noncomputable def qCt (P : Nat → Prop) : Nat → Nat
  | 0 => 0
  | n + 1 => qCt P n + @ite Nat (P n) (Classical.propDecidable (P n)) 1 0
theorem qCt_yes {P : Nat → Prop} {n : Nat} (h : P n) : qCt P (n + 1) = qCt P n + 1 := by rw [qCt, if_pos h]
theorem qCt_no {P : Nat → Prop} {n : Nat} (h : ¬ P n) : qCt P (n + 1) = qCt P n := by rw [qCt, if_neg h]; rfl
theorem qCt_le (P : Nat → Prop) (n : Nat) : qCt P n ≤ n := by
  induction n with
  | zero => exact Nat.le_refl _
  | succ n ih =>
    by_cases a : P n
    · rw [qCt_yes a]; omega
    · rw [qCt_no a]; omega
theorem qCt_mono {P Q : Nat → Prop} (h : ∀ v, P v → Q v) (n : Nat) : qCt P n ≤ qCt Q n := by
  induction n with
  | zero => exact Nat.le_refl _
  | succ n ih =>
    by_cases a : P n
    · rw [qCt_yes a, qCt_yes (h n a)]; omega
    · rw [qCt_no a]
      by_cases b : Q n
      · rw [qCt_yes b]; omega
      · rw [qCt_no b]; omega
theorem qCt_lt {P Q : Nat → Prop} (h : ∀ v, P v → Q v) (n w : Nat) (hw : w < n) (hP : ¬ P w) (hQ : Q w) : qCt P n < qCt Q n := by
  induction n with
  | zero => omega
  | succ n ih =>
    by_cases e : w = n
    · subst e; rw [qCt_no hP, qCt_yes hQ]; have := qCt_mono h w; omega
    · have := ih (by omega)
      by_cases a : P n
      · rw [qCt_yes a, qCt_yes (h n a)]; omega
      · rw [qCt_no a]
        by_cases b : Q n
        · rw [qCt_yes b]; omega
        · rw [qCt_no b]; omega
theorem qCt_all {P : Nat → Prop} (n : Nat) (h : n ≤ qCt P n) : ∀ v, v < n → P v := by
  induction n with
  | zero => intro v hv; omega
  | succ n ih =>
    intro v hv
    have hc := qCt_le P n
    by_cases a : P n
    · rw [qCt_yes a] at h
      by_cases e : v = n
      · subst e; exact a
      · exact ih (by omega) v (by omega)
    · rw [qCt_no a] at h; omega
theorem qN_le (A : List qA) (n : Nat) (σ : qS) : qLe (qN A n σ) σ := by
  induction n generalizing σ with
  | zero => exact qLe_refl σ
  | succ n ih => exact qLe_tr (qP_le A σ) (ih _)
theorem qN_sd {S : Nat → Prop} {A : List qA} (n : Nat) {σ : qS} (h : qSd S A σ) : qSd S A (qN A n σ) := by
  induction n generalizing σ with
  | zero => exact h
  | succ n ih => exact ih (qP_sd h)
theorem qN_inv {A : List qA} {p : Nat → Int} (hp : qPot A p) (n : Nat) {σ : qS} (h : qInv A σ) : qInv A (qN A n σ) := by
  induction n generalizing σ with
  | zero => exact h
  | succ n ih => exact ih (qP_inv hp h)
theorem qWk_lt {S : Nat → Prop} {A : List qA} (hS : ∀ v, S v → v < 16) (hA : ∀ a, a ∈ A → a.2.1 < 16) {v : Nat} {x : Int} (h : qWk S A v x) : v < 16 :=
  qWk_ind (M := fun v _ => v < 16) hS (fun a _ ha _ _ => hA a ha) h
theorem qN_ct {S : Nat → Prop} {A : List qA} {p : Nat → Int} (hp : qPot A p) (K : Int) (hK : ∀ v, S v → p v ≤ K) (n : Nat) (σ : qS) (h0 : ∀ v, S v → ∃ y, σ v = some y ∧ y.1 ≤ 0)
    (hS : ∀ v, S v → v < 16) (hA : ∀ a, a ∈ A → a.2.1 < 16) (k : Nat) (hk : k ≤ qCt (qFin S A σ) 16) :
    k + n ≤ qCt (qFin S A (qN A n σ)) 16 ∨ ∀ v, qFin S A (qN A n σ) v := by
  induction n generalizing σ k with
  | zero => left; exact hk
  | succ n ih =>
    by_cases hv : ∃ v, ¬ qFin S A σ v
    · obtain ⟨v, hv⟩ := hv
      obtain ⟨w, hw, hw'⟩ := qFin_grow hp K hK h0 hv
      have hw16 : w < 16 := by
        apply Classical.byContradiction; intro hn
        apply hw; intro x hx
        exact absurd (qWk_lt hS hA hx) hn
      have hlt := qCt_lt (P := qFin S A σ) (Q := qFin S A (qP A σ)) (fun v h => qFin_mono (qP_le A σ) h) 16 w hw16 hw hw'
      have := ih (qP A σ) (fun v h => by
        obtain ⟨y, hy, ly⟩ := h0 v h
        obtain ⟨z, hz, lz⟩ := qP_le A σ v y hy
        exact ⟨z, hz, Int.le_trans lz ly⟩) (k + 1) (by omega)
      rcases this with h | h
      · left; have : k + (n + 1) = k + 1 + n := by omega
        rw [this]; exact h
      · right; exact h
    · right; intro v
      have : qFin S A σ v := Classical.byContradiction fun h => hv ⟨v, h⟩
      exact qFin_mono (qN_le A (n + 1) σ) this
theorem qN_fin {S : Nat → Prop} {A : List qA} {p : Nat → Int} (hp : qPot A p) (K : Int) (hK : ∀ v, S v → p v ≤ K) (σ : qS) (h0 : ∀ v, S v → ∃ y, σ v = some y ∧ y.1 ≤ 0)
    (hS : ∀ v, S v → v < 16) (hA : ∀ a, a ∈ A → a.2.1 < 16) : ∀ v, qFin S A (qN A 16 σ) v := by
  rcases qN_ct hp K hK 16 σ h0 hS hA 0 (Nat.zero_le _) with h | h
  · intro v
    by_cases hv : v < 16
    · exact qCt_all 16 (by omega) v hv
    · intro x hx; exact absurd (qWk_lt hS hA hx) hv
  · exact h
theorem qFin_cl {S : Nat → Prop} {A : List qA} {σ : qS} (hs : qSd S A σ) (hf : ∀ v, qFin S A σ v) : qCl A σ := fun a ha x hx =>
  hf a.2.1 _ (qWk_cons a ha (hs _ x hx))
theorem qCl_fin {S : Nat → Prop} {A : List qA} {σ : qS} (h0 : ∀ v, S v → ∃ y, σ v = some y ∧ y.1 ≤ 0) (hc : qCl A σ) : ∀ v, qFin S A σ v := by
  intro v x hx
  refine qWk_ind (M := fun v x => ∃ y, σ v = some y ∧ y.1 ≤ x) h0 (fun a x ha _ ih => ?_) hx
  obtain ⟨y, hy, ly⟩ := ih
  obtain ⟨z, hz, lz⟩ := hc a ha y hy
  exact ⟨z, hz, by omega⟩
/-- a closed state does not change any more -/
theorem qCl_fix {A : List qA} {σ : qS} (B : List qA) (hB : ∀ a, a ∈ B → a ∈ A) (hc : qCl A σ) : qP B σ = σ := by
  induction B with
  | nil => rfl
  | cons a B ih =>
    have : qR σ a = σ := by
      rcases qR_cases σ a with ⟨e, _⟩ | ⟨x, hx, e, g⟩
      · exact e
      · obtain ⟨y, hy, ly⟩ := hc a (hB a (.head _)) x hx
        have := g y hy; omega
    show qP B (qR σ a) = σ
    rw [this]; exact ih (fun b hb => hB b (.tail _ hb))
theorem qN_fix {A : List qA} {σ : qS} (hc : qCl A σ) (n : Nat) : qN A n σ = σ := by
  induction n with
  | zero => rfl
  | succ n ih => show qN A n (qP A σ) = σ; rw [qCl_fix A (fun _ h => h) hc]; exact ih
theorem qP_fix_cl {A : List qA} {σ : qS} (h : qP A σ = σ) : qCl A σ := fun a ha x hx => by
  have := qP_hit A σ a ha x hx; rw [h] at this; exact this
/-- arcs of the chains are tight at the end -/
theorem qTight {A : List qA} {σ : qS} (hi : qInv A σ) (hc : qCl A σ) {v : Nat} {x : Int} {a : qA} (h : σ v = some (x, some a)) : a ∈ A ∧ a.2.1 = v ∧ ∃ b, σ a.1 = some (x - a.2.2.1, b) := by
  obtain ⟨n, hn⟩ := hi v _ h
  cases n with
  | zero => have hv : σ v = some (0, none) := hn; rw [h] at hv; injection hv with hv; injection hv with _ hv; cases hv
  | succ n =>
    obtain ⟨x', y, a', b, hv, ha, hav, hu, hx, hch⟩ := hn
    rw [h] at hv; injection hv with hv; injection hv with h1 h2; injection h2 with h2; subst h1; subst h2
    obtain ⟨z, hz, lz⟩ := hc a ha _ hu
    rw [hav, h] at hz; injection hz with hz; subst hz
    refine ⟨ha, hav, b, ?_⟩
    rw [hu]; congr 1; congr 1; simp only at *; omega
theorem qMin {S : Nat → Prop} {A : List qA} {σ τ : qS} (hs : qSd S A σ) (hf : ∀ v, qFin S A σ v) (ht : qSd S A τ) (hg : ∀ v, qFin S A τ v) (v : Nat) : (σ v).map Prod.fst = (τ v).map Prod.fst := by
  cases h : σ v with
  | none =>
    cases g : τ v with
    | none => rfl
    | some y => obtain ⟨z, hz, _⟩ := hf v _ (ht v y g); rw [h] at hz; cases hz
  | some x =>
    obtain ⟨z, hz, lz⟩ := hg v _ (hs v x h)
    obtain ⟨t, ht', lt⟩ := hf v _ (ht v z hz)
    rw [h] at ht'; injection ht' with ht'; subst ht'
    rw [hz]; show some x.1 = some z.1; congr 1; omega
