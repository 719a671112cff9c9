def gmZ (sg : Nat → Int) (f : Nat → Nat) : Nat → Nat → Int
  | 0 => fun _ => 0
  | k + 1 => va_up (gmZ sg f k) (f k) (gmZ sg f k (f k) + sg (f k))
def smZ (c : Nat → Int) (sg : Nat → Int) (f : Nat → Nat) : Nat → Int
  | 0 => 0
  | k + 1 => smZ c sg f k + sg (f k) * c (f k)
theorem gmZ_cd {b K : Int} {We : Nat → Nat} {me : Nat} (hme : me ≤ 40) {sg : Nat → Int} {f : Nat → Nat} (hf : ∀ k, f k < me) (n : Nat) : cdG b K We me (gmZ sg f n) = smZ (cdE b K We) sg f n := by
  induction n with
  | zero =>
    show hr b (K * sW We (fun _ => 0) me) (fun _ => 0) 40 = 0
    have : ∀ m, sW We (fun _ => 0) m = 0 := fun m => by
      induction m with
      | zero => rfl
      | succ m ih => rw [sW, ih]; omega
    rw [this, Int.mul_zero, hr_0]
  | succ n ih => rw [gmZ, cdG_up b K We hme (hf n), ih]; rfl
theorem gmZ_0 {sg : Nat → Int} {f : Nat → Nat} (n e : Nat) (h : ∀ k, k < n → f k ≠ e) : gmZ sg f n e = 0 := by
  induction n with
  | zero => rfl
  | succ n ih => rw [gmZ, up_ne (fun q => h n (by omega) q.symm)]; exact ih (fun k hk => h k (by omega))
theorem gmZ_1 {sg : Nat → Int} (hs : ∀ e, sg e = 1 ∨ sg e = -1) {f : Nat → Nat} (n : Nat) (hd : ∀ a b, a < b → b < n → f a ≠ f b) : (∀ e, -1 ≤ gmZ sg f n e ∧ gmZ sg f n e ≤ 1) ∧ ∀ k, k < n → gmZ sg f n (f k) = sg (f k) := by
  induction n with
  | zero => exact ⟨fun e => by show (-1 : Int) ≤ 0 ∧ (0 : Int) ≤ 1; decide, fun k hk => by omega⟩
  | succ n ih =>
    obtain ⟨i1, i2⟩ := ih (fun a b hab hb => hd a b hab (by omega))
    have h0 : gmZ sg f n (f n) = 0 := gmZ_0 n (f n) (fun k hk => hd k n hk (by omega))
    rw [gmZ]
    refine ⟨fun e => ?_, fun k hk => ?_⟩
    · by_cases q : e = f n
      · subst q; rw [up_at, h0]; rcases hs (f n) with z | z <;> omega
      · rw [up_ne q]; exact i1 e
    · by_cases q : k = n
      · subst q; rw [up_at, h0]; omega
      · rw [up_ne (hd k n (by omega) (by omega))]; exact i2 k (by omega)
/-- there is one flow only that no round trip betters, whichever way the prices are coded -/
theorem flow_uni {Fr To We : Nat → Nat} {me : Nat} (hme : me ≤ 40) (hF : ∀ j, Fr j < 16) (hT : ∀ j, To j < 16) {x y : Nat → Int} (hx : ∀ e, e < me → 0 ≤ x e) (hy : ∀ e, e < me → 0 ≤ y e) (hb : ∀ u, nX Fr To x u me = nX Fr To y u me)
    {B : Int} (hB : 2 ≤ B) {p q : Nat → Int} (hp : qPot (fArcs (cdE 2 1048576 We) Fr To x me) p) (hq : qPot (fArcs (cdE B 1 We) Fr To y me) q) : ∀ e, e < me → x e = y e := by
  intro e0 he0
  apply Classical.byContradiction; intro hne
  obtain ⟨f, hf, hn⟩ := seqZ hb he0 (show y e0 - x e0 ≠ 0 by omega)
  have h16 : ∀ k, tlZ Fr To (fun k => y k - x k) (f k) < 16 := fun k => by unfold tlZ; split; exact hF _; exact hT _
  obtain ⟨i, j, hij, ev, hd⟩ := first_rep h16
  -- signs
  have hsg : ∀ e, (fun e => if 0 < y e - x e then (1 : Int) else -1) e = 1 ∨ (fun e => if 0 < y e - x e then (1 : Int) else -1) e = -1 := fun e => by
    show (if 0 < y e - x e then (1 : Int) else -1) = 1 ∨ (if 0 < y e - x e then (1 : Int) else -1) = -1
    split <;> simp
  have hpa : ∀ k, p (tlZ Fr To (fun k => y k - x k) (f (k + 1))) ≤ p (tlZ Fr To (fun k => y k - x k) (f k)) + (fun e => if 0 < y e - x e then (1 : Int) else -1) (f k) * cdE 2 1048576 We (f k) := fun k => by
    rw [hn k]
    obtain ⟨h1, h2⟩ := hf k
    have := hx _ h1; have := hy _ h1
    unfold tlZ hdZ
    by_cases z : 0 < y (f k) - x (f k)
    · rw [if_pos z, if_pos z]
      show _ ≤ _ + (if 0 < y (f k) - x (f k) then (1 : Int) else -1) * _
      rw [if_pos z]
      have := hp _ (fArcs_mem.mpr ⟨f k, h1, .inl rfl⟩)
      dsimp only at this; omega
    · rw [if_neg z, if_neg z]
      show _ ≤ _ + (if 0 < y (f k) - x (f k) then (1 : Int) else -1) * _
      rw [if_neg z]
      have := hp _ (fArcs_mem.mpr ⟨f k, h1, .inr ⟨by omega, rfl⟩⟩)
      dsimp only at this; omega
  have hqa : ∀ k, q (tlZ Fr To (fun k => y k - x k) (f k)) + (fun e => if 0 < y e - x e then (1 : Int) else -1) (f k) * cdE B 1 We (f k) ≤ q (tlZ Fr To (fun k => y k - x k) (f (k + 1))) := fun k => by
    rw [hn k]
    obtain ⟨h1, h2⟩ := hf k
    have := hx _ h1; have := hy _ h1
    unfold tlZ hdZ
    by_cases z : 0 < y (f k) - x (f k)
    · rw [if_pos z, if_pos z]
      show _ + (if 0 < y (f k) - x (f k) then (1 : Int) else -1) * _ ≤ _
      rw [if_pos z]
      have := hq _ (fArcs_mem.mpr ⟨f k, h1, .inr ⟨by omega, rfl⟩⟩)
      dsimp only at this; omega
    · rw [if_neg z, if_neg z]
      show _ + (if 0 < y (f k) - x (f k) then (1 : Int) else -1) * _ ≤ _
      rw [if_neg z]
      have := hq _ (fArcs_mem.mpr ⟨f k, h1, .inl rfl⟩)
      dsimp only at this; omega
  generalize hsgd : (fun e => if 0 < y e - x e then (1 : Int) else -1) = sg at hsg hpa hqa
  have s1 : ∀ n, p (tlZ Fr To (fun k => y k - x k) (f (i + n))) ≤ p (tlZ Fr To (fun k => y k - x k) (f i)) + smZ (cdE 2 1048576 We) sg (fun k => f (i + k)) n := fun n => by
    induction n with
    | zero => show _ ≤ _ + (0 : Int); rw [Nat.add_zero]; omega
    | succ n ih => have := hpa (i + n); rw [smZ]; rw [show i + (n + 1) = i + n + 1 from rfl]; omega
  have s2 : ∀ n, q (tlZ Fr To (fun k => y k - x k) (f i)) + smZ (cdE B 1 We) sg (fun k => f (i + k)) n ≤ q (tlZ Fr To (fun k => y k - x k) (f (i + n))) := fun n => by
    induction n with
    | zero => show _ + (0 : Int) ≤ _; rw [Nat.add_zero]; omega
    | succ n ih => have := hqa (i + n); rw [smZ]; rw [show i + (n + 1) = i + n + 1 from rfl]; omega
  have t1 := s1 (j - i); have t2 := s2 (j - i)
  rw [show i + (j - i) = j by omega, ev] at t1
  rw [show i + (j - i) = j by omega, ← ev] at t2
  have c1 := gmZ_cd (b := 2) (K := 1048576) (We := We) hme (sg := sg) (f := fun k => f (i + k)) (fun k => (hf _).1) (j - i)
  have c2 := gmZ_cd (b := B) (K := 1) (We := We) hme (sg := sg) (f := fun k => f (i + k)) (fun k => (hf _).1) (j - i)
  have hdis : ∀ a b, a < b → b < j - i → (fun k => f (i + k)) a ≠ (fun k => f (i + k)) b := fun a b hab hb' z => by
    have z : f (i + a) = f (i + b) := z
    exact hd (i + a) (i + b) (by omega) (by omega) (by rw [z])
  obtain ⟨g1, g2⟩ := gmZ_1 hsg (j - i) hdis
  obtain ⟨r1, r2, r3⟩ := hr_sgn (b := 2) (b' := B) (s := 1048576 * sW We (gmZ sg (fun k => f (i + k)) (j - i)) me) (s' := 1 * sW We (gmZ sg (fun k => f (i + k)) (j - i)) me) (by decide) hB (by omega) (by omega) g1 40
  have c1 : hr 2 (1048576 * sW We (gmZ sg (fun k => f (i + k)) (j - i)) me) (gmZ sg (fun k => f (i + k)) (j - i)) 40 = _ := c1
  have c2 : hr B (1 * sW We (gmZ sg (fun k => f (i + k)) (j - i)) me) (gmZ sg (fun k => f (i + k)) (j - i)) 40 = _ := c2
  rw [c1, c2] at r1 r2; rw [c1] at r3
  have hz : smZ (cdE 2 1048576 We) sg (fun k => f (i + k)) (j - i) = 0 := by
    apply Classical.byContradiction; intro w
    have := r1.mp (by omega); omega
  have h1 := r3 hz (f (i + 0)) (by have := (hf (i + 0)).1; omega)
  have h2 := g2 0 (by omega)
  have h2 : gmZ sg (fun k => f (i + k)) (j - i) (f (i + 0)) = sg (f (i + 0)) := h2
  rw [h1] at h2
  rcases hsg (f (i + 0)) with w | w <;> omega
