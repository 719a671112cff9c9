theorem gSur_nX (Fr To : Nat → Nat) (v n : Nat) : gSur Fr To v n = nX Fr To (fun _ => 1) v n := by
  induction n with
  | zero => rfl
  | succ n ih => rw [gSur, nX, ih]
theorem sX_dl (t : Nat) (a : Int) (n : Nat) : sX (fun v => if t = v then a else 0) n = if t < n then a else 0 := by
  induction n with
  | zero => rfl
  | succ n ih =>
    rw [sX, ih]
    by_cases q : t = n
    · rw [if_pos q, if_neg (show ¬ t < n by omega), if_pos (show t < n + 1 by omega)]; omega
    · rw [if_neg q]
      by_cases l : t < n
      · rw [if_pos l, if_pos (show t < n + 1 by omega)]; omega
      · rw [if_neg l, if_neg (show ¬ t < n + 1 by omega)]; omega
theorem sX_add (f g : Nat → Int) (n : Nat) : sX (fun v => f v + g v) n = sX f n + sX g n := by
  induction n with
  | zero => rfl
  | succ n ih => rw [sX, sX, sX, ih]; omega
theorem sX_sub (f g : Nat → Int) (n : Nat) : sX (fun v => f v - g v) n = sX f n - sX g n := by
  induction n with
  | zero => rfl
  | succ n ih => rw [sX, sX, sX, ih]; omega
theorem sX_ext {f g : Nat → Int} (n : Nat) (h : ∀ v, v < n → f v = g v) : sX f n = sX g n := by
  induction n with
  | zero => rfl
  | succ n ih => rw [sX, sX, ih (fun v hv => h v (by omega)), h n (by omega)]
theorem nX_all {Fr To : Nat → Nat} {nv : Nat} (X : Nat → Int) (me : Nat) (hF : ∀ j, j < me → Fr j < nv) (hT : ∀ j, j < me → To j < nv) : sX (fun v => nX Fr To X v me) nv = 0 := by
  induction me with
  | zero =>
    have : ∀ n, sX (fun v => nX Fr To X v 0) n = 0 := fun n => by
      induction n with
      | zero => rfl
      | succ n ih => rw [sX, ih]; rfl
    exact this nv
  | succ me ih =>
    have e : (fun v => nX Fr To X v (me + 1)) = fun v => nX Fr To X v me + ((if To me = v then X me else 0) - (if Fr me = v then X me else 0)) := rfl
    rw [e, sX_add, ih (fun j hj => hF j (by omega)) (fun j hj => hT j (by omega)), sX_sub, sX_dl, sX_dl, if_pos (hT me (by omega)), if_pos (hF me (by omega))]; omega
theorem nX_none {Fr To : Nat → Nat} {me : Nat} {v : Nat} (X : Nat → Int) (h : mHas Fr To v me ≠ true) : nX Fr To X v me = 0 := by
  have hz : ∀ n, n ≤ me → nX Fr To X v n = 0 := fun n => by
    induction n with
    | zero => intro _; rfl
    | succ n ih =>
      intro hn
      rw [nX, ih (by omega), if_neg (fun e => h ((mHas_iff me).mpr ⟨n, by omega, .inr e⟩)), if_neg (fun e => h ((mHas_iff me).mpr ⟨n, by omega, .inl e⟩))]; rfl
  exact hz me (Nat.le_refl _)
/-- how much is to be sent still -/
def tpS (Su : Nat → Int) : Nat → Int
  | 0 => 0
  | k + 1 => tpS Su k + (if 0 < Su k then Su k else 0)
theorem tpS_up (Su : Nat → Int) (e : Nat) (x : Int) (n : Nat) : tpS (va_up Su e x) n = tpS Su n + (if e < n then (if 0 < x then x else 0) - (if 0 < Su e then Su e else 0) else 0) := by
  induction n with
  | zero => rfl
  | succ n ih =>
    rw [tpS, tpS, ih]
    by_cases q : n = e
    · subst q; rw [up_at, if_neg (show ¬ n < n by omega), if_pos (show n < n + 1 by omega)]; omega
    · rw [up_ne q]
      by_cases l : e < n
      · rw [if_pos l, if_pos (show e < n + 1 by omega)]; omega
      · rw [if_neg l, if_neg (show ¬ e < n + 1 by omega)]; omega
theorem tpS_0 {Su : Nat → Int} (n : Nat) : 0 ≤ tpS Su n ∧ (tpS Su n ≤ 0 → ∀ v, v < n → Su v ≤ 0) := by
  induction n with
  | zero => exact ⟨Int.le_refl _, fun _ v hv => by omega⟩
  | succ n ih =>
    rw [tpS]
    by_cases q : 0 < Su n
    · rw [if_pos q]; exact ⟨by omega, fun z => by omega⟩
    · rw [if_neg q]
      refine ⟨by omega, fun z v hv => ?_⟩
      by_cases e : v = n
      · subst e; omega
      · exact ih.2 (by omega) v (by omega)
theorem tpS_ext {f g : Nat → Int} (n : Nat) (h : ∀ v, v < n → f v = g v) : tpS f n = tpS g n := by
  induction n with
  | zero => rfl
  | succ n ih => rw [tpS, tpS, ih (fun v hv => h v (by omega)), h n (by omega)]
theorem tpS_one {f g : Nat → Int} {t : Nat} (h : ∀ v, f v ≤ g v + dl t v) (n : Nat) : tpS f n ≤ tpS g n + (if t < n then 1 else 0) := by
  induction n with
  | zero => exact Int.le_refl _
  | succ n ih =>
    rw [tpS, tpS]
    have := h n; unfold dl at this
    by_cases q : t = n
    · rw [if_pos q] at this
      rw [if_neg (show ¬ t < n by omega)] at ih; rw [if_pos (show t < n + 1 by omega)]
      by_cases a : 0 < f n
      · rw [if_pos a]; by_cases b : 0 < g n
        · rw [if_pos b]; omega
        · rw [if_neg b]; omega
      · rw [if_neg a]; by_cases b : 0 < g n
        · rw [if_pos b]; omega
        · rw [if_neg b]; omega
    · rw [if_neg q] at this
      have e : (if t < n + 1 then (1 : Int) else 0) = if t < n then 1 else 0 := by
        by_cases l : t < n
        · rw [if_pos l, if_pos (by omega)]
        · rw [if_neg l, if_neg (by omega)]
      rw [e]
      by_cases a : 0 < f n
      · rw [if_pos a]; by_cases b : 0 < g n
        · rw [if_pos b]; omega
        · omega
      · rw [if_neg a]; by_cases b : 0 < g n
        · rw [if_pos b]; omega
        · rw [if_neg b]; omega
theorem tpS_sur (Fr To : Nat → Nat) (me n : Nat) : tpS (fun v => gSur Fr To v me) n ≤ me := by
  induction me with
  | zero =>
    have : ∀ n, tpS (fun v => gSur Fr To v 0) n = 0 := fun n => by
      induction n with
      | zero => rfl
      | succ n ih => rw [tpS, ih]; rfl
    rw [this]; exact Int.le_refl _
  | succ me ih =>
    have := tpS_one (f := fun v => gSur Fr To v (me + 1)) (g := fun v => gSur Fr To v me) (t := To me) (fun v => by
      show gSur Fr To v (me + 1) ≤ gSur Fr To v me + dl (To me) v
      rw [gSur]; unfold dl; split <;> split <;> omega) n
    by_cases l : To me < n
    · rw [if_pos l] at this; omega
    · rw [if_neg l] at this; omega
theorem all_zero {t : Nat → Int} (n : Nat) (h : sX t n = 0) (g : (∀ v, v < n → t v ≤ 0) ∨ (∀ v, v < n → 0 ≤ t v)) : ∀ v, v < n → t v = 0 := by
  intro v hv
  apply Classical.byContradiction; intro q
  rcases g with g | g
  · have h' : sX (fun k => 0 - t k) n = 0 := by
      rw [sX_sub, h]
      have : ∀ n, sX (fun _ => 0) n = 0 := fun n => by
        induction n with
        | zero => rfl
        | succ n ih => rw [sX, ih]; rfl
      rw [this]; rfl
    obtain ⟨k, hk, hn⟩ := sX_neg n h' hv (show 0 < 0 - t v by have := g v hv; omega)
    have hn : 0 - t k < 0 := hn
    have := g k hk; omega
  · obtain ⟨k, hk, hn⟩ := sX_neg n h hv (show 0 < t v by have := g v hv; omega)
    have := g k hk; omega
theorem bLw_q {Su : Nat → Int} {sg : Int} {nv : Nat} (k : Nat) (hk : k ≤ nv) : (0 ≤ bLw Su sg nv k → (bLw Su sg nv k).toNat < nv ∧ 0 < Su (bLw Su sg nv k).toNat * sg) ∧ (bLw Su sg nv k < 0 → ∀ v, nv - k ≤ v → v < nv → ¬ 0 < Su v * sg) := by
  induction k with
  | zero => exact ⟨fun h => absurd h (show ¬ (0 : Int) ≤ -1 by decide), fun _ v a b => by omega⟩
  | succ k ih =>
    rw [bLw]
    by_cases c : 0 < Su (nv - (k + 1)) * sg
    · rw [if_pos c]
      exact ⟨fun _ => ⟨by show nv - (k + 1) < nv; omega, c⟩, fun h => by omega⟩
    · rw [if_neg c]
      obtain ⟨i1, i2⟩ := ih (by omega)
      refine ⟨i1, fun h v a b => ?_⟩
      by_cases e : v = nv - (k + 1)
      · subst e; exact c
      · exact i2 h v (by omega) b
/-- what a state of sending keeps -/
def fI (c : Nat → Int) (Fr To : Nat → Nat) (nv me : Nat) (X Su : Nat → Int) : Prop := (∀ e, e < me → 0 ≤ X e) ∧ (∀ v, v < nv → Su v = gSur Fr To v me + nX Fr To X v me) ∧ ∃ p, qPot (fArcs c Fr To X me) p
theorem fI_sum {c : Nat → Int} {Fr To : Nat → Nat} {nv me : Nat} (hFn : ∀ j, j < me → Fr j < nv) (hTn : ∀ j, j < me → To j < nv) {X Su : Nat → Int} (h : fI c Fr To nv me X Su) : sX Su nv = 0 := by
  rw [sX_ext (g := fun v => gSur Fr To v me + nX Fr To X v me) nv h.2.1, sX_add, nX_all X me hFn hTn]
  rw [sX_ext (g := fun v => nX Fr To (fun _ => 1) v me) nv (fun v _ => gSur_nX Fr To v me), nX_all _ me hFn hTn]; rfl
theorem fI_has {c : Nat → Int} {Fr To : Nat → Nat} {nv me : Nat} {X Su : Nat → Int} (h : fI c Fr To nv me X Su) {v : Nat} (hv : v < nv) (h0 : Su v ≠ 0) : mHas Fr To v me = true := by
  apply Classical.byContradiction; intro q
  apply h0; rw [h.2.1 v hv, gSur_nX, nX_none _ q, nX_none _ q]; rfl
theorem rN_qWk {c : Nat → Int} {Fr To : Nat → Nat} {X : Nat → Int} {me : Nat} {S : Nat → Prop} {s : Nat} (hs : S s) {u : Nat} (h : rN (gEd true false Fr To (fun _ => 1) me) s u) : ∃ x, qWk S (fArcs c Fr To X me) u x := by
  refine rN_ind (M := fun u => ∃ x, qWk S (fArcs c Fr To X me) u x) ⟨0, qWk_nil s hs⟩ (fun w u _ ih e => ?_) h
  obtain ⟨x, hx⟩ := ih
  obtain ⟨k, hk, _, ⟨_, e1, e2⟩ | ⟨hg, _⟩⟩ := e
  · subst e1; subst e2
    exact ⟨_, qWk_cons (Fr k, To k, c k, 2 * k) (fArcs_mem.mpr ⟨k, hk, .inl rfl⟩) hx⟩
  · cases hg
/-- one sending along a least chain -/
theorem send_q {c : Nat → Int} {Fr To : Nat → Nat} {nv me : Nat} {X Su : Nat → Int} (h : fI c Fr To nv me X Su) {τ : qS} (hi : qInv (fArcs c Fr To X me) τ) (hc : qCl (fArcs c Fr To X me) τ) (hr : ∀ e, e < me → (∃ x, τ (Fr e) = some x) ∧ ∃ x, τ (To e) = some x) (hτ : ∀ v x, τ v = some x → v < 16)
    {n t s : Nat} (hch : qChn (fArcs c Fr To X me) τ n t) (hs : qCv τ t n = s) (hst : s ≠ t) :
    fI c Fr To nv me (cX τ n t X) (va_up (va_up Su s (Su s - 1)) t (Su t + 1)) ∧ sX (cX τ n t X) me ≤ sX X me + 15 ∧ (∀ e, me ≤ e → cX τ n t X e = X e) := by
  have hn := qChn_lt hτ hch
  refine ⟨⟨fun e he => cX_pos n t hch e (h.1 e he), fun v hv => ?_, qPt τ, push_pot hi hc hr h.1 hch⟩, ?_, (cX_net n t X hch 0).2.2⟩
  · have := (cX_net n t X hch v).1
    rw [this, hs]
    have := h.2.1 v hv
    unfold dl
    by_cases q1 : v = t
    · subst q1; rw [up_at, if_pos rfl, if_neg hst]; omega
    · rw [up_ne q1, if_neg (fun q => q1 q.symm)]
      by_cases q2 : v = s
      · subst q2; rw [up_at, if_pos rfl]; omega
      · rw [up_ne q2, if_neg (fun q => q2 q.symm)]; omega
  · have := (cX_net n t X hch 0).2.1; omega
