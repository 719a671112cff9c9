/-- flows along the edges -/
def fArc (c : Nat → Int) (Fr To : Nat → Nat) (X : Nat → Int) (i : Nat) : List qA :=
  if 0 < X i then [(Fr i, To i, c i, 2 * i), (To i, Fr i, -c i, 2 * i + 1)] else [(Fr i, To i, c i, 2 * i)]
def fArcs (c : Nat → Int) (Fr To : Nat → Nat) (X : Nat → Int) : Nat → List qA
  | 0 => []
  | i + 1 => fArcs c Fr To X i ++ fArc c Fr To X i
theorem fArcs_mem {c : Nat → Int} {Fr To : Nat → Nat} {X : Nat → Int} {me : Nat} {a : qA} : a ∈ fArcs c Fr To X me ↔ ∃ i, i < me ∧ (a = (Fr i, To i, c i, 2 * i) ∨ (0 < X i ∧ a = (To i, Fr i, -c i, 2 * i + 1))) := by
  have h1 : ∀ i, a ∈ fArc c Fr To X i ↔ (a = (Fr i, To i, c i, 2 * i) ∨ (0 < X i ∧ a = (To i, Fr i, -c i, 2 * i + 1))) := fun i => by
    unfold fArc
    by_cases h : 0 < X i
    · rw [if_pos h, List.mem_cons, List.mem_singleton]
      exact ⟨fun q => q.elim .inl (fun q => .inr ⟨h, q⟩), fun q => q.elim .inl (fun q => .inr q.2)⟩
    · rw [if_neg h, List.mem_singleton]
      exact ⟨.inl, fun q => q.elim id (fun q => absurd q.1 h)⟩
  induction me with
  | zero => exact ⟨fun h => (by cases h), fun ⟨i, hi, _⟩ => by omega⟩
  | succ n ih =>
    rw [fArcs, List.mem_append]
    constructor
    · rintro (h | h)
      · obtain ⟨i, hi, h⟩ := ih.mp h; exact ⟨i, by omega, h⟩
      · exact ⟨n, by omega, (h1 n).mp h⟩
    · rintro ⟨i, hi, h⟩
      by_cases e : i = n
      · subst e; exact .inr ((h1 i).mpr h)
      · exact .inl (ih.mpr ⟨i, by omega, h⟩)
/-- chains have one length, and pass a vertex once -/
theorem qChn_uni {A : List qA} {τ : qS} {n m v : Nat} (h : qChn A τ n v) (g : qChn A τ m v) : n = m := by
  induction n generalizing m v with
  | zero =>
    cases m with
    | zero => rfl
    | succ m =>
      obtain ⟨x, y, a, b, e, _⟩ := g
      have h : τ v = some (0, none) := h
      rw [h] at e; injection e with e; injection e with _ e; cases e
  | succ n ih =>
    obtain ⟨x, y, a, b, e, _, _, _, _, hc⟩ := h
    cases m with
    | zero =>
      have g : τ v = some (0, none) := g
      rw [g] at e; injection e with e; injection e with _ e; cases e
    | succ m =>
      obtain ⟨x', y', a', b', e', _, _, _, _, hc'⟩ := g
      rw [e] at e'; injection e' with e'; injection e' with _ e'; injection e' with e'; subst e'
      rw [ih hc hc']
def qPar (τ : qS) (v : Nat) : Nat := match τ v with
  | some (_, some a) => a.1
  | _ => v
theorem qPar_eq {τ : qS} {v : Nat} {x : Int} {a : qA} (h : τ v = some (x, some a)) : qPar τ v = a.1 := by unfold qPar; rw [h]
def qCv (τ : qS) (v : Nat) : Nat → Nat
  | 0 => v
  | i + 1 => qCv τ (qPar τ v) i
theorem qCv_ch {A : List qA} {τ : qS} {n v : Nat} (h : qChn A τ n v) (i : Nat) (hi : i ≤ n) : qChn A τ (n - i) (qCv τ v i) := by
  induction i generalizing n v with
  | zero => exact h
  | succ i ih =>
    cases n with
    | zero => omega
    | succ n =>
      obtain ⟨x, y, a, b, e, _, _, _, _, hc⟩ := h
      rw [qCv, qPar_eq e, show n + 1 - (i + 1) = n - i by omega]
      exact ih hc (by omega)
theorem qChn_lt {A : List qA} {τ : qS} (hτ : ∀ v x, τ v = some x → v < 16) {n v : Nat} (h : qChn A τ n v) : n ≤ 15 := by
  have hs : ∀ {m u}, qChn A τ m u → u < 16 := fun {m u} g => by
    cases m with
    | zero => exact hτ u _ g
    | succ m => obtain ⟨x, y, a, b, e, _⟩ := g; exact hτ u _ e
  have := pigeon (List.range 16) (n + 1) (qCv τ v) (fun i hi => List.mem_range.mpr (hs (qCv_ch h i (by omega)))) (fun i j hi hj e => by
    have a := qCv_ch h i (by omega); have b := qCv_ch h j (by omega)
    rw [e] at a
    have := qChn_uni a b; omega)
  rw [List.length_range] at this; omega
/-- pushing one along a chain -/
def cX (τ : qS) : Nat → Nat → (Nat → Int) → (Nat → Int)
  | 0, _, X => X
  | n + 1, v, X => match τ v with
    | some (_, some a) => cX τ n a.1 (va_up X (a.2.2.2 / 2) (X (a.2.2.2 / 2) + (if a.2.2.2 % 2 = 0 then 1 else -1)))
    | _ => X
theorem cX_s {τ : qS} {n v : Nat} {X : Nat → Int} {x : Int} {a : qA} (h : τ v = some (x, some a)) : cX τ (n + 1) v X = cX τ n a.1 (va_up X (a.2.2.2 / 2) (X (a.2.2.2 / 2) + (if a.2.2.2 % 2 = 0 then 1 else -1))) := by rw [cX, h]
def nX (Fr To : Nat → Nat) (X : Nat → Int) (u : Nat) : Nat → Int
  | 0 => 0
  | k + 1 => nX Fr To X u k + ((if To k = u then X k else 0) - (if Fr k = u then X k else 0))
def sX (X : Nat → Int) : Nat → Int
  | 0 => 0
  | k + 1 => sX X k + X k
theorem sX_up (X : Nat → Int) (e : Nat) (s : Int) (n : Nat) : sX (va_up X e (X e + s)) n = sX X n + (if e < n then s else 0) := by
  induction n with
  | zero => rfl
  | succ n ih =>
    rw [sX, sX, ih]
    by_cases q : n = e
    · subst q; rw [up_at, if_neg (show ¬ n < n by omega), if_pos (show n < n + 1 by omega)]; omega
    · rw [up_ne q]
      by_cases l : e < n
      · rw [if_pos l, if_pos (show e < n + 1 by omega)]; omega
      · rw [if_neg l, if_neg (show ¬ e < n + 1 by omega)]; omega
theorem nX_up (Fr To : Nat → Nat) (X : Nat → Int) (u e : Nat) (s : Int) (n : Nat) : nX Fr To (va_up X e (X e + s)) u n = nX Fr To X u n + (if e < n then (if To e = u then s else 0) - (if Fr e = u then s else 0) else 0) := by
  induction n with
  | zero => rfl
  | succ n ih =>
    rw [nX, nX, ih]
    by_cases q : n = e
    · subst q; rw [up_at, if_neg (show ¬ n < n by omega), if_pos (show n < n + 1 by omega)]
      by_cases a : To n = u
      · rw [if_pos a, if_pos a, if_pos a]
        by_cases b : Fr n = u
        · rw [if_pos b, if_pos b, if_pos b]; omega
        · rw [if_neg b, if_neg b, if_neg b]; omega
      · rw [if_neg a, if_neg a, if_neg a]
        by_cases b : Fr n = u
        · rw [if_pos b, if_pos b, if_pos b]; omega
        · rw [if_neg b, if_neg b, if_neg b]; omega
    · rw [up_ne q]
      by_cases l : e < n
      · rw [if_pos l, if_pos (show e < n + 1 by omega)]; omega
      · rw [if_neg l, if_neg (show ¬ e < n + 1 by omega)]; omega
def dl (u v : Nat) : Int := if u = v then 1 else 0
/-- what a push does to the balances -/
theorem cX_net {c : Nat → Int} {Fr To : Nat → Nat} {X0 : Nat → Int} {me : Nat} {τ : qS} (n v : Nat) (X : Nat → Int) (h : qChn (fArcs c Fr To X0 me) τ n v) (u : Nat) : nX Fr To (cX τ n v X) u me = nX Fr To X u me + dl v u - dl (qCv τ v n) u ∧ sX (cX τ n v X) me ≤ sX X me + n ∧ (∀ e, me ≤ e → cX τ n v X e = X e) := by
  induction n generalizing v X with
  | zero => refine ⟨?_, ?_, fun e _ => rfl⟩
            · show nX Fr To X u me = nX Fr To X u me + dl v u - dl v u; omega
            · show sX X me ≤ sX X me + ((0 : Nat) : Int); omega
  | succ n ih =>
    obtain ⟨x, y, a, b, e, ha, hv, hu, hx, hc⟩ := h
    rw [cX_s e, qCv, qPar_eq e]
    obtain ⟨i1, i2, i3⟩ := ih a.1 (va_up X (a.2.2.2 / 2) (X (a.2.2.2 / 2) + (if a.2.2.2 % 2 = 0 then 1 else -1))) hc
    rw [nX_up] at i1; rw [sX_up] at i2
    obtain ⟨i, hi, q | ⟨_, q⟩⟩ := fArcs_mem.mp ha
    · subst q
      dsimp only at *
      have e1 : 2 * i / 2 = i := by omega
      have e2 : 2 * i % 2 = 0 := by omega
      rw [e1, e2, if_pos rfl] at i1 i2 i3 ⊢
      rw [if_pos hi] at i1 i2
      refine ⟨?_, by omega, fun k hk => by rw [i3 k hk, up_ne (by omega)]⟩
      rw [i1, ← hv]; unfold dl; omega
    · subst q
      dsimp only at *
      have e1 : (2 * i + 1) / 2 = i := by omega
      have e2 : (2 * i + 1) % 2 = 1 := by omega
      rw [e1, e2, if_neg (show ¬ (1 = 0) by decide)] at i1 i2 i3 ⊢
      rw [if_pos hi] at i1 i2
      refine ⟨?_, by omega, fun k hk => by rw [i3 k hk, up_ne (by omega)]⟩
      rw [i1, ← hv]; unfold dl
      by_cases p : To i = u
      · rw [if_pos p, if_pos p]
        by_cases r : Fr i = u
        · rw [if_pos r, if_pos r]; omega
        · rw [if_neg r, if_neg r]; omega
      · rw [if_neg p, if_neg p]
        by_cases r : Fr i = u
        · rw [if_pos r, if_pos r]; omega
        · rw [if_neg r, if_neg r]; omega
