/-- what the reference's table holds of one set -/
def mCd (χ : (Nat → Int) × (Nat → Int)) (t : Nat) : Option Int := if χ.1 t < 1152921504606846976 then some (χ.1 t * qM + χ.2 t) else none
def mBt (n : Nat) (χ : (Nat → Int) × (Nat → Int)) (t : Nat) : Prop := if χ.1 t < 1152921504606846976 then (0 ≤ χ.1 t ∧ χ.1 t ≤ (n : Int) * 65536000000000) ∧ 0 ≤ χ.2 t ∧ χ.2 t ≤ (n : Int) * 36028797018963968 else χ.2 t = 0
/-- the price of a pair -/
def wFa (Od : Nat → Nat) (Fa Bi : Nat → Int) (a b : Nat) : Int := Fa (16 * Od a + Od b) * qM + Bi (16 * Od a + Od b)
def fOk (mon : Nat) (Od : Nat → Nat) (Fa Bi : Nat → Int) : Prop := ∀ a b, a < mon → b < mon → Fa (16 * Od a + Od b) < 1152921504606846976 ∧ (0 ≤ Fa (16 * Od a + Od b) ∧ Fa (16 * Od a + Od b) ≤ 65536000000000) ∧ 0 ≤ Bi (16 * Od a + Od b) ∧ Bi (16 * Od a + Od b) ≤ 36028797018963968
def minTo (w : Nat → Nat → Int) (t : Nat) (o : Option Int) : Prop := (∀ x, o = some x → pPa w t 0 x) ∧ (∀ x, pPa w t 0 x → ∃ y, o = some y ∧ y ≤ x)
def hgt (t : Nat) : Nat := if t = 0 then 0 else 16 - (pLo t 16).toNat
theorem hgt_lt {w : Nat → Nat → Int} {s t : Nat} {x : Int} (hs : s < 65536) (h : pSt w s t x) : hgt t < hgt s := by
  have hlt := pSt_lt h
  obtain ⟨a, ha⟩ := low_ex hs (by omega)
  have hl := pSt_low h ha
  have ea := lowB_uni ha (pLo_low hs (by omega))
  have := bt_lt hs ha.1
  unfold hgt
  rw [if_neg (show ¬ s = 0 by omega)]
  by_cases e : t = 0
  · rw [if_pos e]; omega
  · rw [if_neg e]
    have hb := (pLo_low (show t < 65536 by omega) e).1
    have : ¬ (pLo t 16).toNat ≤ a := fun q => hl _ q hb
    omega
theorem hgt_le (t : Nat) : hgt t ≤ 16 := by unfold hgt; split <;> omega
/-- one offer of the reference -/
theorem mPs_C {mon : Nat} {Od : Nat → Nat} {Fa Bi : Nat → Int} (hf : fOk mon Od Fa Bi) {t a b : Nat} (ht : t < 65536) (ha : lowB t a) (hab : a < b) (ham : a < mon) (hbm : b < mon) {χ : (Nat → Int) × (Nat → Int)}
    (h1 : ∀ s, s < t → mBt (hgt s) χ s) (h2 : mBt (hgt t) χ t) :
    (¬ bt t b → mPs Od Fa Bi t b χ = χ) ∧
    (bt t b → (mCd χ (t - 2 ^ a - 2 ^ b) = none → mPs Od Fa Bi t b χ = χ) ∧
      (∀ y, mCd χ (t - 2 ^ a - 2 ^ b) = some y → (∀ s, s ≠ t → (mPs Od Fa Bi t b χ).1 s = χ.1 s ∧ (mPs Od Fa Bi t b χ).2 s = χ.2 s) ∧ mBt (hgt t) (mPs Od Fa Bi t b χ) t ∧
        ((mCd (mPs Od Fa Bi t b χ) t = mCd χ t ∧ ∃ z, mCd χ t = some z ∧ z ≤ wFa Od Fa Bi a b + y) ∨ (mCd (mPs Od Fa Bi t b χ) t = some (wFa Od Fa Bi a b + y) ∧ ∀ z, mCd χ t = some z → wFa Od Fa Bi a b + y < z)))) := by
  have hne : t ≠ 0 := fun e => by subst e; exact bt_0 a ha.1
  have ea : (pLo t 16).toNat = a := lowB_uni (pLo_low ht hne) ha
  have hk := hgt_le t
  constructor
  · intro hb; apply mPs_0; unfold bt at hb; omega
  · intro hb
    have hb0 : t / 2 ^ b % 2 ≠ 0 := by unfold bt at hb; omega
    have hst : pSt (wFa Od Fa Bi) t (t - 2 ^ a - 2 ^ b) (wFa Od Fa Bi a b) := ⟨a, b, ha, hb, hab, rfl, rfl⟩
    have hlt := pSt_lt hst
    have hh := hgt_lt ht hst
    have g1 := h1 _ hlt
    obtain ⟨f0, f1, f2⟩ := hf a b ham hbm
    constructor
    · intro hn
      apply mPs_f hb0; rw [ea]; left
      unfold mCd at hn
      by_cases q : χ.1 (t - 2 ^ a - 2 ^ b) < 1152921504606846976
      · rw [if_pos q] at hn; cases hn
      · omega
    · intro y hy
      have q : χ.1 (t - 2 ^ a - 2 ^ b) < 1152921504606846976 := by
        apply Classical.byContradiction; intro q; unfold mCd at hy; rw [if_neg q] at hy; cases hy
      unfold mCd at hy; rw [if_pos q] at hy; injection hy with hy
      unfold mBt at g1; rw [if_pos q] at g1
      have hn2 : ¬ (1152921504606846976 ≤ χ.1 (t - 2 ^ (pLo t 16).toNat - 2 ^ b) ∨ 1152921504606846976 ≤ Fa (16 * Od (pLo t 16).toNat + Od b)) := by rw [ea]; omega
      have w1 : w64 (χ.1 (t - 2 ^ a - 2 ^ b) + Fa (16 * Od a + Od b)) = χ.1 (t - 2 ^ a - 2 ^ b) + Fa (16 * Od a + Od b) := w64_id (by omega)
      have w2 : w64 (χ.2 (t - 2 ^ a - 2 ^ b) + Bi (16 * Od a + Od b)) = χ.2 (t - 2 ^ a - 2 ^ b) + Bi (16 * Od a + Od b) := w64_id (by omega)
      by_cases c : w64 (χ.1 (t - 2 ^ a - 2 ^ b) + Fa (16 * Od a + Od b)) > χ.1 t ∨ (w64 (χ.1 (t - 2 ^ a - 2 ^ b) + Fa (16 * Od a + Od b)) = χ.1 t ∧ w64 (χ.2 (t - 2 ^ a - 2 ^ b) + Bi (16 * Od a + Od b)) ≥ χ.2 t)
      · have e : mPs Od Fa Bi t b χ = χ := mPs_n hb0 hn2 (by rw [ea]; exact c)
        rw [e]
        refine ⟨fun s _ => ⟨rfl, rfl⟩, h2, .inl ⟨rfl, ?_⟩⟩
        rw [w1, w2] at c
        have qt : χ.1 t < 1152921504606846976 := by omega
        refine ⟨_, if_pos qt, ?_⟩
        unfold mBt at h2; rw [if_pos qt] at h2
        subst hy; unfold wFa; simp only [qM]; omega
      · have e : mPs Od Fa Bi t b χ = _ := mPs_y hb0 hn2 (by rw [ea]; exact c)
        rw [ea, w1, w2] at e
        rw [e]
        rw [w1, w2] at c
        refine ⟨fun s hs => ⟨up_ne hs, up_ne hs⟩, ?_, .inr ⟨?_, fun z hz => ?_⟩⟩
        · unfold mBt
          show if va_up χ.1 t _ t < _ then (0 ≤ va_up χ.1 t _ t ∧ va_up χ.1 t _ t ≤ _) ∧ 0 ≤ va_up χ.2 t _ t ∧ va_up χ.2 t _ t ≤ _ else va_up χ.2 t _ t = 0
          rw [up_at, up_at, if_pos (by omega)]; omega
        · unfold mCd
          show (if va_up χ.1 t _ t < _ then some (va_up χ.1 t _ t * qM + va_up χ.2 t _ t) else none) = _
          rw [up_at, up_at, if_pos (by omega)]; congr 1
          subst hy; unfold wFa; simp only [qM]; omega
        · unfold mCd at hz
          by_cases qt : χ.1 t < 1152921504606846976
          · rw [if_pos qt] at hz; injection hz with hz
            unfold mBt at h2; rw [if_pos qt] at h2
            subst hz; subst hy; unfold wFa; simp only [qM]; omega
          · rw [if_neg qt] at hz; cases hz
