theorem mBt_inf {n : Nat} {f g : Nat → Int} {t : Nat} (h : f t = 1152921504606846976) (h2 : g t = 0) : mBt n (f, g) t := by
  unfold mBt; rw [if_neg (by show ¬ f t < _; omega)]; exact h2
theorem mCd_inf {f g : Nat → Int} {t : Nat} (h : f t = 1152921504606846976) : mCd (f, g) t = none := by
  unfold mCd; rw [if_neg (by show ¬ f t < _; omega)]
theorem mCd_ext {χ ψ : (Nat → Int) × (Nat → Int)} {t : Nat} (h : χ.1 t = ψ.1 t ∧ χ.2 t = ψ.2 t) : mCd χ t = mCd ψ t := by unfold mCd; rw [h.1, h.2]
theorem mBt_ext {n : Nat} {χ ψ : (Nat → Int) × (Nat → Int)} {t : Nat} (h : χ.1 t = ψ.1 t ∧ χ.2 t = ψ.2 t) (g : mBt n ψ t) : mBt n χ t := by unfold mBt at *; rw [h.1, h.2]; exact g
theorem mPb_C {mon : Nat} {Od : Nat → Nat} {Fa Bi : Nat → Int} (hf : fOk mon Od Fa Bi) (hmon : mon ≤ 16) {t a : Nat} (ht : t < 65536) (ha : lowB t a) (ham : a < mon) {φ : (Nat → Int) × (Nat → Int)}
    (hφ : ∀ s, s < t → mBt (hgt s) φ s ∧ minTo (wFa Od Fa Bi) s (mCd φ s)) (k : Nat) (hk : k ≤ mon - (a + 1)) (χ : (Nat → Int) × (Nat → Int))
    (h1 : ∀ s, s ≠ t → χ.1 s = φ.1 s ∧ χ.2 s = φ.2 s) (h2 : mBt (hgt t) χ t) (h3 : ∀ x, mCd χ t = some x → pPa (wFa Od Fa Bi) t 0 x)
    (h4 : ∀ b, a < b → b < mon - k → bt t b → ∀ y, mCd φ (t - 2 ^ a - 2 ^ b) = some y → ∃ z, mCd χ t = some z ∧ z ≤ wFa Od Fa Bi a b + y) :
    (∀ s, s ≠ t → (mPb mon Od Fa Bi t k χ).1 s = φ.1 s ∧ (mPb mon Od Fa Bi t k χ).2 s = φ.2 s) ∧ mBt (hgt t) (mPb mon Od Fa Bi t k χ) t ∧ (∀ x, mCd (mPb mon Od Fa Bi t k χ) t = some x → pPa (wFa Od Fa Bi) t 0 x) ∧
    (∀ b, a < b → b < mon → bt t b → ∀ y, mCd φ (t - 2 ^ a - 2 ^ b) = some y → ∃ z, mCd (mPb mon Od Fa Bi t k χ) t = some z ∧ z ≤ wFa Od Fa Bi a b + y) := by
  induction k generalizing χ with
  | zero => exact ⟨h1, h2, h3, h4⟩
  | succ k ih =>
    rw [mPb]
    have hab : a < mon - (k + 1) := by omega
    obtain ⟨p, q⟩ := mPs_C hf (b := mon - (k + 1)) ht ha hab ham (by omega) (χ := χ) (fun s hs => mBt_ext (h1 s (by omega)) (hφ s hs).1) h2
    have keep : mPs Od Fa Bi t (mon - (k + 1)) χ = χ → (bt t (mon - (k + 1)) → mCd φ (t - 2 ^ a - 2 ^ (mon - (k + 1))) = none) → 
      (∀ s, s ≠ t → (mPb mon Od Fa Bi t k (mPs Od Fa Bi t (mon - (k + 1)) χ)).1 s = φ.1 s ∧ (mPb mon Od Fa Bi t k (mPs Od Fa Bi t (mon - (k + 1)) χ)).2 s = φ.2 s) ∧ mBt (hgt t) (mPb mon Od Fa Bi t k (mPs Od Fa Bi t (mon - (k + 1)) χ)) t ∧ (∀ x, mCd (mPb mon Od Fa Bi t k (mPs Od Fa Bi t (mon - (k + 1)) χ)) t = some x → pPa (wFa Od Fa Bi) t 0 x) ∧
      (∀ b, a < b → b < mon → bt t b → ∀ y, mCd φ (t - 2 ^ a - 2 ^ b) = some y → ∃ z, mCd (mPb mon Od Fa Bi t k (mPs Od Fa Bi t (mon - (k + 1)) χ)) t = some z ∧ z ≤ wFa Od Fa Bi a b + y) := fun e hn => by
      rw [e]
      refine ih (by omega) χ h1 h2 h3 (fun b a1 a2 a3 y hy => ?_)
      by_cases eb : b = mon - (k + 1)
      · subst eb; rw [hn a3] at hy; cases hy
      · exact h4 b a1 (by omega) a3 y hy
    by_cases hb : bt t (mon - (k + 1))
    · obtain ⟨q1, q2⟩ := q hb
      have hlt : t - 2 ^ a - 2 ^ (mon - (k + 1)) < t := pSt_lt (w := wFa Od Fa Bi) ⟨a, _, ha, hb, hab, rfl, rfl⟩
      have eC : mCd χ (t - 2 ^ a - 2 ^ (mon - (k + 1))) = mCd φ (t - 2 ^ a - 2 ^ (mon - (k + 1))) := mCd_ext (h1 _ (by omega))
      cases hc : mCd φ (t - 2 ^ a - 2 ^ (mon - (k + 1))) with
      | none => exact keep (q1 (eC.trans hc)) (fun _ => hc)
      | some y =>
        obtain ⟨r1, r2, r3⟩ := q2 y (eC.trans hc)
        have hpath : pPa (wFa Od Fa Bi) t 0 (wFa Od Fa Bi a (mon - (k + 1)) + y) := pPa_cons ⟨a, _, ha, hb, hab, rfl, rfl⟩ ((hφ _ hlt).2.1 y hc)
        refine ih (by omega) _ (fun s hs => ⟨(r1 s hs).1.trans (h1 s hs).1, (r1 s hs).2.trans (h1 s hs).2⟩) r2 (fun x hx => ?_) (fun b a1 a2 a3 y' hy' => ?_)
        · rcases r3 with ⟨r3, _⟩ | ⟨r3, _⟩
          · rw [r3] at hx; exact h3 x hx
          · rw [r3] at hx; injection hx with hx; subst hx; exact hpath
        · by_cases eb : b = mon - (k + 1)
          · subst eb; rw [hc] at hy'; injection hy' with hy'; subst hy'
            rcases r3 with ⟨r3, z, r4, r5⟩ | ⟨r3, _⟩
            · exact ⟨z, r3.trans r4, r5⟩
            · exact ⟨_, r3, Int.le_refl _⟩
          · obtain ⟨z, hz, lz⟩ := h4 b a1 (by omega) a3 y' hy'
            rcases r3 with ⟨r3, _⟩ | ⟨r3, r4⟩
            · exact ⟨z, r3.trans hz, lz⟩
            · exact ⟨_, r3, by have := r4 z hz; omega⟩
    · exact keep (p hb) (fun hb' => absurd hb' hb)
theorem bt_mon {t mon b : Nat} (h : t < 2 ^ mon) (hb : bt t b) : b < mon := by
  apply Classical.byContradiction; intro q
  have := bt_big hb
  have := Nat.pow_le_pow_right (n := 2) (by decide) (show mon ≤ b by omega)
  omega
theorem mPall_q {mon : Nat} {Od : Nat → Nat} {Fa Bi : Nat → Int} (hf : fOk mon Od Fa Bi) (hmon : mon ≤ 16) (θ : (Nat → Int) × (Nat → Int)) (K : Nat) (hK : K < 2 ^ mon) :
    ∀ t, t ≤ K → mBt (hgt t) (mPall mon Od Fa Bi (va_up θ.1 0 0, va_up θ.2 0 0) K) t ∧ minTo (wFa Od Fa Bi) t (mCd (mPall mon Od Fa Bi (va_up θ.1 0 0, va_up θ.2 0 0) K) t) := by
  have hp : 2 ^ mon ≤ 2 ^ 16 := Nat.pow_le_pow_right (by decide) hmon
  have h16 : (2 : Nat) ^ 16 = 65536 := rfl
  induction K with
  | zero =>
    intro t ht
    have e : t = 0 := by omega
    subst e
    have hv : (mPall mon Od Fa Bi (va_up θ.1 0 0, va_up θ.2 0 0) 0).1 0 = 0 ∧ (mPall mon Od Fa Bi (va_up θ.1 0 0, va_up θ.2 0 0) 0).2 0 = 0 := ⟨show va_up θ.1 0 0 0 = 0 from up_at, show va_up θ.2 0 0 0 = 0 from up_at⟩
    refine ⟨?_, ?_⟩
    · unfold mBt; rw [hv.1, hv.2]; decide
    · have hc : mCd (mPall mon Od Fa Bi (va_up θ.1 0 0, va_up θ.2 0 0) 0) 0 = some 0 := by unfold mCd; rw [hv.1, hv.2]; rfl
      rw [hc]
      refine ⟨fun x hx => by injection hx with hx; subst hx; exact pPa_nil _ 0, fun x hx => ⟨0, rfl, ?_⟩⟩
      rcases pPa_front hx with ⟨_, e⟩ | ⟨r, y, z, ⟨a, b, ha, _⟩, _⟩
      · omega
      · exact absurd ha.1 (bt_0 a)
  | succ K ih =>
    have ih := ih (by omega)
    intro t ht
    have hT : K + 1 < 65536 := by omega
    have ha := pLo_low hT (by omega)
    have ham := bt_mon hK ha.1
    rw [mPall, mPset]
    obtain ⟨p1, p2, p3, p4⟩ := mPb_C hf hmon hT ha ham (φ := mPall mon Od Fa Bi (va_up θ.1 0 0, va_up θ.2 0 0) K) (fun s hs => ih s (by omega)) (mon - ((pLo (K + 1) 16).toNat + 1)) (Nat.le_refl _)
      (va_up (mPall mon Od Fa Bi (va_up θ.1 0 0, va_up θ.2 0 0) K).1 (K + 1) 1152921504606846976, va_up (mPall mon Od Fa Bi (va_up θ.1 0 0, va_up θ.2 0 0) K).2 (K + 1) 0) (fun s hs => ⟨up_ne hs, up_ne hs⟩)
      (mBt_inf up_at up_at)
      (fun x hx => by rw [mCd_inf up_at] at hx; cases hx)
      (fun b a1 a2 => by omega)
    by_cases e : t = K + 1
    · subst e
      refine ⟨p2, p3, fun x hx => ?_⟩
      rcases pPa_front hx with ⟨e, _⟩ | ⟨r, y, z, ⟨a, b, ha', hb, hab, er, ey⟩, hz, ex⟩
      · omega
      · have ea := lowB_uni ha' ha
        subst er; subst ey
        have hlt : K + 1 - 2 ^ a - 2 ^ b < K + 1 := pSt_lt (w := wFa Od Fa Bi) ⟨a, b, ha', hb, hab, rfl, rfl⟩
        obtain ⟨y', hy', ly⟩ := (ih _ (by omega)).2.2 z hz
        rw [ea] at hy' hab
        obtain ⟨z', hz', lz⟩ := p4 b hab (bt_mon hK hb) hb y' hy'
        exact ⟨z', hz', by rw [ea] at ex; omega⟩
    · have := ih t (by omega)
      exact ⟨mBt_ext (p1 t e) this.1, by rw [mCd_ext (p1 t e)]; exact this.2⟩
