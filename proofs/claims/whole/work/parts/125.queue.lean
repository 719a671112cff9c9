theorem bcN_rm {t a : Nat} (h : bt t a) (n : Nat) : bcN (t - 2 ^ a) n + (if a < n then 1 else 0) = bcN t n := by
  induction n with
  | zero => rfl
  | succ n ih =>
    rw [bcN, bcN]
    have hb := bt_rm h n
    unfold bt at hb h
    by_cases e : n = a
    · subst e
      rw [if_neg (by omega)] at ih; rw [if_pos (by omega)]
      have : ¬ ((t - 2 ^ n) / 2 ^ n % 2 = 1) := fun q => (hb.mp q).2 rfl
      omega
    · have : (t - 2 ^ a) / 2 ^ n % 2 = 1 ↔ t / 2 ^ n % 2 = 1 := ⟨fun q => (hb.mp q).1, fun q => hb.mpr ⟨q, e⟩⟩
      by_cases l : a < n
      · rw [if_pos l] at ih; rw [if_pos (by omega)]; omega
      · rw [if_neg l] at ih; rw [if_neg (by omega)]; omega
theorem bcN_st {w : Nat → Nat → Int} {s t : Nat} {x : Int} (hs : s < 65536) (h : pSt w s t x) : bcN t 16 + 2 = bcN s 16 := by
  obtain ⟨a, b, ha, hb, hab, e, _⟩ := h
  have h1 := bt_lt hs ha.1; have h2 := bt_lt hs hb
  have hb' : bt (s - 2 ^ a) b := (bt_rm ha.1 b).mpr ⟨hb, by omega⟩
  have e1 := bcN_rm ha.1 16; have e2 := bcN_rm hb' 16
  rw [if_pos h1] at e1; rw [if_pos h2] at e2; rw [e]; omega
theorem bcN_0 {t : Nat} (ht : t < 65536) (h : bcN t 16 = 0) : t = 0 := by
  have hz : ∀ n, bcN t n = 0 → ∀ k, k < n → ¬ bt t k := fun n => by
    induction n with
    | zero => intro _ k hk; omega
    | succ n ih =>
      intro h k hk
      rw [bcN] at h
      by_cases e : k = n
      · subst e; unfold bt; omega
      · exact ih (by omega) k (by omega)
  exact bt_ext fun k => ⟨fun q => absurd q (hz 16 h k (bt_lt ht q)), fun q => absurd q (bt_0 k)⟩
theorem pPa_sub {w : Nat → Nat → Int} {s t : Nat} {x : Int} (h : pPa w s t x) : t ≤ s ∧ ∀ k, bt t k → bt s k := by
  refine pPa_ind (M := fun t _ => t ≤ s ∧ ∀ k, bt t k → bt s k) ⟨Nat.le_refl _, fun k h => h⟩ (fun r t x y _ ih e => ?_) h
  have hlt := pSt_lt e
  obtain ⟨a, b, ha, hb, hab, e, _⟩ := e
  refine ⟨by omega, fun k hk => ih.2 k ?_⟩
  have hb' : bt (r - 2 ^ a) b := (bt_rm ha.1 b).mpr ⟨hb, by omega⟩
  rw [e, bt_rm hb', bt_rm ha.1] at hk; exact hk.1.1
def lwN (R : Nat) : Nat := 16 - hgt R
theorem lwN_st {w : Nat → Nat → Int} {s t : Nat} {x : Int} (hs : s < 65536) (h : pSt w s t x) : lwN s + 1 ≤ lwN t := by
  have := hgt_lt hs h; have := hgt_le s; unfold lwN; omega
theorem lwN_le (R : Nat) : lwN R ≤ 16 := by unfold lwN; omega
def wPr (PCo PTi : Nat → Nat → Int) (A B : Nat) : Int := PCo A B * qM + PTi A B
def rCap (w : Nat → Nat → Int) (od : Nat) : Prop := ∀ (N : Nat) (f : Nat → Nat), (∀ i, i < N → ∃ x, pPa w od (f i) x) → (∀ i j, i < N → j < N → f i = f j → i = j) → N ≤ 1597
/-- what holds of the queue between two sets -/
def qI (w : Nat → Nat → Int) (od i : Nat) (χ : PS) : Prop := hOk χ ∧ (∀ j, j < χ.2.2.2.2 → pPa w od (χ.1 j) (pVal χ j) ∧ pBn (lwN (χ.1 j)) χ j) ∧ (0 < χ.2.2.2.2 ∧ χ.1 0 = od ∧ pVal χ 0 ≤ 0) ∧
  (∀ j k, j ≤ k → k < χ.2.2.2.2 → bcN (χ.1 k) 16 ≤ bcN (χ.1 j) 16) ∧ (∀ j, j < i → j < χ.2.2.2.2 → χ.1 j ≠ 0 ∧ ∀ R' y, pSt w (χ.1 j) R' y → ∃ k, k < χ.2.2.2.2 ∧ χ.1 k = R' ∧ pVal χ k ≤ pVal χ j + y)
theorem pPL_q {PCo PTi : Nat → Nat → Int} {od i R A : Nat} (hod : od < 65536) (hcap : rCap (wPr PCo PTi) od)
    (hw : ∀ A B, bt od A → bt od B → (0 ≤ PCo A B ∧ PCo A B ≤ 65536000000000) ∧ 0 ≤ PTi A B ∧ PTi A B ≤ 36028797018963968) (hA : lowB R A) (k : Nat) (hk : k ≤ 16 - (A + 1)) (χ : PS)
    (hI : qI (wPr PCo PTi) od i χ) (hi : i < χ.2.2.2.2) (hR : χ.1 i = R) (hW : ∀ j, j < χ.2.2.2.2 → bcN R 16 ≤ bcN (χ.1 j) 16 + 2)
    (hP : ∀ B, A < B → B < 16 - k → bt R B → ∃ j, j < χ.2.2.2.2 ∧ χ.1 j = R - 2 ^ A - 2 ^ B ∧ pVal χ j ≤ pVal χ i + wPr PCo PTi A B) :
    qI (wPr PCo PTi) od i (pPL PCo PTi i A (R &&& (65535 ^^^ 2 ^ A)) k χ) ∧ i < (pPL PCo PTi i A (R &&& (65535 ^^^ 2 ^ A)) k χ).2.2.2.2 ∧ (pPL PCo PTi i A (R &&& (65535 ^^^ 2 ^ A)) k χ).1 i = R ∧
    (∀ j, j < (pPL PCo PTi i A (R &&& (65535 ^^^ 2 ^ A)) k χ).2.2.2.2 → bcN R 16 ≤ bcN ((pPL PCo PTi i A (R &&& (65535 ^^^ 2 ^ A)) k χ).1 j) 16 + 2) ∧
    (∀ B, A < B → B < 16 → bt R B → ∃ j, j < (pPL PCo PTi i A (R &&& (65535 ^^^ 2 ^ A)) k χ).2.2.2.2 ∧ (pPL PCo PTi i A (R &&& (65535 ^^^ 2 ^ A)) k χ).1 j = R - 2 ^ A - 2 ^ B ∧ pVal (pPL PCo PTi i A (R &&& (65535 ^^^ 2 ^ A)) k χ) j ≤ pVal (pPL PCo PTi i A (R &&& (65535 ^^^ 2 ^ A)) k χ) i + wPr PCo PTi A B) := by
  induction k generalizing χ with
  | zero => exact ⟨hI, hi, hR, hW, hP⟩
  | succ k ih =>
    rw [pPL]
    obtain ⟨hO, hS, hZ, hM, hC⟩ := hI
    obtain ⟨hpath, hbn⟩ := hS i hi
    rw [hR] at hpath hbn
    obtain ⟨hsub1, hsub2⟩ := pPa_sub hpath
    have hR16 : R < 65536 := by omega
    have hA16 := bt_lt hR16 hA.1
    have eO : R &&& (65535 ^^^ 2 ^ A) = R - 2 ^ A := rm_and hR16 hA.1
    have hAB : A < 16 - (k + 1) := by omega
    by_cases hb : bt R (16 - (k + 1))
    · have hb' : bt (R - 2 ^ A) (16 - (k + 1)) := (bt_rm hA.1 _).mpr ⟨hb, by omega⟩
      have hcond : (R &&& (65535 ^^^ 2 ^ A)) / 2 ^ (16 - (k + 1)) % 2 = 1 := by rw [eO]; exact hb'
      rw [if_pos hcond]
      have eS : (R &&& (65535 ^^^ 2 ^ A)) &&& (65535 ^^^ 2 ^ (16 - (k + 1))) = R - 2 ^ A - 2 ^ (16 - (k + 1)) := by
        rw [eO]; exact rm_and (rm_lt hR16) hb'
      have hst : pSt (wPr PCo PTi) R (R - 2 ^ A - 2 ^ (16 - (k + 1))) (wPr PCo PTi A (16 - (k + 1))) := ⟨A, _, hA, hb, hAB, rfl, rfl⟩
      have hlw := lwN_st hR16 hst
      have hl16 := lwN_le (R - 2 ^ A - 2 ^ (16 - (k + 1)))
      have hcard := bcN_st hR16 hst
      obtain ⟨w1, w2⟩ := hw A (16 - (k + 1)) (hsub2 _ hA.1) (hsub2 _ hb)
      unfold pBn at hbn
      have ec : w64 (χ.2.1 i + PCo A (16 - (k + 1))) = χ.2.1 i + PCo A (16 - (k + 1)) := w64_id (by omega)
      have et : w64 (χ.2.2.1 i + PTi A (16 - (k + 1))) = χ.2.2.1 i + PTi A (16 - (k + 1)) := w64_id (by omega)
      rw [eS, ec, et]
      have hnew : pPa (wPr PCo PTi) od (R - 2 ^ A - 2 ^ (16 - (k + 1))) (pVal χ i + wPr PCo PTi A (16 - (k + 1))) := pPa_snoc hpath hst
      have eval : (χ.2.1 i + PCo A (16 - (k + 1))) * qM + (χ.2.2.1 i + PTi A (16 - (k + 1))) = pVal χ i + wPr PCo PTi A (16 - (k + 1)) := by
        unfold pVal wPr; simp only [qM]; omega
      have hbnd : (0 ≤ χ.2.1 i + PCo A (16 - (k + 1)) ∧ χ.2.1 i + PCo A (16 - (k + 1)) ≤ (lwN (R - 2 ^ A - 2 ^ (16 - (k + 1))) : Int) * 65536000000000) ∧ 0 ≤ χ.2.2.1 i + PTi A (16 - (k + 1)) ∧ χ.2.2.1 i + PTi A (16 - (k + 1)) ≤ (lwN (R - 2 ^ A - 2 ^ (16 - (k + 1))) : Int) * 36028797018963968 := by omega
      obtain ⟨o1, o2, o3, o4, o5, o6⟩ := pOffer_q hO hl16 hbnd (fun j hj e => by have := (hS j hj).2; rw [e] at this; exact this) (fun hno => by
        have hle := hO.2.2.2.2
        apply Classical.byContradiction; intro hge
        have := hcap (χ.2.2.2.2 + 1) (va_up χ.1 χ.2.2.2.2 (R - 2 ^ A - 2 ^ (16 - (k + 1)))) (fun j hj => by
          by_cases e : j = χ.2.2.2.2
          · subst e; rw [up_at]; exact ⟨_, hnew⟩
          · rw [up_ne e]; exact ⟨_, (hS j (by omega)).1⟩) (fun a b ha hb e => by
          by_cases q1 : a = χ.2.2.2.2
          · by_cases q2 : b = χ.2.2.2.2
            · omega
            · subst q1; rw [up_at, up_ne q2] at e; exact absurd e.symm (hno b (by omega))
          · by_cases q2 : b = χ.2.2.2.2
            · subst q2; rw [up_at, up_ne q1] at e; exact absurd e (hno a (by omega))
            · rw [up_ne q1, up_ne q2] at e; exact hO.1 a b (by omega) (by omega) e)
        omega)
      generalize hχ' : pOffer χ (R - 2 ^ A - 2 ^ (16 - (k + 1))) (χ.2.1 i + PCo A (16 - (k + 1))) (χ.2.2.1 i + PTi A (16 - (k + 1))) = χ' at o1 o2 o3 o4 o5 o6
      -- values only fall
      have hfall : ∀ j, j < χ.2.2.2.2 → pVal χ' j ≤ pVal χ j := fun j hj => by
        rcases o6 j (by omega) with ⟨_, e1, e2⟩ | ⟨_, e1, e2, e3⟩
        · unfold pVal; rw [e1, e2]; exact Int.le_refl _
        · have := e3 hj; unfold pVal at *; rw [e1, e2]; omega
      have hsame : ∀ j, j ≤ i → pVal χ' j = pVal χ j := fun j hj => by
        rcases o6 j (by omega) with ⟨_, e1, e2⟩ | ⟨e0, _⟩
        · unfold pVal; rw [e1, e2]
        · rw [o3 j (by omega)] at e0
          have := hM j i hj hi; rw [hR, e0] at this; omega
      refine ih (by omega) χ' ⟨o1, fun j hj => ?_, ⟨by omega, ?_, ?_⟩, fun a b hab hb2 => ?_, fun j hj hj2 => ?_⟩ (by omega) (by rw [o3 i hi]; exact hR) (fun j hj => ?_) (fun B a1 a2 a3 => ?_)
      · rcases o6 j hj with ⟨e0, e1, e2⟩ | ⟨e0, e1, e2, _⟩
        · have := hS j e0
          rw [o3 j e0]; unfold pVal pBn at *; rw [e1, e2]; exact this
        · rw [e0]; unfold pVal pBn; rw [e1, e2]
          refine ⟨?_, hbnd⟩
          rw [eval]; exact hnew
      · rw [o3 0 (by omega)]; exact hZ.2.1
      · have := hfall 0 hZ.1; have := hZ.2.2; omega
      · by_cases q : b < χ.2.2.2.2
        · rw [o3 b q, o3 a (by omega)]; exact hM a b hab q
        · obtain ⟨q1, q2⟩ := o4 b (by omega) hb2
          rw [q1]
          by_cases z : a < χ.2.2.2.2
          · rw [o3 a z]; have := hW a z; omega
          · rw [(o4 a (by omega) (by omega)).1]; exact Nat.le_refl _
      · obtain ⟨c1, c2⟩ := hC j hj (by omega)
        rw [o3 j (by omega)]
        refine ⟨c1, fun R' y hy => ?_⟩
        obtain ⟨k', k1, k2, k3⟩ := c2 R' y hy
        exact ⟨k', by omega, by rw [o3 k' k1]; exact k2, by rw [hsame j (by omega)]; have := hfall k' k1; omega⟩
      · by_cases q : j < χ.2.2.2.2
        · rw [o3 j q]; exact hW j q
        · rw [(o4 j (by omega) hj).1]; omega
      · by_cases e : B = 16 - (k + 1)
        · subst e
          obtain ⟨j, j1, j2, j3⟩ := o5
          exact ⟨j, j1, j2, by rw [hsame i (Nat.le_refl _), ← eval]; exact j3⟩
        · obtain ⟨j, j1, j2, j3⟩ := hP B a1 (by omega) a3
          exact ⟨j, by omega, by rw [o3 j j1]; exact j2, by rw [hsame i (Nat.le_refl _)]; have := hfall j j1; omega⟩
    · have hcond : ¬ ((R &&& (65535 ^^^ 2 ^ A)) / 2 ^ (16 - (k + 1)) % 2 = 1) := fun q => by
        rw [eO] at q; exact hb ((bt_rm hA.1 _).mp q).1
      rw [if_neg hcond]
      refine ih (by omega) χ ⟨hO, hS, hZ, hM, hC⟩ hi hR hW (fun B a1 a2 a3 => ?_)
      by_cases e : B = 16 - (k + 1)
      · subst e; exact absurd a3 hb
      · exact hP B a1 (by omega) a3
