theorem mMeas_fin {dir : Bool} {Fr To We : Nat → Nat} {nv me : Nat} (hn : nv ≤ 16) (hF : ∀ j, Fr j < 16) (hT : ∀ j, To j < 16) (hW : ∀ j, We j ≤ 1000000000) (hFn : ∀ j, j < me → Fr j < nv) (hTn : ∀ j, j < me → To j < nv)
    {U : Nat → Int} (hU : ∀ k, k < me → 0 < U k) (φ : (Nat → Int) × (Nat → Int)) {a b : Nat} (ha : a < nv) (hb : b < 16) : (mMeas dir Fr To We nv me φ).1 (16 * a + b) < 1152921504606846976 ↔ rN (gEd true (!dir) Fr To U me) a b := by
  obtain ⟨m1, m2, _⟩ := mMeas_q (dir := dir) hn hF hT hW hFn hTn φ ha hb
  constructor
  · intro h
    refine qWk_ind (M := fun b _ => rN (gEd true (!dir) Fr To U me) a b) (fun v e => by subst e; exact rN_refl _ _) (fun c x hc _ ih => ?_) (m1 _ (if_pos h))
    obtain ⟨i, hi, hci⟩ := dArcs_mem.mp hc
    rcases dArc_in hci with e | ⟨hd, e⟩ | ⟨_, h, _⟩
    · subst e; exact rN_snoc ih ⟨i, hi, hU i hi, .inl ⟨rfl, rfl, rfl⟩⟩
    · subst e; exact rN_snoc ih ⟨i, hi, hU i hi, .inr ⟨by rw [hd]; rfl, rfl, rfl⟩⟩
    · exact absurd h (by decide)
  · intro h
    have : ∃ x, qWk (fun v => v = a) (dArcs dir Fr To We (fun _ => 0) me) b x := by
      refine rN_ind (M := fun b => ∃ x, qWk (fun v => v = a) (dArcs dir Fr To We (fun _ => 0) me) b x) ⟨0, qWk_nil a rfl⟩ (fun w u _ ih e => ?_) h
      obtain ⟨x, hx⟩ := ih
      obtain ⟨k, hk, _, ⟨_, e1, e2⟩ | ⟨hg, e1, e2⟩⟩ := e
      · subst e1; subst e2
        exact ⟨_, qWk_cons (Fr k, To k, ((We k : Nat) : Int) * qM + 2 ^ (39 - k), 2 * k) (dArcs_mem.mpr ⟨k, hk, dArc_fw⟩) hx⟩
      · subst e1; subst e2
        have hd : dir = false := by cases dir with
          | false => rfl
          | true => cases hg
        exact ⟨_, qWk_cons (To k, Fr k, ((We k : Nat) : Int) * qM + 2 ^ (39 - k), 2 * k + 1) (dArcs_mem.mpr ⟨k, hk, by unfold dArc; rw [if_pos hd]; exact .tail _ (.head _)⟩) hx⟩
    obtain ⟨x, hx⟩ := this
    obtain ⟨y, hy, _⟩ := m2 x hx
    unfold mC at hy
    by_cases q : (mMeas dir Fr To We nv me φ).1 (16 * a + b) < 1152921504606846976
    · exact q
    · rw [if_neg q] at hy; cases hy
theorem mCv_iff {Fr To : Nat → Nat} {me : Nat} {Fa : Nat → Int} {st : Nat} (n : Nat) : mCv Fr To me Fa st n = true ↔ mHas Fr To st me = true ∧ ∀ k, k < n → mHas Fr To k me = true → Fa (16 * st + k) < 1152921504606846976 ∧ Fa (16 * k + st) < 1152921504606846976 := by
  induction n with
  | zero => exact ⟨fun h => ⟨h, fun k hk => by omega⟩, fun h => h.1⟩
  | succ n ih =>
    rw [mCv, Bool.and_eq_true, ih, Bool.or_eq_true, Bool.and_eq_true, decide_eq_true_iff, decide_eq_true_iff]
    constructor
    · rintro ⟨⟨a, b⟩, c⟩
      refine ⟨a, fun k hk hm => ?_⟩
      by_cases e : k = n
      · subst e
        rcases c with c | c
        · rw [hm] at c; cases c
        · exact c
      · exact b k (by omega) hm
    · rintro ⟨a, b⟩
      refine ⟨⟨a, fun k hk => b k (by omega)⟩, ?_⟩
      cases hm : mHas Fr To n me with
      | false => left; rfl
      | true => right; exact b n (by omega) hm
theorem rN_touch {al ag : Bool} {Fr To : Nat → Nat} {U : Nat → Int} {me v u : Nat} (h : rN (gEd al ag Fr To U me) v u) : u = v ∨ mHas Fr To v me = true := by
  refine rN_ind (M := fun u => u = v ∨ mHas Fr To v me = true) (.inl rfl) (fun w u _ ih e => ?_) h
  rcases ih with ih | ih
  · right; subst ih
    obtain ⟨k, hk, _, ⟨_, e, _⟩ | ⟨_, e, _⟩⟩ := e
    · exact (mHas_iff me).mpr ⟨k, hk, .inl e⟩
    · exact (mHas_iff me).mpr ⟨k, hk, .inr e⟩
  · exact .inr ih
theorem touch_has {Fr To : Nat → Nat} {U : Nat → Int} {me : Nat} (hU : ∀ k, k < me → 0 < U k) (u : Nat) : bt (gTouch Fr To U me) u ↔ mHas Fr To u me = true := by
  rw [gTouch_bt, mHas_iff]
  exact ⟨fun ⟨k, hk, _, h⟩ => ⟨k, hk, h⟩, fun ⟨k, hk, h⟩ => ⟨k, hk, hU k hk, h⟩⟩
theorem has_lt {Fr To : Nat → Nat} {nv me : Nat} (hFn : ∀ j, j < me → Fr j < nv) (hTn : ∀ j, j < me → To j < nv) {u : Nat} (h : mHas Fr To u me = true) : u < nv := by
  obtain ⟨k, hk, e | e⟩ := (mHas_iff me).mp h
  · rw [← e]; exact hFn k hk
  · rw [← e]; exact hTn k hk
/-- covering: both say the same -/
theorem cover_eq {dir : Bool} {Fr To We : Nat → Nat} {nv me : Nat} (hn : nv ≤ 16) (hF : ∀ j, Fr j < 16) (hT : ∀ j, To j < 16) (hW : ∀ j, We j ≤ 1000000000) (hFn : ∀ j, j < me → Fr j < nv) (hTn : ∀ j, j < me → To j < nv)
    {U : Nat → Int} (hU : ∀ k, k < me → 0 < U k) (φ : (Nat → Int) × (Nat → Int)) {v : Nat} (hv : v < nv) : gCover dir Fr To U me v = mCovers Fr To nv me (mMeas dir Fr To We nv me φ).1 v := by
  have hv16 : v < 16 := by omega
  unfold gCover mCovers
  rw [Bool.eq_iff_iff, Bool.and_eq_true, decide_eq_true_iff, decide_eq_true_iff, bt_sub (gTouch_lt hF hT me), bt_sub (gTouch_lt hF hT me)]
  by_cases h0 : me = 0
  · subst h0; rw [if_pos rfl]
    refine ⟨fun _ => rfl, fun _ => ⟨fun u hu => absurd hu (bt_0 u), fun u hu => absurd hu (bt_0 u)⟩⟩
  · rw [if_neg h0, mCv_iff]
    have hrev : ∀ u, rN (gEd (!dir) true Fr To U me) v u ↔ rN (gEd true (!dir) Fr To U me) u v := fun u => ⟨fun h => rN_rev (fun a b ⟨k, hk, hU, h⟩ => ⟨k, hk, hU, h.elim (fun h => .inr ⟨h.1, h.2.2, h.2.1⟩) (fun h => .inl ⟨rfl, h.2.2, h.2.1⟩)⟩) h,
      fun h => rN_rev (fun a b ⟨k, hk, hU, h⟩ => ⟨k, hk, hU, h.elim (fun h => .inr ⟨rfl, h.2.2, h.2.1⟩) (fun h => .inl ⟨h.1, h.2.2, h.2.1⟩)⟩) h⟩
    constructor
    · rintro ⟨h1, h2⟩
      refine ⟨?_, fun k hk hm => ⟨?_, ?_⟩⟩
      · have ht : mHas Fr To (Fr 0) me = true := (mHas_iff me).mpr ⟨0, by omega, .inl rfl⟩
        rcases rN_touch ((gRL_iff hF hT hv16 _).mp (h1 _ ((touch_has hU _).mpr ht))) with e | e
        · rw [← e]; exact ht
        · exact e
      · exact (mMeas_fin hn hF hT hW hFn hTn hU φ hv (by omega)).mpr ((gRL_iff hF hT hv16 _).mp (h1 k ((touch_has hU _).mpr hm)))
      · exact (mMeas_fin hn hF hT hW hFn hTn hU φ hk hv16).mpr ((hrev k).mp ((gRL_iff hF hT hv16 _).mp (h2 k ((touch_has hU _).mpr hm))))
    · rintro ⟨_, h⟩
      refine ⟨fun u hu => ?_, fun u hu => ?_⟩
      · have hm := (touch_has hU u).mp hu
        have hk := has_lt hFn hTn hm
        exact (gRL_iff hF hT hv16 _).mpr ((mMeas_fin hn hF hT hW hFn hTn hU φ hv (by omega)).mp (h u hk hm).1)
      · have hm := (touch_has hU u).mp hu
        have hk := has_lt hFn hTn hm
        exact (gRL_iff hF hT hv16 _).mpr ((hrev u).mpr ((mMeas_fin hn hF hT hW hFn hTn hU φ hk hv16).mp (h u hk hm).2))
/-- regions: both count the same -/
theorem reg_eq {Fr To : Nat → Nat} {me : Nat} (hF : ∀ j, Fr j < 16) (hT : ∀ j, To j < 16) {U Le : Nat → Int} (hU : ∀ k, k < me → 0 < U k) (hL : ∀ k, k < me → 0 < Le k) (Gr : Nat → Nat) (n : Nat) (hn : n ≤ 16) :
    (∀ u, bt (gReg Fr To U me n).1 u ↔ mHas Fr To u me = true ∧ ∀ j, j < n → mHas Fr To j me = true → ¬ rN (gEd true true Fr To U me) j u) ∧ (gReg Fr To U me n).2 = mSt (mGroups Fr To Le me Gr) Fr To me n := by
  have hLU : ∀ k, k < me → (0 < Le k ↔ 0 < U k) := fun k hk => ⟨fun _ => hU k hk, fun _ => hL k hk⟩
  have hUL : ∀ k, k < me → (0 < U k ↔ 0 < Le k) := fun k hk => (hLU k hk).symm
  obtain ⟨g1, g2, g3⟩ := mGroups_q hF hT (fun k hk => Int.le_of_lt (hL k hk)) Gr
  induction n with
  | zero => exact ⟨fun u => by rw [gReg, touch_has hU]; exact ⟨fun h => ⟨h, fun j hj => by omega⟩, fun h => h.1⟩, rfl⟩
  | succ n ih =>
    obtain ⟨h1, h2⟩ := ih (by omega)
    have hnn : n < 16 := by omega
    have key : bt (gReg Fr To U me n).1 n ↔ (mGroups Fr To Le me Gr n = n ∧ mHas Fr To n me = true) := by
      rw [h1 n]
      constructor
      · rintro ⟨a, b⟩
        refine ⟨?_, a⟩
        apply Classical.byContradiction; intro hne
        have hlt : mGroups Fr To Le me Gr n < n := by have := g2 n hnn; omega
        have hr : rN (gEd true true Fr To U me) (mGroups Fr To Le me Gr n) n := rN_sym (rN_mono (fun a b => gEd_ext hLU) (g1 n hnn))
        rcases rN_touch hr with e | e
        · omega
        · exact b _ hlt e hr
      · rintro ⟨a, b⟩
        refine ⟨b, fun j hj hm hr => ?_⟩
        have := (mGroups_same hF hT (fun k hk => Int.le_of_lt (hL k hk)) Gr hnn (show j < 16 by omega)).mpr (rN_mono (fun a b => gEd_ext hUL) hr)
        have := g2 j (by omega); omega
    rw [gReg, mSt]
    by_cases hb : (gReg Fr To U me n).1 / 2 ^ n % 2 = 1
    · rw [if_pos hb, if_pos (key.mp hb)]
      refine ⟨fun u => ?_, by show (gReg Fr To U me n).2 + 1 = _; rw [h2]⟩
      show bt (_ &&& _) u ↔ _
      rw [bt_and]
      constructor
      · rintro ⟨a, b⟩
        have a' := (h1 u).mp a
        have hu : u < 16 := by
          obtain ⟨k, _, e | e⟩ := (mHas_iff me).mp a'.1
          · rw [← e]; exact hF k
          · rw [← e]; exact hT k
        refine ⟨a'.1, fun j hj hm => ?_⟩
        by_cases e : j = n
        · subst e; exact fun hr => (bt_not hu).mp b ((gRL_iff hF hT hnn u).mpr hr)
        · exact a'.2 j (by omega) hm
      · rintro ⟨a, b⟩
        have hu : u < 16 := by
          obtain ⟨k, _, e | e⟩ := (mHas_iff me).mp a
          · rw [← e]; exact hF k
          · rw [← e]; exact hT k
        exact ⟨(h1 u).mpr ⟨a, fun j hj => b j (by omega)⟩, (bt_not hu).mpr (fun hr => b n (by omega) (key.mp hb).2 ((gRL_iff hF hT hnn u).mp hr))⟩
    · rw [if_neg hb, if_neg (fun q => hb (key.mpr q))]
      refine ⟨fun u => ?_, h2⟩
      rw [h1 u]
      constructor
      · rintro ⟨a, b⟩
        refine ⟨a, fun j hj hm => ?_⟩
        by_cases e : j = n
        · subst e
          intro hr
          have : ∃ i, i < j ∧ mHas Fr To i me = true ∧ rN (gEd true true Fr To U me) i j := by
            apply Classical.byContradiction; intro hno
            exact hb ((h1 j).mpr ⟨hm, fun i hi hmi hri => hno ⟨i, hi, hmi, hri⟩⟩)
          obtain ⟨i, hi, hmi, hri⟩ := this
          exact b i hi hmi (rN_trans hri hr)
        · exact b j (by omega) hm
      · rintro ⟨a, b⟩; exact ⟨a, fun j hj => b j (by omega)⟩
theorem mSt_more {G Fr To : Nat → Nat} {nv me : Nat} (hFn : ∀ j, j < me → Fr j < nv) (hTn : ∀ j, j < me → To j < nv) (n : Nat) : mSt G Fr To me (nv + n) = mSt G Fr To me nv := by
  induction n with
  | zero => rfl
  | succ n ih =>
    rw [show nv + (n + 1) = (nv + n) + 1 from rfl, mSt, ih, if_neg (fun q => by have := has_lt hFn hTn q.2; omega)]
    rfl
