/-! bits of small masks, and branches on whole numbers -/
theorem nb_or (a b : Nat) : nI a ||| nI b = nI (a ||| b) := by
  apply Int32.toBitVec_inj.1
  show BitVec.ofNat 32 a ||| BitVec.ofNat 32 b = BitVec.ofNat 32 (a ||| b)
  apply BitVec.eq_of_getLsbD_eq
  intro i hi
  simp [hi]
theorem nb_and (a b : Nat) : nI a &&& nI b = nI (a &&& b) := by
  apply Int32.toBitVec_inj.1
  show BitVec.ofNat 32 a &&& BitVec.ofNat 32 b = BitVec.ofNat 32 (a &&& b)
  apply BitVec.eq_of_getLsbD_eq
  intro i hi
  simp [hi]
theorem nb_and1 (a : Nat) : nI a &&& nI 1 = nI (a % 2) := by
  rw [nb_and, show (1 : Nat) = 2 ^ 1 - 1 from rfl, Nat.and_two_pow_sub_one_eq_mod]
theorem nb_amt : ∀ k, k < 32 → ((nI k &&& 31).toBitVec.smod 32).toNat = k := by decide +kernel
theorem nb_shl1 : ∀ {k : Nat}, k < 31 → nI 1 <<< (nI k &&& 31) = nI (2 ^ k) := by
  intro k hk
  rw [pk_shlN (n := 1) (nI k &&& 31) k (nb_amt k (by omega)) (by
    have := Nat.pow_lt_pow_right (a := 2) (by decide) hk
    omega), Nat.one_mul]
theorem nb_shr {a k : Nat} (ha : a < 2 ^ 31) (hk : k < 32) : nI a >>> (nI k &&& 31) = nI (a / 2 ^ k) := pk_shrN ha (nI k &&& 31) k (nb_amt k hk)
theorem nb_hlf {a : Nat} (ha : a < 2 ^ 31) : nI a >>> (nI 1 &&& 31) = nI (a / 2) := pk_shrN ha (nI 1 &&& 31) 1 (nb_amt 1 (by decide))
theorem nb_shr1 {z : Int} (h1 : -2147483648 ≤ z) (h2 : z < 2147483648) : iZ z >>> (nI 1 &&& 31) = iZ (z / 2) := by
  apply Int32.toInt_inj.mp
  rw [pk_shr _ _ 1 (by decide), iZ_toInt h1 h2, iZ_toInt (by omega) (by omega), Int.shiftRight_eq_div_pow]
  rfl
theorem nb_zand1 (z : Int) : iZ z &&& nI 1 = nI (z % 2).toNat := by
  rw [pk_and (iZ z) (m := nI 1) 1 (by decide)]
  congr 1
  have : (iZ z).toBitVec.toNat = (z % 4294967296).toNat := by
    show (BitVec.ofInt 32 z).toNat = _
    rw [BitVec.toNat_ofInt]; rfl
  rw [this]
  omega
theorem nb_not {t r : Nat} (ht : t < 65536) : nI t &&& (nI r ^^^ iZ (-1)) = nI (t &&& (65535 ^^^ r)) := by
  apply Int32.toBitVec_inj.1
  show BitVec.ofNat 32 t &&& (BitVec.ofNat 32 r ^^^ BitVec.ofInt 32 (-1)) = BitVec.ofNat 32 (t &&& (65535 ^^^ r))
  apply BitVec.eq_of_getLsbD_eq
  intro i hi
  have h1 : (BitVec.ofInt 32 (-1)).getLsbD i = true := by
    have : BitVec.ofInt 32 (-1) = BitVec.allOnes 32 := by decide
    rw [this, BitVec.getLsbD_allOnes, decide_eq_true hi]
  have h2 : (65535 : Nat).testBit i = decide (i < 16) := by
    rw [show (65535 : Nat) = 2 ^ 16 - 1 from rfl, Nat.testBit_two_pow_sub_one]
  rw [BitVec.getLsbD_and, BitVec.getLsbD_xor, BitVec.getLsbD_ofNat, BitVec.getLsbD_ofNat, BitVec.getLsbD_ofNat, h1, Nat.testBit_and, Nat.testBit_xor, h2, decide_eq_true hi]
  by_cases h16 : i < 16
  · rw [decide_eq_true h16]; cases t.testBit i <;> cases r.testBit i <;> rfl
  · have : t.testBit i = false := Nat.testBit_lt_two_pow (Nat.lt_of_lt_of_le ht (Nat.pow_le_pow_right (by decide) (by omega) : 2 ^ 16 ≤ 2 ^ i))
    rw [this]; rfl
theorem nb_lt {a b : Nat} (ha : a < 65536) (hb : b < 65536) : a ||| b < 65536 := Nat.or_lt_two_pow (n := 16) ha hb
theorem nb_p2 {k : Nat} (h : k < 16) : 2 ^ k < 65536 := Nat.pow_lt_pow_right (by decide) h
theorem iZ_of (x : Int32) : x = iZ x.toInt := (Int32.ofInt_toInt x).symm
theorem iZ_rng (x : Int32) : -2147483648 ≤ x.toInt ∧ x.toInt < 2147483648 := ⟨Int32.le_toInt x, Int32.toInt_lt x⟩
theorem iZ_toNat {z : Int} (h : 0 ≤ z) : iZ z = nI z.toNat := by
  rw [← iZ_nat, Int.toNat_of_nonneg h]
theorem nI_l2 {n : Nat} (h : n < 2147483648) : (nI n).toInt64 = lZ (n : Int) := by
  apply Int64.toInt_inj.mp
  rw [Int32.toInt_toInt64, nI_toInt h, lZ_toInt (by omega) (by omega)]
theorem iZ_l2 {z : Int} (h1 : -2147483648 ≤ z) (h2 : z < 2147483648) : (iZ z).toInt64 = lZ z := by
  apply Int64.toInt_inj.mp
  rw [Int32.toInt_toInt64, iZ_toInt h1 h2, lZ_toInt (by omega) (by omega)]
section ZB
variable {p : Program} {l : Launch} {e : Env} {R : Room} {s : State} {m : MethodId} {args : Array Value} {below : List Frame} {meth : Method} {c : Code} {H : Heap} {locs : List Loc} {cells slots : Nat} {Q : State → Prop}
variable {cc : ByteArray} {pc : Nat} {ls : Array Slot} {rest : List Value}
theorem z_Ieq (hexec : p.tables.exec = Jvm.exec) (hb : c.code = cc) {x y : Int} (hxx : -2147483648 ≤ x ∧ x < 2147483648) (hyy : -2147483648 ≤ y ∧ y < 2147483648) {off : Int} {tgt : Nat} (hdg : decode cc pc = .ok (.if_icmp .eq off, 3)) (ht : (pc : Int) + off = (tgt : Int))
    (kt : x = y → W p l e R s m args below meth c H locs cells slots Q (F0 m tgt ls rest)) (kf : x ≠ y → W p l e R s m args below meth c H locs cells slots Q (F0 m (pc + 3) ls rest)) : W p l e R s m args below meth c H locs cells slots Q (F0 m pc ls (.int (iZ y) :: .int (iZ x) :: rest)) := by
  refine lv_icmp_eq hexec hb hdg ht (fun h => kt ?_) (fun h => kf ?_)
  · first | rw [Int32.le_iff_toInt_le, iZ_toInt hxx.1 hxx.2, iZ_toInt hyy.1 hyy.2] at h | rw [Int32.le_iff_toInt_le, iZ_toInt hyy.1 hyy.2, iZ_toInt hxx.1 hxx.2] at h | rw [Int32.lt_iff_toInt_lt, iZ_toInt hxx.1 hxx.2, iZ_toInt hyy.1 hyy.2] at h | rw [Int32.lt_iff_toInt_lt, iZ_toInt hyy.1 hyy.2, iZ_toInt hxx.1 hxx.2] at h | rw [← Int32.toInt_inj, iZ_toInt hxx.1 hxx.2, iZ_toInt hyy.1 hyy.2] at h
    omega
  · first | rw [Int32.le_iff_toInt_le, iZ_toInt hxx.1 hxx.2, iZ_toInt hyy.1 hyy.2] at h | rw [Int32.le_iff_toInt_le, iZ_toInt hyy.1 hyy.2, iZ_toInt hxx.1 hxx.2] at h | rw [Int32.lt_iff_toInt_lt, iZ_toInt hxx.1 hxx.2, iZ_toInt hyy.1 hyy.2] at h | rw [Int32.lt_iff_toInt_lt, iZ_toInt hyy.1 hyy.2, iZ_toInt hxx.1 hxx.2] at h | rw [← Int32.toInt_inj, iZ_toInt hxx.1 hxx.2, iZ_toInt hyy.1 hyy.2] at h
    omega
theorem z_ieq (hexec : p.tables.exec = Jvm.exec) (hb : c.code = cc) {x : Int} (hxx : -2147483648 ≤ x ∧ x < 2147483648) {off : Int} {tgt : Nat} (hdg : decode cc pc = .ok (.ifCond .eq off, 3)) (ht : (pc : Int) + off = (tgt : Int))
    (kt : x = 0 → W p l e R s m args below meth c H locs cells slots Q (F0 m tgt ls rest)) (kf : x ≠ 0 → W p l e R s m args below meth c H locs cells slots Q (F0 m (pc + 3) ls rest)) : W p l e R s m args below meth c H locs cells slots Q (F0 m pc ls (.int (iZ x) :: rest)) := by
  refine lv_if_eq hexec hb hdg ht (fun h => kt ?_) (fun h => kf ?_)
  · first | rw [Int32.le_iff_toInt_le, iZ_toInt hxx.1 hxx.2, (show (0 : Int32).toInt = 0 from rfl)] at h | rw [Int32.le_iff_toInt_le, (show (0 : Int32).toInt = 0 from rfl), iZ_toInt hxx.1 hxx.2] at h | rw [Int32.lt_iff_toInt_lt, iZ_toInt hxx.1 hxx.2, (show (0 : Int32).toInt = 0 from rfl)] at h | rw [Int32.lt_iff_toInt_lt, (show (0 : Int32).toInt = 0 from rfl), iZ_toInt hxx.1 hxx.2] at h | rw [← Int32.toInt_inj, iZ_toInt hxx.1 hxx.2, (show (0 : Int32).toInt = 0 from rfl)] at h
    omega
  · first | rw [Int32.le_iff_toInt_le, iZ_toInt hxx.1 hxx.2, (show (0 : Int32).toInt = 0 from rfl)] at h | rw [Int32.le_iff_toInt_le, (show (0 : Int32).toInt = 0 from rfl), iZ_toInt hxx.1 hxx.2] at h | rw [Int32.lt_iff_toInt_lt, iZ_toInt hxx.1 hxx.2, (show (0 : Int32).toInt = 0 from rfl)] at h | rw [Int32.lt_iff_toInt_lt, (show (0 : Int32).toInt = 0 from rfl), iZ_toInt hxx.1 hxx.2] at h | rw [← Int32.toInt_inj, iZ_toInt hxx.1 hxx.2, (show (0 : Int32).toInt = 0 from rfl)] at h
    omega
theorem z_neq (hexec : p.tables.exec = Jvm.exec) (hb : c.code = cc) {x : Nat} (hxx : x < 2 ^ 31) {off : Int} {tgt : Nat} (hdg : decode cc pc = .ok (.ifCond .eq off, 3)) (ht : (pc : Int) + off = (tgt : Int))
    (kt : x = 0 → W p l e R s m args below meth c H locs cells slots Q (F0 m tgt ls rest)) (kf : x ≠ 0 → W p l e R s m args below meth c H locs cells slots Q (F0 m (pc + 3) ls rest)) : W p l e R s m args below meth c H locs cells slots Q (F0 m pc ls (.int (nI x) :: rest)) := by
  refine lv_if_eq hexec hb hdg ht (fun h => kt ?_) (fun h => kf ?_)
  · first | rw [Int32.le_iff_toInt_le, nI_toInt hxx, (show (0 : Int32).toInt = 0 from rfl)] at h | rw [Int32.le_iff_toInt_le, (show (0 : Int32).toInt = 0 from rfl), nI_toInt hxx] at h | rw [Int32.lt_iff_toInt_lt, nI_toInt hxx, (show (0 : Int32).toInt = 0 from rfl)] at h | rw [Int32.lt_iff_toInt_lt, (show (0 : Int32).toInt = 0 from rfl), nI_toInt hxx] at h | rw [← Int32.toInt_inj, nI_toInt hxx, (show (0 : Int32).toInt = 0 from rfl)] at h
    omega
  · first | rw [Int32.le_iff_toInt_le, nI_toInt hxx, (show (0 : Int32).toInt = 0 from rfl)] at h | rw [Int32.le_iff_toInt_le, (show (0 : Int32).toInt = 0 from rfl), nI_toInt hxx] at h | rw [Int32.lt_iff_toInt_lt, nI_toInt hxx, (show (0 : Int32).toInt = 0 from rfl)] at h | rw [Int32.lt_iff_toInt_lt, (show (0 : Int32).toInt = 0 from rfl), nI_toInt hxx] at h | rw [← Int32.toInt_inj, nI_toInt hxx, (show (0 : Int32).toInt = 0 from rfl)] at h
    omega
theorem z_Ine (hexec : p.tables.exec = Jvm.exec) (hb : c.code = cc) {x y : Int} (hxx : -2147483648 ≤ x ∧ x < 2147483648) (hyy : -2147483648 ≤ y ∧ y < 2147483648) {off : Int} {tgt : Nat} (hdg : decode cc pc = .ok (.if_icmp .ne off, 3)) (ht : (pc : Int) + off = (tgt : Int))
    (kt : x ≠ y → W p l e R s m args below meth c H locs cells slots Q (F0 m tgt ls rest)) (kf : x = y → W p l e R s m args below meth c H locs cells slots Q (F0 m (pc + 3) ls rest)) : W p l e R s m args below meth c H locs cells slots Q (F0 m pc ls (.int (iZ y) :: .int (iZ x) :: rest)) := by
  refine lv_icmp_ne hexec hb hdg ht (fun h => kt ?_) (fun h => kf ?_)
  · first | rw [Int32.le_iff_toInt_le, iZ_toInt hxx.1 hxx.2, iZ_toInt hyy.1 hyy.2] at h | rw [Int32.le_iff_toInt_le, iZ_toInt hyy.1 hyy.2, iZ_toInt hxx.1 hxx.2] at h | rw [Int32.lt_iff_toInt_lt, iZ_toInt hxx.1 hxx.2, iZ_toInt hyy.1 hyy.2] at h | rw [Int32.lt_iff_toInt_lt, iZ_toInt hyy.1 hyy.2, iZ_toInt hxx.1 hxx.2] at h | rw [← Int32.toInt_inj, iZ_toInt hxx.1 hxx.2, iZ_toInt hyy.1 hyy.2] at h
    omega
  · first | rw [Int32.le_iff_toInt_le, iZ_toInt hxx.1 hxx.2, iZ_toInt hyy.1 hyy.2] at h | rw [Int32.le_iff_toInt_le, iZ_toInt hyy.1 hyy.2, iZ_toInt hxx.1 hxx.2] at h | rw [Int32.lt_iff_toInt_lt, iZ_toInt hxx.1 hxx.2, iZ_toInt hyy.1 hyy.2] at h | rw [Int32.lt_iff_toInt_lt, iZ_toInt hyy.1 hyy.2, iZ_toInt hxx.1 hxx.2] at h | rw [← Int32.toInt_inj, iZ_toInt hxx.1 hxx.2, iZ_toInt hyy.1 hyy.2] at h
    omega
theorem z_ine (hexec : p.tables.exec = Jvm.exec) (hb : c.code = cc) {x : Int} (hxx : -2147483648 ≤ x ∧ x < 2147483648) {off : Int} {tgt : Nat} (hdg : decode cc pc = .ok (.ifCond .ne off, 3)) (ht : (pc : Int) + off = (tgt : Int))
    (kt : x ≠ 0 → W p l e R s m args below meth c H locs cells slots Q (F0 m tgt ls rest)) (kf : x = 0 → W p l e R s m args below meth c H locs cells slots Q (F0 m (pc + 3) ls rest)) : W p l e R s m args below meth c H locs cells slots Q (F0 m pc ls (.int (iZ x) :: rest)) := by
  refine lv_if_ne hexec hb hdg ht (fun h => kt ?_) (fun h => kf ?_)
  · first | rw [Int32.le_iff_toInt_le, iZ_toInt hxx.1 hxx.2, (show (0 : Int32).toInt = 0 from rfl)] at h | rw [Int32.le_iff_toInt_le, (show (0 : Int32).toInt = 0 from rfl), iZ_toInt hxx.1 hxx.2] at h | rw [Int32.lt_iff_toInt_lt, iZ_toInt hxx.1 hxx.2, (show (0 : Int32).toInt = 0 from rfl)] at h | rw [Int32.lt_iff_toInt_lt, (show (0 : Int32).toInt = 0 from rfl), iZ_toInt hxx.1 hxx.2] at h | rw [← Int32.toInt_inj, iZ_toInt hxx.1 hxx.2, (show (0 : Int32).toInt = 0 from rfl)] at h
    omega
  · first | rw [Int32.le_iff_toInt_le, iZ_toInt hxx.1 hxx.2, (show (0 : Int32).toInt = 0 from rfl)] at h | rw [Int32.le_iff_toInt_le, (show (0 : Int32).toInt = 0 from rfl), iZ_toInt hxx.1 hxx.2] at h | rw [Int32.lt_iff_toInt_lt, iZ_toInt hxx.1 hxx.2, (show (0 : Int32).toInt = 0 from rfl)] at h | rw [Int32.lt_iff_toInt_lt, (show (0 : Int32).toInt = 0 from rfl), iZ_toInt hxx.1 hxx.2] at h | rw [← Int32.toInt_inj, iZ_toInt hxx.1 hxx.2, (show (0 : Int32).toInt = 0 from rfl)] at h
    omega
theorem z_nne (hexec : p.tables.exec = Jvm.exec) (hb : c.code = cc) {x : Nat} (hxx : x < 2 ^ 31) {off : Int} {tgt : Nat} (hdg : decode cc pc = .ok (.ifCond .ne off, 3)) (ht : (pc : Int) + off = (tgt : Int))
    (kt : x ≠ 0 → W p l e R s m args below meth c H locs cells slots Q (F0 m tgt ls rest)) (kf : x = 0 → W p l e R s m args below meth c H locs cells slots Q (F0 m (pc + 3) ls rest)) : W p l e R s m args below meth c H locs cells slots Q (F0 m pc ls (.int (nI x) :: rest)) := by
  refine lv_if_ne hexec hb hdg ht (fun h => kt ?_) (fun h => kf ?_)
  · first | rw [Int32.le_iff_toInt_le, nI_toInt hxx, (show (0 : Int32).toInt = 0 from rfl)] at h | rw [Int32.le_iff_toInt_le, (show (0 : Int32).toInt = 0 from rfl), nI_toInt hxx] at h | rw [Int32.lt_iff_toInt_lt, nI_toInt hxx, (show (0 : Int32).toInt = 0 from rfl)] at h | rw [Int32.lt_iff_toInt_lt, (show (0 : Int32).toInt = 0 from rfl), nI_toInt hxx] at h | rw [← Int32.toInt_inj, nI_toInt hxx, (show (0 : Int32).toInt = 0 from rfl)] at h
    omega
  · first | rw [Int32.le_iff_toInt_le, nI_toInt hxx, (show (0 : Int32).toInt = 0 from rfl)] at h | rw [Int32.le_iff_toInt_le, (show (0 : Int32).toInt = 0 from rfl), nI_toInt hxx] at h | rw [Int32.lt_iff_toInt_lt, nI_toInt hxx, (show (0 : Int32).toInt = 0 from rfl)] at h | rw [Int32.lt_iff_toInt_lt, (show (0 : Int32).toInt = 0 from rfl), nI_toInt hxx] at h | rw [← Int32.toInt_inj, nI_toInt hxx, (show (0 : Int32).toInt = 0 from rfl)] at h
    omega
theorem z_Ilt (hexec : p.tables.exec = Jvm.exec) (hb : c.code = cc) {x y : Int} (hxx : -2147483648 ≤ x ∧ x < 2147483648) (hyy : -2147483648 ≤ y ∧ y < 2147483648) {off : Int} {tgt : Nat} (hdg : decode cc pc = .ok (.if_icmp .lt off, 3)) (ht : (pc : Int) + off = (tgt : Int))
    (kt : x < y → W p l e R s m args below meth c H locs cells slots Q (F0 m tgt ls rest)) (kf : y ≤ x → W p l e R s m args below meth c H locs cells slots Q (F0 m (pc + 3) ls rest)) : W p l e R s m args below meth c H locs cells slots Q (F0 m pc ls (.int (iZ y) :: .int (iZ x) :: rest)) := by
  refine lv_icmp_lt hexec hb hdg ht (fun h => kt ?_) (fun h => kf ?_)
  · first | rw [Int32.le_iff_toInt_le, iZ_toInt hxx.1 hxx.2, iZ_toInt hyy.1 hyy.2] at h | rw [Int32.le_iff_toInt_le, iZ_toInt hyy.1 hyy.2, iZ_toInt hxx.1 hxx.2] at h | rw [Int32.lt_iff_toInt_lt, iZ_toInt hxx.1 hxx.2, iZ_toInt hyy.1 hyy.2] at h | rw [Int32.lt_iff_toInt_lt, iZ_toInt hyy.1 hyy.2, iZ_toInt hxx.1 hxx.2] at h | rw [← Int32.toInt_inj, iZ_toInt hxx.1 hxx.2, iZ_toInt hyy.1 hyy.2] at h
    omega
  · first | rw [Int32.le_iff_toInt_le, iZ_toInt hxx.1 hxx.2, iZ_toInt hyy.1 hyy.2] at h | rw [Int32.le_iff_toInt_le, iZ_toInt hyy.1 hyy.2, iZ_toInt hxx.1 hxx.2] at h | rw [Int32.lt_iff_toInt_lt, iZ_toInt hxx.1 hxx.2, iZ_toInt hyy.1 hyy.2] at h | rw [Int32.lt_iff_toInt_lt, iZ_toInt hyy.1 hyy.2, iZ_toInt hxx.1 hxx.2] at h | rw [← Int32.toInt_inj, iZ_toInt hxx.1 hxx.2, iZ_toInt hyy.1 hyy.2] at h
    omega
theorem z_ilt (hexec : p.tables.exec = Jvm.exec) (hb : c.code = cc) {x : Int} (hxx : -2147483648 ≤ x ∧ x < 2147483648) {off : Int} {tgt : Nat} (hdg : decode cc pc = .ok (.ifCond .lt off, 3)) (ht : (pc : Int) + off = (tgt : Int))
    (kt : x < 0 → W p l e R s m args below meth c H locs cells slots Q (F0 m tgt ls rest)) (kf : 0 ≤ x → W p l e R s m args below meth c H locs cells slots Q (F0 m (pc + 3) ls rest)) : W p l e R s m args below meth c H locs cells slots Q (F0 m pc ls (.int (iZ x) :: rest)) := by
  refine lv_if_lt hexec hb hdg ht (fun h => kt ?_) (fun h => kf ?_)
  · first | rw [Int32.le_iff_toInt_le, iZ_toInt hxx.1 hxx.2, (show (0 : Int32).toInt = 0 from rfl)] at h | rw [Int32.le_iff_toInt_le, (show (0 : Int32).toInt = 0 from rfl), iZ_toInt hxx.1 hxx.2] at h | rw [Int32.lt_iff_toInt_lt, iZ_toInt hxx.1 hxx.2, (show (0 : Int32).toInt = 0 from rfl)] at h | rw [Int32.lt_iff_toInt_lt, (show (0 : Int32).toInt = 0 from rfl), iZ_toInt hxx.1 hxx.2] at h | rw [← Int32.toInt_inj, iZ_toInt hxx.1 hxx.2, (show (0 : Int32).toInt = 0 from rfl)] at h
    omega
  · first | rw [Int32.le_iff_toInt_le, iZ_toInt hxx.1 hxx.2, (show (0 : Int32).toInt = 0 from rfl)] at h | rw [Int32.le_iff_toInt_le, (show (0 : Int32).toInt = 0 from rfl), iZ_toInt hxx.1 hxx.2] at h | rw [Int32.lt_iff_toInt_lt, iZ_toInt hxx.1 hxx.2, (show (0 : Int32).toInt = 0 from rfl)] at h | rw [Int32.lt_iff_toInt_lt, (show (0 : Int32).toInt = 0 from rfl), iZ_toInt hxx.1 hxx.2] at h | rw [← Int32.toInt_inj, iZ_toInt hxx.1 hxx.2, (show (0 : Int32).toInt = 0 from rfl)] at h
    omega
theorem z_nlt (hexec : p.tables.exec = Jvm.exec) (hb : c.code = cc) {x : Nat} (hxx : x < 2 ^ 31) {off : Int} {tgt : Nat} (hdg : decode cc pc = .ok (.ifCond .lt off, 3)) (ht : (pc : Int) + off = (tgt : Int))
    (kt : x < 0 → W p l e R s m args below meth c H locs cells slots Q (F0 m tgt ls rest)) (kf : 0 ≤ x → W p l e R s m args below meth c H locs cells slots Q (F0 m (pc + 3) ls rest)) : W p l e R s m args below meth c H locs cells slots Q (F0 m pc ls (.int (nI x) :: rest)) := by
  refine lv_if_lt hexec hb hdg ht (fun h => kt ?_) (fun h => kf ?_)
  · first | rw [Int32.le_iff_toInt_le, nI_toInt hxx, (show (0 : Int32).toInt = 0 from rfl)] at h | rw [Int32.le_iff_toInt_le, (show (0 : Int32).toInt = 0 from rfl), nI_toInt hxx] at h | rw [Int32.lt_iff_toInt_lt, nI_toInt hxx, (show (0 : Int32).toInt = 0 from rfl)] at h | rw [Int32.lt_iff_toInt_lt, (show (0 : Int32).toInt = 0 from rfl), nI_toInt hxx] at h | rw [← Int32.toInt_inj, nI_toInt hxx, (show (0 : Int32).toInt = 0 from rfl)] at h
    omega
  · first | rw [Int32.le_iff_toInt_le, nI_toInt hxx, (show (0 : Int32).toInt = 0 from rfl)] at h | rw [Int32.le_iff_toInt_le, (show (0 : Int32).toInt = 0 from rfl), nI_toInt hxx] at h | rw [Int32.lt_iff_toInt_lt, nI_toInt hxx, (show (0 : Int32).toInt = 0 from rfl)] at h | rw [Int32.lt_iff_toInt_lt, (show (0 : Int32).toInt = 0 from rfl), nI_toInt hxx] at h | rw [← Int32.toInt_inj, nI_toInt hxx, (show (0 : Int32).toInt = 0 from rfl)] at h
    omega
theorem z_Ige (hexec : p.tables.exec = Jvm.exec) (hb : c.code = cc) {x y : Int} (hxx : -2147483648 ≤ x ∧ x < 2147483648) (hyy : -2147483648 ≤ y ∧ y < 2147483648) {off : Int} {tgt : Nat} (hdg : decode cc pc = .ok (.if_icmp .ge off, 3)) (ht : (pc : Int) + off = (tgt : Int))
    (kt : y ≤ x → W p l e R s m args below meth c H locs cells slots Q (F0 m tgt ls rest)) (kf : x < y → W p l e R s m args below meth c H locs cells slots Q (F0 m (pc + 3) ls rest)) : W p l e R s m args below meth c H locs cells slots Q (F0 m pc ls (.int (iZ y) :: .int (iZ x) :: rest)) := by
  refine lv_icmp_ge hexec hb hdg ht (fun h => kt ?_) (fun h => kf ?_)
  · first | rw [Int32.le_iff_toInt_le, iZ_toInt hxx.1 hxx.2, iZ_toInt hyy.1 hyy.2] at h | rw [Int32.le_iff_toInt_le, iZ_toInt hyy.1 hyy.2, iZ_toInt hxx.1 hxx.2] at h | rw [Int32.lt_iff_toInt_lt, iZ_toInt hxx.1 hxx.2, iZ_toInt hyy.1 hyy.2] at h | rw [Int32.lt_iff_toInt_lt, iZ_toInt hyy.1 hyy.2, iZ_toInt hxx.1 hxx.2] at h | rw [← Int32.toInt_inj, iZ_toInt hxx.1 hxx.2, iZ_toInt hyy.1 hyy.2] at h
    omega
  · first | rw [Int32.le_iff_toInt_le, iZ_toInt hxx.1 hxx.2, iZ_toInt hyy.1 hyy.2] at h | rw [Int32.le_iff_toInt_le, iZ_toInt hyy.1 hyy.2, iZ_toInt hxx.1 hxx.2] at h | rw [Int32.lt_iff_toInt_lt, iZ_toInt hxx.1 hxx.2, iZ_toInt hyy.1 hyy.2] at h | rw [Int32.lt_iff_toInt_lt, iZ_toInt hyy.1 hyy.2, iZ_toInt hxx.1 hxx.2] at h | rw [← Int32.toInt_inj, iZ_toInt hxx.1 hxx.2, iZ_toInt hyy.1 hyy.2] at h
    omega
theorem z_ige (hexec : p.tables.exec = Jvm.exec) (hb : c.code = cc) {x : Int} (hxx : -2147483648 ≤ x ∧ x < 2147483648) {off : Int} {tgt : Nat} (hdg : decode cc pc = .ok (.ifCond .ge off, 3)) (ht : (pc : Int) + off = (tgt : Int))
    (kt : 0 ≤ x → W p l e R s m args below meth c H locs cells slots Q (F0 m tgt ls rest)) (kf : x < 0 → W p l e R s m args below meth c H locs cells slots Q (F0 m (pc + 3) ls rest)) : W p l e R s m args below meth c H locs cells slots Q (F0 m pc ls (.int (iZ x) :: rest)) := by
  refine lv_if_ge hexec hb hdg ht (fun h => kt ?_) (fun h => kf ?_)
  · first | rw [Int32.le_iff_toInt_le, iZ_toInt hxx.1 hxx.2, (show (0 : Int32).toInt = 0 from rfl)] at h | rw [Int32.le_iff_toInt_le, (show (0 : Int32).toInt = 0 from rfl), iZ_toInt hxx.1 hxx.2] at h | rw [Int32.lt_iff_toInt_lt, iZ_toInt hxx.1 hxx.2, (show (0 : Int32).toInt = 0 from rfl)] at h | rw [Int32.lt_iff_toInt_lt, (show (0 : Int32).toInt = 0 from rfl), iZ_toInt hxx.1 hxx.2] at h | rw [← Int32.toInt_inj, iZ_toInt hxx.1 hxx.2, (show (0 : Int32).toInt = 0 from rfl)] at h
    omega
  · first | rw [Int32.le_iff_toInt_le, iZ_toInt hxx.1 hxx.2, (show (0 : Int32).toInt = 0 from rfl)] at h | rw [Int32.le_iff_toInt_le, (show (0 : Int32).toInt = 0 from rfl), iZ_toInt hxx.1 hxx.2] at h | rw [Int32.lt_iff_toInt_lt, iZ_toInt hxx.1 hxx.2, (show (0 : Int32).toInt = 0 from rfl)] at h | rw [Int32.lt_iff_toInt_lt, (show (0 : Int32).toInt = 0 from rfl), iZ_toInt hxx.1 hxx.2] at h | rw [← Int32.toInt_inj, iZ_toInt hxx.1 hxx.2, (show (0 : Int32).toInt = 0 from rfl)] at h
    omega
theorem z_nge (hexec : p.tables.exec = Jvm.exec) (hb : c.code = cc) {x : Nat} (hxx : x < 2 ^ 31) {off : Int} {tgt : Nat} (hdg : decode cc pc = .ok (.ifCond .ge off, 3)) (ht : (pc : Int) + off = (tgt : Int))
    (kt : 0 ≤ x → W p l e R s m args below meth c H locs cells slots Q (F0 m tgt ls rest)) (kf : x < 0 → W p l e R s m args below meth c H locs cells slots Q (F0 m (pc + 3) ls rest)) : W p l e R s m args below meth c H locs cells slots Q (F0 m pc ls (.int (nI x) :: rest)) := by
  refine lv_if_ge hexec hb hdg ht (fun h => kt ?_) (fun h => kf ?_)
  · first | rw [Int32.le_iff_toInt_le, nI_toInt hxx, (show (0 : Int32).toInt = 0 from rfl)] at h | rw [Int32.le_iff_toInt_le, (show (0 : Int32).toInt = 0 from rfl), nI_toInt hxx] at h | rw [Int32.lt_iff_toInt_lt, nI_toInt hxx, (show (0 : Int32).toInt = 0 from rfl)] at h | rw [Int32.lt_iff_toInt_lt, (show (0 : Int32).toInt = 0 from rfl), nI_toInt hxx] at h | rw [← Int32.toInt_inj, nI_toInt hxx, (show (0 : Int32).toInt = 0 from rfl)] at h
    omega
  · first | rw [Int32.le_iff_toInt_le, nI_toInt hxx, (show (0 : Int32).toInt = 0 from rfl)] at h | rw [Int32.le_iff_toInt_le, (show (0 : Int32).toInt = 0 from rfl), nI_toInt hxx] at h | rw [Int32.lt_iff_toInt_lt, nI_toInt hxx, (show (0 : Int32).toInt = 0 from rfl)] at h | rw [Int32.lt_iff_toInt_lt, (show (0 : Int32).toInt = 0 from rfl), nI_toInt hxx] at h | rw [← Int32.toInt_inj, nI_toInt hxx, (show (0 : Int32).toInt = 0 from rfl)] at h
    omega
theorem z_Igt (hexec : p.tables.exec = Jvm.exec) (hb : c.code = cc) {x y : Int} (hxx : -2147483648 ≤ x ∧ x < 2147483648) (hyy : -2147483648 ≤ y ∧ y < 2147483648) {off : Int} {tgt : Nat} (hdg : decode cc pc = .ok (.if_icmp .gt off, 3)) (ht : (pc : Int) + off = (tgt : Int))
    (kt : y < x → W p l e R s m args below meth c H locs cells slots Q (F0 m tgt ls rest)) (kf : x ≤ y → W p l e R s m args below meth c H locs cells slots Q (F0 m (pc + 3) ls rest)) : W p l e R s m args below meth c H locs cells slots Q (F0 m pc ls (.int (iZ y) :: .int (iZ x) :: rest)) := by
  refine lv_icmp_gt hexec hb hdg ht (fun h => kt ?_) (fun h => kf ?_)
  · first | rw [Int32.le_iff_toInt_le, iZ_toInt hxx.1 hxx.2, iZ_toInt hyy.1 hyy.2] at h | rw [Int32.le_iff_toInt_le, iZ_toInt hyy.1 hyy.2, iZ_toInt hxx.1 hxx.2] at h | rw [Int32.lt_iff_toInt_lt, iZ_toInt hxx.1 hxx.2, iZ_toInt hyy.1 hyy.2] at h | rw [Int32.lt_iff_toInt_lt, iZ_toInt hyy.1 hyy.2, iZ_toInt hxx.1 hxx.2] at h | rw [← Int32.toInt_inj, iZ_toInt hxx.1 hxx.2, iZ_toInt hyy.1 hyy.2] at h
    omega
  · first | rw [Int32.le_iff_toInt_le, iZ_toInt hxx.1 hxx.2, iZ_toInt hyy.1 hyy.2] at h | rw [Int32.le_iff_toInt_le, iZ_toInt hyy.1 hyy.2, iZ_toInt hxx.1 hxx.2] at h | rw [Int32.lt_iff_toInt_lt, iZ_toInt hxx.1 hxx.2, iZ_toInt hyy.1 hyy.2] at h | rw [Int32.lt_iff_toInt_lt, iZ_toInt hyy.1 hyy.2, iZ_toInt hxx.1 hxx.2] at h | rw [← Int32.toInt_inj, iZ_toInt hxx.1 hxx.2, iZ_toInt hyy.1 hyy.2] at h
    omega
theorem z_igt (hexec : p.tables.exec = Jvm.exec) (hb : c.code = cc) {x : Int} (hxx : -2147483648 ≤ x ∧ x < 2147483648) {off : Int} {tgt : Nat} (hdg : decode cc pc = .ok (.ifCond .gt off, 3)) (ht : (pc : Int) + off = (tgt : Int))
    (kt : 0 < x → W p l e R s m args below meth c H locs cells slots Q (F0 m tgt ls rest)) (kf : x ≤ 0 → W p l e R s m args below meth c H locs cells slots Q (F0 m (pc + 3) ls rest)) : W p l e R s m args below meth c H locs cells slots Q (F0 m pc ls (.int (iZ x) :: rest)) := by
  refine lv_if_gt hexec hb hdg ht (fun h => kt ?_) (fun h => kf ?_)
  · first | rw [Int32.le_iff_toInt_le, iZ_toInt hxx.1 hxx.2, (show (0 : Int32).toInt = 0 from rfl)] at h | rw [Int32.le_iff_toInt_le, (show (0 : Int32).toInt = 0 from rfl), iZ_toInt hxx.1 hxx.2] at h | rw [Int32.lt_iff_toInt_lt, iZ_toInt hxx.1 hxx.2, (show (0 : Int32).toInt = 0 from rfl)] at h | rw [Int32.lt_iff_toInt_lt, (show (0 : Int32).toInt = 0 from rfl), iZ_toInt hxx.1 hxx.2] at h | rw [← Int32.toInt_inj, iZ_toInt hxx.1 hxx.2, (show (0 : Int32).toInt = 0 from rfl)] at h
    omega
  · first | rw [Int32.le_iff_toInt_le, iZ_toInt hxx.1 hxx.2, (show (0 : Int32).toInt = 0 from rfl)] at h | rw [Int32.le_iff_toInt_le, (show (0 : Int32).toInt = 0 from rfl), iZ_toInt hxx.1 hxx.2] at h | rw [Int32.lt_iff_toInt_lt, iZ_toInt hxx.1 hxx.2, (show (0 : Int32).toInt = 0 from rfl)] at h | rw [Int32.lt_iff_toInt_lt, (show (0 : Int32).toInt = 0 from rfl), iZ_toInt hxx.1 hxx.2] at h | rw [← Int32.toInt_inj, iZ_toInt hxx.1 hxx.2, (show (0 : Int32).toInt = 0 from rfl)] at h
    omega
theorem z_ngt (hexec : p.tables.exec = Jvm.exec) (hb : c.code = cc) {x : Nat} (hxx : x < 2 ^ 31) {off : Int} {tgt : Nat} (hdg : decode cc pc = .ok (.ifCond .gt off, 3)) (ht : (pc : Int) + off = (tgt : Int))
    (kt : 0 < x → W p l e R s m args below meth c H locs cells slots Q (F0 m tgt ls rest)) (kf : x ≤ 0 → W p l e R s m args below meth c H locs cells slots Q (F0 m (pc + 3) ls rest)) : W p l e R s m args below meth c H locs cells slots Q (F0 m pc ls (.int (nI x) :: rest)) := by
  refine lv_if_gt hexec hb hdg ht (fun h => kt ?_) (fun h => kf ?_)
  · first | rw [Int32.le_iff_toInt_le, nI_toInt hxx, (show (0 : Int32).toInt = 0 from rfl)] at h | rw [Int32.le_iff_toInt_le, (show (0 : Int32).toInt = 0 from rfl), nI_toInt hxx] at h | rw [Int32.lt_iff_toInt_lt, nI_toInt hxx, (show (0 : Int32).toInt = 0 from rfl)] at h | rw [Int32.lt_iff_toInt_lt, (show (0 : Int32).toInt = 0 from rfl), nI_toInt hxx] at h | rw [← Int32.toInt_inj, nI_toInt hxx, (show (0 : Int32).toInt = 0 from rfl)] at h
    omega
  · first | rw [Int32.le_iff_toInt_le, nI_toInt hxx, (show (0 : Int32).toInt = 0 from rfl)] at h | rw [Int32.le_iff_toInt_le, (show (0 : Int32).toInt = 0 from rfl), nI_toInt hxx] at h | rw [Int32.lt_iff_toInt_lt, nI_toInt hxx, (show (0 : Int32).toInt = 0 from rfl)] at h | rw [Int32.lt_iff_toInt_lt, (show (0 : Int32).toInt = 0 from rfl), nI_toInt hxx] at h | rw [← Int32.toInt_inj, nI_toInt hxx, (show (0 : Int32).toInt = 0 from rfl)] at h
    omega
theorem z_gt (hexec : p.tables.exec = Jvm.exec) (hb : c.code = cc) {x y : Nat} (hxx : x < 2 ^ 31) (hyy : y < 2 ^ 31) {off : Int} {tgt : Nat} (hdg : decode cc pc = .ok (.if_icmp .gt off, 3)) (ht : (pc : Int) + off = (tgt : Int))
    (kt : y < x → W p l e R s m args below meth c H locs cells slots Q (F0 m tgt ls rest)) (kf : x ≤ y → W p l e R s m args below meth c H locs cells slots Q (F0 m (pc + 3) ls rest)) : W p l e R s m args below meth c H locs cells slots Q (F0 m pc ls (.int (nI y) :: .int (nI x) :: rest)) := by
  refine lv_icmp_gt hexec hb hdg ht (fun h => kt ?_) (fun h => kf ?_)
  · first | rw [Int32.le_iff_toInt_le, nI_toInt hxx, nI_toInt hyy] at h | rw [Int32.le_iff_toInt_le, nI_toInt hyy, nI_toInt hxx] at h | rw [Int32.lt_iff_toInt_lt, nI_toInt hxx, nI_toInt hyy] at h | rw [Int32.lt_iff_toInt_lt, nI_toInt hyy, nI_toInt hxx] at h | rw [← Int32.toInt_inj, nI_toInt hxx, nI_toInt hyy] at h
    omega
  · first | rw [Int32.le_iff_toInt_le, nI_toInt hxx, nI_toInt hyy] at h | rw [Int32.le_iff_toInt_le, nI_toInt hyy, nI_toInt hxx] at h | rw [Int32.lt_iff_toInt_lt, nI_toInt hxx, nI_toInt hyy] at h | rw [Int32.lt_iff_toInt_lt, nI_toInt hyy, nI_toInt hxx] at h | rw [← Int32.toInt_inj, nI_toInt hxx, nI_toInt hyy] at h
    omega
theorem z_Ile (hexec : p.tables.exec = Jvm.exec) (hb : c.code = cc) {x y : Int} (hxx : -2147483648 ≤ x ∧ x < 2147483648) (hyy : -2147483648 ≤ y ∧ y < 2147483648) {off : Int} {tgt : Nat} (hdg : decode cc pc = .ok (.if_icmp .le off, 3)) (ht : (pc : Int) + off = (tgt : Int))
    (kt : x ≤ y → W p l e R s m args below meth c H locs cells slots Q (F0 m tgt ls rest)) (kf : y < x → W p l e R s m args below meth c H locs cells slots Q (F0 m (pc + 3) ls rest)) : W p l e R s m args below meth c H locs cells slots Q (F0 m pc ls (.int (iZ y) :: .int (iZ x) :: rest)) := by
  refine lv_icmp_le hexec hb hdg ht (fun h => kt ?_) (fun h => kf ?_)
  · first | rw [Int32.le_iff_toInt_le, iZ_toInt hxx.1 hxx.2, iZ_toInt hyy.1 hyy.2] at h | rw [Int32.le_iff_toInt_le, iZ_toInt hyy.1 hyy.2, iZ_toInt hxx.1 hxx.2] at h | rw [Int32.lt_iff_toInt_lt, iZ_toInt hxx.1 hxx.2, iZ_toInt hyy.1 hyy.2] at h | rw [Int32.lt_iff_toInt_lt, iZ_toInt hyy.1 hyy.2, iZ_toInt hxx.1 hxx.2] at h | rw [← Int32.toInt_inj, iZ_toInt hxx.1 hxx.2, iZ_toInt hyy.1 hyy.2] at h
    omega
  · first | rw [Int32.le_iff_toInt_le, iZ_toInt hxx.1 hxx.2, iZ_toInt hyy.1 hyy.2] at h | rw [Int32.le_iff_toInt_le, iZ_toInt hyy.1 hyy.2, iZ_toInt hxx.1 hxx.2] at h | rw [Int32.lt_iff_toInt_lt, iZ_toInt hxx.1 hxx.2, iZ_toInt hyy.1 hyy.2] at h | rw [Int32.lt_iff_toInt_lt, iZ_toInt hyy.1 hyy.2, iZ_toInt hxx.1 hxx.2] at h | rw [← Int32.toInt_inj, iZ_toInt hxx.1 hxx.2, iZ_toInt hyy.1 hyy.2] at h
    omega
theorem z_ile (hexec : p.tables.exec = Jvm.exec) (hb : c.code = cc) {x : Int} (hxx : -2147483648 ≤ x ∧ x < 2147483648) {off : Int} {tgt : Nat} (hdg : decode cc pc = .ok (.ifCond .le off, 3)) (ht : (pc : Int) + off = (tgt : Int))
    (kt : x ≤ 0 → W p l e R s m args below meth c H locs cells slots Q (F0 m tgt ls rest)) (kf : 0 < x → W p l e R s m args below meth c H locs cells slots Q (F0 m (pc + 3) ls rest)) : W p l e R s m args below meth c H locs cells slots Q (F0 m pc ls (.int (iZ x) :: rest)) := by
  refine lv_if_le hexec hb hdg ht (fun h => kt ?_) (fun h => kf ?_)
  · first | rw [Int32.le_iff_toInt_le, iZ_toInt hxx.1 hxx.2, (show (0 : Int32).toInt = 0 from rfl)] at h | rw [Int32.le_iff_toInt_le, (show (0 : Int32).toInt = 0 from rfl), iZ_toInt hxx.1 hxx.2] at h | rw [Int32.lt_iff_toInt_lt, iZ_toInt hxx.1 hxx.2, (show (0 : Int32).toInt = 0 from rfl)] at h | rw [Int32.lt_iff_toInt_lt, (show (0 : Int32).toInt = 0 from rfl), iZ_toInt hxx.1 hxx.2] at h | rw [← Int32.toInt_inj, iZ_toInt hxx.1 hxx.2, (show (0 : Int32).toInt = 0 from rfl)] at h
    omega
  · first | rw [Int32.le_iff_toInt_le, iZ_toInt hxx.1 hxx.2, (show (0 : Int32).toInt = 0 from rfl)] at h | rw [Int32.le_iff_toInt_le, (show (0 : Int32).toInt = 0 from rfl), iZ_toInt hxx.1 hxx.2] at h | rw [Int32.lt_iff_toInt_lt, iZ_toInt hxx.1 hxx.2, (show (0 : Int32).toInt = 0 from rfl)] at h | rw [Int32.lt_iff_toInt_lt, (show (0 : Int32).toInt = 0 from rfl), iZ_toInt hxx.1 hxx.2] at h | rw [← Int32.toInt_inj, iZ_toInt hxx.1 hxx.2, (show (0 : Int32).toInt = 0 from rfl)] at h
    omega
theorem z_nle (hexec : p.tables.exec = Jvm.exec) (hb : c.code = cc) {x : Nat} (hxx : x < 2 ^ 31) {off : Int} {tgt : Nat} (hdg : decode cc pc = .ok (.ifCond .le off, 3)) (ht : (pc : Int) + off = (tgt : Int))
    (kt : x ≤ 0 → W p l e R s m args below meth c H locs cells slots Q (F0 m tgt ls rest)) (kf : 0 < x → W p l e R s m args below meth c H locs cells slots Q (F0 m (pc + 3) ls rest)) : W p l e R s m args below meth c H locs cells slots Q (F0 m pc ls (.int (nI x) :: rest)) := by
  refine lv_if_le hexec hb hdg ht (fun h => kt ?_) (fun h => kf ?_)
  · first | rw [Int32.le_iff_toInt_le, nI_toInt hxx, (show (0 : Int32).toInt = 0 from rfl)] at h | rw [Int32.le_iff_toInt_le, (show (0 : Int32).toInt = 0 from rfl), nI_toInt hxx] at h | rw [Int32.lt_iff_toInt_lt, nI_toInt hxx, (show (0 : Int32).toInt = 0 from rfl)] at h | rw [Int32.lt_iff_toInt_lt, (show (0 : Int32).toInt = 0 from rfl), nI_toInt hxx] at h | rw [← Int32.toInt_inj, nI_toInt hxx, (show (0 : Int32).toInt = 0 from rfl)] at h
    omega
  · first | rw [Int32.le_iff_toInt_le, nI_toInt hxx, (show (0 : Int32).toInt = 0 from rfl)] at h | rw [Int32.le_iff_toInt_le, (show (0 : Int32).toInt = 0 from rfl), nI_toInt hxx] at h | rw [Int32.lt_iff_toInt_lt, nI_toInt hxx, (show (0 : Int32).toInt = 0 from rfl)] at h | rw [Int32.lt_iff_toInt_lt, (show (0 : Int32).toInt = 0 from rfl), nI_toInt hxx] at h | rw [← Int32.toInt_inj, nI_toInt hxx, (show (0 : Int32).toInt = 0 from rfl)] at h
    omega
theorem z_le (hexec : p.tables.exec = Jvm.exec) (hb : c.code = cc) {x y : Nat} (hxx : x < 2 ^ 31) (hyy : y < 2 ^ 31) {off : Int} {tgt : Nat} (hdg : decode cc pc = .ok (.if_icmp .le off, 3)) (ht : (pc : Int) + off = (tgt : Int))
    (kt : x ≤ y → W p l e R s m args below meth c H locs cells slots Q (F0 m tgt ls rest)) (kf : y < x → W p l e R s m args below meth c H locs cells slots Q (F0 m (pc + 3) ls rest)) : W p l e R s m args below meth c H locs cells slots Q (F0 m pc ls (.int (nI y) :: .int (nI x) :: rest)) := by
  refine lv_icmp_le hexec hb hdg ht (fun h => kt ?_) (fun h => kf ?_)
  · first | rw [Int32.le_iff_toInt_le, nI_toInt hxx, nI_toInt hyy] at h | rw [Int32.le_iff_toInt_le, nI_toInt hyy, nI_toInt hxx] at h | rw [Int32.lt_iff_toInt_lt, nI_toInt hxx, nI_toInt hyy] at h | rw [Int32.lt_iff_toInt_lt, nI_toInt hyy, nI_toInt hxx] at h | rw [← Int32.toInt_inj, nI_toInt hxx, nI_toInt hyy] at h
    omega
  · first | rw [Int32.le_iff_toInt_le, nI_toInt hxx, nI_toInt hyy] at h | rw [Int32.le_iff_toInt_le, nI_toInt hyy, nI_toInt hxx] at h | rw [Int32.lt_iff_toInt_lt, nI_toInt hxx, nI_toInt hyy] at h | rw [Int32.lt_iff_toInt_lt, nI_toInt hyy, nI_toInt hxx] at h | rw [← Int32.toInt_inj, nI_toInt hxx, nI_toInt hyy] at h
    omega
end ZB
