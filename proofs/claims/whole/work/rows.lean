section
/-! our own small words and rows over the kit: whole numbers as ints and longs, truth values, loads and branches by Nat -/
def iZ (z : Int) : Int32 := Int32.ofInt z
def lZ (z : Int) : Int64 := Int64.ofInt z
def zB (b : Bool) : Int32 := if b then 1 else 0
theorem iZ_nat (n : Nat) : iZ (n : Int) = nI n := rfl
theorem iZ_add (a b : Int) : iZ a + iZ b = iZ (a + b) := (Int32.ofInt_add a b).symm
theorem iZ_sub (a b : Int) : iZ a - iZ b = iZ (a - b) := (Int32.ofInt_sub a b).symm
theorem iZ_neg (a : Int) : - iZ a = iZ (-a) := (Int32.ofInt_neg a).symm
theorem iZ_mul (a b : Int) : iZ a * iZ b = iZ (a * b) := (Int32.ofInt_mul a b).symm
theorem iZ_toInt {z : Int} (h1 : -2147483648 ≤ z) (h2 : z < 2147483648) : (iZ z).toInt = z := Int32.toInt_ofInt_of_le (by simpa using h1) (by simpa using h2)
theorem lZ_add (a b : Int) : lZ a + lZ b = lZ (a + b) := (Int64.ofInt_add a b).symm
theorem lZ_sub (a b : Int) : lZ a - lZ b = lZ (a - b) := (Int64.ofInt_sub a b).symm
theorem lZ_neg (a : Int) : - lZ a = lZ (-a) := (Int64.ofInt_neg a).symm
theorem lZ_mul (a b : Int) : lZ a * lZ b = lZ (a * b) := (Int64.ofInt_mul a b).symm
theorem lZ_toInt {z : Int} (h1 : -9223372036854775808 ≤ z) (h2 : z < 9223372036854775808) : (lZ z).toInt = z := Int64.toInt_ofInt_of_le (by simpa using h1) (by simpa using h2)
theorem iZ_lt {a b : Int} (ha : -2147483648 ≤ a ∧ a < 2147483648) (hb : -2147483648 ≤ b ∧ b < 2147483648) : iZ a < iZ b ↔ a < b := by
  rw [Int32.lt_iff_toInt_lt, iZ_toInt ha.1 ha.2, iZ_toInt hb.1 hb.2]
theorem iZ_le {a b : Int} (ha : -2147483648 ≤ a ∧ a < 2147483648) (hb : -2147483648 ≤ b ∧ b < 2147483648) : iZ a ≤ iZ b ↔ a ≤ b := by
  rw [Int32.le_iff_toInt_le, iZ_toInt ha.1 ha.2, iZ_toInt hb.1 hb.2]
theorem iZ_eq {a b : Int} (ha : -2147483648 ≤ a ∧ a < 2147483648) (hb : -2147483648 ≤ b ∧ b < 2147483648) : iZ a = iZ b ↔ a = b := by
  rw [← Int32.toInt_inj, iZ_toInt ha.1 ha.2, iZ_toInt hb.1 hb.2]
theorem lZ_lt {a b : Int} (ha : -9223372036854775808 ≤ a ∧ a < 9223372036854775808) (hb : -9223372036854775808 ≤ b ∧ b < 9223372036854775808) : lZ a < lZ b ↔ a < b := by
  rw [Int64.lt_iff_toInt_lt, lZ_toInt ha.1 ha.2, lZ_toInt hb.1 hb.2]
theorem lZ_le {a b : Int} (ha : -9223372036854775808 ≤ a ∧ a < 9223372036854775808) (hb : -9223372036854775808 ≤ b ∧ b < 9223372036854775808) : lZ a ≤ lZ b ↔ a ≤ b := by
  rw [Int64.le_iff_toInt_le, lZ_toInt ha.1 ha.2, lZ_toInt hb.1 hb.2]
theorem lZ_eq {a b : Int} (ha : -9223372036854775808 ≤ a ∧ a < 9223372036854775808) (hb : -9223372036854775808 ≤ b ∧ b < 9223372036854775808) : lZ a = lZ b ↔ a = b := by
  rw [← Int64.toInt_inj, lZ_toInt ha.1 ha.2, lZ_toInt hb.1 hb.2]
theorem zB_t : zB true = 1 := rfl
theorem zB_f : zB false = 0 := rfl
theorem zB_eq0 {b : Bool} : zB b = 0 ↔ b = false := by cases b <;> decide
theorem zB_nar (b : Bool) : narrow .boolean (.int (zB b)) = .int (zB b) := by cases b <;> rfl
theorem zB_vnar (b : Bool) : vp_nar .boolean (zB b) = zB b := by cases b <;> rfl
theorem zB_fits (b : Bool) : fits .boolean (.int (zB b)) = true := by cases b <;> rfl
theorem up_map {α β : Type} (g : α → β) (F : Nat → α) (k : Nat) (x : α) : va_up (fun j => g (F j)) k (g x) = fun j => g (va_up F k x j) := by
  funext j; unfold va_up; split <;> rfl
theorem up_at {α : Type} {F : Nat → α} {k : Nat} {x : α} : va_up F k x k = x := if_pos rfl
theorem up_ne {α : Type} {F : Nat → α} {k j : Nat} {x : α} (h : j ≠ k) : va_up F k x j = F j := if_neg h
theorem upd_nI (F : Nat → Nat) (k x : Nat) : upd (fun j => nI (F j)) k (nI x) = fun j => nI (va_up F k x j) := up_map nI F k x
theorem upd_iZ (F : Nat → Int) (k : Nat) (x : Int) : upd (fun j => iZ (F j)) k (iZ x) = fun j => iZ (va_up F k x j) := up_map iZ F k x
theorem upd_zB (F : Nat → Bool) (k : Nat) (x : Bool) : upd (fun j => zB (F j)) k (zB x) = fun j => zB (va_up F k x j) := up_map zB F k x
theorem updL_lZ (F : Nat → Int) (k : Nat) (x : Int) : vp_updL (fun j => lZ (F j)) k (lZ x) = fun j => lZ (va_up F k x j) := up_map lZ F k x
section ZR
variable {p : Program} {l : Launch} {e : Env} {R : Room} {s : State} {m : MethodId} {args : Array Value} {below : List Frame} {meth : Method} {c : Code} {H : Heap} {locs : List Loc} {cells slots : Nat} {Q : State → Prop}
variable {cc : ByteArray} {pc : Nat} {ls : Array Slot} {rest : List Value} {D : va_G} {cl : List vw_C} {A : Nat → Prop} {a : Nat} {tys : List (ClassId × FieldType)} {ws : va_W} {H0 : Heap}
theorem z_topi {x v : Int32} (h : x = v) (k : W p l e R s m args below meth c H locs cells slots Q (F0 m pc ls (.int v :: rest))) : W p l e R s m args below meth c H locs cells slots Q (F0 m pc ls (.int x :: rest)) := by subst h; exact k
theorem z_topl {x v : Int64} (h : x = v) (k : W p l e R s m args below meth c H locs cells slots Q (F0 m pc ls (.long v :: rest))) : W p l e R s m args below meth c H locs cells slots Q (F0 m pc ls (.long x :: rest)) := by subst h; exact k
theorem z_iald (hexec : p.tables.exec = Jvm.exec) (hb : c.code = cc) (hK : va_K D cl tys s) (hP : va_P D cl ws H) (q0 t0 : Nat) {cA : ClassId} {n : Nat} {f : Nat → Int32} (ha : ws[q0]? = some (a, .inl (cA, n, .inl f))) (ht : tys[t0]? = some (cA, .int)) {k : Nat} (hk : k < n) (hn : n < 2 ^ 31) {v : Int32} (hv : f k = v) (hdg : decode cc pc = .ok (.iaload, 1))
    (kk : W p l e R s m args below meth c H locs cells slots Q (F0 m (pc + 1) ls (.int v :: rest))) : W p l e R s m args below meth c H locs cells slots Q (F0 m pc ls (.int (nI k) :: .ref a :: rest)) := by
  refine va_iald hexec hb hK hP q0 t0 ha ht (vp_in_nI hk hn) hdg ?_
  rw [nI_clamp (Nat.lt_trans hk hn), hv]
  exact kk
theorem z_zald (hexec : p.tables.exec = Jvm.exec) (hb : c.code = cc) (hK : va_K D cl tys s) (hP : va_P D cl ws H) (q0 t0 : Nat) {cA : ClassId} {n : Nat} {f : Nat → Int32} (ha : ws[q0]? = some (a, .inl (cA, n, .inl f))) (ht : tys[t0]? = some (cA, .boolean)) {k : Nat} (hk : k < n) (hn : n < 2 ^ 31) {v : Int32} (hv : f k = v) (hdg : decode cc pc = .ok (.baload, 1))
    (kk : W p l e R s m args below meth c H locs cells slots Q (F0 m (pc + 1) ls (.int v :: rest))) : W p l e R s m args below meth c H locs cells slots Q (F0 m pc ls (.int (nI k) :: .ref a :: rest)) := by
  refine va_zald hexec hb hK hP q0 t0 ha ht (vp_in_nI hk hn) hdg ?_
  rw [nI_clamp (Nat.lt_trans hk hn), hv]
  exact kk
theorem z_lald (hexec : p.tables.exec = Jvm.exec) (hb : c.code = cc) (hK : va_K D cl tys s) (hP : va_P D cl ws H) (q0 t0 : Nat) {cA : ClassId} {n : Nat} {f : Nat → Int64} (ha : ws[q0]? = some (a, .inl (cA, n, .inr (.inl f)))) (ht : tys[t0]? = some (cA, .long)) {k : Nat} (hk : k < n) (hn : n < 2 ^ 31) {v : Int64} (hv : f k = v) (hdg : decode cc pc = .ok (.laload, 1))
    (kk : W p l e R s m args below meth c H locs cells slots Q (F0 m (pc + 1) ls (.long v :: rest))) : W p l e R s m args below meth c H locs cells slots Q (F0 m pc ls (.int (nI k) :: .ref a :: rest)) := by
  refine va_lald hexec hb hK hP q0 t0 ha ht (vp_in_nI hk hn) hdg ?_
  rw [nI_clamp (Nat.lt_trans hk hn), hv]
  exact kk
theorem z_iast (hexec : p.tables.exec = Jvm.exec) (hb : c.code = cc) (hK : va_K D cl tys s) (hP : va_P D cl ws H) (hD : va_D A ws) (hS : va_S A H0 H locs) (q0 t0 : Nat) {cA : ClassId} {n : Nat} {f : Nat → Int32} (ha : ws[q0]? = some (a, .inl (cA, n, .inl f))) (ht : tys[t0]? = some (cA, .int)) {k : Nat} {x : Int32} (hk : k < n) (hn : n < 2 ^ 31) {f' : Nat → Int32} (hv : upd f k x = f') {ws' : va_W} (hws : ws.set q0 (a, .inl (cA, n, .inl f')) = ws') (hdg : decode cc pc = .ok (.iastore, 1))
    (kk : ∀ (H : Heap) (locs : List Loc), va_P D cl ws' H → va_D A ws' → va_S A H0 H locs → W p l e R s m args below meth c H locs cells slots Q (F0 m (pc + 1) ls rest)) : W p l e R s m args below meth c H locs cells slots Q (F0 m pc ls (.int x :: .int (nI k) :: .ref a :: rest)) := by
  refine va_iast hexec hb hK hP hD hS q0 t0 ha ht (vp_in_nI hk hn) hdg ?_
  rw [nI_clamp (Nat.lt_trans hk hn), hv, hws]
  exact kk
theorem z_zast (hexec : p.tables.exec = Jvm.exec) (hb : c.code = cc) (hK : va_K D cl tys s) (hP : va_P D cl ws H) (hD : va_D A ws) (hS : va_S A H0 H locs) (q0 t0 : Nat) {cA : ClassId} {n : Nat} {f : Nat → Int32} (ha : ws[q0]? = some (a, .inl (cA, n, .inl f))) (ht : tys[t0]? = some (cA, .boolean)) {k : Nat} {x : Bool} (hk : k < n) (hn : n < 2 ^ 31) {f' : Nat → Int32} (hv : upd f k (zB x) = f') {ws' : va_W} (hws : ws.set q0 (a, .inl (cA, n, .inl f')) = ws') (hdg : decode cc pc = .ok (.bastore, 1))
    (kk : ∀ (H : Heap) (locs : List Loc), va_P D cl ws' H → va_D A ws' → va_S A H0 H locs → W p l e R s m args below meth c H locs cells slots Q (F0 m (pc + 1) ls rest)) : W p l e R s m args below meth c H locs cells slots Q (F0 m pc ls (.int (zB x) :: .int (nI k) :: .ref a :: rest)) := by
  refine va_zast hexec hb hK hP hD hS q0 t0 ha ht (vp_in_nI hk hn) hdg ?_
  rw [nI_clamp (Nat.lt_trans hk hn), zB_vnar, hv, hws]
  exact kk
theorem z_last (hexec : p.tables.exec = Jvm.exec) (hb : c.code = cc) (hK : va_K D cl tys s) (hP : va_P D cl ws H) (hD : va_D A ws) (hS : va_S A H0 H locs) (q0 t0 : Nat) {cA : ClassId} {n : Nat} {f : Nat → Int64} (ha : ws[q0]? = some (a, .inl (cA, n, .inr (.inl f)))) (ht : tys[t0]? = some (cA, .long)) {k : Nat} {x : Int64} (hk : k < n) (hn : n < 2 ^ 31) {f' : Nat → Int64} (hv : vp_updL f k x = f') {ws' : va_W} (hws : ws.set q0 (a, .inl (cA, n, .inr (.inl f'))) = ws') (hdg : decode cc pc = .ok (.lastore, 1))
    (kk : ∀ (H : Heap) (locs : List Loc), va_P D cl ws' H → va_D A ws' → va_S A H0 H locs → W p l e R s m args below meth c H locs cells slots Q (F0 m (pc + 1) ls rest)) : W p l e R s m args below meth c H locs cells slots Q (F0 m pc ls (.long x :: .int (nI k) :: .ref a :: rest)) := by
  refine va_last hexec hb hK hP hD hS q0 t0 ha ht (vp_in_nI hk hn) hdg ?_
  rw [nI_clamp (Nat.lt_trans hk hn), hv, hws]
  exact kk
theorem z_ge (hexec : p.tables.exec = Jvm.exec) (hb : c.code = cc) {x y : Nat} (hxx : x < 2 ^ 31) (hyy : y < 2 ^ 31) {off : Int} {tgt : Nat} (hdg : decode cc pc = .ok (.if_icmp .ge off, 3)) (ht : (pc : Int) + off = (tgt : Int))
    (kt : y ≤ x → W p l e R s m args below meth c H locs cells slots Q (F0 m tgt ls rest)) (kf : x < y → W p l e R s m args below meth c H locs cells slots Q (F0 m (pc + 3) ls rest)) : W p l e R s m args below meth c H locs cells slots Q (F0 m pc ls (.int (nI y) :: .int (nI x) :: rest)) :=
  lv_icmp_ge hexec hb hdg ht (fun h => kt ((nI_leI hyy hxx).mp h)) (fun h => kf (Nat.not_le.mp fun q => h ((nI_leI hyy hxx).mpr q)))
theorem z_lt (hexec : p.tables.exec = Jvm.exec) (hb : c.code = cc) {x y : Nat} (hxx : x < 2 ^ 31) (hyy : y < 2 ^ 31) {off : Int} {tgt : Nat} (hdg : decode cc pc = .ok (.if_icmp .lt off, 3)) (ht : (pc : Int) + off = (tgt : Int))
    (kt : x < y → W p l e R s m args below meth c H locs cells slots Q (F0 m tgt ls rest)) (kf : y ≤ x → W p l e R s m args below meth c H locs cells slots Q (F0 m (pc + 3) ls rest)) : W p l e R s m args below meth c H locs cells slots Q (F0 m pc ls (.int (nI y) :: .int (nI x) :: rest)) :=
  lv_icmp_lt hexec hb hdg ht (fun h => kt ((nI_ltI hxx hyy).mp h)) (fun h => kf (Nat.not_lt.mp fun q => h ((nI_ltI hxx hyy).mpr q)))
theorem z_eq (hexec : p.tables.exec = Jvm.exec) (hb : c.code = cc) {x y : Nat} (hxx : x < 2 ^ 31) (hyy : y < 2 ^ 31) {off : Int} {tgt : Nat} (hdg : decode cc pc = .ok (.if_icmp .eq off, 3)) (ht : (pc : Int) + off = (tgt : Int))
    (kt : x = y → W p l e R s m args below meth c H locs cells slots Q (F0 m tgt ls rest)) (kf : x ≠ y → W p l e R s m args below meth c H locs cells slots Q (F0 m (pc + 3) ls rest)) : W p l e R s m args below meth c H locs cells slots Q (F0 m pc ls (.int (nI y) :: .int (nI x) :: rest)) :=
  lv_icmp_eq hexec hb hdg ht (fun h => kt ((nI_eq hxx hyy).mp h)) (fun h => kf fun q => h ((nI_eq hxx hyy).mpr q))
theorem z_ne (hexec : p.tables.exec = Jvm.exec) (hb : c.code = cc) {x y : Nat} (hxx : x < 2 ^ 31) (hyy : y < 2 ^ 31) {off : Int} {tgt : Nat} (hdg : decode cc pc = .ok (.if_icmp .ne off, 3)) (ht : (pc : Int) + off = (tgt : Int))
    (kt : x ≠ y → W p l e R s m args below meth c H locs cells slots Q (F0 m tgt ls rest)) (kf : x = y → W p l e R s m args below meth c H locs cells slots Q (F0 m (pc + 3) ls rest)) : W p l e R s m args below meth c H locs cells slots Q (F0 m pc ls (.int (nI y) :: .int (nI x) :: rest)) :=
  lv_icmp_ne hexec hb hdg ht (fun h => kt fun q => h ((nI_eq hxx hyy).mpr q)) (fun h => kf ((nI_eq hxx hyy).mp h))
theorem z_ifeq (hexec : p.tables.exec = Jvm.exec) (hb : c.code = cc) {b : Bool} {off : Int} {tgt : Nat} (hdg : decode cc pc = .ok (.ifCond .eq off, 3)) (ht : (pc : Int) + off = (tgt : Int))
    (kt : b = false → W p l e R s m args below meth c H locs cells slots Q (F0 m tgt ls rest)) (kf : b = true → W p l e R s m args below meth c H locs cells slots Q (F0 m (pc + 3) ls rest)) : W p l e R s m args below meth c H locs cells slots Q (F0 m pc ls (.int (zB b) :: rest)) :=
  lv_if_eq hexec hb hdg ht (fun h => kt (zB_eq0.mp h)) (fun h => kf (by cases b; exact absurd rfl h; rfl))
theorem z_ifne (hexec : p.tables.exec = Jvm.exec) (hb : c.code = cc) {b : Bool} {off : Int} {tgt : Nat} (hdg : decode cc pc = .ok (.ifCond .ne off, 3)) (ht : (pc : Int) + off = (tgt : Int))
    (kt : b = true → W p l e R s m args below meth c H locs cells slots Q (F0 m tgt ls rest)) (kf : b = false → W p l e R s m args below meth c H locs cells slots Q (F0 m (pc + 3) ls rest)) : W p l e R s m args below meth c H locs cells slots Q (F0 m pc ls (.int (zB b) :: rest)) :=
  lv_if_ne hexec hb hdg ht (fun h => kt (by cases b; exact absurd rfl h; rfl)) (fun h => kf (zB_eq0.mp h))
end ZR
end
section
-- ===== PART A: goes FIRST, ahead of the names: the tables' words, and 'selects' of the private methods out of them =====
/-- a private method of a class that the tables say can be made, by its rows of tables_1 -/
def lw_okq (q : MethodName × Nat) : Prop := (q.1.cls ≠ "java/lang/invoke/MethodHandle" ∧ q.1.cls ≠ "java/lang/invoke/VarHandle") ∧ Cond.instantiable q.1.cls q.2 ∈ tables_1 ∧ Cond.privateMethod q.1 ∈ tables_1 ∧ Cond.instanceMethod q.1 ∈ tables_1
theorem lw_p0 : lw_okq (⟨"java/lang/Throwable", "fillInStackTrace", "(I)Ljava/lang/Throwable;"⟩, 6) := ⟨⟨by decide +kernel, by decide +kernel⟩, List.mem_of_getElem? (i := 226) (by decide +kernel), List.mem_of_getElem? (i := 224) (by decide +kernel), List.mem_of_getElem? (i := 225) (by decide +kernel)⟩
theorem lw_p1 : lw_okq (⟨"TourHouse", "forgetAnswers", "()V"⟩, 9) := ⟨⟨by decide +kernel, by decide +kernel⟩, List.mem_of_getElem? (i := 18) (by decide +kernel), List.mem_of_getElem? (i := 260) (by decide +kernel), List.mem_of_getElem? (i := 261) (by decide +kernel)⟩
theorem lw_p2 : lw_okq (⟨"TourHouse", "requireVertex", "(I)V"⟩, 9) := ⟨⟨by decide +kernel, by decide +kernel⟩, List.mem_of_getElem? (i := 18) (by decide +kernel), List.mem_of_getElem? (i := 276) (by decide +kernel), List.mem_of_getElem? (i := 277) (by decide +kernel)⟩
theorem lw_p3 : lw_okq (⟨"TourHouse", "useEachEdgeOnce", "()V"⟩, 9) := ⟨⟨by decide +kernel, by decide +kernel⟩, List.mem_of_getElem? (i := 18) (by decide +kernel), List.mem_of_getElem? (i := 353) (by decide +kernel), List.mem_of_getElem? (i := 354) (by decide +kernel)⟩
theorem lw_p4 : lw_okq (⟨"TourHouse", "writeLeastRow", "(I)V"⟩, 9) := ⟨⟨by decide +kernel, by decide +kernel⟩, List.mem_of_getElem? (i := 18) (by decide +kernel), List.mem_of_getElem? (i := 369) (by decide +kernel), List.mem_of_getElem? (i := 370) (by decide +kernel)⟩
theorem lw_p5 : lw_okq (⟨"TourHouse", "leastStepFrom", "(I)I"⟩, 9) := ⟨⟨by decide +kernel, by decide +kernel⟩, List.mem_of_getElem? (i := 18) (by decide +kernel), List.mem_of_getElem? (i := 373) (by decide +kernel), List.mem_of_getElem? (i := 374) (by decide +kernel)⟩
theorem lw_p6 : lw_okq (⟨"TourHouse", "leavesWhole", "(I)Z"⟩, 9) := ⟨⟨by decide +kernel, by decide +kernel⟩, List.mem_of_getElem? (i := 18) (by decide +kernel), List.mem_of_getElem? (i := 381) (by decide +kernel), List.mem_of_getElem? (i := 382) (by decide +kernel)⟩
theorem lw_p7 : lw_okq (⟨"TourHouse", "findExtras", "()V"⟩, 9) := ⟨⟨by decide +kernel, by decide +kernel⟩, List.mem_of_getElem? (i := 18) (by decide +kernel), List.mem_of_getElem? (i := 408) (by decide +kernel), List.mem_of_getElem? (i := 409) (by decide +kernel)⟩
theorem lw_p8 : lw_okq (⟨"TourHouse", "verdictOnPath", "(I)J"⟩, 9) := ⟨⟨by decide +kernel, by decide +kernel⟩, List.mem_of_getElem? (i := 18) (by decide +kernel), List.mem_of_getElem? (i := 513) (by decide +kernel), List.mem_of_getElem? (i := 514) (by decide +kernel)⟩
theorem lw_p9 : lw_okq (⟨"TourHouseModel", "throwing", "(ZZ)Z"⟩, 26) := ⟨⟨by decide +kernel, by decide +kernel⟩, List.mem_of_getElem? (i := 540) (by decide +kernel), List.mem_of_getElem? (i := 634) (by decide +kernel), List.mem_of_getElem? (i := 635) (by decide +kernel)⟩
theorem lw_p10 : lw_okq (⟨"TourHouseModel", "change", "()V"⟩, 26) := ⟨⟨by decide +kernel, by decide +kernel⟩, List.mem_of_getElem? (i := 540) (by decide +kernel), List.mem_of_getElem? (i := 638) (by decide +kernel), List.mem_of_getElem? (i := 639) (by decide +kernel)⟩
theorem lw_p11 : lw_okq (⟨"TourHouseModel", "isVertex", "(I)Z"⟩, 26) := ⟨⟨by decide +kernel, by decide +kernel⟩, List.mem_of_getElem? (i := 540) (by decide +kernel), List.mem_of_getElem? (i := 646) (by decide +kernel), List.mem_of_getElem? (i := 647) (by decide +kernel)⟩
theorem lw_p12 : lw_okq (⟨"TourHouseModel", "measure", "()V"⟩, 26) := ⟨⟨by decide +kernel, by decide +kernel⟩, List.mem_of_getElem? (i := 540) (by decide +kernel), List.mem_of_getElem? (i := 659) (by decide +kernel), List.mem_of_getElem? (i := 660) (by decide +kernel)⟩
theorem lw_p13 : lw_okq (⟨"TourHouseModel", "way", "(IJJ)V"⟩, 26) := ⟨⟨by decide +kernel, by decide +kernel⟩, List.mem_of_getElem? (i := 540) (by decide +kernel), List.mem_of_getElem? (i := 664) (by decide +kernel), List.mem_of_getElem? (i := 665) (by decide +kernel)⟩
theorem lw_p14 : lw_okq (⟨"TourHouseModel", "isLess", "(JJI)Z"⟩, 26) := ⟨⟨by decide +kernel, by decide +kernel⟩, List.mem_of_getElem? (i := 540) (by decide +kernel), List.mem_of_getElem? (i := 668) (by decide +kernel), List.mem_of_getElem? (i := 669) (by decide +kernel)⟩
theorem lw_p15 : lw_okq (⟨"TourHouseModel", "countOdd", "()I"⟩, 26) := ⟨⟨by decide +kernel, by decide +kernel⟩, List.mem_of_getElem? (i := 540) (by decide +kernel), List.mem_of_getElem? (i := 677) (by decide +kernel), List.mem_of_getElem? (i := 678) (by decide +kernel)⟩
def lw_privs_1 : List (MethodName × Nat) := [(⟨"java/lang/Throwable", "fillInStackTrace", "(I)Ljava/lang/Throwable;"⟩, 6), (⟨"TourHouse", "forgetAnswers", "()V"⟩, 9), (⟨"TourHouse", "requireVertex", "(I)V"⟩, 9), (⟨"TourHouse", "useEachEdgeOnce", "()V"⟩, 9), (⟨"TourHouse", "writeLeastRow", "(I)V"⟩, 9), (⟨"TourHouse", "leastStepFrom", "(I)I"⟩, 9), (⟨"TourHouse", "leavesWhole", "(I)Z"⟩, 9), (⟨"TourHouse", "findExtras", "()V"⟩, 9), (⟨"TourHouse", "verdictOnPath", "(I)J"⟩, 9), (⟨"TourHouseModel", "throwing", "(ZZ)Z"⟩, 26), (⟨"TourHouseModel", "change", "()V"⟩, 26), (⟨"TourHouseModel", "isVertex", "(I)Z"⟩, 26), (⟨"TourHouseModel", "measure", "()V"⟩, 26), (⟨"TourHouseModel", "way", "(IJJ)V"⟩, 26), (⟨"TourHouseModel", "isLess", "(JJI)Z"⟩, 26), (⟨"TourHouseModel", "countOdd", "()I"⟩, 26)]
theorem lw_r1 : ∀ q ∈ lw_privs_1, lw_okq q := List.forall_mem_cons.mpr ⟨lw_p0, List.forall_mem_cons.mpr ⟨lw_p1, List.forall_mem_cons.mpr ⟨lw_p2, List.forall_mem_cons.mpr ⟨lw_p3, List.forall_mem_cons.mpr ⟨lw_p4, List.forall_mem_cons.mpr ⟨lw_p5, List.forall_mem_cons.mpr ⟨lw_p6, List.forall_mem_cons.mpr ⟨lw_p7, List.forall_mem_cons.mpr ⟨lw_p8, List.forall_mem_cons.mpr ⟨lw_p9, List.forall_mem_cons.mpr ⟨lw_p10, List.forall_mem_cons.mpr ⟨lw_p11, List.forall_mem_cons.mpr ⟨lw_p12, List.forall_mem_cons.mpr ⟨lw_p13, List.forall_mem_cons.mpr ⟨lw_p14, List.forall_mem_cons.mpr ⟨lw_p15, fun _ h => absurd h List.not_mem_nil⟩⟩⟩⟩⟩⟩⟩⟩⟩⟩⟩⟩⟩⟩⟩⟩
theorem lw_p16 : lw_okq (⟨"TourHouseModel", "isOdd", "(I)Z"⟩, 26) := ⟨⟨by decide +kernel, by decide +kernel⟩, List.mem_of_getElem? (i := 540) (by decide +kernel), List.mem_of_getElem? (i := 681) (by decide +kernel), List.mem_of_getElem? (i := 682) (by decide +kernel)⟩
theorem lw_p17 : lw_okq (⟨"TourHouseModel", "balance", "(I)I"⟩, 26) := ⟨⟨by decide +kernel, by decide +kernel⟩, List.mem_of_getElem? (i := 540) (by decide +kernel), List.mem_of_getElem? (i := 685) (by decide +kernel), List.mem_of_getElem? (i := 686) (by decide +kernel)⟩
theorem lw_p18 : lw_okq (⟨"TourHouseModel", "leaveOne", "()V"⟩, 26) := ⟨⟨by decide +kernel, by decide +kernel⟩, List.mem_of_getElem? (i := 540) (by decide +kernel), List.mem_of_getElem? (i := 689) (by decide +kernel), List.mem_of_getElem? (i := 690) (by decide +kernel)⟩
theorem lw_p19 : lw_okq (⟨"TourHouseModel", "hang", "(I)Z"⟩, 26) := ⟨⟨by decide +kernel, by decide +kernel⟩, List.mem_of_getElem? (i := 540) (by decide +kernel), List.mem_of_getElem? (i := 693) (by decide +kernel), List.mem_of_getElem? (i := 694) (by decide +kernel)⟩
theorem lw_p20 : lw_okq (⟨"TourHouseModel", "groups", "()V"⟩, 26) := ⟨⟨by decide +kernel, by decide +kernel⟩, List.mem_of_getElem? (i := 540) (by decide +kernel), List.mem_of_getElem? (i := 697) (by decide +kernel), List.mem_of_getElem? (i := 698) (by decide +kernel)⟩
theorem lw_p21 : lw_okq (⟨"TourHouseModel", "walk", "(I)V"⟩, 26) := ⟨⟨by decide +kernel, by decide +kernel⟩, List.mem_of_getElem? (i := 540) (by decide +kernel), List.mem_of_getElem? (i := 701) (by decide +kernel), List.mem_of_getElem? (i := 702) (by decide +kernel)⟩
theorem lw_p22 : lw_okq (⟨"TourHouseModel", "goes", "(II)I"⟩, 26) := ⟨⟨by decide +kernel, by decide +kernel⟩, List.mem_of_getElem? (i := 540) (by decide +kernel), List.mem_of_getElem? (i := 705) (by decide +kernel), List.mem_of_getElem? (i := 706) (by decide +kernel)⟩
theorem lw_p23 : lw_okq (⟨"TourHouseModel", "covers", "(I)Z"⟩, 26) := ⟨⟨by decide +kernel, by decide +kernel⟩, List.mem_of_getElem? (i := 540) (by decide +kernel), List.mem_of_getElem? (i := 713) (by decide +kernel), List.mem_of_getElem? (i := 714) (by decide +kernel)⟩
theorem lw_p24 : lw_okq (⟨"TourHouseModel", "hasEdge", "(I)Z"⟩, 26) := ⟨⟨by decide +kernel, by decide +kernel⟩, List.mem_of_getElem? (i := 540) (by decide +kernel), List.mem_of_getElem? (i := 717) (by decide +kernel), List.mem_of_getElem? (i := 718) (by decide +kernel)⟩
theorem lw_p25 : lw_okq (⟨"TourHouseModel", "flow", "()V"⟩, 26) := ⟨⟨by decide +kernel, by decide +kernel⟩, List.mem_of_getElem? (i := 540) (by decide +kernel), List.mem_of_getElem? (i := 721) (by decide +kernel), List.mem_of_getElem? (i := 722) (by decide +kernel)⟩
theorem lw_p26 : lw_okq (⟨"TourHouseModel", "spread", "()V"⟩, 26) := ⟨⟨by decide +kernel, by decide +kernel⟩, List.mem_of_getElem? (i := 540) (by decide +kernel), List.mem_of_getElem? (i := 725) (by decide +kernel), List.mem_of_getElem? (i := 726) (by decide +kernel)⟩
theorem lw_p27 : lw_okq (⟨"TourHouseModel", "reach", "(IIII)Z"⟩, 26) := ⟨⟨by decide +kernel, by decide +kernel⟩, List.mem_of_getElem? (i := 540) (by decide +kernel), List.mem_of_getElem? (i := 729) (by decide +kernel), List.mem_of_getElem? (i := 730) (by decide +kernel)⟩
theorem lw_p28 : lw_okq (⟨"TourHouseModel", "addEdge", "(III)V"⟩, 26) := ⟨⟨by decide +kernel, by decide +kernel⟩, List.mem_of_getElem? (i := 540) (by decide +kernel), List.mem_of_getElem? (i := 733) (by decide +kernel), List.mem_of_getElem? (i := 734) (by decide +kernel)⟩
theorem lw_p29 : lw_okq (⟨"TourHouseModel", "isSumLess", "(I)Z"⟩, 26) := ⟨⟨by decide +kernel, by decide +kernel⟩, List.mem_of_getElem? (i := 540) (by decide +kernel), List.mem_of_getElem? (i := 737) (by decide +kernel), List.mem_of_getElem? (i := 738) (by decide +kernel)⟩
theorem lw_p30 : lw_okq (⟨"TourHouseModel", "nearest", "()I"⟩, 26) := ⟨⟨by decide +kernel, by decide +kernel⟩, List.mem_of_getElem? (i := 540) (by decide +kernel), List.mem_of_getElem? (i := 741) (by decide +kernel), List.mem_of_getElem? (i := 742) (by decide +kernel)⟩
theorem lw_p31 : lw_okq (⟨"TourHouseModel", "pair", "()V"⟩, 26) := ⟨⟨by decide +kernel, by decide +kernel⟩, List.mem_of_getElem? (i := 540) (by decide +kernel), List.mem_of_getElem? (i := 745) (by decide +kernel), List.mem_of_getElem? (i := 746) (by decide +kernel)⟩
def lw_privs_2 : List (MethodName × Nat) := [(⟨"TourHouseModel", "isOdd", "(I)Z"⟩, 26), (⟨"TourHouseModel", "balance", "(I)I"⟩, 26), (⟨"TourHouseModel", "leaveOne", "()V"⟩, 26), (⟨"TourHouseModel", "hang", "(I)Z"⟩, 26), (⟨"TourHouseModel", "groups", "()V"⟩, 26), (⟨"TourHouseModel", "walk", "(I)V"⟩, 26), (⟨"TourHouseModel", "goes", "(II)I"⟩, 26), (⟨"TourHouseModel", "covers", "(I)Z"⟩, 26), (⟨"TourHouseModel", "hasEdge", "(I)Z"⟩, 26), (⟨"TourHouseModel", "flow", "()V"⟩, 26), (⟨"TourHouseModel", "spread", "()V"⟩, 26), (⟨"TourHouseModel", "reach", "(IIII)Z"⟩, 26), (⟨"TourHouseModel", "addEdge", "(III)V"⟩, 26), (⟨"TourHouseModel", "isSumLess", "(I)Z"⟩, 26), (⟨"TourHouseModel", "nearest", "()I"⟩, 26), (⟨"TourHouseModel", "pair", "()V"⟩, 26)]
theorem lw_r2 : ∀ q ∈ lw_privs_2, lw_okq q := List.forall_mem_cons.mpr ⟨lw_p16, List.forall_mem_cons.mpr ⟨lw_p17, List.forall_mem_cons.mpr ⟨lw_p18, List.forall_mem_cons.mpr ⟨lw_p19, List.forall_mem_cons.mpr ⟨lw_p20, List.forall_mem_cons.mpr ⟨lw_p21, List.forall_mem_cons.mpr ⟨lw_p22, List.forall_mem_cons.mpr ⟨lw_p23, List.forall_mem_cons.mpr ⟨lw_p24, List.forall_mem_cons.mpr ⟨lw_p25, List.forall_mem_cons.mpr ⟨lw_p26, List.forall_mem_cons.mpr ⟨lw_p27, List.forall_mem_cons.mpr ⟨lw_p28, List.forall_mem_cons.mpr ⟨lw_p29, List.forall_mem_cons.mpr ⟨lw_p30, List.forall_mem_cons.mpr ⟨lw_p31, fun _ h => absurd h List.not_mem_nil⟩⟩⟩⟩⟩⟩⟩⟩⟩⟩⟩⟩⟩⟩⟩⟩
theorem lw_p32 : lw_okq (⟨"TourHouseModel", "pairSet", "(I)V"⟩, 26) := ⟨⟨by decide +kernel, by decide +kernel⟩, List.mem_of_getElem? (i := 540) (by decide +kernel), List.mem_of_getElem? (i := 749) (by decide +kernel), List.mem_of_getElem? (i := 750) (by decide +kernel)⟩
theorem lw_p33 : lw_okq (⟨"TourHouseModel", "leastOdd", "()I"⟩, 26) := ⟨⟨by decide +kernel, by decide +kernel⟩, List.mem_of_getElem? (i := 540) (by decide +kernel), List.mem_of_getElem? (i := 775) (by decide +kernel), List.mem_of_getElem? (i := 776) (by decide +kernel)⟩
theorem lw_p34 : lw_okq (⟨"TourHouseModel", "sets", "()I"⟩, 26) := ⟨⟨by decide +kernel, by decide +kernel⟩, List.mem_of_getElem? (i := 540) (by decide +kernel), List.mem_of_getElem? (i := 779) (by decide +kernel), List.mem_of_getElem? (i := 780) (by decide +kernel)⟩
theorem lw_p35 : lw_okq (⟨"TourHouseModel", "touched", "()I"⟩, 26) := ⟨⟨by decide +kernel, by decide +kernel⟩, List.mem_of_getElem? (i := 540) (by decide +kernel), List.mem_of_getElem? (i := 783) (by decide +kernel), List.mem_of_getElem? (i := 784) (by decide +kernel)⟩
def lw_privs_3 : List (MethodName × Nat) := [(⟨"TourHouseModel", "pairSet", "(I)V"⟩, 26), (⟨"TourHouseModel", "leastOdd", "()I"⟩, 26), (⟨"TourHouseModel", "sets", "()I"⟩, 26), (⟨"TourHouseModel", "touched", "()I"⟩, 26)]
theorem lw_r3 : ∀ q ∈ lw_privs_3, lw_okq q := List.forall_mem_cons.mpr ⟨lw_p32, List.forall_mem_cons.mpr ⟨lw_p33, List.forall_mem_cons.mpr ⟨lw_p34, List.forall_mem_cons.mpr ⟨lw_p35, fun _ h => absurd h List.not_mem_nil⟩⟩⟩⟩
def lw_privs : List (MethodName × Nat) := lw_privs_1 ++ (lw_privs_2 ++ (lw_privs_3))
def lw_tbl : List Cond := k2_sels lw_privs ++ tables_1
theorem lw_privs_ok : ∀ q ∈ lw_privs, lw_okq q := by
  show ∀ q ∈ lw_privs_1 ++ (lw_privs_2 ++ (lw_privs_3)), lw_okq q
  exact List.forall_mem_append.mpr ⟨lw_r1, List.forall_mem_append.mpr ⟨lw_r2, lw_r3⟩⟩
end
section
/-! ===== BEGIN words of one list among another's, by their places ===== -/
theorem goodIn_r {big : List Cond} (ws : List Cond) (ps : List Nat) (hp : ws = ps.filterMap (fun i => big[i]?)) (h : ws.all goodWord = true) : GoodIn big ws := by
  intro w hw
  have h1 := List.all_eq_true.mp h w hw
  rw [hp] at hw
  obtain ⟨i, -, hi⟩ := List.mem_filterMap.mp hw
  have hm : w ∈ big := by first | exact List.mem_of_getElem? hi | exact List.getElem?_mem hi
  exact ⟨hm, good_of_word h1⟩
theorem goodIn_app {big a b : List Cond} (ha : GoodIn big a) (hb : GoodIn big b) : GoodIn big (a ++ b) := fun w h => (List.mem_append.mp h).elim (ha w) (hb w)
theorem goodIn_ca {big a b : List Cond} {c : Cond} (ha : GoodIn big (c :: a)) (hb : GoodIn big b) : GoodIn big (c :: (a ++ b)) := fun w h => (List.mem_cons.mp h).elim (fun e => ha w (List.mem_cons.mpr (Or.inl e))) (fun h => (List.mem_append.mp h).elim (fun h => ha w (List.mem_cons.mpr (Or.inr h))) (hb w))
theorem goodIn_sub {big ws : List Cond} (hm : ∀ w ∈ ws, w ∈ big) (h : ws.all goodWord = true) : GoodIn big ws := fun w hw => ⟨hm w hw, good_of_word (List.all_eq_true.mp h w hw)⟩
/-! ===== END ===== -/
end
section
/-! ===== BEGIN printed: names, fields, word lists, decode rows ===== -/
def RX0 : String := "TourHouse$Balancing"
def TX0 : u_T := fun k => match k with
  | _ => ("TourHouse$Balancing", "surplus", "[I", true)
def tyX0 : Nat → FieldType := fun k => match k with
  | _ => .array .int
abbrev wsX00 : List Cond := u_ws RX0 TX0 1
theorem nmX0 : ∀ a, a < 1 → ∀ b, b < 1 → a ≠ b → (TX0 a).2.1 ≠ (TX0 b).2.1 := by decide +kernel
theorem tyX0_ok : ∀ k, k < 1 → parseFieldDescriptor (TX0 k).2.2.1 = some (tyX0 k) := by decide +kernel
abbrev cX0_init : ByteArray := prog_2_method_1_code
def yX0_init : MethodName := ⟨RX0, "<init>", "()V"⟩
abbrev cX0_find : ByteArray := prog_2_method_2_code
def yX0_find : MethodName := ⟨RX0, "find", "(LTourHouse$Graph;LTourHouse$Distances;[I)V"⟩
abbrev cX0_leastWithSign : ByteArray := prog_2_method_3_code
def yX0_leastWithSign : MethodName := ⟨RX0, "leastWithSign", "(II)I"⟩
abbrev cX0_addPassage : ByteArray := prog_2_method_4_code
def yX0_addPassage : MethodName := ⟨RX0, "addPassage", "(IILTourHouse$Graph;LTourHouse$Distances;[I)V"⟩
def RX1 : String := "TourHouse$Distances"
def TX1 : u_T := fun k => match k with
  | 0 => ("TourHouse$Distances", "reached", "[Z", true)
  | 1 => ("TourHouse$Distances", "cost", "[J", true)
  | 2 => ("TourHouse$Distances", "tie", "[J", true)
  | 3 => ("TourHouse$Distances", "lastStep", "[I", true)
  | 4 => ("TourHouse$Distances", "nothingToGiveBack", "[I", true)
  | _ => ("TourHouse$Distances", "changed", "Z", false)
def tyX1 : Nat → FieldType := fun k => match k with
  | 0 => .array .boolean
  | 1 => .array .long
  | 2 => .array .long
  | 3 => .array .int
  | 4 => .array .int
  | _ => .boolean
abbrev wsX10 : List Cond := u_ws RX1 TX1 6
theorem nmX1 : ∀ a, a < 6 → ∀ b, b < 6 → a ≠ b → (TX1 a).2.1 ≠ (TX1 b).2.1 := by decide +kernel
theorem tyX1_ok : ∀ k, k < 6 → parseFieldDescriptor (TX1 k).2.2.1 = some (tyX1 k) := by decide +kernel
abbrev cX1_init : ByteArray := prog_3_method_1_code
def yX1_init : MethodName := ⟨RX1, "<init>", "()V"⟩
abbrev cX1_searchFrom : ByteArray := prog_3_method_2_code
def yX1_searchFrom : MethodName := ⟨RX1, "searchFrom", "(ILTourHouse$Graph;)V"⟩
abbrev cX1_searchBesideExtras : ByteArray := prog_3_method_3_code
def yX1_searchBesideExtras : MethodName := ⟨RX1, "searchBesideExtras", "(ILTourHouse$Graph;[I)V"⟩
abbrev cX1_tryStep : ByteArray := prog_3_method_4_code
def yX1_tryStep : MethodName := ⟨RX1, "tryStep", "(IIIJJ)V"⟩
abbrev cX1_isLess : ByteArray := prog_3_method_5_code
def yX1_isLess : MethodName := ⟨RX1, "isLess", "(JJJJ)Z"⟩
def RX2 : String := "TourHouse$Graph"
def TX2 : u_T := fun k => match k with
  | 0 => ("TourHouse$Graph", "from", "[I", true)
  | 1 => ("TourHouse$Graph", "to", "[I", true)
  | 2 => ("TourHouse$Graph", "weight", "[I", true)
  | 3 => ("TourHouse$Graph", "directed", "Z", false)
  | 4 => ("TourHouse$Graph", "vertices", "I", false)
  | _ => ("TourHouse$Graph", "edges", "I", false)
def tyX2 : Nat → FieldType := fun k => match k with
  | 0 => .array .int
  | 1 => .array .int
  | 2 => .array .int
  | 3 => .boolean
  | 4 => .int
  | _ => .int
abbrev wsX20 : List Cond := u_ws RX2 TX2 6
theorem nmX2 : ∀ a, a < 6 → ∀ b, b < 6 → a ≠ b → (TX2 a).2.1 ≠ (TX2 b).2.1 := by decide +kernel
theorem tyX2_ok : ∀ k, k < 6 → parseFieldDescriptor (TX2 k).2.2.1 = some (tyX2 k) := by decide +kernel
abbrev cX2_init : ByteArray := prog_4_method_1_code
def yX2_init : MethodName := ⟨RX2, "<init>", "()V"⟩
abbrev cX2_begin : ByteArray := prog_4_method_2_code
def yX2_begin : MethodName := ⟨RX2, "begin", "(ZI)V"⟩
abbrev cX2_addEdge : ByteArray := prog_4_method_3_code
def yX2_addEdge : MethodName := ⟨RX2, "addEdge", "(III)V"⟩
abbrev cX2_removeLastEdge : ByteArray := prog_4_method_4_code
def yX2_removeLastEdge : MethodName := ⟨RX2, "removeLastEdge", "()V"⟩
abbrev cX2_isStepFrom : ByteArray := prog_4_method_5_code
def yX2_isStepFrom : MethodName := ⟨RX2, "isStepFrom", "(II)Z"⟩
abbrev cX2_endOf : ByteArray := prog_4_method_6_code
def yX2_endOf : MethodName := ⟨RX2, "endOf", "(I)I"⟩
abbrev cX2_surplusAt : ByteArray := prog_4_method_7_code
def yX2_surplusAt : MethodName := ⟨RX2, "surplusAt", "(I)I"⟩
abbrev cX2_oddVertices : ByteArray := prog_4_method_8_code
def yX2_oddVertices : MethodName := ⟨RX2, "oddVertices", "()I"⟩
abbrev cX2_touchedBy : ByteArray := prog_4_method_9_code
def yX2_touchedBy : MethodName := ⟨RX2, "touchedBy", "([I)I"⟩
abbrev cX2_reachOf : ByteArray := prog_4_method_10_code
def yX2_reachOf : MethodName := ⟨RX2, "reachOf", "(IZZ[I)I"⟩
abbrev cX2_hangsTogetherAt : ByteArray := prog_4_method_11_code
def yX2_hangsTogetherAt : MethodName := ⟨RX2, "hangsTogetherAt", "(I[I)Z"⟩
abbrev cX2_canBeCoveredFrom : ByteArray := prog_4_method_12_code
def yX2_canBeCoveredFrom : MethodName := ⟨RX2, "canBeCoveredFrom", "(I[I)Z"⟩
abbrev cX2_countRegions : ByteArray := prog_4_method_13_code
def yX2_countRegions : MethodName := ⟨RX2, "countRegions", "([I)I"⟩
def RX3 : String := "TourHouse$Pairing"
def TX3 : u_T := fun k => match k with
  | 0 => ("TourHouse$Pairing", "pairCost", "[[J", true)
  | 1 => ("TourHouse$Pairing", "pairTie", "[[J", true)
  | 2 => ("TourHouse$Pairing", "sets", "[I", true)
  | 3 => ("TourHouse$Pairing", "cost", "[J", true)
  | 4 => ("TourHouse$Pairing", "tie", "[J", true)
  | 5 => ("TourHouse$Pairing", "slots", "[I", true)
  | _ => ("TourHouse$Pairing", "count", "I", false)
def tyX3 : Nat → FieldType := fun k => match k with
  | 0 => .array (.array .long)
  | 1 => .array (.array .long)
  | 2 => .array .int
  | 3 => .array .long
  | 4 => .array .long
  | 5 => .array .int
  | _ => .int
abbrev wsX30 : List Cond := u_ws RX3 TX3 7
theorem nmX3 : ∀ a, a < 7 → ∀ b, b < 7 → a ≠ b → (TX3 a).2.1 ≠ (TX3 b).2.1 := by decide +kernel
theorem tyX3_ok : ∀ k, k < 7 → parseFieldDescriptor (TX3 k).2.2.1 = some (tyX3 k) := by decide +kernel
abbrev cX3_init : ByteArray := prog_5_method_1_code
def yX3_init : MethodName := ⟨RX3, "<init>", "()V"⟩
abbrev cX3_find : ByteArray := prog_5_method_2_code
def yX3_find : MethodName := ⟨RX3, "find", "(LTourHouse$Graph;LTourHouse$Distances;[I)V"⟩
abbrev cX3_measurePairs : ByteArray := prog_5_method_3_code
def yX3_measurePairs : MethodName := ⟨RX3, "measurePairs", "(ILTourHouse$Graph;LTourHouse$Distances;)V"⟩
abbrev cX3_tieOfLeastPairs : ByteArray := prog_5_method_4_code
def yX3_tieOfLeastPairs : MethodName := ⟨RX3, "tieOfLeastPairs", "(I)J"⟩
abbrev cX3_pairLeastVertex : ByteArray := prog_5_method_5_code
def yX3_pairLeastVertex : MethodName := ⟨RX3, "pairLeastVertex", "(I)V"⟩
abbrev cX3_offer : ByteArray := prog_5_method_6_code
def yX3_offer : MethodName := ⟨RX3, "offer", "(IJJ)V"⟩
abbrev cX3_slotOf : ByteArray := prog_5_method_7_code
def yX3_slotOf : MethodName := ⟨RX3, "slotOf", "(I)I"⟩
def RX4 : String := "TourHouse$StepRow"
def TX4 : u_T := fun k => match k with
  | 0 => ("TourHouse$StepRow", "steps", "[I", true)
  | _ => ("TourHouse$StepRow", "length", "I", false)
def tyX4 : Nat → FieldType := fun k => match k with
  | 0 => .array .int
  | _ => .int
abbrev wsX40 : List Cond := u_ws RX4 TX4 2
theorem nmX4 : ∀ a, a < 2 → ∀ b, b < 2 → a ≠ b → (TX4 a).2.1 ≠ (TX4 b).2.1 := by decide +kernel
theorem tyX4_ok : ∀ k, k < 2 → parseFieldDescriptor (TX4 k).2.2.1 = some (tyX4 k) := by decide +kernel
abbrev cX4_init : ByteArray := prog_6_method_1_code
def yX4_init : MethodName := ⟨RX4, "<init>", "(I)V"⟩
abbrev cX4_isFull : ByteArray := prog_6_method_2_code
def yX4_isFull : MethodName := ⟨RX4, "isFull", "()Z"⟩
abbrev cX4_append : ByteArray := prog_6_method_3_code
def yX4_append : MethodName := ⟨RX4, "append", "(I)V"⟩
abbrev cX4_clear : ByteArray := prog_6_method_4_code
def yX4_clear : MethodName := ⟨RX4, "clear", "()V"⟩
def RX5 : String := "TourHouse"
def TX5 : u_T := fun k => match k with
  | 0 => ("TourHouse", "graph", "LTourHouse$Graph;", true)
  | 1 => ("TourHouse", "latestRow", "LTourHouse$StepRow;", true)
  | 2 => ("TourHouse", "path", "LTourHouse$StepRow;", true)
  | 3 => ("TourHouse", "uses", "[I", true)
  | 4 => ("TourHouse", "extras", "[I", true)
  | 5 => ("TourHouse", "distances", "LTourHouse$Distances;", true)
  | 6 => ("TourHouse", "pairing", "LTourHouse$Pairing;", true)
  | 7 => ("TourHouse", "balancing", "LTourHouse$Balancing;", true)
  | _ => ("TourHouse", "extrasStand", "Z", false)
def tyX5 : Nat → FieldType := fun k => match k with
  | 0 => .object "TourHouse$Graph"
  | 1 => .object "TourHouse$StepRow"
  | 2 => .object "TourHouse$StepRow"
  | 3 => .array .int
  | 4 => .array .int
  | 5 => .object "TourHouse$Distances"
  | 6 => .object "TourHouse$Pairing"
  | 7 => .object "TourHouse$Balancing"
  | _ => .boolean
abbrev wsX50 : List Cond := u_ws RX5 TX5 9
theorem nmX5 : ∀ a, a < 9 → ∀ b, b < 9 → a ≠ b → (TX5 a).2.1 ≠ (TX5 b).2.1 := by decide +kernel
theorem tyX5_ok : ∀ k, k < 9 → parseFieldDescriptor (TX5 k).2.2.1 = some (tyX5 k) := by decide +kernel
abbrev cX5_init : ByteArray := prog_1_method_1_code
def yX5_init : MethodName := ⟨RX5, "<init>", "()V"⟩
abbrev cX5_reset : ByteArray := prog_1_method_2_code
def yX5_reset : MethodName := ⟨RX5, "reset", "(ZI)I"⟩
abbrev cX5_edge : ByteArray := prog_1_method_3_code
def yX5_edge : MethodName := ⟨RX5, "edge", "(III)I"⟩
abbrev cX5_drop : ByteArray := prog_1_method_4_code
def yX5_drop : MethodName := ⟨RX5, "drop", "()I"⟩
abbrev cX5_distance : ByteArray := prog_1_method_5_code
def yX5_distance : MethodName := ⟨RX5, "distance", "(II)J"⟩
abbrev cX5_tour : ByteArray := prog_1_method_6_code
def yX5_tour : MethodName := ⟨RX5, "tour", "(I)I"⟩
abbrev cX5_round : ByteArray := prog_1_method_7_code
def yX5_round : MethodName := ⟨RX5, "round", "(I)J"⟩
abbrev cX5_extra : ByteArray := prog_1_method_8_code
def yX5_extra : MethodName := ⟨RX5, "extra", "(I)I"⟩
abbrev cX5_row : ByteArray := prog_1_method_9_code
def yX5_row : MethodName := ⟨RX5, "row", "(I)I"⟩
abbrev cX5_step : ByteArray := prog_1_method_10_code
def yX5_step : MethodName := ⟨RX5, "step", "(I)I"⟩
abbrev cX5_judge : ByteArray := prog_1_method_11_code
def yX5_judge : MethodName := ⟨RX5, "judge", "(I)J"⟩
abbrev cX5_look : ByteArray := prog_1_method_12_code
def yX5_look : MethodName := ⟨RX5, "look", "(I)I"⟩
abbrev cX5_requireVertex : ByteArray := prog_1_method_13_code
def yX5_requireVertex : MethodName := ⟨RX5, "requireVertex", "(I)V"⟩
abbrev cX5_forgetAnswers : ByteArray := prog_1_method_14_code
def yX5_forgetAnswers : MethodName := ⟨RX5, "forgetAnswers", "()V"⟩
abbrev cX5_useEachEdgeOnce : ByteArray := prog_1_method_15_code
def yX5_useEachEdgeOnce : MethodName := ⟨RX5, "useEachEdgeOnce", "()V"⟩
abbrev cX5_findExtras : ByteArray := prog_1_method_16_code
def yX5_findExtras : MethodName := ⟨RX5, "findExtras", "()V"⟩
abbrev cX5_writeLeastRow : ByteArray := prog_1_method_17_code
def yX5_writeLeastRow : MethodName := ⟨RX5, "writeLeastRow", "(I)V"⟩
abbrev cX5_leastStepFrom : ByteArray := prog_1_method_18_code
def yX5_leastStepFrom : MethodName := ⟨RX5, "leastStepFrom", "(I)I"⟩
abbrev cX5_leavesWhole : ByteArray := prog_1_method_19_code
def yX5_leavesWhole : MethodName := ⟨RX5, "leavesWhole", "(I)Z"⟩
abbrev cX5_verdictOnPath : ByteArray := prog_1_method_20_code
def yX5_verdictOnPath : MethodName := ⟨RX5, "verdictOnPath", "(I)J"⟩
abbrev cX5_leastOf : ByteArray := prog_1_method_21_code
def yX5_leastOf : MethodName := ⟨RX5, "leastOf", "(I)I"⟩
def RX6 : String := "TourHouseModel"
def TX6 : u_T := fun k => match k with
  | 0 => ("TourHouseModel", "thrown", "I", false)
  | 1 => ("TourHouseModel", "directed", "Z", false)
  | 2 => ("TourHouseModel", "n", "I", false)
  | 3 => ("TourHouseModel", "m", "I", false)
  | 4 => ("TourHouseModel", "from", "[I", true)
  | 5 => ("TourHouseModel", "to", "[I", true)
  | 6 => ("TourHouseModel", "weight", "[I", true)
  | 7 => ("TourHouseModel", "row", "[I", true)
  | 8 => ("TourHouseModel", "rows", "I", false)
  | 9 => ("TourHouseModel", "path", "[I", true)
  | 10 => ("TourHouseModel", "steps", "I", false)
  | 11 => ("TourHouseModel", "hasRound", "Z", false)
  | 12 => ("TourHouseModel", "extra", "[I", true)
  | 13 => ("TourHouseModel", "far", "[J", true)
  | 14 => ("TourHouseModel", "bits", "[J", true)
  | 15 => ("TourHouseModel", "odd", "[I", true)
  | 16 => ("TourHouseModel", "odds", "I", false)
  | 17 => ("TourHouseModel", "setCost", "[J", true)
  | 18 => ("TourHouseModel", "setBits", "[J", true)
  | 19 => ("TourHouseModel", "surplus", "[I", true)
  | 20 => ("TourHouseModel", "ways", "[J", true)
  | 21 => ("TourHouseModel", "reached", "[Z", true)
  | 22 => ("TourHouseModel", "by", "[I", true)
  | 23 => ("TourHouseModel", "sum", "[J", true)
  | 24 => ("TourHouseModel", "left", "[I", true)
  | _ => ("TourHouseModel", "group", "[I", true)
def tyX6 : Nat → FieldType := fun k => match k with
  | 0 => .int
  | 1 => .boolean
  | 2 => .int
  | 3 => .int
  | 4 => .array .int
  | 5 => .array .int
  | 6 => .array .int
  | 7 => .array .int
  | 8 => .int
  | 9 => .array .int
  | 10 => .int
  | 11 => .boolean
  | 12 => .array .int
  | 13 => .array .long
  | 14 => .array .long
  | 15 => .array .int
  | 16 => .int
  | 17 => .array .long
  | 18 => .array .long
  | 19 => .array .int
  | 20 => .array .long
  | 21 => .array .boolean
  | 22 => .array .int
  | 23 => .array .long
  | 24 => .array .int
  | _ => .array .int
abbrev wsX60 : List Cond := u_ws RX6 TX6 26
theorem nmX6 : ∀ a, a < 26 → ∀ b, b < 26 → a ≠ b → (TX6 a).2.1 ≠ (TX6 b).2.1 := by decide +kernel
theorem tyX6_ok : ∀ k, k < 26 → parseFieldDescriptor (TX6 k).2.2.1 = some (tyX6 k) := by decide +kernel
abbrev cX6_init : ByteArray := prog_8_method_1_code
def yX6_init : MethodName := ⟨RX6, "<init>", "()V"⟩
abbrev cX6_thrown : ByteArray := prog_8_method_2_code
def yX6_thrown : MethodName := ⟨RX6, "thrown", "()I"⟩
abbrev cX6_throwing : ByteArray := prog_8_method_3_code
def yX6_throwing : MethodName := ⟨RX6, "throwing", "(ZZ)Z"⟩
abbrev cX6_isVertex : ByteArray := prog_8_method_4_code
def yX6_isVertex : MethodName := ⟨RX6, "isVertex", "(I)Z"⟩
abbrev cX6_change : ByteArray := prog_8_method_5_code
def yX6_change : MethodName := ⟨RX6, "change", "()V"⟩
abbrev cX6_reset : ByteArray := prog_8_method_6_code
def yX6_reset : MethodName := ⟨RX6, "reset", "(ZI)I"⟩
abbrev cX6_edge : ByteArray := prog_8_method_7_code
def yX6_edge : MethodName := ⟨RX6, "edge", "(III)I"⟩
abbrev cX6_drop : ByteArray := prog_8_method_8_code
def yX6_drop : MethodName := ⟨RX6, "drop", "()I"⟩
abbrev cX6_isLess : ByteArray := prog_8_method_9_code
def yX6_isLess : MethodName := ⟨RX6, "isLess", "(JJI)Z"⟩
abbrev cX6_way : ByteArray := prog_8_method_10_code
def yX6_way : MethodName := ⟨RX6, "way", "(IJJ)V"⟩
abbrev cX6_measure : ByteArray := prog_8_method_11_code
def yX6_measure : MethodName := ⟨RX6, "measure", "()V"⟩
abbrev cX6_distance : ByteArray := prog_8_method_12_code
def yX6_distance : MethodName := ⟨RX6, "distance", "(II)J"⟩
abbrev cX6_hasEdge : ByteArray := prog_8_method_13_code
def yX6_hasEdge : MethodName := ⟨RX6, "hasEdge", "(I)Z"⟩
abbrev cX6_groups : ByteArray := prog_8_method_14_code
def yX6_groups : MethodName := ⟨RX6, "groups", "()V"⟩
abbrev cX6_hang : ByteArray := prog_8_method_15_code
def yX6_hang : MethodName := ⟨RX6, "hang", "(I)Z"⟩
abbrev cX6_leaveOne : ByteArray := prog_8_method_16_code
def yX6_leaveOne : MethodName := ⟨RX6, "leaveOne", "()V"⟩
abbrev cX6_balance : ByteArray := prog_8_method_17_code
def yX6_balance : MethodName := ⟨RX6, "balance", "(I)I"⟩
abbrev cX6_isOdd : ByteArray := prog_8_method_18_code
def yX6_isOdd : MethodName := ⟨RX6, "isOdd", "(I)Z"⟩
abbrev cX6_countOdd : ByteArray := prog_8_method_19_code
def yX6_countOdd : MethodName := ⟨RX6, "countOdd", "()I"⟩
abbrev cX6_goes : ByteArray := prog_8_method_20_code
def yX6_goes : MethodName := ⟨RX6, "goes", "(II)I"⟩
abbrev cX6_walk : ByteArray := prog_8_method_21_code
def yX6_walk : MethodName := ⟨RX6, "walk", "(I)V"⟩
abbrev cX6_tour : ByteArray := prog_8_method_22_code
def yX6_tour : MethodName := ⟨RX6, "tour", "(I)I"⟩
abbrev cX6_pair : ByteArray := prog_8_method_23_code
def yX6_pair : MethodName := ⟨RX6, "pair", "()V"⟩
abbrev cX6_pairSet : ByteArray := prog_8_method_24_code
def yX6_pairSet : MethodName := ⟨RX6, "pairSet", "(I)V"⟩
abbrev cX6_addEdge : ByteArray := prog_8_method_25_code
def yX6_addEdge : MethodName := ⟨RX6, "addEdge", "(III)V"⟩
abbrev cX6_isSumLess : ByteArray := prog_8_method_26_code
def yX6_isSumLess : MethodName := ⟨RX6, "isSumLess", "(I)Z"⟩
abbrev cX6_reach : ByteArray := prog_8_method_27_code
def yX6_reach : MethodName := ⟨RX6, "reach", "(IIII)Z"⟩
abbrev cX6_spread : ByteArray := prog_8_method_28_code
def yX6_spread : MethodName := ⟨RX6, "spread", "()V"⟩
abbrev cX6_nearest : ByteArray := prog_8_method_29_code
def yX6_nearest : MethodName := ⟨RX6, "nearest", "()I"⟩
abbrev cX6_flow : ByteArray := prog_8_method_30_code
def yX6_flow : MethodName := ⟨RX6, "flow", "()V"⟩
abbrev cX6_covers : ByteArray := prog_8_method_31_code
def yX6_covers : MethodName := ⟨RX6, "covers", "(I)Z"⟩
abbrev cX6_round : ByteArray := prog_8_method_32_code
def yX6_round : MethodName := ⟨RX6, "round", "(I)J"⟩
abbrev cX6_extra : ByteArray := prog_8_method_33_code
def yX6_extra : MethodName := ⟨RX6, "extra", "(I)I"⟩
abbrev cX6_row : ByteArray := prog_8_method_34_code
def yX6_row : MethodName := ⟨RX6, "row", "(I)I"⟩
abbrev cX6_step : ByteArray := prog_8_method_35_code
def yX6_step : MethodName := ⟨RX6, "step", "(I)I"⟩
abbrev cX6_judge : ByteArray := prog_8_method_36_code
def yX6_judge : MethodName := ⟨RX6, "judge", "(I)J"⟩
abbrev cX6_sets : ByteArray := prog_8_method_37_code
def yX6_sets : MethodName := ⟨RX6, "sets", "()I"⟩
abbrev cX6_leastOdd : ByteArray := prog_8_method_38_code
def yX6_leastOdd : MethodName := ⟨RX6, "leastOdd", "()I"⟩
abbrev cX6_touched : ByteArray := prog_8_method_39_code
def yX6_touched : MethodName := ⟨RX6, "touched", "()I"⟩
abbrev cX6_look : ByteArray := prog_8_method_40_code
def yX6_look : MethodName := ⟨RX6, "look", "(I)I"⟩
def RJ6 : String := "java/lang/Integer"
def TJ6 : u_T := fun k => match k with
  | _ => ("", "", "", false)
def tyJ6 : Nat → FieldType := fun k => match k with
  | _ => .int
abbrev wsJ60 : List Cond := u_ws RJ6 TJ6 0
theorem nmJ6 : ∀ a, a < 0 → ∀ b, b < 0 → a ≠ b → (TJ6 a).2.1 ≠ (TJ6 b).2.1 := by decide +kernel
theorem tyJ6_ok : ∀ k, k < 0 → parseFieldDescriptor (TJ6 k).2.2.1 = some (tyJ6 k) := by decide +kernel
abbrev cJ6_bitCount_0f7a4 : ByteArray := prog_12_method_49_code
def yJ6_bitCount_0f7a4 : MethodName := ⟨RJ6, "bitCount", "(I)I"⟩
def RJ0 : String := "java/lang/String"
def TJ0 : u_T := fun k => match k with
  | _ => ("", "", "", false)
def tyJ0 : Nat → FieldType := fun k => match k with
  | _ => .int
abbrev wsJ00 : List Cond := u_ws RJ0 TJ0 0
theorem nmJ0 : ∀ a, a < 0 → ∀ b, b < 0 → a ≠ b → (TJ0 a).2.1 ≠ (TJ0 b).2.1 := by decide +kernel
theorem tyJ0_ok : ∀ k, k < 0 → parseFieldDescriptor (TJ0 k).2.2.1 = some (tyJ0 k) := by decide +kernel
def RJ10 : String := "java/lang/System"
def TJ10 : u_T := fun k => match k with
  | _ => ("", "", "", false)
def tyJ10 : Nat → FieldType := fun k => match k with
  | _ => .int
abbrev wsJ100 : List Cond := u_ws RJ10 TJ10 0
theorem nmJ10 : ∀ a, a < 0 → ∀ b, b < 0 → a ≠ b → (TJ10 a).2.1 ≠ (TJ10 b).2.1 := by decide +kernel
theorem tyJ10_ok : ∀ k, k < 0 → parseFieldDescriptor (TJ10 k).2.2.1 = some (tyJ10 k) := by decide +kernel
def RJ7 : String := "java/util/Arrays"
def TJ7 : u_T := fun k => match k with
  | _ => ("", "", "", false)
def tyJ7 : Nat → FieldType := fun k => match k with
  | _ => .int
abbrev wsJ70 : List Cond := u_ws RJ7 TJ7 0
theorem nmJ7 : ∀ a, a < 0 → ∀ b, b < 0 → a ≠ b → (TJ7 a).2.1 ≠ (TJ7 b).2.1 := by decide +kernel
theorem tyJ7_ok : ∀ k, k < 0 → parseFieldDescriptor (TJ7 k).2.2.1 = some (tyJ7 k) := by decide +kernel
abbrev cJ7_fill_53178 : ByteArray := prog_17_method_103_code
def yJ7_fill_53178 : MethodName := ⟨RJ7, "fill", "([II)V"⟩
def RL : String := "TourHouseLaw"
abbrev cL_reset : ByteArray := method_3_code
def yL_reset : MethodName := ⟨RL, "reset", "(LTourHouse;ZI[J)I"⟩
abbrev cL_edge : ByteArray := method_4_code
def yL_edge : MethodName := ⟨RL, "edge", "(LTourHouse;III[J)I"⟩
abbrev cL_drop : ByteArray := method_5_code
def yL_drop : MethodName := ⟨RL, "drop", "(LTourHouse;[J)I"⟩
abbrev cL_distance : ByteArray := method_6_code
def yL_distance : MethodName := ⟨RL, "distance", "(LTourHouse;II[J)I"⟩
abbrev cL_tour : ByteArray := method_7_code
def yL_tour : MethodName := ⟨RL, "tour", "(LTourHouse;I[J)I"⟩
abbrev cL_round : ByteArray := method_8_code
def yL_round : MethodName := ⟨RL, "round", "(LTourHouse;I[J)I"⟩
abbrev cL_extra : ByteArray := method_9_code
def yL_extra : MethodName := ⟨RL, "extra", "(LTourHouse;I[J)I"⟩
abbrev cL_row : ByteArray := method_10_code
def yL_row : MethodName := ⟨RL, "row", "(LTourHouse;I[J)I"⟩
abbrev cL_step : ByteArray := method_11_code
def yL_step : MethodName := ⟨RL, "step", "(LTourHouse;I[J)I"⟩
abbrev cL_judge : ByteArray := method_12_code
def yL_judge : MethodName := ⟨RL, "judge", "(LTourHouse;I[J)I"⟩
abbrev cL_look : ByteArray := method_13_code
def yL_look : MethodName := ⟨RL, "look", "(LTourHouse;I[J)I"⟩
abbrev cL_law : ByteArray := code
def yL_law : MethodName := ⟨RL, "law", "([I)Z"⟩
def wsX0_init : List Cond := .code yX0_init cX0_init 1 none :: ([.methodLink RX0 3 objectInit, .instanceMethod objectInit, .code objectInit ⟨#[0xb1]⟩ 1 none, .arrayClass .int, .fieldLink RX0 9 "TourHouse$Balancing" "surplus" "[I"] ++ wsX00)
def wsJ7_fill_53178 : List Cond := .code yJ7_fill_53178 cJ7_fill_53178 4 none :: ([])
def wsX2_surplusAt : List Cond := .code yX2_surplusAt cX2_surplusAt 4 (some .int) :: ([.fieldLink RX2 29 "TourHouse$Graph" "edges" "I", .fieldLink RX2 15 "TourHouse$Graph" "to" "[I", .fieldLink RX2 9 "TourHouse$Graph" "from" "[I"] ++ wsX20)
def wsX0_leastWithSign : List Cond := .code yX0_leastWithSign cX0_leastWithSign 4 (some .int) :: ([.fieldLink RX0 9 "TourHouse$Balancing" "surplus" "[I"] ++ wsX00)
def wsX1_isLess : List Cond := .code yX1_isLess cX1_isLess 8 (some .boolean) :: ([])
def wsX1_tryStep : List Cond := .code yX1_tryStep cX1_tryStep 12 none :: ([.fieldLink RX1 9 "TourHouse$Distances" "reached" "[Z", .fieldLink RX1 15 "TourHouse$Distances" "cost" "[J", .fieldLink RX1 19 "TourHouse$Distances" "tie" "[J", .fieldLink RX1 22 "TourHouse$Distances" "lastStep" "[I", .fieldLink RX1 29 "TourHouse$Distances" "changed" "Z", .methodLink RX1 59 yX1_isLess, .static yX1_isLess, .initialized RX1, .code yX1_isLess cX1_isLess 8 (some .boolean)] ++ wsX10)
def wsX1_searchBesideExtras : List Cond := .code yX1_searchBesideExtras cX1_searchBesideExtras 8 none :: ([.fieldLink RX1 9 "TourHouse$Distances" "reached" "[Z", .fieldLink RX1 15 "TourHouse$Distances" "cost" "[J", .fieldLink RX1 19 "TourHouse$Distances" "tie" "[J", .fieldLink RX1 29 "TourHouse$Distances" "changed" "Z", .fieldLink RX1 37 "TourHouse$Graph" "edges" "I", .fieldLink RX1 43 "TourHouse$Graph" "from" "[I", .fieldLink RX1 46 "TourHouse$Graph" "to" "[I", .fieldLink RX1 49 "TourHouse$Graph" "weight" "[I", .fieldLink RX1 56 "TourHouse$Graph" "directed" "Z", .methodLink RX1 52 yX1_tryStep, .instanceMethod yX1_tryStep, .selects RX1 yX1_tryStep yX1_tryStep, .initialized RX1, .code yX1_tryStep cX1_tryStep 12 none, .fieldLink RX1 22 "TourHouse$Distances" "lastStep" "[I", .methodLink RX1 59 yX1_isLess, .static yX1_isLess, .code yX1_isLess cX1_isLess 8 (some .boolean)] ++ wsX10 ++ wsX20)
def wsX0_addPassage : List Cond := .code yX0_addPassage cX0_addPassage 10 none :: ([.fieldLink RX0 45 "TourHouse$Distances" "lastStep" "[I", .fieldLink RX0 48 "TourHouse$Graph" "from" "[I", .fieldLink RX0 51 "TourHouse$Graph" "to" "[I"] ++ wsX10 ++ wsX20)
def wsX0_find_r1 : List Cond := [Cond.fieldLink RX0 21 "TourHouse$Graph" "vertices" "I", Cond.fieldLink RX0 9 "TourHouse$Balancing" "surplus" "[I", Cond.methodLink RX0 15 yJ7_fill_53178, Cond.static yJ7_fill_53178, Cond.initialized RJ7, Cond.code yJ7_fill_53178 cJ7_fill_53178 4 none, Cond.methodLink RX0 27 yX2_surplusAt, Cond.instanceMethod yX2_surplusAt, Cond.selects RX2 yX2_surplusAt yX2_surplusAt, Cond.initialized RX2, Cond.code yX2_surplusAt cX2_surplusAt 4 (some .int), Cond.fieldLink RX2 29 "TourHouse$Graph" "edges" "I", Cond.fieldLink RX2 15 "TourHouse$Graph" "to" "[I", Cond.fieldLink RX2 9 "TourHouse$Graph" "from" "[I", Cond.methodLink RX0 31 yX0_leastWithSign, Cond.instanceMethod yX0_leastWithSign, Cond.selects RX0 yX0_leastWithSign yX0_leastWithSign, Cond.initialized RX0, Cond.code yX0_leastWithSign cX0_leastWithSign 4 (some .int), Cond.methodLink RX0 35 yX1_searchBesideExtras, Cond.instanceMethod yX1_searchBesideExtras, Cond.selects RX1 yX1_searchBesideExtras yX1_searchBesideExtras, Cond.initialized RX1, Cond.code yX1_searchBesideExtras cX1_searchBesideExtras 8 none]
def wsX0_find_r2 : List Cond := [Cond.fieldLink RX1 9 "TourHouse$Distances" "reached" "[Z", Cond.fieldLink RX1 15 "TourHouse$Distances" "cost" "[J", Cond.fieldLink RX1 19 "TourHouse$Distances" "tie" "[J", Cond.fieldLink RX1 29 "TourHouse$Distances" "changed" "Z", Cond.fieldLink RX1 37 "TourHouse$Graph" "edges" "I", Cond.fieldLink RX1 43 "TourHouse$Graph" "from" "[I", Cond.fieldLink RX1 46 "TourHouse$Graph" "to" "[I", Cond.fieldLink RX1 49 "TourHouse$Graph" "weight" "[I", Cond.fieldLink RX1 56 "TourHouse$Graph" "directed" "Z", Cond.methodLink RX1 52 yX1_tryStep, Cond.instanceMethod yX1_tryStep, Cond.selects RX1 yX1_tryStep yX1_tryStep, Cond.code yX1_tryStep cX1_tryStep 12 none, Cond.fieldLink RX1 22 "TourHouse$Distances" "lastStep" "[I", Cond.methodLink RX1 59 yX1_isLess, Cond.static yX1_isLess, Cond.code yX1_isLess cX1_isLess 8 (some .boolean), Cond.methodLink RX0 41 yX0_addPassage, Cond.instanceMethod yX0_addPassage, Cond.selects RX0 yX0_addPassage yX0_addPassage, Cond.code yX0_addPassage cX0_addPassage 10 none, Cond.fieldLink RX0 45 "TourHouse$Distances" "lastStep" "[I", Cond.fieldLink RX0 48 "TourHouse$Graph" "from" "[I", Cond.fieldLink RX0 51 "TourHouse$Graph" "to" "[I"]
def wsX0_find : List Cond := .code yX0_find cX0_find 7 none :: ((wsX0_find_r1 ++ wsX0_find_r2) ++ wsX20 ++ wsX00 ++ wsX10)
def wsX1_init : List Cond := .code yX1_init cX1_init 1 none :: ([.methodLink RX1 3 objectInit, .instanceMethod objectInit, .code objectInit ⟨#[0xb1]⟩ 1 none, .arrayClass .boolean, .fieldLink RX1 9 "TourHouse$Distances" "reached" "[Z", .arrayClass .long, .fieldLink RX1 15 "TourHouse$Distances" "cost" "[J", .fieldLink RX1 19 "TourHouse$Distances" "tie" "[J", .arrayClass .int, .fieldLink RX1 22 "TourHouse$Distances" "lastStep" "[I", .fieldLink RX1 26 "TourHouse$Distances" "nothingToGiveBack" "[I", .fieldLink RX1 29 "TourHouse$Distances" "changed" "Z"] ++ wsX10)
def wsX1_searchFrom : List Cond := .code yX1_searchFrom cX1_searchFrom 3 none :: ([.fieldLink RX1 26 "TourHouse$Distances" "nothingToGiveBack" "[I", .methodLink RX1 33 yX1_searchBesideExtras, .instanceMethod yX1_searchBesideExtras, .selects RX1 yX1_searchBesideExtras yX1_searchBesideExtras, .initialized RX1, .code yX1_searchBesideExtras cX1_searchBesideExtras 8 none, .fieldLink RX1 9 "TourHouse$Distances" "reached" "[Z", .fieldLink RX1 15 "TourHouse$Distances" "cost" "[J", .fieldLink RX1 19 "TourHouse$Distances" "tie" "[J", .fieldLink RX1 29 "TourHouse$Distances" "changed" "Z", .fieldLink RX1 37 "TourHouse$Graph" "edges" "I", .fieldLink RX1 43 "TourHouse$Graph" "from" "[I", .fieldLink RX1 46 "TourHouse$Graph" "to" "[I", .fieldLink RX1 49 "TourHouse$Graph" "weight" "[I", .fieldLink RX1 56 "TourHouse$Graph" "directed" "Z", .methodLink RX1 52 yX1_tryStep, .instanceMethod yX1_tryStep, .selects RX1 yX1_tryStep yX1_tryStep, .code yX1_tryStep cX1_tryStep 12 none, .fieldLink RX1 22 "TourHouse$Distances" "lastStep" "[I", .methodLink RX1 59 yX1_isLess, .static yX1_isLess, .code yX1_isLess cX1_isLess 8 (some .boolean)] ++ wsX10 ++ wsX20)
def wsX2_init : List Cond := .code yX2_init cX2_init 1 none :: ([.methodLink RX2 3 objectInit, .instanceMethod objectInit, .code objectInit ⟨#[0xb1]⟩ 1 none, .arrayClass .int, .fieldLink RX2 9 "TourHouse$Graph" "from" "[I", .fieldLink RX2 15 "TourHouse$Graph" "to" "[I", .fieldLink RX2 18 "TourHouse$Graph" "weight" "[I", .fieldLink RX2 21 "TourHouse$Graph" "directed" "Z", .fieldLink RX2 25 "TourHouse$Graph" "vertices" "I", .fieldLink RX2 29 "TourHouse$Graph" "edges" "I"] ++ wsX20)
def wsX2_begin : List Cond := .code yX2_begin cX2_begin 3 none :: ([.fieldLink RX2 21 "TourHouse$Graph" "directed" "Z", .fieldLink RX2 25 "TourHouse$Graph" "vertices" "I", .fieldLink RX2 29 "TourHouse$Graph" "edges" "I"] ++ wsX20)
def wsX2_addEdge : List Cond := .code yX2_addEdge cX2_addEdge 4 none :: ([.fieldLink RX2 9 "TourHouse$Graph" "from" "[I", .fieldLink RX2 29 "TourHouse$Graph" "edges" "I", .fieldLink RX2 15 "TourHouse$Graph" "to" "[I", .fieldLink RX2 18 "TourHouse$Graph" "weight" "[I"] ++ wsX20)
def wsX2_removeLastEdge : List Cond := .code yX2_removeLastEdge cX2_removeLastEdge 1 none :: ([.fieldLink RX2 29 "TourHouse$Graph" "edges" "I"] ++ wsX20)
def wsX2_isStepFrom : List Cond := .code yX2_isStepFrom cX2_isStepFrom 4 (some .boolean) :: ([.fieldLink RX2 29 "TourHouse$Graph" "edges" "I", .fieldLink RX2 9 "TourHouse$Graph" "from" "[I", .fieldLink RX2 21 "TourHouse$Graph" "directed" "Z", .fieldLink RX2 15 "TourHouse$Graph" "to" "[I"] ++ wsX20)
def wsX2_endOf : List Cond := .code yX2_endOf cX2_endOf 2 (some .int) :: ([.fieldLink RX2 15 "TourHouse$Graph" "to" "[I", .fieldLink RX2 9 "TourHouse$Graph" "from" "[I"] ++ wsX20)
def wsX2_oddVertices : List Cond := .code yX2_oddVertices cX2_oddVertices 4 (some .int) :: ([.fieldLink RX2 25 "TourHouse$Graph" "vertices" "I", .fieldLink RX2 21 "TourHouse$Graph" "directed" "Z", .methodLink RX2 32 yX2_surplusAt, .instanceMethod yX2_surplusAt, .selects RX2 yX2_surplusAt yX2_surplusAt, .initialized RX2, .code yX2_surplusAt cX2_surplusAt 4 (some .int), .fieldLink RX2 29 "TourHouse$Graph" "edges" "I", .fieldLink RX2 15 "TourHouse$Graph" "to" "[I", .fieldLink RX2 9 "TourHouse$Graph" "from" "[I"] ++ wsX20)
def wsX2_touchedBy : List Cond := .code yX2_touchedBy cX2_touchedBy 4 (some .int) :: ([.fieldLink RX2 29 "TourHouse$Graph" "edges" "I", .fieldLink RX2 9 "TourHouse$Graph" "from" "[I", .fieldLink RX2 15 "TourHouse$Graph" "to" "[I"] ++ wsX20)
def wsX2_reachOf : List Cond := .code yX2_reachOf cX2_reachOf 9 (some .int) :: ([.fieldLink RX2 29 "TourHouse$Graph" "edges" "I", .fieldLink RX2 9 "TourHouse$Graph" "from" "[I", .fieldLink RX2 15 "TourHouse$Graph" "to" "[I"] ++ wsX20)
def wsX2_hangsTogetherAt : List Cond := .code yX2_hangsTogetherAt cX2_hangsTogetherAt 3 (some .boolean) :: ([.methodLink RX2 36 yX2_touchedBy, .instanceMethod yX2_touchedBy, .selects RX2 yX2_touchedBy yX2_touchedBy, .initialized RX2, .code yX2_touchedBy cX2_touchedBy 4 (some .int), .fieldLink RX2 29 "TourHouse$Graph" "edges" "I", .fieldLink RX2 9 "TourHouse$Graph" "from" "[I", .fieldLink RX2 15 "TourHouse$Graph" "to" "[I", .methodLink RX2 40 yX2_reachOf, .instanceMethod yX2_reachOf, .selects RX2 yX2_reachOf yX2_reachOf, .code yX2_reachOf cX2_reachOf 9 (some .int)] ++ wsX20)
def wsX2_canBeCoveredFrom : List Cond := .code yX2_canBeCoveredFrom cX2_canBeCoveredFrom 4 (some .boolean) :: ([.fieldLink RX2 21 "TourHouse$Graph" "directed" "Z", .methodLink RX2 36 yX2_touchedBy, .instanceMethod yX2_touchedBy, .selects RX2 yX2_touchedBy yX2_touchedBy, .initialized RX2, .code yX2_touchedBy cX2_touchedBy 4 (some .int), .fieldLink RX2 29 "TourHouse$Graph" "edges" "I", .fieldLink RX2 9 "TourHouse$Graph" "from" "[I", .fieldLink RX2 15 "TourHouse$Graph" "to" "[I", .methodLink RX2 40 yX2_reachOf, .instanceMethod yX2_reachOf, .selects RX2 yX2_reachOf yX2_reachOf, .code yX2_reachOf cX2_reachOf 9 (some .int)] ++ wsX20)
def wsX2_countRegions : List Cond := .code yX2_countRegions cX2_countRegions 5 (some .int) :: ([.fieldLink RX2 25 "TourHouse$Graph" "vertices" "I", .methodLink RX2 36 yX2_touchedBy, .instanceMethod yX2_touchedBy, .selects RX2 yX2_touchedBy yX2_touchedBy, .initialized RX2, .code yX2_touchedBy cX2_touchedBy 4 (some .int), .fieldLink RX2 29 "TourHouse$Graph" "edges" "I", .fieldLink RX2 9 "TourHouse$Graph" "from" "[I", .fieldLink RX2 15 "TourHouse$Graph" "to" "[I", .methodLink RX2 40 yX2_reachOf, .instanceMethod yX2_reachOf, .selects RX2 yX2_reachOf yX2_reachOf, .code yX2_reachOf cX2_reachOf 9 (some .int)] ++ wsX20)
def wsX3_init : List Cond := .code yX3_init cX3_init 1 none :: ([.methodLink RX3 5 objectInit, .instanceMethod objectInit, .code objectInit ⟨#[0xb1]⟩ 1 none, .classLink RX3 11 "[[J", .arrayClass .long, .fieldLink RX3 13 "TourHouse$Pairing" "pairCost" "[[J", .fieldLink RX3 16 "TourHouse$Pairing" "pairTie" "[[J", .arrayClass .int, .fieldLink RX3 19 "TourHouse$Pairing" "sets" "[I", .fieldLink RX3 23 "TourHouse$Pairing" "cost" "[J", .fieldLink RX3 27 "TourHouse$Pairing" "tie" "[J", .fieldLink RX3 30 "TourHouse$Pairing" "slots" "[I", .fieldLink RX3 33 "TourHouse$Pairing" "count" "I"] ++ wsX30)
def wsX3_measurePairs_r1 : List Cond := [Cond.fieldLink RX3 60 "TourHouse$Distances" "cost" "[J", Cond.fieldLink RX3 13 "TourHouse$Pairing" "pairCost" "[[J", Cond.methodLink RX3 61 arraycopyName, Cond.native arraycopyName, Cond.static arraycopyName, Cond.initialized "java/lang/System", Cond.fieldLink RX3 67 "TourHouse$Distances" "tie" "[J", Cond.fieldLink RX3 16 "TourHouse$Pairing" "pairTie" "[[J", Cond.methodLink RX3 54 yX1_searchFrom, Cond.instanceMethod yX1_searchFrom, Cond.selects RX1 yX1_searchFrom yX1_searchFrom, Cond.initialized RX1, Cond.code yX1_searchFrom cX1_searchFrom 3 none, Cond.fieldLink RX1 26 "TourHouse$Distances" "nothingToGiveBack" "[I", Cond.methodLink RX1 33 yX1_searchBesideExtras, Cond.instanceMethod yX1_searchBesideExtras, Cond.selects RX1 yX1_searchBesideExtras yX1_searchBesideExtras, Cond.code yX1_searchBesideExtras cX1_searchBesideExtras 8 none, Cond.fieldLink RX1 9 "TourHouse$Distances" "reached" "[Z", Cond.fieldLink RX1 15 "TourHouse$Distances" "cost" "[J", Cond.fieldLink RX1 19 "TourHouse$Distances" "tie" "[J", Cond.fieldLink RX1 29 "TourHouse$Distances" "changed" "Z", Cond.fieldLink RX1 37 "TourHouse$Graph" "edges" "I", Cond.fieldLink RX1 43 "TourHouse$Graph" "from" "[I"]
def wsX3_measurePairs_r2 : List Cond := [Cond.fieldLink RX1 46 "TourHouse$Graph" "to" "[I", Cond.fieldLink RX1 49 "TourHouse$Graph" "weight" "[I", Cond.fieldLink RX1 56 "TourHouse$Graph" "directed" "Z", Cond.methodLink RX1 52 yX1_tryStep, Cond.instanceMethod yX1_tryStep, Cond.selects RX1 yX1_tryStep yX1_tryStep, Cond.code yX1_tryStep cX1_tryStep 12 none, Cond.fieldLink RX1 22 "TourHouse$Distances" "lastStep" "[I", Cond.methodLink RX1 59 yX1_isLess, Cond.static yX1_isLess, Cond.code yX1_isLess cX1_isLess 8 (some .boolean)]
def wsX3_measurePairs : List Cond := .code yX3_measurePairs cX3_measurePairs 5 none :: ((wsX3_measurePairs_r1 ++ wsX3_measurePairs_r2) ++ wsX10 ++ wsX30 ++ wsX20)
def wsX3_slotOf : List Cond := .code yX3_slotOf cX3_slotOf 4 (some .int) :: ([.constant RX3 93 (-1640531535), .fieldLink RX3 30 "TourHouse$Pairing" "slots" "[I", .fieldLink RX3 19 "TourHouse$Pairing" "sets" "[I"] ++ wsX30)
def wsX3_offer : List Cond := .code yX3_offer cX3_offer 8 none :: ([.fieldLink RX3 30 "TourHouse$Pairing" "slots" "[I", .fieldLink RX3 33 "TourHouse$Pairing" "count" "I", .fieldLink RX3 19 "TourHouse$Pairing" "sets" "[I", .fieldLink RX3 23 "TourHouse$Pairing" "cost" "[J", .fieldLink RX3 27 "TourHouse$Pairing" "tie" "[J", .methodLink RX3 86 yX3_slotOf, .instanceMethod yX3_slotOf, .selects RX3 yX3_slotOf yX3_slotOf, .initialized RX3, .code yX3_slotOf cX3_slotOf 4 (some .int), .constant RX3 93 (-1640531535), .methodLink RX3 89 yX1_isLess, .static yX1_isLess, .initialized RX1, .code yX1_isLess cX1_isLess 8 (some .boolean)] ++ wsX30)
def wsX5_leastOf : List Cond := .code yX5_leastOf cX5_leastOf 2 (some .int) :: ([])
def wsX3_pairLeastVertex : List Cond := .code yX3_pairLeastVertex cX3_pairLeastVertex 5 none :: ([.fieldLink RX3 19 "TourHouse$Pairing" "sets" "[I", .fieldLink RX3 23 "TourHouse$Pairing" "cost" "[J", .fieldLink RX3 13 "TourHouse$Pairing" "pairCost" "[[J", .fieldLink RX3 27 "TourHouse$Pairing" "tie" "[J", .fieldLink RX3 16 "TourHouse$Pairing" "pairTie" "[[J", .static yX5_leastOf, .initialized RX5, .code yX5_leastOf cX5_leastOf 2 (some .int), .methodLink RX3 74 yX3_offer, .instanceMethod yX3_offer, .selects RX3 yX3_offer yX3_offer, .initialized RX3, .code yX3_offer cX3_offer 8 none, .fieldLink RX3 30 "TourHouse$Pairing" "slots" "[I", .fieldLink RX3 33 "TourHouse$Pairing" "count" "I", .methodLink RX3 86 yX3_slotOf, .instanceMethod yX3_slotOf, .selects RX3 yX3_slotOf yX3_slotOf, .code yX3_slotOf cX3_slotOf 4 (some .int), .constant RX3 93 (-1640531535), .methodLink RX3 89 yX1_isLess, .static yX1_isLess, .initialized RX1, .code yX1_isLess cX1_isLess 8 (some .boolean)] ++ wsX30)
def wsX3_tieOfLeastPairs_r1 : List Cond := [Cond.fieldLink RX3 30 "TourHouse$Pairing" "slots" "[I", Cond.fieldLink RX3 33 "TourHouse$Pairing" "count" "I", Cond.fieldLink RX3 19 "TourHouse$Pairing" "sets" "[I", Cond.fieldLink RX3 27 "TourHouse$Pairing" "tie" "[J", Cond.methodLink RX3 68 yJ7_fill_53178, Cond.static yJ7_fill_53178, Cond.initialized RJ7, Cond.code yJ7_fill_53178 cJ7_fill_53178 4 none, Cond.methodLink RX3 74 yX3_offer, Cond.instanceMethod yX3_offer, Cond.selects RX3 yX3_offer yX3_offer, Cond.initialized RX3, Cond.code yX3_offer cX3_offer 8 none, Cond.fieldLink RX3 23 "TourHouse$Pairing" "cost" "[J", Cond.methodLink RX3 86 yX3_slotOf, Cond.instanceMethod yX3_slotOf, Cond.selects RX3 yX3_slotOf yX3_slotOf, Cond.code yX3_slotOf cX3_slotOf 4 (some .int), Cond.constant RX3 93 (-1640531535), Cond.methodLink RX3 89 yX1_isLess, Cond.static yX1_isLess, Cond.initialized RX1, Cond.code yX1_isLess cX1_isLess 8 (some .boolean), Cond.methodLink RX3 78 yX3_pairLeastVertex]
def wsX3_tieOfLeastPairs_r2 : List Cond := [Cond.instanceMethod yX3_pairLeastVertex, Cond.selects RX3 yX3_pairLeastVertex yX3_pairLeastVertex, Cond.code yX3_pairLeastVertex cX3_pairLeastVertex 5 none, Cond.fieldLink RX3 13 "TourHouse$Pairing" "pairCost" "[[J", Cond.fieldLink RX3 16 "TourHouse$Pairing" "pairTie" "[[J", Cond.static yX5_leastOf, Cond.initialized RX5, Cond.code yX5_leastOf cX5_leastOf 2 (some .int)]
def wsX3_tieOfLeastPairs : List Cond := .code yX3_tieOfLeastPairs cX3_tieOfLeastPairs 3 (some .long) :: ((wsX3_tieOfLeastPairs_r1 ++ wsX3_tieOfLeastPairs_r2) ++ wsX30)
def wsX3_find_r1 : List Cond := [Cond.fieldLink RX3 51 "TourHouse$Graph" "edges" "I", Cond.methodLink RX3 37 yX2_oddVertices, Cond.instanceMethod yX2_oddVertices, Cond.selects RX2 yX2_oddVertices yX2_oddVertices, Cond.initialized RX2, Cond.code yX2_oddVertices cX2_oddVertices 4 (some .int), Cond.fieldLink RX2 25 "TourHouse$Graph" "vertices" "I", Cond.fieldLink RX2 21 "TourHouse$Graph" "directed" "Z", Cond.methodLink RX2 32 yX2_surplusAt, Cond.instanceMethod yX2_surplusAt, Cond.selects RX2 yX2_surplusAt yX2_surplusAt, Cond.code yX2_surplusAt cX2_surplusAt 4 (some .int), Cond.fieldLink RX2 29 "TourHouse$Graph" "edges" "I", Cond.fieldLink RX2 15 "TourHouse$Graph" "to" "[I", Cond.fieldLink RX2 9 "TourHouse$Graph" "from" "[I", Cond.methodLink RX3 43 yX3_measurePairs, Cond.instanceMethod yX3_measurePairs, Cond.selects RX3 yX3_measurePairs yX3_measurePairs, Cond.initialized RX3, Cond.code yX3_measurePairs cX3_measurePairs 5 none, Cond.fieldLink RX3 60 "TourHouse$Distances" "cost" "[J", Cond.fieldLink RX3 13 "TourHouse$Pairing" "pairCost" "[[J", Cond.methodLink RX3 61 arraycopyName, Cond.native arraycopyName]
def wsX3_find_r2 : List Cond := [Cond.static arraycopyName, Cond.initialized "java/lang/System", Cond.fieldLink RX3 67 "TourHouse$Distances" "tie" "[J", Cond.fieldLink RX3 16 "TourHouse$Pairing" "pairTie" "[[J", Cond.methodLink RX3 54 yX1_searchFrom, Cond.instanceMethod yX1_searchFrom, Cond.selects RX1 yX1_searchFrom yX1_searchFrom, Cond.initialized RX1, Cond.code yX1_searchFrom cX1_searchFrom 3 none, Cond.fieldLink RX1 26 "TourHouse$Distances" "nothingToGiveBack" "[I", Cond.methodLink RX1 33 yX1_searchBesideExtras, Cond.instanceMethod yX1_searchBesideExtras, Cond.selects RX1 yX1_searchBesideExtras yX1_searchBesideExtras, Cond.code yX1_searchBesideExtras cX1_searchBesideExtras 8 none, Cond.fieldLink RX1 9 "TourHouse$Distances" "reached" "[Z", Cond.fieldLink RX1 15 "TourHouse$Distances" "cost" "[J", Cond.fieldLink RX1 19 "TourHouse$Distances" "tie" "[J", Cond.fieldLink RX1 29 "TourHouse$Distances" "changed" "Z", Cond.fieldLink RX1 37 "TourHouse$Graph" "edges" "I", Cond.fieldLink RX1 43 "TourHouse$Graph" "from" "[I", Cond.fieldLink RX1 46 "TourHouse$Graph" "to" "[I", Cond.fieldLink RX1 49 "TourHouse$Graph" "weight" "[I", Cond.fieldLink RX1 56 "TourHouse$Graph" "directed" "Z", Cond.methodLink RX1 52 yX1_tryStep]
def wsX3_find_r3 : List Cond := [Cond.instanceMethod yX1_tryStep, Cond.selects RX1 yX1_tryStep yX1_tryStep, Cond.code yX1_tryStep cX1_tryStep 12 none, Cond.fieldLink RX1 22 "TourHouse$Distances" "lastStep" "[I", Cond.methodLink RX1 59 yX1_isLess, Cond.static yX1_isLess, Cond.code yX1_isLess cX1_isLess 8 (some .boolean), Cond.methodLink RX3 47 yX3_tieOfLeastPairs, Cond.instanceMethod yX3_tieOfLeastPairs, Cond.selects RX3 yX3_tieOfLeastPairs yX3_tieOfLeastPairs, Cond.code yX3_tieOfLeastPairs cX3_tieOfLeastPairs 3 (some .long), Cond.fieldLink RX3 30 "TourHouse$Pairing" "slots" "[I", Cond.fieldLink RX3 33 "TourHouse$Pairing" "count" "I", Cond.fieldLink RX3 19 "TourHouse$Pairing" "sets" "[I", Cond.fieldLink RX3 27 "TourHouse$Pairing" "tie" "[J", Cond.methodLink RX3 68 yJ7_fill_53178, Cond.static yJ7_fill_53178, Cond.initialized RJ7, Cond.code yJ7_fill_53178 cJ7_fill_53178 4 none, Cond.methodLink RX3 74 yX3_offer, Cond.instanceMethod yX3_offer, Cond.selects RX3 yX3_offer yX3_offer, Cond.code yX3_offer cX3_offer 8 none, Cond.fieldLink RX3 23 "TourHouse$Pairing" "cost" "[J"]
def wsX3_find_r4 : List Cond := [Cond.methodLink RX3 86 yX3_slotOf, Cond.instanceMethod yX3_slotOf, Cond.selects RX3 yX3_slotOf yX3_slotOf, Cond.code yX3_slotOf cX3_slotOf 4 (some .int), Cond.constant RX3 93 (-1640531535), Cond.methodLink RX3 89 yX1_isLess, Cond.methodLink RX3 78 yX3_pairLeastVertex, Cond.instanceMethod yX3_pairLeastVertex, Cond.selects RX3 yX3_pairLeastVertex yX3_pairLeastVertex, Cond.code yX3_pairLeastVertex cX3_pairLeastVertex 5 none, Cond.static yX5_leastOf, Cond.initialized RX5, Cond.code yX5_leastOf cX5_leastOf 2 (some .int)]
def wsX3_find : List Cond := .code yX3_find cX3_find 8 none :: ((wsX3_find_r1 ++ (wsX3_find_r2 ++ (wsX3_find_r3 ++ wsX3_find_r4))) ++ wsX20 ++ wsX10 ++ wsX30)
def wsX4_init : List Cond := .code yX4_init cX4_init 2 none :: ([.methodLink RX4 1 objectInit, .instanceMethod objectInit, .code objectInit ⟨#[0xb1]⟩ 1 none, .arrayClass .int, .fieldLink RX4 7 "TourHouse$StepRow" "steps" "[I", .fieldLink RX4 13 "TourHouse$StepRow" "length" "I"] ++ wsX40)
def wsX4_isFull : List Cond := .code yX4_isFull cX4_isFull 1 (some .boolean) :: ([.fieldLink RX4 13 "TourHouse$StepRow" "length" "I", .fieldLink RX4 7 "TourHouse$StepRow" "steps" "[I"] ++ wsX40)
def wsX4_append : List Cond := .code yX4_append cX4_append 2 none :: ([.fieldLink RX4 7 "TourHouse$StepRow" "steps" "[I", .fieldLink RX4 13 "TourHouse$StepRow" "length" "I", .methodLink RX4 17 yX4_isFull, .instanceMethod yX4_isFull, .selects RX4 yX4_isFull yX4_isFull, .initialized RX4, .code yX4_isFull cX4_isFull 1 (some .boolean)] ++ wsX40)
def wsX4_clear : List Cond := .code yX4_clear cX4_clear 1 none :: ([.fieldLink RX4 13 "TourHouse$StepRow" "length" "I"] ++ wsX40)
def wsX5_init_r1 : List Cond := [Cond.methodLink RX5 3 objectInit, Cond.instanceMethod objectInit, Cond.code objectInit ⟨#[0xb1]⟩ 1 none, Cond.classLink RX5 9 RX2, Cond.instantiable RX2 6, Cond.initialized RX2, Cond.fieldLink RX5 12 "TourHouse" "graph" "LTourHouse$Graph;", Cond.classLink RX5 16 RX4, Cond.instantiable RX4 2, Cond.initialized RX4, Cond.fieldLink RX5 21 "TourHouse" "latestRow" "LTourHouse$StepRow;", Cond.fieldLink RX5 25 "TourHouse" "path" "LTourHouse$StepRow;", Cond.arrayClass .int, Cond.fieldLink RX5 28 "TourHouse" "uses" "[I", Cond.fieldLink RX5 32 "TourHouse" "extras" "[I", Cond.classLink RX5 35 RX1, Cond.instantiable RX1 6, Cond.initialized RX1, Cond.fieldLink RX5 38 "TourHouse" "distances" "LTourHouse$Distances;", Cond.classLink RX5 42 RX3, Cond.instantiable RX3 7, Cond.initialized RX3, Cond.fieldLink RX5 45 "TourHouse" "pairing" "LTourHouse$Pairing;", Cond.classLink RX5 49 RX0]
def wsX5_init_r2 : List Cond := [Cond.instantiable RX0 1, Cond.initialized RX0, Cond.fieldLink RX5 52 "TourHouse" "balancing" "LTourHouse$Balancing;", Cond.fieldLink RX5 56 "TourHouse" "extrasStand" "Z", Cond.methodLink RX5 11 yX2_init, Cond.instanceMethod yX2_init, Cond.code yX2_init cX2_init 1 none, Cond.methodLink RX2 3 objectInit, Cond.fieldLink RX2 9 "TourHouse$Graph" "from" "[I", Cond.fieldLink RX2 15 "TourHouse$Graph" "to" "[I", Cond.fieldLink RX2 18 "TourHouse$Graph" "weight" "[I", Cond.fieldLink RX2 21 "TourHouse$Graph" "directed" "Z", Cond.fieldLink RX2 25 "TourHouse$Graph" "vertices" "I", Cond.fieldLink RX2 29 "TourHouse$Graph" "edges" "I", Cond.methodLink RX5 18 yX4_init, Cond.instanceMethod yX4_init, Cond.code yX4_init cX4_init 2 none, Cond.methodLink RX4 1 objectInit, Cond.fieldLink RX4 7 "TourHouse$StepRow" "steps" "[I", Cond.fieldLink RX4 13 "TourHouse$StepRow" "length" "I", Cond.methodLink RX5 37 yX1_init, Cond.instanceMethod yX1_init, Cond.code yX1_init cX1_init 1 none, Cond.methodLink RX1 3 objectInit]
def wsX5_init_r3 : List Cond := [Cond.arrayClass .boolean, Cond.fieldLink RX1 9 "TourHouse$Distances" "reached" "[Z", Cond.arrayClass .long, Cond.fieldLink RX1 15 "TourHouse$Distances" "cost" "[J", Cond.fieldLink RX1 19 "TourHouse$Distances" "tie" "[J", Cond.fieldLink RX1 22 "TourHouse$Distances" "lastStep" "[I", Cond.fieldLink RX1 26 "TourHouse$Distances" "nothingToGiveBack" "[I", Cond.fieldLink RX1 29 "TourHouse$Distances" "changed" "Z", Cond.methodLink RX5 44 yX3_init, Cond.instanceMethod yX3_init, Cond.code yX3_init cX3_init 1 none, Cond.methodLink RX3 5 objectInit, Cond.classLink RX3 11 "[[J", Cond.fieldLink RX3 13 "TourHouse$Pairing" "pairCost" "[[J", Cond.fieldLink RX3 16 "TourHouse$Pairing" "pairTie" "[[J", Cond.fieldLink RX3 19 "TourHouse$Pairing" "sets" "[I", Cond.fieldLink RX3 23 "TourHouse$Pairing" "cost" "[J", Cond.fieldLink RX3 27 "TourHouse$Pairing" "tie" "[J", Cond.fieldLink RX3 30 "TourHouse$Pairing" "slots" "[I", Cond.fieldLink RX3 33 "TourHouse$Pairing" "count" "I", Cond.methodLink RX5 51 yX0_init, Cond.instanceMethod yX0_init, Cond.code yX0_init cX0_init 1 none, Cond.methodLink RX0 3 objectInit]
def wsX5_init_r4 : List Cond := [Cond.fieldLink RX0 9 "TourHouse$Balancing" "surplus" "[I"]
def wsX5_init : List Cond := .code yX5_init cX5_init 1 none :: ((wsX5_init_r1 ++ (wsX5_init_r2 ++ (wsX5_init_r3 ++ wsX5_init_r4))) ++ wsX20 ++ wsX50 ++ wsX40 ++ wsX10 ++ wsX30 ++ wsX00)
def wsX5_forgetAnswers : List Cond := .code yX5_forgetAnswers cX5_forgetAnswers 1 none :: ([.fieldLink RX5 21 "TourHouse" "latestRow" "LTourHouse$StepRow;", .fieldLink RX5 56 "TourHouse" "extrasStand" "Z", .methodLink RX5 163 yX4_clear, .instanceMethod yX4_clear, .selects RX4 yX4_clear yX4_clear, .initialized RX4, .code yX4_clear cX4_clear 1 none, .fieldLink RX4 13 "TourHouse$StepRow" "length" "I"] ++ wsX50 ++ wsX40)
def wsX5_reset_r1 : List Cond := [Cond.classLink RX5 60 "java/lang/IllegalArgumentException", Cond.initialized "java/lang/IllegalArgumentException", Cond.fieldLink RX5 12 "TourHouse" "graph" "LTourHouse$Graph;", Cond.fieldLink RX5 67 "TourHouse$Graph" "edges" "I", Cond.methodLink RX5 71 yX2_begin, Cond.instanceMethod yX2_begin, Cond.selects RX2 yX2_begin yX2_begin, Cond.initialized RX2, Cond.code yX2_begin cX2_begin 3 none, Cond.fieldLink RX2 21 "TourHouse$Graph" "directed" "Z", Cond.fieldLink RX2 25 "TourHouse$Graph" "vertices" "I", Cond.fieldLink RX2 29 "TourHouse$Graph" "edges" "I", Cond.methodLink RX5 75 yX5_forgetAnswers, Cond.instanceMethod yX5_forgetAnswers, Cond.selects RX5 yX5_forgetAnswers yX5_forgetAnswers, Cond.initialized RX5, Cond.code yX5_forgetAnswers cX5_forgetAnswers 1 none, Cond.fieldLink RX5 21 "TourHouse" "latestRow" "LTourHouse$StepRow;", Cond.fieldLink RX5 56 "TourHouse" "extrasStand" "Z", Cond.methodLink RX5 163 yX4_clear, Cond.instanceMethod yX4_clear, Cond.selects RX4 yX4_clear yX4_clear, Cond.initialized RX4, Cond.code yX4_clear cX4_clear 1 none]
def wsX5_reset_r2 : List Cond := [Cond.fieldLink RX4 13 "TourHouse$StepRow" "length" "I"]
def wsX5_edge_r1 : List Cond := [Cond.classLink RX5 60 "java/lang/IllegalArgumentException", Cond.initialized "java/lang/IllegalArgumentException", Cond.classLink RX5 84 "java/lang/IllegalStateException", Cond.initialized "java/lang/IllegalStateException", Cond.constant RX5 81 (1000000000), Cond.fieldLink RX5 12 "TourHouse" "graph" "LTourHouse$Graph;", Cond.fieldLink RX5 67 "TourHouse$Graph" "edges" "I", Cond.methodLink RX5 78 yX5_requireVertex, Cond.instanceMethod yX5_requireVertex, Cond.selects RX5 yX5_requireVertex yX5_requireVertex, Cond.initialized RX5, Cond.code yX5_requireVertex cX5_requireVertex 2 none, Cond.fieldLink RX5 166 "TourHouse$Graph" "vertices" "I", Cond.methodLink RX5 89 yX2_addEdge, Cond.instanceMethod yX2_addEdge, Cond.selects RX2 yX2_addEdge yX2_addEdge, Cond.initialized RX2, Cond.code yX2_addEdge cX2_addEdge 4 none, Cond.fieldLink RX2 9 "TourHouse$Graph" "from" "[I", Cond.fieldLink RX2 29 "TourHouse$Graph" "edges" "I", Cond.fieldLink RX2 15 "TourHouse$Graph" "to" "[I", Cond.fieldLink RX2 18 "TourHouse$Graph" "weight" "[I", Cond.methodLink RX5 75 yX5_forgetAnswers, Cond.instanceMethod yX5_forgetAnswers]
def wsX5_edge_r2 : List Cond := [Cond.selects RX5 yX5_forgetAnswers yX5_forgetAnswers, Cond.code yX5_forgetAnswers cX5_forgetAnswers 1 none, Cond.fieldLink RX5 21 "TourHouse" "latestRow" "LTourHouse$StepRow;", Cond.fieldLink RX5 56 "TourHouse" "extrasStand" "Z", Cond.methodLink RX5 163 yX4_clear, Cond.instanceMethod yX4_clear, Cond.selects RX4 yX4_clear yX4_clear, Cond.initialized RX4, Cond.code yX4_clear cX4_clear 1 none, Cond.fieldLink RX4 13 "TourHouse$StepRow" "length" "I"]
def wsX5_distance_r1 : List Cond := [Cond.fieldLink RX5 38 "TourHouse" "distances" "LTourHouse$Distances;", Cond.fieldLink RX5 12 "TourHouse" "graph" "LTourHouse$Graph;", Cond.fieldLink RX5 102 "TourHouse$Distances" "reached" "[Z", Cond.fieldLink RX5 106 "TourHouse$Distances" "cost" "[J", Cond.constantLong RX5 110 (-1), Cond.methodLink RX5 78 yX5_requireVertex, Cond.instanceMethod yX5_requireVertex, Cond.selects RX5 yX5_requireVertex yX5_requireVertex, Cond.initialized RX5, Cond.code yX5_requireVertex cX5_requireVertex 2 none, Cond.classLink RX5 60 "java/lang/IllegalArgumentException", Cond.initialized "java/lang/IllegalArgumentException", Cond.fieldLink RX5 166 "TourHouse$Graph" "vertices" "I", Cond.methodLink RX5 98 yX1_searchFrom, Cond.instanceMethod yX1_searchFrom, Cond.selects RX1 yX1_searchFrom yX1_searchFrom, Cond.initialized RX1, Cond.code yX1_searchFrom cX1_searchFrom 3 none, Cond.fieldLink RX1 26 "TourHouse$Distances" "nothingToGiveBack" "[I", Cond.methodLink RX1 33 yX1_searchBesideExtras, Cond.instanceMethod yX1_searchBesideExtras, Cond.selects RX1 yX1_searchBesideExtras yX1_searchBesideExtras, Cond.code yX1_searchBesideExtras cX1_searchBesideExtras 8 none, Cond.fieldLink RX1 9 "TourHouse$Distances" "reached" "[Z"]
def wsX5_distance_r2 : List Cond := [Cond.fieldLink RX1 15 "TourHouse$Distances" "cost" "[J", Cond.fieldLink RX1 19 "TourHouse$Distances" "tie" "[J", Cond.fieldLink RX1 29 "TourHouse$Distances" "changed" "Z", Cond.fieldLink RX1 37 "TourHouse$Graph" "edges" "I", Cond.fieldLink RX1 43 "TourHouse$Graph" "from" "[I", Cond.fieldLink RX1 46 "TourHouse$Graph" "to" "[I", Cond.fieldLink RX1 49 "TourHouse$Graph" "weight" "[I", Cond.fieldLink RX1 56 "TourHouse$Graph" "directed" "Z", Cond.methodLink RX1 52 yX1_tryStep, Cond.instanceMethod yX1_tryStep, Cond.selects RX1 yX1_tryStep yX1_tryStep, Cond.code yX1_tryStep cX1_tryStep 12 none, Cond.fieldLink RX1 22 "TourHouse$Distances" "lastStep" "[I", Cond.methodLink RX1 59 yX1_isLess, Cond.static yX1_isLess, Cond.code yX1_isLess cX1_isLess 8 (some .boolean)]
def wsX5_useEachEdgeOnce : List Cond := .code yX5_useEachEdgeOnce cX5_useEachEdgeOnce 2 none :: ([.fieldLink RX5 12 "TourHouse" "graph" "LTourHouse$Graph;", .fieldLink RX5 67 "TourHouse$Graph" "edges" "I", .fieldLink RX5 28 "TourHouse" "uses" "[I"] ++ wsX50 ++ wsX20)
def wsX5_leavesWhole : List Cond := .code yX5_leavesWhole cX5_leavesWhole 4 (some .boolean) :: ([.fieldLink RX5 28 "TourHouse" "uses" "[I", .fieldLink RX5 12 "TourHouse" "graph" "LTourHouse$Graph;", .methodLink RX5 200 yX2_endOf, .instanceMethod yX2_endOf, .selects RX2 yX2_endOf yX2_endOf, .initialized RX2, .code yX2_endOf cX2_endOf 2 (some .int), .fieldLink RX2 15 "TourHouse$Graph" "to" "[I", .fieldLink RX2 9 "TourHouse$Graph" "from" "[I", .methodLink RX5 119 yX2_hangsTogetherAt, .instanceMethod yX2_hangsTogetherAt, .selects RX2 yX2_hangsTogetherAt yX2_hangsTogetherAt, .code yX2_hangsTogetherAt cX2_hangsTogetherAt 3 (some .boolean), .methodLink RX2 36 yX2_touchedBy, .instanceMethod yX2_touchedBy, .selects RX2 yX2_touchedBy yX2_touchedBy, .code yX2_touchedBy cX2_touchedBy 4 (some .int), .fieldLink RX2 29 "TourHouse$Graph" "edges" "I", .methodLink RX2 40 yX2_reachOf, .instanceMethod yX2_reachOf, .selects RX2 yX2_reachOf yX2_reachOf, .code yX2_reachOf cX2_reachOf 9 (some .int)] ++ wsX50 ++ wsX20)
def wsX5_leastStepFrom_r1 : List Cond := [Cond.fieldLink RX5 12 "TourHouse" "graph" "LTourHouse$Graph;", Cond.fieldLink RX5 67 "TourHouse$Graph" "edges" "I", Cond.fieldLink RX5 28 "TourHouse" "uses" "[I", Cond.methodLink RX5 203 yX2_isStepFrom, Cond.instanceMethod yX2_isStepFrom, Cond.selects RX2 yX2_isStepFrom yX2_isStepFrom, Cond.initialized RX2, Cond.code yX2_isStepFrom cX2_isStepFrom 4 (some .boolean), Cond.fieldLink RX2 29 "TourHouse$Graph" "edges" "I", Cond.fieldLink RX2 9 "TourHouse$Graph" "from" "[I", Cond.fieldLink RX2 21 "TourHouse$Graph" "directed" "Z", Cond.fieldLink RX2 15 "TourHouse$Graph" "to" "[I", Cond.methodLink RX5 207 yX5_leavesWhole, Cond.instanceMethod yX5_leavesWhole, Cond.selects RX5 yX5_leavesWhole yX5_leavesWhole, Cond.initialized RX5, Cond.code yX5_leavesWhole cX5_leavesWhole 4 (some .boolean), Cond.methodLink RX5 200 yX2_endOf, Cond.instanceMethod yX2_endOf, Cond.selects RX2 yX2_endOf yX2_endOf, Cond.code yX2_endOf cX2_endOf 2 (some .int), Cond.methodLink RX5 119 yX2_hangsTogetherAt, Cond.instanceMethod yX2_hangsTogetherAt, Cond.selects RX2 yX2_hangsTogetherAt yX2_hangsTogetherAt]
def wsX5_leastStepFrom_r2 : List Cond := [Cond.code yX2_hangsTogetherAt cX2_hangsTogetherAt 3 (some .boolean), Cond.methodLink RX2 36 yX2_touchedBy, Cond.instanceMethod yX2_touchedBy, Cond.selects RX2 yX2_touchedBy yX2_touchedBy, Cond.code yX2_touchedBy cX2_touchedBy 4 (some .int), Cond.methodLink RX2 40 yX2_reachOf, Cond.instanceMethod yX2_reachOf, Cond.selects RX2 yX2_reachOf yX2_reachOf, Cond.code yX2_reachOf cX2_reachOf 9 (some .int)]
def wsX5_leastStepFrom : List Cond := .code yX5_leastStepFrom cX5_leastStepFrom 3 (some .int) :: ((wsX5_leastStepFrom_r1 ++ wsX5_leastStepFrom_r2) ++ wsX50 ++ wsX20)
def wsX5_writeLeastRow_r1 : List Cond := [Cond.fieldLink RX5 21 "TourHouse" "latestRow" "LTourHouse$StepRow;", Cond.fieldLink RX5 28 "TourHouse" "uses" "[I", Cond.fieldLink RX5 12 "TourHouse" "graph" "LTourHouse$Graph;", Cond.methodLink RX5 163 yX4_clear, Cond.instanceMethod yX4_clear, Cond.selects RX4 yX4_clear yX4_clear, Cond.initialized RX4, Cond.code yX4_clear cX4_clear 1 none, Cond.fieldLink RX4 13 "TourHouse$StepRow" "length" "I", Cond.methodLink RX5 197 yX5_leastStepFrom, Cond.instanceMethod yX5_leastStepFrom, Cond.selects RX5 yX5_leastStepFrom yX5_leastStepFrom, Cond.initialized RX5, Cond.code yX5_leastStepFrom cX5_leastStepFrom 3 (some .int), Cond.fieldLink RX5 67 "TourHouse$Graph" "edges" "I", Cond.methodLink RX5 203 yX2_isStepFrom, Cond.instanceMethod yX2_isStepFrom, Cond.selects RX2 yX2_isStepFrom yX2_isStepFrom, Cond.initialized RX2, Cond.code yX2_isStepFrom cX2_isStepFrom 4 (some .boolean), Cond.fieldLink RX2 29 "TourHouse$Graph" "edges" "I", Cond.fieldLink RX2 9 "TourHouse$Graph" "from" "[I", Cond.fieldLink RX2 21 "TourHouse$Graph" "directed" "Z", Cond.fieldLink RX2 15 "TourHouse$Graph" "to" "[I"]
def wsX5_writeLeastRow_r2 : List Cond := [Cond.methodLink RX5 207 yX5_leavesWhole, Cond.instanceMethod yX5_leavesWhole, Cond.selects RX5 yX5_leavesWhole yX5_leavesWhole, Cond.code yX5_leavesWhole cX5_leavesWhole 4 (some .boolean), Cond.methodLink RX5 200 yX2_endOf, Cond.instanceMethod yX2_endOf, Cond.selects RX2 yX2_endOf yX2_endOf, Cond.code yX2_endOf cX2_endOf 2 (some .int), Cond.methodLink RX5 119 yX2_hangsTogetherAt, Cond.instanceMethod yX2_hangsTogetherAt, Cond.selects RX2 yX2_hangsTogetherAt yX2_hangsTogetherAt, Cond.code yX2_hangsTogetherAt cX2_hangsTogetherAt 3 (some .boolean), Cond.methodLink RX2 36 yX2_touchedBy, Cond.instanceMethod yX2_touchedBy, Cond.selects RX2 yX2_touchedBy yX2_touchedBy, Cond.code yX2_touchedBy cX2_touchedBy 4 (some .int), Cond.methodLink RX2 40 yX2_reachOf, Cond.instanceMethod yX2_reachOf, Cond.selects RX2 yX2_reachOf yX2_reachOf, Cond.code yX2_reachOf cX2_reachOf 9 (some .int), Cond.methodLink RX5 156 yX4_append, Cond.instanceMethod yX4_append, Cond.selects RX4 yX4_append yX4_append, Cond.code yX4_append cX4_append 2 none]
def wsX5_writeLeastRow_r3 : List Cond := [Cond.fieldLink RX4 7 "TourHouse$StepRow" "steps" "[I", Cond.methodLink RX4 17 yX4_isFull, Cond.instanceMethod yX4_isFull, Cond.selects RX4 yX4_isFull yX4_isFull, Cond.code yX4_isFull cX4_isFull 1 (some .boolean)]
def wsX5_writeLeastRow : List Cond := .code yX5_writeLeastRow cX5_writeLeastRow 5 none :: ((wsX5_writeLeastRow_r1 ++ (wsX5_writeLeastRow_r2 ++ wsX5_writeLeastRow_r3)) ++ wsX50 ++ wsX40 ++ wsX20)
def wsX5_tour_r1 : List Cond := [Cond.fieldLink RX5 12 "TourHouse" "graph" "LTourHouse$Graph;", Cond.fieldLink RX5 28 "TourHouse" "uses" "[I", Cond.fieldLink RX5 21 "TourHouse" "latestRow" "LTourHouse$StepRow;", Cond.fieldLink RX5 126 "TourHouse$StepRow" "length" "I", Cond.methodLink RX5 78 yX5_requireVertex, Cond.instanceMethod yX5_requireVertex, Cond.selects RX5 yX5_requireVertex yX5_requireVertex, Cond.initialized RX5, Cond.code yX5_requireVertex cX5_requireVertex 2 none, Cond.classLink RX5 60 "java/lang/IllegalArgumentException", Cond.initialized "java/lang/IllegalArgumentException", Cond.fieldLink RX5 166 "TourHouse$Graph" "vertices" "I", Cond.methodLink RX5 112 yX2_oddVertices, Cond.instanceMethod yX2_oddVertices, Cond.selects RX2 yX2_oddVertices yX2_oddVertices, Cond.initialized RX2, Cond.code yX2_oddVertices cX2_oddVertices 4 (some .int), Cond.fieldLink RX2 25 "TourHouse$Graph" "vertices" "I", Cond.fieldLink RX2 21 "TourHouse$Graph" "directed" "Z", Cond.methodLink RX2 32 yX2_surplusAt, Cond.instanceMethod yX2_surplusAt, Cond.selects RX2 yX2_surplusAt yX2_surplusAt, Cond.code yX2_surplusAt cX2_surplusAt 4 (some .int), Cond.fieldLink RX2 29 "TourHouse$Graph" "edges" "I"]
def wsX5_tour_r2 : List Cond := [Cond.fieldLink RX2 15 "TourHouse$Graph" "to" "[I", Cond.fieldLink RX2 9 "TourHouse$Graph" "from" "[I", Cond.methodLink RX5 116 yX5_useEachEdgeOnce, Cond.instanceMethod yX5_useEachEdgeOnce, Cond.selects RX5 yX5_useEachEdgeOnce yX5_useEachEdgeOnce, Cond.code yX5_useEachEdgeOnce cX5_useEachEdgeOnce 2 none, Cond.fieldLink RX5 67 "TourHouse$Graph" "edges" "I", Cond.methodLink RX5 119 yX2_hangsTogetherAt, Cond.instanceMethod yX2_hangsTogetherAt, Cond.selects RX2 yX2_hangsTogetherAt yX2_hangsTogetherAt, Cond.code yX2_hangsTogetherAt cX2_hangsTogetherAt 3 (some .boolean), Cond.methodLink RX2 36 yX2_touchedBy, Cond.instanceMethod yX2_touchedBy, Cond.selects RX2 yX2_touchedBy yX2_touchedBy, Cond.code yX2_touchedBy cX2_touchedBy 4 (some .int), Cond.methodLink RX2 40 yX2_reachOf, Cond.instanceMethod yX2_reachOf, Cond.selects RX2 yX2_reachOf yX2_reachOf, Cond.code yX2_reachOf cX2_reachOf 9 (some .int), Cond.methodLink RX5 123 yX5_writeLeastRow, Cond.instanceMethod yX5_writeLeastRow, Cond.selects RX5 yX5_writeLeastRow yX5_writeLeastRow, Cond.code yX5_writeLeastRow cX5_writeLeastRow 5 none, Cond.methodLink RX5 163 yX4_clear]
def wsX5_tour_r3 : List Cond := [Cond.instanceMethod yX4_clear, Cond.selects RX4 yX4_clear yX4_clear, Cond.initialized RX4, Cond.code yX4_clear cX4_clear 1 none, Cond.fieldLink RX4 13 "TourHouse$StepRow" "length" "I", Cond.methodLink RX5 197 yX5_leastStepFrom, Cond.instanceMethod yX5_leastStepFrom, Cond.selects RX5 yX5_leastStepFrom yX5_leastStepFrom, Cond.code yX5_leastStepFrom cX5_leastStepFrom 3 (some .int), Cond.methodLink RX5 203 yX2_isStepFrom, Cond.instanceMethod yX2_isStepFrom, Cond.selects RX2 yX2_isStepFrom yX2_isStepFrom, Cond.code yX2_isStepFrom cX2_isStepFrom 4 (some .boolean), Cond.methodLink RX5 207 yX5_leavesWhole, Cond.instanceMethod yX5_leavesWhole, Cond.selects RX5 yX5_leavesWhole yX5_leavesWhole, Cond.code yX5_leavesWhole cX5_leavesWhole 4 (some .boolean), Cond.methodLink RX5 200 yX2_endOf, Cond.instanceMethod yX2_endOf, Cond.selects RX2 yX2_endOf yX2_endOf, Cond.code yX2_endOf cX2_endOf 2 (some .int), Cond.methodLink RX5 156 yX4_append, Cond.instanceMethod yX4_append, Cond.selects RX4 yX4_append yX4_append]
def wsX5_tour_r4 : List Cond := [Cond.code yX4_append cX4_append 2 none, Cond.fieldLink RX4 7 "TourHouse$StepRow" "steps" "[I", Cond.methodLink RX4 17 yX4_isFull, Cond.instanceMethod yX4_isFull, Cond.selects RX4 yX4_isFull yX4_isFull, Cond.code yX4_isFull cX4_isFull 1 (some .boolean)]
def wsX5_findExtras_r1 : List Cond := [Cond.fieldLink RX5 12 "TourHouse" "graph" "LTourHouse$Graph;", Cond.fieldLink RX5 169 "TourHouse$Graph" "directed" "Z", Cond.fieldLink RX5 52 "TourHouse" "balancing" "LTourHouse$Balancing;", Cond.fieldLink RX5 38 "TourHouse" "distances" "LTourHouse$Distances;", Cond.fieldLink RX5 32 "TourHouse" "extras" "[I", Cond.fieldLink RX5 45 "TourHouse" "pairing" "LTourHouse$Pairing;", Cond.fieldLink RX5 56 "TourHouse" "extrasStand" "Z", Cond.methodLink RX5 192 yX0_find, Cond.instanceMethod yX0_find, Cond.selects RX0 yX0_find yX0_find, Cond.initialized RX0, Cond.code yX0_find cX0_find 7 none, Cond.fieldLink RX0 21 "TourHouse$Graph" "vertices" "I", Cond.fieldLink RX0 9 "TourHouse$Balancing" "surplus" "[I", Cond.methodLink RX0 15 yJ7_fill_53178, Cond.static yJ7_fill_53178, Cond.initialized RJ7, Cond.code yJ7_fill_53178 cJ7_fill_53178 4 none, Cond.methodLink RX0 27 yX2_surplusAt, Cond.instanceMethod yX2_surplusAt, Cond.selects RX2 yX2_surplusAt yX2_surplusAt, Cond.initialized RX2, Cond.code yX2_surplusAt cX2_surplusAt 4 (some .int), Cond.fieldLink RX2 29 "TourHouse$Graph" "edges" "I"]
def wsX5_findExtras_r2 : List Cond := [Cond.fieldLink RX2 15 "TourHouse$Graph" "to" "[I", Cond.fieldLink RX2 9 "TourHouse$Graph" "from" "[I", Cond.methodLink RX0 31 yX0_leastWithSign, Cond.instanceMethod yX0_leastWithSign, Cond.selects RX0 yX0_leastWithSign yX0_leastWithSign, Cond.code yX0_leastWithSign cX0_leastWithSign 4 (some .int), Cond.methodLink RX0 35 yX1_searchBesideExtras, Cond.instanceMethod yX1_searchBesideExtras, Cond.selects RX1 yX1_searchBesideExtras yX1_searchBesideExtras, Cond.initialized RX1, Cond.code yX1_searchBesideExtras cX1_searchBesideExtras 8 none, Cond.fieldLink RX1 9 "TourHouse$Distances" "reached" "[Z", Cond.fieldLink RX1 15 "TourHouse$Distances" "cost" "[J", Cond.fieldLink RX1 19 "TourHouse$Distances" "tie" "[J", Cond.fieldLink RX1 29 "TourHouse$Distances" "changed" "Z", Cond.fieldLink RX1 37 "TourHouse$Graph" "edges" "I", Cond.fieldLink RX1 43 "TourHouse$Graph" "from" "[I", Cond.fieldLink RX1 46 "TourHouse$Graph" "to" "[I", Cond.fieldLink RX1 49 "TourHouse$Graph" "weight" "[I", Cond.fieldLink RX1 56 "TourHouse$Graph" "directed" "Z", Cond.methodLink RX1 52 yX1_tryStep, Cond.instanceMethod yX1_tryStep, Cond.selects RX1 yX1_tryStep yX1_tryStep, Cond.code yX1_tryStep cX1_tryStep 12 none]
def wsX5_findExtras_r3 : List Cond := [Cond.fieldLink RX1 22 "TourHouse$Distances" "lastStep" "[I", Cond.methodLink RX1 59 yX1_isLess, Cond.static yX1_isLess, Cond.code yX1_isLess cX1_isLess 8 (some .boolean), Cond.methodLink RX0 41 yX0_addPassage, Cond.instanceMethod yX0_addPassage, Cond.selects RX0 yX0_addPassage yX0_addPassage, Cond.code yX0_addPassage cX0_addPassage 10 none, Cond.fieldLink RX0 45 "TourHouse$Distances" "lastStep" "[I", Cond.fieldLink RX0 48 "TourHouse$Graph" "from" "[I", Cond.fieldLink RX0 51 "TourHouse$Graph" "to" "[I", Cond.methodLink RX5 196 yX3_find, Cond.instanceMethod yX3_find, Cond.selects RX3 yX3_find yX3_find, Cond.initialized RX3, Cond.code yX3_find cX3_find 8 none, Cond.fieldLink RX3 51 "TourHouse$Graph" "edges" "I", Cond.methodLink RX3 37 yX2_oddVertices, Cond.instanceMethod yX2_oddVertices, Cond.selects RX2 yX2_oddVertices yX2_oddVertices, Cond.code yX2_oddVertices cX2_oddVertices 4 (some .int), Cond.fieldLink RX2 25 "TourHouse$Graph" "vertices" "I", Cond.fieldLink RX2 21 "TourHouse$Graph" "directed" "Z", Cond.methodLink RX2 32 yX2_surplusAt]
def wsX5_findExtras_r4 : List Cond := [Cond.methodLink RX3 43 yX3_measurePairs, Cond.instanceMethod yX3_measurePairs, Cond.selects RX3 yX3_measurePairs yX3_measurePairs, Cond.code yX3_measurePairs cX3_measurePairs 5 none, Cond.fieldLink RX3 60 "TourHouse$Distances" "cost" "[J", Cond.fieldLink RX3 13 "TourHouse$Pairing" "pairCost" "[[J", Cond.methodLink RX3 61 arraycopyName, Cond.native arraycopyName, Cond.static arraycopyName, Cond.initialized "java/lang/System", Cond.fieldLink RX3 67 "TourHouse$Distances" "tie" "[J", Cond.fieldLink RX3 16 "TourHouse$Pairing" "pairTie" "[[J", Cond.methodLink RX3 54 yX1_searchFrom, Cond.instanceMethod yX1_searchFrom, Cond.selects RX1 yX1_searchFrom yX1_searchFrom, Cond.code yX1_searchFrom cX1_searchFrom 3 none, Cond.fieldLink RX1 26 "TourHouse$Distances" "nothingToGiveBack" "[I", Cond.methodLink RX1 33 yX1_searchBesideExtras, Cond.methodLink RX3 47 yX3_tieOfLeastPairs, Cond.instanceMethod yX3_tieOfLeastPairs, Cond.selects RX3 yX3_tieOfLeastPairs yX3_tieOfLeastPairs, Cond.code yX3_tieOfLeastPairs cX3_tieOfLeastPairs 3 (some .long), Cond.fieldLink RX3 30 "TourHouse$Pairing" "slots" "[I", Cond.fieldLink RX3 33 "TourHouse$Pairing" "count" "I"]
def wsX5_findExtras_r5 : List Cond := [Cond.fieldLink RX3 19 "TourHouse$Pairing" "sets" "[I", Cond.fieldLink RX3 27 "TourHouse$Pairing" "tie" "[J", Cond.methodLink RX3 68 yJ7_fill_53178, Cond.methodLink RX3 74 yX3_offer, Cond.instanceMethod yX3_offer, Cond.selects RX3 yX3_offer yX3_offer, Cond.code yX3_offer cX3_offer 8 none, Cond.fieldLink RX3 23 "TourHouse$Pairing" "cost" "[J", Cond.methodLink RX3 86 yX3_slotOf, Cond.instanceMethod yX3_slotOf, Cond.selects RX3 yX3_slotOf yX3_slotOf, Cond.code yX3_slotOf cX3_slotOf 4 (some .int), Cond.constant RX3 93 (-1640531535), Cond.methodLink RX3 89 yX1_isLess, Cond.methodLink RX3 78 yX3_pairLeastVertex, Cond.instanceMethod yX3_pairLeastVertex, Cond.selects RX3 yX3_pairLeastVertex yX3_pairLeastVertex, Cond.code yX3_pairLeastVertex cX3_pairLeastVertex 5 none, Cond.static yX5_leastOf, Cond.initialized RX5, Cond.code yX5_leastOf cX5_leastOf 2 (some .int)]
def wsX5_findExtras : List Cond := .code yX5_findExtras cX5_findExtras 1 none :: ((wsX5_findExtras_r1 ++ (wsX5_findExtras_r2 ++ (wsX5_findExtras_r3 ++ (wsX5_findExtras_r4 ++ wsX5_findExtras_r5)))) ++ wsX50 ++ wsX20 ++ wsX00 ++ wsX10 ++ wsX30)
def wsX5_round_r1 : List Cond := [Cond.fieldLink RX5 12 "TourHouse" "graph" "LTourHouse$Graph;", Cond.fieldLink RX5 28 "TourHouse" "uses" "[I", Cond.constantLong RX5 110 (-1), Cond.fieldLink RX5 67 "TourHouse$Graph" "edges" "I", Cond.fieldLink RX5 32 "TourHouse" "extras" "[I", Cond.fieldLink RX5 135 "TourHouse$Graph" "weight" "[I", Cond.methodLink RX5 78 yX5_requireVertex, Cond.instanceMethod yX5_requireVertex, Cond.selects RX5 yX5_requireVertex yX5_requireVertex, Cond.initialized RX5, Cond.code yX5_requireVertex cX5_requireVertex 2 none, Cond.classLink RX5 60 "java/lang/IllegalArgumentException", Cond.initialized "java/lang/IllegalArgumentException", Cond.fieldLink RX5 166 "TourHouse$Graph" "vertices" "I", Cond.methodLink RX5 116 yX5_useEachEdgeOnce, Cond.instanceMethod yX5_useEachEdgeOnce, Cond.selects RX5 yX5_useEachEdgeOnce yX5_useEachEdgeOnce, Cond.code yX5_useEachEdgeOnce cX5_useEachEdgeOnce 2 none, Cond.methodLink RX5 129 yX2_canBeCoveredFrom, Cond.instanceMethod yX2_canBeCoveredFrom, Cond.selects RX2 yX2_canBeCoveredFrom yX2_canBeCoveredFrom, Cond.initialized RX2, Cond.code yX2_canBeCoveredFrom cX2_canBeCoveredFrom 4 (some .boolean), Cond.fieldLink RX2 21 "TourHouse$Graph" "directed" "Z"]
def wsX5_round_r2 : List Cond := [Cond.methodLink RX2 36 yX2_touchedBy, Cond.instanceMethod yX2_touchedBy, Cond.selects RX2 yX2_touchedBy yX2_touchedBy, Cond.code yX2_touchedBy cX2_touchedBy 4 (some .int), Cond.fieldLink RX2 29 "TourHouse$Graph" "edges" "I", Cond.fieldLink RX2 9 "TourHouse$Graph" "from" "[I", Cond.fieldLink RX2 15 "TourHouse$Graph" "to" "[I", Cond.methodLink RX2 40 yX2_reachOf, Cond.instanceMethod yX2_reachOf, Cond.selects RX2 yX2_reachOf yX2_reachOf, Cond.code yX2_reachOf cX2_reachOf 9 (some .int), Cond.methodLink RX5 132 yX5_findExtras, Cond.instanceMethod yX5_findExtras, Cond.selects RX5 yX5_findExtras yX5_findExtras, Cond.code yX5_findExtras cX5_findExtras 1 none, Cond.fieldLink RX5 169 "TourHouse$Graph" "directed" "Z", Cond.fieldLink RX5 52 "TourHouse" "balancing" "LTourHouse$Balancing;", Cond.fieldLink RX5 38 "TourHouse" "distances" "LTourHouse$Distances;", Cond.fieldLink RX5 45 "TourHouse" "pairing" "LTourHouse$Pairing;", Cond.fieldLink RX5 56 "TourHouse" "extrasStand" "Z", Cond.methodLink RX5 192 yX0_find, Cond.instanceMethod yX0_find, Cond.selects RX0 yX0_find yX0_find, Cond.initialized RX0]
def wsX5_round_r3 : List Cond := [Cond.code yX0_find cX0_find 7 none, Cond.fieldLink RX0 21 "TourHouse$Graph" "vertices" "I", Cond.fieldLink RX0 9 "TourHouse$Balancing" "surplus" "[I", Cond.methodLink RX0 15 yJ7_fill_53178, Cond.static yJ7_fill_53178, Cond.initialized RJ7, Cond.code yJ7_fill_53178 cJ7_fill_53178 4 none, Cond.methodLink RX0 27 yX2_surplusAt, Cond.instanceMethod yX2_surplusAt, Cond.selects RX2 yX2_surplusAt yX2_surplusAt, Cond.code yX2_surplusAt cX2_surplusAt 4 (some .int), Cond.methodLink RX0 31 yX0_leastWithSign, Cond.instanceMethod yX0_leastWithSign, Cond.selects RX0 yX0_leastWithSign yX0_leastWithSign, Cond.code yX0_leastWithSign cX0_leastWithSign 4 (some .int), Cond.methodLink RX0 35 yX1_searchBesideExtras, Cond.instanceMethod yX1_searchBesideExtras, Cond.selects RX1 yX1_searchBesideExtras yX1_searchBesideExtras, Cond.initialized RX1, Cond.code yX1_searchBesideExtras cX1_searchBesideExtras 8 none, Cond.fieldLink RX1 9 "TourHouse$Distances" "reached" "[Z", Cond.fieldLink RX1 15 "TourHouse$Distances" "cost" "[J", Cond.fieldLink RX1 19 "TourHouse$Distances" "tie" "[J", Cond.fieldLink RX1 29 "TourHouse$Distances" "changed" "Z"]
def wsX5_round_r4 : List Cond := [Cond.fieldLink RX1 37 "TourHouse$Graph" "edges" "I", Cond.fieldLink RX1 43 "TourHouse$Graph" "from" "[I", Cond.fieldLink RX1 46 "TourHouse$Graph" "to" "[I", Cond.fieldLink RX1 49 "TourHouse$Graph" "weight" "[I", Cond.fieldLink RX1 56 "TourHouse$Graph" "directed" "Z", Cond.methodLink RX1 52 yX1_tryStep, Cond.instanceMethod yX1_tryStep, Cond.selects RX1 yX1_tryStep yX1_tryStep, Cond.code yX1_tryStep cX1_tryStep 12 none, Cond.fieldLink RX1 22 "TourHouse$Distances" "lastStep" "[I", Cond.methodLink RX1 59 yX1_isLess, Cond.static yX1_isLess, Cond.code yX1_isLess cX1_isLess 8 (some .boolean), Cond.methodLink RX0 41 yX0_addPassage, Cond.instanceMethod yX0_addPassage, Cond.selects RX0 yX0_addPassage yX0_addPassage, Cond.code yX0_addPassage cX0_addPassage 10 none, Cond.fieldLink RX0 45 "TourHouse$Distances" "lastStep" "[I", Cond.fieldLink RX0 48 "TourHouse$Graph" "from" "[I", Cond.fieldLink RX0 51 "TourHouse$Graph" "to" "[I", Cond.methodLink RX5 196 yX3_find, Cond.instanceMethod yX3_find, Cond.selects RX3 yX3_find yX3_find, Cond.initialized RX3]
def wsX5_round_r5 : List Cond := [Cond.code yX3_find cX3_find 8 none, Cond.fieldLink RX3 51 "TourHouse$Graph" "edges" "I", Cond.methodLink RX3 37 yX2_oddVertices, Cond.instanceMethod yX2_oddVertices, Cond.selects RX2 yX2_oddVertices yX2_oddVertices, Cond.code yX2_oddVertices cX2_oddVertices 4 (some .int), Cond.fieldLink RX2 25 "TourHouse$Graph" "vertices" "I", Cond.methodLink RX2 32 yX2_surplusAt, Cond.methodLink RX3 43 yX3_measurePairs, Cond.instanceMethod yX3_measurePairs, Cond.selects RX3 yX3_measurePairs yX3_measurePairs, Cond.code yX3_measurePairs cX3_measurePairs 5 none, Cond.fieldLink RX3 60 "TourHouse$Distances" "cost" "[J", Cond.fieldLink RX3 13 "TourHouse$Pairing" "pairCost" "[[J", Cond.methodLink RX3 61 arraycopyName, Cond.native arraycopyName, Cond.static arraycopyName, Cond.initialized "java/lang/System", Cond.fieldLink RX3 67 "TourHouse$Distances" "tie" "[J", Cond.fieldLink RX3 16 "TourHouse$Pairing" "pairTie" "[[J", Cond.methodLink RX3 54 yX1_searchFrom, Cond.instanceMethod yX1_searchFrom, Cond.selects RX1 yX1_searchFrom yX1_searchFrom, Cond.code yX1_searchFrom cX1_searchFrom 3 none]
def wsX5_round_r6 : List Cond := [Cond.fieldLink RX1 26 "TourHouse$Distances" "nothingToGiveBack" "[I", Cond.methodLink RX1 33 yX1_searchBesideExtras, Cond.methodLink RX3 47 yX3_tieOfLeastPairs, Cond.instanceMethod yX3_tieOfLeastPairs, Cond.selects RX3 yX3_tieOfLeastPairs yX3_tieOfLeastPairs, Cond.code yX3_tieOfLeastPairs cX3_tieOfLeastPairs 3 (some .long), Cond.fieldLink RX3 30 "TourHouse$Pairing" "slots" "[I", Cond.fieldLink RX3 33 "TourHouse$Pairing" "count" "I", Cond.fieldLink RX3 19 "TourHouse$Pairing" "sets" "[I", Cond.fieldLink RX3 27 "TourHouse$Pairing" "tie" "[J", Cond.methodLink RX3 68 yJ7_fill_53178, Cond.methodLink RX3 74 yX3_offer, Cond.instanceMethod yX3_offer, Cond.selects RX3 yX3_offer yX3_offer, Cond.code yX3_offer cX3_offer 8 none, Cond.fieldLink RX3 23 "TourHouse$Pairing" "cost" "[J", Cond.methodLink RX3 86 yX3_slotOf, Cond.instanceMethod yX3_slotOf, Cond.selects RX3 yX3_slotOf yX3_slotOf, Cond.code yX3_slotOf cX3_slotOf 4 (some .int), Cond.constant RX3 93 (-1640531535), Cond.methodLink RX3 89 yX1_isLess, Cond.methodLink RX3 78 yX3_pairLeastVertex, Cond.instanceMethod yX3_pairLeastVertex]
def wsX5_round_r7 : List Cond := [Cond.selects RX3 yX3_pairLeastVertex yX3_pairLeastVertex, Cond.code yX3_pairLeastVertex cX3_pairLeastVertex 5 none, Cond.static yX5_leastOf, Cond.code yX5_leastOf cX5_leastOf 2 (some .int), Cond.methodLink RX5 123 yX5_writeLeastRow, Cond.instanceMethod yX5_writeLeastRow, Cond.selects RX5 yX5_writeLeastRow yX5_writeLeastRow, Cond.code yX5_writeLeastRow cX5_writeLeastRow 5 none, Cond.fieldLink RX5 21 "TourHouse" "latestRow" "LTourHouse$StepRow;", Cond.methodLink RX5 163 yX4_clear, Cond.instanceMethod yX4_clear, Cond.selects RX4 yX4_clear yX4_clear, Cond.initialized RX4, Cond.code yX4_clear cX4_clear 1 none, Cond.fieldLink RX4 13 "TourHouse$StepRow" "length" "I", Cond.methodLink RX5 197 yX5_leastStepFrom, Cond.instanceMethod yX5_leastStepFrom, Cond.selects RX5 yX5_leastStepFrom yX5_leastStepFrom, Cond.code yX5_leastStepFrom cX5_leastStepFrom 3 (some .int), Cond.methodLink RX5 203 yX2_isStepFrom, Cond.instanceMethod yX2_isStepFrom, Cond.selects RX2 yX2_isStepFrom yX2_isStepFrom, Cond.code yX2_isStepFrom cX2_isStepFrom 4 (some .boolean), Cond.methodLink RX5 207 yX5_leavesWhole]
def wsX5_round_r8 : List Cond := [Cond.instanceMethod yX5_leavesWhole, Cond.selects RX5 yX5_leavesWhole yX5_leavesWhole, Cond.code yX5_leavesWhole cX5_leavesWhole 4 (some .boolean), Cond.methodLink RX5 200 yX2_endOf, Cond.instanceMethod yX2_endOf, Cond.selects RX2 yX2_endOf yX2_endOf, Cond.code yX2_endOf cX2_endOf 2 (some .int), Cond.methodLink RX5 119 yX2_hangsTogetherAt, Cond.instanceMethod yX2_hangsTogetherAt, Cond.selects RX2 yX2_hangsTogetherAt yX2_hangsTogetherAt, Cond.code yX2_hangsTogetherAt cX2_hangsTogetherAt 3 (some .boolean), Cond.methodLink RX5 156 yX4_append, Cond.instanceMethod yX4_append, Cond.selects RX4 yX4_append yX4_append, Cond.code yX4_append cX4_append 2 none, Cond.fieldLink RX4 7 "TourHouse$StepRow" "steps" "[I", Cond.methodLink RX4 17 yX4_isFull, Cond.instanceMethod yX4_isFull, Cond.selects RX4 yX4_isFull yX4_isFull, Cond.code yX4_isFull cX4_isFull 1 (some .boolean)]
def wsX5_verdictOnPath_r1 : List Cond := [Cond.fieldLink RX5 28 "TourHouse" "uses" "[I", Cond.fieldLink RX5 25 "TourHouse" "path" "LTourHouse$StepRow;", Cond.fieldLink RX5 126 "TourHouse$StepRow" "length" "I", Cond.fieldLink RX5 147 "TourHouse$StepRow" "steps" "[I", Cond.fieldLink RX5 12 "TourHouse" "graph" "LTourHouse$Graph;", Cond.constantLong RX5 110 (-1), Cond.fieldLink RX5 135 "TourHouse$Graph" "weight" "[I", Cond.constantLong RX5 217 (-2), Cond.fieldLink RX5 67 "TourHouse$Graph" "edges" "I", Cond.constantLong RX5 219 (-3), Cond.methodLink RX5 211 yJ7_fill_53178, Cond.static yJ7_fill_53178, Cond.initialized RJ7, Cond.code yJ7_fill_53178 cJ7_fill_53178 4 none, Cond.methodLink RX5 203 yX2_isStepFrom, Cond.instanceMethod yX2_isStepFrom, Cond.selects RX2 yX2_isStepFrom yX2_isStepFrom, Cond.initialized RX2, Cond.code yX2_isStepFrom cX2_isStepFrom 4 (some .boolean), Cond.fieldLink RX2 29 "TourHouse$Graph" "edges" "I", Cond.fieldLink RX2 9 "TourHouse$Graph" "from" "[I", Cond.fieldLink RX2 21 "TourHouse$Graph" "directed" "Z", Cond.fieldLink RX2 15 "TourHouse$Graph" "to" "[I", Cond.methodLink RX5 200 yX2_endOf]
def wsX5_verdictOnPath_r2 : List Cond := [Cond.instanceMethod yX2_endOf, Cond.selects RX2 yX2_endOf yX2_endOf, Cond.code yX2_endOf cX2_endOf 2 (some .int)]
def wsX5_verdictOnPath : List Cond := .code yX5_verdictOnPath cX5_verdictOnPath 7 (some .long) :: ((wsX5_verdictOnPath_r1 ++ wsX5_verdictOnPath_r2) ++ wsX50 ++ wsX40 ++ wsX20)
def wsX5_judge_r1 : List Cond := [Cond.fieldLink RX5 25 "TourHouse" "path" "LTourHouse$StepRow;", Cond.methodLink RX5 78 yX5_requireVertex, Cond.instanceMethod yX5_requireVertex, Cond.selects RX5 yX5_requireVertex yX5_requireVertex, Cond.initialized RX5, Cond.code yX5_requireVertex cX5_requireVertex 2 none, Cond.classLink RX5 60 "java/lang/IllegalArgumentException", Cond.initialized "java/lang/IllegalArgumentException", Cond.fieldLink RX5 12 "TourHouse" "graph" "LTourHouse$Graph;", Cond.fieldLink RX5 166 "TourHouse$Graph" "vertices" "I", Cond.methodLink RX5 159 yX5_verdictOnPath, Cond.instanceMethod yX5_verdictOnPath, Cond.selects RX5 yX5_verdictOnPath yX5_verdictOnPath, Cond.code yX5_verdictOnPath cX5_verdictOnPath 7 (some .long), Cond.fieldLink RX5 28 "TourHouse" "uses" "[I", Cond.fieldLink RX5 126 "TourHouse$StepRow" "length" "I", Cond.fieldLink RX5 147 "TourHouse$StepRow" "steps" "[I", Cond.constantLong RX5 110 (-1), Cond.fieldLink RX5 135 "TourHouse$Graph" "weight" "[I", Cond.constantLong RX5 217 (-2), Cond.fieldLink RX5 67 "TourHouse$Graph" "edges" "I", Cond.constantLong RX5 219 (-3), Cond.methodLink RX5 211 yJ7_fill_53178, Cond.static yJ7_fill_53178]
def wsX5_judge_r2 : List Cond := [Cond.initialized RJ7, Cond.code yJ7_fill_53178 cJ7_fill_53178 4 none, Cond.methodLink RX5 203 yX2_isStepFrom, Cond.instanceMethod yX2_isStepFrom, Cond.selects RX2 yX2_isStepFrom yX2_isStepFrom, Cond.initialized RX2, Cond.code yX2_isStepFrom cX2_isStepFrom 4 (some .boolean), Cond.fieldLink RX2 29 "TourHouse$Graph" "edges" "I", Cond.fieldLink RX2 9 "TourHouse$Graph" "from" "[I", Cond.fieldLink RX2 21 "TourHouse$Graph" "directed" "Z", Cond.fieldLink RX2 15 "TourHouse$Graph" "to" "[I", Cond.methodLink RX5 200 yX2_endOf, Cond.instanceMethod yX2_endOf, Cond.selects RX2 yX2_endOf yX2_endOf, Cond.code yX2_endOf cX2_endOf 2 (some .int), Cond.methodLink RX5 163 yX4_clear, Cond.instanceMethod yX4_clear, Cond.selects RX4 yX4_clear yX4_clear, Cond.initialized RX4, Cond.code yX4_clear cX4_clear 1 none, Cond.fieldLink RX4 13 "TourHouse$StepRow" "length" "I"]
def wsJ6_bitCount_0f7a4 : List Cond := .code yJ6_bitCount_0f7a4 cJ6_bitCount_0f7a4 1 (some .int) :: ([.constant RJ6 265 (1431655765), .constant RJ6 266 (858993459), .constant RJ6 267 (252645135)])
def wsX5_look_r1 : List Cond := [Cond.classLink RX5 60 "java/lang/IllegalArgumentException", Cond.initialized "java/lang/IllegalArgumentException", Cond.fieldLink RX5 12 "TourHouse" "graph" "LTourHouse$Graph;", Cond.fieldLink RX5 166 "TourHouse$Graph" "vertices" "I", Cond.fieldLink RX5 67 "TourHouse$Graph" "edges" "I", Cond.fieldLink RX5 169 "TourHouse$Graph" "directed" "Z", Cond.fieldLink RX5 21 "TourHouse" "latestRow" "LTourHouse$StepRow;", Cond.fieldLink RX5 126 "TourHouse$StepRow" "length" "I", Cond.fieldLink RX5 25 "TourHouse" "path" "LTourHouse$StepRow;", Cond.fieldLink RX5 28 "TourHouse" "uses" "[I", Cond.methodLink RX5 112 yX2_oddVertices, Cond.instanceMethod yX2_oddVertices, Cond.selects RX2 yX2_oddVertices yX2_oddVertices, Cond.initialized RX2, Cond.code yX2_oddVertices cX2_oddVertices 4 (some .int), Cond.fieldLink RX2 25 "TourHouse$Graph" "vertices" "I", Cond.fieldLink RX2 21 "TourHouse$Graph" "directed" "Z", Cond.methodLink RX2 32 yX2_surplusAt, Cond.instanceMethod yX2_surplusAt, Cond.selects RX2 yX2_surplusAt yX2_surplusAt, Cond.code yX2_surplusAt cX2_surplusAt 4 (some .int), Cond.fieldLink RX2 29 "TourHouse$Graph" "edges" "I", Cond.fieldLink RX2 15 "TourHouse$Graph" "to" "[I", Cond.fieldLink RX2 9 "TourHouse$Graph" "from" "[I"]
def wsX5_look_r2 : List Cond := [Cond.methodLink RX5 172 yJ6_bitCount_0f7a4, Cond.static yJ6_bitCount_0f7a4, Cond.initialized RJ6, Cond.code yJ6_bitCount_0f7a4 cJ6_bitCount_0f7a4 1 (some .int), Cond.constant RJ6 265 (1431655765), Cond.constant RJ6 266 (858993459), Cond.constant RJ6 267 (252645135), Cond.methodLink RX5 178 yX5_leastOf, Cond.static yX5_leastOf, Cond.initialized RX5, Cond.code yX5_leastOf cX5_leastOf 2 (some .int), Cond.methodLink RX5 116 yX5_useEachEdgeOnce, Cond.instanceMethod yX5_useEachEdgeOnce, Cond.selects RX5 yX5_useEachEdgeOnce yX5_useEachEdgeOnce, Cond.code yX5_useEachEdgeOnce cX5_useEachEdgeOnce 2 none, Cond.methodLink RX5 181 yX2_countRegions, Cond.instanceMethod yX2_countRegions, Cond.selects RX2 yX2_countRegions yX2_countRegions, Cond.code yX2_countRegions cX2_countRegions 5 (some .int), Cond.methodLink RX2 36 yX2_touchedBy, Cond.instanceMethod yX2_touchedBy, Cond.selects RX2 yX2_touchedBy yX2_touchedBy, Cond.code yX2_touchedBy cX2_touchedBy 4 (some .int), Cond.methodLink RX2 40 yX2_reachOf]
def wsX5_look_r3 : List Cond := [Cond.instanceMethod yX2_reachOf, Cond.selects RX2 yX2_reachOf yX2_reachOf, Cond.code yX2_reachOf cX2_reachOf 9 (some .int), Cond.methodLink RX5 185 yX2_touchedBy]
def wsX6_init_r1 : List Cond := [Cond.methodLink RX6 1 objectInit, Cond.instanceMethod objectInit, Cond.code objectInit ⟨#[0xb1]⟩ 1 none, Cond.fieldLink RX6 7 "TourHouseModel" "n" "I", Cond.arrayClass .int, Cond.fieldLink RX6 13 "TourHouseModel" "from" "[I", Cond.fieldLink RX6 17 "TourHouseModel" "to" "[I", Cond.fieldLink RX6 20 "TourHouseModel" "weight" "[I", Cond.fieldLink RX6 23 "TourHouseModel" "row" "[I", Cond.fieldLink RX6 26 "TourHouseModel" "path" "[I", Cond.fieldLink RX6 29 "TourHouseModel" "extra" "[I", Cond.arrayClass .long, Cond.fieldLink RX6 32 "TourHouseModel" "far" "[J", Cond.fieldLink RX6 36 "TourHouseModel" "bits" "[J", Cond.fieldLink RX6 39 "TourHouseModel" "odd" "[I", Cond.constant RX6 42 (65536), Cond.fieldLink RX6 43 "TourHouseModel" "setCost" "[J", Cond.fieldLink RX6 46 "TourHouseModel" "setBits" "[J", Cond.fieldLink RX6 49 "TourHouseModel" "surplus" "[I", Cond.fieldLink RX6 52 "TourHouseModel" "ways" "[J", Cond.arrayClass .boolean, Cond.fieldLink RX6 55 "TourHouseModel" "reached" "[Z", Cond.fieldLink RX6 59 "TourHouseModel" "by" "[I", Cond.fieldLink RX6 62 "TourHouseModel" "sum" "[J"]
def wsX6_init_r2 : List Cond := [Cond.fieldLink RX6 65 "TourHouseModel" "left" "[I", Cond.fieldLink RX6 68 "TourHouseModel" "group" "[I"]
def wsX6_init : List Cond := .code yX6_init cX6_init 1 none :: ((wsX6_init_r1 ++ wsX6_init_r2) ++ wsX60)
def wsX6_thrown : List Cond := .code yX6_thrown cX6_thrown 1 (some .int) :: ([.fieldLink RX6 71 "TourHouseModel" "thrown" "I"] ++ wsX60)
def wsX6_throwing : List Cond := .code yX6_throwing cX6_throwing 3 (some .boolean) :: ([.fieldLink RX6 71 "TourHouseModel" "thrown" "I"] ++ wsX60)
def wsX6_isVertex : List Cond := .code yX6_isVertex cX6_isVertex 2 (some .boolean) :: ([.fieldLink RX6 7 "TourHouseModel" "n" "I"] ++ wsX60)
def wsX6_change : List Cond := .code yX6_change cX6_change 1 none :: ([.fieldLink RX6 74 "TourHouseModel" "rows" "I", .fieldLink RX6 77 "TourHouseModel" "hasRound" "Z"] ++ wsX60)
def wsX6_reset : List Cond := .code yX6_reset cX6_reset 4 (some .int) :: ([.fieldLink RX6 85 "TourHouseModel" "m" "I", .fieldLink RX6 88 "TourHouseModel" "directed" "Z", .fieldLink RX6 7 "TourHouseModel" "n" "I", .methodLink RX6 81 yX6_throwing, .instanceMethod yX6_throwing, .selects RX6 yX6_throwing yX6_throwing, .initialized RX6, .code yX6_throwing cX6_throwing 3 (some .boolean), .fieldLink RX6 71 "TourHouseModel" "thrown" "I", .methodLink RX6 91 yX6_change, .instanceMethod yX6_change, .selects RX6 yX6_change yX6_change, .code yX6_change cX6_change 1 none, .fieldLink RX6 74 "TourHouseModel" "rows" "I", .fieldLink RX6 77 "TourHouseModel" "hasRound" "Z"] ++ wsX60)
def wsX6_edge : List Cond := .code yX6_edge cX6_edge 4 (some .int) :: ([.constant RX6 98 (1000000000), .fieldLink RX6 85 "TourHouseModel" "m" "I", .fieldLink RX6 13 "TourHouseModel" "from" "[I", .fieldLink RX6 17 "TourHouseModel" "to" "[I", .fieldLink RX6 20 "TourHouseModel" "weight" "[I", .methodLink RX6 94 yX6_isVertex, .instanceMethod yX6_isVertex, .selects RX6 yX6_isVertex yX6_isVertex, .initialized RX6, .code yX6_isVertex cX6_isVertex 2 (some .boolean), .fieldLink RX6 7 "TourHouseModel" "n" "I", .methodLink RX6 81 yX6_throwing, .instanceMethod yX6_throwing, .selects RX6 yX6_throwing yX6_throwing, .code yX6_throwing cX6_throwing 3 (some .boolean), .fieldLink RX6 71 "TourHouseModel" "thrown" "I", .methodLink RX6 91 yX6_change, .instanceMethod yX6_change, .selects RX6 yX6_change yX6_change, .code yX6_change cX6_change 1 none, .fieldLink RX6 74 "TourHouseModel" "rows" "I", .fieldLink RX6 77 "TourHouseModel" "hasRound" "Z"] ++ wsX60)
def wsX6_drop : List Cond := .code yX6_drop cX6_drop 1 (some .int) :: ([.fieldLink RX6 85 "TourHouseModel" "m" "I", .methodLink RX6 81 yX6_throwing, .instanceMethod yX6_throwing, .selects RX6 yX6_throwing yX6_throwing, .initialized RX6, .code yX6_throwing cX6_throwing 3 (some .boolean), .fieldLink RX6 71 "TourHouseModel" "thrown" "I", .methodLink RX6 91 yX6_change, .instanceMethod yX6_change, .selects RX6 yX6_change yX6_change, .code yX6_change cX6_change 1 none, .fieldLink RX6 74 "TourHouseModel" "rows" "I", .fieldLink RX6 77 "TourHouseModel" "hasRound" "Z"] ++ wsX60)
def wsX6_isLess : List Cond := .code yX6_isLess cX6_isLess 6 (some .boolean) :: ([.fieldLink RX6 32 "TourHouseModel" "far" "[J", .fieldLink RX6 36 "TourHouseModel" "bits" "[J"] ++ wsX60)
def wsX6_way : List Cond := .code yX6_way cX6_way 6 none :: ([.fieldLink RX6 32 "TourHouseModel" "far" "[J", .fieldLink RX6 36 "TourHouseModel" "bits" "[J", .methodLink RX6 99 yX6_isLess, .instanceMethod yX6_isLess, .selects RX6 yX6_isLess yX6_isLess, .initialized RX6, .code yX6_isLess cX6_isLess 6 (some .boolean)] ++ wsX60)
def wsX6_measure : List Cond := .code yX6_measure cX6_measure 5 none :: ([.fieldLink RX6 32 "TourHouseModel" "far" "[J", .constantLong RX6 103 (1152921504606846976), .fieldLink RX6 36 "TourHouseModel" "bits" "[J", .fieldLink RX6 85 "TourHouseModel" "m" "I", .fieldLink RX6 13 "TourHouseModel" "from" "[I", .fieldLink RX6 17 "TourHouseModel" "to" "[I", .fieldLink RX6 20 "TourHouseModel" "weight" "[I", .fieldLink RX6 88 "TourHouseModel" "directed" "Z", .fieldLink RX6 7 "TourHouseModel" "n" "I", .methodLink RX6 105 yX6_way, .instanceMethod yX6_way, .selects RX6 yX6_way yX6_way, .initialized RX6, .code yX6_way cX6_way 6 none, .methodLink RX6 99 yX6_isLess, .instanceMethod yX6_isLess, .selects RX6 yX6_isLess yX6_isLess, .code yX6_isLess cX6_isLess 6 (some .boolean)] ++ wsX60)
def wsX6_distance_r1 : List Cond := [Cond.fieldLink RX6 32 "TourHouseModel" "far" "[J", Cond.constantLong RX6 103 (1152921504606846976), Cond.constantLong RX6 112 (-1), Cond.methodLink RX6 94 yX6_isVertex, Cond.instanceMethod yX6_isVertex, Cond.selects RX6 yX6_isVertex yX6_isVertex, Cond.initialized RX6, Cond.code yX6_isVertex cX6_isVertex 2 (some .boolean), Cond.fieldLink RX6 7 "TourHouseModel" "n" "I", Cond.methodLink RX6 81 yX6_throwing, Cond.instanceMethod yX6_throwing, Cond.selects RX6 yX6_throwing yX6_throwing, Cond.code yX6_throwing cX6_throwing 3 (some .boolean), Cond.fieldLink RX6 71 "TourHouseModel" "thrown" "I", Cond.methodLink RX6 109 yX6_measure, Cond.instanceMethod yX6_measure, Cond.selects RX6 yX6_measure yX6_measure, Cond.code yX6_measure cX6_measure 5 none, Cond.fieldLink RX6 36 "TourHouseModel" "bits" "[J", Cond.fieldLink RX6 85 "TourHouseModel" "m" "I", Cond.fieldLink RX6 13 "TourHouseModel" "from" "[I", Cond.fieldLink RX6 17 "TourHouseModel" "to" "[I", Cond.fieldLink RX6 20 "TourHouseModel" "weight" "[I", Cond.fieldLink RX6 88 "TourHouseModel" "directed" "Z"]
def wsX6_distance_r2 : List Cond := [Cond.methodLink RX6 105 yX6_way, Cond.instanceMethod yX6_way, Cond.selects RX6 yX6_way yX6_way, Cond.code yX6_way cX6_way 6 none, Cond.methodLink RX6 99 yX6_isLess, Cond.instanceMethod yX6_isLess, Cond.selects RX6 yX6_isLess yX6_isLess, Cond.code yX6_isLess cX6_isLess 6 (some .boolean)]
def wsX6_distance : List Cond := .code yX6_distance cX6_distance 3 (some .long) :: ((wsX6_distance_r1 ++ wsX6_distance_r2) ++ wsX60)
def wsX6_hasEdge : List Cond := .code yX6_hasEdge cX6_hasEdge 4 (some .boolean) :: ([.fieldLink RX6 85 "TourHouseModel" "m" "I", .fieldLink RX6 13 "TourHouseModel" "from" "[I", .fieldLink RX6 17 "TourHouseModel" "to" "[I"] ++ wsX60)
def wsX6_groups : List Cond := .code yX6_groups cX6_groups 5 none :: ([.fieldLink RX6 68 "TourHouseModel" "group" "[I", .fieldLink RX6 85 "TourHouseModel" "m" "I", .fieldLink RX6 13 "TourHouseModel" "from" "[I", .fieldLink RX6 17 "TourHouseModel" "to" "[I", .fieldLink RX6 65 "TourHouseModel" "left" "[I"] ++ wsX60)
def wsX6_hang : List Cond := .code yX6_hang cX6_hang 4 (some .boolean) :: ([.fieldLink RX6 85 "TourHouseModel" "m" "I", .fieldLink RX6 65 "TourHouseModel" "left" "[I", .fieldLink RX6 68 "TourHouseModel" "group" "[I", .fieldLink RX6 13 "TourHouseModel" "from" "[I", .methodLink RX6 114 yX6_groups, .instanceMethod yX6_groups, .selects RX6 yX6_groups yX6_groups, .initialized RX6, .code yX6_groups cX6_groups 5 none, .fieldLink RX6 17 "TourHouseModel" "to" "[I"] ++ wsX60)
def wsX6_leaveOne : List Cond := .code yX6_leaveOne cX6_leaveOne 2 none :: ([.fieldLink RX6 85 "TourHouseModel" "m" "I", .fieldLink RX6 65 "TourHouseModel" "left" "[I"] ++ wsX60)
def wsX6_balance : List Cond := .code yX6_balance cX6_balance 4 (some .int) :: ([.fieldLink RX6 85 "TourHouseModel" "m" "I", .fieldLink RX6 17 "TourHouseModel" "to" "[I", .fieldLink RX6 13 "TourHouseModel" "from" "[I", .fieldLink RX6 88 "TourHouseModel" "directed" "Z"] ++ wsX60)
def wsX6_isOdd : List Cond := .code yX6_isOdd cX6_isOdd 2 (some .boolean) :: ([.fieldLink RX6 88 "TourHouseModel" "directed" "Z", .methodLink RX6 117 yX6_balance, .instanceMethod yX6_balance, .selects RX6 yX6_balance yX6_balance, .initialized RX6, .code yX6_balance cX6_balance 4 (some .int), .fieldLink RX6 85 "TourHouseModel" "m" "I", .fieldLink RX6 17 "TourHouseModel" "to" "[I", .fieldLink RX6 13 "TourHouseModel" "from" "[I"] ++ wsX60)
def wsX6_countOdd : List Cond := .code yX6_countOdd cX6_countOdd 3 (some .int) :: ([.fieldLink RX6 7 "TourHouseModel" "n" "I", .methodLink RX6 121 yX6_isOdd, .instanceMethod yX6_isOdd, .selects RX6 yX6_isOdd yX6_isOdd, .initialized RX6, .code yX6_isOdd cX6_isOdd 2 (some .boolean), .fieldLink RX6 88 "TourHouseModel" "directed" "Z", .methodLink RX6 117 yX6_balance, .instanceMethod yX6_balance, .selects RX6 yX6_balance yX6_balance, .code yX6_balance cX6_balance 4 (some .int), .fieldLink RX6 85 "TourHouseModel" "m" "I", .fieldLink RX6 17 "TourHouseModel" "to" "[I", .fieldLink RX6 13 "TourHouseModel" "from" "[I"] ++ wsX60)
def wsX6_goes : List Cond := .code yX6_goes cX6_goes 4 (some .int) :: ([.fieldLink RX6 85 "TourHouseModel" "m" "I", .fieldLink RX6 13 "TourHouseModel" "from" "[I", .fieldLink RX6 17 "TourHouseModel" "to" "[I", .fieldLink RX6 88 "TourHouseModel" "directed" "Z"] ++ wsX60)
def wsX6_walk : List Cond := .code yX6_walk cX6_walk 7 none :: ([.fieldLink RX6 74 "TourHouseModel" "rows" "I", .fieldLink RX6 85 "TourHouseModel" "m" "I", .fieldLink RX6 65 "TourHouseModel" "left" "[I", .fieldLink RX6 23 "TourHouseModel" "row" "[I", .methodLink RX6 124 yX6_goes, .instanceMethod yX6_goes, .selects RX6 yX6_goes yX6_goes, .initialized RX6, .code yX6_goes cX6_goes 4 (some .int), .fieldLink RX6 13 "TourHouseModel" "from" "[I", .fieldLink RX6 17 "TourHouseModel" "to" "[I", .fieldLink RX6 88 "TourHouseModel" "directed" "Z", .methodLink RX6 128 yX6_hang, .instanceMethod yX6_hang, .selects RX6 yX6_hang yX6_hang, .code yX6_hang cX6_hang 4 (some .boolean), .fieldLink RX6 68 "TourHouseModel" "group" "[I", .methodLink RX6 114 yX6_groups, .instanceMethod yX6_groups, .selects RX6 yX6_groups yX6_groups, .code yX6_groups cX6_groups 5 none] ++ wsX60)
def wsX6_tour_r1 : List Cond := [Cond.fieldLink RX6 74 "TourHouseModel" "rows" "I", Cond.methodLink RX6 94 yX6_isVertex, Cond.instanceMethod yX6_isVertex, Cond.selects RX6 yX6_isVertex yX6_isVertex, Cond.initialized RX6, Cond.code yX6_isVertex cX6_isVertex 2 (some .boolean), Cond.fieldLink RX6 7 "TourHouseModel" "n" "I", Cond.methodLink RX6 81 yX6_throwing, Cond.instanceMethod yX6_throwing, Cond.selects RX6 yX6_throwing yX6_throwing, Cond.code yX6_throwing cX6_throwing 3 (some .boolean), Cond.fieldLink RX6 71 "TourHouseModel" "thrown" "I", Cond.methodLink RX6 131 yX6_countOdd, Cond.instanceMethod yX6_countOdd, Cond.selects RX6 yX6_countOdd yX6_countOdd, Cond.code yX6_countOdd cX6_countOdd 3 (some .int), Cond.methodLink RX6 121 yX6_isOdd, Cond.instanceMethod yX6_isOdd, Cond.selects RX6 yX6_isOdd yX6_isOdd, Cond.code yX6_isOdd cX6_isOdd 2 (some .boolean), Cond.fieldLink RX6 88 "TourHouseModel" "directed" "Z", Cond.methodLink RX6 117 yX6_balance, Cond.instanceMethod yX6_balance, Cond.selects RX6 yX6_balance yX6_balance]
def wsX6_tour_r2 : List Cond := [Cond.code yX6_balance cX6_balance 4 (some .int), Cond.fieldLink RX6 85 "TourHouseModel" "m" "I", Cond.fieldLink RX6 17 "TourHouseModel" "to" "[I", Cond.fieldLink RX6 13 "TourHouseModel" "from" "[I", Cond.methodLink RX6 135 yX6_leaveOne, Cond.instanceMethod yX6_leaveOne, Cond.selects RX6 yX6_leaveOne yX6_leaveOne, Cond.code yX6_leaveOne cX6_leaveOne 2 none, Cond.fieldLink RX6 65 "TourHouseModel" "left" "[I", Cond.methodLink RX6 128 yX6_hang, Cond.instanceMethod yX6_hang, Cond.selects RX6 yX6_hang yX6_hang, Cond.code yX6_hang cX6_hang 4 (some .boolean), Cond.fieldLink RX6 68 "TourHouseModel" "group" "[I", Cond.methodLink RX6 114 yX6_groups, Cond.instanceMethod yX6_groups, Cond.selects RX6 yX6_groups yX6_groups, Cond.code yX6_groups cX6_groups 5 none, Cond.methodLink RX6 138 yX6_walk, Cond.instanceMethod yX6_walk, Cond.selects RX6 yX6_walk yX6_walk, Cond.code yX6_walk cX6_walk 7 none, Cond.fieldLink RX6 23 "TourHouseModel" "row" "[I", Cond.methodLink RX6 124 yX6_goes]
def wsX6_tour_r3 : List Cond := [Cond.instanceMethod yX6_goes, Cond.selects RX6 yX6_goes yX6_goes, Cond.code yX6_goes cX6_goes 4 (some .int)]
def wsX6_tour : List Cond := .code yX6_tour cX6_tour 2 (some .int) :: ((wsX6_tour_r1 ++ (wsX6_tour_r2 ++ wsX6_tour_r3)) ++ wsX60)
def wsX6_pairSet : List Cond := .code yX6_pairSet cX6_pairSet 10 none :: ([.fieldLink RX6 43 "TourHouseModel" "setCost" "[J", .constantLong RX6 103 (1152921504606846976), .fieldLink RX6 46 "TourHouseModel" "setBits" "[J", .fieldLink RX6 142 "TourHouseModel" "odds" "I", .fieldLink RX6 39 "TourHouseModel" "odd" "[I", .fieldLink RX6 32 "TourHouseModel" "far" "[J", .fieldLink RX6 36 "TourHouseModel" "bits" "[J"] ++ wsX60)
def wsX6_pair_r1 : List Cond := [Cond.fieldLink RX6 142 "TourHouseModel" "odds" "I", Cond.fieldLink RX6 7 "TourHouseModel" "n" "I", Cond.fieldLink RX6 39 "TourHouseModel" "odd" "[I", Cond.fieldLink RX6 43 "TourHouseModel" "setCost" "[J", Cond.fieldLink RX6 46 "TourHouseModel" "setBits" "[J", Cond.fieldLink RX6 85 "TourHouseModel" "m" "I", Cond.fieldLink RX6 29 "TourHouseModel" "extra" "[I", Cond.methodLink RX6 121 yX6_isOdd, Cond.instanceMethod yX6_isOdd, Cond.selects RX6 yX6_isOdd yX6_isOdd, Cond.initialized RX6, Cond.code yX6_isOdd cX6_isOdd 2 (some .boolean), Cond.fieldLink RX6 88 "TourHouseModel" "directed" "Z", Cond.methodLink RX6 117 yX6_balance, Cond.instanceMethod yX6_balance, Cond.selects RX6 yX6_balance yX6_balance, Cond.code yX6_balance cX6_balance 4 (some .int), Cond.fieldLink RX6 17 "TourHouseModel" "to" "[I", Cond.fieldLink RX6 13 "TourHouseModel" "from" "[I", Cond.methodLink RX6 145 yX6_pairSet, Cond.instanceMethod yX6_pairSet, Cond.selects RX6 yX6_pairSet yX6_pairSet, Cond.code yX6_pairSet cX6_pairSet 10 none, Cond.constantLong RX6 103 (1152921504606846976)]
def wsX6_pair_r2 : List Cond := [Cond.fieldLink RX6 32 "TourHouseModel" "far" "[J", Cond.fieldLink RX6 36 "TourHouseModel" "bits" "[J"]
def wsX6_pair : List Cond := .code yX6_pair cX6_pair 4 none :: ((wsX6_pair_r1 ++ wsX6_pair_r2) ++ wsX60)
def wsX6_addEdge : List Cond := .code yX6_addEdge cX6_addEdge 5 none :: ([.fieldLink RX6 62 "TourHouseModel" "sum" "[J", .fieldLink RX6 52 "TourHouseModel" "ways" "[J", .fieldLink RX6 20 "TourHouseModel" "weight" "[I"] ++ wsX60)
def wsX6_isSumLess : List Cond := .code yX6_isSumLess cX6_isSumLess 3 (some .boolean) :: ([.fieldLink RX6 55 "TourHouseModel" "reached" "[Z", .fieldLink RX6 62 "TourHouseModel" "sum" "[J", .fieldLink RX6 52 "TourHouseModel" "ways" "[J"] ++ wsX60)
def wsX6_reach : List Cond := .code yX6_reach cX6_reach 6 (some .boolean) :: ([.fieldLink RX6 55 "TourHouseModel" "reached" "[Z", .fieldLink RX6 59 "TourHouseModel" "by" "[I", .fieldLink RX6 52 "TourHouseModel" "ways" "[J", .fieldLink RX6 62 "TourHouseModel" "sum" "[J", .methodLink RX6 148 yX6_addEdge, .instanceMethod yX6_addEdge, .selects RX6 yX6_addEdge yX6_addEdge, .initialized RX6, .code yX6_addEdge cX6_addEdge 5 none, .fieldLink RX6 20 "TourHouseModel" "weight" "[I", .methodLink RX6 152 yX6_isSumLess, .instanceMethod yX6_isSumLess, .selects RX6 yX6_isSumLess yX6_isSumLess, .code yX6_isSumLess cX6_isSumLess 3 (some .boolean)] ++ wsX60)
def wsX6_spread : List Cond := .code yX6_spread cX6_spread 3 none :: ([.fieldLink RX6 7 "TourHouseModel" "n" "I", .fieldLink RX6 55 "TourHouseModel" "reached" "[Z", .fieldLink RX6 49 "TourHouseModel" "surplus" "[I", .fieldLink RX6 59 "TourHouseModel" "by" "[I", .fieldLink RX6 52 "TourHouseModel" "ways" "[J", .fieldLink RX6 85 "TourHouseModel" "m" "I", .fieldLink RX6 13 "TourHouseModel" "from" "[I", .fieldLink RX6 17 "TourHouseModel" "to" "[I", .fieldLink RX6 29 "TourHouseModel" "extra" "[I", .methodLink RX6 155 yX6_reach, .instanceMethod yX6_reach, .selects RX6 yX6_reach yX6_reach, .initialized RX6, .code yX6_reach cX6_reach 6 (some .boolean), .fieldLink RX6 62 "TourHouseModel" "sum" "[J", .methodLink RX6 148 yX6_addEdge, .instanceMethod yX6_addEdge, .selects RX6 yX6_addEdge yX6_addEdge, .code yX6_addEdge cX6_addEdge 5 none, .fieldLink RX6 20 "TourHouseModel" "weight" "[I", .methodLink RX6 152 yX6_isSumLess, .instanceMethod yX6_isSumLess, .selects RX6 yX6_isSumLess yX6_isSumLess, .code yX6_isSumLess cX6_isSumLess 3 (some .boolean)] ++ wsX60)
def wsX6_nearest : List Cond := .code yX6_nearest cX6_nearest 4 (some .int) :: ([.fieldLink RX6 7 "TourHouseModel" "n" "I", .fieldLink RX6 49 "TourHouseModel" "surplus" "[I", .fieldLink RX6 62 "TourHouseModel" "sum" "[J", .fieldLink RX6 52 "TourHouseModel" "ways" "[J", .methodLink RX6 152 yX6_isSumLess, .instanceMethod yX6_isSumLess, .selects RX6 yX6_isSumLess yX6_isSumLess, .initialized RX6, .code yX6_isSumLess cX6_isSumLess 3 (some .boolean), .fieldLink RX6 55 "TourHouseModel" "reached" "[Z"] ++ wsX60)
def wsX6_flow_r1 : List Cond := [Cond.fieldLink RX6 7 "TourHouseModel" "n" "I", Cond.fieldLink RX6 49 "TourHouseModel" "surplus" "[I", Cond.fieldLink RX6 85 "TourHouseModel" "m" "I", Cond.fieldLink RX6 29 "TourHouseModel" "extra" "[I", Cond.fieldLink RX6 59 "TourHouseModel" "by" "[I", Cond.fieldLink RX6 13 "TourHouseModel" "from" "[I", Cond.fieldLink RX6 17 "TourHouseModel" "to" "[I", Cond.methodLink RX6 117 yX6_balance, Cond.instanceMethod yX6_balance, Cond.selects RX6 yX6_balance yX6_balance, Cond.initialized RX6, Cond.code yX6_balance cX6_balance 4 (some .int), Cond.fieldLink RX6 88 "TourHouseModel" "directed" "Z", Cond.methodLink RX6 159 yX6_spread, Cond.instanceMethod yX6_spread, Cond.selects RX6 yX6_spread yX6_spread, Cond.code yX6_spread cX6_spread 3 none, Cond.fieldLink RX6 55 "TourHouseModel" "reached" "[Z", Cond.fieldLink RX6 52 "TourHouseModel" "ways" "[J", Cond.methodLink RX6 155 yX6_reach, Cond.instanceMethod yX6_reach, Cond.selects RX6 yX6_reach yX6_reach, Cond.code yX6_reach cX6_reach 6 (some .boolean), Cond.fieldLink RX6 62 "TourHouseModel" "sum" "[J"]
def wsX6_flow_r2 : List Cond := [Cond.methodLink RX6 148 yX6_addEdge, Cond.instanceMethod yX6_addEdge, Cond.selects RX6 yX6_addEdge yX6_addEdge, Cond.code yX6_addEdge cX6_addEdge 5 none, Cond.fieldLink RX6 20 "TourHouseModel" "weight" "[I", Cond.methodLink RX6 152 yX6_isSumLess, Cond.instanceMethod yX6_isSumLess, Cond.selects RX6 yX6_isSumLess yX6_isSumLess, Cond.code yX6_isSumLess cX6_isSumLess 3 (some .boolean), Cond.methodLink RX6 162 yX6_nearest, Cond.instanceMethod yX6_nearest, Cond.selects RX6 yX6_nearest yX6_nearest, Cond.code yX6_nearest cX6_nearest 4 (some .int)]
def wsX6_flow : List Cond := .code yX6_flow cX6_flow 4 none :: ((wsX6_flow_r1 ++ wsX6_flow_r2) ++ wsX60)
def wsX6_covers : List Cond := .code yX6_covers cX6_covers 4 (some .boolean) :: ([.fieldLink RX6 85 "TourHouseModel" "m" "I", .fieldLink RX6 7 "TourHouseModel" "n" "I", .fieldLink RX6 32 "TourHouseModel" "far" "[J", .constantLong RX6 103 (1152921504606846976), .methodLink RX6 165 yX6_hasEdge, .instanceMethod yX6_hasEdge, .selects RX6 yX6_hasEdge yX6_hasEdge, .initialized RX6, .code yX6_hasEdge cX6_hasEdge 4 (some .boolean), .fieldLink RX6 13 "TourHouseModel" "from" "[I", .fieldLink RX6 17 "TourHouseModel" "to" "[I"] ++ wsX60)
def wsX6_round_r1 : List Cond := [Cond.constantLong RX6 112 (-1), Cond.fieldLink RX6 88 "TourHouseModel" "directed" "Z", Cond.fieldLink RX6 85 "TourHouseModel" "m" "I", Cond.fieldLink RX6 65 "TourHouseModel" "left" "[I", Cond.fieldLink RX6 29 "TourHouseModel" "extra" "[I", Cond.fieldLink RX6 20 "TourHouseModel" "weight" "[I", Cond.fieldLink RX6 77 "TourHouseModel" "hasRound" "Z", Cond.methodLink RX6 94 yX6_isVertex, Cond.instanceMethod yX6_isVertex, Cond.selects RX6 yX6_isVertex yX6_isVertex, Cond.initialized RX6, Cond.code yX6_isVertex cX6_isVertex 2 (some .boolean), Cond.fieldLink RX6 7 "TourHouseModel" "n" "I", Cond.methodLink RX6 81 yX6_throwing, Cond.instanceMethod yX6_throwing, Cond.selects RX6 yX6_throwing yX6_throwing, Cond.code yX6_throwing cX6_throwing 3 (some .boolean), Cond.fieldLink RX6 71 "TourHouseModel" "thrown" "I", Cond.methodLink RX6 109 yX6_measure, Cond.instanceMethod yX6_measure, Cond.selects RX6 yX6_measure yX6_measure, Cond.code yX6_measure cX6_measure 5 none, Cond.fieldLink RX6 32 "TourHouseModel" "far" "[J", Cond.constantLong RX6 103 (1152921504606846976)]
def wsX6_round_r2 : List Cond := [Cond.fieldLink RX6 36 "TourHouseModel" "bits" "[J", Cond.fieldLink RX6 13 "TourHouseModel" "from" "[I", Cond.fieldLink RX6 17 "TourHouseModel" "to" "[I", Cond.methodLink RX6 105 yX6_way, Cond.instanceMethod yX6_way, Cond.selects RX6 yX6_way yX6_way, Cond.code yX6_way cX6_way 6 none, Cond.methodLink RX6 99 yX6_isLess, Cond.instanceMethod yX6_isLess, Cond.selects RX6 yX6_isLess yX6_isLess, Cond.code yX6_isLess cX6_isLess 6 (some .boolean), Cond.methodLink RX6 168 yX6_covers, Cond.instanceMethod yX6_covers, Cond.selects RX6 yX6_covers yX6_covers, Cond.code yX6_covers cX6_covers 4 (some .boolean), Cond.methodLink RX6 165 yX6_hasEdge, Cond.instanceMethod yX6_hasEdge, Cond.selects RX6 yX6_hasEdge yX6_hasEdge, Cond.code yX6_hasEdge cX6_hasEdge 4 (some .boolean), Cond.methodLink RX6 171 yX6_flow, Cond.instanceMethod yX6_flow, Cond.selects RX6 yX6_flow yX6_flow, Cond.code yX6_flow cX6_flow 4 none, Cond.fieldLink RX6 49 "TourHouseModel" "surplus" "[I"]
def wsX6_round_r3 : List Cond := [Cond.fieldLink RX6 59 "TourHouseModel" "by" "[I", Cond.methodLink RX6 117 yX6_balance, Cond.instanceMethod yX6_balance, Cond.selects RX6 yX6_balance yX6_balance, Cond.code yX6_balance cX6_balance 4 (some .int), Cond.methodLink RX6 159 yX6_spread, Cond.instanceMethod yX6_spread, Cond.selects RX6 yX6_spread yX6_spread, Cond.code yX6_spread cX6_spread 3 none, Cond.fieldLink RX6 55 "TourHouseModel" "reached" "[Z", Cond.fieldLink RX6 52 "TourHouseModel" "ways" "[J", Cond.methodLink RX6 155 yX6_reach, Cond.instanceMethod yX6_reach, Cond.selects RX6 yX6_reach yX6_reach, Cond.code yX6_reach cX6_reach 6 (some .boolean), Cond.fieldLink RX6 62 "TourHouseModel" "sum" "[J", Cond.methodLink RX6 148 yX6_addEdge, Cond.instanceMethod yX6_addEdge, Cond.selects RX6 yX6_addEdge yX6_addEdge, Cond.code yX6_addEdge cX6_addEdge 5 none, Cond.methodLink RX6 152 yX6_isSumLess, Cond.instanceMethod yX6_isSumLess, Cond.selects RX6 yX6_isSumLess yX6_isSumLess, Cond.code yX6_isSumLess cX6_isSumLess 3 (some .boolean)]
def wsX6_round_r4 : List Cond := [Cond.methodLink RX6 162 yX6_nearest, Cond.instanceMethod yX6_nearest, Cond.selects RX6 yX6_nearest yX6_nearest, Cond.code yX6_nearest cX6_nearest 4 (some .int), Cond.methodLink RX6 174 yX6_pair, Cond.instanceMethod yX6_pair, Cond.selects RX6 yX6_pair yX6_pair, Cond.code yX6_pair cX6_pair 4 none, Cond.fieldLink RX6 142 "TourHouseModel" "odds" "I", Cond.fieldLink RX6 39 "TourHouseModel" "odd" "[I", Cond.fieldLink RX6 43 "TourHouseModel" "setCost" "[J", Cond.fieldLink RX6 46 "TourHouseModel" "setBits" "[J", Cond.methodLink RX6 121 yX6_isOdd, Cond.instanceMethod yX6_isOdd, Cond.selects RX6 yX6_isOdd yX6_isOdd, Cond.code yX6_isOdd cX6_isOdd 2 (some .boolean), Cond.methodLink RX6 145 yX6_pairSet, Cond.instanceMethod yX6_pairSet, Cond.selects RX6 yX6_pairSet yX6_pairSet, Cond.code yX6_pairSet cX6_pairSet 10 none, Cond.methodLink RX6 138 yX6_walk, Cond.instanceMethod yX6_walk, Cond.selects RX6 yX6_walk yX6_walk, Cond.code yX6_walk cX6_walk 7 none]
def wsX6_round_r5 : List Cond := [Cond.fieldLink RX6 74 "TourHouseModel" "rows" "I", Cond.fieldLink RX6 23 "TourHouseModel" "row" "[I", Cond.methodLink RX6 124 yX6_goes, Cond.instanceMethod yX6_goes, Cond.selects RX6 yX6_goes yX6_goes, Cond.code yX6_goes cX6_goes 4 (some .int), Cond.methodLink RX6 128 yX6_hang, Cond.instanceMethod yX6_hang, Cond.selects RX6 yX6_hang yX6_hang, Cond.code yX6_hang cX6_hang 4 (some .boolean), Cond.fieldLink RX6 68 "TourHouseModel" "group" "[I", Cond.methodLink RX6 114 yX6_groups, Cond.instanceMethod yX6_groups, Cond.selects RX6 yX6_groups yX6_groups, Cond.code yX6_groups cX6_groups 5 none]
def wsX6_round : List Cond := .code yX6_round cX6_round 5 (some .long) :: ((wsX6_round_r1 ++ (wsX6_round_r2 ++ (wsX6_round_r3 ++ (wsX6_round_r4 ++ wsX6_round_r5)))) ++ wsX60)
def wsX6_extra : List Cond := .code yX6_extra cX6_extra 2 (some .int) :: ([.fieldLink RX6 85 "TourHouseModel" "m" "I", .fieldLink RX6 77 "TourHouseModel" "hasRound" "Z", .fieldLink RX6 29 "TourHouseModel" "extra" "[I", .methodLink RX6 81 yX6_throwing, .instanceMethod yX6_throwing, .selects RX6 yX6_throwing yX6_throwing, .initialized RX6, .code yX6_throwing cX6_throwing 3 (some .boolean), .fieldLink RX6 71 "TourHouseModel" "thrown" "I"] ++ wsX60)
def wsX6_row : List Cond := .code yX6_row cX6_row 2 (some .int) :: ([.fieldLink RX6 74 "TourHouseModel" "rows" "I", .fieldLink RX6 23 "TourHouseModel" "row" "[I", .methodLink RX6 81 yX6_throwing, .instanceMethod yX6_throwing, .selects RX6 yX6_throwing yX6_throwing, .initialized RX6, .code yX6_throwing cX6_throwing 3 (some .boolean), .fieldLink RX6 71 "TourHouseModel" "thrown" "I"] ++ wsX60)
def wsX6_step : List Cond := .code yX6_step cX6_step 2 (some .int) :: ([.fieldLink RX6 177 "TourHouseModel" "steps" "I", .fieldLink RX6 26 "TourHouseModel" "path" "[I", .methodLink RX6 81 yX6_throwing, .instanceMethod yX6_throwing, .selects RX6 yX6_throwing yX6_throwing, .initialized RX6, .code yX6_throwing cX6_throwing 3 (some .boolean), .fieldLink RX6 71 "TourHouseModel" "thrown" "I"] ++ wsX60)
def wsX6_judge_r1 : List Cond := [Cond.fieldLink RX6 177 "TourHouseModel" "steps" "I", Cond.fieldLink RX6 85 "TourHouseModel" "m" "I", Cond.fieldLink RX6 65 "TourHouseModel" "left" "[I", Cond.fieldLink RX6 26 "TourHouseModel" "path" "[I", Cond.fieldLink RX6 20 "TourHouseModel" "weight" "[I", Cond.constantLong RX6 112 (-1), Cond.constantLong RX6 180 (-2), Cond.constantLong RX6 182 (-3), Cond.methodLink RX6 94 yX6_isVertex, Cond.instanceMethod yX6_isVertex, Cond.selects RX6 yX6_isVertex yX6_isVertex, Cond.initialized RX6, Cond.code yX6_isVertex cX6_isVertex 2 (some .boolean), Cond.fieldLink RX6 7 "TourHouseModel" "n" "I", Cond.methodLink RX6 81 yX6_throwing, Cond.instanceMethod yX6_throwing, Cond.selects RX6 yX6_throwing yX6_throwing, Cond.code yX6_throwing cX6_throwing 3 (some .boolean), Cond.fieldLink RX6 71 "TourHouseModel" "thrown" "I", Cond.methodLink RX6 124 yX6_goes, Cond.instanceMethod yX6_goes, Cond.selects RX6 yX6_goes yX6_goes, Cond.code yX6_goes cX6_goes 4 (some .int), Cond.fieldLink RX6 13 "TourHouseModel" "from" "[I"]
def wsX6_judge_r2 : List Cond := [Cond.fieldLink RX6 17 "TourHouseModel" "to" "[I", Cond.fieldLink RX6 88 "TourHouseModel" "directed" "Z"]
def wsX6_judge : List Cond := .code yX6_judge cX6_judge 8 (some .long) :: ((wsX6_judge_r1 ++ wsX6_judge_r2) ++ wsX60)
def wsX6_sets : List Cond := .code yX6_sets cX6_sets 3 (some .int) :: ([.fieldLink RX6 7 "TourHouseModel" "n" "I", .fieldLink RX6 68 "TourHouseModel" "group" "[I", .methodLink RX6 135 yX6_leaveOne, .instanceMethod yX6_leaveOne, .selects RX6 yX6_leaveOne yX6_leaveOne, .initialized RX6, .code yX6_leaveOne cX6_leaveOne 2 none, .fieldLink RX6 85 "TourHouseModel" "m" "I", .fieldLink RX6 65 "TourHouseModel" "left" "[I", .methodLink RX6 114 yX6_groups, .instanceMethod yX6_groups, .selects RX6 yX6_groups yX6_groups, .code yX6_groups cX6_groups 5 none, .fieldLink RX6 13 "TourHouseModel" "from" "[I", .fieldLink RX6 17 "TourHouseModel" "to" "[I", .methodLink RX6 165 yX6_hasEdge, .instanceMethod yX6_hasEdge, .selects RX6 yX6_hasEdge yX6_hasEdge, .code yX6_hasEdge cX6_hasEdge 4 (some .boolean)] ++ wsX60)
def wsX6_leastOdd : List Cond := .code yX6_leastOdd cX6_leastOdd 2 (some .int) :: ([.fieldLink RX6 7 "TourHouseModel" "n" "I", .methodLink RX6 121 yX6_isOdd, .instanceMethod yX6_isOdd, .selects RX6 yX6_isOdd yX6_isOdd, .initialized RX6, .code yX6_isOdd cX6_isOdd 2 (some .boolean), .fieldLink RX6 88 "TourHouseModel" "directed" "Z", .methodLink RX6 117 yX6_balance, .instanceMethod yX6_balance, .selects RX6 yX6_balance yX6_balance, .code yX6_balance cX6_balance 4 (some .int), .fieldLink RX6 85 "TourHouseModel" "m" "I", .fieldLink RX6 17 "TourHouseModel" "to" "[I", .fieldLink RX6 13 "TourHouseModel" "from" "[I"] ++ wsX60)
def wsX6_touched : List Cond := .code yX6_touched cX6_touched 3 (some .int) :: ([.fieldLink RX6 7 "TourHouseModel" "n" "I", .methodLink RX6 165 yX6_hasEdge, .instanceMethod yX6_hasEdge, .selects RX6 yX6_hasEdge yX6_hasEdge, .initialized RX6, .code yX6_hasEdge cX6_hasEdge 4 (some .boolean), .fieldLink RX6 85 "TourHouseModel" "m" "I", .fieldLink RX6 13 "TourHouseModel" "from" "[I", .fieldLink RX6 17 "TourHouseModel" "to" "[I"] ++ wsX60)
def wsX6_look_r1 : List Cond := [Cond.fieldLink RX6 7 "TourHouseModel" "n" "I", Cond.fieldLink RX6 85 "TourHouseModel" "m" "I", Cond.fieldLink RX6 88 "TourHouseModel" "directed" "Z", Cond.fieldLink RX6 74 "TourHouseModel" "rows" "I", Cond.fieldLink RX6 177 "TourHouseModel" "steps" "I", Cond.methodLink RX6 81 yX6_throwing, Cond.instanceMethod yX6_throwing, Cond.selects RX6 yX6_throwing yX6_throwing, Cond.initialized RX6, Cond.code yX6_throwing cX6_throwing 3 (some .boolean), Cond.fieldLink RX6 71 "TourHouseModel" "thrown" "I", Cond.methodLink RX6 131 yX6_countOdd, Cond.instanceMethod yX6_countOdd, Cond.selects RX6 yX6_countOdd yX6_countOdd, Cond.code yX6_countOdd cX6_countOdd 3 (some .int), Cond.methodLink RX6 121 yX6_isOdd, Cond.instanceMethod yX6_isOdd, Cond.selects RX6 yX6_isOdd yX6_isOdd, Cond.code yX6_isOdd cX6_isOdd 2 (some .boolean), Cond.methodLink RX6 117 yX6_balance, Cond.instanceMethod yX6_balance, Cond.selects RX6 yX6_balance yX6_balance, Cond.code yX6_balance cX6_balance 4 (some .int), Cond.fieldLink RX6 17 "TourHouseModel" "to" "[I"]
def wsX6_look_r2 : List Cond := [Cond.fieldLink RX6 13 "TourHouseModel" "from" "[I", Cond.methodLink RX6 184 yX6_leastOdd, Cond.instanceMethod yX6_leastOdd, Cond.selects RX6 yX6_leastOdd yX6_leastOdd, Cond.code yX6_leastOdd cX6_leastOdd 2 (some .int), Cond.methodLink RX6 187 yX6_sets, Cond.instanceMethod yX6_sets, Cond.selects RX6 yX6_sets yX6_sets, Cond.code yX6_sets cX6_sets 3 (some .int), Cond.fieldLink RX6 68 "TourHouseModel" "group" "[I", Cond.methodLink RX6 135 yX6_leaveOne, Cond.instanceMethod yX6_leaveOne, Cond.selects RX6 yX6_leaveOne yX6_leaveOne, Cond.code yX6_leaveOne cX6_leaveOne 2 none, Cond.fieldLink RX6 65 "TourHouseModel" "left" "[I", Cond.methodLink RX6 114 yX6_groups, Cond.instanceMethod yX6_groups, Cond.selects RX6 yX6_groups yX6_groups, Cond.code yX6_groups cX6_groups 5 none, Cond.methodLink RX6 165 yX6_hasEdge, Cond.instanceMethod yX6_hasEdge, Cond.selects RX6 yX6_hasEdge yX6_hasEdge, Cond.code yX6_hasEdge cX6_hasEdge 4 (some .boolean), Cond.methodLink RX6 190 yX6_touched]
def wsX6_look_r3 : List Cond := [Cond.instanceMethod yX6_touched, Cond.selects RX6 yX6_touched yX6_touched, Cond.code yX6_touched cX6_touched 3 (some .int)]
def wsX6_look : List Cond := .code yX6_look cX6_look 2 (some .int) :: ((wsX6_look_r1 ++ (wsX6_look_r2 ++ wsX6_look_r3)) ++ wsX60)
theorem inJ6 : ∀ w ∈ wsJ60, w ∈ lw_tbl := by decide +kernel
theorem inJ0 : ∀ w ∈ wsJ00, w ∈ lw_tbl := by decide +kernel
theorem inJ10 : ∀ w ∈ wsJ100, w ∈ lw_tbl := by decide +kernel
theorem inJ7 : ∀ w ∈ wsJ70, w ∈ lw_tbl := by decide +kernel
abbrev vwCl : List vw_C := [(RX0, TX0, 1), (RX1, TX1, 6), (RX2, TX2, 6), (RX3, TX3, 7), (RX4, TX4, 2), (RX5, TX5, 9), (RX6, TX6, 26)]
end
section
set_option maxRecDepth 20000 in
theorem ggX0_find_J7_fill_53178 : GoodIn wsX0_find wsJ7_fill_53178 := goodIn_r _ [6] (by decide +kernel) (by decide +kernel)
set_option maxRecDepth 20000 in
theorem gX0_find_J7_fill_53178 : GoodIn wsX0_find (va_wsS RX0 15 yJ7_fill_53178 wsJ7_fill_53178) := goodIn_app (goodIn_of _ (by decide +kernel)) ggX0_find_J7_fill_53178
set_option maxRecDepth 20000 in
theorem ggX0_find_X2_surplusAt : GoodIn wsX0_find wsX2_surplusAt := goodIn_r _ [11, 12, 13, 14, 49, 50, 51, 52, 53, 54] (by decide +kernel) (by decide +kernel)
set_option maxRecDepth 20000 in
theorem gX0_find_X2_surplusAt : GoodIn wsX0_find (wsV RX0 27 RX2 yX2_surplusAt wsX2_surplusAt) := goodIn_app (goodIn_of _ (by decide +kernel)) ggX0_find_X2_surplusAt
set_option maxRecDepth 20000 in
theorem ggX0_find_X0_leastWithSign : GoodIn wsX0_find wsX0_leastWithSign := goodIn_r _ [19, 2, 55] (by decide +kernel) (by decide +kernel)
set_option maxRecDepth 20000 in
theorem gX0_find_X0_leastWithSign : GoodIn wsX0_find (wsV RX0 31 RX0 yX0_leastWithSign wsX0_leastWithSign) := goodIn_app (goodIn_of _ (by decide +kernel)) ggX0_find_X0_leastWithSign
set_option maxRecDepth 20000 in
theorem ggX0_find_X1_searchBesideExtras : GoodIn wsX0_find wsX1_searchBesideExtras := goodIn_r _ [24, 25, 26, 27, 28, 29, 30, 31, 32, 33, 34, 35, 36, 23, 37, 38, 39, 40, 41, 56, 57, 58, 59, 60, 61, 49, 50, 51, 52, 53, 54] (by decide +kernel) (by decide +kernel)
set_option maxRecDepth 20000 in
theorem gX0_find_X1_searchBesideExtras : GoodIn wsX0_find (wsV RX0 35 RX1 yX1_searchBesideExtras wsX1_searchBesideExtras) := goodIn_app (goodIn_of _ (by decide +kernel)) ggX0_find_X1_searchBesideExtras
set_option maxRecDepth 20000 in
theorem ggX0_find_X0_addPassage : GoodIn wsX0_find wsX0_addPassage := goodIn_r _ [45, 46, 47, 48, 56, 57, 58, 59, 60, 61, 49, 50, 51, 52, 53, 54] (by decide +kernel) (by decide +kernel)
set_option maxRecDepth 20000 in
theorem gX0_find_X0_addPassage : GoodIn wsX0_find (wsV RX0 41 RX0 yX0_addPassage wsX0_addPassage) := goodIn_app (goodIn_of _ (by decide +kernel)) ggX0_find_X0_addPassage
set_option maxRecDepth 20000 in
theorem ggX1_searchFrom_X1_searchBesideExtras : GoodIn wsX1_searchFrom wsX1_searchBesideExtras := goodIn_r _ [6, 7, 8, 9, 10, 11, 12, 13, 14, 15, 16, 17, 18, 5, 19, 20, 21, 22, 23, 24, 25, 26, 27, 28, 29, 30, 31, 32, 33, 34, 35] (by decide +kernel) (by decide +kernel)
set_option maxRecDepth 20000 in
theorem gX1_searchFrom_X1_searchBesideExtras : GoodIn wsX1_searchFrom (wsV RX1 33 RX1 yX1_searchBesideExtras wsX1_searchBesideExtras) := goodIn_app (goodIn_of _ (by decide +kernel)) ggX1_searchFrom_X1_searchBesideExtras
set_option maxRecDepth 20000 in
theorem ggX1_searchBesideExtras_X1_tryStep : GoodIn wsX1_searchBesideExtras wsX1_tryStep := goodIn_r _ [14, 1, 2, 3, 15, 4, 16, 17, 13, 18, 19, 20, 21, 22, 23, 24] (by decide +kernel) (by decide +kernel)
set_option maxRecDepth 20000 in
theorem gX1_searchBesideExtras_X1_tryStep : GoodIn wsX1_searchBesideExtras (wsV RX1 52 RX1 yX1_tryStep wsX1_tryStep) := goodIn_app (goodIn_of _ (by decide +kernel)) ggX1_searchBesideExtras_X1_tryStep
set_option maxRecDepth 20000 in
theorem ggX1_tryStep_X1_isLess : GoodIn wsX1_tryStep wsX1_isLess := goodIn_r _ [9] (by decide +kernel) (by decide +kernel)
set_option maxRecDepth 20000 in
theorem gX1_tryStep_X1_isLess : GoodIn wsX1_tryStep (va_wsS RX1 59 yX1_isLess wsX1_isLess) := goodIn_app (goodIn_of _ (by decide +kernel)) ggX1_tryStep_X1_isLess
set_option maxRecDepth 20000 in
theorem ggX2_oddVertices_X2_surplusAt : GoodIn wsX2_oddVertices wsX2_surplusAt := goodIn_r _ [7, 8, 9, 10, 11, 12, 13, 14, 15, 16] (by decide +kernel) (by decide +kernel)
set_option maxRecDepth 20000 in
theorem gX2_oddVertices_X2_surplusAt : GoodIn wsX2_oddVertices (wsV RX2 32 RX2 yX2_surplusAt wsX2_surplusAt) := goodIn_app (goodIn_of _ (by decide +kernel)) ggX2_oddVertices_X2_surplusAt
set_option maxRecDepth 20000 in
theorem ggX2_hangsTogetherAt_X2_touchedBy : GoodIn wsX2_hangsTogetherAt wsX2_touchedBy := goodIn_r _ [5, 6, 7, 8, 13, 14, 15, 16, 17, 18] (by decide +kernel) (by decide +kernel)
set_option maxRecDepth 20000 in
theorem gX2_hangsTogetherAt_X2_touchedBy : GoodIn wsX2_hangsTogetherAt (wsV RX2 36 RX2 yX2_touchedBy wsX2_touchedBy) := goodIn_app (goodIn_of _ (by decide +kernel)) ggX2_hangsTogetherAt_X2_touchedBy
set_option maxRecDepth 20000 in
theorem ggX2_hangsTogetherAt_X2_reachOf : GoodIn wsX2_hangsTogetherAt wsX2_reachOf := goodIn_r _ [12, 6, 7, 8, 13, 14, 15, 16, 17, 18] (by decide +kernel) (by decide +kernel)
set_option maxRecDepth 20000 in
theorem gX2_hangsTogetherAt_X2_reachOf : GoodIn wsX2_hangsTogetherAt (wsV RX2 40 RX2 yX2_reachOf wsX2_reachOf) := goodIn_app (goodIn_of _ (by decide +kernel)) ggX2_hangsTogetherAt_X2_reachOf
set_option maxRecDepth 20000 in
theorem ggX2_canBeCoveredFrom_X2_touchedBy : GoodIn wsX2_canBeCoveredFrom wsX2_touchedBy := goodIn_r _ [6, 7, 8, 9, 14, 15, 16, 17, 18, 19] (by decide +kernel) (by decide +kernel)
set_option maxRecDepth 20000 in
theorem gX2_canBeCoveredFrom_X2_touchedBy : GoodIn wsX2_canBeCoveredFrom (wsV RX2 36 RX2 yX2_touchedBy wsX2_touchedBy) := goodIn_app (goodIn_of _ (by decide +kernel)) ggX2_canBeCoveredFrom_X2_touchedBy
set_option maxRecDepth 20000 in
theorem ggX2_canBeCoveredFrom_X2_reachOf : GoodIn wsX2_canBeCoveredFrom wsX2_reachOf := goodIn_r _ [13, 7, 8, 9, 14, 15, 16, 17, 18, 19] (by decide +kernel) (by decide +kernel)
set_option maxRecDepth 20000 in
theorem gX2_canBeCoveredFrom_X2_reachOf : GoodIn wsX2_canBeCoveredFrom (wsV RX2 40 RX2 yX2_reachOf wsX2_reachOf) := goodIn_app (goodIn_of _ (by decide +kernel)) ggX2_canBeCoveredFrom_X2_reachOf
set_option maxRecDepth 20000 in
theorem ggX2_countRegions_X2_touchedBy : GoodIn wsX2_countRegions wsX2_touchedBy := goodIn_r _ [6, 7, 8, 9, 14, 15, 16, 17, 18, 19] (by decide +kernel) (by decide +kernel)
set_option maxRecDepth 20000 in
theorem gX2_countRegions_X2_touchedBy : GoodIn wsX2_countRegions (wsV RX2 36 RX2 yX2_touchedBy wsX2_touchedBy) := goodIn_app (goodIn_of _ (by decide +kernel)) ggX2_countRegions_X2_touchedBy
set_option maxRecDepth 20000 in
theorem ggX2_countRegions_X2_reachOf : GoodIn wsX2_countRegions wsX2_reachOf := goodIn_r _ [13, 7, 8, 9, 14, 15, 16, 17, 18, 19] (by decide +kernel) (by decide +kernel)
set_option maxRecDepth 20000 in
theorem gX2_countRegions_X2_reachOf : GoodIn wsX2_countRegions (wsV RX2 40 RX2 yX2_reachOf wsX2_reachOf) := goodIn_app (goodIn_of _ (by decide +kernel)) ggX2_countRegions_X2_reachOf
set_option maxRecDepth 20000 in
theorem ggX3_find_X2_oddVertices : GoodIn wsX3_find wsX2_oddVertices := goodIn_r _ [6, 7, 8, 9, 10, 11, 5, 12, 13, 14, 15, 86, 87, 88, 89, 90, 91] (by decide +kernel) (by decide +kernel)
set_option maxRecDepth 20000 in
theorem gX3_find_X2_oddVertices : GoodIn wsX3_find (wsV RX3 37 RX2 yX2_oddVertices wsX2_oddVertices) := goodIn_app (goodIn_of _ (by decide +kernel)) ggX3_find_X2_oddVertices
set_option maxRecDepth 20000 in
theorem ggX3_find_X3_measurePairs : GoodIn wsX3_find wsX3_measurePairs := goodIn_r _ [20, 21, 22, 23, 24, 25, 26, 27, 28, 29, 30, 31, 32, 33, 34, 35, 36, 37, 38, 39, 40, 41, 42, 43, 44, 45, 46, 47, 48, 49, 50, 51, 52, 53, 54, 55, 92, 93, 94, 95, 96, 97, 98, 99, 100, 101, 102, 103, 104, 86, 87, 88, 89, 90, 91] (by decide +kernel) (by decide +kernel)
set_option maxRecDepth 20000 in
theorem gX3_find_X3_measurePairs : GoodIn wsX3_find (wsV RX3 43 RX3 yX3_measurePairs wsX3_measurePairs) := goodIn_app (goodIn_of _ (by decide +kernel)) ggX3_find_X3_measurePairs
set_option maxRecDepth 20000 in
theorem ggX3_find_X3_tieOfLeastPairs : GoodIn wsX3_find wsX3_tieOfLeastPairs := goodIn_r _ [59, 60, 61, 62, 63, 64, 65, 66, 67, 68, 69, 70, 19, 71, 72, 73, 74, 75, 76, 77, 78, 54, 32, 55, 79, 80, 81, 82, 22, 28, 83, 84, 85, 98, 99, 100, 101, 102, 103, 104] (by decide +kernel) (by decide +kernel)
set_option maxRecDepth 20000 in
theorem gX3_find_X3_tieOfLeastPairs : GoodIn wsX3_find (wsV RX3 47 RX3 yX3_tieOfLeastPairs wsX3_tieOfLeastPairs) := goodIn_app (goodIn_of _ (by decide +kernel)) ggX3_find_X3_tieOfLeastPairs
set_option maxRecDepth 20000 in
theorem ggX3_measurePairs_X1_searchFrom : GoodIn wsX3_measurePairs wsX1_searchFrom := goodIn_r _ [13, 14, 15, 16, 17, 12, 18, 19, 20, 21, 22, 23, 24, 25, 26, 27, 28, 29, 30, 31, 32, 33, 34, 35, 36, 37, 38, 39, 40, 41, 49, 50, 51, 52, 53, 54] (by decide +kernel) (by decide +kernel)
set_option maxRecDepth 20000 in
theorem gX3_measurePairs_X1_searchFrom : GoodIn wsX3_measurePairs (wsV RX3 54 RX1 yX1_searchFrom wsX1_searchFrom) := goodIn_app (goodIn_of _ (by decide +kernel)) ggX3_measurePairs_X1_searchFrom
set_option maxRecDepth 20000 in
theorem ggX3_tieOfLeastPairs_J7_fill_53178 : GoodIn wsX3_tieOfLeastPairs wsJ7_fill_53178 := goodIn_r _ [8] (by decide +kernel) (by decide +kernel)
set_option maxRecDepth 20000 in
theorem gX3_tieOfLeastPairs_J7_fill_53178 : GoodIn wsX3_tieOfLeastPairs (va_wsS RX3 68 yJ7_fill_53178 wsJ7_fill_53178) := goodIn_app (goodIn_of _ (by decide +kernel)) ggX3_tieOfLeastPairs_J7_fill_53178
set_option maxRecDepth 20000 in
theorem ggX3_tieOfLeastPairs_X3_offer : GoodIn wsX3_tieOfLeastPairs wsX3_offer := goodIn_r _ [13, 1, 2, 3, 14, 4, 15, 16, 17, 12, 18, 19, 20, 21, 22, 23, 33, 34, 35, 36, 37, 38, 39] (by decide +kernel) (by decide +kernel)
set_option maxRecDepth 20000 in
theorem gX3_tieOfLeastPairs_X3_offer : GoodIn wsX3_tieOfLeastPairs (wsV RX3 74 RX3 yX3_offer wsX3_offer) := goodIn_app (goodIn_of _ (by decide +kernel)) ggX3_tieOfLeastPairs_X3_offer
set_option maxRecDepth 20000 in
theorem ggX3_tieOfLeastPairs_X3_pairLeastVertex : GoodIn wsX3_tieOfLeastPairs wsX3_pairLeastVertex := goodIn_r _ [27, 3, 14, 28, 4, 29, 30, 31, 32, 9, 10, 11, 12, 13, 1, 2, 15, 16, 17, 18, 19, 20, 21, 22, 23, 33, 34, 35, 36, 37, 38, 39] (by decide +kernel) (by decide +kernel)
set_option maxRecDepth 20000 in
theorem gX3_tieOfLeastPairs_X3_pairLeastVertex : GoodIn wsX3_tieOfLeastPairs (wsV RX3 78 RX3 yX3_pairLeastVertex wsX3_pairLeastVertex) := goodIn_app (goodIn_of _ (by decide +kernel)) ggX3_tieOfLeastPairs_X3_pairLeastVertex
set_option maxRecDepth 20000 in
theorem ggX3_pairLeastVertex_X5_leastOf : GoodIn wsX3_pairLeastVertex wsX5_leastOf := goodIn_r _ [8] (by decide +kernel) (by decide +kernel)
set_option maxRecDepth 20000 in
theorem gX3_pairLeastVertex_X5_leastOf_n82 : GoodIn wsX3_pairLeastVertex (wsX5_leastOf) := ggX3_pairLeastVertex_X5_leastOf
set_option maxRecDepth 20000 in
theorem ggX3_pairLeastVertex_X3_offer : GoodIn wsX3_pairLeastVertex wsX3_offer := goodIn_r _ [13, 14, 15, 1, 2, 4, 16, 17, 18, 12, 19, 20, 21, 22, 23, 24, 25, 26, 27, 28, 29, 30, 31] (by decide +kernel) (by decide +kernel)
set_option maxRecDepth 20000 in
theorem gX3_pairLeastVertex_X3_offer : GoodIn wsX3_pairLeastVertex (wsV RX3 74 RX3 yX3_offer wsX3_offer) := goodIn_app (goodIn_of _ (by decide +kernel)) ggX3_pairLeastVertex_X3_offer
set_option maxRecDepth 20000 in
theorem ggX3_offer_X3_slotOf : GoodIn wsX3_offer wsX3_slotOf := goodIn_r _ [10, 11, 1, 3, 16, 17, 18, 19, 20, 21, 22] (by decide +kernel) (by decide +kernel)
set_option maxRecDepth 20000 in
theorem gX3_offer_X3_slotOf : GoodIn wsX3_offer (wsV RX3 86 RX3 yX3_slotOf wsX3_slotOf) := goodIn_app (goodIn_of _ (by decide +kernel)) ggX3_offer_X3_slotOf
set_option maxRecDepth 20000 in
theorem ggX3_offer_X1_isLess : GoodIn wsX3_offer wsX1_isLess := goodIn_r _ [15] (by decide +kernel) (by decide +kernel)
set_option maxRecDepth 20000 in
theorem gX3_offer_X1_isLess : GoodIn wsX3_offer (va_wsS RX3 89 yX1_isLess wsX1_isLess) := goodIn_app (goodIn_of _ (by decide +kernel)) ggX3_offer_X1_isLess
set_option maxRecDepth 20000 in
theorem ggX4_append_X4_isFull : GoodIn wsX4_append wsX4_isFull := goodIn_r _ [7, 2, 1, 8, 9] (by decide +kernel) (by decide +kernel)
set_option maxRecDepth 20000 in
theorem gX4_append_X4_isFull : GoodIn wsX4_append (wsV RX4 17 RX4 yX4_isFull wsX4_isFull) := goodIn_app (goodIn_of _ (by decide +kernel)) ggX4_append_X4_isFull
set_option maxRecDepth 20000 in
theorem ggX5_init_X2_init : GoodIn wsX5_init wsX2_init := goodIn_r _ [31, 32, 2, 3, 13, 33, 34, 35, 36, 37, 38, 74, 75, 76, 77, 78, 79] (by decide +kernel) (by decide +kernel)
set_option maxRecDepth 20000 in
theorem gX5_init_X2_init : GoodIn wsX5_init (wsX2_init) := ggX5_init_X2_init
set_option maxRecDepth 20000 in
theorem ggX5_init_X4_init : GoodIn wsX5_init wsX4_init := goodIn_r _ [41, 42, 2, 3, 13, 43, 44, 89, 90] (by decide +kernel) (by decide +kernel)
set_option maxRecDepth 20000 in
theorem gX5_init_X4_init : GoodIn wsX5_init (wsX4_init) := ggX5_init_X4_init
set_option maxRecDepth 20000 in
theorem ggX5_init_X1_init : GoodIn wsX5_init wsX1_init := goodIn_r _ [47, 48, 2, 3, 49, 50, 51, 52, 53, 13, 54, 55, 56, 91, 92, 93, 94, 95, 96] (by decide +kernel) (by decide +kernel)
set_option maxRecDepth 20000 in
theorem gX5_init_X1_init : GoodIn wsX5_init (wsX1_init) := ggX5_init_X1_init
end
section
set_option maxRecDepth 20000 in
theorem ggX5_init_X3_init : GoodIn wsX5_init wsX3_init := goodIn_r _ [59, 60, 2, 3, 61, 51, 62, 63, 13, 64, 65, 66, 67, 68, 97, 98, 99, 100, 101, 102, 103] (by decide +kernel) (by decide +kernel)
set_option maxRecDepth 20000 in
theorem gX5_init_X3_init : GoodIn wsX5_init (wsX3_init) := ggX5_init_X3_init
set_option maxRecDepth 20000 in
theorem ggX5_init_X0_init : GoodIn wsX5_init wsX0_init := goodIn_r _ [71, 72, 2, 3, 13, 73, 104] (by decide +kernel) (by decide +kernel)
set_option maxRecDepth 20000 in
theorem gX5_init_X0_init : GoodIn wsX5_init (wsX0_init) := ggX5_init_X0_init
set_option maxRecDepth 20000 in
theorem ggX5_forgetAnswers_X4_clear : GoodIn wsX5_forgetAnswers wsX4_clear := goodIn_r _ [7, 8, 18, 19] (by decide +kernel) (by decide +kernel)
set_option maxRecDepth 20000 in
theorem gX5_forgetAnswers_X4_clear : GoodIn wsX5_forgetAnswers (wsV RX5 163 RX4 yX4_clear wsX4_clear) := goodIn_app (goodIn_of _ (by decide +kernel)) ggX5_forgetAnswers_X4_clear
set_option maxRecDepth 20000 in
theorem ggX5_findExtras_X0_find : GoodIn wsX5_findExtras wsX0_find := goodIn_r _ [12, 13, 14, 15, 16, 17, 18, 19, 20, 21, 22, 23, 24, 25, 26, 27, 28, 29, 11, 30, 31, 32, 33, 34, 35, 36, 37, 38, 39, 40, 41, 42, 43, 44, 45, 46, 47, 48, 49, 50, 51, 52, 53, 54, 55, 56, 57, 58, 59, 127, 128, 129, 130, 131, 132, 133, 134, 135, 136, 137, 138, 139] (by decide +kernel) (by decide +kernel)
set_option maxRecDepth 20000 in
theorem gX5_findExtras_X0_find : GoodIn wsX5_findExtras (wsV RX5 192 RX0 yX0_find wsX0_find) := goodIn_app (goodIn_of _ (by decide +kernel)) ggX5_findExtras_X0_find
set_option maxRecDepth 20000 in
theorem ggX5_findExtras_X3_find : GoodIn wsX5_findExtras wsX3_find := goodIn_r _ [64, 65, 66, 67, 68, 22, 69, 70, 71, 72, 20, 21, 23, 24, 25, 26, 73, 74, 75, 63, 76, 77, 78, 79, 80, 81, 82, 83, 84, 85, 86, 87, 34, 88, 89, 90, 32, 33, 35, 36, 37, 38, 39, 40, 41, 42, 43, 44, 45, 46, 47, 48, 49, 50, 51, 52, 91, 92, 93, 94, 95, 96, 97, 98, 99, 16, 17, 18, 100, 101, 102, 103, 104, 105, 106, 107, 108, 109, 110, 111, 112, 113, 114, 115, 116, 117, 127, 128, 129, 130, 131, 132, 134, 135, 136, 137, 138, 139, 140, 141, 142, 143, 144, 145, 146] (by decide +kernel) (by decide +kernel)
set_option maxRecDepth 20000 in
theorem gX5_findExtras_X3_find : GoodIn wsX5_findExtras (wsV RX5 196 RX3 yX3_find wsX3_find) := goodIn_app (goodIn_of _ (by decide +kernel)) ggX5_findExtras_X3_find
set_option maxRecDepth 20000 in
theorem ggX5_writeLeastRow_X4_clear : GoodIn wsX5_writeLeastRow wsX4_clear := goodIn_r _ [8, 9, 63, 64] (by decide +kernel) (by decide +kernel)
set_option maxRecDepth 20000 in
theorem gX5_writeLeastRow_X4_clear : GoodIn wsX5_writeLeastRow (wsV RX5 163 RX4 yX4_clear wsX4_clear) := goodIn_app (goodIn_of _ (by decide +kernel)) ggX5_writeLeastRow_X4_clear
set_option maxRecDepth 20000 in
theorem ggX5_writeLeastRow_X5_leastStepFrom : GoodIn wsX5_writeLeastRow wsX5_leastStepFrom := goodIn_r _ [14, 3, 15, 2, 16, 17, 18, 19, 20, 21, 22, 23, 24, 25, 26, 27, 13, 28, 29, 30, 31, 32, 33, 34, 35, 36, 37, 38, 39, 40, 41, 42, 43, 44, 54, 55, 56, 57, 58, 59, 60, 61, 62, 65, 66, 67, 68, 69, 70] (by decide +kernel) (by decide +kernel)
set_option maxRecDepth 20000 in
theorem gX5_writeLeastRow_X5_leastStepFrom : GoodIn wsX5_writeLeastRow (wsV RX5 197 RX5 yX5_leastStepFrom wsX5_leastStepFrom) := goodIn_app (goodIn_of _ (by decide +kernel)) ggX5_writeLeastRow_X5_leastStepFrom
set_option maxRecDepth 20000 in
theorem ggX5_writeLeastRow_X4_append : GoodIn wsX5_writeLeastRow wsX4_append := goodIn_r _ [48, 49, 9, 50, 51, 52, 7, 53, 63, 64] (by decide +kernel) (by decide +kernel)
set_option maxRecDepth 20000 in
theorem gX5_writeLeastRow_X4_append : GoodIn wsX5_writeLeastRow (wsV RX5 156 RX4 yX4_append wsX4_append) := goodIn_app (goodIn_of _ (by decide +kernel)) ggX5_writeLeastRow_X4_append
set_option maxRecDepth 20000 in
theorem ggX5_writeLeastRow_X2_endOf : GoodIn wsX5_writeLeastRow wsX2_endOf := goodIn_r _ [32, 24, 22, 65, 66, 67, 68, 69, 70] (by decide +kernel) (by decide +kernel)
set_option maxRecDepth 20000 in
theorem gX5_writeLeastRow_X2_endOf : GoodIn wsX5_writeLeastRow (wsV RX5 200 RX2 yX2_endOf wsX2_endOf) := goodIn_app (goodIn_of _ (by decide +kernel)) ggX5_writeLeastRow_X2_endOf
set_option maxRecDepth 20000 in
theorem ggX5_leastStepFrom_X2_isStepFrom : GoodIn wsX5_leastStepFrom wsX2_isStepFrom := goodIn_r _ [8, 9, 10, 11, 12, 43, 44, 45, 46, 47, 48] (by decide +kernel) (by decide +kernel)
set_option maxRecDepth 20000 in
theorem gX5_leastStepFrom_X2_isStepFrom : GoodIn wsX5_leastStepFrom (wsV RX5 203 RX2 yX2_isStepFrom wsX2_isStepFrom) := goodIn_app (goodIn_of _ (by decide +kernel)) ggX5_leastStepFrom_X2_isStepFrom
set_option maxRecDepth 20000 in
theorem ggX5_leastStepFrom_X5_leavesWhole : GoodIn wsX5_leastStepFrom wsX5_leavesWhole := goodIn_r _ [17, 3, 1, 18, 19, 20, 7, 21, 12, 10, 22, 23, 24, 25, 26, 27, 28, 29, 9, 30, 31, 32, 33, 34, 35, 36, 37, 38, 39, 40, 41, 42, 43, 44, 45, 46, 47, 48] (by decide +kernel) (by decide +kernel)
set_option maxRecDepth 20000 in
theorem gX5_leastStepFrom_X5_leavesWhole : GoodIn wsX5_leastStepFrom (wsV RX5 207 RX5 yX5_leavesWhole wsX5_leavesWhole) := goodIn_app (goodIn_of _ (by decide +kernel)) ggX5_leastStepFrom_X5_leavesWhole
set_option maxRecDepth 20000 in
theorem ggX5_leavesWhole_X2_endOf : GoodIn wsX5_leavesWhole wsX2_endOf := goodIn_r _ [7, 8, 9, 32, 33, 34, 35, 36, 37] (by decide +kernel) (by decide +kernel)
set_option maxRecDepth 20000 in
theorem gX5_leavesWhole_X2_endOf : GoodIn wsX5_leavesWhole (wsV RX5 200 RX2 yX2_endOf wsX2_endOf) := goodIn_app (goodIn_of _ (by decide +kernel)) ggX5_leavesWhole_X2_endOf
set_option maxRecDepth 20000 in
theorem ggX5_leavesWhole_X2_hangsTogetherAt : GoodIn wsX5_leavesWhole wsX2_hangsTogetherAt := goodIn_r _ [13, 14, 15, 16, 6, 17, 18, 9, 8, 19, 20, 21, 22, 32, 33, 34, 35, 36, 37] (by decide +kernel) (by decide +kernel)
set_option maxRecDepth 20000 in
theorem gX5_leavesWhole_X2_hangsTogetherAt : GoodIn wsX5_leavesWhole (wsV RX5 119 RX2 yX2_hangsTogetherAt wsX2_hangsTogetherAt) := goodIn_app (goodIn_of _ (by decide +kernel)) ggX5_leavesWhole_X2_hangsTogetherAt
set_option maxRecDepth 20000 in
theorem ggX5_verdictOnPath_J7_fill_53178 : GoodIn wsX5_verdictOnPath wsJ7_fill_53178 := goodIn_r _ [14] (by decide +kernel) (by decide +kernel)
set_option maxRecDepth 20000 in
theorem gX5_verdictOnPath_J7_fill_53178 : GoodIn wsX5_verdictOnPath (va_wsS RX5 211 yJ7_fill_53178 wsJ7_fill_53178) := goodIn_app (goodIn_of _ (by decide +kernel)) ggX5_verdictOnPath_J7_fill_53178
set_option maxRecDepth 20000 in
theorem ggX5_verdictOnPath_X2_isStepFrom : GoodIn wsX5_verdictOnPath wsX2_isStepFrom := goodIn_r _ [19, 20, 21, 22, 23, 39, 40, 41, 42, 43, 44] (by decide +kernel) (by decide +kernel)
set_option maxRecDepth 20000 in
theorem gX5_verdictOnPath_X2_isStepFrom : GoodIn wsX5_verdictOnPath (wsV RX5 203 RX2 yX2_isStepFrom wsX2_isStepFrom) := goodIn_app (goodIn_of _ (by decide +kernel)) ggX5_verdictOnPath_X2_isStepFrom
set_option maxRecDepth 20000 in
theorem ggX5_verdictOnPath_X2_endOf : GoodIn wsX5_verdictOnPath wsX2_endOf := goodIn_r _ [27, 23, 21, 39, 40, 41, 42, 43, 44] (by decide +kernel) (by decide +kernel)
set_option maxRecDepth 20000 in
theorem gX5_verdictOnPath_X2_endOf : GoodIn wsX5_verdictOnPath (wsV RX5 200 RX2 yX2_endOf wsX2_endOf) := goodIn_app (goodIn_of _ (by decide +kernel)) ggX5_verdictOnPath_X2_endOf
set_option maxRecDepth 20000 in
theorem ggX6_reset_X6_throwing : GoodIn wsX6_reset wsX6_throwing := goodIn_r _ [8, 9, 16, 17, 18, 19, 20, 21, 22, 23, 24, 25, 26, 27, 28, 29, 30, 31, 32, 33, 34, 35, 36, 37, 38, 39, 40, 41] (by decide +kernel) (by decide +kernel)
set_option maxRecDepth 20000 in
theorem gX6_reset_X6_throwing : GoodIn wsX6_reset (wsV RX6 81 RX6 yX6_throwing wsX6_throwing) := goodIn_app (goodIn_of _ (by decide +kernel)) ggX6_reset_X6_throwing
set_option maxRecDepth 20000 in
theorem ggX6_reset_X6_change : GoodIn wsX6_reset wsX6_change := goodIn_r _ [13, 14, 15, 16, 17, 18, 19, 20, 21, 22, 23, 24, 25, 26, 27, 28, 29, 30, 31, 32, 33, 34, 35, 36, 37, 38, 39, 40, 41] (by decide +kernel) (by decide +kernel)
set_option maxRecDepth 20000 in
theorem gX6_reset_X6_change : GoodIn wsX6_reset (wsV RX6 91 RX6 yX6_change wsX6_change) := goodIn_app (goodIn_of _ (by decide +kernel)) ggX6_reset_X6_change
set_option maxRecDepth 20000 in
theorem ggX6_edge_X6_isVertex : GoodIn wsX6_edge wsX6_isVertex := goodIn_r _ [10, 11, 23, 24, 25, 26, 27, 28, 29, 30, 31, 32, 33, 34, 35, 36, 37, 38, 39, 40, 41, 42, 43, 44, 45, 46, 47, 48] (by decide +kernel) (by decide +kernel)
set_option maxRecDepth 20000 in
theorem gX6_edge_X6_isVertex : GoodIn wsX6_edge (wsV RX6 94 RX6 yX6_isVertex wsX6_isVertex) := goodIn_app (goodIn_of _ (by decide +kernel)) ggX6_edge_X6_isVertex
set_option maxRecDepth 20000 in
theorem ggX6_edge_X6_throwing : GoodIn wsX6_edge wsX6_throwing := goodIn_r _ [15, 16, 23, 24, 25, 26, 27, 28, 29, 30, 31, 32, 33, 34, 35, 36, 37, 38, 39, 40, 41, 42, 43, 44, 45, 46, 47, 48] (by decide +kernel) (by decide +kernel)
set_option maxRecDepth 20000 in
theorem gX6_edge_X6_throwing : GoodIn wsX6_edge (wsV RX6 81 RX6 yX6_throwing wsX6_throwing) := goodIn_app (goodIn_of _ (by decide +kernel)) ggX6_edge_X6_throwing
set_option maxRecDepth 20000 in
theorem ggX6_edge_X6_change : GoodIn wsX6_edge wsX6_change := goodIn_r _ [20, 21, 22, 23, 24, 25, 26, 27, 28, 29, 30, 31, 32, 33, 34, 35, 36, 37, 38, 39, 40, 41, 42, 43, 44, 45, 46, 47, 48] (by decide +kernel) (by decide +kernel)
set_option maxRecDepth 20000 in
theorem gX6_edge_X6_change : GoodIn wsX6_edge (wsV RX6 91 RX6 yX6_change wsX6_change) := goodIn_app (goodIn_of _ (by decide +kernel)) ggX6_edge_X6_change
set_option maxRecDepth 20000 in
theorem ggX6_drop_X6_throwing : GoodIn wsX6_drop wsX6_throwing := goodIn_r _ [6, 7, 14, 15, 16, 17, 18, 19, 20, 21, 22, 23, 24, 25, 26, 27, 28, 29, 30, 31, 32, 33, 34, 35, 36, 37, 38, 39] (by decide +kernel) (by decide +kernel)
set_option maxRecDepth 20000 in
theorem gX6_drop_X6_throwing : GoodIn wsX6_drop (wsV RX6 81 RX6 yX6_throwing wsX6_throwing) := goodIn_app (goodIn_of _ (by decide +kernel)) ggX6_drop_X6_throwing
set_option maxRecDepth 20000 in
theorem ggX6_drop_X6_change : GoodIn wsX6_drop wsX6_change := goodIn_r _ [11, 12, 13, 14, 15, 16, 17, 18, 19, 20, 21, 22, 23, 24, 25, 26, 27, 28, 29, 30, 31, 32, 33, 34, 35, 36, 37, 38, 39] (by decide +kernel) (by decide +kernel)
set_option maxRecDepth 20000 in
theorem gX6_drop_X6_change : GoodIn wsX6_drop (wsV RX6 91 RX6 yX6_change wsX6_change) := goodIn_app (goodIn_of _ (by decide +kernel)) ggX6_drop_X6_change
set_option maxRecDepth 20000 in
theorem ggX6_way_X6_isLess : GoodIn wsX6_way wsX6_isLess := goodIn_r _ [7, 1, 2, 8, 9, 10, 11, 12, 13, 14, 15, 16, 17, 18, 19, 20, 21, 22, 23, 24, 25, 26, 27, 28, 29, 30, 31, 32, 33] (by decide +kernel) (by decide +kernel)
set_option maxRecDepth 20000 in
theorem gX6_way_X6_isLess : GoodIn wsX6_way (wsV RX6 99 RX6 yX6_isLess wsX6_isLess) := goodIn_app (goodIn_of _ (by decide +kernel)) ggX6_way_X6_isLess
set_option maxRecDepth 20000 in
theorem ggX6_measure_X6_way : GoodIn wsX6_measure wsX6_way := goodIn_r _ [14, 1, 3, 15, 16, 17, 13, 18, 19, 20, 21, 22, 23, 24, 25, 26, 27, 28, 29, 30, 31, 32, 33, 34, 35, 36, 37, 38, 39, 40, 41, 42, 43, 44] (by decide +kernel) (by decide +kernel)
set_option maxRecDepth 20000 in
theorem gX6_measure_X6_way : GoodIn wsX6_measure (wsV RX6 105 RX6 yX6_way wsX6_way) := goodIn_app (goodIn_of _ (by decide +kernel)) ggX6_measure_X6_way
set_option maxRecDepth 20000 in
theorem ggX6_distance_X6_isVertex : GoodIn wsX6_distance wsX6_isVertex := goodIn_r _ [8, 9, 33, 34, 35, 36, 37, 38, 39, 40, 41, 42, 43, 44, 45, 46, 47, 48, 49, 50, 51, 52, 53, 54, 55, 56, 57, 58] (by decide +kernel) (by decide +kernel)
set_option maxRecDepth 20000 in
theorem gX6_distance_X6_isVertex : GoodIn wsX6_distance (wsV RX6 94 RX6 yX6_isVertex wsX6_isVertex) := goodIn_app (goodIn_of _ (by decide +kernel)) ggX6_distance_X6_isVertex
set_option maxRecDepth 20000 in
theorem ggX6_distance_X6_throwing : GoodIn wsX6_distance wsX6_throwing := goodIn_r _ [13, 14, 33, 34, 35, 36, 37, 38, 39, 40, 41, 42, 43, 44, 45, 46, 47, 48, 49, 50, 51, 52, 53, 54, 55, 56, 57, 58] (by decide +kernel) (by decide +kernel)
set_option maxRecDepth 20000 in
theorem gX6_distance_X6_throwing : GoodIn wsX6_distance (wsV RX6 81 RX6 yX6_throwing wsX6_throwing) := goodIn_app (goodIn_of _ (by decide +kernel)) ggX6_distance_X6_throwing
set_option maxRecDepth 20000 in
theorem ggX6_distance_X6_measure : GoodIn wsX6_distance wsX6_measure := goodIn_r _ [18, 1, 2, 19, 20, 21, 22, 23, 24, 9, 25, 26, 27, 7, 28, 29, 30, 31, 32, 33, 34, 35, 36, 37, 38, 39, 40, 41, 42, 43, 44, 45, 46, 47, 48, 49, 50, 51, 52, 53, 54, 55, 56, 57, 58] (by decide +kernel) (by decide +kernel)
set_option maxRecDepth 20000 in
theorem gX6_distance_X6_measure : GoodIn wsX6_distance (wsV RX6 109 RX6 yX6_measure wsX6_measure) := goodIn_app (goodIn_of _ (by decide +kernel)) ggX6_distance_X6_measure
set_option maxRecDepth 20000 in
theorem ggX6_hang_X6_groups : GoodIn wsX6_hang wsX6_groups := goodIn_r _ [9, 3, 1, 4, 10, 2, 11, 12, 13, 14, 15, 16, 17, 18, 19, 20, 21, 22, 23, 24, 25, 26, 27, 28, 29, 30, 31, 32, 33, 34, 35, 36] (by decide +kernel) (by decide +kernel)
set_option maxRecDepth 20000 in
theorem gX6_hang_X6_groups : GoodIn wsX6_hang (wsV RX6 114 RX6 yX6_groups wsX6_groups) := goodIn_app (goodIn_of _ (by decide +kernel)) ggX6_hang_X6_groups
set_option maxRecDepth 20000 in
theorem ggX6_isOdd_X6_balance : GoodIn wsX6_isOdd wsX6_balance := goodIn_r _ [6, 7, 8, 9, 1, 10, 11, 12, 13, 14, 15, 16, 17, 18, 19, 20, 21, 22, 23, 24, 25, 26, 27, 28, 29, 30, 31, 32, 33, 34, 35] (by decide +kernel) (by decide +kernel)
set_option maxRecDepth 20000 in
theorem gX6_isOdd_X6_balance : GoodIn wsX6_isOdd (wsV RX6 117 RX6 yX6_balance wsX6_balance) := goodIn_app (goodIn_of _ (by decide +kernel)) ggX6_isOdd_X6_balance
end
section
set_option maxRecDepth 20000 in
theorem ggX6_countOdd_X6_isOdd : GoodIn wsX6_countOdd wsX6_isOdd := goodIn_r _ [6, 7, 8, 9, 10, 5, 11, 12, 13, 14, 15, 16, 17, 18, 19, 20, 21, 22, 23, 24, 25, 26, 27, 28, 29, 30, 31, 32, 33, 34, 35, 36, 37, 38, 39, 40] (by decide +kernel) (by decide +kernel)
set_option maxRecDepth 20000 in
theorem gX6_countOdd_X6_isOdd : GoodIn wsX6_countOdd (wsV RX6 121 RX6 yX6_isOdd wsX6_isOdd) := goodIn_app (goodIn_of _ (by decide +kernel)) ggX6_countOdd_X6_isOdd
set_option maxRecDepth 20000 in
theorem ggX6_walk_X6_goes : GoodIn wsX6_walk wsX6_goes := goodIn_r _ [9, 2, 10, 11, 12, 22, 23, 24, 25, 26, 27, 28, 29, 30, 31, 32, 33, 34, 35, 36, 37, 38, 39, 40, 41, 42, 43, 44, 45, 46, 47] (by decide +kernel) (by decide +kernel)
set_option maxRecDepth 20000 in
theorem gX6_walk_X6_goes : GoodIn wsX6_walk (wsV RX6 124 RX6 yX6_goes wsX6_goes) := goodIn_app (goodIn_of _ (by decide +kernel)) ggX6_walk_X6_goes
set_option maxRecDepth 20000 in
theorem ggX6_walk_X6_hang : GoodIn wsX6_walk wsX6_hang := goodIn_r _ [16, 2, 3, 17, 10, 18, 19, 20, 8, 21, 11, 22, 23, 24, 25, 26, 27, 28, 29, 30, 31, 32, 33, 34, 35, 36, 37, 38, 39, 40, 41, 42, 43, 44, 45, 46, 47] (by decide +kernel) (by decide +kernel)
set_option maxRecDepth 20000 in
theorem gX6_walk_X6_hang : GoodIn wsX6_walk (wsV RX6 128 RX6 yX6_hang wsX6_hang) := goodIn_app (goodIn_of _ (by decide +kernel)) ggX6_walk_X6_hang
set_option maxRecDepth 20000 in
theorem ggX6_tour_X6_isVertex : GoodIn wsX6_tour wsX6_isVertex := goodIn_r _ [6, 7, 52, 53, 54, 55, 56, 57, 58, 59, 60, 61, 62, 63, 64, 65, 66, 67, 68, 69, 70, 71, 72, 73, 74, 75, 76, 77] (by decide +kernel) (by decide +kernel)
set_option maxRecDepth 20000 in
theorem gX6_tour_X6_isVertex : GoodIn wsX6_tour (wsV RX6 94 RX6 yX6_isVertex wsX6_isVertex) := goodIn_app (goodIn_of _ (by decide +kernel)) ggX6_tour_X6_isVertex
set_option maxRecDepth 20000 in
theorem ggX6_tour_X6_throwing : GoodIn wsX6_tour wsX6_throwing := goodIn_r _ [11, 12, 52, 53, 54, 55, 56, 57, 58, 59, 60, 61, 62, 63, 64, 65, 66, 67, 68, 69, 70, 71, 72, 73, 74, 75, 76, 77] (by decide +kernel) (by decide +kernel)
set_option maxRecDepth 20000 in
theorem gX6_tour_X6_throwing : GoodIn wsX6_tour (wsV RX6 81 RX6 yX6_throwing wsX6_throwing) := goodIn_app (goodIn_of _ (by decide +kernel)) ggX6_tour_X6_throwing
set_option maxRecDepth 20000 in
theorem ggX6_tour_X6_countOdd : GoodIn wsX6_tour wsX6_countOdd := goodIn_r _ [16, 7, 17, 18, 19, 5, 20, 21, 22, 23, 24, 25, 26, 27, 28, 52, 53, 54, 55, 56, 57, 58, 59, 60, 61, 62, 63, 64, 65, 66, 67, 68, 69, 70, 71, 72, 73, 74, 75, 76, 77] (by decide +kernel) (by decide +kernel)
set_option maxRecDepth 20000 in
theorem gX6_tour_X6_countOdd : GoodIn wsX6_tour (wsV RX6 131 RX6 yX6_countOdd wsX6_countOdd) := goodIn_app (goodIn_of _ (by decide +kernel)) ggX6_tour_X6_countOdd
set_option maxRecDepth 20000 in
theorem ggX6_tour_X6_leaveOne : GoodIn wsX6_tour wsX6_leaveOne := goodIn_r _ [32, 26, 33, 52, 53, 54, 55, 56, 57, 58, 59, 60, 61, 62, 63, 64, 65, 66, 67, 68, 69, 70, 71, 72, 73, 74, 75, 76, 77] (by decide +kernel) (by decide +kernel)
set_option maxRecDepth 20000 in
theorem gX6_tour_X6_leaveOne : GoodIn wsX6_tour (wsV RX6 135 RX6 yX6_leaveOne wsX6_leaveOne) := goodIn_app (goodIn_of _ (by decide +kernel)) ggX6_tour_X6_leaveOne
set_option maxRecDepth 20000 in
theorem ggX6_tour_X6_hang : GoodIn wsX6_tour wsX6_hang := goodIn_r _ [37, 26, 33, 38, 28, 39, 40, 41, 5, 42, 27, 52, 53, 54, 55, 56, 57, 58, 59, 60, 61, 62, 63, 64, 65, 66, 67, 68, 69, 70, 71, 72, 73, 74, 75, 76, 77] (by decide +kernel) (by decide +kernel)
set_option maxRecDepth 20000 in
theorem gX6_tour_X6_hang : GoodIn wsX6_tour (wsV RX6 128 RX6 yX6_hang wsX6_hang) := goodIn_app (goodIn_of _ (by decide +kernel)) ggX6_tour_X6_hang
set_option maxRecDepth 20000 in
theorem ggX6_tour_X6_walk : GoodIn wsX6_tour wsX6_walk := goodIn_r _ [46, 1, 26, 33, 47, 48, 49, 50, 5, 51, 28, 27, 21, 34, 35, 36, 37, 38, 39, 40, 41, 42, 52, 53, 54, 55, 56, 57, 58, 59, 60, 61, 62, 63, 64, 65, 66, 67, 68, 69, 70, 71, 72, 73, 74, 75, 76, 77] (by decide +kernel) (by decide +kernel)
set_option maxRecDepth 20000 in
theorem gX6_tour_X6_walk : GoodIn wsX6_tour (wsV RX6 138 RX6 yX6_walk wsX6_walk) := goodIn_app (goodIn_of _ (by decide +kernel)) ggX6_tour_X6_walk
set_option maxRecDepth 20000 in
theorem ggX6_pair_X6_isOdd : GoodIn wsX6_pair wsX6_isOdd := goodIn_r _ [12, 13, 14, 15, 16, 11, 17, 6, 18, 19, 27, 28, 29, 30, 31, 32, 33, 34, 35, 36, 37, 38, 39, 40, 41, 42, 43, 44, 45, 46, 47, 48, 49, 50, 51, 52] (by decide +kernel) (by decide +kernel)
set_option maxRecDepth 20000 in
theorem gX6_pair_X6_isOdd : GoodIn wsX6_pair (wsV RX6 121 RX6 yX6_isOdd wsX6_isOdd) := goodIn_app (goodIn_of _ (by decide +kernel)) ggX6_pair_X6_isOdd
set_option maxRecDepth 20000 in
theorem ggX6_pair_X6_pairSet : GoodIn wsX6_pair wsX6_pairSet := goodIn_r _ [23, 4, 24, 5, 1, 3, 25, 26, 27, 28, 29, 30, 31, 32, 33, 34, 35, 36, 37, 38, 39, 40, 41, 42, 43, 44, 45, 46, 47, 48, 49, 50, 51, 52] (by decide +kernel) (by decide +kernel)
set_option maxRecDepth 20000 in
theorem gX6_pair_X6_pairSet : GoodIn wsX6_pair (wsV RX6 145 RX6 yX6_pairSet wsX6_pairSet) := goodIn_app (goodIn_of _ (by decide +kernel)) ggX6_pair_X6_pairSet
set_option maxRecDepth 20000 in
theorem ggX6_reach_X6_addEdge : GoodIn wsX6_reach wsX6_addEdge := goodIn_r _ [9, 4, 3, 10, 15, 16, 17, 18, 19, 20, 21, 22, 23, 24, 25, 26, 27, 28, 29, 30, 31, 32, 33, 34, 35, 36, 37, 38, 39, 40] (by decide +kernel) (by decide +kernel)
set_option maxRecDepth 20000 in
theorem gX6_reach_X6_addEdge : GoodIn wsX6_reach (wsV RX6 148 RX6 yX6_addEdge wsX6_addEdge) := goodIn_app (goodIn_of _ (by decide +kernel)) ggX6_reach_X6_addEdge
set_option maxRecDepth 20000 in
theorem ggX6_reach_X6_isSumLess : GoodIn wsX6_reach wsX6_isSumLess := goodIn_r _ [14, 1, 4, 3, 15, 16, 17, 18, 19, 20, 21, 22, 23, 24, 25, 26, 27, 28, 29, 30, 31, 32, 33, 34, 35, 36, 37, 38, 39, 40] (by decide +kernel) (by decide +kernel)
set_option maxRecDepth 20000 in
theorem gX6_reach_X6_isSumLess : GoodIn wsX6_reach (wsV RX6 152 RX6 yX6_isSumLess wsX6_isSumLess) := goodIn_app (goodIn_of _ (by decide +kernel)) ggX6_reach_X6_isSumLess
set_option maxRecDepth 20000 in
theorem ggX6_spread_X6_reach : GoodIn wsX6_spread wsX6_reach := goodIn_r _ [14, 2, 4, 5, 15, 16, 17, 18, 13, 19, 20, 21, 22, 23, 24, 25, 26, 27, 28, 29, 30, 31, 32, 33, 34, 35, 36, 37, 38, 39, 40, 41, 42, 43, 44, 45, 46, 47, 48, 49, 50] (by decide +kernel) (by decide +kernel)
set_option maxRecDepth 20000 in
theorem gX6_spread_X6_reach : GoodIn wsX6_spread (wsV RX6 155 RX6 yX6_reach wsX6_reach) := goodIn_app (goodIn_of _ (by decide +kernel)) ggX6_spread_X6_reach
set_option maxRecDepth 20000 in
theorem ggX6_nearest_X6_isSumLess : GoodIn wsX6_nearest wsX6_isSumLess := goodIn_r _ [9, 10, 3, 4, 11, 12, 13, 14, 15, 16, 17, 18, 19, 20, 21, 22, 23, 24, 25, 26, 27, 28, 29, 30, 31, 32, 33, 34, 35, 36] (by decide +kernel) (by decide +kernel)
set_option maxRecDepth 20000 in
theorem gX6_nearest_X6_isSumLess : GoodIn wsX6_nearest (wsV RX6 152 RX6 yX6_isSumLess wsX6_isSumLess) := goodIn_app (goodIn_of _ (by decide +kernel)) ggX6_nearest_X6_isSumLess
set_option maxRecDepth 20000 in
theorem ggX6_flow_X6_balance : GoodIn wsX6_flow wsX6_balance := goodIn_r _ [12, 3, 7, 6, 13, 38, 39, 40, 41, 42, 43, 44, 45, 46, 47, 48, 49, 50, 51, 52, 53, 54, 55, 56, 57, 58, 59, 60, 61, 62, 63] (by decide +kernel) (by decide +kernel)
set_option maxRecDepth 20000 in
theorem gX6_flow_X6_balance : GoodIn wsX6_flow (wsV RX6 117 RX6 yX6_balance wsX6_balance) := goodIn_app (goodIn_of _ (by decide +kernel)) ggX6_flow_X6_balance
set_option maxRecDepth 20000 in
theorem ggX6_flow_X6_spread : GoodIn wsX6_flow wsX6_spread := goodIn_r _ [17, 1, 18, 2, 5, 19, 3, 6, 7, 4, 20, 21, 22, 11, 23, 24, 25, 26, 27, 28, 29, 30, 31, 32, 33, 38, 39, 40, 41, 42, 43, 44, 45, 46, 47, 48, 49, 50, 51, 52, 53, 54, 55, 56, 57, 58, 59, 60, 61, 62, 63] (by decide +kernel) (by decide +kernel)
set_option maxRecDepth 20000 in
theorem gX6_flow_X6_spread : GoodIn wsX6_flow (wsV RX6 159 RX6 yX6_spread wsX6_spread) := goodIn_app (goodIn_of _ (by decide +kernel)) ggX6_flow_X6_spread
set_option maxRecDepth 20000 in
theorem ggX6_flow_X6_nearest : GoodIn wsX6_flow wsX6_nearest := goodIn_r _ [37, 1, 2, 24, 19, 30, 31, 32, 11, 33, 18, 38, 39, 40, 41, 42, 43, 44, 45, 46, 47, 48, 49, 50, 51, 52, 53, 54, 55, 56, 57, 58, 59, 60, 61, 62, 63] (by decide +kernel) (by decide +kernel)
set_option maxRecDepth 20000 in
theorem gX6_flow_X6_nearest : GoodIn wsX6_flow (wsV RX6 162 RX6 yX6_nearest wsX6_nearest) := goodIn_app (goodIn_of _ (by decide +kernel)) ggX6_flow_X6_nearest
set_option maxRecDepth 20000 in
theorem ggX6_covers_X6_hasEdge : GoodIn wsX6_covers wsX6_hasEdge := goodIn_r _ [9, 1, 10, 11, 12, 13, 14, 15, 16, 17, 18, 19, 20, 21, 22, 23, 24, 25, 26, 27, 28, 29, 30, 31, 32, 33, 34, 35, 36, 37] (by decide +kernel) (by decide +kernel)
set_option maxRecDepth 20000 in
theorem gX6_covers_X6_hasEdge : GoodIn wsX6_covers (wsV RX6 165 RX6 yX6_hasEdge wsX6_hasEdge) := goodIn_app (goodIn_of _ (by decide +kernel)) ggX6_covers_X6_hasEdge
set_option maxRecDepth 20000 in
theorem ggX6_round_X6_isVertex : GoodIn wsX6_round wsX6_isVertex := goodIn_r _ [12, 13, 112, 113, 114, 115, 116, 117, 118, 119, 120, 121, 122, 123, 124, 125, 126, 127, 128, 129, 130, 131, 132, 133, 134, 135, 136, 137] (by decide +kernel) (by decide +kernel)
set_option maxRecDepth 20000 in
theorem gX6_round_X6_isVertex : GoodIn wsX6_round (wsV RX6 94 RX6 yX6_isVertex wsX6_isVertex) := goodIn_app (goodIn_of _ (by decide +kernel)) ggX6_round_X6_isVertex
set_option maxRecDepth 20000 in
theorem ggX6_round_X6_throwing : GoodIn wsX6_round wsX6_throwing := goodIn_r _ [17, 18, 112, 113, 114, 115, 116, 117, 118, 119, 120, 121, 122, 123, 124, 125, 126, 127, 128, 129, 130, 131, 132, 133, 134, 135, 136, 137] (by decide +kernel) (by decide +kernel)
set_option maxRecDepth 20000 in
theorem gX6_round_X6_throwing : GoodIn wsX6_round (wsV RX6 81 RX6 yX6_throwing wsX6_throwing) := goodIn_app (goodIn_of _ (by decide +kernel)) ggX6_round_X6_throwing
set_option maxRecDepth 20000 in
theorem ggX6_round_X6_measure : GoodIn wsX6_round wsX6_measure := goodIn_r _ [22, 23, 24, 25, 3, 26, 27, 6, 2, 13, 28, 29, 30, 11, 31, 32, 33, 34, 35, 112, 113, 114, 115, 116, 117, 118, 119, 120, 121, 122, 123, 124, 125, 126, 127, 128, 129, 130, 131, 132, 133, 134, 135, 136, 137] (by decide +kernel) (by decide +kernel)
set_option maxRecDepth 20000 in
theorem gX6_round_X6_measure : GoodIn wsX6_round (wsV RX6 109 RX6 yX6_measure wsX6_measure) := goodIn_app (goodIn_of _ (by decide +kernel)) ggX6_round_X6_measure
set_option maxRecDepth 20000 in
theorem ggX6_round_X6_covers : GoodIn wsX6_round wsX6_covers := goodIn_r _ [39, 3, 13, 23, 24, 40, 41, 42, 11, 43, 26, 27, 112, 113, 114, 115, 116, 117, 118, 119, 120, 121, 122, 123, 124, 125, 126, 127, 128, 129, 130, 131, 132, 133, 134, 135, 136, 137] (by decide +kernel) (by decide +kernel)
set_option maxRecDepth 20000 in
theorem gX6_round_X6_covers : GoodIn wsX6_round (wsV RX6 168 RX6 yX6_covers wsX6_covers) := goodIn_app (goodIn_of _ (by decide +kernel)) ggX6_round_X6_covers
set_option maxRecDepth 20000 in
theorem ggX6_round_X6_flow : GoodIn wsX6_round wsX6_flow := goodIn_r _ [47, 13, 48, 3, 5, 49, 26, 27, 50, 51, 52, 11, 53, 2, 54, 55, 56, 57, 58, 59, 60, 61, 62, 63, 64, 65, 66, 67, 68, 6, 69, 70, 71, 72, 73, 74, 75, 76, 112, 113, 114, 115, 116, 117, 118, 119, 120, 121, 122, 123, 124, 125, 126, 127, 128, 129, 130, 131, 132, 133, 134, 135, 136, 137] (by decide +kernel) (by decide +kernel)
set_option maxRecDepth 20000 in
theorem gX6_round_X6_flow : GoodIn wsX6_round (wsV RX6 171 RX6 yX6_flow wsX6_flow) := goodIn_app (goodIn_of _ (by decide +kernel)) ggX6_round_X6_flow
set_option maxRecDepth 20000 in
theorem ggX6_round_X6_pair : GoodIn wsX6_round wsX6_pair := goodIn_r _ [80, 81, 13, 82, 83, 84, 3, 5, 85, 86, 87, 11, 88, 2, 50, 51, 52, 53, 27, 26, 89, 90, 91, 92, 24, 23, 25, 112, 113, 114, 115, 116, 117, 118, 119, 120, 121, 122, 123, 124, 125, 126, 127, 128, 129, 130, 131, 132, 133, 134, 135, 136, 137] (by decide +kernel) (by decide +kernel)
set_option maxRecDepth 20000 in
theorem gX6_round_X6_pair : GoodIn wsX6_round (wsV RX6 174 RX6 yX6_pair wsX6_pair) := goodIn_app (goodIn_of _ (by decide +kernel)) ggX6_round_X6_pair
set_option maxRecDepth 20000 in
theorem ggX6_round_X6_walk : GoodIn wsX6_round wsX6_walk := goodIn_r _ [96, 97, 3, 4, 98, 99, 100, 101, 11, 102, 26, 27, 2, 103, 104, 105, 106, 107, 108, 109, 110, 111, 112, 113, 114, 115, 116, 117, 118, 119, 120, 121, 122, 123, 124, 125, 126, 127, 128, 129, 130, 131, 132, 133, 134, 135, 136, 137] (by decide +kernel) (by decide +kernel)
set_option maxRecDepth 20000 in
theorem gX6_round_X6_walk : GoodIn wsX6_round (wsV RX6 138 RX6 yX6_walk wsX6_walk) := goodIn_app (goodIn_of _ (by decide +kernel)) ggX6_round_X6_walk
set_option maxRecDepth 20000 in
theorem ggX6_extra_X6_throwing : GoodIn wsX6_extra wsX6_throwing := goodIn_r _ [8, 9, 10, 11, 12, 13, 14, 15, 16, 17, 18, 19, 20, 21, 22, 23, 24, 25, 26, 27, 28, 29, 30, 31, 32, 33, 34, 35] (by decide +kernel) (by decide +kernel)
set_option maxRecDepth 20000 in
theorem gX6_extra_X6_throwing : GoodIn wsX6_extra (wsV RX6 81 RX6 yX6_throwing wsX6_throwing) := goodIn_app (goodIn_of _ (by decide +kernel)) ggX6_extra_X6_throwing
set_option maxRecDepth 20000 in
theorem ggX6_row_X6_throwing : GoodIn wsX6_row wsX6_throwing := goodIn_r _ [7, 8, 9, 10, 11, 12, 13, 14, 15, 16, 17, 18, 19, 20, 21, 22, 23, 24, 25, 26, 27, 28, 29, 30, 31, 32, 33, 34] (by decide +kernel) (by decide +kernel)
set_option maxRecDepth 20000 in
theorem gX6_row_X6_throwing : GoodIn wsX6_row (wsV RX6 81 RX6 yX6_throwing wsX6_throwing) := goodIn_app (goodIn_of _ (by decide +kernel)) ggX6_row_X6_throwing
set_option maxRecDepth 20000 in
theorem ggX6_step_X6_throwing : GoodIn wsX6_step wsX6_throwing := goodIn_r _ [7, 8, 9, 10, 11, 12, 13, 14, 15, 16, 17, 18, 19, 20, 21, 22, 23, 24, 25, 26, 27, 28, 29, 30, 31, 32, 33, 34] (by decide +kernel) (by decide +kernel)
set_option maxRecDepth 20000 in
theorem gX6_step_X6_throwing : GoodIn wsX6_step (wsV RX6 81 RX6 yX6_throwing wsX6_throwing) := goodIn_app (goodIn_of _ (by decide +kernel)) ggX6_step_X6_throwing
set_option maxRecDepth 20000 in
theorem ggX6_judge_X6_isVertex : GoodIn wsX6_judge wsX6_isVertex := goodIn_r _ [13, 14, 27, 28, 29, 30, 31, 32, 33, 34, 35, 36, 37, 38, 39, 40, 41, 42, 43, 44, 45, 46, 47, 48, 49, 50, 51, 52] (by decide +kernel) (by decide +kernel)
set_option maxRecDepth 20000 in
theorem gX6_judge_X6_isVertex : GoodIn wsX6_judge (wsV RX6 94 RX6 yX6_isVertex wsX6_isVertex) := goodIn_app (goodIn_of _ (by decide +kernel)) ggX6_judge_X6_isVertex
end
section
set_option maxRecDepth 20000 in
theorem ggX6_judge_X6_throwing : GoodIn wsX6_judge wsX6_throwing := goodIn_r _ [18, 19, 27, 28, 29, 30, 31, 32, 33, 34, 35, 36, 37, 38, 39, 40, 41, 42, 43, 44, 45, 46, 47, 48, 49, 50, 51, 52] (by decide +kernel) (by decide +kernel)
set_option maxRecDepth 20000 in
theorem gX6_judge_X6_throwing : GoodIn wsX6_judge (wsV RX6 81 RX6 yX6_throwing wsX6_throwing) := goodIn_app (goodIn_of _ (by decide +kernel)) ggX6_judge_X6_throwing
set_option maxRecDepth 20000 in
theorem ggX6_judge_X6_goes : GoodIn wsX6_judge wsX6_goes := goodIn_r _ [23, 2, 24, 25, 26, 27, 28, 29, 30, 31, 32, 33, 34, 35, 36, 37, 38, 39, 40, 41, 42, 43, 44, 45, 46, 47, 48, 49, 50, 51, 52] (by decide +kernel) (by decide +kernel)
set_option maxRecDepth 20000 in
theorem gX6_judge_X6_goes : GoodIn wsX6_judge (wsV RX6 124 RX6 yX6_goes wsX6_goes) := goodIn_app (goodIn_of _ (by decide +kernel)) ggX6_judge_X6_goes
set_option maxRecDepth 20000 in
theorem ggX6_sets_X6_leaveOne : GoodIn wsX6_sets wsX6_leaveOne := goodIn_r _ [7, 8, 9, 20, 21, 22, 23, 24, 25, 26, 27, 28, 29, 30, 31, 32, 33, 34, 35, 36, 37, 38, 39, 40, 41, 42, 43, 44, 45] (by decide +kernel) (by decide +kernel)
set_option maxRecDepth 20000 in
theorem gX6_sets_X6_leaveOne : GoodIn wsX6_sets (wsV RX6 135 RX6 yX6_leaveOne wsX6_leaveOne) := goodIn_app (goodIn_of _ (by decide +kernel)) ggX6_sets_X6_leaveOne
set_option maxRecDepth 20000 in
theorem ggX6_sets_X6_groups : GoodIn wsX6_sets wsX6_groups := goodIn_r _ [13, 2, 8, 14, 15, 9, 20, 21, 22, 23, 24, 25, 26, 27, 28, 29, 30, 31, 32, 33, 34, 35, 36, 37, 38, 39, 40, 41, 42, 43, 44, 45] (by decide +kernel) (by decide +kernel)
set_option maxRecDepth 20000 in
theorem gX6_sets_X6_groups : GoodIn wsX6_sets (wsV RX6 114 RX6 yX6_groups wsX6_groups) := goodIn_app (goodIn_of _ (by decide +kernel)) ggX6_sets_X6_groups
set_option maxRecDepth 20000 in
theorem ggX6_sets_X6_hasEdge : GoodIn wsX6_sets wsX6_hasEdge := goodIn_r _ [19, 8, 14, 15, 20, 21, 22, 23, 24, 25, 26, 27, 28, 29, 30, 31, 32, 33, 34, 35, 36, 37, 38, 39, 40, 41, 42, 43, 44, 45] (by decide +kernel) (by decide +kernel)
set_option maxRecDepth 20000 in
theorem gX6_sets_X6_hasEdge : GoodIn wsX6_sets (wsV RX6 165 RX6 yX6_hasEdge wsX6_hasEdge) := goodIn_app (goodIn_of _ (by decide +kernel)) ggX6_sets_X6_hasEdge
set_option maxRecDepth 20000 in
theorem ggX6_leastOdd_X6_isOdd : GoodIn wsX6_leastOdd wsX6_isOdd := goodIn_r _ [6, 7, 8, 9, 10, 5, 11, 12, 13, 14, 15, 16, 17, 18, 19, 20, 21, 22, 23, 24, 25, 26, 27, 28, 29, 30, 31, 32, 33, 34, 35, 36, 37, 38, 39, 40] (by decide +kernel) (by decide +kernel)
set_option maxRecDepth 20000 in
theorem gX6_leastOdd_X6_isOdd : GoodIn wsX6_leastOdd (wsV RX6 121 RX6 yX6_isOdd wsX6_isOdd) := goodIn_app (goodIn_of _ (by decide +kernel)) ggX6_leastOdd_X6_isOdd
set_option maxRecDepth 20000 in
theorem ggX6_touched_X6_hasEdge : GoodIn wsX6_touched wsX6_hasEdge := goodIn_r _ [6, 7, 8, 9, 10, 11, 12, 13, 14, 15, 16, 17, 18, 19, 20, 21, 22, 23, 24, 25, 26, 27, 28, 29, 30, 31, 32, 33, 34, 35] (by decide +kernel) (by decide +kernel)
set_option maxRecDepth 20000 in
theorem gX6_touched_X6_hasEdge : GoodIn wsX6_touched (wsV RX6 165 RX6 yX6_hasEdge wsX6_hasEdge) := goodIn_app (goodIn_of _ (by decide +kernel)) ggX6_touched_X6_hasEdge
set_option maxRecDepth 20000 in
theorem ggX6_look_X6_throwing : GoodIn wsX6_look wsX6_throwing := goodIn_r _ [10, 11, 52, 53, 54, 55, 56, 57, 58, 59, 60, 61, 62, 63, 64, 65, 66, 67, 68, 69, 70, 71, 72, 73, 74, 75, 76, 77] (by decide +kernel) (by decide +kernel)
set_option maxRecDepth 20000 in
theorem gX6_look_X6_throwing : GoodIn wsX6_look (wsV RX6 81 RX6 yX6_throwing wsX6_throwing) := goodIn_app (goodIn_of _ (by decide +kernel)) ggX6_look_X6_throwing
set_option maxRecDepth 20000 in
theorem ggX6_look_X6_countOdd : GoodIn wsX6_look wsX6_countOdd := goodIn_r _ [15, 1, 16, 17, 18, 9, 19, 3, 20, 21, 22, 23, 2, 24, 25, 52, 53, 54, 55, 56, 57, 58, 59, 60, 61, 62, 63, 64, 65, 66, 67, 68, 69, 70, 71, 72, 73, 74, 75, 76, 77] (by decide +kernel) (by decide +kernel)
set_option maxRecDepth 20000 in
theorem gX6_look_X6_countOdd : GoodIn wsX6_look (wsV RX6 131 RX6 yX6_countOdd wsX6_countOdd) := goodIn_app (goodIn_of _ (by decide +kernel)) ggX6_look_X6_countOdd
set_option maxRecDepth 20000 in
theorem ggX6_look_X6_leastOdd : GoodIn wsX6_look wsX6_leastOdd := goodIn_r _ [29, 1, 16, 17, 18, 9, 19, 3, 20, 21, 22, 23, 2, 24, 25, 52, 53, 54, 55, 56, 57, 58, 59, 60, 61, 62, 63, 64, 65, 66, 67, 68, 69, 70, 71, 72, 73, 74, 75, 76, 77] (by decide +kernel) (by decide +kernel)
set_option maxRecDepth 20000 in
theorem gX6_look_X6_leastOdd : GoodIn wsX6_look (wsV RX6 184 RX6 yX6_leastOdd wsX6_leastOdd) := goodIn_app (goodIn_of _ (by decide +kernel)) ggX6_look_X6_leastOdd
set_option maxRecDepth 20000 in
theorem ggX6_look_X6_sets : GoodIn wsX6_look wsX6_sets := goodIn_r _ [33, 1, 34, 35, 36, 37, 9, 38, 2, 39, 40, 41, 42, 43, 25, 24, 44, 45, 46, 47, 52, 53, 54, 55, 56, 57, 58, 59, 60, 61, 62, 63, 64, 65, 66, 67, 68, 69, 70, 71, 72, 73, 74, 75, 76, 77] (by decide +kernel) (by decide +kernel)
set_option maxRecDepth 20000 in
theorem gX6_look_X6_sets : GoodIn wsX6_look (wsV RX6 187 RX6 yX6_sets wsX6_sets) := goodIn_app (goodIn_of _ (by decide +kernel)) ggX6_look_X6_sets
set_option maxRecDepth 20000 in
theorem ggX6_look_X6_touched : GoodIn wsX6_look wsX6_touched := goodIn_r _ [51, 1, 44, 45, 46, 9, 47, 2, 25, 24, 52, 53, 54, 55, 56, 57, 58, 59, 60, 61, 62, 63, 64, 65, 66, 67, 68, 69, 70, 71, 72, 73, 74, 75, 76, 77] (by decide +kernel) (by decide +kernel)
set_option maxRecDepth 20000 in
theorem gX6_look_X6_touched : GoodIn wsX6_look (wsV RX6 190 RX6 yX6_touched wsX6_touched) := goodIn_app (goodIn_of _ (by decide +kernel)) ggX6_look_X6_touched
end
section
theorem dX0_init_0 : decode cX0_init 0 = .ok (.aload_n 0, 1) := by decide +kernel
theorem dX0_init_1 : decode cX0_init 1 = .ok (.invokespecial 3, 3) := by decide +kernel
theorem dX0_init_4 : decode cX0_init 4 = .ok (.aload_n 0, 1) := by decide +kernel
theorem dX0_init_5 : decode cX0_init 5 = .ok (.bipush 16, 2) := by decide +kernel
theorem dX0_init_7 : decode cX0_init 7 = .ok (.newarray .int, 2) := by decide +kernel
theorem dX0_init_9 : decode cX0_init 9 = .ok (.putfield 9, 3) := by decide +kernel
theorem dX0_init_12 : decode cX0_init 12 = .ok (.return_, 1) := by decide +kernel
theorem dX0_find_0 : decode cX0_find 0 = .ok (.aload_n 3, 1) := by decide +kernel
theorem dX0_find_1 : decode cX0_find 1 = .ok (.iconst 0, 1) := by decide +kernel
theorem dX0_find_2 : decode cX0_find 2 = .ok (.invokestatic 15, 3) := by decide +kernel
theorem dX0_find_5 : decode cX0_find 5 = .ok (.iconst 0, 1) := by decide +kernel
theorem dX0_find_6 : decode cX0_find 6 = .ok (.istore 4, 2) := by decide +kernel
theorem dX0_find_8 : decode cX0_find 8 = .ok (.iload 4, 2) := by decide +kernel
theorem dX0_find_10 : decode cX0_find 10 = .ok (.aload_n 1, 1) := by decide +kernel
theorem dX0_find_11 : decode cX0_find 11 = .ok (.getfield 21, 3) := by decide +kernel
theorem dX0_find_14 : decode cX0_find 14 = .ok (.if_icmp .ge 22, 3) := by decide +kernel
theorem dX0_find_17 : decode cX0_find 17 = .ok (.aload_n 0, 1) := by decide +kernel
theorem dX0_find_18 : decode cX0_find 18 = .ok (.getfield 9, 3) := by decide +kernel
theorem dX0_find_21 : decode cX0_find 21 = .ok (.iload 4, 2) := by decide +kernel
theorem dX0_find_23 : decode cX0_find 23 = .ok (.aload_n 1, 1) := by decide +kernel
theorem dX0_find_24 : decode cX0_find 24 = .ok (.iload 4, 2) := by decide +kernel
theorem dX0_find_26 : decode cX0_find 26 = .ok (.invokevirtual 27, 3) := by decide +kernel
theorem dX0_find_29 : decode cX0_find 29 = .ok (.iastore, 1) := by decide +kernel
theorem dX0_find_30 : decode cX0_find 30 = .ok (.iinc 4 1, 3) := by decide +kernel
theorem dX0_find_33 : decode cX0_find 33 = .ok (.goto (-25), 3) := by decide +kernel
theorem dX0_find_36 : decode cX0_find 36 = .ok (.iconst 0, 1) := by decide +kernel
theorem dX0_find_37 : decode cX0_find 37 = .ok (.istore 4, 2) := by decide +kernel
theorem dX0_find_39 : decode cX0_find 39 = .ok (.iload 4, 2) := by decide +kernel
theorem dX0_find_41 : decode cX0_find 41 = .ok (.bipush 40, 2) := by decide +kernel
theorem dX0_find_43 : decode cX0_find 43 = .ok (.if_icmp .ge 85, 3) := by decide +kernel
theorem dX0_find_46 : decode cX0_find 46 = .ok (.aload_n 0, 1) := by decide +kernel
theorem dX0_find_47 : decode cX0_find 47 = .ok (.iconst 1, 1) := by decide +kernel
theorem dX0_find_48 : decode cX0_find 48 = .ok (.aload_n 1, 1) := by decide +kernel
theorem dX0_find_49 : decode cX0_find 49 = .ok (.getfield 21, 3) := by decide +kernel
theorem dX0_find_52 : decode cX0_find 52 = .ok (.invokevirtual 31, 3) := by decide +kernel
theorem dX0_find_55 : decode cX0_find 55 = .ok (.istore 5, 2) := by decide +kernel
theorem dX0_find_57 : decode cX0_find 57 = .ok (.aload_n 0, 1) := by decide +kernel
theorem dX0_find_58 : decode cX0_find 58 = .ok (.iconst (-1), 1) := by decide +kernel
theorem dX0_find_59 : decode cX0_find 59 = .ok (.aload_n 1, 1) := by decide +kernel
theorem dX0_find_60 : decode cX0_find 60 = .ok (.getfield 21, 3) := by decide +kernel
theorem dX0_find_63 : decode cX0_find 63 = .ok (.invokevirtual 31, 3) := by decide +kernel
theorem dX0_find_66 : decode cX0_find 66 = .ok (.istore 6, 2) := by decide +kernel
theorem dX0_find_68 : decode cX0_find 68 = .ok (.iload 5, 2) := by decide +kernel
theorem dX0_find_70 : decode cX0_find 70 = .ok (.ifCond .lt 58, 3) := by decide +kernel
theorem dX0_find_73 : decode cX0_find 73 = .ok (.iload 6, 2) := by decide +kernel
theorem dX0_find_75 : decode cX0_find 75 = .ok (.ifCond .ge 6, 3) := by decide +kernel
theorem dX0_find_78 : decode cX0_find 78 = .ok (.goto 50, 3) := by decide +kernel
theorem dX0_find_81 : decode cX0_find 81 = .ok (.aload_n 2, 1) := by decide +kernel
theorem dX0_find_82 : decode cX0_find 82 = .ok (.iload 5, 2) := by decide +kernel
theorem dX0_find_84 : decode cX0_find 84 = .ok (.aload_n 1, 1) := by decide +kernel
theorem dX0_find_85 : decode cX0_find 85 = .ok (.aload_n 3, 1) := by decide +kernel
theorem dX0_find_86 : decode cX0_find 86 = .ok (.invokevirtual 35, 3) := by decide +kernel
theorem dX0_find_89 : decode cX0_find 89 = .ok (.aload_n 0, 1) := by decide +kernel
theorem dX0_find_90 : decode cX0_find 90 = .ok (.iload 5, 2) := by decide +kernel
theorem dX0_find_92 : decode cX0_find 92 = .ok (.iload 6, 2) := by decide +kernel
theorem dX0_find_94 : decode cX0_find 94 = .ok (.aload_n 1, 1) := by decide +kernel
theorem dX0_find_95 : decode cX0_find 95 = .ok (.aload_n 2, 1) := by decide +kernel
theorem dX0_find_96 : decode cX0_find 96 = .ok (.aload_n 3, 1) := by decide +kernel
theorem dX0_find_97 : decode cX0_find 97 = .ok (.invokevirtual 41, 3) := by decide +kernel
theorem dX0_find_100 : decode cX0_find 100 = .ok (.aload_n 0, 1) := by decide +kernel
theorem dX0_find_101 : decode cX0_find 101 = .ok (.getfield 9, 3) := by decide +kernel
theorem dX0_find_104 : decode cX0_find 104 = .ok (.iload 5, 2) := by decide +kernel
theorem dX0_find_106 : decode cX0_find 106 = .ok (.dup2, 1) := by decide +kernel
theorem dX0_find_107 : decode cX0_find 107 = .ok (.iaload, 1) := by decide +kernel
theorem dX0_find_108 : decode cX0_find 108 = .ok (.iconst 1, 1) := by decide +kernel
theorem dX0_find_109 : decode cX0_find 109 = .ok (.isub, 1) := by decide +kernel
theorem dX0_find_110 : decode cX0_find 110 = .ok (.iastore, 1) := by decide +kernel
theorem dX0_find_111 : decode cX0_find 111 = .ok (.aload_n 0, 1) := by decide +kernel
theorem dX0_find_112 : decode cX0_find 112 = .ok (.getfield 9, 3) := by decide +kernel
theorem dX0_find_115 : decode cX0_find 115 = .ok (.iload 6, 2) := by decide +kernel
theorem dX0_find_117 : decode cX0_find 117 = .ok (.dup2, 1) := by decide +kernel
theorem dX0_find_118 : decode cX0_find 118 = .ok (.iaload, 1) := by decide +kernel
theorem dX0_find_119 : decode cX0_find 119 = .ok (.iconst 1, 1) := by decide +kernel
theorem dX0_find_120 : decode cX0_find 120 = .ok (.iadd, 1) := by decide +kernel
theorem dX0_find_121 : decode cX0_find 121 = .ok (.iastore, 1) := by decide +kernel
theorem dX0_find_122 : decode cX0_find 122 = .ok (.iinc 4 1, 3) := by decide +kernel
theorem dX0_find_125 : decode cX0_find 125 = .ok (.goto (-86), 3) := by decide +kernel
theorem dX0_find_128 : decode cX0_find 128 = .ok (.return_, 1) := by decide +kernel
theorem dX0_leastWithSign_0 : decode cX0_leastWithSign 0 = .ok (.iconst 0, 1) := by decide +kernel
theorem dX0_leastWithSign_1 : decode cX0_leastWithSign 1 = .ok (.istore_n 3, 1) := by decide +kernel
theorem dX0_leastWithSign_2 : decode cX0_leastWithSign 2 = .ok (.iload_n 3, 1) := by decide +kernel
theorem dX0_leastWithSign_3 : decode cX0_leastWithSign 3 = .ok (.iload_n 2, 1) := by decide +kernel
theorem dX0_leastWithSign_4 : decode cX0_leastWithSign 4 = .ok (.if_icmp .ge 22, 3) := by decide +kernel
theorem dX0_leastWithSign_7 : decode cX0_leastWithSign 7 = .ok (.aload_n 0, 1) := by decide +kernel
theorem dX0_leastWithSign_8 : decode cX0_leastWithSign 8 = .ok (.getfield 9, 3) := by decide +kernel
theorem dX0_leastWithSign_11 : decode cX0_leastWithSign 11 = .ok (.iload_n 3, 1) := by decide +kernel
theorem dX0_leastWithSign_12 : decode cX0_leastWithSign 12 = .ok (.iaload, 1) := by decide +kernel
theorem dX0_leastWithSign_13 : decode cX0_leastWithSign 13 = .ok (.iload_n 1, 1) := by decide +kernel
theorem dX0_leastWithSign_14 : decode cX0_leastWithSign 14 = .ok (.imul, 1) := by decide +kernel
theorem dX0_leastWithSign_15 : decode cX0_leastWithSign 15 = .ok (.ifCond .le 5, 3) := by decide +kernel
theorem dX0_leastWithSign_18 : decode cX0_leastWithSign 18 = .ok (.iload_n 3, 1) := by decide +kernel
theorem dX0_leastWithSign_19 : decode cX0_leastWithSign 19 = .ok (.ireturn, 1) := by decide +kernel
theorem dX0_leastWithSign_20 : decode cX0_leastWithSign 20 = .ok (.iinc 3 1, 3) := by decide +kernel
theorem dX0_leastWithSign_23 : decode cX0_leastWithSign 23 = .ok (.goto (-21), 3) := by decide +kernel
theorem dX0_leastWithSign_26 : decode cX0_leastWithSign 26 = .ok (.iconst (-1), 1) := by decide +kernel
theorem dX0_leastWithSign_27 : decode cX0_leastWithSign 27 = .ok (.ireturn, 1) := by decide +kernel
theorem dX0_addPassage_0 : decode cX0_addPassage 0 = .ok (.iload_n 2, 1) := by decide +kernel
theorem dX0_addPassage_1 : decode cX0_addPassage 1 = .ok (.istore 6, 2) := by decide +kernel
theorem dX0_addPassage_3 : decode cX0_addPassage 3 = .ok (.iconst 0, 1) := by decide +kernel
theorem dX0_addPassage_4 : decode cX0_addPassage 4 = .ok (.istore 7, 2) := by decide +kernel
theorem dX0_addPassage_6 : decode cX0_addPassage 6 = .ok (.iload 7, 2) := by decide +kernel
theorem dX0_addPassage_8 : decode cX0_addPassage 8 = .ok (.bipush 16, 2) := by decide +kernel
theorem dX0_addPassage_10 : decode cX0_addPassage 10 = .ok (.if_icmp .ge 77, 3) := by decide +kernel
theorem dX0_addPassage_13 : decode cX0_addPassage 13 = .ok (.iload 6, 2) := by decide +kernel
theorem dX0_addPassage_15 : decode cX0_addPassage 15 = .ok (.iload_n 1, 1) := by decide +kernel
theorem dX0_addPassage_16 : decode cX0_addPassage 16 = .ok (.if_icmp .eq 71, 3) := by decide +kernel
theorem dX0_addPassage_19 : decode cX0_addPassage 19 = .ok (.aload 4, 2) := by decide +kernel
theorem dX0_addPassage_21 : decode cX0_addPassage 21 = .ok (.getfield 45, 3) := by decide +kernel
theorem dX0_addPassage_24 : decode cX0_addPassage 24 = .ok (.iload 6, 2) := by decide +kernel
theorem dX0_addPassage_26 : decode cX0_addPassage 26 = .ok (.iaload, 1) := by decide +kernel
theorem dX0_addPassage_27 : decode cX0_addPassage 27 = .ok (.istore 8, 2) := by decide +kernel
theorem dX0_addPassage_29 : decode cX0_addPassage 29 = .ok (.iload 8, 2) := by decide +kernel
theorem dX0_addPassage_31 : decode cX0_addPassage 31 = .ok (.iconst 1, 1) := by decide +kernel
theorem dX0_addPassage_32 : decode cX0_addPassage 32 = .ok (.ishr, 1) := by decide +kernel
theorem dX0_addPassage_33 : decode cX0_addPassage 33 = .ok (.istore 9, 2) := by decide +kernel
theorem dX0_addPassage_35 : decode cX0_addPassage 35 = .ok (.iload 8, 2) := by decide +kernel
theorem dX0_addPassage_37 : decode cX0_addPassage 37 = .ok (.iconst 1, 1) := by decide +kernel
theorem dX0_addPassage_38 : decode cX0_addPassage 38 = .ok (.iand, 1) := by decide +kernel
theorem dX0_addPassage_39 : decode cX0_addPassage 39 = .ok (.ifCond .ne 24, 3) := by decide +kernel
theorem dX0_addPassage_42 : decode cX0_addPassage 42 = .ok (.aload 5, 2) := by decide +kernel
theorem dX0_addPassage_44 : decode cX0_addPassage 44 = .ok (.iload 9, 2) := by decide +kernel
theorem dX0_addPassage_46 : decode cX0_addPassage 46 = .ok (.dup2, 1) := by decide +kernel
theorem dX0_addPassage_47 : decode cX0_addPassage 47 = .ok (.iaload, 1) := by decide +kernel
theorem dX0_addPassage_48 : decode cX0_addPassage 48 = .ok (.iconst 1, 1) := by decide +kernel
theorem dX0_addPassage_49 : decode cX0_addPassage 49 = .ok (.iadd, 1) := by decide +kernel
theorem dX0_addPassage_50 : decode cX0_addPassage 50 = .ok (.iastore, 1) := by decide +kernel
theorem dX0_addPassage_51 : decode cX0_addPassage 51 = .ok (.aload_n 3, 1) := by decide +kernel
theorem dX0_addPassage_52 : decode cX0_addPassage 52 = .ok (.getfield 48, 3) := by decide +kernel
theorem dX0_addPassage_55 : decode cX0_addPassage 55 = .ok (.iload 9, 2) := by decide +kernel
theorem dX0_addPassage_57 : decode cX0_addPassage 57 = .ok (.iaload, 1) := by decide +kernel
theorem dX0_addPassage_58 : decode cX0_addPassage 58 = .ok (.istore 6, 2) := by decide +kernel
theorem dX0_addPassage_60 : decode cX0_addPassage 60 = .ok (.goto 21, 3) := by decide +kernel
theorem dX0_addPassage_63 : decode cX0_addPassage 63 = .ok (.aload 5, 2) := by decide +kernel
theorem dX0_addPassage_65 : decode cX0_addPassage 65 = .ok (.iload 9, 2) := by decide +kernel
theorem dX0_addPassage_67 : decode cX0_addPassage 67 = .ok (.dup2, 1) := by decide +kernel
theorem dX0_addPassage_68 : decode cX0_addPassage 68 = .ok (.iaload, 1) := by decide +kernel
theorem dX0_addPassage_69 : decode cX0_addPassage 69 = .ok (.iconst 1, 1) := by decide +kernel
theorem dX0_addPassage_70 : decode cX0_addPassage 70 = .ok (.isub, 1) := by decide +kernel
theorem dX0_addPassage_71 : decode cX0_addPassage 71 = .ok (.iastore, 1) := by decide +kernel
theorem dX0_addPassage_72 : decode cX0_addPassage 72 = .ok (.aload_n 3, 1) := by decide +kernel
theorem dX0_addPassage_73 : decode cX0_addPassage 73 = .ok (.getfield 51, 3) := by decide +kernel
theorem dX0_addPassage_76 : decode cX0_addPassage 76 = .ok (.iload 9, 2) := by decide +kernel
theorem dX0_addPassage_78 : decode cX0_addPassage 78 = .ok (.iaload, 1) := by decide +kernel
theorem dX0_addPassage_79 : decode cX0_addPassage 79 = .ok (.istore 6, 2) := by decide +kernel
theorem dX0_addPassage_81 : decode cX0_addPassage 81 = .ok (.iinc 7 1, 3) := by decide +kernel
theorem dX0_addPassage_84 : decode cX0_addPassage 84 = .ok (.goto (-78), 3) := by decide +kernel
theorem dX0_addPassage_87 : decode cX0_addPassage 87 = .ok (.return_, 1) := by decide +kernel
theorem dX1_init_0 : decode cX1_init 0 = .ok (.aload_n 0, 1) := by decide +kernel
theorem dX1_init_1 : decode cX1_init 1 = .ok (.invokespecial 3, 3) := by decide +kernel
theorem dX1_init_4 : decode cX1_init 4 = .ok (.aload_n 0, 1) := by decide +kernel
theorem dX1_init_5 : decode cX1_init 5 = .ok (.bipush 16, 2) := by decide +kernel
theorem dX1_init_7 : decode cX1_init 7 = .ok (.newarray .boolean, 2) := by decide +kernel
theorem dX1_init_9 : decode cX1_init 9 = .ok (.putfield 9, 3) := by decide +kernel
theorem dX1_init_12 : decode cX1_init 12 = .ok (.aload_n 0, 1) := by decide +kernel
theorem dX1_init_13 : decode cX1_init 13 = .ok (.bipush 16, 2) := by decide +kernel
theorem dX1_init_15 : decode cX1_init 15 = .ok (.newarray .long, 2) := by decide +kernel
theorem dX1_init_17 : decode cX1_init 17 = .ok (.putfield 15, 3) := by decide +kernel
theorem dX1_init_20 : decode cX1_init 20 = .ok (.aload_n 0, 1) := by decide +kernel
theorem dX1_init_21 : decode cX1_init 21 = .ok (.bipush 16, 2) := by decide +kernel
theorem dX1_init_23 : decode cX1_init 23 = .ok (.newarray .long, 2) := by decide +kernel
theorem dX1_init_25 : decode cX1_init 25 = .ok (.putfield 19, 3) := by decide +kernel
theorem dX1_init_28 : decode cX1_init 28 = .ok (.aload_n 0, 1) := by decide +kernel
theorem dX1_init_29 : decode cX1_init 29 = .ok (.bipush 16, 2) := by decide +kernel
theorem dX1_init_31 : decode cX1_init 31 = .ok (.newarray .int, 2) := by decide +kernel
theorem dX1_init_33 : decode cX1_init 33 = .ok (.putfield 22, 3) := by decide +kernel
theorem dX1_init_36 : decode cX1_init 36 = .ok (.aload_n 0, 1) := by decide +kernel
theorem dX1_init_37 : decode cX1_init 37 = .ok (.bipush 40, 2) := by decide +kernel
theorem dX1_init_39 : decode cX1_init 39 = .ok (.newarray .int, 2) := by decide +kernel
theorem dX1_init_41 : decode cX1_init 41 = .ok (.putfield 26, 3) := by decide +kernel
theorem dX1_init_44 : decode cX1_init 44 = .ok (.aload_n 0, 1) := by decide +kernel
theorem dX1_init_45 : decode cX1_init 45 = .ok (.iconst 0, 1) := by decide +kernel
theorem dX1_init_46 : decode cX1_init 46 = .ok (.putfield 29, 3) := by decide +kernel
theorem dX1_init_49 : decode cX1_init 49 = .ok (.return_, 1) := by decide +kernel
theorem dX1_searchFrom_0 : decode cX1_searchFrom 0 = .ok (.aload_n 0, 1) := by decide +kernel
theorem dX1_searchFrom_1 : decode cX1_searchFrom 1 = .ok (.iload_n 1, 1) := by decide +kernel
theorem dX1_searchFrom_2 : decode cX1_searchFrom 2 = .ok (.aload_n 2, 1) := by decide +kernel
theorem dX1_searchFrom_3 : decode cX1_searchFrom 3 = .ok (.aload_n 0, 1) := by decide +kernel
theorem dX1_searchFrom_4 : decode cX1_searchFrom 4 = .ok (.getfield 26, 3) := by decide +kernel
theorem dX1_searchFrom_7 : decode cX1_searchFrom 7 = .ok (.invokevirtual 33, 3) := by decide +kernel
theorem dX1_searchFrom_10 : decode cX1_searchFrom 10 = .ok (.return_, 1) := by decide +kernel
theorem dX1_searchBesideExtras_0 : decode cX1_searchBesideExtras 0 = .ok (.iconst 0, 1) := by decide +kernel
theorem dX1_searchBesideExtras_1 : decode cX1_searchBesideExtras 1 = .ok (.istore 4, 2) := by decide +kernel
theorem dX1_searchBesideExtras_3 : decode cX1_searchBesideExtras 3 = .ok (.iload 4, 2) := by decide +kernel
theorem dX1_searchBesideExtras_5 : decode cX1_searchBesideExtras 5 = .ok (.bipush 16, 2) := by decide +kernel
theorem dX1_searchBesideExtras_7 : decode cX1_searchBesideExtras 7 = .ok (.if_icmp .ge 17, 3) := by decide +kernel
theorem dX1_searchBesideExtras_10 : decode cX1_searchBesideExtras 10 = .ok (.aload_n 0, 1) := by decide +kernel
theorem dX1_searchBesideExtras_11 : decode cX1_searchBesideExtras 11 = .ok (.getfield 9, 3) := by decide +kernel
theorem dX1_searchBesideExtras_14 : decode cX1_searchBesideExtras 14 = .ok (.iload 4, 2) := by decide +kernel
theorem dX1_searchBesideExtras_16 : decode cX1_searchBesideExtras 16 = .ok (.iconst 0, 1) := by decide +kernel
theorem dX1_searchBesideExtras_17 : decode cX1_searchBesideExtras 17 = .ok (.bastore, 1) := by decide +kernel
theorem dX1_searchBesideExtras_18 : decode cX1_searchBesideExtras 18 = .ok (.iinc 4 1, 3) := by decide +kernel
theorem dX1_searchBesideExtras_21 : decode cX1_searchBesideExtras 21 = .ok (.goto (-18), 3) := by decide +kernel
theorem dX1_searchBesideExtras_24 : decode cX1_searchBesideExtras 24 = .ok (.aload_n 0, 1) := by decide +kernel
theorem dX1_searchBesideExtras_25 : decode cX1_searchBesideExtras 25 = .ok (.getfield 9, 3) := by decide +kernel
theorem dX1_searchBesideExtras_28 : decode cX1_searchBesideExtras 28 = .ok (.iload_n 1, 1) := by decide +kernel
theorem dX1_searchBesideExtras_29 : decode cX1_searchBesideExtras 29 = .ok (.iconst 1, 1) := by decide +kernel
theorem dX1_searchBesideExtras_30 : decode cX1_searchBesideExtras 30 = .ok (.bastore, 1) := by decide +kernel
theorem dX1_searchBesideExtras_31 : decode cX1_searchBesideExtras 31 = .ok (.aload_n 0, 1) := by decide +kernel
theorem dX1_searchBesideExtras_32 : decode cX1_searchBesideExtras 32 = .ok (.getfield 15, 3) := by decide +kernel
theorem dX1_searchBesideExtras_35 : decode cX1_searchBesideExtras 35 = .ok (.iload_n 1, 1) := by decide +kernel
theorem dX1_searchBesideExtras_36 : decode cX1_searchBesideExtras 36 = .ok (.lconst 0, 1) := by decide +kernel
theorem dX1_searchBesideExtras_37 : decode cX1_searchBesideExtras 37 = .ok (.lastore, 1) := by decide +kernel
theorem dX1_searchBesideExtras_38 : decode cX1_searchBesideExtras 38 = .ok (.aload_n 0, 1) := by decide +kernel
theorem dX1_searchBesideExtras_39 : decode cX1_searchBesideExtras 39 = .ok (.getfield 19, 3) := by decide +kernel
theorem dX1_searchBesideExtras_42 : decode cX1_searchBesideExtras 42 = .ok (.iload_n 1, 1) := by decide +kernel
theorem dX1_searchBesideExtras_43 : decode cX1_searchBesideExtras 43 = .ok (.lconst 0, 1) := by decide +kernel
theorem dX1_searchBesideExtras_44 : decode cX1_searchBesideExtras 44 = .ok (.lastore, 1) := by decide +kernel
theorem dX1_searchBesideExtras_45 : decode cX1_searchBesideExtras 45 = .ok (.aload_n 0, 1) := by decide +kernel
theorem dX1_searchBesideExtras_46 : decode cX1_searchBesideExtras 46 = .ok (.iconst 1, 1) := by decide +kernel
theorem dX1_searchBesideExtras_47 : decode cX1_searchBesideExtras 47 = .ok (.putfield 29, 3) := by decide +kernel
theorem dX1_searchBesideExtras_50 : decode cX1_searchBesideExtras 50 = .ok (.iconst 0, 1) := by decide +kernel
theorem dX1_searchBesideExtras_51 : decode cX1_searchBesideExtras 51 = .ok (.istore 4, 2) := by decide +kernel
theorem dX1_searchBesideExtras_53 : decode cX1_searchBesideExtras 53 = .ok (.iload 4, 2) := by decide +kernel
theorem dX1_searchBesideExtras_55 : decode cX1_searchBesideExtras 55 = .ok (.bipush 16, 2) := by decide +kernel
theorem dX1_searchBesideExtras_57 : decode cX1_searchBesideExtras 57 = .ok (.if_icmp .ge 167, 3) := by decide +kernel
theorem dX1_searchBesideExtras_60 : decode cX1_searchBesideExtras 60 = .ok (.aload_n 0, 1) := by decide +kernel
theorem dX1_searchBesideExtras_61 : decode cX1_searchBesideExtras 61 = .ok (.getfield 29, 3) := by decide +kernel
theorem dX1_searchBesideExtras_64 : decode cX1_searchBesideExtras 64 = .ok (.ifCond .eq 160, 3) := by decide +kernel
theorem dX1_searchBesideExtras_67 : decode cX1_searchBesideExtras 67 = .ok (.aload_n 0, 1) := by decide +kernel
theorem dX1_searchBesideExtras_68 : decode cX1_searchBesideExtras 68 = .ok (.iconst 0, 1) := by decide +kernel
theorem dX1_searchBesideExtras_69 : decode cX1_searchBesideExtras 69 = .ok (.putfield 29, 3) := by decide +kernel
theorem dX1_searchBesideExtras_72 : decode cX1_searchBesideExtras 72 = .ok (.iconst 0, 1) := by decide +kernel
theorem dX1_searchBesideExtras_73 : decode cX1_searchBesideExtras 73 = .ok (.istore 5, 2) := by decide +kernel
theorem dX1_searchBesideExtras_75 : decode cX1_searchBesideExtras 75 = .ok (.iload 5, 2) := by decide +kernel
theorem dX1_searchBesideExtras_77 : decode cX1_searchBesideExtras 77 = .ok (.aload_n 2, 1) := by decide +kernel
theorem dX1_searchBesideExtras_78 : decode cX1_searchBesideExtras 78 = .ok (.getfield 37, 3) := by decide +kernel
theorem dX1_searchBesideExtras_81 : decode cX1_searchBesideExtras 81 = .ok (.if_icmp .ge 137, 3) := by decide +kernel
theorem dX1_searchBesideExtras_84 : decode cX1_searchBesideExtras 84 = .ok (.lconst 1, 1) := by decide +kernel
theorem dX1_searchBesideExtras_85 : decode cX1_searchBesideExtras 85 = .ok (.bipush 39, 2) := by decide +kernel
theorem dX1_searchBesideExtras_87 : decode cX1_searchBesideExtras 87 = .ok (.iload 5, 2) := by decide +kernel
theorem dX1_searchBesideExtras_89 : decode cX1_searchBesideExtras 89 = .ok (.isub, 1) := by decide +kernel
theorem dX1_searchBesideExtras_90 : decode cX1_searchBesideExtras 90 = .ok (.lshl, 1) := by decide +kernel
theorem dX1_searchBesideExtras_91 : decode cX1_searchBesideExtras 91 = .ok (.lstore 6, 2) := by decide +kernel
theorem dX1_searchBesideExtras_93 : decode cX1_searchBesideExtras 93 = .ok (.aload_n 0, 1) := by decide +kernel
theorem dX1_searchBesideExtras_94 : decode cX1_searchBesideExtras 94 = .ok (.iconst 2, 1) := by decide +kernel
theorem dX1_searchBesideExtras_95 : decode cX1_searchBesideExtras 95 = .ok (.iload 5, 2) := by decide +kernel
theorem dX1_searchBesideExtras_97 : decode cX1_searchBesideExtras 97 = .ok (.imul, 1) := by decide +kernel
theorem dX1_searchBesideExtras_98 : decode cX1_searchBesideExtras 98 = .ok (.aload_n 2, 1) := by decide +kernel
theorem dX1_searchBesideExtras_99 : decode cX1_searchBesideExtras 99 = .ok (.getfield 43, 3) := by decide +kernel
theorem dX1_searchBesideExtras_102 : decode cX1_searchBesideExtras 102 = .ok (.iload 5, 2) := by decide +kernel
theorem dX1_searchBesideExtras_104 : decode cX1_searchBesideExtras 104 = .ok (.iaload, 1) := by decide +kernel
theorem dX1_searchBesideExtras_105 : decode cX1_searchBesideExtras 105 = .ok (.aload_n 2, 1) := by decide +kernel
theorem dX1_searchBesideExtras_106 : decode cX1_searchBesideExtras 106 = .ok (.getfield 46, 3) := by decide +kernel
theorem dX1_searchBesideExtras_109 : decode cX1_searchBesideExtras 109 = .ok (.iload 5, 2) := by decide +kernel
theorem dX1_searchBesideExtras_111 : decode cX1_searchBesideExtras 111 = .ok (.iaload, 1) := by decide +kernel
theorem dX1_searchBesideExtras_112 : decode cX1_searchBesideExtras 112 = .ok (.aload_n 2, 1) := by decide +kernel
theorem dX1_searchBesideExtras_113 : decode cX1_searchBesideExtras 113 = .ok (.getfield 49, 3) := by decide +kernel
theorem dX1_searchBesideExtras_116 : decode cX1_searchBesideExtras 116 = .ok (.iload 5, 2) := by decide +kernel
theorem dX1_searchBesideExtras_118 : decode cX1_searchBesideExtras 118 = .ok (.iaload, 1) := by decide +kernel
theorem dX1_searchBesideExtras_119 : decode cX1_searchBesideExtras 119 = .ok (.i2l, 1) := by decide +kernel
theorem dX1_searchBesideExtras_120 : decode cX1_searchBesideExtras 120 = .ok (.lload 6, 2) := by decide +kernel
theorem dX1_searchBesideExtras_122 : decode cX1_searchBesideExtras 122 = .ok (.invokevirtual 52, 3) := by decide +kernel
theorem dX1_searchBesideExtras_125 : decode cX1_searchBesideExtras 125 = .ok (.aload_n 2, 1) := by decide +kernel
theorem dX1_searchBesideExtras_126 : decode cX1_searchBesideExtras 126 = .ok (.getfield 56, 3) := by decide +kernel
theorem dX1_searchBesideExtras_129 : decode cX1_searchBesideExtras 129 = .ok (.ifCond .ne 40, 3) := by decide +kernel
theorem dX1_searchBesideExtras_132 : decode cX1_searchBesideExtras 132 = .ok (.aload_n 0, 1) := by decide +kernel
theorem dX1_searchBesideExtras_133 : decode cX1_searchBesideExtras 133 = .ok (.iconst 2, 1) := by decide +kernel
theorem dX1_searchBesideExtras_134 : decode cX1_searchBesideExtras 134 = .ok (.iload 5, 2) := by decide +kernel
theorem dX1_searchBesideExtras_136 : decode cX1_searchBesideExtras 136 = .ok (.imul, 1) := by decide +kernel
theorem dX1_searchBesideExtras_137 : decode cX1_searchBesideExtras 137 = .ok (.iconst 1, 1) := by decide +kernel
theorem dX1_searchBesideExtras_138 : decode cX1_searchBesideExtras 138 = .ok (.iadd, 1) := by decide +kernel
theorem dX1_searchBesideExtras_139 : decode cX1_searchBesideExtras 139 = .ok (.aload_n 2, 1) := by decide +kernel
theorem dX1_searchBesideExtras_140 : decode cX1_searchBesideExtras 140 = .ok (.getfield 46, 3) := by decide +kernel
theorem dX1_searchBesideExtras_143 : decode cX1_searchBesideExtras 143 = .ok (.iload 5, 2) := by decide +kernel
theorem dX1_searchBesideExtras_145 : decode cX1_searchBesideExtras 145 = .ok (.iaload, 1) := by decide +kernel
theorem dX1_searchBesideExtras_146 : decode cX1_searchBesideExtras 146 = .ok (.aload_n 2, 1) := by decide +kernel
theorem dX1_searchBesideExtras_147 : decode cX1_searchBesideExtras 147 = .ok (.getfield 43, 3) := by decide +kernel
theorem dX1_searchBesideExtras_150 : decode cX1_searchBesideExtras 150 = .ok (.iload 5, 2) := by decide +kernel
theorem dX1_searchBesideExtras_152 : decode cX1_searchBesideExtras 152 = .ok (.iaload, 1) := by decide +kernel
theorem dX1_searchBesideExtras_153 : decode cX1_searchBesideExtras 153 = .ok (.aload_n 2, 1) := by decide +kernel
theorem dX1_searchBesideExtras_154 : decode cX1_searchBesideExtras 154 = .ok (.getfield 49, 3) := by decide +kernel
theorem dX1_searchBesideExtras_157 : decode cX1_searchBesideExtras 157 = .ok (.iload 5, 2) := by decide +kernel
theorem dX1_searchBesideExtras_159 : decode cX1_searchBesideExtras 159 = .ok (.iaload, 1) := by decide +kernel
theorem dX1_searchBesideExtras_160 : decode cX1_searchBesideExtras 160 = .ok (.i2l, 1) := by decide +kernel
theorem dX1_searchBesideExtras_161 : decode cX1_searchBesideExtras 161 = .ok (.lload 6, 2) := by decide +kernel
theorem dX1_searchBesideExtras_163 : decode cX1_searchBesideExtras 163 = .ok (.invokevirtual 52, 3) := by decide +kernel
theorem dX1_searchBesideExtras_166 : decode cX1_searchBesideExtras 166 = .ok (.goto 46, 3) := by decide +kernel
theorem dX1_searchBesideExtras_169 : decode cX1_searchBesideExtras 169 = .ok (.aload_n 3, 1) := by decide +kernel
theorem dX1_searchBesideExtras_170 : decode cX1_searchBesideExtras 170 = .ok (.iload 5, 2) := by decide +kernel
theorem dX1_searchBesideExtras_172 : decode cX1_searchBesideExtras 172 = .ok (.iaload, 1) := by decide +kernel
theorem dX1_searchBesideExtras_173 : decode cX1_searchBesideExtras 173 = .ok (.ifCond .le 39, 3) := by decide +kernel
theorem dX1_searchBesideExtras_176 : decode cX1_searchBesideExtras 176 = .ok (.aload_n 0, 1) := by decide +kernel
theorem dX1_searchBesideExtras_177 : decode cX1_searchBesideExtras 177 = .ok (.iconst 2, 1) := by decide +kernel
theorem dX1_searchBesideExtras_178 : decode cX1_searchBesideExtras 178 = .ok (.iload 5, 2) := by decide +kernel
theorem dX1_searchBesideExtras_180 : decode cX1_searchBesideExtras 180 = .ok (.imul, 1) := by decide +kernel
theorem dX1_searchBesideExtras_181 : decode cX1_searchBesideExtras 181 = .ok (.iconst 1, 1) := by decide +kernel
theorem dX1_searchBesideExtras_182 : decode cX1_searchBesideExtras 182 = .ok (.iadd, 1) := by decide +kernel
theorem dX1_searchBesideExtras_183 : decode cX1_searchBesideExtras 183 = .ok (.aload_n 2, 1) := by decide +kernel
theorem dX1_searchBesideExtras_184 : decode cX1_searchBesideExtras 184 = .ok (.getfield 46, 3) := by decide +kernel
theorem dX1_searchBesideExtras_187 : decode cX1_searchBesideExtras 187 = .ok (.iload 5, 2) := by decide +kernel
theorem dX1_searchBesideExtras_189 : decode cX1_searchBesideExtras 189 = .ok (.iaload, 1) := by decide +kernel
theorem dX1_searchBesideExtras_190 : decode cX1_searchBesideExtras 190 = .ok (.aload_n 2, 1) := by decide +kernel
theorem dX1_searchBesideExtras_191 : decode cX1_searchBesideExtras 191 = .ok (.getfield 43, 3) := by decide +kernel
theorem dX1_searchBesideExtras_194 : decode cX1_searchBesideExtras 194 = .ok (.iload 5, 2) := by decide +kernel
theorem dX1_searchBesideExtras_196 : decode cX1_searchBesideExtras 196 = .ok (.iaload, 1) := by decide +kernel
theorem dX1_searchBesideExtras_197 : decode cX1_searchBesideExtras 197 = .ok (.aload_n 2, 1) := by decide +kernel
theorem dX1_searchBesideExtras_198 : decode cX1_searchBesideExtras 198 = .ok (.getfield 49, 3) := by decide +kernel
theorem dX1_searchBesideExtras_201 : decode cX1_searchBesideExtras 201 = .ok (.iload 5, 2) := by decide +kernel
theorem dX1_searchBesideExtras_203 : decode cX1_searchBesideExtras 203 = .ok (.iaload, 1) := by decide +kernel
theorem dX1_searchBesideExtras_204 : decode cX1_searchBesideExtras 204 = .ok (.ineg, 1) := by decide +kernel
theorem dX1_searchBesideExtras_205 : decode cX1_searchBesideExtras 205 = .ok (.i2l, 1) := by decide +kernel
theorem dX1_searchBesideExtras_206 : decode cX1_searchBesideExtras 206 = .ok (.lload 6, 2) := by decide +kernel
theorem dX1_searchBesideExtras_208 : decode cX1_searchBesideExtras 208 = .ok (.lneg, 1) := by decide +kernel
theorem dX1_searchBesideExtras_209 : decode cX1_searchBesideExtras 209 = .ok (.invokevirtual 52, 3) := by decide +kernel
theorem dX1_searchBesideExtras_212 : decode cX1_searchBesideExtras 212 = .ok (.iinc 5 1, 3) := by decide +kernel
theorem dX1_searchBesideExtras_215 : decode cX1_searchBesideExtras 215 = .ok (.goto (-140), 3) := by decide +kernel
theorem dX1_searchBesideExtras_218 : decode cX1_searchBesideExtras 218 = .ok (.iinc 4 1, 3) := by decide +kernel
theorem dX1_searchBesideExtras_221 : decode cX1_searchBesideExtras 221 = .ok (.goto (-168), 3) := by decide +kernel
theorem dX1_searchBesideExtras_224 : decode cX1_searchBesideExtras 224 = .ok (.return_, 1) := by decide +kernel
theorem dX1_tryStep_0 : decode cX1_tryStep 0 = .ok (.aload_n 0, 1) := by decide +kernel
theorem dX1_tryStep_1 : decode cX1_tryStep 1 = .ok (.getfield 9, 3) := by decide +kernel
theorem dX1_tryStep_4 : decode cX1_tryStep 4 = .ok (.iload_n 2, 1) := by decide +kernel
theorem dX1_tryStep_5 : decode cX1_tryStep 5 = .ok (.baload, 1) := by decide +kernel
theorem dX1_tryStep_6 : decode cX1_tryStep 6 = .ok (.ifCond .ne 4, 3) := by decide +kernel
theorem dX1_tryStep_9 : decode cX1_tryStep 9 = .ok (.return_, 1) := by decide +kernel
theorem dX1_tryStep_10 : decode cX1_tryStep 10 = .ok (.aload_n 0, 1) := by decide +kernel
theorem dX1_tryStep_11 : decode cX1_tryStep 11 = .ok (.getfield 15, 3) := by decide +kernel
theorem dX1_tryStep_14 : decode cX1_tryStep 14 = .ok (.iload_n 2, 1) := by decide +kernel
theorem dX1_tryStep_15 : decode cX1_tryStep 15 = .ok (.laload, 1) := by decide +kernel
theorem dX1_tryStep_16 : decode cX1_tryStep 16 = .ok (.lload 4, 2) := by decide +kernel
theorem dX1_tryStep_18 : decode cX1_tryStep 18 = .ok (.ladd, 1) := by decide +kernel
theorem dX1_tryStep_19 : decode cX1_tryStep 19 = .ok (.lstore 8, 2) := by decide +kernel
theorem dX1_tryStep_21 : decode cX1_tryStep 21 = .ok (.aload_n 0, 1) := by decide +kernel
theorem dX1_tryStep_22 : decode cX1_tryStep 22 = .ok (.getfield 19, 3) := by decide +kernel
theorem dX1_tryStep_25 : decode cX1_tryStep 25 = .ok (.iload_n 2, 1) := by decide +kernel
theorem dX1_tryStep_26 : decode cX1_tryStep 26 = .ok (.laload, 1) := by decide +kernel
theorem dX1_tryStep_27 : decode cX1_tryStep 27 = .ok (.lload 6, 2) := by decide +kernel
theorem dX1_tryStep_29 : decode cX1_tryStep 29 = .ok (.ladd, 1) := by decide +kernel
theorem dX1_tryStep_30 : decode cX1_tryStep 30 = .ok (.lstore 10, 2) := by decide +kernel
theorem dX1_tryStep_32 : decode cX1_tryStep 32 = .ok (.aload_n 0, 1) := by decide +kernel
theorem dX1_tryStep_33 : decode cX1_tryStep 33 = .ok (.getfield 9, 3) := by decide +kernel
theorem dX1_tryStep_36 : decode cX1_tryStep 36 = .ok (.iload_n 3, 1) := by decide +kernel
theorem dX1_tryStep_37 : decode cX1_tryStep 37 = .ok (.baload, 1) := by decide +kernel
theorem dX1_tryStep_38 : decode cX1_tryStep 38 = .ok (.ifCond .eq 25, 3) := by decide +kernel
theorem dX1_tryStep_41 : decode cX1_tryStep 41 = .ok (.lload 8, 2) := by decide +kernel
theorem dX1_tryStep_43 : decode cX1_tryStep 43 = .ok (.lload 10, 2) := by decide +kernel
theorem dX1_tryStep_45 : decode cX1_tryStep 45 = .ok (.aload_n 0, 1) := by decide +kernel
theorem dX1_tryStep_46 : decode cX1_tryStep 46 = .ok (.getfield 15, 3) := by decide +kernel
theorem dX1_tryStep_49 : decode cX1_tryStep 49 = .ok (.iload_n 3, 1) := by decide +kernel
theorem dX1_tryStep_50 : decode cX1_tryStep 50 = .ok (.laload, 1) := by decide +kernel
theorem dX1_tryStep_51 : decode cX1_tryStep 51 = .ok (.aload_n 0, 1) := by decide +kernel
theorem dX1_tryStep_52 : decode cX1_tryStep 52 = .ok (.getfield 19, 3) := by decide +kernel
theorem dX1_tryStep_55 : decode cX1_tryStep 55 = .ok (.iload_n 3, 1) := by decide +kernel
theorem dX1_tryStep_56 : decode cX1_tryStep 56 = .ok (.laload, 1) := by decide +kernel
theorem dX1_tryStep_57 : decode cX1_tryStep 57 = .ok (.invokestatic 59, 3) := by decide +kernel
theorem dX1_tryStep_60 : decode cX1_tryStep 60 = .ok (.ifCond .eq 38, 3) := by decide +kernel
theorem dX1_tryStep_63 : decode cX1_tryStep 63 = .ok (.aload_n 0, 1) := by decide +kernel
theorem dX1_tryStep_64 : decode cX1_tryStep 64 = .ok (.getfield 9, 3) := by decide +kernel
theorem dX1_tryStep_67 : decode cX1_tryStep 67 = .ok (.iload_n 3, 1) := by decide +kernel
theorem dX1_tryStep_68 : decode cX1_tryStep 68 = .ok (.iconst 1, 1) := by decide +kernel
theorem dX1_tryStep_69 : decode cX1_tryStep 69 = .ok (.bastore, 1) := by decide +kernel
theorem dX1_tryStep_70 : decode cX1_tryStep 70 = .ok (.aload_n 0, 1) := by decide +kernel
theorem dX1_tryStep_71 : decode cX1_tryStep 71 = .ok (.getfield 15, 3) := by decide +kernel
theorem dX1_tryStep_74 : decode cX1_tryStep 74 = .ok (.iload_n 3, 1) := by decide +kernel
theorem dX1_tryStep_75 : decode cX1_tryStep 75 = .ok (.lload 8, 2) := by decide +kernel
theorem dX1_tryStep_77 : decode cX1_tryStep 77 = .ok (.lastore, 1) := by decide +kernel
theorem dX1_tryStep_78 : decode cX1_tryStep 78 = .ok (.aload_n 0, 1) := by decide +kernel
theorem dX1_tryStep_79 : decode cX1_tryStep 79 = .ok (.getfield 19, 3) := by decide +kernel
theorem dX1_tryStep_82 : decode cX1_tryStep 82 = .ok (.iload_n 3, 1) := by decide +kernel
theorem dX1_tryStep_83 : decode cX1_tryStep 83 = .ok (.lload 10, 2) := by decide +kernel
theorem dX1_tryStep_85 : decode cX1_tryStep 85 = .ok (.lastore, 1) := by decide +kernel
theorem dX1_tryStep_86 : decode cX1_tryStep 86 = .ok (.aload_n 0, 1) := by decide +kernel
theorem dX1_tryStep_87 : decode cX1_tryStep 87 = .ok (.getfield 22, 3) := by decide +kernel
theorem dX1_tryStep_90 : decode cX1_tryStep 90 = .ok (.iload_n 3, 1) := by decide +kernel
theorem dX1_tryStep_91 : decode cX1_tryStep 91 = .ok (.iload_n 1, 1) := by decide +kernel
theorem dX1_tryStep_92 : decode cX1_tryStep 92 = .ok (.iastore, 1) := by decide +kernel
theorem dX1_tryStep_93 : decode cX1_tryStep 93 = .ok (.aload_n 0, 1) := by decide +kernel
theorem dX1_tryStep_94 : decode cX1_tryStep 94 = .ok (.iconst 1, 1) := by decide +kernel
theorem dX1_tryStep_95 : decode cX1_tryStep 95 = .ok (.putfield 29, 3) := by decide +kernel
theorem dX1_tryStep_98 : decode cX1_tryStep 98 = .ok (.return_, 1) := by decide +kernel
theorem dX1_isLess_0 : decode cX1_isLess 0 = .ok (.lload_n 0, 1) := by decide +kernel
theorem dX1_isLess_1 : decode cX1_isLess 1 = .ok (.lload 4, 2) := by decide +kernel
theorem dX1_isLess_3 : decode cX1_isLess 3 = .ok (.lcmp, 1) := by decide +kernel
theorem dX1_isLess_4 : decode cX1_isLess 4 = .ok (.ifCond .lt 17, 3) := by decide +kernel
theorem dX1_isLess_7 : decode cX1_isLess 7 = .ok (.lload_n 0, 1) := by decide +kernel
theorem dX1_isLess_8 : decode cX1_isLess 8 = .ok (.lload 4, 2) := by decide +kernel
theorem dX1_isLess_10 : decode cX1_isLess 10 = .ok (.lcmp, 1) := by decide +kernel
theorem dX1_isLess_11 : decode cX1_isLess 11 = .ok (.ifCond .ne 14, 3) := by decide +kernel
theorem dX1_isLess_14 : decode cX1_isLess 14 = .ok (.lload_n 2, 1) := by decide +kernel
theorem dX1_isLess_15 : decode cX1_isLess 15 = .ok (.lload 6, 2) := by decide +kernel
theorem dX1_isLess_17 : decode cX1_isLess 17 = .ok (.lcmp, 1) := by decide +kernel
theorem dX1_isLess_18 : decode cX1_isLess 18 = .ok (.ifCond .ge 7, 3) := by decide +kernel
theorem dX1_isLess_21 : decode cX1_isLess 21 = .ok (.iconst 1, 1) := by decide +kernel
theorem dX1_isLess_22 : decode cX1_isLess 22 = .ok (.goto 4, 3) := by decide +kernel
theorem dX1_isLess_25 : decode cX1_isLess 25 = .ok (.iconst 0, 1) := by decide +kernel
theorem dX1_isLess_26 : decode cX1_isLess 26 = .ok (.ireturn, 1) := by decide +kernel
theorem dX2_init_0 : decode cX2_init 0 = .ok (.aload_n 0, 1) := by decide +kernel
theorem dX2_init_1 : decode cX2_init 1 = .ok (.invokespecial 3, 3) := by decide +kernel
theorem dX2_init_4 : decode cX2_init 4 = .ok (.aload_n 0, 1) := by decide +kernel
theorem dX2_init_5 : decode cX2_init 5 = .ok (.bipush 40, 2) := by decide +kernel
theorem dX2_init_7 : decode cX2_init 7 = .ok (.newarray .int, 2) := by decide +kernel
theorem dX2_init_9 : decode cX2_init 9 = .ok (.putfield 9, 3) := by decide +kernel
theorem dX2_init_12 : decode cX2_init 12 = .ok (.aload_n 0, 1) := by decide +kernel
theorem dX2_init_13 : decode cX2_init 13 = .ok (.bipush 40, 2) := by decide +kernel
theorem dX2_init_15 : decode cX2_init 15 = .ok (.newarray .int, 2) := by decide +kernel
theorem dX2_init_17 : decode cX2_init 17 = .ok (.putfield 15, 3) := by decide +kernel
theorem dX2_init_20 : decode cX2_init 20 = .ok (.aload_n 0, 1) := by decide +kernel
theorem dX2_init_21 : decode cX2_init 21 = .ok (.bipush 40, 2) := by decide +kernel
theorem dX2_init_23 : decode cX2_init 23 = .ok (.newarray .int, 2) := by decide +kernel
theorem dX2_init_25 : decode cX2_init 25 = .ok (.putfield 18, 3) := by decide +kernel
theorem dX2_init_28 : decode cX2_init 28 = .ok (.aload_n 0, 1) := by decide +kernel
theorem dX2_init_29 : decode cX2_init 29 = .ok (.iconst 0, 1) := by decide +kernel
theorem dX2_init_30 : decode cX2_init 30 = .ok (.putfield 21, 3) := by decide +kernel
theorem dX2_init_33 : decode cX2_init 33 = .ok (.aload_n 0, 1) := by decide +kernel
theorem dX2_init_34 : decode cX2_init 34 = .ok (.iconst 1, 1) := by decide +kernel
theorem dX2_init_35 : decode cX2_init 35 = .ok (.putfield 25, 3) := by decide +kernel
theorem dX2_init_38 : decode cX2_init 38 = .ok (.aload_n 0, 1) := by decide +kernel
theorem dX2_init_39 : decode cX2_init 39 = .ok (.iconst 0, 1) := by decide +kernel
theorem dX2_init_40 : decode cX2_init 40 = .ok (.putfield 29, 3) := by decide +kernel
theorem dX2_init_43 : decode cX2_init 43 = .ok (.return_, 1) := by decide +kernel
theorem dX2_begin_0 : decode cX2_begin 0 = .ok (.aload_n 0, 1) := by decide +kernel
theorem dX2_begin_1 : decode cX2_begin 1 = .ok (.iload_n 1, 1) := by decide +kernel
theorem dX2_begin_2 : decode cX2_begin 2 = .ok (.putfield 21, 3) := by decide +kernel
theorem dX2_begin_5 : decode cX2_begin 5 = .ok (.aload_n 0, 1) := by decide +kernel
theorem dX2_begin_6 : decode cX2_begin 6 = .ok (.iload_n 2, 1) := by decide +kernel
theorem dX2_begin_7 : decode cX2_begin 7 = .ok (.putfield 25, 3) := by decide +kernel
theorem dX2_begin_10 : decode cX2_begin 10 = .ok (.aload_n 0, 1) := by decide +kernel
theorem dX2_begin_11 : decode cX2_begin 11 = .ok (.iconst 0, 1) := by decide +kernel
theorem dX2_begin_12 : decode cX2_begin 12 = .ok (.putfield 29, 3) := by decide +kernel
theorem dX2_begin_15 : decode cX2_begin 15 = .ok (.return_, 1) := by decide +kernel
theorem dX2_addEdge_0 : decode cX2_addEdge 0 = .ok (.aload_n 0, 1) := by decide +kernel
theorem dX2_addEdge_1 : decode cX2_addEdge 1 = .ok (.getfield 9, 3) := by decide +kernel
theorem dX2_addEdge_4 : decode cX2_addEdge 4 = .ok (.aload_n 0, 1) := by decide +kernel
theorem dX2_addEdge_5 : decode cX2_addEdge 5 = .ok (.getfield 29, 3) := by decide +kernel
theorem dX2_addEdge_8 : decode cX2_addEdge 8 = .ok (.iload_n 1, 1) := by decide +kernel
theorem dX2_addEdge_9 : decode cX2_addEdge 9 = .ok (.iastore, 1) := by decide +kernel
theorem dX2_addEdge_10 : decode cX2_addEdge 10 = .ok (.aload_n 0, 1) := by decide +kernel
theorem dX2_addEdge_11 : decode cX2_addEdge 11 = .ok (.getfield 15, 3) := by decide +kernel
theorem dX2_addEdge_14 : decode cX2_addEdge 14 = .ok (.aload_n 0, 1) := by decide +kernel
theorem dX2_addEdge_15 : decode cX2_addEdge 15 = .ok (.getfield 29, 3) := by decide +kernel
theorem dX2_addEdge_18 : decode cX2_addEdge 18 = .ok (.iload_n 2, 1) := by decide +kernel
theorem dX2_addEdge_19 : decode cX2_addEdge 19 = .ok (.iastore, 1) := by decide +kernel
theorem dX2_addEdge_20 : decode cX2_addEdge 20 = .ok (.aload_n 0, 1) := by decide +kernel
theorem dX2_addEdge_21 : decode cX2_addEdge 21 = .ok (.getfield 18, 3) := by decide +kernel
theorem dX2_addEdge_24 : decode cX2_addEdge 24 = .ok (.aload_n 0, 1) := by decide +kernel
theorem dX2_addEdge_25 : decode cX2_addEdge 25 = .ok (.getfield 29, 3) := by decide +kernel
theorem dX2_addEdge_28 : decode cX2_addEdge 28 = .ok (.iload_n 3, 1) := by decide +kernel
theorem dX2_addEdge_29 : decode cX2_addEdge 29 = .ok (.iastore, 1) := by decide +kernel
theorem dX2_addEdge_30 : decode cX2_addEdge 30 = .ok (.aload_n 0, 1) := by decide +kernel
theorem dX2_addEdge_31 : decode cX2_addEdge 31 = .ok (.dup, 1) := by decide +kernel
theorem dX2_addEdge_32 : decode cX2_addEdge 32 = .ok (.getfield 29, 3) := by decide +kernel
theorem dX2_addEdge_35 : decode cX2_addEdge 35 = .ok (.iconst 1, 1) := by decide +kernel
theorem dX2_addEdge_36 : decode cX2_addEdge 36 = .ok (.iadd, 1) := by decide +kernel
theorem dX2_addEdge_37 : decode cX2_addEdge 37 = .ok (.putfield 29, 3) := by decide +kernel
theorem dX2_addEdge_40 : decode cX2_addEdge 40 = .ok (.return_, 1) := by decide +kernel
theorem dX2_removeLastEdge_0 : decode cX2_removeLastEdge 0 = .ok (.aload_n 0, 1) := by decide +kernel
theorem dX2_removeLastEdge_1 : decode cX2_removeLastEdge 1 = .ok (.getfield 29, 3) := by decide +kernel
theorem dX2_removeLastEdge_4 : decode cX2_removeLastEdge 4 = .ok (.ifCond .le 13, 3) := by decide +kernel
theorem dX2_removeLastEdge_7 : decode cX2_removeLastEdge 7 = .ok (.aload_n 0, 1) := by decide +kernel
theorem dX2_removeLastEdge_8 : decode cX2_removeLastEdge 8 = .ok (.dup, 1) := by decide +kernel
theorem dX2_removeLastEdge_9 : decode cX2_removeLastEdge 9 = .ok (.getfield 29, 3) := by decide +kernel
theorem dX2_removeLastEdge_12 : decode cX2_removeLastEdge 12 = .ok (.iconst 1, 1) := by decide +kernel
theorem dX2_removeLastEdge_13 : decode cX2_removeLastEdge 13 = .ok (.isub, 1) := by decide +kernel
theorem dX2_removeLastEdge_14 : decode cX2_removeLastEdge 14 = .ok (.putfield 29, 3) := by decide +kernel
theorem dX2_removeLastEdge_17 : decode cX2_removeLastEdge 17 = .ok (.return_, 1) := by decide +kernel
theorem dX2_isStepFrom_0 : decode cX2_isStepFrom 0 = .ok (.iload_n 1, 1) := by decide +kernel
theorem dX2_isStepFrom_1 : decode cX2_isStepFrom 1 = .ok (.iconst 1, 1) := by decide +kernel
theorem dX2_isStepFrom_2 : decode cX2_isStepFrom 2 = .ok (.ishr, 1) := by decide +kernel
theorem dX2_isStepFrom_3 : decode cX2_isStepFrom 3 = .ok (.istore_n 3, 1) := by decide +kernel
theorem dX2_isStepFrom_4 : decode cX2_isStepFrom 4 = .ok (.iload_n 3, 1) := by decide +kernel
theorem dX2_isStepFrom_5 : decode cX2_isStepFrom 5 = .ok (.ifCond .lt 11, 3) := by decide +kernel
theorem dX2_isStepFrom_8 : decode cX2_isStepFrom 8 = .ok (.iload_n 3, 1) := by decide +kernel
theorem dX2_isStepFrom_9 : decode cX2_isStepFrom 9 = .ok (.aload_n 0, 1) := by decide +kernel
theorem dX2_isStepFrom_10 : decode cX2_isStepFrom 10 = .ok (.getfield 29, 3) := by decide +kernel
theorem dX2_isStepFrom_13 : decode cX2_isStepFrom 13 = .ok (.if_icmp .lt 5, 3) := by decide +kernel
theorem dX2_isStepFrom_16 : decode cX2_isStepFrom 16 = .ok (.iconst 0, 1) := by decide +kernel
theorem dX2_isStepFrom_17 : decode cX2_isStepFrom 17 = .ok (.ireturn, 1) := by decide +kernel
theorem dX2_isStepFrom_18 : decode cX2_isStepFrom 18 = .ok (.iload_n 1, 1) := by decide +kernel
theorem dX2_isStepFrom_19 : decode cX2_isStepFrom 19 = .ok (.iconst 1, 1) := by decide +kernel
theorem dX2_isStepFrom_20 : decode cX2_isStepFrom 20 = .ok (.iand, 1) := by decide +kernel
theorem dX2_isStepFrom_21 : decode cX2_isStepFrom 21 = .ok (.ifCond .ne 19, 3) := by decide +kernel
theorem dX2_isStepFrom_24 : decode cX2_isStepFrom 24 = .ok (.aload_n 0, 1) := by decide +kernel
theorem dX2_isStepFrom_25 : decode cX2_isStepFrom 25 = .ok (.getfield 9, 3) := by decide +kernel
theorem dX2_isStepFrom_28 : decode cX2_isStepFrom 28 = .ok (.iload_n 3, 1) := by decide +kernel
theorem dX2_isStepFrom_29 : decode cX2_isStepFrom 29 = .ok (.iaload, 1) := by decide +kernel
theorem dX2_isStepFrom_30 : decode cX2_isStepFrom 30 = .ok (.iload_n 2, 1) := by decide +kernel
theorem dX2_isStepFrom_31 : decode cX2_isStepFrom 31 = .ok (.if_icmp .ne 7, 3) := by decide +kernel
theorem dX2_isStepFrom_34 : decode cX2_isStepFrom 34 = .ok (.iconst 1, 1) := by decide +kernel
theorem dX2_isStepFrom_35 : decode cX2_isStepFrom 35 = .ok (.goto 4, 3) := by decide +kernel
theorem dX2_isStepFrom_38 : decode cX2_isStepFrom 38 = .ok (.iconst 0, 1) := by decide +kernel
theorem dX2_isStepFrom_39 : decode cX2_isStepFrom 39 = .ok (.ireturn, 1) := by decide +kernel
theorem dX2_isStepFrom_40 : decode cX2_isStepFrom 40 = .ok (.aload_n 0, 1) := by decide +kernel
theorem dX2_isStepFrom_41 : decode cX2_isStepFrom 41 = .ok (.getfield 21, 3) := by decide +kernel
theorem dX2_isStepFrom_44 : decode cX2_isStepFrom 44 = .ok (.ifCond .ne 32, 3) := by decide +kernel
theorem dX2_isStepFrom_47 : decode cX2_isStepFrom 47 = .ok (.aload_n 0, 1) := by decide +kernel
theorem dX2_isStepFrom_48 : decode cX2_isStepFrom 48 = .ok (.getfield 9, 3) := by decide +kernel
theorem dX2_isStepFrom_51 : decode cX2_isStepFrom 51 = .ok (.iload_n 3, 1) := by decide +kernel
theorem dX2_isStepFrom_52 : decode cX2_isStepFrom 52 = .ok (.iaload, 1) := by decide +kernel
theorem dX2_isStepFrom_53 : decode cX2_isStepFrom 53 = .ok (.aload_n 0, 1) := by decide +kernel
theorem dX2_isStepFrom_54 : decode cX2_isStepFrom 54 = .ok (.getfield 15, 3) := by decide +kernel
theorem dX2_isStepFrom_57 : decode cX2_isStepFrom 57 = .ok (.iload_n 3, 1) := by decide +kernel
theorem dX2_isStepFrom_58 : decode cX2_isStepFrom 58 = .ok (.iaload, 1) := by decide +kernel
theorem dX2_isStepFrom_59 : decode cX2_isStepFrom 59 = .ok (.if_icmp .eq 17, 3) := by decide +kernel
theorem dX2_isStepFrom_62 : decode cX2_isStepFrom 62 = .ok (.aload_n 0, 1) := by decide +kernel
theorem dX2_isStepFrom_63 : decode cX2_isStepFrom 63 = .ok (.getfield 15, 3) := by decide +kernel
theorem dX2_isStepFrom_66 : decode cX2_isStepFrom 66 = .ok (.iload_n 3, 1) := by decide +kernel
theorem dX2_isStepFrom_67 : decode cX2_isStepFrom 67 = .ok (.iaload, 1) := by decide +kernel
theorem dX2_isStepFrom_68 : decode cX2_isStepFrom 68 = .ok (.iload_n 2, 1) := by decide +kernel
theorem dX2_isStepFrom_69 : decode cX2_isStepFrom 69 = .ok (.if_icmp .ne 7, 3) := by decide +kernel
theorem dX2_isStepFrom_72 : decode cX2_isStepFrom 72 = .ok (.iconst 1, 1) := by decide +kernel
theorem dX2_isStepFrom_73 : decode cX2_isStepFrom 73 = .ok (.goto 4, 3) := by decide +kernel
theorem dX2_isStepFrom_76 : decode cX2_isStepFrom 76 = .ok (.iconst 0, 1) := by decide +kernel
theorem dX2_isStepFrom_77 : decode cX2_isStepFrom 77 = .ok (.ireturn, 1) := by decide +kernel
theorem dX2_endOf_0 : decode cX2_endOf 0 = .ok (.iload_n 1, 1) := by decide +kernel
theorem dX2_endOf_1 : decode cX2_endOf 1 = .ok (.iconst 1, 1) := by decide +kernel
theorem dX2_endOf_2 : decode cX2_endOf 2 = .ok (.iand, 1) := by decide +kernel
theorem dX2_endOf_3 : decode cX2_endOf 3 = .ok (.ifCond .ne 14, 3) := by decide +kernel
theorem dX2_endOf_6 : decode cX2_endOf 6 = .ok (.aload_n 0, 1) := by decide +kernel
theorem dX2_endOf_7 : decode cX2_endOf 7 = .ok (.getfield 15, 3) := by decide +kernel
theorem dX2_endOf_10 : decode cX2_endOf 10 = .ok (.iload_n 1, 1) := by decide +kernel
theorem dX2_endOf_11 : decode cX2_endOf 11 = .ok (.iconst 1, 1) := by decide +kernel
theorem dX2_endOf_12 : decode cX2_endOf 12 = .ok (.ishr, 1) := by decide +kernel
theorem dX2_endOf_13 : decode cX2_endOf 13 = .ok (.iaload, 1) := by decide +kernel
theorem dX2_endOf_14 : decode cX2_endOf 14 = .ok (.goto 11, 3) := by decide +kernel
theorem dX2_endOf_17 : decode cX2_endOf 17 = .ok (.aload_n 0, 1) := by decide +kernel
theorem dX2_endOf_18 : decode cX2_endOf 18 = .ok (.getfield 9, 3) := by decide +kernel
theorem dX2_endOf_21 : decode cX2_endOf 21 = .ok (.iload_n 1, 1) := by decide +kernel
theorem dX2_endOf_22 : decode cX2_endOf 22 = .ok (.iconst 1, 1) := by decide +kernel
theorem dX2_endOf_23 : decode cX2_endOf 23 = .ok (.ishr, 1) := by decide +kernel
theorem dX2_endOf_24 : decode cX2_endOf 24 = .ok (.iaload, 1) := by decide +kernel
theorem dX2_endOf_25 : decode cX2_endOf 25 = .ok (.ireturn, 1) := by decide +kernel
theorem dX2_surplusAt_0 : decode cX2_surplusAt 0 = .ok (.iconst 0, 1) := by decide +kernel
theorem dX2_surplusAt_1 : decode cX2_surplusAt 1 = .ok (.istore_n 2, 1) := by decide +kernel
theorem dX2_surplusAt_2 : decode cX2_surplusAt 2 = .ok (.iconst 0, 1) := by decide +kernel
theorem dX2_surplusAt_3 : decode cX2_surplusAt 3 = .ok (.istore_n 3, 1) := by decide +kernel
theorem dX2_surplusAt_4 : decode cX2_surplusAt 4 = .ok (.iload_n 3, 1) := by decide +kernel
theorem dX2_surplusAt_5 : decode cX2_surplusAt 5 = .ok (.aload_n 0, 1) := by decide +kernel
theorem dX2_surplusAt_6 : decode cX2_surplusAt 6 = .ok (.getfield 29, 3) := by decide +kernel
theorem dX2_surplusAt_9 : decode cX2_surplusAt 9 = .ok (.if_icmp .ge 43, 3) := by decide +kernel
theorem dX2_surplusAt_12 : decode cX2_surplusAt 12 = .ok (.iload_n 2, 1) := by decide +kernel
theorem dX2_surplusAt_13 : decode cX2_surplusAt 13 = .ok (.aload_n 0, 1) := by decide +kernel
theorem dX2_surplusAt_14 : decode cX2_surplusAt 14 = .ok (.getfield 15, 3) := by decide +kernel
theorem dX2_surplusAt_17 : decode cX2_surplusAt 17 = .ok (.iload_n 3, 1) := by decide +kernel
theorem dX2_surplusAt_18 : decode cX2_surplusAt 18 = .ok (.iaload, 1) := by decide +kernel
theorem dX2_surplusAt_19 : decode cX2_surplusAt 19 = .ok (.iload_n 1, 1) := by decide +kernel
theorem dX2_surplusAt_20 : decode cX2_surplusAt 20 = .ok (.if_icmp .ne 7, 3) := by decide +kernel
theorem dX2_surplusAt_23 : decode cX2_surplusAt 23 = .ok (.iconst 1, 1) := by decide +kernel
theorem dX2_surplusAt_24 : decode cX2_surplusAt 24 = .ok (.goto 4, 3) := by decide +kernel
theorem dX2_surplusAt_27 : decode cX2_surplusAt 27 = .ok (.iconst 0, 1) := by decide +kernel
theorem dX2_surplusAt_28 : decode cX2_surplusAt 28 = .ok (.aload_n 0, 1) := by decide +kernel
theorem dX2_surplusAt_29 : decode cX2_surplusAt 29 = .ok (.getfield 9, 3) := by decide +kernel
theorem dX2_surplusAt_32 : decode cX2_surplusAt 32 = .ok (.iload_n 3, 1) := by decide +kernel
theorem dX2_surplusAt_33 : decode cX2_surplusAt 33 = .ok (.iaload, 1) := by decide +kernel
theorem dX2_surplusAt_34 : decode cX2_surplusAt 34 = .ok (.iload_n 1, 1) := by decide +kernel
theorem dX2_surplusAt_35 : decode cX2_surplusAt 35 = .ok (.if_icmp .ne 7, 3) := by decide +kernel
theorem dX2_surplusAt_38 : decode cX2_surplusAt 38 = .ok (.iconst 1, 1) := by decide +kernel
theorem dX2_surplusAt_39 : decode cX2_surplusAt 39 = .ok (.goto 4, 3) := by decide +kernel
theorem dX2_surplusAt_42 : decode cX2_surplusAt 42 = .ok (.iconst 0, 1) := by decide +kernel
theorem dX2_surplusAt_43 : decode cX2_surplusAt 43 = .ok (.isub, 1) := by decide +kernel
theorem dX2_surplusAt_44 : decode cX2_surplusAt 44 = .ok (.iadd, 1) := by decide +kernel
theorem dX2_surplusAt_45 : decode cX2_surplusAt 45 = .ok (.istore_n 2, 1) := by decide +kernel
theorem dX2_surplusAt_46 : decode cX2_surplusAt 46 = .ok (.iinc 3 1, 3) := by decide +kernel
theorem dX2_surplusAt_49 : decode cX2_surplusAt 49 = .ok (.goto (-45), 3) := by decide +kernel
theorem dX2_surplusAt_52 : decode cX2_surplusAt 52 = .ok (.iload_n 2, 1) := by decide +kernel
theorem dX2_surplusAt_53 : decode cX2_surplusAt 53 = .ok (.ireturn, 1) := by decide +kernel
theorem dX2_oddVertices_0 : decode cX2_oddVertices 0 = .ok (.iconst 0, 1) := by decide +kernel
theorem dX2_oddVertices_1 : decode cX2_oddVertices 1 = .ok (.istore_n 1, 1) := by decide +kernel
theorem dX2_oddVertices_2 : decode cX2_oddVertices 2 = .ok (.iconst 0, 1) := by decide +kernel
theorem dX2_oddVertices_3 : decode cX2_oddVertices 3 = .ok (.istore_n 2, 1) := by decide +kernel
theorem dX2_oddVertices_4 : decode cX2_oddVertices 4 = .ok (.iload_n 2, 1) := by decide +kernel
theorem dX2_oddVertices_5 : decode cX2_oddVertices 5 = .ok (.aload_n 0, 1) := by decide +kernel
theorem dX2_oddVertices_6 : decode cX2_oddVertices 6 = .ok (.getfield 25, 3) := by decide +kernel
theorem dX2_oddVertices_9 : decode cX2_oddVertices 9 = .ok (.if_icmp .ge 42, 3) := by decide +kernel
theorem dX2_oddVertices_12 : decode cX2_oddVertices 12 = .ok (.aload_n 0, 1) := by decide +kernel
theorem dX2_oddVertices_13 : decode cX2_oddVertices 13 = .ok (.iload_n 2, 1) := by decide +kernel
theorem dX2_oddVertices_14 : decode cX2_oddVertices 14 = .ok (.invokevirtual 32, 3) := by decide +kernel
theorem dX2_oddVertices_17 : decode cX2_oddVertices 17 = .ok (.istore_n 3, 1) := by decide +kernel
theorem dX2_oddVertices_18 : decode cX2_oddVertices 18 = .ok (.aload_n 0, 1) := by decide +kernel
theorem dX2_oddVertices_19 : decode cX2_oddVertices 19 = .ok (.getfield 21, 3) := by decide +kernel
theorem dX2_oddVertices_22 : decode cX2_oddVertices 22 = .ok (.ifCond .eq 10, 3) := by decide +kernel
theorem dX2_oddVertices_25 : decode cX2_oddVertices 25 = .ok (.iload_n 3, 1) := by decide +kernel
theorem dX2_oddVertices_26 : decode cX2_oddVertices 26 = .ok (.ifCond .eq 19, 3) := by decide +kernel
theorem dX2_oddVertices_29 : decode cX2_oddVertices 29 = .ok (.goto 10, 3) := by decide +kernel
theorem dX2_oddVertices_32 : decode cX2_oddVertices 32 = .ok (.iload_n 3, 1) := by decide +kernel
theorem dX2_oddVertices_33 : decode cX2_oddVertices 33 = .ok (.iconst 1, 1) := by decide +kernel
theorem dX2_oddVertices_34 : decode cX2_oddVertices 34 = .ok (.iand, 1) := by decide +kernel
theorem dX2_oddVertices_35 : decode cX2_oddVertices 35 = .ok (.iconst 1, 1) := by decide +kernel
theorem dX2_oddVertices_36 : decode cX2_oddVertices 36 = .ok (.if_icmp .ne 9, 3) := by decide +kernel
theorem dX2_oddVertices_39 : decode cX2_oddVertices 39 = .ok (.iload_n 1, 1) := by decide +kernel
theorem dX2_oddVertices_40 : decode cX2_oddVertices 40 = .ok (.iconst 1, 1) := by decide +kernel
theorem dX2_oddVertices_41 : decode cX2_oddVertices 41 = .ok (.iload_n 2, 1) := by decide +kernel
theorem dX2_oddVertices_42 : decode cX2_oddVertices 42 = .ok (.ishl, 1) := by decide +kernel
theorem dX2_oddVertices_43 : decode cX2_oddVertices 43 = .ok (.ior, 1) := by decide +kernel
theorem dX2_oddVertices_44 : decode cX2_oddVertices 44 = .ok (.istore_n 1, 1) := by decide +kernel
theorem dX2_oddVertices_45 : decode cX2_oddVertices 45 = .ok (.iinc 2 1, 3) := by decide +kernel
theorem dX2_oddVertices_48 : decode cX2_oddVertices 48 = .ok (.goto (-44), 3) := by decide +kernel
theorem dX2_oddVertices_51 : decode cX2_oddVertices 51 = .ok (.iload_n 1, 1) := by decide +kernel
theorem dX2_oddVertices_52 : decode cX2_oddVertices 52 = .ok (.ireturn, 1) := by decide +kernel
theorem dX2_touchedBy_0 : decode cX2_touchedBy 0 = .ok (.iconst 0, 1) := by decide +kernel
theorem dX2_touchedBy_1 : decode cX2_touchedBy 1 = .ok (.istore_n 2, 1) := by decide +kernel
theorem dX2_touchedBy_2 : decode cX2_touchedBy 2 = .ok (.iconst 0, 1) := by decide +kernel
theorem dX2_touchedBy_3 : decode cX2_touchedBy 3 = .ok (.istore_n 3, 1) := by decide +kernel
theorem dX2_touchedBy_4 : decode cX2_touchedBy 4 = .ok (.iload_n 3, 1) := by decide +kernel
theorem dX2_touchedBy_5 : decode cX2_touchedBy 5 = .ok (.aload_n 0, 1) := by decide +kernel
theorem dX2_touchedBy_6 : decode cX2_touchedBy 6 = .ok (.getfield 29, 3) := by decide +kernel
theorem dX2_touchedBy_9 : decode cX2_touchedBy 9 = .ok (.if_icmp .ge 35, 3) := by decide +kernel
theorem dX2_touchedBy_12 : decode cX2_touchedBy 12 = .ok (.aload_n 1, 1) := by decide +kernel
theorem dX2_touchedBy_13 : decode cX2_touchedBy 13 = .ok (.iload_n 3, 1) := by decide +kernel
theorem dX2_touchedBy_14 : decode cX2_touchedBy 14 = .ok (.iaload, 1) := by decide +kernel
theorem dX2_touchedBy_15 : decode cX2_touchedBy 15 = .ok (.ifCond .le 23, 3) := by decide +kernel
theorem dX2_touchedBy_18 : decode cX2_touchedBy 18 = .ok (.iload_n 2, 1) := by decide +kernel
theorem dX2_touchedBy_19 : decode cX2_touchedBy 19 = .ok (.iconst 1, 1) := by decide +kernel
theorem dX2_touchedBy_20 : decode cX2_touchedBy 20 = .ok (.aload_n 0, 1) := by decide +kernel
theorem dX2_touchedBy_21 : decode cX2_touchedBy 21 = .ok (.getfield 9, 3) := by decide +kernel
theorem dX2_touchedBy_24 : decode cX2_touchedBy 24 = .ok (.iload_n 3, 1) := by decide +kernel
theorem dX2_touchedBy_25 : decode cX2_touchedBy 25 = .ok (.iaload, 1) := by decide +kernel
theorem dX2_touchedBy_26 : decode cX2_touchedBy 26 = .ok (.ishl, 1) := by decide +kernel
theorem dX2_touchedBy_27 : decode cX2_touchedBy 27 = .ok (.iconst 1, 1) := by decide +kernel
theorem dX2_touchedBy_28 : decode cX2_touchedBy 28 = .ok (.aload_n 0, 1) := by decide +kernel
theorem dX2_touchedBy_29 : decode cX2_touchedBy 29 = .ok (.getfield 15, 3) := by decide +kernel
theorem dX2_touchedBy_32 : decode cX2_touchedBy 32 = .ok (.iload_n 3, 1) := by decide +kernel
theorem dX2_touchedBy_33 : decode cX2_touchedBy 33 = .ok (.iaload, 1) := by decide +kernel
theorem dX2_touchedBy_34 : decode cX2_touchedBy 34 = .ok (.ishl, 1) := by decide +kernel
theorem dX2_touchedBy_35 : decode cX2_touchedBy 35 = .ok (.ior, 1) := by decide +kernel
theorem dX2_touchedBy_36 : decode cX2_touchedBy 36 = .ok (.ior, 1) := by decide +kernel
theorem dX2_touchedBy_37 : decode cX2_touchedBy 37 = .ok (.istore_n 2, 1) := by decide +kernel
theorem dX2_touchedBy_38 : decode cX2_touchedBy 38 = .ok (.iinc 3 1, 3) := by decide +kernel
theorem dX2_touchedBy_41 : decode cX2_touchedBy 41 = .ok (.goto (-37), 3) := by decide +kernel
theorem dX2_touchedBy_44 : decode cX2_touchedBy 44 = .ok (.iload_n 2, 1) := by decide +kernel
theorem dX2_touchedBy_45 : decode cX2_touchedBy 45 = .ok (.ireturn, 1) := by decide +kernel
theorem dX2_reachOf_0 : decode cX2_reachOf 0 = .ok (.iconst 1, 1) := by decide +kernel
theorem dX2_reachOf_1 : decode cX2_reachOf 1 = .ok (.iload_n 1, 1) := by decide +kernel
theorem dX2_reachOf_2 : decode cX2_reachOf 2 = .ok (.ishl, 1) := by decide +kernel
theorem dX2_reachOf_3 : decode cX2_reachOf 3 = .ok (.istore 5, 2) := by decide +kernel
theorem dX2_reachOf_5 : decode cX2_reachOf 5 = .ok (.iconst 0, 1) := by decide +kernel
theorem dX2_reachOf_6 : decode cX2_reachOf 6 = .ok (.istore 6, 2) := by decide +kernel
theorem dX2_reachOf_8 : decode cX2_reachOf 8 = .ok (.iload 6, 2) := by decide +kernel
theorem dX2_reachOf_10 : decode cX2_reachOf 10 = .ok (.bipush 16, 2) := by decide +kernel
theorem dX2_reachOf_12 : decode cX2_reachOf 12 = .ok (.if_icmp .ge 117, 3) := by decide +kernel
theorem dX2_reachOf_15 : decode cX2_reachOf 15 = .ok (.iload 5, 2) := by decide +kernel
theorem dX2_reachOf_17 : decode cX2_reachOf 17 = .ok (.istore 7, 2) := by decide +kernel
theorem dX2_reachOf_19 : decode cX2_reachOf 19 = .ok (.iconst 0, 1) := by decide +kernel
theorem dX2_reachOf_20 : decode cX2_reachOf 20 = .ok (.istore 8, 2) := by decide +kernel
theorem dX2_reachOf_22 : decode cX2_reachOf 22 = .ok (.iload 8, 2) := by decide +kernel
theorem dX2_reachOf_24 : decode cX2_reachOf 24 = .ok (.aload_n 0, 1) := by decide +kernel
theorem dX2_reachOf_25 : decode cX2_reachOf 25 = .ok (.getfield 29, 3) := by decide +kernel
theorem dX2_reachOf_28 : decode cX2_reachOf 28 = .ok (.if_icmp .ge 85, 3) := by decide +kernel
theorem dX2_reachOf_31 : decode cX2_reachOf 31 = .ok (.aload 4, 2) := by decide +kernel
theorem dX2_reachOf_33 : decode cX2_reachOf 33 = .ok (.iload 8, 2) := by decide +kernel
theorem dX2_reachOf_35 : decode cX2_reachOf 35 = .ok (.iaload, 1) := by decide +kernel
theorem dX2_reachOf_36 : decode cX2_reachOf 36 = .ok (.ifCond .le 71, 3) := by decide +kernel
theorem dX2_reachOf_39 : decode cX2_reachOf 39 = .ok (.iload_n 2, 1) := by decide +kernel
theorem dX2_reachOf_40 : decode cX2_reachOf 40 = .ok (.ifCond .eq 33, 3) := by decide +kernel
theorem dX2_reachOf_43 : decode cX2_reachOf 43 = .ok (.iload 5, 2) := by decide +kernel
theorem dX2_reachOf_45 : decode cX2_reachOf 45 = .ok (.aload_n 0, 1) := by decide +kernel
theorem dX2_reachOf_46 : decode cX2_reachOf 46 = .ok (.getfield 9, 3) := by decide +kernel
theorem dX2_reachOf_49 : decode cX2_reachOf 49 = .ok (.iload 8, 2) := by decide +kernel
theorem dX2_reachOf_51 : decode cX2_reachOf 51 = .ok (.iaload, 1) := by decide +kernel
theorem dX2_reachOf_52 : decode cX2_reachOf 52 = .ok (.ishr, 1) := by decide +kernel
theorem dX2_reachOf_53 : decode cX2_reachOf 53 = .ok (.iconst 1, 1) := by decide +kernel
theorem dX2_reachOf_54 : decode cX2_reachOf 54 = .ok (.iand, 1) := by decide +kernel
theorem dX2_reachOf_55 : decode cX2_reachOf 55 = .ok (.iconst 1, 1) := by decide +kernel
theorem dX2_reachOf_56 : decode cX2_reachOf 56 = .ok (.if_icmp .ne 17, 3) := by decide +kernel
theorem dX2_reachOf_59 : decode cX2_reachOf 59 = .ok (.iload 5, 2) := by decide +kernel
theorem dX2_reachOf_61 : decode cX2_reachOf 61 = .ok (.iconst 1, 1) := by decide +kernel
theorem dX2_reachOf_62 : decode cX2_reachOf 62 = .ok (.aload_n 0, 1) := by decide +kernel
theorem dX2_reachOf_63 : decode cX2_reachOf 63 = .ok (.getfield 15, 3) := by decide +kernel
theorem dX2_reachOf_66 : decode cX2_reachOf 66 = .ok (.iload 8, 2) := by decide +kernel
theorem dX2_reachOf_68 : decode cX2_reachOf 68 = .ok (.iaload, 1) := by decide +kernel
theorem dX2_reachOf_69 : decode cX2_reachOf 69 = .ok (.ishl, 1) := by decide +kernel
theorem dX2_reachOf_70 : decode cX2_reachOf 70 = .ok (.ior, 1) := by decide +kernel
theorem dX2_reachOf_71 : decode cX2_reachOf 71 = .ok (.istore 5, 2) := by decide +kernel
theorem dX2_reachOf_73 : decode cX2_reachOf 73 = .ok (.iload_n 3, 1) := by decide +kernel
theorem dX2_reachOf_74 : decode cX2_reachOf 74 = .ok (.ifCond .eq 33, 3) := by decide +kernel
theorem dX2_reachOf_77 : decode cX2_reachOf 77 = .ok (.iload 5, 2) := by decide +kernel
theorem dX2_reachOf_79 : decode cX2_reachOf 79 = .ok (.aload_n 0, 1) := by decide +kernel
theorem dX2_reachOf_80 : decode cX2_reachOf 80 = .ok (.getfield 15, 3) := by decide +kernel
theorem dX2_reachOf_83 : decode cX2_reachOf 83 = .ok (.iload 8, 2) := by decide +kernel
theorem dX2_reachOf_85 : decode cX2_reachOf 85 = .ok (.iaload, 1) := by decide +kernel
theorem dX2_reachOf_86 : decode cX2_reachOf 86 = .ok (.ishr, 1) := by decide +kernel
theorem dX2_reachOf_87 : decode cX2_reachOf 87 = .ok (.iconst 1, 1) := by decide +kernel
theorem dX2_reachOf_88 : decode cX2_reachOf 88 = .ok (.iand, 1) := by decide +kernel
theorem dX2_reachOf_89 : decode cX2_reachOf 89 = .ok (.iconst 1, 1) := by decide +kernel
theorem dX2_reachOf_90 : decode cX2_reachOf 90 = .ok (.if_icmp .ne 17, 3) := by decide +kernel
theorem dX2_reachOf_93 : decode cX2_reachOf 93 = .ok (.iload 5, 2) := by decide +kernel
theorem dX2_reachOf_95 : decode cX2_reachOf 95 = .ok (.iconst 1, 1) := by decide +kernel
theorem dX2_reachOf_96 : decode cX2_reachOf 96 = .ok (.aload_n 0, 1) := by decide +kernel
theorem dX2_reachOf_97 : decode cX2_reachOf 97 = .ok (.getfield 9, 3) := by decide +kernel
theorem dX2_reachOf_100 : decode cX2_reachOf 100 = .ok (.iload 8, 2) := by decide +kernel
theorem dX2_reachOf_102 : decode cX2_reachOf 102 = .ok (.iaload, 1) := by decide +kernel
theorem dX2_reachOf_103 : decode cX2_reachOf 103 = .ok (.ishl, 1) := by decide +kernel
theorem dX2_reachOf_104 : decode cX2_reachOf 104 = .ok (.ior, 1) := by decide +kernel
theorem dX2_reachOf_105 : decode cX2_reachOf 105 = .ok (.istore 5, 2) := by decide +kernel
theorem dX2_reachOf_107 : decode cX2_reachOf 107 = .ok (.iinc 8 1, 3) := by decide +kernel
theorem dX2_reachOf_110 : decode cX2_reachOf 110 = .ok (.goto (-88), 3) := by decide +kernel
theorem dX2_reachOf_113 : decode cX2_reachOf 113 = .ok (.iload 5, 2) := by decide +kernel
theorem dX2_reachOf_115 : decode cX2_reachOf 115 = .ok (.iload 7, 2) := by decide +kernel
theorem dX2_reachOf_117 : decode cX2_reachOf 117 = .ok (.if_icmp .ne 6, 3) := by decide +kernel
theorem dX2_reachOf_120 : decode cX2_reachOf 120 = .ok (.goto 9, 3) := by decide +kernel
theorem dX2_reachOf_123 : decode cX2_reachOf 123 = .ok (.iinc 6 1, 3) := by decide +kernel
theorem dX2_reachOf_126 : decode cX2_reachOf 126 = .ok (.goto (-118), 3) := by decide +kernel
theorem dX2_reachOf_129 : decode cX2_reachOf 129 = .ok (.iload 5, 2) := by decide +kernel
theorem dX2_reachOf_131 : decode cX2_reachOf 131 = .ok (.ireturn, 1) := by decide +kernel
theorem dX2_hangsTogetherAt_0 : decode cX2_hangsTogetherAt 0 = .ok (.aload_n 0, 1) := by decide +kernel
theorem dX2_hangsTogetherAt_1 : decode cX2_hangsTogetherAt 1 = .ok (.aload_n 2, 1) := by decide +kernel
theorem dX2_hangsTogetherAt_2 : decode cX2_hangsTogetherAt 2 = .ok (.invokevirtual 36, 3) := by decide +kernel
theorem dX2_hangsTogetherAt_5 : decode cX2_hangsTogetherAt 5 = .ok (.aload_n 0, 1) := by decide +kernel
theorem dX2_hangsTogetherAt_6 : decode cX2_hangsTogetherAt 6 = .ok (.iload_n 1, 1) := by decide +kernel
theorem dX2_hangsTogetherAt_7 : decode cX2_hangsTogetherAt 7 = .ok (.iconst 1, 1) := by decide +kernel
theorem dX2_hangsTogetherAt_8 : decode cX2_hangsTogetherAt 8 = .ok (.iconst 1, 1) := by decide +kernel
theorem dX2_hangsTogetherAt_9 : decode cX2_hangsTogetherAt 9 = .ok (.aload_n 2, 1) := by decide +kernel
theorem dX2_hangsTogetherAt_10 : decode cX2_hangsTogetherAt 10 = .ok (.invokevirtual 40, 3) := by decide +kernel
theorem dX2_hangsTogetherAt_13 : decode cX2_hangsTogetherAt 13 = .ok (.iconst (-1), 1) := by decide +kernel
theorem dX2_hangsTogetherAt_14 : decode cX2_hangsTogetherAt 14 = .ok (.ixor, 1) := by decide +kernel
theorem dX2_hangsTogetherAt_15 : decode cX2_hangsTogetherAt 15 = .ok (.iand, 1) := by decide +kernel
theorem dX2_hangsTogetherAt_16 : decode cX2_hangsTogetherAt 16 = .ok (.ifCond .ne 7, 3) := by decide +kernel
theorem dX2_hangsTogetherAt_19 : decode cX2_hangsTogetherAt 19 = .ok (.iconst 1, 1) := by decide +kernel
theorem dX2_hangsTogetherAt_20 : decode cX2_hangsTogetherAt 20 = .ok (.goto 4, 3) := by decide +kernel
theorem dX2_hangsTogetherAt_23 : decode cX2_hangsTogetherAt 23 = .ok (.iconst 0, 1) := by decide +kernel
theorem dX2_hangsTogetherAt_24 : decode cX2_hangsTogetherAt 24 = .ok (.ireturn, 1) := by decide +kernel
theorem dX2_canBeCoveredFrom_0 : decode cX2_canBeCoveredFrom 0 = .ok (.aload_n 0, 1) := by decide +kernel
theorem dX2_canBeCoveredFrom_1 : decode cX2_canBeCoveredFrom 1 = .ok (.aload_n 2, 1) := by decide +kernel
theorem dX2_canBeCoveredFrom_2 : decode cX2_canBeCoveredFrom 2 = .ok (.invokevirtual 36, 3) := by decide +kernel
theorem dX2_canBeCoveredFrom_5 : decode cX2_canBeCoveredFrom 5 = .ok (.istore_n 3, 1) := by decide +kernel
theorem dX2_canBeCoveredFrom_6 : decode cX2_canBeCoveredFrom 6 = .ok (.iload_n 3, 1) := by decide +kernel
theorem dX2_canBeCoveredFrom_7 : decode cX2_canBeCoveredFrom 7 = .ok (.aload_n 0, 1) := by decide +kernel
theorem dX2_canBeCoveredFrom_8 : decode cX2_canBeCoveredFrom 8 = .ok (.iload_n 1, 1) := by decide +kernel
theorem dX2_canBeCoveredFrom_9 : decode cX2_canBeCoveredFrom 9 = .ok (.iconst 1, 1) := by decide +kernel
theorem dX2_canBeCoveredFrom_10 : decode cX2_canBeCoveredFrom 10 = .ok (.aload_n 0, 1) := by decide +kernel
theorem dX2_canBeCoveredFrom_11 : decode cX2_canBeCoveredFrom 11 = .ok (.getfield 21, 3) := by decide +kernel
theorem dX2_canBeCoveredFrom_14 : decode cX2_canBeCoveredFrom 14 = .ok (.ifCond .ne 7, 3) := by decide +kernel
theorem dX2_canBeCoveredFrom_17 : decode cX2_canBeCoveredFrom 17 = .ok (.iconst 1, 1) := by decide +kernel
theorem dX2_canBeCoveredFrom_18 : decode cX2_canBeCoveredFrom 18 = .ok (.goto 4, 3) := by decide +kernel
theorem dX2_canBeCoveredFrom_21 : decode cX2_canBeCoveredFrom 21 = .ok (.iconst 0, 1) := by decide +kernel
theorem dX2_canBeCoveredFrom_22 : decode cX2_canBeCoveredFrom 22 = .ok (.aload_n 2, 1) := by decide +kernel
theorem dX2_canBeCoveredFrom_23 : decode cX2_canBeCoveredFrom 23 = .ok (.invokevirtual 40, 3) := by decide +kernel
theorem dX2_canBeCoveredFrom_26 : decode cX2_canBeCoveredFrom 26 = .ok (.iconst (-1), 1) := by decide +kernel
theorem dX2_canBeCoveredFrom_27 : decode cX2_canBeCoveredFrom 27 = .ok (.ixor, 1) := by decide +kernel
theorem dX2_canBeCoveredFrom_28 : decode cX2_canBeCoveredFrom 28 = .ok (.iand, 1) := by decide +kernel
theorem dX2_canBeCoveredFrom_29 : decode cX2_canBeCoveredFrom 29 = .ok (.ifCond .ne 33, 3) := by decide +kernel
theorem dX2_canBeCoveredFrom_32 : decode cX2_canBeCoveredFrom 32 = .ok (.iload_n 3, 1) := by decide +kernel
theorem dX2_canBeCoveredFrom_33 : decode cX2_canBeCoveredFrom 33 = .ok (.aload_n 0, 1) := by decide +kernel
theorem dX2_canBeCoveredFrom_34 : decode cX2_canBeCoveredFrom 34 = .ok (.iload_n 1, 1) := by decide +kernel
theorem dX2_canBeCoveredFrom_35 : decode cX2_canBeCoveredFrom 35 = .ok (.aload_n 0, 1) := by decide +kernel
theorem dX2_canBeCoveredFrom_36 : decode cX2_canBeCoveredFrom 36 = .ok (.getfield 21, 3) := by decide +kernel
theorem dX2_canBeCoveredFrom_39 : decode cX2_canBeCoveredFrom 39 = .ok (.ifCond .ne 7, 3) := by decide +kernel
theorem dX2_canBeCoveredFrom_42 : decode cX2_canBeCoveredFrom 42 = .ok (.iconst 1, 1) := by decide +kernel
theorem dX2_canBeCoveredFrom_43 : decode cX2_canBeCoveredFrom 43 = .ok (.goto 4, 3) := by decide +kernel
theorem dX2_canBeCoveredFrom_46 : decode cX2_canBeCoveredFrom 46 = .ok (.iconst 0, 1) := by decide +kernel
theorem dX2_canBeCoveredFrom_47 : decode cX2_canBeCoveredFrom 47 = .ok (.iconst 1, 1) := by decide +kernel
theorem dX2_canBeCoveredFrom_48 : decode cX2_canBeCoveredFrom 48 = .ok (.aload_n 2, 1) := by decide +kernel
theorem dX2_canBeCoveredFrom_49 : decode cX2_canBeCoveredFrom 49 = .ok (.invokevirtual 40, 3) := by decide +kernel
theorem dX2_canBeCoveredFrom_52 : decode cX2_canBeCoveredFrom 52 = .ok (.iconst (-1), 1) := by decide +kernel
theorem dX2_canBeCoveredFrom_53 : decode cX2_canBeCoveredFrom 53 = .ok (.ixor, 1) := by decide +kernel
theorem dX2_canBeCoveredFrom_54 : decode cX2_canBeCoveredFrom 54 = .ok (.iand, 1) := by decide +kernel
theorem dX2_canBeCoveredFrom_55 : decode cX2_canBeCoveredFrom 55 = .ok (.ifCond .ne 7, 3) := by decide +kernel
theorem dX2_canBeCoveredFrom_58 : decode cX2_canBeCoveredFrom 58 = .ok (.iconst 1, 1) := by decide +kernel
theorem dX2_canBeCoveredFrom_59 : decode cX2_canBeCoveredFrom 59 = .ok (.goto 4, 3) := by decide +kernel
theorem dX2_canBeCoveredFrom_62 : decode cX2_canBeCoveredFrom 62 = .ok (.iconst 0, 1) := by decide +kernel
theorem dX2_canBeCoveredFrom_63 : decode cX2_canBeCoveredFrom 63 = .ok (.ireturn, 1) := by decide +kernel
theorem dX2_countRegions_0 : decode cX2_countRegions 0 = .ok (.aload_n 0, 1) := by decide +kernel
theorem dX2_countRegions_1 : decode cX2_countRegions 1 = .ok (.aload_n 1, 1) := by decide +kernel
theorem dX2_countRegions_2 : decode cX2_countRegions 2 = .ok (.invokevirtual 36, 3) := by decide +kernel
theorem dX2_countRegions_5 : decode cX2_countRegions 5 = .ok (.istore_n 2, 1) := by decide +kernel
theorem dX2_countRegions_6 : decode cX2_countRegions 6 = .ok (.iconst 0, 1) := by decide +kernel
theorem dX2_countRegions_7 : decode cX2_countRegions 7 = .ok (.istore_n 3, 1) := by decide +kernel
theorem dX2_countRegions_8 : decode cX2_countRegions 8 = .ok (.iconst 0, 1) := by decide +kernel
theorem dX2_countRegions_9 : decode cX2_countRegions 9 = .ok (.istore 4, 2) := by decide +kernel
theorem dX2_countRegions_11 : decode cX2_countRegions 11 = .ok (.iload 4, 2) := by decide +kernel
theorem dX2_countRegions_13 : decode cX2_countRegions 13 = .ok (.aload_n 0, 1) := by decide +kernel
theorem dX2_countRegions_14 : decode cX2_countRegions 14 = .ok (.getfield 25, 3) := by decide +kernel
theorem dX2_countRegions_17 : decode cX2_countRegions 17 = .ok (.if_icmp .ge 36, 3) := by decide +kernel
theorem dX2_countRegions_20 : decode cX2_countRegions 20 = .ok (.iload_n 2, 1) := by decide +kernel
theorem dX2_countRegions_21 : decode cX2_countRegions 21 = .ok (.iload 4, 2) := by decide +kernel
theorem dX2_countRegions_23 : decode cX2_countRegions 23 = .ok (.ishr, 1) := by decide +kernel
theorem dX2_countRegions_24 : decode cX2_countRegions 24 = .ok (.iconst 1, 1) := by decide +kernel
theorem dX2_countRegions_25 : decode cX2_countRegions 25 = .ok (.iand, 1) := by decide +kernel
theorem dX2_countRegions_26 : decode cX2_countRegions 26 = .ok (.iconst 1, 1) := by decide +kernel
theorem dX2_countRegions_27 : decode cX2_countRegions 27 = .ok (.if_icmp .ne 20, 3) := by decide +kernel
theorem dX2_countRegions_30 : decode cX2_countRegions 30 = .ok (.iload_n 2, 1) := by decide +kernel
theorem dX2_countRegions_31 : decode cX2_countRegions 31 = .ok (.aload_n 0, 1) := by decide +kernel
theorem dX2_countRegions_32 : decode cX2_countRegions 32 = .ok (.iload 4, 2) := by decide +kernel
theorem dX2_countRegions_34 : decode cX2_countRegions 34 = .ok (.iconst 1, 1) := by decide +kernel
theorem dX2_countRegions_35 : decode cX2_countRegions 35 = .ok (.iconst 1, 1) := by decide +kernel
theorem dX2_countRegions_36 : decode cX2_countRegions 36 = .ok (.aload_n 1, 1) := by decide +kernel
theorem dX2_countRegions_37 : decode cX2_countRegions 37 = .ok (.invokevirtual 40, 3) := by decide +kernel
theorem dX2_countRegions_40 : decode cX2_countRegions 40 = .ok (.iconst (-1), 1) := by decide +kernel
theorem dX2_countRegions_41 : decode cX2_countRegions 41 = .ok (.ixor, 1) := by decide +kernel
theorem dX2_countRegions_42 : decode cX2_countRegions 42 = .ok (.iand, 1) := by decide +kernel
theorem dX2_countRegions_43 : decode cX2_countRegions 43 = .ok (.istore_n 2, 1) := by decide +kernel
theorem dX2_countRegions_44 : decode cX2_countRegions 44 = .ok (.iinc 3 1, 3) := by decide +kernel
theorem dX2_countRegions_47 : decode cX2_countRegions 47 = .ok (.iinc 4 1, 3) := by decide +kernel
theorem dX2_countRegions_50 : decode cX2_countRegions 50 = .ok (.goto (-39), 3) := by decide +kernel
theorem dX2_countRegions_53 : decode cX2_countRegions 53 = .ok (.iload_n 3, 1) := by decide +kernel
theorem dX2_countRegions_54 : decode cX2_countRegions 54 = .ok (.ireturn, 1) := by decide +kernel
theorem dX3_init_0 : decode cX3_init 0 = .ok (.aload_n 0, 1) := by decide +kernel
theorem dX3_init_1 : decode cX3_init 1 = .ok (.invokespecial 5, 3) := by decide +kernel
theorem dX3_init_4 : decode cX3_init 4 = .ok (.aload_n 0, 1) := by decide +kernel
theorem dX3_init_5 : decode cX3_init 5 = .ok (.bipush 16, 2) := by decide +kernel
theorem dX3_init_7 : decode cX3_init 7 = .ok (.bipush 16, 2) := by decide +kernel
theorem dX3_init_9 : decode cX3_init 9 = .ok (.multianewarray 11 2, 4) := by decide +kernel
theorem dX3_init_13 : decode cX3_init 13 = .ok (.putfield 13, 3) := by decide +kernel
theorem dX3_init_16 : decode cX3_init 16 = .ok (.aload_n 0, 1) := by decide +kernel
theorem dX3_init_17 : decode cX3_init 17 = .ok (.bipush 16, 2) := by decide +kernel
theorem dX3_init_19 : decode cX3_init 19 = .ok (.bipush 16, 2) := by decide +kernel
theorem dX3_init_21 : decode cX3_init 21 = .ok (.multianewarray 11 2, 4) := by decide +kernel
theorem dX3_init_25 : decode cX3_init 25 = .ok (.putfield 16, 3) := by decide +kernel
theorem dX3_init_28 : decode cX3_init 28 = .ok (.aload_n 0, 1) := by decide +kernel
theorem dX3_init_29 : decode cX3_init 29 = .ok (.sipush 1597, 3) := by decide +kernel
theorem dX3_init_32 : decode cX3_init 32 = .ok (.newarray .int, 2) := by decide +kernel
theorem dX3_init_34 : decode cX3_init 34 = .ok (.putfield 19, 3) := by decide +kernel
theorem dX3_init_37 : decode cX3_init 37 = .ok (.aload_n 0, 1) := by decide +kernel
theorem dX3_init_38 : decode cX3_init 38 = .ok (.sipush 1597, 3) := by decide +kernel
theorem dX3_init_41 : decode cX3_init 41 = .ok (.newarray .long, 2) := by decide +kernel
theorem dX3_init_43 : decode cX3_init 43 = .ok (.putfield 23, 3) := by decide +kernel
theorem dX3_init_46 : decode cX3_init 46 = .ok (.aload_n 0, 1) := by decide +kernel
theorem dX3_init_47 : decode cX3_init 47 = .ok (.sipush 1597, 3) := by decide +kernel
theorem dX3_init_50 : decode cX3_init 50 = .ok (.newarray .long, 2) := by decide +kernel
theorem dX3_init_52 : decode cX3_init 52 = .ok (.putfield 27, 3) := by decide +kernel
theorem dX3_init_55 : decode cX3_init 55 = .ok (.aload_n 0, 1) := by decide +kernel
theorem dX3_init_56 : decode cX3_init 56 = .ok (.sipush 4096, 3) := by decide +kernel
theorem dX3_init_59 : decode cX3_init 59 = .ok (.newarray .int, 2) := by decide +kernel
theorem dX3_init_61 : decode cX3_init 61 = .ok (.putfield 30, 3) := by decide +kernel
theorem dX3_init_64 : decode cX3_init 64 = .ok (.aload_n 0, 1) := by decide +kernel
theorem dX3_init_65 : decode cX3_init 65 = .ok (.iconst 0, 1) := by decide +kernel
theorem dX3_init_66 : decode cX3_init 66 = .ok (.putfield 33, 3) := by decide +kernel
theorem dX3_init_69 : decode cX3_init 69 = .ok (.return_, 1) := by decide +kernel
theorem dX3_find_0 : decode cX3_find 0 = .ok (.aload_n 1, 1) := by decide +kernel
theorem dX3_find_1 : decode cX3_find 1 = .ok (.invokevirtual 37, 3) := by decide +kernel
theorem dX3_find_4 : decode cX3_find 4 = .ok (.istore 4, 2) := by decide +kernel
theorem dX3_find_6 : decode cX3_find 6 = .ok (.aload_n 0, 1) := by decide +kernel
theorem dX3_find_7 : decode cX3_find 7 = .ok (.iload 4, 2) := by decide +kernel
theorem dX3_find_9 : decode cX3_find 9 = .ok (.aload_n 1, 1) := by decide +kernel
theorem dX3_find_10 : decode cX3_find 10 = .ok (.aload_n 2, 1) := by decide +kernel
theorem dX3_find_11 : decode cX3_find 11 = .ok (.invokevirtual 43, 3) := by decide +kernel
theorem dX3_find_14 : decode cX3_find 14 = .ok (.aload_n 0, 1) := by decide +kernel
theorem dX3_find_15 : decode cX3_find 15 = .ok (.iload 4, 2) := by decide +kernel
theorem dX3_find_17 : decode cX3_find 17 = .ok (.invokevirtual 47, 3) := by decide +kernel
theorem dX3_find_20 : decode cX3_find 20 = .ok (.lstore 5, 2) := by decide +kernel
theorem dX3_find_22 : decode cX3_find 22 = .ok (.iconst 0, 1) := by decide +kernel
theorem dX3_find_23 : decode cX3_find 23 = .ok (.istore 7, 2) := by decide +kernel
theorem dX3_find_25 : decode cX3_find 25 = .ok (.iload 7, 2) := by decide +kernel
theorem dX3_find_27 : decode cX3_find 27 = .ok (.aload_n 1, 1) := by decide +kernel
theorem dX3_find_28 : decode cX3_find 28 = .ok (.getfield 51, 3) := by decide +kernel
theorem dX3_find_31 : decode cX3_find 31 = .ok (.if_icmp .ge 24, 3) := by decide +kernel
theorem dX3_find_34 : decode cX3_find 34 = .ok (.aload_n 3, 1) := by decide +kernel
theorem dX3_find_35 : decode cX3_find 35 = .ok (.iload 7, 2) := by decide +kernel
theorem dX3_find_37 : decode cX3_find 37 = .ok (.lload 5, 2) := by decide +kernel
theorem dX3_find_39 : decode cX3_find 39 = .ok (.bipush 39, 2) := by decide +kernel
theorem dX3_find_41 : decode cX3_find 41 = .ok (.iload 7, 2) := by decide +kernel
theorem dX3_find_43 : decode cX3_find 43 = .ok (.isub, 1) := by decide +kernel
theorem dX3_find_44 : decode cX3_find 44 = .ok (.lshr, 1) := by decide +kernel
theorem dX3_find_45 : decode cX3_find 45 = .ok (.lconst 1, 1) := by decide +kernel
theorem dX3_find_46 : decode cX3_find 46 = .ok (.land, 1) := by decide +kernel
theorem dX3_find_47 : decode cX3_find 47 = .ok (.l2i, 1) := by decide +kernel
theorem dX3_find_48 : decode cX3_find 48 = .ok (.iastore, 1) := by decide +kernel
theorem dX3_find_49 : decode cX3_find 49 = .ok (.iinc 7 1, 3) := by decide +kernel
theorem dX3_find_52 : decode cX3_find 52 = .ok (.goto (-27), 3) := by decide +kernel
theorem dX3_find_55 : decode cX3_find 55 = .ok (.return_, 1) := by decide +kernel
theorem dX3_measurePairs_0 : decode cX3_measurePairs 0 = .ok (.iconst 0, 1) := by decide +kernel
theorem dX3_measurePairs_1 : decode cX3_measurePairs 1 = .ok (.istore 4, 2) := by decide +kernel
theorem dX3_measurePairs_3 : decode cX3_measurePairs 3 = .ok (.iload 4, 2) := by decide +kernel
theorem dX3_measurePairs_5 : decode cX3_measurePairs 5 = .ok (.bipush 16, 2) := by decide +kernel
theorem dX3_measurePairs_7 : decode cX3_measurePairs 7 = .ok (.if_icmp .ge 62, 3) := by decide +kernel
theorem dX3_measurePairs_10 : decode cX3_measurePairs 10 = .ok (.iload_n 1, 1) := by decide +kernel
theorem dX3_measurePairs_11 : decode cX3_measurePairs 11 = .ok (.iload 4, 2) := by decide +kernel
theorem dX3_measurePairs_13 : decode cX3_measurePairs 13 = .ok (.ishr, 1) := by decide +kernel
theorem dX3_measurePairs_14 : decode cX3_measurePairs 14 = .ok (.iconst 1, 1) := by decide +kernel
theorem dX3_measurePairs_15 : decode cX3_measurePairs 15 = .ok (.iand, 1) := by decide +kernel
theorem dX3_measurePairs_16 : decode cX3_measurePairs 16 = .ok (.iconst 1, 1) := by decide +kernel
theorem dX3_measurePairs_17 : decode cX3_measurePairs 17 = .ok (.if_icmp .ne 46, 3) := by decide +kernel
theorem dX3_measurePairs_20 : decode cX3_measurePairs 20 = .ok (.aload_n 3, 1) := by decide +kernel
theorem dX3_measurePairs_21 : decode cX3_measurePairs 21 = .ok (.iload 4, 2) := by decide +kernel
theorem dX3_measurePairs_23 : decode cX3_measurePairs 23 = .ok (.aload_n 2, 1) := by decide +kernel
theorem dX3_measurePairs_24 : decode cX3_measurePairs 24 = .ok (.invokevirtual 54, 3) := by decide +kernel
theorem dX3_measurePairs_27 : decode cX3_measurePairs 27 = .ok (.aload_n 3, 1) := by decide +kernel
theorem dX3_measurePairs_28 : decode cX3_measurePairs 28 = .ok (.getfield 60, 3) := by decide +kernel
theorem dX3_measurePairs_31 : decode cX3_measurePairs 31 = .ok (.iconst 0, 1) := by decide +kernel
theorem dX3_measurePairs_32 : decode cX3_measurePairs 32 = .ok (.aload_n 0, 1) := by decide +kernel
theorem dX3_measurePairs_33 : decode cX3_measurePairs 33 = .ok (.getfield 13, 3) := by decide +kernel
theorem dX3_measurePairs_36 : decode cX3_measurePairs 36 = .ok (.iload 4, 2) := by decide +kernel
theorem dX3_measurePairs_38 : decode cX3_measurePairs 38 = .ok (.aaload, 1) := by decide +kernel
theorem dX3_measurePairs_39 : decode cX3_measurePairs 39 = .ok (.iconst 0, 1) := by decide +kernel
theorem dX3_measurePairs_40 : decode cX3_measurePairs 40 = .ok (.bipush 16, 2) := by decide +kernel
theorem dX3_measurePairs_42 : decode cX3_measurePairs 42 = .ok (.invokestatic 61, 3) := by decide +kernel
theorem dX3_measurePairs_45 : decode cX3_measurePairs 45 = .ok (.aload_n 3, 1) := by decide +kernel
theorem dX3_measurePairs_46 : decode cX3_measurePairs 46 = .ok (.getfield 67, 3) := by decide +kernel
theorem dX3_measurePairs_49 : decode cX3_measurePairs 49 = .ok (.iconst 0, 1) := by decide +kernel
theorem dX3_measurePairs_50 : decode cX3_measurePairs 50 = .ok (.aload_n 0, 1) := by decide +kernel
theorem dX3_measurePairs_51 : decode cX3_measurePairs 51 = .ok (.getfield 16, 3) := by decide +kernel
theorem dX3_measurePairs_54 : decode cX3_measurePairs 54 = .ok (.iload 4, 2) := by decide +kernel
theorem dX3_measurePairs_56 : decode cX3_measurePairs 56 = .ok (.aaload, 1) := by decide +kernel
theorem dX3_measurePairs_57 : decode cX3_measurePairs 57 = .ok (.iconst 0, 1) := by decide +kernel
theorem dX3_measurePairs_58 : decode cX3_measurePairs 58 = .ok (.bipush 16, 2) := by decide +kernel
theorem dX3_measurePairs_60 : decode cX3_measurePairs 60 = .ok (.invokestatic 61, 3) := by decide +kernel
theorem dX3_measurePairs_63 : decode cX3_measurePairs 63 = .ok (.iinc 4 1, 3) := by decide +kernel
theorem dX3_measurePairs_66 : decode cX3_measurePairs 66 = .ok (.goto (-63), 3) := by decide +kernel
theorem dX3_measurePairs_69 : decode cX3_measurePairs 69 = .ok (.return_, 1) := by decide +kernel
theorem dX3_tieOfLeastPairs_0 : decode cX3_tieOfLeastPairs 0 = .ok (.aload_n 0, 1) := by decide +kernel
theorem dX3_tieOfLeastPairs_1 : decode cX3_tieOfLeastPairs 1 = .ok (.getfield 30, 3) := by decide +kernel
theorem dX3_tieOfLeastPairs_4 : decode cX3_tieOfLeastPairs 4 = .ok (.iconst 0, 1) := by decide +kernel
theorem dX3_tieOfLeastPairs_5 : decode cX3_tieOfLeastPairs 5 = .ok (.invokestatic 68, 3) := by decide +kernel
theorem dX3_tieOfLeastPairs_8 : decode cX3_tieOfLeastPairs 8 = .ok (.aload_n 0, 1) := by decide +kernel
theorem dX3_tieOfLeastPairs_9 : decode cX3_tieOfLeastPairs 9 = .ok (.iconst 0, 1) := by decide +kernel
theorem dX3_tieOfLeastPairs_10 : decode cX3_tieOfLeastPairs 10 = .ok (.putfield 33, 3) := by decide +kernel
theorem dX3_tieOfLeastPairs_13 : decode cX3_tieOfLeastPairs 13 = .ok (.aload_n 0, 1) := by decide +kernel
theorem dX3_tieOfLeastPairs_14 : decode cX3_tieOfLeastPairs 14 = .ok (.iload_n 1, 1) := by decide +kernel
theorem dX3_tieOfLeastPairs_15 : decode cX3_tieOfLeastPairs 15 = .ok (.lconst 0, 1) := by decide +kernel
theorem dX3_tieOfLeastPairs_16 : decode cX3_tieOfLeastPairs 16 = .ok (.lconst 0, 1) := by decide +kernel
theorem dX3_tieOfLeastPairs_17 : decode cX3_tieOfLeastPairs 17 = .ok (.invokevirtual 74, 3) := by decide +kernel
end
section
theorem dX3_tieOfLeastPairs_20 : decode cX3_tieOfLeastPairs 20 = .ok (.iconst 0, 1) := by decide +kernel
theorem dX3_tieOfLeastPairs_21 : decode cX3_tieOfLeastPairs 21 = .ok (.istore_n 2, 1) := by decide +kernel
theorem dX3_tieOfLeastPairs_22 : decode cX3_tieOfLeastPairs 22 = .ok (.iload_n 2, 1) := by decide +kernel
theorem dX3_tieOfLeastPairs_23 : decode cX3_tieOfLeastPairs 23 = .ok (.aload_n 0, 1) := by decide +kernel
theorem dX3_tieOfLeastPairs_24 : decode cX3_tieOfLeastPairs 24 = .ok (.getfield 33, 3) := by decide +kernel
theorem dX3_tieOfLeastPairs_27 : decode cX3_tieOfLeastPairs 27 = .ok (.if_icmp .ge 37, 3) := by decide +kernel
theorem dX3_tieOfLeastPairs_30 : decode cX3_tieOfLeastPairs 30 = .ok (.iload_n 2, 1) := by decide +kernel
theorem dX3_tieOfLeastPairs_31 : decode cX3_tieOfLeastPairs 31 = .ok (.sipush 1597, 3) := by decide +kernel
theorem dX3_tieOfLeastPairs_34 : decode cX3_tieOfLeastPairs 34 = .ok (.if_icmp .ge 30, 3) := by decide +kernel
theorem dX3_tieOfLeastPairs_37 : decode cX3_tieOfLeastPairs 37 = .ok (.aload_n 0, 1) := by decide +kernel
theorem dX3_tieOfLeastPairs_38 : decode cX3_tieOfLeastPairs 38 = .ok (.getfield 19, 3) := by decide +kernel
theorem dX3_tieOfLeastPairs_41 : decode cX3_tieOfLeastPairs 41 = .ok (.iload_n 2, 1) := by decide +kernel
theorem dX3_tieOfLeastPairs_42 : decode cX3_tieOfLeastPairs 42 = .ok (.iaload, 1) := by decide +kernel
theorem dX3_tieOfLeastPairs_43 : decode cX3_tieOfLeastPairs 43 = .ok (.ifCond .ne 10, 3) := by decide +kernel
theorem dX3_tieOfLeastPairs_46 : decode cX3_tieOfLeastPairs 46 = .ok (.aload_n 0, 1) := by decide +kernel
theorem dX3_tieOfLeastPairs_47 : decode cX3_tieOfLeastPairs 47 = .ok (.getfield 27, 3) := by decide +kernel
theorem dX3_tieOfLeastPairs_50 : decode cX3_tieOfLeastPairs 50 = .ok (.iload_n 2, 1) := by decide +kernel
theorem dX3_tieOfLeastPairs_51 : decode cX3_tieOfLeastPairs 51 = .ok (.laload, 1) := by decide +kernel
theorem dX3_tieOfLeastPairs_52 : decode cX3_tieOfLeastPairs 52 = .ok (.lreturn, 1) := by decide +kernel
theorem dX3_tieOfLeastPairs_53 : decode cX3_tieOfLeastPairs 53 = .ok (.aload_n 0, 1) := by decide +kernel
theorem dX3_tieOfLeastPairs_54 : decode cX3_tieOfLeastPairs 54 = .ok (.iload_n 2, 1) := by decide +kernel
theorem dX3_tieOfLeastPairs_55 : decode cX3_tieOfLeastPairs 55 = .ok (.invokevirtual 78, 3) := by decide +kernel
theorem dX3_tieOfLeastPairs_58 : decode cX3_tieOfLeastPairs 58 = .ok (.iinc 2 1, 3) := by decide +kernel
theorem dX3_tieOfLeastPairs_61 : decode cX3_tieOfLeastPairs 61 = .ok (.goto (-39), 3) := by decide +kernel
theorem dX3_tieOfLeastPairs_64 : decode cX3_tieOfLeastPairs 64 = .ok (.lconst 0, 1) := by decide +kernel
theorem dX3_tieOfLeastPairs_65 : decode cX3_tieOfLeastPairs 65 = .ok (.lreturn, 1) := by decide +kernel
theorem dX3_pairLeastVertex_0 : decode cX3_pairLeastVertex 0 = .ok (.aload_n 0, 1) := by decide +kernel
theorem dX3_pairLeastVertex_1 : decode cX3_pairLeastVertex 1 = .ok (.getfield 19, 3) := by decide +kernel
theorem dX3_pairLeastVertex_4 : decode cX3_pairLeastVertex 4 = .ok (.iload_n 1, 1) := by decide +kernel
theorem dX3_pairLeastVertex_5 : decode cX3_pairLeastVertex 5 = .ok (.iaload, 1) := by decide +kernel
theorem dX3_pairLeastVertex_6 : decode cX3_pairLeastVertex 6 = .ok (.invokestatic 82, 3) := by decide +kernel
theorem dX3_pairLeastVertex_9 : decode cX3_pairLeastVertex 9 = .ok (.istore_n 2, 1) := by decide +kernel
theorem dX3_pairLeastVertex_10 : decode cX3_pairLeastVertex 10 = .ok (.aload_n 0, 1) := by decide +kernel
theorem dX3_pairLeastVertex_11 : decode cX3_pairLeastVertex 11 = .ok (.getfield 19, 3) := by decide +kernel
theorem dX3_pairLeastVertex_14 : decode cX3_pairLeastVertex 14 = .ok (.iload_n 1, 1) := by decide +kernel
theorem dX3_pairLeastVertex_15 : decode cX3_pairLeastVertex 15 = .ok (.iaload, 1) := by decide +kernel
theorem dX3_pairLeastVertex_16 : decode cX3_pairLeastVertex 16 = .ok (.iconst 1, 1) := by decide +kernel
theorem dX3_pairLeastVertex_17 : decode cX3_pairLeastVertex 17 = .ok (.iload_n 2, 1) := by decide +kernel
theorem dX3_pairLeastVertex_18 : decode cX3_pairLeastVertex 18 = .ok (.ishl, 1) := by decide +kernel
theorem dX3_pairLeastVertex_19 : decode cX3_pairLeastVertex 19 = .ok (.iconst (-1), 1) := by decide +kernel
theorem dX3_pairLeastVertex_20 : decode cX3_pairLeastVertex 20 = .ok (.ixor, 1) := by decide +kernel
theorem dX3_pairLeastVertex_21 : decode cX3_pairLeastVertex 21 = .ok (.iand, 1) := by decide +kernel
theorem dX3_pairLeastVertex_22 : decode cX3_pairLeastVertex 22 = .ok (.istore_n 3, 1) := by decide +kernel
theorem dX3_pairLeastVertex_23 : decode cX3_pairLeastVertex 23 = .ok (.iload_n 2, 1) := by decide +kernel
theorem dX3_pairLeastVertex_24 : decode cX3_pairLeastVertex 24 = .ok (.iconst 1, 1) := by decide +kernel
theorem dX3_pairLeastVertex_25 : decode cX3_pairLeastVertex 25 = .ok (.iadd, 1) := by decide +kernel
theorem dX3_pairLeastVertex_26 : decode cX3_pairLeastVertex 26 = .ok (.istore 4, 2) := by decide +kernel
theorem dX3_pairLeastVertex_28 : decode cX3_pairLeastVertex 28 = .ok (.iload 4, 2) := by decide +kernel
theorem dX3_pairLeastVertex_30 : decode cX3_pairLeastVertex 30 = .ok (.bipush 16, 2) := by decide +kernel
theorem dX3_pairLeastVertex_32 : decode cX3_pairLeastVertex 32 = .ok (.if_icmp .ge 63, 3) := by decide +kernel
theorem dX3_pairLeastVertex_35 : decode cX3_pairLeastVertex 35 = .ok (.iload_n 3, 1) := by decide +kernel
theorem dX3_pairLeastVertex_36 : decode cX3_pairLeastVertex 36 = .ok (.iload 4, 2) := by decide +kernel
theorem dX3_pairLeastVertex_38 : decode cX3_pairLeastVertex 38 = .ok (.ishr, 1) := by decide +kernel
theorem dX3_pairLeastVertex_39 : decode cX3_pairLeastVertex 39 = .ok (.iconst 1, 1) := by decide +kernel
theorem dX3_pairLeastVertex_40 : decode cX3_pairLeastVertex 40 = .ok (.iand, 1) := by decide +kernel
theorem dX3_pairLeastVertex_41 : decode cX3_pairLeastVertex 41 = .ok (.iconst 1, 1) := by decide +kernel
theorem dX3_pairLeastVertex_42 : decode cX3_pairLeastVertex 42 = .ok (.if_icmp .ne 47, 3) := by decide +kernel
theorem dX3_pairLeastVertex_45 : decode cX3_pairLeastVertex 45 = .ok (.aload_n 0, 1) := by decide +kernel
theorem dX3_pairLeastVertex_46 : decode cX3_pairLeastVertex 46 = .ok (.iload_n 3, 1) := by decide +kernel
theorem dX3_pairLeastVertex_47 : decode cX3_pairLeastVertex 47 = .ok (.iconst 1, 1) := by decide +kernel
theorem dX3_pairLeastVertex_48 : decode cX3_pairLeastVertex 48 = .ok (.iload 4, 2) := by decide +kernel
theorem dX3_pairLeastVertex_50 : decode cX3_pairLeastVertex 50 = .ok (.ishl, 1) := by decide +kernel
theorem dX3_pairLeastVertex_51 : decode cX3_pairLeastVertex 51 = .ok (.iconst (-1), 1) := by decide +kernel
theorem dX3_pairLeastVertex_52 : decode cX3_pairLeastVertex 52 = .ok (.ixor, 1) := by decide +kernel
theorem dX3_pairLeastVertex_53 : decode cX3_pairLeastVertex 53 = .ok (.iand, 1) := by decide +kernel
theorem dX3_pairLeastVertex_54 : decode cX3_pairLeastVertex 54 = .ok (.aload_n 0, 1) := by decide +kernel
theorem dX3_pairLeastVertex_55 : decode cX3_pairLeastVertex 55 = .ok (.getfield 23, 3) := by decide +kernel
theorem dX3_pairLeastVertex_58 : decode cX3_pairLeastVertex 58 = .ok (.iload_n 1, 1) := by decide +kernel
theorem dX3_pairLeastVertex_59 : decode cX3_pairLeastVertex 59 = .ok (.laload, 1) := by decide +kernel
theorem dX3_pairLeastVertex_60 : decode cX3_pairLeastVertex 60 = .ok (.aload_n 0, 1) := by decide +kernel
theorem dX3_pairLeastVertex_61 : decode cX3_pairLeastVertex 61 = .ok (.getfield 13, 3) := by decide +kernel
theorem dX3_pairLeastVertex_64 : decode cX3_pairLeastVertex 64 = .ok (.iload_n 2, 1) := by decide +kernel
theorem dX3_pairLeastVertex_65 : decode cX3_pairLeastVertex 65 = .ok (.aaload, 1) := by decide +kernel
theorem dX3_pairLeastVertex_66 : decode cX3_pairLeastVertex 66 = .ok (.iload 4, 2) := by decide +kernel
theorem dX3_pairLeastVertex_68 : decode cX3_pairLeastVertex 68 = .ok (.laload, 1) := by decide +kernel
theorem dX3_pairLeastVertex_69 : decode cX3_pairLeastVertex 69 = .ok (.ladd, 1) := by decide +kernel
theorem dX3_pairLeastVertex_70 : decode cX3_pairLeastVertex 70 = .ok (.aload_n 0, 1) := by decide +kernel
theorem dX3_pairLeastVertex_71 : decode cX3_pairLeastVertex 71 = .ok (.getfield 27, 3) := by decide +kernel
theorem dX3_pairLeastVertex_74 : decode cX3_pairLeastVertex 74 = .ok (.iload_n 1, 1) := by decide +kernel
theorem dX3_pairLeastVertex_75 : decode cX3_pairLeastVertex 75 = .ok (.laload, 1) := by decide +kernel
theorem dX3_pairLeastVertex_76 : decode cX3_pairLeastVertex 76 = .ok (.aload_n 0, 1) := by decide +kernel
theorem dX3_pairLeastVertex_77 : decode cX3_pairLeastVertex 77 = .ok (.getfield 16, 3) := by decide +kernel
theorem dX3_pairLeastVertex_80 : decode cX3_pairLeastVertex 80 = .ok (.iload_n 2, 1) := by decide +kernel
theorem dX3_pairLeastVertex_81 : decode cX3_pairLeastVertex 81 = .ok (.aaload, 1) := by decide +kernel
theorem dX3_pairLeastVertex_82 : decode cX3_pairLeastVertex 82 = .ok (.iload 4, 2) := by decide +kernel
theorem dX3_pairLeastVertex_84 : decode cX3_pairLeastVertex 84 = .ok (.laload, 1) := by decide +kernel
theorem dX3_pairLeastVertex_85 : decode cX3_pairLeastVertex 85 = .ok (.ladd, 1) := by decide +kernel
theorem dX3_pairLeastVertex_86 : decode cX3_pairLeastVertex 86 = .ok (.invokevirtual 74, 3) := by decide +kernel
theorem dX3_pairLeastVertex_89 : decode cX3_pairLeastVertex 89 = .ok (.iinc 4 1, 3) := by decide +kernel
theorem dX3_pairLeastVertex_92 : decode cX3_pairLeastVertex 92 = .ok (.goto (-64), 3) := by decide +kernel
theorem dX3_pairLeastVertex_95 : decode cX3_pairLeastVertex 95 = .ok (.return_, 1) := by decide +kernel
theorem dX3_offer_0 : decode cX3_offer 0 = .ok (.aload_n 0, 1) := by decide +kernel
theorem dX3_offer_1 : decode cX3_offer 1 = .ok (.iload_n 1, 1) := by decide +kernel
theorem dX3_offer_2 : decode cX3_offer 2 = .ok (.invokevirtual 86, 3) := by decide +kernel
theorem dX3_offer_5 : decode cX3_offer 5 = .ok (.istore 6, 2) := by decide +kernel
theorem dX3_offer_7 : decode cX3_offer 7 = .ok (.aload_n 0, 1) := by decide +kernel
theorem dX3_offer_8 : decode cX3_offer 8 = .ok (.getfield 30, 3) := by decide +kernel
theorem dX3_offer_11 : decode cX3_offer 11 = .ok (.iload 6, 2) := by decide +kernel
theorem dX3_offer_13 : decode cX3_offer 13 = .ok (.iaload, 1) := by decide +kernel
theorem dX3_offer_14 : decode cX3_offer 14 = .ok (.iconst 1, 1) := by decide +kernel
theorem dX3_offer_15 : decode cX3_offer 15 = .ok (.isub, 1) := by decide +kernel
theorem dX3_offer_16 : decode cX3_offer 16 = .ok (.istore 7, 2) := by decide +kernel
theorem dX3_offer_18 : decode cX3_offer 18 = .ok (.iload 7, 2) := by decide +kernel
theorem dX3_offer_20 : decode cX3_offer 20 = .ok (.ifCond .ge 52, 3) := by decide +kernel
theorem dX3_offer_23 : decode cX3_offer 23 = .ok (.aload_n 0, 1) := by decide +kernel
theorem dX3_offer_24 : decode cX3_offer 24 = .ok (.getfield 33, 3) := by decide +kernel
theorem dX3_offer_27 : decode cX3_offer 27 = .ok (.sipush 1597, 3) := by decide +kernel
theorem dX3_offer_30 : decode cX3_offer 30 = .ok (.if_icmp .lt 4, 3) := by decide +kernel
theorem dX3_offer_33 : decode cX3_offer 33 = .ok (.return_, 1) := by decide +kernel
theorem dX3_offer_34 : decode cX3_offer 34 = .ok (.aload_n 0, 1) := by decide +kernel
theorem dX3_offer_35 : decode cX3_offer 35 = .ok (.getfield 33, 3) := by decide +kernel
theorem dX3_offer_38 : decode cX3_offer 38 = .ok (.istore 7, 2) := by decide +kernel
theorem dX3_offer_40 : decode cX3_offer 40 = .ok (.aload_n 0, 1) := by decide +kernel
theorem dX3_offer_41 : decode cX3_offer 41 = .ok (.dup, 1) := by decide +kernel
theorem dX3_offer_42 : decode cX3_offer 42 = .ok (.getfield 33, 3) := by decide +kernel
theorem dX3_offer_45 : decode cX3_offer 45 = .ok (.iconst 1, 1) := by decide +kernel
theorem dX3_offer_46 : decode cX3_offer 46 = .ok (.iadd, 1) := by decide +kernel
theorem dX3_offer_47 : decode cX3_offer 47 = .ok (.putfield 33, 3) := by decide +kernel
theorem dX3_offer_50 : decode cX3_offer 50 = .ok (.aload_n 0, 1) := by decide +kernel
theorem dX3_offer_51 : decode cX3_offer 51 = .ok (.getfield 30, 3) := by decide +kernel
theorem dX3_offer_54 : decode cX3_offer 54 = .ok (.iload 6, 2) := by decide +kernel
theorem dX3_offer_56 : decode cX3_offer 56 = .ok (.aload_n 0, 1) := by decide +kernel
theorem dX3_offer_57 : decode cX3_offer 57 = .ok (.getfield 33, 3) := by decide +kernel
theorem dX3_offer_60 : decode cX3_offer 60 = .ok (.iastore, 1) := by decide +kernel
theorem dX3_offer_61 : decode cX3_offer 61 = .ok (.aload_n 0, 1) := by decide +kernel
theorem dX3_offer_62 : decode cX3_offer 62 = .ok (.getfield 19, 3) := by decide +kernel
theorem dX3_offer_65 : decode cX3_offer 65 = .ok (.iload 7, 2) := by decide +kernel
theorem dX3_offer_67 : decode cX3_offer 67 = .ok (.iload_n 1, 1) := by decide +kernel
theorem dX3_offer_68 : decode cX3_offer 68 = .ok (.iastore, 1) := by decide +kernel
theorem dX3_offer_69 : decode cX3_offer 69 = .ok (.goto 27, 3) := by decide +kernel
theorem dX3_offer_72 : decode cX3_offer 72 = .ok (.lload_n 2, 1) := by decide +kernel
theorem dX3_offer_73 : decode cX3_offer 73 = .ok (.lload 4, 2) := by decide +kernel
theorem dX3_offer_75 : decode cX3_offer 75 = .ok (.aload_n 0, 1) := by decide +kernel
theorem dX3_offer_76 : decode cX3_offer 76 = .ok (.getfield 23, 3) := by decide +kernel
theorem dX3_offer_79 : decode cX3_offer 79 = .ok (.iload 7, 2) := by decide +kernel
theorem dX3_offer_81 : decode cX3_offer 81 = .ok (.laload, 1) := by decide +kernel
theorem dX3_offer_82 : decode cX3_offer 82 = .ok (.aload_n 0, 1) := by decide +kernel
theorem dX3_offer_83 : decode cX3_offer 83 = .ok (.getfield 27, 3) := by decide +kernel
theorem dX3_offer_86 : decode cX3_offer 86 = .ok (.iload 7, 2) := by decide +kernel
theorem dX3_offer_88 : decode cX3_offer 88 = .ok (.laload, 1) := by decide +kernel
theorem dX3_offer_89 : decode cX3_offer 89 = .ok (.invokestatic 89, 3) := by decide +kernel
theorem dX3_offer_92 : decode cX3_offer 92 = .ok (.ifCond .ne 4, 3) := by decide +kernel
theorem dX3_offer_95 : decode cX3_offer 95 = .ok (.return_, 1) := by decide +kernel
theorem dX3_offer_96 : decode cX3_offer 96 = .ok (.aload_n 0, 1) := by decide +kernel
theorem dX3_offer_97 : decode cX3_offer 97 = .ok (.getfield 23, 3) := by decide +kernel
theorem dX3_offer_100 : decode cX3_offer 100 = .ok (.iload 7, 2) := by decide +kernel
theorem dX3_offer_102 : decode cX3_offer 102 = .ok (.lload_n 2, 1) := by decide +kernel
theorem dX3_offer_103 : decode cX3_offer 103 = .ok (.lastore, 1) := by decide +kernel
theorem dX3_offer_104 : decode cX3_offer 104 = .ok (.aload_n 0, 1) := by decide +kernel
theorem dX3_offer_105 : decode cX3_offer 105 = .ok (.getfield 27, 3) := by decide +kernel
theorem dX3_offer_108 : decode cX3_offer 108 = .ok (.iload 7, 2) := by decide +kernel
theorem dX3_offer_110 : decode cX3_offer 110 = .ok (.lload 4, 2) := by decide +kernel
theorem dX3_offer_112 : decode cX3_offer 112 = .ok (.lastore, 1) := by decide +kernel
theorem dX3_offer_113 : decode cX3_offer 113 = .ok (.return_, 1) := by decide +kernel
theorem dX3_slotOf_0 : decode cX3_slotOf 0 = .ok (.iload_n 1, 1) := by decide +kernel
theorem dX3_slotOf_1 : decode cX3_slotOf 1 = .ok (.ldc 93, 2) := by decide +kernel
theorem dX3_slotOf_3 : decode cX3_slotOf 3 = .ok (.imul, 1) := by decide +kernel
theorem dX3_slotOf_4 : decode cX3_slotOf 4 = .ok (.bipush 20, 2) := by decide +kernel
theorem dX3_slotOf_6 : decode cX3_slotOf 6 = .ok (.iushr, 1) := by decide +kernel
theorem dX3_slotOf_7 : decode cX3_slotOf 7 = .ok (.istore_n 2, 1) := by decide +kernel
theorem dX3_slotOf_8 : decode cX3_slotOf 8 = .ok (.iconst 0, 1) := by decide +kernel
theorem dX3_slotOf_9 : decode cX3_slotOf 9 = .ok (.istore_n 3, 1) := by decide +kernel
theorem dX3_slotOf_10 : decode cX3_slotOf 10 = .ok (.iload_n 3, 1) := by decide +kernel
theorem dX3_slotOf_11 : decode cX3_slotOf 11 = .ok (.sipush 4096, 3) := by decide +kernel
theorem dX3_slotOf_14 : decode cX3_slotOf 14 = .ok (.if_icmp .ge 46, 3) := by decide +kernel
theorem dX3_slotOf_17 : decode cX3_slotOf 17 = .ok (.aload_n 0, 1) := by decide +kernel
theorem dX3_slotOf_18 : decode cX3_slotOf 18 = .ok (.getfield 30, 3) := by decide +kernel
theorem dX3_slotOf_21 : decode cX3_slotOf 21 = .ok (.iload_n 2, 1) := by decide +kernel
theorem dX3_slotOf_22 : decode cX3_slotOf 22 = .ok (.iaload, 1) := by decide +kernel
theorem dX3_slotOf_23 : decode cX3_slotOf 23 = .ok (.ifCond .eq 37, 3) := by decide +kernel
theorem dX3_slotOf_26 : decode cX3_slotOf 26 = .ok (.aload_n 0, 1) := by decide +kernel
theorem dX3_slotOf_27 : decode cX3_slotOf 27 = .ok (.getfield 19, 3) := by decide +kernel
theorem dX3_slotOf_30 : decode cX3_slotOf 30 = .ok (.aload_n 0, 1) := by decide +kernel
theorem dX3_slotOf_31 : decode cX3_slotOf 31 = .ok (.getfield 30, 3) := by decide +kernel
theorem dX3_slotOf_34 : decode cX3_slotOf 34 = .ok (.iload_n 2, 1) := by decide +kernel
theorem dX3_slotOf_35 : decode cX3_slotOf 35 = .ok (.iaload, 1) := by decide +kernel
theorem dX3_slotOf_36 : decode cX3_slotOf 36 = .ok (.iconst 1, 1) := by decide +kernel
theorem dX3_slotOf_37 : decode cX3_slotOf 37 = .ok (.isub, 1) := by decide +kernel
theorem dX3_slotOf_38 : decode cX3_slotOf 38 = .ok (.iaload, 1) := by decide +kernel
theorem dX3_slotOf_39 : decode cX3_slotOf 39 = .ok (.iload_n 1, 1) := by decide +kernel
theorem dX3_slotOf_40 : decode cX3_slotOf 40 = .ok (.if_icmp .ne 6, 3) := by decide +kernel
theorem dX3_slotOf_43 : decode cX3_slotOf 43 = .ok (.goto 17, 3) := by decide +kernel
theorem dX3_slotOf_46 : decode cX3_slotOf 46 = .ok (.iload_n 2, 1) := by decide +kernel
theorem dX3_slotOf_47 : decode cX3_slotOf 47 = .ok (.iconst 1, 1) := by decide +kernel
theorem dX3_slotOf_48 : decode cX3_slotOf 48 = .ok (.iadd, 1) := by decide +kernel
theorem dX3_slotOf_49 : decode cX3_slotOf 49 = .ok (.sipush 4095, 3) := by decide +kernel
theorem dX3_slotOf_52 : decode cX3_slotOf 52 = .ok (.iand, 1) := by decide +kernel
theorem dX3_slotOf_53 : decode cX3_slotOf 53 = .ok (.istore_n 2, 1) := by decide +kernel
theorem dX3_slotOf_54 : decode cX3_slotOf 54 = .ok (.iinc 3 1, 3) := by decide +kernel
theorem dX3_slotOf_57 : decode cX3_slotOf 57 = .ok (.goto (-47), 3) := by decide +kernel
theorem dX3_slotOf_60 : decode cX3_slotOf 60 = .ok (.iload_n 2, 1) := by decide +kernel
theorem dX3_slotOf_61 : decode cX3_slotOf 61 = .ok (.ireturn, 1) := by decide +kernel
theorem dX4_init_0 : decode cX4_init 0 = .ok (.aload_n 0, 1) := by decide +kernel
theorem dX4_init_1 : decode cX4_init 1 = .ok (.invokespecial 1, 3) := by decide +kernel
theorem dX4_init_4 : decode cX4_init 4 = .ok (.aload_n 0, 1) := by decide +kernel
theorem dX4_init_5 : decode cX4_init 5 = .ok (.iload_n 1, 1) := by decide +kernel
theorem dX4_init_6 : decode cX4_init 6 = .ok (.newarray .int, 2) := by decide +kernel
theorem dX4_init_8 : decode cX4_init 8 = .ok (.putfield 7, 3) := by decide +kernel
theorem dX4_init_11 : decode cX4_init 11 = .ok (.aload_n 0, 1) := by decide +kernel
theorem dX4_init_12 : decode cX4_init 12 = .ok (.iconst 0, 1) := by decide +kernel
theorem dX4_init_13 : decode cX4_init 13 = .ok (.putfield 13, 3) := by decide +kernel
theorem dX4_init_16 : decode cX4_init 16 = .ok (.return_, 1) := by decide +kernel
theorem dX4_isFull_0 : decode cX4_isFull 0 = .ok (.aload_n 0, 1) := by decide +kernel
theorem dX4_isFull_1 : decode cX4_isFull 1 = .ok (.getfield 13, 3) := by decide +kernel
theorem dX4_isFull_4 : decode cX4_isFull 4 = .ok (.aload_n 0, 1) := by decide +kernel
theorem dX4_isFull_5 : decode cX4_isFull 5 = .ok (.getfield 7, 3) := by decide +kernel
theorem dX4_isFull_8 : decode cX4_isFull 8 = .ok (.arraylength, 1) := by decide +kernel
theorem dX4_isFull_9 : decode cX4_isFull 9 = .ok (.if_icmp .lt 7, 3) := by decide +kernel
theorem dX4_isFull_12 : decode cX4_isFull 12 = .ok (.iconst 1, 1) := by decide +kernel
theorem dX4_isFull_13 : decode cX4_isFull 13 = .ok (.goto 4, 3) := by decide +kernel
theorem dX4_isFull_16 : decode cX4_isFull 16 = .ok (.iconst 0, 1) := by decide +kernel
theorem dX4_isFull_17 : decode cX4_isFull 17 = .ok (.ireturn, 1) := by decide +kernel
theorem dX4_append_0 : decode cX4_append 0 = .ok (.aload_n 0, 1) := by decide +kernel
theorem dX4_append_1 : decode cX4_append 1 = .ok (.invokevirtual 17, 3) := by decide +kernel
theorem dX4_append_4 : decode cX4_append 4 = .ok (.ifCond .ne 23, 3) := by decide +kernel
theorem dX4_append_7 : decode cX4_append 7 = .ok (.aload_n 0, 1) := by decide +kernel
theorem dX4_append_8 : decode cX4_append 8 = .ok (.getfield 7, 3) := by decide +kernel
theorem dX4_append_11 : decode cX4_append 11 = .ok (.aload_n 0, 1) := by decide +kernel
theorem dX4_append_12 : decode cX4_append 12 = .ok (.getfield 13, 3) := by decide +kernel
theorem dX4_append_15 : decode cX4_append 15 = .ok (.iload_n 1, 1) := by decide +kernel
theorem dX4_append_16 : decode cX4_append 16 = .ok (.iastore, 1) := by decide +kernel
theorem dX4_append_17 : decode cX4_append 17 = .ok (.aload_n 0, 1) := by decide +kernel
theorem dX4_append_18 : decode cX4_append 18 = .ok (.dup, 1) := by decide +kernel
theorem dX4_append_19 : decode cX4_append 19 = .ok (.getfield 13, 3) := by decide +kernel
theorem dX4_append_22 : decode cX4_append 22 = .ok (.iconst 1, 1) := by decide +kernel
theorem dX4_append_23 : decode cX4_append 23 = .ok (.iadd, 1) := by decide +kernel
theorem dX4_append_24 : decode cX4_append 24 = .ok (.putfield 13, 3) := by decide +kernel
theorem dX4_append_27 : decode cX4_append 27 = .ok (.return_, 1) := by decide +kernel
theorem dX4_clear_0 : decode cX4_clear 0 = .ok (.aload_n 0, 1) := by decide +kernel
theorem dX4_clear_1 : decode cX4_clear 1 = .ok (.iconst 0, 1) := by decide +kernel
theorem dX4_clear_2 : decode cX4_clear 2 = .ok (.putfield 13, 3) := by decide +kernel
theorem dX4_clear_5 : decode cX4_clear 5 = .ok (.return_, 1) := by decide +kernel
theorem dX5_init_0 : decode cX5_init 0 = .ok (.aload_n 0, 1) := by decide +kernel
theorem dX5_init_1 : decode cX5_init 1 = .ok (.invokespecial 3, 3) := by decide +kernel
theorem dX5_init_4 : decode cX5_init 4 = .ok (.aload_n 0, 1) := by decide +kernel
theorem dX5_init_5 : decode cX5_init 5 = .ok (.new 9, 3) := by decide +kernel
theorem dX5_init_8 : decode cX5_init 8 = .ok (.dup, 1) := by decide +kernel
theorem dX5_init_9 : decode cX5_init 9 = .ok (.invokespecial 11, 3) := by decide +kernel
theorem dX5_init_12 : decode cX5_init 12 = .ok (.putfield 12, 3) := by decide +kernel
theorem dX5_init_15 : decode cX5_init 15 = .ok (.aload_n 0, 1) := by decide +kernel
theorem dX5_init_16 : decode cX5_init 16 = .ok (.new 16, 3) := by decide +kernel
theorem dX5_init_19 : decode cX5_init 19 = .ok (.dup, 1) := by decide +kernel
theorem dX5_init_20 : decode cX5_init 20 = .ok (.sipush 640, 3) := by decide +kernel
theorem dX5_init_23 : decode cX5_init 23 = .ok (.invokespecial 18, 3) := by decide +kernel
theorem dX5_init_26 : decode cX5_init 26 = .ok (.putfield 21, 3) := by decide +kernel
theorem dX5_init_29 : decode cX5_init 29 = .ok (.aload_n 0, 1) := by decide +kernel
theorem dX5_init_30 : decode cX5_init 30 = .ok (.new 16, 3) := by decide +kernel
theorem dX5_init_33 : decode cX5_init 33 = .ok (.dup, 1) := by decide +kernel
theorem dX5_init_34 : decode cX5_init 34 = .ok (.sipush 1000, 3) := by decide +kernel
theorem dX5_init_37 : decode cX5_init 37 = .ok (.invokespecial 18, 3) := by decide +kernel
theorem dX5_init_40 : decode cX5_init 40 = .ok (.putfield 25, 3) := by decide +kernel
theorem dX5_init_43 : decode cX5_init 43 = .ok (.aload_n 0, 1) := by decide +kernel
theorem dX5_init_44 : decode cX5_init 44 = .ok (.bipush 40, 2) := by decide +kernel
theorem dX5_init_46 : decode cX5_init 46 = .ok (.newarray .int, 2) := by decide +kernel
theorem dX5_init_48 : decode cX5_init 48 = .ok (.putfield 28, 3) := by decide +kernel
theorem dX5_init_51 : decode cX5_init 51 = .ok (.aload_n 0, 1) := by decide +kernel
theorem dX5_init_52 : decode cX5_init 52 = .ok (.bipush 40, 2) := by decide +kernel
theorem dX5_init_54 : decode cX5_init 54 = .ok (.newarray .int, 2) := by decide +kernel
theorem dX5_init_56 : decode cX5_init 56 = .ok (.putfield 32, 3) := by decide +kernel
theorem dX5_init_59 : decode cX5_init 59 = .ok (.aload_n 0, 1) := by decide +kernel
theorem dX5_init_60 : decode cX5_init 60 = .ok (.new 35, 3) := by decide +kernel
theorem dX5_init_63 : decode cX5_init 63 = .ok (.dup, 1) := by decide +kernel
theorem dX5_init_64 : decode cX5_init 64 = .ok (.invokespecial 37, 3) := by decide +kernel
theorem dX5_init_67 : decode cX5_init 67 = .ok (.putfield 38, 3) := by decide +kernel
theorem dX5_init_70 : decode cX5_init 70 = .ok (.aload_n 0, 1) := by decide +kernel
theorem dX5_init_71 : decode cX5_init 71 = .ok (.new 42, 3) := by decide +kernel
theorem dX5_init_74 : decode cX5_init 74 = .ok (.dup, 1) := by decide +kernel
theorem dX5_init_75 : decode cX5_init 75 = .ok (.invokespecial 44, 3) := by decide +kernel
theorem dX5_init_78 : decode cX5_init 78 = .ok (.putfield 45, 3) := by decide +kernel
theorem dX5_init_81 : decode cX5_init 81 = .ok (.aload_n 0, 1) := by decide +kernel
theorem dX5_init_82 : decode cX5_init 82 = .ok (.new 49, 3) := by decide +kernel
theorem dX5_init_85 : decode cX5_init 85 = .ok (.dup, 1) := by decide +kernel
theorem dX5_init_86 : decode cX5_init 86 = .ok (.invokespecial 51, 3) := by decide +kernel
theorem dX5_init_89 : decode cX5_init 89 = .ok (.putfield 52, 3) := by decide +kernel
theorem dX5_init_92 : decode cX5_init 92 = .ok (.aload_n 0, 1) := by decide +kernel
theorem dX5_init_93 : decode cX5_init 93 = .ok (.iconst 0, 1) := by decide +kernel
theorem dX5_init_94 : decode cX5_init 94 = .ok (.putfield 56, 3) := by decide +kernel
theorem dX5_init_97 : decode cX5_init 97 = .ok (.return_, 1) := by decide +kernel
theorem dX5_reset_0 : decode cX5_reset 0 = .ok (.iload_n 2, 1) := by decide +kernel
theorem dX5_reset_1 : decode cX5_reset 1 = .ok (.iconst 1, 1) := by decide +kernel
theorem dX5_reset_2 : decode cX5_reset 2 = .ok (.if_icmp .lt 9, 3) := by decide +kernel
theorem dX5_reset_5 : decode cX5_reset 5 = .ok (.iload_n 2, 1) := by decide +kernel
theorem dX5_reset_6 : decode cX5_reset 6 = .ok (.bipush 16, 2) := by decide +kernel
theorem dX5_reset_8 : decode cX5_reset 8 = .ok (.if_icmp .le 13, 3) := by decide +kernel
theorem dX5_reset_11 : decode cX5_reset 11 = .ok (.new 60, 3) := by decide +kernel
theorem dX5_reset_14 : decode cX5_reset 14 = .ok (.dup, 1) := by decide +kernel
theorem dX5_reset_15 : decode cX5_reset 15 = .ok (.ldc 62, 2) := by decide +kernel
theorem dX5_reset_17 : decode cX5_reset 17 = .ok (.invokespecial 64, 3) := by decide +kernel
theorem dX5_reset_20 : decode cX5_reset 20 = .ok (.athrow, 1) := by decide +kernel
theorem dX5_reset_21 : decode cX5_reset 21 = .ok (.aload_n 0, 1) := by decide +kernel
theorem dX5_reset_22 : decode cX5_reset 22 = .ok (.getfield 12, 3) := by decide +kernel
theorem dX5_reset_25 : decode cX5_reset 25 = .ok (.getfield 67, 3) := by decide +kernel
theorem dX5_reset_28 : decode cX5_reset 28 = .ok (.istore_n 3, 1) := by decide +kernel
theorem dX5_reset_29 : decode cX5_reset 29 = .ok (.aload_n 0, 1) := by decide +kernel
theorem dX5_reset_30 : decode cX5_reset 30 = .ok (.getfield 12, 3) := by decide +kernel
theorem dX5_reset_33 : decode cX5_reset 33 = .ok (.iload_n 1, 1) := by decide +kernel
theorem dX5_reset_34 : decode cX5_reset 34 = .ok (.iload_n 2, 1) := by decide +kernel
theorem dX5_reset_35 : decode cX5_reset 35 = .ok (.invokevirtual 71, 3) := by decide +kernel
theorem dX5_reset_38 : decode cX5_reset 38 = .ok (.aload_n 0, 1) := by decide +kernel
theorem dX5_reset_39 : decode cX5_reset 39 = .ok (.invokevirtual 75, 3) := by decide +kernel
theorem dX5_reset_42 : decode cX5_reset 42 = .ok (.iload_n 3, 1) := by decide +kernel
theorem dX5_reset_43 : decode cX5_reset 43 = .ok (.ireturn, 1) := by decide +kernel
theorem dX5_edge_0 : decode cX5_edge 0 = .ok (.aload_n 0, 1) := by decide +kernel
theorem dX5_edge_1 : decode cX5_edge 1 = .ok (.iload_n 1, 1) := by decide +kernel
theorem dX5_edge_2 : decode cX5_edge 2 = .ok (.invokevirtual 78, 3) := by decide +kernel
theorem dX5_edge_5 : decode cX5_edge 5 = .ok (.aload_n 0, 1) := by decide +kernel
theorem dX5_edge_6 : decode cX5_edge 6 = .ok (.iload_n 2, 1) := by decide +kernel
theorem dX5_edge_7 : decode cX5_edge 7 = .ok (.invokevirtual 78, 3) := by decide +kernel
theorem dX5_edge_10 : decode cX5_edge 10 = .ok (.iload_n 3, 1) := by decide +kernel
theorem dX5_edge_11 : decode cX5_edge 11 = .ok (.ifCond .lt 9, 3) := by decide +kernel
theorem dX5_edge_14 : decode cX5_edge 14 = .ok (.iload_n 3, 1) := by decide +kernel
theorem dX5_edge_15 : decode cX5_edge 15 = .ok (.ldc 81, 2) := by decide +kernel
theorem dX5_edge_17 : decode cX5_edge 17 = .ok (.if_icmp .le 13, 3) := by decide +kernel
theorem dX5_edge_20 : decode cX5_edge 20 = .ok (.new 60, 3) := by decide +kernel
theorem dX5_edge_23 : decode cX5_edge 23 = .ok (.dup, 1) := by decide +kernel
theorem dX5_edge_24 : decode cX5_edge 24 = .ok (.ldc 82, 2) := by decide +kernel
theorem dX5_edge_26 : decode cX5_edge 26 = .ok (.invokespecial 64, 3) := by decide +kernel
theorem dX5_edge_29 : decode cX5_edge 29 = .ok (.athrow, 1) := by decide +kernel
theorem dX5_edge_30 : decode cX5_edge 30 = .ok (.aload_n 0, 1) := by decide +kernel
theorem dX5_edge_31 : decode cX5_edge 31 = .ok (.getfield 12, 3) := by decide +kernel
theorem dX5_edge_34 : decode cX5_edge 34 = .ok (.getfield 67, 3) := by decide +kernel
theorem dX5_edge_37 : decode cX5_edge 37 = .ok (.bipush 40, 2) := by decide +kernel
theorem dX5_edge_39 : decode cX5_edge 39 = .ok (.if_icmp .lt 13, 3) := by decide +kernel
theorem dX5_edge_42 : decode cX5_edge 42 = .ok (.new 84, 3) := by decide +kernel
theorem dX5_edge_45 : decode cX5_edge 45 = .ok (.dup, 1) := by decide +kernel
theorem dX5_edge_46 : decode cX5_edge 46 = .ok (.ldc 86, 2) := by decide +kernel
theorem dX5_edge_48 : decode cX5_edge 48 = .ok (.invokespecial 88, 3) := by decide +kernel
theorem dX5_edge_51 : decode cX5_edge 51 = .ok (.athrow, 1) := by decide +kernel
theorem dX5_edge_52 : decode cX5_edge 52 = .ok (.aload_n 0, 1) := by decide +kernel
theorem dX5_edge_53 : decode cX5_edge 53 = .ok (.getfield 12, 3) := by decide +kernel
theorem dX5_edge_56 : decode cX5_edge 56 = .ok (.iload_n 1, 1) := by decide +kernel
theorem dX5_edge_57 : decode cX5_edge 57 = .ok (.iload_n 2, 1) := by decide +kernel
theorem dX5_edge_58 : decode cX5_edge 58 = .ok (.iload_n 3, 1) := by decide +kernel
theorem dX5_edge_59 : decode cX5_edge 59 = .ok (.invokevirtual 89, 3) := by decide +kernel
theorem dX5_edge_62 : decode cX5_edge 62 = .ok (.aload_n 0, 1) := by decide +kernel
theorem dX5_edge_63 : decode cX5_edge 63 = .ok (.invokevirtual 75, 3) := by decide +kernel
theorem dX5_edge_66 : decode cX5_edge 66 = .ok (.aload_n 0, 1) := by decide +kernel
theorem dX5_edge_67 : decode cX5_edge 67 = .ok (.getfield 12, 3) := by decide +kernel
theorem dX5_edge_70 : decode cX5_edge 70 = .ok (.getfield 67, 3) := by decide +kernel
theorem dX5_edge_73 : decode cX5_edge 73 = .ok (.iconst 1, 1) := by decide +kernel
theorem dX5_edge_74 : decode cX5_edge 74 = .ok (.isub, 1) := by decide +kernel
theorem dX5_edge_75 : decode cX5_edge 75 = .ok (.ireturn, 1) := by decide +kernel
theorem dX5_drop_0 : decode cX5_drop 0 = .ok (.aload_n 0, 1) := by decide +kernel
theorem dX5_drop_1 : decode cX5_drop 1 = .ok (.getfield 12, 3) := by decide +kernel
theorem dX5_drop_4 : decode cX5_drop 4 = .ok (.getfield 67, 3) := by decide +kernel
theorem dX5_drop_7 : decode cX5_drop 7 = .ok (.ifCond .ne 13, 3) := by decide +kernel
theorem dX5_drop_10 : decode cX5_drop 10 = .ok (.new 84, 3) := by decide +kernel
theorem dX5_drop_13 : decode cX5_drop 13 = .ok (.dup, 1) := by decide +kernel
theorem dX5_drop_14 : decode cX5_drop 14 = .ok (.ldc 93, 2) := by decide +kernel
theorem dX5_drop_16 : decode cX5_drop 16 = .ok (.invokespecial 88, 3) := by decide +kernel
theorem dX5_drop_19 : decode cX5_drop 19 = .ok (.athrow, 1) := by decide +kernel
theorem dX5_drop_20 : decode cX5_drop 20 = .ok (.aload_n 0, 1) := by decide +kernel
theorem dX5_drop_21 : decode cX5_drop 21 = .ok (.getfield 12, 3) := by decide +kernel
theorem dX5_drop_24 : decode cX5_drop 24 = .ok (.invokevirtual 95, 3) := by decide +kernel
theorem dX5_drop_27 : decode cX5_drop 27 = .ok (.aload_n 0, 1) := by decide +kernel
theorem dX5_drop_28 : decode cX5_drop 28 = .ok (.invokevirtual 75, 3) := by decide +kernel
theorem dX5_drop_31 : decode cX5_drop 31 = .ok (.aload_n 0, 1) := by decide +kernel
theorem dX5_drop_32 : decode cX5_drop 32 = .ok (.getfield 12, 3) := by decide +kernel
theorem dX5_drop_35 : decode cX5_drop 35 = .ok (.getfield 67, 3) := by decide +kernel
theorem dX5_drop_38 : decode cX5_drop 38 = .ok (.ireturn, 1) := by decide +kernel
theorem dX5_distance_0 : decode cX5_distance 0 = .ok (.aload_n 0, 1) := by decide +kernel
theorem dX5_distance_1 : decode cX5_distance 1 = .ok (.iload_n 1, 1) := by decide +kernel
theorem dX5_distance_2 : decode cX5_distance 2 = .ok (.invokevirtual 78, 3) := by decide +kernel
theorem dX5_distance_5 : decode cX5_distance 5 = .ok (.aload_n 0, 1) := by decide +kernel
theorem dX5_distance_6 : decode cX5_distance 6 = .ok (.iload_n 2, 1) := by decide +kernel
theorem dX5_distance_7 : decode cX5_distance 7 = .ok (.invokevirtual 78, 3) := by decide +kernel
theorem dX5_distance_10 : decode cX5_distance 10 = .ok (.aload_n 0, 1) := by decide +kernel
theorem dX5_distance_11 : decode cX5_distance 11 = .ok (.getfield 38, 3) := by decide +kernel
theorem dX5_distance_14 : decode cX5_distance 14 = .ok (.iload_n 1, 1) := by decide +kernel
theorem dX5_distance_15 : decode cX5_distance 15 = .ok (.aload_n 0, 1) := by decide +kernel
theorem dX5_distance_16 : decode cX5_distance 16 = .ok (.getfield 12, 3) := by decide +kernel
theorem dX5_distance_19 : decode cX5_distance 19 = .ok (.invokevirtual 98, 3) := by decide +kernel
theorem dX5_distance_22 : decode cX5_distance 22 = .ok (.aload_n 0, 1) := by decide +kernel
theorem dX5_distance_23 : decode cX5_distance 23 = .ok (.getfield 38, 3) := by decide +kernel
theorem dX5_distance_26 : decode cX5_distance 26 = .ok (.getfield 102, 3) := by decide +kernel
theorem dX5_distance_29 : decode cX5_distance 29 = .ok (.iload_n 2, 1) := by decide +kernel
theorem dX5_distance_30 : decode cX5_distance 30 = .ok (.baload, 1) := by decide +kernel
theorem dX5_distance_31 : decode cX5_distance 31 = .ok (.ifCond .eq 15, 3) := by decide +kernel
theorem dX5_distance_34 : decode cX5_distance 34 = .ok (.aload_n 0, 1) := by decide +kernel
theorem dX5_distance_35 : decode cX5_distance 35 = .ok (.getfield 38, 3) := by decide +kernel
theorem dX5_distance_38 : decode cX5_distance 38 = .ok (.getfield 106, 3) := by decide +kernel
theorem dX5_distance_41 : decode cX5_distance 41 = .ok (.iload_n 2, 1) := by decide +kernel
theorem dX5_distance_42 : decode cX5_distance 42 = .ok (.laload, 1) := by decide +kernel
theorem dX5_distance_43 : decode cX5_distance 43 = .ok (.goto 6, 3) := by decide +kernel
theorem dX5_distance_46 : decode cX5_distance 46 = .ok (.ldc2_w 110, 3) := by decide +kernel
theorem dX5_distance_49 : decode cX5_distance 49 = .ok (.lreturn, 1) := by decide +kernel
theorem dX5_tour_0 : decode cX5_tour 0 = .ok (.aload_n 0, 1) := by decide +kernel
theorem dX5_tour_1 : decode cX5_tour 1 = .ok (.iload_n 1, 1) := by decide +kernel
theorem dX5_tour_2 : decode cX5_tour 2 = .ok (.invokevirtual 78, 3) := by decide +kernel
theorem dX5_tour_5 : decode cX5_tour 5 = .ok (.aload_n 0, 1) := by decide +kernel
theorem dX5_tour_6 : decode cX5_tour 6 = .ok (.getfield 12, 3) := by decide +kernel
theorem dX5_tour_9 : decode cX5_tour 9 = .ok (.invokevirtual 112, 3) := by decide +kernel
theorem dX5_tour_12 : decode cX5_tour 12 = .ok (.ifCond .eq 6, 3) := by decide +kernel
theorem dX5_tour_15 : decode cX5_tour 15 = .ok (.bipush (-2), 2) := by decide +kernel
theorem dX5_tour_17 : decode cX5_tour 17 = .ok (.ireturn, 1) := by decide +kernel
theorem dX5_tour_18 : decode cX5_tour 18 = .ok (.aload_n 0, 1) := by decide +kernel
theorem dX5_tour_19 : decode cX5_tour 19 = .ok (.invokevirtual 116, 3) := by decide +kernel
theorem dX5_tour_22 : decode cX5_tour 22 = .ok (.aload_n 0, 1) := by decide +kernel
theorem dX5_tour_23 : decode cX5_tour 23 = .ok (.getfield 12, 3) := by decide +kernel
theorem dX5_tour_26 : decode cX5_tour 26 = .ok (.iload_n 1, 1) := by decide +kernel
theorem dX5_tour_27 : decode cX5_tour 27 = .ok (.aload_n 0, 1) := by decide +kernel
theorem dX5_tour_28 : decode cX5_tour 28 = .ok (.getfield 28, 3) := by decide +kernel
theorem dX5_tour_31 : decode cX5_tour 31 = .ok (.invokevirtual 119, 3) := by decide +kernel
theorem dX5_tour_34 : decode cX5_tour 34 = .ok (.ifCond .ne 5, 3) := by decide +kernel
theorem dX5_tour_37 : decode cX5_tour 37 = .ok (.iconst (-1), 1) := by decide +kernel
theorem dX5_tour_38 : decode cX5_tour 38 = .ok (.ireturn, 1) := by decide +kernel
theorem dX5_tour_39 : decode cX5_tour 39 = .ok (.aload_n 0, 1) := by decide +kernel
theorem dX5_tour_40 : decode cX5_tour 40 = .ok (.iload_n 1, 1) := by decide +kernel
theorem dX5_tour_41 : decode cX5_tour 41 = .ok (.invokevirtual 123, 3) := by decide +kernel
theorem dX5_tour_44 : decode cX5_tour 44 = .ok (.aload_n 0, 1) := by decide +kernel
theorem dX5_tour_45 : decode cX5_tour 45 = .ok (.getfield 21, 3) := by decide +kernel
theorem dX5_tour_48 : decode cX5_tour 48 = .ok (.getfield 126, 3) := by decide +kernel
theorem dX5_tour_51 : decode cX5_tour 51 = .ok (.ireturn, 1) := by decide +kernel
theorem dX5_round_0 : decode cX5_round 0 = .ok (.aload_n 0, 1) := by decide +kernel
theorem dX5_round_1 : decode cX5_round 1 = .ok (.iload_n 1, 1) := by decide +kernel
theorem dX5_round_2 : decode cX5_round 2 = .ok (.invokevirtual 78, 3) := by decide +kernel
theorem dX5_round_5 : decode cX5_round 5 = .ok (.aload_n 0, 1) := by decide +kernel
theorem dX5_round_6 : decode cX5_round 6 = .ok (.invokevirtual 116, 3) := by decide +kernel
theorem dX5_round_9 : decode cX5_round 9 = .ok (.aload_n 0, 1) := by decide +kernel
theorem dX5_round_10 : decode cX5_round 10 = .ok (.getfield 12, 3) := by decide +kernel
theorem dX5_round_13 : decode cX5_round 13 = .ok (.iload_n 1, 1) := by decide +kernel
theorem dX5_round_14 : decode cX5_round 14 = .ok (.aload_n 0, 1) := by decide +kernel
theorem dX5_round_15 : decode cX5_round 15 = .ok (.getfield 28, 3) := by decide +kernel
theorem dX5_round_18 : decode cX5_round 18 = .ok (.invokevirtual 129, 3) := by decide +kernel
theorem dX5_round_21 : decode cX5_round 21 = .ok (.ifCond .ne 7, 3) := by decide +kernel
theorem dX5_round_24 : decode cX5_round 24 = .ok (.ldc2_w 110, 3) := by decide +kernel
theorem dX5_round_27 : decode cX5_round 27 = .ok (.lreturn, 1) := by decide +kernel
theorem dX5_round_28 : decode cX5_round 28 = .ok (.aload_n 0, 1) := by decide +kernel
theorem dX5_round_29 : decode cX5_round 29 = .ok (.invokevirtual 132, 3) := by decide +kernel
theorem dX5_round_32 : decode cX5_round 32 = .ok (.lconst 0, 1) := by decide +kernel
theorem dX5_round_33 : decode cX5_round 33 = .ok (.lstore_n 2, 1) := by decide +kernel
theorem dX5_round_34 : decode cX5_round 34 = .ok (.iconst 0, 1) := by decide +kernel
theorem dX5_round_35 : decode cX5_round 35 = .ok (.istore 4, 2) := by decide +kernel
theorem dX5_round_37 : decode cX5_round 37 = .ok (.iload 4, 2) := by decide +kernel
theorem dX5_round_39 : decode cX5_round 39 = .ok (.aload_n 0, 1) := by decide +kernel
theorem dX5_round_40 : decode cX5_round 40 = .ok (.getfield 12, 3) := by decide +kernel
theorem dX5_round_43 : decode cX5_round 43 = .ok (.getfield 67, 3) := by decide +kernel
theorem dX5_round_46 : decode cX5_round 46 = .ok (.if_icmp .ge 48, 3) := by decide +kernel
theorem dX5_round_49 : decode cX5_round 49 = .ok (.aload_n 0, 1) := by decide +kernel
theorem dX5_round_50 : decode cX5_round 50 = .ok (.getfield 28, 3) := by decide +kernel
theorem dX5_round_53 : decode cX5_round 53 = .ok (.iload 4, 2) := by decide +kernel
theorem dX5_round_55 : decode cX5_round 55 = .ok (.iconst 1, 1) := by decide +kernel
theorem dX5_round_56 : decode cX5_round 56 = .ok (.aload_n 0, 1) := by decide +kernel
theorem dX5_round_57 : decode cX5_round 57 = .ok (.getfield 32, 3) := by decide +kernel
theorem dX5_round_60 : decode cX5_round 60 = .ok (.iload 4, 2) := by decide +kernel
theorem dX5_round_62 : decode cX5_round 62 = .ok (.iaload, 1) := by decide +kernel
theorem dX5_round_63 : decode cX5_round 63 = .ok (.iadd, 1) := by decide +kernel
theorem dX5_round_64 : decode cX5_round 64 = .ok (.iastore, 1) := by decide +kernel
theorem dX5_round_65 : decode cX5_round 65 = .ok (.lload_n 2, 1) := by decide +kernel
theorem dX5_round_66 : decode cX5_round 66 = .ok (.aload_n 0, 1) := by decide +kernel
theorem dX5_round_67 : decode cX5_round 67 = .ok (.getfield 28, 3) := by decide +kernel
theorem dX5_round_70 : decode cX5_round 70 = .ok (.iload 4, 2) := by decide +kernel
theorem dX5_round_72 : decode cX5_round 72 = .ok (.iaload, 1) := by decide +kernel
theorem dX5_round_73 : decode cX5_round 73 = .ok (.i2l, 1) := by decide +kernel
theorem dX5_round_74 : decode cX5_round 74 = .ok (.aload_n 0, 1) := by decide +kernel
theorem dX5_round_75 : decode cX5_round 75 = .ok (.getfield 12, 3) := by decide +kernel
theorem dX5_round_78 : decode cX5_round 78 = .ok (.getfield 135, 3) := by decide +kernel
theorem dX5_round_81 : decode cX5_round 81 = .ok (.iload 4, 2) := by decide +kernel
theorem dX5_round_83 : decode cX5_round 83 = .ok (.iaload, 1) := by decide +kernel
theorem dX5_round_84 : decode cX5_round 84 = .ok (.i2l, 1) := by decide +kernel
theorem dX5_round_85 : decode cX5_round 85 = .ok (.lmul, 1) := by decide +kernel
theorem dX5_round_86 : decode cX5_round 86 = .ok (.ladd, 1) := by decide +kernel
theorem dX5_round_87 : decode cX5_round 87 = .ok (.lstore_n 2, 1) := by decide +kernel
theorem dX5_round_88 : decode cX5_round 88 = .ok (.iinc 4 1, 3) := by decide +kernel
theorem dX5_round_91 : decode cX5_round 91 = .ok (.goto (-54), 3) := by decide +kernel
theorem dX5_round_94 : decode cX5_round 94 = .ok (.aload_n 0, 1) := by decide +kernel
theorem dX5_round_95 : decode cX5_round 95 = .ok (.iload_n 1, 1) := by decide +kernel
theorem dX5_round_96 : decode cX5_round 96 = .ok (.invokevirtual 123, 3) := by decide +kernel
theorem dX5_round_99 : decode cX5_round 99 = .ok (.lload_n 2, 1) := by decide +kernel
theorem dX5_round_100 : decode cX5_round 100 = .ok (.lreturn, 1) := by decide +kernel
theorem dX5_extra_0 : decode cX5_extra 0 = .ok (.iload_n 1, 1) := by decide +kernel
theorem dX5_extra_1 : decode cX5_extra 1 = .ok (.ifCond .lt 14, 3) := by decide +kernel
theorem dX5_extra_4 : decode cX5_extra 4 = .ok (.iload_n 1, 1) := by decide +kernel
theorem dX5_extra_5 : decode cX5_extra 5 = .ok (.aload_n 0, 1) := by decide +kernel
theorem dX5_extra_6 : decode cX5_extra 6 = .ok (.getfield 12, 3) := by decide +kernel
theorem dX5_extra_9 : decode cX5_extra 9 = .ok (.getfield 67, 3) := by decide +kernel
theorem dX5_extra_12 : decode cX5_extra 12 = .ok (.if_icmp .lt 13, 3) := by decide +kernel
theorem dX5_extra_15 : decode cX5_extra 15 = .ok (.new 138, 3) := by decide +kernel
theorem dX5_extra_18 : decode cX5_extra 18 = .ok (.dup, 1) := by decide +kernel
theorem dX5_extra_19 : decode cX5_extra 19 = .ok (.ldc 140, 2) := by decide +kernel
theorem dX5_extra_21 : decode cX5_extra 21 = .ok (.invokespecial 142, 3) := by decide +kernel
theorem dX5_extra_24 : decode cX5_extra 24 = .ok (.athrow, 1) := by decide +kernel
theorem dX5_extra_25 : decode cX5_extra 25 = .ok (.aload_n 0, 1) := by decide +kernel
theorem dX5_extra_26 : decode cX5_extra 26 = .ok (.getfield 56, 3) := by decide +kernel
theorem dX5_extra_29 : decode cX5_extra 29 = .ok (.ifCond .ne 13, 3) := by decide +kernel
theorem dX5_extra_32 : decode cX5_extra 32 = .ok (.new 84, 3) := by decide +kernel
theorem dX5_extra_35 : decode cX5_extra 35 = .ok (.dup, 1) := by decide +kernel
theorem dX5_extra_36 : decode cX5_extra 36 = .ok (.ldc 143, 2) := by decide +kernel
theorem dX5_extra_38 : decode cX5_extra 38 = .ok (.invokespecial 88, 3) := by decide +kernel
theorem dX5_extra_41 : decode cX5_extra 41 = .ok (.athrow, 1) := by decide +kernel
theorem dX5_extra_42 : decode cX5_extra 42 = .ok (.aload_n 0, 1) := by decide +kernel
theorem dX5_extra_43 : decode cX5_extra 43 = .ok (.getfield 32, 3) := by decide +kernel
theorem dX5_extra_46 : decode cX5_extra 46 = .ok (.iload_n 1, 1) := by decide +kernel
theorem dX5_extra_47 : decode cX5_extra 47 = .ok (.iaload, 1) := by decide +kernel
theorem dX5_extra_48 : decode cX5_extra 48 = .ok (.ireturn, 1) := by decide +kernel
theorem dX5_row_0 : decode cX5_row 0 = .ok (.iload_n 1, 1) := by decide +kernel
theorem dX5_row_1 : decode cX5_row 1 = .ok (.ifCond .lt 14, 3) := by decide +kernel
theorem dX5_row_4 : decode cX5_row 4 = .ok (.iload_n 1, 1) := by decide +kernel
theorem dX5_row_5 : decode cX5_row 5 = .ok (.aload_n 0, 1) := by decide +kernel
theorem dX5_row_6 : decode cX5_row 6 = .ok (.getfield 21, 3) := by decide +kernel
theorem dX5_row_9 : decode cX5_row 9 = .ok (.getfield 126, 3) := by decide +kernel
theorem dX5_row_12 : decode cX5_row 12 = .ok (.if_icmp .lt 13, 3) := by decide +kernel
theorem dX5_row_15 : decode cX5_row 15 = .ok (.new 138, 3) := by decide +kernel
theorem dX5_row_18 : decode cX5_row 18 = .ok (.dup, 1) := by decide +kernel
theorem dX5_row_19 : decode cX5_row 19 = .ok (.ldc 145, 2) := by decide +kernel
theorem dX5_row_21 : decode cX5_row 21 = .ok (.invokespecial 142, 3) := by decide +kernel
theorem dX5_row_24 : decode cX5_row 24 = .ok (.athrow, 1) := by decide +kernel
theorem dX5_row_25 : decode cX5_row 25 = .ok (.aload_n 0, 1) := by decide +kernel
theorem dX5_row_26 : decode cX5_row 26 = .ok (.getfield 21, 3) := by decide +kernel
theorem dX5_row_29 : decode cX5_row 29 = .ok (.getfield 147, 3) := by decide +kernel
theorem dX5_row_32 : decode cX5_row 32 = .ok (.iload_n 1, 1) := by decide +kernel
theorem dX5_row_33 : decode cX5_row 33 = .ok (.iaload, 1) := by decide +kernel
theorem dX5_row_34 : decode cX5_row 34 = .ok (.ireturn, 1) := by decide +kernel
theorem dX5_step_0 : decode cX5_step 0 = .ok (.aload_n 0, 1) := by decide +kernel
theorem dX5_step_1 : decode cX5_step 1 = .ok (.getfield 25, 3) := by decide +kernel
theorem dX5_step_4 : decode cX5_step 4 = .ok (.invokevirtual 150, 3) := by decide +kernel
theorem dX5_step_7 : decode cX5_step 7 = .ok (.ifCond .eq 13, 3) := by decide +kernel
theorem dX5_step_10 : decode cX5_step 10 = .ok (.new 84, 3) := by decide +kernel
theorem dX5_step_13 : decode cX5_step 13 = .ok (.dup, 1) := by decide +kernel
theorem dX5_step_14 : decode cX5_step 14 = .ok (.ldc 154, 2) := by decide +kernel
theorem dX5_step_16 : decode cX5_step 16 = .ok (.invokespecial 88, 3) := by decide +kernel
theorem dX5_step_19 : decode cX5_step 19 = .ok (.athrow, 1) := by decide +kernel
theorem dX5_step_20 : decode cX5_step 20 = .ok (.aload_n 0, 1) := by decide +kernel
theorem dX5_step_21 : decode cX5_step 21 = .ok (.getfield 25, 3) := by decide +kernel
theorem dX5_step_24 : decode cX5_step 24 = .ok (.iload_n 1, 1) := by decide +kernel
theorem dX5_step_25 : decode cX5_step 25 = .ok (.invokevirtual 156, 3) := by decide +kernel
theorem dX5_step_28 : decode cX5_step 28 = .ok (.aload_n 0, 1) := by decide +kernel
theorem dX5_step_29 : decode cX5_step 29 = .ok (.getfield 25, 3) := by decide +kernel
theorem dX5_step_32 : decode cX5_step 32 = .ok (.getfield 126, 3) := by decide +kernel
theorem dX5_step_35 : decode cX5_step 35 = .ok (.ireturn, 1) := by decide +kernel
theorem dX5_judge_0 : decode cX5_judge 0 = .ok (.aload_n 0, 1) := by decide +kernel
theorem dX5_judge_1 : decode cX5_judge 1 = .ok (.iload_n 1, 1) := by decide +kernel
theorem dX5_judge_2 : decode cX5_judge 2 = .ok (.invokevirtual 78, 3) := by decide +kernel
theorem dX5_judge_5 : decode cX5_judge 5 = .ok (.aload_n 0, 1) := by decide +kernel
theorem dX5_judge_6 : decode cX5_judge 6 = .ok (.iload_n 1, 1) := by decide +kernel
theorem dX5_judge_7 : decode cX5_judge 7 = .ok (.invokevirtual 159, 3) := by decide +kernel
theorem dX5_judge_10 : decode cX5_judge 10 = .ok (.lstore_n 2, 1) := by decide +kernel
theorem dX5_judge_11 : decode cX5_judge 11 = .ok (.aload_n 0, 1) := by decide +kernel
theorem dX5_judge_12 : decode cX5_judge 12 = .ok (.getfield 25, 3) := by decide +kernel
theorem dX5_judge_15 : decode cX5_judge 15 = .ok (.invokevirtual 163, 3) := by decide +kernel
theorem dX5_judge_18 : decode cX5_judge 18 = .ok (.lload_n 2, 1) := by decide +kernel
theorem dX5_judge_19 : decode cX5_judge 19 = .ok (.lreturn, 1) := by decide +kernel
theorem dX5_look_0 : decode cX5_look 0 = .ok (.iload_n 1, 1) := by decide +kernel
theorem dX5_look_1 : decode cX5_look 1 = .ok (.tableswitch 156 0 8 #[51, 59, 67, 83, 91, 102, 113, 121, 137], 51) := by decide +kernel
theorem dX5_look_52 : decode cX5_look 52 = .ok (.aload_n 0, 1) := by decide +kernel
theorem dX5_look_53 : decode cX5_look 53 = .ok (.getfield 12, 3) := by decide +kernel
theorem dX5_look_56 : decode cX5_look 56 = .ok (.getfield 166, 3) := by decide +kernel
theorem dX5_look_59 : decode cX5_look 59 = .ok (.ireturn, 1) := by decide +kernel
theorem dX5_look_60 : decode cX5_look 60 = .ok (.aload_n 0, 1) := by decide +kernel
theorem dX5_look_61 : decode cX5_look 61 = .ok (.getfield 12, 3) := by decide +kernel
theorem dX5_look_64 : decode cX5_look 64 = .ok (.getfield 67, 3) := by decide +kernel
theorem dX5_look_67 : decode cX5_look 67 = .ok (.ireturn, 1) := by decide +kernel
theorem dX5_look_68 : decode cX5_look 68 = .ok (.aload_n 0, 1) := by decide +kernel
theorem dX5_look_69 : decode cX5_look 69 = .ok (.getfield 12, 3) := by decide +kernel
theorem dX5_look_72 : decode cX5_look 72 = .ok (.getfield 169, 3) := by decide +kernel
theorem dX5_look_75 : decode cX5_look 75 = .ok (.ifCond .eq 7, 3) := by decide +kernel
theorem dX5_look_78 : decode cX5_look 78 = .ok (.iconst 1, 1) := by decide +kernel
theorem dX5_look_79 : decode cX5_look 79 = .ok (.goto 4, 3) := by decide +kernel
theorem dX5_look_82 : decode cX5_look 82 = .ok (.iconst 0, 1) := by decide +kernel
theorem dX5_look_83 : decode cX5_look 83 = .ok (.ireturn, 1) := by decide +kernel
theorem dX5_look_84 : decode cX5_look 84 = .ok (.aload_n 0, 1) := by decide +kernel
theorem dX5_look_85 : decode cX5_look 85 = .ok (.getfield 21, 3) := by decide +kernel
theorem dX5_look_88 : decode cX5_look 88 = .ok (.getfield 126, 3) := by decide +kernel
theorem dX5_look_91 : decode cX5_look 91 = .ok (.ireturn, 1) := by decide +kernel
theorem dX5_look_92 : decode cX5_look 92 = .ok (.aload_n 0, 1) := by decide +kernel
theorem dX5_look_93 : decode cX5_look 93 = .ok (.getfield 12, 3) := by decide +kernel
theorem dX5_look_96 : decode cX5_look 96 = .ok (.invokevirtual 112, 3) := by decide +kernel
theorem dX5_look_99 : decode cX5_look 99 = .ok (.invokestatic 172, 3) := by decide +kernel
theorem dX5_look_102 : decode cX5_look 102 = .ok (.ireturn, 1) := by decide +kernel
theorem dX5_look_103 : decode cX5_look 103 = .ok (.aload_n 0, 1) := by decide +kernel
theorem dX5_look_104 : decode cX5_look 104 = .ok (.getfield 12, 3) := by decide +kernel
theorem dX5_look_107 : decode cX5_look 107 = .ok (.invokevirtual 112, 3) := by decide +kernel
theorem dX5_look_110 : decode cX5_look 110 = .ok (.invokestatic 178, 3) := by decide +kernel
theorem dX5_look_113 : decode cX5_look 113 = .ok (.ireturn, 1) := by decide +kernel
theorem dX5_look_114 : decode cX5_look 114 = .ok (.aload_n 0, 1) := by decide +kernel
theorem dX5_look_115 : decode cX5_look 115 = .ok (.getfield 25, 3) := by decide +kernel
theorem dX5_look_118 : decode cX5_look 118 = .ok (.getfield 126, 3) := by decide +kernel
theorem dX5_look_121 : decode cX5_look 121 = .ok (.ireturn, 1) := by decide +kernel
theorem dX5_look_122 : decode cX5_look 122 = .ok (.aload_n 0, 1) := by decide +kernel
theorem dX5_look_123 : decode cX5_look 123 = .ok (.invokevirtual 116, 3) := by decide +kernel
theorem dX5_look_126 : decode cX5_look 126 = .ok (.aload_n 0, 1) := by decide +kernel
theorem dX5_look_127 : decode cX5_look 127 = .ok (.getfield 12, 3) := by decide +kernel
theorem dX5_look_130 : decode cX5_look 130 = .ok (.aload_n 0, 1) := by decide +kernel
theorem dX5_look_131 : decode cX5_look 131 = .ok (.getfield 28, 3) := by decide +kernel
theorem dX5_look_134 : decode cX5_look 134 = .ok (.invokevirtual 181, 3) := by decide +kernel
theorem dX5_look_137 : decode cX5_look 137 = .ok (.ireturn, 1) := by decide +kernel
theorem dX5_look_138 : decode cX5_look 138 = .ok (.aload_n 0, 1) := by decide +kernel
theorem dX5_look_139 : decode cX5_look 139 = .ok (.invokevirtual 116, 3) := by decide +kernel
theorem dX5_look_142 : decode cX5_look 142 = .ok (.aload_n 0, 1) := by decide +kernel
theorem dX5_look_143 : decode cX5_look 143 = .ok (.getfield 12, 3) := by decide +kernel
theorem dX5_look_146 : decode cX5_look 146 = .ok (.aload_n 0, 1) := by decide +kernel
theorem dX5_look_147 : decode cX5_look 147 = .ok (.getfield 28, 3) := by decide +kernel
theorem dX5_look_150 : decode cX5_look 150 = .ok (.invokevirtual 185, 3) := by decide +kernel
theorem dX5_look_153 : decode cX5_look 153 = .ok (.invokestatic 172, 3) := by decide +kernel
theorem dX5_look_156 : decode cX5_look 156 = .ok (.ireturn, 1) := by decide +kernel
theorem dX5_look_157 : decode cX5_look 157 = .ok (.new 60, 3) := by decide +kernel
theorem dX5_look_160 : decode cX5_look 160 = .ok (.dup, 1) := by decide +kernel
theorem dX5_look_161 : decode cX5_look 161 = .ok (.ldc 188, 2) := by decide +kernel
theorem dX5_look_163 : decode cX5_look 163 = .ok (.invokespecial 64, 3) := by decide +kernel
theorem dX5_look_166 : decode cX5_look 166 = .ok (.athrow, 1) := by decide +kernel
theorem dX5_requireVertex_0 : decode cX5_requireVertex 0 = .ok (.iload_n 1, 1) := by decide +kernel
theorem dX5_requireVertex_1 : decode cX5_requireVertex 1 = .ok (.ifCond .lt 14, 3) := by decide +kernel
theorem dX5_requireVertex_4 : decode cX5_requireVertex 4 = .ok (.iload_n 1, 1) := by decide +kernel
theorem dX5_requireVertex_5 : decode cX5_requireVertex 5 = .ok (.aload_n 0, 1) := by decide +kernel
theorem dX5_requireVertex_6 : decode cX5_requireVertex 6 = .ok (.getfield 12, 3) := by decide +kernel
theorem dX5_requireVertex_9 : decode cX5_requireVertex 9 = .ok (.getfield 166, 3) := by decide +kernel
theorem dX5_requireVertex_12 : decode cX5_requireVertex 12 = .ok (.if_icmp .lt 13, 3) := by decide +kernel
theorem dX5_requireVertex_15 : decode cX5_requireVertex 15 = .ok (.new 60, 3) := by decide +kernel
theorem dX5_requireVertex_18 : decode cX5_requireVertex 18 = .ok (.dup, 1) := by decide +kernel
theorem dX5_requireVertex_19 : decode cX5_requireVertex 19 = .ok (.ldc 190, 2) := by decide +kernel
theorem dX5_requireVertex_21 : decode cX5_requireVertex 21 = .ok (.invokespecial 64, 3) := by decide +kernel
theorem dX5_requireVertex_24 : decode cX5_requireVertex 24 = .ok (.athrow, 1) := by decide +kernel
theorem dX5_requireVertex_25 : decode cX5_requireVertex 25 = .ok (.return_, 1) := by decide +kernel
theorem dX5_forgetAnswers_0 : decode cX5_forgetAnswers 0 = .ok (.aload_n 0, 1) := by decide +kernel
theorem dX5_forgetAnswers_1 : decode cX5_forgetAnswers 1 = .ok (.getfield 21, 3) := by decide +kernel
theorem dX5_forgetAnswers_4 : decode cX5_forgetAnswers 4 = .ok (.invokevirtual 163, 3) := by decide +kernel
theorem dX5_forgetAnswers_7 : decode cX5_forgetAnswers 7 = .ok (.aload_n 0, 1) := by decide +kernel
theorem dX5_forgetAnswers_8 : decode cX5_forgetAnswers 8 = .ok (.iconst 0, 1) := by decide +kernel
theorem dX5_forgetAnswers_9 : decode cX5_forgetAnswers 9 = .ok (.putfield 56, 3) := by decide +kernel
theorem dX5_forgetAnswers_12 : decode cX5_forgetAnswers 12 = .ok (.return_, 1) := by decide +kernel
theorem dX5_useEachEdgeOnce_0 : decode cX5_useEachEdgeOnce 0 = .ok (.iconst 0, 1) := by decide +kernel
theorem dX5_useEachEdgeOnce_1 : decode cX5_useEachEdgeOnce 1 = .ok (.istore_n 1, 1) := by decide +kernel
theorem dX5_useEachEdgeOnce_2 : decode cX5_useEachEdgeOnce 2 = .ok (.iload_n 1, 1) := by decide +kernel
theorem dX5_useEachEdgeOnce_3 : decode cX5_useEachEdgeOnce 3 = .ok (.aload_n 0, 1) := by decide +kernel
theorem dX5_useEachEdgeOnce_4 : decode cX5_useEachEdgeOnce 4 = .ok (.getfield 12, 3) := by decide +kernel
theorem dX5_useEachEdgeOnce_7 : decode cX5_useEachEdgeOnce 7 = .ok (.getfield 67, 3) := by decide +kernel
theorem dX5_useEachEdgeOnce_10 : decode cX5_useEachEdgeOnce 10 = .ok (.if_icmp .ge 16, 3) := by decide +kernel
theorem dX5_useEachEdgeOnce_13 : decode cX5_useEachEdgeOnce 13 = .ok (.aload_n 0, 1) := by decide +kernel
theorem dX5_useEachEdgeOnce_14 : decode cX5_useEachEdgeOnce 14 = .ok (.getfield 28, 3) := by decide +kernel
theorem dX5_useEachEdgeOnce_17 : decode cX5_useEachEdgeOnce 17 = .ok (.iload_n 1, 1) := by decide +kernel
theorem dX5_useEachEdgeOnce_18 : decode cX5_useEachEdgeOnce 18 = .ok (.iconst 1, 1) := by decide +kernel
theorem dX5_useEachEdgeOnce_19 : decode cX5_useEachEdgeOnce 19 = .ok (.iastore, 1) := by decide +kernel
theorem dX5_useEachEdgeOnce_20 : decode cX5_useEachEdgeOnce 20 = .ok (.iinc 1 1, 3) := by decide +kernel
theorem dX5_useEachEdgeOnce_23 : decode cX5_useEachEdgeOnce 23 = .ok (.goto (-21), 3) := by decide +kernel
theorem dX5_useEachEdgeOnce_26 : decode cX5_useEachEdgeOnce 26 = .ok (.return_, 1) := by decide +kernel
theorem dX5_findExtras_0 : decode cX5_findExtras 0 = .ok (.aload_n 0, 1) := by decide +kernel
theorem dX5_findExtras_1 : decode cX5_findExtras 1 = .ok (.getfield 12, 3) := by decide +kernel
theorem dX5_findExtras_4 : decode cX5_findExtras 4 = .ok (.getfield 169, 3) := by decide +kernel
theorem dX5_findExtras_7 : decode cX5_findExtras 7 = .ok (.ifCond .eq 25, 3) := by decide +kernel
theorem dX5_findExtras_10 : decode cX5_findExtras 10 = .ok (.aload_n 0, 1) := by decide +kernel
theorem dX5_findExtras_11 : decode cX5_findExtras 11 = .ok (.getfield 52, 3) := by decide +kernel
theorem dX5_findExtras_14 : decode cX5_findExtras 14 = .ok (.aload_n 0, 1) := by decide +kernel
theorem dX5_findExtras_15 : decode cX5_findExtras 15 = .ok (.getfield 12, 3) := by decide +kernel
theorem dX5_findExtras_18 : decode cX5_findExtras 18 = .ok (.aload_n 0, 1) := by decide +kernel
theorem dX5_findExtras_19 : decode cX5_findExtras 19 = .ok (.getfield 38, 3) := by decide +kernel
theorem dX5_findExtras_22 : decode cX5_findExtras 22 = .ok (.aload_n 0, 1) := by decide +kernel
theorem dX5_findExtras_23 : decode cX5_findExtras 23 = .ok (.getfield 32, 3) := by decide +kernel
theorem dX5_findExtras_26 : decode cX5_findExtras 26 = .ok (.invokevirtual 192, 3) := by decide +kernel
theorem dX5_findExtras_29 : decode cX5_findExtras 29 = .ok (.goto 22, 3) := by decide +kernel
theorem dX5_findExtras_32 : decode cX5_findExtras 32 = .ok (.aload_n 0, 1) := by decide +kernel
theorem dX5_findExtras_33 : decode cX5_findExtras 33 = .ok (.getfield 45, 3) := by decide +kernel
theorem dX5_findExtras_36 : decode cX5_findExtras 36 = .ok (.aload_n 0, 1) := by decide +kernel
theorem dX5_findExtras_37 : decode cX5_findExtras 37 = .ok (.getfield 12, 3) := by decide +kernel
theorem dX5_findExtras_40 : decode cX5_findExtras 40 = .ok (.aload_n 0, 1) := by decide +kernel
theorem dX5_findExtras_41 : decode cX5_findExtras 41 = .ok (.getfield 38, 3) := by decide +kernel
theorem dX5_findExtras_44 : decode cX5_findExtras 44 = .ok (.aload_n 0, 1) := by decide +kernel
theorem dX5_findExtras_45 : decode cX5_findExtras 45 = .ok (.getfield 32, 3) := by decide +kernel
theorem dX5_findExtras_48 : decode cX5_findExtras 48 = .ok (.invokevirtual 196, 3) := by decide +kernel
theorem dX5_findExtras_51 : decode cX5_findExtras 51 = .ok (.aload_n 0, 1) := by decide +kernel
theorem dX5_findExtras_52 : decode cX5_findExtras 52 = .ok (.iconst 1, 1) := by decide +kernel
theorem dX5_findExtras_53 : decode cX5_findExtras 53 = .ok (.putfield 56, 3) := by decide +kernel
theorem dX5_findExtras_56 : decode cX5_findExtras 56 = .ok (.return_, 1) := by decide +kernel
theorem dX5_writeLeastRow_0 : decode cX5_writeLeastRow 0 = .ok (.aload_n 0, 1) := by decide +kernel
theorem dX5_writeLeastRow_1 : decode cX5_writeLeastRow 1 = .ok (.getfield 21, 3) := by decide +kernel
theorem dX5_writeLeastRow_4 : decode cX5_writeLeastRow 4 = .ok (.invokevirtual 163, 3) := by decide +kernel
theorem dX5_writeLeastRow_7 : decode cX5_writeLeastRow 7 = .ok (.iload_n 1, 1) := by decide +kernel
theorem dX5_writeLeastRow_8 : decode cX5_writeLeastRow 8 = .ok (.istore_n 2, 1) := by decide +kernel
theorem dX5_writeLeastRow_9 : decode cX5_writeLeastRow 9 = .ok (.iconst 0, 1) := by decide +kernel
theorem dX5_writeLeastRow_10 : decode cX5_writeLeastRow 10 = .ok (.istore_n 3, 1) := by decide +kernel
theorem dX5_writeLeastRow_11 : decode cX5_writeLeastRow 11 = .ok (.iload_n 3, 1) := by decide +kernel
theorem dX5_writeLeastRow_12 : decode cX5_writeLeastRow 12 = .ok (.sipush 640, 3) := by decide +kernel
theorem dX5_writeLeastRow_15 : decode cX5_writeLeastRow 15 = .ok (.if_icmp .ge 56, 3) := by decide +kernel
theorem dX5_writeLeastRow_18 : decode cX5_writeLeastRow 18 = .ok (.aload_n 0, 1) := by decide +kernel
theorem dX5_writeLeastRow_19 : decode cX5_writeLeastRow 19 = .ok (.iload_n 2, 1) := by decide +kernel
theorem dX5_writeLeastRow_20 : decode cX5_writeLeastRow 20 = .ok (.invokevirtual 197, 3) := by decide +kernel
theorem dX5_writeLeastRow_23 : decode cX5_writeLeastRow 23 = .ok (.istore 4, 2) := by decide +kernel
theorem dX5_writeLeastRow_25 : decode cX5_writeLeastRow 25 = .ok (.iload 4, 2) := by decide +kernel
theorem dX5_writeLeastRow_27 : decode cX5_writeLeastRow 27 = .ok (.ifCond .ge 6, 3) := by decide +kernel
theorem dX5_writeLeastRow_30 : decode cX5_writeLeastRow 30 = .ok (.goto 41, 3) := by decide +kernel
theorem dX5_writeLeastRow_33 : decode cX5_writeLeastRow 33 = .ok (.aload_n 0, 1) := by decide +kernel
theorem dX5_writeLeastRow_34 : decode cX5_writeLeastRow 34 = .ok (.getfield 21, 3) := by decide +kernel
theorem dX5_writeLeastRow_37 : decode cX5_writeLeastRow 37 = .ok (.iload 4, 2) := by decide +kernel
theorem dX5_writeLeastRow_39 : decode cX5_writeLeastRow 39 = .ok (.invokevirtual 156, 3) := by decide +kernel
theorem dX5_writeLeastRow_42 : decode cX5_writeLeastRow 42 = .ok (.aload_n 0, 1) := by decide +kernel
theorem dX5_writeLeastRow_43 : decode cX5_writeLeastRow 43 = .ok (.getfield 28, 3) := by decide +kernel
theorem dX5_writeLeastRow_46 : decode cX5_writeLeastRow 46 = .ok (.iload 4, 2) := by decide +kernel
theorem dX5_writeLeastRow_48 : decode cX5_writeLeastRow 48 = .ok (.iconst 1, 1) := by decide +kernel
theorem dX5_writeLeastRow_49 : decode cX5_writeLeastRow 49 = .ok (.ishr, 1) := by decide +kernel
theorem dX5_writeLeastRow_50 : decode cX5_writeLeastRow 50 = .ok (.dup2, 1) := by decide +kernel
theorem dX5_writeLeastRow_51 : decode cX5_writeLeastRow 51 = .ok (.iaload, 1) := by decide +kernel
theorem dX5_writeLeastRow_52 : decode cX5_writeLeastRow 52 = .ok (.iconst 1, 1) := by decide +kernel
theorem dX5_writeLeastRow_53 : decode cX5_writeLeastRow 53 = .ok (.isub, 1) := by decide +kernel
theorem dX5_writeLeastRow_54 : decode cX5_writeLeastRow 54 = .ok (.iastore, 1) := by decide +kernel
theorem dX5_writeLeastRow_55 : decode cX5_writeLeastRow 55 = .ok (.aload_n 0, 1) := by decide +kernel
theorem dX5_writeLeastRow_56 : decode cX5_writeLeastRow 56 = .ok (.getfield 12, 3) := by decide +kernel
theorem dX5_writeLeastRow_59 : decode cX5_writeLeastRow 59 = .ok (.iload 4, 2) := by decide +kernel
theorem dX5_writeLeastRow_61 : decode cX5_writeLeastRow 61 = .ok (.invokevirtual 200, 3) := by decide +kernel
theorem dX5_writeLeastRow_64 : decode cX5_writeLeastRow 64 = .ok (.istore_n 2, 1) := by decide +kernel
theorem dX5_writeLeastRow_65 : decode cX5_writeLeastRow 65 = .ok (.iinc 3 1, 3) := by decide +kernel
theorem dX5_writeLeastRow_68 : decode cX5_writeLeastRow 68 = .ok (.goto (-57), 3) := by decide +kernel
theorem dX5_writeLeastRow_71 : decode cX5_writeLeastRow 71 = .ok (.return_, 1) := by decide +kernel
theorem dX5_leastStepFrom_0 : decode cX5_leastStepFrom 0 = .ok (.iconst 0, 1) := by decide +kernel
theorem dX5_leastStepFrom_1 : decode cX5_leastStepFrom 1 = .ok (.istore_n 2, 1) := by decide +kernel
theorem dX5_leastStepFrom_2 : decode cX5_leastStepFrom 2 = .ok (.iload_n 2, 1) := by decide +kernel
theorem dX5_leastStepFrom_3 : decode cX5_leastStepFrom 3 = .ok (.iconst 2, 1) := by decide +kernel
theorem dX5_leastStepFrom_4 : decode cX5_leastStepFrom 4 = .ok (.aload_n 0, 1) := by decide +kernel
theorem dX5_leastStepFrom_5 : decode cX5_leastStepFrom 5 = .ok (.getfield 12, 3) := by decide +kernel
theorem dX5_leastStepFrom_8 : decode cX5_leastStepFrom 8 = .ok (.getfield 67, 3) := by decide +kernel
theorem dX5_leastStepFrom_11 : decode cX5_leastStepFrom 11 = .ok (.imul, 1) := by decide +kernel
theorem dX5_leastStepFrom_12 : decode cX5_leastStepFrom 12 = .ok (.if_icmp .ge 42, 3) := by decide +kernel
theorem dX5_leastStepFrom_15 : decode cX5_leastStepFrom 15 = .ok (.aload_n 0, 1) := by decide +kernel
theorem dX5_leastStepFrom_16 : decode cX5_leastStepFrom 16 = .ok (.getfield 28, 3) := by decide +kernel
theorem dX5_leastStepFrom_19 : decode cX5_leastStepFrom 19 = .ok (.iload_n 2, 1) := by decide +kernel
theorem dX5_leastStepFrom_20 : decode cX5_leastStepFrom 20 = .ok (.iconst 1, 1) := by decide +kernel
theorem dX5_leastStepFrom_21 : decode cX5_leastStepFrom 21 = .ok (.ishr, 1) := by decide +kernel
theorem dX5_leastStepFrom_22 : decode cX5_leastStepFrom 22 = .ok (.iaload, 1) := by decide +kernel
theorem dX5_leastStepFrom_23 : decode cX5_leastStepFrom 23 = .ok (.ifCond .le 25, 3) := by decide +kernel
theorem dX5_leastStepFrom_26 : decode cX5_leastStepFrom 26 = .ok (.aload_n 0, 1) := by decide +kernel
theorem dX5_leastStepFrom_27 : decode cX5_leastStepFrom 27 = .ok (.getfield 12, 3) := by decide +kernel
theorem dX5_leastStepFrom_30 : decode cX5_leastStepFrom 30 = .ok (.iload_n 2, 1) := by decide +kernel
theorem dX5_leastStepFrom_31 : decode cX5_leastStepFrom 31 = .ok (.iload_n 1, 1) := by decide +kernel
theorem dX5_leastStepFrom_32 : decode cX5_leastStepFrom 32 = .ok (.invokevirtual 203, 3) := by decide +kernel
theorem dX5_leastStepFrom_35 : decode cX5_leastStepFrom 35 = .ok (.ifCond .eq 13, 3) := by decide +kernel
theorem dX5_leastStepFrom_38 : decode cX5_leastStepFrom 38 = .ok (.aload_n 0, 1) := by decide +kernel
theorem dX5_leastStepFrom_39 : decode cX5_leastStepFrom 39 = .ok (.iload_n 2, 1) := by decide +kernel
theorem dX5_leastStepFrom_40 : decode cX5_leastStepFrom 40 = .ok (.invokevirtual 207, 3) := by decide +kernel
theorem dX5_leastStepFrom_43 : decode cX5_leastStepFrom 43 = .ok (.ifCond .eq 5, 3) := by decide +kernel
theorem dX5_leastStepFrom_46 : decode cX5_leastStepFrom 46 = .ok (.iload_n 2, 1) := by decide +kernel
theorem dX5_leastStepFrom_47 : decode cX5_leastStepFrom 47 = .ok (.ireturn, 1) := by decide +kernel
theorem dX5_leastStepFrom_48 : decode cX5_leastStepFrom 48 = .ok (.iinc 2 1, 3) := by decide +kernel
theorem dX5_leastStepFrom_51 : decode cX5_leastStepFrom 51 = .ok (.goto (-49), 3) := by decide +kernel
theorem dX5_leastStepFrom_54 : decode cX5_leastStepFrom 54 = .ok (.iconst (-1), 1) := by decide +kernel
theorem dX5_leastStepFrom_55 : decode cX5_leastStepFrom 55 = .ok (.ireturn, 1) := by decide +kernel
theorem dX5_leavesWhole_0 : decode cX5_leavesWhole 0 = .ok (.iload_n 1, 1) := by decide +kernel
theorem dX5_leavesWhole_1 : decode cX5_leavesWhole 1 = .ok (.iconst 1, 1) := by decide +kernel
theorem dX5_leavesWhole_2 : decode cX5_leavesWhole 2 = .ok (.ishr, 1) := by decide +kernel
theorem dX5_leavesWhole_3 : decode cX5_leavesWhole 3 = .ok (.istore_n 2, 1) := by decide +kernel
theorem dX5_leavesWhole_4 : decode cX5_leavesWhole 4 = .ok (.aload_n 0, 1) := by decide +kernel
theorem dX5_leavesWhole_5 : decode cX5_leavesWhole 5 = .ok (.getfield 28, 3) := by decide +kernel
theorem dX5_leavesWhole_8 : decode cX5_leavesWhole 8 = .ok (.iload_n 2, 1) := by decide +kernel
theorem dX5_leavesWhole_9 : decode cX5_leavesWhole 9 = .ok (.iaload, 1) := by decide +kernel
theorem dX5_leavesWhole_10 : decode cX5_leavesWhole 10 = .ok (.iconst 1, 1) := by decide +kernel
theorem dX5_leavesWhole_11 : decode cX5_leavesWhole 11 = .ok (.if_icmp .le 5, 3) := by decide +kernel
theorem dX5_leavesWhole_14 : decode cX5_leavesWhole 14 = .ok (.iconst 1, 1) := by decide +kernel
theorem dX5_leavesWhole_15 : decode cX5_leavesWhole 15 = .ok (.ireturn, 1) := by decide +kernel
theorem dX5_leavesWhole_16 : decode cX5_leavesWhole 16 = .ok (.aload_n 0, 1) := by decide +kernel
theorem dX5_leavesWhole_17 : decode cX5_leavesWhole 17 = .ok (.getfield 28, 3) := by decide +kernel
theorem dX5_leavesWhole_20 : decode cX5_leavesWhole 20 = .ok (.iload_n 2, 1) := by decide +kernel
theorem dX5_leavesWhole_21 : decode cX5_leavesWhole 21 = .ok (.dup2, 1) := by decide +kernel
theorem dX5_leavesWhole_22 : decode cX5_leavesWhole 22 = .ok (.iaload, 1) := by decide +kernel
theorem dX5_leavesWhole_23 : decode cX5_leavesWhole 23 = .ok (.iconst 1, 1) := by decide +kernel
theorem dX5_leavesWhole_24 : decode cX5_leavesWhole 24 = .ok (.isub, 1) := by decide +kernel
theorem dX5_leavesWhole_25 : decode cX5_leavesWhole 25 = .ok (.iastore, 1) := by decide +kernel
theorem dX5_leavesWhole_26 : decode cX5_leavesWhole 26 = .ok (.aload_n 0, 1) := by decide +kernel
theorem dX5_leavesWhole_27 : decode cX5_leavesWhole 27 = .ok (.getfield 12, 3) := by decide +kernel
theorem dX5_leavesWhole_30 : decode cX5_leavesWhole 30 = .ok (.aload_n 0, 1) := by decide +kernel
theorem dX5_leavesWhole_31 : decode cX5_leavesWhole 31 = .ok (.getfield 12, 3) := by decide +kernel
theorem dX5_leavesWhole_34 : decode cX5_leavesWhole 34 = .ok (.iload_n 1, 1) := by decide +kernel
theorem dX5_leavesWhole_35 : decode cX5_leavesWhole 35 = .ok (.invokevirtual 200, 3) := by decide +kernel
theorem dX5_leavesWhole_38 : decode cX5_leavesWhole 38 = .ok (.aload_n 0, 1) := by decide +kernel
theorem dX5_leavesWhole_39 : decode cX5_leavesWhole 39 = .ok (.getfield 28, 3) := by decide +kernel
theorem dX5_leavesWhole_42 : decode cX5_leavesWhole 42 = .ok (.invokevirtual 119, 3) := by decide +kernel
theorem dX5_leavesWhole_45 : decode cX5_leavesWhole 45 = .ok (.istore_n 3, 1) := by decide +kernel
theorem dX5_leavesWhole_46 : decode cX5_leavesWhole 46 = .ok (.aload_n 0, 1) := by decide +kernel
theorem dX5_leavesWhole_47 : decode cX5_leavesWhole 47 = .ok (.getfield 28, 3) := by decide +kernel
theorem dX5_leavesWhole_50 : decode cX5_leavesWhole 50 = .ok (.iload_n 2, 1) := by decide +kernel
theorem dX5_leavesWhole_51 : decode cX5_leavesWhole 51 = .ok (.dup2, 1) := by decide +kernel
theorem dX5_leavesWhole_52 : decode cX5_leavesWhole 52 = .ok (.iaload, 1) := by decide +kernel
theorem dX5_leavesWhole_53 : decode cX5_leavesWhole 53 = .ok (.iconst 1, 1) := by decide +kernel
theorem dX5_leavesWhole_54 : decode cX5_leavesWhole 54 = .ok (.iadd, 1) := by decide +kernel
theorem dX5_leavesWhole_55 : decode cX5_leavesWhole 55 = .ok (.iastore, 1) := by decide +kernel
theorem dX5_leavesWhole_56 : decode cX5_leavesWhole 56 = .ok (.iload_n 3, 1) := by decide +kernel
theorem dX5_leavesWhole_57 : decode cX5_leavesWhole 57 = .ok (.ireturn, 1) := by decide +kernel
theorem dX5_verdictOnPath_0 : decode cX5_verdictOnPath 0 = .ok (.aload_n 0, 1) := by decide +kernel
theorem dX5_verdictOnPath_1 : decode cX5_verdictOnPath 1 = .ok (.getfield 28, 3) := by decide +kernel
theorem dX5_verdictOnPath_4 : decode cX5_verdictOnPath 4 = .ok (.iconst 0, 1) := by decide +kernel
theorem dX5_verdictOnPath_5 : decode cX5_verdictOnPath 5 = .ok (.invokestatic 211, 3) := by decide +kernel
theorem dX5_verdictOnPath_8 : decode cX5_verdictOnPath 8 = .ok (.iload_n 1, 1) := by decide +kernel
theorem dX5_verdictOnPath_9 : decode cX5_verdictOnPath 9 = .ok (.istore_n 2, 1) := by decide +kernel
theorem dX5_verdictOnPath_10 : decode cX5_verdictOnPath 10 = .ok (.lconst 0, 1) := by decide +kernel
theorem dX5_verdictOnPath_11 : decode cX5_verdictOnPath 11 = .ok (.lstore_n 3, 1) := by decide +kernel
theorem dX5_verdictOnPath_12 : decode cX5_verdictOnPath 12 = .ok (.iconst 0, 1) := by decide +kernel
theorem dX5_verdictOnPath_13 : decode cX5_verdictOnPath 13 = .ok (.istore 5, 2) := by decide +kernel
theorem dX5_verdictOnPath_15 : decode cX5_verdictOnPath 15 = .ok (.iload 5, 2) := by decide +kernel
theorem dX5_verdictOnPath_17 : decode cX5_verdictOnPath 17 = .ok (.aload_n 0, 1) := by decide +kernel
theorem dX5_verdictOnPath_18 : decode cX5_verdictOnPath 18 = .ok (.getfield 25, 3) := by decide +kernel
theorem dX5_verdictOnPath_21 : decode cX5_verdictOnPath 21 = .ok (.getfield 126, 3) := by decide +kernel
theorem dX5_verdictOnPath_24 : decode cX5_verdictOnPath 24 = .ok (.if_icmp .ge 77, 3) := by decide +kernel
theorem dX5_verdictOnPath_27 : decode cX5_verdictOnPath 27 = .ok (.aload_n 0, 1) := by decide +kernel
theorem dX5_verdictOnPath_28 : decode cX5_verdictOnPath 28 = .ok (.getfield 25, 3) := by decide +kernel
theorem dX5_verdictOnPath_31 : decode cX5_verdictOnPath 31 = .ok (.getfield 147, 3) := by decide +kernel
theorem dX5_verdictOnPath_34 : decode cX5_verdictOnPath 34 = .ok (.iload 5, 2) := by decide +kernel
theorem dX5_verdictOnPath_36 : decode cX5_verdictOnPath 36 = .ok (.iaload, 1) := by decide +kernel
theorem dX5_verdictOnPath_37 : decode cX5_verdictOnPath 37 = .ok (.istore 6, 2) := by decide +kernel
theorem dX5_verdictOnPath_39 : decode cX5_verdictOnPath 39 = .ok (.aload_n 0, 1) := by decide +kernel
theorem dX5_verdictOnPath_40 : decode cX5_verdictOnPath 40 = .ok (.getfield 12, 3) := by decide +kernel
theorem dX5_verdictOnPath_43 : decode cX5_verdictOnPath 43 = .ok (.iload 6, 2) := by decide +kernel
theorem dX5_verdictOnPath_45 : decode cX5_verdictOnPath 45 = .ok (.iload_n 2, 1) := by decide +kernel
theorem dX5_verdictOnPath_46 : decode cX5_verdictOnPath 46 = .ok (.invokevirtual 203, 3) := by decide +kernel
theorem dX5_verdictOnPath_49 : decode cX5_verdictOnPath 49 = .ok (.ifCond .ne 7, 3) := by decide +kernel
theorem dX5_verdictOnPath_52 : decode cX5_verdictOnPath 52 = .ok (.ldc2_w 110, 3) := by decide +kernel
theorem dX5_verdictOnPath_55 : decode cX5_verdictOnPath 55 = .ok (.lreturn, 1) := by decide +kernel
theorem dX5_verdictOnPath_56 : decode cX5_verdictOnPath 56 = .ok (.aload_n 0, 1) := by decide +kernel
theorem dX5_verdictOnPath_57 : decode cX5_verdictOnPath 57 = .ok (.getfield 28, 3) := by decide +kernel
theorem dX5_verdictOnPath_60 : decode cX5_verdictOnPath 60 = .ok (.iload 6, 2) := by decide +kernel
theorem dX5_verdictOnPath_62 : decode cX5_verdictOnPath 62 = .ok (.iconst 1, 1) := by decide +kernel
theorem dX5_verdictOnPath_63 : decode cX5_verdictOnPath 63 = .ok (.ishr, 1) := by decide +kernel
theorem dX5_verdictOnPath_64 : decode cX5_verdictOnPath 64 = .ok (.dup2, 1) := by decide +kernel
theorem dX5_verdictOnPath_65 : decode cX5_verdictOnPath 65 = .ok (.iaload, 1) := by decide +kernel
theorem dX5_verdictOnPath_66 : decode cX5_verdictOnPath 66 = .ok (.iconst 1, 1) := by decide +kernel
theorem dX5_verdictOnPath_67 : decode cX5_verdictOnPath 67 = .ok (.iadd, 1) := by decide +kernel
theorem dX5_verdictOnPath_68 : decode cX5_verdictOnPath 68 = .ok (.iastore, 1) := by decide +kernel
theorem dX5_verdictOnPath_69 : decode cX5_verdictOnPath 69 = .ok (.lload_n 3, 1) := by decide +kernel
theorem dX5_verdictOnPath_70 : decode cX5_verdictOnPath 70 = .ok (.aload_n 0, 1) := by decide +kernel
theorem dX5_verdictOnPath_71 : decode cX5_verdictOnPath 71 = .ok (.getfield 12, 3) := by decide +kernel
theorem dX5_verdictOnPath_74 : decode cX5_verdictOnPath 74 = .ok (.getfield 135, 3) := by decide +kernel
theorem dX5_verdictOnPath_77 : decode cX5_verdictOnPath 77 = .ok (.iload 6, 2) := by decide +kernel
theorem dX5_verdictOnPath_79 : decode cX5_verdictOnPath 79 = .ok (.iconst 1, 1) := by decide +kernel
theorem dX5_verdictOnPath_80 : decode cX5_verdictOnPath 80 = .ok (.ishr, 1) := by decide +kernel
theorem dX5_verdictOnPath_81 : decode cX5_verdictOnPath 81 = .ok (.iaload, 1) := by decide +kernel
theorem dX5_verdictOnPath_82 : decode cX5_verdictOnPath 82 = .ok (.i2l, 1) := by decide +kernel
theorem dX5_verdictOnPath_83 : decode cX5_verdictOnPath 83 = .ok (.ladd, 1) := by decide +kernel
theorem dX5_verdictOnPath_84 : decode cX5_verdictOnPath 84 = .ok (.lstore_n 3, 1) := by decide +kernel
theorem dX5_verdictOnPath_85 : decode cX5_verdictOnPath 85 = .ok (.aload_n 0, 1) := by decide +kernel
theorem dX5_verdictOnPath_86 : decode cX5_verdictOnPath 86 = .ok (.getfield 12, 3) := by decide +kernel
theorem dX5_verdictOnPath_89 : decode cX5_verdictOnPath 89 = .ok (.iload 6, 2) := by decide +kernel
theorem dX5_verdictOnPath_91 : decode cX5_verdictOnPath 91 = .ok (.invokevirtual 200, 3) := by decide +kernel
theorem dX5_verdictOnPath_94 : decode cX5_verdictOnPath 94 = .ok (.istore_n 2, 1) := by decide +kernel
theorem dX5_verdictOnPath_95 : decode cX5_verdictOnPath 95 = .ok (.iinc 5 1, 3) := by decide +kernel
theorem dX5_verdictOnPath_98 : decode cX5_verdictOnPath 98 = .ok (.goto (-83), 3) := by decide +kernel
theorem dX5_verdictOnPath_101 : decode cX5_verdictOnPath 101 = .ok (.iload_n 2, 1) := by decide +kernel
theorem dX5_verdictOnPath_102 : decode cX5_verdictOnPath 102 = .ok (.iload_n 1, 1) := by decide +kernel
theorem dX5_verdictOnPath_103 : decode cX5_verdictOnPath 103 = .ok (.if_icmp .eq 7, 3) := by decide +kernel
theorem dX5_verdictOnPath_106 : decode cX5_verdictOnPath 106 = .ok (.ldc2_w 217, 3) := by decide +kernel
theorem dX5_verdictOnPath_109 : decode cX5_verdictOnPath 109 = .ok (.lreturn, 1) := by decide +kernel
theorem dX5_verdictOnPath_110 : decode cX5_verdictOnPath 110 = .ok (.iconst 0, 1) := by decide +kernel
theorem dX5_verdictOnPath_111 : decode cX5_verdictOnPath 111 = .ok (.istore 5, 2) := by decide +kernel
theorem dX5_verdictOnPath_113 : decode cX5_verdictOnPath 113 = .ok (.iload 5, 2) := by decide +kernel
theorem dX5_verdictOnPath_115 : decode cX5_verdictOnPath 115 = .ok (.aload_n 0, 1) := by decide +kernel
theorem dX5_verdictOnPath_116 : decode cX5_verdictOnPath 116 = .ok (.getfield 12, 3) := by decide +kernel
theorem dX5_verdictOnPath_119 : decode cX5_verdictOnPath 119 = .ok (.getfield 67, 3) := by decide +kernel
theorem dX5_verdictOnPath_122 : decode cX5_verdictOnPath 122 = .ok (.if_icmp .ge 23, 3) := by decide +kernel
theorem dX5_verdictOnPath_125 : decode cX5_verdictOnPath 125 = .ok (.aload_n 0, 1) := by decide +kernel
theorem dX5_verdictOnPath_126 : decode cX5_verdictOnPath 126 = .ok (.getfield 28, 3) := by decide +kernel
theorem dX5_verdictOnPath_129 : decode cX5_verdictOnPath 129 = .ok (.iload 5, 2) := by decide +kernel
theorem dX5_verdictOnPath_131 : decode cX5_verdictOnPath 131 = .ok (.iaload, 1) := by decide +kernel
theorem dX5_verdictOnPath_132 : decode cX5_verdictOnPath 132 = .ok (.ifCond .ne 7, 3) := by decide +kernel
theorem dX5_verdictOnPath_135 : decode cX5_verdictOnPath 135 = .ok (.ldc2_w 219, 3) := by decide +kernel
theorem dX5_verdictOnPath_138 : decode cX5_verdictOnPath 138 = .ok (.lreturn, 1) := by decide +kernel
theorem dX5_verdictOnPath_139 : decode cX5_verdictOnPath 139 = .ok (.iinc 5 1, 3) := by decide +kernel
theorem dX5_verdictOnPath_142 : decode cX5_verdictOnPath 142 = .ok (.goto (-29), 3) := by decide +kernel
theorem dX5_verdictOnPath_145 : decode cX5_verdictOnPath 145 = .ok (.lload_n 3, 1) := by decide +kernel
theorem dX5_verdictOnPath_146 : decode cX5_verdictOnPath 146 = .ok (.lreturn, 1) := by decide +kernel
theorem dX5_leastOf_0 : decode cX5_leastOf 0 = .ok (.iconst 0, 1) := by decide +kernel
theorem dX5_leastOf_1 : decode cX5_leastOf 1 = .ok (.istore_n 1, 1) := by decide +kernel
theorem dX5_leastOf_2 : decode cX5_leastOf 2 = .ok (.iload_n 1, 1) := by decide +kernel
theorem dX5_leastOf_3 : decode cX5_leastOf 3 = .ok (.bipush 16, 2) := by decide +kernel
theorem dX5_leastOf_5 : decode cX5_leastOf 5 = .ok (.if_icmp .ge 20, 3) := by decide +kernel
theorem dX5_leastOf_8 : decode cX5_leastOf 8 = .ok (.iload_n 0, 1) := by decide +kernel
theorem dX5_leastOf_9 : decode cX5_leastOf 9 = .ok (.iload_n 1, 1) := by decide +kernel
theorem dX5_leastOf_10 : decode cX5_leastOf 10 = .ok (.ishr, 1) := by decide +kernel
theorem dX5_leastOf_11 : decode cX5_leastOf 11 = .ok (.iconst 1, 1) := by decide +kernel
theorem dX5_leastOf_12 : decode cX5_leastOf 12 = .ok (.iand, 1) := by decide +kernel
theorem dX5_leastOf_13 : decode cX5_leastOf 13 = .ok (.iconst 1, 1) := by decide +kernel
theorem dX5_leastOf_14 : decode cX5_leastOf 14 = .ok (.if_icmp .ne 5, 3) := by decide +kernel
theorem dX5_leastOf_17 : decode cX5_leastOf 17 = .ok (.iload_n 1, 1) := by decide +kernel
theorem dX5_leastOf_18 : decode cX5_leastOf 18 = .ok (.ireturn, 1) := by decide +kernel
theorem dX5_leastOf_19 : decode cX5_leastOf 19 = .ok (.iinc 1 1, 3) := by decide +kernel
theorem dX5_leastOf_22 : decode cX5_leastOf 22 = .ok (.goto (-20), 3) := by decide +kernel
theorem dX5_leastOf_25 : decode cX5_leastOf 25 = .ok (.iconst (-1), 1) := by decide +kernel
theorem dX5_leastOf_26 : decode cX5_leastOf 26 = .ok (.ireturn, 1) := by decide +kernel
theorem dX6_init_0 : decode cX6_init 0 = .ok (.aload_n 0, 1) := by decide +kernel
theorem dX6_init_1 : decode cX6_init 1 = .ok (.invokespecial 1, 3) := by decide +kernel
theorem dX6_init_4 : decode cX6_init 4 = .ok (.aload_n 0, 1) := by decide +kernel
theorem dX6_init_5 : decode cX6_init 5 = .ok (.iconst 1, 1) := by decide +kernel
theorem dX6_init_6 : decode cX6_init 6 = .ok (.putfield 7, 3) := by decide +kernel
theorem dX6_init_9 : decode cX6_init 9 = .ok (.aload_n 0, 1) := by decide +kernel
theorem dX6_init_10 : decode cX6_init 10 = .ok (.bipush 40, 2) := by decide +kernel
theorem dX6_init_12 : decode cX6_init 12 = .ok (.newarray .int, 2) := by decide +kernel
theorem dX6_init_14 : decode cX6_init 14 = .ok (.putfield 13, 3) := by decide +kernel
theorem dX6_init_17 : decode cX6_init 17 = .ok (.aload_n 0, 1) := by decide +kernel
theorem dX6_init_18 : decode cX6_init 18 = .ok (.bipush 40, 2) := by decide +kernel
theorem dX6_init_20 : decode cX6_init 20 = .ok (.newarray .int, 2) := by decide +kernel
theorem dX6_init_22 : decode cX6_init 22 = .ok (.putfield 17, 3) := by decide +kernel
theorem dX6_init_25 : decode cX6_init 25 = .ok (.aload_n 0, 1) := by decide +kernel
theorem dX6_init_26 : decode cX6_init 26 = .ok (.bipush 40, 2) := by decide +kernel
theorem dX6_init_28 : decode cX6_init 28 = .ok (.newarray .int, 2) := by decide +kernel
theorem dX6_init_30 : decode cX6_init 30 = .ok (.putfield 20, 3) := by decide +kernel
theorem dX6_init_33 : decode cX6_init 33 = .ok (.aload_n 0, 1) := by decide +kernel
theorem dX6_init_34 : decode cX6_init 34 = .ok (.sipush 2000, 3) := by decide +kernel
theorem dX6_init_37 : decode cX6_init 37 = .ok (.newarray .int, 2) := by decide +kernel
theorem dX6_init_39 : decode cX6_init 39 = .ok (.putfield 23, 3) := by decide +kernel
theorem dX6_init_42 : decode cX6_init 42 = .ok (.aload_n 0, 1) := by decide +kernel
theorem dX6_init_43 : decode cX6_init 43 = .ok (.sipush 1000, 3) := by decide +kernel
theorem dX6_init_46 : decode cX6_init 46 = .ok (.newarray .int, 2) := by decide +kernel
theorem dX6_init_48 : decode cX6_init 48 = .ok (.putfield 26, 3) := by decide +kernel
theorem dX6_init_51 : decode cX6_init 51 = .ok (.aload_n 0, 1) := by decide +kernel
theorem dX6_init_52 : decode cX6_init 52 = .ok (.bipush 40, 2) := by decide +kernel
theorem dX6_init_54 : decode cX6_init 54 = .ok (.newarray .int, 2) := by decide +kernel
theorem dX6_init_56 : decode cX6_init 56 = .ok (.putfield 29, 3) := by decide +kernel
end
section
theorem dX6_init_59 : decode cX6_init 59 = .ok (.aload_n 0, 1) := by decide +kernel
theorem dX6_init_60 : decode cX6_init 60 = .ok (.sipush 256, 3) := by decide +kernel
theorem dX6_init_63 : decode cX6_init 63 = .ok (.newarray .long, 2) := by decide +kernel
theorem dX6_init_65 : decode cX6_init 65 = .ok (.putfield 32, 3) := by decide +kernel
theorem dX6_init_68 : decode cX6_init 68 = .ok (.aload_n 0, 1) := by decide +kernel
theorem dX6_init_69 : decode cX6_init 69 = .ok (.sipush 256, 3) := by decide +kernel
theorem dX6_init_72 : decode cX6_init 72 = .ok (.newarray .long, 2) := by decide +kernel
theorem dX6_init_74 : decode cX6_init 74 = .ok (.putfield 36, 3) := by decide +kernel
theorem dX6_init_77 : decode cX6_init 77 = .ok (.aload_n 0, 1) := by decide +kernel
theorem dX6_init_78 : decode cX6_init 78 = .ok (.bipush 16, 2) := by decide +kernel
theorem dX6_init_80 : decode cX6_init 80 = .ok (.newarray .int, 2) := by decide +kernel
theorem dX6_init_82 : decode cX6_init 82 = .ok (.putfield 39, 3) := by decide +kernel
theorem dX6_init_85 : decode cX6_init 85 = .ok (.aload_n 0, 1) := by decide +kernel
theorem dX6_init_86 : decode cX6_init 86 = .ok (.ldc 42, 2) := by decide +kernel
theorem dX6_init_88 : decode cX6_init 88 = .ok (.newarray .long, 2) := by decide +kernel
theorem dX6_init_90 : decode cX6_init 90 = .ok (.putfield 43, 3) := by decide +kernel
theorem dX6_init_93 : decode cX6_init 93 = .ok (.aload_n 0, 1) := by decide +kernel
theorem dX6_init_94 : decode cX6_init 94 = .ok (.ldc 42, 2) := by decide +kernel
theorem dX6_init_96 : decode cX6_init 96 = .ok (.newarray .long, 2) := by decide +kernel
theorem dX6_init_98 : decode cX6_init 98 = .ok (.putfield 46, 3) := by decide +kernel
theorem dX6_init_101 : decode cX6_init 101 = .ok (.aload_n 0, 1) := by decide +kernel
theorem dX6_init_102 : decode cX6_init 102 = .ok (.bipush 16, 2) := by decide +kernel
theorem dX6_init_104 : decode cX6_init 104 = .ok (.newarray .int, 2) := by decide +kernel
theorem dX6_init_106 : decode cX6_init 106 = .ok (.putfield 49, 3) := by decide +kernel
theorem dX6_init_109 : decode cX6_init 109 = .ok (.aload_n 0, 1) := by decide +kernel
theorem dX6_init_110 : decode cX6_init 110 = .ok (.sipush 656, 3) := by decide +kernel
theorem dX6_init_113 : decode cX6_init 113 = .ok (.newarray .long, 2) := by decide +kernel
theorem dX6_init_115 : decode cX6_init 115 = .ok (.putfield 52, 3) := by decide +kernel
theorem dX6_init_118 : decode cX6_init 118 = .ok (.aload_n 0, 1) := by decide +kernel
theorem dX6_init_119 : decode cX6_init 119 = .ok (.bipush 16, 2) := by decide +kernel
theorem dX6_init_121 : decode cX6_init 121 = .ok (.newarray .boolean, 2) := by decide +kernel
theorem dX6_init_123 : decode cX6_init 123 = .ok (.putfield 55, 3) := by decide +kernel
theorem dX6_init_126 : decode cX6_init 126 = .ok (.aload_n 0, 1) := by decide +kernel
theorem dX6_init_127 : decode cX6_init 127 = .ok (.bipush 16, 2) := by decide +kernel
theorem dX6_init_129 : decode cX6_init 129 = .ok (.newarray .int, 2) := by decide +kernel
theorem dX6_init_131 : decode cX6_init 131 = .ok (.putfield 59, 3) := by decide +kernel
theorem dX6_init_134 : decode cX6_init 134 = .ok (.aload_n 0, 1) := by decide +kernel
theorem dX6_init_135 : decode cX6_init 135 = .ok (.bipush 41, 2) := by decide +kernel
theorem dX6_init_137 : decode cX6_init 137 = .ok (.newarray .long, 2) := by decide +kernel
theorem dX6_init_139 : decode cX6_init 139 = .ok (.putfield 62, 3) := by decide +kernel
theorem dX6_init_142 : decode cX6_init 142 = .ok (.aload_n 0, 1) := by decide +kernel
theorem dX6_init_143 : decode cX6_init 143 = .ok (.bipush 40, 2) := by decide +kernel
theorem dX6_init_145 : decode cX6_init 145 = .ok (.newarray .int, 2) := by decide +kernel
theorem dX6_init_147 : decode cX6_init 147 = .ok (.putfield 65, 3) := by decide +kernel
theorem dX6_init_150 : decode cX6_init 150 = .ok (.aload_n 0, 1) := by decide +kernel
theorem dX6_init_151 : decode cX6_init 151 = .ok (.bipush 16, 2) := by decide +kernel
theorem dX6_init_153 : decode cX6_init 153 = .ok (.newarray .int, 2) := by decide +kernel
theorem dX6_init_155 : decode cX6_init 155 = .ok (.putfield 68, 3) := by decide +kernel
theorem dX6_init_158 : decode cX6_init 158 = .ok (.return_, 1) := by decide +kernel
theorem dX6_thrown_0 : decode cX6_thrown 0 = .ok (.aload_n 0, 1) := by decide +kernel
theorem dX6_thrown_1 : decode cX6_thrown 1 = .ok (.getfield 71, 3) := by decide +kernel
theorem dX6_thrown_4 : decode cX6_thrown 4 = .ok (.ireturn, 1) := by decide +kernel
theorem dX6_throwing_0 : decode cX6_throwing 0 = .ok (.aload_n 0, 1) := by decide +kernel
theorem dX6_throwing_1 : decode cX6_throwing 1 = .ok (.iload_n 1, 1) := by decide +kernel
theorem dX6_throwing_2 : decode cX6_throwing 2 = .ok (.ifCond .eq 7, 3) := by decide +kernel
theorem dX6_throwing_5 : decode cX6_throwing 5 = .ok (.iconst 1, 1) := by decide +kernel
theorem dX6_throwing_6 : decode cX6_throwing 6 = .ok (.goto 12, 3) := by decide +kernel
theorem dX6_throwing_9 : decode cX6_throwing 9 = .ok (.iload_n 2, 1) := by decide +kernel
theorem dX6_throwing_10 : decode cX6_throwing 10 = .ok (.ifCond .eq 7, 3) := by decide +kernel
theorem dX6_throwing_13 : decode cX6_throwing 13 = .ok (.iconst 2, 1) := by decide +kernel
theorem dX6_throwing_14 : decode cX6_throwing 14 = .ok (.goto 4, 3) := by decide +kernel
theorem dX6_throwing_17 : decode cX6_throwing 17 = .ok (.iconst 0, 1) := by decide +kernel
theorem dX6_throwing_18 : decode cX6_throwing 18 = .ok (.putfield 71, 3) := by decide +kernel
theorem dX6_throwing_21 : decode cX6_throwing 21 = .ok (.aload_n 0, 1) := by decide +kernel
theorem dX6_throwing_22 : decode cX6_throwing 22 = .ok (.getfield 71, 3) := by decide +kernel
theorem dX6_throwing_25 : decode cX6_throwing 25 = .ok (.ifCond .le 7, 3) := by decide +kernel
theorem dX6_throwing_28 : decode cX6_throwing 28 = .ok (.iconst 1, 1) := by decide +kernel
theorem dX6_throwing_29 : decode cX6_throwing 29 = .ok (.goto 4, 3) := by decide +kernel
theorem dX6_throwing_32 : decode cX6_throwing 32 = .ok (.iconst 0, 1) := by decide +kernel
theorem dX6_throwing_33 : decode cX6_throwing 33 = .ok (.ireturn, 1) := by decide +kernel
theorem dX6_isVertex_0 : decode cX6_isVertex 0 = .ok (.iload_n 1, 1) := by decide +kernel
theorem dX6_isVertex_1 : decode cX6_isVertex 1 = .ok (.ifCond .lt 15, 3) := by decide +kernel
theorem dX6_isVertex_4 : decode cX6_isVertex 4 = .ok (.iload_n 1, 1) := by decide +kernel
theorem dX6_isVertex_5 : decode cX6_isVertex 5 = .ok (.aload_n 0, 1) := by decide +kernel
theorem dX6_isVertex_6 : decode cX6_isVertex 6 = .ok (.getfield 7, 3) := by decide +kernel
theorem dX6_isVertex_9 : decode cX6_isVertex 9 = .ok (.if_icmp .ge 7, 3) := by decide +kernel
theorem dX6_isVertex_12 : decode cX6_isVertex 12 = .ok (.iconst 1, 1) := by decide +kernel
theorem dX6_isVertex_13 : decode cX6_isVertex 13 = .ok (.goto 4, 3) := by decide +kernel
theorem dX6_isVertex_16 : decode cX6_isVertex 16 = .ok (.iconst 0, 1) := by decide +kernel
theorem dX6_isVertex_17 : decode cX6_isVertex 17 = .ok (.ireturn, 1) := by decide +kernel
theorem dX6_change_0 : decode cX6_change 0 = .ok (.aload_n 0, 1) := by decide +kernel
theorem dX6_change_1 : decode cX6_change 1 = .ok (.iconst 0, 1) := by decide +kernel
theorem dX6_change_2 : decode cX6_change 2 = .ok (.putfield 74, 3) := by decide +kernel
theorem dX6_change_5 : decode cX6_change 5 = .ok (.aload_n 0, 1) := by decide +kernel
theorem dX6_change_6 : decode cX6_change 6 = .ok (.iconst 0, 1) := by decide +kernel
theorem dX6_change_7 : decode cX6_change 7 = .ok (.putfield 77, 3) := by decide +kernel
theorem dX6_change_10 : decode cX6_change 10 = .ok (.return_, 1) := by decide +kernel
theorem dX6_reset_0 : decode cX6_reset 0 = .ok (.aload_n 0, 1) := by decide +kernel
theorem dX6_reset_1 : decode cX6_reset 1 = .ok (.iload_n 2, 1) := by decide +kernel
theorem dX6_reset_2 : decode cX6_reset 2 = .ok (.iconst 1, 1) := by decide +kernel
theorem dX6_reset_3 : decode cX6_reset 3 = .ok (.if_icmp .lt 9, 3) := by decide +kernel
theorem dX6_reset_6 : decode cX6_reset 6 = .ok (.iload_n 2, 1) := by decide +kernel
theorem dX6_reset_7 : decode cX6_reset 7 = .ok (.bipush 16, 2) := by decide +kernel
theorem dX6_reset_9 : decode cX6_reset 9 = .ok (.if_icmp .le 7, 3) := by decide +kernel
theorem dX6_reset_12 : decode cX6_reset 12 = .ok (.iconst 1, 1) := by decide +kernel
theorem dX6_reset_13 : decode cX6_reset 13 = .ok (.goto 4, 3) := by decide +kernel
theorem dX6_reset_16 : decode cX6_reset 16 = .ok (.iconst 0, 1) := by decide +kernel
theorem dX6_reset_17 : decode cX6_reset 17 = .ok (.iconst 0, 1) := by decide +kernel
theorem dX6_reset_18 : decode cX6_reset 18 = .ok (.invokevirtual 81, 3) := by decide +kernel
theorem dX6_reset_21 : decode cX6_reset 21 = .ok (.ifCond .eq 5, 3) := by decide +kernel
theorem dX6_reset_24 : decode cX6_reset 24 = .ok (.iconst 0, 1) := by decide +kernel
theorem dX6_reset_25 : decode cX6_reset 25 = .ok (.ireturn, 1) := by decide +kernel
theorem dX6_reset_26 : decode cX6_reset 26 = .ok (.aload_n 0, 1) := by decide +kernel
theorem dX6_reset_27 : decode cX6_reset 27 = .ok (.getfield 85, 3) := by decide +kernel
theorem dX6_reset_30 : decode cX6_reset 30 = .ok (.istore_n 3, 1) := by decide +kernel
theorem dX6_reset_31 : decode cX6_reset 31 = .ok (.aload_n 0, 1) := by decide +kernel
theorem dX6_reset_32 : decode cX6_reset 32 = .ok (.iload_n 1, 1) := by decide +kernel
theorem dX6_reset_33 : decode cX6_reset 33 = .ok (.putfield 88, 3) := by decide +kernel
theorem dX6_reset_36 : decode cX6_reset 36 = .ok (.aload_n 0, 1) := by decide +kernel
theorem dX6_reset_37 : decode cX6_reset 37 = .ok (.iload_n 2, 1) := by decide +kernel
theorem dX6_reset_38 : decode cX6_reset 38 = .ok (.putfield 7, 3) := by decide +kernel
theorem dX6_reset_41 : decode cX6_reset 41 = .ok (.aload_n 0, 1) := by decide +kernel
theorem dX6_reset_42 : decode cX6_reset 42 = .ok (.iconst 0, 1) := by decide +kernel
theorem dX6_reset_43 : decode cX6_reset 43 = .ok (.putfield 85, 3) := by decide +kernel
theorem dX6_reset_46 : decode cX6_reset 46 = .ok (.aload_n 0, 1) := by decide +kernel
theorem dX6_reset_47 : decode cX6_reset 47 = .ok (.invokevirtual 91, 3) := by decide +kernel
theorem dX6_reset_50 : decode cX6_reset 50 = .ok (.iload_n 3, 1) := by decide +kernel
theorem dX6_reset_51 : decode cX6_reset 51 = .ok (.ireturn, 1) := by decide +kernel
theorem dX6_edge_0 : decode cX6_edge 0 = .ok (.aload_n 0, 1) := by decide +kernel
theorem dX6_edge_1 : decode cX6_edge 1 = .ok (.aload_n 0, 1) := by decide +kernel
theorem dX6_edge_2 : decode cX6_edge 2 = .ok (.iload_n 1, 1) := by decide +kernel
theorem dX6_edge_3 : decode cX6_edge 3 = .ok (.invokevirtual 94, 3) := by decide +kernel
theorem dX6_edge_6 : decode cX6_edge 6 = .ok (.ifCond .eq 21, 3) := by decide +kernel
theorem dX6_edge_9 : decode cX6_edge 9 = .ok (.aload_n 0, 1) := by decide +kernel
theorem dX6_edge_10 : decode cX6_edge 10 = .ok (.iload_n 2, 1) := by decide +kernel
theorem dX6_edge_11 : decode cX6_edge 11 = .ok (.invokevirtual 94, 3) := by decide +kernel
theorem dX6_edge_14 : decode cX6_edge 14 = .ok (.ifCond .eq 13, 3) := by decide +kernel
theorem dX6_edge_17 : decode cX6_edge 17 = .ok (.iload_n 3, 1) := by decide +kernel
theorem dX6_edge_18 : decode cX6_edge 18 = .ok (.ifCond .lt 9, 3) := by decide +kernel
theorem dX6_edge_21 : decode cX6_edge 21 = .ok (.iload_n 3, 1) := by decide +kernel
theorem dX6_edge_22 : decode cX6_edge 22 = .ok (.ldc 98, 2) := by decide +kernel
theorem dX6_edge_24 : decode cX6_edge 24 = .ok (.if_icmp .le 7, 3) := by decide +kernel
theorem dX6_edge_27 : decode cX6_edge 27 = .ok (.iconst 1, 1) := by decide +kernel
theorem dX6_edge_28 : decode cX6_edge 28 = .ok (.goto 4, 3) := by decide +kernel
theorem dX6_edge_31 : decode cX6_edge 31 = .ok (.iconst 0, 1) := by decide +kernel
theorem dX6_edge_32 : decode cX6_edge 32 = .ok (.aload_n 0, 1) := by decide +kernel
theorem dX6_edge_33 : decode cX6_edge 33 = .ok (.getfield 85, 3) := by decide +kernel
theorem dX6_edge_36 : decode cX6_edge 36 = .ok (.bipush 40, 2) := by decide +kernel
theorem dX6_edge_38 : decode cX6_edge 38 = .ok (.if_icmp .ne 7, 3) := by decide +kernel
theorem dX6_edge_41 : decode cX6_edge 41 = .ok (.iconst 1, 1) := by decide +kernel
theorem dX6_edge_42 : decode cX6_edge 42 = .ok (.goto 4, 3) := by decide +kernel
theorem dX6_edge_45 : decode cX6_edge 45 = .ok (.iconst 0, 1) := by decide +kernel
theorem dX6_edge_46 : decode cX6_edge 46 = .ok (.invokevirtual 81, 3) := by decide +kernel
theorem dX6_edge_49 : decode cX6_edge 49 = .ok (.ifCond .eq 5, 3) := by decide +kernel
theorem dX6_edge_52 : decode cX6_edge 52 = .ok (.iconst 0, 1) := by decide +kernel
theorem dX6_edge_53 : decode cX6_edge 53 = .ok (.ireturn, 1) := by decide +kernel
theorem dX6_edge_54 : decode cX6_edge 54 = .ok (.aload_n 0, 1) := by decide +kernel
theorem dX6_edge_55 : decode cX6_edge 55 = .ok (.getfield 13, 3) := by decide +kernel
theorem dX6_edge_58 : decode cX6_edge 58 = .ok (.aload_n 0, 1) := by decide +kernel
theorem dX6_edge_59 : decode cX6_edge 59 = .ok (.getfield 85, 3) := by decide +kernel
theorem dX6_edge_62 : decode cX6_edge 62 = .ok (.iload_n 1, 1) := by decide +kernel
theorem dX6_edge_63 : decode cX6_edge 63 = .ok (.iastore, 1) := by decide +kernel
theorem dX6_edge_64 : decode cX6_edge 64 = .ok (.aload_n 0, 1) := by decide +kernel
theorem dX6_edge_65 : decode cX6_edge 65 = .ok (.getfield 17, 3) := by decide +kernel
theorem dX6_edge_68 : decode cX6_edge 68 = .ok (.aload_n 0, 1) := by decide +kernel
theorem dX6_edge_69 : decode cX6_edge 69 = .ok (.getfield 85, 3) := by decide +kernel
theorem dX6_edge_72 : decode cX6_edge 72 = .ok (.iload_n 2, 1) := by decide +kernel
theorem dX6_edge_73 : decode cX6_edge 73 = .ok (.iastore, 1) := by decide +kernel
theorem dX6_edge_74 : decode cX6_edge 74 = .ok (.aload_n 0, 1) := by decide +kernel
theorem dX6_edge_75 : decode cX6_edge 75 = .ok (.getfield 20, 3) := by decide +kernel
theorem dX6_edge_78 : decode cX6_edge 78 = .ok (.aload_n 0, 1) := by decide +kernel
theorem dX6_edge_79 : decode cX6_edge 79 = .ok (.getfield 85, 3) := by decide +kernel
theorem dX6_edge_82 : decode cX6_edge 82 = .ok (.iload_n 3, 1) := by decide +kernel
theorem dX6_edge_83 : decode cX6_edge 83 = .ok (.iastore, 1) := by decide +kernel
theorem dX6_edge_84 : decode cX6_edge 84 = .ok (.aload_n 0, 1) := by decide +kernel
theorem dX6_edge_85 : decode cX6_edge 85 = .ok (.dup, 1) := by decide +kernel
theorem dX6_edge_86 : decode cX6_edge 86 = .ok (.getfield 85, 3) := by decide +kernel
theorem dX6_edge_89 : decode cX6_edge 89 = .ok (.iconst 1, 1) := by decide +kernel
theorem dX6_edge_90 : decode cX6_edge 90 = .ok (.iadd, 1) := by decide +kernel
theorem dX6_edge_91 : decode cX6_edge 91 = .ok (.putfield 85, 3) := by decide +kernel
theorem dX6_edge_94 : decode cX6_edge 94 = .ok (.aload_n 0, 1) := by decide +kernel
theorem dX6_edge_95 : decode cX6_edge 95 = .ok (.invokevirtual 91, 3) := by decide +kernel
theorem dX6_edge_98 : decode cX6_edge 98 = .ok (.aload_n 0, 1) := by decide +kernel
theorem dX6_edge_99 : decode cX6_edge 99 = .ok (.getfield 85, 3) := by decide +kernel
theorem dX6_edge_102 : decode cX6_edge 102 = .ok (.iconst 1, 1) := by decide +kernel
theorem dX6_edge_103 : decode cX6_edge 103 = .ok (.isub, 1) := by decide +kernel
theorem dX6_edge_104 : decode cX6_edge 104 = .ok (.ireturn, 1) := by decide +kernel
theorem dX6_drop_0 : decode cX6_drop 0 = .ok (.aload_n 0, 1) := by decide +kernel
theorem dX6_drop_1 : decode cX6_drop 1 = .ok (.aload_n 0, 1) := by decide +kernel
theorem dX6_drop_2 : decode cX6_drop 2 = .ok (.getfield 85, 3) := by decide +kernel
theorem dX6_drop_5 : decode cX6_drop 5 = .ok (.ifCond .ne 7, 3) := by decide +kernel
theorem dX6_drop_8 : decode cX6_drop 8 = .ok (.iconst 1, 1) := by decide +kernel
theorem dX6_drop_9 : decode cX6_drop 9 = .ok (.goto 4, 3) := by decide +kernel
theorem dX6_drop_12 : decode cX6_drop 12 = .ok (.iconst 0, 1) := by decide +kernel
theorem dX6_drop_13 : decode cX6_drop 13 = .ok (.iconst 0, 1) := by decide +kernel
theorem dX6_drop_14 : decode cX6_drop 14 = .ok (.invokevirtual 81, 3) := by decide +kernel
theorem dX6_drop_17 : decode cX6_drop 17 = .ok (.ifCond .eq 5, 3) := by decide +kernel
theorem dX6_drop_20 : decode cX6_drop 20 = .ok (.iconst 0, 1) := by decide +kernel
theorem dX6_drop_21 : decode cX6_drop 21 = .ok (.ireturn, 1) := by decide +kernel
theorem dX6_drop_22 : decode cX6_drop 22 = .ok (.aload_n 0, 1) := by decide +kernel
theorem dX6_drop_23 : decode cX6_drop 23 = .ok (.dup, 1) := by decide +kernel
theorem dX6_drop_24 : decode cX6_drop 24 = .ok (.getfield 85, 3) := by decide +kernel
theorem dX6_drop_27 : decode cX6_drop 27 = .ok (.iconst 1, 1) := by decide +kernel
theorem dX6_drop_28 : decode cX6_drop 28 = .ok (.isub, 1) := by decide +kernel
theorem dX6_drop_29 : decode cX6_drop 29 = .ok (.putfield 85, 3) := by decide +kernel
theorem dX6_drop_32 : decode cX6_drop 32 = .ok (.aload_n 0, 1) := by decide +kernel
theorem dX6_drop_33 : decode cX6_drop 33 = .ok (.invokevirtual 91, 3) := by decide +kernel
theorem dX6_drop_36 : decode cX6_drop 36 = .ok (.aload_n 0, 1) := by decide +kernel
theorem dX6_drop_37 : decode cX6_drop 37 = .ok (.getfield 85, 3) := by decide +kernel
theorem dX6_drop_40 : decode cX6_drop 40 = .ok (.ireturn, 1) := by decide +kernel
theorem dX6_isLess_0 : decode cX6_isLess 0 = .ok (.lload_n 1, 1) := by decide +kernel
theorem dX6_isLess_1 : decode cX6_isLess 1 = .ok (.aload_n 0, 1) := by decide +kernel
theorem dX6_isLess_2 : decode cX6_isLess 2 = .ok (.getfield 32, 3) := by decide +kernel
theorem dX6_isLess_5 : decode cX6_isLess 5 = .ok (.iload 5, 2) := by decide +kernel
theorem dX6_isLess_7 : decode cX6_isLess 7 = .ok (.laload, 1) := by decide +kernel
theorem dX6_isLess_8 : decode cX6_isLess 8 = .ok (.lcmp, 1) := by decide +kernel
theorem dX6_isLess_9 : decode cX6_isLess 9 = .ok (.ifCond .lt 27, 3) := by decide +kernel
theorem dX6_isLess_12 : decode cX6_isLess 12 = .ok (.lload_n 1, 1) := by decide +kernel
theorem dX6_isLess_13 : decode cX6_isLess 13 = .ok (.aload_n 0, 1) := by decide +kernel
theorem dX6_isLess_14 : decode cX6_isLess 14 = .ok (.getfield 32, 3) := by decide +kernel
theorem dX6_isLess_17 : decode cX6_isLess 17 = .ok (.iload 5, 2) := by decide +kernel
theorem dX6_isLess_19 : decode cX6_isLess 19 = .ok (.laload, 1) := by decide +kernel
theorem dX6_isLess_20 : decode cX6_isLess 20 = .ok (.lcmp, 1) := by decide +kernel
theorem dX6_isLess_21 : decode cX6_isLess 21 = .ok (.ifCond .ne 19, 3) := by decide +kernel
theorem dX6_isLess_24 : decode cX6_isLess 24 = .ok (.lload_n 3, 1) := by decide +kernel
theorem dX6_isLess_25 : decode cX6_isLess 25 = .ok (.aload_n 0, 1) := by decide +kernel
theorem dX6_isLess_26 : decode cX6_isLess 26 = .ok (.getfield 36, 3) := by decide +kernel
theorem dX6_isLess_29 : decode cX6_isLess 29 = .ok (.iload 5, 2) := by decide +kernel
theorem dX6_isLess_31 : decode cX6_isLess 31 = .ok (.laload, 1) := by decide +kernel
theorem dX6_isLess_32 : decode cX6_isLess 32 = .ok (.lcmp, 1) := by decide +kernel
theorem dX6_isLess_33 : decode cX6_isLess 33 = .ok (.ifCond .ge 7, 3) := by decide +kernel
theorem dX6_isLess_36 : decode cX6_isLess 36 = .ok (.iconst 1, 1) := by decide +kernel
theorem dX6_isLess_37 : decode cX6_isLess 37 = .ok (.goto 4, 3) := by decide +kernel
theorem dX6_isLess_40 : decode cX6_isLess 40 = .ok (.iconst 0, 1) := by decide +kernel
theorem dX6_isLess_41 : decode cX6_isLess 41 = .ok (.ireturn, 1) := by decide +kernel
theorem dX6_way_0 : decode cX6_way 0 = .ok (.aload_n 0, 1) := by decide +kernel
theorem dX6_way_1 : decode cX6_way 1 = .ok (.lload_n 2, 1) := by decide +kernel
theorem dX6_way_2 : decode cX6_way 2 = .ok (.lload 4, 2) := by decide +kernel
theorem dX6_way_4 : decode cX6_way 4 = .ok (.iload_n 1, 1) := by decide +kernel
theorem dX6_way_5 : decode cX6_way 5 = .ok (.invokevirtual 99, 3) := by decide +kernel
theorem dX6_way_8 : decode cX6_way 8 = .ok (.ifCond .ne 4, 3) := by decide +kernel
theorem dX6_way_11 : decode cX6_way 11 = .ok (.return_, 1) := by decide +kernel
theorem dX6_way_12 : decode cX6_way 12 = .ok (.aload_n 0, 1) := by decide +kernel
theorem dX6_way_13 : decode cX6_way 13 = .ok (.getfield 32, 3) := by decide +kernel
theorem dX6_way_16 : decode cX6_way 16 = .ok (.iload_n 1, 1) := by decide +kernel
theorem dX6_way_17 : decode cX6_way 17 = .ok (.lload_n 2, 1) := by decide +kernel
theorem dX6_way_18 : decode cX6_way 18 = .ok (.lastore, 1) := by decide +kernel
theorem dX6_way_19 : decode cX6_way 19 = .ok (.aload_n 0, 1) := by decide +kernel
theorem dX6_way_20 : decode cX6_way 20 = .ok (.getfield 36, 3) := by decide +kernel
theorem dX6_way_23 : decode cX6_way 23 = .ok (.iload_n 1, 1) := by decide +kernel
theorem dX6_way_24 : decode cX6_way 24 = .ok (.lload 4, 2) := by decide +kernel
theorem dX6_way_26 : decode cX6_way 26 = .ok (.lastore, 1) := by decide +kernel
theorem dX6_way_27 : decode cX6_way 27 = .ok (.return_, 1) := by decide +kernel
theorem dX6_measure_0 : decode cX6_measure 0 = .ok (.iconst 0, 1) := by decide +kernel
theorem dX6_measure_1 : decode cX6_measure 1 = .ok (.istore_n 1, 1) := by decide +kernel
theorem dX6_measure_2 : decode cX6_measure 2 = .ok (.iload_n 1, 1) := by decide +kernel
theorem dX6_measure_3 : decode cX6_measure 3 = .ok (.sipush 256, 3) := by decide +kernel
theorem dX6_measure_6 : decode cX6_measure 6 = .ok (.if_icmp .ge 40, 3) := by decide +kernel
theorem dX6_measure_9 : decode cX6_measure 9 = .ok (.aload_n 0, 1) := by decide +kernel
theorem dX6_measure_10 : decode cX6_measure 10 = .ok (.getfield 32, 3) := by decide +kernel
theorem dX6_measure_13 : decode cX6_measure 13 = .ok (.iload_n 1, 1) := by decide +kernel
theorem dX6_measure_14 : decode cX6_measure 14 = .ok (.iload_n 1, 1) := by decide +kernel
theorem dX6_measure_15 : decode cX6_measure 15 = .ok (.bipush 16, 2) := by decide +kernel
theorem dX6_measure_17 : decode cX6_measure 17 = .ok (.idiv, 1) := by decide +kernel
theorem dX6_measure_18 : decode cX6_measure 18 = .ok (.iload_n 1, 1) := by decide +kernel
theorem dX6_measure_19 : decode cX6_measure 19 = .ok (.bipush 16, 2) := by decide +kernel
theorem dX6_measure_21 : decode cX6_measure 21 = .ok (.irem, 1) := by decide +kernel
theorem dX6_measure_22 : decode cX6_measure 22 = .ok (.if_icmp .ne 7, 3) := by decide +kernel
theorem dX6_measure_25 : decode cX6_measure 25 = .ok (.lconst 0, 1) := by decide +kernel
theorem dX6_measure_26 : decode cX6_measure 26 = .ok (.goto 6, 3) := by decide +kernel
theorem dX6_measure_29 : decode cX6_measure 29 = .ok (.ldc2_w 103, 3) := by decide +kernel
theorem dX6_measure_32 : decode cX6_measure 32 = .ok (.lastore, 1) := by decide +kernel
theorem dX6_measure_33 : decode cX6_measure 33 = .ok (.aload_n 0, 1) := by decide +kernel
theorem dX6_measure_34 : decode cX6_measure 34 = .ok (.getfield 36, 3) := by decide +kernel
theorem dX6_measure_37 : decode cX6_measure 37 = .ok (.iload_n 1, 1) := by decide +kernel
theorem dX6_measure_38 : decode cX6_measure 38 = .ok (.lconst 0, 1) := by decide +kernel
theorem dX6_measure_39 : decode cX6_measure 39 = .ok (.lastore, 1) := by decide +kernel
theorem dX6_measure_40 : decode cX6_measure 40 = .ok (.iinc 1 1, 3) := by decide +kernel
theorem dX6_measure_43 : decode cX6_measure 43 = .ok (.goto (-41), 3) := by decide +kernel
theorem dX6_measure_46 : decode cX6_measure 46 = .ok (.iconst 0, 1) := by decide +kernel
theorem dX6_measure_47 : decode cX6_measure 47 = .ok (.istore_n 1, 1) := by decide +kernel
theorem dX6_measure_48 : decode cX6_measure 48 = .ok (.iload_n 1, 1) := by decide +kernel
theorem dX6_measure_49 : decode cX6_measure 49 = .ok (.aload_n 0, 1) := by decide +kernel
theorem dX6_measure_50 : decode cX6_measure 50 = .ok (.getfield 85, 3) := by decide +kernel
theorem dX6_measure_53 : decode cX6_measure 53 = .ok (.if_icmp .ge 82, 3) := by decide +kernel
theorem dX6_measure_56 : decode cX6_measure 56 = .ok (.aload_n 0, 1) := by decide +kernel
theorem dX6_measure_57 : decode cX6_measure 57 = .ok (.bipush 16, 2) := by decide +kernel
theorem dX6_measure_59 : decode cX6_measure 59 = .ok (.aload_n 0, 1) := by decide +kernel
theorem dX6_measure_60 : decode cX6_measure 60 = .ok (.getfield 13, 3) := by decide +kernel
theorem dX6_measure_63 : decode cX6_measure 63 = .ok (.iload_n 1, 1) := by decide +kernel
theorem dX6_measure_64 : decode cX6_measure 64 = .ok (.iaload, 1) := by decide +kernel
theorem dX6_measure_65 : decode cX6_measure 65 = .ok (.imul, 1) := by decide +kernel
theorem dX6_measure_66 : decode cX6_measure 66 = .ok (.aload_n 0, 1) := by decide +kernel
theorem dX6_measure_67 : decode cX6_measure 67 = .ok (.getfield 17, 3) := by decide +kernel
theorem dX6_measure_70 : decode cX6_measure 70 = .ok (.iload_n 1, 1) := by decide +kernel
theorem dX6_measure_71 : decode cX6_measure 71 = .ok (.iaload, 1) := by decide +kernel
theorem dX6_measure_72 : decode cX6_measure 72 = .ok (.iadd, 1) := by decide +kernel
theorem dX6_measure_73 : decode cX6_measure 73 = .ok (.aload_n 0, 1) := by decide +kernel
theorem dX6_measure_74 : decode cX6_measure 74 = .ok (.getfield 20, 3) := by decide +kernel
theorem dX6_measure_77 : decode cX6_measure 77 = .ok (.iload_n 1, 1) := by decide +kernel
theorem dX6_measure_78 : decode cX6_measure 78 = .ok (.iaload, 1) := by decide +kernel
theorem dX6_measure_79 : decode cX6_measure 79 = .ok (.i2l, 1) := by decide +kernel
theorem dX6_measure_80 : decode cX6_measure 80 = .ok (.lconst 1, 1) := by decide +kernel
theorem dX6_measure_81 : decode cX6_measure 81 = .ok (.bipush 39, 2) := by decide +kernel
theorem dX6_measure_83 : decode cX6_measure 83 = .ok (.iload_n 1, 1) := by decide +kernel
theorem dX6_measure_84 : decode cX6_measure 84 = .ok (.isub, 1) := by decide +kernel
theorem dX6_measure_85 : decode cX6_measure 85 = .ok (.lshl, 1) := by decide +kernel
theorem dX6_measure_86 : decode cX6_measure 86 = .ok (.invokevirtual 105, 3) := by decide +kernel
theorem dX6_measure_89 : decode cX6_measure 89 = .ok (.aload_n 0, 1) := by decide +kernel
theorem dX6_measure_90 : decode cX6_measure 90 = .ok (.getfield 88, 3) := by decide +kernel
theorem dX6_measure_93 : decode cX6_measure 93 = .ok (.ifCond .ne 36, 3) := by decide +kernel
theorem dX6_measure_96 : decode cX6_measure 96 = .ok (.aload_n 0, 1) := by decide +kernel
theorem dX6_measure_97 : decode cX6_measure 97 = .ok (.bipush 16, 2) := by decide +kernel
theorem dX6_measure_99 : decode cX6_measure 99 = .ok (.aload_n 0, 1) := by decide +kernel
theorem dX6_measure_100 : decode cX6_measure 100 = .ok (.getfield 17, 3) := by decide +kernel
theorem dX6_measure_103 : decode cX6_measure 103 = .ok (.iload_n 1, 1) := by decide +kernel
theorem dX6_measure_104 : decode cX6_measure 104 = .ok (.iaload, 1) := by decide +kernel
theorem dX6_measure_105 : decode cX6_measure 105 = .ok (.imul, 1) := by decide +kernel
theorem dX6_measure_106 : decode cX6_measure 106 = .ok (.aload_n 0, 1) := by decide +kernel
theorem dX6_measure_107 : decode cX6_measure 107 = .ok (.getfield 13, 3) := by decide +kernel
theorem dX6_measure_110 : decode cX6_measure 110 = .ok (.iload_n 1, 1) := by decide +kernel
theorem dX6_measure_111 : decode cX6_measure 111 = .ok (.iaload, 1) := by decide +kernel
theorem dX6_measure_112 : decode cX6_measure 112 = .ok (.iadd, 1) := by decide +kernel
theorem dX6_measure_113 : decode cX6_measure 113 = .ok (.aload_n 0, 1) := by decide +kernel
theorem dX6_measure_114 : decode cX6_measure 114 = .ok (.getfield 20, 3) := by decide +kernel
theorem dX6_measure_117 : decode cX6_measure 117 = .ok (.iload_n 1, 1) := by decide +kernel
theorem dX6_measure_118 : decode cX6_measure 118 = .ok (.iaload, 1) := by decide +kernel
theorem dX6_measure_119 : decode cX6_measure 119 = .ok (.i2l, 1) := by decide +kernel
theorem dX6_measure_120 : decode cX6_measure 120 = .ok (.lconst 1, 1) := by decide +kernel
theorem dX6_measure_121 : decode cX6_measure 121 = .ok (.bipush 39, 2) := by decide +kernel
theorem dX6_measure_123 : decode cX6_measure 123 = .ok (.iload_n 1, 1) := by decide +kernel
theorem dX6_measure_124 : decode cX6_measure 124 = .ok (.isub, 1) := by decide +kernel
theorem dX6_measure_125 : decode cX6_measure 125 = .ok (.lshl, 1) := by decide +kernel
theorem dX6_measure_126 : decode cX6_measure 126 = .ok (.invokevirtual 105, 3) := by decide +kernel
theorem dX6_measure_129 : decode cX6_measure 129 = .ok (.iinc 1 1, 3) := by decide +kernel
theorem dX6_measure_132 : decode cX6_measure 132 = .ok (.goto (-84), 3) := by decide +kernel
theorem dX6_measure_135 : decode cX6_measure 135 = .ok (.iconst 0, 1) := by decide +kernel
theorem dX6_measure_136 : decode cX6_measure 136 = .ok (.istore_n 1, 1) := by decide +kernel
theorem dX6_measure_137 : decode cX6_measure 137 = .ok (.iload_n 1, 1) := by decide +kernel
theorem dX6_measure_138 : decode cX6_measure 138 = .ok (.aload_n 0, 1) := by decide +kernel
theorem dX6_measure_139 : decode cX6_measure 139 = .ok (.getfield 7, 3) := by decide +kernel
theorem dX6_measure_142 : decode cX6_measure 142 = .ok (.if_icmp .ge 109, 3) := by decide +kernel
theorem dX6_measure_145 : decode cX6_measure 145 = .ok (.iconst 0, 1) := by decide +kernel
theorem dX6_measure_146 : decode cX6_measure 146 = .ok (.istore_n 2, 1) := by decide +kernel
theorem dX6_measure_147 : decode cX6_measure 147 = .ok (.iload_n 2, 1) := by decide +kernel
theorem dX6_measure_148 : decode cX6_measure 148 = .ok (.bipush 16, 2) := by decide +kernel
theorem dX6_measure_150 : decode cX6_measure 150 = .ok (.aload_n 0, 1) := by decide +kernel
theorem dX6_measure_151 : decode cX6_measure 151 = .ok (.getfield 7, 3) := by decide +kernel
theorem dX6_measure_154 : decode cX6_measure 154 = .ok (.imul, 1) := by decide +kernel
theorem dX6_measure_155 : decode cX6_measure 155 = .ok (.if_icmp .ge 90, 3) := by decide +kernel
theorem dX6_measure_158 : decode cX6_measure 158 = .ok (.bipush 16, 2) := by decide +kernel
theorem dX6_measure_160 : decode cX6_measure 160 = .ok (.iload_n 2, 1) := by decide +kernel
theorem dX6_measure_161 : decode cX6_measure 161 = .ok (.bipush 16, 2) := by decide +kernel
theorem dX6_measure_163 : decode cX6_measure 163 = .ok (.idiv, 1) := by decide +kernel
theorem dX6_measure_164 : decode cX6_measure 164 = .ok (.imul, 1) := by decide +kernel
theorem dX6_measure_165 : decode cX6_measure 165 = .ok (.iload_n 1, 1) := by decide +kernel
theorem dX6_measure_166 : decode cX6_measure 166 = .ok (.iadd, 1) := by decide +kernel
theorem dX6_measure_167 : decode cX6_measure 167 = .ok (.istore_n 3, 1) := by decide +kernel
theorem dX6_measure_168 : decode cX6_measure 168 = .ok (.bipush 16, 2) := by decide +kernel
theorem dX6_measure_170 : decode cX6_measure 170 = .ok (.iload_n 1, 1) := by decide +kernel
theorem dX6_measure_171 : decode cX6_measure 171 = .ok (.imul, 1) := by decide +kernel
theorem dX6_measure_172 : decode cX6_measure 172 = .ok (.iload_n 2, 1) := by decide +kernel
theorem dX6_measure_173 : decode cX6_measure 173 = .ok (.bipush 16, 2) := by decide +kernel
theorem dX6_measure_175 : decode cX6_measure 175 = .ok (.irem, 1) := by decide +kernel
theorem dX6_measure_176 : decode cX6_measure 176 = .ok (.iadd, 1) := by decide +kernel
theorem dX6_measure_177 : decode cX6_measure 177 = .ok (.istore 4, 2) := by decide +kernel
theorem dX6_measure_179 : decode cX6_measure 179 = .ok (.aload_n 0, 1) := by decide +kernel
theorem dX6_measure_180 : decode cX6_measure 180 = .ok (.getfield 32, 3) := by decide +kernel
theorem dX6_measure_183 : decode cX6_measure 183 = .ok (.iload_n 3, 1) := by decide +kernel
theorem dX6_measure_184 : decode cX6_measure 184 = .ok (.laload, 1) := by decide +kernel
theorem dX6_measure_185 : decode cX6_measure 185 = .ok (.ldc2_w 103, 3) := by decide +kernel
theorem dX6_measure_188 : decode cX6_measure 188 = .ok (.lcmp, 1) := by decide +kernel
theorem dX6_measure_189 : decode cX6_measure 189 = .ok (.ifCond .ge 50, 3) := by decide +kernel
theorem dX6_measure_192 : decode cX6_measure 192 = .ok (.aload_n 0, 1) := by decide +kernel
theorem dX6_measure_193 : decode cX6_measure 193 = .ok (.getfield 32, 3) := by decide +kernel
theorem dX6_measure_196 : decode cX6_measure 196 = .ok (.iload 4, 2) := by decide +kernel
theorem dX6_measure_198 : decode cX6_measure 198 = .ok (.laload, 1) := by decide +kernel
theorem dX6_measure_199 : decode cX6_measure 199 = .ok (.ldc2_w 103, 3) := by decide +kernel
theorem dX6_measure_202 : decode cX6_measure 202 = .ok (.lcmp, 1) := by decide +kernel
theorem dX6_measure_203 : decode cX6_measure 203 = .ok (.ifCond .ge 36, 3) := by decide +kernel
theorem dX6_measure_206 : decode cX6_measure 206 = .ok (.aload_n 0, 1) := by decide +kernel
theorem dX6_measure_207 : decode cX6_measure 207 = .ok (.iload_n 2, 1) := by decide +kernel
theorem dX6_measure_208 : decode cX6_measure 208 = .ok (.aload_n 0, 1) := by decide +kernel
theorem dX6_measure_209 : decode cX6_measure 209 = .ok (.getfield 32, 3) := by decide +kernel
theorem dX6_measure_212 : decode cX6_measure 212 = .ok (.iload_n 3, 1) := by decide +kernel
theorem dX6_measure_213 : decode cX6_measure 213 = .ok (.laload, 1) := by decide +kernel
theorem dX6_measure_214 : decode cX6_measure 214 = .ok (.aload_n 0, 1) := by decide +kernel
theorem dX6_measure_215 : decode cX6_measure 215 = .ok (.getfield 32, 3) := by decide +kernel
theorem dX6_measure_218 : decode cX6_measure 218 = .ok (.iload 4, 2) := by decide +kernel
theorem dX6_measure_220 : decode cX6_measure 220 = .ok (.laload, 1) := by decide +kernel
theorem dX6_measure_221 : decode cX6_measure 221 = .ok (.ladd, 1) := by decide +kernel
theorem dX6_measure_222 : decode cX6_measure 222 = .ok (.aload_n 0, 1) := by decide +kernel
theorem dX6_measure_223 : decode cX6_measure 223 = .ok (.getfield 36, 3) := by decide +kernel
theorem dX6_measure_226 : decode cX6_measure 226 = .ok (.iload_n 3, 1) := by decide +kernel
theorem dX6_measure_227 : decode cX6_measure 227 = .ok (.laload, 1) := by decide +kernel
theorem dX6_measure_228 : decode cX6_measure 228 = .ok (.aload_n 0, 1) := by decide +kernel
theorem dX6_measure_229 : decode cX6_measure 229 = .ok (.getfield 36, 3) := by decide +kernel
theorem dX6_measure_232 : decode cX6_measure 232 = .ok (.iload 4, 2) := by decide +kernel
theorem dX6_measure_234 : decode cX6_measure 234 = .ok (.laload, 1) := by decide +kernel
theorem dX6_measure_235 : decode cX6_measure 235 = .ok (.ladd, 1) := by decide +kernel
theorem dX6_measure_236 : decode cX6_measure 236 = .ok (.invokevirtual 105, 3) := by decide +kernel
theorem dX6_measure_239 : decode cX6_measure 239 = .ok (.iinc 2 1, 3) := by decide +kernel
theorem dX6_measure_242 : decode cX6_measure 242 = .ok (.goto (-95), 3) := by decide +kernel
theorem dX6_measure_245 : decode cX6_measure 245 = .ok (.iinc 1 1, 3) := by decide +kernel
theorem dX6_measure_248 : decode cX6_measure 248 = .ok (.goto (-111), 3) := by decide +kernel
theorem dX6_measure_251 : decode cX6_measure 251 = .ok (.return_, 1) := by decide +kernel
theorem dX6_distance_0 : decode cX6_distance 0 = .ok (.aload_n 0, 1) := by decide +kernel
theorem dX6_distance_1 : decode cX6_distance 1 = .ok (.aload_n 0, 1) := by decide +kernel
theorem dX6_distance_2 : decode cX6_distance 2 = .ok (.iload_n 1, 1) := by decide +kernel
theorem dX6_distance_3 : decode cX6_distance 3 = .ok (.invokevirtual 94, 3) := by decide +kernel
theorem dX6_distance_6 : decode cX6_distance 6 = .ok (.ifCond .eq 11, 3) := by decide +kernel
theorem dX6_distance_9 : decode cX6_distance 9 = .ok (.aload_n 0, 1) := by decide +kernel
theorem dX6_distance_10 : decode cX6_distance 10 = .ok (.iload_n 2, 1) := by decide +kernel
theorem dX6_distance_11 : decode cX6_distance 11 = .ok (.invokevirtual 94, 3) := by decide +kernel
theorem dX6_distance_14 : decode cX6_distance 14 = .ok (.ifCond .ne 7, 3) := by decide +kernel
theorem dX6_distance_17 : decode cX6_distance 17 = .ok (.iconst 1, 1) := by decide +kernel
theorem dX6_distance_18 : decode cX6_distance 18 = .ok (.goto 4, 3) := by decide +kernel
theorem dX6_distance_21 : decode cX6_distance 21 = .ok (.iconst 0, 1) := by decide +kernel
theorem dX6_distance_22 : decode cX6_distance 22 = .ok (.iconst 0, 1) := by decide +kernel
theorem dX6_distance_23 : decode cX6_distance 23 = .ok (.invokevirtual 81, 3) := by decide +kernel
theorem dX6_distance_26 : decode cX6_distance 26 = .ok (.ifCond .eq 5, 3) := by decide +kernel
theorem dX6_distance_29 : decode cX6_distance 29 = .ok (.lconst 0, 1) := by decide +kernel
theorem dX6_distance_30 : decode cX6_distance 30 = .ok (.lreturn, 1) := by decide +kernel
theorem dX6_distance_31 : decode cX6_distance 31 = .ok (.aload_n 0, 1) := by decide +kernel
theorem dX6_distance_32 : decode cX6_distance 32 = .ok (.invokevirtual 109, 3) := by decide +kernel
theorem dX6_distance_35 : decode cX6_distance 35 = .ok (.aload_n 0, 1) := by decide +kernel
theorem dX6_distance_36 : decode cX6_distance 36 = .ok (.getfield 32, 3) := by decide +kernel
theorem dX6_distance_39 : decode cX6_distance 39 = .ok (.bipush 16, 2) := by decide +kernel
theorem dX6_distance_41 : decode cX6_distance 41 = .ok (.iload_n 1, 1) := by decide +kernel
theorem dX6_distance_42 : decode cX6_distance 42 = .ok (.imul, 1) := by decide +kernel
theorem dX6_distance_43 : decode cX6_distance 43 = .ok (.iload_n 2, 1) := by decide +kernel
theorem dX6_distance_44 : decode cX6_distance 44 = .ok (.iadd, 1) := by decide +kernel
theorem dX6_distance_45 : decode cX6_distance 45 = .ok (.laload, 1) := by decide +kernel
theorem dX6_distance_46 : decode cX6_distance 46 = .ok (.ldc2_w 103, 3) := by decide +kernel
theorem dX6_distance_49 : decode cX6_distance 49 = .ok (.lcmp, 1) := by decide +kernel
theorem dX6_distance_50 : decode cX6_distance 50 = .ok (.ifCond .ge 17, 3) := by decide +kernel
theorem dX6_distance_53 : decode cX6_distance 53 = .ok (.aload_n 0, 1) := by decide +kernel
theorem dX6_distance_54 : decode cX6_distance 54 = .ok (.getfield 32, 3) := by decide +kernel
theorem dX6_distance_57 : decode cX6_distance 57 = .ok (.bipush 16, 2) := by decide +kernel
theorem dX6_distance_59 : decode cX6_distance 59 = .ok (.iload_n 1, 1) := by decide +kernel
theorem dX6_distance_60 : decode cX6_distance 60 = .ok (.imul, 1) := by decide +kernel
theorem dX6_distance_61 : decode cX6_distance 61 = .ok (.iload_n 2, 1) := by decide +kernel
theorem dX6_distance_62 : decode cX6_distance 62 = .ok (.iadd, 1) := by decide +kernel
theorem dX6_distance_63 : decode cX6_distance 63 = .ok (.laload, 1) := by decide +kernel
theorem dX6_distance_64 : decode cX6_distance 64 = .ok (.goto 6, 3) := by decide +kernel
theorem dX6_distance_67 : decode cX6_distance 67 = .ok (.ldc2_w 112, 3) := by decide +kernel
theorem dX6_distance_70 : decode cX6_distance 70 = .ok (.lreturn, 1) := by decide +kernel
theorem dX6_hasEdge_0 : decode cX6_hasEdge 0 = .ok (.iconst 0, 1) := by decide +kernel
theorem dX6_hasEdge_1 : decode cX6_hasEdge 1 = .ok (.istore_n 2, 1) := by decide +kernel
theorem dX6_hasEdge_2 : decode cX6_hasEdge 2 = .ok (.iconst 0, 1) := by decide +kernel
theorem dX6_hasEdge_3 : decode cX6_hasEdge 3 = .ok (.istore_n 3, 1) := by decide +kernel
theorem dX6_hasEdge_4 : decode cX6_hasEdge 4 = .ok (.iload_n 3, 1) := by decide +kernel
theorem dX6_hasEdge_5 : decode cX6_hasEdge 5 = .ok (.aload_n 0, 1) := by decide +kernel
theorem dX6_hasEdge_6 : decode cX6_hasEdge 6 = .ok (.getfield 85, 3) := by decide +kernel
theorem dX6_hasEdge_9 : decode cX6_hasEdge 9 = .ok (.if_icmp .ge 39, 3) := by decide +kernel
theorem dX6_hasEdge_12 : decode cX6_hasEdge 12 = .ok (.iload_n 2, 1) := by decide +kernel
theorem dX6_hasEdge_13 : decode cX6_hasEdge 13 = .ok (.ifCond .ne 23, 3) := by decide +kernel
theorem dX6_hasEdge_16 : decode cX6_hasEdge 16 = .ok (.aload_n 0, 1) := by decide +kernel
theorem dX6_hasEdge_17 : decode cX6_hasEdge 17 = .ok (.getfield 13, 3) := by decide +kernel
theorem dX6_hasEdge_20 : decode cX6_hasEdge 20 = .ok (.iload_n 3, 1) := by decide +kernel
theorem dX6_hasEdge_21 : decode cX6_hasEdge 21 = .ok (.iaload, 1) := by decide +kernel
theorem dX6_hasEdge_22 : decode cX6_hasEdge 22 = .ok (.iload_n 1, 1) := by decide +kernel
theorem dX6_hasEdge_23 : decode cX6_hasEdge 23 = .ok (.if_icmp .eq 13, 3) := by decide +kernel
theorem dX6_hasEdge_26 : decode cX6_hasEdge 26 = .ok (.aload_n 0, 1) := by decide +kernel
theorem dX6_hasEdge_27 : decode cX6_hasEdge 27 = .ok (.getfield 17, 3) := by decide +kernel
theorem dX6_hasEdge_30 : decode cX6_hasEdge 30 = .ok (.iload_n 3, 1) := by decide +kernel
theorem dX6_hasEdge_31 : decode cX6_hasEdge 31 = .ok (.iaload, 1) := by decide +kernel
theorem dX6_hasEdge_32 : decode cX6_hasEdge 32 = .ok (.iload_n 1, 1) := by decide +kernel
theorem dX6_hasEdge_33 : decode cX6_hasEdge 33 = .ok (.if_icmp .ne 7, 3) := by decide +kernel
theorem dX6_hasEdge_36 : decode cX6_hasEdge 36 = .ok (.iconst 1, 1) := by decide +kernel
theorem dX6_hasEdge_37 : decode cX6_hasEdge 37 = .ok (.goto 4, 3) := by decide +kernel
theorem dX6_hasEdge_40 : decode cX6_hasEdge 40 = .ok (.iconst 0, 1) := by decide +kernel
theorem dX6_hasEdge_41 : decode cX6_hasEdge 41 = .ok (.istore_n 2, 1) := by decide +kernel
theorem dX6_hasEdge_42 : decode cX6_hasEdge 42 = .ok (.iinc 3 1, 3) := by decide +kernel
theorem dX6_hasEdge_45 : decode cX6_hasEdge 45 = .ok (.goto (-41), 3) := by decide +kernel
theorem dX6_hasEdge_48 : decode cX6_hasEdge 48 = .ok (.iload_n 2, 1) := by decide +kernel
theorem dX6_hasEdge_49 : decode cX6_hasEdge 49 = .ok (.ireturn, 1) := by decide +kernel
theorem dX6_groups_0 : decode cX6_groups 0 = .ok (.iconst 0, 1) := by decide +kernel
theorem dX6_groups_1 : decode cX6_groups 1 = .ok (.istore_n 1, 1) := by decide +kernel
theorem dX6_groups_2 : decode cX6_groups 2 = .ok (.iload_n 1, 1) := by decide +kernel
theorem dX6_groups_3 : decode cX6_groups 3 = .ok (.bipush 16, 2) := by decide +kernel
theorem dX6_groups_5 : decode cX6_groups 5 = .ok (.if_icmp .ge 16, 3) := by decide +kernel
theorem dX6_groups_8 : decode cX6_groups 8 = .ok (.aload_n 0, 1) := by decide +kernel
theorem dX6_groups_9 : decode cX6_groups 9 = .ok (.getfield 68, 3) := by decide +kernel
theorem dX6_groups_12 : decode cX6_groups 12 = .ok (.iload_n 1, 1) := by decide +kernel
theorem dX6_groups_13 : decode cX6_groups 13 = .ok (.iload_n 1, 1) := by decide +kernel
theorem dX6_groups_14 : decode cX6_groups 14 = .ok (.iastore, 1) := by decide +kernel
theorem dX6_groups_15 : decode cX6_groups 15 = .ok (.iinc 1 1, 3) := by decide +kernel
theorem dX6_groups_18 : decode cX6_groups 18 = .ok (.goto (-16), 3) := by decide +kernel
theorem dX6_groups_21 : decode cX6_groups 21 = .ok (.iconst 1, 1) := by decide +kernel
theorem dX6_groups_22 : decode cX6_groups 22 = .ok (.istore_n 1, 1) := by decide +kernel
theorem dX6_groups_23 : decode cX6_groups 23 = .ok (.iload_n 1, 1) := by decide +kernel
theorem dX6_groups_24 : decode cX6_groups 24 = .ok (.ifCond .eq 115, 3) := by decide +kernel
theorem dX6_groups_27 : decode cX6_groups 27 = .ok (.iconst 0, 1) := by decide +kernel
theorem dX6_groups_28 : decode cX6_groups 28 = .ok (.istore_n 1, 1) := by decide +kernel
theorem dX6_groups_29 : decode cX6_groups 29 = .ok (.iconst 0, 1) := by decide +kernel
theorem dX6_groups_30 : decode cX6_groups 30 = .ok (.istore_n 2, 1) := by decide +kernel
theorem dX6_groups_31 : decode cX6_groups 31 = .ok (.iload_n 2, 1) := by decide +kernel
theorem dX6_groups_32 : decode cX6_groups 32 = .ok (.aload_n 0, 1) := by decide +kernel
theorem dX6_groups_33 : decode cX6_groups 33 = .ok (.getfield 85, 3) := by decide +kernel
theorem dX6_groups_36 : decode cX6_groups 36 = .ok (.if_icmp .ge 100, 3) := by decide +kernel
theorem dX6_groups_39 : decode cX6_groups 39 = .ok (.aload_n 0, 1) := by decide +kernel
theorem dX6_groups_40 : decode cX6_groups 40 = .ok (.getfield 68, 3) := by decide +kernel
theorem dX6_groups_43 : decode cX6_groups 43 = .ok (.aload_n 0, 1) := by decide +kernel
theorem dX6_groups_44 : decode cX6_groups 44 = .ok (.getfield 13, 3) := by decide +kernel
theorem dX6_groups_47 : decode cX6_groups 47 = .ok (.iload_n 2, 1) := by decide +kernel
theorem dX6_groups_48 : decode cX6_groups 48 = .ok (.iaload, 1) := by decide +kernel
theorem dX6_groups_49 : decode cX6_groups 49 = .ok (.iaload, 1) := by decide +kernel
theorem dX6_groups_50 : decode cX6_groups 50 = .ok (.istore_n 3, 1) := by decide +kernel
theorem dX6_groups_51 : decode cX6_groups 51 = .ok (.aload_n 0, 1) := by decide +kernel
theorem dX6_groups_52 : decode cX6_groups 52 = .ok (.getfield 68, 3) := by decide +kernel
theorem dX6_groups_55 : decode cX6_groups 55 = .ok (.aload_n 0, 1) := by decide +kernel
theorem dX6_groups_56 : decode cX6_groups 56 = .ok (.getfield 17, 3) := by decide +kernel
theorem dX6_groups_59 : decode cX6_groups 59 = .ok (.iload_n 2, 1) := by decide +kernel
theorem dX6_groups_60 : decode cX6_groups 60 = .ok (.iaload, 1) := by decide +kernel
theorem dX6_groups_61 : decode cX6_groups 61 = .ok (.iaload, 1) := by decide +kernel
theorem dX6_groups_62 : decode cX6_groups 62 = .ok (.istore 4, 2) := by decide +kernel
theorem dX6_groups_64 : decode cX6_groups 64 = .ok (.aload_n 0, 1) := by decide +kernel
theorem dX6_groups_65 : decode cX6_groups 65 = .ok (.getfield 65, 3) := by decide +kernel
theorem dX6_groups_68 : decode cX6_groups 68 = .ok (.iload_n 2, 1) := by decide +kernel
theorem dX6_groups_69 : decode cX6_groups 69 = .ok (.iaload, 1) := by decide +kernel
theorem dX6_groups_70 : decode cX6_groups 70 = .ok (.ifCond .eq 60, 3) := by decide +kernel
theorem dX6_groups_73 : decode cX6_groups 73 = .ok (.iload_n 3, 1) := by decide +kernel
theorem dX6_groups_74 : decode cX6_groups 74 = .ok (.iload 4, 2) := by decide +kernel
theorem dX6_groups_76 : decode cX6_groups 76 = .ok (.if_icmp .ne 6, 3) := by decide +kernel
theorem dX6_groups_79 : decode cX6_groups 79 = .ok (.goto 51, 3) := by decide +kernel
theorem dX6_groups_82 : decode cX6_groups 82 = .ok (.iconst 1, 1) := by decide +kernel
theorem dX6_groups_83 : decode cX6_groups 83 = .ok (.istore_n 1, 1) := by decide +kernel
theorem dX6_groups_84 : decode cX6_groups 84 = .ok (.aload_n 0, 1) := by decide +kernel
theorem dX6_groups_85 : decode cX6_groups 85 = .ok (.getfield 68, 3) := by decide +kernel
theorem dX6_groups_88 : decode cX6_groups 88 = .ok (.aload_n 0, 1) := by decide +kernel
theorem dX6_groups_89 : decode cX6_groups 89 = .ok (.getfield 13, 3) := by decide +kernel
theorem dX6_groups_92 : decode cX6_groups 92 = .ok (.iload_n 2, 1) := by decide +kernel
theorem dX6_groups_93 : decode cX6_groups 93 = .ok (.iaload, 1) := by decide +kernel
theorem dX6_groups_94 : decode cX6_groups 94 = .ok (.iload_n 3, 1) := by decide +kernel
theorem dX6_groups_95 : decode cX6_groups 95 = .ok (.iload 4, 2) := by decide +kernel
theorem dX6_groups_97 : decode cX6_groups 97 = .ok (.if_icmp .ge 7, 3) := by decide +kernel
theorem dX6_groups_100 : decode cX6_groups 100 = .ok (.iload_n 3, 1) := by decide +kernel
theorem dX6_groups_101 : decode cX6_groups 101 = .ok (.goto 5, 3) := by decide +kernel
theorem dX6_groups_104 : decode cX6_groups 104 = .ok (.iload 4, 2) := by decide +kernel
theorem dX6_groups_106 : decode cX6_groups 106 = .ok (.iastore, 1) := by decide +kernel
theorem dX6_groups_107 : decode cX6_groups 107 = .ok (.aload_n 0, 1) := by decide +kernel
theorem dX6_groups_108 : decode cX6_groups 108 = .ok (.getfield 68, 3) := by decide +kernel
theorem dX6_groups_111 : decode cX6_groups 111 = .ok (.aload_n 0, 1) := by decide +kernel
theorem dX6_groups_112 : decode cX6_groups 112 = .ok (.getfield 17, 3) := by decide +kernel
theorem dX6_groups_115 : decode cX6_groups 115 = .ok (.iload_n 2, 1) := by decide +kernel
theorem dX6_groups_116 : decode cX6_groups 116 = .ok (.iaload, 1) := by decide +kernel
theorem dX6_groups_117 : decode cX6_groups 117 = .ok (.iload_n 3, 1) := by decide +kernel
theorem dX6_groups_118 : decode cX6_groups 118 = .ok (.iload 4, 2) := by decide +kernel
theorem dX6_groups_120 : decode cX6_groups 120 = .ok (.if_icmp .ge 7, 3) := by decide +kernel
theorem dX6_groups_123 : decode cX6_groups 123 = .ok (.iload_n 3, 1) := by decide +kernel
theorem dX6_groups_124 : decode cX6_groups 124 = .ok (.goto 5, 3) := by decide +kernel
theorem dX6_groups_127 : decode cX6_groups 127 = .ok (.iload 4, 2) := by decide +kernel
theorem dX6_groups_129 : decode cX6_groups 129 = .ok (.iastore, 1) := by decide +kernel
theorem dX6_groups_130 : decode cX6_groups 130 = .ok (.iinc 2 1, 3) := by decide +kernel
theorem dX6_groups_133 : decode cX6_groups 133 = .ok (.goto (-102), 3) := by decide +kernel
theorem dX6_groups_136 : decode cX6_groups 136 = .ok (.goto (-113), 3) := by decide +kernel
theorem dX6_groups_139 : decode cX6_groups 139 = .ok (.return_, 1) := by decide +kernel
theorem dX6_hang_0 : decode cX6_hang 0 = .ok (.aload_n 0, 1) := by decide +kernel
theorem dX6_hang_1 : decode cX6_hang 1 = .ok (.invokevirtual 114, 3) := by decide +kernel
theorem dX6_hang_4 : decode cX6_hang 4 = .ok (.iconst 1, 1) := by decide +kernel
theorem dX6_hang_5 : decode cX6_hang 5 = .ok (.istore_n 2, 1) := by decide +kernel
theorem dX6_hang_6 : decode cX6_hang 6 = .ok (.iconst 0, 1) := by decide +kernel
theorem dX6_hang_7 : decode cX6_hang 7 = .ok (.istore_n 3, 1) := by decide +kernel
theorem dX6_hang_8 : decode cX6_hang 8 = .ok (.iload_n 3, 1) := by decide +kernel
theorem dX6_hang_9 : decode cX6_hang 9 = .ok (.aload_n 0, 1) := by decide +kernel
theorem dX6_hang_10 : decode cX6_hang 10 = .ok (.getfield 85, 3) := by decide +kernel
theorem dX6_hang_13 : decode cX6_hang 13 = .ok (.if_icmp .ge 48, 3) := by decide +kernel
theorem dX6_hang_16 : decode cX6_hang 16 = .ok (.iload_n 2, 1) := by decide +kernel
theorem dX6_hang_17 : decode cX6_hang 17 = .ok (.ifCond .eq 36, 3) := by decide +kernel
theorem dX6_hang_20 : decode cX6_hang 20 = .ok (.aload_n 0, 1) := by decide +kernel
theorem dX6_hang_21 : decode cX6_hang 21 = .ok (.getfield 65, 3) := by decide +kernel
theorem dX6_hang_24 : decode cX6_hang 24 = .ok (.iload_n 3, 1) := by decide +kernel
theorem dX6_hang_25 : decode cX6_hang 25 = .ok (.iaload, 1) := by decide +kernel
theorem dX6_hang_26 : decode cX6_hang 26 = .ok (.ifCond .eq 23, 3) := by decide +kernel
theorem dX6_hang_29 : decode cX6_hang 29 = .ok (.aload_n 0, 1) := by decide +kernel
theorem dX6_hang_30 : decode cX6_hang 30 = .ok (.getfield 68, 3) := by decide +kernel
theorem dX6_hang_33 : decode cX6_hang 33 = .ok (.aload_n 0, 1) := by decide +kernel
theorem dX6_hang_34 : decode cX6_hang 34 = .ok (.getfield 13, 3) := by decide +kernel
theorem dX6_hang_37 : decode cX6_hang 37 = .ok (.iload_n 3, 1) := by decide +kernel
theorem dX6_hang_38 : decode cX6_hang 38 = .ok (.iaload, 1) := by decide +kernel
theorem dX6_hang_39 : decode cX6_hang 39 = .ok (.iaload, 1) := by decide +kernel
theorem dX6_hang_40 : decode cX6_hang 40 = .ok (.aload_n 0, 1) := by decide +kernel
theorem dX6_hang_41 : decode cX6_hang 41 = .ok (.getfield 68, 3) := by decide +kernel
theorem dX6_hang_44 : decode cX6_hang 44 = .ok (.iload_n 1, 1) := by decide +kernel
theorem dX6_hang_45 : decode cX6_hang 45 = .ok (.iaload, 1) := by decide +kernel
theorem dX6_hang_46 : decode cX6_hang 46 = .ok (.if_icmp .ne 7, 3) := by decide +kernel
theorem dX6_hang_49 : decode cX6_hang 49 = .ok (.iconst 1, 1) := by decide +kernel
theorem dX6_hang_50 : decode cX6_hang 50 = .ok (.goto 4, 3) := by decide +kernel
theorem dX6_hang_53 : decode cX6_hang 53 = .ok (.iconst 0, 1) := by decide +kernel
theorem dX6_hang_54 : decode cX6_hang 54 = .ok (.istore_n 2, 1) := by decide +kernel
theorem dX6_hang_55 : decode cX6_hang 55 = .ok (.iinc 3 1, 3) := by decide +kernel
theorem dX6_hang_58 : decode cX6_hang 58 = .ok (.goto (-50), 3) := by decide +kernel
theorem dX6_hang_61 : decode cX6_hang 61 = .ok (.iload_n 2, 1) := by decide +kernel
theorem dX6_hang_62 : decode cX6_hang 62 = .ok (.ireturn, 1) := by decide +kernel
theorem dX6_leaveOne_0 : decode cX6_leaveOne 0 = .ok (.iconst 0, 1) := by decide +kernel
theorem dX6_leaveOne_1 : decode cX6_leaveOne 1 = .ok (.istore_n 1, 1) := by decide +kernel
theorem dX6_leaveOne_2 : decode cX6_leaveOne 2 = .ok (.iload_n 1, 1) := by decide +kernel
theorem dX6_leaveOne_3 : decode cX6_leaveOne 3 = .ok (.aload_n 0, 1) := by decide +kernel
theorem dX6_leaveOne_4 : decode cX6_leaveOne 4 = .ok (.getfield 85, 3) := by decide +kernel
theorem dX6_leaveOne_7 : decode cX6_leaveOne 7 = .ok (.if_icmp .ge 16, 3) := by decide +kernel
theorem dX6_leaveOne_10 : decode cX6_leaveOne 10 = .ok (.aload_n 0, 1) := by decide +kernel
theorem dX6_leaveOne_11 : decode cX6_leaveOne 11 = .ok (.getfield 65, 3) := by decide +kernel
theorem dX6_leaveOne_14 : decode cX6_leaveOne 14 = .ok (.iload_n 1, 1) := by decide +kernel
theorem dX6_leaveOne_15 : decode cX6_leaveOne 15 = .ok (.iconst 1, 1) := by decide +kernel
theorem dX6_leaveOne_16 : decode cX6_leaveOne 16 = .ok (.iastore, 1) := by decide +kernel
theorem dX6_leaveOne_17 : decode cX6_leaveOne 17 = .ok (.iinc 1 1, 3) := by decide +kernel
theorem dX6_leaveOne_20 : decode cX6_leaveOne 20 = .ok (.goto (-18), 3) := by decide +kernel
theorem dX6_leaveOne_23 : decode cX6_leaveOne 23 = .ok (.return_, 1) := by decide +kernel
theorem dX6_balance_0 : decode cX6_balance 0 = .ok (.iconst 0, 1) := by decide +kernel
theorem dX6_balance_1 : decode cX6_balance 1 = .ok (.istore_n 2, 1) := by decide +kernel
theorem dX6_balance_2 : decode cX6_balance 2 = .ok (.iconst 0, 1) := by decide +kernel
theorem dX6_balance_3 : decode cX6_balance 3 = .ok (.istore_n 3, 1) := by decide +kernel
theorem dX6_balance_4 : decode cX6_balance 4 = .ok (.iload_n 3, 1) := by decide +kernel
theorem dX6_balance_5 : decode cX6_balance 5 = .ok (.aload_n 0, 1) := by decide +kernel
theorem dX6_balance_6 : decode cX6_balance 6 = .ok (.getfield 85, 3) := by decide +kernel
theorem dX6_balance_9 : decode cX6_balance 9 = .ok (.if_icmp .ge 52, 3) := by decide +kernel
theorem dX6_balance_12 : decode cX6_balance 12 = .ok (.iload_n 2, 1) := by decide +kernel
theorem dX6_balance_13 : decode cX6_balance 13 = .ok (.aload_n 0, 1) := by decide +kernel
theorem dX6_balance_14 : decode cX6_balance 14 = .ok (.getfield 17, 3) := by decide +kernel
theorem dX6_balance_17 : decode cX6_balance 17 = .ok (.iload_n 3, 1) := by decide +kernel
theorem dX6_balance_18 : decode cX6_balance 18 = .ok (.iaload, 1) := by decide +kernel
theorem dX6_balance_19 : decode cX6_balance 19 = .ok (.iload_n 1, 1) := by decide +kernel
theorem dX6_balance_20 : decode cX6_balance 20 = .ok (.if_icmp .ne 7, 3) := by decide +kernel
theorem dX6_balance_23 : decode cX6_balance 23 = .ok (.iconst 1, 1) := by decide +kernel
theorem dX6_balance_24 : decode cX6_balance 24 = .ok (.goto 4, 3) := by decide +kernel
theorem dX6_balance_27 : decode cX6_balance 27 = .ok (.iconst 0, 1) := by decide +kernel
theorem dX6_balance_28 : decode cX6_balance 28 = .ok (.iadd, 1) := by decide +kernel
theorem dX6_balance_29 : decode cX6_balance 29 = .ok (.istore_n 2, 1) := by decide +kernel
theorem dX6_balance_30 : decode cX6_balance 30 = .ok (.aload_n 0, 1) := by decide +kernel
theorem dX6_balance_31 : decode cX6_balance 31 = .ok (.getfield 13, 3) := by decide +kernel
theorem dX6_balance_34 : decode cX6_balance 34 = .ok (.iload_n 3, 1) := by decide +kernel
theorem dX6_balance_35 : decode cX6_balance 35 = .ok (.iaload, 1) := by decide +kernel
theorem dX6_balance_36 : decode cX6_balance 36 = .ok (.iload_n 1, 1) := by decide +kernel
theorem dX6_balance_37 : decode cX6_balance 37 = .ok (.if_icmp .ne 18, 3) := by decide +kernel
theorem dX6_balance_40 : decode cX6_balance 40 = .ok (.iload_n 2, 1) := by decide +kernel
theorem dX6_balance_41 : decode cX6_balance 41 = .ok (.aload_n 0, 1) := by decide +kernel
theorem dX6_balance_42 : decode cX6_balance 42 = .ok (.getfield 88, 3) := by decide +kernel
theorem dX6_balance_45 : decode cX6_balance 45 = .ok (.ifCond .eq 7, 3) := by decide +kernel
theorem dX6_balance_48 : decode cX6_balance 48 = .ok (.iconst (-1), 1) := by decide +kernel
theorem dX6_balance_49 : decode cX6_balance 49 = .ok (.goto 4, 3) := by decide +kernel
theorem dX6_balance_52 : decode cX6_balance 52 = .ok (.iconst 1, 1) := by decide +kernel
theorem dX6_balance_53 : decode cX6_balance 53 = .ok (.iadd, 1) := by decide +kernel
theorem dX6_balance_54 : decode cX6_balance 54 = .ok (.istore_n 2, 1) := by decide +kernel
theorem dX6_balance_55 : decode cX6_balance 55 = .ok (.iinc 3 1, 3) := by decide +kernel
theorem dX6_balance_58 : decode cX6_balance 58 = .ok (.goto (-54), 3) := by decide +kernel
theorem dX6_balance_61 : decode cX6_balance 61 = .ok (.iload_n 2, 1) := by decide +kernel
theorem dX6_balance_62 : decode cX6_balance 62 = .ok (.ireturn, 1) := by decide +kernel
theorem dX6_isOdd_0 : decode cX6_isOdd 0 = .ok (.aload_n 0, 1) := by decide +kernel
theorem dX6_isOdd_1 : decode cX6_isOdd 1 = .ok (.getfield 88, 3) := by decide +kernel
theorem dX6_isOdd_4 : decode cX6_isOdd 4 = .ok (.ifCond .eq 19, 3) := by decide +kernel
theorem dX6_isOdd_7 : decode cX6_isOdd 7 = .ok (.aload_n 0, 1) := by decide +kernel
theorem dX6_isOdd_8 : decode cX6_isOdd 8 = .ok (.iload_n 1, 1) := by decide +kernel
theorem dX6_isOdd_9 : decode cX6_isOdd 9 = .ok (.invokevirtual 117, 3) := by decide +kernel
theorem dX6_isOdd_12 : decode cX6_isOdd 12 = .ok (.ifCond .eq 7, 3) := by decide +kernel
theorem dX6_isOdd_15 : decode cX6_isOdd 15 = .ok (.iconst 1, 1) := by decide +kernel
theorem dX6_isOdd_16 : decode cX6_isOdd 16 = .ok (.goto 22, 3) := by decide +kernel
theorem dX6_isOdd_19 : decode cX6_isOdd 19 = .ok (.iconst 0, 1) := by decide +kernel
theorem dX6_isOdd_20 : decode cX6_isOdd 20 = .ok (.goto 18, 3) := by decide +kernel
theorem dX6_isOdd_23 : decode cX6_isOdd 23 = .ok (.aload_n 0, 1) := by decide +kernel
theorem dX6_isOdd_24 : decode cX6_isOdd 24 = .ok (.iload_n 1, 1) := by decide +kernel
theorem dX6_isOdd_25 : decode cX6_isOdd 25 = .ok (.invokevirtual 117, 3) := by decide +kernel
theorem dX6_isOdd_28 : decode cX6_isOdd 28 = .ok (.iconst 2, 1) := by decide +kernel
theorem dX6_isOdd_29 : decode cX6_isOdd 29 = .ok (.irem, 1) := by decide +kernel
theorem dX6_isOdd_30 : decode cX6_isOdd 30 = .ok (.ifCond .eq 7, 3) := by decide +kernel
theorem dX6_isOdd_33 : decode cX6_isOdd 33 = .ok (.iconst 1, 1) := by decide +kernel
theorem dX6_isOdd_34 : decode cX6_isOdd 34 = .ok (.goto 4, 3) := by decide +kernel
theorem dX6_isOdd_37 : decode cX6_isOdd 37 = .ok (.iconst 0, 1) := by decide +kernel
theorem dX6_isOdd_38 : decode cX6_isOdd 38 = .ok (.ireturn, 1) := by decide +kernel
theorem dX6_countOdd_0 : decode cX6_countOdd 0 = .ok (.iconst 0, 1) := by decide +kernel
theorem dX6_countOdd_1 : decode cX6_countOdd 1 = .ok (.istore_n 1, 1) := by decide +kernel
theorem dX6_countOdd_2 : decode cX6_countOdd 2 = .ok (.iconst 0, 1) := by decide +kernel
theorem dX6_countOdd_3 : decode cX6_countOdd 3 = .ok (.istore_n 2, 1) := by decide +kernel
theorem dX6_countOdd_4 : decode cX6_countOdd 4 = .ok (.iload_n 2, 1) := by decide +kernel
theorem dX6_countOdd_5 : decode cX6_countOdd 5 = .ok (.aload_n 0, 1) := by decide +kernel
theorem dX6_countOdd_6 : decode cX6_countOdd 6 = .ok (.getfield 7, 3) := by decide +kernel
theorem dX6_countOdd_9 : decode cX6_countOdd 9 = .ok (.if_icmp .ge 25, 3) := by decide +kernel
theorem dX6_countOdd_12 : decode cX6_countOdd 12 = .ok (.iload_n 1, 1) := by decide +kernel
theorem dX6_countOdd_13 : decode cX6_countOdd 13 = .ok (.aload_n 0, 1) := by decide +kernel
theorem dX6_countOdd_14 : decode cX6_countOdd 14 = .ok (.iload_n 2, 1) := by decide +kernel
theorem dX6_countOdd_15 : decode cX6_countOdd 15 = .ok (.invokevirtual 121, 3) := by decide +kernel
theorem dX6_countOdd_18 : decode cX6_countOdd 18 = .ok (.ifCond .eq 7, 3) := by decide +kernel
theorem dX6_countOdd_21 : decode cX6_countOdd 21 = .ok (.iconst 1, 1) := by decide +kernel
theorem dX6_countOdd_22 : decode cX6_countOdd 22 = .ok (.goto 4, 3) := by decide +kernel
theorem dX6_countOdd_25 : decode cX6_countOdd 25 = .ok (.iconst 0, 1) := by decide +kernel
theorem dX6_countOdd_26 : decode cX6_countOdd 26 = .ok (.iadd, 1) := by decide +kernel
theorem dX6_countOdd_27 : decode cX6_countOdd 27 = .ok (.istore_n 1, 1) := by decide +kernel
theorem dX6_countOdd_28 : decode cX6_countOdd 28 = .ok (.iinc 2 1, 3) := by decide +kernel
theorem dX6_countOdd_31 : decode cX6_countOdd 31 = .ok (.goto (-27), 3) := by decide +kernel
theorem dX6_countOdd_34 : decode cX6_countOdd 34 = .ok (.iload_n 1, 1) := by decide +kernel
theorem dX6_countOdd_35 : decode cX6_countOdd 35 = .ok (.ireturn, 1) := by decide +kernel
theorem dX6_goes_0 : decode cX6_goes 0 = .ok (.iload_n 2, 1) := by decide +kernel
theorem dX6_goes_1 : decode cX6_goes 1 = .ok (.ifCond .lt 13, 3) := by decide +kernel
theorem dX6_goes_4 : decode cX6_goes 4 = .ok (.iload_n 2, 1) := by decide +kernel
theorem dX6_goes_5 : decode cX6_goes 5 = .ok (.iconst 2, 1) := by decide +kernel
theorem dX6_goes_6 : decode cX6_goes 6 = .ok (.aload_n 0, 1) := by decide +kernel
theorem dX6_goes_7 : decode cX6_goes 7 = .ok (.getfield 85, 3) := by decide +kernel
theorem dX6_goes_10 : decode cX6_goes 10 = .ok (.imul, 1) := by decide +kernel
theorem dX6_goes_11 : decode cX6_goes 11 = .ok (.if_icmp .lt 5, 3) := by decide +kernel
theorem dX6_goes_14 : decode cX6_goes 14 = .ok (.iconst (-1), 1) := by decide +kernel
theorem dX6_goes_15 : decode cX6_goes 15 = .ok (.ireturn, 1) := by decide +kernel
theorem dX6_goes_16 : decode cX6_goes 16 = .ok (.iload_n 2, 1) := by decide +kernel
theorem dX6_goes_17 : decode cX6_goes 17 = .ok (.iconst 2, 1) := by decide +kernel
theorem dX6_goes_18 : decode cX6_goes 18 = .ok (.idiv, 1) := by decide +kernel
theorem dX6_goes_19 : decode cX6_goes 19 = .ok (.istore_n 3, 1) := by decide +kernel
theorem dX6_goes_20 : decode cX6_goes 20 = .ok (.iload_n 2, 1) := by decide +kernel
theorem dX6_goes_21 : decode cX6_goes 21 = .ok (.iconst 2, 1) := by decide +kernel
theorem dX6_goes_22 : decode cX6_goes 22 = .ok (.irem, 1) := by decide +kernel
theorem dX6_goes_23 : decode cX6_goes 23 = .ok (.ifCond .ne 24, 3) := by decide +kernel
theorem dX6_goes_26 : decode cX6_goes 26 = .ok (.aload_n 0, 1) := by decide +kernel
theorem dX6_goes_27 : decode cX6_goes 27 = .ok (.getfield 13, 3) := by decide +kernel
theorem dX6_goes_30 : decode cX6_goes 30 = .ok (.iload_n 3, 1) := by decide +kernel
theorem dX6_goes_31 : decode cX6_goes 31 = .ok (.iaload, 1) := by decide +kernel
theorem dX6_goes_32 : decode cX6_goes 32 = .ok (.iload_n 1, 1) := by decide +kernel
theorem dX6_goes_33 : decode cX6_goes 33 = .ok (.if_icmp .ne 12, 3) := by decide +kernel
theorem dX6_goes_36 : decode cX6_goes 36 = .ok (.aload_n 0, 1) := by decide +kernel
theorem dX6_goes_37 : decode cX6_goes 37 = .ok (.getfield 17, 3) := by decide +kernel
theorem dX6_goes_40 : decode cX6_goes 40 = .ok (.iload_n 3, 1) := by decide +kernel
theorem dX6_goes_41 : decode cX6_goes 41 = .ok (.iaload, 1) := by decide +kernel
theorem dX6_goes_42 : decode cX6_goes 42 = .ok (.goto 4, 3) := by decide +kernel
theorem dX6_goes_45 : decode cX6_goes 45 = .ok (.iconst (-1), 1) := by decide +kernel
theorem dX6_goes_46 : decode cX6_goes 46 = .ok (.ireturn, 1) := by decide +kernel
theorem dX6_goes_47 : decode cX6_goes 47 = .ok (.aload_n 0, 1) := by decide +kernel
theorem dX6_goes_48 : decode cX6_goes 48 = .ok (.getfield 88, 3) := by decide +kernel
theorem dX6_goes_51 : decode cX6_goes 51 = .ok (.ifCond .ne 37, 3) := by decide +kernel
theorem dX6_goes_54 : decode cX6_goes 54 = .ok (.aload_n 0, 1) := by decide +kernel
theorem dX6_goes_55 : decode cX6_goes 55 = .ok (.getfield 13, 3) := by decide +kernel
theorem dX6_goes_58 : decode cX6_goes 58 = .ok (.iload_n 3, 1) := by decide +kernel
theorem dX6_goes_59 : decode cX6_goes 59 = .ok (.iaload, 1) := by decide +kernel
theorem dX6_goes_60 : decode cX6_goes 60 = .ok (.aload_n 0, 1) := by decide +kernel
theorem dX6_goes_61 : decode cX6_goes 61 = .ok (.getfield 17, 3) := by decide +kernel
theorem dX6_goes_64 : decode cX6_goes 64 = .ok (.iload_n 3, 1) := by decide +kernel
theorem dX6_goes_65 : decode cX6_goes 65 = .ok (.iaload, 1) := by decide +kernel
theorem dX6_goes_66 : decode cX6_goes 66 = .ok (.if_icmp .eq 22, 3) := by decide +kernel
theorem dX6_goes_69 : decode cX6_goes 69 = .ok (.aload_n 0, 1) := by decide +kernel
theorem dX6_goes_70 : decode cX6_goes 70 = .ok (.getfield 17, 3) := by decide +kernel
theorem dX6_goes_73 : decode cX6_goes 73 = .ok (.iload_n 3, 1) := by decide +kernel
theorem dX6_goes_74 : decode cX6_goes 74 = .ok (.iaload, 1) := by decide +kernel
theorem dX6_goes_75 : decode cX6_goes 75 = .ok (.iload_n 1, 1) := by decide +kernel
theorem dX6_goes_76 : decode cX6_goes 76 = .ok (.if_icmp .ne 12, 3) := by decide +kernel
theorem dX6_goes_79 : decode cX6_goes 79 = .ok (.aload_n 0, 1) := by decide +kernel
theorem dX6_goes_80 : decode cX6_goes 80 = .ok (.getfield 13, 3) := by decide +kernel
theorem dX6_goes_83 : decode cX6_goes 83 = .ok (.iload_n 3, 1) := by decide +kernel
theorem dX6_goes_84 : decode cX6_goes 84 = .ok (.iaload, 1) := by decide +kernel
theorem dX6_goes_85 : decode cX6_goes 85 = .ok (.goto 4, 3) := by decide +kernel
theorem dX6_goes_88 : decode cX6_goes 88 = .ok (.iconst (-1), 1) := by decide +kernel
theorem dX6_goes_89 : decode cX6_goes 89 = .ok (.ireturn, 1) := by decide +kernel
theorem dX6_walk_0 : decode cX6_walk 0 = .ok (.aload_n 0, 1) := by decide +kernel
theorem dX6_walk_1 : decode cX6_walk 1 = .ok (.iconst 0, 1) := by decide +kernel
theorem dX6_walk_2 : decode cX6_walk 2 = .ok (.putfield 74, 3) := by decide +kernel
theorem dX6_walk_5 : decode cX6_walk 5 = .ok (.iload_n 1, 1) := by decide +kernel
theorem dX6_walk_6 : decode cX6_walk 6 = .ok (.istore_n 2, 1) := by decide +kernel
theorem dX6_walk_7 : decode cX6_walk 7 = .ok (.iconst 1, 1) := by decide +kernel
theorem dX6_walk_8 : decode cX6_walk 8 = .ok (.istore_n 3, 1) := by decide +kernel
theorem dX6_walk_9 : decode cX6_walk 9 = .ok (.iload_n 3, 1) := by decide +kernel
theorem dX6_walk_10 : decode cX6_walk 10 = .ok (.ifCond .eq 152, 3) := by decide +kernel
theorem dX6_walk_13 : decode cX6_walk 13 = .ok (.iconst (-1), 1) := by decide +kernel
theorem dX6_walk_14 : decode cX6_walk 14 = .ok (.istore 4, 2) := by decide +kernel
theorem dX6_walk_16 : decode cX6_walk 16 = .ok (.iconst 0, 1) := by decide +kernel
theorem dX6_walk_17 : decode cX6_walk 17 = .ok (.istore 5, 2) := by decide +kernel
theorem dX6_walk_19 : decode cX6_walk 19 = .ok (.iload 5, 2) := by decide +kernel
theorem dX6_walk_21 : decode cX6_walk 21 = .ok (.iconst 2, 1) := by decide +kernel
theorem dX6_walk_22 : decode cX6_walk 22 = .ok (.aload_n 0, 1) := by decide +kernel
theorem dX6_walk_23 : decode cX6_walk 23 = .ok (.getfield 85, 3) := by decide +kernel
theorem dX6_walk_26 : decode cX6_walk 26 = .ok (.imul, 1) := by decide +kernel
theorem dX6_walk_27 : decode cX6_walk 27 = .ok (.if_icmp .ge 110, 3) := by decide +kernel
theorem dX6_walk_30 : decode cX6_walk 30 = .ok (.iload 4, 2) := by decide +kernel
theorem dX6_walk_32 : decode cX6_walk 32 = .ok (.ifCond .ge 105, 3) := by decide +kernel
theorem dX6_walk_35 : decode cX6_walk 35 = .ok (.aload_n 0, 1) := by decide +kernel
theorem dX6_walk_36 : decode cX6_walk 36 = .ok (.getfield 65, 3) := by decide +kernel
theorem dX6_walk_39 : decode cX6_walk 39 = .ok (.iload 5, 2) := by decide +kernel
theorem dX6_walk_41 : decode cX6_walk 41 = .ok (.iconst 2, 1) := by decide +kernel
theorem dX6_walk_42 : decode cX6_walk 42 = .ok (.idiv, 1) := by decide +kernel
theorem dX6_walk_43 : decode cX6_walk 43 = .ok (.iaload, 1) := by decide +kernel
theorem dX6_walk_44 : decode cX6_walk 44 = .ok (.ifCond .le 13, 3) := by decide +kernel
theorem dX6_walk_47 : decode cX6_walk 47 = .ok (.aload_n 0, 1) := by decide +kernel
theorem dX6_walk_48 : decode cX6_walk 48 = .ok (.iload_n 2, 1) := by decide +kernel
theorem dX6_walk_49 : decode cX6_walk 49 = .ok (.iload 5, 2) := by decide +kernel
theorem dX6_walk_51 : decode cX6_walk 51 = .ok (.invokevirtual 124, 3) := by decide +kernel
theorem dX6_walk_54 : decode cX6_walk 54 = .ok (.goto 4, 3) := by decide +kernel
theorem dX6_walk_57 : decode cX6_walk 57 = .ok (.iconst (-1), 1) := by decide +kernel
theorem dX6_walk_58 : decode cX6_walk 58 = .ok (.istore 6, 2) := by decide +kernel
theorem dX6_walk_60 : decode cX6_walk 60 = .ok (.iload 6, 2) := by decide +kernel
theorem dX6_walk_62 : decode cX6_walk 62 = .ok (.ifCond .ge 6, 3) := by decide +kernel
theorem dX6_walk_65 : decode cX6_walk 65 = .ok (.goto 66, 3) := by decide +kernel
theorem dX6_walk_68 : decode cX6_walk 68 = .ok (.aload_n 0, 1) := by decide +kernel
theorem dX6_walk_69 : decode cX6_walk 69 = .ok (.getfield 65, 3) := by decide +kernel
theorem dX6_walk_72 : decode cX6_walk 72 = .ok (.iload 5, 2) := by decide +kernel
theorem dX6_walk_74 : decode cX6_walk 74 = .ok (.iconst 2, 1) := by decide +kernel
theorem dX6_walk_75 : decode cX6_walk 75 = .ok (.idiv, 1) := by decide +kernel
theorem dX6_walk_76 : decode cX6_walk 76 = .ok (.dup2, 1) := by decide +kernel
theorem dX6_walk_77 : decode cX6_walk 77 = .ok (.iaload, 1) := by decide +kernel
theorem dX6_walk_78 : decode cX6_walk 78 = .ok (.iconst 1, 1) := by decide +kernel
theorem dX6_walk_79 : decode cX6_walk 79 = .ok (.isub, 1) := by decide +kernel
theorem dX6_walk_80 : decode cX6_walk 80 = .ok (.iastore, 1) := by decide +kernel
theorem dX6_walk_81 : decode cX6_walk 81 = .ok (.aload_n 0, 1) := by decide +kernel
theorem dX6_walk_82 : decode cX6_walk 82 = .ok (.iload 6, 2) := by decide +kernel
theorem dX6_walk_84 : decode cX6_walk 84 = .ok (.invokevirtual 128, 3) := by decide +kernel
theorem dX6_walk_87 : decode cX6_walk 87 = .ok (.ifCond .eq 31, 3) := by decide +kernel
theorem dX6_walk_90 : decode cX6_walk 90 = .ok (.iload 6, 2) := by decide +kernel
theorem dX6_walk_92 : decode cX6_walk 92 = .ok (.istore 4, 2) := by decide +kernel
theorem dX6_walk_94 : decode cX6_walk 94 = .ok (.aload_n 0, 1) := by decide +kernel
theorem dX6_walk_95 : decode cX6_walk 95 = .ok (.getfield 23, 3) := by decide +kernel
theorem dX6_walk_98 : decode cX6_walk 98 = .ok (.aload_n 0, 1) := by decide +kernel
theorem dX6_walk_99 : decode cX6_walk 99 = .ok (.getfield 74, 3) := by decide +kernel
theorem dX6_walk_102 : decode cX6_walk 102 = .ok (.iload 5, 2) := by decide +kernel
theorem dX6_walk_104 : decode cX6_walk 104 = .ok (.iastore, 1) := by decide +kernel
theorem dX6_walk_105 : decode cX6_walk 105 = .ok (.aload_n 0, 1) := by decide +kernel
theorem dX6_walk_106 : decode cX6_walk 106 = .ok (.dup, 1) := by decide +kernel
theorem dX6_walk_107 : decode cX6_walk 107 = .ok (.getfield 74, 3) := by decide +kernel
theorem dX6_walk_110 : decode cX6_walk 110 = .ok (.iconst 1, 1) := by decide +kernel
theorem dX6_walk_111 : decode cX6_walk 111 = .ok (.iadd, 1) := by decide +kernel
theorem dX6_walk_112 : decode cX6_walk 112 = .ok (.putfield 74, 3) := by decide +kernel
theorem dX6_walk_115 : decode cX6_walk 115 = .ok (.goto 16, 3) := by decide +kernel
theorem dX6_walk_118 : decode cX6_walk 118 = .ok (.aload_n 0, 1) := by decide +kernel
theorem dX6_walk_119 : decode cX6_walk 119 = .ok (.getfield 65, 3) := by decide +kernel
theorem dX6_walk_122 : decode cX6_walk 122 = .ok (.iload 5, 2) := by decide +kernel
theorem dX6_walk_124 : decode cX6_walk 124 = .ok (.iconst 2, 1) := by decide +kernel
theorem dX6_walk_125 : decode cX6_walk 125 = .ok (.idiv, 1) := by decide +kernel
theorem dX6_walk_126 : decode cX6_walk 126 = .ok (.dup2, 1) := by decide +kernel
theorem dX6_walk_127 : decode cX6_walk 127 = .ok (.iaload, 1) := by decide +kernel
theorem dX6_walk_128 : decode cX6_walk 128 = .ok (.iconst 1, 1) := by decide +kernel
theorem dX6_walk_129 : decode cX6_walk 129 = .ok (.iadd, 1) := by decide +kernel
theorem dX6_walk_130 : decode cX6_walk 130 = .ok (.iastore, 1) := by decide +kernel
theorem dX6_walk_131 : decode cX6_walk 131 = .ok (.iinc 5 1, 3) := by decide +kernel
theorem dX6_walk_134 : decode cX6_walk 134 = .ok (.goto (-115), 3) := by decide +kernel
theorem dX6_walk_137 : decode cX6_walk 137 = .ok (.iload 4, 2) := by decide +kernel
theorem dX6_walk_139 : decode cX6_walk 139 = .ok (.ifCond .lt 7, 3) := by decide +kernel
theorem dX6_walk_142 : decode cX6_walk 142 = .ok (.iconst 1, 1) := by decide +kernel
theorem dX6_walk_143 : decode cX6_walk 143 = .ok (.goto 4, 3) := by decide +kernel
theorem dX6_walk_146 : decode cX6_walk 146 = .ok (.iconst 0, 1) := by decide +kernel
theorem dX6_walk_147 : decode cX6_walk 147 = .ok (.istore_n 3, 1) := by decide +kernel
theorem dX6_walk_148 : decode cX6_walk 148 = .ok (.iload_n 3, 1) := by decide +kernel
theorem dX6_walk_149 : decode cX6_walk 149 = .ok (.ifCond .eq 8, 3) := by decide +kernel
theorem dX6_walk_152 : decode cX6_walk 152 = .ok (.iload 4, 2) := by decide +kernel
theorem dX6_walk_154 : decode cX6_walk 154 = .ok (.goto 4, 3) := by decide +kernel
theorem dX6_walk_157 : decode cX6_walk 157 = .ok (.iload_n 2, 1) := by decide +kernel
theorem dX6_walk_158 : decode cX6_walk 158 = .ok (.istore_n 2, 1) := by decide +kernel
theorem dX6_walk_159 : decode cX6_walk 159 = .ok (.goto (-150), 3) := by decide +kernel
theorem dX6_walk_162 : decode cX6_walk 162 = .ok (.return_, 1) := by decide +kernel
theorem dX6_tour_0 : decode cX6_tour 0 = .ok (.aload_n 0, 1) := by decide +kernel
theorem dX6_tour_1 : decode cX6_tour 1 = .ok (.aload_n 0, 1) := by decide +kernel
theorem dX6_tour_2 : decode cX6_tour 2 = .ok (.iload_n 1, 1) := by decide +kernel
theorem dX6_tour_3 : decode cX6_tour 3 = .ok (.invokevirtual 94, 3) := by decide +kernel
theorem dX6_tour_6 : decode cX6_tour 6 = .ok (.ifCond .ne 7, 3) := by decide +kernel
theorem dX6_tour_9 : decode cX6_tour 9 = .ok (.iconst 1, 1) := by decide +kernel
theorem dX6_tour_10 : decode cX6_tour 10 = .ok (.goto 4, 3) := by decide +kernel
theorem dX6_tour_13 : decode cX6_tour 13 = .ok (.iconst 0, 1) := by decide +kernel
theorem dX6_tour_14 : decode cX6_tour 14 = .ok (.iconst 0, 1) := by decide +kernel
theorem dX6_tour_15 : decode cX6_tour 15 = .ok (.invokevirtual 81, 3) := by decide +kernel
theorem dX6_tour_18 : decode cX6_tour 18 = .ok (.ifCond .eq 5, 3) := by decide +kernel
theorem dX6_tour_21 : decode cX6_tour 21 = .ok (.iconst 0, 1) := by decide +kernel
theorem dX6_tour_22 : decode cX6_tour 22 = .ok (.ireturn, 1) := by decide +kernel
theorem dX6_tour_23 : decode cX6_tour 23 = .ok (.aload_n 0, 1) := by decide +kernel
theorem dX6_tour_24 : decode cX6_tour 24 = .ok (.invokevirtual 131, 3) := by decide +kernel
theorem dX6_tour_27 : decode cX6_tour 27 = .ok (.ifCond .le 6, 3) := by decide +kernel
theorem dX6_tour_30 : decode cX6_tour 30 = .ok (.bipush (-2), 2) := by decide +kernel
theorem dX6_tour_32 : decode cX6_tour 32 = .ok (.ireturn, 1) := by decide +kernel
theorem dX6_tour_33 : decode cX6_tour 33 = .ok (.aload_n 0, 1) := by decide +kernel
theorem dX6_tour_34 : decode cX6_tour 34 = .ok (.invokevirtual 135, 3) := by decide +kernel
theorem dX6_tour_37 : decode cX6_tour 37 = .ok (.aload_n 0, 1) := by decide +kernel
theorem dX6_tour_38 : decode cX6_tour 38 = .ok (.iload_n 1, 1) := by decide +kernel
theorem dX6_tour_39 : decode cX6_tour 39 = .ok (.invokevirtual 128, 3) := by decide +kernel
theorem dX6_tour_42 : decode cX6_tour 42 = .ok (.ifCond .ne 5, 3) := by decide +kernel
theorem dX6_tour_45 : decode cX6_tour 45 = .ok (.iconst (-1), 1) := by decide +kernel
theorem dX6_tour_46 : decode cX6_tour 46 = .ok (.ireturn, 1) := by decide +kernel
theorem dX6_tour_47 : decode cX6_tour 47 = .ok (.aload_n 0, 1) := by decide +kernel
theorem dX6_tour_48 : decode cX6_tour 48 = .ok (.iload_n 1, 1) := by decide +kernel
theorem dX6_tour_49 : decode cX6_tour 49 = .ok (.invokevirtual 138, 3) := by decide +kernel
theorem dX6_tour_52 : decode cX6_tour 52 = .ok (.aload_n 0, 1) := by decide +kernel
theorem dX6_tour_53 : decode cX6_tour 53 = .ok (.getfield 74, 3) := by decide +kernel
theorem dX6_tour_56 : decode cX6_tour 56 = .ok (.ireturn, 1) := by decide +kernel
theorem dX6_pair_0 : decode cX6_pair 0 = .ok (.aload_n 0, 1) := by decide +kernel
theorem dX6_pair_1 : decode cX6_pair 1 = .ok (.iconst 0, 1) := by decide +kernel
theorem dX6_pair_2 : decode cX6_pair 2 = .ok (.putfield 142, 3) := by decide +kernel
theorem dX6_pair_5 : decode cX6_pair 5 = .ok (.iconst 0, 1) := by decide +kernel
theorem dX6_pair_6 : decode cX6_pair 6 = .ok (.istore_n 1, 1) := by decide +kernel
theorem dX6_pair_7 : decode cX6_pair 7 = .ok (.iload_n 1, 1) := by decide +kernel
theorem dX6_pair_8 : decode cX6_pair 8 = .ok (.aload_n 0, 1) := by decide +kernel
theorem dX6_pair_9 : decode cX6_pair 9 = .ok (.getfield 7, 3) := by decide +kernel
theorem dX6_pair_12 : decode cX6_pair 12 = .ok (.if_icmp .ge 40, 3) := by decide +kernel
theorem dX6_pair_15 : decode cX6_pair 15 = .ok (.aload_n 0, 1) := by decide +kernel
theorem dX6_pair_16 : decode cX6_pair 16 = .ok (.iload_n 1, 1) := by decide +kernel
theorem dX6_pair_17 : decode cX6_pair 17 = .ok (.invokevirtual 121, 3) := by decide +kernel
theorem dX6_pair_20 : decode cX6_pair 20 = .ok (.ifCond .ne 6, 3) := by decide +kernel
theorem dX6_pair_23 : decode cX6_pair 23 = .ok (.goto 23, 3) := by decide +kernel
theorem dX6_pair_26 : decode cX6_pair 26 = .ok (.aload_n 0, 1) := by decide +kernel
theorem dX6_pair_27 : decode cX6_pair 27 = .ok (.getfield 39, 3) := by decide +kernel
theorem dX6_pair_30 : decode cX6_pair 30 = .ok (.aload_n 0, 1) := by decide +kernel
theorem dX6_pair_31 : decode cX6_pair 31 = .ok (.getfield 142, 3) := by decide +kernel
theorem dX6_pair_34 : decode cX6_pair 34 = .ok (.iload_n 1, 1) := by decide +kernel
theorem dX6_pair_35 : decode cX6_pair 35 = .ok (.iastore, 1) := by decide +kernel
theorem dX6_pair_36 : decode cX6_pair 36 = .ok (.aload_n 0, 1) := by decide +kernel
theorem dX6_pair_37 : decode cX6_pair 37 = .ok (.dup, 1) := by decide +kernel
theorem dX6_pair_38 : decode cX6_pair 38 = .ok (.getfield 142, 3) := by decide +kernel
theorem dX6_pair_41 : decode cX6_pair 41 = .ok (.iconst 1, 1) := by decide +kernel
theorem dX6_pair_42 : decode cX6_pair 42 = .ok (.iadd, 1) := by decide +kernel
theorem dX6_pair_43 : decode cX6_pair 43 = .ok (.putfield 142, 3) := by decide +kernel
theorem dX6_pair_46 : decode cX6_pair 46 = .ok (.iinc 1 1, 3) := by decide +kernel
theorem dX6_pair_49 : decode cX6_pair 49 = .ok (.goto (-42), 3) := by decide +kernel
theorem dX6_pair_52 : decode cX6_pair 52 = .ok (.aload_n 0, 1) := by decide +kernel
theorem dX6_pair_53 : decode cX6_pair 53 = .ok (.getfield 43, 3) := by decide +kernel
theorem dX6_pair_56 : decode cX6_pair 56 = .ok (.iconst 0, 1) := by decide +kernel
theorem dX6_pair_57 : decode cX6_pair 57 = .ok (.lconst 0, 1) := by decide +kernel
theorem dX6_pair_58 : decode cX6_pair 58 = .ok (.lastore, 1) := by decide +kernel
theorem dX6_pair_59 : decode cX6_pair 59 = .ok (.aload_n 0, 1) := by decide +kernel
theorem dX6_pair_60 : decode cX6_pair 60 = .ok (.getfield 46, 3) := by decide +kernel
theorem dX6_pair_63 : decode cX6_pair 63 = .ok (.iconst 0, 1) := by decide +kernel
theorem dX6_pair_64 : decode cX6_pair 64 = .ok (.lconst 0, 1) := by decide +kernel
theorem dX6_pair_65 : decode cX6_pair 65 = .ok (.lastore, 1) := by decide +kernel
end
section
theorem dX6_pair_66 : decode cX6_pair 66 = .ok (.iconst 1, 1) := by decide +kernel
theorem dX6_pair_67 : decode cX6_pair 67 = .ok (.istore_n 1, 1) := by decide +kernel
theorem dX6_pair_68 : decode cX6_pair 68 = .ok (.iload_n 1, 1) := by decide +kernel
theorem dX6_pair_69 : decode cX6_pair 69 = .ok (.iconst 1, 1) := by decide +kernel
theorem dX6_pair_70 : decode cX6_pair 70 = .ok (.aload_n 0, 1) := by decide +kernel
theorem dX6_pair_71 : decode cX6_pair 71 = .ok (.getfield 142, 3) := by decide +kernel
theorem dX6_pair_74 : decode cX6_pair 74 = .ok (.ishl, 1) := by decide +kernel
theorem dX6_pair_75 : decode cX6_pair 75 = .ok (.if_icmp .ge 14, 3) := by decide +kernel
theorem dX6_pair_78 : decode cX6_pair 78 = .ok (.aload_n 0, 1) := by decide +kernel
theorem dX6_pair_79 : decode cX6_pair 79 = .ok (.iload_n 1, 1) := by decide +kernel
theorem dX6_pair_80 : decode cX6_pair 80 = .ok (.invokevirtual 145, 3) := by decide +kernel
theorem dX6_pair_83 : decode cX6_pair 83 = .ok (.iinc 1 1, 3) := by decide +kernel
theorem dX6_pair_86 : decode cX6_pair 86 = .ok (.goto (-18), 3) := by decide +kernel
theorem dX6_pair_89 : decode cX6_pair 89 = .ok (.aload_n 0, 1) := by decide +kernel
theorem dX6_pair_90 : decode cX6_pair 90 = .ok (.getfield 46, 3) := by decide +kernel
theorem dX6_pair_93 : decode cX6_pair 93 = .ok (.iconst 1, 1) := by decide +kernel
theorem dX6_pair_94 : decode cX6_pair 94 = .ok (.aload_n 0, 1) := by decide +kernel
theorem dX6_pair_95 : decode cX6_pair 95 = .ok (.getfield 142, 3) := by decide +kernel
theorem dX6_pair_98 : decode cX6_pair 98 = .ok (.ishl, 1) := by decide +kernel
theorem dX6_pair_99 : decode cX6_pair 99 = .ok (.iconst 1, 1) := by decide +kernel
theorem dX6_pair_100 : decode cX6_pair 100 = .ok (.isub, 1) := by decide +kernel
theorem dX6_pair_101 : decode cX6_pair 101 = .ok (.laload, 1) := by decide +kernel
theorem dX6_pair_102 : decode cX6_pair 102 = .ok (.lstore_n 1, 1) := by decide +kernel
theorem dX6_pair_103 : decode cX6_pair 103 = .ok (.iconst 0, 1) := by decide +kernel
theorem dX6_pair_104 : decode cX6_pair 104 = .ok (.istore_n 3, 1) := by decide +kernel
theorem dX6_pair_105 : decode cX6_pair 105 = .ok (.iload_n 3, 1) := by decide +kernel
theorem dX6_pair_106 : decode cX6_pair 106 = .ok (.aload_n 0, 1) := by decide +kernel
theorem dX6_pair_107 : decode cX6_pair 107 = .ok (.getfield 85, 3) := by decide +kernel
theorem dX6_pair_110 : decode cX6_pair 110 = .ok (.if_icmp .ge 24, 3) := by decide +kernel
theorem dX6_pair_113 : decode cX6_pair 113 = .ok (.aload_n 0, 1) := by decide +kernel
theorem dX6_pair_114 : decode cX6_pair 114 = .ok (.getfield 29, 3) := by decide +kernel
theorem dX6_pair_117 : decode cX6_pair 117 = .ok (.iload_n 3, 1) := by decide +kernel
theorem dX6_pair_118 : decode cX6_pair 118 = .ok (.lload_n 1, 1) := by decide +kernel
theorem dX6_pair_119 : decode cX6_pair 119 = .ok (.bipush 39, 2) := by decide +kernel
theorem dX6_pair_121 : decode cX6_pair 121 = .ok (.iload_n 3, 1) := by decide +kernel
theorem dX6_pair_122 : decode cX6_pair 122 = .ok (.isub, 1) := by decide +kernel
theorem dX6_pair_123 : decode cX6_pair 123 = .ok (.lshr, 1) := by decide +kernel
theorem dX6_pair_124 : decode cX6_pair 124 = .ok (.lconst 1, 1) := by decide +kernel
theorem dX6_pair_125 : decode cX6_pair 125 = .ok (.land, 1) := by decide +kernel
theorem dX6_pair_126 : decode cX6_pair 126 = .ok (.l2i, 1) := by decide +kernel
theorem dX6_pair_127 : decode cX6_pair 127 = .ok (.iastore, 1) := by decide +kernel
theorem dX6_pair_128 : decode cX6_pair 128 = .ok (.iinc 3 1, 3) := by decide +kernel
theorem dX6_pair_131 : decode cX6_pair 131 = .ok (.goto (-26), 3) := by decide +kernel
theorem dX6_pair_134 : decode cX6_pair 134 = .ok (.return_, 1) := by decide +kernel
theorem dX6_pairSet_0 : decode cX6_pairSet 0 = .ok (.aload_n 0, 1) := by decide +kernel
theorem dX6_pairSet_1 : decode cX6_pairSet 1 = .ok (.getfield 43, 3) := by decide +kernel
theorem dX6_pairSet_4 : decode cX6_pairSet 4 = .ok (.iload_n 1, 1) := by decide +kernel
theorem dX6_pairSet_5 : decode cX6_pairSet 5 = .ok (.ldc2_w 103, 3) := by decide +kernel
theorem dX6_pairSet_8 : decode cX6_pairSet 8 = .ok (.lastore, 1) := by decide +kernel
theorem dX6_pairSet_9 : decode cX6_pairSet 9 = .ok (.aload_n 0, 1) := by decide +kernel
theorem dX6_pairSet_10 : decode cX6_pairSet 10 = .ok (.getfield 46, 3) := by decide +kernel
theorem dX6_pairSet_13 : decode cX6_pairSet 13 = .ok (.iload_n 1, 1) := by decide +kernel
theorem dX6_pairSet_14 : decode cX6_pairSet 14 = .ok (.lconst 0, 1) := by decide +kernel
theorem dX6_pairSet_15 : decode cX6_pairSet 15 = .ok (.lastore, 1) := by decide +kernel
theorem dX6_pairSet_16 : decode cX6_pairSet 16 = .ok (.iconst 0, 1) := by decide +kernel
theorem dX6_pairSet_17 : decode cX6_pairSet 17 = .ok (.istore_n 2, 1) := by decide +kernel
theorem dX6_pairSet_18 : decode cX6_pairSet 18 = .ok (.iload_n 1, 1) := by decide +kernel
theorem dX6_pairSet_19 : decode cX6_pairSet 19 = .ok (.iload_n 2, 1) := by decide +kernel
theorem dX6_pairSet_20 : decode cX6_pairSet 20 = .ok (.ishr, 1) := by decide +kernel
theorem dX6_pairSet_21 : decode cX6_pairSet 21 = .ok (.iconst 1, 1) := by decide +kernel
theorem dX6_pairSet_22 : decode cX6_pairSet 22 = .ok (.iand, 1) := by decide +kernel
theorem dX6_pairSet_23 : decode cX6_pairSet 23 = .ok (.ifCond .ne 9, 3) := by decide +kernel
theorem dX6_pairSet_26 : decode cX6_pairSet 26 = .ok (.iinc 2 1, 3) := by decide +kernel
theorem dX6_pairSet_29 : decode cX6_pairSet 29 = .ok (.goto (-11), 3) := by decide +kernel
theorem dX6_pairSet_32 : decode cX6_pairSet 32 = .ok (.iload_n 2, 1) := by decide +kernel
theorem dX6_pairSet_33 : decode cX6_pairSet 33 = .ok (.iconst 1, 1) := by decide +kernel
theorem dX6_pairSet_34 : decode cX6_pairSet 34 = .ok (.iadd, 1) := by decide +kernel
theorem dX6_pairSet_35 : decode cX6_pairSet 35 = .ok (.istore_n 3, 1) := by decide +kernel
theorem dX6_pairSet_36 : decode cX6_pairSet 36 = .ok (.iload_n 3, 1) := by decide +kernel
theorem dX6_pairSet_37 : decode cX6_pairSet 37 = .ok (.aload_n 0, 1) := by decide +kernel
theorem dX6_pairSet_38 : decode cX6_pairSet 38 = .ok (.getfield 142, 3) := by decide +kernel
theorem dX6_pairSet_41 : decode cX6_pairSet 41 = .ok (.if_icmp .ge 169, 3) := by decide +kernel
theorem dX6_pairSet_44 : decode cX6_pairSet 44 = .ok (.iload_n 1, 1) := by decide +kernel
theorem dX6_pairSet_45 : decode cX6_pairSet 45 = .ok (.iload_n 3, 1) := by decide +kernel
theorem dX6_pairSet_46 : decode cX6_pairSet 46 = .ok (.ishr, 1) := by decide +kernel
theorem dX6_pairSet_47 : decode cX6_pairSet 47 = .ok (.iconst 1, 1) := by decide +kernel
theorem dX6_pairSet_48 : decode cX6_pairSet 48 = .ok (.iand, 1) := by decide +kernel
theorem dX6_pairSet_49 : decode cX6_pairSet 49 = .ok (.ifCond .ne 6, 3) := by decide +kernel
theorem dX6_pairSet_52 : decode cX6_pairSet 52 = .ok (.goto 152, 3) := by decide +kernel
theorem dX6_pairSet_55 : decode cX6_pairSet 55 = .ok (.iload_n 1, 1) := by decide +kernel
theorem dX6_pairSet_56 : decode cX6_pairSet 56 = .ok (.iconst 1, 1) := by decide +kernel
theorem dX6_pairSet_57 : decode cX6_pairSet 57 = .ok (.iload_n 2, 1) := by decide +kernel
theorem dX6_pairSet_58 : decode cX6_pairSet 58 = .ok (.ishl, 1) := by decide +kernel
theorem dX6_pairSet_59 : decode cX6_pairSet 59 = .ok (.isub, 1) := by decide +kernel
theorem dX6_pairSet_60 : decode cX6_pairSet 60 = .ok (.iconst 1, 1) := by decide +kernel
theorem dX6_pairSet_61 : decode cX6_pairSet 61 = .ok (.iload_n 3, 1) := by decide +kernel
theorem dX6_pairSet_62 : decode cX6_pairSet 62 = .ok (.ishl, 1) := by decide +kernel
theorem dX6_pairSet_63 : decode cX6_pairSet 63 = .ok (.isub, 1) := by decide +kernel
theorem dX6_pairSet_64 : decode cX6_pairSet 64 = .ok (.istore 4, 2) := by decide +kernel
theorem dX6_pairSet_66 : decode cX6_pairSet 66 = .ok (.bipush 16, 2) := by decide +kernel
theorem dX6_pairSet_68 : decode cX6_pairSet 68 = .ok (.aload_n 0, 1) := by decide +kernel
theorem dX6_pairSet_69 : decode cX6_pairSet 69 = .ok (.getfield 39, 3) := by decide +kernel
theorem dX6_pairSet_72 : decode cX6_pairSet 72 = .ok (.iload_n 2, 1) := by decide +kernel
theorem dX6_pairSet_73 : decode cX6_pairSet 73 = .ok (.iaload, 1) := by decide +kernel
theorem dX6_pairSet_74 : decode cX6_pairSet 74 = .ok (.imul, 1) := by decide +kernel
theorem dX6_pairSet_75 : decode cX6_pairSet 75 = .ok (.aload_n 0, 1) := by decide +kernel
theorem dX6_pairSet_76 : decode cX6_pairSet 76 = .ok (.getfield 39, 3) := by decide +kernel
theorem dX6_pairSet_79 : decode cX6_pairSet 79 = .ok (.iload_n 3, 1) := by decide +kernel
theorem dX6_pairSet_80 : decode cX6_pairSet 80 = .ok (.iaload, 1) := by decide +kernel
theorem dX6_pairSet_81 : decode cX6_pairSet 81 = .ok (.iadd, 1) := by decide +kernel
theorem dX6_pairSet_82 : decode cX6_pairSet 82 = .ok (.istore 5, 2) := by decide +kernel
theorem dX6_pairSet_84 : decode cX6_pairSet 84 = .ok (.aload_n 0, 1) := by decide +kernel
theorem dX6_pairSet_85 : decode cX6_pairSet 85 = .ok (.getfield 43, 3) := by decide +kernel
theorem dX6_pairSet_88 : decode cX6_pairSet 88 = .ok (.iload 4, 2) := by decide +kernel
theorem dX6_pairSet_90 : decode cX6_pairSet 90 = .ok (.laload, 1) := by decide +kernel
theorem dX6_pairSet_91 : decode cX6_pairSet 91 = .ok (.ldc2_w 103, 3) := by decide +kernel
theorem dX6_pairSet_94 : decode cX6_pairSet 94 = .ok (.lcmp, 1) := by decide +kernel
theorem dX6_pairSet_95 : decode cX6_pairSet 95 = .ok (.ifCond .ge 109, 3) := by decide +kernel
theorem dX6_pairSet_98 : decode cX6_pairSet 98 = .ok (.aload_n 0, 1) := by decide +kernel
theorem dX6_pairSet_99 : decode cX6_pairSet 99 = .ok (.getfield 32, 3) := by decide +kernel
theorem dX6_pairSet_102 : decode cX6_pairSet 102 = .ok (.iload 5, 2) := by decide +kernel
theorem dX6_pairSet_104 : decode cX6_pairSet 104 = .ok (.laload, 1) := by decide +kernel
theorem dX6_pairSet_105 : decode cX6_pairSet 105 = .ok (.ldc2_w 103, 3) := by decide +kernel
theorem dX6_pairSet_108 : decode cX6_pairSet 108 = .ok (.lcmp, 1) := by decide +kernel
theorem dX6_pairSet_109 : decode cX6_pairSet 109 = .ok (.ifCond .lt 6, 3) := by decide +kernel
theorem dX6_pairSet_112 : decode cX6_pairSet 112 = .ok (.goto 92, 3) := by decide +kernel
theorem dX6_pairSet_115 : decode cX6_pairSet 115 = .ok (.aload_n 0, 1) := by decide +kernel
theorem dX6_pairSet_116 : decode cX6_pairSet 116 = .ok (.getfield 43, 3) := by decide +kernel
theorem dX6_pairSet_119 : decode cX6_pairSet 119 = .ok (.iload 4, 2) := by decide +kernel
theorem dX6_pairSet_121 : decode cX6_pairSet 121 = .ok (.laload, 1) := by decide +kernel
theorem dX6_pairSet_122 : decode cX6_pairSet 122 = .ok (.aload_n 0, 1) := by decide +kernel
theorem dX6_pairSet_123 : decode cX6_pairSet 123 = .ok (.getfield 32, 3) := by decide +kernel
theorem dX6_pairSet_126 : decode cX6_pairSet 126 = .ok (.iload 5, 2) := by decide +kernel
theorem dX6_pairSet_128 : decode cX6_pairSet 128 = .ok (.laload, 1) := by decide +kernel
theorem dX6_pairSet_129 : decode cX6_pairSet 129 = .ok (.ladd, 1) := by decide +kernel
theorem dX6_pairSet_130 : decode cX6_pairSet 130 = .ok (.lstore 6, 2) := by decide +kernel
theorem dX6_pairSet_132 : decode cX6_pairSet 132 = .ok (.aload_n 0, 1) := by decide +kernel
theorem dX6_pairSet_133 : decode cX6_pairSet 133 = .ok (.getfield 46, 3) := by decide +kernel
theorem dX6_pairSet_136 : decode cX6_pairSet 136 = .ok (.iload 4, 2) := by decide +kernel
theorem dX6_pairSet_138 : decode cX6_pairSet 138 = .ok (.laload, 1) := by decide +kernel
theorem dX6_pairSet_139 : decode cX6_pairSet 139 = .ok (.aload_n 0, 1) := by decide +kernel
theorem dX6_pairSet_140 : decode cX6_pairSet 140 = .ok (.getfield 36, 3) := by decide +kernel
theorem dX6_pairSet_143 : decode cX6_pairSet 143 = .ok (.iload 5, 2) := by decide +kernel
theorem dX6_pairSet_145 : decode cX6_pairSet 145 = .ok (.laload, 1) := by decide +kernel
theorem dX6_pairSet_146 : decode cX6_pairSet 146 = .ok (.ladd, 1) := by decide +kernel
theorem dX6_pairSet_147 : decode cX6_pairSet 147 = .ok (.lstore 8, 2) := by decide +kernel
theorem dX6_pairSet_149 : decode cX6_pairSet 149 = .ok (.lload 6, 2) := by decide +kernel
theorem dX6_pairSet_151 : decode cX6_pairSet 151 = .ok (.aload_n 0, 1) := by decide +kernel
theorem dX6_pairSet_152 : decode cX6_pairSet 152 = .ok (.getfield 43, 3) := by decide +kernel
theorem dX6_pairSet_155 : decode cX6_pairSet 155 = .ok (.iload_n 1, 1) := by decide +kernel
theorem dX6_pairSet_156 : decode cX6_pairSet 156 = .ok (.laload, 1) := by decide +kernel
theorem dX6_pairSet_157 : decode cX6_pairSet 157 = .ok (.lcmp, 1) := by decide +kernel
theorem dX6_pairSet_158 : decode cX6_pairSet 158 = .ok (.ifCond .gt 46, 3) := by decide +kernel
theorem dX6_pairSet_161 : decode cX6_pairSet 161 = .ok (.lload 6, 2) := by decide +kernel
theorem dX6_pairSet_163 : decode cX6_pairSet 163 = .ok (.aload_n 0, 1) := by decide +kernel
theorem dX6_pairSet_164 : decode cX6_pairSet 164 = .ok (.getfield 43, 3) := by decide +kernel
theorem dX6_pairSet_167 : decode cX6_pairSet 167 = .ok (.iload_n 1, 1) := by decide +kernel
theorem dX6_pairSet_168 : decode cX6_pairSet 168 = .ok (.laload, 1) := by decide +kernel
theorem dX6_pairSet_169 : decode cX6_pairSet 169 = .ok (.lcmp, 1) := by decide +kernel
theorem dX6_pairSet_170 : decode cX6_pairSet 170 = .ok (.ifCond .ne 18, 3) := by decide +kernel
theorem dX6_pairSet_173 : decode cX6_pairSet 173 = .ok (.lload 8, 2) := by decide +kernel
theorem dX6_pairSet_175 : decode cX6_pairSet 175 = .ok (.aload_n 0, 1) := by decide +kernel
theorem dX6_pairSet_176 : decode cX6_pairSet 176 = .ok (.getfield 46, 3) := by decide +kernel
theorem dX6_pairSet_179 : decode cX6_pairSet 179 = .ok (.iload_n 1, 1) := by decide +kernel
theorem dX6_pairSet_180 : decode cX6_pairSet 180 = .ok (.laload, 1) := by decide +kernel
theorem dX6_pairSet_181 : decode cX6_pairSet 181 = .ok (.lcmp, 1) := by decide +kernel
theorem dX6_pairSet_182 : decode cX6_pairSet 182 = .ok (.ifCond .lt 6, 3) := by decide +kernel
theorem dX6_pairSet_185 : decode cX6_pairSet 185 = .ok (.goto 19, 3) := by decide +kernel
theorem dX6_pairSet_188 : decode cX6_pairSet 188 = .ok (.aload_n 0, 1) := by decide +kernel
theorem dX6_pairSet_189 : decode cX6_pairSet 189 = .ok (.getfield 43, 3) := by decide +kernel
theorem dX6_pairSet_192 : decode cX6_pairSet 192 = .ok (.iload_n 1, 1) := by decide +kernel
theorem dX6_pairSet_193 : decode cX6_pairSet 193 = .ok (.lload 6, 2) := by decide +kernel
theorem dX6_pairSet_195 : decode cX6_pairSet 195 = .ok (.lastore, 1) := by decide +kernel
theorem dX6_pairSet_196 : decode cX6_pairSet 196 = .ok (.aload_n 0, 1) := by decide +kernel
theorem dX6_pairSet_197 : decode cX6_pairSet 197 = .ok (.getfield 46, 3) := by decide +kernel
theorem dX6_pairSet_200 : decode cX6_pairSet 200 = .ok (.iload_n 1, 1) := by decide +kernel
theorem dX6_pairSet_201 : decode cX6_pairSet 201 = .ok (.lload 8, 2) := by decide +kernel
theorem dX6_pairSet_203 : decode cX6_pairSet 203 = .ok (.lastore, 1) := by decide +kernel
theorem dX6_pairSet_204 : decode cX6_pairSet 204 = .ok (.iinc 3 1, 3) := by decide +kernel
theorem dX6_pairSet_207 : decode cX6_pairSet 207 = .ok (.goto (-171), 3) := by decide +kernel
theorem dX6_pairSet_210 : decode cX6_pairSet 210 = .ok (.return_, 1) := by decide +kernel
theorem dX6_addEdge_0 : decode cX6_addEdge 0 = .ok (.iconst 0, 1) := by decide +kernel
theorem dX6_addEdge_1 : decode cX6_addEdge 1 = .ok (.istore 4, 2) := by decide +kernel
theorem dX6_addEdge_3 : decode cX6_addEdge 3 = .ok (.iload 4, 2) := by decide +kernel
theorem dX6_addEdge_5 : decode cX6_addEdge 5 = .ok (.bipush 41, 2) := by decide +kernel
theorem dX6_addEdge_7 : decode cX6_addEdge 7 = .ok (.if_icmp .ge 28, 3) := by decide +kernel
theorem dX6_addEdge_10 : decode cX6_addEdge 10 = .ok (.aload_n 0, 1) := by decide +kernel
theorem dX6_addEdge_11 : decode cX6_addEdge 11 = .ok (.getfield 62, 3) := by decide +kernel
theorem dX6_addEdge_14 : decode cX6_addEdge 14 = .ok (.iload 4, 2) := by decide +kernel
theorem dX6_addEdge_16 : decode cX6_addEdge 16 = .ok (.aload_n 0, 1) := by decide +kernel
theorem dX6_addEdge_17 : decode cX6_addEdge 17 = .ok (.getfield 52, 3) := by decide +kernel
theorem dX6_addEdge_20 : decode cX6_addEdge 20 = .ok (.bipush 41, 2) := by decide +kernel
theorem dX6_addEdge_22 : decode cX6_addEdge 22 = .ok (.iload_n 1, 1) := by decide +kernel
theorem dX6_addEdge_23 : decode cX6_addEdge 23 = .ok (.imul, 1) := by decide +kernel
theorem dX6_addEdge_24 : decode cX6_addEdge 24 = .ok (.iload 4, 2) := by decide +kernel
theorem dX6_addEdge_26 : decode cX6_addEdge 26 = .ok (.iadd, 1) := by decide +kernel
theorem dX6_addEdge_27 : decode cX6_addEdge 27 = .ok (.laload, 1) := by decide +kernel
theorem dX6_addEdge_28 : decode cX6_addEdge 28 = .ok (.lastore, 1) := by decide +kernel
theorem dX6_addEdge_29 : decode cX6_addEdge 29 = .ok (.iinc 4 1, 3) := by decide +kernel
theorem dX6_addEdge_32 : decode cX6_addEdge 32 = .ok (.goto (-29), 3) := by decide +kernel
theorem dX6_addEdge_35 : decode cX6_addEdge 35 = .ok (.aload_n 0, 1) := by decide +kernel
theorem dX6_addEdge_36 : decode cX6_addEdge 36 = .ok (.getfield 62, 3) := by decide +kernel
theorem dX6_addEdge_39 : decode cX6_addEdge 39 = .ok (.iconst 0, 1) := by decide +kernel
theorem dX6_addEdge_40 : decode cX6_addEdge 40 = .ok (.dup2, 1) := by decide +kernel
theorem dX6_addEdge_41 : decode cX6_addEdge 41 = .ok (.laload, 1) := by decide +kernel
theorem dX6_addEdge_42 : decode cX6_addEdge 42 = .ok (.iload_n 3, 1) := by decide +kernel
theorem dX6_addEdge_43 : decode cX6_addEdge 43 = .ok (.i2l, 1) := by decide +kernel
theorem dX6_addEdge_44 : decode cX6_addEdge 44 = .ok (.aload_n 0, 1) := by decide +kernel
theorem dX6_addEdge_45 : decode cX6_addEdge 45 = .ok (.getfield 20, 3) := by decide +kernel
theorem dX6_addEdge_48 : decode cX6_addEdge 48 = .ok (.iload_n 2, 1) := by decide +kernel
theorem dX6_addEdge_49 : decode cX6_addEdge 49 = .ok (.iaload, 1) := by decide +kernel
theorem dX6_addEdge_50 : decode cX6_addEdge 50 = .ok (.i2l, 1) := by decide +kernel
theorem dX6_addEdge_51 : decode cX6_addEdge 51 = .ok (.lmul, 1) := by decide +kernel
theorem dX6_addEdge_52 : decode cX6_addEdge 52 = .ok (.ladd, 1) := by decide +kernel
theorem dX6_addEdge_53 : decode cX6_addEdge 53 = .ok (.lastore, 1) := by decide +kernel
theorem dX6_addEdge_54 : decode cX6_addEdge 54 = .ok (.aload_n 0, 1) := by decide +kernel
theorem dX6_addEdge_55 : decode cX6_addEdge 55 = .ok (.getfield 62, 3) := by decide +kernel
theorem dX6_addEdge_58 : decode cX6_addEdge 58 = .ok (.iload_n 2, 1) := by decide +kernel
theorem dX6_addEdge_59 : decode cX6_addEdge 59 = .ok (.iconst 1, 1) := by decide +kernel
theorem dX6_addEdge_60 : decode cX6_addEdge 60 = .ok (.iadd, 1) := by decide +kernel
theorem dX6_addEdge_61 : decode cX6_addEdge 61 = .ok (.dup2, 1) := by decide +kernel
theorem dX6_addEdge_62 : decode cX6_addEdge 62 = .ok (.laload, 1) := by decide +kernel
theorem dX6_addEdge_63 : decode cX6_addEdge 63 = .ok (.iload_n 3, 1) := by decide +kernel
theorem dX6_addEdge_64 : decode cX6_addEdge 64 = .ok (.i2l, 1) := by decide +kernel
theorem dX6_addEdge_65 : decode cX6_addEdge 65 = .ok (.ladd, 1) := by decide +kernel
theorem dX6_addEdge_66 : decode cX6_addEdge 66 = .ok (.lastore, 1) := by decide +kernel
theorem dX6_addEdge_67 : decode cX6_addEdge 67 = .ok (.return_, 1) := by decide +kernel
theorem dX6_isSumLess_0 : decode cX6_isSumLess 0 = .ok (.aload_n 0, 1) := by decide +kernel
theorem dX6_isSumLess_1 : decode cX6_isSumLess 1 = .ok (.getfield 55, 3) := by decide +kernel
theorem dX6_isSumLess_4 : decode cX6_isSumLess 4 = .ok (.iload_n 1, 1) := by decide +kernel
theorem dX6_isSumLess_5 : decode cX6_isSumLess 5 = .ok (.baload, 1) := by decide +kernel
theorem dX6_isSumLess_6 : decode cX6_isSumLess 6 = .ok (.ifCond .ne 5, 3) := by decide +kernel
theorem dX6_isSumLess_9 : decode cX6_isSumLess 9 = .ok (.iconst 1, 1) := by decide +kernel
theorem dX6_isSumLess_10 : decode cX6_isSumLess 10 = .ok (.ireturn, 1) := by decide +kernel
theorem dX6_isSumLess_11 : decode cX6_isSumLess 11 = .ok (.iconst 0, 1) := by decide +kernel
theorem dX6_isSumLess_12 : decode cX6_isSumLess 12 = .ok (.istore_n 2, 1) := by decide +kernel
theorem dX6_isSumLess_13 : decode cX6_isSumLess 13 = .ok (.iload_n 2, 1) := by decide +kernel
theorem dX6_isSumLess_14 : decode cX6_isSumLess 14 = .ok (.bipush 41, 2) := by decide +kernel
theorem dX6_isSumLess_16 : decode cX6_isSumLess 16 = .ok (.if_icmp .ge 57, 3) := by decide +kernel
theorem dX6_isSumLess_19 : decode cX6_isSumLess 19 = .ok (.aload_n 0, 1) := by decide +kernel
theorem dX6_isSumLess_20 : decode cX6_isSumLess 20 = .ok (.getfield 62, 3) := by decide +kernel
theorem dX6_isSumLess_23 : decode cX6_isSumLess 23 = .ok (.iload_n 2, 1) := by decide +kernel
theorem dX6_isSumLess_24 : decode cX6_isSumLess 24 = .ok (.laload, 1) := by decide +kernel
theorem dX6_isSumLess_25 : decode cX6_isSumLess 25 = .ok (.aload_n 0, 1) := by decide +kernel
theorem dX6_isSumLess_26 : decode cX6_isSumLess 26 = .ok (.getfield 52, 3) := by decide +kernel
theorem dX6_isSumLess_29 : decode cX6_isSumLess 29 = .ok (.bipush 41, 2) := by decide +kernel
theorem dX6_isSumLess_31 : decode cX6_isSumLess 31 = .ok (.iload_n 1, 1) := by decide +kernel
theorem dX6_isSumLess_32 : decode cX6_isSumLess 32 = .ok (.imul, 1) := by decide +kernel
theorem dX6_isSumLess_33 : decode cX6_isSumLess 33 = .ok (.iload_n 2, 1) := by decide +kernel
theorem dX6_isSumLess_34 : decode cX6_isSumLess 34 = .ok (.iadd, 1) := by decide +kernel
theorem dX6_isSumLess_35 : decode cX6_isSumLess 35 = .ok (.laload, 1) := by decide +kernel
theorem dX6_isSumLess_36 : decode cX6_isSumLess 36 = .ok (.lcmp, 1) := by decide +kernel
theorem dX6_isSumLess_37 : decode cX6_isSumLess 37 = .ok (.ifCond .eq 30, 3) := by decide +kernel
theorem dX6_isSumLess_40 : decode cX6_isSumLess 40 = .ok (.aload_n 0, 1) := by decide +kernel
theorem dX6_isSumLess_41 : decode cX6_isSumLess 41 = .ok (.getfield 62, 3) := by decide +kernel
theorem dX6_isSumLess_44 : decode cX6_isSumLess 44 = .ok (.iload_n 2, 1) := by decide +kernel
theorem dX6_isSumLess_45 : decode cX6_isSumLess 45 = .ok (.laload, 1) := by decide +kernel
theorem dX6_isSumLess_46 : decode cX6_isSumLess 46 = .ok (.aload_n 0, 1) := by decide +kernel
theorem dX6_isSumLess_47 : decode cX6_isSumLess 47 = .ok (.getfield 52, 3) := by decide +kernel
theorem dX6_isSumLess_50 : decode cX6_isSumLess 50 = .ok (.bipush 41, 2) := by decide +kernel
theorem dX6_isSumLess_52 : decode cX6_isSumLess 52 = .ok (.iload_n 1, 1) := by decide +kernel
theorem dX6_isSumLess_53 : decode cX6_isSumLess 53 = .ok (.imul, 1) := by decide +kernel
theorem dX6_isSumLess_54 : decode cX6_isSumLess 54 = .ok (.iload_n 2, 1) := by decide +kernel
theorem dX6_isSumLess_55 : decode cX6_isSumLess 55 = .ok (.iadd, 1) := by decide +kernel
theorem dX6_isSumLess_56 : decode cX6_isSumLess 56 = .ok (.laload, 1) := by decide +kernel
theorem dX6_isSumLess_57 : decode cX6_isSumLess 57 = .ok (.lcmp, 1) := by decide +kernel
theorem dX6_isSumLess_58 : decode cX6_isSumLess 58 = .ok (.ifCond .ge 7, 3) := by decide +kernel
theorem dX6_isSumLess_61 : decode cX6_isSumLess 61 = .ok (.iconst 1, 1) := by decide +kernel
theorem dX6_isSumLess_62 : decode cX6_isSumLess 62 = .ok (.goto 4, 3) := by decide +kernel
theorem dX6_isSumLess_65 : decode cX6_isSumLess 65 = .ok (.iconst 0, 1) := by decide +kernel
theorem dX6_isSumLess_66 : decode cX6_isSumLess 66 = .ok (.ireturn, 1) := by decide +kernel
theorem dX6_isSumLess_67 : decode cX6_isSumLess 67 = .ok (.iinc 2 1, 3) := by decide +kernel
theorem dX6_isSumLess_70 : decode cX6_isSumLess 70 = .ok (.goto (-57), 3) := by decide +kernel
theorem dX6_isSumLess_73 : decode cX6_isSumLess 73 = .ok (.iconst 0, 1) := by decide +kernel
theorem dX6_isSumLess_74 : decode cX6_isSumLess 74 = .ok (.ireturn, 1) := by decide +kernel
theorem dX6_reach_0 : decode cX6_reach 0 = .ok (.aload_n 0, 1) := by decide +kernel
theorem dX6_reach_1 : decode cX6_reach 1 = .ok (.getfield 55, 3) := by decide +kernel
theorem dX6_reach_4 : decode cX6_reach 4 = .ok (.iload_n 1, 1) := by decide +kernel
theorem dX6_reach_5 : decode cX6_reach 5 = .ok (.baload, 1) := by decide +kernel
theorem dX6_reach_6 : decode cX6_reach 6 = .ok (.ifCond .ne 5, 3) := by decide +kernel
theorem dX6_reach_9 : decode cX6_reach 9 = .ok (.iconst 0, 1) := by decide +kernel
theorem dX6_reach_10 : decode cX6_reach 10 = .ok (.ireturn, 1) := by decide +kernel
theorem dX6_reach_11 : decode cX6_reach 11 = .ok (.aload_n 0, 1) := by decide +kernel
theorem dX6_reach_12 : decode cX6_reach 12 = .ok (.iload_n 1, 1) := by decide +kernel
theorem dX6_reach_13 : decode cX6_reach 13 = .ok (.iload_n 3, 1) := by decide +kernel
theorem dX6_reach_14 : decode cX6_reach 14 = .ok (.iload 4, 2) := by decide +kernel
theorem dX6_reach_16 : decode cX6_reach 16 = .ok (.invokevirtual 148, 3) := by decide +kernel
theorem dX6_reach_19 : decode cX6_reach 19 = .ok (.aload_n 0, 1) := by decide +kernel
theorem dX6_reach_20 : decode cX6_reach 20 = .ok (.iload_n 2, 1) := by decide +kernel
theorem dX6_reach_21 : decode cX6_reach 21 = .ok (.invokevirtual 152, 3) := by decide +kernel
theorem dX6_reach_24 : decode cX6_reach 24 = .ok (.ifCond .ne 5, 3) := by decide +kernel
theorem dX6_reach_27 : decode cX6_reach 27 = .ok (.iconst 0, 1) := by decide +kernel
theorem dX6_reach_28 : decode cX6_reach 28 = .ok (.ireturn, 1) := by decide +kernel
theorem dX6_reach_29 : decode cX6_reach 29 = .ok (.aload_n 0, 1) := by decide +kernel
theorem dX6_reach_30 : decode cX6_reach 30 = .ok (.getfield 55, 3) := by decide +kernel
theorem dX6_reach_33 : decode cX6_reach 33 = .ok (.iload_n 2, 1) := by decide +kernel
theorem dX6_reach_34 : decode cX6_reach 34 = .ok (.iconst 1, 1) := by decide +kernel
theorem dX6_reach_35 : decode cX6_reach 35 = .ok (.bastore, 1) := by decide +kernel
theorem dX6_reach_36 : decode cX6_reach 36 = .ok (.aload_n 0, 1) := by decide +kernel
theorem dX6_reach_37 : decode cX6_reach 37 = .ok (.getfield 59, 3) := by decide +kernel
theorem dX6_reach_40 : decode cX6_reach 40 = .ok (.iload_n 2, 1) := by decide +kernel
theorem dX6_reach_41 : decode cX6_reach 41 = .ok (.iload 4, 2) := by decide +kernel
theorem dX6_reach_43 : decode cX6_reach 43 = .ok (.ifCond .le 7, 3) := by decide +kernel
theorem dX6_reach_46 : decode cX6_reach 46 = .ok (.iload_n 3, 1) := by decide +kernel
theorem dX6_reach_47 : decode cX6_reach 47 = .ok (.goto 7, 3) := by decide +kernel
theorem dX6_reach_50 : decode cX6_reach 50 = .ok (.bipush 40, 2) := by decide +kernel
theorem dX6_reach_52 : decode cX6_reach 52 = .ok (.iload_n 3, 1) := by decide +kernel
theorem dX6_reach_53 : decode cX6_reach 53 = .ok (.iadd, 1) := by decide +kernel
theorem dX6_reach_54 : decode cX6_reach 54 = .ok (.iastore, 1) := by decide +kernel
theorem dX6_reach_55 : decode cX6_reach 55 = .ok (.iconst 0, 1) := by decide +kernel
theorem dX6_reach_56 : decode cX6_reach 56 = .ok (.istore 5, 2) := by decide +kernel
theorem dX6_reach_58 : decode cX6_reach 58 = .ok (.iload 5, 2) := by decide +kernel
theorem dX6_reach_60 : decode cX6_reach 60 = .ok (.bipush 41, 2) := by decide +kernel
theorem dX6_reach_62 : decode cX6_reach 62 = .ok (.if_icmp .ge 28, 3) := by decide +kernel
theorem dX6_reach_65 : decode cX6_reach 65 = .ok (.aload_n 0, 1) := by decide +kernel
theorem dX6_reach_66 : decode cX6_reach 66 = .ok (.getfield 52, 3) := by decide +kernel
theorem dX6_reach_69 : decode cX6_reach 69 = .ok (.bipush 41, 2) := by decide +kernel
theorem dX6_reach_71 : decode cX6_reach 71 = .ok (.iload_n 2, 1) := by decide +kernel
theorem dX6_reach_72 : decode cX6_reach 72 = .ok (.imul, 1) := by decide +kernel
theorem dX6_reach_73 : decode cX6_reach 73 = .ok (.iload 5, 2) := by decide +kernel
theorem dX6_reach_75 : decode cX6_reach 75 = .ok (.iadd, 1) := by decide +kernel
theorem dX6_reach_76 : decode cX6_reach 76 = .ok (.aload_n 0, 1) := by decide +kernel
theorem dX6_reach_77 : decode cX6_reach 77 = .ok (.getfield 62, 3) := by decide +kernel
theorem dX6_reach_80 : decode cX6_reach 80 = .ok (.iload 5, 2) := by decide +kernel
theorem dX6_reach_82 : decode cX6_reach 82 = .ok (.laload, 1) := by decide +kernel
theorem dX6_reach_83 : decode cX6_reach 83 = .ok (.lastore, 1) := by decide +kernel
theorem dX6_reach_84 : decode cX6_reach 84 = .ok (.iinc 5 1, 3) := by decide +kernel
theorem dX6_reach_87 : decode cX6_reach 87 = .ok (.goto (-29), 3) := by decide +kernel
theorem dX6_reach_90 : decode cX6_reach 90 = .ok (.iconst 1, 1) := by decide +kernel
theorem dX6_reach_91 : decode cX6_reach 91 = .ok (.ireturn, 1) := by decide +kernel
theorem dX6_spread_0 : decode cX6_spread 0 = .ok (.iconst 0, 1) := by decide +kernel
theorem dX6_spread_1 : decode cX6_spread 1 = .ok (.istore_n 1, 1) := by decide +kernel
theorem dX6_spread_2 : decode cX6_spread 2 = .ok (.iload_n 1, 1) := by decide +kernel
theorem dX6_spread_3 : decode cX6_spread 3 = .ok (.aload_n 0, 1) := by decide +kernel
theorem dX6_spread_4 : decode cX6_spread 4 = .ok (.getfield 7, 3) := by decide +kernel
theorem dX6_spread_7 : decode cX6_spread 7 = .ok (.if_icmp .ge 62, 3) := by decide +kernel
theorem dX6_spread_10 : decode cX6_spread 10 = .ok (.aload_n 0, 1) := by decide +kernel
theorem dX6_spread_11 : decode cX6_spread 11 = .ok (.getfield 55, 3) := by decide +kernel
theorem dX6_spread_14 : decode cX6_spread 14 = .ok (.iload_n 1, 1) := by decide +kernel
theorem dX6_spread_15 : decode cX6_spread 15 = .ok (.aload_n 0, 1) := by decide +kernel
theorem dX6_spread_16 : decode cX6_spread 16 = .ok (.getfield 49, 3) := by decide +kernel
theorem dX6_spread_19 : decode cX6_spread 19 = .ok (.iload_n 1, 1) := by decide +kernel
theorem dX6_spread_20 : decode cX6_spread 20 = .ok (.iaload, 1) := by decide +kernel
theorem dX6_spread_21 : decode cX6_spread 21 = .ok (.ifCond .le 7, 3) := by decide +kernel
theorem dX6_spread_24 : decode cX6_spread 24 = .ok (.iconst 1, 1) := by decide +kernel
theorem dX6_spread_25 : decode cX6_spread 25 = .ok (.goto 4, 3) := by decide +kernel
theorem dX6_spread_28 : decode cX6_spread 28 = .ok (.iconst 0, 1) := by decide +kernel
theorem dX6_spread_29 : decode cX6_spread 29 = .ok (.bastore, 1) := by decide +kernel
theorem dX6_spread_30 : decode cX6_spread 30 = .ok (.aload_n 0, 1) := by decide +kernel
theorem dX6_spread_31 : decode cX6_spread 31 = .ok (.getfield 59, 3) := by decide +kernel
theorem dX6_spread_34 : decode cX6_spread 34 = .ok (.iload_n 1, 1) := by decide +kernel
theorem dX6_spread_35 : decode cX6_spread 35 = .ok (.iconst (-1), 1) := by decide +kernel
theorem dX6_spread_36 : decode cX6_spread 36 = .ok (.iastore, 1) := by decide +kernel
theorem dX6_spread_37 : decode cX6_spread 37 = .ok (.iconst 0, 1) := by decide +kernel
theorem dX6_spread_38 : decode cX6_spread 38 = .ok (.istore_n 2, 1) := by decide +kernel
theorem dX6_spread_39 : decode cX6_spread 39 = .ok (.iload_n 2, 1) := by decide +kernel
theorem dX6_spread_40 : decode cX6_spread 40 = .ok (.bipush 41, 2) := by decide +kernel
theorem dX6_spread_42 : decode cX6_spread 42 = .ok (.if_icmp .ge 21, 3) := by decide +kernel
theorem dX6_spread_45 : decode cX6_spread 45 = .ok (.aload_n 0, 1) := by decide +kernel
theorem dX6_spread_46 : decode cX6_spread 46 = .ok (.getfield 52, 3) := by decide +kernel
theorem dX6_spread_49 : decode cX6_spread 49 = .ok (.bipush 41, 2) := by decide +kernel
theorem dX6_spread_51 : decode cX6_spread 51 = .ok (.iload_n 1, 1) := by decide +kernel
theorem dX6_spread_52 : decode cX6_spread 52 = .ok (.imul, 1) := by decide +kernel
theorem dX6_spread_53 : decode cX6_spread 53 = .ok (.iload_n 2, 1) := by decide +kernel
theorem dX6_spread_54 : decode cX6_spread 54 = .ok (.iadd, 1) := by decide +kernel
theorem dX6_spread_55 : decode cX6_spread 55 = .ok (.lconst 0, 1) := by decide +kernel
theorem dX6_spread_56 : decode cX6_spread 56 = .ok (.lastore, 1) := by decide +kernel
theorem dX6_spread_57 : decode cX6_spread 57 = .ok (.iinc 2 1, 3) := by decide +kernel
theorem dX6_spread_60 : decode cX6_spread 60 = .ok (.goto (-21), 3) := by decide +kernel
theorem dX6_spread_63 : decode cX6_spread 63 = .ok (.iinc 1 1, 3) := by decide +kernel
theorem dX6_spread_66 : decode cX6_spread 66 = .ok (.goto (-64), 3) := by decide +kernel
theorem dX6_spread_69 : decode cX6_spread 69 = .ok (.iconst 1, 1) := by decide +kernel
theorem dX6_spread_70 : decode cX6_spread 70 = .ok (.istore_n 1, 1) := by decide +kernel
theorem dX6_spread_71 : decode cX6_spread 71 = .ok (.iload_n 1, 1) := by decide +kernel
theorem dX6_spread_72 : decode cX6_spread 72 = .ok (.ifCond .eq 95, 3) := by decide +kernel
theorem dX6_spread_75 : decode cX6_spread 75 = .ok (.iconst 0, 1) := by decide +kernel
theorem dX6_spread_76 : decode cX6_spread 76 = .ok (.istore_n 1, 1) := by decide +kernel
theorem dX6_spread_77 : decode cX6_spread 77 = .ok (.iconst 0, 1) := by decide +kernel
theorem dX6_spread_78 : decode cX6_spread 78 = .ok (.istore_n 2, 1) := by decide +kernel
theorem dX6_spread_79 : decode cX6_spread 79 = .ok (.iload_n 2, 1) := by decide +kernel
theorem dX6_spread_80 : decode cX6_spread 80 = .ok (.aload_n 0, 1) := by decide +kernel
theorem dX6_spread_81 : decode cX6_spread 81 = .ok (.getfield 85, 3) := by decide +kernel
theorem dX6_spread_84 : decode cX6_spread 84 = .ok (.if_icmp .ge 80, 3) := by decide +kernel
theorem dX6_spread_87 : decode cX6_spread 87 = .ok (.aload_n 0, 1) := by decide +kernel
theorem dX6_spread_88 : decode cX6_spread 88 = .ok (.aload_n 0, 1) := by decide +kernel
theorem dX6_spread_89 : decode cX6_spread 89 = .ok (.getfield 13, 3) := by decide +kernel
theorem dX6_spread_92 : decode cX6_spread 92 = .ok (.iload_n 2, 1) := by decide +kernel
theorem dX6_spread_93 : decode cX6_spread 93 = .ok (.iaload, 1) := by decide +kernel
theorem dX6_spread_94 : decode cX6_spread 94 = .ok (.aload_n 0, 1) := by decide +kernel
theorem dX6_spread_95 : decode cX6_spread 95 = .ok (.getfield 17, 3) := by decide +kernel
theorem dX6_spread_98 : decode cX6_spread 98 = .ok (.iload_n 2, 1) := by decide +kernel
theorem dX6_spread_99 : decode cX6_spread 99 = .ok (.iaload, 1) := by decide +kernel
theorem dX6_spread_100 : decode cX6_spread 100 = .ok (.iload_n 2, 1) := by decide +kernel
theorem dX6_spread_101 : decode cX6_spread 101 = .ok (.iconst 1, 1) := by decide +kernel
theorem dX6_spread_102 : decode cX6_spread 102 = .ok (.invokevirtual 155, 3) := by decide +kernel
theorem dX6_spread_105 : decode cX6_spread 105 = .ok (.ifCond .ne 7, 3) := by decide +kernel
theorem dX6_spread_108 : decode cX6_spread 108 = .ok (.iload_n 1, 1) := by decide +kernel
theorem dX6_spread_109 : decode cX6_spread 109 = .ok (.ifCond .eq 7, 3) := by decide +kernel
theorem dX6_spread_112 : decode cX6_spread 112 = .ok (.iconst 1, 1) := by decide +kernel
theorem dX6_spread_113 : decode cX6_spread 113 = .ok (.goto 4, 3) := by decide +kernel
theorem dX6_spread_116 : decode cX6_spread 116 = .ok (.iconst 0, 1) := by decide +kernel
theorem dX6_spread_117 : decode cX6_spread 117 = .ok (.istore_n 1, 1) := by decide +kernel
theorem dX6_spread_118 : decode cX6_spread 118 = .ok (.aload_n 0, 1) := by decide +kernel
theorem dX6_spread_119 : decode cX6_spread 119 = .ok (.getfield 29, 3) := by decide +kernel
theorem dX6_spread_122 : decode cX6_spread 122 = .ok (.iload_n 2, 1) := by decide +kernel
theorem dX6_spread_123 : decode cX6_spread 123 = .ok (.iaload, 1) := by decide +kernel
theorem dX6_spread_124 : decode cX6_spread 124 = .ok (.ifCond .le 34, 3) := by decide +kernel
theorem dX6_spread_127 : decode cX6_spread 127 = .ok (.aload_n 0, 1) := by decide +kernel
theorem dX6_spread_128 : decode cX6_spread 128 = .ok (.aload_n 0, 1) := by decide +kernel
theorem dX6_spread_129 : decode cX6_spread 129 = .ok (.getfield 17, 3) := by decide +kernel
theorem dX6_spread_132 : decode cX6_spread 132 = .ok (.iload_n 2, 1) := by decide +kernel
theorem dX6_spread_133 : decode cX6_spread 133 = .ok (.iaload, 1) := by decide +kernel
theorem dX6_spread_134 : decode cX6_spread 134 = .ok (.aload_n 0, 1) := by decide +kernel
theorem dX6_spread_135 : decode cX6_spread 135 = .ok (.getfield 13, 3) := by decide +kernel
theorem dX6_spread_138 : decode cX6_spread 138 = .ok (.iload_n 2, 1) := by decide +kernel
theorem dX6_spread_139 : decode cX6_spread 139 = .ok (.iaload, 1) := by decide +kernel
theorem dX6_spread_140 : decode cX6_spread 140 = .ok (.iload_n 2, 1) := by decide +kernel
theorem dX6_spread_141 : decode cX6_spread 141 = .ok (.iconst (-1), 1) := by decide +kernel
theorem dX6_spread_142 : decode cX6_spread 142 = .ok (.invokevirtual 155, 3) := by decide +kernel
theorem dX6_spread_145 : decode cX6_spread 145 = .ok (.ifCond .ne 7, 3) := by decide +kernel
theorem dX6_spread_148 : decode cX6_spread 148 = .ok (.iload_n 1, 1) := by decide +kernel
theorem dX6_spread_149 : decode cX6_spread 149 = .ok (.ifCond .eq 7, 3) := by decide +kernel
theorem dX6_spread_152 : decode cX6_spread 152 = .ok (.iconst 1, 1) := by decide +kernel
theorem dX6_spread_153 : decode cX6_spread 153 = .ok (.goto 4, 3) := by decide +kernel
theorem dX6_spread_156 : decode cX6_spread 156 = .ok (.iconst 0, 1) := by decide +kernel
theorem dX6_spread_157 : decode cX6_spread 157 = .ok (.istore_n 1, 1) := by decide +kernel
theorem dX6_spread_158 : decode cX6_spread 158 = .ok (.iinc 2 1, 3) := by decide +kernel
theorem dX6_spread_161 : decode cX6_spread 161 = .ok (.goto (-82), 3) := by decide +kernel
theorem dX6_spread_164 : decode cX6_spread 164 = .ok (.goto (-93), 3) := by decide +kernel
theorem dX6_spread_167 : decode cX6_spread 167 = .ok (.return_, 1) := by decide +kernel
theorem dX6_nearest_0 : decode cX6_nearest 0 = .ok (.iconst (-1), 1) := by decide +kernel
theorem dX6_nearest_1 : decode cX6_nearest 1 = .ok (.istore_n 1, 1) := by decide +kernel
theorem dX6_nearest_2 : decode cX6_nearest 2 = .ok (.iconst 0, 1) := by decide +kernel
theorem dX6_nearest_3 : decode cX6_nearest 3 = .ok (.istore_n 2, 1) := by decide +kernel
theorem dX6_nearest_4 : decode cX6_nearest 4 = .ok (.iload_n 2, 1) := by decide +kernel
theorem dX6_nearest_5 : decode cX6_nearest 5 = .ok (.aload_n 0, 1) := by decide +kernel
theorem dX6_nearest_6 : decode cX6_nearest 6 = .ok (.getfield 7, 3) := by decide +kernel
theorem dX6_nearest_9 : decode cX6_nearest 9 = .ok (.if_icmp .ge 66, 3) := by decide +kernel
theorem dX6_nearest_12 : decode cX6_nearest 12 = .ok (.aload_n 0, 1) := by decide +kernel
theorem dX6_nearest_13 : decode cX6_nearest 13 = .ok (.getfield 49, 3) := by decide +kernel
theorem dX6_nearest_16 : decode cX6_nearest 16 = .ok (.iload_n 2, 1) := by decide +kernel
theorem dX6_nearest_17 : decode cX6_nearest 17 = .ok (.iaload, 1) := by decide +kernel
theorem dX6_nearest_18 : decode cX6_nearest 18 = .ok (.ifCond .lt 6, 3) := by decide +kernel
theorem dX6_nearest_21 : decode cX6_nearest 21 = .ok (.goto 48, 3) := by decide +kernel
theorem dX6_nearest_24 : decode cX6_nearest 24 = .ok (.iconst 0, 1) := by decide +kernel
theorem dX6_nearest_25 : decode cX6_nearest 25 = .ok (.istore_n 3, 1) := by decide +kernel
theorem dX6_nearest_26 : decode cX6_nearest 26 = .ok (.iload_n 3, 1) := by decide +kernel
theorem dX6_nearest_27 : decode cX6_nearest 27 = .ok (.bipush 41, 2) := by decide +kernel
theorem dX6_nearest_29 : decode cX6_nearest 29 = .ok (.if_icmp .ge 26, 3) := by decide +kernel
theorem dX6_nearest_32 : decode cX6_nearest 32 = .ok (.aload_n 0, 1) := by decide +kernel
theorem dX6_nearest_33 : decode cX6_nearest 33 = .ok (.getfield 62, 3) := by decide +kernel
theorem dX6_nearest_36 : decode cX6_nearest 36 = .ok (.iload_n 3, 1) := by decide +kernel
theorem dX6_nearest_37 : decode cX6_nearest 37 = .ok (.aload_n 0, 1) := by decide +kernel
theorem dX6_nearest_38 : decode cX6_nearest 38 = .ok (.getfield 52, 3) := by decide +kernel
theorem dX6_nearest_41 : decode cX6_nearest 41 = .ok (.bipush 41, 2) := by decide +kernel
theorem dX6_nearest_43 : decode cX6_nearest 43 = .ok (.iload_n 2, 1) := by decide +kernel
theorem dX6_nearest_44 : decode cX6_nearest 44 = .ok (.imul, 1) := by decide +kernel
theorem dX6_nearest_45 : decode cX6_nearest 45 = .ok (.iload_n 3, 1) := by decide +kernel
theorem dX6_nearest_46 : decode cX6_nearest 46 = .ok (.iadd, 1) := by decide +kernel
theorem dX6_nearest_47 : decode cX6_nearest 47 = .ok (.laload, 1) := by decide +kernel
theorem dX6_nearest_48 : decode cX6_nearest 48 = .ok (.lastore, 1) := by decide +kernel
theorem dX6_nearest_49 : decode cX6_nearest 49 = .ok (.iinc 3 1, 3) := by decide +kernel
theorem dX6_nearest_52 : decode cX6_nearest 52 = .ok (.goto (-26), 3) := by decide +kernel
theorem dX6_nearest_55 : decode cX6_nearest 55 = .ok (.iload_n 1, 1) := by decide +kernel
theorem dX6_nearest_56 : decode cX6_nearest 56 = .ok (.ifCond .lt 11, 3) := by decide +kernel
theorem dX6_nearest_59 : decode cX6_nearest 59 = .ok (.aload_n 0, 1) := by decide +kernel
theorem dX6_nearest_60 : decode cX6_nearest 60 = .ok (.iload_n 1, 1) := by decide +kernel
theorem dX6_nearest_61 : decode cX6_nearest 61 = .ok (.invokevirtual 152, 3) := by decide +kernel
theorem dX6_nearest_64 : decode cX6_nearest 64 = .ok (.ifCond .eq 5, 3) := by decide +kernel
theorem dX6_nearest_67 : decode cX6_nearest 67 = .ok (.iload_n 2, 1) := by decide +kernel
theorem dX6_nearest_68 : decode cX6_nearest 68 = .ok (.istore_n 1, 1) := by decide +kernel
theorem dX6_nearest_69 : decode cX6_nearest 69 = .ok (.iinc 2 1, 3) := by decide +kernel
theorem dX6_nearest_72 : decode cX6_nearest 72 = .ok (.goto (-68), 3) := by decide +kernel
theorem dX6_nearest_75 : decode cX6_nearest 75 = .ok (.iload_n 1, 1) := by decide +kernel
theorem dX6_nearest_76 : decode cX6_nearest 76 = .ok (.ireturn, 1) := by decide +kernel
theorem dX6_flow_0 : decode cX6_flow 0 = .ok (.iconst 0, 1) := by decide +kernel
theorem dX6_flow_1 : decode cX6_flow 1 = .ok (.istore_n 1, 1) := by decide +kernel
theorem dX6_flow_2 : decode cX6_flow 2 = .ok (.iload_n 1, 1) := by decide +kernel
theorem dX6_flow_3 : decode cX6_flow 3 = .ok (.aload_n 0, 1) := by decide +kernel
theorem dX6_flow_4 : decode cX6_flow 4 = .ok (.getfield 7, 3) := by decide +kernel
theorem dX6_flow_7 : decode cX6_flow 7 = .ok (.if_icmp .ge 20, 3) := by decide +kernel
theorem dX6_flow_10 : decode cX6_flow 10 = .ok (.aload_n 0, 1) := by decide +kernel
theorem dX6_flow_11 : decode cX6_flow 11 = .ok (.getfield 49, 3) := by decide +kernel
theorem dX6_flow_14 : decode cX6_flow 14 = .ok (.iload_n 1, 1) := by decide +kernel
theorem dX6_flow_15 : decode cX6_flow 15 = .ok (.aload_n 0, 1) := by decide +kernel
theorem dX6_flow_16 : decode cX6_flow 16 = .ok (.iload_n 1, 1) := by decide +kernel
theorem dX6_flow_17 : decode cX6_flow 17 = .ok (.invokevirtual 117, 3) := by decide +kernel
theorem dX6_flow_20 : decode cX6_flow 20 = .ok (.iastore, 1) := by decide +kernel
theorem dX6_flow_21 : decode cX6_flow 21 = .ok (.iinc 1 1, 3) := by decide +kernel
theorem dX6_flow_24 : decode cX6_flow 24 = .ok (.goto (-22), 3) := by decide +kernel
theorem dX6_flow_27 : decode cX6_flow 27 = .ok (.iconst 0, 1) := by decide +kernel
theorem dX6_flow_28 : decode cX6_flow 28 = .ok (.istore_n 1, 1) := by decide +kernel
theorem dX6_flow_29 : decode cX6_flow 29 = .ok (.iload_n 1, 1) := by decide +kernel
theorem dX6_flow_30 : decode cX6_flow 30 = .ok (.aload_n 0, 1) := by decide +kernel
theorem dX6_flow_31 : decode cX6_flow 31 = .ok (.getfield 85, 3) := by decide +kernel
theorem dX6_flow_34 : decode cX6_flow 34 = .ok (.if_icmp .ge 16, 3) := by decide +kernel
theorem dX6_flow_37 : decode cX6_flow 37 = .ok (.aload_n 0, 1) := by decide +kernel
theorem dX6_flow_38 : decode cX6_flow 38 = .ok (.getfield 29, 3) := by decide +kernel
theorem dX6_flow_41 : decode cX6_flow 41 = .ok (.iload_n 1, 1) := by decide +kernel
theorem dX6_flow_42 : decode cX6_flow 42 = .ok (.iconst 0, 1) := by decide +kernel
theorem dX6_flow_43 : decode cX6_flow 43 = .ok (.iastore, 1) := by decide +kernel
theorem dX6_flow_44 : decode cX6_flow 44 = .ok (.iinc 1 1, 3) := by decide +kernel
theorem dX6_flow_47 : decode cX6_flow 47 = .ok (.goto (-18), 3) := by decide +kernel
theorem dX6_flow_50 : decode cX6_flow 50 = .ok (.aload_n 0, 1) := by decide +kernel
theorem dX6_flow_51 : decode cX6_flow 51 = .ok (.invokevirtual 159, 3) := by decide +kernel
theorem dX6_flow_54 : decode cX6_flow 54 = .ok (.aload_n 0, 1) := by decide +kernel
theorem dX6_flow_55 : decode cX6_flow 55 = .ok (.invokevirtual 162, 3) := by decide +kernel
theorem dX6_flow_58 : decode cX6_flow 58 = .ok (.istore_n 1, 1) := by decide +kernel
theorem dX6_flow_59 : decode cX6_flow 59 = .ok (.iload_n 1, 1) := by decide +kernel
theorem dX6_flow_60 : decode cX6_flow 60 = .ok (.ifCond .lt 112, 3) := by decide +kernel
theorem dX6_flow_63 : decode cX6_flow 63 = .ok (.aload_n 0, 1) := by decide +kernel
theorem dX6_flow_64 : decode cX6_flow 64 = .ok (.getfield 49, 3) := by decide +kernel
theorem dX6_flow_67 : decode cX6_flow 67 = .ok (.iload_n 1, 1) := by decide +kernel
theorem dX6_flow_68 : decode cX6_flow 68 = .ok (.dup2, 1) := by decide +kernel
theorem dX6_flow_69 : decode cX6_flow 69 = .ok (.iaload, 1) := by decide +kernel
theorem dX6_flow_70 : decode cX6_flow 70 = .ok (.iconst 1, 1) := by decide +kernel
theorem dX6_flow_71 : decode cX6_flow 71 = .ok (.iadd, 1) := by decide +kernel
theorem dX6_flow_72 : decode cX6_flow 72 = .ok (.iastore, 1) := by decide +kernel
theorem dX6_flow_73 : decode cX6_flow 73 = .ok (.aload_n 0, 1) := by decide +kernel
theorem dX6_flow_74 : decode cX6_flow 74 = .ok (.getfield 59, 3) := by decide +kernel
theorem dX6_flow_77 : decode cX6_flow 77 = .ok (.iload_n 1, 1) := by decide +kernel
theorem dX6_flow_78 : decode cX6_flow 78 = .ok (.iaload, 1) := by decide +kernel
theorem dX6_flow_79 : decode cX6_flow 79 = .ok (.ifCond .lt 71, 3) := by decide +kernel
theorem dX6_flow_82 : decode cX6_flow 82 = .ok (.aload_n 0, 1) := by decide +kernel
theorem dX6_flow_83 : decode cX6_flow 83 = .ok (.getfield 59, 3) := by decide +kernel
theorem dX6_flow_86 : decode cX6_flow 86 = .ok (.iload_n 1, 1) := by decide +kernel
theorem dX6_flow_87 : decode cX6_flow 87 = .ok (.iaload, 1) := by decide +kernel
theorem dX6_flow_88 : decode cX6_flow 88 = .ok (.bipush 40, 2) := by decide +kernel
theorem dX6_flow_90 : decode cX6_flow 90 = .ok (.irem, 1) := by decide +kernel
theorem dX6_flow_91 : decode cX6_flow 91 = .ok (.istore_n 2, 1) := by decide +kernel
theorem dX6_flow_92 : decode cX6_flow 92 = .ok (.aload_n 0, 1) := by decide +kernel
theorem dX6_flow_93 : decode cX6_flow 93 = .ok (.getfield 59, 3) := by decide +kernel
theorem dX6_flow_96 : decode cX6_flow 96 = .ok (.iload_n 1, 1) := by decide +kernel
theorem dX6_flow_97 : decode cX6_flow 97 = .ok (.iaload, 1) := by decide +kernel
theorem dX6_flow_98 : decode cX6_flow 98 = .ok (.bipush 40, 2) := by decide +kernel
theorem dX6_flow_100 : decode cX6_flow 100 = .ok (.if_icmp .ge 7, 3) := by decide +kernel
theorem dX6_flow_103 : decode cX6_flow 103 = .ok (.iconst 1, 1) := by decide +kernel
theorem dX6_flow_104 : decode cX6_flow 104 = .ok (.goto 4, 3) := by decide +kernel
theorem dX6_flow_107 : decode cX6_flow 107 = .ok (.iconst 0, 1) := by decide +kernel
theorem dX6_flow_108 : decode cX6_flow 108 = .ok (.istore_n 3, 1) := by decide +kernel
theorem dX6_flow_109 : decode cX6_flow 109 = .ok (.aload_n 0, 1) := by decide +kernel
theorem dX6_flow_110 : decode cX6_flow 110 = .ok (.getfield 29, 3) := by decide +kernel
theorem dX6_flow_113 : decode cX6_flow 113 = .ok (.iload_n 2, 1) := by decide +kernel
theorem dX6_flow_114 : decode cX6_flow 114 = .ok (.dup2, 1) := by decide +kernel
theorem dX6_flow_115 : decode cX6_flow 115 = .ok (.iaload, 1) := by decide +kernel
theorem dX6_flow_116 : decode cX6_flow 116 = .ok (.iload_n 3, 1) := by decide +kernel
theorem dX6_flow_117 : decode cX6_flow 117 = .ok (.ifCond .eq 7, 3) := by decide +kernel
theorem dX6_flow_120 : decode cX6_flow 120 = .ok (.iconst 1, 1) := by decide +kernel
theorem dX6_flow_121 : decode cX6_flow 121 = .ok (.goto 4, 3) := by decide +kernel
theorem dX6_flow_124 : decode cX6_flow 124 = .ok (.iconst (-1), 1) := by decide +kernel
theorem dX6_flow_125 : decode cX6_flow 125 = .ok (.iadd, 1) := by decide +kernel
theorem dX6_flow_126 : decode cX6_flow 126 = .ok (.iastore, 1) := by decide +kernel
theorem dX6_flow_127 : decode cX6_flow 127 = .ok (.iload_n 3, 1) := by decide +kernel
theorem dX6_flow_128 : decode cX6_flow 128 = .ok (.ifCond .eq 12, 3) := by decide +kernel
theorem dX6_flow_131 : decode cX6_flow 131 = .ok (.aload_n 0, 1) := by decide +kernel
theorem dX6_flow_132 : decode cX6_flow 132 = .ok (.getfield 13, 3) := by decide +kernel
theorem dX6_flow_135 : decode cX6_flow 135 = .ok (.iload_n 2, 1) := by decide +kernel
theorem dX6_flow_136 : decode cX6_flow 136 = .ok (.iaload, 1) := by decide +kernel
theorem dX6_flow_137 : decode cX6_flow 137 = .ok (.goto 9, 3) := by decide +kernel
theorem dX6_flow_140 : decode cX6_flow 140 = .ok (.aload_n 0, 1) := by decide +kernel
theorem dX6_flow_141 : decode cX6_flow 141 = .ok (.getfield 17, 3) := by decide +kernel
theorem dX6_flow_144 : decode cX6_flow 144 = .ok (.iload_n 2, 1) := by decide +kernel
theorem dX6_flow_145 : decode cX6_flow 145 = .ok (.iaload, 1) := by decide +kernel
theorem dX6_flow_146 : decode cX6_flow 146 = .ok (.istore_n 1, 1) := by decide +kernel
theorem dX6_flow_147 : decode cX6_flow 147 = .ok (.goto (-74), 3) := by decide +kernel
theorem dX6_flow_150 : decode cX6_flow 150 = .ok (.aload_n 0, 1) := by decide +kernel
theorem dX6_flow_151 : decode cX6_flow 151 = .ok (.getfield 49, 3) := by decide +kernel
theorem dX6_flow_154 : decode cX6_flow 154 = .ok (.iload_n 1, 1) := by decide +kernel
theorem dX6_flow_155 : decode cX6_flow 155 = .ok (.dup2, 1) := by decide +kernel
theorem dX6_flow_156 : decode cX6_flow 156 = .ok (.iaload, 1) := by decide +kernel
theorem dX6_flow_157 : decode cX6_flow 157 = .ok (.iconst 1, 1) := by decide +kernel
theorem dX6_flow_158 : decode cX6_flow 158 = .ok (.isub, 1) := by decide +kernel
theorem dX6_flow_159 : decode cX6_flow 159 = .ok (.iastore, 1) := by decide +kernel
theorem dX6_flow_160 : decode cX6_flow 160 = .ok (.aload_n 0, 1) := by decide +kernel
theorem dX6_flow_161 : decode cX6_flow 161 = .ok (.invokevirtual 159, 3) := by decide +kernel
theorem dX6_flow_164 : decode cX6_flow 164 = .ok (.aload_n 0, 1) := by decide +kernel
theorem dX6_flow_165 : decode cX6_flow 165 = .ok (.invokevirtual 162, 3) := by decide +kernel
theorem dX6_flow_168 : decode cX6_flow 168 = .ok (.istore_n 1, 1) := by decide +kernel
theorem dX6_flow_169 : decode cX6_flow 169 = .ok (.goto (-110), 3) := by decide +kernel
theorem dX6_flow_172 : decode cX6_flow 172 = .ok (.return_, 1) := by decide +kernel
theorem dX6_covers_0 : decode cX6_covers 0 = .ok (.aload_n 0, 1) := by decide +kernel
theorem dX6_covers_1 : decode cX6_covers 1 = .ok (.getfield 85, 3) := by decide +kernel
theorem dX6_covers_4 : decode cX6_covers 4 = .ok (.ifCond .ne 5, 3) := by decide +kernel
theorem dX6_covers_7 : decode cX6_covers 7 = .ok (.iconst 1, 1) := by decide +kernel
theorem dX6_covers_8 : decode cX6_covers 8 = .ok (.ireturn, 1) := by decide +kernel
theorem dX6_covers_9 : decode cX6_covers 9 = .ok (.aload_n 0, 1) := by decide +kernel
theorem dX6_covers_10 : decode cX6_covers 10 = .ok (.iload_n 1, 1) := by decide +kernel
theorem dX6_covers_11 : decode cX6_covers 11 = .ok (.invokevirtual 165, 3) := by decide +kernel
theorem dX6_covers_14 : decode cX6_covers 14 = .ok (.istore_n 2, 1) := by decide +kernel
theorem dX6_covers_15 : decode cX6_covers 15 = .ok (.iconst 0, 1) := by decide +kernel
theorem dX6_covers_16 : decode cX6_covers 16 = .ok (.istore_n 3, 1) := by decide +kernel
theorem dX6_covers_17 : decode cX6_covers 17 = .ok (.iload_n 3, 1) := by decide +kernel
theorem dX6_covers_18 : decode cX6_covers 18 = .ok (.aload_n 0, 1) := by decide +kernel
theorem dX6_covers_19 : decode cX6_covers 19 = .ok (.getfield 7, 3) := by decide +kernel
theorem dX6_covers_22 : decode cX6_covers 22 = .ok (.if_icmp .ge 63, 3) := by decide +kernel
theorem dX6_covers_25 : decode cX6_covers 25 = .ok (.iload_n 2, 1) := by decide +kernel
theorem dX6_covers_26 : decode cX6_covers 26 = .ok (.ifCond .eq 51, 3) := by decide +kernel
theorem dX6_covers_29 : decode cX6_covers 29 = .ok (.aload_n 0, 1) := by decide +kernel
theorem dX6_covers_30 : decode cX6_covers 30 = .ok (.iload_n 3, 1) := by decide +kernel
theorem dX6_covers_31 : decode cX6_covers 31 = .ok (.invokevirtual 165, 3) := by decide +kernel
theorem dX6_covers_34 : decode cX6_covers 34 = .ok (.ifCond .eq 39, 3) := by decide +kernel
theorem dX6_covers_37 : decode cX6_covers 37 = .ok (.aload_n 0, 1) := by decide +kernel
theorem dX6_covers_38 : decode cX6_covers 38 = .ok (.getfield 32, 3) := by decide +kernel
theorem dX6_covers_41 : decode cX6_covers 41 = .ok (.bipush 16, 2) := by decide +kernel
theorem dX6_covers_43 : decode cX6_covers 43 = .ok (.iload_n 1, 1) := by decide +kernel
theorem dX6_covers_44 : decode cX6_covers 44 = .ok (.imul, 1) := by decide +kernel
theorem dX6_covers_45 : decode cX6_covers 45 = .ok (.iload_n 3, 1) := by decide +kernel
theorem dX6_covers_46 : decode cX6_covers 46 = .ok (.iadd, 1) := by decide +kernel
theorem dX6_covers_47 : decode cX6_covers 47 = .ok (.laload, 1) := by decide +kernel
theorem dX6_covers_48 : decode cX6_covers 48 = .ok (.ldc2_w 103, 3) := by decide +kernel
theorem dX6_covers_51 : decode cX6_covers 51 = .ok (.lcmp, 1) := by decide +kernel
theorem dX6_covers_52 : decode cX6_covers 52 = .ok (.ifCond .ge 25, 3) := by decide +kernel
theorem dX6_covers_55 : decode cX6_covers 55 = .ok (.aload_n 0, 1) := by decide +kernel
theorem dX6_covers_56 : decode cX6_covers 56 = .ok (.getfield 32, 3) := by decide +kernel
theorem dX6_covers_59 : decode cX6_covers 59 = .ok (.bipush 16, 2) := by decide +kernel
theorem dX6_covers_61 : decode cX6_covers 61 = .ok (.iload_n 3, 1) := by decide +kernel
theorem dX6_covers_62 : decode cX6_covers 62 = .ok (.imul, 1) := by decide +kernel
theorem dX6_covers_63 : decode cX6_covers 63 = .ok (.iload_n 1, 1) := by decide +kernel
theorem dX6_covers_64 : decode cX6_covers 64 = .ok (.iadd, 1) := by decide +kernel
theorem dX6_covers_65 : decode cX6_covers 65 = .ok (.laload, 1) := by decide +kernel
theorem dX6_covers_66 : decode cX6_covers 66 = .ok (.ldc2_w 103, 3) := by decide +kernel
theorem dX6_covers_69 : decode cX6_covers 69 = .ok (.lcmp, 1) := by decide +kernel
theorem dX6_covers_70 : decode cX6_covers 70 = .ok (.ifCond .ge 7, 3) := by decide +kernel
theorem dX6_covers_73 : decode cX6_covers 73 = .ok (.iconst 1, 1) := by decide +kernel
theorem dX6_covers_74 : decode cX6_covers 74 = .ok (.goto 4, 3) := by decide +kernel
theorem dX6_covers_77 : decode cX6_covers 77 = .ok (.iconst 0, 1) := by decide +kernel
theorem dX6_covers_78 : decode cX6_covers 78 = .ok (.istore_n 2, 1) := by decide +kernel
theorem dX6_covers_79 : decode cX6_covers 79 = .ok (.iinc 3 1, 3) := by decide +kernel
theorem dX6_covers_82 : decode cX6_covers 82 = .ok (.goto (-65), 3) := by decide +kernel
theorem dX6_covers_85 : decode cX6_covers 85 = .ok (.iload_n 2, 1) := by decide +kernel
theorem dX6_covers_86 : decode cX6_covers 86 = .ok (.ireturn, 1) := by decide +kernel
theorem dX6_round_0 : decode cX6_round 0 = .ok (.aload_n 0, 1) := by decide +kernel
theorem dX6_round_1 : decode cX6_round 1 = .ok (.aload_n 0, 1) := by decide +kernel
theorem dX6_round_2 : decode cX6_round 2 = .ok (.iload_n 1, 1) := by decide +kernel
theorem dX6_round_3 : decode cX6_round 3 = .ok (.invokevirtual 94, 3) := by decide +kernel
theorem dX6_round_6 : decode cX6_round 6 = .ok (.ifCond .ne 7, 3) := by decide +kernel
theorem dX6_round_9 : decode cX6_round 9 = .ok (.iconst 1, 1) := by decide +kernel
theorem dX6_round_10 : decode cX6_round 10 = .ok (.goto 4, 3) := by decide +kernel
theorem dX6_round_13 : decode cX6_round 13 = .ok (.iconst 0, 1) := by decide +kernel
theorem dX6_round_14 : decode cX6_round 14 = .ok (.iconst 0, 1) := by decide +kernel
theorem dX6_round_15 : decode cX6_round 15 = .ok (.invokevirtual 81, 3) := by decide +kernel
theorem dX6_round_18 : decode cX6_round 18 = .ok (.ifCond .eq 5, 3) := by decide +kernel
theorem dX6_round_21 : decode cX6_round 21 = .ok (.lconst 0, 1) := by decide +kernel
theorem dX6_round_22 : decode cX6_round 22 = .ok (.lreturn, 1) := by decide +kernel
theorem dX6_round_23 : decode cX6_round 23 = .ok (.aload_n 0, 1) := by decide +kernel
theorem dX6_round_24 : decode cX6_round 24 = .ok (.invokevirtual 109, 3) := by decide +kernel
theorem dX6_round_27 : decode cX6_round 27 = .ok (.aload_n 0, 1) := by decide +kernel
theorem dX6_round_28 : decode cX6_round 28 = .ok (.iload_n 1, 1) := by decide +kernel
theorem dX6_round_29 : decode cX6_round 29 = .ok (.invokevirtual 168, 3) := by decide +kernel
theorem dX6_round_32 : decode cX6_round 32 = .ok (.ifCond .ne 7, 3) := by decide +kernel
theorem dX6_round_35 : decode cX6_round 35 = .ok (.ldc2_w 112, 3) := by decide +kernel
theorem dX6_round_38 : decode cX6_round 38 = .ok (.lreturn, 1) := by decide +kernel
theorem dX6_round_39 : decode cX6_round 39 = .ok (.aload_n 0, 1) := by decide +kernel
theorem dX6_round_40 : decode cX6_round 40 = .ok (.getfield 88, 3) := by decide +kernel
theorem dX6_round_43 : decode cX6_round 43 = .ok (.ifCond .eq 10, 3) := by decide +kernel
theorem dX6_round_46 : decode cX6_round 46 = .ok (.aload_n 0, 1) := by decide +kernel
theorem dX6_round_47 : decode cX6_round 47 = .ok (.invokevirtual 171, 3) := by decide +kernel
theorem dX6_round_50 : decode cX6_round 50 = .ok (.goto 7, 3) := by decide +kernel
theorem dX6_round_53 : decode cX6_round 53 = .ok (.aload_n 0, 1) := by decide +kernel
theorem dX6_round_54 : decode cX6_round 54 = .ok (.invokevirtual 174, 3) := by decide +kernel
theorem dX6_round_57 : decode cX6_round 57 = .ok (.lconst 0, 1) := by decide +kernel
theorem dX6_round_58 : decode cX6_round 58 = .ok (.lstore_n 2, 1) := by decide +kernel
theorem dX6_round_59 : decode cX6_round 59 = .ok (.iconst 0, 1) := by decide +kernel
theorem dX6_round_60 : decode cX6_round 60 = .ok (.istore 4, 2) := by decide +kernel
theorem dX6_round_62 : decode cX6_round 62 = .ok (.iload 4, 2) := by decide +kernel
theorem dX6_round_64 : decode cX6_round 64 = .ok (.aload_n 0, 1) := by decide +kernel
theorem dX6_round_65 : decode cX6_round 65 = .ok (.getfield 85, 3) := by decide +kernel
theorem dX6_round_68 : decode cX6_round 68 = .ok (.if_icmp .ge 45, 3) := by decide +kernel
theorem dX6_round_71 : decode cX6_round 71 = .ok (.aload_n 0, 1) := by decide +kernel
theorem dX6_round_72 : decode cX6_round 72 = .ok (.getfield 65, 3) := by decide +kernel
theorem dX6_round_75 : decode cX6_round 75 = .ok (.iload 4, 2) := by decide +kernel
theorem dX6_round_77 : decode cX6_round 77 = .ok (.iconst 1, 1) := by decide +kernel
theorem dX6_round_78 : decode cX6_round 78 = .ok (.aload_n 0, 1) := by decide +kernel
theorem dX6_round_79 : decode cX6_round 79 = .ok (.getfield 29, 3) := by decide +kernel
theorem dX6_round_82 : decode cX6_round 82 = .ok (.iload 4, 2) := by decide +kernel
theorem dX6_round_84 : decode cX6_round 84 = .ok (.iaload, 1) := by decide +kernel
theorem dX6_round_85 : decode cX6_round 85 = .ok (.iadd, 1) := by decide +kernel
theorem dX6_round_86 : decode cX6_round 86 = .ok (.iastore, 1) := by decide +kernel
theorem dX6_round_87 : decode cX6_round 87 = .ok (.lload_n 2, 1) := by decide +kernel
theorem dX6_round_88 : decode cX6_round 88 = .ok (.aload_n 0, 1) := by decide +kernel
theorem dX6_round_89 : decode cX6_round 89 = .ok (.getfield 65, 3) := by decide +kernel
theorem dX6_round_92 : decode cX6_round 92 = .ok (.iload 4, 2) := by decide +kernel
theorem dX6_round_94 : decode cX6_round 94 = .ok (.iaload, 1) := by decide +kernel
theorem dX6_round_95 : decode cX6_round 95 = .ok (.i2l, 1) := by decide +kernel
theorem dX6_round_96 : decode cX6_round 96 = .ok (.aload_n 0, 1) := by decide +kernel
theorem dX6_round_97 : decode cX6_round 97 = .ok (.getfield 20, 3) := by decide +kernel
theorem dX6_round_100 : decode cX6_round 100 = .ok (.iload 4, 2) := by decide +kernel
theorem dX6_round_102 : decode cX6_round 102 = .ok (.iaload, 1) := by decide +kernel
theorem dX6_round_103 : decode cX6_round 103 = .ok (.i2l, 1) := by decide +kernel
theorem dX6_round_104 : decode cX6_round 104 = .ok (.lmul, 1) := by decide +kernel
theorem dX6_round_105 : decode cX6_round 105 = .ok (.ladd, 1) := by decide +kernel
theorem dX6_round_106 : decode cX6_round 106 = .ok (.lstore_n 2, 1) := by decide +kernel
theorem dX6_round_107 : decode cX6_round 107 = .ok (.iinc 4 1, 3) := by decide +kernel
theorem dX6_round_110 : decode cX6_round 110 = .ok (.goto (-48), 3) := by decide +kernel
theorem dX6_round_113 : decode cX6_round 113 = .ok (.aload_n 0, 1) := by decide +kernel
theorem dX6_round_114 : decode cX6_round 114 = .ok (.iload_n 1, 1) := by decide +kernel
theorem dX6_round_115 : decode cX6_round 115 = .ok (.invokevirtual 138, 3) := by decide +kernel
theorem dX6_round_118 : decode cX6_round 118 = .ok (.aload_n 0, 1) := by decide +kernel
theorem dX6_round_119 : decode cX6_round 119 = .ok (.iconst 1, 1) := by decide +kernel
theorem dX6_round_120 : decode cX6_round 120 = .ok (.putfield 77, 3) := by decide +kernel
theorem dX6_round_123 : decode cX6_round 123 = .ok (.lload_n 2, 1) := by decide +kernel
theorem dX6_round_124 : decode cX6_round 124 = .ok (.lreturn, 1) := by decide +kernel
theorem dX6_extra_0 : decode cX6_extra 0 = .ok (.aload_n 0, 1) := by decide +kernel
theorem dX6_extra_1 : decode cX6_extra 1 = .ok (.iload_n 1, 1) := by decide +kernel
theorem dX6_extra_2 : decode cX6_extra 2 = .ok (.ifCond .lt 11, 3) := by decide +kernel
theorem dX6_extra_5 : decode cX6_extra 5 = .ok (.iload_n 1, 1) := by decide +kernel
theorem dX6_extra_6 : decode cX6_extra 6 = .ok (.aload_n 0, 1) := by decide +kernel
theorem dX6_extra_7 : decode cX6_extra 7 = .ok (.getfield 85, 3) := by decide +kernel
theorem dX6_extra_10 : decode cX6_extra 10 = .ok (.if_icmp .lt 7, 3) := by decide +kernel
theorem dX6_extra_13 : decode cX6_extra 13 = .ok (.iconst 1, 1) := by decide +kernel
theorem dX6_extra_14 : decode cX6_extra 14 = .ok (.goto 4, 3) := by decide +kernel
theorem dX6_extra_17 : decode cX6_extra 17 = .ok (.iconst 0, 1) := by decide +kernel
theorem dX6_extra_18 : decode cX6_extra 18 = .ok (.aload_n 0, 1) := by decide +kernel
theorem dX6_extra_19 : decode cX6_extra 19 = .ok (.getfield 77, 3) := by decide +kernel
theorem dX6_extra_22 : decode cX6_extra 22 = .ok (.ifCond .ne 7, 3) := by decide +kernel
theorem dX6_extra_25 : decode cX6_extra 25 = .ok (.iconst 1, 1) := by decide +kernel
theorem dX6_extra_26 : decode cX6_extra 26 = .ok (.goto 4, 3) := by decide +kernel
theorem dX6_extra_29 : decode cX6_extra 29 = .ok (.iconst 0, 1) := by decide +kernel
theorem dX6_extra_30 : decode cX6_extra 30 = .ok (.invokevirtual 81, 3) := by decide +kernel
theorem dX6_extra_33 : decode cX6_extra 33 = .ok (.ifCond .eq 5, 3) := by decide +kernel
theorem dX6_extra_36 : decode cX6_extra 36 = .ok (.iconst 0, 1) := by decide +kernel
theorem dX6_extra_37 : decode cX6_extra 37 = .ok (.ireturn, 1) := by decide +kernel
theorem dX6_extra_38 : decode cX6_extra 38 = .ok (.aload_n 0, 1) := by decide +kernel
theorem dX6_extra_39 : decode cX6_extra 39 = .ok (.getfield 29, 3) := by decide +kernel
theorem dX6_extra_42 : decode cX6_extra 42 = .ok (.iload_n 1, 1) := by decide +kernel
theorem dX6_extra_43 : decode cX6_extra 43 = .ok (.iaload, 1) := by decide +kernel
theorem dX6_extra_44 : decode cX6_extra 44 = .ok (.ireturn, 1) := by decide +kernel
theorem dX6_row_0 : decode cX6_row 0 = .ok (.aload_n 0, 1) := by decide +kernel
theorem dX6_row_1 : decode cX6_row 1 = .ok (.iload_n 1, 1) := by decide +kernel
theorem dX6_row_2 : decode cX6_row 2 = .ok (.ifCond .lt 11, 3) := by decide +kernel
theorem dX6_row_5 : decode cX6_row 5 = .ok (.iload_n 1, 1) := by decide +kernel
theorem dX6_row_6 : decode cX6_row 6 = .ok (.aload_n 0, 1) := by decide +kernel
theorem dX6_row_7 : decode cX6_row 7 = .ok (.getfield 74, 3) := by decide +kernel
theorem dX6_row_10 : decode cX6_row 10 = .ok (.if_icmp .lt 7, 3) := by decide +kernel
theorem dX6_row_13 : decode cX6_row 13 = .ok (.iconst 1, 1) := by decide +kernel
theorem dX6_row_14 : decode cX6_row 14 = .ok (.goto 4, 3) := by decide +kernel
theorem dX6_row_17 : decode cX6_row 17 = .ok (.iconst 0, 1) := by decide +kernel
theorem dX6_row_18 : decode cX6_row 18 = .ok (.iconst 0, 1) := by decide +kernel
theorem dX6_row_19 : decode cX6_row 19 = .ok (.invokevirtual 81, 3) := by decide +kernel
theorem dX6_row_22 : decode cX6_row 22 = .ok (.ifCond .eq 5, 3) := by decide +kernel
theorem dX6_row_25 : decode cX6_row 25 = .ok (.iconst 0, 1) := by decide +kernel
theorem dX6_row_26 : decode cX6_row 26 = .ok (.ireturn, 1) := by decide +kernel
theorem dX6_row_27 : decode cX6_row 27 = .ok (.aload_n 0, 1) := by decide +kernel
theorem dX6_row_28 : decode cX6_row 28 = .ok (.getfield 23, 3) := by decide +kernel
theorem dX6_row_31 : decode cX6_row 31 = .ok (.iload_n 1, 1) := by decide +kernel
theorem dX6_row_32 : decode cX6_row 32 = .ok (.iaload, 1) := by decide +kernel
theorem dX6_row_33 : decode cX6_row 33 = .ok (.ireturn, 1) := by decide +kernel
theorem dX6_step_0 : decode cX6_step 0 = .ok (.aload_n 0, 1) := by decide +kernel
theorem dX6_step_1 : decode cX6_step 1 = .ok (.aload_n 0, 1) := by decide +kernel
theorem dX6_step_2 : decode cX6_step 2 = .ok (.getfield 177, 3) := by decide +kernel
theorem dX6_step_5 : decode cX6_step 5 = .ok (.sipush 1000, 3) := by decide +kernel
theorem dX6_step_8 : decode cX6_step 8 = .ok (.if_icmp .ne 7, 3) := by decide +kernel
theorem dX6_step_11 : decode cX6_step 11 = .ok (.iconst 1, 1) := by decide +kernel
theorem dX6_step_12 : decode cX6_step 12 = .ok (.goto 4, 3) := by decide +kernel
theorem dX6_step_15 : decode cX6_step 15 = .ok (.iconst 0, 1) := by decide +kernel
theorem dX6_step_16 : decode cX6_step 16 = .ok (.iconst 0, 1) := by decide +kernel
theorem dX6_step_17 : decode cX6_step 17 = .ok (.invokevirtual 81, 3) := by decide +kernel
theorem dX6_step_20 : decode cX6_step 20 = .ok (.ifCond .eq 5, 3) := by decide +kernel
theorem dX6_step_23 : decode cX6_step 23 = .ok (.iconst 0, 1) := by decide +kernel
theorem dX6_step_24 : decode cX6_step 24 = .ok (.ireturn, 1) := by decide +kernel
theorem dX6_step_25 : decode cX6_step 25 = .ok (.aload_n 0, 1) := by decide +kernel
theorem dX6_step_26 : decode cX6_step 26 = .ok (.getfield 26, 3) := by decide +kernel
theorem dX6_step_29 : decode cX6_step 29 = .ok (.aload_n 0, 1) := by decide +kernel
theorem dX6_step_30 : decode cX6_step 30 = .ok (.getfield 177, 3) := by decide +kernel
theorem dX6_step_33 : decode cX6_step 33 = .ok (.iload_n 1, 1) := by decide +kernel
theorem dX6_step_34 : decode cX6_step 34 = .ok (.iastore, 1) := by decide +kernel
theorem dX6_step_35 : decode cX6_step 35 = .ok (.aload_n 0, 1) := by decide +kernel
theorem dX6_step_36 : decode cX6_step 36 = .ok (.dup, 1) := by decide +kernel
theorem dX6_step_37 : decode cX6_step 37 = .ok (.getfield 177, 3) := by decide +kernel
theorem dX6_step_40 : decode cX6_step 40 = .ok (.iconst 1, 1) := by decide +kernel
theorem dX6_step_41 : decode cX6_step 41 = .ok (.iadd, 1) := by decide +kernel
theorem dX6_step_42 : decode cX6_step 42 = .ok (.putfield 177, 3) := by decide +kernel
theorem dX6_step_45 : decode cX6_step 45 = .ok (.aload_n 0, 1) := by decide +kernel
theorem dX6_step_46 : decode cX6_step 46 = .ok (.getfield 177, 3) := by decide +kernel
theorem dX6_step_49 : decode cX6_step 49 = .ok (.ireturn, 1) := by decide +kernel
theorem dX6_judge_0 : decode cX6_judge 0 = .ok (.aload_n 0, 1) := by decide +kernel
theorem dX6_judge_1 : decode cX6_judge 1 = .ok (.aload_n 0, 1) := by decide +kernel
theorem dX6_judge_2 : decode cX6_judge 2 = .ok (.iload_n 1, 1) := by decide +kernel
theorem dX6_judge_3 : decode cX6_judge 3 = .ok (.invokevirtual 94, 3) := by decide +kernel
theorem dX6_judge_6 : decode cX6_judge 6 = .ok (.ifCond .ne 7, 3) := by decide +kernel
theorem dX6_judge_9 : decode cX6_judge 9 = .ok (.iconst 1, 1) := by decide +kernel
theorem dX6_judge_10 : decode cX6_judge 10 = .ok (.goto 4, 3) := by decide +kernel
theorem dX6_judge_13 : decode cX6_judge 13 = .ok (.iconst 0, 1) := by decide +kernel
theorem dX6_judge_14 : decode cX6_judge 14 = .ok (.iconst 0, 1) := by decide +kernel
theorem dX6_judge_15 : decode cX6_judge 15 = .ok (.invokevirtual 81, 3) := by decide +kernel
theorem dX6_judge_18 : decode cX6_judge 18 = .ok (.ifCond .eq 5, 3) := by decide +kernel
theorem dX6_judge_21 : decode cX6_judge 21 = .ok (.lconst 0, 1) := by decide +kernel
theorem dX6_judge_22 : decode cX6_judge 22 = .ok (.lreturn, 1) := by decide +kernel
theorem dX6_judge_23 : decode cX6_judge 23 = .ok (.aload_n 0, 1) := by decide +kernel
theorem dX6_judge_24 : decode cX6_judge 24 = .ok (.getfield 177, 3) := by decide +kernel
theorem dX6_judge_27 : decode cX6_judge 27 = .ok (.istore_n 2, 1) := by decide +kernel
theorem dX6_judge_28 : decode cX6_judge 28 = .ok (.aload_n 0, 1) := by decide +kernel
theorem dX6_judge_29 : decode cX6_judge 29 = .ok (.iconst 0, 1) := by decide +kernel
theorem dX6_judge_30 : decode cX6_judge 30 = .ok (.putfield 177, 3) := by decide +kernel
theorem dX6_judge_33 : decode cX6_judge 33 = .ok (.iload_n 1, 1) := by decide +kernel
theorem dX6_judge_34 : decode cX6_judge 34 = .ok (.istore_n 3, 1) := by decide +kernel
theorem dX6_judge_35 : decode cX6_judge 35 = .ok (.lconst 0, 1) := by decide +kernel
theorem dX6_judge_36 : decode cX6_judge 36 = .ok (.lstore 4, 2) := by decide +kernel
theorem dX6_judge_38 : decode cX6_judge 38 = .ok (.iconst 0, 1) := by decide +kernel
theorem dX6_judge_39 : decode cX6_judge 39 = .ok (.istore 6, 2) := by decide +kernel
theorem dX6_judge_41 : decode cX6_judge 41 = .ok (.iload 6, 2) := by decide +kernel
theorem dX6_judge_43 : decode cX6_judge 43 = .ok (.aload_n 0, 1) := by decide +kernel
theorem dX6_judge_44 : decode cX6_judge 44 = .ok (.getfield 85, 3) := by decide +kernel
theorem dX6_judge_47 : decode cX6_judge 47 = .ok (.if_icmp .ge 17, 3) := by decide +kernel
theorem dX6_judge_50 : decode cX6_judge 50 = .ok (.aload_n 0, 1) := by decide +kernel
theorem dX6_judge_51 : decode cX6_judge 51 = .ok (.getfield 65, 3) := by decide +kernel
theorem dX6_judge_54 : decode cX6_judge 54 = .ok (.iload 6, 2) := by decide +kernel
theorem dX6_judge_56 : decode cX6_judge 56 = .ok (.iconst 1, 1) := by decide +kernel
theorem dX6_judge_57 : decode cX6_judge 57 = .ok (.iastore, 1) := by decide +kernel
theorem dX6_judge_58 : decode cX6_judge 58 = .ok (.iinc 6 1, 3) := by decide +kernel
theorem dX6_judge_61 : decode cX6_judge 61 = .ok (.goto (-20), 3) := by decide +kernel
theorem dX6_judge_64 : decode cX6_judge 64 = .ok (.iconst 0, 1) := by decide +kernel
theorem dX6_judge_65 : decode cX6_judge 65 = .ok (.istore 6, 2) := by decide +kernel
theorem dX6_judge_67 : decode cX6_judge 67 = .ok (.iload 6, 2) := by decide +kernel
theorem dX6_judge_69 : decode cX6_judge 69 = .ok (.iload_n 2, 1) := by decide +kernel
theorem dX6_judge_70 : decode cX6_judge 70 = .ok (.if_icmp .ge 68, 3) := by decide +kernel
theorem dX6_judge_73 : decode cX6_judge 73 = .ok (.iload_n 3, 1) := by decide +kernel
theorem dX6_judge_74 : decode cX6_judge 74 = .ok (.ifCond .lt 64, 3) := by decide +kernel
theorem dX6_judge_77 : decode cX6_judge 77 = .ok (.aload_n 0, 1) := by decide +kernel
theorem dX6_judge_78 : decode cX6_judge 78 = .ok (.iload_n 3, 1) := by decide +kernel
theorem dX6_judge_79 : decode cX6_judge 79 = .ok (.aload_n 0, 1) := by decide +kernel
theorem dX6_judge_80 : decode cX6_judge 80 = .ok (.getfield 26, 3) := by decide +kernel
theorem dX6_judge_83 : decode cX6_judge 83 = .ok (.iload 6, 2) := by decide +kernel
theorem dX6_judge_85 : decode cX6_judge 85 = .ok (.iaload, 1) := by decide +kernel
theorem dX6_judge_86 : decode cX6_judge 86 = .ok (.invokevirtual 124, 3) := by decide +kernel
theorem dX6_judge_89 : decode cX6_judge 89 = .ok (.istore_n 3, 1) := by decide +kernel
theorem dX6_judge_90 : decode cX6_judge 90 = .ok (.iload_n 3, 1) := by decide +kernel
theorem dX6_judge_91 : decode cX6_judge 91 = .ok (.ifCond .ge 6, 3) := by decide +kernel
theorem dX6_judge_94 : decode cX6_judge 94 = .ok (.goto 38, 3) := by decide +kernel
theorem dX6_judge_97 : decode cX6_judge 97 = .ok (.lload 4, 2) := by decide +kernel
theorem dX6_judge_99 : decode cX6_judge 99 = .ok (.aload_n 0, 1) := by decide +kernel
theorem dX6_judge_100 : decode cX6_judge 100 = .ok (.getfield 20, 3) := by decide +kernel
theorem dX6_judge_103 : decode cX6_judge 103 = .ok (.aload_n 0, 1) := by decide +kernel
theorem dX6_judge_104 : decode cX6_judge 104 = .ok (.getfield 26, 3) := by decide +kernel
theorem dX6_judge_107 : decode cX6_judge 107 = .ok (.iload 6, 2) := by decide +kernel
theorem dX6_judge_109 : decode cX6_judge 109 = .ok (.iaload, 1) := by decide +kernel
theorem dX6_judge_110 : decode cX6_judge 110 = .ok (.iconst 2, 1) := by decide +kernel
theorem dX6_judge_111 : decode cX6_judge 111 = .ok (.idiv, 1) := by decide +kernel
theorem dX6_judge_112 : decode cX6_judge 112 = .ok (.iaload, 1) := by decide +kernel
theorem dX6_judge_113 : decode cX6_judge 113 = .ok (.i2l, 1) := by decide +kernel
theorem dX6_judge_114 : decode cX6_judge 114 = .ok (.ladd, 1) := by decide +kernel
theorem dX6_judge_115 : decode cX6_judge 115 = .ok (.lstore 4, 2) := by decide +kernel
theorem dX6_judge_117 : decode cX6_judge 117 = .ok (.aload_n 0, 1) := by decide +kernel
theorem dX6_judge_118 : decode cX6_judge 118 = .ok (.getfield 65, 3) := by decide +kernel
theorem dX6_judge_121 : decode cX6_judge 121 = .ok (.aload_n 0, 1) := by decide +kernel
theorem dX6_judge_122 : decode cX6_judge 122 = .ok (.getfield 26, 3) := by decide +kernel
theorem dX6_judge_125 : decode cX6_judge 125 = .ok (.iload 6, 2) := by decide +kernel
theorem dX6_judge_127 : decode cX6_judge 127 = .ok (.iaload, 1) := by decide +kernel
theorem dX6_judge_128 : decode cX6_judge 128 = .ok (.iconst 2, 1) := by decide +kernel
theorem dX6_judge_129 : decode cX6_judge 129 = .ok (.idiv, 1) := by decide +kernel
theorem dX6_judge_130 : decode cX6_judge 130 = .ok (.iconst 0, 1) := by decide +kernel
theorem dX6_judge_131 : decode cX6_judge 131 = .ok (.iastore, 1) := by decide +kernel
theorem dX6_judge_132 : decode cX6_judge 132 = .ok (.iinc 6 1, 3) := by decide +kernel
theorem dX6_judge_135 : decode cX6_judge 135 = .ok (.goto (-68), 3) := by decide +kernel
theorem dX6_judge_138 : decode cX6_judge 138 = .ok (.iconst 1, 1) := by decide +kernel
theorem dX6_judge_139 : decode cX6_judge 139 = .ok (.istore 6, 2) := by decide +kernel
theorem dX6_judge_141 : decode cX6_judge 141 = .ok (.iconst 0, 1) := by decide +kernel
theorem dX6_judge_142 : decode cX6_judge 142 = .ok (.istore 7, 2) := by decide +kernel
theorem dX6_judge_144 : decode cX6_judge 144 = .ok (.iload 7, 2) := by decide +kernel
theorem dX6_judge_146 : decode cX6_judge 146 = .ok (.aload_n 0, 1) := by decide +kernel
theorem dX6_judge_147 : decode cX6_judge 147 = .ok (.getfield 85, 3) := by decide +kernel
theorem dX6_judge_150 : decode cX6_judge 150 = .ok (.if_icmp .ge 31, 3) := by decide +kernel
theorem dX6_judge_153 : decode cX6_judge 153 = .ok (.iload 6, 2) := by decide +kernel
theorem dX6_judge_155 : decode cX6_judge 155 = .ok (.ifCond .eq 17, 3) := by decide +kernel
theorem dX6_judge_158 : decode cX6_judge 158 = .ok (.aload_n 0, 1) := by decide +kernel
theorem dX6_judge_159 : decode cX6_judge 159 = .ok (.getfield 65, 3) := by decide +kernel
theorem dX6_judge_162 : decode cX6_judge 162 = .ok (.iload 7, 2) := by decide +kernel
theorem dX6_judge_164 : decode cX6_judge 164 = .ok (.iaload, 1) := by decide +kernel
theorem dX6_judge_165 : decode cX6_judge 165 = .ok (.ifCond .ne 7, 3) := by decide +kernel
theorem dX6_judge_168 : decode cX6_judge 168 = .ok (.iconst 1, 1) := by decide +kernel
theorem dX6_judge_169 : decode cX6_judge 169 = .ok (.goto 4, 3) := by decide +kernel
theorem dX6_judge_172 : decode cX6_judge 172 = .ok (.iconst 0, 1) := by decide +kernel
theorem dX6_judge_173 : decode cX6_judge 173 = .ok (.istore 6, 2) := by decide +kernel
theorem dX6_judge_175 : decode cX6_judge 175 = .ok (.iinc 7 1, 3) := by decide +kernel
theorem dX6_judge_178 : decode cX6_judge 178 = .ok (.goto (-34), 3) := by decide +kernel
theorem dX6_judge_181 : decode cX6_judge 181 = .ok (.iload_n 3, 1) := by decide +kernel
theorem dX6_judge_182 : decode cX6_judge 182 = .ok (.ifCond .ge 9, 3) := by decide +kernel
theorem dX6_judge_185 : decode cX6_judge 185 = .ok (.ldc2_w 112, 3) := by decide +kernel
theorem dX6_judge_188 : decode cX6_judge 188 = .ok (.goto 27, 3) := by decide +kernel
theorem dX6_judge_191 : decode cX6_judge 191 = .ok (.iload_n 3, 1) := by decide +kernel
theorem dX6_judge_192 : decode cX6_judge 192 = .ok (.iload_n 1, 1) := by decide +kernel
theorem dX6_judge_193 : decode cX6_judge 193 = .ok (.if_icmp .eq 9, 3) := by decide +kernel
theorem dX6_judge_196 : decode cX6_judge 196 = .ok (.ldc2_w 180, 3) := by decide +kernel
theorem dX6_judge_199 : decode cX6_judge 199 = .ok (.goto 16, 3) := by decide +kernel
theorem dX6_judge_202 : decode cX6_judge 202 = .ok (.iload 6, 2) := by decide +kernel
theorem dX6_judge_204 : decode cX6_judge 204 = .ok (.ifCond .eq 8, 3) := by decide +kernel
theorem dX6_judge_207 : decode cX6_judge 207 = .ok (.lload 4, 2) := by decide +kernel
theorem dX6_judge_209 : decode cX6_judge 209 = .ok (.goto 6, 3) := by decide +kernel
theorem dX6_judge_212 : decode cX6_judge 212 = .ok (.ldc2_w 182, 3) := by decide +kernel
theorem dX6_judge_215 : decode cX6_judge 215 = .ok (.lreturn, 1) := by decide +kernel
theorem dX6_sets_0 : decode cX6_sets 0 = .ok (.aload_n 0, 1) := by decide +kernel
theorem dX6_sets_1 : decode cX6_sets 1 = .ok (.invokevirtual 135, 3) := by decide +kernel
theorem dX6_sets_4 : decode cX6_sets 4 = .ok (.aload_n 0, 1) := by decide +kernel
theorem dX6_sets_5 : decode cX6_sets 5 = .ok (.invokevirtual 114, 3) := by decide +kernel
theorem dX6_sets_8 : decode cX6_sets 8 = .ok (.iconst 0, 1) := by decide +kernel
theorem dX6_sets_9 : decode cX6_sets 9 = .ok (.istore_n 1, 1) := by decide +kernel
theorem dX6_sets_10 : decode cX6_sets 10 = .ok (.iconst 0, 1) := by decide +kernel
theorem dX6_sets_11 : decode cX6_sets 11 = .ok (.istore_n 2, 1) := by decide +kernel
theorem dX6_sets_12 : decode cX6_sets 12 = .ok (.iload_n 2, 1) := by decide +kernel
theorem dX6_sets_13 : decode cX6_sets 13 = .ok (.aload_n 0, 1) := by decide +kernel
theorem dX6_sets_14 : decode cX6_sets 14 = .ok (.getfield 7, 3) := by decide +kernel
theorem dX6_sets_17 : decode cX6_sets 17 = .ok (.if_icmp .ge 35, 3) := by decide +kernel
theorem dX6_sets_20 : decode cX6_sets 20 = .ok (.iload_n 1, 1) := by decide +kernel
theorem dX6_sets_21 : decode cX6_sets 21 = .ok (.aload_n 0, 1) := by decide +kernel
theorem dX6_sets_22 : decode cX6_sets 22 = .ok (.getfield 68, 3) := by decide +kernel
theorem dX6_sets_25 : decode cX6_sets 25 = .ok (.iload_n 2, 1) := by decide +kernel
theorem dX6_sets_26 : decode cX6_sets 26 = .ok (.iaload, 1) := by decide +kernel
theorem dX6_sets_27 : decode cX6_sets 27 = .ok (.iload_n 2, 1) := by decide +kernel
theorem dX6_sets_28 : decode cX6_sets 28 = .ok (.if_icmp .ne 15, 3) := by decide +kernel
theorem dX6_sets_31 : decode cX6_sets 31 = .ok (.aload_n 0, 1) := by decide +kernel
end
section
theorem dX6_sets_32 : decode cX6_sets 32 = .ok (.iload_n 2, 1) := by decide +kernel
theorem dX6_sets_33 : decode cX6_sets 33 = .ok (.invokevirtual 165, 3) := by decide +kernel
theorem dX6_sets_36 : decode cX6_sets 36 = .ok (.ifCond .eq 7, 3) := by decide +kernel
theorem dX6_sets_39 : decode cX6_sets 39 = .ok (.iconst 1, 1) := by decide +kernel
theorem dX6_sets_40 : decode cX6_sets 40 = .ok (.goto 4, 3) := by decide +kernel
theorem dX6_sets_43 : decode cX6_sets 43 = .ok (.iconst 0, 1) := by decide +kernel
theorem dX6_sets_44 : decode cX6_sets 44 = .ok (.iadd, 1) := by decide +kernel
theorem dX6_sets_45 : decode cX6_sets 45 = .ok (.istore_n 1, 1) := by decide +kernel
theorem dX6_sets_46 : decode cX6_sets 46 = .ok (.iinc 2 1, 3) := by decide +kernel
theorem dX6_sets_49 : decode cX6_sets 49 = .ok (.goto (-37), 3) := by decide +kernel
theorem dX6_sets_52 : decode cX6_sets 52 = .ok (.iload_n 1, 1) := by decide +kernel
theorem dX6_sets_53 : decode cX6_sets 53 = .ok (.ireturn, 1) := by decide +kernel
theorem dX6_leastOdd_0 : decode cX6_leastOdd 0 = .ok (.iconst 0, 1) := by decide +kernel
theorem dX6_leastOdd_1 : decode cX6_leastOdd 1 = .ok (.istore_n 1, 1) := by decide +kernel
theorem dX6_leastOdd_2 : decode cX6_leastOdd 2 = .ok (.iload_n 1, 1) := by decide +kernel
theorem dX6_leastOdd_3 : decode cX6_leastOdd 3 = .ok (.aload_n 0, 1) := by decide +kernel
theorem dX6_leastOdd_4 : decode cX6_leastOdd 4 = .ok (.getfield 7, 3) := by decide +kernel
theorem dX6_leastOdd_7 : decode cX6_leastOdd 7 = .ok (.if_icmp .ge 19, 3) := by decide +kernel
theorem dX6_leastOdd_10 : decode cX6_leastOdd 10 = .ok (.aload_n 0, 1) := by decide +kernel
theorem dX6_leastOdd_11 : decode cX6_leastOdd 11 = .ok (.iload_n 1, 1) := by decide +kernel
theorem dX6_leastOdd_12 : decode cX6_leastOdd 12 = .ok (.invokevirtual 121, 3) := by decide +kernel
theorem dX6_leastOdd_15 : decode cX6_leastOdd 15 = .ok (.ifCond .eq 5, 3) := by decide +kernel
theorem dX6_leastOdd_18 : decode cX6_leastOdd 18 = .ok (.iload_n 1, 1) := by decide +kernel
theorem dX6_leastOdd_19 : decode cX6_leastOdd 19 = .ok (.ireturn, 1) := by decide +kernel
theorem dX6_leastOdd_20 : decode cX6_leastOdd 20 = .ok (.iinc 1 1, 3) := by decide +kernel
theorem dX6_leastOdd_23 : decode cX6_leastOdd 23 = .ok (.goto (-21), 3) := by decide +kernel
theorem dX6_leastOdd_26 : decode cX6_leastOdd 26 = .ok (.iconst (-1), 1) := by decide +kernel
theorem dX6_leastOdd_27 : decode cX6_leastOdd 27 = .ok (.ireturn, 1) := by decide +kernel
theorem dX6_touched_0 : decode cX6_touched 0 = .ok (.iconst 0, 1) := by decide +kernel
theorem dX6_touched_1 : decode cX6_touched 1 = .ok (.istore_n 1, 1) := by decide +kernel
theorem dX6_touched_2 : decode cX6_touched 2 = .ok (.iconst 0, 1) := by decide +kernel
theorem dX6_touched_3 : decode cX6_touched 3 = .ok (.istore_n 2, 1) := by decide +kernel
theorem dX6_touched_4 : decode cX6_touched 4 = .ok (.iload_n 2, 1) := by decide +kernel
theorem dX6_touched_5 : decode cX6_touched 5 = .ok (.aload_n 0, 1) := by decide +kernel
theorem dX6_touched_6 : decode cX6_touched 6 = .ok (.getfield 7, 3) := by decide +kernel
theorem dX6_touched_9 : decode cX6_touched 9 = .ok (.if_icmp .ge 25, 3) := by decide +kernel
theorem dX6_touched_12 : decode cX6_touched 12 = .ok (.iload_n 1, 1) := by decide +kernel
theorem dX6_touched_13 : decode cX6_touched 13 = .ok (.aload_n 0, 1) := by decide +kernel
theorem dX6_touched_14 : decode cX6_touched 14 = .ok (.iload_n 2, 1) := by decide +kernel
theorem dX6_touched_15 : decode cX6_touched 15 = .ok (.invokevirtual 165, 3) := by decide +kernel
theorem dX6_touched_18 : decode cX6_touched 18 = .ok (.ifCond .eq 7, 3) := by decide +kernel
theorem dX6_touched_21 : decode cX6_touched 21 = .ok (.iconst 1, 1) := by decide +kernel
theorem dX6_touched_22 : decode cX6_touched 22 = .ok (.goto 4, 3) := by decide +kernel
theorem dX6_touched_25 : decode cX6_touched 25 = .ok (.iconst 0, 1) := by decide +kernel
theorem dX6_touched_26 : decode cX6_touched 26 = .ok (.iadd, 1) := by decide +kernel
theorem dX6_touched_27 : decode cX6_touched 27 = .ok (.istore_n 1, 1) := by decide +kernel
theorem dX6_touched_28 : decode cX6_touched 28 = .ok (.iinc 2 1, 3) := by decide +kernel
theorem dX6_touched_31 : decode cX6_touched 31 = .ok (.goto (-27), 3) := by decide +kernel
theorem dX6_touched_34 : decode cX6_touched 34 = .ok (.iload_n 1, 1) := by decide +kernel
theorem dX6_touched_35 : decode cX6_touched 35 = .ok (.ireturn, 1) := by decide +kernel
theorem dX6_look_0 : decode cX6_look 0 = .ok (.aload_n 0, 1) := by decide +kernel
theorem dX6_look_1 : decode cX6_look 1 = .ok (.iload_n 1, 1) := by decide +kernel
theorem dX6_look_2 : decode cX6_look 2 = .ok (.ifCond .lt 9, 3) := by decide +kernel
theorem dX6_look_5 : decode cX6_look 5 = .ok (.iload_n 1, 1) := by decide +kernel
theorem dX6_look_6 : decode cX6_look 6 = .ok (.bipush 8, 2) := by decide +kernel
theorem dX6_look_8 : decode cX6_look 8 = .ok (.if_icmp .le 7, 3) := by decide +kernel
theorem dX6_look_11 : decode cX6_look 11 = .ok (.iconst 1, 1) := by decide +kernel
theorem dX6_look_12 : decode cX6_look 12 = .ok (.goto 4, 3) := by decide +kernel
theorem dX6_look_15 : decode cX6_look 15 = .ok (.iconst 0, 1) := by decide +kernel
theorem dX6_look_16 : decode cX6_look 16 = .ok (.iconst 0, 1) := by decide +kernel
theorem dX6_look_17 : decode cX6_look 17 = .ok (.invokevirtual 81, 3) := by decide +kernel
theorem dX6_look_20 : decode cX6_look 20 = .ok (.ifCond .eq 5, 3) := by decide +kernel
theorem dX6_look_23 : decode cX6_look 23 = .ok (.iconst 0, 1) := by decide +kernel
theorem dX6_look_24 : decode cX6_look 24 = .ok (.ireturn, 1) := by decide +kernel
theorem dX6_look_25 : decode cX6_look 25 = .ok (.iload_n 1, 1) := by decide +kernel
theorem dX6_look_26 : decode cX6_look 26 = .ok (.tableswitch 94 0 7 #[46, 51, 56, 69, 74, 79, 84, 89], 46) := by decide +kernel
theorem dX6_look_72 : decode cX6_look 72 = .ok (.aload_n 0, 1) := by decide +kernel
theorem dX6_look_73 : decode cX6_look 73 = .ok (.getfield 7, 3) := by decide +kernel
theorem dX6_look_76 : decode cX6_look 76 = .ok (.ireturn, 1) := by decide +kernel
theorem dX6_look_77 : decode cX6_look 77 = .ok (.aload_n 0, 1) := by decide +kernel
theorem dX6_look_78 : decode cX6_look 78 = .ok (.getfield 85, 3) := by decide +kernel
theorem dX6_look_81 : decode cX6_look 81 = .ok (.ireturn, 1) := by decide +kernel
theorem dX6_look_82 : decode cX6_look 82 = .ok (.aload_n 0, 1) := by decide +kernel
theorem dX6_look_83 : decode cX6_look 83 = .ok (.getfield 88, 3) := by decide +kernel
theorem dX6_look_86 : decode cX6_look 86 = .ok (.ifCond .eq 7, 3) := by decide +kernel
theorem dX6_look_89 : decode cX6_look 89 = .ok (.iconst 1, 1) := by decide +kernel
theorem dX6_look_90 : decode cX6_look 90 = .ok (.goto 4, 3) := by decide +kernel
theorem dX6_look_93 : decode cX6_look 93 = .ok (.iconst 0, 1) := by decide +kernel
theorem dX6_look_94 : decode cX6_look 94 = .ok (.ireturn, 1) := by decide +kernel
theorem dX6_look_95 : decode cX6_look 95 = .ok (.aload_n 0, 1) := by decide +kernel
theorem dX6_look_96 : decode cX6_look 96 = .ok (.getfield 74, 3) := by decide +kernel
theorem dX6_look_99 : decode cX6_look 99 = .ok (.ireturn, 1) := by decide +kernel
theorem dX6_look_100 : decode cX6_look 100 = .ok (.aload_n 0, 1) := by decide +kernel
theorem dX6_look_101 : decode cX6_look 101 = .ok (.invokevirtual 131, 3) := by decide +kernel
theorem dX6_look_104 : decode cX6_look 104 = .ok (.ireturn, 1) := by decide +kernel
theorem dX6_look_105 : decode cX6_look 105 = .ok (.aload_n 0, 1) := by decide +kernel
theorem dX6_look_106 : decode cX6_look 106 = .ok (.invokevirtual 184, 3) := by decide +kernel
theorem dX6_look_109 : decode cX6_look 109 = .ok (.ireturn, 1) := by decide +kernel
theorem dX6_look_110 : decode cX6_look 110 = .ok (.aload_n 0, 1) := by decide +kernel
theorem dX6_look_111 : decode cX6_look 111 = .ok (.getfield 177, 3) := by decide +kernel
theorem dX6_look_114 : decode cX6_look 114 = .ok (.ireturn, 1) := by decide +kernel
theorem dX6_look_115 : decode cX6_look 115 = .ok (.aload_n 0, 1) := by decide +kernel
theorem dX6_look_116 : decode cX6_look 116 = .ok (.invokevirtual 187, 3) := by decide +kernel
theorem dX6_look_119 : decode cX6_look 119 = .ok (.ireturn, 1) := by decide +kernel
theorem dX6_look_120 : decode cX6_look 120 = .ok (.aload_n 0, 1) := by decide +kernel
theorem dX6_look_121 : decode cX6_look 121 = .ok (.invokevirtual 190, 3) := by decide +kernel
theorem dX6_look_124 : decode cX6_look 124 = .ok (.ireturn, 1) := by decide +kernel
theorem dJ6_bitCount_0f7a4_0 : decode cJ6_bitCount_0f7a4 0 = .ok (.iload_n 0, 1) := by decide +kernel
theorem dJ6_bitCount_0f7a4_1 : decode cJ6_bitCount_0f7a4 1 = .ok (.iload_n 0, 1) := by decide +kernel
theorem dJ6_bitCount_0f7a4_2 : decode cJ6_bitCount_0f7a4 2 = .ok (.iconst 1, 1) := by decide +kernel
theorem dJ6_bitCount_0f7a4_3 : decode cJ6_bitCount_0f7a4 3 = .ok (.iushr, 1) := by decide +kernel
theorem dJ6_bitCount_0f7a4_4 : decode cJ6_bitCount_0f7a4 4 = .ok (.ldc_w 265, 3) := by decide +kernel
theorem dJ6_bitCount_0f7a4_7 : decode cJ6_bitCount_0f7a4 7 = .ok (.iand, 1) := by decide +kernel
theorem dJ6_bitCount_0f7a4_8 : decode cJ6_bitCount_0f7a4 8 = .ok (.isub, 1) := by decide +kernel
theorem dJ6_bitCount_0f7a4_9 : decode cJ6_bitCount_0f7a4 9 = .ok (.istore_n 0, 1) := by decide +kernel
theorem dJ6_bitCount_0f7a4_10 : decode cJ6_bitCount_0f7a4 10 = .ok (.iload_n 0, 1) := by decide +kernel
theorem dJ6_bitCount_0f7a4_11 : decode cJ6_bitCount_0f7a4 11 = .ok (.ldc_w 266, 3) := by decide +kernel
theorem dJ6_bitCount_0f7a4_14 : decode cJ6_bitCount_0f7a4 14 = .ok (.iand, 1) := by decide +kernel
theorem dJ6_bitCount_0f7a4_15 : decode cJ6_bitCount_0f7a4 15 = .ok (.iload_n 0, 1) := by decide +kernel
theorem dJ6_bitCount_0f7a4_16 : decode cJ6_bitCount_0f7a4 16 = .ok (.iconst 2, 1) := by decide +kernel
theorem dJ6_bitCount_0f7a4_17 : decode cJ6_bitCount_0f7a4 17 = .ok (.iushr, 1) := by decide +kernel
theorem dJ6_bitCount_0f7a4_18 : decode cJ6_bitCount_0f7a4 18 = .ok (.ldc_w 266, 3) := by decide +kernel
theorem dJ6_bitCount_0f7a4_21 : decode cJ6_bitCount_0f7a4 21 = .ok (.iand, 1) := by decide +kernel
theorem dJ6_bitCount_0f7a4_22 : decode cJ6_bitCount_0f7a4 22 = .ok (.iadd, 1) := by decide +kernel
theorem dJ6_bitCount_0f7a4_23 : decode cJ6_bitCount_0f7a4 23 = .ok (.istore_n 0, 1) := by decide +kernel
theorem dJ6_bitCount_0f7a4_24 : decode cJ6_bitCount_0f7a4 24 = .ok (.iload_n 0, 1) := by decide +kernel
theorem dJ6_bitCount_0f7a4_25 : decode cJ6_bitCount_0f7a4 25 = .ok (.iload_n 0, 1) := by decide +kernel
theorem dJ6_bitCount_0f7a4_26 : decode cJ6_bitCount_0f7a4 26 = .ok (.iconst 4, 1) := by decide +kernel
theorem dJ6_bitCount_0f7a4_27 : decode cJ6_bitCount_0f7a4 27 = .ok (.iushr, 1) := by decide +kernel
theorem dJ6_bitCount_0f7a4_28 : decode cJ6_bitCount_0f7a4 28 = .ok (.iadd, 1) := by decide +kernel
theorem dJ6_bitCount_0f7a4_29 : decode cJ6_bitCount_0f7a4 29 = .ok (.ldc_w 267, 3) := by decide +kernel
theorem dJ6_bitCount_0f7a4_32 : decode cJ6_bitCount_0f7a4 32 = .ok (.iand, 1) := by decide +kernel
theorem dJ6_bitCount_0f7a4_33 : decode cJ6_bitCount_0f7a4 33 = .ok (.istore_n 0, 1) := by decide +kernel
theorem dJ6_bitCount_0f7a4_34 : decode cJ6_bitCount_0f7a4 34 = .ok (.iload_n 0, 1) := by decide +kernel
theorem dJ6_bitCount_0f7a4_35 : decode cJ6_bitCount_0f7a4 35 = .ok (.iload_n 0, 1) := by decide +kernel
theorem dJ6_bitCount_0f7a4_36 : decode cJ6_bitCount_0f7a4 36 = .ok (.bipush 8, 2) := by decide +kernel
theorem dJ6_bitCount_0f7a4_38 : decode cJ6_bitCount_0f7a4 38 = .ok (.iushr, 1) := by decide +kernel
theorem dJ6_bitCount_0f7a4_39 : decode cJ6_bitCount_0f7a4 39 = .ok (.iadd, 1) := by decide +kernel
theorem dJ6_bitCount_0f7a4_40 : decode cJ6_bitCount_0f7a4 40 = .ok (.istore_n 0, 1) := by decide +kernel
theorem dJ6_bitCount_0f7a4_41 : decode cJ6_bitCount_0f7a4 41 = .ok (.iload_n 0, 1) := by decide +kernel
theorem dJ6_bitCount_0f7a4_42 : decode cJ6_bitCount_0f7a4 42 = .ok (.iload_n 0, 1) := by decide +kernel
theorem dJ6_bitCount_0f7a4_43 : decode cJ6_bitCount_0f7a4 43 = .ok (.bipush 16, 2) := by decide +kernel
theorem dJ6_bitCount_0f7a4_45 : decode cJ6_bitCount_0f7a4 45 = .ok (.iushr, 1) := by decide +kernel
theorem dJ6_bitCount_0f7a4_46 : decode cJ6_bitCount_0f7a4 46 = .ok (.iadd, 1) := by decide +kernel
theorem dJ6_bitCount_0f7a4_47 : decode cJ6_bitCount_0f7a4 47 = .ok (.istore_n 0, 1) := by decide +kernel
theorem dJ6_bitCount_0f7a4_48 : decode cJ6_bitCount_0f7a4 48 = .ok (.iload_n 0, 1) := by decide +kernel
theorem dJ6_bitCount_0f7a4_49 : decode cJ6_bitCount_0f7a4 49 = .ok (.bipush 63, 2) := by decide +kernel
theorem dJ6_bitCount_0f7a4_51 : decode cJ6_bitCount_0f7a4 51 = .ok (.iand, 1) := by decide +kernel
theorem dJ6_bitCount_0f7a4_52 : decode cJ6_bitCount_0f7a4 52 = .ok (.ireturn, 1) := by decide +kernel
theorem dJ7_fill_53178_0 : decode cJ7_fill_53178 0 = .ok (.iconst 0, 1) := by decide +kernel
theorem dJ7_fill_53178_1 : decode cJ7_fill_53178 1 = .ok (.istore_n 2, 1) := by decide +kernel
theorem dJ7_fill_53178_2 : decode cJ7_fill_53178 2 = .ok (.aload_n 0, 1) := by decide +kernel
theorem dJ7_fill_53178_3 : decode cJ7_fill_53178 3 = .ok (.arraylength, 1) := by decide +kernel
theorem dJ7_fill_53178_4 : decode cJ7_fill_53178 4 = .ok (.istore_n 3, 1) := by decide +kernel
theorem dJ7_fill_53178_5 : decode cJ7_fill_53178 5 = .ok (.iload_n 2, 1) := by decide +kernel
theorem dJ7_fill_53178_6 : decode cJ7_fill_53178 6 = .ok (.iload_n 3, 1) := by decide +kernel
theorem dJ7_fill_53178_7 : decode cJ7_fill_53178 7 = .ok (.if_icmp .ge 13, 3) := by decide +kernel
theorem dJ7_fill_53178_10 : decode cJ7_fill_53178 10 = .ok (.aload_n 0, 1) := by decide +kernel
theorem dJ7_fill_53178_11 : decode cJ7_fill_53178 11 = .ok (.iload_n 2, 1) := by decide +kernel
theorem dJ7_fill_53178_12 : decode cJ7_fill_53178 12 = .ok (.iload_n 1, 1) := by decide +kernel
theorem dJ7_fill_53178_13 : decode cJ7_fill_53178 13 = .ok (.iastore, 1) := by decide +kernel
theorem dJ7_fill_53178_14 : decode cJ7_fill_53178 14 = .ok (.iinc 2 1, 3) := by decide +kernel
theorem dJ7_fill_53178_17 : decode cJ7_fill_53178 17 = .ok (.goto (-12), 3) := by decide +kernel
theorem dJ7_fill_53178_20 : decode cJ7_fill_53178 20 = .ok (.return_, 1) := by decide +kernel
theorem dL_reset_0 : decode cL_reset 0 = .ok (.aload_n 3, 1) := by decide +kernel
theorem dL_reset_1 : decode cL_reset 1 = .ok (.iconst 0, 1) := by decide +kernel
theorem dL_reset_2 : decode cL_reset 2 = .ok (.aload_n 0, 1) := by decide +kernel
theorem dL_reset_3 : decode cL_reset 3 = .ok (.iload_n 1, 1) := by decide +kernel
theorem dL_reset_4 : decode cL_reset 4 = .ok (.iload_n 2, 1) := by decide +kernel
theorem dL_reset_5 : decode cL_reset 5 = .ok (.invokevirtual 7, 3) := by decide +kernel
theorem dL_reset_8 : decode cL_reset 8 = .ok (.i2l, 1) := by decide +kernel
theorem dL_reset_9 : decode cL_reset 9 = .ok (.lastore, 1) := by decide +kernel
theorem dL_reset_10 : decode cL_reset 10 = .ok (.goto 7, 3) := by decide +kernel
theorem dL_reset_13 : decode cL_reset 13 = .ok (.astore 4, 2) := by decide +kernel
theorem dL_reset_15 : decode cL_reset 15 = .ok (.iconst 1, 1) := by decide +kernel
theorem dL_reset_16 : decode cL_reset 16 = .ok (.ireturn, 1) := by decide +kernel
theorem dL_reset_17 : decode cL_reset 17 = .ok (.iconst 0, 1) := by decide +kernel
theorem dL_reset_18 : decode cL_reset 18 = .ok (.ireturn, 1) := by decide +kernel
theorem dL_edge_0 : decode cL_edge 0 = .ok (.aload 4, 2) := by decide +kernel
theorem dL_edge_2 : decode cL_edge 2 = .ok (.iconst 0, 1) := by decide +kernel
theorem dL_edge_3 : decode cL_edge 3 = .ok (.aload_n 0, 1) := by decide +kernel
theorem dL_edge_4 : decode cL_edge 4 = .ok (.iload_n 1, 1) := by decide +kernel
theorem dL_edge_5 : decode cL_edge 5 = .ok (.iload_n 2, 1) := by decide +kernel
theorem dL_edge_6 : decode cL_edge 6 = .ok (.iload_n 3, 1) := by decide +kernel
theorem dL_edge_7 : decode cL_edge 7 = .ok (.invokevirtual 15, 3) := by decide +kernel
theorem dL_edge_10 : decode cL_edge 10 = .ok (.i2l, 1) := by decide +kernel
theorem dL_edge_11 : decode cL_edge 11 = .ok (.lastore, 1) := by decide +kernel
theorem dL_edge_12 : decode cL_edge 12 = .ok (.goto 11, 3) := by decide +kernel
theorem dL_edge_15 : decode cL_edge 15 = .ok (.astore 5, 2) := by decide +kernel
theorem dL_edge_17 : decode cL_edge 17 = .ok (.iconst 1, 1) := by decide +kernel
theorem dL_edge_18 : decode cL_edge 18 = .ok (.ireturn, 1) := by decide +kernel
theorem dL_edge_19 : decode cL_edge 19 = .ok (.astore 5, 2) := by decide +kernel
theorem dL_edge_21 : decode cL_edge 21 = .ok (.iconst 2, 1) := by decide +kernel
theorem dL_edge_22 : decode cL_edge 22 = .ok (.ireturn, 1) := by decide +kernel
theorem dL_edge_23 : decode cL_edge 23 = .ok (.iconst 0, 1) := by decide +kernel
theorem dL_edge_24 : decode cL_edge 24 = .ok (.ireturn, 1) := by decide +kernel
theorem dL_drop_0 : decode cL_drop 0 = .ok (.aload_n 1, 1) := by decide +kernel
theorem dL_drop_1 : decode cL_drop 1 = .ok (.iconst 0, 1) := by decide +kernel
theorem dL_drop_2 : decode cL_drop 2 = .ok (.aload_n 0, 1) := by decide +kernel
theorem dL_drop_3 : decode cL_drop 3 = .ok (.invokevirtual 21, 3) := by decide +kernel
theorem dL_drop_6 : decode cL_drop 6 = .ok (.i2l, 1) := by decide +kernel
theorem dL_drop_7 : decode cL_drop 7 = .ok (.lastore, 1) := by decide +kernel
theorem dL_drop_8 : decode cL_drop 8 = .ok (.goto 6, 3) := by decide +kernel
theorem dL_drop_11 : decode cL_drop 11 = .ok (.astore_n 2, 1) := by decide +kernel
theorem dL_drop_12 : decode cL_drop 12 = .ok (.iconst 1, 1) := by decide +kernel
theorem dL_drop_13 : decode cL_drop 13 = .ok (.ireturn, 1) := by decide +kernel
theorem dL_drop_14 : decode cL_drop 14 = .ok (.iconst 0, 1) := by decide +kernel
theorem dL_drop_15 : decode cL_drop 15 = .ok (.ireturn, 1) := by decide +kernel
theorem dL_distance_0 : decode cL_distance 0 = .ok (.aload_n 3, 1) := by decide +kernel
theorem dL_distance_1 : decode cL_distance 1 = .ok (.iconst 0, 1) := by decide +kernel
theorem dL_distance_2 : decode cL_distance 2 = .ok (.aload_n 0, 1) := by decide +kernel
theorem dL_distance_3 : decode cL_distance 3 = .ok (.iload_n 1, 1) := by decide +kernel
theorem dL_distance_4 : decode cL_distance 4 = .ok (.iload_n 2, 1) := by decide +kernel
theorem dL_distance_5 : decode cL_distance 5 = .ok (.invokevirtual 25, 3) := by decide +kernel
theorem dL_distance_8 : decode cL_distance 8 = .ok (.lastore, 1) := by decide +kernel
theorem dL_distance_9 : decode cL_distance 9 = .ok (.goto 7, 3) := by decide +kernel
theorem dL_distance_12 : decode cL_distance 12 = .ok (.astore 4, 2) := by decide +kernel
theorem dL_distance_14 : decode cL_distance 14 = .ok (.iconst 1, 1) := by decide +kernel
theorem dL_distance_15 : decode cL_distance 15 = .ok (.ireturn, 1) := by decide +kernel
theorem dL_distance_16 : decode cL_distance 16 = .ok (.iconst 0, 1) := by decide +kernel
theorem dL_distance_17 : decode cL_distance 17 = .ok (.ireturn, 1) := by decide +kernel
theorem dL_tour_0 : decode cL_tour 0 = .ok (.aload_n 2, 1) := by decide +kernel
theorem dL_tour_1 : decode cL_tour 1 = .ok (.iconst 0, 1) := by decide +kernel
theorem dL_tour_2 : decode cL_tour 2 = .ok (.aload_n 0, 1) := by decide +kernel
theorem dL_tour_3 : decode cL_tour 3 = .ok (.iload_n 1, 1) := by decide +kernel
theorem dL_tour_4 : decode cL_tour 4 = .ok (.invokevirtual 29, 3) := by decide +kernel
theorem dL_tour_7 : decode cL_tour 7 = .ok (.i2l, 1) := by decide +kernel
theorem dL_tour_8 : decode cL_tour 8 = .ok (.lastore, 1) := by decide +kernel
theorem dL_tour_9 : decode cL_tour 9 = .ok (.goto 6, 3) := by decide +kernel
theorem dL_tour_12 : decode cL_tour 12 = .ok (.astore_n 3, 1) := by decide +kernel
theorem dL_tour_13 : decode cL_tour 13 = .ok (.iconst 1, 1) := by decide +kernel
theorem dL_tour_14 : decode cL_tour 14 = .ok (.ireturn, 1) := by decide +kernel
theorem dL_tour_15 : decode cL_tour 15 = .ok (.iconst 0, 1) := by decide +kernel
theorem dL_tour_16 : decode cL_tour 16 = .ok (.ireturn, 1) := by decide +kernel
theorem dL_round_0 : decode cL_round 0 = .ok (.aload_n 2, 1) := by decide +kernel
theorem dL_round_1 : decode cL_round 1 = .ok (.iconst 0, 1) := by decide +kernel
theorem dL_round_2 : decode cL_round 2 = .ok (.aload_n 0, 1) := by decide +kernel
theorem dL_round_3 : decode cL_round 3 = .ok (.iload_n 1, 1) := by decide +kernel
theorem dL_round_4 : decode cL_round 4 = .ok (.invokevirtual 33, 3) := by decide +kernel
theorem dL_round_7 : decode cL_round 7 = .ok (.lastore, 1) := by decide +kernel
theorem dL_round_8 : decode cL_round 8 = .ok (.goto 6, 3) := by decide +kernel
theorem dL_round_11 : decode cL_round 11 = .ok (.astore_n 3, 1) := by decide +kernel
theorem dL_round_12 : decode cL_round 12 = .ok (.iconst 1, 1) := by decide +kernel
theorem dL_round_13 : decode cL_round 13 = .ok (.ireturn, 1) := by decide +kernel
theorem dL_round_14 : decode cL_round 14 = .ok (.iconst 0, 1) := by decide +kernel
theorem dL_round_15 : decode cL_round 15 = .ok (.ireturn, 1) := by decide +kernel
theorem dL_extra_0 : decode cL_extra 0 = .ok (.aload_n 2, 1) := by decide +kernel
theorem dL_extra_1 : decode cL_extra 1 = .ok (.iconst 0, 1) := by decide +kernel
theorem dL_extra_2 : decode cL_extra 2 = .ok (.aload_n 0, 1) := by decide +kernel
theorem dL_extra_3 : decode cL_extra 3 = .ok (.iload_n 1, 1) := by decide +kernel
theorem dL_extra_4 : decode cL_extra 4 = .ok (.invokevirtual 37, 3) := by decide +kernel
theorem dL_extra_7 : decode cL_extra 7 = .ok (.i2l, 1) := by decide +kernel
theorem dL_extra_8 : decode cL_extra 8 = .ok (.lastore, 1) := by decide +kernel
theorem dL_extra_9 : decode cL_extra 9 = .ok (.goto 9, 3) := by decide +kernel
theorem dL_extra_12 : decode cL_extra 12 = .ok (.astore_n 3, 1) := by decide +kernel
theorem dL_extra_13 : decode cL_extra 13 = .ok (.iconst 1, 1) := by decide +kernel
theorem dL_extra_14 : decode cL_extra 14 = .ok (.ireturn, 1) := by decide +kernel
theorem dL_extra_15 : decode cL_extra 15 = .ok (.astore_n 3, 1) := by decide +kernel
theorem dL_extra_16 : decode cL_extra 16 = .ok (.iconst 2, 1) := by decide +kernel
theorem dL_extra_17 : decode cL_extra 17 = .ok (.ireturn, 1) := by decide +kernel
theorem dL_extra_18 : decode cL_extra 18 = .ok (.iconst 0, 1) := by decide +kernel
theorem dL_extra_19 : decode cL_extra 19 = .ok (.ireturn, 1) := by decide +kernel
theorem dL_row_0 : decode cL_row 0 = .ok (.aload_n 2, 1) := by decide +kernel
theorem dL_row_1 : decode cL_row 1 = .ok (.iconst 0, 1) := by decide +kernel
theorem dL_row_2 : decode cL_row 2 = .ok (.aload_n 0, 1) := by decide +kernel
theorem dL_row_3 : decode cL_row 3 = .ok (.iload_n 1, 1) := by decide +kernel
theorem dL_row_4 : decode cL_row 4 = .ok (.invokevirtual 42, 3) := by decide +kernel
theorem dL_row_7 : decode cL_row 7 = .ok (.i2l, 1) := by decide +kernel
theorem dL_row_8 : decode cL_row 8 = .ok (.lastore, 1) := by decide +kernel
theorem dL_row_9 : decode cL_row 9 = .ok (.goto 6, 3) := by decide +kernel
theorem dL_row_12 : decode cL_row 12 = .ok (.astore_n 3, 1) := by decide +kernel
theorem dL_row_13 : decode cL_row 13 = .ok (.iconst 1, 1) := by decide +kernel
theorem dL_row_14 : decode cL_row 14 = .ok (.ireturn, 1) := by decide +kernel
theorem dL_row_15 : decode cL_row 15 = .ok (.iconst 0, 1) := by decide +kernel
theorem dL_row_16 : decode cL_row 16 = .ok (.ireturn, 1) := by decide +kernel
theorem dL_step_0 : decode cL_step 0 = .ok (.aload_n 2, 1) := by decide +kernel
theorem dL_step_1 : decode cL_step 1 = .ok (.iconst 0, 1) := by decide +kernel
theorem dL_step_2 : decode cL_step 2 = .ok (.aload_n 0, 1) := by decide +kernel
theorem dL_step_3 : decode cL_step 3 = .ok (.iload_n 1, 1) := by decide +kernel
theorem dL_step_4 : decode cL_step 4 = .ok (.invokevirtual 45, 3) := by decide +kernel
theorem dL_step_7 : decode cL_step 7 = .ok (.i2l, 1) := by decide +kernel
theorem dL_step_8 : decode cL_step 8 = .ok (.lastore, 1) := by decide +kernel
theorem dL_step_9 : decode cL_step 9 = .ok (.goto 6, 3) := by decide +kernel
theorem dL_step_12 : decode cL_step 12 = .ok (.astore_n 3, 1) := by decide +kernel
theorem dL_step_13 : decode cL_step 13 = .ok (.iconst 1, 1) := by decide +kernel
theorem dL_step_14 : decode cL_step 14 = .ok (.ireturn, 1) := by decide +kernel
theorem dL_step_15 : decode cL_step 15 = .ok (.iconst 0, 1) := by decide +kernel
theorem dL_step_16 : decode cL_step 16 = .ok (.ireturn, 1) := by decide +kernel
theorem dL_judge_0 : decode cL_judge 0 = .ok (.aload_n 2, 1) := by decide +kernel
theorem dL_judge_1 : decode cL_judge 1 = .ok (.iconst 0, 1) := by decide +kernel
theorem dL_judge_2 : decode cL_judge 2 = .ok (.aload_n 0, 1) := by decide +kernel
theorem dL_judge_3 : decode cL_judge 3 = .ok (.iload_n 1, 1) := by decide +kernel
theorem dL_judge_4 : decode cL_judge 4 = .ok (.invokevirtual 48, 3) := by decide +kernel
theorem dL_judge_7 : decode cL_judge 7 = .ok (.lastore, 1) := by decide +kernel
theorem dL_judge_8 : decode cL_judge 8 = .ok (.goto 6, 3) := by decide +kernel
theorem dL_judge_11 : decode cL_judge 11 = .ok (.astore_n 3, 1) := by decide +kernel
theorem dL_judge_12 : decode cL_judge 12 = .ok (.iconst 1, 1) := by decide +kernel
theorem dL_judge_13 : decode cL_judge 13 = .ok (.ireturn, 1) := by decide +kernel
theorem dL_judge_14 : decode cL_judge 14 = .ok (.iconst 0, 1) := by decide +kernel
theorem dL_judge_15 : decode cL_judge 15 = .ok (.ireturn, 1) := by decide +kernel
theorem dL_look_0 : decode cL_look 0 = .ok (.aload_n 2, 1) := by decide +kernel
theorem dL_look_1 : decode cL_look 1 = .ok (.iconst 0, 1) := by decide +kernel
theorem dL_look_2 : decode cL_look 2 = .ok (.aload_n 0, 1) := by decide +kernel
theorem dL_look_3 : decode cL_look 3 = .ok (.iload_n 1, 1) := by decide +kernel
theorem dL_look_4 : decode cL_look 4 = .ok (.invokevirtual 51, 3) := by decide +kernel
theorem dL_look_7 : decode cL_look 7 = .ok (.i2l, 1) := by decide +kernel
theorem dL_look_8 : decode cL_look 8 = .ok (.lastore, 1) := by decide +kernel
theorem dL_look_9 : decode cL_look 9 = .ok (.goto 6, 3) := by decide +kernel
theorem dL_look_12 : decode cL_look 12 = .ok (.astore_n 3, 1) := by decide +kernel
theorem dL_look_13 : decode cL_look 13 = .ok (.iconst 1, 1) := by decide +kernel
theorem dL_look_14 : decode cL_look 14 = .ok (.ireturn, 1) := by decide +kernel
theorem dL_look_15 : decode cL_look 15 = .ok (.iconst 0, 1) := by decide +kernel
theorem dL_look_16 : decode cL_look 16 = .ok (.ireturn, 1) := by decide +kernel
theorem dL_law_0 : decode cL_law 0 = .ok (.new 8, 3) := by decide +kernel
theorem dL_law_3 : decode cL_law 3 = .ok (.dup, 1) := by decide +kernel
theorem dL_law_4 : decode cL_law 4 = .ok (.invokespecial 54, 3) := by decide +kernel
theorem dL_law_7 : decode cL_law 7 = .ok (.astore_n 1, 1) := by decide +kernel
theorem dL_law_8 : decode cL_law 8 = .ok (.new 55, 3) := by decide +kernel
theorem dL_law_11 : decode cL_law 11 = .ok (.dup, 1) := by decide +kernel
theorem dL_law_12 : decode cL_law 12 = .ok (.invokespecial 57, 3) := by decide +kernel
theorem dL_law_15 : decode cL_law 15 = .ok (.astore_n 2, 1) := by decide +kernel
theorem dL_law_16 : decode cL_law 16 = .ok (.iconst 1, 1) := by decide +kernel
theorem dL_law_17 : decode cL_law 17 = .ok (.newarray .long, 2) := by decide +kernel
theorem dL_law_19 : decode cL_law 19 = .ok (.astore_n 3, 1) := by decide +kernel
theorem dL_law_20 : decode cL_law 20 = .ok (.iconst 0, 1) := by decide +kernel
theorem dL_law_21 : decode cL_law 21 = .ok (.istore 4, 2) := by decide +kernel
theorem dL_law_23 : decode cL_law 23 = .ok (.iload 4, 2) := by decide +kernel
theorem dL_law_25 : decode cL_law 25 = .ok (.aload_n 0, 1) := by decide +kernel
theorem dL_law_26 : decode cL_law 26 = .ok (.arraylength, 1) := by decide +kernel
theorem dL_law_27 : decode cL_law 27 = .ok (.iconst 4, 1) := by decide +kernel
theorem dL_law_28 : decode cL_law 28 = .ok (.isub, 1) := by decide +kernel
theorem dL_law_29 : decode cL_law 29 = .ok (.if_icmp .gt 738, 3) := by decide +kernel
theorem dL_law_32 : decode cL_law 32 = .ok (.aload_n 0, 1) := by decide +kernel
theorem dL_law_33 : decode cL_law 33 = .ok (.iload 4, 2) := by decide +kernel
theorem dL_law_35 : decode cL_law 35 = .ok (.iaload, 1) := by decide +kernel
theorem dL_law_36 : decode cL_law 36 = .ok (.bipush 15, 2) := by decide +kernel
theorem dL_law_38 : decode cL_law 38 = .ok (.iand, 1) := by decide +kernel
theorem dL_law_39 : decode cL_law 39 = .ok (.tableswitch 722 0 10 #[57, 141, 221, 265, 332, 388, 443, 499, 555, 611, 666], 57) := by decide +kernel
theorem dL_law_96 : decode cL_law 96 = .ok (.aload_n 1, 1) := by decide +kernel
theorem dL_law_97 : decode cL_law 97 = .ok (.aload_n 0, 1) := by decide +kernel
theorem dL_law_98 : decode cL_law 98 = .ok (.iload 4, 2) := by decide +kernel
theorem dL_law_100 : decode cL_law 100 = .ok (.iconst 1, 1) := by decide +kernel
theorem dL_law_101 : decode cL_law 101 = .ok (.iadd, 1) := by decide +kernel
theorem dL_law_102 : decode cL_law 102 = .ok (.iaload, 1) := by decide +kernel
theorem dL_law_103 : decode cL_law 103 = .ok (.ifCond .eq 7, 3) := by decide +kernel
theorem dL_law_106 : decode cL_law 106 = .ok (.iconst 1, 1) := by decide +kernel
theorem dL_law_107 : decode cL_law 107 = .ok (.goto 4, 3) := by decide +kernel
theorem dL_law_110 : decode cL_law 110 = .ok (.iconst 0, 1) := by decide +kernel
theorem dL_law_111 : decode cL_law 111 = .ok (.aload_n 0, 1) := by decide +kernel
theorem dL_law_112 : decode cL_law 112 = .ok (.iload 4, 2) := by decide +kernel
theorem dL_law_114 : decode cL_law 114 = .ok (.iconst 2, 1) := by decide +kernel
theorem dL_law_115 : decode cL_law 115 = .ok (.iadd, 1) := by decide +kernel
theorem dL_law_116 : decode cL_law 116 = .ok (.iaload, 1) := by decide +kernel
theorem dL_law_117 : decode cL_law 117 = .ok (.aload_n 3, 1) := by decide +kernel
theorem dL_law_118 : decode cL_law 118 = .ok (.invokestatic 58, 3) := by decide +kernel
theorem dL_law_121 : decode cL_law 121 = .ok (.istore 5, 2) := by decide +kernel
theorem dL_law_123 : decode cL_law 123 = .ok (.aload_n 2, 1) := by decide +kernel
theorem dL_law_124 : decode cL_law 124 = .ok (.aload_n 0, 1) := by decide +kernel
theorem dL_law_125 : decode cL_law 125 = .ok (.iload 4, 2) := by decide +kernel
theorem dL_law_127 : decode cL_law 127 = .ok (.iconst 1, 1) := by decide +kernel
theorem dL_law_128 : decode cL_law 128 = .ok (.iadd, 1) := by decide +kernel
theorem dL_law_129 : decode cL_law 129 = .ok (.iaload, 1) := by decide +kernel
theorem dL_law_130 : decode cL_law 130 = .ok (.ifCond .eq 7, 3) := by decide +kernel
theorem dL_law_133 : decode cL_law 133 = .ok (.iconst 1, 1) := by decide +kernel
theorem dL_law_134 : decode cL_law 134 = .ok (.goto 4, 3) := by decide +kernel
theorem dL_law_137 : decode cL_law 137 = .ok (.iconst 0, 1) := by decide +kernel
theorem dL_law_138 : decode cL_law 138 = .ok (.aload_n 0, 1) := by decide +kernel
theorem dL_law_139 : decode cL_law 139 = .ok (.iload 4, 2) := by decide +kernel
theorem dL_law_141 : decode cL_law 141 = .ok (.iconst 2, 1) := by decide +kernel
theorem dL_law_142 : decode cL_law 142 = .ok (.iadd, 1) := by decide +kernel
theorem dL_law_143 : decode cL_law 143 = .ok (.iaload, 1) := by decide +kernel
theorem dL_law_144 : decode cL_law 144 = .ok (.invokevirtual 63, 3) := by decide +kernel
theorem dL_law_147 : decode cL_law 147 = .ok (.istore 6, 2) := by decide +kernel
theorem dL_law_149 : decode cL_law 149 = .ok (.aload_n 2, 1) := by decide +kernel
theorem dL_law_150 : decode cL_law 150 = .ok (.invokevirtual 64, 3) := by decide +kernel
theorem dL_law_153 : decode cL_law 153 = .ok (.iload 5, 2) := by decide +kernel
theorem dL_law_155 : decode cL_law 155 = .ok (.if_icmp .eq 5, 3) := by decide +kernel
theorem dL_law_158 : decode cL_law 158 = .ok (.iconst 0, 1) := by decide +kernel
theorem dL_law_159 : decode cL_law 159 = .ok (.ireturn, 1) := by decide +kernel
theorem dL_law_160 : decode cL_law 160 = .ok (.iload 5, 2) := by decide +kernel
theorem dL_law_162 : decode cL_law 162 = .ok (.ifCond .ne 15, 3) := by decide +kernel
theorem dL_law_165 : decode cL_law 165 = .ok (.aload_n 3, 1) := by decide +kernel
theorem dL_law_166 : decode cL_law 166 = .ok (.iconst 0, 1) := by decide +kernel
theorem dL_law_167 : decode cL_law 167 = .ok (.laload, 1) := by decide +kernel
theorem dL_law_168 : decode cL_law 168 = .ok (.iload 6, 2) := by decide +kernel
theorem dL_law_170 : decode cL_law 170 = .ok (.i2l, 1) := by decide +kernel
theorem dL_law_171 : decode cL_law 171 = .ok (.lcmp, 1) := by decide +kernel
theorem dL_law_172 : decode cL_law 172 = .ok (.ifCond .eq 5, 3) := by decide +kernel
theorem dL_law_175 : decode cL_law 175 = .ok (.iconst 0, 1) := by decide +kernel
theorem dL_law_176 : decode cL_law 176 = .ok (.ireturn, 1) := by decide +kernel
theorem dL_law_177 : decode cL_law 177 = .ok (.goto 584, 3) := by decide +kernel
theorem dL_law_180 : decode cL_law 180 = .ok (.aload_n 1, 1) := by decide +kernel
theorem dL_law_181 : decode cL_law 181 = .ok (.aload_n 0, 1) := by decide +kernel
theorem dL_law_182 : decode cL_law 182 = .ok (.iload 4, 2) := by decide +kernel
theorem dL_law_184 : decode cL_law 184 = .ok (.iconst 1, 1) := by decide +kernel
theorem dL_law_185 : decode cL_law 185 = .ok (.iadd, 1) := by decide +kernel
theorem dL_law_186 : decode cL_law 186 = .ok (.iaload, 1) := by decide +kernel
theorem dL_law_187 : decode cL_law 187 = .ok (.aload_n 0, 1) := by decide +kernel
theorem dL_law_188 : decode cL_law 188 = .ok (.iload 4, 2) := by decide +kernel
theorem dL_law_190 : decode cL_law 190 = .ok (.iconst 2, 1) := by decide +kernel
theorem dL_law_191 : decode cL_law 191 = .ok (.iadd, 1) := by decide +kernel
theorem dL_law_192 : decode cL_law 192 = .ok (.iaload, 1) := by decide +kernel
theorem dL_law_193 : decode cL_law 193 = .ok (.aload_n 0, 1) := by decide +kernel
theorem dL_law_194 : decode cL_law 194 = .ok (.iload 4, 2) := by decide +kernel
theorem dL_law_196 : decode cL_law 196 = .ok (.iconst 3, 1) := by decide +kernel
theorem dL_law_197 : decode cL_law 197 = .ok (.iadd, 1) := by decide +kernel
theorem dL_law_198 : decode cL_law 198 = .ok (.iaload, 1) := by decide +kernel
theorem dL_law_199 : decode cL_law 199 = .ok (.aload_n 3, 1) := by decide +kernel
theorem dL_law_200 : decode cL_law 200 = .ok (.invokestatic 67, 3) := by decide +kernel
theorem dL_law_203 : decode cL_law 203 = .ok (.istore 5, 2) := by decide +kernel
theorem dL_law_205 : decode cL_law 205 = .ok (.aload_n 2, 1) := by decide +kernel
theorem dL_law_206 : decode cL_law 206 = .ok (.aload_n 0, 1) := by decide +kernel
theorem dL_law_207 : decode cL_law 207 = .ok (.iload 4, 2) := by decide +kernel
theorem dL_law_209 : decode cL_law 209 = .ok (.iconst 1, 1) := by decide +kernel
theorem dL_law_210 : decode cL_law 210 = .ok (.iadd, 1) := by decide +kernel
theorem dL_law_211 : decode cL_law 211 = .ok (.iaload, 1) := by decide +kernel
theorem dL_law_212 : decode cL_law 212 = .ok (.aload_n 0, 1) := by decide +kernel
theorem dL_law_213 : decode cL_law 213 = .ok (.iload 4, 2) := by decide +kernel
theorem dL_law_215 : decode cL_law 215 = .ok (.iconst 2, 1) := by decide +kernel
theorem dL_law_216 : decode cL_law 216 = .ok (.iadd, 1) := by decide +kernel
theorem dL_law_217 : decode cL_law 217 = .ok (.iaload, 1) := by decide +kernel
theorem dL_law_218 : decode cL_law 218 = .ok (.aload_n 0, 1) := by decide +kernel
theorem dL_law_219 : decode cL_law 219 = .ok (.iload 4, 2) := by decide +kernel
theorem dL_law_221 : decode cL_law 221 = .ok (.iconst 3, 1) := by decide +kernel
theorem dL_law_222 : decode cL_law 222 = .ok (.iadd, 1) := by decide +kernel
theorem dL_law_223 : decode cL_law 223 = .ok (.iaload, 1) := by decide +kernel
theorem dL_law_224 : decode cL_law 224 = .ok (.invokevirtual 70, 3) := by decide +kernel
theorem dL_law_227 : decode cL_law 227 = .ok (.istore 6, 2) := by decide +kernel
theorem dL_law_229 : decode cL_law 229 = .ok (.aload_n 2, 1) := by decide +kernel
theorem dL_law_230 : decode cL_law 230 = .ok (.invokevirtual 64, 3) := by decide +kernel
theorem dL_law_233 : decode cL_law 233 = .ok (.iload 5, 2) := by decide +kernel
theorem dL_law_235 : decode cL_law 235 = .ok (.if_icmp .eq 5, 3) := by decide +kernel
theorem dL_law_238 : decode cL_law 238 = .ok (.iconst 0, 1) := by decide +kernel
theorem dL_law_239 : decode cL_law 239 = .ok (.ireturn, 1) := by decide +kernel
theorem dL_law_240 : decode cL_law 240 = .ok (.iload 5, 2) := by decide +kernel
theorem dL_law_242 : decode cL_law 242 = .ok (.ifCond .ne 15, 3) := by decide +kernel
theorem dL_law_245 : decode cL_law 245 = .ok (.aload_n 3, 1) := by decide +kernel
theorem dL_law_246 : decode cL_law 246 = .ok (.iconst 0, 1) := by decide +kernel
theorem dL_law_247 : decode cL_law 247 = .ok (.laload, 1) := by decide +kernel
theorem dL_law_248 : decode cL_law 248 = .ok (.iload 6, 2) := by decide +kernel
theorem dL_law_250 : decode cL_law 250 = .ok (.i2l, 1) := by decide +kernel
theorem dL_law_251 : decode cL_law 251 = .ok (.lcmp, 1) := by decide +kernel
theorem dL_law_252 : decode cL_law 252 = .ok (.ifCond .eq 5, 3) := by decide +kernel
theorem dL_law_255 : decode cL_law 255 = .ok (.iconst 0, 1) := by decide +kernel
theorem dL_law_256 : decode cL_law 256 = .ok (.ireturn, 1) := by decide +kernel
theorem dL_law_257 : decode cL_law 257 = .ok (.goto 504, 3) := by decide +kernel
theorem dL_law_260 : decode cL_law 260 = .ok (.aload_n 1, 1) := by decide +kernel
theorem dL_law_261 : decode cL_law 261 = .ok (.aload_n 3, 1) := by decide +kernel
theorem dL_law_262 : decode cL_law 262 = .ok (.invokestatic 71, 3) := by decide +kernel
theorem dL_law_265 : decode cL_law 265 = .ok (.istore 5, 2) := by decide +kernel
theorem dL_law_267 : decode cL_law 267 = .ok (.aload_n 2, 1) := by decide +kernel
theorem dL_law_268 : decode cL_law 268 = .ok (.invokevirtual 74, 3) := by decide +kernel
theorem dL_law_271 : decode cL_law 271 = .ok (.istore 6, 2) := by decide +kernel
theorem dL_law_273 : decode cL_law 273 = .ok (.aload_n 2, 1) := by decide +kernel
theorem dL_law_274 : decode cL_law 274 = .ok (.invokevirtual 64, 3) := by decide +kernel
theorem dL_law_277 : decode cL_law 277 = .ok (.iload 5, 2) := by decide +kernel
theorem dL_law_279 : decode cL_law 279 = .ok (.if_icmp .eq 5, 3) := by decide +kernel
theorem dL_law_282 : decode cL_law 282 = .ok (.iconst 0, 1) := by decide +kernel
theorem dL_law_283 : decode cL_law 283 = .ok (.ireturn, 1) := by decide +kernel
theorem dL_law_284 : decode cL_law 284 = .ok (.iload 5, 2) := by decide +kernel
theorem dL_law_286 : decode cL_law 286 = .ok (.ifCond .ne 15, 3) := by decide +kernel
theorem dL_law_289 : decode cL_law 289 = .ok (.aload_n 3, 1) := by decide +kernel
theorem dL_law_290 : decode cL_law 290 = .ok (.iconst 0, 1) := by decide +kernel
theorem dL_law_291 : decode cL_law 291 = .ok (.laload, 1) := by decide +kernel
theorem dL_law_292 : decode cL_law 292 = .ok (.iload 6, 2) := by decide +kernel
theorem dL_law_294 : decode cL_law 294 = .ok (.i2l, 1) := by decide +kernel
theorem dL_law_295 : decode cL_law 295 = .ok (.lcmp, 1) := by decide +kernel
theorem dL_law_296 : decode cL_law 296 = .ok (.ifCond .eq 5, 3) := by decide +kernel
theorem dL_law_299 : decode cL_law 299 = .ok (.iconst 0, 1) := by decide +kernel
theorem dL_law_300 : decode cL_law 300 = .ok (.ireturn, 1) := by decide +kernel
theorem dL_law_301 : decode cL_law 301 = .ok (.goto 460, 3) := by decide +kernel
theorem dL_law_304 : decode cL_law 304 = .ok (.aload_n 1, 1) := by decide +kernel
theorem dL_law_305 : decode cL_law 305 = .ok (.aload_n 0, 1) := by decide +kernel
theorem dL_law_306 : decode cL_law 306 = .ok (.iload 4, 2) := by decide +kernel
theorem dL_law_308 : decode cL_law 308 = .ok (.iconst 1, 1) := by decide +kernel
theorem dL_law_309 : decode cL_law 309 = .ok (.iadd, 1) := by decide +kernel
theorem dL_law_310 : decode cL_law 310 = .ok (.iaload, 1) := by decide +kernel
theorem dL_law_311 : decode cL_law 311 = .ok (.aload_n 0, 1) := by decide +kernel
theorem dL_law_312 : decode cL_law 312 = .ok (.iload 4, 2) := by decide +kernel
theorem dL_law_314 : decode cL_law 314 = .ok (.iconst 2, 1) := by decide +kernel
theorem dL_law_315 : decode cL_law 315 = .ok (.iadd, 1) := by decide +kernel
theorem dL_law_316 : decode cL_law 316 = .ok (.iaload, 1) := by decide +kernel
theorem dL_law_317 : decode cL_law 317 = .ok (.aload_n 3, 1) := by decide +kernel
theorem dL_law_318 : decode cL_law 318 = .ok (.invokestatic 75, 3) := by decide +kernel
theorem dL_law_321 : decode cL_law 321 = .ok (.istore 5, 2) := by decide +kernel
theorem dL_law_323 : decode cL_law 323 = .ok (.aload_n 2, 1) := by decide +kernel
theorem dL_law_324 : decode cL_law 324 = .ok (.aload_n 0, 1) := by decide +kernel
theorem dL_law_325 : decode cL_law 325 = .ok (.iload 4, 2) := by decide +kernel
theorem dL_law_327 : decode cL_law 327 = .ok (.iconst 1, 1) := by decide +kernel
theorem dL_law_328 : decode cL_law 328 = .ok (.iadd, 1) := by decide +kernel
theorem dL_law_329 : decode cL_law 329 = .ok (.iaload, 1) := by decide +kernel
theorem dL_law_330 : decode cL_law 330 = .ok (.aload_n 0, 1) := by decide +kernel
theorem dL_law_331 : decode cL_law 331 = .ok (.iload 4, 2) := by decide +kernel
theorem dL_law_333 : decode cL_law 333 = .ok (.iconst 2, 1) := by decide +kernel
theorem dL_law_334 : decode cL_law 334 = .ok (.iadd, 1) := by decide +kernel
theorem dL_law_335 : decode cL_law 335 = .ok (.iaload, 1) := by decide +kernel
theorem dL_law_336 : decode cL_law 336 = .ok (.invokevirtual 78, 3) := by decide +kernel
theorem dL_law_339 : decode cL_law 339 = .ok (.lstore 6, 2) := by decide +kernel
theorem dL_law_341 : decode cL_law 341 = .ok (.aload_n 2, 1) := by decide +kernel
theorem dL_law_342 : decode cL_law 342 = .ok (.invokevirtual 64, 3) := by decide +kernel
theorem dL_law_345 : decode cL_law 345 = .ok (.iload 5, 2) := by decide +kernel
theorem dL_law_347 : decode cL_law 347 = .ok (.if_icmp .eq 5, 3) := by decide +kernel
theorem dL_law_350 : decode cL_law 350 = .ok (.iconst 0, 1) := by decide +kernel
theorem dL_law_351 : decode cL_law 351 = .ok (.ireturn, 1) := by decide +kernel
theorem dL_law_352 : decode cL_law 352 = .ok (.iload 5, 2) := by decide +kernel
theorem dL_law_354 : decode cL_law 354 = .ok (.ifCond .ne 14, 3) := by decide +kernel
theorem dL_law_357 : decode cL_law 357 = .ok (.aload_n 3, 1) := by decide +kernel
theorem dL_law_358 : decode cL_law 358 = .ok (.iconst 0, 1) := by decide +kernel
theorem dL_law_359 : decode cL_law 359 = .ok (.laload, 1) := by decide +kernel
theorem dL_law_360 : decode cL_law 360 = .ok (.lload 6, 2) := by decide +kernel
theorem dL_law_362 : decode cL_law 362 = .ok (.lcmp, 1) := by decide +kernel
theorem dL_law_363 : decode cL_law 363 = .ok (.ifCond .eq 5, 3) := by decide +kernel
theorem dL_law_366 : decode cL_law 366 = .ok (.iconst 0, 1) := by decide +kernel
theorem dL_law_367 : decode cL_law 367 = .ok (.ireturn, 1) := by decide +kernel
theorem dL_law_368 : decode cL_law 368 = .ok (.goto 393, 3) := by decide +kernel
theorem dL_law_371 : decode cL_law 371 = .ok (.aload_n 1, 1) := by decide +kernel
theorem dL_law_372 : decode cL_law 372 = .ok (.aload_n 0, 1) := by decide +kernel
theorem dL_law_373 : decode cL_law 373 = .ok (.iload 4, 2) := by decide +kernel
theorem dL_law_375 : decode cL_law 375 = .ok (.iconst 1, 1) := by decide +kernel
theorem dL_law_376 : decode cL_law 376 = .ok (.iadd, 1) := by decide +kernel
theorem dL_law_377 : decode cL_law 377 = .ok (.iaload, 1) := by decide +kernel
theorem dL_law_378 : decode cL_law 378 = .ok (.aload_n 3, 1) := by decide +kernel
theorem dL_law_379 : decode cL_law 379 = .ok (.invokestatic 79, 3) := by decide +kernel
theorem dL_law_382 : decode cL_law 382 = .ok (.istore 5, 2) := by decide +kernel
theorem dL_law_384 : decode cL_law 384 = .ok (.aload_n 2, 1) := by decide +kernel
theorem dL_law_385 : decode cL_law 385 = .ok (.aload_n 0, 1) := by decide +kernel
theorem dL_law_386 : decode cL_law 386 = .ok (.iload 4, 2) := by decide +kernel
theorem dL_law_388 : decode cL_law 388 = .ok (.iconst 1, 1) := by decide +kernel
theorem dL_law_389 : decode cL_law 389 = .ok (.iadd, 1) := by decide +kernel
theorem dL_law_390 : decode cL_law 390 = .ok (.iaload, 1) := by decide +kernel
theorem dL_law_391 : decode cL_law 391 = .ok (.invokevirtual 82, 3) := by decide +kernel
theorem dL_law_394 : decode cL_law 394 = .ok (.istore 6, 2) := by decide +kernel
theorem dL_law_396 : decode cL_law 396 = .ok (.aload_n 2, 1) := by decide +kernel
theorem dL_law_397 : decode cL_law 397 = .ok (.invokevirtual 64, 3) := by decide +kernel
theorem dL_law_400 : decode cL_law 400 = .ok (.iload 5, 2) := by decide +kernel
theorem dL_law_402 : decode cL_law 402 = .ok (.if_icmp .eq 5, 3) := by decide +kernel
theorem dL_law_405 : decode cL_law 405 = .ok (.iconst 0, 1) := by decide +kernel
theorem dL_law_406 : decode cL_law 406 = .ok (.ireturn, 1) := by decide +kernel
theorem dL_law_407 : decode cL_law 407 = .ok (.iload 5, 2) := by decide +kernel
theorem dL_law_409 : decode cL_law 409 = .ok (.ifCond .ne 15, 3) := by decide +kernel
theorem dL_law_412 : decode cL_law 412 = .ok (.aload_n 3, 1) := by decide +kernel
theorem dL_law_413 : decode cL_law 413 = .ok (.iconst 0, 1) := by decide +kernel
theorem dL_law_414 : decode cL_law 414 = .ok (.laload, 1) := by decide +kernel
theorem dL_law_415 : decode cL_law 415 = .ok (.iload 6, 2) := by decide +kernel
theorem dL_law_417 : decode cL_law 417 = .ok (.i2l, 1) := by decide +kernel
theorem dL_law_418 : decode cL_law 418 = .ok (.lcmp, 1) := by decide +kernel
theorem dL_law_419 : decode cL_law 419 = .ok (.ifCond .eq 5, 3) := by decide +kernel
theorem dL_law_422 : decode cL_law 422 = .ok (.iconst 0, 1) := by decide +kernel
theorem dL_law_423 : decode cL_law 423 = .ok (.ireturn, 1) := by decide +kernel
theorem dL_law_424 : decode cL_law 424 = .ok (.goto 337, 3) := by decide +kernel
theorem dL_law_427 : decode cL_law 427 = .ok (.aload_n 1, 1) := by decide +kernel
theorem dL_law_428 : decode cL_law 428 = .ok (.aload_n 0, 1) := by decide +kernel
theorem dL_law_429 : decode cL_law 429 = .ok (.iload 4, 2) := by decide +kernel
theorem dL_law_431 : decode cL_law 431 = .ok (.iconst 1, 1) := by decide +kernel
theorem dL_law_432 : decode cL_law 432 = .ok (.iadd, 1) := by decide +kernel
theorem dL_law_433 : decode cL_law 433 = .ok (.iaload, 1) := by decide +kernel
theorem dL_law_434 : decode cL_law 434 = .ok (.aload_n 3, 1) := by decide +kernel
theorem dL_law_435 : decode cL_law 435 = .ok (.invokestatic 83, 3) := by decide +kernel
theorem dL_law_438 : decode cL_law 438 = .ok (.istore 5, 2) := by decide +kernel
theorem dL_law_440 : decode cL_law 440 = .ok (.aload_n 2, 1) := by decide +kernel
theorem dL_law_441 : decode cL_law 441 = .ok (.aload_n 0, 1) := by decide +kernel
theorem dL_law_442 : decode cL_law 442 = .ok (.iload 4, 2) := by decide +kernel
theorem dL_law_444 : decode cL_law 444 = .ok (.iconst 1, 1) := by decide +kernel
theorem dL_law_445 : decode cL_law 445 = .ok (.iadd, 1) := by decide +kernel
theorem dL_law_446 : decode cL_law 446 = .ok (.iaload, 1) := by decide +kernel
theorem dL_law_447 : decode cL_law 447 = .ok (.invokevirtual 85, 3) := by decide +kernel
theorem dL_law_450 : decode cL_law 450 = .ok (.lstore 6, 2) := by decide +kernel
theorem dL_law_452 : decode cL_law 452 = .ok (.aload_n 2, 1) := by decide +kernel
theorem dL_law_453 : decode cL_law 453 = .ok (.invokevirtual 64, 3) := by decide +kernel
theorem dL_law_456 : decode cL_law 456 = .ok (.iload 5, 2) := by decide +kernel
theorem dL_law_458 : decode cL_law 458 = .ok (.if_icmp .eq 5, 3) := by decide +kernel
theorem dL_law_461 : decode cL_law 461 = .ok (.iconst 0, 1) := by decide +kernel
theorem dL_law_462 : decode cL_law 462 = .ok (.ireturn, 1) := by decide +kernel
theorem dL_law_463 : decode cL_law 463 = .ok (.iload 5, 2) := by decide +kernel
theorem dL_law_465 : decode cL_law 465 = .ok (.ifCond .ne 14, 3) := by decide +kernel
theorem dL_law_468 : decode cL_law 468 = .ok (.aload_n 3, 1) := by decide +kernel
theorem dL_law_469 : decode cL_law 469 = .ok (.iconst 0, 1) := by decide +kernel
theorem dL_law_470 : decode cL_law 470 = .ok (.laload, 1) := by decide +kernel
theorem dL_law_471 : decode cL_law 471 = .ok (.lload 6, 2) := by decide +kernel
theorem dL_law_473 : decode cL_law 473 = .ok (.lcmp, 1) := by decide +kernel
theorem dL_law_474 : decode cL_law 474 = .ok (.ifCond .eq 5, 3) := by decide +kernel
theorem dL_law_477 : decode cL_law 477 = .ok (.iconst 0, 1) := by decide +kernel
theorem dL_law_478 : decode cL_law 478 = .ok (.ireturn, 1) := by decide +kernel
theorem dL_law_479 : decode cL_law 479 = .ok (.goto 282, 3) := by decide +kernel
theorem dL_law_482 : decode cL_law 482 = .ok (.aload_n 1, 1) := by decide +kernel
theorem dL_law_483 : decode cL_law 483 = .ok (.aload_n 0, 1) := by decide +kernel
theorem dL_law_484 : decode cL_law 484 = .ok (.iload 4, 2) := by decide +kernel
theorem dL_law_486 : decode cL_law 486 = .ok (.iconst 1, 1) := by decide +kernel
theorem dL_law_487 : decode cL_law 487 = .ok (.iadd, 1) := by decide +kernel
theorem dL_law_488 : decode cL_law 488 = .ok (.iaload, 1) := by decide +kernel
theorem dL_law_489 : decode cL_law 489 = .ok (.aload_n 3, 1) := by decide +kernel
theorem dL_law_490 : decode cL_law 490 = .ok (.invokestatic 86, 3) := by decide +kernel
theorem dL_law_493 : decode cL_law 493 = .ok (.istore 5, 2) := by decide +kernel
theorem dL_law_495 : decode cL_law 495 = .ok (.aload_n 2, 1) := by decide +kernel
theorem dL_law_496 : decode cL_law 496 = .ok (.aload_n 0, 1) := by decide +kernel
theorem dL_law_497 : decode cL_law 497 = .ok (.iload 4, 2) := by decide +kernel
theorem dL_law_499 : decode cL_law 499 = .ok (.iconst 1, 1) := by decide +kernel
theorem dL_law_500 : decode cL_law 500 = .ok (.iadd, 1) := by decide +kernel
theorem dL_law_501 : decode cL_law 501 = .ok (.iaload, 1) := by decide +kernel
theorem dL_law_502 : decode cL_law 502 = .ok (.invokevirtual 88, 3) := by decide +kernel
theorem dL_law_505 : decode cL_law 505 = .ok (.istore 6, 2) := by decide +kernel
theorem dL_law_507 : decode cL_law 507 = .ok (.aload_n 2, 1) := by decide +kernel
theorem dL_law_508 : decode cL_law 508 = .ok (.invokevirtual 64, 3) := by decide +kernel
theorem dL_law_511 : decode cL_law 511 = .ok (.iload 5, 2) := by decide +kernel
theorem dL_law_513 : decode cL_law 513 = .ok (.if_icmp .eq 5, 3) := by decide +kernel
theorem dL_law_516 : decode cL_law 516 = .ok (.iconst 0, 1) := by decide +kernel
theorem dL_law_517 : decode cL_law 517 = .ok (.ireturn, 1) := by decide +kernel
theorem dL_law_518 : decode cL_law 518 = .ok (.iload 5, 2) := by decide +kernel
theorem dL_law_520 : decode cL_law 520 = .ok (.ifCond .ne 15, 3) := by decide +kernel
theorem dL_law_523 : decode cL_law 523 = .ok (.aload_n 3, 1) := by decide +kernel
theorem dL_law_524 : decode cL_law 524 = .ok (.iconst 0, 1) := by decide +kernel
theorem dL_law_525 : decode cL_law 525 = .ok (.laload, 1) := by decide +kernel
theorem dL_law_526 : decode cL_law 526 = .ok (.iload 6, 2) := by decide +kernel
theorem dL_law_528 : decode cL_law 528 = .ok (.i2l, 1) := by decide +kernel
theorem dL_law_529 : decode cL_law 529 = .ok (.lcmp, 1) := by decide +kernel
theorem dL_law_530 : decode cL_law 530 = .ok (.ifCond .eq 5, 3) := by decide +kernel
theorem dL_law_533 : decode cL_law 533 = .ok (.iconst 0, 1) := by decide +kernel
theorem dL_law_534 : decode cL_law 534 = .ok (.ireturn, 1) := by decide +kernel
theorem dL_law_535 : decode cL_law 535 = .ok (.goto 226, 3) := by decide +kernel
theorem dL_law_538 : decode cL_law 538 = .ok (.aload_n 1, 1) := by decide +kernel
theorem dL_law_539 : decode cL_law 539 = .ok (.aload_n 0, 1) := by decide +kernel
theorem dL_law_540 : decode cL_law 540 = .ok (.iload 4, 2) := by decide +kernel
theorem dL_law_542 : decode cL_law 542 = .ok (.iconst 1, 1) := by decide +kernel
theorem dL_law_543 : decode cL_law 543 = .ok (.iadd, 1) := by decide +kernel
theorem dL_law_544 : decode cL_law 544 = .ok (.iaload, 1) := by decide +kernel
theorem dL_law_545 : decode cL_law 545 = .ok (.aload_n 3, 1) := by decide +kernel
theorem dL_law_546 : decode cL_law 546 = .ok (.invokestatic 89, 3) := by decide +kernel
theorem dL_law_549 : decode cL_law 549 = .ok (.istore 5, 2) := by decide +kernel
theorem dL_law_551 : decode cL_law 551 = .ok (.aload_n 2, 1) := by decide +kernel
theorem dL_law_552 : decode cL_law 552 = .ok (.aload_n 0, 1) := by decide +kernel
theorem dL_law_553 : decode cL_law 553 = .ok (.iload 4, 2) := by decide +kernel
theorem dL_law_555 : decode cL_law 555 = .ok (.iconst 1, 1) := by decide +kernel
theorem dL_law_556 : decode cL_law 556 = .ok (.iadd, 1) := by decide +kernel
theorem dL_law_557 : decode cL_law 557 = .ok (.iaload, 1) := by decide +kernel
theorem dL_law_558 : decode cL_law 558 = .ok (.invokevirtual 91, 3) := by decide +kernel
theorem dL_law_561 : decode cL_law 561 = .ok (.istore 6, 2) := by decide +kernel
theorem dL_law_563 : decode cL_law 563 = .ok (.aload_n 2, 1) := by decide +kernel
theorem dL_law_564 : decode cL_law 564 = .ok (.invokevirtual 64, 3) := by decide +kernel
theorem dL_law_567 : decode cL_law 567 = .ok (.iload 5, 2) := by decide +kernel
theorem dL_law_569 : decode cL_law 569 = .ok (.if_icmp .eq 5, 3) := by decide +kernel
theorem dL_law_572 : decode cL_law 572 = .ok (.iconst 0, 1) := by decide +kernel
theorem dL_law_573 : decode cL_law 573 = .ok (.ireturn, 1) := by decide +kernel
theorem dL_law_574 : decode cL_law 574 = .ok (.iload 5, 2) := by decide +kernel
theorem dL_law_576 : decode cL_law 576 = .ok (.ifCond .ne 15, 3) := by decide +kernel
theorem dL_law_579 : decode cL_law 579 = .ok (.aload_n 3, 1) := by decide +kernel
theorem dL_law_580 : decode cL_law 580 = .ok (.iconst 0, 1) := by decide +kernel
theorem dL_law_581 : decode cL_law 581 = .ok (.laload, 1) := by decide +kernel
theorem dL_law_582 : decode cL_law 582 = .ok (.iload 6, 2) := by decide +kernel
theorem dL_law_584 : decode cL_law 584 = .ok (.i2l, 1) := by decide +kernel
theorem dL_law_585 : decode cL_law 585 = .ok (.lcmp, 1) := by decide +kernel
theorem dL_law_586 : decode cL_law 586 = .ok (.ifCond .eq 5, 3) := by decide +kernel
theorem dL_law_589 : decode cL_law 589 = .ok (.iconst 0, 1) := by decide +kernel
theorem dL_law_590 : decode cL_law 590 = .ok (.ireturn, 1) := by decide +kernel
theorem dL_law_591 : decode cL_law 591 = .ok (.goto 170, 3) := by decide +kernel
theorem dL_law_594 : decode cL_law 594 = .ok (.aload_n 1, 1) := by decide +kernel
theorem dL_law_595 : decode cL_law 595 = .ok (.aload_n 0, 1) := by decide +kernel
theorem dL_law_596 : decode cL_law 596 = .ok (.iload 4, 2) := by decide +kernel
theorem dL_law_598 : decode cL_law 598 = .ok (.iconst 1, 1) := by decide +kernel
theorem dL_law_599 : decode cL_law 599 = .ok (.iadd, 1) := by decide +kernel
theorem dL_law_600 : decode cL_law 600 = .ok (.iaload, 1) := by decide +kernel
theorem dL_law_601 : decode cL_law 601 = .ok (.aload_n 3, 1) := by decide +kernel
theorem dL_law_602 : decode cL_law 602 = .ok (.invokestatic 92, 3) := by decide +kernel
theorem dL_law_605 : decode cL_law 605 = .ok (.istore 5, 2) := by decide +kernel
theorem dL_law_607 : decode cL_law 607 = .ok (.aload_n 2, 1) := by decide +kernel
theorem dL_law_608 : decode cL_law 608 = .ok (.aload_n 0, 1) := by decide +kernel
theorem dL_law_609 : decode cL_law 609 = .ok (.iload 4, 2) := by decide +kernel
theorem dL_law_611 : decode cL_law 611 = .ok (.iconst 1, 1) := by decide +kernel
theorem dL_law_612 : decode cL_law 612 = .ok (.iadd, 1) := by decide +kernel
theorem dL_law_613 : decode cL_law 613 = .ok (.iaload, 1) := by decide +kernel
theorem dL_law_614 : decode cL_law 614 = .ok (.invokevirtual 94, 3) := by decide +kernel
theorem dL_law_617 : decode cL_law 617 = .ok (.istore 6, 2) := by decide +kernel
theorem dL_law_619 : decode cL_law 619 = .ok (.aload_n 2, 1) := by decide +kernel
theorem dL_law_620 : decode cL_law 620 = .ok (.invokevirtual 64, 3) := by decide +kernel
theorem dL_law_623 : decode cL_law 623 = .ok (.iload 5, 2) := by decide +kernel
theorem dL_law_625 : decode cL_law 625 = .ok (.if_icmp .eq 5, 3) := by decide +kernel
theorem dL_law_628 : decode cL_law 628 = .ok (.iconst 0, 1) := by decide +kernel
theorem dL_law_629 : decode cL_law 629 = .ok (.ireturn, 1) := by decide +kernel
theorem dL_law_630 : decode cL_law 630 = .ok (.iload 5, 2) := by decide +kernel
theorem dL_law_632 : decode cL_law 632 = .ok (.ifCond .ne 15, 3) := by decide +kernel
theorem dL_law_635 : decode cL_law 635 = .ok (.aload_n 3, 1) := by decide +kernel
theorem dL_law_636 : decode cL_law 636 = .ok (.iconst 0, 1) := by decide +kernel
theorem dL_law_637 : decode cL_law 637 = .ok (.laload, 1) := by decide +kernel
theorem dL_law_638 : decode cL_law 638 = .ok (.iload 6, 2) := by decide +kernel
theorem dL_law_640 : decode cL_law 640 = .ok (.i2l, 1) := by decide +kernel
theorem dL_law_641 : decode cL_law 641 = .ok (.lcmp, 1) := by decide +kernel
theorem dL_law_642 : decode cL_law 642 = .ok (.ifCond .eq 5, 3) := by decide +kernel
theorem dL_law_645 : decode cL_law 645 = .ok (.iconst 0, 1) := by decide +kernel
theorem dL_law_646 : decode cL_law 646 = .ok (.ireturn, 1) := by decide +kernel
theorem dL_law_647 : decode cL_law 647 = .ok (.goto 114, 3) := by decide +kernel
theorem dL_law_650 : decode cL_law 650 = .ok (.aload_n 1, 1) := by decide +kernel
theorem dL_law_651 : decode cL_law 651 = .ok (.aload_n 0, 1) := by decide +kernel
theorem dL_law_652 : decode cL_law 652 = .ok (.iload 4, 2) := by decide +kernel
theorem dL_law_654 : decode cL_law 654 = .ok (.iconst 1, 1) := by decide +kernel
theorem dL_law_655 : decode cL_law 655 = .ok (.iadd, 1) := by decide +kernel
theorem dL_law_656 : decode cL_law 656 = .ok (.iaload, 1) := by decide +kernel
theorem dL_law_657 : decode cL_law 657 = .ok (.aload_n 3, 1) := by decide +kernel
theorem dL_law_658 : decode cL_law 658 = .ok (.invokestatic 95, 3) := by decide +kernel
theorem dL_law_661 : decode cL_law 661 = .ok (.istore 5, 2) := by decide +kernel
theorem dL_law_663 : decode cL_law 663 = .ok (.aload_n 2, 1) := by decide +kernel
theorem dL_law_664 : decode cL_law 664 = .ok (.aload_n 0, 1) := by decide +kernel
theorem dL_law_665 : decode cL_law 665 = .ok (.iload 4, 2) := by decide +kernel
theorem dL_law_667 : decode cL_law 667 = .ok (.iconst 1, 1) := by decide +kernel
theorem dL_law_668 : decode cL_law 668 = .ok (.iadd, 1) := by decide +kernel
theorem dL_law_669 : decode cL_law 669 = .ok (.iaload, 1) := by decide +kernel
theorem dL_law_670 : decode cL_law 670 = .ok (.invokevirtual 97, 3) := by decide +kernel
theorem dL_law_673 : decode cL_law 673 = .ok (.lstore 6, 2) := by decide +kernel
theorem dL_law_675 : decode cL_law 675 = .ok (.aload_n 2, 1) := by decide +kernel
theorem dL_law_676 : decode cL_law 676 = .ok (.invokevirtual 64, 3) := by decide +kernel
theorem dL_law_679 : decode cL_law 679 = .ok (.iload 5, 2) := by decide +kernel
theorem dL_law_681 : decode cL_law 681 = .ok (.if_icmp .eq 5, 3) := by decide +kernel
theorem dL_law_684 : decode cL_law 684 = .ok (.iconst 0, 1) := by decide +kernel
theorem dL_law_685 : decode cL_law 685 = .ok (.ireturn, 1) := by decide +kernel
theorem dL_law_686 : decode cL_law 686 = .ok (.iload 5, 2) := by decide +kernel
theorem dL_law_688 : decode cL_law 688 = .ok (.ifCond .ne 14, 3) := by decide +kernel
theorem dL_law_691 : decode cL_law 691 = .ok (.aload_n 3, 1) := by decide +kernel
theorem dL_law_692 : decode cL_law 692 = .ok (.iconst 0, 1) := by decide +kernel
theorem dL_law_693 : decode cL_law 693 = .ok (.laload, 1) := by decide +kernel
theorem dL_law_694 : decode cL_law 694 = .ok (.lload 6, 2) := by decide +kernel
theorem dL_law_696 : decode cL_law 696 = .ok (.lcmp, 1) := by decide +kernel
theorem dL_law_697 : decode cL_law 697 = .ok (.ifCond .eq 5, 3) := by decide +kernel
theorem dL_law_700 : decode cL_law 700 = .ok (.iconst 0, 1) := by decide +kernel
theorem dL_law_701 : decode cL_law 701 = .ok (.ireturn, 1) := by decide +kernel
theorem dL_law_702 : decode cL_law 702 = .ok (.goto 59, 3) := by decide +kernel
theorem dL_law_705 : decode cL_law 705 = .ok (.aload_n 1, 1) := by decide +kernel
theorem dL_law_706 : decode cL_law 706 = .ok (.aload_n 0, 1) := by decide +kernel
theorem dL_law_707 : decode cL_law 707 = .ok (.iload 4, 2) := by decide +kernel
theorem dL_law_709 : decode cL_law 709 = .ok (.iconst 1, 1) := by decide +kernel
theorem dL_law_710 : decode cL_law 710 = .ok (.iadd, 1) := by decide +kernel
theorem dL_law_711 : decode cL_law 711 = .ok (.iaload, 1) := by decide +kernel
theorem dL_law_712 : decode cL_law 712 = .ok (.aload_n 3, 1) := by decide +kernel
theorem dL_law_713 : decode cL_law 713 = .ok (.invokestatic 98, 3) := by decide +kernel
theorem dL_law_716 : decode cL_law 716 = .ok (.istore 5, 2) := by decide +kernel
theorem dL_law_718 : decode cL_law 718 = .ok (.aload_n 2, 1) := by decide +kernel
theorem dL_law_719 : decode cL_law 719 = .ok (.aload_n 0, 1) := by decide +kernel
theorem dL_law_720 : decode cL_law 720 = .ok (.iload 4, 2) := by decide +kernel
theorem dL_law_722 : decode cL_law 722 = .ok (.iconst 1, 1) := by decide +kernel
theorem dL_law_723 : decode cL_law 723 = .ok (.iadd, 1) := by decide +kernel
theorem dL_law_724 : decode cL_law 724 = .ok (.iaload, 1) := by decide +kernel
theorem dL_law_725 : decode cL_law 725 = .ok (.invokevirtual 100, 3) := by decide +kernel
theorem dL_law_728 : decode cL_law 728 = .ok (.istore 6, 2) := by decide +kernel
theorem dL_law_730 : decode cL_law 730 = .ok (.aload_n 2, 1) := by decide +kernel
theorem dL_law_731 : decode cL_law 731 = .ok (.invokevirtual 64, 3) := by decide +kernel
theorem dL_law_734 : decode cL_law 734 = .ok (.iload 5, 2) := by decide +kernel
theorem dL_law_736 : decode cL_law 736 = .ok (.if_icmp .eq 5, 3) := by decide +kernel
theorem dL_law_739 : decode cL_law 739 = .ok (.iconst 0, 1) := by decide +kernel
theorem dL_law_740 : decode cL_law 740 = .ok (.ireturn, 1) := by decide +kernel
theorem dL_law_741 : decode cL_law 741 = .ok (.iload 5, 2) := by decide +kernel
theorem dL_law_743 : decode cL_law 743 = .ok (.ifCond .ne 15, 3) := by decide +kernel
theorem dL_law_746 : decode cL_law 746 = .ok (.aload_n 3, 1) := by decide +kernel
theorem dL_law_747 : decode cL_law 747 = .ok (.iconst 0, 1) := by decide +kernel
theorem dL_law_748 : decode cL_law 748 = .ok (.laload, 1) := by decide +kernel
theorem dL_law_749 : decode cL_law 749 = .ok (.iload 6, 2) := by decide +kernel
theorem dL_law_751 : decode cL_law 751 = .ok (.i2l, 1) := by decide +kernel
theorem dL_law_752 : decode cL_law 752 = .ok (.lcmp, 1) := by decide +kernel
theorem dL_law_753 : decode cL_law 753 = .ok (.ifCond .eq 5, 3) := by decide +kernel
theorem dL_law_756 : decode cL_law 756 = .ok (.iconst 0, 1) := by decide +kernel
theorem dL_law_757 : decode cL_law 757 = .ok (.ireturn, 1) := by decide +kernel
theorem dL_law_758 : decode cL_law 758 = .ok (.goto 3, 3) := by decide +kernel
theorem dL_law_761 : decode cL_law 761 = .ok (.iinc 4 4, 3) := by decide +kernel
theorem dL_law_764 : decode cL_law 764 = .ok (.goto (-741), 3) := by decide +kernel
theorem dL_law_767 : decode cL_law 767 = .ok (.iconst 1, 1) := by decide +kernel
theorem dL_law_768 : decode cL_law 768 = .ok (.ireturn, 1) := by decide +kernel
end
section
/-! contracts and calls in one form: a world is a list of cells in a fixed order; a method reads it, or turns it into another list of the same addresses -/
abbrev zT (cA : Nat → ClassId) : List (ClassId × FieldType) := [(cA 0, .int), (cA 1, .long), (cA 2, .boolean), (cA 3, .array .long)]
abbrev aI (cA : Nat → ClassId) (n : Nat) (f : Nat → Int32) : va_E := .inl (cA 0, n, .inl f)
abbrev aJ (cA : Nat → ClassId) (n : Nat) (f : Nat → Int64) : va_E := .inl (cA 1, n, .inr (.inl f))
abbrev aZ (cA : Nat → ClassId) (n : Nat) (f : Nat → Int32) : va_E := .inl (cA 2, n, .inl f)
abbrev aG (cA : Nat → ClassId) (n : Nat) (f : Nat → Option Nat) : va_E := .inl (cA 3, n, .inr (.inr (.inr (.inr f))))
/-- what a reading method may take as given -/
def zRd (D : va_G) (cl : List vw_C) (ty : List (ClassId × FieldType)) (wc : va_W) (av : List Value) : Array Value → State → Prop := va_Pc av (fun U => va_P D cl wc U.heap ∧ va_K D cl ty U)
/-- what a writing method may take as given -/
def zWr (D : va_G) (cl : List vw_C) (ty : List (ClassId × FieldType)) (wc : va_W) (sz : Nat) (av : List Value) : Array Value → State → Prop := va_Pc av (fun U => U.heap.size = sz ∧ va_P D cl wc U.heap ∧ va_K D cl ty U ∧ va_D (fun _ => True) wc)
def zQv (D : va_G) (cl : List vw_C) (ty : List (ClassId × FieldType)) (A : Nat → Prop) (w1 : va_W) : Array Value → State → Outcome → State → Prop := va_Qv (fun _ : Unit => True) (fun _ t => va_P D cl w1 t.heap ∧ va_K D cl ty t ∧ va_D A w1) A
def zQi (D : va_G) (cl : List vw_C) (ty : List (ClassId × FieldType)) (A : Nat → Prop) (w1 : va_W) (v : Int32) : Array Value → State → Outcome → State → Prop := va_Qi (fun r (_ : Unit) => r = v) (fun _ t => va_P D cl w1 t.heap ∧ va_K D cl ty t ∧ va_D A w1) A
def zQl (D : va_G) (cl : List vw_C) (ty : List (ClassId × FieldType)) (A : Nat → Prop) (w1 : va_W) (v : Int64) : Array Value → State → Outcome → State → Prop := va_Ql (fun r (_ : Unit) => r = v) (fun _ t => va_P D cl w1 t.heap ∧ va_K D cl ty t ∧ va_D A w1) A
section ZF
variable {l : Launch} {D : va_G} {cl : List vw_C} {ty : List (ClassId × FieldType)} {wc : va_W} {av : List Value}
theorem zRd_blind : FrameBlind (zRd D cl ty wc av) := fun a U g mk q => by
  obtain ⟨q0, qP, qK⟩ := q
  exact ⟨q0, qP, va_K.moved (u := U) (U := U.calling g mk a) (Vm.Alike.refl U.vm) qK⟩
theorem zWr_blind {sz : Nat} : FrameBlind (zWr D cl ty wc sz av) := fun a U g mk q => by
  obtain ⟨q0, q1, qP, qK, qD⟩ := q
  exact ⟨q0, q1, qP, va_K.moved (u := U) (U := U.calling g mk a) (Vm.Alike.refl U.vm) qK, qD⟩
theorem z_read {y : MethodName} {ws ws' : List Cond} {rm : Room} {Qc : Array Value → State → Outcome → State → Prop} {cc : ByteArray} {maxL : Nat} {ret : Option FieldType}
    (hy : plainName y.cls = true) (hw : ws = Cond.code y cc maxL ret :: ws') (hlen : (lg_sl av).length ≤ maxL)
    (body : ∀ (p : Program) (e : Env) (s : State) (m : MethodId) (below : List Frame) (meth : Method) (c : Code), p.tables.exec = Jvm.exec → c.code = cc → meth.sig.returnType = ret → c.maxLocals = maxL → s.vm.findClass y.cls = some m.cls → (∀ w ∈ ws, w.before av.toArray s = true) → meth.locks = false →
      va_P D cl wc s.heap → va_K D cl ty s → ∀ Q : State → Prop, Q = MQ below Qc av.toArray s 0 0 (fun _ => False) → ∀ ls : Array Slot, lv_has ls maxL (lv_args 0 av) → W p l e rm s m av.toArray below meth c s.heap [] 0 0 Q (F0 m 0 ls [])) :
    Met l y ws rm (zRd D cl ty wc av) Qc 0 0 (fun _ => False) := by
  refine Met.ofW (cc := cc) (maxL := maxL) (ret := ret) hy hw ?_
  intro p e s m args below meth c s₁ B hml hv
  obtain ⟨rfl, hP, hK⟩ := hv
  rw [lg_entry_eq]
  exact body p e s m below meth c B.exec B.bytes B.returns hml (findClass_of_methodNamed B.named) (atoms_spec (ws := ws) B.pre) B.notSynchronized hP hK _ rfl _ (lv_entry av hlen)
theorem z_write {y : MethodName} {ws ws' : List Cond} {rm : Room} {Qc : Array Value → State → Outcome → State → Prop} {cc : ByteArray} {maxL sz mc ms : Nat} {ret : Option FieldType}
    (hy : plainName y.cls = true) (hw : ws = Cond.code y cc maxL ret :: ws') (hlen : (lg_sl av).length ≤ maxL)
    (body : ∀ (p : Program) (e : Env) (s : State) (m : MethodId) (below : List Frame) (meth : Method) (c : Code), p.tables.exec = Jvm.exec → c.code = cc → meth.sig.returnType = ret → c.maxLocals = maxL → s.vm.findClass y.cls = some m.cls → (∀ w ∈ ws, w.before av.toArray s = true) → meth.locks = false →
      ∀ A : Nat → Prop, A = va_A wc sz → (∀ q : Nat, s.heap.size ≤ q → A q) → ∀ (H : Heap) (locs : List Loc), va_P D cl wc H → va_K D cl ty s → va_D A wc → va_S A s.heap H locs → (y.name = "<init>" → meth.name = "<init>") → ∀ Q : State → Prop, Q = MQ below Qc av.toArray s mc ms A → ∀ ls : Array Slot, lv_has ls maxL (lv_args 0 av) → W p l e rm s m av.toArray below meth c H locs 0 0 Q (F0 m 0 ls [])) :
    Met l y ws rm (zWr D cl ty wc sz av) Qc mc ms (va_A wc sz) := by
  refine Met.ofW (cc := cc) (maxL := maxL) (ret := ret) hy hw ?_
  intro p e s m args below meth c s₁ B hml hv
  obtain ⟨rfl, hsz, hP, hK, hD⟩ := hv
  rw [lg_entry_eq]
  exact body p e s m below meth c B.exec B.bytes B.returns hml (findClass_of_methodNamed B.named) (atoms_spec (ws := ws) B.pre) B.notSynchronized (va_A wc sz) rfl (fun q h => Or.inr (hsz ▸ h)) s.heap [] hP hK (hD.self (sz := sz)) va_S.rf (fun h => (name_of_methodNamed B.named B.method).1.trans h) _ rfl _ (lv_entry av hlen)
end ZF
section ZC
variable {p : Program} {l : Launch} {e : Env} {R : Room} {s : State} {m : MethodId} {args : Array Value} {below : List Frame} {meth : Method} {c : Code} {H : Heap} {locs : List Loc} {cells slots : Nat} {Q : State → Prop}
variable {y : MethodName} {bytes cc : ByteArray} {maxL nL n index : Nat} {ret : Option FieldType} {wk : List Cond} {rm : Room} {Ts : List Cond} {own C : String} {b : Addr} {As rest : List Value} {pc : Nat} {ls : Array Slot} {st : List Value}
variable {D : va_G} {cl : List vw_C} {ty : List (ClassId × FieldType)} {wc ws w1 wr ws' : va_W} {A : Nat → Prop} {H0 : Heap} {T : u_T} {N : Nat} {fs : List Value}
/-- a reading method that answers an int, called on an object -/
theorem z_cRVi {post : Int32 → Prop} (S : CallFix p m c cc nL s args Ts own) (hM : Met l y wk rm (zRd D cl ty wc (.ref b :: As)) (vp_Si post) 0 0 (fun _ => False)) (cw : CallW R s args own C index y bytes maxL ret wk rm 0 0 n) (hP : va_P D cl ws H) (hK : va_K D cl ty s) (isC : List Nat) (hC : isC.filterMap (fun i => ws[i]?) = wc) (ci q0 : Nat) (hcl : cl[ci]? = some (C, T, N)) (he : wc[q0]? = some (b, .inr (ci, fs)))
    (hn : As.length = n) (hl : ls.size = nL) (hst : st = As.reverse ++ .ref b :: rest) (hw : (rest.map fun v => v.category).sum ≤ 8) (hf : cells ≤ R.cells ∧ slots ≤ R.slots) (hdg : decode cc pc = .ok (.invokevirtual index, 3))
    (kk : ∀ r : Int32, post r → W p l e R s m args below meth c H locs cells slots Q (F0 m (pc + 3) ls (.int r :: rest))) : W p l e R s m args below meth c H locs cells slots Q (F0 m pc ls st) := by
  have hPc := hP.sub isC hC
  refine vp_callSi (W.runV (As := As) (rest := rest) S hM cw ⟨zRd_blind, va_recv hK hPc hcl he, fun U hU hW => ⟨rfl, by rw [hU]; exact hPc, va_K.moved hW.alike hK⟩⟩ rfl hn hl hst (lv_room hw) hdg hf) kk
/-- a reading static method that answers an int -/
theorem z_cRSi {post : Int32 → Prop} (S : CallFix p m c cc nL s args Ts own) (hM : Met l y wk rm (zRd D cl ty wc As) (vp_Si post) 0 0 (fun _ => False)) (cw : CallB R s args own index y bytes maxL ret wk rm 0 0 n ∧ (Cond.static y).before args s = true) (hP : va_P D cl ws H) (hK : va_K D cl ty s) (isC : List Nat) (hC : isC.filterMap (fun i => ws[i]?) = wc)
    (hn : As.length = n) (hl : ls.size = nL) (hst : st = As.reverse ++ rest) (hw : (rest.map fun v => v.category).sum ≤ 8) (hf : cells ≤ R.cells ∧ slots ≤ R.slots) (hdg : decode cc pc = .ok (.invokestatic index, 3))
    (kk : ∀ r : Int32, post r → W p l e R s m args below meth c H locs cells slots Q (F0 m (pc + 3) ls (.int r :: rest))) : W p l e R s m args below meth c H locs cells slots Q (F0 m pc ls st) := by
  have hPc := hP.sub isC hC
  refine vp_callSi (W.runS (As := As) (rest := rest) S hM cw ⟨zRd_blind, fun U hU hW => ⟨rfl, by rw [hU]; exact hPc, va_K.moved hW.alike hK⟩⟩ rfl hn hl hst (lv_room hw) hdg hf) kk
/-- the caller's world behind a writing call, in the caller's own order -/
theorem z_back {H1 : Heap} {t : State} (hP : va_P D cl ws H) (hD : va_D A ws) (isC isR pm : List Nat) (hC : isC.map (fun i => ws[i]?) = wc.map some) (hR : isR.map (fun i => ws[i]?) = wr.map some) (hnd : va_nd isR = true) (hdis : ∀ i ∈ isR, i ∉ isC) (hF : ∀ q, va_A wc H.size q → A q) (hpn : va_nd pm = true) (hpm : pm.map (fun i => (wr ++ w1)[i]?) = ws'.map some) (hpf : pm.filterMap (fun i => (wr ++ w1)[i]?) = ws')
    (hk : ∀ q : Nat, q < H.size → ¬ va_A wc H.size q → H1[q]? = H[q]?) (ht : t.heap = H1) (hP1 : va_P D cl w1 t.heap) (hD1 : va_D (va_A wc H.size) w1) : va_P D cl ws' H1 ∧ va_D A ws' := by
  rw [ht] at hP1
  obtain ⟨a1, a2⟩ := va_join (wr := wr) (w1 := w1) hP hD isC isR hC hR hnd hdis hk hF hP1 hD1
  exact ⟨a1.sub pm hpf, a2.sub pm hpn hpm⟩
/-- a writing method without an answer, called on an object -/
theorem z_cWVv (S : CallFix p m c cc nL s args Ts own) (hM : Met l y wk rm (zWr D cl ty wc H.size (.ref b :: As)) (zQv D cl ty (va_A wc H.size) w1) 0 0 (va_A wc H.size)) (cw : CallW R s args own C index y bytes maxL ret wk rm 0 0 n) (hP : va_P D cl ws H) (hK : va_K D cl ty s) (hD : va_D A ws) (hS : va_S A H0 H locs) (hA : ∀ q, H0.size ≤ q → A q) (isC isR pm : List Nat) (hC : isC.map (fun i => ws[i]?) = wc.map some) (hCf : isC.filterMap (fun i => ws[i]?) = wc) (hnC : va_nd isC = true) (hR : isR.map (fun i => ws[i]?) = wr.map some) (hnd : va_nd isR = true) (hdis : ∀ i ∈ isR, i ∉ isC) (hpn : va_nd pm = true) (hpm : pm.map (fun i => (wr ++ w1)[i]?) = ws'.map some) (hpf : pm.filterMap (fun i => (wr ++ w1)[i]?) = ws')
    (ci q0 : Nat) (hcl : cl[ci]? = some (C, T, N)) (he : wc[q0]? = some (b, .inr (ci, fs)))
    (hn : As.length = n) (hl : ls.size = nL) (hst : st = As.reverse ++ .ref b :: rest) (hw : (rest.map fun v => v.category).sum ≤ 8) (hf : cells ≤ R.cells ∧ slots ≤ R.slots) (hdg : decode cc pc = .ok (.invokevirtual index, 3))
    (kk : ∀ (H : Heap) (locs : List Loc), va_P D cl ws' H → va_D A ws' → va_S A H0 H locs → W p l e R s m args below meth c H locs cells slots Q (F0 m (pc + 3) ls rest)) : W p l e R s m args below meth c H locs cells slots Q (F0 m pc ls st) := by
  have hPc := hP.sub isC hCf
  have hDc := hD.sub isC hnC hC
  have hFc := va_free (wc := wc) hD hS hA isC hC
  refine va_callv (va_runV (As := As) (rest := rest) S hM cw ⟨zWr_blind, va_recv hK hPc hcl he, fun U hU hW => ⟨rfl, by rw [hU], by rw [hU]; exact hPc, va_K.moved hW.alike hK, hDc.weaken (fun _ _ _ _ => trivial)⟩⟩ rfl hn hl hst (lv_room hw) hdg hf) hS (fun q _ h => hFc q h) hFc (fun u t H1 locs1 ht hvm _ hB hz1 hk1 hS1 => ?_)
  obtain ⟨hP1, hK1, hD1⟩ := hB
  obtain ⟨a1, a2⟩ := z_back hP hD isC isR pm hC hR hnd hdis hFc hpn hpm hpf hk1 ht hP1 hD1
  exact kk H1 locs1 a1 a2 hS1
theorem z_cWVi {v : Int32} (S : CallFix p m c cc nL s args Ts own) (hM : Met l y wk rm (zWr D cl ty wc H.size (.ref b :: As)) (zQi D cl ty (va_A wc H.size) w1 v) 0 0 (va_A wc H.size)) (cw : CallW R s args own C index y bytes maxL ret wk rm 0 0 n) (hP : va_P D cl ws H) (hK : va_K D cl ty s) (hD : va_D A ws) (hS : va_S A H0 H locs) (hA : ∀ q, H0.size ≤ q → A q) (isC isR pm : List Nat) (hC : isC.map (fun i => ws[i]?) = wc.map some) (hCf : isC.filterMap (fun i => ws[i]?) = wc) (hnC : va_nd isC = true) (hR : isR.map (fun i => ws[i]?) = wr.map some) (hnd : va_nd isR = true) (hdis : ∀ i ∈ isR, i ∉ isC) (hpn : va_nd pm = true) (hpm : pm.map (fun i => (wr ++ w1)[i]?) = ws'.map some) (hpf : pm.filterMap (fun i => (wr ++ w1)[i]?) = ws')
    (ci q0 : Nat) (hcl : cl[ci]? = some (C, T, N)) (he : wc[q0]? = some (b, .inr (ci, fs)))
    (hn : As.length = n) (hl : ls.size = nL) (hst : st = As.reverse ++ .ref b :: rest) (hw : (rest.map fun v => v.category).sum ≤ 8) (hf : cells ≤ R.cells ∧ slots ≤ R.slots) (hdg : decode cc pc = .ok (.invokevirtual index, 3))
    (kk : ∀ (H : Heap) (locs : List Loc), va_P D cl ws' H → va_D A ws' → va_S A H0 H locs → W p l e R s m args below meth c H locs cells slots Q (F0 m (pc + 3) ls (.int v :: rest))) : W p l e R s m args below meth c H locs cells slots Q (F0 m pc ls st) := by
  have hPc := hP.sub isC hCf
  have hDc := hD.sub isC hnC hC
  have hFc := va_free (wc := wc) hD hS hA isC hC
  refine va_calli (va_runV (As := As) (rest := rest) S hM cw ⟨zWr_blind, va_recv hK hPc hcl he, fun U hU hW => ⟨rfl, by rw [hU], by rw [hU]; exact hPc, va_K.moved hW.alike hK, hDc.weaken (fun _ _ _ _ => trivial)⟩⟩ rfl hn hl hst (lv_room hw) hdg hf) hS (fun q _ h => hFc q h) hFc (fun r u t H1 locs1 ht hvm hr hB hz1 hk1 hS1 => ?_)
  obtain ⟨hP1, hK1, hD1⟩ := hB
  obtain ⟨a1, a2⟩ := z_back hP hD isC isR pm hC hR hnd hdis hFc hpn hpm hpf hk1 ht hP1 hD1
  subst hr
  exact kk H1 locs1 a1 a2 hS1
theorem z_cWVl {v : Int64} (S : CallFix p m c cc nL s args Ts own) (hM : Met l y wk rm (zWr D cl ty wc H.size (.ref b :: As)) (zQl D cl ty (va_A wc H.size) w1 v) 0 0 (va_A wc H.size)) (cw : CallW R s args own C index y bytes maxL ret wk rm 0 0 n) (hP : va_P D cl ws H) (hK : va_K D cl ty s) (hD : va_D A ws) (hS : va_S A H0 H locs) (hA : ∀ q, H0.size ≤ q → A q) (isC isR pm : List Nat) (hC : isC.map (fun i => ws[i]?) = wc.map some) (hCf : isC.filterMap (fun i => ws[i]?) = wc) (hnC : va_nd isC = true) (hR : isR.map (fun i => ws[i]?) = wr.map some) (hnd : va_nd isR = true) (hdis : ∀ i ∈ isR, i ∉ isC) (hpn : va_nd pm = true) (hpm : pm.map (fun i => (wr ++ w1)[i]?) = ws'.map some) (hpf : pm.filterMap (fun i => (wr ++ w1)[i]?) = ws')
    (ci q0 : Nat) (hcl : cl[ci]? = some (C, T, N)) (he : wc[q0]? = some (b, .inr (ci, fs)))
    (hn : As.length = n) (hl : ls.size = nL) (hst : st = As.reverse ++ .ref b :: rest) (hw : (rest.map fun v => v.category).sum ≤ 8) (hf : cells ≤ R.cells ∧ slots ≤ R.slots) (hdg : decode cc pc = .ok (.invokevirtual index, 3))
    (kk : ∀ (H : Heap) (locs : List Loc), va_P D cl ws' H → va_D A ws' → va_S A H0 H locs → W p l e R s m args below meth c H locs cells slots Q (F0 m (pc + 3) ls (.long v :: rest))) : W p l e R s m args below meth c H locs cells slots Q (F0 m pc ls st) := by
  have hPc := hP.sub isC hCf
  have hDc := hD.sub isC hnC hC
  have hFc := va_free (wc := wc) hD hS hA isC hC
  refine va_calll (va_runV (As := As) (rest := rest) S hM cw ⟨zWr_blind, va_recv hK hPc hcl he, fun U hU hW => ⟨rfl, by rw [hU], by rw [hU]; exact hPc, va_K.moved hW.alike hK, hDc.weaken (fun _ _ _ _ => trivial)⟩⟩ rfl hn hl hst (lv_room hw) hdg hf) hS (fun q _ h => hFc q h) hFc (fun r u t H1 locs1 ht hvm hr hB hz1 hk1 hS1 => ?_)
  obtain ⟨hP1, hK1, hD1⟩ := hB
  obtain ⟨a1, a2⟩ := z_back hP hD isC isR pm hC hR hnd hdis hFc hpn hpm hpf hk1 ht hP1 hD1
  subst hr
  exact kk H1 locs1 a1 a2 hS1
/-- the ends of a method -/
theorem z_iretR {v : Int32} {post : Int32 → Prop} (hexec : p.tables.exec = Jvm.exec) (hb : c.code = cc) (hr : meth.sig.returnType = some .int) (hlocks : meth.locks = false) (hQ : Q = MQ below (vp_Si post) args s cells slots (fun _ => False)) (hp : post v) (hdg : decode cc pc = .ok (.ireturn, 1)) (hH : H = s.heap) (hlo : locs = []) : W p l e R s m args below meth c H locs cells slots Q (F0 m pc ls [.int v]) := by
  subst hQ; subst hH; subst hlo
  exact W.iret hexec hb hr (fun t ht _ => ⟨v, rfl, hp, ht⟩) (fun q h => by cases h) hdg hlocks
theorem z_zretR {v : Bool} {post : Int32 → Prop} (hexec : p.tables.exec = Jvm.exec) (hb : c.code = cc) (hr : meth.sig.returnType = some .boolean) (hlocks : meth.locks = false) (hQ : Q = MQ below (vp_Si post) args s cells slots (fun _ => False)) (hp : post (zB v)) (hdg : decode cc pc = .ok (.ireturn, 1)) (hH : H = s.heap) (hlo : locs = []) : W p l e R s m args below meth c H locs cells slots Q (F0 m pc ls [.int (zB v)]) := by
  subst hQ; subst hH; subst hlo
  exact W.zret hexec hb hr (zB_nar v) (fun t ht _ => ⟨zB v, rfl, hp, ht⟩) (fun q h => by cases h) hdg hlocks
theorem z_vretW (hexec : p.tables.exec = Jvm.exec) (hb : c.code = cc) (hr : meth.sig.returnType = none) (hlocks : meth.locks = false) {A' : Nat → Prop} (hAe : A = A') (hQ : Q = MQ below (zQv D cl ty A' w1) args s cells slots A) (hP : va_P D cl w1 H) (hK : va_K D cl ty s) (hD : va_D A w1) (hS : va_S A s.heap H locs) (hdg : decode cc pc = .ok (.return_, 1)) : W p l e R s m args below meth c H locs cells slots Q (F0 m pc ls []) := by
  subst hAe; subst hQ
  exact W.vret hexec hb hr (fun t ht hW => ⟨⟨(), rfl, trivial, by rw [ht]; exact hP, va_K.moved hW.alike hK, hD⟩, hS.F ht⟩) hS.2.2 hdg hlocks
theorem z_iretW {v : Int32} (hexec : p.tables.exec = Jvm.exec) (hb : c.code = cc) (hr : meth.sig.returnType = some .int) (hlocks : meth.locks = false) {A' : Nat → Prop} (hAe : A = A') (hQ : Q = MQ below (zQi D cl ty A' w1 v) args s cells slots A) (hP : va_P D cl w1 H) (hK : va_K D cl ty s) (hD : va_D A w1) (hS : va_S A s.heap H locs) (hdg : decode cc pc = .ok (.ireturn, 1)) : W p l e R s m args below meth c H locs cells slots Q (F0 m pc ls [.int v]) := by
  subst hAe; subst hQ
  exact W.iret hexec hb hr (fun t ht hW => ⟨⟨v, (), rfl, rfl, by rw [ht]; exact hP, va_K.moved hW.alike hK, hD⟩, hS.F ht⟩) hS.2.2 hdg hlocks
theorem z_zretW {v : Bool} (hexec : p.tables.exec = Jvm.exec) (hb : c.code = cc) (hr : meth.sig.returnType = some .boolean) (hlocks : meth.locks = false) {A' : Nat → Prop} (hAe : A = A') (hQ : Q = MQ below (zQi D cl ty A' w1 (zB v)) args s cells slots A) (hP : va_P D cl w1 H) (hK : va_K D cl ty s) (hD : va_D A w1) (hS : va_S A s.heap H locs) (hdg : decode cc pc = .ok (.ireturn, 1)) : W p l e R s m args below meth c H locs cells slots Q (F0 m pc ls [.int (zB v)]) := by
  subst hAe; subst hQ
  exact W.zret hexec hb hr (zB_nar v) (fun t ht hW => ⟨⟨zB v, (), rfl, rfl, by rw [ht]; exact hP, va_K.moved hW.alike hK, hD⟩, hS.F ht⟩) hS.2.2 hdg hlocks
theorem z_lretW {v : Int64} (hexec : p.tables.exec = Jvm.exec) (hb : c.code = cc) (hr : meth.sig.returnType = some .long) (hlocks : meth.locks = false) {A' : Nat → Prop} (hAe : A = A') (hQ : Q = MQ below (zQl D cl ty A' w1 v) args s cells slots A) (hP : va_P D cl w1 H) (hK : va_K D cl ty s) (hD : va_D A w1) (hS : va_S A s.heap H locs) (hdg : decode cc pc = .ok (.lreturn, 1)) : W p l e R s m args below meth c H locs cells slots Q (F0 m pc ls [.long v]) := by
  subst hAe; subst hQ
  exact W.lret hexec hb hr (fun t ht hW => ⟨⟨v, (), rfl, rfl, by rw [ht]; exact hP, va_K.moved hW.alike hK, hD⟩, hS.F ht⟩) hS.2.2 hdg hlocks
end ZC
end
section
/-! bits of small masks, and branches on whole numbers -/
theorem nb_or (a b : Nat) : nI a ||| nI b = nI (a ||| b) := by
  apply Int32.toBitVec_inj.1
  show BitVec.ofNat 32 a ||| BitVec.ofNat 32 b = BitVec.ofNat 32 (a ||| b)
  apply BitVec.eq_of_getLsbD_eq
  intro i hi
  simp [hi]
theorem nb_and (a b : Nat) : nI a &&& nI b = nI (a &&& b) := by
  apply Int32.toBitVec_inj.1
  show BitVec.ofNat 32 a &&& BitVec.ofNat 32 b = BitVec.ofNat 32 (a &&& b)
  apply BitVec.eq_of_getLsbD_eq
  intro i hi
  simp [hi]
theorem nb_and1 (a : Nat) : nI a &&& nI 1 = nI (a % 2) := by
  rw [nb_and, show (1 : Nat) = 2 ^ 1 - 1 from rfl, Nat.and_two_pow_sub_one_eq_mod]
theorem nb_amt : ∀ k, k < 32 → ((nI k &&& 31).toBitVec.smod 32).toNat = k := by decide +kernel
theorem nb_shl1 : ∀ {k : Nat}, k < 31 → nI 1 <<< (nI k &&& 31) = nI (2 ^ k) := by
  intro k hk
  rw [pk_shlN (n := 1) (nI k &&& 31) k (nb_amt k (by omega)) (by
    have := Nat.pow_lt_pow_right (a := 2) (by decide) hk
    omega), Nat.one_mul]
theorem nb_shr {a k : Nat} (ha : a < 2 ^ 31) (hk : k < 32) : nI a >>> (nI k &&& 31) = nI (a / 2 ^ k) := pk_shrN ha (nI k &&& 31) k (nb_amt k hk)
theorem nb_hlf {a : Nat} (ha : a < 2 ^ 31) : nI a >>> (nI 1 &&& 31) = nI (a / 2) := pk_shrN ha (nI 1 &&& 31) 1 (nb_amt 1 (by decide))
theorem nb_shr1 {z : Int} (h1 : -2147483648 ≤ z) (h2 : z < 2147483648) : iZ z >>> (nI 1 &&& 31) = iZ (z / 2) := by
  apply Int32.toInt_inj.mp
  rw [pk_shr _ _ 1 (by decide), iZ_toInt h1 h2, iZ_toInt (by omega) (by omega), Int.shiftRight_eq_div_pow]
  rfl
theorem nb_zand1 (z : Int) : iZ z &&& nI 1 = nI (z % 2).toNat := by
  rw [pk_and (iZ z) (m := nI 1) 1 (by decide)]
  congr 1
  have : (iZ z).toBitVec.toNat = (z % 4294967296).toNat := by
    show (BitVec.ofInt 32 z).toNat = _
    rw [BitVec.toNat_ofInt]; rfl
  rw [this]
  omega
theorem nb_not {t r : Nat} (ht : t < 65536) : nI t &&& (nI r ^^^ iZ (-1)) = nI (t &&& (65535 ^^^ r)) := by
  apply Int32.toBitVec_inj.1
  show BitVec.ofNat 32 t &&& (BitVec.ofNat 32 r ^^^ BitVec.ofInt 32 (-1)) = BitVec.ofNat 32 (t &&& (65535 ^^^ r))
  apply BitVec.eq_of_getLsbD_eq
  intro i hi
  have h1 : (BitVec.ofInt 32 (-1)).getLsbD i = true := by
    have : BitVec.ofInt 32 (-1) = BitVec.allOnes 32 := by decide
    rw [this, BitVec.getLsbD_allOnes, decide_eq_true hi]
  have h2 : (65535 : Nat).testBit i = decide (i < 16) := by
    rw [show (65535 : Nat) = 2 ^ 16 - 1 from rfl, Nat.testBit_two_pow_sub_one]
  rw [BitVec.getLsbD_and, BitVec.getLsbD_xor, BitVec.getLsbD_ofNat, BitVec.getLsbD_ofNat, BitVec.getLsbD_ofNat, h1, Nat.testBit_and, Nat.testBit_xor, h2, decide_eq_true hi]
  by_cases h16 : i < 16
  · rw [decide_eq_true h16]; cases t.testBit i <;> cases r.testBit i <;> rfl
  · have : t.testBit i = false := Nat.testBit_lt_two_pow (Nat.lt_of_lt_of_le ht (Nat.pow_le_pow_right (by decide) (by omega) : 2 ^ 16 ≤ 2 ^ i))
    rw [this]; rfl
theorem nb_lt {a b : Nat} (ha : a < 65536) (hb : b < 65536) : a ||| b < 65536 := Nat.or_lt_two_pow (n := 16) ha hb
theorem nb_p2 {k : Nat} (h : k < 16) : 2 ^ k < 65536 := Nat.pow_lt_pow_right (by decide) h
theorem iZ_of (x : Int32) : x = iZ x.toInt := (Int32.ofInt_toInt x).symm
theorem iZ_rng (x : Int32) : -2147483648 ≤ x.toInt ∧ x.toInt < 2147483648 := ⟨Int32.le_toInt x, Int32.toInt_lt x⟩
theorem iZ_toNat {z : Int} (h : 0 ≤ z) : iZ z = nI z.toNat := by
  rw [← iZ_nat, Int.toNat_of_nonneg h]
theorem nI_l2 {n : Nat} (h : n < 2147483648) : (nI n).toInt64 = lZ (n : Int) := by
  apply Int64.toInt_inj.mp
  rw [Int32.toInt_toInt64, nI_toInt h, lZ_toInt (by omega) (by omega)]
theorem iZ_l2 {z : Int} (h1 : -2147483648 ≤ z) (h2 : z < 2147483648) : (iZ z).toInt64 = lZ z := by
  apply Int64.toInt_inj.mp
  rw [Int32.toInt_toInt64, iZ_toInt h1 h2, lZ_toInt (by omega) (by omega)]
section ZB
variable {p : Program} {l : Launch} {e : Env} {R : Room} {s : State} {m : MethodId} {args : Array Value} {below : List Frame} {meth : Method} {c : Code} {H : Heap} {locs : List Loc} {cells slots : Nat} {Q : State → Prop}
variable {cc : ByteArray} {pc : Nat} {ls : Array Slot} {rest : List Value}
theorem z_Ieq (hexec : p.tables.exec = Jvm.exec) (hb : c.code = cc) {x y : Int} (hxx : -2147483648 ≤ x ∧ x < 2147483648) (hyy : -2147483648 ≤ y ∧ y < 2147483648) {off : Int} {tgt : Nat} (hdg : decode cc pc = .ok (.if_icmp .eq off, 3)) (ht : (pc : Int) + off = (tgt : Int))
    (kt : x = y → W p l e R s m args below meth c H locs cells slots Q (F0 m tgt ls rest)) (kf : x ≠ y → W p l e R s m args below meth c H locs cells slots Q (F0 m (pc + 3) ls rest)) : W p l e R s m args below meth c H locs cells slots Q (F0 m pc ls (.int (iZ y) :: .int (iZ x) :: rest)) := by
  refine lv_icmp_eq hexec hb hdg ht (fun h => kt ?_) (fun h => kf ?_)
  · first | rw [Int32.le_iff_toInt_le, iZ_toInt hxx.1 hxx.2, iZ_toInt hyy.1 hyy.2] at h | rw [Int32.le_iff_toInt_le, iZ_toInt hyy.1 hyy.2, iZ_toInt hxx.1 hxx.2] at h | rw [Int32.lt_iff_toInt_lt, iZ_toInt hxx.1 hxx.2, iZ_toInt hyy.1 hyy.2] at h | rw [Int32.lt_iff_toInt_lt, iZ_toInt hyy.1 hyy.2, iZ_toInt hxx.1 hxx.2] at h | rw [← Int32.toInt_inj, iZ_toInt hxx.1 hxx.2, iZ_toInt hyy.1 hyy.2] at h
    omega
  · first | rw [Int32.le_iff_toInt_le, iZ_toInt hxx.1 hxx.2, iZ_toInt hyy.1 hyy.2] at h | rw [Int32.le_iff_toInt_le, iZ_toInt hyy.1 hyy.2, iZ_toInt hxx.1 hxx.2] at h | rw [Int32.lt_iff_toInt_lt, iZ_toInt hxx.1 hxx.2, iZ_toInt hyy.1 hyy.2] at h | rw [Int32.lt_iff_toInt_lt, iZ_toInt hyy.1 hyy.2, iZ_toInt hxx.1 hxx.2] at h | rw [← Int32.toInt_inj, iZ_toInt hxx.1 hxx.2, iZ_toInt hyy.1 hyy.2] at h
    omega
theorem z_ieq (hexec : p.tables.exec = Jvm.exec) (hb : c.code = cc) {x : Int} (hxx : -2147483648 ≤ x ∧ x < 2147483648) {off : Int} {tgt : Nat} (hdg : decode cc pc = .ok (.ifCond .eq off, 3)) (ht : (pc : Int) + off = (tgt : Int))
    (kt : x = 0 → W p l e R s m args below meth c H locs cells slots Q (F0 m tgt ls rest)) (kf : x ≠ 0 → W p l e R s m args below meth c H locs cells slots Q (F0 m (pc + 3) ls rest)) : W p l e R s m args below meth c H locs cells slots Q (F0 m pc ls (.int (iZ x) :: rest)) := by
  refine lv_if_eq hexec hb hdg ht (fun h => kt ?_) (fun h => kf ?_)
  · first | rw [Int32.le_iff_toInt_le, iZ_toInt hxx.1 hxx.2, (show (0 : Int32).toInt = 0 from rfl)] at h | rw [Int32.le_iff_toInt_le, (show (0 : Int32).toInt = 0 from rfl), iZ_toInt hxx.1 hxx.2] at h | rw [Int32.lt_iff_toInt_lt, iZ_toInt hxx.1 hxx.2, (show (0 : Int32).toInt = 0 from rfl)] at h | rw [Int32.lt_iff_toInt_lt, (show (0 : Int32).toInt = 0 from rfl), iZ_toInt hxx.1 hxx.2] at h | rw [← Int32.toInt_inj, iZ_toInt hxx.1 hxx.2, (show (0 : Int32).toInt = 0 from rfl)] at h
    omega
  · first | rw [Int32.le_iff_toInt_le, iZ_toInt hxx.1 hxx.2, (show (0 : Int32).toInt = 0 from rfl)] at h | rw [Int32.le_iff_toInt_le, (show (0 : Int32).toInt = 0 from rfl), iZ_toInt hxx.1 hxx.2] at h | rw [Int32.lt_iff_toInt_lt, iZ_toInt hxx.1 hxx.2, (show (0 : Int32).toInt = 0 from rfl)] at h | rw [Int32.lt_iff_toInt_lt, (show (0 : Int32).toInt = 0 from rfl), iZ_toInt hxx.1 hxx.2] at h | rw [← Int32.toInt_inj, iZ_toInt hxx.1 hxx.2, (show (0 : Int32).toInt = 0 from rfl)] at h
    omega
theorem z_neq (hexec : p.tables.exec = Jvm.exec) (hb : c.code = cc) {x : Nat} (hxx : x < 2 ^ 31) {off : Int} {tgt : Nat} (hdg : decode cc pc = .ok (.ifCond .eq off, 3)) (ht : (pc : Int) + off = (tgt : Int))
    (kt : x = 0 → W p l e R s m args below meth c H locs cells slots Q (F0 m tgt ls rest)) (kf : x ≠ 0 → W p l e R s m args below meth c H locs cells slots Q (F0 m (pc + 3) ls rest)) : W p l e R s m args below meth c H locs cells slots Q (F0 m pc ls (.int (nI x) :: rest)) := by
  refine lv_if_eq hexec hb hdg ht (fun h => kt ?_) (fun h => kf ?_)
  · first | rw [Int32.le_iff_toInt_le, nI_toInt hxx, (show (0 : Int32).toInt = 0 from rfl)] at h | rw [Int32.le_iff_toInt_le, (show (0 : Int32).toInt = 0 from rfl), nI_toInt hxx] at h | rw [Int32.lt_iff_toInt_lt, nI_toInt hxx, (show (0 : Int32).toInt = 0 from rfl)] at h | rw [Int32.lt_iff_toInt_lt, (show (0 : Int32).toInt = 0 from rfl), nI_toInt hxx] at h | rw [← Int32.toInt_inj, nI_toInt hxx, (show (0 : Int32).toInt = 0 from rfl)] at h
    omega
  · first | rw [Int32.le_iff_toInt_le, nI_toInt hxx, (show (0 : Int32).toInt = 0 from rfl)] at h | rw [Int32.le_iff_toInt_le, (show (0 : Int32).toInt = 0 from rfl), nI_toInt hxx] at h | rw [Int32.lt_iff_toInt_lt, nI_toInt hxx, (show (0 : Int32).toInt = 0 from rfl)] at h | rw [Int32.lt_iff_toInt_lt, (show (0 : Int32).toInt = 0 from rfl), nI_toInt hxx] at h | rw [← Int32.toInt_inj, nI_toInt hxx, (show (0 : Int32).toInt = 0 from rfl)] at h
    omega
theorem z_Ine (hexec : p.tables.exec = Jvm.exec) (hb : c.code = cc) {x y : Int} (hxx : -2147483648 ≤ x ∧ x < 2147483648) (hyy : -2147483648 ≤ y ∧ y < 2147483648) {off : Int} {tgt : Nat} (hdg : decode cc pc = .ok (.if_icmp .ne off, 3)) (ht : (pc : Int) + off = (tgt : Int))
    (kt : x ≠ y → W p l e R s m args below meth c H locs cells slots Q (F0 m tgt ls rest)) (kf : x = y → W p l e R s m args below meth c H locs cells slots Q (F0 m (pc + 3) ls rest)) : W p l e R s m args below meth c H locs cells slots Q (F0 m pc ls (.int (iZ y) :: .int (iZ x) :: rest)) := by
  refine lv_icmp_ne hexec hb hdg ht (fun h => kt ?_) (fun h => kf ?_)
  · first | rw [Int32.le_iff_toInt_le, iZ_toInt hxx.1 hxx.2, iZ_toInt hyy.1 hyy.2] at h | rw [Int32.le_iff_toInt_le, iZ_toInt hyy.1 hyy.2, iZ_toInt hxx.1 hxx.2] at h | rw [Int32.lt_iff_toInt_lt, iZ_toInt hxx.1 hxx.2, iZ_toInt hyy.1 hyy.2] at h | rw [Int32.lt_iff_toInt_lt, iZ_toInt hyy.1 hyy.2, iZ_toInt hxx.1 hxx.2] at h | rw [← Int32.toInt_inj, iZ_toInt hxx.1 hxx.2, iZ_toInt hyy.1 hyy.2] at h
    omega
  · first | rw [Int32.le_iff_toInt_le, iZ_toInt hxx.1 hxx.2, iZ_toInt hyy.1 hyy.2] at h | rw [Int32.le_iff_toInt_le, iZ_toInt hyy.1 hyy.2, iZ_toInt hxx.1 hxx.2] at h | rw [Int32.lt_iff_toInt_lt, iZ_toInt hxx.1 hxx.2, iZ_toInt hyy.1 hyy.2] at h | rw [Int32.lt_iff_toInt_lt, iZ_toInt hyy.1 hyy.2, iZ_toInt hxx.1 hxx.2] at h | rw [← Int32.toInt_inj, iZ_toInt hxx.1 hxx.2, iZ_toInt hyy.1 hyy.2] at h
    omega
theorem z_ine (hexec : p.tables.exec = Jvm.exec) (hb : c.code = cc) {x : Int} (hxx : -2147483648 ≤ x ∧ x < 2147483648) {off : Int} {tgt : Nat} (hdg : decode cc pc = .ok (.ifCond .ne off, 3)) (ht : (pc : Int) + off = (tgt : Int))
    (kt : x ≠ 0 → W p l e R s m args below meth c H locs cells slots Q (F0 m tgt ls rest)) (kf : x = 0 → W p l e R s m args below meth c H locs cells slots Q (F0 m (pc + 3) ls rest)) : W p l e R s m args below meth c H locs cells slots Q (F0 m pc ls (.int (iZ x) :: rest)) := by
  refine lv_if_ne hexec hb hdg ht (fun h => kt ?_) (fun h => kf ?_)
  · first | rw [Int32.le_iff_toInt_le, iZ_toInt hxx.1 hxx.2, (show (0 : Int32).toInt = 0 from rfl)] at h | rw [Int32.le_iff_toInt_le, (show (0 : Int32).toInt = 0 from rfl), iZ_toInt hxx.1 hxx.2] at h | rw [Int32.lt_iff_toInt_lt, iZ_toInt hxx.1 hxx.2, (show (0 : Int32).toInt = 0 from rfl)] at h | rw [Int32.lt_iff_toInt_lt, (show (0 : Int32).toInt = 0 from rfl), iZ_toInt hxx.1 hxx.2] at h | rw [← Int32.toInt_inj, iZ_toInt hxx.1 hxx.2, (show (0 : Int32).toInt = 0 from rfl)] at h
    omega
  · first | rw [Int32.le_iff_toInt_le, iZ_toInt hxx.1 hxx.2, (show (0 : Int32).toInt = 0 from rfl)] at h | rw [Int32.le_iff_toInt_le, (show (0 : Int32).toInt = 0 from rfl), iZ_toInt hxx.1 hxx.2] at h | rw [Int32.lt_iff_toInt_lt, iZ_toInt hxx.1 hxx.2, (show (0 : Int32).toInt = 0 from rfl)] at h | rw [Int32.lt_iff_toInt_lt, (show (0 : Int32).toInt = 0 from rfl), iZ_toInt hxx.1 hxx.2] at h | rw [← Int32.toInt_inj, iZ_toInt hxx.1 hxx.2, (show (0 : Int32).toInt = 0 from rfl)] at h
    omega
theorem z_nne (hexec : p.tables.exec = Jvm.exec) (hb : c.code = cc) {x : Nat} (hxx : x < 2 ^ 31) {off : Int} {tgt : Nat} (hdg : decode cc pc = .ok (.ifCond .ne off, 3)) (ht : (pc : Int) + off = (tgt : Int))
    (kt : x ≠ 0 → W p l e R s m args below meth c H locs cells slots Q (F0 m tgt ls rest)) (kf : x = 0 → W p l e R s m args below meth c H locs cells slots Q (F0 m (pc + 3) ls rest)) : W p l e R s m args below meth c H locs cells slots Q (F0 m pc ls (.int (nI x) :: rest)) := by
  refine lv_if_ne hexec hb hdg ht (fun h => kt ?_) (fun h => kf ?_)
  · first | rw [Int32.le_iff_toInt_le, nI_toInt hxx, (show (0 : Int32).toInt = 0 from rfl)] at h | rw [Int32.le_iff_toInt_le, (show (0 : Int32).toInt = 0 from rfl), nI_toInt hxx] at h | rw [Int32.lt_iff_toInt_lt, nI_toInt hxx, (show (0 : Int32).toInt = 0 from rfl)] at h | rw [Int32.lt_iff_toInt_lt, (show (0 : Int32).toInt = 0 from rfl), nI_toInt hxx] at h | rw [← Int32.toInt_inj, nI_toInt hxx, (show (0 : Int32).toInt = 0 from rfl)] at h
    omega
  · first | rw [Int32.le_iff_toInt_le, nI_toInt hxx, (show (0 : Int32).toInt = 0 from rfl)] at h | rw [Int32.le_iff_toInt_le, (show (0 : Int32).toInt = 0 from rfl), nI_toInt hxx] at h | rw [Int32.lt_iff_toInt_lt, nI_toInt hxx, (show (0 : Int32).toInt = 0 from rfl)] at h | rw [Int32.lt_iff_toInt_lt, (show (0 : Int32).toInt = 0 from rfl), nI_toInt hxx] at h | rw [← Int32.toInt_inj, nI_toInt hxx, (show (0 : Int32).toInt = 0 from rfl)] at h
    omega
theorem z_Ilt (hexec : p.tables.exec = Jvm.exec) (hb : c.code = cc) {x y : Int} (hxx : -2147483648 ≤ x ∧ x < 2147483648) (hyy : -2147483648 ≤ y ∧ y < 2147483648) {off : Int} {tgt : Nat} (hdg : decode cc pc = .ok (.if_icmp .lt off, 3)) (ht : (pc : Int) + off = (tgt : Int))
    (kt : x < y → W p l e R s m args below meth c H locs cells slots Q (F0 m tgt ls rest)) (kf : y ≤ x → W p l e R s m args below meth c H locs cells slots Q (F0 m (pc + 3) ls rest)) : W p l e R s m args below meth c H locs cells slots Q (F0 m pc ls (.int (iZ y) :: .int (iZ x) :: rest)) := by
  refine lv_icmp_lt hexec hb hdg ht (fun h => kt ?_) (fun h => kf ?_)
  · first | rw [Int32.le_iff_toInt_le, iZ_toInt hxx.1 hxx.2, iZ_toInt hyy.1 hyy.2] at h | rw [Int32.le_iff_toInt_le, iZ_toInt hyy.1 hyy.2, iZ_toInt hxx.1 hxx.2] at h | rw [Int32.lt_iff_toInt_lt, iZ_toInt hxx.1 hxx.2, iZ_toInt hyy.1 hyy.2] at h | rw [Int32.lt_iff_toInt_lt, iZ_toInt hyy.1 hyy.2, iZ_toInt hxx.1 hxx.2] at h | rw [← Int32.toInt_inj, iZ_toInt hxx.1 hxx.2, iZ_toInt hyy.1 hyy.2] at h
    omega
  · first | rw [Int32.le_iff_toInt_le, iZ_toInt hxx.1 hxx.2, iZ_toInt hyy.1 hyy.2] at h | rw [Int32.le_iff_toInt_le, iZ_toInt hyy.1 hyy.2, iZ_toInt hxx.1 hxx.2] at h | rw [Int32.lt_iff_toInt_lt, iZ_toInt hxx.1 hxx.2, iZ_toInt hyy.1 hyy.2] at h | rw [Int32.lt_iff_toInt_lt, iZ_toInt hyy.1 hyy.2, iZ_toInt hxx.1 hxx.2] at h | rw [← Int32.toInt_inj, iZ_toInt hxx.1 hxx.2, iZ_toInt hyy.1 hyy.2] at h
    omega
theorem z_ilt (hexec : p.tables.exec = Jvm.exec) (hb : c.code = cc) {x : Int} (hxx : -2147483648 ≤ x ∧ x < 2147483648) {off : Int} {tgt : Nat} (hdg : decode cc pc = .ok (.ifCond .lt off, 3)) (ht : (pc : Int) + off = (tgt : Int))
    (kt : x < 0 → W p l e R s m args below meth c H locs cells slots Q (F0 m tgt ls rest)) (kf : 0 ≤ x → W p l e R s m args below meth c H locs cells slots Q (F0 m (pc + 3) ls rest)) : W p l e R s m args below meth c H locs cells slots Q (F0 m pc ls (.int (iZ x) :: rest)) := by
  refine lv_if_lt hexec hb hdg ht (fun h => kt ?_) (fun h => kf ?_)
  · first | rw [Int32.le_iff_toInt_le, iZ_toInt hxx.1 hxx.2, (show (0 : Int32).toInt = 0 from rfl)] at h | rw [Int32.le_iff_toInt_le, (show (0 : Int32).toInt = 0 from rfl), iZ_toInt hxx.1 hxx.2] at h | rw [Int32.lt_iff_toInt_lt, iZ_toInt hxx.1 hxx.2, (show (0 : Int32).toInt = 0 from rfl)] at h | rw [Int32.lt_iff_toInt_lt, (show (0 : Int32).toInt = 0 from rfl), iZ_toInt hxx.1 hxx.2] at h | rw [← Int32.toInt_inj, iZ_toInt hxx.1 hxx.2, (show (0 : Int32).toInt = 0 from rfl)] at h
    omega
  · first | rw [Int32.le_iff_toInt_le, iZ_toInt hxx.1 hxx.2, (show (0 : Int32).toInt = 0 from rfl)] at h | rw [Int32.le_iff_toInt_le, (show (0 : Int32).toInt = 0 from rfl), iZ_toInt hxx.1 hxx.2] at h | rw [Int32.lt_iff_toInt_lt, iZ_toInt hxx.1 hxx.2, (show (0 : Int32).toInt = 0 from rfl)] at h | rw [Int32.lt_iff_toInt_lt, (show (0 : Int32).toInt = 0 from rfl), iZ_toInt hxx.1 hxx.2] at h | rw [← Int32.toInt_inj, iZ_toInt hxx.1 hxx.2, (show (0 : Int32).toInt = 0 from rfl)] at h
    omega
theorem z_nlt (hexec : p.tables.exec = Jvm.exec) (hb : c.code = cc) {x : Nat} (hxx : x < 2 ^ 31) {off : Int} {tgt : Nat} (hdg : decode cc pc = .ok (.ifCond .lt off, 3)) (ht : (pc : Int) + off = (tgt : Int))
    (kt : x < 0 → W p l e R s m args below meth c H locs cells slots Q (F0 m tgt ls rest)) (kf : 0 ≤ x → W p l e R s m args below meth c H locs cells slots Q (F0 m (pc + 3) ls rest)) : W p l e R s m args below meth c H locs cells slots Q (F0 m pc ls (.int (nI x) :: rest)) := by
  refine lv_if_lt hexec hb hdg ht (fun h => kt ?_) (fun h => kf ?_)
  · first | rw [Int32.le_iff_toInt_le, nI_toInt hxx, (show (0 : Int32).toInt = 0 from rfl)] at h | rw [Int32.le_iff_toInt_le, (show (0 : Int32).toInt = 0 from rfl), nI_toInt hxx] at h | rw [Int32.lt_iff_toInt_lt, nI_toInt hxx, (show (0 : Int32).toInt = 0 from rfl)] at h | rw [Int32.lt_iff_toInt_lt, (show (0 : Int32).toInt = 0 from rfl), nI_toInt hxx] at h | rw [← Int32.toInt_inj, nI_toInt hxx, (show (0 : Int32).toInt = 0 from rfl)] at h
    omega
  · first | rw [Int32.le_iff_toInt_le, nI_toInt hxx, (show (0 : Int32).toInt = 0 from rfl)] at h | rw [Int32.le_iff_toInt_le, (show (0 : Int32).toInt = 0 from rfl), nI_toInt hxx] at h | rw [Int32.lt_iff_toInt_lt, nI_toInt hxx, (show (0 : Int32).toInt = 0 from rfl)] at h | rw [Int32.lt_iff_toInt_lt, (show (0 : Int32).toInt = 0 from rfl), nI_toInt hxx] at h | rw [← Int32.toInt_inj, nI_toInt hxx, (show (0 : Int32).toInt = 0 from rfl)] at h
    omega
theorem z_Ige (hexec : p.tables.exec = Jvm.exec) (hb : c.code = cc) {x y : Int} (hxx : -2147483648 ≤ x ∧ x < 2147483648) (hyy : -2147483648 ≤ y ∧ y < 2147483648) {off : Int} {tgt : Nat} (hdg : decode cc pc = .ok (.if_icmp .ge off, 3)) (ht : (pc : Int) + off = (tgt : Int))
    (kt : y ≤ x → W p l e R s m args below meth c H locs cells slots Q (F0 m tgt ls rest)) (kf : x < y → W p l e R s m args below meth c H locs cells slots Q (F0 m (pc + 3) ls rest)) : W p l e R s m args below meth c H locs cells slots Q (F0 m pc ls (.int (iZ y) :: .int (iZ x) :: rest)) := by
  refine lv_icmp_ge hexec hb hdg ht (fun h => kt ?_) (fun h => kf ?_)
  · first | rw [Int32.le_iff_toInt_le, iZ_toInt hxx.1 hxx.2, iZ_toInt hyy.1 hyy.2] at h | rw [Int32.le_iff_toInt_le, iZ_toInt hyy.1 hyy.2, iZ_toInt hxx.1 hxx.2] at h | rw [Int32.lt_iff_toInt_lt, iZ_toInt hxx.1 hxx.2, iZ_toInt hyy.1 hyy.2] at h | rw [Int32.lt_iff_toInt_lt, iZ_toInt hyy.1 hyy.2, iZ_toInt hxx.1 hxx.2] at h | rw [← Int32.toInt_inj, iZ_toInt hxx.1 hxx.2, iZ_toInt hyy.1 hyy.2] at h
    omega
  · first | rw [Int32.le_iff_toInt_le, iZ_toInt hxx.1 hxx.2, iZ_toInt hyy.1 hyy.2] at h | rw [Int32.le_iff_toInt_le, iZ_toInt hyy.1 hyy.2, iZ_toInt hxx.1 hxx.2] at h | rw [Int32.lt_iff_toInt_lt, iZ_toInt hxx.1 hxx.2, iZ_toInt hyy.1 hyy.2] at h | rw [Int32.lt_iff_toInt_lt, iZ_toInt hyy.1 hyy.2, iZ_toInt hxx.1 hxx.2] at h | rw [← Int32.toInt_inj, iZ_toInt hxx.1 hxx.2, iZ_toInt hyy.1 hyy.2] at h
    omega
theorem z_ige (hexec : p.tables.exec = Jvm.exec) (hb : c.code = cc) {x : Int} (hxx : -2147483648 ≤ x ∧ x < 2147483648) {off : Int} {tgt : Nat} (hdg : decode cc pc = .ok (.ifCond .ge off, 3)) (ht : (pc : Int) + off = (tgt : Int))
    (kt : 0 ≤ x → W p l e R s m args below meth c H locs cells slots Q (F0 m tgt ls rest)) (kf : x < 0 → W p l e R s m args below meth c H locs cells slots Q (F0 m (pc + 3) ls rest)) : W p l e R s m args below meth c H locs cells slots Q (F0 m pc ls (.int (iZ x) :: rest)) := by
  refine lv_if_ge hexec hb hdg ht (fun h => kt ?_) (fun h => kf ?_)
  · first | rw [Int32.le_iff_toInt_le, iZ_toInt hxx.1 hxx.2, (show (0 : Int32).toInt = 0 from rfl)] at h | rw [Int32.le_iff_toInt_le, (show (0 : Int32).toInt = 0 from rfl), iZ_toInt hxx.1 hxx.2] at h | rw [Int32.lt_iff_toInt_lt, iZ_toInt hxx.1 hxx.2, (show (0 : Int32).toInt = 0 from rfl)] at h | rw [Int32.lt_iff_toInt_lt, (show (0 : Int32).toInt = 0 from rfl), iZ_toInt hxx.1 hxx.2] at h | rw [← Int32.toInt_inj, iZ_toInt hxx.1 hxx.2, (show (0 : Int32).toInt = 0 from rfl)] at h
    omega
  · first | rw [Int32.le_iff_toInt_le, iZ_toInt hxx.1 hxx.2, (show (0 : Int32).toInt = 0 from rfl)] at h | rw [Int32.le_iff_toInt_le, (show (0 : Int32).toInt = 0 from rfl), iZ_toInt hxx.1 hxx.2] at h | rw [Int32.lt_iff_toInt_lt, iZ_toInt hxx.1 hxx.2, (show (0 : Int32).toInt = 0 from rfl)] at h | rw [Int32.lt_iff_toInt_lt, (show (0 : Int32).toInt = 0 from rfl), iZ_toInt hxx.1 hxx.2] at h | rw [← Int32.toInt_inj, iZ_toInt hxx.1 hxx.2, (show (0 : Int32).toInt = 0 from rfl)] at h
    omega
theorem z_nge (hexec : p.tables.exec = Jvm.exec) (hb : c.code = cc) {x : Nat} (hxx : x < 2 ^ 31) {off : Int} {tgt : Nat} (hdg : decode cc pc = .ok (.ifCond .ge off, 3)) (ht : (pc : Int) + off = (tgt : Int))
    (kt : 0 ≤ x → W p l e R s m args below meth c H locs cells slots Q (F0 m tgt ls rest)) (kf : x < 0 → W p l e R s m args below meth c H locs cells slots Q (F0 m (pc + 3) ls rest)) : W p l e R s m args below meth c H locs cells slots Q (F0 m pc ls (.int (nI x) :: rest)) := by
  refine lv_if_ge hexec hb hdg ht (fun h => kt ?_) (fun h => kf ?_)
  · first | rw [Int32.le_iff_toInt_le, nI_toInt hxx, (show (0 : Int32).toInt = 0 from rfl)] at h | rw [Int32.le_iff_toInt_le, (show (0 : Int32).toInt = 0 from rfl), nI_toInt hxx] at h | rw [Int32.lt_iff_toInt_lt, nI_toInt hxx, (show (0 : Int32).toInt = 0 from rfl)] at h | rw [Int32.lt_iff_toInt_lt, (show (0 : Int32).toInt = 0 from rfl), nI_toInt hxx] at h | rw [← Int32.toInt_inj, nI_toInt hxx, (show (0 : Int32).toInt = 0 from rfl)] at h
    omega
  · first | rw [Int32.le_iff_toInt_le, nI_toInt hxx, (show (0 : Int32).toInt = 0 from rfl)] at h | rw [Int32.le_iff_toInt_le, (show (0 : Int32).toInt = 0 from rfl), nI_toInt hxx] at h | rw [Int32.lt_iff_toInt_lt, nI_toInt hxx, (show (0 : Int32).toInt = 0 from rfl)] at h | rw [Int32.lt_iff_toInt_lt, (show (0 : Int32).toInt = 0 from rfl), nI_toInt hxx] at h | rw [← Int32.toInt_inj, nI_toInt hxx, (show (0 : Int32).toInt = 0 from rfl)] at h
    omega
theorem z_Igt (hexec : p.tables.exec = Jvm.exec) (hb : c.code = cc) {x y : Int} (hxx : -2147483648 ≤ x ∧ x < 2147483648) (hyy : -2147483648 ≤ y ∧ y < 2147483648) {off : Int} {tgt : Nat} (hdg : decode cc pc = .ok (.if_icmp .gt off, 3)) (ht : (pc : Int) + off = (tgt : Int))
    (kt : y < x → W p l e R s m args below meth c H locs cells slots Q (F0 m tgt ls rest)) (kf : x ≤ y → W p l e R s m args below meth c H locs cells slots Q (F0 m (pc + 3) ls rest)) : W p l e R s m args below meth c H locs cells slots Q (F0 m pc ls (.int (iZ y) :: .int (iZ x) :: rest)) := by
  refine lv_icmp_gt hexec hb hdg ht (fun h => kt ?_) (fun h => kf ?_)
  · first | rw [Int32.le_iff_toInt_le, iZ_toInt hxx.1 hxx.2, iZ_toInt hyy.1 hyy.2] at h | rw [Int32.le_iff_toInt_le, iZ_toInt hyy.1 hyy.2, iZ_toInt hxx.1 hxx.2] at h | rw [Int32.lt_iff_toInt_lt, iZ_toInt hxx.1 hxx.2, iZ_toInt hyy.1 hyy.2] at h | rw [Int32.lt_iff_toInt_lt, iZ_toInt hyy.1 hyy.2, iZ_toInt hxx.1 hxx.2] at h | rw [← Int32.toInt_inj, iZ_toInt hxx.1 hxx.2, iZ_toInt hyy.1 hyy.2] at h
    omega
  · first | rw [Int32.le_iff_toInt_le, iZ_toInt hxx.1 hxx.2, iZ_toInt hyy.1 hyy.2] at h | rw [Int32.le_iff_toInt_le, iZ_toInt hyy.1 hyy.2, iZ_toInt hxx.1 hxx.2] at h | rw [Int32.lt_iff_toInt_lt, iZ_toInt hxx.1 hxx.2, iZ_toInt hyy.1 hyy.2] at h | rw [Int32.lt_iff_toInt_lt, iZ_toInt hyy.1 hyy.2, iZ_toInt hxx.1 hxx.2] at h | rw [← Int32.toInt_inj, iZ_toInt hxx.1 hxx.2, iZ_toInt hyy.1 hyy.2] at h
    omega
theorem z_igt (hexec : p.tables.exec = Jvm.exec) (hb : c.code = cc) {x : Int} (hxx : -2147483648 ≤ x ∧ x < 2147483648) {off : Int} {tgt : Nat} (hdg : decode cc pc = .ok (.ifCond .gt off, 3)) (ht : (pc : Int) + off = (tgt : Int))
    (kt : 0 < x → W p l e R s m args below meth c H locs cells slots Q (F0 m tgt ls rest)) (kf : x ≤ 0 → W p l e R s m args below meth c H locs cells slots Q (F0 m (pc + 3) ls rest)) : W p l e R s m args below meth c H locs cells slots Q (F0 m pc ls (.int (iZ x) :: rest)) := by
  refine lv_if_gt hexec hb hdg ht (fun h => kt ?_) (fun h => kf ?_)
  · first | rw [Int32.le_iff_toInt_le, iZ_toInt hxx.1 hxx.2, (show (0 : Int32).toInt = 0 from rfl)] at h | rw [Int32.le_iff_toInt_le, (show (0 : Int32).toInt = 0 from rfl), iZ_toInt hxx.1 hxx.2] at h | rw [Int32.lt_iff_toInt_lt, iZ_toInt hxx.1 hxx.2, (show (0 : Int32).toInt = 0 from rfl)] at h | rw [Int32.lt_iff_toInt_lt, (show (0 : Int32).toInt = 0 from rfl), iZ_toInt hxx.1 hxx.2] at h | rw [← Int32.toInt_inj, iZ_toInt hxx.1 hxx.2, (show (0 : Int32).toInt = 0 from rfl)] at h
    omega
  · first | rw [Int32.le_iff_toInt_le, iZ_toInt hxx.1 hxx.2, (show (0 : Int32).toInt = 0 from rfl)] at h | rw [Int32.le_iff_toInt_le, (show (0 : Int32).toInt = 0 from rfl), iZ_toInt hxx.1 hxx.2] at h | rw [Int32.lt_iff_toInt_lt, iZ_toInt hxx.1 hxx.2, (show (0 : Int32).toInt = 0 from rfl)] at h | rw [Int32.lt_iff_toInt_lt, (show (0 : Int32).toInt = 0 from rfl), iZ_toInt hxx.1 hxx.2] at h | rw [← Int32.toInt_inj, iZ_toInt hxx.1 hxx.2, (show (0 : Int32).toInt = 0 from rfl)] at h
    omega
theorem z_ngt (hexec : p.tables.exec = Jvm.exec) (hb : c.code = cc) {x : Nat} (hxx : x < 2 ^ 31) {off : Int} {tgt : Nat} (hdg : decode cc pc = .ok (.ifCond .gt off, 3)) (ht : (pc : Int) + off = (tgt : Int))
    (kt : 0 < x → W p l e R s m args below meth c H locs cells slots Q (F0 m tgt ls rest)) (kf : x ≤ 0 → W p l e R s m args below meth c H locs cells slots Q (F0 m (pc + 3) ls rest)) : W p l e R s m args below meth c H locs cells slots Q (F0 m pc ls (.int (nI x) :: rest)) := by
  refine lv_if_gt hexec hb hdg ht (fun h => kt ?_) (fun h => kf ?_)
  · first | rw [Int32.le_iff_toInt_le, nI_toInt hxx, (show (0 : Int32).toInt = 0 from rfl)] at h | rw [Int32.le_iff_toInt_le, (show (0 : Int32).toInt = 0 from rfl), nI_toInt hxx] at h | rw [Int32.lt_iff_toInt_lt, nI_toInt hxx, (show (0 : Int32).toInt = 0 from rfl)] at h | rw [Int32.lt_iff_toInt_lt, (show (0 : Int32).toInt = 0 from rfl), nI_toInt hxx] at h | rw [← Int32.toInt_inj, nI_toInt hxx, (show (0 : Int32).toInt = 0 from rfl)] at h
    omega
  · first | rw [Int32.le_iff_toInt_le, nI_toInt hxx, (show (0 : Int32).toInt = 0 from rfl)] at h | rw [Int32.le_iff_toInt_le, (show (0 : Int32).toInt = 0 from rfl), nI_toInt hxx] at h | rw [Int32.lt_iff_toInt_lt, nI_toInt hxx, (show (0 : Int32).toInt = 0 from rfl)] at h | rw [Int32.lt_iff_toInt_lt, (show (0 : Int32).toInt = 0 from rfl), nI_toInt hxx] at h | rw [← Int32.toInt_inj, nI_toInt hxx, (show (0 : Int32).toInt = 0 from rfl)] at h
    omega
theorem z_gt (hexec : p.tables.exec = Jvm.exec) (hb : c.code = cc) {x y : Nat} (hxx : x < 2 ^ 31) (hyy : y < 2 ^ 31) {off : Int} {tgt : Nat} (hdg : decode cc pc = .ok (.if_icmp .gt off, 3)) (ht : (pc : Int) + off = (tgt : Int))
    (kt : y < x → W p l e R s m args below meth c H locs cells slots Q (F0 m tgt ls rest)) (kf : x ≤ y → W p l e R s m args below meth c H locs cells slots Q (F0 m (pc + 3) ls rest)) : W p l e R s m args below meth c H locs cells slots Q (F0 m pc ls (.int (nI y) :: .int (nI x) :: rest)) := by
  refine lv_icmp_gt hexec hb hdg ht (fun h => kt ?_) (fun h => kf ?_)
  · first | rw [Int32.le_iff_toInt_le, nI_toInt hxx, nI_toInt hyy] at h | rw [Int32.le_iff_toInt_le, nI_toInt hyy, nI_toInt hxx] at h | rw [Int32.lt_iff_toInt_lt, nI_toInt hxx, nI_toInt hyy] at h | rw [Int32.lt_iff_toInt_lt, nI_toInt hyy, nI_toInt hxx] at h | rw [← Int32.toInt_inj, nI_toInt hxx, nI_toInt hyy] at h
    omega
  · first | rw [Int32.le_iff_toInt_le, nI_toInt hxx, nI_toInt hyy] at h | rw [Int32.le_iff_toInt_le, nI_toInt hyy, nI_toInt hxx] at h | rw [Int32.lt_iff_toInt_lt, nI_toInt hxx, nI_toInt hyy] at h | rw [Int32.lt_iff_toInt_lt, nI_toInt hyy, nI_toInt hxx] at h | rw [← Int32.toInt_inj, nI_toInt hxx, nI_toInt hyy] at h
    omega
theorem z_Ile (hexec : p.tables.exec = Jvm.exec) (hb : c.code = cc) {x y : Int} (hxx : -2147483648 ≤ x ∧ x < 2147483648) (hyy : -2147483648 ≤ y ∧ y < 2147483648) {off : Int} {tgt : Nat} (hdg : decode cc pc = .ok (.if_icmp .le off, 3)) (ht : (pc : Int) + off = (tgt : Int))
    (kt : x ≤ y → W p l e R s m args below meth c H locs cells slots Q (F0 m tgt ls rest)) (kf : y < x → W p l e R s m args below meth c H locs cells slots Q (F0 m (pc + 3) ls rest)) : W p l e R s m args below meth c H locs cells slots Q (F0 m pc ls (.int (iZ y) :: .int (iZ x) :: rest)) := by
  refine lv_icmp_le hexec hb hdg ht (fun h => kt ?_) (fun h => kf ?_)
  · first | rw [Int32.le_iff_toInt_le, iZ_toInt hxx.1 hxx.2, iZ_toInt hyy.1 hyy.2] at h | rw [Int32.le_iff_toInt_le, iZ_toInt hyy.1 hyy.2, iZ_toInt hxx.1 hxx.2] at h | rw [Int32.lt_iff_toInt_lt, iZ_toInt hxx.1 hxx.2, iZ_toInt hyy.1 hyy.2] at h | rw [Int32.lt_iff_toInt_lt, iZ_toInt hyy.1 hyy.2, iZ_toInt hxx.1 hxx.2] at h | rw [← Int32.toInt_inj, iZ_toInt hxx.1 hxx.2, iZ_toInt hyy.1 hyy.2] at h
    omega
  · first | rw [Int32.le_iff_toInt_le, iZ_toInt hxx.1 hxx.2, iZ_toInt hyy.1 hyy.2] at h | rw [Int32.le_iff_toInt_le, iZ_toInt hyy.1 hyy.2, iZ_toInt hxx.1 hxx.2] at h | rw [Int32.lt_iff_toInt_lt, iZ_toInt hxx.1 hxx.2, iZ_toInt hyy.1 hyy.2] at h | rw [Int32.lt_iff_toInt_lt, iZ_toInt hyy.1 hyy.2, iZ_toInt hxx.1 hxx.2] at h | rw [← Int32.toInt_inj, iZ_toInt hxx.1 hxx.2, iZ_toInt hyy.1 hyy.2] at h
    omega
theorem z_ile (hexec : p.tables.exec = Jvm.exec) (hb : c.code = cc) {x : Int} (hxx : -2147483648 ≤ x ∧ x < 2147483648) {off : Int} {tgt : Nat} (hdg : decode cc pc = .ok (.ifCond .le off, 3)) (ht : (pc : Int) + off = (tgt : Int))
    (kt : x ≤ 0 → W p l e R s m args below meth c H locs cells slots Q (F0 m tgt ls rest)) (kf : 0 < x → W p l e R s m args below meth c H locs cells slots Q (F0 m (pc + 3) ls rest)) : W p l e R s m args below meth c H locs cells slots Q (F0 m pc ls (.int (iZ x) :: rest)) := by
  refine lv_if_le hexec hb hdg ht (fun h => kt ?_) (fun h => kf ?_)
  · first | rw [Int32.le_iff_toInt_le, iZ_toInt hxx.1 hxx.2, (show (0 : Int32).toInt = 0 from rfl)] at h | rw [Int32.le_iff_toInt_le, (show (0 : Int32).toInt = 0 from rfl), iZ_toInt hxx.1 hxx.2] at h | rw [Int32.lt_iff_toInt_lt, iZ_toInt hxx.1 hxx.2, (show (0 : Int32).toInt = 0 from rfl)] at h | rw [Int32.lt_iff_toInt_lt, (show (0 : Int32).toInt = 0 from rfl), iZ_toInt hxx.1 hxx.2] at h | rw [← Int32.toInt_inj, iZ_toInt hxx.1 hxx.2, (show (0 : Int32).toInt = 0 from rfl)] at h
    omega
  · first | rw [Int32.le_iff_toInt_le, iZ_toInt hxx.1 hxx.2, (show (0 : Int32).toInt = 0 from rfl)] at h | rw [Int32.le_iff_toInt_le, (show (0 : Int32).toInt = 0 from rfl), iZ_toInt hxx.1 hxx.2] at h | rw [Int32.lt_iff_toInt_lt, iZ_toInt hxx.1 hxx.2, (show (0 : Int32).toInt = 0 from rfl)] at h | rw [Int32.lt_iff_toInt_lt, (show (0 : Int32).toInt = 0 from rfl), iZ_toInt hxx.1 hxx.2] at h | rw [← Int32.toInt_inj, iZ_toInt hxx.1 hxx.2, (show (0 : Int32).toInt = 0 from rfl)] at h
    omega
theorem z_nle (hexec : p.tables.exec = Jvm.exec) (hb : c.code = cc) {x : Nat} (hxx : x < 2 ^ 31) {off : Int} {tgt : Nat} (hdg : decode cc pc = .ok (.ifCond .le off, 3)) (ht : (pc : Int) + off = (tgt : Int))
    (kt : x ≤ 0 → W p l e R s m args below meth c H locs cells slots Q (F0 m tgt ls rest)) (kf : 0 < x → W p l e R s m args below meth c H locs cells slots Q (F0 m (pc + 3) ls rest)) : W p l e R s m args below meth c H locs cells slots Q (F0 m pc ls (.int (nI x) :: rest)) := by
  refine lv_if_le hexec hb hdg ht (fun h => kt ?_) (fun h => kf ?_)
  · first | rw [Int32.le_iff_toInt_le, nI_toInt hxx, (show (0 : Int32).toInt = 0 from rfl)] at h | rw [Int32.le_iff_toInt_le, (show (0 : Int32).toInt = 0 from rfl), nI_toInt hxx] at h | rw [Int32.lt_iff_toInt_lt, nI_toInt hxx, (show (0 : Int32).toInt = 0 from rfl)] at h | rw [Int32.lt_iff_toInt_lt, (show (0 : Int32).toInt = 0 from rfl), nI_toInt hxx] at h | rw [← Int32.toInt_inj, nI_toInt hxx, (show (0 : Int32).toInt = 0 from rfl)] at h
    omega
  · first | rw [Int32.le_iff_toInt_le, nI_toInt hxx, (show (0 : Int32).toInt = 0 from rfl)] at h | rw [Int32.le_iff_toInt_le, (show (0 : Int32).toInt = 0 from rfl), nI_toInt hxx] at h | rw [Int32.lt_iff_toInt_lt, nI_toInt hxx, (show (0 : Int32).toInt = 0 from rfl)] at h | rw [Int32.lt_iff_toInt_lt, (show (0 : Int32).toInt = 0 from rfl), nI_toInt hxx] at h | rw [← Int32.toInt_inj, nI_toInt hxx, (show (0 : Int32).toInt = 0 from rfl)] at h
    omega
theorem z_le (hexec : p.tables.exec = Jvm.exec) (hb : c.code = cc) {x y : Nat} (hxx : x < 2 ^ 31) (hyy : y < 2 ^ 31) {off : Int} {tgt : Nat} (hdg : decode cc pc = .ok (.if_icmp .le off, 3)) (ht : (pc : Int) + off = (tgt : Int))
    (kt : x ≤ y → W p l e R s m args below meth c H locs cells slots Q (F0 m tgt ls rest)) (kf : y < x → W p l e R s m args below meth c H locs cells slots Q (F0 m (pc + 3) ls rest)) : W p l e R s m args below meth c H locs cells slots Q (F0 m pc ls (.int (nI y) :: .int (nI x) :: rest)) := by
  refine lv_icmp_le hexec hb hdg ht (fun h => kt ?_) (fun h => kf ?_)
  · first | rw [Int32.le_iff_toInt_le, nI_toInt hxx, nI_toInt hyy] at h | rw [Int32.le_iff_toInt_le, nI_toInt hyy, nI_toInt hxx] at h | rw [Int32.lt_iff_toInt_lt, nI_toInt hxx, nI_toInt hyy] at h | rw [Int32.lt_iff_toInt_lt, nI_toInt hyy, nI_toInt hxx] at h | rw [← Int32.toInt_inj, nI_toInt hxx, nI_toInt hyy] at h
    omega
  · first | rw [Int32.le_iff_toInt_le, nI_toInt hxx, nI_toInt hyy] at h | rw [Int32.le_iff_toInt_le, nI_toInt hyy, nI_toInt hxx] at h | rw [Int32.lt_iff_toInt_lt, nI_toInt hxx, nI_toInt hyy] at h | rw [Int32.lt_iff_toInt_lt, nI_toInt hyy, nI_toInt hxx] at h | rw [← Int32.toInt_inj, nI_toInt hxx, nI_toInt hyy] at h
    omega
end ZB
end
section
/-! longs: comparing, shifting a one -/
theorem lb_shl1 : ∀ {k : Nat}, k < 62 → lZ 1 <<< ((nI k).toInt64 &&& 63) = lZ (2 ^ k) := by
  intro k
  revert k
  have h : ∀ k, k < 62 → lZ 1 <<< ((nI k).toInt64 &&& 63) = lZ (2 ^ k) := by decide +kernel
  intro k hk
  exact h k hk
theorem lZ_cmp {x y : Int} (hx : -9223372036854775808 ≤ x ∧ x < 9223372036854775808) (hy : -9223372036854775808 ≤ y ∧ y < 9223372036854775808) : lg_cmp (lZ x) (lZ y) = iZ (if y < x then 1 else if x = y then 0 else -1) := by
  unfold lg_cmp
  have h1 : (lZ x > lZ y) ↔ y < x := lZ_lt hy hx
  have h2 : (lZ x = lZ y) ↔ x = y := lZ_eq hx hy
  by_cases a : y < x
  · rw [if_pos (h1.mpr a), if_pos a]; rfl
  · rw [if_neg (fun q => a (h1.mp q)), if_neg a]
    by_cases b : x = y
    · rw [if_pos (h2.mpr b), if_pos b]; rfl
    · rw [if_neg (fun q => b (h2.mp q)), if_neg b]; rfl
section ZL
variable {p : Program} {l : Launch} {e : Env} {R : Room} {s : State} {m : MethodId} {args : Array Value} {below : List Frame} {meth : Method} {c : Code} {H : Heap} {locs : List Loc} {cells slots : Nat} {Q : State → Prop}
variable {cc : ByteArray} {pc : Nat} {ls : Array Slot} {rest : List Value}
theorem z_lcmp_eq (hexec : p.tables.exec = Jvm.exec) (hb : c.code = cc) {x y : Int} (hx : -9223372036854775808 ≤ x ∧ x < 9223372036854775808) (hy : -9223372036854775808 ≤ y ∧ y < 9223372036854775808) {off : Int} {tgt : Nat} (hdg : decode cc pc = .ok (.lcmp, 1)) (hdg2 : decode cc (pc + 1) = .ok (.ifCond .eq off, 3)) (ht : ((pc + 1 : Nat) : Int) + off = (tgt : Int))
    (kt : x = y → W p l e R s m args below meth c H locs cells slots Q (F0 m tgt ls rest)) (kf : x ≠ y → W p l e R s m args below meth c H locs cells slots Q (F0 m (pc + 4) ls rest)) : W p l e R s m args below meth c H locs cells slots Q (F0 m pc ls (.long (lZ y) :: .long (lZ x) :: rest)) := by
  refine W.lcmp hexec hb hdg ?_
  rw [lZ_cmp hx hy]
  refine z_ieq hexec hb (by split <;> (try split) <;> omega) hdg2 ht (fun h => kt ?_) (fun h => kf ?_)
  · split at h <;> (try split at h) <;> omega
  · split at h <;> (try split at h) <;> omega
theorem z_lcmp_ne (hexec : p.tables.exec = Jvm.exec) (hb : c.code = cc) {x y : Int} (hx : -9223372036854775808 ≤ x ∧ x < 9223372036854775808) (hy : -9223372036854775808 ≤ y ∧ y < 9223372036854775808) {off : Int} {tgt : Nat} (hdg : decode cc pc = .ok (.lcmp, 1)) (hdg2 : decode cc (pc + 1) = .ok (.ifCond .ne off, 3)) (ht : ((pc + 1 : Nat) : Int) + off = (tgt : Int))
    (kt : x ≠ y → W p l e R s m args below meth c H locs cells slots Q (F0 m tgt ls rest)) (kf : x = y → W p l e R s m args below meth c H locs cells slots Q (F0 m (pc + 4) ls rest)) : W p l e R s m args below meth c H locs cells slots Q (F0 m pc ls (.long (lZ y) :: .long (lZ x) :: rest)) := by
  refine W.lcmp hexec hb hdg ?_
  rw [lZ_cmp hx hy]
  refine z_ine hexec hb (by split <;> (try split) <;> omega) hdg2 ht (fun h => kt ?_) (fun h => kf ?_)
  · split at h <;> (try split at h) <;> omega
  · split at h <;> (try split at h) <;> omega
theorem z_lcmp_lt (hexec : p.tables.exec = Jvm.exec) (hb : c.code = cc) {x y : Int} (hx : -9223372036854775808 ≤ x ∧ x < 9223372036854775808) (hy : -9223372036854775808 ≤ y ∧ y < 9223372036854775808) {off : Int} {tgt : Nat} (hdg : decode cc pc = .ok (.lcmp, 1)) (hdg2 : decode cc (pc + 1) = .ok (.ifCond .lt off, 3)) (ht : ((pc + 1 : Nat) : Int) + off = (tgt : Int))
    (kt : x < y → W p l e R s m args below meth c H locs cells slots Q (F0 m tgt ls rest)) (kf : y ≤ x → W p l e R s m args below meth c H locs cells slots Q (F0 m (pc + 4) ls rest)) : W p l e R s m args below meth c H locs cells slots Q (F0 m pc ls (.long (lZ y) :: .long (lZ x) :: rest)) := by
  refine W.lcmp hexec hb hdg ?_
  rw [lZ_cmp hx hy]
  refine z_ilt hexec hb (by split <;> (try split) <;> omega) hdg2 ht (fun h => kt ?_) (fun h => kf ?_)
  · split at h <;> (try split at h) <;> omega
  · split at h <;> (try split at h) <;> omega
theorem z_lcmp_ge (hexec : p.tables.exec = Jvm.exec) (hb : c.code = cc) {x y : Int} (hx : -9223372036854775808 ≤ x ∧ x < 9223372036854775808) (hy : -9223372036854775808 ≤ y ∧ y < 9223372036854775808) {off : Int} {tgt : Nat} (hdg : decode cc pc = .ok (.lcmp, 1)) (hdg2 : decode cc (pc + 1) = .ok (.ifCond .ge off, 3)) (ht : ((pc + 1 : Nat) : Int) + off = (tgt : Int))
    (kt : y ≤ x → W p l e R s m args below meth c H locs cells slots Q (F0 m tgt ls rest)) (kf : x < y → W p l e R s m args below meth c H locs cells slots Q (F0 m (pc + 4) ls rest)) : W p l e R s m args below meth c H locs cells slots Q (F0 m pc ls (.long (lZ y) :: .long (lZ x) :: rest)) := by
  refine W.lcmp hexec hb hdg ?_
  rw [lZ_cmp hx hy]
  refine z_ige hexec hb (by split <;> (try split) <;> omega) hdg2 ht (fun h => kt ?_) (fun h => kf ?_)
  · split at h <;> (try split at h) <;> omega
  · split at h <;> (try split at h) <;> omega
theorem z_lcmp_gt (hexec : p.tables.exec = Jvm.exec) (hb : c.code = cc) {x y : Int} (hx : -9223372036854775808 ≤ x ∧ x < 9223372036854775808) (hy : -9223372036854775808 ≤ y ∧ y < 9223372036854775808) {off : Int} {tgt : Nat} (hdg : decode cc pc = .ok (.lcmp, 1)) (hdg2 : decode cc (pc + 1) = .ok (.ifCond .gt off, 3)) (ht : ((pc + 1 : Nat) : Int) + off = (tgt : Int))
    (kt : y < x → W p l e R s m args below meth c H locs cells slots Q (F0 m tgt ls rest)) (kf : x ≤ y → W p l e R s m args below meth c H locs cells slots Q (F0 m (pc + 4) ls rest)) : W p l e R s m args below meth c H locs cells slots Q (F0 m pc ls (.long (lZ y) :: .long (lZ x) :: rest)) := by
  refine W.lcmp hexec hb hdg ?_
  rw [lZ_cmp hx hy]
  refine z_igt hexec hb (by split <;> (try split) <;> omega) hdg2 ht (fun h => kt ?_) (fun h => kf ?_)
  · split at h <;> (try split at h) <;> omega
  · split at h <;> (try split at h) <;> omega
theorem z_lcmp_le (hexec : p.tables.exec = Jvm.exec) (hb : c.code = cc) {x y : Int} (hx : -9223372036854775808 ≤ x ∧ x < 9223372036854775808) (hy : -9223372036854775808 ≤ y ∧ y < 9223372036854775808) {off : Int} {tgt : Nat} (hdg : decode cc pc = .ok (.lcmp, 1)) (hdg2 : decode cc (pc + 1) = .ok (.ifCond .le off, 3)) (ht : ((pc + 1 : Nat) : Int) + off = (tgt : Int))
    (kt : x ≤ y → W p l e R s m args below meth c H locs cells slots Q (F0 m tgt ls rest)) (kf : y < x → W p l e R s m args below meth c H locs cells slots Q (F0 m (pc + 4) ls rest)) : W p l e R s m args below meth c H locs cells slots Q (F0 m pc ls (.long (lZ y) :: .long (lZ x) :: rest)) := by
  refine W.lcmp hexec hb hdg ?_
  rw [lZ_cmp hx hy]
  refine z_ile hexec hb (by split <;> (try split) <;> omega) hdg2 ht (fun h => kt ?_) (fun h => kf ?_)
  · split at h <;> (try split at h) <;> omega
  · split at h <;> (try split at h) <;> omega
theorem z_lretR {v : Int64} {post : Int64 → Prop} (hexec : p.tables.exec = Jvm.exec) (hb : c.code = cc) (hr : meth.sig.returnType = some .long) (hlocks : meth.locks = false) (hQ : Q = MQ below (vp_Sl post) args s cells slots (fun _ => False)) (hp : post v) (hdg : decode cc pc = .ok (.lreturn, 1)) (hH : H = s.heap) (hlo : locs = []) : W p l e R s m args below meth c H locs cells slots Q (F0 m pc ls [.long v]) := by
  subst hQ; subst hH; subst hlo
  exact W.lret hexec hb hr (fun t ht _ => ⟨v, rfl, hp, ht⟩) (fun q h => by cases h) hdg hlocks
end ZL
end
section
section ZS
variable {p : Program} {l : Launch} {e : Env} {R : Room} {s : State} {m : MethodId} {args : Array Value} {below : List Frame} {meth : Method} {c : Code} {H : Heap} {locs : List Loc} {cells slots : Nat} {Q : State → Prop}
variable {y : MethodName} {bytes cc : ByteArray} {maxL nL n index : Nat} {ret : Option FieldType} {wk : List Cond} {rm : Room} {Ts : List Cond} {own C : String} {b : Addr} {As rest : List Value} {pc : Nat} {ls : Array Slot} {st : List Value}
variable {D : va_G} {cl : List vw_C} {ty : List (ClassId × FieldType)} {wc ws w1 wr ws' : va_W} {A : Nat → Prop} {H0 : Heap}
/-- a writing method without an answer, static -/
theorem z_cWSv (S : CallFix p m c cc nL s args Ts own) (hM : Met l y wk rm (zWr D cl ty wc H.size As) (zQv D cl ty (va_A wc H.size) w1) 0 0 (va_A wc H.size)) (cw : CallB R s args own index y bytes maxL ret wk rm 0 0 n ∧ (Cond.static y).before args s = true) (hP : va_P D cl ws H) (hK : va_K D cl ty s) (hD : va_D A ws) (hS : va_S A H0 H locs) (hA : ∀ q, H0.size ≤ q → A q) (isC isR pm : List Nat) (hC : isC.map (fun i => ws[i]?) = wc.map some) (hCf : isC.filterMap (fun i => ws[i]?) = wc) (hnC : va_nd isC = true) (hR : isR.map (fun i => ws[i]?) = wr.map some) (hnd : va_nd isR = true) (hdis : ∀ i ∈ isR, i ∉ isC) (hpn : va_nd pm = true) (hpm : pm.map (fun i => (wr ++ w1)[i]?) = ws'.map some) (hpf : pm.filterMap (fun i => (wr ++ w1)[i]?) = ws')
    (hn : As.length = n) (hl : ls.size = nL) (hst : st = As.reverse ++ rest) (hw : (rest.map fun v => v.category).sum ≤ 8) (hf : cells ≤ R.cells ∧ slots ≤ R.slots) (hdg : decode cc pc = .ok (.invokestatic index, 3))
    (kk : ∀ (H : Heap) (locs : List Loc), va_P D cl ws' H → va_D A ws' → va_S A H0 H locs → W p l e R s m args below meth c H locs cells slots Q (F0 m (pc + 3) ls rest)) : W p l e R s m args below meth c H locs cells slots Q (F0 m pc ls st) := by
  have hPc := hP.sub isC hCf
  have hDc := hD.sub isC hnC hC
  have hFc := va_free (wc := wc) hD hS hA isC hC
  refine va_callv (va_runS (As := As) (rest := rest) S hM cw ⟨zWr_blind, fun U hU hW => ⟨rfl, by rw [hU], by rw [hU]; exact hPc, va_K.moved hW.alike hK, hDc.weaken (fun _ _ _ _ => trivial)⟩⟩ rfl hn hl hst (lv_room hw) hdg hf) hS (fun q _ h => hFc q h) hFc (fun u t H1 locs1 ht hvm _ hB hz1 hk1 hS1 => ?_)
  obtain ⟨hP1, hK1, hD1⟩ := hB
  obtain ⟨a1, a2⟩ := z_back hP hD isC isR pm hC hR hnd hdis hFc hpn hpm hpf hk1 ht hP1 hD1
  exact kk H1 locs1 a1 a2 hS1
theorem z_cWSi {v : Int32} (S : CallFix p m c cc nL s args Ts own) (hM : Met l y wk rm (zWr D cl ty wc H.size As) (zQi D cl ty (va_A wc H.size) w1 v) 0 0 (va_A wc H.size)) (cw : CallB R s args own index y bytes maxL ret wk rm 0 0 n ∧ (Cond.static y).before args s = true) (hP : va_P D cl ws H) (hK : va_K D cl ty s) (hD : va_D A ws) (hS : va_S A H0 H locs) (hA : ∀ q, H0.size ≤ q → A q) (isC isR pm : List Nat) (hC : isC.map (fun i => ws[i]?) = wc.map some) (hCf : isC.filterMap (fun i => ws[i]?) = wc) (hnC : va_nd isC = true) (hR : isR.map (fun i => ws[i]?) = wr.map some) (hnd : va_nd isR = true) (hdis : ∀ i ∈ isR, i ∉ isC) (hpn : va_nd pm = true) (hpm : pm.map (fun i => (wr ++ w1)[i]?) = ws'.map some) (hpf : pm.filterMap (fun i => (wr ++ w1)[i]?) = ws')
    (hn : As.length = n) (hl : ls.size = nL) (hst : st = As.reverse ++ rest) (hw : (rest.map fun v => v.category).sum ≤ 8) (hf : cells ≤ R.cells ∧ slots ≤ R.slots) (hdg : decode cc pc = .ok (.invokestatic index, 3))
    (kk : ∀ (H : Heap) (locs : List Loc), va_P D cl ws' H → va_D A ws' → va_S A H0 H locs → W p l e R s m args below meth c H locs cells slots Q (F0 m (pc + 3) ls (.int v :: rest))) : W p l e R s m args below meth c H locs cells slots Q (F0 m pc ls st) := by
  have hPc := hP.sub isC hCf
  have hDc := hD.sub isC hnC hC
  have hFc := va_free (wc := wc) hD hS hA isC hC
  refine va_calli (va_runS (As := As) (rest := rest) S hM cw ⟨zWr_blind, fun U hU hW => ⟨rfl, by rw [hU], by rw [hU]; exact hPc, va_K.moved hW.alike hK, hDc.weaken (fun _ _ _ _ => trivial)⟩⟩ rfl hn hl hst (lv_room hw) hdg hf) hS (fun q _ h => hFc q h) hFc (fun r u t H1 locs1 ht hvm hr hB hz1 hk1 hS1 => ?_)
  obtain ⟨hP1, hK1, hD1⟩ := hB
  obtain ⟨a1, a2⟩ := z_back hP hD isC isR pm hC hR hnd hdis hFc hpn hpm hpf hk1 ht hP1 hD1
  subst hr
  exact kk H1 locs1 a1 a2 hS1
theorem z_cWSl {v : Int64} (S : CallFix p m c cc nL s args Ts own) (hM : Met l y wk rm (zWr D cl ty wc H.size As) (zQl D cl ty (va_A wc H.size) w1 v) 0 0 (va_A wc H.size)) (cw : CallB R s args own index y bytes maxL ret wk rm 0 0 n ∧ (Cond.static y).before args s = true) (hP : va_P D cl ws H) (hK : va_K D cl ty s) (hD : va_D A ws) (hS : va_S A H0 H locs) (hA : ∀ q, H0.size ≤ q → A q) (isC isR pm : List Nat) (hC : isC.map (fun i => ws[i]?) = wc.map some) (hCf : isC.filterMap (fun i => ws[i]?) = wc) (hnC : va_nd isC = true) (hR : isR.map (fun i => ws[i]?) = wr.map some) (hnd : va_nd isR = true) (hdis : ∀ i ∈ isR, i ∉ isC) (hpn : va_nd pm = true) (hpm : pm.map (fun i => (wr ++ w1)[i]?) = ws'.map some) (hpf : pm.filterMap (fun i => (wr ++ w1)[i]?) = ws')
    (hn : As.length = n) (hl : ls.size = nL) (hst : st = As.reverse ++ rest) (hw : (rest.map fun v => v.category).sum ≤ 8) (hf : cells ≤ R.cells ∧ slots ≤ R.slots) (hdg : decode cc pc = .ok (.invokestatic index, 3))
    (kk : ∀ (H : Heap) (locs : List Loc), va_P D cl ws' H → va_D A ws' → va_S A H0 H locs → W p l e R s m args below meth c H locs cells slots Q (F0 m (pc + 3) ls (.long v :: rest))) : W p l e R s m args below meth c H locs cells slots Q (F0 m pc ls st) := by
  have hPc := hP.sub isC hCf
  have hDc := hD.sub isC hnC hC
  have hFc := va_free (wc := wc) hD hS hA isC hC
  refine va_calll (va_runS (As := As) (rest := rest) S hM cw ⟨zWr_blind, fun U hU hW => ⟨rfl, by rw [hU], by rw [hU]; exact hPc, va_K.moved hW.alike hK, hDc.weaken (fun _ _ _ _ => trivial)⟩⟩ rfl hn hl hst (lv_room hw) hdg hf) hS (fun q _ h => hFc q h) hFc (fun r u t H1 locs1 ht hvm hr hB hz1 hk1 hS1 => ?_)
  obtain ⟨hP1, hK1, hD1⟩ := hB
  obtain ⟨a1, a2⟩ := z_back hP hD isC isR pm hC hR hnd hdis hFc hpn hpm hpf hk1 ht hP1 hD1
  subst hr
  exact kk H1 locs1 a1 a2 hS1
end ZS
end
section
/-- how many of the first k edges come to v, less how many go from it -/
def gSur (Fr To : Nat → Nat) (v : Nat) : Nat → Int
  | 0 => 0
  | k + 1 => gSur Fr To v k + ((if To k = v then 1 else 0) - (if Fr k = v then 1 else 0))
theorem gSur_rng (Fr To : Nat → Nat) (v : Nat) : ∀ k : Nat, -(k : Int) ≤ gSur Fr To v k ∧ gSur Fr To v k ≤ k
  | 0 => by simp [gSur]
  | k + 1 => by
    have h := gSur_rng Fr To v k
    simp only [gSur]
    split <;> split <;> omega
/-- whether z is a step from a -/
def gStep (dir : Bool) (Fr To : Nat → Nat) (me : Nat) (z : Int) (a : Nat) : Bool :=
  if z / 2 < 0 ∨ (me : Int) ≤ z / 2 then false
  else if z % 2 = 0 then decide (Fr (z / 2).toNat = a)
  else !dir && (decide (Fr (z / 2).toNat ≠ To (z / 2).toNat) && decide (To (z / 2).toNat = a))
def gEnd (Fr To : Nat → Nat) (z : Int) : Nat := if z % 2 = 0 then To (z / 2).toNat else Fr (z / 2).toNat
def gIsOdd (dir : Bool) (Fr To : Nat → Nat) (me v : Nat) : Bool := if dir = true then decide (gSur Fr To v me ≠ 0) else decide ((gSur Fr To v me % 2).toNat = 1)
/-- the odd ones of the first k vertices, as bits -/
def gOddM (dir : Bool) (Fr To : Nat → Nat) (me : Nat) : Nat → Nat
  | 0 => 0
  | k + 1 => if gIsOdd dir Fr To me k = true then gOddM dir Fr To me k ||| 2 ^ k else gOddM dir Fr To me k
/-- the vertices of the first k edges that have uses, as bits -/
def gTouch (Fr To : Nat → Nat) (U : Nat → Int) : Nat → Nat
  | 0 => 0
  | k + 1 => if 0 < U k then gTouch Fr To U k ||| (2 ^ Fr k ||| 2 ^ To k) else gTouch Fr To U k
def gRa (al : Bool) (Fr To : Nat → Nat) (r k : Nat) : Nat := if al = true ∧ r / 2 ^ Fr k % 2 = 1 then r ||| 2 ^ To k else r
def gRb (ag : Bool) (Fr To : Nat → Nat) (r k : Nat) : Nat := if ag = true ∧ r / 2 ^ To k % 2 = 1 then r ||| 2 ^ Fr k else r
def gR1 (al ag : Bool) (Fr To : Nat → Nat) (U : Nat → Int) (r k : Nat) : Nat := if 0 < U k then gRb ag Fr To (gRa al Fr To r k) k else r
/-- one pass over the first k edges -/
def gRP (al ag : Bool) (Fr To : Nat → Nat) (U : Nat → Int) (r : Nat) : Nat → Nat
  | 0 => r
  | k + 1 => gR1 al ag Fr To U (gRP al ag Fr To U r k) k
/-- n passes, or fewer when nothing changes -/
def gRL (al ag : Bool) (Fr To : Nat → Nat) (U : Nat → Int) (me : Nat) : Nat → Nat → Nat
  | 0, r => r
  | n + 1, r => if gRP al ag Fr To U r me = r then r else gRL al ag Fr To U me n (gRP al ag Fr To U r me)
section
variable {al ag : Bool} {Fr To : Nat → Nat} {U : Nat → Int}
theorem gRa_lt (hF : ∀ j, Fr j < 16) (hT : ∀ j, To j < 16) {r : Nat} (h : r < 65536) (k : Nat) : gRa al Fr To r k < 65536 := by
  unfold gRa; split
  · exact nb_lt h (nb_p2 (hT k))
  · exact h
theorem gRb_lt (hF : ∀ j, Fr j < 16) (hT : ∀ j, To j < 16) {r : Nat} (h : r < 65536) (k : Nat) : gRb ag Fr To r k < 65536 := by
  unfold gRb; split
  · exact nb_lt h (nb_p2 (hF k))
  · exact h
theorem gRP_lt (hF : ∀ j, Fr j < 16) (hT : ∀ j, To j < 16) {r : Nat} (h : r < 65536) : ∀ k, gRP al ag Fr To U r k < 65536
  | 0 => h
  | k + 1 => by
    have := gRP_lt hF hT h k
    simp only [gRP, gR1]; split
    · exact gRb_lt hF hT (gRa_lt hF hT this k) k
    · exact this
theorem gTouch_lt (hF : ∀ j, Fr j < 16) (hT : ∀ j, To j < 16) : ∀ k, gTouch Fr To U k < 65536
  | 0 => by simp [gTouch]
  | k + 1 => by
    have := gTouch_lt hF hT k
    simp only [gTouch]; split
    · exact nb_lt this (nb_lt (nb_p2 (hF k)) (nb_p2 (hT k)))
    · exact this
theorem gRL_lt (hF : ∀ j, Fr j < 16) (hT : ∀ j, To j < 16) {me : Nat} : ∀ (n : Nat) {r : Nat}, r < 65536 → gRL al ag Fr To U me n r < 65536
  | 0, _, h => h
  | n + 1, r, h => by
    simp only [gRL]; split
    · exact h
    · exact gRL_lt hF hT n (gRP_lt hF hT h me)
end
set_option maxHeartbeats 4000000 in
set_option maxRecDepth 100000 in
/-- Graph.surplusAt -/
theorem c_X2_surplusAt (l : Launch) (D : va_G) (cA : Nat → ClassId) (g : Nat) (gf : Nat) (gt : Nat) (gw : Nat) (Fr : Nat → Nat) (To : Nat → Nat) (dir : Bool) (nv : Nat) (me : Nat) (v : Nat) (hme : me ≤ 40) (hF : ∀ j, Fr j < 16) (hT : ∀ j, To j < 16) (hv : v < 2 ^ 31) : Met l yX2_surplusAt wsX2_surplusAt ({ frames := 0, cells := 0, slots := 0, locals := 0 } : Room) (zRd D vwCl (zT cA) [(g, .inr (2, [.ref gf, .ref gt, .ref gw, .int (zB dir), .int (nI nv), .int (nI me)])), (gf, aI cA 40 (fun j => nI (Fr j))), (gt, aI cA 40 (fun j => nI (To j)))] [.ref g, .int (nI v)]) (vp_Si (fun r => r = iZ (gSur Fr To v me))) 0 0 (fun _ => False) := by
  refine z_read (cc := cX2_surplusAt) (maxL := 4) (ret := (some .int)) (by decide) rfl (Nat.le_of_ble_eq_true rfl) ?_
  intro p e s m below meth c hx hb hr hml hown hts hlocks hP hK Q hQ ls hl
  have hown : s.vm.findClass RX2 = some m.cls := hown
  have hl : lv_has ls 4 [(0, .ref g), (1, .int (nI v))] := hl
  generalize hav : ([.ref g, .int (nI v)] : List Value).toArray = args at hts hQ ⊢
  have hin2 : ∀ w ∈ wsX20, w ∈ wsX2_surplusAt := by decide +kernel
  refine lv_iconst (v := iZ (gSur Fr To v 0)) hx hb dX2_surplusAt_0 (by rfl) ?_
  refine lv_istore_n (lv' := [(2, .int (iZ (gSur Fr To v 0))), (0, .ref g), (1, .int (nI v))]) hx hb dX2_surplusAt_1 rfl hl (by decide) rfl (fun ls hl => ?_)
  refine lv_iconst (v := nI 0) hx hb dX2_surplusAt_2 (by decide) ?_
  refine lv_istore_n (lv' := [(3, .int (nI 0)), (2, .int (iZ (gSur Fr To v 0))), (0, .ref g), (1, .int (nI v))]) hx hb dX2_surplusAt_3 rfl hl (by decide) rfl (fun ls hl => ?_)
  have J4 : ∀ (n : Nat), ∀ (i : Nat), (i ≤ me) → me - i < n → ∀ (ls : Array Slot), lv_has ls 4 [(0, .ref g), (1, .int (nI v)), (2, .int (iZ (gSur Fr To v i))), (3, .int (nI i))] → W p l e ({ frames := 0, cells := 0, slots := 0, locals := 0 } : Room) s m args below meth c s.heap [] 0 0 Q (F0 m 4 ls []) := by
    intro n4
    induction n4 with
    | zero => intro i hi hn; exact absurd hn (Nat.not_lt_zero _)
    | succ n4 ih4 =>
      intro i hi hn4 ls hl
      refine lv_iload_n hx hb dX2_surplusAt_4 rfl (lv_at hl 3 rfl) ?_
      refine lv_aload_n hx hb dX2_surplusAt_5 rfl (lv_at hl 0 rfl) ?_
      refine va_get (D := D) (ci := 2) (v := .int (nI me)) (C := RX2) (T := TX2) (N := 6) hx hb hts hin2 hown hK hP 0 rfl rfl 5 (by decide) (hts (.fieldLink RX2 29 "TourHouse$Graph" "edges" "I") (by decide +kernel)) (fun _ h9 => h9) rfl dX2_surplusAt_6 ?_
      refine z_ge hx hb (by omega) (by omega) (tgt := 52) dX2_surplusAt_9 (by decide) (fun h9 => ?_) (fun h9 => ?_)
      · skip
        refine lv_iload_n hx hb dX2_surplusAt_52 rfl (lv_at hl 2 rfl) ?_
        exact z_iretR hx hb hr hlocks hQ (by rw [show i = me from by omega]) dX2_surplusAt_53 rfl rfl
      · skip
        refine lv_iload_n hx hb dX2_surplusAt_12 rfl (lv_at hl 2 rfl) ?_
        refine lv_aload_n hx hb dX2_surplusAt_13 rfl (lv_at hl 0 rfl) ?_
        refine va_get (D := D) (ci := 2) (v := .ref gt) (C := RX2) (T := TX2) (N := 6) hx hb hts hin2 hown hK hP 0 rfl rfl 1 (by decide) (hts (.fieldLink RX2 15 "TourHouse$Graph" "to" "[I") (by decide +kernel)) (fun _ h9 => h9) rfl dX2_surplusAt_14 ?_
        refine lv_iload_n hx hb dX2_surplusAt_17 rfl (lv_at hl 3 rfl) ?_
        refine z_iald hx hb hK hP 2 0 rfl rfl (k := i) (by omega) (by decide) (v := nI (To i)) rfl dX2_surplusAt_18 ?_
        refine lv_iload_n hx hb dX2_surplusAt_19 rfl (lv_at hl 1 rfl) ?_
        refine z_ne hx hb (Nat.lt_trans (hT _) (by decide)) (by omega) (tgt := 27) dX2_surplusAt_20 (by decide) (fun h20 => ?_) (fun h20 => ?_)
        · skip
          refine lv_iconst (v := nI 0) hx hb dX2_surplusAt_27 (by decide) ?_
          refine lv_aload_n hx hb dX2_surplusAt_28 rfl (lv_at hl 0 rfl) ?_
          refine va_get (D := D) (ci := 2) (v := .ref gf) (C := RX2) (T := TX2) (N := 6) hx hb hts hin2 hown hK hP 0 rfl rfl 0 (by decide) (hts (.fieldLink RX2 9 "TourHouse$Graph" "from" "[I") (by decide +kernel)) (fun _ h9 => h9) rfl dX2_surplusAt_29 ?_
          refine lv_iload_n hx hb dX2_surplusAt_32 rfl (lv_at hl 3 rfl) ?_
          refine z_iald hx hb hK hP 1 0 rfl rfl (k := i) (by omega) (by decide) (v := nI (Fr i)) rfl dX2_surplusAt_33 ?_
          refine lv_iload_n hx hb dX2_surplusAt_34 rfl (lv_at hl 1 rfl) ?_
          refine z_ne hx hb (Nat.lt_trans (hF _) (by decide)) (by omega) (tgt := 42) dX2_surplusAt_35 (by decide) (fun h35 => ?_) (fun h35 => ?_)
          · skip
            refine lv_iconst (v := nI 0) hx hb dX2_surplusAt_42 (by decide) ?_
            refine lv_isub hx hb dX2_surplusAt_43 ?_
            refine z_topi (v := iZ (0 - 0)) (iZ_sub 0 0) ?_
            refine lv_iadd hx hb dX2_surplusAt_44 ?_
            refine z_topi (v := iZ (gSur Fr To v (i + 1))) (by rw [iZ_add]; congr 1; simp [gSur, h20, h35]) ?_
            refine lv_istore_n (lv' := [(2, .int (iZ (gSur Fr To v (i + 1)))), (0, .ref g), (1, .int (nI v)), (3, .int (nI i))]) hx hb dX2_surplusAt_45 rfl hl (by decide) rfl (fun ls hl => ?_)
            refine lv_iinc (v := nI (i + 1)) (lv' := [(3, .int (nI (i + 1))), (2, .int (iZ (gSur Fr To v (i + 1)))), (0, .ref g), (1, .int (nI v))]) hx hb dX2_surplusAt_46 hl (k := 3) rfl (nI_1 i) (by decide) rfl (fun ls hl => ?_)
            refine lv_goto (tgt := 4) hx hb dX2_surplusAt_49 (by decide) ?_
            exact ih4 (i + 1) (by omega) (by omega) ls (lv_sub hl [2, 3, 1, 0] (by rfl))
          · skip
            refine lv_iconst (v := nI 1) hx hb dX2_surplusAt_38 (by decide) ?_
            refine lv_goto (tgt := 43) hx hb dX2_surplusAt_39 (by decide) ?_
            refine lv_isub hx hb dX2_surplusAt_43 ?_
            refine z_topi (v := iZ (0 - 1)) (iZ_sub 0 1) ?_
            refine lv_iadd hx hb dX2_surplusAt_44 ?_
            refine z_topi (v := iZ (gSur Fr To v (i + 1))) (by rw [iZ_add]; congr 1; simp [gSur, h20, h35]) ?_
            refine lv_istore_n (lv' := [(2, .int (iZ (gSur Fr To v (i + 1)))), (0, .ref g), (1, .int (nI v)), (3, .int (nI i))]) hx hb dX2_surplusAt_45 rfl hl (by decide) rfl (fun ls hl => ?_)
            refine lv_iinc (v := nI (i + 1)) (lv' := [(3, .int (nI (i + 1))), (2, .int (iZ (gSur Fr To v (i + 1)))), (0, .ref g), (1, .int (nI v))]) hx hb dX2_surplusAt_46 hl (k := 3) rfl (nI_1 i) (by decide) rfl (fun ls hl => ?_)
            refine lv_goto (tgt := 4) hx hb dX2_surplusAt_49 (by decide) ?_
            exact ih4 (i + 1) (by omega) (by omega) ls (lv_sub hl [2, 3, 1, 0] (by rfl))
        · skip
          refine lv_iconst (v := nI 1) hx hb dX2_surplusAt_23 (by decide) ?_
          refine lv_goto (tgt := 28) hx hb dX2_surplusAt_24 (by decide) ?_
          refine lv_aload_n hx hb dX2_surplusAt_28 rfl (lv_at hl 0 rfl) ?_
          refine va_get (D := D) (ci := 2) (v := .ref gf) (C := RX2) (T := TX2) (N := 6) hx hb hts hin2 hown hK hP 0 rfl rfl 0 (by decide) (hts (.fieldLink RX2 9 "TourHouse$Graph" "from" "[I") (by decide +kernel)) (fun _ h9 => h9) rfl dX2_surplusAt_29 ?_
          refine lv_iload_n hx hb dX2_surplusAt_32 rfl (lv_at hl 3 rfl) ?_
          refine z_iald hx hb hK hP 1 0 rfl rfl (k := i) (by omega) (by decide) (v := nI (Fr i)) rfl dX2_surplusAt_33 ?_
          refine lv_iload_n hx hb dX2_surplusAt_34 rfl (lv_at hl 1 rfl) ?_
          refine z_ne hx hb (Nat.lt_trans (hF _) (by decide)) (by omega) (tgt := 42) dX2_surplusAt_35 (by decide) (fun h35 => ?_) (fun h35 => ?_)
          · skip
            refine lv_iconst (v := nI 0) hx hb dX2_surplusAt_42 (by decide) ?_
            refine lv_isub hx hb dX2_surplusAt_43 ?_
            refine z_topi (v := iZ (1 - 0)) (iZ_sub 1 0) ?_
            refine lv_iadd hx hb dX2_surplusAt_44 ?_
            refine z_topi (v := iZ (gSur Fr To v (i + 1))) (by rw [iZ_add]; congr 1; simp [gSur, h20, h35]) ?_
            refine lv_istore_n (lv' := [(2, .int (iZ (gSur Fr To v (i + 1)))), (0, .ref g), (1, .int (nI v)), (3, .int (nI i))]) hx hb dX2_surplusAt_45 rfl hl (by decide) rfl (fun ls hl => ?_)
            refine lv_iinc (v := nI (i + 1)) (lv' := [(3, .int (nI (i + 1))), (2, .int (iZ (gSur Fr To v (i + 1)))), (0, .ref g), (1, .int (nI v))]) hx hb dX2_surplusAt_46 hl (k := 3) rfl (nI_1 i) (by decide) rfl (fun ls hl => ?_)
            refine lv_goto (tgt := 4) hx hb dX2_surplusAt_49 (by decide) ?_
            exact ih4 (i + 1) (by omega) (by omega) ls (lv_sub hl [2, 3, 1, 0] (by rfl))
          · skip
            refine lv_iconst (v := nI 1) hx hb dX2_surplusAt_38 (by decide) ?_
            refine lv_goto (tgt := 43) hx hb dX2_surplusAt_39 (by decide) ?_
            refine lv_isub hx hb dX2_surplusAt_43 ?_
            refine z_topi (v := iZ (1 - 1)) (iZ_sub 1 1) ?_
            refine lv_iadd hx hb dX2_surplusAt_44 ?_
            refine z_topi (v := iZ (gSur Fr To v (i + 1))) (by rw [iZ_add]; congr 1; simp [gSur, h20, h35]) ?_
            refine lv_istore_n (lv' := [(2, .int (iZ (gSur Fr To v (i + 1)))), (0, .ref g), (1, .int (nI v)), (3, .int (nI i))]) hx hb dX2_surplusAt_45 rfl hl (by decide) rfl (fun ls hl => ?_)
            refine lv_iinc (v := nI (i + 1)) (lv' := [(3, .int (nI (i + 1))), (2, .int (iZ (gSur Fr To v (i + 1)))), (0, .ref g), (1, .int (nI v))]) hx hb dX2_surplusAt_46 hl (k := 3) rfl (nI_1 i) (by decide) rfl (fun ls hl => ?_)
            refine lv_goto (tgt := 4) hx hb dX2_surplusAt_49 (by decide) ?_
            exact ih4 (i + 1) (by omega) (by omega) ls (lv_sub hl [2, 3, 1, 0] (by rfl))
  exact J4 ((me - 0) + 1) 0 (by omega) (by omega) ls (lv_sub hl [2, 3, 1, 0] (by rfl))
set_option maxHeartbeats 4000000 in
set_option maxRecDepth 100000 in
/-- Graph.isStepFrom -/
theorem c_X2_isStepFrom (l : Launch) (D : va_G) (cA : Nat → ClassId) (g : Nat) (gf : Nat) (gt : Nat) (gw : Nat) (Fr : Nat → Nat) (To : Nat → Nat) (dir : Bool) (nv : Nat) (me : Nat) (z : Int) (a : Nat) (hme : me ≤ 40) (hF : ∀ j, Fr j < 16) (hT : ∀ j, To j < 16) (hz : -2147483648 ≤ z ∧ z < 2147483648) (ha : a < 16) : Met l yX2_isStepFrom wsX2_isStepFrom ({ frames := 0, cells := 0, slots := 0, locals := 0 } : Room) (zRd D vwCl (zT cA) [(g, .inr (2, [.ref gf, .ref gt, .ref gw, .int (zB dir), .int (nI nv), .int (nI me)])), (gf, aI cA 40 (fun j => nI (Fr j))), (gt, aI cA 40 (fun j => nI (To j)))] [.ref g, .int (iZ z), .int (nI a)]) (vp_Si (fun r => r = zB (gStep dir Fr To me z a))) 0 0 (fun _ => False) := by
  refine z_read (cc := cX2_isStepFrom) (maxL := 4) (ret := (some .boolean)) (by decide) rfl (Nat.le_of_ble_eq_true rfl) ?_
  intro p e s m below meth c hx hb hr hml hown hts hlocks hP hK Q hQ ls hl
  have hown : s.vm.findClass RX2 = some m.cls := hown
  have hl : lv_has ls 4 [(0, .ref g), (1, .int (iZ z)), (2, .int (nI a))] := hl
  generalize hav : ([.ref g, .int (iZ z), .int (nI a)] : List Value).toArray = args at hts hQ ⊢
  have hin2 : ∀ w ∈ wsX20, w ∈ wsX2_isStepFrom := by decide +kernel
  refine lv_iload_n hx hb dX2_isStepFrom_0 rfl (lv_at hl 1 rfl) ?_
  refine lv_iconst (v := nI 1) hx hb dX2_isStepFrom_1 (by decide) ?_
  refine lv_ishr hx hb dX2_isStepFrom_2 ?_
  refine z_topi (v := iZ (z / 2)) (nb_shr1 (by omega) (by omega)) ?_
  refine lv_istore_n (lv' := [(3, .int (iZ (z / 2))), (0, .ref g), (1, .int (iZ z)), (2, .int (nI a))]) hx hb dX2_isStepFrom_3 rfl hl (by decide) rfl (fun ls hl => ?_)
  refine lv_iload_n hx hb dX2_isStepFrom_4 rfl (lv_at hl 0 rfl) ?_
  refine z_ilt hx hb (x := z / 2) (⟨by omega, by omega⟩) (tgt := 16) dX2_isStepFrom_5 (by decide) (fun h5 => ?_) (fun h5 => ?_)
  · skip
    refine lv_iconst (v := zB false) hx hb dX2_isStepFrom_16 (by decide) ?_
    exact z_zretR hx hb hr hlocks hQ (by rw [gStep, if_pos (by omega)]) dX2_isStepFrom_17 rfl rfl
  · skip
    refine lv_iload_n hx hb dX2_isStepFrom_8 rfl (lv_at hl 0 rfl) ?_
    refine lv_aload_n hx hb dX2_isStepFrom_9 rfl (lv_at hl 1 rfl) ?_
    refine va_get (D := D) (ci := 2) (v := .int (nI me)) (C := RX2) (T := TX2) (N := 6) hx hb hts hin2 hown hK hP 0 rfl rfl 5 (by decide) (hts (.fieldLink RX2 29 "TourHouse$Graph" "edges" "I") (by decide +kernel)) (fun _ h9 => h9) rfl dX2_isStepFrom_10 ?_
    refine z_Ilt hx hb (x := z / 2) (y := ((me : Nat) : Int)) (⟨by omega, by omega⟩) (⟨by omega, by omega⟩) (tgt := 18) dX2_isStepFrom_13 (by decide) (fun h13 => ?_) (fun h13 => ?_)
    · skip
      refine lv_iload_n hx hb dX2_isStepFrom_18 rfl (lv_at hl 2 rfl) ?_
      refine lv_iconst (v := nI 1) hx hb dX2_isStepFrom_19 (by decide) ?_
      refine lv_iand hx hb dX2_isStepFrom_20 ?_
      refine z_topi (v := nI ((z % 2).toNat)) (nb_zand1 z) ?_
      refine z_nne hx hb (by omega) (tgt := 40) dX2_isStepFrom_21 (by decide) (fun h21 => ?_) (fun h21 => ?_)
      · skip
        refine lv_aload_n hx hb dX2_isStepFrom_40 rfl (lv_at hl 1 rfl) ?_
        refine va_get (D := D) (ci := 2) (v := .int (zB dir)) (C := RX2) (T := TX2) (N := 6) hx hb hts hin2 hown hK hP 0 rfl rfl 3 (by decide) (hts (.fieldLink RX2 21 "TourHouse$Graph" "directed" "Z") (by decide +kernel)) (fun _ h9 => h9) rfl dX2_isStepFrom_41 ?_
        refine z_ifne hx hb (tgt := 76) dX2_isStepFrom_44 (by decide) (fun h44 => ?_) (fun h44 => ?_)
        · skip
          refine lv_iconst (v := zB false) hx hb dX2_isStepFrom_76 (by decide) ?_
          exact z_zretR hx hb hr hlocks hQ (by rw [gStep, if_neg (by omega), if_neg (by omega)]; simp_all) dX2_isStepFrom_77 rfl rfl
        · skip
          refine lv_aload_n hx hb dX2_isStepFrom_47 rfl (lv_at hl 1 rfl) ?_
          refine va_get (D := D) (ci := 2) (v := .ref gf) (C := RX2) (T := TX2) (N := 6) hx hb hts hin2 hown hK hP 0 rfl rfl 0 (by decide) (hts (.fieldLink RX2 9 "TourHouse$Graph" "from" "[I") (by decide +kernel)) (fun _ h9 => h9) rfl dX2_isStepFrom_48 ?_
          refine lv_iload_n hx hb dX2_isStepFrom_51 rfl (lv_at hl 0 rfl) ?_
          refine z_topi (v := nI ((z / 2).toNat)) (iZ_toNat (by omega)) ?_
          refine z_iald hx hb hK hP 1 0 rfl rfl (k := ((z / 2).toNat)) (by omega) (by decide) (v := nI (Fr ((z / 2).toNat))) rfl dX2_isStepFrom_52 ?_
          refine lv_aload_n hx hb dX2_isStepFrom_53 rfl (lv_at hl 1 rfl) ?_
          refine va_get (D := D) (ci := 2) (v := .ref gt) (C := RX2) (T := TX2) (N := 6) hx hb hts hin2 hown hK hP 0 rfl rfl 1 (by decide) (hts (.fieldLink RX2 15 "TourHouse$Graph" "to" "[I") (by decide +kernel)) (fun _ h9 => h9) rfl dX2_isStepFrom_54 ?_
          refine lv_iload_n hx hb dX2_isStepFrom_57 rfl (lv_at hl 0 rfl) ?_
          refine z_topi (v := nI ((z / 2).toNat)) (iZ_toNat (by omega)) ?_
          refine z_iald hx hb hK hP 2 0 rfl rfl (k := ((z / 2).toNat)) (by omega) (by decide) (v := nI (To ((z / 2).toNat))) rfl dX2_isStepFrom_58 ?_
          refine z_eq hx hb (Nat.lt_trans (hF _) (by decide)) (Nat.lt_trans (hT _) (by decide)) (tgt := 76) dX2_isStepFrom_59 (by decide) (fun h59 => ?_) (fun h59 => ?_)
          · skip
            refine lv_iconst (v := zB false) hx hb dX2_isStepFrom_76 (by decide) ?_
            exact z_zretR hx hb hr hlocks hQ (by rw [gStep, if_neg (by omega), if_neg (by omega)]; simp_all) dX2_isStepFrom_77 rfl rfl
          · skip
            refine lv_aload_n hx hb dX2_isStepFrom_62 rfl (lv_at hl 1 rfl) ?_
            refine va_get (D := D) (ci := 2) (v := .ref gt) (C := RX2) (T := TX2) (N := 6) hx hb hts hin2 hown hK hP 0 rfl rfl 1 (by decide) (hts (.fieldLink RX2 15 "TourHouse$Graph" "to" "[I") (by decide +kernel)) (fun _ h9 => h9) rfl dX2_isStepFrom_63 ?_
            refine lv_iload_n hx hb dX2_isStepFrom_66 rfl (lv_at hl 0 rfl) ?_
            refine z_topi (v := nI ((z / 2).toNat)) (iZ_toNat (by omega)) ?_
            refine z_iald hx hb hK hP 2 0 rfl rfl (k := ((z / 2).toNat)) (by omega) (by decide) (v := nI (To ((z / 2).toNat))) rfl dX2_isStepFrom_67 ?_
            refine lv_iload_n hx hb dX2_isStepFrom_68 rfl (lv_at hl 3 rfl) ?_
            refine z_ne hx hb (Nat.lt_trans (hT _) (by decide)) (by omega) (tgt := 76) dX2_isStepFrom_69 (by decide) (fun h69 => ?_) (fun h69 => ?_)
            · skip
              refine lv_iconst (v := zB false) hx hb dX2_isStepFrom_76 (by decide) ?_
              exact z_zretR hx hb hr hlocks hQ (by rw [gStep, if_neg (by omega), if_neg (by omega)]; simp_all) dX2_isStepFrom_77 rfl rfl
            · skip
              refine lv_iconst (v := zB true) hx hb dX2_isStepFrom_72 (by decide) ?_
              refine lv_goto (tgt := 77) hx hb dX2_isStepFrom_73 (by decide) ?_
              exact z_zretR hx hb hr hlocks hQ (by rw [gStep, if_neg (by omega), if_neg (by omega)]; simp_all) dX2_isStepFrom_77 rfl rfl
      · skip
        refine lv_aload_n hx hb dX2_isStepFrom_24 rfl (lv_at hl 1 rfl) ?_
        refine va_get (D := D) (ci := 2) (v := .ref gf) (C := RX2) (T := TX2) (N := 6) hx hb hts hin2 hown hK hP 0 rfl rfl 0 (by decide) (hts (.fieldLink RX2 9 "TourHouse$Graph" "from" "[I") (by decide +kernel)) (fun _ h9 => h9) rfl dX2_isStepFrom_25 ?_
        refine lv_iload_n hx hb dX2_isStepFrom_28 rfl (lv_at hl 0 rfl) ?_
        refine z_topi (v := nI ((z / 2).toNat)) (iZ_toNat (by omega)) ?_
        refine z_iald hx hb hK hP 1 0 rfl rfl (k := ((z / 2).toNat)) (by omega) (by decide) (v := nI (Fr ((z / 2).toNat))) rfl dX2_isStepFrom_29 ?_
        refine lv_iload_n hx hb dX2_isStepFrom_30 rfl (lv_at hl 3 rfl) ?_
        refine z_ne hx hb (Nat.lt_trans (hF _) (by decide)) (by omega) (tgt := 38) dX2_isStepFrom_31 (by decide) (fun h31 => ?_) (fun h31 => ?_)
        · skip
          refine lv_iconst (v := zB false) hx hb dX2_isStepFrom_38 (by decide) ?_
          exact z_zretR hx hb hr hlocks hQ (by rw [gStep, if_neg (by omega), if_pos (by omega)]; simp [h31]) dX2_isStepFrom_39 rfl rfl
        · skip
          refine lv_iconst (v := zB true) hx hb dX2_isStepFrom_34 (by decide) ?_
          refine lv_goto (tgt := 39) hx hb dX2_isStepFrom_35 (by decide) ?_
          exact z_zretR hx hb hr hlocks hQ (by rw [gStep, if_neg (by omega), if_pos (by omega)]; simp [h31]) dX2_isStepFrom_39 rfl rfl
    · skip
      refine lv_iconst (v := zB false) hx hb dX2_isStepFrom_16 (by decide) ?_
      exact z_zretR hx hb hr hlocks hQ (by rw [gStep, if_pos (by omega)]) dX2_isStepFrom_17 rfl rfl
set_option maxHeartbeats 4000000 in
set_option maxRecDepth 100000 in
/-- Graph.endOf -/
theorem c_X2_endOf (l : Launch) (D : va_G) (cA : Nat → ClassId) (g : Nat) (gf : Nat) (gt : Nat) (gw : Nat) (Fr : Nat → Nat) (To : Nat → Nat) (dir : Bool) (nv : Nat) (me : Nat) (z : Int) (hF : ∀ j, Fr j < 16) (hT : ∀ j, To j < 16) (hz : 0 ≤ z ∧ z < 80) : Met l yX2_endOf wsX2_endOf ({ frames := 0, cells := 0, slots := 0, locals := 0 } : Room) (zRd D vwCl (zT cA) [(g, .inr (2, [.ref gf, .ref gt, .ref gw, .int (zB dir), .int (nI nv), .int (nI me)])), (gf, aI cA 40 (fun j => nI (Fr j))), (gt, aI cA 40 (fun j => nI (To j)))] [.ref g, .int (iZ z)]) (vp_Si (fun r => r = nI (gEnd Fr To z))) 0 0 (fun _ => False) := by
  refine z_read (cc := cX2_endOf) (maxL := 2) (ret := (some .int)) (by decide) rfl (Nat.le_of_ble_eq_true rfl) ?_
  intro p e s m below meth c hx hb hr hml hown hts hlocks hP hK Q hQ ls hl
  have hown : s.vm.findClass RX2 = some m.cls := hown
  have hl : lv_has ls 2 [(0, .ref g), (1, .int (iZ z))] := hl
  generalize hav : ([.ref g, .int (iZ z)] : List Value).toArray = args at hts hQ ⊢
  have hin2 : ∀ w ∈ wsX20, w ∈ wsX2_endOf := by decide +kernel
  refine lv_iload_n hx hb dX2_endOf_0 rfl (lv_at hl 1 rfl) ?_
  refine lv_iconst (v := nI 1) hx hb dX2_endOf_1 (by decide) ?_
  refine lv_iand hx hb dX2_endOf_2 ?_
  refine z_topi (v := nI ((z % 2).toNat)) (nb_zand1 z) ?_
  refine z_nne hx hb (by omega) (tgt := 17) dX2_endOf_3 (by decide) (fun h3 => ?_) (fun h3 => ?_)
  · skip
    refine lv_aload_n hx hb dX2_endOf_17 rfl (lv_at hl 0 rfl) ?_
    refine va_get (D := D) (ci := 2) (v := .ref gf) (C := RX2) (T := TX2) (N := 6) hx hb hts hin2 hown hK hP 0 rfl rfl 0 (by decide) (hts (.fieldLink RX2 9 "TourHouse$Graph" "from" "[I") (by decide +kernel)) (fun _ h9 => h9) rfl dX2_endOf_18 ?_
    refine lv_iload_n hx hb dX2_endOf_21 rfl (lv_at hl 1 rfl) ?_
    refine lv_iconst (v := nI 1) hx hb dX2_endOf_22 (by decide) ?_
    refine lv_ishr hx hb dX2_endOf_23 ?_
    refine z_topi (v := nI ((z / 2).toNat)) (by rw [nb_shr1 (by omega) (by omega)]; exact iZ_toNat (by omega)) ?_
    refine z_iald hx hb hK hP 1 0 rfl rfl (k := ((z / 2).toNat)) (by omega) (by decide) (v := nI (Fr ((z / 2).toNat))) rfl dX2_endOf_24 ?_
    exact z_iretR hx hb hr hlocks hQ (by simp only [gEnd]; first | rw [if_pos (by omega)] | rw [if_neg (by omega)]) dX2_endOf_25 rfl rfl
  · skip
    refine lv_aload_n hx hb dX2_endOf_6 rfl (lv_at hl 0 rfl) ?_
    refine va_get (D := D) (ci := 2) (v := .ref gt) (C := RX2) (T := TX2) (N := 6) hx hb hts hin2 hown hK hP 0 rfl rfl 1 (by decide) (hts (.fieldLink RX2 15 "TourHouse$Graph" "to" "[I") (by decide +kernel)) (fun _ h9 => h9) rfl dX2_endOf_7 ?_
    refine lv_iload_n hx hb dX2_endOf_10 rfl (lv_at hl 1 rfl) ?_
    refine lv_iconst (v := nI 1) hx hb dX2_endOf_11 (by decide) ?_
    refine lv_ishr hx hb dX2_endOf_12 ?_
    refine z_topi (v := nI ((z / 2).toNat)) (by rw [nb_shr1 (by omega) (by omega)]; exact iZ_toNat (by omega)) ?_
    refine z_iald hx hb hK hP 2 0 rfl rfl (k := ((z / 2).toNat)) (by omega) (by decide) (v := nI (To ((z / 2).toNat))) rfl dX2_endOf_13 ?_
    refine lv_goto (tgt := 25) hx hb dX2_endOf_14 (by decide) ?_
    exact z_iretR hx hb hr hlocks hQ (by simp only [gEnd]; first | rw [if_pos (by omega)] | rw [if_neg (by omega)]) dX2_endOf_25 rfl rfl
set_option maxHeartbeats 4000000 in
set_option maxRecDepth 100000 in
/-- Graph.oddVertices -/
theorem c_X2_oddVertices (l : Launch) (D : va_G) (cA : Nat → ClassId) (g : Nat) (gf : Nat) (gt : Nat) (gw : Nat) (Fr : Nat → Nat) (To : Nat → Nat) (dir : Bool) (nv : Nat) (me : Nat) (hme : me ≤ 40) (hF : ∀ j, Fr j < 16) (hT : ∀ j, To j < 16) (hnv : nv ≤ 16) : Met l yX2_oddVertices wsX2_oddVertices ({ frames := 1, cells := 0, slots := 0, locals := 23 } : Room) (zRd D vwCl (zT cA) [(g, .inr (2, [.ref gf, .ref gt, .ref gw, .int (zB dir), .int (nI nv), .int (nI me)])), (gf, aI cA 40 (fun j => nI (Fr j))), (gt, aI cA 40 (fun j => nI (To j)))] [.ref g]) (vp_Si (fun r => r = nI (gOddM dir Fr To me nv))) 0 0 (fun _ => False) := by
  refine z_read (cc := cX2_oddVertices) (maxL := 4) (ret := (some .int)) (by decide) rfl (Nat.le_of_ble_eq_true rfl) ?_
  intro p e s m below meth c hx hb hr hml hown hts hlocks hP hK Q hQ ls hl
  have hown : s.vm.findClass RX2 = some m.cls := hown
  have hl : lv_has ls 4 [(0, .ref g)] := hl
  generalize hav : ([.ref g] : List Value).toArray = args at hts hQ ⊢
  have hin2 : ∀ w ∈ wsX20, w ∈ wsX2_oddVertices := by decide +kernel
  refine lv_iconst (v := nI (gOddM dir Fr To me 0)) hx hb dX2_oddVertices_0 (by rfl) ?_
  refine lv_istore_n (lv' := [(1, .int (nI (gOddM dir Fr To me 0))), (0, .ref g)]) hx hb dX2_oddVertices_1 rfl hl (by decide) rfl (fun ls hl => ?_)
  refine lv_iconst (v := nI 0) hx hb dX2_oddVertices_2 (by decide) ?_
  refine lv_istore_n (lv' := [(2, .int (nI 0)), (1, .int (nI (gOddM dir Fr To me 0))), (0, .ref g)]) hx hb dX2_oddVertices_3 rfl hl (by decide) rfl (fun ls hl => ?_)
  have J4 : ∀ (n : Nat), ∀ (i : Nat), (i ≤ nv) → nv - i < n → ∀ (ls : Array Slot), lv_has ls 4 [(0, .ref g), (1, .int (nI (gOddM dir Fr To me i))), (2, .int (nI i))] → W p l e ({ frames := 1, cells := 0, slots := 0, locals := 23 } : Room) s m args below meth c s.heap [] 0 0 Q (F0 m 4 ls []) := by
    intro n4
    induction n4 with
    | zero => intro i hi hn; exact absurd hn (Nat.not_lt_zero _)
    | succ n4 ih4 =>
      intro i hi hn4 ls hl
      refine lv_iload_n hx hb dX2_oddVertices_4 rfl (lv_at hl 2 rfl) ?_
      refine lv_aload_n hx hb dX2_oddVertices_5 rfl (lv_at hl 0 rfl) ?_
      refine va_get (D := D) (ci := 2) (v := .int (nI nv)) (C := RX2) (T := TX2) (N := 6) hx hb hts hin2 hown hK hP 0 rfl rfl 4 (by decide) (hts (.fieldLink RX2 25 "TourHouse$Graph" "vertices" "I") (by decide +kernel)) (fun _ h9 => h9) rfl dX2_oddVertices_6 ?_
      refine z_ge hx hb (by omega) (by omega) (tgt := 51) dX2_oddVertices_9 (by decide) (fun h9 => ?_) (fun h9 => ?_)
      · skip
        refine lv_iload_n hx hb dX2_oddVertices_51 rfl (lv_at hl 1 rfl) ?_
        exact z_iretR hx hb hr hlocks hQ (by rw [show i = nv from by omega]) dX2_oddVertices_52 rfl rfl
      · skip
        refine lv_aload_n hx hb dX2_oddVertices_12 rfl (lv_at hl 0 rfl) ?_
        refine lv_iload_n hx hb dX2_oddVertices_13 rfl (lv_at hl 2 rfl) ?_
        refine z_cRVi (wc := [(g, .inr (2, [.ref gf, .ref gt, .ref gw, .int (zB dir), .int (nI nv), .int (nI me)])), (gf, aI cA 40 (fun j => nI (Fr j))), (gt, aI cA 40 (fun j => nI (To j)))]) (rm := ({ frames := 0, cells := 0, slots := 0, locals := 0 } : Room)) (As := [.int (nI i)]) (rest := []) ⟨hx, hb, hml, hown, hts⟩ (c_X2_surplusAt l D cA g gf gt gw Fr To dir nv me i (by first | assumption | omega) (by first | assumption | omega) (by first | assumption | omega) (by first | assumption | omega)) (cwV 1 hts gX2_oddVertices_X2_surplusAt rfl rfl rfl (by decide +kernel) ⟨Nat.le_of_ble_eq_true rfl, Nat.le_of_ble_eq_true rfl⟩) hP hK [0, 1, 2] rfl 2 0 rfl rfl rfl hl.1 rfl (Nat.le_of_ble_eq_true rfl) ⟨Nat.zero_le _, Nat.zero_le _⟩ dX2_oddVertices_14 (fun r hr14 => ?_)
        subst hr14
        refine lv_istore_n (lv' := [(3, .int (iZ (gSur Fr To i me))), (0, .ref g), (1, .int (nI (gOddM dir Fr To me i))), (2, .int (nI i))]) hx hb dX2_oddVertices_17 rfl hl (by decide) rfl (fun ls hl => ?_)
        refine lv_aload_n hx hb dX2_oddVertices_18 rfl (lv_at hl 1 rfl) ?_
        refine va_get (D := D) (ci := 2) (v := .int (zB dir)) (C := RX2) (T := TX2) (N := 6) hx hb hts hin2 hown hK hP 0 rfl rfl 3 (by decide) (hts (.fieldLink RX2 21 "TourHouse$Graph" "directed" "Z") (by decide +kernel)) (fun _ h9 => h9) rfl dX2_oddVertices_19 ?_
        refine z_ifeq hx hb (tgt := 32) dX2_oddVertices_22 (by decide) (fun h22 => ?_) (fun h22 => ?_)
        · skip
          refine lv_iload_n hx hb dX2_oddVertices_32 rfl (lv_at hl 0 rfl) ?_
          refine lv_iconst (v := nI 1) hx hb dX2_oddVertices_33 (by decide) ?_
          refine lv_iand hx hb dX2_oddVertices_34 ?_
          refine z_topi (v := nI (((gSur Fr To i me) % 2).toNat)) (nb_zand1 (gSur Fr To i me)) ?_
          refine lv_iconst (v := nI 1) hx hb dX2_oddVertices_35 (by decide) ?_
          refine z_ne hx hb (by have := gSur_rng Fr To i me; omega) (by decide) (tgt := 45) dX2_oddVertices_36 (by decide) (fun h36 => ?_) (fun h36 => ?_)
          · skip
            have hl : lv_has ls 4 [(3, .int (iZ (gSur Fr To i me))), (0, .ref g), (1, .int (nI (gOddM dir Fr To me (i + 1)))), (2, .int (nI i))] := by
              have q9 : nI (gOddM dir Fr To me (i + 1)) = nI (gOddM dir Fr To me i) := by congr 1; simp only [gOddM, gIsOdd]; simp_all
              rw [q9]; exact hl
            refine lv_iinc (v := nI (i + 1)) (lv' := [(2, .int (nI (i + 1))), (3, .int (iZ (gSur Fr To i me))), (0, .ref g), (1, .int (nI (gOddM dir Fr To me (i + 1))))]) hx hb dX2_oddVertices_45 hl (k := 3) rfl (nI_1 i) (by decide) rfl (fun ls hl => ?_)
            refine lv_goto (tgt := 4) hx hb dX2_oddVertices_48 (by decide) ?_
            exact ih4 (i + 1) (by omega) (by omega) ls (lv_sub hl [2, 3, 0] (by rfl))
          · skip
            refine lv_iload_n hx hb dX2_oddVertices_39 rfl (lv_at hl 2 rfl) ?_
            refine lv_iconst (v := nI 1) hx hb dX2_oddVertices_40 (by decide) ?_
            refine lv_iload_n hx hb dX2_oddVertices_41 rfl (lv_at hl 3 rfl) ?_
            refine lv_ishl hx hb dX2_oddVertices_42 ?_
            refine z_topi (v := nI (2 ^ i)) (nb_shl1 (by omega)) ?_
            refine lv_ior hx hb dX2_oddVertices_43 ?_
            refine z_topi (v := nI ((gOddM dir Fr To me i) ||| (2 ^ i))) (nb_or _ _) ?_
            refine lv_istore_n (lv' := [(1, .int (nI ((gOddM dir Fr To me i) ||| (2 ^ i)))), (3, .int (iZ (gSur Fr To i me))), (0, .ref g), (2, .int (nI i))]) hx hb dX2_oddVertices_44 rfl hl (by decide) rfl (fun ls hl => ?_)
            have hl : lv_has ls 4 [(1, .int (nI (gOddM dir Fr To me (i + 1)))), (3, .int (iZ (gSur Fr To i me))), (0, .ref g), (2, .int (nI i))] := by
              have q9 : nI (gOddM dir Fr To me (i + 1)) = nI ((gOddM dir Fr To me i) ||| (2 ^ i)) := by congr 1; simp only [gOddM, gIsOdd]; simp_all
              rw [q9]; exact hl
            refine lv_iinc (v := nI (i + 1)) (lv' := [(2, .int (nI (i + 1))), (1, .int (nI (gOddM dir Fr To me (i + 1)))), (3, .int (iZ (gSur Fr To i me))), (0, .ref g)]) hx hb dX2_oddVertices_45 hl (k := 3) rfl (nI_1 i) (by decide) rfl (fun ls hl => ?_)
            refine lv_goto (tgt := 4) hx hb dX2_oddVertices_48 (by decide) ?_
            exact ih4 (i + 1) (by omega) (by omega) ls (lv_sub hl [3, 1, 0] (by rfl))
        · skip
          refine lv_iload_n hx hb dX2_oddVertices_25 rfl (lv_at hl 0 rfl) ?_
          refine z_ieq hx hb (x := gSur Fr To i me) (⟨by have := gSur_rng Fr To i me; omega, by have := gSur_rng Fr To i me; omega⟩) (tgt := 45) dX2_oddVertices_26 (by decide) (fun h26 => ?_) (fun h26 => ?_)
          · skip
            have hl : lv_has ls 4 [(3, .int (iZ (gSur Fr To i me))), (0, .ref g), (1, .int (nI (gOddM dir Fr To me (i + 1)))), (2, .int (nI i))] := by
              have q9 : nI (gOddM dir Fr To me (i + 1)) = nI (gOddM dir Fr To me i) := by congr 1; simp only [gOddM, gIsOdd]; simp_all
              rw [q9]; exact hl
            refine lv_iinc (v := nI (i + 1)) (lv' := [(2, .int (nI (i + 1))), (3, .int (iZ (gSur Fr To i me))), (0, .ref g), (1, .int (nI (gOddM dir Fr To me (i + 1))))]) hx hb dX2_oddVertices_45 hl (k := 3) rfl (nI_1 i) (by decide) rfl (fun ls hl => ?_)
            refine lv_goto (tgt := 4) hx hb dX2_oddVertices_48 (by decide) ?_
            exact ih4 (i + 1) (by omega) (by omega) ls (lv_sub hl [2, 3, 0] (by rfl))
          · skip
            refine lv_goto (tgt := 39) hx hb dX2_oddVertices_29 (by decide) ?_
            refine lv_iload_n hx hb dX2_oddVertices_39 rfl (lv_at hl 2 rfl) ?_
            refine lv_iconst (v := nI 1) hx hb dX2_oddVertices_40 (by decide) ?_
            refine lv_iload_n hx hb dX2_oddVertices_41 rfl (lv_at hl 3 rfl) ?_
            refine lv_ishl hx hb dX2_oddVertices_42 ?_
            refine z_topi (v := nI (2 ^ i)) (nb_shl1 (by omega)) ?_
            refine lv_ior hx hb dX2_oddVertices_43 ?_
            refine z_topi (v := nI ((gOddM dir Fr To me i) ||| (2 ^ i))) (nb_or _ _) ?_
            refine lv_istore_n (lv' := [(1, .int (nI ((gOddM dir Fr To me i) ||| (2 ^ i)))), (3, .int (iZ (gSur Fr To i me))), (0, .ref g), (2, .int (nI i))]) hx hb dX2_oddVertices_44 rfl hl (by decide) rfl (fun ls hl => ?_)
            have hl : lv_has ls 4 [(1, .int (nI (gOddM dir Fr To me (i + 1)))), (3, .int (iZ (gSur Fr To i me))), (0, .ref g), (2, .int (nI i))] := by
              have q9 : nI (gOddM dir Fr To me (i + 1)) = nI ((gOddM dir Fr To me i) ||| (2 ^ i)) := by congr 1; simp only [gOddM, gIsOdd]; simp_all
              rw [q9]; exact hl
            refine lv_iinc (v := nI (i + 1)) (lv' := [(2, .int (nI (i + 1))), (1, .int (nI (gOddM dir Fr To me (i + 1)))), (3, .int (iZ (gSur Fr To i me))), (0, .ref g)]) hx hb dX2_oddVertices_45 hl (k := 3) rfl (nI_1 i) (by decide) rfl (fun ls hl => ?_)
            refine lv_goto (tgt := 4) hx hb dX2_oddVertices_48 (by decide) ?_
            exact ih4 (i + 1) (by omega) (by omega) ls (lv_sub hl [3, 1, 0] (by rfl))
  exact J4 ((nv - 0) + 1) 0 (by omega) (by omega) ls (lv_sub hl [2, 1, 0] (by rfl))
set_option maxHeartbeats 4000000 in
set_option maxRecDepth 100000 in
/-- Graph.touchedBy -/
theorem c_X2_touchedBy (l : Launch) (D : va_G) (cA : Nat → ClassId) (g : Nat) (gf : Nat) (gt : Nat) (gw : Nat) (Fr : Nat → Nat) (To : Nat → Nat) (dir : Bool) (nv : Nat) (me : Nat) (ua : Nat) (U : Nat → Int) (hme : me ≤ 40) (hF : ∀ j, Fr j < 16) (hT : ∀ j, To j < 16) (hU : ∀ j, -2147483648 ≤ U j ∧ U j < 2147483648) : Met l yX2_touchedBy wsX2_touchedBy ({ frames := 0, cells := 0, slots := 0, locals := 0 } : Room) (zRd D vwCl (zT cA) [(g, .inr (2, [.ref gf, .ref gt, .ref gw, .int (zB dir), .int (nI nv), .int (nI me)])), (gf, aI cA 40 (fun j => nI (Fr j))), (gt, aI cA 40 (fun j => nI (To j))), (ua, aI cA 40 (fun j => iZ (U j)))] [.ref g, .ref ua]) (vp_Si (fun r => r = nI (gTouch Fr To U me))) 0 0 (fun _ => False) := by
  refine z_read (cc := cX2_touchedBy) (maxL := 4) (ret := (some .int)) (by decide) rfl (Nat.le_of_ble_eq_true rfl) ?_
  intro p e s m below meth c hx hb hr hml hown hts hlocks hP hK Q hQ ls hl
  have hown : s.vm.findClass RX2 = some m.cls := hown
  have hl : lv_has ls 4 [(0, .ref g), (1, .ref ua)] := hl
  generalize hav : ([.ref g, .ref ua] : List Value).toArray = args at hts hQ ⊢
  have hin2 : ∀ w ∈ wsX20, w ∈ wsX2_touchedBy := by decide +kernel
  refine lv_iconst (v := nI (gTouch Fr To U 0)) hx hb dX2_touchedBy_0 (by rfl) ?_
  refine lv_istore_n (lv' := [(2, .int (nI (gTouch Fr To U 0))), (0, .ref g), (1, .ref ua)]) hx hb dX2_touchedBy_1 rfl hl (by decide) rfl (fun ls hl => ?_)
  refine lv_iconst (v := nI 0) hx hb dX2_touchedBy_2 (by decide) ?_
  refine lv_istore_n (lv' := [(3, .int (nI 0)), (2, .int (nI (gTouch Fr To U 0))), (0, .ref g), (1, .ref ua)]) hx hb dX2_touchedBy_3 rfl hl (by decide) rfl (fun ls hl => ?_)
  have J4 : ∀ (n : Nat), ∀ (i : Nat), (i ≤ me) → me - i < n → ∀ (ls : Array Slot), lv_has ls 4 [(0, .ref g), (1, .ref ua), (2, .int (nI (gTouch Fr To U i))), (3, .int (nI i))] → W p l e ({ frames := 0, cells := 0, slots := 0, locals := 0 } : Room) s m args below meth c s.heap [] 0 0 Q (F0 m 4 ls []) := by
    intro n4
    induction n4 with
    | zero => intro i hi hn; exact absurd hn (Nat.not_lt_zero _)
    | succ n4 ih4 =>
      intro i hi hn4 ls hl
      refine lv_iload_n hx hb dX2_touchedBy_4 rfl (lv_at hl 3 rfl) ?_
      refine lv_aload_n hx hb dX2_touchedBy_5 rfl (lv_at hl 0 rfl) ?_
      refine va_get (D := D) (ci := 2) (v := .int (nI me)) (C := RX2) (T := TX2) (N := 6) hx hb hts hin2 hown hK hP 0 rfl rfl 5 (by decide) (hts (.fieldLink RX2 29 "TourHouse$Graph" "edges" "I") (by decide +kernel)) (fun _ h9 => h9) rfl dX2_touchedBy_6 ?_
      refine z_ge hx hb (by omega) (by omega) (tgt := 44) dX2_touchedBy_9 (by decide) (fun h9 => ?_) (fun h9 => ?_)
      · skip
        refine lv_iload_n hx hb dX2_touchedBy_44 rfl (lv_at hl 2 rfl) ?_
        exact z_iretR hx hb hr hlocks hQ (by rw [show i = me from by omega]) dX2_touchedBy_45 rfl rfl
      · skip
        refine lv_aload_n hx hb dX2_touchedBy_12 rfl (lv_at hl 1 rfl) ?_
        refine lv_iload_n hx hb dX2_touchedBy_13 rfl (lv_at hl 3 rfl) ?_
        refine z_iald hx hb hK hP 3 0 rfl rfl (k := i) (by omega) (by decide) (v := iZ (U i)) rfl dX2_touchedBy_14 ?_
        refine z_ile hx hb (x := U i) (hU _) (tgt := 38) dX2_touchedBy_15 (by decide) (fun h15 => ?_) (fun h15 => ?_)
        · skip
          have hl : lv_has ls 4 [(0, .ref g), (1, .ref ua), (2, .int (nI (gTouch Fr To U (i + 1)))), (3, .int (nI i))] := by
            have q9 : nI (gTouch Fr To U (i + 1)) = nI (gTouch Fr To U i) := by congr 1; simp only [gTouch]; first | rw [if_pos h15] | rw [if_neg (by omega)]
            rw [q9]; exact hl
          refine lv_iinc (v := nI (i + 1)) (lv' := [(3, .int (nI (i + 1))), (0, .ref g), (1, .ref ua), (2, .int (nI (gTouch Fr To U (i + 1))))]) hx hb dX2_touchedBy_38 hl (k := 3) rfl (nI_1 i) (by decide) rfl (fun ls hl => ?_)
          refine lv_goto (tgt := 4) hx hb dX2_touchedBy_41 (by decide) ?_
          exact ih4 (i + 1) (by omega) (by omega) ls (lv_sub hl [1, 2, 3, 0] (by rfl))
        · skip
          refine lv_iload_n hx hb dX2_touchedBy_18 rfl (lv_at hl 2 rfl) ?_
          refine lv_iconst (v := nI 1) hx hb dX2_touchedBy_19 (by decide) ?_
          refine lv_aload_n hx hb dX2_touchedBy_20 rfl (lv_at hl 0 rfl) ?_
          refine va_get (D := D) (ci := 2) (v := .ref gf) (C := RX2) (T := TX2) (N := 6) hx hb hts hin2 hown hK hP 0 rfl rfl 0 (by decide) (hts (.fieldLink RX2 9 "TourHouse$Graph" "from" "[I") (by decide +kernel)) (fun _ h9 => h9) rfl dX2_touchedBy_21 ?_
          refine lv_iload_n hx hb dX2_touchedBy_24 rfl (lv_at hl 3 rfl) ?_
          refine z_iald hx hb hK hP 1 0 rfl rfl (k := i) (by omega) (by decide) (v := nI (Fr i)) rfl dX2_touchedBy_25 ?_
          refine lv_ishl hx hb dX2_touchedBy_26 ?_
          refine z_topi (v := nI (2 ^ (Fr i))) (nb_shl1 (Nat.lt_trans (hF _) (by decide))) ?_
          refine lv_iconst (v := nI 1) hx hb dX2_touchedBy_27 (by decide) ?_
          refine lv_aload_n hx hb dX2_touchedBy_28 rfl (lv_at hl 0 rfl) ?_
          refine va_get (D := D) (ci := 2) (v := .ref gt) (C := RX2) (T := TX2) (N := 6) hx hb hts hin2 hown hK hP 0 rfl rfl 1 (by decide) (hts (.fieldLink RX2 15 "TourHouse$Graph" "to" "[I") (by decide +kernel)) (fun _ h9 => h9) rfl dX2_touchedBy_29 ?_
          refine lv_iload_n hx hb dX2_touchedBy_32 rfl (lv_at hl 3 rfl) ?_
          refine z_iald hx hb hK hP 2 0 rfl rfl (k := i) (by omega) (by decide) (v := nI (To i)) rfl dX2_touchedBy_33 ?_
          refine lv_ishl hx hb dX2_touchedBy_34 ?_
          refine z_topi (v := nI (2 ^ (To i))) (nb_shl1 (Nat.lt_trans (hT _) (by decide))) ?_
          refine lv_ior hx hb dX2_touchedBy_35 ?_
          refine z_topi (v := nI ((2 ^ (Fr i)) ||| (2 ^ (To i)))) (nb_or _ _) ?_
          refine lv_ior hx hb dX2_touchedBy_36 ?_
          refine z_topi (v := nI ((gTouch Fr To U i) ||| ((2 ^ (Fr i)) ||| (2 ^ (To i))))) (nb_or _ _) ?_
          refine lv_istore_n (lv' := [(2, .int (nI ((gTouch Fr To U i) ||| ((2 ^ (Fr i)) ||| (2 ^ (To i)))))), (0, .ref g), (1, .ref ua), (3, .int (nI i))]) hx hb dX2_touchedBy_37 rfl hl (by decide) rfl (fun ls hl => ?_)
          have hl : lv_has ls 4 [(2, .int (nI (gTouch Fr To U (i + 1)))), (0, .ref g), (1, .ref ua), (3, .int (nI i))] := by
            have q9 : nI (gTouch Fr To U (i + 1)) = nI ((gTouch Fr To U i) ||| ((2 ^ (Fr i)) ||| (2 ^ (To i)))) := by congr 1; simp only [gTouch]; first | rw [if_pos h15] | rw [if_neg (by omega)]
            rw [q9]; exact hl
          refine lv_iinc (v := nI (i + 1)) (lv' := [(3, .int (nI (i + 1))), (2, .int (nI (gTouch Fr To U (i + 1)))), (0, .ref g), (1, .ref ua)]) hx hb dX2_touchedBy_38 hl (k := 3) rfl (nI_1 i) (by decide) rfl (fun ls hl => ?_)
          refine lv_goto (tgt := 4) hx hb dX2_touchedBy_41 (by decide) ?_
          exact ih4 (i + 1) (by omega) (by omega) ls (lv_sub hl [2, 3, 1, 0] (by rfl))
  exact J4 ((me - 0) + 1) 0 (by omega) (by omega) ls (lv_sub hl [2, 3, 1, 0] (by rfl))
set_option maxHeartbeats 4000000 in
set_option maxRecDepth 100000 in
/-- Graph.reachOf -/
theorem c_X2_reachOf (l : Launch) (D : va_G) (cA : Nat → ClassId) (g : Nat) (gf : Nat) (gt : Nat) (gw : Nat) (Fr : Nat → Nat) (To : Nat → Nat) (dir : Bool) (nv : Nat) (me : Nat) (ua : Nat) (U : Nat → Int) (v : Nat) (al : Bool) (ag : Bool) (hme : me ≤ 40) (hF : ∀ j, Fr j < 16) (hT : ∀ j, To j < 16) (hU : ∀ j, -2147483648 ≤ U j ∧ U j < 2147483648) (hv : v < 16) : Met l yX2_reachOf wsX2_reachOf ({ frames := 0, cells := 0, slots := 0, locals := 0 } : Room) (zRd D vwCl (zT cA) [(g, .inr (2, [.ref gf, .ref gt, .ref gw, .int (zB dir), .int (nI nv), .int (nI me)])), (gf, aI cA 40 (fun j => nI (Fr j))), (gt, aI cA 40 (fun j => nI (To j))), (ua, aI cA 40 (fun j => iZ (U j)))] [.ref g, .int (nI v), .int (zB al), .int (zB ag), .ref ua]) (vp_Si (fun r => r = nI (gRL al ag Fr To U me 16 (2 ^ v)))) 0 0 (fun _ => False) := by
  refine z_read (cc := cX2_reachOf) (maxL := 9) (ret := (some .int)) (by decide) rfl (Nat.le_of_ble_eq_true rfl) ?_
  intro p e s m below meth c hx hb hr hml hown hts hlocks hP hK Q hQ ls hl
  have hown : s.vm.findClass RX2 = some m.cls := hown
  have hl : lv_has ls 9 [(0, .ref g), (1, .int (nI v)), (2, .int (zB al)), (3, .int (zB ag)), (4, .ref ua)] := hl
  generalize hav : ([.ref g, .int (nI v), .int (zB al), .int (zB ag), .ref ua] : List Value).toArray = args at hts hQ ⊢
  have hin2 : ∀ w ∈ wsX20, w ∈ wsX2_reachOf := by decide +kernel
  refine lv_iconst (v := nI 1) hx hb dX2_reachOf_0 (by decide) ?_
  refine lv_iload_n hx hb dX2_reachOf_1 rfl (lv_at hl 1 rfl) ?_
  refine lv_ishl hx hb dX2_reachOf_2 ?_
  refine z_topi (v := nI (2 ^ v)) (nb_shl1 (by omega)) ?_
  refine lv_istore (lv' := [(5, .int (nI (2 ^ v))), (0, .ref g), (1, .int (nI v)), (2, .int (zB al)), (3, .int (zB ag)), (4, .ref ua)]) hx hb dX2_reachOf_3 hl (by decide) rfl (fun ls hl => ?_)
  refine lv_iconst (v := nI 0) hx hb dX2_reachOf_5 (by decide) ?_
  refine lv_istore (lv' := [(6, .int (nI 0)), (5, .int (nI (2 ^ v))), (0, .ref g), (1, .int (nI v)), (2, .int (zB al)), (3, .int (zB ag)), (4, .ref ua)]) hx hb dX2_reachOf_6 hl (by decide) rfl (fun ls hl => ?_)
  have J8 : ∀ (n : Nat), ∀ (ps : Nat) (r : Nat), (ps ≤ 16) → (r < 65536) → (gRL al ag Fr To U me (16 - ps) r = gRL al ag Fr To U me 16 (2 ^ v)) → 16 - ps < n → ∀ (ls : Array Slot), lv_has ls 9 [(0, .ref g), (1, .int (nI v)), (2, .int (zB al)), (3, .int (zB ag)), (4, .ref ua), (5, .int (nI r)), (6, .int (nI ps))] → W p l e ({ frames := 0, cells := 0, slots := 0, locals := 0 } : Room) s m args below meth c s.heap [] 0 0 Q (F0 m 8 ls []) := by
    intro n8
    induction n8 with
    | zero => intro ps r hp hr16 hq hn; exact absurd hn (Nat.not_lt_zero _)
    | succ n8 ih8 =>
      intro ps r hp hr16 hq hn8 ls hl
      refine lv_iload hx hb dX2_reachOf_8 (lv_at hl 6 rfl) ?_
      refine lv_bipush (v := nI 16) hx hb dX2_reachOf_10 (by decide) ?_
      refine z_ge hx hb (by omega) (by decide) (tgt := 129) dX2_reachOf_12 (by decide) (fun h12 => ?_) (fun h12 => ?_)
      · skip
        refine lv_iload hx hb dX2_reachOf_129 (lv_at hl 5 rfl) ?_
        exact z_iretR hx hb hr hlocks hQ (by rw [← hq]; congr 1; first | (rw [show 16 - ps = 0 from by omega]; rfl) | (rw [show 16 - ps = (16 - (ps + 1)) + 1 from by omega, gRL, if_pos h117]; exact h117)) dX2_reachOf_131 rfl rfl
      · skip
        refine lv_iload hx hb dX2_reachOf_15 (lv_at hl 5 rfl) ?_
        refine lv_istore (lv' := [(7, .int (nI r)), (0, .ref g), (1, .int (nI v)), (2, .int (zB al)), (3, .int (zB ag)), (4, .ref ua), (5, .int (nI r)), (6, .int (nI ps))]) hx hb dX2_reachOf_17 hl (by decide) rfl (fun ls hl => ?_)
        refine lv_iconst (v := nI 0) hx hb dX2_reachOf_19 (by decide) ?_
        refine lv_istore (lv' := [(8, .int (nI 0)), (7, .int (nI r)), (0, .ref g), (1, .int (nI v)), (2, .int (zB al)), (3, .int (zB ag)), (4, .ref ua), (5, .int (nI r)), (6, .int (nI ps))]) hx hb dX2_reachOf_20 hl (by decide) rfl (fun ls hl => ?_)
        have J22 : ∀ (n : Nat), ∀ (i : Nat), (i ≤ me) → me - i < n → ∀ (ls : Array Slot), lv_has ls 9 [(0, .ref g), (1, .int (nI v)), (2, .int (zB al)), (3, .int (zB ag)), (4, .ref ua), (5, .int (nI (gRP al ag Fr To U r i))), (6, .int (nI ps)), (7, .int (nI r)), (8, .int (nI i))] → W p l e ({ frames := 0, cells := 0, slots := 0, locals := 0 } : Room) s m args below meth c s.heap [] 0 0 Q (F0 m 22 ls []) := by
          intro n22
          induction n22 with
          | zero => intro i hi hn; exact absurd hn (Nat.not_lt_zero _)
          | succ n22 ih22 =>
            intro i hi hn22 ls hl
            refine lv_iload hx hb dX2_reachOf_22 (lv_at hl 8 rfl) ?_
            refine lv_aload_n hx hb dX2_reachOf_24 rfl (lv_at hl 0 rfl) ?_
            refine va_get (D := D) (ci := 2) (v := .int (nI me)) (C := RX2) (T := TX2) (N := 6) hx hb hts hin2 hown hK hP 0 rfl rfl 5 (by decide) (hts (.fieldLink RX2 29 "TourHouse$Graph" "edges" "I") (by decide +kernel)) (fun _ h9 => h9) rfl dX2_reachOf_25 ?_
            refine z_ge hx hb (by omega) (by omega) (tgt := 113) dX2_reachOf_28 (by decide) (fun h28 => ?_) (fun h28 => ?_)
            · skip
              have hl : lv_has ls 9 [(0, .ref g), (1, .int (nI v)), (2, .int (zB al)), (3, .int (zB ag)), (4, .ref ua), (5, .int (nI (gRP al ag Fr To U r me))), (6, .int (nI ps)), (7, .int (nI r)), (8, .int (nI i))] := by
                have q9 : nI (gRP al ag Fr To U r me) = nI (gRP al ag Fr To U r i) := by rw [show i = me from by omega]
                rw [q9]; exact hl
              refine lv_iload hx hb dX2_reachOf_113 (lv_at hl 5 rfl) ?_
              refine lv_iload hx hb dX2_reachOf_115 (lv_at hl 7 rfl) ?_
              refine z_ne hx hb (Nat.lt_trans (gRP_lt hF hT hr16 me) (by decide)) (by omega) (tgt := 123) dX2_reachOf_117 (by decide) (fun h117 => ?_) (fun h117 => ?_)
              · skip
                refine lv_iinc (v := nI (ps + 1)) (lv' := [(6, .int (nI (ps + 1))), (0, .ref g), (1, .int (nI v)), (2, .int (zB al)), (3, .int (zB ag)), (4, .ref ua), (5, .int (nI (gRP al ag Fr To U r me))), (7, .int (nI r)), (8, .int (nI i))]) hx hb dX2_reachOf_123 hl (k := 6) rfl (nI_1 ps) (by decide) rfl (fun ls hl => ?_)
                refine lv_goto (tgt := 8) hx hb dX2_reachOf_126 (by decide) ?_
                exact ih8 (ps + 1) (gRP al ag Fr To U r me) (by omega) (gRP_lt hF hT hr16 me) (by rw [← hq, show 16 - ps = (16 - (ps + 1)) + 1 from by omega, gRL, if_neg h117]) (by omega) ls (lv_sub hl [1, 2, 3, 4, 5, 6, 0] (by rfl))
              · skip
                refine lv_goto (tgt := 129) hx hb dX2_reachOf_120 (by decide) ?_
                refine lv_iload hx hb dX2_reachOf_129 (lv_at hl 5 rfl) ?_
                exact z_iretR hx hb hr hlocks hQ (by rw [← hq]; congr 1; first | (rw [show 16 - ps = 0 from by omega]; rfl) | (rw [show 16 - ps = (16 - (ps + 1)) + 1 from by omega, gRL, if_pos h117]; exact h117)) dX2_reachOf_131 rfl rfl
            · skip
              refine lv_aload hx hb dX2_reachOf_31 (lv_at hl 4 rfl) ?_
              refine lv_iload hx hb dX2_reachOf_33 (lv_at hl 8 rfl) ?_
              refine z_iald hx hb hK hP 3 0 rfl rfl (k := i) (by omega) (by decide) (v := iZ (U i)) rfl dX2_reachOf_35 ?_
              refine z_ile hx hb (x := U i) (hU _) (tgt := 107) dX2_reachOf_36 (by decide) (fun h36 => ?_) (fun h36 => ?_)
              · skip
                have hl : lv_has ls 9 [(0, .ref g), (1, .int (nI v)), (2, .int (zB al)), (3, .int (zB ag)), (4, .ref ua), (5, .int (nI (gRP al ag Fr To U r (i + 1)))), (6, .int (nI ps)), (7, .int (nI r)), (8, .int (nI i))] := by
                  have q9 : nI (gRP al ag Fr To U r (i + 1)) = nI (gRP al ag Fr To U r i) := by congr 1; simp only [gRP, gR1, gRb]; first | rw [if_neg (by omega)] | simp_all
                  rw [q9]; exact hl
                refine lv_iinc (v := nI (i + 1)) (lv' := [(8, .int (nI (i + 1))), (0, .ref g), (1, .int (nI v)), (2, .int (zB al)), (3, .int (zB ag)), (4, .ref ua), (5, .int (nI (gRP al ag Fr To U r (i + 1)))), (6, .int (nI ps)), (7, .int (nI r))]) hx hb dX2_reachOf_107 hl (k := 8) rfl (nI_1 i) (by decide) rfl (fun ls hl => ?_)
                refine lv_goto (tgt := 22) hx hb dX2_reachOf_110 (by decide) ?_
                exact ih22 (i + 1) (by omega) (by omega) ls (lv_sub hl [1, 2, 3, 4, 5, 6, 7, 8, 0] (by rfl))
              · skip
                have J73 : ∀ (ls : Array Slot), lv_has ls 9 [(0, .ref g), (1, .int (nI v)), (2, .int (zB al)), (3, .int (zB ag)), (4, .ref ua), (5, .int (nI (gRa al Fr To (gRP al ag Fr To U r i) i))), (6, .int (nI ps)), (7, .int (nI r)), (8, .int (nI i))] → W p l e ({ frames := 0, cells := 0, slots := 0, locals := 0 } : Room) s m args below meth c s.heap [] 0 0 Q (F0 m 73 ls []) := by
                  intro   ls hl
                  refine lv_iload_n hx hb dX2_reachOf_73 rfl (lv_at hl 3 rfl) ?_
                  refine z_ifeq hx hb (tgt := 107) dX2_reachOf_74 (by decide) (fun h74 => ?_) (fun h74 => ?_)
                  · skip
                    have hl : lv_has ls 9 [(0, .ref g), (1, .int (nI v)), (2, .int (zB al)), (3, .int (zB ag)), (4, .ref ua), (5, .int (nI (gRP al ag Fr To U r (i + 1)))), (6, .int (nI ps)), (7, .int (nI r)), (8, .int (nI i))] := by
                      have q9 : nI (gRP al ag Fr To U r (i + 1)) = nI (gRa al Fr To (gRP al ag Fr To U r i) i) := by congr 1; simp only [gRP, gR1, gRb]; first | rw [if_neg (by omega)] | simp_all
                      rw [q9]; exact hl
                    refine lv_iinc (v := nI (i + 1)) (lv' := [(8, .int (nI (i + 1))), (0, .ref g), (1, .int (nI v)), (2, .int (zB al)), (3, .int (zB ag)), (4, .ref ua), (5, .int (nI (gRP al ag Fr To U r (i + 1)))), (6, .int (nI ps)), (7, .int (nI r))]) hx hb dX2_reachOf_107 hl (k := 8) rfl (nI_1 i) (by decide) rfl (fun ls hl => ?_)
                    refine lv_goto (tgt := 22) hx hb dX2_reachOf_110 (by decide) ?_
                    exact ih22 (i + 1) (by omega) (by omega) ls (lv_sub hl [1, 2, 3, 4, 5, 6, 7, 8, 0] (by rfl))
                  · skip
                    refine lv_iload hx hb dX2_reachOf_77 (lv_at hl 5 rfl) ?_
                    refine lv_aload_n hx hb dX2_reachOf_79 rfl (lv_at hl 0 rfl) ?_
                    refine va_get (D := D) (ci := 2) (v := .ref gt) (C := RX2) (T := TX2) (N := 6) hx hb hts hin2 hown hK hP 0 rfl rfl 1 (by decide) (hts (.fieldLink RX2 15 "TourHouse$Graph" "to" "[I") (by decide +kernel)) (fun _ h9 => h9) rfl dX2_reachOf_80 ?_
                    refine lv_iload hx hb dX2_reachOf_83 (lv_at hl 8 rfl) ?_
                    refine z_iald hx hb hK hP 2 0 rfl rfl (k := i) (by omega) (by decide) (v := nI (To i)) rfl dX2_reachOf_85 ?_
                    refine lv_ishr hx hb dX2_reachOf_86 ?_
                    refine z_topi (v := nI ((gRa al Fr To (gRP al ag Fr To U r i) i) / 2 ^ (To i))) (nb_shr (Nat.lt_trans (gRa_lt hF hT (gRP_lt hF hT hr16 i) i) (by decide)) (Nat.lt_trans (hT _) (by decide))) ?_
                    refine lv_iconst (v := nI 1) hx hb dX2_reachOf_87 (by decide) ?_
                    refine lv_iand hx hb dX2_reachOf_88 ?_
                    refine z_topi (v := nI (((gRa al Fr To (gRP al ag Fr To U r i) i) / 2 ^ (To i)) % 2)) (nb_and1 ((gRa al Fr To (gRP al ag Fr To U r i) i) / 2 ^ (To i))) ?_
                    refine lv_iconst (v := nI 1) hx hb dX2_reachOf_89 (by decide) ?_
                    refine z_ne hx hb (by omega) (by decide) (tgt := 107) dX2_reachOf_90 (by decide) (fun h90 => ?_) (fun h90 => ?_)
                    · skip
                      have hl : lv_has ls 9 [(0, .ref g), (1, .int (nI v)), (2, .int (zB al)), (3, .int (zB ag)), (4, .ref ua), (5, .int (nI (gRP al ag Fr To U r (i + 1)))), (6, .int (nI ps)), (7, .int (nI r)), (8, .int (nI i))] := by
                        have q9 : nI (gRP al ag Fr To U r (i + 1)) = nI (gRa al Fr To (gRP al ag Fr To U r i) i) := by congr 1; simp only [gRP, gR1, gRb]; first | rw [if_neg (by omega)] | simp_all
                        rw [q9]; exact hl
                      refine lv_iinc (v := nI (i + 1)) (lv' := [(8, .int (nI (i + 1))), (0, .ref g), (1, .int (nI v)), (2, .int (zB al)), (3, .int (zB ag)), (4, .ref ua), (5, .int (nI (gRP al ag Fr To U r (i + 1)))), (6, .int (nI ps)), (7, .int (nI r))]) hx hb dX2_reachOf_107 hl (k := 8) rfl (nI_1 i) (by decide) rfl (fun ls hl => ?_)
                      refine lv_goto (tgt := 22) hx hb dX2_reachOf_110 (by decide) ?_
                      exact ih22 (i + 1) (by omega) (by omega) ls (lv_sub hl [1, 2, 3, 4, 5, 6, 7, 8, 0] (by rfl))
                    · skip
                      refine lv_iload hx hb dX2_reachOf_93 (lv_at hl 5 rfl) ?_
                      refine lv_iconst (v := nI 1) hx hb dX2_reachOf_95 (by decide) ?_
                      refine lv_aload_n hx hb dX2_reachOf_96 rfl (lv_at hl 0 rfl) ?_
                      refine va_get (D := D) (ci := 2) (v := .ref gf) (C := RX2) (T := TX2) (N := 6) hx hb hts hin2 hown hK hP 0 rfl rfl 0 (by decide) (hts (.fieldLink RX2 9 "TourHouse$Graph" "from" "[I") (by decide +kernel)) (fun _ h9 => h9) rfl dX2_reachOf_97 ?_
                      refine lv_iload hx hb dX2_reachOf_100 (lv_at hl 8 rfl) ?_
                      refine z_iald hx hb hK hP 1 0 rfl rfl (k := i) (by omega) (by decide) (v := nI (Fr i)) rfl dX2_reachOf_102 ?_
                      refine lv_ishl hx hb dX2_reachOf_103 ?_
                      refine z_topi (v := nI (2 ^ (Fr i))) (nb_shl1 (Nat.lt_trans (hF _) (by decide))) ?_
                      refine lv_ior hx hb dX2_reachOf_104 ?_
                      refine z_topi (v := nI ((gRa al Fr To (gRP al ag Fr To U r i) i) ||| (2 ^ (Fr i)))) (nb_or _ _) ?_
                      refine lv_istore (lv' := [(5, .int (nI ((gRa al Fr To (gRP al ag Fr To U r i) i) ||| (2 ^ (Fr i))))), (0, .ref g), (1, .int (nI v)), (2, .int (zB al)), (3, .int (zB ag)), (4, .ref ua), (6, .int (nI ps)), (7, .int (nI r)), (8, .int (nI i))]) hx hb dX2_reachOf_105 hl (by decide) rfl (fun ls hl => ?_)
                      have hl : lv_has ls 9 [(5, .int (nI (gRP al ag Fr To U r (i + 1)))), (0, .ref g), (1, .int (nI v)), (2, .int (zB al)), (3, .int (zB ag)), (4, .ref ua), (6, .int (nI ps)), (7, .int (nI r)), (8, .int (nI i))] := by
                        have q9 : nI (gRP al ag Fr To U r (i + 1)) = nI ((gRa al Fr To (gRP al ag Fr To U r i) i) ||| (2 ^ (Fr i))) := by congr 1; simp only [gRP, gR1, gRb]; first | rw [if_neg (by omega)] | simp_all
                        rw [q9]; exact hl
                      refine lv_iinc (v := nI (i + 1)) (lv' := [(8, .int (nI (i + 1))), (5, .int (nI (gRP al ag Fr To U r (i + 1)))), (0, .ref g), (1, .int (nI v)), (2, .int (zB al)), (3, .int (zB ag)), (4, .ref ua), (6, .int (nI ps)), (7, .int (nI r))]) hx hb dX2_reachOf_107 hl (k := 8) rfl (nI_1 i) (by decide) rfl (fun ls hl => ?_)
                      refine lv_goto (tgt := 22) hx hb dX2_reachOf_110 (by decide) ?_
                      exact ih22 (i + 1) (by omega) (by omega) ls (lv_sub hl [2, 3, 4, 5, 6, 1, 7, 8, 0] (by rfl))
                refine lv_iload_n hx hb dX2_reachOf_39 rfl (lv_at hl 2 rfl) ?_
                refine z_ifeq hx hb (tgt := 73) dX2_reachOf_40 (by decide) (fun h40 => ?_) (fun h40 => ?_)
                · skip
                  have hl : lv_has ls 9 [(0, .ref g), (1, .int (nI v)), (2, .int (zB al)), (3, .int (zB ag)), (4, .ref ua), (5, .int (nI (gRa al Fr To (gRP al ag Fr To U r i) i))), (6, .int (nI ps)), (7, .int (nI r)), (8, .int (nI i))] := by
                    have q9 : nI (gRa al Fr To (gRP al ag Fr To U r i) i) = nI (gRP al ag Fr To U r i) := by congr 1; simp only [gRa]; simp_all
                    rw [q9]; exact hl
                  exact J73   ls (lv_sub hl [0, 1, 2, 3, 4, 5, 6, 7, 8] (by rfl))
                · skip
                  refine lv_iload hx hb dX2_reachOf_43 (lv_at hl 5 rfl) ?_
                  refine lv_aload_n hx hb dX2_reachOf_45 rfl (lv_at hl 0 rfl) ?_
                  refine va_get (D := D) (ci := 2) (v := .ref gf) (C := RX2) (T := TX2) (N := 6) hx hb hts hin2 hown hK hP 0 rfl rfl 0 (by decide) (hts (.fieldLink RX2 9 "TourHouse$Graph" "from" "[I") (by decide +kernel)) (fun _ h9 => h9) rfl dX2_reachOf_46 ?_
                  refine lv_iload hx hb dX2_reachOf_49 (lv_at hl 8 rfl) ?_
                  refine z_iald hx hb hK hP 1 0 rfl rfl (k := i) (by omega) (by decide) (v := nI (Fr i)) rfl dX2_reachOf_51 ?_
                  refine lv_ishr hx hb dX2_reachOf_52 ?_
                  refine z_topi (v := nI ((gRP al ag Fr To U r i) / 2 ^ (Fr i))) (nb_shr (Nat.lt_trans (gRP_lt hF hT hr16 i) (by decide)) (Nat.lt_trans (hF _) (by decide))) ?_
                  refine lv_iconst (v := nI 1) hx hb dX2_reachOf_53 (by decide) ?_
                  refine lv_iand hx hb dX2_reachOf_54 ?_
                  refine z_topi (v := nI (((gRP al ag Fr To U r i) / 2 ^ (Fr i)) % 2)) (nb_and1 ((gRP al ag Fr To U r i) / 2 ^ (Fr i))) ?_
                  refine lv_iconst (v := nI 1) hx hb dX2_reachOf_55 (by decide) ?_
                  refine z_ne hx hb (by omega) (by decide) (tgt := 73) dX2_reachOf_56 (by decide) (fun h56 => ?_) (fun h56 => ?_)
                  · skip
                    have hl : lv_has ls 9 [(0, .ref g), (1, .int (nI v)), (2, .int (zB al)), (3, .int (zB ag)), (4, .ref ua), (5, .int (nI (gRa al Fr To (gRP al ag Fr To U r i) i))), (6, .int (nI ps)), (7, .int (nI r)), (8, .int (nI i))] := by
                      have q9 : nI (gRa al Fr To (gRP al ag Fr To U r i) i) = nI (gRP al ag Fr To U r i) := by congr 1; simp only [gRa]; simp_all
                      rw [q9]; exact hl
                    exact J73   ls (lv_sub hl [0, 1, 2, 3, 4, 5, 6, 7, 8] (by rfl))
                  · skip
                    refine lv_iload hx hb dX2_reachOf_59 (lv_at hl 5 rfl) ?_
                    refine lv_iconst (v := nI 1) hx hb dX2_reachOf_61 (by decide) ?_
                    refine lv_aload_n hx hb dX2_reachOf_62 rfl (lv_at hl 0 rfl) ?_
                    refine va_get (D := D) (ci := 2) (v := .ref gt) (C := RX2) (T := TX2) (N := 6) hx hb hts hin2 hown hK hP 0 rfl rfl 1 (by decide) (hts (.fieldLink RX2 15 "TourHouse$Graph" "to" "[I") (by decide +kernel)) (fun _ h9 => h9) rfl dX2_reachOf_63 ?_
                    refine lv_iload hx hb dX2_reachOf_66 (lv_at hl 8 rfl) ?_
                    refine z_iald hx hb hK hP 2 0 rfl rfl (k := i) (by omega) (by decide) (v := nI (To i)) rfl dX2_reachOf_68 ?_
                    refine lv_ishl hx hb dX2_reachOf_69 ?_
                    refine z_topi (v := nI (2 ^ (To i))) (nb_shl1 (Nat.lt_trans (hT _) (by decide))) ?_
                    refine lv_ior hx hb dX2_reachOf_70 ?_
                    refine z_topi (v := nI ((gRP al ag Fr To U r i) ||| (2 ^ (To i)))) (nb_or _ _) ?_
                    refine lv_istore (lv' := [(5, .int (nI ((gRP al ag Fr To U r i) ||| (2 ^ (To i))))), (0, .ref g), (1, .int (nI v)), (2, .int (zB al)), (3, .int (zB ag)), (4, .ref ua), (6, .int (nI ps)), (7, .int (nI r)), (8, .int (nI i))]) hx hb dX2_reachOf_71 hl (by decide) rfl (fun ls hl => ?_)
                    have hl : lv_has ls 9 [(5, .int (nI (gRa al Fr To (gRP al ag Fr To U r i) i))), (0, .ref g), (1, .int (nI v)), (2, .int (zB al)), (3, .int (zB ag)), (4, .ref ua), (6, .int (nI ps)), (7, .int (nI r)), (8, .int (nI i))] := by
                      have q9 : nI (gRa al Fr To (gRP al ag Fr To U r i) i) = nI ((gRP al ag Fr To U r i) ||| (2 ^ (To i))) := by congr 1; simp only [gRa]; simp_all
                      rw [q9]; exact hl
                    exact J73   ls (lv_sub hl [1, 2, 3, 4, 5, 0, 6, 7, 8] (by rfl))
        exact J22 ((me - 0) + 1) 0 (by omega) (by omega) ls (lv_sub hl [2, 3, 4, 5, 6, 7, 8, 1, 0] (by rfl))
  exact J8 ((16 - 0) + 1) 0 (2 ^ v) (by omega) (nb_p2 hv) rfl (by omega) ls (lv_sub hl [2, 3, 4, 5, 6, 1, 0] (by rfl))
end
section
def gHang (Fr To : Nat → Nat) (U : Nat → Int) (me v : Nat) : Bool := decide (gTouch Fr To U me &&& (65535 ^^^ gRL true true Fr To U me 16 (2 ^ v)) = 0)
def gCover (dir : Bool) (Fr To : Nat → Nat) (U : Nat → Int) (me v : Nat) : Bool := decide (gTouch Fr To U me &&& (65535 ^^^ gRL true (!dir) Fr To U me 16 (2 ^ v)) = 0) && decide (gTouch Fr To U me &&& (65535 ^^^ gRL (!dir) true Fr To U me 16 (2 ^ v)) = 0)
/-- what is left of the touched vertices behind the first k, and how many regions were met -/
def gReg (Fr To : Nat → Nat) (U : Nat → Int) (me : Nat) : Nat → Nat × Nat
  | 0 => (gTouch Fr To U me, 0)
  | k + 1 => if (gReg Fr To U me k).1 / 2 ^ k % 2 = 1 then ((gReg Fr To U me k).1 &&& (65535 ^^^ gRL true true Fr To U me 16 (2 ^ k)), (gReg Fr To U me k).2 + 1) else gReg Fr To U me k
theorem gReg_lt {Fr To : Nat → Nat} {U : Nat → Int} {me : Nat} (hF : ∀ j, Fr j < 16) (hT : ∀ j, To j < 16) : ∀ k, (gReg Fr To U me k).1 < 65536
  | 0 => gTouch_lt hF hT me
  | k + 1 => by
    have := gReg_lt (U := U) (me := me) hF hT k
    simp only [gReg]; split
    · exact Nat.lt_of_le_of_lt Nat.and_le_left this
    · exact this
set_option maxHeartbeats 4000000 in
set_option maxRecDepth 100000 in
/-- Graph.hangsTogetherAt -/
theorem c_X2_hangsTogetherAt (l : Launch) (D : va_G) (cA : Nat → ClassId) (g : Nat) (gf : Nat) (gt : Nat) (gw : Nat) (Fr : Nat → Nat) (To : Nat → Nat) (dir : Bool) (nv : Nat) (me : Nat) (ua : Nat) (U : Nat → Int) (v : Nat) (hme : me ≤ 40) (hF : ∀ j, Fr j < 16) (hT : ∀ j, To j < 16) (hU : ∀ j, -2147483648 ≤ U j ∧ U j < 2147483648) (hv : v < 16) : Met l yX2_hangsTogetherAt wsX2_hangsTogetherAt ({ frames := 1, cells := 0, slots := 0, locals := 28 } : Room) (zRd D vwCl (zT cA) [(g, .inr (2, [.ref gf, .ref gt, .ref gw, .int (zB dir), .int (nI nv), .int (nI me)])), (gf, aI cA 40 (fun j => nI (Fr j))), (gt, aI cA 40 (fun j => nI (To j))), (ua, aI cA 40 (fun j => iZ (U j)))] [.ref g, .int (nI v), .ref ua]) (vp_Si (fun r => r = zB (gHang Fr To U me v))) 0 0 (fun _ => False) := by
  refine z_read (cc := cX2_hangsTogetherAt) (maxL := 3) (ret := (some .boolean)) (by decide) rfl (Nat.le_of_ble_eq_true rfl) ?_
  intro p e s m below meth c hx hb hr hml hown hts hlocks hP hK Q hQ ls hl
  have hown : s.vm.findClass RX2 = some m.cls := hown
  have hl : lv_has ls 3 [(0, .ref g), (1, .int (nI v)), (2, .ref ua)] := hl
  generalize hav : ([.ref g, .int (nI v), .ref ua] : List Value).toArray = args at hts hQ ⊢
  refine lv_aload_n hx hb dX2_hangsTogetherAt_0 rfl (lv_at hl 0 rfl) ?_
  refine lv_aload_n hx hb dX2_hangsTogetherAt_1 rfl (lv_at hl 2 rfl) ?_
  refine z_cRVi (wc := [(g, .inr (2, [.ref gf, .ref gt, .ref gw, .int (zB dir), .int (nI nv), .int (nI me)])), (gf, aI cA 40 (fun j => nI (Fr j))), (gt, aI cA 40 (fun j => nI (To j))), (ua, aI cA 40 (fun j => iZ (U j)))]) (rm := ({ frames := 0, cells := 0, slots := 0, locals := 0 } : Room)) (As := [.ref ua]) (rest := []) ⟨hx, hb, hml, hown, hts⟩ (c_X2_touchedBy l D cA g gf gt gw Fr To dir nv me ua U (by first | assumption | omega) (by first | assumption | omega) (by first | assumption | omega) (by first | assumption | omega)) (cwV 1 hts gX2_hangsTogetherAt_X2_touchedBy rfl rfl rfl (by decide +kernel) ⟨Nat.le_of_ble_eq_true rfl, Nat.le_of_ble_eq_true rfl⟩) hP hK [0, 1, 2, 3] rfl 2 0 rfl rfl rfl hl.1 rfl (Nat.le_of_ble_eq_true rfl) ⟨Nat.zero_le _, Nat.zero_le _⟩ dX2_hangsTogetherAt_2 (fun r hr2 => ?_)
  subst hr2
  refine lv_aload_n hx hb dX2_hangsTogetherAt_5 rfl (lv_at hl 0 rfl) ?_
  refine lv_iload_n hx hb dX2_hangsTogetherAt_6 rfl (lv_at hl 1 rfl) ?_
  refine lv_iconst (v := zB true) hx hb dX2_hangsTogetherAt_7 (by decide) ?_
  refine lv_iconst (v := zB true) hx hb dX2_hangsTogetherAt_8 (by decide) ?_
  refine lv_aload_n hx hb dX2_hangsTogetherAt_9 rfl (lv_at hl 2 rfl) ?_
  refine z_cRVi (wc := [(g, .inr (2, [.ref gf, .ref gt, .ref gw, .int (zB dir), .int (nI nv), .int (nI me)])), (gf, aI cA 40 (fun j => nI (Fr j))), (gt, aI cA 40 (fun j => nI (To j))), (ua, aI cA 40 (fun j => iZ (U j)))]) (rm := ({ frames := 0, cells := 0, slots := 0, locals := 0 } : Room)) (As := [.int (nI v), .int (zB true), .int (zB true), .ref ua]) (rest := [.int (nI (gTouch Fr To U me))]) ⟨hx, hb, hml, hown, hts⟩ (c_X2_reachOf l D cA g gf gt gw Fr To dir nv me ua U v true true (by first | assumption | omega) (by first | assumption | omega) (by first | assumption | omega) (by first | assumption | omega) (by first | assumption | omega)) (cwV 4 hts gX2_hangsTogetherAt_X2_reachOf rfl rfl rfl (by decide +kernel) ⟨Nat.le_of_ble_eq_true rfl, Nat.le_of_ble_eq_true rfl⟩) hP hK [0, 1, 2, 3] rfl 2 0 rfl rfl rfl hl.1 rfl (Nat.le_of_ble_eq_true rfl) ⟨Nat.zero_le _, Nat.zero_le _⟩ dX2_hangsTogetherAt_10 (fun r hr10 => ?_)
  subst hr10
  refine lv_iconst (v := iZ (-1)) hx hb dX2_hangsTogetherAt_13 (by decide) ?_
  refine lv_ixor hx hb dX2_hangsTogetherAt_14 ?_
  refine lv_iand hx hb dX2_hangsTogetherAt_15 ?_
  refine z_topi (v := nI ((gTouch Fr To U me) &&& (65535 ^^^ (gRL true true Fr To U me 16 (2 ^ v))))) (nb_not (gTouch_lt hF hT _)) ?_
  refine z_nne hx hb (Nat.lt_of_le_of_lt Nat.and_le_left (Nat.lt_trans (gTouch_lt hF hT me) (by decide))) (tgt := 23) dX2_hangsTogetherAt_16 (by decide) (fun h16 => ?_) (fun h16 => ?_)
  · skip
    refine lv_iconst (v := zB false) hx hb dX2_hangsTogetherAt_23 (by decide) ?_
    exact z_zretR hx hb hr hlocks hQ (by congr 1; simp [gHang, h16]) dX2_hangsTogetherAt_24 rfl rfl
  · skip
    refine lv_iconst (v := zB true) hx hb dX2_hangsTogetherAt_19 (by decide) ?_
    refine lv_goto (tgt := 24) hx hb dX2_hangsTogetherAt_20 (by decide) ?_
    exact z_zretR hx hb hr hlocks hQ (by congr 1; simp [gHang, h16]) dX2_hangsTogetherAt_24 rfl rfl
set_option maxHeartbeats 4000000 in
set_option maxRecDepth 100000 in
/-- Graph.canBeCoveredFrom -/
theorem c_X2_canBeCoveredFrom (l : Launch) (D : va_G) (cA : Nat → ClassId) (g : Nat) (gf : Nat) (gt : Nat) (gw : Nat) (Fr : Nat → Nat) (To : Nat → Nat) (dir : Bool) (nv : Nat) (me : Nat) (ua : Nat) (U : Nat → Int) (v : Nat) (hme : me ≤ 40) (hF : ∀ j, Fr j < 16) (hT : ∀ j, To j < 16) (hU : ∀ j, -2147483648 ≤ U j ∧ U j < 2147483648) (hv : v < 16) : Met l yX2_canBeCoveredFrom wsX2_canBeCoveredFrom ({ frames := 1, cells := 0, slots := 0, locals := 28 } : Room) (zRd D vwCl (zT cA) [(g, .inr (2, [.ref gf, .ref gt, .ref gw, .int (zB dir), .int (nI nv), .int (nI me)])), (gf, aI cA 40 (fun j => nI (Fr j))), (gt, aI cA 40 (fun j => nI (To j))), (ua, aI cA 40 (fun j => iZ (U j)))] [.ref g, .int (nI v), .ref ua]) (vp_Si (fun r => r = zB (gCover dir Fr To U me v))) 0 0 (fun _ => False) := by
  refine z_read (cc := cX2_canBeCoveredFrom) (maxL := 4) (ret := (some .boolean)) (by decide) rfl (Nat.le_of_ble_eq_true rfl) ?_
  intro p e s m below meth c hx hb hr hml hown hts hlocks hP hK Q hQ ls hl
  have hown : s.vm.findClass RX2 = some m.cls := hown
  have hl : lv_has ls 4 [(0, .ref g), (1, .int (nI v)), (2, .ref ua)] := hl
  generalize hav : ([.ref g, .int (nI v), .ref ua] : List Value).toArray = args at hts hQ ⊢
  have hin2 : ∀ w ∈ wsX20, w ∈ wsX2_canBeCoveredFrom := by decide +kernel
  refine lv_aload_n hx hb dX2_canBeCoveredFrom_0 rfl (lv_at hl 0 rfl) ?_
  refine lv_aload_n hx hb dX2_canBeCoveredFrom_1 rfl (lv_at hl 2 rfl) ?_
  refine z_cRVi (wc := [(g, .inr (2, [.ref gf, .ref gt, .ref gw, .int (zB dir), .int (nI nv), .int (nI me)])), (gf, aI cA 40 (fun j => nI (Fr j))), (gt, aI cA 40 (fun j => nI (To j))), (ua, aI cA 40 (fun j => iZ (U j)))]) (rm := ({ frames := 0, cells := 0, slots := 0, locals := 0 } : Room)) (As := [.ref ua]) (rest := []) ⟨hx, hb, hml, hown, hts⟩ (c_X2_touchedBy l D cA g gf gt gw Fr To dir nv me ua U (by first | assumption | omega) (by first | assumption | omega) (by first | assumption | omega) (by first | assumption | omega)) (cwV 1 hts gX2_canBeCoveredFrom_X2_touchedBy rfl rfl rfl (by decide +kernel) ⟨Nat.le_of_ble_eq_true rfl, Nat.le_of_ble_eq_true rfl⟩) hP hK [0, 1, 2, 3] rfl 2 0 rfl rfl rfl hl.1 rfl (Nat.le_of_ble_eq_true rfl) ⟨Nat.zero_le _, Nat.zero_le _⟩ dX2_canBeCoveredFrom_2 (fun r hr2 => ?_)
  subst hr2
  refine lv_istore_n (lv' := [(3, .int (nI (gTouch Fr To U me))), (0, .ref g), (1, .int (nI v)), (2, .ref ua)]) hx hb dX2_canBeCoveredFrom_5 rfl hl (by decide) rfl (fun ls hl => ?_)
  refine lv_iload_n hx hb dX2_canBeCoveredFrom_6 rfl (lv_at hl 0 rfl) ?_
  refine lv_aload_n hx hb dX2_canBeCoveredFrom_7 rfl (lv_at hl 1 rfl) ?_
  refine lv_iload_n hx hb dX2_canBeCoveredFrom_8 rfl (lv_at hl 2 rfl) ?_
  refine lv_iconst (v := zB true) hx hb dX2_canBeCoveredFrom_9 (by decide) ?_
  refine lv_aload_n hx hb dX2_canBeCoveredFrom_10 rfl (lv_at hl 1 rfl) ?_
  have J22 : ∀ (ls : Array Slot), lv_has ls 4 [(0, .ref g), (1, .int (nI v)), (2, .ref ua), (3, .int (nI (gTouch Fr To U me)))] → W p l e ({ frames := 1, cells := 0, slots := 0, locals := 28 } : Room) s m args below meth c s.heap [] 0 0 Q (F0 m 22 ls [.int (zB (!dir)), .int (zB true), .int (nI v), .ref g, .int (nI (gTouch Fr To U me))]) := by
    intro   ls hl
    refine lv_aload_n hx hb dX2_canBeCoveredFrom_22 rfl (lv_at hl 2 rfl) ?_
    refine z_cRVi (wc := [(g, .inr (2, [.ref gf, .ref gt, .ref gw, .int (zB dir), .int (nI nv), .int (nI me)])), (gf, aI cA 40 (fun j => nI (Fr j))), (gt, aI cA 40 (fun j => nI (To j))), (ua, aI cA 40 (fun j => iZ (U j)))]) (rm := ({ frames := 0, cells := 0, slots := 0, locals := 0 } : Room)) (As := [.int (nI v), .int (zB true), .int (zB (!dir)), .ref ua]) (rest := [.int (nI (gTouch Fr To U me))]) ⟨hx, hb, hml, hown, hts⟩ (c_X2_reachOf l D cA g gf gt gw Fr To dir nv me ua U v true (!dir) (by first | assumption | omega) (by first | assumption | omega) (by first | assumption | omega) (by first | assumption | omega) (by first | assumption | omega)) (cwV 4 hts gX2_canBeCoveredFrom_X2_reachOf rfl rfl rfl (by decide +kernel) ⟨Nat.le_of_ble_eq_true rfl, Nat.le_of_ble_eq_true rfl⟩) hP hK [0, 1, 2, 3] rfl 2 0 rfl rfl rfl hl.1 rfl (Nat.le_of_ble_eq_true rfl) ⟨Nat.zero_le _, Nat.zero_le _⟩ dX2_canBeCoveredFrom_23 (fun r hr23 => ?_)
    subst hr23
    refine lv_iconst (v := iZ (-1)) hx hb dX2_canBeCoveredFrom_26 (by decide) ?_
    refine lv_ixor hx hb dX2_canBeCoveredFrom_27 ?_
    refine lv_iand hx hb dX2_canBeCoveredFrom_28 ?_
    refine z_topi (v := nI ((gTouch Fr To U me) &&& (65535 ^^^ (gRL true (!dir) Fr To U me 16 (2 ^ v))))) (nb_not (gTouch_lt hF hT _)) ?_
    refine z_nne hx hb (Nat.lt_of_le_of_lt Nat.and_le_left (Nat.lt_trans (gTouch_lt hF hT me) (by decide))) (tgt := 62) dX2_canBeCoveredFrom_29 (by decide) (fun h29 => ?_) (fun h29 => ?_)
    · skip
      refine lv_iconst (v := zB false) hx hb dX2_canBeCoveredFrom_62 (by decide) ?_
      exact z_zretR hx hb hr hlocks hQ (by congr 1; simp [gCover, *]) dX2_canBeCoveredFrom_63 rfl rfl
    · skip
      refine lv_iload_n hx hb dX2_canBeCoveredFrom_32 rfl (lv_at hl 3 rfl) ?_
      refine lv_aload_n hx hb dX2_canBeCoveredFrom_33 rfl (lv_at hl 0 rfl) ?_
      refine lv_iload_n hx hb dX2_canBeCoveredFrom_34 rfl (lv_at hl 1 rfl) ?_
      refine lv_aload_n hx hb dX2_canBeCoveredFrom_35 rfl (lv_at hl 0 rfl) ?_
      have J47 : ∀ (ls : Array Slot), lv_has ls 4 [(0, .ref g), (1, .int (nI v)), (2, .ref ua), (3, .int (nI (gTouch Fr To U me)))] → W p l e ({ frames := 1, cells := 0, slots := 0, locals := 28 } : Room) s m args below meth c s.heap [] 0 0 Q (F0 m 47 ls [.int (zB (!dir)), .int (nI v), .ref g, .int (nI (gTouch Fr To U me))]) := by
        intro   ls hl
        refine lv_iconst (v := zB true) hx hb dX2_canBeCoveredFrom_47 (by decide) ?_
        refine lv_aload_n hx hb dX2_canBeCoveredFrom_48 rfl (lv_at hl 2 rfl) ?_
        refine z_cRVi (wc := [(g, .inr (2, [.ref gf, .ref gt, .ref gw, .int (zB dir), .int (nI nv), .int (nI me)])), (gf, aI cA 40 (fun j => nI (Fr j))), (gt, aI cA 40 (fun j => nI (To j))), (ua, aI cA 40 (fun j => iZ (U j)))]) (rm := ({ frames := 0, cells := 0, slots := 0, locals := 0 } : Room)) (As := [.int (nI v), .int (zB (!dir)), .int (zB true), .ref ua]) (rest := [.int (nI (gTouch Fr To U me))]) ⟨hx, hb, hml, hown, hts⟩ (c_X2_reachOf l D cA g gf gt gw Fr To dir nv me ua U v (!dir) true (by first | assumption | omega) (by first | assumption | omega) (by first | assumption | omega) (by first | assumption | omega) (by first | assumption | omega)) (cwV 4 hts gX2_canBeCoveredFrom_X2_reachOf rfl rfl rfl (by decide +kernel) ⟨Nat.le_of_ble_eq_true rfl, Nat.le_of_ble_eq_true rfl⟩) hP hK [0, 1, 2, 3] rfl 2 0 rfl rfl rfl hl.1 rfl (Nat.le_of_ble_eq_true rfl) ⟨Nat.zero_le _, Nat.zero_le _⟩ dX2_canBeCoveredFrom_49 (fun r hr49 => ?_)
        subst hr49
        refine lv_iconst (v := iZ (-1)) hx hb dX2_canBeCoveredFrom_52 (by decide) ?_
        refine lv_ixor hx hb dX2_canBeCoveredFrom_53 ?_
        refine lv_iand hx hb dX2_canBeCoveredFrom_54 ?_
        refine z_topi (v := nI ((gTouch Fr To U me) &&& (65535 ^^^ (gRL (!dir) true Fr To U me 16 (2 ^ v))))) (nb_not (gTouch_lt hF hT _)) ?_
        refine z_nne hx hb (Nat.lt_of_le_of_lt Nat.and_le_left (Nat.lt_trans (gTouch_lt hF hT me) (by decide))) (tgt := 62) dX2_canBeCoveredFrom_55 (by decide) (fun h55 => ?_) (fun h55 => ?_)
        · skip
          refine lv_iconst (v := zB false) hx hb dX2_canBeCoveredFrom_62 (by decide) ?_
          exact z_zretR hx hb hr hlocks hQ (by congr 1; simp [gCover, *]) dX2_canBeCoveredFrom_63 rfl rfl
        · skip
          refine lv_iconst (v := zB true) hx hb dX2_canBeCoveredFrom_58 (by decide) ?_
          refine lv_goto (tgt := 63) hx hb dX2_canBeCoveredFrom_59 (by decide) ?_
          exact z_zretR hx hb hr hlocks hQ (by congr 1; simp [gCover, *]) dX2_canBeCoveredFrom_63 rfl rfl
      refine va_get (D := D) (ci := 2) (v := .int (zB dir)) (C := RX2) (T := TX2) (N := 6) hx hb hts hin2 hown hK hP 0 rfl rfl 3 (by decide) (hts (.fieldLink RX2 21 "TourHouse$Graph" "directed" "Z") (by decide +kernel)) (fun _ h9 => h9) rfl dX2_canBeCoveredFrom_36 ?_
      refine z_ifne hx hb (tgt := 46) dX2_canBeCoveredFrom_39 (by decide) (fun h39 => ?_) (fun h39 => ?_)
      · skip
        refine lv_iconst (v := zB false) hx hb dX2_canBeCoveredFrom_46 (by decide) ?_
        refine z_topi (v := zB (!dir)) (by rw [h39]; rfl) ?_
        exact J47   ls (lv_sub hl [0, 1, 2, 3] (by rfl))
      · skip
        refine lv_iconst (v := zB true) hx hb dX2_canBeCoveredFrom_42 (by decide) ?_
        refine lv_goto (tgt := 47) hx hb dX2_canBeCoveredFrom_43 (by decide) ?_
        refine z_topi (v := zB (!dir)) (by rw [h39]; rfl) ?_
        exact J47   ls (lv_sub hl [0, 1, 2, 3] (by rfl))
  refine va_get (D := D) (ci := 2) (v := .int (zB dir)) (C := RX2) (T := TX2) (N := 6) hx hb hts hin2 hown hK hP 0 rfl rfl 3 (by decide) (hts (.fieldLink RX2 21 "TourHouse$Graph" "directed" "Z") (by decide +kernel)) (fun _ h9 => h9) rfl dX2_canBeCoveredFrom_11 ?_
  refine z_ifne hx hb (tgt := 21) dX2_canBeCoveredFrom_14 (by decide) (fun h14 => ?_) (fun h14 => ?_)
  · skip
    refine lv_iconst (v := zB false) hx hb dX2_canBeCoveredFrom_21 (by decide) ?_
    refine z_topi (v := zB (!dir)) (by rw [h14]; rfl) ?_
    exact J22   ls (lv_sub hl [1, 2, 3, 0] (by rfl))
  · skip
    refine lv_iconst (v := zB true) hx hb dX2_canBeCoveredFrom_17 (by decide) ?_
    refine lv_goto (tgt := 22) hx hb dX2_canBeCoveredFrom_18 (by decide) ?_
    refine z_topi (v := zB (!dir)) (by rw [h14]; rfl) ?_
    exact J22   ls (lv_sub hl [1, 2, 3, 0] (by rfl))
set_option maxHeartbeats 4000000 in
set_option maxRecDepth 100000 in
/-- Graph.countRegions -/
theorem c_X2_countRegions (l : Launch) (D : va_G) (cA : Nat → ClassId) (g : Nat) (gf : Nat) (gt : Nat) (gw : Nat) (Fr : Nat → Nat) (To : Nat → Nat) (dir : Bool) (nv : Nat) (me : Nat) (ua : Nat) (U : Nat → Int) (hme : me ≤ 40) (hF : ∀ j, Fr j < 16) (hT : ∀ j, To j < 16) (hU : ∀ j, -2147483648 ≤ U j ∧ U j < 2147483648) (hnv : nv ≤ 16) : Met l yX2_countRegions wsX2_countRegions ({ frames := 1, cells := 0, slots := 0, locals := 28 } : Room) (zRd D vwCl (zT cA) [(g, .inr (2, [.ref gf, .ref gt, .ref gw, .int (zB dir), .int (nI nv), .int (nI me)])), (gf, aI cA 40 (fun j => nI (Fr j))), (gt, aI cA 40 (fun j => nI (To j))), (ua, aI cA 40 (fun j => iZ (U j)))] [.ref g, .ref ua]) (vp_Si (fun r => r = nI ((gReg Fr To U me nv).2))) 0 0 (fun _ => False) := by
  refine z_read (cc := cX2_countRegions) (maxL := 5) (ret := (some .int)) (by decide) rfl (Nat.le_of_ble_eq_true rfl) ?_
  intro p e s m below meth c hx hb hr hml hown hts hlocks hP hK Q hQ ls hl
  have hown : s.vm.findClass RX2 = some m.cls := hown
  have hl : lv_has ls 5 [(0, .ref g), (1, .ref ua)] := hl
  generalize hav : ([.ref g, .ref ua] : List Value).toArray = args at hts hQ ⊢
  have hin2 : ∀ w ∈ wsX20, w ∈ wsX2_countRegions := by decide +kernel
  refine lv_aload_n hx hb dX2_countRegions_0 rfl (lv_at hl 0 rfl) ?_
  refine lv_aload_n hx hb dX2_countRegions_1 rfl (lv_at hl 1 rfl) ?_
  refine z_cRVi (wc := [(g, .inr (2, [.ref gf, .ref gt, .ref gw, .int (zB dir), .int (nI nv), .int (nI me)])), (gf, aI cA 40 (fun j => nI (Fr j))), (gt, aI cA 40 (fun j => nI (To j))), (ua, aI cA 40 (fun j => iZ (U j)))]) (rm := ({ frames := 0, cells := 0, slots := 0, locals := 0 } : Room)) (As := [.ref ua]) (rest := []) ⟨hx, hb, hml, hown, hts⟩ (c_X2_touchedBy l D cA g gf gt gw Fr To dir nv me ua U (by first | assumption | omega) (by first | assumption | omega) (by first | assumption | omega) (by first | assumption | omega)) (cwV 1 hts gX2_countRegions_X2_touchedBy rfl rfl rfl (by decide +kernel) ⟨Nat.le_of_ble_eq_true rfl, Nat.le_of_ble_eq_true rfl⟩) hP hK [0, 1, 2, 3] rfl 2 0 rfl rfl rfl hl.1 rfl (Nat.le_of_ble_eq_true rfl) ⟨Nat.zero_le _, Nat.zero_le _⟩ dX2_countRegions_2 (fun r hr2 => ?_)
  subst hr2
  refine lv_istore_n (lv' := [(2, .int (nI (gTouch Fr To U me))), (0, .ref g), (1, .ref ua)]) hx hb dX2_countRegions_5 rfl hl (by decide) rfl (fun ls hl => ?_)
  refine lv_iconst (v := nI 0) hx hb dX2_countRegions_6 (by decide) ?_
  refine lv_istore_n (lv' := [(3, .int (nI 0)), (2, .int (nI (gTouch Fr To U me))), (0, .ref g), (1, .ref ua)]) hx hb dX2_countRegions_7 rfl hl (by decide) rfl (fun ls hl => ?_)
  refine lv_iconst (v := nI 0) hx hb dX2_countRegions_8 (by decide) ?_
  refine lv_istore (lv' := [(4, .int (nI 0)), (3, .int (nI 0)), (2, .int (nI (gTouch Fr To U me))), (0, .ref g), (1, .ref ua)]) hx hb dX2_countRegions_9 hl (by decide) rfl (fun ls hl => ?_)
  have J11 : ∀ (n : Nat), ∀ (i : Nat), (i ≤ nv) → nv - i < n → ∀ (ls : Array Slot), lv_has ls 5 [(0, .ref g), (1, .ref ua), (2, .int (nI ((gReg Fr To U me i).1))), (3, .int (nI ((gReg Fr To U me i).2))), (4, .int (nI i))] → W p l e ({ frames := 1, cells := 0, slots := 0, locals := 28 } : Room) s m args below meth c s.heap [] 0 0 Q (F0 m 11 ls []) := by
    intro n11
    induction n11 with
    | zero => intro i hi hn; exact absurd hn (Nat.not_lt_zero _)
    | succ n11 ih11 =>
      intro i hi hn11 ls hl
      refine lv_iload hx hb dX2_countRegions_11 (lv_at hl 4 rfl) ?_
      refine lv_aload_n hx hb dX2_countRegions_13 rfl (lv_at hl 0 rfl) ?_
      refine va_get (D := D) (ci := 2) (v := .int (nI nv)) (C := RX2) (T := TX2) (N := 6) hx hb hts hin2 hown hK hP 0 rfl rfl 4 (by decide) (hts (.fieldLink RX2 25 "TourHouse$Graph" "vertices" "I") (by decide +kernel)) (fun _ h9 => h9) rfl dX2_countRegions_14 ?_
      refine z_ge hx hb (by omega) (by omega) (tgt := 53) dX2_countRegions_17 (by decide) (fun h17 => ?_) (fun h17 => ?_)
      · skip
        refine lv_iload_n hx hb dX2_countRegions_53 rfl (lv_at hl 3 rfl) ?_
        exact z_iretR hx hb hr hlocks hQ (by rw [show i = nv from by omega]) dX2_countRegions_54 rfl rfl
      · skip
        refine lv_iload_n hx hb dX2_countRegions_20 rfl (lv_at hl 2 rfl) ?_
        refine lv_iload hx hb dX2_countRegions_21 (lv_at hl 4 rfl) ?_
        refine lv_ishr hx hb dX2_countRegions_23 ?_
        refine z_topi (v := nI (((gReg Fr To U me i).1) / 2 ^ i)) (nb_shr (Nat.lt_trans (gReg_lt hF hT i) (by decide)) (by omega)) ?_
        refine lv_iconst (v := nI 1) hx hb dX2_countRegions_24 (by decide) ?_
        refine lv_iand hx hb dX2_countRegions_25 ?_
        refine z_topi (v := nI ((((gReg Fr To U me i).1) / 2 ^ i) % 2)) (nb_and1 (((gReg Fr To U me i).1) / 2 ^ i)) ?_
        refine lv_iconst (v := nI 1) hx hb dX2_countRegions_26 (by decide) ?_
        refine z_ne hx hb (by omega) (by decide) (tgt := 47) dX2_countRegions_27 (by decide) (fun h27 => ?_) (fun h27 => ?_)
        · skip
          have hl : lv_has ls 5 [(0, .ref g), (1, .ref ua), (2, .int (nI ((gReg Fr To U me (i + 1)).1))), (3, .int (nI ((gReg Fr To U me i).2))), (4, .int (nI i))] := by
            have q9 : nI ((gReg Fr To U me (i + 1)).1) = nI ((gReg Fr To U me i).1) := by congr 1; simp only [gReg]; first | rw [if_pos h27] | rw [if_neg h27]
            rw [q9]; exact hl
          have hl : lv_has ls 5 [(0, .ref g), (1, .ref ua), (2, .int (nI ((gReg Fr To U me (i + 1)).1))), (3, .int (nI ((gReg Fr To U me (i + 1)).2))), (4, .int (nI i))] := by
            have q9 : nI ((gReg Fr To U me (i + 1)).2) = nI ((gReg Fr To U me i).2) := by congr 1; simp only [gReg]; first | rw [if_pos h27] | rw [if_neg h27]
            rw [q9]; exact hl
          refine lv_iinc (v := nI (i + 1)) (lv' := [(4, .int (nI (i + 1))), (0, .ref g), (1, .ref ua), (2, .int (nI ((gReg Fr To U me (i + 1)).1))), (3, .int (nI ((gReg Fr To U me (i + 1)).2)))]) hx hb dX2_countRegions_47 hl (k := 4) rfl (nI_1 i) (by decide) rfl (fun ls hl => ?_)
          refine lv_goto (tgt := 11) hx hb dX2_countRegions_50 (by decide) ?_
          exact ih11 (i + 1) (by omega) (by omega) ls (lv_sub hl [1, 2, 3, 4, 0] (by rfl))
        · skip
          refine lv_iload_n hx hb dX2_countRegions_30 rfl (lv_at hl 2 rfl) ?_
          refine lv_aload_n hx hb dX2_countRegions_31 rfl (lv_at hl 0 rfl) ?_
          refine lv_iload hx hb dX2_countRegions_32 (lv_at hl 4 rfl) ?_
          refine lv_iconst (v := zB true) hx hb dX2_countRegions_34 (by decide) ?_
          refine lv_iconst (v := zB true) hx hb dX2_countRegions_35 (by decide) ?_
          refine lv_aload_n hx hb dX2_countRegions_36 rfl (lv_at hl 1 rfl) ?_
          refine z_cRVi (wc := [(g, .inr (2, [.ref gf, .ref gt, .ref gw, .int (zB dir), .int (nI nv), .int (nI me)])), (gf, aI cA 40 (fun j => nI (Fr j))), (gt, aI cA 40 (fun j => nI (To j))), (ua, aI cA 40 (fun j => iZ (U j)))]) (rm := ({ frames := 0, cells := 0, slots := 0, locals := 0 } : Room)) (As := [.int (nI i), .int (zB true), .int (zB true), .ref ua]) (rest := [.int (nI ((gReg Fr To U me i).1))]) ⟨hx, hb, hml, hown, hts⟩ (c_X2_reachOf l D cA g gf gt gw Fr To dir nv me ua U i true true (by first | assumption | omega) (by first | assumption | omega) (by first | assumption | omega) (by first | assumption | omega) (by first | assumption | omega)) (cwV 4 hts gX2_countRegions_X2_reachOf rfl rfl rfl (by decide +kernel) ⟨Nat.le_of_ble_eq_true rfl, Nat.le_of_ble_eq_true rfl⟩) hP hK [0, 1, 2, 3] rfl 2 0 rfl rfl rfl hl.1 rfl (Nat.le_of_ble_eq_true rfl) ⟨Nat.zero_le _, Nat.zero_le _⟩ dX2_countRegions_37 (fun r hr37 => ?_)
          subst hr37
          refine lv_iconst (v := iZ (-1)) hx hb dX2_countRegions_40 (by decide) ?_
          refine lv_ixor hx hb dX2_countRegions_41 ?_
          refine lv_iand hx hb dX2_countRegions_42 ?_
          refine z_topi (v := nI (((gReg Fr To U me i).1) &&& (65535 ^^^ (gRL true true Fr To U me 16 (2 ^ i))))) (nb_not (gReg_lt hF hT i)) ?_
          refine lv_istore_n (lv' := [(2, .int (nI (((gReg Fr To U me i).1) &&& (65535 ^^^ (gRL true true Fr To U me 16 (2 ^ i)))))), (0, .ref g), (1, .ref ua), (3, .int (nI ((gReg Fr To U me i).2))), (4, .int (nI i))]) hx hb dX2_countRegions_43 rfl hl (by decide) rfl (fun ls hl => ?_)
          refine lv_iinc (v := nI (((gReg Fr To U me i).2) + 1)) (lv' := [(3, .int (nI (((gReg Fr To U me i).2) + 1))), (2, .int (nI (((gReg Fr To U me i).1) &&& (65535 ^^^ (gRL true true Fr To U me 16 (2 ^ i)))))), (0, .ref g), (1, .ref ua), (4, .int (nI i))]) hx hb dX2_countRegions_44 hl (k := 3) rfl (nI_1 ((gReg Fr To U me i).2)) (by decide) rfl (fun ls hl => ?_)
          have hl : lv_has ls 5 [(3, .int (nI (((gReg Fr To U me i).2) + 1))), (2, .int (nI ((gReg Fr To U me (i + 1)).1))), (0, .ref g), (1, .ref ua), (4, .int (nI i))] := by
            have q9 : nI ((gReg Fr To U me (i + 1)).1) = nI (((gReg Fr To U me i).1) &&& (65535 ^^^ (gRL true true Fr To U me 16 (2 ^ i)))) := by congr 1; simp only [gReg]; first | rw [if_pos h27] | rw [if_neg h27]
            rw [q9]; exact hl
          have hl : lv_has ls 5 [(3, .int (nI ((gReg Fr To U me (i + 1)).2))), (2, .int (nI ((gReg Fr To U me (i + 1)).1))), (0, .ref g), (1, .ref ua), (4, .int (nI i))] := by
            have q9 : nI ((gReg Fr To U me (i + 1)).2) = nI (((gReg Fr To U me i).2) + 1) := by congr 1; simp only [gReg]; first | rw [if_pos h27] | rw [if_neg h27]
            rw [q9]; exact hl
          refine lv_iinc (v := nI (i + 1)) (lv' := [(4, .int (nI (i + 1))), (3, .int (nI ((gReg Fr To U me (i + 1)).2))), (2, .int (nI ((gReg Fr To U me (i + 1)).1))), (0, .ref g), (1, .ref ua)]) hx hb dX2_countRegions_47 hl (k := 4) rfl (nI_1 i) (by decide) rfl (fun ls hl => ?_)
          refine lv_goto (tgt := 11) hx hb dX2_countRegions_50 (by decide) ?_
          exact ih11 (i + 1) (by omega) (by omega) ls (lv_sub hl [3, 4, 2, 1, 0] (by rfl))
  exact J11 ((nv - 0) + 1) 0 (by omega) (by omega) ls (lv_sub hl [3, 4, 2, 1, 0] (by rfl))
set_option maxHeartbeats 4000000 in
set_option maxRecDepth 100000 in
/-- Graph.begin -/
theorem c_X2_begin (l : Launch) (D : va_G) (cA : Nat → ClassId) (sz : Nat) (g : Nat) (gf : Nat) (gt : Nat) (gw : Nat) (dir : Bool) (nv : Nat) (me : Nat) (d2 : Bool) (n2 : Nat)  : Met l yX2_begin wsX2_begin ({ frames := 0, cells := 0, slots := 0, locals := 0 } : Room) (zWr D vwCl (zT cA) [(g, .inr (2, [.ref gf, .ref gt, .ref gw, .int (zB dir), .int (nI nv), .int (nI me)]))] sz [.ref g, .int (zB d2), .int (nI n2)]) (zQv D vwCl (zT cA) (va_A [(g, .inr (2, [.ref gf, .ref gt, .ref gw, .int (zB dir), .int (nI nv), .int (nI me)]))] sz) [(g, .inr (2, [.ref gf, .ref gt, .ref gw, .int (zB d2), .int (nI n2), .int (nI 0)]))]) 0 0 (va_A [(g, .inr (2, [.ref gf, .ref gt, .ref gw, .int (zB dir), .int (nI nv), .int (nI me)]))] sz) := by
  refine z_write (cc := cX2_begin) (maxL := 3) (ret := none) (by decide) rfl (Nat.le_of_ble_eq_true rfl) ?_
  intro p e s m below meth c hx hb hr hml hown hts hlocks A hAe hA H locs hP hK hD hS hini Q hQ ls hl
  have hown : s.vm.findClass RX2 = some m.cls := hown
  have hl : lv_has ls 3 [(0, .ref g), (1, .int (zB d2)), (2, .int (nI n2))] := hl
  generalize hav : ([.ref g, .int (zB d2), .int (nI n2)] : List Value).toArray = args at hts hQ ⊢
  have hin2 : ∀ w ∈ wsX20, w ∈ wsX2_begin := by decide +kernel
  refine lv_aload_n hx hb dX2_begin_0 rfl (lv_at hl 0 rfl) ?_
  refine lv_iload_n hx hb dX2_begin_1 rfl (lv_at hl 1 rfl) ?_
  refine va_put (D := D) (ci := 2) (v := .int (zB d2)) (ty := .boolean) (C := RX2) (T := TX2) (N := 6) hx hb hts hin2 tyX2 tyX2_ok nmX2 hown hK hP hD hS 0 rfl rfl 3 (by decide) (hts (.fieldLink RX2 21 "TourHouse$Graph" "directed" "Z") (by decide +kernel)) (fun _ h9 => h9) rfl (by decide +kernel) (zB_nar _) (zB_fits _) (Nat.le_of_ble_eq_true rfl) dX2_begin_2 (fun H locs hP hD hS => ?_)
  have hP : va_P D vwCl [(g, .inr (2, [.ref gf, .ref gt, .ref gw, .int (zB d2), .int (nI nv), .int (nI me)]))] H := hP
  have hD : va_D A [(g, .inr (2, [.ref gf, .ref gt, .ref gw, .int (zB d2), .int (nI nv), .int (nI me)]))] := hD
  refine lv_aload_n hx hb dX2_begin_5 rfl (lv_at hl 0 rfl) ?_
  refine lv_iload_n hx hb dX2_begin_6 rfl (lv_at hl 2 rfl) ?_
  refine va_put (D := D) (ci := 2) (v := .int (nI n2)) (ty := .int) (C := RX2) (T := TX2) (N := 6) hx hb hts hin2 tyX2 tyX2_ok nmX2 hown hK hP hD hS 0 rfl rfl 4 (by decide) (hts (.fieldLink RX2 25 "TourHouse$Graph" "vertices" "I") (by decide +kernel)) (fun _ h9 => h9) rfl (by decide +kernel) (rfl) (rfl) (Nat.le_of_ble_eq_true rfl) dX2_begin_7 (fun H locs hP hD hS => ?_)
  have hP : va_P D vwCl [(g, .inr (2, [.ref gf, .ref gt, .ref gw, .int (zB d2), .int (nI n2), .int (nI me)]))] H := hP
  have hD : va_D A [(g, .inr (2, [.ref gf, .ref gt, .ref gw, .int (zB d2), .int (nI n2), .int (nI me)]))] := hD
  refine lv_aload_n hx hb dX2_begin_10 rfl (lv_at hl 0 rfl) ?_
  refine lv_iconst (v := nI 0) hx hb dX2_begin_11 (by decide) ?_
  refine va_put (D := D) (ci := 2) (v := .int (nI 0)) (ty := .int) (C := RX2) (T := TX2) (N := 6) hx hb hts hin2 tyX2 tyX2_ok nmX2 hown hK hP hD hS 0 rfl rfl 5 (by decide) (hts (.fieldLink RX2 29 "TourHouse$Graph" "edges" "I") (by decide +kernel)) (fun _ h9 => h9) rfl (by decide +kernel) (rfl) (rfl) (Nat.le_of_ble_eq_true rfl) dX2_begin_12 (fun H locs hP hD hS => ?_)
  have hP : va_P D vwCl [(g, .inr (2, [.ref gf, .ref gt, .ref gw, .int (zB d2), .int (nI n2), .int (nI 0)]))] H := hP
  have hD : va_D A [(g, .inr (2, [.ref gf, .ref gt, .ref gw, .int (zB d2), .int (nI n2), .int (nI 0)]))] := hD
  exact z_vretW hx hb hr hlocks hAe hQ (hP) hK (hD) hS dX2_begin_15
set_option maxHeartbeats 4000000 in
set_option maxRecDepth 100000 in
/-- Graph.addEdge -/
theorem c_X2_addEdge (l : Launch) (D : va_G) (cA : Nat → ClassId) (sz : Nat) (g : Nat) (gf : Nat) (gt : Nat) (gw : Nat) (Fr : Nat → Nat) (To : Nat → Nat) (We : Nat → Nat) (dir : Bool) (nv : Nat) (me : Nat) (a : Nat) (b : Nat) (w : Nat) (hme : me < 40) : Met l yX2_addEdge wsX2_addEdge ({ frames := 0, cells := 0, slots := 0, locals := 0 } : Room) (zWr D vwCl (zT cA) [(g, .inr (2, [.ref gf, .ref gt, .ref gw, .int (zB dir), .int (nI nv), .int (nI me)])), (gf, aI cA 40 (fun j => nI (Fr j))), (gt, aI cA 40 (fun j => nI (To j))), (gw, aI cA 40 (fun j => nI (We j)))] sz [.ref g, .int (nI a), .int (nI b), .int (nI w)]) (zQv D vwCl (zT cA) (va_A [(g, .inr (2, [.ref gf, .ref gt, .ref gw, .int (zB dir), .int (nI nv), .int (nI me)])), (gf, aI cA 40 (fun j => nI (Fr j))), (gt, aI cA 40 (fun j => nI (To j))), (gw, aI cA 40 (fun j => nI (We j)))] sz) [(g, .inr (2, [.ref gf, .ref gt, .ref gw, .int (zB dir), .int (nI nv), .int (nI (me + 1))])), (gf, aI cA 40 (fun j => nI ((va_up Fr me a) j))), (gt, aI cA 40 (fun j => nI ((va_up To me b) j))), (gw, aI cA 40 (fun j => nI ((va_up We me w) j)))]) 0 0 (va_A [(g, .inr (2, [.ref gf, .ref gt, .ref gw, .int (zB dir), .int (nI nv), .int (nI me)])), (gf, aI cA 40 (fun j => nI (Fr j))), (gt, aI cA 40 (fun j => nI (To j))), (gw, aI cA 40 (fun j => nI (We j)))] sz) := by
  refine z_write (cc := cX2_addEdge) (maxL := 4) (ret := none) (by decide) rfl (Nat.le_of_ble_eq_true rfl) ?_
  intro p e s m below meth c hx hb hr hml hown hts hlocks A hAe hA H locs hP hK hD hS hini Q hQ ls hl
  have hown : s.vm.findClass RX2 = some m.cls := hown
  have hl : lv_has ls 4 [(0, .ref g), (1, .int (nI a)), (2, .int (nI b)), (3, .int (nI w))] := hl
  generalize hav : ([.ref g, .int (nI a), .int (nI b), .int (nI w)] : List Value).toArray = args at hts hQ ⊢
  have hin2 : ∀ w ∈ wsX20, w ∈ wsX2_addEdge := by decide +kernel
  refine lv_aload_n hx hb dX2_addEdge_0 rfl (lv_at hl 0 rfl) ?_
  refine va_get (D := D) (ci := 2) (v := .ref gf) (C := RX2) (T := TX2) (N := 6) hx hb hts hin2 hown hK hP 0 rfl rfl 0 (by decide) (hts (.fieldLink RX2 9 "TourHouse$Graph" "from" "[I") (by decide +kernel)) (fun _ h9 => h9) rfl dX2_addEdge_1 ?_
  refine lv_aload_n hx hb dX2_addEdge_4 rfl (lv_at hl 0 rfl) ?_
  refine va_get (D := D) (ci := 2) (v := .int (nI me)) (C := RX2) (T := TX2) (N := 6) hx hb hts hin2 hown hK hP 0 rfl rfl 5 (by decide) (hts (.fieldLink RX2 29 "TourHouse$Graph" "edges" "I") (by decide +kernel)) (fun _ h9 => h9) rfl dX2_addEdge_5 ?_
  refine lv_iload_n hx hb dX2_addEdge_8 rfl (lv_at hl 1 rfl) ?_
  refine z_iast hx hb hK hP hD hS 1 0 rfl rfl (k := me) (by omega) (by decide) (f' := (fun j => nI ((va_up Fr me a) j))) (upd_nI _ _ _) (ws' := [(g, .inr (2, [.ref gf, .ref gt, .ref gw, .int (zB dir), .int (nI nv), .int (nI me)])), (gf, aI cA 40 (fun j => nI ((va_up Fr me a) j))), (gt, aI cA 40 (fun j => nI (To j))), (gw, aI cA 40 (fun j => nI (We j)))]) rfl dX2_addEdge_9 (fun H locs hP hD hS => ?_)
  refine lv_aload_n hx hb dX2_addEdge_10 rfl (lv_at hl 0 rfl) ?_
  refine va_get (D := D) (ci := 2) (v := .ref gt) (C := RX2) (T := TX2) (N := 6) hx hb hts hin2 hown hK hP 0 rfl rfl 1 (by decide) (hts (.fieldLink RX2 15 "TourHouse$Graph" "to" "[I") (by decide +kernel)) (fun _ h9 => h9) rfl dX2_addEdge_11 ?_
  refine lv_aload_n hx hb dX2_addEdge_14 rfl (lv_at hl 0 rfl) ?_
  refine va_get (D := D) (ci := 2) (v := .int (nI me)) (C := RX2) (T := TX2) (N := 6) hx hb hts hin2 hown hK hP 0 rfl rfl 5 (by decide) (hts (.fieldLink RX2 29 "TourHouse$Graph" "edges" "I") (by decide +kernel)) (fun _ h9 => h9) rfl dX2_addEdge_15 ?_
  refine lv_iload_n hx hb dX2_addEdge_18 rfl (lv_at hl 2 rfl) ?_
  refine z_iast hx hb hK hP hD hS 2 0 rfl rfl (k := me) (by omega) (by decide) (f' := (fun j => nI ((va_up To me b) j))) (upd_nI _ _ _) (ws' := [(g, .inr (2, [.ref gf, .ref gt, .ref gw, .int (zB dir), .int (nI nv), .int (nI me)])), (gf, aI cA 40 (fun j => nI ((va_up Fr me a) j))), (gt, aI cA 40 (fun j => nI ((va_up To me b) j))), (gw, aI cA 40 (fun j => nI (We j)))]) rfl dX2_addEdge_19 (fun H locs hP hD hS => ?_)
  refine lv_aload_n hx hb dX2_addEdge_20 rfl (lv_at hl 0 rfl) ?_
  refine va_get (D := D) (ci := 2) (v := .ref gw) (C := RX2) (T := TX2) (N := 6) hx hb hts hin2 hown hK hP 0 rfl rfl 2 (by decide) (hts (.fieldLink RX2 18 "TourHouse$Graph" "weight" "[I") (by decide +kernel)) (fun _ h9 => h9) rfl dX2_addEdge_21 ?_
  refine lv_aload_n hx hb dX2_addEdge_24 rfl (lv_at hl 0 rfl) ?_
  refine va_get (D := D) (ci := 2) (v := .int (nI me)) (C := RX2) (T := TX2) (N := 6) hx hb hts hin2 hown hK hP 0 rfl rfl 5 (by decide) (hts (.fieldLink RX2 29 "TourHouse$Graph" "edges" "I") (by decide +kernel)) (fun _ h9 => h9) rfl dX2_addEdge_25 ?_
  refine lv_iload_n hx hb dX2_addEdge_28 rfl (lv_at hl 3 rfl) ?_
  refine z_iast hx hb hK hP hD hS 3 0 rfl rfl (k := me) (by omega) (by decide) (f' := (fun j => nI ((va_up We me w) j))) (upd_nI _ _ _) (ws' := [(g, .inr (2, [.ref gf, .ref gt, .ref gw, .int (zB dir), .int (nI nv), .int (nI me)])), (gf, aI cA 40 (fun j => nI ((va_up Fr me a) j))), (gt, aI cA 40 (fun j => nI ((va_up To me b) j))), (gw, aI cA 40 (fun j => nI ((va_up We me w) j)))]) rfl dX2_addEdge_29 (fun H locs hP hD hS => ?_)
  refine lv_aload_n hx hb dX2_addEdge_30 rfl (lv_at hl 0 rfl) ?_
  refine lv_dup hx hb dX2_addEdge_31 rfl ?_
  refine va_get (D := D) (ci := 2) (v := .int (nI me)) (C := RX2) (T := TX2) (N := 6) hx hb hts hin2 hown hK hP 0 rfl rfl 5 (by decide) (hts (.fieldLink RX2 29 "TourHouse$Graph" "edges" "I") (by decide +kernel)) (fun _ h9 => h9) rfl dX2_addEdge_32 ?_
  refine lv_iconst (v := nI 1) hx hb dX2_addEdge_35 (by decide) ?_
  refine lv_iadd hx hb dX2_addEdge_36 ?_
  refine z_topi (v := nI (me + 1)) (nI_add me 1) ?_
  refine va_put (D := D) (ci := 2) (v := .int (nI (me + 1))) (ty := .int) (C := RX2) (T := TX2) (N := 6) hx hb hts hin2 tyX2 tyX2_ok nmX2 hown hK hP hD hS 0 rfl rfl 5 (by decide) (hts (.fieldLink RX2 29 "TourHouse$Graph" "edges" "I") (by decide +kernel)) (fun _ h9 => h9) rfl (by decide +kernel) (rfl) (rfl) (Nat.le_of_ble_eq_true rfl) dX2_addEdge_37 (fun H locs hP hD hS => ?_)
  have hP : va_P D vwCl [(g, .inr (2, [.ref gf, .ref gt, .ref gw, .int (zB dir), .int (nI nv), .int (nI (me + 1))])), (gf, aI cA 40 (fun j => nI ((va_up Fr me a) j))), (gt, aI cA 40 (fun j => nI ((va_up To me b) j))), (gw, aI cA 40 (fun j => nI ((va_up We me w) j)))] H := hP
  have hD : va_D A [(g, .inr (2, [.ref gf, .ref gt, .ref gw, .int (zB dir), .int (nI nv), .int (nI (me + 1))])), (gf, aI cA 40 (fun j => nI ((va_up Fr me a) j))), (gt, aI cA 40 (fun j => nI ((va_up To me b) j))), (gw, aI cA 40 (fun j => nI ((va_up We me w) j)))] := hD
  exact z_vretW hx hb hr hlocks hAe hQ (hP) hK (hD) hS dX2_addEdge_40
set_option maxHeartbeats 4000000 in
set_option maxRecDepth 100000 in
/-- Graph.removeLastEdge -/
theorem c_X2_removeLastEdge (l : Launch) (D : va_G) (cA : Nat → ClassId) (sz : Nat) (g : Nat) (gf : Nat) (gt : Nat) (gw : Nat) (dir : Bool) (nv : Nat) (me : Nat) (hme : 0 < me) (hme2 : me ≤ 40) : Met l yX2_removeLastEdge wsX2_removeLastEdge ({ frames := 0, cells := 0, slots := 0, locals := 0 } : Room) (zWr D vwCl (zT cA) [(g, .inr (2, [.ref gf, .ref gt, .ref gw, .int (zB dir), .int (nI nv), .int (nI me)]))] sz [.ref g]) (zQv D vwCl (zT cA) (va_A [(g, .inr (2, [.ref gf, .ref gt, .ref gw, .int (zB dir), .int (nI nv), .int (nI me)]))] sz) [(g, .inr (2, [.ref gf, .ref gt, .ref gw, .int (zB dir), .int (nI nv), .int (nI (me - 1))]))]) 0 0 (va_A [(g, .inr (2, [.ref gf, .ref gt, .ref gw, .int (zB dir), .int (nI nv), .int (nI me)]))] sz) := by
  refine z_write (cc := cX2_removeLastEdge) (maxL := 1) (ret := none) (by decide) rfl (Nat.le_of_ble_eq_true rfl) ?_
  intro p e s m below meth c hx hb hr hml hown hts hlocks A hAe hA H locs hP hK hD hS hini Q hQ ls hl
  have hown : s.vm.findClass RX2 = some m.cls := hown
  have hl : lv_has ls 1 [(0, .ref g)] := hl
  generalize hav : ([.ref g] : List Value).toArray = args at hts hQ ⊢
  have hin2 : ∀ w ∈ wsX20, w ∈ wsX2_removeLastEdge := by decide +kernel
  refine lv_aload_n hx hb dX2_removeLastEdge_0 rfl (lv_at hl 0 rfl) ?_
  refine va_get (D := D) (ci := 2) (v := .int (nI me)) (C := RX2) (T := TX2) (N := 6) hx hb hts hin2 hown hK hP 0 rfl rfl 5 (by decide) (hts (.fieldLink RX2 29 "TourHouse$Graph" "edges" "I") (by decide +kernel)) (fun _ h9 => h9) rfl dX2_removeLastEdge_1 ?_
  refine z_nle hx hb (by omega) (tgt := 17) dX2_removeLastEdge_4 (by decide) (fun h4 => ?_) (fun h4 => ?_)
  · omega
  · skip
    refine lv_aload_n hx hb dX2_removeLastEdge_7 rfl (lv_at hl 0 rfl) ?_
    refine lv_dup hx hb dX2_removeLastEdge_8 rfl ?_
    refine va_get (D := D) (ci := 2) (v := .int (nI me)) (C := RX2) (T := TX2) (N := 6) hx hb hts hin2 hown hK hP 0 rfl rfl 5 (by decide) (hts (.fieldLink RX2 29 "TourHouse$Graph" "edges" "I") (by decide +kernel)) (fun _ h9 => h9) rfl dX2_removeLastEdge_9 ?_
    refine lv_iconst (v := nI 1) hx hb dX2_removeLastEdge_12 (by decide) ?_
    refine lv_isub hx hb dX2_removeLastEdge_13 ?_
    refine z_topi (v := nI (me - 1)) (pk_sub (by omega)) ?_
    refine va_put (D := D) (ci := 2) (v := .int (nI (me - 1))) (ty := .int) (C := RX2) (T := TX2) (N := 6) hx hb hts hin2 tyX2 tyX2_ok nmX2 hown hK hP hD hS 0 rfl rfl 5 (by decide) (hts (.fieldLink RX2 29 "TourHouse$Graph" "edges" "I") (by decide +kernel)) (fun _ h9 => h9) rfl (by decide +kernel) (rfl) (rfl) (Nat.le_of_ble_eq_true rfl) dX2_removeLastEdge_14 (fun H locs hP hD hS => ?_)
    have hP : va_P D vwCl [(g, .inr (2, [.ref gf, .ref gt, .ref gw, .int (zB dir), .int (nI nv), .int (nI (me - 1))]))] H := hP
    have hD : va_D A [(g, .inr (2, [.ref gf, .ref gt, .ref gw, .int (zB dir), .int (nI nv), .int (nI (me - 1))]))] := hD
    exact z_vretW hx hb hr hlocks hAe hQ (hP) hK (hD) hS dX2_removeLastEdge_17
set_option maxHeartbeats 4000000 in
set_option maxRecDepth 100000 in
/-- StepRow.isFull -/
theorem c_X4_isFull (l : Launch) (D : va_G) (cA : Nat → ClassId) (sr : Nat) (sa : Nat) (cap : Nat) (Sz : Nat → Int) (len : Nat) (hcap : cap ≤ 1000) (hlen : len ≤ cap) : Met l yX4_isFull wsX4_isFull ({ frames := 0, cells := 0, slots := 0, locals := 0 } : Room) (zRd D vwCl (zT cA) [(sr, .inr (4, [.ref sa, .int (nI len)])), (sa, aI cA cap (fun j => iZ (Sz j)))] [.ref sr]) (vp_Si (fun r => r = zB (decide (cap ≤ len)))) 0 0 (fun _ => False) := by
  refine z_read (cc := cX4_isFull) (maxL := 1) (ret := (some .boolean)) (by decide) rfl (Nat.le_of_ble_eq_true rfl) ?_
  intro p e s m below meth c hx hb hr hml hown hts hlocks hP hK Q hQ ls hl
  have hown : s.vm.findClass RX4 = some m.cls := hown
  have hl : lv_has ls 1 [(0, .ref sr)] := hl
  generalize hav : ([.ref sr] : List Value).toArray = args at hts hQ ⊢
  have hin4 : ∀ w ∈ wsX40, w ∈ wsX4_isFull := by decide +kernel
  refine lv_aload_n hx hb dX4_isFull_0 rfl (lv_at hl 0 rfl) ?_
  refine va_get (D := D) (ci := 4) (v := .int (nI len)) (C := RX4) (T := TX4) (N := 2) hx hb hts hin4 hown hK hP 0 rfl rfl 1 (by decide) (hts (.fieldLink RX4 13 "TourHouse$StepRow" "length" "I") (by decide +kernel)) (fun _ h9 => h9) rfl dX4_isFull_1 ?_
  refine lv_aload_n hx hb dX4_isFull_4 rfl (lv_at hl 0 rfl) ?_
  refine va_get (D := D) (ci := 4) (v := .ref sa) (C := RX4) (T := TX4) (N := 2) hx hb hts hin4 hown hK hP 0 rfl rfl 0 (by decide) (hts (.fieldLink RX4 7 "TourHouse$StepRow" "steps" "[I") (by decide +kernel)) (fun _ h9 => h9) rfl dX4_isFull_5 ?_
  refine va_alen hx hb hK hP 1 0 rfl rfl (v := nI cap) rfl dX4_isFull_8 ?_
  refine z_lt hx hb (by omega) (by omega) (tgt := 16) dX4_isFull_9 (by decide) (fun h9 => ?_) (fun h9 => ?_)
  · skip
    refine lv_iconst (v := zB false) hx hb dX4_isFull_16 (by decide) ?_
    exact z_zretR hx hb hr hlocks hQ (by congr 1; simp; omega) dX4_isFull_17 rfl rfl
  · skip
    refine lv_iconst (v := zB true) hx hb dX4_isFull_12 (by decide) ?_
    refine lv_goto (tgt := 17) hx hb dX4_isFull_13 (by decide) ?_
    exact z_zretR hx hb hr hlocks hQ (by congr 1; simp; omega) dX4_isFull_17 rfl rfl
set_option maxHeartbeats 4000000 in
set_option maxRecDepth 100000 in
/-- StepRow.append -/
theorem c_X4_append (l : Launch) (D : va_G) (cA : Nat → ClassId) (sz : Nat) (sr : Nat) (sa : Nat) (cap : Nat) (Sz : Nat → Int) (len : Nat) (z : Int) (hcap : cap ≤ 1000) (hlen : len ≤ cap) (hlt : len < cap) : Met l yX4_append wsX4_append ({ frames := 1, cells := 0, slots := 0, locals := 20 } : Room) (zWr D vwCl (zT cA) [(sr, .inr (4, [.ref sa, .int (nI len)])), (sa, aI cA cap (fun j => iZ (Sz j)))] sz [.ref sr, .int (iZ z)]) (zQv D vwCl (zT cA) (va_A [(sr, .inr (4, [.ref sa, .int (nI len)])), (sa, aI cA cap (fun j => iZ (Sz j)))] sz) [(sr, .inr (4, [.ref sa, .int (nI (len + 1))])), (sa, aI cA cap (fun j => iZ ((va_up Sz len z) j)))]) 0 0 (va_A [(sr, .inr (4, [.ref sa, .int (nI len)])), (sa, aI cA cap (fun j => iZ (Sz j)))] sz) := by
  refine z_write (cc := cX4_append) (maxL := 2) (ret := none) (by decide) rfl (Nat.le_of_ble_eq_true rfl) ?_
  intro p e s m below meth c hx hb hr hml hown hts hlocks A hAe hA H locs hP hK hD hS hini Q hQ ls hl
  have hown : s.vm.findClass RX4 = some m.cls := hown
  have hl : lv_has ls 2 [(0, .ref sr), (1, .int (iZ z))] := hl
  generalize hav : ([.ref sr, .int (iZ z)] : List Value).toArray = args at hts hQ ⊢
  have hin4 : ∀ w ∈ wsX40, w ∈ wsX4_append := by decide +kernel
  refine lv_aload_n hx hb dX4_append_0 rfl (lv_at hl 0 rfl) ?_
  refine z_cRVi (wc := [(sr, .inr (4, [.ref sa, .int (nI len)])), (sa, aI cA cap (fun j => iZ (Sz j)))]) (rm := ({ frames := 0, cells := 0, slots := 0, locals := 0 } : Room)) (As := []) (rest := []) ⟨hx, hb, hml, hown, hts⟩ (c_X4_isFull l D cA sr sa cap Sz len (by first | assumption | omega) (by first | assumption | omega)) (cwV 0 hts gX4_append_X4_isFull rfl rfl rfl (by decide +kernel) ⟨Nat.le_of_ble_eq_true rfl, Nat.le_of_ble_eq_true rfl⟩) hP hK [0, 1] rfl 4 0 rfl rfl rfl hl.1 rfl (Nat.le_of_ble_eq_true rfl) ⟨Nat.zero_le _, Nat.zero_le _⟩ dX4_append_1 (fun r hr1 => ?_)
  subst hr1
  refine z_ifne hx hb (tgt := 27) dX4_append_4 (by decide) (fun h4 => ?_) (fun h4 => ?_)
  · exact absurd (of_decide_eq_true h4) (by omega)
  · skip
    refine lv_aload_n hx hb dX4_append_7 rfl (lv_at hl 0 rfl) ?_
    refine va_get (D := D) (ci := 4) (v := .ref sa) (C := RX4) (T := TX4) (N := 2) hx hb hts hin4 hown hK hP 0 rfl rfl 0 (by decide) (hts (.fieldLink RX4 7 "TourHouse$StepRow" "steps" "[I") (by decide +kernel)) (fun _ h9 => h9) rfl dX4_append_8 ?_
    refine lv_aload_n hx hb dX4_append_11 rfl (lv_at hl 0 rfl) ?_
    refine va_get (D := D) (ci := 4) (v := .int (nI len)) (C := RX4) (T := TX4) (N := 2) hx hb hts hin4 hown hK hP 0 rfl rfl 1 (by decide) (hts (.fieldLink RX4 13 "TourHouse$StepRow" "length" "I") (by decide +kernel)) (fun _ h9 => h9) rfl dX4_append_12 ?_
    refine lv_iload_n hx hb dX4_append_15 rfl (lv_at hl 1 rfl) ?_
    refine z_iast hx hb hK hP hD hS 1 0 rfl rfl (k := len) (by omega) (by omega) (f' := (fun j => iZ ((va_up Sz len z) j))) (upd_iZ _ _ _) (ws' := [(sr, .inr (4, [.ref sa, .int (nI len)])), (sa, aI cA cap (fun j => iZ ((va_up Sz len z) j)))]) rfl dX4_append_16 (fun H locs hP hD hS => ?_)
    refine lv_aload_n hx hb dX4_append_17 rfl (lv_at hl 0 rfl) ?_
    refine lv_dup hx hb dX4_append_18 rfl ?_
    refine va_get (D := D) (ci := 4) (v := .int (nI len)) (C := RX4) (T := TX4) (N := 2) hx hb hts hin4 hown hK hP 0 rfl rfl 1 (by decide) (hts (.fieldLink RX4 13 "TourHouse$StepRow" "length" "I") (by decide +kernel)) (fun _ h9 => h9) rfl dX4_append_19 ?_
    refine lv_iconst (v := nI 1) hx hb dX4_append_22 (by decide) ?_
    refine lv_iadd hx hb dX4_append_23 ?_
    refine z_topi (v := nI (len + 1)) (nI_add len 1) ?_
    refine va_put (D := D) (ci := 4) (v := .int (nI (len + 1))) (ty := .int) (C := RX4) (T := TX4) (N := 2) hx hb hts hin4 tyX4 tyX4_ok nmX4 hown hK hP hD hS 0 rfl rfl 1 (by decide) (hts (.fieldLink RX4 13 "TourHouse$StepRow" "length" "I") (by decide +kernel)) (fun _ h9 => h9) rfl (by decide +kernel) (rfl) (rfl) (Nat.le_of_ble_eq_true rfl) dX4_append_24 (fun H locs hP hD hS => ?_)
    have hP : va_P D vwCl [(sr, .inr (4, [.ref sa, .int (nI (len + 1))])), (sa, aI cA cap (fun j => iZ ((va_up Sz len z) j)))] H := hP
    have hD : va_D A [(sr, .inr (4, [.ref sa, .int (nI (len + 1))])), (sa, aI cA cap (fun j => iZ ((va_up Sz len z) j)))] := hD
    exact z_vretW hx hb hr hlocks hAe hQ (hP) hK (hD) hS dX4_append_27
set_option maxHeartbeats 4000000 in
set_option maxRecDepth 100000 in
/-- StepRow.clear -/
theorem c_X4_clear (l : Launch) (D : va_G) (cA : Nat → ClassId) (sz : Nat) (sr : Nat) (sa : Nat) (cap : Nat) (Sz : Nat → Int) (len : Nat)  : Met l yX4_clear wsX4_clear ({ frames := 0, cells := 0, slots := 0, locals := 0 } : Room) (zWr D vwCl (zT cA) [(sr, .inr (4, [.ref sa, .int (nI len)]))] sz [.ref sr]) (zQv D vwCl (zT cA) (va_A [(sr, .inr (4, [.ref sa, .int (nI len)]))] sz) [(sr, .inr (4, [.ref sa, .int (nI 0)]))]) 0 0 (va_A [(sr, .inr (4, [.ref sa, .int (nI len)]))] sz) := by
  refine z_write (cc := cX4_clear) (maxL := 1) (ret := none) (by decide) rfl (Nat.le_of_ble_eq_true rfl) ?_
  intro p e s m below meth c hx hb hr hml hown hts hlocks A hAe hA H locs hP hK hD hS hini Q hQ ls hl
  have hown : s.vm.findClass RX4 = some m.cls := hown
  have hl : lv_has ls 1 [(0, .ref sr)] := hl
  generalize hav : ([.ref sr] : List Value).toArray = args at hts hQ ⊢
  have hin4 : ∀ w ∈ wsX40, w ∈ wsX4_clear := by decide +kernel
  refine lv_aload_n hx hb dX4_clear_0 rfl (lv_at hl 0 rfl) ?_
  refine lv_iconst (v := nI 0) hx hb dX4_clear_1 (by decide) ?_
  refine va_put (D := D) (ci := 4) (v := .int (nI 0)) (ty := .int) (C := RX4) (T := TX4) (N := 2) hx hb hts hin4 tyX4 tyX4_ok nmX4 hown hK hP hD hS 0 rfl rfl 1 (by decide) (hts (.fieldLink RX4 13 "TourHouse$StepRow" "length" "I") (by decide +kernel)) (fun _ h9 => h9) rfl (by decide +kernel) (rfl) (rfl) (Nat.le_of_ble_eq_true rfl) dX4_clear_2 (fun H locs hP hD hS => ?_)
  have hP : va_P D vwCl [(sr, .inr (4, [.ref sa, .int (nI 0)]))] H := hP
  have hD : va_D A [(sr, .inr (4, [.ref sa, .int (nI 0)]))] := hD
  exact z_vretW hx hb hr hlocks hAe hQ (hP) hK (hD) hS dX4_clear_5
end
section
/-- Distances: reached, cost, tie, last step, changed -/
abbrev DS : Type := (Nat → Bool) × (Nat → Int) × (Nat → Int) × (Nat → Nat) × Bool
def dLess (a b c d : Int) : Bool := decide (a < c ∨ (a = c ∧ b < d))
def tS (σ : DS) (st a b : Nat) (c t : Int) : DS :=
  if σ.1 a = true then
    if σ.1 b = false ∨ dLess (σ.2.1 a + c) (σ.2.2.1 a + t) (σ.2.1 b) (σ.2.2.1 b) = true then
      (va_up σ.1 b true, va_up σ.2.1 b (σ.2.1 a + c), va_up σ.2.2.1 b (σ.2.2.1 a + t), va_up σ.2.2.2.1 b st, true)
    else σ
  else σ
section
variable {σ : DS} {st a b : Nat} {c t : Int}
theorem tS_no (h : σ.1 a = false) : tS σ st a b c t = σ := by rw [tS, if_neg (by rw [h]; decide)]
theorem tS_no2 (h : σ.1 a = true) (h2 : σ.1 b = true) (h3 : dLess (σ.2.1 a + c) (σ.2.2.1 a + t) (σ.2.1 b) (σ.2.2.1 b) = false) : tS σ st a b c t = σ := by
  rw [tS, if_pos h, if_neg]
  rintro (q | q)
  · rw [h2] at q; cases q
  · rw [h3] at q; cases q
theorem tS_yes (h : σ.1 a = true) (h2 : σ.1 b = false ∨ dLess (σ.2.1 a + c) (σ.2.2.1 a + t) (σ.2.1 b) (σ.2.2.1 b) = true) : tS σ st a b c t = (va_up σ.1 b true, va_up σ.2.1 b (σ.2.1 a + c), va_up σ.2.2.1 b (σ.2.2.1 a + t), va_up σ.2.2.2.1 b st, true) := by
  rw [tS, if_pos h, if_pos h2]
end
/-- what is reached lies within t steps' cost -/
def dB (t : Nat) (σ : DS) : Prop := ∀ j, j < 16 → σ.1 j = true → (-(t : Int) * 1000000000 ≤ σ.2.1 j ∧ σ.2.1 j ≤ (t : Int) * 1000000000) ∧ (-(t : Int) * 549755813888 ≤ σ.2.2.1 j ∧ σ.2.2.1 j ≤ (t : Int) * 549755813888)
theorem dB_mono {t u : Nat} {σ : DS} (h : t ≤ u) (hB : dB t σ) : dB u σ := fun j h16 hj => by
  have := hB j h16 hj
  omega
theorem tS_B {n : Nat} {σ : DS} {st a b : Nat} {c t : Int} (ha : a < 16) (hB : dB n σ) (hc : -1000000000 ≤ c ∧ c ≤ 1000000000) (ht : -549755813888 ≤ t ∧ t ≤ 549755813888) : dB (n + 1) (tS σ st a b c t) := by
  by_cases h1 : σ.1 a = true
  · by_cases h2 : σ.1 b = false ∨ dLess (σ.2.1 a + c) (σ.2.2.1 a + t) (σ.2.1 b) (σ.2.2.1 b) = true
    · rw [tS_yes h1 h2]
      intro j h16 hj
      by_cases e : j = b
      · subst e
        have := hB a ha h1
        show (_ ≤ va_up σ.2.1 j _ j ∧ va_up σ.2.1 j _ j ≤ _) ∧ (_ ≤ va_up σ.2.2.1 j _ j ∧ va_up σ.2.2.1 j _ j ≤ _)
        rw [up_at, up_at]
        omega
      · have hj : va_up σ.1 b true j = true := hj
        rw [up_ne e] at hj
        have := hB j h16 hj
        show (_ ≤ va_up σ.2.1 b _ j ∧ va_up σ.2.1 b _ j ≤ _) ∧ (_ ≤ va_up σ.2.2.1 b _ j ∧ va_up σ.2.2.1 b _ j ≤ _)
        rw [up_ne e, up_ne e]
        omega
    · rw [tS, if_pos h1, if_neg h2]; exact dB_mono (by omega) hB
  · rw [tS, if_neg h1]; exact dB_mono (by omega) hB
theorem pow39 (i : Nat) : -549755813888 ≤ (2 : Int) ^ (39 - i) ∧ (2 : Int) ^ (39 - i) ≤ 549755813888 := by
  have h1 : (2 : Nat) ^ (39 - i) ≤ 549755813888 := Nat.le_trans (Nat.pow_le_pow_right (by decide) (by omega : 39 - i ≤ 39)) (by decide)
  have h2 : ((2 ^ (39 - i) : Nat) : Int) = (2 : Int) ^ (39 - i) := by simp
  have h3 : (0 : Int) ≤ (2 : Int) ^ (39 - i) := by rw [← h2]; exact Int.natCast_nonneg _
  have h4 : (2 : Int) ^ (39 - i) ≤ 549755813888 := by rw [← h2]; exact Int.ofNat_le.mpr h1
  omega
theorem pow39n (i : Nat) : -549755813888 ≤ -(2 : Int) ^ (39 - i) ∧ -(2 : Int) ^ (39 - i) ≤ 549755813888 := by
  have := pow39 i
  omega
def clr (r : Nat → Bool) (i : Nat) : Nat → Bool := fun j => if j < i then false else r j
theorem clr_0 {r : Nat → Bool} : clr r 0 = r := by funext j; simp [clr]
theorem clr_up {r : Nat → Bool} {i : Nat} : va_up (clr r i) i false = clr r (i + 1) := by
  funext j
  by_cases e : j = i
  · subst e; rw [up_at]; simp [clr]
  · rw [up_ne e]; simp only [clr]
    by_cases h : j < i
    · rw [if_pos h, if_pos (by omega)]
    · rw [if_neg h, if_neg (by omega)]
def dInit (σ : DS) (src : Nat) : DS := (va_up (clr σ.1 16) src true, va_up σ.2.1 src 0, va_up σ.2.2.1 src 0, σ.2.2.2.1, true)
/-- the first k edges, tried one behind the other -/
def dPass (dir : Bool) (Fr To We : Nat → Nat) (X : Nat → Int) (τ : DS) : Nat → DS
  | 0 => (τ.1, τ.2.1, τ.2.2.1, τ.2.2.2.1, false)
  | i + 1 => 
    if dir = false then tS (tS (dPass dir Fr To We X τ i) (2 * i) (Fr i) (To i) ((We i : Nat) : Int) (2 ^ (39 - i))) (2 * i + 1) (To i) (Fr i) ((We i : Nat) : Int) (2 ^ (39 - i))
    else if 0 < X i then tS (tS (dPass dir Fr To We X τ i) (2 * i) (Fr i) (To i) ((We i : Nat) : Int) (2 ^ (39 - i))) (2 * i + 1) (To i) (Fr i) (-((We i : Nat) : Int)) (-(2 ^ (39 - i)))
    else tS (dPass dir Fr To We X τ i) (2 * i) (Fr i) (To i) ((We i : Nat) : Int) (2 ^ (39 - i))
def dLoop (dir : Bool) (Fr To We : Nat → Nat) (X : Nat → Int) (me : Nat) : Nat → DS → DS
  | 0, τ => τ
  | n + 1, τ => if τ.2.2.2.2 = false then τ else dLoop dir Fr To We X me n (dPass dir Fr To We X τ me)
def dSearch (dir : Bool) (Fr To We : Nat → Nat) (X : Nat → Int) (me : Nat) (σ : DS) (src : Nat) : DS := dLoop dir Fr To We X me 16 (dInit σ src)
theorem dInit_B (σ : DS) {src : Nat} (hs : src < 16) : dB (80 * 0) (dInit σ src) := by
  intro j h16 hj
  have hj : va_up (clr σ.1 16) src true j = true := hj
  by_cases e : j = src
  · subst e
    show (_ ≤ va_up σ.2.1 j 0 j ∧ va_up σ.2.1 j 0 j ≤ _) ∧ (_ ≤ va_up σ.2.2.1 j 0 j ∧ va_up σ.2.2.1 j 0 j ≤ _)
    rw [up_at, up_at]
    omega
  · rw [up_ne e, clr, if_pos h16] at hj
    cases hj
section
variable {dir : Bool} {Fr To We : Nat → Nat} {X : Nat → Int} {τ : DS} {i : Nat}
theorem dPass_n (h : dir = false) : dPass dir Fr To We X τ (i + 1) = tS (tS (dPass dir Fr To We X τ i) (2 * i) (Fr i) (To i) ((We i : Nat) : Int) (2 ^ (39 - i))) (2 * i + 1) (To i) (Fr i) ((We i : Nat) : Int) (2 ^ (39 - i)) := by
  rw [dPass, if_pos h]
theorem dPass_d0 (h : dir = true) (h2 : ¬ 0 < X i) : dPass dir Fr To We X τ (i + 1) = tS (dPass dir Fr To We X τ i) (2 * i) (Fr i) (To i) ((We i : Nat) : Int) (2 ^ (39 - i)) := by
  rw [dPass, if_neg (by rw [h]; decide), if_neg h2]
theorem dPass_d1 (h : dir = true) (h2 : 0 < X i) : dPass dir Fr To We X τ (i + 1) = tS (tS (dPass dir Fr To We X τ i) (2 * i) (Fr i) (To i) ((We i : Nat) : Int) (2 ^ (39 - i))) (2 * i + 1) (To i) (Fr i) (-((We i : Nat) : Int)) (-(2 ^ (39 - i))) := by
  rw [dPass, if_neg (by rw [h]; decide), if_pos h2]
theorem dPass_B (hF : ∀ j, Fr j < 16) (hT : ∀ j, To j < 16) (hW : ∀ j, We j ≤ 1000000000) {n : Nat} (hB : dB n τ) : ∀ k : Nat, dB (n + 2 * k) (dPass dir Fr To We X τ k)
  | 0 => hB
  | k + 1 => by
    have h1 := dPass_B hF hT hW hB k
    have h2 := hW k
    rw [dPass]
    split
    · exact tS_B (hT k) (tS_B (hF k) h1 (by omega) (pow39 k)) (by omega) (pow39 k)
    · split
      · exact tS_B (hT k) (tS_B (hF k) h1 (by omega) (pow39 k)) (by omega) (pow39n k)
      · exact dB_mono (by omega) (tS_B (hF k) h1 (by omega) (pow39 k))
end
set_option maxHeartbeats 4000000 in
set_option maxRecDepth 100000 in
/-- Distances.isLess -/
theorem c_X1_isLess (l : Launch) (D : va_G) (cA : Nat → ClassId) (q1 : Int) (q2 : Int) (q3 : Int) (q4 : Int) (hq1 : -9223372036854775808 ≤ q1 ∧ q1 < 9223372036854775808) (hq2 : -9223372036854775808 ≤ q2 ∧ q2 < 9223372036854775808) (hq3 : -9223372036854775808 ≤ q3 ∧ q3 < 9223372036854775808) (hq4 : -9223372036854775808 ≤ q4 ∧ q4 < 9223372036854775808) : Met l yX1_isLess wsX1_isLess ({ frames := 0, cells := 0, slots := 0, locals := 0 } : Room) (zRd D vwCl (zT cA) [] [.long (lZ q1), .long (lZ q2), .long (lZ q3), .long (lZ q4)]) (vp_Si (fun r => r = zB (dLess q1 q2 q3 q4))) 0 0 (fun _ => False) := by
  refine z_read (cc := cX1_isLess) (maxL := 8) (ret := (some .boolean)) (by decide) rfl (Nat.le_of_ble_eq_true rfl) ?_
  intro p e s m below meth c hx hb hr hml hown hts hlocks hP hK Q hQ ls hl
  have hown : s.vm.findClass RX1 = some m.cls := hown
  have hl : lv_has ls 8 [(0, .long (lZ q1)), (2, .long (lZ q2)), (4, .long (lZ q3)), (6, .long (lZ q4))] := hl
  generalize hav : ([.long (lZ q1), .long (lZ q2), .long (lZ q3), .long (lZ q4)] : List Value).toArray = args at hts hQ ⊢
  refine lv_lload_n hx hb dX1_isLess_0 rfl (lv_at hl 0 rfl) ?_
  refine lv_lload hx hb dX1_isLess_1 (lv_at hl 2 rfl) ?_
  refine z_lcmp_lt hx hb (x := q1) (y := q3) (hq1) (hq3) (tgt := 21) dX1_isLess_3 dX1_isLess_4 (by decide) (fun h3 => ?_) (fun h3 => ?_)
  · skip
    refine lv_iconst (v := zB true) hx hb dX1_isLess_21 (by decide) ?_
    refine lv_goto (tgt := 26) hx hb dX1_isLess_22 (by decide) ?_
    exact z_zretR hx hb hr hlocks hQ (by congr 1; simp only [dLess]; symm; first | (rw [decide_eq_true_eq]; omega) | (rw [decide_eq_false_iff_not]; omega)) dX1_isLess_26 rfl rfl
  · skip
    refine lv_lload_n hx hb dX1_isLess_7 rfl (lv_at hl 0 rfl) ?_
    refine lv_lload hx hb dX1_isLess_8 (lv_at hl 2 rfl) ?_
    refine z_lcmp_ne hx hb (x := q1) (y := q3) (hq1) (hq3) (tgt := 25) dX1_isLess_10 dX1_isLess_11 (by decide) (fun h10 => ?_) (fun h10 => ?_)
    · skip
      refine lv_iconst (v := zB false) hx hb dX1_isLess_25 (by decide) ?_
      exact z_zretR hx hb hr hlocks hQ (by congr 1; simp only [dLess]; symm; first | (rw [decide_eq_true_eq]; omega) | (rw [decide_eq_false_iff_not]; omega)) dX1_isLess_26 rfl rfl
    · skip
      refine lv_lload_n hx hb dX1_isLess_14 rfl (lv_at hl 1 rfl) ?_
      refine lv_lload hx hb dX1_isLess_15 (lv_at hl 3 rfl) ?_
      refine z_lcmp_ge hx hb (x := q2) (y := q4) (hq2) (hq4) (tgt := 25) dX1_isLess_17 dX1_isLess_18 (by decide) (fun h17 => ?_) (fun h17 => ?_)
      · skip
        refine lv_iconst (v := zB false) hx hb dX1_isLess_25 (by decide) ?_
        exact z_zretR hx hb hr hlocks hQ (by congr 1; simp only [dLess]; symm; first | (rw [decide_eq_true_eq]; omega) | (rw [decide_eq_false_iff_not]; omega)) dX1_isLess_26 rfl rfl
      · skip
        refine lv_iconst (v := zB true) hx hb dX1_isLess_21 (by decide) ?_
        refine lv_goto (tgt := 26) hx hb dX1_isLess_22 (by decide) ?_
        exact z_zretR hx hb hr hlocks hQ (by congr 1; simp only [dLess]; symm; first | (rw [decide_eq_true_eq]; omega) | (rw [decide_eq_false_iff_not]; omega)) dX1_isLess_26 rfl rfl
set_option maxHeartbeats 4000000 in
set_option maxRecDepth 100000 in
/-- Distances.tryStep -/
theorem c_X1_tryStep (l : Launch) (D : va_G) (cA : Nat → ClassId) (sz : Nat) (ds : Nat) (dr : Nat) (dc : Nat) (dt : Nat) (dl : Nat) (dn : Nat) (σ : DS) (st : Nat) (a : Nat) (b : Nat) (cc1 : Int) (tt1 : Int) (tb : Nat) (hB : dB tb σ) (htb : tb ≤ 2000) (hc1 : -1000000000 ≤ cc1 ∧ cc1 ≤ 1000000000) (ht1 : -549755813888 ≤ tt1 ∧ tt1 ≤ 549755813888) (ha : a < 16) (hbb : b < 16) : Met l yX1_tryStep wsX1_tryStep ({ frames := 1, cells := 0, slots := 0, locals := 27 } : Room) (zWr D vwCl (zT cA) [(ds, .inr (1, [.ref dr, .ref dc, .ref dt, .ref dl, .ref dn, .int (zB σ.2.2.2.2)])), (dr, aZ cA 16 (fun j => zB (σ.1 j))), (dc, aJ cA 16 (fun j => lZ (σ.2.1 j))), (dt, aJ cA 16 (fun j => lZ (σ.2.2.1 j))), (dl, aI cA 16 (fun j => nI (σ.2.2.2.1 j)))] sz [.ref ds, .int (nI st), .int (nI a), .int (nI b), .long (lZ cc1), .long (lZ tt1)]) (zQv D vwCl (zT cA) (va_A [(ds, .inr (1, [.ref dr, .ref dc, .ref dt, .ref dl, .ref dn, .int (zB σ.2.2.2.2)])), (dr, aZ cA 16 (fun j => zB (σ.1 j))), (dc, aJ cA 16 (fun j => lZ (σ.2.1 j))), (dt, aJ cA 16 (fun j => lZ (σ.2.2.1 j))), (dl, aI cA 16 (fun j => nI (σ.2.2.2.1 j)))] sz) [(ds, .inr (1, [.ref dr, .ref dc, .ref dt, .ref dl, .ref dn, .int (zB ((tS σ st a b cc1 tt1).2.2.2.2))])), (dr, aZ cA 16 (fun j => zB (((tS σ st a b cc1 tt1).1) j))), (dc, aJ cA 16 (fun j => lZ (((tS σ st a b cc1 tt1).2.1) j))), (dt, aJ cA 16 (fun j => lZ (((tS σ st a b cc1 tt1).2.2.1) j))), (dl, aI cA 16 (fun j => nI (((tS σ st a b cc1 tt1).2.2.2.1) j)))]) 0 0 (va_A [(ds, .inr (1, [.ref dr, .ref dc, .ref dt, .ref dl, .ref dn, .int (zB σ.2.2.2.2)])), (dr, aZ cA 16 (fun j => zB (σ.1 j))), (dc, aJ cA 16 (fun j => lZ (σ.2.1 j))), (dt, aJ cA 16 (fun j => lZ (σ.2.2.1 j))), (dl, aI cA 16 (fun j => nI (σ.2.2.2.1 j)))] sz) := by
  refine z_write (cc := cX1_tryStep) (maxL := 12) (ret := none) (by decide) rfl (Nat.le_of_ble_eq_true rfl) ?_
  intro p e s m below meth c hx hb hr hml hown hts hlocks A hAe hA H locs hP hK hD hS hini Q hQ ls hl
  have hown : s.vm.findClass RX1 = some m.cls := hown
  have hl : lv_has ls 12 [(0, .ref ds), (1, .int (nI st)), (2, .int (nI a)), (3, .int (nI b)), (4, .long (lZ cc1)), (6, .long (lZ tt1))] := hl
  generalize hav : ([.ref ds, .int (nI st), .int (nI a), .int (nI b), .long (lZ cc1), .long (lZ tt1)] : List Value).toArray = args at hts hQ ⊢
  have hin1 : ∀ w ∈ wsX10, w ∈ wsX1_tryStep := by decide +kernel
  refine lv_aload_n hx hb dX1_tryStep_0 rfl (lv_at hl 0 rfl) ?_
  refine va_get (D := D) (ci := 1) (v := .ref dr) (C := RX1) (T := TX1) (N := 6) hx hb hts hin1 hown hK hP 0 rfl rfl 0 (by decide) (hts (.fieldLink RX1 9 "TourHouse$Distances" "reached" "[Z") (by decide +kernel)) (fun _ h9 => h9) rfl dX1_tryStep_1 ?_
  refine lv_iload_n hx hb dX1_tryStep_4 rfl (lv_at hl 2 rfl) ?_
  refine z_zald hx hb hK hP 1 2 rfl rfl (k := a) (by omega) (by decide) (v := zB (σ.1 a)) rfl dX1_tryStep_5 ?_
  refine z_ifne hx hb (tgt := 10) dX1_tryStep_6 (by decide) (fun h6 => ?_) (fun h6 => ?_)
  · skip
    refine lv_aload_n hx hb dX1_tryStep_10 rfl (lv_at hl 0 rfl) ?_
    refine va_get (D := D) (ci := 1) (v := .ref dc) (C := RX1) (T := TX1) (N := 6) hx hb hts hin1 hown hK hP 0 rfl rfl 1 (by decide) (hts (.fieldLink RX1 15 "TourHouse$Distances" "cost" "[J") (by decide +kernel)) (fun _ h9 => h9) rfl dX1_tryStep_11 ?_
    refine lv_iload_n hx hb dX1_tryStep_14 rfl (lv_at hl 2 rfl) ?_
    refine z_lald hx hb hK hP 2 1 rfl rfl (k := a) (by omega) (by decide) (v := lZ (σ.2.1 a)) rfl dX1_tryStep_15 ?_
    refine lv_lload hx hb dX1_tryStep_16 (lv_at hl 4 rfl) ?_
    refine lv_ladd hx hb dX1_tryStep_18 ?_
    refine z_topl (v := lZ ((σ.2.1 a) + cc1)) (lZ_add (σ.2.1 a) cc1) ?_
    refine lv_lstore (lv' := [(8, .long (lZ ((σ.2.1 a) + cc1))), (0, .ref ds), (1, .int (nI st)), (2, .int (nI a)), (3, .int (nI b)), (4, .long (lZ cc1)), (6, .long (lZ tt1))]) hx hb dX1_tryStep_19 hl (by decide) rfl (fun ls hl => ?_)
    refine lv_aload_n hx hb dX1_tryStep_21 rfl (lv_at hl 1 rfl) ?_
    refine va_get (D := D) (ci := 1) (v := .ref dt) (C := RX1) (T := TX1) (N := 6) hx hb hts hin1 hown hK hP 0 rfl rfl 2 (by decide) (hts (.fieldLink RX1 19 "TourHouse$Distances" "tie" "[J") (by decide +kernel)) (fun _ h9 => h9) rfl dX1_tryStep_22 ?_
    refine lv_iload_n hx hb dX1_tryStep_25 rfl (lv_at hl 3 rfl) ?_
    refine z_lald hx hb hK hP 3 1 rfl rfl (k := a) (by omega) (by decide) (v := lZ (σ.2.2.1 a)) rfl dX1_tryStep_26 ?_
    refine lv_lload hx hb dX1_tryStep_27 (lv_at hl 6 rfl) ?_
    refine lv_ladd hx hb dX1_tryStep_29 ?_
    refine z_topl (v := lZ ((σ.2.2.1 a) + tt1)) (lZ_add (σ.2.2.1 a) tt1) ?_
    refine lv_lstore (lv' := [(10, .long (lZ ((σ.2.2.1 a) + tt1))), (8, .long (lZ ((σ.2.1 a) + cc1))), (0, .ref ds), (1, .int (nI st)), (2, .int (nI a)), (3, .int (nI b)), (4, .long (lZ cc1)), (6, .long (lZ tt1))]) hx hb dX1_tryStep_30 hl (by decide) rfl (fun ls hl => ?_)
    refine lv_aload_n hx hb dX1_tryStep_32 rfl (lv_at hl 2 rfl) ?_
    refine va_get (D := D) (ci := 1) (v := .ref dr) (C := RX1) (T := TX1) (N := 6) hx hb hts hin1 hown hK hP 0 rfl rfl 0 (by decide) (hts (.fieldLink RX1 9 "TourHouse$Distances" "reached" "[Z") (by decide +kernel)) (fun _ h9 => h9) rfl dX1_tryStep_33 ?_
    refine lv_iload_n hx hb dX1_tryStep_36 rfl (lv_at hl 5 rfl) ?_
    refine z_zald hx hb hK hP 1 2 rfl rfl (k := b) (by omega) (by decide) (v := zB (σ.1 b)) rfl dX1_tryStep_37 ?_
    refine z_ifeq hx hb (tgt := 63) dX1_tryStep_38 (by decide) (fun h38 => ?_) (fun h38 => ?_)
    · skip
      refine lv_aload_n hx hb dX1_tryStep_63 rfl (lv_at hl 2 rfl) ?_
      refine va_get (D := D) (ci := 1) (v := .ref dr) (C := RX1) (T := TX1) (N := 6) hx hb hts hin1 hown hK hP 0 rfl rfl 0 (by decide) (hts (.fieldLink RX1 9 "TourHouse$Distances" "reached" "[Z") (by decide +kernel)) (fun _ h9 => h9) rfl dX1_tryStep_64 ?_
      refine lv_iload_n hx hb dX1_tryStep_67 rfl (lv_at hl 5 rfl) ?_
      refine lv_iconst (v := zB true) hx hb dX1_tryStep_68 (by decide) ?_
      refine z_zast hx hb hK hP hD hS 1 2 rfl rfl (k := b) (by omega) (by decide) (f' := (fun j => zB ((va_up σ.1 b true) j))) (upd_zB _ _ _) (ws' := [(ds, .inr (1, [.ref dr, .ref dc, .ref dt, .ref dl, .ref dn, .int (zB σ.2.2.2.2)])), (dr, aZ cA 16 (fun j => zB ((va_up σ.1 b true) j))), (dc, aJ cA 16 (fun j => lZ (σ.2.1 j))), (dt, aJ cA 16 (fun j => lZ (σ.2.2.1 j))), (dl, aI cA 16 (fun j => nI (σ.2.2.2.1 j)))]) rfl dX1_tryStep_69 (fun H locs hP hD hS => ?_)
      refine lv_aload_n hx hb dX1_tryStep_70 rfl (lv_at hl 2 rfl) ?_
      refine va_get (D := D) (ci := 1) (v := .ref dc) (C := RX1) (T := TX1) (N := 6) hx hb hts hin1 hown hK hP 0 rfl rfl 1 (by decide) (hts (.fieldLink RX1 15 "TourHouse$Distances" "cost" "[J") (by decide +kernel)) (fun _ h9 => h9) rfl dX1_tryStep_71 ?_
      refine lv_iload_n hx hb dX1_tryStep_74 rfl (lv_at hl 5 rfl) ?_
      refine lv_lload hx hb dX1_tryStep_75 (lv_at hl 1 rfl) ?_
      refine z_last hx hb hK hP hD hS 2 1 rfl rfl (k := b) (by omega) (by decide) (f' := (fun j => lZ ((va_up σ.2.1 b ((σ.2.1 a) + cc1)) j))) (updL_lZ _ _ _) (ws' := [(ds, .inr (1, [.ref dr, .ref dc, .ref dt, .ref dl, .ref dn, .int (zB σ.2.2.2.2)])), (dr, aZ cA 16 (fun j => zB ((va_up σ.1 b true) j))), (dc, aJ cA 16 (fun j => lZ ((va_up σ.2.1 b ((σ.2.1 a) + cc1)) j))), (dt, aJ cA 16 (fun j => lZ (σ.2.2.1 j))), (dl, aI cA 16 (fun j => nI (σ.2.2.2.1 j)))]) rfl dX1_tryStep_77 (fun H locs hP hD hS => ?_)
      refine lv_aload_n hx hb dX1_tryStep_78 rfl (lv_at hl 2 rfl) ?_
      refine va_get (D := D) (ci := 1) (v := .ref dt) (C := RX1) (T := TX1) (N := 6) hx hb hts hin1 hown hK hP 0 rfl rfl 2 (by decide) (hts (.fieldLink RX1 19 "TourHouse$Distances" "tie" "[J") (by decide +kernel)) (fun _ h9 => h9) rfl dX1_tryStep_79 ?_
      refine lv_iload_n hx hb dX1_tryStep_82 rfl (lv_at hl 5 rfl) ?_
      refine lv_lload hx hb dX1_tryStep_83 (lv_at hl 0 rfl) ?_
      refine z_last hx hb hK hP hD hS 3 1 rfl rfl (k := b) (by omega) (by decide) (f' := (fun j => lZ ((va_up σ.2.2.1 b ((σ.2.2.1 a) + tt1)) j))) (updL_lZ _ _ _) (ws' := [(ds, .inr (1, [.ref dr, .ref dc, .ref dt, .ref dl, .ref dn, .int (zB σ.2.2.2.2)])), (dr, aZ cA 16 (fun j => zB ((va_up σ.1 b true) j))), (dc, aJ cA 16 (fun j => lZ ((va_up σ.2.1 b ((σ.2.1 a) + cc1)) j))), (dt, aJ cA 16 (fun j => lZ ((va_up σ.2.2.1 b ((σ.2.2.1 a) + tt1)) j))), (dl, aI cA 16 (fun j => nI (σ.2.2.2.1 j)))]) rfl dX1_tryStep_85 (fun H locs hP hD hS => ?_)
      refine lv_aload_n hx hb dX1_tryStep_86 rfl (lv_at hl 2 rfl) ?_
      refine va_get (D := D) (ci := 1) (v := .ref dl) (C := RX1) (T := TX1) (N := 6) hx hb hts hin1 hown hK hP 0 rfl rfl 3 (by decide) (hts (.fieldLink RX1 22 "TourHouse$Distances" "lastStep" "[I") (by decide +kernel)) (fun _ h9 => h9) rfl dX1_tryStep_87 ?_
      refine lv_iload_n hx hb dX1_tryStep_90 rfl (lv_at hl 5 rfl) ?_
      refine lv_iload_n hx hb dX1_tryStep_91 rfl (lv_at hl 3 rfl) ?_
      refine z_iast hx hb hK hP hD hS 4 0 rfl rfl (k := b) (by omega) (by decide) (f' := (fun j => nI ((va_up σ.2.2.2.1 b st) j))) (upd_nI _ _ _) (ws' := [(ds, .inr (1, [.ref dr, .ref dc, .ref dt, .ref dl, .ref dn, .int (zB σ.2.2.2.2)])), (dr, aZ cA 16 (fun j => zB ((va_up σ.1 b true) j))), (dc, aJ cA 16 (fun j => lZ ((va_up σ.2.1 b ((σ.2.1 a) + cc1)) j))), (dt, aJ cA 16 (fun j => lZ ((va_up σ.2.2.1 b ((σ.2.2.1 a) + tt1)) j))), (dl, aI cA 16 (fun j => nI ((va_up σ.2.2.2.1 b st) j)))]) rfl dX1_tryStep_92 (fun H locs hP hD hS => ?_)
      refine lv_aload_n hx hb dX1_tryStep_93 rfl (lv_at hl 2 rfl) ?_
      refine lv_iconst (v := zB true) hx hb dX1_tryStep_94 (by decide) ?_
      refine va_put (D := D) (ci := 1) (v := .int (zB true)) (ty := .boolean) (C := RX1) (T := TX1) (N := 6) hx hb hts hin1 tyX1 tyX1_ok nmX1 hown hK hP hD hS 0 rfl rfl 5 (by decide) (hts (.fieldLink RX1 29 "TourHouse$Distances" "changed" "Z") (by decide +kernel)) (fun _ h9 => h9) rfl (by decide +kernel) (zB_nar _) (zB_fits _) (Nat.le_of_ble_eq_true rfl) dX1_tryStep_95 (fun H locs hP hD hS => ?_)
      have hP : va_P D vwCl [(ds, .inr (1, [.ref dr, .ref dc, .ref dt, .ref dl, .ref dn, .int (zB true)])), (dr, aZ cA 16 (fun j => zB ((va_up σ.1 b true) j))), (dc, aJ cA 16 (fun j => lZ ((va_up σ.2.1 b ((σ.2.1 a) + cc1)) j))), (dt, aJ cA 16 (fun j => lZ ((va_up σ.2.2.1 b ((σ.2.2.1 a) + tt1)) j))), (dl, aI cA 16 (fun j => nI ((va_up σ.2.2.2.1 b st) j)))] H := hP
      have hD : va_D A [(ds, .inr (1, [.ref dr, .ref dc, .ref dt, .ref dl, .ref dn, .int (zB true)])), (dr, aZ cA 16 (fun j => zB ((va_up σ.1 b true) j))), (dc, aJ cA 16 (fun j => lZ ((va_up σ.2.1 b ((σ.2.1 a) + cc1)) j))), (dt, aJ cA 16 (fun j => lZ ((va_up σ.2.2.1 b ((σ.2.2.1 a) + tt1)) j))), (dl, aI cA 16 (fun j => nI ((va_up σ.2.2.2.1 b st) j)))] := hD
      have q9 : zB ((tS σ st a b cc1 tt1).2.2.2.2) = zB true := by first | rw [tS_no2 h6 h38 h60] | rw [tS_yes h6 (Or.inl h38)] | rw [tS_yes h6 (Or.inr h60)]
      have hP : va_P D vwCl [(ds, .inr (1, [.ref dr, .ref dc, .ref dt, .ref dl, .ref dn, .int (zB ((tS σ st a b cc1 tt1).2.2.2.2))])), (dr, aZ cA 16 (fun j => zB ((va_up σ.1 b true) j))), (dc, aJ cA 16 (fun j => lZ ((va_up σ.2.1 b ((σ.2.1 a) + cc1)) j))), (dt, aJ cA 16 (fun j => lZ ((va_up σ.2.2.1 b ((σ.2.2.1 a) + tt1)) j))), (dl, aI cA 16 (fun j => nI ((va_up σ.2.2.2.1 b st) j)))] H := by rw [q9]; exact hP
      have hD : va_D A [(ds, .inr (1, [.ref dr, .ref dc, .ref dt, .ref dl, .ref dn, .int (zB ((tS σ st a b cc1 tt1).2.2.2.2))])), (dr, aZ cA 16 (fun j => zB ((va_up σ.1 b true) j))), (dc, aJ cA 16 (fun j => lZ ((va_up σ.2.1 b ((σ.2.1 a) + cc1)) j))), (dt, aJ cA 16 (fun j => lZ ((va_up σ.2.2.1 b ((σ.2.2.1 a) + tt1)) j))), (dl, aI cA 16 (fun j => nI ((va_up σ.2.2.2.1 b st) j)))] := by rw [q9]; exact hD
      have q9 : (fun j => zB (((tS σ st a b cc1 tt1).1) j)) = (fun j => zB ((va_up σ.1 b true) j)) := by first | rw [tS_no2 h6 h38 h60] | rw [tS_yes h6 (Or.inl h38)] | rw [tS_yes h6 (Or.inr h60)]
      have hP : va_P D vwCl [(ds, .inr (1, [.ref dr, .ref dc, .ref dt, .ref dl, .ref dn, .int (zB ((tS σ st a b cc1 tt1).2.2.2.2))])), (dr, aZ cA 16 (fun j => zB (((tS σ st a b cc1 tt1).1) j))), (dc, aJ cA 16 (fun j => lZ ((va_up σ.2.1 b ((σ.2.1 a) + cc1)) j))), (dt, aJ cA 16 (fun j => lZ ((va_up σ.2.2.1 b ((σ.2.2.1 a) + tt1)) j))), (dl, aI cA 16 (fun j => nI ((va_up σ.2.2.2.1 b st) j)))] H := by rw [q9]; exact hP
      have hD : va_D A [(ds, .inr (1, [.ref dr, .ref dc, .ref dt, .ref dl, .ref dn, .int (zB ((tS σ st a b cc1 tt1).2.2.2.2))])), (dr, aZ cA 16 (fun j => zB (((tS σ st a b cc1 tt1).1) j))), (dc, aJ cA 16 (fun j => lZ ((va_up σ.2.1 b ((σ.2.1 a) + cc1)) j))), (dt, aJ cA 16 (fun j => lZ ((va_up σ.2.2.1 b ((σ.2.2.1 a) + tt1)) j))), (dl, aI cA 16 (fun j => nI ((va_up σ.2.2.2.1 b st) j)))] := by rw [q9]; exact hD
      have q9 : (fun j => lZ (((tS σ st a b cc1 tt1).2.1) j)) = (fun j => lZ ((va_up σ.2.1 b ((σ.2.1 a) + cc1)) j)) := by first | rw [tS_no2 h6 h38 h60] | rw [tS_yes h6 (Or.inl h38)] | rw [tS_yes h6 (Or.inr h60)]
      have hP : va_P D vwCl [(ds, .inr (1, [.ref dr, .ref dc, .ref dt, .ref dl, .ref dn, .int (zB ((tS σ st a b cc1 tt1).2.2.2.2))])), (dr, aZ cA 16 (fun j => zB (((tS σ st a b cc1 tt1).1) j))), (dc, aJ cA 16 (fun j => lZ (((tS σ st a b cc1 tt1).2.1) j))), (dt, aJ cA 16 (fun j => lZ ((va_up σ.2.2.1 b ((σ.2.2.1 a) + tt1)) j))), (dl, aI cA 16 (fun j => nI ((va_up σ.2.2.2.1 b st) j)))] H := by rw [q9]; exact hP
      have hD : va_D A [(ds, .inr (1, [.ref dr, .ref dc, .ref dt, .ref dl, .ref dn, .int (zB ((tS σ st a b cc1 tt1).2.2.2.2))])), (dr, aZ cA 16 (fun j => zB (((tS σ st a b cc1 tt1).1) j))), (dc, aJ cA 16 (fun j => lZ (((tS σ st a b cc1 tt1).2.1) j))), (dt, aJ cA 16 (fun j => lZ ((va_up σ.2.2.1 b ((σ.2.2.1 a) + tt1)) j))), (dl, aI cA 16 (fun j => nI ((va_up σ.2.2.2.1 b st) j)))] := by rw [q9]; exact hD
      have q9 : (fun j => lZ (((tS σ st a b cc1 tt1).2.2.1) j)) = (fun j => lZ ((va_up σ.2.2.1 b ((σ.2.2.1 a) + tt1)) j)) := by first | rw [tS_no2 h6 h38 h60] | rw [tS_yes h6 (Or.inl h38)] | rw [tS_yes h6 (Or.inr h60)]
      have hP : va_P D vwCl [(ds, .inr (1, [.ref dr, .ref dc, .ref dt, .ref dl, .ref dn, .int (zB ((tS σ st a b cc1 tt1).2.2.2.2))])), (dr, aZ cA 16 (fun j => zB (((tS σ st a b cc1 tt1).1) j))), (dc, aJ cA 16 (fun j => lZ (((tS σ st a b cc1 tt1).2.1) j))), (dt, aJ cA 16 (fun j => lZ (((tS σ st a b cc1 tt1).2.2.1) j))), (dl, aI cA 16 (fun j => nI ((va_up σ.2.2.2.1 b st) j)))] H := by rw [q9]; exact hP
      have hD : va_D A [(ds, .inr (1, [.ref dr, .ref dc, .ref dt, .ref dl, .ref dn, .int (zB ((tS σ st a b cc1 tt1).2.2.2.2))])), (dr, aZ cA 16 (fun j => zB (((tS σ st a b cc1 tt1).1) j))), (dc, aJ cA 16 (fun j => lZ (((tS σ st a b cc1 tt1).2.1) j))), (dt, aJ cA 16 (fun j => lZ (((tS σ st a b cc1 tt1).2.2.1) j))), (dl, aI cA 16 (fun j => nI ((va_up σ.2.2.2.1 b st) j)))] := by rw [q9]; exact hD
      have q9 : (fun j => nI (((tS σ st a b cc1 tt1).2.2.2.1) j)) = (fun j => nI ((va_up σ.2.2.2.1 b st) j)) := by first | rw [tS_no2 h6 h38 h60] | rw [tS_yes h6 (Or.inl h38)] | rw [tS_yes h6 (Or.inr h60)]
      have hP : va_P D vwCl [(ds, .inr (1, [.ref dr, .ref dc, .ref dt, .ref dl, .ref dn, .int (zB ((tS σ st a b cc1 tt1).2.2.2.2))])), (dr, aZ cA 16 (fun j => zB (((tS σ st a b cc1 tt1).1) j))), (dc, aJ cA 16 (fun j => lZ (((tS σ st a b cc1 tt1).2.1) j))), (dt, aJ cA 16 (fun j => lZ (((tS σ st a b cc1 tt1).2.2.1) j))), (dl, aI cA 16 (fun j => nI (((tS σ st a b cc1 tt1).2.2.2.1) j)))] H := by rw [q9]; exact hP
      have hD : va_D A [(ds, .inr (1, [.ref dr, .ref dc, .ref dt, .ref dl, .ref dn, .int (zB ((tS σ st a b cc1 tt1).2.2.2.2))])), (dr, aZ cA 16 (fun j => zB (((tS σ st a b cc1 tt1).1) j))), (dc, aJ cA 16 (fun j => lZ (((tS σ st a b cc1 tt1).2.1) j))), (dt, aJ cA 16 (fun j => lZ (((tS σ st a b cc1 tt1).2.2.1) j))), (dl, aI cA 16 (fun j => nI (((tS σ st a b cc1 tt1).2.2.2.1) j)))] := by rw [q9]; exact hD
      exact z_vretW hx hb hr hlocks hAe hQ (hP) hK (hD) hS dX1_tryStep_98
    · skip
      refine lv_lload hx hb dX1_tryStep_41 (lv_at hl 1 rfl) ?_
      refine lv_lload hx hb dX1_tryStep_43 (lv_at hl 0 rfl) ?_
      refine lv_aload_n hx hb dX1_tryStep_45 rfl (lv_at hl 2 rfl) ?_
      refine va_get (D := D) (ci := 1) (v := .ref dc) (C := RX1) (T := TX1) (N := 6) hx hb hts hin1 hown hK hP 0 rfl rfl 1 (by decide) (hts (.fieldLink RX1 15 "TourHouse$Distances" "cost" "[J") (by decide +kernel)) (fun _ h9 => h9) rfl dX1_tryStep_46 ?_
      refine lv_iload_n hx hb dX1_tryStep_49 rfl (lv_at hl 5 rfl) ?_
      refine z_lald hx hb hK hP 2 1 rfl rfl (k := b) (by omega) (by decide) (v := lZ (σ.2.1 b)) rfl dX1_tryStep_50 ?_
      refine lv_aload_n hx hb dX1_tryStep_51 rfl (lv_at hl 2 rfl) ?_
      refine va_get (D := D) (ci := 1) (v := .ref dt) (C := RX1) (T := TX1) (N := 6) hx hb hts hin1 hown hK hP 0 rfl rfl 2 (by decide) (hts (.fieldLink RX1 19 "TourHouse$Distances" "tie" "[J") (by decide +kernel)) (fun _ h9 => h9) rfl dX1_tryStep_52 ?_
      refine lv_iload_n hx hb dX1_tryStep_55 rfl (lv_at hl 5 rfl) ?_
      refine z_lald hx hb hK hP 3 1 rfl rfl (k := b) (by omega) (by decide) (v := lZ (σ.2.2.1 b)) rfl dX1_tryStep_56 ?_
      refine z_cRSi (wc := []) (rm := ({ frames := 0, cells := 0, slots := 0, locals := 0 } : Room)) (As := [.long (lZ ((σ.2.1 a) + cc1)), .long (lZ ((σ.2.2.1 a) + tt1)), .long (lZ (σ.2.1 b)), .long (lZ (σ.2.2.1 b))]) (rest := []) ⟨hx, hb, hml, hown, hts⟩ (c_X1_isLess l D cA ((σ.2.1 a) + cc1) ((σ.2.2.1 a) + tt1) (σ.2.1 b) (σ.2.2.1 b) (⟨by have := hB a ha h6; omega, by have := hB a ha h6; omega⟩) (⟨by have := hB a ha h6; omega, by have := hB a ha h6; omega⟩) (⟨by have := hB b hbb h38; omega, by have := hB b hbb h38; omega⟩) (⟨by have := hB b hbb h38; omega, by have := hB b hbb h38; omega⟩)) (va_cwS 4 hts gX1_tryStep_X1_isLess rfl rfl rfl (by decide +kernel) ⟨Nat.le_of_ble_eq_true rfl, Nat.le_of_ble_eq_true rfl⟩) hP hK [] rfl rfl hl.1 rfl (Nat.le_of_ble_eq_true rfl) ⟨Nat.zero_le _, Nat.zero_le _⟩ dX1_tryStep_57 (fun r hr57 => ?_)
      subst hr57
      refine z_ifeq hx hb (tgt := 98) dX1_tryStep_60 (by decide) (fun h60 => ?_) (fun h60 => ?_)
      · skip
        have q9 : zB ((tS σ st a b cc1 tt1).2.2.2.2) = zB σ.2.2.2.2 := by first | rw [tS_no2 h6 h38 h60] | rw [tS_yes h6 (Or.inl h38)] | rw [tS_yes h6 (Or.inr h60)]
        have hP : va_P D vwCl [(ds, .inr (1, [.ref dr, .ref dc, .ref dt, .ref dl, .ref dn, .int (zB ((tS σ st a b cc1 tt1).2.2.2.2))])), (dr, aZ cA 16 (fun j => zB (σ.1 j))), (dc, aJ cA 16 (fun j => lZ (σ.2.1 j))), (dt, aJ cA 16 (fun j => lZ (σ.2.2.1 j))), (dl, aI cA 16 (fun j => nI (σ.2.2.2.1 j)))] H := by rw [q9]; exact hP
        have hD : va_D A [(ds, .inr (1, [.ref dr, .ref dc, .ref dt, .ref dl, .ref dn, .int (zB ((tS σ st a b cc1 tt1).2.2.2.2))])), (dr, aZ cA 16 (fun j => zB (σ.1 j))), (dc, aJ cA 16 (fun j => lZ (σ.2.1 j))), (dt, aJ cA 16 (fun j => lZ (σ.2.2.1 j))), (dl, aI cA 16 (fun j => nI (σ.2.2.2.1 j)))] := by rw [q9]; exact hD
        have q9 : (fun j => zB (((tS σ st a b cc1 tt1).1) j)) = (fun j => zB (σ.1 j)) := by first | rw [tS_no2 h6 h38 h60] | rw [tS_yes h6 (Or.inl h38)] | rw [tS_yes h6 (Or.inr h60)]
        have hP : va_P D vwCl [(ds, .inr (1, [.ref dr, .ref dc, .ref dt, .ref dl, .ref dn, .int (zB ((tS σ st a b cc1 tt1).2.2.2.2))])), (dr, aZ cA 16 (fun j => zB (((tS σ st a b cc1 tt1).1) j))), (dc, aJ cA 16 (fun j => lZ (σ.2.1 j))), (dt, aJ cA 16 (fun j => lZ (σ.2.2.1 j))), (dl, aI cA 16 (fun j => nI (σ.2.2.2.1 j)))] H := by rw [q9]; exact hP
        have hD : va_D A [(ds, .inr (1, [.ref dr, .ref dc, .ref dt, .ref dl, .ref dn, .int (zB ((tS σ st a b cc1 tt1).2.2.2.2))])), (dr, aZ cA 16 (fun j => zB (((tS σ st a b cc1 tt1).1) j))), (dc, aJ cA 16 (fun j => lZ (σ.2.1 j))), (dt, aJ cA 16 (fun j => lZ (σ.2.2.1 j))), (dl, aI cA 16 (fun j => nI (σ.2.2.2.1 j)))] := by rw [q9]; exact hD
        have q9 : (fun j => lZ (((tS σ st a b cc1 tt1).2.1) j)) = (fun j => lZ (σ.2.1 j)) := by first | rw [tS_no2 h6 h38 h60] | rw [tS_yes h6 (Or.inl h38)] | rw [tS_yes h6 (Or.inr h60)]
        have hP : va_P D vwCl [(ds, .inr (1, [.ref dr, .ref dc, .ref dt, .ref dl, .ref dn, .int (zB ((tS σ st a b cc1 tt1).2.2.2.2))])), (dr, aZ cA 16 (fun j => zB (((tS σ st a b cc1 tt1).1) j))), (dc, aJ cA 16 (fun j => lZ (((tS σ st a b cc1 tt1).2.1) j))), (dt, aJ cA 16 (fun j => lZ (σ.2.2.1 j))), (dl, aI cA 16 (fun j => nI (σ.2.2.2.1 j)))] H := by rw [q9]; exact hP
        have hD : va_D A [(ds, .inr (1, [.ref dr, .ref dc, .ref dt, .ref dl, .ref dn, .int (zB ((tS σ st a b cc1 tt1).2.2.2.2))])), (dr, aZ cA 16 (fun j => zB (((tS σ st a b cc1 tt1).1) j))), (dc, aJ cA 16 (fun j => lZ (((tS σ st a b cc1 tt1).2.1) j))), (dt, aJ cA 16 (fun j => lZ (σ.2.2.1 j))), (dl, aI cA 16 (fun j => nI (σ.2.2.2.1 j)))] := by rw [q9]; exact hD
        have q9 : (fun j => lZ (((tS σ st a b cc1 tt1).2.2.1) j)) = (fun j => lZ (σ.2.2.1 j)) := by first | rw [tS_no2 h6 h38 h60] | rw [tS_yes h6 (Or.inl h38)] | rw [tS_yes h6 (Or.inr h60)]
        have hP : va_P D vwCl [(ds, .inr (1, [.ref dr, .ref dc, .ref dt, .ref dl, .ref dn, .int (zB ((tS σ st a b cc1 tt1).2.2.2.2))])), (dr, aZ cA 16 (fun j => zB (((tS σ st a b cc1 tt1).1) j))), (dc, aJ cA 16 (fun j => lZ (((tS σ st a b cc1 tt1).2.1) j))), (dt, aJ cA 16 (fun j => lZ (((tS σ st a b cc1 tt1).2.2.1) j))), (dl, aI cA 16 (fun j => nI (σ.2.2.2.1 j)))] H := by rw [q9]; exact hP
        have hD : va_D A [(ds, .inr (1, [.ref dr, .ref dc, .ref dt, .ref dl, .ref dn, .int (zB ((tS σ st a b cc1 tt1).2.2.2.2))])), (dr, aZ cA 16 (fun j => zB (((tS σ st a b cc1 tt1).1) j))), (dc, aJ cA 16 (fun j => lZ (((tS σ st a b cc1 tt1).2.1) j))), (dt, aJ cA 16 (fun j => lZ (((tS σ st a b cc1 tt1).2.2.1) j))), (dl, aI cA 16 (fun j => nI (σ.2.2.2.1 j)))] := by rw [q9]; exact hD
        have q9 : (fun j => nI (((tS σ st a b cc1 tt1).2.2.2.1) j)) = (fun j => nI (σ.2.2.2.1 j)) := by first | rw [tS_no2 h6 h38 h60] | rw [tS_yes h6 (Or.inl h38)] | rw [tS_yes h6 (Or.inr h60)]
        have hP : va_P D vwCl [(ds, .inr (1, [.ref dr, .ref dc, .ref dt, .ref dl, .ref dn, .int (zB ((tS σ st a b cc1 tt1).2.2.2.2))])), (dr, aZ cA 16 (fun j => zB (((tS σ st a b cc1 tt1).1) j))), (dc, aJ cA 16 (fun j => lZ (((tS σ st a b cc1 tt1).2.1) j))), (dt, aJ cA 16 (fun j => lZ (((tS σ st a b cc1 tt1).2.2.1) j))), (dl, aI cA 16 (fun j => nI (((tS σ st a b cc1 tt1).2.2.2.1) j)))] H := by rw [q9]; exact hP
        have hD : va_D A [(ds, .inr (1, [.ref dr, .ref dc, .ref dt, .ref dl, .ref dn, .int (zB ((tS σ st a b cc1 tt1).2.2.2.2))])), (dr, aZ cA 16 (fun j => zB (((tS σ st a b cc1 tt1).1) j))), (dc, aJ cA 16 (fun j => lZ (((tS σ st a b cc1 tt1).2.1) j))), (dt, aJ cA 16 (fun j => lZ (((tS σ st a b cc1 tt1).2.2.1) j))), (dl, aI cA 16 (fun j => nI (((tS σ st a b cc1 tt1).2.2.2.1) j)))] := by rw [q9]; exact hD
        exact z_vretW hx hb hr hlocks hAe hQ (hP) hK (hD) hS dX1_tryStep_98
      · skip
        refine lv_aload_n hx hb dX1_tryStep_63 rfl (lv_at hl 2 rfl) ?_
        refine va_get (D := D) (ci := 1) (v := .ref dr) (C := RX1) (T := TX1) (N := 6) hx hb hts hin1 hown hK hP 0 rfl rfl 0 (by decide) (hts (.fieldLink RX1 9 "TourHouse$Distances" "reached" "[Z") (by decide +kernel)) (fun _ h9 => h9) rfl dX1_tryStep_64 ?_
        refine lv_iload_n hx hb dX1_tryStep_67 rfl (lv_at hl 5 rfl) ?_
        refine lv_iconst (v := zB true) hx hb dX1_tryStep_68 (by decide) ?_
        refine z_zast hx hb hK hP hD hS 1 2 rfl rfl (k := b) (by omega) (by decide) (f' := (fun j => zB ((va_up σ.1 b true) j))) (upd_zB _ _ _) (ws' := [(ds, .inr (1, [.ref dr, .ref dc, .ref dt, .ref dl, .ref dn, .int (zB σ.2.2.2.2)])), (dr, aZ cA 16 (fun j => zB ((va_up σ.1 b true) j))), (dc, aJ cA 16 (fun j => lZ (σ.2.1 j))), (dt, aJ cA 16 (fun j => lZ (σ.2.2.1 j))), (dl, aI cA 16 (fun j => nI (σ.2.2.2.1 j)))]) rfl dX1_tryStep_69 (fun H locs hP hD hS => ?_)
        refine lv_aload_n hx hb dX1_tryStep_70 rfl (lv_at hl 2 rfl) ?_
        refine va_get (D := D) (ci := 1) (v := .ref dc) (C := RX1) (T := TX1) (N := 6) hx hb hts hin1 hown hK hP 0 rfl rfl 1 (by decide) (hts (.fieldLink RX1 15 "TourHouse$Distances" "cost" "[J") (by decide +kernel)) (fun _ h9 => h9) rfl dX1_tryStep_71 ?_
        refine lv_iload_n hx hb dX1_tryStep_74 rfl (lv_at hl 5 rfl) ?_
        refine lv_lload hx hb dX1_tryStep_75 (lv_at hl 1 rfl) ?_
        refine z_last hx hb hK hP hD hS 2 1 rfl rfl (k := b) (by omega) (by decide) (f' := (fun j => lZ ((va_up σ.2.1 b ((σ.2.1 a) + cc1)) j))) (updL_lZ _ _ _) (ws' := [(ds, .inr (1, [.ref dr, .ref dc, .ref dt, .ref dl, .ref dn, .int (zB σ.2.2.2.2)])), (dr, aZ cA 16 (fun j => zB ((va_up σ.1 b true) j))), (dc, aJ cA 16 (fun j => lZ ((va_up σ.2.1 b ((σ.2.1 a) + cc1)) j))), (dt, aJ cA 16 (fun j => lZ (σ.2.2.1 j))), (dl, aI cA 16 (fun j => nI (σ.2.2.2.1 j)))]) rfl dX1_tryStep_77 (fun H locs hP hD hS => ?_)
        refine lv_aload_n hx hb dX1_tryStep_78 rfl (lv_at hl 2 rfl) ?_
        refine va_get (D := D) (ci := 1) (v := .ref dt) (C := RX1) (T := TX1) (N := 6) hx hb hts hin1 hown hK hP 0 rfl rfl 2 (by decide) (hts (.fieldLink RX1 19 "TourHouse$Distances" "tie" "[J") (by decide +kernel)) (fun _ h9 => h9) rfl dX1_tryStep_79 ?_
        refine lv_iload_n hx hb dX1_tryStep_82 rfl (lv_at hl 5 rfl) ?_
        refine lv_lload hx hb dX1_tryStep_83 (lv_at hl 0 rfl) ?_
        refine z_last hx hb hK hP hD hS 3 1 rfl rfl (k := b) (by omega) (by decide) (f' := (fun j => lZ ((va_up σ.2.2.1 b ((σ.2.2.1 a) + tt1)) j))) (updL_lZ _ _ _) (ws' := [(ds, .inr (1, [.ref dr, .ref dc, .ref dt, .ref dl, .ref dn, .int (zB σ.2.2.2.2)])), (dr, aZ cA 16 (fun j => zB ((va_up σ.1 b true) j))), (dc, aJ cA 16 (fun j => lZ ((va_up σ.2.1 b ((σ.2.1 a) + cc1)) j))), (dt, aJ cA 16 (fun j => lZ ((va_up σ.2.2.1 b ((σ.2.2.1 a) + tt1)) j))), (dl, aI cA 16 (fun j => nI (σ.2.2.2.1 j)))]) rfl dX1_tryStep_85 (fun H locs hP hD hS => ?_)
        refine lv_aload_n hx hb dX1_tryStep_86 rfl (lv_at hl 2 rfl) ?_
        refine va_get (D := D) (ci := 1) (v := .ref dl) (C := RX1) (T := TX1) (N := 6) hx hb hts hin1 hown hK hP 0 rfl rfl 3 (by decide) (hts (.fieldLink RX1 22 "TourHouse$Distances" "lastStep" "[I") (by decide +kernel)) (fun _ h9 => h9) rfl dX1_tryStep_87 ?_
        refine lv_iload_n hx hb dX1_tryStep_90 rfl (lv_at hl 5 rfl) ?_
        refine lv_iload_n hx hb dX1_tryStep_91 rfl (lv_at hl 3 rfl) ?_
        refine z_iast hx hb hK hP hD hS 4 0 rfl rfl (k := b) (by omega) (by decide) (f' := (fun j => nI ((va_up σ.2.2.2.1 b st) j))) (upd_nI _ _ _) (ws' := [(ds, .inr (1, [.ref dr, .ref dc, .ref dt, .ref dl, .ref dn, .int (zB σ.2.2.2.2)])), (dr, aZ cA 16 (fun j => zB ((va_up σ.1 b true) j))), (dc, aJ cA 16 (fun j => lZ ((va_up σ.2.1 b ((σ.2.1 a) + cc1)) j))), (dt, aJ cA 16 (fun j => lZ ((va_up σ.2.2.1 b ((σ.2.2.1 a) + tt1)) j))), (dl, aI cA 16 (fun j => nI ((va_up σ.2.2.2.1 b st) j)))]) rfl dX1_tryStep_92 (fun H locs hP hD hS => ?_)
        refine lv_aload_n hx hb dX1_tryStep_93 rfl (lv_at hl 2 rfl) ?_
        refine lv_iconst (v := zB true) hx hb dX1_tryStep_94 (by decide) ?_
        refine va_put (D := D) (ci := 1) (v := .int (zB true)) (ty := .boolean) (C := RX1) (T := TX1) (N := 6) hx hb hts hin1 tyX1 tyX1_ok nmX1 hown hK hP hD hS 0 rfl rfl 5 (by decide) (hts (.fieldLink RX1 29 "TourHouse$Distances" "changed" "Z") (by decide +kernel)) (fun _ h9 => h9) rfl (by decide +kernel) (zB_nar _) (zB_fits _) (Nat.le_of_ble_eq_true rfl) dX1_tryStep_95 (fun H locs hP hD hS => ?_)
        have hP : va_P D vwCl [(ds, .inr (1, [.ref dr, .ref dc, .ref dt, .ref dl, .ref dn, .int (zB true)])), (dr, aZ cA 16 (fun j => zB ((va_up σ.1 b true) j))), (dc, aJ cA 16 (fun j => lZ ((va_up σ.2.1 b ((σ.2.1 a) + cc1)) j))), (dt, aJ cA 16 (fun j => lZ ((va_up σ.2.2.1 b ((σ.2.2.1 a) + tt1)) j))), (dl, aI cA 16 (fun j => nI ((va_up σ.2.2.2.1 b st) j)))] H := hP
        have hD : va_D A [(ds, .inr (1, [.ref dr, .ref dc, .ref dt, .ref dl, .ref dn, .int (zB true)])), (dr, aZ cA 16 (fun j => zB ((va_up σ.1 b true) j))), (dc, aJ cA 16 (fun j => lZ ((va_up σ.2.1 b ((σ.2.1 a) + cc1)) j))), (dt, aJ cA 16 (fun j => lZ ((va_up σ.2.2.1 b ((σ.2.2.1 a) + tt1)) j))), (dl, aI cA 16 (fun j => nI ((va_up σ.2.2.2.1 b st) j)))] := hD
        have q9 : zB ((tS σ st a b cc1 tt1).2.2.2.2) = zB true := by first | rw [tS_no2 h6 h38 h60] | rw [tS_yes h6 (Or.inl h38)] | rw [tS_yes h6 (Or.inr h60)]
        have hP : va_P D vwCl [(ds, .inr (1, [.ref dr, .ref dc, .ref dt, .ref dl, .ref dn, .int (zB ((tS σ st a b cc1 tt1).2.2.2.2))])), (dr, aZ cA 16 (fun j => zB ((va_up σ.1 b true) j))), (dc, aJ cA 16 (fun j => lZ ((va_up σ.2.1 b ((σ.2.1 a) + cc1)) j))), (dt, aJ cA 16 (fun j => lZ ((va_up σ.2.2.1 b ((σ.2.2.1 a) + tt1)) j))), (dl, aI cA 16 (fun j => nI ((va_up σ.2.2.2.1 b st) j)))] H := by rw [q9]; exact hP
        have hD : va_D A [(ds, .inr (1, [.ref dr, .ref dc, .ref dt, .ref dl, .ref dn, .int (zB ((tS σ st a b cc1 tt1).2.2.2.2))])), (dr, aZ cA 16 (fun j => zB ((va_up σ.1 b true) j))), (dc, aJ cA 16 (fun j => lZ ((va_up σ.2.1 b ((σ.2.1 a) + cc1)) j))), (dt, aJ cA 16 (fun j => lZ ((va_up σ.2.2.1 b ((σ.2.2.1 a) + tt1)) j))), (dl, aI cA 16 (fun j => nI ((va_up σ.2.2.2.1 b st) j)))] := by rw [q9]; exact hD
        have q9 : (fun j => zB (((tS σ st a b cc1 tt1).1) j)) = (fun j => zB ((va_up σ.1 b true) j)) := by first | rw [tS_no2 h6 h38 h60] | rw [tS_yes h6 (Or.inl h38)] | rw [tS_yes h6 (Or.inr h60)]
        have hP : va_P D vwCl [(ds, .inr (1, [.ref dr, .ref dc, .ref dt, .ref dl, .ref dn, .int (zB ((tS σ st a b cc1 tt1).2.2.2.2))])), (dr, aZ cA 16 (fun j => zB (((tS σ st a b cc1 tt1).1) j))), (dc, aJ cA 16 (fun j => lZ ((va_up σ.2.1 b ((σ.2.1 a) + cc1)) j))), (dt, aJ cA 16 (fun j => lZ ((va_up σ.2.2.1 b ((σ.2.2.1 a) + tt1)) j))), (dl, aI cA 16 (fun j => nI ((va_up σ.2.2.2.1 b st) j)))] H := by rw [q9]; exact hP
        have hD : va_D A [(ds, .inr (1, [.ref dr, .ref dc, .ref dt, .ref dl, .ref dn, .int (zB ((tS σ st a b cc1 tt1).2.2.2.2))])), (dr, aZ cA 16 (fun j => zB (((tS σ st a b cc1 tt1).1) j))), (dc, aJ cA 16 (fun j => lZ ((va_up σ.2.1 b ((σ.2.1 a) + cc1)) j))), (dt, aJ cA 16 (fun j => lZ ((va_up σ.2.2.1 b ((σ.2.2.1 a) + tt1)) j))), (dl, aI cA 16 (fun j => nI ((va_up σ.2.2.2.1 b st) j)))] := by rw [q9]; exact hD
        have q9 : (fun j => lZ (((tS σ st a b cc1 tt1).2.1) j)) = (fun j => lZ ((va_up σ.2.1 b ((σ.2.1 a) + cc1)) j)) := by first | rw [tS_no2 h6 h38 h60] | rw [tS_yes h6 (Or.inl h38)] | rw [tS_yes h6 (Or.inr h60)]
        have hP : va_P D vwCl [(ds, .inr (1, [.ref dr, .ref dc, .ref dt, .ref dl, .ref dn, .int (zB ((tS σ st a b cc1 tt1).2.2.2.2))])), (dr, aZ cA 16 (fun j => zB (((tS σ st a b cc1 tt1).1) j))), (dc, aJ cA 16 (fun j => lZ (((tS σ st a b cc1 tt1).2.1) j))), (dt, aJ cA 16 (fun j => lZ ((va_up σ.2.2.1 b ((σ.2.2.1 a) + tt1)) j))), (dl, aI cA 16 (fun j => nI ((va_up σ.2.2.2.1 b st) j)))] H := by rw [q9]; exact hP
        have hD : va_D A [(ds, .inr (1, [.ref dr, .ref dc, .ref dt, .ref dl, .ref dn, .int (zB ((tS σ st a b cc1 tt1).2.2.2.2))])), (dr, aZ cA 16 (fun j => zB (((tS σ st a b cc1 tt1).1) j))), (dc, aJ cA 16 (fun j => lZ (((tS σ st a b cc1 tt1).2.1) j))), (dt, aJ cA 16 (fun j => lZ ((va_up σ.2.2.1 b ((σ.2.2.1 a) + tt1)) j))), (dl, aI cA 16 (fun j => nI ((va_up σ.2.2.2.1 b st) j)))] := by rw [q9]; exact hD
        have q9 : (fun j => lZ (((tS σ st a b cc1 tt1).2.2.1) j)) = (fun j => lZ ((va_up σ.2.2.1 b ((σ.2.2.1 a) + tt1)) j)) := by first | rw [tS_no2 h6 h38 h60] | rw [tS_yes h6 (Or.inl h38)] | rw [tS_yes h6 (Or.inr h60)]
        have hP : va_P D vwCl [(ds, .inr (1, [.ref dr, .ref dc, .ref dt, .ref dl, .ref dn, .int (zB ((tS σ st a b cc1 tt1).2.2.2.2))])), (dr, aZ cA 16 (fun j => zB (((tS σ st a b cc1 tt1).1) j))), (dc, aJ cA 16 (fun j => lZ (((tS σ st a b cc1 tt1).2.1) j))), (dt, aJ cA 16 (fun j => lZ (((tS σ st a b cc1 tt1).2.2.1) j))), (dl, aI cA 16 (fun j => nI ((va_up σ.2.2.2.1 b st) j)))] H := by rw [q9]; exact hP
        have hD : va_D A [(ds, .inr (1, [.ref dr, .ref dc, .ref dt, .ref dl, .ref dn, .int (zB ((tS σ st a b cc1 tt1).2.2.2.2))])), (dr, aZ cA 16 (fun j => zB (((tS σ st a b cc1 tt1).1) j))), (dc, aJ cA 16 (fun j => lZ (((tS σ st a b cc1 tt1).2.1) j))), (dt, aJ cA 16 (fun j => lZ (((tS σ st a b cc1 tt1).2.2.1) j))), (dl, aI cA 16 (fun j => nI ((va_up σ.2.2.2.1 b st) j)))] := by rw [q9]; exact hD
        have q9 : (fun j => nI (((tS σ st a b cc1 tt1).2.2.2.1) j)) = (fun j => nI ((va_up σ.2.2.2.1 b st) j)) := by first | rw [tS_no2 h6 h38 h60] | rw [tS_yes h6 (Or.inl h38)] | rw [tS_yes h6 (Or.inr h60)]
        have hP : va_P D vwCl [(ds, .inr (1, [.ref dr, .ref dc, .ref dt, .ref dl, .ref dn, .int (zB ((tS σ st a b cc1 tt1).2.2.2.2))])), (dr, aZ cA 16 (fun j => zB (((tS σ st a b cc1 tt1).1) j))), (dc, aJ cA 16 (fun j => lZ (((tS σ st a b cc1 tt1).2.1) j))), (dt, aJ cA 16 (fun j => lZ (((tS σ st a b cc1 tt1).2.2.1) j))), (dl, aI cA 16 (fun j => nI (((tS σ st a b cc1 tt1).2.2.2.1) j)))] H := by rw [q9]; exact hP
        have hD : va_D A [(ds, .inr (1, [.ref dr, .ref dc, .ref dt, .ref dl, .ref dn, .int (zB ((tS σ st a b cc1 tt1).2.2.2.2))])), (dr, aZ cA 16 (fun j => zB (((tS σ st a b cc1 tt1).1) j))), (dc, aJ cA 16 (fun j => lZ (((tS σ st a b cc1 tt1).2.1) j))), (dt, aJ cA 16 (fun j => lZ (((tS σ st a b cc1 tt1).2.2.1) j))), (dl, aI cA 16 (fun j => nI (((tS σ st a b cc1 tt1).2.2.2.1) j)))] := by rw [q9]; exact hD
        exact z_vretW hx hb hr hlocks hAe hQ (hP) hK (hD) hS dX1_tryStep_98
  · skip
    have q9 : zB ((tS σ st a b cc1 tt1).2.2.2.2) = zB σ.2.2.2.2 := by rw [tS_no h6]
    have hP : va_P D vwCl [(ds, .inr (1, [.ref dr, .ref dc, .ref dt, .ref dl, .ref dn, .int (zB ((tS σ st a b cc1 tt1).2.2.2.2))])), (dr, aZ cA 16 (fun j => zB (σ.1 j))), (dc, aJ cA 16 (fun j => lZ (σ.2.1 j))), (dt, aJ cA 16 (fun j => lZ (σ.2.2.1 j))), (dl, aI cA 16 (fun j => nI (σ.2.2.2.1 j)))] H := by rw [q9]; exact hP
    have hD : va_D A [(ds, .inr (1, [.ref dr, .ref dc, .ref dt, .ref dl, .ref dn, .int (zB ((tS σ st a b cc1 tt1).2.2.2.2))])), (dr, aZ cA 16 (fun j => zB (σ.1 j))), (dc, aJ cA 16 (fun j => lZ (σ.2.1 j))), (dt, aJ cA 16 (fun j => lZ (σ.2.2.1 j))), (dl, aI cA 16 (fun j => nI (σ.2.2.2.1 j)))] := by rw [q9]; exact hD
    have q9 : (fun j => zB (((tS σ st a b cc1 tt1).1) j)) = (fun j => zB (σ.1 j)) := by rw [tS_no h6]
    have hP : va_P D vwCl [(ds, .inr (1, [.ref dr, .ref dc, .ref dt, .ref dl, .ref dn, .int (zB ((tS σ st a b cc1 tt1).2.2.2.2))])), (dr, aZ cA 16 (fun j => zB (((tS σ st a b cc1 tt1).1) j))), (dc, aJ cA 16 (fun j => lZ (σ.2.1 j))), (dt, aJ cA 16 (fun j => lZ (σ.2.2.1 j))), (dl, aI cA 16 (fun j => nI (σ.2.2.2.1 j)))] H := by rw [q9]; exact hP
    have hD : va_D A [(ds, .inr (1, [.ref dr, .ref dc, .ref dt, .ref dl, .ref dn, .int (zB ((tS σ st a b cc1 tt1).2.2.2.2))])), (dr, aZ cA 16 (fun j => zB (((tS σ st a b cc1 tt1).1) j))), (dc, aJ cA 16 (fun j => lZ (σ.2.1 j))), (dt, aJ cA 16 (fun j => lZ (σ.2.2.1 j))), (dl, aI cA 16 (fun j => nI (σ.2.2.2.1 j)))] := by rw [q9]; exact hD
    have q9 : (fun j => lZ (((tS σ st a b cc1 tt1).2.1) j)) = (fun j => lZ (σ.2.1 j)) := by rw [tS_no h6]
    have hP : va_P D vwCl [(ds, .inr (1, [.ref dr, .ref dc, .ref dt, .ref dl, .ref dn, .int (zB ((tS σ st a b cc1 tt1).2.2.2.2))])), (dr, aZ cA 16 (fun j => zB (((tS σ st a b cc1 tt1).1) j))), (dc, aJ cA 16 (fun j => lZ (((tS σ st a b cc1 tt1).2.1) j))), (dt, aJ cA 16 (fun j => lZ (σ.2.2.1 j))), (dl, aI cA 16 (fun j => nI (σ.2.2.2.1 j)))] H := by rw [q9]; exact hP
    have hD : va_D A [(ds, .inr (1, [.ref dr, .ref dc, .ref dt, .ref dl, .ref dn, .int (zB ((tS σ st a b cc1 tt1).2.2.2.2))])), (dr, aZ cA 16 (fun j => zB (((tS σ st a b cc1 tt1).1) j))), (dc, aJ cA 16 (fun j => lZ (((tS σ st a b cc1 tt1).2.1) j))), (dt, aJ cA 16 (fun j => lZ (σ.2.2.1 j))), (dl, aI cA 16 (fun j => nI (σ.2.2.2.1 j)))] := by rw [q9]; exact hD
    have q9 : (fun j => lZ (((tS σ st a b cc1 tt1).2.2.1) j)) = (fun j => lZ (σ.2.2.1 j)) := by rw [tS_no h6]
    have hP : va_P D vwCl [(ds, .inr (1, [.ref dr, .ref dc, .ref dt, .ref dl, .ref dn, .int (zB ((tS σ st a b cc1 tt1).2.2.2.2))])), (dr, aZ cA 16 (fun j => zB (((tS σ st a b cc1 tt1).1) j))), (dc, aJ cA 16 (fun j => lZ (((tS σ st a b cc1 tt1).2.1) j))), (dt, aJ cA 16 (fun j => lZ (((tS σ st a b cc1 tt1).2.2.1) j))), (dl, aI cA 16 (fun j => nI (σ.2.2.2.1 j)))] H := by rw [q9]; exact hP
    have hD : va_D A [(ds, .inr (1, [.ref dr, .ref dc, .ref dt, .ref dl, .ref dn, .int (zB ((tS σ st a b cc1 tt1).2.2.2.2))])), (dr, aZ cA 16 (fun j => zB (((tS σ st a b cc1 tt1).1) j))), (dc, aJ cA 16 (fun j => lZ (((tS σ st a b cc1 tt1).2.1) j))), (dt, aJ cA 16 (fun j => lZ (((tS σ st a b cc1 tt1).2.2.1) j))), (dl, aI cA 16 (fun j => nI (σ.2.2.2.1 j)))] := by rw [q9]; exact hD
    have q9 : (fun j => nI (((tS σ st a b cc1 tt1).2.2.2.1) j)) = (fun j => nI (σ.2.2.2.1 j)) := by rw [tS_no h6]
    have hP : va_P D vwCl [(ds, .inr (1, [.ref dr, .ref dc, .ref dt, .ref dl, .ref dn, .int (zB ((tS σ st a b cc1 tt1).2.2.2.2))])), (dr, aZ cA 16 (fun j => zB (((tS σ st a b cc1 tt1).1) j))), (dc, aJ cA 16 (fun j => lZ (((tS σ st a b cc1 tt1).2.1) j))), (dt, aJ cA 16 (fun j => lZ (((tS σ st a b cc1 tt1).2.2.1) j))), (dl, aI cA 16 (fun j => nI (((tS σ st a b cc1 tt1).2.2.2.1) j)))] H := by rw [q9]; exact hP
    have hD : va_D A [(ds, .inr (1, [.ref dr, .ref dc, .ref dt, .ref dl, .ref dn, .int (zB ((tS σ st a b cc1 tt1).2.2.2.2))])), (dr, aZ cA 16 (fun j => zB (((tS σ st a b cc1 tt1).1) j))), (dc, aJ cA 16 (fun j => lZ (((tS σ st a b cc1 tt1).2.1) j))), (dt, aJ cA 16 (fun j => lZ (((tS σ st a b cc1 tt1).2.2.1) j))), (dl, aI cA 16 (fun j => nI (((tS σ st a b cc1 tt1).2.2.2.1) j)))] := by rw [q9]; exact hD
    exact z_vretW hx hb hr hlocks hAe hQ (hP) hK (hD) hS dX1_tryStep_9
set_option maxHeartbeats 4000000 in
set_option maxRecDepth 100000 in
/-- Distances.searchBesideExtras -/
theorem c_X1_searchBesideExtras (l : Launch) (D : va_G) (cA : Nat → ClassId) (sz : Nat) (ds : Nat) (dr : Nat) (dc : Nat) (dt : Nat) (dl : Nat) (dn : Nat) (g : Nat) (gf : Nat) (gt : Nat) (gw : Nat) (Fr : Nat → Nat) (To : Nat → Nat) (We : Nat → Nat) (dir : Bool) (nv : Nat) (me : Nat) (xa : Nat) (X : Nat → Int) (σ : DS) (src : Nat) (hme : me ≤ 40) (hF : ∀ j, Fr j < 16) (hT : ∀ j, To j < 16) (hW : ∀ j, We j ≤ 1000000000) (hX : ∀ j, j < 40 → -2147483648 ≤ X j ∧ X j < 2147483648) (hsrc : src < 16) : Met l yX1_searchBesideExtras wsX1_searchBesideExtras ({ frames := 2, cells := 0, slots := 0, locals := 58 } : Room) (zWr D vwCl (zT cA) [(ds, .inr (1, [.ref dr, .ref dc, .ref dt, .ref dl, .ref dn, .int (zB σ.2.2.2.2)])), (dr, aZ cA 16 (fun j => zB (σ.1 j))), (dc, aJ cA 16 (fun j => lZ (σ.2.1 j))), (dt, aJ cA 16 (fun j => lZ (σ.2.2.1 j))), (dl, aI cA 16 (fun j => nI (σ.2.2.2.1 j))), (g, .inr (2, [.ref gf, .ref gt, .ref gw, .int (zB dir), .int (nI nv), .int (nI me)])), (gf, aI cA 40 (fun j => nI (Fr j))), (gt, aI cA 40 (fun j => nI (To j))), (gw, aI cA 40 (fun j => nI (We j))), (xa, aI cA 40 (fun j => iZ (X j)))] sz [.ref ds, .int (nI src), .ref g, .ref xa]) (zQv D vwCl (zT cA) (va_A [(ds, .inr (1, [.ref dr, .ref dc, .ref dt, .ref dl, .ref dn, .int (zB σ.2.2.2.2)])), (dr, aZ cA 16 (fun j => zB (σ.1 j))), (dc, aJ cA 16 (fun j => lZ (σ.2.1 j))), (dt, aJ cA 16 (fun j => lZ (σ.2.2.1 j))), (dl, aI cA 16 (fun j => nI (σ.2.2.2.1 j))), (g, .inr (2, [.ref gf, .ref gt, .ref gw, .int (zB dir), .int (nI nv), .int (nI me)])), (gf, aI cA 40 (fun j => nI (Fr j))), (gt, aI cA 40 (fun j => nI (To j))), (gw, aI cA 40 (fun j => nI (We j))), (xa, aI cA 40 (fun j => iZ (X j)))] sz) [(ds, .inr (1, [.ref dr, .ref dc, .ref dt, .ref dl, .ref dn, .int (zB ((dSearch dir Fr To We X me σ src).2.2.2.2))])), (dr, aZ cA 16 (fun j => zB (((dSearch dir Fr To We X me σ src).1) j))), (dc, aJ cA 16 (fun j => lZ (((dSearch dir Fr To We X me σ src).2.1) j))), (dt, aJ cA 16 (fun j => lZ (((dSearch dir Fr To We X me σ src).2.2.1) j))), (dl, aI cA 16 (fun j => nI (((dSearch dir Fr To We X me σ src).2.2.2.1) j))), (g, .inr (2, [.ref gf, .ref gt, .ref gw, .int (zB dir), .int (nI nv), .int (nI me)])), (gf, aI cA 40 (fun j => nI (Fr j))), (gt, aI cA 40 (fun j => nI (To j))), (gw, aI cA 40 (fun j => nI (We j))), (xa, aI cA 40 (fun j => iZ (X j)))]) 0 0 (va_A [(ds, .inr (1, [.ref dr, .ref dc, .ref dt, .ref dl, .ref dn, .int (zB σ.2.2.2.2)])), (dr, aZ cA 16 (fun j => zB (σ.1 j))), (dc, aJ cA 16 (fun j => lZ (σ.2.1 j))), (dt, aJ cA 16 (fun j => lZ (σ.2.2.1 j))), (dl, aI cA 16 (fun j => nI (σ.2.2.2.1 j))), (g, .inr (2, [.ref gf, .ref gt, .ref gw, .int (zB dir), .int (nI nv), .int (nI me)])), (gf, aI cA 40 (fun j => nI (Fr j))), (gt, aI cA 40 (fun j => nI (To j))), (gw, aI cA 40 (fun j => nI (We j))), (xa, aI cA 40 (fun j => iZ (X j)))] sz) := by
  refine z_write (cc := cX1_searchBesideExtras) (maxL := 8) (ret := none) (by decide) rfl (Nat.le_of_ble_eq_true rfl) ?_
  intro p e s m below meth c hx hb hr hml hown hts hlocks A hAe hA H locs hP hK hD hS hini Q hQ ls hl
  have hown : s.vm.findClass RX1 = some m.cls := hown
  have hl : lv_has ls 8 [(0, .ref ds), (1, .int (nI src)), (2, .ref g), (3, .ref xa)] := hl
  generalize hav : ([.ref ds, .int (nI src), .ref g, .ref xa] : List Value).toArray = args at hts hQ ⊢
  have hin1 : ∀ w ∈ wsX10, w ∈ wsX1_searchBesideExtras := by decide +kernel
  have hin2 : ∀ w ∈ wsX20, w ∈ wsX1_searchBesideExtras := by decide +kernel
  refine lv_iconst (v := nI 0) hx hb dX1_searchBesideExtras_0 (by decide) ?_
  refine lv_istore (lv' := [(4, .int (nI 0)), (0, .ref ds), (1, .int (nI src)), (2, .ref g), (3, .ref xa)]) hx hb dX1_searchBesideExtras_1 hl (by decide) rfl (fun ls hl => ?_)
  have J3 : ∀ (n : Nat), ∀ (i : Nat), (i ≤ 16) → 16 - i < n → ∀ (H : Heap) (locs : List Loc), va_P D vwCl [(ds, .inr (1, [.ref dr, .ref dc, .ref dt, .ref dl, .ref dn, .int (zB σ.2.2.2.2)])), (dr, aZ cA 16 (fun j => zB ((clr σ.1 i) j))), (dc, aJ cA 16 (fun j => lZ (σ.2.1 j))), (dt, aJ cA 16 (fun j => lZ (σ.2.2.1 j))), (dl, aI cA 16 (fun j => nI (σ.2.2.2.1 j))), (g, .inr (2, [.ref gf, .ref gt, .ref gw, .int (zB dir), .int (nI nv), .int (nI me)])), (gf, aI cA 40 (fun j => nI (Fr j))), (gt, aI cA 40 (fun j => nI (To j))), (gw, aI cA 40 (fun j => nI (We j))), (xa, aI cA 40 (fun j => iZ (X j)))] H → va_D A [(ds, .inr (1, [.ref dr, .ref dc, .ref dt, .ref dl, .ref dn, .int (zB σ.2.2.2.2)])), (dr, aZ cA 16 (fun j => zB ((clr σ.1 i) j))), (dc, aJ cA 16 (fun j => lZ (σ.2.1 j))), (dt, aJ cA 16 (fun j => lZ (σ.2.2.1 j))), (dl, aI cA 16 (fun j => nI (σ.2.2.2.1 j))), (g, .inr (2, [.ref gf, .ref gt, .ref gw, .int (zB dir), .int (nI nv), .int (nI me)])), (gf, aI cA 40 (fun j => nI (Fr j))), (gt, aI cA 40 (fun j => nI (To j))), (gw, aI cA 40 (fun j => nI (We j))), (xa, aI cA 40 (fun j => iZ (X j)))] → va_S A s.heap H locs → ∀ (ls : Array Slot), lv_has ls 8 [(0, .ref ds), (1, .int (nI src)), (2, .ref g), (3, .ref xa), (4, .int (nI i))] → W p l e ({ frames := 2, cells := 0, slots := 0, locals := 58 } : Room) s m args below meth c H locs 0 0 Q (F0 m 3 ls []) := by
    intro n3
    induction n3 with
    | zero => intro i hi hn; exact absurd hn (Nat.not_lt_zero _)
    | succ n3 ih3 =>
      intro i hi hn3 H locs hP hD hS ls hl
      refine lv_iload hx hb dX1_searchBesideExtras_3 (lv_at hl 4 rfl) ?_
      refine lv_bipush (v := nI 16) hx hb dX1_searchBesideExtras_5 (by decide) ?_
      refine z_ge hx hb (by omega) (by decide) (tgt := 24) dX1_searchBesideExtras_7 (by decide) (fun h7 => ?_) (fun h7 => ?_)
      · skip
        refine lv_aload_n hx hb dX1_searchBesideExtras_24 rfl (lv_at hl 0 rfl) ?_
        refine va_get (D := D) (ci := 1) (v := .ref dr) (C := RX1) (T := TX1) (N := 6) hx hb hts hin1 hown hK hP 0 rfl rfl 0 (by decide) (hts (.fieldLink RX1 9 "TourHouse$Distances" "reached" "[Z") (by decide +kernel)) (fun _ h9 => h9) rfl dX1_searchBesideExtras_25 ?_
        refine lv_iload_n hx hb dX1_searchBesideExtras_28 rfl (lv_at hl 1 rfl) ?_
        refine lv_iconst (v := zB true) hx hb dX1_searchBesideExtras_29 (by decide) ?_
        refine z_zast hx hb hK hP hD hS 1 2 rfl rfl (k := src) (by omega) (by decide) (f' := (fun j => zB ((va_up (clr σ.1 i) src true) j))) (upd_zB _ _ _) (ws' := [(ds, .inr (1, [.ref dr, .ref dc, .ref dt, .ref dl, .ref dn, .int (zB σ.2.2.2.2)])), (dr, aZ cA 16 (fun j => zB ((va_up (clr σ.1 i) src true) j))), (dc, aJ cA 16 (fun j => lZ (σ.2.1 j))), (dt, aJ cA 16 (fun j => lZ (σ.2.2.1 j))), (dl, aI cA 16 (fun j => nI (σ.2.2.2.1 j))), (g, .inr (2, [.ref gf, .ref gt, .ref gw, .int (zB dir), .int (nI nv), .int (nI me)])), (gf, aI cA 40 (fun j => nI (Fr j))), (gt, aI cA 40 (fun j => nI (To j))), (gw, aI cA 40 (fun j => nI (We j))), (xa, aI cA 40 (fun j => iZ (X j)))]) rfl dX1_searchBesideExtras_30 (fun H locs hP hD hS => ?_)
        refine lv_aload_n hx hb dX1_searchBesideExtras_31 rfl (lv_at hl 0 rfl) ?_
        refine va_get (D := D) (ci := 1) (v := .ref dc) (C := RX1) (T := TX1) (N := 6) hx hb hts hin1 hown hK hP 0 rfl rfl 1 (by decide) (hts (.fieldLink RX1 15 "TourHouse$Distances" "cost" "[J") (by decide +kernel)) (fun _ h9 => h9) rfl dX1_searchBesideExtras_32 ?_
        refine lv_iload_n hx hb dX1_searchBesideExtras_35 rfl (lv_at hl 1 rfl) ?_
        refine lv_lconst (v := lZ 0) hx hb dX1_searchBesideExtras_36 (by decide) ?_
        refine z_last hx hb hK hP hD hS 2 1 rfl rfl (k := src) (by omega) (by decide) (f' := (fun j => lZ ((va_up σ.2.1 src 0) j))) (updL_lZ _ _ _) (ws' := [(ds, .inr (1, [.ref dr, .ref dc, .ref dt, .ref dl, .ref dn, .int (zB σ.2.2.2.2)])), (dr, aZ cA 16 (fun j => zB ((va_up (clr σ.1 i) src true) j))), (dc, aJ cA 16 (fun j => lZ ((va_up σ.2.1 src 0) j))), (dt, aJ cA 16 (fun j => lZ (σ.2.2.1 j))), (dl, aI cA 16 (fun j => nI (σ.2.2.2.1 j))), (g, .inr (2, [.ref gf, .ref gt, .ref gw, .int (zB dir), .int (nI nv), .int (nI me)])), (gf, aI cA 40 (fun j => nI (Fr j))), (gt, aI cA 40 (fun j => nI (To j))), (gw, aI cA 40 (fun j => nI (We j))), (xa, aI cA 40 (fun j => iZ (X j)))]) rfl dX1_searchBesideExtras_37 (fun H locs hP hD hS => ?_)
        refine lv_aload_n hx hb dX1_searchBesideExtras_38 rfl (lv_at hl 0 rfl) ?_
        refine va_get (D := D) (ci := 1) (v := .ref dt) (C := RX1) (T := TX1) (N := 6) hx hb hts hin1 hown hK hP 0 rfl rfl 2 (by decide) (hts (.fieldLink RX1 19 "TourHouse$Distances" "tie" "[J") (by decide +kernel)) (fun _ h9 => h9) rfl dX1_searchBesideExtras_39 ?_
        refine lv_iload_n hx hb dX1_searchBesideExtras_42 rfl (lv_at hl 1 rfl) ?_
        refine lv_lconst (v := lZ 0) hx hb dX1_searchBesideExtras_43 (by decide) ?_
        refine z_last hx hb hK hP hD hS 3 1 rfl rfl (k := src) (by omega) (by decide) (f' := (fun j => lZ ((va_up σ.2.2.1 src 0) j))) (updL_lZ _ _ _) (ws' := [(ds, .inr (1, [.ref dr, .ref dc, .ref dt, .ref dl, .ref dn, .int (zB σ.2.2.2.2)])), (dr, aZ cA 16 (fun j => zB ((va_up (clr σ.1 i) src true) j))), (dc, aJ cA 16 (fun j => lZ ((va_up σ.2.1 src 0) j))), (dt, aJ cA 16 (fun j => lZ ((va_up σ.2.2.1 src 0) j))), (dl, aI cA 16 (fun j => nI (σ.2.2.2.1 j))), (g, .inr (2, [.ref gf, .ref gt, .ref gw, .int (zB dir), .int (nI nv), .int (nI me)])), (gf, aI cA 40 (fun j => nI (Fr j))), (gt, aI cA 40 (fun j => nI (To j))), (gw, aI cA 40 (fun j => nI (We j))), (xa, aI cA 40 (fun j => iZ (X j)))]) rfl dX1_searchBesideExtras_44 (fun H locs hP hD hS => ?_)
        refine lv_aload_n hx hb dX1_searchBesideExtras_45 rfl (lv_at hl 0 rfl) ?_
        refine lv_iconst (v := zB true) hx hb dX1_searchBesideExtras_46 (by decide) ?_
        refine va_put (D := D) (ci := 1) (v := .int (zB true)) (ty := .boolean) (C := RX1) (T := TX1) (N := 6) hx hb hts hin1 tyX1 tyX1_ok nmX1 hown hK hP hD hS 0 rfl rfl 5 (by decide) (hts (.fieldLink RX1 29 "TourHouse$Distances" "changed" "Z") (by decide +kernel)) (fun _ h9 => h9) rfl (by decide +kernel) (zB_nar _) (zB_fits _) (Nat.le_of_ble_eq_true rfl) dX1_searchBesideExtras_47 (fun H locs hP hD hS => ?_)
        have hP : va_P D vwCl [(ds, .inr (1, [.ref dr, .ref dc, .ref dt, .ref dl, .ref dn, .int (zB true)])), (dr, aZ cA 16 (fun j => zB ((va_up (clr σ.1 i) src true) j))), (dc, aJ cA 16 (fun j => lZ ((va_up σ.2.1 src 0) j))), (dt, aJ cA 16 (fun j => lZ ((va_up σ.2.2.1 src 0) j))), (dl, aI cA 16 (fun j => nI (σ.2.2.2.1 j))), (g, .inr (2, [.ref gf, .ref gt, .ref gw, .int (zB dir), .int (nI nv), .int (nI me)])), (gf, aI cA 40 (fun j => nI (Fr j))), (gt, aI cA 40 (fun j => nI (To j))), (gw, aI cA 40 (fun j => nI (We j))), (xa, aI cA 40 (fun j => iZ (X j)))] H := hP
        have hD : va_D A [(ds, .inr (1, [.ref dr, .ref dc, .ref dt, .ref dl, .ref dn, .int (zB true)])), (dr, aZ cA 16 (fun j => zB ((va_up (clr σ.1 i) src true) j))), (dc, aJ cA 16 (fun j => lZ ((va_up σ.2.1 src 0) j))), (dt, aJ cA 16 (fun j => lZ ((va_up σ.2.2.1 src 0) j))), (dl, aI cA 16 (fun j => nI (σ.2.2.2.1 j))), (g, .inr (2, [.ref gf, .ref gt, .ref gw, .int (zB dir), .int (nI nv), .int (nI me)])), (gf, aI cA 40 (fun j => nI (Fr j))), (gt, aI cA 40 (fun j => nI (To j))), (gw, aI cA 40 (fun j => nI (We j))), (xa, aI cA 40 (fun j => iZ (X j)))] := hD
        refine lv_iconst (v := nI 0) hx hb dX1_searchBesideExtras_50 (by decide) ?_
        refine lv_istore (lv' := [(4, .int (nI 0)), (0, .ref ds), (1, .int (nI src)), (2, .ref g), (3, .ref xa)]) hx hb dX1_searchBesideExtras_51 hl (by decide) rfl (fun ls hl => ?_)
        have J53 : ∀ (n : Nat), ∀ (ps : Nat) (τ : DS), (ps ≤ 16) → (dB (80 * ps) τ) → (dLoop dir Fr To We X me (16 - ps) τ = dSearch dir Fr To We X me σ src) → 16 - ps < n → ∀ (H : Heap) (locs : List Loc), va_P D vwCl [(ds, .inr (1, [.ref dr, .ref dc, .ref dt, .ref dl, .ref dn, .int (zB τ.2.2.2.2)])), (dr, aZ cA 16 (fun j => zB (τ.1 j))), (dc, aJ cA 16 (fun j => lZ (τ.2.1 j))), (dt, aJ cA 16 (fun j => lZ (τ.2.2.1 j))), (dl, aI cA 16 (fun j => nI (τ.2.2.2.1 j))), (g, .inr (2, [.ref gf, .ref gt, .ref gw, .int (zB dir), .int (nI nv), .int (nI me)])), (gf, aI cA 40 (fun j => nI (Fr j))), (gt, aI cA 40 (fun j => nI (To j))), (gw, aI cA 40 (fun j => nI (We j))), (xa, aI cA 40 (fun j => iZ (X j)))] H → va_D A [(ds, .inr (1, [.ref dr, .ref dc, .ref dt, .ref dl, .ref dn, .int (zB τ.2.2.2.2)])), (dr, aZ cA 16 (fun j => zB (τ.1 j))), (dc, aJ cA 16 (fun j => lZ (τ.2.1 j))), (dt, aJ cA 16 (fun j => lZ (τ.2.2.1 j))), (dl, aI cA 16 (fun j => nI (τ.2.2.2.1 j))), (g, .inr (2, [.ref gf, .ref gt, .ref gw, .int (zB dir), .int (nI nv), .int (nI me)])), (gf, aI cA 40 (fun j => nI (Fr j))), (gt, aI cA 40 (fun j => nI (To j))), (gw, aI cA 40 (fun j => nI (We j))), (xa, aI cA 40 (fun j => iZ (X j)))] → va_S A s.heap H locs → ∀ (ls : Array Slot), lv_has ls 8 [(0, .ref ds), (1, .int (nI src)), (2, .ref g), (3, .ref xa), (4, .int (nI ps))] → W p l e ({ frames := 2, cells := 0, slots := 0, locals := 58 } : Room) s m args below meth c H locs 0 0 Q (F0 m 53 ls []) := by
          intro n53
          induction n53 with
          | zero => intro ps τ hp hBt hq hn; exact absurd hn (Nat.not_lt_zero _)
          | succ n53 ih53 =>
            intro ps τ hp hBt hq hn53 H locs hP hD hS ls hl
            refine lv_iload hx hb dX1_searchBesideExtras_53 (lv_at hl 4 rfl) ?_
            refine lv_bipush (v := nI 16) hx hb dX1_searchBesideExtras_55 (by decide) ?_
            refine z_ge hx hb (by omega) (by decide) (tgt := 224) dX1_searchBesideExtras_57 (by decide) (fun h57 => ?_) (fun h57 => ?_)
            · skip
              have hres : dSearch dir Fr To We X me σ src = τ := by rw [← hq, show 16 - ps = 0 from by omega]; rfl
              have q9 : zB ((dSearch dir Fr To We X me σ src).2.2.2.2) = zB τ.2.2.2.2 := by rw [hres]
              have hP : va_P D vwCl [(ds, .inr (1, [.ref dr, .ref dc, .ref dt, .ref dl, .ref dn, .int (zB ((dSearch dir Fr To We X me σ src).2.2.2.2))])), (dr, aZ cA 16 (fun j => zB (τ.1 j))), (dc, aJ cA 16 (fun j => lZ (τ.2.1 j))), (dt, aJ cA 16 (fun j => lZ (τ.2.2.1 j))), (dl, aI cA 16 (fun j => nI (τ.2.2.2.1 j))), (g, .inr (2, [.ref gf, .ref gt, .ref gw, .int (zB dir), .int (nI nv), .int (nI me)])), (gf, aI cA 40 (fun j => nI (Fr j))), (gt, aI cA 40 (fun j => nI (To j))), (gw, aI cA 40 (fun j => nI (We j))), (xa, aI cA 40 (fun j => iZ (X j)))] H := by rw [q9]; exact hP
              have hD : va_D A [(ds, .inr (1, [.ref dr, .ref dc, .ref dt, .ref dl, .ref dn, .int (zB ((dSearch dir Fr To We X me σ src).2.2.2.2))])), (dr, aZ cA 16 (fun j => zB (τ.1 j))), (dc, aJ cA 16 (fun j => lZ (τ.2.1 j))), (dt, aJ cA 16 (fun j => lZ (τ.2.2.1 j))), (dl, aI cA 16 (fun j => nI (τ.2.2.2.1 j))), (g, .inr (2, [.ref gf, .ref gt, .ref gw, .int (zB dir), .int (nI nv), .int (nI me)])), (gf, aI cA 40 (fun j => nI (Fr j))), (gt, aI cA 40 (fun j => nI (To j))), (gw, aI cA 40 (fun j => nI (We j))), (xa, aI cA 40 (fun j => iZ (X j)))] := by rw [q9]; exact hD
              have q9 : (fun j => zB (((dSearch dir Fr To We X me σ src).1) j)) = (fun j => zB (τ.1 j)) := by rw [hres]
              have hP : va_P D vwCl [(ds, .inr (1, [.ref dr, .ref dc, .ref dt, .ref dl, .ref dn, .int (zB ((dSearch dir Fr To We X me σ src).2.2.2.2))])), (dr, aZ cA 16 (fun j => zB (((dSearch dir Fr To We X me σ src).1) j))), (dc, aJ cA 16 (fun j => lZ (τ.2.1 j))), (dt, aJ cA 16 (fun j => lZ (τ.2.2.1 j))), (dl, aI cA 16 (fun j => nI (τ.2.2.2.1 j))), (g, .inr (2, [.ref gf, .ref gt, .ref gw, .int (zB dir), .int (nI nv), .int (nI me)])), (gf, aI cA 40 (fun j => nI (Fr j))), (gt, aI cA 40 (fun j => nI (To j))), (gw, aI cA 40 (fun j => nI (We j))), (xa, aI cA 40 (fun j => iZ (X j)))] H := by rw [q9]; exact hP
              have hD : va_D A [(ds, .inr (1, [.ref dr, .ref dc, .ref dt, .ref dl, .ref dn, .int (zB ((dSearch dir Fr To We X me σ src).2.2.2.2))])), (dr, aZ cA 16 (fun j => zB (((dSearch dir Fr To We X me σ src).1) j))), (dc, aJ cA 16 (fun j => lZ (τ.2.1 j))), (dt, aJ cA 16 (fun j => lZ (τ.2.2.1 j))), (dl, aI cA 16 (fun j => nI (τ.2.2.2.1 j))), (g, .inr (2, [.ref gf, .ref gt, .ref gw, .int (zB dir), .int (nI nv), .int (nI me)])), (gf, aI cA 40 (fun j => nI (Fr j))), (gt, aI cA 40 (fun j => nI (To j))), (gw, aI cA 40 (fun j => nI (We j))), (xa, aI cA 40 (fun j => iZ (X j)))] := by rw [q9]; exact hD
              have q9 : (fun j => lZ (((dSearch dir Fr To We X me σ src).2.1) j)) = (fun j => lZ (τ.2.1 j)) := by rw [hres]
              have hP : va_P D vwCl [(ds, .inr (1, [.ref dr, .ref dc, .ref dt, .ref dl, .ref dn, .int (zB ((dSearch dir Fr To We X me σ src).2.2.2.2))])), (dr, aZ cA 16 (fun j => zB (((dSearch dir Fr To We X me σ src).1) j))), (dc, aJ cA 16 (fun j => lZ (((dSearch dir Fr To We X me σ src).2.1) j))), (dt, aJ cA 16 (fun j => lZ (τ.2.2.1 j))), (dl, aI cA 16 (fun j => nI (τ.2.2.2.1 j))), (g, .inr (2, [.ref gf, .ref gt, .ref gw, .int (zB dir), .int (nI nv), .int (nI me)])), (gf, aI cA 40 (fun j => nI (Fr j))), (gt, aI cA 40 (fun j => nI (To j))), (gw, aI cA 40 (fun j => nI (We j))), (xa, aI cA 40 (fun j => iZ (X j)))] H := by rw [q9]; exact hP
              have hD : va_D A [(ds, .inr (1, [.ref dr, .ref dc, .ref dt, .ref dl, .ref dn, .int (zB ((dSearch dir Fr To We X me σ src).2.2.2.2))])), (dr, aZ cA 16 (fun j => zB (((dSearch dir Fr To We X me σ src).1) j))), (dc, aJ cA 16 (fun j => lZ (((dSearch dir Fr To We X me σ src).2.1) j))), (dt, aJ cA 16 (fun j => lZ (τ.2.2.1 j))), (dl, aI cA 16 (fun j => nI (τ.2.2.2.1 j))), (g, .inr (2, [.ref gf, .ref gt, .ref gw, .int (zB dir), .int (nI nv), .int (nI me)])), (gf, aI cA 40 (fun j => nI (Fr j))), (gt, aI cA 40 (fun j => nI (To j))), (gw, aI cA 40 (fun j => nI (We j))), (xa, aI cA 40 (fun j => iZ (X j)))] := by rw [q9]; exact hD
              have q9 : (fun j => lZ (((dSearch dir Fr To We X me σ src).2.2.1) j)) = (fun j => lZ (τ.2.2.1 j)) := by rw [hres]
              have hP : va_P D vwCl [(ds, .inr (1, [.ref dr, .ref dc, .ref dt, .ref dl, .ref dn, .int (zB ((dSearch dir Fr To We X me σ src).2.2.2.2))])), (dr, aZ cA 16 (fun j => zB (((dSearch dir Fr To We X me σ src).1) j))), (dc, aJ cA 16 (fun j => lZ (((dSearch dir Fr To We X me σ src).2.1) j))), (dt, aJ cA 16 (fun j => lZ (((dSearch dir Fr To We X me σ src).2.2.1) j))), (dl, aI cA 16 (fun j => nI (τ.2.2.2.1 j))), (g, .inr (2, [.ref gf, .ref gt, .ref gw, .int (zB dir), .int (nI nv), .int (nI me)])), (gf, aI cA 40 (fun j => nI (Fr j))), (gt, aI cA 40 (fun j => nI (To j))), (gw, aI cA 40 (fun j => nI (We j))), (xa, aI cA 40 (fun j => iZ (X j)))] H := by rw [q9]; exact hP
              have hD : va_D A [(ds, .inr (1, [.ref dr, .ref dc, .ref dt, .ref dl, .ref dn, .int (zB ((dSearch dir Fr To We X me σ src).2.2.2.2))])), (dr, aZ cA 16 (fun j => zB (((dSearch dir Fr To We X me σ src).1) j))), (dc, aJ cA 16 (fun j => lZ (((dSearch dir Fr To We X me σ src).2.1) j))), (dt, aJ cA 16 (fun j => lZ (((dSearch dir Fr To We X me σ src).2.2.1) j))), (dl, aI cA 16 (fun j => nI (τ.2.2.2.1 j))), (g, .inr (2, [.ref gf, .ref gt, .ref gw, .int (zB dir), .int (nI nv), .int (nI me)])), (gf, aI cA 40 (fun j => nI (Fr j))), (gt, aI cA 40 (fun j => nI (To j))), (gw, aI cA 40 (fun j => nI (We j))), (xa, aI cA 40 (fun j => iZ (X j)))] := by rw [q9]; exact hD
              have q9 : (fun j => nI (((dSearch dir Fr To We X me σ src).2.2.2.1) j)) = (fun j => nI (τ.2.2.2.1 j)) := by rw [hres]
              have hP : va_P D vwCl [(ds, .inr (1, [.ref dr, .ref dc, .ref dt, .ref dl, .ref dn, .int (zB ((dSearch dir Fr To We X me σ src).2.2.2.2))])), (dr, aZ cA 16 (fun j => zB (((dSearch dir Fr To We X me σ src).1) j))), (dc, aJ cA 16 (fun j => lZ (((dSearch dir Fr To We X me σ src).2.1) j))), (dt, aJ cA 16 (fun j => lZ (((dSearch dir Fr To We X me σ src).2.2.1) j))), (dl, aI cA 16 (fun j => nI (((dSearch dir Fr To We X me σ src).2.2.2.1) j))), (g, .inr (2, [.ref gf, .ref gt, .ref gw, .int (zB dir), .int (nI nv), .int (nI me)])), (gf, aI cA 40 (fun j => nI (Fr j))), (gt, aI cA 40 (fun j => nI (To j))), (gw, aI cA 40 (fun j => nI (We j))), (xa, aI cA 40 (fun j => iZ (X j)))] H := by rw [q9]; exact hP
              have hD : va_D A [(ds, .inr (1, [.ref dr, .ref dc, .ref dt, .ref dl, .ref dn, .int (zB ((dSearch dir Fr To We X me σ src).2.2.2.2))])), (dr, aZ cA 16 (fun j => zB (((dSearch dir Fr To We X me σ src).1) j))), (dc, aJ cA 16 (fun j => lZ (((dSearch dir Fr To We X me σ src).2.1) j))), (dt, aJ cA 16 (fun j => lZ (((dSearch dir Fr To We X me σ src).2.2.1) j))), (dl, aI cA 16 (fun j => nI (((dSearch dir Fr To We X me σ src).2.2.2.1) j))), (g, .inr (2, [.ref gf, .ref gt, .ref gw, .int (zB dir), .int (nI nv), .int (nI me)])), (gf, aI cA 40 (fun j => nI (Fr j))), (gt, aI cA 40 (fun j => nI (To j))), (gw, aI cA 40 (fun j => nI (We j))), (xa, aI cA 40 (fun j => iZ (X j)))] := by rw [q9]; exact hD
              exact z_vretW hx hb hr hlocks hAe hQ (hP) hK (hD) hS dX1_searchBesideExtras_224
            · skip
              refine lv_aload_n hx hb dX1_searchBesideExtras_60 rfl (lv_at hl 0 rfl) ?_
              refine va_get (D := D) (ci := 1) (v := .int (zB τ.2.2.2.2)) (C := RX1) (T := TX1) (N := 6) hx hb hts hin1 hown hK hP 0 rfl rfl 5 (by decide) (hts (.fieldLink RX1 29 "TourHouse$Distances" "changed" "Z") (by decide +kernel)) (fun _ h9 => h9) rfl dX1_searchBesideExtras_61 ?_
              refine z_ifeq hx hb (tgt := 224) dX1_searchBesideExtras_64 (by decide) (fun h64 => ?_) (fun h64 => ?_)
              · skip
                have hres : dSearch dir Fr To We X me σ src = τ := by rw [← hq, show 16 - ps = (16 - (ps + 1)) + 1 from by omega, dLoop, if_pos h64]
                have q9 : zB ((dSearch dir Fr To We X me σ src).2.2.2.2) = zB τ.2.2.2.2 := by rw [hres]
                have hP : va_P D vwCl [(ds, .inr (1, [.ref dr, .ref dc, .ref dt, .ref dl, .ref dn, .int (zB ((dSearch dir Fr To We X me σ src).2.2.2.2))])), (dr, aZ cA 16 (fun j => zB (τ.1 j))), (dc, aJ cA 16 (fun j => lZ (τ.2.1 j))), (dt, aJ cA 16 (fun j => lZ (τ.2.2.1 j))), (dl, aI cA 16 (fun j => nI (τ.2.2.2.1 j))), (g, .inr (2, [.ref gf, .ref gt, .ref gw, .int (zB dir), .int (nI nv), .int (nI me)])), (gf, aI cA 40 (fun j => nI (Fr j))), (gt, aI cA 40 (fun j => nI (To j))), (gw, aI cA 40 (fun j => nI (We j))), (xa, aI cA 40 (fun j => iZ (X j)))] H := by rw [q9]; exact hP
                have hD : va_D A [(ds, .inr (1, [.ref dr, .ref dc, .ref dt, .ref dl, .ref dn, .int (zB ((dSearch dir Fr To We X me σ src).2.2.2.2))])), (dr, aZ cA 16 (fun j => zB (τ.1 j))), (dc, aJ cA 16 (fun j => lZ (τ.2.1 j))), (dt, aJ cA 16 (fun j => lZ (τ.2.2.1 j))), (dl, aI cA 16 (fun j => nI (τ.2.2.2.1 j))), (g, .inr (2, [.ref gf, .ref gt, .ref gw, .int (zB dir), .int (nI nv), .int (nI me)])), (gf, aI cA 40 (fun j => nI (Fr j))), (gt, aI cA 40 (fun j => nI (To j))), (gw, aI cA 40 (fun j => nI (We j))), (xa, aI cA 40 (fun j => iZ (X j)))] := by rw [q9]; exact hD
                have q9 : (fun j => zB (((dSearch dir Fr To We X me σ src).1) j)) = (fun j => zB (τ.1 j)) := by rw [hres]
                have hP : va_P D vwCl [(ds, .inr (1, [.ref dr, .ref dc, .ref dt, .ref dl, .ref dn, .int (zB ((dSearch dir Fr To We X me σ src).2.2.2.2))])), (dr, aZ cA 16 (fun j => zB (((dSearch dir Fr To We X me σ src).1) j))), (dc, aJ cA 16 (fun j => lZ (τ.2.1 j))), (dt, aJ cA 16 (fun j => lZ (τ.2.2.1 j))), (dl, aI cA 16 (fun j => nI (τ.2.2.2.1 j))), (g, .inr (2, [.ref gf, .ref gt, .ref gw, .int (zB dir), .int (nI nv), .int (nI me)])), (gf, aI cA 40 (fun j => nI (Fr j))), (gt, aI cA 40 (fun j => nI (To j))), (gw, aI cA 40 (fun j => nI (We j))), (xa, aI cA 40 (fun j => iZ (X j)))] H := by rw [q9]; exact hP
                have hD : va_D A [(ds, .inr (1, [.ref dr, .ref dc, .ref dt, .ref dl, .ref dn, .int (zB ((dSearch dir Fr To We X me σ src).2.2.2.2))])), (dr, aZ cA 16 (fun j => zB (((dSearch dir Fr To We X me σ src).1) j))), (dc, aJ cA 16 (fun j => lZ (τ.2.1 j))), (dt, aJ cA 16 (fun j => lZ (τ.2.2.1 j))), (dl, aI cA 16 (fun j => nI (τ.2.2.2.1 j))), (g, .inr (2, [.ref gf, .ref gt, .ref gw, .int (zB dir), .int (nI nv), .int (nI me)])), (gf, aI cA 40 (fun j => nI (Fr j))), (gt, aI cA 40 (fun j => nI (To j))), (gw, aI cA 40 (fun j => nI (We j))), (xa, aI cA 40 (fun j => iZ (X j)))] := by rw [q9]; exact hD
                have q9 : (fun j => lZ (((dSearch dir Fr To We X me σ src).2.1) j)) = (fun j => lZ (τ.2.1 j)) := by rw [hres]
                have hP : va_P D vwCl [(ds, .inr (1, [.ref dr, .ref dc, .ref dt, .ref dl, .ref dn, .int (zB ((dSearch dir Fr To We X me σ src).2.2.2.2))])), (dr, aZ cA 16 (fun j => zB (((dSearch dir Fr To We X me σ src).1) j))), (dc, aJ cA 16 (fun j => lZ (((dSearch dir Fr To We X me σ src).2.1) j))), (dt, aJ cA 16 (fun j => lZ (τ.2.2.1 j))), (dl, aI cA 16 (fun j => nI (τ.2.2.2.1 j))), (g, .inr (2, [.ref gf, .ref gt, .ref gw, .int (zB dir), .int (nI nv), .int (nI me)])), (gf, aI cA 40 (fun j => nI (Fr j))), (gt, aI cA 40 (fun j => nI (To j))), (gw, aI cA 40 (fun j => nI (We j))), (xa, aI cA 40 (fun j => iZ (X j)))] H := by rw [q9]; exact hP
                have hD : va_D A [(ds, .inr (1, [.ref dr, .ref dc, .ref dt, .ref dl, .ref dn, .int (zB ((dSearch dir Fr To We X me σ src).2.2.2.2))])), (dr, aZ cA 16 (fun j => zB (((dSearch dir Fr To We X me σ src).1) j))), (dc, aJ cA 16 (fun j => lZ (((dSearch dir Fr To We X me σ src).2.1) j))), (dt, aJ cA 16 (fun j => lZ (τ.2.2.1 j))), (dl, aI cA 16 (fun j => nI (τ.2.2.2.1 j))), (g, .inr (2, [.ref gf, .ref gt, .ref gw, .int (zB dir), .int (nI nv), .int (nI me)])), (gf, aI cA 40 (fun j => nI (Fr j))), (gt, aI cA 40 (fun j => nI (To j))), (gw, aI cA 40 (fun j => nI (We j))), (xa, aI cA 40 (fun j => iZ (X j)))] := by rw [q9]; exact hD
                have q9 : (fun j => lZ (((dSearch dir Fr To We X me σ src).2.2.1) j)) = (fun j => lZ (τ.2.2.1 j)) := by rw [hres]
                have hP : va_P D vwCl [(ds, .inr (1, [.ref dr, .ref dc, .ref dt, .ref dl, .ref dn, .int (zB ((dSearch dir Fr To We X me σ src).2.2.2.2))])), (dr, aZ cA 16 (fun j => zB (((dSearch dir Fr To We X me σ src).1) j))), (dc, aJ cA 16 (fun j => lZ (((dSearch dir Fr To We X me σ src).2.1) j))), (dt, aJ cA 16 (fun j => lZ (((dSearch dir Fr To We X me σ src).2.2.1) j))), (dl, aI cA 16 (fun j => nI (τ.2.2.2.1 j))), (g, .inr (2, [.ref gf, .ref gt, .ref gw, .int (zB dir), .int (nI nv), .int (nI me)])), (gf, aI cA 40 (fun j => nI (Fr j))), (gt, aI cA 40 (fun j => nI (To j))), (gw, aI cA 40 (fun j => nI (We j))), (xa, aI cA 40 (fun j => iZ (X j)))] H := by rw [q9]; exact hP
                have hD : va_D A [(ds, .inr (1, [.ref dr, .ref dc, .ref dt, .ref dl, .ref dn, .int (zB ((dSearch dir Fr To We X me σ src).2.2.2.2))])), (dr, aZ cA 16 (fun j => zB (((dSearch dir Fr To We X me σ src).1) j))), (dc, aJ cA 16 (fun j => lZ (((dSearch dir Fr To We X me σ src).2.1) j))), (dt, aJ cA 16 (fun j => lZ (((dSearch dir Fr To We X me σ src).2.2.1) j))), (dl, aI cA 16 (fun j => nI (τ.2.2.2.1 j))), (g, .inr (2, [.ref gf, .ref gt, .ref gw, .int (zB dir), .int (nI nv), .int (nI me)])), (gf, aI cA 40 (fun j => nI (Fr j))), (gt, aI cA 40 (fun j => nI (To j))), (gw, aI cA 40 (fun j => nI (We j))), (xa, aI cA 40 (fun j => iZ (X j)))] := by rw [q9]; exact hD
                have q9 : (fun j => nI (((dSearch dir Fr To We X me σ src).2.2.2.1) j)) = (fun j => nI (τ.2.2.2.1 j)) := by rw [hres]
                have hP : va_P D vwCl [(ds, .inr (1, [.ref dr, .ref dc, .ref dt, .ref dl, .ref dn, .int (zB ((dSearch dir Fr To We X me σ src).2.2.2.2))])), (dr, aZ cA 16 (fun j => zB (((dSearch dir Fr To We X me σ src).1) j))), (dc, aJ cA 16 (fun j => lZ (((dSearch dir Fr To We X me σ src).2.1) j))), (dt, aJ cA 16 (fun j => lZ (((dSearch dir Fr To We X me σ src).2.2.1) j))), (dl, aI cA 16 (fun j => nI (((dSearch dir Fr To We X me σ src).2.2.2.1) j))), (g, .inr (2, [.ref gf, .ref gt, .ref gw, .int (zB dir), .int (nI nv), .int (nI me)])), (gf, aI cA 40 (fun j => nI (Fr j))), (gt, aI cA 40 (fun j => nI (To j))), (gw, aI cA 40 (fun j => nI (We j))), (xa, aI cA 40 (fun j => iZ (X j)))] H := by rw [q9]; exact hP
                have hD : va_D A [(ds, .inr (1, [.ref dr, .ref dc, .ref dt, .ref dl, .ref dn, .int (zB ((dSearch dir Fr To We X me σ src).2.2.2.2))])), (dr, aZ cA 16 (fun j => zB (((dSearch dir Fr To We X me σ src).1) j))), (dc, aJ cA 16 (fun j => lZ (((dSearch dir Fr To We X me σ src).2.1) j))), (dt, aJ cA 16 (fun j => lZ (((dSearch dir Fr To We X me σ src).2.2.1) j))), (dl, aI cA 16 (fun j => nI (((dSearch dir Fr To We X me σ src).2.2.2.1) j))), (g, .inr (2, [.ref gf, .ref gt, .ref gw, .int (zB dir), .int (nI nv), .int (nI me)])), (gf, aI cA 40 (fun j => nI (Fr j))), (gt, aI cA 40 (fun j => nI (To j))), (gw, aI cA 40 (fun j => nI (We j))), (xa, aI cA 40 (fun j => iZ (X j)))] := by rw [q9]; exact hD
                exact z_vretW hx hb hr hlocks hAe hQ (hP) hK (hD) hS dX1_searchBesideExtras_224
              · skip
                refine lv_aload_n hx hb dX1_searchBesideExtras_67 rfl (lv_at hl 0 rfl) ?_
                refine lv_iconst (v := zB false) hx hb dX1_searchBesideExtras_68 (by decide) ?_
                refine va_put (D := D) (ci := 1) (v := .int (zB false)) (ty := .boolean) (C := RX1) (T := TX1) (N := 6) hx hb hts hin1 tyX1 tyX1_ok nmX1 hown hK hP hD hS 0 rfl rfl 5 (by decide) (hts (.fieldLink RX1 29 "TourHouse$Distances" "changed" "Z") (by decide +kernel)) (fun _ h9 => h9) rfl (by decide +kernel) (zB_nar _) (zB_fits _) (Nat.le_of_ble_eq_true rfl) dX1_searchBesideExtras_69 (fun H locs hP hD hS => ?_)
                have hP : va_P D vwCl [(ds, .inr (1, [.ref dr, .ref dc, .ref dt, .ref dl, .ref dn, .int (zB false)])), (dr, aZ cA 16 (fun j => zB (τ.1 j))), (dc, aJ cA 16 (fun j => lZ (τ.2.1 j))), (dt, aJ cA 16 (fun j => lZ (τ.2.2.1 j))), (dl, aI cA 16 (fun j => nI (τ.2.2.2.1 j))), (g, .inr (2, [.ref gf, .ref gt, .ref gw, .int (zB dir), .int (nI nv), .int (nI me)])), (gf, aI cA 40 (fun j => nI (Fr j))), (gt, aI cA 40 (fun j => nI (To j))), (gw, aI cA 40 (fun j => nI (We j))), (xa, aI cA 40 (fun j => iZ (X j)))] H := hP
                have hD : va_D A [(ds, .inr (1, [.ref dr, .ref dc, .ref dt, .ref dl, .ref dn, .int (zB false)])), (dr, aZ cA 16 (fun j => zB (τ.1 j))), (dc, aJ cA 16 (fun j => lZ (τ.2.1 j))), (dt, aJ cA 16 (fun j => lZ (τ.2.2.1 j))), (dl, aI cA 16 (fun j => nI (τ.2.2.2.1 j))), (g, .inr (2, [.ref gf, .ref gt, .ref gw, .int (zB dir), .int (nI nv), .int (nI me)])), (gf, aI cA 40 (fun j => nI (Fr j))), (gt, aI cA 40 (fun j => nI (To j))), (gw, aI cA 40 (fun j => nI (We j))), (xa, aI cA 40 (fun j => iZ (X j)))] := hD
                refine lv_iconst (v := nI 0) hx hb dX1_searchBesideExtras_72 (by decide) ?_
                refine lv_istore (lv' := [(5, .int (nI 0)), (0, .ref ds), (1, .int (nI src)), (2, .ref g), (3, .ref xa), (4, .int (nI ps))]) hx hb dX1_searchBesideExtras_73 hl (by decide) rfl (fun ls hl => ?_)
                have J75 : ∀ (n : Nat), ∀ (i : Nat), (i ≤ me) → me - i < n → ∀ (H : Heap) (locs : List Loc), va_P D vwCl [(ds, .inr (1, [.ref dr, .ref dc, .ref dt, .ref dl, .ref dn, .int (zB ((dPass dir Fr To We X τ i).2.2.2.2))])), (dr, aZ cA 16 (fun j => zB (((dPass dir Fr To We X τ i).1) j))), (dc, aJ cA 16 (fun j => lZ (((dPass dir Fr To We X τ i).2.1) j))), (dt, aJ cA 16 (fun j => lZ (((dPass dir Fr To We X τ i).2.2.1) j))), (dl, aI cA 16 (fun j => nI (((dPass dir Fr To We X τ i).2.2.2.1) j))), (g, .inr (2, [.ref gf, .ref gt, .ref gw, .int (zB dir), .int (nI nv), .int (nI me)])), (gf, aI cA 40 (fun j => nI (Fr j))), (gt, aI cA 40 (fun j => nI (To j))), (gw, aI cA 40 (fun j => nI (We j))), (xa, aI cA 40 (fun j => iZ (X j)))] H → va_D A [(ds, .inr (1, [.ref dr, .ref dc, .ref dt, .ref dl, .ref dn, .int (zB ((dPass dir Fr To We X τ i).2.2.2.2))])), (dr, aZ cA 16 (fun j => zB (((dPass dir Fr To We X τ i).1) j))), (dc, aJ cA 16 (fun j => lZ (((dPass dir Fr To We X τ i).2.1) j))), (dt, aJ cA 16 (fun j => lZ (((dPass dir Fr To We X τ i).2.2.1) j))), (dl, aI cA 16 (fun j => nI (((dPass dir Fr To We X τ i).2.2.2.1) j))), (g, .inr (2, [.ref gf, .ref gt, .ref gw, .int (zB dir), .int (nI nv), .int (nI me)])), (gf, aI cA 40 (fun j => nI (Fr j))), (gt, aI cA 40 (fun j => nI (To j))), (gw, aI cA 40 (fun j => nI (We j))), (xa, aI cA 40 (fun j => iZ (X j)))] → va_S A s.heap H locs → ∀ (ls : Array Slot), lv_has ls 8 [(0, .ref ds), (1, .int (nI src)), (2, .ref g), (3, .ref xa), (4, .int (nI ps)), (5, .int (nI i))] → W p l e ({ frames := 2, cells := 0, slots := 0, locals := 58 } : Room) s m args below meth c H locs 0 0 Q (F0 m 75 ls []) := by
                  intro n75
                  induction n75 with
                  | zero => intro i hi hn; exact absurd hn (Nat.not_lt_zero _)
                  | succ n75 ih75 =>
                    intro i hi hn75 H locs hP hD hS ls hl
                    refine lv_iload hx hb dX1_searchBesideExtras_75 (lv_at hl 5 rfl) ?_
                    refine lv_aload_n hx hb dX1_searchBesideExtras_77 rfl (lv_at hl 2 rfl) ?_
                    refine va_get (D := D) (ci := 2) (v := .int (nI me)) (C := RX2) (T := TX2) (N := 6) hx hb hts hin2 hown hK hP 5 rfl rfl 5 (by decide) (hts (.fieldLink RX1 37 "TourHouse$Graph" "edges" "I") (by decide +kernel)) (fun _ h9 => h9) rfl dX1_searchBesideExtras_78 ?_
                    refine z_ge hx hb (by omega) (by omega) (tgt := 218) dX1_searchBesideExtras_81 (by decide) (fun h81 => ?_) (fun h81 => ?_)
                    · skip
                      refine lv_iinc (v := nI (ps + 1)) (lv' := [(4, .int (nI (ps + 1))), (0, .ref ds), (1, .int (nI src)), (2, .ref g), (3, .ref xa), (5, .int (nI i))]) hx hb dX1_searchBesideExtras_218 hl (k := 4) rfl (nI_1 ps) (by decide) rfl (fun ls hl => ?_)
                      refine lv_goto (tgt := 53) hx hb dX1_searchBesideExtras_221 (by decide) ?_
                      exact ih53 (ps + 1) (dPass dir Fr To We X τ me) (by omega) (dB_mono (by omega) (dPass_B hF hT hW hBt me)) (by rw [← hq, show 16 - ps = (16 - (ps + 1)) + 1 from by omega, dLoop, if_neg (by rw [h64]; decide)]) (by omega) _ _ (by have q : i = me := (by omega); rw [q] at hP; exact hP) (by have q : i = me := (by omega); rw [q] at hD; exact hD) hS ls (lv_sub hl [1, 2, 3, 4, 0] (by rfl))
                    · skip
                      refine lv_lconst (v := lZ 1) hx hb dX1_searchBesideExtras_84 (by decide) ?_
                      refine lv_bipush (v := nI 39) hx hb dX1_searchBesideExtras_85 (by decide) ?_
                      refine lv_iload hx hb dX1_searchBesideExtras_87 (lv_at hl 5 rfl) ?_
                      refine lv_isub hx hb dX1_searchBesideExtras_89 ?_
                      refine z_topi (v := nI (39 - i)) (pk_sub (by omega)) ?_
                      refine lv_lshl (v := lZ (2 ^ (39 - i))) hx hb dX1_searchBesideExtras_90 (lb_shl1 (by omega)) ?_
                      refine lv_lstore (lv' := [(6, .long (lZ (2 ^ (39 - i)))), (0, .ref ds), (1, .int (nI src)), (2, .ref g), (3, .ref xa), (4, .int (nI ps)), (5, .int (nI i))]) hx hb dX1_searchBesideExtras_91 hl (by decide) rfl (fun ls hl => ?_)
                      refine lv_aload_n hx hb dX1_searchBesideExtras_93 rfl (lv_at hl 1 rfl) ?_
                      refine lv_iconst (v := nI 2) hx hb dX1_searchBesideExtras_94 (by decide) ?_
                      refine lv_iload hx hb dX1_searchBesideExtras_95 (lv_at hl 6 rfl) ?_
                      refine lv_imul hx hb dX1_searchBesideExtras_97 ?_
                      refine z_topi (v := nI (2 * i)) (pk_mul 2 i) ?_
                      refine lv_aload_n hx hb dX1_searchBesideExtras_98 rfl (lv_at hl 3 rfl) ?_
                      refine va_get (D := D) (ci := 2) (v := .ref gf) (C := RX2) (T := TX2) (N := 6) hx hb hts hin2 hown hK hP 5 rfl rfl 0 (by decide) (hts (.fieldLink RX1 43 "TourHouse$Graph" "from" "[I") (by decide +kernel)) (fun _ h9 => h9) rfl dX1_searchBesideExtras_99 ?_
                      refine lv_iload hx hb dX1_searchBesideExtras_102 (lv_at hl 6 rfl) ?_
                      refine z_iald hx hb hK hP 6 0 rfl rfl (k := i) (by omega) (by decide) (v := nI (Fr i)) rfl dX1_searchBesideExtras_104 ?_
                      refine lv_aload_n hx hb dX1_searchBesideExtras_105 rfl (lv_at hl 3 rfl) ?_
                      refine va_get (D := D) (ci := 2) (v := .ref gt) (C := RX2) (T := TX2) (N := 6) hx hb hts hin2 hown hK hP 5 rfl rfl 1 (by decide) (hts (.fieldLink RX1 46 "TourHouse$Graph" "to" "[I") (by decide +kernel)) (fun _ h9 => h9) rfl dX1_searchBesideExtras_106 ?_
                      refine lv_iload hx hb dX1_searchBesideExtras_109 (lv_at hl 6 rfl) ?_
                      refine z_iald hx hb hK hP 7 0 rfl rfl (k := i) (by omega) (by decide) (v := nI (To i)) rfl dX1_searchBesideExtras_111 ?_
                      refine lv_aload_n hx hb dX1_searchBesideExtras_112 rfl (lv_at hl 3 rfl) ?_
                      refine va_get (D := D) (ci := 2) (v := .ref gw) (C := RX2) (T := TX2) (N := 6) hx hb hts hin2 hown hK hP 5 rfl rfl 2 (by decide) (hts (.fieldLink RX1 49 "TourHouse$Graph" "weight" "[I") (by decide +kernel)) (fun _ h9 => h9) rfl dX1_searchBesideExtras_113 ?_
                      refine lv_iload hx hb dX1_searchBesideExtras_116 (lv_at hl 6 rfl) ?_
                      refine z_iald hx hb hK hP 8 0 rfl rfl (k := i) (by omega) (by decide) (v := nI (We i)) rfl dX1_searchBesideExtras_118 ?_
                      refine lv_i2l (v := lZ ((We i : Nat) : Int)) hx hb dX1_searchBesideExtras_119 (nI_l2 (Nat.lt_of_le_of_lt (hW _) (by decide))) ?_
                      refine lv_lload hx hb dX1_searchBesideExtras_120 (lv_at hl 0 rfl) ?_
                      refine z_cWVv (wc := [(ds, .inr (1, [.ref dr, .ref dc, .ref dt, .ref dl, .ref dn, .int (zB ((dPass dir Fr To We X τ i).2.2.2.2))])), (dr, aZ cA 16 (fun j => zB (((dPass dir Fr To We X τ i).1) j))), (dc, aJ cA 16 (fun j => lZ (((dPass dir Fr To We X τ i).2.1) j))), (dt, aJ cA 16 (fun j => lZ (((dPass dir Fr To We X τ i).2.2.1) j))), (dl, aI cA 16 (fun j => nI (((dPass dir Fr To We X τ i).2.2.2.1) j)))]) (rm := ({ frames := 1, cells := 0, slots := 0, locals := 27 } : Room)) (As := [.int (nI (2 * i)), .int (nI (Fr i)), .int (nI (To i)), .long (lZ ((We i : Nat) : Int)), .long (lZ (2 ^ (39 - i)))]) (rest := []) (wr := [(g, .inr (2, [.ref gf, .ref gt, .ref gw, .int (zB dir), .int (nI nv), .int (nI me)])), (gf, aI cA 40 (fun j => nI (Fr j))), (gt, aI cA 40 (fun j => nI (To j))), (gw, aI cA 40 (fun j => nI (We j))), (xa, aI cA 40 (fun j => iZ (X j)))]) (w1 := [(ds, .inr (1, [.ref dr, .ref dc, .ref dt, .ref dl, .ref dn, .int (zB ((tS (dPass dir Fr To We X τ i) (2 * i) (Fr i) (To i) ((We i : Nat) : Int) (2 ^ (39 - i))).2.2.2.2))])), (dr, aZ cA 16 (fun j => zB (((tS (dPass dir Fr To We X τ i) (2 * i) (Fr i) (To i) ((We i : Nat) : Int) (2 ^ (39 - i))).1) j))), (dc, aJ cA 16 (fun j => lZ (((tS (dPass dir Fr To We X τ i) (2 * i) (Fr i) (To i) ((We i : Nat) : Int) (2 ^ (39 - i))).2.1) j))), (dt, aJ cA 16 (fun j => lZ (((tS (dPass dir Fr To We X τ i) (2 * i) (Fr i) (To i) ((We i : Nat) : Int) (2 ^ (39 - i))).2.2.1) j))), (dl, aI cA 16 (fun j => nI (((tS (dPass dir Fr To We X τ i) (2 * i) (Fr i) (To i) ((We i : Nat) : Int) (2 ^ (39 - i))).2.2.2.1) j)))]) (ws' := [(ds, .inr (1, [.ref dr, .ref dc, .ref dt, .ref dl, .ref dn, .int (zB ((tS (dPass dir Fr To We X τ i) (2 * i) (Fr i) (To i) ((We i : Nat) : Int) (2 ^ (39 - i))).2.2.2.2))])), (dr, aZ cA 16 (fun j => zB (((tS (dPass dir Fr To We X τ i) (2 * i) (Fr i) (To i) ((We i : Nat) : Int) (2 ^ (39 - i))).1) j))), (dc, aJ cA 16 (fun j => lZ (((tS (dPass dir Fr To We X τ i) (2 * i) (Fr i) (To i) ((We i : Nat) : Int) (2 ^ (39 - i))).2.1) j))), (dt, aJ cA 16 (fun j => lZ (((tS (dPass dir Fr To We X τ i) (2 * i) (Fr i) (To i) ((We i : Nat) : Int) (2 ^ (39 - i))).2.2.1) j))), (dl, aI cA 16 (fun j => nI (((tS (dPass dir Fr To We X τ i) (2 * i) (Fr i) (To i) ((We i : Nat) : Int) (2 ^ (39 - i))).2.2.2.1) j))), (g, .inr (2, [.ref gf, .ref gt, .ref gw, .int (zB dir), .int (nI nv), .int (nI me)])), (gf, aI cA 40 (fun j => nI (Fr j))), (gt, aI cA 40 (fun j => nI (To j))), (gw, aI cA 40 (fun j => nI (We j))), (xa, aI cA 40 (fun j => iZ (X j)))]) ⟨hx, hb, hml, hown, hts⟩ (c_X1_tryStep l D cA H.size ds dr dc dt dl dn (dPass dir Fr To We X τ i) (2 * i) (Fr i) (To i) ((We i : Nat) : Int) (2 ^ (39 - i)) (80 * ps + 2 * i) (dPass_B hF hT hW hBt i) (by omega) (⟨by have := hW i; omega, by have := hW i; omega⟩) (pow39 i) (hF _) (hT _)) (cwV 5 hts gX1_searchBesideExtras_X1_tryStep rfl rfl rfl (by decide +kernel) ⟨Nat.le_of_ble_eq_true rfl, Nat.le_of_ble_eq_true rfl⟩) hP hK hD hS hA [0, 1, 2, 3, 4] [5, 6, 7, 8, 9] [5, 6, 7, 8, 9, 0, 1, 2, 3, 4] rfl rfl rfl rfl rfl (by decide) rfl rfl rfl 1 0 rfl rfl rfl hl.1 rfl (Nat.le_of_ble_eq_true rfl) ⟨Nat.zero_le _, Nat.zero_le _⟩ dX1_searchBesideExtras_122 (fun H locs hP hD hS => ?_)
                      refine lv_aload_n hx hb dX1_searchBesideExtras_125 rfl (lv_at hl 3 rfl) ?_
                      refine va_get (D := D) (ci := 2) (v := .int (zB dir)) (C := RX2) (T := TX2) (N := 6) hx hb hts hin2 hown hK hP 5 rfl rfl 3 (by decide) (hts (.fieldLink RX1 56 "TourHouse$Graph" "directed" "Z") (by decide +kernel)) (fun _ h9 => h9) rfl dX1_searchBesideExtras_126 ?_
                      refine z_ifne hx hb (tgt := 169) dX1_searchBesideExtras_129 (by decide) (fun h129 => ?_) (fun h129 => ?_)
                      · skip
                        refine lv_aload_n hx hb dX1_searchBesideExtras_169 rfl (lv_at hl 4 rfl) ?_
                        refine lv_iload hx hb dX1_searchBesideExtras_170 (lv_at hl 6 rfl) ?_
                        refine z_iald hx hb hK hP 9 0 rfl rfl (k := i) (by omega) (by decide) (v := iZ (X i)) rfl dX1_searchBesideExtras_172 ?_
                        refine z_ile hx hb (x := X i) (hX _ (by omega)) (tgt := 212) dX1_searchBesideExtras_173 (by decide) (fun h173 => ?_) (fun h173 => ?_)
                        · skip
                          refine lv_iinc (v := nI (i + 1)) (lv' := [(5, .int (nI (i + 1))), (6, .long (lZ (2 ^ (39 - i)))), (0, .ref ds), (1, .int (nI src)), (2, .ref g), (3, .ref xa), (4, .int (nI ps))]) hx hb dX1_searchBesideExtras_212 hl (k := 6) rfl (nI_1 i) (by decide) rfl (fun ls hl => ?_)
                          refine lv_goto (tgt := 75) hx hb dX1_searchBesideExtras_215 (by decide) ?_
                          exact ih75 (i + 1) (by omega) (by omega) _ _ (by first | (rw [dPass_n h129]; exact hP) | (rw [dPass_d0 h129 (by omega)]; exact hP) | (rw [dPass_d1 h129 h173]; exact hP)) (by first | (rw [dPass_n h129]; exact hD) | (rw [dPass_d0 h129 (by omega)]; exact hD) | (rw [dPass_d1 h129 h173]; exact hD)) hS ls (lv_sub hl [2, 3, 4, 5, 6, 0] (by rfl))
                        · skip
                          refine lv_aload_n hx hb dX1_searchBesideExtras_176 rfl (lv_at hl 1 rfl) ?_
                          refine lv_iconst (v := nI 2) hx hb dX1_searchBesideExtras_177 (by decide) ?_
                          refine lv_iload hx hb dX1_searchBesideExtras_178 (lv_at hl 6 rfl) ?_
                          refine lv_imul hx hb dX1_searchBesideExtras_180 ?_
                          refine z_topi (v := nI (2 * i)) (pk_mul 2 i) ?_
                          refine lv_iconst (v := nI 1) hx hb dX1_searchBesideExtras_181 (by decide) ?_
                          refine lv_iadd hx hb dX1_searchBesideExtras_182 ?_
                          refine z_topi (v := nI ((2 * i) + 1)) (nI_add (2 * i) 1) ?_
                          refine lv_aload_n hx hb dX1_searchBesideExtras_183 rfl (lv_at hl 3 rfl) ?_
                          refine va_get (D := D) (ci := 2) (v := .ref gt) (C := RX2) (T := TX2) (N := 6) hx hb hts hin2 hown hK hP 5 rfl rfl 1 (by decide) (hts (.fieldLink RX1 46 "TourHouse$Graph" "to" "[I") (by decide +kernel)) (fun _ h9 => h9) rfl dX1_searchBesideExtras_184 ?_
                          refine lv_iload hx hb dX1_searchBesideExtras_187 (lv_at hl 6 rfl) ?_
                          refine z_iald hx hb hK hP 7 0 rfl rfl (k := i) (by omega) (by decide) (v := nI (To i)) rfl dX1_searchBesideExtras_189 ?_
                          refine lv_aload_n hx hb dX1_searchBesideExtras_190 rfl (lv_at hl 3 rfl) ?_
                          refine va_get (D := D) (ci := 2) (v := .ref gf) (C := RX2) (T := TX2) (N := 6) hx hb hts hin2 hown hK hP 5 rfl rfl 0 (by decide) (hts (.fieldLink RX1 43 "TourHouse$Graph" "from" "[I") (by decide +kernel)) (fun _ h9 => h9) rfl dX1_searchBesideExtras_191 ?_
                          refine lv_iload hx hb dX1_searchBesideExtras_194 (lv_at hl 6 rfl) ?_
                          refine z_iald hx hb hK hP 6 0 rfl rfl (k := i) (by omega) (by decide) (v := nI (Fr i)) rfl dX1_searchBesideExtras_196 ?_
                          refine lv_aload_n hx hb dX1_searchBesideExtras_197 rfl (lv_at hl 3 rfl) ?_
                          refine va_get (D := D) (ci := 2) (v := .ref gw) (C := RX2) (T := TX2) (N := 6) hx hb hts hin2 hown hK hP 5 rfl rfl 2 (by decide) (hts (.fieldLink RX1 49 "TourHouse$Graph" "weight" "[I") (by decide +kernel)) (fun _ h9 => h9) rfl dX1_searchBesideExtras_198 ?_
                          refine lv_iload hx hb dX1_searchBesideExtras_201 (lv_at hl 6 rfl) ?_
                          refine z_iald hx hb hK hP 8 0 rfl rfl (k := i) (by omega) (by decide) (v := nI (We i)) rfl dX1_searchBesideExtras_203 ?_
                          refine lv_ineg hx hb dX1_searchBesideExtras_204 ?_
                          refine z_topi (v := iZ (-((We i : Nat) : Int))) (iZ_neg ((We i : Nat) : Int)) ?_
                          refine lv_i2l (v := lZ (-((We i : Nat) : Int))) hx hb dX1_searchBesideExtras_205 (iZ_l2 (by have := hW i; omega) (by omega)) ?_
                          refine lv_lload hx hb dX1_searchBesideExtras_206 (lv_at hl 0 rfl) ?_
                          refine lv_lneg hx hb dX1_searchBesideExtras_208 ?_
                          refine z_topl (v := lZ (-(2 ^ (39 - i)))) (lZ_neg (2 ^ (39 - i))) ?_
                          refine z_cWVv (wc := [(ds, .inr (1, [.ref dr, .ref dc, .ref dt, .ref dl, .ref dn, .int (zB ((tS (dPass dir Fr To We X τ i) (2 * i) (Fr i) (To i) ((We i : Nat) : Int) (2 ^ (39 - i))).2.2.2.2))])), (dr, aZ cA 16 (fun j => zB (((tS (dPass dir Fr To We X τ i) (2 * i) (Fr i) (To i) ((We i : Nat) : Int) (2 ^ (39 - i))).1) j))), (dc, aJ cA 16 (fun j => lZ (((tS (dPass dir Fr To We X τ i) (2 * i) (Fr i) (To i) ((We i : Nat) : Int) (2 ^ (39 - i))).2.1) j))), (dt, aJ cA 16 (fun j => lZ (((tS (dPass dir Fr To We X τ i) (2 * i) (Fr i) (To i) ((We i : Nat) : Int) (2 ^ (39 - i))).2.2.1) j))), (dl, aI cA 16 (fun j => nI (((tS (dPass dir Fr To We X τ i) (2 * i) (Fr i) (To i) ((We i : Nat) : Int) (2 ^ (39 - i))).2.2.2.1) j)))]) (rm := ({ frames := 1, cells := 0, slots := 0, locals := 27 } : Room)) (As := [.int (nI ((2 * i) + 1)), .int (nI (To i)), .int (nI (Fr i)), .long (lZ (-((We i : Nat) : Int))), .long (lZ (-(2 ^ (39 - i))))]) (rest := []) (wr := [(g, .inr (2, [.ref gf, .ref gt, .ref gw, .int (zB dir), .int (nI nv), .int (nI me)])), (gf, aI cA 40 (fun j => nI (Fr j))), (gt, aI cA 40 (fun j => nI (To j))), (gw, aI cA 40 (fun j => nI (We j))), (xa, aI cA 40 (fun j => iZ (X j)))]) (w1 := [(ds, .inr (1, [.ref dr, .ref dc, .ref dt, .ref dl, .ref dn, .int (zB ((tS (tS (dPass dir Fr To We X τ i) (2 * i) (Fr i) (To i) ((We i : Nat) : Int) (2 ^ (39 - i))) ((2 * i) + 1) (To i) (Fr i) (-((We i : Nat) : Int)) (-(2 ^ (39 - i)))).2.2.2.2))])), (dr, aZ cA 16 (fun j => zB (((tS (tS (dPass dir Fr To We X τ i) (2 * i) (Fr i) (To i) ((We i : Nat) : Int) (2 ^ (39 - i))) ((2 * i) + 1) (To i) (Fr i) (-((We i : Nat) : Int)) (-(2 ^ (39 - i)))).1) j))), (dc, aJ cA 16 (fun j => lZ (((tS (tS (dPass dir Fr To We X τ i) (2 * i) (Fr i) (To i) ((We i : Nat) : Int) (2 ^ (39 - i))) ((2 * i) + 1) (To i) (Fr i) (-((We i : Nat) : Int)) (-(2 ^ (39 - i)))).2.1) j))), (dt, aJ cA 16 (fun j => lZ (((tS (tS (dPass dir Fr To We X τ i) (2 * i) (Fr i) (To i) ((We i : Nat) : Int) (2 ^ (39 - i))) ((2 * i) + 1) (To i) (Fr i) (-((We i : Nat) : Int)) (-(2 ^ (39 - i)))).2.2.1) j))), (dl, aI cA 16 (fun j => nI (((tS (tS (dPass dir Fr To We X τ i) (2 * i) (Fr i) (To i) ((We i : Nat) : Int) (2 ^ (39 - i))) ((2 * i) + 1) (To i) (Fr i) (-((We i : Nat) : Int)) (-(2 ^ (39 - i)))).2.2.2.1) j)))]) (ws' := [(ds, .inr (1, [.ref dr, .ref dc, .ref dt, .ref dl, .ref dn, .int (zB ((tS (tS (dPass dir Fr To We X τ i) (2 * i) (Fr i) (To i) ((We i : Nat) : Int) (2 ^ (39 - i))) ((2 * i) + 1) (To i) (Fr i) (-((We i : Nat) : Int)) (-(2 ^ (39 - i)))).2.2.2.2))])), (dr, aZ cA 16 (fun j => zB (((tS (tS (dPass dir Fr To We X τ i) (2 * i) (Fr i) (To i) ((We i : Nat) : Int) (2 ^ (39 - i))) ((2 * i) + 1) (To i) (Fr i) (-((We i : Nat) : Int)) (-(2 ^ (39 - i)))).1) j))), (dc, aJ cA 16 (fun j => lZ (((tS (tS (dPass dir Fr To We X τ i) (2 * i) (Fr i) (To i) ((We i : Nat) : Int) (2 ^ (39 - i))) ((2 * i) + 1) (To i) (Fr i) (-((We i : Nat) : Int)) (-(2 ^ (39 - i)))).2.1) j))), (dt, aJ cA 16 (fun j => lZ (((tS (tS (dPass dir Fr To We X τ i) (2 * i) (Fr i) (To i) ((We i : Nat) : Int) (2 ^ (39 - i))) ((2 * i) + 1) (To i) (Fr i) (-((We i : Nat) : Int)) (-(2 ^ (39 - i)))).2.2.1) j))), (dl, aI cA 16 (fun j => nI (((tS (tS (dPass dir Fr To We X τ i) (2 * i) (Fr i) (To i) ((We i : Nat) : Int) (2 ^ (39 - i))) ((2 * i) + 1) (To i) (Fr i) (-((We i : Nat) : Int)) (-(2 ^ (39 - i)))).2.2.2.1) j))), (g, .inr (2, [.ref gf, .ref gt, .ref gw, .int (zB dir), .int (nI nv), .int (nI me)])), (gf, aI cA 40 (fun j => nI (Fr j))), (gt, aI cA 40 (fun j => nI (To j))), (gw, aI cA 40 (fun j => nI (We j))), (xa, aI cA 40 (fun j => iZ (X j)))]) ⟨hx, hb, hml, hown, hts⟩ (c_X1_tryStep l D cA H.size ds dr dc dt dl dn (tS (dPass dir Fr To We X τ i) (2 * i) (Fr i) (To i) ((We i : Nat) : Int) (2 ^ (39 - i))) ((2 * i) + 1) (To i) (Fr i) (-((We i : Nat) : Int)) (-(2 ^ (39 - i))) (80 * ps + 2 * i + 1) (tS_B (hF _) (dPass_B hF hT hW hBt i) (by have := hW i; omega) (pow39 i)) (by omega) (⟨by have := hW i; omega, by have := hW i; omega⟩) (pow39n i) (hT _) (hF _)) (cwV 5 hts gX1_searchBesideExtras_X1_tryStep rfl rfl rfl (by decide +kernel) ⟨Nat.le_of_ble_eq_true rfl, Nat.le_of_ble_eq_true rfl⟩) hP hK hD hS hA [0, 1, 2, 3, 4] [5, 6, 7, 8, 9] [5, 6, 7, 8, 9, 0, 1, 2, 3, 4] rfl rfl rfl rfl rfl (by decide) rfl rfl rfl 1 0 rfl rfl rfl hl.1 rfl (Nat.le_of_ble_eq_true rfl) ⟨Nat.zero_le _, Nat.zero_le _⟩ dX1_searchBesideExtras_209 (fun H locs hP hD hS => ?_)
                          refine lv_iinc (v := nI (i + 1)) (lv' := [(5, .int (nI (i + 1))), (6, .long (lZ (2 ^ (39 - i)))), (0, .ref ds), (1, .int (nI src)), (2, .ref g), (3, .ref xa), (4, .int (nI ps))]) hx hb dX1_searchBesideExtras_212 hl (k := 6) rfl (nI_1 i) (by decide) rfl (fun ls hl => ?_)
                          refine lv_goto (tgt := 75) hx hb dX1_searchBesideExtras_215 (by decide) ?_
                          exact ih75 (i + 1) (by omega) (by omega) _ _ (by first | (rw [dPass_n h129]; exact hP) | (rw [dPass_d0 h129 (by omega)]; exact hP) | (rw [dPass_d1 h129 h173]; exact hP)) (by first | (rw [dPass_n h129]; exact hD) | (rw [dPass_d0 h129 (by omega)]; exact hD) | (rw [dPass_d1 h129 h173]; exact hD)) hS ls (lv_sub hl [2, 3, 4, 5, 6, 0] (by rfl))
                      · skip
                        refine lv_aload_n hx hb dX1_searchBesideExtras_132 rfl (lv_at hl 1 rfl) ?_
                        refine lv_iconst (v := nI 2) hx hb dX1_searchBesideExtras_133 (by decide) ?_
                        refine lv_iload hx hb dX1_searchBesideExtras_134 (lv_at hl 6 rfl) ?_
                        refine lv_imul hx hb dX1_searchBesideExtras_136 ?_
                        refine z_topi (v := nI (2 * i)) (pk_mul 2 i) ?_
                        refine lv_iconst (v := nI 1) hx hb dX1_searchBesideExtras_137 (by decide) ?_
                        refine lv_iadd hx hb dX1_searchBesideExtras_138 ?_
                        refine z_topi (v := nI ((2 * i) + 1)) (nI_add (2 * i) 1) ?_
                        refine lv_aload_n hx hb dX1_searchBesideExtras_139 rfl (lv_at hl 3 rfl) ?_
                        refine va_get (D := D) (ci := 2) (v := .ref gt) (C := RX2) (T := TX2) (N := 6) hx hb hts hin2 hown hK hP 5 rfl rfl 1 (by decide) (hts (.fieldLink RX1 46 "TourHouse$Graph" "to" "[I") (by decide +kernel)) (fun _ h9 => h9) rfl dX1_searchBesideExtras_140 ?_
                        refine lv_iload hx hb dX1_searchBesideExtras_143 (lv_at hl 6 rfl) ?_
                        refine z_iald hx hb hK hP 7 0 rfl rfl (k := i) (by omega) (by decide) (v := nI (To i)) rfl dX1_searchBesideExtras_145 ?_
                        refine lv_aload_n hx hb dX1_searchBesideExtras_146 rfl (lv_at hl 3 rfl) ?_
                        refine va_get (D := D) (ci := 2) (v := .ref gf) (C := RX2) (T := TX2) (N := 6) hx hb hts hin2 hown hK hP 5 rfl rfl 0 (by decide) (hts (.fieldLink RX1 43 "TourHouse$Graph" "from" "[I") (by decide +kernel)) (fun _ h9 => h9) rfl dX1_searchBesideExtras_147 ?_
                        refine lv_iload hx hb dX1_searchBesideExtras_150 (lv_at hl 6 rfl) ?_
                        refine z_iald hx hb hK hP 6 0 rfl rfl (k := i) (by omega) (by decide) (v := nI (Fr i)) rfl dX1_searchBesideExtras_152 ?_
                        refine lv_aload_n hx hb dX1_searchBesideExtras_153 rfl (lv_at hl 3 rfl) ?_
                        refine va_get (D := D) (ci := 2) (v := .ref gw) (C := RX2) (T := TX2) (N := 6) hx hb hts hin2 hown hK hP 5 rfl rfl 2 (by decide) (hts (.fieldLink RX1 49 "TourHouse$Graph" "weight" "[I") (by decide +kernel)) (fun _ h9 => h9) rfl dX1_searchBesideExtras_154 ?_
                        refine lv_iload hx hb dX1_searchBesideExtras_157 (lv_at hl 6 rfl) ?_
                        refine z_iald hx hb hK hP 8 0 rfl rfl (k := i) (by omega) (by decide) (v := nI (We i)) rfl dX1_searchBesideExtras_159 ?_
                        refine lv_i2l (v := lZ ((We i : Nat) : Int)) hx hb dX1_searchBesideExtras_160 (nI_l2 (Nat.lt_of_le_of_lt (hW _) (by decide))) ?_
                        refine lv_lload hx hb dX1_searchBesideExtras_161 (lv_at hl 0 rfl) ?_
                        refine z_cWVv (wc := [(ds, .inr (1, [.ref dr, .ref dc, .ref dt, .ref dl, .ref dn, .int (zB ((tS (dPass dir Fr To We X τ i) (2 * i) (Fr i) (To i) ((We i : Nat) : Int) (2 ^ (39 - i))).2.2.2.2))])), (dr, aZ cA 16 (fun j => zB (((tS (dPass dir Fr To We X τ i) (2 * i) (Fr i) (To i) ((We i : Nat) : Int) (2 ^ (39 - i))).1) j))), (dc, aJ cA 16 (fun j => lZ (((tS (dPass dir Fr To We X τ i) (2 * i) (Fr i) (To i) ((We i : Nat) : Int) (2 ^ (39 - i))).2.1) j))), (dt, aJ cA 16 (fun j => lZ (((tS (dPass dir Fr To We X τ i) (2 * i) (Fr i) (To i) ((We i : Nat) : Int) (2 ^ (39 - i))).2.2.1) j))), (dl, aI cA 16 (fun j => nI (((tS (dPass dir Fr To We X τ i) (2 * i) (Fr i) (To i) ((We i : Nat) : Int) (2 ^ (39 - i))).2.2.2.1) j)))]) (rm := ({ frames := 1, cells := 0, slots := 0, locals := 27 } : Room)) (As := [.int (nI ((2 * i) + 1)), .int (nI (To i)), .int (nI (Fr i)), .long (lZ ((We i : Nat) : Int)), .long (lZ (2 ^ (39 - i)))]) (rest := []) (wr := [(g, .inr (2, [.ref gf, .ref gt, .ref gw, .int (zB dir), .int (nI nv), .int (nI me)])), (gf, aI cA 40 (fun j => nI (Fr j))), (gt, aI cA 40 (fun j => nI (To j))), (gw, aI cA 40 (fun j => nI (We j))), (xa, aI cA 40 (fun j => iZ (X j)))]) (w1 := [(ds, .inr (1, [.ref dr, .ref dc, .ref dt, .ref dl, .ref dn, .int (zB ((tS (tS (dPass dir Fr To We X τ i) (2 * i) (Fr i) (To i) ((We i : Nat) : Int) (2 ^ (39 - i))) ((2 * i) + 1) (To i) (Fr i) ((We i : Nat) : Int) (2 ^ (39 - i))).2.2.2.2))])), (dr, aZ cA 16 (fun j => zB (((tS (tS (dPass dir Fr To We X τ i) (2 * i) (Fr i) (To i) ((We i : Nat) : Int) (2 ^ (39 - i))) ((2 * i) + 1) (To i) (Fr i) ((We i : Nat) : Int) (2 ^ (39 - i))).1) j))), (dc, aJ cA 16 (fun j => lZ (((tS (tS (dPass dir Fr To We X τ i) (2 * i) (Fr i) (To i) ((We i : Nat) : Int) (2 ^ (39 - i))) ((2 * i) + 1) (To i) (Fr i) ((We i : Nat) : Int) (2 ^ (39 - i))).2.1) j))), (dt, aJ cA 16 (fun j => lZ (((tS (tS (dPass dir Fr To We X τ i) (2 * i) (Fr i) (To i) ((We i : Nat) : Int) (2 ^ (39 - i))) ((2 * i) + 1) (To i) (Fr i) ((We i : Nat) : Int) (2 ^ (39 - i))).2.2.1) j))), (dl, aI cA 16 (fun j => nI (((tS (tS (dPass dir Fr To We X τ i) (2 * i) (Fr i) (To i) ((We i : Nat) : Int) (2 ^ (39 - i))) ((2 * i) + 1) (To i) (Fr i) ((We i : Nat) : Int) (2 ^ (39 - i))).2.2.2.1) j)))]) (ws' := [(ds, .inr (1, [.ref dr, .ref dc, .ref dt, .ref dl, .ref dn, .int (zB ((tS (tS (dPass dir Fr To We X τ i) (2 * i) (Fr i) (To i) ((We i : Nat) : Int) (2 ^ (39 - i))) ((2 * i) + 1) (To i) (Fr i) ((We i : Nat) : Int) (2 ^ (39 - i))).2.2.2.2))])), (dr, aZ cA 16 (fun j => zB (((tS (tS (dPass dir Fr To We X τ i) (2 * i) (Fr i) (To i) ((We i : Nat) : Int) (2 ^ (39 - i))) ((2 * i) + 1) (To i) (Fr i) ((We i : Nat) : Int) (2 ^ (39 - i))).1) j))), (dc, aJ cA 16 (fun j => lZ (((tS (tS (dPass dir Fr To We X τ i) (2 * i) (Fr i) (To i) ((We i : Nat) : Int) (2 ^ (39 - i))) ((2 * i) + 1) (To i) (Fr i) ((We i : Nat) : Int) (2 ^ (39 - i))).2.1) j))), (dt, aJ cA 16 (fun j => lZ (((tS (tS (dPass dir Fr To We X τ i) (2 * i) (Fr i) (To i) ((We i : Nat) : Int) (2 ^ (39 - i))) ((2 * i) + 1) (To i) (Fr i) ((We i : Nat) : Int) (2 ^ (39 - i))).2.2.1) j))), (dl, aI cA 16 (fun j => nI (((tS (tS (dPass dir Fr To We X τ i) (2 * i) (Fr i) (To i) ((We i : Nat) : Int) (2 ^ (39 - i))) ((2 * i) + 1) (To i) (Fr i) ((We i : Nat) : Int) (2 ^ (39 - i))).2.2.2.1) j))), (g, .inr (2, [.ref gf, .ref gt, .ref gw, .int (zB dir), .int (nI nv), .int (nI me)])), (gf, aI cA 40 (fun j => nI (Fr j))), (gt, aI cA 40 (fun j => nI (To j))), (gw, aI cA 40 (fun j => nI (We j))), (xa, aI cA 40 (fun j => iZ (X j)))]) ⟨hx, hb, hml, hown, hts⟩ (c_X1_tryStep l D cA H.size ds dr dc dt dl dn (tS (dPass dir Fr To We X τ i) (2 * i) (Fr i) (To i) ((We i : Nat) : Int) (2 ^ (39 - i))) ((2 * i) + 1) (To i) (Fr i) ((We i : Nat) : Int) (2 ^ (39 - i)) (80 * ps + 2 * i + 1) (tS_B (hF _) (dPass_B hF hT hW hBt i) (by have := hW i; omega) (pow39 i)) (by omega) (⟨by have := hW i; omega, by have := hW i; omega⟩) (pow39 i) (hT _) (hF _)) (cwV 5 hts gX1_searchBesideExtras_X1_tryStep rfl rfl rfl (by decide +kernel) ⟨Nat.le_of_ble_eq_true rfl, Nat.le_of_ble_eq_true rfl⟩) hP hK hD hS hA [0, 1, 2, 3, 4] [5, 6, 7, 8, 9] [5, 6, 7, 8, 9, 0, 1, 2, 3, 4] rfl rfl rfl rfl rfl (by decide) rfl rfl rfl 1 0 rfl rfl rfl hl.1 rfl (Nat.le_of_ble_eq_true rfl) ⟨Nat.zero_le _, Nat.zero_le _⟩ dX1_searchBesideExtras_163 (fun H locs hP hD hS => ?_)
                        refine lv_goto (tgt := 212) hx hb dX1_searchBesideExtras_166 (by decide) ?_
                        refine lv_iinc (v := nI (i + 1)) (lv' := [(5, .int (nI (i + 1))), (6, .long (lZ (2 ^ (39 - i)))), (0, .ref ds), (1, .int (nI src)), (2, .ref g), (3, .ref xa), (4, .int (nI ps))]) hx hb dX1_searchBesideExtras_212 hl (k := 6) rfl (nI_1 i) (by decide) rfl (fun ls hl => ?_)
                        refine lv_goto (tgt := 75) hx hb dX1_searchBesideExtras_215 (by decide) ?_
                        exact ih75 (i + 1) (by omega) (by omega) _ _ (by first | (rw [dPass_n h129]; exact hP) | (rw [dPass_d0 h129 (by omega)]; exact hP) | (rw [dPass_d1 h129 h173]; exact hP)) (by first | (rw [dPass_n h129]; exact hD) | (rw [dPass_d0 h129 (by omega)]; exact hD) | (rw [dPass_d1 h129 h173]; exact hD)) hS ls (lv_sub hl [2, 3, 4, 5, 6, 0] (by rfl))
                exact J75 ((me - 0) + 1) 0 (by omega) (by omega) _ _ (hP) (hD) hS ls (lv_sub hl [1, 2, 3, 4, 5, 0] (by rfl))
        exact J53 ((16 - 0) + 1) 0 (dInit σ src) (by omega) (dInit_B σ hsrc) rfl (by omega) _ _ (by have q : i = 16 := (by omega); rw [q] at hP; exact hP) (by have q : i = 16 := (by omega); rw [q] at hD; exact hD) hS ls (lv_sub hl [1, 2, 3, 4, 0] (by rfl))
      · skip
        refine lv_aload_n hx hb dX1_searchBesideExtras_10 rfl (lv_at hl 0 rfl) ?_
        refine va_get (D := D) (ci := 1) (v := .ref dr) (C := RX1) (T := TX1) (N := 6) hx hb hts hin1 hown hK hP 0 rfl rfl 0 (by decide) (hts (.fieldLink RX1 9 "TourHouse$Distances" "reached" "[Z") (by decide +kernel)) (fun _ h9 => h9) rfl dX1_searchBesideExtras_11 ?_
        refine lv_iload hx hb dX1_searchBesideExtras_14 (lv_at hl 4 rfl) ?_
        refine lv_iconst (v := zB false) hx hb dX1_searchBesideExtras_16 (by decide) ?_
        refine z_zast hx hb hK hP hD hS 1 2 rfl rfl (k := i) (by omega) (by decide) (f' := (fun j => zB ((clr σ.1 (i + 1)) j))) ((upd_zB _ _ _).trans (by rw [clr_up])) (ws' := [(ds, .inr (1, [.ref dr, .ref dc, .ref dt, .ref dl, .ref dn, .int (zB σ.2.2.2.2)])), (dr, aZ cA 16 (fun j => zB ((clr σ.1 (i + 1)) j))), (dc, aJ cA 16 (fun j => lZ (σ.2.1 j))), (dt, aJ cA 16 (fun j => lZ (σ.2.2.1 j))), (dl, aI cA 16 (fun j => nI (σ.2.2.2.1 j))), (g, .inr (2, [.ref gf, .ref gt, .ref gw, .int (zB dir), .int (nI nv), .int (nI me)])), (gf, aI cA 40 (fun j => nI (Fr j))), (gt, aI cA 40 (fun j => nI (To j))), (gw, aI cA 40 (fun j => nI (We j))), (xa, aI cA 40 (fun j => iZ (X j)))]) rfl dX1_searchBesideExtras_17 (fun H locs hP hD hS => ?_)
        refine lv_iinc (v := nI (i + 1)) (lv' := [(4, .int (nI (i + 1))), (0, .ref ds), (1, .int (nI src)), (2, .ref g), (3, .ref xa)]) hx hb dX1_searchBesideExtras_18 hl (k := 4) rfl (nI_1 i) (by decide) rfl (fun ls hl => ?_)
        refine lv_goto (tgt := 3) hx hb dX1_searchBesideExtras_21 (by decide) ?_
        exact ih3 (i + 1) (by omega) (by omega) _ _ (hP) (hD) hS ls (lv_sub hl [1, 2, 3, 4, 0] (by rfl))
  exact J3 ((16 - 0) + 1) 0 (by omega) (by omega) _ _ (by rw [clr_0]; exact hP) (by rw [clr_0]; exact hD) hS ls (lv_sub hl [1, 2, 3, 4, 0] (by rfl))
set_option maxHeartbeats 4000000 in
set_option maxRecDepth 100000 in
/-- Distances.searchFrom -/
theorem c_X1_searchFrom (l : Launch) (D : va_G) (cA : Nat → ClassId) (sz : Nat) (ds : Nat) (dr : Nat) (dc : Nat) (dt : Nat) (dl : Nat) (dn : Nat) (g : Nat) (gf : Nat) (gt : Nat) (gw : Nat) (Fr : Nat → Nat) (To : Nat → Nat) (We : Nat → Nat) (dir : Bool) (nv : Nat) (me : Nat) (σ : DS) (src : Nat) (hme : me ≤ 40) (hF : ∀ j, Fr j < 16) (hT : ∀ j, To j < 16) (hW : ∀ j, We j ≤ 1000000000) (hsrc : src < 16) : Met l yX1_searchFrom wsX1_searchFrom ({ frames := 3, cells := 0, slots := 0, locals := 85 } : Room) (zWr D vwCl (zT cA) [(ds, .inr (1, [.ref dr, .ref dc, .ref dt, .ref dl, .ref dn, .int (zB σ.2.2.2.2)])), (dr, aZ cA 16 (fun j => zB (σ.1 j))), (dc, aJ cA 16 (fun j => lZ (σ.2.1 j))), (dt, aJ cA 16 (fun j => lZ (σ.2.2.1 j))), (dl, aI cA 16 (fun j => nI (σ.2.2.2.1 j))), (dn, aI cA 40 (fun j => iZ ((fun _ => 0) j))), (g, .inr (2, [.ref gf, .ref gt, .ref gw, .int (zB dir), .int (nI nv), .int (nI me)])), (gf, aI cA 40 (fun j => nI (Fr j))), (gt, aI cA 40 (fun j => nI (To j))), (gw, aI cA 40 (fun j => nI (We j)))] sz [.ref ds, .int (nI src), .ref g]) (zQv D vwCl (zT cA) (va_A [(ds, .inr (1, [.ref dr, .ref dc, .ref dt, .ref dl, .ref dn, .int (zB σ.2.2.2.2)])), (dr, aZ cA 16 (fun j => zB (σ.1 j))), (dc, aJ cA 16 (fun j => lZ (σ.2.1 j))), (dt, aJ cA 16 (fun j => lZ (σ.2.2.1 j))), (dl, aI cA 16 (fun j => nI (σ.2.2.2.1 j))), (dn, aI cA 40 (fun j => iZ ((fun _ => 0) j))), (g, .inr (2, [.ref gf, .ref gt, .ref gw, .int (zB dir), .int (nI nv), .int (nI me)])), (gf, aI cA 40 (fun j => nI (Fr j))), (gt, aI cA 40 (fun j => nI (To j))), (gw, aI cA 40 (fun j => nI (We j)))] sz) [(ds, .inr (1, [.ref dr, .ref dc, .ref dt, .ref dl, .ref dn, .int (zB ((dSearch dir Fr To We (fun _ => 0) me σ src).2.2.2.2))])), (dr, aZ cA 16 (fun j => zB (((dSearch dir Fr To We (fun _ => 0) me σ src).1) j))), (dc, aJ cA 16 (fun j => lZ (((dSearch dir Fr To We (fun _ => 0) me σ src).2.1) j))), (dt, aJ cA 16 (fun j => lZ (((dSearch dir Fr To We (fun _ => 0) me σ src).2.2.1) j))), (dl, aI cA 16 (fun j => nI (((dSearch dir Fr To We (fun _ => 0) me σ src).2.2.2.1) j))), (dn, aI cA 40 (fun j => iZ ((fun _ => 0) j))), (g, .inr (2, [.ref gf, .ref gt, .ref gw, .int (zB dir), .int (nI nv), .int (nI me)])), (gf, aI cA 40 (fun j => nI (Fr j))), (gt, aI cA 40 (fun j => nI (To j))), (gw, aI cA 40 (fun j => nI (We j)))]) 0 0 (va_A [(ds, .inr (1, [.ref dr, .ref dc, .ref dt, .ref dl, .ref dn, .int (zB σ.2.2.2.2)])), (dr, aZ cA 16 (fun j => zB (σ.1 j))), (dc, aJ cA 16 (fun j => lZ (σ.2.1 j))), (dt, aJ cA 16 (fun j => lZ (σ.2.2.1 j))), (dl, aI cA 16 (fun j => nI (σ.2.2.2.1 j))), (dn, aI cA 40 (fun j => iZ ((fun _ => 0) j))), (g, .inr (2, [.ref gf, .ref gt, .ref gw, .int (zB dir), .int (nI nv), .int (nI me)])), (gf, aI cA 40 (fun j => nI (Fr j))), (gt, aI cA 40 (fun j => nI (To j))), (gw, aI cA 40 (fun j => nI (We j)))] sz) := by
  refine z_write (cc := cX1_searchFrom) (maxL := 3) (ret := none) (by decide) rfl (Nat.le_of_ble_eq_true rfl) ?_
  intro p e s m below meth c hx hb hr hml hown hts hlocks A hAe hA H locs hP hK hD hS hini Q hQ ls hl
  have hown : s.vm.findClass RX1 = some m.cls := hown
  have hl : lv_has ls 3 [(0, .ref ds), (1, .int (nI src)), (2, .ref g)] := hl
  generalize hav : ([.ref ds, .int (nI src), .ref g] : List Value).toArray = args at hts hQ ⊢
  have hin1 : ∀ w ∈ wsX10, w ∈ wsX1_searchFrom := by decide +kernel
  refine lv_aload_n hx hb dX1_searchFrom_0 rfl (lv_at hl 0 rfl) ?_
  refine lv_iload_n hx hb dX1_searchFrom_1 rfl (lv_at hl 1 rfl) ?_
  refine lv_aload_n hx hb dX1_searchFrom_2 rfl (lv_at hl 2 rfl) ?_
  refine lv_aload_n hx hb dX1_searchFrom_3 rfl (lv_at hl 0 rfl) ?_
  refine va_get (D := D) (ci := 1) (v := .ref dn) (C := RX1) (T := TX1) (N := 6) hx hb hts hin1 hown hK hP 0 rfl rfl 4 (by decide) (hts (.fieldLink RX1 26 "TourHouse$Distances" "nothingToGiveBack" "[I") (by decide +kernel)) (fun _ h9 => h9) rfl dX1_searchFrom_4 ?_
  refine z_cWVv (wc := [(ds, .inr (1, [.ref dr, .ref dc, .ref dt, .ref dl, .ref dn, .int (zB σ.2.2.2.2)])), (dr, aZ cA 16 (fun j => zB (σ.1 j))), (dc, aJ cA 16 (fun j => lZ (σ.2.1 j))), (dt, aJ cA 16 (fun j => lZ (σ.2.2.1 j))), (dl, aI cA 16 (fun j => nI (σ.2.2.2.1 j))), (g, .inr (2, [.ref gf, .ref gt, .ref gw, .int (zB dir), .int (nI nv), .int (nI me)])), (gf, aI cA 40 (fun j => nI (Fr j))), (gt, aI cA 40 (fun j => nI (To j))), (gw, aI cA 40 (fun j => nI (We j))), (dn, aI cA 40 (fun j => iZ ((fun _ => 0) j)))]) (rm := ({ frames := 2, cells := 0, slots := 0, locals := 58 } : Room)) (As := [.int (nI src), .ref g, .ref dn]) (rest := []) (wr := []) (w1 := [(ds, .inr (1, [.ref dr, .ref dc, .ref dt, .ref dl, .ref dn, .int (zB ((dSearch dir Fr To We (fun _ => 0) me σ src).2.2.2.2))])), (dr, aZ cA 16 (fun j => zB (((dSearch dir Fr To We (fun _ => 0) me σ src).1) j))), (dc, aJ cA 16 (fun j => lZ (((dSearch dir Fr To We (fun _ => 0) me σ src).2.1) j))), (dt, aJ cA 16 (fun j => lZ (((dSearch dir Fr To We (fun _ => 0) me σ src).2.2.1) j))), (dl, aI cA 16 (fun j => nI (((dSearch dir Fr To We (fun _ => 0) me σ src).2.2.2.1) j))), (g, .inr (2, [.ref gf, .ref gt, .ref gw, .int (zB dir), .int (nI nv), .int (nI me)])), (gf, aI cA 40 (fun j => nI (Fr j))), (gt, aI cA 40 (fun j => nI (To j))), (gw, aI cA 40 (fun j => nI (We j))), (dn, aI cA 40 (fun j => iZ ((fun _ => 0) j)))]) (ws' := [(ds, .inr (1, [.ref dr, .ref dc, .ref dt, .ref dl, .ref dn, .int (zB ((dSearch dir Fr To We (fun _ => 0) me σ src).2.2.2.2))])), (dr, aZ cA 16 (fun j => zB (((dSearch dir Fr To We (fun _ => 0) me σ src).1) j))), (dc, aJ cA 16 (fun j => lZ (((dSearch dir Fr To We (fun _ => 0) me σ src).2.1) j))), (dt, aJ cA 16 (fun j => lZ (((dSearch dir Fr To We (fun _ => 0) me σ src).2.2.1) j))), (dl, aI cA 16 (fun j => nI (((dSearch dir Fr To We (fun _ => 0) me σ src).2.2.2.1) j))), (dn, aI cA 40 (fun j => iZ ((fun _ => 0) j))), (g, .inr (2, [.ref gf, .ref gt, .ref gw, .int (zB dir), .int (nI nv), .int (nI me)])), (gf, aI cA 40 (fun j => nI (Fr j))), (gt, aI cA 40 (fun j => nI (To j))), (gw, aI cA 40 (fun j => nI (We j)))]) ⟨hx, hb, hml, hown, hts⟩ (c_X1_searchBesideExtras l D cA H.size ds dr dc dt dl dn g gf gt gw Fr To We dir nv me dn (fun _ => 0) σ src (by first | assumption | omega) (by first | assumption | omega) (by first | assumption | omega) (by first | assumption | omega) (fun _ _ => by decide) (by first | assumption | omega)) (cwV 3 hts gX1_searchFrom_X1_searchBesideExtras rfl rfl rfl (by decide +kernel) ⟨Nat.le_of_ble_eq_true rfl, Nat.le_of_ble_eq_true rfl⟩) hP hK hD hS hA [0, 1, 2, 3, 4, 6, 7, 8, 9, 5] [] [0, 1, 2, 3, 4, 9, 5, 6, 7, 8] rfl rfl rfl rfl rfl (by decide) rfl rfl rfl 1 0 rfl rfl rfl hl.1 rfl (Nat.le_of_ble_eq_true rfl) ⟨Nat.zero_le _, Nat.zero_le _⟩ dX1_searchFrom_7 (fun H locs hP hD hS => ?_)
  exact z_vretW hx hb hr hlocks hAe hQ (hP) hK (hD) hS dX1_searchFrom_10
end
section
def fl (f : Nat → Int) (x : Int) (i : Nat) : Nat → Int := fun j => if j < i then x else f j
theorem fl_0 {f : Nat → Int} {x : Int} : fl f x 0 = f := by funext j; simp [fl]
theorem fl_up {f : Nat → Int} {x : Int} {i : Nat} : va_up (fl f x i) i x = fl f x (i + 1) := by
  funext j
  by_cases e : j = i
  · subst e; rw [up_at]; simp [fl]
  · rw [up_ne e]; simp only [fl]
    by_cases h : j < i
    · rw [if_pos h, if_pos (by omega)]
    · rw [if_neg h, if_neg (by omega)]
/-- the least of the last k of n whose surplus has the sign -/
def bLw (Su : Nat → Int) (sg : Int) (nv : Nat) : Nat → Int
  | 0 => -1
  | k + 1 => if 0 < Su (nv - (k + 1)) * sg then ((nv - (k + 1) : Nat) : Int) else bLw Su sg nv k
/-- a passage back from its end: the extras with it -/
def bAdd (Fr To Ls : Nat → Nat) (src : Nat) : Nat → Nat → (Nat → Int) → (Nat → Int)
  | 0, _, X => X
  | n + 1, a, X => if a = src then X
    else if Ls a % 2 = 0 then bAdd Fr To Ls src n (Fr (Ls a / 2)) (va_up X (Ls a / 2) (X (Ls a / 2) + 1))
    else bAdd Fr To Ls src n (To (Ls a / 2)) (va_up X (Ls a / 2) (X (Ls a / 2) - 1))
set_option maxHeartbeats 4000000 in
set_option maxRecDepth 100000 in
/-- Arrays.fill -/
theorem c_J7_fill_53178 (l : Launch) (D : va_G) (cA : Nat → ClassId) (sz : Nat) (fq : Nat) (fn : Nat) (ff : Nat → Int) (x : Int) (hfn : fn ≤ 65536) : Met l yJ7_fill_53178 wsJ7_fill_53178 ({ frames := 0, cells := 0, slots := 0, locals := 0 } : Room) (zWr D vwCl (zT cA) [(fq, aI cA fn (fun j => iZ (ff j)))] sz [.ref fq, .int (iZ x)]) (zQv D vwCl (zT cA) (va_A [(fq, aI cA fn (fun j => iZ (ff j)))] sz) [(fq, aI cA fn (fun j => iZ ((fl ff x fn) j)))]) 0 0 (va_A [(fq, aI cA fn (fun j => iZ (ff j)))] sz) := by
  refine z_write (cc := cJ7_fill_53178) (maxL := 4) (ret := none) (by decide) rfl (Nat.le_of_ble_eq_true rfl) ?_
  intro p e s m below meth c hx hb hr hml hown hts hlocks A hAe hA H locs hP hK hD hS hini Q hQ ls hl
  have hown : s.vm.findClass RJ7 = some m.cls := hown
  have hl : lv_has ls 4 [(0, .ref fq), (1, .int (iZ x))] := hl
  generalize hav : ([.ref fq, .int (iZ x)] : List Value).toArray = args at hts hQ ⊢
  refine lv_iconst (v := nI 0) hx hb dJ7_fill_53178_0 (by decide) ?_
  refine lv_istore_n (lv' := [(2, .int (nI 0)), (0, .ref fq), (1, .int (iZ x))]) hx hb dJ7_fill_53178_1 rfl hl (by decide) rfl (fun ls hl => ?_)
  refine lv_aload_n hx hb dJ7_fill_53178_2 rfl (lv_at hl 1 rfl) ?_
  refine va_alen hx hb hK hP 0 0 rfl rfl (v := nI fn) rfl dJ7_fill_53178_3 ?_
  refine lv_istore_n (lv' := [(3, .int (nI fn)), (2, .int (nI 0)), (0, .ref fq), (1, .int (iZ x))]) hx hb dJ7_fill_53178_4 rfl hl (by decide) rfl (fun ls hl => ?_)
  have J5 : ∀ (n : Nat), ∀ (i : Nat), (i ≤ fn) → fn - i < n → ∀ (H : Heap) (locs : List Loc), va_P D vwCl [(fq, aI cA fn (fun j => iZ ((fl ff x i) j)))] H → va_D A [(fq, aI cA fn (fun j => iZ ((fl ff x i) j)))] → va_S A s.heap H locs → ∀ (ls : Array Slot), lv_has ls 4 [(0, .ref fq), (1, .int (iZ x)), (2, .int (nI i)), (3, .int (nI fn))] → W p l e ({ frames := 0, cells := 0, slots := 0, locals := 0 } : Room) s m args below meth c H locs 0 0 Q (F0 m 5 ls []) := by
    intro n5
    induction n5 with
    | zero => intro i hi hn; exact absurd hn (Nat.not_lt_zero _)
    | succ n5 ih5 =>
      intro i hi hn5 H locs hP hD hS ls hl
      refine lv_iload_n hx hb dJ7_fill_53178_5 rfl (lv_at hl 2 rfl) ?_
      refine lv_iload_n hx hb dJ7_fill_53178_6 rfl (lv_at hl 3 rfl) ?_
      refine z_ge hx hb (by omega) (by omega) (tgt := 20) dJ7_fill_53178_7 (by decide) (fun h7 => ?_) (fun h7 => ?_)
      · skip
        have q9 : (fun j => iZ ((fl ff x fn) j)) = (fun j => iZ ((fl ff x i) j)) := by rw [show i = fn from by omega]
        have hP : va_P D vwCl [(fq, aI cA fn (fun j => iZ ((fl ff x fn) j)))] H := by rw [q9]; exact hP
        have hD : va_D A [(fq, aI cA fn (fun j => iZ ((fl ff x fn) j)))] := by rw [q9]; exact hD
        exact z_vretW hx hb hr hlocks hAe hQ (hP) hK (hD) hS dJ7_fill_53178_20
      · skip
        refine lv_aload_n hx hb dJ7_fill_53178_10 rfl (lv_at hl 0 rfl) ?_
        refine lv_iload_n hx hb dJ7_fill_53178_11 rfl (lv_at hl 2 rfl) ?_
        refine lv_iload_n hx hb dJ7_fill_53178_12 rfl (lv_at hl 1 rfl) ?_
        refine z_iast hx hb hK hP hD hS 0 0 rfl rfl (k := i) (by omega) (by omega) (f' := (fun j => iZ ((fl ff x (i + 1)) j))) ((upd_iZ _ _ _).trans (by rw [fl_up])) (ws' := [(fq, aI cA fn (fun j => iZ ((fl ff x (i + 1)) j)))]) rfl dJ7_fill_53178_13 (fun H locs hP hD hS => ?_)
        refine lv_iinc (v := nI (i + 1)) (lv' := [(2, .int (nI (i + 1))), (0, .ref fq), (1, .int (iZ x)), (3, .int (nI fn))]) hx hb dJ7_fill_53178_14 hl (k := 2) rfl (nI_1 i) (by decide) rfl (fun ls hl => ?_)
        refine lv_goto (tgt := 5) hx hb dJ7_fill_53178_17 (by decide) ?_
        exact ih5 (i + 1) (by omega) (by omega) _ _ (hP) (hD) hS ls (lv_sub hl [1, 2, 0, 3] (by rfl))
  exact J5 ((fn - 0) + 1) 0 (by omega) (by omega) _ _ (by rw [fl_0]; exact hP) (by rw [fl_0]; exact hD) hS ls (lv_sub hl [2, 3, 1, 0] (by rfl))
set_option maxHeartbeats 4000000 in
set_option maxRecDepth 100000 in
/-- Balancing.leastWithSign -/
theorem c_X0_leastWithSign (l : Launch) (D : va_G) (cA : Nat → ClassId) (bl : Nat) (bs : Nat) (Su : Nat → Int) (sg : Int) (nv : Nat) (hnv : nv ≤ 16) (hSu : ∀ j, -1000 ≤ Su j ∧ Su j ≤ 1000) (hsg : sg = 1 ∨ sg = -1) : Met l yX0_leastWithSign wsX0_leastWithSign ({ frames := 0, cells := 0, slots := 0, locals := 0 } : Room) (zRd D vwCl (zT cA) [(bl, .inr (0, [.ref bs])), (bs, aI cA 16 (fun j => iZ (Su j)))] [.ref bl, .int (iZ sg), .int (nI nv)]) (vp_Si (fun r => r = iZ (bLw Su sg nv nv))) 0 0 (fun _ => False) := by
  refine z_read (cc := cX0_leastWithSign) (maxL := 4) (ret := (some .int)) (by decide) rfl (Nat.le_of_ble_eq_true rfl) ?_
  intro p e s m below meth c hx hb hr hml hown hts hlocks hP hK Q hQ ls hl
  have hown : s.vm.findClass RX0 = some m.cls := hown
  have hl : lv_has ls 4 [(0, .ref bl), (1, .int (iZ sg)), (2, .int (nI nv))] := hl
  generalize hav : ([.ref bl, .int (iZ sg), .int (nI nv)] : List Value).toArray = args at hts hQ ⊢
  have hin0 : ∀ w ∈ wsX00, w ∈ wsX0_leastWithSign := by decide +kernel
  refine lv_iconst (v := nI 0) hx hb dX0_leastWithSign_0 (by decide) ?_
  refine lv_istore_n (lv' := [(3, .int (nI 0)), (0, .ref bl), (1, .int (iZ sg)), (2, .int (nI nv))]) hx hb dX0_leastWithSign_1 rfl hl (by decide) rfl (fun ls hl => ?_)
  have J2 : ∀ (n : Nat), ∀ (i : Nat), (i ≤ nv) → (bLw Su sg nv (nv - i) = bLw Su sg nv nv) → nv - i < n → ∀ (ls : Array Slot), lv_has ls 4 [(0, .ref bl), (1, .int (iZ sg)), (2, .int (nI nv)), (3, .int (nI i))] → W p l e ({ frames := 0, cells := 0, slots := 0, locals := 0 } : Room) s m args below meth c s.heap [] 0 0 Q (F0 m 2 ls []) := by
    intro n2
    induction n2 with
    | zero => intro i hi hq hn; exact absurd hn (Nat.not_lt_zero _)
    | succ n2 ih2 =>
      intro i hi hq hn2 ls hl
      refine lv_iload_n hx hb dX0_leastWithSign_2 rfl (lv_at hl 3 rfl) ?_
      refine lv_iload_n hx hb dX0_leastWithSign_3 rfl (lv_at hl 2 rfl) ?_
      refine z_ge hx hb (by omega) (by omega) (tgt := 26) dX0_leastWithSign_4 (by decide) (fun h4 => ?_) (fun h4 => ?_)
      · skip
        refine lv_iconst (v := iZ (-1)) hx hb dX0_leastWithSign_26 (by decide) ?_
        exact z_iretR hx hb hr hlocks hQ (by rw [← hq, show nv - i = 0 from by omega]; rfl) dX0_leastWithSign_27 rfl rfl
      · skip
        refine lv_aload_n hx hb dX0_leastWithSign_7 rfl (lv_at hl 0 rfl) ?_
        refine va_get (D := D) (ci := 0) (v := .ref bs) (C := RX0) (T := TX0) (N := 1) hx hb hts hin0 hown hK hP 0 rfl rfl 0 (by decide) (hts (.fieldLink RX0 9 "TourHouse$Balancing" "surplus" "[I") (by decide +kernel)) (fun _ h9 => h9) rfl dX0_leastWithSign_8 ?_
        refine lv_iload_n hx hb dX0_leastWithSign_11 rfl (lv_at hl 3 rfl) ?_
        refine z_iald hx hb hK hP 1 0 rfl rfl (k := i) (by omega) (by decide) (v := iZ (Su i)) rfl dX0_leastWithSign_12 ?_
        refine lv_iload_n hx hb dX0_leastWithSign_13 rfl (lv_at hl 1 rfl) ?_
        refine lv_imul hx hb dX0_leastWithSign_14 ?_
        refine z_topi (v := iZ ((Su i) * sg)) (iZ_mul (Su i) sg) ?_
        refine z_ile hx hb (x := (Su i) * sg) (⟨by have := hSu i; rcases hsg with q | q <;> rw [q] <;> omega, by have := hSu i; rcases hsg with q | q <;> rw [q] <;> omega⟩) (tgt := 20) dX0_leastWithSign_15 (by decide) (fun h15 => ?_) (fun h15 => ?_)
        · skip
          refine lv_iinc (v := nI (i + 1)) (lv' := [(3, .int (nI (i + 1))), (0, .ref bl), (1, .int (iZ sg)), (2, .int (nI nv))]) hx hb dX0_leastWithSign_20 hl (k := 3) rfl (nI_1 i) (by decide) rfl (fun ls hl => ?_)
          refine lv_goto (tgt := 2) hx hb dX0_leastWithSign_23 (by decide) ?_
          exact ih2 (i + 1) (by omega) (by rw [← hq, show nv - i = (nv - (i + 1)) + 1 from by omega, bLw, show nv - (nv - (i + 1) + 1) = i from by omega, if_neg (by omega)]) (by omega) ls (lv_sub hl [1, 2, 3, 0] (by rfl))
        · skip
          refine lv_iload_n hx hb dX0_leastWithSign_18 rfl (lv_at hl 3 rfl) ?_
          exact z_iretR hx hb hr hlocks hQ (by rw [← hq, show nv - i = (nv - (i + 1)) + 1 from by omega, bLw, show nv - (nv - (i + 1) + 1) = i from by omega, if_pos h15]; rfl) dX0_leastWithSign_19 rfl rfl
  exact J2 ((nv - 0) + 1) 0 (by omega) rfl (by omega) ls (lv_sub hl [1, 2, 3, 0] (by rfl))
set_option maxHeartbeats 4000000 in
set_option maxRecDepth 100000 in
/-- Balancing.addPassage -/
theorem c_X0_addPassage (l : Launch) (D : va_G) (cA : Nat → ClassId) (sz : Nat) (bl : Nat) (bs : Nat) (ds : Nat) (dr : Nat) (dc : Nat) (dt : Nat) (dl : Nat) (dn : Nat) (g : Nat) (gf : Nat) (gt : Nat) (gw : Nat) (Fr : Nat → Nat) (To : Nat → Nat) (dir : Bool) (nv : Nat) (me : Nat) (xa : Nat) (X : Nat → Int) (σ : DS) (src : Nat) (snk : Nat) (hF : ∀ j, Fr j < 16) (hT : ∀ j, To j < 16) (hL : ∀ j, σ.2.2.2.1 j < 80) (hsrc : src < 16) (hsnk : snk < 16) : Met l yX0_addPassage wsX0_addPassage ({ frames := 0, cells := 0, slots := 0, locals := 0 } : Room) (zWr D vwCl (zT cA) [(bl, .inr (0, [.ref bs])), (ds, .inr (1, [.ref dr, .ref dc, .ref dt, .ref dl, .ref dn, .int (zB σ.2.2.2.2)])), (dl, aI cA 16 (fun j => nI (σ.2.2.2.1 j))), (g, .inr (2, [.ref gf, .ref gt, .ref gw, .int (zB dir), .int (nI nv), .int (nI me)])), (gf, aI cA 40 (fun j => nI (Fr j))), (gt, aI cA 40 (fun j => nI (To j))), (xa, aI cA 40 (fun j => iZ (X j)))] sz [.ref bl, .int (nI src), .int (nI snk), .ref g, .ref ds, .ref xa]) (zQv D vwCl (zT cA) (va_A [(bl, .inr (0, [.ref bs])), (ds, .inr (1, [.ref dr, .ref dc, .ref dt, .ref dl, .ref dn, .int (zB σ.2.2.2.2)])), (dl, aI cA 16 (fun j => nI (σ.2.2.2.1 j))), (g, .inr (2, [.ref gf, .ref gt, .ref gw, .int (zB dir), .int (nI nv), .int (nI me)])), (gf, aI cA 40 (fun j => nI (Fr j))), (gt, aI cA 40 (fun j => nI (To j))), (xa, aI cA 40 (fun j => iZ (X j)))] sz) [(bl, .inr (0, [.ref bs])), (ds, .inr (1, [.ref dr, .ref dc, .ref dt, .ref dl, .ref dn, .int (zB σ.2.2.2.2)])), (dl, aI cA 16 (fun j => nI (σ.2.2.2.1 j))), (g, .inr (2, [.ref gf, .ref gt, .ref gw, .int (zB dir), .int (nI nv), .int (nI me)])), (gf, aI cA 40 (fun j => nI (Fr j))), (gt, aI cA 40 (fun j => nI (To j))), (xa, aI cA 40 (fun j => iZ ((bAdd Fr To σ.2.2.2.1 src 16 snk X) j)))]) 0 0 (va_A [(bl, .inr (0, [.ref bs])), (ds, .inr (1, [.ref dr, .ref dc, .ref dt, .ref dl, .ref dn, .int (zB σ.2.2.2.2)])), (dl, aI cA 16 (fun j => nI (σ.2.2.2.1 j))), (g, .inr (2, [.ref gf, .ref gt, .ref gw, .int (zB dir), .int (nI nv), .int (nI me)])), (gf, aI cA 40 (fun j => nI (Fr j))), (gt, aI cA 40 (fun j => nI (To j))), (xa, aI cA 40 (fun j => iZ (X j)))] sz) := by
  refine z_write (cc := cX0_addPassage) (maxL := 10) (ret := none) (by decide) rfl (Nat.le_of_ble_eq_true rfl) ?_
  intro p e s m below meth c hx hb hr hml hown hts hlocks A hAe hA H locs hP hK hD hS hini Q hQ ls hl
  have hown : s.vm.findClass RX0 = some m.cls := hown
  have hl : lv_has ls 10 [(0, .ref bl), (1, .int (nI src)), (2, .int (nI snk)), (3, .ref g), (4, .ref ds), (5, .ref xa)] := hl
  generalize hav : ([.ref bl, .int (nI src), .int (nI snk), .ref g, .ref ds, .ref xa] : List Value).toArray = args at hts hQ ⊢
  have hin1 : ∀ w ∈ wsX10, w ∈ wsX0_addPassage := by decide +kernel
  have hin2 : ∀ w ∈ wsX20, w ∈ wsX0_addPassage := by decide +kernel
  refine lv_iload_n hx hb dX0_addPassage_0 rfl (lv_at hl 2 rfl) ?_
  refine lv_istore (lv' := [(6, .int (nI snk)), (0, .ref bl), (1, .int (nI src)), (2, .int (nI snk)), (3, .ref g), (4, .ref ds), (5, .ref xa)]) hx hb dX0_addPassage_1 hl (by decide) rfl (fun ls hl => ?_)
  refine lv_iconst (v := nI 0) hx hb dX0_addPassage_3 (by decide) ?_
  refine lv_istore (lv' := [(7, .int (nI 0)), (6, .int (nI snk)), (0, .ref bl), (1, .int (nI src)), (2, .int (nI snk)), (3, .ref g), (4, .ref ds), (5, .ref xa)]) hx hb dX0_addPassage_4 hl (by decide) rfl (fun ls hl => ?_)
  have J6 : ∀ (n : Nat), ∀ (hp : Nat) (at1 : Nat) (Y : Nat → Int), (hp ≤ 16) → (at1 < 16) → (bAdd Fr To σ.2.2.2.1 src (16 - hp) at1 Y = bAdd Fr To σ.2.2.2.1 src 16 snk X) → 16 - hp < n → ∀ (H : Heap) (locs : List Loc), va_P D vwCl [(bl, .inr (0, [.ref bs])), (ds, .inr (1, [.ref dr, .ref dc, .ref dt, .ref dl, .ref dn, .int (zB σ.2.2.2.2)])), (dl, aI cA 16 (fun j => nI (σ.2.2.2.1 j))), (g, .inr (2, [.ref gf, .ref gt, .ref gw, .int (zB dir), .int (nI nv), .int (nI me)])), (gf, aI cA 40 (fun j => nI (Fr j))), (gt, aI cA 40 (fun j => nI (To j))), (xa, aI cA 40 (fun j => iZ (Y j)))] H → va_D A [(bl, .inr (0, [.ref bs])), (ds, .inr (1, [.ref dr, .ref dc, .ref dt, .ref dl, .ref dn, .int (zB σ.2.2.2.2)])), (dl, aI cA 16 (fun j => nI (σ.2.2.2.1 j))), (g, .inr (2, [.ref gf, .ref gt, .ref gw, .int (zB dir), .int (nI nv), .int (nI me)])), (gf, aI cA 40 (fun j => nI (Fr j))), (gt, aI cA 40 (fun j => nI (To j))), (xa, aI cA 40 (fun j => iZ (Y j)))] → va_S A s.heap H locs → ∀ (ls : Array Slot), lv_has ls 10 [(0, .ref bl), (1, .int (nI src)), (2, .int (nI snk)), (3, .ref g), (4, .ref ds), (5, .ref xa), (6, .int (nI at1)), (7, .int (nI hp))] → W p l e ({ frames := 0, cells := 0, slots := 0, locals := 0 } : Room) s m args below meth c H locs 0 0 Q (F0 m 6 ls []) := by
    intro n6
    induction n6 with
    | zero => intro hp at1 Y hhp hat hq hn; exact absurd hn (Nat.not_lt_zero _)
    | succ n6 ih6 =>
      intro hp at1 Y hhp hat hq hn6 H locs hP hD hS ls hl
      refine lv_iload hx hb dX0_addPassage_6 (lv_at hl 7 rfl) ?_
      refine lv_bipush (v := nI 16) hx hb dX0_addPassage_8 (by decide) ?_
      refine z_ge hx hb (by omega) (by decide) (tgt := 87) dX0_addPassage_10 (by decide) (fun h10 => ?_) (fun h10 => ?_)
      · skip
        have q9 : (fun j => iZ ((bAdd Fr To σ.2.2.2.1 src 16 snk X) j)) = (fun j => iZ (Y j)) := by rw [← hq]; first | (rw [show 16 - hp = 0 from by omega]; rfl) | (rw [show 16 - hp = (16 - (hp + 1)) + 1 from by omega, bAdd, if_pos h16])
        have hP : va_P D vwCl [(bl, .inr (0, [.ref bs])), (ds, .inr (1, [.ref dr, .ref dc, .ref dt, .ref dl, .ref dn, .int (zB σ.2.2.2.2)])), (dl, aI cA 16 (fun j => nI (σ.2.2.2.1 j))), (g, .inr (2, [.ref gf, .ref gt, .ref gw, .int (zB dir), .int (nI nv), .int (nI me)])), (gf, aI cA 40 (fun j => nI (Fr j))), (gt, aI cA 40 (fun j => nI (To j))), (xa, aI cA 40 (fun j => iZ ((bAdd Fr To σ.2.2.2.1 src 16 snk X) j)))] H := by rw [q9]; exact hP
        have hD : va_D A [(bl, .inr (0, [.ref bs])), (ds, .inr (1, [.ref dr, .ref dc, .ref dt, .ref dl, .ref dn, .int (zB σ.2.2.2.2)])), (dl, aI cA 16 (fun j => nI (σ.2.2.2.1 j))), (g, .inr (2, [.ref gf, .ref gt, .ref gw, .int (zB dir), .int (nI nv), .int (nI me)])), (gf, aI cA 40 (fun j => nI (Fr j))), (gt, aI cA 40 (fun j => nI (To j))), (xa, aI cA 40 (fun j => iZ ((bAdd Fr To σ.2.2.2.1 src 16 snk X) j)))] := by rw [q9]; exact hD
        exact z_vretW hx hb hr hlocks hAe hQ (hP) hK (hD) hS dX0_addPassage_87
      · skip
        refine lv_iload hx hb dX0_addPassage_13 (lv_at hl 6 rfl) ?_
        refine lv_iload_n hx hb dX0_addPassage_15 rfl (lv_at hl 1 rfl) ?_
        refine z_eq hx hb (by omega) (by omega) (tgt := 87) dX0_addPassage_16 (by decide) (fun h16 => ?_) (fun h16 => ?_)
        · skip
          have q9 : (fun j => iZ ((bAdd Fr To σ.2.2.2.1 src 16 snk X) j)) = (fun j => iZ (Y j)) := by rw [← hq]; first | (rw [show 16 - hp = 0 from by omega]; rfl) | (rw [show 16 - hp = (16 - (hp + 1)) + 1 from by omega, bAdd, if_pos h16])
          have hP : va_P D vwCl [(bl, .inr (0, [.ref bs])), (ds, .inr (1, [.ref dr, .ref dc, .ref dt, .ref dl, .ref dn, .int (zB σ.2.2.2.2)])), (dl, aI cA 16 (fun j => nI (σ.2.2.2.1 j))), (g, .inr (2, [.ref gf, .ref gt, .ref gw, .int (zB dir), .int (nI nv), .int (nI me)])), (gf, aI cA 40 (fun j => nI (Fr j))), (gt, aI cA 40 (fun j => nI (To j))), (xa, aI cA 40 (fun j => iZ ((bAdd Fr To σ.2.2.2.1 src 16 snk X) j)))] H := by rw [q9]; exact hP
          have hD : va_D A [(bl, .inr (0, [.ref bs])), (ds, .inr (1, [.ref dr, .ref dc, .ref dt, .ref dl, .ref dn, .int (zB σ.2.2.2.2)])), (dl, aI cA 16 (fun j => nI (σ.2.2.2.1 j))), (g, .inr (2, [.ref gf, .ref gt, .ref gw, .int (zB dir), .int (nI nv), .int (nI me)])), (gf, aI cA 40 (fun j => nI (Fr j))), (gt, aI cA 40 (fun j => nI (To j))), (xa, aI cA 40 (fun j => iZ ((bAdd Fr To σ.2.2.2.1 src 16 snk X) j)))] := by rw [q9]; exact hD
          exact z_vretW hx hb hr hlocks hAe hQ (hP) hK (hD) hS dX0_addPassage_87
        · skip
          refine lv_aload hx hb dX0_addPassage_19 (lv_at hl 4 rfl) ?_
          refine va_get (D := D) (ci := 1) (v := .ref dl) (C := RX1) (T := TX1) (N := 6) hx hb hts hin1 hown hK hP 1 rfl rfl 3 (by decide) (hts (.fieldLink RX0 45 "TourHouse$Distances" "lastStep" "[I") (by decide +kernel)) (fun _ h9 => h9) rfl dX0_addPassage_21 ?_
          refine lv_iload hx hb dX0_addPassage_24 (lv_at hl 6 rfl) ?_
          refine z_iald hx hb hK hP 2 0 rfl rfl (k := at1) (by omega) (by decide) (v := nI (σ.2.2.2.1 at1)) rfl dX0_addPassage_26 ?_
          refine lv_istore (lv' := [(8, .int (nI (σ.2.2.2.1 at1))), (0, .ref bl), (1, .int (nI src)), (2, .int (nI snk)), (3, .ref g), (4, .ref ds), (5, .ref xa), (6, .int (nI at1)), (7, .int (nI hp))]) hx hb dX0_addPassage_27 hl (by decide) rfl (fun ls hl => ?_)
          refine lv_iload hx hb dX0_addPassage_29 (lv_at hl 0 rfl) ?_
          refine lv_iconst (v := nI 1) hx hb dX0_addPassage_31 (by decide) ?_
          refine lv_ishr hx hb dX0_addPassage_32 ?_
          refine z_topi (v := nI ((σ.2.2.2.1 at1) / 2)) (nb_hlf (Nat.lt_trans (hL _) (by decide))) ?_
          refine lv_istore (lv' := [(9, .int (nI ((σ.2.2.2.1 at1) / 2))), (8, .int (nI (σ.2.2.2.1 at1))), (0, .ref bl), (1, .int (nI src)), (2, .int (nI snk)), (3, .ref g), (4, .ref ds), (5, .ref xa), (6, .int (nI at1)), (7, .int (nI hp))]) hx hb dX0_addPassage_33 hl (by decide) rfl (fun ls hl => ?_)
          refine lv_iload hx hb dX0_addPassage_35 (lv_at hl 1 rfl) ?_
          refine lv_iconst (v := nI 1) hx hb dX0_addPassage_37 (by decide) ?_
          refine lv_iand hx hb dX0_addPassage_38 ?_
          refine z_topi (v := nI ((σ.2.2.2.1 at1) % 2)) (nb_and1 (σ.2.2.2.1 at1)) ?_
          refine z_nne hx hb (by omega) (tgt := 63) dX0_addPassage_39 (by decide) (fun h39 => ?_) (fun h39 => ?_)
          · skip
            refine lv_aload hx hb dX0_addPassage_63 (lv_at hl 7 rfl) ?_
            refine lv_iload hx hb dX0_addPassage_65 (lv_at hl 0 rfl) ?_
            refine lv_dup2_11 hx hb dX0_addPassage_67 rfl rfl ?_
            refine z_iald hx hb hK hP 6 0 rfl rfl (k := ((σ.2.2.2.1 at1) / 2)) (by have := hL at1; omega) (by decide) (v := iZ (Y ((σ.2.2.2.1 at1) / 2))) rfl dX0_addPassage_68 ?_
            refine lv_iconst (v := nI 1) hx hb dX0_addPassage_69 (by decide) ?_
            refine lv_isub hx hb dX0_addPassage_70 ?_
            refine z_topi (v := iZ ((Y ((σ.2.2.2.1 at1) / 2)) - 1)) (iZ_sub (Y ((σ.2.2.2.1 at1) / 2)) 1) ?_
            refine z_iast hx hb hK hP hD hS 6 0 rfl rfl (k := ((σ.2.2.2.1 at1) / 2)) (by have := hL at1; omega) (by decide) (f' := (fun j => iZ ((va_up Y ((σ.2.2.2.1 at1) / 2) ((Y ((σ.2.2.2.1 at1) / 2)) - 1)) j))) (upd_iZ _ _ _) (ws' := [(bl, .inr (0, [.ref bs])), (ds, .inr (1, [.ref dr, .ref dc, .ref dt, .ref dl, .ref dn, .int (zB σ.2.2.2.2)])), (dl, aI cA 16 (fun j => nI (σ.2.2.2.1 j))), (g, .inr (2, [.ref gf, .ref gt, .ref gw, .int (zB dir), .int (nI nv), .int (nI me)])), (gf, aI cA 40 (fun j => nI (Fr j))), (gt, aI cA 40 (fun j => nI (To j))), (xa, aI cA 40 (fun j => iZ ((va_up Y ((σ.2.2.2.1 at1) / 2) ((Y ((σ.2.2.2.1 at1) / 2)) - 1)) j)))]) rfl dX0_addPassage_71 (fun H locs hP hD hS => ?_)
            refine lv_aload_n hx hb dX0_addPassage_72 rfl (lv_at hl 5 rfl) ?_
            refine va_get (D := D) (ci := 2) (v := .ref gt) (C := RX2) (T := TX2) (N := 6) hx hb hts hin2 hown hK hP 3 rfl rfl 1 (by decide) (hts (.fieldLink RX0 51 "TourHouse$Graph" "to" "[I") (by decide +kernel)) (fun _ h9 => h9) rfl dX0_addPassage_73 ?_
            refine lv_iload hx hb dX0_addPassage_76 (lv_at hl 0 rfl) ?_
            refine z_iald hx hb hK hP 5 0 rfl rfl (k := ((σ.2.2.2.1 at1) / 2)) (by have := hL at1; omega) (by decide) (v := nI (To ((σ.2.2.2.1 at1) / 2))) rfl dX0_addPassage_78 ?_
            refine lv_istore (lv' := [(6, .int (nI (To ((σ.2.2.2.1 at1) / 2)))), (9, .int (nI ((σ.2.2.2.1 at1) / 2))), (8, .int (nI (σ.2.2.2.1 at1))), (0, .ref bl), (1, .int (nI src)), (2, .int (nI snk)), (3, .ref g), (4, .ref ds), (5, .ref xa), (7, .int (nI hp))]) hx hb dX0_addPassage_79 hl (by decide) rfl (fun ls hl => ?_)
            refine lv_iinc (v := nI (hp + 1)) (lv' := [(7, .int (nI (hp + 1))), (6, .int (nI (To ((σ.2.2.2.1 at1) / 2)))), (9, .int (nI ((σ.2.2.2.1 at1) / 2))), (8, .int (nI (σ.2.2.2.1 at1))), (0, .ref bl), (1, .int (nI src)), (2, .int (nI snk)), (3, .ref g), (4, .ref ds), (5, .ref xa)]) hx hb dX0_addPassage_81 hl (k := 9) rfl (nI_1 hp) (by decide) rfl (fun ls hl => ?_)
            refine lv_goto (tgt := 6) hx hb dX0_addPassage_84 (by decide) ?_
            exact ih6 (hp + 1) (To ((σ.2.2.2.1 at1) / 2)) (va_up Y ((σ.2.2.2.1 at1) / 2) ((Y ((σ.2.2.2.1 at1) / 2)) - 1)) (by omega) (by first | exact hF _ | exact hT _) (by rw [← hq, show 16 - hp = (16 - (hp + 1)) + 1 from by omega, bAdd, if_neg h16]; first | rw [if_pos h39] | rw [if_neg h39]) (by omega) _ _ (hP) (hD) hS ls (lv_sub hl [4, 5, 6, 7, 8, 9, 1, 0] (by rfl))
          · skip
            refine lv_aload hx hb dX0_addPassage_42 (lv_at hl 7 rfl) ?_
            refine lv_iload hx hb dX0_addPassage_44 (lv_at hl 0 rfl) ?_
            refine lv_dup2_11 hx hb dX0_addPassage_46 rfl rfl ?_
            refine z_iald hx hb hK hP 6 0 rfl rfl (k := ((σ.2.2.2.1 at1) / 2)) (by have := hL at1; omega) (by decide) (v := iZ (Y ((σ.2.2.2.1 at1) / 2))) rfl dX0_addPassage_47 ?_
            refine lv_iconst (v := nI 1) hx hb dX0_addPassage_48 (by decide) ?_
            refine lv_iadd hx hb dX0_addPassage_49 ?_
            refine z_topi (v := iZ ((Y ((σ.2.2.2.1 at1) / 2)) + 1)) (iZ_add (Y ((σ.2.2.2.1 at1) / 2)) 1) ?_
            refine z_iast hx hb hK hP hD hS 6 0 rfl rfl (k := ((σ.2.2.2.1 at1) / 2)) (by have := hL at1; omega) (by decide) (f' := (fun j => iZ ((va_up Y ((σ.2.2.2.1 at1) / 2) ((Y ((σ.2.2.2.1 at1) / 2)) + 1)) j))) (upd_iZ _ _ _) (ws' := [(bl, .inr (0, [.ref bs])), (ds, .inr (1, [.ref dr, .ref dc, .ref dt, .ref dl, .ref dn, .int (zB σ.2.2.2.2)])), (dl, aI cA 16 (fun j => nI (σ.2.2.2.1 j))), (g, .inr (2, [.ref gf, .ref gt, .ref gw, .int (zB dir), .int (nI nv), .int (nI me)])), (gf, aI cA 40 (fun j => nI (Fr j))), (gt, aI cA 40 (fun j => nI (To j))), (xa, aI cA 40 (fun j => iZ ((va_up Y ((σ.2.2.2.1 at1) / 2) ((Y ((σ.2.2.2.1 at1) / 2)) + 1)) j)))]) rfl dX0_addPassage_50 (fun H locs hP hD hS => ?_)
            refine lv_aload_n hx hb dX0_addPassage_51 rfl (lv_at hl 5 rfl) ?_
            refine va_get (D := D) (ci := 2) (v := .ref gf) (C := RX2) (T := TX2) (N := 6) hx hb hts hin2 hown hK hP 3 rfl rfl 0 (by decide) (hts (.fieldLink RX0 48 "TourHouse$Graph" "from" "[I") (by decide +kernel)) (fun _ h9 => h9) rfl dX0_addPassage_52 ?_
            refine lv_iload hx hb dX0_addPassage_55 (lv_at hl 0 rfl) ?_
            refine z_iald hx hb hK hP 4 0 rfl rfl (k := ((σ.2.2.2.1 at1) / 2)) (by have := hL at1; omega) (by decide) (v := nI (Fr ((σ.2.2.2.1 at1) / 2))) rfl dX0_addPassage_57 ?_
            refine lv_istore (lv' := [(6, .int (nI (Fr ((σ.2.2.2.1 at1) / 2)))), (9, .int (nI ((σ.2.2.2.1 at1) / 2))), (8, .int (nI (σ.2.2.2.1 at1))), (0, .ref bl), (1, .int (nI src)), (2, .int (nI snk)), (3, .ref g), (4, .ref ds), (5, .ref xa), (7, .int (nI hp))]) hx hb dX0_addPassage_58 hl (by decide) rfl (fun ls hl => ?_)
            refine lv_goto (tgt := 81) hx hb dX0_addPassage_60 (by decide) ?_
            refine lv_iinc (v := nI (hp + 1)) (lv' := [(7, .int (nI (hp + 1))), (6, .int (nI (Fr ((σ.2.2.2.1 at1) / 2)))), (9, .int (nI ((σ.2.2.2.1 at1) / 2))), (8, .int (nI (σ.2.2.2.1 at1))), (0, .ref bl), (1, .int (nI src)), (2, .int (nI snk)), (3, .ref g), (4, .ref ds), (5, .ref xa)]) hx hb dX0_addPassage_81 hl (k := 9) rfl (nI_1 hp) (by decide) rfl (fun ls hl => ?_)
            refine lv_goto (tgt := 6) hx hb dX0_addPassage_84 (by decide) ?_
            exact ih6 (hp + 1) (Fr ((σ.2.2.2.1 at1) / 2)) (va_up Y ((σ.2.2.2.1 at1) / 2) ((Y ((σ.2.2.2.1 at1) / 2)) + 1)) (by omega) (by first | exact hF _ | exact hT _) (by rw [← hq, show 16 - hp = (16 - (hp + 1)) + 1 from by omega, bAdd, if_neg h16]; first | rw [if_pos h39] | rw [if_neg h39]) (by omega) _ _ (hP) (hD) hS ls (lv_sub hl [4, 5, 6, 7, 8, 9, 1, 0] (by rfl))
  exact J6 ((16 - 0) + 1) 0 snk X (by omega) (by omega) rfl (by omega) _ _ (hP) (hD) hS ls (lv_sub hl [2, 3, 4, 5, 6, 7, 1, 0] (by rfl))
end
section
/-- extras, surplus, Distances -/
abbrev BS : Type := (Nat → Int) × (Nat → Int) × DS
def bFill (Fr To : Nat → Nat) (me : Nat) (Su : Nat → Int) (i : Nat) : Nat → Int := fun j => if j < i then gSur Fr To j me else Su j
def bStep (dir : Bool) (Fr To We : Nat → Nat) (nv me : Nat) (β : BS) : BS :=
  (bAdd Fr To (dSearch dir Fr To We β.1 me β.2.2 (bLw β.2.1 1 nv nv).toNat).2.2.2.1 (bLw β.2.1 1 nv nv).toNat 16 (bLw β.2.1 (-1) nv nv).toNat β.1,
   va_up (va_up β.2.1 (bLw β.2.1 1 nv nv).toNat (β.2.1 (bLw β.2.1 1 nv nv).toNat - 1)) (bLw β.2.1 (-1) nv nv).toNat ((va_up β.2.1 (bLw β.2.1 1 nv nv).toNat (β.2.1 (bLw β.2.1 1 nv nv).toNat - 1)) (bLw β.2.1 (-1) nv nv).toNat + 1),
   dSearch dir Fr To We β.1 me β.2.2 (bLw β.2.1 1 nv nv).toNat)
def bLoop (dir : Bool) (Fr To We : Nat → Nat) (nv me : Nat) : Nat → BS → BS
  | 0, β => β
  | n + 1, β => if bLw β.2.1 1 nv nv < 0 ∨ bLw β.2.1 (-1) nv nv < 0 then β else bLoop dir Fr To We nv me n (bStep dir Fr To We nv me β)
def bFind (dir : Bool) (Fr To We : Nat → Nat) (nv me : Nat) (X Su : Nat → Int) (σ : DS) : BS := bLoop dir Fr To We nv me 40 (fl X 0 40, bFill Fr To me Su nv, σ)
theorem bFill_0 {Fr To : Nat → Nat} {me : Nat} {Su : Nat → Int} : bFill Fr To me Su 0 = Su := by funext j; simp [bFill]
theorem bFill_up {Fr To : Nat → Nat} {me i : Nat} {Su : Nat → Int} : va_up (bFill Fr To me Su i) i (gSur Fr To i me) = bFill Fr To me Su (i + 1) := by
  funext j
  by_cases e : j = i
  · subst e; rw [up_at]; simp [bFill]
  · rw [up_ne e]; simp only [bFill]
    by_cases h : j < i
    · rw [if_pos h, if_pos (by omega)]
    · rw [if_neg h, if_neg (by omega)]
theorem bFill_in (Fr To : Nat → Nat) (me : Nat) (Su : Nat → Int) {i j : Nat} (h : j < i) : bFill Fr To me Su i j = gSur Fr To j me := by rw [bFill, if_pos h]
theorem bFill_b (Fr To : Nat → Nat) {me : Nat} {Su : Nat → Int} (hS : ∀ j, -80 ≤ Su j ∧ Su j ≤ 80) (hme : me ≤ 40) (i j : Nat) : -80 ≤ bFill Fr To me Su i j ∧ bFill Fr To me Su i j ≤ 80 := by
  unfold bFill; split
  · have := gSur_rng Fr To j me; omega
  · exact hS j
theorem bLw_rng {Su : Nat → Int} {sg : Int} {nv : Nat} : ∀ {k : Nat}, k ≤ nv → -1 ≤ bLw Su sg nv k ∧ bLw Su sg nv k < nv + 0 ∨ bLw Su sg nv k = -1
  | 0, _ => Or.inr rfl
  | k + 1, h => by
    rw [bLw]; split
    · left; omega
    · exact bLw_rng (by omega)
theorem bAdd_b {Fr To Ls : Nat → Nat} {src : Nat} : ∀ (n a : Nat) (X : Nat → Int) (B : Int), (∀ j, j < 40 → -B ≤ X j ∧ X j ≤ B) → ∀ j, j < 40 → -(B + n) ≤ bAdd Fr To Ls src n a X j ∧ bAdd Fr To Ls src n a X j ≤ B + n
  | 0, _, X, B, h, j, hj => by rw [bAdd]; have := h j hj; omega
  | n + 1, a, X, B, h, j, hj => by
    have hB : 0 ≤ B := by have := h 0 (by decide); omega
    rw [bAdd]; split
    · have := h j hj; omega
    · have key : ∀ (e : Nat) (d : Int), (d = 1 ∨ d = -1) → ∀ j, j < 40 → -(B + 1) ≤ va_up X e (X e + d) j ∧ va_up X e (X e + d) j ≤ B + 1 := by
        intro e d hd j hj
        by_cases q : j = e
        · subst q; rw [up_at]; have := h j hj; omega
        · rw [up_ne q]; have := h j hj; omega
      split
      · have := bAdd_b (Fr := Fr) (To := To) (Ls := Ls) (src := src) n (Fr (Ls a / 2)) _ (B + 1) (key (Ls a / 2) 1 (Or.inl rfl)) j hj
        omega
      · have := bAdd_b (Fr := Fr) (To := To) (Ls := Ls) (src := src) n (To (Ls a / 2)) _ (B + 1) (key (Ls a / 2) (-1) (Or.inr rfl)) j hj
        rw [show X (Ls a / 2) + -1 = X (Ls a / 2) - 1 from rfl] at this
        omega
theorem tS_L {σ : DS} {st a b : Nat} {c t : Int} (hs : st < 80) (hL : ∀ j, σ.2.2.2.1 j < 80) : ∀ j, (tS σ st a b c t).2.2.2.1 j < 80 := by
  intro j
  unfold tS
  split
  · split
    · show va_up σ.2.2.2.1 b st j < 80
      by_cases q : j = b
      · subst q; rw [up_at]; exact hs
      · rw [up_ne q]; exact hL j
    · exact hL j
  · exact hL j
theorem dPass_L {dir : Bool} {Fr To We : Nat → Nat} {X : Nat → Int} {τ : DS} (hL : ∀ j, τ.2.2.2.1 j < 80) : ∀ k : Nat, k ≤ 40 → ∀ j, (dPass dir Fr To We X τ k).2.2.2.1 j < 80
  | 0, _ => hL
  | k + 1, hk => by
    have ih := dPass_L (dir := dir) (Fr := Fr) (To := To) (We := We) (X := X) hL k (by omega)
    rw [dPass]
    split
    · exact tS_L (by omega) (tS_L (by omega) ih)
    · split
      · exact tS_L (by omega) (tS_L (by omega) ih)
      · exact tS_L (by omega) ih
theorem dLoop_L {dir : Bool} {Fr To We : Nat → Nat} {X : Nat → Int} {me : Nat} (hme : me ≤ 40) : ∀ (n : Nat) {τ : DS}, (∀ j, τ.2.2.2.1 j < 80) → ∀ j, (dLoop dir Fr To We X me n τ).2.2.2.1 j < 80
  | 0, _, h => h
  | n + 1, τ, h => by
    rw [dLoop]; split
    · exact h
    · exact dLoop_L hme n (dPass_L h me hme)
theorem dSearch_L {dir : Bool} {Fr To We : Nat → Nat} {X : Nat → Int} {me : Nat} {σ : DS} {src : Nat} (hme : me ≤ 40) (hL : ∀ j, σ.2.2.2.1 j < 80) : ∀ j, (dSearch dir Fr To We X me σ src).2.2.2.1 j < 80 :=
  dLoop_L hme 16 (τ := dInit σ src) hL
section
variable {dir : Bool} {Fr To We : Nat → Nat} {nv me k : Nat} {β : BS}
theorem bStep_X (hX : ∀ j, j < 40 → -(16 * k : Int) ≤ β.1 j ∧ β.1 j ≤ 16 * k) : ∀ j, j < 40 → -(16 * (k + 1 : Nat) : Int) ≤ (bStep dir Fr To We nv me β).1 j ∧ (bStep dir Fr To We nv me β).1 j ≤ 16 * (k + 1 : Nat) := by
  intro j hj
  have := bAdd_b (Fr := Fr) (To := To) (Ls := (dSearch dir Fr To We β.1 me β.2.2 (bLw β.2.1 1 nv nv).toNat).2.2.2.1) (src := (bLw β.2.1 1 nv nv).toNat) 16 (bLw β.2.1 (-1) nv nv).toNat β.1 (16 * k) hX j hj
  show _ ≤ bAdd _ _ _ _ _ _ _ _ ∧ bAdd _ _ _ _ _ _ _ _ ≤ _
  omega
theorem up2_b {S : Nat → Int} {a b : Nat} {B : Int} (j : Nat) (h : ∀ i, (i = a ∨ i = b ∨ i = j) → -B ≤ S i ∧ S i ≤ B) : -(B + 1) ≤ va_up (va_up S a (S a - 1)) b ((va_up S a (S a - 1)) b + 1) j ∧ va_up (va_up S a (S a - 1)) b ((va_up S a (S a - 1)) b + 1) j ≤ B + 1 := by
  by_cases q : j = b
  · subst q; rw [up_at]
    by_cases r : j = a
    · subst r; rw [up_at]; have := h j (Or.inl rfl); omega
    · rw [up_ne r]; have := h j (Or.inr (Or.inl rfl)); omega
  · rw [up_ne q]
    by_cases r : j = a
    · subst r; rw [up_at]; have := h j (Or.inl rfl); omega
    · rw [up_ne r]; have := h j (Or.inr (Or.inr rfl)); omega
theorem bStep_S1 (h1 : 0 ≤ bLw β.2.1 1 nv nv) (h2 : 0 ≤ bLw β.2.1 (-1) nv nv) (hS : ∀ j, j < nv → -(40 + k : Int) ≤ β.2.1 j ∧ β.2.1 j ≤ 40 + k) : ∀ j, j < nv → -(40 + (k + 1 : Nat) : Int) ≤ (bStep dir Fr To We nv me β).2.1 j ∧ (bStep dir Fr To We nv me β).2.1 j ≤ 40 + (k + 1 : Nat) := by
  intro j hj
  have r1 := bLw_rng (Su := β.2.1) (sg := 1) (nv := nv) (Nat.le_refl nv)
  have r2 := bLw_rng (Su := β.2.1) (sg := -1) (nv := nv) (Nat.le_refl nv)
  have := up2_b (S := β.2.1) (a := (bLw β.2.1 1 nv nv).toNat) (b := (bLw β.2.1 (-1) nv nv).toNat) (B := 40 + k) j (fun i hi => hS i (by omega))
  show _ ≤ va_up _ _ _ _ ∧ va_up _ _ _ _ ≤ _
  omega
theorem bStep_S2 (hk : k < 40) (h1 : 0 ≤ bLw β.2.1 1 nv nv) (h2 : 0 ≤ bLw β.2.1 (-1) nv nv) (hS : ∀ j, j < nv → -(40 + k : Int) ≤ β.2.1 j ∧ β.2.1 j ≤ 40 + k) (hT : ∀ j, -80 ≤ β.2.1 j ∧ β.2.1 j ≤ 80) : ∀ j, -80 ≤ (bStep dir Fr To We nv me β).2.1 j ∧ (bStep dir Fr To We nv me β).2.1 j ≤ 80 := by
  intro j
  have r1 := bLw_rng (Su := β.2.1) (sg := 1) (nv := nv) (Nat.le_refl nv)
  have r2 := bLw_rng (Su := β.2.1) (sg := -1) (nv := nv) (Nat.le_refl nv)
  by_cases hj : j < nv
  · have := bStep_S1 (dir := dir) (Fr := Fr) (To := To) (We := We) (me := me) h1 h2 hS j hj
    omega
  · have e1 : j ≠ (bLw β.2.1 1 nv nv).toNat := by omega
    have e2 : j ≠ (bLw β.2.1 (-1) nv nv).toNat := by omega
    show _ ≤ va_up _ _ _ _ ∧ va_up _ _ _ _ ≤ _
    rw [up_ne e2, up_ne e1]
    exact hT j
theorem bStep_L (hme : me ≤ 40) (hL : ∀ j, β.2.2.2.2.2.1 j < 80) : ∀ j, (bStep dir Fr To We nv me β).2.2.2.2.2.1 j < 80 := dSearch_L hme hL
end
set_option maxHeartbeats 4000000 in
set_option maxRecDepth 100000 in
/-- Balancing.find -/
theorem c_X0_find (l : Launch) (D : va_G) (cA : Nat → ClassId) (sz : Nat) (bl : Nat) (bs : Nat) (ds : Nat) (dr : Nat) (dc : Nat) (dt : Nat) (dl : Nat) (dn : Nat) (g : Nat) (gf : Nat) (gt : Nat) (gw : Nat) (Fr : Nat → Nat) (To : Nat → Nat) (We : Nat → Nat) (dir : Bool) (nv : Nat) (me : Nat) (xa : Nat) (X : Nat → Int) (Su : Nat → Int) (σ : DS) (hme : me ≤ 40) (hF : ∀ j, Fr j < 16) (hT : ∀ j, To j < 16) (hnv : nv ≤ 16) (hW : ∀ j, We j ≤ 1000000000) (hSu : ∀ j, -80 ≤ Su j ∧ Su j ≤ 80) (hL : ∀ j, σ.2.2.2.1 j < 80) : Met l yX0_find wsX0_find ({ frames := 3, cells := 0, slots := 0, locals := 85 } : Room) (zWr D vwCl (zT cA) [(bl, .inr (0, [.ref bs])), (bs, aI cA 16 (fun j => iZ (Su j))), (ds, .inr (1, [.ref dr, .ref dc, .ref dt, .ref dl, .ref dn, .int (zB σ.2.2.2.2)])), (dr, aZ cA 16 (fun j => zB (σ.1 j))), (dc, aJ cA 16 (fun j => lZ (σ.2.1 j))), (dt, aJ cA 16 (fun j => lZ (σ.2.2.1 j))), (dl, aI cA 16 (fun j => nI (σ.2.2.2.1 j))), (g, .inr (2, [.ref gf, .ref gt, .ref gw, .int (zB dir), .int (nI nv), .int (nI me)])), (gf, aI cA 40 (fun j => nI (Fr j))), (gt, aI cA 40 (fun j => nI (To j))), (gw, aI cA 40 (fun j => nI (We j))), (xa, aI cA 40 (fun j => iZ (X j)))] sz [.ref bl, .ref g, .ref ds, .ref xa]) (zQv D vwCl (zT cA) (va_A [(bl, .inr (0, [.ref bs])), (bs, aI cA 16 (fun j => iZ (Su j))), (ds, .inr (1, [.ref dr, .ref dc, .ref dt, .ref dl, .ref dn, .int (zB σ.2.2.2.2)])), (dr, aZ cA 16 (fun j => zB (σ.1 j))), (dc, aJ cA 16 (fun j => lZ (σ.2.1 j))), (dt, aJ cA 16 (fun j => lZ (σ.2.2.1 j))), (dl, aI cA 16 (fun j => nI (σ.2.2.2.1 j))), (g, .inr (2, [.ref gf, .ref gt, .ref gw, .int (zB dir), .int (nI nv), .int (nI me)])), (gf, aI cA 40 (fun j => nI (Fr j))), (gt, aI cA 40 (fun j => nI (To j))), (gw, aI cA 40 (fun j => nI (We j))), (xa, aI cA 40 (fun j => iZ (X j)))] sz) [(bl, .inr (0, [.ref bs])), (bs, aI cA 16 (fun j => iZ (((bFind dir Fr To We nv me X Su σ).2.1) j))), (ds, .inr (1, [.ref dr, .ref dc, .ref dt, .ref dl, .ref dn, .int (zB (((bFind dir Fr To We nv me X Su σ).2.2).2.2.2.2))])), (dr, aZ cA 16 (fun j => zB ((((bFind dir Fr To We nv me X Su σ).2.2).1) j))), (dc, aJ cA 16 (fun j => lZ ((((bFind dir Fr To We nv me X Su σ).2.2).2.1) j))), (dt, aJ cA 16 (fun j => lZ ((((bFind dir Fr To We nv me X Su σ).2.2).2.2.1) j))), (dl, aI cA 16 (fun j => nI ((((bFind dir Fr To We nv me X Su σ).2.2).2.2.2.1) j))), (g, .inr (2, [.ref gf, .ref gt, .ref gw, .int (zB dir), .int (nI nv), .int (nI me)])), (gf, aI cA 40 (fun j => nI (Fr j))), (gt, aI cA 40 (fun j => nI (To j))), (gw, aI cA 40 (fun j => nI (We j))), (xa, aI cA 40 (fun j => iZ (((bFind dir Fr To We nv me X Su σ).1) j)))]) 0 0 (va_A [(bl, .inr (0, [.ref bs])), (bs, aI cA 16 (fun j => iZ (Su j))), (ds, .inr (1, [.ref dr, .ref dc, .ref dt, .ref dl, .ref dn, .int (zB σ.2.2.2.2)])), (dr, aZ cA 16 (fun j => zB (σ.1 j))), (dc, aJ cA 16 (fun j => lZ (σ.2.1 j))), (dt, aJ cA 16 (fun j => lZ (σ.2.2.1 j))), (dl, aI cA 16 (fun j => nI (σ.2.2.2.1 j))), (g, .inr (2, [.ref gf, .ref gt, .ref gw, .int (zB dir), .int (nI nv), .int (nI me)])), (gf, aI cA 40 (fun j => nI (Fr j))), (gt, aI cA 40 (fun j => nI (To j))), (gw, aI cA 40 (fun j => nI (We j))), (xa, aI cA 40 (fun j => iZ (X j)))] sz) := by
  refine z_write (cc := cX0_find) (maxL := 7) (ret := none) (by decide) rfl (Nat.le_of_ble_eq_true rfl) ?_
  intro p e s m below meth c hx hb hr hml hown hts hlocks A hAe hA H locs hP hK hD hS hini Q hQ ls hl
  have hown : s.vm.findClass RX0 = some m.cls := hown
  have hl : lv_has ls 7 [(0, .ref bl), (1, .ref g), (2, .ref ds), (3, .ref xa)] := hl
  generalize hav : ([.ref bl, .ref g, .ref ds, .ref xa] : List Value).toArray = args at hts hQ ⊢
  have hin0 : ∀ w ∈ wsX00, w ∈ wsX0_find := by decide +kernel
  have hin2 : ∀ w ∈ wsX20, w ∈ wsX0_find := by decide +kernel
  refine lv_aload_n hx hb dX0_find_0 rfl (lv_at hl 3 rfl) ?_
  refine lv_iconst (v := nI 0) hx hb dX0_find_1 (by decide) ?_
  refine z_cWSv (wc := [(xa, aI cA 40 (fun j => iZ (X j)))]) (rm := ({ frames := 0, cells := 0, slots := 0, locals := 0 } : Room)) (As := [.ref xa, .int (nI 0)]) (rest := []) (wr := [(bl, .inr (0, [.ref bs])), (bs, aI cA 16 (fun j => iZ (Su j))), (ds, .inr (1, [.ref dr, .ref dc, .ref dt, .ref dl, .ref dn, .int (zB σ.2.2.2.2)])), (dr, aZ cA 16 (fun j => zB (σ.1 j))), (dc, aJ cA 16 (fun j => lZ (σ.2.1 j))), (dt, aJ cA 16 (fun j => lZ (σ.2.2.1 j))), (dl, aI cA 16 (fun j => nI (σ.2.2.2.1 j))), (g, .inr (2, [.ref gf, .ref gt, .ref gw, .int (zB dir), .int (nI nv), .int (nI me)])), (gf, aI cA 40 (fun j => nI (Fr j))), (gt, aI cA 40 (fun j => nI (To j))), (gw, aI cA 40 (fun j => nI (We j)))]) (w1 := [(xa, aI cA 40 (fun j => iZ ((fl X 0 40) j)))]) (ws' := [(bl, .inr (0, [.ref bs])), (bs, aI cA 16 (fun j => iZ (Su j))), (ds, .inr (1, [.ref dr, .ref dc, .ref dt, .ref dl, .ref dn, .int (zB σ.2.2.2.2)])), (dr, aZ cA 16 (fun j => zB (σ.1 j))), (dc, aJ cA 16 (fun j => lZ (σ.2.1 j))), (dt, aJ cA 16 (fun j => lZ (σ.2.2.1 j))), (dl, aI cA 16 (fun j => nI (σ.2.2.2.1 j))), (g, .inr (2, [.ref gf, .ref gt, .ref gw, .int (zB dir), .int (nI nv), .int (nI me)])), (gf, aI cA 40 (fun j => nI (Fr j))), (gt, aI cA 40 (fun j => nI (To j))), (gw, aI cA 40 (fun j => nI (We j))), (xa, aI cA 40 (fun j => iZ ((fl X 0 40) j)))]) ⟨hx, hb, hml, hown, hts⟩ (c_J7_fill_53178 l D cA H.size xa 40 X 0 (by decide)) (va_cwS 2 hts gX0_find_J7_fill_53178 rfl rfl rfl (by decide +kernel) ⟨Nat.le_of_ble_eq_true rfl, Nat.le_of_ble_eq_true rfl⟩) hP hK hD hS hA [11] [0, 1, 2, 3, 4, 5, 6, 7, 8, 9, 10] [0, 1, 2, 3, 4, 5, 6, 7, 8, 9, 10, 11] rfl rfl rfl rfl rfl (by decide) rfl rfl rfl rfl hl.1 rfl (Nat.le_of_ble_eq_true rfl) ⟨Nat.zero_le _, Nat.zero_le _⟩ dX0_find_2 (fun H locs hP hD hS => ?_)
  refine lv_iconst (v := nI 0) hx hb dX0_find_5 (by decide) ?_
  refine lv_istore (lv' := [(4, .int (nI 0)), (0, .ref bl), (1, .ref g), (2, .ref ds), (3, .ref xa)]) hx hb dX0_find_6 hl (by decide) rfl (fun ls hl => ?_)
  have J8 : ∀ (n : Nat), ∀ (i : Nat), (i ≤ nv) → nv - i < n → ∀ (H : Heap) (locs : List Loc), va_P D vwCl [(bl, .inr (0, [.ref bs])), (bs, aI cA 16 (fun j => iZ ((bFill Fr To me Su i) j))), (ds, .inr (1, [.ref dr, .ref dc, .ref dt, .ref dl, .ref dn, .int (zB σ.2.2.2.2)])), (dr, aZ cA 16 (fun j => zB (σ.1 j))), (dc, aJ cA 16 (fun j => lZ (σ.2.1 j))), (dt, aJ cA 16 (fun j => lZ (σ.2.2.1 j))), (dl, aI cA 16 (fun j => nI (σ.2.2.2.1 j))), (g, .inr (2, [.ref gf, .ref gt, .ref gw, .int (zB dir), .int (nI nv), .int (nI me)])), (gf, aI cA 40 (fun j => nI (Fr j))), (gt, aI cA 40 (fun j => nI (To j))), (gw, aI cA 40 (fun j => nI (We j))), (xa, aI cA 40 (fun j => iZ ((fl X 0 40) j)))] H → va_D A [(bl, .inr (0, [.ref bs])), (bs, aI cA 16 (fun j => iZ ((bFill Fr To me Su i) j))), (ds, .inr (1, [.ref dr, .ref dc, .ref dt, .ref dl, .ref dn, .int (zB σ.2.2.2.2)])), (dr, aZ cA 16 (fun j => zB (σ.1 j))), (dc, aJ cA 16 (fun j => lZ (σ.2.1 j))), (dt, aJ cA 16 (fun j => lZ (σ.2.2.1 j))), (dl, aI cA 16 (fun j => nI (σ.2.2.2.1 j))), (g, .inr (2, [.ref gf, .ref gt, .ref gw, .int (zB dir), .int (nI nv), .int (nI me)])), (gf, aI cA 40 (fun j => nI (Fr j))), (gt, aI cA 40 (fun j => nI (To j))), (gw, aI cA 40 (fun j => nI (We j))), (xa, aI cA 40 (fun j => iZ ((fl X 0 40) j)))] → va_S A s.heap H locs → ∀ (ls : Array Slot), lv_has ls 7 [(0, .ref bl), (1, .ref g), (2, .ref ds), (3, .ref xa), (4, .int (nI i))] → W p l e ({ frames := 3, cells := 0, slots := 0, locals := 85 } : Room) s m args below meth c H locs 0 0 Q (F0 m 8 ls []) := by
    intro n8
    induction n8 with
    | zero => intro i hi hn; exact absurd hn (Nat.not_lt_zero _)
    | succ n8 ih8 =>
      intro i hi hn8 H locs hP hD hS ls hl
      refine lv_iload hx hb dX0_find_8 (lv_at hl 4 rfl) ?_
      refine lv_aload_n hx hb dX0_find_10 rfl (lv_at hl 1 rfl) ?_
      refine va_get (D := D) (ci := 2) (v := .int (nI nv)) (C := RX2) (T := TX2) (N := 6) hx hb hts hin2 hown hK hP 7 rfl rfl 4 (by decide) (hts (.fieldLink RX0 21 "TourHouse$Graph" "vertices" "I") (by decide +kernel)) (fun _ h9 => h9) rfl dX0_find_11 ?_
      refine z_ge hx hb (by omega) (by omega) (tgt := 36) dX0_find_14 (by decide) (fun h14 => ?_) (fun h14 => ?_)
      · skip
        refine lv_iconst (v := nI 0) hx hb dX0_find_36 (by decide) ?_
        refine lv_istore (lv' := [(4, .int (nI 0)), (0, .ref bl), (1, .ref g), (2, .ref ds), (3, .ref xa)]) hx hb dX0_find_37 hl (by decide) rfl (fun ls hl => ?_)
        have J39 : ∀ (n : Nat), ∀ (k : Nat) (β : BS), (k ≤ 40) → (∀ j, j < 40 → -(16 * k : Int) ≤ β.1 j ∧ β.1 j ≤ 16 * k) → (∀ j, j < nv → -(40 + k : Int) ≤ β.2.1 j ∧ β.2.1 j ≤ 40 + k) → (∀ j, -80 ≤ β.2.1 j ∧ β.2.1 j ≤ 80) → (∀ j, β.2.2.2.2.2.1 j < 80) → (bLoop dir Fr To We nv me (40 - k) β = bFind dir Fr To We nv me X Su σ) → 40 - k < n → ∀ (H : Heap) (locs : List Loc), va_P D vwCl [(bl, .inr (0, [.ref bs])), (bs, aI cA 16 (fun j => iZ (β.2.1 j))), (ds, .inr (1, [.ref dr, .ref dc, .ref dt, .ref dl, .ref dn, .int (zB β.2.2.2.2.2.2)])), (dr, aZ cA 16 (fun j => zB (β.2.2.1 j))), (dc, aJ cA 16 (fun j => lZ (β.2.2.2.1 j))), (dt, aJ cA 16 (fun j => lZ (β.2.2.2.2.1 j))), (dl, aI cA 16 (fun j => nI (β.2.2.2.2.2.1 j))), (g, .inr (2, [.ref gf, .ref gt, .ref gw, .int (zB dir), .int (nI nv), .int (nI me)])), (gf, aI cA 40 (fun j => nI (Fr j))), (gt, aI cA 40 (fun j => nI (To j))), (gw, aI cA 40 (fun j => nI (We j))), (xa, aI cA 40 (fun j => iZ (β.1 j)))] H → va_D A [(bl, .inr (0, [.ref bs])), (bs, aI cA 16 (fun j => iZ (β.2.1 j))), (ds, .inr (1, [.ref dr, .ref dc, .ref dt, .ref dl, .ref dn, .int (zB β.2.2.2.2.2.2)])), (dr, aZ cA 16 (fun j => zB (β.2.2.1 j))), (dc, aJ cA 16 (fun j => lZ (β.2.2.2.1 j))), (dt, aJ cA 16 (fun j => lZ (β.2.2.2.2.1 j))), (dl, aI cA 16 (fun j => nI (β.2.2.2.2.2.1 j))), (g, .inr (2, [.ref gf, .ref gt, .ref gw, .int (zB dir), .int (nI nv), .int (nI me)])), (gf, aI cA 40 (fun j => nI (Fr j))), (gt, aI cA 40 (fun j => nI (To j))), (gw, aI cA 40 (fun j => nI (We j))), (xa, aI cA 40 (fun j => iZ (β.1 j)))] → va_S A s.heap H locs → ∀ (ls : Array Slot), lv_has ls 7 [(0, .ref bl), (1, .ref g), (2, .ref ds), (3, .ref xa), (4, .int (nI k))] → W p l e ({ frames := 3, cells := 0, slots := 0, locals := 85 } : Room) s m args below meth c H locs 0 0 Q (F0 m 39 ls []) := by
          intro n39
          induction n39 with
          | zero => intro k β hk hX hS1 hS2 hLb hq hn; exact absurd hn (Nat.not_lt_zero _)
          | succ n39 ih39 =>
            intro k β hk hX hS1 hS2 hLb hq hn39 H locs hP hD hS ls hl
            refine lv_iload hx hb dX0_find_39 (lv_at hl 4 rfl) ?_
            refine lv_bipush (v := nI 40) hx hb dX0_find_41 (by decide) ?_
            refine z_ge hx hb (by omega) (by decide) (tgt := 128) dX0_find_43 (by decide) (fun h43 => ?_) (fun h43 => ?_)
            · skip
              have hres : bFind dir Fr To We nv me X Su σ = β := by rw [← hq]; first | (rw [show 40 - k = 0 from by omega]; rfl) | (rw [show 40 - k = (40 - (k + 1)) + 1 from by omega, bLoop, if_pos (by omega)])
              exact z_vretW hx hb hr hlocks hAe hQ (by rw [hres]; exact hP) hK (by rw [hres]; exact hD) hS dX0_find_128
            · skip
              refine lv_aload_n hx hb dX0_find_46 rfl (lv_at hl 0 rfl) ?_
              refine lv_iconst (v := iZ 1) hx hb dX0_find_47 (by decide) ?_
              refine lv_aload_n hx hb dX0_find_48 rfl (lv_at hl 1 rfl) ?_
              refine va_get (D := D) (ci := 2) (v := .int (nI nv)) (C := RX2) (T := TX2) (N := 6) hx hb hts hin2 hown hK hP 7 rfl rfl 4 (by decide) (hts (.fieldLink RX0 21 "TourHouse$Graph" "vertices" "I") (by decide +kernel)) (fun _ h9 => h9) rfl dX0_find_49 ?_
              refine z_cRVi (wc := [(bl, .inr (0, [.ref bs])), (bs, aI cA 16 (fun j => iZ (β.2.1 j)))]) (rm := ({ frames := 0, cells := 0, slots := 0, locals := 0 } : Room)) (As := [.int (iZ 1), .int (nI nv)]) (rest := []) ⟨hx, hb, hml, hown, hts⟩ (c_X0_leastWithSign l D cA bl bs β.2.1 1 nv (by first | assumption | omega) (fun j => by have := hS2 j; omega) (Or.inl rfl)) (cwV 2 hts gX0_find_X0_leastWithSign rfl rfl rfl (by decide +kernel) ⟨Nat.le_of_ble_eq_true rfl, Nat.le_of_ble_eq_true rfl⟩) hP hK [0, 1] rfl 0 0 rfl rfl rfl hl.1 rfl (Nat.le_of_ble_eq_true rfl) ⟨Nat.zero_le _, Nat.zero_le _⟩ dX0_find_52 (fun r hr52 => ?_)
              subst hr52
              refine lv_istore (lv' := [(5, .int (iZ (bLw β.2.1 1 nv nv))), (0, .ref bl), (1, .ref g), (2, .ref ds), (3, .ref xa), (4, .int (nI k))]) hx hb dX0_find_55 hl (by decide) rfl (fun ls hl => ?_)
              refine lv_aload_n hx hb dX0_find_57 rfl (lv_at hl 1 rfl) ?_
              refine lv_iconst (v := iZ (-1)) hx hb dX0_find_58 (by decide) ?_
              refine lv_aload_n hx hb dX0_find_59 rfl (lv_at hl 2 rfl) ?_
              refine va_get (D := D) (ci := 2) (v := .int (nI nv)) (C := RX2) (T := TX2) (N := 6) hx hb hts hin2 hown hK hP 7 rfl rfl 4 (by decide) (hts (.fieldLink RX0 21 "TourHouse$Graph" "vertices" "I") (by decide +kernel)) (fun _ h9 => h9) rfl dX0_find_60 ?_
              refine z_cRVi (wc := [(bl, .inr (0, [.ref bs])), (bs, aI cA 16 (fun j => iZ (β.2.1 j)))]) (rm := ({ frames := 0, cells := 0, slots := 0, locals := 0 } : Room)) (As := [.int (iZ (-1)), .int (nI nv)]) (rest := []) ⟨hx, hb, hml, hown, hts⟩ (c_X0_leastWithSign l D cA bl bs β.2.1 (-1) nv (by first | assumption | omega) (fun j => by have := hS2 j; omega) (Or.inr rfl)) (cwV 2 hts gX0_find_X0_leastWithSign rfl rfl rfl (by decide +kernel) ⟨Nat.le_of_ble_eq_true rfl, Nat.le_of_ble_eq_true rfl⟩) hP hK [0, 1] rfl 0 0 rfl rfl rfl hl.1 rfl (Nat.le_of_ble_eq_true rfl) ⟨Nat.zero_le _, Nat.zero_le _⟩ dX0_find_63 (fun r hr63 => ?_)
              subst hr63
              refine lv_istore (lv' := [(6, .int (iZ (bLw β.2.1 (-1) nv nv))), (5, .int (iZ (bLw β.2.1 1 nv nv))), (0, .ref bl), (1, .ref g), (2, .ref ds), (3, .ref xa), (4, .int (nI k))]) hx hb dX0_find_66 hl (by decide) rfl (fun ls hl => ?_)
              refine lv_iload hx hb dX0_find_68 (lv_at hl 1 rfl) ?_
              refine z_ilt hx hb (x := bLw β.2.1 1 nv nv) (⟨by have := bLw_rng (Su := β.2.1) (sg := 1) (nv := nv) (Nat.le_refl nv); omega, by have := bLw_rng (Su := β.2.1) (sg := 1) (nv := nv) (Nat.le_refl nv); omega⟩) (tgt := 128) dX0_find_70 (by decide) (fun h70 => ?_) (fun h70 => ?_)
              · skip
                have hres : bFind dir Fr To We nv me X Su σ = β := by rw [← hq]; first | (rw [show 40 - k = 0 from by omega]; rfl) | (rw [show 40 - k = (40 - (k + 1)) + 1 from by omega, bLoop, if_pos (by omega)])
                exact z_vretW hx hb hr hlocks hAe hQ (by rw [hres]; exact hP) hK (by rw [hres]; exact hD) hS dX0_find_128
              · skip
                refine lv_iload hx hb dX0_find_73 (lv_at hl 0 rfl) ?_
                refine z_ige hx hb (x := bLw β.2.1 (-1) nv nv) (⟨by have := bLw_rng (Su := β.2.1) (sg := (-1)) (nv := nv) (Nat.le_refl nv); omega, by have := bLw_rng (Su := β.2.1) (sg := (-1)) (nv := nv) (Nat.le_refl nv); omega⟩) (tgt := 81) dX0_find_75 (by decide) (fun h75 => ?_) (fun h75 => ?_)
                · skip
                  refine lv_aload_n hx hb dX0_find_81 rfl (lv_at hl 4 rfl) ?_
                  refine lv_iload hx hb dX0_find_82 (lv_at hl 1 rfl) ?_
                  refine z_topi (v := nI ((bLw β.2.1 1 nv nv).toNat)) (iZ_toNat (by omega)) ?_
                  refine lv_aload_n hx hb dX0_find_84 rfl (lv_at hl 3 rfl) ?_
                  refine lv_aload_n hx hb dX0_find_85 rfl (lv_at hl 5 rfl) ?_
                  refine z_cWVv (wc := [(ds, .inr (1, [.ref dr, .ref dc, .ref dt, .ref dl, .ref dn, .int (zB β.2.2.2.2.2.2)])), (dr, aZ cA 16 (fun j => zB (β.2.2.1 j))), (dc, aJ cA 16 (fun j => lZ (β.2.2.2.1 j))), (dt, aJ cA 16 (fun j => lZ (β.2.2.2.2.1 j))), (dl, aI cA 16 (fun j => nI (β.2.2.2.2.2.1 j))), (g, .inr (2, [.ref gf, .ref gt, .ref gw, .int (zB dir), .int (nI nv), .int (nI me)])), (gf, aI cA 40 (fun j => nI (Fr j))), (gt, aI cA 40 (fun j => nI (To j))), (gw, aI cA 40 (fun j => nI (We j))), (xa, aI cA 40 (fun j => iZ (β.1 j)))]) (rm := ({ frames := 2, cells := 0, slots := 0, locals := 58 } : Room)) (As := [.int (nI ((bLw β.2.1 1 nv nv).toNat)), .ref g, .ref xa]) (rest := []) (wr := [(bl, .inr (0, [.ref bs])), (bs, aI cA 16 (fun j => iZ (β.2.1 j)))]) (w1 := [(ds, .inr (1, [.ref dr, .ref dc, .ref dt, .ref dl, .ref dn, .int (zB ((dSearch dir Fr To We β.1 me β.2.2 ((bLw β.2.1 1 nv nv).toNat)).2.2.2.2))])), (dr, aZ cA 16 (fun j => zB (((dSearch dir Fr To We β.1 me β.2.2 ((bLw β.2.1 1 nv nv).toNat)).1) j))), (dc, aJ cA 16 (fun j => lZ (((dSearch dir Fr To We β.1 me β.2.2 ((bLw β.2.1 1 nv nv).toNat)).2.1) j))), (dt, aJ cA 16 (fun j => lZ (((dSearch dir Fr To We β.1 me β.2.2 ((bLw β.2.1 1 nv nv).toNat)).2.2.1) j))), (dl, aI cA 16 (fun j => nI (((dSearch dir Fr To We β.1 me β.2.2 ((bLw β.2.1 1 nv nv).toNat)).2.2.2.1) j))), (g, .inr (2, [.ref gf, .ref gt, .ref gw, .int (zB dir), .int (nI nv), .int (nI me)])), (gf, aI cA 40 (fun j => nI (Fr j))), (gt, aI cA 40 (fun j => nI (To j))), (gw, aI cA 40 (fun j => nI (We j))), (xa, aI cA 40 (fun j => iZ (β.1 j)))]) (ws' := [(bl, .inr (0, [.ref bs])), (bs, aI cA 16 (fun j => iZ (β.2.1 j))), (ds, .inr (1, [.ref dr, .ref dc, .ref dt, .ref dl, .ref dn, .int (zB ((dSearch dir Fr To We β.1 me β.2.2 ((bLw β.2.1 1 nv nv).toNat)).2.2.2.2))])), (dr, aZ cA 16 (fun j => zB (((dSearch dir Fr To We β.1 me β.2.2 ((bLw β.2.1 1 nv nv).toNat)).1) j))), (dc, aJ cA 16 (fun j => lZ (((dSearch dir Fr To We β.1 me β.2.2 ((bLw β.2.1 1 nv nv).toNat)).2.1) j))), (dt, aJ cA 16 (fun j => lZ (((dSearch dir Fr To We β.1 me β.2.2 ((bLw β.2.1 1 nv nv).toNat)).2.2.1) j))), (dl, aI cA 16 (fun j => nI (((dSearch dir Fr To We β.1 me β.2.2 ((bLw β.2.1 1 nv nv).toNat)).2.2.2.1) j))), (g, .inr (2, [.ref gf, .ref gt, .ref gw, .int (zB dir), .int (nI nv), .int (nI me)])), (gf, aI cA 40 (fun j => nI (Fr j))), (gt, aI cA 40 (fun j => nI (To j))), (gw, aI cA 40 (fun j => nI (We j))), (xa, aI cA 40 (fun j => iZ (β.1 j)))]) ⟨hx, hb, hml, hown, hts⟩ (c_X1_searchBesideExtras l D cA H.size ds dr dc dt dl dn g gf gt gw Fr To We dir nv me xa β.1 β.2.2 ((bLw β.2.1 1 nv nv).toNat) (by first | assumption | omega) (by first | assumption | omega) (by first | assumption | omega) (by first | assumption | omega) (fun j hj => by have := hX j hj; omega) (by have := bLw_rng (Su := β.2.1) (sg := 1) (nv := nv) (Nat.le_refl nv); omega)) (cwV 3 hts gX0_find_X1_searchBesideExtras rfl rfl rfl (by decide +kernel) ⟨Nat.le_of_ble_eq_true rfl, Nat.le_of_ble_eq_true rfl⟩) hP hK hD hS hA [2, 3, 4, 5, 6, 7, 8, 9, 10, 11] [0, 1] [0, 1, 2, 3, 4, 5, 6, 7, 8, 9, 10, 11] rfl rfl rfl rfl rfl (by decide) rfl rfl rfl 1 0 rfl rfl rfl hl.1 rfl (Nat.le_of_ble_eq_true rfl) ⟨Nat.zero_le _, Nat.zero_le _⟩ dX0_find_86 (fun H locs hP hD hS => ?_)
                  refine lv_aload_n hx hb dX0_find_89 rfl (lv_at hl 2 rfl) ?_
                  refine lv_iload hx hb dX0_find_90 (lv_at hl 1 rfl) ?_
                  refine z_topi (v := nI ((bLw β.2.1 1 nv nv).toNat)) (iZ_toNat (by omega)) ?_
                  refine lv_iload hx hb dX0_find_92 (lv_at hl 0 rfl) ?_
                  refine z_topi (v := nI ((bLw β.2.1 (-1) nv nv).toNat)) (iZ_toNat (by omega)) ?_
                  refine lv_aload_n hx hb dX0_find_94 rfl (lv_at hl 3 rfl) ?_
                  refine lv_aload_n hx hb dX0_find_95 rfl (lv_at hl 4 rfl) ?_
                  refine lv_aload_n hx hb dX0_find_96 rfl (lv_at hl 5 rfl) ?_
                  refine z_cWVv (wc := [(bl, .inr (0, [.ref bs])), (ds, .inr (1, [.ref dr, .ref dc, .ref dt, .ref dl, .ref dn, .int (zB ((dSearch dir Fr To We β.1 me β.2.2 (bLw β.2.1 1 nv nv).toNat).2.2.2.2))])), (dl, aI cA 16 (fun j => nI (((dSearch dir Fr To We β.1 me β.2.2 (bLw β.2.1 1 nv nv).toNat).2.2.2.1) j))), (g, .inr (2, [.ref gf, .ref gt, .ref gw, .int (zB dir), .int (nI nv), .int (nI me)])), (gf, aI cA 40 (fun j => nI (Fr j))), (gt, aI cA 40 (fun j => nI (To j))), (xa, aI cA 40 (fun j => iZ (β.1 j)))]) (rm := ({ frames := 0, cells := 0, slots := 0, locals := 0 } : Room)) (As := [.int (nI ((bLw β.2.1 1 nv nv).toNat)), .int (nI ((bLw β.2.1 (-1) nv nv).toNat)), .ref g, .ref ds, .ref xa]) (rest := []) (wr := [(bs, aI cA 16 (fun j => iZ (β.2.1 j))), (dr, aZ cA 16 (fun j => zB (((dSearch dir Fr To We β.1 me β.2.2 ((bLw β.2.1 1 nv nv).toNat)).1) j))), (dc, aJ cA 16 (fun j => lZ (((dSearch dir Fr To We β.1 me β.2.2 ((bLw β.2.1 1 nv nv).toNat)).2.1) j))), (dt, aJ cA 16 (fun j => lZ (((dSearch dir Fr To We β.1 me β.2.2 ((bLw β.2.1 1 nv nv).toNat)).2.2.1) j))), (gw, aI cA 40 (fun j => nI (We j)))]) (w1 := [(bl, .inr (0, [.ref bs])), (ds, .inr (1, [.ref dr, .ref dc, .ref dt, .ref dl, .ref dn, .int (zB ((dSearch dir Fr To We β.1 me β.2.2 (bLw β.2.1 1 nv nv).toNat).2.2.2.2))])), (dl, aI cA 16 (fun j => nI (((dSearch dir Fr To We β.1 me β.2.2 (bLw β.2.1 1 nv nv).toNat).2.2.2.1) j))), (g, .inr (2, [.ref gf, .ref gt, .ref gw, .int (zB dir), .int (nI nv), .int (nI me)])), (gf, aI cA 40 (fun j => nI (Fr j))), (gt, aI cA 40 (fun j => nI (To j))), (xa, aI cA 40 (fun j => iZ ((bAdd Fr To (dSearch dir Fr To We β.1 me β.2.2 (bLw β.2.1 1 nv nv).toNat).2.2.2.1 ((bLw β.2.1 1 nv nv).toNat) 16 ((bLw β.2.1 (-1) nv nv).toNat) β.1) j)))]) (ws' := [(bl, .inr (0, [.ref bs])), (bs, aI cA 16 (fun j => iZ (β.2.1 j))), (ds, .inr (1, [.ref dr, .ref dc, .ref dt, .ref dl, .ref dn, .int (zB ((dSearch dir Fr To We β.1 me β.2.2 (bLw β.2.1 1 nv nv).toNat).2.2.2.2))])), (dr, aZ cA 16 (fun j => zB (((dSearch dir Fr To We β.1 me β.2.2 ((bLw β.2.1 1 nv nv).toNat)).1) j))), (dc, aJ cA 16 (fun j => lZ (((dSearch dir Fr To We β.1 me β.2.2 ((bLw β.2.1 1 nv nv).toNat)).2.1) j))), (dt, aJ cA 16 (fun j => lZ (((dSearch dir Fr To We β.1 me β.2.2 ((bLw β.2.1 1 nv nv).toNat)).2.2.1) j))), (dl, aI cA 16 (fun j => nI (((dSearch dir Fr To We β.1 me β.2.2 (bLw β.2.1 1 nv nv).toNat).2.2.2.1) j))), (g, .inr (2, [.ref gf, .ref gt, .ref gw, .int (zB dir), .int (nI nv), .int (nI me)])), (gf, aI cA 40 (fun j => nI (Fr j))), (gt, aI cA 40 (fun j => nI (To j))), (gw, aI cA 40 (fun j => nI (We j))), (xa, aI cA 40 (fun j => iZ ((bAdd Fr To (dSearch dir Fr To We β.1 me β.2.2 (bLw β.2.1 1 nv nv).toNat).2.2.2.1 ((bLw β.2.1 1 nv nv).toNat) 16 ((bLw β.2.1 (-1) nv nv).toNat) β.1) j)))]) ⟨hx, hb, hml, hown, hts⟩ (c_X0_addPassage l D cA H.size bl bs ds dr dc dt dl dn g gf gt gw Fr To dir nv me xa β.1 (dSearch dir Fr To We β.1 me β.2.2 (bLw β.2.1 1 nv nv).toNat) ((bLw β.2.1 1 nv nv).toNat) ((bLw β.2.1 (-1) nv nv).toNat) (by first | assumption | omega) (by first | assumption | omega) (dSearch_L hme hLb) (by have := bLw_rng (Su := β.2.1) (sg := 1) (nv := nv) (Nat.le_refl nv); omega) (by have := bLw_rng (Su := β.2.1) (sg := (-1)) (nv := nv) (Nat.le_refl nv); omega)) (cwV 5 hts gX0_find_X0_addPassage rfl rfl rfl (by decide +kernel) ⟨Nat.le_of_ble_eq_true rfl, Nat.le_of_ble_eq_true rfl⟩) hP hK hD hS hA [0, 2, 6, 7, 8, 9, 11] [1, 3, 4, 5, 10] [5, 0, 6, 1, 2, 3, 7, 8, 9, 10, 4, 11] rfl rfl rfl rfl rfl (by decide) rfl rfl rfl 0 0 rfl rfl rfl hl.1 rfl (Nat.le_of_ble_eq_true rfl) ⟨Nat.zero_le _, Nat.zero_le _⟩ dX0_find_97 (fun H locs hP hD hS => ?_)
                  refine lv_aload_n hx hb dX0_find_100 rfl (lv_at hl 2 rfl) ?_
                  refine va_get (D := D) (ci := 0) (v := .ref bs) (C := RX0) (T := TX0) (N := 1) hx hb hts hin0 hown hK hP 0 rfl rfl 0 (by decide) (hts (.fieldLink RX0 9 "TourHouse$Balancing" "surplus" "[I") (by decide +kernel)) (fun _ h9 => h9) rfl dX0_find_101 ?_
                  refine lv_iload hx hb dX0_find_104 (lv_at hl 1 rfl) ?_
                  refine z_topi (v := nI ((bLw β.2.1 1 nv nv).toNat)) (iZ_toNat (by omega)) ?_
                  refine lv_dup2_11 hx hb dX0_find_106 rfl rfl ?_
                  refine z_iald hx hb hK hP 1 0 rfl rfl (k := ((bLw β.2.1 1 nv nv).toNat)) (by have := bLw_rng (Su := β.2.1) (sg := 1) (nv := nv) (Nat.le_refl nv); omega) (by decide) (v := iZ (β.2.1 ((bLw β.2.1 1 nv nv).toNat))) rfl dX0_find_107 ?_
                  refine lv_iconst (v := nI 1) hx hb dX0_find_108 (by decide) ?_
                  refine lv_isub hx hb dX0_find_109 ?_
                  refine z_topi (v := iZ ((β.2.1 ((bLw β.2.1 1 nv nv).toNat)) - 1)) (iZ_sub (β.2.1 ((bLw β.2.1 1 nv nv).toNat)) 1) ?_
                  refine z_iast hx hb hK hP hD hS 1 0 rfl rfl (k := ((bLw β.2.1 1 nv nv).toNat)) (by have := bLw_rng (Su := β.2.1) (sg := 1) (nv := nv) (Nat.le_refl nv); omega) (by decide) (f' := (fun j => iZ ((va_up β.2.1 ((bLw β.2.1 1 nv nv).toNat) ((β.2.1 ((bLw β.2.1 1 nv nv).toNat)) - 1)) j))) (upd_iZ _ _ _) (ws' := [(bl, .inr (0, [.ref bs])), (bs, aI cA 16 (fun j => iZ ((va_up β.2.1 ((bLw β.2.1 1 nv nv).toNat) ((β.2.1 ((bLw β.2.1 1 nv nv).toNat)) - 1)) j))), (ds, .inr (1, [.ref dr, .ref dc, .ref dt, .ref dl, .ref dn, .int (zB ((dSearch dir Fr To We β.1 me β.2.2 (bLw β.2.1 1 nv nv).toNat).2.2.2.2))])), (dr, aZ cA 16 (fun j => zB (((dSearch dir Fr To We β.1 me β.2.2 ((bLw β.2.1 1 nv nv).toNat)).1) j))), (dc, aJ cA 16 (fun j => lZ (((dSearch dir Fr To We β.1 me β.2.2 ((bLw β.2.1 1 nv nv).toNat)).2.1) j))), (dt, aJ cA 16 (fun j => lZ (((dSearch dir Fr To We β.1 me β.2.2 ((bLw β.2.1 1 nv nv).toNat)).2.2.1) j))), (dl, aI cA 16 (fun j => nI (((dSearch dir Fr To We β.1 me β.2.2 (bLw β.2.1 1 nv nv).toNat).2.2.2.1) j))), (g, .inr (2, [.ref gf, .ref gt, .ref gw, .int (zB dir), .int (nI nv), .int (nI me)])), (gf, aI cA 40 (fun j => nI (Fr j))), (gt, aI cA 40 (fun j => nI (To j))), (gw, aI cA 40 (fun j => nI (We j))), (xa, aI cA 40 (fun j => iZ ((bAdd Fr To (dSearch dir Fr To We β.1 me β.2.2 (bLw β.2.1 1 nv nv).toNat).2.2.2.1 ((bLw β.2.1 1 nv nv).toNat) 16 ((bLw β.2.1 (-1) nv nv).toNat) β.1) j)))]) rfl dX0_find_110 (fun H locs hP hD hS => ?_)
                  refine lv_aload_n hx hb dX0_find_111 rfl (lv_at hl 2 rfl) ?_
                  refine va_get (D := D) (ci := 0) (v := .ref bs) (C := RX0) (T := TX0) (N := 1) hx hb hts hin0 hown hK hP 0 rfl rfl 0 (by decide) (hts (.fieldLink RX0 9 "TourHouse$Balancing" "surplus" "[I") (by decide +kernel)) (fun _ h9 => h9) rfl dX0_find_112 ?_
                  refine lv_iload hx hb dX0_find_115 (lv_at hl 0 rfl) ?_
                  refine z_topi (v := nI ((bLw β.2.1 (-1) nv nv).toNat)) (iZ_toNat (by omega)) ?_
                  refine lv_dup2_11 hx hb dX0_find_117 rfl rfl ?_
                  refine z_iald hx hb hK hP 1 0 rfl rfl (k := ((bLw β.2.1 (-1) nv nv).toNat)) (by have := bLw_rng (Su := β.2.1) (sg := (-1)) (nv := nv) (Nat.le_refl nv); omega) (by decide) (v := iZ ((va_up β.2.1 ((bLw β.2.1 1 nv nv).toNat) ((β.2.1 ((bLw β.2.1 1 nv nv).toNat)) - 1)) ((bLw β.2.1 (-1) nv nv).toNat))) rfl dX0_find_118 ?_
                  refine lv_iconst (v := nI 1) hx hb dX0_find_119 (by decide) ?_
                  refine lv_iadd hx hb dX0_find_120 ?_
                  refine z_topi (v := iZ (((va_up β.2.1 ((bLw β.2.1 1 nv nv).toNat) ((β.2.1 ((bLw β.2.1 1 nv nv).toNat)) - 1)) ((bLw β.2.1 (-1) nv nv).toNat)) + 1)) (iZ_add ((va_up β.2.1 ((bLw β.2.1 1 nv nv).toNat) ((β.2.1 ((bLw β.2.1 1 nv nv).toNat)) - 1)) ((bLw β.2.1 (-1) nv nv).toNat)) 1) ?_
                  refine z_iast hx hb hK hP hD hS 1 0 rfl rfl (k := ((bLw β.2.1 (-1) nv nv).toNat)) (by have := bLw_rng (Su := β.2.1) (sg := (-1)) (nv := nv) (Nat.le_refl nv); omega) (by decide) (f' := (fun j => iZ ((va_up (va_up β.2.1 ((bLw β.2.1 1 nv nv).toNat) ((β.2.1 ((bLw β.2.1 1 nv nv).toNat)) - 1)) ((bLw β.2.1 (-1) nv nv).toNat) (((va_up β.2.1 ((bLw β.2.1 1 nv nv).toNat) ((β.2.1 ((bLw β.2.1 1 nv nv).toNat)) - 1)) ((bLw β.2.1 (-1) nv nv).toNat)) + 1)) j))) (upd_iZ _ _ _) (ws' := [(bl, .inr (0, [.ref bs])), (bs, aI cA 16 (fun j => iZ ((va_up (va_up β.2.1 ((bLw β.2.1 1 nv nv).toNat) ((β.2.1 ((bLw β.2.1 1 nv nv).toNat)) - 1)) ((bLw β.2.1 (-1) nv nv).toNat) (((va_up β.2.1 ((bLw β.2.1 1 nv nv).toNat) ((β.2.1 ((bLw β.2.1 1 nv nv).toNat)) - 1)) ((bLw β.2.1 (-1) nv nv).toNat)) + 1)) j))), (ds, .inr (1, [.ref dr, .ref dc, .ref dt, .ref dl, .ref dn, .int (zB ((dSearch dir Fr To We β.1 me β.2.2 (bLw β.2.1 1 nv nv).toNat).2.2.2.2))])), (dr, aZ cA 16 (fun j => zB (((dSearch dir Fr To We β.1 me β.2.2 ((bLw β.2.1 1 nv nv).toNat)).1) j))), (dc, aJ cA 16 (fun j => lZ (((dSearch dir Fr To We β.1 me β.2.2 ((bLw β.2.1 1 nv nv).toNat)).2.1) j))), (dt, aJ cA 16 (fun j => lZ (((dSearch dir Fr To We β.1 me β.2.2 ((bLw β.2.1 1 nv nv).toNat)).2.2.1) j))), (dl, aI cA 16 (fun j => nI (((dSearch dir Fr To We β.1 me β.2.2 (bLw β.2.1 1 nv nv).toNat).2.2.2.1) j))), (g, .inr (2, [.ref gf, .ref gt, .ref gw, .int (zB dir), .int (nI nv), .int (nI me)])), (gf, aI cA 40 (fun j => nI (Fr j))), (gt, aI cA 40 (fun j => nI (To j))), (gw, aI cA 40 (fun j => nI (We j))), (xa, aI cA 40 (fun j => iZ ((bAdd Fr To (dSearch dir Fr To We β.1 me β.2.2 (bLw β.2.1 1 nv nv).toNat).2.2.2.1 ((bLw β.2.1 1 nv nv).toNat) 16 ((bLw β.2.1 (-1) nv nv).toNat) β.1) j)))]) rfl dX0_find_121 (fun H locs hP hD hS => ?_)
                  refine lv_iinc (v := nI (k + 1)) (lv' := [(4, .int (nI (k + 1))), (6, .int (iZ (bLw β.2.1 (-1) nv nv))), (5, .int (iZ (bLw β.2.1 1 nv nv))), (0, .ref bl), (1, .ref g), (2, .ref ds), (3, .ref xa)]) hx hb dX0_find_122 hl (k := 6) rfl (nI_1 k) (by decide) rfl (fun ls hl => ?_)
                  refine lv_goto (tgt := 39) hx hb dX0_find_125 (by decide) ?_
                  exact ih39 (k + 1) (bStep dir Fr To We nv me β) (by omega) (bStep_X hX) (bStep_S1 (by omega) (by omega) hS1) (bStep_S2 (by omega) (by omega) (by omega) hS1 hS2) (bStep_L hme hLb) (by rw [← hq, show 40 - k = (40 - (k + 1)) + 1 from by omega, bLoop, if_neg (by omega)]) (by omega) _ _ (hP) (hD) hS ls (lv_sub hl [3, 4, 5, 6, 0] (by rfl))
                · skip
                  refine lv_goto (tgt := 128) hx hb dX0_find_78 (by decide) ?_
                  have hres : bFind dir Fr To We nv me X Su σ = β := by rw [← hq]; first | (rw [show 40 - k = 0 from by omega]; rfl) | (rw [show 40 - k = (40 - (k + 1)) + 1 from by omega, bLoop, if_pos (by omega)])
                  exact z_vretW hx hb hr hlocks hAe hQ (by rw [hres]; exact hP) hK (by rw [hres]; exact hD) hS dX0_find_128
        exact J39 ((40 - 0) + 1) 0 (fl X 0 40, bFill Fr To me Su nv, σ) (by omega) (fun j hj => by simp [fl, hj]) (fun j hj => by have := bFill_in Fr To me Su hj; have := gSur_rng Fr To j me; simp only []; omega) (fun j => by have := bFill_b Fr To hSu hme nv j; simp only []; omega) hL rfl (by omega) _ _ (by have q : i = nv := (by omega); rw [q] at hP; exact hP) (by have q : i = nv := (by omega); rw [q] at hD; exact hD) hS ls (lv_sub hl [1, 2, 3, 4, 0] (by rfl))
      · skip
        refine lv_aload_n hx hb dX0_find_17 rfl (lv_at hl 0 rfl) ?_
        refine va_get (D := D) (ci := 0) (v := .ref bs) (C := RX0) (T := TX0) (N := 1) hx hb hts hin0 hown hK hP 0 rfl rfl 0 (by decide) (hts (.fieldLink RX0 9 "TourHouse$Balancing" "surplus" "[I") (by decide +kernel)) (fun _ h9 => h9) rfl dX0_find_18 ?_
        refine lv_iload hx hb dX0_find_21 (lv_at hl 4 rfl) ?_
        refine lv_aload_n hx hb dX0_find_23 rfl (lv_at hl 1 rfl) ?_
        refine lv_iload hx hb dX0_find_24 (lv_at hl 4 rfl) ?_
        refine z_cRVi (wc := [(g, .inr (2, [.ref gf, .ref gt, .ref gw, .int (zB dir), .int (nI nv), .int (nI me)])), (gf, aI cA 40 (fun j => nI (Fr j))), (gt, aI cA 40 (fun j => nI (To j)))]) (rm := ({ frames := 0, cells := 0, slots := 0, locals := 0 } : Room)) (As := [.int (nI i)]) (rest := [.int (nI i), .ref bs]) ⟨hx, hb, hml, hown, hts⟩ (c_X2_surplusAt l D cA g gf gt gw Fr To dir nv me i (by first | assumption | omega) (by first | assumption | omega) (by first | assumption | omega) (by omega)) (cwV 1 hts gX0_find_X2_surplusAt rfl rfl rfl (by decide +kernel) ⟨Nat.le_of_ble_eq_true rfl, Nat.le_of_ble_eq_true rfl⟩) hP hK [7, 8, 9] rfl 2 0 rfl rfl rfl hl.1 rfl (Nat.le_of_ble_eq_true rfl) ⟨Nat.zero_le _, Nat.zero_le _⟩ dX0_find_26 (fun r hr26 => ?_)
        subst hr26
        refine z_iast hx hb hK hP hD hS 1 0 rfl rfl (k := i) (by omega) (by decide) (f' := (fun j => iZ ((bFill Fr To me Su (i + 1)) j))) ((upd_iZ _ _ _).trans (by rw [bFill_up])) (ws' := [(bl, .inr (0, [.ref bs])), (bs, aI cA 16 (fun j => iZ ((bFill Fr To me Su (i + 1)) j))), (ds, .inr (1, [.ref dr, .ref dc, .ref dt, .ref dl, .ref dn, .int (zB σ.2.2.2.2)])), (dr, aZ cA 16 (fun j => zB (σ.1 j))), (dc, aJ cA 16 (fun j => lZ (σ.2.1 j))), (dt, aJ cA 16 (fun j => lZ (σ.2.2.1 j))), (dl, aI cA 16 (fun j => nI (σ.2.2.2.1 j))), (g, .inr (2, [.ref gf, .ref gt, .ref gw, .int (zB dir), .int (nI nv), .int (nI me)])), (gf, aI cA 40 (fun j => nI (Fr j))), (gt, aI cA 40 (fun j => nI (To j))), (gw, aI cA 40 (fun j => nI (We j))), (xa, aI cA 40 (fun j => iZ ((fl X 0 40) j)))]) rfl dX0_find_29 (fun H locs hP hD hS => ?_)
        refine lv_iinc (v := nI (i + 1)) (lv' := [(4, .int (nI (i + 1))), (0, .ref bl), (1, .ref g), (2, .ref ds), (3, .ref xa)]) hx hb dX0_find_30 hl (k := 4) rfl (nI_1 i) (by decide) rfl (fun ls hl => ?_)
        refine lv_goto (tgt := 8) hx hb dX0_find_33 (by decide) ?_
        exact ih8 (i + 1) (by omega) (by omega) _ _ (hP) (hD) hS ls (lv_sub hl [1, 2, 3, 4, 0] (by rfl))
  exact J8 ((nv - 0) + 1) 0 (by omega) (by omega) _ _ (by rw [bFill_0]; exact hP) (by rw [bFill_0]; exact hD) hS ls (lv_sub hl [1, 2, 3, 4, 0] (by rfl))
end
