/-! longs: comparing, shifting a one -/
theorem lb_shl1 : ∀ {k : Nat}, k < 62 → lZ 1 <<< ((nI k).toInt64 &&& 63) = lZ (2 ^ k) := by
  intro k
  revert k
  have h : ∀ k, k < 62 → lZ 1 <<< ((nI k).toInt64 &&& 63) = lZ (2 ^ k) := by decide +kernel
  intro k hk
  exact h k hk
theorem lZ_cmp {x y : Int} (hx : -9223372036854775808 ≤ x ∧ x < 9223372036854775808) (hy : -9223372036854775808 ≤ y ∧ y < 9223372036854775808) : lg_cmp (lZ x) (lZ y) = iZ (if y < x then 1 else if x = y then 0 else -1) := by
  unfold lg_cmp
  have h1 : (lZ x > lZ y) ↔ y < x := lZ_lt hy hx
  have h2 : (lZ x = lZ y) ↔ x = y := lZ_eq hx hy
  by_cases a : y < x
  · rw [if_pos (h1.mpr a), if_pos a]; rfl
  · rw [if_neg (fun q => a (h1.mp q)), if_neg a]
    by_cases b : x = y
    · rw [if_pos (h2.mpr b), if_pos b]; rfl
    · rw [if_neg (fun q => b (h2.mp q)), if_neg b]; rfl
section ZL
variable {p : Program} {l : Launch} {e : Env} {R : Room} {s : State} {m : MethodId} {args : Array Value} {below : List Frame} {meth : Method} {c : Code} {H : Heap} {locs : List Loc} {cells slots : Nat} {Q : State → Prop}
variable {cc : ByteArray} {pc : Nat} {ls : Array Slot} {rest : List Value}
theorem z_lcmp_eq (hexec : p.tables.exec = Jvm.exec) (hb : c.code = cc) {x y : Int} (hx : -9223372036854775808 ≤ x ∧ x < 9223372036854775808) (hy : -9223372036854775808 ≤ y ∧ y < 9223372036854775808) {off : Int} {tgt : Nat} (hdg : decode cc pc = .ok (.lcmp, 1)) (hdg2 : decode cc (pc + 1) = .ok (.ifCond .eq off, 3)) (ht : ((pc + 1 : Nat) : Int) + off = (tgt : Int))
    (kt : x = y → W p l e R s m args below meth c H locs cells slots Q (F0 m tgt ls rest)) (kf : x ≠ y → W p l e R s m args below meth c H locs cells slots Q (F0 m (pc + 4) ls rest)) : W p l e R s m args below meth c H locs cells slots Q (F0 m pc ls (.long (lZ y) :: .long (lZ x) :: rest)) := by
  refine W.lcmp hexec hb hdg ?_
  rw [lZ_cmp hx hy]
  refine z_ieq hexec hb (by split <;> (try split) <;> omega) hdg2 ht (fun h => kt ?_) (fun h => kf ?_)
  · split at h <;> (try split at h) <;> omega
  · split at h <;> (try split at h) <;> omega
theorem z_lcmp_ne (hexec : p.tables.exec = Jvm.exec) (hb : c.code = cc) {x y : Int} (hx : -9223372036854775808 ≤ x ∧ x < 9223372036854775808) (hy : -9223372036854775808 ≤ y ∧ y < 9223372036854775808) {off : Int} {tgt : Nat} (hdg : decode cc pc = .ok (.lcmp, 1)) (hdg2 : decode cc (pc + 1) = .ok (.ifCond .ne off, 3)) (ht : ((pc + 1 : Nat) : Int) + off = (tgt : Int))
    (kt : x ≠ y → W p l e R s m args below meth c H locs cells slots Q (F0 m tgt ls rest)) (kf : x = y → W p l e R s m args below meth c H locs cells slots Q (F0 m (pc + 4) ls rest)) : W p l e R s m args below meth c H locs cells slots Q (F0 m pc ls (.long (lZ y) :: .long (lZ x) :: rest)) := by
  refine W.lcmp hexec hb hdg ?_
  rw [lZ_cmp hx hy]
  refine z_ine hexec hb (by split <;> (try split) <;> omega) hdg2 ht (fun h => kt ?_) (fun h => kf ?_)
  · split at h <;> (try split at h) <;> omega
  · split at h <;> (try split at h) <;> omega
theorem z_lcmp_lt (hexec : p.tables.exec = Jvm.exec) (hb : c.code = cc) {x y : Int} (hx : -9223372036854775808 ≤ x ∧ x < 9223372036854775808) (hy : -9223372036854775808 ≤ y ∧ y < 9223372036854775808) {off : Int} {tgt : Nat} (hdg : decode cc pc = .ok (.lcmp, 1)) (hdg2 : decode cc (pc + 1) = .ok (.ifCond .lt off, 3)) (ht : ((pc + 1 : Nat) : Int) + off = (tgt : Int))
    (kt : x < y → W p l e R s m args below meth c H locs cells slots Q (F0 m tgt ls rest)) (kf : y ≤ x → W p l e R s m args below meth c H locs cells slots Q (F0 m (pc + 4) ls rest)) : W p l e R s m args below meth c H locs cells slots Q (F0 m pc ls (.long (lZ y) :: .long (lZ x) :: rest)) := by
  refine W.lcmp hexec hb hdg ?_
  rw [lZ_cmp hx hy]
  refine z_ilt hexec hb (by split <;> (try split) <;> omega) hdg2 ht (fun h => kt ?_) (fun h => kf ?_)
  · split at h <;> (try split at h) <;> omega
  · split at h <;> (try split at h) <;> omega
theorem z_lcmp_ge (hexec : p.tables.exec = Jvm.exec) (hb : c.code = cc) {x y : Int} (hx : -9223372036854775808 ≤ x ∧ x < 9223372036854775808) (hy : -9223372036854775808 ≤ y ∧ y < 9223372036854775808) {off : Int} {tgt : Nat} (hdg : decode cc pc = .ok (.lcmp, 1)) (hdg2 : decode cc (pc + 1) = .ok (.ifCond .ge off, 3)) (ht : ((pc + 1 : Nat) : Int) + off = (tgt : Int))
    (kt : y ≤ x → W p l e R s m args below meth c H locs cells slots Q (F0 m tgt ls rest)) (kf : x < y → W p l e R s m args below meth c H locs cells slots Q (F0 m (pc + 4) ls rest)) : W p l e R s m args below meth c H locs cells slots Q (F0 m pc ls (.long (lZ y) :: .long (lZ x) :: rest)) := by
  refine W.lcmp hexec hb hdg ?_
  rw [lZ_cmp hx hy]
  refine z_ige hexec hb (by split <;> (try split) <;> omega) hdg2 ht (fun h => kt ?_) (fun h => kf ?_)
  · split at h <;> (try split at h) <;> omega
  · split at h <;> (try split at h) <;> omega
theorem z_lcmp_gt (hexec : p.tables.exec = Jvm.exec) (hb : c.code = cc) {x y : Int} (hx : -9223372036854775808 ≤ x ∧ x < 9223372036854775808) (hy : -9223372036854775808 ≤ y ∧ y < 9223372036854775808) {off : Int} {tgt : Nat} (hdg : decode cc pc = .ok (.lcmp, 1)) (hdg2 : decode cc (pc + 1) = .ok (.ifCond .gt off, 3)) (ht : ((pc + 1 : Nat) : Int) + off = (tgt : Int))
    (kt : y < x → W p l e R s m args below meth c H locs cells slots Q (F0 m tgt ls rest)) (kf : x ≤ y → W p l e R s m args below meth c H locs cells slots Q (F0 m (pc + 4) ls rest)) : W p l e R s m args below meth c H locs cells slots Q (F0 m pc ls (.long (lZ y) :: .long (lZ x) :: rest)) := by
  refine W.lcmp hexec hb hdg ?_
  rw [lZ_cmp hx hy]
  refine z_igt hexec hb (by split <;> (try split) <;> omega) hdg2 ht (fun h => kt ?_) (fun h => kf ?_)
  · split at h <;> (try split at h) <;> omega
  · split at h <;> (try split at h) <;> omega
theorem z_lcmp_le (hexec : p.tables.exec = Jvm.exec) (hb : c.code = cc) {x y : Int} (hx : -9223372036854775808 ≤ x ∧ x < 9223372036854775808) (hy : -9223372036854775808 ≤ y ∧ y < 9223372036854775808) {off : Int} {tgt : Nat} (hdg : decode cc pc = .ok (.lcmp, 1)) (hdg2 : decode cc (pc + 1) = .ok (.ifCond .le off, 3)) (ht : ((pc + 1 : Nat) : Int) + off = (tgt : Int))
    (kt : x ≤ y → W p l e R s m args below meth c H locs cells slots Q (F0 m tgt ls rest)) (kf : y < x → W p l e R s m args below meth c H locs cells slots Q (F0 m (pc + 4) ls rest)) : W p l e R s m args below meth c H locs cells slots Q (F0 m pc ls (.long (lZ y) :: .long (lZ x) :: rest)) := by
  refine W.lcmp hexec hb hdg ?_
  rw [lZ_cmp hx hy]
  refine z_ile hexec hb (by split <;> (try split) <;> omega) hdg2 ht (fun h => kt ?_) (fun h => kf ?_)
  · split at h <;> (try split at h) <;> omega
  · split at h <;> (try split at h) <;> omega
theorem z_lretR {v : Int64} {post : Int64 → Prop} (hexec : p.tables.exec = Jvm.exec) (hb : c.code = cc) (hr : meth.sig.returnType = some .long) (hlocks : meth.locks = false) (hQ : Q = MQ below (vp_Sl post) args s cells slots (fun _ => False)) (hp : post v) (hdg : decode cc pc = .ok (.lreturn, 1)) (hH : H = s.heap) (hlo : locs = []) : W p l e R s m args below meth c H locs cells slots Q (F0 m pc ls [.long v]) := by
  subst hQ; subst hH; subst hlo
  exact W.lret hexec hb hr (fun t ht _ => ⟨v, rfl, hp, ht⟩) (fun q h => by cases h) hdg hlocks
end ZL
