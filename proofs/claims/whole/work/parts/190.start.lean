def R_law : String := "TourHouseLaw"
def lw_P (b : Addr) (xs : List Int32) (args : Array Value) (s : State) : Prop := args = #[.ref b] ∧ s.IntsAt b xs ∧ xs.length ≤ 2048 ∧ (Jvm.Cond.and given_1 narrow_1).before args s = true
def lw_Q (_ : Array Value) (s : State) (o : Outcome) (t : State) : Prop := o = .returned (some (.int 1)) ∧ Framed s o t [] 601024 7293034
def lw_Z (below : List Frame) (a : Array Value) (s : State) : State → Prop := fun t => ∃ o, t.status = .running ∧ Ended t below o ∧ lw_Q a s o t
theorem lw_ret {p : Program} {l : Launch} {e : Env} {s : State} {m : MethodId} {below : List Frame} {meth : Method} {c : Code} {b : Nat} (hx : p.tables.exec = Jvm.exec) (hb : c.code = code) (hr : meth.sig.returnType = ret) (hlocks : meth.locks = false) {pc : Nat} {H : Heap} {ls : Array Slot} (hdg : decode code pc = .ok (.ireturn, 1)) : W p l e room_1 s m #[Value.ref b] below meth c H [] 601024 7293034 (lw_Z below #[Value.ref b] s) (F0 m pc ls [.int 1]) := by
  intro T hT X
  obtain ⟨fs, hret, hrun, hended, hW, hframe⟩ := X.leave (v := some (.int 1)) (hlocks := hlocks) (fun h => by rw [hr] at h; cases h)
  have hmeth' : T.vm.method? m = some meth := X.method'
  refine ⟨T.setFrames fs, ?_, .returned (some (.int 1)), hrun, hended, rfl, ⟨_, rfl⟩, hW, hframe⟩
  jvm_step X.here [X.here.top, hx, hb, hdg, hmeth', hr, ret, narrow_b1]
  (try refine ⟨rfl, ?_⟩); (try refine ⟨rfl, ?_⟩)
  first | (intro acts; rw [hret _ acts rfl rfl rfl]) | rw [hret _ _ rfl rfl rfl]
  exact Steps.refl _
def lw_At (p : Program) (s : State) (m : MethodId) (meth : Method) (c : Code) (b L : Nat) (xs : Nat → Int32) : Prop :=
  p.tables.exec = Jvm.exec ∧ c.code = code ∧ meth.sig.returnType = ret ∧ c.maxLocals = 8 ∧ s.vm.findClass R_law = some m.cls ∧ (∀ w ∈ lw_tbl, w.before #[Value.ref b] s = true) ∧ va_X b L xs s s.heap ∧ b < s.heap.size ∧ meth.locks = false ∧ (Jvm.Cond.and given_1 narrow_1).before #[Value.ref b] s = true
/-- the array classes -/
theorem z_arrOf {s : State} {c : ClassId} {k : Class} {comp : ClassId} {ty : FieldType} (hk : s.vm.classes[c]? = some k) (hkind : k.kind = .array comp ty) : ArrOfT s c ty := fun _ _ => ⟨(fun q hq => by cases hq), k, hk, comp, hkind⟩
theorem zGw_on : ∀ w ∈ zGw, w.onTables = true := by decide +kernel
theorem zGw_in : ∀ w ∈ zGw, w ∈ lw_tbl := by decide +kernel
theorem zGs_in : ∀ q ∈ zGs, Cond.stringRef RX5 q.1 q.2 ∈ lw_tbl := by decide +kernel
set_option maxHeartbeats 4000000 in
theorem lw_G {s : State} {b : Nat} (hts : ∀ w ∈ lw_tbl, w.before #[Value.ref b] s = true) (hgv : (Jvm.Cond.and given_1 narrow_1).before #[Value.ref b] s = true) : zG s := by
  have hgs := flat_of_before _ hgv
  refine ⟨fun w hw => va_Nw.of (zGw_on w hw) (hts w (zGw_in w hw)), fun q hq => ?_, fun q hq => ?_⟩
  · have hs : (Cond.exactly (.string RX5 q.1) "java/lang/String").before #[Value.ref b] s = true := by
      simp only [zGs, List.mem_cons, List.not_mem_nil, or_false] at hq
      rcases hq with rfl | rfl | rfl | rfl | rfl | rfl | rfl | rfl | rfl | rfl <;> exact hgs _ (by decide +kernel)
    obtain ⟨a, _, _, _, ha, _⟩ := Cond.exactly_spec hs
    exact ⟨a, vk_R.of (hts _ (zGs_in q hq)) ha⟩
  · have hs : (Cond.not (.castable q.1 q.2)).before #[Value.ref b] s = true := by
      simp only [zGn, List.mem_cons, List.not_mem_nil, or_false] at hq
      rcases hq with rfl | rfl <;> exact hgs _ (by decide +kernel)
    exact va_Nc.of hs
theorem lw_Zs {s : State} {b : Nat} (hts : ∀ w ∈ lw_tbl, w.before #[Value.ref b] s = true) (hgv : (Jvm.Cond.and given_1 narrow_1).before #[Value.ref b] s = true) : zZ (fun q => s.heap.size ≤ q) s s.heap := by
  have hgs := flat_of_before _ hgv
  exact ⟨vx_Zqof (hts (.laysStatic Bundle.tN "UNASSIGNED_STACK" Bundle.steD) (by decide +kernel)) (hts (.initialized Bundle.tN) (by decide +kernel)) (hgs (.isRef (.static Bundle.tN "UNASSIGNED_STACK" Bundle.steD)) (by decide +kernel)) (fun a h h2 => absurd h (Nat.not_lt.mpr h2)),
    vx_Zqof (hts (.laysStatic Bundle.tN "SUPPRESSED_SENTINEL" Bundle.listD) (by decide +kernel)) (hts (.initialized Bundle.tN) (by decide +kernel)) (hgs (.isRef (.static Bundle.tN "SUPPRESSED_SENTINEL" Bundle.listD)) (by decide +kernel)) (fun a h h2 => absurd h (Nat.not_lt.mpr h2))⟩
set_option maxHeartbeats 4000000 in
theorem lw_K {s : State} {args : Array Value} (hts : ∀ w ∈ wsL_law, w.before args s = true) (hAo : va_AOA .long s) : ∃ (D : va_G) (cA : Nat → ClassId), va_K D vwCl (zT cA) s := by
  obtain ⟨c0, i0, k0⟩ := u_known hts (C := RX0) (T := TX0) (N := 1) (n := 1) (by decide +kernel) (hts (.instantiable RX0 1) (by decide +kernel))
  obtain ⟨c1, i1, k1⟩ := u_known hts (C := RX1) (T := TX1) (N := 6) (n := 6) (by decide +kernel) (hts (.instantiable RX1 6) (by decide +kernel))
  obtain ⟨c2, i2, k2⟩ := u_known hts (C := RX2) (T := TX2) (N := 6) (n := 6) (by decide +kernel) (hts (.instantiable RX2 6) (by decide +kernel))
  obtain ⟨c3, i3, k3⟩ := u_known hts (C := RX3) (T := TX3) (N := 7) (n := 7) (by decide +kernel) (hts (.instantiable RX3 7) (by decide +kernel))
  obtain ⟨c4, i4, k4⟩ := u_known hts (C := RX4) (T := TX4) (N := 2) (n := 2) (by decide +kernel) (hts (.instantiable RX4 2) (by decide +kernel))
  obtain ⟨c5, i5, k5⟩ := u_known hts (C := RX5) (T := TX5) (N := 9) (n := 9) (by decide +kernel) (hts (.instantiable RX5 9) (by decide +kernel))
  obtain ⟨c6, i6, k6⟩ := u_known hts (C := RX6) (T := TX6) (N := 26) (n := 26) (by decide +kernel) (hts (.instantiable RX6 26) (by decide +kernel))
  obtain ⟨a0, q0, m0, x0, y0, z0⟩ := Cond.arrayClass_spec (hts (.arrayClass .int) (by decide +kernel))
  obtain ⟨a1, q1, m1, x1, y1, z1⟩ := Cond.arrayClass_spec (hts (.arrayClass .long) (by decide +kernel))
  obtain ⟨a2, q2, m2, x2, y2, z2⟩ := Cond.arrayClass_spec (hts (.arrayClass .boolean) (by decide +kernel))
  obtain ⟨m3, a3, q3, _, _, y3, z3, x3⟩ := hAo.spec
  refine ⟨(fun c => match c with | 0 => c0 | 1 => c1 | 2 => c2 | 3 => c3 | 4 => c4 | 5 => c5 | _ => c6, fun c => match c with | 0 => i0 | 1 => i1 | 2 => i2 | 3 => i3 | 4 => i4 | 5 => i5 | _ => i6), fun k => match k with | 0 => a0 | 1 => a1 | 2 => a2 | _ => a3, fun c q hq => ?_, fun k q hk => ?_⟩
  · match c, hq with
    | 0, hq => cases hq; exact k0
    | 1, hq => cases hq; exact k1
    | 2, hq => cases hq; exact k2
    | 3, hq => cases hq; exact k3
    | 4, hq => cases hq; exact k4
    | 5, hq => cases hq; exact k5
    | 6, hq => cases hq; exact k6
    | (n + 7), hq => cases hq
  · match k, hk with
    | 0, hk => cases hk; exact ⟨z_arrOf y0 z0, x0⟩
    | 1, hk => cases hk; exact ⟨z_arrOf y1 z1, x1⟩
    | 2, hk => cases hk; exact ⟨z_arrOf y2 z2, x2⟩
    | 3, hk => cases hk; exact ⟨z_arrOf y3 z3, x3⟩
    | (n + 4), hk => cases hk
set_option maxHeartbeats 4000000 in
theorem whole_start {p : Program} {e : Env} {s : State} {m : MethodId} {below : List Frame} {meth : Method} {c : Code} (l : Launch) (hst : l.stackTraces = false) {b L : Nat} {xs : Nat → Int32} (hL : L ≤ 2048) (C0 : lw_At p s m meth c b L xs) : W p l e room_1 s m #[Value.ref b] below meth c s.heap [] 0 0 (lw_Z below #[Value.ref b] s) (entryFrame m ([Value.ref b] : List Value).toArray 8) := by
  obtain ⟨hx, hb, hr, hml, hown, hts, hX, hbl, hlocks, hgv⟩ := C0
  have htw : ∀ w ∈ wsL_law, w.before #[Value.ref b] s = true := fun w h => hts w (wsL_law_in w h)
  have hAo : va_AOA .long s := hts (.arrayOver (.array .long)) (by decide +kernel)
  obtain ⟨D, cA, hK⟩ := lw_K htw hAo
  have hN : zNw s := va_Nw.of rfl (hts (.methodLinkNest RX3 82 yX5_leastOf "TourHouse") (by decide +kernel))
  rw [lg_entry_eq]
  refine lw_entry l hst (A := fun q => s.heap.size ≤ q) (D := D) (cA := cA) (bb := b) (L := L) (xs := xs) ⟨hx, hb, hml, hown, htw, hK, lw_G hts hgv, hN, hX, hbl, hL, lw_Zs hts hgv, rfl⟩ hAo (fun H locs ls c1 s1 hS h1 h2 => ?_) (lv_entry [.ref b] (Nat.le_of_ble_eq_true rfl))
  refine lv_iconst (v := 1) hx hb dL_law_767 (by decide) ?_
  refine va_forget (fun q hq => hS.2.2 q hq) ?_
  exact W.widen (k := 601024) (n := 7293034) (by omega) (by omega) (lw_ret hx hb hr hlocks dL_law_768)
