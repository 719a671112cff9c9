/-! 'throw new E("text")' where E(String) hands on by a pool number of its own (ix, bytes rx); launches without stack traces -/
section ZTX
set_option maxHeartbeats 2000000 in
/-- the constructor and the throw behind it: only that a cell of class E lies at a, and nothing else was written -/
theorem z_ctorX {p : Program} {l : Launch} {e : Env} {R : Room} {s : State} {m₀ : MethodId} {args : Array Value} {below : List Frame} {meth : Method} {c : Code} {W : State} {locs : List Loc} {cells slots : Nat}
    (X : Stand p l e R s m₀ args below meth c W locs cells slots) (hexec : p.tables.exec = Jvm.exec) (htr : e.platform.stackTraces = false) {own cls : String} {names : List String} {ic ix : Nat} {rx : ByteArray}
    (x0 : decode rx 0 = .ok (.aload_n 0, 1)) (x1 : decode rx 1 = .ok (.aload_n 1, 1)) (x2 : decode rx 2 = .ok (.invokespecial ix, 3)) (x5 : decode rx 5 = .ok (.return_, 1))
    (hown : s.vm.findClass own = some m₀.cls) (hcls : Bundle.fit cls = true) (hnames : ∀ n ∈ names, Bundle.fit n = true) (h : ∀ w ∈ Bundle.ownAtomsX own ic cls ix rx names, w.before args s = true)
    (hlocs : ∀ x ∈ locs, ∀ cell, s.heap[x.base]? = some cell → cell.vm.isStatics = false) {a : Addr} {cX : ClassId} {kX : Class} (hfX : s.vm.findClass cls = some cX) (hkX : s.vm.classes[cX]? = some kX)
    (hcell : W.heap[a]? = some (freshCell cX kX)) (hnew : s.heap.size ≤ a) {msg : Value} (hmsg : msg.isRef = true) {g : JFrame} (hg : g.method = m₀) (hsize : g.locals.size = c.maxLocals) (hlocked : g.locked = none) (hentered : g.entered = [])
    {rest : List Value} (hstack : g.stack = msg :: .ref a :: .ref a :: rest) (hd6 : decode c.code g.pc = .ok (.invokespecial ic, 3)) (hd9 : decode c.code (g.pc + 3) = .ok (.athrow, 1)) (hout : ∀ x ∈ c.exceptionTable.toList, covers x (g.pc + 3) = false)
    (hRf : names.length + 3 < R.frames) (hRl : 2 * g.monitorRoom + ((Value.ref a :: rest).map fun v => v.category).sum + (13 * (names.length + 1) + 42) ≤ R.locals) (hlocks : meth.locks = false) :
    ∃ U : State, Steps p.tables e below (W.setTop g) U ∧ U.status = .running ∧ Ended U below (.threw a) ∧ s.WarmedH U.vm ∧ s.sameButNew ({ U with vm := s.vm } : State) locs cells slots ∧
      ∃ ce : Cell, U.heap[a]? = some ce ∧ ce.vm = .none ∧ s.vm.findClass cls = some ce.cls := by
  have hpl : e.platform.magicAccessors = ({} : Platform).magicAccessors := by rw [X.admits.platform]
  have hw : ∀ w, w ∈ Bundle.ownAtomsX own ic cls ix rx names → w.holds args s none s [] = true := fun w q => h w q
  obtain ⟨T, Z0, L, -, Y⟩ := ThrowableC.of_atoms (args := args) (by rw [X.admits.platform]) (by rw [X.admits.platform]) hpl (fun w q => h w (by simp [Bundle.ownAtomsX, q]))
  obtain ⟨Z, M, LZ, LM, hnZ⟩ := Init0T.ofS_atoms (args := args) hpl L Y (fun w q => h w (by simp [Bundle.ownAtomsX, q]))
  obtain ⟨P1, Ps, hlen, L1, hL, hP1, hk1, hk2⟩ := Bundle.chainSX (args := args) hpl hnZ x0 x1 x2 x5 names cls hcls hnames (fun w q => h w (by simp [Bundle.ownAtomsX, q]))
  have hf : s.vm.findClass cls = some P1.m.cls := findClass_of_methodNamed hP1
  cases Option.some.inj (hfX.symm.trans hf)
  have hsel : ∀ (y : MethodName) (r : MethodId), s.methodNamed? y = some r → (y.cls ≠ "java/lang/invoke/MethodHandle" ∧ y.cls ≠ "java/lang/invoke/VarHandle") → (Cond.selects cls y y).before args s = true → selectMethod e.platform s.vm P1.m.cls r = .method r := by
    intro y r hy hp hs
    obtain ⟨c2, r2, m2, q1, q2, q3, q4, -⟩ := Cond.selects_spec hs
    cases Option.some.inj (q1.symm.trans hf)
    cases Option.some.inj (q2.symm.trans (State.methodFound?_of_named hy hp))
    cases Option.some.inj (q3.symm.trans hy)
    rw [Launch.admits_selectMethod X.admits]; exact q4
  have s0 := hsel Bundle.tFill0 T.fill0 Y.fill0 (by decide) (h _ (by simp [Bundle.ownAtomsX]))
  have s1 := hsel Bundle.tFill T.fill Y.fill (by decide) (h _ (by simp [Bundle.ownAtomsX]))
  obtain ⟨c1, k9, hc1, hk, hord, -, -, hn6⟩ := Cond.instantiable_spec (hw (.instantiable cls 6) (by simp [Bundle.ownAtomsX]))
  cases Option.some.inj (hc1.symm.trans hf)
  cases Option.some.inj (hkX.symm.trans hk)
  obtain ⟨cS0, hcS0, hiss⟩ := Y.statics
  obtain ⟨u0, hu0⟩ := Cond.staticRefV Y.unassigned L.unassignedStatic L.statics hcS0 hiss (hw (.isRef (.static Bundle.tN "UNASSIGNED_STACK" Bundle.steD)) (by simp [Bundle.ownAtomsX]))
  obtain ⟨sen, hsen⟩ := Cond.staticRefV Y.sentinel L.sentinelStatic L.statics hcS0 hiss (hw (.isRef (.static Bundle.tN "SUPPRESSED_SENTINEL" Bundle.listD)) (by simp [Bundle.ownAtomsX]))
  obtain ⟨ciB, iB, fB, hkB, hgB, haB, hsB, -, hnB, htB, hffB⟩ := Cond.ownField (t := .object "java/lang/Object") Y.found L.cls (by decide +kernel) (hw (.fieldLink Bundle.tN 198 Bundle.tN "backtrace" "Ljava/lang/Object;") (by simp [Bundle.ownAtomsX])) (hw (.lays Bundle.tN Bundle.tN "backtrace" "Ljava/lang/Object;") (by simp [Bundle.ownAtomsX])) e.platform hpl
  obtain ⟨cS, hcS, heS, -, hkeep⟩ := X.same.2.2.2.2.2 T.aS cS0 hcS0
  have hno : ∀ i, (⟨T.aS, i⟩ : Loc) ∉ locs := fun i q => by
    have := hlocs _ q cS0 hcS0
    rw [hiss] at this; cases this
  have hkn : cS.vm ≠ .unknown := by
    rw [heS]; intro q
    rw [show cS0.vm = .unknown from q] at hiss
    cases hiss
  have hne : T.aS ≠ a := Nat.ne_of_lt (Nat.lt_of_lt_of_le (Array.getElem?_eq_some_iff.mp hcS0).1 hnew)
  obtain ⟨iM, hffM⟩ := Y.msg
  obtain ⟨tyC, dC, hdC, hdnC⟩ := Cond.laysAt hf hk Y.cause (hw (.lays cls Bundle.tN "cause" "Ljava/lang/Throwable;") (by simp [Bundle.ownAtomsX]))
  obtain ⟨tyS, dS, hdS, hdnS⟩ := Cond.laysAt hf hk Y.stack (hw (.lays cls Bundle.tN "stackTrace" Bundle.steD) (by simp [Bundle.ownAtomsX]))
  obtain ⟨tyP, dP, hdP, hdnP⟩ := Cond.laysAt hf hk Y.supp (hw (.lays cls Bundle.tN "suppressedExceptions" Bundle.listD) (by simp [Bundle.ownAtomsX]))
  obtain ⟨tyM, dM, hdM, hdnM⟩ := Cond.laysAt hf hk hffM (hw (.lays cls Bundle.tN "detailMessage" "Ljava/lang/String;") (by simp [Bundle.ownAtomsX]))
  obtain ⟨tyB, dB, hdB, hdnB⟩ := Cond.laysAt hf hk hffB (hw (.lays cls Bundle.tN "backtrace" "Ljava/lang/Object;") (by simp [Bundle.ownAtomsX]))
  have bC := Cond.laysApart hdB hdC hdnB hdnC (by rw [hnB, Y.causeName]; decide)
  have bS := Cond.laysApart hdB hdS hdnB hdnS (by rw [hnB, Y.stackName]; decide)
  have bP := Cond.laysApart hdB hdP hdnB hdnP (by rw [hnB, Y.suppName]; decide)
  have hskip : SkipFacts T e.platform s (fun u => u) u0 ((preparedCellV T.toThrowableT (freshCell P1.m.cls kX) a u0 sen).withEntry W.cur) :=
    ⟨{ ci198 := ciB, i198 := iB, fBack := fB }, ⟨hkB, hgB, haB, hsB⟩, by
      have q := fresh_default (c := P1.m.cls) tyB
      rw [htB] at q
      simpa [preparedCellV, Cell.setSlot, Cell.withEntry, Array.getElem?_setIfInBounds, bC, bS, bP, bC.symm, bS.symm, bP.symm, defaultValue] using q, fun _ _ => rfl⟩
  obtain ⟨tm, mC, cdC, kC, vm₁, hnC, -, -, -, -, -, -, -, hW₁, st1⟩ := Steps.initColdS (tb := p.tables) (e := e) (below := below) (s := s) (U := W) X.here hexec X.warmed hpl hown (t := Bundle.initS cls) rfl rfl (Bundle.fit_spec hcls).2
    (hw (.methodLink own ic (Bundle.initS cls)) (by simp [Bundle.ownAtomsX])) (h (.instanceMethod (Bundle.initS cls)) (by cases names <;> simp [Bundle.ownAtomsX, Bundle.chainSAtomsX, Bundle.passSAtoms])) (bytes := rx) (maxL := 2) (h (.code (Bundle.initS cls) rx 2 none) (by cases names <;> simp [Bundle.ownAtomsX, Bundle.chainSAtomsX, Bundle.passSAtoms]))
    (f := g) hg (a := a) (msg := msg) (rest := .ref a :: rest) hstack hd6
  cases Option.some.inj (hnC.symm.trans hP1)
  have X₁ := X.noted hW₁
  obtain ⟨vm₂, X₂, st2⟩ := X₁.ctorMessageOffV hexec (g := { g with stack := .ref a :: rest }) hg hsize T L Z LZ M LM (P1 :: Ps)
    (fun P q => by rcases List.mem_cons.mp q with rfl | q; exact L1; exact hL P q) ⟨hk1, hk2⟩ (u0 := u0) (sen := sen) (self := a) hmsg (cell := freshCell P1.m.cls kX) (cellS := cS)
    hcell (fun _ => by simp) (by simp) rfl rfl s0 s1 hcS hne hkn (by rw [hkeep _ (hno _)]; exact hu0) (by rw [hkeep _ (hno _)]; exact hsen)
    (Takes.of_laid hk hord tyC (by rw [Y.causeType]; rfl)) (Takes.of_laid hk hord tyS (by rw [Y.stackType]; exact fits_refV_array _ u0)) (Takes.of_laid hk hord tyP (by rw [Y.suppType]; exact fits_refV_object _ sen))
    (Takes.of_laid hk hord tyM (by rw [Y.msgType]; exact fits_refV_object _ ⟨msg, hmsg⟩)) Y.objLocals hskip htr [] hd6
    (by simp only [List.length_cons, hlen]; omega) (by simp only [List.length_cons, hlen]; exact hRl)
  obtain ⟨hwalk, hrun, hended, hWU, hsame⟩ := X₂.athrowLeaves hexec (g := { g with stack := .ref a :: rest, pc := g.pc + 3 }) hg hlocked hentered hout (a := a) (rest := rest) rfl hd9
  have hlt : a < ((W.setVm vm₁).setVm vm₂).heap.size := (Array.getElem?_eq_some_iff.mp hcell).1
  refine ⟨_, st1 _ (fun acts => ?_), hrun, hended, hWU, hsame.weaken (fun y hy q => ?_) (Nat.le_refl _) (Nat.le_refl _), _, heapAt_setCell_self (s := (W.setVm vm₁).setVm vm₂) (plainBareV T.toThrowableT (freshCell P1.m.cls kX) a u0 sen msg) hlt, rfl, hf⟩
  · rw [doInvoke_state]
    exact st2 _ hwalk
  · rcases List.mem_append.mp hy with q1 | q1
    · exact q1
    · exfalso
      have hb : y.base = a := by
        simp only [List.mem_cons, List.not_mem_nil, or_false] at q1
        rcases q1 with rfl | rfl | rfl | rfl | rfl <;> rfl
      rw [hb] at q
      exact Nat.not_lt.mpr hnew q
end ZTX
section ZT2
/-- words of a throw that are not among the good ones -/
def zGw : List Cond := [.declares (Bundle.initS "java/lang/RuntimeException"), .declares (Bundle.initS "java/lang/Exception"), .declares (Bundle.initS Bundle.tN), .castable "java/lang/IllegalArgumentException" "java/lang/IllegalArgumentException", .castable "java/lang/IllegalStateException" "java/lang/IllegalStateException", .castable "java/util/NoSuchElementException" "java/util/NoSuchElementException"]
def zGs : List (Nat × String) := [(62, "a graph has 1 to 16 vertices"), (190, "there is no such vertex"), (82, "a weight is 0 to 1000000000"), (86, "there are 40 edges"), (93, "there is no edge"), (140, "there is no such edge"), (143, "there was no round since the graph last changed"), (145, "there is no such step of the row"), (154, "the path has 1000 steps"), (188, "there is no such thing to look at")]
def zGn : List (String × String) := [("java/lang/IllegalStateException", "java/lang/IllegalArgumentException"), ("java/lang/IllegalStateException", "java/util/NoSuchElementException")]
/-- what a throw needs of a state beside its good words -/
def zG (U : State) : Prop := (∀ w ∈ zGw, va_Nw w U) ∧ (∀ q ∈ zGs, ∃ sa : Nat, vk_R RX5 q.1 q.2 sa U) ∧ (∀ q ∈ zGn, va_Nc q.1 q.2 U)
theorem zG.warm {s U : State} (hW : s.WarmedH U.vm) (h : zG s) : zG U := by
  refine ⟨fun w hw => ?_, fun q hq => ?_, fun q hq => va_Nc.moved hW.alike (h.2.2 q hq)⟩
  · have h1 := h.1 w hw
    simp only [zGw, List.mem_cons, List.not_mem_nil, or_false] at hw
    rcases hw with rfl | rfl | rfl | rfl | rfl | rfl
    · exact va_Nw.warmD hW h1
    · exact va_Nw.warmD hW h1
    · exact va_Nw.warmD hW h1
    · exact va_Nw.warmC hW h1
    · exact va_Nw.warmC hW h1
    · exact va_Nw.warmC hW h1
  · obtain ⟨sa, h1⟩ := h.2.1 q hq
    exact ⟨sa, vk_R.warm hW h1⟩
theorem zG.use {s : State} {args : Array Value} (h : zG s) : ∀ w ∈ zGw, w.before args s = true := by
  intro w hw
  have h1 := h.1 w hw
  simp only [zGw, List.mem_cons, List.not_mem_nil, or_false] at hw
  rcases hw with rfl | rfl | rfl | rfl | rfl | rfl <;> exact va_Nw.use rfl h1
def zZ (A : Nat → Prop) (U : State) (H : Heap) : Prop := vx_Zq Bundle.tN "UNASSIGNED_STACK" Bundle.steD A U H ∧ vx_Zq Bundle.tN "SUPPRESSED_SENTINEL" Bundle.listD A U H
theorem zZ.moved {A : Nat → Prop} {u U : State} {H : Heap} (hvm : u.vm.Alike U.vm) (h : zZ A u H) : zZ A U H := ⟨h.1.moved hvm, h.2.moved hvm⟩
theorem zZ.kept {A : Nat → Prop} {U : State} {H H1 : Heap} (h : zZ A U H) (hq : ∀ a : Nat, a < H.size → ¬ A a → H1[a]? = H[a]?) : zZ A U H1 := ⟨h.1.kept hq, h.2.kept hq⟩
theorem zZ.narrow {A B : Nat → Prop} {U : State} {H : Heap} (h : zZ A U H) (hAB : ∀ q, B q → A q) : zZ B U H := ⟨h.1.narrow hAB, h.2.narrow hAB⟩
/-- a method that throws: its world is read only -/
def zTh (D : va_G) (cl : List vw_C) (ty : List (ClassId × FieldType)) (wc : va_W) (sz : Nat) (av : List Value) : Array Value → State → Prop := va_Pc av (fun U => U.heap.size = sz ∧ va_P D cl wc U.heap ∧ va_K D cl ty U ∧ zG U ∧ zZ (fun q => sz ≤ q) U U.heap)
def zNo : Array Value → State → Outcome → State → Prop := fun _ _ _ _ => False
def zXt (E : String) (sz : Nat) : String → State → State → Prop := vx_X (S := Unit) (fun _ => True) (fun E' _ _ => E' = E) (fun q => sz ≤ q)
variable {l : Launch} {D : va_G} {cl : List vw_C} {ty : List (ClassId × FieldType)} {wc ws : va_W}
theorem zTh_blind {sz : Nat} {av : List Value} : FrameBlind (zTh D cl ty wc sz av) := fun a U g mk q => by
  obtain ⟨q0, q1, qP, qK, qG, qZ⟩ := q
  exact ⟨q0, q1, qP, va_K.moved (u := U) (U := U.calling g mk a) (Vm.Alike.refl U.vm) qK, zG.warm (U := U.calling g mk a) (State.WarmedH.refl U) qG, zZ.moved (u := U) (U := U.calling g mk a) (Vm.Alike.refl U.vm) qZ⟩
theorem z_throws {y : MethodName} {wk ws' : List Cond} {rm : Room} {E : String} {cc : ByteArray} {maxL sz : Nat} {ret : Option FieldType} {av : List Value}
    (hy : plainName y.cls = true) (hw : wk = Cond.code y cc maxL ret :: ws') (hlen : (lg_sl av).length ≤ maxL)
    (body : ∀ (p : Program) (e : Env) (s : State) (m : MethodId) (below : List Frame) (meth : Method) (c : Code), p.tables.exec = Jvm.exec → c.code = cc → meth.sig.returnType = ret → c.maxLocals = maxL → s.vm.findClass y.cls = some m.cls → (∀ w ∈ wk, w.before av.toArray s = true) → meth.locks = false → (∀ x ∈ c.exceptionTable.toList, False) →
      s.heap.size = sz → va_P D cl wc s.heap → va_K D cl ty s → zG s → zZ (fun q => sz ≤ q) s s.heap → ∀ Q : State → Prop, Q = vx_MQ below zNo (zXt E sz) av.toArray s 1 6 (fun q => sz ≤ q) → ∀ ls : Array Slot, lv_has ls maxL (lv_args 0 av) → W p l e rm s m av.toArray below meth c s.heap [] 0 0 Q (F0 m 0 ls [])) :
    vx_Met l y wk rm (zTh D cl ty wc sz av) zNo (zXt E sz) 1 6 (fun q => sz ≤ q) := by
  refine vx_ofW (cc := cc) (maxL := maxL) (ret := ret) hy hw ?_
  intro p e s m args below meth c s₁ B hml hh hv
  obtain ⟨rfl, hsz, hP, hK, hG, hZ⟩ := hv
  rw [lg_entry_eq]
  exact body p e s m below meth c B.exec B.bytes B.returns hml (findClass_of_methodNamed B.named) (atoms_spec (ws := wk) B.pre) B.notSynchronized hh hsz hP hK hG hZ _ rfl _ (lv_entry av hlen)
end ZT2
section ZT3
variable {p : Program} {l : Launch} {e : Env} {R : Room} {s : State} {m : MethodId} {args : Array Value} {below : List Frame} {meth : Method} {c : Code} {H : Heap} {locs : List Loc} {cells slots : Nat} {Q : State → Prop}
variable {D : va_G} {cl : List vw_C} {ty : List (ClassId × FieldType)} {wc ws : va_W} {ls : Array Slot} {rest : List Value}
theorem zXt_at {E : String} {sz : Nat} {s t : State} (hsz : s.heap.size = sz) (h1 : s.heap.size ≤ t.heap.size) (h2 : ∀ q : Nat, q < s.heap.size → t.heap[q]? = s.heap[q]?) : zXt E sz E s t := ⟨(), trivial, rfl, h1, fun q hq _ => h2 q hq⟩
/-- 'throw new E("text")' at the end of such a method: IllegalArgumentException, IllegalStateException -/
theorem z_thrS {cc : ByteArray} {pc : Nat} (hexec : p.tables.exec = Jvm.exec) (hb : c.code = cc) (hl : l.stackTraces = false) {cls text : String} {ik is ic sz : Nat} {wk : List Cond}
    (hown : s.vm.findClass RX5 = some m.cls) (hts : ∀ w ∈ wk, w.before args s = true) (hin : ∀ w ∈ (Cond.classLink RX5 ik cls :: Cond.initialized cls :: (vx_atS RX5 ic cls ["java/lang/RuntimeException", "java/lang/Exception"]).filter goodWord), w ∈ wk)
    (hB : ∀ w ∈ (vx_atS RX5 ic cls ["java/lang/RuntimeException", "java/lang/Exception"]).filter (fun w => !goodWord w), w ∈ zGw) (hgood : ∀ w ∈ Cond.classLink RX5 ik cls :: Cond.initialized cls :: vx_atS RX5 ic cls ["java/lang/RuntimeException", "java/lang/Exception"], vx_ot w = true)
    (hcls : Bundle.fit cls = true) (hnames : ∀ n ∈ ["java/lang/RuntimeException", "java/lang/Exception"], Bundle.fit n = true) (htx : (is, text) ∈ zGs) (hsz : s.heap.size = sz) (hG : zG s) (hZ : zZ (fun q => sz ≤ q) s s.heap) (hh : ∀ x ∈ c.exceptionTable.toList, False) (hlocks : meth.locks = false) (hsize : ls.size = c.maxLocals)
    (d0 : decode cc pc = .ok (.new ik, 3)) (d3 : decode cc (pc + 3) = .ok (.dup, 1)) (d4 : decode cc (pc + 4) = .ok (.ldc is, 2)) (d6 : decode cc (pc + 6) = .ok (.invokespecial ic, 3)) (d9 : decode cc (pc + 9) = .ok (.athrow, 1))
    (hRf : 5 < R.frames) (hRl : 82 ≤ R.locals) (hRc : 1 ≤ R.cells) (hRs : 6 ≤ R.slots) (hQ : Q = vx_MQ below zNo (zXt cls sz) args s 1 6 (fun q => sz ≤ q)) :
    W p l e R s m args below meth c s.heap [] 0 0 Q (F0 m pc ls []) := by
  subst hQ
  obtain ⟨sa, hsa⟩ := hG.2.1 _ htx
  refine vx_throwS (A := fun q => sz ≤ q) (names := ["java/lang/RuntimeException", "java/lang/Exception"]) hexec hb hl hown hcls hnames (hts _ (hin _ List.mem_cons_self)) (hts _ (hin _ (List.mem_cons_of_mem _ List.mem_cons_self))) hsa
    (vx_hat (B := zGw) (fun w hw => hts w (hin w (List.mem_cons_of_mem _ (List.mem_cons_of_mem _ hw)))) hB hG.use) hgood hZ.1 hZ.2 va_S.rf hsize d0 d3 d4 d6 d9 (fun x hx => (hh x hx).elim) (by simpa using hRf) (by simpa using hRl) (by omega) (by omega) hlocks
    (fun t _ h1 h2 => zXt_at hsz h1 h2) (fun z hz => nomatch hz) (Nat.le_refl _) (Nat.le_refl _)
end ZT3
section ZT4
variable {p : Program} {l : Launch} {e : Env} {R : Room} {s : State} {m : MethodId} {args : Array Value} {below : List Frame} {meth : Method} {c : Code} {H : Heap} {locs : List Loc} {cells slots : Nat} {Q : State → Prop}
variable {y : MethodName} {bytes cc : ByteArray} {maxL nL n index : Nat} {ret : Option FieldType} {wk : List Cond} {rm : Room} {Ts : List Cond} {own C : String} {b : Addr} {As rest : List Value} {pc : Nat} {ls : Array Slot} {st : List Value}
variable {D : va_G} {cl : List vw_C} {ty : List (ClassId × FieldType)} {wc ws w1 wr ws' : va_W} {A : Nat → Prop} {H0 : Heap} {T : u_T} {N : Nat} {fs : List Value}
/-- 'throw new NoSuchElementException("text")' -/
theorem z_thrN (hexec : p.tables.exec = Jvm.exec) (hb : c.code = cc) (hl : l.stackTraces = false) {text : String} {is sz : Nat} {wk : List Cond}
    (hown : s.vm.findClass RX5 = some m.cls) (hts : ∀ w ∈ wk, w.before args s = true) (hin : ∀ w ∈ (Cond.classLink RX5 138 "java/util/NoSuchElementException" :: Cond.initialized "java/util/NoSuchElementException" :: zAtN.filter goodWord), w ∈ wk)
    (htx : (is, text) ∈ zGs) (hsz : s.heap.size = sz) (hG : zG s) (hZ : zZ (fun q => sz ≤ q) s s.heap) (hh : ∀ x ∈ c.exceptionTable.toList, False) (hlocks : meth.locks = false) (hsize : ls.size = c.maxLocals)
    (d0 : decode cc pc = .ok (.new 138, 3)) (d3 : decode cc (pc + 3) = .ok (.dup, 1)) (d4 : decode cc (pc + 4) = .ok (.ldc is, 2)) (d6 : decode cc (pc + 6) = .ok (.invokespecial 142, 3)) (d9 : decode cc (pc + 9) = .ok (.athrow, 1))
    (hRf : 5 < R.frames) (hRl : 82 ≤ R.locals) (hRc : 1 ≤ R.cells) (hRs : 6 ≤ R.slots) (hQ : Q = vx_MQ below zNo (zXt "java/util/NoSuchElementException" sz) args s 1 6 (fun q => sz ≤ q)) :
    W p l e R s m args below meth c s.heap [] 0 0 Q (F0 m pc ls []) := by
  subst hQ
  obtain ⟨sa, hsa⟩ := hG.2.1 _ htx
  intro T hT X
  have htr : e.platform.stackTraces = false := (show e.platform.stackTraces = l.stackTraces by rw [X.admits.platform]).trans hl
  have Y := vx_rebase X (R' := { frames := R.frames, locals := R.locals, cells := 1, slots := 6 }) (Nat.le_refl _) (Nat.le_refl _) (by show 0 + 1 ≤ R.cells; omega) (by show 0 + 6 ≤ R.slots; omega)
  obtain ⟨s', hA⟩ : ∃ z, z = (T.setVm s.vm).setFrames (.invoking m args :: below) := ⟨_, rfl⟩
  rw [← hA] at Y
  have hvm : s'.vm = s.vm := by rw [hA]; rfl
  have hhp : s'.heap = s.heap := by rw [hA]; exact hT
  have hW0 : s.WarmedH s'.vm := by rw [hvm]; exact State.WarmedH.refl s
  have hat : ∀ w ∈ zAtN, w.before args s = true := vx_hat (B := zGw) (fun w hw => hts w (hin w (List.mem_cons_of_mem _ (List.mem_cons_of_mem _ hw)))) (by decide +kernel) hG.use
  have hat' : ∀ w ∈ zAtN, w.before args s' = true := fun w hw => vx_ot_at hW0 hvm.symm ((by decide +kernel : ∀ w ∈ zAtN, vx_ot w = true) w hw) (hat w hw)
  have hk' := vx_ot_at (a' := args) hW0 hvm.symm (by decide +kernel) (hts _ (hin _ List.mem_cons_self))
  have hini' := vx_ot_at (a' := args) hW0 hvm.symm (by decide +kernel) (hts _ (hin _ (List.mem_cons_of_mem _ List.mem_cons_self)))
  have hZ' : zZ (fun q => sz ≤ q) s' s'.heap := by rw [hhp]; exact hZ.moved hW0.alike
  have h : ∀ w ∈ Bundle.ownAtomsX RX5 142 "java/util/NoSuchElementException" 13 zN13 ["java/lang/RuntimeException", "java/lang/Exception"], w.before args s' = true := vx_own hat' (vx_isRefq hZ'.1.1) (vx_isRefq hZ'.2.1) hZ'.1.2.word hZ'.2.2.word
  have hown' : s'.vm.findClass RX5 = some m.cls := by rw [hvm]; exact hown
  have hins : (Cond.instantiable "java/util/NoSuchElementException" 6).before args s' = true := h _ (by simp [Bundle.ownAtomsX])
  obtain ⟨vm₁, cX, kX, hfX, hkX, -, -, X₁, st1⟩ := Y.newCold hexec (own := RX5) (C := "java/util/NoSuchElementException") (index := 138) (n := 6) hown' hk' hins hini'
    (g := F0 m pc ls []) rfl (by rw [hb]; exact d0) (Nat.le_refl _) (Nat.le_refl _)
  generalize hT1 : (T.setVm vm₁).pushCell { cls := cX, slots := kX.instanceTypes.map defaultValue, vm := .none } = T1 at X₁ st1
  have hcat : (Value.ref T.heap.size).category = 1 := rfl
  have hcellA : T1.heap[T.heap.size]? = some (freshCell cX kX) := by rw [← hT1]; exact State.heap_pushCell_size _ _
  have d3' : decode c.code (pc + 3) = .ok (.dup, 1) := by rw [hb]; exact d3
  have d4' : decode c.code (pc + 4) = .ok (.ldc is, 2) := by rw [hb]; exact d4
  have hstr' : vk_R RX5 is text sa s' := vk_R.warm hW0 hsa
  obtain ⟨U, hsteps, hrun, hend, hW, hsame, ce, hce, hcv, hcc⟩ := z_ctorX X₁ hexec htr (own := RX5) (cls := "java/util/NoSuchElementException") (names := ["java/lang/RuntimeException", "java/lang/Exception"]) (ic := 142) (ix := 13) (rx := zN13) (by decide +kernel) (by decide +kernel) (by decide +kernel) (by decide +kernel) hown' (by decide +kernel) (by decide +kernel) h (fun x hx => nomatch hx) hfX hkX hcellA (by rw [hhp, hT]; exact Nat.le_refl _) (msg := .ref sa) rfl
    (g := { method := m, pc := pc + 6, locals := ls, stack := .ref sa :: .ref T.heap.size :: .ref T.heap.size :: [], locked := none }) rfl hsize rfl rfl (rest := []) rfl
    (by rw [hb]; exact d6) (by rw [hb]; exact d9) (fun x hx => (hh x hx).elim) hRf (by simp only [List.map_cons, List.sum_cons, hcat]; simpa using hRl) hlocks
  obtain ⟨f1, f2⟩ := vx_frame hsame
  rw [hhp] at f1 f2
  have hWs : s.WarmedH U.vm := State.WarmedH.trans hW0 hW
  have hcl : s.vm.findClass "java/util/NoSuchElementException" = some ce.cls := by rw [← hvm]; exact hcc
  have hall : s.sameButNew ({ U with vm := s.vm } : State) [] 1 6 := by
    subst hA
    obtain ⟨e1, e2⟩ := hsame
    rw [State.setFrames_setFrames] at e1
    have h2 : (T.setVm s.vm).sameButNew ({ U with vm := s.vm } : State) [] (0 + 1) (0 + 6) := ⟨e1, e2⟩
    have h3 := X.same.trans h2
    exact h3.mono (Nat.le_refl _) (Nat.le_refl _)
  refine ⟨U, ?_, .threw T.heap.size, hrun, hend, Or.inr ⟨T.heap.size, rfl, "java/util/NoSuchElementException", ce, [], zXt_at hsz f1 (fun q hq => f2 q hq (fun z hz => nomatch hz)), hce, hcv, hcl, hWs, hall, fun z hz => nomatch hz⟩⟩
  refine st1 _ ?_
  show Steps p.tables e below (T1.setTop { method := m, pc := pc + 3, locals := ls, stack := .ref T.heap.size :: [], locked := none }) _
  jvm_step X₁.here [X₁.here.top, hexec, d3', Value.category]
  exact X₁.ldcString hexec (own := RX5) (text := text) (index := is) (a := sa) hown' hstr'.1 hstr'.2
    (g := { method := m, pc := pc + 4, locals := ls, stack := .ref T.heap.size :: .ref T.heap.size :: [], locked := none }) rfl d4' _ hsteps
/-- a reading method without an answer -/
def zSv : Array Value → State → Outcome → State → Prop := fun _ st o t => o = .returned none ∧ t.heap = st.heap
theorem z_vretR (hexec : p.tables.exec = Jvm.exec) (hb : c.code = cc) (hr : meth.sig.returnType = none) (hlocks : meth.locks = false) (hQ : Q = MQ below zSv args s cells slots (fun _ => False)) (hdg : decode cc pc = .ok (.return_, 1)) (hH : H = s.heap) (hlo : locs = []) : W p l e R s m args below meth c H locs cells slots Q (F0 m pc ls []) := by
  subst hQ; subst hH; subst hlo
  exact W.vret hexec hb hr (fun t ht _ => ⟨rfl, ht⟩) (fun q h => by cases h) hdg hlocks
theorem z_cRVv (S : CallFix p m c cc nL s args Ts own) (hM : Met l y wk rm (zRd D cl ty wc (.ref b :: As)) zSv 0 0 (fun _ => False)) (cw : CallW R s args own C index y bytes maxL ret wk rm 0 0 n) (hP : va_P D cl ws H) (hK : va_K D cl ty s) (isC : List Nat) (hC : isC.filterMap (fun i => ws[i]?) = wc) (ci q0 : Nat) (hcl : cl[ci]? = some (C, T, N)) (he : wc[q0]? = some (b, .inr (ci, fs)))
    (hn : As.length = n) (hl : ls.size = nL) (hst : st = As.reverse ++ .ref b :: rest) (hw : (rest.map fun v => v.category).sum ≤ 8) (hf : cells ≤ R.cells ∧ slots ≤ R.slots) (hdg : decode cc pc = .ok (.invokevirtual index, 3))
    (kk : W p l e R s m args below meth c H locs cells slots Q (F0 m (pc + 3) ls rest)) : W p l e R s m args below meth c H locs cells slots Q (F0 m pc ls st) := by
  have hPc := hP.sub isC hC
  have hr := W.runV (e := e) (H := H) (locs := locs) (cells := cells) (slots := slots) (below := below) (meth := meth) (g := F0 m pc ls st) (As := As) (rest := rest) S hM cw ⟨zRd_blind, va_recv hK hPc hcl he, fun U hU hW => ⟨rfl, by rw [hU]; exact hPc, va_K.moved hW.alike hK⟩⟩ rfl hn hl hst (lv_room hw) hdg hf
  intro T hT X
  obtain ⟨v, st₀, t, T', L, h0, X', hL, e1, ⟨hv, hh⟩, st⟩ := hr T hT X
  cases hv
  obtain ⟨t2, a1, b1⟩ := kk T' (by rw [e1, hh, h0]) (Stand.forget X' (fun q h => (hL q h).elim))
  exact ⟨t2, st t2 a1, b1⟩
/-- a method that throws, called on an object -/
theorem z_cTV {E : String} (S : CallFix p m c cc nL s args Ts own) (hM : vx_Met l y wk rm (zTh D cl ty wc H.size (.ref b :: As)) zNo (zXt E H.size) 1 6 (fun q => H.size ≤ q)) (cw : CallW R s args own C index y bytes maxL ret wk rm 1 6 n) (hP : va_P D cl ws H) (hK : va_K D cl ty s) (hG : zG s) (hZ : zZ (fun q => H.size ≤ q) s H) (hS : va_S A H0 H locs) (hA : ∀ q, H.size ≤ q → A q) (isC : List Nat) (hC : isC.filterMap (fun i => ws[i]?) = wc) (ci q0 : Nat) (hcl : cl[ci]? = some (C, T, N)) (he : wc[q0]? = some (b, .inr (ci, fs)))
    (hn : As.length = n) (hl : ls.size = nL) (hst : st = As.reverse ++ .ref b :: rest) (hw : (rest.map fun v => v.category).sum ≤ 8) (hf : cells + 1 ≤ R.cells ∧ slots + 6 ≤ R.slots) (hdg : decode cc pc = .ok (.invokevirtual index, 3))
    (kx : ∀ (ce : Cell) (q9 : Addr) (H1 : Heap) (locs1 : List Loc), H.size ≤ H1.size → (∀ q : Nat, q < H.size → H1[q]? = H[q]?) → va_S A H0 H1 locs1 → H1[q9]? = some ce → ce.vm = .none → s.vm.findClass E = some ce.cls → vx_W p l e R s m args below meth c H1 locs1 (cells + 1) (slots + 6) Q (F0 m pc ls rest) q9) : W p l e R s m args below meth c H locs cells slots Q (F0 m pc ls st) := by
  have hPc := hP.sub isC hC
  have hr := vx_runV (e := e) (H := H) (locs := locs) (cells := cells) (slots := slots) (below := below) (meth := meth) (g := F0 m pc ls st) (As := As) (rest := rest) S hM cw ⟨zTh_blind, va_recv hK hPc hcl he, fun U hU hW => ⟨rfl, by rw [hU], by rw [hU]; exact hPc, va_K.moved hW.alike hK, zG.warm hW hG, by rw [hU]; exact hZ.moved hW.alike⟩⟩ rfl hn hl hst (lv_room hw) hdg hf
  intro T hT X
  rcases hr T hT X with ⟨v, st₀, t, T', L, h0, X', hL, e1, e2, hq, st⟩ | ⟨q, st₀, t, T', L, E', ce, h0, X', hL, e1, e2, ⟨u, -, hE, hF⟩, hce, hcv, hcl', st⟩
  · exact hq.elim
  · subst hE
    obtain ⟨k1, k2, k3⟩ := vx_keep h0 e1 hS (fun q _ h => hA q h) (fun q h => hA q h) hL hF
    obtain ⟨t2, a1, b1⟩ := kx ce q T'.heap (locs ++ L) k1 (fun q hq => k2 q hq (Nat.not_le.mpr hq)) k3 (by rw [e1]; exact hce) hcv hcl' T' rfl X'
    exact ⟨t2, st.trans a1, b1⟩
/-- .. and passed on by a method that throws it too -/
theorem z_cTVo {E : String} {sz : Nat} (S : CallFix p m c cc nL s args Ts own) (hsz : s.heap.size = sz) (hM : vx_Met l y wk rm (zTh D cl ty wc sz (.ref b :: As)) zNo (zXt E sz) 1 6 (fun q => sz ≤ q)) (cw : CallW R s args own C index y bytes maxL ret wk rm 1 6 n) (hP : va_P D cl ws s.heap) (hK : va_K D cl ty s) (hG : zG s) (hZ : zZ (fun q => sz ≤ q) s s.heap) (isC : List Nat) (hC : isC.filterMap (fun i => ws[i]?) = wc) (ci q0 : Nat) (hcl : cl[ci]? = some (C, T, N)) (he : wc[q0]? = some (b, .inr (ci, fs)))
    (hn : As.length = n) (hl : ls.size = nL) (hst : st = As.reverse ++ .ref b :: rest) (hw : (rest.map fun v => v.category).sum ≤ 8) (hf : 1 ≤ R.cells ∧ 6 ≤ R.slots) (hh : ∀ x ∈ c.exceptionTable.toList, False) (hlocks : meth.locks = false) (hQ : Q = vx_MQ below zNo (zXt E sz) args s 1 6 (fun q => sz ≤ q)) (hdg : decode cc pc = .ok (.invokevirtual index, 3)) : W p l e R s m args below meth c s.heap [] 0 0 Q (F0 m pc ls st) := by
  subst hQ; subst hsz
  refine z_cTV (A := fun q => s.heap.size ≤ q) S hM cw hP hK hG hZ va_S.rf (fun _ h => h) isC hC ci q0 hcl he hn hl hst hw (by omega) hdg (fun ce q9 H1 locs1 h1 h2 hS h3 h4 h5 => ?_)
  exact vx_out (fun x hx => (hh x hx).elim) hlocks h3 h4 h5 (fun t ht _ => zXt_at rfl (by rw [ht]; exact h1) (fun q hq => by rw [ht]; exact h2 q hq)) hS.2.2 (by omega) (by omega)
end ZT4
