/-! methods with a table of handlers that answer; a call that throws, caught -/
section ZH
variable {l : Launch} {D : va_G} {cl : List vw_C} {ty : List (ClassId × FieldType)} {wc ws : va_W} {av : List Value}
theorem z_ofWH {y : MethodName} {wk ws' : List Cond} {rm : Room} {Pc : Array Value → State → Prop} {Qc : Array Value → State → Outcome → State → Prop} {mc ms : Nat} {free : Addr → Prop} {cc : ByteArray} {maxL : Nat} {ret : Option FieldType} {hh : List (Nat × Nat × Nat × Nat)}
    (hy : plainName y.cls = true) (hw : wk = Cond.codeWith y cc maxL ret hh :: ws')
    (body : ∀ p e s m args below meth c s₁, BodyLoose p l y (headSpec wk rm) cc maxL ret e s m args below meth c s₁ → c.maxLocals = maxL → c.exceptionTable.toList = tableOf hh → Pc args s →
      W p l e (headSpec wk rm).room s m args below meth c s.heap [] 0 0 (MQ below Qc args s mc ms free) (entryFrame m args maxL)) : Met l y wk rm Pc Qc mc ms free := by
  refine MetFree.of_bodyS (code := cc) (maxLocals := maxL) (ret := ret) hy ?_ ?_
  · intro args s m h hn
    obtain ⟨m9, meth, c, hn9, h1, h2, h3, h4, -, h5, h6, -⟩ := Cond.codeWith_spec (atoms_spec (ws := wk) h _ (by rw [hw]; exact List.mem_cons_self))
    cases hn.symm.trans hn9
    exact ⟨meth, c, h1, h2, h3, h4, h5, h6⟩
  · intro p e s m args below meth c s₁ B hml hP _
    have hh0 : s₁.heap = s.heap := by rw [B.state]; rfl
    obtain ⟨t, a1, o, b1, b2, b3⟩ := body p e s m args below meth c s₁ B hml (vx_table (x := y) B (atoms_spec (ws := wk) B.pre _ (by rw [hw]; exact List.mem_cons_self))) hP s₁ hh0 (Stand.of_body B)
    exact ⟨t, o, a1, b1, b2, b3⟩
theorem z_writeH {y : MethodName} {wk ws' : List Cond} {rm : Room} {Qc : Array Value → State → Outcome → State → Prop} {cc : ByteArray} {maxL sz mc ms : Nat} {ret : Option FieldType} {hh : List (Nat × Nat × Nat × Nat)}
    (hy : plainName y.cls = true) (hw : wk = Cond.codeWith y cc maxL ret hh :: ws') (hlen : (lg_sl av).length ≤ maxL)
    (body : ∀ (p : Program) (e : Env) (s : State) (m : MethodId) (below : List Frame) (meth : Method) (c : Code), p.tables.exec = Jvm.exec → c.code = cc → meth.sig.returnType = ret → c.maxLocals = maxL → s.vm.findClass y.cls = some m.cls → (∀ w ∈ wk, w.before av.toArray s = true) → meth.locks = false →
      ∀ A : Nat → Prop, A = va_A wc sz → (∀ q : Nat, s.heap.size ≤ q → A q) → ∀ (H : Heap) (locs : List Loc), va_P D cl wc H → va_K D cl ty s → va_D A wc → va_S A s.heap H locs → ∀ Q : State → Prop, Q = MQ below Qc av.toArray s mc ms A → ∀ ls : Array Slot, lv_has ls maxL (lv_args 0 av) → W p l e rm s m av.toArray below meth c H locs 0 0 Q (F0 m 0 ls [])) :
    Met l y wk rm (zWr D cl ty wc sz av) Qc mc ms (va_A wc sz) := by
  refine z_ofWH (cc := cc) (maxL := maxL) (ret := ret) hy hw ?_
  intro p e s m args below meth c s₁ B hml _ hv
  obtain ⟨rfl, hsz, hP, hK, hD⟩ := hv
  rw [lg_entry_eq]
  exact body p e s m below meth c B.exec B.bytes B.returns hml (findClass_of_methodNamed B.named) (atoms_spec (ws := wk) B.pre) B.notSynchronized (va_A wc sz) rfl (fun q h => Or.inr (hsz ▸ h)) s.heap [] hP hK (hD.self (sz := sz)) va_S.rf _ rfl _ (lv_entry av hlen)
theorem z_writeNH {y : MethodName} {wk ws' : List Cond} {rm : Room} {Qc : Array Value → State → Outcome → State → Prop} {cc : ByteArray} {maxL sz mc ms : Nat} {ret : Option FieldType} {hh : List (Nat × Nat × Nat × Nat)}
    (hy : plainName y.cls = true) (hw : wk = Cond.codeWith y cc maxL ret hh :: ws') (hlen : (lg_sl av).length ≤ maxL)
    (body : ∀ (p : Program) (e : Env) (s : State) (m : MethodId) (below : List Frame) (meth : Method) (c : Code), p.tables.exec = Jvm.exec → c.code = cc → meth.sig.returnType = ret → c.maxLocals = maxL → s.vm.findClass y.cls = some m.cls → (∀ w ∈ wk, w.before av.toArray s = true) → meth.locks = false →
      ∀ A : Nat → Prop, A = va_A wc sz → (∀ q : Nat, s.heap.size ≤ q → A q) → ∀ (H : Heap) (locs : List Loc), va_P D cl wc H → va_K D cl ty s → va_D A wc → va_S A s.heap H locs → zNw s → ∀ Q : State → Prop, Q = MQ below Qc av.toArray s mc ms A → ∀ ls : Array Slot, lv_has ls maxL (lv_args 0 av) → W p l e rm s m av.toArray below meth c H locs 0 0 Q (F0 m 0 ls [])) :
    Met l y wk rm (zWrN D cl ty wc sz av) Qc mc ms (va_A wc sz) := by
  refine z_ofWH (cc := cc) (maxL := maxL) (ret := ret) hy hw ?_
  intro p e s m args below meth c s₁ B hml _ hv
  obtain ⟨rfl, hsz, hP, hK, hD, hN⟩ := hv
  rw [lg_entry_eq]
  exact body p e s m below meth c B.exec B.bytes B.returns hml (findClass_of_methodNamed B.named) (atoms_spec (ws := wk) B.pre) B.notSynchronized (va_A wc sz) rfl (fun q h => Or.inr (hsz ▸ h)) s.heap [] hP hK (hD.self (sz := sz)) va_S.rf hN _ rfl _ (lv_entry av hlen)
/-- answers v; nothing that was there is written -/
def zQt (v : Int32) (sz : Nat) : Array Value → State → Outcome → State → Prop := fun _ st o t => o = .returned (some (.int v)) ∧ va_F (fun q => sz ≤ q) st t
theorem z_catches {y : MethodName} {wk ws' : List Cond} {rm : Room} {v : Int32} {cc : ByteArray} {maxL sz : Nat} {ret : Option FieldType} {hh : List (Nat × Nat × Nat × Nat)}
    (hy : plainName y.cls = true) (hw : wk = Cond.codeWith y cc maxL ret hh :: ws') (hlen : (lg_sl av).length ≤ maxL)
    (body : ∀ (p : Program) (e : Env) (s : State) (m : MethodId) (below : List Frame) (meth : Method) (c : Code), p.tables.exec = Jvm.exec → c.code = cc → meth.sig.returnType = ret → c.maxLocals = maxL → s.vm.findClass y.cls = some m.cls → (∀ w ∈ wk, w.before av.toArray s = true) → meth.locks = false → c.exceptionTable.toList = tableOf hh →
      s.heap.size = sz → va_P D cl wc s.heap → va_K D cl ty s → zG s → zZ (fun q => sz ≤ q) s s.heap → ∀ Q : State → Prop, Q = MQ below (zQt v sz) av.toArray s 1 6 (fun q => sz ≤ q) → ∀ ls : Array Slot, lv_has ls maxL (lv_args 0 av) → W p l e rm s m av.toArray below meth c s.heap [] 0 0 Q (F0 m 0 ls [])) :
    Met l y wk rm (zTh D cl ty wc sz av) (zQt v sz) 1 6 (fun q => sz ≤ q) := by
  refine z_ofWH (cc := cc) (maxL := maxL) (ret := ret) hy hw ?_
  intro p e s m args below meth c s₁ B hml ht hv
  obtain ⟨rfl, hsz, hP, hK, hG, hZ⟩ := hv
  rw [lg_entry_eq]
  exact body p e s m below meth c B.exec B.bytes B.returns hml (findClass_of_methodNamed B.named) (atoms_spec (ws := wk) B.pre) B.notSynchronized ht hsz hP hK hG hZ _ rfl _ (lv_entry av hlen)
end ZH
section ZH2
variable {p : Program} {l : Launch} {e : Env} {R : Room} {s : State} {m : MethodId} {args : Array Value} {below : List Frame} {meth : Method} {c : Code} {H : Heap} {locs : List Loc} {cells slots : Nat} {Q : State → Prop}
variable {y : MethodName} {bytes cc : ByteArray} {maxL nL n index : Nat} {ret : Option FieldType} {wk : List Cond} {rm : Room} {Ts : List Cond} {own C : String} {b : Addr} {As rest : List Value} {pc : Nat} {ls : Array Slot} {st : List Value}
variable {D : va_G} {cl : List vw_C} {ty : List (ClassId × FieldType)} {wc ws w1 wr ws' : va_W} {A : Nat → Prop} {H0 : Heap} {T : u_T} {N : Nat} {fs : List Value}
/-- a call that throws E, caught by the row x -/
theorem z_cTVh {E : String} {sz : Nat} (S : CallFix p m c cc nL s args Ts own) (hsz : s.heap.size = sz) (hM : vx_Met l y wk rm (zTh D cl ty wc sz (.ref b :: As)) zNo (zXt E sz) 1 6 (fun q => sz ≤ q)) (cw : CallW R s args own C index y bytes maxL ret wk rm 1 6 n) (hP : va_P D cl ws s.heap) (hK : va_K D cl ty s) (hG : zG s) (hZ : zZ (fun q => sz ≤ q) s s.heap) (isC : List Nat) (hC : isC.filterMap (fun i => ws[i]?) = wc) (ci q0 : Nat) (hcl : cl[ci]? = some (C, T, N)) (he : wc[q0]? = some (b, .inr (ci, fs)))
    (hn : As.length = n) (hl : ls.size = nL) (hst : st = As.reverse ++ .ref b :: rest) (hw : (rest.map fun v => v.category).sum ≤ 8) (hf : 1 ≤ R.cells ∧ 6 ≤ R.slots) (hdg : decode cc pc = .ok (.invokevirtual index, 3))
    (pre : List ExceptionTableEntry) (x : ExceptionTableEntry) (suf : List ExceptionTableEntry) (hsplit : c.exceptionTable.toList = pre ++ x :: suf) (hpass : ∀ z ∈ pre, covers z pc = false ∨ (z.catchType ≠ 0 ∧ ∃ nm : String, (Cond.classLink own z.catchType nm).before args s = true ∧ va_Nc E nm s)) (hx : covers x pc = true) (h0 : x.catchType ≠ 0)
    (hlink : (Cond.classLink own x.catchType E).before args s = true) (hcast : Cond.castable E E ∈ zGw)
    (kk : ∀ (q9 : Nat) (H1 : Heap) (locs1 : List Loc), va_S (fun q => sz ≤ q) s.heap H1 locs1 → W p l e R s m args below meth c H1 locs1 1 6 Q (F0 m x.handlerPc ls [.ref q9])) : W p l e R s m args below meth c s.heap [] 0 0 Q (F0 m pc ls st) := by
  subst hsz
  refine z_cTV (A := fun q => s.heap.size ≤ q) S hM cw hP hK hG hZ va_S.rf (fun _ h => h) isC hC ci q0 hcl he hn hl hst hw (by omega) hdg (fun ce q9 H1 locs1 h1 h2 hS h3 h4 h5 => ?_)
  exact vx_catch (own := own) (name := E) S.2.2.2.1 pre x suf hsplit hpass hx h0 hlink (hG.use _ hcast) h3 h4 h5 (kk q9 H1 locs1 hS)
theorem z_iretT {v : Int32} {sz : Nat} (hexec : p.tables.exec = Jvm.exec) (hb : c.code = cc) (hr : meth.sig.returnType = some .int) (hlocks : meth.locks = false) (hQ : Q = MQ below (zQt v sz) args s cells slots (fun q => sz ≤ q)) (hS : va_S (fun q => sz ≤ q) s.heap H locs) (hdg : decode cc pc = .ok (.ireturn, 1)) : W p l e R s m args below meth c H locs cells slots Q (F0 m pc ls [.int v]) := by
  subst hQ
  exact W.iret hexec hb hr (fun t ht _ => ⟨rfl, hS.F ht⟩) hS.2.2 hdg hlocks
end ZH2
