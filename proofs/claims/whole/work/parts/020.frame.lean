/-! contracts and calls in one form: a world is a list of cells in a fixed order; a method reads it, or turns it into another list of the same addresses -/
abbrev zT (cA : Nat → ClassId) : List (ClassId × FieldType) := [(cA 0, .int), (cA 1, .long), (cA 2, .boolean), (cA 3, .array .long)]
abbrev aI (cA : Nat → ClassId) (n : Nat) (f : Nat → Int32) : va_E := .inl (cA 0, n, .inl f)
abbrev aJ (cA : Nat → ClassId) (n : Nat) (f : Nat → Int64) : va_E := .inl (cA 1, n, .inr (.inl f))
abbrev aZ (cA : Nat → ClassId) (n : Nat) (f : Nat → Int32) : va_E := .inl (cA 2, n, .inl f)
abbrev aG (cA : Nat → ClassId) (n : Nat) (f : Nat → Option Nat) : va_E := .inl (cA 3, n, .inr (.inr (.inr (.inr f))))
/-- what a reading method may take as given -/
def zRd (D : va_G) (cl : List vw_C) (ty : List (ClassId × FieldType)) (wc : va_W) (av : List Value) : Array Value → State → Prop := va_Pc av (fun U => va_P D cl wc U.heap ∧ va_K D cl ty U)
/-- what a writing method may take as given -/
def zWr (D : va_G) (cl : List vw_C) (ty : List (ClassId × FieldType)) (wc : va_W) (sz : Nat) (av : List Value) : Array Value → State → Prop := va_Pc av (fun U => U.heap.size = sz ∧ va_P D cl wc U.heap ∧ va_K D cl ty U ∧ va_D (fun _ => True) wc)
def zQv (D : va_G) (cl : List vw_C) (ty : List (ClassId × FieldType)) (A : Nat → Prop) (w1 : va_W) : Array Value → State → Outcome → State → Prop := va_Qv (fun _ : Unit => True) (fun _ t => va_P D cl w1 t.heap ∧ va_K D cl ty t ∧ va_D A w1) A
def zQi (D : va_G) (cl : List vw_C) (ty : List (ClassId × FieldType)) (A : Nat → Prop) (w1 : va_W) (v : Int32) : Array Value → State → Outcome → State → Prop := va_Qi (fun r (_ : Unit) => r = v) (fun _ t => va_P D cl w1 t.heap ∧ va_K D cl ty t ∧ va_D A w1) A
def zQl (D : va_G) (cl : List vw_C) (ty : List (ClassId × FieldType)) (A : Nat → Prop) (w1 : va_W) (v : Int64) : Array Value → State → Outcome → State → Prop := va_Ql (fun r (_ : Unit) => r = v) (fun _ t => va_P D cl w1 t.heap ∧ va_K D cl ty t ∧ va_D A w1) A
section ZF
variable {l : Launch} {D : va_G} {cl : List vw_C} {ty : List (ClassId × FieldType)} {wc : va_W} {av : List Value}
theorem zRd_blind : FrameBlind (zRd D cl ty wc av) := fun a U g mk q => by
  obtain ⟨q0, qP, qK⟩ := q
  exact ⟨q0, qP, va_K.moved (u := U) (U := U.calling g mk a) (Vm.Alike.refl U.vm) qK⟩
theorem zWr_blind {sz : Nat} : FrameBlind (zWr D cl ty wc sz av) := fun a U g mk q => by
  obtain ⟨q0, q1, qP, qK, qD⟩ := q
  exact ⟨q0, q1, qP, va_K.moved (u := U) (U := U.calling g mk a) (Vm.Alike.refl U.vm) qK, qD⟩
theorem z_read {y : MethodName} {ws ws' : List Cond} {rm : Room} {Qc : Array Value → State → Outcome → State → Prop} {cc : ByteArray} {maxL : Nat} {ret : Option FieldType}
    (hy : plainName y.cls = true) (hw : ws = Cond.code y cc maxL ret :: ws') (hlen : (lg_sl av).length ≤ maxL)
    (body : ∀ (p : Program) (e : Env) (s : State) (m : MethodId) (below : List Frame) (meth : Method) (c : Code), p.tables.exec = Jvm.exec → c.code = cc → meth.sig.returnType = ret → c.maxLocals = maxL → s.vm.findClass y.cls = some m.cls → (∀ w ∈ ws, w.before av.toArray s = true) → meth.locks = false →
      va_P D cl wc s.heap → va_K D cl ty s → ∀ Q : State → Prop, Q = MQ below Qc av.toArray s 0 0 (fun _ => False) → ∀ ls : Array Slot, lv_has ls maxL (lv_args 0 av) → W p l e rm s m av.toArray below meth c s.heap [] 0 0 Q (F0 m 0 ls [])) :
    Met l y ws rm (zRd D cl ty wc av) Qc 0 0 (fun _ => False) := by
  refine Met.ofW (cc := cc) (maxL := maxL) (ret := ret) hy hw ?_
  intro p e s m args below meth c s₁ B hml hv
  obtain ⟨rfl, hP, hK⟩ := hv
  rw [lg_entry_eq]
  exact body p e s m below meth c B.exec B.bytes B.returns hml (findClass_of_methodNamed B.named) (atoms_spec (ws := ws) B.pre) B.notSynchronized hP hK _ rfl _ (lv_entry av hlen)
theorem z_write {y : MethodName} {ws ws' : List Cond} {rm : Room} {Qc : Array Value → State → Outcome → State → Prop} {cc : ByteArray} {maxL sz mc ms : Nat} {ret : Option FieldType}
    (hy : plainName y.cls = true) (hw : ws = Cond.code y cc maxL ret :: ws') (hlen : (lg_sl av).length ≤ maxL)
    (body : ∀ (p : Program) (e : Env) (s : State) (m : MethodId) (below : List Frame) (meth : Method) (c : Code), p.tables.exec = Jvm.exec → c.code = cc → meth.sig.returnType = ret → c.maxLocals = maxL → s.vm.findClass y.cls = some m.cls → (∀ w ∈ ws, w.before av.toArray s = true) → meth.locks = false →
      ∀ A : Nat → Prop, A = va_A wc sz → (∀ q : Nat, s.heap.size ≤ q → A q) → ∀ (H : Heap) (locs : List Loc), va_P D cl wc H → va_K D cl ty s → va_D A wc → va_S A s.heap H locs → (y.name = "<init>" → meth.name = "<init>") → ∀ Q : State → Prop, Q = MQ below Qc av.toArray s mc ms A → ∀ ls : Array Slot, lv_has ls maxL (lv_args 0 av) → W p l e rm s m av.toArray below meth c H locs 0 0 Q (F0 m 0 ls [])) :
    Met l y ws rm (zWr D cl ty wc sz av) Qc mc ms (va_A wc sz) := by
  refine Met.ofW (cc := cc) (maxL := maxL) (ret := ret) hy hw ?_
  intro p e s m args below meth c s₁ B hml hv
  obtain ⟨rfl, hsz, hP, hK, hD⟩ := hv
  rw [lg_entry_eq]
  exact body p e s m below meth c B.exec B.bytes B.returns hml (findClass_of_methodNamed B.named) (atoms_spec (ws := ws) B.pre) B.notSynchronized (va_A wc sz) rfl (fun q h => Or.inr (hsz ▸ h)) s.heap [] hP hK (hD.self (sz := sz)) va_S.rf (fun h => (name_of_methodNamed B.named B.method).1.trans h) _ rfl _ (lv_entry av hlen)
end ZF
section ZC
variable {p : Program} {l : Launch} {e : Env} {R : Room} {s : State} {m : MethodId} {args : Array Value} {below : List Frame} {meth : Method} {c : Code} {H : Heap} {locs : List Loc} {cells slots : Nat} {Q : State → Prop}
variable {y : MethodName} {bytes cc : ByteArray} {maxL nL n index : Nat} {ret : Option FieldType} {wk : List Cond} {rm : Room} {Ts : List Cond} {own C : String} {b : Addr} {As rest : List Value} {pc : Nat} {ls : Array Slot} {st : List Value}
variable {D : va_G} {cl : List vw_C} {ty : List (ClassId × FieldType)} {wc ws w1 wr ws' : va_W} {A : Nat → Prop} {H0 : Heap} {T : u_T} {N : Nat} {fs : List Value}
/-- a reading method that answers an int, called on an object -/
theorem z_cRVi {post : Int32 → Prop} (S : CallFix p m c cc nL s args Ts own) (hM : Met l y wk rm (zRd D cl ty wc (.ref b :: As)) (vp_Si post) 0 0 (fun _ => False)) (cw : CallW R s args own C index y bytes maxL ret wk rm 0 0 n) (hP : va_P D cl ws H) (hK : va_K D cl ty s) (isC : List Nat) (hC : isC.filterMap (fun i => ws[i]?) = wc) (ci q0 : Nat) (hcl : cl[ci]? = some (C, T, N)) (he : wc[q0]? = some (b, .inr (ci, fs)))
    (hn : As.length = n) (hl : ls.size = nL) (hst : st = As.reverse ++ .ref b :: rest) (hw : (rest.map fun v => v.category).sum ≤ 8) (hf : cells ≤ R.cells ∧ slots ≤ R.slots) (hdg : decode cc pc = .ok (.invokevirtual index, 3))
    (kk : ∀ r : Int32, post r → W p l e R s m args below meth c H locs cells slots Q (F0 m (pc + 3) ls (.int r :: rest))) : W p l e R s m args below meth c H locs cells slots Q (F0 m pc ls st) := by
  have hPc := hP.sub isC hC
  refine vp_callSi (W.runV (As := As) (rest := rest) S hM cw ⟨zRd_blind, va_recv hK hPc hcl he, fun U hU hW => ⟨rfl, by rw [hU]; exact hPc, va_K.moved hW.alike hK⟩⟩ rfl hn hl hst (lv_room hw) hdg hf) kk
/-- a reading static method that answers an int -/
theorem z_cRSi {post : Int32 → Prop} (S : CallFix p m c cc nL s args Ts own) (hM : Met l y wk rm (zRd D cl ty wc As) (vp_Si post) 0 0 (fun _ => False)) (cw : CallB R s args own index y bytes maxL ret wk rm 0 0 n ∧ (Cond.static y).before args s = true) (hP : va_P D cl ws H) (hK : va_K D cl ty s) (isC : List Nat) (hC : isC.filterMap (fun i => ws[i]?) = wc)
    (hn : As.length = n) (hl : ls.size = nL) (hst : st = As.reverse ++ rest) (hw : (rest.map fun v => v.category).sum ≤ 8) (hf : cells ≤ R.cells ∧ slots ≤ R.slots) (hdg : decode cc pc = .ok (.invokestatic index, 3))
    (kk : ∀ r : Int32, post r → W p l e R s m args below meth c H locs cells slots Q (F0 m (pc + 3) ls (.int r :: rest))) : W p l e R s m args below meth c H locs cells slots Q (F0 m pc ls st) := by
  have hPc := hP.sub isC hC
  refine vp_callSi (W.runS (As := As) (rest := rest) S hM cw ⟨zRd_blind, fun U hU hW => ⟨rfl, by rw [hU]; exact hPc, va_K.moved hW.alike hK⟩⟩ rfl hn hl hst (lv_room hw) hdg hf) kk
/-- the caller's world behind a writing call, in the caller's own order -/
theorem z_back {H1 : Heap} {t : State} (hP : va_P D cl ws H) (hD : va_D A ws) (isC isR pm : List Nat) (hC : isC.map (fun i => ws[i]?) = wc.map some) (hR : isR.map (fun i => ws[i]?) = wr.map some) (hnd : va_nd isR = true) (hdis : ∀ i ∈ isR, i ∉ isC) (hF : ∀ q, va_A wc H.size q → A q) (hpn : va_nd pm = true) (hpm : pm.map (fun i => (wr ++ w1)[i]?) = ws'.map some) (hpf : pm.filterMap (fun i => (wr ++ w1)[i]?) = ws')
    (hk : ∀ q : Nat, q < H.size → ¬ va_A wc H.size q → H1[q]? = H[q]?) (ht : t.heap = H1) (hP1 : va_P D cl w1 t.heap) (hD1 : va_D (va_A wc H.size) w1) : va_P D cl ws' H1 ∧ va_D A ws' := by
  rw [ht] at hP1
  obtain ⟨a1, a2⟩ := va_join (wr := wr) (w1 := w1) hP hD isC isR hC hR hnd hdis hk hF hP1 hD1
  exact ⟨a1.sub pm hpf, a2.sub pm hpn hpm⟩
/-- a writing method without an answer, called on an object -/
theorem z_cWVv (S : CallFix p m c cc nL s args Ts own) (hM : Met l y wk rm (zWr D cl ty wc H.size (.ref b :: As)) (zQv D cl ty (va_A wc H.size) w1) 0 0 (va_A wc H.size)) (cw : CallW R s args own C index y bytes maxL ret wk rm 0 0 n) (hP : va_P D cl ws H) (hK : va_K D cl ty s) (hD : va_D A ws) (hS : va_S A H0 H locs) (hA : ∀ q, H0.size ≤ q → A q) (isC isR pm : List Nat) (hC : isC.map (fun i => ws[i]?) = wc.map some) (hCf : isC.filterMap (fun i => ws[i]?) = wc) (hnC : va_nd isC = true) (hR : isR.map (fun i => ws[i]?) = wr.map some) (hnd : va_nd isR = true) (hdis : ∀ i ∈ isR, i ∉ isC) (hpn : va_nd pm = true) (hpm : pm.map (fun i => (wr ++ w1)[i]?) = ws'.map some) (hpf : pm.filterMap (fun i => (wr ++ w1)[i]?) = ws')
    (ci q0 : Nat) (hcl : cl[ci]? = some (C, T, N)) (he : wc[q0]? = some (b, .inr (ci, fs)))
    (hn : As.length = n) (hl : ls.size = nL) (hst : st = As.reverse ++ .ref b :: rest) (hw : (rest.map fun v => v.category).sum ≤ 8) (hf : cells ≤ R.cells ∧ slots ≤ R.slots) (hdg : decode cc pc = .ok (.invokevirtual index, 3))
    (kk : ∀ (H : Heap) (locs : List Loc), va_P D cl ws' H → va_D A ws' → va_S A H0 H locs → W p l e R s m args below meth c H locs cells slots Q (F0 m (pc + 3) ls rest)) : W p l e R s m args below meth c H locs cells slots Q (F0 m pc ls st) := by
  have hPc := hP.sub isC hCf
  have hDc := hD.sub isC hnC hC
  have hFc := va_free (wc := wc) hD hS hA isC hC
  refine va_callv (va_runV (As := As) (rest := rest) S hM cw ⟨zWr_blind, va_recv hK hPc hcl he, fun U hU hW => ⟨rfl, by rw [hU], by rw [hU]; exact hPc, va_K.moved hW.alike hK, hDc.weaken (fun _ _ _ _ => trivial)⟩⟩ rfl hn hl hst (lv_room hw) hdg hf) hS (fun q _ h => hFc q h) hFc (fun u t H1 locs1 ht hvm _ hB hz1 hk1 hS1 => ?_)
  obtain ⟨hP1, hK1, hD1⟩ := hB
  obtain ⟨a1, a2⟩ := z_back hP hD isC isR pm hC hR hnd hdis hFc hpn hpm hpf hk1 ht hP1 hD1
  exact kk H1 locs1 a1 a2 hS1
theorem z_cWVi {v : Int32} (S : CallFix p m c cc nL s args Ts own) (hM : Met l y wk rm (zWr D cl ty wc H.size (.ref b :: As)) (zQi D cl ty (va_A wc H.size) w1 v) 0 0 (va_A wc H.size)) (cw : CallW R s args own C index y bytes maxL ret wk rm 0 0 n) (hP : va_P D cl ws H) (hK : va_K D cl ty s) (hD : va_D A ws) (hS : va_S A H0 H locs) (hA : ∀ q, H0.size ≤ q → A q) (isC isR pm : List Nat) (hC : isC.map (fun i => ws[i]?) = wc.map some) (hCf : isC.filterMap (fun i => ws[i]?) = wc) (hnC : va_nd isC = true) (hR : isR.map (fun i => ws[i]?) = wr.map some) (hnd : va_nd isR = true) (hdis : ∀ i ∈ isR, i ∉ isC) (hpn : va_nd pm = true) (hpm : pm.map (fun i => (wr ++ w1)[i]?) = ws'.map some) (hpf : pm.filterMap (fun i => (wr ++ w1)[i]?) = ws')
    (ci q0 : Nat) (hcl : cl[ci]? = some (C, T, N)) (he : wc[q0]? = some (b, .inr (ci, fs)))
    (hn : As.length = n) (hl : ls.size = nL) (hst : st = As.reverse ++ .ref b :: rest) (hw : (rest.map fun v => v.category).sum ≤ 8) (hf : cells ≤ R.cells ∧ slots ≤ R.slots) (hdg : decode cc pc = .ok (.invokevirtual index, 3))
    (kk : ∀ (H : Heap) (locs : List Loc), va_P D cl ws' H → va_D A ws' → va_S A H0 H locs → W p l e R s m args below meth c H locs cells slots Q (F0 m (pc + 3) ls (.int v :: rest))) : W p l e R s m args below meth c H locs cells slots Q (F0 m pc ls st) := by
  have hPc := hP.sub isC hCf
  have hDc := hD.sub isC hnC hC
  have hFc := va_free (wc := wc) hD hS hA isC hC
  refine va_calli (va_runV (As := As) (rest := rest) S hM cw ⟨zWr_blind, va_recv hK hPc hcl he, fun U hU hW => ⟨rfl, by rw [hU], by rw [hU]; exact hPc, va_K.moved hW.alike hK, hDc.weaken (fun _ _ _ _ => trivial)⟩⟩ rfl hn hl hst (lv_room hw) hdg hf) hS (fun q _ h => hFc q h) hFc (fun r u t H1 locs1 ht hvm hr hB hz1 hk1 hS1 => ?_)
  obtain ⟨hP1, hK1, hD1⟩ := hB
  obtain ⟨a1, a2⟩ := z_back hP hD isC isR pm hC hR hnd hdis hFc hpn hpm hpf hk1 ht hP1 hD1
  subst hr
  exact kk H1 locs1 a1 a2 hS1
theorem z_cWVl {v : Int64} (S : CallFix p m c cc nL s args Ts own) (hM : Met l y wk rm (zWr D cl ty wc H.size (.ref b :: As)) (zQl D cl ty (va_A wc H.size) w1 v) 0 0 (va_A wc H.size)) (cw : CallW R s args own C index y bytes maxL ret wk rm 0 0 n) (hP : va_P D cl ws H) (hK : va_K D cl ty s) (hD : va_D A ws) (hS : va_S A H0 H locs) (hA : ∀ q, H0.size ≤ q → A q) (isC isR pm : List Nat) (hC : isC.map (fun i => ws[i]?) = wc.map some) (hCf : isC.filterMap (fun i => ws[i]?) = wc) (hnC : va_nd isC = true) (hR : isR.map (fun i => ws[i]?) = wr.map some) (hnd : va_nd isR = true) (hdis : ∀ i ∈ isR, i ∉ isC) (hpn : va_nd pm = true) (hpm : pm.map (fun i => (wr ++ w1)[i]?) = ws'.map some) (hpf : pm.filterMap (fun i => (wr ++ w1)[i]?) = ws')
    (ci q0 : Nat) (hcl : cl[ci]? = some (C, T, N)) (he : wc[q0]? = some (b, .inr (ci, fs)))
    (hn : As.length = n) (hl : ls.size = nL) (hst : st = As.reverse ++ .ref b :: rest) (hw : (rest.map fun v => v.category).sum ≤ 8) (hf : cells ≤ R.cells ∧ slots ≤ R.slots) (hdg : decode cc pc = .ok (.invokevirtual index, 3))
    (kk : ∀ (H : Heap) (locs : List Loc), va_P D cl ws' H → va_D A ws' → va_S A H0 H locs → W p l e R s m args below meth c H locs cells slots Q (F0 m (pc + 3) ls (.long v :: rest))) : W p l e R s m args below meth c H locs cells slots Q (F0 m pc ls st) := by
  have hPc := hP.sub isC hCf
  have hDc := hD.sub isC hnC hC
  have hFc := va_free (wc := wc) hD hS hA isC hC
  refine va_calll (va_runV (As := As) (rest := rest) S hM cw ⟨zWr_blind, va_recv hK hPc hcl he, fun U hU hW => ⟨rfl, by rw [hU], by rw [hU]; exact hPc, va_K.moved hW.alike hK, hDc.weaken (fun _ _ _ _ => trivial)⟩⟩ rfl hn hl hst (lv_room hw) hdg hf) hS (fun q _ h => hFc q h) hFc (fun r u t H1 locs1 ht hvm hr hB hz1 hk1 hS1 => ?_)
  obtain ⟨hP1, hK1, hD1⟩ := hB
  obtain ⟨a1, a2⟩ := z_back hP hD isC isR pm hC hR hnd hdis hFc hpn hpm hpf hk1 ht hP1 hD1
  subst hr
  exact kk H1 locs1 a1 a2 hS1
/-- the ends of a method -/
theorem z_iretR {v : Int32} {post : Int32 → Prop} (hexec : p.tables.exec = Jvm.exec) (hb : c.code = cc) (hr : meth.sig.returnType = some .int) (hlocks : meth.locks = false) (hQ : Q = MQ below (vp_Si post) args s cells slots (fun _ => False)) (hp : post v) (hdg : decode cc pc = .ok (.ireturn, 1)) (hH : H = s.heap) (hlo : locs = []) : W p l e R s m args below meth c H locs cells slots Q (F0 m pc ls [.int v]) := by
  subst hQ; subst hH; subst hlo
  exact W.iret hexec hb hr (fun t ht _ => ⟨v, rfl, hp, ht⟩) (fun q h => by cases h) hdg hlocks
theorem z_zretR {v : Bool} {post : Int32 → Prop} (hexec : p.tables.exec = Jvm.exec) (hb : c.code = cc) (hr : meth.sig.returnType = some .boolean) (hlocks : meth.locks = false) (hQ : Q = MQ below (vp_Si post) args s cells slots (fun _ => False)) (hp : post (zB v)) (hdg : decode cc pc = .ok (.ireturn, 1)) (hH : H = s.heap) (hlo : locs = []) : W p l e R s m args below meth c H locs cells slots Q (F0 m pc ls [.int (zB v)]) := by
  subst hQ; subst hH; subst hlo
  exact W.zret hexec hb hr (zB_nar v) (fun t ht _ => ⟨zB v, rfl, hp, ht⟩) (fun q h => by cases h) hdg hlocks
theorem z_vretW (hexec : p.tables.exec = Jvm.exec) (hb : c.code = cc) (hr : meth.sig.returnType = none) (hlocks : meth.locks = false) {A' : Nat → Prop} (hAe : A = A') (hQ : Q = MQ below (zQv D cl ty A' w1) args s cells slots A) (hP : va_P D cl w1 H) (hK : va_K D cl ty s) (hD : va_D A w1) (hS : va_S A s.heap H locs) (hdg : decode cc pc = .ok (.return_, 1)) : W p l e R s m args below meth c H locs cells slots Q (F0 m pc ls []) := by
  subst hAe; subst hQ
  exact W.vret hexec hb hr (fun t ht hW => ⟨⟨(), rfl, trivial, by rw [ht]; exact hP, va_K.moved hW.alike hK, hD⟩, hS.F ht⟩) hS.2.2 hdg hlocks
theorem z_iretW {v : Int32} (hexec : p.tables.exec = Jvm.exec) (hb : c.code = cc) (hr : meth.sig.returnType = some .int) (hlocks : meth.locks = false) {A' : Nat → Prop} (hAe : A = A') (hQ : Q = MQ below (zQi D cl ty A' w1 v) args s cells slots A) (hP : va_P D cl w1 H) (hK : va_K D cl ty s) (hD : va_D A w1) (hS : va_S A s.heap H locs) (hdg : decode cc pc = .ok (.ireturn, 1)) : W p l e R s m args below meth c H locs cells slots Q (F0 m pc ls [.int v]) := by
  subst hAe; subst hQ
  exact W.iret hexec hb hr (fun t ht hW => ⟨⟨v, (), rfl, rfl, by rw [ht]; exact hP, va_K.moved hW.alike hK, hD⟩, hS.F ht⟩) hS.2.2 hdg hlocks
theorem z_zretW {v : Bool} (hexec : p.tables.exec = Jvm.exec) (hb : c.code = cc) (hr : meth.sig.returnType = some .boolean) (hlocks : meth.locks = false) {A' : Nat → Prop} (hAe : A = A') (hQ : Q = MQ below (zQi D cl ty A' w1 (zB v)) args s cells slots A) (hP : va_P D cl w1 H) (hK : va_K D cl ty s) (hD : va_D A w1) (hS : va_S A s.heap H locs) (hdg : decode cc pc = .ok (.ireturn, 1)) : W p l e R s m args below meth c H locs cells slots Q (F0 m pc ls [.int (zB v)]) := by
  subst hAe; subst hQ
  exact W.zret hexec hb hr (zB_nar v) (fun t ht hW => ⟨⟨zB v, (), rfl, rfl, by rw [ht]; exact hP, va_K.moved hW.alike hK, hD⟩, hS.F ht⟩) hS.2.2 hdg hlocks
theorem z_lretW {v : Int64} (hexec : p.tables.exec = Jvm.exec) (hb : c.code = cc) (hr : meth.sig.returnType = some .long) (hlocks : meth.locks = false) {A' : Nat → Prop} (hAe : A = A') (hQ : Q = MQ below (zQl D cl ty A' w1 v) args s cells slots A) (hP : va_P D cl w1 H) (hK : va_K D cl ty s) (hD : va_D A w1) (hS : va_S A s.heap H locs) (hdg : decode cc pc = .ok (.lreturn, 1)) : W p l e R s m args below meth c H locs cells slots Q (F0 m pc ls [.long v]) := by
  subst hAe; subst hQ
  exact W.lret hexec hb hr (fun t ht hW => ⟨⟨v, (), rfl, rfl, by rw [ht]; exact hP, va_K.moved hW.alike hK, hD⟩, hS.F ht⟩) hS.2.2 hdg hlocks
end ZC
