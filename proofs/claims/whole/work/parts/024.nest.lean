/-! the nest word (Pairing calls TourHouse.leastOf, a private static one), carried as a thing given -/
def zNw (U : State) : Prop := va_Nw (.methodLinkNest RX3 82 yX5_leastOf "TourHouse") U
theorem zNw_warm {s U : State} (hW : s.WarmedH U.vm) (h : zNw s) : zNw U := va_Nw.warmM hW h
def zWrN (D : va_G) (cl : List vw_C) (ty : List (ClassId × FieldType)) (wc : va_W) (sz : Nat) (av : List Value) : Array Value → State → Prop := va_Pc av (fun U => U.heap.size = sz ∧ va_P D cl wc U.heap ∧ va_K D cl ty U ∧ va_D (fun _ => True) wc ∧ zNw U)
section ZFN
variable {l : Launch} {D : va_G} {cl : List vw_C} {ty : List (ClassId × FieldType)} {wc : va_W} {av : List Value}
theorem zWrN_blind {sz : Nat} : FrameBlind (zWrN D cl ty wc sz av) := fun a U g mk q => by
  obtain ⟨q0, q1, qP, qK, qD, qN⟩ := q
  exact ⟨q0, q1, qP, va_K.moved (u := U) (U := U.calling g mk a) (Vm.Alike.refl U.vm) qK, qD, va_Nw.same rfl (rfl : U.vm = (U.calling g mk a).vm) qN⟩
theorem z_writeN {y : MethodName} {ws ws' : List Cond} {rm : Room} {Qc : Array Value → State → Outcome → State → Prop} {cc : ByteArray} {maxL sz mc ms : Nat} {ret : Option FieldType}
    (hy : plainName y.cls = true) (hw : ws = Cond.code y cc maxL ret :: ws') (hlen : (lg_sl av).length ≤ maxL)
    (body : ∀ (p : Program) (e : Env) (s : State) (m : MethodId) (below : List Frame) (meth : Method) (c : Code), p.tables.exec = Jvm.exec → c.code = cc → meth.sig.returnType = ret → c.maxLocals = maxL → s.vm.findClass y.cls = some m.cls → (∀ w ∈ ws, w.before av.toArray s = true) → meth.locks = false →
      ∀ A : Nat → Prop, A = va_A wc sz → (∀ q : Nat, s.heap.size ≤ q → A q) → ∀ (H : Heap) (locs : List Loc), va_P D cl wc H → va_K D cl ty s → va_D A wc → va_S A s.heap H locs → zNw s → ∀ Q : State → Prop, Q = MQ below Qc av.toArray s mc ms A → ∀ ls : Array Slot, lv_has ls maxL (lv_args 0 av) → W p l e rm s m av.toArray below meth c H locs 0 0 Q (F0 m 0 ls [])) :
    Met l y ws rm (zWrN D cl ty wc sz av) Qc mc ms (va_A wc sz) := by
  refine Met.ofW (cc := cc) (maxL := maxL) (ret := ret) hy hw ?_
  intro p e s m args below meth c s₁ B hml hv
  obtain ⟨rfl, hsz, hP, hK, hD, hN⟩ := hv
  rw [lg_entry_eq]
  exact body p e s m below meth c B.exec B.bytes B.returns hml (findClass_of_methodNamed B.named) (atoms_spec (ws := ws) B.pre) B.notSynchronized (va_A wc sz) rfl (fun q h => Or.inr (hsz ▸ h)) s.heap [] hP hK (hD.self (sz := sz)) va_S.rf hN _ rfl _ (lv_entry av hlen)
end ZFN
section ZCN
variable {p : Program} {l : Launch} {e : Env} {R : Room} {s : State} {m : MethodId} {args : Array Value} {below : List Frame} {meth : Method} {c : Code} {H : Heap} {locs : List Loc} {cells slots : Nat} {Q : State → Prop}
variable {y : MethodName} {bytes cc : ByteArray} {maxL nL n index : Nat} {ret : Option FieldType} {wk : List Cond} {rm : Room} {Ts : List Cond} {own C : String} {b : Addr} {As rest : List Value} {pc : Nat} {ls : Array Slot} {st : List Value}
variable {D : va_G} {cl : List vw_C} {ty : List (ClassId × FieldType)} {wc ws w1 wr ws' : va_W} {A : Nat → Prop} {H0 : Heap} {T : u_T} {N : Nat} {fs : List Value}
/-- a writing method without an answer, called on an object -/
theorem z_cNVv (S : CallFix p m c cc nL s args Ts own) (hM : Met l y wk rm (zWrN D cl ty wc H.size (.ref b :: As)) (zQv D cl ty (va_A wc H.size) w1) 0 0 (va_A wc H.size)) (cw : CallW R s args own C index y bytes maxL ret wk rm 0 0 n) (hP : va_P D cl ws H) (hK : va_K D cl ty s) (hN : zNw s) (hD : va_D A ws) (hS : va_S A H0 H locs) (hA : ∀ q, H0.size ≤ q → A q) (isC isR pm : List Nat) (hC : isC.map (fun i => ws[i]?) = wc.map some) (hCf : isC.filterMap (fun i => ws[i]?) = wc) (hnC : va_nd isC = true) (hR : isR.map (fun i => ws[i]?) = wr.map some) (hnd : va_nd isR = true) (hdis : ∀ i ∈ isR, i ∉ isC) (hpn : va_nd pm = true) (hpm : pm.map (fun i => (wr ++ w1)[i]?) = ws'.map some) (hpf : pm.filterMap (fun i => (wr ++ w1)[i]?) = ws')
    (ci q0 : Nat) (hcl : cl[ci]? = some (C, T, N)) (he : wc[q0]? = some (b, .inr (ci, fs)))
    (hn : As.length = n) (hl : ls.size = nL) (hst : st = As.reverse ++ .ref b :: rest) (hw : (rest.map fun v => v.category).sum ≤ 8) (hf : cells ≤ R.cells ∧ slots ≤ R.slots) (hdg : decode cc pc = .ok (.invokevirtual index, 3))
    (kk : ∀ (H : Heap) (locs : List Loc), va_P D cl ws' H → va_D A ws' → va_S A H0 H locs → W p l e R s m args below meth c H locs cells slots Q (F0 m (pc + 3) ls rest)) : W p l e R s m args below meth c H locs cells slots Q (F0 m pc ls st) := by
  have hPc := hP.sub isC hCf
  have hDc := hD.sub isC hnC hC
  have hFc := va_free (wc := wc) hD hS hA isC hC
  refine va_callv (va_runV (As := As) (rest := rest) S hM cw ⟨zWrN_blind, va_recv hK hPc hcl he, fun U hU hW => ⟨rfl, by rw [hU], by rw [hU]; exact hPc, va_K.moved hW.alike hK, hDc.weaken (fun _ _ _ _ => trivial), zNw_warm hW hN⟩⟩ rfl hn hl hst (lv_room hw) hdg hf) hS (fun q _ h => hFc q h) hFc (fun u t H1 locs1 ht hvm _ hB hz1 hk1 hS1 => ?_)
  obtain ⟨hP1, hK1, hD1⟩ := hB
  obtain ⟨a1, a2⟩ := z_back hP hD isC isR pm hC hR hnd hdis hFc hpn hpm hpf hk1 ht hP1 hD1
  exact kk H1 locs1 a1 a2 hS1
theorem z_cNVi {v : Int32} (S : CallFix p m c cc nL s args Ts own) (hM : Met l y wk rm (zWrN D cl ty wc H.size (.ref b :: As)) (zQi D cl ty (va_A wc H.size) w1 v) 0 0 (va_A wc H.size)) (cw : CallW R s args own C index y bytes maxL ret wk rm 0 0 n) (hP : va_P D cl ws H) (hK : va_K D cl ty s) (hN : zNw s) (hD : va_D A ws) (hS : va_S A H0 H locs) (hA : ∀ q, H0.size ≤ q → A q) (isC isR pm : List Nat) (hC : isC.map (fun i => ws[i]?) = wc.map some) (hCf : isC.filterMap (fun i => ws[i]?) = wc) (hnC : va_nd isC = true) (hR : isR.map (fun i => ws[i]?) = wr.map some) (hnd : va_nd isR = true) (hdis : ∀ i ∈ isR, i ∉ isC) (hpn : va_nd pm = true) (hpm : pm.map (fun i => (wr ++ w1)[i]?) = ws'.map some) (hpf : pm.filterMap (fun i => (wr ++ w1)[i]?) = ws')
    (ci q0 : Nat) (hcl : cl[ci]? = some (C, T, N)) (he : wc[q0]? = some (b, .inr (ci, fs)))
    (hn : As.length = n) (hl : ls.size = nL) (hst : st = As.reverse ++ .ref b :: rest) (hw : (rest.map fun v => v.category).sum ≤ 8) (hf : cells ≤ R.cells ∧ slots ≤ R.slots) (hdg : decode cc pc = .ok (.invokevirtual index, 3))
    (kk : ∀ (H : Heap) (locs : List Loc), va_P D cl ws' H → va_D A ws' → va_S A H0 H locs → W p l e R s m args below meth c H locs cells slots Q (F0 m (pc + 3) ls (.int v :: rest))) : W p l e R s m args below meth c H locs cells slots Q (F0 m pc ls st) := by
  have hPc := hP.sub isC hCf
  have hDc := hD.sub isC hnC hC
  have hFc := va_free (wc := wc) hD hS hA isC hC
  refine va_calli (va_runV (As := As) (rest := rest) S hM cw ⟨zWrN_blind, va_recv hK hPc hcl he, fun U hU hW => ⟨rfl, by rw [hU], by rw [hU]; exact hPc, va_K.moved hW.alike hK, hDc.weaken (fun _ _ _ _ => trivial), zNw_warm hW hN⟩⟩ rfl hn hl hst (lv_room hw) hdg hf) hS (fun q _ h => hFc q h) hFc (fun r u t H1 locs1 ht hvm hr hB hz1 hk1 hS1 => ?_)
  obtain ⟨hP1, hK1, hD1⟩ := hB
  obtain ⟨a1, a2⟩ := z_back hP hD isC isR pm hC hR hnd hdis hFc hpn hpm hpf hk1 ht hP1 hD1
  subst hr
  exact kk H1 locs1 a1 a2 hS1
theorem z_cNVl {v : Int64} (S : CallFix p m c cc nL s args Ts own) (hM : Met l y wk rm (zWrN D cl ty wc H.size (.ref b :: As)) (zQl D cl ty (va_A wc H.size) w1 v) 0 0 (va_A wc H.size)) (cw : CallW R s args own C index y bytes maxL ret wk rm 0 0 n) (hP : va_P D cl ws H) (hK : va_K D cl ty s) (hN : zNw s) (hD : va_D A ws) (hS : va_S A H0 H locs) (hA : ∀ q, H0.size ≤ q → A q) (isC isR pm : List Nat) (hC : isC.map (fun i => ws[i]?) = wc.map some) (hCf : isC.filterMap (fun i => ws[i]?) = wc) (hnC : va_nd isC = true) (hR : isR.map (fun i => ws[i]?) = wr.map some) (hnd : va_nd isR = true) (hdis : ∀ i ∈ isR, i ∉ isC) (hpn : va_nd pm = true) (hpm : pm.map (fun i => (wr ++ w1)[i]?) = ws'.map some) (hpf : pm.filterMap (fun i => (wr ++ w1)[i]?) = ws')
    (ci q0 : Nat) (hcl : cl[ci]? = some (C, T, N)) (he : wc[q0]? = some (b, .inr (ci, fs)))
    (hn : As.length = n) (hl : ls.size = nL) (hst : st = As.reverse ++ .ref b :: rest) (hw : (rest.map fun v => v.category).sum ≤ 8) (hf : cells ≤ R.cells ∧ slots ≤ R.slots) (hdg : decode cc pc = .ok (.invokevirtual index, 3))
    (kk : ∀ (H : Heap) (locs : List Loc), va_P D cl ws' H → va_D A ws' → va_S A H0 H locs → W p l e R s m args below meth c H locs cells slots Q (F0 m (pc + 3) ls (.long v :: rest))) : W p l e R s m args below meth c H locs cells slots Q (F0 m pc ls st) := by
  have hPc := hP.sub isC hCf
  have hDc := hD.sub isC hnC hC
  have hFc := va_free (wc := wc) hD hS hA isC hC
  refine va_calll (va_runV (As := As) (rest := rest) S hM cw ⟨zWrN_blind, va_recv hK hPc hcl he, fun U hU hW => ⟨rfl, by rw [hU], by rw [hU]; exact hPc, va_K.moved hW.alike hK, hDc.weaken (fun _ _ _ _ => trivial), zNw_warm hW hN⟩⟩ rfl hn hl hst (lv_room hw) hdg hf) hS (fun q _ h => hFc q h) hFc (fun r u t H1 locs1 ht hvm hr hB hz1 hk1 hS1 => ?_)
  obtain ⟨hP1, hK1, hD1⟩ := hB
  obtain ⟨a1, a2⟩ := z_back hP hD isC isR pm hC hR hnd hdis hFc hpn hpm hpf hk1 ht hP1 hD1
  subst hr
  exact kk H1 locs1 a1 a2 hS1
/-- the private static leastOf, called by a nest mate -/
theorem z_cRSn {post : Int32 → Prop} {host : String} (S : CallFix p m c cc nL s args Ts own) (hM : Met l y wk rm (zRd D cl ty wc As) (vp_Si post) 0 0 (fun _ => False)) (cw : va_CN R s args own index y host bytes maxL ret wk rm 0 0 n ∧ (Cond.static y).before args s = true ∧ True) (hP : va_P D cl ws H) (hK : va_K D cl ty s) (isC : List Nat) (hC : isC.filterMap (fun i => ws[i]?) = wc)
    (hn : As.length = n) (hl : ls.size = nL) (hst : st = As.reverse ++ rest) (hw : (rest.map fun v => v.category).sum ≤ 8) (hf : cells ≤ R.cells ∧ slots ≤ R.slots) (hdg : decode cc pc = .ok (.invokestatic index, 3))
    (kk : ∀ r : Int32, post r → W p l e R s m args below meth c H locs cells slots Q (F0 m (pc + 3) ls (.int r :: rest))) : W p l e R s m args below meth c H locs cells slots Q (F0 m pc ls st) := by
  have hPc := hP.sub isC hC
  have hr := va_runSN (H := H) (locs := locs) (cells := cells) (slots := slots) (below := below) (meth := meth) (e := e) (g := F0 m pc ls st) (As := As) (rest := rest) S hM cw ⟨zRd_blind, fun U hU hW => ⟨rfl, by rw [hU]; exact hPc, va_K.moved hW.alike hK⟩⟩ rfl hn hl hst (lv_room hw) hdg hf
  intro T hT X
  obtain ⟨v, st₀, t, T', L, h0, X', hL, e1, -, ⟨r, hv, hp, hh⟩, sg⟩ := hr T hT X
  cases hv
  obtain ⟨t2, a1, b1⟩ := kk r hp T' (by rw [e1, hh, h0]) (Stand.forget X' (fun q h => (hL q h).elim))
  exact ⟨t2, sg t2 a1, b1⟩
end ZCN
/-! rows of a grid: sixteen arrays of longs -/
abbrev zRw (cA : Nat → ClassId) (rc : Nat → Nat) (F : Nat → Nat → Int) : va_W := (List.range 16).map (fun a => (rc a, aJ cA 16 (fun j => lZ (F a j))))
theorem zRw_len {cA : Nat → ClassId} {rc : Nat → Nat} {F : Nat → Nat → Int} : (zRw cA rc F).length = 16 := rfl
theorem zRw_get {cA : Nat → ClassId} {rc : Nat → Nat} {F : Nat → Nat → Int} {a : Nat} (h : a < 16) : (zRw cA rc F)[a]? = some (rc a, aJ cA 16 (fun j => lZ (F a j))) := by
  rw [List.getElem?_map, List.getElem?_range h]; rfl
theorem zRw_1 {X Y : va_W} {cA : Nat → ClassId} {rc : Nat → Nat} {F : Nat → Nat → Int} {a : Nat} (h : a < 16) : (X ++ (zRw cA rc F ++ Y))[X.length + a]? = some (rc a, aJ cA 16 (fun j => lZ (F a j))) := by
  rw [List.getElem?_append_right (by omega), Nat.add_sub_cancel_left, List.getElem?_append_left (by rw [zRw_len]; exact h), zRw_get h]
theorem zRw_2 {X : va_W} {cA : Nat → ClassId} {rd rc : Nat → Nat} {E F : Nat → Nat → Int} {a : Nat} (h : a < 16) : (X ++ (zRw cA rd E ++ zRw cA rc F))[X.length + 16 + a]? = some (rc a, aJ cA 16 (fun j => lZ (F a j))) := by
  rw [List.getElem?_append_right (by omega), List.getElem?_append_right (by rw [zRw_len]; omega), zRw_len, show X.length + 16 + a - X.length - 16 = a from by omega, zRw_get h]
theorem zRw_set {cA : Nat → ClassId} {rc : Nat → Nat} {F : Nat → Nat → Int} {a : Nat} {r : Nat → Int} (h : a < 16) : (zRw cA rc F).set a (rc a, aJ cA 16 (fun j => lZ (r j))) = zRw cA rc (va_up F a r) := by
  apply List.ext_getElem?
  intro i
  by_cases e : i = a
  · subst e
    rw [List.getElem?_set_self (by rw [zRw_len]; exact h), zRw_get h, up_at]
  · rw [List.getElem?_set_ne (Ne.symm e)]
    by_cases hi : i < 16
    · rw [zRw_get hi, zRw_get hi, up_ne e]
    · rw [List.getElem?_eq_none (by rw [zRw_len]; omega), List.getElem?_eq_none (by rw [zRw_len]; omega)]
theorem zRw_s1 {X Y : va_W} {cA : Nat → ClassId} {rc : Nat → Nat} {F : Nat → Nat → Int} {a : Nat} {r : Nat → Int} (h : a < 16) : (X ++ (zRw cA rc F ++ Y)).set (X.length + a) (rc a, aJ cA 16 (fun j => lZ (r j))) = X ++ (zRw cA rc (va_up F a r) ++ Y) := by
  rw [List.set_append_right _ _ (by omega), Nat.add_sub_cancel_left, List.set_append_left _ _ (by rw [zRw_len]; exact h), zRw_set h]
theorem zRw_s2 {X : va_W} {cA : Nat → ClassId} {rd rc : Nat → Nat} {E F : Nat → Nat → Int} {a : Nat} {r : Nat → Int} (h : a < 16) : (X ++ (zRw cA rd E ++ zRw cA rc F)).set (X.length + 16 + a) (rc a, aJ cA 16 (fun j => lZ (r j))) = X ++ (zRw cA rd E ++ zRw cA rc (va_up F a r)) := by
  rw [List.set_append_right _ _ (by omega), List.set_append_right _ _ (by rw [zRw_len]; omega), zRw_len, show X.length + 16 + a - X.length - 16 = a from by omega, zRw_set h]
def cp16 (f g : Nat → Int) : Nat → Int := fun j => if j < 16 then f j else g j
theorem cp16_l (f g : Nat → Int) : va_cpy (fun j => lZ (f j)) (fun j => lZ (g j)) 0 0 16 = fun j => lZ (cp16 f g j) := by
  funext j
  simp only [va_cpy, cp16]
  by_cases h : j < 16
  · rw [if_pos ⟨by omega, by omega⟩, if_pos h]; simp
  · rw [if_neg (by omega), if_neg h]
section ZG
variable {p : Program} {l : Launch} {e : Env} {R : Room} {s : State} {m : MethodId} {args : Array Value} {below : List Frame} {meth : Method} {c : Code} {H : Heap} {locs : List Loc} {cells slots : Nat} {Q : State → Prop}
variable {cc : ByteArray} {pc : Nat} {ls : Array Slot} {rest : List Value} {D : va_G} {cl : List vw_C} {A : Nat → Prop} {a : Nat} {tys : List (ClassId × FieldType)} {ws : va_W} {H0 : Heap}
theorem z_aald (hexec : p.tables.exec = Jvm.exec) (hb : c.code = cc) (hK : va_K D cl tys s) (hP : va_P D cl ws H) (q0 t0 : Nat) {cA : ClassId} {n : Nat} {f : Nat → Option Nat} (ha : ws[q0]? = some (a, .inl (cA, n, .inr (.inr (.inr (.inr f)))))) (ht : tys[t0]? = some (cA, .array .long)) {k : Nat} (hk : k < n) (hn : n < 2 ^ 31) {v : Nat} (hv : f k = some v) (hdg : decode cc pc = .ok (.aaload, 1))
    (kk : W p l e R s m args below meth c H locs cells slots Q (F0 m (pc + 1) ls (.ref v :: rest))) : W p l e R s m args below meth c H locs cells slots Q (F0 m pc ls (.int (nI k) :: .ref a :: rest)) := by
  have hin := vp_in_nI hk hn
  have hlt : (nI k).toNatClampNeg < n := Nat.not_le.mp fun q => hin (Or.inr q)
  refine W.aald (v := .ref v) (ty := .array .long) hexec hb (hP q0 _ ha) ((hK.2 t0 _ ht).1 n (fun j => va_rf (f j))) rfl (fun q => by cases q) (by show ¬ (_ < 0 ∨ (arrV _ _ _).slots.size ≤ _); rw [arrV_size]; exact hin) (by show (arrV _ _ _).slots[_]? = _; rw [arrV_read _ _ hlt, nI_clamp (Nat.lt_trans hk hn), hv]; rfl) rfl rfl hdg kk
theorem z_cp16 (hexec : p.tables.exec = Jvm.exec) (hb : c.code = cc) (hml : c.maxLocals = ls.size) {own : String} {index : Nat} (hown : s.vm.findClass own = some m.cls) (hlink : (Cond.methodLink own index arraycopyName).before args s = true) (hnat : (Cond.native arraycopyName).before args s = true) (hstat : (Cond.static arraycopyName).before args s = true) (hini : (Cond.initialized "java/lang/System").before args s = true)
    (hK : va_K D cl tys s) (hP : va_P D cl ws H) (hD : va_D A ws) (hS : va_S A H0 H locs) (q0 q1 t0 : Nat) {a0 : Nat} {c0 : ClassId} {f g : Nat → Int} (ha0 : ws[q0]? = some (a0, .inl (c0, 16, .inr (.inl (fun j => lZ (f j)))))) (ha1 : ws[q1]? = some (a, .inl (c0, 16, .inr (.inl (fun j => lZ (g j)))))) (ht0 : tys[t0]? = some (c0, .long)) {ws' : va_W} (hws : ws.set q1 (a, .inl (c0, 16, .inr (.inl (fun j => lZ (cp16 f g j))))) = ws')
    (hframes : 1 ≤ R.frames) (hlocals : (rest.map fun v => v.category).sum + (nativeFrameWords "java/lang/System" "arraycopy" 5 + 11) ≤ R.locals) (hdg : decode cc pc = .ok (.invokestatic index, 3))
    (kk : ∀ (H : Heap) (locs : List Loc), va_P D cl ws' H → va_D A ws' → va_S A H0 H locs → W p l e R s m args below meth c H locs cells slots Q (F0 m (pc + 3) ls rest)) : W p l e R s m args below meth c H locs cells slots Q (F0 m pc ls (.int (nI 16) :: .int (nI 0) :: .ref a :: .int (nI 0) :: .ref a0 :: rest)) := by
  refine va_copyl hexec hb hml hown hlink hnat hstat hini hK hP hD hS q0 q1 t0 t0 ha0 ha1 ht0 ht0 rfl (by decide) (by decide) (by decide) (by decide) (by decide) (fun i _ => rfl) hframes hlocals hdg ?_
  have e0 : (nI 0).toNatClampNeg = 0 := by decide
  have e16 : (nI 16).toNatClampNeg = 16 := by decide
  rw [e0, e16, cp16_l, hws]
  exact kk
end ZG
