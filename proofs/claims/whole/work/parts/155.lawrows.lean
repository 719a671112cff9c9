/-! the law's rows: static calls of methods with handlers, the script -/
section ZLS
variable {p : Program} {l : Launch} {e : Env} {R : Room} {s : State} {m : MethodId} {args : Array Value} {below : List Frame} {meth : Method} {c : Code} {H : Heap} {locs : List Loc} {cells slots : Nat} {Q : State → Prop}
variable {y : MethodName} {bytes cc : ByteArray} {maxL nL n index : Nat} {ret : Option FieldType} {hh : List (Nat × Nat × Nat × Nat)} {wk : List Cond} {rm : Room} {Ts : List Cond} {own C : String} {b : Addr} {As rest : List Value} {pc : Nat} {ls : Array Slot} {st : List Value}
variable {D : va_G} {cl : List vw_C} {ty : List (ClassId × FieldType)} {wc ws w1 wr ws' : va_W} {A : Nat → Prop} {H0 : Heap}
theorem z_cHSi {v : Int32} (S : CallFix p m c cc nL s args Ts own) (hM : Met l y wk rm (zWr D cl ty wc H.size As) (zQi D cl ty (va_A wc H.size) w1 v) 0 0 (va_A wc H.size)) (cw : vx_CSW R s args own index y bytes maxL ret hh wk rm 0 0 n) (hP : va_P D cl ws H) (hK : va_K D cl ty s) (hD : va_D A ws) (hS : va_S A H0 H locs) (hA : ∀ q, H0.size ≤ q → A q) (isC isR pm : List Nat) (hC : isC.map (fun i => ws[i]?) = wc.map some) (hCf : isC.filterMap (fun i => ws[i]?) = wc) (hnC : va_nd isC = true) (hR : isR.map (fun i => ws[i]?) = wr.map some) (hnd : va_nd isR = true) (hdis : ∀ i ∈ isR, i ∉ isC) (hpn : va_nd pm = true) (hpm : pm.map (fun i => (wr ++ w1)[i]?) = ws'.map some) (hpf : pm.filterMap (fun i => (wr ++ w1)[i]?) = ws')
    (hn : As.length = n) (hl : ls.size = nL) (hst : st = As.reverse ++ rest) (hw : (rest.map fun v => v.category).sum ≤ 8) (hf : cells ≤ R.cells ∧ slots ≤ R.slots) (hdg : decode cc pc = .ok (.invokestatic index, 3))
    (kk : ∀ (H : Heap) (locs : List Loc), va_P D cl ws' H → va_D A ws' → va_S A H0 H locs → W p l e R s m args below meth c H locs cells slots Q (F0 m (pc + 3) ls (.int v :: rest))) : W p l e R s m args below meth c H locs cells slots Q (F0 m pc ls st) := by
  have hPc := hP.sub isC hCf
  have hDc := hD.sub isC hnC hC
  have hFc := va_free (wc := wc) hD hS hA isC hC
  refine va_calli (vx_runSW (As := As) (rest := rest) S hM cw ⟨zWr_blind, fun U hU hW => ⟨rfl, by rw [hU], by rw [hU]; exact hPc, va_K.moved hW.alike hK, hDc.weaken (fun _ _ _ _ => trivial)⟩⟩ rfl hn hl hst (lv_room hw) hdg hf) hS (fun q _ h => hFc q h) hFc (fun r u t H1 locs1 ht hvm hr hB hz1 hk1 hS1 => ?_)
  obtain ⟨hP1, hK1, hD1⟩ := hB
  obtain ⟨a1, a2⟩ := z_back hP hD isC isR pm hC hR hnd hdis hFc hpn hpm hpf hk1 ht hP1 hD1
  subst hr
  exact kk H1 locs1 a1 a2 hS1
theorem z_cHNi {v : Int32} (S : CallFix p m c cc nL s args Ts own) (hM : Met l y wk rm (zWrN D cl ty wc H.size As) (zQi D cl ty (va_A wc H.size) w1 v) 0 0 (va_A wc H.size)) (cw : vx_CSW R s args own index y bytes maxL ret hh wk rm 0 0 n) (hP : va_P D cl ws H) (hK : va_K D cl ty s) (hN : zNw s) (hD : va_D A ws) (hS : va_S A H0 H locs) (hA : ∀ q, H0.size ≤ q → A q) (isC isR pm : List Nat) (hC : isC.map (fun i => ws[i]?) = wc.map some) (hCf : isC.filterMap (fun i => ws[i]?) = wc) (hnC : va_nd isC = true) (hR : isR.map (fun i => ws[i]?) = wr.map some) (hnd : va_nd isR = true) (hdis : ∀ i ∈ isR, i ∉ isC) (hpn : va_nd pm = true) (hpm : pm.map (fun i => (wr ++ w1)[i]?) = ws'.map some) (hpf : pm.filterMap (fun i => (wr ++ w1)[i]?) = ws')
    (hn : As.length = n) (hl : ls.size = nL) (hst : st = As.reverse ++ rest) (hw : (rest.map fun v => v.category).sum ≤ 8) (hf : cells ≤ R.cells ∧ slots ≤ R.slots) (hdg : decode cc pc = .ok (.invokestatic index, 3))
    (kk : ∀ (H : Heap) (locs : List Loc), va_P D cl ws' H → va_D A ws' → va_S A H0 H locs → W p l e R s m args below meth c H locs cells slots Q (F0 m (pc + 3) ls (.int v :: rest))) : W p l e R s m args below meth c H locs cells slots Q (F0 m pc ls st) := by
  have hPc := hP.sub isC hCf
  have hDc := hD.sub isC hnC hC
  have hFc := va_free (wc := wc) hD hS hA isC hC
  refine va_calli (vx_runSW (As := As) (rest := rest) S hM cw ⟨zWrN_blind, fun U hU hW => ⟨rfl, by rw [hU], by rw [hU]; exact hPc, va_K.moved hW.alike hK, hDc.weaken (fun _ _ _ _ => trivial), zNw_warm hW hN⟩⟩ rfl hn hl hst (lv_room hw) hdg hf) hS (fun q _ h => hFc q h) hFc (fun r u t H1 locs1 ht hvm hr hB hz1 hk1 hS1 => ?_)
  obtain ⟨hP1, hK1, hD1⟩ := hB
  obtain ⟨a1, a2⟩ := z_back hP hD isC isR pm hC hR hnd hdis hFc hpn hpm hpf hk1 ht hP1 hD1
  subst hr
  exact kk H1 locs1 a1 a2 hS1
/-- a call that threw inside and was caught inside: nothing that was there is written -/
theorem z_cHTi {v : Int32} (S : CallFix p m c cc nL s args Ts own) (hM : Met l y wk rm (zTh D cl ty wc H.size As) (zQt v H.size) 1 6 (fun q => H.size ≤ q)) (cw : vx_CSW R s args own index y bytes maxL ret hh wk rm 1 6 n) (hP : va_P D cl ws H) (hK : va_K D cl ty s) (hG : zG s) (hZ : zZ (fun q => H.size ≤ q) s H) (hS : va_S A H0 H locs) (hA : ∀ q, H0.size ≤ q → A q) (isC : List Nat) (hCf : isC.filterMap (fun i => ws[i]?) = wc)
    (hn : As.length = n) (hl : ls.size = nL) (hst : st = As.reverse ++ rest) (hw : (rest.map fun v => v.category).sum ≤ 8) (hf : cells + 1 ≤ R.cells ∧ slots + 6 ≤ R.slots) (hdg : decode cc pc = .ok (.invokestatic index, 3))
    (kk : ∀ (H1 : Heap) (locs : List Loc), va_P D cl ws H1 → va_S A H0 H1 locs → H.size ≤ H1.size → (∀ q, q < H.size → H1[q]? = H[q]?) → W p l e R s m args below meth c H1 locs (cells + 1) (slots + 6) Q (F0 m (pc + 3) ls (.int v :: rest))) : W p l e R s m args below meth c H locs cells slots Q (F0 m pc ls st) := by
  have hPc := hP.sub isC hCf
  have hr := vx_runSW (e := e) (H := H) (locs := locs) (cells := cells) (slots := slots) (below := below) (meth := meth) (g := F0 m pc ls st) (As := As) (rest := rest) S hM cw ⟨zTh_blind, fun U hU hW => ⟨rfl, by rw [hU], by rw [hU]; exact hPc, va_K.moved hW.alike hK, zG.warm hW hG, by rw [hU]; exact hZ.moved hW.alike⟩⟩ rfl hn hl hst (lv_room hw) hdg hf
  have hr' : va_Run p l e R s m args below meth c H locs cells slots 1 6 (F0 m pc ls st) rest (va_Qi (S := Unit) (fun r _ => r = v) (fun _ _ => True) (fun q => H.size ≤ q) As.toArray) (fun q => H.size ≤ q) := fun T hT X => by
    obtain ⟨v', st₀, t, T', L, h0, X', hL, e1, e2, hq, hst'⟩ := hr T hT X
    exact ⟨v', st₀, t, T', L, h0, X', hL, e1, e2, ⟨⟨v, (), hq.1, rfl, trivial⟩, hq.2⟩, hst'⟩
  refine va_calli hr' hS (fun q h1 h2 => absurd h2 (Nat.not_le.mpr h1)) (fun q h => hA q (Nat.le_trans hS.1 h)) (fun r u t H1 locs1 ht hvm hr9 _ hz1 hk1 hS1 => ?_)
  subst hr9
  exact kk H1 locs1 (hP.kept (fun k9 x hx => hk1 x.1 ((hP k9 x hx).lt) (Nat.not_le.mpr ((hP k9 x hx).lt)))) hS1 hz1 (fun q h => hk1 q h (Nat.not_le.mpr h))
/-- the script -/
theorem z_sld (hexec : p.tables.exec = Jvm.exec) (hb : c.code = cc) {b L : Nat} {xs : Nat → Int32} (hX : va_X b L xs s s.heap) (hbl : b < s.heap.size) (hbA : ¬ A b) (hS : va_S A s.heap H locs) {k : Nat} (hk : k < L) (hL : L < 2 ^ 31) {v : Int32} (hv : xs k = v) (hdg : decode cc pc = .ok (.iaload, 1))
    (kk : W p l e R s m args below meth c H locs cells slots Q (F0 m (pc + 1) ls (.int v :: rest))) : W p l e R s m args below meth c H locs cells slots Q (F0 m pc ls (.int (nI k) :: .ref b :: rest)) := by
  refine va_sld hexec hb hX hbl hbA hS (vp_in_nI hk hL) hdg ?_
  rw [nI_clamp (Nat.lt_trans hk hL), hv]; exact kk
theorem z_slen (hexec : p.tables.exec = Jvm.exec) (hb : c.code = cc) {b L : Nat} {xs : Nat → Int32} (hX : va_X b L xs s s.heap) (hbl : b < s.heap.size) (hbA : ¬ A b) (hS : va_S A s.heap H locs) (hdg : decode cc pc = .ok (.arraylength, 1))
    (kk : W p l e R s m args below meth c H locs cells slots Q (F0 m (pc + 1) ls (.int (nI L) :: rest))) : W p l e R s m args below meth c H locs cells slots Q (F0 m pc ls (.ref b :: rest)) :=
  va_slen hexec hb hX hbl hbA hS hdg kk
end ZLS
theorem zB_l2 (b : Bool) : (zB b).toInt64 = lZ (if b = true then 1 else 0) := by cases b <;> decide
