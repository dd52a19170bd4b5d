/-! BASE 2: the same calls, answering longs and doubles, and static ones that write -/
section VMD
variable {p : Program} {l : Launch} {e : Env} {R : Room} {s : State} {m : MethodId} {args : Array Value} {below : List Frame} {meth : Method} {c : Code} {H : Heap} {locs : List Loc} {cells slots : Nat} {Q : State → Prop}
variable {y : MethodName} {bytes cc : ByteArray} {maxL nL n index : Nat} {ret : Option FieldType} {ws : List Cond} {rm : Room} {Ts : List Cond} {own C : String} {b : Addr} {As rest st0 : List Value} {pc : Nat} {ls : Array Slot} {D : va_G} {cI cB : ClassId} {ww wc w1 : va_W} {T : u_T} {N : Nat} {fs : List Value}
theorem vm_roVl {post : Int64 → Prop} (S : CallFix p m c cc nL s args Ts own) (hK : va_K D vwCl (vm_ty cI cB) s) (hN : vm_N s) (hP : va_P D vwCl ww H) (hsz : ls.size = nL) (hf : cells ≤ R.cells ∧ slots ≤ R.slots)
    (hM : Met l y ws rm (vm_pre (.ref b :: As) D wc cI cB) (vp_Sl post) 0 0 (fun _ => False)) (cw : CallW R s args own C index y bytes maxL ret ws rm 0 0 n) (is : List Nat) (hC : is.map (fun i => ww[i]?) = wc.map some) (ci : Nat) (hr0 : wc[0]? = some (b, .inr (ci, fs))) (hcl : vwCl[ci]? = some (C, T, N)) (hn : As.length = n) (hst : st0 = As.reverse ++ .ref b :: rest) (hW : (rest.map fun v => v.category).sum ≤ 8) (hdg : decode cc pc = .ok (.invokevirtual index, 3))
    (kk : ∀ r : Int64, post r → W p l e R s m args below meth c H locs cells slots Q (F0 m (pc + 3) ls (.long r :: rest))) : W p l e R s m args below meth c H locs cells slots Q (F0 m pc ls st0) := by
  have hPc := hP.sub is (vm_fm hC)
  exact vp_callSl (W.runV S hM cw ⟨vm_blind, va_recv hK hPc hcl hr0, fun U hU hW => ⟨rfl, by rw [hU]; exact hPc, va_K.moved hW.alike hK, vm_N.warm hW hN⟩⟩ rfl hn hsz hst (lv_room hW) hdg ⟨hf.1, hf.2⟩) kk
theorem vm_roVd {post : UInt64 → Prop} (S : CallFix p m c cc nL s args Ts own) (hK : va_K D vwCl (vm_ty cI cB) s) (hN : vm_N s) (hP : va_P D vwCl ww H) (hsz : ls.size = nL) (hf : cells ≤ R.cells ∧ slots ≤ R.slots)
    (hM : Met l y ws rm (vm_pre (.ref b :: As) D wc cI cB) (vp_Sd post) 0 0 (fun _ => False)) (cw : CallW R s args own C index y bytes maxL ret ws rm 0 0 n) (is : List Nat) (hC : is.map (fun i => ww[i]?) = wc.map some) (ci : Nat) (hr0 : wc[0]? = some (b, .inr (ci, fs))) (hcl : vwCl[ci]? = some (C, T, N)) (hn : As.length = n) (hst : st0 = As.reverse ++ .ref b :: rest) (hW : (rest.map fun v => v.category).sum ≤ 8) (hdg : decode cc pc = .ok (.invokevirtual index, 3))
    (kk : ∀ r : UInt64, post r → W p l e R s m args below meth c H locs cells slots Q (F0 m (pc + 3) ls (.double r :: rest))) : W p l e R s m args below meth c H locs cells slots Q (F0 m pc ls st0) := by
  have hPc := hP.sub is (vm_fm hC)
  exact vp_callSd (W.runV S hM cw ⟨vm_blind, va_recv hK hPc hcl hr0, fun U hU hW => ⟨rfl, by rw [hU]; exact hPc, va_K.moved hW.alike hK, vm_N.warm hW hN⟩⟩ rfl hn hsz hst (lv_room hW) hdg ⟨hf.1, hf.2⟩) kk
theorem vm_roSl {post : Int64 → Prop} (S : CallFix p m c cc nL s args Ts own) (hK : va_K D vwCl (vm_ty cI cB) s) (hN : vm_N s) (hP : va_P D vwCl ww H) (hsz : ls.size = nL) (hf : cells ≤ R.cells ∧ slots ≤ R.slots)
    (hM : Met l y ws rm (vm_pre As D [] cI cB) (vp_Sl post) 0 0 (fun _ => False)) (cw : CallB R s args own index y bytes maxL ret ws rm 0 0 n ∧ (Cond.static y).before args s = true) (hn : As.length = n) (hst : st0 = As.reverse ++ rest) (hW : (rest.map fun v => v.category).sum ≤ 8) (hdg : decode cc pc = .ok (.invokestatic index, 3))
    (kk : ∀ r : Int64, post r → W p l e R s m args below meth c H locs cells slots Q (F0 m (pc + 3) ls (.long r :: rest))) : W p l e R s m args below meth c H locs cells slots Q (F0 m pc ls st0) := by
  exact vp_callSl (W.runS S hM cw ⟨vm_blind, fun U hU hW => ⟨rfl, fun k q h => by simp at h, va_K.moved hW.alike hK, vm_N.warm hW hN⟩⟩ rfl hn hsz hst (lv_room hW) hdg ⟨hf.1, hf.2⟩) kk
/-- a static call that writes, and answers nothing -/
theorem vm_rwSv {A0 : Nat → Prop} {H0 : Heap} (S : CallFix p m c cc nL s args Ts own) (hK : va_K D vwCl (vm_ty cI cB) s) (hN : vm_N s) (hP : va_P D vwCl ww H) (hD : va_D A0 ww) (hS : va_S A0 H0 H locs) (hA : ∀ q, H0.size ≤ q → A0 q) (hsz : ls.size = nL) (hf : cells ≤ R.cells ∧ slots ≤ R.slots)
    (hM : Met l y ws rm (vm_prw As D wc cI cB H.size) (va_Qv (fun _ : Unit => True) (fun _ t => va_P D vwCl w1 t.heap) (va_A wc H.size)) 0 0 (va_A wc H.size)) (cw : CallB R s args own index y bytes maxL ret ws rm 0 0 n ∧ (Cond.static y).before args s = true) (is : List Nat) (hC : is.map (fun i => ww[i]?) = wc.map some) (hnd : va_nd is = true) (h1 : w1.map (fun q => q.1) = wc.map (fun q => q.1)) (hn : As.length = n) (hst : st0 = As.reverse ++ rest) (hW : (rest.map fun v => v.category).sum ≤ 8) (hdg : decode cc pc = .ok (.invokestatic index, 3))
    (kk : ∀ (H1 : Heap) (locs1 : List Loc), va_P D vwCl (vm_mg ww is w1) H1 → va_D A0 (vm_mg ww is w1) → va_S A0 H0 H1 locs1 → W p l e R s m args below meth c H1 locs1 cells slots Q (F0 m (pc + 3) ls rest)) : W p l e R s m args below meth c H locs cells slots Q (F0 m pc ls st0) := by
  have hPc := hP.sub is (vm_fm hC)
  have hDc := hD.sub is hnd hC
  have hFc := va_free (wc := wc) hD hS hA is hC
  refine va_callv (va_runS S hM cw ⟨vm_blindw, fun U hU hW => ⟨rfl, by rw [hU], by rw [hU]; exact hPc, va_K.moved hW.alike hK, vm_N.warm hW hN, hDc.weaken (fun _ _ _ _ => trivial)⟩⟩ rfl hn hsz hst (lv_room hW) hdg ⟨hf.1, hf.2⟩) hS (fun q _ h => hFc q h) hFc (fun u t H1 locs1 ht hvm hw hB hz1 hk1 hS1 => ?_)
  subst ht
  obtain ⟨hP2, hD2⟩ := vm_join hP hD is hC h1 hk1 hB
  exact kk _ locs1 hP2 hD2 hS1
/-- a call that writes, and answers a long -/
theorem vm_rwVl {post : Int64 → Unit → Prop} {A0 : Nat → Prop} {H0 : Heap} (S : CallFix p m c cc nL s args Ts own) (hK : va_K D vwCl (vm_ty cI cB) s) (hN : vm_N s) (hP : va_P D vwCl ww H) (hD : va_D A0 ww) (hS : va_S A0 H0 H locs) (hA : ∀ q, H0.size ≤ q → A0 q) (hsz : ls.size = nL) (hf : cells ≤ R.cells ∧ slots ≤ R.slots)
    (hM : Met l y ws rm (vm_prw (.ref b :: As) D wc cI cB H.size) (va_Ql post (fun _ t => va_P D vwCl w1 t.heap) (va_A wc H.size)) 0 0 (va_A wc H.size)) (cw : CallW R s args own C index y bytes maxL ret ws rm 0 0 n) (is : List Nat) (hC : is.map (fun i => ww[i]?) = wc.map some) (hnd : va_nd is = true) (h1 : w1.map (fun q => q.1) = wc.map (fun q => q.1)) (ci : Nat) (hr0 : wc[0]? = some (b, .inr (ci, fs))) (hcl : vwCl[ci]? = some (C, T, N)) (hn : As.length = n) (hst : st0 = As.reverse ++ .ref b :: rest) (hW : (rest.map fun v => v.category).sum ≤ 8) (hdg : decode cc pc = .ok (.invokevirtual index, 3))
    (kk : ∀ (r : Int64) (H1 : Heap) (locs1 : List Loc), post r () → va_P D vwCl (vm_mg ww is w1) H1 → va_D A0 (vm_mg ww is w1) → va_S A0 H0 H1 locs1 → W p l e R s m args below meth c H1 locs1 cells slots Q (F0 m (pc + 3) ls (.long r :: rest))) : W p l e R s m args below meth c H locs cells slots Q (F0 m pc ls st0) := by
  have hPc := hP.sub is (vm_fm hC)
  have hDc := hD.sub is hnd hC
  have hFc := va_free (wc := wc) hD hS hA is hC
  refine va_calll (va_runV S hM cw ⟨vm_blindw, va_recv hK hPc hcl hr0, fun U hU hW => ⟨rfl, by rw [hU], by rw [hU]; exact hPc, va_K.moved hW.alike hK, vm_N.warm hW hN, hDc.weaken (fun _ _ _ _ => trivial)⟩⟩ rfl hn hsz hst (lv_room hW) hdg ⟨hf.1, hf.2⟩) hS (fun q _ h => hFc q h) hFc (fun r u t H1 locs1 ht hvm hw hB hz1 hk1 hS1 => ?_)
  subst ht
  obtain ⟨hP2, hD2⟩ := vm_join hP hD is hC h1 hk1 hB
  exact kk r _ locs1 hw hP2 hD2 hS1
/-- a call that writes, and answers a double -/
theorem vm_rwVd {post : UInt64 → Unit → Prop} {A0 : Nat → Prop} {H0 : Heap} (S : CallFix p m c cc nL s args Ts own) (hK : va_K D vwCl (vm_ty cI cB) s) (hN : vm_N s) (hP : va_P D vwCl ww H) (hD : va_D A0 ww) (hS : va_S A0 H0 H locs) (hA : ∀ q, H0.size ≤ q → A0 q) (hsz : ls.size = nL) (hf : cells ≤ R.cells ∧ slots ≤ R.slots)
    (hM : Met l y ws rm (vm_prw (.ref b :: As) D wc cI cB H.size) (va_Qd post (fun _ t => va_P D vwCl w1 t.heap) (va_A wc H.size)) 0 0 (va_A wc H.size)) (cw : CallW R s args own C index y bytes maxL ret ws rm 0 0 n) (is : List Nat) (hC : is.map (fun i => ww[i]?) = wc.map some) (hnd : va_nd is = true) (h1 : w1.map (fun q => q.1) = wc.map (fun q => q.1)) (ci : Nat) (hr0 : wc[0]? = some (b, .inr (ci, fs))) (hcl : vwCl[ci]? = some (C, T, N)) (hn : As.length = n) (hst : st0 = As.reverse ++ .ref b :: rest) (hW : (rest.map fun v => v.category).sum ≤ 8) (hdg : decode cc pc = .ok (.invokevirtual index, 3))
    (kk : ∀ (r : UInt64) (H1 : Heap) (locs1 : List Loc), post r () → va_P D vwCl (vm_mg ww is w1) H1 → va_D A0 (vm_mg ww is w1) → va_S A0 H0 H1 locs1 → W p l e R s m args below meth c H1 locs1 cells slots Q (F0 m (pc + 3) ls (.double r :: rest))) : W p l e R s m args below meth c H locs cells slots Q (F0 m pc ls st0) := by
  have hPc := hP.sub is (vm_fm hC)
  have hDc := hD.sub is hnd hC
  have hFc := va_free (wc := wc) hD hS hA is hC
  refine va_calld (va_runV S hM cw ⟨vm_blindw, va_recv hK hPc hcl hr0, fun U hU hW => ⟨rfl, by rw [hU], by rw [hU]; exact hPc, va_K.moved hW.alike hK, vm_N.warm hW hN, hDc.weaken (fun _ _ _ _ => trivial)⟩⟩ rfl hn hsz hst (lv_room hW) hdg ⟨hf.1, hf.2⟩) hS (fun q _ h => hFc q h) hFc (fun r u t H1 locs1 ht hvm hw hB hz1 hk1 hS1 => ?_)
  subst ht
  obtain ⟨hP2, hD2⟩ := vm_join hP hD is hC h1 hk1 hB
  exact kk r _ locs1 hw hP2 hD2 hS1
end VMD
section VME
variable {p : Program} {l : Launch} {e : Env} {R : Room} {s : State} {m : MethodId} {args : Array Value} {below : List Frame} {meth : Method} {c : Code} {H : Heap} {locs : List Loc} {cells slots : Nat} {Q : State → Prop}
variable {y : MethodName} {bytes cc : ByteArray} {maxL nL n index : Nat} {ret : Option FieldType} {ws : List Cond} {rm : Room} {Ts : List Cond} {own C : String} {b : Addr} {As rest st0 : List Value} {pc : Nat} {ls : Array Slot} {D : va_G} {cI cB : ClassId} {ww wc w1 : va_W} {T : u_T} {N : Nat} {fs : List Value}
theorem vm_roVx {v : Int32} (S : CallFix p m c cc nL s args Ts own) (hK : va_K D vwCl (vm_ty cI cB) s) (hN : vm_N s) (hP : va_P D vwCl ww H) (hsz : ls.size = nL) (hf : cells ≤ R.cells ∧ slots ≤ R.slots)
    (hM : Met l y ws rm (vm_pre (.ref b :: As) D wc cI cB) (vp_Si (fun r => r = v)) 0 0 (fun _ => False)) (cw : CallW R s args own C index y bytes maxL ret ws rm 0 0 n) (is : List Nat) (hC : is.map (fun i => ww[i]?) = wc.map some) (ci : Nat) (hr0 : wc[0]? = some (b, .inr (ci, fs))) (hcl : vwCl[ci]? = some (C, T, N)) (hn : As.length = n) (hst : st0 = As.reverse ++ .ref b :: rest) (hW : (rest.map fun v => v.category).sum ≤ 8) (hdg : decode cc pc = .ok (.invokevirtual index, 3))
    (kk : W p l e R s m args below meth c H locs cells slots Q (F0 m (pc + 3) ls (.int v :: rest))) : W p l e R s m args below meth c H locs cells slots Q (F0 m pc ls st0) :=
  vm_roV S hK hN hP hsz hf hM cw is hC ci hr0 hcl hn hst hW hdg (fun r er => (show v = r from Eq.symm er) ▸ kk)
theorem vm_roVlx {v : Int64} (S : CallFix p m c cc nL s args Ts own) (hK : va_K D vwCl (vm_ty cI cB) s) (hN : vm_N s) (hP : va_P D vwCl ww H) (hsz : ls.size = nL) (hf : cells ≤ R.cells ∧ slots ≤ R.slots)
    (hM : Met l y ws rm (vm_pre (.ref b :: As) D wc cI cB) (vp_Sl (fun r => r = v)) 0 0 (fun _ => False)) (cw : CallW R s args own C index y bytes maxL ret ws rm 0 0 n) (is : List Nat) (hC : is.map (fun i => ww[i]?) = wc.map some) (ci : Nat) (hr0 : wc[0]? = some (b, .inr (ci, fs))) (hcl : vwCl[ci]? = some (C, T, N)) (hn : As.length = n) (hst : st0 = As.reverse ++ .ref b :: rest) (hW : (rest.map fun v => v.category).sum ≤ 8) (hdg : decode cc pc = .ok (.invokevirtual index, 3))
    (kk : W p l e R s m args below meth c H locs cells slots Q (F0 m (pc + 3) ls (.long v :: rest))) : W p l e R s m args below meth c H locs cells slots Q (F0 m pc ls st0) :=
  vm_roVl S hK hN hP hsz hf hM cw is hC ci hr0 hcl hn hst hW hdg (fun r er => (show v = r from Eq.symm er) ▸ kk)
theorem vm_roVdx {v : UInt64} (S : CallFix p m c cc nL s args Ts own) (hK : va_K D vwCl (vm_ty cI cB) s) (hN : vm_N s) (hP : va_P D vwCl ww H) (hsz : ls.size = nL) (hf : cells ≤ R.cells ∧ slots ≤ R.slots)
    (hM : Met l y ws rm (vm_pre (.ref b :: As) D wc cI cB) (vp_Sd (fun r => r = v)) 0 0 (fun _ => False)) (cw : CallW R s args own C index y bytes maxL ret ws rm 0 0 n) (is : List Nat) (hC : is.map (fun i => ww[i]?) = wc.map some) (ci : Nat) (hr0 : wc[0]? = some (b, .inr (ci, fs))) (hcl : vwCl[ci]? = some (C, T, N)) (hn : As.length = n) (hst : st0 = As.reverse ++ .ref b :: rest) (hW : (rest.map fun v => v.category).sum ≤ 8) (hdg : decode cc pc = .ok (.invokevirtual index, 3))
    (kk : W p l e R s m args below meth c H locs cells slots Q (F0 m (pc + 3) ls (.double v :: rest))) : W p l e R s m args below meth c H locs cells slots Q (F0 m pc ls st0) :=
  vm_roVd S hK hN hP hsz hf hM cw is hC ci hr0 hcl hn hst hW hdg (fun r er => (show v = r from Eq.symm er) ▸ kk)
theorem vm_roSx {v : Int32} (S : CallFix p m c cc nL s args Ts own) (hK : va_K D vwCl (vm_ty cI cB) s) (hN : vm_N s) (hP : va_P D vwCl ww H) (hsz : ls.size = nL) (hf : cells ≤ R.cells ∧ slots ≤ R.slots)
    (hM : Met l y ws rm (vm_pre As D [] cI cB) (vp_Si (fun r => r = v)) 0 0 (fun _ => False)) (cw : CallB R s args own index y bytes maxL ret ws rm 0 0 n ∧ (Cond.static y).before args s = true) (hn : As.length = n) (hst : st0 = As.reverse ++ rest) (hW : (rest.map fun v => v.category).sum ≤ 8) (hdg : decode cc pc = .ok (.invokestatic index, 3))
    (kk : W p l e R s m args below meth c H locs cells slots Q (F0 m (pc + 3) ls (.int v :: rest))) : W p l e R s m args below meth c H locs cells slots Q (F0 m pc ls st0) :=
  vm_roS S hK hN hP hsz hf hM cw hn hst hW hdg (fun r er => (show v = r from Eq.symm er) ▸ kk)
theorem vm_roSlx {v : Int64} (S : CallFix p m c cc nL s args Ts own) (hK : va_K D vwCl (vm_ty cI cB) s) (hN : vm_N s) (hP : va_P D vwCl ww H) (hsz : ls.size = nL) (hf : cells ≤ R.cells ∧ slots ≤ R.slots)
    (hM : Met l y ws rm (vm_pre As D [] cI cB) (vp_Sl (fun r => r = v)) 0 0 (fun _ => False)) (cw : CallB R s args own index y bytes maxL ret ws rm 0 0 n ∧ (Cond.static y).before args s = true) (hn : As.length = n) (hst : st0 = As.reverse ++ rest) (hW : (rest.map fun v => v.category).sum ≤ 8) (hdg : decode cc pc = .ok (.invokestatic index, 3))
    (kk : W p l e R s m args below meth c H locs cells slots Q (F0 m (pc + 3) ls (.long v :: rest))) : W p l e R s m args below meth c H locs cells slots Q (F0 m pc ls st0) :=
  vm_roSl S hK hN hP hsz hf hM cw hn hst hW hdg (fun r er => (show v = r from Eq.symm er) ▸ kk)
end VME
theorem vm_dn2 {i : Int32} {n : Nat} (h : 0 ≤ i) (hn : (i.toInt + 1).toNat < n + 1) : ((i + (-1)).toInt + 1).toNat < n := by
  rw [show i + (-1) = i - 1 from (Int32.sub_eq_add_neg i 1).symm]
  exact vm_dn h hn
