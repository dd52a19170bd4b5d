/-! EXCEPTIONS: codes, what must hold for a throw, calls that may throw -/
def vm_xc (k : Nat) : String := if k = 1 then "java/lang/IndexOutOfBoundsException" else if k = 2 then "java/lang/IllegalArgumentException" else "java/lang/IllegalStateException"
/-- the texts of the class, and the castable words -/
def vm_Y (sa : Nat → Nat) (U : State) : Prop :=
  vk_R RX5 106 "an urgent spending cannot be taken back" (sa 106) U ∧
  vk_R RX5 115 "the days end before that" (sa 115) U ∧
  vk_R RX5 131 "the buffer is full" (sa 131) U ∧
  vk_R RX5 147 "the buffer is not a complete row of spendings" (sa 147) U ∧
  vk_R RX5 156 "no state is saved" (sa 156) U ∧
  vk_R RX5 236 "no such mandate" (sa 236) U ∧
  vk_R RX5 239 "no such request" (sa 239) U ∧
  vk_R RX5 241 "no such person" (sa 241) U ∧
  vk_R RX5 243 "no such setting" (sa 243) U ∧
  vk_R RX5 245 "out of range" (sa 245) U ∧
  vk_R RX5 250 "the mandate does not stand" (sa 250) U ∧
  vk_R RX5 256 "the spending cannot be asked for" (sa 256) U ∧
  vk_R RX5 44 "the mandate cannot be given" (sa 44) U ∧
  vk_R RX5 73 "the limits do not fit the mandates round it" (sa 73) U ∧
  vk_R RX5 96 "the person cannot approve it" (sa 96) U ∧
  va_Nw (.castable "java/lang/IndexOutOfBoundsException" "java/lang/IndexOutOfBoundsException") U ∧
  va_Nw (.castable "java/lang/IllegalArgumentException" "java/lang/IllegalArgumentException") U ∧
  va_Nw (.castable "java/lang/IllegalStateException" "java/lang/IllegalStateException") U ∧
  va_Nw (.declares ⟨"java/lang/RuntimeException", "<init>", "(Ljava/lang/String;)V"⟩) U ∧
  va_Nw (.declares ⟨"java/lang/Exception", "<init>", "(Ljava/lang/String;)V"⟩) U ∧
  va_Nw (.declares ⟨"java/lang/Throwable", "<init>", "(Ljava/lang/String;)V"⟩) U
theorem vm_Y.warm {sa : Nat → Nat} {s U : State} (hW : s.WarmedH U.vm) (h : vm_Y sa s) : vm_Y sa U := by
  obtain ⟨h1, h2, h3, h4, h5, h6, h7, h8, h9, h10, h11, h12, h13, h14, h15, h16, h17, h18, h19, h20, h21⟩ := h
  exact ⟨h1.warm hW, h2.warm hW, h3.warm hW, h4.warm hW, h5.warm hW, h6.warm hW, h7.warm hW, h8.warm hW, h9.warm hW, h10.warm hW, h11.warm hW, h12.warm hW, h13.warm hW, h14.warm hW, h15.warm hW, h16.warmC hW, h17.warmC hW, h18.warmC hW, h19.warmD hW, h20.warmD hW, h21.warmD hW⟩
theorem vm_Y.same {sa : Nat → Nat} {u U : State} (e : U.vm = u.vm) (h : vm_Y sa u) : vm_Y sa U := by
  obtain ⟨h1, h2, h3, h4, h5, h6, h7, h8, h9, h10, h11, h12, h13, h14, h15, h16, h17, h18, h19, h20, h21⟩ := h
  exact ⟨vk_R.same e h1, vk_R.same e h2, vk_R.same e h3, vk_R.same e h4, vk_R.same e h5, vk_R.same e h6, vk_R.same e h7, vk_R.same e h8, vk_R.same e h9, vk_R.same e h10, vk_R.same e h11, vk_R.same e h12, vk_R.same e h13, vk_R.same e h14, vk_R.same e h15, h16.same rfl e.symm, h17.same rfl e.symm, h18.same rfl e.symm, h19.same rfl e.symm, h20.same rfl e.symm, h21.same rfl e.symm⟩
def vm_Z (A : Nat → Prop) (U : State) (H : Heap) : Prop := vx_Zq Bundle.tN "UNASSIGNED_STACK" Bundle.steD A U H ∧ vx_Zq Bundle.tN "SUPPRESSED_SENTINEL" Bundle.listD A U H
theorem vm_Z.to {A B : Nat → Prop} {s U : State} {H : Heap} (h : vm_Z A s s.heap) (hq : ∀ a : Nat, a < s.heap.size → ¬ A a → H[a]? = s.heap[a]?) (hAB : ∀ q, B q → A q) (hU : U.heap = H) (hvm : s.vm.Alike U.vm) : vm_Z B U U.heap := by
  subst hU
  exact ⟨(((h.1.kept hq).narrow hAB).moved hvm), (((h.2.kept hq).narrow hAB).moved hvm)⟩
/-- a start that may throw -/
def vm_prx (av : List Value) (D : va_G) (ws : va_W) (cI cB : ClassId) (sz : Nat) (sa : Nat → Nat) : Array Value → State → Prop :=
  va_Pc av (fun U => U.heap.size = sz ∧ va_P D vwCl ws U.heap ∧ va_K D vwCl (vm_ty cI cB) U ∧ vm_N U ∧ va_D (fun _ => True) ws ∧ vm_Y sa U ∧ vm_Z (va_A ws sz) U U.heap)
theorem vm_blindx {av : List Value} {D : va_G} {ws : va_W} {cI cB : ClassId} {sz : Nat} {sa : Nat → Nat} : FrameBlind (vm_prx av D ws cI cB sz sa) :=
  fun a U g mk q => ⟨q.1, q.2.1, q.2.2.1, va_K.moved (u := U) (U := U.calling g mk a) (Vm.Alike.refl U.vm) q.2.2.2.1, vm_N.same (u := U) (U := U.calling g mk a) rfl q.2.2.2.2.1, q.2.2.2.2.2.1, vm_Y.same (u := U) (U := U.calling g mk a) rfl q.2.2.2.2.2.2.1, ⟨vx_Zq.moved (u := U) (U := U.calling g mk a) (Vm.Alike.refl U.vm) q.2.2.2.2.2.2.2.1, vx_Zq.moved (u := U) (U := U.calling g mk a) (Vm.Alike.refl U.vm) q.2.2.2.2.2.2.2.2⟩⟩
/-- what a throw leaves -/
def vm_XC (D : va_G) (w1 : va_W) (k0 : Nat) (A : Nat → Prop) : String → State → State → Prop := vx_X (fun _ : Unit => True) (fun E _ t => E = vm_xc k0 ∧ k0 ≠ 0 ∧ va_P D vwCl w1 t.heap) A
theorem vm_thrown {D : va_G} {w1 : va_W} {k0 : Nat} {A : Nat → Prop} {E : String} {s t : State} {H : Heap} {locs : List Loc} (hE : E = vm_xc k0) (h0 : k0 ≠ 0) (hP : va_P D vwCl w1 H) (hS : va_S A s.heap H locs) (hz : H.size ≤ t.heap.size) (hk : ∀ q : Nat, q < H.size → t.heap[q]? = H[q]?) : vm_XC D w1 k0 A E s t :=
  ⟨(), trivial, ⟨hE, h0, hP.kept (fun k q h => hk q.1 (hP k q h).lt)⟩, Nat.le_trans hS.1 hz, fun q h1 h2 => (hk q (Nat.lt_of_lt_of_le h1 hS.1)).trans (hS.2.1 q h1 h2)⟩
section VMX
variable {p : Program} {l : Launch} {e : Env} {R : Room} {s : State} {m : MethodId} {args : Array Value} {below : List Frame} {meth : Method} {c : Code} {H : Heap} {locs : List Loc} {cells slots mc ms : Nat} {Q : State → Prop}
variable {y : MethodName} {bytes cc : ByteArray} {maxL nL n index : Nat} {ret : Option FieldType} {ws : List Cond} {rm : Room} {Ts : List Cond} {own C : String} {b : Addr} {As rest st0 : List Value} {pc : Nat} {ls : Array Slot} {D : va_G} {cI cB : ClassId} {ww wc w1 : va_W} {T : u_T} {N : Nat} {fs : List Value} {sa : Nat → Nat} {k0 : Nat} {A0 : Nat → Prop}

theorem vm_xVv (S : CallFix p m c cc nL s args Ts own) (hK : va_K D vwCl (vm_ty cI cB) s) (hN : vm_N s) (hY : vm_Y sa s) (hZ : vm_Z A0 s s.heap) (hP : va_P D vwCl ww H) (hD : va_D A0 ww) (hS : va_S A0 s.heap H locs) (hA : ∀ q, s.heap.size ≤ q → A0 q) (hsz : ls.size = nL) (hf : cells + mc ≤ R.cells ∧ slots + ms ≤ R.slots)
    (hM : vx_Met l y ws rm (vm_prx (.ref b :: As) D wc cI cB H.size sa) (va_Qv (fun _ : Unit => k0 = 0) (fun _ t => va_P D vwCl w1 t.heap) (va_A wc H.size)) (vm_XC D w1 k0 (va_A wc H.size)) mc ms (va_A wc H.size)) (cw : CallW R s args own C index y bytes maxL ret ws rm mc ms n) (is : List Nat) (hC : is.map (fun i => ww[i]?) = wc.map some) (hnd : va_nd is = true) (h1 : w1.map (fun q => q.1) = wc.map (fun q => q.1)) (ci : Nat) (hr0 : wc[0]? = some (b, .inr (ci, fs))) (hcl : vwCl[ci]? = some (C, T, N)) (hn : As.length = n) (hst : st0 = As.reverse ++ .ref b :: rest) (hW : (rest.map fun v => v.category).sum ≤ 8) (hdg : decode cc pc = .ok (.invokevirtual index, 3))
    (kx : ∀ (E : String) (ce : Cell) (q9 : Addr) (H1 : Heap) (locs1 : List Loc), E = vm_xc k0 → k0 ≠ 0 → va_P D vwCl (vm_mg ww is w1) H1 → va_D A0 (vm_mg ww is w1) → va_S A0 s.heap H1 locs1 → H1[q9]? = some ce → ce.vm = .none → s.vm.findClass E = some ce.cls → vx_W p l e R s m args below meth c H1 locs1 (cells + mc) (slots + ms) Q (F0 m pc ls rest) q9)
    (kk : ∀ (H1 : Heap) (locs1 : List Loc), k0 = 0 → va_P D vwCl (vm_mg ww is w1) H1 → va_D A0 (vm_mg ww is w1) → va_S A0 s.heap H1 locs1 → W p l e R s m args below meth c H1 locs1 (cells + mc) (slots + ms) Q (F0 m (pc + 3) ls rest)) : W p l e R s m args below meth c H locs cells slots Q (F0 m pc ls st0) := by
  have hPc := hP.sub is (vm_fm hC)
  have hDc := hD.sub is hnd hC
  have hFc := va_free (wc := wc) hD hS hA is hC
  refine vx_callv (vx_runV S hM cw ⟨vm_blindx, va_recv hK hPc hcl hr0, fun U hU hW => ⟨rfl, by rw [hU], by rw [hU]; exact hPc, va_K.moved hW.alike hK, vm_N.warm hW hN, hDc.weaken (fun _ _ _ _ => trivial), vm_Y.warm hW hY, hZ.to (fun q h2 h3 => hS.2.1 q h2 h3) hFc hU hW.alike⟩⟩ rfl hn hsz hst (lv_room hW) hdg ⟨hf.1, hf.2⟩) hS (fun q _ h => hFc q h) hFc (fun q _ h => hFc q h) (fun E ce q9 u t H1 locs1 ht hvm hw hB hz1 hk1 hS1 hc1 hc2 hc3 => ?_) (fun u t H1 locs1 ht hvm hw hB hz1 hk1 hS1 => ?_)
  · subst ht
    obtain ⟨hE, h0, hPx⟩ := hB
    obtain ⟨hP2, hD2⟩ := vm_join hP hD is hC h1 hk1 hPx
    exact kx E ce q9 _ locs1 hE h0 hP2 hD2 hS1 hc1 hc2 hc3
  · subst ht
    obtain ⟨hP2, hD2⟩ := vm_join hP hD is hC h1 hk1 hB
    exact kk _ locs1 hw hP2 hD2 hS1
theorem vm_xVi {v : Int32} (S : CallFix p m c cc nL s args Ts own) (hK : va_K D vwCl (vm_ty cI cB) s) (hN : vm_N s) (hY : vm_Y sa s) (hZ : vm_Z A0 s s.heap) (hP : va_P D vwCl ww H) (hD : va_D A0 ww) (hS : va_S A0 s.heap H locs) (hA : ∀ q, s.heap.size ≤ q → A0 q) (hsz : ls.size = nL) (hf : cells + mc ≤ R.cells ∧ slots + ms ≤ R.slots)
    (hM : vx_Met l y ws rm (vm_prx (.ref b :: As) D wc cI cB H.size sa) (va_Qi (fun (r : Int32) (_ : Unit) => k0 = 0 ∧ r = v) (fun _ t => va_P D vwCl w1 t.heap) (va_A wc H.size)) (vm_XC D w1 k0 (va_A wc H.size)) mc ms (va_A wc H.size)) (cw : CallW R s args own C index y bytes maxL ret ws rm mc ms n) (is : List Nat) (hC : is.map (fun i => ww[i]?) = wc.map some) (hnd : va_nd is = true) (h1 : w1.map (fun q => q.1) = wc.map (fun q => q.1)) (ci : Nat) (hr0 : wc[0]? = some (b, .inr (ci, fs))) (hcl : vwCl[ci]? = some (C, T, N)) (hn : As.length = n) (hst : st0 = As.reverse ++ .ref b :: rest) (hW : (rest.map fun v => v.category).sum ≤ 8) (hdg : decode cc pc = .ok (.invokevirtual index, 3))
    (kx : ∀ (E : String) (ce : Cell) (q9 : Addr) (H1 : Heap) (locs1 : List Loc), E = vm_xc k0 → k0 ≠ 0 → va_P D vwCl (vm_mg ww is w1) H1 → va_D A0 (vm_mg ww is w1) → va_S A0 s.heap H1 locs1 → H1[q9]? = some ce → ce.vm = .none → s.vm.findClass E = some ce.cls → vx_W p l e R s m args below meth c H1 locs1 (cells + mc) (slots + ms) Q (F0 m pc ls rest) q9)
    (kk : ∀ (H1 : Heap) (locs1 : List Loc), k0 = 0 → va_P D vwCl (vm_mg ww is w1) H1 → va_D A0 (vm_mg ww is w1) → va_S A0 s.heap H1 locs1 → W p l e R s m args below meth c H1 locs1 (cells + mc) (slots + ms) Q (F0 m (pc + 3) ls (.int v :: rest))) : W p l e R s m args below meth c H locs cells slots Q (F0 m pc ls st0) := by
  have hPc := hP.sub is (vm_fm hC)
  have hDc := hD.sub is hnd hC
  have hFc := va_free (wc := wc) hD hS hA is hC
  refine vx_calli (vx_runV S hM cw ⟨vm_blindx, va_recv hK hPc hcl hr0, fun U hU hW => ⟨rfl, by rw [hU], by rw [hU]; exact hPc, va_K.moved hW.alike hK, vm_N.warm hW hN, hDc.weaken (fun _ _ _ _ => trivial), vm_Y.warm hW hY, hZ.to (fun q h2 h3 => hS.2.1 q h2 h3) hFc hU hW.alike⟩⟩ rfl hn hsz hst (lv_room hW) hdg ⟨hf.1, hf.2⟩) hS (fun q _ h => hFc q h) hFc (fun q _ h => hFc q h) (fun E ce q9 u t H1 locs1 ht hvm hw hB hz1 hk1 hS1 hc1 hc2 hc3 => ?_) (fun r u t H1 locs1 ht hvm hw hB hz1 hk1 hS1 => ?_)
  · subst ht
    obtain ⟨hE, h0, hPx⟩ := hB
    obtain ⟨hP2, hD2⟩ := vm_join hP hD is hC h1 hk1 hPx
    exact kx E ce q9 _ locs1 hE h0 hP2 hD2 hS1 hc1 hc2 hc3
  · subst ht
    obtain ⟨hP2, hD2⟩ := vm_join hP hD is hC h1 hk1 hB
    exact (show v = r from hw.2.symm) ▸ kk _ locs1 hw.1 hP2 hD2 hS1
theorem vm_xVl {v : Int64} (S : CallFix p m c cc nL s args Ts own) (hK : va_K D vwCl (vm_ty cI cB) s) (hN : vm_N s) (hY : vm_Y sa s) (hZ : vm_Z A0 s s.heap) (hP : va_P D vwCl ww H) (hD : va_D A0 ww) (hS : va_S A0 s.heap H locs) (hA : ∀ q, s.heap.size ≤ q → A0 q) (hsz : ls.size = nL) (hf : cells + mc ≤ R.cells ∧ slots + ms ≤ R.slots)
    (hM : vx_Met l y ws rm (vm_prx (.ref b :: As) D wc cI cB H.size sa) (va_Ql (fun (r : Int64) (_ : Unit) => k0 = 0 ∧ r = v) (fun _ t => va_P D vwCl w1 t.heap) (va_A wc H.size)) (vm_XC D w1 k0 (va_A wc H.size)) mc ms (va_A wc H.size)) (cw : CallW R s args own C index y bytes maxL ret ws rm mc ms n) (is : List Nat) (hC : is.map (fun i => ww[i]?) = wc.map some) (hnd : va_nd is = true) (h1 : w1.map (fun q => q.1) = wc.map (fun q => q.1)) (ci : Nat) (hr0 : wc[0]? = some (b, .inr (ci, fs))) (hcl : vwCl[ci]? = some (C, T, N)) (hn : As.length = n) (hst : st0 = As.reverse ++ .ref b :: rest) (hW : (rest.map fun v => v.category).sum ≤ 8) (hdg : decode cc pc = .ok (.invokevirtual index, 3))
    (kx : ∀ (E : String) (ce : Cell) (q9 : Addr) (H1 : Heap) (locs1 : List Loc), E = vm_xc k0 → k0 ≠ 0 → va_P D vwCl (vm_mg ww is w1) H1 → va_D A0 (vm_mg ww is w1) → va_S A0 s.heap H1 locs1 → H1[q9]? = some ce → ce.vm = .none → s.vm.findClass E = some ce.cls → vx_W p l e R s m args below meth c H1 locs1 (cells + mc) (slots + ms) Q (F0 m pc ls rest) q9)
    (kk : ∀ (H1 : Heap) (locs1 : List Loc), k0 = 0 → va_P D vwCl (vm_mg ww is w1) H1 → va_D A0 (vm_mg ww is w1) → va_S A0 s.heap H1 locs1 → W p l e R s m args below meth c H1 locs1 (cells + mc) (slots + ms) Q (F0 m (pc + 3) ls (.long v :: rest))) : W p l e R s m args below meth c H locs cells slots Q (F0 m pc ls st0) := by
  have hPc := hP.sub is (vm_fm hC)
  have hDc := hD.sub is hnd hC
  have hFc := va_free (wc := wc) hD hS hA is hC
  refine vx_calll (vx_runV S hM cw ⟨vm_blindx, va_recv hK hPc hcl hr0, fun U hU hW => ⟨rfl, by rw [hU], by rw [hU]; exact hPc, va_K.moved hW.alike hK, vm_N.warm hW hN, hDc.weaken (fun _ _ _ _ => trivial), vm_Y.warm hW hY, hZ.to (fun q h2 h3 => hS.2.1 q h2 h3) hFc hU hW.alike⟩⟩ rfl hn hsz hst (lv_room hW) hdg ⟨hf.1, hf.2⟩) hS (fun q _ h => hFc q h) hFc (fun q _ h => hFc q h) (fun E ce q9 u t H1 locs1 ht hvm hw hB hz1 hk1 hS1 hc1 hc2 hc3 => ?_) (fun r u t H1 locs1 ht hvm hw hB hz1 hk1 hS1 => ?_)
  · subst ht
    obtain ⟨hE, h0, hPx⟩ := hB
    obtain ⟨hP2, hD2⟩ := vm_join hP hD is hC h1 hk1 hPx
    exact kx E ce q9 _ locs1 hE h0 hP2 hD2 hS1 hc1 hc2 hc3
  · subst ht
    obtain ⟨hP2, hD2⟩ := vm_join hP hD is hC h1 hk1 hB
    exact (show v = r from hw.2.symm) ▸ kk _ locs1 hw.1 hP2 hD2 hS1
theorem vm_xVd {v : UInt64} (S : CallFix p m c cc nL s args Ts own) (hK : va_K D vwCl (vm_ty cI cB) s) (hN : vm_N s) (hY : vm_Y sa s) (hZ : vm_Z A0 s s.heap) (hP : va_P D vwCl ww H) (hD : va_D A0 ww) (hS : va_S A0 s.heap H locs) (hA : ∀ q, s.heap.size ≤ q → A0 q) (hsz : ls.size = nL) (hf : cells + mc ≤ R.cells ∧ slots + ms ≤ R.slots)
    (hM : vx_Met l y ws rm (vm_prx (.ref b :: As) D wc cI cB H.size sa) (va_Qd (fun (r : UInt64) (_ : Unit) => k0 = 0 ∧ r = v) (fun _ t => va_P D vwCl w1 t.heap) (va_A wc H.size)) (vm_XC D w1 k0 (va_A wc H.size)) mc ms (va_A wc H.size)) (cw : CallW R s args own C index y bytes maxL ret ws rm mc ms n) (is : List Nat) (hC : is.map (fun i => ww[i]?) = wc.map some) (hnd : va_nd is = true) (h1 : w1.map (fun q => q.1) = wc.map (fun q => q.1)) (ci : Nat) (hr0 : wc[0]? = some (b, .inr (ci, fs))) (hcl : vwCl[ci]? = some (C, T, N)) (hn : As.length = n) (hst : st0 = As.reverse ++ .ref b :: rest) (hW : (rest.map fun v => v.category).sum ≤ 8) (hdg : decode cc pc = .ok (.invokevirtual index, 3))
    (kx : ∀ (E : String) (ce : Cell) (q9 : Addr) (H1 : Heap) (locs1 : List Loc), E = vm_xc k0 → k0 ≠ 0 → va_P D vwCl (vm_mg ww is w1) H1 → va_D A0 (vm_mg ww is w1) → va_S A0 s.heap H1 locs1 → H1[q9]? = some ce → ce.vm = .none → s.vm.findClass E = some ce.cls → vx_W p l e R s m args below meth c H1 locs1 (cells + mc) (slots + ms) Q (F0 m pc ls rest) q9)
    (kk : ∀ (H1 : Heap) (locs1 : List Loc), k0 = 0 → va_P D vwCl (vm_mg ww is w1) H1 → va_D A0 (vm_mg ww is w1) → va_S A0 s.heap H1 locs1 → W p l e R s m args below meth c H1 locs1 (cells + mc) (slots + ms) Q (F0 m (pc + 3) ls (.double v :: rest))) : W p l e R s m args below meth c H locs cells slots Q (F0 m pc ls st0) := by
  have hPc := hP.sub is (vm_fm hC)
  have hDc := hD.sub is hnd hC
  have hFc := va_free (wc := wc) hD hS hA is hC
  refine vx_calld (vx_runV S hM cw ⟨vm_blindx, va_recv hK hPc hcl hr0, fun U hU hW => ⟨rfl, by rw [hU], by rw [hU]; exact hPc, va_K.moved hW.alike hK, vm_N.warm hW hN, hDc.weaken (fun _ _ _ _ => trivial), vm_Y.warm hW hY, hZ.to (fun q h2 h3 => hS.2.1 q h2 h3) hFc hU hW.alike⟩⟩ rfl hn hsz hst (lv_room hW) hdg ⟨hf.1, hf.2⟩) hS (fun q _ h => hFc q h) hFc (fun q _ h => hFc q h) (fun E ce q9 u t H1 locs1 ht hvm hw hB hz1 hk1 hS1 hc1 hc2 hc3 => ?_) (fun r u t H1 locs1 ht hvm hw hB hz1 hk1 hS1 => ?_)
  · subst ht
    obtain ⟨hE, h0, hPx⟩ := hB
    obtain ⟨hP2, hD2⟩ := vm_join hP hD is hC h1 hk1 hPx
    exact kx E ce q9 _ locs1 hE h0 hP2 hD2 hS1 hc1 hc2 hc3
  · subst ht
    obtain ⟨hP2, hD2⟩ := vm_join hP hD is hC h1 hk1 hB
    exact (show v = r from hw.2.symm) ▸ kk _ locs1 hw.1 hP2 hD2 hS1
theorem vm_xSv (S : CallFix p m c cc nL s args Ts own) (hK : va_K D vwCl (vm_ty cI cB) s) (hN : vm_N s) (hY : vm_Y sa s) (hZ : vm_Z A0 s s.heap) (hP : va_P D vwCl ww H) (hD : va_D A0 ww) (hS : va_S A0 s.heap H locs) (hA : ∀ q, s.heap.size ≤ q → A0 q) (hsz : ls.size = nL) (hf : cells + mc ≤ R.cells ∧ slots + ms ≤ R.slots)
    (hM : vx_Met l y ws rm (vm_prx As D wc cI cB H.size sa) (va_Qv (fun _ : Unit => k0 = 0) (fun _ t => va_P D vwCl w1 t.heap) (va_A wc H.size)) (vm_XC D w1 k0 (va_A wc H.size)) mc ms (va_A wc H.size)) (cw : CallB R s args own index y bytes maxL ret ws rm mc ms n ∧ (Cond.static y).before args s = true) (is : List Nat) (hC : is.map (fun i => ww[i]?) = wc.map some) (hnd : va_nd is = true) (h1 : w1.map (fun q => q.1) = wc.map (fun q => q.1)) (hn : As.length = n) (hst : st0 = As.reverse ++ rest) (hW : (rest.map fun v => v.category).sum ≤ 8) (hdg : decode cc pc = .ok (.invokestatic index, 3))
    (kx : ∀ (E : String) (ce : Cell) (q9 : Addr) (H1 : Heap) (locs1 : List Loc), E = vm_xc k0 → k0 ≠ 0 → va_P D vwCl (vm_mg ww is w1) H1 → va_D A0 (vm_mg ww is w1) → va_S A0 s.heap H1 locs1 → H1[q9]? = some ce → ce.vm = .none → s.vm.findClass E = some ce.cls → vx_W p l e R s m args below meth c H1 locs1 (cells + mc) (slots + ms) Q (F0 m pc ls rest) q9)
    (kk : ∀ (H1 : Heap) (locs1 : List Loc), k0 = 0 → va_P D vwCl (vm_mg ww is w1) H1 → va_D A0 (vm_mg ww is w1) → va_S A0 s.heap H1 locs1 → W p l e R s m args below meth c H1 locs1 (cells + mc) (slots + ms) Q (F0 m (pc + 3) ls rest)) : W p l e R s m args below meth c H locs cells slots Q (F0 m pc ls st0) := by
  have hPc := hP.sub is (vm_fm hC)
  have hDc := hD.sub is hnd hC
  have hFc := va_free (wc := wc) hD hS hA is hC
  refine vx_callv (vx_runS S hM cw ⟨vm_blindx, fun U hU hW => ⟨rfl, by rw [hU], by rw [hU]; exact hPc, va_K.moved hW.alike hK, vm_N.warm hW hN, hDc.weaken (fun _ _ _ _ => trivial), vm_Y.warm hW hY, hZ.to (fun q h2 h3 => hS.2.1 q h2 h3) hFc hU hW.alike⟩⟩ rfl hn hsz hst (lv_room hW) hdg ⟨hf.1, hf.2⟩) hS (fun q _ h => hFc q h) hFc (fun q _ h => hFc q h) (fun E ce q9 u t H1 locs1 ht hvm hw hB hz1 hk1 hS1 hc1 hc2 hc3 => ?_) (fun u t H1 locs1 ht hvm hw hB hz1 hk1 hS1 => ?_)
  · subst ht
    obtain ⟨hE, h0, hPx⟩ := hB
    obtain ⟨hP2, hD2⟩ := vm_join hP hD is hC h1 hk1 hPx
    exact kx E ce q9 _ locs1 hE h0 hP2 hD2 hS1 hc1 hc2 hc3
  · subst ht
    obtain ⟨hP2, hD2⟩ := vm_join hP hD is hC h1 hk1 hB
    exact kk _ locs1 hw hP2 hD2 hS1
end VMX
