/-! BASE: the words of all contracts (vm_): what holds at a method's start, calls that change nothing, calls that change cells -/
def vm_bi (b : Bool) : Int32 := if b then 1 else 0
theorem vm_bi_nw (b : Bool) : narrow .boolean (.int (vm_bi b)) = .int (vm_bi b) := by cases b <;> rfl
theorem vm_bi_t : vm_bi true = 1 := rfl
theorem vm_bi_f : vm_bi false = 0 := rfl
theorem vm_bi_0 (b : Bool) : (vm_bi b = 0) = (b = false) := by cases b <;> simp [vm_bi]
abbrev vm_ty (cI cB : ClassId) : List (ClassId × FieldType) := [(cI, .int), (cB, .object RX0)]
/-- the tables' words on what nest mates share -/
def vm_N (U : State) : Prop :=
  va_Nw (.methodLinkNest "LapseMandates" 11 { cls := "LapseMandates$Book", name := "<init>", desc := "()V" } "LapseMandates") U ∧
  va_Nw (.methodLinkNest "LapseMandates$Book" 11 { cls := "LapseMandates$Mandates", name := "<init>", desc := "()V" } "LapseMandates") U ∧
  va_Nw (.methodLinkNest "LapseMandates$History" 17 { cls := "LapseMandates$Book", name := "<init>", desc := "()V" } "LapseMandates") U ∧
  va_Nw (.methodLinkNest "LapseMandates" 25 { cls := "LapseMandates$Text", name := "<init>", desc := "()V" } "LapseMandates") U ∧
  va_Nw (.fieldLinkNest "LapseMandates$Mandates" 20 "LapseMandates$Table" "rows" "I" "LapseMandates") U ∧
  va_Nw (.fieldLinkNest "LapseMandates$Book" 88 "LapseMandates$Table" "rows" "I" "LapseMandates") U ∧
  va_Nw (.fieldLinkNest "LapseMandates" 223 "LapseMandates$Table" "rows" "I" "LapseMandates") U ∧
  va_Nw (.fieldLinkNest "LapseMandates$Book" 38 "LapseMandates$Mandates" "table" "LLapseMandates$Table;" "LapseMandates") U ∧
  va_Nw (.fieldLinkNest "LapseMandates" 53 "LapseMandates$Book" "mandates" "LLapseMandates$Mandates;" "LapseMandates") U ∧
  va_Nw (.fieldLinkNest "LapseMandates" 219 "LapseMandates$Book" "requests" "LLapseMandates$Table;" "LapseMandates") U ∧
  va_Nw (.fieldLinkNest "LapseMandates" 111 "LapseMandates$Book" "day" "I" "LapseMandates") U ∧
  va_Nw (.fieldLinkNest "LapseMandates" 206 "LapseMandates$Book" "grace" "I" "LapseMandates") U ∧
  va_Nw (.fieldLinkNest "LapseMandates" 209 "LapseMandates$Book" "longestChain" "I" "LapseMandates") U ∧
  va_Nw (.fieldLinkNest "LapseMandates" 153 "LapseMandates$History" "kept" "I" "LapseMandates") U ∧
  va_Nw (.fieldLinkNest "LapseMandates" 228 "LapseMandates$Text" "length" "I" "LapseMandates") U
theorem vm_N.warm {s U : State} (hW : s.WarmedH U.vm) (h : vm_N s) : vm_N U := by
  obtain ⟨h1, h2, h3, h4, h5, h6, h7, h8, h9, h10, h11, h12, h13, h14, h15⟩ := h
  exact ⟨h1.warmM hW, h2.warmM hW, h3.warmM hW, h4.warmM hW, h5.warmF hW, h6.warmF hW, h7.warmF hW, h8.warmF hW, h9.warmF hW, h10.warmF hW, h11.warmF hW, h12.warmF hW, h13.warmF hW, h14.warmF hW, h15.warmF hW⟩
theorem vm_N.same {u U : State} (e : u.vm = U.vm) (h : vm_N u) : vm_N U := by
  obtain ⟨h1, h2, h3, h4, h5, h6, h7, h8, h9, h10, h11, h12, h13, h14, h15⟩ := h
  exact ⟨h1.same rfl e, h2.same rfl e, h3.same rfl e, h4.same rfl e, h5.same rfl e, h6.same rfl e, h7.same rfl e, h8.same rfl e, h9.same rfl e, h10.same rfl e, h11.same rfl e, h12.same rfl e, h13.same rfl e, h14.same rfl e, h15.same rfl e⟩
/-- a start that changes nothing -/
def vm_pre (av : List Value) (D : va_G) (ws : va_W) (cI cB : ClassId) : Array Value → State → Prop :=
  va_Pc av (fun U => va_P D vwCl ws U.heap ∧ va_K D vwCl (vm_ty cI cB) U ∧ vm_N U)
/-- a start that changes its cells -/
def vm_prw (av : List Value) (D : va_G) (ws : va_W) (cI cB : ClassId) (sz : Nat) : Array Value → State → Prop :=
  va_Pc av (fun U => U.heap.size = sz ∧ va_P D vwCl ws U.heap ∧ va_K D vwCl (vm_ty cI cB) U ∧ vm_N U ∧ va_D (fun _ => True) ws)
theorem vm_blind {av : List Value} {D : va_G} {ws : va_W} {cI cB : ClassId} : FrameBlind (vm_pre av D ws cI cB) :=
  fun a U g mk q => ⟨q.1, q.2.1, va_K.moved (u := U) (U := U.calling g mk a) (Vm.Alike.refl U.vm) q.2.2.1, vm_N.same (u := U) (U := U.calling g mk a) rfl q.2.2.2⟩
theorem vm_blindw {av : List Value} {D : va_G} {ws : va_W} {cI cB : ClassId} {sz : Nat} : FrameBlind (vm_prw av D ws cI cB sz) :=
  fun a U g mk q => ⟨q.1, q.2.1, q.2.2.1, va_K.moved (u := U) (U := U.calling g mk a) (Vm.Alike.refl U.vm) q.2.2.2.1, vm_N.same (u := U) (U := U.calling g mk a) rfl q.2.2.2.2.1, q.2.2.2.2.2⟩
/-- the world with some cells put in place of its own -/
def vm_mg (ww : va_W) : List Nat → va_W → va_W
  | i :: is, c :: cs => vm_mg (ww.set i c) is cs
  | _, _ => ww
theorem vm_mg_len (is : List Nat) : ∀ (ww w1 : va_W), (vm_mg ww is w1).length = ww.length := by
  induction is with
  | nil => intro ww w1; cases w1 <;> rfl
  | cons i is ih =>
    intro ww w1
    cases w1 with
    | nil => rfl
    | cons c cs => rw [vm_mg, ih]; simp
theorem vm_mg_get (is : List Nat) : ∀ (ww w1 : va_W) (k : Nat) (q : Nat × va_E), (vm_mg ww is w1)[k]? = some q → (∃ j : Nat, is[j]? = some k ∧ w1[j]? = some q) ∨ (ww[k]? = some q ∧ ∀ j : Nat, is[j]? = some k → w1.length ≤ j) := by
  induction is with
  | nil =>
    intro ww w1 k q h
    cases w1 <;> exact Or.inr ⟨h, fun j hj => by simp at hj⟩
  | cons i is ih =>
    intro ww w1 k q h
    cases w1 with
    | nil => exact Or.inr ⟨h, fun j _ => Nat.zero_le j⟩
    | cons c cs =>
      rw [vm_mg] at h
      rcases ih _ _ _ _ h with ⟨j, h1, h2⟩ | ⟨h1, h2⟩
      · exact Or.inl ⟨j + 1, by simpa using h1, by simpa using h2⟩
      · by_cases hk : k = i
        · subst hk
          rw [List.getElem?_set] at h1
          by_cases hl : k < ww.length
          · simp [hl] at h1
            exact Or.inl ⟨0, by simp, by simp [h1]⟩
          · simp [hl] at h1
        · rw [List.getElem?_set_ne (Ne.symm hk)] at h1
          refine Or.inr ⟨h1, fun j hj => ?_⟩
          cases j with
          | zero => simp at hj; exact absurd hj.symm hk
          | succ j => exact Nat.succ_le_succ (h2 j (by simpa using hj))
theorem vm_at {ww wc : va_W} {is : List Nat} (hC : is.map (fun i => ww[i]?) = wc.map some) {k : Nat} {q : Nat × va_E} (h : wc[k]? = some q) : ∃ i, is[k]? = some i ∧ ww[i]? = some q := by
  have h1 : (is.map (fun i => ww[i]?))[k]? = some (some q) := by rw [hC, List.getElem?_map, h]; rfl
  rw [List.getElem?_map] at h1
  cases hi : is[k]? with
  | none => rw [hi] at h1; cases h1
  | some i => rw [hi] at h1; exact ⟨i, rfl, Option.some.inj h1⟩
theorem vm_at' {ww wc : va_W} {is : List Nat} (hC : is.map (fun i => ww[i]?) = wc.map some) {k i : Nat} (h : is[k]? = some i) : ∃ q, wc[k]? = some q ∧ ww[i]? = some q := by
  have h1 : (is.map (fun i => ww[i]?))[k]? = some (ww[i]?) := by rw [List.getElem?_map, h]; rfl
  rw [hC, List.getElem?_map] at h1
  cases hi : wc[k]? with
  | none => rw [hi] at h1; cases h1
  | some q => rw [hi] at h1; exact ⟨q, rfl, (Option.some.inj h1).symm⟩
/-- behind a call: the callee's cells as it left them, in their places -/
theorem vm_join {A0 : Nat → Prop} {D : va_G} {cl : List vw_C} {ww wc w1 : va_W} {H H1 : Heap} (hP : va_P D cl ww H) (hD : va_D A0 ww) (is : List Nat) (hC : is.map (fun i => ww[i]?) = wc.map some) (h1 : w1.map (fun q => q.1) = wc.map (fun q => q.1))
    (hk : ∀ q : Nat, q < H.size → ¬ va_A wc H.size q → H1[q]? = H[q]?) (hP1 : va_P D cl w1 H1) : va_P D cl (vm_mg ww is w1) H1 ∧ va_D A0 (vm_mg ww is w1) := by
  have hlen : w1.length = wc.length := by have := congrArg List.length h1; simpa using this
  have haddr : ∀ (k : Nat) (q : Nat × va_E), (vm_mg ww is w1)[k]? = some q → ∃ q0 : Nat × va_E, ww[k]? = some q0 ∧ q0.1 = q.1 := by
    intro k q h
    rcases vm_mg_get is ww w1 k q h with ⟨j, h2, h3⟩ | ⟨h2, -⟩
    · obtain ⟨q0, h4, h5⟩ := vm_at' hC h2
      refine ⟨q0, h5, ?_⟩
      have h6 : (w1.map (fun q => q.1))[j]? = some q.1 := by rw [List.getElem?_map, h3]; rfl
      rw [h1, List.getElem?_map, h4] at h6
      exact Option.some.inj h6
    · exact ⟨q, h2, rfl⟩
  refine ⟨fun k q h => ?_, fun i j x z hi hj hxz => ?_, fun k q h => ?_⟩
  · rcases vm_mg_get is ww w1 k q h with ⟨j, h2, h3⟩ | ⟨h2, h3⟩
    · exact hP1 j q h3
    · refine (hP k q h2).kept (hk q.1 (hP k q h2).lt ?_)
      rintro (⟨k2, e2, h4⟩ | h4)
      · obtain ⟨i, h5, h6⟩ := vm_at hC h4
        have := hD.1 k i q (q.1, e2) h2 h6 rfl
        subst this
        have h7 := h3 k2 h5
        have h8 := (List.getElem?_eq_some_iff.mp h4).1
        omega
      · exact absurd (hP k q h2).lt (by omega)
  · obtain ⟨x0, a1, a2⟩ := haddr i x hi
    obtain ⟨z0, b1, b2⟩ := haddr j z hj
    exact hD.1 i j x0 z0 a1 b1 (by rw [a2, b2, hxz])
  · obtain ⟨x0, a1, a2⟩ := haddr k q h
    rw [← a2]
    exact hD.2 k x0 a1
theorem vm_fm {ww wc : va_W} : ∀ {is : List Nat}, is.map (fun i => ww[i]?) = wc.map some → is.filterMap (fun i => ww[i]?) = wc := by
  intro is
  induction is generalizing wc with
  | nil => intro h; cases wc with
    | nil => rfl
    | cons a b => simp at h
  | cons i is ih =>
    intro h
    cases wc with
    | nil => simp at h
    | cons a b =>
      simp only [List.map_cons, List.cons.injEq] at h
      rw [List.filterMap_cons, h.1, ih h.2]
section VMC
variable {p : Program} {l : Launch} {e : Env} {R : Room} {s : State} {m : MethodId} {args : Array Value} {below : List Frame} {meth : Method} {c : Code} {H : Heap} {locs : List Loc} {cells slots : Nat} {Q : State → Prop}
variable {y : MethodName} {bytes cc : ByteArray} {maxL nL n index : Nat} {ret : Option FieldType} {ws : List Cond} {rm : Room} {Ts : List Cond} {own C : String} {b : Addr} {As rest st0 : List Value} {pc : Nat} {ls : Array Slot} {D : va_G} {cI cB : ClassId} {ww wc w1 : va_W} {T : u_T} {N : Nat} {fs : List Value}
/-- a call that changes nothing and answers an int -/
theorem vm_roV {post : Int32 → Prop} (S : CallFix p m c cc nL s args Ts own) (hK : va_K D vwCl (vm_ty cI cB) s) (hN : vm_N s) (hP : va_P D vwCl ww H) (hsz : ls.size = nL) (hf : cells ≤ R.cells ∧ slots ≤ R.slots)
    (hM : Met l y ws rm (vm_pre (.ref b :: As) D wc cI cB) (vp_Si post) 0 0 (fun _ => False)) (cw : CallW R s args own C index y bytes maxL ret ws rm 0 0 n) (is : List Nat) (hC : is.map (fun i => ww[i]?) = wc.map some) (ci : Nat) (hr0 : wc[0]? = some (b, .inr (ci, fs))) (hcl : vwCl[ci]? = some (C, T, N)) (hn : As.length = n) (hst : st0 = As.reverse ++ .ref b :: rest) (hW : (rest.map fun v => v.category).sum ≤ 8) (hdg : decode cc pc = .ok (.invokevirtual index, 3))
    (kk : ∀ r : Int32, post r → W p l e R s m args below meth c H locs cells slots Q (F0 m (pc + 3) ls (.int r :: rest))) : W p l e R s m args below meth c H locs cells slots Q (F0 m pc ls st0) := by
  have hPc := hP.sub is (vm_fm hC)
  exact vp_callSi (W.runV S hM cw ⟨vm_blind, va_recv hK hPc hcl hr0, fun U hU hW => ⟨rfl, by rw [hU]; exact hPc, va_K.moved hW.alike hK, vm_N.warm hW hN⟩⟩ rfl hn hsz hst (lv_room hW) hdg ⟨hf.1, hf.2⟩) kk
/-- the same, a static method -/
theorem vm_roS {post : Int32 → Prop} (S : CallFix p m c cc nL s args Ts own) (hK : va_K D vwCl (vm_ty cI cB) s) (hN : vm_N s) (hP : va_P D vwCl ww H) (hsz : ls.size = nL) (hf : cells ≤ R.cells ∧ slots ≤ R.slots)
    (hM : Met l y ws rm (vm_pre As D [] cI cB) (vp_Si post) 0 0 (fun _ => False)) (cw : CallB R s args own index y bytes maxL ret ws rm 0 0 n ∧ (Cond.static y).before args s = true) (hn : As.length = n) (hst : st0 = As.reverse ++ rest) (hW : (rest.map fun v => v.category).sum ≤ 8) (hdg : decode cc pc = .ok (.invokestatic index, 3))
    (kk : ∀ r : Int32, post r → W p l e R s m args below meth c H locs cells slots Q (F0 m (pc + 3) ls (.int r :: rest))) : W p l e R s m args below meth c H locs cells slots Q (F0 m pc ls st0) := by
  exact vp_callSi (W.runS S hM cw ⟨vm_blind, fun U hU hW => ⟨rfl, fun k q h => by simp at h, va_K.moved hW.alike hK, vm_N.warm hW hN⟩⟩ rfl hn hsz hst (lv_room hW) hdg ⟨hf.1, hf.2⟩) kk
/-- a call that changes its cells and answers an int -/
theorem vm_rwV {post : Int32 → Unit → Prop} {A0 : Nat → Prop} {H0 : Heap} (S : CallFix p m c cc nL s args Ts own) (hK : va_K D vwCl (vm_ty cI cB) s) (hN : vm_N s) (hP : va_P D vwCl ww H) (hD : va_D A0 ww) (hS : va_S A0 H0 H locs) (hA : ∀ q, H0.size ≤ q → A0 q) (hsz : ls.size = nL) (hf : cells ≤ R.cells ∧ slots ≤ R.slots)
    (hM : Met l y ws rm (vm_prw (.ref b :: As) D wc cI cB H.size) (va_Qi post (fun _ t => va_P D vwCl w1 t.heap) (va_A wc H.size)) 0 0 (va_A wc H.size)) (cw : CallW R s args own C index y bytes maxL ret ws rm 0 0 n) (is : List Nat) (hC : is.map (fun i => ww[i]?) = wc.map some) (hnd : va_nd is = true) (h1 : w1.map (fun q => q.1) = wc.map (fun q => q.1)) (ci : Nat) (hr0 : wc[0]? = some (b, .inr (ci, fs))) (hcl : vwCl[ci]? = some (C, T, N)) (hn : As.length = n) (hst : st0 = As.reverse ++ .ref b :: rest) (hW : (rest.map fun v => v.category).sum ≤ 8) (hdg : decode cc pc = .ok (.invokevirtual index, 3))
    (kk : ∀ (r : Int32) (H1 : Heap) (locs1 : List Loc), post r () → va_P D vwCl (vm_mg ww is w1) H1 → va_D A0 (vm_mg ww is w1) → va_S A0 H0 H1 locs1 → W p l e R s m args below meth c H1 locs1 cells slots Q (F0 m (pc + 3) ls (.int r :: rest))) : W p l e R s m args below meth c H locs cells slots Q (F0 m pc ls st0) := by
  have hPc := hP.sub is (vm_fm hC)
  have hDc := hD.sub is hnd hC
  have hFc := va_free (wc := wc) hD hS hA is hC
  refine va_calli (va_runV S hM cw ⟨vm_blindw, va_recv hK hPc hcl hr0, fun U hU hW => ⟨rfl, by rw [hU], by rw [hU]; exact hPc, va_K.moved hW.alike hK, vm_N.warm hW hN, hDc.weaken (fun _ _ _ _ => trivial)⟩⟩ rfl hn hsz hst (lv_room hW) hdg ⟨hf.1, hf.2⟩) hS (fun q _ h => hFc q h) hFc (fun r u t H1 locs1 ht hvm hw hB hz1 hk1 hS1 => ?_)
  subst ht
  obtain ⟨hP2, hD2⟩ := vm_join hP hD is hC h1 hk1 hB
  exact kk r _ locs1 hw hP2 hD2 hS1
/-- a call that changes its cells and answers nothing -/
theorem vm_rwVv {A0 : Nat → Prop} {H0 : Heap} (S : CallFix p m c cc nL s args Ts own) (hK : va_K D vwCl (vm_ty cI cB) s) (hN : vm_N s) (hP : va_P D vwCl ww H) (hD : va_D A0 ww) (hS : va_S A0 H0 H locs) (hA : ∀ q, H0.size ≤ q → A0 q) (hsz : ls.size = nL) (hf : cells ≤ R.cells ∧ slots ≤ R.slots)
    (hM : Met l y ws rm (vm_prw (.ref b :: As) D wc cI cB H.size) (va_Qv (fun _ : Unit => True) (fun _ t => va_P D vwCl w1 t.heap) (va_A wc H.size)) 0 0 (va_A wc H.size)) (cw : CallW R s args own C index y bytes maxL ret ws rm 0 0 n) (is : List Nat) (hC : is.map (fun i => ww[i]?) = wc.map some) (hnd : va_nd is = true) (h1 : w1.map (fun q => q.1) = wc.map (fun q => q.1)) (ci : Nat) (hr0 : wc[0]? = some (b, .inr (ci, fs))) (hcl : vwCl[ci]? = some (C, T, N)) (hn : As.length = n) (hst : st0 = As.reverse ++ .ref b :: rest) (hW : (rest.map fun v => v.category).sum ≤ 8) (hdg : decode cc pc = .ok (.invokevirtual index, 3))
    (kk : ∀ (H1 : Heap) (locs1 : List Loc), va_P D vwCl (vm_mg ww is w1) H1 → va_D A0 (vm_mg ww is w1) → va_S A0 H0 H1 locs1 → W p l e R s m args below meth c H1 locs1 cells slots Q (F0 m (pc + 3) ls rest)) : W p l e R s m args below meth c H locs cells slots Q (F0 m pc ls st0) := by
  have hPc := hP.sub is (vm_fm hC)
  have hDc := hD.sub is hnd hC
  have hFc := va_free (wc := wc) hD hS hA is hC
  refine va_callv (va_runV S hM cw ⟨vm_blindw, va_recv hK hPc hcl hr0, fun U hU hW => ⟨rfl, by rw [hU], by rw [hU]; exact hPc, va_K.moved hW.alike hK, vm_N.warm hW hN, hDc.weaken (fun _ _ _ _ => trivial)⟩⟩ rfl hn hsz hst (lv_room hW) hdg ⟨hf.1, hf.2⟩) hS (fun q _ h => hFc q h) hFc (fun u t H1 locs1 ht hvm hw hB hz1 hk1 hS1 => ?_)
  subst ht
  obtain ⟨hP2, hD2⟩ := vm_join hP hD is hC h1 hk1 hB
  exact kk _ locs1 hP2 hD2 hS1
end VMC
/-- an index that was looked at -/
theorem vm_in {i b : Int32} {n : Nat} (h0 : 0 ≤ i) (h1 : i < b) (hb : b.toInt ≤ (n : Int)) : vp_in i n := by
  intro h
  rcases h with h | h
  · exact absurd h0 (by rw [Int32.not_le]; exact h)
  · have a1 := Int32.le_iff_toInt_le.mp h0
    have a2 := Int32.lt_iff_toInt_lt.mp h1
    have a3 : i.toNatClampNeg = i.toInt.toNat := rfl
    rw [a3] at h
    have a4 : (0 : Int32).toInt = 0 := rfl
    omega
theorem vm_nlt {a b : Int32} (h : ¬ a < b) : b ≤ a := Int32.not_lt.mp h
theorem vm_nle {a b : Int32} (h : ¬ a ≤ b) : b < a := Int32.not_le.mp h
/-- a counter that goes up -/
theorem vm_up1 {i b : Int32} (h : i < b) : (i + 1).toInt = i.toInt + 1 := by
  have a1 := Int32.lt_iff_toInt_lt.mp h
  have a2 := b.toInt_lt
  have a3 := i.le_toInt
  rw [Int32.toInt_add]
  have a4 : (1 : Int32).toInt = 1 := rfl
  rw [a4]
  apply Int.bmod_eq_of_le <;> omega
theorem vm_up {i b : Int32} {n : Nat} (h : i < b) (hn : (b.toInt - i.toInt).toNat < n + 1) : (b.toInt - (i + 1).toInt).toNat < n := by
  have a1 := Int32.lt_iff_toInt_lt.mp h
  rw [vm_up1 h]
  omega
theorem vm_nn {i b : Int32} (h0 : 0 ≤ i) (h : i < b) : 0 ≤ i + 1 := by
  rw [Int32.le_iff_toInt_le, vm_up1 h]
  have a1 := Int32.le_iff_toInt_le.mp h0
  have a2 : (0 : Int32).toInt = 0 := rfl
  omega
/-- a counter that goes down -/
theorem vm_dn1 {i : Int32} (h : 0 ≤ i) : (i - 1).toInt = i.toInt - 1 := by
  have a1 := Int32.le_iff_toInt_le.mp h
  have a0 : (0 : Int32).toInt = 0 := rfl
  have a2 := i.toInt_lt
  rw [Int32.toInt_sub]
  have a4 : (1 : Int32).toInt = 1 := rfl
  rw [a4]
  apply Int.bmod_eq_of_le <;> omega
theorem vm_dn {i : Int32} {n : Nat} (h : 0 ≤ i) (hn : (i.toInt + 1).toNat < n + 1) : ((i - 1).toInt + 1).toNat < n := by
  have a1 := Int32.le_iff_toInt_le.mp h
  have a0 : (0 : Int32).toInt = 0 := rfl
  rw [vm_dn1 h]
  omega
theorem vm_len {n : Nat} (h : (n : Int) ≤ 2147483647) : (Int32.ofNat n).toInt ≤ (n : Int) := by
  rw [Int32.toInt_ofNat_of_lt (by omega)]
  exact Int.le_refl _
